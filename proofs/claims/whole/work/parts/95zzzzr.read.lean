/-! read: figures, both sides at once -/
section Rea1
variable {q : Nat × (Nat → Int32)} {x p : Int} {t : Int → Int} {n : Nat}
/-- the TRAY's first x octets, as the class has them and as the reference -/
def TC (A : ms) (x : Int) (t : Int → Int) : Prop := ∀ k : Int, 0 ≤ k → k < x → (0 ≤ t k ∧ t k < 256) ∧ A.1 2 k = t k
def TM (B : ms) (x : Int) (t : Int → Int) : Prop := ∀ k : Int, 0 ≤ k → k < x → (0 ≤ t k ∧ t k < 256) ∧ B.1 368 k = b8 (t k)
def evF (c : Nat) (v : Int) : Int := if c = 0 then -1 else v
theorem eg1 (h0 : 0 ≤ p) (h1 : p + n ≤ x) (hx : x ≤ 6000) : ∀ (d i : Nat), i + d = n → ∃ j : Nat, j ≤ n ∧ (∀ A : ms, TC A x t → ∀ (r : Option Value) (T : ms), EV q 196 23 [some (.ref 2), some (vI p), some (vI n), some (vI j), none, none] [] A r T → EV q 196 2 [some (.ref 2), some (vI p), some (vI n), some (vI i), none, none] [] A r T) ∧ ∀ B : ms, TM B x t → ∀ (r : Option Value) (T : ms), EV q 394 26 [some (.ref 367), some (vI p), some (vI n), some (vI (p + j)), none, none, none, none] [] B r T → EV q 394 2 [some (.ref 367), some (vI p), some (vI n), some (vI (p + i)), none, none, none, none] [] B r T := by
  intro d
  induction d with
  | zero =>
    intro i hi
    have e : i = n := by omega
    subst e
    exact ⟨i, Nat.le_refl _, fun A hA r T k => vc_Shelf_eights_2 _ _ _ 2 6000 sh_2 (cY (Int.le_refl _) k), fun B hB r T k => vc_MD_eights_2 _ _ _ (cY (Int.le_refl _) k)⟩
  | succ d ih =>
    intro i hi
    have wn : Unit → w32 ((n : Nat) : Int) = n := fun _ => w32_of (by omega)
    have wi : Unit → w32 ((i : Nat) : Int) = i := fun _ => w32_of (by omega)
    have wpi : Unit → w32 (p + (i : Int)) = p + i := fun _ => w32_of (by omega)
    have wpn : Unit → w32 (p + (n : Int)) = p + n := fun _ => w32_of (by omega)
    have ei : ((i + 1 : Nat) : Int) = (i : Int) + 1 := by omega
    by_cases c : t (p + i) = 32
    · obtain ⟨j, j1, j2, j3⟩ := ih (i + 1) (by omega)
      refine ⟨j, j1, fun A hA r T k => vc_Shelf_eights_2 _ _ _ 2 6000 sh_2 ?_, fun B hB r T k => vc_MD_eights_2 _ _ _ ?_⟩
      · have ht := hA (p + i) (by omega) (by omega)
        have k2 := j2 A hA r T k
        rw [ei] at k2
        rw [wn (), wi (), wpi (), ht.2, c]
        exact cNo (by omega) ⟨by omega, cNN (by decide) k2⟩
      · have ht := hB (p + i) (by omega) (by omega)
        have k2 := j3 B hB r T k
        rw [ei, ← Int.add_assoc] at k2
        rw [wpn (), wpi (), ht.2]
        exact cNo (by omega) ⟨by omega, cNN ((b8_is ht.1 (by decide)).2 c) k2⟩
    · refine ⟨i, by omega, fun A hA r T k => vc_Shelf_eights_2 _ _ _ 2 6000 sh_2 ?_, fun B hB r T k => vc_MD_eights_2 _ _ _ ?_⟩
      · have ht := hA (p + i) (by omega) (by omega)
        have wt : w32 (t (p + i)) = t (p + i) := w32_of (by omega)
        rw [wn (), wi (), wpi (), ht.2, wt]
        exact cNo (by omega) ⟨by omega, cY c k⟩
      · have ht := hB (p + i) (by omega) (by omega)
        rw [wpn (), wpi (), ht.2]
        exact cNo (by omega) ⟨by omega, cY (fun y => c ((b8_is ht.1 (by decide)).1 y)) k⟩
theorem p8_le {c : Nat} (h : c ≤ 12) : (8 : Int) ^ c ≤ 68719476736 := by
  have : ∀ c : Fin 13, (8 : Int) ^ c.1 ≤ 68719476736 := by decide
  exact this ⟨c, by omega⟩
theorem eg2 (h0 : 0 ≤ p) (h1 : p + n ≤ x) (hx : x ≤ 6000) (hn : n ≤ 12) : ∀ (d i c : Nat) (v : Int), i + d = n → c ≤ i → (0 ≤ v ∧ v < (8 : Int) ^ c) → ∃ (j c' : Nat) (v' : Int), j ≤ n ∧ c' ≤ n ∧ (0 ≤ v' ∧ v' < (8 : Int) ^ c') ∧ (∀ A : ms, TC A x t → ∀ (r : Option Value) (T : ms), EV q 196 82 [some (.ref 2), some (vI p), some (vI n), some (vI j), some (vL (evF c' v')), none] [] A r T → EV q 196 28 [some (.ref 2), some (vI p), some (vI n), some (vI i), some (vL (evF c v)), none] [] A r T) ∧ ∀ B : ms, TM B x t → ∀ (r : Option Value) (T : ms), EV q 394 84 [some (.ref 367), some (vI p), some (vI n), some (vI (p + j)), some (vL v'), none, some (vI c'), none] [] B r T → EV q 394 32 [some (.ref 367), some (vI p), some (vI n), some (vI (p + i)), some (vL v), none, some (vI c), none] [] B r T := by
  intro d
  induction d with
  | zero =>
    intro i c v hi hc hv
    have e : i = n := by omega
    subst e
    exact ⟨i, c, v, Nat.le_refl _, hc, hv, fun A hA r T k => vc_Shelf_eights_28 _ _ _ _ 2 6000 sh_2 (cY (Int.le_refl _) k), fun B hB r T k => vc_MD_eights_32 _ _ _ _ _ (cY (Int.le_refl _) k)⟩
  | succ d ih =>
    intro i c v hi hc hv
    have wn : Unit → w32 ((n : Nat) : Int) = n := fun _ => w32_of (by omega)
    have wi : Unit → w32 ((i : Nat) : Int) = i := fun _ => w32_of (by omega)
    have wpi : Unit → w32 (p + (i : Int)) = p + i := fun _ => w32_of (by omega)
    have wpn : Unit → w32 (p + (n : Int)) = p + n := fun _ => w32_of (by omega)
    have ei : ((i + 1 : Nat) : Int) = (i : Int) + 1 := by omega
    have ec : ((c + 1 : Nat) : Int) = (c : Int) + 1 := by omega
    have p8 := p8_le (show c ≤ 12 by omega)
    by_cases c1 : 48 ≤ t (p + i) ∧ t (p + i) < 56
    · obtain ⟨v1, ev1⟩ : ∃ v1 : Int, v1 = v * 8 + t (p + i) - 48 := ⟨_, rfl⟩
      obtain ⟨j, c', v', j1, j2, j3, j4, j5⟩ := ih (i + 1) (c + 1) v1 (by omega) (by omega) (by rw [Int.pow_succ]; omega)
      have em : max (w64 (evF c v)) (w64 0) = v := by
        unfold evF
        by_cases z : c = 0
        · subst z
          rw [if_pos rfl, show w64 (-1) = -1 by decide, show w64 0 = 0 by decide]
          have := hv.2
          rw [show (8 : Int) ^ 0 = 1 by decide] at this
          omega
        · rw [if_neg z, w64_of (by omega), show w64 0 = 0 by decide]
          omega
      refine ⟨j, c', v', j1, j2, j3, fun A hA r T k => vc_Shelf_eights_28 _ _ _ _ 2 6000 sh_2 ?_, fun B hB r T k => vc_MD_eights_32 _ _ _ _ _ ?_⟩
      · have ht := hA (p + i) (by omega) (by omega)
        have wt : w32 (t (p + i)) = t (p + i) := w32_of (by omega)
        have k2 := j4 A hA r T k
        rw [ei, show evF (c + 1) v1 = v1 from if_neg (by omega), ev1] at k2
        rw [wn (), wi (), wpi (), ht.2, wt, em]
        exact cNo (by omega) ⟨by omega, cNo (by omega) ⟨by omega, cNo (by omega) ⟨by omega, k2⟩⟩⟩
      · have ht := hB (p + i) (by omega) (by omega)
        have b : b8 (t (p + i)) = t (p + i) := b8_of (by omega)
        have wt : w32 (t (p + i)) = t (p + i) := w32_of (by omega)
        have k2 := j5 B hB r T k
        rw [ei, ← Int.add_assoc, ev1, ec, show v * 8 + t (p + i) - 48 = 8 * v + t (p + i) - 48 by omega] at k2
        rw [wpn (), wpi (), ht.2, b]
        refine cNo (by omega) ⟨by omega, 1, B, vc_MD_in _ _ _ ?_, cNo (by decide) ⟨by omega, ?_⟩⟩
        · rw [wt, show w32 48 = 48 by decide, show w32 55 = 55 by decide]
          exact cNo (by omega) (cNo (by omega) ⟨rfl, rfl⟩)
        · rw [ht.2, b, wt]
          exact k2
    · refine ⟨i, c, v, by omega, by omega, hv, fun A hA r T k => vc_Shelf_eights_28 _ _ _ _ 2 6000 sh_2 ?_, fun B hB r T k => vc_MD_eights_32 _ _ _ _ _ ?_⟩
      · have ht := hA (p + i) (by omega) (by omega)
        have wt : w32 (t (p + i)) = t (p + i) := w32_of (by omega)
        rw [wn (), wi (), wpi (), ht.2, wt]
        refine cNo (by omega) ⟨by omega, ?_⟩
        by_cases z : t (p + i) < 48
        · exact cY z k
        · exact cNo z ⟨by omega, cY (by omega) k⟩
      · have ht := hB (p + i) (by omega) (by omega)
        have wb : w32 (b8 (t (p + i))) = b8 (t (p + i)) := w32_of (by have := b8_rg (t (p + i)); omega)
        rw [wpn (), wpi (), ht.2]
        refine cNo (by omega) ⟨by omega, 0, B, vc_MD_in _ _ _ ?_, cY (by decide) k⟩
        rw [wb, show w32 48 = 48 by decide, show w32 55 = 55 by decide]
        by_cases z : b8 (t (p + i)) < 48
        · exact cY z ⟨rfl, rfl⟩
        · refine cNo z (cY ?_ ⟨rfl, rfl⟩)
          unfold b8 at z ⊢
          omega
theorem jeig (h0 : 0 ≤ p) (h1 : p + n ≤ x) (hx : x ≤ 6000) (hn : n ≤ 12) : ∃ v : Int, (-1 ≤ v ∧ v < 68719476736) ∧ (∀ A : ms, TC A x t → EV q 196 0 [some (.ref 2), some (vI p), some (vI n), none, none, none] [] A (some (vL v)) A) ∧ ∀ B : ms, TM B x t → EV q 394 0 [some (.ref 367), some (vI p), some (vI n), none, none, none, none, none] [] B (some (vL v)) B := by
  obtain ⟨i, i1, i2, i3⟩ := eg1 (q := q) (t := t) h0 h1 hx n 0 (by omega)
  obtain ⟨j, c, v, j1, j2, j3, j4, j5⟩ := eg2 (q := q) (t := t) h0 h1 hx hn (n - i) i 0 0 (by omega) (by omega) (by decide)
  have p8 := p8_le (show c ≤ 12 by omega)
  have wn : Unit → w32 ((n : Nat) : Int) = n := fun _ => w32_of (by omega)
  have wj : Unit → w32 ((j : Nat) : Int) = j := fun _ => w32_of (by omega)
  have wc : Unit → w32 ((c : Nat) : Int) = c := fun _ => w32_of (by omega)
  have wpj : Unit → w32 (p + (j : Int)) = p + j := fun _ => w32_of (by omega)
  have wpn : Unit → w32 (p + (n : Int)) = p + n := fun _ => w32_of (by omega)
  have e0 : p + ((0 : Nat) : Int) = p := Int.add_zero p
  have hev : -1 ≤ evF c v ∧ evF c v < 68719476736 := by
    unfold evF
    split <;> omega
  -- the reference's end
  have m116 : ∀ (B : ms) (y0 : Int), (y0 = 0 ∨ y0 = 1) → EV q 394 116 [some (.ref 367), some (vI p), some (vI n), some (vI (p + j)), some (vL v), none, some (vI c), none] [vI y0] B (some (vL (if y0 = 1 then evF c v else -1))) B := by
    intro B y0 hy
    refine vc_MD_eights_116 _ _ _ _ _ _ ?_
    rw [wc ()]
    by_cases z : c = 0
    · have : (if y0 = 1 then evF c v else -1) = -1 := by
        unfold evF
        rw [if_pos z]
        split <;> rfl
      rw [this]
      exact cY (by omega) ⟨rfl, rfl⟩
    · have e2 : evF c v = v := if_neg z
      rw [e2]
      rcases hy with rfl | rfl
      · exact cNo (by omega) (cY (by decide) ⟨rfl, rfl⟩)
      · exact cNo (by omega) (cNo (by decide) ⟨rfl, rfl⟩)
  have cst : ∀ (R : Int), (∀ A : ms, TC A x t → EV q 196 82 [some (.ref 2), some (vI p), some (vI n), some (vI j), some (vL (evF c v)), none] [] A (some (vL R)) A) → ∀ A : ms, TC A x t → EV q 196 0 [some (.ref 2), some (vI p), some (vI n), none, none, none] [] A (some (vL R)) A := fun R h A hA => vc_Shelf_eights _ _ 2 6000 sh_2 (i2 A hA _ _ (vc_Shelf_eights_23 _ _ _ 2 6000 sh_2 (j4 A hA _ _ (h A hA))))
  have mst : ∀ (R : Int), (∀ B : ms, TM B x t → EV q 394 84 [some (.ref 367), some (vI p), some (vI n), some (vI (p + j)), some (vL v), none, some (vI c), none] [] B (some (vL R)) B) → ∀ B : ms, TM B x t → EV q 394 0 [some (.ref 367), some (vI p), some (vI n), none, none, none, none, none] [] B (some (vL R)) B := fun R h B hB => by
    have k := i3 B hB _ _ (vc_MD_eights_26 _ _ _ (j5 B hB _ _ (h B hB)))
    rw [e0] at k
    exact vc_MD_eights _ _ k
  by_cases ok : j = n ∨ t (p + j) = 0 ∨ t (p + j) = 32
  · refine ⟨evF c v, hev, cst _ (fun A hA => vc_Shelf_eights_82 _ _ _ _ 2 6000 sh_2 ?_), mst _ (fun B hB => vc_MD_eights_84 _ _ _ _ _ ?_)⟩
    · have k105 : EV q 196 105 [some (.ref 2), some (vI p), some (vI n), some (vI j), some (vL (evF c v)), none] [] A (some (vL (evF c v))) A := vc_Shelf_eights_105 _ _ _ _ 2 6000 sh_2 ⟨rfl, rfl⟩
      rw [wn (), wj (), wpj ()]
      by_cases z : (j : Int) = n
      · exact cY z k105
      · have ht := hA (p + j) (by omega) (by omega)
        have wt : w32 (t (p + j)) = t (p + j) := w32_of (by omega)
        rw [ht.2, wt]
        refine cNo z ⟨by omega, ?_⟩
        by_cases z0 : t (p + j) = 0
        · exact cY z0 k105
        · exact cNo z0 ⟨by omega, cNN (by omega) k105⟩
    · have k111 : EV q 394 111 [some (.ref 367), some (vI p), some (vI n), some (vI (p + j)), some (vL v), none, some (vI c), none] [] B (some (vL (evF c v))) B := vc_MD_eights_111 _ _ _ _ _ (m116 B 1 (Or.inr rfl))
      rw [wpn (), wpj ()]
      by_cases z : p + (j : Int) = p + n
      · exact cY z k111
      · have ht := hB (p + j) (by omega) (by omega)
        rw [ht.2]
        refine cNo z ⟨by omega, ?_⟩
        by_cases z0 : t (p + j) = 0
        · exact cY ((b8_is ht.1 (by decide)).2 z0) k111
        · exact cNo (fun y => z0 ((b8_is ht.1 (by decide)).1 y)) ⟨by omega, cNN ((b8_is ht.1 (by decide)).2 (by omega)) k111⟩
  · have hj : j < n := by omega
    refine ⟨-1, by omega, cst _ (fun A hA => vc_Shelf_eights_82 _ _ _ _ 2 6000 sh_2 ?_), mst _ (fun B hB => vc_MD_eights_84 _ _ _ _ _ ?_)⟩
    · have ht := hA (p + j) (by omega) (by omega)
      have wt : w32 (t (p + j)) = t (p + j) := w32_of (by omega)
      rw [wn (), wj (), wpj (), ht.2, wt]
      exact cNo (by omega) ⟨by omega, cNo (by omega) ⟨by omega, cY (by omega) ⟨rfl, rfl⟩⟩⟩
    · have ht := hB (p + j) (by omega) (by omega)
      rw [wpn (), wpj (), ht.2]
      exact cNo (by omega) ⟨by omega, cNo (fun y => ok (Or.inr (Or.inl ((b8_is ht.1 (by decide)).1 y)))) ⟨by omega, cY (fun y => ok (Or.inr (Or.inr ((b8_is ht.1 (by decide)).1 y)))) (m116 B 0 (Or.inl rfl))⟩⟩
end Rea1
