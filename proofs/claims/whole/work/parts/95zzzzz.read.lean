/-! read: a BENCH's figures and labels, both sides at once -/
section Rea9
variable {q : Nat × (Nat → Int32)} {x p b : Int} {t : Int → Int} {n : Nat}
theorem p10_le {c : Nat} (h : c ≤ 12) : (10 : Int) ^ c ≤ 1000000000000 := by
  have : ∀ c : Fin 13, (10 : Int) ^ c.1 ≤ 1000000000000 := by decide
  exact this ⟨c, by omega⟩
theorem fg1 (h0 : 0 ≤ p) (h1 : p + n ≤ x) (hx : x ≤ 6000) (hn : n ≤ 12) (hb : b = 8 ∨ b = 10) : ∀ (d i : Nat) (v : Int), i + d = n → (0 ≤ v ∧ v < (10 : Int) ^ i) → ∃ (j : Nat) (v' : Int), j ≤ n ∧ (0 ≤ v' ∧ v' < (10 : Int) ^ j) ∧ (∀ A : ms, TC A x t → ∀ (r : Option Value) (T : ms), EV q 201 67 [some (.ref 2), some (vI p), some (vI n), some (vI b), some (vL (evF j v')), none, some (vI j)] [] A r T → EV q 201 8 [some (.ref 2), some (vI p), some (vI n), some (vI b), some (vL (evF i v)), none, some (vI i)] [] A r T) ∧ ∀ B : ms, TM B x t → ∀ (r : Option Value) (T : ms), EV q 399 63 [some (.ref 367), some (vI p), some (vI n), some (vI b), some (vI j), some (vL v'), none, none, none] [] B r T → EV q 399 6 [some (.ref 367), some (vI p), some (vI n), some (vI b), some (vI i), some (vL v), none, none, none] [] B r T := by
  have wb : w32 b = b := w32_of (by omega)
  have w48 : w32 (48 + b) = 48 + b := w32_of (by omega)
  have w47 : w32 (48 + b - 1) = 48 + b - 1 := w32_of (by omega)
  intro d
  induction d with
  | zero =>
    intro i v hi hv
    have e : i = n := by omega
    subst e
    exact ⟨i, v, Nat.le_refl _, hv, fun A hA r T k => vc_Shelf_figures_8 _ _ _ _ _ 2 6000 sh_2 (cY (Int.le_refl _) k), fun B hB r T k => vc_MD_spaced_6 _ _ _ _ _ (cY (Int.le_refl _) k)⟩
  | succ d ih =>
    intro i v hi hv
    have wn : Unit → w32 ((n : Nat) : Int) = n := fun _ => w32_of (by omega)
    have wi : Unit → w32 ((i : Nat) : Int) = i := fun _ => w32_of (by omega)
    have wpi : Unit → w32 (p + (i : Int)) = p + i := fun _ => w32_of (by omega)
    have ei : ((i + 1 : Nat) : Int) = (i : Int) + 1 := by omega
    have p10 := p10_le (show i ≤ 12 by omega)
    by_cases c1 : 48 ≤ t (p + i) ∧ t (p + i) < 48 + b
    · obtain ⟨v1, ev1⟩ : ∃ v1 : Int, v1 = v * b + t (p + i) - 48 := ⟨_, rfl⟩
      have ev2 : b * v + t (p + i) - 48 = v1 := by rw [ev1, Int.mul_comm]
      have hv1 : 0 ≤ v1 ∧ v1 < (10 : Int) ^ (i + 1) := by
        rw [Int.pow_succ, ev1]
        rcases hb with rfl | rfl <;> omega
      obtain ⟨j, v', j1, j3, j4, j5⟩ := ih (i + 1) v1 (by omega) hv1
      have em : max (w64 (evF i v)) (w64 0) = v := by
        unfold evF
        by_cases z : i = 0
        · subst z
          rw [if_pos rfl, show w64 (-1) = -1 by decide, show w64 0 = 0 by decide]
          have := hv.2
          rw [show (10 : Int) ^ 0 = 1 by decide] at this
          omega
        · rw [if_neg z, w64_of (by omega), show w64 0 = 0 by decide]
          omega
      refine ⟨j, v', j1, j3, fun A hA r T k => vc_Shelf_figures_8 _ _ _ _ _ 2 6000 sh_2 ?_, fun B hB r T k => vc_MD_spaced_6 _ _ _ _ _ ?_⟩
      · have ht := hA (p + i) (by omega) (by omega)
        have wt : w32 (t (p + i)) = t (p + i) := w32_of (by omega)
        have k2 := j4 A hA r T k
        rw [ei, show evF (i + 1) v1 = v1 from if_neg (by omega), ev1] at k2
        rw [wn (), wi (), wpi (), ht.2, wt, em, wb, w48]
        exact cNo (by omega) ⟨by omega, cNo (by omega) ⟨by omega, cNo (by omega) ⟨by omega, k2⟩⟩⟩
      · have ht := hB (p + i) (by omega) (by omega)
        have b8e : b8 (t (p + i)) = t (p + i) := b8_of (by omega)
        have wt : w32 (t (p + i)) = t (p + i) := w32_of (by omega)
        have k2 := j5 B hB r T k
        rw [ei, ← ev2] at k2
        rw [wn (), wi (), wpi (), ht.2, b8e]
        refine cNo (by omega) ⟨by omega, 1, B, vc_MD_in _ _ _ ?_, cNo (by decide) ⟨by omega, ?_⟩⟩
        · rw [wt, show w32 48 = 48 by decide, w47]
          exact cNo (by omega) (cNo (by omega) ⟨rfl, rfl⟩)
        · rw [ht.2, b8e, wt, wb]
          exact k2
    · refine ⟨i, v, by omega, hv, fun A hA r T k => vc_Shelf_figures_8 _ _ _ _ _ 2 6000 sh_2 ?_, fun B hB r T k => vc_MD_spaced_6 _ _ _ _ _ ?_⟩
      · have ht := hA (p + i) (by omega) (by omega)
        have wt : w32 (t (p + i)) = t (p + i) := w32_of (by omega)
        rw [wn (), wi (), wpi (), ht.2, wt, w48]
        refine cNo (by omega) ⟨by omega, ?_⟩
        by_cases z : t (p + i) < 48
        · exact cY z k
        · exact cNo z ⟨by omega, cY (by omega) k⟩
      · have ht := hB (p + i) (by omega) (by omega)
        have wb8 : w32 (b8 (t (p + i))) = b8 (t (p + i)) := w32_of (by have := b8_rg (t (p + i)); omega)
        rw [wn (), wi (), wpi (), ht.2]
        refine cNo (by omega) ⟨by omega, 0, B, vc_MD_in _ _ _ ?_, cY (by decide) k⟩
        rw [wb8, show w32 48 = 48 by decide, w47]
        by_cases z : b8 (t (p + i)) < 48
        · exact cY z ⟨rfl, rfl⟩
        · refine cNo z (cY ?_ ⟨rfl, rfl⟩)
          unfold b8 at z ⊢
          omega
/-- the reference, once it is not good -/
theorem fg0 {B : ms} {j : Nat} {v : Int} (h0 : 0 ≤ p) (hn : n ≤ 12) : ∀ (d i : Nat), i + d = n → EV q 399 79 [some (.ref 367), some (vI p), some (vI n), some (vI b), some (vI j), some (vL v), none, some (vI 0), some (vI i)] [] B (some (vL (-1))) B := by
  intro d
  induction d with
  | zero =>
    intro i hi
    have e : i = n := by omega
    subst e
    exact vc_MD_spaced_79 _ _ _ _ _ _ _ (cY (Int.le_refl _) (cY (by decide) ⟨rfl, rfl⟩))
  | succ d ih =>
    intro i hi
    have wn : Unit → w32 ((n : Nat) : Int) = n := fun _ => w32_of (by omega)
    have wi : Unit → w32 ((i : Nat) : Int) = i := fun _ => w32_of (by omega)
    have k := ih (i + 1) (by omega)
    rw [show ((i + 1 : Nat) : Int) = (i : Int) + 1 by omega] at k
    refine vc_MD_spaced_79 _ _ _ _ _ _ _ ?_
    rw [wn (), wi ()]
    exact cNo (by omega) (cY (by decide) (vc_MD_spaced_108 _ _ _ _ _ _ _ (vc_MD_spaced_109 _ _ _ _ _ _ _ _ k)))
theorem fg2 {j : Nat} {v : Int} (h0 : 0 ≤ p) (h1 : p + n ≤ x) (hx : x ≤ 6000) (hn : n ≤ 12) : ∀ (d i : Nat), i + d = n → ∃ R : Int, (R = v ∨ R = -1) ∧ (∀ A : ms, TC A x t → EV q 201 67 [some (.ref 2), some (vI p), some (vI n), some (vI b), some (vL v), none, some (vI i)] [] A (some (vL R)) A) ∧ ∀ B : ms, TM B x t → EV q 399 79 [some (.ref 367), some (vI p), some (vI n), some (vI b), some (vI j), some (vL v), none, some (vI 1), some (vI i)] [] B (some (vL R)) B := by
  intro d
  induction d with
  | zero =>
    intro i hi
    have e : i = n := by omega
    subst e
    exact ⟨v, Or.inl rfl, fun A hA => vc_Shelf_figures_67 _ _ _ _ _ 2 6000 sh_2 (cY (Int.le_refl _) (vc_Shelf_figures_90 _ _ _ _ _ 2 6000 sh_2 (cNN rfl ⟨rfl, rfl⟩))), fun B hB => vc_MD_spaced_79 _ _ _ _ _ _ _ (cY (Int.le_refl _) (cNo (by decide) ⟨rfl, rfl⟩))⟩
  | succ d ih =>
    intro i hi
    have wn : Unit → w32 ((n : Nat) : Int) = n := fun _ => w32_of (by omega)
    have wi : Unit → w32 ((i : Nat) : Int) = i := fun _ => w32_of (by omega)
    have wpi : Unit → w32 (p + (i : Int)) = p + i := fun _ => w32_of (by omega)
    have ei : ((i + 1 : Nat) : Int) = (i : Int) + 1 := by omega
    by_cases c : t (p + i) = 32
    · obtain ⟨R, r1, r2, r3⟩ := ih (i + 1) (by omega)
      refine ⟨R, r1, fun A hA => vc_Shelf_figures_67 _ _ _ _ _ 2 6000 sh_2 ?_, fun B hB => vc_MD_spaced_79 _ _ _ _ _ _ _ ?_⟩
      · have ht := hA (p + i) (by omega) (by omega)
        have k2 := r2 A hA
        rw [ei] at k2
        rw [wn (), wi (), wpi (), ht.2, c]
        exact cNo (by omega) ⟨by omega, cNN (by decide) k2⟩
      · have ht := hB (p + i) (by omega) (by omega)
        have k2 := r3 B hB
        rw [ei] at k2
        rw [wn (), wi (), wpi (), ht.2]
        exact cNo (by omega) (cNo (by decide) ⟨by omega, cNN ((b8_is ht.1 (by decide)).2 c) (vc_MD_spaced_109 _ _ _ _ _ _ _ _ k2)⟩)
    · refine ⟨-1, Or.inr rfl, fun A hA => vc_Shelf_figures_67 _ _ _ _ _ 2 6000 sh_2 ?_, fun B hB => vc_MD_spaced_79 _ _ _ _ _ _ _ ?_⟩
      · have ht := hA (p + i) (by omega) (by omega)
        have wt : w32 (t (p + i)) = t (p + i) := w32_of (by omega)
        have k90 : EV q 201 90 [some (.ref 2), some (vI p), some (vI n), some (vI b), some (vL v), none, some (vI i)] [] A (some (vL (-1))) A := by
          refine vc_Shelf_figures_90 _ _ _ _ _ 2 6000 sh_2 ?_
          rw [wn (), wi ()]
          exact cY (by omega) ⟨rfl, rfl⟩
        rw [wn (), wi (), wpi (), ht.2, wt]
        exact cNo (by omega) ⟨by omega, cY c k90⟩
      · have ht := hB (p + i) (by omega) (by omega)
        have k2 := fg0 (q := q) (p := p) (b := b) (n := n) (B := B) (j := j) (v := v) h0 hn d (i + 1) (by omega)
        rw [ei] at k2
        rw [wn (), wi (), wpi (), ht.2]
        exact cNo (by omega) (cNo (by decide) ⟨by omega, cY (fun y => c ((b8_is ht.1 (by decide)).1 y)) (vc_MD_spaced_108 _ _ _ _ _ _ _ (vc_MD_spaced_109 _ _ _ _ _ _ _ _ k2))⟩)
theorem jfig (h0 : 0 ≤ p) (h1 : p + n ≤ x) (hx : x ≤ 6000) (hn : n ≤ 12) (hb : b = 8 ∨ b = 10) : ∃ v : Int, (-1 ≤ v ∧ v < 1000000000000) ∧ (∀ A : ms, TC A x t → EV q 201 0 [some (.ref 2), some (vI p), some (vI n), some (vI b), none, none, none] [] A (some (vL v)) A) ∧ ∀ B : ms, TM B x t → EV q 399 0 [some (.ref 367), some (vI p), some (vI n), some (vI b), none, none, none, none, none] [] B (some (vL v)) B := by
  obtain ⟨j, v, j1, j2, j3, j4⟩ := fg1 (q := q) (t := t) h0 h1 hx hn hb n 0 0 (by omega) (by decide)
  have p10 := p10_le (show j ≤ 12 by omega)
  have wj : Unit → w32 ((j : Nat) : Int) = j := fun _ => w32_of (by omega)
  by_cases z : j = 0
  · -- no figure
    have e : evF j v = -1 := if_pos z
    obtain ⟨R, r1, r2, _⟩ := fg2 (q := q) (t := t) (b := b) (j := j) (v := -1) h0 h1 hx hn (n - j) j (by omega)
    have eR : R = -1 := by omega
    subst eR
    refine ⟨-1, by omega, fun A hA => vc_Shelf_figures _ _ _ 2 6000 sh_2 (j3 A hA _ _ (by rw [e]; exact r2 A hA)), fun B hB => vc_MD_spaced _ _ _ (j4 B hB _ _ (vc_MD_spaced_63 _ _ _ _ _ ?_))⟩
    rw [wj ()]
    exact cY (by omega) (vc_MD_spaced_73 _ _ _ _ _ _ (fg0 h0 hn (n - j) j (by omega)))
  · have e : evF j v = v := if_neg z
    obtain ⟨R, r1, r2, r3⟩ := fg2 (q := q) (t := t) (b := b) (j := j) (v := v) h0 h1 hx hn (n - j) j (by omega)
    refine ⟨R, by omega, fun A hA => vc_Shelf_figures _ _ _ 2 6000 sh_2 (j3 A hA _ _ (by rw [e]; exact r2 A hA)), fun B hB => vc_MD_spaced _ _ _ (j4 B hB _ _ (vc_MD_spaced_63 _ _ _ _ _ ?_))⟩
    rw [wj ()]
    exact cNo (by omega) (vc_MD_spaced_73 _ _ _ _ _ _ (r3 B hB))
/-- as far as the first stroke, at most 16 -/
def stR (t : Int → Int) (p : Int) (l : Nat) : Prop := l ≤ 16 ∧ (∀ k : Nat, k < l → t (p + k) ≠ 47) ∧ (l < 16 → t (p + l) = 47)
theorem md_st (h0 : 0 ≤ p) (h1 : p + 60 ≤ x) (hx : x ≤ 6000) : ∃ l : Nat, stR t p l ∧ ∀ B : ms, TM B x t → ∀ (x2 x4 x6 : Int) (r : Option Value) (T : ms), EV q 398 165 [some (.ref 367), some (vI p), some (vL x2), none, some (vL x4), none, some (vL x6), none, some (vI l), none, none, none] [] B r T → EV q 398 138 [some (.ref 367), some (vI p), some (vL x2), none, some (vL x4), none, some (vL x6), none, some (vI 0), none, none, none] [] B r T := by
  have lp : ∀ (d i : Nat), i + d = 16 → (∀ k : Nat, k < i → t (p + k) ≠ 47) → ∃ l : Nat, stR t p l ∧ ∀ B : ms, TM B x t → ∀ (x2 x4 x6 : Int) (r : Option Value) (T : ms), EV q 398 165 [some (.ref 367), some (vI p), some (vL x2), none, some (vL x4), none, some (vL x6), none, some (vI l), none, none, none] [] B r T → EV q 398 138 [some (.ref 367), some (vI p), some (vL x2), none, some (vL x4), none, some (vL x6), none, some (vI i), none, none, none] [] B r T := by
    intro d
    induction d with
    | zero =>
      intro i hi hk
      have e : i = 16 := by omega
      subst e
      exact ⟨16, ⟨Nat.le_refl _, hk, fun y => absurd y (by omega)⟩, fun B hB x2 x4 x6 r T k => vc_MD_readBench_138 _ _ _ _ _ (cY (by decide) k)⟩
    | succ d ih =>
      intro i hi hk
      have wi : Unit → w32 ((i : Nat) : Int) = i := fun _ => w32_of (by omega)
      have wpi : Unit → w32 (p + (i : Int)) = p + i := fun _ => w32_of (by omega)
      by_cases c : t (p + i) = 47
      · refine ⟨i, ⟨by omega, hk, fun _ => c⟩, fun B hB x2 x4 x6 r T k => vc_MD_readBench_138 _ _ _ _ _ ?_⟩
        have ht := hB (p + i) (by omega) (by omega)
        rw [wi (), wpi (), ht.2]
        exact cNo (by omega) ⟨by omega, cY ((b8_is ht.1 (by decide)).2 c) k⟩
      · obtain ⟨l, l1, l2⟩ := ih (i + 1) (by omega) (fun k hk' => by
          by_cases e : k = i
          · subst e; exact c
          · exact hk k (by omega))
        refine ⟨l, l1, fun B hB x2 x4 x6 r T k => vc_MD_readBench_138 _ _ _ _ _ ?_⟩
        have ht := hB (p + i) (by omega) (by omega)
        have k2 := l2 B hB x2 x4 x6 r T k
        rw [show ((i + 1 : Nat) : Int) = (i : Int) + 1 by omega] at k2
        rw [wi (), wpi (), ht.2]
        exact cNo (by omega) ⟨by omega, cNo (fun y => c ((b8_is ht.1 (by decide)).1 y)) k2⟩
  exact lp 16 0 (by omega) (fun k hk => absurd hk (by omega))
theorem sp_blab {sh l z : Nat} {A : ms} (hs : isSh sh) (h0 : 0 ≤ p) (h1 : p + 60 ≤ x) (hx : x ≤ 6000) (hl : stR t p l) (hz : upR t p l z) (hA : TC A x t) : ∃ A1, EX (fun a _ => a = sh + 5 ∨ a = sh + 6) A A1 ∧ LabC A1 (sh + 5) z (fun k => t (p + k)) ∧ EV q 202 0 [some (.ref sh), some (.ref 2), some (vI p), none] [] A (some (vI (if z = l ∧ 0 < l ∧ l < 16 then 1 else 0))) A1 := by
  have hsl := isSh_is hs
  have hsr : sh = 193 ∨ sh = 268 := hs
  have hl1 := hl.1
  have hz1 := hz.1
  have lp : ∀ (d j : Nat) (A : ms), j + d = z → TC A x t → LabC A (sh + 5) j (fun k => t (p + k)) → ∃ A1, EX (fun a _ => a = sh + 5 ∨ a = sh + 6) A A1 ∧ LabC A1 (sh + 5) z (fun k => t (p + k)) ∧ EV q 202 9 [some (.ref sh), some (.ref 2), some (vI p), some (vI j)] [] A (some (vI (if z = l ∧ 0 < l ∧ l < 16 then 1 else 0))) A1 := by
    intro d
    induction d with
    | zero =>
      intro j A hj hA hL
      have e : j = z := by omega
      subst e
      have wj : Unit → w32 ((j : Nat) : Int) = j := fun _ => w32_of (by omega)
      have wpj : Unit → w32 (p + (j : Int)) = p + j := fun _ => w32_of (by omega)
      refine ⟨A, EX.refl _ A, hL, ?_⟩
      by_cases c : j < l
      · rw [if_neg (by omega)]
        have ht := hA (p + j) (by omega) (by omega)
        refine vc_Shelf_benchLabel_9 _ _ sh hsl 2 6000 sh_2 ?_
        rw [wj (), wpj (), ht.2, hz.2.2 c]
        exact cNo (by omega) ⟨by omega, cNo (by decide) ⟨by omega, cNN (by decide) ⟨rfl, rfl⟩⟩⟩
      · have ejl : j = l := by omega
        have k53 : EV q 202 53 [some (.ref sh), some (.ref 2), some (vI p), some (vI j)] [] A (some (vI (if j = l ∧ 0 < l ∧ l < 16 then 1 else 0))) A := by
          refine vc_Shelf_benchLabel_53 _ _ sh hsl 2 6000 sh_2 ?_
          rw [wj ()]
          by_cases a : (j : Int) ≤ 0
          · rw [if_neg (by omega)]; exact cY a ⟨rfl, rfl⟩
          · refine cNo a ?_
            by_cases b' : (16 : Int) ≤ j
            · rw [if_neg (by omega)]; exact cY b' ⟨rfl, rfl⟩
            · rw [if_pos (by omega)]; exact cNo b' ⟨rfl, rfl⟩
        refine vc_Shelf_benchLabel_9 _ _ sh hsl 2 6000 sh_2 ?_
        rw [wj (), wpj ()]
        by_cases a : l < 16
        · have ht := hA (p + j) (by omega) (by omega)
          rw [ht.2, show t (p + j) = 47 by rw [ejl]; exact hl.2.2 a]
          exact cNo (by omega) ⟨by omega, cY (by decide) k53⟩
        · exact cY (by omega) k53
    | succ d ih =>
      intro j A hj hA hL
      have wj : Unit → w32 ((j : Nat) : Int) = j := fun _ => w32_of (by omega)
      have wpj : Unit → w32 (p + (j : Int)) = p + j := fun _ => w32_of (by omega)
      have ej : ((j + 1 : Nat) : Int) = (j : Int) + 1 := by omega
      have ht := hA (p + j) (by omega) (by omega)
      have wt : w32 (t (p + j)) = t (p + j) := w32_of (by omega)
      obtain ⟨A1, k1, k2, k3⟩ := lab_add (q := q) (b5_row hs) hL ht.1 (by omega) rfl
      have hA1 : TC A1 x t := fun k k0 k1' => ⟨(hA k k0 k1').1, by rw [k1.2 2 k (by omega)]; exact (hA k k0 k1').2⟩
      obtain ⟨A2, k4, k5, k6⟩ := ih (j + 1) A1 (by omega) hA1 k2
      rw [ej] at k6
      refine ⟨A2, EX.trans k1 k4, k5, vc_Shelf_benchLabel_9 _ _ sh hsl 2 6000 sh_2 ?_⟩
      rw [wj (), wpj (), ht.2, wt]
      exact cNo (by omega) ⟨by omega, cNo (hl.2.1 j (by omega)) ⟨by omega, cY (hz.2.1 j (by omega)) ⟨by omega, A1, k3, k6⟩⟩⟩
  obtain ⟨c1, c2, c3⟩ := lab_clr (q := q) (A := A) (b5_row hs) (fun k => t (p + k))
  obtain ⟨A1, k1, k2, k3⟩ := lp z 0 _ (by omega) (fun k k0 k1' => ⟨(hA k k0 k1').1, by rw [c2.2 2 k (by omega)]; exact (hA k k0 k1').2⟩) c3
  exact ⟨A1, EX.trans c2 k1, k2, vc_Shelf_benchLabel _ sh hsl 2 6000 sh_2 ⟨_, c1, k3⟩⟩
end Rea9
