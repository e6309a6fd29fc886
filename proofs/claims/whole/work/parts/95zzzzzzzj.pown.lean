/-! pack: own blocks; all steps, and what is written of them -/
section PStq
variable {q : Nat × (Nat → Int32)} {al : Int → Int} {m : Int} {P : Nat → Int} {K : Nat}
def stL (al : Int → Int) (m p : Int) : Int := (stT al m p).2.2
def stY (al : Int → Int) (m : Int) (P : Nat → Int) (i : Nat) : Int := (stT al m (P i)).1
def stM (al : Int → Int) (m : Int) (P : Nat → Int) (i : Nat) : Int := (stT al m (P i)).2.1
def XSt (a : Nat) (k : Int) : Prop := a = 88 ∨ a = 90 ∨ a = 91 ∨ (a = 30 ∧ k = 12)
def XSu (a : Nat) (k : Int) : Prop := a = 400 ∨ a = 402 ∨ a = 403 ∨ (a = 367 ∧ k = 55)
def StA (A : ms) (f g : Nat → Int) (j : Nat) : Prop := A.1 30 12 = j ∧ (∀ i : Nat, i < j → A.1 90 i = f i ∧ A.1 91 i = g i) ∧ ∀ s : Int, 0 ≤ s → s < 19 → A.1 88 s = stC f j s
def StB (B : ms) (f g : Nat → Int) (j : Nat) : Prop := B.1 367 55 = j ∧ (∀ i : Nat, i < j → B.1 402 i = f i ∧ B.1 403 i = g i) ∧ ∀ s : Int, 0 ≤ s → s < 19 → B.1 400 s = stC f j s
theorem StA_1 {A : ms} {f g : Nat → Int} {j : Nat} (h : StA A f g j) (hf : 0 ≤ f j ∧ f j ≤ 18) : StA (adP A j (f j) (g j)) f g (j + 1) := by
  obtain ⟨h1, h2, h3⟩ := h
  unfold adP
  refine ⟨by rw [wI_at]; omega, fun i hi => ?_, fun s s0 s1 => ?_⟩
  · by_cases e : i = j
    · rw [e]
      exact ⟨by rw [wI_no _ (by omega), wI_no _ (by omega), wI_no _ (by omega), wI_at], by rw [wI_no _ (by omega), wI_no _ (by omega), wI_at]⟩
    · have := h2 i (by omega)
      exact ⟨by rw [wI_no _ (by omega), wI_no _ (by omega), wI_no _ (by omega), wI_no _ (by omega)]; exact this.1, by rw [wI_no _ (by omega), wI_no _ (by omega), wI_no _ (by omega), wI_no _ (by omega)]; exact this.2⟩
  · rw [stC_s, wI_no _ (by omega)]
    by_cases e : s = f j
    · rw [if_pos e, e, wI_at, h3 (f j) hf.1 (by omega)]
    · rw [if_neg e, wI_no _ (fun z => e z.2), wI_no _ (by omega), wI_no _ (by omega), h3 s s0 s1]
      omega
theorem StB_1 {B : ms} {f g : Nat → Int} {j : Nat} (h : StB B f g j) (hf : 0 ≤ f j ∧ f j ≤ 18) : StB (adQ B j (f j) (g j)) f g (j + 1) := by
  obtain ⟨h1, h2, h3⟩ := h
  unfold adQ
  refine ⟨by rw [wI_no _ (by omega), wI_at]; omega, fun i hi => ?_, fun s s0 s1 => ?_⟩
  · by_cases e : i = j
    · rw [e]
      exact ⟨by rw [wI_no _ (by omega), wI_no _ (by omega), wI_no _ (by omega), wI_at], by rw [wI_no _ (by omega), wI_no _ (by omega), wI_at]⟩
    · have := h2 i (by omega)
      exact ⟨by rw [wI_no _ (by omega), wI_no _ (by omega), wI_no _ (by omega), wI_no _ (by omega)]; exact this.1, by rw [wI_no _ (by omega), wI_no _ (by omega), wI_no _ (by omega), wI_no _ (by omega)]; exact this.2⟩
  · rw [stC_s]
    by_cases e : s = f j
    · rw [if_pos e, e, wI_at, h3 (f j) hf.1 (by omega)]
    · rw [if_neg e, wI_no _ (fun z => e z.2), wI_no _ (by omega), wI_no _ (by omega), wI_no _ (by omega), h3 s s0 s1]
      omega
theorem st_ex (hm : 1 ≤ m ∧ m ≤ 316) (ha : ∀ k : Int, 0 ≤ k → k < m → 0 ≤ al k ∧ al k ≤ 15) : ∃ P K, GP m (stL al m) (stL al m) P K ∧ (∀ k : Nat, k ≤ K → (k : Int) ≤ P k ∧ P k ≤ m) ∧ ∀ k : Nat, k < K → (0 ≤ stY al m P k ∧ stY al m P k ≤ 18) ∧ (0 ≤ stM al m P k ∧ stM al m P k < 128) := by
  have hs : ∀ p : Int, 0 ≤ p → p < m → 1 ≤ stL al m p ∧ p + stL al m p ≤ m := fun p p0 p1 => (stT_r (ha p p0 p1) p1).2.2
  obtain ⟨P, K, hP⟩ := GP_ex (x := m) (stL al m) (stL al m) (by omega) hs
  refine ⟨P, K, hP, GP_le hP hs, fun k hk => ?_⟩
  have y := hP.2.2 k hk
  have z := stT_r (ha (P k) y.1.1 y.1.2) y.1.2
  exact ⟨z.1, z.2.1⟩
theorem cl_stp (hm : 1 ≤ m ∧ m ≤ 316) (ha : ∀ k : Int, 0 ≤ k → k < m → 0 ≤ al k ∧ al k ≤ 15) (hP : GP m (stL al m) (stL al m) P K) (hle : ∀ k : Nat, k ≤ K → (k : Int) ≤ P k ∧ P k ≤ m) : ∀ (v j : Nat) (A : ms), j + v = K → (∀ k : Int, 0 ≤ k → k < m → A.1 89 k = al k) → StA A (stY al m P) (stM al m P) j → ∃ A', EX XSt A A' ∧ StA A' (stY al m P) (stM al m P) K ∧ EV q 75 17 [some (.ref 30), some (vI m), some (vI (P j)), some (vI j), none, none] [] A none A' := by
  intro v
  induction v with
  | zero =>
    intro j A hj h89 h
    have e : j = K := by omega
    subst e
    have pj := hP.2.1
    have lj := hle j (Nat.le_refl _)
    refine ⟨A, EX.refl _ A, h, vc_Blocks_makeSteps_17 _ _ _ ?_⟩
    rw [w32_of (x := m) (by omega), show w32 (j : Int) = j from w32_of (by omega), w32_of (x := P j) (by omega)]
    by_cases d : m ≤ (j : Int)
    · exact cY d ⟨rfl, rfl⟩
    · exact cNo d (cY (by omega) ⟨rfl, rfl⟩)
  | succ v ih =>
    intro j A hj h89 h
    have y := hP.2.2 j (by omega)
    have lj := hle j (by omega)
    have sr := stT_r (ha (P j) y.1.1 y.1.2) y.1.2
    obtain ⟨A1, e1⟩ : ∃ A1, A1 = adP A j (stY al m P j) (stM al m P j) := ⟨_, rfl⟩
    have h1 := StA_1 h sr.1
    rw [← e1] at h1
    have x1 : EX XSt A A1 := by
      rw [e1]
      unfold adP
      exact ((((EX.refl _ A).wr (by unfold XSt; omega)).wr (by unfold XSt; omega)).wr (by unfold XSt; omega)).wr (by unfold XSt; omega)
    obtain ⟨A', g1, g2, g3⟩ := ih (j + 1) A1 (by omega) (fun k k0 k1 => by rw [x1.2 89 k (by unfold XSt; omega)]; exact h89 k k0 k1) h1
    refine ⟨A', x1.trans g1, g2, cl_one ⟨y.1.1, y.1.2, hm.2⟩ lj.1 (fun k k0 k1 => ⟨ha k k0 k1, h89 k k0 k1⟩) h.1 ?_⟩
    rw [y.2, show ((j + 1 : Nat) : Int) = (j : Int) + 1 by omega, e1] at g3
    exact g3
theorem md_stp (hm : 1 ≤ m ∧ m ≤ 316) (ha : ∀ k : Int, 0 ≤ k → k < m → 0 ≤ al k ∧ al k ≤ 15) (hP : GP m (stL al m) (stL al m) P K) (hle : ∀ k : Nat, k ≤ K → (k : Int) ≤ P k ∧ P k ≤ m) : ∀ (v j : Nat) (B : ms), j + v = K → (∀ k : Int, 0 ≤ k → k < m → B.1 401 k = al k) → StB B (stY al m P) (stM al m P) j → ∃ B', EX XSu B B' ∧ StB B' (stY al m P) (stM al m P) K ∧ EV q 302 28 [some (.ref 367), some (vI m), some (vI (P j)), none, none, none] [] B none B' := by
  intro v
  induction v with
  | zero =>
    intro j B hj h89 h
    have e : j = K := by omega
    subst e
    have pj := hP.2.1
    refine ⟨B, EX.refl _ B, h, vc_MD_tellLengths_28 _ _ ?_⟩
    rw [w32_of (x := m) (by omega), w32_of (x := P j) (by omega)]
    exact cY (by omega) ⟨rfl, rfl⟩
  | succ v ih =>
    intro j B hj h89 h
    have y := hP.2.2 j (by omega)
    have lj := hle j (by omega)
    have sr := stT_r (ha (P j) y.1.1 y.1.2) y.1.2
    obtain ⟨B1, e1⟩ : ∃ B1, B1 = adQ B j (stY al m P j) (stM al m P j) := ⟨_, rfl⟩
    have h1 := StB_1 h sr.1
    rw [← e1] at h1
    have x1 : EX XSu B B1 := by
      rw [e1]
      unfold adQ
      exact ((((EX.refl _ B).wr (by unfold XSu; omega)).wr (by unfold XSu; omega)).wr (by unfold XSu; omega)).wr (by unfold XSu; omega)
    obtain ⟨B', g1, g2, g3⟩ := ih (j + 1) B1 (by omega) (fun k k0 k1 => by rw [x1.2 401 k (by unfold XSu; omega)]; exact h89 k k0 k1) h1
    refine ⟨B', x1.trans g1, g2, md_one ⟨y.1.1, y.1.2, hm.2⟩ lj.1 (fun k k0 k1 => ⟨ha k k0 k1, h89 k k0 k1⟩) h.1 ?_⟩
    rw [y.2, e1] at g3
    exact g3
/-- makeSteps and tellLengths whole -/
theorem cl_mks (hm : 1 ≤ m ∧ m ≤ 316) (ha : ∀ k : Int, 0 ≤ k → k < m → 0 ≤ al k ∧ al k ≤ 15) (hP : GP m (stL al m) (stL al m) P K) (hle : ∀ k : Nat, k ≤ K → (k : Int) ≤ P k ∧ P k ≤ m) {A : ms} (h89 : ∀ k : Int, 0 ≤ k → k < m → A.1 89 k = al k) : ∃ A', EX XSt A A' ∧ StA A' (stY al m P) (stM al m P) K ∧ EV q 75 0 [some (.ref 30), some (vI m), none, none, none, none] [] A none A' := by
  obtain ⟨A1, e1⟩ : ∃ A1, A1 = wC A 88 0 19 (fun _ => 0) := ⟨_, rfl⟩
  obtain ⟨A2, e2⟩ : ∃ A2, A2 = wI A1 30 12 0 := ⟨_, rfl⟩
  have f1 := sp_fillI (q := q) (S := A) sh_88 (by decide) 0
  have at1 : ∀ (a : Nat) (k : Int), a ≠ 88 → A1.1 a k = A.1 a k := fun a k y => by rw [e1, rI_C, if_neg (fun z => y z.1)]
  have at8 : ∀ s : Int, 0 ≤ s → s < 19 → A1.1 88 s = 0 := fun s s0 s1 => by rw [e1, rI_C, if_pos ⟨rfl, by omega, by omega⟩]
  have x1 : EX XSt A A2 := EX.trans (T := A1) ⟨by rw [e1]; rfl, fun a k y => at1 a k (fun z => y (Or.inl z))⟩ (by rw [e2]; exact (EX.refl _ A1).wr (by unfold XSt; omega))
  obtain ⟨A', g1, g2, g3⟩ := cl_stp (q := q) hm ha hP hle K 0 A2 (by omega) (fun k k0 k1 => by rw [x1.2 89 k (by unfold XSt; omega)]; exact h89 k k0 k1) ⟨by rw [e2, wI_at]; rfl, fun i hi => absurd hi (by omega), fun s s0 s1 => by rw [e2, wI_no _ (by omega), at8 s s0 s1]; rfl⟩
  refine ⟨A', x1.trans g1, g2, vc_Blocks_makeSteps _ ⟨A1, by rw [e1]; exact f1, fun S3 q3 => ?_⟩⟩
  rw [q3, ← e2]
  rw [hP.1] at g3
  exact g3
theorem md_mk0 {m : Int} : ∀ (v s : Nat) (B : ms), s + v = 20 → (∀ k : Int, 0 ≤ k → k < s → B.1 400 k = 0) → ∃ B', EX (fun a _ => a = 400) B B' ∧ (∀ k : Int, 0 ≤ k → k < 20 → B'.1 400 k = 0) ∧ ∀ (R : Option Value) (S' : ms), EV q 302 28 [some (.ref 367), some (vI m), some (vI 0), none, none, none] [] B' R S' → EV q 302 7 [some (.ref 367), some (vI m), some (vI s), none, none, none] [] B R S' := by
  intro v
  induction v with
  | zero =>
    intro s B hs h
    have e : s = 20 := by omega
    subst e
    exact ⟨B, EX.refl _ B, fun k k0 k1 => h k k0 (by omega), fun R S' k => vc_MD_tellLengths_7 _ _ (cY (by decide) k)⟩
  | succ v ih =>
    intro s B hs h
    have ws : Unit → w32 (s : Int) = s := fun _ => w32_of (by omega)
    obtain ⟨B', g1, g2, g3⟩ := ih (s + 1) (wI B 400 s 0) (by omega) (fun k k0 k1 => by
      by_cases e : k = s
      · rw [e, wI_at]
      · rw [wI_no _ (by omega)]
        exact h k k0 (by omega))
    refine ⟨B', ((EX.refl _ B).wr rfl).trans g1, g2, fun R S' k => vc_MD_tellLengths_7 _ _ ?_⟩
    have g4 := g3 R S' k
    rw [show ((s + 1 : Nat) : Int) = (s : Int) + 1 by omega] at g4
    rw [ws ()]
    exact cNo (by omega) ⟨by omega, fun S2 q2 => by rw [q2]; exact g4⟩
theorem md_mks (hm : 1 ≤ m ∧ m ≤ 316) (ha : ∀ k : Int, 0 ≤ k → k < m → 0 ≤ al k ∧ al k ≤ 15) (hP : GP m (stL al m) (stL al m) P K) (hle : ∀ k : Nat, k ≤ K → (k : Int) ≤ P k ∧ P k ≤ m) {B : ms} (h89 : ∀ k : Int, 0 ≤ k → k < m → B.1 401 k = al k) : ∃ B', EX XSu B B' ∧ StB B' (stY al m P) (stM al m P) K ∧ EV q 302 0 [some (.ref 367), some (vI m), none, none, none, none] [] B none B' := by
  obtain ⟨B1, e1⟩ : ∃ B1, B1 = wI B 367 55 0 := ⟨_, rfl⟩
  have x1 : EX XSu B B1 := by rw [e1]; exact (EX.refl _ B).wr (by unfold XSu; omega)
  obtain ⟨B2, k1, k2, k3⟩ := md_mk0 (q := q) (m := m) 20 0 B1 (by omega) (fun k k0 k1 => absurd k1 (by omega))
  have x2 : EX XSu B B2 := x1.trans (k1.mono (fun a k y => by unfold XSu; omega))
  obtain ⟨B', g1, g2, g3⟩ := md_stp (q := q) hm ha hP hle K 0 B2 (by omega) (fun k k0 k1 => by rw [x2.2 401 k (by unfold XSu; omega)]; exact h89 k k0 k1) ⟨by rw [k1.2 367 55 (by omega), e1, wI_at]; rfl, fun i hi => absurd hi (by omega), fun s s0 s1 => by rw [k2 s s0 (by omega)]; rfl⟩
  rw [hP.1] at g3
  exact ⟨B', x2.trans g1, g2, vc_MD_tellLengths _ (fun S1 q1 => by rw [q1, ← e1]; exact k3 none B' g3)⟩
/-- the bits more of a step -/
def sbF (s : Int) : Nat := if s < 16 then 0 else if s = 16 then 2 else if s = 17 then 3 else 7
theorem sbF_r (s : Int) : sbF s ≤ 7 := by unfold sbF; split <;> (try split) <;> (try split) <;> decide
theorem cl_sb {A : ms} {s : Int} (hs : 0 ≤ s ∧ s ≤ 18) : EV q 78 0 [some (vI s)] [] A (some (vI (sbF s))) A := by
  refine vc_Blocks_stepBits _ ?_
  rw [w32_of (x := s) (by omega)]
  unfold sbF
  by_cases c : 16 ≤ s
  · rw [if_neg (by omega)]
    refine cY c ?_
    by_cases c2 : s = 16
    · rw [if_pos c2]
      exact cNN c2 ⟨rfl, rfl⟩
    · rw [if_neg c2]
      refine cY c2 ?_
      by_cases c3 : s = 17
      · rw [if_pos c3]
        exact cNN c3 ⟨rfl, rfl⟩
      · rw [if_neg c3]
        exact cY c3 ⟨rfl, rfl⟩
  · rw [if_pos (by omega)]
    exact cNo c ⟨rfl, rfl⟩
def swB (l : Int → Int) (f g : Nat → Int) : Nat → Nat → Wb → Wb
  | _, 0, s => s
  | j, v + 1, s => swB l f g (j + 1) v (wbLow (sbF (f j)) (g j) (wbSym l 19 (f j) s))
theorem swB_s (l : Int → Int) (f g : Nat → Int) (j v : Nat) (s : Wb) : swB l f g j (v + 1) s = swB l f g (j + 1) v (wbLow (sbF (f j)) (g j) (wbSym l 19 (f j) s)) := rfl
theorem jsw {l : Int → Int} {f g : Nat → Int} {C : Nat} (hC : C ≤ 316) (hl : ∀ i : Nat, i < 19 → 0 ≤ l i ∧ l i ≤ 20) (hf : ∀ j : Nat, j < C → (0 ≤ f j ∧ f j ≤ 18) ∧ (0 ≤ g j ∧ g j < 128)) : ∀ (v j : Nat) (s : Wb), j + v = C → wbR 0 s → s.1.1 + 27 * v < 1000000 → (wbR 0 (swB l f g j v s) ∧ s.1.1 ≤ (swB l f g j v s).1.1 ∧ (swB l f g j v s).1.1 ≤ s.1.1 + 27 * v) ∧ (∀ (A : ms) (o : Nat), isRow o 12000 → (342 < o ∨ o = 7) → CodW A 75 19 l → StA A f g C → CBt A o 12000 s → ∃ A', EX (XRb o) A A' ∧ CBt A' o 12000 (swB l f g j v s) ∧ EV q 77 2 [some (.ref 30), some (.ref o), some (vI j), none] [] A none A') ∧ ∀ (B : ms) (x1 x2 x3 x4 x5 x6 x7 x8 : Int), CodN B 389 390 19 l → StB B f g C → MBt B 0 s → ∃ B', EX XWb B B' ∧ MBt B' 0 (swB l f g j v s) ∧ B'.1 367 12 = B.1 367 12 + (wbB (swB l f g j v s) - wbB s) ∧ ∀ (R : Option Value) (S' : ms), EV q 296 466 [some (.ref 367), some (vI x1), some (vI x2), some (vI x3), some (vI x4), some (vI x5), some (vI x6), some (vI x7), some (vI x8), some (vI C), none] [] B' R S' → EV q 296 466 [some (.ref 367), some (vI x1), some (vI x2), some (vI x3), some (vI x4), some (vI x5), some (vI x6), some (vI x7), some (vI x8), some (vI j), none] [] B R S' := by
  intro v
  induction v with
  | zero =>
    intro j s hj hr hs
    have ej : j = C := by omega
    subst ej
    have e : swB l f g j 0 s = s := rfl
    rw [e]
    refine ⟨⟨hr, by omega, by omega⟩, fun A o ho o3 hC hS h => ⟨A, EX.refl _ A, h, vc_Blocks_stepsOut_2 _ _ _ ho ?_⟩, fun B x1 x2 x3 x4 x5 x6 x7 x8 hC hS h => ⟨B, EX.refl _ B, h, by omega, fun R S' k => k⟩⟩
    rw [hS.1]
    exact cY (Int.le_refl _) ⟨rfl, rfl⟩
  | succ v ih =>
    intro j s hj hr hs
    have wj : Unit → w32 (j : Int) = j := fun _ => w32_of (by omega)
    have wC' : Unit → w32 (C : Int) = C := fun _ => w32_of (by omega)
    have jb : 0 ≤ (j : Int) ∧ (j : Int) < (316 : Nat) := by omega
    have jb2 : 0 ≤ (j : Int) ∧ (j : Int) < (330 : Nat) := by omega
    obtain ⟨f1, g1⟩ := hf j (by omega)
    obtain ⟨y, ey⟩ : ∃ y, y = f j := ⟨_, rfl⟩
    obtain ⟨z, ez⟩ : ∃ z, z = g j := ⟨_, rfl⟩
    rw [swB_s, ← ey, ← ez]
    rw [← ey] at f1
    rw [← ez] at g1
    have ly := hl y.toNat (by omega)
    rw [show ((y.toNat : Nat) : Int) = y by omega] at ly
    have sb := sbF_r y
    obtain ⟨sa, esa⟩ : ∃ sa, sa = wbSym l 19 y s := ⟨_, rfl⟩
    have ra : wbR 0 sa := by rw [esa]; exact wbSym_r _ _ _ hr
    have na := wbSym_n (l := l) (n := 19) (k := y) (s := s) ly.2
    obtain ⟨sc, esc⟩ : ∃ sc, sc = wbLow (sbF y) z sa := ⟨_, rfl⟩
    have rc : wbR 0 sc := by rw [esc]; exact wbLow_r _ _ _ ra
    have nc := wbLow_n (sbF y) z sa
    rw [← esa] at na
    rw [← esc] at nc
    rw [← esa, ← esc]
    obtain ⟨⟨i1, i2, i3⟩, ic, im⟩ := ih (j + 1) sc (by omega) rc (by omega)
    refine ⟨⟨i1, by omega, by omega⟩, fun A o ho o3 hC hS h => ?_, fun B x1 x2 x3 x4 x5 x6 x7 x8 hC hS h => ?_⟩
    · obtain ⟨s1, s2⟩ := hS.2.1 j (by omega)
      rw [← ey] at s1
      rw [← ez] at s2
      obtain ⟨A1, k1, k2, k3⟩ := cw_sym (q := q) (k := y) (by omega) hC ho (by decide) hr (by omega) h
      rw [← esa] at k3
      obtain ⟨A2, j1, j2, j3⟩ := cw_low_bits (q := q) (v := z) (n := sbF y) (by omega) (by omega) ho (by decide) ra (by omega) k3
      rw [← esc] at j3
      have at2 : ∀ (a : Nat) (k : Int), a < 343 ∧ a ≠ 7 ∧ a ≠ 8 → A2.1 a k = A.1 a k := fun a k w => by rw [j2.2 a k (by unfold XRb; omega), k2.2 a k (by unfold XRb; omega)]
      obtain ⟨A', m1, m2, m3⟩ := ic A2 o ho o3 ⟨hC.1, hC.2.1, fun s hs => by rw [at2 _ _ (by omega)]; exact hC.2.2.1 s hs, fun s hs w => by rw [at2 _ _ (by omega)]; exact hC.2.2.2 s hs w⟩ ⟨by rw [at2 _ _ (by omega)]; exact hS.1, fun i hi => by rw [at2 _ _ (by omega), at2 _ _ (by omega)]; exact hS.2.1 i hi, fun s h0 h1 => by rw [at2 _ _ (by omega)]; exact hS.2.2 s h0 h1⟩ j3
      refine ⟨A', (k2.trans j2).trans m1, m2, vc_Blocks_stepsOut_2 _ _ _ ho ?_⟩
      rw [show ((j + 1 : Nat) : Int) = (j : Int) + 1 by omega] at m3
      have s3 : A1.1 91 j = z := by rw [k2.2 91 j (by unfold XRb; omega)]; exact s2
      rw [hS.1, wC' (), wj (), s1, w32_of (x := y) (by omega)]
      refine cNo (by omega) ⟨jb, by omega, by omega, A1, k1, jb, _, A1, cl_sb f1, A2, ?_, m3⟩
      rw [s3]
      exact j1
    · obtain ⟨s1, s2⟩ := hS.2.1 j (by omega)
      rw [← ey] at s1
      rw [← ez] at s2
      obtain ⟨B1, k1, k2, k3, k4⟩ := mw_sym (q := q) (k := y) (by omega) hC hr (by omega) h
      rw [← esa] at k3
      obtain ⟨B2, j1, j2, j3, j4⟩ := mw_low_bits (q := q) (v := z) (n := sbF y) (by omega) (by omega) ra (by omega) k3
      rw [← esc] at j3
      have at2 : ∀ (a : Nat) (k : Int), ¬ XWb a k → B2.1 a k = B.1 a k := fun a k w => by rw [j2.2 a k w, k2.2 a k w]
      obtain ⟨B', m1, m2, m3, m4⟩ := im B2 x1 x2 x3 x4 x5 x6 x7 x8 ⟨fun s hs => by rw [at2 _ _ (by unfold XWb; omega)]; exact hC.1 s hs, fun s hs w => by rw [at2 _ _ (by unfold XWb; omega)]; exact hC.2 s hs w⟩ ⟨by rw [at2 _ _ (by unfold XWb; omega)]; exact hS.1, fun i hi => by rw [at2 _ _ (by unfold XWb; omega), at2 _ _ (by unfold XWb; omega)]; exact hS.2.1 i hi, fun s h0 h1 => by rw [at2 _ _ (by unfold XWb; omega)]; exact hS.2.2 s h0 h1⟩ j3
      have b1 : wbB sa = wbB s + (l y).toNat := by rw [esa]; exact wbB_code _ _ _ hr.2.1
      have b2 : wbB sc = wbB sa + sbF y := by rw [esc]; exact wbB_low _ _ _ ra.2.1
      refine ⟨B', (k2.trans j2).trans m1, m2, by omega, fun R S' k => vc_MD_writeOwn_466 _ _ _ _ _ _ _ _ _ ?_⟩
      have m5 := m4 R S' k
      rw [show ((j + 1 : Nat) : Int) = (j : Int) + 1 by omega] at m5
      have s3 : B1.1 403 j = z := by rw [k2.2 403 j (by unfold XWb; omega)]; exact s2
      rw [hS.1, wC' (), wj (), s1, w32_of (x := y) (by omega)]
      refine cNo (by omega) ⟨jb2, by omega, by omega, B1, k1, jb2, ?_⟩
      rw [s3, w32_of (x := z) (by omega)]
      have k546 : EV q 296 546 [some (.ref 367), some (vI x1), some (vI x2), some (vI x3), some (vI x4), some (vI x5), some (vI x6), some (vI x7), some (vI x8), some (vI j), some (vI y)] [vI (sbF y), vL z, .ref 367] B1 R S' := vc_MD_writeOwn_546 _ _ _ _ _ _ _ _ _ _ _ _ ⟨B2, j1, m5⟩
      unfold sbF at k546
      by_cases c2 : y = 16
      · rw [if_neg (by omega), if_pos c2] at k546
        exact cNN c2 k546
      · refine cY c2 ?_
        by_cases c3 : y = 17
        · rw [if_neg (by omega), if_neg c2, if_pos c3] at k546
          exact cNN c3 k546
        · refine cY c3 ?_
          by_cases c4 : y = 18
          · rw [if_neg (by omega), if_neg c2, if_neg c3] at k546
            exact cNN c4 k546
          · rw [if_pos (by omega)] at k546
            exact cY c4 k546
end PStq
