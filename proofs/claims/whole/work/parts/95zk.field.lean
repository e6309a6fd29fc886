/-! the field of 256 numbers: its laws -/
section Field
def pn (v : Nat) : Nat := (v * 2) ^^^ (if v < 128 then 0 else 285)
theorem pn_1 : ∀ v, v < 256 → pm1 (v : Nat) = ((pn v : Nat) : Int) := by decide +kernel
theorem pn_rg : ∀ v, v < 256 → pn v < 256 := by decide +kernel
theorem pn_nz : ∀ v, v < 256 → v ≠ 0 → pn v ≠ 0 := by decide +kernel
theorem pn_x : ∀ v, v < 256 → ∀ w, w < 256 → pn (v ^^^ w) = pn v ^^^ pn w := by decide +kernel
def pni : Nat → Nat → Nat
  | 0, v => v
  | i + 1, v => match v with
    | 0 => 0
    | u + 1 => pni i (pn (u + 1))
theorem pni_0 : ∀ i, pni i 0 = 0
  | 0 => rfl
  | _ + 1 => rfl
theorem pni_s (i v : Nat) : pni (i + 1) v = pni i (pn v) := by
  cases v with
  | zero =>
    show 0 = pni i (pn 0)
    have : pn 0 = 0 := by decide
    rw [this, pni_0]
  | succ u => rfl
theorem pni_rg : ∀ (i v : Nat), v < 256 → pni i v < 256
  | 0, _, h => h
  | i + 1, v, h => by
    rw [pni_s]
    exact pni_rg i _ (pn_rg v h)
theorem pni_nz : ∀ (i v : Nat), v < 256 → v ≠ 0 → pni i v ≠ 0
  | 0, _, _, h => h
  | i + 1, v, h, h0 => by
    rw [pni_s]
    exact pni_nz i _ (pn_rg v h) (pn_nz v h h0)
theorem pni_a : ∀ (i j v : Nat), pni (i + j) v = pni i (pni j v)
  | i, 0, v => rfl
  | i, j + 1, v => by
    rw [show i + (j + 1) = (i + j) + 1 by omega, pni_s, pni_a i j, pni_s]
theorem pni_x : ∀ (i v w : Nat), v < 256 → w < 256 → pni i (v ^^^ w) = pni i v ^^^ pni i w
  | 0, _, _, _, _ => rfl
  | i + 1, v, w, hv, hw => by
    rw [pni_s, pni_s, pni_s, pn_x v hv w hw, pni_x i _ _ (pn_rg v hv) (pn_rg w hw)]
theorem pni_p : pni 255 1 = 1 := by decide +kernel
theorem pm_n : ∀ i, pm i = ((pni i 1 : Nat) : Int)
  | 0 => rfl
  | i + 1 => by
    have h : pm (i + 1) = pm1 (pm i) := rfl
    have e : pni (i + 1) 1 = pn (pni i 1) := by
      rw [show i + 1 = 1 + i by omega, pni_a, pni_s]
      rfl
    rw [h, pm_n i, pn_1 _ (pni_rg i 1 (by decide)), e]
theorem pni_255 (i : Nat) : pni (i % 255) 1 = pni i 1 := by
  have per : ∀ k j : Nat, pni (j + 255 * k) 1 = pni j 1 := by
    intro k
    induction k with
    | zero => exact fun j => rfl
    | succ k ih =>
      intro j
      rw [show j + 255 * (k + 1) = j + 255 * k + 255 by omega, pni_a, pni_p, ih]
  have := per (i / 255) (i % 255)
  rw [show i % 255 + 255 * (i / 255) = i by omega] at this
  exact this.symm
def plst : Nat → Nat → List Nat
  | 0, _ => []
  | m + 1, v => match v with
    | 0 => []
    | u + 1 => (u + 1) :: plst m (pn (u + 1))
theorem plst_in : ∀ (m v x : Nat), x ∈ plst m v → ∃ i, i < m ∧ x = pni i v
  | 0, _, _, h => nomatch h
  | m + 1, 0, _, h => nomatch h
  | m + 1, u + 1, x, h => by
    have h' : x ∈ (u + 1) :: plst m (pn (u + 1)) := h
    rcases List.mem_cons.mp h' with e | e
    · exact ⟨0, by omega, e⟩
    · obtain ⟨i, i1, i2⟩ := plst_in m _ x e
      exact ⟨i + 1, by omega, i2⟩
theorem plst_all : ∀ x, x < 256 → x ≠ 0 → x ∈ plst 255 1 := by decide +kernel
theorem lm_at {x : Int} : ∀ {n i : Nat}, i < n → x = pm i → ∃ j : Nat, j < n ∧ lmF (fun _ => 0) n x = j ∧ pm j = x
  | 0, _, h, _ => absurd h (by omega)
  | n + 1, i, h, e => by
    have s : lmF (fun _ => 0) (n + 1) x = if x = pm n then (n : Int) else lmF (fun _ => 0) n x := rfl
    by_cases c : x = pm n
    · exact ⟨n, by omega, by rw [s, if_pos c], c.symm⟩
    · have hi : i ≠ n := fun z => c (by rw [← z]; exact e)
      obtain ⟨j, j1, j2, j3⟩ := lm_at (x := x) (n := n) (i := i) (by omega) e
      exact ⟨j, by omega, by rw [s, if_neg c, j2], j3⟩
/-- every number but 0 has its log -/
theorem gl_at {x : Nat} (h : x < 256) (h0 : x ≠ 0) : ∃ j : Nat, j < 255 ∧ gl x = j ∧ pni j 1 = x := by
  obtain ⟨i, i1, i2⟩ := plst_in 255 1 x (plst_all x h h0)
  obtain ⟨j, j1, j2, j3⟩ := lm_at (x := (x : Int)) (n := 255) (i := i) i1 (by rw [pm_n, i2])
  exact ⟨j, j1, j2, by rw [pm_n] at j3; omega⟩
/-- times is so many steps -/
theorem gT_n {x y : Nat} (hx : x < 256) (hx0 : x ≠ 0) (hy : y < 256) {j : Nat} (hj : gl x = j) (hp : pni j 1 = x) : gT x y = ((pni j y : Nat) : Int) := by
  unfold gT
  by_cases c : y = 0
  · rw [if_pos (Or.inr (by omega)), c, pni_0]
    rfl
  · obtain ⟨k, k1, k2, k3⟩ := gl_at hy c
    rw [if_neg (by omega), hj, k2]
    unfold gp
    rw [show (((j : Nat) : Int) + ((k : Nat) : Int)).toNat = j + k by omega, pm_n, pni_255, pni_a, k3]
def fm (x y : Fin 256) : Fin 256 := ⟨(gT (x.val : Nat) (y.val : Nat)).toNat, by have := gT_rg (x.val : Nat) (y.val : Nat); omega⟩
def fa (x y : Fin 256) : Fin 256 := ⟨x.val ^^^ y.val, Nat.xor_lt_two_pow (n := 8) x.isLt y.isLt⟩
def fi (x : Fin 256) : Fin 256 := ⟨(gI (x.val : Nat)).toNat, by have := gp_rg (255 - gl (x.val : Nat)); unfold gI; omega⟩
theorem fm_n {x y : Fin 256} (hx : x.val ≠ 0) {j : Nat} (hj : gl (x.val : Nat) = j) (hp : pni j 1 = x.val) : (fm x y).val = pni j y.val := by
  show (gT (x.val : Nat) (y.val : Nat)).toNat = _
  rw [gT_n x.isLt hx y.isLt hj hp]
  omega
theorem fm_0 (y : Fin 256) {x : Fin 256} (hx : x.val = 0) : (fm x y).val = 0 := by
  show (gT (x.val : Nat) (y.val : Nat)).toNat = 0
  rw [hx]
  unfold gT
  rw [if_pos (show ((0 : Nat) : Int) = 0 ∨ ((y.val : Nat) : Int) = 0 from Or.inl rfl)]
  rfl
theorem fm_cm (x y : Fin 256) : fm x y = fm y x := by
  apply Fin.ext
  show (gT (x.val : Nat) (y.val : Nat)).toNat = (gT (y.val : Nat) (x.val : Nat)).toNat
  rw [gT_cm]
theorem fm_nz {x y : Fin 256} (hx : x.val ≠ 0) (hy : y.val ≠ 0) : (fm x y).val ≠ 0 := by
  obtain ⟨j, -, j2, j3⟩ := gl_at x.isLt hx
  rw [fm_n hx j2 j3]
  exact pni_nz j _ y.isLt hy
theorem fm_as (x y z : Fin 256) : fm (fm x y) z = fm x (fm y z) := by
  apply Fin.ext
  by_cases hx : x.val = 0
  · rw [fm_0 _ (fm_0 y hx), fm_0 _ hx]
  · by_cases hy : y.val = 0
    · have e1 : (fm x y).val = 0 := by rw [fm_cm]; exact fm_0 x hy
      have e2 : (fm y z).val = 0 := fm_0 z hy
      rw [fm_0 _ e1, fm_cm x, fm_0 _ e2]
    · obtain ⟨j, -, j2, j3⟩ := gl_at x.isLt hx
      obtain ⟨k, -, k2, k3⟩ := gl_at y.isLt hy
      have nz := fm_nz hx hy
      obtain ⟨l, -, l2, l3⟩ := gl_at (fm x y).isLt nz
      rw [fm_n nz l2 l3, fm_n hx j2 j3, fm_n hy k2 k3]
      have e : pni l 1 = pni (j + k) 1 := by rw [l3, fm_n hx j2 j3, ← k3, pni_a]
      by_cases hz : z.val = 0
      · rw [hz, pni_0, pni_0, pni_0]
      · obtain ⟨o, -, -, o3⟩ := gl_at z.isLt hz
        rw [← o3, ← pni_a, ← pni_a, ← pni_a, show l + o = o + l by omega, pni_a, e, ← pni_a, show o + (j + k) = j + k + o by omega]
theorem fm_1 {o : Fin 256} (ho : o.val = 1) (x : Fin 256) : fm o x = x := by
  apply Fin.ext
  obtain ⟨j, j1, j2, j3⟩ := gl_at (x := 1) (by decide) (by decide)
  have g : (fm o x).val = pni j x.val := fm_n (by omega) (by rw [ho]; exact j2) (by rw [ho]; exact j3)
  rw [g]
  by_cases hx : x.val = 0
  · rw [hx, pni_0]
  · obtain ⟨k, -, -, k3⟩ := gl_at x.isLt hx
    rw [← k3, ← pni_a, show j + k = k + j by omega, pni_a, j3]
theorem fm_i {x : Fin 256} (hx : x.val ≠ 0) : (fm x (fi x)).val = 1 := by
  obtain ⟨j, j1, j2, j3⟩ := gl_at x.isLt hx
  rw [fm_n hx j2 j3]
  have e : (fi x).val = pni (255 - j) 1 := by
    show (gI (x.val : Nat)).toNat = _
    unfold gI gp
    rw [j2, show (255 - ((j : Nat) : Int)).toNat = 255 - j by omega, pm_n, pni_255]
    omega
  rw [e, ← pni_a, show j + (255 - j) = 255 by omega, pni_p]
theorem fi_nz {x : Fin 256} (hx : x.val ≠ 0) : (fi x).val ≠ 0 := by
  intro z
  have := fm_i hx
  rw [fm_cm, fm_0 _ z] at this
  omega
theorem fm_d (x y z : Fin 256) : fm x (fa y z) = fa (fm x y) (fm x z) := by
  apply Fin.ext
  show (fm x (fa y z)).val = (fm x y).val ^^^ (fm x z).val
  by_cases hx : x.val = 0
  · rw [fm_0 _ hx, fm_0 _ hx, fm_0 _ hx]
    rfl
  · obtain ⟨j, -, j2, j3⟩ := gl_at x.isLt hx
    rw [fm_n hx j2 j3, fm_n hx j2 j3, fm_n hx j2 j3]
    exact pni_x j _ _ y.isLt z.isLt
theorem fa_cm (x y : Fin 256) : fa x y = fa y x := Fin.ext (Nat.xor_comm _ _)
theorem fa_as (x y z : Fin 256) : fa (fa x y) z = fa x (fa y z) := Fin.ext (Nat.xor_assoc _ _ _)
theorem fa_nz {x y : Fin 256} (h : x ≠ y) : (fa x y).val ≠ 0 := by
  intro z
  apply h
  apply Fin.ext
  have e : x.val ^^^ y.val = 0 := z
  have : x.val ^^^ (x.val ^^^ y.val) = x.val := by rw [e, Nat.xor_zero]
  rw [← Nat.xor_assoc, Nat.xor_self, Nat.zero_xor] at this
  exact this.symm
/-- the inverse of a product -/
theorem fi_m {x y : Fin 256} (hx : x.val ≠ 0) (hy : y.val ≠ 0) : fi (fm x y) = fm (fi x) (fi y) := by
  have i1 : Std.Associative fm := ⟨fm_as⟩
  have i2 : Std.Commutative fm := ⟨fm_cm⟩
  have nz := fm_nz hx hy
  have e1 : fm (fm x y) (fm (fi x) (fi y)) = fm (fm x (fi x)) (fm y (fi y)) := by ac_rfl
  have e2 : fm (fm x y) (fm (fi x) (fi y)) = ⟨1, by decide⟩ := by
    rw [e1, fm_1 (fm_i hx)]
    exact Fin.ext (fm_i hy)
  have e3 : fm (fi (fm x y)) (fm (fm x y) (fm (fi x) (fi y))) = fm (fm x (fi x)) (fm (fm y (fi y)) (fi (fm x y))) := by ac_rfl
  rw [fm_1 (fm_i hx), fm_1 (fm_i hy), e2] at e3
  have e4 : fm (fi (fm x y)) (fm (fm x y) (fm (fi x) (fi y))) = fm (fm (fm x y) (fi (fm x y))) (fm (fi x) (fi y)) := by ac_rfl
  rw [fm_1 (fm_i nz), e2] at e4
  rw [e3] at e4
  exact e4
/-- the identity behind a step of the elimination -/
theorem f_key {a u w : Fin 256} (ha : a.val ≠ 0) (hu : u.val ≠ 0) (hp : (fa (fa a u) w).val ≠ 0) : fa (fi (fa (fa a u) w)) (fm w (fm (fi u) (fi a))) = fm (fm (fa a w) (fi a)) (fm (fm (fa u w) (fi u)) (fi (fa (fa a u) w))) := by
  have i1 : Std.Associative fm := ⟨fm_as⟩
  have i2 : Std.Commutative fm := ⟨fm_cm⟩
  have j1 : Std.Associative fa := ⟨fa_as⟩
  have j2 : Std.Commutative fa := ⟨fa_cm⟩
  obtain ⟨p, ep⟩ : ∃ p, p = fa (fa a u) w := ⟨_, rfl⟩
  rw [← ep] at hp ⊢
  have d' : ∀ x y z, fm (fa y z) x = fa (fm y x) (fm z x) := fun x y z => by rw [fm_cm, fm_d, fm_cm x y, fm_cm x z]
  have key : fm (fa a w) (fa u w) = fa (fm a u) (fm w p) := by
    rw [ep, fm_d, d', d', fm_d, fm_d, fm_cm w a]
    ac_rfl
  have k1 : fm p (fi p) = ⟨1, by decide⟩ := Fin.ext (fm_i hp)
  have e : fm (fm (fa a w) (fi a)) (fm (fm (fa u w) (fi u)) (fi p)) = fm (fm (fa a w) (fa u w)) (fm (fi a) (fm (fi u) (fi p))) := by ac_rfl
  rw [e, key, d']
  have e1 : fm (fm a u) (fm (fi a) (fm (fi u) (fi p))) = fm (fm a (fi a)) (fm (fm u (fi u)) (fi p)) := by ac_rfl
  have e2 : fm (fm w p) (fm (fi a) (fm (fi u) (fi p))) = fm (fm p (fi p)) (fm w (fm (fi u) (fi a))) := by ac_rfl
  rw [e1, e2, fm_1 (fm_i ha), fm_1 (fm_i hu), fm_1 (fm_i hp)]
end Field
