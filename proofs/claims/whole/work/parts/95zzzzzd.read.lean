/-! read: a BOX's numbers and heads, both sides -/
section ReaD
variable {q : Nat × (Nat → Int32)} {x p : Int} {t : Int → Int}
theorem lO_s {a b : Int} {k : Nat} (ha : 0 ≤ a ∧ a < (2 : Int) ^ k) (hb : 0 ≤ b) (hk : b * (2 : Int) ^ k < 4611686018427387904) (hk' : k ≤ 60) : lO a (b * (2 : Int) ^ k) = a + b * (2 : Int) ^ k := by
  obtain ⟨a', ea⟩ : ∃ a' : Nat, a = a' := ⟨a.toNat, by omega⟩
  obtain ⟨b', eb⟩ : ∃ b' : Nat, b = b' := ⟨b.toNat, by omega⟩
  subst ea eb
  have e2 : (2 : Int) ^ k = ((2 ^ k : Nat) : Int) := by rw [Int.natCast_pow]; rfl
  have hp : 2 ^ k ≤ 2 ^ 60 := Nat.pow_le_pow_right (by decide) hk'
  rw [e2] at hk ha ⊢
  have em : (b' : Int) * ((2 ^ k : Nat) : Int) = ((2 ^ k * b' : Nat) : Int) := by
    rw [Int.natCast_mul, Int.mul_comm]
  rw [em] at hk ⊢
  have h := Nat.two_pow_add_eq_or_of_lt (i := k) (b := a') (by omega) b'
  unfold lO
  generalize 2 ^ k * b' = w at *
  generalize 2 ^ k = p at *
  rw [show (((w : Int)) % 18446744073709551616).toNat = w by omega, show ((a' : Int) % 18446744073709551616).toNat = a' by omega, Nat.or_comm, ← h]
  omega
theorem low1 (h0 : 0 ≤ t p ∧ t p < 256) : lowV t p 1 = t p := by
  rw [lowV_s]
  show lO 0 (t (p + ((0 : Nat) : Int)) * (2 : Int) ^ 0) = t p
  rw [show p + ((0 : Nat) : Int) = p from Int.add_zero p, lO_s (by decide) h0.1 (by omega) (by decide)]
  omega
theorem low2 (h0 : 0 ≤ t p ∧ t p < 256) (h1 : 0 ≤ t (p + 1) ∧ t (p + 1) < 256) : lowV t p 2 = t p + 256 * t (p + 1) := by
  rw [lowV_s, low1 h0]
  show lO (t p) (t (p + 1) * (2 : Int) ^ 8) = _
  rw [lO_s (by omega) h1.1 (by omega) (by decide)]
  omega
theorem low4 (h0 : 0 ≤ t p ∧ t p < 256) (h1 : 0 ≤ t (p + 1) ∧ t (p + 1) < 256) (h2 : 0 ≤ t (p + 2) ∧ t (p + 2) < 256) (h3 : 0 ≤ t (p + 3) ∧ t (p + 3) < 256) : lowV t p 4 = t p + 256 * t (p + 1) + 65536 * t (p + 2) + 16777216 * t (p + 3) := by
  rw [lowV_s, lowV_s, low2 h0 h1]
  show lO (lO (t p + 256 * t (p + 1)) (t (p + 2) * (2 : Int) ^ 16)) (t (p + 3) * (2 : Int) ^ 24) = _
  rw [lO_s (a := t p + 256 * t (p + 1)) (by omega) h2.1 (by omega) (by decide), lO_s (by omega) h3.1 (by omega) (by decide)]
  omega
theorem low2_r (hx : 0 ≤ p ∧ p + 2 ≤ x) (ht : ∀ k : Int, 0 ≤ k → k < x → 0 ≤ t k ∧ t k < 256) : 0 ≤ lowV t p 2 ∧ lowV t p 2 < 65536 := by
  have a := ht p (by omega) (by omega)
  have b := ht (p + 1) (by omega) (by omega)
  rw [low2 a b]
  omega
theorem low4_r (hx : 0 ≤ p ∧ p + 4 ≤ x) (ht : ∀ k : Int, 0 ≤ k → k < x → 0 ≤ t k ∧ t k < 256) : 0 ≤ lowV t p 4 ∧ lowV t p 4 < 4294967296 := by
  have a := ht p (by omega) (by omega)
  have b := ht (p + 1) (by omega) (by omega)
  have c := ht (p + 2) (by omega) (by omega)
  have d := ht (p + 3) (by omega) (by omega)
  rw [low4 a b c d]
  omega
theorem cn_low {A : ms} {n : Nat} (h0 : 0 ≤ p) (h1 : p + n ≤ x) (hx : x ≤ 6000) (hA : TC A x t) : EV q 155 0 [some (.ref 2), some (vI p), some (vI n), none, none, none] [] A (some (vL (lowV t p n))) A := cw_lowV (by omega) (fun k k0 k1 => hA k (by omega) (by omega))
theorem mn_low {B : ms} {n : Nat} (h0 : 0 ≤ p) (h1 : p + n ≤ x) (hx : x ≤ 6000) (hB : TM B x t) : EV q 401 0 [some (.ref 367), some (vI p), some (vI n), none, none, none] [] B (some (vL (lowV t p n))) B := by
  have lp : ∀ (m i : Nat), i + m = n → EV q 401 5 [some (.ref 367), some (vI p), some (vI n), some (vL (lowV t p i)), none, some (vI i)] [] B (some (vL (lowV t p n))) B := by
    intro m
    induction m with
    | zero =>
      intro i hi
      have e : i = n := by omega
      subst e
      exact vc_MD_num_5 _ _ _ _ (cY (Int.le_refl _) ⟨rfl, rfl⟩)
    | succ m ih =>
      intro i hi
      have g := ih (i + 1) (by omega)
      have tk := hB (p + i) (by omega) (by omega)
      have wt : w32 (b8 (t (p + i))) % 256 = t (p + i) := by
        rw [w32_of (by have := b8_rg (t (p + i)); omega)]
        unfold b8
        omega
      have wn : Unit → w32 (n : Int) = n := fun _ => w32_of (by omega)
      have wi : Unit → w32 (i : Int) = i := fun _ => w32_of (by omega)
      have wp : Unit → w32 (p + (i : Int)) = p + i := fun _ => w32_of (by omega)
      rw [lowV_s, show ((i + 1 : Nat) : Int) = (i : Int) + 1 by omega] at g
      refine vc_MD_num_5 _ _ _ _ ?_
      rw [wn (), wi (), wp (), tk.2, wt]
      exact cNo (by omega) ⟨by omega, g⟩
  exact vc_MD_num _ _ (lp n 0 (by omega))
/-- all of the first k hold, and b before them -/
def alF (b : Int) (c : Nat → Bool) : Nat → Int
  | 0 => b
  | k + 1 => if alF b c k = 1 ∧ c k = true then 1 else 0
theorem alF_s (b : Int) (c : Nat → Bool) (k : Nat) : alF b c (k + 1) = if alF b c k = 1 ∧ c k = true then 1 else 0 := rfl
theorem alF_01 {b : Int} {c : Nat → Bool} (hb : b = 0 ∨ b = 1) : ∀ k : Nat, alF b c k = 0 ∨ alF b c k = 1
  | 0 => hb
  | k + 1 => by
    rw [alF_s]
    split
    · exact Or.inr rfl
    · exact Or.inl rfl
theorem alF_0 {b : Int} {c : Nat → Bool} {k : Nat} (h : alF b c k = 0) : ∀ {j : Nat}, k ≤ j → alF b c j = 0 := by
  intro j
  induction j with
  | zero => intro hj; rw [show k = 0 by omega] at h; exact h
  | succ j ih =>
    intro hj
    by_cases e : k = j + 1
    · subst e; exact h
    · rw [alF_s, ih (by omega), if_neg (fun y => absurd y.1 (by decide))]
theorem alF_1 {b : Int} {c : Nat → Bool} : ∀ {k : Nat}, alF b c k = 1 ↔ b = 1 ∧ ∀ j : Nat, j < k → c j = true := by
  intro k
  induction k with
  | zero => exact ⟨fun h => ⟨h, fun j hj => absurd hj (by omega)⟩, fun h => h.1⟩
  | succ k ih =>
    rw [alF_s]
    constructor
    · intro h
      by_cases y : alF b c k = 1 ∧ c k = true
      · obtain ⟨a1, a2⟩ := ih.1 y.1
        exact ⟨a1, fun j hj => by
          by_cases e : j = k
          · subst e; exact y.2
          · exact a2 j (by omega)⟩
      · rw [if_neg y] at h; exact absurd h (by decide)
    · intro h
      rw [if_pos ⟨ih.2 ⟨h.1, fun j hj => h.2 j (by omega)⟩, h.2 k (by omega)⟩]
theorem alF_y {b : Int} {c : Nat → Bool} (hb : b = 0 ∨ b = 1) {i : Nat} (h : c i = true) : bA (alF b c i) 1 = alF b c (i + 1) := by
  rw [alF_s]
  rcases alF_01 (c := c) hb i with e | e
  · rw [e, if_neg (fun y => absurd y.1 (by decide))]; decide
  · rw [e, if_pos ⟨rfl, h⟩]; decide
theorem alF_n {b : Int} {c : Nat → Bool} (hb : b = 0 ∨ b = 1) {i : Nat} (h : ¬ c i = true) : bA (alF b c i) 0 = alF b c (i + 1) := by
  rw [alF_s, if_neg (fun y => h y.2)]
  rcases alF_01 (c := c) hb i with e | e
  · rw [e]; decide
  · rw [e]; decide
/-- a head fits its row, as the class asks -/
def HFb (t : Int → Int) (h : Int) : Int := if lowV t h 4 = 67324752 ∧ lowV t (h + 4) 4 = 20 ∧ lowV t (h + 28) 2 = 0 then 1 else 0
def HFc (t : Int → Int) (h r : Int) : Nat → Bool := fun i => decide (t (h + 8 + i) = t (r + 10 + i))
def HFd (t : Int → Int) (h r : Int) : Nat → Bool := fun i => decide (t (h + 30 + i) = t (r + 46 + i))
def HFr (t : Int → Int) (h r : Int) (n : Nat) : Int := alF (alF (HFb t h) (HFc t h r) 20) (HFd t h r) n
theorem sp_fits {A : ms} {sh n : Nat} {h r : Int} (hs : isSh sh) (hx : x ≤ 6000) (h0 : 0 ≤ h) (h1 : h + 30 + n ≤ x) (r0 : 0 ≤ r) (r1 : r + 46 + n ≤ x) (hn : n ≤ 100) (hA : TC A x t) (hL : LabC A (sh + 5) n (fun k => t (r + 46 + k))) : EV q 207 0 [some (.ref sh), some (.ref 2), some (vI h), some (vI r), none, none] [] A (some (vI (HFr t h r n))) A := by
  have hsl := isSh_is hs
  have ht : ∀ k : Int, 0 ≤ k → k < x → 0 ≤ t k ∧ t k < 256 := fun k k0 k1 => (hA k k0 k1).1
  have wn : Unit → w32 ((n : Nat) : Int) = n := fun _ => w32_of (by omega)
  have en : A.1 (sh + 5) 1 = n := by rw [hL.1]; omega
  have hb01 : HFb t h = 0 ∨ HFb t h = 1 := by unfold HFb; split; exact Or.inr rfl; exact Or.inl rfl
  -- the name
  have lp2 : ∀ (m i : Nat), i + m = n → EV q 207 99 [some (.ref sh), some (.ref 2), some (vI h), some (vI r), some (vI (alF (alF (HFb t h) (HFc t h r) 20) (HFd t h r) i)), some (vI i)] [] A (some (vI (HFr t h r n))) A := by
    intro m
    induction m with
    | zero =>
      intro i hi
      have e : i = n := by omega
      subst e
      refine vc_Shelf_headFits_99 _ _ _ _ sh hsl 2 6000 sh_2 ?_
      rw [en]
      exact cY (Int.le_refl _) ⟨alF_01 (alF_01 hb01 20) i, rfl, rfl⟩
    | succ m ih =>
      intro i hi
      have wi : Unit → w32 ((i : Nat) : Int) = i := fun _ => w32_of (by omega)
      have wh : Unit → w32 (h + 30 + (i : Int)) = h + 30 + i := fun _ => w32_of (by omega)
      have g := ih (i + 1) (by omega)
      rw [show ((i + 1 : Nat) : Int) = (i : Int) + 1 by omega] at g
      have a1 := hA (h + 30 + i) (by omega) (by omega)
      have a2 := ht (r + 46 + i) (by omega) (by omega)
      have e6 : A.1 (sh + 6) i = t (r + 46 + i) := hL.2.2 i (by omega) (by omega)
      have w1 : w32 (t (h + 30 + i)) = t (h + 30 + i) := w32_of (by omega)
      have w2 : w32 (t (r + 46 + i)) = t (r + 46 + i) := w32_of (by omega)
      refine vc_Shelf_headFits_99 _ _ _ _ sh hsl 2 6000 sh_2 ?_
      rw [en, wn (), wi (), wh (), a1.2, e6, w1, w2]
      refine cNo (by omega) ⟨by omega, by omega, ?_⟩
      by_cases c : t (h + 30 + i) = t (r + 46 + i)
      · refine cNN c (vc_Shelf_headFits_140 _ _ _ _ _ _ sh hsl 2 6000 sh_2 ?_)
        rw [alF_y (alF_01 hb01 20) (decide_eq_true c)]
        exact g
      · refine cY c (vc_Shelf_headFits_140 _ _ _ _ _ _ sh hsl 2 6000 sh_2 ?_)
        rw [alF_n (alF_01 hb01 20) (fun y => c (of_decide_eq_true y))]
        exact g
  have lp1 : ∀ (m i : Nat), i + m = 20 → EV q 207 52 [some (.ref sh), some (.ref 2), some (vI h), some (vI r), some (vI (alF (HFb t h) (HFc t h r) i)), some (vI i)] [] A (some (vI (HFr t h r n))) A := by
    intro m
    induction m with
    | zero =>
      intro i hi
      have e : i = 20 := by omega
      subst e
      exact vc_Shelf_headFits_52 _ _ _ _ sh hsl 2 6000 sh_2 (cY (by decide) (lp2 n 0 (by omega)))
    | succ m ih =>
      intro i hi
      have wi : Unit → w32 ((i : Nat) : Int) = i := fun _ => w32_of (by omega)
      have wh : Unit → w32 (h + 8 + (i : Int)) = h + 8 + i := fun _ => w32_of (by omega)
      have wr : Unit → w32 (r + 10 + (i : Int)) = r + 10 + i := fun _ => w32_of (by omega)
      have g := ih (i + 1) (by omega)
      rw [show ((i + 1 : Nat) : Int) = (i : Int) + 1 by omega] at g
      have a1 := hA (h + 8 + i) (by omega) (by omega)
      have a2 := hA (r + 10 + i) (by omega) (by omega)
      have w1 : w32 (t (h + 8 + i)) = t (h + 8 + i) := w32_of (by omega)
      have w2 : w32 (t (r + 10 + i)) = t (r + 10 + i) := w32_of (by omega)
      refine vc_Shelf_headFits_52 _ _ _ _ sh hsl 2 6000 sh_2 ?_
      rw [wi (), wh (), wr (), a1.2, a2.2, w1, w2]
      refine cNo (by omega) ⟨by omega, by omega, ?_⟩
      by_cases c : t (h + 8 + i) = t (r + 10 + i)
      · refine cNN c (vc_Shelf_headFits_87 _ _ _ _ _ _ sh hsl 2 6000 sh_2 ?_)
        rw [alF_y hb01 (decide_eq_true c)]
        exact g
      · refine cY c (vc_Shelf_headFits_87 _ _ _ _ _ _ sh hsl 2 6000 sh_2 ?_)
        rw [alF_n hb01 (fun y => c (of_decide_eq_true y))]
        exact g
  have l4 := low4_r (t := t) (x := x) (p := h) (by omega) ht
  have l4' := low4_r (t := t) (x := x) (p := h + 4) (by omega) ht
  have l2 := low2_r (t := t) (x := x) (p := h + 28) (by omega) ht
  have wl4 : w64 (lowV t h 4) = lowV t h 4 := w64_of (by omega)
  have wl4' : w64 (lowV t (h + 4) 4) = lowV t (h + 4) 4 := w64_of (by omega)
  have wl2 : w64 (lowV t (h + 28) 2) = lowV t (h + 28) 2 := w64_of (by omega)
  have g47 := vc_Shelf_headFits_47 (q := q) h r (HFb t h) sh hsl 2 6000 sh_2 (lp1 20 0 (by omega))
  have w20 : w64 20 = 20 := by decide
  have wM : w64 67324752 = 67324752 := by decide
  have w0 : w64 0 = 0 := by decide
  refine vc_Shelf_headFits _ _ sh hsl 2 6000 sh_2 ⟨_, A, cn_low (p := h) (n := 4) h0 (by omega) hx hA, ?_⟩
  rw [wl4, wM]
  by_cases c1 : lowV t h 4 = 67324752
  case neg =>
    rw [show HFb t h = 0 from if_neg (fun y => c1 y.1)] at g47
    exact cY c1 (vc_Shelf_headFits_46 _ _ sh hsl 2 6000 sh_2 g47)
  refine cNN c1 ⟨_, A, cn_low (p := h + 4) (n := 4) (by omega) (by omega) hx hA, ?_⟩
  rw [wl4', w20]
  by_cases c2 : lowV t (h + 4) 4 = 20
  case neg =>
    rw [show HFb t h = 0 from if_neg (fun y => c2 y.2.1)] at g47
    exact cY c2 (vc_Shelf_headFits_46 _ _ sh hsl 2 6000 sh_2 g47)
  refine cNN c2 ⟨_, A, cn_low (p := h + 28) (n := 2) (by omega) (by omega) hx hA, ?_⟩
  rw [wl2, w0]
  by_cases c3 : lowV t (h + 28) 2 = 0
  case neg =>
    rw [show HFb t h = 0 from if_neg (fun y => c3 y.2.2)] at g47
    exact cY c3 (vc_Shelf_headFits_46 _ _ sh hsl 2 6000 sh_2 g47)
  rw [show HFb t h = 1 from if_pos ⟨c1, c2, c3⟩] at g47
  exact cNN c3 g47
end ReaD
