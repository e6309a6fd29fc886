/-! read: a BOX's heads, the reference -/
section ReaE
variable {q : Nat × (Nat → Int32)} {x p : Int} {t : Int → Int}
def HMb (t : Int → Int) (h r : Int) (n : Nat) : Int := if lowV t h 4 = 67324752 ∧ lowV t (h + 4) 2 = 20 ∧ lowV t (h + 6) 2 = 0 ∧ lowV t (h + 28) 2 = 0 ∧ lowV t (h + 8) 2 = lowV t (r + 10) 2 ∧ lowV t (h + 26) 2 = n then 1 else 0
def HMc (t : Int → Int) (h r : Int) : Nat → Bool := fun i => decide (t (h + 10 + i) = t (r + 12 + i))
theorem HM_HF {h r : Int} {n : Nat} (h0 : 0 ≤ h) (h1 : h + 30 ≤ x) (r0 : 0 ≤ r) (r1 : r + 46 ≤ x) (ht : ∀ k : Int, 0 ≤ k → k < x → 0 ≤ t k ∧ t k < 256) (hn : lowV t (r + 28) 2 = n) : alF (HMb t h r n) (HMc t h r) 16 = alF (HFb t h) (HFc t h r) 20 := by
  have m01 : HMb t h r n = 0 ∨ HMb t h r n = 1 := by unfold HMb; split; exact Or.inr rfl; exact Or.inl rfl
  have f01 : HFb t h = 0 ∨ HFb t h = 1 := by unfold HFb; split; exact Or.inr rfl; exact Or.inl rfl
  have T : ∀ k : Int, 0 ≤ k → k < x → 0 ≤ t k ∧ t k < 256 := ht
  have L2 : ∀ k : Int, 0 ≤ k → k + 2 ≤ x → lowV t k 2 = t k + 256 * t (k + 1) := fun k k0 k1 => low2 (T k k0 (by omega)) (T (k + 1) (by omega) (by omega))
  have e4 : lowV t (h + 4) 4 = 20 ↔ lowV t (h + 4) 2 = 20 ∧ lowV t (h + 6) 2 = 0 := by
    rw [L2 (h + 4) (by omega) (by omega), L2 (h + 6) (by omega) (by omega), low4 (T _ (by omega) (by omega)) (T _ (by omega) (by omega)) (T _ (by omega) (by omega)) (T _ (by omega) (by omega)), show h + 4 + 2 = h + 6 by omega, show h + 4 + 3 = h + 6 + 1 by omega]
    have a := T (h + 4) (by omega) (by omega)
    have b := T (h + 4 + 1) (by omega) (by omega)
    have c := T (h + 6) (by omega) (by omega)
    have d := T (h + 6 + 1) (by omega) (by omega)
    omega
  have e8 : lowV t (h + 8) 2 = lowV t (r + 10) 2 ↔ t (h + 8) = t (r + 10) ∧ t (h + 9) = t (r + 11) := by
    rw [L2 (h + 8) (by omega) (by omega), L2 (r + 10) (by omega) (by omega), show h + 8 + 1 = h + 9 by omega, show r + 10 + 1 = r + 11 by omega]
    have a := T (h + 8) (by omega) (by omega)
    have b := T (h + 9) (by omega) (by omega)
    have c := T (r + 10) (by omega) (by omega)
    have d := T (r + 11) (by omega) (by omega)
    omega
  have e26 : lowV t (h + 26) 2 = n ↔ t (h + 26) = t (r + 28) ∧ t (h + 27) = t (r + 29) := by
    rw [← hn, L2 (h + 26) (by omega) (by omega), L2 (r + 28) (by omega) (by omega), show h + 26 + 1 = h + 27 by omega, show r + 28 + 1 = r + 29 by omega]
    have a := T (h + 26) (by omega) (by omega)
    have b := T (h + 27) (by omega) (by omega)
    have c := T (r + 28) (by omega) (by omega)
    have d := T (r + 29) (by omega) (by omega)
    omega
  have mb1 : HMb t h r n = 1 ↔ lowV t h 4 = 67324752 ∧ lowV t (h + 4) 2 = 20 ∧ lowV t (h + 6) 2 = 0 ∧ lowV t (h + 28) 2 = 0 ∧ lowV t (h + 8) 2 = lowV t (r + 10) 2 ∧ lowV t (h + 26) 2 = n := by
    unfold HMb
    constructor
    · intro y; split at y
      · assumption
      · exact absurd y (by decide)
    · intro y; rw [if_pos y]
  have fb1 : HFb t h = 1 ↔ lowV t h 4 = 67324752 ∧ lowV t (h + 4) 4 = 20 ∧ lowV t (h + 28) 2 = 0 := by
    unfold HFb
    constructor
    · intro y; split at y
      · assumption
      · exact absurd y (by decide)
    · intro y; rw [if_pos y]
  have key : alF (HMb t h r n) (HMc t h r) 16 = 1 ↔ alF (HFb t h) (HFc t h r) 20 = 1 := by
    rw [alF_1, alF_1, mb1, fb1]
    constructor
    · intro ⟨⟨y1, y2, y3, y4, y5, y6⟩, y7⟩
      refine ⟨⟨y1, e4.2 ⟨y2, y3⟩, y4⟩, fun j hj => decide_eq_true ?_⟩
      have z8 := e8.1 y5
      have z26 := e26.1 y6
      by_cases a : j < 2
      · have : j = 0 ∨ j = 1 := by omega
        rcases this with rfl | rfl
        · rw [show h + 8 + ((0 : Nat) : Int) = h + 8 from Int.add_zero _, show r + 10 + ((0 : Nat) : Int) = r + 10 from Int.add_zero _]; exact z8.1
        · rw [show h + 8 + ((1 : Nat) : Int) = h + 9 by omega, show r + 10 + ((1 : Nat) : Int) = r + 11 by omega]; exact z8.2
      · by_cases b : j < 18
        · have z := of_decide_eq_true (y7 (j - 2) (by omega))
          rw [show h + 10 + ((j - 2 : Nat) : Int) = h + 8 + j by omega, show r + 12 + ((j - 2 : Nat) : Int) = r + 10 + j by omega] at z
          exact z
        · have : j = 18 ∨ j = 19 := by omega
          rcases this with rfl | rfl
          · rw [show h + 8 + ((18 : Nat) : Int) = h + 26 by omega, show r + 10 + ((18 : Nat) : Int) = r + 28 by omega]; exact z26.1
          · rw [show h + 8 + ((19 : Nat) : Int) = h + 27 by omega, show r + 10 + ((19 : Nat) : Int) = r + 29 by omega]; exact z26.2
    · intro ⟨⟨y1, y2, y3⟩, y4⟩
      have g : ∀ j : Nat, j < 20 → t (h + 8 + j) = t (r + 10 + j) := fun j hj => of_decide_eq_true (y4 j hj)
      obtain ⟨z1, z2⟩ := e4.1 y2
      refine ⟨⟨y1, z1, z2, y3, e8.2 ⟨?_, ?_⟩, e26.2 ⟨?_, ?_⟩⟩, fun j hj => decide_eq_true ?_⟩
      · have z := g 0 (by omega)
        rw [show h + 8 + ((0 : Nat) : Int) = h + 8 from Int.add_zero _, show r + 10 + ((0 : Nat) : Int) = r + 10 from Int.add_zero _] at z
        exact z
      · have z := g 1 (by omega)
        rw [show h + 8 + ((1 : Nat) : Int) = h + 9 by omega, show r + 10 + ((1 : Nat) : Int) = r + 11 by omega] at z
        exact z
      · have z := g 18 (by omega)
        rw [show h + 8 + ((18 : Nat) : Int) = h + 26 by omega, show r + 10 + ((18 : Nat) : Int) = r + 28 by omega] at z
        exact z
      · have z := g 19 (by omega)
        rw [show h + 8 + ((19 : Nat) : Int) = h + 27 by omega, show r + 10 + ((19 : Nat) : Int) = r + 29 by omega] at z
        exact z
      · have z := g (j + 2) (by omega)
        rw [show h + 8 + ((j + 2 : Nat) : Int) = h + 10 + j by omega, show r + 10 + ((j + 2 : Nat) : Int) = r + 12 + j by omega] at z
        exact z
  have a := alF_01 (c := HMc t h r) m01 16
  have b := alF_01 (c := HFc t h r) f01 20
  rcases a with a | a
  · rcases b with b | b
    · rw [a, b]
    · have := key.2 b; rw [a] at this; exact absurd this (by decide)
  · rw [a, key.1 a]
theorem md_fits {B : ms} {n : Nat} {h r : Int} (hx : x ≤ 6000) (h0 : 0 ≤ h) (h1 : h + 30 + n ≤ x) (r0 : 0 ≤ r) (r1 : r + 46 + n ≤ x) (hn : n ≤ 100) (hnr : lowV t (r + 28) 2 = n) (hB : TM B x t) {x2 x4 x6 x8 : Int} {R : Option Value} {T : ms} (fin : ∀ x12 : Int, EV q 402 294 [some (.ref 367), some (vI r), some (vI x2), some (vI n), some (vL x4), none, some (vL x6), none, some (vL x8), none, some (vI (HFr t h r n)), some (vI h), some (vI x12), none, none, none, none] [] B R T) : EV q 402 70 [some (.ref 367), some (vI r), some (vI x2), some (vI n), some (vL x4), none, some (vL x6), none, some (vL x8), none, some (vI 1), none, none, none, none, none, none] [vI h] B R T := by
  have ht : ∀ k : Int, 0 ≤ k → k < x → 0 ≤ t k ∧ t k < 256 := fun k k0 k1 => (hB k k0 k1).1
  have m01 : HMb t h r n = 0 ∨ HMb t h r n = 1 := by unfold HMb; split; exact Or.inr rfl; exact Or.inl rfl
  have eq := HM_HF h0 (by omega) r0 (by omega) ht hnr
  unfold HFr at fin
  rw [← eq] at fin
  have wn : Unit → w32 ((n : Nat) : Int) = n := fun _ => w32_of (by omega)
  have wd : ∀ v : Int, v = 0 ∨ v = 1 → w32 v = v := fun v hv => by rcases hv with rfl | rfl <;> decide
  -- the name
  have lp2 : ∀ (m i : Nat), i + m = n → EV q 402 242 [some (.ref 367), some (vI r), some (vI x2), some (vI n), some (vL x4), none, some (vL x6), none, some (vL x8), none, some (vI (alF (alF (HMb t h r n) (HMc t h r) 16) (HFd t h r) i)), some (vI h), some (vI i), none, none, none, none] [] B R T := by
    intro m
    induction m with
    | zero =>
      intro i hi
      have e : i = n := by omega
      subst e
      exact vc_MD_boxHead_242 _ _ _ _ _ _ _ _ _ (cY (Int.le_refl _) (fin _))
    | succ m ih =>
      intro i hi
      have wi : Unit → w32 ((i : Nat) : Int) = i := fun _ => w32_of (by omega)
      have wh : Unit → w32 (h + 30 + (i : Int)) = h + 30 + i := fun _ => w32_of (by omega)
      have wr : Unit → w32 (r + 46 + (i : Int)) = r + 46 + i := fun _ => w32_of (by omega)
      have g := ih (i + 1) (by omega)
      rw [show ((i + 1 : Nat) : Int) = (i : Int) + 1 by omega] at g
      have a1 := hB (h + 30 + i) (by omega) (by omega)
      have a2 := hB (r + 46 + i) (by omega) (by omega)
      have v01 := alF_01 (c := HFd t h r) (alF_01 (c := HMc t h r) m01 16) i
      refine vc_MD_boxHead_242 _ _ _ _ _ _ _ _ _ ?_
      rw [wn (), wi (), wd _ v01]
      refine cNo (by omega) ?_
      rcases v01 with e | e
      · have z := alF_0 e (show i ≤ n by omega)
        rw [z] at fin
        rw [e]
        exact cY rfl (fin _)
      · rw [e, wh (), wr (), a1.2, a2.2]
        refine cNo (by decide) ⟨by omega, by omega, ?_⟩
        by_cases c : t (h + 30 + i) = t (r + 46 + i)
        · rw [alF_s, if_pos ⟨e, decide_eq_true c⟩] at g
          exact cNN (by rw [c]) (vc_MD_boxHead_286 _ _ _ _ _ _ _ _ _ _ g)
        · rw [alF_s, if_neg (fun y => c (of_decide_eq_true y.2))] at g
          refine cY (fun y => c ?_) (vc_MD_boxHead_286 _ _ _ _ _ _ _ _ _ _ g)
          rw [w32_of (by have := b8_rg (t (h + 30 + i)); omega), w32_of (by have := b8_rg (t (r + 46 + i)); omega)] at y
          unfold b8 at y
          omega
  have k239 : ∀ x12 : Int, EV q 402 239 [some (.ref 367), some (vI r), some (vI x2), some (vI n), some (vL x4), none, some (vL x6), none, some (vL x8), none, some (vI (alF (HMb t h r n) (HMc t h r) 16)), some (vI h), some (vI x12), none, none, none, none] [] B R T := fun x12 => vc_MD_boxHead_239 _ _ _ _ _ _ _ _ _ (lp2 n 0 (by omega))
  have lp1 : ∀ (m i : Nat), i + m = 16 → EV q 402 186 [some (.ref 367), some (vI r), some (vI x2), some (vI n), some (vL x4), none, some (vL x6), none, some (vL x8), none, some (vI (alF (HMb t h r n) (HMc t h r) i)), some (vI h), some (vI i), none, none, none, none] [] B R T := by
    intro m
    induction m with
    | zero =>
      intro i hi
      have e : i = 16 := by omega
      subst e
      exact vc_MD_boxHead_186 _ _ _ _ _ _ _ _ _ (cY (by decide) (k239 _))
    | succ m ih =>
      intro i hi
      have wi : Unit → w32 ((i : Nat) : Int) = i := fun _ => w32_of (by omega)
      have wh : Unit → w32 (h + 10 + (i : Int)) = h + 10 + i := fun _ => w32_of (by omega)
      have wr : Unit → w32 (r + 12 + (i : Int)) = r + 12 + i := fun _ => w32_of (by omega)
      have g := ih (i + 1) (by omega)
      rw [show ((i + 1 : Nat) : Int) = (i : Int) + 1 by omega] at g
      have a1 := hB (h + 10 + i) (by omega) (by omega)
      have a2 := hB (r + 12 + i) (by omega) (by omega)
      have v01 := alF_01 (c := HMc t h r) m01 i
      refine vc_MD_boxHead_186 _ _ _ _ _ _ _ _ _ ?_
      rw [wi (), wd _ v01]
      refine cNo (by omega) ?_
      rcases v01 with e | e
      · have z := alF_0 e (show i ≤ 16 by omega)
        have k := k239 i
        rw [z] at k
        rw [e]
        exact cY rfl k
      · rw [e, wh (), wr (), a1.2, a2.2]
        refine cNo (by decide) ⟨by omega, by omega, ?_⟩
        by_cases c : t (h + 10 + i) = t (r + 12 + i)
        · rw [alF_s, if_pos ⟨e, decide_eq_true c⟩] at g
          exact cNN (by rw [c]) (vc_MD_boxHead_231 _ _ _ _ _ _ _ _ _ _ g)
        · rw [alF_s, if_neg (fun y => c (of_decide_eq_true y.2))] at g
          refine cY (fun y => c ?_) (vc_MD_boxHead_231 _ _ _ _ _ _ _ _ _ _ g)
          rw [w32_of (by have := b8_rg (t (h + 10 + i)); omega), w32_of (by have := b8_rg (t (r + 12 + i)); omega)] at y
          unfold b8 at y
          omega
  have g181 : ∀ x10 : Int, EV q 402 181 [some (.ref 367), some (vI r), some (vI x2), some (vI n), some (vL x4), none, some (vL x6), none, some (vL x8), none, some (vI x10), some (vI h), none, none, none, none, none] [vI (HMb t h r n)] B R T := fun x10 => vc_MD_boxHead_181 _ _ _ _ _ _ _ _ _ (lp1 16 0 (by omega))
  have g180 : HMb t h r n = 0 → EV q 402 180 [some (.ref 367), some (vI r), some (vI x2), some (vI n), some (vL x4), none, some (vL x6), none, some (vL x8), none, some (vI 1), some (vI h), none, none, none, none, none] [] B R T := fun e => vc_MD_boxHead_180 _ _ _ _ _ _ _ _ (by have := g181 1; rw [e] at this; exact this)
  have wl2 : ∀ k : Int, 0 ≤ k → k + 2 ≤ x → w64 (lowV t k 2) = lowV t k 2 := fun k k0 k1 => w64_of (by have := low2_r (t := t) (x := x) (p := k) (by omega) ht; omega)
  have wl4 : w64 (lowV t h 4) = lowV t h 4 := w64_of (by have := low4_r (t := t) (x := x) (p := h) (by omega) ht; omega)
  refine vc_MD_boxHead_70 _ _ _ _ _ _ _ _ (cNo (by decide) ⟨_, B, mn_low (p := h) (n := 4) h0 (by omega) hx hB, ?_⟩)
  rw [wl4, show w64 67324752 = 67324752 by decide]
  by_cases c1 : lowV t h 4 = 67324752
  case neg => exact cY c1 (g180 (if_neg (fun y => c1 y.1)))
  refine cNN c1 ⟨_, B, mn_low (p := h + 4) (n := 2) (by omega) (by omega) hx hB, ?_⟩
  rw [wl2 (h + 4) (by omega) (by omega), show w64 20 = 20 by decide]
  by_cases c2 : lowV t (h + 4) 2 = 20
  case neg => exact cY c2 (g180 (if_neg (fun y => c2 y.2.1)))
  refine cNN c2 ⟨_, B, mn_low (p := h + 6) (n := 2) (by omega) (by omega) hx hB, ?_⟩
  rw [wl2 (h + 6) (by omega) (by omega), show w64 0 = 0 by decide]
  by_cases c3 : lowV t (h + 6) 2 = 0
  case neg => exact cY c3 (g180 (if_neg (fun y => c3 y.2.2.1)))
  refine cNN c3 ⟨_, B, mn_low (p := h + 28) (n := 2) (by omega) (by omega) hx hB, ?_⟩
  rw [wl2 (h + 28) (by omega) (by omega)]
  by_cases c4 : lowV t (h + 28) 2 = 0
  case neg => exact cY c4 (g180 (if_neg (fun y => c4 y.2.2.2.1)))
  refine cNN c4 ⟨_, B, mn_low (p := h + 8) (n := 2) (by omega) (by omega) hx hB, _, B, mn_low (p := r + 10) (n := 2) (by omega) (by omega) hx hB, ?_⟩
  rw [wl2 (h + 8) (by omega) (by omega), wl2 (r + 10) (by omega) (by omega)]
  by_cases c5 : lowV t (h + 8) 2 = lowV t (r + 10) 2
  case neg => exact cY c5 (g180 (if_neg (fun y => c5 y.2.2.2.2.1)))
  refine cNN c5 ⟨_, B, mn_low (p := h + 26) (n := 2) (by omega) (by omega) hx hB, ?_⟩
  rw [wl2 (h + 26) (by omega) (by omega), wn (), show w64 ((n : Nat) : Int) = n from w64_of (by omega)]
  by_cases c6 : lowV t (h + 26) 2 = n
  case neg => exact cY c6 (g180 (if_neg (fun y => c6 y.2.2.2.2.2)))
  have k := g181 1
  rw [show HMb t h r n = 1 from if_pos ⟨c1, c2, c3, c4, c5, c6⟩] at k
  exact cNN c6 k
end ReaE
