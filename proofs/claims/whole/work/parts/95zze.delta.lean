/-! delta: plain octets by 200, the loop on both sides -/
section Delta3
variable {q : Nat × (Nat → Int32)}
/-- one piece of n plain octets from a on -/
def litw (G : Int → Int) (a : Int) (n : Nat) (w : Wt) : Wt := if n = 0 then w else wtPuts (fun k => G (a + k)) n (wtPut n (wtPut 0 w))
theorem litw_0 (G : Int → Int) (a : Int) (w : Wt) : litw G a 0 w = w := rfl
theorem litw_1 (G : Int → Int) (a : Int) (n : Nat) (w : Wt) : w.1 ≤ (litw G a n w).1 ∧ (litw G a n w).1 ≤ w.1 + n + 2 := by
  unfold litw
  split
  · omega
  · rw [wtPuts_1, wtPut_1, wtPut_1]
    omega
/-- j pieces of 200 -/
def plW (G : Int → Int) (a : Int) : Nat → Wt → Wt
  | 0, w => w
  | j + 1, w => litw G (a + 200 * j) 200 (plW G a j w)
theorem plW_s (G : Int → Int) (a : Int) (j : Nat) (w : Wt) : plW G a (j + 1) w = litw G (a + 200 * j) 200 (plW G a j w) := rfl
theorem plW_1 (G : Int → Int) (a : Int) (w : Wt) : ∀ j : Nat, w.1 ≤ (plW G a j w).1 ∧ (plW G a j w).1 ≤ w.1 + 202 * j
  | 0 => by
    show w.1 ≤ w.1 ∧ w.1 ≤ w.1 + 202 * ((0 : Nat) : Int)
    omega
  | j + 1 => by
    rw [plW_s]
    have h1 := plW_1 G a w j
    have h2 := litw_1 G (a + 200 * j) 200 (plW G a j w)
    omega
/-- deltaLiterals(other, a, a + n, out) -/
theorem cw_lit {A : ms} {o a1 : Nat} {w : Wt} {G : Int → Int} {a m : Int} {n : Nat} (ha : isRow a1 12000) (ho : isRow o 12000) (hne : a1 + 1 ≠ o) (ha0 : 0 ≤ a) (hm : a + n ≤ m) (hm2 : m ≤ 12000) (hG : ∀ k : Int, 0 ≤ k → k < m → (0 ≤ G k ∧ G k < 256) ∧ A.1 (a1 + 1) k = G k) (hne2 : a1 ≠ o) (hw : 0 ≤ w.1) (h : CWt A o 12000 w) : ∃ A', EV q 219 0 [some (.ref a1), some (vI a), some (vI (a + n)), some (.ref o)] [] A none A' ∧ EX (XRo o) A A' ∧ CWt A' o 12000 (litw G a n w) := by
  have wa : w32 a = a := w32_of (by omega)
  have wb : Unit → w32 (a + (n : Int)) = a + n := fun _ => w32_of (by omega)
  unfold litw
  by_cases c : n = 0
  · subst c
    rw [if_pos rfl]
    refine ⟨A, vc_Copies_deltaLiterals _ _ _ _ ha _ _ ho ?_, EX.refl _ _, h⟩
    rw [wb (), wa]
    exact cY (by omega) ⟨rfl, rfl⟩
  · rw [if_neg c]
    obtain ⟨A1, k1, k2, k3⟩ := cw_put (q := q) 0 ho (by decide) hw h
    obtain ⟨A2, k4, k5, k6⟩ := cw_put (q := q) n ho (by decide) (by rw [wtPut_1]; omega) k3
    have ex2 : EX (XRo o) A A2 := k2.trans k5
    obtain ⟨b, eb⟩ : ∃ b : Nat, a = b := ⟨a.toNat, by omega⟩
    obtain ⟨A3, k7, k8, k9⟩ := cw_span (q := q) (A := A2) (a1 := a1 + 1) (n1 := 12000) (b := b) (n := n) (g := fun k => G (a + k)) ha.2 (by omega) (by decide) (fun k hk => by
      have := hG (a + k) (by omega) (by omega)
      refine ⟨this.1, ?_⟩
      rw [← eb, ex2.2 _ _ (by unfold XRo; omega)]
      exact this.2) ho (by decide) (by rw [wtPut_1, wtPut_1]; omega) k6
    rw [← eb] at k7
    refine ⟨A3, vc_Copies_deltaLiterals _ _ _ _ ha _ _ ho ?_, ex2.trans k8, k9⟩
    rw [wb (), wa]
    refine cNo (by omega) ⟨A1, k1, A2, ?_, A3, k7, rfl, rfl⟩
    rw [show a + (n : Int) - a = n by omega]
    exact k4
def XL (a : Nat) (k : Int) : Prop := (a = 367 ∧ (k = 9 ∨ k = 26 ∨ k = 27)) ∨ a = 374
theorem XW_XL : ∀ a k, XW a k → XL a k := fun a k h => by
  unfold XW at h
  unfold XL
  omega
/-- plainOctets(t, a, a + 200 j + r) -/
theorem mw_plain {B : ms} {w : Wt} {G : Int → Int} {a m t : Int} {j r : Nat} (ht : 1 ≤ t ∧ t ≤ 12) (ha0 : 0 ≤ a) (hm : a + 200 * j + r ≤ m) (hr : r ≤ 200) (hm2 : m ≤ 12000) (hG : ∀ k : Int, 0 ≤ k → k < m → (0 ≤ G k ∧ G k < 256) ∧ B.1 369 (12000 * t + k) = b8 (G k)) (hw : 0 ≤ w.1 ∧ w.1 < 100000) (h : MWt B w) : ∃ B', EV q 405 0 [some (.ref 367), some (vI t), some (vI a), some (vI (a + 200 * j + r)), none, none, none] [] B none B' ∧ EX XW B B' ∧ MWt B' (litw G (a + 200 * j) r (plW G a j w)) := by
  obtain ⟨e, ee⟩ : ∃ e : Int, e = a + 200 * j + r := ⟨_, rfl⟩
  rw [← ee]
  have we : w32 e = e := w32_of (by omega)
  -- a piece of n octets from p on
  have piece : ∀ (B1 : ms) (p : Int) (n : Nat) (w1 : Wt), 0 ≤ p → p + n ≤ m → n ≤ 200 → (0 ≤ w1.1 ∧ w1.1 < 200000) → EX XW B B1 → MWt B1 w1 → n ≠ 0 → ∃ B2, EX XW B B2 ∧ MWt B2 (litw G p n w1) ∧ ∀ (rr : Option Value) (B' : ms), EV q 405 3 [some (.ref 367), some (vI t), some (vI a), some (vI e), some (vI (p + n)), none, none] [] B2 rr B' → EV q 405 29 [some (.ref 367), some (vI t), some (vI a), some (vI e), some (vI p), none, none] [vI n] B1 rr B' := by
    intro B1 p n w1 p0 pn n2 hw1 e1 h1 n0
    obtain ⟨B2, k1, k2, k3⟩ := mw_put (q := q) 0 (by omega) h1
    obtain ⟨B3, k4, k5, k6⟩ := mw_put (q := q) n (by rw [wtPut_1]; omega) k3
    have lp : ∀ (v i : Nat) (U : ms), i + v = n → EX XW B U → MWt U (wtPuts (fun k => G (p + k)) i (wtPut n (wtPut 0 w1))) → ∃ B4, EX XW B B4 ∧ MWt B4 (wtPuts (fun k => G (p + k)) n (wtPut n (wtPut 0 w1))) ∧ ∀ (rr : Option Value) (B' : ms), EV q 405 3 [some (.ref 367), some (vI t), some (vI a), some (vI e), some (vI (p + n)), none, none] [] B4 rr B' → EV q 405 45 [some (.ref 367), some (vI t), some (vI a), some (vI e), some (vI p), some (vI n), some (vI i)] [] U rr B' := by
      intro v
      induction v with
      | zero =>
        intro i U hi hU hh
        have ei : i = n := by omega
        subst ei
        exact ⟨U, hU, hh, fun rr B' k => vc_MD_plainOctets_45 _ _ _ _ _ _ (cY (Int.le_refl _) k)⟩
      | succ v ih =>
        intro i U hi hU hh
        have wn : Unit → w32 ((n : Nat) : Int) = n := fun _ => w32_of (by omega)
        have wi : Unit → w32 ((i : Nat) : Int) = i := fun _ => w32_of (by omega)
        have wp : Unit → w32 (12000 * t + p + (i : Int)) = 12000 * t + p + i := fun _ => w32_of (by omega)
        have z0 : ¬ (n : Int) ≤ i := by omega
        have g := hG (p + i) (by omega) (by omega)
        have eg : U.1 369 (12000 * t + p + i) = b8 (G (p + i)) := by
          rw [hU.2 _ _ (by unfold XW; omega), Int.add_assoc]
          exact g.2
        obtain ⟨U2, j1, j2, j3⟩ := mw_put (q := q) (b8 (G (p + i))) (by rw [wtPuts_1, wtPut_1, wtPut_1]; omega) hh
        rw [wtPut_m (show b8 (G (p + i)) % 256 = G (p + i) % 256 by unfold b8; omega), ← wtPuts_s (fun k : Nat => G (p + k))] at j3
        obtain ⟨B4, i1, i2, i3⟩ := ih (i + 1) U2 (by omega) (hU.trans j2) j3
        refine ⟨B4, i1, i2, fun rr B' k => vc_MD_plainOctets_45 _ _ _ _ _ _ ?_⟩
        have i4 := i3 rr B' k
        rw [show ((i + 1 : Nat) : Int) = (i : Int) + 1 by omega] at i4
        rw [wn (), wi (), wp (), eg]
        exact cNo z0 ⟨by omega, U2, j1, i4⟩
    obtain ⟨B4, i1, i2, i3⟩ := lp n 0 B3 (by omega) ((e1.trans k2).trans k5) k6
    refine ⟨B4, i1, ?_, fun rr B' k => vc_MD_plainOctets_29 _ _ _ _ _ ⟨B2, k1, B3, k4, i3 rr B' k⟩⟩
    unfold litw
    rw [if_neg n0]
    exact i2
  have lp : ∀ (v k : Nat) (U : ms), k + v = j → EX XW B U → MWt U (plW G a k w) → ∃ B', EV q 405 3 [some (.ref 367), some (vI t), some (vI a), some (vI e), some (vI (a + 200 * k)), none, none] [] U none B' ∧ EX XW B B' ∧ MWt B' (litw G (a + 200 * j) r (plW G a j w)) := by
    intro v
    induction v with
    | zero =>
      intro k U hk hU h1
      have ek : k = j := by omega
      subst ek
      have wp : Unit → w32 (a + 200 * (k : Int)) = a + 200 * k := fun _ => w32_of (by omega)
      have wd : Unit → w32 (e - (a + 200 * (k : Int))) = r := fun _ => by
        rw [show e - (a + 200 * (k : Int)) = r by omega]
        exact w32_of (by omega)
      by_cases c : r = 0
      · refine ⟨U, vc_MD_plainOctets_3 _ _ _ _ ?_, hU, by rw [c, litw_0]; exact h1⟩
        rw [we, wp ()]
        exact cY (by omega) ⟨rfl, rfl⟩
      · have pw := plW_1 G a w k
        obtain ⟨B2, i1, i2, i3⟩ := piece U (a + 200 * k) r _ (by omega) hm hr (by omega) hU h1 c
        have last : EV q 405 3 [some (.ref 367), some (vI t), some (vI a), some (vI e), some (vI (a + 200 * (k : Int) + r)), none, none] [] B2 none B2 := by
          refine vc_MD_plainOctets_3 _ _ _ _ ?_
          rw [← ee]
          exact cY (Int.le_refl _) ⟨rfl, rfl⟩
        refine ⟨B2, vc_MD_plainOctets_3 _ _ _ _ ?_, i1, i2⟩
        have g := i3 _ _ last
        rw [we, wp (), wd ()]
        refine cNo (by omega) ⟨fun y => ?_, fun y => ?_⟩
        · have er : r = 200 := by omega
          subst er
          exact g
        · rw [show e - (a + 200 * (k : Int)) = r by omega]
          exact g
    | succ v ih =>
      intro k U hk hU h1
      have wp : Unit → w32 (a + 200 * (k : Int)) = a + 200 * k := fun _ => w32_of (by omega)
      have wd : Unit → w32 (e - (a + 200 * (k : Int))) = e - (a + 200 * (k : Int)) := fun _ => w32_of (by omega)
      have pw := plW_1 G a w k
      obtain ⟨B2, i1, i2, i3⟩ := piece U (a + 200 * k) 200 _ (by omega) (by omega) (by omega) (by omega) hU h1 (by decide)
      rw [← plW_s] at i2
      obtain ⟨B', g1, g2⟩ := ih (k + 1) B2 (by omega) i1 i2
      rw [show a + 200 * ((k + 1 : Nat) : Int) = a + 200 * (k : Int) + ((200 : Nat) : Int) by omega] at g1
      refine ⟨B', vc_MD_plainOctets_3 _ _ _ _ ?_, g2⟩
      rw [we, wp (), wd ()]
      exact cNo (by omega) (cY (by omega) (i3 _ _ g1))
  obtain ⟨B', k1, k2⟩ := lp j 0 B (by omega) (EX.refl _ _) h
  refine ⟨B', vc_MD_plainOctets _ _ _ ?_, k2⟩
  rw [show a + 200 * ((0 : Nat) : Int) = a by omega] at k1
  exact k1
end Delta3
