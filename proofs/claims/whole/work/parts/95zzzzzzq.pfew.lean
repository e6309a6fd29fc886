/-! pack: BLOCKS; the parse with the fewest bits, all -/
section PFewB
variable {q : Nat × (Nat → Int32)} {x : Int} {t n0 d0 : Int → Int} {ld : Int → Int → Int}
def fwA (x : Int) (t n0 : Int → Int) (ld : Int → Int → Int) : Nat → Int → Int × Int × Int
  | 0, _ => (0, 0, 0)
  | j + 1, k => if k = x - 1 - j then fwR (fun i => (fwA x t n0 ld j i).1) k (ld k) (flF (t k) + (fwA x t n0 ld j (k + 1)).1, 1, 0) (n0 k - 2).toNat else fwA x t n0 ld j k
theorem fwA_at (j : Nat) {k : Int} (h : k = x - 1 - j) : fwA x t n0 ld (j + 1) k = fwR (fun i => (fwA x t n0 ld j i).1) k (ld k) (flF (t k) + (fwA x t n0 ld j (k + 1)).1, 1, 0) (n0 k - 2).toNat := if_pos h
theorem fwA_no (j : Nat) {k : Int} (h : k ≠ x - 1 - j) : fwA x t n0 ld (j + 1) k = fwA x t n0 ld j k := if_neg h
theorem fwA_r (hx : 0 ≤ x ∧ x ≤ 6000) (hL : ∀ p : Int, 0 ≤ p → p < x → LM t p (min 258 (x - p)) (n0 p) (d0 p)) (hD : ∀ p : Int, 0 ≤ p → p < x → LD t p (n0 p) (ld p)) : ∀ j : Nat, (j : Int) ≤ x → ∀ k : Int, x - j ≤ k → k ≤ x → (0 ≤ (fwA x t n0 ld j k).1 ∧ (fwA x t n0 ld j k).1 ≤ 9 * (x - k)) ∧ (k < x → ((fwA x t n0 ld j k).2.1 = 1 ∧ (fwA x t n0 ld j k).2.2 = 0) ∨ ((3 ≤ (fwA x t n0 ld j k).2.1 ∧ (fwA x t n0 ld j k).2.1 ≤ n0 k) ∧ 1 ≤ (fwA x t n0 ld j k).2.2 ∧ (fwA x t n0 ld j k).2.2 ≤ k))
  | 0, _, k, h1, h2 => by
    have e : fwA x t n0 ld 0 k = (0, 0, 0) := rfl
    rw [e]
    exact ⟨by show (0 : Int) ≤ 0 ∧ (0 : Int) ≤ 9 * (x - k); omega, fun y => absurd y (by omega)⟩
  | j + 1, hj, k, h1, h2 => by
    have ih := fwA_r hx hL hD j (by omega)
    by_cases e : k = x - 1 - j
    · rw [fwA_at j e]
      have n1 := (hL k (by omega) (by omega)).1
      have c1 := (ih (k + 1) (by omega) (by omega)).1
      have fl := flF_rg (t k)
      have r := fwR_r (t := t) (C := fun i => (fwA x t n0 ld j i).1) (p := k) (n := n0 k) (x := x) (ld := ld k) (z := (flF (t k) + (fwA x t n0 ld j (k + 1)).1, 1, 0)) (fun i i0 i1 => by
        have := (ih i (by omega) i1).1
        show 0 ≤ (fwA x t n0 ld j i).1 ∧ (fwA x t n0 ld j i).1 ≤ 60000
        omega) (by omega) (hD k (by omega) (by omega)) (by omega) ⟨by show 0 ≤ flF (t k) + (fwA x t n0 ld j (k + 1)).1 ∧ flF (t k) + (fwA x t n0 ld j (k + 1)).1 ≤ 60010; omega, rfl, rfl⟩ (n0 k - 2).toNat (by omega)
      exact ⟨⟨r.1.1, Int.le_trans r.1.2 (by show flF (t k) + (fwA x t n0 ld j (k + 1)).1 ≤ 9 * (x - k); omega)⟩, fun _ => r.2⟩
    · rw [fwA_no j e]
      exact ih k (by omega) h2
/-- a match at a place is one at the next, less an octet -/
theorem n0_step (hL : ∀ p : Int, 0 ≤ p → p < x → LM t p (min 258 (x - p)) (n0 p) (d0 p)) {p : Int} (hp : 0 ≤ p ∧ p + 1 < x) : n0 p ≤ 1 + n0 (p + 1) := by
  have h := hL p hp.1 (by omega)
  have h' := hL (p + 1) (by omega) hp.2
  have a1 := h.1
  have b1 := h'.1
  by_cases c : n0 p ≤ 1 + n0 (p + 1)
  · exact c
  exfalso
  obtain ⟨c1, c2, -⟩ := h.2.2.1 (by omega)
  refine h'.2.1 (by omega) (d0 p) c1.1 (by omega) (fun j j0 j1 => ?_)
  have := c2 (j + 1) (by omega) (by omega)
  rw [show p + (j + 1) = p + 1 + j by omega] at this
  exact this
/-- the class's rows from place x - j on -/
def CFw (A : ms) (x : Int) (F : Int → Int × Int × Int) (j : Nat) : Prop := ∀ k : Int, x - j ≤ k → k ≤ x → A.1 19 k = (F k).1 ∧ (k < x → A.1 20 k = (F k).2.1 ∧ A.1 21 k = (F k).2.2)
def mostF (x : Int) (n0 : Int → Int) (j : Nat) : Int := if j = 0 then 258 else 1 + if 3 ≤ n0 (x - j) then n0 (x - j) else 2
def XFa (a : Nat) (_ : Int) : Prop := a = 19 ∨ a = 20 ∨ a = 21
theorem cl_fewD {A : ms} {c N a1 na : Nat} (ha : isRow a1 na) (hx : 0 ≤ x ∧ x ≤ 6000) (hL : ∀ p : Int, 0 ≤ p → p < x → LM t p (min 258 (x - p)) (n0 p) (d0 p)) (hD : ∀ p : Int, 0 ≤ p → p < x → LD t p (n0 p) (ld p)) (h93 : ∀ s : Int, 3 ≤ s → s ≤ 258 → A.1 93 s = prL s) (hA : FD A c N x t) : ∀ (v j : Nat) (U : ms), (j : Int) + v = x → EX XFa A U → CFw U x (fwA x t n0 ld j) j → ∃ A', EX XFa A A' ∧ CFw A' x (fwA x t n0 ld x.toNat) x.toNat ∧ ∃ x3 : Int, ∀ (R : Option Value) (T : ms), EV q 79 55 [some (.ref 10), some (.ref a1), some (.ref 93), some (vI x3), some (vI 0), some (vI 0)] [] A' R T → EV q 79 27 [some (.ref 10), some (.ref a1), some (.ref 93), some (vI (mostF x n0 j)), some (vI (x - 1 - j)), none] [] U R T := by
  have rg := fwA_r hx hL hD
  intro v
  induction v with
  | zero =>
    intro j U hj hU hF
    have ej : x.toNat = j := by omega
    rw [ej]
    refine ⟨U, hU, hF, mostF x n0 j, fun R T k => vc_Finder_fewest_27 _ _ _ _ ha _ _ rfl ?_⟩
    rw [w32_of (x := x - 1 - j) (by omega)]
    exact cY (by omega) k
  | succ v ih =>
    intro j U hj hU hF
    obtain ⟨p, ep⟩ : ∃ p, p = x - 1 - (j : Int) := ⟨_, rfl⟩
    have n1 := (hL p (by omega) (by omega)).1
    have fU : FD U c N x t := FD_x hA hU (fun a k y => by have := hA.1.2.2; unfold XFa at y; omega)
    have mr : (3 ≤ mostF x n0 j ∧ mostF x n0 j ≤ 1000) ∧ n0 p ≤ mostF x n0 j := by
      unfold mostF
      by_cases c0 : j = 0
      · rw [if_pos c0]; omega
      · rw [if_neg c0]
        have s1 := n0_step hL (p := p) (by omega)
        rw [show p + 1 = x - (j : Int) by omega] at s1
        have n2 := (hL (x - (j : Int)) (by omega) (by omega)).1
        split <;> omega
    obtain ⟨W, k1, k2, k3⟩ := cl_cheap (q := q) (A := U) (c := c) (N := N) (p := p) (most := mostF x n0 j) (n := n0 p) (d := d0 p) (C := fun i => (fwA x t n0 ld j i).1) (ld := ld p) hx (by omega) mr.1 (hL p (by omega) (by omega)) mr.2 (hD p (by omega) (by omega)) (fun k k0 k1 => ⟨by have := (rg j (by omega) k (by omega) k1).1; show 0 ≤ (fwA x t n0 ld j k).1 ∧ (fwA x t n0 ld j k).1 ≤ 60000; omega, (hF k (by omega) k1).1⟩) (fun s s0 s1 => by rw [hU.2 93 s (by unfold XFa; omega)]; exact h93 s s0 s1) fU
    have xW : EX XFa A W := hU.trans (EX.mono k1 (fun a k y => by unfold XFw at y; unfold XFa; omega))
    have k2' : Fz W p (fwA x t n0 ld (j + 1) p) := by rw [fwA_at j ep]; exact k2
    obtain ⟨A', g1, g2, x3, g3⟩ := ih (j + 1) W (by omega) xW (fun k h1 h2 => by
      by_cases e : k = p
      · rw [e]
        exact ⟨k2'.1, fun _ => ⟨k2'.2.1, k2'.2.2⟩⟩
      · rw [fwA_no j (by omega), k1.2 19 k (by unfold XFw; omega), k1.2 20 k (by unfold XFw; omega), k1.2 21 k (by unfold XFw; omega)]
        exact hF k (by omega) h2)
    refine ⟨A', g1, g2, x3, fun R T k => vc_Finder_fewest_27 _ _ _ _ ha _ _ rfl ?_⟩
    have g4 := g3 R T k
    have em : mostF x n0 (j + 1) = 1 + if 3 ≤ n0 p then n0 p else 2 := by
      unfold mostF
      rw [if_neg (by omega), show x - ((j + 1 : Nat) : Int) = p by omega]
    rw [em, show x - 1 - ((j + 1 : Nat) : Int) = p - 1 by omega] at g4
    rw [← ep, w32_of (x := p) (by omega)]
    exact cNo (by omega) ⟨_, W, k3, g4⟩
/-- the picks -/
def fS (x : Int) (t n0 : Int → Int) (ld : Int → Int → Int) (k : Int) : Int := (fwA x t n0 ld x.toNat k).2.1
def fG (x : Int) (t n0 : Int → Int) (ld : Int → Int → Int) (k : Int) : Int := (fwA x t n0 ld x.toNat k).2.2
theorem fS_r (hx : 0 ≤ x ∧ x ≤ 6000) (hL : ∀ p : Int, 0 ≤ p → p < x → LM t p (min 258 (x - p)) (n0 p) (d0 p)) (hD : ∀ p : Int, 0 ≤ p → p < x → LD t p (n0 p) (ld p)) : ∀ p : Int, 0 ≤ p → p < x → (1 ≤ fS x t n0 ld p ∧ p + fS x t n0 ld p ≤ x) ∧ ((fS x t n0 ld p = 1 ∧ fG x t n0 ld p = 0) ∨ ((3 ≤ fS x t n0 ld p ∧ fS x t n0 ld p ≤ 258) ∧ 1 ≤ fG x t n0 ld p ∧ fG x t n0 ld p ≤ p)) := fun p p0 p1 => by
  have r := (fwA_r hx hL hD x.toNat (by omega) p (by omega) (by omega)).2 p1
  have n1 := (hL p p0 p1).1
  unfold fS fG
  rcases r with r | r
  · exact ⟨by omega, Or.inl r⟩
  · exact ⟨by omega, Or.inr ⟨by omega, r.2⟩⟩
theorem fw_V {P : Nat → Int} {K : Nat} (hx : 0 ≤ x ∧ x ≤ 6000) (hL : ∀ p : Int, 0 ≤ p → p < x → LM t p (min 258 (x - p)) (n0 p) (d0 p)) (hD : ∀ p : Int, 0 ≤ p → p < x → LD t p (n0 p) (ld p)) (hP : GP x (fS x t n0 ld) (fG x t n0 ld) P K) : ∀ k : Nat, k < K → tkV x (tkF (fS x t n0 ld) (fG x t n0 ld) P k) := fun k hk => by
  have hp := hP.2.2 k hk
  have r := (fS_r hx hL hD (P k) hp.1.1 hp.1.2).2
  have ek : tkF (fS x t n0 ld) (fG x t n0 ld) P k = (fS x t n0 ld (P k), fG x t n0 ld (P k), P k) := by unfold tkF; rw [show ((k : Int)).toNat = k by omega]
  rw [ek]
  rcases r with r | r
  · exact Or.inl ⟨r.2, hp.1.1, hp.1.2⟩
  · exact Or.inr ⟨by show 1 ≤ fG x t n0 ld (P k) ∧ fG x t n0 ld (P k) ≤ 6000; omega, r.1⟩
/-- the class tells the picks -/
theorem cl_fewT {P : Nat → Int} {K a1 na : Nat} {x3 : Int} (ha : isRow a1 na) (hx : 0 ≤ x ∧ x ≤ 6000) (hL : ∀ p : Int, 0 ≤ p → p < x → LM t p (min 258 (x - p)) (n0 p) (d0 p)) (hD : ∀ p : Int, 0 ≤ p → p < x → LD t p (n0 p) (ld p)) (hP : GP x (fS x t n0 ld) (fG x t n0 ld) P K) : ∀ (v k : Nat) (A : ms), k + v = K → A.1 10 3 = x → CFw A x (fwA x t n0 ld x.toNat) x.toNat → CTk A (tkF (fS x t n0 ld) (fG x t n0 ld) P) k → ∃ A', EX XTc A A' ∧ CTk A' (tkF (fS x t n0 ld) (fG x t n0 ld) P) K ∧ EV q 79 55 [some (.ref 10), some (.ref a1), some (.ref 93), some (vI x3), some (vI (P k)), some (vI k)] [] A none A' := by
  have rg := fS_r hx hL hD
  have le := GP_le hP (fun p p0 p1 => (rg p p0 p1).1)
  have lx := hx.2
  have wx : w32 x = x := w32_of (by omega)
  intro v
  induction v with
  | zero =>
    intro k A hk h3 hF hT
    have e : k = K := by omega
    subst e
    refine ⟨A, EX.refl _ A, hT, vc_Finder_fewest_55 _ _ _ _ _ ha _ _ rfl ?_⟩
    rw [h3, hP.2.1]
    exact ⟨fun _ => ⟨rfl, rfl⟩, fun _ => cY (Int.le_refl _) ⟨rfl, rfl⟩⟩
  | succ v ih =>
    intro k A hk h3 hF hT
    have hp := hP.2.2 k (by omega)
    have lk := (le k (by omega)).1
    have ek : tkF (fS x t n0 ld) (fG x t n0 ld) P k = (fS x t n0 ld (P k), fG x t n0 ld (P k), P k) := by unfold tkF; rw [show ((k : Int)).toNat = k by omega]
    obtain ⟨A1, b1, b2, b3⟩ := cl_token (q := q) (n := k) (by omega) ek hT
    have at1 : ∀ (a : Nat) (i : Int), (a = 10 ∧ i = 3) ∨ a = 19 ∨ a = 20 ∨ a = 21 → A1.1 a i = A.1 a i := fun a i y => b1.2 a i (by unfold XTc; omega)
    obtain ⟨A', g1, g2, g3⟩ := ih (k + 1) A1 (by omega) (by rw [at1 10 3 (by omega)]; exact h3) (fun i h1 h2 => by rw [at1 19 i (by omega), at1 20 i (by omega), at1 21 i (by omega)]; exact hF i h1 h2) (by rw [show ((k + 1 : Nat) : Int) = (k : Int) + 1 by omega]; exact b2)
    have f := (hF (P k) (by omega) (by omega)).2 hp.1.2
    have f20 : A.1 20 (P k) = fS x t n0 ld (P k) := f.1
    have f21 : A.1 21 (P k) = fG x t n0 ld (P k) := f.2
    rw [hp.2, show ((k + 1 : Nat) : Int) = (k : Int) + 1 by omega] at g3
    refine ⟨A', b1.trans g1, g2, vc_Finder_fewest_55 _ _ _ _ _ ha _ _ rfl ?_⟩
    rw [h3, wx, w32_of (x := P k) (by omega), w32_of (x := (k : Int)) (by omega), f20, f21]
    refine cNo (by omega) (cNo (by omega) ⟨by omega, by omega, A1, b3, by omega, ?_⟩)
    rw [at1 20 (P k) (by omega), f20]
    exact g3
end PFewB
