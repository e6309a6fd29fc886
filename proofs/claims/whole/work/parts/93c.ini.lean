/-! CONTRACT of the reference's constructor's loops -/
section CIniM
variable {q : Nat × (Nat → Int32)}
def rd1 (x : Int) : Int := if w32 (x % 2) = 1 then bX (x % 4294967296 / 2) (-306674912) else x % 4294967296 / 2
def tn1 (x : Int) : Int := if 0 ≤ w32 x then x * 2 else bX (x * 2) 79764919
def rdF : Nat → Int → Int
  | 0, x => x
  | n + 1, x => rdF n (rd1 x)
def tnF : Nat → Int → Int
  | 0, x => x
  | n + 1, x => tnF n (tn1 x)
theorem lp_md1 {S : ms} {r : Option Value} {Sf : ms} {x1 : Int} (h1 : 0 ≤ x1 ∧ x1 < 256) : ∀ (t : Nat) (j x2 x3 : Int), 0 ≤ j → j + t = 8 → EVC q 85 801753 255 739 [some (.ref 367), some (vI (x1 + 1)), none, none, none] [] (wI (wI S 372 x1 (rdF t x2)) 373 x1 (tnF t x3)) r Sf → EVC q 85 801753 255 756 [some (.ref 367), some (vI x1), some (vI x2), some (vI x3), some (vI j)] [] S r Sf := by
  have e1 : w32 x1 = x1 := w32_of (by omega)
  intro t
  induction t with
  | zero =>
    intro j x2 x3 h0 hj k
    have e : j = 8 := by omega
    subst e
    refine vc_MD_ini_756 _ _ _ _ ⟨fun _ => ⟨by rw [e1]; omega, fun S2 f2 => ⟨by rw [e1]; omega, fun S4 f4 => ?_⟩⟩, fun c => absurd (by decide) c⟩
    rw [e1] at f2 f4
    subst f2 f4
    exact k
  | succ t ih =>
    intro j x2 x3 h0 hj k
    have ej : w32 j = j := w32_of (by omega)
    have go2 : ∀ v : Int, v = tn1 x3 → EVC q 85 801753 255 801 [some (.ref 367), some (vI x1), some (vI (rd1 x2)), some (vI x3), some (vI j)] [vI v] S r Sf := by
      intro v hv
      subst hv
      exact vc_MD_ini_801 _ _ _ _ _ (ih (j + 1) (rd1 x2) (tn1 x3) (by omega) (by omega) k)
    have go : ∀ v : Int, v = rd1 x2 → EVC q 85 801753 255 783 [some (.ref 367), some (vI x1), some (vI x2), some (vI x3), some (vI j)] [vI v] S r Sf := by
      intro v hv
      subst hv
      refine vc_MD_ini_783 _ _ _ _ _ ⟨fun c => go2 _ ?_, fun c => go2 _ ?_⟩
      · unfold tn1
        rw [if_pos c]
      · unfold tn1
        rw [if_neg c]
    refine vc_MD_ini_756 _ _ _ _ ⟨fun c => ?_, fun _ => ⟨fun c => go _ ?_, fun c => go _ ?_⟩⟩
    · rw [ej] at c
      omega
    · unfold rd1
      rw [if_neg c]
    · unfold rd1
      rw [if_pos (Classical.not_not.mp c)]
def mdI1 (S0 S : ms) (i : Nat) : Prop := S.2 = S0.2 ∧ (∀ (a : Nat) (k : Int), a ≠ 372 → a ≠ 373 → S.1 a k = S0.1 a k) ∧ ∀ t : Nat, t < i → S.1 372 t = rdF 8 t ∧ S.1 373 t = tnF 8 (((t : Nat) : Int) * 16777216)
theorem lp_md2 {S0 : ms} : ∀ (t i : Nat) (S : ms), i + t = 256 → mdI1 S0 S i → ∃ T, mdI1 S0 T 256 ∧ ∀ (r : Option Value) (Sf : ms), EVC q 85 801753 255 832 [some (.ref 367), some (vI 1), some (vI 0), none, none] [] T r Sf → EVC q 85 801753 255 739 [some (.ref 367), some (vI i), none, none, none] [] S r Sf := by
  intro t
  induction t with
  | zero =>
    intro i S hi hI
    have e : i = 256 := by omega
    subst e
    exact ⟨S, hI, fun r Sf k => vc_MD_ini_739 _ ⟨fun _ => k, fun c => absurd (by decide) c⟩⟩
  | succ t ih =>
    intro i S hi hI
    obtain ⟨i1, i2, i3⟩ := hI
    have e1 : w32 (i : Nat) = (i : Nat) := w32_of (by omega)
    let T := wI (wI S 372 (i : Nat) (rdF 8 i)) 373 (i : Nat) (tnF 8 (((i : Nat) : Int) * 16777216))
    have qT : ∀ (a : Nat) (k : Int), T.1 a k = if a = 373 ∧ k = (i : Nat) then tnF 8 (((i : Nat) : Int) * 16777216) else if a = 372 ∧ k = (i : Nat) then rdF 8 i else S.1 a k := fun _ _ => rfl
    have hI' : mdI1 S0 T (i + 1) := by
      refine ⟨i1, fun a k h1 h2 => ?_, fun t ht => ?_⟩
      · rw [qT, if_neg (by omega), if_neg (by omega), i2 a k h1 h2]
      · by_cases hti : t = i
        · subst hti
          constructor
          · rw [qT, if_neg (by omega), if_pos ⟨rfl, rfl⟩]
          · rw [qT, if_pos ⟨rfl, rfl⟩]
        · obtain ⟨j1, j2⟩ := i3 t (by omega)
          constructor
          · rw [qT, if_neg (by omega), if_neg (by omega), j1]
          · rw [qT, if_neg (by omega), if_neg (by omega), j2]
    obtain ⟨U, hU, kU⟩ := ih (i + 1) T (by omega) hI'
    refine ⟨U, hU, fun r Sf k => vc_MD_ini_739 _ ⟨fun c => ?_, fun _ => ?_⟩⟩
    · rw [e1] at c
      omega
    · refine lp_md1 (by omega) 8 0 _ _ (by decide) (by decide) ?_
      rw [show ((i : Nat) : Int) + 1 = ((i + 1 : Nat) : Int) by omega]
      exact kU r Sf k
def pm1 (v : Int) : Int := bX (v * 2) (if w32 (bA v 128) = 0 then 0 else 285)
def pm : Nat → Int
  | 0 => 1
  | i + 1 => pm1 (pm i)
theorem pm1_rg : ∀ n : Nat, n < 256 → 0 ≤ pm1 n ∧ pm1 n < 256 := by decide +kernel
theorem pm_rg : ∀ i, 0 ≤ pm i ∧ pm i < 256
  | 0 => ⟨(by decide : (0 : Int) ≤ 1), (by decide : (1 : Int) < 256)⟩
  | i + 1 => by
    have h := pm_rg i
    have := pm1_rg (pm i).toNat (by omega)
    rw [show (((pm i).toNat : Nat) : Int) = pm i by omega] at this
    exact this
def lmF (f : Int → Int) : Nat → Int → Int
  | 0, x => f x
  | i + 1, x => if x = pm i then (i : Int) else lmF f i x
def mdI2 (S0 S : ms) (i : Nat) : Prop := S.2 = S0.2 ∧ (∀ (a : Nat) (k : Int), a ≠ 437 → a ≠ 438 → S.1 a k = S0.1 a k) ∧ (∀ t : Nat, t < i → S.1 437 t = pm t ∧ S.1 437 (t + 255 : Nat) = pm t) ∧ ∀ x : Int, S.1 438 x = lmF (S0.1 438) i x
theorem lp_md3 {S0 : ms} : ∀ (t i : Nat) (S : ms), i + t = 255 → mdI2 S0 S i → ∃ Sf, EVC q 85 801753 255 832 [some (.ref 367), some (vI (pm i)), some (vI i), none, none] [] S none Sf ∧ mdI2 S0 Sf 255 := by
  intro t
  induction t with
  | zero =>
    intro i S hi hI
    have e : i = 255 := by omega
    subst e
    exact ⟨S, vc_MD_ini_832 _ _ ⟨fun _ => ⟨rfl, rfl⟩, fun c => absurd (by decide) c⟩, hI⟩
  | succ t ih =>
    intro i S hi hI
    obtain ⟨i1, i2, i3, i4⟩ := hI
    have hp := pm_rg i
    have e1 : w32 (i : Nat) = (i : Nat) := w32_of (by omega)
    have e2 : w32 (((i : Nat) : Int) + 255) = ((i + 255 : Nat) : Int) := by rw [w32_of (by omega)]; omega
    have e3 : w32 (pm i) = pm i := w32_of (by omega)
    let T2 := wI S 437 (i : Nat) (pm i)
    let T4 := wI T2 437 ((i + 255 : Nat) : Int) (pm i)
    let T6 := wI T4 438 (pm i) (i : Nat)
    have q6 : ∀ (a : Nat) (k : Int), T6.1 a k = if a = 438 ∧ k = pm i then ((i : Nat) : Int) else if a = 437 ∧ k = ((i + 255 : Nat) : Int) then pm i else if a = 437 ∧ k = (i : Nat) then pm i else S.1 a k := fun _ _ => rfl
    have hI' : mdI2 S0 T6 (i + 1) := by
      refine ⟨i1, fun a k h1 h2 => ?_, fun t ht => ?_, fun x => ?_⟩
      · rw [q6, if_neg (by omega), if_neg (by omega), if_neg (by omega), i2 a k h1 h2]
      · by_cases hti : t = i
        · subst hti
          constructor
          · rw [q6, if_neg (by omega), if_neg (by omega), if_pos ⟨rfl, rfl⟩]
          · rw [q6, if_neg (by omega), if_pos ⟨rfl, rfl⟩]
        · obtain ⟨j1, j2⟩ := i3 t (by omega)
          constructor
          · rw [q6, if_neg (by omega), if_neg (by omega), if_neg (by omega), j1]
          · rw [q6, if_neg (by omega), if_neg (by omega), if_neg (by omega), j2]
      · rw [q6]
        show _ = if x = pm i then ((i : Nat) : Int) else lmF (S0.1 438) i x
        by_cases hx : x = pm i
        · rw [if_pos ⟨rfl, hx⟩, if_pos hx]
        · rw [if_neg (fun z => hx z.2), if_neg (by omega), if_neg (by omega), if_neg hx, i4]
    obtain ⟨Sf, k1, k2⟩ := ih (i + 1) T6 (by omega) hI'
    have go : ∀ v : Int, bX (pm i * 2) v = pm (i + 1) → EVC q 85 801753 255 882 [some (.ref 367), some (vI (pm i)), some (vI i), none, none] [vI v, vI (pm i * 2)] T6 none Sf := by
      intro v hv
      refine vc_MD_ini_882 _ _ _ _ ?_
      rw [hv, show ((i : Nat) : Int) + 1 = ((i + 1 : Nat) : Int) by omega]
      exact k1
    refine ⟨Sf, vc_MD_ini_832 _ _ ⟨fun c => ?_, fun _ => ?_⟩, k2⟩
    · rw [e1] at c
      omega
    · rw [e1, e2, e3]
      refine ⟨by omega, fun S2 f2 => ⟨by omega, fun S4 f4 => ⟨by omega, fun S6 f6 => ?_⟩⟩⟩
      have f6' : S6 = T6 := by
        subst f2 f4
        exact f6
      subst f6'
      refine ⟨fun c => go _ ?_, fun c => go _ ?_⟩
      · show _ = pm1 (pm i)
        unfold pm1
        rw [if_pos c]
      · show _ = pm1 (pm i)
        unfold pm1
        rw [if_neg c]
/-- what the reference's constructor leaves -/
def MdP (S Sf : ms) : Prop := ∃ T : ms, mdI1 S T 256 ∧ mdI2 T Sf 255
theorem sp_md {S : ms} : ∃ Sf, EVC q 85 801753 255 739 [some (.ref 367), some (vI 0), none, none, none] [] S none Sf ∧ MdP S Sf := by
  obtain ⟨T, hT, kT⟩ := lp_md2 (q := q) (S0 := S) 256 0 S (by decide) ⟨rfl, fun _ _ _ _ => rfl, fun t ht => by omega⟩
  obtain ⟨Sf, k1, k2⟩ := lp_md3 (q := q) (S0 := T) 255 0 T (by decide) ⟨rfl, fun _ _ _ _ => rfl, fun t ht => by omega, fun _ => rfl⟩
  exact ⟨Sf, kT none Sf k1, T, hT, k2⟩
end CIniM
