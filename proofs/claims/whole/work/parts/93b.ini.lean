/-! CONTRACTS of the constructors' loops -/
section CIni
variable {q : Nat × (Nat → Int32)}
theorem wC_g (S : ms) (a : Nat) (i : Int) (f : Int → Int) (hi : 0 ≤ i) : wI (wC S a 0 i f) a i (f i) = wC S a 0 (i + 1) f := by
  unfold wC wI
  congr 1
  funext b k
  dsimp only
  by_cases h1 : b = a
  · by_cases h2 : k = i
    · rw [if_pos ⟨h1, h2⟩, if_pos ⟨h1, by omega, by omega⟩, h2, Int.sub_zero]
    · rw [if_neg (fun z => h2 z.2)]
      by_cases h3 : 0 ≤ k ∧ k < 0 + i
      · rw [if_pos ⟨h1, h3⟩, if_pos ⟨h1, by omega, by omega⟩]
      · rw [if_neg (fun z => h3 z.2), if_neg (fun z => h3 ⟨z.2.1, by omega⟩)]
  · rw [if_neg (fun z => h1 z.1), if_neg (fun z => h1 z.1), if_neg (fun z => h1 z.1)]
/-- the lengths of FIXED -/
def flF (k : Int) : Int := if 144 ≤ k then (if 256 ≤ k then (if 280 ≤ k then 8 else 7) else 9) else 8
theorem flF_rg (k : Int) : 7 ≤ flF k ∧ flF k ≤ 9 := by
  unfold flF
  split
  · split
    · split <;> decide
    · decide
  · decide
theorem lp_bl1 {S : ms} {r : Option Value} {Sf : ms} (k : EW q sxB 63 15151 8 136 [some (.ref 30), some (.ref 10), some (vI 288), none] [] (wC S 32 0 288 flF) r Sf) : ∀ (t : Nat) (i : Int), 0 ≤ i → i + t = 288 → EW q sxB 63 15151 8 136 [some (.ref 30), some (.ref 10), some (vI i), none] [] (wC S 32 0 i flF) r Sf := by
  intro t
  induction t with
  | zero =>
    intro i h0 hi
    have e : i = 288 := by omega
    subst e
    exact k
  | succ t ih =>
    intro i h0 hi
    have e1 : w32 i = i := w32_of (by omega)
    have nx := ih (i + 1) (by omega) (by omega)
    have go : ∀ v : Int, v = flF i → EW q sxB 63 15151 8 189 [some (.ref 30), some (.ref 10), some (vI i), none] [vI v, vI i, .ref 32] (wC S 32 0 i flF) r Sf := by
      intro v hv
      refine vc_Blocks_ini_189 _ _ _ ⟨by rw [e1]; omega, fun S2 e2 => ?_⟩
      rw [e1, hv, wC_g S 32 i flF h0] at e2
      subst e2
      exact nx
    refine vc_Blocks_ini_136 _ ⟨fun c => ?_, fun _ => ⟨fun c1 => ⟨fun c2 => ⟨fun c3 => go 8 ?_, fun c3 => go 7 ?_⟩, fun c2 => go 9 ?_⟩, fun c1 => go 8 ?_⟩⟩
    · rw [e1] at c
      omega
    · rw [e1] at c1 c2 c3
      unfold flF
      rw [if_pos c1, if_pos c2, if_pos c3]
    · rw [e1] at c1 c2 c3
      unfold flF
      rw [if_pos c1, if_pos c2, if_neg c3]
    · rw [e1] at c1 c2
      unfold flF
      rw [if_pos c1, if_neg c2]
    · rw [e1] at c1
      unfold flF
      rw [if_neg c1]
theorem lp_bl2 {S : ms} {r : Option Value} {Sf : ms} (k : EW q sxB 63 15151 8 208 [some (.ref 30), some (.ref 10), some (vI 32), none] [] (wC S 43 0 32 (fun _ => 5)) r Sf) : ∀ (t : Nat) (i : Int), 0 ≤ i → i + t = 32 → EW q sxB 63 15151 8 208 [some (.ref 30), some (.ref 10), some (vI i), none] [] (wC S 43 0 i (fun _ => 5)) r Sf := by
  intro t
  induction t with
  | zero =>
    intro i h0 hi
    have e : i = 32 := by omega
    subst e
    exact k
  | succ t ih =>
    intro i h0 hi
    have e1 : w32 i = i := w32_of (by omega)
    refine vc_Blocks_ini_208 _ ⟨fun c => ?_, fun _ => ⟨by rw [e1]; omega, fun S4 e4 => ?_⟩⟩
    · rw [e1] at c
      omega
    · rw [e1, wC_s S 43 i 5 h0] at e4
      subst e4
      exact ih (i + 1) (by omega) (by omega)
/-- the symbol (less 257) of sizes: szS (m + 1) is that of size 3 + m -/
def szS : Nat → Int
  | 0 => 0
  | m + 1 => if 29 ≤ szS m + 1 then szS m else if ((3 + m : Nat) : Int) < w32 (sS 0 (szS m + 1)) then szS m else szS m + 1
theorem szS_rg : ∀ m, 0 ≤ szS m ∧ szS m ≤ 28
  | 0 => ⟨Int.le_refl _, (by decide : (0 : Int) ≤ 28)⟩
  | m + 1 => by
    have := szS_rg m
    show 0 ≤ (if 29 ≤ szS m + 1 then szS m else if ((3 + m : Nat) : Int) < w32 (sS 0 (szS m + 1)) then szS m else szS m + 1) ∧ (if 29 ≤ szS m + 1 then szS m else if ((3 + m : Nat) : Int) < w32 (sS 0 (szS m + 1)) then szS m else szS m + 1) ≤ 28
    split
    · omega
    · split <;> omega
def blI (S0 S : ms) (m : Nat) : Prop := S.2 = S0.2 ∧ (∀ (a : Nat) (k : Int), a ≠ 92 → a ≠ 93 → S.1 a k = S0.1 a k) ∧ ∀ t : Nat, t < m → S.1 92 (3 + t : Nat) = 257 + szS (t + 1) ∧ S.1 93 (3 + t : Nat) = S0.1 32 (257 + szS (t + 1)) + sS 1 (szS (t + 1))
theorem lp_bl3 {S0 : ms} : ∀ (t m : Nat) (S : ms), m + t = 256 → blI S0 S m → ∃ Sf, EW q sxB 63 15151 8 243 [some (.ref 30), some (.ref 10), some (vI (szS m)), some (vI (3 + m : Nat))] [] S none Sf ∧ blI S0 Sf 256 := by
  intro t
  induction t with
  | zero =>
    intro m S hm hI
    have e : m = 256 := by omega
    subst e
    exact ⟨S, vc_Blocks_ini_243 _ _ ⟨fun _ => ⟨rfl, rfl⟩, fun c => absurd (by decide) c⟩, hI⟩
  | succ t ih =>
    intro m S hm hI
    obtain ⟨i1, i2, i3⟩ := hI
    have h1 := szS_rg m
    have h2 := szS_rg (m + 1)
    have e1 : w32 (szS m + 1) = szS m + 1 := w32_of (by omega)
    have e2 : w32 (3 + m : Nat) = (3 + m : Nat) := w32_of (by omega)
    have e3 : w32 (257 + szS (m + 1)) = 257 + szS (m + 1) := w32_of (by omega)
    have e4 : w32 (szS (m + 1)) = szS (m + 1) := w32_of (by omega)
    let T2 := wI S 92 (3 + m : Nat) (257 + szS (m + 1))
    let T6 := wI T2 93 (3 + m : Nat) (S0.1 32 (257 + szS (m + 1)) + sS 1 (szS (m + 1)))
    have q6 : ∀ (a : Nat) (k : Int), T6.1 a k = if a = 93 ∧ k = (3 + m : Nat) then S0.1 32 (257 + szS (m + 1)) + sS 1 (szS (m + 1)) else if a = 92 ∧ k = (3 + m : Nat) then 257 + szS (m + 1) else S.1 a k := fun _ _ => rfl
    have q2 : T2.1 32 (257 + szS (m + 1)) = S0.1 32 (257 + szS (m + 1)) := by
      show (wI S 92 (3 + m : Nat) (257 + szS (m + 1))).1 32 (257 + szS (m + 1)) = _
      rw [rI_I, if_neg (by omega), i2 _ _ (by decide) (by decide)]
    have hI' : blI S0 T6 (m + 1) := by
      refine ⟨i1, fun a k h1 h2 => ?_, fun t ht => ?_⟩
      · rw [q6, if_neg (by omega), if_neg (by omega), i2 a k h1 h2]
      · by_cases htm : t = m
        · subst htm
          constructor
          · rw [q6, if_neg (by omega), if_pos ⟨rfl, rfl⟩]
          · rw [q6, if_pos ⟨rfl, rfl⟩]
        · obtain ⟨j1, j2⟩ := i3 t (by omega)
          constructor
          · rw [q6, if_neg (by omega), if_neg (by omega), j1]
          · rw [q6, if_neg (by omega), if_neg (by omega), j2]
    obtain ⟨Sf, k1, k2⟩ := ih (m + 1) T6 (by omega) hI'
    have go : ∀ v : Int, v = szS (m + 1) → EW q sxB 63 15151 8 272 [some (.ref 30), some (.ref 10), some (vI v), some (vI (3 + m : Nat))] [] S none Sf := by
      intro v hv
      subst hv
      refine vc_Blocks_ini_272 _ _ ?_
      rw [e2, e3, e4]
      refine ⟨by omega, fun S2 f2 => ⟨by omega, by omega, by omega, fun S6 f6 => ?_⟩⟩
      have f2' : S2 = T2 := f2
      subst f2'
      rw [q2] at f6
      have f6' : S6 = T6 := f6
      subst f6'
      rw [show ((3 + m : Nat) : Int) + 1 = ((3 + (m + 1) : Nat) : Int) by omega]
      exact k1
    have es : szS (m + 1) = if 29 ≤ szS m + 1 then szS m else if ((3 + m : Nat) : Int) < w32 (sS 0 (szS m + 1)) then szS m else szS m + 1 := rfl
    refine ⟨Sf, vc_Blocks_ini_243 _ _ ⟨fun c => ?_, fun _ => ⟨fun c => go _ ?_, fun c => ⟨?_, fun c2 => go _ ?_, fun c2 => go _ ?_⟩⟩⟩, k2⟩
    · rw [e2] at c
      omega
    · rw [e1] at c
      rw [es, if_pos c]
    · rw [e1]
      omega
    · rw [e1] at c c2
      rw [e2] at c2
      rw [es, if_neg c, if_pos c2]
    · rw [e1] at c c2
      rw [e2] at c2
      rw [es, if_neg c, if_neg c2]
/-- what Blocks' constructor leaves -/
def BlP (S Sf : ms) : Prop := ∃ S2 S4 : ms, SetP 31 288 flF (wC S 32 0 288 flF) S2 ∧ SetP 42 32 (fun _ => 5) (wC S2 43 0 32 (fun _ => 5)) S4 ∧ blI S4 Sf 256
theorem sp_blocks {S : ms} : ∃ Sf, EW q sxB 63 15151 8 136 [some (.ref 30), some (.ref 10), some (vI 0), none] [] S none Sf ∧ BlP S Sf := by
  have hsx : sxB.length ≤ en_b := Nat.le_of_ble_eq_true rfl
  obtain ⟨S2, k2, p2⟩ := sp_settle (q := q) (n := 288) (l := flF) (S := wC S 32 0 288 flF) hsx sxB_31 (by decide) (fun s _ => by have := flF_rg s; omega) (fun s hs => by
    rw [rI_C, if_pos ⟨rfl, by omega, by omega⟩, Int.sub_zero])
  obtain ⟨S4, k4, p4⟩ := sp_settle (q := q) (n := 32) (l := fun _ => 5) (S := wC S2 43 0 32 (fun _ => 5)) hsx sxB_42 (by decide) (fun s _ => by decide) (fun s hs => by
    rw [rI_C, if_pos ⟨rfl, by omega, by omega⟩])
  obtain ⟨Sf, kf, pf⟩ := lp_bl3 (q := q) (S0 := S4) 256 0 S4 (by decide) ⟨rfl, fun _ _ _ _ => rfl, fun t ht => by omega⟩
  refine ⟨Sf, ?_, S2, S4, p2, p4, pf⟩
  have a := lp_bl1 (q := q) (S := S) (r := none) (Sf := Sf) (vc_Blocks_ini_136 _ ⟨fun _ => ⟨S2, k2, ?_⟩, fun c => absurd (by decide) c⟩) 288 0 (by decide) (by decide)
  · rw [wC_0] at a
    exact a
  · have b := lp_bl2 (q := q) (S := S2) (r := none) (Sf := Sf) (vc_Blocks_ini_208 _ ⟨fun _ => ⟨S4, k4, kf⟩, fun c => absurd (by decide) c⟩) 32 0 (by decide) (by decide)
    rw [wC_0] at b
    exact b
/-! Parts: powers of x, and logarithms -/
def pw1 (v : Int) : Int := if w32 (v * 2) ≤ 255 then v * 2 else bX (v * 2) 285
def pw : Nat → Int
  | 0 => 1
  | i + 1 => pw1 (pw i)
theorem pw1_rg : ∀ n : Nat, n < 256 → 0 ≤ pw1 n ∧ pw1 n < 256 := by decide +kernel
theorem pw_rg : ∀ i, 0 ≤ pw i ∧ pw i < 256
  | 0 => ⟨(by decide : (0 : Int) ≤ 1), (by decide : (1 : Int) < 256)⟩
  | i + 1 => by
    have h := pw_rg i
    have := pw1_rg (pw i).toNat (by omega)
    rw [show (((pw i).toNat : Nat) : Int) = pw i by omega] at this
    exact this
/-- logarithms as they are written, one behind the other -/
def lgF (f : Int → Int) : Nat → Int → Int
  | 0, x => f x
  | i + 1, x => if x = pw i then (i : Int) else lgF f i x
def paI (S0 S : ms) (i : Nat) : Prop := S.2 = S0.2 ∧ (∀ (a : Nat) (k : Int), a ≠ 182 → a ≠ 183 → S.1 a k = S0.1 a k) ∧ (∀ t : Nat, t < i → S.1 182 t = pw t ∧ S.1 182 (t + 255 : Nat) = pw t) ∧ ∀ x : Int, S.1 183 x = lgF (S0.1 183) i x
theorem lp_parts {S0 : ms} : ∀ (t i : Nat) (S : ms), i + t = 255 → paI S0 S i → ∃ Sf, EW q sxD 10 103486 14 91 [some (.ref 173), some (vI (pw i)), some (vI i)] [] S none Sf ∧ paI S0 Sf 255 := by
  intro t
  induction t with
  | zero =>
    intro i S hi hI
    have e : i = 255 := by omega
    subst e
    exact ⟨S, vc_Parts_ini_91 _ _ ⟨fun _ => ⟨rfl, rfl⟩, fun c => absurd (by decide) c⟩, hI⟩
  | succ t ih =>
    intro i S hi hI
    obtain ⟨i1, i2, i3, i4⟩ := hI
    have hp := pw_rg i
    have e1 : w32 (i : Nat) = (i : Nat) := w32_of (by omega)
    have e2 : w32 (((i : Nat) : Int) + 255) = ((i + 255 : Nat) : Int) := by rw [w32_of (by omega)]; omega
    have e3 : w32 (pw i) = pw i := w32_of (by omega)
    let T2 := wI S 182 (i : Nat) (pw i)
    let T4 := wI T2 182 ((i + 255 : Nat) : Int) (pw i)
    let T6 := wI T4 183 (pw i) (i : Nat)
    have q6 : ∀ (a : Nat) (k : Int), T6.1 a k = if a = 183 ∧ k = pw i then ((i : Nat) : Int) else if a = 182 ∧ k = ((i + 255 : Nat) : Int) then pw i else if a = 182 ∧ k = (i : Nat) then pw i else S.1 a k := fun _ _ => rfl
    have hI' : paI S0 T6 (i + 1) := by
      refine ⟨i1, fun a k h1 h2 => ?_, fun t ht => ?_, fun x => ?_⟩
      · rw [q6, if_neg (by omega), if_neg (by omega), if_neg (by omega), i2 a k h1 h2]
      · by_cases hti : t = i
        · subst hti
          constructor
          · rw [q6, if_neg (by omega), if_neg (by omega), if_pos ⟨rfl, rfl⟩]
          · rw [q6, if_neg (by omega), if_pos ⟨rfl, rfl⟩]
        · obtain ⟨j1, j2⟩ := i3 t (by omega)
          constructor
          · rw [q6, if_neg (by omega), if_neg (by omega), if_neg (by omega), j1]
          · rw [q6, if_neg (by omega), if_neg (by omega), if_neg (by omega), j2]
      · rw [q6]
        show _ = if x = pw i then ((i : Nat) : Int) else lgF (S0.1 183) i x
        by_cases hx : x = pw i
        · rw [if_pos ⟨rfl, hx⟩, if_pos hx]
        · rw [if_neg (fun z => hx z.2), if_neg (by omega), if_neg (by omega), if_neg hx, i4]
    obtain ⟨Sf, k1, k2⟩ := ih (i + 1) T6 (by omega) hI'
    have go : ∀ v : Int, v = pw (i + 1) → EW q sxD 10 103486 14 140 [some (.ref 173), some (vI v), some (vI i)] [] T6 none Sf := by
      intro v hv
      subst hv
      refine vc_Parts_ini_140 _ _ ?_
      rw [show ((i : Nat) : Int) + 1 = ((i + 1 : Nat) : Int) by omega]
      exact k1
    refine ⟨Sf, vc_Parts_ini_91 _ _ ⟨fun c => ?_, fun _ => ?_⟩, k2⟩
    · rw [e1] at c
      omega
    · rw [e1, e2, e3]
      refine ⟨by omega, fun S2 f2 => ⟨by omega, fun S4 f4 => ⟨by omega, fun S6 f6 => ?_⟩⟩⟩
      have f6' : S6 = T6 := by
        subst f2 f4
        exact f6
      subst f6'
      refine ⟨fun c => go _ ?_, fun c => go _ ?_⟩
      · show _ = pw1 (pw i)
        unfold pw1
        rw [if_pos c]
      · show _ = pw1 (pw i)
        unfold pw1
        rw [if_neg c]
theorem sp_parts {S : ms} : ∃ Sf, EW q sxD 10 103486 14 91 [some (.ref 173), some (vI 1), some (vI 0)] [] S none Sf ∧ paI S Sf 255 :=
  lp_parts 255 0 S (by decide) ⟨rfl, fun _ _ _ _ => rfl, fun t ht => by omega, fun _ => rfl⟩
end CIni
