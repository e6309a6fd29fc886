/-! Code.settle: codes and places of symbols -/
section PSet3
variable {q : Nat × (Nat → Int32)} {sx : List sh_T} {b n : Nat} {l : Int → Int} {r : Option Value} {Sf S0 : ms}
/-- the code of symbol s, and its place in the order -/
def cdOf (l : Int → Int) (n s : Nat) : Int := cC l n (l s - 1).toNat + cN l (l s) s
def plOf (l : Int → Int) (n s : Nat) : Int := cP l n (l s - 1).toNat + cN l (l s) s
theorem cP_mono (l : Int → Int) (n : Nat) {J K : Nat} (h : J ≤ K) : cP l n J ≤ cP l n K := by
  induction h with
  | refl => exact Int.le_refl _
  | step _ ih =>
    rename_i K' _
    have h1 : cP l n K'.succ = cP l n K' + cN l (K' + 1 : Nat) n := rfl
    have h2 := cN_0 l (K' + 1 : Nat) n
    omega
theorem plOf_rg {l : Int → Int} {n s : Nat} (h : s < n) (hl : 0 < l s) : 0 ≤ plOf l n s ∧ plOf l n s < n := by
  have e : l s = (((l s - 1).toNat + 1 : Nat) : Int) := by omega
  have := cP_lt l e h
  unfold plOf
  rw [← e] at this
  exact this
theorem plOf_up {l : Int → Int} {n s : Nat} (h : s < n) (hl : 0 < l s) : plOf l n s < cP l n (l s).toNat := by
  have e : l s = (((l s - 1).toNat + 1 : Nat) : Int) := by omega
  have h1 : cP l n ((l s - 1).toNat + 1) = cP l n (l s - 1).toNat + cN l (((l s - 1).toNat + 1 : Nat) : Int) n := rfl
  have h2 := cN_lt l h
  rw [← e] at h1
  unfold plOf
  rw [show (l s).toNat = (l s - 1).toNat + 1 by omega, h1]
  omega
theorem plOf_ne {l : Int → Int} {n s t : Nat} (h : t < s) (hs : s < n) (hl : 0 < l s) (ht : 0 < l t) : plOf l n t ≠ plOf l n s := by
  rcases Int.lt_trichotomy (l t) (l s) with c | c | c
  · have h1 := plOf_up (n := n) (Nat.lt_trans h hs) ht
    have h2 := cP_mono l n (show (l t).toNat ≤ (l s - 1).toNat by omega)
    have h3 := (cN_0 l (l s) s).1
    unfold plOf at h1 ⊢
    omega
  · have h1 := cN_lt l h
    unfold plOf
    rw [c] at h1 ⊢
    omega
  · have h1 := plOf_up (n := n) hs hl
    have h2 := cP_mono l n (show (l s).toNat ≤ (l t - 1).toNat by omega)
    have h3 := (cN_0 l (l t) t).1
    unfold plOf at h1 ⊢
    omega
def stI3 (b n : Nat) (l : Int → Int) (S2 S : ms) (s : Nat) : Prop := S.2 = S2.2 ∧ (∀ (a : Nat) (k : Int), a ≠ b + 2 → a ≠ b + 3 → a ≠ b + 4 → a ≠ b + 6 → a ≠ b + 7 → S.1 a k = S2.1 a k) ∧ (∀ k : Nat, 1 ≤ k → k ≤ 20 → S.1 (b + 6) k = cC l n (k - 1) + cN l k s ∧ S.1 (b + 7) k = cP l n (k - 1) + cN l k s) ∧ ∀ t : Nat, t < s → 0 < l t → S.1 (b + 2) t = cdOf l n t ∧ S.1 (b + 3) t = mirG (cdOf l n t) (l t).toNat 0 0 ∧ S.1 (b + 4) (plOf l n t) = t
theorem lp_settle3 (hsx : sx.length ≤ en_b) (hc : isCodeP sx b) (hn : n ≤ 288) (hl : ∀ s : Nat, s < n → 0 ≤ l s ∧ l s ≤ 20) {S2 : ms} (hl0 : ∀ s : Nat, s < n → S2.1 (b + 1) s = l s) : ∀ (t s : Nat) (S : ms), s + t = n → stI3 b n l S2 S s → ∃ Sf, EW q sx 0 0 10 166 [some (.ref b), some (vI n), some (vI s), none] [] S none Sf ∧ stI3 b n l S2 Sf n := by
  intro t
  induction t with
  | zero =>
    intro s S hs hI
    have e : s = n := by omega
    subst e
    exact ⟨S, pc_Code_settle_166 hsx _ _ b hc ⟨fun _ => ⟨rfl, rfl⟩, fun c => absurd (Int.le_refl _) c⟩, hI⟩
  | succ t ih =>
    intro s S hs hI
    have hsn : s < n := by omega
    have e1 : w32 (s : Nat) = (s : Nat) := w32_of (by omega)
    have e2 : w32 (n : Nat) = (n : Nat) := w32_of (by omega)
    obtain ⟨i1, i2, i3, i4⟩ := hI
    have el : S.1 (b + 1) (w32 (s : Nat)) = l s := by rw [e1, i2 _ _ (by omega) (by omega) (by omega) (by omega) (by omega), hl0 s hsn]
    have hls := hl s hsn
    have e3 : w32 (l s) = l s := w32_of (by omega)
    by_cases hz : 0 < l s
    · -- a symbol with a code
      have ek : l s = ((l s).toNat : Int) := by omega
      obtain ⟨g6, g7⟩ := i3 (l s).toNat (by omega) (by omega)
      rw [← ek, show (l s).toNat - 1 = (l s - 1).toNat by omega] at g6 g7
      have hpl := plOf_rg (n := n) hsn hz
      have g7' : S.1 (b + 7) (l s) = plOf l n s := g7
      have g6' : S.1 (b + 6) (l s) = cdOf l n s := g6
      have e7 : w32 (plOf l n s) = plOf l n s := w32_of (by omega)
      let S4 := wI S (b + 2) (s : Nat) (cdOf l n s)
      let S10 := wI S4 (b + 3) (s : Nat) (mirG (cdOf l n s) (l s).toNat 0 0)
      let S13 := wI S10 (b + 4) (plOf l n s) (s : Nat)
      let S16 := wI S13 (b + 6) (l s) (cdOf l n s + 1)
      let S19 := wI S16 (b + 7) (l s) (plOf l n s + 1)
      have q4 : S4.1 (b + 2) (s : Nat) = cdOf l n s := if_pos ⟨rfl, rfl⟩
      have q10 : S10.1 (b + 7) (l s) = plOf l n s := by
        show (if b + 7 = b + 3 ∧ l s = _ then _ else if b + 7 = b + 2 ∧ l s = _ then _ else S.1 (b + 7) (l s)) = _
        rw [if_neg (by omega), if_neg (by omega), g7']
      have q13 : S13.1 (b + 6) (l s) = cdOf l n s := by
        show (if b + 6 = b + 4 ∧ l s = _ then _ else if b + 6 = b + 3 ∧ l s = _ then _ else if b + 6 = b + 2 ∧ l s = _ then _ else S.1 (b + 6) (l s)) = _
        rw [if_neg (by omega), if_neg (by omega), if_neg (by omega), g6']
      have q16 : S16.1 (b + 7) (l s) = plOf l n s := by
        show (if b + 7 = b + 6 ∧ l s = _ then _ else if b + 7 = b + 4 ∧ l s = _ then _ else S10.1 (b + 7) (l s)) = _
        rw [if_neg (by omega), if_neg (by omega), q10]
      have q19 : ∀ (a : Nat) (k : Int), S19.1 a k = if a = b + 7 ∧ k = l s then plOf l n s + 1 else if a = b + 6 ∧ k = l s then cdOf l n s + 1 else if a = b + 4 ∧ k = plOf l n s then ((s : Nat) : Int) else if a = b + 3 ∧ k = (s : Nat) then mirG (cdOf l n s) (l s).toNat 0 0 else if a = b + 2 ∧ k = (s : Nat) then cdOf l n s else S.1 a k := fun _ _ => rfl
      have hI' : stI3 b n l S2 S19 (s + 1) := by
        refine ⟨i1, fun a k h2 h3 h4 h6 h7 => ?_, fun k hk1 hk2 => ?_, fun t ht hlt => ?_⟩
        · rw [q19, if_neg (by omega), if_neg (by omega), if_neg (by omega), if_neg (by omega), if_neg (by omega)]
          exact i2 a k h2 h3 h4 h6 h7
        · obtain ⟨j6, j7⟩ := i3 k hk1 hk2
          have ec : cN l (k : Nat) (s + 1) = cN l (k : Nat) s + (if l s = (k : Nat) then 1 else 0) := rfl
          rw [ec]
          by_cases hk : l s = (k : Nat)
          · rw [if_pos hk]
            constructor
            · rw [q19, if_neg (by omega), if_pos ⟨rfl, hk.symm⟩, ← g6', hk, j6]
              omega
            · rw [q19, if_pos ⟨rfl, hk.symm⟩, ← g7', hk, j7]
              omega
          · rw [if_neg hk]
            constructor
            · rw [q19, if_neg (by omega), if_neg (by omega), if_neg (by omega), if_neg (by omega), if_neg (by omega), j6]
              omega
            · rw [q19, if_neg (by omega), if_neg (by omega), if_neg (by omega), if_neg (by omega), if_neg (by omega), j7]
              omega
        · by_cases hts : t = s
          · subst hts
            refine ⟨?_, ?_, ?_⟩
            · rw [q19, if_neg (by omega), if_neg (by omega), if_neg (by omega), if_neg (by omega), if_pos ⟨rfl, rfl⟩]
            · rw [q19, if_neg (by omega), if_neg (by omega), if_neg (by omega), if_pos ⟨rfl, rfl⟩]
            · rw [q19, if_neg (by omega), if_neg (by omega), if_pos ⟨rfl, rfl⟩]
          · have hne := plOf_ne (n := n) (show t < s by omega) hsn hz hlt
            obtain ⟨j2, j3, j4⟩ := i4 t (by omega) hlt
            refine ⟨?_, ?_, ?_⟩
            · rw [q19, if_neg (by omega), if_neg (by omega), if_neg (by omega), if_neg (by omega), if_neg (by omega), j2]
            · rw [q19, if_neg (by omega), if_neg (by omega), if_neg (by omega), if_neg (by omega), if_neg (by omega), j3]
            · rw [q19, if_neg (by omega), if_neg (by omega), if_neg (by omega), if_neg (by omega), if_neg (by omega), j4]
      obtain ⟨Sf, k1, k2⟩ := ih (s + 1) S19 (by omega) hI'
      refine ⟨Sf, pc_Code_settle_166 hsx _ _ b hc ⟨fun c => ?_, fun _ => ⟨by rw [e1]; omega, fun c => ?_, fun c => ?_⟩⟩, k2⟩
      · rw [e1, e2] at c
        omega
      · rw [el, e3] at c
        omega
      · rw [el, e3, e1, g6']
        refine ⟨by omega, by omega, fun T4 f4 => ?_⟩
        have f4' : T4 = S4 := f4
        subst f4'
        rw [q4]
        refine ⟨by omega, mirG (cdOf l n s) (l s).toNat 0 0, S4, sp_mirror hsx _ _ (by omega) (by omega), by omega, fun T10 f10 => ?_⟩
        have f10' : T10 = S10 := f10
        subst f10'
        rw [q10, e7]
        refine ⟨by omega, by omega, fun T13 f13 => ?_⟩
        have f13' : T13 = S13 := f13
        subst f13'
        rw [q13]
        refine ⟨by omega, by omega, fun T16 f16 => ?_⟩
        have f16' : T16 = S16 := f16
        subst f16'
        rw [q16]
        refine ⟨by omega, by omega, fun T19 f19 => ?_⟩
        have f19' : T19 = S19 := f19
        subst f19'
        refine pc_Code_settle_242 hsx _ _ _ b hc ?_
        rw [show ((s : Nat) : Int) + 1 = ((s + 1 : Nat) : Int) by omega]
        exact k1
    · have hI' : stI3 b n l S2 S (s + 1) := by
        refine ⟨i1, i2, fun k hk1 hk2 => ?_, fun t ht hlt => ?_⟩
        · obtain ⟨j6, j7⟩ := i3 k hk1 hk2
          have ec : cN l (k : Nat) (s + 1) = cN l (k : Nat) s + (if l s = (k : Nat) then 1 else 0) := rfl
          rw [ec, if_neg (by omega), Int.add_zero]
          exact ⟨j6, j7⟩
        · rcases Nat.lt_or_ge t s with z | z
          · exact i4 t z hlt
          · have e : t = s := by omega
            rw [e] at hlt
            exact absurd hlt hz
      obtain ⟨Sf, k1, k2⟩ := ih (s + 1) S (by omega) hI'
      refine ⟨Sf, pc_Code_settle_166 hsx _ _ b hc ⟨fun c => ?_, fun _ => ⟨by rw [e1]; omega, fun c => ?_, fun c => ?_⟩⟩, k2⟩
      · rw [e1, e2] at c
        omega
      · refine pc_Code_settle_242 hsx _ _ _ b hc ?_
        rw [show ((s : Nat) : Int) + 1 = ((s + 1 : Nat) : Int) by omega]
        exact k1
      · rw [el, e3] at c
        omega
/-- what settle(n) leaves: lengths l of n symbols -/
def SetP (b n : Nat) (l : Int → Int) (S S' : ms) : Prop := S'.2 = S.2 ∧ (∀ (a : Nat) (k : Int), ¬ (a = b ∧ (k = 5 ∨ k = 6 ∨ k = 7)) → ¬ (b + 2 ≤ a ∧ a ≤ b + 7) → S'.1 a k = S.1 a k) ∧ (S'.1 b 5 = cG l n ∧ S'.1 b 6 = cU l n ∧ S'.1 b 7 = cS l n) ∧ (∀ k : Nat, 1 ≤ k → k ≤ 20 → S'.1 (b + 5) k = cN l k n) ∧ ∀ t : Nat, t < n → 0 < l t → S'.1 (b + 2) t = cdOf l n t ∧ S'.1 (b + 3) t = mirG (cdOf l n t) (l t).toNat 0 0 ∧ S'.1 (b + 4) (plOf l n t) = t
theorem sp_settle (hsx : sx.length ≤ en_b) (hc : isCodeP sx b) (hn : n ≤ 288) {S : ms} (hl : ∀ s : Nat, s < n → 0 ≤ l s ∧ l s ≤ 20) (hl0 : ∀ s : Nat, s < n → S.1 (b + 1) s = l s) : ∃ Sf, EW q sx 0 0 10 0 [some (.ref b), some (vI n), none, none] [] S none Sf ∧ SetP b n l S Sf := by
  let S1 := wC S (b + 5) 0 (21 : Nat) (fun _ => 0)
  let S5 := wI (wI (wI S1 b 6 0) b 7 0) b 5 0
  have q5 : ∀ (a : Nat) (k : Int), S5.1 a k = if a = b ∧ k = 5 then 0 else if a = b ∧ k = 7 then 0 else if a = b ∧ k = 6 then 0 else if a = b + 5 ∧ 0 ≤ k ∧ k < 0 + (21 : Nat) then 0 else S.1 a k := fun _ _ => rfl
  have hI1 : stI1 b l S5 S5 0 := by
    refine ⟨rfl, fun a k _ _ => rfl, ?_, ?_, ?_, fun k hk1 hk2 => ?_⟩
    · rw [q5, if_pos ⟨rfl, rfl⟩]
      rfl
    · rw [q5, if_neg (by omega), if_neg (by omega), if_pos ⟨rfl, rfl⟩]
      rfl
    · rw [q5, if_neg (by omega), if_pos ⟨rfl, rfl⟩]
      rfl
    · rw [q5, if_neg (by omega), if_neg (by omega), if_neg (by omega), if_pos (by omega)]
      rfl
  have hl5 : ∀ s : Nat, s < n → S5.1 (b + 1) s = l s := by
    intro s hs
    rw [q5, if_neg (by omega), if_neg (by omega), if_neg (by omega), if_neg (by omega), hl0 s hs]
  -- the first loop's end is some memory; from there the second and the third
  have fin : ∀ T, stI1 b l S5 T n → ∃ Sf, EW q sx 0 0 10 108 [some (.ref b), some (vI n), some (vI 1), none] [] (wI (wI T (b + 6) 1 0) (b + 7) 1 0) none Sf ∧ SetP b n l S Sf := by
    intro T hT
    obtain ⟨t1, t2, t3, t4, t5, t6⟩ := hT
    let U := wI (wI T (b + 6) 1 0) (b + 7) 1 0
    have qU : ∀ (a : Nat) (k : Int), U.1 a k = if a = b + 7 ∧ k = 1 then 0 else if a = b + 6 ∧ k = 1 then 0 else T.1 a k := fun _ _ => rfl
    have fin2 : ∀ V, stI2 b n l U V 21 → ∃ Sf, EW q sx 0 0 10 166 [some (.ref b), some (vI n), some (vI 0), none] [] V none Sf ∧ SetP b n l S Sf := by
      intro V hV
      obtain ⟨v1, v2, v3⟩ := hV
      have hlV : ∀ s : Nat, s < n → V.1 (b + 1) s = l s := by
        intro s hs
        rw [v2 _ _ (by omega) (by omega), qU, if_neg (by omega), if_neg (by omega), t2 _ _ (by omega) (by omega), hl5 s hs]
      obtain ⟨Sf, k1, k2⟩ := lp_settle3 (q := q) hsx hc hn hl hlV n 0 V (by omega) ⟨rfl, fun _ _ _ _ _ _ _ => rfl, fun k hk1 hk2 => by
        obtain ⟨g6, g7⟩ := v3 k hk1 (by omega)
        rw [g6, g7]
        exact ⟨(Int.add_zero _).symm, (Int.add_zero _).symm⟩, fun t ht => by omega⟩
      refine ⟨Sf, k1, ?_⟩
      obtain ⟨f1, f2, f3, f4⟩ := k2
      have fo : ∀ (a : Nat) (k : Int), ¬ (b + 2 ≤ a ∧ a ≤ b + 4) → a ≠ b + 6 → a ≠ b + 7 → Sf.1 a k = T.1 a k := by
        intro a k h1 h2 h3
        rw [f2 a k (by omega) (by omega) (by omega) h2 h3, v2 a k h2 h3, qU, if_neg (by omega), if_neg (by omega)]
      refine ⟨f1.trans (v1.trans t1), fun a k h1 h2 => ?_, ⟨?_, ?_, ?_⟩, fun k hk1 hk2 => ?_, f4⟩
      · rw [fo a k (by omega) (by omega) (by omega), t2 a k h1 (by omega), q5, if_neg (by omega), if_neg (by omega), if_neg (by omega), if_neg (by omega)]
      · rw [fo b 5 (by omega) (by omega) (by omega), t3]
      · rw [fo b 6 (by omega) (by omega) (by omega), t4]
      · rw [fo b 7 (by omega) (by omega) (by omega), t5]
      · rw [fo _ _ (by omega) (by omega) (by omega), t6 k hk1 hk2]
    have hU5 : ∀ k : Nat, 1 ≤ k → k ≤ 20 → U.1 (b + 5) k = cN l k n := by
      intro k hk1 hk2
      rw [qU, if_neg (by omega), if_neg (by omega), t6 k hk1 hk2]
    obtain ⟨V, hV, kV⟩ := lp_settle2 (q := q) hsx hc hU5 20 1 U (by decide) (by decide) ⟨rfl, fun _ _ _ _ => rfl, fun k hk1 hk2 => by
      have : k = 1 := by omega
      subst this
      rw [qU, if_neg (by omega), if_pos ⟨rfl, rfl⟩, qU, if_pos ⟨rfl, rfl⟩]
      exact ⟨rfl, rfl⟩⟩
    obtain ⟨Sf, k1, k2⟩ := fin2 V hV
    exact ⟨Sf, kV none Sf k1, k2⟩
  obtain ⟨T, hT, kT⟩ := lp_settle1 (q := q) hsx hc hn hl hl5 n 0 S5 (by omega) hI1
  obtain ⟨Sf, k1, k2⟩ := fin T hT
  refine ⟨Sf, ?_, k2⟩
  refine pc_Code_settle hsx _ b hc ⟨S1, sp_fill hsx hc.2.2.2.2.2.1 (by decide) 0, fun T3 f3 T4 f4 T5 f5 => ?_⟩
  subst f3 f4 f5
  exact kT none Sf k1
end PSet3
