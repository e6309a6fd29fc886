/-! PREFIX CODES: a symbol is read, on both sides -/
section Sym
variable {q : Nat × (Nat → Int32)} {en : Int}
/-- a code of n symbols with lengths l, as the class keeps it (at b), and as the reference (lengths a1, values a2) -/
def CodC (S : ms) (b n : Nat) (l : Int → Int) : Prop := isCode b ∧ (10 < b ∧ b + 10 < 300) ∧ n ≤ 288 ∧ S.1 b 5 = cG l n ∧ (∀ k : Nat, 1 ≤ k → k ≤ 20 → S.1 (b + 5) k = cN l k n) ∧ ∀ t : Nat, t < n → 0 < l t → S.1 (b + 4) (plOf l n t) = t
def CodM (S : ms) (a1 n1 a2 n2 n : Nat) (l : Int → Int) : Prop := SH a1 = (0, n1, []) ∧ SH a2 = (0, n2, []) ∧ (n ≤ n1 ∧ n ≤ n2) ∧ (375 < a1 ∧ 375 < a2) ∧ (∀ t : Nat, t < n → S.1 a1 t = l t) ∧ ∀ t : Nat, t < n → 0 < l t → S.1 a2 t = cdOf l n t
theorem bO_v {w b : Int} (hw : 0 ≤ w ∧ w < 1000000000) (hb : 0 ≤ b ∧ b < 2) : bO (w * 2) b = w * 2 + b := by
  obtain ⟨w', ew⟩ : ∃ w' : Nat, w = w' := ⟨w.toNat, by omega⟩
  obtain ⟨b', eb⟩ : ∃ b' : Nat, b = b' := ⟨b.toNat, by omega⟩
  subst ew eb
  unfold bO
  have h := Nat.two_pow_add_eq_or_of_lt (i := 1) (b := b') (by show b' < 2; omega) w'
  rw [show (((w' : Int) * 2) % 4294967296).toNat = 2 ^ 1 * w' by omega, show ((b' : Int) % 4294967296).toNat = b' by omega, ← h]
  omega
/-- one bit of a symbol, the class's side -/
theorem sy_bit {S A : ms} {o b : Nat} {t : Int → Int} {hi h x2 x3 x4 x5 x6 : Int} {st : Rd} (hhi : S.1 9 7 = hi ∧ (hi = 0 ∨ hi = 1)) (hC : RdC S o en t) (ht : ∀ k : Int, 0 ≤ k → k < en → 0 ≤ t k ∧ t k < 256) (hcd : isCode b) (hr : rdR en st) (hh : hR st h) (hg : ¬ w32 (A.1 b 5) < w32 x6) (hA : CB S A o en t st h) : ((rdBit t en hi st h).2.1.1 ≠ 0 → ∃ A', EV q 134 11 [some (.ref 9), some (.ref b), some (vI x2), some (vI x3), some (vI x4), some (vI x5), some (vI x6), none] [] A (some (vI (-1))) A' ∧ CB S A' o en t (rdBit t en hi st h).2.1 (rdBit t en hi st h).2.2) ∧ ((rdBit t en hi st h).2.1.1 = 0 → ∃ A1, CB S A1 o en t (rdBit t en hi st h).2.1 (rdBit t en hi st h).2.2 ∧ ∀ (r : Option Value) (S' : ms), ((0 ≤ w32 x6 ∧ w32 x6 < (21 : Nat)) ∧ ((w32 (A1.1 (b + 5) (w32 x6)) ≤ w32 ((bO x3 (rdBit t en hi st h).1) - x4)) → EV q 134 11 [some (.ref 9), some (.ref b), some (vI x2), some (vI ((bO x3 (rdBit t en hi st h).1) * 2)), some (vI ((x4 + (A1.1 (b + 5) (w32 x6))) * 2)), some (vI (x5 + (A1.1 (b + 5) (w32 x6)))), some (vI (x6 + 1)), none] [] A1 r S') ∧ ((¬ w32 (A1.1 (b + 5) (w32 x6)) ≤ w32 ((bO x3 (rdBit t en hi st h).1) - x4)) → (0 ≤ w32 ((x5 + (bO x3 (rdBit t en hi st h).1)) - x4) ∧ w32 ((x5 + (bO x3 (rdBit t en hi st h).1)) - x4) < (288 : Nat)) ∧ r = some (vI (A1.1 (b + 4) (w32 ((x5 + (bO x3 (rdBit t en hi st h).1)) - x4)))) ∧ S' = A1)) → EV q 134 11 [some (.ref 9), some (.ref b), some (vI x2), some (vI x3), some (vI x4), some (vI x5), some (vI x6), none] [] A r S') := by
  have ho := hC.2.2.1
  obtain ⟨u1, u2⟩ := hh
  have r2 := hr.2.1
  have wr : w32 st.1 = st.1 := w32_of (by have := hr.1; omega)
  have e7 : ∀ (U : ms) (s : Rd) (g : Int), CB S U o en t s g → U.1 9 7 = hi := fun U s g hU => by
    rw [hU.2.2.2 9 7 (by omega) (by omega) (by omega)]
    exact hhi.1
  have whi : w32 hi = hi := w32_of (by omega)
  have dead : ∀ (U : ms) (s : Rd) (g : Int), s.1 ≠ 0 → rdR en s → CB S U o en t s g → EV q 134 41 [some (.ref 9), some (.ref b), some (vI x2), some (vI x3), some (vI x4), some (vI x5), some (vI x6), none] [] U (some (vI (-1))) U := fun U s g c hrs hU => vc_Source_symbol_41 _ _ _ _ _ _ hcd (by
    rw [hU.2.1.2.1, w32_of (by have := hrs.1; omega)]
    exact cNo c ⟨rfl, rfl⟩)
  have wr2 : ∀ (U : ms) (s : Rd) (x g g' : Int), s.1 ≠ 0 → CB S U o en t s g → CB S (wI (wI U 9 9 x) 9 8 8) o en t s g' := by
    intro U s x g g' c hU
    obtain ⟨h1, ⟨a1, a2, a3, a4, a5⟩, ⟨a6, a7⟩, h4⟩ := hU
    have q2 : ∀ (a : Nat) (k : Int), (wI (wI U 9 9 x) 9 8 8).1 a k = if a = 9 ∧ k = 8 then 8 else if a = 9 ∧ k = 9 then x else U.1 a k := fun _ _ => rfl
    refine ⟨h1, ⟨fun y => absurd y c, ?_, ?_, fun y => absurd y c, fun y => absurd y c⟩, ⟨?_, fun k k0 k1 => ?_⟩, fun a k n1 n2 n3 => ?_⟩
    · rw [q2, if_neg (by decide), if_neg (by decide), a2]
    · rw [q2, if_neg (by decide), if_neg (by decide), a3]
    · rw [q2, if_neg (by omega), if_neg (by omega), a6]
    · rw [q2, if_neg (by omega), if_neg (by omega), a7 k k0 k1]
    · rw [q2, if_neg (by omega), if_neg (by omega), h4 a k n1 n2 n3]
  have bit : ∀ (U : ms) (x g : Int), U.1 9 5 = 0 → U.1 9 7 = hi → U.1 9 9 = x → U.1 9 8 = 8 - g → (0 ≤ g ∧ g < 8) → (0 ≤ x ∧ x < 256) → ∀ (r : Option Value) (S' : ms), ((0 ≤ w32 x6 ∧ w32 x6 < (21 : Nat)) ∧ ((w32 ((wI U 9 8 (7 - g)).1 (b + 5) (w32 x6)) ≤ w32 ((bO x3 (btV hi x g)) - x4)) → EV q 134 11 [some (.ref 9), some (.ref b), some (vI x2), some (vI ((bO x3 (btV hi x g)) * 2)), some (vI ((x4 + ((wI U 9 8 (7 - g)).1 (b + 5) (w32 x6))) * 2)), some (vI (x5 + ((wI U 9 8 (7 - g)).1 (b + 5) (w32 x6)))), some (vI (x6 + 1)), none] [] (wI U 9 8 (7 - g)) r S') ∧ ((¬ w32 ((wI U 9 8 (7 - g)).1 (b + 5) (w32 x6)) ≤ w32 ((bO x3 (btV hi x g)) - x4)) → (0 ≤ w32 ((x5 + (bO x3 (btV hi x g))) - x4) ∧ w32 ((x5 + (bO x3 (btV hi x g))) - x4) < (288 : Nat)) ∧ r = some (vI ((wI U 9 8 (7 - g)).1 (b + 4) (w32 ((x5 + (bO x3 (btV hi x g))) - x4)))) ∧ S' = wI U 9 8 (7 - g))) → EV q 134 41 [some (.ref 9), some (.ref b), some (vI x2), some (vI x3), some (vI x4), some (vI x5), some (vI x6), none] [] U r S' := by
    intro U x g e5 e7' e9 e8 hg' hx r S' k
    have wx : w32 x = x := w32_of (by omega)
    refine vc_Source_symbol_41 _ _ _ _ _ _ hcd ?_
    rw [e5, e7', e9, e8, wx, whi]
    refine cY (by decide) ?_
    rcases hhi.2 with y | y
    · subst y
      refine cY rfl (vc_Source_symbol_84 _ _ _ _ _ _ _ _ hcd (fun S1 f1 => ?_))
      rw [e8, show 8 - g - 1 = 7 - g by omega] at f1
      subst f1
      have eb : x / (2 : Int) ^ ((8 - (8 - g)) % 32).toNat % 2 = btV 0 x g := by
        unfold btV
        rw [if_pos rfl, show (8 - (8 - g)) % 32 = g by omega]
      rw [eb]
      exact k
    · subst y
      refine cNo (by decide) (vc_Source_symbol_84 _ _ _ _ _ _ _ _ hcd (fun S1 f1 => ?_))
      rw [e8, show 8 - g - 1 = 7 - g by omega] at f1
      subst f1
      have eb : x / (2 : Int) ^ ((8 - g - 1) % 32).toNat % 2 = btV 1 x g := by
        unfold btV
        rw [if_neg (by decide), show (8 - g - 1) % 32 = 7 - g by omega]
      rw [eb]
      exact k
  unfold rdBit
  by_cases c : st.1 ≠ 0
  · rw [if_pos c]
    refine ⟨fun _ => ?_, fun y => absurd y c⟩
    by_cases d : w32 (A.1 9 8) = 0
    · have k1 : EV q 118 0 [some (.ref 9)] [] A (some (vI 0)) A := vc_Source_take (by rw [hA.2.1.2.1, wr]; exact cNo c ⟨rfl, rfl⟩)
      refine ⟨_, vc_Source_symbol_11 _ _ _ _ _ _ hcd (cNo hg (cNN d ⟨0, A, k1, fun S4 f4 S5 f5 => ?_⟩)), wr2 A st 0 h h c hA⟩
      subst f4 f5
      exact dead _ st h c hr (wr2 A st 0 h h c hA)
    · exact ⟨A, vc_Source_symbol_11 _ _ _ _ _ _ hcd (cNo hg (cY d (dead A st h c hr hA))), hA⟩
  · have c0 : st.1 = 0 := by omega
    rw [if_neg c]
    obtain ⟨a51, a52, a53⟩ := hA.2.1.2.2.2.2 c0
    by_cases d : h = 0
    · rw [if_pos d]
      have hA0 : CR S A o en st := ⟨hA.1, ⟨hA.2.1.1, hA.2.1.2.1, hA.2.1.2.2.1, hA.2.1.2.2.2.1, fun y => ⟨a51, by rw [a52, d], fun z => absurd z (by decide)⟩⟩, hA.2.2⟩
      obtain ⟨A1, k1, k2⟩ := sp_take (q := q) hC hr hA0
      have w8 : w32 ((8 - h) % 8) = 0 := by rw [d]; decide
      by_cases e : st.2.2.1 < en
      · rw [if_pos e]
        have et : rdTake t en st = (t st.2.2.1, st.1, st.2.1, st.2.2.1 + 1, st.2.2.2) := by
          unfold rdTake
          rw [if_neg c, if_pos e]
        have d1 : (rdTake t en st).2.1 = 0 := by rw [et]; exact c0
        refine ⟨fun y => absurd d1 y, fun _ => ?_⟩
        have tk := ht st.2.2.1 r2.1 e
        have k3 : CB S (wI (wI (wI A1 9 9 (t st.2.2.1)) 9 8 8) 9 8 (7 - 0)) o en t (rdTake t en st).2 1 := by
          obtain ⟨h1, ⟨b1, b2, b3, b4, b5⟩, ⟨b6, b7⟩, h4⟩ := k2
          have q2 : ∀ (a : Nat) (k : Int), (wI (wI (wI A1 9 9 (t st.2.2.1)) 9 8 8) 9 8 (7 - 0)).1 a k = if a = 9 ∧ k = 8 then 7 - 0 else if a = 9 ∧ k = 8 then 8 else if a = 9 ∧ k = 9 then t st.2.2.1 else A1.1 a k := fun _ _ => rfl
          refine ⟨h1, ⟨fun y => ?_, ?_, ?_, fun y => ?_, fun y => ⟨?_, ?_, fun _ => ?_⟩⟩, ⟨?_, fun k k0 k1 => ?_⟩, fun a k n1 n2 n3 => ?_⟩
          · rw [q2, if_neg (by decide), if_neg (by decide), if_neg (by decide), b1 y]
          · rw [q2, if_neg (by decide), if_neg (by decide), if_neg (by decide), b2]
          · rw [q2, if_neg (by decide), if_neg (by decide), if_neg (by decide), b3]
          · rw [q2, if_neg (by decide), if_neg (by decide), if_neg (by decide), b4 y]
          · rw [q2, if_neg (by decide), if_neg (by decide), if_neg (by decide), (b5 y).1]
          · rw [q2, if_pos ⟨rfl, rfl⟩]
            rfl
          · rw [q2, if_neg (by decide), if_neg (by decide), if_pos ⟨rfl, rfl⟩, et]
            show t st.2.2.1 = t (st.2.2.1 + 1 - 1)
            rw [show st.2.2.1 + 1 - 1 = st.2.2.1 by omega]
          · rw [q2, if_neg (by omega), if_neg (by omega), if_neg (by omega), b6]
          · rw [q2, if_neg (by omega), if_neg (by omega), if_neg (by omega), b7 k k0 k1]
          · rw [q2, if_neg (by omega), if_neg (by omega), if_neg (by omega), h4 a k n1 n2 n3]
        refine ⟨_, k3, fun r S' k => vc_Source_symbol_11 _ _ _ _ _ _ hcd (cNo hg ?_)⟩
        rw [a52, w8]
        refine cNN rfl ⟨_, A1, k1, fun S4 f4 S5 f5 => ?_⟩
        rw [et] at f4
        subst f4 f5
        have a25 : A1.1 9 5 = 0 := by rw [k2.2.1.2.1]; exact d1
        have a27 : A1.1 9 7 = hi := by
          rw [k2.2.2.2 9 7 (by omega) (by omega) (by omega)]
          exact hhi.1
        exact bit _ (t st.2.2.1) 0 (by rw [rI_I, if_neg (by decide), rI_I, if_neg (by decide), a25]) (by rw [rI_I, if_neg (by decide), rI_I, if_neg (by decide), a27]) (by rw [rI_I, if_neg (by decide), rI_I, if_pos ⟨rfl, rfl⟩]) (by rw [rI_I, if_pos ⟨rfl, rfl⟩]; rfl) (by decide) tk r S' k
      · rw [if_neg e]
        have et : rdTake t en st = (0, 1, en, st.2.2) := by
          unfold rdTake
          rw [if_neg c, if_neg e]
        have d1 : (rdTake t en st).2.1 ≠ 0 := by
          rw [et]
          show (1 : Int) ≠ 0
          decide
        refine ⟨fun _ => ?_, fun y => absurd y d1⟩
        have k3 : CB S A1 o en t (rdTake t en st).2 0 := ⟨k2.1, ⟨k2.2.1.1, k2.2.1.2.1, k2.2.1.2.2.1, k2.2.1.2.2.2.1, fun y => absurd y d1⟩, k2.2.2⟩
        have k4 := wr2 A1 (rdTake t en st).2 (rdTake t en st).1 0 0 d1 k3
        refine ⟨_, vc_Source_symbol_11 _ _ _ _ _ _ hcd (cNo hg ?_), k4⟩
        rw [a52, w8]
        refine cNN rfl ⟨_, A1, k1, fun S4 f4 S5 f5 => ?_⟩
        subst f4 f5
        exact dead _ _ 0 d1 (rdR_take hr) k4
    · rw [if_neg d]
      refine ⟨fun y => absurd c0 y, fun _ => ?_⟩
      have n0 := u2 (by omega)
      have tk := ht (st.2.2.1 - 1) (by omega) (by omega)
      have e8 : A.1 9 8 = 8 - h := by rw [a52]; omega
      have k3 : CB S (wI A 9 8 (7 - h)) o en t st ((h + 1) % 8) := by
        obtain ⟨h1, ⟨b1, b2, b3, b4, b5⟩, ⟨b6, b7⟩, h4⟩ := hA
        have q2 : ∀ (a : Nat) (k : Int), (wI A 9 8 (7 - h)).1 a k = if a = 9 ∧ k = 8 then 7 - h else A.1 a k := fun _ _ => rfl
        refine ⟨h1, ⟨fun y => ?_, ?_, ?_, fun y => ?_, fun y => ⟨?_, ?_, fun _ => ?_⟩⟩, ⟨?_, fun k k0 k1 => ?_⟩, fun a k n1 n2 n3 => ?_⟩
        · rw [q2, if_neg (by decide), b1 y]
        · rw [q2, if_neg (by decide), b2]
        · rw [q2, if_neg (by decide), b3]
        · rw [q2, if_neg (by decide), b4 y]
        · rw [q2, if_neg (by decide), (b5 y).1]
        · rw [q2, if_pos ⟨rfl, rfl⟩]
          omega
        · rw [q2, if_neg (by decide), a53 (by omega)]
        · rw [q2, if_neg (by omega), b6]
        · rw [q2, if_neg (by omega), b7 k k0 k1]
        · rw [q2, if_neg (by omega), h4 a k n1 n2 n3]
      refine ⟨_, k3, fun r S' k => vc_Source_symbol_11 _ _ _ _ _ _ hcd (cNo hg ?_)⟩
      have w8 : w32 (8 - h) = 8 - h := w32_of (by omega)
      rw [e8, w8]
      refine cY (by omega) ?_
      exact bit A (t (st.2.2.1 - 1)) h (by rw [hA.2.1.2.1]; exact c0) (e7 A st h hA) (a53 (by omega)) e8 u1 tk r S' k
/-- which symbol has a code -/
theorem cd_find {l : Int → Int} {n K : Nat} {v : Int} (hv : cC l n K ≤ v) (hv2 : v - cC l n K < cN l ((K + 1 : Nat) : Int) n) : ∃ s : Nat, s < n ∧ l s = ((K + 1 : Nat) : Int) ∧ cdOf l n s = v ∧ plOf l n s = cP l n K + v - cC l n K := by
  have eq : ∀ m : Nat, cN l ((K + 1 : Nat) : Int) m = sm (fun s => if l s = ((K + 1 : Nat) : Int) then 1 else 0) m := by
    intro m
    induction m with
    | zero => rfl
    | succ m ih =>
      rw [cN_s, ih]
      rfl
  have hw : ∀ j : Nat, (fun s : Nat => if l s = ((K + 1 : Nat) : Int) then (1 : Int) else 0) j = 0 ∨ (fun s : Nat => if l s = ((K + 1 : Nat) : Int) then (1 : Int) else 0) j = 1 := by
    intro j
    show (if l j = ((K + 1 : Nat) : Int) then (1 : Int) else 0) = 0 ∨ (if l j = ((K + 1 : Nat) : Int) then (1 : Int) else 0) = 1
    split
    · exact Or.inr rfl
    · exact Or.inl rfl
  rw [eq n] at hv2
  obtain ⟨g1, g2, g3⟩ := sl_spec hw (r := v - cC l n K) (by omega) hv2
  rw [← eq] at g3
  generalize sl (fun s : Nat => if l s = ((K + 1 : Nat) : Int) then (1 : Int) else 0) n (v - cC l n K) = s at g1 g2 g3
  have hl : l s = ((K + 1 : Nat) : Int) := by
    apply Classical.byContradiction
    intro y
    have : (if l s = ((K + 1 : Nat) : Int) then (1 : Int) else 0) = 1 := g2
    rw [if_neg y] at this
    exact absurd this (by decide)
  refine ⟨s, g1, hl, ?_, ?_⟩
  · unfold cdOf
    rw [hl, show (((K + 1 : Nat) : Int) - 1).toNat = K by omega]
    omega
  · unfold plOf
    rw [hl, show (((K + 1 : Nat) : Int) - 1).toNat = K by omega]
    omega
theorem cd_in {l : Int → Int} {n s s' : Nat} (hl : l s = l s') (hs : s < n) (hs' : s' < n) (e : cdOf l n s = cdOf l n s') : s = s' := by
  unfold cdOf at e
  rw [hl] at e
  apply Classical.byContradiction
  intro ne
  rcases Nat.lt_or_ge s s' with y | y
  · have := cN_lt l (m := s) (n := s') y
    rw [hl] at this
    omega
  · have := cN_lt l (m := s') (n := s) (by omega)
    omega
end Sym
