/-! memories alike but for some cells; a new STREAM on both sides; which parts are gone; whole -/
section Whole
variable {q : Nat × (Nat → Int32)} {S : ms} {a b d : Int}
/-- T is S but for the cells of X -/
def EX (X : Nat → Int → Prop) (S T : ms) : Prop := T.2 = S.2 ∧ ∀ (a : Nat) (k : Int), ¬ X a k → T.1 a k = S.1 a k
theorem EX.refl (X : Nat → Int → Prop) (S : ms) : EX X S S := ⟨rfl, fun _ _ _ => rfl⟩
theorem EX.trans {X : Nat → Int → Prop} {S T U : ms} (h1 : EX X S T) (h2 : EX X T U) : EX X S U := ⟨h2.1.trans h1.1, fun a k n => (h2.2 a k n).trans (h1.2 a k n)⟩
theorem EX.wr {X : Nat → Int → Prop} {S T : ms} (h : EX X S T) {a : Nat} {k v : Int} (hx : X a k) : EX X S (wI T a k v) := by
  refine ⟨h.1, fun b j n => ?_⟩
  rw [rI_I, if_neg (fun z => n (by rw [z.1, z.2]; exact hx)), h.2 b j n]
theorem EX.mono {X Y : Nat → Int → Prop} {S T : ms} (h : EX X S T) (hx : ∀ a k, X a k → Y a k) : EX Y S T := ⟨h.1, fun a k n => h.2 a k (fun z => n (hx a k z))⟩
/-- T is S with a new STREAM f of the n octets g, and but for the cells of X -/
def NW (X : Nat → Int → Prop) (S T : ms) (f n : Int) (g : Int → Int) : Prop := ((1 ≤ f ∧ f ≤ 12) ∧ (0 ≤ n ∧ n ≤ 12000) ∧ ∀ k : Int, 0 ≤ k → k < n → 0 ≤ g k ∧ g k < 256) ∧ T.2 = S.2 ∧ (T.1 4 f = 1 ∧ T.1 (sR f) 1 = n ∧ ∀ k : Int, 0 ≤ k → k < n → T.1 (sR f + 1) k = g k) ∧ (T.1 371 f = 1 ∧ T.1 370 f = n ∧ ∀ k : Int, 0 ≤ k → k < n → T.1 369 (12000 * f + k) = b8 (g k)) ∧ ∀ (a : Nat) (k : Int), ¬ X a k → a ≠ sR f → a ≠ sR f + 1 → ¬ (a = 4 ∧ k = f) → ¬ (a = 371 ∧ k = f) → ¬ (a = 370 ∧ k = f) → ¬ (a = 369 ∧ 12000 * f ≤ k ∧ k < 12000 * f + 12000) → T.1 a k = S.1 a k
theorem nw_of {X : Nat → Int → Prop} {S S1 U : ms} {f n : Int} {g h : Int → Int} (h1 : EX X S S1) (f1 : 1 ≤ f) (f2 : f ≤ 12) (n0 : 0 ≤ n) (n1 : n ≤ 12000) (hg : ∀ k : Int, 0 ≤ k → k < n → 0 ≤ g k ∧ g k < 256) (hX : ∀ a k, X a k → a ≠ 4 ∧ (a < 343 ∨ 366 < a)) (hU : EX X (wI (RW (CL S1 (sR f)) (sR f) 0 n g) 4 f 1) U) (hh : ∀ k : Int, 0 ≤ k → k < n → h k = b8 (g k)) : NW X S (wC (wI (wI U 371 f 1) 370 f n) 369 (12000 * f) n h) f n g := by
  have hr := sR_rg f1 f2
  have key : ∀ (a : Nat) (k : Int), (wC (wI (wI U 371 f 1) 370 f n) 369 (12000 * f) n h).1 a k = if a = 369 ∧ 12000 * f ≤ k ∧ k < 12000 * f + n then h (k - 12000 * f) else if a = 370 ∧ k = f then n else if a = 371 ∧ k = f then 1 else U.1 a k := fun _ _ => rfl
  have ku : ∀ (a : Nat) (k : Int), ¬ X a k → U.1 a k = if a = 4 ∧ k = f then 1 else if a = sR f ∧ k = 1 then 0 + n else if a = sR f + 1 ∧ 0 ≤ k ∧ k < 0 + n then g (k - 0) else (CL S1 (sR f)).1 a k := fun a k hn => hU.2 a k hn
  have ns : ∀ k : Int, ¬ X (sR f) k := fun k z => by have := (hX _ _ z).2; omega
  have ns1 : ∀ k : Int, ¬ X (sR f + 1) k := fun k z => by have := (hX _ _ z).2; omega
  refine ⟨⟨⟨f1, f2⟩, ⟨n0, n1⟩, hg⟩, ?_, ⟨?_, ?_, fun k k0 kn => ?_⟩, ⟨?_, ?_, fun k k0 kn => ?_⟩, fun a k hn e1 e2 e3 e4 e5 e6 => ?_⟩
  · show U.2 = S.2
    rw [hU.1]
    exact h1.1
  · rw [key, if_neg (by omega), if_neg (by omega), if_neg (by omega), ku 4 f (fun z => (hX _ _ z).1 rfl), if_pos ⟨rfl, rfl⟩]
  · rw [key, if_neg (by omega), if_neg (by omega), if_neg (by omega), ku _ _ (ns 1), if_neg (by omega), if_pos ⟨rfl, rfl⟩, Int.zero_add]
  · rw [key, if_neg (by omega), if_neg (by omega), if_neg (by omega), ku _ _ (ns1 k), if_neg (by omega), if_neg (by omega), if_pos ⟨rfl, by omega, by omega⟩, Int.sub_zero]
  · rw [key, if_neg (by omega), if_neg (by omega), if_pos ⟨rfl, rfl⟩]
  · rw [key, if_neg (by omega), if_pos ⟨rfl, rfl⟩]
  · rw [key, if_pos ⟨rfl, by omega, by omega⟩, hh _ (by omega) (by omega), show 12000 * f + k - 12000 * f = k by omega]
  · rw [key, if_neg (fun z => e6 ⟨z.1, z.2.1, by omega⟩), if_neg e5, if_neg e4, ku a k hn, if_neg e3, if_neg (fun z => e1 z.1), if_neg (fun z => e2 z.1), CL_n _ e1, h1.2 a k hn]
/-- part p is gone -/
def gn (S : ms) (p : Nat) : Int := if S.1 175 p = 0 ∧ w32 (-(crR (fun k => S.1 174 (p * S.1 173 3 + k)) (S.1 173 3).toNat : Nat) - 1) = w32 (S.1 177 p) then 0 else 1
/-- how many of the first parts are gone -/
def cn (S : ms) : Nat → Int
  | 0 => 0
  | p + 1 => cn S p + gn S p
theorem gn_01 (S : ms) (p : Nat) : gn S p = 0 ∨ gn S p = 1 := by
  unfold gn
  split
  · exact Or.inl rfl
  · exact Or.inr rfl
theorem cn_rg (S : ms) : ∀ p : Nat, 0 ≤ cn S p ∧ cn S p ≤ p
  | 0 => ⟨Int.le_refl _, Int.le_refl _⟩
  | p + 1 => by
    have h1 := cn_rg S p
    have h2 := gn_01 S p
    have h3 : cn S (p + 1) = cn S p + gn S p := rfl
    omega
/-- what marking writes -/
abbrev XP (a : Nat) (k : Int) : Prop := a = 176 ∨ a = 178 ∨ a = 442 ∨ (a = 173 ∧ k = 5) ∨ (a = 367 ∧ k = 0)
def MGI (S T : ms) (p : Nat) : Prop := EX XP S T ∧ (∀ j : Nat, j < p → T.1 176 j = gn S j) ∧ T.1 173 5 = cn S (min p (S.1 173 6).toNat) ∧ ∀ j : Nat, j < p → (j : Int) < S.1 173 6 → gn S j = 1 → T.1 178 (cn S j) = j
theorem cn_mono (S : ms) {i : Nat} : ∀ {j : Nat}, i ≤ j → cn S i ≤ cn S j
  | 0, h => by
    have e : i = 0 := by omega
    subst e
    exact Int.le_refl _
  | j + 1, h => by
    by_cases c : i = j + 1
    · subst c
      exact Int.le_refl _
    · have h1 := cn_mono S (i := i) (j := j) (by omega)
      have h2 := gn_01 S j
      have h3 : cn S (j + 1) = cn S j + gn S j := rfl
      omega
theorem mk_step (h : RP S) {p : Nat} (hp : (p : Int) < S.1 173 6 + S.1 173 2) {T : ms} (hT : MGI S T p) : ∃ U, MGI S U (p + 1) ∧ ∀ r T', EV q 234 9 [some (.ref 173), some (vI (cn S (p + 1))), some (vI ((p + 1 : Nat) : Int))] [] U r T' → EV q 234 74 [some (.ref 173), some (vI (cn S p)), some (vI p)] [vI (gn S p), vI p, .ref 176] T r T' := by
  obtain ⟨-, ⟨b1, b2, -⟩, -⟩ := h
  obtain ⟨i1, i2, i3, i4⟩ := hT
  have wp : Unit → w32 (p : Int) = p := fun _ => w32_of (by omega)
  have p48 : 0 ≤ (p : Int) ∧ (p : Int) < (48 : Nat) := by omega
  have g01 := gn_01 S p
  have gm : gn S p % 2 = gn S p := by omega
  have wg : w32 (gn S p) = gn S p := w32_of (by omega)
  have c1 : cn S (p + 1) = cn S p + gn S p := rfl
  have e6 : T.1 173 6 = S.1 173 6 := i1.2 173 6 (by decide)
  have w6 : w32 (S.1 173 6) = S.1 173 6 := w32_of (by omega)
  have q2 : ∀ (a : Nat) (k : Int), (wI T 176 p (gn S p)).1 a k = if a = 176 ∧ k = p then gn S p else T.1 a k := fun _ _ => rfl
  have x2 : EX XP S (wI T 176 p (gn S p)) := i1.wr (Or.inl rfl)
  have m2 : ∀ j : Nat, j < p + 1 → (wI T 176 p (gn S p)).1 176 j = gn S j := by
    intro j hj
    rw [q2]
    by_cases cj : j = p
    · subst cj
      rw [if_pos ⟨rfl, rfl⟩]
    · rw [if_neg (by omega), i2 j (by omega)]
  have ek : ((p : Nat) : Int) + 1 = ((p + 1 : Nat) : Int) := by omega
  by_cases c0 : gn S p = 0
  · refine ⟨wI T 176 p (gn S p), ⟨x2, m2, ?_, fun j hj hD hg => ?_⟩, fun r T' k => vc_Parts_markGone_74 _ _ _ _ ?_⟩
    · rw [q2, if_neg (by omega), i3]
      by_cases cm : p < (S.1 173 6).toNat
      · rw [show min p (S.1 173 6).toNat = p by omega, show min (p + 1) (S.1 173 6).toNat = p + 1 by omega, c1, c0, Int.add_zero]
      · rw [show min p (S.1 173 6).toNat = (S.1 173 6).toNat by omega, show min (p + 1) (S.1 173 6).toNat = (S.1 173 6).toNat by omega]
    · have cj : j ≠ p := fun z => by subst z; omega
      rw [q2, if_neg (by omega), i4 j (by omega) hD hg]
    · rw [wp (), gm]
      refine ⟨p48, fun S2 f => ?_⟩
      subst f
      rw [q2, if_pos ⟨rfl, rfl⟩, wg]
      refine ⟨p48, fun _ => vc_Parts_markGone_115 _ _ ?_, fun n => absurd c0 n⟩
      rw [c1, c0, Int.add_zero, ← ek] at k
      rw [c0]
      exact k
  · have g1 : gn S p = 1 := by omega
    by_cases cD : S.1 173 6 ≤ p
    · refine ⟨wI T 176 p (gn S p), ⟨x2, m2, ?_, fun j hj hD hg => ?_⟩, fun r T' k => vc_Parts_markGone_74 _ _ _ _ ?_⟩
      · rw [q2, if_neg (by omega), i3, show min p (S.1 173 6).toNat = (S.1 173 6).toNat by omega, show min (p + 1) (S.1 173 6).toNat = (S.1 173 6).toNat by omega]
      · rw [q2, if_neg (by omega), i4 j (by omega) hD hg]
      · rw [wp (), gm]
        refine ⟨p48, fun S2 f => ?_⟩
        subst f
        rw [q2, if_pos ⟨rfl, rfl⟩, wg, q2, if_neg (by omega), e6, w6]
        refine ⟨p48, fun n => absurd n c0, fun _ => ⟨fun _ => vc_Parts_markGone_115 _ _ ?_, fun n => absurd cD n⟩⟩
        rw [c1, g1, ← ek] at k
        rw [g1]
        exact k
    · have e5 : T.1 173 5 = cn S p := by rw [i3, show min p (S.1 173 6).toNat = p by omega]
      have cr := cn_rg S p
      have w5 : w32 (cn S p) = cn S p := w32_of (by omega)
      have c32 : 0 ≤ cn S p ∧ cn S p < (32 : Nat) := by omega
      have q4 : ∀ (a : Nat) (k : Int), (wI (wI (wI T 176 p (gn S p)) 178 (cn S p) p) 173 5 (cn S p + 1)).1 a k = if a = 173 ∧ k = 5 then cn S p + 1 else if a = 178 ∧ k = cn S p then (p : Int) else (wI T 176 p (gn S p)).1 a k := fun _ _ => rfl
      refine ⟨wI (wI (wI T 176 p (gn S p)) 178 (cn S p) p) 173 5 (cn S p + 1), ⟨(x2.wr (Or.inr (Or.inl rfl))).wr (Or.inr (Or.inr (Or.inr (Or.inl ⟨rfl, rfl⟩)))), fun j hj => ?_, ?_, fun j hj hD hg => ?_⟩, fun r T' k => vc_Parts_markGone_74 _ _ _ _ ?_⟩
      · rw [q4, if_neg (by omega), if_neg (by omega), m2 j hj]
      · rw [q4, if_pos ⟨rfl, rfl⟩, show min (p + 1) (S.1 173 6).toNat = p + 1 by omega, c1, g1]
      · rw [q4, if_neg (by omega)]
        by_cases cj : j = p
        · subst cj
          rw [if_pos ⟨rfl, rfl⟩]
        · have cm := cn_mono S (i := j + 1) (j := p) (by omega)
          have cs : cn S (j + 1) = cn S j + gn S j := rfl
          rw [if_neg (by omega), q2, if_neg (by omega), i4 j (by omega) hD hg]
      · rw [wp (), gm]
        refine ⟨p48, fun S2 f => ?_⟩
        subst f
        rw [q2, if_pos ⟨rfl, rfl⟩, wg, q2, if_neg (by omega), e6, w6, q2, if_neg (by omega), e5, w5]
        refine ⟨p48, fun n => absurd n c0, fun _ => ⟨fun n => absurd n cD, fun _ => ⟨c32, fun S5 f5 S6 f6 => vc_Parts_markGone_115 _ _ ?_⟩⟩⟩
        have e55 : S5.1 173 5 = cn S p := by
          subst f5
          rw [rI_I, if_neg (by omega), q2, if_neg (by omega), e5]
        rw [e55] at f6
        subst f5 f6
        rw [c1, g1, ← ek] at k
        rw [g1]
        exact k
/-- the octets of part p -/
theorem gn_oct (h : RP S) {p : Nat} (hp : (p : Int) < S.1 173 6 + S.1 173 2) {k : Nat} (hk : k < (S.1 173 3).toNat) : (0 ≤ S.1 174 (p * S.1 173 3 + k) ∧ S.1 174 (p * S.1 173 3 + k) < 256) ∧ S.1 439 (S.1 173 3 * p + k) % 256 = S.1 174 (p * S.1 173 3 + k) := by
  obtain ⟨-, -, -, h4⟩ := h
  have ix := pa_ix (D := S.1 173 6 + S.1 173 2) (z := S.1 173 3) (p := p) (i := k) (by omega) hp (by omega) (by omega)
  obtain ⟨g1, g2⟩ := h4 _ ix.1 ix.2
  exact ⟨g1, by rw [Int.mul_comm (S.1 173 3)]; exact oct_eq g1 g2⟩
theorem pa_end (h : RP S) {p : Nat} (hp : (p : Int) < S.1 173 6 + S.1 173 2) : 0 ≤ (p : Int) * S.1 173 3 ∧ (p : Int) * S.1 173 3 + S.1 173 3 ≤ 102000 := by
  obtain ⟨-, ⟨b1, b2, b3, b4, b5⟩, -⟩ := h
  have ix := pa_ix (D := S.1 173 6 + S.1 173 2) (z := S.1 173 3) (p := p) (i := S.1 173 3 - 1) (by omega) hp (by omega) (by omega)
  exact ⟨Int.mul_nonneg (by omega) (by omega), by omega⟩
theorem lp_mark (h : RP S) {N : Nat} (hN : (N : Int) = S.1 173 6 + S.1 173 2) : ∀ (t p : Nat) (T : ms), p + t = N → MGI S T p → ∃ T', EV q 234 9 [some (.ref 173), some (vI (cn S p)), some (vI p)] [] T (some (vI (cn S N))) T' ∧ MGI S T' N := by
  intro t
  induction t with
  | zero =>
    intro p T hp hI
    have e : p = N := by omega
    subst e
    obtain ⟨-, ⟨b1, b2, -⟩, -⟩ := id h
    have e6 : T.1 173 6 + T.1 173 2 = p := by rw [hI.1.2 173 6 (by decide), hI.1.2 173 2 (by decide), hN]
    refine ⟨T, vc_Parts_markGone_9 _ _ ?_, hI⟩
    rw [e6]
    exact ⟨fun _ => ⟨rfl, rfl⟩, fun n => absurd (Int.le_refl _) n⟩
  | succ t ih =>
    intro p T hp hI
    have hpD : (p : Int) < S.1 173 6 + S.1 173 2 := by omega
    obtain ⟨-, ⟨b1, b2, b3, b4, b5⟩, b6, -⟩ := id h
    obtain ⟨U, hU, kU⟩ := mk_step (q := q) h hpD hI
    obtain ⟨T', k1, k2⟩ := ih (p + 1) U (by omega) hU
    have k74 := kU _ _ k1
    refine ⟨T', vc_Parts_markGone_9 _ _ ?_, k2⟩
    obtain ⟨l1, -, -⟩ := b6 p (by omega) hpD
    have e6 : T.1 173 6 + T.1 173 2 = N := by rw [hI.1.2 173 6 (by decide), hI.1.2 173 2 (by decide), hN]
    have e3 : T.1 173 3 = S.1 173 3 := hI.1.2 173 3 (by decide)
    have e175 : T.1 175 p = S.1 175 p := hI.1.2 175 p (by omega)
    have e177 : T.1 177 p = S.1 177 p := hI.1.2 177 p (by omega)
    have wN : Unit → w32 (N : Int) = N := fun _ => w32_of (by omega)
    have wp : Unit → w32 (p : Int) = p := fun _ => w32_of (by omega)
    have wl : w32 (S.1 175 p) = S.1 175 p := w32_of (by omega)
    have en : (((S.1 173 3).toNat : Nat) : Int) = S.1 173 3 := by omega
    have pe := pa_end h hpD
    have crc := sp_crd (q := q) (S := T) (c := 174) (n1 := 102000) (n := (S.1 173 3).toNat) (fr := p * S.1 173 3) (g := fun k => S.1 174 (p * S.1 173 3 + k)) rfl (by decide) pe.1 (by omega) (fun k hk => ⟨(gn_oct h hpD hk).1, hI.1.2 174 _ (by omega)⟩)
    rw [en] at crc
    rw [e6, wN (), wp (), e175, wl, e3]
    refine ⟨fun n => absurd n (by omega), fun _ => ⟨by omega, fun cl => vc_Parts_markGone_69 _ _ _ ?_, fun cl => ⟨_, T, crc, by omega, fun ce => ?_, fun ce => vc_Parts_markGone_69 _ _ _ ?_⟩⟩⟩
    · have e : gn S p = 1 := by
        unfold gn
        rw [if_neg (fun z => cl z.1)]
      rw [e] at k74
      exact k74
    · rw [e177] at ce
      have e : gn S p = 0 := by
        unfold gn
        rw [if_pos ⟨Classical.not_not.mp cl, ce⟩]
      rw [e] at k74
      exact k74
    · rw [e177] at ce
      have e : gn S p = 1 := by
        unfold gn
        rw [if_neg (fun z => ce z.2)]
      rw [e] at k74
      exact k74
/-- the class marks what is gone -/
theorem sp_mark (h : RP S) {N : Nat} (hN : (N : Int) = S.1 173 6 + S.1 173 2) : ∃ T', EV q 234 0 [some (.ref 173), none, none] [] S (some (vI (cn S N))) T' ∧ MGI S T' N := by
  obtain ⟨T', k1, k2⟩ := lp_mark (q := q) h hN N 0 (wI S 173 5 0) (by omega) ⟨(EX.refl XP S).wr (Or.inr (Or.inr (Or.inr (Or.inl ⟨rfl, rfl⟩)))), fun j hj => absurd hj (by omega), by rw [rI_I, if_pos ⟨rfl, rfl⟩, Nat.zero_min]; rfl, fun j hj => absurd hj (by omega)⟩
  refine ⟨T', vc_Parts_markGone (fun S1 f => ?_), k2⟩
  subst f
  exact k1
/-- the reference finds what is gone -/
theorem lp_gone (h : RP S) {N : Nat} (hN : (N : Int) = S.1 173 6 + S.1 173 2) {T0 : ms} (hT0 : ∀ (a : Nat) (k : Int), (a = 367 ∧ 112 ≤ k ∧ k ≤ 114) ∨ a = 439 ∨ a = 440 ∨ a = 441 → T0.1 a k = S.1 a k) (hq : ∀ t : Nat, t < 256 → T0.1 372 t = rdF 8 t) : ∀ (t p : Nat) (T : ms), p + t = N → (T.2 = T0.2 ∧ (∀ (a : Nat) (k : Int), a ≠ 442 → T.1 a k = T0.1 a k) ∧ ∀ j : Nat, j < p → T.1 442 j = gn S j) → ∃ T', EV q 418 4 [some (.ref 367), some (vI (cn S p)), some (vI p)] [] T (some (vI (cn S N))) T' ∧ T'.2 = T0.2 ∧ (∀ (a : Nat) (k : Int), a ≠ 442 → T'.1 a k = T0.1 a k) ∧ ∀ j : Nat, j < N → T'.1 442 j = gn S j := by
  obtain ⟨⟨x1, x2, x3, -⟩, ⟨b1, b2, b3, b4, b5⟩, b6, -⟩ := id h
  intro t
  induction t with
  | zero =>
    intro p T hp hI
    have e : p = N := by omega
    subst e
    have e6 : T.1 367 112 + T.1 367 113 = p := by rw [hI.2.1 _ _ (by decide), hI.2.1 _ _ (by decide), hT0 _ _ (Or.inl ⟨rfl, by decide, by decide⟩), hT0 _ _ (Or.inl ⟨rfl, by decide, by decide⟩), x1, x2, hN]
    refine ⟨T, vc_MD_findGone_4 _ _ ?_, hI⟩
    rw [e6]
    exact ⟨fun _ => ⟨rfl, rfl⟩, fun n => absurd (Int.le_refl _) n⟩
  | succ t ih =>
    intro p T hp hI
    have hpD : (p : Int) < S.1 173 6 + S.1 173 2 := by omega
    obtain ⟨i1, i2, i3⟩ := hI
    have q2 : ∀ (a : Nat) (k : Int), (wI T 442 p (gn S p)).1 a k = if a = 442 ∧ k = p then gn S p else T.1 a k := fun _ _ => rfl
    obtain ⟨T', k1, k2⟩ := ih (p + 1) (wI T 442 p (gn S p)) (by omega) ⟨i1, fun a k ha => by rw [q2, if_neg (fun z => ha z.1), i2 a k ha], fun j hj => by
      rw [q2]
      by_cases cj : j = p
      · subst cj
        rw [if_pos ⟨rfl, rfl⟩]
      · rw [if_neg (by omega), i3 j (by omega)]⟩
    have g01 := gn_01 S p
    have gm : gn S p % 2 = gn S p := by omega
    have wg : w32 (gn S p) = gn S p := w32_of (by omega)
    have c1 : cn S (p + 1) = cn S p + gn S p := rfl
    have wp : Unit → w32 (p : Int) = p := fun _ => w32_of (by omega)
    have p48 : 0 ≤ (p : Int) ∧ (p : Int) < (48 : Nat) := by omega
    have ek : ((p + 1 : Nat) : Int) = ((p : Nat) : Int) + 1 := by omega
    rw [c1, ek] at k1
    have k62 : EV q 418 62 [some (.ref 367), some (vI (cn S p)), some (vI p)] [vI (gn S p), vI p, .ref 442] T (some (vI (cn S N))) T' := by
      refine vc_MD_findGone_62 _ _ _ _ ?_
      rw [wp (), gm]
      refine ⟨p48, fun S2 f => ?_⟩
      subst f
      rw [q2, if_pos ⟨rfl, rfl⟩, wg]
      refine ⟨p48, fun c => vc_MD_findGone_78 _ _ _ _ ?_, fun c => vc_MD_findGone_78 _ _ _ _ ?_⟩
      · rw [c] at k1 ⊢
        exact k1
      · have e : gn S p = 1 := by omega
        rw [e] at k1 ⊢
        exact k1
    obtain ⟨l1, l2, l3⟩ := b6 p (by omega) hpD
    have e6 : T.1 367 112 + T.1 367 113 = N := by rw [i2 _ _ (by decide), i2 _ _ (by decide), hT0 _ _ (Or.inl ⟨rfl, by decide, by decide⟩), hT0 _ _ (Or.inl ⟨rfl, by decide, by decide⟩), x1, x2, hN]
    have e114 : T.1 367 114 = S.1 173 3 := by rw [i2 _ _ (by decide), hT0 _ _ (Or.inl ⟨rfl, by decide, by decide⟩), x3]
    have e441 : T.1 441 p = S.1 175 p := by rw [i2 _ _ (by decide), hT0 _ _ (Or.inr (Or.inr (Or.inr rfl))), l2]
    have e440 : w32 (T.1 440 p) = w32 (S.1 177 p) := by rw [i2 _ _ (by decide), hT0 _ _ (Or.inr (Or.inr (Or.inl rfl))), l3]
    have wN : Unit → w32 (N : Int) = N := fun _ => w32_of (by omega)
    have wl : w32 (S.1 175 p) = S.1 175 p := w32_of (by omega)
    have en : (((S.1 173 3).toNat : Nat) : Int) = S.1 173 3 := by omega
    have pe := pa_end h hpD
    have pc := Int.mul_comm (S.1 173 3) p
    have crc := sp_mrd (q := q) (S := T) (c := 439) (n1 := 102032) (n := (S.1 173 3).toNat) (fr := S.1 173 3 * p) (g := fun k => S.1 174 (p * S.1 173 3 + k)) rfl (by decide) (by omega) (by omega) (fun k hk => ⟨(gn_oct h hpD hk).1, by rw [i2 _ _ (by decide), hT0 _ _ (Or.inr (Or.inl rfl))]; exact (gn_oct h hpD hk).2⟩) (fun t ht => by rw [i2 _ _ (by decide)]; exact hq t ht)
    rw [en] at crc
    refine ⟨T', vc_MD_findGone_4 _ _ ?_, k2⟩
    rw [e6, wN (), wp (), e441, wl]
    refine ⟨fun n => absurd n (by omega), fun _ => ⟨p48, fun cl => vc_MD_findGone_57 _ _ _ ?_, fun cl => ⟨_, T, vc_MD_partAt _ ⟨rfl, rfl⟩, -(crR (fun k => S.1 174 (p * S.1 173 3 + k)) (S.1 173 3).toNat : Nat) - 1, T, ?_, p48, fun ce => ?_, fun ce => vc_MD_findGone_57 _ _ _ ?_⟩⟩⟩
    · have e : gn S p = 1 := by
        unfold gn
        rw [if_neg (fun z => cl z.1)]
      rw [e] at k62
      exact k62
    · rw [e114]
      exact crc
    · rw [e440] at ce
      have e : gn S p = 0 := by
        unfold gn
        rw [if_pos ⟨Classical.not_not.mp cl, ce⟩]
      rw [e] at k62
      exact k62
    · rw [e440] at ce
      have e : gn S p = 1 := by
        unfold gn
        rw [if_neg (fun z => ce z.2)]
      rw [e] at k62
      exact k62
theorem md_gone (h : RP S) {N : Nat} (hN : (N : Int) = S.1 173 6 + S.1 173 2) {T0 : ms} (hT0 : ∀ (a : Nat) (k : Int), (a = 367 ∧ 112 ≤ k ∧ k ≤ 114) ∨ a = 439 ∨ a = 440 ∨ a = 441 → T0.1 a k = S.1 a k) (hq : ∀ t : Nat, t < 256 → T0.1 372 t = rdF 8 t) : ∃ T', EV q 418 0 [some (.ref 367), none, none] [] T0 (some (vI (cn S N))) T' ∧ T'.2 = T0.2 ∧ (∀ (a : Nat) (k : Int), a ≠ 442 → T'.1 a k = T0.1 a k) ∧ ∀ j : Nat, j < N → T'.1 442 j = gn S j := by
  obtain ⟨T', k1, k2⟩ := lp_gone (q := q) h hN hT0 hq N 0 T0 (by omega) ⟨rfl, fun _ _ _ => rfl, fun j hj => absurd hj (by omega)⟩
  exact ⟨T', vc_MD_findGone k1, k2⟩
theorem cn_0 {n : Nat} (h : cn S n = 0) : ∀ j : Nat, j < n → gn S j = 0 := by
  intro j hj
  have h1 := cn_mono S (i := j + 1) (j := n) (by omega)
  have h2 := cn_rg S j
  have h3 := gn_01 S j
  have h4 : cn S (j + 1) = cn S j + gn S j := rfl
  omega
/-- the reference's whole, behind findGone: a part of the data is gone -/
theorem lp_mw {T : ms} {D : Nat} (hD : T.1 367 112 = D) (hD2 : D ≤ 32) (hg : ∀ j : Nat, j < D → T.1 442 j = gn S j) (x1 : Int) {r : Option Value} {T' : ms} : ∀ (t p : Nat), p + t = D → ((cn S D = cn S p → EV q 420 21 [some (.ref 367), some (vI x1), some (vI D)] [] T r T') ∧ (cn S D ≠ cn S p → r = some (vI (-3)) ∧ T' = T)) → EV q 420 21 [some (.ref 367), some (vI x1), some (vI p)] [] T r T' := by
  intro t
  induction t with
  | zero =>
    intro p hp k
    have e : p = D := by omega
    subst e
    exact k.1 rfl
  | succ t ih =>
    intro p hp k
    have g01 := gn_01 S p
    have c1 : cn S (p + 1) = cn S p + gn S p := rfl
    have cm := cn_mono S (i := p + 1) (j := D) (by omega)
    have wg : w32 (gn S p) = gn S p := w32_of (by omega)
    have wp : Unit → w32 (p : Int) = p := fun _ => w32_of (by omega)
    have wD : Unit → w32 (D : Int) = D := fun _ => w32_of (by omega)
    have ek : ((p : Nat) : Int) + 1 = ((p + 1 : Nat) : Int) := by omega
    refine vc_MD_whole_21 _ _ ?_
    rw [hD, wD (), wp (), hg p (by omega), wg]
    refine ⟨fun n => absurd n (by omega), fun _ => ⟨by omega, fun c => ?_, fun c => ?_⟩⟩
    · rw [ek]
      refine ih (p + 1) (by omega) ?_
      rw [c1, c, Int.add_zero]
      exact k
    · obtain ⟨e1, e2⟩ := k.2 (by omega)
      exact ⟨e1, e2⟩
/-- how many octets a SET is of -/
def RP2 (S : ms) : Prop := (0 ≤ S.1 173 4 ∧ S.1 173 4 ≤ 6000) ∧ S.1 173 4 ≤ S.1 173 6 * S.1 173 3 ∧ (S.1 173 6 = 0 → S.1 173 2 = 0)
/-- whole() -/
theorem op31_ok (h : RP S) (h2 : RP2 S) (hS : RS S) (hq : RQ S) : op_31 q a b d S (fun T => EX XP S T ∨ ∃ f : Int, FR S f ∧ f ≤ 12 ∧ NW XP S T f (S.1 173 4) (fun k => S.1 174 k)) := by
  obtain ⟨⟨x1, x2, x3, x4⟩, ⟨b1, b2, b3, b4, b5⟩, b6, b7⟩ := id h
  obtain ⟨t1, t2, t3⟩ := h2
  by_cases c : S.1 173 6 = 0
  · have c2 := t3 c
    refine ⟨-1, S, -1, wI S 367 0 0, vc_PH_whole ⟨0, S, pa_has0 (by decide) (by decide) h (fun z => ?_), fun n => absurd rfl n, fun _ => ⟨rfl, rfl⟩⟩, vc_MD_whole (fun S1 f => ?_), rfl, Or.inl ((EX.refl _ _).wr (Or.inr (Or.inr (Or.inr (Or.inr ⟨rfl, rfl⟩)))))⟩
    · have z1 := z.2.1
      omega
    · subst f
      rw [r0 112 (by decide), x1, c]
      exact ⟨fun n => absurd rfl n, fun _ => ⟨rfl, rfl⟩⟩
  · obtain ⟨N, hN⟩ : ∃ N : Nat, (N : Int) = S.1 173 6 + S.1 173 2 := ⟨(S.1 173 6 + S.1 173 2).toNat, by omega⟩
    obtain ⟨D, hD⟩ : ∃ D : Nat, (D : Int) = S.1 173 6 := ⟨(S.1 173 6).toNat, by omega⟩
    have eD : (S.1 173 6).toNat = D := by omega
    obtain ⟨M, kM, m1, m2, m3, -⟩ := sp_mark (q := q) h hN
    rw [show min N (S.1 173 6).toNat = D by omega] at m3
    have hh : Hs S 0 0 := ⟨Int.le_refl _, by omega, Int.le_refl _, by omega⟩
    have cD := cn_rg S D
    have wc : w32 (cn S D) = cn S D := w32_of (by omega)
    have w112 : w32 (S.1 173 6) = S.1 173 6 := w32_of (by omega)
    have e4 : M.1 173 4 = S.1 173 4 := m1.2 173 4 (by decide)
    have qq : ∀ t : Nat, t < 256 → (wI M 367 0 0).1 372 t = rdF 8 t := fun t ht => by rw [r0a _ _ (by decide), m1.2 372 t (by omega)]; exact hq.1 t ht
    by_cases cc : cn S D ≤ 0
    · have c0 : cn S D = 0 := by omega
      obtain ⟨f, hf⟩ := fr_ex hS
      have g := hf.1
      have hfM : FR M f := ⟨hf.1, fun k k1 k2 => by rw [m1.2 4 k (by omega)]; exact hf.2.1 k k1 k2, fun z => by rw [m1.2 4 f (by omega)]; exact hf.2.2 z⟩
      by_cases cf : f ≤ 12
      · have hrg := sR_rg g.1 cf
        have k1 := ph_span (q := q) (S := M) (c := 174) (n1 := 102000) (n := S.1 173 4) hfM cf rfl (by decide) (by omega) t1.1 (by omega) (by omega)
        have o : ∀ (c : Nat) (k : Int), 366 < c → ¬ XP c k → (wI (wI (RW (CL M (sR f)) (sR f) 0 (S.1 173 4) (fun k => M.1 174 k)) 4 f 1) 367 0 0).1 c k = S.1 c k := by
          intro c k c1 c2
          rw [rI_I, if_neg (fun z => c2 (Or.inr (Or.inr (Or.inr (Or.inr z))))), rI_I, if_neg (by omega), RW_at, if_neg (by omega), if_neg (by omega), CL_n _ (by omega), m1.2 c k c2]
        obtain ⟨G, kG, g1, g2, g3⟩ := md_gone (q := q) h hN (T0 := wI (wI (RW (CL M (sR f)) (sR f) 0 (S.1 173 4) (fun k => M.1 174 k)) 4 f 1) 367 0 0) (fun a k z => o a k (by omega) (by omega)) (fun t ht => by rw [o 372 _ (by decide) (by omega)]; exact hq.1 t ht)
        have oT : ∀ k : Int, 1 ≤ k → k ≤ 12 → G.1 371 k = S.1 4 k := by
          intro k k1 k2
          rw [g2 _ _ (by decide), o 371 k (by decide) (by omega), (hS k k1 k2).2.1]
        have fre := md_free (q := q) hf oT
        rw [if_pos cf] at fre
        have k2 := md_new (q := q) (c := 439) (n1 := 102032) (fr := 0) (n := S.1 173 4) hf cf oT rfl (by decide) (by decide) (by decide) t1.1 (by omega) (by omega)
        have ef : w32 f = f := w32_of (by omega)
        have eg112 : G.1 367 112 = D := by rw [g2 _ _ (by decide), o _ _ (by decide) (by decide), x1, hD]
        have eg115 : G.1 367 115 = S.1 173 4 := by rw [g2 _ _ (by decide), o _ _ (by decide) (by decide), x4]
        have wD : Unit → w32 (D : Int) = D := fun _ => w32_of (by omega)
        refine ⟨f, wI (RW (CL M (sR f)) (sR f) 0 (S.1 173 4) (fun k => M.1 174 k)) 4 f 1, f, wC (wI (wI G 371 f 1) 370 f (S.1 173 4)) 369 (12000 * f) (S.1 173 4) (fun k => b8 ((wI (wI G 371 f 1) 370 f (S.1 173 4)).1 439 (0 + k))), vc_PH_whole ⟨1, S, pa_has1 (by decide) (by decide) h hh, fun _ => ⟨_, M, kM, fun _ => ⟨f, _, ?_, rfl, rfl⟩, fun n => absurd (by rw [m3, wc]; exact cc) n⟩, fun n => absurd (by decide) n⟩, vc_MD_whole (fun S1 e => ?_), rfl, Or.inr ⟨f, hf, cf, ?_⟩⟩
        · rw [e4]
          exact k1
        · subst e
          rw [o 367 112 (by decide) (by decide), x1, w112]
          refine ⟨fun _ => ⟨_, G, kG, lp_mw (S := S) (D := D) eg112 (by omega) (fun j hj => g3 j (by omega)) _ D 0 (by omega) ⟨fun _ => vc_MD_whole_21 _ _ ?_, fun n => absurd c0 n⟩⟩, fun n => absurd c n⟩
          rw [eg112, wD ()]
          refine ⟨fun _ => ⟨f, G, fre, fun _ => ⟨f, _, ?_, rfl, rfl⟩, fun n => absurd (by omega) n⟩, fun n => absurd (Int.le_refl _) n⟩
          rw [eg115]
          exact k2
        · have dz : S.1 173 6 * S.1 173 3 ≤ (S.1 173 6 + S.1 173 2) * S.1 173 3 := Int.mul_le_mul_of_nonneg_right (by omega) (by omega)
          refine nw_of (S1 := M) (g := fun k => S.1 174 k) m1 g.1 cf t1.1 (by omega) (fun k k0 kn => (b7 k k0 (by omega)).1) (fun a k z => by omega) ⟨?_, fun a k n => ?_⟩ (fun k k0 kn => ?_)
          · rw [g1]
            rfl
          · rw [g2 a k (by omega), rI_I, if_neg (fun z => n (Or.inr (Or.inr (Or.inr (Or.inr z))))), rI_I, rI_I]
            by_cases y : a = 4 ∧ k = f
            · rw [if_pos y, if_pos y]
            · rw [if_neg y, if_neg y, RW_at, RW_at]
              by_cases y2 : a = sR f ∧ k = 1
              · rw [if_pos y2, if_pos y2]
              · rw [if_neg y2, if_neg y2]
                by_cases y3 : a = sR f + 1 ∧ 0 ≤ k ∧ k < 0 + S.1 173 4
                · rw [if_pos y3, if_pos y3]
                  exact m1.2 174 _ (by omega)
                · rw [if_neg y3, if_neg y3]
          · have bz := b7 k k0 (by omega)
            show b8 ((wI (wI G 371 f 1) 370 f (S.1 173 4)).1 439 (0 + k)) = b8 (S.1 174 k)
            rw [Int.zero_add, rI_I, if_neg (by omega), rI_I, if_neg (by omega), g2 _ _ (by decide), o _ _ (by decide) (by omega), bz.2, b8_of (b8_rg _)]
      · obtain ⟨G, kG, g1, g2, g3⟩ := md_gone (q := q) h hN (T0 := wI M 367 0 0) (fun a k z => by rw [rI_I, if_neg (by omega), m1.2 a k (by omega)]) qq
        have oT : ∀ k : Int, 1 ≤ k → k ≤ 12 → G.1 371 k = S.1 4 k := by
          intro k k1 k2
          rw [g2 _ _ (by decide), r0a _ _ (by decide), m1.2 371 k (by omega), (hS k k1 k2).2.1]
        have fre := md_free (q := q) hf oT
        rw [if_neg cf] at fre
        have eg112 : G.1 367 112 = D := by rw [g2 _ _ (by decide), r0 _ (by decide), m1.2 367 112 (by decide), x1, hD]
        have wD : Unit → w32 (D : Int) = D := fun _ => w32_of (by omega)
        refine ⟨-4, M, -4, G, vc_PH_whole ⟨1, S, pa_has1 (by decide) (by decide) h hh, fun _ => ⟨_, M, kM, fun _ => ⟨-4, M, ph_span0 hfM cf rfl, rfl, rfl⟩, fun n => absurd (by rw [m3, wc]; exact cc) n⟩, fun n => absurd (by decide) n⟩, vc_MD_whole (fun S1 e => ?_), rfl, Or.inl ?_⟩
        · subst e
          rw [r0 112 (by decide), m1.2 367 112 (by decide), x1, w112]
          refine ⟨fun _ => ⟨_, G, kG, lp_mw (S := S) (D := D) eg112 (by omega) (fun j hj => g3 j (by omega)) _ D 0 (by omega) ⟨fun _ => vc_MD_whole_21 _ _ ?_, fun n => absurd c0 n⟩⟩, fun n => absurd c n⟩
          rw [eg112, wD ()]
          exact ⟨fun _ => ⟨-4, G, fre, fun n => absurd n (by decide), fun _ => ⟨rfl, rfl⟩⟩, fun n => absurd (Int.le_refl _) n⟩
        · exact ⟨by rw [g1]; exact m1.1, fun a k n => by rw [g2 a k (by omega), rI_I, if_neg (by omega), m1.2 a k n]⟩
    · obtain ⟨G, kG, g1, g2, g3⟩ := md_gone (q := q) h hN (T0 := wI M 367 0 0) (fun a k z => by rw [rI_I, if_neg (by omega), m1.2 a k (by omega)]) qq
      have eg112 : G.1 367 112 = D := by rw [g2 _ _ (by decide), r0 _ (by decide), m1.2 367 112 (by decide), x1, hD]
      refine ⟨-3, M, -3, G, vc_PH_whole ⟨1, S, pa_has1 (by decide) (by decide) h hh, fun _ => ⟨_, M, kM, fun n => absurd (by rw [m3, wc] at n; exact n) cc, fun _ => ⟨rfl, rfl⟩⟩, fun n => absurd (by decide) n⟩, vc_MD_whole (fun S1 e => ?_), rfl, Or.inl ?_⟩
      · subst e
        rw [r0 112 (by decide), m1.2 367 112 (by decide), x1, w112]
        exact ⟨fun _ => ⟨_, G, kG, lp_mw (S := S) (D := D) eg112 (by omega) (fun j hj => g3 j (by omega)) _ D 0 (by omega) ⟨fun e => absurd (show cn S D ≤ 0 by rw [e]; exact Int.le_refl _) cc, fun _ => ⟨rfl, rfl⟩⟩⟩, fun n => absurd c n⟩
      · exact ⟨by rw [g1]; exact m1.1, fun a k n => by rw [g2 a k (by omega), rI_I, if_neg (by omega), m1.2 a k n]⟩
end Whole
