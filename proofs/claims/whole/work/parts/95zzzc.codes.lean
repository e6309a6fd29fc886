/-! BLOCKS: what is written elsewhere goes into the base; whether a code is full, single, empty -/
section Cod1
variable {q : Nat × (Nat → Int32)} {en : Int}
theorem CB_X {X : Nat → Int → Prop} {S A A1 : ms} {o : Nat} {t : Int → Int} {st : Rd} {u : Int} (hX : ∀ a k, X a k → a ≠ 9 ∧ a ≠ o ∧ a ≠ o + 1) (h : CB S A o en t st u) (e : EX X A A1) : ∃ S1, EX X S S1 ∧ (∀ a k, X a k → S1.1 a k = A1.1 a k) ∧ CB S1 A1 o en t st u := by
  obtain ⟨a1, ⟨a2, a3, a4, a5, a6⟩, ⟨a7, a8⟩, a9⟩ := h
  have n9 : ∀ k, A1.1 9 k = A.1 9 k := fun k => e.2 9 k (fun z => (hX 9 k z).1 rfl)
  have no : ∀ k, A1.1 o k = A.1 o k := fun k => e.2 o k (fun z => (hX o k z).2.1 rfl)
  have np : ∀ k, A1.1 (o + 1) k = A.1 (o + 1) k := fun k => e.2 (o + 1) k (fun z => (hX (o + 1) k z).2.2 rfl)
  refine ⟨(fun a k => @ite Int (X a k) (Classical.propDecidable _) (A1.1 a k) (S.1 a k), S.2), ⟨rfl, fun a k n => if_neg n⟩, fun a k y => if_pos y, e.1.trans a1, ⟨fun y => by rw [n9]; exact a2 y, by rw [n9]; exact a3, by rw [n9]; exact a4, fun y => by rw [n9]; exact a5 y, fun y => by rw [n9, n9, n9]; exact a6 y⟩, ⟨by rw [no]; exact a7, fun k k0 k1 => by rw [np]; exact a8 k k0 k1⟩, fun a k m1 m2 m3 => ?_⟩
  show A1.1 a k = @ite Int (X a k) (Classical.propDecidable _) (A1.1 a k) (S.1 a k)
  by_cases y : X a k
  · rw [if_pos y]
  · rw [if_neg y, e.2 a k y]
    exact a9 a k m1 m2 m3
theorem MB_X {X : Nat → Int → Prop} {S B B1 : ms} {st : Rd} {u : Int} (hX : ∀ a k, X a k → ¬ (a = 367 ∧ ((15 ≤ k ∧ k ≤ 17) ∨ k = 19 ∨ k = 20 ∨ k = 22)) ∧ a ≠ 375) (h : MB S B en st u) (e : EX X B B1) : ∃ S1, EX X S S1 ∧ (∀ a k, X a k → S1.1 a k = B1.1 a k) ∧ MB S1 B1 en st u := by
  obtain ⟨a1, ⟨a2, a3, a4, a5, a6⟩, ⟨a7, a8⟩, a9⟩ := h
  have n9 : ∀ k : Int, ((15 ≤ k ∧ k ≤ 17) ∨ k = 19 ∨ k = 20 ∨ k = 22) → B1.1 367 k = B.1 367 k := fun k y => e.2 367 k (fun z => (hX 367 k z).1 ⟨rfl, y⟩)
  have np : ∀ k, B1.1 375 k = B.1 375 k := fun k => e.2 375 k (fun z => (hX 375 k z).2 rfl)
  refine ⟨(fun a k => @ite Int (X a k) (Classical.propDecidable _) (B1.1 a k) (S.1 a k), S.2), ⟨rfl, fun a k n => if_neg n⟩, fun a k y => if_pos y, e.1.trans a1, ⟨fun y => by rw [n9 15 (by omega)]; exact a2 y, fun y => by rw [n9 17 (by omega)]; exact a3 y, by rw [n9 19 (by omega)]; exact a4, by rw [n9 20 (by omega)]; exact a5, fun y => by rw [n9 16 (by omega)]; exact a6 y⟩, ⟨by rw [n9 22 (by omega)]; exact a7, fun k k0 k1 => by rw [np]; exact a8 k k0 k1⟩, fun a k m1 m2 => ?_⟩
  show B1.1 a k = @ite Int (X a k) (Classical.propDecidable _) (B1.1 a k) (S.1 a k)
  by_cases y : X a k
  · rw [if_pos y]
  · rw [if_neg y, e.2 a k y]
    exact a9 a k m1 m2
theorem cS_rg {l : Int → Int} : ∀ n : Nat, (∀ s : Nat, s < n → 0 ≤ l s ∧ l s ≤ 20) → (0 ≤ cS l n ∧ cS l n ≤ n * 524288) ∧ (cS l n = 0 ↔ cU l n = 0) ∧ (0 ≤ cN l 1 n ∧ cN l 1 n ≤ cU l n ∧ cU l n ≤ n)
  | 0, _ => ⟨⟨Int.le_refl _, by show (0 : Int) ≤ ((0 : Nat) : Int) * 524288; decide⟩, Iff.rfl, Int.le_refl _, Int.le_refl _, Int.le_refl _⟩
  | n + 1, h => by
    obtain ⟨h1, h2, h3⟩ := cS_rg n (fun s hs => h s (by omega))
    have hl := h n (by omega)
    have e1 : cS l (n + 1) = cS l n + (if 0 < l n then w32 1048576 / ((2 : Int) ^ (l n % 32).toNat) else 0) := rfl
    have e2 : cU l (n + 1) = cU l n + (if 0 < l n then 1 else 0) := rfl
    have e3 : cN l 1 (n + 1) = cN l 1 n + (if l n = 1 then 1 else 0) := rfl
    have wt : ∀ j : Fin 21, 1 ≤ j.val → 1 ≤ w32 1048576 / ((2 : Int) ^ j.val) ∧ w32 1048576 / ((2 : Int) ^ j.val) ≤ 524288 := by decide
    by_cases c : 0 < l n
    · rw [if_pos c] at e1 e2
      obtain ⟨j, ej⟩ : ∃ j : Nat, l n = j := ⟨(l n).toNat, by omega⟩
      have w := wt ⟨j, by omega⟩ (by show 1 ≤ j; omega)
      rw [show (l n % 32).toNat = j by omega] at e1
      obtain ⟨v, ev⟩ : ∃ v : Int, v = w32 1048576 / ((2 : Int) ^ j) := ⟨_, rfl⟩
      have w' : 1 ≤ v ∧ v ≤ 524288 := by rw [ev]; exact w
      rw [← ev] at e1
      rw [e1, e2, e3]
      by_cases c1 : l n = 1
      · rw [if_pos c1]; omega
      · rw [if_neg c1]; omega
    · rw [if_neg c] at e1 e2
      rw [if_neg (by omega)] at e3
      rw [e1, e2, e3]
      omega
def fu (l : Int → Int) (n : Nat) : Prop := cS l n = 1048576
def si (l : Int → Int) (n : Nat) : Prop := cU l n = 1 ∧ cN l 1 n = 1
def ep (l : Int → Int) (n : Nat) : Prop := cU l n = 0
theorem cd_full {A : ms} {b n : Nat} {l : Int → Int} (hb : isCode b) (hn : n ≤ 288) (hl : ∀ s : Nat, s < n → 0 ≤ l s ∧ l s ≤ 20) (e7 : A.1 b 7 = cS l n) : (fu l n → EV q 137 0 [some (.ref b)] [] A (some (vI 1)) A) ∧ (¬ fu l n → EV q 137 0 [some (.ref b)] [] A (some (vI 0)) A) := by
  have r := (cS_rg n hl).1
  have w : w32 (cS l n) = cS l n := w32_of (by omega)
  refine ⟨fun y => vc_Code_isFull _ hb ?_, fun y => vc_Code_isFull _ hb ?_⟩
  · rw [e7, w]
    exact cNN y ⟨rfl, rfl⟩
  · rw [e7, w]
    exact cY y ⟨rfl, rfl⟩
theorem cd_sing {A : ms} {b n : Nat} {l : Int → Int} (hb : isCode b) (hn : n ≤ 288) (hl : ∀ s : Nat, s < n → 0 ≤ l s ∧ l s ≤ 20) (e6 : A.1 b 6 = cU l n) (e1 : A.1 (b + 5) 1 = cN l 1 n) : (si l n → EV q 140 0 [some (.ref b)] [] A (some (vI 1)) A) ∧ (¬ si l n → EV q 140 0 [some (.ref b)] [] A (some (vI 0)) A) := by
  have r := (cS_rg n hl).2.2
  have w : w32 (cU l n) = cU l n := w32_of (by omega)
  have w1 : w32 (cN l 1 n) = cN l 1 n := w32_of (by omega)
  have w2 : w32 1 = 1 := by decide
  refine ⟨fun y => vc_Code_isSingle _ hb ?_, fun y => vc_Code_isSingle _ hb ?_⟩
  · rw [e6, w, w2, e1, w1]
    exact cNN y.1 ⟨by omega, cNN y.2 ⟨rfl, rfl⟩⟩
  · rw [e6, w, w2, e1, w1]
    by_cases c : cU l n = 1
    · exact cNN c ⟨by omega, cY (fun z => y ⟨c, z⟩) ⟨rfl, rfl⟩⟩
    · exact cY c ⟨rfl, rfl⟩
theorem cd_empt {A : ms} {b n : Nat} {l : Int → Int} (hb : isCode b) (hn : n ≤ 288) (hl : ∀ s : Nat, s < n → 0 ≤ l s ∧ l s ≤ 20) (e6 : A.1 b 6 = cU l n) : (ep l n → EV q 141 0 [some (.ref b)] [] A (some (vI 1)) A) ∧ (¬ ep l n → EV q 141 0 [some (.ref b)] [] A (some (vI 0)) A) := by
  have r := (cS_rg n hl).2.2
  have w : w32 (cU l n) = cU l n := w32_of (by omega)
  refine ⟨fun y => vc_Code_isEmpty _ hb ?_, fun y => vc_Code_isEmpty _ hb ?_⟩
  · rw [e6, w]
    exact cNN y ⟨rfl, rfl⟩
  · rw [e6, w]
    exact cY y ⟨rfl, rfl⟩
theorem md_sing {B : ms} {a n0 n : Nat} {l : Int → Int} (h0 : SH a = (0, n0, [])) (hn : n ≤ 288 ∧ n ≤ n0) (hl : ∀ s : Nat, s < n → (0 ≤ l s ∧ l s ≤ 20) ∧ B.1 a s = l s) : (si l n → EV q 348 0 [some (.ref a), some (vI n), none, none, none] [] B (some (vI 1)) B) ∧ (¬ si l n → EV q 348 0 [some (.ref a), some (vI n), none, none, none] [] B (some (vI 0)) B) := by
  have wn : Unit → w32 ((n : Nat) : Int) = n := fun _ => w32_of (by omega)
  have lp : ∀ (r : Int), ((si l n → r = 1) ∧ (¬ si l n → r = 0)) → ∀ (m i : Nat) (x3 : Int), i + m = n → ((cN l 1 i = cU l i → x3 = 1) ∧ (cN l 1 i ≠ cU l i → x3 = 0)) → EV q 348 7 [some (.ref a), some (vI n), some (vI (cU l i)), some (vI x3), some (vI i)] [] B (some (vI r)) B := by
    intro r hr m
    induction m with
    | zero =>
      intro i x3 hi hx
      have e : i = n := by omega
      subst e
      have rg := (cS_rg i (fun s hs => (hl s hs).1)).2.2
      have w : w32 (cU l i) = cU l i := w32_of (by omega)
      have w3 : w32 x3 = x3 := w32_of (by
        by_cases c : cN l 1 i = cU l i
        · have := hx.1 c; omega
        · have := hx.2 c; omega)
      refine vc_MD_isSingle_7 _ _ _ _ _ _ h0 (cY (Int.le_refl _) ?_)
      rw [w, w3]
      by_cases c : cU l i = 1
      · by_cases d : cN l 1 i = 1
        · rw [hr.1 ⟨c, d⟩]
          exact cNN c (cNo (by have := hx.1 (by omega); omega) ⟨rfl, rfl⟩)
        · rw [hr.2 (fun z => d z.2)]
          exact cNN c (cY (hx.2 (by omega)) ⟨rfl, rfl⟩)
      · rw [hr.2 (fun z => c z.1)]
        exact cY c ⟨rfl, rfl⟩
    | succ m ih =>
      intro i x3 hi hx
      have wi : Unit → w32 ((i : Nat) : Int) = i := fun _ => w32_of (by omega)
      have g := hl i (by omega)
      have wl : w32 (l i) = l i := w32_of (by omega)
      have rg := (cS_rg i (fun s hs => (hl s (by omega)).1)).2.2
      have e2 : cU l (i + 1) = cU l i + (if 0 < l i then 1 else 0) := rfl
      have e3 : cN l 1 (i + 1) = cN l 1 i + (if l i = 1 then 1 else 0) := rfl
      have e4 : ((i + 1 : Nat) : Int) = (i : Int) + 1 := by omega
      -- the flag
      have k26 : ∀ y : Int, y = (if 0 < l i then 1 else 0) → EV q 348 26 [some (.ref a), some (vI n), some (vI (cU l i)), some (vI x3), some (vI i)] [vI y, vI (cU l i)] B (some (vI r)) B := by
        intro y hy
        have ey : cU l i + y = cU l (i + 1) := by rw [hy, e2]
        refine vc_MD_isSingle_26 _ _ _ _ _ _ _ _ h0 ?_
        rw [ey, wi (), g.2, wl]
        by_cases c : cN l 1 i = cU l i
        · have e := hx.1 c
          subst e
          refine cNo (by decide) ⟨by omega, ?_⟩
          by_cases d : 2 ≤ l i
          · have z := ih (i + 1) 0 (by omega) ⟨fun z => by rw [e2, e3, if_pos (show 0 < l i by omega), if_neg (show ¬ l i = 1 by omega)] at z; omega, fun _ => rfl⟩
            rw [e4] at z
            exact cY d (vc_MD_isSingle_44 _ _ _ _ _ _ h0 (vc_MD_isSingle_45 _ _ _ _ _ _ _ h0 z))
          · have z := ih (i + 1) 1 (by omega) ⟨fun _ => rfl, fun z => by
              rw [e2, e3] at z
              by_cases d1 : l i = 1
              · rw [if_pos d1, if_pos (show 0 < l i by omega)] at z; omega
              · rw [if_neg d1, if_neg (show ¬ 0 < l i by omega)] at z; omega⟩
            rw [e4] at z
            exact cNo d (vc_MD_isSingle_45 _ _ _ _ _ _ _ h0 z)
        · have e := hx.2 c
          subst e
          have z := ih (i + 1) 0 (by omega) ⟨fun z => by
              rw [e2, e3] at z
              by_cases d1 : l i = 1
              · rw [if_pos d1, if_pos (show 0 < l i by omega)] at z; omega
              · rw [if_neg d1] at z
                by_cases d2 : 0 < l i
                · rw [if_pos d2] at z; omega
                · rw [if_neg d2] at z; omega, fun _ => rfl⟩
          rw [e4] at z
          exact cY (by decide) (vc_MD_isSingle_44 _ _ _ _ _ _ h0 (vc_MD_isSingle_45 _ _ _ _ _ _ _ h0 z))
      refine vc_MD_isSingle_7 _ _ _ _ _ _ h0 ?_
      rw [wn (), wi (), g.2, wl]
      refine cNo (by omega) ⟨by omega, fun y => k26 0 (by rw [if_neg (by omega)]), fun y => k26 1 (by rw [if_pos (by omega)])⟩
  refine ⟨fun y => vc_MD_isSingle _ _ _ h0 (lp 1 ⟨fun _ => rfl, fun z => absurd y z⟩ n 0 1 (by omega) ⟨fun _ => rfl, fun z => absurd rfl z⟩), fun y => vc_MD_isSingle _ _ _ h0 (lp 0 ⟨fun z => absurd z y, fun _ => rfl⟩ n 0 1 (by omega) ⟨fun _ => rfl, fun z => absurd rfl z⟩)⟩
/-- not c tells rule k -/
theorem gC {c : Prop} [Decidable c] {k u : Int} {S A : ms} {o : Nat} {t : Int → Int} {st : Rd} (hr : rdR en st) (ho : (300 < o ∨ o = 7)) (h : CB S A o en t st u) : ∃ A', CB S A' o en t (if c then st else rdTell k st) u ∧ ((c ∧ A' = A) ∨ (¬ c ∧ EV q 124 0 [some (.ref 9), some (vI k)] [] A none A')) := by
  by_cases y : c
  · rw [if_pos y]
    exact ⟨A, h, Or.inl ⟨y, rfl⟩⟩
  · rw [if_neg y]
    obtain ⟨A1, k1, k2⟩ := sb_tell (q := q) (k := k) hr ho h
    exact ⟨A1, k2, Or.inr ⟨y, k1⟩⟩
theorem gM {c : Prop} [Decidable c] {k u : Int} {S B : ms} {st : Rd} (hr : rdR en st) (he : en ≤ 6000) (hh : hR st u) (h : MB S B en st u) : ∃ B', MB S B' en (if c then st else rdTell k st) u ∧ ((c ∧ B' = B) ∨ (¬ c ∧ EV q 337 0 [some (.ref 367), some (vI k)] [] B none B')) := by
  by_cases y : c
  · rw [if_pos y]
    exact ⟨B, h, Or.inl ⟨y, rfl⟩⟩
  · rw [if_neg y]
    obtain ⟨B1, k1, k2⟩ := mb_tell (q := q) (k := k) hr he hh h
    exact ⟨B1, k2, Or.inr ⟨y, k1⟩⟩
end Cod1
