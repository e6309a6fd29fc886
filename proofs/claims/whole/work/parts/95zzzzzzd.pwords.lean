/-! pack: WORDS; entries, what matches, and that it is the same by tree and by search -/
section PWordsA
variable {q : Nat × (Nat → Int32)} {x : Int} {t : Int → Int} {E : Nat → Int × Int × Int} {c : Nat}
/-- entry e: (its parent's word, where it stands, how long) -/
def laE (t : Int → Int) (E : Nat → Int × Int × Int) (e : Nat) : Int := t ((E e).2.1 + (E e).2.2 - 1)
/-- word w, of m octets, stands at i -/
def Sw (t : Int → Int) (E : Nat → Int × Int × Int) (c : Nat) (x i w m : Int) : Prop := (0 ≤ i ∧ i + m ≤ x) ∧ ((w = t i ∧ (0 ≤ w ∧ w < 256) ∧ m = 1) ∨ ∃ e : Nat, e < c ∧ w = 258 + e ∧ (E e).2.2 = m ∧ ∀ j : Int, 0 ≤ j → j < m → t ((E e).2.1 + j) = t (i + j))
def WI (t : Int → Int) (E : Nat → Int × Int × Int) (c : Nat) (x : Int) : Prop := (∀ e : Nat, e < c → (2 ≤ (E e).2.2 ∧ 0 ≤ (E e).2.1 ∧ (E e).2.1 + (E e).2.2 ≤ x) ∧ Sw t E e x (E e).2.1 (E e).1 ((E e).2.2 - 1)) ∧ ∀ e e' : Nat, e < c → e' < c → (E e).1 = (E e').1 → laE t E e = laE t E e' → e = e'
theorem Sw_mono {c' : Nat} {i w m : Int} (h : Sw t E c x i w m) (hc : c ≤ c') : Sw t E c' x i w m := ⟨h.1, h.2.imp id (fun ⟨e, e1, e2⟩ => ⟨e, by omega, e2⟩)⟩
theorem Sw_pa {i m : Int} {e : Nat} (hW : WI t E c x) (he : e < c) (h1 : 0 ≤ i ∧ i + m ≤ x) (h2 : (E e).2.2 = m) (h3 : ∀ j : Int, 0 ≤ j → j < m → t ((E e).2.1 + j) = t (i + j)) : Sw t E c x i (E e).1 (m - 1) := by
  obtain ⟨w1, w2⟩ := hW.1 e he
  rw [h2] at w2
  refine ⟨by omega, ?_⟩
  rcases w2.2 with ⟨a1, a2, a3⟩ | ⟨e', a1, a2, a3, a4⟩
  · refine Or.inl ⟨?_, a2, a3⟩
    have := h3 0 (by omega) (by omega)
    rw [Int.add_zero, Int.add_zero] at this
    rw [a1, this]
  · refine Or.inr ⟨e', by omega, a2, a3, fun j j0 j1 => ?_⟩
    rw [a4 j j0 j1]
    exact h3 j j0 (by omega)
theorem Sw_1 {i w m : Int} (hW : WI t E c x) (h : Sw t E c x i w m) : 1 ≤ m := by
  rcases h.2 with ⟨_, _, a⟩ | ⟨e, a1, _, a3, _⟩
  · omega
  · have := (hW.1 e a1).1
    omega
theorem Sw_u {i : Int} (hW : WI t E c x) : ∀ (n : Nat) (m w w' : Int), m ≤ n → Sw t E c x i w m → Sw t E c x i w' m → w = w' := by
  intro n
  induction n with
  | zero =>
    intro m w w' hm h h'
    have := Sw_1 hW h
    omega
  | succ n ih =>
    intro m w w' hm h h'
    rcases h.2 with ⟨a1, a2, a3⟩ | ⟨e, a1, a2, a3, a4⟩
    · rcases h'.2 with ⟨b1, b2, b3⟩ | ⟨e', b1, b2, b3, b4⟩
      · rw [a1, b1]
      · have := (hW.1 e' b1).1
        omega
    · rcases h'.2 with ⟨b1, b2, b3⟩ | ⟨e', b1, b2, b3, b4⟩
      · have := (hW.1 e a1).1
        omega
      · have u1 := (hW.1 e a1).1
        have p1 := Sw_pa hW a1 h.1 a3 a4
        have p2 := Sw_pa hW b1 h'.1 b3 b4
        have ep := ih (m - 1) _ _ (by omega) p1 p2
        have ee : e = e' := hW.2 e e' a1 b1 ep (by
          unfold laE
          have y1 := a4 (m - 1) (by omega) (by omega)
          have y2 := b4 (m - 1) (by omega) (by omega)
          rw [a3, b3, show (E e).2.1 + m - 1 = (E e).2.1 + (m - 1) by omega, show (E e').2.1 + m - 1 = (E e').2.1 + (m - 1) by omega, y1, y2])
        rw [a2, b2, ee]
theorem Sw_mx {i w m : Int} (hW : WI t E c x) (h : Sw t E c x i w m) (hn : i + m < x → ∀ e : Nat, e < c → (E e).1 = w → laE t E e ≠ t (i + m)) : ∀ (n : Nat) (L w' : Int), L ≤ n → Sw t E c x i w' L → L ≤ m := by
  intro n
  have hm := Sw_1 hW h
  induction n with
  | zero =>
    intro L w' hL _
    omega
  | succ n ih =>
    intro L w' hL h'
    by_cases c1 : L ≤ m
    · exact c1
    exfalso
    rcases h'.2 with ⟨_, _, b3⟩ | ⟨e', b1, b2, b3, b4⟩
    · omega
    · have p2 := Sw_pa hW b1 h'.1 b3 b4
      have i1 := ih (L - 1) _ (by omega) p2
      have eL : L = m + 1 := by omega
      rw [eL, show m + 1 - 1 = m by omega] at p2
      have ew := Sw_u hW m.toNat m _ _ (by omega) p2 h
      have hx' := h'.1
      refine hn (by omega) e' b1 ew ?_
      unfold laE
      have y2 := b4 (L - 1) (by omega) (by omega)
      rw [b3, show (E e').2.1 + L - 1 = (E e').2.1 + (L - 1) by omega, y2, eL]
      rw [show i + (m + 1 - 1) = i + m by omega]
def lkF (t : Int → Int) (E : Nat → Int × Int × Int) (w ch : Int) : Nat → Int
  | 0 => 0
  | n + 1 => if (E n).1 = w ∧ laE t E n = ch then 258 + n else lkF t E w ch n
theorem lkF_s (w ch : Int) (n : Nat) : lkF t E w ch (n + 1) = if (E n).1 = w ∧ laE t E n = ch then 258 + (n : Int) else lkF t E w ch n := rfl
def nxF (E : Nat → Int × Int × Int) (w : Int) : Nat → Int
  | 0 => 0
  | n + 1 => if (E n).1 = w then 258 + n else nxF E w n
theorem nxF_s (w : Int) (n : Nat) : nxF E w (n + 1) = if (E n).1 = w then 258 + (n : Int) else nxF E w n := rfl
theorem lkF_0 {w ch : Int} : ∀ n : Nat, (lkF t E w ch n = 0 ∧ ∀ e : Nat, e < n → (E e).1 = w → laE t E e ≠ ch) ∨ ∃ e : Nat, e < n ∧ lkF t E w ch n = 258 + e ∧ (E e).1 = w ∧ laE t E e = ch
  | 0 => Or.inl ⟨rfl, fun e he => absurd he (by omega)⟩
  | n + 1 => by
    rw [lkF_s]
    by_cases h : (E n).1 = w ∧ laE t E n = ch
    · rw [if_pos h]
      exact Or.inr ⟨n, by omega, rfl, h.1, h.2⟩
    · rw [if_neg h]
      rcases lkF_0 (w := w) (ch := ch) n with ⟨i1, i2⟩ | ⟨e, i1, i2⟩
      · refine Or.inl ⟨i1, fun e he y1 y2 => ?_⟩
        by_cases ee : e = n
        · rw [ee] at y1 y2; exact h ⟨y1, y2⟩
        · exact i2 e (by omega) y1 y2
      · exact Or.inr ⟨e, by omega, i2⟩
theorem nd_le : ∀ (n : Nat) (L : List Int), L.Nodup → (∀ o ∈ L, 0 ≤ o ∧ o < n) → L.length ≤ n
  | 0, L, _, h => by
    cases L with
    | nil => exact Nat.le_refl _
    | cons a l => have := h a (List.mem_cons_self ..); omega
  | n + 1, L, hd, h => by
    have i := nd_le n (L.erase (n : Int)) (hd.erase _) (fun o ho => by
      have h1 := h o (List.mem_of_mem_erase ho)
      have h2 : o ≠ n := ((hd.mem_erase_iff).1 ho).1
      omega)
    rw [List.length_erase] at i
    split at i <;> omega
/-- the tree in the class's rows -/
def TR (t : Int → Int) (E : Nat → Int × Int × Int) (c : Nat) (A : ms) : Prop := (∀ w : Int, (0 ≤ w ∧ w < 256) ∨ (258 ≤ w ∧ w < 258 + c) → A.1 23 w = nxF E w c) ∧ ∀ e : Nat, e < c → A.1 24 (258 + e) = nxF E (E e).1 e ∧ A.1 25 (258 + e) = laE t E e
theorem TR_e {A A' : ms} (h : TR t E c A) (e : ∀ (a : Nat) (k : Int), 23 ≤ a ∧ a ≤ 25 → A'.1 a k = A.1 a k) : TR t E c A' := ⟨fun w hw => by rw [e 23 w (by omega)]; exact h.1 w hw, fun k hk => by rw [e 24 _ (by omega), e 25 _ (by omega)]; exact h.2 k hk⟩
theorem laE_rg (ht : ∀ k : Int, 0 ≤ k → k < x → 0 ≤ t k ∧ t k < 256) (hW : WI t E c x) {e : Nat} (he : e < c) : 0 ≤ laE t E e ∧ laE t E e < 256 := by
  have := (hW.1 e he).1
  exact ht _ (by omega) (by omega)
theorem cl_longer {A : ms} {w ch : Int} (ht : ∀ k : Int, 0 ≤ k → k < x → 0 ≤ t k ∧ t k < 256) (hc : c ≤ 3838) (hW : WI t E c x) (hw : (0 ≤ w ∧ w < 256) ∨ (258 ≤ w ∧ w < 258 + c)) (hch : 0 ≤ ch ∧ ch < 256) (hA : TR t E c A) : EV q 51 0 [some (.ref 22), some (vI w), some (vI ch), none, none] [] A (some (vI (lkF t E w ch c))) A := by
  have wc : w32 ch = ch := w32_of (by omega)
  have lp : ∀ (n : Nat) (L : List Int), n ≤ c → L.Nodup → (∀ o ∈ L, (0 ≤ o ∧ o < 256) ∧ ∃ e : Nat, (n ≤ e ∧ e < c) ∧ (E e).1 = w ∧ laE t E e = o) → EV q 51 10 [some (.ref 22), some (vI w), some (vI ch), some (vI (nxF E w n)), some (vI (L.length : Int))] [] A (some (vI (lkF t E w ch n))) A := by
    intro n
    induction n with
    | zero =>
      intro L _ _ _
      exact vc_Plain_longerWord_10 _ _ _ _ ⟨fun _ => ⟨rfl, rfl⟩, fun _ => cY (by show w32 0 ≤ 0; decide) ⟨rfl, rfl⟩⟩
    | succ n ih =>
      intro L hn hd hL
      rw [nxF_s, lkF_s]
      have ll := nd_le 256 L hd (fun o ho => by have := (hL o ho).1; omega)
      have wl : Unit → w32 (L.length : Int) = L.length := fun _ => w32_of (by omega)
      by_cases hp : (E n).1 = w
      · rw [if_pos hp]
        have w8 : w32 (258 + (n : Int)) = 258 + n := w32_of (by omega)
        have lr := laE_rg ht hW (e := n) (by omega)
        have e25 := (hA.2 n (by omega)).2
        have e24 := (hA.2 n (by omega)).1
        rw [hp] at e24
        by_cases hl : laE t E n = ch
        · rw [if_pos ⟨hp, hl⟩]
          refine vc_Plain_longerWord_10 _ _ _ _ ⟨fun _ => ⟨rfl, rfl⟩, fun _ => ?_⟩
          rw [w8, e25, wc, w32_of (x := laE t E n) (by omega)]
          exact cNo (by omega) ⟨by omega, cY hl ⟨rfl, rfl⟩⟩
        · rw [if_neg (fun y => hl y.2)]
          have hd' : (laE t E n :: L).Nodup := List.nodup_cons.2 ⟨fun y => by
            obtain ⟨_, e, e1, e2, e3⟩ := hL _ y
            have := hW.2 e n (by omega) (by omega) (by rw [e2, hp]) e3
            omega, hd⟩
          have hL' : ∀ o ∈ laE t E n :: L, (0 ≤ o ∧ o < 256) ∧ ∃ e : Nat, (n ≤ e ∧ e < c) ∧ (E e).1 = w ∧ laE t E e = o := fun o ho => by
            rcases List.mem_cons.1 ho with y | y
            · rw [y]; exact ⟨lr, n, by omega, hp, rfl⟩
            · obtain ⟨o1, e, e1, e2⟩ := hL o y
              exact ⟨o1, e, by omega, e2⟩
          have l2 := nd_le 256 _ hd' (fun o ho => by have := (hL' o ho).1; omega)
          rw [List.length_cons] at l2
          have i1 := ih (laE t E n :: L) (by omega) hd' hL'
          rw [List.length_cons, show ((L.length + 1 : Nat) : Int) = (L.length : Int) + 1 by omega] at i1
          refine vc_Plain_longerWord_10 _ _ _ _ ?_
          rw [w8, e25, e24, wc, w32_of (x := laE t E n) (by omega), wl ()]
          exact cNo (by omega) (cNo (by omega) ⟨by omega, cNo hl ⟨by omega, i1⟩⟩)
      · rw [if_neg hp, if_neg (fun y => hp y.1)]
        exact ih L (by omega) hd (fun o ho => by
          obtain ⟨o1, e, e1, e2⟩ := hL o ho
          exact ⟨o1, e, by omega, e2⟩)
  have ww : w32 w = w := w32_of (by omega)
  refine vc_Plain_longerWord _ _ ?_
  rw [ww, hA.1 w hw]
  exact ⟨by omega, lp c [] (Nat.le_refl _) List.nodup_nil (fun o ho => absurd ho (List.not_mem_nil))⟩
theorem nxF_z {w : Int} : ∀ n : Nat, (∀ e : Nat, e < n → (E e).1 ≠ w) → nxF E w n = 0
  | 0, _ => rfl
  | n + 1, h => by rw [nxF_s, if_neg (h n (by omega)), nxF_z n (fun e he => h e (by omega))]
theorem WI_pa (hW : WI t E c x) : ∀ e : Nat, e < c → ((0 ≤ (E e).1 ∧ (E e).1 < 256) ∨ (258 ≤ (E e).1 ∧ (E e).1 < 258 + (e : Int))) := fun e he => by
  rcases (hW.1 e he).2.2 with ⟨_, a2, _⟩ | ⟨e', a1, a2, _⟩
  · exact Or.inl a2
  · right; omega
/-- the class adds an entry -/
theorem cl_addw {A : ms} {pw : Int} (hpa : ∀ e : Nat, e < c → (E e).1 < 258 + (e : Int)) (hc : c + 1 ≤ 3838) (ep : (E c).1 = pw) (hw : (0 ≤ pw ∧ pw < 256) ∨ (258 ≤ pw ∧ pw < 258 + c)) (hA : TR t E c A) : ∃ A', EX (fun a _ => 23 ≤ a ∧ a ≤ 25) A A' ∧ TR t E (c + 1) A' ∧ EV q 50 0 [some (.ref 22), some (vI pw), some (vI (laE t E c)), some (vI (258 + (c : Int)))] [] A none A' := by
  have w8 : w32 (258 + (c : Int)) = 258 + c := w32_of (by omega)
  have wp : w32 pw = pw := w32_of (by omega)
  refine ⟨wI (wI (wI (wI A 25 (258 + (c : Int)) (laE t E c)) 24 (258 + (c : Int)) (A.1 23 pw)) 23 pw (258 + (c : Int))) 23 (258 + (c : Int)) 0, ((((EX.refl _ A).wr (by omega)).wr (by omega)).wr (by omega)).wr (by omega), ⟨fun w hw' => ?_, fun e he => ?_⟩, vc_Plain_addWord _ _ _ ?_⟩
  · rw [nxF_s]
    have key : (wI (wI (wI (wI A 25 (258 + (c : Int)) (laE t E c)) 24 (258 + (c : Int)) (A.1 23 pw)) 23 pw (258 + (c : Int))) 23 (258 + (c : Int)) 0).1 23 w = if w = 258 + (c : Int) then 0 else if w = pw then 258 + (c : Int) else A.1 23 w := by
      by_cases c1 : w = 258 + (c : Int)
      · rw [if_pos c1, c1, wI_at]
      · rw [if_neg c1, wI_no _ (by omega)]
        by_cases c2 : w = pw
        · rw [if_pos c2, c2, wI_at]
        · rw [if_neg c2, wI_no _ (by omega), wI_no _ (by omega), wI_no _ (by omega)]
    rw [key]
    by_cases c1 : w = 258 + (c : Int)
    · rw [if_pos c1, if_neg (by omega), nxF_z c (fun e he => by have := hpa e he; omega)]
    · rw [if_neg c1, ep]
      by_cases c2 : w = pw
      · rw [if_pos c2, if_pos c2.symm]
      · rw [if_neg c2, if_neg (fun y => c2 y.symm)]
        exact hA.1 w (by omega)
  · by_cases ee : e = c
    · subst ee
      rw [wI_no _ (by omega), wI_no _ (by omega), wI_at, wI_no _ (by omega), wI_no _ (by omega), wI_no _ (by omega), wI_at, ep]
      exact ⟨hA.1 pw hw, rfl⟩
    · rw [wI_no _ (by omega), wI_no _ (by omega), wI_no _ (by omega), wI_no _ (by omega), wI_no _ (by omega), wI_no _ (by omega), wI_no _ (by omega), wI_no _ (by omega)]
      exact hA.2 e (by omega)
  · rw [w8, wp]
    refine cNo (by omega) ⟨by omega, fun S2 f2 => ⟨by omega, by omega, fun S5 f5 => ⟨by omega, fun S7 f7 => ⟨by omega, fun S9 f9 => ⟨rfl, ?_⟩⟩⟩⟩⟩
    have e2 : S2.1 23 pw = A.1 23 pw := by rw [f2, wI_no _ (by omega)]
    rw [f9, f7, f5, e2, f2]
end PWordsA
