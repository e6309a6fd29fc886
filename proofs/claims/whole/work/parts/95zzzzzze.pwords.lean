/-! pack: WORDS, one word on each side -/
section PWordsB
variable {q : Nat × (Nat → Int32)} {x : Int} {t : Int → Int} {E : Nat → Int × Int × Int} {c : Nat}
def lgW (t : Int → Int) (E : Nat → Int × Int × Int) (c : Nat) (x w p : Int) : Int := if p < x then lkF t E w (t p) c else 0
theorem Sw_rg {i w m : Int} (h : Sw t E c x i w m) : (0 ≤ w ∧ w < 256) ∨ (258 ≤ w ∧ w < 258 + c) := by
  rcases h.2 with ⟨_, a, _⟩ | ⟨e, a1, a2, _⟩
  · exact Or.inl a
  · right; omega
/-- the class's walk down the tree -/
theorem cl_walk {i : Int} (hx : 0 ≤ x ∧ x ≤ 6000) (ht : ∀ k : Int, 0 ≤ k → k < x → 0 ≤ t k ∧ t k < 256) (hc : c ≤ 3838) (hW : WI t E c x) (hi : 0 ≤ i ∧ i < x) : ∀ (v : Nat) (w m : Int), x - i - m ≤ v → 1 ≤ m → Sw t E c x i w m → ∃ w' m' : Int, (m ≤ m' ∧ Sw t E c x i w' m') ∧ lgW t E c x w' (i + m') = 0 ∧ ∀ (A : ms) (o : Nat) (x3 x4 x6 : Int) (R : Option Value) (T : ms), isRow o 12000 → TXc A x t → TR t E c A → EV q 48 166 [some (.ref 22), some (.ref 1), some (.ref o), some (vI x3), some (vI x4), some (vI (i + m')), some (vI x6), some (vI w'), some (vI 0), some (vI (m' - 1))] [] A R T → EV q 48 111 [some (.ref 22), some (.ref 1), some (.ref o), some (vI x3), some (vI x4), some (vI (i + m)), some (vI x6), some (vI w), some (vI (lgW t E c x w (i + m))), some (vI (m - 1))] [] A R T := by
  have wx : w32 x = x := w32_of (by omega)
  have dn : ∀ (w m : Int), 1 ≤ m → Sw t E c x i w m → lgW t E c x w (i + m) = 0 → ∃ w' m' : Int, (m ≤ m' ∧ Sw t E c x i w' m') ∧ lgW t E c x w' (i + m') = 0 ∧ ∀ (A : ms) (o : Nat) (x3 x4 x6 : Int) (R : Option Value) (T : ms), isRow o 12000 → TXc A x t → TR t E c A → EV q 48 166 [some (.ref 22), some (.ref 1), some (.ref o), some (vI x3), some (vI x4), some (vI (i + m')), some (vI x6), some (vI w'), some (vI 0), some (vI (m' - 1))] [] A R T → EV q 48 111 [some (.ref 22), some (.ref 1), some (.ref o), some (vI x3), some (vI x4), some (vI (i + m)), some (vI x6), some (vI w), some (vI (lgW t E c x w (i + m))), some (vI (m - 1))] [] A R T := fun w m hm h h0 => by
    refine ⟨w, m, ⟨Int.le_refl _, h⟩, h0, fun A o x3 x4 x6 R T ho hA hT k => vc_Plain_packWords_111 _ _ _ _ _ _ _ 1 6000 tr_row _ _ ho ?_⟩
    rw [h0]
    exact ⟨fun _ => k, fun _ => cY (by decide) k⟩
  intro v
  induction v with
  | zero =>
    intro w m hv hm h
    exact dn w m hm h (by unfold lgW; rw [if_neg (by omega)])
  | succ v ih =>
    intro w m hv hm h
    have hmx := h.1
    by_cases c0 : lgW t E c x w (i + m) = 0
    · exact dn w m hm h c0
    have hpx : i + m < x := by
      by_cases y : i + m < x
      · exact y
      · exact absurd (by unfold lgW; rw [if_neg y]) c0
    have el : lgW t E c x w (i + m) = lkF t E w (t (i + m)) c := by unfold lgW; rw [if_pos hpx]
    rcases lkF_0 (t := t) (E := E) (w := w) (ch := t (i + m)) c with ⟨y, _⟩ | ⟨e, e1, e2, e3, e4⟩
    · rw [el] at c0; exact absurd y c0
    have u1 := (hW.1 e e1).1
    have u2 := (hW.1 e e1).2
    -- the child stands at i too
    have hel : (E e).2.2 = m + 1 ∧ ∀ j : Int, 0 ≤ j → j < m → t ((E e).2.1 + j) = t (i + j) := by
      rw [e3] at u2
      rcases h.2 with ⟨a1, a2, a3⟩ | ⟨e', a1, a2, a3, a4⟩
      · rcases u2.2 with ⟨b1, b2, b3⟩ | ⟨e'', b1, b2, b3, b4⟩
        · refine ⟨by omega, fun j j0 j1 => ?_⟩
          rw [show j = 0 by omega, Int.add_zero, Int.add_zero, ← b1, a1]
        · omega
      · rcases u2.2 with ⟨b1, b2, b3⟩ | ⟨e'', b1, b2, b3, b4⟩
        · omega
        · have ee : e'' = e' := by omega
          subst ee
          refine ⟨by omega, fun j j0 j1 => ?_⟩
          rw [← b4 j j0 (by omega), a4 j j0 j1]
    have h' : Sw t E c x i (258 + (e : Int)) (m + 1) := by
      refine ⟨by omega, Or.inr ⟨e, e1, rfl, hel.1, fun j j0 j1 => ?_⟩⟩
      by_cases ej : j = m
      · rw [ej]
        unfold laE at e4
        rw [hel.1, show (E e).2.1 + (m + 1) - 1 = (E e).2.1 + m by omega] at e4
        exact e4
      · exact hel.2 j j0 (by omega)
    obtain ⟨w', m', g1, g2, g3⟩ := ih (258 + (e : Int)) (m + 1) (by omega) (by omega) h'
    refine ⟨w', m', ⟨by omega, g1.2⟩, g2, fun A o x3 x4 x6 R T ho hA hT k => vc_Plain_packWords_111 _ _ _ _ _ _ _ 1 6000 tr_row _ _ ho ?_⟩
    have g4 := g3 A o x3 x4 x6 R T ho hA hT k
    rw [show m + 1 - 1 = m - 1 + 1 by omega, show i + (m + 1) = i + m + 1 by omega] at g4
    rw [hA.1, wx, el, e2, w32_of (x := m - 1) (by omega), w32_of (x := 258 + (e : Int)) (by omega), w32_of (x := i + m + 1) (by omega)]
    refine cNo (by omega) (cNo (by omega) ?_)
    by_cases cp : x ≤ i + m + 1
    · refine cY cp (vc_Plain_packWords_158 _ _ _ _ _ _ _ _ 1 6000 tr_row _ _ ho ?_)
      have : lgW t E c x (258 + (e : Int)) (i + m + 1) = 0 := by unfold lgW; rw [if_neg (by omega)]
      rw [this] at g4
      exact g4
    · have tp := hA.2 (i + m + 1) (by omega) (by omega)
      have kl := cl_longer (q := q) (A := A) (w := 258 + (e : Int)) (ch := t (i + m + 1)) ht hc hW (by omega) tp.1 hT
      refine cNo cp ⟨by omega, lkF t E (258 + (e : Int)) (t (i + m + 1)) c, A, ?_, vc_Plain_packWords_158 _ _ _ _ _ _ _ _ 1 6000 tr_row _ _ ho ?_⟩
      · rw [show A.1 (1 + 1) (i + m + 1) = t (i + m + 1) from tp.2]
        exact kl
      · have : lgW t E c x (258 + (e : Int)) (i + m + 1) = lkF t E (258 + (e : Int)) (t (i + m + 1)) c := by unfold lgW; rw [if_pos (by omega)]
        rw [this] at g4
        exact g4
/-- the word that both find at i -/
def FW (t : Int → Int) (E : Nat → Int × Int × Int) (c : Nat) (x i w m : Int) : Prop := Sw t E c x i w m ∧ (i + m < x → ∀ e : Nat, e < c → (E e).1 = w → laE t E e ≠ t (i + m))
theorem cl_word {i : Int} (hx : 0 ≤ x ∧ x ≤ 6000) (ht : ∀ k : Int, 0 ≤ k → k < x → 0 ≤ t k ∧ t k < 256) (hc : c ≤ 3838) (hW : WI t E c x) (hi : 0 ≤ i ∧ i < x) : ∃ w m : Int, FW t E c x i w m ∧ ∀ (A : ms) (o : Nat) (x3 x4 x6 : Int) (R : Option Value) (T : ms), isRow o 12000 → TXc A x t → TR t E c A → EV q 48 166 [some (.ref 22), some (.ref 1), some (.ref o), some (vI x3), some (vI x4), some (vI (i + m)), some (vI x6), some (vI w), some (vI 0), some (vI (m - 1))] [] A R T → EV q 48 68 [some (.ref 22), some (.ref 1), some (.ref o), some (vI x3), some (vI x4), some (vI i), some (vI x6), none, none, none] [] A R T := by
  have wx : w32 x = x := w32_of (by omega)
  have wi : w32 i = i := w32_of (by omega)
  have wi1 : w32 (i + 1) = i + 1 := w32_of (by omega)
  have ti := ht i hi.1 hi.2
  have h1 : Sw t E c x i (t i) 1 := ⟨by omega, Or.inl ⟨rfl, ti, rfl⟩⟩
  obtain ⟨w, m, g1, g2, g3⟩ := cl_walk (q := q) hx ht hc hW hi (x - i).toNat (t i) 1 (by omega) (by omega) h1
  refine ⟨w, m, ⟨g1.2, fun y e e1 e2 e3 => ?_⟩, fun A o x3 x4 x6 R T ho hA hT k => vc_Plain_packWords_68 _ _ _ _ 1 6000 tr_row _ _ ho ?_⟩
  · unfold lgW at g2
    rw [if_pos y] at g2
    rcases lkF_0 (t := t) (E := E) (w := w) (ch := t (i + m)) c with ⟨_, y2⟩ | ⟨e', _, y2, _, _⟩
    · exact y2 e e1 e2 e3
    · omega
  · have g4 := g3 A o x3 x4 x6 R T ho hA hT k
    rw [show (1 : Int) - 1 = 0 by decide] at g4
    rw [hA.1, wx, wi, wi1, show A.1 (1 + 1) i = t i from (hA.2 i hi.1 hi.2).2]
    refine ⟨by omega, ?_⟩
    by_cases cp : x ≤ i + 1
    · refine cY cp (vc_Plain_packWords_106 _ _ _ _ _ _ 1 6000 tr_row _ _ ho ?_)
      have : lgW t E c x (t i) (i + 1) = 0 := by unfold lgW; rw [if_neg (by omega)]
      rw [this] at g4
      exact g4
    · have tp := hA.2 (i + 1) (by omega) (by omega)
      have kl := cl_longer (q := q) (A := A) (w := t i) (ch := t (i + 1)) ht hc hW (Or.inl ti) tp.1 hT
      refine cNo cp ⟨by omega, lkF t E (t i) (t (i + 1)) c, A, ?_, vc_Plain_packWords_106 _ _ _ _ _ _ 1 6000 tr_row _ _ ho ?_⟩
      · rw [show A.1 (1 + 1) (i + 1) = t (i + 1) from tp.2]
        exact kl
      · have : lgW t E c x (t i) (i + 1) = lkF t E (t i) (t (i + 1)) c := by unfold lgW; rw [if_pos (by omega)]
        rw [this] at g4
        exact g4
/-- the reference: do n octets at p go on at i -/
theorem md_goes {p i : Int} (hx : 0 ≤ x ∧ x ≤ 6000) (ht : ∀ k : Int, 0 ≤ k → k < x → 0 ≤ t k ∧ t k < 256) (n : Int) (hp : 0 ≤ p ∧ p + n ≤ x) (hi : 0 ≤ i ∧ i + n ≤ x) (hn : 0 ≤ n) : ∃ z : Int, ((z = 1 ∧ ∀ j : Int, 0 ≤ j → j < n → t (p + j) = t (i + j)) ∨ (z = 0 ∧ ¬ ∀ j : Int, 0 ≤ j → j < n → t (p + j) = t (i + j))) ∧ ∀ B : ms, TXm B x t → EV q 287 0 [some (.ref 367), some (.ref 368), some (vI p), some (vI i), some (vI n), none] [] B (some (vI z)) B := by
  have wn : w32 n = n := w32_of (by omega)
  have lp : ∀ (v : Nat) (j : Int), j + v = n → 0 ≤ j → (∀ k : Int, 0 ≤ k → k < j → t (p + k) = t (i + k)) → ∃ z : Int, ((z = 1 ∧ ∀ j : Int, 0 ≤ j → j < n → t (p + j) = t (i + j)) ∨ (z = 0 ∧ ¬ ∀ j : Int, 0 ≤ j → j < n → t (p + j) = t (i + j))) ∧ ∀ B : ms, TXm B x t → EV q 287 3 [some (.ref 367), some (.ref 368), some (vI p), some (vI i), some (vI n), some (vI j)] [] B (some (vI z)) B := by
    intro v
    induction v with
    | zero =>
      intro j hj j0 h
      have e : j = n := by omega
      subst e
      exact ⟨1, Or.inl ⟨rfl, h⟩, fun B hB => vc_MD_goesOn_3 _ _ _ _ 368 6000 rfl (cY (Int.le_refl _) ⟨rfl, rfl⟩)⟩
    | succ v ih =>
      intro j hj j0 h
      have wj : w32 j = j := w32_of (by omega)
      have w1 : w32 (p + j) = p + j := w32_of (by omega)
      have w2 : w32 (i + j) = i + j := w32_of (by omega)
      have eB : ∀ B : ms, TXm B x t → (w32 (B.1 368 (p + j)) = w32 (B.1 368 (i + j)) ↔ t (p + j) = t (i + j)) := fun B hB => by
        rw [(hB.2 (p + j) (by omega) (by omega)).2, (hB.2 (i + j) (by omega) (by omega)).2, w32_of (x := b8 (t (p + j))) (by have := b8_rg (t (p + j)); omega), w32_of (x := b8 (t (i + j))) (by have := b8_rg (t (i + j)); omega)]
        exact b8_eq (ht _ (by omega) (by omega)) (ht _ (by omega) (by omega))
      by_cases ct : t (p + j) = t (i + j)
      · obtain ⟨z, z1, z2⟩ := ih (j + 1) (by omega) (by omega) (fun k k0 k1 => by
          by_cases e : k = j
          · rw [e]; exact ct
          · exact h k k0 (by omega))
        refine ⟨z, z1, fun B hB => vc_MD_goesOn_3 _ _ _ _ 368 6000 rfl ?_⟩
        rw [wn, wj, w1, w2]
        exact cNo (by omega) ⟨by omega, by omega, cY ((eB B hB).2 ct) (z2 B hB)⟩
      · refine ⟨0, Or.inr ⟨rfl, fun y => ct (y j j0 (by omega))⟩, fun B hB => vc_MD_goesOn_3 _ _ _ _ 368 6000 rfl ?_⟩
        rw [wn, wj, w1, w2]
        exact cNo (by omega) ⟨by omega, by omega, cNo (fun y => ct ((eB B hB).1 y)) ⟨rfl, rfl⟩⟩
  obtain ⟨z, z1, z2⟩ := lp n.toNat 0 (by omega) (by omega) (fun k k0 k1 => absurd k1 (by omega))
  exact ⟨z, z1, fun B hB => vc_MD_goesOn _ _ _ 368 6000 rfl (z2 B hB)⟩
/-- the entries in the reference's rows -/
def RE2 (E : Nat → Int × Int × Int) (c : Nat) (B : ms) : Prop := ∀ e : Nat, e < c → B.1 383 e = (E e).2.1 ∧ B.1 384 e = (E e).2.2
theorem RE2_e {B B' : ms} (h : RE2 E c B) (e : ∀ (a : Nat) (k : Int), a = 383 ∨ a = 384 → B'.1 a k = B.1 a k) : RE2 E c B' := fun k hk => by rw [e 383 _ (by omega), e 384 _ (by omega)]; exact h k hk
/-- the reference's search -/
theorem md_word {i bp bl w m : Int} (hx : 0 ≤ x ∧ x ≤ 6000) (ht : ∀ k : Int, 0 ≤ k → k < x → 0 ≤ t k ∧ t k < 256) (hc : c ≤ 3838) (hW : WI t E c x) (hi : 0 ≤ i ∧ i < x) (hpe : 0 < c → (E (c - 1)).2.1 = bp ∧ (E (c - 1)).2.2 = bl + 1 ∧ i = bp + bl) (hF : FW t E c x i w m) : ∀ (B : ms) (R : Option Value) (T : ms), TXm B x t → RE2 E (c - 1) B → (∀ x7 : Int, (0 < c → x7 = bl + 1) → EV q 283 223 [some (.ref 367), some (vI c), some (vI i), some (vI bp), some (vI bl), some (vI w), some (vI m), some (vI x7)] [] B R T) → EV q 283 46 [some (.ref 367), some (vI c), some (vI i), some (vI bp), some (vI bl), none, none, none] [] B R T := by
  intro B R T hB hE kE
  have wx : w32 x = x := w32_of (by omega)
  have wi : w32 i = i := w32_of (by omega)
  have ti := ht i hi.1 hi.2
  have wc1 : w32 ((c : Int) - 1) = c - 1 := w32_of (by omega)
  have wc0 : Unit → w32 (c : Int) = c := fun _ => w32_of (by omega)
  have eB : ∀ a b : Int, 0 ≤ a → a < x → 0 ≤ b → b < x → (w32 (B.1 368 a) = w32 (B.1 368 b) ↔ t a = t b) := fun a b a0 a1 b0 b1 => by
    rw [(hB.2 a a0 a1).2, (hB.2 b b0 b1).2, w32_of (x := b8 (t a)) (by have := b8_rg (t a); omega), w32_of (x := b8 (t b)) (by have := b8_rg (t b); omega)]
    exact b8_eq (ht a a0 a1) (ht b b0 b1)
  -- what is found in the end
  have fin : ∀ b l : Int, Sw t E c x i b l → (∀ e : Nat, e < c → Sw t E c x i (258 + (e : Int)) (E e).2.2 → (E e).2.2 ≤ l) → b = w ∧ l = m := fun b l h1 h2 => by
    have m1 := Sw_mx hW hF.1 hF.2 l.toNat l b (by omega) h1
    have l1 := Sw_1 hW h1
    have h3 : m ≤ l := by
      rcases hF.1.2 with ⟨_, _, a⟩ | ⟨e, a1, a2, a3, a4⟩
      · omega
      · have := h2 e a1 (by rw [a3, ← a2]; exact hF.1)
        omega
    have e : l = m := by omega
    rw [e] at h1
    exact ⟨Sw_u hW m.toNat m _ _ (by omega) h1 hF.1, e⟩
  have lp : ∀ (v e : Nat) (b l : Int), e + v = c - 1 → Sw t E c x i b l → (∀ e' : Nat, e' < e → Sw t E c x i (258 + (e' : Int)) (E e').2.2 → (E e').2.2 ≤ l) → EV q 283 64 [some (.ref 367), some (vI c), some (vI i), some (vI bp), some (vI bl), some (vI b), some (vI l), some (vI e)] [] B R T := by
    intro v
    induction v with
    | zero =>
      intro e b l he hS hM
      have l1 := Sw_1 hW hS
      have hlx := hS.1
      refine vc_MD_packWords_64 _ _ _ _ _ _ _ ?_
      have we : Unit → w32 (e : Int) = e := fun _ => w32_of (by omega)
      rw [wc1, we (), wc0 ()]
      refine cY (by omega) ?_
      by_cases c0 : c = 0
      · obtain ⟨y1, y2⟩ := fin b l hS (fun e' h' => absurd h' (by omega))
        rw [y1, y2]
        exact cY (by omega) (kE _ (fun y => absurd y (by omega)))
      obtain ⟨p1, p2, p3⟩ := hpe (by omega)
      have u1 := (hW.1 (c - 1) (by omega)).1
      rw [p1, p2] at u1
      have ec : e = c - 1 := by omega
      have stay : ¬ Sw t E c x i (258 + ((c - 1 : Nat) : Int)) (bl + 1) ∨ bl + 1 ≤ l → EV q 283 223 [some (.ref 367), some (vI c), some (vI i), some (vI bp), some (vI bl), some (vI b), some (vI l), some (vI (bl + 1))] [] B R T := fun y => by
        obtain ⟨y1, y2⟩ := fin b l hS (fun e' h' hS' => by
          by_cases ee : e' = c - 1
          · rw [ee, p2] at hS'
            rw [ee, p2]
            rcases y with y | y
            · exact absurd hS' y
            · exact y
          · exact hM e' (by omega) hS')
        rw [y1, y2]
        exact kE _ (fun _ => rfl)
      refine cNo (by omega) ?_
      rw [w32_of (x := bl + 1) (by omega), w32_of (x := l) (by omega), hB.1, wx, w32_of (x := i + (bl + 1)) (by omega)]
      by_cases c1 : bl + 1 ≤ l
      · exact cY c1 (stay (Or.inr c1))
      refine cNo c1 ?_
      by_cases c2 : x < i + (bl + 1)
      · exact cY c2 (stay (Or.inl (fun y => by have := y.1; omega)))
      refine cNo c2 ?_
      obtain ⟨z, z1, z2⟩ := md_goes (q := q) (p := bp) (i := i) hx ht bl (by omega) (by omega) (by omega)
      refine ⟨z, B, z2 B hB, ?_⟩
      rcases z1 with ⟨z3, z4⟩ | ⟨z3, z4⟩
      · rw [z3, w32_of (x := i + bl) (by omega), wi]
        refine cNo (by decide) ⟨by omega, by omega, ?_⟩
        by_cases c3 : t (i + bl) = t i
        · have hS' : Sw t E c x i (258 + ((c - 1 : Nat) : Int)) (bl + 1) := by
            refine ⟨by omega, Or.inr ⟨c - 1, by omega, rfl, p2, fun j j0 j1 => ?_⟩⟩
            rw [p1]
            by_cases ej : j = bl
            · rw [ej, ← p3, c3]
            · exact z4 j j0 (by omega)
          obtain ⟨y1, y2⟩ := fin (258 + ((c - 1 : Nat) : Int)) (bl + 1) hS' (fun e' h' hS2 => by
            by_cases ee : e' = c - 1
            · rw [ee, p2]; omega
            · have := hM e' (by omega) hS2
              omega)
          have k := kE (bl + 1) (fun _ => rfl)
          rw [← y1, ← y2, show 258 + ((c - 1 : Nat) : Int) = 258 + (c : Int) - 1 by omega] at k
          exact cNN ((eB (i + bl) i (by omega) (by omega) (by omega) (by omega)).2 c3) k
        · exact cY (fun y => c3 ((eB (i + bl) i (by omega) (by omega) (by omega) (by omega)).1 y)) (stay (Or.inl (fun y => by
            rcases y.2 with ⟨_, y2, _⟩ | ⟨e'', y1, y2, y3, y4⟩
            · omega
            · have ee : e'' = c - 1 := by omega
              rw [ee] at y4
              have := y4 bl (by omega) (by omega)
              rw [p1, ← p3] at this
              exact c3 this.symm)))
      · rw [z3]
        exact cY (by decide) (stay (Or.inl (fun y => by
          rcases y.2 with ⟨_, y2, _⟩ | ⟨e'', y1, y2, y3, y4⟩
          · omega
          · have ee : e'' = c - 1 := by omega
            rw [ee] at y4
            refine z4 (fun j j0 j1 => ?_)
            have := y4 j j0 (by omega)
            rw [p1] at this
            exact this)))
    | succ v ih =>
      intro e b l he hS hM
      have l1 := Sw_1 hW hS
      have hlx := hS.1
      have u1 := (hW.1 e (by omega)).1
      obtain ⟨e1, e2⟩ := hE e (by omega)
      have we : Unit → w32 (e : Int) = e := fun _ => w32_of (by omega)
      have stay : ¬ Sw t E c x i (258 + (e : Int)) (E e).2.2 ∨ (E e).2.2 ≤ l → EV q 283 143 [some (.ref 367), some (vI c), some (vI i), some (vI bp), some (vI bl), some (vI b), some (vI l), some (vI e)] [] B R T := fun y => by
        have k := ih (e + 1) b l (by omega) hS (fun e' h' hS' => by
          by_cases ee : e' = e
          · rw [ee] at hS' ⊢
            rcases y with y | y
            · exact absurd hS' y
            · exact y
          · exact hM e' (by omega) hS')
        rw [show ((e + 1 : Nat) : Int) = (e : Int) + 1 by omega] at k
        exact vc_MD_packWords_143 _ _ _ _ _ _ _ k
      refine vc_MD_packWords_64 _ _ _ _ _ _ _ ?_
      rw [wc1, we (), e2, e1, hB.1, wx, w32_of (x := (E e).2.2) (by omega), w32_of (x := l) (by omega), w32_of (x := i + (E e).2.2) (by omega)]
      refine cNo (by omega) ⟨by omega, ?_⟩
      by_cases c1 : (E e).2.2 ≤ l
      · exact cY c1 (stay (Or.inr c1))
      refine cNo c1 ⟨by omega, ?_⟩
      by_cases c2 : x < i + (E e).2.2
      · exact cY c2 (stay (Or.inl (fun y => by have := y.1; omega)))
      refine cNo c2 ⟨by omega, by omega, ?_⟩
      obtain ⟨z, z1, z2⟩ := md_goes (q := q) (p := (E e).2.1) (i := i) hx ht (E e).2.2 (by omega) (by omega) (by omega)
      refine ⟨z, B, z2 B hB, ?_⟩
      rcases z1 with ⟨z3, z4⟩ | ⟨z3, z4⟩
      · rw [z3]
        have hS' : Sw t E c x i (258 + (e : Int)) (E e).2.2 := ⟨by omega, Or.inr ⟨e, by omega, rfl, rfl, z4⟩⟩
        have k := ih (e + 1) (258 + (e : Int)) (E e).2.2 (by omega) hS' (fun e' h' hS2 => by
          by_cases ee : e' = e
          · rw [ee]; exact Int.le_refl _
          · have := hM e' (by omega) hS2
            omega)
        rw [show ((e + 1 : Nat) : Int) = (e : Int) + 1 by omega] at k
        refine cNo (by decide) ⟨by omega, ?_⟩
        rw [e2]
        exact vc_MD_packWords_143 _ _ _ _ _ _ _ k
      · rw [z3]
        exact cY (by decide) (stay (Or.inl (fun y => by
          rcases y.2 with ⟨_, y2, _⟩ | ⟨e'', y1, y2, y3, y4⟩
          · omega
          · have ee : e'' = e := by omega
            rw [ee] at y4
            exact z4 y4)))
  refine vc_MD_packWords_46 _ _ _ _ ?_
  rw [wi]
  refine ⟨by omega, ?_⟩
  rw [oct_eq ti (hB.2 i hi.1 hi.2).2]
  exact lp (c - 1) 0 (t i) 1 (by omega) ⟨by omega, Or.inl ⟨rfl, ti, rfl⟩⟩ (fun e' h' => absurd h' (by omega))
end PWordsB
