/-! pack: BLOCKS; the symbols of lengths and gaps; tokens are written -/
section PBlkB
variable {q : Nat × (Nat → Int32)} {x : Int} {t : Int → Int}
theorem sz_t : ∀ a b : Fin 29, a.val ≤ b.val → (3 ≤ sS 0 (a.val : Int) ∧ sS 0 (b.val : Int) ≤ 258) ∧ sS 0 (a.val : Int) ≤ sS 0 (b.val : Int) ∧ (a.val < b.val → sS 0 (a.val : Int) < sS 0 (b.val : Int)) := by decide +kernel
theorem sz_m {a b : Int} (ha : 0 ≤ a) (hab : a ≤ b) (hb : b ≤ 28) : (3 ≤ sS 0 a ∧ sS 0 b ≤ 258) ∧ sS 0 a ≤ sS 0 b ∧ (a < b → sS 0 a < sS 0 b) := by
  have k := sz_t ⟨a.toNat, by omega⟩ ⟨b.toNat, by omega⟩ (by show a.toNat ≤ b.toNat; omega)
  have e1 : ((a.toNat : Nat) : Int) = a := by omega
  have e2 : ((b.toNat : Nat) : Int) = b := by omega
  rw [show ((⟨a.toNat, by omega⟩ : Fin 29).val) = a.toNat from rfl, show ((⟨b.toNat, by omega⟩ : Fin 29).val) = b.toNat from rfl, e1, e2] at k
  exact ⟨k.1, k.2.1, fun y => k.2.2 (by omega)⟩
theorem sz_28 : sS 0 28 = 258 ∧ sS 0 0 = 3 ∧ sS 0 1 = 4 := by decide +kernel
theorem szS_s (m : Nat) : szS (m + 1) = if 29 ≤ szS m + 1 then szS m else if ((3 + m : Nat) : Int) < w32 (sS 0 (szS m + 1)) then szS m else szS m + 1 := rfl
theorem szS_p : ∀ m : Nat, sS 0 (szS (m + 1)) ≤ (m : Int) + 3 ∧ (szS (m + 1) < 28 → (m : Int) + 3 < sS 0 (szS (m + 1) + 1))
  | 0 => by
    have z : szS 0 = 0 := rfl
    have e : szS 1 = 0 := by
      rw [szS_s, z, if_neg (by decide), show (0 : Int) + 1 = 1 by decide, sz_28.2.2, if_pos (by decide)]
    rw [e, show (0 : Int) + 1 = 1 by decide, sz_28.2.1, sz_28.2.2]
    decide
  | m + 1 => by
    have ih := szS_p m
    have r := szS_rg (m + 1)
    rw [szS_s]
    obtain ⟨z, ez⟩ : ∃ z, z = szS (m + 1) := ⟨_, rfl⟩
    rw [← ez] at ih r ⊢
    by_cases c : 29 ≤ z + 1
    · rw [if_pos c, show z = 28 by omega, sz_28.1]
      have := ih.1
      rw [show z = 28 by omega, sz_28.1] at this
      exact ⟨by omega, fun y => absurd y (by decide)⟩
    · rw [if_neg c]
      have q1 := sz_m (a := z + 1) (b := z + 1) (by omega) (Int.le_refl _) (by omega)
      have i2 := ih.2 (by omega)
      rw [w32_of (x := sS 0 (z + 1)) (by omega)]
      by_cases d : ((3 + (m + 1) : Nat) : Int) < sS 0 (z + 1)
      · rw [if_pos d]
        exact ⟨by have := ih.1; omega, fun _ => by omega⟩
      · rw [if_neg d]
        refine ⟨by omega, fun y => ?_⟩
        have q2 := (sz_m (a := z + 1) (b := z + 1 + 1) (by omega) (by omega) (by omega)).2.2 (by omega)
        omega
/-- the symbol of a length, less 257 -/
def lsF (n : Int) : Int := szS (n - 2).toNat
theorem lsF_p {n : Int} (h : 3 ≤ n ∧ n ≤ 258) : (0 ≤ lsF n ∧ lsF n ≤ 28) ∧ sS 0 (lsF n) ≤ n ∧ (lsF n < 28 → n < sS 0 (lsF n + 1)) ∧ (n = 258 → lsF n = 28) ∧ (n ≠ 258 → lsF n ≤ 27) := by
  obtain ⟨m, em⟩ : ∃ m : Nat, (n - 2).toNat = m + 1 := ⟨(n - 3).toNat, by omega⟩
  have r := szS_rg (m + 1)
  have p := szS_p m
  unfold lsF
  rw [em]
  obtain ⟨z, ez⟩ : ∃ z, z = szS (m + 1) := ⟨_, rfl⟩
  rw [← ez] at r p ⊢
  refine ⟨r, by omega, fun y => by have := p.2 y; omega, fun y => ?_, fun y => ?_⟩
  · by_cases c : z < 28
    · have := p.2 c
      have := (sz_m (a := z + 1) (b := z + 1) (by omega) (Int.le_refl _) (by omega)).1
      omega
    · omega
  · by_cases c : z = 28
    · have := p.1
      rw [c, sz_28.1] at this
      omega
    · omega
theorem md_len {B : ms} {n : Int} (h : 3 ≤ n ∧ n ≤ 258) (hT : TbM B) : EV q 297 0 [some (.ref 367), some (vI n), none] [] B (some (vI (lsF n))) B := by
  obtain ⟨p1, p2, p3, p4, p5⟩ := lsF_p h
  have wn : w32 n = n := w32_of (by omega)
  refine vc_MD_lengthSymbol _ ?_
  rw [wn]
  by_cases c : n = 258
  · rw [p4 c]
    exact cNN c ⟨rfl, rfl⟩
  refine cY c ?_
  have lp : ∀ (v : Nat) (s : Int), s = lsF n + v → s ≤ 27 → EV q 297 13 [some (.ref 367), some (vI n), some (vI s)] [] B (some (vI (lsF n))) B := by
    intro v
    induction v with
    | zero =>
      intro s hs h27
      have e : s = lsF n := by omega
      subst e
      refine vc_MD_lengthSymbol_13 _ _ ?_
      rw [w32_of (x := lsF n) (by omega), (hT.1 (lsF n) (by omega) (by omega)).1, wn, w32_of (x := sS 0 (lsF n)) (by have := sz_m (a := lsF n) (b := lsF n) (by omega) (Int.le_refl _) (by omega); omega)]
      exact ⟨by omega, cY p2 ⟨rfl, rfl⟩⟩
    | succ v ih =>
      intro s hs h27
      have q1 := sz_m (a := lsF n + 1) (b := s) (by omega) (by omega) (by omega)
      have p3' := p3 (by omega)
      refine vc_MD_lengthSymbol_13 _ _ ?_
      rw [w32_of (x := s) (by omega), (hT.1 s (by omega) (by omega)).1, wn, w32_of (x := sS 0 s) (by omega)]
      exact ⟨by omega, cNo (by omega) (ih (s - 1) (by omega) (by omega))⟩
  have p27 := p5 c
  exact lp (27 - lsF n).toNat 27 (by omega) (by omega)
/-- the symbol of a gap -/
def dsG (g : Int) : Nat → Int
  | 0 => 0
  | s + 1 => if sS 4 ((s + 1 : Nat) : Int) ≤ g then ((s + 1 : Nat) : Int) else dsG g s
theorem dsG_s (g : Int) (s : Nat) : dsG g (s + 1) = if sS 4 ((s + 1 : Nat) : Int) ≤ g then ((s + 1 : Nat) : Int) else dsG g s := rfl
theorem gz_t : ∀ a : Fin 30, (1 ≤ sS 4 (a.val : Int) ∧ sS 4 (a.val : Int) ≤ 32768) ∧ (0 ≤ sS 5 (a.val : Int) ∧ sS 5 (a.val : Int) ≤ 13) ∧ sS 4 0 = 1 := by decide +kernel
theorem gz_r {d : Int} (h : 0 ≤ d ∧ d < 30) : (1 ≤ sS 4 d ∧ sS 4 d ≤ 32768) ∧ (0 ≤ sS 5 d ∧ sS 5 d ≤ 13) ∧ sS 4 0 = 1 := by
  have k := gz_t ⟨d.toNat, by omega⟩
  have e1 : ((d.toNat : Nat) : Int) = d := by omega
  rw [show ((⟨d.toNat, by omega⟩ : Fin 30).val) = d.toNat from rfl, e1] at k
  exact k
theorem dsG_r {g : Int} (hg : 1 ≤ g) : ∀ s : Nat, (0 ≤ dsG g s ∧ dsG g s ≤ s) ∧ sS 4 (dsG g s) ≤ g
  | 0 => by
    have z : dsG g 0 = 0 := rfl
    rw [z, (gz_r (d := 0) (by decide)).2.2]
    exact ⟨by decide, hg⟩
  | s + 1 => by
    have ih := dsG_r hg s
    rw [dsG_s]
    split
    · rename_i c
      exact ⟨by omega, c⟩
    · exact ⟨by omega, ih.2⟩
def dsF (g : Int) : Int := dsG g 29
theorem dsF_r {g : Int} (hg : 1 ≤ g) : (0 ≤ dsF g ∧ dsF g < 30) ∧ sS 4 (dsF g) ≤ g ∧ (0 ≤ sS 5 (dsF g) ∧ sS 5 (dsF g) ≤ 13) := by
  have h := dsG_r hg 29
  have e : dsG g 29 = dsF g := rfl
  rw [e] at h
  have h1 : 0 ≤ dsF g ∧ dsF g < 30 := by omega
  exact ⟨h1, h.2, (gz_r h1).2.1⟩
theorem cl_gap {A : ms} {g : Int} (hg : 1 ≤ g ∧ g ≤ 32768) : EV q 66 0 [some (vI g), none] [] A (some (vI (dsF g))) A := by
  have wg : w32 g = g := w32_of (by omega)
  have lp : ∀ s : Nat, s ≤ 29 → EV q 66 3 [some (vI g), some (vI s)] [] A (some (vI (dsG g s))) A := by
    intro s
    induction s with
    | zero => exact fun _ => vc_Blocks_gapSymbol_3 _ _ (cY (by decide) ⟨rfl, rfl⟩)
    | succ s ih =>
      intro hs
      have r := gz_r (d := ((s + 1 : Nat) : Int)) (by omega)
      refine vc_Blocks_gapSymbol_3 _ _ ?_
      rw [w32_of (x := ((s + 1 : Nat) : Int)) (by omega), wg, w32_of (x := sS 4 ((s + 1 : Nat) : Int)) (by omega), dsG_s]
      refine cNo (by omega) ⟨by omega, ?_⟩
      by_cases c : sS 4 ((s + 1 : Nat) : Int) ≤ g
      · rw [if_pos c]
        exact cY c ⟨rfl, rfl⟩
      · rw [if_neg c, show ((s + 1 : Nat) : Int) - 1 = s by omega]
        exact cNo c (ih (by omega))
  exact vc_Blocks_gapSymbol _ (lp 29 (by decide))
theorem md_gap {B : ms} {g : Int} (hg : 1 ≤ g ∧ g ≤ 32768) (hT : TbM B) : EV q 298 0 [some (.ref 367), some (vI g), none] [] B (some (vI (dsF g))) B := by
  have wg : w32 g = g := w32_of (by omega)
  have lp : ∀ s : Nat, s ≤ 29 → EV q 298 3 [some (.ref 367), some (vI g), some (vI s)] [] B (some (vI (dsG g s))) B := by
    intro s
    induction s with
    | zero =>
      intro _
      have r := gz_r (d := 0) (by decide)
      refine vc_MD_distanceSymbol_3 _ _ ?_
      rw [show w32 ((0 : Nat) : Int) = 0 by decide, (hT.2 0 (by decide) (by decide)).1, r.2.2, wg, show w32 1 = 1 by decide]
      exact ⟨by decide, cY hg.1 ⟨rfl, rfl⟩⟩
    | succ s ih =>
      intro hs
      have r := gz_r (d := ((s + 1 : Nat) : Int)) (by omega)
      refine vc_MD_distanceSymbol_3 _ _ ?_
      rw [w32_of (x := ((s + 1 : Nat) : Int)) (by omega), (hT.2 ((s + 1 : Nat) : Int) (by omega) (by omega)).1, wg, w32_of (x := sS 4 ((s + 1 : Nat) : Int)) (by omega), dsG_s]
      refine ⟨by omega, ?_⟩
      by_cases c : sS 4 ((s + 1 : Nat) : Int) ≤ g
      · rw [if_pos c]
        exact cY c ⟨rfl, rfl⟩
      · rw [if_neg c, show ((s + 1 : Nat) : Int) - 1 = s by omega]
        exact cNo c (ih (by omega))
  exact vc_MD_distanceSymbol _ (lp 29 (by decide))
/-- a text in row a1 -/
def TXr (A : ms) (a1 : Nat) (x : Int) (t : Int → Int) : Prop := (isRow a1 6000 ∧ (a1 = 1 ∨ (193 ≤ a1 ∧ a1 + 1 < 343))) ∧ A.1 a1 1 = x ∧ ∀ k : Int, 0 ≤ k → k < x → (0 ≤ t k ∧ t k < 256) ∧ A.1 (a1 + 1) k = t k
theorem TXc_r {A : ms} (h : TXc A x t) : TXr A 1 x t := ⟨⟨tr_row, Or.inl rfl⟩, h.1, h.2⟩
theorem TXr_b {A A' : ms} {o a1 : Nat} (o3 : (342 < o ∨ o = 7)) (h : TXr A a1 x t) (e : EX (XRb o) A A') : TXr A' a1 x t := ⟨h.1, by rw [e.2 a1 1 (by have := h.1.2; unfold XRb; omega)]; exact h.2.1, fun k k0 k1 => by rw [e.2 (a1 + 1) k (by have := h.1.2; unfold XRb; omega)]; exact h.2.2 k k0 k1⟩
/-- a token may stand -/
def tkV (x : Int) (T : Int × Int × Int) : Prop := (T.2.1 = 0 ∧ 0 ≤ T.2.2 ∧ T.2.2 < x) ∨ ((1 ≤ T.2.1 ∧ T.2.1 ≤ 6000) ∧ 3 ≤ T.1 ∧ T.1 ≤ 258)
def tkB (l : Int → Int) (n : Nat) (dl : Int → Int) (dn : Nat) (t : Int → Int) (T : Int × Int × Int) (s : Wb) : Wb := if T.2.1 = 0 then wbSym l n (t T.2.2) s else wbLow (sS 5 (dsF T.2.1)).toNat (T.2.1 - sS 4 (dsF T.2.1)) (wbSym dl dn (dsF T.2.1) (wbLow (sS 1 (lsF T.1)).toNat (T.1 - sS 0 (lsF T.1)) (wbSym l n (257 + lsF T.1) s)))
def tksB (l : Int → Int) (n : Nat) (dl : Int → Int) (dn : Nat) (t : Int → Int) (T : Int → Int × Int × Int) : Nat → Nat → Wb → Wb
  | _, 0, s => wbSym l n 256 s
  | k, v + 1, s => tksB l n dl dn t T (k + 1) v (tkB l n dl dn t (T k) s)
theorem tksB_s (l : Int → Int) (n : Nat) (dl : Int → Int) (dn : Nat) (t : Int → Int) (T : Int → Int × Int × Int) (k v : Nat) (s : Wb) : tksB l n dl dn t T k (v + 1) s = tksB l n dl dn t T (k + 1) v (tkB l n dl dn t (T k) s) := rfl
def CdsC (A : ms) (b : Nat) (b2 n dn : Nat) (l dl : Int → Int) : Prop := ((b = 31 ∧ b2 = 42) ∨ (b = 53 ∧ b2 = 64)) ∧ CodW A b n l ∧ CodW A b2 dn dl ∧ (286 ≤ n ∧ 30 ≤ dn) ∧ ∀ k : Int, 3 ≤ k → k ≤ 258 → A.1 92 k = 257 + lsF k
def CdsM (B : ms) (n dn : Nat) (l dl : Int → Int) : Prop := CodN B 385 386 n l ∧ CodN B 387 388 dn dl ∧ (286 ≤ n ∧ 30 ≤ dn) ∧ TbM B
theorem CdsC_b {A A' : ms} {o b b2 n dn : Nat} {l dl : Int → Int} (o3 : (342 < o ∨ o = 7)) (h : CdsC A b b2 n dn l dl) (e : EX (XRb o) A A') : CdsC A' b b2 n dn l dl := by
  obtain ⟨h0, ⟨c1, c2, c3, c4⟩, ⟨d1, d2, d3, d4⟩, hn, h92⟩ := h
  have at' : ∀ (a : Nat) (k : Int), a < 343 ∧ a ≠ 7 ∧ a ≠ 8 → A'.1 a k = A.1 a k := fun a k y => e.2 a k (by unfold XRb; omega)
  refine ⟨h0, ⟨c1, c2, fun s hs => ?_, fun s hs y => ?_⟩, ⟨d1, d2, fun s hs => ?_, fun s hs y => ?_⟩, hn, fun k k0 k1 => ?_⟩
  · rw [at' _ _ (by omega)]; exact c3 s hs
  · rw [at' _ _ (by omega)]; exact c4 s hs y
  · rw [at' _ _ (by omega)]; exact d3 s hs
  · rw [at' _ _ (by omega)]; exact d4 s hs y
  · rw [at' _ _ (by omega)]; exact h92 k k0 k1
theorem CdsM_b {B B' : ms} {n dn : Nat} {l dl : Int → Int} (h : CdsM B n dn l dl) (e : EX XWb B B') : CdsM B' n dn l dl := by
  obtain ⟨⟨c1, c2⟩, ⟨d1, d2⟩, hn, t1, t2⟩ := h
  have at' : ∀ (a : Nat) (k : Int), 380 ≤ a → B'.1 a k = B.1 a k := fun a k y => e.2 a k (by unfold XWb; omega)
  refine ⟨⟨fun s hs => ?_, fun s hs y => ?_⟩, ⟨fun s hs => ?_, fun s hs y => ?_⟩, hn, fun s h0 h1 => ?_, fun s h0 h1 => ?_⟩
  · rw [at' _ _ (by omega)]; exact c1 s hs
  · rw [at' _ _ (by omega)]; exact c2 s hs y
  · rw [at' _ _ (by omega)]; exact d1 s hs
  · rw [at' _ _ (by omega)]; exact d2 s hs y
  · rw [at' _ _ (by omega), at' _ _ (by omega)]; exact t1 s h0 h1
  · rw [at' _ _ (by omega), at' _ _ (by omega)]; exact t2 s h0 h1
theorem CTk_b {o : Nat} {A A' : ms} {T : Int → Int × Int × Int} {n : Int} (ho : (342 < o ∨ o = 7)) (h : CTk A T n) (e : EX (XRb o) A A') : CTk A' T n := CTk_e h (fun a k y => e.2 a k (by unfold XTc at y; unfold XRb; omega))
theorem MTk_b {B B' : ms} {T : Int → Int × Int × Int} {n : Int} (h : MTk B T n) (e : EX XWb B B') : MTk B' T n := MTk_e h (fun a k y => e.2 a k (by unfold XTm at y; unfold XWb; omega))
theorem TXm_b {B B' : ms} (h : TXm B x t) (e : EX XWb B B') : TXm B' x t := TXm_e h (fun a k y => e.2 a k (by unfold XWb; omega))
/-- one token on both sides -/
theorem jtok {n dn : Nat} {l dl : Int → Int} {k : Nat} {T : Int → Int × Int × Int} {K : Nat} {s : Wb} (hK : K ≤ 6000) (hk : k < K) (ht : ∀ k : Int, 0 ≤ k → k < x → 0 ≤ t k ∧ t k < 256) (hx : 0 ≤ x ∧ x ≤ 6000) (hV : tkV x (T k)) (hl : (∀ i : Nat, i < n → 0 ≤ l i ∧ l i ≤ 20) ∧ (∀ i : Nat, i < dn → 0 ≤ dl i ∧ dl i ≤ 20) ∧ 286 ≤ n ∧ 30 ≤ dn) (hr : wbR 0 s) (hs : s.1.1 < 1000000) : (wbR 0 (tkB l n dl dn t (T k) s) ∧ s.1.1 ≤ (tkB l n dl dn t (T k) s).1.1 ∧ (tkB l n dl dn t (T k) s).1.1 ≤ s.1.1 + 60) ∧ (∀ (A : ms) (o b b2 a1 : Nat) (x2 x3 x4 : Int), isRow o 12000 → (342 < o ∨ o = 7) → TXr A a1 x t → CdsC A b b2 n dn l dl → CTk A T K → CBt A o 12000 s → ∃ A', EX (XRb o) A A' ∧ CBt A' o 12000 (tkB l n dl dn t (T k) s) ∧ ∀ (R : Option Value) (S' : ms), w32 x3 = x3 → (k : Int) < x3 → EV q 65 39 [some (.ref 30), some (.ref a1), some (vI x2), some (vI x3), some (vI x4), some (.ref o), some (.ref b), some (.ref b2), some (vI ((k : Int) + 1)), none, none, none, none] [] A' R S' → EV q 65 39 [some (.ref 30), some (.ref a1), some (vI x2), some (vI x3), some (vI x4), some (.ref o), some (.ref b), some (.ref b2), some (vI k), none, none, none, none] [] A R S') ∧ ∀ (B : ms) (x1 x2 : Int), TXm B x t → CdsM B n dn l dl → MTk B T K → MBt B 0 s → ∃ B', EX XWb B B' ∧ MBt B' 0 (tkB l n dl dn t (T k) s) ∧ B'.1 367 12 = B.1 367 12 + (wbB (tkB l n dl dn t (T k) s) - wbB s) ∧ ∀ (R : Option Value) (S' : ms), w32 x2 = x2 → (k : Int) < x2 → EV q 305 2 [some (.ref 367), some (vI x1), some (vI x2), some (vI ((k : Int) + 1)), none, none] [] B' R S' → EV q 305 2 [some (.ref 367), some (vI x1), some (vI x2), some (vI k), none, none] [] B R S' := by
  have wk : Unit → w32 (k : Int) = k := fun _ => w32_of (by omega)
  have kb : 0 ≤ (k : Int) ∧ (k : Int) < (6000 : Nat) := by omega
  have hl1 : ∀ i : Int, 0 ≤ i → i < n → 0 ≤ l i ∧ l i ≤ 20 := fun i i0 i1 => by
    have := hl.1 i.toNat (by omega)
    rw [show ((i.toNat : Nat) : Int) = i by omega] at this
    exact this
  have hl2 : ∀ i : Int, 0 ≤ i → i < dn → 0 ≤ dl i ∧ dl i ≤ 20 := fun i i0 i1 => by
    have := hl.2.1 i.toNat (by omega)
    rw [show ((i.toNat : Nat) : Int) = i by omega] at this
    exact this
  have rc : ∀ (A : ms) (b b2 : Nat), CdsC A b b2 n dn l dl → isCode b ∧ isCode b2 := fun A b b2 h => ⟨h.2.1.1, h.2.2.1.1⟩
  rcases hV with ⟨v1, v2, v3⟩ | ⟨⟨v1, v2⟩, v3, v4⟩
  · -- a literal
    have tp := ht (T k).2.2 v2 v3
    have e : tkB l n dl dn t (T k) s = wbSym l n (t (T k).2.2) s := by unfold tkB; rw [if_pos v1]
    rw [e]
    have lr := hl1 (t (T k).2.2) tp.1 (by omega)
    have nn := wbSym_n (l := l) (n := n) (k := t (T k).2.2) (s := s) lr.2
    refine ⟨⟨wbSym_r _ _ _ hr, by omega, by omega⟩, fun A o b b2 a1 x2 x3 x4 ho o3 hA hC hT h => ?_, fun B x1 x2 hB hC hT h => ?_⟩
    · obtain ⟨t1, t2, t3⟩ := hT.2 k (by omega) (by omega)
      obtain ⟨A', k1, k2, k3⟩ := cw_sym (q := q) (k := t (T k).2.2) (by omega) hC.2.1 ho (by decide) hr (by omega) h
      refine ⟨A', k2, k3, fun R S' w3 kx kk => vc_Blocks_tokensOut_39 _ _ _ _ _ _ hA.1.1 _ _ ho _ (rc A b b2 hC).1 _ (rc A b b2 hC).2 ?_⟩
      rw [w3, wk (), t2, v1, t3, w32_of (x := (T k).2.2) (by omega), (hA.2.2 (T k).2.2 v2 v3).2]
      refine cNo (by omega) ⟨kb, kb, cNN (by decide) ⟨kb, by omega, vc_Blocks_tokensOut_99 _ _ _ _ _ _ _ _ _ hA.1.1 _ _ ho _ (rc A b b2 hC).1 _ (rc A b b2 hC).2 ?_⟩⟩
      rw [w32_of (x := t (T k).2.2) (by omega)]
      exact ⟨by omega, by omega, A', k1, cY (by decide) (vc_Blocks_tokensOut_203 _ _ _ _ _ _ _ _ _ hA.1.1 _ _ ho _ (rc A b b2 hC).1 _ (rc A b b2 hC).2 kk)⟩
    · obtain ⟨t1, t2, t3⟩ := hT.2 k (by omega) (by omega)
      obtain ⟨B', k1, k2, k3, k4⟩ := mw_sym (q := q) (k := t (T k).2.2) (by omega) hC.1 hr (by omega) h
      have bb : wbB (wbSym l n (t (T k).2.2) s) = wbB s + (l (t (T k).2.2)).toNat := wbB_code _ _ _ hr.2.1
      refine ⟨B', k2, k3, by omega, fun R S' w2 kx kk => vc_MD_writeTokens_2 _ _ _ ?_⟩
      rw [w2, wk (), t2, v1, t3, w32_of (x := (T k).2.2) (by omega), oct_eq tp (hB.2 (T k).2.2 v2 v3).2, w32_of (x := t (T k).2.2) (by omega)]
      exact cNo (by omega) ⟨kb, cNN (by decide) ⟨kb, by omega, by omega, by omega, B', k1, vc_MD_writeTokens_174 _ _ _ _ kk⟩⟩
  · -- a match
    have lp := lsF_p ⟨v3, v4⟩
    have dp := dsF_r v1
    have s1 := sS_z (s := lsF (T k).1) (by omega)
    have g1 : (T k).2.1 ≠ 0 := by omega
    have e : tkB l n dl dn t (T k) s = wbLow (sS 5 (dsF (T k).2.1)).toNat ((T k).2.1 - sS 4 (dsF (T k).2.1)) (wbSym dl dn (dsF (T k).2.1) (wbLow (sS 1 (lsF (T k).1)).toNat ((T k).1 - sS 0 (lsF (T k).1)) (wbSym l n (257 + lsF (T k).1) s))) := by unfold tkB; rw [if_neg g1]
    rw [e]
    obtain ⟨L, eL⟩ : ∃ L, L = lsF (T k).1 := ⟨_, rfl⟩
    obtain ⟨D, eD⟩ : ∃ D, D = dsF (T k).2.1 := ⟨_, rfl⟩
    obtain ⟨n0, en0⟩ : ∃ n0, n0 = (T k).1 := ⟨_, rfl⟩
    obtain ⟨g0, eg0⟩ : ∃ g0, g0 = (T k).2.1 := ⟨_, rfl⟩
    have tkk : T k = (n0, g0, (T k).2.2) := by rw [en0, eg0]
    rw [← eL, ← en0] at lp
    rw [← eD, ← eg0] at dp
    have gzD := (gz_r dp.1).1
    rw [← eL] at s1
    rw [← eL, ← eD, ← en0, ← eg0]
    rw [← eg0] at v1 v2 g1
    rw [← en0] at v3 v4
    have l1 := hl1 (257 + L) (by omega) (by omega)
    have l2 := hl2 D (by omega) (by omega)
    obtain ⟨sa, esa⟩ : ∃ sa, sa = wbSym l n (257 + L) s := ⟨_, rfl⟩
    have ra : wbR 0 sa := by rw [esa]; exact wbSym_r _ _ _ hr
    have na := wbSym_n (l := l) (n := n) (k := 257 + L) (s := s) l1.2
    rw [← esa] at na
    obtain ⟨sb, esb⟩ : ∃ sb, sb = wbLow (sS 1 L).toNat (n0 - sS 0 L) sa := ⟨_, rfl⟩
    have rb : wbR 0 sb := by rw [esb]; exact wbLow_r _ _ _ ra
    have nb := wbLow_n (sS 1 L).toNat (n0 - sS 0 L) sa
    rw [← esb] at nb
    obtain ⟨sc, esc⟩ : ∃ sc, sc = wbSym dl dn D sb := ⟨_, rfl⟩
    have rc' : wbR 0 sc := by rw [esc]; exact wbSym_r _ _ _ rb
    have nc := wbSym_n (l := dl) (n := dn) (k := D) (s := sb) l2.2
    rw [← esc] at nc
    have nd := wbLow_n (sS 5 D).toNat (g0 - sS 4 D) sc
    rw [← esa, ← esb, ← esc]
    refine ⟨⟨wbLow_r _ _ _ rc', by omega, by omega⟩, fun A o b b2 a1 x2 x3 x4 ho o3 hA hC hT h => ?_, fun B x1 x2 hB hC hT h => ?_⟩
    · obtain ⟨t1, t2, t3⟩ := hT.2 k (by omega) (by omega)
      rw [tkk] at t1 t2
      have t1' : A.1 13 k = n0 := t1
      have t2' : A.1 14 k = g0 := t2
      have h92 := hC.2.2.2.2 n0 v3 v4
      rw [en0, ← eL, ← en0] at h92
      obtain ⟨A1, k1, k2, k3⟩ := cw_sym (q := q) (k := 257 + L) (by omega) hC.2.1 ho (by decide) hr (by omega) h
      rw [← esa] at k3
      obtain ⟨A2, j1, j2, j3⟩ := cw_low_bits (q := q) (v := n0 - sS 0 L) (n := (sS 1 L).toNat) (by omega) (by omega) ho (by decide) ra (by omega) k3
      rw [← esb] at j3
      have hC2 := CdsC_b o3 (CdsC_b o3 hC k2) j2
      obtain ⟨A3, i1, i2, i3⟩ := cw_sym (q := q) (k := D) (by omega) hC2.2.2.1 ho (by decide) rb (by omega) j3
      rw [← esc] at i3
      obtain ⟨A4, m1, m2, m3⟩ := cw_low_bits (q := q) (v := g0 - sS 4 D) (n := (sS 5 D).toNat) (by omega) (by omega) ho (by decide) rc' (by omega) i3
      have kg := cl_gap (q := q) (A := A2) (g := g0) (by omega)
      rw [eg0, ← eD, ← eg0] at kg
      rw [show (((sS 1 L).toNat : Nat) : Int) = sS 1 L by omega] at j1
      rw [show (((sS 5 D).toNat : Nat) : Int) = sS 5 D by omega] at m1
      refine ⟨A4, ((k2.trans j2).trans i2).trans m2, m3, fun R S' w3 kx kk => vc_Blocks_tokensOut_39 _ _ _ _ _ _ hA.1.1 _ _ ho _ (rc A b b2 hC).1 _ (rc A b b2 hC).2 ?_⟩
      rw [w3, wk (), t2', t1', w32_of (x := g0) (by omega), w32_of (x := n0) (by omega), h92]
      refine cNo (by omega) ⟨kb, kb, cY g1 ⟨by omega, vc_Blocks_tokensOut_99 _ _ _ _ _ _ _ _ _ hA.1.1 _ _ ho _ (rc A b b2 hC).1 _ (rc A b b2 hC).2 ?_⟩⟩
      rw [w32_of (x := 257 + L) (by omega), w32_of (x := g0) (by omega), show 257 + L - 257 = L by omega, w32_of (x := L) (by omega)]
      refine ⟨by omega, by omega, A1, k1, cNo (by omega) ⟨by omega, by omega, A2, j1, D, A2, kg, ?_⟩⟩
      rw [w32_of (x := D) (by omega)]
      exact ⟨by omega, by omega, A3, i1, by omega, by omega, A4, m1, vc_Blocks_tokensOut_203 _ _ _ _ _ _ _ _ _ hA.1.1 _ _ ho _ (rc A b b2 hC).1 _ (rc A b b2 hC).2 kk⟩
    · obtain ⟨t1, t2, t3⟩ := hT.2 k (by omega) (by omega)
      rw [tkk] at t1 t2
      have t1' : B.1 380 k = n0 := t1
      have t2' : B.1 381 k = g0 := t2
      have kl := md_len (q := q) (B := B) ⟨v3, v4⟩ hC.2.2.2
      rw [en0, ← eL, ← en0] at kl
      obtain ⟨B1, k1, k2, k3, k4⟩ := mw_sym (q := q) (k := 257 + L) (by omega) hC.1 hr (by omega) h
      rw [← esa] at k3
      have hC1 := CdsM_b hC k2
      have e391 := (hC1.2.2.2.1 L (by omega) (by omega))
      obtain ⟨B2, j1, j2, j3, j4⟩ := mw_low_bits (q := q) (v := n0 - sS 0 L) (n := (sS 1 L).toNat) (by omega) (by omega) ra (by omega) k3
      rw [← esb] at j3
      have hC2 := CdsM_b hC1 j2
      have hT2 := MTk_b (MTk_b hT k2) j2
      have kg := md_gap (q := q) (B := B2) (g := g0) (by omega) hC2.2.2.2
      rw [eg0, ← eD, ← eg0] at kg
      obtain ⟨B3, i1, i2, i3, i4⟩ := mw_sym (q := q) (k := D) (by omega) hC2.2.1 rb (by omega) j3
      rw [← esc] at i3
      have hC3 := CdsM_b hC2 i2
      have hT3 := MTk_b hT2 i2
      have e393 := (hC3.2.2.2.2 D (by omega) (by omega))
      obtain ⟨B4, m1, m2, m3, m4⟩ := mw_low_bits (q := q) (v := g0 - sS 4 D) (n := (sS 5 D).toNat) (by omega) (by omega) rc' (by omega) i3
      rw [show (((sS 1 L).toNat : Nat) : Int) = sS 1 L by omega] at j1
      rw [show (((sS 5 D).toNat : Nat) : Int) = sS 5 D by omega] at m1
      have b1 : wbB sa = wbB s + (l (257 + L)).toNat := by rw [esa]; exact wbB_code _ _ _ hr.2.1
      have b2 : wbB sb = wbB sa + (sS 1 L).toNat := by rw [esb]; exact wbB_low _ _ _ ra.2.1
      have b3 : wbB sc = wbB sb + (dl D).toNat := by rw [esc]; exact wbB_code _ _ _ rb.2.1
      have b4 := wbB_low (sS 5 D).toNat (g0 - sS 4 D) sc rc'.2.1
      obtain ⟨u1, -, -⟩ := (MTk_b hT k2).2 k (by omega) (by omega)
      obtain ⟨-, u2, -⟩ := hT2.2 k (by omega) (by omega)
      obtain ⟨-, u3, -⟩ := hT3.2 k (by omega) (by omega)
      rw [tkk] at u1 u2 u3
      have u1' : B1.1 380 k = n0 := u1
      have u2' : B2.1 381 k = g0 := u2
      have u3' : B3.1 381 k = g0 := u3
      refine ⟨B4, ((k2.trans j2).trans i2).trans m2, m3, by omega, fun R S' w2 kx kk => vc_MD_writeTokens_2 _ _ _ ?_⟩
      rw [w2, wk (), t2', t1', w32_of (x := g0) (by omega)]
      refine cNo (by omega) ⟨kb, cY g1 ⟨kb, L, B, kl, ?_⟩⟩
      rw [w32_of (x := 257 + L) (by omega)]
      refine ⟨by omega, by omega, B1, k1, kb, ?_⟩
      rw [w32_of (x := L) (by omega), u1', e391.1, e391.2, w32_of (x := n0 - sS 0 L) (by omega)]
      refine ⟨by omega, by omega, B2, j1, kb, D, B2, by rw [u2']; exact kg, ?_⟩
      rw [w32_of (x := D) (by omega)]
      refine ⟨by omega, by omega, B3, i1, kb, by omega, by omega, B4, ?_, vc_MD_writeTokens_174 _ _ _ _ kk⟩
      rw [u3', e393.1, e393.2, w32_of (x := g0 - sS 4 D) (by omega)]
      exact m1
/-- tokens k .. to - 1, and the end -/
theorem jtoks {n dn : Nat} {l dl : Int → Int} {T : Int → Int × Int × Int} {K to : Nat} (hK : K ≤ 6000) (hto : to ≤ K) (ht : ∀ k : Int, 0 ≤ k → k < x → 0 ≤ t k ∧ t k < 256) (hx : 0 ≤ x ∧ x ≤ 6000) (hV : ∀ k : Nat, k < K → tkV x (T k)) (hl : (∀ i : Nat, i < n → 0 ≤ l i ∧ l i ≤ 20) ∧ (∀ i : Nat, i < dn → 0 ≤ dl i ∧ dl i ≤ 20) ∧ 286 ≤ n ∧ 30 ≤ dn) : ∀ (v k : Nat) (s : Wb), k + v = to → wbR 0 s → s.1.1 + 60 * v < 1000000 → (wbR 0 (tksB l n dl dn t T k v s) ∧ s.1.1 ≤ (tksB l n dl dn t T k v s).1.1 ∧ (tksB l n dl dn t T k v s).1.1 ≤ s.1.1 + 60 * v + 20) ∧ (∀ (A : ms) (o b b2 a1 : Nat) (x2 x4 : Int), isRow o 12000 → (342 < o ∨ o = 7) → TXr A a1 x t → CdsC A b b2 n dn l dl → CTk A T K → CBt A o 12000 s → ∃ A', EX (XRb o) A A' ∧ CBt A' o 12000 (tksB l n dl dn t T k v s) ∧ EV q 65 39 [some (.ref 30), some (.ref a1), some (vI x2), some (vI to), some (vI x4), some (.ref o), some (.ref b), some (.ref b2), some (vI k), none, none, none, none] [] A none A') ∧ ∀ (B : ms) (x1 : Int), TXm B x t → CdsM B n dn l dl → MTk B T K → MBt B 0 s → ∃ B', EX XWb B B' ∧ MBt B' 0 (tksB l n dl dn t T k v s) ∧ B'.1 367 12 = B.1 367 12 + (wbB (tksB l n dl dn t T k v s) - wbB s) ∧ EV q 305 2 [some (.ref 367), some (vI x1), some (vI to), some (vI k), none, none] [] B none B' := by
  have wt : Unit → w32 (to : Int) = to := fun _ => w32_of (by omega)
  have l256 := hl.1 256 (by omega)
  intro v
  induction v with
  | zero =>
    intro k s hk hr hs
    have ek : k = to := by omega
    subst ek
    have e : tksB l n dl dn t T k 0 s = wbSym l n 256 s := rfl
    rw [e]
    have nn := wbSym_n (l := l) (n := n) (k := 256) (s := s) l256.2
    refine ⟨⟨wbSym_r _ _ _ hr, by omega, by omega⟩, fun A o b b2 a1 x2 x4 ho o3 hA hC hT h => ?_, fun B x1 hB hC hT h => ?_⟩
    · obtain ⟨A', k1, k2, k3⟩ := cw_sym (q := q) (k := 256) (by omega) hC.2.1 ho (by decide) hr (by omega) h
      refine ⟨A', k2, k3, vc_Blocks_tokensOut_39 _ _ _ _ _ _ hA.1.1 _ _ ho _ hC.2.1.1 _ hC.2.2.1.1 ?_⟩
      rw [show w32 256 = 256 by decide]
      exact cY (Int.le_refl _) ⟨by decide, by decide, A', k1, rfl, rfl⟩
    · obtain ⟨B', k1, k2, k3, k4⟩ := mw_sym (q := q) (k := 256) (by omega) hC.1 hr (by omega) h
      have bb : wbB (wbSym l n 256 s) = wbB s + (l 256).toNat := wbB_code _ _ _ hr.2.1
      refine ⟨B', k2, k3, by omega, vc_MD_writeTokens_2 _ _ _ ?_⟩
      rw [show w32 256 = 256 by decide]
      exact cY (Int.le_refl _) ⟨by decide, by decide, B', k1, rfl, rfl⟩
  | succ v ih =>
    intro k s hk hr hs
    obtain ⟨⟨j1, j2, j3⟩, jc, jm⟩ := jtok (q := q) (l := l) (dl := dl) (n := n) (dn := dn) (T := T) (K := K) (k := k) (s := s) hK (by omega) ht hx (hV k (by omega)) hl hr (by omega)
    obtain ⟨⟨i1, i2, i3⟩, ic, im⟩ := ih (k + 1) (tkB l n dl dn t (T k) s) (by omega) j1 (by omega)
    rw [tksB_s]
    refine ⟨⟨i1, by omega, by omega⟩, fun A o b b2 a1 x2 x4 ho o3 hA hC hT h => ?_, fun B x1 hB hC hT h => ?_⟩
    · obtain ⟨A1, k1, k2, k3⟩ := jc A o b b2 a1 x2 to x4 ho o3 hA hC hT h
      obtain ⟨A', g1, g2, g3⟩ := ic A1 o b b2 a1 x2 x4 ho o3 (TXr_b o3 hA k1) (CdsC_b o3 hC k1) (CTk_b o3 hT k1) k2
      rw [show ((k + 1 : Nat) : Int) = (k : Int) + 1 by omega] at g3
      exact ⟨A', k1.trans g1, g2, k3 _ _ (wt ()) (by omega) g3⟩
    · obtain ⟨B1, k1, k2, k4, k3⟩ := jm B x1 to hB hC hT h
      obtain ⟨B', g1, g2, g4, g3⟩ := im B1 x1 (TXm_b hB k1) (CdsM_b hC k1) (MTk_b hT k1) k2
      rw [show ((k + 1 : Nat) : Int) = (k : Int) + 1 by omega] at g3
      exact ⟨B', k1.trans g1, g2, by omega, k3 _ _ (wt ()) (by omega) g3⟩
end PBlkB
