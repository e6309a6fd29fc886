/-! read: a BOX's text is checked and added, both sides -/
section ReaJ
variable {q : Nat × (Nat → Int32)} {x : Int} {t : Int → Int}
abbrev bxS (N : Nat) (sz l16 cs : Int) : Prop := (N : Int) = sz ∧ w32 l16 = w32 cs
def bxE (t tx : Int → Int) (r : Int) (n N : Nat) : En := ((n : Nat), fun k => t (r + 46 + k), lowV t (r + 40) 2, lowV t (r + 12) 4, (N : Nat), tx)
theorem sp_bxEnd {S A : ms} {sh n k N c n1 : Nat} {E0 : Nat → En} {r b0 x5 h x8 x12 fr cs sz l16 : Int} {tx : Int → Int} {st : Rd} (hs : isSh sh) (ecs : Unit → cs = -((crR (fun k => tx k) N : Nat) : Int) - 1) (hx : 0 ≤ x ∧ x ≤ 6000) (r0 : 0 ≤ r) (r1 : r + 46 + n ≤ x) (hn : n ≤ 100) (hk : k < 16) (hE : ∀ e : Nat, e < k → EnOk (E0 e)) (e16 : Unit → lowV t (r + 16) 4 = l16) (r16 : 0 ≤ l16 ∧ l16 < 4294967296) (hsz : 0 ≤ sz ∧ sz ≤ 6000) (hc : SH c = (0, n1, [])) (hn1 : n1 < 1000000) (hcs : c < 193) (hcc : (c = 2 ∧ x12 = 0) ∨ (c = 8 ∧ x12 = 1)) (hf : 0 ≤ fr) (hfN : fr + N ≤ n1) (hr : rdR x st) (hT : TC S x t) (hL : LabC S (sh + 5) n (fun k => t (r + 46 + k))) (hSh : ShC S sh k E0) (hA : CW S A x st) (htx : ∀ j : Int, 0 ≤ j → j < N → (0 ≤ tx j ∧ tx j < 256) ∧ A.1 c (fr + j) = tx j) : ∃ S1 A1, EX (xSh sh) S S1 ∧ CW S1 A1 x (tl (bxS N sz l16 cs) 126 h st) ∧ ((tl (bxS N sz l16 cs) 126 h st).1 = 0 → ShC S1 sh (k + 1) (upE E0 k (bxE t tx r n N))) ∧ ((tl (bxS N sz l16 cs) 126 h st).1 ≠ 0 → ShC S1 sh k E0) ∧ EV q 206 228 [some (.ref sh), some (.ref 9), some (vI r), some (vI b0), some (.ref 2), some (vL x5), none, some (vI h), some (vL x8), none, some (vL sz), none, some (vI x12), some (vI fr), some (vI N), none, none] [] A none A1 := by
  have hsl := isSh_is hs
  have hsr : sh = 193 ∨ sh = 268 := hs
  have tcA : ∀ (A : ms) (st : Rd), CW S A x st → TC A x t := fun A st hA k k0 k1 => ⟨(hT k k0 k1).1, by rw [hA.2.2.2 2 k (by omega) (by omega) (by omega)]; exact (hT k k0 k1).2⟩
  have hTA := tcA A st hA
  have ht : ∀ k : Int, 0 ≤ k → k < x → 0 ≤ t k ∧ t k < 256 := fun k k0 k1 => (hT k k0 k1).1
  obtain ⟨A1, g1, g2⟩ := gWa (q := q) (c := bxS N sz l16 cs) (k := 126) (p := h) hr hA
  obtain ⟨s1, e1⟩ : ∃ s : Rd, s = tl (bxS N sz l16 cs) 126 h st := ⟨_, rfl⟩
  have r1' : rdR x s1 := by rw [e1]; exact tl_r hr (by decide)
  have k16 : ∀ U : ms, TC U x t → EV q 155 0 [some (.ref 2), some (vI (r + 16)), some (vI 4), none, none, none] [] U (some (vL l16)) U := fun U hU => by
    have k := cn_low (q := q) (p := r + 16) (n := 4) (by omega) (by omega) hx.2 hU
    rw [e16 ()] at k
    exact k
  -- the sum, and 126
  have kc := sp_crd (q := q) (S := A) (c := c) (n := N) (fr := fr) (g := fun k => tx k) hc hn1 hf hfN (fun j hj => htx j (by omega) (by omega))
  rw [← ecs ()] at kc
  have p295 : ∀ T : ms, EV q 206 295 [some (.ref sh), some (.ref 9), some (vI r), some (vI b0), some (.ref 2), some (vL x5), none, some (vI h), some (vL x8), none, some (vL sz), none, some (vI x12), some (vI fr), some (vI N), some (.ref c), none] [] A1 none T → EV q 206 228 [some (.ref sh), some (.ref 9), some (vI r), some (vI b0), some (.ref 2), some (vL x5), none, some (vI h), some (vL x8), none, some (vL sz), none, some (vI x12), some (vI fr), some (vI N), none, none] [] A none T := by
    intro T y
    have y245 : EV q 206 245 [some (.ref sh), some (.ref 9), some (vI r), some (vI b0), some (.ref 2), some (vL x5), none, some (vI h), some (vL x8), none, some (vL sz), none, some (vI x12), some (vI fr), some (vI N), none, none] [.ref c] A none T := by
      refine vc_Shelf_boxText_245 _ _ _ _ _ _ _ _ _ sh hsl c n1 hc ?_
      have hN : Unit → w64 (w32 ((N : Nat) : Int)) = N := fun _ => by rw [w32_of (by omega), w64_of (by omega)]
      rw [hN (), w64_of (x := sz) (by omega)]
      rcases g2 with ⟨u1, u2⟩ | ⟨u1, u2⟩
      · rw [u2] at y
        refine cNN u1.1 ⟨_, A, kc, _, A, k16 A hTA, cY ?_ y⟩
        exact ((w32_sum r16).2 u1.2).symm
      · have y287 := vc_Shelf_boxText_287 (q := q) r b0 x5 h x8 sz x12 fr N sh hsl c n1 hc ⟨A1, u2, y⟩
        by_cases z : (N : Int) = sz
        · refine cNN z ⟨_, A, kc, _, A, k16 A hTA, cNo (fun w => u1 ⟨z, ?_⟩) y287⟩
          exact (w32_sum r16).1 w.symm
        · exact cY z y287
    rcases hcc with ⟨e, e'⟩ | ⟨e, e'⟩
    · subst e e'
      exact vc_Shelf_boxText_228 _ _ _ _ _ _ _ _ _ sh hsl (cY (by decide) y245)
    · subst e e'
      exact vc_Shelf_boxText_228 _ _ _ _ _ _ _ _ _ sh hsl (cNo (by decide) y245)
  rw [← e1] at g1 ⊢
  by_cases z : s1.1 = 0
  case neg =>
    refine ⟨S, A1, EX.refl _ S, g1, fun y => absurd y z, fun _ => hSh, p295 A1 (vc_Shelf_boxText_295 _ _ _ _ _ _ _ _ _ sh hsl c n1 hc ?_)⟩
    rw [g1.2.1.2.1, w32_of (x := s1.1) (by have := r1'.1; omega)]
    exact cY z ⟨rfl, rfl⟩
  have hb : bxS N sz l16 cs := by
    have z' := z
    rw [e1] at z'
    exact (tl_0 (by decide) z').1
  have eA : A1 = A := by
    rcases g2 with ⟨_, y⟩ | ⟨y, _⟩
    · exact y
    · exact absurd hb y
  subst eA
  have hShA : ShC A1 sh k E0 := ShC_x hSh ⟨g1.1, fun a k (w : ¬ (a = 9 ∨ a = 7 ∨ a = 8)) => g1.2.2.2 a k (by omega) (by omega) (by omega)⟩ (fun a k w => Or.inl (by omega)) (by omega)
  have hLA : LabC A1 (sh + 5) n (fun k => t (r + 46 + k)) := ⟨by rw [g1.2.2.2 _ _ (by omega) (by omega) (by omega)]; exact hL.1, by rw [g1.2.2.2 _ _ (by omega) (by omega) (by omega)]; exact hL.2.1, fun k k0 k1 => by rw [g1.2.2.2 _ _ (by omega) (by omega) (by omega)]; exact hL.2.2 k k0 k1⟩
  have hN6 : N ≤ 6000 := by have := hb.1; omega
  obtain ⟨A2, i1, i2, i3⟩ := sp_ent (q := q) (mo := lowV t (r + 40) 2) (ti := lowV t (r + 12) 4) (tx := tx) hs hk hE hShA hLA hn hc hn1 hcs (fr := fr) (m := N) hf hN6 hfN (fun j j0 j1 => (htx j j0 j1).2)
  obtain ⟨S2, j1, j2, j3⟩ := CW_X (X := xSh sh) (fun a k w => by unfold xSh at w; omega) g1 i1
  refine ⟨S2, A2, j1, j3, fun _ => ?_, fun w => absurd z w, p295 A2 (vc_Shelf_boxText_295 _ _ _ _ _ _ _ _ _ sh hsl c n1 hc ?_)⟩
  · have hx9 : EX (fun a k => ¬ xSh sh a k) A2 S2 := ⟨(j1.1.trans (g1.1.symm)).trans i1.1.symm |>.trans rfl, fun a k w => j2 a k (Classical.not_not.mp w)⟩
    exact ShC_x i2 hx9 (fun a k w => Or.inl (by unfold xSh at w; omega)) (by omega)
  · rw [g1.2.1.2.1, w32_of (x := s1.1) (by have := r1'.1; omega)]
    exact cNN z ⟨_, A1, cn_low (p := r + 40) (n := 2) (by omega) (by omega) hx.2 hTA, _, A1, cn_low (p := r + 12) (n := 4) (by omega) (by omega) hx.2 hTA, A2, i3, rfl, rfl⟩
end ReaJ
