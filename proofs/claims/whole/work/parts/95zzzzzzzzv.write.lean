/-! write: BOX, a text in the reference -/
section WrN
variable {q : Nat × (Nat → Int32)} {n : Nat} {E : Nat → En} {w : Wt}
/-- what stands behind the place stays -/
def MWf (B0 B : ms) (w : Wt) : Prop := MWt B w ∧ ∀ k : Int, w.1 ≤ k → B.1 374 k = B0.1 374 k
theorem mf_low {B0 B : ms} (v : Int) {m : Nat} (hm : m ≤ 8) (hw : 0 ≤ w.1 ∧ w.1 < 900000000) (h : MWf B0 B w) : ∃ B', EV q 291 0 [some (.ref 367), some (vL v), none, some (vI m), none] [] B none B' ∧ EX XW B B' ∧ MWf B0 B' (wtPuts (loF v) m w) := by
  obtain ⟨B', k1, k2, k3, k4⟩ := mw_lowF (q := q) v (n := m) hm hw h.1
  refine ⟨B', k1, k2, k3, fun k hk => ?_⟩
  rw [wtPuts_1] at hk
  rw [k4 k hk]
  exact h.2 k (by omega)
theorem MWt_c {B : ms} {w w' : Wt} (h : MWt B w) (e : w'.1 = w.1) (hc : ∀ k : Int, 0 ≤ k → k < w.1 → b8 (w'.2 k) = b8 (w.2 k)) : MWt B w' := ⟨by rw [e]; exact h.1, fun k k0 k1 k2 => by
  rw [e] at k1
  rw [hc k k0 k1]
  exact h.2 k k0 k1 k2⟩
theorem md_bxC {e N : Nat} {t : Int → Int} {x2 x3 : Int} (he : e < 16) (hN : N ≤ 6000) : ∀ (r i : Nat) (B : ms), i + r = N → B.1 367 2 = N → (∀ k : Int, 0 ≤ k → k < N → B.1 423 (6000 * (e : Int) + k) = b8 (t k)) → (∀ k : Int, 0 ≤ k → k < i → B.1 368 k = b8 (t k)) → ∃ B', EX (fun a _ => a = 368) B B' ∧ (∀ k : Int, 0 ≤ k → k < N → B'.1 368 k = b8 (t k)) ∧ ∀ (R : Option Value) (S' : ms), EV q 391 38 [some (.ref 367), some (vI e), some (vI x2), some (vI x3), some (vI N)] [] B' R S' → EV q 391 38 [some (.ref 367), some (vI e), some (vI x2), some (vI x3), some (vI i)] [] B R S' := by
  intro r
  induction r with
  | zero =>
    intro i B hi h2 h4 h
    have e' : i = N := by omega
    subst e'
    exact ⟨B, EX.refl _ B, h, fun R S' k => k⟩
  | succ r ih =>
    intro i B hi h2 h4 h
    have b88 : b8 (b8 (t i)) = b8 (t i) := by unfold b8; omega
    obtain ⟨B', g1, g2, g3⟩ := ih (i + 1) (wI B 368 i (b8 (t i))) (by omega) (by rw [wI_no _ (by omega)]; exact h2) (fun k k0 k1 => by rw [wI_no _ (by omega)]; exact h4 k k0 k1) (fun k k0 k1 => by
      by_cases c : k = i
      · rw [c, wI_at]
      · rw [wI_no _ (fun z => c z.2)]
        exact h k k0 (by omega))
    refine ⟨B', ((EX.refl _ B).wr rfl).trans g1, g2, fun R S' k => vc_MD_boxText_38 _ _ _ _ ?_⟩
    have g4 := g3 R S' k
    rw [show ((i + 1 : Nat) : Int) = (i : Int) + 1 by omega] at g4
    rw [h2, show w32 (N : Int) = N from w32_of (by omega), show w32 (i : Int) = i from w32_of (by omega), w32_of (x := 6000 * (e : Int) + i) (by omega), h4 i (by omega) (by omega), b88]
    exact cNo (by omega) ⟨by omega, by omega, fun S15 q15 => by rw [q15]; exact g4⟩
def XBt (a : Nat) (k : Int) : Prop := XPb a k ∨ (a = 367 ∧ k = 2) ∨ a = 368 ∨ (432 ≤ a ∧ a ≤ 435)
theorem md_bxT {B : ms} {e : Nat} {X : Bx} {lv : Int} (hn : n ≤ 16) (he : e < n) (hok : EnOk (E e)) (hX : BxP q lv (E e) X) (hb : BOk (hp B)) (hQ : RQ B) (hK : TbK B) (hC : ShN B n E) (h11 : B.1 367 11 = 0) (hO : wtO w) (hw : 0 ≤ w.1 ∧ w.1 ≤ 12000) (h : MWt B w) : ∃ B', EY XBt B B' ∧ TbK B' ∧ B'.1 367 11 = 0 ∧ MWt B' (bxG (E e) X w) ∧ ((B'.1 435 e = w.1 ∧ B'.1 432 e = X.1) ∧ w32 (B'.1 433 e) = X.2.2.2 ∧ B'.1 434 e = X.2.1) ∧ (∀ (a : Nat) (k : Int), 432 ≤ a → a ≤ 435 → k ≠ e → B'.1 a k = B.1 a k) ∧ EV q 391 0 [some (.ref 367), some (vI e), some (vI lv), none, none] [] B none B' := by
  have ee : Unit → w32 (e : Int) = e := fun _ => w32_of (by omega)
  obtain ⟨xr1, xr2, xr3⟩ := BxP_r hok hX
  have gG := bxG_1 hok hX w
  have gH := bxHd_1 hok X w
  obtain ⟨F, T, K, hF, hJ, hD, hcr⟩ := hX
  obtain ⟨⟨c1, c2⟩, ⟨c3, c4⟩, c5, c6⟩ := hC.2 e he
  obtain ⟨⟨n1, n2⟩, s1, s2, m1, t1⟩ := hok
  obtain ⟨at', eat⟩ : ∃ at' : Int, at' = w.1 + 30 + (E e).1 := ⟨_, rfl⟩
  obtain ⟨N, eN⟩ : ∃ N : Nat, (N : Int) = (E e).2.2.2.2.1 := ⟨(E e).2.2.2.2.1.toNat, by omega⟩
  -- bytes as they are
  obtain ⟨B0, e0⟩ : ∃ B0, B0 = nB B := ⟨_, rfl⟩
  have at0 : ∀ (a : Nat) (k : Int), a ≠ 374 → B0.1 a k = B.1 a k := fun a k y => by rw [e0]; exact nB_n B y k
  have w374 : ∀ k : Int, 0 ≤ k → b8 (B0.1 374 k % 256) = B0.1 374 k := fun k k0 => by
    have r := BOk_374 hb k.toNat
    rw [show ((k.toNat : Nat) : Int) = k by omega] at r
    rw [e0, nB_y]
    unfold b8
    omega
  have v374 : ∀ k : Int, 0 ≤ k → k < w.1 → B0.1 374 k = b8 (w.2 k) := fun k k0 k1 => by
    rw [e0, nB_y, h.2 k k0 k1 (by omega)]
    have := b8_rg (w.2 k)
    exact w32_of (by omega)
  -- the text comes into the tray
  obtain ⟨B1, e1⟩ : ∃ B1, B1 = wI B0 435 e w.1 := ⟨_, rfl⟩
  obtain ⟨B2, e2⟩ : ∃ B2, B2 = wI B1 367 2 (E e).2.2.2.2.1 := ⟨_, rfl⟩
  have at2 : ∀ (a : Nat) (k : Int), ¬ (a = 435 ∧ k = e) → ¬ (a = 367 ∧ k = 2) → B2.1 a k = B0.1 a k := fun a k y1 y2 => by rw [e2, wI_no _ y2, e1, wI_no _ y1]
  obtain ⟨B3, f1, f2, f3⟩ := md_bxC (q := q) (e := e) (N := N) (t := (E e).2.2.2.2.2) (x2 := lv) (x3 := at') (by omega) (by omega) N 0 B2 (by omega) (by rw [e2, wI_at]; exact eN.symm) (fun k k0 k1 => by rw [at2 _ _ (by omega) (by omega), at0 _ _ (by omega)]; exact c6 k k0 (by omega)) (fun k k0 k1 => absurd k1 (by omega))
  have at3 : ∀ (a : Nat) (k : Int), a ≠ 368 → ¬ (a = 435 ∧ k = e) → ¬ (a = 367 ∧ k = 2) → B3.1 a k = B0.1 a k := fun a k y1 y2 y3 => by rw [f1.2 a k y1]; exact at2 a k y2 y3
  have e32 : B3.1 367 2 = (E e).2.2.2.2.1 := by rw [f1.2 _ _ (by omega), e2, wI_at]
  have kr := sp_mrd (q := q) (S := B3) (c := 368) (n1 := 6000) (n := N) (fr := 0) (g := fun k => (E e).2.2.2.2.2 k) sh_368 (by decide) (by decide) (by omega) (fun k hk => ⟨s2 k (by omega) (by omega), by
    have := s2 k (by omega) (by omega)
    rw [show (0 : Int) + (k : Int) = k by omega, f2 k (by omega) (by omega), b8_mod]
    omega⟩) (fun t ht => by rw [at3 _ _ (by omega) (by omega) (by omega), at0 _ _ (by omega)]; exact hQ.1 t ht)
  have eN2 : N = (E e).2.2.2.2.1.toNat := by omega
  rw [eN2] at kr
  obtain ⟨cs, ecs, kr'⟩ : ∃ cs : Int, (Unit → X.2.2.2 = w32 cs) ∧ EV q 264 0 [some (.ref 367), some (.ref 368), some (vI 0), some (vI (((E e).2.2.2.2.1.toNat : Nat) : Int)), none, none] [] B3 (some (vI cs)) B3 := ⟨_, hcr, kr⟩
  clear kr hcr
  rw [show (((E e).2.2.2.2.1.toNat : Nat) : Int) = (E e).2.2.2.2.1 by omega] at kr'
  obtain ⟨B4, e4⟩ : ∃ B4, B4 = wI B3 433 e cs := ⟨_, rfl⟩
  obtain ⟨B5, e5⟩ : ∃ B5, B5 = wI B4 367 9 at' := ⟨_, rfl⟩
  obtain ⟨B6, e6⟩ : ∃ B6, B6 = wI B5 367 10 0 := ⟨_, rfl⟩
  have at6 : ∀ (a : Nat) (k : Int), ¬ (a = 433 ∧ k = e) → ¬ (a = 367 ∧ (k = 9 ∨ k = 10)) → B6.1 a k = B3.1 a k := fun a k y1 y2 => by rw [e6, wI_no _ (by omega), e5, wI_no _ (by omega), e4, wI_no _ y1]
  -- it is packed
  obtain ⟨f, ef⟩ : ∃ f : Int → Int, ∀ k, f k = if k < w.1 then w.2 k else B0.1 374 k % 256 := ⟨_, fun _ => rfl⟩
  have ff : ∀ k : Int, k < w.1 → f k = w.2 k := fun k y => by rw [ef, if_pos y]
  have hM6 : MBt B6 0 ((at', f), 0) := by
    refine ⟨⟨?_, fun k k0 k1 k2 => ?_⟩, ?_, ?_⟩
    · rw [e6, wI_no _ (by omega), e5, wI_at]
    · rw [at6 _ _ (by omega) (by omega), at3 _ _ (by omega) (by omega) (by omega)]
      show B0.1 374 k = b8 (f k)
      rw [ef]
      by_cases c : k < w.1
      · rw [if_pos c]; exact v374 k k0 c
      · rw [if_neg c]; exact (w374 k k0).symm
    · rw [e6, wI_at]; rfl
    · rw [at6 _ _ (by omega) (by omega), at3 _ _ (by omega) (by omega) (by omega), at0 _ _ (by omega)]; exact h11
  have fO : wtO (at', f) := fun k => by
    show 0 ≤ f k ∧ f k < 256
    rw [ef]
    by_cases c : k < w.1
    · rw [if_pos c]; exact hO k
    · rw [if_neg c]; omega
  have hr0 : wbR 0 ((at', f), 0) := wbR_0 (by show 0 ≤ at'; omega) fO
  obtain ⟨⟨j1, j2, -⟩, -, jm⟩ := hJ ((at', f), 0) rfl hr0 (by show at' ≤ 15000; omega)
  have hK6 : TbK B6 := TbK_k hK (fun a k y => by rw [at6 _ _ (by omega) (by omega), at3 _ _ (by omega) (by omega) (by omega), at0 _ _ (by omega)])
  have hT6 : TXm B6 (E e).2.2.2.2.1 (E e).2.2.2.2.2 := ⟨by rw [at6 _ _ (by omega) (by omega)]; exact e32, fun k k0 k1 => ⟨s2 k k0 k1, by rw [at6 _ _ (by omega) (by omega)]; exact f2 k k0 (by omega)⟩⟩
  obtain ⟨B7, p1, p2, p3, -, -, p4⟩ := jm B6 hK6 hT6 hM6
  obtain ⟨v, ev⟩ : ∃ v, v = (F (w00, 0)).1 := ⟨_, rfl⟩
  obtain ⟨u, eu⟩ : ∃ u, u = (F ((at', f), 0)).1 := ⟨_, rfl⟩
  have rl : Rl (at', f) u v := by
    rw [ev, eu]
    exact (hF ((at', f), 0) ((at', f), 0) (w00, 0) (RlB_0 rfl)).1
  obtain ⟨⟨rl1, rl2⟩, rl3, rl4⟩ := rl
  have rl1' : u.1 = at' + v.1 := rl1
  have rl3' : ∀ k : Int, 0 ≤ k → k < v.1 → u.2 (at' + k) = v.2 k := rl3
  have rl4' : ∀ k : Int, k < at' → u.2 k = f k := rl4
  have p3' : MWt B7 u := by rw [eu]; exact p3.1
  have j2' : at' ≤ u.1 ∧ u.1 < 900000 := by rw [eu]; exact j2
  rw [← ev] at hD
  have at7 : ∀ (a : Nat) (k : Int), ¬ XPb a k → B7.1 a k = B6.1 a k := fun a k y => p1.2 a k y
  have e72 : B7.1 367 2 = (E e).2.2.2.2.1 := by rw [at7 _ _ (by unfold XPb; omega)]; exact hT6.1
  obtain ⟨B8, e8⟩ : ∃ B8, B8 = wI B7 434 e v.1 := ⟨_, rfl⟩
  obtain ⟨B9, e9⟩ : ∃ B9, B9 = wI B8 432 e X.1 := ⟨_, rfl⟩
  have at9 : ∀ (a : Nat) (k : Int), ¬ (a = 434 ∧ k = e) → ¬ (a = 432 ∧ k = e) → B9.1 a k = B7.1 a k := fun a k y1 y2 => by rw [e9, wI_no _ y2, e8, wI_no _ y1]
  -- its octets stand
  obtain ⟨C, x1, y1, y2, y3, y4⟩ : ∃ C : ms, EX (fun a k => XW a k ∨ (a = 434 ∧ k = e)) B9 C ∧ C.1 434 e = X.2.1 ∧ C.1 367 9 = at' + X.2.1 ∧ (∀ k : Int, 0 ≤ k → k < at' + X.2.1 → k < 30000 → C.1 374 k = b8 (if k < at' then f k else X.2.2.1 (k - at'))) ∧ ∀ (R : Option Value) (S' : ms) (x4 : Int), EV q 391 173 [some (.ref 367), some (vI e), some (vI lv), some (vI at'), some (vI x4)] [] C R S' → EV q 391 143 [some (.ref 367), some (vI e), some (vI lv), some (vI at'), some (vI x4)] [vI X.1, vI e, .ref 432] B8 R S' := by
    rcases hD with ⟨d1, d2, d3, d4⟩ | ⟨d1, d2, d3, d4⟩
    · refine ⟨B9, EX.refl _ B9, by rw [e9, wI_no _ (by omega), e8, wI_at, d3], by rw [at9 _ _ (by omega) (by omega), p3'.1]; omega, fun k k0 k1 k2 => ?_, fun R S' x4 kk => vc_MD_boxText_143 _ _ _ _ _ _ ?_⟩
      · rw [at9 _ _ (by omega) (by omega), p3'.2 k k0 (by omega) k2]
        by_cases c : k < at'
        · rw [if_pos c, rl4' k c]
        · have := rl3' (k - at') (by omega) (by omega)
          rw [if_neg c, d4, ← this]
          show b8 (u.2 k) = b8 (u.2 (at' + (k - at')))
          rw [show at' + (k - at') = k by omega]
      · rw [ee ()]
        refine ⟨by omega, fun S2 q2 => ?_⟩
        rw [← e9] at q2
        rw [q2]
        refine ⟨by omega, cY ?_ kk⟩
        rw [show B9.1 432 (e : Int) = X.1 by rw [e9, wI_at], d2]
        decide
    · obtain ⟨C1, h1⟩ : ∃ C1, C1 = wI B9 434 e (E e).2.2.2.2.1 := ⟨_, rfl⟩
      obtain ⟨C2, h2⟩ : ∃ C2, C2 = wI C1 367 9 at' := ⟨_, rfl⟩
      have atC : ∀ (a : Nat) (k : Int), ¬ (a = 434 ∧ k = e) → ¬ (a = 367 ∧ k = 9) → C2.1 a k = B9.1 a k := fun a k z1 z2 => by rw [h2, wI_no _ z2, h1, wI_no _ z1]
      have hC2 : MWt C2 (at', f) := by
        refine ⟨by rw [h2, wI_at], fun k k0 k1 k2 => ?_⟩
        have k1' : k < at' := k1
        rw [atC _ _ (by omega) (by omega), at9 _ _ (by omega) (by omega), p3'.2 k k0 (by omega) k2]
        show b8 (u.2 k) = b8 (f k)
        rw [rl4' k k1']
      have hi : ∀ (a : Nat) (k : Int), 419 ≤ a → a ≤ 424 → C2.1 a k = B.1 a k := fun a k z1 z2 => by
        rw [atC _ _ (by omega) (by omega), at9 _ _ (by omega) (by omega), at7 _ _ (by unfold XPb; omega), at6 _ _ (by omega) (by omega), at3 _ _ (by omega) (by omega) (by omega), at0 _ _ (by omega)]
      obtain ⟨C3, l1, l2, l3⟩ := md_txO (q := q) (g := fun k => (E e).2.2.2.2.2 k) (e := e) (n := N) (w := (at', f)) (by show 0 ≤ at' ∧ at' < 900000; omega) (by omega) (by omega) N 0 C2 (by omega) (by rw [hi _ _ (by omega) (by omega), c5]; exact eN.symm) (fun k hk => by rw [hi _ _ (by omega) (by omega)]; exact c6 k (by omega) (by omega)) hC2
      have xC : EX (fun a k => XW a k ∨ (a = 434 ∧ k = e)) B9 C3 := by
        refine EX.trans ?_ (l1.mono (fun a k z => Or.inl z))
        rw [h2, h1]
        exact ((EX.refl _ B9).wr (Or.inr ⟨rfl, rfl⟩)).wr (Or.inl (Or.inl ⟨rfl, rfl⟩))
      refine ⟨C3, xC, ?_, ?_, fun k k0 k1 k2 => ?_, fun R S' x4 kk => vc_MD_boxText_143 _ _ _ _ _ _ ?_⟩
      · rw [l1.2 _ _ (by unfold XW; omega), h2, wI_no _ (by omega), h1, wI_at, d3]
      · rw [l2.1, wtPuts_1]
        show at' + (N : Int) = at' + X.2.1
        omega
      · rw [l2.2 k k0 (by rw [wtPuts_1]; show k < at' + (N : Int); omega) k2, wtPuts_2]
        show b8 (if at' ≤ k ∧ k < at' + (N : Int) then (E e).2.2.2.2.2 (((k - at').toNat : Nat) : Int) % 256 else f k) = _
        by_cases c : k < at'
        · rw [if_neg (by omega), if_pos c]
        · rw [if_pos (by omega), if_neg c, show (((k - at').toNat : Nat) : Int) = k - at' by omega, d4]
          unfold b8
          omega
      · rw [ee ()]
        refine ⟨by omega, fun S2 q2 => ?_⟩
        rw [← e9] at q2
        rw [q2]
        have e92 : B9.1 367 2 = (E e).2.2.2.2.1 := by rw [at9 _ _ (by omega) (by omega)]; exact e72
        refine ⟨by omega, cNN ?_ ⟨by omega, fun S5 q5 S6 q6 => ?_⟩⟩
        · rw [show B9.1 432 (e : Int) = X.1 by rw [e9, wI_at], d2]
          decide
        · rw [e92, ← h1] at q5
          rw [q5, ← h2] at q6
          rw [q6]
          exact ⟨C3, vc_MD_textOf _ l3, kk⟩
  -- the head
  obtain ⟨D0, eD0⟩ : ∃ D0, D0 = wI C 367 9 w.1 := ⟨_, rfl⟩
  have loC : ∀ (a : Nat) (k : Int), ¬ XPb a k → ¬ (a = 434 ∧ k = e) → ¬ (a = 432 ∧ k = e) → C.1 a k = B6.1 a k := fun a k z1 z2 z3 => by
    rw [x1.2 a k (fun z => by
      rcases z with z | z
      · exact z1 (by unfold XW at z; unfold XPb; omega)
      · exact z2 z), at9 a k z2 z3, at7 a k z1]
  have hD0 : MWf D0 D0 w := by
    refine ⟨⟨by rw [eD0, wI_at], fun k k0 k1 k2 => ?_⟩, fun k _ => rfl⟩
    rw [eD0, wI_no _ (by omega), y3 k k0 (by omega) k2, if_pos (by omega), ff k k1]
  have aD0 : ∀ (a : Nat) (k : Int), ¬ XPb a k → ¬ (432 ≤ a ∧ a ≤ 435) → a ≠ 368 → ¬ (a = 367 ∧ k = 2) → D0.1 a k = B.1 a k := fun a k z1 z2 z3 z4 => by
    have z5 := z1
    unfold XPb at z5
    rw [eD0, wI_no _ (by omega), loC a k z1 (by omega) (by omega), at6 a k (by omega) (by omega), at3 a k z3 (by omega) z4, at0 a k (by omega)]
  have f432 : D0.1 432 e = X.1 := by
    rw [eD0, wI_no _ (by omega), x1.2 _ _ (by unfold XW; omega), e9, wI_at]
  have f434 : D0.1 434 e = X.2.1 := by rw [eD0, wI_no _ (by omega)]; exact y1
  have f433 : D0.1 433 e = cs := by rw [eD0, wI_no _ (by omega), loC _ _ (by unfold XPb; omega) (by omega) (by omega), e6, wI_no _ (by omega), e5, wI_no _ (by omega), e4, wI_at]
  have f435 : C.1 435 e = w.1 := by
    rw [loC _ _ (by unfold XPb; omega) (by omega) (by omega), at6 _ _ (by omega) (by omega), f1.2 _ _ (by omega), e2, wI_no _ (by omega), e1, wI_at]
  obtain ⟨D1, a11, a12, a13⟩ := mf_low (q := q) (B0 := D0) 67324752 (m := 4) (by decide) (by omega) hD0
  have g1 := wtPuts_1 (loF 67324752) w 4
  obtain ⟨D2, a21, a22, a23⟩ := mf_low (q := q) (B0 := D0) 20 (m := 2) (by decide) (by omega) a13
  have g2 := wtPuts_1 (loF 20) (wtPuts (loF 67324752) 4 w) 2
  obtain ⟨D3, a31, a32, a33⟩ := mf_low (q := q) (B0 := D0) 0 (m := 2) (by decide) (by omega) a23
  have g3 := wtPuts_1 (loF 0) (wtPuts (loF 20) 2 (wtPuts (loF 67324752) 4 w)) 2
  obtain ⟨W3, eW3⟩ : ∃ W3, W3 = wtPuts (loF 0) 2 (wtPuts (loF 20) 2 (wtPuts (loF 67324752) 4 w)) := ⟨_, rfl⟩
  rw [← eW3] at a33 g3
  have x3 : EX XW D0 D3 := (a12.trans a22).trans a32
  obtain ⟨D4, a41, a42, a43⟩ := mf_low (q := q) (B0 := D0) X.1 (m := 2) (by decide) (by omega) a33
  have g4 := wtPuts_1 (loF X.1) W3 2
  have x4 := x3.trans a42
  obtain ⟨D5, a51, a52, a53⟩ := mf_low (q := q) (B0 := D0) (E e).2.2.2.1 (m := 4) (by decide) (by omega) a43
  have g5 := wtPuts_1 (loF (E e).2.2.2.1) (wtPuts (loF X.1) 2 W3) 4
  have x5 := x4.trans a52
  obtain ⟨D6, a61, a62, a63⟩ := mf_low (q := q) (B0 := D0) X.2.2.2 (m := 4) (by decide) (by omega) a53
  have g6 := wtPuts_1 (loF X.2.2.2) (wtPuts (loF (E e).2.2.2.1) 4 (wtPuts (loF X.1) 2 W3)) 4
  have x6 := x5.trans a62
  obtain ⟨D7, a71, a72, a73⟩ := mf_low (q := q) (B0 := D0) X.2.1 (m := 4) (by decide) (by omega) a63
  have g7 := wtPuts_1 (loF X.2.1) (wtPuts (loF X.2.2.2) 4 (wtPuts (loF (E e).2.2.2.1) 4 (wtPuts (loF X.1) 2 W3))) 4
  have x7 := x6.trans a72
  obtain ⟨D8, a81, a82, a83⟩ := mf_low (q := q) (B0 := D0) (E e).2.2.2.2.1 (m := 4) (by decide) (by omega) a73
  have g8 := wtPuts_1 (loF (E e).2.2.2.2.1) (wtPuts (loF X.2.1) 4 (wtPuts (loF X.2.2.2) 4 (wtPuts (loF (E e).2.2.2.1) 4 (wtPuts (loF X.1) 2 W3)))) 4
  have x8 := x7.trans a82
  obtain ⟨D9, a91, a92, a93⟩ := mf_low (q := q) (B0 := D0) (E e).1 (m := 2) (by decide) (by omega) a83
  have g9 := bxFt_1 (E e) X W3
  have a93' : MWf D0 D9 (bxFt (E e) X W3) := a93
  obtain ⟨G0, b01, b02, b03⟩ := mf_low (q := q) (B0 := D0) 0 (m := 2) (by decide) (by omega) a93'
  have g10 := wtPuts_1 (loF 0) (bxFt (E e) X W3) 2
  have x10 : EX XW D0 G0 := (x8.trans a92).trans b02
  have aG0 : ∀ (a : Nat) (k : Int), 419 ≤ a → a ≤ 424 → G0.1 a k = B.1 a k := fun a k z1 z2 => by rw [x10.2 _ _ (by unfold XW; omega)]; exact aD0 _ _ (by unfold XPb; omega) (by omega) (by omega) (by omega)
  obtain ⟨nn, enn⟩ : ∃ nn : Nat, (nn : Int) = (E e).1 := ⟨(E e).1.toNat, by omega⟩
  obtain ⟨G1, b11, b12, b14, b13⟩ := md_nmO (q := q) (g := fun k => (E e).2.1 k) (e := e) (n := nn) (w := wtPuts (loF 0) 2 (bxFt (E e) X W3)) (by omega) (by omega) (by omega) nn 0 G0 (by omega) (by rw [aG0 _ _ (by omega) (by omega), c1]; exact enn.symm) (fun k hk => by rw [aG0 _ _ (by omega) (by omega)]; exact c2 k (by omega) (by omega)) b03.1
  have x11 : EX XW D0 G1 := x10.trans b11
  have b12' : MWt G1 (bxHd (E e) X w) := by
    unfold bxHd
    rw [← eW3, show (E e).1.toNat = nn by omega]
    exact b12
  obtain ⟨G2, eG2⟩ : ∃ G2, G2 = wI G1 367 9 (at' + X.2.1) := ⟨_, rfl⟩
  have t374 : ∀ k : Int, at' ≤ k → G1.1 374 k = C.1 374 k := fun k hk => by
    rw [b14 k (by omega), b03.2 k (by omega), eD0, wI_no _ (by omega)]
  have allX : ∀ (a : Nat) (k : Int), ¬ XBt a k → G2.1 a k = B.1 a k := fun a k z => by
    have z' := z
    unfold XBt XPb at z'
    rw [eG2, wI_no _ (by omega), x11.2 _ _ (by unfold XW; omega)]
    exact aD0 a k (fun y => z (Or.inl y)) (by omega) (by omega) (by omega)
  have g22 : G2.2.2 = B.2.2 := by
    rw [eG2]
    show G1.2.2 = B.2.2
    rw [x11.1, eD0]
    show C.2.2 = B.2.2
    rw [x1.1, e9, e8]
    show B7.2.2 = B.2.2
    rw [p1.1, e6, e5, e4]
    show B3.2.2 = B.2.2
    rw [f1.1, e2, e1, e0]
    rfl
  have fD : ∀ a : Nat, 432 ≤ a → a ≤ 435 → ∀ k : Int, G2.1 a k = D0.1 a k := fun a z1 z2 k => by rw [eG2, wI_no _ (by omega), x11.2 _ _ (by unfold XW; omega)]
  have hKG : TbK G2 := TbK_k p2 (fun a k y => by
    rw [eG2, wI_no _ (by omega), x11.2 _ _ (by unfold XW; omega), eD0, wI_no _ (by omega), x1.2 _ _ (by unfold XW; omega), at9 _ _ (by omega) (by omega)])
  refine ⟨G2, ⟨g22, allX⟩, hKG, ?_, ⟨?_, fun k k0 k1 k2 => ?_⟩, ⟨⟨?_, ?_⟩, ?_, ?_⟩, fun a k z1 z2 z3 => ?_, EV_nB ?_⟩
  · rw [eG2, wI_no _ (by omega), x11.2 _ _ (by unfold XW; omega), eD0, wI_no _ (by omega), x1.2 _ _ (by unfold XW; omega), at9 _ _ (by omega) (by omega)]
    exact p3.2.2
  · rw [eG2, wI_at, gG]
    omega
  · rw [gG] at k1
    rw [eG2, wI_no _ (by omega)]
    unfold bxG
    rw [wtPuts_2, gH]
    by_cases c : k < at'
    · rw [if_neg (by omega)]
      exact b12'.2 k k0 (by omega) k2
    · rw [if_pos (by omega), t374 k (by omega), y3 k k0 (by omega) k2, if_neg c, show (((k - (w.1 + 30 + (E e).1)).toNat : Nat) : Int) = k - at' by omega]
      unfold b8
      omega
  · rw [fD _ (by omega) (by omega), eD0, wI_no _ (by omega)]; exact f435
  · rw [fD _ (by omega) (by omega)]; exact f432
  · rw [fD _ (by omega) (by omega), f433]; exact (ecs ()).symm
  · rw [fD _ (by omega) (by omega)]; exact f434
  · rw [fD _ z1 z2, eD0, wI_no _ (by omega), loC _ _ (by unfold XPb; omega) (by omega) (by omega), at6 _ _ (by omega) (by omega), at3 _ _ (by omega) (by omega) (by omega), at0 _ _ (by omega)]
  · rw [← e0]
    have h09 : B0.1 367 9 = w.1 := by rw [at0 _ _ (by omega)]; exact h.1
    have k173 : EV q 391 173 [some (.ref 367), some (vI e), some (vI lv), some (vI at'), some (vI N)] [] C none G2 := by
      refine vc_MD_boxText_173 _ _ _ _ ?_
      rw [ee (), f435]
      refine ⟨by omega, fun S2 q2 => ?_⟩
      rw [← eD0] at q2
      rw [q2]
      refine ⟨D1, a11, D2, a21, D3, a31, by omega, D4, ?_, by omega, D5, ?_, by omega, D6, ?_, by omega, D7, ?_, by omega, D8, ?_, by omega, D9, ?_, G0, b01, G1, vc_MD_nameOf _ b13, fun S31 q31 => ⟨rfl, ?_⟩⟩
      · rw [x3.2 _ _ (by unfold XW; omega), f432, w32_of (x := X.1) (by omega)]
        exact a41
      · rw [x4.2 _ _ (by unfold XW; omega), aD0 _ _ (by unfold XPb; omega) (by omega) (by omega) (by omega), c4, w32_of (x := (E e).2.2.2.1) (by omega)]
        exact a51
      · rw [x5.2 _ _ (by unfold XW; omega), f433, ← ecs ()]
        exact a61
      · rw [x6.2 _ _ (by unfold XW; omega), f434, w32_of (x := X.2.1) (by omega)]
        exact a71
      · rw [x7.2 _ _ (by unfold XW; omega), aD0 _ _ (by unfold XPb; omega) (by omega) (by omega) (by omega), c5, w32_of (x := (E e).2.2.2.2.1) (by omega)]
        exact a81
      · rw [x8.2 _ _ (by unfold XW; omega), aD0 _ _ (by unfold XPb; omega) (by omega) (by omega) (by omega), c1, w32_of (x := (E e).1) (by omega)]
        exact a91
      · rw [q31, y2]
        exact eG2
    have k143 := y4 none G2 N k173
    refine vc_MD_boxText _ _ ?_
    rw [ee (), h09]
    refine ⟨by omega, fun S2 q2 => ?_⟩
    rw [← e1] at q2
    rw [q2, show B1.1 424 (e : Int) = (E e).2.2.2.2.1 by rw [e1, wI_no _ (by omega), at0 _ _ (by omega)]; exact c5, show B1.1 367 9 = w.1 by rw [e1, wI_no _ (by omega)]; exact h09, show B1.1 420 (e : Int) = (E e).1 by rw [e1, wI_no _ (by omega), at0 _ _ (by omega)]; exact c1, ← eat]
    refine ⟨by omega, by omega, fun S5 q5 => ?_⟩
    rw [← e2] at q5
    rw [q5]
    refine f3 none G2 (vc_MD_boxText_38 _ _ _ _ ?_)
    rw [e32, w32_of (x := (E e).2.2.2.2.1) (by omega), show w32 (N : Int) = N from w32_of (by omega), ee ()]
    refine cY (by omega) ⟨cs, B3, kr', by omega, fun S5 q5 S6 q6 S7 q7 => ?_⟩
    rw [← e4] at q5
    rw [q5, ← e5] at q6
    rw [q6, ← e6] at q7
    rw [q7]
    refine ⟨B7, p4, by omega, fun S11 q11 => ?_⟩
    rw [p3'.1, show u.1 - at' = v.1 by omega, ← e8] at q11
    rw [q11, show B8.1 367 2 = (E e).2.2.2.2.1 by rw [e8, wI_no _ (by omega)]; exact e72, show B8.1 434 (e : Int) = v.1 by rw [e8, wI_at], w32_of (x := (E e).2.2.2.2.1) (by omega), w32_of (x := v.1) (by omega)]
    refine ⟨by omega, ?_⟩
    rcases hD with ⟨d1, d2, -⟩ | ⟨d1, d2, -⟩
    · rw [d2] at k143
      exact cNo (by omega) k143
    · rw [d2] at k143
      exact cY (by omega) k143
end WrN
