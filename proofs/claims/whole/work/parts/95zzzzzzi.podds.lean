/-! pack: ODDS, all -/
section POddsC
variable {q : Nat × (Nat → Int32)} {x : Int} {t : Int → Int} {IC : ms → Prop}
theorem jobit {n m : Nat} {lo ra : Int} {O : Int → Int} {w : Wt} {k b : Int} (h : OI n m lo ra O w) (hn : n < 48000) (hk : 0 ≤ k ∧ k < 65536) (hb : b = 0 ∨ b = 1) : ∃ (m' : Nat) (lo' ra' : Int) (O' : Int → Int) (w' : Wt), OI (n + 1) m' lo' ra' O' w' ∧ (∀ (A : ms) (o : Nat), isRow o 12000 → 300 < o → COd A o lo ra O w → ∃ A', EY (fun a i => a = 28 ∨ XRo o a i) A A' ∧ COd A' o lo' ra' O' w' ∧ EV q 109 0 [some (.ref 22), some (vI k), some (vI b), some (.ref o), none, none, none] [] A none A') ∧ ∀ B : ms, CM B lo ra O w → ∃ B', EY (fun a i => a = 405 ∨ XW a i) B B' ∧ CM B' lo' ra' O' w' ∧ ∀ (x1 x2 x3 x4 x5 : Int) (R : Option Value) (T : ms), (0 ≤ x5 ∧ x5 ≤ 7) → 256 * x1 + x4 = k → (w32 x3 / ((2 : Int) ^ (x5 % 32).toNat)) % 2 = b → EV q 326 75 [some (.ref 367), some (vI x1), some (vI x2), some (vI x3), some (vI (2 * x4 + b)), some (vI (x5 - 1)), none, none, none, none, none] [] B' R T → EV q 326 75 [some (.ref 367), some (vI x1), some (vI x2), some (vI x3), some (vI x4), some (vI x5), none, none, none, none, none] [] B R T := by
  have hm := OI_m h
  have ob := OI_bit h hb hk
  obtain ⟨i1, i2, i3, i4, i5, -⟩ := h
  have ok := i3 k hk.1 hk.2
  have br := bd_r i2 rfl ok
  obtain ⟨bd, ebd⟩ : ∃ bd, bd = ra / 2048 * O k := ⟨_, rfl⟩
  rw [← ebd] at br ob
  obtain ⟨lo1, el1⟩ : ∃ lo1, lo1 = if b = 0 then lo else lo + bd := ⟨_, rfl⟩
  obtain ⟨ra1, er1⟩ : ∃ ra1, ra1 = if b = 0 then bd else ra - bd := ⟨_, rfl⟩
  obtain ⟨O1, eO1⟩ : ∃ O1 : Int → Int, O1 = fun i => if i = k then mvO b (O k) else O i := ⟨_, rfl⟩
  rw [← er1] at ob
  have lr : (0 ≤ lo1 ∧ lo1 < 8589934592) ∧ (131072 ≤ ra1 ∧ ra1 < 4294967296) ∧ lo1 + ra1 ≤ lo + ra := by
    rw [el1, er1]
    rcases hb with e | e
    · rw [if_pos e, if_pos e]
      have : bd ≤ ra := by omega
      omega
    · rw [if_neg (by omega), if_neg (by omega)]
      omega
  have gr := gO_r ok
  obtain ⟨lo2, w2, ⟨c1, c2, c3⟩, cc, cm⟩ := jo_car (q := q) (lo := lo1) (ra := ra1) (w := w) (m := m) lr.1 (by omega) i4 (by omega) (by omega)
  obtain ⟨lo3, ra3, w3, m3, ⟨d1, d2, d3, d4, d5⟩, dc, dm⟩ := jo_sh (q := q) (lo := lo2) (ra := ra1) (w := w2) (m := m) c1 lr.2.1 c2 (by omega) c3
  have hO1 : ∀ i : Int, 0 ≤ i → i < 65536 → 31 ≤ O1 i ∧ O1 i ≤ 2017 := fun i h0 h1 => by
    rw [eO1]
    show 31 ≤ (if i = k then mvO b (O k) else O i) ∧ (if i = k then mvO b (O k) else O i) ≤ 2017
    by_cases e : i = k
    · rw [if_pos e]
      rcases hb with e' | e'
      · rw [e']; exact gr.1.1
      · rw [e']; exact gr.1.2
    · rw [if_neg e]; exact i3 i h0 h1
  have wk : w32 k = k := w32_of (by omega)
  have wo : w32 (O k) = O k := w32_of (by omega)
  have w32' : w32 32 = 32 := by decide
  have t1 : Int.tdiv (O k) 32 = O k / 32 := Int.tdiv_eq_ediv_of_nonneg (by omega)
  have t0 : Int.tdiv (w32 (2048 - O k)) 32 = (2048 - O k) / 32 := by rw [w32_of (x := 2048 - O k) (by omega)]; exact Int.tdiv_eq_ediv_of_nonneg (by omega)
  have td : Int.tdiv (w64 ra) (w64 2048) = ra / 2048 := by rw [w64_of (x := ra) (by omega), show w64 2048 = 2048 by decide]; exact Int.tdiv_eq_ediv_of_nonneg (by omega)
  refine ⟨m3, lo3, ra3, O1, w3, ⟨d1, d2, hO1, d3, d4, ?_⟩, fun A o ho o3 hA => ?_, fun B hB => ?_⟩
  · obtain ⟨g, hg, hp⟩ := ob
    refine ⟨g, by rw [eO1]; exact hg, ?_⟩
    clear hg
    rcases d5 with ⟨e1, e2⟩ | ⟨e1, e2⟩
    · rw [e1, e2]; exact hp
    · rw [e1, e2, show 8 * (m + 1) + g = 8 * m + g + 8 by omega, Int.pow_add, show (2 : Int) ^ 8 = 256 by decide]
      obtain ⟨P, eP⟩ : ∃ P, P = (2 : Int) ^ (8 * m + g) := ⟨_, rfl⟩
      obtain ⟨Q, eQ⟩ : ∃ Q, Q = (2 : Int) ^ (4 * (n + 1)) := ⟨_, rfl⟩
      rw [← eP, ← eQ] at hp ⊢
      have e3 : ra1 * 256 * Q = 256 * (ra1 * Q) := by rw [Int.mul_comm ra1, Int.mul_assoc]
      rw [e3]
      omega
  · -- the class
    obtain ⟨a1, a2, a3, a4⟩ := hA
    have ek := a3 k hk.1 hk.2
    -- the state behind the bit and the odds
    have mid : ∃ A1, EY (fun a i => a = 28 ∨ XRo o a i) A A1 ∧ COd A1 o lo1 ra1 O1 w ∧ ∀ (R : Option Value) (T : ms), (((w64 (A1.2.1 22 6) ≤ w64 4294967295) → EV q 109 85 [some (.ref 22), some (vI k), some (vI b), some (.ref o), some (vL bd), none, none] [] A1 R T) ∧ ((¬ w64 (A1.2.1 22 6) ≤ w64 4294967295) → ∀ S3 : ms, S3 = wJ A1 22 6 ((A1.2.1 22 6) % 4294967296) → ∃ (S4 : ms), EV q 111 0 [some (.ref o), none] [] S3 none S4 ∧ EV q 109 85 [some (.ref 22), some (vI k), some (vI b), some (.ref o), some (vL bd), none, none] [] S4 R T)) → EV q 109 0 [some (.ref 22), some (vI k), some (vI b), some (.ref o), none, none, none] [] A R T := by
      have odd : ∀ (A0 : ms) (v : Int), A0.1 = A.1 → (wI A0 28 k v).1 28 k = v := fun A0 v _ => wI_at _ _ _ _
      have mk : ∀ A0 : ms, A0.1 = A.1 → A0.2.2 = A.2.2 → A0.2.1 22 6 = lo1 → A0.2.1 22 7 = ra1 → EY (fun a i => a = 28 ∨ XRo o a i) A (wI A0 28 k (mvO b (O k))) ∧ COd (wI A0 28 k (mvO b (O k))) o lo1 ra1 O1 w := fun A0 y1 y2 y3 y4 => by
        refine ⟨⟨y2, fun a i y => by rw [wI_no _ (fun z => y (Or.inl z.1)), y1]⟩, y3, y4, fun i h0 h1 => ?_, CWt_cg a4 (fun a i y => by rw [wI_no _ (by unfold XRo at y; omega), y1])⟩
        rw [eO1]
        show _ = if i = k then mvO b (O k) else O i
        by_cases e : i = k
        · rw [if_pos e, e, wI_at]
        · rw [if_neg e, wI_no _ (by omega), y1]
          exact a3 i h0 h1
      rcases hb with e | e
      · have r := mk (wJ A 22 7 bd) rfl rfl (by rw [el1, if_pos e]; rw [wJ_no _ (by decide)]; exact a1) (by rw [er1, if_pos e]; rw [wJ_at])
        refine ⟨_, r.1, r.2, fun R T kk => vc_Plain_packBit _ _ _ _ ho ?_⟩
        rw [wk, a2, ek, wo, show ra % 18446744073709551616 = ra by omega, ← ebd]
        refine ⟨by omega, cNN (by rw [e]; decide) (fun S4 f4 => vc_Plain_packBit_52 _ _ _ _ _ ho ⟨wI (wJ A 22 7 bd) 28 k (mvO b (O k)), vc_Plain_moveOdds _ _ ?_, kk⟩)⟩
        rw [wk]
        have e28 : S4.1 28 k = O k := by rw [f4]; exact ek
        refine cNN (by rw [e]; decide) ⟨by omega, by omega, by omega, fun S8 f8 => ⟨rfl, ?_⟩⟩
        rw [f8, e28, w32', t0, f4, e, mvO_0]
      · have r := mk (wJ (wJ A 22 6 (lo + bd)) 22 7 (ra - bd)) rfl rfl (by rw [el1, if_neg (by omega)]; rw [wJ_no _ (by decide), wJ_at]) (by rw [er1, if_neg (by omega)]; rw [wJ_at])
        refine ⟨_, r.1, r.2, fun R T kk => vc_Plain_packBit _ _ _ _ ho ?_⟩
        rw [wk, a1, a2, ek, wo, show ra % 18446744073709551616 = ra by omega, ← ebd]
        refine ⟨by omega, cY (by rw [e]; decide) (fun S2 f2 S3 f3 => vc_Plain_packBit_52 _ _ _ _ _ ho ⟨wI (wJ (wJ A 22 6 (lo + bd)) 22 7 (ra - bd)) 28 k (mvO b (O k)), vc_Plain_moveOdds _ _ ?_, kk⟩)⟩
        have e7 : S2.2.1 22 7 = ra := by
          rw [f2]
          rw [wJ_no _ (by decide), a2]
        rw [e7, f2] at f3
        rw [wk]
        have e28 : S3.1 28 k = O k := by rw [f3]; exact ek
        refine cY (by rw [e]; decide) ⟨by omega, by omega, by omega, fun S4 f4 => ⟨rfl, ?_⟩⟩
        rw [f4, e28, wo, w32', t1, f3, e, mvO_1]
    obtain ⟨A1, b1, b2, b3⟩ := mid
    obtain ⟨A2, e1, e2, e3⟩ := cc A1 o O1 ho o3 b2
    obtain ⟨A3, f1, f2, f3⟩ := dc A2 o O1 ho o3 e2
    refine ⟨A3, b1.trans ⟨by rw [f1.1, e1.1], fun a i y => by rw [f1.2 a i (fun z => y (Or.inr z)), e1.2 a i (fun z => y (Or.inr z))]⟩, f2, b3 _ _ (e3 k b bd _ _ (f3 k b bd))⟩
  · -- the reference
    obtain ⟨a1, a2, a3, a4⟩ := hB
    have ek := a3 k hk.1 hk.2
    have mk : ∀ B0 : ms, B0.1 = B.1 → B0.2.2 = B.2.2 → B0.2.1 367 63 = lo1 → B0.2.1 367 64 = ra1 → EY (fun a i => a = 405 ∨ XW a i) B (wI B0 405 k (mvO b (O k))) ∧ CM (wI B0 405 k (mvO b (O k))) lo1 ra1 O1 w := fun B0 y1 y2 y3 y4 => by
      refine ⟨⟨y2, fun a i y => by rw [wI_no _ (fun z => y (Or.inl z.1)), y1]⟩, y3, y4, fun i h0 h1 => ?_, MWt_cg a4 (fun a i y => by rw [wI_no _ (by unfold XW at y; omega), y1])⟩
      rw [eO1]
      show _ = if i = k then mvO b (O k) else O i
      by_cases e : i = k
      · rw [if_pos e, e, wI_at]
      · rw [if_neg e, wI_no _ (by omega), y1]
        exact a3 i h0 h1
    have mid : ∃ B1, EY (fun a i => a = 405 ∨ XW a i) B B1 ∧ CM B1 lo1 ra1 O1 w ∧ ∀ (x1 x2 x3 x4 x5 : Int) (R : Option Value) (T : ms), (0 ≤ x5 ∧ x5 ≤ 7) → 256 * x1 + x4 = k → (w32 x3 / ((2 : Int) ^ (x5 % 32).toNat)) % 2 = b → EV q 326 197 [some (.ref 367), some (vI x1), some (vI x2), some (vI x3), some (vI x4), some (vI x5), some (vI b), some (vI k), some (vL bd), none, none] [] B1 R T → EV q 326 75 [some (.ref 367), some (vI x1), some (vI x2), some (vI x3), some (vI x4), some (vI x5), none, none, none, none, none] [] B R T := by
      rcases hb with e | e
      · have r := mk (wJ B 367 64 bd) rfl rfl (by rw [el1, if_pos e]; rw [wJ_no _ (by decide), a1]) (by rw [er1, if_pos e]; rw [wJ_at])
        refine ⟨_, r.1, r.2, fun x1 x2 x3 x4 x5 R T h5 hk' hb' kk => vc_MD_packOdds_75 _ _ _ _ _ ?_⟩
        rw [hb', hk', wk, a2, ek, wo, td, ← ebd, w32_of (x := x5) (by omega)]
        refine cNo (by omega) ⟨by omega, cNN (by rw [e]; decide) (fun S8 f8 => ⟨by omega, by omega, by omega, fun S12 f12 => ?_⟩)⟩
        have e28 : S8.1 405 k = O k := by rw [f8]; exact ek
        rw [e28, w32', t0] at f12
        have e12 : S12 = wI (wJ B 367 64 bd) 405 k (mvO b (O k)) := by rw [f12, f8, e, mvO_0]
        rw [e12]
        exact kk
      · have r := mk (wJ (wJ B 367 63 (lo + bd)) 367 64 (ra - bd)) rfl rfl (by rw [el1, if_neg (by omega)]; rw [wJ_no _ (by decide), wJ_at]) (by rw [er1, if_neg (by omega)]; rw [wJ_at])
        refine ⟨_, r.1, r.2, fun x1 x2 x3 x4 x5 R T h5 hk' hb' kk => vc_MD_packOdds_75 _ _ _ _ _ ?_⟩
        rw [hb', hk', wk, a1, a2, ek, wo, td, ← ebd, w32_of (x := x5) (by omega)]
        refine cNo (by omega) ⟨by omega, cY (by rw [e]; decide) (fun S2 f2 S3 f3 => ⟨by omega, by omega, by omega, fun S7 f7 => ?_⟩)⟩
        have e7 : S2.2.1 367 64 = ra := by
          rw [f2]
          rw [wJ_no _ (by decide), a2]
        rw [e7, f2] at f3
        have e28 : S3.1 405 k = O k := by rw [f3]; exact ek
        rw [e28, wo, w32', t1] at f7
        have e12 : S7 = wI (wJ (wJ B 367 63 (lo + bd)) 367 64 (ra - bd)) 405 k (mvO b (O k)) := by rw [f7, f3, e, mvO_1]
        rw [e12]
        exact kk
    obtain ⟨B1, b1, b2, b3⟩ := mid
    obtain ⟨B2, e1, e2, e3⟩ := cm B1 O1 b2
    obtain ⟨B3, f1, f2, f3⟩ := dm B2 O1 e2
    exact ⟨B3, b1.trans ⟨by rw [f1.1, e1.1], fun a i y => by rw [f1.2 a i (fun z => y (Or.inr z)), e1.2 a i (fun z => y (Or.inr z))]⟩, f2, fun x1 x2 x3 x4 x5 R T h5 hk' hb' kk => b3 x1 x2 x3 x4 x5 R T h5 hk' hb' (e3 x1 x2 x3 x4 x5 b k bd R T (vc_MD_packOdds_265 _ _ _ _ _ _ _ _ ⟨B3, f3, kk⟩))⟩
theorem COd_cg {A A' : ms} {o : Nat} {lo ra : Int} {O : Int → Int} {w : Wt} (h : COd A o lo ra O w) (e1 : A'.2.1 = A.2.1) (e2 : A'.1 = A.1) : COd A' o lo ra O w := ⟨by rw [e1]; exact h.1, by rw [e1]; exact h.2.1, fun k k0 k1 => by rw [e2]; exact h.2.2.1 k k0 k1, CWt_cg h.2.2.2 (fun a k y => by rw [e2])⟩
/-- the bits of an octet, from v - 1 down -/
theorem jo_oct {bf c : Int} (hbf : 0 ≤ bf ∧ bf < 256) : ∀ (v n m : Nat) (nd lo ra : Int) (O : Int → Int) (w : Wt), v ≤ 8 → OI n m lo ra O w → n + v ≤ 48000 → 1 ≤ nd → (nd + 1) * (2 : Int) ^ v ≤ 512 → ∃ (m' : Nat) (lo' ra' : Int) (O' : Int → Int) (w' : Wt), OI (n + v) m' lo' ra' O' w' ∧ (∀ (A : ms) (o : Nat), isRow o 12000 → 300 < o → COd A o lo ra O w → ∃ A', EY (fun a i => a = 28 ∨ XRo o a i) A A' ∧ COd A' o lo' ra' O' w' ∧ ∀ (i : Int) (R : Option Value) (T : ms), EV q 108 37 [some (.ref 22), some (.ref 1), some (.ref o), some (vI c), some (vI (i + 1)), none, none, none, none] [] A' R T → EV q 108 62 [some (.ref 22), some (.ref 1), some (.ref o), some (vI bf), some (vI i), some (vI c), some (vI nd), some (vI ((v : Int) - 1)), none] [] A R T) ∧ ∀ B : ms, CM B lo ra O w → ∃ B', EY (fun a i => a = 405 ∨ XW a i) B B' ∧ CM B' lo' ra' O' w' ∧ ∀ (i : Int) (R : Option Value) (T : ms), EV q 326 49 [some (.ref 367), some (vI c), some (vI (i + 1)), none, none, none, none, none, none, none, none] [] B' R T → EV q 326 75 [some (.ref 367), some (vI bf), some (vI i), some (vI c), some (vI nd), some (vI ((v : Int) - 1)), none, none, none, none, none] [] B R T := by
  intro v
  induction v with
  | zero =>
    intro n m nd lo ra O w _ h hn _ _
    exact ⟨m, lo, ra, O, w, h, fun A o ho o3 hA => ⟨A, EY.refl _ A, hA, fun i R T k => vc_Plain_packOdds_62 _ _ _ _ _ 1 6000 tr_row _ _ ho (cY (by decide) k)⟩, fun B hB => ⟨B, EY.refl _ B, hB, fun i R T k => vc_MD_packOdds_75 _ _ _ _ _ (cY (by decide) k)⟩⟩
  | succ v ih =>
    intro n m nd lo ra O w hv h hn n1 n2
    have pv : (1 : Int) ≤ (2 : Int) ^ v := by have := Int.pow_pos (m := v) (show (0 : Int) < 2 by decide); omega
    have e2 : (nd + 1) * (2 : Int) ^ (v + 1) = (2 * nd + 2) * (2 : Int) ^ v := by rw [Int.pow_succ, Int.mul_comm ((2 : Int) ^ v) 2, ← Int.mul_assoc, show (nd + 1) * 2 = 2 * nd + 2 by omega]
    rw [e2] at n2
    have nd2 : nd ≤ 255 := by
      have := Int.mul_le_mul_of_nonneg_left pv (show 0 ≤ 2 * nd + 2 by omega)
      omega
    obtain ⟨b, eb⟩ : ∃ b, b = (w32 c / ((2 : Int) ^ ((((v + 1 : Nat) : Int) - 1) % 32).toNat)) % 2 := ⟨_, rfl⟩
    have hb : b = 0 ∨ b = 1 := by omega
    obtain ⟨m1, lo1, ra1, O1, w1, h1, c1, r1⟩ := jobit (q := q) (k := bf * 256 + nd) (b := b) h (by omega) (by omega) hb
    obtain ⟨m2, lo2, ra2, O2, w2, h2, c2, r2⟩ := ih (n + 1) m1 (2 * nd + b) lo1 ra1 O1 w1 (by omega) h1 (by omega) (by omega) (by
      have := Int.mul_le_mul_of_nonneg_right (show 2 * nd + b + 1 ≤ 2 * nd + 2 by omega) (show 0 ≤ (2 : Int) ^ v by omega)
      omega)
    have ev : ((v + 1 : Nat) : Int) - 1 - 1 = (v : Int) - 1 := by omega
    refine ⟨m2, lo2, ra2, O2, w2, by rw [show n + (v + 1) = n + 1 + v by omega]; exact h2, fun A o ho o3 hA => ?_, fun B hB => ?_⟩
    · obtain ⟨A1, k1, k2, k3⟩ := c1 A o ho o3 hA
      obtain ⟨A2, j1, j2, j3⟩ := c2 A1 o ho o3 k2
      refine ⟨A2, k1.trans j1, j2, fun i R T k => vc_Plain_packOdds_62 _ _ _ _ _ 1 6000 tr_row _ _ ho ?_⟩
      have j4 := j3 i R T k
      rw [ev, ← eb, w32_of (x := ((v + 1 : Nat) : Int) - 1) (by omega)]
      rw [Int.mul_comm 2 nd] at j4
      exact cNo (by omega) ⟨A1, k3, j4⟩
    · obtain ⟨B1, k1, k2, k3⟩ := r1 B hB
      obtain ⟨B2, j1, j2, j3⟩ := r2 B1 k2
      refine ⟨B2, k1.trans j1, j2, fun i R T k => k3 bf i c nd (((v + 1 : Nat) : Int) - 1) R T (by omega) (by omega) eb.symm ?_⟩
      rw [ev]
      exact j3 i R T k
/-- a number, its high octet first -/
def wtHi : Nat → Int → Wt → Wt
  | 0, _, w => w
  | n + 1, v, w => wtHi n v (wtPut (v / (2 : Int) ^ (8 * n)) w)
theorem wtHi_s (n : Nat) (v : Int) (w : Wt) : wtHi (n + 1) v w = wtHi n v (wtPut (v / (2 : Int) ^ (8 * n)) w) := rfl
theorem wtHi_r (v : Int) : ∀ (n : Nat) (w : Wt), wtO w → (wtHi n v w).1 = w.1 + n ∧ wtO (wtHi n v w)
  | 0, w, h => ⟨by show w.1 = w.1 + ((0 : Nat) : Int); omega, h⟩
  | n + 1, w, h => by
    have := wtHi_r v n (wtPut (v / (2 : Int) ^ (8 * n)) w) (wtO_put _ h)
    rw [wtPut_1] at this
    rw [wtHi_s]
    exact ⟨by omega, this.2⟩
theorem cw_high {o : Nat} {v x3 : Int} (hv : 0 ≤ v ∧ v < 4611686018427387904) (ho : isRow o 12000) : ∀ (n : Nat) (A : ms) (w : Wt), n ≤ 8 → 0 ≤ w.1 → CWt A o 12000 w → ∃ A', EX (XRo o) A A' ∧ CWt A' o 12000 (wtHi n v w) ∧ EV q 18 5 [some (.ref o), some (vL v), none, some (vI x3), some (vI ((n : Int) - 1))] [] A none A' := by
  intro n
  induction n with
  | zero =>
    intro A w _ hw h
    exact ⟨A, EX.refl _ A, h, vc_Row_addHigh_5 _ _ _ _ _ ho (cY (by decide) ⟨rfl, rfl⟩)⟩
  | succ n ih =>
    intro A w hn hw h
    obtain ⟨A1, k1, k2, k3⟩ := cw_put (q := q) (v / (2 : Int) ^ (8 * n)) ho (by decide) hw h
    obtain ⟨A', g1, g2, g3⟩ := ih A1 _ (by omega) (by rw [wtPut_1]; omega) k3
    refine ⟨A', k2.trans g1, g2, vc_Row_addHigh_5 _ _ _ _ _ ho ?_⟩
    rw [show ((n + 1 : Nat) : Int) - 1 = n by omega, show ((8 * (n : Int)) % 64).toNat = 8 * n by omega, show v % 18446744073709551616 = v by omega, w32_of (x := (n : Int)) (by omega)]
    exact cNo (by omega) ⟨A1, k1, g3⟩
theorem mw_high {v x3 : Int} (hv : 0 ≤ v ∧ v < 4611686018427387904) : ∀ (n : Nat) (B : ms) (w : Wt), n ≤ 8 → (0 ≤ w.1 ∧ w.1 < 900000000 - n) → MWt B w → ∃ B', EX XW B B' ∧ MWt B' (wtHi n v w) ∧ EV q 309 5 [some (.ref 367), some (vL v), none, some (vI x3), some (vI ((n : Int) - 1))] [] B none B' := by
  intro n
  induction n with
  | zero =>
    intro B w _ hw h
    exact ⟨B, EX.refl _ B, h, vc_MD_highFirst_5 _ _ _ (cY (by decide) ⟨rfl, rfl⟩)⟩
  | succ n ih =>
    intro B w hn hw h
    obtain ⟨B1, k1, k2, k3⟩ := mw_put (q := q) (v / (2 : Int) ^ (8 * n)) (by omega) h
    obtain ⟨B', g1, g2, g3⟩ := ih B1 _ (by omega) (by rw [wtPut_1]; omega) k3
    refine ⟨B', k2.trans g1, g2, vc_MD_highFirst_5 _ _ _ ?_⟩
    rw [show ((n + 1 : Nat) : Int) - 1 = n by omega, show ((8 * (n : Int)) % 64).toNat = 8 * n by omega, w64_of (x := v) (by omega), w32_of (x := (n : Int)) (by omega)]
    exact cNo (by omega) ⟨B1, k1, g3⟩
def XOc (o a : Nat) (i : Int) : Prop := a = 28 ∨ XRo o a i
def XOm (a : Nat) (i : Int) : Prop := a = 405 ∨ XW a i
theorem jo_all (hx : 0 ≤ x ∧ x ≤ 6000) (ht : ∀ k : Int, 0 ≤ k → k < x → 0 ≤ t k ∧ t k < 256) : ∀ (v i m : Nat) (bf lo ra : Int) (O : Int → Int) (w : Wt), (i : Int) + v = x → (0 ≤ bf ∧ bf < 256) → OI (8 * i) m lo ra O w → ∃ w' : Wt, ((0 ≤ w'.1 ∧ w'.1 ≤ 30000) ∧ wtO w') ∧ (∀ (A : ms) (o : Nat), isRow o 12000 → 300 < o → TXc A x t → COd A o lo ra O w → ∃ A', EY (XOc o) A A' ∧ CWt A' o 12000 w' ∧ EV q 108 37 [some (.ref 22), some (.ref 1), some (.ref o), some (vI bf), some (vI i), none, none, none, none] [] A none A') ∧ ∀ B : ms, TXm B x t → CM B lo ra O w → ∃ B', EY XOm B B' ∧ MWt B' w' ∧ EV q 326 49 [some (.ref 367), some (vI bf), some (vI i), none, none, none, none, none, none, none, none] [] B none B' := by
  have wx : w32 x = x := w32_of (by omega)
  intro v
  induction v with
  | zero =>
    intro i m bf lo ra O w hi hbf h
    have hm := OI_m h
    obtain ⟨i1, i2, i3, i4, i5, -⟩ := h
    have ei : (i : Int) = x := by omega
    have hr := wtHi_r lo 4 w i4.2
    refine ⟨wtHi 4 lo w, ⟨by omega, hr.2⟩, fun A o ho o3 hA hC => ?_, fun B hB hC => ?_⟩
    · obtain ⟨A', k1, k2, k3⟩ := cw_high (q := q) (v := lo) (x3 := 4) (by omega) ho 4 A w (by decide) (by omega) hC.2.2.2
      refine ⟨A', (EX.mono k1 (fun a k y => Or.inr y)).ey, k2, vc_Plain_packOdds_37 _ _ 1 6000 tr_row _ _ ho ?_⟩
      rw [hA.1, ei, hC.1]
      exact cY (Int.le_refl _) ⟨A', vc_Row_addHigh _ _ _ _ ho k3, rfl, rfl⟩
    · obtain ⟨B', k1, k2, k3⟩ := mw_high (q := q) (v := lo) (x3 := 4) (by omega) 4 B w (by decide) (by omega) hC.2.2.2
      refine ⟨B', (EX.mono k1 (fun a k y => Or.inr y)).ey, k2, vc_MD_packOdds_49 _ _ ?_⟩
      rw [hB.1, ei, hC.1]
      exact cY (Int.le_refl _) ⟨B', vc_MD_highFirst _ _ k3, rfl, rfl⟩
  | succ v ih =>
    intro i m bf lo ra O w hi hbf h
    have wi : Unit → w32 (i : Int) = i := fun _ => w32_of (by omega)
    have ti := ht i (by omega) (by omega)
    obtain ⟨m1, lo1, ra1, O1, w1, h1, c1, r1⟩ := jo_oct (q := q) (bf := bf) (c := t i) hbf 8 (8 * i) m 1 lo ra O w (by decide) h (by omega) (by decide) (by decide)
    obtain ⟨w', a1, a2, a3⟩ := ih (i + 1) m1 (t i) lo1 ra1 O1 w1 (by omega) ti (by rw [show 8 * (i + 1) = 8 * i + 8 by omega]; exact h1)
    refine ⟨w', a1, fun A o ho o3 hA hC => ?_, fun B hB hC => ?_⟩
    · obtain ⟨A1, k1, k2, k3⟩ := c1 A o ho o3 hC
      have hA1 : TXc A1 x t := TXc_e hA (fun a k y => k1.2 a k (by unfold XRo; omega))
      obtain ⟨A', g1, g2, g3⟩ := a2 A1 o ho o3 hA1 k2
      refine ⟨A', k1.trans g1, g2, vc_Plain_packOdds_37 _ _ 1 6000 tr_row _ _ ho ?_⟩
      rw [hA.1, wx, wi (), show A.1 (1 + 1) i = t i from (hA.2 i (by omega) (by omega)).2]
      exact cNo (by omega) ⟨by omega, k3 i none A' g3⟩
    · obtain ⟨B1, k1, k2, k3⟩ := r1 B hC
      have hB1 : TXm B1 x t := TXm_e hB (fun a k y => k1.2 a k (by unfold XW; omega))
      obtain ⟨B', g1, g2, g3⟩ := a3 B1 hB1 k2
      refine ⟨B', k1.trans g1, g2, vc_MD_packOdds_49 _ _ ?_⟩
      rw [hB.1, wx, wi (), oct_eq ti (hB.2 i (by omega) (by omega)).2]
      exact cNo (by omega) ⟨by omega, k3 i none B' g3⟩
/-- the reference fills its odds -/
theorem md_ofill : ∀ (v k : Nat) (B : ms), k + v = 65536 → (∀ j : Int, 0 ≤ j → j < k → B.1 405 j = 1024) → ∃ B', EX (fun a _ => a = 405) B B' ∧ (∀ j : Int, 0 ≤ j → j < 65536 → B'.1 405 j = 1024) ∧ ∀ (R : Option Value) (T : ms), EV q 326 49 [some (.ref 367), some (vI 0), some (vI 0), none, none, none, none, none, none, none, none] [] (wJ (wJ B' 367 63 0) 367 64 4294967295) R T → EV q 326 12 [some (.ref 367), some (vI k), none, none, none, none, none, none, none, none, none] [] B R T := by
  intro v
  induction v with
  | zero =>
    intro k B hk h
    refine ⟨B, EX.refl _ B, fun j j0 j1 => h j j0 (by omega), fun R T kk => vc_MD_packOdds_12 _ ?_⟩
    have ek : (k : Int) = 65536 := by omega
    rw [ek]
    exact cY (by decide) (fun S1 f1 S2 f2 => by rw [f2, f1]; exact kk)
  | succ v ih =>
    intro k B hk h
    have wk : Unit → w32 (k : Int) = k := fun _ => w32_of (by omega)
    obtain ⟨B', g1, g2, g3⟩ := ih (k + 1) (wI B 405 k 1024) (by omega) (fun j j0 j1 => by
      by_cases e : j = k
      · rw [e, wI_at]
      · rw [wI_no _ (by omega)]; exact h j j0 (by omega))
    refine ⟨B', ((EX.refl _ B).wr rfl).trans g1, g2, fun R T kk => vc_MD_packOdds_12 _ ?_⟩
    have g4 := g3 R T kk
    rw [show ((k + 1 : Nat) : Int) = (k : Int) + 1 by omega] at g4
    rw [wk ()]
    exact cNo (by omega) ⟨by omega, fun S4 f4 => by rw [f4]; exact g4⟩
theorem jp_odds (hx : 0 ≤ x ∧ x ≤ 6000) (ht : ∀ k : Int, 0 ≤ k → k < x → 0 ≤ t k ∧ t k < 256) : JP q IC 10 0 x t := by
  have hr := wtHi_r x 2 w00 w00_O
  obtain ⟨w2, ew2⟩ : ∃ w2, w2 = wtHi 2 x w00 := ⟨_, rfl⟩
  rw [← ew2] at hr
  have n2 : w2.1 = 2 := by rw [hr.1]; rfl
  have hI : OI (8 * 0) 0 0 4294967295 (fun _ => 1024) w2 := ⟨by decide, by decide, fun _ _ _ => by show (31 : Int) ≤ 1024 ∧ (1024 : Int) ≤ 2017; decide, ⟨by rw [n2]; rfl, hr.2⟩, by show (0 : Int) * 4294967296 + 0 + 4294967295 ≤ 1 * 4294967296; decide, 0, sm_0 (fun _ _ => rfl), by decide⟩
  obtain ⟨w', a1, a2, a3⟩ := jo_all (q := q) hx ht x.toNat 0 0 0 0 4294967295 (fun _ => 1024) w2 (by omega) (by decide) hI
  refine ⟨w', fun _ => (0, 0, 0), 0, 0, ⟨⟨by omega, a1.2⟩, by decide, fun _ => rfl, fun _ => rfl⟩, fun A o ho o3 _ hA h h8 => ?_, fun B _ hK hB h => ?_⟩
  · obtain ⟨A1, k1, k2, k3⟩ := cw_high (q := q) (v := x) (x3 := 2) (by omega) ho 2 A w00 (by decide) (by decide) h.1
    rw [← ew2] at k2
    have kf := sp_fillI (q := q) (S := A1) (c := 28) (n1 := 65536) rfl (by decide) 1024
    obtain ⟨A2, e2⟩ : ∃ A2, A2 = wJ (wJ (wC A1 28 0 (65536 : Nat) (fun _ => 1024)) 22 6 0) 22 7 4294967295 := ⟨_, rfl⟩
    have at2 : ∀ (a : Nat) (k : Int), a ≠ 28 → A2.1 a k = A1.1 a k := fun a k y => by
      rw [e2]
      show (wC A1 28 0 (65536 : Nat) (fun _ => 1024)).1 a k = A1.1 a k
      exact wC_ne _ _ _ _ y
    have x2 : EY (XOc o) A A2 := ⟨by rw [e2]; show A1.2.2 = A.2.2; rw [k1.1], fun a k y => by
      rw [at2 a k (fun z => y (Or.inl z)), k1.2 a k (fun z => y (Or.inr z))]⟩
    have hA2 : TXc A2 x t := TXc_e hA (fun a k y => x2.2 a k (by unfold XOc XRo; omega))
    have hC : COd A2 o 0 4294967295 (fun _ => 1024) w2 := by
      refine ⟨?_, ?_, fun k k0 k1' => ?_, CWt_cg k2 (fun a k y => at2 a k (by unfold XRo at y; omega))⟩
      · rw [e2]
        rw [wJ_no _ (by decide), wJ_at]
      · rw [e2]
        rw [wJ_at]
      · rw [e2]
        show (wC A1 28 0 (65536 : Nat) (fun _ => 1024)).1 28 k = 1024
        rw [wC_in _ (by omega) (by omega)]
    obtain ⟨A', g1, g2, g3⟩ := a2 A2 o ho o3 hA2 hC
    have xx := x2.trans g1
    refine ⟨A', A.2.2 10 2, 0, fun _ => rfl, by rw [wR_id]; exact ⟨xx.1, fun a k y => xx.2 a k (fun z => y (by unfold XOc XRo at z; unfold XPa XRb; omega))⟩, g2, ⟨by rw [xx.2 10 8 (by unfold XOc XRo; omega)]; exact h8, fun k k0 k1 => absurd k0 (by omega)⟩, vc_PH_packKind _ _ _ _ ho ⟨fun c => absurd c (by decide), fun c => absurd c (by decide), fun c => absurd c (by decide), fun c => absurd c (by decide), fun c => absurd c (by decide), fun c => absurd c (by decide), fun c => absurd c (by decide), fun c => absurd c (by decide), fun c => absurd c (by decide), fun _ _ _ _ _ _ _ _ _ => ⟨A', vc_Plain_packOdds 1 6000 tr_row _ _ ho ⟨A1, vc_Row_addHigh _ _ _ _ ho (by rw [hA.1, w32_of (x := x) (by omega)]; exact k3), _, kf, fun S5 f5 S6 f6 => by rw [f6, f5, ← e2]; exact g3⟩, rfl, rfl⟩⟩⟩
  · obtain ⟨B1, k1, k2, k3⟩ := mw_high (q := q) (v := x) (x3 := 2) (by omega) 2 B w00 (by decide) (by decide) h.1
    rw [← ew2] at k2
    obtain ⟨B2, j1, j2, j3⟩ := md_ofill (q := q) 65536 0 B1 (by decide) (fun j j0 j1 => absurd j1 (by omega))
    obtain ⟨B3, e3⟩ : ∃ B3, B3 = wJ (wJ B2 367 63 0) 367 64 4294967295 := ⟨_, rfl⟩
    have f1 : B3.1 = B2.1 := by rw [e3]; rfl
    have x2 : EY XOm B B3 := ⟨by rw [e3]; show B2.2.2 = B.2.2; rw [j1.1, k1.1], fun a k y => by
      rw [f1, j1.2 a k (fun z => y (Or.inl z)), k1.2 a k (fun z => y (Or.inr z))]⟩
    have hB3 : TXm B3 x t := TXm_e hB (fun a k y => x2.2 a k (by unfold XOm XW; omega))
    have hC : CM B3 0 4294967295 (fun _ => 1024) w2 := by
      refine ⟨?_, ?_, fun k k0 k1' => by rw [f1]; exact j2 k k0 k1', MWt_cg k2 (fun a k y => by rw [f1, j1.2 a k (by unfold XW at y; omega)])⟩
      · rw [e3]
        rw [wJ_no _ (by decide), wJ_at]
      · rw [e3]
        rw [wJ_at]
    obtain ⟨B', g1, g2, g3⟩ := a3 B3 hB3 hC
    have xx := x2.trans g1
    refine ⟨B', ⟨xx.1, fun a k y => xx.2 a k (fun z => y (by unfold XOm XW at z; unfold XPb; omega))⟩, TbK_ey hK xx (fun a k y => by unfold XOm XW at y; omega), g2, fun c => absurd c (by unfold tkK; decide), fun c => absurd c (by decide), vc_MD_packAs _ _ ⟨fun c => absurd c (by decide), fun c => absurd c (by decide), fun c => absurd c (by decide), fun c => absurd c (by decide), fun c => absurd c (by decide), fun c => absurd c (by decide), fun c => absurd c (by decide), fun c => absurd c (by decide), fun c => absurd c (by decide), fun _ _ _ _ _ _ _ _ _ => ⟨B', vc_MD_packOdds ⟨B1, vc_MD_highFirst _ _ (by rw [hB.1, w32_of (x := x) (by omega)]; exact k3), j3 none B' (by rw [← e3]; exact g3)⟩, rfl, rfl⟩⟩⟩
end POddsC
