/-! pack: RIM and MEMBER -/
section PKinds2
variable {q : Nat × (Nat → Int32)} {x : Int} {t : Int → Int}
theorem wtPut_c {a b : Int} {w w' : Wt} (h : a % 256 = b % 256) (e : w = w') : wtPut a w = wtPut b w' := by rw [e, wtPut_m h]
theorem hi4_m {z : Int} (hz : 0 ≤ z ∧ z < 4294967296) {n : Nat} (hn : n ≤ 3) : (w32 z % 18446744073709551616 / (2 : Int) ^ (8 * n)) % 256 = (z / (2 : Int) ^ (8 * n)) % 256 := by
  have h4 : n = 0 ∨ n = 1 ∨ n = 2 ∨ n = 3 := by omega
  unfold w32
  rcases h4 with e | e | e | e <;> subst e
  · show ((z + 2147483648) % 4294967296 - 2147483648) % 18446744073709551616 / 1 % 256 = z / 1 % 256
    omega
  · show ((z + 2147483648) % 4294967296 - 2147483648) % 18446744073709551616 / 256 % 256 = z / 256 % 256
    omega
  · show ((z + 2147483648) % 4294967296 - 2147483648) % 18446744073709551616 / 65536 % 256 = z / 65536 % 256
    omega
  · show ((z + 2147483648) % 4294967296 - 2147483648) % 18446744073709551616 / 16777216 % 256 = z / 16777216 % 256
    omega
theorem cw_hi4 {o : Nat} {z x3 : Int} (hz : 0 ≤ z ∧ z < 4294967296) (ho : isRow o 12000) : ∀ (n : Nat) (A : ms) (w : Wt), n ≤ 4 → 0 ≤ w.1 → CWt A o 12000 w → ∃ A', EX (XRo o) A A' ∧ CWt A' o 12000 (wtHi n z w) ∧ EV q 18 5 [some (.ref o), some (vL (w32 z)), none, some (vI x3), some (vI ((n : Int) - 1))] [] A none A' := by
  intro n
  induction n with
  | zero =>
    intro A w _ hw h
    exact ⟨A, EX.refl _ A, h, vc_Row_addHigh_5 _ _ _ _ _ ho (cY (by decide) ⟨rfl, rfl⟩)⟩
  | succ n ih =>
    intro A w hn hw h
    obtain ⟨A1, k1, k2, k3⟩ := cw_put (q := q) (w32 z % 18446744073709551616 / (2 : Int) ^ (8 * n)) ho (by decide) hw h
    rw [wtPut_m (hi4_m hz (by omega))] at k3
    obtain ⟨A', g1, g2, g3⟩ := ih A1 _ (by omega) (by rw [wtPut_1]; omega) k3
    refine ⟨A', k2.trans g1, g2, vc_Row_addHigh_5 _ _ _ _ _ ho ?_⟩
    rw [show ((n + 1 : Nat) : Int) - 1 = n by omega, show ((8 * (n : Int)) % 64).toNat = 8 * n by omega, show w32 (n : Int) = n from w32_of (by omega)]
    exact cNo (by omega) ⟨A1, k1, g3⟩
def rmF (lv : Int) : Int := if lv = 0 then 1 else if lv = 1 then 94 else if lv = 2 then 156 else 218
theorem rmF_r {lv : Int} (h : 0 ≤ lv ∧ lv ≤ 4) : (min lv 3 * 64 ≤ rmF lv ∧ rmF lv < min lv 3 * 64 + 31) ∧ (30720 + rmF lv) % 31 = 0 ∧ rmF lv < 256 ∧ w32 ((30720 + ((min (w32 lv) (w32 3)) * 64)) + (Int.tmod (w32 (31 - (Int.tmod (w32 (30720 + ((min (w32 lv) (w32 3)) * 64))) (w32 31)))) (w32 31))) = 30720 + rmF lv := by
  have h5 : lv = 0 ∨ lv = 1 ∨ lv = 2 ∨ lv = 3 ∨ lv = 4 := by omega
  rcases h5 with e | e | e | e | e <;> subst e <;> decide
theorem rim_a {f : Int} (h : 0 ≤ f ∧ f < 256) : (30720 + f) / (2 : Int) ^ (8 * 1) % 256 = 120 % 256 ∧ (30720 + f) / (2 : Int) ^ (8 * 0) % 256 = f % 256 := by
  show (30720 + f) / 256 % 256 = 120 % 256 ∧ (30720 + f) / 1 % 256 = f % 256
  omega
theorem jp_4 {lv : Int} (hlv : 0 ≤ lv ∧ lv ≤ 4) (hx : 0 ≤ x ∧ x ≤ 6000) (ht : ∀ k : Int, 0 ≤ k → k < x → 0 ≤ t k ∧ t k < 256) (hJ : ∀ s0 : Wb, s0.2 = 0 → wbR 0 s0 → s0.1.1 ≤ 1000 → JB q lv x t s0) : JPw q BlC 4 lv x t := by
  have rr := rmF_r hlv
  obtain ⟨f, ef⟩ : ∃ f, f = rmF lv := ⟨_, rfl⟩
  rw [← ef] at rr
  have f0 : 0 ≤ f ∧ f < 256 := ⟨by have := rr.1.1; omega, rr.2.2.1⟩
  obtain ⟨hd, ehd⟩ : ∃ hd, hd = wtPut f (wtPut 120 w00) := ⟨_, rfl⟩
  have hdO : wtO hd := by rw [ehd]; exact wtO_put _ (wtO_put _ w00_O)
  have hd1 : hd.1 = 2 := by rw [ehd]; rfl
  obtain ⟨g, eg⟩ : ∃ g : Nat → Int, g = fun k : Nat => t (k : Int) := ⟨_, rfl⟩
  obtain ⟨z, ez⟩ : ∃ z, z = (adA g x.toNat).2 * 65536 + (adA g x.toNat).1 := ⟨_, rfl⟩
  have hz : 0 ≤ z ∧ z < 4294967296 := by
    have := adA_rg g x.toNat
    omega
  have en : ((x.toNat : Nat) : Int) = x := by omega
  refine jp_of (hd := hd) (tl := fun w => wtHi 4 z w) (by decide) hlv hx ⟨by omega, hdO⟩ (fun w hw => ?_) (hJ (hd, 0) rfl (wbR_0 (by omega) hdO) (by show hd.1 ≤ 1000; omega)) (fun A o ho o3 h => ?_) (fun A o w ho o3 hw hA h => ?_) (fun _ _ _ _ _ _ _ _ => trivial) (fun B s' Q hQ hB h hs hk => ?_)
  · have := wtHi_r z 4 w hw
    exact ⟨this.2, by show w.1 ≤ (wtHi 4 z w).1; omega, by show (wtHi 4 z w).1 ≤ w.1 + 10; omega⟩
  · obtain ⟨A', k1, k2, k3⟩ := cw_high (q := q) (v := 30720 + f) (x3 := 2) (by omega) ho 2 A w00 (by decide) (by decide) h.1
    have e : wtHi 2 (30720 + f) w00 = hd := by
      rw [ehd]
      exact wtPut_c (rim_a f0).2 (wtPut_c (rim_a f0).1 rfl)
    rw [e] at k2
    refine ⟨A', k1, k2, vc_Blocks_headOut _ _ _ _ ho ⟨fun c => absurd (by decide) c, fun _ => ⟨A', ?_, rfl, rfl⟩⟩⟩
    rw [rr.2.2.2]
    exact vc_Row_addHigh _ _ _ _ ho k3
  · have ka := sp_cad (q := q) (S := A) (c := 2) (n1 := 6000) (n := x.toNat) (fr := 0) (g := g) rfl (by decide) (by decide) (by omega) (fun k hk => by
      rw [eg, show (0 : Int) + (k : Int) = k by omega]
      exact hA.2 k (by omega) (by omega))
    rw [← ez, en, show (0 : Int) + x = x by omega] at ka
    obtain ⟨A', k1, k2, k3⟩ := cw_hi4 (q := q) (z := z) (x3 := 4) hz ho 4 A w (by decide) hw h
    refine ⟨A', k1, k2, vc_Blocks_tailOut _ _ _ tr_row _ _ ho ⟨fun c => absurd (by decide) c, fun _ => ⟨z, A, ?_, A', vc_Row_addHigh _ _ _ _ ho k3, rfl, rfl⟩⟩⟩
    rw [hA.1]
    exact ka
  · obtain ⟨Ba, a1, a2, a3⟩ := mw_put (q := q) 120 (by decide) h.1
    obtain ⟨Bb, b1, b2, b3⟩ := mw_put (q := q) f (by decide) a3
    rw [← ehd] at b3
    have xb : EX XW B Bb := a2.trans b2
    have hbb : MBt Bb 0 (hd, 0) := ⟨b3, by rw [xb.2 367 10 (by unfold XW; omega)]; exact h.2.1, by rw [xb.2 367 11 (by unfold XW; omega)]; exact h.2.2⟩
    obtain ⟨B1, ⟨k1, k2⟩, k3, k4⟩ := hk Bb xb hbb
    have hB1 : TXm B1 x t := TXm_e (TXm_x hB xb) (fun a k y => k1.2 a k (by unfold XPb; omega))
    have ka := sp_mad (q := q) (S := B1) (c := 368) (n1 := 6000) (n := x.toNat) (fr := 0) (g := g) rfl (by decide) (by decide) (by omega) (fun k hk => by
      rw [eg, show (0 : Int) + (k : Int) = k by omega]
      have := hB1.2 k (by omega) (by omega)
      exact ⟨this.1, oct_eq this.1 this.2⟩)
    rw [← ez, en] at ka
    obtain ⟨B', l1, l2, l3⟩ := mw_high (q := q) (v := z) (x3 := 4) (by omega) 4 B1 s'.1 (by decide) (by omega) k3.1
    refine ⟨B1, B', k2, ⟨by rw [k1.1, xb.1], fun a k y => by rw [k1.2 a k y, xb.2 a k (by unfold XPb at y; unfold XW; omega)]⟩, l1, l2, vc_MD_packAs _ _ ⟨fun c => absurd c (by decide), fun c => absurd c (by decide), fun c => absurd c (by decide), fun _ => ⟨B', ?_, rfl, rfl⟩, fun c => absurd c (by decide), fun c => absurd c (by decide), fun c => absurd c (by decide), fun c => absurd c (by decide), fun c => absurd c (by decide), fun _ _ _ c => absurd (by decide) c⟩⟩
    have k14 : ∀ (v : Nat) (x2 : Int), x2 + v = f → f < x2 + 31 → 0 ≤ x2 → EV q 308 14 [some (.ref 367), some (vI lv), some (vI x2)] [] B none B' := by
      intro v
      induction v with
      | zero =>
        intro x2 h1 h2 h3
        have e : x2 = f := by omega
        subst e
        refine vc_MD_packRim_14 _ _ ?_
        rw [w32_of (x := 30720 + x2) (by omega), show w32 31 = 31 by decide, Int.tmod_eq_emod_of_nonneg (by omega), rr.2.1]
        refine cY (by decide) ⟨Ba, a1, Bb, b1, B1, k4, z, B1, ?_, B', vc_MD_highFirst _ _ l3, rfl, rfl⟩
        rw [hB1.1]
        exact ka
      | succ v ih =>
        intro x2 h1 h2 h3
        refine vc_MD_packRim_14 _ _ ?_
        rw [w32_of (x := 30720 + x2) (by omega), show w32 31 = 31 by decide, Int.tmod_eq_emod_of_nonneg (by omega), w32_of (x := (30720 + x2) % 31) (by omega)]
        exact cNo (by have := rr.2.1; omega) (ih (x2 + 1) (by omega) (by omega) (by omega))
    refine vc_MD_packRim _ ?_
    rw [w32_of (x := lv) (by omega)]
    have k10 := k14 (f - min lv 3 * 64).toNat (min lv 3 * 64) (by omega) (by omega) (by omega)
    by_cases c : lv ≤ 3
    · rw [show min lv 3 = lv by omega] at k10
      exact cY c (vc_MD_packRim_10 _ _ k10)
    · rw [show min lv 3 = 3 by omega] at k10
      exact cNo c (vc_MD_packRim_10 _ _ k10)
theorem hd5_e : wtPut 255 (wtPut 0 (wtPuts (loF 0) 4 (wtPut 0 (wtPut 8 (wtPut 139 (wtPut 31 w00)))))) = wtHi 6 255 (wtHi 4 529205248 w00) := wtPut_c (by decide) (wtPut_c (by decide) (wtPut_c (by decide) (wtPut_c (by decide) (wtPut_c (by decide) (wtPut_c (by decide) (wtPut_c (by decide) (wtPut_c (by decide) (wtPut_c (by decide) (wtPut_c (by decide) rfl)))))))))
theorem jp_5 {lv : Int} (hlv : 0 ≤ lv ∧ lv ≤ 4) (hx : 0 ≤ x ∧ x ≤ 6000) (ht : ∀ k : Int, 0 ≤ k → k < x → 0 ≤ t k ∧ t k < 256) (hJ : ∀ s0 : Wb, s0.2 = 0 → wbR 0 s0 → s0.1.1 ≤ 1000 → JB q lv x t s0) : JPw q BlC 5 lv x t := by
  obtain ⟨hd, ehd⟩ : ∃ hd, hd = wtHi 6 255 (wtHi 4 529205248 w00) := ⟨_, rfl⟩
  have r4 := wtHi_r 529205248 4 w00 w00_O
  have r6 := wtHi_r 255 6 (wtHi 4 529205248 w00) r4.2
  rw [← ehd] at r6
  have hd1 : hd.1 = 10 := by rw [r6.1, r4.1]; rfl
  obtain ⟨g, eg⟩ : ∃ g : Nat → Int, g = fun k : Nat => t (k : Int) := ⟨_, rfl⟩
  obtain ⟨z, ez⟩ : ∃ z : Int, z = -(crR g x.toNat : Nat) - 1 := ⟨_, rfl⟩
  have en : ((x.toNat : Nat) : Int) = x := by omega
  have wx : w32 x = x := w32_of (by omega)
  obtain ⟨y, ey⟩ : ∃ y, y = w32 z := ⟨_, rfl⟩
  refine jp_of (hd := hd) (tl := fun w => wtPuts (loF x) 4 (wtPuts (loF y) 4 w)) (by decide) hlv hx ⟨by omega, r6.2⟩ (fun w hw => ?_) (hJ (hd, 0) rfl (wbR_0 (by omega) r6.2) (by show hd.1 ≤ 1000; omega)) (fun A o ho o3 h => ?_) (fun A o w ho o3 hw hA h => ?_) (fun _ _ _ _ _ _ _ _ => trivial) (fun B s' Q hQ hB h hs hk => ?_)
  · refine ⟨wtO_puts _ (wtO_puts _ hw _) _, ?_, ?_⟩
    · show w.1 ≤ (wtPuts (loF x) 4 (wtPuts (loF y) 4 w)).1
      rw [wtPuts_1, wtPuts_1]
      omega
    · show (wtPuts (loF x) 4 (wtPuts (loF y) 4 w)).1 ≤ w.1 + 10
      rw [wtPuts_1, wtPuts_1]
      omega
  · obtain ⟨A1, k1, k2, k3⟩ := cw_high (q := q) (v := 529205248) (x3 := 4) (by decide) ho 4 A w00 (by decide) (by decide) h.1
    obtain ⟨A', j1, j2, j3⟩ := cw_high (q := q) (v := 255) (x3 := 6) (by decide) ho 6 A1 _ (by decide) (by rw [r4.1]; decide) k2
    rw [← ehd] at j2
    exact ⟨A', k1.trans j1, j2, vc_Blocks_headOut _ _ _ _ ho ⟨fun _ => ⟨fun c => absurd (by decide) c, fun _ => ⟨A1, vc_Row_addHigh _ _ _ _ ho k3, A', vc_Row_addHigh _ _ _ _ ho j3, rfl, rfl⟩⟩, fun c => absurd (by decide) c⟩⟩
  · have ka := sp_crd (q := q) (S := A) (c := 2) (n1 := 6000) (n := x.toNat) (fr := 0) (g := g) rfl (by decide) (by decide) (by omega) (fun k hk => by
      rw [eg, show (0 : Int) + (k : Int) = k by omega]
      exact hA.2 k (by omega) (by omega))
    rw [← ez, en, show (0 : Int) + x = x by omega] at ka
    clear ez
    obtain ⟨A1, k1, k2, k3⟩ := cw_low (q := q) y (n := 4) (by decide) ho (by decide) hw h
    obtain ⟨A', j1, j2, j3⟩ := cw_low (q := q) x (n := 4) (by decide) ho (by decide) (by rw [wtPuts_1]; omega) k3
    refine ⟨A', k2.trans j2, j3, vc_Blocks_tailOut _ _ _ tr_row _ _ ho ⟨fun _ => ⟨fun c => absurd (by decide) c, fun _ => ⟨z, A, by rw [hA.1]; exact ka, A1, by rw [← ey]; exact k1, A', ?_, rfl, rfl⟩⟩, fun c => absurd (by decide) c⟩⟩
    rw [(TXc_x (by omega) hA k2).1, wx]
    exact j1
  · obtain ⟨Ba, a1, a2, a3⟩ := mw_put (q := q) 31 (by decide) h.1
    obtain ⟨Bb, b1, b2, b3⟩ := mw_put (q := q) 139 (by decide) a3
    obtain ⟨Bc, c1, c2, c3⟩ := mw_put (q := q) 8 (by decide) b3
    obtain ⟨Bd, d1, d2, d3⟩ := mw_put (q := q) 0 (by decide) c3
    obtain ⟨Be, e1, e2, e3⟩ := mw_low (q := q) 0 (n := 4) (by decide) (by decide) d3
    obtain ⟨Bf, f1, f2, f3⟩ := mw_put (q := q) 0 (by decide) e3
    obtain ⟨Bg, g1, g2, g3⟩ := mw_put (q := q) 255 (by decide) f3
    rw [hd5_e, ← ehd] at g3
    have xb : EX XW B Bg := (((((a2.trans b2).trans c2).trans d2).trans e2).trans f2).trans g2
    have hbb : MBt Bg 0 (hd, 0) := ⟨g3, by rw [xb.2 367 10 (by unfold XW; omega)]; exact h.2.1, by rw [xb.2 367 11 (by unfold XW; omega)]; exact h.2.2⟩
    obtain ⟨B1, ⟨k1, k2⟩, k3, k4⟩ := hk Bg xb hbb
    have hB1 : TXm B1 x t := TXm_e (TXm_x hB xb) (fun a k y => k1.2 a k (by unfold XPb; omega))
    have ka := sp_mrd (q := q) (S := B1) (c := 368) (n1 := 6000) (n := x.toNat) (fr := 0) (g := g) rfl (by decide) (by decide) (by omega) (fun k hk => by
      rw [eg, show (0 : Int) + (k : Int) = k by omega]
      have := hB1.2 k (by omega) (by omega)
      exact ⟨this.1, oct_eq this.1 this.2⟩) (fun t' ht' => by
      rw [k1.2 372 t' (by unfold XPb; omega), xb.2 372 t' (by unfold XW; omega)]
      exact hQ.1 t' ht')
    rw [← ez, en] at ka
    clear ez
    obtain ⟨B2, l1, l2, l3⟩ := mw_low (q := q) y (n := 4) (by decide) (by have := hs.1; have := hs.2; show 0 ≤ s'.1.1 ∧ s'.1.1 < _; omega) k3.1
    obtain ⟨B', m1, m2, m3⟩ := mw_low (q := q) x (n := 4) (by decide) (by rw [wtPuts_1]; have := hs.1; have := hs.2; show 0 ≤ s'.1.1 + _ ∧ s'.1.1 + _ < _; omega) l3
    refine ⟨B1, B', k2, ⟨by rw [k1.1, xb.1], fun a k y => by rw [k1.2 a k y, xb.2 a k (by unfold XPb at y; unfold XW; omega)]⟩, l2.trans m2, m3, vc_MD_packAs _ _ ⟨fun c => absurd c (by decide), fun c => absurd c (by decide), fun c => absurd c (by decide), fun c => absurd c (by decide), fun _ => ⟨B', vc_MD_packMember _ ⟨Ba, a1, Bb, b1, Bc, c1, Bd, d1, Be, e1, Bf, f1, Bg, g1, B1, k4, z, B1, by rw [hB1.1]; exact ka, B2, by rw [← ey]; exact l1, B', ?_, rfl, rfl⟩, rfl, rfl⟩, fun c => absurd c (by decide), fun c => absurd c (by decide), fun c => absurd c (by decide), fun c => absurd c (by decide), fun _ _ _ _ c => absurd (by decide) c⟩⟩
    rw [(TXm_x hB1 l2).1, wx]
    exact m1
end PKinds2
