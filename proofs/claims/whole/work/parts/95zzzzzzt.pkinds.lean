/-! pack: BLOCKS, RIM and MEMBER out of a level -/
section PKinds
variable {q : Nat × (Nat → Int32)} {x : Int} {t : Int → Int} {IC : ms → Prop}
/-- a kind on both sides, rows of STREAMS alone -/
def JPw (q : Nat × (Nat → Int32)) (IC : ms → Prop) (kd lv x : Int) (t : Int → Int) : Prop := ∃ (w : Wt) (T : Int → Int × Int × Int) (K bits : Int), (((0 ≤ w.1 ∧ w.1 < 1000000) ∧ wtO w) ∧ (0 ≤ K ∧ K ≤ 6000) ∧ (¬ tkK kd lv → K = 0) ∧ (¬ (3 ≤ kd ∧ kd ≤ 5) → bits = 0)) ∧ (∀ (A : ms) (o : Nat), isRow o 12000 → 342 < o → IC A → TXc A x t → CBt A o 12000 (w00, 0) → A.1 10 8 = 0 → ∃ (A' : ms) (c : Nat) (z : Int), (w.1 ≤ 12000 → z = bits) ∧ EY (XPa o) (wR A 10 2 c) A' ∧ CWt A' o 12000 w ∧ CTk A' T K ∧ EV q 45 0 [some (.ref 0), some (vI kd), some (vI lv), some (.ref o), none] [] A (some (vI z)) A') ∧ ∀ B : ms, RQ B → TbK B → TXm B x t → MBt B 0 (w00, 0) → ∃ B' : ms, EY XPb B B' ∧ TbK B' ∧ MWt B' w ∧ (tkK kd lv → MTk B' T K) ∧ (3 ≤ kd ∧ kd ≤ 5 → B'.1 367 56 = bits) ∧ EV q 279 0 [some (.ref 367), some (vI kd), some (vI lv)] [] B none B'
theorem JP_w {kd lv : Int} (h : JP q IC kd lv x t) : JPw q IC kd lv x t := by
  obtain ⟨w, T, K, bits, h1, h2, h3⟩ := h
  exact ⟨w, T, K, bits, h1, fun A o ho o3 => h2 A o ho (by omega), h3⟩
theorem wbR_0 {w : Wt} (h0 : 0 ≤ w.1) (h : wtO w) : wbR 0 (w, 0) := ⟨⟨h0, h⟩, by show (0 : Nat) < 8; decide, fun y => absurd rfl y⟩
theorem wbB_0 (w : Wt) : wbB (w, 0) = 8 * w.1 := by
  unfold wbB
  show 8 * w.1 - (if (0 : Nat) = 0 then 0 else _) = _
  rw [if_pos rfl]
  omega
/-- the level's part of a kind -/
def tkL (kd lv : Int) : Prop := 3 ≤ kd ∧ kd ≤ 5 ∧ 0 < lv
theorem tkK_l {kd lv : Int} (hk : 3 ≤ kd ∧ kd ≤ 5) : tkK kd lv ↔ 0 < lv := by unfold tkK; omega
/-- a head hd, the blocks, a tail tl: the class's three calls and the reference's way -/
theorem jp_of {kd lv : Int} {hd : Wt} {tl : Wt → Wt} (hk : 3 ≤ kd ∧ kd ≤ 5) (hlv : 0 ≤ lv ∧ lv ≤ 4) (hx : 0 ≤ x ∧ x ≤ 6000) (hh : (0 ≤ hd.1 ∧ hd.1 ≤ 100) ∧ wtO hd) (ht : ∀ w : Wt, wtO w → wtO (tl w) ∧ w.1 ≤ (tl w).1 ∧ (tl w).1 ≤ w.1 + 10) (hJ : JB q lv x t (hd, 0)) (hc1 : ∀ (A : ms) (o : Nat), isRow o 12000 → 342 < o → CBt A o 12000 (w00, 0) → ∃ A', EX (XRo o) A A' ∧ CWt A' o 12000 hd ∧ EV q 54 0 [some (.ref 30), some (vI kd), some (vI lv), some (.ref o), none] [] A none A') (hc2 : ∀ (A : ms) (o : Nat) (w : Wt), isRow o 12000 → 342 < o → 0 ≤ w.1 → TXc A x t → CWt A o 12000 w → ∃ A', EX (XRo o) A A' ∧ CWt A' o 12000 (tl w) ∧ EV q 83 0 [some (.ref 30), some (vI kd), some (.ref 1), some (.ref o)] [] A none A') (hm : ∀ (B : ms) (s' : Wb), TbK B → RQ B → TXm B x t → MBt B 0 (w00, 0) → (0 ≤ s'.1.1 ∧ s'.1.1 < 900000) → (∀ B0 : ms, EX XW B B0 → MBt B0 0 (hd, 0) → ∃ B1, EY XPb B0 B1 ∧ MBt B1 0 (wbEnd s') ∧ EV q 289 0 [some (.ref 367), some (vI lv), none, none, none, none, none] [] B0 none B1) → True) (hm2 : ∀ (B : ms) (s' : Wb) (Q : ms → Prop), RQ B → TXm B x t → MBt B 0 (w00, 0) → (0 ≤ s'.1.1 ∧ s'.1.1 < 900000) → (∀ B0 : ms, EX XW B B0 → MBt B0 0 (hd, 0) → ∃ B1, (EY XPb B0 B1 ∧ Q B1) ∧ MBt B1 0 (wbEnd s') ∧ EV q 289 0 [some (.ref 367), some (vI lv), none, none, none, none, none] [] B0 none B1) → ∃ B1 B', Q B1 ∧ EY XPb B B1 ∧ EX XW B1 B' ∧ MWt B' (tl s'.1) ∧ EV q 279 0 [some (.ref 367), some (vI kd), some (vI lv)] [] B none B') : JPw q BlC kd lv x t := by
  obtain ⟨s', T, K, ⟨j1, j2, j3, j4⟩, jc, jm⟩ := hJ
  have t1 := ht s'.1 j1.1.2
  have s0 := j1.1.1
  refine ⟨tl s'.1, T, K, wbB s' - wbB (hd, 0), ⟨⟨by omega, t1.1⟩, j3, fun y => ?_, fun y => absurd hk y⟩, fun A o ho o3 hI hA h h8 => ?_, fun B hQ hK hB h => ?_⟩
  · rw [tkK_l hk] at y
    exact j4 (by omega)
  · obtain ⟨A1, a1, a2, a3⟩ := hc1 A o ho o3 h
    have at1 : ∀ (a : Nat) (k : Int), a < 343 → A1.1 a k = A.1 a k := fun a k y => a1.2 a k (by unfold XRo; omega)
    have hI1 : BlC A1 := BlC_e hI (fun a k y => at1 a k (by omega))
    have hA1 : TXc A1 x t := TXc_e hA (fun a k y => at1 a k (by omega))
    have h1 : CBt A1 o 12000 (hd, 0) := ⟨a2, by rw [a1.2 o 3 (by unfold XRo; omega)]; exact h.2⟩
    obtain ⟨A2, c, z, b1, b2, b3, b4, b5⟩ := jc A1 o 1 ho (Or.inl o3) hI1 (TXc_r hA1) h1 (by rw [at1 10 8 (by omega)]; exact h8)
    have hA2 : TXc A2 x t := TXc_e hA1 (fun a k y => by rw [b2.2 a k (by unfold XPa XRb; omega)]; rfl)
    obtain ⟨A3, d1, d2, d3⟩ := hc2 A2 o s'.1 ho o3 s0 hA2 b3.1
    refine ⟨A3, c, z, fun y => b1 (by omega), ⟨?_, fun a k y => ?_⟩, d2, CTk_e b4 (fun a k y => d1.2 a k (by unfold XTc at y; unfold XRo; omega)), vc_PH_packKind _ _ _ _ ho ?_⟩
    · rw [d1.1, b2.1]
      show (fun b j => if b = 10 ∧ j = 2 then c else A1.2.2 b j) = fun b j => if b = 10 ∧ j = 2 then c else A.2.2 b j
      rw [a1.1]
    · have y' := y
      unfold XPa XRb at y'
      rw [d1.2 a k (by unfold XRo; omega), b2.2 a k y]
      show A1.1 a k = A.1 a k
      exact a1.2 a k (by unfold XRo; omega)
    · have wk : w32 kd = kd := w32_of (by omega)
      rw [wk]
      refine ⟨fun c => absurd c (by omega), fun c => absurd c (by omega), fun _ => ⟨A1, a3, z, A2, b5, A3, d3, rfl, rfl⟩, fun _ => ⟨A1, a3, z, A2, b5, A3, d3, rfl, rfl⟩, fun _ => ⟨A1, a3, z, A2, b5, A3, d3, rfl, rfl⟩, fun c => absurd c (by omega), fun c => absurd c (by omega), fun c => absurd c (by omega), fun c => absurd c (by omega), fun _ _ c3 c4 c5 => ?_⟩
      exfalso
      omega
  · obtain ⟨B1, B', g1, g2, g3, g4, g5⟩ := hm2 B s' (fun B1 => TbK B1 ∧ (0 < lv → MTk B1 T K) ∧ B1.1 367 56 = wbB s' - wbB (hd, 0)) hQ hB h ⟨s0, j2.2⟩ (fun B0 e0 h0 => by
      obtain ⟨B1, i1, i2, i3, i4, i5, i6⟩ := jm B0 (TbK_ey hK e0.ey (fun a k y => by unfold XW at y; omega)) (TXm_x hB e0) h0
      exact ⟨B1, ⟨i1, i2, i4, i5⟩, i3, i6⟩)
    have e' : ∀ (a : Nat) (k : Int), ¬ XW a k → B'.1 a k = B1.1 a k := fun a k y => g3.2 a k y
    refine ⟨B', ⟨by rw [g3.1, g2.1], fun a k y => by rw [e' a k (by unfold XPb at y; unfold XW; omega), g2.2 a k y]⟩, TbK_ey g1.1 g3.ey (fun a k y => by unfold XW at y; omega), g4, fun y => MTk_w (g1.2.1 ((tkK_l hk).1 y)) g3, fun _ => by rw [e' 367 56 (by unfold XW; omega)]; exact g1.2.2, g5⟩
theorem jp_3 {lv : Int} (hlv : 0 ≤ lv ∧ lv ≤ 4) (hx : 0 ≤ x ∧ x ≤ 6000) (hJ : JB q lv x t (w00, 0)) : JPw q BlC 3 lv x t := by
  refine jp_of (hd := w00) (tl := id) (by decide) hlv hx ⟨by decide, w00_O⟩ (fun w hw => ⟨hw, by show w.1 ≤ w.1; omega, by show w.1 ≤ w.1 + 10; omega⟩) hJ (fun A o ho o3 h => ⟨A, EX.refl _ A, h.1, vc_Blocks_headOut _ _ _ _ ho ⟨fun _ => ⟨fun _ => ⟨rfl, rfl⟩, fun c => absurd (by decide) c⟩, fun c => absurd (by decide) c⟩⟩) (fun A o w ho o3 hw hA h => ⟨A, EX.refl _ A, h, vc_Blocks_tailOut _ _ _ tr_row _ _ ho ⟨fun _ => ⟨fun _ => ⟨rfl, rfl⟩, fun c => absurd (by decide) c⟩, fun c => absurd (by decide) c⟩⟩) (fun _ _ _ _ _ _ _ _ => trivial) (fun B s' Q hQ hB h hs hk => ?_)
  obtain ⟨B1, ⟨k1, k2⟩, k3, k4⟩ := hk B (EX.refl _ B) h
  exact ⟨B1, B1, k2, k1, EX.refl _ B1, k3.1, vc_MD_packAs _ _ ⟨fun c => absurd c (by decide), fun c => absurd c (by decide), fun _ => ⟨B1, k4, rfl, rfl⟩, fun c => absurd c (by decide), fun c => absurd c (by decide), fun c => absurd c (by decide), fun c => absurd c (by decide), fun c => absurd c (by decide), fun c => absurd c (by decide), fun _ _ c => absurd (by decide) c⟩⟩
end PKinds
