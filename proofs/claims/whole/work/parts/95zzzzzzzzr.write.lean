/-! write: BENCH whole; a kind on both sides -/
section WrJ
variable {q : Nat × (Nat → Int32)} {n : Nat} {E : Nat → En} {w : Wt}
theorem mk_8 : ∀ k : Fin 8, (0 ≤ sS 8 (k.val : Int) ∧ sS 8 (k.val : Int) < 256) ∧ sS 10 (k.val : Int) = sS 8 (k.val : Int) := by decide +kernel
theorem cl_bnH {A : ms} {o : Nat} (ho : isRow o 12000) (h : CWt A o 12000 w00) : ∃ A', EX (XRo o) A A' ∧ CWt A' o 12000 (wtPuts (fun k => sS 8 k) 8 w00) ∧ EV q 38 0 [some (.ref o), some (.ref (en_b + 8)), some (vI 0), some (vI 8), none] [] A none A' := by
  obtain ⟨h1, h2, -⟩ := h.1 (by show (0 : Int) ≤ ((12000 : Nat) : Int); decide)
  have h1' : A.1 o 1 = 0 := h1
  obtain ⟨A', eA⟩ : ∃ A', A' = wI (wC A (o + 1) 0 8 (fun k => sS 8 (0 + k))) o 1 8 := ⟨_, rfl⟩
  have at1 : ∀ (a : Nat) (k : Int), A'.1 a k = if a = o ∧ k = 1 then 8 else if a = o + 1 ∧ 0 ≤ k ∧ k < 0 + 8 then sS 8 (0 + (k - 0)) else A.1 a k := fun a k => by rw [eA]; rfl
  refine ⟨A', ⟨by rw [eA]; rfl, fun a k y => ?_⟩, ⟨fun _ => ⟨?_, ?_, fun k k0 k1 => ?_⟩, fun y => absurd y ?_⟩, ?_⟩
  · unfold XRo at y
    rw [at1, if_neg (by omega), if_neg (by omega)]
  · rw [at1, if_pos ⟨rfl, rfl⟩]
    exact (wtPuts_1 _ w00 8).symm
  · rw [at1, if_neg (by omega), if_neg (by omega)]
    exact h2
  · have k1' : k < 8 := by
      have := wtPuts_1 (fun k : Nat => sS 8 k) w00 8
      have e0 : w00.1 = 0 := rfl
      omega
    rw [at1, if_neg (by omega), if_pos ⟨rfl, k0, by omega⟩, wtPuts_2, if_pos ⟨k0, by show k < 0 + ((8 : Nat) : Int); omega⟩]
    have r := mk_8 ⟨k.toNat, by omega⟩
    have ek : ((k.toNat : Nat) : Int) = k := by omega
    have r' : 0 ≤ sS 8 k ∧ sS 8 k < 256 := by
      have := r.1
      show 0 ≤ sS 8 k ∧ sS 8 k < 256
      rw [← ek]
      exact this
    have e0 : w00.1 = 0 := rfl
    rw [show (k - w00.1).toNat = k.toNat by omega, ek, show 0 + (k - 0) = k by omega]
    omega
  · rw [wtPuts_1]
    show ¬ ((12000 : Nat) : Int) < 0 + ((8 : Nat) : Int)
    decide
  · refine vc_Row_addSpan_s8 _ _ _ _ ho ?_
    rw [h1']
    refine cNo (by decide) (cY (by decide) (cY (by decide) ⟨by decide, fun S2 f2 S3 f3 => ⟨rfl, ?_⟩⟩))
    rw [show w32 0 = 0 by decide, show w32 (min (w32 8) (w32 8) - 0) = 8 by decide] at f2
    have e1 : S2.1 o 1 = 0 := by rw [f2, rI_C, if_neg (by omega)]; exact h1'
    rw [e1, show (0 : Int) + (min (w32 8) (w32 8) - 0) = 8 by decide, f2, ← eA] at f3
    exact f3.symm
theorem md_bnH : ∀ (r i : Nat) (B : ms), i + r = 8 → MWt B (wtPuts (fun k => sS 8 k) i w00) → ∃ B', EX XW B B' ∧ MWt B' (wtPuts (fun k => sS 8 k) 8 w00) ∧ ∀ (R : Option Value) (S' : ms), EV q 388 25 [some (.ref 367), some (vI 0), none] [] B' R S' → EV q 388 2 [some (.ref 367), some (vI i), none] [] B R S' := by
  intro r
  induction r with
  | zero =>
    intro i B hi h
    have e : i = 8 := by omega
    subst e
    exact ⟨B, EX.refl _ B, h, fun R S' k => vc_MD_writeBench_2 _ (cY (by decide) k)⟩
  | succ r ih =>
    intro i B hi h
    have m := mk_8 ⟨i, by omega⟩
    have m2 : sS 10 (i : Int) = sS 8 (i : Int) := m.2
    obtain ⟨B1, k1, k2, k3⟩ := mw_put (q := q) (sS 8 i) (by rw [wtPuts_1]; show 0 ≤ 0 + (i : Int) ∧ 0 + (i : Int) < 1000000000; omega) h
    obtain ⟨B', g1, g2, g3⟩ := ih (i + 1) B1 (by omega) k3
    refine ⟨B', k2.trans g1, g2, fun R S' k => vc_MD_writeBench_2 _ ?_⟩
    have g4 := g3 R S' k
    rw [show ((i + 1 : Nat) : Int) = (i : Int) + 1 by omega] at g4
    rw [show w32 (i : Int) = i from w32_of (by omega), m2]
    exact cNo (by omega) ⟨by omega, B1, k1, g4⟩
theorem bnG_ok {M : Nat → Nat × Nat × Nat} (hE : ∀ e : Nat, e < n → EnOk (E e)) : GOk (fun e => bnG (E e) (M e).1 (M e).2.1 (M e).2.2) n := fun i w hi => by
  have a := bnG_1 (hE i hi) (M i).1 (M i).2.1 (M i).2.2 w
  have s := (hE i hi).2.1
  refine ⟨?_, fun h => wtO_puts _ (wtO_puts _ (wtO_puts _ h _) _) _⟩
  show w.1 ≤ (bnG (E i) (M i).1 (M i).2.1 (M i).2.2 w).1 ∧ (bnG (E i) (M i).1 (M i).2.1 (M i).2.2 w).1 ≤ w.1 + 20000
  omega
theorem cl_bench {sh o : Nat} {M : Nat → Nat × Nat × Nat} (hs : isSh sh) (ho : isRow o 12000) (o3 : 342 < o) (hn : n ≤ 16) (hE : ∀ e : Nat, e < n → EnOk (E e)) (h15 : ∀ e : Nat, e < n → (E e).1 ≤ 15) (hM : ∀ e : Nat, e < n → bnM (M e).1 (M e).2.1 (M e).2.2 (E e).2.2.1 (E e).2.2.2.2.1 (E e).2.2.2.1) : ∀ (d i : Nat) (A : ms) (w : Wt), i + d = n → 0 ≤ w.1 → ShC A sh n E → CWt A o 12000 w → ∃ A', EX (Xtp sh o) A A' ∧ CWt A' o 12000 (gAll (fun e => bnG (E e) (M e).1 (M e).2.1 (M e).2.2) d i w) ∧ EV q 188 14 [some (.ref sh), some (.ref o), some (vI i), none] [] A none A' := by
  have is := isSh_is hs
  have hsr : sh = 193 ∨ sh = 268 := hs
  intro d
  induction d with
  | zero =>
    intro i A w hi hw hC h
    refine ⟨A, EX.refl _ A, h, vc_Shelf_writeBench_14 _ _ is _ _ ho ?_⟩
    rw [hC.1, show i = n by omega]
    exact cY (Int.le_refl _) ⟨rfl, rfl⟩
  | succ d ih =>
    intro i A w hi hw hC h
    obtain ⟨A1, a1, a2, a3⟩ := cl_bnE (q := q) hs ho o3 hn (show i < n by omega) (hE i (by omega)) (h15 i (by omega)) (hM i (by omega)) hC hw h
    have g1 := bnG_1 (hE i (by omega)) (M i).1 (M i).2.1 (M i).2.2 w
    have s1 := (hE i (by omega)).2.1
    obtain ⟨A', b1, b2, b3⟩ := ih (i + 1) A1 (bnG (E i) (M i).1 (M i).2.1 (M i).2.2 w) (by omega) (by omega) (ShC_k hn hC (fun a k y => a1.2 a k (by unfold Xtp XRo; omega))) a2
    rw [show ((i + 1 : Nat) : Int) = (i : Int) + 1 by omega] at b3
    exact ⟨A', a1.trans b1, b2, a3 _ _ b3⟩
theorem md_bench {M : Nat → Nat × Nat × Nat} (hn : n ≤ 16) (hE : ∀ e : Nat, e < n → EnOk (E e)) (h15 : ∀ e : Nat, e < n → (E e).1 ≤ 15) (hM : ∀ e : Nat, e < n → bnM (M e).1 (M e).2.1 (M e).2.2 (E e).2.2.1 (E e).2.2.2.2.1 (E e).2.2.2.1) : ∀ (d i : Nat) (B : ms) (w : Wt), i + d = n → (0 ≤ w.1 ∧ w.1 < 100000) → ShN B n E → MWt B w → ∃ B', EX XW B B' ∧ MWt B' (gStp (fun e => bnG (E e) (M e).1 (M e).2.1 (M e).2.2) d i w) ∧ EV q 388 25 [some (.ref 367), some (vI i), none] [] B none B' := by
  intro d
  induction d with
  | zero =>
    intro i B w hi hw hC h
    refine ⟨B, EX.refl _ B, h, vc_MD_writeBench_25 _ ?_⟩
    rw [hC.1, show i = n by omega]
    exact cY (Int.le_refl _) ⟨rfl, rfl⟩
  | succ d ih =>
    intro i B w hi hw hC h
    by_cases c : 12000 < w.1
    · refine ⟨B, EX.refl _ B, by rw [gStp_s, if_pos c]; exact h, vc_MD_writeBench_25 _ ?_⟩
      rw [hC.1, show w32 (n : Int) = n from w32_of (by omega), show w32 (i : Int) = i from w32_of (by omega), h.1, w32_of (x := w.1) (by omega)]
      exact cNo (by omega) (cY c ⟨rfl, rfl⟩)
    · obtain ⟨B1, a1, a2, a3⟩ := md_bnE (q := q) hn (show i < n by omega) (hE i (by omega)) (h15 i (by omega)) (hM i (by omega)) hC ⟨hw.1, by omega⟩ h
      have g1 := bnG_1 (hE i (by omega)) (M i).1 (M i).2.1 (M i).2.2 w
      have s1 := (hE i (by omega)).2.1
      obtain ⟨B', b1, b2, b3⟩ := ih (i + 1) B1 (bnG (E i) (M i).1 (M i).2.1 (M i).2.2 w) (by omega) (by omega) (ShN_k hC (fun a k y => a1.2 a k (by unfold XW; omega))) a2
      rw [show ((i + 1 : Nat) : Int) = (i : Int) + 1 by omega] at b3
      exact ⟨B', a1.trans b1, by rw [gStp_s, if_neg c]; exact b2, a3 _ _ b3⟩
/-- a kind of shelf is written, both sides -/
def Xwc8 (sh o a : Nat) (k : Int) : Prop := XPa o a k ∨ (sh + 7 ≤ a ∧ a ≤ sh + 10)
def Xwm8 (a : Nat) (k : Int) : Prop := XPb a k ∨ (a = 367 ∧ k = 2) ∨ a = 368 ∨ (432 ≤ a ∧ a ≤ 436)
def TrB (B : ms) : Prop := (0 ≤ B.1 367 2 ∧ B.1 367 2 ≤ 6000) ∧ ∀ k : Int, 0 ≤ k → k < B.1 367 2 → b8 (B.1 368 k) = B.1 368 k
def WJ (q : Nat × (Nat → Int32)) (kd lv : Int) (n : Nat) (E : Nat → En) : Prop := ∃ wc wm : Wt, (((0 ≤ wc.1 ∧ wc.1 < 900000) ∧ wtO wc) ∧ (0 ≤ wm.1 ∧ wm.1 < 900000) ∧ (wm = wc ∨ (12000 < wm.1 ∧ 12000 < wc.1))) ∧ (∀ (A : ms) (sh o : Nat), isSh sh → isRow o 12000 → 342 < o → BlC A → ShC A sh n E → CBt A o 12000 (w00, 0) → ∃ (A' : ms) (c : Nat), EY (Xwc8 sh o) (wR A 10 2 c) A' ∧ CWt A' o 12000 wc ∧ (kd = 11 → EV q 183 0 [some (.ref sh), some (.ref o), none] [] A none A') ∧ (kd = 12 → EV q 188 0 [some (.ref sh), some (.ref o), none, none] [] A none A') ∧ (kd = 13 → EV q 190 0 [some (.ref sh), some (.ref o), some (vI lv), none, none] [] A none A')) ∧ ∀ B : ms, BOk (hp B) → RQ B → TbK B → ShN B n E → TrB B → MBt B 0 (w00, 0) → ∃ B' : ms, EY Xwm8 B B' ∧ TbK B' ∧ (B'.1 367 2 = B.1 367 2 ∧ ∀ k : Int, 0 ≤ k → k < B.1 367 2 → B'.1 368 k = B.1 368 k) ∧ MWt B' wm ∧ (kd = 11 → EV q 382 0 [some (.ref 367), none] [] B (some (vI 1)) B') ∧ (kd = 12 → EV q 388 0 [some (.ref 367), none, none] [] B none B') ∧ (kd = 13 → EV q 390 0 [some (.ref 367), some (vI lv), none, none, none] [] B none B')
theorem Xtp_w {sh o a : Nat} {k : Int} (h : Xtp sh o a k) : Xwc8 sh o a k := by
  unfold Xtp XRo at h
  unfold Xwc8 XPa XRb
  omega
theorem XW_w {a : Nat} {k : Int} (h : XW a k) : Xwm8 a k := by
  unfold XW at h
  unfold Xwm8 XPb
  omega
theorem w00_r : 0 ≤ w00.1 ∧ w00.1 < 100000 := by show (0 : Int) ≤ 0 ∧ (0 : Int) < 100000; decide
theorem TbK_k {B B' : ms} (h : TbK B) (e : ∀ (a : Nat) (k : Int), (391 ≤ a ∧ a ≤ 394) ∨ (a = 367 ∧ k = 45) → B'.1 a k = B.1 a k) : TbK B' := by
  unfold TbK TbM at h ⊢
  rw [e 392 28 (by omega), e 367 45 (by omega)]
  refine ⟨h.1, h.2.imp id (fun y => ⟨y.1, fun s h1 h2 => ?_, fun s h1 h2 => ?_⟩)⟩
  · rw [e 391 s (by omega), e 392 s (by omega)]; exact y.2.1 s h1 h2
  · rw [e 393 s (by omega), e 394 s (by omega)]; exact y.2.2 s h1 h2
theorem wj_11 (hn : n ≤ 16) (hE : ∀ e : Nat, e < n → EnOk (E e)) : WJ q 11 0 n E := by
  have ok := tpG_ok hE
  have w0 := w00_r
  have ra := gAll_r ok n 0 w00 (by omega)
  have rs := gStp_r ok n 0 w00 (by omega)
  have eq := g_eq ok n 0 w00 (by omega)
  obtain ⟨wa, ea⟩ : ∃ wa, wa = gAll (fun e => tpG (E e)) n 0 w00 := ⟨_, rfl⟩
  obtain ⟨ws, es⟩ : ∃ ws, ws = gStp (fun e => tpG (E e)) n 0 w00 := ⟨_, rfl⟩
  rw [← ea] at ra eq
  rw [← es] at rs eq
  have c1 := wtPuts_1 (fun _ => 0) wa 1024
  have c2 := wtPuts_1 (fun _ => 0) ws 1024
  refine ⟨wtPuts (fun _ => 0) 1024 wa, wtPuts (fun _ => 0) 1024 ws, ⟨⟨by omega, wtO_puts _ (ra.2 w00_O) _⟩, by omega, ?_⟩, fun A sh o hs ho o3 hI hC h => ?_, fun B hB hQ hK hC hT h => ?_⟩
  · rcases eq with y | y
    · exact Or.inl (by rw [y])
    · exact Or.inr (by omega)
  · obtain ⟨A', a1, a2, a3⟩ := cl_tape (q := q) hs ho o3 hn hE n 0 A w00 (by omega) w0.1 hC h.1
    rw [← ea] at a2
    exact ⟨A', A.2.2 10 2, by rw [wR_id]; exact (a1.mono (fun a k y => Xtp_w y)).ey, a2, fun _ => vc_Shelf_writeTape _ (isSh_is hs) _ _ ho a3, fun y => absurd y (by decide), fun y => absurd y (by decide)⟩
  · obtain ⟨B', b1, b2, b3⟩ := md_tape (q := q) hn hE n 0 B w00 (by omega) w0 (by decide) hC h.1
    rw [← es] at b2
    exact ⟨B', (b1.mono (fun a k y => XW_w y)).ey, TbK_k hK (fun a k y => b1.2 a k (by unfold XW; omega)), ⟨b1.2 _ _ (by unfold XW; omega), fun k _ _ => b1.2 _ _ (by unfold XW; omega)⟩, b2, fun _ => vc_MD_writeTape b3, fun y => absurd y (by decide), fun y => absurd y (by decide)⟩
theorem wj_12 (hn : n ≤ 16) (hE : ∀ e : Nat, e < n → EnOk (E e)) (h15 : ∀ e : Nat, e < n → (E e).1 ≤ 15) : WJ q 12 0 n E := by
  have hm : ∀ e : Nat, ∃ m : Nat × Nat × Nat, e < n → bnM m.1 m.2.1 m.2.2 (E e).2.2.1 (E e).2.2.2.2.1 (E e).2.2.2.1 := fun e => by
    by_cases c : e < n
    · obtain ⟨-, s1, -, u1, t1⟩ := hE e c
      obtain ⟨m1, m2, m3, h⟩ := bn_ex (md := (E e).2.2.1) (sz := (E e).2.2.2.2.1) (tm := (E e).2.2.2.1) ⟨u1, s1, t1⟩
      exact ⟨(m1, m2, m3), fun _ => h⟩
    · exact ⟨(0, 0, 0), fun y => absurd y c⟩
  obtain ⟨M, hM⟩ : ∃ M : Nat → Nat × Nat × Nat, ∀ e : Nat, e < n → bnM (M e).1 (M e).2.1 (M e).2.2 (E e).2.2.1 (E e).2.2.2.2.1 (E e).2.2.2.1 := ⟨fun e => Classical.choose (hm e), fun e => Classical.choose_spec (hm e)⟩
  have ok := bnG_ok (M := M) hE
  obtain ⟨wh, eh⟩ : ∃ wh, wh = wtPuts (fun k => sS 8 k) 8 w00 := ⟨_, rfl⟩
  have w8 : wh.1 = 8 := by rw [eh]; exact wtPuts_1 _ w00 8
  have wO : wtO wh := by rw [eh]; exact wtO_puts _ w00_O _
  have ra := gAll_r ok n 0 wh (by omega)
  have rs := gStp_r ok n 0 wh (by omega)
  have eq := g_eq ok n 0 wh (by omega)
  obtain ⟨wa, ea⟩ : ∃ wa, wa = gAll (fun e => bnG (E e) (M e).1 (M e).2.1 (M e).2.2) n 0 wh := ⟨_, rfl⟩
  obtain ⟨ws, es⟩ : ∃ ws, ws = gStp (fun e => bnG (E e) (M e).1 (M e).2.1 (M e).2.2) n 0 wh := ⟨_, rfl⟩
  rw [← ea] at ra eq
  rw [← es] at rs eq
  refine ⟨wa, ws, ⟨⟨by omega, ra.2 wO⟩, by omega, eq.imp id (fun y => y)⟩, fun A sh o hs ho o3 hI hC h => ?_, fun B hB hQ hK hC hT h => ?_⟩
  · have hsr : sh = 193 ∨ sh = 268 := hs
    obtain ⟨A1, p1, p2, p3⟩ := cl_bnH (q := q) ho h.1
    rw [← eh] at p2
    obtain ⟨A', a1, a2, a3⟩ := cl_bench (q := q) (M := M) hs ho o3 hn hE h15 hM n 0 A1 wh (by omega) (by omega) (ShC_k hn hC (fun a k y => p1.2 a k (by unfold XRo; omega))) p2
    rw [← ea] at a2
    have x1 : EX (Xtp sh o) A A' := (p1.mono (fun a k y => Or.inr y)).trans a1
    exact ⟨A', A.2.2 10 2, by rw [wR_id]; exact (x1.mono (fun a k y => Xtp_w y)).ey, a2, fun y => absurd y (by decide), fun _ => vc_Shelf_writeBench _ (isSh_is hs) _ _ ho ⟨A1, p3, a3⟩, fun y => absurd y (by decide)⟩
  · obtain ⟨B1, p1, p2, p3⟩ := md_bnH (q := q) 8 0 B (by decide) h.1
    rw [← eh] at p2
    obtain ⟨B', b1, b2, b3⟩ := md_bench (q := q) (M := M) hn hE h15 hM n 0 B1 wh (by omega) (by omega) (ShN_k hC (fun a k y => p1.2 a k (by unfold XW; omega))) p2
    rw [← es] at b2
    have x1 : EX XW B B' := p1.trans b1
    exact ⟨B', (x1.mono (fun a k y => XW_w y)).ey, TbK_k hK (fun a k y => x1.2 a k (by unfold XW; omega)), ⟨x1.2 _ _ (by unfold XW; omega), fun k _ _ => x1.2 _ _ (by unfold XW; omega)⟩, b2, fun y => absurd y (by decide), fun _ => vc_MD_writeBench (p3 _ _ b3), fun y => absurd y (by decide)⟩
end WrJ
