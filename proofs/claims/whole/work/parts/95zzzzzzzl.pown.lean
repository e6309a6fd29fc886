/-! pack: own blocks; the codes of a block on both sides -/
section POwC
variable {q : Nat × (Nat → Int32)} {x : Int} {t : Int → Int} {T : Int → Int × Int × Int} {K fr to h d td C : Nat} {l dl l3 al : Int → Int} {P : Nat → Int}
def KdC (q : Nat × (Nat → Int32)) (n lim cd a1 : Nat) (c : Nat → Int) (l : Int → Int) : Prop := ∀ A : ms, (∀ s : Nat, s < n → A.1 a1 s = c s) → ∃ A' : ms, EX (cdX cd) A A' ∧ CodW A' cd n l ∧ EV q 70 0 [some (.ref cd), some (.ref a1), some (vI n), some (vI lim), none, none, none] [] A none A'
def KdM (q : Nat × (Nat → Int32)) (n lim a1 a4 : Nat) (c : Nat → Int) (l : Int → Int) : Prop := ∀ B : ms, (∀ s : Nat, s < n → B.1 a1 s = c s) → ∃ B' : ms, EY (fun a _ => a = 377 ∨ a = a4) B B' ∧ (∀ s : Nat, s < n → B'.1 a4 s = l s) ∧ EV q 299 0 [some (.ref 367), some (.ref a1), some (vI n), some (vI lim), some (.ref a4), some (vI 0), none, none, none, none, none, none] [] B none B'
def c1F (t : Int → Int) (T : Int → Int × Int × Int) (fr v s : Nat) : Int := tyC t T fr v s + if (s : Int) = 256 then 1 else 0
def c2F (T : Int → Int × Int × Int) (fr v s : Nat) : Int := tyD T fr v s
def c3F (f : Nat → Int) (j s : Nat) : Int := stC f j s
def XOv (a : Nat) (k : Int) : Prop := (53 ≤ a ∧ a ≤ 91) ∨ (a = 30 ∧ k = 12)
theorem cl_own1 {o a1 na1 : Nat} {last : Int} (hK : K ≤ 6000 ∧ to ≤ K ∧ fr ≤ to) (hx : 0 ≤ x ∧ x ≤ 6000) (ht : ∀ k : Int, 0 ≤ k → k < x → 0 ≤ t k ∧ t k < 256) (hV : ∀ k : Nat, k < K → tkV x (T k)) (k1 : KdC q 286 15 53 86 (c1F t T fr (to - fr)) l) (k2 : KdC q 30 15 64 87 (c2F T fr (to - fr)) dl) (k3 : KdC q 19 7 75 88 (c3F (stY al ((h : Int) + d) P) C) l3) (lr : ∀ s : Nat, s < 19 → 0 ≤ l3 s ∧ l3 s ≤ 7) (eh : h = trF l 257 286) (ed : d = trF dl 1 30) (et : td = trF (orT l3) 4 19) (eal : al = alG l dl h) (hal : ∀ k : Int, 0 ≤ k → k < (h : Int) + d → 0 ≤ al k ∧ al k ≤ 15) (hP : GP ((h : Int) + d) (stL al ((h : Int) + d)) (stL al ((h : Int) + d)) P C) (hle : ∀ k : Nat, k ≤ C → (k : Int) ≤ P k ∧ P k ≤ (h : Int) + d) {A : ms} (ho : isRow o 12000) (ha : isRow a1 na1) (h92 : ∀ k : Int, 3 ≤ k → k ≤ 258 → A.1 92 k = 257 + lsF k) (hA : TXr A a1 x t) (hT : CTk A T K) : ∃ A9, EX XOv A A9 ∧ (CodW A9 53 286 l ∧ CodW A9 64 30 dl ∧ CodW A9 75 19 l3) ∧ StA A9 (stY al ((h : Int) + d) P) (stM al ((h : Int) + d) P) C ∧ ∀ (R : Option Value) (S' : ms), EV q 68 193 [some (.ref 30), some (.ref a1), some (vI fr), some (vI to), some (vI last), some (.ref o), some (vI h), some (vI d), some (vI td), none] [] A9 R S' → EV q 68 0 [some (.ref 30), some (.ref a1), some (vI fr), some (vI to), some (vI last), some (.ref o), none, none, none, none] [] A R S' := by
  have hr1 := trF_r l 257 286 (by decide)
  have dr1 := trF_r dl 1 30 (by decide)
  rw [← eh] at hr1
  rw [← ed] at dr1
  -- the tally
  obtain ⟨A0, e0⟩ : ∃ A0, A0 = wC A 86 0 (286 : Nat) (fun _ => 0) := ⟨_, rfl⟩
  obtain ⟨A1, e1⟩ : ∃ A1, A1 = wC A0 87 0 (30 : Nat) (fun _ => 0) := ⟨_, rfl⟩
  have f0 := sp_fillI (q := q) (S := A) sh_86 (by decide) 0
  have f1 := sp_fillI (q := q) (S := A0) sh_87 (by decide) 0
  rw [← e0] at f0
  rw [← e1] at f1
  have at1 : ∀ (a : Nat) (k : Int), a ≠ 86 → a ≠ 87 → A1.1 a k = A.1 a k := fun a k y z => by rw [e1, rI_C, if_neg (fun w => z w.1), e0, rI_C, if_neg (fun w => y w.1)]
  have a6 : ∀ s : Int, 0 ≤ s → s < 286 → A1.1 86 s = 0 := fun s s0 s1 => by rw [e1, rI_C, if_neg (by omega), e0, rI_C, if_pos ⟨rfl, by omega, by omega⟩]
  have a7 : ∀ s : Int, 0 ≤ s → s < 30 → A1.1 87 s = 0 := fun s s0 s1 => by rw [e1, rI_C, if_pos ⟨rfl, by omega, by omega⟩]
  have z1 : A1.2 = A.2 := by rw [e1, e0]; rfl
  obtain ⟨A2, g1, g2, g3, g4⟩ := cl_tal (q := q) (fr := fr) (to := to) (a1 := a1) ⟨hK.1, hK.2.1⟩ hx ht hV (to - fr) 0 A1 (by omega) (fun s s0 s1 => by rw [a6 s s0 s1]; rfl) (fun s s0 s1 => by rw [a7 s s0 s1]; rfl) ⟨hA.1, by rw [at1 _ _ (by have := hA.1.2; omega) (by have := hA.1.2; omega)]; exact hA.2.1, fun k k0 k1 => by rw [at1 _ _ (by have := hA.1.2; omega) (by have := hA.1.2; omega)]; exact hA.2.2 k k0 k1⟩ (CTk_e hT (fun a k y => by unfold XTc at y; exact at1 a k (by omega) (by omega))) (fun k k0 k1 => by rw [at1 _ _ (by decide) (by decide)]; exact h92 k k0 k1)
  have x2 : EX XOv A A2 := EX.trans (T := A1) ⟨z1, fun a k y => at1 a k (fun z => y (by unfold XOv; omega)) (fun z => y (by unfold XOv; omega))⟩ (g1.mono (fun a k y => by unfold XOv; omega))
  rw [show fr + 0 = fr by omega] at g4
  have kt : EV q 69 0 [some (.ref 30), some (.ref a1), some (vI fr), some (vI to), none] [] A none A2 := vc_Blocks_tallyTokens _ _ _ _ ha ⟨A0, f0, A1, f1, g4⟩
  -- first and other
  obtain ⟨A3, b1, b2, b3⟩ := k1 A2 (fun s hs => g2 s (by omega) (by omega))
  obtain ⟨A4, d1, d2, d3⟩ := k2 A3 (fun s hs => by rw [b1.2 _ _ (by unfold cdX; omega)]; exact g3 s (by omega) (by omega))
  have c53 : CodW A4 53 286 l := CodW_k b2 (fun a k y0 y1 => d1.2 a k (by unfold cdX; omega))
  have x4 : EX XOv A A4 := (x2.trans (b1.mono (fun a k y => by unfold cdX at y; unfold XOv; omega))).trans (d1.mono (fun a k y => by unfold cdX at y; unfold XOv; omega))
  have t1 := cl_trf (q := q) (A := A4) (x1 := 286) (least := 257) is_53 (by decide) 286 (by decide) c53.2.2.1
  have t2 := cl_trf (q := q) (A := A4) (x1 := 30) (least := 1) is_64 (by decide) 30 (by decide) d2.2.2.1
  rw [← eh] at t1
  rw [← ed] at t2
  -- all lengths
  obtain ⟨A5, m1, m2, m3⟩ := cl_al1 (q := q) (l := l) (dl := dl) (x2 := fr) (x3 := to) (x4 := last) (x7 := d) (h := h) ha ho hr1.2 h 0 A4 (by omega) (fun s hs => (c53.2.2.1 s hs).2) (fun k k0 k1 => absurd k1 (by omega))
  obtain ⟨A6, n1, n2, n3⟩ := cl_al2 (q := q) (l := l) (dl := dl) (x2 := fr) (x3 := to) (x4 := last) (h := h) (d := d) ha ho ⟨hr1.2, dr1.2⟩ d 0 A5 (by omega) (fun s hs => by rw [m1.2 _ _ (by omega)]; exact (d2.2.2.1 s hs).2) (fun k k0 k1 => m2 k k0 (by omega))
  have x6 : EX XOv A A6 := (x4.trans (m1.mono (fun a k y => by unfold XOv; omega))).trans (n1.mono (fun a k y => by unfold XOv; omega))
  -- the steps
  obtain ⟨A7, p1, p2, p3⟩ := cl_mks (q := q) (m := (h : Int) + d) (by omega) hal hP hle (A := A6) (fun k k0 k1 => by rw [eal]; exact n2 k k0 k1)
  obtain ⟨A8, r1, r2, r3⟩ := k3 A7 (fun s hs => p2.2.2 s (by omega) (by omega))
  have at8 : ∀ (a : Nat) (k : Int), 53 ≤ a → a ≤ 74 → A8.1 a k = A4.1 a k := fun a k y0 y1 => by rw [r1.2 _ _ (by unfold cdX; omega), p1.2 _ _ (by unfold XSt; omega), n1.2 _ _ (by omega), m1.2 _ _ (by omega)]
  have x8 : EX XOv A A8 := (x6.trans (p1.mono (fun a k y => by unfold XSt at y; unfold XOv; omega))).trans (r1.mono (fun a k y => by unfold cdX at y; unfold XOv; omega))
  refine ⟨A8, x8, ⟨CodW_k c53 (fun a k y0 y1 => at8 a k y0 (by omega)), CodW_k d2 (fun a k y0 y1 => at8 a k (by omega) y1), r2⟩, ⟨by rw [r1.2 _ _ (by unfold cdX; omega)]; exact p2.1, fun i hi => by rw [r1.2 _ _ (by unfold cdX; omega), r1.2 _ _ (by unfold cdX; omega)]; exact p2.2.1 i hi, fun s s0 s1 => by rw [r1.2 _ _ (by unfold cdX; omega)]; exact p2.2.2 s s0 s1⟩, fun R S' k => ?_⟩
  rw [et] at k
  have k162 := cl_trt (q := q) (x2 := fr) (x3 := to) (x4 := last) (x6 := h) (x7 := d) ha ho lr (fun i hi => (r2.2.2.1 i hi).2) 19 (by decide) k
  have k101 : EV q 68 101 [some (.ref 30), some (.ref a1), some (vI fr), some (vI to), some (vI last), some (.ref o), some (vI h), some (vI d), some (vI d), none] [] A6 R S' := vc_Blocks_ownBlock_101 _ _ _ _ _ _ _ _ ha _ _ ho (cY (Int.le_refl _) ⟨A7, p3, A8, r3, k162⟩)
  exact vc_Blocks_ownBlock _ _ _ _ _ ha _ _ ho ⟨A2, kt, A3, b3, A4, d3, h, A4, vc_Blocks_toldLengths _ _ _ is_53 t1, d, A4, vc_Blocks_toldLengths _ _ _ is_64 t2, m3 R S' (n3 R S' k101)⟩
def XOx (a : Nat) (k : Int) : Prop := a = 377 ∨ (385 ≤ a ∧ a ≤ 390) ∨ (398 ≤ a ∧ a ≤ 403) ∨ (a = 367 ∧ k = 55)
theorem md_own1 (hK : K ≤ 6000 ∧ to ≤ K ∧ fr ≤ to) (hx : 0 ≤ x ∧ x ≤ 6000) (ht : ∀ k : Int, 0 ≤ k → k < x → 0 ≤ t k ∧ t k < 256) (hV : ∀ k : Nat, k < K → tkV x (T k)) (k1 : KdM q 286 15 398 385 (c1F t T fr (to - fr)) l) (k2 : KdM q 30 15 399 387 (c2F T fr (to - fr)) dl) (k3 : KdM q 19 7 400 389 (c3F (stY al ((h : Int) + d) P) C) l3) (lr1 : ∀ s : Nat, s < 286 → 0 ≤ l s ∧ l s ≤ 20) (lr2 : ∀ s : Nat, s < 30 → 0 ≤ dl s ∧ dl s ≤ 20) (lr : ∀ s : Nat, s < 19 → 0 ≤ l3 s ∧ l3 s ≤ 7) (eh : h = trF l 257 286) (ed : d = trF dl 1 30) (et : td = trF (orT l3) 4 19) (eal : al = alG l dl h) (hal : ∀ k : Int, 0 ≤ k → k < (h : Int) + d → 0 ≤ al k ∧ al k ≤ 15) (hP : GP ((h : Int) + d) (stL al ((h : Int) + d)) (stL al ((h : Int) + d)) P C) (hle : ∀ k : Nat, k ≤ C → (k : Int) ≤ P k ∧ P k ≤ (h : Int) + d) {B : ms} (hB : TXm B x t) (hT : MTk B T K) (hM : TbM B) : ∃ (B9 : ms) (x3 x4 x7 : Int), EY XOx B B9 ∧ (CodN B9 385 386 286 l ∧ CodN B9 387 388 30 dl ∧ CodN B9 389 390 19 l3) ∧ StB B9 (stY al ((h : Int) + d) P) (stM al ((h : Int) + d) P) C ∧ ∀ (R : Option Value) (S' : ms), EV q 296 398 [some (.ref 367), some (vI fr), some (vI to), some (vI x3), some (vI x4), some (vI h), some (vI d), some (vI x7), some (vI td), none, none] [] B9 R S' → EV q 296 0 [some (.ref 367), some (vI fr), some (vI to), none, none, none, none, none, none, none, none] [] B R S' := by
  have hr1 := trF_r l 257 286 (by decide)
  have dr1 := trF_r dl 1 30 (by decide)
  rw [← eh] at hr1
  rw [← ed] at dr1
  obtain ⟨B1, b1, b2, b3⟩ := md_tl0 (q := q) (x1 := fr) (x2 := to) 288 0 B (by omega) (fun k k0 k1 => absurd k1 (by omega))
  obtain ⟨B2, c1, c2, c3⟩ := md_tl1 (q := q) (x1 := fr) (x2 := to) 32 0 B1 (by omega) (fun k k0 k1 => absurd k1 (by omega))
  have at2 : ∀ (a : Nat) (k : Int), a ≠ 398 → a ≠ 399 → B2.1 a k = B.1 a k := fun a k y z => by rw [c1.2 a k z, b1.2 a k y]
  obtain ⟨B3, d1, d2, d3, d4⟩ := md_tal (q := q) (fr := fr) (to := to) ⟨hK.1, hK.2.1⟩ hx ht hV (to - fr) 0 B2 (by omega) (fun s s0 s1 => by
    rw [c1.2 398 s (by omega), b2 s s0 s1]
    show _ = 0 + _
    omega) (fun s s0 s1 => by rw [c2 s s0 s1]; rfl) (TXm_e hB (fun a k z => at2 a k (by omega) (by omega))) (MTk_e hT (fun a k z => at2 a k (by unfold XTm at z; omega) (by unfold XTm at z; omega))) ⟨fun s h0 h1 => by rw [at2 391 s (by decide) (by decide), at2 392 s (by decide) (by decide)]; exact hM.1 s h0 h1, fun s h0 h1 => by rw [at2 393 s (by decide) (by decide), at2 394 s (by decide) (by decide)]; exact hM.2 s h0 h1⟩
  rw [show fr + 0 = fr by omega] at d4
  have x3 : EY XOx B B3 := (((b1.mono (Y := XOx) (fun a k y => by unfold XOx; omega)).trans (c1.mono (fun a k y => by unfold XOx; omega))).trans (d1.mono (fun a k y => by unfold XOx; omega))).ey
  obtain ⟨B4, e1, e2, e3⟩ := k1 B3 (fun s hs => d2 s (by omega) (by omega))
  obtain ⟨B5, f1, f2, f3⟩ := k2 B4 (fun s hs => by rw [e1.2 399 s (by omega)]; exact d3 s (by omega) (by omega))
  have x5 : EY XOx B B5 := (x3.trans (e1.mono (fun a k y => by unfold XOx; omega))).trans (f1.mono (fun a k y => by unfold XOx; omega))
  have l5 : ∀ s : Nat, s < 286 → B5.1 385 s = l s := fun s hs => by rw [f1.2 385 s (by omega)]; exact e2 s hs
  obtain ⟨B6, g1, g2, g3, g4, g5⟩ := md_codes (q := q) (B := B5) (fr := 0) (n := 286) (l := l) sh_385 sh_386 (by decide) (by decide) (by decide) (by decide) (by decide) (fun s hs => ⟨lr1 s hs, by rw [show (0 : Int) + s = s by omega]; exact l5 s hs⟩)
  obtain ⟨B7, i1, i2, i3, i4, i5⟩ := md_codes (q := q) (B := B6) (fr := 0) (n := 30) (l := dl) sh_387 sh_388 (by decide) (by decide) (by decide) (by decide) (by decide) (fun s hs => ⟨lr2 s hs, by rw [show (0 : Int) + s = s by omega, g3 387 s (by decide)]; exact f2 s hs⟩)
  have x7 : EY XOx B B7 := x5.trans ⟨by rw [i2, g2], fun a k y => by unfold XOx at y; rw [i3 a k (by omega), g3 a k (by omega)]⟩
  have n7 : CodN B7 385 386 286 l := ⟨fun s hs => ⟨lr1 s hs, by rw [i3 385 s (by decide), g3 385 s (by decide)]; exact l5 s hs⟩, fun s hs y => by
    rw [i3 386 s (by decide)]
    have := g5 s hs y
    rw [show (0 : Int) + s = s by omega] at this
    exact this⟩
  have n8 : CodN B7 387 388 30 dl := ⟨fun s hs => ⟨lr2 s hs, by rw [i3 387 s (by decide), g3 387 s (by decide)]; exact f2 s hs⟩, fun s hs y => by
    have := i5 s hs y
    rw [show (0 : Int) + s = s by omega] at this
    exact this⟩
  obtain ⟨B8, j1, j2, j3⟩ := md_al1 (q := q) (l := l) (dl := dl) (x1 := fr) (x2 := to) (x3 := cdF l 286 20) (x4 := cdF dl 30 20) (h := h) (d := d) ⟨hr1.2, dr1.2⟩ (h + d) 0 B7 (by omega) (fun s hs => (n7.1 s hs).2) (fun s hs => (n8.1 s hs).2) (fun k k0 k1 => absurd k1 (by omega))
  obtain ⟨B9, p1, p2, p3⟩ := md_mks (q := q) (m := (h : Int) + d) (by omega) hal hP hle (B := B8) (fun k k0 k1 => by rw [eal]; exact j2 k k0 k1)
  obtain ⟨B10, r1, r2, r3⟩ := k3 B9 (fun s hs => p2.2.2 s (by omega) (by omega))
  obtain ⟨B11, s1, s2, s3, s4, s5⟩ := md_codes (q := q) (B := B10) (fr := 0) (n := 19) (l := l3) sh_389 sh_390 (by decide) (by decide) (by decide) (by decide) (by decide) (fun s hs => ⟨by have := lr s hs; omega, by rw [show (0 : Int) + s = s by omega]; exact r2 s hs⟩)
  have at11 : ∀ (a : Nat) (k : Int), 385 ≤ a → a ≤ 388 → B11.1 a k = B7.1 a k := fun a k y0 y1 => by rw [s3 a k (by omega), r1.2 a k (by omega), p1.2 a k (by unfold XSu; omega), j1.2 a k (by omega)]
  have st11 : ∀ (a : Nat) (k : Int), XSu a k → B11.1 a k = B9.1 a k := fun a k y => by unfold XSu at y; rw [s3 a k (by omega), r1.2 a k (by omega)]
  have x11 : EY XOx B B11 := x7.trans ⟨by rw [s2, r1.1, p1.1, j1.1], fun a k y => by unfold XOx at y; rw [s3 a k (by omega), r1.2 a k (by omega), p1.2 a k (by unfold XSu; omega), j1.2 a k (by omega)]⟩
  refine ⟨B11, cdF l 286 20, cdF dl 30 20, cdF l3 19 20, x11, ⟨CodN_k n7 (fun a k y => at11 a k (by omega) (by omega)), CodN_k n8 (fun a k y => at11 a k (by omega) (by omega)), ⟨fun s hs => ⟨by have := lr s hs; omega, by rw [s3 389 s (by decide)]; exact r2 s hs⟩, fun s hs y => by
    have := s5 s hs y
    rw [show (0 : Int) + s = s by omega] at this
    exact this⟩⟩, ⟨by rw [st11 367 55 (by unfold XSu; omega)]; exact p2.1, fun i hi => by rw [st11 402 i (by unfold XSu; omega), st11 403 i (by unfold XSu; omega)]; exact p2.2.1 i hi, fun s s0 s1 => by rw [st11 400 s (by unfold XSu; omega)]; exact p2.2.2 s s0 s1⟩, fun R S' k => ?_⟩
  rw [et] at k
  have k370 := md_trt (q := q) (x1 := fr) (x2 := to) (x3 := cdF l 286 20) (x4 := cdF dl 30 20) (x5 := h) (x6 := d) (x7 := cdF l3 19 20) lr (fun i hi => by rw [s3 389 i (by decide)]; exact r2 i hi) 19 (by decide) k
  have k274 := j3 R S' (vc_MD_writeOwn_274 _ _ _ _ _ _ _ (cY (Int.le_refl _) ⟨B9, p3, B10, r3, _, B11, s1, k370⟩))
  have k271 := vc_MD_writeOwn_271 _ _ _ _ _ _ k274
  have k243 : EV q 296 243 [some (.ref 367), some (vI fr), some (vI to), some (vI (cdF l 286 20)), some (vI (cdF dl 30 20)), some (vI h), none, none, none, none, none] [] B7 R S' := by
    refine vc_MD_writeOwn_243 _ _ _ _ _ ?_
    rw [ed] at k271
    exact md_trd (q := q) 30 (by decide) (fun s hs => n8.1 s hs) k271
  have k217 : EV q 296 217 [some (.ref 367), some (vI fr), some (vI to), some (vI (cdF l 286 20)), some (vI (cdF dl 30 20)), some (vI 286), none, none, none, none, none] [] B7 R S' := by
    rw [eh] at k243
    exact md_trl (q := q) 286 (by decide) (fun s hs => n7.1 s hs) k243
  exact vc_MD_writeOwn _ _ (b3 R S' (c3 R S' (d4 R S' (vc_MD_writeOwn_56 _ _ _ (cY (Int.le_refl _) ⟨B4, e3, B5, f3, _, B6, g1, _, B7, i1, k217⟩)))))
end POwC
