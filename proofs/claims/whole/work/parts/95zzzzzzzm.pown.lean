/-! pack: own blocks; a block is written -/
section POwW
variable {q : Nat × (Nat → Int32)} {x : Int} {t : Int → Int} {T : Int → Int × Int × Int} {K fr to : Nat}
def owS (last : Int) (s : Wb) : Wb := wbLow 2 2 (wbLow 1 last s)
def owH (l3 : Int → Int) (h d td : Nat) (s : Wb) : Wb := orB l3 0 td (wbLow 4 ((td : Int) - 4) (wbLow 5 ((d : Int) - 1) (wbLow 5 ((h : Int) - 257) s)))
theorem owS_r {last : Int} {s : Wb} (hr : wbR 0 s) : wbR 0 (owS last s) ∧ s.1.1 ≤ (owS last s).1.1 ∧ (owS last s).1.1 ≤ s.1.1 + 3 ∧ wbB (owS last s) = wbB s + 3 := by
  unfold owS
  have r1 := wbLow_r 1 last s hr
  have n1 := wbLow_n 1 last s
  have b1 := wbB_low 1 last s hr.2.1
  have n2 := wbLow_n 2 2 (wbLow 1 last s)
  have b2 := wbB_low 2 2 (wbLow 1 last s) r1.2.1
  exact ⟨wbLow_r _ _ _ r1, by omega, by omega, by omega⟩
theorem jowhd {l3 : Int → Int} {h d td : Nat} {last : Int} {s : Wb} (hl : ∀ i : Nat, i < 19 → 0 ≤ l3 i ∧ l3 i ≤ 7) (hh : (257 ≤ h ∧ h ≤ 286) ∧ (1 ≤ d ∧ d ≤ 30) ∧ 4 ≤ td ∧ td ≤ 19) (hlast : last = 0 ∨ last = 1) (hr : wbR 0 s) (hs : s.1.1 < 900000) : (wbR 0 (owH l3 h d td (owS last s)) ∧ s.1.1 ≤ (owH l3 h d td (owS last s)).1.1 ∧ (owH l3 h d td (owS last s)).1.1 ≤ s.1.1 + 80) ∧ (∀ (A : ms) (o a1 na1 : Nat), isRow a1 na1 → isRow o 12000 → (342 < o ∨ o = 7) → (∀ i : Nat, i < 19 → A.1 76 i = l3 i) → CBt A o 12000 s → ∃ A', EX (XRb o) A A' ∧ CBt A' o 12000 (owH l3 h d td (owS last s)) ∧ ∀ (R : Option Value) (S' : ms), EV q 68 251 [some (.ref 30), some (.ref a1), some (vI fr), some (vI to), some (vI last), some (.ref o), some (vI h), some (vI d), some (vI td), some (vI td)] [] A' R S' → EV q 68 193 [some (.ref 30), some (.ref a1), some (vI fr), some (vI to), some (vI last), some (.ref o), some (vI h), some (vI d), some (vI td), none] [] A R S') ∧ ∀ (B : ms) (x3 x4 x7 : Int), (∀ i : Nat, i < 19 → B.1 389 i = l3 i) → MBt B 0 (owS last s) → ∃ B', EX XWb B B' ∧ MBt B' 0 (owH l3 h d td (owS last s)) ∧ B'.1 367 12 = B.1 367 12 + (wbB (owH l3 h d td (owS last s)) - wbB (owS last s)) ∧ ∀ (R : Option Value) (S' : ms), EV q 296 466 [some (.ref 367), some (vI fr), some (vI to), some (vI x3), some (vI x4), some (vI h), some (vI d), some (vI x7), some (vI td), some (vI 0), none] [] B' R S' → EV q 296 398 [some (.ref 367), some (vI fr), some (vI to), some (vI x3), some (vI x4), some (vI h), some (vI d), some (vI x7), some (vI td), none, none] [] B R S' := by
  have os := owS_r (last := last) hr
  obtain ⟨sb, esb⟩ : ∃ sb, sb = owS last s := ⟨_, rfl⟩
  rw [← esb] at os ⊢
  have r1 := wbLow_r 5 ((h : Int) - 257) sb os.1
  have n1 := wbLow_n 5 ((h : Int) - 257) sb
  have b1 := wbB_low 5 ((h : Int) - 257) sb os.1.2.1
  obtain ⟨sc, esc⟩ : ∃ sc, sc = wbLow 5 ((h : Int) - 257) sb := ⟨_, rfl⟩
  rw [← esc] at r1 n1 b1
  have r2 := wbLow_r 5 ((d : Int) - 1) sc r1
  have n2 := wbLow_n 5 ((d : Int) - 1) sc
  have b2 := wbB_low 5 ((d : Int) - 1) sc r1.2.1
  obtain ⟨sd, esd⟩ : ∃ sd, sd = wbLow 5 ((d : Int) - 1) sc := ⟨_, rfl⟩
  rw [← esd] at r2 n2 b2
  have r3 := wbLow_r 4 ((td : Int) - 4) sd r2
  have n3 := wbLow_n 4 ((td : Int) - 4) sd
  have b3 := wbB_low 4 ((td : Int) - 4) sd r2.2.1
  obtain ⟨se, ese⟩ : ∃ se, se = wbLow 4 ((td : Int) - 4) sd := ⟨_, rfl⟩
  rw [← ese] at r3 n3 b3
  obtain ⟨⟨o1, o2, o3⟩, oc, om⟩ := jor (q := q) (l := l3) (C := td) hh.2.2.2 hl td 0 se (by omega) r3 (by omega)
  have ef : owH l3 h d td sb = orB l3 0 td se := by unfold owH; rw [← esc, ← esd, ← ese]
  rw [ef]
  refine ⟨⟨o1, by omega, by omega⟩, fun A o a1 na1 ha ho o4 h76 hc => ?_, fun B x3 x4 x7 h89 hm => ?_⟩
  · obtain ⟨s1, es1⟩ : ∃ s1, s1 = wbLow 1 last s := ⟨_, rfl⟩
    have q1 := wbLow_r 1 last s hr
    have m1 := wbLow_n 1 last s
    rw [← es1] at q1 m1
    have esb' : wbLow 2 2 s1 = sb := by rw [es1, esb]; rfl
    obtain ⟨A1, a11, a12, a13⟩ := cw_low_bits (q := q) (v := last) (n := 1) (by omega) (by decide) ho (by decide) hr (by omega) hc
    rw [← es1] at a13
    obtain ⟨A2, a21, a22, a23⟩ := cw_low_bits (q := q) (v := 2) (n := 2) (by decide) (by decide) ho (by decide) q1 (by omega) a13
    rw [esb'] at a23
    obtain ⟨A3, a31, a32, a33⟩ := cw_low_bits (q := q) (v := (h : Int) - 257) (n := 5) (by omega) (by decide) ho (by decide) os.1 (by omega) a23
    rw [← esc] at a33
    obtain ⟨A4, a41, a42, a43⟩ := cw_low_bits (q := q) (v := (d : Int) - 1) (n := 5) (by omega) (by decide) ho (by decide) r1 (by omega) a33
    rw [← esd] at a43
    obtain ⟨A5, a51, a52, a53⟩ := cw_low_bits (q := q) (v := (td : Int) - 4) (n := 4) (by omega) (by decide) ho (by decide) r2 (by omega) a43
    rw [← ese] at a53
    have x5 : EX (XRb o) A A5 := (((a12.trans a22).trans a32).trans a42).trans a52
    obtain ⟨A6, c1, c2, c3⟩ := oc A5 o a1 na1 fr to last h d ha ho o4 (fun i hi => by rw [x5.2 76 i (by unfold XRb; omega)]; exact h76 i hi) a53
    refine ⟨A6, x5.trans c1, c2, fun R S' k => vc_Blocks_ownBlock_193 _ _ _ _ _ _ _ _ ha _ _ ho ?_⟩
    have k251 := c3 R S' k
    rcases hlast with e | e
    · rw [e] at a11 k251 ⊢
      exact cY (by decide) (vc_Blocks_ownBlock_205 _ _ _ _ _ _ _ _ _ ha _ _ ho _ _ ho ⟨A1, a11, A2, a21, A3, a31, A4, a41, A5, a51, k251⟩)
    · rw [e] at a11 k251 ⊢
      exact cNo (by decide) (vc_Blocks_ownBlock_205 _ _ _ _ _ _ _ _ _ ha _ _ ho _ _ ho ⟨A1, a11, A2, a21, A3, a31, A4, a41, A5, a51, k251⟩)
  · obtain ⟨B1, b11, b12, b13, b14⟩ := mw_low_bits (q := q) (v := (h : Int) - 257) (n := 5) (by omega) (by decide) os.1 (by omega) hm
    rw [← esc] at b13
    obtain ⟨B2, b21, b22, b23, b24⟩ := mw_low_bits (q := q) (v := (d : Int) - 1) (n := 5) (by omega) (by decide) r1 (by omega) b13
    rw [← esd] at b23
    obtain ⟨B3, b31, b32, b33, b34⟩ := mw_low_bits (q := q) (v := (td : Int) - 4) (n := 4) (by omega) (by decide) r2 (by omega) b23
    rw [← ese] at b33
    have x5 : EX XWb B B3 := (b12.trans b22).trans b32
    obtain ⟨B4, c1, c2, c3, c4⟩ := om B3 fr to x3 x4 h d x7 (fun i hi => by rw [x5.2 389 i (by unfold XWb; omega)]; exact h89 i hi) b33
    refine ⟨B4, x5.trans c1, c2, by omega, fun R S' k => vc_MD_writeOwn_398 _ _ _ _ _ _ _ _ ?_⟩
    rw [w32_of (x := (h : Int) - 257) (by omega), w32_of (x := (d : Int) - 1) (by omega), w32_of (x := (td : Int) - 4) (by omega)]
    exact ⟨B1, b11, B2, b21, B3, b31, c4 R S' k⟩
def XOw (o a : Nat) (k : Int) : Prop := XRb o a k ∨ XOv a k
def XOz (a : Nat) (k : Int) : Prop := XWb a k ∨ XOx a k
theorem RlB_or (l : Int → Int) : ∀ v k : Nat, ShE (orB l k v)
  | 0, _ => fun _ _ _ h => h
  | v + 1, k => fun s0 s u h => by
    rw [orB_s, orB_s]
    exact RlB_or l v (k + 1) _ _ _ (RlB_low _ _ _ _ _ h)
theorem RlB_sw (l : Int → Int) (f g : Nat → Int) : ∀ v j : Nat, ShE (swB l f g j v)
  | 0, _ => fun _ _ _ h => h
  | v + 1, j => fun s0 s u h => by
    rw [swB_s, swB_s]
    exact RlB_sw l f g v (j + 1) _ _ _ (RlB_low _ _ _ _ _ (RlB_sym _ _ _ _ _ _ h))
theorem RlB_owS (last : Int) : ShE (owS last) := fun _ _ _ h => RlB_low _ _ _ _ _ (RlB_low _ _ _ _ _ h)
theorem RlB_owH (l3 : Int → Int) (h d td : Nat) : ShE (owH l3 h d td) := fun _ _ _ y => RlB_or _ _ _ _ _ _ (RlB_low _ _ _ _ _ (RlB_low _ _ _ _ _ (RlB_low _ _ _ _ _ y)))
/-- one block of own codes, both sides -/
theorem jownB {last : Int} (hK : K ≤ 6000 ∧ to ≤ K ∧ fr ≤ to) (hx : 0 ≤ x ∧ x ≤ 6000) (ht : ∀ k : Int, 0 ≤ k → k < x → 0 ≤ t k ∧ t k < 256) (hV : ∀ k : Nat, k < K → tkV x (T k)) (hlast : last = 0 ∨ last = 1) : ∃ F : Wb → Wb, ShE F ∧ ∀ s : Wb, wbR 0 s → s.1.1 < 500000 → (wbR 0 (F s) ∧ s.1.1 ≤ (F s).1.1 ∧ (F s).1.1 ≤ s.1.1 + 9000 + 60 * ((to - fr : Nat) : Int)) ∧ (∀ (A : ms) (o a1 : Nat), isRow o 12000 → (342 < o ∨ o = 7) → (∀ k : Int, 3 ≤ k → k ≤ 258 → A.1 92 k = 257 + lsF k) → TXr A a1 x t → CTk A T K → CBt A o 12000 s → ∃ A', EX (XOw o) A A' ∧ CBt A' o 12000 (F s) ∧ EV q 68 0 [some (.ref 30), some (.ref a1), some (vI fr), some (vI to), some (vI last), some (.ref o), none, none, none, none] [] A none A') ∧ ∀ B : ms, TbM B → TXm B x t → MTk B T K → MBt B 0 (owS last s) → ∃ B', EY XOz B B' ∧ MBt B' 0 (F s) ∧ B'.1 367 12 = B.1 367 12 + (wbB (F s) - wbB (owS last s)) ∧ EV q 296 0 [some (.ref 367), some (vI fr), some (vI to), none, none, none, none, none, none, none, none] [] B none B' := by
  -- the codes
  obtain ⟨l, l1, lA, lB⟩ := jbyC (q := q) (n := 286) (c := c1F t T fr (to - fr)) (lim := 15) (cd := 53) (a1 := 86) (na1 := 286) (a1m := 398) (na1m := 288) (a4 := 385) (na4 := 330) (by decide) (by decide) (by decide) is_53 sh_86 (by decide) sh_398 (by decide) sh_385 (by decide) (fun s hs => by
    have := tyC_r t T fr (s : Int) (to - fr)
    unfold c1F
    split <;> omega)
  obtain ⟨dl, d1, dA, dB⟩ := jbyC (q := q) (n := 30) (c := c2F T fr (to - fr)) (lim := 15) (cd := 64) (a1 := 87) (na1 := 30) (a1m := 399) (na1m := 32) (a4 := 387) (na4 := 40) (by decide) (by decide) (by decide) is_64 sh_87 (by decide) sh_399 (by decide) sh_387 (by decide) (fun s hs => by
    have := tyD_r T fr (s : Int) (to - fr)
    unfold c2F
    omega)
  obtain ⟨h, eh⟩ : ∃ h, h = trF l 257 286 := ⟨_, rfl⟩
  obtain ⟨d, ed⟩ : ∃ d, d = trF dl 1 30 := ⟨_, rfl⟩
  have hr1 := trF_r l 257 286 (by decide)
  have dr1 := trF_r dl 1 30 (by decide)
  rw [← eh] at hr1
  rw [← ed] at dr1
  obtain ⟨al, eal⟩ : ∃ al, al = alG l dl h := ⟨_, rfl⟩
  have hal : ∀ k : Int, 0 ≤ k → k < (h : Int) + d → 0 ≤ al k ∧ al k ≤ 15 := fun k k0 k1 => by
    rw [eal]
    unfold alG
    by_cases c : k < h
    · rw [if_pos c]
      have := l1 k.toNat (by omega)
      rw [show ((k.toNat : Nat) : Int) = k by omega] at this
      exact ⟨this.1, this.2.1⟩
    · rw [if_neg c]
      have := d1 (k - h).toNat (by omega)
      rw [show (((k - h).toNat : Nat) : Int) = k - h by omega] at this
      exact ⟨this.1, this.2.1⟩
  obtain ⟨P, C, hP, hle, hst⟩ := st_ex (al := al) (m := (h : Int) + d) (by omega) hal
  have hC : C ≤ 316 := by have := hle C (Nat.le_refl _); omega
  obtain ⟨l3, m1, mA, mB⟩ := jbyC (q := q) (n := 19) (c := c3F (stY al ((h : Int) + d) P) C) (lim := 7) (cd := 75) (a1 := 88) (na1 := 19) (a1m := 400) (na1m := 20) (a4 := 389) (na4 := 20) (by decide) (by decide) (by decide) is_75 sh_88 (by decide) sh_400 (by decide) sh_389 (by decide) (fun s hs => by
    have := stC_r (stY al ((h : Int) + d) P) (s : Int) C
    unfold c3F
    omega)
  obtain ⟨td, et⟩ : ∃ td, td = trF (orT l3) 4 19 := ⟨_, rfl⟩
  have tr1 := trF_r (orT l3) 4 19 (by decide)
  rw [← et] at tr1
  have lr3 : ∀ i : Nat, i < 19 → 0 ≤ l3 i ∧ l3 i ≤ 7 := fun i hi => ⟨(m1 i hi).1, (m1 i hi).2.1⟩
  have lr1 : ∀ s : Nat, s < 286 → 0 ≤ l s ∧ l s ≤ 20 := fun s hs => by have := l1 s hs; omega
  have lr2 : ∀ s : Nat, s < 30 → 0 ≤ dl s ∧ dl s ≤ 20 := fun s hs => by have := d1 s hs; omega
  -- what is written
  obtain ⟨F, eF⟩ : ∃ F : Wb → Wb, ∀ s, F s = tksB l 286 dl 30 t T fr (to - fr) (swB l3 (stY al ((h : Int) + d) P) (stM al ((h : Int) + d) P) 0 C (owH l3 h d td (owS last s))) := ⟨_, fun _ => rfl⟩
  refine ⟨F, fun _ _ _ y => by rw [eF, eF]; exact RlB_tks _ _ _ _ _ _ _ _ _ _ _ (RlB_sw _ _ _ _ _ _ _ _ (RlB_owH _ _ _ _ _ _ _ (RlB_owS _ _ _ _ y))), fun s hr hs => ?_⟩
  rw [eF s]
  obtain ⟨⟨a1', a2', a3'⟩, hc, hm⟩ := jowhd (q := q) (fr := fr) (to := to) (l3 := l3) (h := h) (d := d) (td := td) (last := last) (s := s) lr3 ⟨hr1, dr1, tr1⟩ hlast hr (by omega)
  obtain ⟨sf, esf⟩ : ∃ sf, sf = owH l3 h d td (owS last s) := ⟨_, rfl⟩
  rw [← esf] at a1' a2' a3' hc hm ⊢
  obtain ⟨f, ef⟩ : ∃ f, f = stY al ((h : Int) + d) P := ⟨_, rfl⟩
  obtain ⟨g, eg⟩ : ∃ g, g = stM al ((h : Int) + d) P := ⟨_, rfl⟩
  rw [← ef, ← eg]
  obtain ⟨⟨w1, w2, w3⟩, wc, wm⟩ := jsw (q := q) (l := l3) (f := f) (g := g) (C := C) hC (fun i hi => by have := lr3 i hi; omega) (fun j hj => by rw [ef, eg]; exact hst j hj) C 0 sf (by omega) a1' (by omega)
  obtain ⟨sg, esg⟩ : ∃ sg, sg = swB l3 f g 0 C sf := ⟨_, rfl⟩
  rw [← esg] at w1 w2 w3 wc wm ⊢
  obtain ⟨⟨t1, t2, t3⟩, tc, tm⟩ := jtoks (q := q) (l := l) (dl := dl) (n := 286) (dn := 30) (T := T) (K := K) (to := to) hK.1 hK.2.1 ht hx hV ⟨lr1, lr2, by decide, by decide⟩ (to - fr) fr sg (by omega) w1 (by omega)
  refine ⟨⟨t1, by omega, by omega⟩, fun A o a1 ho o4 h92 hA hT hb => ?_, fun B hM hB hT hb => ?_⟩
  · obtain ⟨A1, x1, ⟨k53, k64, k75⟩, hS, kk⟩ := cl_own1 (q := q) (o := o) (a1 := a1) (na1 := 6000) (last := last) hK hx ht hV (fun A y => by obtain ⟨A', y1, y2, _, y3⟩ := lA A y; exact ⟨A', y1, y2, y3⟩) (fun A y => by obtain ⟨A', y1, y2, _, y3⟩ := dA A y; exact ⟨A', y1, y2, y3⟩) (fun A y => by obtain ⟨A', y1, y2, _, y3⟩ := mA A y; exact ⟨A', y1, y2, y3⟩) lr3 eh ed et eal hal hP hle ho hA.1.1 h92 hA hT
    have at1 : ∀ (a : Nat) (k : Int), ¬ XOv a k → A1.1 a k = A.1 a k := fun a k y => x1.2 a k y
    rw [← ef, ← eg] at hS
    have hb1 : CBt A1 o 12000 s := CBt_cg hb (fun a k y => at1 a k (by unfold XRb at y; unfold XOv; omega))
    obtain ⟨A2, y1, y2, y3⟩ := hc A1 o a1 6000 hA.1.1 ho o4 (fun i hi => (k75.2.2.1 i hi).2) hb1
    have at2 : ∀ (a : Nat) (k : Int), a < 343 ∧ a ≠ 7 ∧ a ≠ 8 → A2.1 a k = A1.1 a k := fun a k y => y1.2 a k (by unfold XRb; omega)
    obtain ⟨A3, z1, z2, z3⟩ := wc A2 o ho o4 (CodW_k k75 (fun a k _ _ => at2 a k (by omega))) ⟨by rw [at2 _ _ (by omega)]; exact hS.1, fun i hi => by rw [at2 _ _ (by omega), at2 _ _ (by omega)]; exact hS.2.1 i hi, fun s h0 h1 => by rw [at2 _ _ (by omega)]; exact hS.2.2 s h0 h1⟩ y2
    have at3 : ∀ (a : Nat) (k : Int), a < 343 ∧ a ≠ 7 ∧ a ≠ 8 → A3.1 a k = A1.1 a k := fun a k y => by rw [z1.2 a k (by unfold XRb; omega), at2 a k y]
    have hA3 : TXr A3 a1 x t := ⟨hA.1, by rw [at3 a1 1 (by have := hA.1.2; omega), at1 a1 1 (by have := hA.1.2; unfold XOv; omega)]; exact hA.2.1, fun k k0 k1 => by rw [at3 (a1 + 1) k (by have := hA.1.2; omega), at1 (a1 + 1) k (by have := hA.1.2; unfold XOv; omega)]; exact hA.2.2 k k0 k1⟩
    have hT3 : CTk A3 T K := CTk_e hT (fun a k y => by unfold XTc at y; rw [at3 a k (by omega), at1 a k (by unfold XOv; omega)])
    have hC3 : CdsC A3 53 64 286 30 l dl := ⟨Or.inr ⟨rfl, rfl⟩, CodW_k k53 (fun a k _ _ => at3 a k (by omega)), CodW_k k64 (fun a k _ _ => at3 a k (by omega)), by decide, fun k k0 k1 => by rw [at3 92 k (by omega), at1 92 k (by unfold XOv; omega)]; exact h92 k k0 k1⟩
    obtain ⟨A4, u1, u2, u3⟩ := tc A3 o 53 64 a1 fr 1 ho o4 hA3 hC3 hT3 z2
    have ktok : EV q 65 0 [some (.ref 30), some (.ref a1), some (vI fr), some (vI to), some (vI 1), some (.ref o), none, none, none, none, none, none, none] [] A3 none A4 := vc_Blocks_tokensOut _ _ _ _ _ hA.1.1 _ _ ho (cNo (by decide) (vc_Blocks_tokensOut_16 _ _ _ _ _ hA.1.1 _ _ ho _ is_53 (cNo (by decide) (vc_Blocks_tokensOut_34 _ _ _ _ _ hA.1.1 _ _ ho _ is_53 _ is_64 u3))))
    refine ⟨A4, (x1.mono (fun a k y => Or.inr y)).trans (((y1.trans z1).trans u1).mono (fun a k y => Or.inl y)), u2, kk none A4 (y3 none A4 (vc_Blocks_ownBlock_251 _ _ _ _ _ _ _ _ _ hA.1.1 _ _ ho (cY (Int.le_refl _) ⟨A3, vc_Blocks_stepsOut _ _ ho z3, A4, ktok, rfl, rfl⟩)))⟩
  · obtain ⟨B1, x3, x4, x7, y0, ⟨n1, n2, n3⟩, hS, kk⟩ := md_own1 (q := q) hK hx ht hV lB dB mB lr1 lr2 lr3 eh ed et eal hal hP hle hB hT hM
    rw [← ef, ← eg] at hS
    have at1 : ∀ (a : Nat) (k : Int), ¬ XOx a k → B1.1 a k = B.1 a k := fun a k y => y0.2 a k y
    have hb1 : MBt B1 0 (owS last s) := MBt_cg hb (fun a k y => at1 a k (by unfold XWb at y; unfold XOx; omega))
    obtain ⟨B2, y1, y2, y3, y4⟩ := hm B1 x3 x4 x7 (fun i hi => (n3.1 i hi).2) hb1
    have st : ∀ (B2 : ms), EX XWb B1 B2 → StB B2 f g C := fun B2 e => ⟨by rw [e.2 _ _ (by unfold XWb; omega)]; exact hS.1, fun i hi => by rw [e.2 _ _ (by unfold XWb; omega), e.2 _ _ (by unfold XWb; omega)]; exact hS.2.1 i hi, fun s h0 h1 => by rw [e.2 _ _ (by unfold XWb; omega)]; exact hS.2.2 s h0 h1⟩
    obtain ⟨B3, z1, z2, z3, z4⟩ := wm B2 fr to x3 x4 h d x7 td (CodN_k n3 (fun a k y => y1.2 a k (by unfold XWb; omega))) (st B2 y1) y2
    have e3 : EX XWb B1 B3 := y1.trans z1
    have hB3 : TXm B3 x t := TXm_e hB (fun a k y => by rw [e3.2 a k (by unfold XWb; omega), at1 a k (by unfold XOx; omega)])
    have hT3 : MTk B3 T K := MTk_e hT (fun a k y => by unfold XTm at y; rw [e3.2 a k (by unfold XWb; omega), at1 a k (by unfold XOx; omega)])
    have hC3 : CdsM B3 286 30 l dl := ⟨CodN_k n1 (fun a k y => e3.2 a k (by unfold XWb; omega)), CodN_k n2 (fun a k y => e3.2 a k (by unfold XWb; omega)), by decide, fun s h0 h1 => by rw [e3.2 391 s (by unfold XWb; omega), at1 391 s (by unfold XOx; omega), e3.2 392 s (by unfold XWb; omega), at1 392 s (by unfold XOx; omega)]; exact hM.1 s h0 h1, fun s h0 h1 => by rw [e3.2 393 s (by unfold XWb; omega), at1 393 s (by unfold XOx; omega), e3.2 394 s (by unfold XWb; omega), at1 394 s (by unfold XOx; omega)]; exact hM.2 s h0 h1⟩
    obtain ⟨B4, u1, u2, u3, u4⟩ := tm B3 fr hB3 hC3 hT3 z2
    have e12 : B1.1 367 12 = B.1 367 12 := at1 367 12 (by unfold XOx; omega)
    refine ⟨B4, (y0.mono (fun a k y => Or.inr y)).trans ((e3.trans u1).mono (fun a k y => Or.inl y)).ey, u2, by omega, kk none B4 (y4 none B4 (z4 none B4 (vc_MD_writeOwn_466 _ _ _ _ _ _ _ _ _ ?_)))⟩
    rw [(st B3 e3).1]
    exact cY (Int.le_refl _) ⟨B4, vc_MD_writeTokens _ _ u4, rfl, rfl⟩
end POwW
