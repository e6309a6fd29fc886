/-! open, kind 7: FRAME, the head -/
section FrameP
variable {q : Nat × (Nat → Int32)} {en : Int}
theorem CR_IJ {S A : ms} {o : Nat} {st : Rd} (f : Int) (ho : (300 < o ∨ o = 7)) (h : CR S A o en st) : CR (wI S 29 2 f) (wI A 29 2 f) o en st := CR_I _ _ (by decide) (by omega) (by omega) ho h
/-- the mixed sum of the octets p .. p + n - 1 of the TRAY, on both sides -/
theorem jmix {t : Int → Int} (ht : ∀ k : Int, 0 ≤ k → k < en → 0 ≤ t k ∧ t k < 256) (p : Int) (n : Nat) (hp : 0 ≤ p ∧ p + n ≤ en) (he : en ≤ 6000) : ∃ z : Int, (∀ (A : ms), (∀ k : Int, 0 ≤ k → k < en → A.1 2 k = t k) → EV q 30 0 [some (.ref 2), some (vI p), some (vI (p + n)), none, none, none, none, none, none] [] A (some (vI z)) A) ∧ ∀ (B : ms), (∀ k : Int, 0 ≤ k → k < en → B.1 368 k % 256 = t k) → EV q 266 0 [some (.ref 368), some (vI p), some (vI n), none, none, none, none, none, none] [] B (some (vI z)) B := by
  obtain ⟨z, y1, y2⟩ := jx (q := q) n (fun k => t (p + k))
  exact ⟨z, fun A hA => y1 A 2 6000 p ⟨rfl, by decide, hp.1, by omega, fun k hk => ⟨ht _ (by omega) (by omega), hA _ (by omega) (by omega)⟩⟩, fun B hB => y2 B 368 6000 p ⟨rfl, by decide, hp.1, by omega, fun k hk => ⟨ht _ (by omega) (by omega), hB _ (by omega) (by omega)⟩⟩⟩
theorem tA {S A : ms} {o : Nat} {t : Int → Int} {e2 : Int} {st : Rd} (hC : RdC S o en t) (h : CT S A o e2 st) : ∀ k : Int, 0 ≤ k → k < en → A.1 2 k = t k := fun k k0 k1 => by
  rw [h.2.2.2 2 k (by omega) (by have := hC.2.2.1; omega) (by have := hC.2.2.1; omega)]
  exact (hC.2.2.2.2 k k0 k1).2
theorem tB {S B : ms} {t : Int → Int} {e2 : Int} {st : Rd} (hC : RdM S en t) (h : MR S B e2 st) : ∀ k : Int, 0 ≤ k → k < en → B.1 368 k % 256 = t k := fun k k0 k1 => by
  rw [h.2.2.2 368 k (by omega) (by decide)]
  exact (hC.2.2 k k0 k1).2
theorem fr_head {t : Int → Int} (he : 0 ≤ en ∧ en ≤ 6000) (ht : ∀ k : Int, 0 ≤ k → k < en → 0 ≤ t k ∧ t k < 256) : ∃ (st' : Rd) (f td : Int), rdR en st' ∧ (0 ≤ f ∧ f < 256) ∧ (∀ (S A : ms) (o : Nat), RdC S o en t → CR S A o en st0 → ∃ S' A', EY (fun a _ => a = 29) S S' ∧ S'.1 29 2 = f ∧ S'.2.1 29 3 = td ∧ EV q 152 0 [some (.ref 29), some (.ref 9), none] [] A none A' ∧ CR S' A' o en st') ∧ ∀ (S B : ms) (P : ms → Prop), RdM S en t → MR S B en st0 → (∀ (B1 : ms) (x2 x5 x6 : Int), MR S B1 en st' → ∃ T, EV q 358 163 [some (.ref 367), some (vI f), some (vI x2), some (vL td), none, some (vI x5), some (vI x6), none, none, none] [] B1 none T ∧ P T) → ∃ T, EV q 358 0 [some (.ref 367), none, none, none, none, none, none, none, none, none] [] B none T ∧ P T := by
  have k43 : (1 : Int) ≤ 43 ∧ (43 : Int) < 1000 := by decide
  obtain ⟨s1, e1⟩ : ∃ s1, s1 = rdExp t en 4 43 st0 := ⟨_, rfl⟩
  obtain ⟨s2, e2⟩ : ∃ s2, s2 = rdExp t en 34 43 s1 := ⟨_, rfl⟩
  obtain ⟨s3, e3⟩ : ∃ s3, s3 = rdExp t en 77 43 s2 := ⟨_, rfl⟩
  obtain ⟨s4, e4⟩ : ∃ s4, s4 = rdExp t en 24 43 s3 := ⟨_, rfl⟩
  have r1 : rdR en s1 := by rw [e1]; exact (rdExp_r k43 (rdR_0 he.1)).1
  have r2 : rdR en s2 := by rw [e2]; exact (rdExp_r k43 r1).1
  have r3 : rdR en s3 := by rw [e3]; exact (rdExp_r k43 r2).1
  have r4 : rdR en s4 := by rw [e4]; exact (rdExp_r k43 r3).1
  obtain ⟨f, ef⟩ : ∃ f : Int, f = (rdTake t en s4).1 := ⟨_, rfl⟩
  obtain ⟨s5, e5⟩ : ∃ s5, s5 = (rdTake t en s4).2 := ⟨_, rfl⟩
  have fr := rdTake_rg r4 ht
  rw [← ef] at fr
  have r5 : rdR en s5 := by rw [e5]; exact rdR_take r4
  obtain ⟨s6, e6⟩ : ∃ s6, s6 = if (f / 64 = 1 ∧ f % 4 = 0) then s5 else rdTell 44 s5 := ⟨_, rfl⟩
  have r6 : rdR en s6 ∧ Fw s5 s6 := by rw [e6]; exact rd_gt (by decide) r5
  obtain ⟨g, eg⟩ : ∃ g : Int, g = (rdTake t en s6).1 := ⟨_, rfl⟩
  obtain ⟨s7, e7⟩ : ∃ s7, s7 = (rdTake t en s6).2 := ⟨_, rfl⟩
  have gr := rdTake_rg r6.1 ht
  rw [← eg] at gr
  have r7 : rdR en s7 := by rw [e7]; exact rdR_take r6.1
  obtain ⟨s8, e8⟩ : ∃ s8, s8 = if (w32 (bA g 143) = 0 ∧ 64 ≤ g) then s7 else rdTell 44 s7 := ⟨_, rfl⟩
  have r8 : rdR en s8 ∧ Fw s7 s8 := by rw [e8]; exact rd_gt (by decide) r7
  have wf : w32 (f / 64) = f / 64 := w32_of (by omega)
  have wff : w32 f = f := w32_of (by omega)
  have wf4 : w32 (f % 4) = f % 4 := w32_of (by omega)
  have wg : w32 g = g := w32_of (by omega)
  have wg16 : w32 (g / 16) = g / 16 := w32_of (by omega)
  -- the told size
  obtain ⟨td, s9, ⟨r9, f9⟩, td1, td2⟩ : ∃ (td : Int) (s9 : Rd), (rdR en s9 ∧ Fw s8 s9) ∧ (∀ (S A : ms) (o : Nat), RdC S o en t → CR S A o en s8 → ∃ A', CR S A' o en s9 ∧ ((w32 (bA f 8) = 0) → td = 0 ∧ A' = A) ∧ ((¬ w32 (bA f 8) = 0) → EV q 132 0 [some (.ref 9), some (vI 8), none, none, none] [] A (some (vL td)) A')) ∧ ∀ S B : ms, RdM S en t → MR S B en s8 → ∃ B', MR S B' en s9 ∧ ((w32 (bA f 8) = 0) → td = 0 ∧ B' = B) ∧ ((¬ w32 (bA f 8) = 0) → EV q 345 0 [some (.ref 367), some (vI 8), none, none, none] [] B (some (vL td)) B') := by
    by_cases c : w32 (bA f 8) = 0
    · exact ⟨0, s8, ⟨r8.1, Fw_r _⟩, fun S A o hC h => ⟨A, h, fun _ => ⟨rfl, rfl⟩, fun n => absurd c n⟩, fun S B hC h => ⟨B, h, fun _ => ⟨rfl, rfl⟩, fun n => absurd c n⟩⟩
    · obtain ⟨z, s9, ⟨g1, g2, _⟩, _, _, g4, g5⟩ := jlwT (q := q) ht (n := 8) (by omega) (by omega) r8.1
      refine ⟨z, s9, ⟨g1, g2⟩, fun S A o hC h => ?_, fun S B hC h => ?_⟩
      · obtain ⟨A', k1, k2⟩ := g4 S A o hC (CR_CT h)
        exact ⟨A', k2, fun n => absurd n c, fun _ => k1⟩
      · obtain ⟨B', k1, k2⟩ := g5 S B hC h
        exact ⟨B', k2, fun n => absurd n c, fun _ => k1⟩
  -- the head's own sum
  have n4 : s9.1 = 0 → 4 ≤ s9.2.2.1 := by
    intro y
    have y8 := Fw_0 f9 y
    have y7 := Fw_0 r8.2 y8
    rw [e7] at y7
    have t7 := tk1 y7
    have y5 := Fw_0 r6.2 t7.1
    rw [e5] at y5
    have t5 := tk1 y5
    have y4 := t5.1
    rw [e4] at y4
    have t4 := ex1 (by decide) y4
    have y3 := t4.1
    rw [e3] at y3
    have t3 := ex1 (by decide) y3
    have y2 := t3.1
    rw [e2] at y2
    have t2 := ex1 (by decide) y2
    have y1 := t2.1
    rw [e1] at y1
    have t1 := ex1 (by decide) y1
    have m1 : s1.2.2.1 = 1 := by
      rw [e1, t1.2]
      rfl
    have m2 : s2.2.2.1 = 2 := by rw [e2, t2.2]; omega
    have m3 : s3.2.2.1 = 3 := by rw [e3, t3.2]; omega
    have m4 : s4.2.2.1 = 4 := by rw [e4, t4.2]; omega
    have m5 : s5.2.2.1 = 5 := by rw [e5, t5.2]; omega
    have m6 := r6.2.2
    have m7 : s7.2.2.1 = s6.2.2.1 + 1 := by rw [e7, t7.2]
    have m8 := r8.2.2
    have m9 := f9.2
    omega
  obtain ⟨st', rf, hc9, hm9⟩ : ∃ st' : Rd, rdR en st' ∧ (∀ (S A : ms) (o : Nat), RdC S o en t → CR S A o en s9 → ∃ A', CR S A' o en st' ∧ ((¬ w32 (A.1 9 5) = 0) → (none : Option Value) = none ∧ A' = A) ∧ ((¬ (¬ w32 (A.1 9 5) = 0)) → ∃ (z4 : Int) (S2 : ms), EV q 30 0 [some (.ref 2), some (vI 4), some (vI (A.1 9 3)), none, none, none, none, none, none] [] A (some (vI z4)) S2 ∧ ∃ (S5 : ms), EV q 146 0 [some (.ref 9), some (vI ((z4 % 4294967296 / 256) % 256)), some (vI 45), none] [] S2 none S5 ∧ (none : Option Value) = none ∧ A' = S5)) ∧ ∀ (S B : ms) (P : ms → Prop) (x2 : Int), RdM S en t → MR S B en s9 → (∀ (B1 : ms) (x5 x6 : Int), MR S B1 en st' → ∃ T, EV q 358 163 [some (.ref 367), some (vI f), some (vI x2), some (vL td), none, some (vI x5), some (vI x6), none, none, none] [] B1 none T ∧ P T) → ∃ T, EV q 358 113 [some (.ref 367), some (vI f), some (vI x2), none, none, none, none, none, none, none] [vL td] B none T ∧ P T := by
    have w9 : w32 s9.1 = s9.1 := w32_of (by have := r9.1; omega)
    by_cases c : s9.1 ≠ 0
    · have ex0 : (rdTake t en s9).1 = 0 ∧ (rdTake t en s9).2 = s9 := by
        unfold rdTake
        rw [if_pos c]
        exact ⟨rfl, rfl⟩
      refine ⟨s9, r9, fun S A o hC h => ⟨A, h, fun _ => ⟨rfl, rfl⟩, fun n => absurd (by rw [h.2.1.2.1, w9]; exact c) n⟩, fun S B P x2 hC h nx => ?_⟩
      obtain ⟨B1, k1, k2⟩ := md_take (q := q) hC r9 h
      rw [ex0.2] at k2
      have kf := md_fine (q := q) r9 k2
      rw [if_neg c] at kf
      obtain ⟨T, j1, j2⟩ := nx B1 (B.1 367 16) (rdTake t en s9).1 k2
      exact ⟨T, vc_MD_openFrame_113 _ _ _ ⟨_, B1, k1, 0, B1, kf, cY (by decide) j1⟩, j2⟩
    · have c0 : s9.1 = 0 := by omega
      have n9 := n4 c0
      have r92 := r9.2.1
      obtain ⟨n, en'⟩ : ∃ n : Nat, s9.2.2.1 = 4 + n := ⟨(s9.2.2.1 - 4).toNat, by omega⟩
      obtain ⟨z, y1, y2⟩ := jmix (q := q) ht 4 n (by omega) he.2
      have wz : w32 (w32 z / 256 % 256) = z % 4294967296 / 256 % 256 := by
        rw [w32_of (by omega)]
        unfold w32
        omega
      have wz' : w32 (z % 4294967296 / 256 % 256) = z % 4294967296 / 256 % 256 := w32_of (by omega)
      obtain ⟨h1, h2⟩ := rdExp_r (t := t) (v := z % 4294967296 / 256 % 256) (k := 45) (by decide) r9
      refine ⟨rdExp t en (z % 4294967296 / 256 % 256) 45 s9, h1, fun S A o hC h => ?_, fun S B P x2 hC h nx => ?_⟩
      · obtain ⟨A', k1, k2⟩ := sp_exp (q := q) (v := z % 4294967296 / 256 % 256) (k := 45) hC r9 h
        refine ⟨A', k2, fun n => absurd (by rw [h.2.1.2.1, w9] at n; exact n) c, fun _ => ⟨z, A, ?_, A', k1, rfl, rfl⟩⟩
        rw [h.2.1.2.2.2.1 c0, en']
        exact y1 A (tA hC (CR_CT h))
      · obtain ⟨B1, k1, k2⟩ := md_take (q := q) hC r9 h
        obtain ⟨T, j1, j2⟩ := gTellB (q := q) (k := 45) (c := w32 (rdTake t en s9).1 = w32 (z % 4294967296 / 256 % 256)) (X := fun U V => EV q 358 163 [some (.ref 367), some (vI f), some (vI x2), some (vL td), none, some (vI (B.1 367 16)), some (vI (rdTake t en s9).1), none, none, none] [] U none V) (P := P) (rdR_take r9) he.2 k2 (fun B2 i1 => nx B2 _ _ i1)
        refine ⟨T, vc_MD_openFrame_113 _ _ _ ⟨_, B1, k1, _, B1, md_fine (rdR_take r9) k2, j1.1, fun y => ⟨z, B1, ?_, ?_⟩⟩, j2⟩
        · rw [h.2.1.2.2.2.2 c0, if_pos rfl, Int.sub_zero, en', show 4 + (n : Int) - 4 = n by omega]
          exact y2 B1 (tB hC k2)
        · rw [wz, ← wz']
          exact j1.2 y
  refine ⟨st', f, td, rf, fr, fun S A o hC h => ?_, fun S B P hC h nx => ?_⟩
  · obtain ⟨A1, k1, j1⟩ := sp_exp (q := q) (v := 4) (k := 43) hC (rdR_0 he.1) h
    rw [← e1] at j1
    obtain ⟨A2, k2, j2⟩ := sp_exp (q := q) (v := 34) (k := 43) hC r1 j1
    rw [← e2] at j2
    obtain ⟨A3, k3, j3⟩ := sp_exp (q := q) (v := 77) (k := 43) hC r2 j2
    rw [← e3] at j3
    obtain ⟨A4, k4, j4⟩ := sp_exp (q := q) (v := 24) (k := 43) hC r3 j3
    rw [← e4] at j4
    obtain ⟨A5, k5, j5⟩ := sp_take (q := q) hC r4 j4
    rw [← ef] at k5
    rw [← e5] at j5
    have ho := hC.2.2.1
    have j5' := CR_IJ f ho j5
    have hC' : RdC (wI S 29 2 f) o en t := ⟨hC.1, hC.2.1, hC.2.2.1, hC.2.2.2.1, fun k k0 k1 => by rw [rI_I, if_neg (by omega)]; exact hC.2.2.2.2 k k0 k1⟩
    have e29 : (wI A5 29 2 f).1 29 2 = f := by rw [rI_I, if_pos ⟨rfl, rfl⟩]
    have f29 : ∀ (U : ms) (st : Rd), CR (wI S 29 2 f) U o en st → U.1 29 2 = f := fun U st hU => by
      rw [hU.2.2.2 29 2 (by omega) (by omega) (by omega), rI_I, if_pos ⟨rfl, rfl⟩]
    -- from 90 on
    have fin : ∀ A8, CR (wI S 29 2 f) A8 o en s8 → ∃ S' A', EY (fun a _ => a = 29) S S' ∧ S'.1 29 2 = f ∧ S'.2.1 29 3 = td ∧ EV q 152 90 [some (.ref 29), some (.ref 9), some (vI g)] [] A8 none A' ∧ CR S' A' o en st' := by
      intro A8 i8
      obtain ⟨A9, i9, u1, u2⟩ := td1 (wI S 29 2 f) A8 o hC' i8
      have i9' := CR_J 29 3 td i9
      have hC2 : RdC (wJ (wI S 29 2 f) 29 3 td) o en t := ⟨hC'.1, hC'.2.1, hC'.2.2.1, hC'.2.2.2.1, hC'.2.2.2.2⟩
      obtain ⟨A10, i10, v1, v2⟩ := hc9 _ _ o hC2 i9'
      have k111 : EV q 152 111 [some (.ref 29), some (.ref 9), some (vI g)] [vL td, .ref 29] A9 none A10 := vc_Copies_openFrameHead_111 _ _ (fun S1 w1 => by subst w1; exact ⟨v1, v2⟩)
      refine ⟨wJ (wI S 29 2 f) 29 3 td, A10, ⟨rfl, fun a k n => ?_⟩, ?_, ?_, vc_Copies_openFrameHead_90 _ ?_, i10⟩
      · show (wI S 29 2 f).1 a k = S.1 a k
        rw [rI_I, if_neg (fun y => n y.1)]
      · show (wI S 29 2 f).1 29 2 = f
        rw [rI_I, if_pos ⟨rfl, rfl⟩]
      · show (if 29 = 29 ∧ (3 : Int) = 3 then td else S.2.1 29 3) = td
        rw [if_pos ⟨rfl, rfl⟩]
      · rw [f29 A8 s8 i8]
        refine ⟨fun y => ?_, fun y => ⟨td, A9, u2 y, k111⟩⟩
        obtain ⟨w1, w2⟩ := u1 y
        rw [w1, w2] at k111
        exact k111
    have k65 : ∀ A6, CR (wI S 29 2 f) A6 o en s6 → ∃ S' A', EY (fun a _ => a = 29) S S' ∧ S'.1 29 2 = f ∧ S'.2.1 29 3 = td ∧ EV q 152 65 [some (.ref 29), some (.ref 9), none] [] A6 none A' ∧ CR S' A' o en st' := by
      intro A6 i6
      obtain ⟨A7, i7, i7'⟩ := sp_take (q := q) hC' r6.1 i6
      rw [← eg] at i7
      rw [← e7] at i7'
      by_cases c : w32 (bA g 143) = 0 ∧ 64 ≤ g
      · rw [if_pos c] at e8
        obtain ⟨S', A', u1, u2, u3, u4, u5⟩ := fin A7 (by rw [e8]; exact i7')
        refine ⟨S', A', u1, u2, u3, vc_Copies_openFrameHead_65 ⟨g, A7, i7, ?_⟩, u5⟩
        rw [wg]
        exact cNN c.1 (cY c.2 u4)
      · rw [if_neg c] at e8
        obtain ⟨A8, i8, i8'⟩ := sp_tell (q := q) (k := 44) r7 ho i7'
        obtain ⟨S', A', u1, u2, u3, u4, u5⟩ := fin A8 (by rw [e8]; exact i8')
        have k84 := vc_Copies_openFrameHead_84 _ ⟨A8, i8, u4⟩
        refine ⟨S', A', u1, u2, u3, vc_Copies_openFrameHead_65 ⟨g, A7, i7, ?_⟩, u5⟩
        rw [wg]
        exact ⟨fun _ => k84, fun y => cNo (fun y2 => c ⟨Classical.not_not.mp y, y2⟩) k84⟩
    have w29 : w32 (w32 ((wI A5 29 2 f).1 29 2) / 64) = f / 64 := by rw [e29, wff, wf]
    by_cases c : f / 64 = 1 ∧ f % 4 = 0
    · rw [if_pos c] at e6
      obtain ⟨S', A', u1, u2, u3, u4, u5⟩ := k65 (wI A5 29 2 f) (by rw [e6]; exact j5')
      refine ⟨S', A', u1, u2, u3, vc_Copies_openFrameHead ⟨A1, k1, A2, k2, A3, k3, A4, k4, f, A5, k5, fun S12 w => ?_⟩, u5⟩
      subst w
      rw [w29, e29, wf4]
      exact cNN c.1 (cY c.2 u4)
    · rw [if_neg c] at e6
      obtain ⟨A6, i6, i6'⟩ := sp_tell (q := q) (k := 44) r5 ho j5'
      obtain ⟨S', A', u1, u2, u3, u4, u5⟩ := k65 A6 (by rw [e6]; exact i6')
      have k59 := vc_Copies_openFrameHead_59 ⟨A6, i6, u4⟩
      refine ⟨S', A', u1, u2, u3, vc_Copies_openFrameHead ⟨A1, k1, A2, k2, A3, k3, A4, k4, f, A5, k5, fun S12 w => ?_⟩, u5⟩
      subst w
      rw [w29, e29, wf4]
      exact ⟨fun _ => k59, fun y => cNo (fun y2 => c ⟨Classical.not_not.mp y, y2⟩) k59⟩
  · obtain ⟨B1, k1, j1⟩ := md_exp (q := q) (v := 4) (k := 43) he.2 hC (rdR_0 he.1) h
    rw [← e1] at j1
    obtain ⟨B2, k2, j2⟩ := md_exp (q := q) (v := 34) (k := 43) he.2 hC r1 j1
    rw [← e2] at j2
    obtain ⟨B3, k3, j3⟩ := md_exp (q := q) (v := 77) (k := 43) he.2 hC r2 j2
    rw [← e3] at j3
    obtain ⟨B4, k4, j4⟩ := md_exp (q := q) (v := 24) (k := 43) he.2 hC r3 j3
    rw [← e4] at j4
    obtain ⟨B5, k5, j5⟩ := md_take (q := q) hC r4 j4
    rw [← ef] at k5
    rw [← e5] at j5
    have fin : ∀ B8, MR S B8 en s8 → ∃ T, EV q 358 96 [some (.ref 367), some (vI f), some (vI g), none, none, none, none, none, none, none] [] B8 none T ∧ P T := by
      intro B8 i8
      obtain ⟨B9, i9, u1, u2⟩ := td2 S B8 hC i8
      obtain ⟨T, v1, v2⟩ := hm9 S B9 P g hC i9 (fun B10 x5 x6 i10 => nx B10 g x5 x6 i10)
      refine ⟨T, vc_MD_openFrame_96 _ _ ⟨fun y => ?_, fun y => ⟨td, B9, u2 y, v1⟩⟩, v2⟩
      obtain ⟨w1, w2⟩ := u1 y
      rw [w1, w2] at v1
      exact v1
    have k63 : ∀ B6, MR S B6 en s6 → ∃ T, EV q 358 63 [some (.ref 367), some (vI f), none, none, none, none, none, none, none, none] [] B6 none T ∧ P T := by
      intro B6 i6
      obtain ⟨B7, i7, i7'⟩ := md_take (q := q) hC r6.1 i6
      rw [← eg] at i7
      rw [← e7] at i7'
      have kf := md_fine (q := q) r7 i7'
      by_cases c : (w32 (bA g 143) = 0 ∧ 64 ≤ g) ∨ s7.1 ≠ 0
      · have e87 : s8 = s7 := by
          rcases c with c | c
          · rw [if_pos c] at e8
            exact e8
          · exact r8.2.1 c
        obtain ⟨T, u1, u2⟩ := fin B7 (by rw [e87]; exact i7')
        refine ⟨T, vc_MD_openFrame_63 _ ⟨g, B7, i7, _, B7, kf, fun _ => u1, fun y => ?_⟩, u2⟩
        rcases c with c | c
        · rw [wg, wg16]
          exact cNN c.1 (cY (by omega) u1)
        · rw [if_neg c] at y
          exact absurd (by decide) y
      · have c1 : ¬ (w32 (bA g 143) = 0 ∧ 64 ≤ g) := fun y => c (Or.inl y)
        have c2 : s7.1 = 0 := Classical.byContradiction fun y => c (Or.inr y)
        rw [if_neg c1] at e8
        rw [if_pos c2] at kf
        obtain ⟨B8, i8, i8'⟩ := md_tell (q := q) (k := 44) r7 he.2 i7'
        obtain ⟨T, u1, u2⟩ := fin B8 (by rw [e8]; exact i8')
        have k90 := vc_MD_openFrame_90 _ _ ⟨B8, i8, u1⟩
        refine ⟨T, vc_MD_openFrame_63 _ ⟨g, B7, i7, 1, B7, kf, cNo (by decide) ?_⟩, u2⟩
        rw [wg, wg16]
        exact ⟨fun _ => k90, fun y => cNo (fun y2 => c1 ⟨Classical.not_not.mp y, by omega⟩) k90⟩
    have kf := md_fine (q := q) r5 j5
    by_cases c : (f / 64 = 1 ∧ f % 4 = 0) ∨ s5.1 ≠ 0
    · have e65 : s6 = s5 := by
        rcases c with c | c
        · rw [if_pos c] at e6
          exact e6
        · exact r6.2.1 c
      obtain ⟨T, u1, u2⟩ := k63 B5 (by rw [e65]; exact j5)
      refine ⟨T, vc_MD_openFrame ⟨B1, k1, B2, k2, B3, k3, B4, k4, f, B5, k5, _, B5, kf, fun _ => u1, fun y => ?_⟩, u2⟩
      rcases c with c | c
      · rw [wff, wf, wf4]
        exact cNN c.1 (cY c.2 u1)
      · rw [if_neg c] at y
        exact absurd (by decide) y
    · have c1 : ¬ (f / 64 = 1 ∧ f % 4 = 0) := fun y => c (Or.inl y)
      have c2 : s5.1 = 0 := Classical.byContradiction fun y => c (Or.inr y)
      rw [if_neg c1] at e6
      rw [if_pos c2] at kf
      obtain ⟨B6, i6, i6'⟩ := md_tell (q := q) (k := 44) r5 he.2 j5
      obtain ⟨T, u1, u2⟩ := k63 B6 (by rw [e6]; exact i6')
      have k57 := vc_MD_openFrame_57 _ ⟨B6, i6, u1⟩
      refine ⟨T, vc_MD_openFrame ⟨B1, k1, B2, k2, B3, k3, B4, k4, f, B5, k5, 1, B5, kf, cNo (by decide) ?_⟩, u2⟩
      rw [wff, wf, wf4]
      exact ⟨fun _ => k57, fun y => cNo (fun y2 => c1 ⟨Classical.not_not.mp y, y2⟩) k57⟩
end FrameP
