/-! read: a row of a BENCH, both sides -/
section ReaA
variable {q : Nat × (Nat → Int32)} {en x p : Int} {t : Int → Int}
def bnF (x p : Int) (t : Int → Int) (n l z : Nat) (v1 v2 v3 : Int) (st : Rd) : Rd := tl (v3 ≤ x - p - 60) 1 x (tl (n < 16 ∧ v3 ≤ 6000) 104 p (tl (z = l ∧ 0 < l ∧ l < 16) 103 p (tl (0 ≤ v1 ∧ 0 ≤ v2 ∧ 0 ≤ v3 ∧ v1 ≤ 2147483647) 112 p (tl (t (p + 58) = 96 ∧ t (p + 59) = 10) 111 p st))))
theorem bnF_r {n l z : Nat} {v1 v2 v3 : Int} {st : Rd} (hr : rdR en st) : rdR en (bnF x p t n l z v1 v2 v3 st) := tl_r (tl_r (tl_r (tl_r (tl_r hr (by decide)) (by decide)) (by decide)) (by decide)) (by decide)
theorem bnF_0 {n l z : Nat} {v1 v2 v3 : Int} {st : Rd} (h : (bnF x p t n l z v1 v2 v3 st).1 = 0) : (t (p + 58) = 96 ∧ t (p + 59) = 10) ∧ (0 ≤ v1 ∧ 0 ≤ v2 ∧ 0 ≤ v3 ∧ v1 ≤ 2147483647) ∧ (z = l ∧ 0 < l ∧ l < 16) ∧ (n < 16 ∧ v3 ≤ 6000) ∧ v3 ≤ x - p - 60 := by
  unfold bnF at h
  have a5 := tl_0 (by decide) h
  have a4 := tl_0 (by decide) a5.2
  have a3 := tl_0 (by decide) a4.2
  have a2 := tl_0 (by decide) a3.2
  have a1 := tl_0 (by decide) a2.2
  exact ⟨a1.1, a2.1, a3.1, a4.1, a5.1⟩
def bnP (p v3 : Int) : Int := p + 60 + (v3 + 1) / 2 * 2
theorem sp_bnRow {sh n l z : Nat} {E : Nat → En} {v1 v2 v3 : Int} {st : Rd} {S A : ms} (hs : isSh sh) (hx : 0 ≤ x ∧ x ≤ 6000) (h0 : 0 ≤ p) (h1 : p + 60 ≤ x) (hn : n ≤ 16) (hE : ∀ e : Nat, e < n → EnOk (E e)) (b1 : -1 ≤ v1 ∧ v1 < 1000000000000) (b2 : -1 ≤ v2 ∧ v2 < 1000000000000) (b3 : -1 ≤ v3 ∧ v3 < 1000000000000) (k1 : ∀ A : ms, TC A x t → EV q 201 0 [some (.ref 2), some (vI (p + 16)), some (vI 12), some (vI 10), none, none, none] [] A (some (vL v1)) A) (k2 : ∀ A : ms, TC A x t → EV q 201 0 [some (.ref 2), some (vI (p + 40)), some (vI 8), some (vI 8), none, none, none] [] A (some (vL v2)) A) (k3 : ∀ A : ms, TC A x t → EV q 201 0 [some (.ref 2), some (vI (p + 48)), some (vI 10), some (vI 10), none, none, none] [] A (some (vL v3)) A) (hl : stR t p l) (hz : upR t p l z) (hr : rdR x st) (hT : TC S x t) (hSh : ShC S sh n E) (hA : CR S A 7 x st) : ∃ (S1 A1 : ms) (zr : Int), EX (xSh sh) S S1 ∧ CR S1 A1 7 x (bnF x p t n l z v1 v2 v3 st) ∧ ((bnF x p t n l z v1 v2 v3 st).1 = 0 → ShC S1 sh (n + 1) (upE E n ((z : Nat), fun k => t (p + k), v2 % 512, v1, v3, fun k => t (p + 60 + k))) ∧ zr = bnP p v3) ∧ ((bnF x p t n l z v1 v2 v3 st).1 ≠ 0 → ShC S1 sh n E) ∧ EV q 200 0 [some (.ref sh), some (.ref 9), some (vI p), none, none, none, none, none, none, none] [] A (some (vI zr)) A1 := by
  have hsl := isSh_is hs
  have hsr : sh = 193 ∨ sh = 268 := hs
  have ho : (300 < 7 ∨ 7 = 7) := Or.inr rfl
  have hl1 := hl.1
  have hz1 := hz.1
  have tcA : ∀ (S A : ms) (st : Rd), TC S x t → CR S A 7 x st → TC A x t := fun S A st hT hA k k0 k1 => ⟨(hT k k0 k1).1, by rw [hA.2.2.2 2 k (by omega) (by omega) (by omega)]; exact (hT k k0 k1).2⟩
  have ht : ∀ k : Int, 0 ≤ k → k < x → 0 ≤ t k ∧ t k < 256 := fun k k0 k1 => (hT k k0 k1).1
  have w0 : w64 0 = 0 := by decide
  have wv1 : w64 v1 = v1 := w64_of (by omega)
  have wv2 : w64 v2 = v2 := w64_of (by omega)
  have wv3 : w64 v3 = v3 := w64_of (by omega)
  have w58 : w32 (p + 58) = p + 58 := w32_of (by omega)
  have w59 : w32 (p + 59) = p + 59 := w32_of (by omega)
  have t58 := ht (p + 58) (by omega) (by omega)
  have t59 := ht (p + 59) (by omega) (by omega)
  have wt58 : w32 (t (p + 58)) = t (p + 58) := w32_of (by omega)
  have wt59 : w32 (t (p + 59)) = t (p + 59) := w32_of (by omega)
  obtain ⟨s1, e1⟩ : ∃ s : Rd, s = tl (t (p + 58) = 96 ∧ t (p + 59) = 10) 111 p st := ⟨_, rfl⟩
  have r1 : rdR x s1 := by rw [e1]; exact tl_r hr (by decide)
  obtain ⟨s2, e2⟩ : ∃ s : Rd, s = tl (0 ≤ v1 ∧ 0 ≤ v2 ∧ 0 ≤ v3 ∧ v1 ≤ 2147483647) 112 p s1 := ⟨_, rfl⟩
  have r2 : rdR x s2 := by rw [e2]; exact tl_r r1 (by decide)
  obtain ⟨s3, e3⟩ : ∃ s : Rd, s = tl (z = l ∧ 0 < l ∧ l < 16) 103 p s2 := ⟨_, rfl⟩
  have r3 : rdR x s3 := by rw [e3]; exact tl_r r2 (by decide)
  obtain ⟨s4, e4⟩ : ∃ s : Rd, s = tl (n < 16 ∧ v3 ≤ 6000) 104 p s3 := ⟨_, rfl⟩
  have r4 : rdR x s4 := by rw [e4]; exact tl_r r3 (by decide)
  obtain ⟨s5, e5⟩ : ∃ s : Rd, s = tl (v3 ≤ x - p - 60) 1 x s4 := ⟨_, rfl⟩
  have r5 : rdR x s5 := by rw [e5]; exact tl_r r4 (by decide)
  have ef : bnF x p t n l z v1 v2 v3 st = s5 := by rw [e5, e4, e3, e2, e1]; rfl
  have hf := @bnF_0 x p t n l z v1 v2 v3 st
  rw [ef] at hf ⊢
  obtain ⟨A1, g1, g2⟩ := gCa (q := q) (c := t (p + 58) = 96 ∧ t (p + 59) = 10) (k := 111) (p := p) hr ho hA
  rw [← e1] at g1
  obtain ⟨A2, g3, g4⟩ := gCa (q := q) (c := 0 ≤ v1 ∧ 0 ≤ v2 ∧ 0 ≤ v3 ∧ v1 ≤ 2147483647) (k := 112) (p := p) r1 ho g1
  rw [← e2] at g3
  obtain ⟨A3, l1, l2, l3⟩ := sp_blab (q := q) hs h0 h1 hx.2 hl hz (tcA S A2 s2 hT g3)
  obtain ⟨S3, m1, m2, m3⟩ := CB_X (X := fun a _ => a = sh + 5 ∨ a = sh + 6) (fun a k y => by omega) g3 l1
  have hT3 : TC S3 x t := fun k k0 k1 => ⟨(hT k k0 k1).1, by rw [m1.2 2 k (by omega)]; exact (hT k k0 k1).2⟩
  have hSh3 : ShC S3 sh n E := ShC_x hSh m1 (fun a k y => Or.inr y) hn
  have hL3 : LabC S3 (sh + 5) z (fun k => t (p + k)) := ⟨by rw [m2 _ _ (Or.inl rfl)]; exact l2.1, by rw [m2 _ _ (Or.inl rfl)]; exact l2.2.1, fun k k0 k1 => by rw [m2 _ _ (Or.inr rfl)]; exact l2.2.2 k k0 k1⟩
  obtain ⟨A4, g5, g6⟩ := gCa (q := q) (c := z = l ∧ 0 < l ∧ l < 16) (k := 103) (p := p) r2 ho m3
  rw [← e3] at g5
  obtain ⟨A5, g7, g8⟩ := gCa (q := q) (c := n < 16 ∧ v3 ≤ 6000) (k := 104) (p := p) r3 ho g5
  rw [← e4] at g7
  have w60 : Unit → w32 (x - (p + 60)) = x - p - 60 := fun _ => by rw [w32_of (by omega)]; omega
  have w60' : Unit → w64 (x - p - 60) = x - p - 60 := fun _ => w64_of (by omega)
  obtain ⟨A6, g9, g10⟩ := gCa (q := q) (c := w64 v3 ≤ w64 (w32 (A5.1 9 2 - (p + 60)))) (k := 1) (p := A5.1 9 2) r4 ho g7
  have e6 : tl (w64 v3 ≤ w64 (w32 (A5.1 9 2 - (p + 60)))) 1 (A5.1 9 2) s4 = s5 := by
    by_cases y : s4.1 = 0
    · rw [e5, g7.2.1.1 y, w60 (), wv3, w60' ()]
    · rw [e5, tl_told y, tl_told y]
  rw [e6] at g9
  have ex3 : EX (xSh sh) S S3 := EX.mono m1 (fun a k y => by unfold xSh; omega)
  have c193 : ∀ (r : Option Value) (T : ms), EV q 200 193 [some (.ref sh), some (.ref 9), some (vI p), some (vL v1), none, some (vL v2), none, some (vL v3), none, some (vI (p + 60))] [] A6 r T → EV q 200 0 [some (.ref sh), some (.ref 9), some (vI p), none, none, none, none, none, none, none] [] A r T := by
    intro r T y
    have y164 : EV q 200 164 [some (.ref sh), some (.ref 9), some (vI p), some (vL v1), none, some (vL v2), none, some (vL v3), none, none] [] A5 r T := by
      refine vc_Shelf_readBenchRow_164 _ _ _ _ sh hsl ?_
      rcases g10 with ⟨u1, u2⟩ | ⟨u1, u2⟩
      · rw [u2] at y; exact cY u1 y
      · exact cNo u1 ⟨A6, u2, y⟩
    have y139 : EV q 200 139 [some (.ref sh), some (.ref 9), some (vI p), some (vL v1), none, some (vL v2), none, some (vL v3), none, none] [] A4 r T := by
      refine vc_Shelf_readBenchRow_139 _ _ _ _ sh hsl ?_
      have wn : Unit → w32 ((n : Nat) : Int) = n := fun _ => w32_of (by omega)
      have w6 : w64 6000 = 6000 := by decide
      have eN : A4.1 sh 4 = n := by rw [g5.2.2.2 sh 4 (by omega) (by omega) (by omega)]; exact hSh3.1
      rw [eN, wn (), wv3, w6]
      rcases g8 with ⟨u1, u2⟩ | ⟨u1, u2⟩
      · rw [u2] at y164; exact cNo (by omega) (cY u1.2 y164)
      · have y157 := vc_Shelf_readBenchRow_157 (q := q) p v1 v2 v3 sh hsl ⟨A5, u2, y164⟩
        by_cases a : (16 : Int) ≤ n
        · exact cY a y157
        · exact cNo a (cNo (fun a' => u1 ⟨by omega, a'⟩) y157)
    have y120 : EV q 200 120 [some (.ref sh), some (.ref 9), some (vI p), some (vL v1), none, some (vL v2), none, some (vL v3), none, none] [] A2 r T := by
      refine vc_Shelf_readBenchRow_120 _ _ _ _ sh hsl ⟨_, A3, l3, ?_⟩
      rcases g6 with ⟨u1, u2⟩ | ⟨u1, u2⟩
      · rw [u2] at y139; rw [if_pos u1]; exact cY (by decide) y139
      · rw [if_neg u1]; exact cNN (by decide) ⟨A4, u2, y139⟩
    have y85 : EV q 200 85 [some (.ref sh), some (.ref 9), some (vI p), some (vL v1), none, some (vL v2), none, some (vL v3), none, none] [] A1 r T := by
      refine vc_Shelf_readBenchRow_85 _ _ _ _ sh hsl ?_
      rw [wv1, wv2, wv3, w0, show w64 2147483647 = 2147483647 by decide]
      rcases g4 with ⟨u1, u2⟩ | ⟨u1, u2⟩
      · rw [u2] at y120
        exact cNo (by omega) (cNo (by omega) (cNo (by omega) (cY u1.2.2.2 y120)))
      · have y113 := vc_Shelf_readBenchRow_113 (q := q) p v1 v2 v3 sh hsl ⟨A2, u2, y120⟩
        by_cases z2 : v1 < 0
        · exact cY z2 y113
        · refine cNo z2 ?_
          by_cases z3 : v2 < 0
          · exact cY z3 y113
          · refine cNo z3 ?_
            by_cases z4 : v3 < 0
            · exact cY z4 y113
            · exact cNo z4 (cNo (fun z' => u1 ⟨by omega, by omega, by omega, z'⟩) y113)
    have hTA := tcA S A st hT hA
    refine vc_Shelf_readBenchRow _ sh hsl ⟨v1, A, k1 A hTA, v2, A, k2 A hTA, v3, A, k3 A hTA, ?_⟩
    rw [w58, w59, (hTA (p + 58) (by omega) (by omega)).2, (hTA (p + 59) (by omega) (by omega)).2, wt58, wt59]
    refine ⟨by omega, ?_⟩
    rcases g2 with ⟨u1, u2⟩ | ⟨u1, u2⟩
    · rw [u2] at y85; exact cNN u1.1 ⟨by omega, cY u1.2 y85⟩
    · have y78 := vc_Shelf_readBenchRow_78 (q := q) p v1 v2 v3 sh hsl ⟨A1, u2, y85⟩
      by_cases a : t (p + 58) = 96
      · exact cNN a ⟨by omega, cNo (fun a' => u1 ⟨a, a'⟩) y78⟩
      · exact cY a y78
  by_cases y : s5.1 = 0
  · obtain ⟨f1, f2, f3, f4, f5⟩ := hf y
    clear wv1 wv2 wv3 w58 w59 wt58 wt59
    obtain ⟨M, eM⟩ : ∃ M : Nat, (M : Int) = v3 := ⟨v3.toNat, by omega⟩
    have hT6 := tcA S3 A6 s5 hT3 g9
    have hSh6 : ShC A6 sh n E := ShC_x hSh3 ⟨g9.1, fun a k (w : ¬ (a = 9 ∨ a = 7 ∨ a = 8)) => g9.2.2.2 a k (by omega) (by omega) (by omega)⟩ (fun a k w => Or.inl (by omega)) hn
    have hL6 : LabC A6 (sh + 5) z (fun k => t (p + k)) := ⟨by rw [g9.2.2.2 _ _ (by omega) (by omega) (by omega)]; exact hL3.1, by rw [g9.2.2.2 _ _ (by omega) (by omega) (by omega)]; exact hL3.2.1, fun k k0 k1 => by rw [g9.2.2.2 _ _ (by omega) (by omega) (by omega)]; exact hL3.2.2 k k0 k1⟩
    obtain ⟨A7, i1, i2, i3⟩ := sp_ent (q := q) (mo := v2 % 512) (ti := v1) (tx := fun k => t (p + 60 + k)) hs f4.1 hE hSh6 hL6 (by omega) sh_2 (by decide) (by decide) (fr := p + 60) (m := M) (by omega) (by omega) (by omega) (fun k k0 k1 => (hT6 (p + 60 + k) (by omega) (by omega)).2)
    rw [eM] at i2 i3
    obtain ⟨S7, j1, j2, j3⟩ := CB_X (X := xSh sh) (fun a k w => by unfold xSh at w; omega) g9 i1
    have et : Int.tdiv (w32 (v3 + 1)) (w32 2) = (v3 + 1) / 2 := by
      rw [w32_of (by omega), show w32 2 = 2 by decide, Int.tdiv_eq_ediv_of_nonneg (by omega)]
    refine ⟨S7, A7, bnP p v3, EX.trans ex3 j1, j3, fun _ => ⟨?_, rfl⟩, fun w => absurd y w, c193 _ _ (vc_Shelf_readBenchRow_193 _ _ _ _ _ sh hsl ?_)⟩
    · have hx9 : EX (fun a k => ¬ xSh sh a k) A7 S7 := ⟨(j1.1.trans (g9.1.symm)).trans i1.1.symm |>.trans rfl, fun a k w => j2 a k (Classical.not_not.mp w)⟩
      exact ShC_x i2 hx9 (fun a k w => Or.inl (by unfold xSh at w; omega)) (by omega)
    · rw [g9.2.1.2.1, w32_of (x := s5.1) (by have := r5.1; omega)]
      refine cNN y ⟨A7, i3, ?_, rfl⟩
      rw [et]
      rfl
  · refine ⟨S3, A6, p + 60, ex3, g9, fun w => absurd w y, fun _ => hSh3, c193 _ _ (vc_Shelf_readBenchRow_193 _ _ _ _ _ sh hsl ?_)⟩
    rw [g9.2.1.2.1, w32_of (x := s5.1) (by have := r5.1; omega)]
    exact cY y ⟨rfl, rfl⟩
end ReaA
