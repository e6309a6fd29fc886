/-! SORTED: the row, both sides at once -/
section SrtC
variable {q : Nat × (Nat → Int32)} {en : Int}
theorem cr_one {t : Int → Int} {S A : ms} {o n m p : Nat} {f g : Int → Int} {st : Rd} {h : Int} (hr : rdR en st) (ho : (300 < o ∨ o = 7)) (hn : n ≤ 15000) (hp : p < m) (hm : m ≤ 256) (hg : ∀ k : Nat, k < m → S.1 102 k = g k) (hR : RowC S n f) (hA : CB S A o en t st h) : ∃ S1 A3 A4, EX xRC S S1 ∧ EV q 103 0 [some (.ref 94), some (vI p), none, none] [] A (some (vI p)) A3 ∧ EV q 168 0 [some (.ref 94), some (.ref 9), some (vI (A3.1 102 (w32 0))), some (vI 1), none] [] A3 none A4 ∧ CB S1 A4 o en t (if n + 1 ≤ 15000 then st else rdTell 13 st) h ∧ (∀ k : Nat, k < m → S1.1 102 k = tF p g k) ∧ (n + 1 ≤ 15000 → RowC S1 (n + 1) (fT f n (g p))) := by
  obtain ⟨A3, k1, k2, k3⟩ := sp_front (q := q) (S := A) (g := g) hp hm (fun k hk => by rw [hA.2.2.2 102 k (by omega) (by omega) (by omega)]; exact hg k hk)
  obtain ⟨S2, s1, s2, s3⟩ := CB_X (X := fun a _ => a = 102) (fun a k y => by omega) hA k2
  have e0 : A3.1 102 (w32 0) = g p := by
    have := k3 0 (by omega)
    rw [show ((0 : Nat) : Int) = 0 from rfl, tF_0] at this
    rw [show w32 0 = 0 by decide, this]
  have hg2 : ∀ k : Nat, k < m → S2.1 102 k = tF p g k := fun k hk => by rw [s2 102 k rfl]; exact k3 k hk
  have hR2 : RowC S2 n f := ⟨by rw [s1.2 94 1 (show ¬ (94 : Nat) = 102 by decide)]; exact hR.1, fun k hk => by rw [s1.2 101 k (show ¬ (101 : Nat) = 102 by decide)]; exact hR.2 k hk⟩
  have hRA : RowC A3 n f := ⟨by rw [s3.2.2.2 94 1 (by omega) (by omega) (by omega)]; exact hR2.1, fun k hk => by rw [s3.2.2.2 101 k (by omega) (by omega) (by omega)]; exact hR2.2 k hk⟩
  have ex2 : EX xRC S S2 := EX.mono s1 (fun a k y => Or.inr (Or.inl y))
  by_cases c : n + 1 ≤ 15000
  · obtain ⟨A4, k4, k5, k6⟩ := sp_rowT (q := q) (v := g p) (m := 1) c hRA
    obtain ⟨S3, s4, s5, s6⟩ := CB_X (X := fun a k => a = 101 ∨ (a = 94 ∧ k = 1)) (fun a k y => by omega) s3 k5
    rw [if_pos c]
    exact ⟨S3, A3, A4, EX.trans ex2 (EX.mono s4 (fun a k y => y.elim Or.inl (fun z => Or.inr (Or.inr z)))), k1, by rw [e0]; exact k4, s6, fun k hk => by rw [s4.2 102 k (by omega)]; exact hg2 k hk, fun _ => ⟨by rw [s5 94 1 (Or.inr ⟨rfl, rfl⟩)]; exact k6.1, fun k hk => by rw [s5 101 k (Or.inl rfl)]; exact k6.2 k hk⟩⟩
  · obtain ⟨A4, k4, k5⟩ := sb_tell (q := q) (k := 13) hr ho s3
    rw [if_neg c]
    refine ⟨S2, A3, A4, ex2, k1, vc_Sorted_rowTimes _ _ ?_, k5, hg2, fun y => absurd y c⟩
    have w1 : Unit → w32 (15000 - ((n : Nat) : Int)) = 15000 - n := fun _ => w32_of (by omega)
    rw [hRA.1, w1 (), show w32 1 = 1 by decide]
    exact cNo (by omega) ⟨A4, k4, rfl, rfl⟩
def RwC (q : Nat × (Nat → Int32)) (en : Int) (t : Int → Int) (nc m cnt : Nat) (ch : Int → Int) (ls : Nat → Int → Int) (i n : Nat) (f g : Int → Int) (x y : Int) (st : Rd) (h : Int) (n' : Nat) (f' : Int → Int) (st' : Rd) (h' : Int) : Prop := ∀ (S A : ms) (o : Nat), HrC en t nc m cnt ch ls S o → (∀ k : Nat, k < m → S.1 102 k = g k) → RowC S n f → CB S A o en t st h → ∃ S1 A1, EX xRC S S1 ∧ CB S1 A1 o en t st' h' ∧ (st'.1 = 0 → RowC S1 n' f') ∧ EV q 167 12 [some (.ref 94), some (.ref 9), some (vI x), some (vI y), some (vI i), none] [] A none A1
def RwM (q : Nat × (Nat → Int32)) (en : Int) (t : Int → Int) (nc m cnt : Nat) (ch : Int → Int) (ls : Nat → Int → Int) (i n : Nat) (f g : Int → Int) (x y : Int) (st : Rd) (h : Int) (n' : Nat) (f' : Int → Int) (st' : Rd) (h' : Int) : Prop := ∀ S B : ms, HrM en t nc m cnt ch ls S → (∀ k : Nat, k < m → S.1 410 k = b8 (g k)) → RowM S n f → MB S B en st h → ∃ S1 B1, EX xRM S S1 ∧ MB S1 B1 en st' h' ∧ (st'.1 = 0 → RowM S1 n' f') ∧ EV q 364 46 [some (.ref 367), some (vI m), some (vI ((m + 2 : Nat) : Int)), some (vI nc), some (vL x), none, some (vL y), none, some (vI i), some (vI 1), none, none, none] [] B none B1
theorem jrow {t : Int → Int} {nc m cnt : Nat} {ch : Int → Int} {ls : Nat → Int → Int} (he : 0 ≤ en ∧ en ≤ 6000) (ht : ∀ k : Int, 0 ≤ k → k < en → 0 ≤ t k ∧ t k < 256) (hm : 1 ≤ m ∧ m ≤ 256) (hcnt : cnt ≤ 6) (hnc : nc ≤ 32767) (hch : ∀ k : Nat, k < nc → 0 ≤ ch k ∧ ch k < cnt) (hls : ∀ i : Nat, i < cnt → ∀ k : Nat, k < m + 2 → 1 ≤ ls i k ∧ ls i k ≤ 20) : ∀ (fu i n : Nat) (f g : Int → Int) (x y : Int) (st : Rd) (h : Int), 8 * en - rdP st h < fu → i + fu ≤ 60000 → n ≤ 15000 → (∀ k : Nat, k < n → 0 ≤ f k ∧ f k < 256) → (∀ k : Nat, k < m → 0 ≤ g k ∧ g k < 256) → (0 ≤ x ∧ x ≤ 15000 ∧ 1 ≤ y ∧ y ≤ x + 1) → rdR en st → hR st h → st.1 = 0 → ∃ (n' : Nat) (f' : Int → Int) (st' : Rd) (h' : Int), (rdR en st' ∧ Fw st st' ∧ hR st' h' ∧ st'.2.2.2 = st.2.2.2) ∧ (st'.1 = 0 → n' ≤ 15000 ∧ (∀ k : Nat, k < n' → 0 ≤ f' k ∧ f' k < 256) ∧ rdP st h ≤ rdP st' h') ∧ RwC q en t nc m cnt ch ls i n f g x y st h n' f' st' h' ∧ RwM q en t nc m cnt ch ls i n f g x y st h n' f' st' h' := by
  have w50 : w32 50 = 50 := by decide
  have w0 : w32 0 = 0 := by decide
  have wnc : Unit → w32 ((nc : Nat) : Int) = nc := fun _ => w32_of (by omega)
  have wmm : Unit → w32 ((m : Nat) : Int) = m := fun _ => w32_of (by omega)
  -- a rule told
  have tc : ∀ (S A : ms) (o : Nat) (st : Rd) (h x y i : Int), st.1 ≠ 0 → rdR en st → CB S A o en t st h → EV q 167 12 [some (.ref 94), some (.ref 9), some (vI x), some (vI y), some (vI i), none] [] A none A := by
    intro S A o st h x y i c hr hA
    have wr : w32 st.1 = st.1 := w32_of (by have := hr.1; omega)
    refine vc_Sorted_openRow_12 _ _ _ ⟨fun _ => ⟨rfl, rfl⟩, fun _ => ?_⟩
    rw [hA.2.1.2.1, wr]
    exact cY c ⟨rfl, rfl⟩
  have tm : ∀ (S B : ms) (st : Rd) (h x1 x2 x3 x4 x6 x8 x9 : Int), st.1 ≠ 0 → rdR en st → MB S B en st h → EV q 364 46 [some (.ref 367), some (vI x1), some (vI x2), some (vI x3), some (vL x4), none, some (vL x6), none, some (vI x8), some (vI x9), none, none, none] [] B none B := by
    intro S B st h x1 x2 x3 x4 x6 x8 x9 c hr hB
    have kf := md_fine (q := q) hr hB
    rw [if_neg c] at kf
    exact vc_MD_readSymbols_46 _ _ _ _ _ _ _ ⟨fun _ => ⟨rfl, rfl⟩, fun _ => ⟨0, B, kf, cY (by decide) ⟨rfl, rfl⟩⟩⟩
  intro fu
  induction fu with
  | zero =>
    intro i n f g x y st h hfu _ _ _ _ _ hr hh
    have a1 := hr.2.1
    have a2 := hh.1
    unfold rdP at hfu
    omega
  | succ fu ih =>
    intro i n f g x y st h hfu hi hn hf hg hxy hr hh c0
    have wi : Unit → w32 ((i : Nat) : Int) = i := fun _ => w32_of (by omega)
    have ei : ((i + 1 : Nat) : Int) = (i : Int) + 1 := by omega
    have ed : Unit → w32 (Int.tdiv (i : Int) 50) = ((i / 50 : Nat) : Int) := fun _ => by
      rw [Int.tdiv_eq_ediv_of_nonneg (by omega), w32_of (by omega)]
      omega
    by_cases ci : i / 50 < nc
    case neg =>
      have ct : (rdTell 89 st).1 ≠ 0 := rdTell_1 (by decide)
      refine ⟨n, f, rdTell 89 st, h, ⟨rdR_tell hr (by decide), Fw_tellAt, hR_n hh Fw_tellAt, by rw [rdTell_2]⟩, fun z => absurd z ct, fun S A o hC hG hR hA => ?_, fun S B hC hG hR hB => ?_⟩
      · have ho := hC.2.2.2.1.2.2.1
        obtain ⟨A1, k1, k2⟩ := sb_tell (q := q) (k := 89) hr ho hA
        have h5 : A.1 9 5 = 0 := by rw [hA.2.1.2.1]; exact c0
        have hN : A.1 94 15 = nc := by rw [hA.2.2.2 94 15 (by omega) (by omega) (by omega)]; exact hC.2.1
        refine ⟨S, A1, EX.refl _ S, k2, fun z => absurd z ct, vc_Sorted_openRow_12 _ _ _ ?_⟩
        rw [wi (), h5, hN, wnc (), w50, ed ()]
        exact cNo (by omega) (cNN (by decide) (cNo (by omega) ⟨A1, k1, rfl, rfl⟩))
      · obtain ⟨B1, k1, k2⟩ := mb_tell (q := q) (k := 89) hr he.2 hh hB
        have kf := md_fine (q := q) hr hB
        rw [if_pos c0] at kf
        refine ⟨S, B1, EX.refl _ S, k2, fun z => absurd z ct, vc_MD_readSymbols_46 _ _ _ _ _ _ _ (cNo (by decide) ⟨1, B, kf, cNo (by decide) ?_⟩)⟩
        rw [wi (), wnc (), w50, ed ()]
        exact cNo (by omega) ⟨B1, k1, rfl, rfl⟩
    obtain ⟨c, ec⟩ : ∃ c : Nat, ch ((i / 50 : Nat) : Int) = c := ⟨(ch ((i / 50 : Nat) : Int)).toNat, by have := hch (i / 50) ci; omega⟩
    have hcc : c < cnt := by have := hch (i / 50) ci; omega
    have wcc : Unit → w32 ((c : Nat) : Int) = c := fun _ => w32_of (by omega)
    obtain ⟨i1, i2⟩ := cA_is (show c < 6 by omega)
    obtain ⟨s, st1, h1, ⟨g1, g2, g3, g4⟩, g5, g6, g7, g8⟩ := jsymS (q := q) (hi := 1) (l := ls c) (n := m + 2) he ht (Or.inr rfl) (by omega) (fun k hk => by have := hls c hcc k hk; omega) hr hh
    -- as far as the symbol
    have csy : ∀ (S A : ms) (o : Nat), HrC en t nc m cnt ch ls S o → CB S A o en t st h → ∃ A1, EV q 134 0 [some (.ref 9), some (.ref (107 + 11 * c)), some (vI 88), none, none, none, none, none] [] A (some (vI s)) A1 ∧ CB S A1 o en t st1 h1 := fun S A o hC hA => g7 S A o _ hC.1 hC.2.2.2.1 (hC.2.2.2.2.2 c hcc) hA
    have cfx : ∀ (S A : ms) (o : Nat), HrC en t nc m cnt ch ls S o → CB S A o en t st h → A.1 9 5 = 0 ∧ A.1 94 15 = nc ∧ A.1 106 ((i / 50 : Nat) : Int) = c := by
      intro S A o hC hA
      have ho := hC.2.2.2.1.2.2.1
      exact ⟨by rw [hA.2.1.2.1]; exact c0, by rw [hA.2.2.2 94 15 (by omega) (by omega) (by omega)]; exact hC.2.1, by rw [hA.2.2.2 106 _ (by omega) (by omega) (by omega), ← ec]; exact hC.2.2.2.2.1 _ ci⟩
    have msy : ∀ S B : ms, HrM en t nc m cnt ch ls S → MB S B en st h → ∃ B1, EV q 365 0 [some (.ref 367), some (vI (c : Nat)), some (vI ((m + 2 : Nat) : Int)), none, none, none, none] [] B (some (vI s)) B1 ∧ MB S B1 en st1 h1 ∧ B.1 415 ((i / 50 : Nat) : Int) = c ∧ EV q 333 0 [some (.ref 367)] [] B (some (vI 1)) B := by
      intro S B hC hB
      obtain ⟨B1, k1, k2⟩ := g8 S B c hC.1 hC.2.1 (hC.2.2.2 c hcc) hB
      have kf := md_fine (q := q) hr hB
      rw [if_pos c0] at kf
      exact ⟨B1, k1, k2, by rw [hB.2.2.2 415 _ (by omega) (by omega), ← ec]; exact hC.2.2.1 _ ci, kf⟩
    by_cases c1 : st1.1 = 0
    case neg =>
      have es := g6 c1
      refine ⟨n, f, st1, h1, ⟨g1, g2, g3, g4⟩, fun z => absurd z c1, fun S A o hC hG hR hA => ?_, fun S B hC hG hR hB => ?_⟩
      · obtain ⟨A1, k1, k2⟩ := csy S A o hC hA
        obtain ⟨f1, f2, f3⟩ := cfx S A o hC hA
        refine ⟨S, A1, EX.refl _ S, k2, fun z => absurd z c1, vc_Sorted_openRow_12 _ _ _ ?_⟩
        rw [wi (), f1, f2, wnc (), w50, ed (), f3, wcc ()]
        refine cNo (by omega) (cNN (by decide) (cY (by omega) ⟨by omega, by omega, 107 + 11 * c, by rw [Int.toNat_natCast]; exact i2, i1, s, A1, k1, ?_⟩))
        rw [es]
        exact cNo (by decide) (cY (by decide) (cY (by decide) (vc_Sorted_openRow_161 _ _ _ _ (tc S A1 o st1 h1 _ _ _ c1 g1 k2))))
      · obtain ⟨B1, k1, k2, k3, k4⟩ := msy S B hC hB
        refine ⟨S, B1, EX.refl _ S, k2, fun z => absurd z c1, vc_MD_readSymbols_46 _ _ _ _ _ _ _ (cNo (by decide) ⟨1, B, k4, cNo (by decide) ?_⟩)⟩
        rw [wi (), wnc (), w50, ed (), k3]
        refine cY (by omega) ⟨by omega, s, B1, k1, ?_⟩
        rw [es]
        exact cNo (by decide) ⟨rfl, rfl⟩
    obtain ⟨hs, hp⟩ := g5 c1
    have ws : w32 s = s := w32_of (by omega)
    by_cases s2 : s < 2
    · -- a figure of the number
      obtain ⟨x', e1, e2, e3⟩ : ∃ x' : Int, x + y * (s + 1) = x' ∧ x + w32 (s + 1) * y = x' ∧ x + y ≤ x' ∧ x' ≤ x + 2 * y := by
        have hs2 : s = 0 ∨ s = 1 := by omega
        rcases hs2 with rfl | rfl
        · exact ⟨x + y, by omega, by rw [show w32 (0 + 1) = 1 by decide]; omega, by omega, by omega⟩
        · exact ⟨x + 2 * y, by omega, by rw [show w32 (1 + 1) = 2 by decide], by omega, by omega⟩
      have wx : w32 x' = x' := w32_of (by omega)
      have wx' : w64 x' = x' := w64_of (by omega)
      have w15 : w64 15000 = 15000 := by decide
      by_cases cx : x' ≤ 15000
      · obtain ⟨n', f', st', h', ⟨j1, j2, j3, j4⟩, j5, j6, j7⟩ := ih (i + 1) n f g x' (y * 2) st1 h1 (by omega) (by omega) hn hf hg (by omega) g1 g3 c1
        refine ⟨n', f', st', h', ⟨j1, Fw_t g2 j2, j3, j4.trans g4⟩, fun z => ⟨(j5 z).1, (j5 z).2.1, by have := (j5 z).2.2; omega⟩, fun S A o hC hG hR hA => ?_, fun S B hC hG hR hB => ?_⟩
        · obtain ⟨A1, k1, k2⟩ := csy S A o hC hA
          obtain ⟨f1, f2, f3⟩ := cfx S A o hC hA
          obtain ⟨S2, A2, k3, k4, k5, k6⟩ := j6 S A1 o hC hG hR k2
          rw [ei] at k6
          refine ⟨S2, A2, k3, k4, k5, vc_Sorted_openRow_12 _ _ _ ?_⟩
          have k79 : EV q 167 79 [some (.ref 94), some (.ref 9), some (vI x), some (vI y), some (vI i), some (vI s)] [] A1 none A2 := by
            refine vc_Sorted_openRow_79 _ _ _ _ ?_
            rw [e1, wx]
            exact cY cx (vc_Sorted_openRow_161 _ _ _ _ k6)
          rw [wi (), f1, f2, wnc (), w50, ed (), f3, wcc ()]
          refine cNo (by omega) (cNN (by decide) (cY (by omega) ⟨by omega, by omega, 107 + 11 * c, by rw [Int.toNat_natCast]; exact i2, i1, s, A1, k1, ?_⟩))
          rw [ws]
          exact ⟨fun _ => k79, fun z => cNN (by omega) k79⟩
        · obtain ⟨B1, k1, k2, k3, k4⟩ := msy S B hC hB
          obtain ⟨S2, B2, k5, k6, k7, k8⟩ := j7 S B1 hC hG hR k2
          rw [ei] at k8
          refine ⟨S2, B2, k5, k6, k7, vc_MD_readSymbols_46 _ _ _ _ _ _ _ (cNo (by decide) ⟨1, B, k4, cNo (by decide) ?_⟩)⟩
          rw [wi (), wnc (), w50, ed (), k3]
          refine cY (by omega) ⟨by omega, s, B1, k1, ?_⟩
          rw [ws, e2, wx', w15]
          exact cY (by omega) (cNo (by omega) (cY cx k8))
      · have ct : (rdTell 13 st1).1 ≠ 0 := rdTell_1 (by decide)
        have hrt : rdR en (rdTell 13 st1) := rdR_tell g1 (by decide)
        refine ⟨n, f, rdTell 13 st1, h1, ⟨hrt, Fw_t g2 Fw_tellAt, hR_n g3 Fw_tellAt, by rw [rdTell_2]; exact g4⟩, fun z => absurd z ct, fun S A o hC hG hR hA => ?_, fun S B hC hG hR hB => ?_⟩
        · have ho := hC.2.2.2.1.2.2.1
          obtain ⟨A1, k1, k2⟩ := csy S A o hC hA
          obtain ⟨f1, f2, f3⟩ := cfx S A o hC hA
          obtain ⟨A2, k3, k4⟩ := sb_tell (q := q) (k := 13) g1 ho k2
          refine ⟨S, A2, EX.refl _ S, k4, fun z => absurd z ct, vc_Sorted_openRow_12 _ _ _ ?_⟩
          have k79 : EV q 167 79 [some (.ref 94), some (.ref 9), some (vI x), some (vI y), some (vI i), some (vI s)] [] A1 none A2 := by
            refine vc_Sorted_openRow_79 _ _ _ _ ?_
            rw [e1, wx]
            exact cNo cx ⟨A2, k3, vc_Sorted_openRow_161 _ _ _ _ (tc S A2 o _ h1 _ _ _ ct hrt k4)⟩
          rw [wi (), f1, f2, wnc (), w50, ed (), f3, wcc ()]
          refine cNo (by omega) (cNN (by decide) (cY (by omega) ⟨by omega, by omega, 107 + 11 * c, by rw [Int.toNat_natCast]; exact i2, i1, s, A1, k1, ?_⟩))
          rw [ws]
          exact ⟨fun _ => k79, fun z => cNN (by omega) k79⟩
        · obtain ⟨B1, k1, k2, k3, k4⟩ := msy S B hC hB
          obtain ⟨B2, k5, k6⟩ := mb_tell (q := q) (k := 13) g1 he.2 g3 k2
          refine ⟨S, B2, EX.refl _ S, k6, fun z => absurd z ct, vc_MD_readSymbols_46 _ _ _ _ _ _ _ (cNo (by decide) ⟨1, B, k4, cNo (by decide) ?_⟩)⟩
          rw [wi (), wnc (), w50, ed (), k3]
          refine cY (by omega) ⟨by omega, s, B1, k1, ?_⟩
          rw [ws, e2, wx', w15]
          exact cY (by omega) (cNo (by omega) (cNo cx ⟨B2, k5, tm S B2 _ h1 _ _ _ _ _ _ _ ct hrt k6⟩))
    -- a sign, or the end
    obtain ⟨X, eX⟩ : ∃ X : Nat, x = X := ⟨x.toNat, by omega⟩
    subst eX
    have wX : Unit → w32 ((X : Nat) : Int) = X := fun _ => w32_of (by omega)
    have wX' : Unit → w64 ((X : Nat) : Int) = X := fun _ => w64_of (by omega)
    have wn : Unit → w32 ((n : Nat) : Int) = n := fun _ => w32_of (by omega)
    have w15 : w64 15000 = 15000 := by decide
    have w00 : w64 0 = 0 := by decide
    have w1n : Unit → w32 (15000 - ((n : Nat) : Int)) = 15000 - n := fun _ => w32_of (by omega)
    have wnX : Unit → w64 ((n : Int) + X) = (n : Int) + X := fun _ => w64_of (by omega)
    have wm1 : Unit → w32 ((m : Int) + 1) = (m : Int) + 1 := fun _ => w32_of (by omega)
    obtain ⟨p, ep⟩ : ∃ p : Nat, s - 1 = p := ⟨(s - 1).toNat, by omega⟩
    have mfx : ∀ S B1 : ms, RowM S n f → (∀ k : Nat, k < m → S.1 410 k = b8 (g k)) → MB S B1 en st1 h1 → RowM B1 n f ∧ ∀ k : Nat, k < m → B1.1 410 k = b8 (g k) := by
      intro S B1 hR hG hB1
      exact ⟨⟨by rw [hB1.2.2.2 367 66 (by omega) (by omega)]; exact hR.1, fun k hk => by rw [hB1.2.2.2 406 k (by omega) (by omega)]; exact hR.2 k hk⟩, fun k hk => by rw [hB1.2.2.2 410 k (by omega) (by omega)]; exact hG k hk⟩
    have cfy : ∀ (S A1 : ms) (o : Nat), (300 < o ∨ o = 7) → RowC S n f → (∀ k : Nat, k < m → S.1 102 k = g k) → CB S A1 o en t st1 h1 → RowC A1 n f ∧ A1.1 102 (w32 0) = g 0 := by
      intro S A1 o ho hR hG hA1
      refine ⟨⟨by rw [hA1.2.2.2 94 1 (by omega) (by omega) (by omega)]; exact hR.1, fun k hk => by rw [hA1.2.2.2 101 k (by omega) (by omega) (by omega)]; exact hR.2 k hk⟩, ?_⟩
      rw [w0, hA1.2.2.2 102 0 (by omega) (by omega) (by omega)]
      exact hG 0 (by omega)
    by_cases cf : n + X ≤ 15000
    case neg =>
      have ct : (rdTell 13 st1).1 ≠ 0 := rdTell_1 (by decide)
      have hrt : rdR en (rdTell 13 st1) := rdR_tell g1 (by decide)
      refine ⟨n, f, rdTell 13 st1, h1, ⟨hrt, Fw_t g2 Fw_tellAt, hR_n g3 Fw_tellAt, by rw [rdTell_2]; exact g4⟩, fun z => absurd z ct, fun S A o hC hG hR hA => ?_, fun S B hC hG hR hB => ?_⟩
      · have ho := hC.2.2.2.1.2.2.1
        obtain ⟨A1, k1, k2⟩ := csy S A o hC hA
        obtain ⟨f1, f2, f3⟩ := cfx S A o hC hA
        obtain ⟨r1, r2⟩ := cfy S A1 o ho hR hG k2
        obtain ⟨A2, k3, k4⟩ := sb_tell (q := q) (k := 13) g1 ho k2
        have k168 : ∀ v : Int, EV q 168 0 [some (.ref 94), some (.ref 9), some (vI v), some (vI X), none] [] A1 none A2 := by
          intro v
          refine vc_Sorted_rowTimes _ _ ?_
          rw [r1.1, wX (), w1n ()]
          exact cNo (by omega) ⟨A2, k3, rfl, rfl⟩
        have e9 : A2.1 94 9 = m := by rw [k4.2.2.2 94 9 (by omega) (by omega) (by omega)]; exact hC.2.2.1
        by_cases ce : s ≤ m
        · obtain ⟨S3, A3, A4, m1, m2, m3, m4, m5, m6⟩ := cr_one (q := q) (p := p) (m := m) hrt ho hn (by omega) hm.2 hG hR k4
          rw [show (if n + 1 ≤ 15000 then rdTell 13 st1 else rdTell 13 (rdTell 13 st1)) = rdTell 13 st1 by split; rfl; exact rdTell_r ct] at m4
          refine ⟨S3, A4, m1, m4, fun z => absurd z ct, vc_Sorted_openRow_12 _ _ _ ?_⟩
          rw [wi (), f1, f2, wnc (), w50, ed (), f3, wcc ()]
          refine cNo (by omega) (cNN (by decide) (cY (by omega) ⟨by omega, by omega, 107 + 11 * c, by rw [Int.toNat_natCast]; exact i2, i1, s, A1, k1, ?_⟩))
          rw [ws]
          refine cNo (by omega) (cY (by omega) (cNo (by omega) ⟨by decide, A2, k168 _, ?_⟩))
          rw [e9, wmm (), ep]
          exact cY ce ⟨p, A3, m2, by decide, A4, m3, vc_Sorted_openRow_161 _ _ _ _ (tc S3 A4 o _ h1 _ _ _ ct hrt m4)⟩
        · refine ⟨S, A2, EX.refl _ S, k4, fun z => absurd z ct, vc_Sorted_openRow_12 _ _ _ ?_⟩
          rw [wi (), f1, f2, wnc (), w50, ed (), f3, wcc ()]
          refine cNo (by omega) (cNN (by decide) (cY (by omega) ⟨by omega, by omega, 107 + 11 * c, by rw [Int.toNat_natCast]; exact i2, i1, s, A1, k1, ?_⟩))
          rw [ws]
          refine cNo (by omega) (cY (by omega) (cNo (by omega) ⟨by decide, A2, k168 _, ?_⟩))
          rw [e9, wmm ()]
          exact cNo ce ⟨rfl, rfl⟩
      · obtain ⟨B1, k1, k2, k3, k4⟩ := msy S B hC hB
        obtain ⟨r1, r2⟩ := mfx S B1 hR hG k2
        obtain ⟨B2, k5, k6⟩ := mb_tell (q := q) (k := 13) g1 he.2 g3 k2
        refine ⟨S, B2, EX.refl _ S, k6, fun z => absurd z ct, vc_MD_readSymbols_46 _ _ _ _ _ _ _ (cNo (by decide) ⟨1, B, k4, cNo (by decide) ?_⟩)⟩
        rw [wi (), wnc (), w50, ed (), k3]
        refine cY (by omega) ⟨by omega, s, B1, k1, ?_⟩
        rw [ws, wX' (), w00, r1.1, wn (), wnX (), w15]
        exact cY (by omega) (cY (by omega) (cNo (by omega) (cNo (by omega) ⟨B2, k5, rfl, rfl⟩)))
    -- the octets of the number
    have cnm : ∀ (S A1 : ms) (o : Nat), (300 < o ∨ o = 7) → RowC S n f → (∀ k : Nat, k < m → S.1 102 k = g k) → CB S A1 o en t st1 h1 → ∃ S2 A2, EX xRC S S2 ∧ CB S2 A2 o en t st1 h1 ∧ RowC S2 (n + X) (fT f n (g 0)) ∧ (∀ k : Nat, k < m → S2.1 102 k = g k) ∧ EV q 168 0 [some (.ref 94), some (.ref 9), some (vI (A1.1 102 (w32 0))), some (vI X), none] [] A1 none A2 := by
      intro S A1 o ho hR hG hA1
      obtain ⟨r1, r2⟩ := cfy S A1 o ho hR hG hA1
      obtain ⟨A2, k4, k5, k6⟩ := sp_rowT (q := q) (v := g 0) (m := X) cf r1
      obtain ⟨S3, s4, s5, s6⟩ := CB_X (X := fun a k => a = 101 ∨ (a = 94 ∧ k = 1)) (fun a k y => by omega) hA1 k5
      rw [r2]
      exact ⟨S3, A2, EX.mono s4 (fun a k y => y.elim Or.inl (fun z => Or.inr (Or.inr z))), s6, ⟨by rw [s5 94 1 (Or.inr ⟨rfl, rfl⟩)]; exact k6.1, fun k hk => by rw [s5 101 k (Or.inl rfl)]; exact k6.2 k hk⟩, fun k hk => by rw [s4.2 102 k (by omega)]; exact hG k hk, k4⟩
    have mnm : ∀ S B1 : ms, RowM S n f → (∀ k : Nat, k < m → S.1 410 k = b8 (g k)) → MB S B1 en st1 h1 → ∃ S2 B2, EX xRM S S2 ∧ MB S2 B2 en st1 h1 ∧ RowM B2 (n + X) (fT f n (g 0)) ∧ (∀ k : Nat, k < m → B2.1 410 k = b8 (g k)) ∧ RowM S2 (n + X) (fT f n (g 0)) ∧ ∀ (x1 x2 x3 x6 x8 x9 x10 : Int) (r : Option Value) (T' : ms), EV q 364 177 [some (.ref 367), some (vI x1), some (vI x2), some (vI x3), some (vL X), none, some (vL x6), none, some (vI x8), some (vI x9), some (vI x10), some (vL X), none] [] B2 r T' → EV q 364 174 [some (.ref 367), some (vI x1), some (vI x2), some (vI x3), some (vL X), none, some (vL x6), none, some (vI x8), some (vI x9), some (vI x10), none, none] [] B1 r T' := by
      intro S B1 hR hG hB1
      obtain ⟨r1, r2⟩ := mfx S B1 hR hG hB1
      obtain ⟨B2, k4, k5, k6⟩ := md_rwL (q := q) (f := f) (v := g 0) cf X 0 B1 (by omega) (r2 0 (by omega)) ⟨by rw [r1.1]; rfl, fun k hk => by rw [fT_lo (by omega)]; exact r1.2 k (by omega)⟩
      obtain ⟨S3, s4, s5, s6⟩ := MB_X (X := fun a k => a = 406 ∨ (a = 367 ∧ k = 66)) (fun a k y => by omega) hB1 k4
      exact ⟨S3, B2, EX.mono s4 (fun a k y => y.elim Or.inl (fun z => Or.inr (Or.inr z))), s6, k5, fun k hk => by rw [k4.2 410 k (by omega)]; exact r2 k hk, ⟨by rw [s5 367 66 (Or.inr ⟨rfl, rfl⟩)]; exact k5.1, fun k hk => by rw [s5 406 k (Or.inl rfl)]; exact k5.2 k hk⟩, fun x1 x2 x3 x6 x8 x9 x10 r T' k => vc_MD_readSymbols_174 _ _ _ _ _ _ _ _ (k6 x1 x2 x3 x6 x8 x9 x10 r T' k)⟩
    have hf1 : ∀ (M : Nat) (k : Nat), k < M → 0 ≤ fT f n (g 0) k ∧ fT f n (g 0) k < 256 := fun M => fT_rg hf (hg 0 (by omega))
    have m174 : ∀ S B B1 B2 : ms, MB S B1 en st1 h1 → RowM S n f → (∀ k : Nat, k < m → S.1 410 k = b8 (g k)) → EV q 365 0 [some (.ref 367), some (vI (c : Nat)), some (vI ((m + 2 : Nat) : Int)), none, none, none, none] [] B (some (vI s)) B1 → B.1 415 ((i / 50 : Nat) : Int) = c → EV q 333 0 [some (.ref 367)] [] B (some (vI 1)) B → EV q 364 174 [some (.ref 367), some (vI m), some (vI ((m + 2 : Nat) : Int)), some (vI nc), some (vL X), none, some (vL y), none, some (vI ((i : Int) + 1)), some (vI 1), some (vI s), none, none] [] B1 none B2 → EV q 364 46 [some (.ref 367), some (vI m), some (vI ((m + 2 : Nat) : Int)), some (vI nc), some (vL X), none, some (vL y), none, some (vI i), some (vI 1), none, none, none] [] B none B2 := by
      intro S B B1 B2 hB1 hR hG k1 k3 k4 k
      obtain ⟨r1, r2⟩ := mfx S B1 hR hG hB1
      refine vc_MD_readSymbols_46 _ _ _ _ _ _ _ (cNo (by decide) ⟨1, B, k4, cNo (by decide) ?_⟩)
      rw [wi (), wnc (), w50, ed (), k3]
      refine cY (by omega) ⟨by omega, s, B1, k1, ?_⟩
      rw [ws, wX' (), w00, r1.1, wn (), wnX (), w15]
      exact cY (by omega) (cY (by omega) ⟨fun _ => k, fun _ => cY (by omega) k⟩)
    by_cases ce : s ≤ m
    case neg =>
      -- the end
      refine ⟨n + X, fT f n (g 0), st1, h1, ⟨g1, g2, g3, g4⟩, fun z => ⟨cf, hf1 _, by omega⟩, fun S A o hC hG hR hA => ?_, fun S B hC hG hR hB => ?_⟩
      · have ho := hC.2.2.2.1.2.2.1
        obtain ⟨A1, k1, k2⟩ := csy S A o hC hA
        obtain ⟨f1, f2, f3⟩ := cfx S A o hC hA
        obtain ⟨S2, A2, m1, m2, m3, m4, m5⟩ := cnm S A1 o ho hR hG k2
        have e9 : A2.1 94 9 = m := by rw [m2.2.2.2 94 9 (by omega) (by omega) (by omega)]; exact (HrC_ex hcnt hC m1).2.2.1
        refine ⟨S2, A2, m1, m2, fun _ => m3, vc_Sorted_openRow_12 _ _ _ ?_⟩
        rw [wi (), f1, f2, wnc (), w50, ed (), f3, wcc ()]
        refine cNo (by omega) (cNN (by decide) (cY (by omega) ⟨by omega, by omega, 107 + 11 * c, by rw [Int.toNat_natCast]; exact i2, i1, s, A1, k1, ?_⟩))
        rw [ws]
        refine cNo (by omega) (cY (by omega) (cNo (by omega) ⟨by decide, A2, m5, ?_⟩))
        rw [e9, wmm ()]
        exact cNo ce ⟨rfl, rfl⟩
      · obtain ⟨B1, k1, k2, k3, k4⟩ := msy S B hC hB
        obtain ⟨S2, B2, m1, m2, m3, m4, m5, m6⟩ := mnm S B1 hR hG k2
        refine ⟨S2, B2, m1, m2, fun _ => m5, m174 S B B1 B2 k2 hR hG k1 k3 k4 (m6 _ _ _ _ _ _ _ none B2 (vc_MD_readSymbols_177 _ _ _ _ _ _ _ _ _ (cY (Int.le_refl _) ?_)))⟩
        rw [ws, wm1 ()]
        exact cNN (by omega) (vc_MD_readSymbols_291 _ _ _ _ _ _ _ _ _ (vc_MD_readSymbols_46 _ _ _ _ _ _ _ (cY (by decide) ⟨rfl, rfl⟩)))
    have wnX2 : Unit → w32 ((n + X : Nat) : Int) = (n + X : Nat) := fun _ => w32_of (by omega)
    by_cases cn : n + X + 1 ≤ 15000
    case neg =>
      have ct : (rdTell 13 st1).1 ≠ 0 := rdTell_1 (by decide)
      have hrt : rdR en (rdTell 13 st1) := rdR_tell g1 (by decide)
      refine ⟨n, f, rdTell 13 st1, h1, ⟨hrt, Fw_t g2 Fw_tellAt, hR_n g3 Fw_tellAt, by rw [rdTell_2]; exact g4⟩, fun z => absurd z ct, fun S A o hC hG hR hA => ?_, fun S B hC hG hR hB => ?_⟩
      · have ho := hC.2.2.2.1.2.2.1
        obtain ⟨A1, k1, k2⟩ := csy S A o hC hA
        obtain ⟨f1, f2, f3⟩ := cfx S A o hC hA
        obtain ⟨S2, A2, m1, m2, m3, m4, m5⟩ := cnm S A1 o ho hR hG k2
        have e9 : A2.1 94 9 = m := by rw [m2.2.2.2 94 9 (by omega) (by omega) (by omega)]; exact (HrC_ex hcnt hC m1).2.2.1
        obtain ⟨S3, A3, A4, n1, n2, n3, n4, n5, n6⟩ := cr_one (q := q) (p := p) (m := m) g1 ho cf (by omega) hm.2 m4 m3 m2
        rw [if_neg cn] at n4
        refine ⟨S3, A4, EX.trans m1 n1, n4, fun z => absurd z ct, vc_Sorted_openRow_12 _ _ _ ?_⟩
        rw [wi (), f1, f2, wnc (), w50, ed (), f3, wcc ()]
        refine cNo (by omega) (cNN (by decide) (cY (by omega) ⟨by omega, by omega, 107 + 11 * c, by rw [Int.toNat_natCast]; exact i2, i1, s, A1, k1, ?_⟩))
        rw [ws]
        refine cNo (by omega) (cY (by omega) (cNo (by omega) ⟨by decide, A2, m5, ?_⟩))
        rw [e9, wmm (), ep]
        exact cY ce ⟨p, A3, n2, by decide, A4, n3, vc_Sorted_openRow_161 _ _ _ _ (tc S3 A4 o _ h1 _ _ _ ct hrt n4)⟩
      · obtain ⟨B1, k1, k2, k3, k4⟩ := msy S B hC hB
        obtain ⟨S2, B2, m1, m2, m3, m4, m5, m6⟩ := mnm S B1 hR hG k2
        obtain ⟨B3, k5, k6⟩ := mb_tell (q := q) (k := 13) g1 he.2 g3 m2
        refine ⟨S2, B3, m1, k6, fun z => absurd z ct, m174 S B B1 B3 k2 hR hG k1 k3 k4 (m6 _ _ _ _ _ _ _ none B3 (vc_MD_readSymbols_177 _ _ _ _ _ _ _ _ _ (cY (Int.le_refl _) ?_)))⟩
        rw [ws, wm1 (), m3.1, wnX2 ()]
        exact cY (by omega) (cNN (by omega) ⟨B3, k5, vc_MD_readSymbols_291 _ _ _ _ _ _ _ _ _ (tm S2 B3 _ h1 _ _ _ _ _ _ _ ct hrt k6)⟩)
    -- one sign
    have hg' : ∀ k : Nat, k < m → 0 ≤ tF p g k ∧ tF p g k < 256 := tF_all (P := fun z => 0 ≤ z ∧ z < 256) (show p < m by omega) hg
    obtain ⟨n', f', st', h', ⟨j1, j2, j3, j4⟩, j5, j6, j7⟩ := ih (i + 1) (n + X + 1) (fT (fT f n (g 0)) (n + X) (g p)) (tF p g) 0 1 st1 h1 (by omega) (by omega) cn (fT_rg (hf1 _) (hg p (by omega))) hg' (by omega) g1 g3 c1
    refine ⟨n', f', st', h', ⟨j1, Fw_t g2 j2, j3, j4.trans g4⟩, fun z => ⟨(j5 z).1, (j5 z).2.1, by have := (j5 z).2.2; omega⟩, fun S A o hC hG hR hA => ?_, fun S B hC hG hR hB => ?_⟩
    · have ho := hC.2.2.2.1.2.2.1
      obtain ⟨A1, k1, k2⟩ := csy S A o hC hA
      obtain ⟨f1, f2, f3⟩ := cfx S A o hC hA
      obtain ⟨S2, A2, m1, m2, m3, m4, m5⟩ := cnm S A1 o ho hR hG k2
      have e9 : A2.1 94 9 = m := by rw [m2.2.2.2 94 9 (by omega) (by omega) (by omega)]; exact (HrC_ex hcnt hC m1).2.2.1
      obtain ⟨S3, A3, A4, n1, n2, n3, n4, n5, n6⟩ := cr_one (q := q) (p := p) (m := m) g1 ho cf (by omega) hm.2 m4 m3 m2
      rw [if_pos cn] at n4
      obtain ⟨S5, A5, k3, k4, k5, k6⟩ := j6 S3 A4 o (HrC_ex hcnt hC (EX.trans m1 n1)) n5 (n6 cn) n4
      rw [ei] at k6
      refine ⟨S5, A5, EX.trans (EX.trans m1 n1) k3, k4, k5, vc_Sorted_openRow_12 _ _ _ ?_⟩
      rw [wi (), f1, f2, wnc (), w50, ed (), f3, wcc ()]
      refine cNo (by omega) (cNN (by decide) (cY (by omega) ⟨by omega, by omega, 107 + 11 * c, by rw [Int.toNat_natCast]; exact i2, i1, s, A1, k1, ?_⟩))
      rw [ws]
      refine cNo (by omega) (cY (by omega) (cNo (by omega) ⟨by decide, A2, m5, ?_⟩))
      rw [e9, wmm (), ep]
      exact cY ce ⟨p, A3, n2, by decide, A4, n3, vc_Sorted_openRow_161 _ _ _ _ k6⟩
    · obtain ⟨B1, k1, k2, k3, k4⟩ := msy S B hC hB
      obtain ⟨S2, B2, m1, m2, m3, m4, m5, m6⟩ := mnm S B1 hR hG k2
      obtain ⟨B3, k5, k6, k7⟩ := md_front (q := q) (S := B2) (g := g) (N := m) (p := p) (by omega) hm.2 m4
      have e0 : B3.1 410 (w32 0) = b8 (g p) := by
        have := k7 0 (by omega)
        rw [show ((0 : Nat) : Int) = 0 from rfl, tF_0] at this
        rw [w0, this]
      have e8 : b8 (b8 (g p)) = b8 (g p) := b8_of (b8_rg _)
      have e66 : B3.1 367 66 = (n + X : Nat) := by rw [k6.2 367 66 (show ¬ (367 : Nat) = 410 by decide)]; exact m3.1
      have e67 : (wI B3 406 (n + X : Nat) (b8 (g p))).1 367 66 = (n + X : Nat) := by rw [wI_no _ (by omega)]; exact e66
      have en1 : ((n + X + 1 : Nat) : Int) = ((n + X : Nat) : Int) + 1 := by omega
      obtain ⟨B4, eB⟩ : ∃ B4 : ms, B4 = wI (wI B3 406 (n + X : Nat) (b8 (g p))) 367 66 (((n + X : Nat) : Int) + 1) := ⟨_, rfl⟩
      have ex4 : EX xRM B2 B4 := by
        rw [eB]
        exact EX.wr (EX.wr (EX.mono k6 (fun a k z => show xRM a k from Or.inr (Or.inl z))) (show xRM 406 _ from Or.inl rfl)) (show xRM 367 66 from Or.inr (Or.inr ⟨rfl, rfl⟩))
      obtain ⟨S4, s4, s5, s6⟩ := MB_X (X := xRM) (fun a k z => by unfold xRM at z; omega) m2 ex4
      obtain ⟨S5, B5, n1, n2, n3, n4⟩ := j7 S4 B4 (HrM_ex hC (EX.trans m1 s4)) (fun k hk => by
        rw [s5 410 k (Or.inr (Or.inl rfl)), eB, wI_no _ (by omega), wI_no _ (by omega)]
        exact k7 k hk) ⟨by rw [s5 367 66 (Or.inr (Or.inr ⟨rfl, rfl⟩)), eB, wI_at, en1], fun k hk => by
        rw [s5 406 k (Or.inl rfl), eB, wI_no _ (by omega)]
        by_cases d : k = n + X
        · subst d; rw [wI_at, fT_hi (by omega)]
        · rw [wI_no _ (by omega), k6.2 406 k (show ¬ (406 : Nat) = 410 by decide), fT_lo (by omega)]
          exact m3.2 k (by omega)⟩ s6
      rw [ei] at n4
      refine ⟨S5, B5, EX.trans (EX.trans m1 s4) n1, n2, n3, m174 S B B1 B5 k2 hR hG k1 k3 k4 (m6 _ _ _ _ _ _ _ none B5 (vc_MD_readSymbols_177 _ _ _ _ _ _ _ _ _ (cY (Int.le_refl _) ?_)))⟩
      rw [ws, wm1 (), m3.1, wnX2 (), ep]
      refine cY (by omega) (cY (by omega) ⟨B3, k5, by decide, ?_⟩)
      rw [e66, wnX2 (), e0, e8]
      refine ⟨by omega, fun S6 e6 S7 e7 => vc_MD_readSymbols_291 _ _ _ _ _ _ _ _ _ ?_⟩
      rw [e7, e6, e67, ← eB]
      exact n4
end SrtC
