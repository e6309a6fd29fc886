/-! BLOCKS: a match, both sides at once -/
section Blk
variable {q : Nat × (Nat → Int32)} {en : Int}
def GapC (q : Nat × (Nat → Int32)) (a2 : Nat) (x1 x3 x4 z8 : Int) (A : ms) (r : Option Value) (S' : ms) : Prop := ((w32 z8 < 0) → EV q 135 52 [some (.ref 9), some (vI x1), some (.ref a2), some (vI x3), some (vL x4), none, some (vI z8), none, none] [] A r S') ∧ ((¬ w32 z8 < 0) → ((w32 z8 < 30) → (0 ≤ w32 z8 ∧ w32 z8 < (30 : Nat)) ∧ (0 ≤ w32 z8 ∧ w32 z8 < (30 : Nat)) ∧ ∃ (z13 : Int) (S11 : ms), EV q 123 0 [some (.ref 9), some (vI (sS 5 (w32 z8))), none, none, none] [] A (some (vL z13)) S11 ∧ ∃ (o14 no14 : Nat), S11.2.2 9 1 = o14 ∧ isRow o14 no14 ∧ ((w64 (w32 (S11.1 o14 1)) < w64 ((w32 (sS 4 (w32 z8))) + z13)) → EV q 135 101 [some (.ref 9), some (vI x1), some (.ref a2), some (vI x3), some (vL x4), none, some (vI z8), some (vL ((w32 (sS 4 (w32 z8))) + z13)), none] [] S11 r S') ∧ ((¬ w64 (w32 (S11.1 o14 1)) < w64 ((w32 (sS 4 (w32 z8))) + z13)) → ((w64 ((w32 (sS 4 (w32 z8))) + z13) ≤ w64 (w32 x3)) → EV q 135 107 [some (.ref 9), some (vI x1), some (.ref a2), some (vI x3), some (vL x4), none, some (vI z8), some (vL ((w32 (sS 4 (w32 z8))) + z13)), none] [] S11 r S') ∧ ((¬ w64 ((w32 (sS 4 (w32 z8))) + z13) ≤ w64 (w32 x3)) → EV q 135 101 [some (.ref 9), some (vI x1), some (.ref a2), some (vI x3), some (vL x4), none, some (vI z8), some (vL ((w32 (sS 4 (w32 z8))) + z13)), none] [] S11 r S'))) ∧ ((¬ w32 z8 < 30) → EV q 135 52 [some (.ref 9), some (vI x1), some (.ref a2), some (vI x3), some (vL x4), none, some (vI z8), none, none] [] A r S'))
def MatM (q : Nat × (Nat → Int32)) (x1 z6 : Int) (B : ms) (r : Option Value) (S' : ms) : Prop := ((w32 z6 ≤ 285) → (0 ≤ w32 (z6 - 257) ∧ w32 (z6 - 257) < (30 : Nat)) ∧ (0 ≤ w32 (z6 - 257) ∧ w32 (z6 - 257) < (30 : Nat)) ∧ ∃ (z11 : Int) (S9 : ms), EV q 339 0 [some (.ref 367), some (vI (B.1 392 (w32 (z6 - 257)))), none, none, none, none, none] [] B (some (vL z11)) S9 ∧ ∃ (z14 : Int) (S12 : ms), EV q 333 0 [some (.ref 367)] [] S9 (some (vI z14)) S12 ∧ ((w32 z14 = 0) → EV q 349 132 [some (.ref 367), some (vI x1), some (vI z6), some (vL ((w32 (B.1 391 (w32 (z6 - 257)))) + z11)), none, none, none, none] [vI ((-1))] S12 r S') ∧ ((¬ w32 z14 = 0) → ∃ (z17 : Int) (S15 : ms), EV q 347 0 [some (.ref 367), some (.ref 387), some (.ref 388), some (vI (S12.1 367 59)), none, none, none, none] [] S12 (some (vI z17)) S15 ∧ EV q 349 132 [some (.ref 367), some (vI x1), some (vI z6), some (vL ((w32 (B.1 391 (w32 (z6 - 257)))) + z11)), none, none, none, none] [vI z17] S15 r S')) ∧ ((¬ w32 z6 ≤ 285) → ∃ (S18 : ms), EV q 337 0 [some (.ref 367), some (vI 11)] [] B none S18 ∧ EV q 349 223 [some (.ref 367), some (vI x1), some (vI z6), none, none, none, none, none] [] S18 r S')
/-- the reference's tables of sizes and gaps -/
def TbM (S : ms) : Prop := (∀ s : Int, 0 ≤ s → s < 29 → S.1 391 s = sS 0 s ∧ S.1 392 s = sS 1 s) ∧ ∀ d : Int, 0 ≤ d → d < 30 → S.1 393 d = sS 4 d ∧ S.1 394 d = sS 5 d
theorem sS_z {s : Int} (h : 0 ≤ s ∧ s < 29) : (3 ≤ sS 0 s ∧ sS 0 s ≤ 258) ∧ (0 ≤ sS 1 s ∧ sS 1 s ≤ 5) := by
  have k : ∀ i : Fin 29, (3 ≤ sS 0 (i.val : Int) ∧ sS 0 (i.val : Int) ≤ 258) ∧ (0 ≤ sS 1 (i.val : Int) ∧ sS 1 (i.val : Int) ≤ 5) := by decide
  obtain ⟨i, ei⟩ : ∃ i : Nat, s = i := ⟨s.toNat, by omega⟩
  subst ei
  exact k ⟨i, by omega⟩
theorem sS_g {s : Int} (h : 0 ≤ s ∧ s < 30) : (1 ≤ sS 4 s ∧ sS 4 s ≤ 24577) ∧ (0 ≤ sS 5 s ∧ sS 5 s ≤ 13) := by
  have k : ∀ i : Fin 30, (1 ≤ sS 4 (i.val : Int) ∧ sS 4 (i.val : Int) ≤ 24577) ∧ (0 ≤ sS 5 (i.val : Int) ∧ sS 5 (i.val : Int) ≤ 13) := by decide
  obtain ⟨i, ei⟩ : ∃ i : Nat, s = i := ⟨s.toNat, by omega⟩
  subst ei
  exact k ⟨i, by omega⟩
theorem Fw_z {a b : Rd} (h : Fw a b) (e : b.1 = 0) : a.1 = 0 := by
  by_cases c : a.1 = 0
  · exact c
  · exact absurd e (by rw [h.1 c]; exact c)
theorem MB_told {S B : ms} {st : Rd} {u u' : Int} (c : st.1 ≠ 0) (h : MB S B en st u) : MB S B en st u' := ⟨h.1, ⟨fun y => absurd y c, fun y => absurd y c, h.2.1.2.2.1, h.2.1.2.2.2.1, fun y => absurd y c⟩, h.2.2⟩
theorem CB_told {S A : ms} {o : Nat} {t t' : Int → Int} {st : Rd} {u u' : Int} (c : st.1 ≠ 0) (h : CB S A o en t st u) : CB S A o en t' st u' := ⟨h.1, ⟨fun y => absurd y c, h.2.1.2.1, h.2.1.2.2.1, fun y => absurd y c, fun y => absurd y c⟩, h.2.2⟩
theorem sb_back0 {S A : ms} {o : Nat} {t : Int → Int} {d n u : Int} {st : Rd} (c : st.1 ≠ 0) (hr : rdR en st) (h : CB S A o en t st u) : EV q 128 0 [some (.ref 9), some (vL d), none, some (vL n), none, none, none] [] A none A := sp_back0 c hr (CB_told c h)
theorem mb_back0 {S B : ms} {d n u : Int} {st : Rd} (c : st.1 ≠ 0) (hr : rdR en st) (h : MB S B en st u) : EV q 350 0 [some (.ref 367), some (vL d), none, some (vL n), none, none, none] [] B none B := md_back0 c hr (MB_told c h)
theorem jgap {t : Int → Int} {n : Nat} {rc : Int} (he : 0 ≤ en ∧ en ≤ 6000) (ht : ∀ k : Int, 0 ≤ k → k < en → 0 ≤ t k ∧ t k < 256) (hn : n ≤ 288) (hrc : 0 ≤ rc ∧ rc ≤ 100000) {d x3 x4 : Int} {sz : Nat} (hsz : sz < 1000) {st : Rd} {h : Int} (hr : rdR en st) (hh : hR st h) (hd1 : st.1 = 0 → (0 ≤ d ∧ d < n) ∧ x3 = sz ∧ x4 = sz) (hd2 : st.1 ≠ 0 → d = -1) : ∃ (st' : Rd) (h' : Int), (rdR en st' ∧ Fw st st' ∧ hR st' h') ∧ (st'.1 = 0 → rdP st h ≤ rdP st' h') ∧ (∀ (S A : ms) (o b : Nat) (x1 : Int), S.1 9 7 = 0 → RdC S o en t → isCode b → CB S A o en t st h → ∃ A', GapC q b x1 rc x4 d A none A' ∧ CB S A' o en t st' h') ∧ ∀ S B : ms, S.1 367 18 = 0 → S.2.1 367 60 = rc → TbM S → RdM S en t → MB S B en st h → ∃ B', MB S B' en st' h' ∧ ∀ (x1 x2 : Int) (r : Option Value) (T : ms), EV q 349 223 [some (.ref 367), some (vI x1), some (vI x2), none, none, none, none, none] [] B' r T → (st'.1 ≠ 0 → r = none ∧ T = B') → EV q 349 132 [some (.ref 367), some (vI x1), some (vI x2), some (vL x3), none, none, none, none] [vI d] B r T := by
  by_cases c : st.1 = 0
  case neg =>
    have ed := hd2 c
    subst ed
    refine ⟨st, h, ⟨hr, Fw_r st, hh⟩, fun y => absurd y c, fun S A o b x1 hS hC hb hA => ?_, fun S B hS h60 hT hC hB => ?_⟩
    · obtain ⟨A1, k1, k2⟩ := sb_tell (q := q) (k := 11) hr hC.2.2.1 hA
      rw [rdTell_r c] at k2
      refine ⟨A1, ?_, k2⟩
      unfold GapC
      exact cY (by decide) (vc_Blocks_openMatch_52 _ _ _ _ _ hb ⟨A1, k1, rfl, rfl⟩)
    · exact ⟨B, hB, fun x1 x2 r T y1 y2 => vc_MD_openSymbols_132 _ _ _ _ (cY (by decide) (vc_MD_openSymbols_147 _ _ _ _ (cY (by decide) (y2 c))))⟩
  obtain ⟨⟨d1, d2⟩, e3, e4⟩ := hd1 c
  subst e3 e4
  have wd : w32 d = d := w32_of (by omega)
  by_cases c30 : d < 30
  case neg =>
    refine ⟨rdTell 11 st, h, ⟨rdR_tell hr (by decide), Fw_tellAt, hR_n hh Fw_tellAt⟩, fun y => absurd y (rdTell_1 (by decide)), fun S A o b x1 hS hC hb hA => ?_, fun S B hS h60 hT hC hB => ?_⟩
    · obtain ⟨A1, k1, k2⟩ := sb_tell (q := q) (k := 11) hr hC.2.2.1 hA
      refine ⟨A1, ?_, k2⟩
      unfold GapC
      rw [wd]
      exact cNo (by omega) (cNo c30 (vc_Blocks_openMatch_52 _ _ _ _ _ hb ⟨A1, k1, rfl, rfl⟩))
    · obtain ⟨B1, k1, k2⟩ := mb_tell (q := q) (k := 11) hr he.2 hh hB
      refine ⟨B1, k2, fun x1 x2 r T y1 y2 => vc_MD_openSymbols_132 _ _ _ _ ?_⟩
      rw [wd]
      refine cNo (by omega) ⟨B1, k1, vc_MD_openSymbols_147 _ _ _ _ ?_⟩
      rw [wd]
      exact cNo (by omega) (cNo (by omega) (y2 (rdTell_1 (by decide))))
  obtain ⟨g1, g2⟩ := sS_g ⟨d1, c30⟩
  obtain ⟨nb, enb⟩ : ∃ nb : Nat, sS 5 d = nb := ⟨(sS 5 d).toNat, by omega⟩
  obtain ⟨z, z', st1, h1, ⟨f1, f2, f3, f4⟩, f5, f6, f7⟩ := jbits0 (q := q) (hi := 0) he.2 ht (Or.inl rfl) (n := nb) (by omega) hr hh
  have w4 : w32 (sS 4 d) = sS 4 d := w32_of (by omega)
  have e394 : ∀ S B : ms, TbM S → MB S B en st h → B.1 394 d = nb := by
    intro S B hT hB
    rw [hB.2.2.2 394 d (by omega) (by omega), (hT.2 d d1 c30).2, enb]
  have e393 : ∀ S B : ms, TbM S → MB S B en st h → B.1 393 d = sS 4 d := by
    intro S B hT hB
    rw [hB.2.2.2 393 d (by omega) (by omega), (hT.2 d d1 c30).1]
  by_cases c1 : st1.1 = 0
  case neg =>
    refine ⟨st1, h1, ⟨f1, f2, f3⟩, fun y => absurd y c1, fun S A o b x1 hS hC hb hA => ?_, fun S B hS h60 hT hC hB => ?_⟩
    · obtain ⟨A1, k1, k2⟩ := f6 S A o hS hC hA
      obtain ⟨A2, k3, k4⟩ := sb_tell (q := q) (k := 12) f1 hC.2.2.1 k2
      rw [rdTell_r c1] at k4
      have eR : A1.2.2 9 1 = o := by rw [k2.1]; exact hC.1
      have k107 := vc_Blocks_openMatch_107 (q := q) x1 rc (sz : Int) d (sS 4 d + z) b hb ⟨A1, sb_back0 c1 f1 k2, rfl, rfl⟩
      have k101 := vc_Blocks_openMatch_101 (q := q) x1 rc (sz : Int) d (sS 4 d + z) b hb ⟨A2, k3, vc_Blocks_openMatch_107 x1 rc (sz : Int) d (sS 4 d + z) b hb ⟨A2, sb_back0 c1 f1 k4, rfl, rfl⟩⟩
      by_cases p1 : w64 (w32 (A1.1 o 1)) < w64 (sS 4 d + z)
      · refine ⟨A2, ?_, k4⟩
        unfold GapC
        rw [wd, enb, w4]
        exact cNo (by omega) (cY c30 ⟨by omega, by omega, z, A1, k1, o, 12000, eR, hC.2.1, cY p1 k101⟩)
      · by_cases p2 : w64 (sS 4 d + z) ≤ w64 (w32 rc)
        · refine ⟨A1, ?_, k2⟩
          unfold GapC
          rw [wd, enb, w4]
          exact cNo (by omega) (cY c30 ⟨by omega, by omega, z, A1, k1, o, 12000, eR, hC.2.1, cNo p1 (cY p2 k107)⟩)
        · refine ⟨A2, ?_, k4⟩
          unfold GapC
          rw [wd, enb, w4]
          exact cNo (by omega) (cY c30 ⟨by omega, by omega, z, A1, k1, o, 12000, eR, hC.2.1, cNo p1 (cNo p2 k101)⟩)
    · obtain ⟨B1, k1, k2⟩ := f7 S B hS hC hB
      have kf := md_fine (q := q) f1 k2
      rw [if_neg c1] at kf
      refine ⟨B1, k2, fun x1 x2 r T y1 y2 => vc_MD_openSymbols_132 _ _ _ _ ?_⟩
      rw [wd]
      refine cY (by omega) (vc_MD_openSymbols_147 _ _ _ _ ?_)
      rw [wd, e394 S B hT hB, e393 S B hT hB]
      exact cNo (by omega) (cY (by omega) ⟨by omega, by omega, z', B1, k1, 0, B1, kf, cY (by decide) (vc_MD_openSymbols_216 _ _ _ _ _ ⟨B1, mb_back0 c1 f1 k2, y1⟩)⟩)
  obtain ⟨ez, zr, pz⟩ := f5 c1
  subst ez
  have p13 : (2 : Int) ^ nb ≤ 8192 := by
    have : (2 : Nat) ^ nb ≤ 2 ^ 13 := Nat.pow_le_pow_right (by decide) (by omega)
    have e : ((2 ^ nb : Nat) : Int) = (2 : Int) ^ nb := by rw [Int.natCast_pow]; rfl
    rw [← e]
    have e2 : (2 : Nat) ^ 13 = 8192 := by decide
    omega
  obtain ⟨G, eG⟩ : ∃ G : Int, G = sS 4 d + z := ⟨_, rfl⟩
  have wG : w64 G = G := w64_of (by omega)
  have hc := f1.2.2.1
  have wc : w32 st1.2.2.2.1 = st1.2.2.2.1 := w32_of (by omega)
  have wcc : w64 st1.2.2.2.1 = st1.2.2.2.1 := w64_of (by omega)
  have wr : w32 rc = rc := w32_of (by omega)
  have wrr : w64 rc = rc := w64_of (by omega)
  have h60' : ∀ S B1 : ms, S.2.1 367 60 = rc → MB S B1 en st1 h1 → B1.2.1 367 60 = rc := by
    intro S B1 y1 y2
    rw [y2.1]
    exact y1
  by_cases cg : st1.2.2.2.1 < G ∨ rc < G
  · refine ⟨rdTell 12 st1, h1, ⟨rdR_tell f1 (by decide), Fw_t f2 Fw_tellAt, hR_n f3 Fw_tellAt⟩, fun y => absurd y (rdTell_1 (by decide)), fun S A o b x1 hS hC hb hA => ?_, fun S B hS h60 hT hC hB => ?_⟩
    · obtain ⟨A1, k1, k2⟩ := f6 S A o hS hC hA
      obtain ⟨A2, k3, k4⟩ := sb_tell (q := q) (k := 12) f1 hC.2.2.1 k2
      have eR : A1.2.2 9 1 = o := by rw [k2.1]; exact hC.1
      have k101 := vc_Blocks_openMatch_101 (q := q) x1 rc (sz : Int) d G b hb ⟨A2, k3, vc_Blocks_openMatch_107 x1 rc (sz : Int) d G b hb ⟨A2, sb_back0 (rdTell_1 (by decide)) (rdR_tell f1 (by decide)) k4, rfl, rfl⟩⟩
      refine ⟨A2, ?_, k4⟩
      unfold GapC
      rw [wd, enb, w4]
      refine cNo (by omega) (cY c30 ⟨by omega, by omega, z, A1, k1, o, 12000, eR, hC.2.1, ?_⟩)
      rw [k2.2.2.1.1, wc, wcc, wr, wrr, ← eG, wG]
      by_cases p1 : st1.2.2.2.1 < G
      · exact cY p1 k101
      · exact cNo p1 (cNo (by omega) k101)
    · obtain ⟨B1, k1, k2⟩ := f7 S B hS hC hB
      have kf := md_fine (q := q) f1 k2
      rw [if_pos c1] at kf
      obtain ⟨B2, k3, k4⟩ := mb_tell (q := q) (k := 12) f1 he.2 f3 k2
      refine ⟨B2, k4, fun x1 x2 r T y1 y2 => vc_MD_openSymbols_132 _ _ _ _ ?_⟩
      have k210 := vc_MD_openSymbols_210 (q := q) x1 x2 (sz : Int) d G ⟨B2, k3, vc_MD_openSymbols_216 _ _ _ _ _ ⟨B2, mb_back0 (rdTell_1 (by decide)) (rdR_tell f1 (by decide)) k4, y1⟩⟩
      rw [wd]
      refine cY (by omega) (vc_MD_openSymbols_147 _ _ _ _ ?_)
      rw [wd, e394 S B hT hB, e393 S B hT hB, w4]
      refine cNo (by omega) (cY (by omega) ⟨by omega, by omega, z, B1, k1, 1, B1, kf, cNo (by decide) ?_⟩)
      rw [k2.2.2.1.1, wc, wcc, h60' S B1 h60 k2, wrr, ← eG, wG]
      by_cases p1 : st1.2.2.2.1 < G
      · exact cY p1 k210
      · exact cNo p1 (cNo (by omega) k210)
  · have hb1 : -40000000000 ≤ G ∧ G < 40000000000 := by omega
    have hb2 : st1.1 = 0 → 1 ≤ G ∧ G ≤ st1.2.2.2.1 := fun _ => by omega
    refine ⟨rdBack G sz st1, h1, ⟨rdR_back sz f1, Fw_t f2 (Fw_back sz), hR_n f3 (Fw_back sz)⟩, fun _ => ?_, fun S A o b x1 hS hC hb hA => ?_, fun S B hS h60 hT hC hB => ?_⟩
    · have := (Fw_back (d := G) sz (st := st1)).2
      unfold rdP at pz ⊢
      omega
    · obtain ⟨A1, k1, k2⟩ := f6 S A o hS hC hA
      obtain ⟨A2, k3, k4⟩ := sb_back (q := q) hb1 hC (n := sz) (by omega) sz 0 A1 st1 (by omega) hb2 f1 k2
      have eR : A1.2.2 9 1 = o := by rw [k2.1]; exact hC.1
      have k107 := vc_Blocks_openMatch_107 (q := q) x1 rc (sz : Int) d G b hb ⟨A2, vc_Source_emitCopy _ _ k3, rfl, rfl⟩
      refine ⟨A2, ?_, k4⟩
      unfold GapC
      rw [wd, enb, w4]
      refine cNo (by omega) (cY c30 ⟨by omega, by omega, z, A1, k1, o, 12000, eR, hC.2.1, ?_⟩)
      rw [k2.2.2.1.1, wc, wcc, wr, wrr, ← eG, wG]
      exact cNo (by omega) (cY (by omega) k107)
    · obtain ⟨B1, k1, k2⟩ := f7 S B hS hC hB
      have kf := md_fine (q := q) f1 k2
      rw [if_pos c1] at kf
      obtain ⟨B2, k3, k4⟩ := mb_back (q := q) (S := S) hb1 he.2 (n := sz) (by omega) sz 0 B1 st1 (by omega) hb2 f1 f3 k2
      refine ⟨B2, k4, fun x1 x2 r T y1 y2 => vc_MD_openSymbols_132 _ _ _ _ ?_⟩
      have k216 := vc_MD_openSymbols_216 (q := q) x1 x2 (sz : Int) d G ⟨B2, vc_MD_copy _ _ k3, y1⟩
      rw [wd]
      refine cY (by omega) (vc_MD_openSymbols_147 _ _ _ _ ?_)
      rw [wd, e394 S B hT hB, e393 S B hT hB, w4]
      refine cNo (by omega) (cY (by omega) ⟨by omega, by omega, z, B1, k1, 1, B1, kf, cNo (by decide) ?_⟩)
      rw [k2.2.2.1.1, wc, wcc, h60' S B1 h60 k2, wrr, ← eG, wG]
      exact cNo (by omega) (cY (by omega) k216)
theorem jmat {t : Int → Int} {l : Int → Int} {n : Nat} {rc : Int} (he : 0 ≤ en ∧ en ≤ 6000) (ht : ∀ k : Int, 0 ≤ k → k < en → 0 ≤ t k ∧ t k < 256) (hn : n ≤ 288) (hl : ∀ s : Nat, s < n → 0 ≤ l s ∧ l s ≤ 20) (hrc : 0 ≤ rc ∧ rc ≤ 100000) {s : Int} (hs : 257 ≤ s ∧ s < 300) {st : Rd} {h : Int} (hr : rdR en st) (hh : hR st h) : ∃ (st' : Rd) (h' : Int), (rdR en st' ∧ Fw st st' ∧ hR st' h') ∧ (st'.1 = 0 → rdP st h ≤ rdP st' h') ∧ (∀ (S A : ms) (o b : Nat), S.1 9 7 = 0 → RdC S o en t → CodC S b n l → CB S A o en t st h → ∃ A', EV q 135 0 [some (.ref 9), some (vI (s - 257)), some (.ref b), some (vI rc), none, none, none, none, none] [] A none A' ∧ CB S A' o en t st' h') ∧ ∀ (S B : ms) (n1 n2 : Nat), S.1 367 18 = 0 → S.1 367 59 = n → S.2.1 367 60 = rc → TbM S → RdM S en t → CodM S 387 n1 388 n2 n l → MB S B en st h → ∃ B', MB S B' en st' h' ∧ ∀ (x1 : Int) (r : Option Value) (T : ms), EV q 349 223 [some (.ref 367), some (vI x1), some (vI s), none, none, none, none, none] [] B' r T → (st'.1 ≠ 0 → r = none ∧ T = B') → MatM q x1 s B r T := by
  have ws : w32 s = s := w32_of (by omega)
  have wk : w32 (s - 257) = s - 257 := w32_of (by omega)
  by_cases cs : s ≤ 285
  case neg =>
    refine ⟨rdTell 11 st, h, ⟨rdR_tell hr (by decide), Fw_tellAt, hR_n hh Fw_tellAt⟩, fun y => absurd y (rdTell_1 (by decide)), fun S A o b hS hC hD hA => ?_, fun S B n1 n2 hS h59 h60 hT hC hD hB => ?_⟩
    · obtain ⟨A1, k1, k2⟩ := sb_tell (q := q) (k := 11) hr hC.2.2.1 hA
      refine ⟨A1, vc_Blocks_openMatch _ _ _ hD.1 ?_, k2⟩
      rw [wk]
      exact cNo (by omega) ⟨A1, k1, rfl, rfl⟩
    · obtain ⟨B1, k1, k2⟩ := mb_tell (q := q) (k := 11) hr he.2 hh hB
      refine ⟨B1, k2, fun x1 r T y1 y2 => ?_⟩
      unfold MatM
      rw [ws]
      exact cNo cs ⟨B1, k1, y1⟩
  obtain ⟨g1, g2⟩ := sS_z (s := s - 257) (by omega)
  obtain ⟨nb, enb⟩ : ∃ nb : Nat, sS 1 (s - 257) = nb := ⟨(sS 1 (s - 257)).toNat, by omega⟩
  have w0 : w32 (sS 0 (s - 257)) = sS 0 (s - 257) := w32_of (by omega)
  obtain ⟨z, z', st1, h1, ⟨f1, f2, f3, f4⟩, f5, f6, f7⟩ := jbits0 (q := q) (hi := 0) he.2 ht (Or.inl rfl) (n := nb) (by omega) hr hh
  obtain ⟨d, st2, h2, ⟨i1, i2, i3, i4⟩, i5, i6, i7, i8⟩ := jsym (q := q) (hi := 0) he ht (Or.inl rfl) hn hl f1 f3
  have p5 : (2 : Int) ^ nb ≤ 32 := by
    have : (2 : Nat) ^ nb ≤ 2 ^ 5 := Nat.pow_le_pow_right (by decide) (by omega)
    have e : ((2 ^ nb : Nat) : Int) = (2 : Int) ^ nb := by rw [Int.natCast_pow]; rfl
    rw [← e]
    have e2 : (2 : Nat) ^ 5 = 32 := by decide
    omega
  obtain ⟨sz, hsz, esz⟩ : ∃ sz : Nat, sz < 1000 ∧ (st2.1 = 0 → sS 0 (s - 257) + z' = sz ∧ sS 0 (s - 257) + z = sz) := by
    by_cases c1 : st1.1 = 0
    · obtain ⟨a1, a2, a3⟩ := f5 c1
      exact ⟨(sS 0 (s - 257) + z).toNat, by omega, fun _ => by omega⟩
    · exact ⟨0, by decide, fun y => absurd (Fw_z i2 y) c1⟩
  obtain ⟨st3, h3, ⟨j1, j2, j3⟩, j4, j5, j6⟩ := jgap (q := q) (x3 := sS 0 (s - 257) + z') (x4 := sS 0 (s - 257) + z) (d := d) he ht hn hrc hsz i1 i3 (fun y => ⟨(i5 y).1, esz y⟩) i6
  refine ⟨st3, h3, ⟨j1, Fw_t f2 (Fw_t i2 j2), j3⟩, fun y => ?_, fun S A o b hS hC hD hA => ?_, fun S B n1 n2 hS h59 h60 hT hC hD hB => ?_⟩
  · have y2 := Fw_z j2 y
    have y1 := Fw_z i2 y2
    have a1 := (f5 y1).2.2
    have a2 := (i5 y2).2
    have a3 := j4 y
    omega
  · obtain ⟨A1, k1, k2⟩ := f6 S A o hS hC hA
    obtain ⟨A2, k3, k4⟩ := i7 S A1 o b hS hC hD k2
    obtain ⟨A3, k5, k6⟩ := j5 S A2 o b (s - 257) hS hC hD.1 k4
    refine ⟨A3, vc_Blocks_openMatch _ _ _ hD.1 ?_, k6⟩
    rw [wk, w0, enb]
    exact cY (by omega) ⟨by omega, by omega, z, A1, k1, d, A2, k3, k5⟩
  · obtain ⟨B1, k1, k2⟩ := f7 S B hS hC hB
    have kf := md_fine (q := q) f1 k2
    have e392 : B.1 392 (s - 257) = nb := by rw [hB.2.2.2 392 _ (by omega) (by omega), (hT.1 (s - 257) (by omega) (by omega)).2, enb]
    have e391 : B.1 391 (s - 257) = sS 0 (s - 257) := by rw [hB.2.2.2 391 _ (by omega) (by omega), (hT.1 (s - 257) (by omega) (by omega)).1]
    by_cases c1 : st1.1 = 0
    · rw [if_pos c1] at kf
      obtain ⟨B2, k3, k4⟩ := i8 S B1 387 n1 388 n2 hS hC hD k2
      obtain ⟨B3, m1, m2⟩ := j6 S B2 hS h60 hT hC k4
      refine ⟨B3, m1, fun x1 r T y1 y2 => ?_⟩
      have e59 : B1.1 367 59 = n := by rw [k2.2.2.2 367 59 (by omega) (by omega)]; exact h59
      unfold MatM
      rw [ws, wk, e392, e391, w0]
      refine cY cs ⟨by omega, by omega, z', B1, k1, 1, B1, kf, cNo (by decide) ⟨d, B2, ?_, m2 x1 s r T y1 y2⟩⟩
      rw [e59]
      exact k3
    · rw [if_neg c1] at kf
      have e2 : st2 = st1 := i2.1 c1
      have ed : d = -1 := i6 (by rw [e2]; exact c1)
      obtain ⟨B3, m1, m2⟩ := j6 S B1 hS h60 hT hC (by rw [e2]; exact MB_told c1 k2)
      refine ⟨B3, m1, fun x1 r T y1 y2 => ?_⟩
      have m3 := m2 x1 s r T y1 y2
      rw [ed] at m3
      unfold MatM
      rw [ws, wk, e392, e391, w0]
      exact cY cs ⟨by omega, by omega, z', B1, k1, 0, B1, kf, cY (by decide) m3⟩
end Blk
