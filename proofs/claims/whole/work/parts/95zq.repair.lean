/-! repair on both sides -/
section Repair
variable {q : Nat × (Nat → Int32)} {S T : ms} {a b d : Int}
abbrev XQ (a : Nat) (k : Int) : Prop := a = 174 ∨ a = 175 ∨ a = 176 ∨ (178 ≤ a ∧ a ≤ 181) ∨ a = 408 ∨ a = 439 ∨ (441 ≤ a ∧ a ≤ 445) ∨ (a = 173 ∧ k = 5) ∨ (a = 367 ∧ k = 0)
theorem XP_XQ : ∀ a k, XP a k → XQ a k := by
  intro a k h
  unfold XP at h
  unfold XQ
  omega
theorem cn_split (S : ms) (D : Nat) : ∀ j : Nat, cn S (D + j) = cn S D + (j - sm (fun i => 1 - gn S (D + i)) j)
  | 0 => by
    show cn S D = cn S D + (((0 : Nat) : Int) - 0)
    omega
  | j + 1 => by
    have h := cn_split S D j
    have e1 : cn S (D + (j + 1)) = cn S (D + j) + gn S (D + j) := rfl
    have e2 : sm (fun i => 1 - gn S (D + i)) (j + 1) = sm (fun i => 1 - gn S (D + i)) j + (1 - gn S (D + j)) := rfl
    omega
theorem op30_ok (h : RP S) (h2 : RP2 S) (hq : RQ S) (hR : RG S) : op_30 q a b d S (fun T => EX XQ S T ∧ (EX XP S T ∨ (RP T ∧ RP2 T))) := by
  obtain ⟨⟨x1, x2, x3, x4⟩, ⟨b1, b2, b3, b4, b5⟩, b6, b7⟩ := id h
  obtain ⟨t1, t2, t3⟩ := h2
  by_cases c : S.1 173 6 = 0
  · have c2 := t3 c
    have ex : EX XP S (wI S 367 0 0) := (EX.refl _ _).wr (Or.inr (Or.inr (Or.inr (Or.inr ⟨rfl, rfl⟩))))
    refine ⟨-1, S, -1, wI S 367 0 0, vc_PH_repair ⟨0, S, pa_has0 (by decide) (by decide) h (fun z => ?_), fun n => absurd rfl n, fun _ => ⟨rfl, rfl⟩⟩, vc_MD_repair (fun S1 f => ?_), rfl, ex.mono XP_XQ, Or.inl ex⟩
    · have z1 := z.2.1
      omega
    · subst f
      rw [r0 112 (by decide), x1, c]
      exact ⟨fun n => absurd rfl n, fun _ => ⟨rfl, rfl⟩⟩
  · obtain ⟨D, hD⟩ : ∃ D : Nat, (D : Int) = S.1 173 6 := ⟨(S.1 173 6).toNat, by omega⟩
    obtain ⟨C, hC'⟩ : ∃ C : Nat, (C : Int) = S.1 173 2 := ⟨(S.1 173 2).toNat, by omega⟩
    obtain ⟨N, eN⟩ : ∃ N : Nat, N = D + C := ⟨_, rfl⟩
    have hN : (N : Int) = S.1 173 6 + S.1 173 2 := by omega
    obtain ⟨z, ez⟩ : ∃ z : Int, S.1 173 3 = z := ⟨_, rfl⟩
    rw [ez] at b3 b4
    have hNz : (N : Int) * z ≤ 102000 := by
      rw [hN, ← ez]
      exact b5
    have hz2 : 1 ≤ z ∧ z ≤ 6000 := by omega
    have hh : Hs S 0 0 := ⟨Int.le_refl _, by omega, Int.le_refl _, by omega⟩
    obtain ⟨M, kM, m1, m2, m3, m4⟩ := sp_mark (q := q) h hN
    rw [show min N (S.1 173 6).toNat = D by omega] at m3
    have cN := cn_rg S N
    have w112 : w32 (S.1 173 6) = S.1 173 6 := w32_of (by omega)
    have wcn : w32 (cn S N) = cn S N := w32_of (by omega)
    have w2' : w32 (S.1 173 2) = S.1 173 2 := w32_of (by omega)
    by_cases cc : cn S N ≤ S.1 173 2
    · -- enough is there
      have cD := cn_rg S D
      have cDN := cn_mono S (i := D) (j := N) (by omega)
      obtain ⟨n, hn⟩ : ∃ n : Nat, (n : Int) = cn S D := ⟨(cn S D).toNat, by omega⟩
      obtain ⟨wd, hwd⟩ : ∃ wd : Nat → Int, ∀ j, wd j = gn S j := ⟨_, fun _ => rfl⟩
      obtain ⟨w, hw⟩ : ∃ w : Nat → Int, ∀ j, w j = 1 - gn S (D + j) := ⟨_, fun _ => rfl⟩
      have fwd : wd = fun j => gn S j := funext hwd
      have fw : w = fun j => 1 - gn S (D + j) := funext hw
      have wd01 : ∀ j, wd j = 0 ∨ wd j = 1 := fun j => by rw [hwd]; exact gn_01 S j
      have w01 : ∀ j, w j = 0 ∨ w j = 1 := fun j => by
        rw [hw]
        have := gn_01 S (D + j)
        omega
      have cns : ∀ p, cn S p = sm wd p := fun p => by rw [fwd]; exact cn_sm S p
      have sC : (n : Int) ≤ sm w C := by
        have := cn_split S D C
        rw [← fw, ← eN] at this
        omega
      have n16 : n ≤ 16 := by omega
      obtain ⟨mi, hmi⟩ : ∃ mi : Nat → Nat, ∀ r, mi r = sl wd D r := ⟨_, fun _ => rfl⟩
      obtain ⟨ch, hch⟩ : ∃ ch : Nat → Nat, ∀ r, ch r = sl w C r := ⟨_, fun _ => rfl⟩
      obtain ⟨iv, hiv⟩ : ∃ iv : Nat → Nat, ∀ p, iv p = (cn S p).toNat := ⟨_, fun _ => rfl⟩
      have mis : ∀ r, r < n → mi r < D ∧ gn S (mi r) = 1 ∧ cn S (mi r) = r := fun r hr => by
        have := sl_spec wd01 (r := (r : Int)) (by omega) (J := D) (by rw [← cns]; omega)
        rw [← hmi, hwd, ← cns] at this
        exact this
      have chs : ∀ r, r < n → ch r < C ∧ w (ch r) = 1 ∧ sm w (ch r) = r := fun r hr => by
        have := sl_spec w01 (r := (r : Int)) (by omega) (J := C) (by omega)
        rw [← hch] at this
        exact this
      have im : ∀ x y, x < n → y < n → x ≠ y → mi x ≠ mi y := fun x y hx hy ne e => by
        have e1 := (mis x hx).2.2
        have e2 := (mis y hy).2.2
        rw [e] at e1
        omega
      have ic : ∀ x y, x < n → y < n → x ≠ y → ch x ≠ ch y := fun x y hx hy ne e => by
        have e1 := (chs x hx).2.2
        have e2 := (chs y hy).2.2
        rw [e] at e1
        omega
      have hpv := pv_nz (mi := mi) (ch := ch) (n := n) (fun c hc => by have := (mis c hc).1; omega) (fun r hr => by have := (chs r hr).1; omega) im ic
      obtain ⟨Mx, hMx⟩ : ∃ Mx, Mx = mE (fMx mi ch) n n := ⟨_, rfl⟩
      obtain ⟨F, hF⟩ : ∃ F : Nat → Int → Int, ∀ p e, F p e = S.1 174 (p * z + e) := ⟨_, fun _ _ => rfl⟩
      have oct : ∀ (p : Nat) (e : Int), p < N → 0 ≤ e → e < z → (0 ≤ F p e ∧ F p e < 256) ∧ S.1 439 (z * p + e) = b8 (F p e) := fun p e hp e0 e1 => by
        have ix := pa_ix (D := S.1 173 6 + S.1 173 2) (z := z) (p := p) (i := e) (by omega) (by omega) e0 e1
        have := b7 _ ix.1 (by rw [ez]; exact ix.2)
        rw [hF, Int.mul_comm z]
        exact this
      have rF : fR N z F := fun p e hp e0 e1 => (oct p e hp e0 e1).1
      obtain ⟨go, hgo⟩ : ∃ go : Nat → Int, ∀ p, go p = gn S p := ⟨_, fun _ => rfl⟩
      obtain ⟨gc, hgc⟩ : ∃ gc : Nat → Int, ∀ j, gc j = gn S (D + j) := ⟨_, fun _ => rfl⟩
      have hH : RH n D N z mi ch iv go Mx := by
        refine ⟨⟨n16, by omega, by omega, by omega⟩, ⟨hz2.1, hz2.2, hNz⟩, fun k hk => ?_, fun p hp => ⟨by rw [hgo]; exact gn_01 S p, fun g1 => ?_⟩, by rw [hMx]; exact mR_E (fMx_rg mi ch) n n⟩
        · obtain ⟨y1, y2, y3⟩ := mis k hk
          have y4 := (chs k hk).1
          exact ⟨by omega, by omega, y1, by rw [hgo]; exact y2, by rw [hiv, y3]; omega⟩
        · rw [hgo] at g1
          have cm' := cn_mono S (i := p + 1) (j := D) (by omega)
          have cs : cn S (p + 1) = cn S p + gn S p := rfl
          have cp := cn_rg S p
          refine ⟨by rw [hiv]; omega, ?_⟩
          rw [hmi, hiv, show (((cn S p).toNat : Nat) : Int) = cn S p by omega, cns]
          exact sl_inv wd01 hp (by rw [hwd]; exact g1)
      obtain ⟨G, hG⟩ : ∃ G, G = itF n D ch iv go Mx F z.toNat := ⟨_, rfl⟩
      have rG : fR N z G := by
        rw [hG]
        exact itF_rg rF _
      have e5 : M.1 173 5 = n := by rw [m3, hn]
      have e6 : M.1 173 6 = D := by rw [m1.2 173 6 (by decide), hD]
      have e2 : M.1 173 2 = C := by rw [m1.2 173 2 (by decide), hC']
      have e3 : M.1 173 3 = z := by rw [m1.2 173 3 (by decide), ez]
      have RM : RG M := RG_cg hR (fun a k h => m1.2 a k (by omega))
      -- the class
      obtain ⟨A', kA, ⟨p1, p2, p3, p4, p5⟩⟩ := lp_pk (q := q) (S := M) (n := n) (D := D) (C := C) (w := w) (rr := none) (P := fun A' => A'.2 = S.2 ∧ (∀ (a : Nat) (k : Int), ¬ XQ a k → A'.1 a k = S.1 a k) ∧ (∀ (a : Nat) (k : Int), 366 < a → ¬ XP a k → A'.1 a k = S.1 a k) ∧ (∀ (p : Nat) (e : Int), p < N → 0 ≤ e → e < z → A'.1 174 (p * z + e) = hC G D gc C p e) ∧ ∀ p : Int, 0 ≤ p → p < 48 → A'.1 175 p = 0) w01 n16 (by omega) (by omega) e5 e6 e2 (fun j hj => by
        have := m2 (D + j) (by omega)
        rw [show ((D + j : Nat) : Int) = (D : Int) + j by omega] at this
        rw [this, hw]
        omega) sC (fun U x2 j hU hnj hj => by
        have uM : ∀ (a : Nat) (k : Int), a ≠ 179 → U.1 a k = M.1 a k := hU.2.1
        have chU : ∀ r, r < n → ch r < 16 ∧ U.1 179 r = ch r := fun r hr => by
          obtain ⟨y1, y2, y3⟩ := chs r hr
          obtain ⟨s1, s2, s3⟩ := sl_spec w01 (r := (r : Int)) (by omega) (J := j) (by omega)
          have es : sl w j r = ch r := sm_in w01 s2 y2 (by rw [s3, y3])
          rw [es] at s1
          have := hU.2.2 (ch r) s1 y2 (by omega)
          rw [y3] at this
          exact ⟨by omega, this⟩
        have miU : ∀ r, r < n → mi r < 32 ∧ U.1 178 r = mi r := fun r hr => by
          obtain ⟨y1, y2, y3⟩ := mis r hr
          have := m4 (mi r) (by omega) (by omega) y2
          rw [y3] at this
          exact ⟨by omega, by rw [uM _ _ (by decide)]; exact this⟩
        obtain ⟨V, kV, hV⟩ := sp_turn (q := q) (S := U) (n := n) (mi := mi) (ch := ch) n16 (by rw [uM _ _ (by decide), e5]) miU chU (RG_cg RM (fun a k h => uM a k (by omega))) hpv
        rw [← hMx] at hV
        have vM : ∀ (a : Nat) (k : Int), a ≠ 179 → a ≠ 181 → V.1 a k = M.1 a k := fun a k h1 h2 => by rw [hV.2.1 a k h2, uM a k h1]
        have RV : RG V := RG_cg RM (fun a k h => vM a k (by omega) (by omega))
        have oc : OCc V n D z mi ch go Mx := ⟨⟨by rw [vM _ _ (by decide) (by decide), e5], by rw [vM _ _ (by decide) (by decide), e6], by rw [vM _ _ (by decide) (by decide), e3]⟩, fun k hk => ⟨by rw [hV.2.1 _ _ (by decide)]; exact (chU k hk).2, by rw [hV.2.1 _ _ (by decide)]; exact (miU k hk).2⟩, fun p hp => by rw [vM _ _ (by decide) (by decide), hgo]; exact m2 p (by omega), fun r k hr hk => hV.2.2 r (16 + k) hr (by omega), RV⟩
        obtain ⟨A', k1, k2⟩ := lp_oall (q := q) (S := V) (F := F) (x1 := n) (rr := none) (P := fun A' => A'.2 = S.2 ∧ (∀ (a : Nat) (k : Int), ¬ XQ a k → A'.1 a k = S.1 a k) ∧ (∀ (a : Nat) (k : Int), 366 < a → ¬ XP a k → A'.1 a k = S.1 a k) ∧ (∀ (p : Nat) (e : Int), p < N → 0 ≤ e → e < z → A'.1 174 (p * z + e) = hC G D gc C p e) ∧ ∀ p : Int, 0 ≤ p → p < 48 → A'.1 175 p = 0) hH oc rF (fun W hW => by
          rw [← hG] at hW
          obtain ⟨V2, hV2, k85⟩ := lp_ckc (q := q) (S := V) (D := D) (C := C) (N := N) (z := z) (G := G) (gc := gc) (x1 := n) (by omega) (by omega) eN hz2 hNz (by rw [vM _ _ (by decide) (by decide), e6]) (by rw [vM _ _ (by decide) (by decide), e2]) (by rw [vM _ _ (by decide) (by decide), e3]) (fun j hj => ⟨by rw [hgc]; exact gn_01 _ _, by
            have := m2 (D + j) (by omega)
            rw [show ((D + j : Nat) : Int) = (D : Int) + j by omega] at this
            rw [vM _ _ (by decide) (by decide), hgc]
            exact this⟩) rG RV C 0 W (by omega) ⟨hW.1, hW.2.1, fun p e hp e0 e1 => by
              rw [hW.2.2 p e hp e0 e1]
              exact (if_neg (by omega)).symm⟩
          refine ⟨_, vc_Parts_haveAgain_83 _ _ k85, ?_, fun a k ha => ?_, fun a k ha hx => ?_, fun p e hp e0 e1 => ?_, fun p p0 p1 => ?_⟩
          · show V2.2 = S.2
            rw [hV2.1, hV.1, hU.1]
            exact m1.1
          · rw [wC_ne _ _ _ _ (by omega), hV2.2.1 a k (by omega) (by omega), vM a k (by omega) (by omega), m1.2 a k (by omega)]
          · rw [wC_ne _ _ _ _ (by omega), hV2.2.1 a k (by omega) (by omega), vM a k (by omega) (by omega), m1.2 a k hx]
          · rw [wC_ne _ _ _ _ (by decide), hV2.2.2 p e hp e0 e1]
          · exact wC_in (f := fun _ => 0) (by omega) (by omega)) z.toNat 0 V (by omega) ⟨rfl, fun _ _ _ _ => rfl, fun p e hp e0 e1 => by
            rw [vM _ _ (by decide) (by decide), m1.2 _ _ (by omega)]
            exact (hF p e).symm⟩
        refine ⟨A', vc_Parts_haveAgain_50 _ _ ?_, k2⟩
        rw [uM 173 5 (by decide), e5]
        exact ⟨fun n => absurd rfl n, fun _ => ⟨V, kV, k1⟩⟩) C 0 M (by omega) ⟨rfl, fun _ _ _ => rfl, fun l hl => absurd hl (by omega)⟩ (by show (0 : Int) ≤ n; omega)
      -- the reference
      have o : ∀ (a : Nat) (k : Int), 366 < a → ¬ XP a k → (wI A' 367 0 0).1 a k = S.1 a k := fun a k h1 h2 => by rw [rI_I, if_neg (fun y => h2 (Or.inr (Or.inr (Or.inr (Or.inr y))))), p3 a k h1 h2]
      obtain ⟨G1, kG, g1, g2, g3⟩ := md_gone (q := q) h hN (T0 := wI A' 367 0 0) (fun a k y => o a k (by omega) (by omega)) (fun t ht => by rw [o 372 _ (by decide) (by omega)]; exact hq.1 t ht)
      have gS : ∀ (a : Nat) (k : Int), 366 < a → ¬ XP a k → G1.1 a k = S.1 a k := fun a k h1 h2 => by rw [g2 a k (by omega), o a k h1 h2]
      have f112 : G1.1 367 112 = D := by rw [gS _ _ (by decide) (by decide), x1, hD]
      have f113 : G1.1 367 113 = C := by rw [gS _ _ (by decide) (by decide), x2, hC']
      have f114 : G1.1 367 114 = z := by rw [gS _ _ (by decide) (by decide), x3, ez]
      have RG1 : RG G1 := RG_cg hR (fun a k hh => by
        by_cases y : 366 < a
        · exact gS a k y (by omega)
        · rw [g2 a k (by omega), rI_I, if_neg (by omega), p2 a k (by omega)])
      obtain ⟨T, kT, r1, r2, r3, r4⟩ := lp_ml (q := q) (S := G1) (D := D) (x1 := cn S N) (w := wd) (rr := some (vI (cn S N))) (P := fun T => T.2 = G1.2 ∧ (∀ (a : Nat) (k : Int), a ≠ 408 → a ≠ 439 → ¬ (441 ≤ a ∧ a ≤ 445) → T.1 a k = G1.1 a k) ∧ (∀ (p : Nat) (e : Int), p < N → 0 ≤ e → e < z → T.1 439 (z * p + e) = b8 (hC G D gc C p e)) ∧ ∀ p : Nat, p < N → T.1 441 p = 0) wd01 (by omega) f112 (fun p hp => by rw [hwd]; exact g3 p (by omega)) (fun U hU => by
        have uG : ∀ (a : Nat) (k : Int), a ≠ 445 → U.1 a k = G1.1 a k := hU.2.1
        have kk := lp_mpk (q := q) (S := U) (n := n) (D := D) (C := C) (x1 := cn S N) (w := w) (rr := some (vI (cn S N))) (P := fun T => T.2 = G1.2 ∧ (∀ (a : Nat) (k : Int), a ≠ 408 → a ≠ 439 → ¬ (441 ≤ a ∧ a ≤ 445) → T.1 a k = G1.1 a k) ∧ (∀ (p : Nat) (e : Int), p < N → 0 ≤ e → e < z → T.1 439 (z * p + e) = b8 (hC G D gc C p e)) ∧ ∀ p : Nat, p < N → T.1 441 p = 0) w01 n16 (by omega) (by omega) (by rw [uG _ _ (by decide), f112]) (by rw [uG _ _ (by decide), f113]) (fun j hj => by
          have := g3 (D + j) (by omega)
          rw [show ((D + j : Nat) : Int) = (D : Int) + j by omega] at this
          rw [uG _ _ (by decide), this, hw]
          omega) sC (fun U2 x3 x4 j hU2 hnj hj => by
          have u2 : ∀ (a : Nat) (k : Int), a ≠ 444 → a ≠ 445 → U2.1 a k = G1.1 a k := fun a k h1 h2 => by rw [hU2.2.1 a k h1, uG a k h2]
          have chU : ∀ r, r < n → ch r < 16 ∧ U2.1 444 r = ch r := fun r hr => by
            obtain ⟨y1, y2, y3⟩ := chs r hr
            obtain ⟨s1, s2, s3⟩ := sl_spec w01 (r := (r : Int)) (by omega) (J := j) (by omega)
            have es : sl w j r = ch r := sm_in w01 s2 y2 (by rw [s3, y3])
            rw [es] at s1
            have := hU2.2.2 (ch r) s1 y2 (by omega)
            rw [y3] at this
            exact ⟨by omega, this⟩
          have miU : ∀ r, r < n → mi r < 32 ∧ U2.1 445 r = mi r := fun r hr => by
            obtain ⟨y1, y2, y3⟩ := mis r hr
            have := hU.2.2 (mi r) y1 (by rw [hwd]; exact y2) (by rw [← cns, y3]; omega)
            rw [← cns, y3] at this
            exact ⟨by omega, by rw [hU2.2.1 _ _ (by decide)]; exact this⟩
          obtain ⟨T1, kT1, V, hV, hT1⟩ := md_turn (q := q) (S := U2) (n := n) (mi := mi) (ch := ch) (rr := none) (P := fun T1 => ∃ V, MM U2 V n (fun r c => Mx r (cm n c)) ∧ MSt V T1 N z G) n16 miU chU (RG_cg RG1 (fun a k h => u2 a k (by omega) (by omega))) hpv (fun V hV => by
            rw [← hMx] at hV
            have vG : ∀ (a : Nat) (k : Int), a ≠ 443 → a ≠ 444 → a ≠ 445 → V.1 a k = G1.1 a k := fun a k h1 h2 h3 => by rw [hV.2.1 a k h1, u2 a k h2 h3]
            have oc : OCm V n D z mi ch go Mx := ⟨⟨by rw [vG _ _ (by decide) (by decide) (by decide), f112], by rw [vG _ _ (by decide) (by decide) (by decide), f114]⟩, fun k hk => ⟨by rw [hV.2.1 _ _ (by decide)]; exact (chU k hk).2, by rw [hV.2.1 _ _ (by decide)]; exact (miU k hk).2⟩, fun p hp => by rw [vG _ _ (by decide) (by decide) (by decide), hgo]; exact g3 p (by omega), fun r k hr hk => by
              have v : V.1 443 (r * (2 * n) + ((n + k : Nat) : Int)) = Mx r (cm n (n + k)) := hV.2.2 r (n + k) hr (by omega)
              rw [v]
              unfold cm
              rw [if_neg (by omega), show n + k - n = k by omega], RG_cg RG1 (fun a k h => vG a k (by omega) (by omega) (by omega))⟩
            obtain ⟨T1, k1, k2⟩ := lp_onall (q := q) (S := V) (F := F) hH oc rF z.toNat 0 V (by omega) ⟨rfl, fun _ _ _ _ => rfl, fun p e hp e0 e1 => by
              rw [vG _ _ (by decide) (by decide) (by decide), gS _ _ (by decide) (by omega)]
              exact (oct p e hp e0 e1).2⟩
            exact ⟨T1, k1, V, hV, by rw [hG]; exact k2⟩)
          have vG : ∀ (a : Nat) (k : Int), a ≠ 443 → a ≠ 444 → a ≠ 445 → V.1 a k = G1.1 a k := fun a k h1 h2 h3 => by rw [hV.2.1 a k h1, u2 a k h2 h3]
          obtain ⟨V2, hV2, k126⟩ := lp_ckm (q := q) (S := V) (D := D) (C := C) (N := N) (z := z) (G := G) (gc := gc) (x1 := cn S N) (x2 := n) (x3 := x3) (by omega) (by omega) eN hz2 hNz (by rw [vG _ _ (by decide) (by decide) (by decide), f112]) (by rw [vG _ _ (by decide) (by decide) (by decide), f113]) (by rw [vG _ _ (by decide) (by decide) (by decide), f114]) (fun j hj => ⟨by rw [hgc]; exact gn_01 _ _, by
            have := g3 (D + j) (by omega)
            rw [show ((D + j : Nat) : Int) = (D : Int) + j by omega] at this
            rw [vG _ _ (by decide) (by decide) (by decide), hgc]
            exact this⟩) rG (RG_cg RG1 (fun a k h => vG a k (by omega) (by omega) (by omega))) C 0 T1 (by omega) ⟨hT1.1, hT1.2.1, fun p e hp e0 e1 => by
              rw [hT1.2.2 p e hp e0 e1]
              exact congrArg b8 (if_neg (by omega)).symm⟩
          refine ⟨_, vc_MD_repair_118 _ _ _ _ ⟨T1, kT1, k126⟩, ?_, fun a k ha1 ha2 ha3 => ?_, fun p e hp e0 e1 => ?_, fun p hp => ?_⟩
          · show V2.2 = G1.2
            rw [hV2.1, hV.1, hU2.1]
            exact hU.1
          · rw [wC_ne _ _ _ _ (by omega), hV2.2.1 a k ha2 ha1, vG a k (by omega) (by omega) (by omega)]
          · rw [wC_ne _ _ _ _ (by decide), hV2.2.2 p e hp e0 e1]
          · exact wC_in (f := fun _ => 0) (by omega) (by omega)) C 0 U (by omega) ⟨rfl, fun _ _ _ => rfl, fun l hl => absurd hl (by omega)⟩ (by show (0 : Int) ≤ n; omega)
        rw [← cns, ← hn]
        exact kk) D 0 G1 (by omega) ⟨rfl, fun _ _ _ => rfl, fun l hl => absurd hl (by omega)⟩
      have tS : ∀ (a : Nat) (k : Int), ¬ XQ a k → T.1 a k = S.1 a k := fun a k hx => by rw [r2 a k (by omega) (by omega) (by omega), g2 a k (by omega), rI_I, if_neg (by omega), p2 a k hx]
      have ex : EX XQ S T := ⟨by rw [r1, g1]; exact p1, tS⟩
      have t173 : ∀ k : Int, k ≠ 5 → T.1 173 k = S.1 173 k := fun k hk => tS 173 k (by omega)
      have tA : ∀ (a : Nat) (k : Int), a < 367 → T.1 a k = A'.1 a k := fun a k ha => by rw [r2 a k (by omega) (by omega) (by omega), g2 a k (by omega), rI_I, if_neg (by omega)]
      refine ⟨cn S N, A', cn S N, T, vc_PH_repair ⟨1, S, pa_has1 (by decide) (by decide) h hh, fun _ => ⟨_, M, kM, fun _ => ⟨A', vc_Parts_haveAgain kA, rfl, rfl⟩, fun n => absurd ?_ n⟩, fun n => absurd (by decide) n⟩, vc_MD_repair (fun S1 f => ?_), rfl, ex, Or.inr ⟨⟨⟨?_, ?_, ?_, ?_⟩, ⟨?_, ?_, ?_, ?_, ?_⟩, fun p p0 p1 => ?_, fun k k0 k1 => ?_⟩, ?_, ?_, ?_⟩⟩
      · rw [m1.2 173 2 (by decide), wcn, w2']
        exact cc
      · subst f
        rw [o 367 112 (by decide) (by decide), x1, w112]
        refine ⟨fun _ => ⟨_, G1, kG, ?_⟩, fun n => absurd c n⟩
        rw [f113, hC', wcn, w2']
        exact ⟨fun _ => kT, fun n => absurd cc n⟩
      · rw [tS 367 112 (by decide), t173 6 (by decide), x1]
      · rw [tS 367 113 (by decide), t173 2 (by decide), x2]
      · rw [tS 367 114 (by decide), t173 3 (by decide), x3]
      · rw [tS 367 115 (by decide), t173 4 (by decide), x4]
      · rw [t173 6 (by decide)]
        exact b1
      · rw [t173 2 (by decide)]
        exact b2
      · rw [t173 3 (by decide), ez]
        exact b3
      · rw [t173 6 (by decide), t173 2 (by decide), t173 3 (by decide), ez]
        exact b4
      · rw [t173 6 (by decide), t173 2 (by decide), t173 3 (by decide)]
        exact b5
      · rw [t173 6 (by decide), t173 2 (by decide)] at p1
        obtain ⟨p', ep⟩ : ∃ p' : Nat, p = p' := ⟨p.toNat, by omega⟩
        subst ep
        rw [tA 175 _ (by decide), p5 _ (by omega) (by omega), r4 p' (by omega), tS 440 _ (by omega), tS 177 _ (by omega)]
        exact ⟨Or.inl rfl, rfl, (b6 p' (by omega) p1).2.2⟩
      · rw [t173 6 (by decide), t173 2 (by decide), t173 3 (by decide), ez, ← hN] at k1
        obtain ⟨p, e, p0, p1', e0, e1, ek⟩ := pa_dec hz2.1 k0 k1
        obtain ⟨p', ep⟩ : ∃ p' : Nat, p = p' := ⟨p.toNat, by omega⟩
        subst ep
        have v1 := p4 p' e (by omega) e0 e1
        have v2 := r3 p' e (by omega) e0 e1
        rw [Int.mul_comm z] at v2
        rw [ek, tA 174 _ (by decide), v1, v2]
        exact ⟨hC_rg (D := D) rG gc C p' e (by omega) e0 e1, rfl⟩
      · rw [t173 4 (by decide)]
        exact t1
      · rw [t173 4 (by decide), t173 6 (by decide), t173 3 (by decide)]
        exact t2
      · rw [t173 6 (by decide), t173 2 (by decide)]
        exact t3
    · obtain ⟨G, kG, g1, g2, g3⟩ := md_gone (q := q) h hN (T0 := wI M 367 0 0) (fun a k y => by rw [rI_I, if_neg (by omega), m1.2 a k (by omega)]) (fun t ht => by rw [r0a _ _ (by decide), m1.2 372 t (by omega)]; exact hq.1 t ht)
      have ex : EX XP S G := ⟨by rw [g1]; exact m1.1, fun a k n => by rw [g2 a k (by omega), rI_I, if_neg (by omega), m1.2 a k n]⟩
      refine ⟨-3, M, -3, G, vc_PH_repair ⟨1, S, pa_has1 (by decide) (by decide) h hh, fun _ => ⟨_, M, kM, fun n => absurd ?_ cc, fun _ => ⟨rfl, rfl⟩⟩, fun n => absurd (by decide) n⟩, vc_MD_repair (fun S1 f => ?_), rfl, ex.mono XP_XQ, Or.inl ex⟩
      · rw [m1.2 173 2 (by decide), wcn, w2'] at n
        exact n
      · subst f
        rw [r0 112 (by decide), m1.2 367 112 (by decide), x1, w112]
        refine ⟨fun _ => ⟨_, G, kG, ?_⟩, fun n => absurd c n⟩
        rw [g2 _ _ (by decide), r0 113 (by decide), m1.2 367 113 (by decide), x2, wcn, w2']
        exact ⟨fun n => absurd n cc, fun _ => ⟨rfl, rfl⟩⟩
end Repair
