/-! read: a BOX's text, both sides at once -/
section ReaM
variable {q : Nat × (Nat → Int32)} {x : Int} {t : Int → Int}
theorem ShM_q {S S1 : ms} {n : Nat} {E : Nat → En} (h : ShM S n E) (q1 : ∀ (a : Nat) (k : Int), xSi a k → S1.1 a k = S.1 a k) : ShM S1 n E := by
  unfold xSi at q1
  refine ⟨by rw [q1 367 95 (by omega)]; exact h.1, fun e he => ?_⟩
  obtain ⟨⟨a1, a2⟩, ⟨a3, a4⟩, a5, a6⟩ := h.2 e he
  exact ⟨⟨by rw [q1 _ _ (by omega)]; exact a1, fun k k0 k1 => by rw [q1 _ _ (by omega)]; exact a2 k k0 k1⟩, ⟨by rw [q1 _ _ (by omega)]; exact a3, by rw [q1 _ _ (by omega)]; exact a4⟩, by rw [q1 _ _ (by omega)]; exact a5, fun k k0 k1 => by rw [q1 _ _ (by omega)]; exact a6 k k0 k1⟩
def BxT (q : Nat × (Nat → Int32)) (x : Int) (t : Int → Int) (sh n k : Nat) (E0 : Nat → En) (r b0 : Int) (st st' : Rd) (E : En) : Prop := (∀ S A : ms, S.1 9 7 = 0 → S.2.2 9 1 = 7 → TC S x t → CodC S 31 288 flF → CodC S 42 32 (fun _ => 5) → LabC S (sh + 5) n (fun k => t (r + 46 + k)) → ShC S sh k E0 → CW S A x st → ∃ S1 A1, EX (fun a k => xSh sh a k ∨ XCc a k) S S1 ∧ CW S1 A1 x st' ∧ (st'.1 = 0 → ShC S1 sh (k + 1) (upE E0 k E)) ∧ (st'.1 ≠ 0 → ShC S1 sh k E0) ∧ EV q 206 0 [some (.ref sh), some (.ref 9), some (vI r), some (vI b0), none, none, none, none, none, none, none, none, none, none, none, none, none] [] A none A1) ∧ ∀ S B : ms, TbK S → RQ S → S.2.2 367 13 = 368 → TM S x t → ShM S k E0 → MWl S B st → ∃ S1 B1, EY (fun a k => xSi a k ∨ XBm a k ∨ (a = 367 ∧ k = 14)) S S1 ∧ TbK S1 ∧ MWl S1 B1 st' ∧ (st'.1 = 0 → ShM S1 (k + 1) (upE E0 k E)) ∧ (st'.1 ≠ 0 → ShM S1 k E0) ∧ EV q 402 0 [some (.ref 367), some (vI r), some (vI b0), some (vI n), none, none, none, none, none, none, none, none, none, none, none, none, none] [] B none B1
theorem lowV_nn (t : Int → Int) (p : Int) (i : Nat) : 0 ≤ lowV t p (i + 1) := by
  rw [lowV_s]
  unfold lO
  exact Int.natCast_nonneg _
theorem jbxT {sh n k : Nat} {E0 : Nat → En} {r b0 : Int} {st : Rd} (hs : isSh sh) (hx : 0 ≤ x ∧ x ≤ 6000) (ht : ∀ k : Int, 0 ≤ k → k < x → 0 ≤ t k ∧ t k < 256) (r0 : 0 ≤ r) (r1 : r + 46 + n ≤ x) (hn : 1 ≤ n ∧ n ≤ 100) (hnr : lowV t (r + 28) 2 = n) (hnz : ∀ j : Nat, j < n → t (r + 46 + j) ≠ 0) (hb : 0 ≤ b0 ∧ b0 ≤ x) (hM : lowV t (r + 10) 2 = 0 ∨ lowV t (r + 10) 2 = 8) (hsz : lowV t (r + 24) 4 ≤ 6000) (hrg : Unit → lowV t (r + 40) 2 ≤ 511 ∧ lowV t (r + 12) 4 ≤ 2147483647) (hk : k < 16) (hE : ∀ e : Nat, e < k → EnOk (E0 e)) (hr : rdR x st) (c0 : st.1 = 0) : ∃ (st' : Rd) (E : En), rdR x st' ∧ (st'.1 = 0 → EnOk E) ∧ BxT q x t sh n k E0 r b0 st st' E := by
  have hsl := isSh_is hs
  have hsr : sh = 193 ∨ sh = 268 := hs
  -- told outright
  have told : ∀ kk pp : Int, (1 ≤ kk ∧ kk < 1000) → (∀ S A A1 : ms, TC S x t → LabC S (sh + 5) n (fun k => t (r + 46 + k)) → CW S A x st → EV q 126 0 [some (.ref 9), some (vI kk), some (vI pp)] [] A none A1 → EV q 206 0 [some (.ref sh), some (.ref 9), some (vI r), some (vI b0), none, none, none, none, none, none, none, none, none, none, none, none, none] [] A none A1) → (∀ S B B1 : ms, TM S x t → MWl S B st → EV q 335 0 [some (.ref 367), some (vI kk), some (vI pp)] [] B none B1 → EV q 402 0 [some (.ref 367), some (vI r), some (vI b0), some (vI n), none, none, none, none, none, none, none, none, none, none, none, none, none] [] B none B1) → ∃ (st' : Rd) (E : En), rdR x st' ∧ (st'.1 = 0 → EnOk E) ∧ BxT q x t sh n k E0 r b0 st st' E := by
    intro kk pp hkk h1 h2
    have ct : (rdTellAt kk pp st).1 ≠ 0 := rdTellAt_1 (by omega)
    refine ⟨rdTellAt kk pp st, (0, fun _ => 0, 0, 0, 0, fun _ => 0), rdR_tellAt hr hkk, fun y => absurd y ct, fun S A _ _ hT _ _ hL hSh hA => ?_, fun S B hK _ _ hT hSh hB => ?_⟩
    · obtain ⟨A1, k1, k2⟩ := cw_tellAt (q := q) (k := kk) (p := pp) hr hA
      exact ⟨S, A1, EX.refl _ S, k2, fun y => absurd y ct, fun _ => hSh, h1 S A A1 hT hL hA k1⟩
    · obtain ⟨B1, k1, k2⟩ := mt_tellAt (q := q) (k := kk) (p := pp) hr hB
      exact ⟨S, B1, EY.refl _ S, hK, k2, fun y => absurd y ct, fun _ => hSh, h2 S B B1 hT hB k1⟩
  by_cases cH : bxH t r b0 n
  case neg => exact told 124 _ (by decide) (fun S A A1 hT hL hA k1 => sp_bxPre hs hx r0 r1 hn.2 hb hT hL hA (fun y => absurd y cH) (fun _ => ⟨A1, k1, rfl, rfl⟩)) (fun S B B1 hT hB k1 => md_bxPre hx r0 r1 hn.2 hnr hb hT hB (fun y => absurd y cH) (fun _ => ⟨B1, k1, rfl, rfl⟩))
  obtain ⟨hd, ehd⟩ : ∃ v : Int, lowV t (r + 42) 4 = v := ⟨_, rfl⟩
  obtain ⟨sd, esd⟩ : ∃ v : Int, lowV t (r + 20) 4 = v := ⟨_, rfl⟩
  obtain ⟨sz, esz⟩ : ∃ v : Int, lowV t (r + 24) 4 = v := ⟨_, rfl⟩
  obtain ⟨l16, e16⟩ : ∃ v : Int, lowV t (r + 16) 4 = v := ⟨_, rfl⟩
  have rhd := low4_r (t := t) (x := x) (p := r + 42) (by omega) ht
  have rsd := low4_r (t := t) (x := x) (p := r + 20) (by omega) ht
  have rsz := low4_r (t := t) (x := x) (p := r + 24) (by omega) ht
  have r16 := low4_r (t := t) (x := x) (p := r + 16) (by omega) ht
  have cH1 := cH.1
  rw [ehd] at rhd cH1
  rw [esd] at rsd cH1
  rw [esz] at rsz hsz
  rw [e16] at r16
  -- both as far as the kind
  have pc : ∀ (S A : ms) (R : Option Value) (T : ms), TC S x t → LabC S (sh + 5) n (fun k => t (r + 46 + k)) → CW S A x st → EV q 206 120 [some (.ref sh), some (.ref 9), some (vI r), some (vI b0), some (.ref 2), some (vL hd), none, some (vI hd), some (vL sd), none, some (vL sz), none, none, none, none, none, none] [vI (if lowV t (r + 10) 2 = 8 then 1 else 0)] A R T → EV q 206 0 [some (.ref sh), some (.ref 9), some (vI r), some (vI b0), none, none, none, none, none, none, none, none, none, none, none, none, none] [] A R T := by
    intro S A R T hT hL hA y
    refine sp_bxPre hs hx r0 r1 hn.2 hb hT hL hA (fun _ => ?_) (fun z => absurd cH z)
    rw [ehd, esd, esz]
    exact y
  have pm : ∀ (S B : ms) (R : Option Value) (T : ms), TM S x t → MWl S B st → EV q 402 352 [some (.ref 367), some (vI r), some (vI b0), some (vI n), some (vL hd), none, some (vL sd), none, some (vL sz), none, some (vI 1), some (vI hd), some (vI (hd + 30 + n)), none, none, none, none] [vI (if lowV t (r + 10) 2 = 0 then 1 else 0)] B R T → EV q 402 0 [some (.ref 367), some (vI r), some (vI b0), some (vI n), none, none, none, none, none, none, none, none, none, none, none, none, none] [] B R T := by
    intro S B R T hT hB y
    refine md_bxPre hx r0 r1 hn.2 hnr hb hT hB (fun _ => ?_) (fun z => absurd cH z)
    rw [ehd, esd, esz]
    exact y
  have enA : ∀ S A : ms, LabC S (sh + 5) n (fun k => t (r + 46 + k)) → CW S A x st → A.1 (sh + 5) 1 = n := fun S A hL hA => by
    rw [hA.2.2.2 _ _ (by omega) (by omega) (by omega), hL.1]
    omega
  have rq : ∀ S B : ms, RQ S → (∀ a k, a = 372 → B.1 a k = S.1 a k) → ∀ j : Nat, j < 256 → B.1 372 j = rdF 8 j := fun S B h h' j hj => by rw [h' 372 j rfl]; exact h.1 j hj
  have okE : ∀ (tx : Int → Int) (N : Nat) (cs : Int), bxS N sz l16 cs → (∀ j : Int, 0 ≤ j → j < N → 0 ≤ tx j ∧ tx j < 256) → EnOk (bxE t tx r n N) := by
    intro tx N cs hS htx
    have hN := hS.1
    clear hS
    refine ⟨⟨⟨?_, ?_⟩, fun j j0 j1 => ?_⟩, ⟨?_, ?_⟩, htx, ⟨lowV_nn t (r + 40) 1, (hrg ()).1⟩, lowV_nn t (r + 12) 3, (hrg ()).2⟩
    · show 1 ≤ ((n : Nat) : Int)
      omega
    · show ((n : Nat) : Int) ≤ 100
      omega
    · have j1' : j < (n : Int) := j1
      have a := hnz j.toNat (by omega)
      rw [show ((j.toNat : Nat) : Int) = j by omega] at a
      have b := ht (r + 46 + j) (by omega) (by omega)
      show 1 ≤ t (r + 46 + j) ∧ t (r + 46 + j) < 256
      omega
    · show 0 ≤ ((N : Nat) : Int)
      omega
    · show ((N : Nat) : Int) ≤ 6000
      omega
  rcases hM with hM | hM
  · -- as it stands
    rw [if_neg (by rw [hM]; decide)] at pc
    rw [if_pos hM] at pm
    by_cases cS : sd = sz
    case neg =>
      have wsd : w64 sd = sd := w64_of (by omega)
      have wsz : w64 sz = sz := w64_of (by omega)
      refine told 125 hd (by decide) (fun S A A1 hT hL hA k1 => pc S A _ _ hT hL hA (vc_Shelf_boxText_120 _ _ _ _ _ _ _ sh hsl (cNN (by decide) ?_))) (fun S B B1 hT hB k1 => pm S B _ _ hT hB (vc_MD_boxHead_352 _ _ _ _ _ _ _ _ _ _ (cNo (by decide) ?_)))
      · rw [wsd, wsz]; exact cNo cS ⟨A1, k1, rfl, rfl⟩
      · rw [wsd, wsz]; exact cNo cS ⟨B1, k1, rfl, rfl⟩
    subst cS
    obtain ⟨N, eN⟩ : ∃ N : Nat, (N : Int) = sd := ⟨sd.toNat, by omega⟩
    obtain ⟨tx, etx⟩ : ∃ tx : Int → Int, tx = fun j => t (hd + 30 + n + j) := ⟨_, rfl⟩
    obtain ⟨cs, ecs⟩ : ∃ cs : Int, cs = -((crR (fun k => tx k) N : Nat) : Int) - 1 := ⟨_, rfl⟩
    have ecs' : Unit → cs = -((crR (fun k => tx k) N : Nat) : Int) - 1 := fun _ => ecs
    clear ecs
    have htx : ∀ j : Int, 0 ≤ j → j < N → 0 ≤ tx j ∧ tx j < 256 := fun j j0 j1 => by rw [etx]; exact ht (hd + 30 + n + j) (by omega) (by omega)
    refine ⟨tl (bxS N sd l16 cs) 126 hd st, bxE t tx r n N, tl_r hr (by decide), fun y => okE tx N cs (tl_0 (by decide) y).1 htx, fun S A hS ho hT h31 h42 hL hSh hA => ?_, fun S B hK hQ h13 hT hSh hB => ?_⟩
    · obtain ⟨S1, A1, k1, k2, k3, k4, k5⟩ := sp_bxEnd (q := q) (x := x) (t := t) (b0 := b0) (x5 := hd) (h := hd) (x8 := sd) (x12 := 0) (c := 2) (n1 := 6000) (fr := hd + 30 + n) (tx := tx) (sz := sd) (N := N) (cs := cs) hs ecs' hx r0 r1 hn.2 hk hE (fun _ => e16) r16 (by omega) sh_2 (by decide) (by decide) (Or.inl ⟨rfl, rfl⟩) (by omega) (by omega) hr hT hL hSh hA (fun j j0 j1 => ⟨htx j j0 j1, by
        rw [hA.2.2.2 2 _ (by omega) (by omega) (by omega), (hT (hd + 30 + n + j) (by omega) (by omega)).2, etx]⟩)
      rw [eN] at k5
      refine ⟨S1, A1, EX.mono k1 (fun a k y => Or.inl y), k2, k3, k4, pc S A _ _ hT hL hA (vc_Shelf_boxText_120 _ _ _ _ _ _ _ sh hsl (cNN (by decide) (cY rfl (vc_Shelf_boxText_144 _ _ _ _ _ _ _ sh hsl (cY (by decide) ?_)))))⟩
      rw [enA S A hL hA]
      exact k5
    · have hB0 : MWl S (wI B 367 22 0) st := ⟨hB.1, ⟨by rw [wI_no _ (by omega)]; exact hB.2.1.1, by rw [wI_no _ (by omega)]; exact hB.2.1.2⟩, trivial, fun a k n1 n2 => by rw [wI_no _ (by omega)]; exact hB.2.2.2 a k n1 n2⟩
      have hv : ∀ j : Int, 0 ≤ j → j < N → (wI B 367 22 0).1 368 (hd + 30 + n + j) = b8 (tx j) := fun j j0 j1 => by
        rw [hB0.2.2.2 368 _ (by omega) (by omega), (hT (hd + 30 + n + j) (by omega) (by omega)).2, etx]
      obtain ⟨S1, B1, k1, k2, k3, k4, k5⟩ := md_bxEnd (q := q) (x := x) (t := t) (b0 := b0) (x4 := hd) (x6 := sd) (x10 := 1) (h := hd) (x12 := hd + 30 + n) (x13 := 1) (x14 := 1) (c := 368) (n1 := 6000) (N := N) (fr := hd + 30 + n) (tx := tx) (cs := cs) (sz := sd) hx r0 r1 hn.2 hk hE (fun _ => e16) r16 (by omega) rfl (by decide) (by decide) (Or.inl ⟨rfl, rfl, rfl⟩) (by omega) (by omega) hr c0 hT hSh hB0 hv (by rw [if_pos eN])
      have kr := sp_mrd (q := q) (S := wI B 367 22 0) (c := 368) (n1 := 6000) (n := N) (fr := hd + 30 + n) (g := fun k => tx k) rfl (by decide) (by omega) (by omega) (fun j hj => ⟨htx j (by omega) (by omega), by
        rw [hv j (by omega) (by omega)]
        have := htx j (by omega) (by omega)
        unfold b8
        omega⟩) (rq S _ hQ (fun a k e => by subst e; exact hB0.2.2.2 372 k (by omega) (by omega)))
      rw [← ecs' (), eN] at kr
      exact ⟨S1, B1, EY.mono k1.ey (fun a k y => Or.inl y), TbK_i hK k1, k2, k3, k4, pm S B _ _ hT hB (vc_MD_boxHead_352 _ _ _ _ _ _ _ _ _ _ (cNo (by decide) (cY rfl (vc_MD_boxHead_376 _ _ _ _ _ _ _ _ _ _ (fun V e => by
        subst e
        exact cY (by decide) (vc_MD_boxHead_421 _ _ _ _ _ _ _ _ _ _ (cY (by decide) (vc_MD_boxHead_437 _ _ _ _ _ _ _ _ _ _ (vc_MD_boxHead_442 _ _ _ _ _ _ _ _ _ _ _ (cNo (by decide) ⟨cs, _, kr, k5⟩))))))))))⟩
  · -- packed
    rw [if_pos hM] at pc
    rw [if_neg (by rw [hM]; decide)] at pm
    obtain ⟨s, g1, g2, g3⟩ := jpk (q := q) (fr := hd + 30 + n) (en := hd + 30 + n + sd) (st := st) hx ht (by omega) (by omega) hr c0
    obtain ⟨N, eN⟩ : ∃ N : Nat, (N : Int) = s.2.2.2.1 := ⟨s.2.2.2.1.toNat, by have := g1.2.2.1; omega⟩
    obtain ⟨tx, etx⟩ : ∃ tx : Int → Int, tx = s.2.2.2.2 := ⟨_, rfl⟩
    have hN : N ≤ 12000 := by have := g1.2.2.1; omega
    have htx : ∀ j : Int, 0 ≤ j → j < N → 0 ≤ tx j ∧ tx j < 256 := fun j j0 j1 => by rw [etx]; exact g1.2.2.2.1 j j0 (by omega)
    rw [← eN, ← etx] at g2 g3
    have hrW : rdR x (stW s) := stW_r hx.1 g1
    obtain ⟨cs, ecs⟩ : ∃ cs : Int, cs = -((crR (fun k => tx k) N : Nat) : Int) - 1 := ⟨_, rfl⟩
    have ecs' : Unit → cs = -((crR (fun k => tx k) N : Nat) : Int) - 1 := fun _ => ecs
    clear ecs
    refine ⟨tl (bxS N sz l16 cs) 126 hd (stW s), bxE t tx r n N, tl_r hrW (by decide), fun y => okE tx N cs (tl_0 (by decide) y).1 htx, fun S A hS ho hT h31 h42 hL hSh hA => ?_, fun S B hK hQ h13 hT hSh hB => ?_⟩
    · obtain ⟨S1, A3, A4, A5, a1, a2, a3, a4, a5, A6, a6, a7, a8, a9⟩ := g2 S A hS ho hT h31 h42 hA
      have hT1 : TC S1 x t := fun k k0 k1 => ⟨(hT k k0 k1).1, by rw [a1.2 2 k (by unfold XCc; omega)]; exact (hT k k0 k1).2⟩
      have hL1 : LabC S1 (sh + 5) n (fun k => t (r + 46 + k)) := ⟨by rw [a1.2 _ _ (by unfold XCc; omega)]; exact hL.1, by rw [a1.2 _ _ (by unfold XCc; omega)]; exact hL.2.1, fun k k0 k1 => by rw [a1.2 _ _ (by unfold XCc; omega)]; exact hL.2.2 k k0 k1⟩
      have hSh1 : ShC S1 sh k E0 := ShC_x hSh a1 (fun a k y => by unfold XCc at y; omega) (by omega)
      obtain ⟨S2, A7, k1, k2, k3, k4, k5⟩ := sp_bxEnd (q := q) (x := x) (t := t) (b0 := b0) (x5 := hd) (h := hd) (x8 := sd) (x12 := 1) (c := 8) (n1 := 12000) (fr := 0) (tx := tx) (sz := sz) (N := N) (cs := cs) hs ecs' hx r0 r1 hn.2 hk hE (fun _ => e16) r16 (by omega) rfl (by decide) (by decide) (Or.inr ⟨rfl, rfl⟩) (by omega) (by omega) hrW hT1 hL1 hSh1 a7 (fun j j0 j1 => ⟨htx j j0 j1, by
        rw [Int.zero_add]; exact a9 j j0 j1⟩)
      refine ⟨S2, A7, EX.trans (EX.mono a1 (fun a k y => Or.inr y)) (EX.mono k1 (fun a k y => Or.inl y)), k2, k3, k4, pc S A _ _ hT hL hA (vc_Shelf_boxText_120 _ _ _ _ _ _ _ sh hsl (cY (by decide) (vc_Shelf_boxText_144 _ _ _ _ _ _ _ sh hsl (cNo (by decide) ?_))))⟩
      rw [enA S A hL hA, hA.2.1.1 c0]
      refine ⟨_, a2, _, a3, _, a4, _, a5, _, a6, ?_⟩
      rw [a8]
      exact k5
    · obtain ⟨S1, B2, B4, B6, b1, b2, b3, b4, b5, b6, b7, b8'⟩ := g3 S B hK h13 hT hB
      have q1 : ∀ (a : Nat) (k : Int), (a = 368 ∨ a = 372 ∨ xSi a k) → S1.1 a k = S.1 a k := fun a k y => b1.2 a k (by unfold XBm XCm XTb; unfold xSi at y; omega)
      have hT1 : TM S1 x t := fun k k0 k1 => ⟨(hT k k0 k1).1, by rw [q1 368 k (Or.inl rfl)]; exact (hT k k0 k1).2⟩
      have hSh1 : ShM S1 k E0 := ShM_q hSh (fun a k y => q1 a k (Or.inr (Or.inr y)))
      have ey1 : EY (fun a k => xSi a k ∨ XBm a k ∨ (a = 367 ∧ k = 14)) S S1 := EY.mono b1 (fun a k y => Or.inr y)
      have kf := mt_fine (q := q) hrW b6
      by_cases cs0 : (stW s).1 = 0
      case neg =>
        rw [if_neg cs0] at kf
        have et : tl (bxS N sz l16 cs) 126 hd (stW s) = stW s := tl_told cs0
        rw [et]
        exact ⟨S1, B6, ey1, b2, b6, fun y => absurd y cs0, fun _ => hSh1, pm S B _ _ hT hB (vc_MD_boxHead_352 _ _ _ _ _ _ _ _ _ _ (cY (by decide) (vc_MD_boxHead_376 _ _ _ _ _ _ _ _ _ _ (fun V e => by
          subst e
          exact cNN (by decide) ⟨B2, b3, B4, b4, B6, b5, 0, B6, kf, cNN (by decide) ⟨rfl, rfl⟩⟩))))⟩
      rw [if_pos cs0] at kf
      have hv : ∀ j : Int, 0 ≤ j → j < N → B6.1 375 (0 + j) = b8 (tx j) := fun j j0 j1 => by rw [Int.zero_add]; exact b8' j j0 j1
      obtain ⟨S2, B7, k1, k2, k3, k4, k5⟩ := md_bxEnd (q := q) (x := x) (t := t) (b0 := b0) (x4 := hd) (x6 := sd) (x10 := 1) (h := hd) (x12 := hd + 30 + n) (x13 := 0) (x14 := if (N : Int) = sz then 1 else 0) (c := 375) (n1 := 12000) (N := N) (fr := 0) (tx := tx) (cs := cs) (sz := sz) hx r0 r1 hn.2 hk hE (fun _ => e16) r16 (by omega) rfl (by decide) (by decide) (Or.inr ⟨rfl, rfl, rfl⟩) (by omega) (by omega) hrW cs0 hT1 hSh1 b6 hv rfl
      have kr := sp_mrd (q := q) (S := B6) (c := 375) (n1 := 12000) (n := N) (fr := 0) (g := fun k => tx k) rfl (by decide) (by omega) (by omega) (fun j hj => ⟨htx j (by omega) (by omega), by
        rw [hv j (by omega) (by omega)]
        have := htx j (by omega) (by omega)
        unfold b8
        omega⟩) (rq S _ hQ (fun a k e => by subst e; rw [b6.2.2.2 372 k (by omega) (by omega), q1 372 k (Or.inr (Or.inl rfl))]))
      rw [← ecs' ()] at kr
      refine ⟨S2, B7, EY.trans ey1 (EY.mono k1.ey (fun a k y => Or.inl y)), TbK_i b2 k1, k2, k3, k4, pm S B _ _ hT hB (vc_MD_boxHead_352 _ _ _ _ _ _ _ _ _ _ (cY (by decide) (vc_MD_boxHead_376 _ _ _ _ _ _ _ _ _ _ (fun V e => by
        subst e
        refine cNN (by decide) ⟨B2, b3, B4, b4, B6, b5, 1, B6, kf, cY (by decide) (vc_MD_boxHead_421 _ _ _ _ _ _ _ _ _ _ (cNN (by decide) ?_))⟩
        have wN : w64 (w32 (B6.1 367 22)) = N := by rw [b7, w32_of (by omega)]; exact w64_of (by omega)
        have wz : w64 sz = sz := w64_of (by omega)
        rw [wN, wz]
        by_cases cc : (N : Int) = sz
        · rw [if_pos cc] at k5
          refine cNN cc (vc_MD_boxHead_437 _ _ _ _ _ _ _ _ _ _ (vc_MD_boxHead_442 _ _ _ _ _ _ _ _ _ _ _ (cY (by decide) ⟨cs, _, ?_, k5⟩)))
          rw [b7]
          exact kr
        · rw [if_neg cc] at k5
          refine cY cc (vc_MD_boxHead_442 _ _ _ _ _ _ _ _ _ _ _ (cY (by decide) ⟨cs, _, ?_, k5⟩))
          rw [b7]
          exact kr))))⟩
end ReaM
