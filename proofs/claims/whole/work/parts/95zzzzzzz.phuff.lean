/-! pack: own codes; all joins on both sides -/
section PJoinA
variable {q : Nat × (Nat → Int32)} {n m : Nat} {od : Nat → Nat} {c : Nat → Int}
theorem Pop_unp {a b nx it a' b' : Nat} {W : Nat → Int} (hr : a ≤ m ∧ m ≤ b ∧ b ≤ nx) (h : Pop m a b nx W it a' b') (hit : (a ≤ it ∧ it < m) ∨ (b ≤ it ∧ it < nx)) : ¬ unp m a' b' nx it ∧ ∀ i : Nat, i ≠ it → (unp m a' b' nx i ↔ unp m a b nx i) := by
  unfold unp
  rcases h with ⟨p, e1, e2, e3⟩ | ⟨-, e1, e2, e3⟩
  · have pa := p.1
    clear p
    subst e1 e2 e3
    exact ⟨by omega, fun i hi => by omega⟩
  · subst e1 e2 e3
    exact ⟨by omega, fun i hi => by omega⟩
theorem rI_lt (hO : OLv n m od c) {i nx : Nat} (hi : i < nx) (hm : m ≤ nx) : rI n m od i < n + (nx - m) := by
  by_cases d : i < m
  · rw [rI_l d]; have := (hO.1 i d).1; omega
  · rw [rI_j (by omega)]; omega
theorem RfH_pop {B : ms} {a b nx it a' b' : Nat} {W : Nat → Int} {U : Nat → Nat} (hO : OLv n m od c) (hr : a ≤ m ∧ m ≤ b ∧ b ≤ nx) (hnx : m ≤ nx ∧ nx < 2 * m) (hn : n ≤ 288 ∧ m ≤ 288) (hP : Pop m a b nx W it a' b') (hit : (a ≤ it ∧ it < m) ∨ (b ≤ it ∧ it < nx)) (hB : RfH B n m a b nx od c W U) : RfH (wI B 377 (rI n m od it) ((n + (nx - m) : Nat) : Int)) n m a' b' nx od c W (fun i => if i = it then nx else U i) := by
  obtain ⟨u1, u2⟩ := Pop_unp hr hP hit
  refine ⟨fun s hs => ⟨(hB.1 s hs).1, (hB.1 s hs).2.1, fun y => ⟨((hB.1 s hs).2.2 y).1, ?_⟩⟩, fun i hi => ⟨(hB.2 i hi).1, fun y => ?_, fun y => ?_⟩⟩
  · rw [wI_no _ (fun z => ?_)]
    · exact ((hB.1 s hs).2.2 y).2
    · have e : s = rI n m od it := by have := z.2; omega
      by_cases d : it < m
      · rw [rI_l d] at e
        have := (hO.1 it d).2
        rw [← e] at this
        omega
      · rw [rI_j (by omega)] at e
        omega
  · have ne : i ≠ it := fun e => u1 (by rw [← e]; exact y)
    rw [wI_no _ (fun z => ne (rI_u hO (by have := z.2; omega)))]
    exact (hB.2 i hi).2.1 ((u2 i ne).1 y)
  · show (wI B 377 (rI n m od it) ((n + (nx - m) : Nat) : Int)).1 377 (rI n m od i) = ((rI n m od (if i = it then nx else U i) : Nat) : Int) ∧ rI n m od (if i = it then nx else U i) < 700
    by_cases e : i = it
    · rw [if_pos e, e, wI_at, rI_j hnx.1]
      exact ⟨rfl, by omega⟩
    · rw [if_neg e, wI_no _ (fun z => e (rI_u hO (by have := z.2; omega)))]
      exact (hB.2 i hi).2.2 (fun z => y ((u2 i e).2 z))
theorem RfH_new {B : ms} {a b nx : Nat} {W W' : Nat → Int} {U : Nat → Nat} {z : Int} (hO : OLv n m od c) (hr : a ≤ m ∧ m ≤ b ∧ b ≤ nx) (hnx : m ≤ nx ∧ nx < 2 * m) (hn : n ≤ 288 ∧ m ≤ 288) (eW : ∀ i : Nat, i < nx → W' i = W i) (eN : W' nx = z) (hB : RfH B n m a b nx od c W U) : RfH (wI (wJ B 376 ((n + (nx - m) : Nat) : Int) z) 377 ((n + (nx - m) : Nat) : Int) (-1)) n m a b (nx + 1) od c W' U := by
  have un : ∀ i : Nat, i < nx → (unp m a b (nx + 1) i ↔ unp m a b nx i) := fun i hi => by unfold unp; omega
  have ne : ∀ i : Nat, i < nx → rI n m od i < n + (nx - m) := fun i hi => rI_lt hO hi hnx.1
  refine ⟨fun s hs => ?_, fun i hi => ?_⟩
  · obtain ⟨s1, s2, s3⟩ := hB.1 s hs
    refine ⟨s1, ?_, fun y => ⟨?_, ?_⟩⟩
    · show (wJ B 376 _ z).2.1 378 s = c s
      rw [wJ_no _ (by omega)]
      exact s2
    · show (wJ B 376 _ z).2.1 376 s = 0
      rw [wJ_no _ (by omega)]
      exact (s3 y).1
    · rw [wI_no _ (by omega)]
      exact (s3 y).2
  · by_cases e : i = nx
    · subst e
      have er : rI n m od i = n + (i - m) := rI_j hnx.1
      rw [er, eN]
      refine ⟨?_, fun _ => by rw [wI_at], fun y => absurd (Or.inr ⟨by omega, by omega⟩) y⟩
      show (wJ B 376 _ z).2.1 376 _ = z
      rw [wJ_at]
    · have hi' : i < nx := by omega
      have r := ne i hi'
      obtain ⟨b1, b2, b3⟩ := hB.2 i hi'
      rw [eW i hi', un i hi', wI_no _ (by omega)]
      refine ⟨?_, b2, b3⟩
      show (wJ B 376 _ z).2.1 376 _ = W i
      rw [wJ_no _ (by omega)]
      exact b1
def UOk (m a b nx : Nat) (U H : Nat → Nat) : Prop := ∀ i : Nat, i < nx → ¬ unp m a b nx i → (i < U i ∧ m ≤ U i ∧ U i < nx) ∧ H i + 1 ≤ H (U i)
theorem jjoin {Z : Int} (hn : n ≤ 288 ∧ m ≤ 288) (hO : OLv n m od c) (hZ : Z < 100000000) : ∀ (v a b nx : Nat) (W : Nat → Int) (H U : Nat → Nat) (L : Int), nx + v + 1 = 2 * m → m ≤ nx → a + b + m = 2 * nx → HQ m a b nx W H L → HT m a b nx W Z → (∀ i : Nat, i < nx → W i ≤ Z) → (∀ i : Nat, i < m → W i = c (od i)) → UOk m a b nx U H → ∃ (a' b' : Nat) (W' : Nat → Int) (H' U' : Nat → Nat) (L' : Int), (HQ m a' b' (2 * m - 1) W' H' L' ∧ (∀ i : Nat, i < 2 * m - 1 → W' i ≤ Z) ∧ a' + b' + m = 2 * (2 * m - 1) ∧ UOk m a' b' (2 * m - 1) U' H' ∧ (b' ≤ 2 * m - 2 ∨ (v = 0 ∧ b' = b))) ∧ (∀ (A : ms) (cd : Nat), isCode cd → (∀ i : Nat, i < nx → A.1 (cd + 9) i = W i) → (∀ i : Nat, i < nx → ¬ unp m a b nx i → A.1 (cd + 10) i = U i) → ∃ A', EX (fun a _ => a = cd + 9 ∨ a = cd + 10) A A' ∧ (∀ i : Nat, i < 2 * m - 1 → ¬ unp m a' b' (2 * m - 1) i → A'.1 (cd + 10) i = U' i) ∧ EV q 72 37 [some (.ref cd), some (vI m), some (vI a), some (vI b), some (vI nx), none, none, none] [] A none A') ∧ ∀ (B : ms) (a1 na1 a4 na4 : Nat) (x3 x5 x6 : Int), SH a1 = (0, na1, []) → SH a4 = (0, na4, []) → RfH B n m a b nx od c W U → ∃ B', EY (fun a _ => a = 377) B B' ∧ RfH B' n m a' b' (2 * m - 1) od c W' U' ∧ ∀ (R : Option Value) (T : ms), EV q 299 200 [some (.ref 367), some (.ref a1), some (vI n), some (vI x3), some (.ref a4), some (vI x5), some (vI x6), some (vI m), some (vI ((n + (2 * m - 1 - m) : Nat) : Int)), some (vI 0), none, none] [] B' R T → EV q 299 115 [some (.ref 367), some (.ref a1), some (vI n), some (vI x3), some (.ref a4), some (vI x5), some (vI x6), some (vI m), some (vI ((n + (nx - m) : Nat) : Int)), some (vI ((nx - m + 1 : Nat) : Int)), none, none] [] B R T := by
  have wm : Unit → w32 (m : Int) = m := fun _ => w32_of (by omega)
  intro v
  induction v with
  | zero =>
    intro a b nx W H U L hv hm hab h hT hW hWc hU
    have en : 2 * m - 1 = nx := by omega
    rw [en]
    refine ⟨a, b, W, H, U, L, ⟨h, hW, by omega, hU, Or.inr ⟨rfl, rfl⟩⟩, fun A cd hc h9 h10 => ⟨A, EX.refl _ A, h10, vc_Code_joinAll_37 _ _ _ _ _ hc ?_⟩, fun B a1 na1 a4 na4 x3 x5 x6 s1 s4 hB => ⟨B, EY.refl _ B, hB, fun R T k => vc_MD_lengthsBy_115 _ _ _ _ _ _ _ _ _ s1 _ _ s4 ?_⟩⟩
    · rw [w32_of (x := 2 * (m : Int) - 1) (by omega), w32_of (x := (nx : Int)) (by omega)]
      exact cY (by omega) ⟨rfl, rfl⟩
    · rw [wm (), w32_of (x := ((nx - m + 1 : Nat) : Int)) (by omega)]
      exact cY (by omega) k
  | succ v ih =>
    intro a b nx W H U L hv hm hab h hT hW hWc hU
    have hr := h.1.1
    obtain ⟨i1, a1', b1', P1, ⟨s1, l1, q1⟩, L1, Q1, T1⟩ := pop_ex h hT (by omega)
    have hr1 := Q1.1.1
    obtain ⟨i2, a2, b2, P2, ⟨s2, l2, q2⟩, L2, Q2, T2⟩ := pop_ex Q1 T1 (by omega)
    have hr2 := Q2.1.1
    obtain ⟨un1, un1'⟩ := Pop_unp hr P1 q1
    obtain ⟨un2, un2'⟩ := Pop_unp hr1 P2 q2
    have ne12 : i2 ≠ i1 := fun e => un1 (by rw [← e]; exact q2)
    obtain ⟨W1, eW1⟩ : ∃ W1 : Nat → Int, ∀ i, W1 i = if i = nx then W i1 + W i2 else W i := ⟨_, fun _ => rfl⟩
    obtain ⟨H1, eH1⟩ : ∃ H1 : Nat → Nat, ∀ i, H1 i = if i = nx then 1 + max (H i1) (H i2) else H i := ⟨_, fun _ => rfl⟩
    obtain ⟨U1, eU1⟩ : ∃ U1 : Nat → Nat, ∀ i, U1 i = if i = i2 then nx else if i = i1 then nx else U i := ⟨_, fun _ => rfl⟩
    have eW : ∀ i : Nat, i < nx → W1 i = W i := fun i hi => by rw [eW1, if_neg (by omega)]
    have eWN : W1 nx = W i1 + W i2 := by rw [eW1, if_pos rfl]
    have eH : ∀ i : Nat, i < nx → H1 i = H i := fun i hi => by rw [eH1, if_neg (by omega)]
    have eHN : H1 nx = 1 + max (H i1) (H i2) := by rw [eH1, if_pos rfl]
    have QN : HQ m a2 b2 (nx + 1) W1 H1 (W i2) := hq_join h.2.1.2.2 h.2.1.2.1 (fun i hi => (h.2.2 i hi).2.2) ⟨l1, l2⟩ L1 L2 Q2 rfl eW eWN eH eHN
    have smE : ∀ k : Nat, k ≤ nx → sm W1 k = sm W k := fun k hk => sm_cg (fun j hj => eW j (by omega))
    have TN : HT m a2 b2 (nx + 1) W1 Z := by
      unfold HT at T2 ⊢
      rw [sm_1, smE m hm, smE a2 (by omega), smE nx (Nat.le_refl _), smE b2 hr2.2.2, eWN]
      omega
    have wN : W1 nx ≤ Z := HT_le QN TN (Or.inr ⟨hr2.2.2, by omega⟩)
    have unN : ∀ i : Nat, i < nx → (unp m a2 b2 (nx + 1) i ↔ (unp m a b nx i ∧ i ≠ i1 ∧ i ≠ i2)) := fun i hi => by
      have e0 : unp m a2 b2 (nx + 1) i ↔ unp m a2 b2 nx i := by unfold unp; omega
      rw [e0]
      by_cases c2 : i = i2
      · exact ⟨fun y => absurd (by rw [← c2]; exact y) un2, fun y => absurd c2 y.2.2⟩
      · rw [un2' i c2]
        by_cases c1 : i = i1
        · exact ⟨fun y => absurd (by rw [← c1]; exact y) un1, fun y => absurd c1 y.2.1⟩
        · rw [un1' i c1]
          exact ⟨fun y => ⟨y, c1, c2⟩, fun y => y.1⟩
    have UN : UOk m a2 b2 (nx + 1) U1 H1 := fun i hi hu => by
      by_cases e : i = nx
      · exact absurd (Or.inr ⟨by omega, by omega⟩) hu
      have hi' : i < nx := by omega
      rw [eU1]
      by_cases c2 : i = i2
      · rw [if_pos c2, eHN, eH i hi', c2]
        exact ⟨by omega, by omega⟩
      · rw [if_neg c2]
        by_cases c1 : i = i1
        · rw [if_pos c1, eHN, eH i hi', c1]
          exact ⟨by omega, by omega⟩
        · rw [if_neg c1]
          have y := hU i hi' (fun z => hu ((unN i hi').2 ⟨z, c1, c2⟩))
          rw [eH i hi', eH (U i) y.1.2.2]
          exact ⟨by omega, y.2⟩
    obtain ⟨a', b', W', H', U', L', ⟨g1, g2, g3, g4, g5⟩, gc, gm⟩ := ih a2 b2 (nx + 1) W1 H1 U1 (W i2) (by omega) (by omega) (by omega) QN TN (fun i hi => by
      by_cases e : i = nx
      · rw [e]; exact wN
      · rw [eW i (by omega)]; exact hW i (by omega)) (fun i hi => by rw [eW i (by omega)]; exact hWc i hi) UN
    have bN : b' ≤ 2 * m - 2 := by
      rcases g5 with y | y
      · exact y
      · have := hr2.2.2
        omega
    refine ⟨a', b', W', H', U', L', ⟨g1, g2, g3, g4, Or.inl bN⟩, fun A cd hc h9 h10 => ?_, fun B a1 na1 a4 na4 x3 x5 x6 sh1 sh4 hB => ?_⟩
    · obtain ⟨A0, e0⟩ : ∃ A0, A0 = wI A (cd + 9) nx 0 := ⟨_, rfl⟩
      have wr : ∀ i : Nat, i < nx → 0 ≤ W i ∧ W i < 100000000 := fun i hi => ⟨by have := (h.2.2 i hi).1; omega, by have := hW i hi; omega⟩
      obtain ⟨A1, e1⟩ : ∃ A1, A1 = wI (wI A0 (cd + 10) i1 nx) (cd + 9) nx (0 + W i1) := ⟨_, rfl⟩
      obtain ⟨A2, e2⟩ : ∃ A2, A2 = wI (wI A1 (cd + 10) i2 nx) (cd + 9) nx (0 + W i1 + W i2) := ⟨_, rfl⟩
      have h90 : ∀ i : Nat, i < nx → A0.1 (cd + 9) i = W i := fun i hi => by rw [e0, wI_no _ (by omega)]; exact h9 i hi
      have h91 : ∀ i : Nat, i < nx → A1.1 (cd + 9) i = W i := fun i hi => by rw [e1, wI_no _ (by omega), wI_no _ (by omega)]; exact h90 i hi
      have h92 : ∀ i : Nat, i < nx + 1 → A2.1 (cd + 9) i = W1 i := fun i hi => by
        by_cases e : i = nx
        · rw [e, eWN, e2, wI_at]
          omega
        · rw [eW i (by omega), e2, wI_no _ (by omega), wI_no _ (by omega)]
          exact h91 i (by omega)
      have h102 : ∀ i : Nat, i < nx + 1 → ¬ unp m a2 b2 (nx + 1) i → A2.1 (cd + 10) i = U1 i := fun i hi hu => by
        by_cases e : i = nx
        · exact absurd (Or.inr ⟨by omega, by omega⟩) hu
        have hi' : i < nx := by omega
        rw [eU1, e2, wI_no _ (by omega)]
        by_cases c2 : i = i2
        · rw [if_pos c2, c2, wI_at]
        · rw [if_neg c2, wI_no _ (by omega), e1, wI_no _ (by omega)]
          by_cases c1 : i = i1
          · rw [if_pos c1, c1, wI_at]
          · rw [if_neg c1, wI_no _ (by omega), e0, wI_no _ (by omega)]
            exact h10 i hi' (fun z => hu ((unN i hi').2 ⟨z, c1, c2⟩))
      obtain ⟨A', k1, k2, k3⟩ := gc A2 cd hc h92 h102
      have x2 : EX (fun a _ => a = cd + 9 ∨ a = cd + 10) A A2 := by
        rw [e2, e1, e0]
        exact (((((EX.refl _ A).wr (Or.inl rfl)).wr (Or.inr rfl)).wr (Or.inl rfl)).wr (Or.inr rfl)).wr (Or.inl rfl)
      refine ⟨A', x2.trans k1, k2, vc_Code_joinAll_37 _ _ _ _ _ hc ?_⟩
      rw [w32_of (x := 2 * (m : Int) - 1) (by omega), show w32 (nx : Int) = nx from w32_of (by omega)]
      refine cNo (by omega) ⟨by omega, fun S2 r2 => ?_⟩
      rw [← e0] at r2
      rw [r2]
      have y0 : A0.1 (cd + 9) nx = 0 := by rw [e0, wI_at]
      have y1 : A1.1 (cd + 9) nx = 0 + W i1 := by rw [e1, wI_at]
      refine cl_pop (k := 0) hc ⟨hn.2, hm, by omega, hr⟩ (by decide) (fun i hi => ⟨wr i hi, h90 i hi⟩) y0 P1 l1 none A' ?_
      rw [← e1]
      refine cl_pop (k := 0 + 1) hc ⟨hn.2, hm, by omega, hr1⟩ (by decide) (fun i hi => ⟨wr i hi, h91 i hi⟩) y1 P2 l2 none A' ?_
      rw [← e2]
      refine vc_Code_joinAll_58 _ _ _ _ _ _ hc (cY (by decide) ?_)
      rw [show ((nx + 1 : Nat) : Int) = (nx : Int) + 1 by omega] at k3
      exact k3
    · have wl : ∀ i : Nat, i < nx → W i < 100000000 := fun i hi => by have := hW i hi; omega
      have hnx : m ≤ nx ∧ nx < 2 * m := by omega
      have p1 := md_pop (q := q) hn hnx hO hWc h wl P1 (by omega) hB
      obtain ⟨B1, e1⟩ : ∃ B1, B1 = wI B 377 (rI n m od i1) ((n + (nx - m) : Nat) : Int) := ⟨_, rfl⟩
      have hB1 := RfH_pop hO hr hnx hn P1 q1 hB
      rw [← e1] at hB1
      have p2 := md_pop (q := q) hn hnx hO hWc Q1 wl P2 (by omega) hB1
      obtain ⟨B2, e2⟩ : ∃ B2, B2 = wI B1 377 (rI n m od i2) ((n + (nx - m) : Nat) : Int) := ⟨_, rfl⟩
      have hB2 := RfH_pop hO hr1 hnx hn P2 q2 hB1
      rw [← e2] at hB2
      have hB3 := RfH_new (z := W i1 + W i2) hO hr2 hnx hn eW eWN hB2
      obtain ⟨B3, e3⟩ : ∃ B3, B3 = wI (wJ B2 376 ((n + (nx - m) : Nat) : Int) (W i1 + W i2)) 377 ((n + (nx - m) : Nat) : Int) (-1) := ⟨_, rfl⟩
      rw [← e3] at hB3
      have eU : (fun i => if i = i2 then nx else (fun i => if i = i1 then nx else U i) i) = U1 := by
        funext i
        rw [eU1]
      rw [eU] at hB3
      obtain ⟨B', k1, k2, k3⟩ := gm B3 a1 na1 a4 na4 x3 x5 x6 sh1 sh4 hB3
      have x3' : EY (fun a _ => a = 377) B B3 := ⟨by rw [e3, e2, e1]; rfl, fun a k y => by
        rw [e3, wI_no _ (fun z => y z.1)]
        show B2.1 a k = _
        rw [e2, wI_no _ (fun z => y z.1), e1, wI_no _ (fun z => y z.1)]⟩
      refine ⟨B', x3'.trans k1, k2, fun R T kk => vc_MD_lengthsBy_115 _ _ _ _ _ _ _ _ _ sh1 _ _ sh4 ?_⟩
      have k4 := k3 R T kk
      have r1 := rI_lt hO l1 hm
      have r2 := rI_lt hO l2 hm
      have f1 : B2.2.1 376 (rI n m od i1) = W i1 := (hB2.2 i1 l1).1
      have f2 : B2.2.1 376 (rI n m od i2) = W i2 := (hB2.2 i2 l2).1
      rw [wm (), w32_of (x := ((nx - m + 1 : Nat) : Int)) (by omega)]
      refine cNo (by omega) ⟨_, B, p1, ?_⟩
      rw [show w32 (rI n m od i1 : Int) = rI n m od i1 from w32_of (by omega)]
      refine ⟨by omega, fun S5 r5 => ?_⟩
      rw [← e1] at r5
      rw [r5]
      refine ⟨_, B1, p2, ?_⟩
      rw [show w32 (rI n m od i2 : Int) = rI n m od i2 from w32_of (by omega)]
      refine ⟨by omega, fun S10 r10 => ?_⟩
      rw [← e2] at r10
      rw [r10, show w32 ((n + (nx - m) : Nat) : Int) = ((n + (nx - m) : Nat) : Int) from w32_of (by omega), f1, f2]
      refine ⟨by omega, by omega, by omega, fun S14 r14 => ⟨by omega, fun S16 r16 => ?_⟩⟩
      rw [r14, ← e3] at r16
      rw [r16]
      rw [show ((n + (nx + 1 - m) : Nat) : Int) = ((n + (nx - m) : Nat) : Int) + 1 by omega, show ((nx + 1 - m + 1 : Nat) : Int) = ((nx - m + 1 : Nat) : Int) + 1 by omega] at k4
      exact k4
end PJoinA
