/-! how a packing ends, on both sides; delta -/
section Pend
variable {q : Nat × (Nat → Int32)} {S A B : ms} {f a b d : Int} {w : Wt}
/-- a packing went on from S to T; the cells of X were written, and the finder's row -/
def PQ (X : Nat → Int → Prop) (S T : ms) : Prop := ∃ (f : Int) (o : Nat), (FR S f ∧ f ≤ 12) ∧ (EX (fun a k => X a k ∨ a = sR f ∨ a = sR f + 1) (wR S 10 2 o) T ∨ ∃ (n : Int) (g : Int → Int), NW X (wR S 10 2 o) T f n g)
def CE2 (A : ms) (w : Wt) (f : Int) : ms := if w.1 ≤ 12000 then wI A 4 f 1 else A
theorem CE2_2 : (CE2 A w f).2 = A.2 := by
  unfold CE2
  split <;> rfl
theorem CE2_1 (c : Nat) (k : Int) (h : ¬ (c = 4 ∧ k = f)) : (CE2 A w f).1 c k = A.1 c k := by
  unfold CE2
  split
  · rw [rI_I, if_neg h]
  · rfl
theorem cw_settle (f1 : 1 ≤ f) (f2 : f ≤ 12) (h : CWt A (sR f) 12000 w) : EV q 112 0 [some (.ref 0), some (vI f)] [] A (some (vI (if w.1 ≤ 12000 then f else -4))) (CE2 A w f) := by
  unfold CE2
  by_cases c : w.1 ≤ 12000
  · rw [if_pos c, if_pos c]
    exact ph_settle f1 f2 (h.1 c).2.1
  · rw [if_neg c, if_neg c]
    obtain ⟨s1, s2⟩ := st_is f1 f2
    have wf : w32 f = f := w32_of (by omega)
    refine vc_PH_settle _ ?_
    rw [wf]
    refine ⟨by omega, sR f, 12000, s1, s2, ?_⟩
    rw [(h.2 (by omega)).1]
    exact cNo (by decide) ⟨rfl, rfl⟩
theorem op_pend {X : Nat → Int → Prop} {o : Nat} (hX2 : ∀ a k, X a k → a ≠ 4 ∧ (a < 343 ∨ 366 < a) ∧ a ≠ 369 ∧ a ≠ 370 ∧ a ≠ 371) (hS : RS S) (hF : FR S f) (hf : f ≤ 12) (hw : (0 ≤ w.1 ∧ w.1 < 1000000) ∧ wtO w) (hA : CWt A (sR f) 12000 w) (eA : A.2 = (wR S 10 2 o).2 ∧ ∀ (a : Nat) (k : Int), ¬ X a k → a ≠ sR f → a ≠ sR f + 1 → A.1 a k = S.1 a k) (hB : MWt B w) (eB : B.2 = (CE2 A w f).2 ∧ ∀ (a : Nat) (k : Int), (a < 367 ∨ ¬ X a k) → B.1 a k = (CE2 A w f).1 a k) : ∃ T, dEnd q B (some (vI (if w.1 ≤ 12000 then f else -4))) T ∧ PQ X S T := by
  obtain ⟨f1, f2, f3⟩ := id hF
  have rg := sR_rg f1.1 hf
  have ww : w32 w.1 = w.1 := w32_of (by omega)
  have sX : ∀ k, ¬ X (sR f) k := fun k y => by have := hX2 _ _ y; omega
  have sX1 : ∀ k, ¬ X (sR f + 1) k := fun k y => by have := hX2 _ _ y; omega
  have c2 : ∀ (a : Nat) (k : Int), ¬ X a k → a ≠ sR f → a ≠ sR f + 1 → ¬ (a = 4 ∧ k = f) → B.1 a k = S.1 a k := by
    intro a k n n1 n2 n3
    rw [eB.2 a k (Or.inr n), CE2_1 a k n3, eA.2 a k n n1 n2]
  have e2 : B.2 = (wR S 10 2 o).2 := by rw [eB.1, CE2_2, eA.1]
  have e4 : ∀ k : Int, 1 ≤ k → k ≤ 12 → B.1 371 k = S.1 4 k := fun k k1 k2 => by
    rw [c2 371 k (fun y => (hX2 _ _ y).2.2.2.2 rfl) (by omega) (by omega) (by omega)]
    exact (hS k k1 k2).2.1
  by_cases c : w.1 ≤ 12000
  · obtain ⟨h1, h2, h3⟩ := hA.1 c
    obtain ⟨n, hn⟩ : ∃ n, n = w.1 := ⟨_, rfl⟩
    have new := md_new (q := q) (T := B) (c := 374) (n1 := 30000) (fr := 0) (n := n) hF hf e4 rfl (by decide) (by decide) (by decide) (by omega) (by omega) (by omega)
    obtain ⟨T, eT⟩ : ∃ T, T = wC (wI (wI B 371 f 1) 370 f n) 369 (12000 * f) n (fun k => b8 ((wI (wI B 371 f 1) 370 f n).1 374 (0 + k))) := ⟨_, rfl⟩
    rw [← eT] at new
    have eT2 : T.2 = (wR S 10 2 o).2 := by rw [eT]; exact e2
    have key : ∀ (a : Nat) (k : Int), T.1 a k = if a = 369 ∧ 12000 * f ≤ k ∧ k < 12000 * f + n then b8 ((wI (wI B 371 f 1) 370 f n).1 374 (0 + (k - 12000 * f))) else if a = 370 ∧ k = f then n else if a = 371 ∧ k = f then 1 else B.1 a k := fun _ _ => by rw [eT]; rfl
    refine ⟨T, ?_, f, o, ⟨hF, hf⟩, Or.inr ⟨n, w.2, ⟨⟨f1.1, hf⟩, by omega, fun k _ _ => hw.2 k⟩, eT2, ⟨?_, ?_, fun k k0 kn => ?_⟩, ⟨?_, ?_, fun k k0 kn => ?_⟩, fun a k hn' e1 e2' e3 e4' e5 e6 => ?_⟩⟩
    · unfold dEnd
      rw [hB.1, ww, if_pos c, ← hn]
      exact cY (by omega) ⟨f, _, new, rfl, rfl⟩
    · rw [key, if_neg (by omega), if_neg (by omega), if_neg (by omega), eB.2 4 f (Or.inl (by decide))]
      unfold CE2
      rw [if_pos c, rI_I, if_pos ⟨rfl, rfl⟩]
    · rw [key, if_neg (by omega), if_neg (by omega), if_neg (by omega), eB.2 _ _ (Or.inr (sX 1)), CE2_1 _ _ (by omega), h1, hn]
    · rw [key, if_neg (by omega), if_neg (by omega), if_neg (by omega), eB.2 _ _ (Or.inr (sX1 k)), CE2_1 _ _ (by omega)]
      exact h3 k k0 (by omega)
    · rw [key, if_neg (by omega), if_neg (by omega), if_pos ⟨rfl, rfl⟩]
    · rw [key, if_neg (by omega), if_pos ⟨rfl, rfl⟩]
    · rw [key, if_pos ⟨rfl, by omega, by omega⟩, show 0 + (12000 * f + k - 12000 * f) = k by omega, rI_I, if_neg (by omega), rI_I, if_neg (by omega), hB.2 k k0 (by omega) (by omega), b8_of (b8_rg _)]
    · rw [key, if_neg (fun z => e6 ⟨z.1, z.2.1, by omega⟩), if_neg e5, if_neg e4', c2 a k hn' e1 e2' e3]
      rfl
  · refine ⟨B, ?_, f, o, ⟨hF, hf⟩, Or.inl ⟨e2, fun a k n => ?_⟩⟩
    · unfold dEnd
      rw [hB.1, ww, if_neg c]
      exact cNo c ⟨rfl, rfl⟩
    · have n1 : ¬ X a k := fun y => n (Or.inl y)
      have n2 : a ≠ sR f := fun y => n (Or.inr (Or.inl y))
      have n3 : a ≠ sR f + 1 := fun y => n (Or.inr (Or.inr y))
      have z1 : (CE2 A w f).1 a k = A.1 a k := by
        unfold CE2
        rw [if_neg c]
      rw [eB.2 a k (Or.inr n1), z1, eA.2 a k n1 n2 n3]
      rfl
/-- the cells that delta writes -/
def XD (a : Nat) (k : Int) : Prop := (a = 10 ∧ (k = 3 ∨ k = 4)) ∨ a = 11 ∨ a = 12 ∨ (a = 367 ∧ (k = 0 ∨ (9 ≤ k ∧ k ≤ 11) ∨ k = 26 ∨ k = 27)) ∨ a = 374
theorem op24_ok (ha : -2147483648 ≤ a ∧ a < 2147483648) (hb : -2147483648 ≤ b ∧ b < 2147483648) (hS : RS S) (hq : RQ S) : op_24 q a b d S (fun T => T = wI S 367 0 0 ∨ PQ XD S T) := by
  have ea : w32 a = a := w32_of ha
  have eb : w32 b = b := w32_of hb
  have hS0 : RS (wI S 367 0 0) := RS_0 hS
  by_cases cl : Lv S a
  case neg =>
    exact ⟨-1, S, -1, wI S 367 0 0, vc_PH_delta _ _ ⟨0, S, ph_live0 ea hS cl, cY (by decide) ⟨rfl, rfl⟩⟩, vc_MD_delta _ _ (fun S1 f => by subst f; exact ⟨1, _, md_ns1 ea hS0 (fun y => cl y), cY (by decide) ⟨rfl, rfl⟩⟩), rfl, Or.inl rfl⟩
  by_cases cl2 : Lv S b
  case neg =>
    exact ⟨-1, S, -1, wI S 367 0 0, vc_PH_delta _ _ ⟨1, S, ph_live1 ea cl, cNo (by decide) ⟨0, S, ph_live0 eb hS cl2, cNN (by decide) ⟨rfl, rfl⟩⟩⟩, vc_MD_delta _ _ (fun S1 f => by subst f; exact ⟨0, _, md_ns0 ea hS0 cl, cNN (by decide) ⟨1, _, md_ns1 eb hS0 (fun y => cl2 y), cNo (by decide) ⟨rfl, rfl⟩⟩⟩), rfl, Or.inl rfl⟩
  obtain ⟨f, hF⟩ := fr_ex hS
  have kfree := ph_free (q := q) hF
  by_cases cf : f ≤ 12
  case neg =>
    rw [if_neg cf] at kfree
    have kf2 := md_free (q := q) (T := wI S 367 0 0) hF (fun k k1 k2 => by rw [r0a _ _ (by decide)]; exact (hS k k1 k2).2.1)
    rw [if_neg cf] at kf2
    exact ⟨-4, S, -4, wI S 367 0 0, vc_PH_delta _ _ ⟨1, S, ph_live1 ea cl, cNo (by decide) ⟨1, S, ph_live1 eb cl2, cY (by decide) ⟨0, S, kfree, cNN (by decide) ⟨rfl, rfl⟩⟩⟩⟩, vc_MD_delta _ _ (fun S1 f => by subst f; exact ⟨0, _, md_ns0 ea hS0 cl, cNN (by decide) ⟨0, _, md_ns0 eb hS0 cl2, cY (by decide) ⟨-4, _, kf2, cNo (by decide) ⟨rfl, rfl⟩⟩⟩⟩), rfl, Or.inl rfl⟩
  rw [if_pos cf] at kfree
  obtain ⟨f1, f2, f3⟩ := id hF
  have rg := sR_rg f1.1 cf
  have rga := sR_rg cl.1 cl.2.1
  have rgb := sR_rg cl2.1 cl2.2.1
  obtain ⟨s1, s2⟩ := st_is f1.1 cf
  obtain ⟨s3, s4⟩ := st_is cl.1 cl.2.1
  obtain ⟨s5, s6⟩ := st_is cl2.1 cl2.2.1
  have fa : f ≠ a := fun y => by
    have := f3 cf
    rw [y] at this
    have := cl.2.2
    omega
  have fb : f ≠ b := fun y => by
    have := f3 cf
    rw [y] at this
    have := cl2.2.2
    omega
  have sna : sR a ≠ sR f ∧ sR a + 1 ≠ sR f ∧ sR a ≠ sR f + 1 := by
    have h1 := cl.1
    have h2 := f1.1
    unfold sR
    omega
  have snb : sR b ≠ sR f ∧ sR b + 1 ≠ sR f ∧ sR b ≠ sR f + 1 := by
    have h1 := cl2.1
    have h2 := f1.1
    unfold sR
    omega
  obtain ⟨y1, y2, y3⟩ := (hS a cl.1 cl.2.1).2.2 cl.2.2
  obtain ⟨z1, z2, z3⟩ := (hS b cl2.1 cl2.2.1).2.2 cl2.2.2
  obtain ⟨n, en⟩ : ∃ n, n = S.1 (sR a) 1 := ⟨_, rfl⟩
  obtain ⟨m, em⟩ : ∃ m, m = S.1 (sR b) 1 := ⟨_, rfl⟩
  obtain ⟨F, eF⟩ : ∃ F : Int → Int, ∀ k, F k = S.1 (sR a + 1) k := ⟨_, fun _ => rfl⟩
  obtain ⟨G, eG⟩ : ∃ G : Int → Int, ∀ k, G k = S.1 (sR b + 1) k := ⟨_, fun _ => rfl⟩
  rw [← en] at y1 y2 y3
  rw [← em] at z1 z2 z3
  obtain ⟨x, ex⟩ : ∃ x : Int, x = -(crR (fun k => F k) n.toNat : Nat) - 1 := ⟨_, rfl⟩
  obtain ⟨w0, ew0⟩ : ∃ w0 : Wt, w0 = (0, fun _ => 0) := ⟨_, rfl⟩
  have w00 : w0.1 = 0 := by rw [ew0]
  have w0O : wtO w0 := fun k => by rw [ew0]; show (0 : Int) ≤ 0 ∧ (0 : Int) < 256; decide
  obtain ⟨w1, ew1⟩ : ∃ w1, w1 = wtSev 4 m w0 := ⟨_, rfl⟩
  have g1 := wtSev_1 4 m w0
  rw [← ew1] at g1
  obtain ⟨w2, ew2⟩ : ∃ w2, w2 = wtPuts (loF (w32 x)) 4 w1 := ⟨_, rfl⟩
  have g2 : w2.1 = w1.1 + 4 := by
    rw [ew2, wtPuts_1]
    rfl
  have w2O : wtO w2 := by
    rw [ew2, ew1]
    exact wtO_puts _ (wtO_sev _ _ w0O) _
  obtain ⟨w, hw, lc, lm⟩ := dl_loop (q := q) (F := F) (G := G) (n := n) (m := m) y1 z1 m.toNat 0 0 0 0 w2 (by omega) (by omega) (by omega) (by omega) (by omega) (by omega) w2O
  -- the class
  obtain ⟨A0, eA0⟩ : ∃ A0, A0 = CL S (sR f) := ⟨_, rfl⟩
  have kcl := sp_clear (q := q) (S := S) s2
  rw [← eA0] at kcl
  have at0 : ∀ (c : Nat) (k : Int), c ≠ sR f → A0.1 c k = S.1 c k := fun c k h => by rw [eA0, CL_n _ h]
  have h0 : CWt A0 (sR f) 12000 w0 := by
    refine ⟨fun _ => ⟨?_, ?_, fun k k0 k1 => absurd k1 (by omega)⟩, fun y => absurd y (by omega)⟩
    · rw [eA0, CL_1, w00]
    · rw [eA0, CL_at, if_neg (by omega), if_pos ⟨rfl, rfl⟩]
  obtain ⟨A1, k1, k2, k3⟩ := cw_sev (q := q) (v := m) (by omega) s2 (by decide) (by omega) h0
  rw [← ew1] at k3
  have at1 : ∀ (c : Nat) (k : Int), c ≠ sR f → c ≠ sR f + 1 → A1.1 c k = S.1 c k := fun c k h1 h2 => by rw [k2.2 c k (by unfold XRo; omega), at0 c k h1]
  have krd : EV q 28 0 [some (.ref (sR a + 1)), some (vI 0), some (vI n), none, none] [] A1 (some (vI x)) A1 := by
    have k1 := sp_crd (q := q) (S := A1) (c := sR a + 1) (n1 := 12000) (n := n.toNat) (fr := 0) (g := fun k => F k) s4.2 (by decide) (by decide) (by omega) (fun k hk => by
      have := y3 k (by omega) (by omega)
      refine ⟨by rw [eF]; exact this.1, ?_⟩
      rw [Int.zero_add, at1 _ _ sna.2.1 (by omega), eF])
    rw [show (0 : Int) + (n.toNat : Nat) = n by omega, ← ex] at k1
    exact k1
  obtain ⟨A2, k4, k5, k6⟩ := cw_low (q := q) (w32 x) (n := 4) (by omega) s2 (by decide) (by omega) k3
  rw [← ew2] at k6
  have ex2 : EX (XRo (sR f)) A0 A2 := k2.trans k5
  have at2 : ∀ (c : Nat) (k : Int), c ≠ sR f → c ≠ sR f + 1 → A2.1 c k = S.1 c k := fun c k h1 h2 => by rw [ex2.2 c k (by unfold XRo; omega), at0 c k h1]
  obtain ⟨A3, k7, k8, k9, k10⟩ := cf_chain (q := q) (A := A2) (a1 := sR a) (F := F) (n := n) s4 (by omega) y1 (by rw [at2 _ _ sna.1 sna.2.2, en]) (fun k k0 k1 => by rw [at2 _ _ sna.2.1 (by omega), eF])
  have at3 : ∀ (c : Nat) (k : Int), ¬ XF c k → A3.1 c k = A2.1 c k := fun c k h => k8.2 c k h
  have hD : DCc A3 (sR f) (sR b) (sR a + 1) 12000 F G n m := by
    refine ⟨⟨s6, s2, s4.2, by omega⟩, by omega, ⟨snb.1, snb.2.1, snb.2.2, sna.2.1, by omega⟩, ?_, k9, ?_, fun k k0 k1 => ⟨by rw [eF]; exact (y3 k k0 k1).1, ?_⟩, fun k k0 k1 => ⟨by rw [eG]; exact (z3 k k0 k1).1, ?_⟩, k10⟩
    · rw [k8.1]
      show (if 10 = 10 ∧ (2 : Int) = 2 then sR a + 1 else A2.2.2 10 2) = sR a + 1
      rw [if_pos ⟨rfl, rfl⟩]
    · rw [at3 _ _ (by unfold XF; omega), at2 _ _ snb.1 snb.2.2, em]
    · rw [at3 _ _ (by unfold XF; omega), at2 _ _ sna.2.1 (by omega), eF]
    · rw [at3 _ _ (by unfold XF; omega), at2 _ _ snb.2.1 (by omega), eG]
  have h3 : CWt A3 (sR f) 12000 w2 := CWt_cg k6 (fun c k y => at3 c k (by unfold XRo at y; unfold XF; omega))
  obtain ⟨A, l1, l2, l3⟩ := lc A3 (sR f) (sR b) (sR a) (sR a + 1) 12000 0 hD s4 (by omega) h3
  rw [show (0 : Int) + 200 * ((0 : Nat) : Int) = 0 by omega] at l1
  have eA : A.2 = (wR S 10 2 (sR a + 1)).2 ∧ ∀ (c : Nat) (k : Int), ¬ XD c k → c ≠ sR f → c ≠ sR f + 1 → A.1 c k = S.1 c k := by
    constructor
    · rw [l2.1, k8.1]
      have y : A2.2 = S.2 := by
        rw [ex2.1, eA0]
        rfl
      show (A2.2.1, fun b k => if b = 10 ∧ k = 2 then sR a + 1 else A2.2.2 b k) = _
      rw [y]
      rfl
    · intro c k n1 n2 n3
      unfold XD at n1
      rw [l2.2 c k (by unfold XC XRo X4; omega), at3 c k (by unfold XF; omega), at2 c k n2 n3]
  -- the reference
  obtain ⟨B0, eB0⟩ : ∃ B0, B0 = wI (CE2 A w f) 367 0 0 := ⟨_, rfl⟩
  have atE : ∀ (c : Nat) (k : Int), ¬ XD c k → c ≠ sR f → c ≠ sR f + 1 → ¬ (c = 4 ∧ k = f) → B0.1 c k = S.1 c k := fun c k n n1 n2 n3 => by
    have n' := n
    unfold XD at n'
    rw [eB0, rI_I, if_neg (by omega), CE2_1 _ _ n3, eA.2 c k n n1 n2]
  have hB371 : ∀ k : Int, 1 ≤ k → k ≤ 12 → B0.1 371 k = S.1 4 k := fun k k1 k2 => by
    rw [atE _ _ (by unfold XD; omega) (by omega) (by omega) (by omega)]
    exact (hS k k1 k2).2.1
  have kns : ∀ c : Int, w32 c = c → Lv S c → EV q 271 0 [some (.ref 367), some (vI c)] [] B0 (some (vI 0)) B0 := by
    intro c ec hc
    refine vc_MD_noStream c ⟨1, B0, md_in1 (by show 1 ≤ w32 c; have := hc.1; omega) (by show w32 c ≤ 12; have := hc.2.1; omega), fun c => absurd c (by decide), fun _ => ⟨by have := hc.1; have := hc.2.1; omega, fun _ => ⟨rfl, rfl⟩, fun y => ?_⟩⟩
    rw [ec, hB371 c hc.1 hc.2.1, hc.2.2] at y
    exact absurd (by decide) y
  have kf2 := md_free (q := q) (T := B0) hF hB371
  rw [if_pos cf] at kf2
  obtain ⟨B1, eB1⟩ : ∃ B1, B1 = wI (wI (wI B0 367 9 0) 367 10 0) 367 11 0 := ⟨_, rfl⟩
  have kbg : EV q 278 0 [some (.ref 367), some (vI 0)] [] B0 none B1 := vc_MD_begin _ (fun S1 g1 S2 g2 => ⟨Or.inl rfl, fun S4 g4 => ⟨rfl, by subst g1 g2 g4; exact eB1⟩⟩)
  have atB1 : ∀ (c : Nat) (k : Int), ¬ (c = 367 ∧ 9 ≤ k ∧ k ≤ 11) → B1.1 c k = B0.1 c k := fun c k n => by
    rw [eB1, rI_I, if_neg (by omega), rI_I, if_neg (by omega), rI_I, if_neg (by omega)]
  have hm0 : MWt B1 w0 := ⟨by rw [eB1, rI_I, if_neg (by decide), rI_I, if_neg (by decide), rI_I, if_pos ⟨rfl, rfl⟩, w00], fun k k0 k1 _ => absurd k1 (by omega)⟩
  have eN : B1.1 370 a = n := by rw [atB1 _ _ (by omega), atE _ _ (by unfold XD; omega) (by omega) (by omega) (by omega), y2]
  have eM : B1.1 370 b = m := by rw [atB1 _ _ (by omega), atE _ _ (by unfold XD; omega) (by omega) (by omega) (by omega), z2]
  have wn : w32 n = n := w32_of (by omega)
  have wm : w32 m = m := w32_of (by omega)
  obtain ⟨B2, j1, j2, j3⟩ := mw_sev (q := q) (v := m) (by omega) (by omega) hm0
  rw [← ew1] at j3
  have at369 : ∀ (B : ms) (k : Int), EX XW B1 B → B.1 369 k = S.1 369 k := fun B k h => by rw [h.2 _ _ (by unfold XW; omega), atB1 _ _ (by omega), atE _ _ (by unfold XD; omega) (by omega) (by omega) (by omega)]
  have krm : EV q 264 0 [some (.ref 367), some (.ref 369), some (vI (12000 * a)), some (vI n), none, none] [] B2 (some (vI x)) B2 := by
    have ca := cl.1
    have cb := cl.2.1
    have k1 := sp_mrd (q := q) (S := B2) (c := 369) (n1 := 156000) (n := n.toNat) (fr := 12000 * a) (g := fun k => F k) rfl (by decide) (by omega) (by omega) (fun k hk => by
      have := y3 k (by omega) (by omega)
      refine ⟨by rw [eF]; exact this.1, ?_⟩
      rw [at369 B2 _ j2, eF]
      exact oct_eq this.1 this.2) (fun t' ht' => by
      rw [j2.2 _ _ (by unfold XW; omega), atB1 _ _ (by omega), atE _ _ (by unfold XD; omega) (by omega) (by omega) (by omega)]
      exact hq.1 t' ht')
    rw [show ((n.toNat : Nat) : Int) = n by omega, ← ex] at k1
    exact k1
  obtain ⟨B3, j4, j5, j6⟩ := mw_low (q := q) (w32 x) (n := 4) (by omega) (by omega) j3
  rw [← ew2] at j6
  have hDm : DCm B3 a b F G n m := ⟨⟨cl.1, cl.2.1⟩, ⟨cl2.1, cl2.2.1⟩, fun k k0 k1 => ⟨by rw [eF]; exact (y3 k k0 k1).1, by rw [at369 B3 _ (j2.trans j5), eF]; exact (y3 k k0 k1).2⟩, fun k k0 k1 => ⟨by rw [eG]; exact (z3 k k0 k1).1, by rw [at369 B3 _ (j2.trans j5), eG]; exact (z3 k k0 k1).2⟩⟩
  obtain ⟨T, i1, i2⟩ := lm B3 a b (some (vI (if w.1 ≤ 12000 then f else -4))) (PQ XD S) hDm j6 (fun B4 u1 u2 => op_pend (q := q) (X := XD) (o := sR a + 1) (fun c k y => by unfold XD at y; omega) hS hF cf ⟨by omega, hw.2⟩ l3 eA u2 ⟨by
      rw [u1.1, j5.1, j2.1, eB1, eB0]
      rfl, fun c k y => by
      rw [u1.2 c k (by unfold XL; unfold XD at y; omega), j5.2 c k (by unfold XW; unfold XD at y; omega), j2.2 c k (by unfold XW; unfold XD at y; omega), atB1 c k (by unfold XD at y; omega), eB0, rI_I, if_neg (by unfold XD at y; omega)]⟩)
  have wf : w32 f = f := w32_of (by omega)
  refine ⟨if w.1 ≤ 12000 then f else -4, CE2 A w f, if w.1 ≤ 12000 then f else -4, T, vc_PH_delta _ _ ⟨1, S, ph_live1 ea cl, cNo (by decide) ⟨1, S, ph_live1 eb cl2, cY (by decide) ⟨f, S, kfree, ?_⟩⟩⟩, vc_MD_delta _ _ (fun S1 e => ?_), rfl, Or.inr i2⟩
  · rw [wf]
    refine cY (by omega) ?_
    rw [ea, eb]
    refine ⟨by omega, sR f, 12000, s1, s2, A0, kcl, by have := cl.1; have := cl.2.1; omega, sR a, 12000, s3, s4, by have := cl2.1; have := cl2.2.1; omega, sR b, 12000, s5, s6, by omega, sR f, 12000, s1, s2, A, vc_Copies_packDelta _ _ s4 _ _ s6 _ _ s2 ⟨A1, ?_, x, A1, ?_, A2, k4, A3, k7, l1⟩, _, _, cw_settle f1.1 cf l3, rfl, rfl⟩
    · rw [at0 _ _ snb.1, ← em]
      exact k1
    · rw [at1 _ _ sna.1 sna.2.2, ← en]
      exact krd
  · rw [← eB0] at e
    subst e
    refine ⟨0, _, kns a ea cl, cNN (by decide) ⟨0, _, kns b eb cl2, cY (by decide) ⟨f, _, kf2, ?_⟩⟩⟩
    rw [wf]
    refine cY (by omega) ⟨B1, kbg, ?_⟩
    rw [ea, eb, eN, eM, wm]
    exact ⟨by have := cl.1; have := cl.2.1; omega, by have := cl2.1; have := cl2.2.1; omega, B2, j1, x, B2, krm, B3, j4, i1⟩
end Pend
