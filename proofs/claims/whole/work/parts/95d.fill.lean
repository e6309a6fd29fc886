/-! fill on both sides -/
section Fill
variable {q : Nat × (Nat → Int32)} {S : ms} {a b d : Int}
/-- the octet by a rule, as the class has it, and as the reference has it -/
def rlC (kind r cnt : Int) (f : Int → Int) : Int := if kind = 1 then 97 + Int.tmod r 4 else if kind = 2 then (if 240 ≤ r then r else if cnt < 17 then r else f (cnt - 17)) else if kind = 3 then (if 230 ≤ r then r else if cnt < 1 then r else f (cnt - 1)) else r
def zN (z : Int) : Int := z * 1664525 + 1013904223
def rN (z : Int) : Int := zN z % 4294967296 / 16777216
theorem rN_rg (z : Int) : 0 ≤ rN z ∧ rN z < 256 := by
  unfold rN
  omega
theorem ph_behind {x y cnt : Int} (hc : S.1 1 1 = cnt) (h0 : 0 ≤ cnt ∧ cnt ≤ 6000) (hx : 0 < x ∧ x < 100) : EV q 22 0 [some (.ref 1), some (vI x), some (vI y)] [] S (some (vI (if cnt < x then y else S.1 2 (cnt - x)))) S := by
  have e1 : w32 x = x := w32_of (by omega)
  have e2 : w32 cnt = cnt := w32_of (by omega)
  have e3 : w32 (cnt - x) = cnt - x := w32_of (by omega)
  refine vc_Row_behind x y 1 6000 is_1 ?_
  rw [hc, e1, e2, e3]
  refine ⟨fun c => absurd c (by omega), fun _ => ⟨fun c => ⟨by rw [if_pos c], rfl⟩, fun c => ⟨by omega, by rw [if_neg c], rfl⟩⟩⟩
theorem ph_ruled {kind z cnt : Int} (hc : S.1 1 1 = cnt) (h0 : 0 ≤ cnt ∧ cnt ≤ 6000) (hk : 0 ≤ kind ∧ kind ≤ 3) : EV q 21 0 [some (.ref 0), some (vI kind), some (vI (rN z))] [] S (some (vI (rlC kind (rN z) cnt (S.1 2)))) S := by
  have hr := rN_rg z
  have ek : w32 kind = kind := w32_of (by omega)
  have er : w32 (rN z) = rN z := w32_of (by omega)
  have e4 : w32 4 = 4 := rfl
  refine vc_PH_ruled kind (rN z) ?_
  rw [ek, er, e4]
  unfold rlC
  refine ⟨fun c => ⟨by rw [if_pos c], rfl⟩, fun c => ⟨fun c2 => ⟨by rw [if_neg (by omega), if_pos c, if_pos c2], rfl⟩, fun c2 => ⟨_, S, ph_behind hc h0 (by decide), ?_, rfl⟩⟩, fun c => ⟨fun c2 => ⟨by rw [if_neg (by omega), if_neg (by omega), if_pos c, if_pos c2], rfl⟩, fun c2 => ⟨_, S, ph_behind hc h0 (by decide), ?_, rfl⟩⟩, fun c1 c2 c3 => ⟨by rw [if_neg c1, if_neg c2, if_neg c3], rfl⟩⟩
  · rw [if_neg (by omega), if_pos c, if_neg c2]
  · rw [if_neg (by omega), if_neg (by omega), if_pos c, if_neg c2]
/-- t octets by a rule behind the class's TRAY -/
def fC (kind : Int) : Nat → Int → ms → ms
  | 0, _, S => S
  | t + 1, z, S => fC kind t (zN z) (wI (wI S 2 (S.1 1 1) (rlC kind (rN z) (S.1 1 1) (S.1 2) % 256)) 1 1 (S.1 1 1 + 1))
theorem lp_phfill {kind n sd : Int} (hk : 0 ≤ kind ∧ kind ≤ 3) (hn : n ≤ 6000) : ∀ (t : Nat) (i z : Int) (S : ms), 0 ≤ i → i + t = n → 0 ≤ S.1 1 1 → S.1 1 1 + t ≤ 6000 → EV q 20 40 [some (.ref 0), some (vI kind), some (vI n), some (vI sd), some (vI z), some (vI i)] [] S (some (vI (S.1 1 1 + t))) (fC kind t z S) := by
  intro t
  induction t with
  | zero =>
    intro i z S hi ht h0 h1
    have e : i = n := by omega
    subst e
    exact vc_PH_fill_40 _ _ _ _ _ ⟨fun _ => ⟨by rw [show S.1 1 1 + ((0 : Nat) : Int) = S.1 1 1 by omega], rfl⟩, fun c => absurd (Int.le_refl _) c⟩
  | succ t ih =>
    intro i z S hi ht h0 h1
    refine vc_PH_fill_40 _ _ _ _ _ ⟨fun c => ?_, fun _ => ⟨_, S, ph_ruled (z := z) rfl (by omega) hk, _, row_add (q := q) is_1 (by decide) rfl h0 (by omega) _, ?_⟩⟩
    · rw [w32_of (by omega), w32_of (by omega)] at c
      omega
    · have e : (wI (wI S (1 + 1) (S.1 1 1) (rlC kind (rN z) (S.1 1 1) (S.1 2) % 256)) 1 1 (S.1 1 1 + 1)).1 1 1 = S.1 1 1 + 1 := by rw [rI_I, if_pos ⟨rfl, rfl⟩]
      have k := ih (i + 1) (zN z) (wI (wI S (1 + 1) (S.1 1 1) (rlC kind (rN z) (S.1 1 1) (S.1 2) % 256)) 1 1 (S.1 1 1 + 1)) (by omega) (by omega) (by rw [e]; omega) (by rw [e]; omega)
      rw [e, show S.1 1 1 + 1 + (t : Int) = S.1 1 1 + ((t + 1 : Nat) : Int) by omega] at k
      exact k
def rlM (kind r cnt : Int) (f : Int → Int) : Int := if kind = 3 then (if cnt < 1 then r else if 230 ≤ r then r else f (cnt - 1)) else if kind = 2 then (if cnt < 17 then r else if 240 ≤ r then r else f (cnt - 17)) else if kind = 1 then 97 + Int.tmod r 4 else r
def fM (kind : Int) : Nat → Int → ms → ms
  | 0, _, S => S
  | t + 1, z, S => fM kind t (zN z) (wI (wI S 368 (S.1 367 2) (b8 (b8 (rlM kind (rN z) (S.1 367 2) (S.1 368))))) 367 2 (S.1 367 2 + 1))
theorem lp_mdfill {kind n sd : Int} (hk : 0 ≤ kind ∧ kind ≤ 3) (hn : n ≤ 6000) : ∀ (t : Nat) (i z : Int) (S : ms), 0 ≤ i → i + t = n → 0 ≤ S.1 367 2 → S.1 367 2 + t ≤ 6000 → EV q 258 42 [some (.ref 367), some (vI kind), some (vI n), some (vI sd), some (vI z), some (vI i), none, none] [] S (some (vI (S.1 367 2 + t))) (fM kind t z S) := by
  intro t
  induction t with
  | zero =>
    intro i z S hi ht h0 h1
    have e : i = n := by omega
    subst e
    exact vc_MD_fill_42 _ _ _ _ _ ⟨fun _ => ⟨by rw [show S.1 367 2 + ((0 : Nat) : Int) = S.1 367 2 by omega], rfl⟩, fun c => absurd (Int.le_refl _) c⟩
  | succ t ih =>
    intro i z S hi ht h0 h1
    have hr := rN_rg z
    have ek : w32 kind = kind := w32_of (by omega)
    have er : w32 (rN z) = rN z := w32_of (by omega)
    have ec : w32 (S.1 367 2) = S.1 367 2 := w32_of (by omega)
    have e4 : w32 4 = 4 := rfl
    -- the end of a turn, with the octet v
    have fin : ∀ v : Int, v = rlM kind (rN z) (S.1 367 2) (S.1 368) → EV q 258 156 [some (.ref 367), some (vI kind), some (vI n), some (vI sd), some (vI (zN z)), some (vI i), some (vI (rN z)), some (vI v)] [] S (some (vI (S.1 367 2 + ((t + 1 : Nat) : Int)))) (fM kind (t + 1) z S) := by
      intro v hv
      subst hv
      refine vc_MD_fill_156 _ _ _ _ _ _ _ ?_
      rw [ec]
      refine ⟨by omega, fun S2 f2 S3 f3 => ?_⟩
      have e2 : S2.1 367 2 = S.1 367 2 := by
        subst f2
        rw [rI_I, if_neg (by omega)]
      rw [e2] at f3
      subst f2 f3
      have e : (wI (wI S 368 (S.1 367 2) (b8 (b8 (rlM kind (rN z) (S.1 367 2) (S.1 368))))) 367 2 (S.1 367 2 + 1)).1 367 2 = S.1 367 2 + 1 := by rw [rI_I, if_pos ⟨rfl, rfl⟩]
      have k := ih (i + 1) (zN z) (wI (wI S 368 (S.1 367 2) (b8 (b8 (rlM kind (rN z) (S.1 367 2) (S.1 368))))) 367 2 (S.1 367 2 + 1)) (by omega) (by omega) (by rw [e]; omega) (by rw [e]; omega)
      rw [e, show S.1 367 2 + 1 + (t : Int) = S.1 367 2 + ((t + 1 : Nat) : Int) by omega] at k
      exact k
    -- behind the rule for kind 2
    have mid : ∀ v : Int, (kind ≠ 3 → v = rlM kind (rN z) (S.1 367 2) (S.1 368)) → (kind = 3 → v = rN z) → EV q 258 122 [some (.ref 367), some (vI kind), some (vI n), some (vI sd), some (vI (zN z)), some (vI i), some (vI (rN z)), some (vI v)] [] S (some (vI (S.1 367 2 + ((t + 1 : Nat) : Int)))) (fM kind (t + 1) z S) := by
      intro v h3 h3'
      refine vc_MD_fill_122 _ _ _ _ _ _ _ ?_
      rw [ek, er, ec]
      refine ⟨fun c => fin v (h3 c), fun c => ⟨fun c1 => fin v ?_, fun c1 => ⟨fun c2 => fin v ?_, fun c2 => ⟨?_, fin _ ?_⟩⟩⟩⟩
      · have hk3 := Classical.not_not.mp c
        rw [h3' hk3]
        unfold rlM
        rw [if_pos hk3, if_pos c1]
      · have hk3 := Classical.not_not.mp c
        rw [h3' hk3]
        unfold rlM
        rw [if_pos hk3, if_neg c1, if_pos c2]
      · rw [w32_of (by omega)]
        omega
      · have hk3 := Classical.not_not.mp c
        unfold rlM
        rw [if_pos hk3, if_neg c1, if_neg c2, w32_of (by omega)]
    have beg : ∀ v : Int, (v = if kind = 1 then 97 + Int.tmod (rN z) 4 else rN z) → EV q 258 84 [some (.ref 367), some (vI kind), some (vI n), some (vI sd), some (vI (zN z)), some (vI i), some (vI (rN z)), none] [vI v] S (some (vI (S.1 367 2 + ((t + 1 : Nat) : Int)))) (fM kind (t + 1) z S) := by
      intro v hv
      refine vc_MD_fill_84 _ _ _ _ _ _ _ ?_
      rw [ek, er, ec]
      refine ⟨fun c => mid v (fun c3 => ?_) (fun c3 => ?_), fun c => ⟨fun c1 => mid v (fun _ => ?_) (fun c3 => ?_), fun c1 => ⟨fun c2 => mid v (fun _ => ?_) (fun c3 => ?_), fun c2 => ⟨?_, mid _ (fun _ => ?_) (fun c3 => ?_)⟩⟩⟩⟩
      · unfold rlM
        rw [if_neg c3, if_neg c, hv]
      · rw [hv, if_neg (by omega)]
      · have hk2 := Classical.not_not.mp c
        unfold rlM
        rw [if_neg (by omega), if_pos hk2, if_pos c1, hv, if_neg (by omega)]
      · have hk2 := Classical.not_not.mp c
        omega
      · have hk2 := Classical.not_not.mp c
        unfold rlM
        rw [if_neg (by omega), if_pos hk2, if_neg c1, if_pos c2, hv, if_neg (by omega)]
      · have hk2 := Classical.not_not.mp c
        omega
      · rw [w32_of (by omega)]
        omega
      · have hk2 := Classical.not_not.mp c
        unfold rlM
        rw [if_neg (by omega), if_pos hk2, if_neg c1, if_neg c2, w32_of (by omega)]
      · have hk2 := Classical.not_not.mp c
        omega
    refine vc_MD_fill_42 _ _ _ _ _ ⟨fun c => ?_, fun _ => ⟨fun c => beg _ ?_, fun c => beg _ ?_⟩⟩
    · rw [w32_of (by omega), w32_of (by omega)] at c
      omega
    · rw [ek] at c
      rw [if_neg c]
      rfl
    · rw [ek] at c
      rw [if_pos (Classical.not_not.mp c)]
      show 97 + Int.tmod (w32 (rN z)) (w32 4) = _
      rw [er, e4]
/-- fill(kind, n, seed) -/
theorem op1_ok (ha : -2147483648 ≤ a ∧ a < 2147483648) (hb : -2147483648 ≤ b ∧ b < 2147483648) (h : RT S) : op_1 q a b d S (fun T => T = wI S 367 0 0 ∨ (0 ≤ a ∧ a ≤ 3 ∧ 0 ≤ b ∧ S.1 1 1 + b ≤ 6000 ∧ T = fM a b.toNat d (wI (fC a b.toNat d S) 367 0 0))) := by
  obtain ⟨h1, h2, -⟩ := h
  have ea : w32 a = a := w32_of ha
  have eb : w32 b = b := w32_of hb
  have ep : w32 (6000 - S.1 1 1) = 6000 - S.1 1 1 := w32_of (by omega)
  by_cases c : 0 ≤ a ∧ a ≤ 3
  · by_cases cb : 0 ≤ b
    · by_cases c2 : S.1 1 1 + b ≤ 6000
      · have hfo : ∀ (t : Nat) (z : Int) (S : ms) (c : Nat) (k : Int), c ≠ 1 → c ≠ 2 → (fC a t z S).1 c k = S.1 c k := by
          intro t
          induction t with
          | zero => intro z S c k _ _; rfl
          | succ t ih =>
            intro z S c k c1 c2
            show (fC a t (zN z) _).1 c k = _
            rw [ih _ _ _ _ c1 c2, rI_I, if_neg (by omega), rI_I, if_neg (by omega)]
        have k1 := lp_phfill (q := q) (n := b) (sd := d) c (by omega) b.toNat 0 d S (by decide) (by omega) h1.1 (by omega)
        rw [show S.1 1 1 + (b.toNat : Int) = S.1 1 1 + b by omega] at k1
        have e2 : (wI (fC a b.toNat d S) 367 0 0).1 367 2 = S.1 1 1 := by
          rw [r0 2 (by decide), hfo _ _ _ _ _ (by decide) (by decide), h2]
        have k2 := lp_mdfill (q := q) (n := b) (sd := d) c (by omega) b.toNat 0 d (wI (fC a b.toNat d S) 367 0 0) (by decide) (by omega) (by rw [e2]; omega) (by rw [e2]; omega)
        rw [e2, show S.1 1 1 + (b.toNat : Int) = S.1 1 1 + b by omega] at k2
        refine ⟨S.1 1 1 + b, fC a b.toNat d S, S.1 1 1 + b, _, vc_PH_fill a b d ?_, vc_MD_fill a b d (fun S1 f => ?_), rfl, Or.inr ⟨c.1, c.2, cb, c2, rfl⟩⟩
        · rw [ea, eb, ep]
          exact ⟨fun n => absurd n (by omega), fun _ => ⟨fun n => absurd n (by omega), fun _ => ⟨fun _ => ⟨fun _ => k1, fun n => absurd (by omega) n⟩, fun n => absurd cb n⟩⟩⟩
        · subst f
          refine ⟨1, _, md_in1 (by rw [ea]; exact c.1) (by rw [ea]; exact c.2), fun n => absurd n (by decide), fun _ => ?_⟩
          rw [eb, e2, ep]
          exact ⟨fun _ => ⟨fun _ => k2, fun n => absurd (by omega) n⟩, fun n => absurd cb n⟩
      · refine ⟨-4, S, -4, wI S 367 0 0, vc_PH_fill a b d ?_, vc_MD_fill a b d (fun S1 f => ?_), rfl, Or.inl rfl⟩
        · rw [ea, eb, ep]
          exact ⟨fun n => absurd n (by omega), fun _ => ⟨fun n => absurd n (by omega), fun _ => ⟨fun _ => ⟨fun n => absurd n (by omega), fun _ => ⟨rfl, rfl⟩⟩, fun n => absurd cb n⟩⟩⟩
        · subst f
          refine ⟨1, _, md_in1 (by rw [ea]; exact c.1) (by rw [ea]; exact c.2), fun n => absurd n (by decide), fun _ => ?_⟩
          rw [eb, r0 2 (by decide), h2, ep]
          exact ⟨fun _ => ⟨fun n => absurd n (by omega), fun _ => ⟨rfl, rfl⟩⟩, fun n => absurd cb n⟩
    · refine ⟨-2, S, -2, wI S 367 0 0, vc_PH_fill a b d ?_, vc_MD_fill a b d (fun S1 f => ?_), rfl, Or.inl rfl⟩
      · rw [ea, eb, ep]
        exact ⟨fun _ => ⟨rfl, rfl⟩, fun _ => ⟨fun _ => ⟨rfl, rfl⟩, fun _ => ⟨fun n => absurd n cb, fun _ => ⟨rfl, rfl⟩⟩⟩⟩
      · subst f
        refine ⟨1, _, md_in1 (by rw [ea]; exact c.1) (by rw [ea]; exact c.2), fun n => absurd n (by decide), fun _ => ?_⟩
        rw [eb]
        exact ⟨fun n => absurd n cb, fun _ => ⟨rfl, rfl⟩⟩
  · refine ⟨-2, S, -2, wI S 367 0 0, vc_PH_fill a b d ?_, vc_MD_fill a b d (fun S1 f => ?_), rfl, Or.inl rfl⟩
    · rw [ea]
      exact ⟨fun _ => ⟨rfl, rfl⟩, fun n1 => ⟨fun _ => ⟨rfl, rfl⟩, fun n2 => absurd (by omega) c⟩⟩
    · subst f
      exact ⟨0, _, md_in0 (by rw [ea]; show a < 0 ∨ 3 < a; omega), fun _ => ⟨rfl, rfl⟩, fun n => absurd rfl n⟩
end Fill
