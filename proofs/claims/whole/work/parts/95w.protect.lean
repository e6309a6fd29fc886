/-! the field of 256 numbers, checks, protect -/
section Protect
variable {q : Nat × (Nat → Int32)} {S T : ms} {a b d : Int}
def gp (k : Int) : Int := pm (k.toNat % 255)
def gl (x : Int) : Int := lmF (fun _ => 0) 255 x
theorem lm_rg (x : Int) : ∀ n : Nat, 0 ≤ lmF (fun _ => 0) n x ∧ lmF (fun _ => 0) n x ≤ n
  | 0 => ⟨Int.le_refl _, Int.le_refl _⟩
  | n + 1 => by
    have h := lm_rg x n
    have e : lmF (fun _ => 0) (n + 1) x = if x = pm n then (n : Int) else lmF (fun _ => 0) n x := rfl
    rw [e]
    split <;> omega
theorem lm_lt (x : Int) : ∀ n : Nat, lmF (fun _ => 0) (n + 1) x ≤ n
  | 0 => by
    have e : lmF (fun _ => 0) 1 x = if x = pm 0 then ((0 : Nat) : Int) else 0 := rfl
    rw [e]
    split <;> omega
  | n + 1 => by
    have h := lm_lt x n
    have e : lmF (fun _ => 0) (n + 1 + 1) x = if x = pm (n + 1) then ((n + 1 : Nat) : Int) else lmF (fun _ => 0) (n + 1) x := rfl
    rw [e]
    split <;> omega
theorem gl_rg (x : Int) : 0 ≤ gl x ∧ gl x ≤ 254 := ⟨(lm_rg x 255).1, lm_lt x 254⟩
theorem gp_rg (k : Int) : 0 ≤ gp k ∧ gp k < 256 := pm_rg _
def gI (x : Int) : Int := gp (255 - gl x)
def gT (x y : Int) : Int := if x = 0 ∨ y = 0 then 0 else gp (gl x + gl y)
theorem gT_rg (x y : Int) : 0 ≤ gT x y ∧ gT x y < 256 := by
  unfold gT
  split
  · decide
  · exact gp_rg _
/-- the tables of both sides -/
def RG (S : ms) : Prop := (∀ k : Int, 0 ≤ k → k < 510 → S.1 182 k = gp k ∧ S.1 437 k = gp k) ∧ ∀ x : Int, 1 ≤ x → x < 256 → S.1 183 x = gl x ∧ S.1 438 x = gl x
theorem RG_cg (h : RG S) (e : ∀ (a : Nat) (k : Int), a = 182 ∨ a = 183 ∨ a = 437 ∨ a = 438 → T.1 a k = S.1 a k) : RG T :=
  ⟨fun k k0 k1 => by rw [e _ _ (Or.inl rfl), e _ _ (Or.inr (Or.inr (Or.inl rfl)))]; exact h.1 k k0 k1, fun x x0 x1 => by rw [e _ _ (Or.inr (Or.inl rfl)), e _ _ (Or.inr (Or.inr (Or.inr rfl)))]; exact h.2 x x0 x1⟩
theorem sp_ctimes (h : RG S) {x y : Int} (hx : 0 ≤ x ∧ x < 256) (hy : 0 ≤ y ∧ y < 256) : EV q 228 0 [some (.ref 173), some (vI x), some (vI y)] [] S (some (vI (gT x y))) S := by
  have wx : w32 x = x := w32_of (by omega)
  have wy : w32 y = y := w32_of (by omega)
  refine vc_Parts_times _ _ ?_
  rw [wx, wy]
  unfold gT
  refine ⟨fun c => vc_Parts_times_8 _ _ ⟨by rw [if_pos (Or.inl c)], rfl⟩, fun c => ⟨fun c2 => ?_, fun c2 => vc_Parts_times_8 _ _ ⟨by rw [if_pos (Or.inr (Classical.not_not.mp c2))], rfl⟩⟩⟩
  have g1 := gl_rg x
  have g2 := gl_rg y
  have wl : w32 (gl x + gl y) = gl x + gl y := w32_of (by omega)
  rw [(h.2 x (by omega) (by omega)).1, (h.2 y (by omega) (by omega)).1, wl, (h.1 _ (by omega) (by omega)).1, if_neg (by omega)]
  exact ⟨by omega, by omega, by omega, rfl, rfl⟩
theorem sp_mtimes (h : RG S) {x y : Int} (hx : 0 ≤ x ∧ x < 256) (hy : 0 ≤ y ∧ y < 256) : EV q 412 0 [some (.ref 367), some (vI x), some (vI y)] [] S (some (vI (gT x y))) S := by
  have wx : w32 x = x := w32_of (by omega)
  have wy : w32 y = y := w32_of (by omega)
  refine vc_MD_times _ _ ?_
  rw [wx, wy]
  unfold gT
  refine ⟨fun c => vc_MD_times_8 _ _ ⟨by rw [if_pos (Or.inl c)], rfl⟩, fun c => ⟨fun c2 => ?_, fun c2 => vc_MD_times_8 _ _ ⟨by rw [if_pos (Or.inr (Classical.not_not.mp c2))], rfl⟩⟩⟩
  have g1 := gl_rg x
  have g2 := gl_rg y
  have wl : w32 (gl x + gl y) = gl x + gl y := w32_of (by omega)
  rw [(h.2 x (by omega) (by omega)).2, (h.2 y (by omega) (by omega)).2, wl, (h.1 _ (by omega) (by omega)).2, if_neg (by omega)]
  exact ⟨by omega, by omega, by omega, rfl, rfl⟩
theorem sp_cinv (h : RG S) {x : Int} (hx : 1 ≤ x ∧ x < 256) : EV q 227 0 [some (.ref 173), some (vI x)] [] S (some (vI (gI x))) S := by
  have wx : w32 x = x := w32_of (by omega)
  have g1 := gl_rg x
  have wl : w32 (255 - gl x) = 255 - gl x := w32_of (by omega)
  refine vc_Parts_inverse _ ?_
  rw [wx, (h.2 x (by omega) (by omega)).1, wl, (h.1 _ (by omega) (by omega)).1]
  exact ⟨by omega, by omega, rfl, rfl⟩
theorem sp_minv (h : RG S) {x : Int} (hx : 1 ≤ x ∧ x < 256) : EV q 411 0 [some (.ref 367), some (vI x)] [] S (some (vI (gI x))) S := by
  have wx : w32 x = x := w32_of (by omega)
  have g1 := gl_rg x
  have wl : w32 (255 - gl x) = 255 - gl x := w32_of (by omega)
  refine vc_MD_inverse _ ?_
  rw [wx, (h.2 x (by omega) (by omega)).2, wl, (h.1 _ (by omega) (by omega)).2]
  exact ⟨by omega, by omega, rfl, rfl⟩
/-- the factor of data part d in check j -/
def fF (d j : Nat) : Int := gI (bX d (255 - j))
theorem fx_rg : ∀ d, d < 32 → ∀ j, j < 16 → 1 ≤ bX ((d : Nat) : Int) (255 - ((j : Nat) : Int)) ∧ bX ((d : Nat) : Int) (255 - ((j : Nat) : Int)) < 256 := by decide +kernel
theorem fF_rg (d j : Nat) : 0 ≤ fF d j ∧ fF d j < 256 := gp_rg _
theorem sp_cfac (h : RG S) {d j : Nat} (hd : d < 32) (hj : j < 16) : EV q 226 0 [some (.ref 173), some (vI d), some (vI j)] [] S (some (vI (fF d j))) S := vc_Parts_factor _ _ ⟨_, S, sp_cinv h (fx_rg d hd j hj), rfl, rfl⟩
/-- octet i of check j, over the first data parts -/
def ckS (g : Nat → Int → Int) (j : Nat) : Nat → Int → Int
  | 0, _ => 0
  | d + 1, i => bX (ckS g j d i) (gT (g d i) (fF d j))
theorem ckS_s (g : Nat → Int → Int) (j d : Nat) (i : Int) : ckS g j (d + 1) i = bX (ckS g j d i) (gT (g d i) (fF d j)) := rfl
theorem ckS_rg (g : Nat → Int → Int) (j : Nat) (i : Int) : ∀ d : Nat, 0 ≤ ckS g j d i ∧ ckS g j d i < 256
  | 0 => by
    show 0 ≤ (0 : Int) ∧ (0 : Int) < 256
    decide
  | d + 1 => bX_rg (ckS_rg g j i d) (gT_rg _ _)
def CKI (S T : ms) (j : Nat) (z to : Int) (d : Nat) (e : Int) : Prop := T.2 = S.2 ∧ (∀ (a : Nat) (k : Int), ¬ (a = 174 ∧ to ≤ k ∧ k < to + z) → T.1 a k = S.1 a k) ∧ ∀ i : Int, 0 ≤ i → i < z → T.1 174 (to + i) = if i < e then ckS (fun d i => S.1 174 (d * z + i)) j (d + 1) i else ckS (fun d i => S.1 174 (d * z + i)) j d i
theorem lp_chk2 {j d D : Nat} {z to : Int} (hd : d < D) (hD32 : D ≤ 32) (hz : S.1 173 3 = z) (hz2 : 0 ≤ z ∧ z ≤ 6000) (ht : D * z ≤ to ∧ to + z ≤ 102000) (hg : ∀ k : Int, 0 ≤ k → k < D * z → 0 ≤ S.1 174 k ∧ S.1 174 k < 256) (hR : RG S) {rr : Option Value} {P : ms → Prop} (k : ∀ T, CKI S T j z to (d + 1) 0 → ∃ T', EV q 225 39 [some (.ref 173), some (vI j), some (vI to), some (vI ((d : Int) + 1)), none, none] [] T rr T' ∧ P T') : ∀ (t : Nat) (e : Int) (T : ms), 0 ≤ e → e + t = z → CKI S T j z to d e → ∃ T', EV q 225 58 [some (.ref 173), some (vI j), some (vI to), some (vI d), some (vI (fF d j)), some (vI e)] [] T rr T' ∧ P T' := by
  have wz : w32 z = z := w32_of (by omega)
  intro t
  induction t with
  | zero =>
    intro e T e0 he hT
    have ee : e = z := by omega
    subst ee
    obtain ⟨t1, t2, t3⟩ := hT
    obtain ⟨T', k1, k2⟩ := k T ⟨t1, t2, fun i i0 i1 => by rw [t3 i i0 i1, if_pos i1, if_neg (by omega)]⟩
    refine ⟨T', vc_Parts_makeCheck_58 _ _ _ _ _ ?_, k2⟩
    rw [t2 173 3 (by omega), hz]
    exact ⟨fun _ => k1, fun n => absurd (Int.le_refl _) n⟩
  | succ t ih =>
    intro e T e0 he hT
    obtain ⟨t1, t2, t3⟩ := hT
    have ix := pa_ix (D := D) (z := z) (p := d) (i := e) (by omega) (by omega) e0 (by omega)
    have we : w32 e = e := w32_of (by omega)
    have wt : w32 (to + e) = to + e := w32_of (by omega)
    have wi : w32 (d * z + e) = d * z + e := w32_of (by omega)
    have v1 : T.1 174 (to + e) = ckS (fun d i => S.1 174 (d * z + i)) j d e := by rw [t3 e e0 (by omega), if_neg (by omega)]
    have v2 : T.1 174 (d * z + e) = S.1 174 (d * z + e) := t2 _ _ (by omega)
    have og := hg _ ix.1 ix.2
    have hRT : RG T := RG_cg hR (fun a k h => t2 a k (by omega))
    have tm := sp_ctimes (q := q) hRT og (fF_rg d j)
    have ck : ckS (fun d i => S.1 174 (d * z + i)) j (d + 1) e = bX (ckS (fun d i => S.1 174 (d * z + i)) j d e) (gT (S.1 174 (d * z + e)) (fF d j)) := rfl
    obtain ⟨T', k1, k2⟩ := ih (e + 1) (wI T 174 (to + e) (ckS (fun d i => S.1 174 (d * z + i)) j (d + 1) e)) (by omega) (by omega) ⟨t1, fun a k h => by rw [rI_I, if_neg (fun y => h ⟨y.1, by omega, by omega⟩), t2 a k h], fun i i0 i1 => by
      rw [rI_I]
      by_cases ci : i = e
      · subst ci
        rw [if_pos ⟨rfl, rfl⟩, if_pos (by omega)]
      · rw [if_neg (by omega), t3 i i0 i1]
        by_cases ci2 : i < e
        · rw [if_pos ci2, if_pos (by omega)]
        · rw [if_neg ci2, if_neg (by omega)]⟩
    rw [ck] at k1
    refine ⟨T', vc_Parts_makeCheck_58 _ _ _ _ _ ?_, k2⟩
    rw [t2 173 3 (by omega), hz, wz, we, wt, wi, v1, v2]
    refine ⟨fun n => absurd n (by omega), fun _ => ⟨by omega, by omega, _, T, tm, by omega, fun S7 f => ?_⟩⟩
    subst f
    exact k1
theorem lp_chk1 {j D : Nat} {z to : Int} (hj : j < 16) (hD : S.1 173 6 = D) (hD32 : D ≤ 32) (hz : S.1 173 3 = z) (hz2 : 0 ≤ z ∧ z ≤ 6000) (ht : D * z ≤ to ∧ to + z ≤ 102000) (hg : ∀ k : Int, 0 ≤ k → k < D * z → 0 ≤ S.1 174 k ∧ S.1 174 k < 256) (hR : RG S) : ∀ (t d : Nat) (T : ms), d + t = D → CKI S T j z to d 0 → ∃ T', EV q 225 39 [some (.ref 173), some (vI j), some (vI to), some (vI d), none, none] [] T none T' ∧ CKI S T' j z to D 0 := by
  intro t
  induction t with
  | zero =>
    intro d T hd hT
    have e : d = D := by omega
    subst e
    refine ⟨T, vc_Parts_makeCheck_39 _ _ _ ?_, hT⟩
    rw [hT.2.1 173 6 (by omega), hD]
    exact ⟨fun _ => ⟨rfl, rfl⟩, fun n => absurd (Int.le_refl _) n⟩
  | succ t ih =>
    intro d T hd hT
    have hRT : RG T := RG_cg hR (fun a k h => hT.2.1 a k (by omega))
    have fc := sp_cfac (q := q) hRT (d := d) (j := j) (by omega) hj
    obtain ⟨T', k1, k2⟩ := lp_chk2 (q := q) (S := S) (j := j) (d := d) (D := D) (z := z) (to := to) (rr := none) (P := fun T' => CKI S T' j z to D 0) (by omega) hD32 hz hz2 ht hg hR (fun U hU => ih (d + 1) U (by omega) hU) z.toNat 0 T (by omega) (by omega) hT
    have wd : Unit → w32 (d : Int) = d := fun _ => w32_of (by omega)
    have wD : Unit → w32 (D : Int) = D := fun _ => w32_of (by omega)
    refine ⟨T', vc_Parts_makeCheck_39 _ _ _ ?_, k2⟩
    rw [hT.2.1 173 6 (by omega), hD, wD (), wd ()]
    exact ⟨fun n => absurd n (by omega), fun _ => ⟨_, T, fc, k1⟩⟩
theorem lp_chk0 {j : Nat} {z to : Int} (hz : S.1 173 3 = z) (hz2 : 0 ≤ z ∧ z ≤ 6000) (ht : 0 ≤ to ∧ to + z ≤ 102000) {rr : Option Value} {T' : ms} (k : EV q 225 39 [some (.ref 173), some (vI j), some (vI to), some (vI 0), none, none] [] (wC S 174 to z (fun _ => 0)) rr T') : ∀ (t : Nat) (e : Int), 0 ≤ e → e + t = z → EV q 225 14 [some (.ref 173), some (vI j), some (vI to), some (vI e), none, none] [] (wC S 174 to e (fun _ => 0)) rr T' := by
  have wz : w32 z = z := w32_of (by omega)
  intro t
  induction t with
  | zero =>
    intro e e0 he
    have ee : e = z := by omega
    subst ee
    refine vc_Parts_makeCheck_14 _ _ _ ?_
    rw [wC_ne _ _ _ _ (by decide), hz]
    exact ⟨fun _ => k, fun n => absurd (Int.le_refl _) n⟩
  | succ t ih =>
    intro e e0 he
    have we : w32 e = e := w32_of (by omega)
    have wt : w32 (to + e) = to + e := w32_of (by omega)
    have gd := wC_gd S 174 to e (fun _ => 0) e0
    refine vc_Parts_makeCheck_14 _ _ _ ?_
    rw [wC_ne _ _ _ _ (by decide), hz, wz, we, wt]
    refine ⟨fun n => absurd n (by omega), fun _ => ⟨by omega, fun S2 f => ?_⟩⟩
    rw [gd] at f
    subst f
    exact ih (e + 1) (by omega) (by omega)
/-- the class makes check j -/
theorem sp_chk {j D : Nat} {z to : Int} (hj : j < 16) (hD : S.1 173 6 = D) (hD32 : D ≤ 32) (hz : S.1 173 3 = z) (hz2 : 0 ≤ z ∧ z ≤ 6000) (eto : to = (D + j) * z) (ht : 0 ≤ to ∧ D * z ≤ to ∧ to + z ≤ 102000) (hg : ∀ k : Int, 0 ≤ k → k < D * z → 0 ≤ S.1 174 k ∧ S.1 174 k < 256) (hR : RG S) : ∃ T', EV q 225 0 [some (.ref 173), some (vI j), none, none, none, none] [] S none T' ∧ T'.2 = S.2 ∧ (∀ (a : Nat) (k : Int), ¬ (a = 174 ∧ to ≤ k ∧ k < to + z) → T'.1 a k = S.1 a k) ∧ ∀ i : Int, 0 ≤ i → i < z → T'.1 174 (to + i) = ckS (fun d i => S.1 174 (d * z + i)) j D i := by
  obtain ⟨T', k1, k2, k3, k4⟩ := lp_chk1 (q := q) (S := S) (j := j) (D := D) (z := z) (to := to) hj hD hD32 hz hz2 ht.2 hg hR D 0 (wC S 174 to z (fun _ => 0)) (by omega) ⟨rfl, fun a k h => by
    show (if a = 174 ∧ to ≤ k ∧ k < to + z then (0 : Int) else S.1 a k) = S.1 a k
    rw [if_neg h], fun i i0 i1 => by
    rw [wC_in (f := fun _ => 0) (by omega) (by omega), if_neg (by omega)]
    rfl⟩
  have kz := lp_chk0 (q := q) (S := S) (j := j) (z := z) (to := to) hz hz2 ⟨ht.1, ht.2.2⟩ k1 z.toNat 0 (by omega) (by omega)
  rw [wC_00] at kz
  refine ⟨T', vc_Parts_makeCheck _ ?_, k2, k3, fun i i0 i1 => by rw [k4 i i0 i1, if_neg (by omega)]⟩
  rw [hD, hz, ← eto]
  exact kz
/-- the reference's sum for octet i of check j -/
theorem lp_mchk2 {j D : Nat} {z to i : Int} {g : Nat → Int → Int} (hj : j < 16) (hD : T.1 367 112 = D) (hD32 : D ≤ 32) (hz : T.1 367 114 = z) (hz2 : 0 ≤ z ∧ z ≤ 6000) (hi : 0 ≤ i ∧ i < z) (ht : 0 ≤ to ∧ to + z ≤ 102000) (hDz : D * z ≤ 102000) (hg : ∀ (d : Nat), d < D → (0 ≤ g d i ∧ g d i < 256) ∧ T.1 439 (z * d + i) % 256 = g d i) (hR : RG T) {rr : Option Value} {T' : ms} (k : EV q 408 13 [some (.ref 367), some (vI j), some (vI to), some (vI (i + 1)), none, none] [] (wI T 439 (to + i) (b8 (ckS g j D i))) rr T') : ∀ (t d : Nat), d + t = D → EV q 408 27 [some (.ref 367), some (vI j), some (vI to), some (vI i), some (vI (ckS g j d i)), some (vI d)] [] T rr T' := by
  intro t
  induction t with
  | zero =>
    intro d hd
    have e : d = D := by omega
    subst e
    have wt : w32 (to + i) = to + i := w32_of (by omega)
    refine vc_MD_makeCheck_27 _ _ _ _ _ ?_
    rw [hD, wt]
    refine ⟨fun _ => ⟨by omega, fun S2 f => ?_⟩, fun n => absurd (Int.le_refl _) n⟩
    rw [b8_of (b8_rg _)] at f
    subst f
    exact k
  | succ t ih =>
    intro d hd
    obtain ⟨g1, g2⟩ := hg d (by omega)
    have ix := pa_ix (D := D) (z := z) (p := d) (i := i) (by omega) (by omega) hi.1 hi.2
    have mc := Int.mul_comm z d
    have nx := ih (d + 1) (by omega)
    rw [ckS_s, show ((d + 1 : Nat) : Int) = (d : Int) + 1 by omega] at nx
    have tm := sp_mtimes (q := q) hR g1 (fF_rg d j)
    have iv := sp_minv (q := q) hR (fx_rg d (by omega) j hj)
    have wi : w32 (z * d + i) = z * d + i := w32_of (by omega)
    have wd : Unit → w32 (d : Int) = d := fun _ => w32_of (by omega)
    have wD : Unit → w32 (D : Int) = D := fun _ => w32_of (by omega)
    refine vc_MD_makeCheck_27 _ _ _ _ _ ?_
    rw [hD, wD (), wd ()]
    refine ⟨fun n => absurd n (by omega), fun _ => ⟨z * d, T, vc_MD_partAt _ ⟨by rw [hz], rfl⟩, ?_⟩⟩
    rw [wi, g2]
    exact ⟨by omega, _, T, vc_MD_factorPlace _ _ ⟨rfl, rfl⟩, _, T, iv, _, T, tm, nx⟩
def MKI (S T : ms) (j D : Nat) (z to : Int) (g : Nat → Int → Int) (e : Int) : Prop := T.2 = S.2 ∧ (∀ (a : Nat) (k : Int), ¬ (a = 439 ∧ to ≤ k ∧ k < to + z) → T.1 a k = S.1 a k) ∧ ∀ i : Int, 0 ≤ i → i < e → T.1 439 (to + i) = b8 (ckS g j D i)
theorem lp_mchk1 {j D : Nat} {z to : Int} {g : Nat → Int → Int} (hj : j < 16) (hD : S.1 367 112 = D) (hD32 : D ≤ 32) (hz : S.1 367 114 = z) (hz2 : 0 ≤ z ∧ z ≤ 6000) (ht : 0 ≤ to ∧ D * z ≤ to ∧ to + z ≤ 102000) (hg : ∀ (d : Nat) (i : Int), d < D → 0 ≤ i → i < z → (0 ≤ g d i ∧ g d i < 256) ∧ S.1 439 (z * d + i) % 256 = g d i) (hR : RG S) : ∀ (t : Nat) (e : Int) (T : ms), 0 ≤ e → e + t = z → MKI S T j D z to g e → ∃ T', EV q 408 13 [some (.ref 367), some (vI j), some (vI to), some (vI e), none, none] [] T none T' ∧ MKI S T' j D z to g z := by
  have wz : w32 z = z := w32_of (by omega)
  intro t
  induction t with
  | zero =>
    intro e T e0 he hT
    have ee : e = z := by omega
    subst ee
    refine ⟨T, vc_MD_makeCheck_13 _ _ _ ?_, hT⟩
    rw [hT.2.1 367 114 (by omega), hz]
    exact ⟨fun _ => ⟨rfl, rfl⟩, fun n => absurd (Int.le_refl _) n⟩
  | succ t ih =>
    intro e T e0 he hT
    obtain ⟨t1, t2, t3⟩ := hT
    have we : w32 e = e := w32_of (by omega)
    obtain ⟨T', k1, k2⟩ := ih (e + 1) (wI T 439 (to + e) (b8 (ckS g j D e))) (by omega) (by omega) ⟨t1, fun a k h => by rw [rI_I, if_neg (fun y => h ⟨y.1, by omega, by omega⟩), t2 a k h], fun i i0 i1 => by
      rw [rI_I]
      by_cases ci : i = e
      · subst ci
        rw [if_pos ⟨rfl, rfl⟩]
      · rw [if_neg (by omega), t3 i i0 (by omega)]⟩
    have kk := lp_mchk2 (q := q) (T := T) (j := j) (D := D) (z := z) (to := to) (i := e) (g := g) hj (by rw [t2 367 112 (by omega), hD]) hD32 (by rw [t2 367 114 (by omega), hz]) hz2 (by omega) ⟨ht.1, ht.2.2⟩ (by omega) (fun d hd => by
      obtain ⟨g1, g2⟩ := hg d e hd e0 (by omega)
      have ix := pa_ix (D := D) (z := z) (p := d) (i := e) (by omega) (by omega) e0 (by omega)
      have mc := Int.mul_comm z d
      exact ⟨g1, by rw [t2 439 _ (by omega)]; exact g2⟩) (RG_cg hR (fun a k h => t2 a k (by omega))) k1 D 0 (by omega)
    refine ⟨T', vc_MD_makeCheck_13 _ _ _ ?_, k2⟩
    rw [t2 367 114 (by omega), hz, wz, we]
    exact ⟨fun n => absurd n (by omega), fun _ => kk⟩
/-- the reference makes check j -/
theorem md_chk {j D : Nat} {z to : Int} {g : Nat → Int → Int} (hj : j < 16) (hD : S.1 367 112 = D) (hD32 : D ≤ 32) (hz : S.1 367 114 = z) (hz2 : 0 ≤ z ∧ z ≤ 6000) (eto : to = (D + j) * z) (ht : 0 ≤ to ∧ D * z ≤ to ∧ to + z ≤ 102000) (hg : ∀ (d : Nat) (i : Int), d < D → 0 ≤ i → i < z → (0 ≤ g d i ∧ g d i < 256) ∧ S.1 439 (z * d + i) % 256 = g d i) (hR : RG S) : ∃ T', EV q 408 0 [some (.ref 367), some (vI j), none, none, none, none] [] S none T' ∧ MKI S T' j D z to g z := by
  obtain ⟨T', k1, k2⟩ := lp_mchk1 (q := q) (S := S) (j := j) (D := D) (z := z) (to := to) (g := g) hj hD hD32 hz hz2 ht hg hR z.toNat 0 S (by omega) (by omega) ⟨rfl, fun _ _ _ => rfl, fun i i0 i1 => absurd i1 (by omega)⟩
  refine ⟨T', vc_MD_makeCheck _ ⟨to, S, vc_MD_partAt _ ⟨?_, rfl⟩, k1⟩, k2⟩
  rw [hz, hD, Int.mul_comm z, ← eto]
end Protect
