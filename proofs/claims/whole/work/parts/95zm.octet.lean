/-! repair: one octet of all that is missing, on both sides -/
section Octet
variable {q : Nat × (Nat → Int32)} {T : ms} {n D N : Nat} {z i : Int}
def sD (o go : Nat → Int) (j : Nat) (b : Int) : Nat → Int
  | 0 => b
  | d + 1 => if go d = 0 then bX (sD o go j b d) (gT (o d) (fF d j)) else sD o go j b d
theorem sD_s (o go : Nat → Int) (j : Nat) (b : Int) (d : Nat) : sD o go j b (d + 1) = if go d = 0 then bX (sD o go j b d) (gT (o d) (fF d j)) else sD o go j b d := rfl
theorem sD_rg {o go : Nat → Int} {j : Nat} {b : Int} (hb : 0 ≤ b ∧ b < 256) : ∀ d, 0 ≤ sD o go j b d ∧ sD o go j b d < 256
  | 0 => hb
  | d + 1 => by
    rw [sD_s]
    split
    · exact bX_rg (sD_rg hb d) (gT_rg _ _)
    · exact sD_rg hb d
def vR (M : Nat → Nat → Int) (s : Nat → Int) (r : Nat) : Nat → Int
  | 0 => 0
  | k + 1 => bX (vR M s r k) (gT (M r (16 + k)) (s k))
theorem vR_s (M : Nat → Nat → Int) (s : Nat → Int) (r k : Nat) : vR M s r (k + 1) = bX (vR M s r k) (gT (M r (16 + k)) (s k)) := rfl
theorem vR_rg (M : Nat → Nat → Int) (s : Nat → Int) (r : Nat) : ∀ k, 0 ≤ vR M s r k ∧ vR M s r k < 256
  | 0 => by
    show 0 ≤ (0 : Int) ∧ (0 : Int) < 256
    decide
  | k + 1 => bX_rg (vR_rg M s r k) (gT_rg _ _)
/-- the class's sum k -/
theorem lp_oc1 {j k : Nat} {o go : Nat → Int} {b : Int} (hj : j < 16) (hk : k < 16) (hD : T.1 173 6 = D) (hD32 : D ≤ 32) (hDN : D ≤ N) (hz : T.1 173 3 = z) (hz2 : 0 ≤ i ∧ i < z ∧ z ≤ 6000) (hN : (N : Int) * z ≤ 102000) (hc : T.1 179 k = j) (hgo : ∀ d, d < D → (go d = 0 ∨ go d = 1) ∧ T.1 176 d = go d) (ho : ∀ p, p < N → (0 ≤ o p ∧ o p < 256) ∧ T.1 174 (p * z + i) = o p) (hR : RG T) {rr : Option Value} {T' : ms} (nx : EV q 237 2 [some (.ref 173), some (vI i), some (vI ((k : Int) + 1)), none, none] [] (wI T 180 k (sD o go j b D)) rr T') : ∀ (t d : Nat), d + t = D → EV q 237 37 [some (.ref 173), some (vI i), some (vI k), some (vI (sD o go j b d)), some (vI d)] [] T rr T' := by
  intro t
  induction t with
  | zero =>
    intro d hd
    have e : d = D := by omega
    subst e
    have z1 : 0 ≤ (k : Int) ∧ (k : Int) < (16 : Nat) := by omega
    have wk : Unit → w32 (k : Int) = k := fun _ => w32_of (by omega)
    refine vc_Parts_octetAgain_37 _ _ _ _ ?_
    rw [hD, wk ()]
    refine ⟨fun _ => ⟨z1, fun S2 f => ?_⟩, fun n => absurd (Int.le_refl _) n⟩
    subst f
    exact nx
  | succ t ih =>
    intro d hd
    obtain ⟨g1, g2⟩ := hgo d (by omega)
    obtain ⟨o1, o2⟩ := ho d (by omega)
    have ix := pa_ix (D := N) (z := z) (p := d) (i := i) (by omega) (by omega) hz2.1 hz2.2.1
    have nxt := ih (d + 1) (by omega)
    rw [sD_s, show ((d + 1 : Nat) : Int) = (d : Int) + 1 by omega] at nxt
    have fc := sp_cfac (q := q) hR (d := d) (j := j) (by omega) hj
    have tm := sp_ctimes (q := q) hR o1 (fF_rg d j)
    have z0 : ¬ (D : Int) ≤ d := by omega
    have z1 : 0 ≤ (k : Int) ∧ (k : Int) < (16 : Nat) := by omega
    have z2 : 0 ≤ (d : Int) ∧ (d : Int) < (48 : Nat) := by omega
    have z3 : 0 ≤ (d : Int) * z + i ∧ (d : Int) * z + i < (102000 : Nat) := by omega
    have wx : w32 (d * z + i) = d * z + i := w32_of (by omega)
    have wg : w32 (go d) = go d := w32_of (by omega)
    have wk : Unit → w32 (k : Int) = k := fun _ => w32_of (by omega)
    have wd : Unit → w32 (d : Int) = d := fun _ => w32_of (by omega)
    have wD : Unit → w32 (D : Int) = D := fun _ => w32_of (by omega)
    refine vc_Parts_octetAgain_37 _ _ _ _ ?_
    rw [hD, hz, wD (), wd (), wk (), g2, wg, wx, o2, hc]
    refine ⟨fun n => absurd n z0, fun _ => ⟨z2, fun c => vc_Parts_octetAgain_89 _ _ _ _ ?_, fun c => ⟨z3, z1, _, T, fc, _, T, tm, vc_Parts_octetAgain_89 _ _ _ _ ?_⟩⟩⟩
    · rw [if_neg c] at nxt
      exact nxt
    · rw [if_pos (Classical.not_not.mp c)] at nxt
      exact nxt
/-- the class's value for the missing part r -/
theorem lp_oc2 {r mr : Nat} {M : Nat → Nat → Int} {s : Nat → Int} (hr : r < n) (hn : n ≤ 16) (h5 : T.1 173 5 = n) (hz : T.1 173 3 = z) (hz2 : 0 ≤ i ∧ i < z ∧ z ≤ 6000) (hm : mr < N) (hN : (N : Int) * z ≤ 102000) (hmi : T.1 178 r = mr) (hM : ∀ k, k < n → (0 ≤ M r (16 + k) ∧ M r (16 + k) < 256) ∧ T.1 181 (r * 32 + ((16 + k : Nat) : Int)) = M r (16 + k)) (hs : ∀ k, k < n → (0 ≤ s k ∧ s k < 256) ∧ T.1 180 k = s k) (hR : RG T) {rr : Option Value} {T' : ms} (nx : EV q 237 110 [some (.ref 173), some (vI i), some (vI ((r : Int) + 1)), none, none] [] (wI T 174 (mr * z + i) (vR M s r n)) rr T') : ∀ (t k : Nat), k + t = n → EV q 237 123 [some (.ref 173), some (vI i), some (vI r), some (vI (vR M s r k)), some (vI k)] [] T rr T' := by
  have ix := pa_ix (D := N) (z := z) (p := mr) (i := i) (by omega) (by omega) hz2.1 hz2.2.1
  intro t
  induction t with
  | zero =>
    intro k hk
    have e : k = n := by omega
    subst e
    have z1 : 0 ≤ (r : Int) ∧ (r : Int) < (32 : Nat) := by omega
    have z3 : 0 ≤ (mr : Int) * z + i ∧ (mr : Int) * z + i < (102000 : Nat) := by omega
    have wx : w32 (mr * z + i) = mr * z + i := w32_of (by omega)
    have wr : Unit → w32 (r : Int) = r := fun _ => w32_of (by omega)
    refine vc_Parts_octetAgain_123 _ _ _ _ ?_
    rw [h5, wr (), hmi, hz, wx]
    refine ⟨fun _ => ⟨z1, z3, fun S3 f => ?_⟩, fun n => absurd (Int.le_refl _) n⟩
    subst f
    exact nx
  | succ t ih =>
    intro k hk
    obtain ⟨m1, m2⟩ := hM k (by omega)
    obtain ⟨s1, s2⟩ := hs k (by omega)
    have nxt := ih (k + 1) (by omega)
    rw [vR_s, show ((k + 1 : Nat) : Int) = (k : Int) + 1 by omega] at nxt
    have tm := sp_ctimes (q := q) hR m1 s1
    have z0 : ¬ (n : Int) ≤ k := by omega
    have z1 : 0 ≤ (r : Int) * 32 + 16 + k ∧ (r : Int) * 32 + 16 + k < (512 : Nat) := by omega
    have z2 : 0 ≤ (k : Int) ∧ (k : Int) < (16 : Nat) := by omega
    have ei : (r : Int) * 32 + 16 + k = r * 32 + ((16 + k : Nat) : Int) := by omega
    have wn : Unit → w32 (n : Int) = n := fun _ => w32_of (by omega)
    have wk : Unit → w32 (k : Int) = k := fun _ => w32_of (by omega)
    have wx : Unit → w32 ((r : Int) * 32 + 16 + k) = r * 32 + ((16 + k : Nat) : Int) := fun _ => by rw [w32_of (by omega), ei]
    refine vc_Parts_octetAgain_123 _ _ _ _ ?_
    rw [h5, wn (), wk (), wx (), m2, s2]
    exact ⟨fun n => absurd n z0, fun _ => ⟨by rw [← ei]; exact z1, z2, _, T, tm, nxt⟩⟩
/-- the reference's sum k -/
theorem lp_om1 {x2 : Int} {j k : Nat} {o go : Nat → Int} {b : Int} (hb : 0 ≤ b ∧ b < 256) (hj : j < 16) (hk : k < 16) (hD : T.1 367 112 = D) (hD32 : D ≤ 32) (hDN : D ≤ N) (hz : T.1 367 114 = z) (hz2 : 0 ≤ i ∧ i < z ∧ z ≤ 6000) (hN : (N : Int) * z ≤ 102000) (hgo : ∀ d, d < D → (go d = 0 ∨ go d = 1) ∧ T.1 442 d = go d) (ho : ∀ p, p < N → (0 ≤ o p ∧ o p < 256) ∧ T.1 439 (z * p + i) % 256 = o p) (hR : RG T) {rr : Option Value} {T' : ms} (nx : EV q 419 341 [some (.ref 367), some (vI n), some (vI x2), some (vI i), some (vI ((k : Int) + 1)), none, none, none, none] [] (wI T 408 k (sD o go j b D)) rr T') : ∀ (t d : Nat), d + t = D → EV q 419 383 [some (.ref 367), some (vI n), some (vI x2), some (vI i), some (vI k), some (vI j), some (vI (sD o go j b d)), some (vI d), none] [] T rr T' := by
  intro t
  induction t with
  | zero =>
    intro d hd
    have e : d = D := by omega
    subst e
    have z1 : 0 ≤ (k : Int) ∧ (k : Int) < (15200 : Nat) := by omega
    have wk : Unit → w32 (k : Int) = k := fun _ => w32_of (by omega)
    refine vc_MD_solve_383 _ _ _ _ _ _ _ ?_
    rw [hD, wk ()]
    refine ⟨fun _ => ⟨z1, fun S2 f => ?_⟩, fun n => absurd (Int.le_refl _) n⟩
    subst f
    exact nx
  | succ t ih =>
    intro d hd
    obtain ⟨g1, g2⟩ := hgo d (by omega)
    obtain ⟨o1, o2⟩ := ho d (by omega)
    have ix := pa_ix (D := N) (z := z) (p := d) (i := i) (by omega) (by omega) hz2.1 hz2.2.1
    have mc := Int.mul_comm z d
    have nxt := ih (d + 1) (by omega)
    rw [sD_s, show ((d + 1 : Nat) : Int) = (d : Int) + 1 by omega] at nxt
    have iv := sp_minv (q := q) hR (fx_rg d (by omega) j hj)
    have tm := sp_mtimes (q := q) hR o1 (fF_rg d j)
    have sr := sD_rg (o := o) (go := go) (j := j) hb d
    have z0 : ¬ (D : Int) ≤ d := by omega
    have z2 : 0 ≤ (d : Int) ∧ (d : Int) < (48 : Nat) := by omega
    have z3 : 0 ≤ z * (d : Int) + i ∧ z * (d : Int) + i < (102032 : Nat) := by omega
    have wx : w32 (z * d + i) = z * d + i := w32_of (by omega)
    have wg : w32 (go d) = go d := w32_of (by omega)
    have wd : Unit → w32 (d : Int) = d := fun _ => w32_of (by omega)
    have wD : Unit → w32 (D : Int) = D := fun _ => w32_of (by omega)
    refine vc_MD_solve_383 _ _ _ _ _ _ _ ?_
    rw [hD, wD (), wd (), g2, wg]
    refine ⟨fun n => absurd n z0, fun _ => ⟨z2, fun c => ⟨z * d, T, vc_MD_partAt _ ⟨by rw [hz], rfl⟩, ?_⟩, fun c => vc_MD_solve_440 _ _ _ _ _ _ _ _ _ ?_⟩⟩
    · rw [wx, o2]
      refine ⟨z3, _, T, vc_MD_factorPlace _ _ ⟨rfl, rfl⟩, _, T, iv, _, T, tm, vc_MD_solve_440 _ _ _ _ _ _ _ _ _ ?_⟩
      rw [if_pos c] at nxt
      exact nxt
    · rw [if_neg c] at nxt
      rw [bX_0 sr]
      exact nxt
/-- the reference's value for the missing part r -/
theorem lp_om2 {r mr : Nat} {M : Nat → Nat → Int} {s : Nat → Int} (hr : r < n) (hn : n ≤ 16) (hz : T.1 367 114 = z) (hz2 : 0 ≤ i ∧ i < z ∧ z ≤ 6000) (hm : mr < N) (hN : (N : Int) * z ≤ 102000) (hmi : T.1 445 r = mr) (hM : ∀ k, k < n → (0 ≤ M r (16 + k) ∧ M r (16 + k) < 256) ∧ T.1 443 (r * (2 * n) + ((n + k : Nat) : Int)) = M r (16 + k)) (hs : ∀ k, k < n → (0 ≤ s k ∧ s k < 256) ∧ T.1 408 k = s k) (hR : RG T) {rr : Option Value} {T' : ms} (nx : EV q 419 467 [some (.ref 367), some (vI n), some (vI (2 * (n : Int))), some (vI i), some (vI ((r : Int) + 1)), none, none, none, none] [] (wI T 439 (z * mr + i) (b8 (vR M s r n))) rr T') : ∀ (t k : Nat), k + t = n → EV q 419 479 [some (.ref 367), some (vI n), some (vI (2 * (n : Int))), some (vI i), some (vI r), some (vI (vR M s r k)), some (vI k), none, none] [] T rr T' := by
  have ix := pa_ix (D := N) (z := z) (p := mr) (i := i) (by omega) (by omega) hz2.1 hz2.2.1
  have mc := Int.mul_comm z mr
  intro t
  induction t with
  | zero =>
    intro k hk
    have e : k = n := by omega
    subst e
    have z1 : 0 ≤ (r : Int) ∧ (r : Int) < (32 : Nat) := by omega
    have z3 : 0 ≤ z * (mr : Int) + i ∧ z * (mr : Int) + i < (102032 : Nat) := by omega
    have wx : w32 (z * mr + i) = z * mr + i := w32_of (by omega)
    have wr : Unit → w32 (r : Int) = r := fun _ => w32_of (by omega)
    refine vc_MD_solve_479 _ _ _ _ _ _ ?_
    rw [wr (), hmi]
    refine ⟨fun _ => ⟨z1, z * mr, T, vc_MD_partAt _ ⟨by rw [hz], rfl⟩, ?_⟩, fun n => absurd (Int.le_refl _) n⟩
    rw [wx, b8_of (b8_rg _)]
    refine ⟨z3, fun S6 f => ?_⟩
    subst f
    exact nx
  | succ t ih =>
    intro k hk
    obtain ⟨m1, m2⟩ := hM k (by omega)
    obtain ⟨s1, s2⟩ := hs k (by omega)
    have nxt := ih (k + 1) (by omega)
    rw [vR_s, show ((k + 1 : Nat) : Int) = (k : Int) + 1 by omega] at nxt
    have tm := sp_mtimes (q := q) hR m1 s1
    have g1 := ix_rg (n := n) (r := r) (b := n + k) hn hr (by omega)
    have z0 : ¬ (n : Int) ≤ k := by omega
    have z2 : 0 ≤ (k : Int) ∧ (k : Int) < (15200 : Nat) := by omega
    have ei : (r : Int) * (2 * n) + n + k = r * (2 * n) + ((n + k : Nat) : Int) := by omega
    have wn : Unit → w32 (n : Int) = n := fun _ => w32_of (by omega)
    have wk : Unit → w32 (k : Int) = k := fun _ => w32_of (by omega)
    have wx : Unit → w32 ((r : Int) * (2 * n) + n + k) = r * (2 * n) + ((n + k : Nat) : Int) := fun _ => by rw [ei, w32_of (by omega)]
    refine vc_MD_solve_479 _ _ _ _ _ _ ?_
    rw [wn (), wk (), wx (), m2, s2]
    exact ⟨fun n => absurd n z0, fun _ => ⟨g1, z2, _, T, tm, nxt⟩⟩
end Octet
