/-! open, kind 7: FRAME, helpers -/
section FrameO
variable {q : Nat × (Nat → Int32)} {en : Int}
theorem lO_p {v x : Int} {i : Nat} (hi : i < 8) (hv : 0 ≤ v ∧ v < (256 : Int) ^ i) (hx : 0 ≤ x ∧ x < 256) : 0 ≤ lO v (x * (2 : Int) ^ ((8 * (i : Int)) % 64).toNat) ∧ lO v (x * (2 : Int) ^ ((8 * (i : Int)) % 64).toNat) < (256 : Int) ^ (i + 1) := by
  have h8 : i = 0 ∨ i = 1 ∨ i = 2 ∨ i = 3 ∨ i = 4 ∨ i = 5 ∨ i = 6 ∨ i = 7 := by omega
  rcases h8 with e | e | e | e | e | e | e | e <;> subst e
  · have hv' : v < 1 := hv.2
    show 0 ≤ lO v (x * 1) ∧ lO v (x * 1) < 256
    unfold lO
    have h := Nat.or_lt_two_pow (x := (v % 18446744073709551616).toNat) (y := (x * 1 % 18446744073709551616).toNat) (n := 8) (by omega) (by omega)
    omega
  · have hv' : v < 256 := hv.2
    show 0 ≤ lO v (x * 256) ∧ lO v (x * 256) < 65536
    unfold lO
    have h := Nat.or_lt_two_pow (x := (v % 18446744073709551616).toNat) (y := (x * 256 % 18446744073709551616).toNat) (n := 16) (by omega) (by omega)
    omega
  · have hv' : v < 65536 := hv.2
    show 0 ≤ lO v (x * 65536) ∧ lO v (x * 65536) < 16777216
    unfold lO
    have h := Nat.or_lt_two_pow (x := (v % 18446744073709551616).toNat) (y := (x * 65536 % 18446744073709551616).toNat) (n := 24) (by omega) (by omega)
    omega
  · have hv' : v < 16777216 := hv.2
    show 0 ≤ lO v (x * 16777216) ∧ lO v (x * 16777216) < 4294967296
    unfold lO
    have h := Nat.or_lt_two_pow (x := (v % 18446744073709551616).toNat) (y := (x * 16777216 % 18446744073709551616).toNat) (n := 32) (by omega) (by omega)
    omega
  · have hv' : v < 4294967296 := hv.2
    show 0 ≤ lO v (x * 4294967296) ∧ lO v (x * 4294967296) < 1099511627776
    unfold lO
    have h := Nat.or_lt_two_pow (x := (v % 18446744073709551616).toNat) (y := (x * 4294967296 % 18446744073709551616).toNat) (n := 40) (by omega) (by omega)
    omega
  · have hv' : v < 1099511627776 := hv.2
    show 0 ≤ lO v (x * 1099511627776) ∧ lO v (x * 1099511627776) < 281474976710656
    unfold lO
    have h := Nat.or_lt_two_pow (x := (v % 18446744073709551616).toNat) (y := (x * 1099511627776 % 18446744073709551616).toNat) (n := 48) (by omega) (by omega)
    omega
  · have hv' : v < 281474976710656 := hv.2
    show 0 ≤ lO v (x * 281474976710656) ∧ lO v (x * 281474976710656) < 72057594037927936
    unfold lO
    have h := Nat.or_lt_two_pow (x := (v % 18446744073709551616).toNat) (y := (x * 281474976710656 % 18446744073709551616).toNat) (n := 56) (by omega) (by omega)
    omega
  · have hv' : v < 72057594037927936 := hv.2
    show 0 ≤ lO v (x * 72057594037927936) ∧ lO v (x * 72057594037927936) < 18446744073709551616
    unfold lO
    have h := Nat.or_lt_two_pow (x := (v % 18446744073709551616).toNat) (y := (x * 72057594037927936 % 18446744073709551616).toNat) (n := 64) (by omega) (by omega)
    omega
/-- takeLow(n), lowNumber(n), with its range -/
theorem jlw {t : Int → Int} (ht : ∀ k : Int, 0 ≤ k → k < en → 0 ≤ t k ∧ t k < 256) {n : Nat} (hn : n ≤ 8) : ∀ (m i : Nat) (v : Int) (st : Rd), i + m = n → rdR en st → (0 ≤ v ∧ v < (256 : Int) ^ i) → ∃ (z : Int) (st' : Rd), (rdR en st' ∧ Fw st st' ∧ st'.2.2.2 = st.2.2.2) ∧ (0 ≤ z ∧ z < (256 : Int) ^ n) ∧ JL q en t st st' z 132 5 345 5 [some (vI n), some (vL v), none, some (vI i)] [some (vI n), some (vL v), none, some (vI i)] := by
  intro m
  induction m with
  | zero =>
    intro i v st hi hr hv
    have e : i = n := by omega
    subst e
    exact ⟨v, st, ⟨hr, Fw_r st, rfl⟩, hv, fun S A o _ h => ⟨A, vc_Source_takeLow_5 _ _ _ (cY (Int.le_refl _) ⟨rfl, rfl⟩), h⟩, fun S B _ h => ⟨B, vc_MD_lowNumber_5 _ _ _ (cY (Int.le_refl _) ⟨rfl, rfl⟩), h⟩⟩
  | succ m ih =>
    intro i v st hi hr hv
    have tr := rdTake_rg hr ht
    obtain ⟨x, ex⟩ : ∃ x : Int, x = (rdTake t en st).1 := ⟨_, rfl⟩
    rw [← ex] at tr
    have wt : w32 x = x := w32_of (by omega)
    obtain ⟨z, st', ⟨g1, g1', g1''⟩, g2, g3, g4⟩ := ih (i + 1) (lO v (x * (2 : Int) ^ ((8 * (i : Int)) % 64).toNat)) (rdTake t en st).2 (by omega) (rdR_take hr) (lO_p (by omega) hv tr)
    have ek : ((i + 1 : Nat) : Int) = (i : Int) + 1 := by omega
    rw [ek] at g3 g4
    have z0 : ¬ (n : Int) ≤ i := by omega
    have wn : Unit → w32 (n : Int) = n := fun _ => w32_of (by omega)
    have wi : Unit → w32 (i : Int) = i := fun _ => w32_of (by omega)
    refine ⟨z, st', ⟨g1, Fw_t Fw_take g1', by rw [g1'', rdTake_2]⟩, g2, fun S A o hC h => ?_, fun S B hC h => ?_⟩
    · obtain ⟨A1, k1, k2⟩ := sp_take (q := q) hC hr h
      obtain ⟨A2, k3, k4⟩ := g3 S A1 o hC k2
      rw [← ex] at k1
      refine ⟨A2, vc_Source_takeLow_5 _ _ _ ?_, k4⟩
      rw [wn (), wi ()]
      refine cNo z0 ⟨_, A1, k1, ?_⟩
      rw [wt]
      exact k3
    · obtain ⟨B1, k1, k2⟩ := md_take (q := q) hC hr h
      obtain ⟨B2, k3, k4⟩ := g4 S B1 hC k2
      rw [← ex] at k1
      refine ⟨B2, vc_MD_lowNumber_5 _ _ _ ?_, k4⟩
      rw [wn (), wi ()]
      refine cNo z0 ⟨_, B1, k1, ?_⟩
      rw [wt]
      exact k3
theorem jlwT {t : Int → Int} (ht : ∀ k : Int, 0 ≤ k → k < en → 0 ≤ t k ∧ t k < 256) {n : Nat} (hn : n ≤ 8) (hn1 : 1 ≤ n) {st : Rd} (hr : rdR en st) : ∃ (z : Int) (st' : Rd), (rdR en st' ∧ Fw st st' ∧ st'.2.2.2 = st.2.2.2) ∧ (0 ≤ z ∧ z < (256 : Int) ^ n) ∧ Fw (rdTake t en st).2 st' ∧ (∀ (S A : ms) (o : Nat), RdC S o en t → CT S A o en st → ∃ A', EV q 132 0 [some (.ref 9), some (vI n), none, none, none] [] A (some (vL z)) A' ∧ CR S A' o en st') ∧ ∀ S B : ms, RdM S en t → MR S B en st → ∃ B', EV q 345 0 [some (.ref 367), some (vI n), none, none, none] [] B (some (vL z)) B' ∧ MR S B' en st' := by
  have tr := rdTake_rg hr ht
  obtain ⟨x, ex⟩ : ∃ x : Int, x = (rdTake t en st).1 := ⟨_, rfl⟩
  rw [← ex] at tr
  have wt : w32 x = x := w32_of (by omega)
  obtain ⟨z, st', ⟨g1, g1', g1''⟩, g2, g3, g4⟩ := jlw (q := q) ht hn (n - 1) 1 (lO 0 (x * (2 : Int) ^ ((8 * ((0 : Nat) : Int)) % 64).toNat)) (rdTake t en st).2 (by omega) (rdR_take hr) (lO_p (i := 0) (by omega) (by show (0 : Int) ≤ 0 ∧ (0 : Int) < 1; decide) tr)
  have wn : Unit → w32 (n : Int) = n := fun _ => w32_of (by omega)
  have z0 : ¬ (n : Int) ≤ 0 := by omega
  have w0 : w32 0 = 0 := by decide
  refine ⟨z, st', ⟨g1, Fw_t Fw_take g1', by rw [g1'', rdTake_2]⟩, g2, g1', fun S A o hC h => ?_, fun S B hC h => ?_⟩
  · obtain ⟨A1, k1, k2⟩ := sp_takeT (q := q) hC hr h
    obtain ⟨A2, k3, k4⟩ := g3 S A1 o hC k2
    rw [← ex] at k1
    refine ⟨A2, vc_Source_takeLow _ (vc_Source_takeLow_5 _ _ _ ?_), k4⟩
    rw [wn (), w0]
    refine cNo z0 ⟨_, A1, k1, ?_⟩
    rw [wt]
    exact k3
  · obtain ⟨B1, k1, k2⟩ := md_take (q := q) hC hr h
    obtain ⟨B2, k3, k4⟩ := g4 S B1 hC k2
    rw [← ex] at k1
    refine ⟨B2, vc_MD_lowNumber _ (vc_MD_lowNumber_5 _ _ _ ?_), k4⟩
    rw [wn (), w0]
    refine cNo z0 ⟨_, B1, k1, ?_⟩
    rw [wt]
    exact k3
/-- expect(v, k), mustBe(v, k) -/
def rdExp (t : Int → Int) (en v k : Int) (st : Rd) : Rd := if w32 (rdTake t en st).1 = w32 v then (rdTake t en st).2 else rdTell k (rdTake t en st).2
theorem rdExp_r {t : Int → Int} {v k : Int} {st : Rd} (hk : 1 ≤ k ∧ k < 1000) (hr : rdR en st) : rdR en (rdExp t en v k st) ∧ Fw st (rdExp t en v k st) := by
  unfold rdExp
  obtain ⟨h1, h2⟩ := rd_gt (c := w32 (rdTake t en st).1 = w32 v) hk (rdR_take (t := t) hr)
  exact ⟨h1, Fw_t Fw_take h2⟩
theorem sp_exp {S A : ms} {o : Nat} {t : Int → Int} {v k : Int} {st : Rd} (hC : RdC S o en t) (hr : rdR en st) (h : CR S A o en st) : ∃ A', EV q 146 0 [some (.ref 9), some (vI v), some (vI k), none] [] A none A' ∧ CR S A' o en (rdExp t en v k st) := by
  obtain ⟨A1, k1, k2⟩ := sp_take (q := q) hC hr h
  unfold rdExp
  by_cases c : w32 (rdTake t en st).1 = w32 v
  · rw [if_pos c]
    exact ⟨A1, vc_Source_expect _ _ ⟨_, A1, k1, cY c ⟨rfl, rfl⟩⟩, k2⟩
  · rw [if_neg c]
    obtain ⟨A2, k3, k4⟩ := sp_tell (q := q) (k := k) (rdR_take hr) hC.2.2.1 k2
    exact ⟨A2, vc_Source_expect _ _ ⟨_, A1, k1, cNo c ⟨A2, k3, rfl, rfl⟩⟩, k4⟩
theorem md_exp {S B : ms} {t : Int → Int} {v k : Int} {st : Rd} (he : en ≤ 6000) (hC : RdM S en t) (hr : rdR en st) (h : MR S B en st) : ∃ B', EV q 354 0 [some (.ref 367), some (vI v), some (vI k), none] [] B none B' ∧ MR S B' en (rdExp t en v k st) := by
  obtain ⟨B1, k1, k2⟩ := md_take (q := q) hC hr h
  obtain ⟨B', f, p⟩ := gTellB (q := q) (k := k) (c := w32 (rdTake t en st).1 = w32 v) (X := fun U V => none = (none : Option Value) ∧ V = U) (P := fun U => MR S U en (rdExp t en v k st)) (rdR_take hr) he k2 (fun B2 j => ⟨B2, ⟨rfl, rfl⟩, j⟩)
  exact ⟨B', vc_MD_mustBe _ _ ⟨_, B1, k1, _, B1, md_fine (rdR_take hr) k2, f⟩, p⟩
theorem tk1 {t : Int → Int} {st : Rd} (h : (rdTake t en st).2.1 = 0) : st.1 = 0 ∧ (rdTake t en st).2.2.2.1 = st.2.2.1 + 1 := by
  unfold rdTake at h ⊢
  by_cases c : st.1 ≠ 0
  · rw [if_pos c] at h
    exact absurd h c
  · rw [if_neg c] at h ⊢
    by_cases d : st.2.2.1 < en
    · rw [if_pos d]
      exact ⟨by omega, rfl⟩
    · rw [if_neg d] at h
      exact absurd (show (1 : Int) = 0 from h) (by decide)
theorem Fw_0 {st st' : Rd} (h : Fw st st') (c : st'.1 = 0) : st.1 = 0 := by
  apply Classical.byContradiction
  intro n
  rw [h.1 n] at c
  exact n c
theorem ex1 {t : Int → Int} {v k : Int} (hk : k ≠ 0) {st : Rd} (h : (rdExp t en v k st).1 = 0) : st.1 = 0 ∧ (rdExp t en v k st).2.2.1 = st.2.2.1 + 1 := by
  unfold rdExp at h ⊢
  by_cases c : w32 (rdTake t en st).1 = w32 v
  · rw [if_pos c] at h ⊢
    exact tk1 h
  · rw [if_neg c] at h
    exact absurd h (rdTell_1 hk)
/-- a number of n octets at p -/
def lowV (t : Int → Int) (p : Int) : Nat → Int
  | 0 => 0
  | i + 1 => lO (lowV t p i) (t (p + i) * (2 : Int) ^ ((8 * (i : Int)) % 64).toNat)
theorem lowV_s (t : Int → Int) (p : Int) (i : Nat) : lowV t p (i + 1) = lO (lowV t p i) (t (p + i) * (2 : Int) ^ ((8 * (i : Int)) % 64).toNat) := rfl
theorem cw_lowV {A : ms} {t : Int → Int} {p : Int} {n : Nat} (hp : 0 ≤ p ∧ p + n ≤ 6000) (ht : ∀ k : Int, p ≤ k → k < p + n → (0 ≤ t k ∧ t k < 256) ∧ A.1 2 k = t k) : EV q 155 0 [some (.ref 2), some (vI p), some (vI n), none, none, none] [] A (some (vL (lowV t p n))) A := by
  have lp : ∀ (m i : Nat), i + m = n → EV q 155 5 [some (.ref 2), some (vI p), some (vI n), some (vL (lowV t p i)), none, some (vI i)] [] A (some (vL (lowV t p n))) A := by
    intro m
    induction m with
    | zero =>
      intro i hi
      have e : i = n := by omega
      subst e
      exact vc_Row_low_5 _ _ _ _ 2 6000 rfl (cY (Int.le_refl _) ⟨rfl, rfl⟩)
    | succ m ih =>
      intro i hi
      have g := ih (i + 1) (by omega)
      have tk := ht (p + i) (by omega) (by omega)
      have wt : w32 (t (p + i)) = t (p + i) := w32_of (by omega)
      have wn : Unit → w32 (n : Int) = n := fun _ => w32_of (by omega)
      have wi : Unit → w32 (i : Int) = i := fun _ => w32_of (by omega)
      have wp : Unit → w32 (p + (i : Int)) = p + i := fun _ => w32_of (by omega)
      have z0 : ¬ (n : Int) ≤ i := by omega
      have w6 : w32 ((6000 : Nat) : Int) = 6000 := by decide
      rw [lowV_s, show ((i + 1 : Nat) : Int) = (i : Int) + 1 by omega] at g
      refine vc_Row_low_5 _ _ _ _ 2 6000 rfl ?_
      rw [wn (), wi (), wp (), w6, tk.2, wt]
      exact cNo z0 (cNo (by omega) (cNo (by omega) ⟨by omega, g⟩))
  exact vc_Row_low _ _ 2 6000 rfl (lp n 0 (by omega))
theorem md_lowV {S B : ms} {t : Int → Int} {p : Int} {n : Nat} {ct : Int × (Int → Int)} (he : en ≤ 6000) (hC : RdM S en t) (ht : ∀ k : Int, 0 ≤ k → k < en → 0 ≤ t k ∧ t k < 256) (hp : 0 ≤ p ∧ p + n ≤ en) (hr : rdR en (0, 0, p, ct)) (h : MR S B en (0, 0, p, ct)) : ∃ B', EV q 345 0 [some (.ref 367), some (vI n), none, none, none] [] B (some (vL (lowV t p n))) B' ∧ MR S B' en (0, 0, p + n, ct) := by
  have lp : ∀ (m i : Nat) (U : ms), i + m = n → MR S U en (0, 0, p + i, ct) → ∃ B', EV q 345 5 [some (.ref 367), some (vI n), some (vL (lowV t p i)), none, some (vI i)] [] U (some (vL (lowV t p n))) B' ∧ MR S B' en (0, 0, p + n, ct) := by
    intro m
    induction m with
    | zero =>
      intro i U hi hU
      have e : i = n := by omega
      subst e
      exact ⟨U, vc_MD_lowNumber_5 _ _ _ (cY (Int.le_refl _) ⟨rfl, rfl⟩), hU⟩
    | succ m ih =>
      intro i U hi hU
      have hr1 : rdR en (0, 0, p + (i : Int), ct) := ⟨hr.1, ⟨by show 0 ≤ p + (i : Int); omega, by show p + (i : Int) ≤ en; omega⟩, hr.2.2⟩
      obtain ⟨U1, k1, k2⟩ := md_take (q := q) hC hr1 hU
      have et : rdTake t en (0, 0, p + (i : Int), ct) = (t (p + i), 0, 0, p + (i : Int) + 1, ct) := by
        unfold rdTake
        rw [if_neg (by show ¬ (0 : Int) ≠ 0; decide), if_pos (by show p + (i : Int) < en; omega)]
      rw [et] at k1 k2
      have tk := ht (p + i) (by omega) (by omega)
      have wt : w32 (t (p + i)) = t (p + i) := w32_of (by omega)
      have wn : Unit → w32 (n : Int) = n := fun _ => w32_of (by omega)
      have wi : Unit → w32 (i : Int) = i := fun _ => w32_of (by omega)
      have z0 : ¬ (n : Int) ≤ i := by omega
      obtain ⟨B', k3, k4⟩ := ih (i + 1) U1 (by omega) (by rw [show p + ((i + 1 : Nat) : Int) = p + (i : Int) + 1 by omega]; exact k2)
      rw [lowV_s, show ((i + 1 : Nat) : Int) = (i : Int) + 1 by omega] at k3
      refine ⟨B', vc_MD_lowNumber_5 _ _ _ ?_, k4⟩
      rw [wn (), wi ()]
      refine cNo z0 ⟨_, U1, k1, ?_⟩
      rw [wt]
      exact k3
  obtain ⟨B', k1, k2⟩ := lp n 0 B (by omega) (by rw [show p + ((0 : Nat) : Int) = p by omega]; exact h)
  exact ⟨B', vc_MD_lowNumber _ k1, k2⟩
/-- window(a, b) -/
theorem sp_window {S A : ms} {o : Nat} {e2 : Int} {st st' : Rd} (a b : Int) (h : CT S A o e2 st) (ho : (300 < o ∨ o = 7)) (hr : st'.1 = st.1) (hp : st'.2.1 = st.2.1) (hc : st'.2.2.2 = st.2.2.2) (ha : st'.1 = 0 → st'.2.2.1 = a) : ∃ A', EV q 156 0 [some (.ref 9), some (vI a), some (vI b)] [] A none A' ∧ CT S A' o b st' := by
  obtain ⟨h1, ⟨a1, a2, a3, a4, a5⟩, ⟨a6, a7⟩, h4⟩ := h
  have q2 : ∀ (c : Nat) (k : Int), (wI (wI (wI A 9 3 a) 9 2 b) 9 8 0).1 c k = if c = 9 ∧ k = 8 then 0 else if c = 9 ∧ k = 2 then b else if c = 9 ∧ k = 3 then a else A.1 c k := fun _ _ => rfl
  refine ⟨wI (wI (wI A 9 3 a) 9 2 b) 9 8 0, vc_Source_window _ _ (fun S1 f1 S2 f2 S3 f3 => ⟨rfl, by subst f1 f2 f3; rfl⟩), h1, ⟨fun _ => ?_, ?_, ?_, fun y => ?_, fun _ => ?_⟩, ⟨?_, fun k k0 k1 => ?_⟩, fun c k n1 n2 n3 => ?_⟩
  · rw [q2, if_neg (by decide), if_pos ⟨rfl, rfl⟩]
  · rw [q2, if_neg (by decide), if_neg (by decide), if_neg (by decide), a2, hr]
  · rw [q2, if_neg (by decide), if_neg (by decide), if_neg (by decide), a3, hp]
  · rw [q2, if_neg (by decide), if_neg (by decide), if_pos ⟨rfl, rfl⟩, ha y]
  · rw [q2, if_pos ⟨rfl, rfl⟩]
  · rw [q2, if_neg (by omega), if_neg (by omega), if_neg (by omega), a6, hc]
  · rw [hc] at k1 ⊢
    rw [q2, if_neg (by omega), if_neg (by omega), if_neg (by omega), a7 k k0 k1]
  · rw [q2, if_neg (by omega), if_neg (by omega), if_neg (by omega), h4 c k n1 n2 n3]
theorem RdC_le {S : ms} {o : Nat} {t : Int → Int} {e2 : Int} (h : RdC S o en t) (h0 : 0 ≤ e2) (hl : e2 ≤ en) : RdC S o e2 t := ⟨h.1, h.2.1, h.2.2.1, ⟨h0, by have := h.2.2.2.1; omega⟩, fun k k0 k1 => h.2.2.2.2 k k0 (by omega)⟩
theorem RdM_le {S : ms} {t : Int → Int} {e2 : Int} (h : RdM S en t) (h0 : 0 ≤ e2) (hl : e2 ≤ en) : RdM S e2 t := ⟨h.1, ⟨h0, by have := h.2.1; omega⟩, fun k k0 k1 => h.2.2 k k0 (by omega)⟩
end FrameO
