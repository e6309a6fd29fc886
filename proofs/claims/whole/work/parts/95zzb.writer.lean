/-! THE WRITER, octets alone: how many were written, and which; both sides in it -/
section Writer
variable {q : Nat × (Nat → Int32)}
abbrev Wt := Int × (Int → Int)
def wtPut (v : Int) (w : Wt) : Wt := (w.1 + 1, fun k => if k = w.1 then v % 256 else w.2 k)
theorem wtPut_m {v v' : Int} (h : v % 256 = v' % 256) (w : Wt) : wtPut v w = wtPut v' w := by
  unfold wtPut
  rw [h]
theorem wtPut_1 (v : Int) (w : Wt) : (wtPut v w).1 = w.1 + 1 := rfl
/-- n octets f, one after the other -/
def wtPuts (f : Nat → Int) : Nat → Wt → Wt
  | 0, w => w
  | n + 1, w => wtPut (f n) (wtPuts f n w)
theorem wtPuts_s (f : Nat → Int) (n : Nat) (w : Wt) : wtPuts f (n + 1) w = wtPut (f n) (wtPuts f n w) := rfl
theorem wtPuts_1 (f : Nat → Int) (w : Wt) : ∀ n : Nat, (wtPuts f n w).1 = w.1 + n
  | 0 => by
    show w.1 = w.1 + ((0 : Nat) : Int)
    omega
  | n + 1 => by
    rw [wtPuts_s, wtPut_1, wtPuts_1 f w n]
    omega
theorem wtPuts_2 (f : Nat → Int) (w : Wt) (k : Int) : ∀ n : Nat, (wtPuts f n w).2 k = if w.1 ≤ k ∧ k < w.1 + n then f (k - w.1).toNat % 256 else w.2 k
  | 0 => by
    rw [if_neg (by omega)]
    rfl
  | n + 1 => by
    rw [wtPuts_s]
    show (if k = (wtPuts f n w).1 then f n % 256 else (wtPuts f n w).2 k) = _
    rw [wtPuts_1, wtPuts_2 f w k n]
    by_cases c : k = w.1 + n
    · rw [if_pos c, if_pos (by omega), show (k - w.1).toNat = n by omega]
    · rw [if_neg c]
      by_cases d : w.1 ≤ k ∧ k < w.1 + n
      · rw [if_pos d, if_pos (by omega)]
      · rw [if_neg d, if_neg (by omega)]
theorem wtPuts_cg {f g : Nat → Int} {w : Wt} : ∀ n : Nat, (∀ k, k < n → f k % 256 = g k % 256) → wtPuts f n w = wtPuts g n w
  | 0, _ => rfl
  | n + 1, h => by
    rw [wtPuts_s, wtPuts_s, wtPuts_cg n (fun k hk => h k (by omega)), wtPut_m (h n (by omega))]
/-- a number by sevens -/
def wtSev : Nat → Int → Wt → Wt
  | 0, v, w => wtPut v w
  | n + 1, v, w => if v ≤ 127 then wtPut v w else wtSev n (v / 128) (wtPut (bO 128 (v % 128)) w)
theorem wtSev_s (n : Nat) (v : Int) (w : Wt) : wtSev (n + 1) v w = if v ≤ 127 then wtPut v w else wtSev n (v / 128) (wtPut (bO 128 (v % 128)) w) := rfl
theorem wtSev_1 : ∀ (n : Nat) (v : Int) (w : Wt), w.1 < (wtSev n v w).1 ∧ (wtSev n v w).1 ≤ w.1 + n + 1
  | 0, v, w => by
    show w.1 < w.1 + 1 ∧ w.1 + 1 ≤ w.1 + ((0 : Nat) : Int) + 1
    omega
  | n + 1, v, w => by
    rw [wtSev_s]
    split
    · rw [wtPut_1]
      omega
    · have := wtSev_1 n (v / 128) (wtPut (bO 128 (v % 128)) w)
      rw [wtPut_1] at this
      omega
theorem bO_comm (x y : Int) : bO x y = bO y x := by
  unfold bO
  rw [Nat.or_comm]
def XRo (o : Nat) (a : Nat) (k : Int) : Prop := (a = o ∧ 1 ≤ k ∧ k ≤ 2) ∨ a = o + 1
def XW (a : Nat) (k : Int) : Prop := (a = 367 ∧ k = 9) ∨ a = 374
/-- row o, of N octets at most, holds what was written, or it is over -/
def CWt (A : ms) (o N : Nat) (w : Wt) : Prop := (w.1 ≤ N → A.1 o 1 = w.1 ∧ A.1 o 2 = 0 ∧ ∀ k : Int, 0 ≤ k → k < w.1 → A.1 (o + 1) k = w.2 k) ∧ ((N : Int) < w.1 → A.1 o 2 = 1 ∧ 0 ≤ A.1 o 1 ∧ A.1 o 1 ≤ N)
def MWt (B : ms) (w : Wt) : Prop := B.1 367 9 = w.1 ∧ ∀ k : Int, 0 ≤ k → k < w.1 → k < 30000 → B.1 374 k = b8 (w.2 k)
theorem CWt_cg {A A' : ms} {o N : Nat} {w : Wt} (h : CWt A o N w) (e : ∀ (a : Nat) (k : Int), XRo o a k → A'.1 a k = A.1 a k) : CWt A' o N w := by
  refine ⟨fun c => ?_, fun c => ?_⟩
  · rw [e o 1 (Or.inl ⟨rfl, by decide⟩), e o 2 (Or.inl ⟨rfl, by decide⟩)]
    exact ⟨(h.1 c).1, (h.1 c).2.1, fun k k0 k1 => by rw [e _ _ (Or.inr rfl)]; exact (h.1 c).2.2 k k0 k1⟩
  · rw [e o 1 (Or.inl ⟨rfl, by decide⟩), e o 2 (Or.inl ⟨rfl, by decide⟩)]
    exact h.2 c
theorem MWt_cg {B B' : ms} {w : Wt} (h : MWt B w) (e : ∀ (a : Nat) (k : Int), XW a k → B'.1 a k = B.1 a k) : MWt B' w := ⟨by rw [e _ _ (Or.inl ⟨rfl, rfl⟩)]; exact h.1, fun k k0 k1 k2 => by rw [e _ _ (Or.inr rfl)]; exact h.2 k k0 k1 k2⟩
/-- add(v) -/
theorem cw_put {A : ms} {o N : Nat} {w : Wt} (v : Int) (ho : isRow o N) (hN : N < 1000000) (hw : 0 ≤ w.1) (h : CWt A o N w) : ∃ A', EV q 19 0 [some (.ref o), some (vI v)] [] A none A' ∧ EX (XRo o) A A' ∧ CWt A' o N (wtPut v w) := by
  have wN : Unit → w32 ((N : Nat) : Int) = N := fun _ => w32_of (by omega)
  have x1 : XRo o o 1 := Or.inl ⟨rfl, by decide⟩
  have x2 : XRo o o 2 := Or.inl ⟨rfl, by decide⟩
  have x3 : ∀ k, XRo o (o + 1) k := fun k => Or.inr rfl
  have add : ∀ c : Int, A.1 o 1 = c → 0 ≤ c → c < N → EV q 19 0 [some (.ref o), some (vI v)] [] A none (wI (wI A (o + 1) c (v % 256)) o 1 (c + 1)) := by
    intro c ec c0 c1
    have wc : w32 c = c := w32_of (by omega)
    refine vc_Row_add _ _ _ ho ?_
    rw [ec, wc, wN ()]
    refine cNo (by omega) (cY c1 ⟨⟨c0, c1⟩, fun S2 f2 S3 f3 => ⟨rfl, ?_⟩⟩)
    have e : S2.1 o 1 = c := by rw [f2, rI_I, if_neg (by omega), ec]
    rw [e] at f3
    subst f2 f3
    rfl
  have full : A.1 o 1 = N → EV q 19 0 [some (.ref o), some (vI v)] [] A none (wI A o 2 1) := by
    intro ec
    refine vc_Row_add _ _ _ ho ?_
    have k19 : EV q 19 19 [some (.ref o), some (vI v)] [] A none (wI A o 2 1) := vc_Row_add_19 _ _ _ ho (fun S1 f1 => ⟨rfl, by subst f1; rfl⟩)
    rw [ec, wN ()]
    exact cNo (by omega) (cNo (by omega) k19)
  by_cases c : w.1 < N
  · obtain ⟨e1, e2, e3⟩ := h.1 (by omega)
    refine ⟨_, add w.1 e1 hw c, ((EX.refl _ _).wr (x3 _)).wr x1, fun _ => ⟨?_, ?_, fun k k0 k1 => ?_⟩, fun y => ?_⟩
    · rw [rI_I, if_pos ⟨rfl, rfl⟩]
      rfl
    · rw [rI_I, if_neg (by omega), rI_I, if_neg (by omega), e2]
    · rw [wtPut_1] at k1
      rw [rI_I, if_neg (by omega), rI_I]
      show _ = if k = w.1 then v % 256 else w.2 k
      by_cases ck : k = w.1
      · rw [if_pos ⟨rfl, ck⟩, if_pos ck]
      · rw [if_neg (fun y => ck y.2), if_neg ck, e3 k k0 (by omega)]
    · rw [wtPut_1] at y
      omega
  · by_cases c2 : w.1 = N
    · obtain ⟨e1, e2, e3⟩ := h.1 (by omega)
      refine ⟨_, full (by rw [e1, c2]), (EX.refl _ _).wr x2, fun y => ?_, fun _ => ⟨?_, ?_, ?_⟩⟩
      · rw [wtPut_1] at y
        omega
      · rw [rI_I, if_pos ⟨rfl, rfl⟩]
      · rw [rI_I, if_neg (by omega), e1]
        omega
      · rw [rI_I, if_neg (by omega), e1]
        omega
    · obtain ⟨e1, e2, e3⟩ := h.2 (by omega)
      by_cases c3 : A.1 o 1 = N
      · refine ⟨_, full c3, (EX.refl _ _).wr x2, fun y => ?_, fun _ => ⟨?_, ?_, ?_⟩⟩
        · rw [wtPut_1] at y
          omega
        · rw [rI_I, if_pos ⟨rfl, rfl⟩]
        · rw [rI_I, if_neg (by omega), c3]
          omega
        · rw [rI_I, if_neg (by omega), c3]
          omega
      · refine ⟨_, add (A.1 o 1) rfl e2 (by omega), ((EX.refl _ _).wr (x3 _)).wr x1, fun y => ?_, fun _ => ⟨?_, ?_, ?_⟩⟩
        · rw [wtPut_1] at y
          omega
        · rw [rI_I, if_neg (by omega), rI_I, if_neg (by omega), e1]
        · rw [rI_I, if_pos ⟨rfl, rfl⟩]
          omega
        · rw [rI_I, if_pos ⟨rfl, rfl⟩]
          omega
/-- put(v) -/
theorem mw_put {B : ms} {w : Wt} (v : Int) (hw : 0 ≤ w.1 ∧ w.1 < 1000000000) (h : MWt B w) : ∃ B', EV q 282 0 [some (.ref 367), some (vI v)] [] B none B' ∧ EX XW B B' ∧ MWt B' (wtPut v w) := by
  obtain ⟨h1, h2⟩ := h
  have ww : w32 w.1 = w.1 := w32_of (by omega)
  have x1 : XW 367 9 := Or.inl ⟨rfl, rfl⟩
  have x2 : ∀ k, XW 374 k := fun k => Or.inr rfl
  have k21 : ∀ B : ms, B.1 367 9 = w.1 → EV q 282 21 [some (.ref 367), some (vI v)] [] B none (wI B 367 9 (w.1 + 1)) := fun B e => vc_MD_put_21 _ (fun S1 f1 => ⟨rfl, by rw [e] at f1; exact f1.symm⟩)
  by_cases c : 30000 ≤ w.1
  · refine ⟨_, vc_MD_put _ (by rw [h1, ww]; exact cY c (k21 B h1)), (EX.refl _ _).wr x1, ?_, fun k k0 k1 k2 => ?_⟩
    · rw [rI_I, if_pos ⟨rfl, rfl⟩]
      rfl
    · rw [rI_I, if_neg (by omega), h2 k k0 (by omega) k2]
      show _ = b8 (if k = w.1 then v % 256 else w.2 k)
      rw [if_neg (by omega)]
  · have e9 : (wI B 374 w.1 (b8 (b8 v))).1 367 9 = w.1 := by rw [rI_I, if_neg (by omega), h1]
    refine ⟨_, vc_MD_put _ (by
      rw [h1, ww]
      exact cNo c ⟨by omega, fun S2 f2 => by subst f2; exact k21 _ e9⟩), ((EX.refl _ _).wr (x2 _)).wr x1, ?_, fun k k0 k1 k2 => ?_⟩
    · rw [rI_I, if_pos ⟨rfl, rfl⟩]
      rfl
    · rw [wtPut_1] at k1
      rw [rI_I, if_neg (by omega), rI_I]
      show _ = b8 (if k = w.1 then v % 256 else w.2 k)
      by_cases ck : k = w.1
      · rw [if_pos ⟨rfl, ck⟩, if_pos ck]
        unfold b8
        omega
      · rw [if_neg (fun y => ck y.2), if_neg ck, h2 k k0 (by omega) k2]
/-- addLow(v, n), low(v, n) -/
def loF (v : Int) (i : Nat) : Int := w64 v / (2 : Int) ^ ((8 * (i : Int)) % 64).toNat
theorem loF_c (v : Int) {i : Nat} (hi : i < 8) : (v % 18446744073709551616 / (2 : Int) ^ ((8 * (i : Int)) % 64).toNat) % 256 = loF v i % 256 := by
  have h8 : i = 0 ∨ i = 1 ∨ i = 2 ∨ i = 3 ∨ i = 4 ∨ i = 5 ∨ i = 6 ∨ i = 7 := by omega
  unfold loF w64
  rcases h8 with e | e | e | e | e | e | e | e <;> subst e
  · show v % 18446744073709551616 / 1 % 256 = ((v + 9223372036854775808) % 18446744073709551616 - 9223372036854775808) / 1 % 256
    omega
  · show v % 18446744073709551616 / 256 % 256 = ((v + 9223372036854775808) % 18446744073709551616 - 9223372036854775808) / 256 % 256
    omega
  · show v % 18446744073709551616 / 65536 % 256 = ((v + 9223372036854775808) % 18446744073709551616 - 9223372036854775808) / 65536 % 256
    omega
  · show v % 18446744073709551616 / 16777216 % 256 = ((v + 9223372036854775808) % 18446744073709551616 - 9223372036854775808) / 16777216 % 256
    omega
  · show v % 18446744073709551616 / 4294967296 % 256 = ((v + 9223372036854775808) % 18446744073709551616 - 9223372036854775808) / 4294967296 % 256
    omega
  · show v % 18446744073709551616 / 1099511627776 % 256 = ((v + 9223372036854775808) % 18446744073709551616 - 9223372036854775808) / 1099511627776 % 256
    omega
  · show v % 18446744073709551616 / 281474976710656 % 256 = ((v + 9223372036854775808) % 18446744073709551616 - 9223372036854775808) / 281474976710656 % 256
    omega
  · show v % 18446744073709551616 / 72057594037927936 % 256 = ((v + 9223372036854775808) % 18446744073709551616 - 9223372036854775808) / 72057594037927936 % 256
    omega
theorem cw_low {A : ms} {o N : Nat} {w : Wt} (v : Int) {n : Nat} (hn : n ≤ 8) (ho : isRow o N) (hN : N < 1000000) (hw : 0 ≤ w.1) (h : CWt A o N w) : ∃ A', EV q 57 0 [some (.ref o), some (vL v), none, some (vI n), none] [] A none A' ∧ EX (XRo o) A A' ∧ CWt A' o N (wtPuts (loF v) n w) := by
  have lp : ∀ (m i : Nat) (A1 : ms), i + m = n → EX (XRo o) A A1 → CWt A1 o N (wtPuts (loF v) i w) → ∃ A', EV q 57 3 [some (.ref o), some (vL v), none, some (vI n), some (vI i)] [] A1 none A' ∧ EX (XRo o) A A' ∧ CWt A' o N (wtPuts (loF v) n w) := by
    intro m
    induction m with
    | zero =>
      intro i A1 hi e1 h1
      have e : i = n := by omega
      subst e
      exact ⟨A1, vc_Row_addLow_3 _ _ _ _ _ ho (cY (Int.le_refl _) ⟨rfl, rfl⟩), e1, h1⟩
    | succ m ih =>
      intro i A1 hi e1 h1
      have wn : Unit → w32 ((n : Nat) : Int) = n := fun _ => w32_of (by omega)
      have wi : Unit → w32 ((i : Nat) : Int) = i := fun _ => w32_of (by omega)
      have z0 : ¬ (n : Int) ≤ i := by omega
      obtain ⟨A2, k1, k2, k3⟩ := cw_put (q := q) (v % 18446744073709551616 / (2 : Int) ^ ((8 * (i : Int)) % 64).toNat) ho hN (by rw [wtPuts_1]; omega) h1
      rw [wtPut_m (loF_c v (by omega)), ← wtPuts_s] at k3
      obtain ⟨A', k4, k5⟩ := ih (i + 1) A2 (by omega) (e1.trans k2) k3
      rw [show ((i + 1 : Nat) : Int) = (i : Int) + 1 by omega] at k4
      refine ⟨A', vc_Row_addLow_3 _ _ _ _ _ ho ?_, k5⟩
      rw [wn (), wi ()]
      exact cNo z0 ⟨A2, k1, k4⟩
  obtain ⟨A', k1, k2⟩ := lp n 0 A (by omega) (EX.refl _ _) h
  exact ⟨A', vc_Row_addLow _ _ _ _ ho k1, k2⟩
theorem mw_low {B : ms} {w : Wt} (v : Int) {n : Nat} (hn : n ≤ 8) (hw : 0 ≤ w.1 ∧ w.1 < 900000000) (h : MWt B w) : ∃ B', EV q 291 0 [some (.ref 367), some (vL v), none, some (vI n), none] [] B none B' ∧ EX XW B B' ∧ MWt B' (wtPuts (loF v) n w) := by
  have lp : ∀ (m i : Nat) (B1 : ms), i + m = n → EX XW B B1 → MWt B1 (wtPuts (loF v) i w) → ∃ B', EV q 291 3 [some (.ref 367), some (vL v), none, some (vI n), some (vI i)] [] B1 none B' ∧ EX XW B B' ∧ MWt B' (wtPuts (loF v) n w) := by
    intro m
    induction m with
    | zero =>
      intro i B1 hi e1 h1
      have e : i = n := by omega
      subst e
      exact ⟨B1, vc_MD_low_3 _ _ _ (cY (Int.le_refl _) ⟨rfl, rfl⟩), e1, h1⟩
    | succ m ih =>
      intro i B1 hi e1 h1
      have wn : Unit → w32 ((n : Nat) : Int) = n := fun _ => w32_of (by omega)
      have wi : Unit → w32 ((i : Nat) : Int) = i := fun _ => w32_of (by omega)
      have z0 : ¬ (n : Int) ≤ i := by omega
      obtain ⟨B2, k1, k2, k3⟩ := mw_put (q := q) (loF v i) (by rw [wtPuts_1]; omega) h1
      rw [← wtPuts_s] at k3
      obtain ⟨B', k4, k5⟩ := ih (i + 1) B2 (by omega) (e1.trans k2) k3
      rw [show ((i + 1 : Nat) : Int) = (i : Int) + 1 by omega] at k4
      refine ⟨B', vc_MD_low_3 _ _ _ ?_, k5⟩
      rw [wn (), wi ()]
      exact cNo z0 ⟨B2, k1, k4⟩
  obtain ⟨B', k1, k2⟩ := lp n 0 B (by omega) (EX.refl _ _) h
  exact ⟨B', vc_MD_low _ _ k1, k2⟩
/-- addSevens(v), sevens(v) -/
theorem cw_sev {A : ms} {o N : Nat} {w : Wt} {v : Int} (hv : 0 ≤ v ∧ v < 2147483648) (ho : isRow o N) (hN : N < 1000000) (hw : 0 ≤ w.1) (h : CWt A o N w) : ∃ A', EV q 89 0 [some (.ref o), some (vI v), none, none] [] A none A' ∧ EX (XRo o) A A' ∧ CWt A' o N (wtSev 4 v w) := by
  have lp : ∀ (m i : Nat) (A1 : ms) (u : Int) (w1 : Wt), i + m = 4 → 0 ≤ w1.1 → (0 ≤ u ∧ u < (128 : Int) ^ (m + 1) ∧ u < 2147483648) → EX (XRo o) A A1 → CWt A1 o N w1 → ∃ A', EV q 89 4 [some (.ref o), some (vI v), some (vI u), some (vI i)] [] A1 none A' ∧ EX (XRo o) A A' ∧ CWt A' o N (wtSev m u w1) := by
    intro m
    induction m with
    | zero =>
      intro i A1 u w1 hi hw1 hu e1 h1
      have hu2 : u < 128 := hu.2.1
      have wu : w32 u = u := w32_of (by omega)
      obtain ⟨A2, k1, k2, k3⟩ := cw_put (q := q) u ho hN hw1 h1
      have k38 : EV q 89 38 [some (.ref o), some (vI v), some (vI u), some (vI i)] [] A1 none A2 := vc_Row_addSevens_38 _ _ _ _ _ ho ⟨A2, k1, rfl, rfl⟩
      refine ⟨A2, vc_Row_addSevens_4 _ _ _ _ _ ho ⟨fun _ => k38, fun _ => ?_⟩, e1.trans k2, k3⟩
      rw [wu]
      exact cY (by omega) k38
    | succ m ih =>
      intro i A1 u w1 hi hw1 hu e1 h1
      have wu : w32 u = u := w32_of (by omega)
      have wi : Unit → w32 ((i : Nat) : Int) = i := fun _ => w32_of (by omega)
      have i5 : ¬ 5 ≤ (i : Int) := by omega
      rw [wtSev_s]
      by_cases c : u ≤ 127
      · rw [if_pos c]
        obtain ⟨A2, k1, k2, k3⟩ := cw_put (q := q) u ho hN hw1 h1
        have k38 : EV q 89 38 [some (.ref o), some (vI v), some (vI u), some (vI i)] [] A1 none A2 := vc_Row_addSevens_38 _ _ _ _ _ ho ⟨A2, k1, rfl, rfl⟩
        refine ⟨A2, vc_Row_addSevens_4 _ _ _ _ _ ho ⟨fun _ => k38, fun _ => ?_⟩, e1.trans k2, k3⟩
        rw [wu]
        exact cY c k38
      · rw [if_neg c]
        obtain ⟨A2, k1, k2, k3⟩ := cw_put (q := q) (bO 128 (u % 128)) ho hN hw1 h1
        have hp : u / 128 < (128 : Int) ^ (m + 1) := by
          have e : (128 : Int) ^ (m + 1 + 1) = (128 : Int) ^ (m + 1) * 128 := Int.pow_succ _ _
          have := hu.2.1
          rw [e] at this
          omega
        obtain ⟨A', k4, k5⟩ := ih (i + 1) A2 (u / 128) (wtPut (bO 128 (u % 128)) w1) (by omega) (by rw [wtPut_1]; omega) ⟨by omega, hp, by omega⟩ (e1.trans k2) k3
        rw [show ((i + 1 : Nat) : Int) = (i : Int) + 1 by omega] at k4
        refine ⟨A', vc_Row_addSevens_4 _ _ _ _ _ ho ?_, k5⟩
        rw [wi (), wu, show u % 4294967296 / 128 = u / 128 by omega]
        exact cNo i5 (cNo c ⟨A2, k1, k4⟩)
  obtain ⟨A', k1, k2⟩ := lp 4 0 A v w (by omega) hw ⟨hv.1, by show v < 34359738368; omega, hv.2⟩ (EX.refl _ _) h
  exact ⟨A', vc_Row_addSevens _ _ _ ho k1, k2⟩
theorem mw_sev {B : ms} {w : Wt} {v : Int} (hv : 0 ≤ v ∧ v < 2147483648) (hw : 0 ≤ w.1 ∧ w.1 < 900000000) (h : MWt B w) : ∃ B', EV q 316 0 [some (.ref 367), some (vL v), none, none, none] [] B none B' ∧ EX XW B B' ∧ MWt B' (wtSev 4 v w) := by
  have w7 : w64 127 = 127 := by decide
  have lp : ∀ (m i : Nat) (B1 : ms) (u : Int) (w1 : Wt), i + m = 4 → (0 ≤ w1.1 ∧ w1.1 < 900000000 + i) → (0 ≤ u ∧ u < (128 : Int) ^ (m + 1) ∧ u < 2147483648) → EX XW B B1 → MWt B1 w1 → ∃ B', EV q 316 2 [some (.ref 367), some (vL v), none, some (vL u), none] [] B1 none B' ∧ EX XW B B' ∧ MWt B' (wtSev m u w1) := by
    intro m
    induction m with
    | zero =>
      intro i B1 u w1 hi hw1 hu e1 h1
      have hu2 : u < 128 := hu.2.1
      have wu : w64 u = u := w64_of (by omega)
      obtain ⟨B2, k1, k2, k3⟩ := mw_put (q := q) u (by omega) h1
      refine ⟨B2, vc_MD_sevens_2 _ _ ?_, e1.trans k2, k3⟩
      rw [wu, w7]
      exact cY (by omega) ⟨B2, k1, rfl, rfl⟩
    | succ m ih =>
      intro i B1 u w1 hi hw1 hu e1 h1
      have wu : w64 u = u := w64_of (by omega)
      rw [wtSev_s]
      by_cases c : u ≤ 127
      · rw [if_pos c]
        obtain ⟨B2, k1, k2, k3⟩ := mw_put (q := q) u (by omega) h1
        refine ⟨B2, vc_MD_sevens_2 _ _ ?_, e1.trans k2, k3⟩
        rw [wu, w7]
        exact cY c ⟨B2, k1, rfl, rfl⟩
      · rw [if_neg c]
        obtain ⟨B2, k1, k2, k3⟩ := mw_put (q := q) (bO 128 (u % 128)) (by omega) h1
        have hp : u / 128 < (128 : Int) ^ (m + 1) := by
          have e : (128 : Int) ^ (m + 1 + 1) = (128 : Int) ^ (m + 1) * 128 := Int.pow_succ _ _
          have := hu.2.1
          rw [e] at this
          omega
        obtain ⟨B', k4, k5⟩ := ih (i + 1) B2 (u / 128) (wtPut (bO 128 (u % 128)) w1) (by omega) (by rw [wtPut_1]; omega) ⟨by omega, hp, by omega⟩ (e1.trans k2) k3
        refine ⟨B', vc_MD_sevens_2 _ _ ?_, k5⟩
        rw [wu, w7, bO_comm]
        exact cNo c ⟨B2, k1, k4⟩
  obtain ⟨B', k1, k2⟩ := lp 4 0 B v w (by omega) (by omega) ⟨hv.1, by show v < 34359738368; omega, hv.2⟩ (EX.refl _ _) h
  exact ⟨B', vc_MD_sevens _ k1, k2⟩
/-- addSpan(from, begin, end) -/
theorem cw_span {A : ms} {o N a1 n1 : Nat} {w : Wt} {b n : Nat} {g : Nat → Int} (ha : SH a1 = (0, n1, [])) (hb : b + n ≤ n1) (hn1 : n1 < 1000000) (hg : ∀ k : Nat, k < n → (0 ≤ g k ∧ g k < 256) ∧ A.1 a1 (b + k) = g k) (ho : isRow o N) (hN : N < 1000000) (hw : 0 ≤ w.1) (h : CWt A o N w) : ∃ A', EV q 38 0 [some (.ref o), some (.ref a1), some (vI b), some (vI ((b : Int) + n)), none] [] A none A' ∧ EX (XRo o) A A' ∧ CWt A' o N (wtPuts g n w) := by
  have wN : Unit → w32 ((n1 : Nat) : Int) = n1 := fun _ => w32_of (by omega)
  have wb : Unit → w32 ((b : Nat) : Int) = b := fun _ => w32_of (by omega)
  have wbn : Unit → w32 ((b : Int) + n) = (b : Int) + n := fun _ => w32_of (by omega)
  have mn : min ((b : Int) + n) (n1 : Int) - b = n := by omega
  have wn : Unit → w32 ((n : Nat) : Int) = n := fun _ => w32_of (by omega)
  have b0 : ¬ (b : Int) < 0 := by omega
  by_cases c0 : n = 0
  · subst c0
    refine ⟨A, vc_Row_addSpan _ _ _ _ ho _ _ ha ?_, EX.refl _ _, h⟩
    rw [wb (), wbn (), wN (), mn, wn ()]
    exact cNo b0 (cNo (by decide) ⟨rfl, rfl⟩)
  have n0 : 0 < (n : Int) := by omega
  have x1 : XRo o o 1 := Or.inl ⟨rfl, by decide⟩
  have x2 : XRo o o 2 := Or.inl ⟨rfl, by decide⟩
  have crng : 0 ≤ A.1 o 1 ∧ A.1 o 1 ≤ N := by
    by_cases c : w.1 ≤ N
    · have := (h.1 c).1
      omega
    · exact (h.2 (by omega)).2
  obtain ⟨c, ec⟩ : ∃ c, A.1 o 1 = c := ⟨_, rfl⟩
  rw [ec] at crng
  have wc : w32 c = c := w32_of (by omega)
  have wd : w32 ((N : Int) - c) = (N : Int) - c := w32_of (by omega)
  by_cases cf : (n : Int) ≤ (N : Int) - c
  · have run : EV q 38 0 [some (.ref o), some (.ref a1), some (vI b), some (vI ((b : Int) + n)), none] [] A none (wI (wC A (o + 1) c n (fun k => A.1 a1 (b + k))) o 1 (c + n)) := by
      refine vc_Row_addSpan _ _ _ _ ho _ _ ha ?_
      rw [wb (), wbn (), wN (), mn, wn (), ec, wd, wc]
      refine cNo b0 (cY n0 (cY cf ⟨⟨by omega, by omega, by omega, by omega, by omega⟩, fun S2 f2 S3 f3 => ⟨rfl, ?_⟩⟩))
      have e : S2.1 o 1 = c := by rw [f2, wC_ne _ _ _ _ (by omega), ec]
      rw [e] at f3
      subst f2 f3
      rfl
    have exC : EX (XRo o) A (wC A (o + 1) c n (fun k => A.1 a1 (b + k))) := ⟨rfl, fun a k y => wC_ne _ _ _ _ (fun z => y (Or.inr z))⟩
    refine ⟨_, run, exC.wr x1, fun cw => ?_, fun cw => ?_⟩
    · rw [wtPuts_1] at cw
      obtain ⟨e1, e2, e3⟩ := h.1 (by omega)
      have ecw : c = w.1 := by rw [← ec, e1]
      refine ⟨?_, ?_, fun k k0 k1 => ?_⟩
      · rw [rI_I, if_pos ⟨rfl, rfl⟩, wtPuts_1, ecw]
      · rw [rI_I, if_neg (by omega), wC_ne _ _ _ _ (by omega), e2]
      · rw [wtPuts_1] at k1
        rw [rI_I, if_neg (by omega), wtPuts_2]
        by_cases ck : w.1 ≤ k ∧ k < w.1 + n
        · rw [if_pos ck, wC_in _ (by omega) (by omega), ecw]
          have := hg (k - w.1).toNat (by omega)
          rw [show (((k - w.1).toNat : Nat) : Int) = k - w.1 by omega] at this
          rw [this.2]
          have := this.1
          omega
        · rw [if_neg ck]
          show (if o + 1 = o + 1 ∧ c ≤ k ∧ k < c + n then _ else A.1 (o + 1) k) = _
          rw [if_neg (by omega), e3 k k0 (by omega)]
    · rw [wtPuts_1] at cw
      have over : A.1 o 2 = 1 := by
        by_cases cw2 : w.1 ≤ N
        · have := (h.1 cw2).1
          omega
        · exact (h.2 (by omega)).1
      refine ⟨?_, ?_, ?_⟩
      · rw [rI_I, if_neg (by omega), wC_ne _ _ _ _ (by omega), over]
      · rw [rI_I, if_pos ⟨rfl, rfl⟩]
        omega
      · rw [rI_I, if_pos ⟨rfl, rfl⟩]
        omega
  · have run : EV q 38 0 [some (.ref o), some (.ref a1), some (vI b), some (vI ((b : Int) + n)), none] [] A none (wI A o 2 1) := by
      refine vc_Row_addSpan _ _ _ _ ho _ _ ha ?_
      rw [wb (), wbn (), wN (), mn, wn (), ec, wd, wc]
      exact cNo b0 (cY n0 (cNo cf (fun S4 f4 => ⟨rfl, f4.symm⟩)))
    refine ⟨_, run, (EX.refl _ _).wr x2, fun cw => ?_, fun cw => ⟨?_, ?_, ?_⟩⟩
    · rw [wtPuts_1] at cw
      have := (h.1 (by omega)).1
      omega
    · rw [rI_I, if_pos ⟨rfl, rfl⟩]
    · rw [rI_I, if_neg (by omega), ec]
      omega
    · rw [rI_I, if_neg (by omega), ec]
      omega
end Writer
