/-! write: BENCH; figures of both bases -/
section WrG
variable {q : Nat × (Nat → Int32)} {b v : Int} {m : Nat} {w : Wt}
/-- m figures -/
def NdF (b v : Int) (m : Nat) : Prop := 1 ≤ m ∧ (∀ j : Nat, 1 ≤ j → j < m → b ^ j ≤ v) ∧ v < b ^ m
def dgF (b v : Int) (m k : Nat) : Int := 48 + v / b ^ (m - 1 - k) % b
theorem dgF_r (hb : b = 8 ∨ b = 10) (v : Int) (m k : Nat) : 48 ≤ dgF b v m k ∧ dgF b v m k < 58 := by
  unfold dgF
  rcases hb with e | e <;> subst e <;> omega
theorem pb_p (hb : b = 8 ∨ b = 10) (j : Nat) : 0 < b ^ j := Int.pow_pos (by omega)
theorem pb_s (b : Int) (j : Nat) : b ^ (j + 1) = b ^ j * b := Int.pow_succ b j
theorem pb_m (hb : b = 8 ∨ b = 10) (j : Nat) : ∀ d : Nat, b ^ j ≤ b ^ (j + d)
  | 0 => Int.le_refl _
  | d + 1 => by
    have i := pb_m hb j d
    have p := pb_p hb (j + d)
    rw [show j + (d + 1) = j + d + 1 from rfl, pb_s]
    rcases hb with e | e <;> rw [e] at i p ⊢ <;> omega
theorem Nd_ex (hb : b = 8 ∨ b = 10) : ∀ N : Nat, v < b ^ (N + 1) → ∃ m : Nat, NdF b v m ∧ m ≤ N + 1
  | 0, h => ⟨1, ⟨Nat.le_refl _, fun j h1 h2 => absurd h2 (by omega), h⟩, Nat.le_refl _⟩
  | N + 1, h => by
    by_cases c : v < b ^ (N + 1)
    · obtain ⟨m, h1, h2⟩ := Nd_ex hb N c
      exact ⟨m, h1, by omega⟩
    · refine ⟨N + 2, ⟨by omega, fun j h1 h2 => ?_, h⟩, Nat.le_refl _⟩
      have := pb_m hb j (N + 1 - j)
      rw [show j + (N + 1 - j) = N + 1 by omega] at this
      omega
theorem dv_lt {x p : Int} (hp : 0 < p) (h0 : 0 ≤ x) (h : x < p) : x / p = 0 := Int.ediv_eq_zero_of_lt h0 h
theorem dv_ge {x p : Int} (hp : 0 < p) (h : p ≤ x) : 1 ≤ x / p := by
  have := Int.ediv_le_ediv hp h
  rw [Int.ediv_self (by omega)] at this
  exact this
theorem cl_fg22 {sh : Nat} {p x3 : Int} {A : ms} (hs : isShelf sh) (hb : b = 8 ∨ b = 10) (hv : 0 ≤ v ∧ v < 2147483648) (hm : NdF b v m) (hm2 : m ≤ 11) {R : Option Value} {S' : ms} : ∀ (r j : Nat), j + r = m → 1 ≤ j → EV q 189 49 [some (.ref sh), some (vI p), some (vI v), some (vI x3), some (vI b), some (vI m), some (vI v), some (vI ((m : Int) - 1))] [] A R S' → EV q 189 22 [some (.ref sh), some (vI p), some (vI v), some (vI x3), some (vI b), some (vI j), some (vI (v / b ^ j)), none] [] A R S' := by
  intro r
  have wb : w32 b = b := w32_of (by omega)
  induction r with
  | zero =>
    intro j hj h1 k
    have e : j = m := by omega
    subst e
    refine vc_Shelf_figuresIn_22 _ _ _ _ _ _ _ hs ?_
    rw [dv_lt (pb_p hb j) hv.1 hm.2.2]
    exact cY (by decide) k
  | succ r ih =>
    intro j hj h1 k
    have g := ih (j + 1) (by omega) (by omega) k
    have p1 := pb_p hb j
    have d1 := dv_ge p1 (hm.2.1 j h1 (by omega))
    have d2 := Int.ediv_le_self (b ^ j) hv.1
    obtain ⟨z, ez⟩ : ∃ z, z = v / b ^ j := ⟨_, rfl⟩
    have e2 : v / b ^ (j + 1) = Int.tdiv z b := by rw [pb_s, ez, Int.tdiv_eq_ediv_of_nonneg (by omega), Int.ediv_ediv_of_nonneg (by omega)]
    rw [e2, show ((j + 1 : Nat) : Int) = (j : Int) + 1 by omega] at g
    refine vc_Shelf_figuresIn_22 _ _ _ _ _ _ _ hs ?_
    rw [← ez] at d1 d2 ⊢
    rw [w32_of (x := z) (by omega), wb]
    exact cNo (by omega) ⟨by omega, g⟩
theorem cl_fg49 {sh p : Nat} {x3 : Int} (hs : isShelf sh) (hb : b = 8 ∨ b = 10) (hv : 0 ≤ v ∧ v < 2147483648) (hm2 : m ≤ 11) (hp : p + m ≤ 512) : ∀ (i : Nat) (A : ms), i ≤ m → (∀ k : Nat, i ≤ k → k < m → A.1 (sh + 7) ((p : Int) + k) = dgF b v m k) → ∃ A', EX (fun a k => a = sh + 7 ∧ (p : Int) ≤ k ∧ k < (p : Int) + m) A A' ∧ (∀ k : Nat, k < m → A'.1 (sh + 7) ((p : Int) + k) = dgF b v m k) ∧ EV q 189 49 [some (.ref sh), some (vI p), some (vI v), some (vI x3), some (vI b), some (vI m), some (vI (v / b ^ (m - i))), some (vI ((i : Int) - 1))] [] A none A' := by
  have wb : w32 b = b := w32_of (by omega)
  intro i
  induction i with
  | zero =>
    intro A hi h
    exact ⟨A, EX.refl _ A, fun k hk => h k (by omega) hk, vc_Shelf_figuresIn_49 _ _ _ _ _ _ _ _ hs (cY (by decide) ⟨rfl, rfl⟩)⟩
  | succ i ih =>
    intro A hi h
    obtain ⟨z, ez⟩ : ∃ z : Int, z = v / b ^ (m - (i + 1)) := ⟨_, rfl⟩
    have p1 := pb_p hb (m - (i + 1))
    have dn : 0 ≤ z ∧ z ≤ v := by rw [ez]; exact ⟨Int.ediv_nonneg hv.1 (by omega), Int.ediv_le_self _ hv.1⟩
    have ef : dgF b v m i = 48 + z % b := by unfold dgF; rw [ez, show m - 1 - i = m - (i + 1) by omega]
    obtain ⟨A', g1, g2, g3⟩ := ih (wI A (sh + 7) ((p : Int) + i) (dgF b v m i)) (by omega) (fun k h1 h2 => by
      by_cases e : k = i
      · rw [e, wI_at]
      · rw [wI_no _ (by omega)]
        exact h k (by omega) h2)
    refine ⟨A', ((EX.refl _ A).wr (by omega)).trans g1, g2, vc_Shelf_figuresIn_49 _ _ _ _ _ _ _ _ hs ?_⟩
    rw [← ez, show ((i + 1 : Nat) : Int) - 1 = i by omega, show w32 (i : Int) = i from w32_of (by omega), w32_of (x := (p : Int) + i) (by omega), w32_of (x := z) (by omega), wb, Int.tmod_eq_emod_of_nonneg dn.1, ← ef]
    refine cNo (by omega) ⟨by omega, by omega, fun S2 q2 => ⟨by omega, ?_⟩⟩
    have e2 : Int.tdiv z b = v / b ^ (m - i) := by
      rw [show m - i = m - (i + 1) + 1 by omega, pb_s, Int.tdiv_eq_ediv_of_nonneg dn.1, ez, Int.ediv_ediv_of_nonneg (by omega)]
    rw [q2, e2]
    exact g3
theorem cl_figW {sh p : Nat} {c : Int → Int} {A : ms} {fl : Int} (hs : isShelf sh) (hb : (b = 8 ∧ fl = 0) ∨ (b = 10 ∧ fl = 1)) (hv : 0 ≤ v ∧ v < 2147483648) (hm : NdF b v m) (hm2 : m ≤ 11) (hp : p + m ≤ 512) (hc : ∀ k : Int, 0 ≤ k → k < 512 → A.1 (sh + 7) k = c k) : ∃ A', EX (fun a _ => a = sh + 7) A A' ∧ (∀ k : Int, 0 ≤ k → k < 512 → A'.1 (sh + 7) k = cW p m (dgF b v m) c k) ∧ EV q 189 0 [some (.ref sh), some (vI p), some (vI v), some (vI fl), none, none, none, none] [] A none A' := by
  have hb' : b = 8 ∨ b = 10 := by omega
  have wb : w32 b = b := w32_of (by omega)
  obtain ⟨A', g1, g2, g3⟩ := cl_fg49 (q := q) (x3 := fl) (p := p) hs hb' hv hm2 hp m A (Nat.le_refl _) (fun k h1 h2 => absurd h2 (by omega))
  refine ⟨A', g1.mono (fun a k y => y.1), fun k k0 k1 => ?_, ?_⟩
  · by_cases d : (p : Int) ≤ k ∧ k < (p : Int) + m
    · rw [cW_y d]
      have := g2 (k - p).toNat (by omega)
      rw [show (p : Int) + ((k - p).toNat : Nat) = k by omega] at this
      exact this
    · rw [cW_n d, g1.2 _ _ (fun z => d z.2)]
      exact hc k k0 k1
  · rw [show m - m = 0 by omega, Int.pow_zero b, Int.ediv_one] at g3
    have k22 := cl_fg22 (q := q) (A := A) (p := p) (x3 := fl) hs hb' hv hm hm2 (m - 1) 1 (by have := hm.1; omega) (Nat.le_refl _) g3
    rw [show b ^ 1 = b by rw [show (1 : Nat) = 0 + 1 from rfl, pb_s, Int.pow_zero, Int.one_mul]] at k22
    have k11 : EV q 189 11 [some (.ref sh), some (vI p), some (vI v), some (vI fl), none, none, none, none] [vI b] A none A' := by
      refine vc_Shelf_figuresIn_11 _ _ _ _ _ hs ?_
      rw [wb, w32_of (x := v) (by omega), Int.tdiv_eq_ediv_of_nonneg hv.1]
      exact ⟨by omega, k22⟩
    refine vc_Shelf_figuresIn _ _ _ _ hs ?_
    rcases hb with ⟨e1, e2⟩ | ⟨e1, e2⟩
    · rw [e1] at k11
      rw [e2] at k11 ⊢
      exact cY (by decide) k11
    · rw [e1] at k11
      rw [e2] at k11 ⊢
      exact cNo (by decide) k11
/-- tens: the reference -/
theorem md_t9 {B : ms} {x4 x5 : Int} (hb : b = 8 ∨ b = 10) (hv : 0 ≤ v ∧ v < 2147483648) (hm : NdF b v m) (hm2 : m ≤ 11) {R : Option Value} {S' : ms} : ∀ (r j : Nat), j + r + 1 = m → EV q 389 29 [some (.ref 367), some (vL v), none, some (vI b), some (vI x4), some (vI x5), some (vL (b ^ (m - 1))), none] [] B R S' → EV q 389 9 [some (.ref 367), some (vL v), none, some (vI b), some (vI x4), some (vI x5), some (vL (b ^ j)), none] [] B R S' := by
  have wb : w64 (w32 b) = b := by rcases hb with e | e <;> subst e <;> decide
  have wb2 : w32 b = b := w32_of (by omega)
  have big : ∀ j : Nat, j < m → b ^ j < 100000000000 := fun j hj => by
    have a := pb_m hb j (10 - j)
    rw [show j + (10 - j) = 10 by omega] at a
    have : b ^ 10 < 100000000000 := by rcases hb with e | e <;> subst e <;> decide
    omega
  intro r
  induction r with
  | zero =>
    intro j hj k
    have p1 := pb_p hb j
    have p2 := big j (by omega)
    have d0 : 0 ≤ v / b ^ j ∧ v / b ^ j ≤ v := ⟨Int.ediv_nonneg hv.1 (by omega), Int.ediv_le_self _ hv.1⟩
    have lt : v / b ^ j < b := by
      apply Int.ediv_lt_of_lt_mul p1
      have := hm.2.2
      rw [show m = j + 1 by omega, pb_s, Int.mul_comm] at this
      exact this
    rw [show m - 1 = j by omega] at k
    refine vc_MD_tens_9 _ _ _ _ _ ?_
    rw [wb, w64_of (x := b ^ j) (by omega), w64_of (x := v) (by omega), Int.tdiv_eq_ediv_of_nonneg hv.1, w64_of (x := v / b ^ j) (by omega)]
    exact ⟨by omega, cY lt k⟩
  | succ r ih =>
    intro j hj k
    have g := ih (j + 1) (by omega) k
    have p1 := pb_p hb j
    have p2 := big j (by omega)
    have d0 : 0 ≤ v / b ^ j ∧ v / b ^ j ≤ v := ⟨Int.ediv_nonneg hv.1 (by omega), Int.ediv_le_self _ hv.1⟩
    have ge : b ≤ v / b ^ j := by
      apply Int.le_ediv_of_mul_le p1
      have := hm.2.1 (j + 1) (by omega) (by omega)
      rw [pb_s, Int.mul_comm] at this
      exact this
    refine vc_MD_tens_9 _ _ _ _ _ ?_
    rw [wb, w64_of (x := b ^ j) (by omega), w64_of (x := v) (by omega), Int.tdiv_eq_ediv_of_nonneg hv.1, w64_of (x := v / b ^ j) (by omega), wb2]
    rw [pb_s] at g
    exact ⟨by omega, cNo (by omega) g⟩
theorem md_t29 {F : Nat → Int} {i n : Nat} (hb : b = 8 ∨ b = 10) (hv : 0 ≤ v ∧ v < 2147483648) (hm : 1 ≤ m ∧ m ≤ 11) (hn : m ≤ n ∧ n ≤ 100) (hi : i ≤ 1000) (hw : 0 ≤ w.1 ∧ w.1 ≤ 20000) (H1 : ∀ k : Nat, k < m → dgF b v m k % 256 = F (i + k) % 256) (H2 : ∀ k : Nat, m ≤ k → k < n → 32 % 256 = F (i + k) % 256) : ∀ (r j : Nat) (B : ms), j + r = m → MWt B (wtPuts F (i + j) w) → ∃ B', EX XW B B' ∧ MWt B' (wtPuts F (i + n) w) ∧ ∀ by' : Int, (j < m → by' = b ^ (m - 1 - j)) → (j = m → by' = 0) → EV q 389 29 [some (.ref 367), some (vL v), none, some (vI b), some (vI n), some (vI (w.1 + i)), some (vL by'), none] [] B none B' := by
  have wb : w64 (w32 b) = b := by rcases hb with e | e <;> subst e <;> decide
  have big : ∀ j : Nat, j < m → b ^ j < 100000000000 := fun j hj => by
    have a := pb_m hb j (10 - j)
    rw [show j + (10 - j) = 10 by omega] at a
    have : b ^ 10 < 100000000000 := by rcases hb with e | e <;> subst e <;> decide
    omega
  intro r
  induction r with
  | zero =>
    intro j B hj h
    have e : j = m := by omega
    subst e
    obtain ⟨B', k1, k2, k3⟩ := md_segF (q := q) (v := 32) (m := n - j) hw (by omega) (fun k hk => by
      have := H2 (j + k) (by omega) (by omega)
      rw [show i + j + k = i + (j + k) by omega]
      exact this) h
    rw [show i + j + (n - j) = i + n by omega] at k2 k3
    refine ⟨B', k1, k2, fun by' _ h0 => vc_MD_tens_29 _ _ _ _ _ ?_⟩
    rw [h0 rfl]
    exact cY (by decide) ⟨B', k3 _ (by omega), rfl, rfl⟩
  | succ r ih =>
    intro j B hj h
    obtain ⟨P, eP⟩ : ∃ P : Int, P = b ^ (m - 1 - j) := ⟨_, rfl⟩
    have p1 := pb_p hb (m - 1 - j)
    have p2 := big (m - 1 - j) (by omega)
    rw [← eP] at p1 p2
    have d0 : 0 ≤ v / P ∧ v / P ≤ v := ⟨Int.ediv_nonneg hv.1 (by omega), Int.ediv_le_self _ hv.1⟩
    have ef : dgF b v m j = 48 + v / P % b := by unfold dgF; rw [eP]
    obtain ⟨B1, k1, k2, k3⟩ := md_segP (q := q) (v := dgF b v m j) (i := i + j) hw (by omega) (H1 j (by omega)) h
    obtain ⟨B', g1, g2, g3⟩ := ih (j + 1) B1 (by omega) k2
    refine ⟨B', k1.trans g1, g2, fun by' hb' _ => vc_MD_tens_29 _ _ _ _ _ ?_⟩
    have hbP : by' = P := by rw [eP]; exact hb' (by omega)
    have bb : 0 < b := by omega
    rw [hbP, wb, w64_of (x := P) (by omega), w64_of (x := v) (by omega), Int.tdiv_eq_ediv_of_nonneg hv.1, w64_of (x := v / P) (by omega), Int.tmod_eq_emod_of_nonneg d0.1, show w64 0 = 0 by decide, ← ef]
    refine cNo (by omega) ⟨by omega, by omega, B1, k3, by omega, g3 _ (fun hlt => ?_) (fun he => ?_)⟩
    · have e1 : m - 1 - j = m - 1 - (j + 1) + 1 := by omega
      rw [Int.tdiv_eq_ediv_of_nonneg (by omega), eP, e1, pb_s, Int.mul_ediv_cancel _ (by omega)]
    · rw [Int.tdiv_eq_ediv_of_nonneg (by omega), eP, show m - 1 - j = 0 by omega, Int.pow_zero b]
      exact dv_lt bb (by decide) (by omega)
theorem md_segT {F : Nat → Int} {i n : Nat} {B : ms} (hb : b = 8 ∨ b = 10) (hv : 0 ≤ v ∧ v < 2147483648) (hm : NdF b v m) (hm2 : m ≤ 11) (hn : m ≤ n ∧ n ≤ 100) (hi : i ≤ 1000) (hw : 0 ≤ w.1 ∧ w.1 ≤ 20000) (H1 : ∀ k : Nat, k < m → dgF b v m k % 256 = F (i + k) % 256) (H2 : ∀ k : Nat, m ≤ k → k < n → 32 % 256 = F (i + k) % 256) (h : MWt B (wtPuts F i w)) : ∃ B', EX XW B B' ∧ MWt B' (wtPuts F (i + n) w) ∧ EV q 389 0 [some (.ref 367), some (vL v), none, some (vI b), some (vI n), none, none, none] [] B none B' := by
  have m1 := hm.1
  obtain ⟨B', g1, g2, g3⟩ := md_t29 (q := q) (b := b) (v := v) (m := m) hb hv ⟨hm.1, hm2⟩ hn hi hw H1 H2 m 0 B (by omega) h
  refine ⟨B', g1, g2, vc_MD_tens _ _ _ ?_⟩
  rw [h.1, wtPuts_1]
  have k9 := md_t9 (q := q) (B := B) (x4 := n) (x5 := w.1 + i) hb hv hm hm2 (m - 1) 0 (by omega) (g3 _ (fun _ => by rw [show m - 1 - 0 = m - 1 by omega]) (fun he => absurd he (by omega)))
  rw [Int.pow_zero] at k9
  exact k9
end WrG
