/-! repair: the class makes and turns the matrix -/
section Matrix2
variable {q : Nat × (Nat → Int32)} {S T : ms} {n : Nat}
def fMx (mi ch : Nat → Nat) (r c : Nat) : Int := fF (mi c) (ch r)
theorem fMx_rg (mi ch : Nat → Nat) : ∀ r c, 0 ≤ fMx mi ch r c ∧ fMx mi ch r c < 256 := fun _ _ => fF_rg _ _
theorem lp_ti1 {mi ch : Nat → Nat} {r : Nat} (hr : r < n) (hn : n ≤ 16) (h5 : S.1 173 5 = n) (hmi : ∀ c, c < n → mi c < 32 ∧ S.1 178 c = mi c) (hch : ∀ r, r < n → ch r < 16 ∧ S.1 179 r = ch r) (hR : RG S) {rr : Option Value} {P : ms → Prop} (nx : ∀ T, MT S T n (fun a c => if a < r + 1 then mE0 (fMx mi ch) n a c else 0) → ∃ T', EV q 236 10 [some (.ref 173), some (vI ((r : Int) + 1)), none, none, none, none] [] T rr T' ∧ P T') : ∀ (t c : Nat) (T : ms), c + t = n → MT S T n (fun a e => if a < r then mE0 (fMx mi ch) n a e else if a = r ∧ e < c then fMx mi ch r e else 0) → ∃ T', EV q 236 20 [some (.ref 173), some (vI r), some (vI c), none, none, none] [] T rr T' ∧ P T' := by
  intro t
  induction t with
  | zero =>
    intro c T hc hT
    have e : c = n := by omega
    subst e
    have z1 : 0 ≤ (r : Int) * 32 + 16 + r ∧ (r : Int) * 32 + 16 + r < (512 : Nat) := by omega
    have ei : (r : Int) * 32 + 16 + r = (r : Int) * 32 + ((16 + r : Nat) : Int) := by omega
    obtain ⟨T', k1, k2⟩ := nx (wI T 181 (r * 32 + ((16 + r : Nat) : Int)) 1) (MT_w hT hr (by omega) (by
      show (if r < r + 1 then mE0 (fMx mi ch) c r (16 + r) else 0) = 1
      rw [if_pos (by omega)]
      unfold mE0
      rw [if_neg (by omega), if_pos rfl]) (fun a e ha he hne => by
      show (if a < r + 1 then mE0 (fMx mi ch) c a e else 0) = if a < r then mE0 (fMx mi ch) c a e else if a = r ∧ e < c then fMx mi ch r e else 0
      by_cases y : a < r
      · rw [if_pos y, if_pos (by omega)]
      · rw [if_neg y]
        by_cases y2 : a = r
        · rw [if_pos (by omega), y2]
          unfold mE0
          by_cases y3 : e < c
          · rw [if_pos y3, if_pos ⟨rfl, y3⟩]
          · rw [if_neg y3, if_neg (by omega), if_neg (fun z => y3 z.2)]
        · rw [if_neg (by omega), if_neg (fun z => y2 z.1)]))
    have wx : Unit → w32 ((r : Int) * 32 + 16 + r) = r * 32 + 16 + r := fun _ => w32_of (by omega)
    refine ⟨T', vc_Parts_turnMatrix_20 _ _ ?_, k2⟩
    rw [hT.2.1 173 5 (by decide), h5, wx (), ei]
    refine ⟨fun _ => ⟨by rw [← ei]; exact z1, fun S2 f => ?_⟩, fun n => absurd (Int.le_refl _) n⟩
    subst f
    exact k1
  | succ t ih =>
    intro c T hc hT
    have z0 : ¬ (n : Int) ≤ c := by omega
    have z1 : 0 ≤ (c : Int) ∧ (c : Int) < (32 : Nat) := by omega
    have z2 : 0 ≤ (r : Int) ∧ (r : Int) < (16 : Nat) := by omega
    have z3 : 0 ≤ (r : Int) * 32 + c ∧ (r : Int) * 32 + c < (512 : Nat) := by omega
    have ek : (c : Int) + 1 = ((c + 1 : Nat) : Int) := by omega
    obtain ⟨m1, m2⟩ := hmi c (by omega)
    obtain ⟨c1, c2⟩ := hch r hr
    have hRT : RG T := RG_cg hR (fun a k h => hT.2.1 a k (by omega))
    have fc := sp_cfac (q := q) hRT m1 c1
    obtain ⟨T', k1, k2⟩ := ih (c + 1) (wI T 181 (r * 32 + c) (fMx mi ch r c)) (by omega) (MT_w hT hr (by omega) (by
      show (if r < r then mE0 (fMx mi ch) n r c else if r = r ∧ c < c + 1 then fMx mi ch r c else 0) = fMx mi ch r c
      rw [if_neg (by omega), if_pos ⟨rfl, by omega⟩]) (fun a e ha he hne => by
      show (if a < r then mE0 (fMx mi ch) n a e else if a = r ∧ e < c + 1 then fMx mi ch r e else 0) = if a < r then mE0 (fMx mi ch) n a e else if a = r ∧ e < c then fMx mi ch r e else 0
      by_cases y : a < r
      · rw [if_pos y, if_pos y]
      · rw [if_neg y, if_neg y]
        by_cases y2 : a = r ∧ e < c
        · rw [if_pos y2, if_pos (by omega)]
        · rw [if_neg y2, if_neg (by omega)]))
    have wn : Unit → w32 (n : Int) = n := fun _ => w32_of (by omega)
    have wc : Unit → w32 (c : Int) = c := fun _ => w32_of (by omega)
    have wr : Unit → w32 (r : Int) = r := fun _ => w32_of (by omega)
    have wx : Unit → w32 ((r : Int) * 32 + c) = r * 32 + c := fun _ => w32_of (by omega)
    refine ⟨T', vc_Parts_turnMatrix_20 _ _ ?_, k2⟩
    rw [hT.2.1 173 5 (by decide), h5, wn (), wc (), wr (), wx (), hT.2.1 178 _ (by decide), m2, hT.2.1 179 _ (by decide), c2, ek]
    refine ⟨fun n => absurd n z0, fun _ => ⟨z1, z2, _, T, fc, z3, fun S9 f => ?_⟩⟩
    subst f
    exact k1
theorem lp_ti2 {mi ch : Nat → Nat} (hn : n ≤ 16) (h5 : S.1 173 5 = n) (hmi : ∀ c, c < n → mi c < 32 ∧ S.1 178 c = mi c) (hch : ∀ r, r < n → ch r < 16 ∧ S.1 179 r = ch r) (hR : RG S) {rr : Option Value} {P : ms → Prop} (nx : ∀ T, MT S T n (mE0 (fMx mi ch) n) → ∃ T', EV q 236 84 [some (.ref 173), some (vI 0), none, none, none, none] [] T rr T' ∧ P T') : ∀ (t r : Nat) (T : ms), r + t = n → MT S T n (fun a c => if a < r then mE0 (fMx mi ch) n a c else 0) → ∃ T', EV q 236 10 [some (.ref 173), some (vI r), none, none, none, none] [] T rr T' ∧ P T' := by
  intro t
  induction t with
  | zero =>
    intro r T hr hT
    have e : r = n := by omega
    subst e
    obtain ⟨T', k1, k2⟩ := nx T ⟨hT.1, hT.2.1, fun a c ha hc => by rw [hT.2.2 a c ha hc]; exact if_pos ha⟩
    refine ⟨T', vc_Parts_turnMatrix_10 _ ?_, k2⟩
    rw [hT.2.1 173 5 (by decide), h5]
    exact ⟨fun _ => k1, fun n => absurd (Int.le_refl _) n⟩
  | succ t ih =>
    intro r T hr hT
    have z0 : ¬ (n : Int) ≤ r := by omega
    have ek : (r : Int) + 1 = ((r + 1 : Nat) : Int) := by omega
    obtain ⟨T', k1, k2⟩ := lp_ti1 (q := q) (S := S) (n := n) (mi := mi) (ch := ch) (r := r) (rr := rr) (P := P) (by omega) hn h5 hmi hch hR (fun U hU => by
      rw [ek]
      exact ih (r + 1) U (by omega) hU) n 0 T (by omega) ⟨hT.1, hT.2.1, fun a c ha hc => by
        rw [hT.2.2 a c ha hc]
        show (if a < r then mE0 (fMx mi ch) n a c else 0) = if a < r then mE0 (fMx mi ch) n a c else if a = r ∧ c < 0 then fMx mi ch r c else 0
        rw [if_neg (show ¬ (a = r ∧ c < 0) by omega)]⟩
    have wn : Unit → w32 (n : Int) = n := fun _ => w32_of (by omega)
    have wr : Unit → w32 (r : Int) = r := fun _ => w32_of (by omega)
    refine ⟨T', vc_Parts_turnMatrix_10 _ ?_, k2⟩
    rw [hT.2.1 173 5 (by decide), h5, wn (), wr ()]
    exact ⟨fun n => absurd n z0, fun _ => k1⟩
/-- turnMatrix -/
theorem sp_turn {mi ch : Nat → Nat} (hn : n ≤ 16) (h5 : S.1 173 5 = n) (hmi : ∀ c, c < n → mi c < 32 ∧ S.1 178 c = mi c) (hch : ∀ r, r < n → ch r < 16 ∧ S.1 179 r = ch r) (hR : RG S) (hpv : ∀ k, k < n → mE (fMx mi ch) n k k k ≠ 0) : ∃ T', EV q 236 0 [some (.ref 173), none, none, none, none, none] [] S none T' ∧ MT S T' n (mE (fMx mi ch) n n) := by
  have kf := sp_fillI (q := q) (S := S) (c := 181) (n1 := 512) rfl (by decide) 0
  obtain ⟨T', k1, k2⟩ := lp_ti2 (q := q) (S := S) (n := n) (mi := mi) (ch := ch) (rr := none) (P := fun T' => MT S T' n (mE (fMx mi ch) n n)) hn h5 hmi hch hR (fun U hU => lp_tm4 (q := q) (S := S) (f := fMx mi ch) (fMx_rg mi ch) hn h5 hpv hR n 0 U (by omega) hU) n 0 (wC S 181 0 (512 : Nat) (fun _ => 0)) (by omega) ⟨rfl, fun a k ha => wC_ne _ _ _ _ ha, fun a c ha hc => by
    rw [wC_in (f := fun _ => 0) (by omega) (by omega)]
    exact (if_neg (by omega)).symm⟩
  exact ⟨T', vc_Parts_turnMatrix ⟨_, kf, k1⟩, k2⟩
/-- the reference's columns -/
def cm (n b : Nat) : Nat := if b < n then b else 16 + (b - n)
theorem ix_inj {w r b r' b' : Nat} (hb : b < w) (hb' : b' < w) (h : (r : Int) * (w : Int) + b = r' * w + b') : r = r' ∧ b = b' := by
  have h1 : r * w + b = r' * w + b' := by
    have e1 : ((r * w + b : Nat) : Int) = (r : Int) * w + b := by rw [Int.natCast_add, Int.natCast_mul]
    have e2 : ((r' * w + b' : Nat) : Int) = (r' : Int) * w + b' := by rw [Int.natCast_add, Int.natCast_mul]
    omega
  have d1 : (r * w + b) / w = r := by rw [Nat.mul_comm, Nat.mul_add_div (by omega), Nat.div_eq_of_lt hb, Nat.add_zero]
  have d2 : (r' * w + b') / w = r' := by rw [Nat.mul_comm, Nat.mul_add_div (by omega), Nat.div_eq_of_lt hb', Nat.add_zero]
  have e : r = r' := by rw [← d1, ← d2, h1]
  subst e
  exact ⟨rfl, by omega⟩
theorem ix_rg {n r b : Nat} (hn : n ≤ 16) (hr : r < n) (hb : b < 2 * n) : 0 ≤ (r : Int) * (2 * n) + b ∧ (r : Int) * (2 * n) + b < (512 : Nat) := by
  have h1 : (r : Int) * (2 * n) ≤ 15 * (2 * n) := Int.mul_le_mul_of_nonneg_right (by omega) (by omega)
  have h2 : 0 ≤ (r : Int) * (2 * n) := Int.mul_nonneg (by omega) (by omega)
  omega
/-- the reference's matrix -/
def MM (S T : ms) (n : Nat) (G : Nat → Nat → Int) : Prop := T.2 = S.2 ∧ (∀ (a : Nat) (k : Int), a ≠ 443 → T.1 a k = S.1 a k) ∧ ∀ r b : Nat, r < n → b < 2 * n → T.1 443 (r * (2 * n) + b) = G r b
theorem MM_w {G G' : Nat → Nat → Int} {i e : Nat} {v p : Int} (h : MM S T n G) (hp : p = i * (2 * n) + e) (he : e < 2 * n) (hv : i < n → G' i e = v) (ho : ∀ r c, r < n → c < 2 * n → ¬ (r = i ∧ c = e) → G' r c = G r c) : MM S (wI T 443 p v) n G' := by
  subst hp
  refine ⟨h.1, fun a k ha => by rw [rI_I, if_neg (fun z => ha z.1), h.2.1 a k ha], fun r c hr hc => ?_⟩
  rw [rI_I]
  by_cases y : r = i ∧ c = e
  · rw [if_pos ⟨rfl, by rw [y.1, y.2]⟩, y.1, y.2, hv (by omega)]
  · have ne : ¬ ((443 : Nat) = 443 ∧ (r : Int) * (2 * n) + c = i * (2 * n) + e) := fun z => y (ix_inj (w := 2 * n) hc he (by
      have := z.2
      rw [Int.natCast_mul]
      exact this))
    rw [if_neg ne, h.2.2 r c hr hc, ho r c hr hc y]
end Matrix2
