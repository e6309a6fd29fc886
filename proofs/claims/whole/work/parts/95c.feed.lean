/-! A ROW GROWS; feed on both sides -/
section Feed
variable {q : Nat × (Nat → Int32)} {S : ms} {a b d : Int}
/-- row o has m octets more: those of f, from place p on -/
def RW (S : ms) (o : Nat) (p m : Int) (f : Int → Int) : ms := wI (wC S (o + 1) p m f) o 1 (p + m)
theorem RW_at (o : Nat) (p m : Int) (f : Int → Int) (c : Nat) (k : Int) : (RW S o p m f).1 c k = if c = o ∧ k = 1 then p + m else if c = o + 1 ∧ p ≤ k ∧ k < p + m then f (k - p) else S.1 c k := rfl
theorem RW_0 {o : Nat} {p : Int} (f : Int → Int) (h : S.1 o 1 = p) : RW S o p 0 f = S := by
  have : (RW S o p 0 f).1 = S.1 := by
    funext c k
    rw [RW_at]
    by_cases h1 : c = o ∧ k = 1
    · rw [if_pos h1, h1.1, h1.2, h]
      omega
    · rw [if_neg h1, if_neg (by omega)]
  exact Prod.ext this rfl
theorem RW_s {o : Nat} {p m : Int} (f : Int → Int) (hm : 0 ≤ m) : wI (wI (RW S o p m f) (o + 1) (p + m) (f m)) o 1 (p + m + 1) = RW S o p (m + 1) f := by
  have : (wI (wI (RW S o p m f) (o + 1) (p + m) (f m)) o 1 (p + m + 1)).1 = (RW S o p (m + 1) f).1 := by
    funext c k
    rw [rI_I, rI_I, RW_at, RW_at]
    by_cases h1 : c = o ∧ k = 1
    · rw [if_pos h1, if_pos h1]
      omega
    · rw [if_neg h1, if_neg h1, if_neg h1]
      by_cases h2 : c = o + 1 ∧ k = p + m
      · rw [if_pos h2, if_pos (by omega), h2.2, show p + m - p = m by omega]
      · rw [if_neg h2]
        by_cases h3 : c = o + 1 ∧ p ≤ k ∧ k < p + m
        · rw [if_pos h3, if_pos (by omega)]
        · rw [if_neg h3, if_neg (by omega)]
  exact Prod.ext this rfl
/-- Row.add where there is room -/
theorem row_add {o N : Nat} (ho : isRow o N) (hN : N < 2147483648) {p : Int} (hp : S.1 o 1 = p) (h0 : 0 ≤ p) (h1 : p < N) (v : Int) : EV q 19 0 [some (.ref o), some (vI v)] [] S none (wI (wI S (o + 1) p (v % 256)) o 1 (p + 1)) := by
  have e : w32 p = p := w32_of (by omega)
  have eN : w32 (N : Nat) = (N : Nat) := w32_of (by omega)
  refine vc_Row_add v o N ho ?_
  rw [hp, e, eN]
  refine ⟨fun c => absurd c (by omega), fun _ => ⟨fun _ => ⟨by omega, fun S2 f2 S3 f3 => ⟨rfl, ?_⟩⟩, fun c => absurd h1 c⟩⟩
  subst f2 f3
  rw [rI_I, if_neg (by omega), hp]
theorem row_addW {o N : Nat} (ho : isRow o N) (hN : N < 2147483648) {p m : Int} {f : Int → Int} (h0 : 0 ≤ p) (hm : 0 ≤ m) (h1 : p + m < N) {v : Int} (hv : v % 256 = f m) : EV q 19 0 [some (.ref o), some (vI v)] [] (RW S o p m f) none (RW S o p (m + 1) f) := by
  have := row_add (q := q) (S := RW S o p m f) ho hN (p := p + m) (by rw [RW_at, if_pos ⟨rfl, rfl⟩]) (by omega) h1 v
  rw [hv, RW_s f hm] at this
  exact this
/-- octet i of a long -/
def ocH (v i : Int) : Int := v % 18446744073709551616 / ((2 : Int) ^ ((8 * i) % 64).toNat) % 256
theorem lp_addHigh {o N : Nat} (ho : isRow o N) (hN : N < 2147483648) {p n v : Int} (h0 : 0 ≤ p) (hn : n < 1000) (h1 : p + n ≤ N) : ∀ (t : Nat) (m : Int), 0 ≤ m → m + t = n → EV q 18 5 [some (.ref o), some (vL v), none, some (vI n), some (vI (n - 1 - m))] [] (RW S o p m (fun i => ocH v (n - 1 - i))) none (RW S o p n (fun i => ocH v (n - 1 - i))) := by
  intro t
  induction t with
  | zero =>
    intro m hm ht
    have e : m = n := by omega
    subst e
    refine vc_Row_addHigh_5 _ _ _ o N ho ⟨fun _ => ⟨rfl, rfl⟩, fun c => absurd ?_ c⟩
    rw [w32_of (by omega)]
    omega
  | succ t ih =>
    intro m hm ht
    refine vc_Row_addHigh_5 _ _ _ o N ho ⟨fun c => ?_, fun _ => ⟨_, row_addW ho hN h0 hm (by omega) rfl, ?_⟩⟩
    · rw [w32_of (by omega)] at c
      omega
    · rw [show n - 1 - m - 1 = n - 1 - (m + 1) by omega]
      exact ih (m + 1) (by omega) (by omega)
theorem sp_addHigh {o N : Nat} (ho : isRow o N) (hN : N < 2147483648) {p n v : Int} (hp : S.1 o 1 = p) (h0 : 0 ≤ p) (hn0 : 0 ≤ n) (hn : n < 1000) (h1 : p + n ≤ N) : EV q 18 0 [some (.ref o), some (vL v), none, some (vI n), none] [] S none (RW S o p n (fun i => ocH v (n - 1 - i))) := by
  refine vc_Row_addHigh _ _ o N ho ?_
  have := lp_addHigh (q := q) (S := S) ho hN (v := v) h0 hn h1 n.toNat 0 (by decide) (by omega)
  rw [RW_0 _ hp, Int.sub_zero] at this
  exact this
/-- the reference's TRAY grows -/
def MW (S : ms) (p m : Int) (g : Int → Int) : ms := wI (wC S 368 p m g) 367 2 (p + m)
theorem MW_at (p m : Int) (g : Int → Int) (c : Nat) (k : Int) : (MW S p m g).1 c k = if c = 367 ∧ k = 2 then p + m else if c = 368 ∧ p ≤ k ∧ k < p + m then g (k - p) else S.1 c k := rfl
theorem MW_0 {p : Int} (g : Int → Int) (h : S.1 367 2 = p) : MW S p 0 g = S := by
  have : (MW S p 0 g).1 = S.1 := by
    funext c k
    rw [MW_at]
    by_cases h1 : c = 367 ∧ k = 2
    · rw [if_pos h1, h1.1, h1.2, h]
      omega
    · rw [if_neg h1, if_neg (by omega)]
  exact Prod.ext this rfl
theorem MW_s {p m : Int} (g : Int → Int) (hm : 0 ≤ m) : wI (wI (MW S p m g) 368 (p + m) (g m)) 367 2 (p + m + 1) = MW S p (m + 1) g := by
  have : (wI (wI (MW S p m g) 368 (p + m) (g m)) 367 2 (p + m + 1)).1 = (MW S p (m + 1) g).1 := by
    funext c k
    rw [rI_I, rI_I, MW_at, MW_at]
    by_cases h1 : c = 367 ∧ k = 2
    · rw [if_pos h1, if_pos h1]
      omega
    · rw [if_neg h1, if_neg h1, if_neg h1]
      by_cases h2 : c = 368 ∧ k = p + m
      · rw [if_pos h2, if_pos (by omega), h2.2, show p + m - p = m by omega]
      · rw [if_neg h2]
        by_cases h3 : c = 368 ∧ p ≤ k ∧ k < p + m
        · rw [if_pos h3, if_pos (by omega)]
        · rw [if_neg h3, if_neg (by omega)]
  exact Prod.ext this rfl
def ocM (v i : Int) : Int := b8 (b8 (w64 v / ((2 : Int) ^ ((8 * i) % 64).toNat)))
theorem lp_mdfeed {p n v : Int} (h0 : 0 ≤ p) (hn : n < 1000) (h1 : p + n ≤ 6000) : ∀ (t : Nat) (m : Int), 0 ≤ m → m + t = n → EV q 256 38 [some (.ref 367), some (vL v), none, some (vI n), some (vI (n - 1 - m))] [] (MW S p m (fun i => ocM v (n - 1 - i))) (some (vI (p + n))) (MW S p n (fun i => ocM v (n - 1 - i))) := by
  intro t
  induction t with
  | zero =>
    intro m hm ht
    have e : m = n := by omega
    subst e
    refine vc_MD_feed_38 _ _ _ ⟨fun _ => ⟨by rw [MW_at, if_pos ⟨rfl, rfl⟩], rfl⟩, fun c => absurd ?_ c⟩
    rw [w32_of (by omega)]
    omega
  | succ t ih =>
    intro m hm ht
    have e2 : (MW S p m (fun i => ocM v (n - 1 - i))).1 367 2 = p + m := by rw [MW_at, if_pos ⟨rfl, rfl⟩]
    have e3 : w32 (p + m) = p + m := w32_of (by omega)
    refine vc_MD_feed_38 _ _ _ ⟨fun c => ?_, fun _ => ?_⟩
    · rw [w32_of (by omega)] at c
      omega
    · rw [e2, e3]
      refine ⟨by omega, fun S2 f2 S3 f3 => ?_⟩
      have e4 : S2.1 367 2 = p + m := by
        subst f2
        rw [rI_I, if_neg (by omega), e2]
      rw [e4] at f3
      subst f2 f3
      have := MW_s (S := S) (p := p) (m := m) (fun i => ocM v (n - 1 - i)) hm
      rw [show n - 1 - m - 1 = n - 1 - (m + 1) by omega]
      have key := ih (m + 1) (by omega) (by omega)
      rw [← this] at key
      exact key
theorem RT_0 (h : RT S) : RT (wI S 367 0 0) := by
  obtain ⟨h1, h2, h3⟩ := h
  unfold RT
  rw [r0a 1 1 (by decide), r0 2 (by decide)]
  refine ⟨h1, h2, fun k k1 k2 => ?_⟩
  rw [r0a 2 k (by decide), r0a 368 k (by decide)]
  exact h3 k k1 k2
/-- feed(v, n) -/
theorem op0_ok (hd : -2147483648 ≤ d ∧ d < 2147483648) (h : RT S) : op_0 q a b d S (fun T => T = wI S 367 0 0 ∨ (1 ≤ d ∧ d ≤ 8 ∧ S.1 1 1 + d ≤ 6000 ∧ T = MW (wI (RW S 1 (S.1 1 1) d (fun i => ocH (lO ((w32 a) * 4294967296) ((w32 b) % 4294967296)) (d - 1 - i))) 367 0 0) (S.1 1 1) d (fun i => ocM (lO ((w32 a) * 4294967296) ((w32 b) % 4294967296)) (d - 1 - i)))) := by
  obtain ⟨h1, h2, -⟩ := h
  have ed : w32 d = d := w32_of hd
  have ep : w32 (6000 - S.1 1 1) = 6000 - S.1 1 1 := w32_of (by omega)
  unfold op_0
  generalize lO ((w32 a) * 4294967296) ((w32 b) % 4294967296) = v
  by_cases c : 1 ≤ d ∧ d ≤ 8
  · by_cases c2 : S.1 1 1 + d ≤ 6000
    · have k1 := sp_addHigh (q := q) (S := S) (v := v) (n := d) is_1 (by decide) rfl h1.1 (by omega) (by omega) (by omega)
      refine ⟨S.1 1 1 + d, RW S 1 (S.1 1 1) d (fun i => ocH v (d - 1 - i)), S.1 1 1 + d, _, vc_PH_feed v d ?_, vc_MD_feed v d (fun S1 f => ?_), rfl, Or.inr ⟨c.1, c.2, c2, rfl⟩⟩
      · rw [ed, ep]
        exact ⟨fun n => absurd n (by omega), fun _ => ⟨fun _ => ⟨fun _ => ⟨_, k1, by rw [RW_at, if_pos ⟨rfl, rfl⟩], rfl⟩, fun n => absurd (by omega) n⟩, fun n => absurd c.2 n⟩⟩
      · subst f
        have e2 : (wI (RW S 1 (S.1 1 1) d (fun i => ocH v (d - 1 - i))) 367 0 0).1 367 2 = S.1 1 1 := by
          rw [r0 2 (by decide), RW_at, if_neg (by omega), if_neg (by omega), h2]
        have key := lp_mdfeed (q := q) (S := wI (RW S 1 (S.1 1 1) d (fun i => ocH v (d - 1 - i))) 367 0 0) (v := v) (n := d) h1.1 (by omega) c2 d.toNat 0 (by decide) (by omega)
        rw [MW_0 _ e2, Int.sub_zero] at key
        refine ⟨1, _, md_in1 (by rw [ed]; exact c.1) (by rw [ed]; exact c.2), fun _ => ?_, fun n => absurd (by decide) n⟩
        rw [e2, w32_of (by omega)]
        exact ⟨fun _ => key, fun n => absurd c2 n⟩
    · refine ⟨-4, S, -4, wI S 367 0 0, vc_PH_feed v d ?_, vc_MD_feed v d (fun S1 f => ?_), rfl, Or.inl rfl⟩
      · rw [ed, ep]
        exact ⟨fun n => absurd n (by omega), fun _ => ⟨fun _ => ⟨fun n => absurd n (by omega), fun _ => ⟨rfl, rfl⟩⟩, fun n => absurd c.2 n⟩⟩
      · subst f
        refine ⟨1, _, md_in1 (by rw [ed]; exact c.1) (by rw [ed]; exact c.2), fun _ => ?_, fun n => absurd (by decide) n⟩
        rw [r0 2 (by decide), h2, w32_of (by omega)]
        exact ⟨fun n => absurd n (by omega), fun _ => ⟨rfl, rfl⟩⟩
  · refine ⟨-2, S, -2, wI S 367 0 0, vc_PH_feed v d ?_, vc_MD_feed v d (fun S1 f => ?_), rfl, Or.inl rfl⟩
    · rw [ed]
      exact ⟨fun _ => ⟨rfl, rfl⟩, fun n1 => ⟨fun n2 => absurd ⟨by omega, n2⟩ c, fun _ => ⟨rfl, rfl⟩⟩⟩
    · subst f
      exact ⟨0, _, md_in0 (by rw [ed]; show d < 1 ∨ 8 < d; omega), fun n => absurd rfl n, fun _ => ⟨rfl, rfl⟩⟩
end Feed
