/-! name on both sides; part, lose, spoil -/
section Name
variable {q : Nat × (Nat → Int32)} {S : ms} {a b d : Int}
theorem oc_eq {v i : Int} (h0 : 0 ≤ i) (h7 : i ≤ 7) : w64 v / ((2 : Int) ^ ((8 * i) % 64).toNat) % 256 = ocH v i := by
  unfold ocH
  have : i = 0 ∨ i = 1 ∨ i = 2 ∨ i = 3 ∨ i = 4 ∨ i = 5 ∨ i = 6 ∨ i = 7 := by omega
  rcases this with e | e | e | e | e | e | e | e <;> subst e
  · show w64 v / 1 % 256 = v % 18446744073709551616 / 1 % 256
    unfold w64
    omega
  · show w64 v / 256 % 256 = v % 18446744073709551616 / 256 % 256
    unfold w64
    omega
  · show w64 v / 65536 % 256 = v % 18446744073709551616 / 65536 % 256
    unfold w64
    omega
  · show w64 v / 16777216 % 256 = v % 18446744073709551616 / 16777216 % 256
    unfold w64
    omega
  · show w64 v / 4294967296 % 256 = v % 18446744073709551616 / 4294967296 % 256
    unfold w64
    omega
  · show w64 v / 1099511627776 % 256 = v % 18446744073709551616 / 1099511627776 % 256
    unfold w64
    omega
  · show w64 v / 281474976710656 % 256 = v % 18446744073709551616 / 281474976710656 % 256
    unfold w64
    omega
  · show w64 v / 72057594037927936 % 256 = v % 18446744073709551616 / 72057594037927936 % 256
    unfold w64
    omega
theorem ocH_rg (v i : Int) : 0 ≤ ocH v i ∧ ocH v i < 256 := by
  unfold ocH
  omega
theorem oc_b8 {v i : Int} (h0 : 0 ≤ i) (h7 : i ≤ 7) : ocM v i = b8 (ocH v i) := by
  have := oc_eq (v := v) h0 h7
  unfold ocM
  rw [← this]
  generalize w64 v / ((2 : Int) ^ ((8 * i) % 64).toNat) = x
  unfold b8
  omega
/-- an octet among the n lowest is 0 -/
def nz (v n i : Int) : Prop := ∃ j : Int, i ≤ j ∧ j < n ∧ ocH v j = 0
theorem lp_ph0 {v n : Int} (hn : n ≤ 8) : ∀ (t : Nat) (i : Int), 0 ≤ i → i + t = n → nz v n i → EV q 178 16 [some (.ref 0), some (vL v), none, some (vI n), some (vI i)] [] S (some (vI (-2))) S := by
  intro t
  induction t with
  | zero => intro i h0 h1 ⟨j, j1, j2, _⟩; omega
  | succ t ih =>
    intro i h0 h1 hz
    have hr := ocH_rg v i
    refine vc_PH_name_16 _ _ _ ⟨fun c => ?_, fun _ => ⟨fun c => ?_, fun _ => ⟨rfl, rfl⟩⟩⟩
    · rw [w32_of (by omega), w32_of (by omega)] at c
      omega
    · refine ih (i + 1) (by omega) (by omega) ?_
      obtain ⟨j, j1, j2, j3⟩ := hz
      refine ⟨j, ?_, j2, j3⟩
      rcases Int.lt_or_eq_of_le j1 with z | z
      · omega
      · subst z
        have c : ¬ w64 (ocH v i) = w64 0 := c
        rw [j3] at c
        exact absurd rfl c
theorem lp_ph1 {v n : Int} {r : Option Value} {T : ms} (hn : n ≤ 8) (k : EV q 178 16 [some (.ref 0), some (vL v), none, some (vI n), some (vI n)] [] S r T) : ∀ (t : Nat) (i : Int), 0 ≤ i → i + t = n → ¬ nz v n i → EV q 178 16 [some (.ref 0), some (vL v), none, some (vI n), some (vI i)] [] S r T := by
  intro t
  induction t with
  | zero =>
    intro i h0 h1 _
    have e : i = n := by omega
    subst e
    exact k
  | succ t ih =>
    intro i h0 h1 hz
    have hr := ocH_rg v i
    refine vc_PH_name_16 _ _ _ ⟨fun c => ?_, fun _ => ⟨fun c => ih (i + 1) (by omega) (by omega) (fun ⟨j, j1, j2, j3⟩ => hz ⟨j, by omega, j2, j3⟩), fun c => ?_⟩⟩
    · rw [w32_of (by omega), w32_of (by omega)] at c
      omega
    · have c := Classical.not_not.mp c
      have c : w64 (ocH v i) = w64 0 := c
      rw [w64_of (by omega), show w64 0 = 0 from rfl] at c
      exact absurd ⟨i, Int.le_refl _, by omega, c⟩ hz
theorem lp_md0 {v n : Int} (hn : n ≤ 8) : ∀ (t : Nat) (i : Int), 0 ≤ i → i + t = n → nz v n i → EV q 372 32 [some (.ref 367), some (vL v), none, some (vI n), some (vI i)] [] S (some (vI (-2))) S := by
  intro t
  induction t with
  | zero => intro i h0 h1 ⟨j, j1, j2, _⟩; omega
  | succ t ih =>
    intro i h0 h1 hz
    refine vc_MD_name_32 _ _ _ ⟨fun c => ?_, fun _ => ⟨fun c => ?_, fun _ => ⟨rfl, rfl⟩⟩⟩
    · rw [w32_of (by omega), w32_of (by omega)] at c
      omega
    · refine ih (i + 1) (by omega) (by omega) ?_
      obtain ⟨j, j1, j2, j3⟩ := hz
      refine ⟨j, ?_, j2, j3⟩
      rcases Int.lt_or_eq_of_le j1 with z | z
      · omega
      · subst z
        rw [oc_eq h0 (by omega), j3] at c
        exact absurd rfl c
theorem lp_md1n {v n : Int} {r : Option Value} {T : ms} (hn : n ≤ 8) (k : EV q 372 32 [some (.ref 367), some (vL v), none, some (vI n), some (vI n)] [] S r T) : ∀ (t : Nat) (i : Int), 0 ≤ i → i + t = n → ¬ nz v n i → EV q 372 32 [some (.ref 367), some (vL v), none, some (vI n), some (vI i)] [] S r T := by
  intro t
  induction t with
  | zero =>
    intro i h0 h1 _
    have e : i = n := by omega
    subst e
    exact k
  | succ t ih =>
    intro i h0 h1 hz
    have hr := ocH_rg v i
    refine vc_MD_name_32 _ _ _ ⟨fun c => ?_, fun _ => ⟨fun c => ih (i + 1) (by omega) (by omega) (fun ⟨j, j1, j2, j3⟩ => hz ⟨j, by omega, j2, j3⟩), fun c => ?_⟩⟩
    · rw [w32_of (by omega), w32_of (by omega)] at c
      omega
    · have c := Classical.not_not.mp c
      rw [oc_eq h0 (by omega), w64_of (by omega), show w64 0 = 0 from rfl] at c
      exact absurd ⟨i, Int.le_refl _, by omega, c⟩ hz
/-- the NAME at hand grows in the reference -/
def HW (S : ms) (p m : Int) (g : Int → Int) : ms := wI (wC S 431 p m g) 367 103 (p + m)
theorem HW_at (p m : Int) (g : Int → Int) (c : Nat) (k : Int) : (HW S p m g).1 c k = if c = 367 ∧ k = 103 then p + m else if c = 431 ∧ p ≤ k ∧ k < p + m then g (k - p) else S.1 c k := rfl
theorem HW_0 {p : Int} (g : Int → Int) (h : S.1 367 103 = p) : HW S p 0 g = S := by
  have : (HW S p 0 g).1 = S.1 := by
    funext c k
    rw [HW_at]
    by_cases h1 : c = 367 ∧ k = 103
    · rw [if_pos h1, h1.1, h1.2, h]
      omega
    · rw [if_neg h1, if_neg (by omega)]
  exact Prod.ext this rfl
theorem HW_s {p m : Int} (g : Int → Int) (hm : 0 ≤ m) : wI (wI (HW S p m g) 431 (p + m) (g m)) 367 103 (p + m + 1) = HW S p (m + 1) g := by
  have : (wI (wI (HW S p m g) 431 (p + m) (g m)) 367 103 (p + m + 1)).1 = (HW S p (m + 1) g).1 := by
    funext c k
    rw [rI_I, rI_I, HW_at, HW_at]
    by_cases h1 : c = 367 ∧ k = 103
    · rw [if_pos h1, if_pos h1]
      omega
    · rw [if_neg h1, if_neg h1, if_neg h1]
      by_cases h2 : c = 431 ∧ k = p + m
      · rw [if_pos h2, if_pos (by omega), h2.2, show p + m - p = m by omega]
      · rw [if_neg h2]
        by_cases h3 : c = 431 ∧ p ≤ k ∧ k < p + m
        · rw [if_pos h3, if_pos (by omega)]
        · rw [if_neg h3, if_neg (by omega)]
  exact Prod.ext this rfl
theorem lp_mdname {p n v : Int} (h0 : 0 ≤ p) (hn : n < 1000) (h1 : p + n ≤ 100) : ∀ (t : Nat) (m : Int), 0 ≤ m → m + t = n → EV q 372 82 [some (.ref 367), some (vL v), none, some (vI n), some (vI (n - 1 - m))] [] (HW S p m (fun i => ocM v (n - 1 - i))) (some (vI (p + n))) (HW S p n (fun i => ocM v (n - 1 - i))) := by
  intro t
  induction t with
  | zero =>
    intro m hm ht
    have e : m = n := by omega
    subst e
    refine vc_MD_name_82 _ _ _ ⟨fun _ => ⟨by rw [HW_at, if_pos ⟨rfl, rfl⟩], rfl⟩, fun c => absurd ?_ c⟩
    rw [w32_of (by omega)]
    omega
  | succ t ih =>
    intro m hm ht
    have e2 : (HW S p m (fun i => ocM v (n - 1 - i))).1 367 103 = p + m := by rw [HW_at, if_pos ⟨rfl, rfl⟩]
    have e3 : w32 (p + m) = p + m := w32_of (by omega)
    refine vc_MD_name_82 _ _ _ ⟨fun c => ?_, fun _ => ?_⟩
    · rw [w32_of (by omega)] at c
      omega
    · rw [e2, e3]
      refine ⟨by omega, fun S2 f2 S3 f3 => ?_⟩
      have e4 : S2.1 367 103 = p + m := by
        subst f2
        rw [rI_I, if_neg (by omega), e2]
      rw [e4] at f3
      subst f2 f3
      have := HW_s (S := S) (p := p) (m := m) (fun i => ocM v (n - 1 - i)) hm
      rw [show n - 1 - m - 1 = n - 1 - (m + 1) by omega]
      have key := ih (m + 1) (by omega) (by omega)
      rw [← this] at key
      exact key
/-- the NAME at hand -/
def RN (S : ms) : Prop := (0 ≤ S.1 5 1 ∧ S.1 5 1 ≤ 100) ∧ S.1 367 103 = S.1 5 1 ∧ ∀ k : Int, 0 ≤ k → k < S.1 5 1 → (1 ≤ S.1 6 k ∧ S.1 6 k < 256) ∧ S.1 431 k = b8 (S.1 6 k)
/-- name(v, n) -/
theorem op16_ok (hd : -2147483648 ≤ d ∧ d < 2147483648) (h : RN S) : op_16 q a b d S (fun T => T = wI S 367 0 0 ∨ (d = 0 ∧ T = wI (wI (CL S 5) 367 0 0) 367 103 0) ∨ ∃ v : Int, 1 ≤ d ∧ d ≤ 8 ∧ ¬ nz v d 0 ∧ S.1 5 1 + d ≤ 100 ∧ T = HW (wI (RW S 5 (S.1 5 1) d (fun i => ocH v (d - 1 - i))) 367 0 0) (S.1 5 1) d (fun i => ocM v (d - 1 - i))) := by
  obtain ⟨h1, h2, -⟩ := h
  have ed : w32 d = d := w32_of hd
  have ep : w32 (100 - S.1 5 1) = 100 - S.1 5 1 := w32_of (by omega)
  unfold op_16
  generalize lO ((w32 a) * 4294967296) ((w32 b) % 4294967296) = v
  by_cases c : 0 ≤ d ∧ d ≤ 8
  · by_cases c0 : d = 0
    · subst c0
      refine ⟨0, CL S 5, 0, wI (wI (CL S 5) 367 0 0) 367 103 0, vc_PH_name v 0 ⟨fun n => absurd n (by decide), fun _ => ⟨fun _ => vc_PH_name_16 _ _ _ ⟨fun _ => ⟨fun _ => ⟨fun n => absurd rfl n, fun _ => ⟨CL S 5, sp_clear is_5, by rw [CL_1], rfl⟩⟩, fun n => absurd (by rw [ep]; show (0 : Int) ≤ _; omega) n⟩, fun n => absurd (Int.le_refl _) n⟩, fun n => absurd (by decide) n⟩⟩, vc_MD_name v 0 (fun S1 f => ?_), rfl, Or.inr (Or.inl ⟨rfl, rfl⟩)⟩
      subst f
      refine ⟨1, _, md_in1 (by decide) (by decide), fun _ => ⟨fun n => absurd rfl n, fun _ S5 f5 => ⟨rfl, f5.symm⟩⟩, fun n => absurd (by decide) n⟩
    · by_cases cz : nz v d 0
      · refine ⟨-2, S, -2, wI S 367 0 0, vc_PH_name v d ?_, vc_MD_name v d (fun S1 f => ?_), rfl, Or.inl rfl⟩
        · rw [ed]
          exact ⟨fun n => absurd n (by omega), fun _ => ⟨fun _ => lp_ph0 c.2 d.toNat 0 (by decide) (by omega) cz, fun n => absurd c.2 n⟩⟩
        · subst f
          refine ⟨1, _, md_in1 (by rw [ed]; exact c.1) (by rw [ed]; exact c.2), fun _ => ?_, fun n => absurd (by decide) n⟩
          rw [ed]
          exact ⟨fun _ => lp_md0 c.2 d.toNat 0 (by decide) (by omega) cz, fun n => absurd (fun z => c0 z) n⟩
      · by_cases c2 : S.1 5 1 + d ≤ 100
        · have k1 := sp_addHigh (q := q) (S := S) (v := v) (n := d) is_5 (by decide) rfl h1.1 (by omega) (by omega) (by omega)
          refine ⟨S.1 5 1 + d, RW S 5 (S.1 5 1) d (fun i => ocH v (d - 1 - i)), S.1 5 1 + d, _, vc_PH_name v d ?_, vc_MD_name v d (fun S1 f => ?_), rfl, Or.inr (Or.inr ⟨v, by omega, c.2, cz, c2, rfl⟩)⟩
          · rw [ed]
            refine ⟨fun n => absurd n (by omega), fun _ => ⟨fun _ => lp_ph1 c.2 (vc_PH_name_16 _ _ _ ?_) d.toNat 0 (by decide) (by omega) cz, fun n => absurd c.2 n⟩⟩
            rw [ed, ep]
            exact ⟨fun _ => ⟨fun _ => ⟨fun _ => ⟨_, k1, by rw [RW_at, if_pos ⟨rfl, rfl⟩], rfl⟩, fun n => absurd (fun z => c0 z) n⟩, fun n => absurd (by omega) n⟩, fun n => absurd (Int.le_refl _) n⟩
          · subst f
            have e2 : (wI (RW S 5 (S.1 5 1) d (fun i => ocH v (d - 1 - i))) 367 0 0).1 367 103 = S.1 5 1 := by
              rw [r0 103 (by decide), RW_at, if_neg (by omega), if_neg (by omega), h2]
            have key := lp_mdname (q := q) (S := wI (RW S 5 (S.1 5 1) d (fun i => ocH v (d - 1 - i))) 367 0 0) (v := v) (n := d) h1.1 (by omega) c2 d.toNat 0 (by decide) (by omega)
            rw [HW_0 _ e2, Int.sub_zero] at key
            refine ⟨1, _, md_in1 (by rw [ed]; exact c.1) (by rw [ed]; exact c.2), fun _ => ?_, fun n => absurd (by decide) n⟩
            rw [ed]
            refine ⟨fun _ => lp_md1n c.2 (vc_MD_name_32 _ _ _ ?_) d.toNat 0 (by decide) (by omega) cz, fun n => absurd (fun z => c0 z) n⟩
            rw [e2, show w32 (S.1 5 1 + d) = S.1 5 1 + d from w32_of (by omega)]
            exact ⟨fun _ => ⟨fun _ => key, fun n => absurd c2 n⟩, fun n => absurd (Int.le_refl _) n⟩
        · refine ⟨-4, S, -4, wI S 367 0 0, vc_PH_name v d ?_, vc_MD_name v d (fun S1 f => ?_), rfl, Or.inl rfl⟩
          · rw [ed]
            refine ⟨fun n => absurd n (by omega), fun _ => ⟨fun _ => lp_ph1 c.2 (vc_PH_name_16 _ _ _ ?_) d.toNat 0 (by decide) (by omega) cz, fun n => absurd c.2 n⟩⟩
            rw [ed, ep]
            exact ⟨fun _ => ⟨fun n => absurd n (by omega), fun _ => ⟨rfl, rfl⟩⟩, fun n => absurd (Int.le_refl _) n⟩
          · subst f
            refine ⟨1, _, md_in1 (by rw [ed]; exact c.1) (by rw [ed]; exact c.2), fun _ => ?_, fun n => absurd (by decide) n⟩
            rw [ed]
            refine ⟨fun _ => lp_md1n c.2 (vc_MD_name_32 _ _ _ ?_) d.toNat 0 (by decide) (by omega) cz, fun n => absurd (fun z => c0 z) n⟩
            rw [r0 103 (by decide), h2, show w32 (S.1 5 1 + d) = S.1 5 1 + d from w32_of (by omega)]
            exact ⟨fun _ => ⟨fun n => absurd n c2, fun _ => ⟨rfl, rfl⟩⟩, fun n => absurd (Int.le_refl _) n⟩
  · refine ⟨-2, S, -2, wI S 367 0 0, vc_PH_name v d ?_, vc_MD_name v d (fun S1 f => ?_), rfl, Or.inl rfl⟩
    · rw [ed]
      exact ⟨fun _ => ⟨rfl, rfl⟩, fun n1 => ⟨fun n2 => absurd ⟨by omega, n2⟩ c, fun _ => ⟨rfl, rfl⟩⟩⟩
    · subst f
      exact ⟨0, _, md_in0 (by rw [ed]; show d < 0 ∨ 8 < d; omega), fun n => absurd rfl n, fun _ => ⟨rfl, rfl⟩⟩
end Name
