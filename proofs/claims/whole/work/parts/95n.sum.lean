/-! sums: kind 0 (two sums modulo 65521) on both sides -/
section Sum0
variable {q : Nat × (Nat → Int32)} {S : ms}
/-- the two sums over k octets -/
def adA (g : Nat → Int) : Nat → Int × Int
  | 0 => (1, 0)
  | k + 1 => (((adA g k).1 + g k) % 65521, ((adA g k).2 + ((adA g k).1 + g k) % 65521) % 65521)
theorem adA_rg (g : Nat → Int) : ∀ k, (0 ≤ (adA g k).1 ∧ (adA g k).1 < 65521) ∧ (0 ≤ (adA g k).2 ∧ (adA g k).2 < 65521)
  | 0 => by
    show (0 ≤ (1 : Int) ∧ (1 : Int) < 65521) ∧ (0 ≤ (0 : Int) ∧ (0 : Int) < 65521)
    decide
  | k + 1 => by
    show (0 ≤ ((adA g k).1 + g k) % 65521 ∧ ((adA g k).1 + g k) % 65521 < 65521) ∧ (0 ≤ ((adA g k).2 + ((adA g k).1 + g k) % 65521) % 65521 ∧ ((adA g k).2 + ((adA g k).1 + g k) % 65521) % 65521 < 65521)
    omega
theorem lp_cad {c n1 n : Nat} {fr : Int} {g : Nat → Int} (hc : SH c = (0, n1, [])) (hn1 : n1 < 1000000) (h0 : 0 ≤ fr) (hn : fr + n ≤ n1) (hg : ∀ k : Nat, k < n → (0 ≤ g k ∧ g k < 256) ∧ S.1 c (fr + k) = g k) : ∀ (t k : Nat), k + t = n → EV q 27 8 [some (.ref c), some (vI fr), some (vI (fr + n)), some (vI (adA g k).1), some (vI (adA g k).2), some (vI (fr + k))] [] S (some (vI ((adA g n).2 * 65536 + (adA g n).1))) S := by
  intro t
  induction t with
  | zero =>
    intro k hk
    have e : k = n := by omega
    subst e
    exact vc_Row_adler_8 _ _ _ _ _ c n1 hc ⟨fun _ => ⟨rfl, rfl⟩, fun z => absurd (Int.le_refl _) z⟩
  | succ t ih =>
    intro k hk
    obtain ⟨g1, g2⟩ := hg k (by omega)
    obtain ⟨r1, r2⟩ := adA_rg g k
    have w1 : w32 (fr + n) = fr + n := w32_of (by omega)
    have w2 : w32 (fr + k) = fr + k := w32_of (by omega)
    have w3 : w32 ((adA g k).1 + g k) = (adA g k).1 + g k := w32_of (by omega)
    have i1 := ih (k + 1) (by omega)
    have ek : fr + ((k + 1 : Nat) : Int) = fr + k + 1 := by omega
    rw [ek] at i1
    have nx : EV q 27 32 [some (.ref c), some (vI fr), some (vI (fr + n)), some (vI (((adA g k).1 + g k) % 65521)), some (vI (adA g k).2), some (vI (fr + k))] [] S (some (vI ((adA g n).2 * 65536 + (adA g n).1))) S := by
      have w4 : w32 ((adA g k).2 + ((adA g k).1 + g k) % 65521) = (adA g k).2 + ((adA g k).1 + g k) % 65521 := w32_of (by omega)
      refine vc_Row_adler_32 _ _ _ _ _ c n1 hc ?_
      rw [w4]
      refine ⟨fun l => vc_Row_adler_52 _ _ _ _ _ c n1 hc ?_, fun l => vc_Row_adler_52 _ _ _ _ _ c n1 hc ?_⟩
      · have e : (adA g k).2 + ((adA g k).1 + g k) % 65521 = (adA g (k + 1)).2 := by
          show _ = ((adA g k).2 + ((adA g k).1 + g k) % 65521) % 65521
          omega
        rw [e]
        exact i1
      · have e : (adA g k).2 + ((adA g k).1 + g k) % 65521 - 65521 = (adA g (k + 1)).2 := by
          show _ = ((adA g k).2 + ((adA g k).1 + g k) % 65521) % 65521
          omega
        rw [e]
        exact i1
    refine vc_Row_adler_8 _ _ _ _ _ c n1 hc ?_
    rw [w1, w2, g2, w3]
    refine ⟨fun z => absurd z (by omega), fun _ => ⟨by omega, fun l => ?_, fun l => ?_⟩⟩
    · rw [show (adA g k).1 + g k = ((adA g k).1 + g k) % 65521 by omega]
      exact nx
    · rw [show (adA g k).1 + g k - 65521 = ((adA g k).1 + g k) % 65521 by omega]
      exact nx
theorem sp_cad {c n1 n : Nat} {fr : Int} {g : Nat → Int} (hc : SH c = (0, n1, [])) (hn1 : n1 < 1000000) (h0 : 0 ≤ fr) (hn : fr + n ≤ n1) (hg : ∀ k : Nat, k < n → (0 ≤ g k ∧ g k < 256) ∧ S.1 c (fr + k) = g k) : EV q 27 0 [some (.ref c), some (vI fr), some (vI (fr + n)), none, none, none] [] S (some (vI ((adA g n).2 * 65536 + (adA g n).1))) S := by
  have key := lp_cad (q := q) hc hn1 h0 hn hg n 0 (by omega)
  rw [show fr + ((0 : Nat) : Int) = fr by omega] at key
  exact vc_Row_adler _ _ c n1 hc key
theorem lp_mad {c n1 n : Nat} {fr : Int} {g : Nat → Int} (hc : SH c = (1, n1, [])) (hn1 : n1 < 1000000) (h0 : 0 ≤ fr) (hn : fr + n ≤ n1) (hg : ∀ k : Nat, k < n → (0 ≤ g k ∧ g k < 256) ∧ S.1 c (fr + k) % 256 = g k) : ∀ (t k : Nat), k + t = n → EV q 263 8 [some (.ref c), some (vI fr), some (vI n), some (vI (adA g k).1), some (vI (adA g k).2), some (vI k)] [] S (some (vL ((adA g n).2 * 65536 + (adA g n).1))) S := by
  intro t
  induction t with
  | zero =>
    intro k hk
    have e : k = n := by omega
    subst e
    obtain ⟨r1, r2⟩ := adA_rg g k
    have w1 : w32 (adA g k).1 = (adA g k).1 := w32_of (by omega)
    have w2 : w32 (adA g k).2 = (adA g k).2 := w32_of (by omega)
    exact vc_MD_adler_8 _ _ _ _ _ c n1 hc ⟨fun _ => ⟨by rw [w1, w2], rfl⟩, fun z => absurd (Int.le_refl _) z⟩
  | succ t ih =>
    intro k hk
    obtain ⟨g1, g2⟩ := hg k (by omega)
    obtain ⟨r1, r2⟩ := adA_rg g k
    have b0 : -2147483648 ≤ (n : Int) ∧ (n : Int) < 2147483648 := by omega
    have b1 : -2147483648 ≤ (k : Int) ∧ (k : Int) < 2147483648 := by omega
    have b2 : -2147483648 ≤ fr + k ∧ fr + k < 2147483648 := by omega
    have b3 : -2147483648 ≤ (adA g k).1 + g k ∧ (adA g k).1 + g k < 2147483648 := by omega
    have b4 : -2147483648 ≤ (adA g k).2 + ((adA g k).1 + g k) % 65521 ∧ (adA g k).2 + ((adA g k).1 + g k) % 65521 < 2147483648 := by omega
    have z0 : ¬ (n : Int) ≤ k := by omega
    have z1 : 0 ≤ fr + k ∧ fr + k < n1 := by omega
    have kt : k + 1 + t = n := by omega
    have t1 : Int.tmod ((adA g k).1 + g k) 65521 = ((adA g k).1 + g k) % 65521 := Int.tmod_eq_emod_of_nonneg (by omega)
    have t2 : Int.tmod ((adA g k).2 + ((adA g k).1 + g k) % 65521) 65521 = ((adA g k).2 + ((adA g k).1 + g k) % 65521) % 65521 := Int.tmod_eq_emod_of_nonneg (by omega)
    have w0 := w32_of b0
    have w1 := w32_of b1
    have w2 := w32_of b2
    have w3 := w32_of b3
    have w4 := w32_of b4
    have we : w32 65521 = 65521 := by decide
    refine vc_MD_adler_8 _ _ _ _ _ c n1 hc ?_
    rw [w0, w1, w2, g2, w3, we, t1, w4, t2]
    exact ⟨fun z => absurd z z0, fun _ => ⟨z1, ih (k + 1) kt⟩⟩
theorem sp_mad {c n1 n : Nat} {fr : Int} {g : Nat → Int} (hc : SH c = (1, n1, [])) (hn1 : n1 < 1000000) (h0 : 0 ≤ fr) (hn : fr + n ≤ n1) (hg : ∀ k : Nat, k < n → (0 ≤ g k ∧ g k < 256) ∧ S.1 c (fr + k) % 256 = g k) : EV q 263 0 [some (.ref c), some (vI fr), some (vI n), none, none, none] [] S (some (vL ((adA g n).2 * 65536 + (adA g n).1))) S :=
  vc_MD_adler _ _ c n1 hc (lp_mad (q := q) hc hn1 h0 hn hg n 0 (by omega))
end Sum0
