/-! told on both sides -/
section Told2
variable {q : Nat × (Nat → Int32)} {S : ms} {a b d : Int}
/-- told(entry, what) -/
theorem op20_ok {sh : Nat} (ha : -2147483648 ≤ a ∧ a < 2147483648) (hb : -2147483648 ≤ b ∧ b < 2147483648) (h : RE S sh) : op_20 q a b d S (fun T => T = wI S 367 0 0) := by
  have ea : w32 a = a := w32_of ha
  have eb : w32 b = b := w32_of hb
  obtain ⟨h1, h2, h3, h4, h5⟩ := h
  have hs := isSh_is h2
  have ec : w32 (S.1 sh 4) = S.1 sh 4 := w32_of (by omega)
  have ne := md_ne (q := q) (T := wI S 367 0 0) (n := S.1 sh 4) ea (by rw [r0 88 (by decide), h4]) h3
  by_cases c : 0 ≤ a ∧ a < S.1 sh 4
  · have en : ((a.toNat : Nat) : Int) = a := by omega
    obtain ⟨⟨n1, n2, n3⟩, ⟨m1, m2⟩, ⟨x1, x2, -⟩⟩ := h5 a.toNat (by omega)
    rw [en] at n2 n3 m1 m2 x2
    obtain ⟨r1, r2, r3, r4⟩ := sh_nm h2 (n := a.toNat) (by omega)
    have e420 : (wI S 367 0 0).1 420 a = S.1 (sh + 11 + 4 * a.toNat) 1 := by rw [r0a 420 a (by decide), n2]
    have e421 : (wI S 367 0 0).1 421 a = S.1 (sh + 3) a := by rw [r0a 421 a (by decide), m1]
    have e422 : (wI S 367 0 0).1 422 a = S.1 (sh + 4) a := by rw [r0a 422 a (by decide), m2]
    have e424 : (wI S 367 0 0).1 424 a = S.1 (sh + 13 + 4 * a.toNat) 1 := by rw [r0a 424 a (by decide), x2]
    have ha' : 0 ≤ a ∧ a < 16 := by omega
    have key : ∃ z : Int, ((b = 0 → z = S.1 (sh + 13 + 4 * a.toNat) 1) ∧ (b = 1 → z = S.1 (sh + 3) a) ∧ (b = 2 → z = S.1 (sh + 4) a) ∧ (b = 3 → z = S.1 (sh + 11 + 4 * a.toNat) 1) ∧ (¬ b = 0 → ¬ b = 1 → ¬ b = 2 → ¬ b = 3 → ¬ b = 4 → z = -2)) ∧ (b = 4 → (z = 0 ∨ z = 1) ∧ EV q 209 0 [some (.ref sh), some (vI a), none, none, none, none, none, none] [] S (some (vI z)) S ∧ EV q 376 0 [some (.ref 367), some (vI a), none, none, none, none, none] [] (wI S 367 0 0) (some (vI z)) (wI S 367 0 0)) := by
      by_cases c0 : b = 0
      · exact ⟨_, ⟨fun _ => rfl, fun n => absurd n (by omega), fun n => absurd n (by omega), fun n => absurd n (by omega), fun n => absurd c0 n⟩, fun n => absurd n (by omega)⟩
      · by_cases c1 : b = 1
        · exact ⟨_, ⟨fun n => absurd n (by omega), fun _ => rfl, fun n => absurd n (by omega), fun n => absurd n (by omega), fun _ n => absurd c1 n⟩, fun n => absurd n (by omega)⟩
        · by_cases c2 : b = 2
          · exact ⟨_, ⟨fun n => absurd n (by omega), fun n => absurd n (by omega), fun _ => rfl, fun n => absurd n (by omega), fun _ _ n => absurd c2 n⟩, fun n => absurd n (by omega)⟩
          · by_cases c3 : b = 3
            · exact ⟨_, ⟨fun n => absurd n (by omega), fun n => absurd n (by omega), fun n => absurd n (by omega), fun _ => rfl, fun _ _ _ n => absurd c3 n⟩, fun n => absurd n (by omega)⟩
            · by_cases c4 : b = 4
              · have w0 : w32 0 = 0 := by decide
                have wn : w32 (S.1 (sh + 11 + 4 * a.toNat) 1) = S.1 (sh + 11 + 4 * a.toNat) 1 := w32_of (by omega)
                obtain ⟨v1, v2⟩ := n3 0 (by decide) (by omega)
                rw [Int.add_zero] at v2
                have wv : w32 (S.1 (sh + 11 + 4 * a.toNat + 1) 0) = S.1 (sh + 11 + 4 * a.toNat + 1) 0 := w32_of (by omega)
                have w1 : w32 (100 * a) = 100 * a := w32_of (by omega)
                have q47 := b8_is (v := S.1 (sh + 11 + 4 * a.toNat + 1) 0) (c := 47) (by omega) (by decide)
                obtain ⟨z, hz, z1, z2⟩ := lp_unsafe (q := q) (S := S) (a := a) (T := wI S 367 0 0) hs r2 n1 rfl ha' (fun k k1 k2 => ⟨(n3 k k1 k2).1, by rw [r0a 419 _ (by decide)]; exact (n3 k k1 k2).2⟩) (S.1 (sh + 11 + 4 * a.toNat) 1 + 1).toNat 0 0 1 (if S.1 (sh + 11 + 4 * a.toNat + 1) 0 = 47 then 1 else 0) (by decide) (by decide) (by omega) (Or.inr rfl) (by by_cases e : S.1 (sh + 11 + 4 * a.toNat + 1) 0 = 47 <;> simp [e]) ⟨fun _ k k1 k2 => absurd k2 (by omega), fun _ => rfl⟩
                refine ⟨z, ⟨fun n => absurd n c0, fun n => absurd n c1, fun n => absurd n c2, fun n => absurd n c3, fun _ _ _ _ n => absurd c4 n⟩, fun _ => ⟨hz, vc_Shelf_isUnsafe a sh hs ?_, vc_MD_isUnsafe a ?_⟩⟩
                · rw [ea]
                  refine ⟨ha', _, 100, r1, r2, ?_⟩
                  rw [wn, w0, wv]
                  refine ⟨fun n => absurd n (by omega), fun _ => ⟨by decide, fun n => ?_, fun n => ?_⟩⟩
                  · rw [if_neg n] at z1
                    exact vc_Shelf_isUnsafe_34 _ _ _ sh hs _ 100 r2 (vc_Shelf_isUnsafe_35 _ _ _ _ sh hs _ 100 r2 z1)
                  · rw [if_pos (Classical.not_not.mp n)] at z1
                    exact vc_Shelf_isUnsafe_35 _ _ _ _ sh hs _ 100 r2 z1
                · rw [ea, w1, r0a 419 _ (by decide), v2, e420]
                  refine ⟨ha', by omega, fun n => ?_, fun n => ?_⟩
                  · rw [if_neg (fun e => n (q47.mpr e))] at z2
                    exact vc_MD_isUnsafe_28 _ _ _ _ z2
                  · rw [if_pos (q47.mp (Classical.not_not.mp n))] at z2
                    exact vc_MD_isUnsafe_28 _ _ _ _ z2
              · exact ⟨-2, ⟨fun n => absurd n c0, fun n => absurd n c1, fun n => absurd n c2, fun n => absurd n c3, fun _ _ _ _ _ => rfl⟩, fun n => absurd n c4⟩
    obtain ⟨z, ⟨k0, k1, k2, k3, k5⟩, k4⟩ := key
    refine ⟨z, S, z, wI S 367 0 0, vc_PH_told a b ?_, vc_MD_told a b (fun S1 f => ?_), rfl, rfl⟩
    · rw [ea, eb]
      refine ⟨fun n => absurd n (by omega), fun _ => ⟨sh, h1, hs, ?_⟩⟩
      rw [ec]
      refine ⟨fun _ => ⟨fun e => ⟨sh, h1, hs, ha', _, 6000, r3, r4, by rw [k0 e], rfl⟩, fun e => ⟨sh, h1, hs, ha', by rw [k1 e], rfl⟩, fun e => ⟨sh, h1, hs, ha', by rw [k2 e], rfl⟩, fun e => ⟨sh, h1, hs, ha', _, 100, r1, r2, by rw [k3 e], rfl⟩, fun e => ⟨sh, h1, hs, z, S, (k4 e).2.1, fun g => ?_, fun g => ?_⟩, fun e0 e1 e2 e3 e4 => ⟨by rw [k5 e0 e1 e2 e3 e4], rfl⟩⟩, fun n => absurd c.2 n⟩
      · rcases (k4 e).1 with y | y
        · rw [y]
          exact ⟨rfl, rfl⟩
        · rw [y] at g
          exact absurd g (by decide)
      · rcases (k4 e).1 with y | y
        · rw [y] at g
          exact absurd (by decide) g
        · rw [y]
          exact ⟨rfl, rfl⟩
    · subst f
      refine ⟨0, _, ne.1 c, fun _ => ?_, fun n => absurd rfl n⟩
      rw [ea, eb, e420, e421, e422, e424]
      refine ⟨fun e => ⟨ha', by rw [k0 e], rfl⟩, fun e => ⟨ha', by rw [k1 e], rfl⟩, fun e => ⟨ha', by rw [k2 e], rfl⟩, fun e => ⟨ha', by rw [k3 e], rfl⟩, fun e => ⟨z, _, (k4 e).2.2, fun g => ?_, fun g => ?_⟩, fun e0 e1 e2 e3 e4 => ⟨by rw [k5 e0 e1 e2 e3 e4], rfl⟩⟩
      · rcases (k4 e).1 with y | y
        · rw [y]
          exact ⟨rfl, rfl⟩
        · rw [y] at g
          exact absurd g (by decide)
      · rcases (k4 e).1 with y | y
        · rw [y] at g
          exact absurd (by decide) g
        · rw [y]
          exact ⟨rfl, rfl⟩
  · refine ⟨-1, S, -1, wI S 367 0 0, vc_PH_told a b ?_, vc_MD_told a b (fun S1 f => ?_), rfl, rfl⟩
    · rw [ea]
      refine ⟨fun _ => ⟨rfl, rfl⟩, fun n1 => ⟨sh, h1, hs, ?_⟩⟩
      rw [ec]
      exact ⟨fun n2 => absurd ⟨by omega, n2⟩ c, fun _ => ⟨rfl, rfl⟩⟩
    · subst f
      exact ⟨1, _, ne.2 c, fun n => absurd n (by decide), fun _ => ⟨rfl, rfl⟩⟩
end Told2
