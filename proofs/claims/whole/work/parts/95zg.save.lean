/-! save: the call -/
section Save6
variable {q : Nat × (Nat → Int32)} {S : ms} {r s n0 m a b d : Int}
theorem ocN_sum {u : Nat → Int} {M : Nat} : ∀ {n : Nat}, (∀ k, k < n → 0 ≤ u k ∧ u k < M) → sm (fun x => ocN u n x) M = n
  | 0, _ => sm_0 (fun _ _ => rfl)
  | n + 1, h => by
    have hu := h n (by omega)
    have ei : (((u n).toNat : Nat) : Int) = u n := by omega
    rw [sm_upd (n := M) (i := (u n).toNat) (f := fun x : Nat => ocN u n x) (g := fun x : Nat => ocN u (n + 1) x) (by omega) (fun k _ hne => by
      show ocN u n k + (if u n = (k : Int) then 1 else 0) = ocN u n k
      rw [if_neg (by omega), Int.add_zero]), ocN_sum (fun k hk => h k (by omega))]
    show (n : Int) + (ocN u n ((u n).toNat : Nat) + (if u n = ((u n).toNat : Nat) then 1 else 0) - ocN u n ((u n).toNat : Nat)) = ((n + 1 : Nat) : Int)
    rw [if_pos ei.symm]
    omega
theorem ocN_one {u : Nat → Int} {x : Int} : ∀ {n : Nat}, (∀ i j, i < n → j < n → u i = u j → i = j) → ocN u n x ≤ 1
  | 0, _ => by
    show (0 : Int) ≤ 1
    decide
  | n + 1, h => by
    have ih := ocN_one (u := u) (x := x) (n := n) (fun i j hi hj e => h i j (by omega) (by omega) e)
    show ocN u n x + (if u n = x then 1 else 0) ≤ 1
    by_cases c : u n = x
    · have z : ocN u n x = 0 := by
        apply (ocN_B _ _ _).mpr
        rcases ocB_01 u x n with y | y
        · exact y
        · obtain ⟨k, k1, k2⟩ := ocB_ex u y
          have := h k n (by omega) (by omega) (by rw [k2, c])
          omega
      rw [if_pos c, z]
      decide
    · rw [if_neg c]
      omega
/-- a row is free where not 8 SNAPSHOTS stand -/
theorem RO_free (h : RO m S) (h8 : S.1 184 2 < 8) : ∃ r : Int, (0 ≤ r ∧ r < 8) ∧ S.1 190 r = 0 ∧ ∀ i : Int, 0 ≤ i → i < r → S.1 190 i ≠ 0 := by
  have up : ∀ (t : Nat) (i : Int), 0 ≤ i → i + t = 8 → (∀ k : Int, 0 ≤ k → k < i → S.1 190 k ≠ 0) → (∃ r : Int, (0 ≤ r ∧ r < 8) ∧ S.1 190 r = 0 ∧ ∀ i : Int, 0 ≤ i → i < r → S.1 190 i ≠ 0) ∨ ∀ k : Int, 0 ≤ k → k < 8 → S.1 190 k ≠ 0 := by
    intro t
    induction t with
    | zero => exact fun i i0 hi hk => Or.inr (fun k k0 k1 => hk k k0 (by omega))
    | succ t ih =>
      intro i i0 hi hk
      by_cases c : S.1 190 i = 0
      · exact Or.inl ⟨i, by omega, c, hk⟩
      · refine ih (i + 1) (by omega) (by omega) (fun k k0 k1 => ?_)
        by_cases ck : k = i
        · rw [ck]
          exact c
        · exact hk k k0 (by omega)
  rcases up 8 0 (by omega) (by omega) (fun k k0 k1 => absurd k1 (by omega)) with y | y
  · exact y
  · exfalso
    obtain ⟨-, ⟨n1, -⟩, -, -, ⟨hd1, -⟩, ⟨-, hm2⟩, -⟩ := h
    have ex : ∀ k : Nat, ∃ s : Int, k < 8 → (0 ≤ s ∧ s < S.1 184 2) ∧ S.1 190 k = S.1 449 s := by
      intro k
      by_cases c : k < 8
      · obtain ⟨s, s1, o⟩ := hm2 k (by omega) (by omega) (y k (by omega) (by omega))
        exact ⟨s, fun _ => ⟨s1, o.2.1⟩⟩
      · exact ⟨0, fun z => absurd z c⟩
    let u : Nat → Int := fun k => Classical.choose (ex k)
    have hu : ∀ k, k < 8 → (0 ≤ u k ∧ u k < S.1 184 2) ∧ S.1 190 k = S.1 449 (u k) := fun k hk => Classical.choose_spec (ex k) hk
    have s1 := ocN_sum (u := u) (M := (S.1 184 2).toNat) (n := 8) (fun k hk => by
      have := (hu k hk).1
      omega)
    have s2 := sm_le (n := (S.1 184 2).toNat) (f := fun x : Nat => ocN u 8 x) (c := 1) (fun x _ => ocN_one (fun i j hi hj e => by
      have e1 := (hu i hi).2
      have e2 := (hu j hj).2
      rw [e, ← e2] at e1
      have := hd1 i j (by omega) (by omega) (by omega) (by omega) e1 (y i (by omega) (by omega))
      omega))
    omega
theorem lp_freeRow (hr : 0 ≤ r ∧ r < 8) (hr0 : S.1 190 r = 0) (hn : ∀ i : Int, 0 ≤ i → i < 8 → w32 (S.1 190 i) = S.1 190 i) (no : ∀ i : Int, 0 ≤ i → i < r → S.1 190 i ≠ 0) : ∀ (t : Nat) (i : Int), 0 ≤ i → i + t = r → EV q 242 2 [some (.ref 184), some (vI i)] [] S (some (vI r)) S := by
  intro t
  induction t with
  | zero =>
    intro i i0 hi
    have e : i = r := by omega
    subst e
    have wi : w32 i = i := w32_of (by omega)
    refine vc_Store_freeRow_2 _ ?_
    rw [wi, hn i hr.1 hr.2, hr0]
    exact ⟨fun n => absurd n (by omega), fun _ => ⟨by omega, fun n => absurd rfl n, fun _ => ⟨rfl, rfl⟩⟩⟩
  | succ t ih =>
    intro i i0 hi
    have wi : w32 i = i := w32_of (by omega)
    refine vc_Store_freeRow_2 _ ?_
    rw [wi, hn i i0 (by omega)]
    exact ⟨fun n => absurd n (by omega), fun _ => ⟨by omega, fun _ => ih (i + 1) (by omega) (by omega), fun n => absurd (no i i0 (by omega)) n⟩⟩
theorem RO_mono (h : RO m S) (hm : m < 100000) : RO (m + 1) S := by
  obtain ⟨h1, ⟨h2, h3, h4, h5⟩, h6⟩ := h
  exact ⟨h1, ⟨h2, h3, by omega, by omega⟩, h6⟩
/-- save() -/
theorem op32_ok (h : RO m S) (hm : m < 100000) (hT : RT S) : op_32 q a b d S (fun T => EX XO S T ∧ RO (m + 1) T) := by
  obtain ⟨⟨w1, w2, w3, w4⟩, ⟨n1, n2, n3, n4⟩, hB, hL, -, -, hu, s1, s2, s3⟩ := id h
  obtain ⟨t1, t2, t3⟩ := hT
  have x0 : EX XO S (wI S 367 0 0) := (EX.refl _ _).wr (Or.inr (Or.inr ⟨rfl, Or.inl rfl⟩))
  have wm : w32 (S.1 184 2) = S.1 184 2 := w32_of (by omega)
  by_cases c8 : S.1 184 2 < 8
  · obtain ⟨r, hr, hr0, hno⟩ := RO_free h c8
    obtain ⟨s, hs⟩ : ∃ s : Int, s = S.1 184 2 := ⟨_, rfl⟩
    obtain ⟨n0, en0⟩ : ∃ n0 : Int, S.1 1 1 = n0 := ⟨_, rfl⟩
    rw [en0] at t1 t2 t3
    have sv0 : ∀ B : ms, (∀ (a : Nat) (k : Int), 366 < a → ¬ (a = 367 ∧ k = 0) → ¬ (a = 451 ∧ k = s) → B.1 a k = S.1 a k) → B.1 451 s = 0 → SV S S B r s n0 0 0 := by
      intro B hB' hs0
      have e : ∀ a : Nat, 367 < a → a ≠ 451 → B.1 a = S.1 a := fun a h1 h2 => funext (fun k => hB' a k (by omega) (by omega) (by omega))
      refine ⟨⟨en0, rfl, by rw [hB' _ _ (by decide) (by decide) (by omega)]; exact t2, e 368 (by decide) (by decide)⟩, fun b b0 b1 => ?_, fun b b0 b1 => ⟨fun _ => rfl, fun z1 z2 => absurd z1 z2⟩, fun k hk => absurd hk (by omega), ⟨hs0, rfl, ⟨Int.le_refl _, t1.1⟩, Or.inl (by omega)⟩, ⟨?_, ?_, ?_, s2, ?_, s3⟩, ⟨rfl, fun _ _ _ => rfl⟩, fun a k ha => hB' a k (by omega) (by omega) (by omega)⟩
      · have o := hB b b0 b1
        unfold OB at o
        unfold OX
        rw [e 446 (by decide) (by decide), e 447 (by decide) (by decide), e 448 (by decide) (by decide)]
        exact o
      · rw [hB' _ _ (by decide) (by decide) (by omega), w1]
      · rw [e 448 (by decide) (by decide)]
        exact s1
      · rw [hB' _ _ (by decide) (by decide) (by omega), w2]
      · rw [s2]
        exact sm_nn (fun k hk => (hB k (by omega) (by omega)).1.1)
    have svS := sv0 (wI S 451 s 0) (fun a k _ _ h3 => by rw [rI_I, if_neg h3]) (by rw [rI_I, if_pos ⟨rfl, rfl⟩])
    obtain ⟨zc, A', kA, ⟨a1, a2, a3⟩, kB⟩ := sv_loop (q := q) (S := S) (r := r) (s := s) (n0 := n0) h hm hr hr0 hs c8 t1.2 t3 n0.toNat S (wI S 451 s 0) 0 0 (by omega) svS
    have o : ∀ (a : Nat) (k : Int), 366 < a → ¬ (a = 367 ∧ k = 0) → (wI A' 367 0 0).1 a k = S.1 a k := fun a k h1 h2 => by rw [rI_I, if_neg h2, a3 a k h1]
    obtain ⟨zr, B', kR, ⟨b1, b2, b3⟩, post⟩ := kB (wI (wI A' 367 0 0) 451 s 0) (sv0 _ (fun a k h1 h2 h3 => by rw [rI_I, if_neg h3, o a k h1 h2]) (by rw [rI_I, if_pos ⟨rfl, rfl⟩]))
    have mx : MX A' B' B' := ⟨fun a k h1 => by rw [b3 a k h1, rI_I, if_neg (by omega), rI_I, if_neg (by omega)], fun _ _ _ => rfl⟩
    have ex : EX XO S B' := ⟨b1.trans a1, fun a k ha => by rw [b2 a k ha, rI_I, if_neg (by omega), rI_I, if_neg (by omega), a2 a k ha]⟩
    have r1 : isRow 1 6000 := ⟨rfl, rfl⟩
    have wr : w32 r = r := w32_of (by omega)
    have ws : w32 s = s := w32_of (by omega)
    have kfr := vc_Store_freeRow (q := q) (S := S) (lp_freeRow (q := q) hr hr0 (fun i i0 i1 => w32_of (by have := (hL i i0 i1).2.1; omega)) hno r.toNat 0 (by omega) (by omega))
    have kkeep : EV q 241 0 [some (.ref 184), some (.ref 1), none, none, none, none, none, none] [] S (some (vI zc)) A' := vc_Store_keep 1 6000 r1 ⟨r, S, kfr, fun _ => kA, fun n => absurd (by omega) n⟩
    have e129 : (wI A' 367 0 0).1 367 129 = s := by rw [o _ _ (by decide) (by decide), w3, hs]
    have kref : EV q 421 0 [some (.ref 367), none, none, none, none, none, none] [] A' (some (vI zr)) B' := by
      refine vc_MD_save (fun S1 f => ?_)
      subst f
      rw [e129, ws]
      refine ⟨fun _ => ⟨by omega, fun S3 f3 => ?_⟩, fun n => absurd (by omega) n⟩
      subst f3
      exact kR
    rcases post with ⟨p1, p2, p3, p4⟩ | ⟨p1, p2, p3⟩
    · refine ⟨S.1 184 3 + 1, A', zr, B', vc_PH_save ?_, kref, by rw [p2], ex, p4 B' mx⟩
      rw [wm]
      refine ⟨fun _ => ⟨zc, A', kkeep, fun n => absurd n (by rw [p1]; decide), fun _ => ⟨by rw [p3], rfl⟩⟩, fun n => absurd c8 n⟩
    · refine ⟨-4, A', zr, B', vc_PH_save ?_, kref, by rw [p2], ex, RO_mono (p3 B' mx) hm⟩
      rw [wm]
      exact ⟨fun _ => ⟨zc, A', kkeep, fun _ => ⟨rfl, rfl⟩, fun n => absurd (by rw [p1]; rfl) n⟩, fun n => absurd c8 n⟩
  · have e8 : S.1 184 2 = 8 := by omega
    refine ⟨-4, S, -4, wI S 367 0 0, vc_PH_save ?_, vc_MD_save (fun S1 f => ?_), rfl, x0, RO_mono (RO_cg h (fun a k z => by rw [rI_I, if_neg (by omega)])) hm⟩
    · rw [wm]
      exact ⟨fun n => absurd n c8, fun _ => ⟨rfl, rfl⟩⟩
    · subst f
      rw [r0 129 (by decide), w3, wm, e8]
      exact ⟨fun n => absurd rfl n, fun _ => ⟨rfl, rfl⟩⟩
end Save6
