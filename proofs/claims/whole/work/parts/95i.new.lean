/-! the first free number, a new STREAM; extract on both sides -/
section NewStream
variable {q : Nat × (Nat → Int32)} {S : ms} {a b d : Int}
/-- f is the first free number of a STREAM (13: there is none) -/
def FR (S : ms) (f : Int) : Prop := (1 ≤ f ∧ f ≤ 13) ∧ (∀ k : Int, 1 ≤ k → k < f → S.1 4 k = 1) ∧ (f ≤ 12 → S.1 4 f = 0)
theorem fr_ex (h : RS S) : ∃ f, FR S f := by
  have key : ∀ (t : Nat) (i : Int), 1 ≤ i → i + t = 13 → (∀ k : Int, 1 ≤ k → k < i → S.1 4 k = 1) → ∃ f, FR S f := by
    intro t
    induction t with
    | zero =>
      intro i h1 h2 h3
      exact ⟨i, by omega, h3, fun z => absurd z (by omega)⟩
    | succ t ih =>
      intro i h1 h2 h3
      rcases (h i h1 (by omega)).1 with z | z
      · exact ⟨i, by omega, h3, fun _ => z⟩
      · refine ih (i + 1) (by omega) (by omega) (fun k k1 k2 => ?_)
        by_cases e : k = i
        · rw [e]
          exact z
        · exact h3 k k1 (by omega)
  exact key 12 1 (by decide) (by decide) (fun k k1 k2 => absurd k2 (by omega))
theorem ph_free {f : Int} (h : FR S f) : EV q 43 0 [some (.ref 0), none] [] S (some (vI (if f ≤ 12 then f else 0))) S := by
  obtain ⟨⟨f1, f2⟩, h2, h3⟩ := h
  refine vc_PH_freeNumber ?_
  have key : ∀ (t : Nat) (i : Int), 1 ≤ i → i + t = f → EV q 43 2 [some (.ref 0), some (vI i)] [] S (some (vI (if f ≤ 12 then f else 0))) S := by
    intro t
    induction t with
    | zero =>
      intro i hi ht
      have e : i = f := by omega
      subst e
      have ei : w32 i = i := w32_of (by omega)
      refine vc_PH_freeNumber_2 _ ?_
      rw [ei]
      by_cases c : i ≤ 12
      · rw [if_pos c]
        refine ⟨fun n => absurd n (by omega), fun _ => ⟨by omega, fun n => ?_, fun _ => ⟨rfl, rfl⟩⟩⟩
        rw [h3 c] at n
        exact absurd rfl n
      · rw [if_neg c]
        exact ⟨fun _ => ⟨rfl, rfl⟩, fun n => absurd (by omega) n⟩
    | succ t ih =>
      intro i hi ht
      have ei : w32 i = i := w32_of (by omega)
      refine vc_PH_freeNumber_2 _ ?_
      rw [ei, h2 i hi (by omega)]
      exact ⟨fun n => absurd n (by omega), fun _ => ⟨by omega, fun _ => ih (i + 1) (by omega) (by omega), fun n => absurd (by decide) n⟩⟩
  exact key (f - 1).toNat 1 (by decide) (by omega)
theorem md_free {T : ms} {f : Int} (h : FR S f) (hT : ∀ k : Int, 1 ≤ k → k ≤ 12 → T.1 371 k = S.1 4 k) : EV q 277 0 [some (.ref 367), none] [] T (some (vI (if f ≤ 12 then f else -4))) T := by
  obtain ⟨⟨f1, f2⟩, h2, h3⟩ := h
  refine vc_MD_freeStream ?_
  have key : ∀ (t : Nat) (i : Int), 1 ≤ i → i + t = f → EV q 277 2 [some (.ref 367), some (vI i)] [] T (some (vI (if f ≤ 12 then f else -4))) T := by
    intro t
    induction t with
    | zero =>
      intro i hi ht
      have e : i = f := by omega
      subst e
      have ei : w32 i = i := w32_of (by omega)
      refine vc_MD_freeStream_2 _ ?_
      rw [ei]
      by_cases c : i ≤ 12
      · rw [if_pos c]
        refine ⟨fun n => absurd n (by omega), fun _ => ⟨by omega, fun _ => vc_MD_freeStream_23 _ ?_, fun n => ?_⟩⟩
        · rw [ei]
          exact ⟨fun n => absurd n (by omega), fun _ => ⟨rfl, rfl⟩⟩
        · rw [hT i hi c, h3 c] at n
          exact absurd rfl n
      · rw [if_neg c]
        exact ⟨fun _ => vc_MD_freeStream_23 _ (by rw [ei]; exact ⟨fun _ => ⟨rfl, rfl⟩, fun n => absurd (by omega) n⟩), fun n => absurd (by omega) n⟩
    | succ t ih =>
      intro i hi ht
      have ei : w32 i = i := w32_of (by omega)
      refine vc_MD_freeStream_2 _ ?_
      rw [ei, hT i hi (by omega), h2 i hi (by omega)]
      exact ⟨fun n => absurd n (by omega), fun _ => ⟨by omega, fun n => absurd n (by decide), fun _ => ih (i + 1) (by omega) (by omega)⟩⟩
  exact key (f - 1).toNat 1 (by decide) (by omega)
/-- the class: the first n cells of array c become STREAM f -/
theorem ph_span {f : Int} {c n1 : Nat} (h : FR S f) (hf : f ≤ 12) (hc : SH c = (0, n1, [])) (hn1 : n1 < 1000000) (hne : c ≠ sR f) {n : Int} (h0 : 0 ≤ n) (hn : n ≤ n1) (hm : n ≤ 12000) : EV q 212 0 [some (.ref 0), some (.ref c), some (vI 0), some (vI n), none] [] S (some (vI f)) (wI (RW (CL S (sR f)) (sR f) 0 n (fun k => S.1 c k)) 4 f 1) := by
  have g := h.1
  obtain ⟨i1, i2⟩ := st_is g.1 hf
  have ef : w32 f = f := w32_of (by omega)
  have i1' : sh_r (SH 3).2.2 (w32 f).toNat = some (sR f) := by rw [ef]; exact i1
  have fr := ph_free (q := q) h
  rw [if_pos hf] at fr
  have k1 := sp_span (q := q) (S := CL S (sR f)) i2 hc (by decide) hn1 (p := 0) (fr := 0) (to := n) CL_1 (by decide) (by decide) h0 hn (by omega)
  have eg : (fun k => (CL S (sR f)).1 c (0 + k)) = fun k => S.1 c k := by
    funext k
    rw [CL_n _ hne, Int.zero_add]
  rw [eg, Int.sub_zero] at k1
  have ov : (RW (CL S (sR f)) (sR f) 0 n (fun k => S.1 c k)).1 (sR f) 2 = 0 := by
    rw [RW_at, if_neg (by omega), if_neg (by omega), CL_at, if_neg (by omega), if_pos ⟨rfl, rfl⟩]
  have st : EV q 112 0 [some (.ref 0), some (vI f)] [] (RW (CL S (sR f)) (sR f) 0 n (fun k => S.1 c k)) (some (vI f)) (wI (RW (CL S (sR f)) (sR f) 0 n (fun k => S.1 c k)) 4 f 1) := by
    refine vc_PH_settle f ⟨by omega, sR f, 12000, i1', i2, fun _ => ⟨by omega, fun S6 f6 => ⟨rfl, ?_⟩⟩, fun n => ?_⟩
    · subst f6
      rw [ef]
      rfl
    · rw [ov] at n
      exact absurd rfl n
  exact vc_PH_settleSpan 0 n c n1 hc ⟨f, S, fr, fun _ => ⟨by omega, sR f, 12000, i1', i2, CL S (sR f), sp_clear i2, by omega, sR f, 12000, i1', i2, _, k1, f, _, st, rfl, rfl⟩, fun n => absurd (by omega) n⟩
/-- the class: no number is free -/
theorem ph_span0 {f : Int} {c n1 : Nat} (h : FR S f) (hf : ¬ f ≤ 12) (hc : SH c = (0, n1, [])) {n : Int} : EV q 212 0 [some (.ref 0), some (.ref c), some (vI 0), some (vI n), none] [] S (some (vI (-4))) S := by
  have fr := ph_free (q := q) h
  rw [if_neg hf] at fr
  exact vc_PH_settleSpan 0 n c n1 hc ⟨0, S, fr, fun n => absurd rfl n, fun _ => ⟨rfl, rfl⟩⟩
theorem wC_gd (S : ms) (a : Nat) (p i : Int) (f : Int → Int) (hi : 0 ≤ i) : wI (wC S a p i f) a (p + i) (f i) = wC S a p (i + 1) f := by
  unfold wC wI
  congr 1
  funext b k
  dsimp only
  by_cases h1 : b = a
  · by_cases h2 : k = p + i
    · rw [if_pos ⟨h1, h2⟩, if_pos ⟨h1, by omega, by omega⟩, h2, show p + i - p = i by omega]
    · rw [if_neg (fun z => h2 z.2)]
      by_cases h3 : p ≤ k ∧ k < p + i
      · rw [if_pos ⟨h1, h3⟩, if_pos ⟨h1, by omega, by omega⟩]
      · rw [if_neg (fun z => h3 z.2), if_neg (fun z => h3 ⟨z.2.1, by omega⟩)]
  · rw [if_neg (fun z => h1 z.1), if_neg (fun z => h1 z.1), if_neg (fun z => h1 z.1)]
/-- the reference: n cells of array c, from place fr on, become STREAM f -/
theorem lp_mdnew {f fr n : Int} {c n1 : Nat} (hc : SH c = (1, n1, [])) (hn1 : n1 < 1000000) (hne : c ≠ 369) (f1 : 1 ≤ f) (f2 : f ≤ 12) (h0 : 0 ≤ fr) (hn : fr + n ≤ n1) (hm : n ≤ 12000) {U : ms} : ∀ (t : Nat) (i : Int), 0 ≤ i → i + t = n → EV q 328 25 [some (.ref 367), some (.ref c), some (vI fr), some (vI n), some (vI f), some (vI i)] [] (wC U 369 (12000 * f) i (fun k => b8 (U.1 c (fr + k)))) (some (vI f)) (wC U 369 (12000 * f) n (fun k => b8 (U.1 c (fr + k)))) := by
  intro t
  induction t with
  | zero =>
    intro i hi ht
    have e : i = n := by omega
    subst e
    exact vc_MD_newStream_25 _ _ _ _ c n1 hc ⟨fun _ => ⟨rfl, rfl⟩, fun z => absurd (Int.le_refl _) z⟩
  | succ t ih =>
    intro i hi ht
    have ei : w32 i = i := w32_of (by omega)
    have en : w32 n = n := w32_of (by omega)
    have e1 : w32 (fr + i) = fr + i := w32_of (by omega)
    have e2 : w32 (12000 * f + i) = 12000 * f + i := w32_of (by omega)
    refine vc_MD_newStream_25 _ _ _ _ c n1 hc ?_
    rw [ei, en, e1, e2]
    refine ⟨fun z => absurd z (by omega), fun _ => ⟨by omega, by omega, fun S3 f3 => ?_⟩⟩
    have e9 : (wC U 369 (12000 * f) i (fun k => b8 (U.1 c (fr + k)))).1 c (fr + i) = U.1 c (fr + i) := by
      rw [rI_C, if_neg (fun z => hne z.1)]
    rw [e9] at f3
    have := wC_gd U 369 (12000 * f) i (fun k => b8 (U.1 c (fr + k))) hi
    rw [this] at f3
    subst f3
    exact ih (i + 1) (by omega) (by omega)
theorem md_new {T : ms} {f fr n : Int} {c n1 : Nat} (h : FR S f) (hf : f ≤ 12) (hT : ∀ k : Int, 1 ≤ k → k ≤ 12 → T.1 371 k = S.1 4 k) (hc : SH c = (1, n1, [])) (hn1 : n1 < 1000000) (hne : c ≠ 369) (h0 : 0 ≤ fr) (hn0 : 0 ≤ n) (hn : fr + n ≤ n1) (hm : n ≤ 12000) : EV q 328 0 [some (.ref 367), some (.ref c), some (vI fr), some (vI n), none, none] [] T (some (vI f)) (wC (wI (wI T 371 f 1) 370 f n) 369 (12000 * f) n (fun k => b8 ((wI (wI T 371 f 1) 370 f n).1 c (fr + k)))) := by
  have g := h.1
  have ef : w32 f = f := w32_of (by omega)
  have fre := md_free (q := q) h hT
  rw [if_pos hf] at fre
  refine vc_MD_newStream fr n c n1 hc ⟨f, T, fre, by omega, fun S5 f5 => ⟨by omega, fun S7 f7 => ?_⟩⟩
  subst f5
  subst f7
  rw [ef]
  have key := lp_mdnew (q := q) hc hn1 hne g.1 hf h0 hn hm (U := wI (wI T 371 f 1) 370 f n) n.toNat 0 (by decide) (by omega)
  rw [wC_0] at key
  exact key
/-- extract(entry) -/
theorem op22_ok {sh : Nat} (ha : -2147483648 ≤ a ∧ a < 2147483648) (h : RE S sh) (hS : RS S) : op_22 q a b d S (fun T => T = wI S 367 0 0 ∨ ∃ f : Int, FR S f ∧ f ≤ 12 ∧ 0 ≤ a ∧ a < S.1 sh 4 ∧ T = (let n := S.1 (sh + 13 + 4 * a.toNat) 1; let U := wI (wI (wI (wI (RW (CL S (sR f)) (sR f) 0 n (fun k => S.1 (sh + 13 + 4 * a.toNat + 1) k)) 4 f 1) 367 0 0) 371 f 1) 370 f n; wC U 369 (12000 * f) n (fun k => b8 (U.1 423 (6000 * a + k))))) := by
  have ea : w32 a = a := w32_of ha
  obtain ⟨h1, h2, h3, h4, h5⟩ := h
  have hs := isSh_is h2
  have ec : w32 (S.1 sh 4) = S.1 sh 4 := w32_of (by omega)
  by_cases c : 0 ≤ a ∧ a < S.1 sh 4
  · have en : ((a.toNat : Nat) : Int) = a := by omega
    obtain ⟨-, -, ⟨x1, x2, -⟩⟩ := h5 a.toNat (by omega)
    rw [en] at x2
    obtain ⟨-, -, r1, r2⟩ := sh_nm h2 (n := a.toNat) (by omega)
    have r1' : sh_r (SH (sh + 2)).2.2 (w32 a).toNat = some (sh + 13 + 4 * a.toNat) := by rw [ea]; exact r1
    obtain ⟨f, hf⟩ := fr_ex hS
    have g := hf.1
    by_cases cf : f ≤ 12
    · have hrg := sR_rg g.1 cf
      have hsb : sh ≤ 268 := by rcases h2 with e | e <;> omega
      have hsc : 193 ≤ sh := by rcases h2 with e | e <;> omega
      have ne1 : sh + 13 + 4 * a.toNat + 1 ≠ sR f := by omega
      have k1 := ph_span (q := q) (S := S) hf cf r2.2 (by decide) ne1 x1.1 (by omega) (by omega)
      have o : ∀ (c : Nat) (k : Int), 366 < c → c ≠ 367 → (wI (wI (RW (CL S (sR f)) (sR f) 0 (S.1 (sh + 13 + 4 * a.toNat) 1) (fun k => S.1 (sh + 13 + 4 * a.toNat + 1) k)) 4 f 1) 367 0 0).1 c k = S.1 c k := by
        intro c k c1 c2
        rw [r0a _ _ c2, rI_I, if_neg (by omega), RW_at, if_neg (by omega), if_neg (by omega), CL_n _ (by omega)]
      have o88 : (wI (wI (RW (CL S (sR f)) (sR f) 0 (S.1 (sh + 13 + 4 * a.toNat) 1) (fun k => S.1 (sh + 13 + 4 * a.toNat + 1) k)) 4 f 1) 367 0 0).1 367 88 = S.1 sh 4 := by
        rw [r0 88 (by decide), rI_I, if_neg (by omega), RW_at, if_neg (by omega), if_neg (by omega), CL_n _ (by omega), h4]
      have oT : ∀ k : Int, 1 ≤ k → k ≤ 12 → (wI (wI (RW (CL S (sR f)) (sR f) 0 (S.1 (sh + 13 + 4 * a.toNat) 1) (fun k => S.1 (sh + 13 + 4 * a.toNat + 1) k)) 4 f 1) 367 0 0).1 371 k = S.1 4 k := by
        intro k k1 k2
        rw [o 371 k (by decide) (by decide), (hS k k1 k2).2.1]
      have fre := md_free (q := q) hf oT
      rw [if_pos cf] at fre
      have k2 := md_new (q := q) (fr := 6000 * a) (n := S.1 (sh + 13 + 4 * a.toNat) 1) hf cf oT sh_423 (by decide) (by decide) (by omega) x1.1 (by show 6000 * a + _ ≤ (96000 : Int); omega) (by omega)
      have ef : w32 f = f := w32_of (by omega)
      refine ⟨f, _, f, _, vc_PH_extract a ⟨fun n => absurd n (by omega), fun _ => ⟨sh, h1, hs, fun _ => ⟨sh, h1, hs, by omega, _, 6000, r1', r2, sh, h1, hs, by omega, _, 6000, r1', r2, f, _, k1, rfl, rfl⟩, fun n => absurd (by rw [ea, ec]; exact c.2) n⟩⟩, vc_MD_extract a (fun S1 e => ?_), rfl, Or.inr ⟨f, hf, cf, c.1, c.2, rfl⟩⟩
      subst e
      refine ⟨0, _, (md_ne (q := q) ea o88 h3).1 c, fun _ => ⟨f, _, fre, fun _ => ⟨by omega, f, _, ?_, rfl, rfl⟩, fun n => absurd (by omega) n⟩, fun n => absurd rfl n⟩
      rw [ea, o 424 a (by decide) (by decide), x2]
      exact k2
    · have fre := md_free (q := q) (T := wI S 367 0 0) hf (fun k k1 k2 => by rw [r0a 371 k (by decide), (hS k k1 k2).2.1])
      rw [if_neg cf] at fre
      refine ⟨-4, S, -4, wI S 367 0 0, vc_PH_extract a ⟨fun n => absurd n (by omega), fun _ => ⟨sh, h1, hs, fun _ => ⟨sh, h1, hs, by omega, _, 6000, r1', r2, sh, h1, hs, by omega, _, 6000, r1', r2, -4, S, ph_span0 hf cf r2.2, rfl, rfl⟩, fun n => absurd (by rw [ea, ec]; exact c.2) n⟩⟩, vc_MD_extract a (fun S1 e => ?_), rfl, Or.inl rfl⟩
      subst e
      exact ⟨0, _, (md_ne (q := q) ea (by rw [r0 88 (by decide), h4]) h3).1 c, fun _ => ⟨-4, _, fre, fun n => absurd n (by decide), fun _ => ⟨rfl, rfl⟩⟩, fun n => absurd rfl n⟩
  · refine ⟨-1, S, -1, wI S 367 0 0, vc_PH_extract a ?_, vc_MD_extract a (fun S1 f => ?_), rfl, Or.inl rfl⟩
    · rw [ea]
      refine ⟨fun _ => ⟨rfl, rfl⟩, fun n1 => ⟨sh, h1, hs, ?_⟩⟩
      rw [ec]
      exact ⟨fun n2 => absurd ⟨by omega, n2⟩ c, fun _ => ⟨rfl, rfl⟩⟩
    · subst f
      exact ⟨1, _, (md_ne (q := q) ea (by rw [r0 88 (by decide), h4]) h3).2 c, fun n => absurd n (by decide), fun _ => ⟨rfl, rfl⟩⟩
end NewStream
