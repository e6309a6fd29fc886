/-! UNSAFE; told on both sides -/
section Told
variable {q : Nat × (Nat → Int32)} {S : ms} {a b d : Int}
theorem b8_is {v c : Int} (hv : 0 ≤ v ∧ v < 256) (hc : 0 ≤ c ∧ c < 128) : w32 (b8 v) = c ↔ v = c := by
  have h : -128 ≤ b8 v ∧ b8 v < 128 := by
    unfold b8
    omega
  rw [w32_of (by omega)]
  unfold b8
  omega
theorem un_c47' {i x1 y : Int} {a0 a2 na2 : Nat} {r : Option Value} {S' : ms} (ha0 : isShelf a0) (ha2 : isRow a2 na2) (hy : y = 0 ∨ y = 1) (F : EV q 209 40 [some (.ref a0), some (vI x1), some (.ref a2), some (vI (i + 1)), some (vI 1), some (vI y), some (vI (i + 1)), none] [] S r S') : EV q 209 110 [some (.ref a0), some (vI x1), some (.ref a2), some (vI (i + 1)), some (vI 1), some (vI y), some (vI i), some (vI 47)] [] S r S' := by
  refine vc_Shelf_isUnsafe_110 _ _ _ _ _ _ a0 ha0 a2 na2 ha2 ⟨fun c => absurd c (by decide), fun _ => ⟨fun c => absurd (by decide) c, fun _ => vc_Shelf_isUnsafe_126 _ _ _ _ _ _ _ a0 ha0 a2 na2 ha2 (vc_Shelf_isUnsafe_131 _ _ _ _ _ _ _ _ a0 ha0 a2 na2 ha2 ⟨fun c => absurd c (by decide), fun _ => ⟨fun _ => vc_Shelf_isUnsafe_155 _ _ _ _ _ _ _ _ a0 ha0 a2 na2 ha2 ?_, fun c => absurd (by decide) c⟩⟩)⟩⟩
  rw [show bA 1 1 = 1 by decide, show bO y 0 = y by rcases hy with e | e <;> subst e <;> decide]
  exact F
theorem un_c47 {i p dt u x1 : Int} {a0 a2 na2 : Nat} {r : Option Value} {S' : ms} (ha0 : isShelf a0) (ha2 : isRow a2 na2) (hip : 0 ≤ p ∧ p ≤ i ∧ i < 1000) (hd : dt = 0 ∨ dt = 1) (hu : u = 0 ∨ u = 1) (F : EV q 209 40 [some (.ref a0), some (vI x1), some (.ref a2), some (vI (i + 1)), some (vI 1), some (vI (if u = 1 ∨ (dt = 1 ∧ i - p = 2) then 1 else 0)), some (vI (i + 1)), none] [] S r S') : EV q 209 70 [some (.ref a0), some (vI x1), some (.ref a2), some (vI p), some (vI dt), some (vI u), some (vI i), none] [vI 47] S r S' := by
  have ew : w32 (i - p) = i - p := w32_of (by omega)
  have ed : w32 dt = dt := w32_of (by omega)
  refine vc_Shelf_isUnsafe_70 _ _ _ _ _ _ a0 ha0 a2 na2 ha2 ⟨fun n => absurd (by decide) n, fun _ => ?_⟩
  rw [ew, ed]
  have b0 : bO u 0 = u := by rcases hu with e | e <;> subst e <;> decide
  have b1 : bO u 1 = 1 := by rcases hu with e | e <;> subst e <;> decide
  have no : ¬ (dt = 1 ∧ i - p = 2) → EV q 209 98 [some (.ref a0), some (vI x1), some (.ref a2), some (vI p), some (vI dt), some (vI u), some (vI i), some (vI 47)] [vI u] S r S' := by
    intro n
    refine vc_Shelf_isUnsafe_98 _ _ _ _ _ _ _ a0 ha0 a2 na2 ha2 (vc_Shelf_isUnsafe_99 _ _ _ _ _ _ _ _ a0 ha0 a2 na2 ha2 ?_)
    rw [b0]
    refine un_c47' ha0 ha2 hu ?_
    have e : (if u = 1 ∨ (dt = 1 ∧ i - p = 2) then (1 : Int) else 0) = u := by
      rcases hu with e | e
      · rw [if_neg (by omega), e]
      · rw [if_pos (Or.inl e), e]
    rw [e] at F
    exact F
  refine ⟨fun c => no (by omega), fun c => ⟨fun c2 => no (fun z => c2 z.2), fun c2 => ?_⟩⟩
  refine vc_Shelf_isUnsafe_99 _ _ _ _ _ _ _ _ a0 ha0 a2 na2 ha2 ?_
  rw [b1]
  refine un_c47' ha0 ha2 (Or.inr rfl) ?_
  rw [if_pos (Or.inr ⟨by omega, Classical.not_not.mp c2⟩)] at F
  exact F
theorem un_cv {i p dt u v x1 : Int} {a0 a2 na2 : Nat} {r : Option Value} {S' : ms} (ha0 : isShelf a0) (ha2 : isRow a2 na2) (hv : 0 ≤ v ∧ v < 256) (hn : v ≠ 47) (hd : dt = 0 ∨ dt = 1) (hu : u = 0 ∨ u = 1) (F : EV q 209 40 [some (.ref a0), some (vI x1), some (.ref a2), some (vI p), some (vI (if dt = 1 ∧ v = 46 then 1 else 0)), some (vI (if u = 1 ∨ v = 92 ∨ v = 58 then 1 else 0)), some (vI (i + 1)), none] [] S r S') : EV q 209 70 [some (.ref a0), some (vI x1), some (.ref a2), some (vI p), some (vI dt), some (vI u), some (vI i), none] [vI v] S r S' := by
  have wv : w32 v = v := w32_of (by omega)
  have b0 : bO u 0 = u := by rcases hu with e | e <;> subst e <;> decide
  have b1 : bO u 1 = 1 := by rcases hu with e | e <;> subst e <;> decide
  have a0' : bA dt 0 = 0 := by rcases hd with e | e <;> subst e <;> decide
  have a1' : bA dt 1 = dt := by rcases hd with e | e <;> subst e <;> decide
  have k : ∀ e : Int, bA dt e = (if dt = 1 ∧ v = 46 then 1 else 0) → EV q 209 131 [some (.ref a0), some (vI x1), some (.ref a2), some (vI p), some (vI dt), some (vI u), some (vI i), some (vI v)] [vI e, vI dt] S r S' := by
    intro e he
    refine vc_Shelf_isUnsafe_131 _ _ _ _ _ _ _ _ a0 ha0 a2 na2 ha2 ?_
    rw [wv, he]
    have yes : (v = 92 ∨ v = 58) → EV q 209 150 [some (.ref a0), some (vI x1), some (.ref a2), some (vI p), some (vI (if dt = 1 ∧ v = 46 then 1 else 0)), some (vI u), some (vI i), some (vI v)] [vI u] S r S' := by
      intro c
      refine vc_Shelf_isUnsafe_150 _ _ _ _ _ _ _ a0 ha0 a2 na2 ha2 (vc_Shelf_isUnsafe_155 _ _ _ _ _ _ _ _ a0 ha0 a2 na2 ha2 ?_)
      rw [b1]
      rw [if_pos (show u = 1 ∨ v = 92 ∨ v = 58 from Or.inr c)] at F
      exact F
    refine ⟨fun c => yes (Or.inl c), fun c => ⟨fun c2 => vc_Shelf_isUnsafe_155 _ _ _ _ _ _ _ _ a0 ha0 a2 na2 ha2 ?_, fun c2 => yes (Or.inr (Classical.not_not.mp c2))⟩⟩
    rw [b0]
    have e : (if u = 1 ∨ v = 92 ∨ v = 58 then (1 : Int) else 0) = u := by
      rcases hu with e | e
      · rw [if_neg (by omega), e]
      · rw [if_pos (Or.inl e), e]
    rw [e] at F
    exact F
  refine vc_Shelf_isUnsafe_70 _ _ _ _ _ _ a0 ha0 a2 na2 ha2 ⟨fun _ => vc_Shelf_isUnsafe_110 _ _ _ _ _ _ a0 ha0 a2 na2 ha2 ?_, fun n => absurd (by rw [wv]; exact hn) n⟩
  rw [wv]
  refine ⟨fun c => vc_Shelf_isUnsafe_126 _ _ _ _ _ _ _ a0 ha0 a2 na2 ha2 (k 1 ?_), fun c => ⟨fun _ => k 0 ?_, fun n => absurd hn n⟩⟩
  · rw [a1']
    rcases hd with e | e
    · rw [if_neg (by omega), e]
    · rw [if_pos ⟨e, c⟩, e]
  · rw [a0', if_neg (fun z => c z.2)]
/-- both look a name over -/
theorem lp_unsafe {sh o : Nat} {m : Int} (hs : isShelf sh) (ho : isRow o 100) (hm : 1 ≤ m ∧ m ≤ 100) (em : S.1 o 1 = m) (ha : 0 ≤ a ∧ a < 16) {T : ms} (hT : ∀ k : Int, 0 ≤ k → k < m → (1 ≤ S.1 (o + 1) k ∧ S.1 (o + 1) k < 256) ∧ T.1 419 (100 * a + k) = b8 (S.1 (o + 1) k)) : ∀ (t : Nat) (i p dt u : Int), 0 ≤ p → p ≤ i → i + t = m + 1 → (dt = 0 ∨ dt = 1) → (u = 0 ∨ u = 1) → (dt = 1 ↔ ∀ k : Int, p ≤ k → k < i → S.1 (o + 1) k = 46) → ∃ z : Int, (z = 0 ∨ z = 1) ∧ EV q 209 40 [some (.ref sh), some (vI a), some (.ref o), some (vI p), some (vI dt), some (vI u), some (vI i), none] [] S (some (vI z)) S ∧ EV q 376 36 [some (.ref 367), some (vI a), some (vI (100 * a)), some (vI m), some (vI u), some (vI p), some (vI i)] [] T (some (vI z)) T := by
  have wm : w32 m = m := w32_of (by omega)
  intro t
  induction t with
  | zero =>
    intro i p dt u p0 pi ht hd hu hdt
    have wi : w32 i = i := w32_of (by omega)
    refine ⟨u, hu, vc_Shelf_isUnsafe_40 _ _ _ _ _ sh hs o 100 ho ?_, vc_MD_isUnsafe_36 _ _ _ _ _ _ ?_⟩
    · rw [em, wm, wi]
      exact ⟨fun _ => ⟨hu, rfl, rfl⟩, fun n => absurd (by omega) n⟩
    · rw [wm, wi]
      exact ⟨fun _ => ⟨hu, rfl, rfl⟩, fun n => absurd (by omega) n⟩
  | succ t ih =>
    intro i p dt u p0 pi ht hd hu hdt
    have wi : w32 i = i := w32_of (by omega)
    have wu : w32 u = u := w32_of (by omega)
    have wip : w32 (i - p) = i - p := w32_of (by omega)
    have k47 : ∃ z : Int, (z = 0 ∨ z = 1) ∧ EV q 209 70 [some (.ref sh), some (vI a), some (.ref o), some (vI p), some (vI dt), some (vI u), some (vI i), none] [vI 47] S (some (vI z)) S ∧ EV q 376 105 [some (.ref 367), some (vI a), some (vI (100 * a)), some (vI m), some (vI u), some (vI p), some (vI i)] [] T (some (vI z)) T := by
      obtain ⟨z, hz, z1, z2⟩ := ih (i + 1) (i + 1) 1 (if u = 1 ∨ (dt = 1 ∧ i - p = 2) then 1 else 0) (by omega) (Int.le_refl _) (by omega) (Or.inr rfl) (by by_cases c : u = 1 ∨ (dt = 1 ∧ i - p = 2) <;> simp [c]) ⟨fun _ k k1 k2 => absurd k2 (by omega), fun _ => rfl⟩
      refine ⟨z, hz, un_c47 hs ho (by omega) hd hu z1, vc_MD_isUnsafe_105 _ _ _ _ _ _ ?_⟩
      rw [wu, wip]
      have yes : (u = 1 ∨ (dt = 1 ∧ i - p = 2)) → EV q 376 149 [some (.ref 367), some (vI a), some (vI (100 * a)), some (vI m), some (vI u), some (vI p), some (vI i)] [] T (some (vI z)) T := by
        intro c
        rw [if_pos c] at z2
        exact vc_MD_isUnsafe_149 _ _ _ _ _ _ (vc_MD_isUnsafe_154 _ _ _ _ _ _ _ (vc_MD_isUnsafe_162 _ _ _ _ _ _ z2))
      have no : ¬ (u = 1 ∨ (dt = 1 ∧ i - p = 2)) → EV q 376 153 [some (.ref 367), some (vI a), some (vI (100 * a)), some (vI m), some (vI u), some (vI p), some (vI i)] [] T (some (vI z)) T := by
        intro c
        rw [if_neg c] at z2
        exact vc_MD_isUnsafe_153 _ _ _ _ _ _ (vc_MD_isUnsafe_154 _ _ _ _ _ _ _ (vc_MD_isUnsafe_162 _ _ _ _ _ _ z2))
      refine ⟨fun c => yes (Or.inl (by omega)), fun c => ⟨fun c2 => no (by omega), fun c2 => ?_⟩⟩
      have c2' : i - p = 2 := Classical.not_not.mp c2
      have u0 : u = 0 := Classical.not_not.mp c
      obtain ⟨s1, s2⟩ := hT p p0 (by omega)
      obtain ⟨s3, s4⟩ := hT (p + 1) (by omega) (by omega)
      have w1 : w32 (100 * a + p) = 100 * a + p := w32_of (by omega)
      have w2 : w32 (100 * a + p + 1) = 100 * a + p + 1 := w32_of (by omega)
      rw [← Int.add_assoc] at s4
      rw [w1, w2, s2, s4]
      have q1 := b8_is (v := S.1 (o + 1) p) (c := 46) (by omega) (by decide)
      have q2 := b8_is (v := S.1 (o + 1) (p + 1)) (c := 46) (by omega) (by decide)
      refine ⟨by omega, fun n => no ?_, fun y1 => ⟨by omega, fun n => no ?_, fun y2 => yes ?_⟩⟩
      · rintro (c | ⟨c, -⟩)
        · omega
        · exact n (q1.mpr (hdt.mp c p (Int.le_refl _) (by omega)))
      · rintro (c | ⟨c, -⟩)
        · omega
        · exact n (q2.mpr (hdt.mp c (p + 1) (by omega) (by omega)))
      · refine Or.inr ⟨hdt.mpr (fun k k1 k2 => ?_), c2'⟩
        have v1 := q1.mp (Classical.not_not.mp y1)
        have v2 := q2.mp (Classical.not_not.mp y2)
        by_cases e : k = p
        · rw [e]
          exact v1
        · rw [show k = p + 1 by omega]
          exact v2
    by_cases ci : i = m
    · obtain ⟨z, hz, z1, z2⟩ := k47
      refine ⟨z, hz, vc_Shelf_isUnsafe_40 _ _ _ _ _ sh hs o 100 ho ?_, vc_MD_isUnsafe_36 _ _ _ _ _ _ ?_⟩
      · rw [em, wm, wi]
        exact ⟨fun n => absurd n (by omega), fun _ => ⟨fun _ => z1, fun n => absurd (by omega) n⟩⟩
      · rw [wm, wi]
        exact ⟨fun n => absurd n (by omega), fun _ => ⟨fun _ => z2, fun n => absurd (by omega) n⟩⟩
    · obtain ⟨s1, s2⟩ := hT i (by omega) (by omega)
      have w1 : w32 (100 * a + i) = 100 * a + i := w32_of (by omega)
      have q47 := b8_is (v := S.1 (o + 1) i) (c := 47) (by omega) (by decide)
      have q92 := b8_is (v := S.1 (o + 1) i) (c := 92) (by omega) (by decide)
      have q58 := b8_is (v := S.1 (o + 1) i) (c := 58) (by omega) (by decide)
      by_cases cv : S.1 (o + 1) i = 47
      · obtain ⟨z, hz, z1, z2⟩ := k47
        refine ⟨z, hz, vc_Shelf_isUnsafe_40 _ _ _ _ _ sh hs o 100 ho ?_, vc_MD_isUnsafe_36 _ _ _ _ _ _ ?_⟩
        · rw [em, wm, wi, cv]
          exact ⟨fun n => absurd n (by omega), fun _ => ⟨fun n => absurd n (by omega), fun _ => ⟨by omega, z1⟩⟩⟩
        · rw [wm, wi, w1, s2]
          exact ⟨fun n => absurd n (by omega), fun _ => ⟨fun n => absurd n (by omega), fun _ => ⟨by omega, fun _ => z2, fun n => absurd (q47.mpr cv) n⟩⟩⟩
      · obtain ⟨z, hz, z1, z2⟩ := ih (i + 1) p (if dt = 1 ∧ S.1 (o + 1) i = 46 then 1 else 0) (if u = 1 ∨ S.1 (o + 1) i = 92 ∨ S.1 (o + 1) i = 58 then 1 else 0) p0 (by omega) (by omega) (by by_cases c : dt = 1 ∧ S.1 (o + 1) i = 46 <;> simp [c]) (by by_cases c : u = 1 ∨ S.1 (o + 1) i = 92 ∨ S.1 (o + 1) i = 58 <;> simp [c]) (by
          by_cases c : dt = 1 ∧ S.1 (o + 1) i = 46
          · rw [if_pos c]
            refine ⟨fun _ k k1 k2 => ?_, fun _ => rfl⟩
            by_cases e : k = i
            · rw [e]
              exact c.2
            · exact hdt.mp c.1 k k1 (by omega)
          · rw [if_neg c]
            refine ⟨fun n => absurd n (by decide), fun n => absurd ⟨hdt.mpr (fun k k1 k2 => n k k1 (by omega)), n i pi (by omega)⟩ c⟩)
        refine ⟨z, hz, vc_Shelf_isUnsafe_40 _ _ _ _ _ sh hs o 100 ho ?_, vc_MD_isUnsafe_36 _ _ _ _ _ _ ?_⟩
        · rw [em, wm, wi]
          exact ⟨fun n => absurd n (by omega), fun _ => ⟨fun n => absurd n (by omega), fun _ => ⟨by omega, un_cv hs ho (by omega) cv hd hu z1⟩⟩⟩
        · rw [wm, wi, w1, s2, wu]
          have yes : (u = 1 ∨ S.1 (o + 1) i = 92 ∨ S.1 (o + 1) i = 58) → EV q 376 95 [some (.ref 367), some (vI a), some (vI (100 * a)), some (vI m), some (vI u), some (vI p), some (vI i)] [] T (some (vI z)) T := by
            intro c
            rw [if_pos c] at z2
            exact vc_MD_isUnsafe_95 _ _ _ _ _ _ (vc_MD_isUnsafe_100 _ _ _ _ _ _ _ (vc_MD_isUnsafe_162 _ _ _ _ _ _ z2))
          refine ⟨fun n => absurd n (by omega), fun _ => ⟨fun n => absurd n (by omega), fun _ => ⟨by omega, fun n => absurd (q47.mp n) cv, fun _ => ⟨fun c => yes (Or.inl (by omega)), fun c => ⟨by omega, fun c2 => yes (Or.inr (Or.inl (q92.mp c2))), fun c2 => ⟨by omega, fun c3 => ?_, fun c3 => yes (Or.inr (Or.inr (q58.mp (Classical.not_not.mp c3))))⟩⟩⟩⟩⟩⟩
          have n3 : ¬ (u = 1 ∨ S.1 (o + 1) i = 92 ∨ S.1 (o + 1) i = 58) := by
            rintro (e | e | e)
            · exact absurd (Classical.not_not.mp c) (by omega)
            · exact c2 (q92.mpr e)
            · exact c3 (q58.mpr e)
          rw [if_neg n3] at z2
          exact vc_MD_isUnsafe_100 _ _ _ _ _ _ _ (vc_MD_isUnsafe_162 _ _ _ _ _ _ z2)
end Told
