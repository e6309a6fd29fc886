/-! SORTED: octets of the row -/
section SrtB
variable {q : Nat × (Nat → Int32)} {en : Int}
def fT (f : Int → Int) (n : Nat) (v : Int) : Int → Int := fun k => if k < n then f k else v
theorem fT_lo {f : Int → Int} {n : Nat} {v k : Int} (h : k < n) : fT f n v k = f k := if_pos h
theorem fT_hi {f : Int → Int} {n : Nat} {v k : Int} (h : ¬ k < n) : fT f n v k = v := if_neg h
theorem fT_rg {f : Int → Int} {n m : Nat} {v : Int} (h : ∀ k : Nat, k < n → 0 ≤ f k ∧ f k < 256) (hv : 0 ≤ v ∧ v < 256) : ∀ k : Nat, k < m → 0 ≤ fT f n v k ∧ fT f n v k < 256 := by
  intro k _
  by_cases c : (k : Int) < n
  · rw [fT_lo c]; exact h k (by omega)
  · rw [fT_hi c]; exact hv
def RowC (S : ms) (n : Nat) (f : Int → Int) : Prop := S.1 94 1 = n ∧ ∀ k : Nat, k < n → S.1 101 k = f k
def RowM (S : ms) (n : Nat) (f : Int → Int) : Prop := S.1 367 66 = n ∧ ∀ k : Nat, k < n → S.1 406 k = b8 (f k)
theorem sp_rwL {n : Nat} {f : Int → Int} {v : Int} {m : Nat} (hm : n + m ≤ 15000) : ∀ (d j : Nat) (S : ms), j + d = m → RowC S (n + j) (fT f n v) → ∃ T, EV q 168 22 [some (.ref 94), some (.ref 9), some (vI v), some (vI m), some (vI j)] [] S none T ∧ EX (fun a k => a = 101 ∨ (a = 94 ∧ k = 1)) S T ∧ RowC T (n + m) (fT f n v) := by
  have wm : Unit → w32 ((m : Nat) : Int) = m := fun _ => w32_of (by omega)
  intro d
  induction d with
  | zero =>
    intro j S hj hS
    have e : j = m := by omega
    subst e
    exact ⟨S, vc_Sorted_rowTimes_22 _ _ _ (cY (Int.le_refl _) ⟨rfl, rfl⟩), EX.refl _ S, hS⟩
  | succ d ih =>
    intro j S hj hS
    have wj : Unit → w32 ((j : Nat) : Int) = j := fun _ => w32_of (by omega)
    have wn : Unit → w32 ((n + j : Nat) : Int) = (n + j : Nat) := fun _ => w32_of (by omega)
    have ej : ((j + 1 : Nat) : Int) = (j : Int) + 1 := by omega
    have en : ((n + (j + 1) : Nat) : Int) = ((n + j : Nat) : Int) + 1 := by omega
    have e1 : (wI S 101 (n + j : Nat) v).1 94 1 = (n + j : Nat) := by rw [wI_no _ (by omega)]; exact hS.1
    obtain ⟨T, k1, k2, k3⟩ := ih (j + 1) (wI (wI S 101 (n + j : Nat) v) 94 1 (((n + j : Nat) : Int) + 1)) (by omega) ⟨by rw [wI_at, en], fun k hk => by
      rw [wI_no _ (by omega)]
      by_cases c : k = n + j
      · subst c; rw [wI_at, fT_hi (by omega)]
      · rw [wI_no _ (by omega)]; exact hS.2 k (by omega)⟩
    refine ⟨T, vc_Sorted_rowTimes_22 _ _ _ ?_, EX.trans (EX.wr (EX.wr (EX.refl _ S) (Or.inl rfl)) (Or.inr ⟨rfl, rfl⟩)) k2, k3⟩
    rw [ej] at k1
    rw [wm (), wj (), hS.1, wn ()]
    refine cNo (by omega) ⟨by omega, fun S2 e2 S3 e3 => ?_⟩
    rw [e3, e2, e1]
    exact k1
theorem sp_rowT {n m : Nat} {f : Int → Int} {v : Int} {S : ms} (hm : n + m ≤ 15000) (hS : RowC S n f) : ∃ T, EV q 168 0 [some (.ref 94), some (.ref 9), some (vI v), some (vI m), none] [] S none T ∧ EX (fun a k => a = 101 ∨ (a = 94 ∧ k = 1)) S T ∧ RowC T (n + m) (fT f n v) := by
  obtain ⟨T, k1, k2, k3⟩ := sp_rwL (q := q) (f := f) (v := v) hm m 0 S (by omega) ⟨by rw [hS.1]; rfl, fun k hk => by rw [fT_lo (by omega)]; exact hS.2 k (by omega)⟩
  have wm : Unit → w32 ((m : Nat) : Int) = m := fun _ => w32_of (by omega)
  have w1 : Unit → w32 (15000 - ((n : Nat) : Int)) = 15000 - n := fun _ => w32_of (by omega)
  refine ⟨T, vc_Sorted_rowTimes _ _ ?_, k2, k3⟩
  rw [hS.1, wm (), w1 ()]
  exact cY (by omega) k1
theorem md_rwL {n : Nat} {f : Int → Int} {v : Int} {m : Nat} (hm : n + m ≤ 15000) : ∀ (d j : Nat) (S : ms), j + d = m → S.1 410 0 = b8 v → RowM S (n + j) (fT f n v) → ∃ T, EX (fun a k => a = 406 ∨ (a = 367 ∧ k = 66)) S T ∧ RowM T (n + m) (fT f n v) ∧ ∀ (x1 x2 x3 x6 x8 x9 x10 : Int) (r : Option Value) (T' : ms), EV q 364 177 [some (.ref 367), some (vI x1), some (vI x2), some (vI x3), some (vL m), none, some (vL x6), none, some (vI x8), some (vI x9), some (vI x10), some (vL m), none] [] T r T' → EV q 364 177 [some (.ref 367), some (vI x1), some (vI x2), some (vI x3), some (vL m), none, some (vL x6), none, some (vI x8), some (vI x9), some (vI x10), some (vL j), none] [] S r T' := by
  have wm : Unit → w64 ((m : Nat) : Int) = m := fun _ => w64_of (by omega)
  have e8 : b8 (b8 v) = b8 v := b8_of (b8_rg _)
  intro d
  induction d with
  | zero =>
    intro j S hj h0 hS
    have e : j = m := by omega
    subst e
    exact ⟨S, EX.refl _ S, hS, fun x1 x2 x3 x6 x8 x9 x10 r T' k => k⟩
  | succ d ih =>
    intro j S hj h0 hS
    have wj : Unit → w64 ((j : Nat) : Int) = j := fun _ => w64_of (by omega)
    have wn : Unit → w32 ((n + j : Nat) : Int) = (n + j : Nat) := fun _ => w32_of (by omega)
    have ej : ((j + 1 : Nat) : Int) = (j : Int) + 1 := by omega
    have en : ((n + (j + 1) : Nat) : Int) = ((n + j : Nat) : Int) + 1 := by omega
    have e1 : (wI S 406 (n + j : Nat) (b8 v)).1 367 66 = (n + j : Nat) := by rw [wI_no _ (by omega)]; exact hS.1
    obtain ⟨T, k1, k2, k3⟩ := ih (j + 1) (wI (wI S 406 (n + j : Nat) (b8 v)) 367 66 (((n + j : Nat) : Int) + 1)) (by omega) (by rw [wI_no _ (by omega), wI_no _ (by omega)]; exact h0) ⟨by rw [wI_at, en], fun k hk => by
      rw [wI_no _ (by omega)]
      by_cases c : k = n + j
      · subst c; rw [wI_at, fT_hi (by omega)]
      · rw [wI_no _ (by omega)]; exact hS.2 k (by omega)⟩
    refine ⟨T, EX.trans (EX.wr (EX.wr (EX.refl _ S) (Or.inl rfl)) (Or.inr ⟨rfl, rfl⟩)) k1, k2, fun x1 x2 x3 x6 x8 x9 x10 r T' k => vc_MD_readSymbols_177 _ _ _ _ _ _ _ _ _ ?_⟩
    have k4 := k3 x1 x2 x3 x6 x8 x9 x10 r T' k
    rw [ej] at k4
    rw [wm (), wj (), hS.1, wn (), show w32 0 = 0 by decide, h0, e8]
    refine cNo (by omega) ⟨by decide, by omega, fun S2 e2 S3 e3 => ?_⟩
    rw [e3, e2, e1]
    exact k4
/-- what the row is read with -/
def HrC (en : Int) (t : Int → Int) (nc m cnt : Nat) (ch : Int → Int) (ls : Nat → Int → Int) (S : ms) (o : Nat) : Prop := S.1 9 7 = 1 ∧ S.1 94 15 = nc ∧ S.1 94 9 = m ∧ RdC S o en t ∧ (∀ k : Nat, k < nc → S.1 106 k = ch k) ∧ ∀ c : Nat, c < cnt → CodC S (107 + 11 * c) (m + 2) (ls c)
def HrM (en : Int) (t : Int → Int) (nc m cnt : Nat) (ch : Int → Int) (ls : Nat → Int → Int) (S : ms) : Prop := S.1 367 18 = 1 ∧ RdM S en t ∧ (∀ k : Nat, k < nc → S.1 415 k = ch k) ∧ ∀ c : Nat, c < cnt → CodS S c (m + 2) (ls c)
def xRC (a : Nat) (k : Int) : Prop := a = 101 ∨ a = 102 ∨ (a = 94 ∧ k = 1)
def xRM (a : Nat) (k : Int) : Prop := a = 406 ∨ a = 410 ∨ (a = 367 ∧ k = 66)
theorem HrC_ex {t : Int → Int} {nc m cnt o : Nat} {ch : Int → Int} {ls : Nat → Int → Int} {S S1 : ms} (hc : cnt ≤ 6) (h : HrC en t nc m cnt ch ls S o) (e : EX xRC S S1) : HrC en t nc m cnt ch ls S1 o := by
  unfold xRC at e
  exact ⟨by rw [e.2 9 7 (by omega)]; exact h.1, by rw [e.2 94 15 (by omega)]; exact h.2.1, by rw [e.2 94 9 (by omega)]; exact h.2.2.1, RdC_ey h.2.2.2.1 e.ey (fun k => by omega), fun k hk => by rw [e.2 106 k (by omega)]; exact h.2.2.2.2.1 k hk, fun c hc' => CodC_ex (h.2.2.2.2.2 c hc') e (fun a k y => by omega)⟩
theorem HrM_ex {t : Int → Int} {nc m cnt : Nat} {ch : Int → Int} {ls : Nat → Int → Int} {S S1 : ms} (h : HrM en t nc m cnt ch ls S) (e : EX xRM S S1) : HrM en t nc m cnt ch ls S1 := by
  unfold xRM at e
  exact ⟨by rw [e.2 367 18 (by omega)]; exact h.1, RdM_ey h.2.1 e.ey (fun k => by omega), fun k hk => by rw [e.2 415 k (by omega)]; exact h.2.2.1 k hk, fun c hc' => CodS_ex (h.2.2.2 c hc') e (fun a k y => by omega)⟩
end SrtB
