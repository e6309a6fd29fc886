/-! SORTED: the order on both sides -/
section SrtE
variable {q : Nat × (Nat → Int32)}
def xOr (a : Nat) (_ : Int) : Prop := a = 104 ∨ a = 96
theorem sp_ord1 {n : Nat} {f : Int → Int} (hn : n ≤ 15000) (hf : ∀ k : Nat, k < n → 0 ≤ f k ∧ f k < 256) : ∀ (d i : Nat) (S : ms), i + d = n → RowC S n f → S.1 104 0 = 0 → (∀ v : Nat, v < 256 → S.1 104 ((v : Int) + 1) = ctE f v i) → ∃ T, EX xOr S T ∧ T.1 104 0 = 0 ∧ (∀ v : Nat, v < 256 → T.1 104 ((v : Int) + 1) = ctE f v n) ∧ ∀ (r : Option Value) (T' : ms), EV q 170 43 [some (.ref 94), some (vI 1)] [] T r T' → EV q 170 10 [some (.ref 94), some (vI i)] [] S r T' := by
  have wn : Unit → w32 ((n : Nat) : Int) = n := fun _ => w32_of (by omega)
  intro d
  induction d with
  | zero =>
    intro i S hi hR h0 h1
    have e : i = n := by omega
    subst e
    refine ⟨S, EX.refl _ S, h0, h1, fun r T' k => vc_Sorted_orderRow_10 _ ?_⟩
    rw [hR.1]
    exact cY (Int.le_refl _) k
  | succ d ih =>
    intro i S hi hR h0 h1
    have wi : Unit → w32 ((i : Nat) : Int) = i := fun _ => w32_of (by omega)
    have ei : ((i + 1 : Nat) : Int) = (i : Int) + 1 := by omega
    have hv := hf i (by omega)
    obtain ⟨v, ev⟩ : ∃ v : Nat, f i = v := ⟨(f i).toNat, by omega⟩
    have wv : Unit → w32 ((v : Int) + 1) = (v : Int) + 1 := fun _ => w32_of (by omega)
    have e1 := h1 v (by omega)
    have rowI : ∀ k x : Int, RowC (wI S 104 k x) n f := fun k x => ⟨by rw [wI_no _ (by omega)]; exact hR.1, fun j hj => by rw [wI_no _ (by omega)]; exact hR.2 j hj⟩
    obtain ⟨T, k1, k2, k3, k4⟩ := ih (i + 1) (wI S 104 ((v : Int) + 1) (ctE f v i + 1)) (by omega) (rowI _ _) (by rw [wI_no _ (by omega)]; exact h0) (fun u hu => by
      by_cases c : u = v
      · subst c; rw [wI_at, ctE_y ev]
      · rw [wI_no _ (by omega), ctE_n (by omega)]; exact h1 u hu)
    refine ⟨T, EX.trans (EX.wr (EX.refl _ S) (show xOr 104 _ from Or.inl rfl)) k1, k2, k3, fun r T' k => vc_Sorted_orderRow_10 _ ?_⟩
    have k5 := k4 r T' k
    rw [ei] at k5
    rw [hR.1, wn (), wi (), hR.2 i (by omega), ev, wv (), e1]
    exact cNo (by omega) ⟨by omega, by omega, by omega, fun S4 e4 => by rw [e4]; exact k5⟩
theorem sp_ord2 {n : Nat} {f : Int → Int} (hn : n ≤ 15000) : ∀ (d v : Nat) (S : ms), v + d = 255 → (∀ u : Nat, u ≤ v → S.1 104 u = ctL f n u) → (∀ u : Nat, v ≤ u → u < 256 → S.1 104 ((u : Int) + 1) = ctE f u n) → ∃ T, EX xOr S T ∧ (∀ u : Nat, u < 256 → T.1 104 u = ctL f n u) ∧ ∀ (r : Option Value) (T' : ms), EV q 170 75 [some (.ref 94), some (vI 0)] [] T r T' → EV q 170 43 [some (.ref 94), some (vI ((v : Int) + 1))] [] S r T' := by
  intro d
  induction d with
  | zero =>
    intro v S hv h0 h1
    have e : v = 255 := by omega
    subst e
    exact ⟨S, EX.refl _ S, fun u hu => h0 u (by omega), fun r T' k => vc_Sorted_orderRow_43 _ (cY (by decide) k)⟩
  | succ d ih =>
    intro v S hv h0 h1
    have wv : Unit → w32 ((v : Int) + 1) = (v : Int) + 1 := fun _ => w32_of (by omega)
    have wv0 : Unit → w32 ((v : Int) + 1 - 1) = (v : Int) := fun _ => by rw [show (v : Int) + 1 - 1 = v by omega]; exact w32_of (by omega)
    have ev : ((v + 1 : Nat) : Int) = (v : Int) + 1 := by omega
    obtain ⟨T, k1, k2, k3⟩ := ih (v + 1) (wI S 104 ((v : Int) + 1) (ctE f v n + ctL f n v)) (by omega) (fun u hu => by
      by_cases c : u = v + 1
      · subst c; rw [ev, wI_at, ctL_s, Int.add_comm]
      · rw [wI_no _ (by omega)]; exact h0 u (by omega)) (fun u hu hu' => by rw [wI_no _ (by omega)]; exact h1 u (by omega) hu')
    refine ⟨T, EX.trans (EX.wr (EX.refl _ S) (show xOr 104 _ from Or.inl rfl)) k1, k2, fun r T' k => vc_Sorted_orderRow_43 _ ?_⟩
    have k5 := k3 r T' k
    rw [ev] at k5
    rw [wv (), wv0 (), h1 v (Nat.le_refl _) (by omega), h0 v (Nat.le_refl _)]
    exact cNo (by omega) ⟨by omega, by omega, by omega, fun S4 e4 => by rw [e4]; exact k5⟩
theorem sp_ord3 {n : Nat} {f : Int → Int} (hn : n ≤ 15000) (hf : ∀ k : Nat, k < n → 0 ≤ f k ∧ f k < 256) : ∀ (d i : Nat) (S : ms), i + d = n → RowC S n f → (∀ v : Nat, v < 256 → S.1 104 v = ctL f n v + ctE f v i) → (∀ k : Nat, k < i → S.1 96 (psF f n k) = k) → ∃ T, EX xOr S T ∧ (∀ k : Nat, k < n → T.1 96 (psF f n k) = k) ∧ EV q 170 75 [some (.ref 94), some (vI i)] [] S none T := by
  have wn : Unit → w32 ((n : Nat) : Int) = n := fun _ => w32_of (by omega)
  intro d
  induction d with
  | zero =>
    intro i S hi hR h0 h1
    have e : i = n := by omega
    subst e
    refine ⟨S, EX.refl _ S, h1, vc_Sorted_orderRow_75 _ ?_⟩
    rw [hR.1]
    exact cY (Int.le_refl _) ⟨rfl, rfl⟩
  | succ d ih =>
    intro i S hi hR h0 h1
    have wi : Unit → w32 ((i : Nat) : Int) = i := fun _ => w32_of (by omega)
    have ei : ((i + 1 : Nat) : Int) = (i : Int) + 1 := by omega
    have hv := hf i (by omega)
    have hp := psF_rg (show i < n by omega) hf
    obtain ⟨v, ev⟩ : ∃ v : Nat, f i = v := ⟨(f i).toNat, by omega⟩
    have wv : Unit → w32 ((v : Nat) : Int) = v := fun _ => w32_of (by omega)
    have ep : ctL f n v + ctE f v i = psF f n i := by unfold psF; rw [ev, Int.toNat_natCast]
    have wp : w32 (psF f n i) = psF f n i := w32_of (by omega)
    have e1 := h0 v (by omega)
    rw [ep] at e1
    obtain ⟨T, k1, k2, k3⟩ := ih (i + 1) (wI (wI S 96 (psF f n i) i) 104 v (psF f n i + 1)) (by omega) ⟨by rw [wI_no _ (by omega), wI_no _ (by omega)]; exact hR.1, fun j hj => by rw [wI_no _ (by omega), wI_no _ (by omega)]; exact hR.2 j hj⟩ (fun u hu => by
      by_cases c : u = v
      · subst c; rw [wI_at, ctE_y ev, ← ep]; omega
      · rw [wI_no _ (by omega), wI_no _ (by omega), ctE_n (by omega)]; exact h0 u hu) (fun k hk => by
      rw [wI_no _ (by omega)]
      by_cases c : k = i
      · subst c; rw [wI_at]
      · have := psF_ne (show k < i by omega) (show i < n by omega) hf
        rw [wI_no _ (by omega)]; exact h1 k (by omega))
    refine ⟨T, EX.trans (EX.wr (EX.wr (EX.refl _ S) (show xOr 96 _ from Or.inr rfl)) (show xOr 104 _ from Or.inl rfl)) k1, k2, vc_Sorted_orderRow_75 _ ?_⟩
    rw [ei] at k3
    have a1 : (wI S 96 (psF f n i) i).1 101 i = v := by rw [wI_no _ (by omega), hR.2 i (by omega), ev]
    have a2 : (wI S 96 (psF f n i) i).1 104 v = psF f n i := by rw [wI_no _ (by omega)]; exact e1
    rw [hR.1, wn (), wi (), hR.2 i (by omega), ev, wv (), e1, wp]
    refine cNo (by omega) ⟨by omega, by omega, by omega, fun S4 e4 => ?_⟩
    rw [e4, a1, wv (), a2]
    exact ⟨by omega, by omega, by omega, fun S8 e8 => by rw [e8]; exact k3⟩
theorem sp_order {S : ms} {n : Nat} {f : Int → Int} (hn : n ≤ 15000) (hf : ∀ k : Nat, k < n → 0 ≤ f k ∧ f k < 256) (hR : RowC S n f) : ∃ T, EX xOr S T ∧ (∀ k : Nat, k < n → T.1 96 (psF f n k) = k) ∧ EV q 170 0 [some (.ref 94), none] [] S none T := by
  have k0 := sp_fillI (q := q) (S := S) (c := 104) (n1 := 258) sh_104 (by decide) 0
  have ex0 : EX xOr S (wC S 104 0 ((258 : Nat) : Int) (fun _ => 0)) := ⟨rfl, fun a k y => wC_ne _ _ _ _ (fun z => y (Or.inl z))⟩
  have rowE : ∀ T : ms, EX xOr S T → RowC T n f := fun T e => ⟨by rw [e.2 94 1 (by unfold xOr; omega)]; exact hR.1, fun k hk => by rw [e.2 101 k (by unfold xOr; omega)]; exact hR.2 k hk⟩
  obtain ⟨T1, a1, a2, a3, a4⟩ := sp_ord1 (q := q) hn hf n 0 _ (by omega) (rowE _ ex0) (by rw [wC_in _ (by omega) (by omega)]) (fun v hv => by rw [wC_in _ (by omega) (by omega)]; rfl)
  obtain ⟨T2, b1, b2, b3⟩ := sp_ord2 (q := q) (f := f) hn 255 0 T1 (by omega) (fun u hu => by rw [show u = 0 by omega]; exact a2) (fun u _ hu => a3 u hu)
  obtain ⟨T3, c1, c2, c3⟩ := sp_ord3 (q := q) hn hf n 0 T2 (by omega) (rowE _ (EX.trans ex0 (EX.trans a1 b1))) (fun v hv => by
    rw [b2 v hv]
    show _ = ctL f n v + 0
    omega) (fun k hk => absurd hk (by omega))
  exact ⟨T3, EX.trans ex0 (EX.trans a1 (EX.trans b1 c1)), c2, vc_Sorted_orderRow ⟨_, k0, a4 none T3 (b3 none T3 c3)⟩⟩
/-- one pass of the reference -/
theorem md_pass {n v : Nat} {f : Int → Int} {x1 : Int} (hn : n ≤ 15000) (hv : v < 256) (hf : ∀ k : Nat, k < n → 0 ≤ f k ∧ f k < 256) : ∀ (d k : Nat) (S : ms), k + d = n → RowM S n f → (∀ e : Int, 0 ≤ e → e < ctL f n v + ctE f v k → ∃ j : Nat, j < n ∧ S.1 407 e = j ∧ psF f n j = e) → ∃ T, EX (fun a _ => a = 407) S T ∧ (∀ e : Int, 0 ≤ e → e < ctL f n (v + 1) → ∃ j : Nat, j < n ∧ T.1 407 e = j ∧ psF f n j = e) ∧ ∀ (r : Option Value) (T' : ms), EV q 366 4 [some (.ref 367), some (vI x1), some (vI (ctL f n (v + 1))), some (vI ((v : Int) + 1)), none, none, none, none, none] [] T r T' → EV q 366 14 [some (.ref 367), some (vI x1), some (vI (ctL f n v + ctE f v k)), some (vI v), some (vI k), none, none, none, none] [] S r T' := by
  have wn : Unit → w32 ((n : Nat) : Int) = n := fun _ => w32_of (by omega)
  have wv : Unit → w32 ((v : Nat) : Int) = v := fun _ => w32_of (by omega)
  intro d
  induction d with
  | zero =>
    intro k S hk hR h0
    have e : k = n := by omega
    subst e
    rw [← ctL_s] at h0
    refine ⟨S, EX.refl _ S, h0, fun r T' y => vc_MD_unsort_14 _ _ _ _ ?_⟩
    rw [hR.1]
    exact cY (Int.le_refl _) y
  | succ d ih =>
    intro k S hk hR h0
    have wk : Unit → w32 ((k : Nat) : Int) = k := fun _ => w32_of (by omega)
    have ek : ((k + 1 : Nat) : Int) = (k : Int) + 1 := by omega
    have hk' := hf k (by omega)
    have e6 : S.1 406 k % 256 = f k := by
      rw [hR.2 k (by omega)]
      unfold b8
      omega
    have w6 : w32 (f k) = f k := w32_of (by omega)
    by_cases c : f k = v
    · have hp := psF_rg (show k < n by omega) hf
      have ep : ctL f n v + ctE f v k = psF f n k := by unfold psF; rw [c, Int.toNat_natCast]
      have es : ctL f n v + ctE f v (k + 1) = psF f n k + 1 := by rw [ctE_y c, ← ep]; omega
      have wp : w32 (psF f n k) = psF f n k := w32_of (by omega)
      obtain ⟨T, k1, k2, k3⟩ := ih (k + 1) (wI S 407 (psF f n k) k) (by omega) ⟨by rw [wI_no _ (by omega)]; exact hR.1, fun j hj => by rw [wI_no _ (by omega)]; exact hR.2 j hj⟩ (fun e e0 e1 => by
        rw [es] at e1
        by_cases d' : e = psF f n k
        · subst d'; exact ⟨k, by omega, wI_at _ _ _ _, rfl⟩
        · rw [wI_no _ (by omega)]; exact h0 e e0 (by omega))
      refine ⟨T, EX.trans (EX.wr (EX.refl _ S) rfl) k1, k2, fun r T' y => vc_MD_unsort_14 _ _ _ _ ?_⟩
      have k4 := k3 r T' y
      rw [ek, es] at k4
      rw [hR.1, wn (), wk (), e6, w6, wv (), ep, wp]
      exact cNo (by omega) ⟨by omega, cNN c ⟨by omega, fun S3 e3 => vc_MD_unsort_49 _ _ _ _ (by rw [e3]; exact k4)⟩⟩
    · have es : ctL f n v + ctE f v (k + 1) = ctL f n v + ctE f v k := by rw [ctE_n c]
      obtain ⟨T, k1, k2, k3⟩ := ih (k + 1) S (by omega) hR (fun e e0 e1 => h0 e e0 (by rw [es] at e1; exact e1))
      refine ⟨T, k1, k2, fun r T' y => vc_MD_unsort_14 _ _ _ _ ?_⟩
      have k4 := k3 r T' y
      rw [ek, es] at k4
      rw [hR.1, wn (), wk (), e6, w6, wv ()]
      exact cNo (by omega) ⟨by omega, cY c (vc_MD_unsort_49 _ _ _ _ k4)⟩
theorem md_passes {n : Nat} {f : Int → Int} {x1 : Int} (hn : n ≤ 15000) (hf : ∀ k : Nat, k < n → 0 ≤ f k ∧ f k < 256) : ∀ (d v : Nat) (S : ms), v + d = 256 → RowM S n f → (∀ e : Int, 0 ≤ e → e < ctL f n v → ∃ j : Nat, j < n ∧ S.1 407 e = j ∧ psF f n j = e) → ∃ T, EX (fun a _ => a = 407) S T ∧ (∀ e : Int, 0 ≤ e → e < n → ∃ j : Nat, j < n ∧ T.1 407 e = j ∧ psF f n j = e) ∧ ∀ (r : Option Value) (T' : ms), EV q 366 72 [some (.ref 367), some (vI x1), some (vI n), some (vI x1), some (vI 0), some (vI ((-1))), some (vI 0), none, none] [] T r T' → EV q 366 4 [some (.ref 367), some (vI x1), some (vI (ctL f n v)), some (vI v), none, none, none, none, none] [] S r T' := by
  intro d
  induction d with
  | zero =>
    intro v S hv hR h0
    have e : v = 256 := by omega
    subst e
    rw [ctL_all n hf] at h0 ⊢
    exact ⟨S, EX.refl _ S, h0, fun r T' y => vc_MD_unsort_4 _ _ _ (cY (by decide) y)⟩
  | succ d ih =>
    intro v S hv hR h0
    have wv : Unit → w32 ((v : Nat) : Int) = v := fun _ => w32_of (by omega)
    have ev : ((v + 1 : Nat) : Int) = (v : Int) + 1 := by omega
    have e0 : ctL f n v + ctE f v 0 = ctL f n v := Int.add_zero _
    obtain ⟨T1, a1, a2, a3⟩ := md_pass (q := q) (x1 := x1) hn (show v < 256 by omega) hf n 0 S (by omega) hR (fun e h h' => h0 e h (by rw [e0] at h'; exact h'))
    obtain ⟨T2, b1, b2, b3⟩ := ih (v + 1) T1 (by omega) ⟨by rw [a1.2 367 66 (show ¬ (367 : Nat) = 407 by decide)]; exact hR.1, fun k hk => by rw [a1.2 406 k (show ¬ (406 : Nat) = 407 by decide)]; exact hR.2 k hk⟩ a2
    refine ⟨T2, EX.trans a1 b1, b2, fun r T' y => vc_MD_unsort_4 _ _ _ ?_⟩
    have k1 := b3 r T' y
    rw [ev] at k1
    have k2 := a3 r T' k1
    rw [e0] at k2
    rw [wv ()]
    exact cNo (by omega) k2
theorem md_rank {S : ms} {n : Nat} {f : Int → Int} {x1 : Int} (hn : n ≤ 15000) (hf : ∀ k : Nat, k < n → 0 ≤ f k ∧ f k < 256) (hR : RowM S n f) : ∃ T, EX (fun a _ => a = 407) S T ∧ (∀ e : Int, 0 ≤ e → e < n → ∃ j : Nat, j < n ∧ T.1 407 e = j ∧ psF f n j = e) ∧ ∀ (r : Option Value) (T' : ms), EV q 366 72 [some (.ref 367), some (vI x1), some (vI n), some (vI x1), some (vI 0), some (vI ((-1))), some (vI 0), none, none] [] T r T' → EV q 366 0 [some (.ref 367), some (vI x1), none, none, none, none, none, none, none] [] S r T' := by
  obtain ⟨T, k1, k2, k3⟩ := md_passes (q := q) (x1 := x1) hn hf 256 0 S (by omega) hR (fun e e0 e1 => absurd e1 (by show ¬ e < 0; omega))
  exact ⟨T, k1, k2, fun r T' y => vc_MD_unsort _ (k3 r T' y)⟩
end SrtE
