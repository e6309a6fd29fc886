/-! read: ENTRIES that come in, on both sides -/
section Rea4
variable {q : Nat × (Nat → Int32)}
abbrev En := Int × (Int → Int) × Int × Int × Int × (Int → Int)
def EnOk (E : En) : Prop := ((1 ≤ E.1 ∧ E.1 ≤ 100) ∧ ∀ k : Int, 0 ≤ k → k < E.1 → 1 ≤ E.2.1 k ∧ E.2.1 k < 256) ∧ (0 ≤ E.2.2.2.2.1 ∧ E.2.2.2.2.1 ≤ 6000) ∧ (∀ k : Int, 0 ≤ k → k < E.2.2.2.2.1 → 0 ≤ E.2.2.2.2.2 k ∧ E.2.2.2.2.2 k < 256) ∧ (0 ≤ E.2.2.1 ∧ E.2.2.1 ≤ 511) ∧ 0 ≤ E.2.2.2.1 ∧ E.2.2.2.1 ≤ 2147483647
/-- modes and times in their ranges -/
def RM (S : ms) (sh : Nat) : Prop := ∀ e : Nat, (e : Int) < S.1 sh 4 → (0 ≤ S.1 (sh + 3) e ∧ S.1 (sh + 3) e ≤ 511) ∧ 0 ≤ S.1 (sh + 4) e ∧ S.1 (sh + 4) e ≤ 2147483647
def EnC (S : ms) (sh e : Nat) (E : En) : Prop := (S.1 (sh + 11 + 4 * e) 1 = E.1 ∧ ∀ k : Int, 0 ≤ k → k < E.1 → S.1 (sh + 11 + 4 * e + 1) k = E.2.1 k) ∧ (S.1 (sh + 3) e = E.2.2.1 ∧ S.1 (sh + 4) e = E.2.2.2.1) ∧ S.1 (sh + 13 + 4 * e) 1 = E.2.2.2.2.1 ∧ ∀ k : Int, 0 ≤ k → k < E.2.2.2.2.1 → S.1 (sh + 13 + 4 * e + 1) k = E.2.2.2.2.2 k
def EnM (S : ms) (e : Nat) (E : En) : Prop := (S.1 426 e = E.1 ∧ ∀ k : Int, 0 ≤ k → k < E.1 → S.1 425 (100 * (e : Int) + k) = b8 (E.2.1 k)) ∧ (S.1 427 e = E.2.2.1 ∧ S.1 428 e = E.2.2.2.1) ∧ S.1 430 e = E.2.2.2.2.1 ∧ ∀ k : Int, 0 ≤ k → k < E.2.2.2.2.1 → S.1 429 (6000 * (e : Int) + k) = b8 (E.2.2.2.2.2 k)
def ShC (S : ms) (sh n : Nat) (E : Nat → En) : Prop := S.1 sh 4 = n ∧ ∀ e : Nat, e < n → EnC S sh e (E e)
def ShM (S : ms) (n : Nat) (E : Nat → En) : Prop := S.1 367 95 = n ∧ ∀ e : Nat, e < n → EnM S e (E e)
def upE (E : Nat → En) (n : Nat) (v : En) : Nat → En := fun e => if e = n then v else E e
theorem upE_n (E : Nat → En) (n : Nat) (v : En) : upE E n v n = v := if_pos rfl
theorem upE_o {E : Nat → En} {n e : Nat} {v : En} (h : e ≠ n) : upE E n v e = E e := if_neg h
theorem upE_ok {E : Nat → En} {n : Nat} {v : En} (h : ∀ e : Nat, e < n → EnOk (E e)) (hv : EnOk v) : ∀ e : Nat, e < n + 1 → EnOk (upE E n v e) := fun e he => by
  by_cases c : e = n
  · subst c; rw [upE_n]; exact hv
  · rw [upE_o c]; exact h e (by omega)
def xSh (sh : Nat) (a : Nat) (_ : Int) : Prop := sh ≤ a ∧ a < sh + 75
def xSi (a : Nat) (k : Int) : Prop := (425 ≤ a ∧ a ≤ 430) ∨ (a = 367 ∧ k = 95)
theorem ShC_x {S S1 : ms} {sh n : Nat} {E : Nat → En} {X : Nat → Int → Prop} (h : ShC S sh n E) (e : EX X S S1) (hx : ∀ a k, X a k → ¬ (sh ≤ a ∧ a < sh + 75) ∨ a = sh + 5 ∨ a = sh + 6) (hn : n ≤ 16) : ShC S1 sh n E := by
  have q1 : ∀ (a : Nat) (k : Int), (sh ≤ a ∧ a < sh + 75) → a ≠ sh + 5 → a ≠ sh + 6 → S1.1 a k = S.1 a k := fun a k h1 h2 h3 => e.2 a k (fun y => by have := hx a k y; omega)
  refine ⟨by rw [q1 sh 4 (by omega) (by omega) (by omega)]; exact h.1, fun e he => ?_⟩
  obtain ⟨⟨a1, a2⟩, ⟨a3, a4⟩, a5, a6⟩ := h.2 e he
  exact ⟨⟨by rw [q1 _ _ (by omega) (by omega) (by omega)]; exact a1, fun k k0 k1 => by rw [q1 _ _ (by omega) (by omega) (by omega)]; exact a2 k k0 k1⟩, ⟨by rw [q1 _ _ (by omega) (by omega) (by omega)]; exact a3, by rw [q1 _ _ (by omega) (by omega) (by omega)]; exact a4⟩, by rw [q1 _ _ (by omega) (by omega) (by omega)]; exact a5, fun k k0 k1 => by rw [q1 _ _ (by omega) (by omega) (by omega)]; exact a6 k k0 k1⟩
theorem ShM_x {S S1 : ms} {n : Nat} {E : Nat → En} {X : Nat → Int → Prop} (h : ShM S n E) (e : EX X S S1) (hx : ∀ a k, X a k → ¬ xSi a k) : ShM S1 n E := by
  have q1 : ∀ (a : Nat) (k : Int), xSi a k → S1.1 a k = S.1 a k := fun a k h1 => e.2 a k (fun y => hx a k y h1)
  unfold xSi at q1
  refine ⟨by rw [q1 367 95 (by omega)]; exact h.1, fun e he => ?_⟩
  obtain ⟨⟨a1, a2⟩, ⟨a3, a4⟩, a5, a6⟩ := h.2 e he
  exact ⟨⟨by rw [q1 _ _ (by omega)]; exact a1, fun k k0 k1 => by rw [q1 _ _ (by omega)]; exact a2 k k0 k1⟩, ⟨by rw [q1 _ _ (by omega)]; exact a3, by rw [q1 _ _ (by omega)]; exact a4⟩, by rw [q1 _ _ (by omega)]; exact a5, fun k k0 k1 => by rw [q1 _ _ (by omega)]; exact a6 k k0 k1⟩
theorem sp_ent {A : ms} {sh n T m c n1 : Nat} {E : Nat → En} {g tx : Int → Int} {fr mo ti : Int} (hs : isSh sh) (hn : n < 16) (hE : ∀ e : Nat, e < n → EnOk (E e)) (h : ShC A sh n E) (hL : LabC A (sh + 5) T g) (hT : T ≤ 100) (hc : SH c = (0, n1, [])) (hn1 : n1 < 1000000) (hcs : c < 193) (hf : 0 ≤ fr) (hm : m ≤ 6000) (hfm : fr + m ≤ n1) (htx : ∀ k : Int, 0 ≤ k → k < m → A.1 c (fr + k) = tx k) : ∃ A1, EX (xSh sh) A A1 ∧ ShC A1 sh (n + 1) (upE E n (T, g, mo, ti, m, tx)) ∧ EV q 180 0 [some (.ref sh), some (.ref (sh + 5)), some (vI mo), some (vI ti), some (.ref c), some (vI fr), some (vI m)] [] A none A1 := by
  have hsr : sh = 193 ∨ sh = 268 := hs
  have eT : A.1 (sh + 5) 1 = T := by rw [hL.1]; omega
  have k := sp_addEntry (q := q) (S := A) (mo := mo) (ti := ti) hs (b5_row hs) (by decide) hc hn1 (Or.inr (by omega)) (Or.inl (by omega)) h.1 (by omega) eT (by omega) (by omega) hf (n := (m : Int)) (by omega) (by omega)
  obtain ⟨A1, eA⟩ : ∃ A1, A1 = AE A sh n (sh + 5) T c fr m mo ti := ⟨_, rfl⟩
  rw [← eA] at k
  have nN : ((n : Nat) : Int).toNat = n := by omega
  have key : ∀ (a : Nat) (k : Int), A1.1 a k = if a = sh ∧ k = 4 then (n : Int) + 1 else if a = sh + 4 ∧ k = n then ti else if a = sh + 3 ∧ k = n then mo else if a = sh + 13 + 4 * n ∧ k = 1 then 0 + (m : Int) else if a = sh + 13 + 4 * n + 1 ∧ 0 ≤ k ∧ k < 0 + (m : Int) then A.1 c (fr + (k - 0)) else if a = sh + 13 + 4 * n ∧ k = 3 then 0 else if a = sh + 13 + 4 * n ∧ k = 2 then 0 else if a = sh + 13 + 4 * n ∧ k = 1 then 0 else if a = sh + 11 + 4 * n ∧ k = 1 then 0 + (T : Int) else if a = sh + 11 + 4 * n + 1 ∧ 0 ≤ k ∧ k < 0 + (T : Int) then A.1 (sh + 5 + 1) (k - 0) else if a = sh + 11 + 4 * n ∧ k = 3 then 0 else if a = sh + 11 + 4 * n ∧ k = 2 then 0 else if a = sh + 11 + 4 * n ∧ k = 1 then 0 else A.1 a k := fun a k => by rw [eA]; rfl
  have key0 : ∀ (a : Nat) (k : Int), ¬ (a = sh ∧ k = 4) → ¬ (a = sh + 4 ∧ k = n) → ¬ (a = sh + 3 ∧ k = n) → a ≠ sh + 13 + 4 * n → a ≠ sh + 13 + 4 * n + 1 → a ≠ sh + 11 + 4 * n → a ≠ sh + 11 + 4 * n + 1 → A1.1 a k = A.1 a k := fun a k h1 h2 h3 h4 h5 h6 h7 => by
    rw [key, if_neg h1, if_neg h2, if_neg h3, if_neg (by omega), if_neg (by omega), if_neg (by omega), if_neg (by omega), if_neg (by omega), if_neg (by omega), if_neg (by omega), if_neg (by omega), if_neg (by omega), if_neg (by omega)]
  refine ⟨A1, ⟨by rw [eA]; rfl, fun a k hk => key0 a k (by unfold xSh at hk; omega) (by unfold xSh at hk; omega) (by unfold xSh at hk; omega) (by unfold xSh at hk; omega) (by unfold xSh at hk; omega) (by unfold xSh at hk; omega) (by unfold xSh at hk; omega)⟩, ⟨by rw [key, if_pos ⟨rfl, rfl⟩]; omega, fun e he => ?_⟩, k⟩
  by_cases d : e = n
  · subst d
    rw [upE_n]
    refine ⟨⟨?_, fun j j0 j1 => ?_⟩, ⟨?_, ?_⟩, ?_, fun j j0 j1 => ?_⟩
    · rw [key, if_neg (by omega), if_neg (by omega), if_neg (by omega), if_neg (by omega), if_neg (by omega), if_neg (by omega), if_neg (by omega), if_neg (by omega), if_pos ⟨rfl, rfl⟩]
      exact Int.zero_add _
    · have j1' : j < (T : Int) := j1
      rw [key, if_neg (by omega), if_neg (by omega), if_neg (by omega), if_neg (by omega), if_neg (by omega), if_neg (by omega), if_neg (by omega), if_neg (by omega), if_neg (by omega), if_pos ⟨rfl, j0, by omega⟩, show j - 0 = ((j.toNat : Nat) : Int) by omega]
      rw [show (T, g, mo, ti, (m : Int), tx).2.1 j = g ((j.toNat : Nat) : Int) by rw [show ((j.toNat : Nat) : Int) = j by omega]]
      exact hL.2.2 j.toNat (by omega) (by omega)
    · rw [key, if_neg (by omega), if_neg (by omega), if_pos ⟨rfl, rfl⟩]
    · rw [key, if_neg (by omega), if_pos ⟨rfl, rfl⟩]
    · rw [key, if_neg (by omega), if_neg (by omega), if_neg (by omega), if_pos ⟨rfl, rfl⟩]
      exact Int.zero_add _
    · have j1' : j < (m : Int) := j1
      rw [key, if_neg (by omega), if_neg (by omega), if_neg (by omega), if_neg (by omega), if_pos ⟨rfl, j0, by omega⟩, show j - 0 = j by omega]
      exact htx j j0 j1'
  · rw [upE_o d]
    obtain ⟨⟨a1, a2⟩, ⟨a3, a4⟩, a5, a6⟩ := h.2 e (by omega)
    have o1 := hE e (by omega)
    exact ⟨⟨by rw [key0 _ _ (by omega) (by omega) (by omega) (by omega) (by omega) (by omega) (by omega)]; exact a1, fun k k0 k1 => by rw [key0 _ _ (by omega) (by omega) (by omega) (by omega) (by omega) (by omega) (by omega)]; exact a2 k k0 k1⟩, ⟨by rw [key0 _ _ (by omega) (by omega) (by omega) (by omega) (by omega) (by omega) (by omega)]; exact a3, by rw [key0 _ _ (by omega) (by omega) (by omega) (by omega) (by omega) (by omega) (by omega)]; exact a4⟩, by rw [key0 _ _ (by omega) (by omega) (by omega) (by omega) (by omega) (by omega) (by omega)]; exact a5, fun k k0 k1 => by rw [key0 _ _ (by omega) (by omega) (by omega) (by omega) (by omega) (by omega) (by omega)]; exact a6 k k0 k1⟩
/-- the reference's texts -/
theorem md_ent {B : ms} {n T m c n1 : Nat} {E : Nat → En} {g tx : Int → Int} {fr mo ti : Int} (hn : n < 16) (hE : ∀ e : Nat, e < n → EnOk (E e)) (h : ShM B n E) (hN : NamM B n T g) (hT : T ≤ 100) (hc : SH c = (1, n1, [])) (hcs : c ≠ 367 ∧ ¬ (425 ≤ c ∧ c ≤ 430)) (hf : 0 ≤ fr) (hm : m ≤ 6000) (hfm : fr + m ≤ n1) (hn1 : n1 < 1000000) (htx : ∀ k : Int, 0 ≤ k → k < m → B.1 c (fr + k) = b8 (tx k)) : ∃ B1, EX xSi B B1 ∧ ShM B1 (n + 1) (upE E n (T, g, mo, ti, m, tx)) ∧ EV q 397 0 [some (.ref 367), some (vI mo), some (vI ti), some (.ref c), some (vI fr), some (vI m), none] [] B none B1 := by
  have wn : Unit → w32 ((n : Nat) : Int) = n := fun _ => w32_of (by omega)
  have wm : Unit → w32 ((m : Nat) : Int) = m := fun _ => w32_of (by omega)
  have en1 : ((n + 1 : Nat) : Int) = (n : Int) + 1 := by omega
  -- the text
  have lp : ∀ (d i : Nat) (U : ms), i + d = m → U.1 367 95 = n → (∀ k : Int, 0 ≤ k → k < m → U.1 c (fr + k) = b8 (tx k)) → (∀ k : Nat, k < i → U.1 429 (6000 * (n : Int) + k) = b8 (tx k)) → ∃ V, EX (fun a k => a = 429 ∧ 6000 * (n : Int) ≤ k ∧ k < 6000 * (n : Int) + 6000) U V ∧ (∀ k : Nat, k < m → V.1 429 (6000 * (n : Int) + k) = b8 (tx k)) ∧ V.1 367 95 = n ∧ EV q 397 34 [some (.ref 367), some (vI mo), some (vI ti), some (.ref c), some (vI fr), some (vI m), some (vI i)] [] U none (wI V 367 95 ((n : Int) + 1)) := by
    intro d
    induction d with
    | zero =>
      intro i U hi h95 hx hk
      have e : i = m := by omega
      subst e
      exact ⟨U, EX.refl _ U, hk, h95, vc_MD_entryOf_34 _ _ _ _ _ c n1 hc (cY (Int.le_refl _) (fun S1 e1 => ⟨rfl, by rw [e1, h95]⟩))⟩
    | succ d ih =>
      intro i U hi h95 hx hk
      have wi : Unit → w32 ((i : Nat) : Int) = i := fun _ => w32_of (by omega)
      have wfi : Unit → w32 (fr + (i : Int)) = fr + i := fun _ => w32_of (by omega)
      have wk : Unit → w32 (6000 * (n : Int) + i) = 6000 * (n : Int) + i := fun _ => w32_of (by omega)
      have ei : ((i + 1 : Nat) : Int) = (i : Int) + 1 := by omega
      have e8 : b8 (b8 (tx i)) = b8 (tx i) := b8_of (b8_rg _)
      obtain ⟨V, k1, k2, k3, k4⟩ := ih (i + 1) (wI U 429 (6000 * (n : Int) + i) (b8 (tx i))) (by omega) (by rw [wI_no _ (by omega)]; exact h95) (fun k k0 k1 => by rw [wI_no _ (by omega)]; exact hx k k0 k1) (fun k hk' => by
        by_cases z : k = i
        · subst z; rw [wI_at]
        · rw [wI_no _ (by omega)]; exact hk k (by omega))
      rw [ei] at k4
      refine ⟨V, EX.trans (EX.wr (EX.refl _ U) ⟨rfl, by omega, by omega⟩) k1, k2, k3, vc_MD_entryOf_34 _ _ _ _ _ c n1 hc ?_⟩
      rw [wm (), wi (), wfi (), h95, wk (), hx i (by omega) (by omega), e8]
      exact cNo (by omega) ⟨by omega, by omega, fun S4 e4 => by rw [e4]; exact k4⟩
  obtain ⟨U, eU⟩ : ∃ U : ms, U = wI (wI (wI B 427 n mo) 428 n ti) 430 n m := ⟨_, rfl⟩
  have u95 : U.1 367 95 = n := by rw [eU, wI_no _ (by omega), wI_no _ (by omega), wI_no _ (by omega)]; exact h.1
  have keyU : ∀ (a : Nat) (k : Int), ¬ ((a = 427 ∨ a = 428 ∨ a = 430) ∧ k = n) → U.1 a k = B.1 a k := fun a k y => by rw [eU, wI_no _ (by omega), wI_no _ (by omega), wI_no _ (by omega)]
  obtain ⟨V, k1, k2, k3, k4⟩ := lp m 0 U (by omega) u95 (fun k k0 k1 => by rw [keyU _ _ (by omega)]; exact htx k k0 k1) (fun k hk => absurd hk (by omega))
  have keyV : ∀ (a : Nat) (k : Int), ¬ (a = 367 ∧ k = 95) → ¬ (a = 429 ∧ 6000 * (n : Int) ≤ k ∧ k < 6000 * (n : Int) + 6000) → (wI V 367 95 ((n : Int) + 1)).1 a k = U.1 a k := fun a k y1 y2 => by rw [wI_no _ y1]; exact k1.2 a k y2
  have q1 : ∀ (a : Nat) (k : Int), ¬ (a = 367 ∧ k = 95) → ¬ (a = 429 ∧ 6000 * (n : Int) ≤ k ∧ k < 6000 * (n : Int) + 6000) → ¬ ((a = 427 ∨ a = 428 ∨ a = 430) ∧ k = n) → (wI V 367 95 ((n : Int) + 1)).1 a k = B.1 a k := fun a k y1 y2 y3 => by rw [keyV a k y1 y2, keyU a k y3]
  refine ⟨wI V 367 95 ((n : Int) + 1), ⟨by show V.2 = B.2; rw [k1.1, eU]; rfl, fun a k hk => q1 a k (by unfold xSi at hk; omega) (by unfold xSi at hk; omega) (by unfold xSi at hk; omega)⟩, ⟨by rw [wI_at, en1], fun e he => ?_⟩, vc_MD_entryOf _ _ _ _ c n1 hc ?_⟩
  · by_cases d : e = n
    · subst d
      rw [upE_n]
      refine ⟨⟨by rw [q1 _ _ (by omega) (by omega) (by omega)]; exact hN.1, fun j j0 j1 => ?_⟩, ⟨by rw [keyV _ _ (by omega) (by omega), eU, wI_no _ (by omega), wI_no _ (by omega), wI_at], by rw [keyV _ _ (by omega) (by omega), eU, wI_no _ (by omega), wI_at]⟩, by rw [keyV _ _ (by omega) (by omega), eU, wI_at], fun j j0 j1 => ?_⟩
      · have j1' : j < (T : Int) := j1
        have := hN.2 j.toNat (by omega)
        rw [show ((j.toNat : Nat) : Int) = j by omega] at this
        rw [q1 _ _ (by omega) (by omega) (by omega)]
        exact this
      · have j1' : j < (m : Int) := j1
        have := k2 j.toNat (by omega)
        rw [show ((j.toNat : Nat) : Int) = j by omega] at this
        rw [wI_no _ (by omega)]
        exact this
    · rw [upE_o d]
      obtain ⟨⟨a1, a2⟩, ⟨a3, a4⟩, a5, a6⟩ := h.2 e (by omega)
      have o1 := hE e (by omega)
      have o2 := o1.2.1
      exact ⟨⟨by rw [q1 _ _ (by omega) (by omega) (by omega)]; exact a1, fun k k0 k1 => by rw [q1 _ _ (by omega) (by omega) (by omega)]; exact a2 k k0 k1⟩, ⟨by rw [q1 _ _ (by omega) (by omega) (by omega)]; exact a3, by rw [q1 _ _ (by omega) (by omega) (by omega)]; exact a4⟩, by rw [q1 _ _ (by omega) (by omega) (by omega)]; exact a5, fun k k0 k1 => by rw [q1 _ _ (by omega) (by omega) (by omega)]; exact a6 k k0 k1⟩
  · rw [h.1, wn ()]
    refine ⟨by omega, fun S2 e2 => ?_⟩
    have f2 : S2.1 367 95 = n := by rw [e2, wI_no _ (by omega)]; exact h.1
    rw [f2, wn ()]
    refine ⟨by omega, fun S4 e4 => ?_⟩
    have f4 : S4.1 367 95 = n := by rw [e4, wI_no _ (by omega)]; exact f2
    rw [f4, wn ()]
    refine ⟨by omega, fun S6 e6 => ?_⟩
    rw [e6, e4, e2, ← eU]
    exact k4
end Rea4
