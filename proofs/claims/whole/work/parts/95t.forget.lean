/-! forget on both sides -/
section Forget
variable {q : Nat × (Nat → Int32)} {S : ms} {a b d m : Int}
theorem wC_ne {c e : Nat} (p n : Int) (f : Int → Int) (k : Int) (h : e ≠ c) : (wC S c p n f).1 e k = S.1 e k := by
  show (if e = c ∧ p ≤ k ∧ k < p + n then f (k - p) else S.1 e k) = S.1 e k
  rw [if_neg (fun z => h z.1)]
theorem wC_in {c : Nat} {p n : Int} (f : Int → Int) {k : Int} (h0 : p ≤ k) (h1 : k < p + n) : (wC S c p n f).1 c k = f (k - p) := by
  show (if c = c ∧ p ≤ k ∧ k < p + n then f (k - p) else S.1 c k) = f (k - p)
  rw [if_pos ⟨rfl, h0, h1⟩]
theorem ocN_rg (u : Nat → Int) (b : Int) : ∀ n : Nat, 0 ≤ ocN u n b ∧ ocN u n b ≤ n
  | 0 => ⟨Int.le_refl _, Int.le_refl _⟩
  | n + 1 => by
    have h := ocN_rg u b n
    have e : ocN u (n + 1) b = ocN u n b + if u n = b then 1 else 0 := rfl
    rw [e]
    split <;> omega
theorem ocN_B (u : Nat → Int) (b : Int) : ∀ n : Nat, (ocN u n b = 0 ↔ ocB u n b = 0)
  | 0 => ⟨fun _ => rfl, fun _ => rfl⟩
  | n + 1 => by
    have h := ocN_B u b n
    have h1 := ocN_rg u b n
    have e : ocN u (n + 1) b = ocN u n b + if u n = b then 1 else 0 := rfl
    have e2 : ocB u (n + 1) b = if u n = b then 1 else ocB u n b := rfl
    rw [e, e2]
    split
    · constructor <;> intro z <;> omega
    · rw [Int.add_zero]
      exact h
theorem ocB_in (u : Nat → Int) {b : Int} : ∀ {n : Nat} {j : Nat}, j < n → u j = b → ocB u n b = 1
  | 0, j, hj, _ => absurd hj (by omega)
  | n + 1, j, hj, e => by
    show (if u n = b then (1 : Int) else ocB u n b) = 1
    by_cases c : u n = b
    · rw [if_pos c]
    · rw [if_neg c]
      have cj : j ≠ n := fun z => by subst z; exact c e
      exact ocB_in u (j := j) (by omega) e
theorem ocB_ex (u : Nat → Int) {b : Int} : ∀ {n : Nat}, ocB u n b = 1 → ∃ j, j < n ∧ u j = b
  | 0, h => absurd h (by show ¬ (0 : Int) = 1; decide)
  | n + 1, h => by
    have e2 : ocB u (n + 1) b = if u n = b then 1 else ocB u n b := rfl
    rw [e2] at h
    by_cases c : u n = b
    · exact ⟨n, by omega, c⟩
    · rw [if_neg c] at h
      obtain ⟨j, j1, j2⟩ := ocB_ex u h
      exact ⟨j, by omega, j2⟩
theorem sm_cg {f g : Nat → Int} : ∀ {n : Nat}, (∀ j, j < n → f j = g j) → sm f n = sm g n
  | 0, _ => rfl
  | n + 1, h => by
    show sm f n + f n = sm g n + g n
    rw [sm_cg (fun j hj => h j (by omega)), h n (by omega)]
theorem sm_upd {f g : Nat → Int} {i : Nat} : ∀ {n : Nat}, i < n → (∀ j, j < n → j ≠ i → g j = f j) → sm g n = sm f n + (g i - f i)
  | 0, h, _ => absurd h (by omega)
  | n + 1, h, hf => by
    show sm g n + g n = sm f n + f n + (g i - f i)
    by_cases c : i = n
    · subst c
      rw [sm_cg (n := i) (f := g) (g := f) (fun j hj => hf j (by omega) (by omega))]
      omega
    · rw [sm_upd (n := n) (f := f) (g := g) (by omega) (fun j hj hn => hf j (by omega) hn), hf n (by omega) (fun z => c z.symm)]
      omega
theorem sm_z {f : Nat → Int} {n : Nat} : (∀ j, j < n → 0 ≤ f j) → sm f n = 0 → ∀ j, j < n → f j = 0 := by
  induction n with
  | zero => exact fun _ _ j hj => absurd hj (by omega)
  | succ n ih =>
    intro h e j hj
    have h1 : sm f (n + 1) = sm f n + f n := rfl
    have h2 := sm_nn (n := n) (fun i hi => h i (by omega))
    have h3 := h n (by omega)
    by_cases c : j = n
    · subst c
      omega
    · exact ih (fun i hi => h i (by omega)) (by omega) j (by omega)
theorem sm_0 {f : Nat → Int} : ∀ {n : Nat}, (∀ j, j < n → f j = 0) → sm f n = 0
  | 0, _ => rfl
  | n + 1, h => by
    show sm f n + f n = 0
    rw [sm_0 (fun j hj => h j (by omega)), h n (by omega)]
    rfl
theorem sm_le {f : Nat → Int} {c : Int} : ∀ {n : Nat}, (∀ j, j < n → f j ≤ c) → sm f n ≤ n * c
  | 0, _ => by
    show (0 : Int) ≤ ((0 : Nat) : Int) * c
    omega
  | n + 1, h => by
    have h1 := sm_le (n := n) (fun j hj => h j (by omega))
    have h2 := h n (by omega)
    show sm f n + f n ≤ ((n + 1 : Nat) : Int) * c
    rw [show ((n + 1 : Nat) : Int) * c = n * c + c by rw [Int.natCast_add, Int.add_mul]; omega]
    omega
theorem sm_sub (f g : Nat → Int) : ∀ n : Nat, sm (fun j => f j - g j) n = sm f n - sm g n
  | 0 => rfl
  | n + 1 => by
    show sm (fun j => f j - g j) n + (f n - g n) = sm f n + f n - (sm g n + g n)
    rw [sm_sub f g n]
    omega
/-- BLOCK b is not used -/
def dd (S : ms) (b : Int) : Int := if S.1 186 b ≠ 0 ∧ S.1 188 b = 0 then 1 else 0
theorem dd_01 (S : ms) (b : Int) : dd S b = 0 ∨ dd S b = 1 := by
  unfold dd
  split
  · exact Or.inr rfl
  · exact Or.inl rfl
/-- the first n BLOCKS are swept -/
def SW (S T : ms) (n : Nat) : Prop := T.2 = S.2 ∧ T.1 184 0 = S.1 184 0 - sm (fun b => dd S b) n ∧ T.1 184 1 = S.1 184 1 - sm (fun b => dd S b * S.1 186 b) n ∧ (∀ b : Int, 0 ≤ b → b < n → T.1 186 b = S.1 186 b - dd S b * S.1 186 b) ∧ ∀ (a : Nat) (k : Int), ¬ (a = 184 ∧ (k = 0 ∨ k = 1)) → ¬ (a = 186 ∧ 0 ≤ k ∧ k < n) → T.1 a k = S.1 a k
theorem lp_sweep (hz : ∀ b : Int, 0 ≤ b → b < 300 → 0 ≤ S.1 186 b ∧ S.1 186 b ≤ 200) (hu : ∀ b : Int, 0 ≤ b → b < 300 → w32 (S.1 188 b) = S.1 188 b) : ∀ (t j : Nat) (T : ms), j + t = 300 → SW S T j → ∃ T', EV q 246 4 [some (.ref 184), some (vI (sm (fun b => dd S b) j)), some (vI j)] [] T (some (vI (sm (fun b => dd S b) 300))) T' ∧ SW S T' 300 := by
  intro t
  induction t with
  | zero =>
    intro j T hj hT
    have e : j = 300 := by omega
    subst e
    exact ⟨T, vc_Store_sweep_4 _ _ ⟨fun _ => ⟨rfl, rfl⟩, fun n => absurd (by decide) n⟩, hT⟩
  | succ t ih =>
    intro j T hj hT
    obtain ⟨t1, t2, t3, t4, t5⟩ := hT
    have z := hz j (by omega) (by omega)
    have wu := hu j (by omega) (by omega)
    have wz : w32 (S.1 186 j) = S.1 186 j := w32_of (by omega)
    have wj : Unit → w32 (j : Int) = j := fun _ => w32_of (by omega)
    have e186 : T.1 186 j = S.1 186 j := t5 _ _ (by omega) (by omega)
    have e188 : T.1 188 j = S.1 188 j := t5 _ _ (by omega) (by omega)
    have ek : ((j + 1 : Nat) : Int) = (j : Int) + 1 := by omega
    have es : sm (fun b : Nat => dd S b) (j + 1) = sm (fun b : Nat => dd S b) j + dd S j := rfl
    have es2 : sm (fun b : Nat => dd S b * S.1 186 b) (j + 1) = sm (fun b : Nat => dd S b * S.1 186 b) j + dd S j * S.1 186 j := rfl
    by_cases c : S.1 186 j ≠ 0 ∧ S.1 188 j = 0
    · have d1 : dd S j = 1 := if_pos c
      have q2 : ∀ (a : Nat) (k : Int), (wI (wI (wI T 184 0 (T.1 184 0 - 1)) 184 1 (T.1 184 1 - S.1 186 j)) 186 j 0).1 a k = if a = 186 ∧ k = j then 0 else if a = 184 ∧ k = 1 then T.1 184 1 - S.1 186 j else if a = 184 ∧ k = 0 then T.1 184 0 - 1 else T.1 a k := fun _ _ => rfl
      obtain ⟨T', k1, k2⟩ := ih (j + 1) (wI (wI (wI T 184 0 (T.1 184 0 - 1)) 184 1 (T.1 184 1 - S.1 186 j)) 186 j 0) (by omega) (by
        refine ⟨t1, ?_, ?_, fun b b0 b1 => ?_, fun a k h1 h2 => ?_⟩
        · rw [q2, if_neg (by omega), if_neg (by omega), if_pos ⟨rfl, rfl⟩, es, d1, t2]
          omega
        · rw [q2, if_neg (by omega), if_pos ⟨rfl, rfl⟩, es2, d1, t3]
          omega
        · rw [q2]
          by_cases cb : b = j
          · subst cb
            rw [if_pos ⟨rfl, rfl⟩, d1]
            omega
          · rw [if_neg (by omega), if_neg (by omega), if_neg (by omega), t4 b b0 (by omega)]
        · rw [q2, if_neg (by omega), if_neg (by omega), if_neg (by omega), t5 a k h1 (by omega)])
      rw [es, d1, ek] at k1
      refine ⟨T', vc_Store_sweep_4 _ _ ?_, k2⟩
      rw [wj (), e186, wz, e188, wu]
      refine ⟨fun n => absurd n (by omega), fun _ => ⟨by omega, fun n => absurd n (by omega), fun _ => ⟨by omega, fun n => absurd c.2 n, fun _ S3 f3 => ⟨by omega, fun S5 f5 => ⟨by omega, fun S7 f7 => vc_Store_sweep_64 _ _ ?_⟩⟩⟩⟩⟩
      have e3 : S3.1 184 1 = T.1 184 1 := by
        subst f3
        rw [rI_I, if_neg (by omega)]
      have e4 : S3.1 186 j = S.1 186 j := by
        subst f3
        rw [rI_I, if_neg (by omega), e186]
      rw [e3, e4] at f5
      subst f3 f5 f7
      exact k1
    · have d0 : dd S j = 0 := if_neg c
      obtain ⟨T', k1, k2⟩ := ih (j + 1) T (by omega) (by
        refine ⟨t1, ?_, ?_, fun b b0 b1 => ?_, fun a k h1 h2 => t5 a k h1 (by omega)⟩
        · rw [es, d0, t2]
          omega
        · rw [es2, d0, t3]
          omega
        · by_cases cb : b = j
          · subst cb
            rw [d0, e186]
            omega
          · rw [t4 b b0 (by omega)])
      rw [es, d0, ek, Int.add_zero] at k1
      refine ⟨T', vc_Store_sweep_4 _ _ ?_, k2⟩
      rw [wj (), e186, wz, e188, wu]
      refine ⟨fun n => absurd n (by omega), fun _ => ⟨by omega, fun _ => vc_Store_sweep_64 _ _ k1, fun n => ⟨by omega, fun _ => vc_Store_sweep_64 _ _ k1, fun n2 => absurd ⟨by omega, Classical.not_not.mp n2⟩ c⟩⟩⟩
theorem sp_sweep (hz : ∀ b : Int, 0 ≤ b → b < 300 → 0 ≤ S.1 186 b ∧ S.1 186 b ≤ 200) (hu : ∀ b : Int, 0 ≤ b → b < 300 → w32 (S.1 188 b) = S.1 188 b) : ∃ T', EV q 246 0 [some (.ref 184), none, none] [] S (some (vI (sm (fun b => dd S b) 300))) T' ∧ SW S T' 300 := by
  obtain ⟨T', k1, k2⟩ := lp_sweep (q := q) hz hu 300 0 S (by omega) ⟨rfl, (Int.sub_zero _).symm, (Int.sub_zero _).symm, fun b b0 b1 => absurd b1 (by omega), fun _ _ _ _ => rfl⟩
  exact ⟨T', vc_Store_sweep k1, k2⟩
/-- the class's uses are counted down -/
theorem lp_leave {r : Int} {n : Nat} {u : Nat → Int} (hr : 0 ≤ r ∧ r < 8) (hn : S.1 191 r = n) (hn2 : n ≤ 192) (hu : ∀ j : Nat, j < n → (0 ≤ u j ∧ u j < 300) ∧ S.1 192 (r * 192 + j) = u j) {rr : Option Value} {P : ms → Prop} (k : ∀ T, (T.2 = S.2 ∧ (∀ (a : Nat) (k : Int), ¬ (a = 188 ∧ 0 ≤ k ∧ k < 300) → T.1 a k = S.1 a k) ∧ ∀ b : Int, 0 ≤ b → b < 300 → T.1 188 b = S.1 188 b - ocN u n b) → ∃ T', EV q 251 2 [some (.ref 184), some (vI r), some (vI n)] [] T rr T' ∧ P T') : ∀ (t j : Nat) (T : ms), j + t = n → (T.2 = S.2 ∧ (∀ (a : Nat) (k : Int), ¬ (a = 188 ∧ 0 ≤ k ∧ k < 300) → T.1 a k = S.1 a k) ∧ ∀ b : Int, 0 ≤ b → b < 300 → T.1 188 b = S.1 188 b - ocN u j b) → ∃ T', EV q 251 2 [some (.ref 184), some (vI r), some (vI j)] [] T rr T' ∧ P T' := by
  have wr : w32 r = r := w32_of (by omega)
  have wn : Unit → w32 (n : Int) = n := fun _ => w32_of (by omega)
  intro t
  induction t with
  | zero =>
    intro j T hj hT
    have e : j = n := by omega
    subst e
    exact k T hT
  | succ t ih =>
    intro j T hj hT
    obtain ⟨t1, t2, t3⟩ := hT
    obtain ⟨u1, u2⟩ := hu j (by omega)
    have wj : Unit → w32 (j : Int) = j := fun _ => w32_of (by omega)
    have wx : w32 (r * 192 + j) = r * 192 + j := w32_of (by omega)
    have wu : w32 (u j) = u j := w32_of (by omega)
    obtain ⟨T', k1, k2⟩ := ih (j + 1) (wI T 188 (u j) (S.1 188 (u j) - ocN u j (u j) - 1)) (by omega) ⟨t1, fun a k h1 => by rw [rI_I, if_neg (fun z => h1 ⟨z.1, by omega, by omega⟩), t2 a k h1], fun b b0 b1 => by
      rw [rI_I]
      show _ = S.1 188 b - (ocN u j b + if u j = b then 1 else 0)
      by_cases c : u j = b
      · rw [if_pos ⟨rfl, c.symm⟩, if_pos c, c]
        omega
      · rw [if_neg (fun z => c z.2.symm), if_neg c, t3 b b0 b1, Int.add_zero]⟩
    refine ⟨T', vc_Store_leave_2 _ _ ?_, k2⟩
    rw [wr, t2 191 r (by omega), hn, wn (), wj (), wx, t2 192 _ (by omega), u2, wu, t3 _ u1.1 u1.2]
    refine ⟨by omega, fun n => absurd n (by omega), fun _ => ⟨by omega, by omega, by omega, fun S13 f => ?_⟩⟩
    subst f
    rw [show (j : Int) + 1 = ((j + 1 : Nat) : Int) by omega]
    exact k1
/-- is b in one of the reference's SNAPSHOTS but those ahead of s -/
theorem lp_drop1 {T : ms} {s x1 : Int} {n : Nat} {u : Nat → Int} (hs : 0 ≤ s ∧ s < 8) (hn : T.1 451 s = n) (hn2 : n ≤ 192) (hx : 0 ≤ x1 ∧ x1 < 300) (hu : ∀ j : Nat, j < n → (0 ≤ u j ∧ u j < 300) ∧ T.1 450 (200 * s + j) = u j) {rr : Option Value} {T' : ms} (k1 : ocB u n x1 = 0 → EV q 424 2 [some (.ref 367), some (vI x1), some (vI (s + 1)), none] [] T rr T') (k2 : ocB u n x1 = 1 → rr = some (vI 0) ∧ T' = T) : ∀ (t j : Nat), j + t = n → (∀ i, i < j → u i ≠ x1) → EV q 424 12 [some (.ref 367), some (vI x1), some (vI s), some (vI j)] [] T rr T' := by
  have ws : w32 s = s := w32_of (by omega)
  have wn : Unit → w32 (n : Int) = n := fun _ => w32_of (by omega)
  have wx1 : w32 x1 = x1 := w32_of (by omega)
  intro t
  induction t with
  | zero =>
    intro j hj hno
    have e : j = n := by omega
    subst e
    refine vc_MD_dropBlock_12 _ _ _ ?_
    rw [ws, hn]
    refine ⟨by omega, fun _ => k1 ?_, fun n => absurd (Int.le_refl _) n⟩
    rcases ocB_01 u x1 j with z | z
    · exact z
    · obtain ⟨i, i1, i2⟩ := ocB_ex u z
      exact absurd i2 (hno i i1)
  | succ t ih =>
    intro j hj hno
    obtain ⟨u1, u2⟩ := hu j (by omega)
    have wj : Unit → w32 (j : Int) = j := fun _ => w32_of (by omega)
    have wx : w32 (200 * s + j) = 200 * s + j := w32_of (by omega)
    have wu : w32 (u j) = u j := w32_of (by omega)
    refine vc_MD_dropBlock_12 _ _ _ ?_
    rw [ws, hn, wn (), wj (), wx, u2, wu, wx1]
    refine ⟨by omega, fun n => absurd n (by omega), fun _ => ⟨by omega, fun c => ?_, fun c => k2 (ocB_in u (j := j) (by omega) (Classical.not_not.mp c))⟩⟩
    rw [show (j : Int) + 1 = ((j + 1 : Nat) : Int) by omega]
    refine ih (j + 1) (by omega) (fun i hi => ?_)
    by_cases ci : i = j
    · subst ci
      exact c
    · exact hno i (by omega)
theorem lp_drop {T : ms} {x1 : Int} {N : Nat} {n : Nat → Nat} {u : Nat → Nat → Int} (hN : T.1 367 129 = N) (hN8 : N ≤ 8) (hx : 0 ≤ x1 ∧ x1 < 300) (hs : ∀ s : Nat, s < N → T.1 451 s = n s ∧ n s ≤ 192 ∧ ∀ j : Nat, j < n s → (0 ≤ u s j ∧ u s j < 300) ∧ T.1 450 (200 * s + j) = u s j) {rr : Option Value} {T' : ms} (k1 : (∀ s, s < N → ocB (u s) (n s) x1 = 0) → EV q 424 2 [some (.ref 367), some (vI x1), some (vI N), none] [] T rr T') (k2 : ∀ s, s < N → ocB (u s) (n s) x1 = 1 → rr = some (vI 0) ∧ T' = T) : ∀ (t s : Nat), s + t = N → (∀ i, i < s → ocB (u i) (n i) x1 = 0) → EV q 424 2 [some (.ref 367), some (vI x1), some (vI s), none] [] T rr T' := by
  have wN : Unit → w32 (N : Int) = N := fun _ => w32_of (by omega)
  intro t
  induction t with
  | zero =>
    intro s hs' hno
    have e : s = N := by omega
    subst e
    exact k1 hno
  | succ t ih =>
    intro s hs' hno
    obtain ⟨s1, s2, s3⟩ := hs s (by omega)
    have wsn : Unit → w32 (s : Int) = s := fun _ => w32_of (by omega)
    have k12 := lp_drop1 (q := q) (T := T) (s := s) (x1 := x1) (n := n s) (u := u s) (rr := rr) (T' := T') (by omega) s1 s2 hx s3 (fun z => by
      rw [show (s : Int) + 1 = ((s + 1 : Nat) : Int) by omega]
      refine ih (s + 1) (by omega) (fun i hi => ?_)
      by_cases ci : i = s
      · subst ci
        exact z
      · exact hno i (by omega)) (fun z => k2 s (by omega) z) (n s) 0 (by omega) (fun i hi => absurd hi (by omega))
    refine vc_MD_dropBlock_2 _ _ ?_
    rw [hN, wN (), wsn ()]
    exact ⟨fun n => absurd n (by omega), fun _ => k12⟩
/-- dropBlock(b) -/
theorem md_drop {T : ms} {x1 : Int} {N : Nat} {n : Nat → Nat} {u : Nat → Nat → Int} (hN : T.1 367 129 = N) (hN8 : N ≤ 8) (hx : 0 ≤ x1 ∧ x1 < 300) (hs : ∀ s : Nat, s < N → T.1 451 s = n s ∧ n s ≤ 192 ∧ ∀ j : Nat, j < n s → (0 ≤ u s j ∧ u s j < 300) ∧ T.1 450 (200 * s + j) = u s j) : ((∃ s, s < N ∧ ocB (u s) (n s) x1 = 1) ∨ T.1 448 x1 = 0 → EV q 424 0 [some (.ref 367), some (vI x1), none, none] [] T (some (vI 0)) T) ∧ ((∀ s, s < N → ocB (u s) (n s) x1 = 0) → T.1 448 x1 = 1 → EV q 424 0 [some (.ref 367), some (vI x1), none, none] [] T (some (vI 1)) (wI (wI (wI T 448 x1 0) 367 123 (T.1 367 123 - 1)) 367 124 (T.1 367 124 - T.1 447 x1))) := by
  have wN : Unit → w32 (N : Int) = N := fun _ => w32_of (by omega)
  have wx : w32 x1 = x1 := w32_of (by omega)
  constructor
  · intro h
    refine vc_MD_dropBlock _ (lp_drop (q := q) hN hN8 hx hs (fun z => vc_MD_dropBlock_2 _ _ ?_) (fun _ _ _ => ⟨rfl, rfl⟩) N 0 (by omega) (fun i hi => absurd hi (by omega)))
    rw [hN, wx]
    refine ⟨fun _ => ⟨by omega, fun c => ?_, fun _ => ⟨rfl, rfl⟩⟩, fun n => absurd (Int.le_refl _) n⟩
    rcases h with ⟨s, s1, s2⟩ | h
    · have := z s s1
      omega
    · rw [h] at c
      exact absurd rfl c
  · intro h h1
    refine vc_MD_dropBlock _ (lp_drop (q := q) hN hN8 hx hs (fun z => vc_MD_dropBlock_2 _ _ ?_) (fun s s1 s2 => absurd (h s s1) (by omega)) N 0 (by omega) (fun i hi => absurd hi (by omega)))
    rw [hN, wx, h1]
    refine ⟨fun _ => ⟨by omega, fun _ => ⟨by omega, fun S3 f3 S4 f4 => ⟨by omega, fun S6 f6 => ⟨rfl, ?_⟩⟩⟩, fun n => absurd (by decide) n⟩, fun n => absurd (Int.le_refl _) n⟩
    have e3 : S3.1 367 123 = T.1 367 123 := by
      subst f3
      rw [rI_I, if_neg (by omega)]
    rw [e3] at f4
    have e4 : S4.1 367 124 = T.1 367 124 := by
      subst f4 f3
      rw [rI_I, if_neg (by omega), rI_I, if_neg (by omega)]
    have e5 : S4.1 447 x1 = T.1 447 x1 := by
      subst f4 f3
      rw [rI_I, if_neg (by omega), rI_I, if_neg (by omega)]
    rw [e4, e5] at f6
    subst f3 f4 f6
    rfl
/-- the reference keeps the row that goes -/
theorem lp_fg1 {x1 s : Int} {n : Nat} (hs : 0 ≤ s ∧ s < 8) (hn2 : n ≤ 192) {rr : Option Value} {T' : ms} : ∀ (t : Nat) (j : Nat), j + t = n → EV q 427 62 [some (.ref 367), some (vI x1), some (vI s), some (vI n), some (vI s), none] [] (wC S 452 0 n (fun k => S.1 450 (200 * s + k))) rr T' → EV q 427 27 [some (.ref 367), some (vI x1), some (vI s), some (vI n), some (vI j), none] [] (wC S 452 0 j (fun k => S.1 450 (200 * s + k))) rr T' := by
  have wn : Unit → w32 (n : Int) = n := fun _ => w32_of (by omega)
  intro t
  induction t with
  | zero =>
    intro j hj k
    have e : j = n := by omega
    subst e
    exact vc_MD_forget_27 _ _ _ _ ⟨fun _ => k, fun n => absurd (Int.le_refl _) n⟩
  | succ t ih =>
    intro j hj k
    have wj : Unit → w32 (j : Int) = j := fun _ => w32_of (by omega)
    have wx : w32 (200 * s + j) = 200 * s + j := w32_of (by omega)
    have gd := wC_gd S 452 0 j (fun k => S.1 450 (200 * s + k)) (by omega)
    rw [Int.zero_add] at gd
    refine vc_MD_forget_27 _ _ _ _ ?_
    rw [wn (), wj (), wx]
    refine ⟨fun n => absurd n (by omega), fun _ => ⟨by omega, by omega, fun S3 f => ?_⟩⟩
    have e : (wC S 452 0 j (fun k => S.1 450 (200 * s + k))).1 450 (200 * s + j) = S.1 450 (200 * s + j) := wC_ne _ _ _ _ (by decide)
    rw [e, gd] at f
    subst f
    rw [show (j : Int) + 1 = ((j + 1 : Nat) : Int) by omega]
    exact ih (j + 1) (by omega) k
/-- the rows behind s are moved to the front, as far as row k and e cells of it -/
def SF (S T : ms) (s k e : Int) : Prop := T.2 = S.2 ∧ (∀ j : Int, T.1 449 j = if s ≤ j ∧ j < k then S.1 449 (j + 1) else S.1 449 j) ∧ (∀ j : Int, T.1 451 j = if s ≤ j ∧ j < k then S.1 451 (j + 1) else S.1 451 j) ∧ (∀ i : Int, T.1 450 i = if 200 * s ≤ i ∧ i < 200 * k + e then S.1 450 (i + 200) else S.1 450 i) ∧ ∀ (a : Nat) (i : Int), a ≠ 449 → a ≠ 450 → a ≠ 451 → T.1 a i = S.1 a i
theorem lp_fg2 {x1 x2 x3 s k : Int} (hs : 0 ≤ s) (hk : s ≤ k ∧ k < 7) {rr : Option Value} {P : ms → Prop} (nx : ∀ T, (T.2 = S.2 ∧ (∀ j : Int, T.1 449 j = if s ≤ j ∧ j < k + 1 then S.1 449 (j + 1) else S.1 449 j) ∧ (∀ j : Int, T.1 451 j = if s ≤ j ∧ j < k + 1 then S.1 451 (j + 1) else S.1 451 j) ∧ (∀ i : Int, T.1 450 i = if 200 * s ≤ i ∧ i < 200 * k + 200 then S.1 450 (i + 200) else S.1 450 i) ∧ ∀ (a : Nat) (i : Int), a ≠ 449 → a ≠ 450 → a ≠ 451 → T.1 a i = S.1 a i) → ∃ T', EV q 427 62 [some (.ref 367), some (vI x1), some (vI x2), some (vI x3), some (vI (k + 1)), none] [] T rr T' ∧ P T') : ∀ (t : Nat) (e : Int) (T : ms), 0 ≤ e → e + t = 200 → (T.2 = S.2 ∧ (∀ j : Int, T.1 449 j = if s ≤ j ∧ j < k + 1 then S.1 449 (j + 1) else S.1 449 j) ∧ (∀ j : Int, T.1 451 j = if s ≤ j ∧ j < k + 1 then S.1 451 (j + 1) else S.1 451 j) ∧ (∀ i : Int, T.1 450 i = if 200 * s ≤ i ∧ i < 200 * k + e then S.1 450 (i + 200) else S.1 450 i) ∧ ∀ (a : Nat) (i : Int), a ≠ 449 → a ≠ 450 → a ≠ 451 → T.1 a i = S.1 a i) → ∃ T', EV q 427 108 [some (.ref 367), some (vI x1), some (vI x2), some (vI x3), some (vI k), some (vI e)] [] T rr T' ∧ P T' := by
  intro t
  induction t with
  | zero =>
    intro e T e0 he hT
    have ee : e = 200 := by omega
    subst ee
    obtain ⟨T', k1, k2⟩ := nx T hT
    exact ⟨T', vc_MD_forget_108 _ _ _ _ _ ⟨fun _ => k1, fun n => absurd (by decide) n⟩, k2⟩
  | succ t ih =>
    intro e T e0 he hT
    obtain ⟨t1, t2, t3, t4, t5⟩ := hT
    have we : w32 e = e := w32_of (by omega)
    have wx : w32 (200 * k + 200 + e) = 200 * k + 200 + e := w32_of (by omega)
    have wy : w32 (200 * k + e) = 200 * k + e := w32_of (by omega)
    have ev : T.1 450 (200 * k + 200 + e) = S.1 450 (200 * k + e + 200) := by
      rw [t4, if_neg (by omega), show 200 * k + 200 + e = 200 * k + e + 200 by omega]
    obtain ⟨T', k1, k2⟩ := ih (e + 1) (wI T 450 (200 * k + e) (S.1 450 (200 * k + e + 200))) (by omega) (by omega) ⟨t1, fun j => by rw [rI_I, if_neg (by omega), t2], fun j => by rw [rI_I, if_neg (by omega), t3], fun i => by
      rw [rI_I]
      by_cases c : i = 200 * k + e
      · rw [if_pos ⟨rfl, c⟩, if_pos (by omega), c]
      · rw [if_neg (by omega), t4]
        by_cases c2 : 200 * s ≤ i ∧ i < 200 * k + e
        · rw [if_pos c2, if_pos (by omega)]
        · rw [if_neg c2, if_neg (by omega)], fun a i h1 h2 h3 => by rw [rI_I, if_neg (by omega), t5 a i h1 h2 h3]⟩
    refine ⟨T', vc_MD_forget_108 _ _ _ _ _ ?_, k2⟩
    rw [we, wx, wy, ev]
    refine ⟨fun n => absurd n (by omega), fun _ => ⟨by omega, by omega, fun S3 f => ?_⟩⟩
    subst f
    exact k1
theorem lp_fg3 {x1 x2 x3 s : Int} {N : Nat} (hs : 0 ≤ s) (hsN : s < N) (hN : S.1 367 129 = N) (hN8 : N ≤ 8) {rr : Option Value} {P : ms → Prop} (nx : ∀ T, SF S T s (N - 1 : Int) 0 → ∃ T', EV q 427 176 [some (.ref 367), some (vI x1), some (vI x2), some (vI x3), some (vI 0), some (vI 0)] [] (wI T 367 129 ((N : Int) - 1)) rr T' ∧ P T') : ∀ (t : Nat) (k : Int) (T : ms), s ≤ k → k + 1 + t = N → SF S T s k 0 → ∃ T', EV q 427 62 [some (.ref 367), some (vI x1), some (vI x2), some (vI x3), some (vI k), none] [] T rr T' ∧ P T' := by
  have wN : Unit → w32 (N : Int) = N := fun _ => w32_of (by omega)
  intro t
  induction t with
  | zero =>
    intro k T h1 h2 hT
    have e : k = (N : Int) - 1 := by omega
    subst e
    have e129 : T.1 367 129 = N := by rw [hT.2.2.2.2 367 129 (by decide) (by decide) (by decide), hN]
    obtain ⟨T', k1, k2⟩ := nx T hT
    have w1 : Unit → w32 ((N : Int) - 1 + 1) = N := fun _ => by rw [w32_of (by omega)]; omega
    refine ⟨T', vc_MD_forget_62 _ _ _ _ ?_, k2⟩
    rw [e129, wN (), w1 ()]
    refine ⟨fun _ S1 f => ?_, fun n => absurd (Int.le_refl _) n⟩
    subst f
    exact k1
  | succ t ih =>
    intro k T h1 h2 hT
    obtain ⟨t1, t2, t3, t4, t5⟩ := hT
    have e129 : T.1 367 129 = N := by rw [t5 367 129 (by decide) (by decide) (by decide), hN]
    have wk : w32 k = k := w32_of (by omega)
    have wk1 : w32 (k + 1) = k + 1 := w32_of (by omega)
    have e449 : T.1 449 (k + 1) = S.1 449 (k + 1) := by rw [t2, if_neg (by omega)]
    have e451 : T.1 451 (k + 1) = S.1 451 (k + 1) := by rw [t3, if_neg (by omega)]
    obtain ⟨T', k1, k2⟩ := lp_fg2 (q := q) (S := S) (x1 := x1) (x2 := x2) (x3 := x3) (s := s) (k := k) (rr := rr) (P := P) hs (by omega) (fun U hU => ih (k + 1) U (by omega) (by omega) ⟨hU.1, hU.2.1, hU.2.2.1, fun i => by
      rw [hU.2.2.2.1]
      rw [show 200 * (k + 1) + 0 = 200 * k + 200 by omega], hU.2.2.2.2⟩) 200 0 (wI (wI T 449 k (S.1 449 (k + 1))) 451 k (S.1 451 (k + 1))) (by omega) (by omega) ⟨t1, fun j => by
        rw [rI_I, if_neg (by omega), rI_I]
        by_cases c : j = k
        · rw [if_pos ⟨rfl, c⟩, if_pos (by omega), c]
        · rw [if_neg (by omega), t2]
          by_cases c2 : s ≤ j ∧ j < k
          · rw [if_pos c2, if_pos (by omega)]
          · rw [if_neg c2, if_neg (by omega)], fun j => by
        rw [rI_I]
        by_cases c : j = k
        · rw [if_pos ⟨rfl, c⟩, if_pos (by omega), c]
        · rw [if_neg (by omega), rI_I, if_neg (by omega), t3]
          by_cases c2 : s ≤ j ∧ j < k
          · rw [if_pos c2, if_pos (by omega)]
          · rw [if_neg c2, if_neg (by omega)], fun i => by rw [rI_I, if_neg (by omega), rI_I, if_neg (by omega), t4], fun a i h1 h2 h3 => by rw [rI_I, if_neg (by omega), rI_I, if_neg (by omega), t5 a i h1 h2 h3]⟩
    refine ⟨T', vc_MD_forget_62 _ _ _ _ ?_, k2⟩
    rw [e129, wN (), wk, wk1, e449]
    refine ⟨fun n => absurd n (by omega), fun _ => ⟨by omega, by omega, fun S4 f4 => ⟨by omega, by omega, fun S7 f7 => ?_⟩⟩⟩
    have e : S4.1 451 (k + 1) = S.1 451 (k + 1) := by
      subst f4
      rw [rI_I, if_neg (by omega), e451]
    rw [e] at f7
    subst f4 f7
    exact k1
end Forget
