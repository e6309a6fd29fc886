/-! the store: the relation, finding a SNAPSHOT, shared -/
section Store
variable {q : Nat × (Nat → Int32)} {S : ms} {a b d m : Int}
theorem lp_fillI {c n1 : Nat} (hc : SH c = (0, n1, [])) (hn1 : n1 < 1000000) (v : Int) : ∀ (t : Nat) (i : Int), 0 ≤ i → i + t = n1 → EV q 11 5 [some (.ref c), some (vI v), some (vI i), some (vI n1)] [] (wC S c 0 i (fun _ => v)) none (wC S c 0 n1 (fun _ => v)) := by
  intro t
  induction t with
  | zero =>
    intro i h0 hi
    have e : i = n1 := by omega
    subst e
    exact vc_Arrays_fill11_5 _ _ _ c n1 hc ⟨fun _ => ⟨rfl, rfl⟩, fun n => absurd (Int.le_refl _) n⟩
  | succ t ih =>
    intro i h0 hi
    have w1 : w32 i = i := w32_of (by omega)
    have w2 : Unit → w32 (n1 : Int) = n1 := fun _ => w32_of (by omega)
    have gd := wC_gd S c 0 i (fun _ => v) h0
    rw [Int.zero_add] at gd
    refine vc_Arrays_fill11_5 _ _ _ c n1 hc ?_
    rw [w1, w2 ()]
    refine ⟨fun n => absurd n (by omega), fun _ => ⟨by omega, fun S2 f => ?_⟩⟩
    rw [gd] at f
    subst f
    exact ih (i + 1) (by omega) (by omega)
theorem wC_00 (S : ms) (c : Nat) (p : Int) (f : Int → Int) : wC S c p 0 f = S := by
  have : (wC S c p 0 f).1 = S.1 := by
    funext b k
    show (if b = c ∧ p ≤ k ∧ k < p + 0 then f (k - p) else S.1 b k) = S.1 b k
    rw [if_neg (by omega)]
  show ((wC S c p 0 f).1, S.2.1, S.2.2) = S
  rw [this]
theorem sp_fillI {c n1 : Nat} (hc : SH c = (0, n1, [])) (hn1 : n1 < 1000000) (v : Int) : EV q 11 0 [some (.ref c), some (vI v), none, none] [] S none (wC S c 0 n1 (fun _ => v)) := by
  have k := lp_fillI (q := q) (S := S) hc hn1 v n1 0 (by omega) (by omega)
  rw [wC_00] at k
  exact vc_Arrays_fill11 _ c n1 hc k
/-- the hash of a piece -/
def hsF (g : Nat → Int) : Nat → Int
  | 0 => 0
  | n + 1 => hsF g n * 31 + g n + 1
/-- is b among the first n of u (1) or not (0) -/
def ocB (u : Nat → Int) : Nat → Int → Int
  | 0, _ => 0
  | n + 1, b => if u n = b then 1 else ocB u n b
theorem ocB_01 (u : Nat → Int) (b : Int) : ∀ n, ocB u n b = 0 ∨ ocB u n b = 1
  | 0 => Or.inl rfl
  | n + 1 => by
    show (if u n = b then (1 : Int) else ocB u n b) = 0 ∨ (if u n = b then (1 : Int) else ocB u n b) = 1
    have := ocB_01 u b n
    split
    · exact Or.inr rfl
    · exact this
theorem ocB_cg {u v : Nat → Int} {b : Int} : ∀ {n : Nat}, (∀ j, j < n → u j = v j) → ocB u n b = ocB v n b
  | 0, _ => rfl
  | n + 1, h => by
    show (if u n = b then (1 : Int) else ocB u n b) = (if v n = b then (1 : Int) else ocB v n b)
    rw [h n (by omega), ocB_cg (fun j hj => h j (by omega))]
/-- how often b is among the first n of u -/
def ocN (u : Nat → Int) : Nat → Int → Int
  | 0, _ => 0
  | n + 1, b => ocN u n b + if u n = b then 1 else 0
/-- a sum over the first n -/
def sm (u : Nat → Int) : Nat → Int
  | 0 => 0
  | n + 1 => sm u n + u n
/-- BLOCK b: on both sides or on none -/
def OB (S : ms) (b : Int) : Prop := (0 ≤ S.1 186 b ∧ S.1 186 b ≤ 200) ∧ S.1 448 b = (if S.1 186 b = 0 then 0 else 1) ∧ (S.1 186 b ≠ 0 → S.1 447 b = S.1 186 b ∧ w32 (S.1 187 b) = w32 (hsF (fun k => S.1 185 (200 * b + k)) (S.1 186 b).toNat) ∧ ∀ k : Int, 0 ≤ k → k < S.1 186 b → (0 ≤ S.1 185 (200 * b + k) ∧ S.1 185 (200 * b + k) < 256) ∧ S.1 446 (200 * b + k) = b8 (S.1 185 (200 * b + k)))
/-- the reference's SNAPSHOT s is the class's row r -/
def OR (S : ms) (s r : Int) : Prop := (0 ≤ r ∧ r < 8) ∧ S.1 190 r = S.1 449 s ∧ S.1 451 s = S.1 191 r ∧ ∀ k : Int, 0 ≤ k → k < S.1 191 r → S.1 450 (200 * s + k) = S.1 192 (192 * r + k)
/-- the class's row r -/
def OL (S : ms) (m r : Int) : Prop := (0 ≤ S.1 191 r ∧ S.1 191 r ≤ 192) ∧ (0 ≤ S.1 190 r ∧ S.1 190 r ≤ m) ∧ (S.1 190 r = 0 → S.1 191 r = 0) ∧ (∀ k : Int, 0 ≤ k → k < S.1 191 r → (0 ≤ S.1 192 (192 * r + k) ∧ S.1 192 (192 * r + k) < 300) ∧ S.1 186 (S.1 192 (192 * r + k)) ≠ 0) ∧ sm (fun k => S.1 186 (S.1 192 (192 * r + k))) (S.1 191 r).toNat ≤ 6000
/-- the STORE: m is a bound of the numbers of the SNAPSHOTS -/
def RO (m : Int) (S : ms) : Prop := (S.1 367 123 = S.1 184 0 ∧ S.1 367 124 = S.1 184 1 ∧ S.1 367 129 = S.1 184 2 ∧ S.1 367 130 = S.1 184 3) ∧ ((0 ≤ S.1 184 2 ∧ S.1 184 2 ≤ 8) ∧ 0 ≤ S.1 184 3 ∧ S.1 184 3 ≤ m ∧ m ≤ 100000) ∧ (∀ b : Int, 0 ≤ b → b < 300 → OB S b) ∧ (∀ r : Int, 0 ≤ r → r < 8 → OL S (S.1 184 3) r) ∧ ((∀ r r' : Int, 0 ≤ r → r < 8 → 0 ≤ r' → r' < 8 → S.1 190 r = S.1 190 r' → S.1 190 r ≠ 0 → r = r') ∧ ∀ s s' : Int, 0 ≤ s → s < S.1 184 2 → 0 ≤ s' → s' < S.1 184 2 → S.1 449 s = S.1 449 s' → s = s') ∧ ((∀ s : Int, 0 ≤ s → s < S.1 184 2 → 1 ≤ S.1 449 s ∧ ∃ r, OR S s r) ∧ ∀ r : Int, 0 ≤ r → r < 8 → S.1 190 r ≠ 0 → ∃ s, (0 ≤ s ∧ s < S.1 184 2) ∧ OR S s r) ∧ (∀ b : Int, 0 ≤ b → b < 300 → S.1 188 b = sm (fun r => ocN (fun k => S.1 192 (192 * r + k)) (S.1 191 r).toNat b) 8 ∧ (S.1 186 b ≠ 0 → 1 ≤ S.1 188 b)) ∧ S.1 184 0 = sm (fun b => S.1 448 b) 300 ∧ S.1 184 1 = sm (fun b => S.1 186 b) 300 ∧ S.1 184 1 ≤ 40000
theorem lp_cfind {r : Int} (ea : w32 a = a) (a1 : 1 ≤ a) (hr : 0 ≤ r ∧ r < 8) (hn : ∀ i : Int, 0 ≤ i → i < 8 → w32 (S.1 190 i) = S.1 190 i) (h1 : S.1 190 r = a) (h2 : ∀ i : Int, 0 ≤ i → i < r → S.1 190 i ≠ a) : ∀ (t : Nat) (i : Int), 0 ≤ i → i + t = r → EV q 248 2 [some (.ref 184), some (vI a), some (vI i)] [] S (some (vI r)) S := by
  intro t
  induction t with
  | zero =>
    intro i i0 hi
    have e : i = r := by omega
    subst e
    have wi : w32 i = i := w32_of (by omega)
    refine vc_Store_find_2 _ _ ?_
    rw [wi, hn i hr.1 hr.2, h1, ea]
    exact ⟨fun n => absurd n (by omega), fun _ => ⟨fun n => absurd n (by omega), fun _ => ⟨by omega, fun n => absurd rfl n, fun _ => ⟨rfl, rfl⟩⟩⟩⟩
  | succ t ih =>
    intro i i0 hi
    have wi : w32 i = i := w32_of (by omega)
    refine vc_Store_find_2 _ _ ?_
    rw [wi, hn i i0 (by omega), ea]
    exact ⟨fun n => absurd n (by omega), fun _ => ⟨fun n => absurd n (by omega), fun _ => ⟨by omega, fun _ => vc_Store_find_24 _ _ (ih (i + 1) (by omega) (by omega)), fun n => absurd (h2 i i0 (by omega)) n⟩⟩⟩
theorem lp_cfind0 (ea : w32 a = a) (hn : ∀ i : Int, 0 ≤ i → i < 8 → w32 (S.1 190 i) = S.1 190 i) (h2 : ∀ i : Int, 0 ≤ i → i < 8 → 1 ≤ a → S.1 190 i ≠ a) : ∀ (t : Nat) (i : Int), 0 ≤ i → i + t = 8 → EV q 248 2 [some (.ref 184), some (vI a), some (vI i)] [] S (some (vI (-1))) S := by
  intro t
  induction t with
  | zero =>
    intro i i0 hi
    have e : i = 8 := by omega
    subst e
    exact vc_Store_find_2 _ _ ⟨fun _ => ⟨rfl, rfl⟩, fun n => absurd (by decide) n⟩
  | succ t ih =>
    intro i i0 hi
    have wi : w32 i = i := w32_of (by omega)
    have nx := vc_Store_find_24 (q := q) (S := S) a i (ih (i + 1) (by omega) (by omega))
    refine vc_Store_find_2 _ _ ?_
    rw [wi, hn i i0 (by omega), ea]
    exact ⟨fun n => absurd n (by omega), fun _ => ⟨fun _ => nx, fun c => ⟨by omega, fun _ => nx, fun n => absurd (h2 i i0 (by omega) (by omega)) n⟩⟩⟩
theorem lp_mfind {s N : Int} {T : ms} (ea : w32 a = a) (hN : T.1 367 129 = N) (hs : 0 ≤ s ∧ s < N ∧ N ≤ 8) (hn : ∀ i : Int, 0 ≤ i → i < N → w32 (T.1 449 i) = T.1 449 i) (h1 : T.1 449 s = a) (h2 : ∀ i : Int, 0 ≤ i → i < s → T.1 449 i ≠ a) : ∀ (t : Nat) (i : Int), 0 ≤ i → i + t = s → EV q 426 2 [some (.ref 367), some (vI a), some (vI i)] [] T (some (vI s)) T := by
  have wN : w32 N = N := w32_of (by omega)
  intro t
  induction t with
  | zero =>
    intro i i0 hi
    have e : i = s := by omega
    subst e
    have wi : w32 i = i := w32_of (by omega)
    refine vc_MD_snapshotOf_2 _ _ ?_
    rw [hN, wN, wi, hn i hs.1 hs.2.1, h1, ea]
    exact ⟨fun n => absurd n (by omega), fun _ => ⟨by omega, fun n => absurd rfl n, fun _ => ⟨rfl, rfl⟩⟩⟩
  | succ t ih =>
    intro i i0 hi
    have wi : w32 i = i := w32_of (by omega)
    refine vc_MD_snapshotOf_2 _ _ ?_
    rw [hN, wN, wi, hn i i0 (by omega), ea]
    exact ⟨fun n => absurd n (by omega), fun _ => ⟨by omega, fun _ => ih (i + 1) (by omega) (by omega), fun n => absurd (h2 i i0 (by omega)) n⟩⟩
theorem lp_mfind0 {N : Int} {T : ms} (ea : w32 a = a) (hN : T.1 367 129 = N) (hs : 0 ≤ N ∧ N ≤ 8) (hn : ∀ i : Int, 0 ≤ i → i < N → w32 (T.1 449 i) = T.1 449 i) (h2 : ∀ i : Int, 0 ≤ i → i < N → T.1 449 i ≠ a) : ∀ (t : Nat) (i : Int), 0 ≤ i → i + t = N → EV q 426 2 [some (.ref 367), some (vI a), some (vI i)] [] T (some (vI (-1))) T := by
  have wN : w32 N = N := w32_of (by omega)
  intro t
  induction t with
  | zero =>
    intro i i0 hi
    have e : i = N := by omega
    subst e
    refine vc_MD_snapshotOf_2 _ _ ?_
    rw [hN]
    exact ⟨fun _ => ⟨rfl, rfl⟩, fun n => absurd (Int.le_refl _) n⟩
  | succ t ih =>
    intro i i0 hi
    have wi : w32 i = i := w32_of (by omega)
    refine vc_MD_snapshotOf_2 _ _ ?_
    rw [hN, wN, wi, hn i i0 (by omega), ea]
    exact ⟨fun n => absurd n (by omega), fun _ => ⟨by omega, fun _ => ih (i + 1) (by omega) (by omega), fun n => absurd (h2 i i0 (by omega)) n⟩⟩
/-- both find SNAPSHOT a, or neither -/
theorem st_find (h : RO m S) (ha : -2147483648 ≤ a ∧ a < 2147483648) : (∃ s r : Int, (0 ≤ s ∧ s < S.1 184 2) ∧ S.1 449 s = a ∧ 1 ≤ a ∧ OR S s r ∧ EV q 248 0 [some (.ref 184), some (vI a), none] [] S (some (vI r)) S ∧ ∀ T : ms, T.1 367 129 = S.1 367 129 → (∀ i : Int, T.1 449 i = S.1 449 i) → EV q 426 0 [some (.ref 367), some (vI a), none] [] T (some (vI s)) T) ∨ (EV q 248 0 [some (.ref 184), some (vI a), none] [] S (some (vI (-1))) S ∧ ∀ T : ms, T.1 367 129 = S.1 367 129 → (∀ i : Int, T.1 449 i = S.1 449 i) → EV q 426 0 [some (.ref 367), some (vI a), none] [] T (some (vI (-1))) T) := by
  obtain ⟨⟨-, -, x3, -⟩, ⟨n1, n2, n3, n4⟩, -, h4, ⟨h5, h6⟩, ⟨h7, h8⟩, -⟩ := h
  have ea : w32 a = a := w32_of ha
  have wn : ∀ i : Int, 0 ≤ i → i < 8 → w32 (S.1 190 i) = S.1 190 i := fun i i0 i1 => w32_of (by have := (h4 i i0 i1).2.1; omega)
  have ws : ∀ i : Int, 0 ≤ i → i < S.1 184 2 → w32 (S.1 449 i) = S.1 449 i := by
    intro i i0 i1
    obtain ⟨-, r, o1, o2, -⟩ := h7 i i0 i1
    have := (h4 r o1.1 o1.2).2.1
    exact w32_of (by rw [← o2]; omega)
  by_cases c : ∃ s : Int, (0 ≤ s ∧ s < S.1 184 2) ∧ S.1 449 s = a
  · obtain ⟨s, s1, s2⟩ := c
    obtain ⟨p1, r, hr⟩ := h7 s s1.1 s1.2
    obtain ⟨o1, o2, -⟩ := id hr
    refine Or.inl ⟨s, r, s1, s2, by omega, hr, vc_Store_find _ (lp_cfind ea (by omega) o1 wn (by omega) (fun i i0 i1 e => ?_) r.toNat 0 (by omega) (by omega)), fun T hT hT2 => vc_MD_snapshotOf _ (lp_mfind ea (N := S.1 184 2) (by rw [hT, x3]) (by omega) (fun i i0 i1 => by rw [hT2]; exact ws i i0 i1) (by rw [hT2, s2]) (fun i i0 i1 e => ?_) s.toNat 0 (by omega) (by omega))⟩
    · have := h5 i r i0 (by omega) o1.1 o1.2 (by omega) (by omega)
      omega
    · rw [hT2] at e
      have := h6 i s i0 (by omega) s1.1 s1.2 (by omega)
      omega
  · refine Or.inr ⟨vc_Store_find _ (lp_cfind0 ea wn (fun i i0 i1 a1 e => ?_) 8 0 (by omega) (by omega)), fun T hT hT2 => vc_MD_snapshotOf _ (lp_mfind0 ea (N := S.1 184 2) (by rw [hT, x3]) n1 (fun i i0 i1 => by rw [hT2]; exact ws i i0 i1) (fun i i0 i1 e => ?_) (S.1 184 2).toNat 0 (by omega) (by omega))⟩
    · obtain ⟨s, s1, o1, o2, -⟩ := h8 i i0 i1 (by omega)
      exact c ⟨s, s1, by omega⟩
    · exact c ⟨i, ⟨i0, i1⟩, by rw [← hT2]; exact e⟩
/-- in both rows: among the first k BLOCKS -/
def cB (u : Nat → Int) (n : Nat) (v : Nat → Int) (l : Nat) : Nat → Int
  | 0 => 0
  | k + 1 => cB u n v l k + if ocB u n k = 1 ∧ ocB v l k = 1 then 1 else 0
theorem bO_1 {x : Int} (h : x = 0 ∨ x = 1) : bO x 1 = 1 := by
  rcases h with e | e <;> subst e <;> decide
theorem bO_2 {x y : Int} (hx : x = 0 ∨ x = 1) (hy : y = 0 ∨ y = 1) : bO (x + 2 * y) 2 = x + 2 := by
  rcases hx with e | e <;> rcases hy with e2 | e2 <;> subst e <;> subst e2 <;> decide
/-- the marks: a memory that is S but for them -/
def MK (S T : ms) (f : Int → Int) : Prop := T.2 = S.2 ∧ (∀ (a : Nat) (k : Int), a ≠ 189 → T.1 a k = S.1 a k) ∧ ∀ b : Int, 0 ≤ b → b < 300 → T.1 189 b = f b
theorem lp_cb1 {r x2 : Int} {n : Nat} {u : Nat → Int} (hr : 0 ≤ r ∧ r < 8) (hn : S.1 191 r = n) (hn2 : n ≤ 192) (hu : ∀ j : Nat, j < n → (0 ≤ u j ∧ u j < 300) ∧ S.1 192 (r * 192 + j) = u j) {rr : Option Value} {P : ms → Prop} (k : ∀ T, MK S T (fun b => ocB u n b) → ∃ T', EV q 253 49 [some (.ref 184), some (vI r), some (vI x2), some (vI 0), none] [] T rr T' ∧ P T') : ∀ (t j : Nat) (T : ms), j + t = n → MK S T (fun b => ocB u j b) → ∃ T', EV q 253 10 [some (.ref 184), some (vI r), some (vI x2), some (vI j), none] [] T rr T' ∧ P T' := by
  have wr : w32 r = r := w32_of (by omega)
  have wn : Unit → w32 (n : Int) = n := fun _ => w32_of (by omega)
  intro t
  induction t with
  | zero =>
    intro j T hj hT
    have e : j = n := by omega
    subst e
    obtain ⟨T', k1, k2⟩ := k T hT
    refine ⟨T', vc_Store_countBoth_10 _ _ _ ?_, k2⟩
    rw [wr, hT.2.1 191 r (by decide), hn]
    exact ⟨by omega, fun _ => k1, fun n => absurd (Int.le_refl _) n⟩
  | succ t ih =>
    intro j T hj hT
    obtain ⟨u1, u2⟩ := hu j (by omega)
    have wj : Unit → w32 (j : Int) = j := fun _ => w32_of (by omega)
    have wx : w32 (r * 192 + j) = r * 192 + j := w32_of (by omega)
    have wu : w32 (u j) = u j := w32_of (by omega)
    have o01 := ocB_01 u (u j) j
    have ek : (j : Int) + 1 = ((j + 1 : Nat) : Int) := by omega
    have hN : MK S (wI T 189 (u j) 1) (fun b => ocB u (j + 1) b) := by
      refine ⟨hT.1, fun a k ha => ?_, fun b b0 b1 => ?_⟩
      · rw [rI_I, if_neg (fun z => ha z.1), hT.2.1 a k ha]
      · rw [rI_I]
        show _ = (if u j = b then (1 : Int) else ocB u j b)
        by_cases c : u j = b
        · rw [if_pos ⟨rfl, c.symm⟩, if_pos c]
        · rw [if_neg (fun z => c z.2.symm), if_neg c, hT.2.2 b b0 b1]
    obtain ⟨T', k1, k2⟩ := ih (j + 1) _ (by omega) hN
    refine ⟨T', vc_Store_countBoth_10 _ _ _ ?_, k2⟩
    rw [wr, hT.2.1 191 r (by decide), hn, wn (), wj (), wx, hT.2.1 192 _ (by decide), u2, wu, hT.2.2 (u j) u1.1 u1.2, bO_1 o01, ek]
    refine ⟨by omega, fun n => absurd n (by omega), fun _ => ⟨by omega, by omega, by omega, fun S5 f => ?_⟩⟩
    subst f
    exact k1
theorem lp_cb2 {r x1 : Int} {n : Nat} {u : Nat → Int} {f : Int → Int} (hf : ∀ b : Int, f b = 0 ∨ f b = 1) (hr : 0 ≤ r ∧ r < 8) (hn : S.1 191 r = n) (hn2 : n ≤ 192) (hu : ∀ j : Nat, j < n → (0 ≤ u j ∧ u j < 300) ∧ S.1 192 (r * 192 + j) = u j) {rr : Option Value} {P : ms → Prop} (k : ∀ T, MK S T (fun b => f b + 2 * ocB u n b) → ∃ T', EV q 253 91 [some (.ref 184), some (vI x1), some (vI r), some (vI 0), some (vI 0)] [] T rr T' ∧ P T') : ∀ (t j : Nat) (T : ms), j + t = n → MK S T (fun b => f b + 2 * ocB u j b) → ∃ T', EV q 253 49 [some (.ref 184), some (vI x1), some (vI r), some (vI j), none] [] T rr T' ∧ P T' := by
  have wr : w32 r = r := w32_of (by omega)
  have wn : Unit → w32 (n : Int) = n := fun _ => w32_of (by omega)
  intro t
  induction t with
  | zero =>
    intro j T hj hT
    have e : j = n := by omega
    subst e
    obtain ⟨T', k1, k2⟩ := k T hT
    refine ⟨T', vc_Store_countBoth_49 _ _ _ ?_, k2⟩
    rw [wr, hT.2.1 191 r (by decide), hn]
    exact ⟨by omega, fun _ => k1, fun n => absurd (Int.le_refl _) n⟩
  | succ t ih =>
    intro j T hj hT
    obtain ⟨u1, u2⟩ := hu j (by omega)
    have wj : Unit → w32 (j : Int) = j := fun _ => w32_of (by omega)
    have wx : w32 (r * 192 + j) = r * 192 + j := w32_of (by omega)
    have wu : w32 (u j) = u j := w32_of (by omega)
    have o01 := ocB_01 u (u j) j
    have ek : (j : Int) + 1 = ((j + 1 : Nat) : Int) := by omega
    have hN : MK S (wI T 189 (u j) (f (u j) + 2)) (fun b => f b + 2 * ocB u (j + 1) b) := by
      refine ⟨hT.1, fun a k ha => ?_, fun b b0 b1 => ?_⟩
      · rw [rI_I, if_neg (fun z => ha z.1), hT.2.1 a k ha]
      · rw [rI_I]
        show _ = f b + 2 * (if u j = b then (1 : Int) else ocB u j b)
        by_cases c : u j = b
        · rw [if_pos ⟨rfl, c.symm⟩, if_pos c, c]
          omega
        · rw [if_neg (fun z => c z.2.symm), if_neg c, hT.2.2 b b0 b1]
    obtain ⟨T', k1, k2⟩ := ih (j + 1) _ (by omega) hN
    refine ⟨T', vc_Store_countBoth_49 _ _ _ ?_, k2⟩
    rw [wr, hT.2.1 191 r (by decide), hn, wn (), wj (), wx, hT.2.1 192 _ (by decide), u2, wu, hT.2.2 (u j) u1.1 u1.2, bO_2 (hf _) o01, ek]
    refine ⟨by omega, fun n => absurd n (by omega), fun _ => ⟨by omega, by omega, by omega, fun S5 f5 => ?_⟩⟩
    subst f5
    exact k1
theorem lp_cb3 {x1 x2 : Int} {u v : Nat → Int} {n l : Nat} {T : ms} (hT : ∀ b : Int, 0 ≤ b → b < 300 → T.1 189 b = ocB u n b + 2 * ocB v l b) : ∀ (t j : Nat), j + t = 300 → EV q 253 91 [some (.ref 184), some (vI x1), some (vI x2), some (vI (cB u n v l j)), some (vI j)] [] T (some (vI (cB u n v l 300))) T := by
  intro t
  induction t with
  | zero =>
    intro j hj
    have e : j = 300 := by omega
    subst e
    exact vc_Store_countBoth_91 _ _ _ _ ⟨fun _ => ⟨rfl, rfl⟩, fun n => absurd (by decide) n⟩
  | succ t ih =>
    intro j hj
    have o1 := ocB_01 u j n
    have o2 := ocB_01 v j l
    have wj : Unit → w32 (j : Int) = j := fun _ => w32_of (by omega)
    have wm : w32 (ocB u n j + 2 * ocB v l j) = ocB u n j + 2 * ocB v l j := w32_of (by omega)
    have ek : (j : Int) + 1 = ((j + 1 : Nat) : Int) := by omega
    have nx := ih (j + 1) (by omega)
    have ec : cB u n v l (j + 1) = cB u n v l j + if ocB u n j = 1 ∧ ocB v l j = 1 then 1 else 0 := rfl
    rw [ec, ← ek] at nx
    refine vc_Store_countBoth_91 _ _ _ _ ?_
    rw [wj (), hT j (by omega) (by omega), wm]
    refine ⟨fun n => absurd n (by omega), fun _ => ⟨by omega, fun c => vc_Store_countBoth_113 _ _ _ _ ?_, fun c => vc_Store_countBoth_113 _ _ _ _ ?_⟩⟩
    · rw [if_neg (by omega), Int.add_zero] at nx
      exact nx
    · rw [if_pos (by omega)] at nx
      exact nx
theorem lp_mb1 {x1 x2 x4 x5 s : Int} {n : Nat} {u : Nat → Int} {T : ms} {kb : Nat} (hk : kb < 300) (hs : 0 ≤ s ∧ s < 8) (hn : T.1 451 s = n) (hn2 : n ≤ 192) (hu : ∀ j : Nat, j < n → (0 ≤ u j ∧ u j < 300) ∧ T.1 450 (200 * s + j) = u j) {rr : Option Value} {T' : ms} (k : EV q 428 102 [some (.ref 367), some (vI x1), some (vI x2), some (vI s), some (vI x4), some (vI x5), some (vI kb), some (vI (ocB u n kb)), some (vI 0), some (vI 0)] [] T rr T') : ∀ (t j : Nat), j + t = n → EV q 428 52 [some (.ref 367), some (vI x1), some (vI x2), some (vI s), some (vI x4), some (vI x5), some (vI kb), some (vI (ocB u j kb)), some (vI 0), some (vI j)] [] T rr T' := by
  have ws : w32 s = s := w32_of (by omega)
  have wn : Unit → w32 (n : Int) = n := fun _ => w32_of (by omega)
  have wk : Unit → w32 (kb : Int) = kb := fun _ => w32_of (by omega)
  intro t
  induction t with
  | zero =>
    intro j hj
    have e : j = n := by omega
    subst e
    refine vc_MD_shared_52 _ _ _ _ _ _ _ _ _ ?_
    rw [ws, hn]
    exact ⟨by omega, fun _ => k, fun n => absurd (Int.le_refl _) n⟩
  | succ t ih =>
    intro j hj
    obtain ⟨u1, u2⟩ := hu j (by omega)
    have o01 := ocB_01 u kb j
    have wj : Unit → w32 (j : Int) = j := fun _ => w32_of (by omega)
    have wx : w32 (200 * s + j) = 200 * s + j := w32_of (by omega)
    have wu : w32 (u j) = u j := w32_of (by omega)
    have wo : w32 (ocB u j kb) = ocB u j kb := w32_of (by omega)
    have ek : (j : Int) + 1 = ((j + 1 : Nat) : Int) := by omega
    have nx := ih (j + 1) (by omega)
    have eo : ocB u (j + 1) kb = if u j = kb then 1 else ocB u j kb := rfl
    rw [eo, ← ek] at nx
    refine vc_MD_shared_52 _ _ _ _ _ _ _ _ _ ?_
    rw [ws, hn, wn (), wj (), wo, wx, u2, wu, wk ()]
    refine ⟨by omega, fun n => absurd n (by omega), fun _ => ⟨fun c => vc_MD_shared_86 _ _ _ _ _ _ _ _ _ (vc_MD_shared_91 _ _ _ _ _ _ _ _ _ _ ?_), fun c => ⟨by omega, fun c2 => vc_MD_shared_91 _ _ _ _ _ _ _ _ _ _ ?_, fun c2 => vc_MD_shared_86 _ _ _ _ _ _ _ _ _ (vc_MD_shared_91 _ _ _ _ _ _ _ _ _ _ ?_)⟩⟩⟩
    · have e : ocB u j kb = 1 := by omega
      rw [e, show (if u j = (kb : Int) then (1 : Int) else 1) = 1 by split <;> rfl] at nx
      exact nx
    · have e : ocB u j kb = 0 := by omega
      rw [if_neg c2, e] at nx
      exact nx
    · rw [if_pos (Classical.not_not.mp c2)] at nx
      exact nx
theorem lp_mb2 {x1 x2 x3 x5 x7 s : Int} {n : Nat} {u : Nat → Int} {T : ms} {kb : Nat} (hk : kb < 300) (h7 : x7 = 0 ∨ x7 = 1) (hs : 0 ≤ s ∧ s < 8) (hn : T.1 451 s = n) (hn2 : n ≤ 192) (hu : ∀ j : Nat, j < n → (0 ≤ u j ∧ u j < 300) ∧ T.1 450 (200 * s + j) = u j) {rr : Option Value} {T' : ms} (k : EV q 428 35 [some (.ref 367), some (vI x1), some (vI x2), some (vI x3), some (vI s), some (vI (x5 + if x7 = 1 ∧ ocB u n kb = 1 then 1 else 0)), some (vI ((kb : Int) + 1)), none, none, none] [] T rr T') : ∀ (t j : Nat), j + t = n → EV q 428 102 [some (.ref 367), some (vI x1), some (vI x2), some (vI x3), some (vI s), some (vI x5), some (vI kb), some (vI x7), some (vI (ocB u j kb)), some (vI j)] [] T rr T' := by
  have ws : w32 s = s := w32_of (by omega)
  have wn : Unit → w32 (n : Int) = n := fun _ => w32_of (by omega)
  have wk : Unit → w32 (kb : Int) = kb := fun _ => w32_of (by omega)
  have w7 : w32 x7 = x7 := w32_of (by omega)
  intro t
  induction t with
  | zero =>
    intro j hj
    have e : j = n := by omega
    subst e
    have o01 := ocB_01 u kb j
    have wo : w32 (ocB u j kb) = ocB u j kb := w32_of (by omega)
    refine vc_MD_shared_102 _ _ _ _ _ _ _ _ _ ?_
    rw [ws, hn, w7, wo]
    refine ⟨by omega, fun _ => ⟨fun c => vc_MD_shared_167 _ _ _ _ _ _ _ _ _ _ (vc_MD_shared_168 _ _ _ _ _ _ _ _ _ _ _ ?_), fun c => ⟨fun c2 => vc_MD_shared_167 _ _ _ _ _ _ _ _ _ _ (vc_MD_shared_168 _ _ _ _ _ _ _ _ _ _ _ ?_), fun c2 => vc_MD_shared_168 _ _ _ _ _ _ _ _ _ _ _ ?_⟩⟩, fun n => absurd (Int.le_refl _) n⟩
    · rw [if_neg (by omega)] at k
      exact k
    · rw [if_neg (by omega)] at k
      exact k
    · rw [if_pos (by omega)] at k
      exact k
  | succ t ih =>
    intro j hj
    obtain ⟨u1, u2⟩ := hu j (by omega)
    have o01 := ocB_01 u kb j
    have wj : Unit → w32 (j : Int) = j := fun _ => w32_of (by omega)
    have wx : w32 (200 * s + j) = 200 * s + j := w32_of (by omega)
    have wu : w32 (u j) = u j := w32_of (by omega)
    have wo : w32 (ocB u j kb) = ocB u j kb := w32_of (by omega)
    have ek : (j : Int) + 1 = ((j + 1 : Nat) : Int) := by omega
    have nx := ih (j + 1) (by omega)
    have eo : ocB u (j + 1) kb = if u j = kb then 1 else ocB u j kb := rfl
    rw [eo, ← ek] at nx
    refine vc_MD_shared_102 _ _ _ _ _ _ _ _ _ ?_
    rw [ws, hn, wn (), wj (), wo, wx, u2, wu, wk ()]
    refine ⟨by omega, fun n => absurd n (by omega), fun _ => ⟨fun c => vc_MD_shared_138 _ _ _ _ _ _ _ _ _ (vc_MD_shared_143 _ _ _ _ _ _ _ _ _ _ ?_), fun c => ⟨by omega, fun c2 => vc_MD_shared_143 _ _ _ _ _ _ _ _ _ _ ?_, fun c2 => vc_MD_shared_138 _ _ _ _ _ _ _ _ _ (vc_MD_shared_143 _ _ _ _ _ _ _ _ _ _ ?_)⟩⟩⟩
    · have e : ocB u j kb = 1 := by omega
      rw [e, show (if u j = (kb : Int) then (1 : Int) else 1) = 1 by split <;> rfl] at nx
      exact nx
    · have e : ocB u j kb = 0 := by omega
      rw [if_neg c2, e] at nx
      exact nx
    · rw [if_pos (Classical.not_not.mp c2)] at nx
      exact nx
theorem lp_mb3 {x1 x2 s s2 : Int} {n l : Nat} {u v : Nat → Int} {T : ms} (hs : 0 ≤ s ∧ s < 8) (hn : T.1 451 s = n) (hn2 : n ≤ 192) (hu : ∀ j : Nat, j < n → (0 ≤ u j ∧ u j < 300) ∧ T.1 450 (200 * s + j) = u j) (hs2 : 0 ≤ s2 ∧ s2 < 8) (hl : T.1 451 s2 = l) (hl2 : l ≤ 192) (hv : ∀ j : Nat, j < l → (0 ≤ v j ∧ v j < 300) ∧ T.1 450 (200 * s2 + j) = v j) : ∀ (t j : Nat), j + t = 300 → EV q 428 35 [some (.ref 367), some (vI x1), some (vI x2), some (vI s), some (vI s2), some (vI (cB u n v l j)), some (vI j), none, none, none] [] T (some (vI (cB u n v l 300))) T := by
  intro t
  induction t with
  | zero =>
    intro j hj
    have e : j = 300 := by omega
    subst e
    exact vc_MD_shared_35 _ _ _ _ _ _ ⟨fun _ => ⟨rfl, rfl⟩, fun n => absurd (by decide) n⟩
  | succ t ih =>
    intro j hj
    have wj : Unit → w32 (j : Int) = j := fun _ => w32_of (by omega)
    have ek : ((j + 1 : Nat) : Int) = (j : Int) + 1 := by omega
    have nx := ih (j + 1) (by omega)
    rw [ek] at nx
    have k2 := lp_mb2 (q := q) (kb := j) (by omega) (ocB_01 u j n) hs2 hl hl2 hv nx l 0 (by omega)
    have k1 := lp_mb1 (q := q) (kb := j) (by omega) hs hn hn2 hu k2 n 0 (by omega)
    refine vc_MD_shared_35 _ _ _ _ _ _ ?_
    rw [wj ()]
    exact ⟨fun n => absurd n (by omega), fun _ => k1⟩
theorem RO_row (h : RO m S) {r : Int} (hr : 0 ≤ r ∧ r < 8) : ((((S.1 191 r).toNat : Nat) : Int) = S.1 191 r ∧ (S.1 191 r).toNat ≤ 192) ∧ ∀ j : Nat, j < (S.1 191 r).toNat → (0 ≤ S.1 192 (192 * r + j) ∧ S.1 192 (192 * r + j) < 300) ∧ S.1 192 (r * 192 + j) = S.1 192 (192 * r + j) := by
  obtain ⟨-, -, -, h4, -⟩ := h
  obtain ⟨o1, -, -, o4, -⟩ := h4 r hr.1 hr.2
  exact ⟨by omega, fun j hj => ⟨(o4 j (by omega) (by omega)).1, by rw [Int.mul_comm]⟩⟩
/-- shared(snapshot, other) -/
theorem op35_ok (ha : -2147483648 ≤ a ∧ a < 2147483648) (hb : -2147483648 ≤ b ∧ b < 2147483648) (h : RO m S) : op_35 q a b d S (fun T => EX (fun a k => a = 189 ∨ (a = 367 ∧ k = 0)) S T) := by
  have e129 : (wI S 367 0 0).1 367 129 = S.1 367 129 := r0 129 (by decide)
  have e449 : ∀ i : Int, (wI S 367 0 0).1 449 i = S.1 449 i := fun i => r0a 449 i (by decide)
  have n2 : S.1 184 2 ≤ 8 := h.2.1.1.2
  have x0 : EX (fun a k => a = 189 ∨ (a = 367 ∧ k = 0)) S (wI S 367 0 0) := (EX.refl _ _).wr (Or.inr ⟨rfl, rfl⟩)
  rcases st_find (q := q) h ha with ⟨s, r, s1, -, -, o, c1, c2⟩ | ⟨c1, c2⟩
  · rcases st_find (q := q) h hb with ⟨s', r', s1', -, -, o', c1', c2'⟩ | ⟨c1', c2'⟩
    · obtain ⟨o1, -, o3, o4⟩ := o
      obtain ⟨o1', -, o3', o4'⟩ := o'
      obtain ⟨⟨e1, e2⟩, hu⟩ := RO_row h o1
      obtain ⟨⟨e1', e2'⟩, hv⟩ := RO_row h o1'
      have wr : w32 r = r := w32_of (by omega)
      have wr' : w32 r' = r' := w32_of (by omega)
      have ws : w32 s = s := w32_of (by omega)
      have ws' : w32 s' = s' := w32_of (by omega)
      let u : Nat → Int := fun j => S.1 192 (192 * r + j)
      let v : Nat → Int := fun j => S.1 192 (192 * r' + j)
      let n := (S.1 191 r).toNat
      let l := (S.1 191 r').toNat
      let M := wC S 189 0 (300 : Nat) (fun _ => 0)
      have kf := sp_fillI (q := q) (S := S) (c := 189) (n1 := 300) rfl (by decide) 0
      have mM : MK S M (fun b => ocB u 0 b) := by
        refine ⟨rfl, fun a k ha => ?_, fun b b0 b1 => ?_⟩
        · show (if a = 189 ∧ 0 ≤ k ∧ k < 0 + ((300 : Nat) : Int) then (0 : Int) else S.1 a k) = S.1 a k
          rw [if_neg (fun z => ha z.1)]
        · show (if 189 = 189 ∧ 0 ≤ b ∧ b < 0 + ((300 : Nat) : Int) then (0 : Int) else S.1 189 b) = 0
          rw [if_pos ⟨rfl, by omega, by omega⟩]
      obtain ⟨T, kT, t1, t2⟩ := lp_cb1 (q := q) (S := S) (u := u) (n := n) (rr := some (vI (cB u n v l 300))) (P := fun T => T.2 = S.2 ∧ ∀ (a : Nat) (k : Int), a ≠ 189 → T.1 a k = S.1 a k) o1 e1.symm e2 (fun j hj => hu j hj) (fun T1 hT1 => lp_cb2 (S := S) (f := fun b => ocB u n b) (u := v) (n := l) (fun b => ocB_01 u b n) o1' e1'.symm e2' (fun j hj => hv j hj) (fun T2 hT2 => ⟨T2, lp_cb3 (q := q) (x1 := r) (x2 := r') (u := u) (v := v) (n := n) (l := l) (T := T2) hT2.2.2 300 0 (by omega), hT2.1, hT2.2.1⟩) l 0 T1 (by omega) ⟨hT1.1, hT1.2.1, fun b b0 b1 => by
        rw [hT1.2.2 b b0 b1]
        show ocB u n b = ocB u n b + 2 * (0 : Int)
        omega⟩) n 0 M (by omega) mM
      have t3 : ∀ (a : Nat) (k : Int), a ≠ 189 → a ≠ 367 → (wI T 367 0 0).1 a k = S.1 a k := fun a k h1 h2 => by rw [r0a a k h2, t2 a k h1]
      have e129' : (wI T 367 0 0).1 367 129 = S.1 367 129 := by rw [r0 129 (by decide), t2 _ _ (by decide)]
      have e449' : ∀ i : Int, (wI T 367 0 0).1 449 i = S.1 449 i := fun i => t3 449 i (by decide) (by decide)
      have km := lp_mb3 (q := q) (x1 := a) (x2 := b) (s := s) (s2 := s') (n := n) (l := l) (u := u) (v := v) (T := wI T 367 0 0) (by omega) (by rw [t3 _ _ (by decide) (by decide), o3, e1]) e2 (fun j hj => ⟨(hu j hj).1, by rw [t3 _ _ (by decide) (by decide)]; exact o4 j (by omega) (by omega)⟩) (by omega) (by rw [t3 _ _ (by decide) (by decide), o3', e1']) e2' (fun j hj => ⟨(hv j hj).1, by rw [t3 _ _ (by decide) (by decide)]; exact o4' j (by omega) (by omega)⟩) 300 0 (by omega)
      refine ⟨cB u n v l 300, T, cB u n v l 300, wI T 367 0 0, vc_PH_shared a b ⟨r, S, c1, r', S, c1', fun n => absurd n (by omega), fun _ => ⟨fun _ => ⟨_, T, vc_Store_countBoth _ _ ⟨M, kf, kT⟩, rfl, rfl⟩, fun n => absurd (by omega) n⟩⟩, vc_MD_shared a b (fun S1 f => ?_), rfl, t1, fun a k n => ?_⟩
      · subst f
        exact ⟨s, _, c2 _ e129' e449', s', _, c2' _ e129' e449', fun n => absurd n (by omega), fun _ => ⟨fun _ => km, fun n => absurd (by omega) n⟩⟩
      · rw [rI_I, if_neg (fun z => n (Or.inr z)), t2 a k (fun z => n (Or.inl z))]
    · refine ⟨-1, S, -1, wI S 367 0 0, vc_PH_shared a b ⟨r, S, c1, -1, S, c1', fun _ => vc_PH_shared_28 _ _ _ _ ⟨rfl, rfl⟩, fun _ => ⟨fun n => absurd n (by decide), fun _ => vc_PH_shared_28 _ _ _ _ ⟨rfl, rfl⟩⟩⟩, vc_MD_shared a b (fun S1 f => ?_), rfl, x0⟩
      subst f
      exact ⟨s, _, c2 _ e129 e449, -1, _, c2' _ e129 e449, fun _ => ⟨rfl, rfl⟩, fun _ => ⟨fun n => absurd n (by decide), fun _ => ⟨rfl, rfl⟩⟩⟩
  · obtain ⟨z', c1', c2'⟩ : ∃ z, EV q 248 0 [some (.ref 184), some (vI b), none] [] S (some (vI z)) S ∧ ∃ z', EV q 426 0 [some (.ref 367), some (vI b), none] [] (wI S 367 0 0) (some (vI z')) (wI S 367 0 0) := by
      rcases st_find (q := q) h hb with ⟨s', r', -, -, -, -, k1, k2⟩ | ⟨k1, k2⟩
      · exact ⟨r', k1, s', k2 _ e129 e449⟩
      · exact ⟨-1, k1, -1, k2 _ e129 e449⟩
    obtain ⟨z2, c2'⟩ := c2'
    refine ⟨-1, S, -1, wI S 367 0 0, vc_PH_shared a b ⟨-1, S, c1, z', S, c1', fun _ => vc_PH_shared_28 _ _ _ _ ⟨rfl, rfl⟩, fun n => absurd (by decide) n⟩, vc_MD_shared a b (fun S1 f => ?_), rfl, x0⟩
    subst f
    exact ⟨-1, _, c2 _ e129 e449, z2, _, c2', fun _ => ⟨rfl, rfl⟩, fun n => absurd (by decide) n⟩
end Store
