/-! pack: SORTED; the reference sorts the rotations -/
section PSrm
variable {q : Nat × (Nat → Int32)} {n : Nat} {u : Nat → Int}
def leR (u : Nat → Int) (n a b : Nat) : Prop := ¬ rtR u n b a
theorem leR_tr {a b c : Nat} (h : leR u n a b) (h' : leR u n b c) : leR u n a c := fun y => by
  rcases rtR_tot u n a b with z | z | z
  · exact h' (rtR_tr y z)
  · rw [z] at y
    exact h' y
  · exact h z
theorem leR_of {a b : Nat} (h : rtR u n a b) : leR u n a b := rtR_as h
/-- the runs stand in the reference -/
def RuM (B : ms) (n : Nat) (u : Nat → Int) : Prop := B.1 367 66 = n ∧ ∀ i : Nat, i < n → B.1 406 i % 256 = u i
theorem md_rotl {B : ms} {a b : Nat} (hn : 1 ≤ n ∧ n ≤ 2500) (hu : ∀ i : Nat, i < n → 0 ≤ u i ∧ u i < 256) (ha : a < n ∧ b < n) (hB : RuM B n u) : ∀ (v k : Nat), k + v = n → eqR u n k a b → ∃ z : Int, (0 < w32 z ↔ rtR u n b a) ∧ EV q 320 2 [some (.ref 367), some (vI a), some (vI b), some (vI k), none] [] B (some (vI z)) B := by
  have wn : Unit → w32 (n : Int) = n := fun _ => w32_of (by omega)
  intro v
  induction v with
  | zero =>
    intro k hk he
    have ek : k = n := by omega
    subst ek
    refine ⟨(a : Int) - b, ?_, vc_MD_rotation_2 _ _ _ ?_⟩
    · rw [w32_of (x := (a : Int) - b) (by omega)]
      refine ⟨fun y => Or.inr ⟨eqR_sy he, by omega⟩, fun y => ?_⟩
      rcases y with y | y
      · exact absurd (eqR_sy he) (ltR_ne y).1
      · omega
    · rw [hB.1]
      exact cY (Int.le_refl _) ⟨rfl, rfl⟩
  | succ v ih =>
    intro k hk he
    have ml : ∀ c : Nat, (c + k) % n < n := fun c => Nat.mod_lt _ (by omega)
    have md : ∀ c : Nat, c < n → w32 (Int.tmod (w32 ((c : Int) + k)) (w32 (n : Int))) = (((c + k) % n : Nat) : Int) := fun c hc => by
      have l := ml c
      rw [wn (), w32_of (x := (c : Int) + k) (by omega), show (c : Int) + k = ((c + k : Nat) : Int) by omega, ← Int.ofNat_tmod]
      exact w32_of (by omega)
    have la := ml a
    have lb := ml b
    have ua := hu _ la
    have ub := hu _ lb
    by_cases c : u ((a + k) % n) = u ((b + k) % n)
    · obtain ⟨z, z1, z2⟩ := ih (k + 1) (by omega) (fun j hj => by
        by_cases e : j = k
        · rw [e]; exact c
        · exact he j (by omega))
      refine ⟨z, z1, vc_MD_rotation_2 _ _ _ ?_⟩
      rw [show ((k + 1 : Nat) : Int) = (k : Int) + 1 by omega] at z2
      rw [hB.1, md a ha.1, md b ha.2, wn (), show w32 (k : Int) = k from w32_of (by omega), hB.2 _ la, hB.2 _ lb, w32_of (x := u ((a + k) % n) - u ((b + k) % n)) (by omega)]
      exact cNo (by omega) ⟨by omega, by omega, by omega, by omega, cY (by omega) z2⟩
    · refine ⟨u ((a + k) % n) - u ((b + k) % n), ?_, vc_MD_rotation_2 _ _ _ ?_⟩
      · rw [w32_of (x := u ((a + k) % n) - u ((b + k) % n)) (by omega)]
        refine ⟨fun y => Or.inl ⟨k, by omega, fun i hi => (he i hi).symm, by omega⟩, fun y => ?_⟩
        by_cases c2 : u ((a + k) % n) < u ((b + k) % n)
        · exact absurd y (rtR_as (Or.inl ⟨k, by omega, he, c2⟩))
        · omega
      · rw [hB.1, md a ha.1, md b ha.2, wn (), show w32 (k : Int) = k from w32_of (by omega), hB.2 _ la, hB.2 _ lb, w32_of (x := u ((a + k) % n) - u ((b + k) % n)) (by omega)]
        exact cNo (by omega) ⟨by omega, by omega, by omega, by omega, cNo (by omega) ⟨rfl, rfl⟩⟩
theorem md_rot {B : ms} {a b : Nat} (hn : 1 ≤ n ∧ n ≤ 2500) (hu : ∀ i : Nat, i < n → 0 ≤ u i ∧ u i < 256) (ha : a < n ∧ b < n) (hB : RuM B n u) : ∃ z : Int, (0 < w32 z ↔ rtR u n b a) ∧ EV q 320 0 [some (.ref 367), some (vI a), some (vI b), none, none] [] B (some (vI z)) B := by
  obtain ⟨z, z1, z2⟩ := md_rotl (q := q) hn hu ha hB n 0 (by omega) (fun j hj => absurd hj (by omega))
  exact ⟨z, z1, vc_MD_rotation _ _ z2⟩
/-- a merge under way: a of the left, b of the right, k laid -/
def Mgi (u : Nat → Int) (n : Nat) (rv sv : Nat → Nat) (fr a mid b to k : Nat) : Prop := (fr ≤ a ∧ a ≤ mid ∧ mid ≤ b ∧ b ≤ to ∧ k + mid = a + b) ∧ (∀ i j : Nat, fr ≤ i → i < j → j < k → leR u n (sv i) (sv j)) ∧ (∀ i j : Nat, fr ≤ i → i < k → ((a ≤ j ∧ j < mid) ∨ (b ≤ j ∧ j < to)) → leR u n (sv i) (rv j)) ∧ (∀ i : Nat, fr ≤ i → i < k → sv i < n) ∧ ∀ j : Nat, ((fr ≤ j ∧ j < a) ∨ (mid ≤ j ∧ j < b)) → ∃ i : Nat, fr ≤ i ∧ i < k ∧ sv i = rv j
theorem Mgi_s {rv sv : Nat → Nat} {fr a mid b to k p a' b' : Nat} (h : Mgi u n rv sv fr a mid b to k) (hl : ∀ i j : Nat, fr ≤ i → i < j → j < mid → leR u n (rv i) (rv j)) (hr : ∀ i j : Nat, mid ≤ i → i < j → j < to → leR u n (rv i) (rv j)) (hp : (a < mid ∧ p = a ∧ a' = a + 1 ∧ b' = b ∧ (b < to → leR u n (rv a) (rv b))) ∨ (b < to ∧ p = b ∧ a' = a ∧ b' = b + 1 ∧ (a < mid → leR u n (rv b) (rv a)))) (hv : rv p < n) : Mgi u n rv (fun i => if i = k then rv p else sv i) fr a' mid b' to (k + 1) := by
  obtain ⟨h1, h2, h3, h4, h5⟩ := h
  have rf : ∀ x : Nat, leR u n x x := fun x y => rtR_as y y
  have small : ∀ j : Nat, ((a ≤ j ∧ j < mid) ∨ (b ≤ j ∧ j < to)) → leR u n (rv p) (rv j) := fun j hj => by
    rcases hp with ⟨p1, p2, -, -, p5⟩ | ⟨p1, p2, -, -, p5⟩
    · rw [p2]
      rcases hj with hj | hj
      · by_cases e : j = a
        · rw [e]; exact rf _
        · exact hl a j h1.1 (by omega) hj.2
      · by_cases e : j = b
        · rw [e]; exact p5 (by omega)
        · exact leR_tr (p5 (by omega)) (hr b j (by omega) (by omega) hj.2)
    · rw [p2]
      rcases hj with hj | hj
      · by_cases e : j = a
        · rw [e]; exact p5 (by omega)
        · exact leR_tr (p5 (by omega)) (hl a j h1.1 (by omega) hj.2)
      · by_cases e : j = b
        · rw [e]; exact rf _
        · exact hr b j (by omega) (by omega) hj.2
  have pin : (a ≤ p ∧ p < mid) ∨ (b ≤ p ∧ p < to) := by omega
  refine ⟨by omega, fun i j i0 ij jk => ?_, fun i j i0 ik hj => ?_, fun i i0 ik => ?_, fun j hj => ?_⟩
  · show leR u n (if i = k then rv p else sv i) (if j = k then rv p else sv j)
    rw [if_neg (by omega)]
    by_cases e : j = k
    · rw [if_pos e]
      exact h3 i p i0 (by omega) pin
    · rw [if_neg e]
      exact h2 i j i0 ij (by omega)
  · show leR u n (if i = k then rv p else sv i) (rv j)
    have hj' : (a ≤ j ∧ j < mid) ∨ (b ≤ j ∧ j < to) := by omega
    by_cases e : i = k
    · rw [if_pos e]
      exact small j hj'
    · rw [if_neg e]
      exact h3 i j i0 (by omega) hj'
  · show (if i = k then rv p else sv i) < n
    by_cases e : i = k
    · rw [if_pos e]; exact hv
    · rw [if_neg e]; exact h4 i i0 (by omega)
  · by_cases e : j = p
    · exact ⟨k, by omega, by omega, by show (if k = k then rv p else sv k) = _; rw [if_pos rfl, e]⟩
    · obtain ⟨i, i0, i1, i2⟩ := h5 j (by omega)
      exact ⟨i, i0, by omega, by show (if i = k then rv p else sv i) = _; rw [if_neg (by omega)]; exact i2⟩
theorem md_mgl {rv : Nat → Nat} {st fr mid to : Nat} (hn : 1 ≤ n ∧ n ≤ 2500) (hu : ∀ i : Nat, i < n → 0 ≤ u i ∧ u i < 256) (hto : to ≤ n ∧ st ≤ 5000) (hrv : ∀ i : Nat, i < n → rv i < n) (hl : ∀ i j : Nat, fr ≤ i → i < j → j < mid → leR u n (rv i) (rv j)) (hr : ∀ i j : Nat, mid ≤ i → i < j → j < to → leR u n (rv i) (rv j)) : ∀ (v a b k : Nat) (sv : Nat → Nat) (B : ms), k + v = to → Mgi u n rv sv fr a mid b to k → RuM B n u → (∀ i : Nat, i < n → B.1 407 i = rv i) → (∀ i : Nat, i < k → B.1 408 i = sv i) → ∃ (B' : ms) (sv' : Nat → Nat) (a' b' : Nat), EX (fun a _ => a = 408) B B' ∧ Mgi u n rv sv' fr a' mid b' to to ∧ (∀ i : Nat, i < k → sv' i = sv i) ∧ (∀ i : Nat, i < to → B'.1 408 i = sv' i) ∧ ∀ (R : Option Value) (S' : ms), EV q 319 35 [some (.ref 367), some (vI st), some (vI ((fr : Int) + 2 * st)), none, none, none, none, none, none] [] B' R S' → EV q 319 100 [some (.ref 367), some (vI st), some (vI fr), some (vI a), some (vI mid), some (vI b), some (vI to), some (vI k), none] [] B R S' := by
  intro v
  induction v with
  | zero =>
    intro a b k sv B hk hg hB h7 h8
    have ek : k = to := by omega
    subst ek
    refine ⟨B, sv, a, b, EX.refl _ B, hg, fun i _ => rfl, h8, fun R S' kk => vc_MD_sortRotations_100 _ _ _ _ _ _ _ (cY (Int.le_refl _) kk)⟩
  | succ v ih =>
    intro a b k sv B hk hg hB h7 h8
    have g1 := hg.1
    have step : ∀ p a' b' : Nat, ((a < mid ∧ p = a ∧ a' = a + 1 ∧ b' = b ∧ (b < to → leR u n (rv a) (rv b))) ∨ (b < to ∧ p = b ∧ a' = a ∧ b' = b + 1 ∧ (a < mid → leR u n (rv b) (rv a)))) → ∃ (B' : ms) (sv' : Nat → Nat) (a'' b'' : Nat), EX (fun a _ => a = 408) B B' ∧ Mgi u n rv sv' fr a'' mid b'' to to ∧ (∀ i : Nat, i < k → sv' i = sv i) ∧ (∀ i : Nat, i < to → B'.1 408 i = sv' i) ∧ ∀ (R : Option Value) (S' : ms), EV q 319 35 [some (.ref 367), some (vI st), some (vI ((fr : Int) + 2 * st)), none, none, none, none, none, none] [] B' R S' → EV q 319 100 [some (.ref 367), some (vI st), some (vI fr), some (vI a'), some (vI mid), some (vI b'), some (vI to), some (vI ((k : Int) + 1)), none] [] (wI B 408 k (rv p)) R S' := fun p a' b' hp => by
      have pv := hrv p (by omega)
      obtain ⟨B', sv', a'', b'', i1, i2, i3, i4, i5⟩ := ih a' b' (k + 1) (fun i => if i = k then rv p else sv i) (wI B 408 k (rv p)) (by omega) (Mgi_s hg hl hr hp pv) ⟨by rw [wI_no _ (by omega)]; exact hB.1, fun i hi => by rw [wI_no _ (by omega)]; exact hB.2 i hi⟩ (fun i hi => by rw [wI_no _ (by omega)]; exact h7 i hi) (fun i hi => by
        show _ = (((if i = k then rv p else sv i) : Nat) : Int)
        by_cases e : i = k
        · rw [e, wI_at, if_pos rfl]
        · rw [wI_no _ (by omega), if_neg e]
          exact h8 i (by omega))
      refine ⟨B', sv', a'', b'', ((EX.refl _ B).wr rfl).trans i1, i2, fun i hi => ?_, i4, fun R S' kk => ?_⟩
      · rw [i3 i (by omega)]
        show (if i = k then rv p else sv i) = _
        rw [if_neg (by omega)]
      · have := i5 R S' kk
        rw [show ((k + 1 : Nat) : Int) = (k : Int) + 1 by omega] at this
        exact this
    have wk : Unit → w32 (k : Int) = k := fun _ => w32_of (by omega)
    have wa : Unit → w32 (a : Int) = a := fun _ => w32_of (by omega)
    have wb : Unit → w32 (b : Int) = b := fun _ => w32_of (by omega)
    have wt : Unit → w32 (to : Int) = to := fun _ => w32_of (by omega)
    have wm : Unit → w32 (mid : Int) = mid := fun _ => w32_of (by omega)
    have kL : ∀ (R : Option Value) (S' : ms), a < mid → EV q 319 100 [some (.ref 367), some (vI st), some (vI fr), some (vI ((a + 1 : Nat) : Int)), some (vI mid), some (vI b), some (vI to), some (vI ((k : Int) + 1)), none] [] (wI B 408 k (rv a)) R S' → EV q 319 140 [some (.ref 367), some (vI st), some (vI fr), some (vI a), some (vI mid), some (vI b), some (vI to), some (vI k), none] [] B R S' := fun R S' am kk => by
      refine vc_MD_sortRotations_140 _ _ _ _ _ _ _ (vc_MD_sortRotations_145 _ _ _ _ _ _ _ _ (cNo (by decide) ?_))
      rw [wa (), h7 a (by omega)]
      refine ⟨by omega, vc_MD_sortRotations_174 _ _ _ _ _ _ _ _ _ _ ?_⟩
      rw [wk ()]
      refine ⟨by omega, fun S2 q2 => cNo (by decide) (vc_MD_sortRotations_186 _ _ _ _ _ _ _ _ _ _ (cNo (by decide) (vc_MD_sortRotations_200 _ _ _ _ _ _ _ _ _ _ ?_)))⟩
      rw [q2, show (a : Int) + 1 = ((a + 1 : Nat) : Int) by omega, show (b : Int) + 0 = b by omega]
      exact kk
    have kR : ∀ (R : Option Value) (S' : ms), b < to → EV q 319 100 [some (.ref 367), some (vI st), some (vI fr), some (vI a), some (vI mid), some (vI ((b + 1 : Nat) : Int)), some (vI to), some (vI ((k : Int) + 1)), none] [] (wI B 408 k (rv b)) R S' → EV q 319 144 [some (.ref 367), some (vI st), some (vI fr), some (vI a), some (vI mid), some (vI b), some (vI to), some (vI k), none] [] B R S' := fun R S' bt kk => by
      refine vc_MD_sortRotations_144 _ _ _ _ _ _ _ (vc_MD_sortRotations_145 _ _ _ _ _ _ _ _ (cY (by decide) ?_))
      rw [wb (), h7 b (by omega)]
      refine ⟨by omega, vc_MD_sortRotations_174 _ _ _ _ _ _ _ _ _ _ ?_⟩
      rw [wk ()]
      refine ⟨by omega, fun S2 q2 => cY (by decide) (vc_MD_sortRotations_186 _ _ _ _ _ _ _ _ _ _ (cY (by decide) (vc_MD_sortRotations_200 _ _ _ _ _ _ _ _ _ _ ?_)))⟩
      rw [q2, show (b : Int) + 1 = ((b + 1 : Nat) : Int) by omega, show (a : Int) + 0 = a by omega]
      exact kk
    by_cases ca : a < mid
    · by_cases cb : b < to
      · obtain ⟨z, z1, z2⟩ := md_rot (q := q) hn hu ⟨hrv a (by omega), hrv b (by omega)⟩ hB
        by_cases cz : 0 < w32 z
        · obtain ⟨B', sv', a'', b'', i1, i2, i3, i4, i5⟩ := step b a (b + 1) (Or.inr ⟨cb, rfl, rfl, rfl, fun _ => leR_of (z1.1 cz)⟩)
          refine ⟨B', sv', a'', b'', i1, i2, i3, i4, fun R S' kk => vc_MD_sortRotations_100 _ _ _ _ _ _ _ ?_⟩
          rw [wt (), wk (), wm (), wa (), wb (), h7 a (by omega), h7 b (by omega)]
          exact cNo (by omega) (cNo (by omega) (cNo (by omega) ⟨by omega, by omega, z, B, z2, cY cz (kR R S' cb (i5 R S' kk))⟩))
        · obtain ⟨B', sv', a'', b'', i1, i2, i3, i4, i5⟩ := step a (a + 1) b (Or.inl ⟨ca, rfl, rfl, rfl, fun _ y => cz (z1.2 y)⟩)
          refine ⟨B', sv', a'', b'', i1, i2, i3, i4, fun R S' kk => vc_MD_sortRotations_100 _ _ _ _ _ _ _ ?_⟩
          rw [wt (), wk (), wm (), wa (), wb (), h7 a (by omega), h7 b (by omega)]
          exact cNo (by omega) (cNo (by omega) (cNo (by omega) ⟨by omega, by omega, z, B, z2, cNo cz (kL R S' ca (i5 R S' kk))⟩))
      · obtain ⟨B', sv', a'', b'', i1, i2, i3, i4, i5⟩ := step a (a + 1) b (Or.inl ⟨ca, rfl, rfl, rfl, fun y => absurd y cb⟩)
        refine ⟨B', sv', a'', b'', i1, i2, i3, i4, fun R S' kk => vc_MD_sortRotations_100 _ _ _ _ _ _ _ ?_⟩
        rw [wt (), wk (), wm (), wa (), wb ()]
        exact cNo (by omega) (cNo (by omega) (cY (by omega) (kL R S' ca (i5 R S' kk))))
    · obtain ⟨B', sv', a'', b'', i1, i2, i3, i4, i5⟩ := step b a (b + 1) (Or.inr ⟨by omega, rfl, rfl, rfl, fun y => absurd y ca⟩)
      refine ⟨B', sv', a'', b'', i1, i2, i3, i4, fun R S' kk => vc_MD_sortRotations_100 _ _ _ _ _ _ _ ?_⟩
      rw [wt (), wk (), wm (), wa ()]
      exact cNo (by omega) (cY (by omega) (kR R S' (by omega) (i5 R S' kk)))
/-- pieces of st are in order -/
def Chk (u : Nat → Int) (n st : Nat) (R : Nat → Nat) (m : Nat) : Prop := ∀ c i j : Nat, c * st ≤ i → i < j → j < c * st + st → j < m → leR u n (R i) (R j)
theorem md_mgo {rv : Nat → Nat} {st : Nat} (hn : 1 ≤ n ∧ n ≤ 2500) (hu : ∀ i : Nat, i < n → 0 ≤ u i ∧ u i < 256) (hst : 1 ≤ st ∧ st < n) (hrv : ∀ i : Nat, i < n → rv i < n) (hc : Chk u n st rv n) : ∀ (v c : Nat) (sv : Nat → Nat) (B : ms), n ≤ c * (2 * st) + v → RuM B n u → (∀ i : Nat, i < n → B.1 407 i = rv i) → (∀ i : Nat, i < c * (2 * st) → i < n → B.1 408 i = sv i ∧ sv i < n) → (∀ d i j : Nat, d < c → d * (2 * st) ≤ i → i < j → j < d * (2 * st) + 2 * st → j < n → leR u n (sv i) (sv j)) → (∀ j : Nat, j < c * (2 * st) → j < n → ∃ i : Nat, i < c * (2 * st) ∧ i < n ∧ sv i = rv j) → c * (2 * st) ≤ n + 2 * st → ∃ (B' : ms) (sv' : Nat → Nat), EX (fun a _ => a = 408) B B' ∧ (∀ i : Nat, i < n → B'.1 408 i = sv' i ∧ sv' i < n) ∧ Chk u n (2 * st) sv' n ∧ (∀ j : Nat, j < n → ∃ i : Nat, i < n ∧ sv' i = rv j) ∧ ∀ (R : Option Value) (S' : ms), EV q 319 220 [some (.ref 367), some (vI st), some (vI 0), none, none, none, none, none, none] [] B' R S' → EV q 319 35 [some (.ref 367), some (vI st), some (vI ((c * (2 * st) : Nat) : Int)), none, none, none, none, none, none] [] B R S' := by
  have wn : Unit → w32 (n : Int) = n := fun _ => w32_of (by omega)
  intro v
  induction v with
  | zero =>
    intro c sv B hv hB h7 h8 hs hcv hub
    obtain ⟨fr, efr⟩ : ∃ fr, fr = c * (2 * st) := ⟨_, rfl⟩
    rw [← efr] at hv h8 hcv hub ⊢
    refine ⟨B, sv, EX.refl _ B, fun i hi => h8 i (by omega) hi, fun d i j h1 h2 h3 h4 => ?_, fun j hj => ?_, fun R S' kk => vc_MD_sortRotations_35 _ _ ?_⟩
    · refine hs d i j ?_ h1 h2 h3 h4
      by_cases e : d < c
      · exact e
      · have := Nat.mul_le_mul_right (2 * st) (by omega : c ≤ d)
        omega
    · obtain ⟨i, i1, i2, i3⟩ := hcv j (by omega) hj
      exact ⟨i, i2, i3⟩
    · rw [hB.1, wn (), show w32 (fr : Int) = fr from w32_of (by omega)]
      exact cY (by omega) kk
  | succ v ih =>
    intro c sv B hv hB h7 h8 hs hcv hub
    obtain ⟨fr, efr⟩ : ∃ fr, fr = c * (2 * st) := ⟨_, rfl⟩
    by_cases done : n ≤ fr
    · rw [← efr] at h8 hcv hub ⊢
      refine ⟨B, sv, EX.refl _ B, fun i hi => h8 i (by omega) hi, fun d i j h1 h2 h3 h4 => ?_, fun j hj => ?_, fun R S' kk => vc_MD_sortRotations_35 _ _ ?_⟩
      · refine hs d i j ?_ h1 h2 h3 h4
        by_cases e : d < c
        · exact e
        · have := Nat.mul_le_mul_right (2 * st) (by omega : c ≤ d)
          omega
      · obtain ⟨i, i1, i2, i3⟩ := hcv j (by omega) hj
        exact ⟨i, i2, i3⟩
      · rw [hB.1, wn (), show w32 (fr : Int) = fr from w32_of (by omega)]
        exact cY (by omega) kk
    · obtain ⟨mid, emid⟩ : ∃ mid, mid = min (fr + st) n := ⟨_, rfl⟩
      obtain ⟨to, eto⟩ : ∃ to, to = min (fr + 2 * st) n := ⟨_, rfl⟩
      have m1 : (2 * c) * st = fr := by rw [efr, Nat.mul_comm 2 c, Nat.mul_assoc]
      have m2 : (2 * c + 1) * st = fr + st := by rw [Nat.succ_mul, m1]
      have hl : ∀ i j : Nat, fr ≤ i → i < j → j < mid → leR u n (rv i) (rv j) := fun i j i0 ij jm => hc (2 * c) i j (by omega) ij (by omega) (by omega)
      have hr : ∀ i j : Nat, mid ≤ i → i < j → j < to → leR u n (rv i) (rv j) := fun i j i0 ij jt => hc (2 * c + 1) i j (by omega) ij (by omega) (by omega)
      rw [← efr] at h8 hcv hub ⊢
      obtain ⟨B1, sv1, a', b', g1, g2, g3, g4, g5⟩ := md_mgl (q := q) (rv := rv) (st := st) (fr := fr) (mid := mid) (to := to) hn hu (by omega) hrv hl hr (to - fr) fr mid fr sv B (by omega) ⟨by omega, fun i j i0 ij jk => absurd jk (by omega), fun i j i0 ik => absurd ik (by omega), fun i i0 ik => absurd ik (by omega), fun j hj => absurd hj (by omega)⟩ hB h7 (fun i hi => (h8 i hi (by omega)).1)
      have c1 : (c + 1) * (2 * st) = fr + 2 * st := by rw [Nat.succ_mul, ← efr]
      obtain ⟨B', sv', i1, i2, i3, i4, i5⟩ := ih (c + 1) sv1 B1 (by rw [c1]; omega) ⟨by rw [g1.2 367 66 (by decide)]; exact hB.1, fun i hi => by rw [g1.2 406 i (by omega)]; exact hB.2 i hi⟩ (fun i hi => by rw [g1.2 407 i (by omega)]; exact h7 i hi) (fun i hi hi' => by
        rw [c1] at hi
        refine ⟨g4 i (by omega), ?_⟩
        by_cases e : i < fr
        · rw [g3 i e]; exact (h8 i e hi').2
        · exact g2.2.2.2.1 i (by omega) (by omega)) (fun d i j hd h1 h2 h3 h4 => by
        by_cases e : d < c
        · have l : d * (2 * st) + 2 * st ≤ fr := by
            have := Nat.mul_le_mul_right (2 * st) (by omega : d + 1 ≤ c)
            rw [Nat.succ_mul, ← efr] at this
            exact this
          rw [g3 i (by omega), g3 j (by omega)]
          exact hs d i j e h1 h2 h3 h4
        · have ed : d = c := by omega
          rw [ed, ← efr] at h1 h3
          exact g2.2.1 i j h1 h2 (by omega)) (fun j hj hj' => by
        rw [c1] at hj ⊢
        by_cases e : j < fr
        · obtain ⟨i, k1, k2, k3⟩ := hcv j e hj'
          exact ⟨i, by omega, k2, by rw [g3 i k1]; exact k3⟩
        · have ab := g2.1
          obtain ⟨i, k1, k2, k3⟩ := g2.2.2.2.2 j (by omega)
          exact ⟨i, by omega, by omega, k3⟩) (by rw [c1]; omega)
      refine ⟨B', sv', g1.trans i1, i2, i3, i4, fun R S' kk => vc_MD_sortRotations_35 _ _ ?_⟩
      have k35 := i5 R S' kk
      rw [c1, show ((fr + 2 * st : Nat) : Int) = (fr : Int) + 2 * st by omega] at k35
      have k100 := g5 R S' k35
      rw [hB.1, wn (), show w32 (fr : Int) = fr from w32_of (by omega), w32_of (x := (fr : Int) + st) (by omega)]
      refine cNo (by omega) ?_
      have k65 : EV q 319 65 [some (.ref 367), some (vI st), some (vI fr), some (vI fr), none, none, none, none, none] [vI mid] B R S' := by
        refine vc_MD_sortRotations_65 _ _ _ _ ?_
        rw [hB.1, wn (), w32_of (x := (fr : Int) + 2 * st) (by omega)]
        by_cases e : (n : Int) ≤ (fr : Int) + 2 * st
        · rw [show to = n by omega] at k100
          exact cY e (vc_MD_sortRotations_95 _ _ _ _ _ _ k100)
        · rw [show (to : Int) = (fr : Int) + 2 * st by omega] at k100
          exact cNo e (vc_MD_sortRotations_95 _ _ _ _ _ _ k100)
      by_cases e : (n : Int) ≤ (fr : Int) + st
      · rw [show mid = n by omega] at k65
        exact cY e k65
      · rw [show (mid : Int) = (fr : Int) + st by omega] at k65
        exact cNo e k65
theorem md_cpr {sv : Nat → Nat} {st : Nat} (hn : n ≤ 2500) : ∀ (v i : Nat) (B : ms), i + v = n → B.1 367 66 = n → (∀ j : Nat, j < n → B.1 408 j = sv j) → (∀ j : Nat, j < i → B.1 407 j = sv j) → ∃ B', EX (fun a _ => a = 407) B B' ∧ (∀ j : Nat, j < n → B'.1 407 j = sv j) ∧ ∀ (R : Option Value) (S' : ms), EV q 319 25 [some (.ref 367), some (vI ((st : Int) * 2)), none, none, none, none, none, none, none] [] B' R S' → EV q 319 220 [some (.ref 367), some (vI st), some (vI i), none, none, none, none, none, none] [] B R S' := by
  have wn : Unit → w32 (n : Int) = n := fun _ => w32_of (by omega)
  intro v
  induction v with
  | zero =>
    intro i B hi h1 h8 h7
    have e : i = n := by omega
    subst e
    refine ⟨B, EX.refl _ B, h7, fun R S' k => vc_MD_sortRotations_220 _ _ ?_⟩
    rw [h1]
    exact cY (Int.le_refl _) k
  | succ v ih =>
    intro i B hi h1 h8 h7
    obtain ⟨B', g1, g2, g3⟩ := ih (i + 1) (wI B 407 i (sv i)) (by omega) (by rw [wI_no _ (by omega)]; exact h1) (fun j hj => by rw [wI_no _ (by omega)]; exact h8 j hj) (fun j hj => by
      by_cases e : j = i
      · rw [e, wI_at]
      · rw [wI_no _ (by omega)]
        exact h7 j (by omega))
    refine ⟨B', ((EX.refl _ B).wr rfl).trans g1, g2, fun R S' k => vc_MD_sortRotations_220 _ _ ?_⟩
    have g4 := g3 R S' k
    rw [show ((i + 1 : Nat) : Int) = (i : Int) + 1 by omega] at g4
    rw [h1, wn (), show w32 (i : Int) = i from w32_of (by omega), h8 i (by omega)]
    exact cNo (by omega) ⟨by omega, by omega, fun S3 q3 => by rw [q3]; exact g4⟩
def XSq (a : Nat) (_ : Int) : Prop := a = 407 ∨ a = 408
theorem md_mgs (hn : 1 ≤ n ∧ n ≤ 2500) (hu : ∀ i : Nat, i < n → 0 ≤ u i ∧ u i < 256) : ∀ (v st : Nat) (rv : Nat → Nat) (B : ms), n ≤ st + v → 1 ≤ st → st ≤ 5000 → Pmu n rv → Chk u n st rv n → RuM B n u → (∀ i : Nat, i < n → B.1 407 i = rv i) → ∃ (B' : ms) (R : Nat → Nat), EX XSq B B' ∧ Srt u n R ∧ (∀ i : Nat, i < n → B'.1 407 i = R i) ∧ EV q 319 25 [some (.ref 367), some (vI st), none, none, none, none, none, none, none] [] B none B' := by
  have wn : Unit → w32 (n : Int) = n := fun _ => w32_of (by omega)
  have fin : ∀ (st : Nat) (rv : Nat → Nat), n ≤ st → Pmu n rv → Chk u n st rv n → Srt u n rv := fun st rv hs hp hc => ⟨hp, fun i j hij hj => by
    have l := hc 0 i j (by omega) hij (by omega) hj
    rcases rtR_tot u n (rv i) (rv j) with y | y | y
    · exact y
    · have := Pmu_i hp (by omega) hj y
      omega
    · exact absurd y l⟩
  intro v
  induction v with
  | zero =>
    intro st rv B hv h1 h5 hp hc hB h7
    refine ⟨B, rv, EX.refl _ B, fin st rv (by omega) hp hc, h7, vc_MD_sortRotations_25 _ ?_⟩
    rw [hB.1, wn (), show w32 (st : Int) = st from w32_of (by omega)]
    exact cY (by omega) ⟨rfl, rfl⟩
  | succ v ih =>
    intro st rv B hv h1 h5 hp hc hB h7
    by_cases d : n ≤ st
    · refine ⟨B, rv, EX.refl _ B, fin st rv d hp hc, h7, vc_MD_sortRotations_25 _ ?_⟩
      rw [hB.1, wn (), show w32 (st : Int) = st from w32_of (by omega)]
      exact cY (by omega) ⟨rfl, rfl⟩
    · have z0 : 0 * (2 * st) = 0 := Nat.zero_mul _
      obtain ⟨B1, sv, g1, g2, g3, g4, g5⟩ := md_mgo (q := q) hn hu ⟨h1, by omega⟩ hp.1 hc n 0 rv B (by omega) hB h7 (fun i hi => absurd hi (by omega)) (fun d i j hd => absurd hd (by omega)) (fun j hj => absurd hj (by omega)) (by omega)
      rw [z0] at g5
      obtain ⟨B2, k1, k2, k3⟩ := md_cpr (q := q) (sv := sv) (st := st) hn.2 n 0 B1 (by omega) (by rw [g1.2 367 66 (by decide)]; exact hB.1) (fun j hj => (g2 j hj).1) (fun j hj => absurd hj (by omega))
      have hp' : Pmu n sv := ⟨fun i hi => (g2 i hi).2, fun a ha => by
        obtain ⟨j, j1, j2⟩ := hp.2 a ha
        obtain ⟨i, i1, i2⟩ := g4 j j1
        exact ⟨i, i1, by rw [i2, j2]⟩⟩
      have x2 : EX XSq B B2 := (g1.mono (fun a k y => Or.inr y)).trans (k1.mono (fun a k y => Or.inl y))
      obtain ⟨B', R, m1, m2, m3, m4⟩ := ih (2 * st) sv B2 (by omega) (by omega) (by omega) hp' g3 ⟨by rw [x2.2 367 66 (by unfold XSq; omega)]; exact hB.1, fun i hi => by rw [x2.2 406 i (by unfold XSq; omega)]; exact hB.2 i hi⟩ k2
      refine ⟨B', R, x2.trans m1, m2, m3, vc_MD_sortRotations_25 _ ?_⟩
      rw [hB.1, wn (), show w32 (st : Int) = st from w32_of (by omega)]
      rw [show ((2 * st : Nat) : Int) = (st : Int) * 2 by omega] at m4
      exact cNo (by omega) (g5 none B' (k3 none B' m4))
theorem md_sin (hn : n ≤ 2500) : ∀ (v i : Nat) (B : ms), i + v = n → B.1 367 66 = n → (∀ j : Nat, j < i → B.1 407 j = j) → ∃ B', EX (fun a _ => a = 407) B B' ∧ (∀ j : Nat, j < n → B'.1 407 j = j) ∧ ∀ (R : Option Value) (S' : ms), EV q 319 25 [some (.ref 367), some (vI 1), none, none, none, none, none, none, none] [] B' R S' → EV q 319 2 [some (.ref 367), some (vI i), none, none, none, none, none, none, none] [] B R S' := by
  have wn : Unit → w32 (n : Int) = n := fun _ => w32_of (by omega)
  intro v
  induction v with
  | zero =>
    intro i B hi h1 h7
    have e : i = n := by omega
    subst e
    refine ⟨B, EX.refl _ B, h7, fun R S' k => vc_MD_sortRotations_2 _ ?_⟩
    rw [h1]
    exact cY (Int.le_refl _) k
  | succ v ih =>
    intro i B hi h1 h7
    obtain ⟨B', g1, g2, g3⟩ := ih (i + 1) (wI B 407 i i) (by omega) (by rw [wI_no _ (by omega)]; exact h1) (fun j hj => by
      by_cases e : j = i
      · rw [e, wI_at]
      · rw [wI_no _ (by omega)]
        exact h7 j (by omega))
    refine ⟨B', ((EX.refl _ B).wr rfl).trans g1, g2, fun R S' k => vc_MD_sortRotations_2 _ ?_⟩
    have g4 := g3 R S' k
    rw [show ((i + 1 : Nat) : Int) = (i : Int) + 1 by omega] at g4
    rw [h1, wn (), show w32 (i : Int) = i from w32_of (by omega)]
    exact cNo (by omega) ⟨by omega, fun S2 q2 => by rw [q2]; exact g4⟩
/-- the reference sorts -/
theorem md_srt (hn : 1 ≤ n ∧ n ≤ 2500) (hu : ∀ i : Nat, i < n → 0 ≤ u i ∧ u i < 256) {B : ms} (hB : RuM B n u) : ∃ (B' : ms) (R : Nat → Nat), EX XSq B B' ∧ Srt u n R ∧ (∀ i : Nat, i < n → B'.1 407 i = R i) ∧ EV q 319 0 [some (.ref 367), none, none, none, none, none, none, none, none] [] B none B' := by
  obtain ⟨B1, g1, g2, g3⟩ := md_sin (q := q) hn.2 n 0 B (by omega) hB.1 (fun j hj => absurd hj (by omega))
  obtain ⟨B', R, m1, m2, m3, m4⟩ := md_mgs (q := q) (u := u) hn hu n 1 (fun i => i) B1 (by omega) (by decide) (by decide) (Pmu_id n) (fun c i j h1 h2 h3 h4 => absurd h2 (by omega)) ⟨by rw [g1.2 367 66 (by decide)]; exact hB.1, fun i hi => by rw [g1.2 406 i (by omega)]; exact hB.2 i hi⟩ g2
  exact ⟨B', R, (g1.mono (fun a k y => Or.inl y)).trans m1, m2, m3, vc_MD_sortRotations (g3 none B' m4)⟩
end PSrm
