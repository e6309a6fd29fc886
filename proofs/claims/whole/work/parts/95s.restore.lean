/-! restore on both sides -/
section Restore
variable {q : Nat × (Nat → Int32)} {S : ms} {a b d m : Int}
theorem sm_mono {u : Nat → Int} {n : Nat} (hu : ∀ j, j < n → 0 ≤ u j) : ∀ {j : Nat}, j ≤ n → sm u j ≤ sm u n := by
  induction n with
  | zero =>
    intro j hj
    have e : j = 0 := by omega
    subst e
    exact Int.le_refl _
  | succ n ih =>
    intro j hj
    by_cases c : j = n + 1
    · subst c
      exact Int.le_refl _
    · have h1 := ih (fun i hi => hu i (by omega)) (j := j) (by omega)
      have h2 := hu n (by omega)
      show sm u j ≤ sm u n + u n
      omega
theorem sm_nn {u : Nat → Int} {n : Nat} (hu : ∀ j, j < n → 0 ≤ u j) : 0 ≤ sm u n := sm_mono hu (j := 0) (by omega)
/-- every place is in a piece -/
theorem sm_at {u : Nat → Int} {n : Nat} (hu : ∀ j, j < n → 0 ≤ u j) {k : Int} (k0 : 0 ≤ k) (kn : k < sm u n) : ∃ (j : Nat) (i : Int), j < n ∧ 0 ≤ i ∧ i < u j ∧ k = sm u j + i := by
  induction n with
  | zero => exact absurd kn (by show ¬ k < (0 : Int); omega)
  | succ n ih =>
    by_cases c : k < sm u n
    · obtain ⟨j, i, h1, h2, h3, h4⟩ := ih (fun i hi => hu i (by omega)) c
      exact ⟨j, i, by omega, h2, h3, h4⟩
    · have e : sm u (n + 1) = sm u n + u n := rfl
      exact ⟨n, k - sm u n, by omega, by omega, by omega, by omega⟩
theorem ph_settle {T : ms} {f : Int} (f1 : 1 ≤ f) (f2 : f ≤ 12) (hT : T.1 (sR f) 2 = 0) : EV q 112 0 [some (.ref 0), some (vI f)] [] T (some (vI f)) (wI T 4 f 1) := by
  have ef : w32 f = f := w32_of (by omega)
  obtain ⟨e1, e2⟩ := st_is f1 f2
  refine vc_PH_settle _ ?_
  rw [ef]
  refine ⟨by omega, sR f, 12000, e1, e2, fun _ => ⟨by omega, fun S6 g => ⟨rfl, g.symm⟩⟩, fun n => absurd ?_ n⟩
  rw [hT]
  rfl
/-- the first j pieces g stand in row o -/
def CO (S T : ms) (o : Nat) (u : Nat → Int) (c : Nat → Int → Int) (j : Nat) : Prop := T.2 = S.2 ∧ T.1 o 1 = sm u j ∧ (∀ (a : Nat) (k : Int), ¬ (a = o ∧ k = 1) → ¬ (a = o + 1 ∧ 0 ≤ k ∧ k < sm u j) → T.1 a k = S.1 a k) ∧ ∀ (l : Nat) (i : Int), l < j → 0 ≤ i → i < u l → T.1 (o + 1) (sm u l + i) = c l i
theorem lp_copy {o : Nat} {r : Int} {u bk : Nat → Int} {n : Nat} (ho : isRow o 12000) (hne : 300 < o) (hr : 0 ≤ r ∧ r < 8) (hn : S.1 191 r = n) (hn2 : n ≤ 192) (hb : ∀ j : Nat, j < n → (0 ≤ bk j ∧ bk j < 300) ∧ S.1 192 (r * 192 + j) = bk j ∧ S.1 186 (bk j) = u j ∧ 0 ≤ u j ∧ u j ≤ 200) (hs : sm u n ≤ 6000) : ∀ (t j : Nat) (T : ms), j + t = n → CO S T o u (fun l i => S.1 185 (bk l * 200 + i)) j → ∃ T', EV q 249 2 [some (.ref 184), some (vI r), some (.ref o), some (vI j), none] [] T none T' ∧ CO S T' o u (fun l i => S.1 185 (bk l * 200 + i)) n := by
  have wr : w32 r = r := w32_of (by omega)
  have wn : Unit → w32 (n : Int) = n := fun _ => w32_of (by omega)
  have nn : ∀ j : Nat, j < n → 0 ≤ u j := fun j hj => (hb j hj).2.2.2.1
  intro t
  induction t with
  | zero =>
    intro j T hj hT
    have e : j = n := by omega
    subst e
    refine ⟨T, vc_Store_copyOut_2 _ _ o 12000 ho ?_, hT⟩
    rw [wr, hT.2.2.1 191 r (by omega) (by omega), hn]
    exact ⟨by omega, fun _ => ⟨rfl, rfl⟩, fun n => absurd (Int.le_refl _) n⟩
  | succ t ih =>
    intro j T hj hT
    obtain ⟨b1, b2, b3, b4, b5⟩ := hb j (by omega)
    obtain ⟨t1, t2, t3, t4⟩ := hT
    have s0 := sm_nn (n := j) (fun i hi => nn i (by omega))
    have s1 := sm_mono nn (j := j + 1) (by omega)
    have es : sm u (j + 1) = sm u j + u j := rfl
    have wj : Unit → w32 (j : Int) = j := fun _ => w32_of (by omega)
    have wx : w32 (r * 192 + j) = r * 192 + j := w32_of (by omega)
    have wb : w32 (bk j) = bk j := w32_of (by omega)
    have sp := sp_span (q := q) (S := T) (c := 185) (n1 := 60000) (p := sm u j) (fr := bk j * 200) (to := bk j * 200 + u j) ho rfl (by decide) (by decide) t2 s0 (by omega) (by omega) (by omega) (by omega)
    rw [show bk j * 200 + u j - bk j * 200 = u j by omega] at sp
    have hN : CO S (RW T o (sm u j) (u j) (fun k => T.1 185 (bk j * 200 + k))) o u (fun l i => S.1 185 (bk l * 200 + i)) (j + 1) := by
      refine ⟨t1, ?_, fun a k h1 h2 => ?_, fun l i hl i0 i1 => ?_⟩
      · rw [RW_at, if_pos ⟨rfl, rfl⟩, es]
      · rw [RW_at, if_neg h1, if_neg (fun z => h2 ⟨z.1, by omega, by omega⟩), t3 a k h1 (fun z => h2 ⟨z.1, z.2.1, by omega⟩)]
      · rw [RW_at, if_neg (by omega)]
        by_cases c : l = j
        · subst c
          rw [if_pos ⟨rfl, by omega, by omega⟩, show sm u l + i - sm u l = i by omega]
          exact t3 185 _ (by omega) (by omega)
        · have sl := sm_mono (n := j) (fun i hi => nn i (by omega)) (j := l + 1) (by omega)
          have el : sm u (l + 1) = sm u l + u l := rfl
          rw [if_neg (by omega), t4 l i (by omega) i0 i1]
    obtain ⟨T', k1, k2⟩ := ih (j + 1) _ (by omega) hN
    refine ⟨T', vc_Store_copyOut_2 _ _ o 12000 ho ?_, k2⟩
    rw [wr, t3 191 r (by omega) (by omega), hn, wn (), wj (), wx, t3 192 _ (by omega) (by omega), b2, wb, t3 186 _ (by omega) (by omega), b3]
    refine ⟨by omega, fun n => absurd n (by omega), fun _ => ⟨by omega, by omega, _, sp, ?_⟩⟩
    rw [show (j : Int) + 1 = ((j + 1 : Nat) : Int) by omega]
    exact k1
/-- the first pieces, and i octets of the next, stand in the reference's out -/
def MO (S T : ms) (u : Nat → Int) (c : Nat → Int → Int) (j : Nat) (e : Int) : Prop := T.2 = S.2 ∧ T.1 367 22 = sm u j + e ∧ (∀ (a : Nat) (k : Int), ¬ (a = 367 ∧ k = 22) → a ≠ 375 → T.1 a k = S.1 a k) ∧ (∀ (l : Nat) (i : Int), l < j → 0 ≤ i → i < u l → T.1 375 (sm u l + i) = c l i) ∧ ∀ i : Int, 0 ≤ i → i < e → T.1 375 (sm u j + i) = c j i
theorem lp_mcopy1 {x1 s bj : Int} {u : Nat → Int} {c : Nat → Int → Int} {j : Nat} (hj : j ≤ 192) (hb : 0 ≤ bj ∧ bj < 300) (hu : S.1 447 bj = u j) (hu2 : 0 ≤ u j ∧ u j ≤ 200) (hc : ∀ i : Int, 0 ≤ i → i < u j → b8 (S.1 446 (200 * bj + i)) = c j i) (h0 : ∀ l, l < j → 0 ≤ u l) (hs : sm u j + u j ≤ 6000) {rr : Option Value} {P : ms → Prop} (k : ∀ T, MO S T u c (j + 1) 0 → ∃ T', EV q 425 34 [some (.ref 367), some (vI x1), some (vI s), some (vI ((j : Int) + 1)), none, none] [] T rr T' ∧ P T') : ∀ (t : Nat) (e : Int) (T : ms), 0 ≤ e → e + t = u j → MO S T u c j e → ∃ T', EV q 425 61 [some (.ref 367), some (vI x1), some (vI s), some (vI j), some (vI bj), some (vI e)] [] T rr T' ∧ P T' := by
  have wb : w32 bj = bj := w32_of (by omega)
  have wu : w32 (u j) = u j := w32_of (by omega)
  have s0 := sm_nn h0
  intro t
  induction t with
  | zero =>
    intro e T e0 he hT
    have ee : e = u j := by omega
    subst ee
    obtain ⟨t1, t2, t3, t4, t5⟩ := hT
    obtain ⟨T', k1, k2⟩ := k T ⟨t1, by rw [t2]; show _ = sm u j + u j + 0; omega, t3, fun l i hl i0 i1 => by
      by_cases cl : l = j
      · subst cl
        exact t5 i i0 i1
      · exact t4 l i (by omega) i0 i1, fun i i0 i1 => absurd i1 (by omega)⟩
    refine ⟨T', vc_MD_restore_61 _ _ _ _ _ ?_, k2⟩
    rw [wb, t3 447 _ (by omega) (by decide), hu]
    exact ⟨by omega, fun _ => k1, fun n => absurd (Int.le_refl _) n⟩
  | succ t ih =>
    intro e T e0 he hT
    obtain ⟨t1, t2, t3, t4, t5⟩ := hT
    have we : w32 e = e := w32_of (by omega)
    have wx : w32 (200 * bj + e) = 200 * bj + e := w32_of (by omega)
    have wc : w32 (sm u j + e) = sm u j + e := w32_of (by omega)
    have q2 : ∀ (a : Nat) (k : Int), (wI (wI T 375 (sm u j + e) (c j e)) 367 22 (sm u j + e + 1)).1 a k = if a = 367 ∧ k = 22 then sm u j + e + 1 else if a = 375 ∧ k = sm u j + e then c j e else T.1 a k := fun _ _ => rfl
    have hN : MO S (wI (wI T 375 (sm u j + e) (c j e)) 367 22 (sm u j + e + 1)) u c j (e + 1) := by
      refine ⟨t1, ?_, fun a k h1 h2 => ?_, fun l i hl i0 i1 => ?_, fun i i0 i1 => ?_⟩
      · rw [q2, if_pos ⟨rfl, rfl⟩]
        omega
      · rw [q2, if_neg h1, if_neg (fun z => h2 z.1), t3 a k h1 h2]
      · have sl := sm_mono h0 (j := l + 1) (by omega)
        have el : sm u (l + 1) = sm u l + u l := rfl
        rw [q2, if_neg (by omega), if_neg (by omega), t4 l i hl i0 i1]
      · rw [q2, if_neg (by omega)]
        by_cases ci : i = e
        · subst ci
          rw [if_pos ⟨rfl, rfl⟩]
        · rw [if_neg (by omega), t5 i i0 (by omega)]
    obtain ⟨T', k1, k2⟩ := ih (e + 1) _ (by omega) (by omega) hN
    refine ⟨T', vc_MD_restore_61 _ _ _ _ _ ?_, k2⟩
    rw [wb, t3 447 _ (by omega) (by decide), hu, wu, we, wx, t2, wc, t3 446 _ (by omega) (by decide), hc e e0 (by omega)]
    refine ⟨by omega, fun n => absurd n (by omega), fun _ => ⟨by omega, by omega, fun S4 f4 S5 f5 => ?_⟩⟩
    have e4 : S4.1 367 22 = sm u j + e := by
      subst f4
      rw [rI_I, if_neg (by omega), t2]
    rw [e4] at f5
    subst f4 f5
    exact k1
theorem lp_mcopy {x1 s : Int} {u bk : Nat → Int} {c : Nat → Int → Int} {n : Nat} (hs8 : 0 ≤ s ∧ s < 8) (hn : S.1 451 s = n) (hn2 : n ≤ 192) (hb : ∀ j : Nat, j < n → (0 ≤ bk j ∧ bk j < 300) ∧ S.1 450 (200 * s + j) = bk j ∧ S.1 447 (bk j) = u j ∧ (0 ≤ u j ∧ u j ≤ 200) ∧ ∀ i : Int, 0 ≤ i → i < u j → b8 (S.1 446 (200 * bk j + i)) = c j i) (hs : sm u n ≤ 6000) {rr : Option Value} {P : ms → Prop} (k : ∀ T, MO S T u c n 0 → ∃ T', EV q 425 34 [some (.ref 367), some (vI x1), some (vI s), some (vI n), none, none] [] T rr T' ∧ P T') : ∀ (t j : Nat) (T : ms), j + t = n → MO S T u c j 0 → ∃ T', EV q 425 34 [some (.ref 367), some (vI x1), some (vI s), some (vI j), none, none] [] T rr T' ∧ P T' := by
  have ws : w32 s = s := w32_of (by omega)
  have wn : Unit → w32 (n : Int) = n := fun _ => w32_of (by omega)
  intro t
  induction t with
  | zero =>
    intro j T hj hT
    have e : j = n := by omega
    subst e
    exact k T hT
  | succ t ih =>
    intro j T hj hT
    obtain ⟨b1, b2, b3, b4, b5⟩ := hb j (by omega)
    have s1 := sm_mono (n := n) (fun i hi => (hb i hi).2.2.2.1.1) (j := j + 1) (by omega)
    have es : sm u (j + 1) = sm u j + u j := rfl
    have wj : Unit → w32 (j : Int) = j := fun _ => w32_of (by omega)
    have wx : w32 (200 * s + j) = 200 * s + j := w32_of (by omega)
    obtain ⟨T', k1, k2⟩ := lp_mcopy1 (q := q) (S := S) (x1 := x1) (s := s) (bj := bk j) (u := u) (c := c) (j := j) (rr := rr) (P := P) (by omega) b1 b3 b4 b5 (fun l hl => (hb l (by omega)).2.2.2.1.1) (by omega) (fun T hT => ih (j + 1) T (by omega) hT) (u j).toNat 0 T (by omega) (by omega) hT
    refine ⟨T', vc_MD_restore_34 _ _ _ ?_, k2⟩
    rw [ws, hT.2.2.1 451 _ (by omega) (by decide), hn, wn (), wj (), wx, hT.2.2.1 450 _ (by omega) (by decide), b2]
    exact ⟨by omega, fun n => absurd n (by omega), fun _ => ⟨by omega, k1⟩⟩
abbrev XR (a : Nat) (k : Int) : Prop := a = 375 ∨ (a = 367 ∧ (k = 0 ∨ k = 22))
/-- restore(snapshot) -/
theorem op33_ok (ha : -2147483648 ≤ a ∧ a < 2147483648) (h : RO m S) (hS : RS S) : op_33 q a b d S (fun T => EX XR S T ∨ ∃ (f n : Int) (g : Int → Int), FR S f ∧ f ≤ 12 ∧ NW XR S T f n g) := by
  have e129 : (wI S 367 0 0).1 367 129 = S.1 367 129 := r0 129 (by decide)
  have e449 : ∀ i : Int, (wI S 367 0 0).1 449 i = S.1 449 i := fun i => r0a 449 i (by decide)
  have x0 : EX XR S (wI S 367 0 0) := (EX.refl _ _).wr (Or.inr ⟨rfl, Or.inl rfl⟩)
  have n2 : S.1 184 2 ≤ 8 := h.2.1.1.2
  rcases st_find (q := q) h ha with ⟨s, r, s1, -, -, o, c1, c2⟩ | ⟨c1, c2⟩
  · obtain ⟨o1, -, o3, o4⟩ := o
    obtain ⟨⟨e1, e2⟩, hu⟩ := RO_row h o1
    obtain ⟨-, -, hB, hL, -⟩ := id h
    obtain ⟨-, -, -, l4, l5⟩ := hL r o1.1 o1.2
    have wr : w32 r = r := w32_of (by omega)
    have ws : w32 s = s := w32_of (by omega)
    obtain ⟨f, hf⟩ := fr_ex hS
    have g := hf.1
    have kfr := ph_free (q := q) hf
    by_cases cf : f ≤ 12
    · have hrg := sR_rg g.1 cf
      have wf : w32 f = f := w32_of (by omega)
      obtain ⟨st1, st2⟩ := st_is g.1 cf
      rw [if_pos cf] at kfr
      let u : Nat → Int := fun j => S.1 186 (S.1 192 (192 * r + j))
      let bk : Nat → Int := fun j => S.1 192 (192 * r + j)
      let n := (S.1 191 r).toNat
      have ub : ∀ j : Nat, j < n → (0 ≤ u j ∧ u j ≤ 200) ∧ S.1 447 (bk j) = u j ∧ ∀ i : Int, 0 ≤ i → i < u j → (0 ≤ S.1 185 (bk j * 200 + i) ∧ S.1 185 (bk j * 200 + i) < 256) ∧ S.1 446 (200 * bk j + i) = b8 (S.1 185 (bk j * 200 + i)) := by
        intro j hj
        obtain ⟨v1, v2⟩ := l4 j (by omega) (by omega)
        obtain ⟨y1, -, y3⟩ := hB _ v1.1 v1.2
        obtain ⟨y4, -, y6⟩ := y3 v2
        exact ⟨y1, y4, fun i i0 i1 => by rw [Int.mul_comm (bk j)]; exact y6 i i0 i1⟩
      have nn : ∀ j : Nat, j < n → 0 ≤ u j := fun j hj => (ub j hj).1.1
      have tot : 0 ≤ sm u n ∧ sm u n ≤ 6000 := ⟨sm_nn nn, l5⟩
      have cl := sp_clear (q := q) (S := S) st2
      obtain ⟨C, kC, p1, p2, p3, p4⟩ := lp_copy (q := q) (S := CL S (sR f)) (o := sR f) (r := r) (u := u) (bk := bk) (n := n) st2 (by omega) o1 (by rw [CL_n _ (by omega)]; exact e1.symm) e2 (fun j hj => ⟨(hu j hj).1, by rw [CL_n _ (by omega)]; exact (hu j hj).2, CL_n _ (by omega), (ub j hj).1⟩) tot.2 n 0 (CL S (sR f)) (by omega) ⟨rfl, CL_1, fun _ _ _ _ => rfl, fun l i hl => absurd hl (by omega)⟩
      have c2' : C.1 (sR f) 2 = 0 := by
        rw [p3 _ _ (by omega) (by omega), CL_at, if_neg (by omega), if_pos ⟨rfl, rfl⟩]
      have kst := ph_settle (q := q) g.1 cf c2'
      have o' : ∀ (c : Nat) (k : Int), 366 < c → ¬ (c = 367 ∧ k = 0) → (wI (wI C 4 f 1) 367 0 0).1 c k = S.1 c k := by
        intro c k h1 h2
        rw [rI_I, if_neg h2, rI_I, if_neg (by omega), p3 _ _ (by omega) (by omega), CL_n _ (by omega)]
      have oT : ∀ (U : ms), (∀ (a : Nat) (k : Int), ¬ (a = 367 ∧ k = 22) → a ≠ 375 → U.1 a k = (wI (wI (wI C 4 f 1) 367 0 0) 367 22 0).1 a k) → ∀ k : Int, 1 ≤ k → k ≤ 12 → U.1 371 k = S.1 4 k := by
        intro U hU k k1 k2
        rw [hU _ _ (by omega) (by decide), rI_I, if_neg (by omega), o' _ _ (by decide) (by omega), (hS k k1 k2).2.1]
      have fre := md_free (q := q) (T := wI (wI C 4 f 1) 367 0 0) hf (fun k k1 k2 => by rw [o' _ _ (by decide) (by omega), (hS k k1 k2).2.1])
      rw [if_pos cf] at fre
      have p4' : ∀ (l : Nat) (i : Int), l < n → 0 ≤ i → i < u l → C.1 (sR f + 1) (sm u l + i) = S.1 185 (bk l * 200 + i) := fun l i hl i0 i1 => (p4 l i hl i0 i1).trans (CL_n _ (by omega))
      let g1 : Int → Int := fun k => C.1 (sR f + 1) k
      have gO : ∀ k : Int, 0 ≤ k → k < sm u n → 0 ≤ g1 k ∧ g1 k < 256 := by
        intro k k0 kn
        obtain ⟨j, i, j1, i0, i1, ek⟩ := sm_at nn k0 kn
        show 0 ≤ C.1 (sR f + 1) k ∧ C.1 (sR f + 1) k < 256
        rw [ek, p4' j i j1 i0 i1]
        exact ((ub j j1).2.2 i i0 i1).1
      have oN : ∀ (c : Nat) (k : Int), 367 < c → (wI (wI (wI C 4 f 1) 367 0 0) 367 22 0).1 c k = S.1 c k := fun c k h1 => by rw [rI_I, if_neg (by omega), o' c k (by omega) (by omega)]
      have hbk : ∀ j : Nat, j < n → (0 ≤ bk j ∧ bk j < 300) ∧ (wI (wI (wI C 4 f 1) 367 0 0) 367 22 0).1 450 (200 * s + j) = bk j ∧ (wI (wI (wI C 4 f 1) 367 0 0) 367 22 0).1 447 (bk j) = u j ∧ (0 ≤ u j ∧ u j ≤ 200) ∧ ∀ i : Int, 0 ≤ i → i < u j → b8 ((wI (wI (wI C 4 f 1) 367 0 0) 367 22 0).1 446 (200 * bk j + i)) = b8 (S.1 185 (bk j * 200 + i)) := by
        intro j hj
        obtain ⟨z1, z2, z3⟩ := ub j hj
        refine ⟨(hu j hj).1, ?_, ?_, z1, fun i i0 i1 => ?_⟩
        · rw [oN _ _ (by decide)]
          exact o4 j (by omega) (by omega)
        · rw [oN _ _ (by decide), z2]
        · rw [oN _ _ (by decide), (z3 i i0 i1).2, b8_of (b8_rg _)]
      have nx : ∀ U, MO (wI (wI (wI C 4 f 1) 367 0 0) 367 22 0) U u (fun j i => b8 (S.1 185 (bk j * 200 + i))) n 0 → ∃ T', EV q 425 34 [some (.ref 367), some (vI a), some (vI s), some (vI n), none, none] [] U (some (vI f)) T' ∧ NW XR S T' f (sm u n) g1 := by
        intro U hU
        obtain ⟨u1, u2, u3, u4, -⟩ := hU
        have k2 := md_new (q := q) (T := U) (c := 375) (n1 := 12000) (fr := 0) (n := sm u n) hf cf (oT U u3) rfl (by decide) (by decide) (by decide) tot.1 (by omega) (by omega)
        refine ⟨_, vc_MD_restore_34 _ _ _ ?_, nw_of (X := XR) (S1 := S) (U := U) (f := f) (n := sm u n) (g := g1) (h := fun k => b8 ((wI (wI U 371 f 1) 370 f (sm u n)).1 375 (0 + k))) (EX.refl _ _) g.1 cf tot.1 (by omega) gO (fun a k z => by omega) ⟨?_, fun a k hn => ?_⟩ (fun k k0 kn => ?_)⟩
        · rw [ws, u3 451 _ (by omega) (by decide), oN _ _ (by decide), o3, show S.1 191 r = ((n : Nat) : Int) from e1.symm, u2, Int.add_zero]
          exact ⟨by omega, fun _ => ⟨f, _, k2, rfl, rfl⟩, fun n => absurd (Int.le_refl _) n⟩
        · rw [u1]
          exact p1
        · rw [u3 a k (by omega) (by omega), rI_I, if_neg (by omega), rI_I, if_neg (by omega), rI_I, rI_I]
          by_cases y : a = 4 ∧ k = f
          · rw [if_pos y, if_pos y]
          · rw [if_neg y, if_neg y, RW_at]
            by_cases y2 : a = sR f ∧ k = 1
            · rw [if_pos y2, y2.1, y2.2, p2, Int.zero_add]
            · rw [if_neg y2]
              by_cases y3 : a = sR f + 1 ∧ 0 ≤ k ∧ k < 0 + sm u n
              · rw [if_pos y3, y3.1, Int.sub_zero]
              · rw [if_neg y3, p3 a k y2 (fun z => y3 ⟨z.1, z.2.1, by omega⟩)]
        · obtain ⟨j, i, j1, i0, i1, ek⟩ := sm_at nn k0 kn
          have u4' : U.1 375 (sm u j + i) = b8 (S.1 185 (bk j * 200 + i)) := u4 j i j1 i0 i1
          show b8 ((wI (wI U 371 f 1) 370 f (sm u n)).1 375 (0 + k)) = b8 (C.1 (sR f + 1) k)
          rw [Int.zero_add, rI_I, if_neg (by omega), rI_I, if_neg (by omega), ek, u4', p4' j i j1 i0 i1, b8_of (b8_rg _)]
      obtain ⟨T, kT, hT⟩ := lp_mcopy (q := q) (S := wI (wI (wI C 4 f 1) 367 0 0) 367 22 0) (x1 := a) (s := s) (u := u) (bk := bk) (c := fun j i => b8 (S.1 185 (bk j * 200 + i))) (n := n) (rr := some (vI f)) (P := fun T => NW XR S T f (sm u n) g1) (by omega) (by rw [oN _ _ (by decide), o3]; exact e1.symm) e2 hbk tot.2 nx n 0 (wI (wI (wI C 4 f 1) 367 0 0) 367 22 0) (by omega) ⟨rfl, by rw [rI_I, if_pos ⟨rfl, rfl⟩]; rfl, fun _ _ _ _ => rfl, fun l i hl => absurd hl (by omega), fun i i0 i1 => absurd i1 (by omega)⟩
      refine ⟨f, _, f, T, vc_PH_restore a ⟨r, S, c1, fun _ => ⟨f, S, kfr, fun _ => ⟨by omega, sR f, 12000, by rw [wf]; exact st1, st2, _, cl, by omega, sR f, 12000, by rw [wf]; exact st1, st2, C, vc_Store_copyOut _ _ _ st2 kC, f, _, kst, rfl, rfl⟩, fun n => absurd (by omega) n⟩, fun n => absurd (by omega) n⟩, vc_MD_restore a (fun S1 e => ?_), rfl, Or.inr ⟨f, _, _, hf, cf, hT⟩⟩
      subst e
      refine ⟨s, _, c2 _ (o' _ _ (by decide) (by decide)) (fun i => o' _ _ (by decide) (by omega)), fun _ => ⟨f, _, fre, fun _ S8 e8 => ?_, fun n => absurd (by omega) n⟩, fun n => absurd (by omega) n⟩
      subst e8
      exact kT
    · rw [if_neg cf] at kfr
      have fre := md_free (q := q) (T := wI S 367 0 0) hf (fun k k1 k2 => by rw [r0a 371 k (by decide), (hS k k1 k2).2.1])
      rw [if_neg cf] at fre
      refine ⟨-4, S, -4, wI S 367 0 0, vc_PH_restore a ⟨r, S, c1, fun _ => ⟨0, S, kfr, fun n => absurd rfl n, fun _ => ⟨rfl, rfl⟩⟩, fun n => absurd (by omega) n⟩, vc_MD_restore a (fun S1 e => ?_), rfl, Or.inl x0⟩
      subst e
      exact ⟨s, _, c2 _ e129 e449, fun _ => ⟨-4, _, fre, fun n => absurd n (by decide), fun _ => ⟨rfl, rfl⟩⟩, fun n => absurd (by omega) n⟩
  · refine ⟨-1, S, -1, wI S 367 0 0, vc_PH_restore a ⟨-1, S, c1, fun n => absurd n (by decide), fun _ => ⟨rfl, rfl⟩⟩, vc_MD_restore a (fun S1 e => ?_), rfl, Or.inl x0⟩
    subst e
    exact ⟨-1, _, c2 _ e129 e449, fun n => absurd n (by decide), fun _ => ⟨rfl, rfl⟩⟩
end Restore
