/-! pack: own blocks; how the lengths are told -/
section PStp
variable {q : Nat × (Nat → Int32)}
/-- zeros at the end are left out, down to least -/
def trF (l : Int → Int) (least : Nat) : Nat → Nat
  | 0 => 0
  | n + 1 => if n + 1 ≤ least then n + 1 else if l n = 0 then trF l least n else n + 1
theorem trF_s (l : Int → Int) (least n : Nat) : trF l least (n + 1) = if n + 1 ≤ least then n + 1 else if l n = 0 then trF l least n else n + 1 := rfl
theorem trF_r (l : Int → Int) (least : Nat) : ∀ n : Nat, least ≤ n → least ≤ trF l least n ∧ trF l least n ≤ n
  | 0, h => ⟨h, Nat.le_refl _⟩
  | n + 1, h => by
    rw [trF_s]
    by_cases d : n + 1 ≤ least
    · rw [if_pos d]; omega
    · rw [if_neg d]
      by_cases z : l n = 0
      · rw [if_pos z]
        have := trF_r l least n (by omega)
        omega
      · rw [if_neg z]; omega
theorem cl_trf {A : ms} {cd least : Nat} {l : Int → Int} {x1 : Int} (hc : isCode cd) (hl : least ≤ 300) : ∀ n : Nat, n ≤ 288 → (∀ s : Nat, s < n → (0 ≤ l s ∧ l s ≤ 20) ∧ A.1 (cd + 1) s = l s) → EV q 74 2 [some (.ref cd), some (vI x1), some (vI least), some (vI n)] [] A (some (vI (trF l least n))) A := by
  have wl : Unit → w32 (least : Int) = least := fun _ => w32_of (by omega)
  intro n
  induction n with
  | zero =>
    intro _ h
    refine vc_Blocks_toldLengths_2 _ _ _ _ hc ?_
    rw [wl (), show w32 ((0 : Nat) : Int) = 0 by decide]
    exact cY (by omega) ⟨rfl, rfl⟩
  | succ n ih =>
    intro hn h
    obtain ⟨h1, h2⟩ := h n (by omega)
    refine vc_Blocks_toldLengths_2 _ _ _ _ hc ?_
    rw [wl (), w32_of (x := ((n + 1 : Nat) : Int)) (by omega), show ((n + 1 : Nat) : Int) - 1 = n by omega, show w32 (n : Int) = n from w32_of (by omega), h2, w32_of (x := l n) (by omega), trF_s]
    by_cases d : n + 1 ≤ least
    · rw [if_pos d]
      exact cY (by omega) ⟨rfl, rfl⟩
    · rw [if_neg d]
      refine cNo (by omega) ⟨by omega, ?_⟩
      by_cases z : l n = 0
      · rw [if_pos z]
        exact cNo (fun y => y z) (ih (by omega) (fun s hs => h s (by omega)))
      · rw [if_neg z]
        exact cY z ⟨rfl, rfl⟩
theorem md_trl {B : ms} {l : Int → Int} {x1 x2 x3 x4 : Int} {R : Option Value} {S' : ms} : ∀ n : Nat, n ≤ 288 → (∀ s : Nat, s < n → (0 ≤ l s ∧ l s ≤ 20) ∧ B.1 385 s = l s) → EV q 296 243 [some (.ref 367), some (vI x1), some (vI x2), some (vI x3), some (vI x4), some (vI (trF l 257 n)), none, none, none, none, none] [] B R S' → EV q 296 217 [some (.ref 367), some (vI x1), some (vI x2), some (vI x3), some (vI x4), some (vI n), none, none, none, none, none] [] B R S' := by
  intro n
  induction n with
  | zero => exact fun _ h k => vc_MD_writeOwn_217 _ _ _ _ _ (cY (by decide) k)
  | succ n ih =>
    intro hn h k
    obtain ⟨h1, h2⟩ := h n (by omega)
    refine vc_MD_writeOwn_217 _ _ _ _ _ ?_
    rw [trF_s] at k
    rw [w32_of (x := ((n + 1 : Nat) : Int)) (by omega), show ((n + 1 : Nat) : Int) - 1 = n by omega, show w32 (n : Int) = n from w32_of (by omega), h2, w32_of (x := l n) (by omega)]
    by_cases d : n + 1 ≤ 257
    · rw [if_pos d] at k
      exact cY (by omega) k
    · rw [if_neg d] at k
      refine cNo (by omega) ⟨by omega, ?_⟩
      by_cases z : l n = 0
      · rw [if_pos z] at k
        exact cNo (fun y => y z) (ih (by omega) (fun s hs => h s (by omega)) k)
      · rw [if_neg z] at k
        exact cY z k
theorem md_trd {B : ms} {l : Int → Int} {x1 x2 x3 x4 x5 : Int} {R : Option Value} {S' : ms} : ∀ n : Nat, n ≤ 30 → (∀ s : Nat, s < n → (0 ≤ l s ∧ l s ≤ 20) ∧ B.1 387 s = l s) → EV q 296 271 [some (.ref 367), some (vI x1), some (vI x2), some (vI x3), some (vI x4), some (vI x5), some (vI (trF l 1 n)), none, none, none, none] [] B R S' → EV q 296 247 [some (.ref 367), some (vI x1), some (vI x2), some (vI x3), some (vI x4), some (vI x5), some (vI n), none, none, none, none] [] B R S' := by
  intro n
  induction n with
  | zero => exact fun _ h k => vc_MD_writeOwn_247 _ _ _ _ _ _ (cY (by decide) k)
  | succ n ih =>
    intro hn h k
    obtain ⟨h1, h2⟩ := h n (by omega)
    refine vc_MD_writeOwn_247 _ _ _ _ _ _ ?_
    rw [trF_s] at k
    rw [w32_of (x := ((n + 1 : Nat) : Int)) (by omega), show ((n + 1 : Nat) : Int) - 1 = n by omega, show w32 (n : Int) = n from w32_of (by omega), h2, w32_of (x := l n) (by omega)]
    by_cases d : n + 1 ≤ 1
    · rw [if_pos d] at k
      exact cY (by omega) k
    · rw [if_neg d] at k
      refine cNo (by omega) ⟨by omega, ?_⟩
      by_cases z : l n = 0
      · rw [if_pos z] at k
        exact cNo (fun y => y z) (ih (by omega) (fun s hs => h s (by omega)) k)
      · rw [if_neg z] at k
        exact cY z k
/-- how many lengths from p on are the same -/
def rnF (al : Int → Int) (m p : Int) : Nat → Int → Int
  | 0, r => r
  | f + 1, r => if p + r < m ∧ al (p + r) = al p then rnF al m p f (r + 1) else r
theorem rnF_s (al : Int → Int) (m p : Int) (f : Nat) (r : Int) : rnF al m p (f + 1) r = if p + r < m ∧ al (p + r) = al p then rnF al m p f (r + 1) else r := rfl
theorem rnF_r (al : Int → Int) (m p : Int) : ∀ (f : Nat) (r : Int), r ≤ rnF al m p f r ∧ rnF al m p f r ≤ r + f ∧ (p + r ≤ m → p + rnF al m p f r ≤ m)
  | 0, r => ⟨Int.le_refl _, by show r ≤ r + ((0 : Nat) : Int); omega, fun h => h⟩
  | f + 1, r => by
    rw [rnF_s]
    by_cases d : p + r < m ∧ al (p + r) = al p
    · rw [if_pos d]
      have := rnF_r al m p f (r + 1)
      exact ⟨by omega, by omega, fun _ => this.2.2 (by omega)⟩
    · rw [if_neg d]
      exact ⟨by omega, by omega, fun h => h⟩
/-- a step: its symbol, what more, how many lengths -/
def stT (al : Int → Int) (m p : Int) : Int × Int × Int :=
  if al p = 0 ∧ 11 ≤ rnF al m p 137 1 then (18, rnF al m p 137 1 - 11, rnF al m p 137 1)
  else if al p = 0 ∧ 3 ≤ rnF al m p 137 1 then (17, rnF al m p 137 1 - 3, rnF al m p 137 1)
  else if al p ≠ 0 ∧ (0 < p ∧ al (p - 1) = al p) ∧ 3 ≤ rnF al m p 137 1 then (16, min (rnF al m p 137 1) 6 - 3, min (rnF al m p 137 1) 6)
  else (al p, 0, 1)
theorem stT_r {al : Int → Int} {m p : Int} (ha : 0 ≤ al p ∧ al p ≤ 15) (hp : p < m) : (0 ≤ (stT al m p).1 ∧ (stT al m p).1 ≤ 18) ∧ (0 ≤ (stT al m p).2.1 ∧ (stT al m p).2.1 < 128) ∧ (1 ≤ (stT al m p).2.2 ∧ p + (stT al m p).2.2 ≤ m) := by
  have h := rnF_r al m p 137 1
  have h3 := h.2.2 (by omega)
  unfold stT
  obtain ⟨r, er⟩ : ∃ r, r = rnF al m p 137 1 := ⟨_, rfl⟩
  rw [← er] at h h3 ⊢
  split
  · exact ⟨by show (0 : Int) ≤ 18 ∧ (18 : Int) ≤ 18; decide, by show 0 ≤ r - 11 ∧ r - 11 < 128; omega, by show 1 ≤ r ∧ p + r ≤ m; omega⟩
  · split
    · rename_i n1 n2
      exact ⟨by show (0 : Int) ≤ 17 ∧ (17 : Int) ≤ 18; decide, by show 0 ≤ r - 3 ∧ r - 3 < 128; have := n2.1; omega, by show 1 ≤ r ∧ p + r ≤ m; omega⟩
    · split
      · exact ⟨by show (0 : Int) ≤ 16 ∧ (16 : Int) ≤ 18; decide, by show 0 ≤ min r 6 - 3 ∧ min r 6 - 3 < 128; omega, by show 1 ≤ min r 6 ∧ p + min r 6 ≤ m; omega⟩
      · exact ⟨by show 0 ≤ al p ∧ al p ≤ 18; omega, by show (0 : Int) ≤ 0 ∧ (0 : Int) < 128; decide, by show (1 : Int) ≤ 1 ∧ p + 1 ≤ m; omega⟩
/-- the counts of the steps' symbols -/
def stC (f : Nat → Int) : Nat → Int → Int
  | 0, _ => 0
  | j + 1, s => stC f j s + if s = f j then 1 else 0
theorem stC_s (f : Nat → Int) (j : Nat) (s : Int) : stC f (j + 1) s = stC f j s + if s = f j then 1 else 0 := rfl
theorem stC_r (f : Nat → Int) (s : Int) : ∀ j : Nat, 0 ≤ stC f j s ∧ stC f j s ≤ j
  | 0 => ⟨Int.le_refl _, Int.le_refl _⟩
  | j + 1 => by
    have := stC_r f s j
    rw [stC_s]
    split <;> omega
theorem cl_rn {A : ms} {al : Int → Int} {m p x3 : Int} (hm : 0 ≤ p ∧ p < m ∧ m ≤ 316) (hal : ∀ k : Int, 0 ≤ k → k < m → (0 ≤ al k ∧ al k ≤ 15) ∧ A.1 89 k = al k) {R : Option Value} {S' : ms} : ∀ (f : Nat) (r : Int), r + f = 138 → 1 ≤ r → EV q 75 74 [some (.ref 30), some (vI m), some (vI p), some (vI x3), some (vI (al p)), some (vI (rnF al m p f r))] [] A R S' → EV q 75 38 [some (.ref 30), some (vI m), some (vI p), some (vI x3), some (vI (al p)), some (vI r)] [] A R S' := by
  have hp := hal p hm.1 hm.2.1
  intro f
  induction f with
  | zero =>
    intro r hr h1 k
    refine vc_Blocks_makeSteps_38 _ _ _ _ _ ?_
    rw [w32_of (x := r) (by omega)]
    exact cY (by omega) k
  | succ f ih =>
    intro r hr h1 k
    refine vc_Blocks_makeSteps_38 _ _ _ _ _ ?_
    rw [rnF_s] at k
    rw [w32_of (x := r) (by omega), w32_of (x := m) (by omega), w32_of (x := p + r) (by omega), w32_of (x := al p) (by omega)]
    refine cNo (by omega) ?_
    by_cases d : m ≤ p + r
    · rw [if_neg (by omega)] at k
      exact cY d k
    · have hq := hal (p + r) (by omega) (by omega)
      rw [hq.2, w32_of (x := al (p + r)) (by omega)]
      refine cNo d ⟨by omega, ?_⟩
      by_cases e : al (p + r) = al p
      · rw [if_pos ⟨by omega, e⟩] at k
        exact cNo (fun y => y e) (ih (r + 1) (by omega) (by omega) k)
      · rw [if_neg (fun y => e y.2)] at k
        exact cY e k
theorem md_rn {B : ms} {al : Int → Int} {m p : Int} (hm : 0 ≤ p ∧ p < m ∧ m ≤ 316) (hal : ∀ k : Int, 0 ≤ k → k < m → (0 ≤ al k ∧ al k ≤ 15) ∧ B.1 401 k = al k) {R : Option Value} {S' : ms} : ∀ (f : Nat) (r : Int), r + f = 138 → 1 ≤ r → EV q 302 78 [some (.ref 367), some (vI m), some (vI p), some (vI (al p)), some (vI (rnF al m p f r)), none] [] B R S' → EV q 302 43 [some (.ref 367), some (vI m), some (vI p), some (vI (al p)), some (vI r), none] [] B R S' := by
  have hp := hal p hm.1 hm.2.1
  intro f
  induction f with
  | zero =>
    intro r hr h1 k
    refine vc_MD_tellLengths_43 _ _ _ _ ?_
    have k' : EV q 302 78 [some (.ref 367), some (vI m), some (vI p), some (vI (al p)), some (vI r), none] [] B R S' := k
    rw [w32_of (x := r) (by omega)]
    by_cases d : w32 m ≤ w32 (p + r)
    · exact cY d k'
    · exact cNo d (cY (by omega) k')
  | succ f ih =>
    intro r hr h1 k
    refine vc_MD_tellLengths_43 _ _ _ _ ?_
    rw [rnF_s] at k
    rw [w32_of (x := r) (by omega), w32_of (x := m) (by omega), w32_of (x := p + r) (by omega), w32_of (x := al p) (by omega)]
    by_cases d : m ≤ p + r
    · rw [if_neg (by omega)] at k
      exact cY d k
    · have hq := hal (p + r) (by omega) (by omega)
      rw [hq.2, w32_of (x := al (p + r)) (by omega)]
      refine cNo d (cNo (by omega) ⟨by omega, ?_⟩)
      by_cases e : al (p + r) = al p
      · rw [if_pos ⟨by omega, e⟩] at k
        exact cNo (fun y => y e) (ih (r + 1) (by omega) (by omega) k)
      · rw [if_neg (fun y => e y.2)] at k
        exact cY e k
def adP (A : ms) (j : Nat) (s mo : Int) : ms := wI (wI (wI (wI A 90 j s) 91 j mo) 88 s (A.1 88 s + 1)) 30 12 ((j : Int) + 1)
def adQ (B : ms) (j : Nat) (s mo : Int) : ms := wI (wI (wI (wI B 402 j s) 403 j mo) 367 55 ((j : Int) + 1)) 400 s (B.1 400 s + 1)
theorem cl_add {A : ms} {j : Nat} {s mo : Int} (hj : j < 316) (h12 : A.1 30 12 = j) (hs : 0 ≤ s ∧ s ≤ 18) : EV q 76 0 [some (.ref 30), some (vI s), some (vI mo)] [] A none (adP A j s mo) := by
  have wj : Unit → w32 (j : Int) = j := fun _ => w32_of (by omega)
  refine vc_Blocks_addStep _ _ ?_
  rw [h12, wj (), show w32 ((316 : Nat) : Int) = 316 by decide]
  refine cNo (by omega) ⟨by omega, fun S2 q2 => ?_⟩
  have e2 : S2.1 30 12 = j := by rw [q2, wI_no _ (by omega)]; exact h12
  rw [e2, wj ()]
  refine ⟨by omega, fun S4 q4 => ?_⟩
  rw [w32_of (x := s) (by omega)]
  refine ⟨by omega, by omega, fun S7 q7 S8 q8 => ⟨rfl, ?_⟩⟩
  have e7 : S7.1 30 12 = j := by rw [q7, wI_no _ (by omega), q4, wI_no _ (by omega)]; exact e2
  have e8 : S4.1 88 s = A.1 88 s := by rw [q4, wI_no _ (by omega), q2, wI_no _ (by omega)]
  rw [e7] at q8
  rw [q8, q7, e8, q4, q2]
  rfl
theorem md_add {B : ms} {j : Nat} {s mo : Int} (hj : j < 316) (h12 : B.1 367 55 = j) (hs : 0 ≤ s ∧ s ≤ 18) : EV q 303 0 [some (.ref 367), some (vI s), some (vI mo)] [] B none (adQ B j s mo) := by
  have wj : Unit → w32 (j : Int) = j := fun _ => w32_of (by omega)
  refine vc_MD_tell _ _ ?_
  rw [h12, wj ()]
  refine ⟨by omega, fun S2 q2 => ?_⟩
  have e2 : S2.1 367 55 = j := by rw [q2, wI_no _ (by omega)]; exact h12
  rw [e2, wj ()]
  refine ⟨by omega, fun S4 q4 S5 q5 => ?_⟩
  have e4 : S4.1 367 55 = j := by rw [q4, wI_no _ (by omega)]; exact e2
  rw [e4] at q5
  rw [w32_of (x := s) (by omega)]
  refine ⟨by omega, by omega, fun S8 q8 => ⟨rfl, ?_⟩⟩
  have e8 : S5.1 400 s = B.1 400 s := by rw [q5, wI_no _ (by omega), q4, wI_no _ (by omega), q2, wI_no _ (by omega)]
  rw [q8, e8, q5, q4, q2]
  rfl
theorem cl_one {A : ms} {al : Int → Int} {m p : Int} {j : Nat} (hm : 0 ≤ p ∧ p < m ∧ m ≤ 316) (hj : (j : Int) ≤ p) (hal : ∀ k : Int, 0 ≤ k → k < m → (0 ≤ al k ∧ al k ≤ 15) ∧ A.1 89 k = al k) (h12 : A.1 30 12 = j) {R : Option Value} {S' : ms} (k : EV q 75 17 [some (.ref 30), some (vI m), some (vI (p + (stT al m p).2.2)), some (vI ((j : Int) + 1)), none, none] [] (adP A j (stT al m p).1 (stT al m p).2.1) R S') : EV q 75 17 [some (.ref 30), some (vI m), some (vI p), some (vI j), none, none] [] A R S' := by
  have hp := hal p hm.1 hm.2.1
  have sr := stT_r hp.1 hm.2.1
  have ad := cl_add (q := q) (A := A) (j := j) (s := (stT al m p).1) (mo := (stT al m p).2.1) (by omega) h12 sr.1
  have rr := rnF_r al m p 137 1
  refine vc_Blocks_makeSteps_17 _ _ _ ?_
  rw [w32_of (x := m) (by omega), show w32 (j : Int) = j from w32_of (by omega), w32_of (x := p) (by omega), hp.2]
  refine cNo (by omega) (cNo (by omega) ⟨by omega, cl_rn hm hal 137 1 (by decide) (by decide) ?_⟩)
  have w0 := w32_of (x := al p) (by omega)
  unfold stT at ad k
  obtain ⟨r, er⟩ : ∃ r, r = rnF al m p 137 1 := ⟨_, rfl⟩
  rw [← er] at ad k rr ⊢
  have wr := w32_of (x := r) (by omega)
  by_cases c1 : al p = 0 ∧ 11 ≤ r
  · rw [if_pos c1] at ad k
    refine vc_Blocks_makeSteps_74 _ _ _ _ _ ?_
    rw [w0, wr]
    exact cNo (fun y => y c1.1) (cNo (by omega) ⟨_, ad, vc_Blocks_makeSteps_184 _ _ _ _ _ k⟩)
  · rw [if_neg c1] at ad k
    have k100 : EV q 75 100 [some (.ref 30), some (vI m), some (vI p), some (vI j), some (vI (al p)), some (vI r)] [] A R S' → EV q 75 74 [some (.ref 30), some (vI m), some (vI p), some (vI j), some (vI (al p)), some (vI r)] [] A R S' := fun kk => by
      refine vc_Blocks_makeSteps_74 _ _ _ _ _ ?_
      rw [w0, wr]
      by_cases z : al p = 0
      · exact cNo (fun y => y z) (cY (by omega) kk)
      · exact cY z kk
    refine k100 ?_
    by_cases c2 : al p = 0 ∧ 3 ≤ r
    · rw [if_pos c2] at ad k
      refine vc_Blocks_makeSteps_100 _ _ _ _ _ ?_
      rw [w0, wr]
      exact cNo (fun y => y c2.1) (cNo (by omega) ⟨_, ad, vc_Blocks_makeSteps_184 _ _ _ _ _ k⟩)
    · rw [if_neg c2] at ad k
      have k124 : EV q 75 124 [some (.ref 30), some (vI m), some (vI p), some (vI j), some (vI (al p)), some (vI r)] [] A R S' → EV q 75 100 [some (.ref 30), some (vI m), some (vI p), some (vI j), some (vI (al p)), some (vI r)] [] A R S' := fun kk => by
        refine vc_Blocks_makeSteps_100 _ _ _ _ _ ?_
        rw [w0, wr]
        by_cases z : al p = 0
        · exact cNo (fun y => y z) (cY (by omega) kk)
        · exact cY z kk
      refine k124 (vc_Blocks_makeSteps_124 _ _ _ _ _ ?_)
      rw [w0, wr, w32_of (x := p) (by omega), show w32 6 = 6 by decide]
      by_cases c3 : al p ≠ 0 ∧ (0 < p ∧ al (p - 1) = al p) ∧ 3 ≤ r
      · rw [if_pos c3] at ad k
        have hq := hal (p - 1) (by omega) (by omega)
        rw [w32_of (x := p - 1) (by omega), hq.2, w32_of (x := al (p - 1)) (by omega)]
        exact cNo (by omega) (cNo (by omega) (cNo (by omega) ⟨by omega, cNo (fun y => y c3.2.1.2) ⟨_, ad, vc_Blocks_makeSteps_184 _ _ _ _ _ k⟩⟩))
      · rw [if_neg c3] at ad k
        have k174 : EV q 75 174 [some (.ref 30), some (vI m), some (vI p), some (vI j), some (vI (al p)), some (vI r)] [] A R S' := vc_Blocks_makeSteps_174 _ _ _ _ _ ⟨_, ad, vc_Blocks_makeSteps_184 _ _ _ _ _ k⟩
        by_cases z : al p ≤ 0
        · exact cY z k174
        · refine cNo z ?_
          by_cases z2 : r < 3
          · exact cY z2 k174
          · refine cNo z2 ?_
            by_cases z3 : p ≤ 0
            · exact cY z3 k174
            · have hq := hal (p - 1) (by omega) (by omega)
              rw [w32_of (x := p - 1) (by omega), hq.2, w32_of (x := al (p - 1)) (by omega)]
              exact cNo z3 ⟨by omega, cY (fun y => c3 ⟨by omega, ⟨by omega, y⟩, by omega⟩) k174⟩
theorem md_one {B : ms} {al : Int → Int} {m p : Int} {j : Nat} (hm : 0 ≤ p ∧ p < m ∧ m ≤ 316) (hj : (j : Int) ≤ p) (hal : ∀ k : Int, 0 ≤ k → k < m → (0 ≤ al k ∧ al k ≤ 15) ∧ B.1 401 k = al k) (h12 : B.1 367 55 = j) {R : Option Value} {S' : ms} (k : EV q 302 28 [some (.ref 367), some (vI m), some (vI (p + (stT al m p).2.2)), none, none, none] [] (adQ B j (stT al m p).1 (stT al m p).2.1) R S') : EV q 302 28 [some (.ref 367), some (vI m), some (vI p), none, none, none] [] B R S' := by
  have hp := hal p hm.1 hm.2.1
  have sr := stT_r hp.1 hm.2.1
  have ad := md_add (q := q) (B := B) (j := j) (s := (stT al m p).1) (mo := (stT al m p).2.1) (by omega) h12 sr.1
  have rr := rnF_r al m p 137 1
  refine vc_MD_tellLengths_28 _ _ ?_
  rw [w32_of (x := m) (by omega), w32_of (x := p) (by omega), hp.2]
  refine cNo (by omega) ⟨by omega, md_rn hm hal 137 1 (by decide) (by decide) ?_⟩
  have w0 := w32_of (x := al p) (by omega)
  unfold stT at ad k
  obtain ⟨r, er⟩ : ∃ r, r = rnF al m p 137 1 := ⟨_, rfl⟩
  rw [← er] at ad k rr ⊢
  have wr := w32_of (x := r) (by omega)
  -- is the one before like it
  obtain ⟨y0, ey⟩ : ∃ y0 : Int, y0 = if 0 < p ∧ al (p - 1) = al p then 1 else 0 := ⟨_, rfl⟩
  have wy : w32 y0 = y0 := w32_of (by rw [ey]; split <;> omega)
  have k99 : EV q 302 99 [some (.ref 367), some (vI m), some (vI p), some (vI (al p)), some (vI r), none] [vI y0] B R S' → EV q 302 78 [some (.ref 367), some (vI m), some (vI p), some (vI (al p)), some (vI r), none] [] B R S' := fun kk => by
    refine vc_MD_tellLengths_78 _ _ _ _ ?_
    rw [w0, w32_of (x := p) (by omega)]
    by_cases z : p ≤ 0
    · rw [ey, if_neg (by omega)] at kk
      exact cY z (vc_MD_tellLengths_98 _ _ _ _ kk)
    · have hq := hal (p - 1) (by omega) (by omega)
      rw [w32_of (x := p - 1) (by omega), hq.2, w32_of (x := al (p - 1)) (by omega)]
      refine cNo z ⟨by omega, ?_⟩
      by_cases e : al (p - 1) = al p
      · rw [ey, if_pos ⟨by omega, e⟩] at kk
        exact cNo (fun y => y e) kk
      · rw [ey, if_neg (fun y => e y.2)] at kk
        exact cY e (vc_MD_tellLengths_98 _ _ _ _ kk)
  refine k99 (vc_MD_tellLengths_99 _ _ _ _ _ ?_)
  rw [w0, wr]
  by_cases c1 : al p = 0 ∧ 11 ≤ r
  · rw [if_pos c1] at ad k
    exact cNo (fun y => y c1.1) (cNo (by omega) ⟨_, ad, vc_MD_tellLengths_202 _ _ _ _ _ k⟩)
  · rw [if_neg c1] at ad k
    have pas : ∀ {X Y : Prop}, X → (¬ al p = 0 → X) ∧ (¬ ¬ al p = 0 → (r < 11 → X) ∧ (¬ r < 11 → Y)) := fun {X Y} hX => ⟨fun _ => hX, fun z => ⟨fun _ => hX, fun y => absurd ⟨Classical.not_not.1 z, by omega⟩ c1⟩⟩
    refine pas (vc_MD_tellLengths_126 _ _ _ _ _ ?_)
    rw [w0, wr]
    by_cases c2 : al p = 0 ∧ 3 ≤ r
    · rw [if_pos c2] at ad k
      exact cNo (fun y => y c2.1) (cNo (by omega) ⟨_, ad, vc_MD_tellLengths_202 _ _ _ _ _ k⟩)
    · rw [if_neg c2] at ad k
      have pas2 : ∀ {X Y : Prop}, X → (¬ al p = 0 → X) ∧ (¬ ¬ al p = 0 → (r < 3 → X) ∧ (¬ r < 3 → Y)) := fun {X Y} hX => ⟨fun _ => hX, fun z => ⟨fun _ => hX, fun y => absurd ⟨Classical.not_not.1 z, by omega⟩ c2⟩⟩
      refine pas2 (vc_MD_tellLengths_149 _ _ _ _ _ ?_)
      rw [w0, wr, wy]
      by_cases c3 : al p ≠ 0 ∧ (0 < p ∧ al (p - 1) = al p) ∧ 3 ≤ r
      · rw [if_pos c3] at ad k
        refine cNo c3.1 (cNo (by rw [ey, if_pos c3.2.1]; decide) (cNo (by omega) ?_))
        by_cases d6 : r ≤ 6
        · rw [show min r 6 = r by omega] at ad k
          exact cY d6 (vc_MD_tellLengths_178 _ _ _ _ _ _ ⟨_, ad, vc_MD_tellLengths_202 _ _ _ _ _ k⟩)
        · rw [show min r 6 = 6 by omega] at ad k
          exact cNo d6 (vc_MD_tellLengths_178 _ _ _ _ _ _ ⟨_, ad, vc_MD_tellLengths_202 _ _ _ _ _ k⟩)
      · rw [if_neg c3] at ad k
        have k193 : EV q 302 193 [some (.ref 367), some (vI m), some (vI p), some (vI (al p)), some (vI r), some (vI y0)] [] B R S' := vc_MD_tellLengths_193 _ _ _ _ _ ⟨_, ad, vc_MD_tellLengths_202 _ _ _ _ _ k⟩
        by_cases z : al p = 0
        · exact cY z k193
        · refine cNo z ?_
          by_cases z2 : y0 = 0
          · exact cY z2 k193
          · refine cNo z2 (cY ?_ k193)
            rw [ey] at z2
            by_cases z3 : 0 < p ∧ al (p - 1) = al p
            · by_cases z4 : r < 3
              · exact z4
              · exact absurd ⟨z, z3, by omega⟩ c3
            · rw [if_neg z3] at z2
              exact absurd rfl z2
end PStp
