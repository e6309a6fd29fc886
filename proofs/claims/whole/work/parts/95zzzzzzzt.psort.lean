/-! pack: SORTED; runs -/
section PRuns
variable {q : Nat × (Nat → Int32)} {x : Int} {t : Int → Int}
abbrev Rst := Nat × (Nat → Int)
theorem b8_i (x : Int) : b8 (b8 x) = b8 x := by unfold b8; omega
def rPut (v : Int) (s : Rst) : Rst := (s.1 + 1, fun i => if i = s.1 then v else s.2 i)
def rRep (c : Int) : Nat → Rst → Rst
  | 0, s => s
  | k + 1, s => rRep c k (rPut c s)
theorem rRep_s (c : Int) (k : Nat) (s : Rst) : rRep c (k + 1) s = rRep c k (rPut c s) := rfl
def rRun (c l : Int) (s : Rst) : Rst := if 4 ≤ l then rPut (l - 4) (rRep c (min l 4).toNat s) else rRep c (min l 4).toNat s
def rAll (t : Int → Int) (P : Nat → Int) (L : Int → Int) : Nat → Rst
  | 0 => (0, fun _ => 0)
  | j + 1 => rRun (t (P j)) (L (P j)) (rAll t P L j)
theorem rAll_s (t : Int → Int) (P : Nat → Int) (L : Int → Int) (j : Nat) : rAll t P L (j + 1) = rRun (t (P j)) (L (P j)) (rAll t P L j) := rfl
def rOk (s : Rst) : Prop := ∀ i : Nat, i < s.1 → 0 ≤ s.2 i ∧ s.2 i < 256
theorem rPut_o {v : Int} {s : Rst} (h : rOk s) (hv : 0 ≤ v ∧ v < 256) : rOk (rPut v s) := fun i hi => by
  have hi' : i < s.1 + 1 := hi
  show 0 ≤ (if i = s.1 then v else s.2 i) ∧ (if i = s.1 then v else s.2 i) < 256
  by_cases e : i = s.1
  · rw [if_pos e]; exact hv
  · rw [if_neg e]; exact h i (by omega)
theorem rRep_o {c : Int} (hc : 0 ≤ c ∧ c < 256) : ∀ (k : Nat) (s : Rst), rOk s → rOk (rRep c k s) ∧ (rRep c k s).1 = s.1 + k
  | 0, s, h => ⟨h, rfl⟩
  | k + 1, s, h => by
    have := rRep_o hc k (rPut c s) (rPut_o h hc)
    rw [rRep_s]
    refine ⟨this.1, ?_⟩
    rw [this.2]
    show s.1 + 1 + k = s.1 + (k + 1)
    omega
theorem rRun_o {c l : Int} {s : Rst} (hc : 0 ≤ c ∧ c < 256) (hl : 1 ≤ l ∧ l ≤ 259) (h : rOk s) : rOk (rRun c l s) ∧ s.1 < (rRun c l s).1 ∧ 4 * (rRun c l s).1 ≤ 4 * (s.1 : Int) + 5 * l := by
  have r := rRep_o hc (min l 4).toNat s h
  unfold rRun
  by_cases d : 4 ≤ l
  · rw [if_pos d]
    have e : (rPut (l - 4) (rRep c (min l 4).toNat s)).1 = (rRep c (min l 4).toNat s).1 + 1 := rfl
    refine ⟨rPut_o r.1 (by omega), ?_, ?_⟩
    · rw [e, r.2]; omega
    · rw [e, r.2]; omega
  · rw [if_neg d]
    exact ⟨r.1, by rw [r.2]; omega, by rw [r.2]; omega⟩
def CRs (A : ms) (s : Rst) : Prop := A.1 94 1 = s.1 ∧ ∀ i : Nat, i < s.1 → A.1 95 i = s.2 i
def MRs (B : ms) (s : Rst) : Prop := B.1 367 66 = s.1 ∧ ∀ i : Nat, i < s.1 → B.1 406 i = b8 (s.2 i)
def XRa (a : Nat) (k : Int) : Prop := a = 95 ∨ (a = 94 ∧ k = 1)
def XRm (a : Nat) (k : Int) : Prop := a = 406 ∨ (a = 367 ∧ k = 66)
theorem CRs_p {A : ms} {s : Rst} {v : Int} (h : CRs A s) : CRs (wI (wI A 95 s.1 v) 94 1 ((s.1 : Int) + 1)) (rPut v s) := by
  refine ⟨by rw [wI_at]; show (s.1 : Int) + 1 = ((s.1 + 1 : Nat) : Int); omega, fun i hi => ?_⟩
  have hi' : i < s.1 + 1 := hi
  show _ = (if i = s.1 then v else s.2 i)
  rw [wI_no _ (by omega)]
  by_cases e : i = s.1
  · rw [if_pos e, e, wI_at]
  · rw [if_neg e, wI_no _ (by omega)]
    exact h.2 i (by omega)
theorem MRs_p {B : ms} {s : Rst} {v : Int} (h : MRs B s) : MRs (wI (wI B 406 s.1 (b8 v)) 367 66 ((s.1 : Int) + 1)) (rPut v s) := by
  refine ⟨by rw [wI_at]; show (s.1 : Int) + 1 = ((s.1 + 1 : Nat) : Int); omega, fun i hi => ?_⟩
  have hi' : i < s.1 + 1 := hi
  show _ = b8 (if i = s.1 then v else s.2 i)
  rw [wI_no _ (by omega)]
  by_cases e : i = s.1
  · rw [if_pos e, e, wI_at]
  · rw [if_neg e, wI_no _ (by omega)]
    exact h.2 i (by omega)
/-- the length of the run at p -/
def ruL (t : Int → Int) (e p : Int) : Int := rnF t e p 258 1
theorem ruL_r (t : Int → Int) {e p : Int} (h : p < e) : 1 ≤ ruL t e p ∧ ruL t e p ≤ 259 ∧ p + ruL t e p ≤ e := by
  have := rnF_r t e p 258 1
  have h3 := this.2.2 (by omega)
  unfold ruL
  omega
theorem cl_rlen {A : ms} {a1 : Nat} {fr e p x5 : Int} (hx : 0 ≤ x ∧ x ≤ 6000) (hp : 0 ≤ p ∧ p < e ∧ e ≤ x) (hA : TXr A a1 x t) {R : Option Value} {S' : ms} : ∀ (f : Nat) (r : Int), r + f = 259 → 1 ≤ r → EV q 93 69 [some (.ref 94), some (.ref a1), some (vI fr), some (vI e), some (vI p), some (vI x5), some (vI (rnF t e p f r)), none] [] A R S' → EV q 93 26 [some (.ref 94), some (.ref a1), some (vI fr), some (vI e), some (vI p), some (vI x5), some (vI r), none] [] A R S' := by
  have tp := hA.2.2 p hp.1 (by omega)
  intro f
  induction f with
  | zero =>
    intro r hr h1 k
    refine vc_Sorted_makeRuns_26 _ _ _ _ _ _ _ hA.1.1 ?_
    rw [w32_of (x := r) (by omega)]
    exact cY (by omega) k
  | succ f ih =>
    intro r hr h1 k
    refine vc_Sorted_makeRuns_26 _ _ _ _ _ _ _ hA.1.1 ?_
    rw [rnF_s] at k
    rw [w32_of (x := r) (by omega), w32_of (x := e) (by omega), w32_of (x := p + r) (by omega), w32_of (x := p) (by omega), tp.2, w32_of (x := t p) (by omega)]
    refine cNo (by omega) ?_
    by_cases d : e ≤ p + r
    · rw [if_neg (by omega)] at k
      exact cY d k
    · have tq := hA.2.2 (p + r) (by omega) (by omega)
      rw [tq.2, w32_of (x := t (p + r)) (by omega)]
      refine cNo d ⟨by omega, by omega, ?_⟩
      by_cases c : t (p + r) = t p
      · rw [if_pos ⟨by omega, c⟩] at k
        exact cNN c (ih (r + 1) (by omega) (by omega) k)
      · rw [if_neg (fun y => c y.2)] at k
        exact cY c k
theorem md_rlen {B : ms} {e p : Int} (hx : 0 ≤ x ∧ x ≤ 6000) (hp : 0 ≤ p ∧ p < e ∧ e ≤ x) (hB : TXm B x t) : ∀ (f : Nat) (r : Int), r + f = 259 → 1 ≤ r → EV q 281 3 [some (.ref 368), some (vI p), some (vI e), some (vI 259), some (vI r)] [] B (some (vI (rnF t e p f r))) B := by
  have tp := hB.2 p hp.1 (by omega)
  intro f
  induction f with
  | zero =>
    intro r hr h1
    refine vc_MD_alike_3 _ _ _ _ 368 6000 rfl ?_
    rw [show w32 259 = 259 by decide, w32_of (x := r) (by omega)]
    by_cases d : w32 e ≤ w32 (p + r)
    · exact cY d ⟨rfl, rfl⟩
    · exact cNo d (cY (by omega) ⟨rfl, rfl⟩)
  | succ f ih =>
    intro r hr h1
    refine vc_MD_alike_3 _ _ _ _ 368 6000 rfl ?_
    rw [rnF_s, show w32 259 = 259 by decide, w32_of (x := r) (by omega), w32_of (x := e) (by omega), w32_of (x := p + r) (by omega), w32_of (x := p) (by omega), tp.2]
    by_cases d : e ≤ p + r
    · rw [if_neg (by omega)]
      exact cY d ⟨rfl, rfl⟩
    · have tq := hB.2 (p + r) (by omega) (by omega)
      rw [tq.2]
      refine cNo d (cNo (by omega) ⟨by omega, by omega, ?_⟩)
      have b8r : ∀ z : Int, 0 ≤ z ∧ z < 256 → w32 (b8 z) = b8 z := fun z hz => w32_of (by have := b8_rg z; omega)
      rw [b8r _ tp.1, b8r _ tq.1]
      by_cases c : t (p + r) = t p
      · rw [if_pos ⟨by omega, c⟩]
        exact cNN (by rw [c]) (ih (r + 1) (by omega) (by omega))
      · rw [if_neg (fun y => c y.2)]
        refine cY (fun y => c ?_) ⟨rfl, rfl⟩
        have e1 := oct_eq tp.1 rfl
        have e2 := oct_eq tq.1 rfl
        rw [← e1, ← e2, y]
theorem cl_rrep {a1 : Nat} {fr e p x5 l c : Int} (ha : isRow a1 6000) (hp : 0 ≤ p ∧ p < 6000) (hl : 1 ≤ l ∧ l ≤ 259) : ∀ (v k : Nat) (s : Rst) (A : ms), (k : Int) + v = min l 4 → s.1 + v ≤ 2500 → (a1 = 1 ∨ 193 ≤ a1) → A.1 (a1 + 1) p = c → CRs A s → ∃ A', EX XRa A A' ∧ CRs A' (rRep c v s) ∧ ∀ (R : Option Value) (S' : ms), EV q 93 117 [some (.ref 94), some (.ref a1), some (vI fr), some (vI e), some (vI p), some (vI x5), some (vI l), some (vI (min l 4))] [] A' R S' → EV q 93 72 [some (.ref 94), some (.ref a1), some (vI fr), some (vI e), some (vI p), some (vI x5), some (vI l), some (vI k)] [] A R S' := by
  intro v
  induction v with
  | zero =>
    intro k s A hk hs ha1 hc h
    refine ⟨A, EX.refl _ A, h, fun R S' kk => vc_Sorted_makeRuns_72 _ _ _ _ _ _ _ _ ha ?_⟩
    have ek : (k : Int) = min l 4 := by omega
    rw [ek, w32_of (x := l) (by omega), w32_of (x := min l 4) (by omega)]
    by_cases d : l ≤ min l 4
    · exact cY d kk
    · exact cNo d (cY (by omega) kk)
  | succ v ih =>
    intro k s A hk hs ha1 hc h
    obtain ⟨A1, e1⟩ : ∃ A1, A1 = wI (wI A 95 s.1 c) 94 1 ((s.1 : Int) + 1) := ⟨_, rfl⟩
    have h1 := CRs_p (v := c) h
    rw [← e1] at h1
    have hs1 : (rPut c s).1 = s.1 + 1 := rfl
    obtain ⟨A', g1, g2, g3⟩ := ih (k + 1) (rPut c s) A1 (by omega) (by omega) ha1 (by rw [e1, wI_no _ (by omega), wI_no _ (by omega)]; exact hc) h1
    refine ⟨A', EX.trans (by rw [e1]; exact ((EX.refl _ A).wr (Or.inl rfl)).wr (Or.inr ⟨rfl, rfl⟩)) g1, g2, fun R S' kk => vc_Sorted_makeRuns_72 _ _ _ _ _ _ _ _ ha ?_⟩
    have g4 := g3 R S' kk
    rw [show ((k + 1 : Nat) : Int) = (k : Int) + 1 by omega] at g4
    rw [w32_of (x := l) (by omega), show w32 (k : Int) = k from w32_of (by omega), w32_of (x := p) (by omega), hc, h.1, show w32 (s.1 : Int) = s.1 from w32_of (by omega)]
    refine cNo (by omega) (cNo (by omega) ⟨by omega, by omega, fun S3 q3 S4 q4 => ?_⟩)
    have e3 : S3.1 94 1 = s.1 := by rw [q3, wI_no _ (by omega)]; exact h.1
    rw [e3, q3, ← e1] at q4
    rw [q4]
    exact g4
theorem md_rrep {x1 x2 x3 x4 p l c : Int} (hp : 0 ≤ p ∧ p < 6000) (hl : 1 ≤ l ∧ l ≤ 259) : ∀ (v k : Nat) (s : Rst) (B : ms), (k : Int) + v = min l 4 → s.1 + v ≤ 2500 → B.1 368 p = b8 c → MRs B s → ∃ B', EX XRm B B' ∧ MRs B' (rRep c v s) ∧ ∀ (R : Option Value) (S' : ms), EV q 318 168 [some (.ref 367), some (vI x1), some (vI x2), some (vI x3), some (vI x4), some (vI p), some (vI l), some (vI (min l 4))] [] B' R S' → EV q 318 123 [some (.ref 367), some (vI x1), some (vI x2), some (vI x3), some (vI x4), some (vI p), some (vI l), some (vI k)] [] B R S' := by
  intro v
  induction v with
  | zero =>
    intro k s B hk hs hc h
    refine ⟨B, EX.refl _ B, h, fun R S' kk => vc_MD_packSorted_123 _ _ _ _ _ _ _ ?_⟩
    have ek : (k : Int) = min l 4 := by omega
    rw [ek, w32_of (x := l) (by omega), w32_of (x := min l 4) (by omega)]
    by_cases d : l ≤ min l 4
    · exact cY d kk
    · exact cNo d (cY (by omega) kk)
  | succ v ih =>
    intro k s B hk hs hc h
    obtain ⟨B1, e1⟩ : ∃ B1, B1 = wI (wI B 406 s.1 (b8 c)) 367 66 ((s.1 : Int) + 1) := ⟨_, rfl⟩
    have h1 := MRs_p (v := c) h
    rw [← e1] at h1
    have hs1 : (rPut c s).1 = s.1 + 1 := rfl
    obtain ⟨B', g1, g2, g3⟩ := ih (k + 1) (rPut c s) B1 (by omega) (by omega) (by rw [e1, wI_no _ (by omega), wI_no _ (by omega)]; exact hc) h1
    refine ⟨B', EX.trans (by rw [e1]; exact ((EX.refl _ B).wr (Or.inl rfl)).wr (Or.inr ⟨rfl, rfl⟩)) g1, g2, fun R S' kk => vc_MD_packSorted_123 _ _ _ _ _ _ _ ?_⟩
    have g4 := g3 R S' kk
    rw [show ((k + 1 : Nat) : Int) = (k : Int) + 1 by omega] at g4
    rw [w32_of (x := l) (by omega), show w32 (k : Int) = k from w32_of (by omega), w32_of (x := p) (by omega), hc, b8_i, h.1, show w32 (s.1 : Int) = s.1 from w32_of (by omega)]
    refine cNo (by omega) (cNo (by omega) ⟨by omega, by omega, fun S3 q3 S4 q4 => ?_⟩)
    have e3 : S3.1 367 66 = s.1 := by rw [q3, wI_no _ (by omega)]; exact h.1
    rw [e3, q3, ← e1] at q4
    rw [q4]
    exact g4
/-- the runs of fr .. e - 1, both sides -/
theorem cl_runs {a1 : Nat} {fr e : Int} {P : Nat → Int} {K : Nat} (hx : 0 ≤ x ∧ x ≤ 6000) (hf : 0 ≤ fr ∧ fr < e ∧ e ≤ x ∧ e ≤ fr + 2000) (hP : P 0 = fr ∧ P K = e ∧ ∀ k : Nat, k < K → (fr ≤ P k ∧ P k < e) ∧ P (k + 1) = P k + ruL t e (P k)) (hle : ∀ k : Nat, k ≤ K → (k : Int) ≤ P k - fr ∧ P k ≤ e) (hr : ∀ k : Nat, k ≤ K → rOk (rAll t P (ruL t e) k) ∧ 4 * ((rAll t P (ruL t e) k).1 : Int) ≤ 5 * (P k - fr)) : ∀ (v j : Nat) (A : ms), j + v = K → TXr A a1 x t → CRs A (rAll t P (ruL t e) j) → ∃ A', EX XRa A A' ∧ CRs A' (rAll t P (ruL t e) K) ∧ EV q 93 11 [some (.ref 94), some (.ref a1), some (vI fr), some (vI e), some (vI (P j)), some (vI (fr + j)), none, none] [] A none A' := by
  intro v
  induction v with
  | zero =>
    intro j A hj hA h
    have ej : j = K := by omega
    subst ej
    have l := hle j (Nat.le_refl _)
    refine ⟨A, EX.refl _ A, h, vc_Sorted_makeRuns_11 _ _ _ _ _ _ hA.1.1 ?_⟩
    rw [hP.2.1]
    by_cases d : w32 e ≤ w32 (fr + (j : Int))
    · exact cY d ⟨rfl, rfl⟩
    · exact cNo d (cY (Int.le_refl _) ⟨rfl, rfl⟩)
  | succ v ih =>
    intro j A hj hA h
    have y := hP.2.2 j (by omega)
    have l := hle j (by omega)
    have r0 := hr j (by omega)
    have r1 := hr (j + 1) (by omega)
    have rl := ruL_r t (e := e) (p := P j) y.1.2
    have tp := hA.2.2 (P j) (by omega) (by omega)
    obtain ⟨L, eL⟩ : ∃ L, L = ruL t e (P j) := ⟨_, rfl⟩
    obtain ⟨s, es⟩ : ∃ s, s = rAll t P (ruL t e) j := ⟨_, rfl⟩
    have es1 : rAll t P (ruL t e) (j + 1) = rRun (t (P j)) L s := by rw [rAll_s, ← eL, ← es]
    rw [← eL] at rl y
    rw [← es] at h r0
    rw [es1] at r1
    have ro := rRun_o (c := t (P j)) (l := L) (s := s) tp.1 ⟨rl.1, rl.2.1⟩ r0.1
    have lj1 := hle (j + 1) (by omega)
    have rp := rRep_o tp.1 (min L 4).toNat s r0.1
    have big : (rRun (t (P j)) L s).1 ≤ 2500 := by omega
    have big2 : s.1 + (min L 4).toNat ≤ (rRun (t (P j)) L s).1 := by
      unfold rRun
      by_cases d : 4 ≤ L
      · rw [if_pos d]
        show _ ≤ (rRep (t (P j)) (min L 4).toNat s).1 + 1
        rw [rp.2]
        omega
      · rw [if_neg d, rp.2]
        exact Nat.le_refl _
    obtain ⟨A1, a1', a2', a3'⟩ := cl_rrep (q := q) (fr := fr) (e := e) (x5 := fr + j) (p := P j) (l := L) (c := t (P j)) hA.1.1 (by omega) ⟨rl.1, rl.2.1⟩ (min L 4).toNat 0 s A (by omega) (by omega) (by have := hA.1.2; omega) tp.2 h
    have fin : ∃ A2, EX XRa A1 A2 ∧ CRs A2 (rRun (t (P j)) L s) ∧ ∀ (R : Option Value) (S' : ms), EV q 93 146 [some (.ref 94), some (.ref a1), some (vI fr), some (vI e), some (vI (P j)), some (vI (fr + j)), some (vI L), some (vI (min L 4))] [] A2 R S' → EV q 93 117 [some (.ref 94), some (.ref a1), some (vI fr), some (vI e), some (vI (P j)), some (vI (fr + j)), some (vI L), some (vI (min L 4))] [] A1 R S' := by
      unfold rRun
      by_cases d : 4 ≤ L
      · rw [if_pos d]
        obtain ⟨s2, es2⟩ : ∃ s2, s2 = rRep (t (P j)) (min L 4).toNat s := ⟨_, rfl⟩
        rw [← es2] at a2' rp ⊢
        have b3 : s2.1 < 2500 := by
          unfold rRun at big
          rw [if_pos d, ← es2] at big
          have : (rPut (L - 4) s2).1 = s2.1 + 1 := rfl
          omega
        refine ⟨wI (wI A1 95 s2.1 (L - 4)) 94 1 ((s2.1 : Int) + 1), ((EX.refl _ A1).wr (Or.inl rfl)).wr (Or.inr ⟨rfl, rfl⟩), CRs_p a2', fun R S' kk => vc_Sorted_makeRuns_117 _ _ _ _ _ _ _ _ hA.1.1 ?_⟩
        rw [w32_of (x := L) (by omega), a2'.1, show w32 (s2.1 : Int) = s2.1 from w32_of (by omega)]
        refine cNo (by omega) ⟨by omega, fun S2 q2 S3 q3 => ?_⟩
        have e3 : S2.1 94 1 = s2.1 := by rw [q2, wI_no _ (by omega)]; exact a2'.1
        rw [e3, q2] at q3
        rw [q3]
        exact kk
      · rw [if_neg d]
        refine ⟨A1, EX.refl _ A1, a2', fun R S' kk => vc_Sorted_makeRuns_117 _ _ _ _ _ _ _ _ hA.1.1 ?_⟩
        rw [w32_of (x := L) (by omega)]
        exact cY (by omega) kk
    obtain ⟨A2, b1, b2, b3⟩ := fin
    have x2 : EX XRa A A2 := a1'.trans b1
    rw [← es1] at b2
    obtain ⟨A', g1, g2, g3⟩ := ih (j + 1) A2 (by omega) ⟨hA.1, by rw [x2.2 a1 1 (by have := hA.1.2; unfold XRa; omega)]; exact hA.2.1, fun k k0 k1 => by rw [x2.2 (a1 + 1) k (by have := hA.1.2; unfold XRa; omega)]; exact hA.2.2 k k0 k1⟩ b2
    refine ⟨A', x2.trans g1, g2, vc_Sorted_makeRuns_11 _ _ _ _ _ _ hA.1.1 ?_⟩
    rw [w32_of (x := e) (by omega), w32_of (x := P j) (by omega), w32_of (x := fr + (j : Int)) (by omega)]
    refine cNo (by omega) (cNo (by omega) (cl_rlen (q := q) hx (by omega) hA 258 1 (by decide) (by decide) ?_))
    have eL' : rnF t e (P j) 258 1 = L := by rw [eL]; rfl
    rw [eL']
    refine vc_Sorted_makeRuns_69 _ _ _ _ _ _ _ hA.1.1 (a3' _ _ (b3 _ _ (vc_Sorted_makeRuns_146 _ _ _ _ _ _ _ _ hA.1.1 ?_)))
    rw [y.2, show fr + ((j + 1 : Nat) : Int) = fr + (j : Int) + 1 by omega] at g3
    exact g3
theorem md_runs {x1 x4 fr e : Int} {P : Nat → Int} {K : Nat} (hx : 0 ≤ x ∧ x ≤ 6000) (hf : 0 ≤ fr ∧ fr < e ∧ e ≤ x ∧ e ≤ fr + 2000) (hP : P 0 = fr ∧ P K = e ∧ ∀ k : Nat, k < K → (fr ≤ P k ∧ P k < e) ∧ P (k + 1) = P k + ruL t e (P k)) (hr : ∀ k : Nat, k ≤ K → rOk (rAll t P (ruL t e) k) ∧ 4 * ((rAll t P (ruL t e) k).1 : Int) ≤ 5 * (P k - fr)) : ∀ (v j : Nat) (B : ms), j + v = K → TXm B x t → MRs B (rAll t P (ruL t e) j) → ∃ B', EX XRm B B' ∧ MRs B' (rAll t P (ruL t e) K) ∧ ∀ (R : Option Value) (S' : ms), EV q 318 95 [some (.ref 367), some (vI x1), some (vI fr), some (vI (e - fr)), some (vI x4), some (vI e), none, none] [] B' R S' → EV q 318 95 [some (.ref 367), some (vI x1), some (vI fr), some (vI (e - fr)), some (vI x4), some (vI (P j)), none, none] [] B R S' := by
  intro v
  induction v with
  | zero =>
    intro j B hj hB h
    have ej : j = K := by omega
    subst ej
    rw [hP.2.1]
    exact ⟨B, EX.refl _ B, h, fun R S' k => k⟩
  | succ v ih =>
    intro j B hj hB h
    have y := hP.2.2 j (by omega)
    have r0 := hr j (by omega)
    have r1 := hr (j + 1) (by omega)
    have rl := ruL_r t (e := e) (p := P j) y.1.2
    have tp := hB.2 (P j) (by omega) (by omega)
    obtain ⟨L, eL⟩ : ∃ L, L = ruL t e (P j) := ⟨_, rfl⟩
    obtain ⟨s, es⟩ : ∃ s, s = rAll t P (ruL t e) j := ⟨_, rfl⟩
    have es1 : rAll t P (ruL t e) (j + 1) = rRun (t (P j)) L s := by rw [rAll_s, ← eL, ← es]
    rw [← eL] at rl y
    rw [← es] at h r0
    rw [es1] at r1
    have rp := rRep_o tp.1 (min L 4).toNat s r0.1
    have p1 : P (j + 1) ≤ e := by omega
    have big : (rRun (t (P j)) L s).1 ≤ 2500 := by omega
    have big2 : s.1 + (min L 4).toNat ≤ (rRun (t (P j)) L s).1 := by
      unfold rRun
      by_cases d : 4 ≤ L
      · rw [if_pos d]
        show _ ≤ (rRep (t (P j)) (min L 4).toNat s).1 + 1
        rw [rp.2]
        omega
      · rw [if_neg d, rp.2]
        exact Nat.le_refl _
    obtain ⟨B1, a1', a2', a3'⟩ := md_rrep (q := q) (x1 := x1) (x2 := fr) (x3 := e - fr) (x4 := x4) (p := P j) (l := L) (c := t (P j)) (by omega) ⟨rl.1, rl.2.1⟩ (min L 4).toNat 0 s B (by omega) (by omega) tp.2 h
    have fin : ∃ B2, EX XRm B1 B2 ∧ MRs B2 (rRun (t (P j)) L s) ∧ ∀ (R : Option Value) (S' : ms), EV q 318 198 [some (.ref 367), some (vI x1), some (vI fr), some (vI (e - fr)), some (vI x4), some (vI (P j)), some (vI L), some (vI (min L 4))] [] B2 R S' → EV q 318 168 [some (.ref 367), some (vI x1), some (vI fr), some (vI (e - fr)), some (vI x4), some (vI (P j)), some (vI L), some (vI (min L 4))] [] B1 R S' := by
      unfold rRun
      by_cases d : 4 ≤ L
      · rw [if_pos d]
        obtain ⟨s2, es2⟩ : ∃ s2, s2 = rRep (t (P j)) (min L 4).toNat s := ⟨_, rfl⟩
        rw [← es2] at a2' rp ⊢
        have b3 : s2.1 < 2500 := by
          unfold rRun at big
          rw [if_pos d, ← es2] at big
          have : (rPut (L - 4) s2).1 = s2.1 + 1 := rfl
          omega
        refine ⟨wI (wI B1 406 s2.1 (b8 (L - 4))) 367 66 ((s2.1 : Int) + 1), ((EX.refl _ B1).wr (Or.inl rfl)).wr (Or.inr ⟨rfl, rfl⟩), MRs_p a2', fun R S' kk => vc_MD_packSorted_168 _ _ _ _ _ _ _ ?_⟩
        rw [w32_of (x := L) (by omega), a2'.1, show w32 (s2.1 : Int) = s2.1 from w32_of (by omega), b8_i]
        refine cNo (by omega) ⟨by omega, fun S2 q2 S3 q3 => ?_⟩
        have e3 : S2.1 367 66 = s2.1 := by rw [q2, wI_no _ (by omega)]; exact a2'.1
        rw [e3, q2] at q3
        rw [q3]
        exact kk
      · rw [if_neg d]
        refine ⟨B1, EX.refl _ B1, a2', fun R S' kk => vc_MD_packSorted_168 _ _ _ _ _ _ _ ?_⟩
        rw [w32_of (x := L) (by omega)]
        exact cY (by omega) kk
    obtain ⟨B2, b1, b2, b3⟩ := fin
    have x2 : EX XRm B B2 := a1'.trans b1
    rw [← es1] at b2
    obtain ⟨B', g1, g2, g3⟩ := ih (j + 1) B2 (by omega) (TXm_e hB (fun a k z => x2.2 a k (by unfold XRm; omega))) b2
    refine ⟨B', x2.trans g1, g2, fun R S' k => vc_MD_packSorted_95 _ _ _ _ _ ?_⟩
    have g4 := g3 R S' k
    have eL' : rnF t e (P j) 258 1 = L := by rw [eL]; rfl
    have kl := md_rlen (q := q) (e := e) (p := P j) hx (by omega) hB 258 1 (by decide) (by decide)
    rw [eL'] at kl
    rw [show fr + (e - fr) = e by omega, w32_of (x := e) (by omega), w32_of (x := P j) (by omega)]
    rw [y.2] at g4
    exact cNo (by omega) ⟨L, B, vc_MD_alike _ _ _ 368 6000 rfl kl, a3' _ _ (b3 _ _ (vc_MD_packSorted_198 _ _ _ _ _ _ _ g4))⟩
end PRuns
