/-! repair: the matrix, on the class's side -/
section Matrix
variable {q : Nat × (Nat → Int32)} {S T : ms} {n : Nat}
/-- the matrix: columns 0 .. 15 and 16 .. 31 -/
def mE0 (f : Nat → Nat → Int) (n : Nat) (r c : Nat) : Int := if c < n then f r c else if c = 16 + r then 1 else 0
def mN (M : Nat → Nat → Int) (k r c : Nat) : Int := if r = k then gT (M k c) (gI (M k k)) else M r c
def mS (M : Nat → Nat → Int) (k r c : Nat) : Int := if r = k then mN M k k c else bX (M r c) (gT (mN M k k c) (M r k))
def mE (f : Nat → Nat → Int) (n : Nat) : Nat → Nat → Nat → Int
  | 0 => mE0 f n
  | k + 1 => mS (mE f n k) k
theorem mE_s (f : Nat → Nat → Int) (n k : Nat) : mE f n (k + 1) = mS (mE f n k) k := rfl
def mR (M : Nat → Nat → Int) : Prop := ∀ r c, 0 ≤ M r c ∧ M r c < 256
theorem mR_0 {f : Nat → Nat → Int} (hf : ∀ r c, 0 ≤ f r c ∧ f r c < 256) (n : Nat) : mR (mE0 f n) := by
  intro r c
  unfold mE0
  split
  · exact hf r c
  · split <;> decide
theorem mR_N {M : Nat → Nat → Int} (h : mR M) (k : Nat) : mR (mN M k) := by
  intro r c
  unfold mN
  split
  · exact gT_rg _ _
  · exact h r c
theorem mR_s {M : Nat → Nat → Int} (h : mR M) (k : Nat) : mR (mS M k) := by
  intro r c
  unfold mS
  split
  · exact mR_N h k k c
  · exact bX_rg (h r c) (gT_rg _ _)
theorem mR_E {f : Nat → Nat → Int} (hf : ∀ r c, 0 ≤ f r c ∧ f r c < 256) (n : Nat) : ∀ k, mR (mE f n k)
  | 0 => mR_0 hf n
  | k + 1 => mR_s (mR_E hf n k) k
theorem gT_0r (x : Int) : gT x 0 = 0 := by
  unfold gT
  rw [if_pos (Or.inr rfl)]
theorem gT_cm (x y : Int) : gT x y = gT y x := by
  unfold gT
  by_cases c : x = 0 ∨ y = 0
  · rw [if_pos c, if_pos (by omega)]
  · rw [if_neg c, if_neg (by omega), Int.add_comm]
theorem bX_0 {x : Int} (h : 0 ≤ x ∧ x < 256) : bX x 0 = x := by
  unfold bX
  rw [show ((0 : Int) % 4294967296).toNat = 0 by decide, Nat.xor_zero]
  omega
/-- the class's matrix -/
def MT (S T : ms) (n : Nat) (G : Nat → Nat → Int) : Prop := T.2 = S.2 ∧ (∀ (a : Nat) (k : Int), a ≠ 181 → T.1 a k = S.1 a k) ∧ ∀ r c : Nat, r < n → c < 32 → T.1 181 (r * 32 + c) = G r c
theorem MT_w {G G' : Nat → Nat → Int} {i e : Nat} {v : Int} (h : MT S T n G) (hi : i < n) (he : e < 32) (hv : G' i e = v) (ho : ∀ r c, r < n → c < 32 → ¬ (r = i ∧ c = e) → G' r c = G r c) : MT S (wI T 181 (i * 32 + e) v) n G' := by
  refine ⟨h.1, fun a k ha => by rw [rI_I, if_neg (fun z => ha z.1), h.2.1 a k ha], fun r c hr hc => ?_⟩
  rw [rI_I]
  by_cases y : r = i ∧ c = e
  · rw [if_pos ⟨rfl, by rw [y.1, y.2]⟩, y.1, y.2, hv]
  · rw [if_neg (fun z => y (by have := z.2; omega)), h.2.2 r c hr hc, ho r c hr hc y]
/-- a row is made such that its pivot is 1 -/
theorem lp_tm1 {M : Nat → Nat → Int} {k : Nat} {f : Int} (hk : k < n) (hn : n ≤ 16) (hM : mR M) (hf : f = gI (M k k)) (hR : RG S) {rr : Option Value} {P : ms → Prop} (nx : ∀ T, MT S T n (mN M k) → ∃ T', EV q 236 151 [some (.ref 173), some (vI k), some (vI f), some (vI 0), none, none] [] T rr T' ∧ P T') : ∀ (t e : Nat) (T : ms), e + t = 32 → MT S T n (fun r c => if c < e then mN M k r c else M r c) → ∃ T', EV q 236 110 [some (.ref 173), some (vI k), some (vI f), some (vI e), none, none] [] T rr T' ∧ P T' := by
  intro t
  induction t with
  | zero =>
    intro e T he hT
    have ee : e = 32 := by omega
    subst ee
    obtain ⟨T', k1, k2⟩ := nx T ⟨hT.1, hT.2.1, fun r c hr hc => by rw [hT.2.2 r c hr hc]; exact if_pos hc⟩
    exact ⟨T', vc_Parts_turnMatrix_110 _ _ _ ⟨fun _ => k1, fun n => absurd (by decide) n⟩, k2⟩
  | succ t ih =>
    intro e T he hT
    have v : T.1 181 (k * 32 + e) = if e < e then mN M k k e else M k e := hT.2.2 k e hk (by omega)
    rw [if_neg (by omega)] at v
    have m1 := hM k e
    have hRT : RG T := RG_cg hR (fun a k h => hT.2.1 a k (by omega))
    have fr : 0 ≤ f ∧ f < 256 := by
      rw [hf]
      exact gp_rg _
    have tm := sp_ctimes (q := q) hRT m1 fr
    have z0 : ¬ 32 ≤ (e : Int) := by omega
    have z1 : 0 ≤ (k : Int) * 32 + e ∧ (k : Int) * 32 + e < (512 : Nat) := by omega
    have ek : (e : Int) + 1 = ((e + 1 : Nat) : Int) := by omega
    obtain ⟨T', k1, k2⟩ := ih (e + 1) (wI T 181 (k * 32 + e) (gT (M k e) f)) (by omega) (MT_w hT hk (by omega) (by
      show (if e < e + 1 then mN M k k e else M k e) = _
      rw [if_pos (by omega), hf]
      unfold mN
      rw [if_pos rfl]) (fun r c hr hc hne => by
      show (if c < e + 1 then mN M k r c else M r c) = if c < e then mN M k r c else M r c
      by_cases c1 : c < e
      · rw [if_pos c1, if_pos (by omega)]
      · rw [if_neg c1]
        by_cases c2 : c = e
        · rw [if_pos (by omega)]
          unfold mN
          rw [if_neg (by omega)]
        · rw [if_neg (by omega)]))
    have wx : Unit → w32 ((k : Int) * 32 + e) = k * 32 + e := fun _ => w32_of (by omega)
    have we : Unit → w32 (e : Int) = e := fun _ => w32_of (by omega)
    refine ⟨T', vc_Parts_turnMatrix_110 _ _ _ ?_, k2⟩
    rw [we (), wx (), v, ek]
    refine ⟨fun n => absurd n z0, fun _ => ⟨z1, _, T, tm, z1, fun S6 g => ?_⟩⟩
    subst g
    exact k1
/-- row i, behind the first columns -/
theorem lp_tm2 {N G : Nat → Nat → Int} {k i : Nat} {f g : Int} (hk : k < n) (hi : i < n) (hn : n ≤ 16) (hN : mR N) (hne : g ≠ 0 → i ≠ k) (hg : 0 ≤ g ∧ g < 256) (hR : RG S) {rr : Option Value} {P : ms → Prop} (hG : ∀ r c, r = i ∨ r = k → G r c = N r c) (nx : ∀ T, MT S T n (fun r c => if r = i then bX (G r c) (gT (N k c) g) else G r c) → ∃ T', EV q 236 151 [some (.ref 173), some (vI k), some (vI f), some (vI ((i : Int) + 1)), none, none] [] T rr T' ∧ P T') : ∀ (t e : Nat) (T : ms), e + t = 32 → MT S T n (fun r c => if r = i ∧ c < e then bX (G r c) (gT (N k c) g) else G r c) → ∃ T', EV q 236 184 [some (.ref 173), some (vI k), some (vI f), some (vI i), some (vI g), some (vI e)] [] T rr T' ∧ P T' := by
  have wg : w32 g = g := w32_of (by omega)
  intro t
  induction t with
  | zero =>
    intro e T he hT
    have ee : e = 32 := by omega
    subst ee
    obtain ⟨T', k1, k2⟩ := nx T ⟨hT.1, hT.2.1, fun r c hr hc => by
      rw [hT.2.2 r c hr hc]
      show (if r = i ∧ c < 32 then _ else _) = if r = i then _ else _
      by_cases y : r = i
      · rw [if_pos ⟨y, hc⟩, if_pos y]
      · rw [if_neg (fun z => y z.1), if_neg y]⟩
    exact ⟨T', vc_Parts_turnMatrix_184 _ _ _ _ _ ⟨fun _ => vc_Parts_turnMatrix_235 _ _ _ _ _ k1, fun n => absurd (by decide) n⟩, k2⟩
  | succ t ih =>
    intro e T he hT
    have z0 : ¬ 32 ≤ (e : Int) := by omega
    by_cases c0 : g = 0
    · obtain ⟨T', k1, k2⟩ := nx T ⟨hT.1, hT.2.1, fun r c hr hc => by
        rw [hT.2.2 r c hr hc]
        show (if r = i ∧ c < e then bX (G r c) (gT (N k c) g) else G r c) = if r = i then bX (G r c) (gT (N k c) g) else G r c
        by_cases y : r = i
        · have eq : bX (G r c) (gT (N k c) g) = G r c := by
            rw [c0, gT_0r]
            exact bX_0 (by rw [hG r c (Or.inl y)]; exact hN r c)
          rw [if_pos y, eq]
          split <;> rfl
        · rw [if_neg (fun z => y z.1), if_neg y]⟩
      have we : Unit → w32 (e : Int) = e := fun _ => w32_of (by omega)
      refine ⟨T', vc_Parts_turnMatrix_184 _ _ _ _ _ ?_, k2⟩
      rw [we (), wg]
      exact ⟨fun n => absurd n z0, fun _ => ⟨fun _ => vc_Parts_turnMatrix_235 _ _ _ _ _ k1, fun n => absurd c0 n⟩⟩
    · have ik := hne c0
      have v : T.1 181 (k * 32 + e) = if k = i ∧ e < e then bX (G k e) (gT (N k e) g) else G k e := hT.2.2 k e hk (by omega)
      rw [if_neg (fun z => ik z.1.symm), hG k e (Or.inr rfl)] at v
      have v2 : T.1 181 (i * 32 + e) = if i = i ∧ e < e then bX (G i e) (gT (N k e) g) else G i e := hT.2.2 i e hi (by omega)
      rw [if_neg (by omega)] at v2
      have hRT : RG T := RG_cg hR (fun a k h => hT.2.1 a k (by omega))
      have tm := sp_ctimes (q := q) hRT (hN k e) hg
      have z1 : 0 ≤ (i : Int) * 32 + e ∧ (i : Int) * 32 + e < (512 : Nat) := by omega
      have z2 : 0 ≤ (k : Int) * 32 + e ∧ (k : Int) * 32 + e < (512 : Nat) := by omega
      have ek : (e : Int) + 1 = ((e + 1 : Nat) : Int) := by omega
      obtain ⟨T', k1, k2⟩ := ih (e + 1) (wI T 181 (i * 32 + e) (bX (G i e) (gT (N k e) g))) (by omega) (MT_w hT hi (by omega) (by
        show (if i = i ∧ e < e + 1 then bX (G i e) (gT (N k e) g) else G i e) = _
        rw [if_pos ⟨rfl, by omega⟩]) (fun r c hr hc hne => by
        show (if r = i ∧ c < e + 1 then bX (G r c) (gT (N k c) g) else G r c) = if r = i ∧ c < e then bX (G r c) (gT (N k c) g) else G r c
        by_cases y : r = i ∧ c < e
        · rw [if_pos y, if_pos (by omega)]
        · rw [if_neg y, if_neg (by omega)]))
      have wx : Unit → w32 ((i : Int) * 32 + e) = i * 32 + e := fun _ => w32_of (by omega)
      have wy : Unit → w32 ((k : Int) * 32 + e) = k * 32 + e := fun _ => w32_of (by omega)
      have we : Unit → w32 (e : Int) = e := fun _ => w32_of (by omega)
      refine ⟨T', vc_Parts_turnMatrix_184 _ _ _ _ _ ?_, k2⟩
      rw [we (), wg, wx (), wy (), v, v2, ek]
      refine ⟨fun n => absurd n z0, fun _ => ⟨fun n => absurd n c0, fun _ => ⟨z1, z2, _, T, tm, z1, fun S7 h7 => ?_⟩⟩⟩
      subst h7
      exact k1
/-- the rows, as far as i -/
theorem lp_tm3 {M : Nat → Nat → Int} {k : Nat} {f : Int} (hk : k < n) (hn : n ≤ 16) (hM : mR M) (h5 : S.1 173 5 = n) (hR : RG S) {rr : Option Value} {P : ms → Prop} (nx : ∀ T, MT S T n (mS M k) → ∃ T', EV q 236 84 [some (.ref 173), some (vI ((k : Int) + 1)), none, none, none, none] [] T rr T' ∧ P T') : ∀ (t i : Nat) (T : ms), i + t = n → MT S T n (fun r c => if r < i then mS M k r c else mN M k r c) → ∃ T', EV q 236 151 [some (.ref 173), some (vI k), some (vI f), some (vI i), none, none] [] T rr T' ∧ P T' := by
  intro t
  induction t with
  | zero =>
    intro i T hi hT
    have e : i = n := by omega
    subst e
    obtain ⟨T', k1, k2⟩ := nx T ⟨hT.1, hT.2.1, fun r c hr hc => by rw [hT.2.2 r c hr hc]; exact if_pos hr⟩
    refine ⟨T', vc_Parts_turnMatrix_151 _ _ _ ?_, k2⟩
    rw [hT.2.1 173 5 (by decide), h5]
    exact ⟨fun _ => k1, fun n => absurd (Int.le_refl _) n⟩
  | succ t ih =>
    intro i T hi hT
    have z0 : ¬ (n : Int) ≤ i := by omega
    have z1 : 0 ≤ (i : Int) * 32 + k ∧ (i : Int) * 32 + k < (512 : Nat) := by omega
    have ek : (i : Int) + 1 = ((i + 1 : Nat) : Int) := by omega
    have rN := mR_N hM k
    have go : ∀ g : Int, (0 ≤ g ∧ g < 256) → (i = k → g = 0) → (i ≠ k → g = M i k) → ∃ T', EV q 236 179 [some (.ref 173), some (vI k), some (vI f), some (vI i), none, none] [vI g] T rr T' ∧ P T' := by
      intro g hg g0 g1
      obtain ⟨T', k1, k2⟩ := lp_tm2 (q := q) (S := S) (n := n) (N := mN M k) (G := fun r c => if r < i then mS M k r c else mN M k r c) (k := k) (i := i) (f := f) (g := g) (rr := rr) (P := P) hk (by omega) hn rN (fun z e => z (g0 e)) hg hR (fun r c h => by
        show (if r < i then mS M k r c else mN M k r c) = mN M k r c
        by_cases y : r < i
        · have rk : r = k := by omega
          rw [if_pos y]
          unfold mS
          rw [if_pos rk, rk]
        · rw [if_neg y]) (fun U hU => by
        rw [ek]
        refine ih (i + 1) U (by omega) ⟨hU.1, hU.2.1, fun r c hr hc => ?_⟩
        rw [hU.2.2 r c hr hc]
        show (if r = i then bX (if r < i then mS M k r c else mN M k r c) (gT (mN M k k c) g) else if r < i then mS M k r c else mN M k r c) = if r < i + 1 then mS M k r c else mN M k r c
        by_cases y : r = i
        · rw [if_pos y, if_neg (by omega), if_pos (by omega)]
          by_cases yk : i = k
          · rw [g0 yk, gT_0r, bX_0 (rN r c)]
            unfold mS
            rw [if_pos (by omega), y, yk]
          · rw [g1 yk]
            unfold mS
            rw [if_neg (by omega), y]
            have e1 : mN M k i c = M i c := by
              unfold mN
              rw [if_neg yk]
            rw [e1]
        · rw [if_neg y]
          by_cases y2 : r < i
          · rw [if_pos y2, if_pos (by omega)]
          · rw [if_neg y2, if_neg (by omega)]) 32 0 T (by omega) ⟨hT.1, hT.2.1, fun r c hr hc => by
          rw [hT.2.2 r c hr hc]
          show _ = if r = i ∧ c < 0 then _ else _
          rw [if_neg (by omega)]⟩
      exact ⟨T', vc_Parts_turnMatrix_179 _ _ _ _ k1, k2⟩
    have wi : Unit → w32 (i : Int) = i := fun _ => w32_of (by omega)
    have wk : Unit → w32 (k : Int) = k := fun _ => w32_of (by omega)
    have wn : Unit → w32 (n : Int) = n := fun _ => w32_of (by omega)
    have wx : Unit → w32 ((i : Int) * 32 + k) = i * 32 + k := fun _ => w32_of (by omega)
    by_cases y : i = k
    · obtain ⟨T', k1, k2⟩ := go 0 (by decide) (fun _ => rfl) (fun n => absurd y n)
      have yz : (i : Int) = k := by omega
      refine ⟨T', vc_Parts_turnMatrix_151 _ _ _ ?_, k2⟩
      rw [hT.2.1 173 5 (by decide), h5, wn (), wi (), wk ()]
      exact ⟨fun n => absurd n z0, fun _ => ⟨fun n => absurd yz n, fun _ => k1⟩⟩
    · have v : T.1 181 (i * 32 + k) = if i < i then mS M k i k else mN M k i k := hT.2.2 i k (by omega) (by omega)
      rw [if_neg (by omega)] at v
      have e1 : mN M k i k = M i k := by
        unfold mN
        rw [if_neg y]
      rw [e1] at v
      obtain ⟨T', k1, k2⟩ := go (M i k) (hM i k) (fun e => absurd e y) (fun _ => rfl)
      have yz : ¬ (i : Int) = k := by omega
      refine ⟨T', vc_Parts_turnMatrix_151 _ _ _ ?_, k2⟩
      rw [hT.2.1 173 5 (by decide), h5, wn (), wi (), wk (), wx (), v]
      exact ⟨fun n => absurd n z0, fun _ => ⟨fun _ => ⟨z1, k1⟩, fun n => absurd yz n⟩⟩
/-- the matrix is turned -/
theorem lp_tm4 {f : Nat → Nat → Int} (hf : ∀ r c, 0 ≤ f r c ∧ f r c < 256) (hn : n ≤ 16) (h5 : S.1 173 5 = n) (hpv : ∀ k, k < n → mE f n k k k ≠ 0) (hR : RG S) : ∀ (t k : Nat) (T : ms), k + t = n → MT S T n (mE f n k) → ∃ T', EV q 236 84 [some (.ref 173), some (vI k), none, none, none, none] [] T none T' ∧ MT S T' n (mE f n n) := by
  intro t
  induction t with
  | zero =>
    intro k T hk hT
    have e : k = n := by omega
    subst e
    refine ⟨T, vc_Parts_turnMatrix_84 _ ?_, hT⟩
    rw [hT.2.1 173 5 (by decide), h5]
    exact ⟨fun _ => ⟨rfl, rfl⟩, fun n => absurd (Int.le_refl _) n⟩
  | succ t ih =>
    intro k T hk hT
    have hM := mR_E hf n k
    have pv := hpv k (by omega)
    have pr := hM k k
    have v := hT.2.2 k k (by omega) (by omega)
    have z0 : ¬ (n : Int) ≤ k := by omega
    have z1 : 0 ≤ (k : Int) * 32 + k ∧ (k : Int) * 32 + k < (512 : Nat) := by omega
    have ek : (k : Int) + 1 = ((k + 1 : Nat) : Int) := by omega
    have hRT : RG T := RG_cg hR (fun a k h => hT.2.1 a k (by omega))
    have iv := sp_cinv (q := q) hRT (x := mE f n k k k) (by omega)
    obtain ⟨T', k1, k2⟩ := lp_tm1 (q := q) (S := S) (n := n) (M := mE f n k) (k := k) (f := gI (mE f n k k k)) (rr := none) (P := fun T' => MT S T' n (mE f n n)) (by omega) hn hM rfl hR (fun U hU => lp_tm3 (q := q) (S := S) (n := n) (M := mE f n k) (k := k) (f := gI (mE f n k k k)) (by omega) hn hM h5 hR (fun V hV => by
      rw [ek]
      exact ih (k + 1) V (by omega) hV) n 0 U (by omega) ⟨hU.1, hU.2.1, fun r c hr hc => by rw [hU.2.2 r c hr hc]; exact (if_neg (by omega)).symm⟩) 32 0 T (by omega) ⟨hT.1, hT.2.1, fun r c hr hc => by rw [hT.2.2 r c hr hc]; exact (if_neg (by omega)).symm⟩
    have wk : Unit → w32 (k : Int) = k := fun _ => w32_of (by omega)
    have wn : Unit → w32 (n : Int) = n := fun _ => w32_of (by omega)
    have wx : Unit → w32 ((k : Int) * 32 + k) = k * 32 + k := fun _ => w32_of (by omega)
    refine ⟨T', vc_Parts_turnMatrix_84 _ ?_, k2⟩
    rw [hT.2.1 173 5 (by decide), h5, wn (), wk (), wx (), v]
    exact ⟨fun n => absurd n z0, fun _ => ⟨z1, _, T, iv, k1⟩⟩
end Matrix
