/-! repair: the reference makes and turns the matrix -/
section Matrix3
variable {q : Nat × (Nat → Int32)} {S T : ms} {n : Nat}
theorem cm_l {b : Nat} (h : b < n) : cm n b = b := if_pos h
theorem lp_mi1 {mi ch : Nat → Nat} {a : Nat} (ha : a < n) (hn : n ≤ 16) (hmi : ∀ c, c < n → mi c < 32 ∧ S.1 445 c = mi c) (hch : ∀ r, r < n → ch r < 16 ∧ S.1 444 r = ch r) (hR : RG S) {G0 : Nat → Nat → Int} {rr : Option Value} {P : ms → Prop} (nx : ∀ T, MM S T n (fun r e => if r < a + 1 then mE0 (fMx mi ch) n r (cm n e) else G0 r e) → ∃ T', EV q 419 6 [some (.ref 367), some (vI n), some (vI (2 * (n : Int))), some (vI ((a : Int) + 1)), none, none, none, none, none] [] T rr T' ∧ P T') : ∀ (t b : Nat) (T : ms), b + t = n → MM S T n (fun r e => if r < a ∨ (r = a ∧ (e < b ∨ (n ≤ e ∧ e < n + b))) then mE0 (fMx mi ch) n r (cm n e) else G0 r e) → ∃ T', EV q 419 14 [some (.ref 367), some (vI n), some (vI (2 * (n : Int))), some (vI a), some (vI b), none, none, none, none] [] T rr T' ∧ P T' := by
  intro t
  induction t with
  | zero =>
    intro b T hb hT
    have e : b = n := by omega
    subst e
    obtain ⟨T', k1, k2⟩ := nx T ⟨hT.1, hT.2.1, fun r e hr he => by
      rw [hT.2.2 r e hr he]
      show (if r < a ∨ (r = a ∧ (e < b ∨ (b ≤ e ∧ e < b + b))) then mE0 (fMx mi ch) b r (cm b e) else G0 r e) = if r < a + 1 then mE0 (fMx mi ch) b r (cm b e) else G0 r e
      by_cases y : r < a + 1
      · rw [if_pos y, if_pos (by omega)]
      · rw [if_neg y, if_neg (by omega)]⟩
    exact ⟨T', vc_MD_solve_14 _ _ _ _ ⟨fun _ => k1, fun n => absurd (Int.le_refl _) n⟩, k2⟩
  | succ t ih =>
    intro b T hb hT
    have z0 : ¬ (n : Int) ≤ b := by omega
    have z1 : 0 ≤ (b : Int) ∧ (b : Int) < (32 : Nat) := by omega
    have z2 : 0 ≤ (a : Int) ∧ (a : Int) < (16 : Nat) := by omega
    have g1 := ix_rg (n := n) (r := a) (b := b) hn ha (by omega)
    have g2 := ix_rg (n := n) (r := a) (b := n + b) hn ha (by omega)
    have ei : (a : Int) * (2 * n) + n + b = a * (2 * n) + ((n + b : Nat) : Int) := by omega
    have ek : (b : Int) + 1 = ((b + 1 : Nat) : Int) := by omega
    obtain ⟨m1, m2⟩ := hmi b (by omega)
    obtain ⟨c1, c2⟩ := hch a ha
    have hRT : RG T := RG_cg hR (fun a k h => hT.2.1 a k (by omega))
    have iv := sp_minv (q := q) hRT (fx_rg (mi b) m1 (ch a) c1)
    have hT1 : MM S (wI T 443 (a * (2 * n) + b) (fMx mi ch a b)) n (fun r e => if r < a ∨ (r = a ∧ (e < b + 1 ∨ (n ≤ e ∧ e < n + b))) then mE0 (fMx mi ch) n r (cm n e) else G0 r e) := MM_w hT rfl (by omega) (fun _ => by
      show (if a < a ∨ (a = a ∧ (b < b + 1 ∨ (n ≤ b ∧ b < n + b))) then mE0 (fMx mi ch) n a (cm n b) else G0 a b) = fMx mi ch a b
      rw [if_pos (by omega), cm_l (by omega)]
      unfold mE0
      rw [if_pos (by omega)]) (fun r e hr he hne => by
      show (if r < a ∨ (r = a ∧ (e < b + 1 ∨ (n ≤ e ∧ e < n + b))) then mE0 (fMx mi ch) n r (cm n e) else G0 r e) = if r < a ∨ (r = a ∧ (e < b ∨ (n ≤ e ∧ e < n + b))) then mE0 (fMx mi ch) n r (cm n e) else G0 r e
      by_cases y : r < a ∨ (r = a ∧ (e < b ∨ (n ≤ e ∧ e < n + b)))
      · rw [if_pos y, if_pos (by omega)]
      · rw [if_neg y, if_neg (by omega)])
    have hT2 : ∀ v : Int, v = (if a = b then 1 else 0) → MM S (wI (wI T 443 (a * (2 * n) + b) (fMx mi ch a b)) 443 (a * (2 * n) + ((n + b : Nat) : Int)) v) n (fun r e => if r < a ∨ (r = a ∧ (e < b + 1 ∨ (n ≤ e ∧ e < n + (b + 1)))) then mE0 (fMx mi ch) n r (cm n e) else G0 r e) := fun v hv => MM_w hT1 rfl (by omega) (fun _ => by
      show (if a < a ∨ (a = a ∧ (n + b < b + 1 ∨ (n ≤ n + b ∧ n + b < n + (b + 1)))) then mE0 (fMx mi ch) n a (cm n (n + b)) else G0 a (n + b)) = v
      rw [if_pos (by omega), hv]
      unfold mE0 cm
      rw [if_neg (show ¬ n + b < n by omega), if_neg (show ¬ 16 + (n + b - n) < n by omega)]
      by_cases y : a = b
      · rw [if_pos y, if_pos (by omega)]
      · rw [if_neg y, if_neg (by omega)]) (fun r e hr he hne => by
      show (if r < a ∨ (r = a ∧ (e < b + 1 ∨ (n ≤ e ∧ e < n + (b + 1)))) then mE0 (fMx mi ch) n r (cm n e) else G0 r e) = if r < a ∨ (r = a ∧ (e < b + 1 ∨ (n ≤ e ∧ e < n + b))) then mE0 (fMx mi ch) n r (cm n e) else G0 r e
      by_cases y : r < a ∨ (r = a ∧ (e < b + 1 ∨ (n ≤ e ∧ e < n + b)))
      · rw [if_pos y, if_pos (by omega)]
      · rw [if_neg y, if_neg (by omega)])
    obtain ⟨T', k1, k2⟩ := ih (b + 1) _ (by omega) (hT2 (if a = b then 1 else 0) rfl)
    have wn : Unit → w32 (n : Int) = n := fun _ => w32_of (by omega)
    have wa : Unit → w32 (a : Int) = a := fun _ => w32_of (by omega)
    have wb : Unit → w32 (b : Int) = b := fun _ => w32_of (by omega)
    have wx : Unit → w32 ((a : Int) * (2 * n) + b) = a * (2 * n) + b := fun _ => w32_of (by omega)
    have wy : Unit → w32 ((a : Int) * (2 * n) + n + b) = a * (2 * n) + ((n + b : Nat) : Int) := fun _ => by rw [w32_of (by omega), ei]
    have fin : ∀ v : Int, v = (if a = b then 1 else 0) → EV q 419 74 [some (.ref 367), some (vI n), some (vI (2 * (n : Int))), some (vI a), some (vI b), none, none, none, none] [vI v, vI ((a : Int) * (2 * n) + n + b), .ref 443] (wI T 443 (a * (2 * n) + b) (fMx mi ch a b)) rr T' := by
      intro v hv
      refine vc_MD_solve_74 _ _ _ _ _ _ ?_
      rw [wy (), ek]
      refine ⟨g2, fun S2 f => ?_⟩
      rw [hv] at f
      subst f
      exact k1
    refine ⟨T', vc_MD_solve_14 _ _ _ _ ?_, k2⟩
    rw [wn (), wb (), wa (), wx (), hT.2.1 445 _ (by decide), m2, hT.2.1 444 _ (by decide), c2]
    refine ⟨fun n => absurd n z0, fun _ => ⟨z1, z2, _, T, vc_MD_factorPlace _ _ ⟨rfl, rfl⟩, _, T, iv, g1, fun S10 f => ?_⟩⟩
    have f' : S10 = wI T 443 (a * (2 * n) + b) (fMx mi ch a b) := f
    subst f'
    exact ⟨fun c => fin 0 (by rw [if_neg (by omega)]), fun c => fin 1 (by rw [if_pos (by omega)])⟩
theorem lp_mi2 {mi ch : Nat → Nat} (hn : n ≤ 16) (hmi : ∀ c, c < n → mi c < 32 ∧ S.1 445 c = mi c) (hch : ∀ r, r < n → ch r < 16 ∧ S.1 444 r = ch r) (hR : RG S) {G0 : Nat → Nat → Int} {rr : Option Value} {P : ms → Prop} (nx : ∀ T, MM S T n (fun r e => mE0 (fMx mi ch) n r (cm n e)) → ∃ T', EV q 419 89 [some (.ref 367), some (vI n), some (vI (2 * (n : Int))), some (vI 0), none, none, none, none, none] [] T rr T' ∧ P T') : ∀ (t a : Nat) (T : ms), a + t = n → MM S T n (fun r e => if r < a then mE0 (fMx mi ch) n r (cm n e) else G0 r e) → ∃ T', EV q 419 6 [some (.ref 367), some (vI n), some (vI (2 * (n : Int))), some (vI a), none, none, none, none, none] [] T rr T' ∧ P T' := by
  intro t
  induction t with
  | zero =>
    intro a T ha hT
    have e : a = n := by omega
    subst e
    obtain ⟨T', k1, k2⟩ := nx T ⟨hT.1, hT.2.1, fun r c hr hc => by rw [hT.2.2 r c hr hc]; exact if_pos hr⟩
    exact ⟨T', vc_MD_solve_6 _ _ _ ⟨fun _ => k1, fun n => absurd (Int.le_refl _) n⟩, k2⟩
  | succ t ih =>
    intro a T ha hT
    have z0 : ¬ (n : Int) ≤ a := by omega
    have ek : (a : Int) + 1 = ((a + 1 : Nat) : Int) := by omega
    obtain ⟨T', k1, k2⟩ := lp_mi1 (q := q) (S := S) (n := n) (mi := mi) (ch := ch) (a := a) (G0 := G0) (rr := rr) (P := P) (by omega) hn hmi hch hR (fun U hU => by
      rw [ek]
      exact ih (a + 1) U (by omega) hU) n 0 T (by omega) ⟨hT.1, hT.2.1, fun r c hr hc => by
        rw [hT.2.2 r c hr hc]
        show (if r < a then mE0 (fMx mi ch) n r (cm n c) else G0 r c) = if r < a ∨ (r = a ∧ (c < 0 ∨ (n ≤ c ∧ c < n + 0))) then mE0 (fMx mi ch) n r (cm n c) else G0 r c
        by_cases y : r < a
        · rw [if_pos y, if_pos (by omega)]
        · rw [if_neg y, if_neg (by omega)]⟩
    have wn : Unit → w32 (n : Int) = n := fun _ => w32_of (by omega)
    have wr : Unit → w32 (a : Int) = a := fun _ => w32_of (by omega)
    refine ⟨T', vc_MD_solve_6 _ _ _ ?_, k2⟩
    rw [wn (), wr ()]
    exact ⟨fun n => absurd n z0, fun _ => k1⟩
/-- the swap of a row with itself -/
theorem lp_mt0 {G : Nat → Nat → Int} {k : Nat} (hk : k < n) (hn : n ≤ 16) {rr : Option Value} {P : ms → Prop} (nx : ∀ T, MM S T n G → ∃ T', EV q 419 120 [some (.ref 367), some (vI n), some (vI (2 * (n : Int))), some (vI k), some (vI k), some (vI (2 * (n : Int))), none, none, none] [] T rr T' ∧ P T') : ∀ (t e : Nat) (T : ms), e + t = 2 * n → MM S T n G → ∃ T', EV q 419 120 [some (.ref 367), some (vI n), some (vI (2 * (n : Int))), some (vI k), some (vI k), some (vI e), none, none, none] [] T rr T' ∧ P T' := by
  intro t
  induction t with
  | zero =>
    intro e T he hT
    have ee : (e : Int) = 2 * n := by omega
    rw [ee]
    exact nx T hT
  | succ t ih =>
    intro e T he hT
    have z0 : ¬ 2 * (n : Int) ≤ e := by omega
    have g1 := ix_rg (n := n) (r := k) (b := e) hn hk (by omega)
    have ek : (e : Int) + 1 = ((e + 1 : Nat) : Int) := by omega
    have v := hT.2.2 k e hk (by omega)
    obtain ⟨T', k1, k2⟩ := ih (e + 1) (wI (wI T 443 (k * (2 * n) + e) (G k e)) 443 (k * (2 * n) + e) (G k e)) (by omega) (MM_w (MM_w hT rfl (by omega) (fun _ => rfl) (fun _ _ _ _ _ => rfl)) rfl (by omega) (fun _ => rfl) (fun _ _ _ _ _ => rfl))
    have w2 : Unit → w32 (2 * (n : Int)) = 2 * n := fun _ => w32_of (by omega)
    have we : Unit → w32 (e : Int) = e := fun _ => w32_of (by omega)
    have wx : Unit → w32 ((k : Int) * (2 * n) + e) = k * (2 * n) + e := fun _ => w32_of (by omega)
    refine ⟨T', vc_MD_solve_120 _ _ _ _ _ ?_, k2⟩
    rw [w2 (), we (), wx (), v, ek]
    refine ⟨fun n => absurd n z0, fun _ => ⟨g1, g1, g1, fun S8 f8 => ⟨g1, fun S10 f10 => ?_⟩⟩⟩
    subst f8 f10
    exact k1
theorem lp_mt1 {M : Nat → Nat → Int} {k : Nat} {f x4 : Int} (hk : k < n) (hn : n ≤ 16) (hM : mR M) (hf : f = gI (M k k)) (hR : RG S) {rr : Option Value} {P : ms → Prop} (nx : ∀ T, MM S T n (fun r e => mN M k r (cm n e)) → ∃ T', EV q 419 244 [some (.ref 367), some (vI n), some (vI (2 * (n : Int))), some (vI k), some (vI x4), some (vI f), some (vI 0), none, none] [] T rr T' ∧ P T') : ∀ (t e : Nat) (T : ms), e + t = 2 * n → MM S T n (fun r c => if c < e then mN M k r (cm n c) else M r (cm n c)) → ∃ T', EV q 419 201 [some (.ref 367), some (vI n), some (vI (2 * (n : Int))), some (vI k), some (vI x4), some (vI f), some (vI e), none, none] [] T rr T' ∧ P T' := by
  intro t
  induction t with
  | zero =>
    intro e T he hT
    have ee : (e : Int) = 2 * n := by omega
    obtain ⟨T', k1, k2⟩ := nx T ⟨hT.1, hT.2.1, fun r c hr hc => by rw [hT.2.2 r c hr hc]; exact if_pos (by omega)⟩
    refine ⟨T', vc_MD_solve_201 _ _ _ _ _ _ ?_, k2⟩
    rw [ee]
    exact ⟨fun _ => k1, fun n => absurd (Int.le_refl _) n⟩
  | succ t ih =>
    intro e T he hT
    have v : T.1 443 (k * (2 * n) + e) = if e < e then mN M k k (cm n e) else M k (cm n e) := hT.2.2 k e hk (by omega)
    rw [if_neg (by omega)] at v
    have m1 := hM k (cm n e)
    have hRT : RG T := RG_cg hR (fun a k h => hT.2.1 a k (by omega))
    have fr : 0 ≤ f ∧ f < 256 := by
      rw [hf]
      exact gp_rg _
    have tm := sp_mtimes (q := q) hRT m1 fr
    have z0 : ¬ 2 * (n : Int) ≤ e := by omega
    have g1 := ix_rg (n := n) (r := k) (b := e) hn hk (by omega)
    have ek : (e : Int) + 1 = ((e + 1 : Nat) : Int) := by omega
    obtain ⟨T', k1, k2⟩ := ih (e + 1) (wI T 443 (k * (2 * n) + e) (gT (M k (cm n e)) f)) (by omega) (MM_w hT rfl (by omega) (fun _ => by
      show (if e < e + 1 then mN M k k (cm n e) else M k (cm n e)) = _
      rw [if_pos (by omega), hf]
      unfold mN
      rw [if_pos rfl]) (fun r c hr hc hne => by
      show (if c < e + 1 then mN M k r (cm n c) else M r (cm n c)) = if c < e then mN M k r (cm n c) else M r (cm n c)
      by_cases c1 : c < e
      · rw [if_pos c1, if_pos (by omega)]
      · rw [if_neg c1]
        by_cases c2 : c = e
        · rw [if_pos (by omega)]
          unfold mN
          rw [if_neg (by omega)]
        · rw [if_neg (by omega)]))
    have w2 : Unit → w32 (2 * (n : Int)) = 2 * n := fun _ => w32_of (by omega)
    have we : Unit → w32 (e : Int) = e := fun _ => w32_of (by omega)
    have wx : Unit → w32 ((k : Int) * (2 * n) + e) = k * (2 * n) + e := fun _ => w32_of (by omega)
    refine ⟨T', vc_MD_solve_201 _ _ _ _ _ _ ?_, k2⟩
    rw [w2 (), we (), wx (), v, ek]
    refine ⟨fun n => absurd n z0, fun _ => ⟨g1, _, T, tm, g1, fun S6 g => ?_⟩⟩
    subst g
    exact k1
theorem lp_mt2 {M G : Nat → Nat → Int} {k i : Nat} {x4 x5 : Int} (hk : k < n) (hi : i < n) (ik : i ≠ k) (hn : n ≤ 16) (hM : mR M) (hR : RG S) {rr : Option Value} {P : ms → Prop} (hGi : ∀ c, G i c = M i (cm n c)) (hGk : ∀ c, G k c = mN M k k (cm n c)) (nx : ∀ T, MM S T n (fun r c => if r = i then mS M k r (cm n c) else G r c) → ∃ T', EV q 419 244 [some (.ref 367), some (vI n), some (vI (2 * (n : Int))), some (vI k), some (vI x4), some (vI x5), some (vI ((i : Int) + 1)), none, none] [] T rr T' ∧ P T') : ∀ (t e : Nat) (T : ms), e + t = 2 * n → MM S T n (fun r c => if r = i ∧ c < e then mS M k r (cm n c) else G r c) → ∃ T', EV q 419 266 [some (.ref 367), some (vI n), some (vI (2 * (n : Int))), some (vI k), some (vI x4), some (vI x5), some (vI i), some (vI (M i k)), some (vI e)] [] T rr T' ∧ P T' := by
  intro t
  induction t with
  | zero =>
    intro e T he hT
    have ee : (e : Int) = 2 * n := by omega
    obtain ⟨T', k1, k2⟩ := nx T ⟨hT.1, hT.2.1, fun r c hr hc => by
      rw [hT.2.2 r c hr hc]
      show (if r = i ∧ c < e then _ else _) = if r = i then _ else _
      by_cases y : r = i
      · rw [if_pos ⟨y, by omega⟩, if_pos y]
      · rw [if_neg (fun z => y z.1), if_neg y]⟩
    refine ⟨T', vc_MD_solve_266 _ _ _ _ _ _ _ _ ?_, k2⟩
    rw [ee]
    exact ⟨fun _ => vc_MD_solve_316 _ _ _ _ _ _ _ _ k1, fun n => absurd (Int.le_refl _) n⟩
  | succ t ih =>
    intro e T he hT
    have z0 : ¬ 2 * (n : Int) ≤ e := by omega
    have zk : ¬ (i : Int) = k := by omega
    have v : T.1 443 (k * (2 * n) + e) = if k = i ∧ e < e then mS M k k (cm n e) else G k e := hT.2.2 k e hk (by omega)
    rw [if_neg (by omega), hGk] at v
    have v2 : T.1 443 (i * (2 * n) + e) = if i = i ∧ e < e then mS M k i (cm n e) else G i e := hT.2.2 i e hi (by omega)
    rw [if_neg (by omega), hGi] at v2
    have hRT : RG T := RG_cg hR (fun a k h => hT.2.1 a k (by omega))
    have tm := sp_mtimes (q := q) hRT (hM i k) (mR_N hM k k (cm n e))
    rw [gT_cm] at tm
    have es : mS M k i (cm n e) = bX (M i (cm n e)) (gT (mN M k k (cm n e)) (M i k)) := by
      unfold mS
      rw [if_neg ik]
    have g1 := ix_rg (n := n) (r := i) (b := e) hn hi (by omega)
    have g2 := ix_rg (n := n) (r := k) (b := e) hn hk (by omega)
    have ek : (e : Int) + 1 = ((e + 1 : Nat) : Int) := by omega
    obtain ⟨T', k1, k2⟩ := ih (e + 1) (wI T 443 (i * (2 * n) + e) (bX (M i (cm n e)) (gT (mN M k k (cm n e)) (M i k)))) (by omega) (MM_w hT rfl (by omega) (fun _ => by
      show (if i = i ∧ e < e + 1 then mS M k i (cm n e) else G i e) = _
      rw [if_pos ⟨rfl, by omega⟩, es]) (fun r c hr hc hne => by
      show (if r = i ∧ c < e + 1 then mS M k r (cm n c) else G r c) = if r = i ∧ c < e then mS M k r (cm n c) else G r c
      by_cases y : r = i ∧ c < e
      · rw [if_pos y, if_pos (by omega)]
      · rw [if_neg y, if_neg (by omega)]))
    have w2 : Unit → w32 (2 * (n : Int)) = 2 * n := fun _ => w32_of (by omega)
    have we : Unit → w32 (e : Int) = e := fun _ => w32_of (by omega)
    have wi : Unit → w32 (i : Int) = i := fun _ => w32_of (by omega)
    have wk : Unit → w32 (k : Int) = k := fun _ => w32_of (by omega)
    have wx : Unit → w32 ((i : Int) * (2 * n) + e) = i * (2 * n) + e := fun _ => w32_of (by omega)
    have wy : Unit → w32 ((k : Int) * (2 * n) + e) = k * (2 * n) + e := fun _ => w32_of (by omega)
    refine ⟨T', vc_MD_solve_266 _ _ _ _ _ _ _ _ ?_, k2⟩
    rw [w2 (), we (), wi (), wk (), wx (), wy (), v, v2, ek]
    refine ⟨fun n => absurd n z0, fun _ => ⟨fun n => absurd n zk, fun _ => ⟨g1, g2, _, T, tm, g1, fun S7 h7 => ?_⟩⟩⟩
    subst h7
    exact k1
theorem lp_mt3 {M : Nat → Nat → Int} {k : Nat} {x4 x5 : Int} (hk : k < n) (hn : n ≤ 16) (hM : mR M) (hR : RG S) {rr : Option Value} {P : ms → Prop} (nx : ∀ T, MM S T n (fun r c => mS M k r (cm n c)) → ∃ T', EV q 419 89 [some (.ref 367), some (vI n), some (vI (2 * (n : Int))), some (vI ((k : Int) + 1)), none, none, none, none, none] [] T rr T' ∧ P T') : ∀ (t i : Nat) (T : ms), i + t = n → MM S T n (fun r c => if r < i then mS M k r (cm n c) else mN M k r (cm n c)) → ∃ T', EV q 419 244 [some (.ref 367), some (vI n), some (vI (2 * (n : Int))), some (vI k), some (vI x4), some (vI x5), some (vI i), none, none] [] T rr T' ∧ P T' := by
  intro t
  induction t with
  | zero =>
    intro i T hi hT
    have e : i = n := by omega
    subst e
    obtain ⟨T', k1, k2⟩ := nx T ⟨hT.1, hT.2.1, fun r c hr hc => by rw [hT.2.2 r c hr hc]; exact if_pos hr⟩
    exact ⟨T', vc_MD_solve_244 _ _ _ _ _ _ ⟨fun _ => k1, fun n => absurd (Int.le_refl _) n⟩, k2⟩
  | succ t ih =>
    intro i T hi hT
    have z0 : ¬ (n : Int) ≤ i := by omega
    have z2 : ¬ 2 * (n : Int) ≤ 0 := by omega
    have g1 := ix_rg (n := n) (r := i) (b := k) hn (by omega) (by omega)
    have ek : (i : Int) + 1 = ((i + 1 : Nat) : Int) := by omega
    have v : T.1 443 (i * (2 * n) + k) = if i < i then mS M k i (cm n k) else mN M k i (cm n k) := hT.2.2 i k (by omega) (by omega)
    rw [if_neg (by omega), cm_l hk] at v
    have wi : Unit → w32 (i : Int) = i := fun _ => w32_of (by omega)
    have wk : Unit → w32 (k : Int) = k := fun _ => w32_of (by omega)
    have wn : Unit → w32 (n : Int) = n := fun _ => w32_of (by omega)
    have w2 : Unit → w32 (2 * (n : Int)) = 2 * n := fun _ => w32_of (by omega)
    have wx : Unit → w32 ((i : Int) * (2 * n) + k) = i * (2 * n) + k := fun _ => w32_of (by omega)
    by_cases y : i = k
    · have yz : (i : Int) = k := by omega
      obtain ⟨T', k1, k2⟩ := ih (i + 1) T (by omega) ⟨hT.1, hT.2.1, fun r c hr hc => by
        rw [hT.2.2 r c hr hc]
        show (if r < i then mS M k r (cm n c) else mN M k r (cm n c)) = if r < i + 1 then mS M k r (cm n c) else mN M k r (cm n c)
        by_cases y2 : r < i
        · rw [if_pos y2, if_pos (by omega)]
        · rw [if_neg y2]
          by_cases y3 : r = i
          · rw [if_pos (by omega)]
            unfold mS
            rw [if_pos (by omega), y3, y]
          · rw [if_neg (by omega)]⟩
      refine ⟨T', vc_MD_solve_244 _ _ _ _ _ _ ?_, k2⟩
      rw [wn (), wi (), wx ()]
      refine ⟨fun n => absurd n z0, fun _ => ⟨g1, vc_MD_solve_266 _ _ _ _ _ _ _ _ ?_⟩⟩
      rw [w2 (), wi (), wk ()]
      refine ⟨fun n => absurd n z2, fun _ => ⟨fun _ => vc_MD_solve_316 _ _ _ _ _ _ _ _ ?_, fun n => absurd yz n⟩⟩
      rw [ek]
      exact k1
    · have e1 : mN M k i k = M i k := by
        unfold mN
        rw [if_neg y]
      rw [e1] at v
      obtain ⟨T', k1, k2⟩ := lp_mt2 (q := q) (S := S) (n := n) (M := M) (G := fun r c => if r < i then mS M k r (cm n c) else mN M k r (cm n c)) (k := k) (i := i) (x4 := x4) (x5 := x5) (rr := rr) (P := P) hk (by omega) y hn hM hR (fun c => by
        show (if i < i then _ else _) = _
        rw [if_neg (by omega)]
        unfold mN
        rw [if_neg y]) (fun c => by
        show (if k < i then mS M k k (cm n c) else mN M k k (cm n c)) = _
        by_cases y2 : k < i
        · rw [if_pos y2]
          unfold mS
          rw [if_pos rfl]
        · rw [if_neg y2]) (fun U hU => by
        rw [ek]
        refine ih (i + 1) U (by omega) ⟨hU.1, hU.2.1, fun r c hr hc => ?_⟩
        rw [hU.2.2 r c hr hc]
        show (if r = i then mS M k r (cm n c) else if r < i then mS M k r (cm n c) else mN M k r (cm n c)) = if r < i + 1 then mS M k r (cm n c) else mN M k r (cm n c)
        by_cases y2 : r = i
        · rw [if_pos y2, if_pos (by omega)]
        · rw [if_neg y2]
          by_cases y3 : r < i
          · rw [if_pos y3, if_pos (by omega)]
          · rw [if_neg y3, if_neg (by omega)]) (2 * n) 0 T (by omega) ⟨hT.1, hT.2.1, fun r c hr hc => by
          rw [hT.2.2 r c hr hc]
          show _ = if r = i ∧ c < 0 then _ else _
          rw [if_neg (by omega)]⟩
      refine ⟨T', vc_MD_solve_244 _ _ _ _ _ _ ?_, k2⟩
      rw [wn (), wi (), wx (), v]
      exact ⟨fun n => absurd n z0, fun _ => ⟨g1, k1⟩⟩
theorem lp_mt4 {f : Nat → Nat → Int} (hf : ∀ r c, 0 ≤ f r c ∧ f r c < 256) (hn : n ≤ 16) (hpv : ∀ k, k < n → mE f n k k k ≠ 0) (hR : RG S) {rr : Option Value} {P : ms → Prop} (nx : ∀ T, MM S T n (fun r c => mE f n n r (cm n c)) → ∃ T', EV q 419 330 [some (.ref 367), some (vI n), some (vI (2 * (n : Int))), some (vI 0), none, none, none, none, none] [] T rr T' ∧ P T') : ∀ (t k : Nat) (T : ms), k + t = n → MM S T n (fun r c => mE f n k r (cm n c)) → ∃ T', EV q 419 89 [some (.ref 367), some (vI n), some (vI (2 * (n : Int))), some (vI k), none, none, none, none, none] [] T rr T' ∧ P T' := by
  intro t
  induction t with
  | zero =>
    intro k T hk hT
    have e : k = n := by omega
    subst e
    obtain ⟨T', k1, k2⟩ := nx T hT
    exact ⟨T', vc_MD_solve_89 _ _ _ ⟨fun _ => k1, fun n => absurd (Int.le_refl _) n⟩, k2⟩
  | succ t ih =>
    intro k T hk hT
    have hM := mR_E hf n k
    have pv := hpv k (by omega)
    have pr := hM k k
    have z0 : ¬ (n : Int) ≤ k := by omega
    have g1 := ix_rg (n := n) (r := k) (b := k) hn (by omega) (by omega)
    have ek : (k : Int) + 1 = ((k + 1 : Nat) : Int) := by omega
    have at' : ∀ U, MM S U n (fun r c => mE f n k r (cm n c)) → U.1 443 (k * (2 * n) + k) = mE f n k k k := fun U hU => by
      have v : U.1 443 (k * (2 * n) + k) = mE f n k k (cm n k) := hU.2.2 k k (by omega) (by omega)
      rw [cm_l (by omega)] at v
      exact v
    have wp : w32 (mE f n k k k) = mE f n k k k := w32_of (by omega)
    have wk : Unit → w32 (k : Int) = k := fun _ => w32_of (by omega)
    have wn : Unit → w32 (n : Int) = n := fun _ => w32_of (by omega)
    have wx : Unit → w32 ((k : Int) * (2 * n) + k) = k * (2 * n) + k := fun _ => w32_of (by omega)
    obtain ⟨T', k1, k2⟩ := lp_mt0 (q := q) (S := S) (n := n) (G := fun r c => mE f n k r (cm n c)) (k := k) (rr := rr) (P := P) (by omega) hn (fun U hU => by
      have hRU : RG U := RG_cg hR (fun a k h => hU.2.1 a k (by omega))
      have iv := sp_minv (q := q) hRU (x := mE f n k k k) (by omega)
      obtain ⟨T', k1, k2⟩ := lp_mt1 (q := q) (S := S) (n := n) (M := mE f n k) (k := k) (f := gI (mE f n k k k)) (x4 := k) (rr := rr) (P := P) (by omega) hn hM rfl hR (fun V hV => lp_mt3 (q := q) (S := S) (n := n) (M := mE f n k) (k := k) (by omega) hn hM hR (fun W hW => by
        rw [ek]
        exact ih (k + 1) W (by omega) hW) n 0 V (by omega) ⟨hV.1, hV.2.1, fun r c hr hc => by rw [hV.2.2 r c hr hc]; exact (if_neg (by omega)).symm⟩) (2 * n) 0 U (by omega) ⟨hU.1, hU.2.1, fun r c hr hc => by rw [hU.2.2 r c hr hc]; exact (if_neg (by omega)).symm⟩
      refine ⟨T', vc_MD_solve_120 _ _ _ _ _ ?_, k2⟩
      rw [wx (), at' U hU]
      exact ⟨fun _ => ⟨g1, _, U, iv, k1⟩, fun n => absurd (Int.le_refl _) n⟩) (2 * n) 0 T (by omega) hT
    refine ⟨T', vc_MD_solve_89 _ _ _ ?_, k2⟩
    rw [wn (), wk ()]
    refine ⟨fun n => absurd n z0, fun _ => vc_MD_solve_97 _ _ _ _ ?_⟩
    rw [wx (), at' T hT, wp]
    exact ⟨g1, fun _ => k1, fun n => absurd pv n⟩
/-- the reference's matrix, as far as the octets -/
theorem md_turn {mi ch : Nat → Nat} (hn : n ≤ 16) (hmi : ∀ c, c < n → mi c < 32 ∧ S.1 445 c = mi c) (hch : ∀ r, r < n → ch r < 16 ∧ S.1 444 r = ch r) (hR : RG S) (hpv : ∀ k, k < n → mE (fMx mi ch) n k k k ≠ 0) {rr : Option Value} {P : ms → Prop} (nx : ∀ T, MM S T n (fun r c => mE (fMx mi ch) n n r (cm n c)) → ∃ T', EV q 419 330 [some (.ref 367), some (vI n), some (vI (2 * (n : Int))), some (vI 0), none, none, none, none, none] [] T rr T' ∧ P T') : ∃ T', EV q 419 0 [some (.ref 367), some (vI n), none, none, none, none, none, none, none] [] S rr T' ∧ P T' := by
  obtain ⟨T', k1, k2⟩ := lp_mi2 (q := q) (S := S) (n := n) (mi := mi) (ch := ch) (G0 := fun r b => S.1 443 (r * (2 * n) + b)) (rr := rr) (P := P) hn hmi hch hR (fun U hU => lp_mt4 (q := q) (S := S) (f := fMx mi ch) (fMx_rg mi ch) hn hpv hR nx n 0 U (by omega) hU) n 0 S (by omega) ⟨rfl, fun _ _ _ => rfl, fun r b hr hb => (if_neg (by omega)).symm⟩
  exact ⟨T', vc_MD_solve _ k1, k2⟩
end Matrix3
