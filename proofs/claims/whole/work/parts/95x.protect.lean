/-! protect on both sides -/
section Protect2
variable {q : Nat × (Nat → Int32)} {S T : ms} {a b d : Int}
theorem ckS_cg {g g' : Nat → Int → Int} {j : Nat} {i : Int} : ∀ {D : Nat}, (∀ d, d < D → g d i = g' d i) → ckS g j D i = ckS g' j D i
  | 0, _ => rfl
  | D + 1, h => by
    rw [ckS_s, ckS_s, ckS_cg (fun d hd => h d (by omega)), h D (by omega)]
theorem pa_dec {N z k : Int} (hz : 1 ≤ z) (k0 : 0 ≤ k) (k1 : k < N * z) : ∃ p i : Int, 0 ≤ p ∧ p < N ∧ 0 ≤ i ∧ i < z ∧ k = p * z + i := by
  refine ⟨k / z, k % z, Int.ediv_nonneg k0 (by omega), Int.ediv_lt_of_lt_mul (by omega) k1, Int.emod_nonneg _ (by omega), Int.emod_lt_of_pos _ (by omega), ?_⟩
  have := Int.mul_ediv_add_emod k z
  rw [Int.mul_comm (k / z)]
  omega
section C
variable {D C : Nat} {n0 z : Int}
/-- the class copies the text -/
theorem lp_mk1 {x2 x3 : Int} (hz : S.1 173 3 = z) (hD : S.1 173 6 = D) (hn : S.1 173 4 = n0) (hn0 : 0 ≤ n0 ∧ n0 ≤ 6000) (hDz : 0 ≤ D * z ∧ D * z ≤ 102000) {rr : Option Value} {T' : ms} (k : EV q 224 99 [some (.ref 173), some (.ref 1), some (vI x2), some (vI x3), some (vI 0)] [] (wC S 174 0 (D * z) (fun k => if k < n0 then S.1 2 k else 0)) rr T') : ∀ (t : Nat) (e : Int), 0 ≤ e → e + t = D * z → EV q 224 49 [some (.ref 173), some (.ref 1), some (vI x2), some (vI x3), some (vI e)] [] (wC S 174 0 e (fun k => if k < n0 then S.1 2 k else 0)) rr T' := by
  have r1 : isRow 1 6000 := ⟨rfl, rfl⟩
  have wz : w32 (D * z) = D * z := w32_of (by omega)
  have wn : w32 n0 = n0 := w32_of (by omega)
  intro t
  induction t with
  | zero =>
    intro e e0 he
    have ee : e = D * z := by omega
    refine vc_Parts_make_49 _ _ _ 1 6000 r1 ?_
    rw [wC_ne _ _ _ _ (by decide), wC_ne _ _ _ _ (by decide), hz, hD, ee]
    exact ⟨fun _ => k, fun n => absurd (Int.le_refl _) n⟩
  | succ t ih =>
    intro e e0 he
    have we : w32 e = e := w32_of (by omega)
    have gd := wC_gd S 174 0 e (fun k => if k < n0 then S.1 2 k else 0) e0
    rw [Int.zero_add] at gd
    have nx := ih (e + 1) (by omega) (by omega)
    refine vc_Parts_make_49 _ _ _ 1 6000 r1 ?_
    rw [wC_ne _ _ _ _ (by decide), wC_ne _ _ _ _ (by decide), wC_ne _ _ _ _ (by decide), hz, hD, hn, wz, wn, we]
    refine ⟨fun n => absurd n (by omega), fun _ => ⟨fun c => vc_Parts_make_89 _ _ _ _ _ 1 6000 r1 ?_, fun c => ⟨by omega, vc_Parts_make_89 _ _ _ _ _ 1 6000 r1 ?_⟩⟩⟩
    · rw [we]
      refine ⟨by omega, fun S2 f => ?_⟩
      rw [if_neg (by omega)] at gd
      rw [gd] at f
      subst f
      exact nx
    · rw [we, wC_ne _ _ _ _ (by decide)]
      refine ⟨by omega, fun S2 f => ?_⟩
      rw [if_pos (by omega)] at gd
      rw [gd] at f
      subst f
      exact nx
/-- the octets of all parts: g of the data, and the checks -/
def cF (g : Nat → Int → Int) (D p : Nat) (i : Int) : Int := if p < D then g p i else ckS g (p - D) D i
theorem cF_rg {g : Nat → Int → Int} {D p : Nat} {i : Int} (h : p < D → 0 ≤ g p i ∧ g p i < 256) : 0 ≤ cF g D p i ∧ cF g D p i < 256 := by
  unfold cF
  split
  · exact h (by assumption)
  · exact ckS_rg _ _ _ _
/-- the first p parts stand -/
def PC (S T : ms) (g : Nat → Int → Int) (D : Nat) (z : Int) (p : Nat) : Prop := T.2 = S.2 ∧ (∀ (a : Nat) (k : Int), a ≠ 174 → T.1 a k = S.1 a k) ∧ ∀ (l : Nat) (i : Int), l < p → 0 ≤ i → i < z → T.1 174 (l * z + i) = cF g D l i
theorem lp_mk2 {x2 x3 : Int} {g : Nat → Int → Int} (hz : S.1 173 3 = z) (hz2 : 1 ≤ z ∧ z ≤ 6000) (hD : S.1 173 6 = D) (hD32 : D ≤ 32) (hC : S.1 173 2 = C) (hC16 : C ≤ 16) (hb : (D + C) * z ≤ 102000) (hg : ∀ (d : Nat) (i : Int), d < D → 0 ≤ i → i < z → 0 ≤ g d i ∧ g d i < 256) (hR : RG S) {rr : Option Value} {P : ms → Prop} (k : ∀ T, PC S T g D z (D + C) → ∃ T', EV q 224 123 [some (.ref 173), some (.ref 1), some (vI x2), some (vI x3), some (vI 0)] [] T rr T' ∧ P T') : ∀ (t j : Nat) (T : ms), j + t = C → PC S T g D z (D + j) → ∃ T', EV q 224 99 [some (.ref 173), some (.ref 1), some (vI x2), some (vI x3), some (vI j)] [] T rr T' ∧ P T' := by
  have r1 : isRow 1 6000 := ⟨rfl, rfl⟩
  intro t
  induction t with
  | zero =>
    intro j T hj hT
    have e : j = C := by omega
    subst e
    obtain ⟨T', k1, k2⟩ := k T hT
    refine ⟨T', vc_Parts_make_99 _ _ _ 1 6000 r1 ?_, k2⟩
    rw [hT.2.1 173 2 (by decide), hC]
    exact ⟨fun _ => k1, fun n => absurd (Int.le_refl _) n⟩
  | succ t ih =>
    intro j T hj hT
    obtain ⟨t1, t2, t3⟩ := hT
    have m1 : ((D : Int) + j) * z + z ≤ (D + C) * z := by
      have : ((D : Int) + j + 1) * z ≤ (D + C) * z := Int.mul_le_mul_of_nonneg_right (by omega) (by omega)
      rw [Int.add_mul _ 1, Int.one_mul] at this
      exact this
    have m2 : (D : Int) * z ≤ (D + j) * z := Int.mul_le_mul_of_nonneg_right (by omega) (by omega)
    have m0 : 0 ≤ (D : Int) * z := Int.mul_nonneg (by omega) (by omega)
    obtain ⟨U, kU, u1, u2, u3⟩ := sp_chk (q := q) (S := T) (j := j) (D := D) (z := z) (to := (D + j) * z) (by omega) (by rw [t2 173 6 (by decide), hD]) hD32 (by rw [t2 173 3 (by decide), hz]) (by omega) rfl (by omega) (fun k k0 k1 => by
      obtain ⟨p, i, p0, p1, i0, i1, ek⟩ := pa_dec hz2.1 k0 k1
      have := t3 p.toNat i (by omega) i0 i1
      rw [show ((p.toNat : Nat) : Int) = p by omega] at this
      rw [ek, this]
      exact cF_rg (fun hp => hg _ i hp i0 i1)) (RG_cg hR (fun a k h => t2 a k (by omega)))
    have ec : ∀ i : Int, 0 ≤ i → i < z → ckS (fun d i => T.1 174 (d * z + i)) j D i = ckS g j D i := fun i i0 i1 => ckS_cg (fun d hd => by
      show T.1 174 (d * z + i) = g d i
      rw [t3 d i (by omega) i0 i1]
      unfold cF
      rw [if_pos hd])
    obtain ⟨T', k1, k2⟩ := ih (j + 1) U (by omega) ⟨u1.trans t1, fun a k h => by rw [u2 a k (by omega), t2 a k h], fun l i hl i0 i1 => by
      by_cases cl : l = D + j
      · subst cl
        have e : ((D + j : Nat) : Int) = (D : Int) + j := by omega
        rw [e, u3 i i0 i1, ec i i0 i1]
        unfold cF
        rw [if_neg (by omega), show D + j - D = j by omega]
      · have lt : (l : Int) * z + z ≤ (D + j) * z := by
          have : ((l : Int) + 1) * z ≤ (D + j) * z := Int.mul_le_mul_of_nonneg_right (by omega) (by omega)
          rw [Int.add_mul _ 1, Int.one_mul] at this
          exact this
        rw [u2 _ _ (by omega), t3 l i (by omega) i0 i1]⟩
    have wj : Unit → w32 (j : Int) = j := fun _ => w32_of (by omega)
    have wC' : Unit → w32 (C : Int) = C := fun _ => w32_of (by omega)
    refine ⟨T', vc_Parts_make_99 _ _ _ 1 6000 r1 ?_, k2⟩
    rw [t2 173 2 (by decide), hC, wC' (), wj ()]
    refine ⟨fun n => absurd n (by omega), fun _ => ⟨U, kU, ?_⟩⟩
    rw [show (j : Int) + 1 = ((j + 1 : Nat) : Int) by omega]
    exact k1
/-- the sum of part p -/
def vP (g : Nat → Int → Int) (D : Nat) (z : Int) (p : Nat) : Int := -(crR (fun k => cF g D p k) z.toNat : Nat) - 1
/-- the first p parts are not lost, and have their sums -/
def PE (S T : ms) (cl cv : Nat) (v : Nat → Int) (p : Nat) : Prop := T.2 = S.2 ∧ (∀ (a : Nat) (k : Int), a ≠ cl → a ≠ cv → T.1 a k = S.1 a k) ∧ ∀ l : Nat, l < p → T.1 cl l = 0 ∧ T.1 cv l = v l
theorem lp_mk3 {x2 x3 : Int} {g : Nat → Int → Int} (hz : S.1 173 3 = z) (hz2 : 1 ≤ z ∧ z ≤ 6000) (hD : S.1 173 6 = D) (hD32 : D ≤ 32) (hC : S.1 173 2 = C) (hC16 : C ≤ 16) (hb : (D + C) * z ≤ 102000) (hg : ∀ (d : Nat) (i : Int), d < D → 0 ≤ i → i < z → 0 ≤ g d i ∧ g d i < 256) (hc : ∀ (l : Nat) (i : Int), l < D + C → 0 ≤ i → i < z → S.1 174 (l * z + i) = cF g D l i) : ∀ (t p : Nat) (T : ms), p + t = D + C → PE S T 175 177 (vP g D z) p → ∃ T', EV q 224 123 [some (.ref 173), some (.ref 1), some (vI x2), some (vI x3), some (vI p)] [] T none T' ∧ PE S T' 175 177 (vP g D z) (D + C) := by
  have r1 : isRow 1 6000 := ⟨rfl, rfl⟩
  intro t
  induction t with
  | zero =>
    intro p T hp hT
    refine ⟨T, vc_Parts_make_123 _ _ _ 1 6000 r1 ?_, by rw [show D + C = p by omega]; exact hT⟩
    rw [hT.2.1 173 6 (by decide) (by decide), hT.2.1 173 2 (by decide) (by decide), hD, hC, show (p : Int) = (D : Int) + C by omega]
    exact ⟨fun _ => ⟨rfl, rfl⟩, fun n => absurd (Int.le_refl _) n⟩
  | succ t ih =>
    intro p T hp hT
    obtain ⟨t1, t2, t3⟩ := hT
    have q2 : ∀ (a : Nat) (k : Int), (wI T 175 p 0).1 a k = if a = 175 ∧ k = p then 0 else T.1 a k := fun _ _ => rfl
    have q3 : ∀ (a : Nat) (k : Int), (wI (wI T 175 p 0) 177 p (vP g D z p)).1 a k = if a = 177 ∧ k = p then vP g D z p else if a = 175 ∧ k = p then 0 else T.1 a k := fun _ _ => rfl
    have m1 : (p : Int) * z + z ≤ (D + C) * z := by
      have : ((p : Int) + 1) * z ≤ (D + C) * z := Int.mul_le_mul_of_nonneg_right (by omega) (by omega)
      rw [Int.add_mul _ 1, Int.one_mul] at this
      exact this
    have m0 : 0 ≤ (p : Int) * z := Int.mul_nonneg (by omega) (by omega)
    have en : ((z.toNat : Nat) : Int) = z := by omega
    have crc := sp_crd (q := q) (S := wI T 175 p 0) (c := 174) (n1 := 102000) (n := z.toNat) (fr := p * z) (g := fun k => cF g D p k) rfl (by decide) m0 (by omega) (fun k hk => ⟨cF_rg (fun h => hg p k h (by omega) (by omega)), by rw [q2, if_neg (by omega), t2 174 _ (by decide) (by decide)]; exact hc p k (by omega) (by omega) (by omega)⟩)
    rw [en] at crc
    obtain ⟨T', k1, k2⟩ := ih (p + 1) (wI (wI T 175 p 0) 177 p (vP g D z p)) (by omega) ⟨t1, fun a k h1 h2 => by rw [q3, if_neg (fun y => h2 y.1), if_neg (fun y => h1 y.1), t2 a k h1 h2], fun l hl => by
      by_cases cl : l = p
      · subst cl
        exact ⟨by rw [q3, if_neg (by omega), if_pos ⟨rfl, rfl⟩], by rw [q3, if_pos ⟨rfl, rfl⟩]⟩
      · obtain ⟨y1, y2⟩ := t3 l (by omega)
        exact ⟨by rw [q3, if_neg (by omega), if_neg (by omega), y1], by rw [q3, if_neg (by omega), if_neg (by omega), y2]⟩⟩
    have e3 : (wI T 175 p 0).1 173 3 = z := by rw [q2, if_neg (by omega), t2 173 3 (by decide) (by decide), hz]
    have wp : Unit → w32 (p : Int) = p := fun _ => w32_of (by omega)
    have wN : Unit → w32 ((D : Int) + C) = D + C := fun _ => w32_of (by omega)
    refine ⟨T', vc_Parts_make_123 _ _ _ 1 6000 r1 ?_, k2⟩
    rw [t2 173 6 (by decide) (by decide), t2 173 2 (by decide) (by decide), hD, hC, wN (), wp ()]
    refine ⟨fun n => absurd n (by omega), fun _ => ⟨by omega, fun S2 f => ?_⟩⟩
    have f' : S2 = wI T 175 p 0 := f
    subst f'
    rw [e3]
    refine ⟨_, _, crc, by omega, fun S7 f7 => ?_⟩
    subst f7
    rw [show (p : Int) + 1 = ((p + 1 : Nat) : Int) by omega]
    exact k1
end C
section M
variable {D C : Nat} {n0 z : Int}
theorem lp_mm1' {x2 : Int} (hz : S.1 367 114 = z) (hn : S.1 367 2 = n0) (hn0 : 0 ≤ n0 ∧ n0 ≤ 6000) (hDz : 0 ≤ D * z ∧ D * z ≤ 102000) {f : Int → Int} (hf : ∀ k : Int, 0 ≤ k → k < D * z → (k < n0 → b8 (S.1 368 k) = f k) ∧ (¬ k < n0 → b8 0 = f k)) {rr : Option Value} {T' : ms} (k : EV q 407 124 [some (.ref 367), some (vI D), some (vI x2), some (vI 0)] [] (wC S 439 0 (D * z) f) rr T') : ∀ (t : Nat) (e : Int), 0 ≤ e → e + t = D * z → EV q 407 82 [some (.ref 367), some (vI D), some (vI x2), some (vI e)] [] (wC S 439 0 e f) rr T' := by
  have wz : w32 (D * z) = D * z := w32_of (by omega)
  have wn : w32 n0 = n0 := w32_of (by omega)
  intro t
  induction t with
  | zero =>
    intro e e0 he
    have ee : e = D * z := by omega
    refine vc_MD_protect_82 _ _ _ ?_
    rw [wC_ne _ _ _ _ (by decide), hz, Int.mul_comm z, ee]
    exact ⟨fun _ => k, fun n => absurd (Int.le_refl _) n⟩
  | succ t ih =>
    intro e e0 he
    have we : w32 e = e := w32_of (by omega)
    have gd := wC_gd S 439 0 e f e0
    rw [Int.zero_add] at gd
    have nx := ih (e + 1) (by omega) (by omega)
    obtain ⟨f1, f2⟩ := hf e e0 (by omega)
    refine vc_MD_protect_82 _ _ _ ?_
    rw [wC_ne _ _ _ _ (by decide), wC_ne _ _ _ _ (by decide), hz, hn, Int.mul_comm z, wz, wn, we]
    refine ⟨fun n => absurd n (by omega), fun _ => ⟨fun c => vc_MD_protect_115 _ _ _ _ _ ?_, fun c => ⟨by omega, vc_MD_protect_115 _ _ _ _ _ ?_⟩⟩⟩
    · rw [we, f2 (by omega)]
      refine ⟨by omega, fun S2 g => ?_⟩
      rw [gd] at g
      subst g
      exact nx
    · rw [we, wC_ne _ _ _ _ (by decide), f1 (by omega)]
      refine ⟨by omega, fun S2 g => ?_⟩
      rw [gd] at g
      subst g
      exact nx
/-- the first p parts stand in the reference -/
def PM (S T : ms) (g : Nat → Int → Int) (D : Nat) (z : Int) (p : Nat) : Prop := T.2 = S.2 ∧ (∀ (a : Nat) (k : Int), a ≠ 439 → T.1 a k = S.1 a k) ∧ ∀ (l : Nat) (i : Int), l < p → 0 ≤ i → i < z → T.1 439 (l * z + i) = b8 (cF g D l i)
theorem lp_mm2' {x1 : Int} {g : Nat → Int → Int} (hz : S.1 367 114 = z) (hz2 : 1 ≤ z ∧ z ≤ 6000) (hD : S.1 367 112 = D) (hD32 : D ≤ 32) (hC16 : C ≤ 16) (hb : (D + C) * z ≤ 102000) (hg : ∀ (d : Nat) (i : Int), d < D → 0 ≤ i → i < z → 0 ≤ g d i ∧ g d i < 256) (hR : RG S) {rr : Option Value} {P : ms → Prop} (k : ∀ T, PM S T g D z (D + C) → ∃ T', EV q 407 142 [some (.ref 367), some (vI x1), some (vI C), some (vI 0)] [] T rr T' ∧ P T') : ∀ (t j : Nat) (T : ms), j + t = C → PM S T g D z (D + j) → ∃ T', EV q 407 124 [some (.ref 367), some (vI x1), some (vI C), some (vI j)] [] T rr T' ∧ P T' := by
  intro t
  induction t with
  | zero =>
    intro j T hj hT
    have e : j = C := by omega
    subst e
    obtain ⟨T', k1, k2⟩ := k T hT
    exact ⟨T', vc_MD_protect_124 _ _ _ ⟨fun _ => k1, fun n => absurd (Int.le_refl _) n⟩, k2⟩
  | succ t ih =>
    intro j T hj hT
    obtain ⟨t1, t2, t3⟩ := hT
    have m1 : ((D : Int) + j) * z + z ≤ (D + C) * z := by
      have : ((D : Int) + j + 1) * z ≤ (D + C) * z := Int.mul_le_mul_of_nonneg_right (by omega) (by omega)
      rw [Int.add_mul _ 1, Int.one_mul] at this
      exact this
    have m2 : (D : Int) * z ≤ (D + j) * z := Int.mul_le_mul_of_nonneg_right (by omega) (by omega)
    have m0 : 0 ≤ (D : Int) * z := Int.mul_nonneg (by omega) (by omega)
    obtain ⟨U, kU, u1, u2, u3⟩ := md_chk (q := q) (S := T) (j := j) (D := D) (z := z) (to := (D + j) * z) (g := g) (by omega) (by rw [t2 367 112 (by decide), hD]) hD32 (by rw [t2 367 114 (by decide), hz]) (by omega) rfl (by omega) (fun d i hd i0 i1 => by
      have h1 := hg d i hd i0 i1
      refine ⟨h1, ?_⟩
      rw [Int.mul_comm z, t3 d i (by omega) i0 i1]
      have e : cF g D d i = g d i := by
        unfold cF
        rw [if_pos hd]
      rw [e]
      exact oct_eq h1 rfl) (RG_cg hR (fun a k h => t2 a k (by omega)))
    obtain ⟨T', k1, k2⟩ := ih (j + 1) U (by omega) ⟨u1.trans t1, fun a k h => by rw [u2 a k (by omega), t2 a k h], fun l i hl i0 i1 => by
      by_cases cl : l = D + j
      · subst cl
        have e : ((D + j : Nat) : Int) = (D : Int) + j := by omega
        rw [e, u3 i i0 i1]
        unfold cF
        rw [if_neg (by omega), show D + j - D = j by omega]
      · have lt : (l : Int) * z + z ≤ (D + j) * z := by
          have : ((l : Int) + 1) * z ≤ (D + j) * z := Int.mul_le_mul_of_nonneg_right (by omega) (by omega)
          rw [Int.add_mul _ 1, Int.one_mul] at this
          exact this
        rw [u2 _ _ (by omega), t3 l i (by omega) i0 i1]⟩
    have wj : Unit → w32 (j : Int) = j := fun _ => w32_of (by omega)
    have wC' : Unit → w32 (C : Int) = C := fun _ => w32_of (by omega)
    refine ⟨T', vc_MD_protect_124 _ _ _ ?_, k2⟩
    rw [wC' (), wj ()]
    refine ⟨fun n => absurd n (by omega), fun _ => ⟨U, kU, ?_⟩⟩
    rw [show (j : Int) + 1 = ((j + 1 : Nat) : Int) by omega]
    exact k1
theorem lp_mm3' {g : Nat → Int → Int} (hz : S.1 367 114 = z) (hz2 : 1 ≤ z ∧ z ≤ 6000) (hD32 : D ≤ 32) (hC16 : C ≤ 16) (hb : (D + C) * z ≤ 102000) (hq : ∀ t : Nat, t < 256 → S.1 372 t = rdF 8 t) (hg : ∀ (d : Nat) (i : Int), d < D → 0 ≤ i → i < z → 0 ≤ g d i ∧ g d i < 256) (hc : ∀ (l : Nat) (i : Int), l < D + C → 0 ≤ i → i < z → S.1 439 (l * z + i) = b8 (cF g D l i)) : ∀ (t p : Nat) (T : ms), p + t = D + C → PE S T 441 440 (vP g D z) p → ∃ T', EV q 407 142 [some (.ref 367), some (vI D), some (vI C), some (vI p)] [] T (some (vI z)) T' ∧ PE S T' 441 440 (vP g D z) (D + C) := by
  intro t
  induction t with
  | zero =>
    intro p T hp hT
    refine ⟨T, vc_MD_protect_142 _ _ _ ?_, by rw [show D + C = p by omega]; exact hT⟩
    rw [hT.2.1 367 114 (by decide) (by decide), hz, show (p : Int) = (D : Int) + C by omega]
    exact ⟨fun _ => ⟨rfl, rfl⟩, fun n => absurd (Int.le_refl _) n⟩
  | succ t ih =>
    intro p T hp hT
    obtain ⟨t1, t2, t3⟩ := hT
    have q2 : ∀ (a : Nat) (k : Int), (wI T 441 p 0).1 a k = if a = 441 ∧ k = p then 0 else T.1 a k := fun _ _ => rfl
    have q3 : ∀ (a : Nat) (k : Int), (wI (wI T 441 p 0) 440 p (vP g D z p)).1 a k = if a = 440 ∧ k = p then vP g D z p else if a = 441 ∧ k = p then 0 else T.1 a k := fun _ _ => rfl
    have m1 : (p : Int) * z + z ≤ (D + C) * z := by
      have : ((p : Int) + 1) * z ≤ (D + C) * z := Int.mul_le_mul_of_nonneg_right (by omega) (by omega)
      rw [Int.add_mul _ 1, Int.one_mul] at this
      exact this
    have m0 : 0 ≤ (p : Int) * z := Int.mul_nonneg (by omega) (by omega)
    have mc := Int.mul_comm z p
    have en : ((z.toNat : Nat) : Int) = z := by omega
    have crc := sp_mrd (q := q) (S := wI T 441 p 0) (c := 439) (n1 := 102032) (n := z.toNat) (fr := z * p) (g := fun k => cF g D p k) rfl (by decide) (by omega) (by omega) (fun k hk => by
      have h1 := cF_rg (g := g) (D := D) (p := p) (i := k) (fun h => hg p k h (by omega) (by omega))
      exact ⟨h1, by rw [q2, if_neg (by omega), t2 439 _ (by decide) (by decide), mc, hc p k (by omega) (by omega) (by omega)]; exact oct_eq h1 rfl⟩) (fun t ht => by rw [q2, if_neg (by omega), t2 372 _ (by decide) (by decide)]; exact hq t ht)
    rw [en] at crc
    obtain ⟨T', k1, k2⟩ := ih (p + 1) (wI (wI T 441 p 0) 440 p (vP g D z p)) (by omega) ⟨t1, fun a k h1 h2 => by rw [q3, if_neg (fun y => h2 y.1), if_neg (fun y => h1 y.1), t2 a k h1 h2], fun l hl => by
      by_cases cl : l = p
      · subst cl
        exact ⟨by rw [q3, if_neg (by omega), if_pos ⟨rfl, rfl⟩], by rw [q3, if_pos ⟨rfl, rfl⟩]⟩
      · obtain ⟨y1, y2⟩ := t3 l (by omega)
        exact ⟨by rw [q3, if_neg (by omega), if_neg (by omega), y1], by rw [q3, if_neg (by omega), if_neg (by omega), y2]⟩⟩
    have e3 : (wI T 441 p 0).1 367 114 = z := by rw [q2, if_neg (by omega), t2 367 114 (by decide) (by decide), hz]
    have wp : Unit → w32 (p : Int) = p := fun _ => w32_of (by omega)
    have wN : Unit → w32 ((D : Int) + C) = D + C := fun _ => w32_of (by omega)
    refine ⟨T', vc_MD_protect_142 _ _ _ ?_, k2⟩
    rw [wN (), wp ()]
    refine ⟨fun n => absurd n (by omega), fun _ => ⟨by omega, fun S2 f => ?_⟩⟩
    have f' : S2 = wI T 441 p 0 := f
    subst f'
    refine ⟨z * p, _, vc_MD_partAt _ ⟨by rw [e3], rfl⟩, ?_⟩
    rw [e3]
    refine ⟨_, _, crc, by omega, fun S7 f7 => ?_⟩
    subst f7
    rw [show (p : Int) + 1 = ((p + 1 : Nat) : Int) by omega]
    exact k1
end M
end Protect2
