/-! repair: all octets of what is missing, on both sides -/
section Octets
variable {q : Nat × (Nat → Int32)} {S T : ms} {n D N : Nat} {z : Int} {mi ch iv : Nat → Nat} {go : Nat → Int} {M : Nat → Nat → Int}
/-- the numbers of a repair -/
def RH (n D N : Nat) (z : Int) (mi ch iv : Nat → Nat) (go : Nat → Int) (M : Nat → Nat → Int) : Prop := (n ≤ 16 ∧ D ≤ 32 ∧ D ≤ N ∧ N ≤ 48) ∧ (1 ≤ z ∧ z ≤ 6000 ∧ (N : Int) * z ≤ 102000) ∧ (∀ k, k < n → ch k < 16 ∧ D + ch k < N ∧ mi k < D ∧ go (mi k) = 1 ∧ iv (mi k) = k) ∧ (∀ d, d < D → (go d = 0 ∨ go d = 1) ∧ (go d = 1 → iv d < n ∧ mi (iv d) = d)) ∧ mR M
/-- what stands ready on the class's side, and on the reference's -/
def OCc (S : ms) (n D : Nat) (z : Int) (mi ch : Nat → Nat) (go : Nat → Int) (M : Nat → Nat → Int) : Prop := (S.1 173 5 = n ∧ S.1 173 6 = D ∧ S.1 173 3 = z) ∧ (∀ k, k < n → S.1 179 k = ch k ∧ S.1 178 k = mi k) ∧ (∀ d, d < D → S.1 176 d = go d) ∧ (∀ r k, r < n → k < n → S.1 181 (r * 32 + ((16 + k : Nat) : Int)) = M r (16 + k)) ∧ RG S
def OCm (S : ms) (n D : Nat) (z : Int) (mi ch : Nat → Nat) (go : Nat → Int) (M : Nat → Nat → Int) : Prop := (S.1 367 112 = D ∧ S.1 367 114 = z) ∧ (∀ k, k < n → S.1 444 k = ch k ∧ S.1 445 k = mi k) ∧ (∀ d, d < D → S.1 442 d = go d) ∧ (∀ r k, r < n → k < n → S.1 443 (r * (2 * n) + ((n + k : Nat) : Int)) = M r (16 + k)) ∧ RG S
/-- the sums of column i, and what the column becomes -/
def sgo (D : Nat) (ch : Nat → Nat) (go : Nat → Int) (F : Nat → Int → Int) (i : Int) (k : Nat) : Int := sD (fun p => F p i) go (ch k) (F (D + ch k) i) D
def cF1 (n D : Nat) (ch iv : Nat → Nat) (go : Nat → Int) (M : Nat → Nat → Int) (F : Nat → Int → Int) (i : Int) (p : Nat) (e : Int) : Int := if e = i ∧ p < D ∧ go p = 1 then vR M (sgo D ch go F i) (iv p) n else F p e
def fR (N : Nat) (z : Int) (F : Nat → Int → Int) : Prop := ∀ p e, p < N → 0 ≤ e → e < z → 0 ≤ F p e ∧ F p e < 256
theorem cF1_rg {F : Nat → Int → Int} (h : fR N z F) (i : Int) : fR N z (cF1 n D ch iv go M F i) := by
  intro p e hp e0 e1
  unfold cF1
  split
  · exact vR_rg _ _ _ _
  · exact h p e hp e0 e1
def CS (S T : ms) (N : Nat) (z : Int) (F : Nat → Int → Int) : Prop := T.2 = S.2 ∧ (∀ (a : Nat) (k : Int), a ≠ 174 → a ≠ 180 → T.1 a k = S.1 a k) ∧ ∀ (p : Nat) (e : Int), p < N → 0 ≤ e → e < z → T.1 174 (p * z + e) = F p e
def MSt (S T : ms) (N : Nat) (z : Int) (F : Nat → Int → Int) : Prop := T.2 = S.2 ∧ (∀ (a : Nat) (k : Int), a ≠ 439 → a ≠ 408 → T.1 a k = S.1 a k) ∧ ∀ (p : Nat) (e : Int), p < N → 0 ≤ e → e < z → T.1 439 (z * p + e) = b8 (F p e)
theorem pz_inj {p p' : Nat} {e e' : Int} (hz : 1 ≤ z) (e0 : 0 ≤ e) (e1 : e < z) (e0' : 0 ≤ e') (e1' : e' < z) (h : (p : Int) * z + e = p' * z + e') : p = p' ∧ e = e' := by
  have := ix_inj (w := z.toNat) (r := p) (b := e.toNat) (r' := p') (b' := e'.toNat) (by omega) (by omega) (by
    rw [show ((z.toNat : Nat) : Int) = z by omega, show ((e.toNat : Nat) : Int) = e by omega, show ((e'.toNat : Nat) : Int) = e' by omega]
    exact h)
  exact ⟨this.1, by omega⟩
theorem lp_ob1 {F : Nat → Int → Int} {i : Int} (hH : RH n D N z mi ch iv go M) (hC : OCc S n D z mi ch go M) (hF : fR N z F) (hi : 0 ≤ i ∧ i < z) {rr : Option Value} {P : ms → Prop} (nx : ∀ U, CS S U N z F → (∀ k : Nat, k < n → U.1 180 k = sgo D ch go F i k) → ∃ T', EV q 237 110 [some (.ref 173), some (vI i), some (vI 0), none, none] [] U rr T' ∧ P T') : ∀ (t k : Nat) (U : ms), k + t = n → CS S U N z F → (∀ l : Nat, l < k → U.1 180 l = sgo D ch go F i l) → ∃ T', EV q 237 2 [some (.ref 173), some (vI i), some (vI k), none, none] [] U rr T' ∧ P T' := by
  obtain ⟨⟨a1, a2, a3, a4⟩, ⟨b1, b2, b3⟩, hk, hd, hM⟩ := hH
  obtain ⟨⟨c1, c2, c3⟩, c4, c5, c6, c7⟩ := hC
  intro t
  induction t with
  | zero =>
    intro k U hk' hU hs
    have e : k = n := by omega
    subst e
    obtain ⟨T', k1, k2⟩ := nx U hU hs
    refine ⟨T', vc_Parts_octetAgain_2 _ _ ?_, k2⟩
    rw [hU.2.1 173 5 (by decide) (by decide), c1]
    exact ⟨fun _ => k1, fun n => absurd (Int.le_refl _) n⟩
  | succ t ih =>
    intro k U hk' hU hs
    obtain ⟨k1, k2, k3, k4, k5⟩ := hk k (by omega)
    obtain ⟨y1, y2⟩ := c4 k (by omega)
    have hRU : RG U := RG_cg c7 (fun a k h => hU.2.1 a k (by omega) (by omega))
    have ob := hF (D + ch k) i k2 hi.1 hi.2
    have vb := hU.2.2 (D + ch k) i k2 hi.1 hi.2
    rw [show ((D + ch k : Nat) : Int) = (D : Int) + ch k by omega] at vb
    have ix := pa_ix (D := N) (z := z) (p := (D : Int) + ch k) (i := i) (by omega) (by omega) hi.1 hi.2
    have hU2 : CS S (wI U 180 k (sgo D ch go F i k)) N z F := ⟨hU.1, fun a e h1 h2 => by rw [rI_I, if_neg (fun y => h2 y.1), hU.2.1 a e h1 h2], fun p e hp e0 e1 => by rw [rI_I, if_neg (by omega), hU.2.2 p e hp e0 e1]⟩
    obtain ⟨T', m1, m2⟩ := ih (k + 1) (wI U 180 k (sgo D ch go F i k)) (by omega) hU2 (fun l hl => by
      rw [rI_I]
      by_cases cl : l = k
      · subst cl
        rw [if_pos ⟨rfl, rfl⟩]
      · rw [if_neg (by omega), hs l (by omega)])
    rw [show ((k + 1 : Nat) : Int) = (k : Int) + 1 by omega] at m1
    have kk := lp_oc1 (q := q) (T := U) (D := D) (N := N) (z := z) (i := i) (j := ch k) (k := k) (o := fun p => F p i) (go := go) (b := F (D + ch k) i) k1 (by omega) (by rw [hU.2.1 _ _ (by decide) (by decide), c2]) a2 a3 (by rw [hU.2.1 _ _ (by decide) (by decide), c3]) (by omega) b3 (by rw [hU.2.1 _ _ (by decide) (by decide), y1]) (fun d hd' => ⟨(hd d hd').1, by rw [hU.2.1 _ _ (by decide) (by decide)]; exact c5 d hd'⟩) (fun p hp => ⟨hF p i hp hi.1 hi.2, hU.2.2 p i hp hi.1 hi.2⟩) hRU m1 D 0 (by omega)
    have z0 : ¬ (n : Int) ≤ k := by omega
    have z1 : 0 ≤ (k : Int) ∧ (k : Int) < (16 : Nat) := by omega
    have z3 : 0 ≤ ((D : Int) + ch k) * z + i ∧ ((D : Int) + ch k) * z + i < (102000 : Nat) := by omega
    have wx : w32 (((D : Int) + ch k) * z + i) = ((D : Int) + ch k) * z + i := w32_of (by omega)
    have wk : Unit → w32 (k : Int) = k := fun _ => w32_of (by omega)
    have wn : Unit → w32 (n : Int) = n := fun _ => w32_of (by omega)
    refine ⟨T', vc_Parts_octetAgain_2 _ _ ?_, m2⟩
    rw [hU.2.1 173 5 (by decide) (by decide), c1, hU.2.1 173 6 (by decide) (by decide), c2, hU.2.1 173 3 (by decide) (by decide), c3, wn (), wk (), hU.2.1 179 _ (by decide) (by decide), y1, wx, vb]
    exact ⟨fun n => absurd n z0, fun _ => ⟨z1, z3, kk⟩⟩
theorem lp_ob2 {F : Nat → Int → Int} {i : Int} (hH : RH n D N z mi ch iv go M) (hC : OCc S n D z mi ch go M) (hF : fR N z F) (hi : 0 ≤ i ∧ i < z) : ∀ (t r : Nat) (U : ms), r + t = n → CS S U N z (fun p e => if e = i ∧ p < D ∧ go p = 1 ∧ iv p < r then vR M (sgo D ch go F i) (iv p) n else F p e) → (∀ l : Nat, l < n → U.1 180 l = sgo D ch go F i l) → ∃ T', EV q 237 110 [some (.ref 173), some (vI i), some (vI r), none, none] [] U none T' ∧ CS S T' N z (cF1 n D ch iv go M F i) := by
  obtain ⟨⟨a1, a2, a3, a4⟩, ⟨b1, b2, b3⟩, hk, hd, hM⟩ := hH
  obtain ⟨⟨c1, c2, c3⟩, c4, c5, c6, c7⟩ := hC
  intro t
  induction t with
  | zero =>
    intro r U hr hU hs
    have e : r = n := by omega
    subst e
    refine ⟨U, vc_Parts_octetAgain_110 _ _ ?_, hU.1, hU.2.1, fun p e hp e0 e1 => ?_⟩
    · rw [hU.2.1 173 5 (by decide) (by decide), c1]
      exact ⟨fun _ => ⟨rfl, rfl⟩, fun n => absurd (Int.le_refl _) n⟩
    · rw [hU.2.2 p e hp e0 e1]
      show (if e = i ∧ p < D ∧ go p = 1 ∧ iv p < r then vR M (sgo D ch go F i) (iv p) r else F p e) = cF1 r D ch iv go M F i p e
      unfold cF1
      by_cases y : e = i ∧ p < D ∧ go p = 1
      · rw [if_pos y, if_pos ⟨y.1, y.2.1, y.2.2, ((hd p y.2.1).2 y.2.2).1⟩]
      · rw [if_neg y, if_neg (fun w => y ⟨w.1, w.2.1, w.2.2.1⟩)]
  | succ t ih =>
    intro r U hr hU hs
    obtain ⟨k1, k2, k3, k4, k5⟩ := hk r (by omega)
    obtain ⟨y1, y2⟩ := c4 r (by omega)
    have hRU : RG U := RG_cg c7 (fun a k h => hU.2.1 a k (by omega) (by omega))
    have q2 : ∀ (a : Nat) (e : Int), (wI U 174 (mi r * z + i) (vR M (sgo D ch go F i) r n)).1 a e = if a = 174 ∧ e = mi r * z + i then vR M (sgo D ch go F i) r n else U.1 a e := fun _ _ => rfl
    obtain ⟨T', m1, m2⟩ := ih (r + 1) (wI U 174 (mi r * z + i) (vR M (sgo D ch go F i) r n)) (by omega) ⟨hU.1, fun a e h1 h2 => by rw [q2, if_neg (fun y => h1 y.1), hU.2.1 a e h1 h2], fun p e hp e0 e1 => by
      rw [q2]
      show _ = if e = i ∧ p < D ∧ go p = 1 ∧ iv p < r + 1 then vR M (sgo D ch go F i) (iv p) n else F p e
      by_cases y : (p : Int) * z + e = mi r * z + i
      · obtain ⟨p1, p2⟩ := pz_inj b1 e0 e1 hi.1 hi.2 y
        rw [if_pos ⟨rfl, y⟩, if_pos ⟨p2, by omega, by rw [p1]; exact k4, by rw [p1, k5]; omega⟩, p1, k5]
      · have hv : U.1 174 (p * z + e) = if e = i ∧ p < D ∧ go p = 1 ∧ iv p < r then vR M (sgo D ch go F i) (iv p) n else F p e := hU.2.2 p e hp e0 e1
        rw [if_neg (fun w => y w.2), hv]
        by_cases w : e = i ∧ p < D ∧ go p = 1 ∧ iv p < r
        · rw [if_pos w, if_pos ⟨w.1, w.2.1, w.2.2.1, by omega⟩]
        · rw [if_neg w, if_neg (fun v => w ⟨v.1, v.2.1, v.2.2.1, by
            have h1 := ((hd p v.2.1).2 v.2.2.1).2
            have h2 : iv p ≠ r := fun x => y (by rw [← x, h1, v.1])
            omega⟩)]⟩ (fun l hl => by rw [q2, if_neg (by omega), hs l hl])
    rw [show ((r + 1 : Nat) : Int) = (r : Int) + 1 by omega] at m1
    have kk := lp_oc2 (q := q) (T := U) (n := n) (N := N) (z := z) (i := i) (r := r) (mr := mi r) (M := M) (s := sgo D ch go F i) (by omega) a1 (by rw [hU.2.1 _ _ (by decide) (by decide), c1]) (by rw [hU.2.1 _ _ (by decide) (by decide), c3]) (by omega) (by omega) b3 (by rw [hU.2.1 _ _ (by decide) (by decide), y2]) (fun k hk' => ⟨hM _ _, by rw [hU.2.1 _ _ (by decide) (by decide)]; exact c6 r k (by omega) hk'⟩) (fun k hk' => ⟨sD_rg (hF _ _ (hk k hk').2.1 hi.1 hi.2) D, hs k hk'⟩) hRU m1 n 0 (by omega)
    have z0 : ¬ (n : Int) ≤ r := by omega
    have wr : Unit → w32 (r : Int) = r := fun _ => w32_of (by omega)
    have wn : Unit → w32 (n : Int) = n := fun _ => w32_of (by omega)
    refine ⟨T', vc_Parts_octetAgain_110 _ _ ?_, m2⟩
    rw [hU.2.1 173 5 (by decide) (by decide), c1, wn (), wr ()]
    exact ⟨fun n => absurd n z0, fun _ => kk⟩
/-- octetAgain(i) -/
theorem sp_oct {F : Nat → Int → Int} {i : Int} (hH : RH n D N z mi ch iv go M) (hC : OCc S n D z mi ch go M) (hF : fR N z F) (hi : 0 ≤ i ∧ i < z) (hT : CS S T N z F) : ∃ T', EV q 237 0 [some (.ref 173), some (vI i), none, none, none] [] T none T' ∧ CS S T' N z (cF1 n D ch iv go M F i) := by
  obtain ⟨T', k1, k2⟩ := lp_ob1 (q := q) (P := fun T' => CS S T' N z (cF1 n D ch iv go M F i)) (rr := none) hH hC hF hi (fun U hU hs => lp_ob2 (q := q) hH hC hF hi n 0 U (by omega) ⟨hU.1, hU.2.1, fun p e hp e0 e1 => by
    rw [hU.2.2 p e hp e0 e1]
    exact (if_neg (by omega)).symm⟩ hs) n 0 T (by omega) hT (fun l hl => absurd hl (by omega))
  exact ⟨T', vc_Parts_octetAgain _ k1, k2⟩
theorem lp_on1 {F : Nat → Int → Int} {i : Int} (hH : RH n D N z mi ch iv go M) (hC : OCm S n D z mi ch go M) (hF : fR N z F) (hi : 0 ≤ i ∧ i < z) {rr : Option Value} {P : ms → Prop} (nx : ∀ U, MSt S U N z F → (∀ k : Nat, k < n → U.1 408 k = sgo D ch go F i k) → ∃ T', EV q 419 467 [some (.ref 367), some (vI n), some (vI (2 * (n : Int))), some (vI i), some (vI 0), none, none, none, none] [] U rr T' ∧ P T') : ∀ (t k : Nat) (U : ms), k + t = n → MSt S U N z F → (∀ l : Nat, l < k → U.1 408 l = sgo D ch go F i l) → ∃ T', EV q 419 341 [some (.ref 367), some (vI n), some (vI (2 * (n : Int))), some (vI i), some (vI k), none, none, none, none] [] U rr T' ∧ P T' := by
  obtain ⟨⟨a1, a2, a3, a4⟩, ⟨b1, b2, b3⟩, hk, hd, hM⟩ := hH
  obtain ⟨⟨c2, c3⟩, c4, c5, c6, c7⟩ := hC
  intro t
  induction t with
  | zero =>
    intro k U hk' hU hs
    have e : k = n := by omega
    subst e
    obtain ⟨T', k1, k2⟩ := nx U hU hs
    exact ⟨T', vc_MD_solve_341 _ _ _ _ ⟨fun _ => k1, fun n => absurd (Int.le_refl _) n⟩, k2⟩
  | succ t ih =>
    intro k U hk' hU hs
    obtain ⟨k1, k2, k3, k4, k5⟩ := hk k (by omega)
    obtain ⟨y1, y2⟩ := c4 k (by omega)
    have hRU : RG U := RG_cg c7 (fun a k h => hU.2.1 a k (by omega) (by omega))
    have ob := hF (D + ch k) i k2 hi.1 hi.2
    have vb := hU.2.2 (D + ch k) i k2 hi.1 hi.2
    rw [show ((D + ch k : Nat) : Int) = (D : Int) + ch k by omega] at vb
    have vb2 : U.1 439 (z * ((D : Int) + ch k) + i) % 256 = F (D + ch k) i := oct_eq ob vb
    have ix := pa_ix (D := N) (z := z) (p := (D : Int) + ch k) (i := i) (by omega) (by omega) hi.1 hi.2
    have mc := Int.mul_comm z ((D : Int) + ch k)
    have hU2 : MSt S (wI U 408 k (sgo D ch go F i k)) N z F := ⟨hU.1, fun a e h1 h2 => by rw [rI_I, if_neg (fun y => h2 y.1), hU.2.1 a e h1 h2], fun p e hp e0 e1 => by rw [rI_I, if_neg (by omega), hU.2.2 p e hp e0 e1]⟩
    obtain ⟨T', m1, m2⟩ := ih (k + 1) (wI U 408 k (sgo D ch go F i k)) (by omega) hU2 (fun l hl => by
      rw [rI_I]
      by_cases cl : l = k
      · subst cl
        rw [if_pos ⟨rfl, rfl⟩]
      · rw [if_neg (by omega), hs l (by omega)])
    rw [show ((k + 1 : Nat) : Int) = (k : Int) + 1 by omega] at m1
    have kk := lp_om1 (q := q) (T := U) (n := n) (D := D) (N := N) (z := z) (i := i) (x2 := 2 * (n : Int)) (j := ch k) (k := k) (o := fun p => F p i) (go := go) (b := F (D + ch k) i) ob k1 (by omega) (by rw [hU.2.1 _ _ (by decide) (by decide), c2]) a2 a3 (by rw [hU.2.1 _ _ (by decide) (by decide), c3]) (by omega) b3 (fun d hd' => ⟨(hd d hd').1, by rw [hU.2.1 _ _ (by decide) (by decide)]; exact c5 d hd'⟩) (fun p hp => ⟨hF p i hp hi.1 hi.2, oct_eq (hF p i hp hi.1 hi.2) (hU.2.2 p i hp hi.1 hi.2)⟩) hRU m1 D 0 (by omega)
    have z0 : ¬ (n : Int) ≤ k := by omega
    have z1 : 0 ≤ (k : Int) ∧ (k : Int) < (16 : Nat) := by omega
    have z3 : 0 ≤ z * ((D : Int) + ch k) + i ∧ z * ((D : Int) + ch k) + i < (102032 : Nat) := by omega
    have wx : w32 (z * ((D : Int) + ch k) + i) = z * ((D : Int) + ch k) + i := w32_of (by omega)
    have wk : Unit → w32 (k : Int) = k := fun _ => w32_of (by omega)
    have wn : Unit → w32 (n : Int) = n := fun _ => w32_of (by omega)
    refine ⟨T', vc_MD_solve_341 _ _ _ _ ?_, m2⟩
    rw [wn (), wk (), hU.2.1 444 _ (by decide) (by decide), y1, hU.2.1 367 112 (by decide) (by decide), c2]
    refine ⟨fun n => absurd n z0, fun _ => ⟨z1, z * ((D : Int) + ch k), U, vc_MD_partAt _ ⟨by rw [hU.2.1 367 114 (by decide) (by decide), c3], rfl⟩, ?_⟩⟩
    rw [wx, vb2]
    exact ⟨z3, kk⟩
theorem lp_on2 {F : Nat → Int → Int} {i : Int} (hH : RH n D N z mi ch iv go M) (hC : OCm S n D z mi ch go M) (hF : fR N z F) (hi : 0 ≤ i ∧ i < z) {rr : Option Value} {P : ms → Prop} (nx : ∀ U, MSt S U N z (cF1 n D ch iv go M F i) → ∃ T', EV q 419 330 [some (.ref 367), some (vI n), some (vI (2 * (n : Int))), some (vI (i + 1)), none, none, none, none, none] [] U rr T' ∧ P T') : ∀ (t r : Nat) (U : ms), r + t = n → MSt S U N z (fun p e => if e = i ∧ p < D ∧ go p = 1 ∧ iv p < r then vR M (sgo D ch go F i) (iv p) n else F p e) → (∀ l : Nat, l < n → U.1 408 l = sgo D ch go F i l) → ∃ T', EV q 419 467 [some (.ref 367), some (vI n), some (vI (2 * (n : Int))), some (vI i), some (vI r), none, none, none, none] [] U rr T' ∧ P T' := by
  obtain ⟨⟨a1, a2, a3, a4⟩, ⟨b1, b2, b3⟩, hk, hd, hM⟩ := hH
  obtain ⟨⟨c2, c3⟩, c4, c5, c6, c7⟩ := hC
  intro t
  induction t with
  | zero =>
    intro r U hr hU hs
    have e : r = n := by omega
    subst e
    obtain ⟨T', k1, k2⟩ := nx U ⟨hU.1, hU.2.1, fun p e hp e0 e1 => by
      rw [hU.2.2 p e hp e0 e1]
      show b8 (if e = i ∧ p < D ∧ go p = 1 ∧ iv p < r then vR M (sgo D ch go F i) (iv p) r else F p e) = b8 (cF1 r D ch iv go M F i p e)
      unfold cF1
      by_cases y : e = i ∧ p < D ∧ go p = 1
      · rw [if_pos y, if_pos ⟨y.1, y.2.1, y.2.2, ((hd p y.2.1).2 y.2.2).1⟩]
      · rw [if_neg y, if_neg (fun w => y ⟨w.1, w.2.1, w.2.2.1⟩)]⟩
    exact ⟨T', vc_MD_solve_467 _ _ _ _ ⟨fun _ => k1, fun n => absurd (Int.le_refl _) n⟩, k2⟩
  | succ t ih =>
    intro r U hr hU hs
    obtain ⟨k1, k2, k3, k4, k5⟩ := hk r (by omega)
    obtain ⟨y1, y2⟩ := c4 r (by omega)
    have hRU : RG U := RG_cg c7 (fun a k h => hU.2.1 a k (by omega) (by omega))
    have q2 : ∀ (a : Nat) (e : Int), (wI U 439 (z * mi r + i) (b8 (vR M (sgo D ch go F i) r n))).1 a e = if a = 439 ∧ e = z * mi r + i then b8 (vR M (sgo D ch go F i) r n) else U.1 a e := fun _ _ => rfl
    obtain ⟨T', m1, m2⟩ := ih (r + 1) (wI U 439 (z * mi r + i) (b8 (vR M (sgo D ch go F i) r n))) (by omega) ⟨hU.1, fun a e h1 h2 => by rw [q2, if_neg (fun y => h1 y.1), hU.2.1 a e h1 h2], fun p e hp e0 e1 => by
      rw [q2]
      show _ = b8 (if e = i ∧ p < D ∧ go p = 1 ∧ iv p < r + 1 then vR M (sgo D ch go F i) (iv p) n else F p e)
      by_cases y : z * (p : Int) + e = z * mi r + i
      · obtain ⟨p1, p2⟩ := pz_inj (p := p) (p' := mi r) b1 e0 e1 hi.1 hi.2 (by rw [Int.mul_comm (p : Int), Int.mul_comm ((mi r : Nat) : Int)]; exact y)
        rw [if_pos ⟨rfl, y⟩, if_pos ⟨p2, by omega, by rw [p1]; exact k4, by rw [p1, k5]; omega⟩, p1, k5]
      · have hv : U.1 439 (z * p + e) = b8 (if e = i ∧ p < D ∧ go p = 1 ∧ iv p < r then vR M (sgo D ch go F i) (iv p) n else F p e) := hU.2.2 p e hp e0 e1
        rw [if_neg (fun w => y w.2), hv]
        by_cases w : e = i ∧ p < D ∧ go p = 1 ∧ iv p < r
        · rw [if_pos w, if_pos ⟨w.1, w.2.1, w.2.2.1, by omega⟩]
        · rw [if_neg w, if_neg (fun v => w ⟨v.1, v.2.1, v.2.2.1, by
            have h1 := ((hd p v.2.1).2 v.2.2.1).2
            have h2 : iv p ≠ r := fun x => y (by rw [← x, h1, v.1])
            omega⟩)]⟩ (fun l hl => by rw [q2, if_neg (by omega), hs l hl])
    rw [show ((r + 1 : Nat) : Int) = (r : Int) + 1 by omega] at m1
    have kk := lp_om2 (q := q) (T := U) (n := n) (N := N) (z := z) (i := i) (r := r) (mr := mi r) (M := M) (s := sgo D ch go F i) (by omega) a1 (by rw [hU.2.1 _ _ (by decide) (by decide), c3]) (by omega) (by omega) b3 (by rw [hU.2.1 _ _ (by decide) (by decide), y2]) (fun k hk' => ⟨hM _ _, by rw [hU.2.1 _ _ (by decide) (by decide)]; exact c6 r k (by omega) hk'⟩) (fun k hk' => ⟨sD_rg (hF _ _ (hk k hk').2.1 hi.1 hi.2) D, hs k hk'⟩) hRU m1 n 0 (by omega)
    have z0 : ¬ (n : Int) ≤ r := by omega
    have wr : Unit → w32 (r : Int) = r := fun _ => w32_of (by omega)
    have wn : Unit → w32 (n : Int) = n := fun _ => w32_of (by omega)
    refine ⟨T', vc_MD_solve_467 _ _ _ _ ?_, m2⟩
    rw [wn (), wr ()]
    exact ⟨fun n => absurd n z0, fun _ => kk⟩
/-- what all columns become -/
def itF (n D : Nat) (ch iv : Nat → Nat) (go : Nat → Int) (M : Nat → Nat → Int) (F : Nat → Int → Int) : Nat → Nat → Int → Int
  | 0 => F
  | i + 1 => cF1 n D ch iv go M (itF n D ch iv go M F i) i
theorem itF_rg {F : Nat → Int → Int} (h : fR N z F) : ∀ i, fR N z (itF n D ch iv go M F i)
  | 0 => h
  | i + 1 => cF1_rg (itF_rg h i) i
/-- the class has all octets again -/
theorem lp_oall {F : Nat → Int → Int} {x1 : Int} (hH : RH n D N z mi ch iv go M) (hC : OCc S n D z mi ch go M) (hF : fR N z F) {rr : Option Value} {P : ms → Prop} (nx : ∀ U, CS S U N z (itF n D ch iv go M F z.toNat) → ∃ T', EV q 235 83 [some (.ref 173), some (vI x1), some (vI z)] [] U rr T' ∧ P T') : ∀ (t i : Nat) (U : ms), (i : Int) + t = z → CS S U N z (itF n D ch iv go M F i) → ∃ T', EV q 235 64 [some (.ref 173), some (vI x1), some (vI i)] [] U rr T' ∧ P T' := by
  have b1 := hH.2.1
  intro t
  induction t with
  | zero =>
    intro i U hi hU
    have e : (i : Int) = z := by omega
    obtain ⟨T', k1, k2⟩ := nx U (by rw [show z.toNat = i by omega]; exact hU)
    refine ⟨T', vc_Parts_haveAgain_64 _ _ ?_, k2⟩
    rw [hU.2.1 173 3 (by decide) (by decide), hC.1.2.2, e]
    exact ⟨fun _ => k1, fun n => absurd (Int.le_refl _) n⟩
  | succ t ih =>
    intro i U hi hU
    obtain ⟨V, kV, hV⟩ := sp_oct (q := q) (i := i) hH hC (itF_rg hF i) (by omega) hU
    obtain ⟨T', k1, k2⟩ := ih (i + 1) V (by omega) hV
    have z0 : ¬ z ≤ (i : Int) := by omega
    have wz : w32 z = z := w32_of (by omega)
    have wi : Unit → w32 (i : Int) = i := fun _ => w32_of (by omega)
    refine ⟨T', vc_Parts_haveAgain_64 _ _ ?_, k2⟩
    rw [hU.2.1 173 3 (by decide) (by decide), hC.1.2.2, wz, wi ()]
    refine ⟨fun n => absurd n z0, fun _ => ⟨V, kV, ?_⟩⟩
    rw [show (i : Int) + 1 = ((i + 1 : Nat) : Int) by omega]
    exact k1
/-- the reference has all octets again -/
theorem lp_onall {F : Nat → Int → Int} (hH : RH n D N z mi ch iv go M) (hC : OCm S n D z mi ch go M) (hF : fR N z F) : ∀ (t i : Nat) (U : ms), (i : Int) + t = z → MSt S U N z (itF n D ch iv go M F i) → ∃ T', EV q 419 330 [some (.ref 367), some (vI n), some (vI (2 * (n : Int))), some (vI i), none, none, none, none, none] [] U none T' ∧ MSt S T' N z (itF n D ch iv go M F z.toNat) := by
  have b1 := hH.2.1
  intro t
  induction t with
  | zero =>
    intro i U hi hU
    have e : (i : Int) = z := by omega
    refine ⟨U, vc_MD_solve_330 _ _ _ ?_, by rw [show z.toNat = i by omega]; exact hU⟩
    rw [hU.2.1 367 114 (by decide) (by decide), hC.1.2, e]
    exact ⟨fun _ => ⟨rfl, rfl⟩, fun n => absurd (Int.le_refl _) n⟩
  | succ t ih =>
    intro i U hi hU
    obtain ⟨T', k1, k2⟩ := lp_on1 (q := q) (i := i) (rr := none) (P := fun T' => MSt S T' N z (itF n D ch iv go M F z.toNat)) hH hC (itF_rg hF i) (by omega) (fun V hV hs => lp_on2 (q := q) (i := i) hH hC (itF_rg hF i) (by omega) (fun W hW => by
      rw [show (i : Int) + 1 = ((i + 1 : Nat) : Int) by omega]
      exact ih (i + 1) W (by omega) hW) n 0 V (by omega) ⟨hV.1, hV.2.1, fun p e hp e0 e1 => by
        rw [hV.2.2 p e hp e0 e1]
        exact congrArg b8 (if_neg (by omega)).symm⟩ hs) n 0 U (by omega) hU (fun l hl => absurd hl (by omega))
    have z0 : ¬ z ≤ (i : Int) := by omega
    have wz : w32 z = z := w32_of (by omega)
    have wi : Unit → w32 (i : Int) = i := fun _ => w32_of (by omega)
    refine ⟨T', vc_MD_solve_330 _ _ _ ?_, k2⟩
    rw [hU.2.1 367 114 (by decide) (by decide), hC.1.2, wz, wi ()]
    exact ⟨fun n => absurd n z0, fun _ => k1⟩
end Octets
