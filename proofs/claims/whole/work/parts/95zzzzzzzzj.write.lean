/-! write: the card of a TAPE, the class -/
section WrB
variable {q : Nat × (Nat → Int32)}
def cW (p n : Nat) (f : Nat → Int) (c : Int → Int) (k : Int) : Int := if (p : Int) ≤ k ∧ k < (p : Int) + n then f (k - p).toNat else c k
theorem cW_cg {p n : Nat} {f : Nat → Int} {c c' : Int → Int} (h : ∀ k : Int, 0 ≤ k → k < 512 → c k = c' k) {k : Int} (k0 : 0 ≤ k) (k1 : k < 512) : cW p n f c k = cW p n f c' k := by
  unfold cW
  rw [h k k0 k1]
theorem cl_eigW {sh : Nat} {v : Int} {p n : Nat} {c : Int → Int} {A : ms} (hs : isShelf sh) (hv : 0 ≤ v ∧ v < 2147483648) (hp : p + n ≤ 512) (hn : n ≤ 11) (hc : ∀ k : Int, 0 ≤ k → k < 512 → A.1 (sh + 7) k = c k) : ∃ A', EX (fun a _ => a = sh + 7) A A' ∧ (∀ k : Int, 0 ≤ k → k < 512 → A'.1 (sh + 7) k = cW p n (egF v n) c k) ∧ EV q 185 0 [some (.ref sh), some (vI p), some (vI n), some (vI v), none, none] [] A none A' := by
  obtain ⟨A', g1, g2, g3⟩ := cl_eig (q := q) (x3 := v) (p := p) hs hv hp hn n A (Nat.le_refl _) (fun k h1 h2 => absurd h2 (by omega))
  refine ⟨A', g1.mono (fun a k y => y.1), fun k k0 k1 => ?_, vc_Shelf_eightsIn _ _ _ _ hs ?_⟩
  · unfold cW
    by_cases d : (p : Int) ≤ k ∧ k < (p : Int) + n
    · rw [if_pos d]
      have := g2 (k - p).toNat (by omega)
      rw [show (p : Int) + ((k - p).toNat : Nat) = k by omega] at this
      exact this
    · rw [if_neg d, g1.2 _ _ (fun z => d z.2)]
      exact hc k k0 k1
  · rw [show n - n = 0 by omega, show (8 : Int) ^ 0 = 1 from rfl, Int.ediv_one] at g3
    exact g3
def tsF (c : Int → Int) : Nat → Int
  | 0 => 0
  | k + 1 => tsF c k + if 148 ≤ k ∧ k < 156 then 32 else c k
theorem tsF_s (c : Int → Int) (k : Nat) : tsF c (k + 1) = tsF c k + if 148 ≤ k ∧ k < 156 then 32 else c k := rfl
theorem tsF_r {c : Int → Int} (hc : ∀ k : Int, 0 ≤ k → k < 512 → 0 ≤ c k ∧ c k < 256) : ∀ k : Nat, k ≤ 512 → 0 ≤ tsF c k ∧ tsF c k ≤ 256 * k
  | 0, _ => ⟨Int.le_refl _, Int.le_refl _⟩
  | k + 1, h => by
    have a := tsF_r hc k (by omega)
    have b := hc k (by omega) (by omega)
    rw [tsF_s]
    split <;> omega
theorem cl_tsm {a na : Nat} {c : Int → Int} {A : ms} (ha : SH a = (0, na, [])) (hna : 512 ≤ na ∧ na < 1000000) (hc : ∀ k : Int, 0 ≤ k → k < 512 → A.1 a k = c k) : ∀ (r i : Nat), i + r = 512 → EV q 186 4 [some (.ref a), some (vI 0), some (vI (tsF c i)), some (vI i)] [] A (some (vI (tsF c 512))) A := by
  intro r
  induction r with
  | zero =>
    intro i hi
    have e : i = 512 := by omega
    subst e
    exact vc_Shelf_tapeSum_4 _ _ _ _ _ ha (cY (by decide) ⟨rfl, rfl⟩)
  | succ r ih =>
    intro i hi
    have g := ih (i + 1) (by omega)
    rw [tsF_s, show ((i + 1 : Nat) : Int) = (i : Int) + 1 by omega] at g
    have k31 : ¬ (148 ≤ i ∧ i < 156) → EV q 186 31 [some (.ref a), some (vI 0), some (vI (tsF c i)), some (vI i)] [vI (tsF c i)] A (some (vI (tsF c 512))) A := fun y => by
      rw [if_neg y] at g
      refine vc_Shelf_tapeSum_31 _ _ _ _ _ _ ha ?_
      rw [show (0 : Int) + i = i by omega, show w32 (i : Int) = i from w32_of (by omega), hc i (by omega) (by omega)]
      exact ⟨by omega, vc_Shelf_tapeSum_36 _ _ _ _ _ _ _ ha g⟩
    refine vc_Shelf_tapeSum_4 _ _ _ _ _ ha ?_
    rw [show w32 (i : Int) = i from w32_of (by omega)]
    refine cNo (by omega) ?_
    by_cases c1 : (i : Int) < 148
    · exact cY c1 (k31 (by omega))
    · refine cNo c1 ?_
      by_cases c2 : 156 ≤ (i : Int)
      · exact cY c2 (k31 (by omega))
      · rw [if_pos (by omega)] at g
        exact cNo c2 (vc_Shelf_tapeSum_36 _ _ _ _ _ _ _ ha g)
theorem cl_mrk {sh : Nat} {x1 : Int} {c : Int → Int} (hs : isShelf sh) : ∀ (r i : Nat) (A : ms), i + r = 8 → (∀ k : Int, 0 ≤ k → k < 512 → A.1 (sh + 7) k = cW 257 i (fun k => sS 7 k) c k) → ∃ A', EX (fun a _ => a = sh + 7) A A' ∧ (∀ k : Int, 0 ≤ k → k < 512 → A'.1 (sh + 7) k = cW 257 8 (fun k => sS 7 k) c k) ∧ ∀ (Q : Option Value) (S' : ms), EV q 184 122 [some (.ref sh), some (vI x1), some (vI 8)] [] A' Q S' → EV q 184 122 [some (.ref sh), some (vI x1), some (vI i)] [] A Q S' := by
  intro r
  induction r with
  | zero =>
    intro i A hi h
    have e : i = 8 := by omega
    subst e
    exact ⟨A, EX.refl _ A, h, fun Q S' k => k⟩
  | succ r ih =>
    intro i A hi h
    obtain ⟨A', g1, g2, g3⟩ := ih (i + 1) (wI A (sh + 7) (257 + (i : Int)) (sS 7 i)) (by omega) (fun k k0 k1 => by
      by_cases e : k = 257 + i
      · rw [e, wI_at]
        unfold cW
        rw [if_pos (by omega), show ((257 + (i : Int) - ((257 : Nat) : Int)).toNat : Nat) = i by omega]
      · rw [wI_no _ (fun z => e z.2), h k k0 k1]
        unfold cW
        by_cases d : ((257 : Nat) : Int) ≤ k ∧ k < ((257 : Nat) : Int) + i
        · rw [if_pos d, if_pos (by omega)]
        · rw [if_neg d, if_neg (by omega)])
    refine ⟨A', ((EX.refl _ A).wr rfl).trans g1, g2, fun Q S' k => vc_Shelf_tapeCard_122 _ _ _ hs ?_⟩
    have g4 := g3 Q S' k
    rw [show ((i + 1 : Nat) : Int) = (i : Int) + 1 by omega] at g4
    rw [show w32 (i : Int) = i from w32_of (by omega), w32_of (x := 257 + (i : Int)) (by omega)]
    exact cNo (by omega) ⟨by omega, by omega, fun S10 q10 => by rw [q10]; exact g4⟩
end WrB
