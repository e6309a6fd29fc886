/-! PREFIX CODES: the class's settle, the reference's codes -/
section Codes1
variable {q : Nat × (Nat → Int32)}
theorem EW_EV {j pc : Nat} {lv : en_L} {st : List Value} {S S' : ms} {r : Option Value} (h : EW q sxG 0 0 j pc lv st S r S') : EV q j pc lv st S r S' := by
  unfold EW at h
  rw [hq_hp, hq_hp] at h
  exact h
theorem ev_settle {b n : Nat} {l : Int → Int} {S : ms} (hb : b + 10 < 453) (hc : isCode b) (hn : n ≤ 288) (hl : ∀ s : Nat, s < n → 0 ≤ l s ∧ l s ≤ 20) (hl0 : ∀ s : Nat, s < n → S.1 (b + 1) s = l s) : ∃ Sf, EV q 10 0 [some (.ref b), some (vI n), none, none] [] S none Sf ∧ SetP b n l S Sf := by
  have g : ∀ a : Nat, a < 453 → sg sxG a = SH a := fun a ha => (sxG_sh a ha).1
  have hc' : isCodeP sxG b := by
    unfold isCodeP
    rw [g b (by omega), g (b + 1) (by omega), g (b + 2) (by omega), g (b + 3) (by omega), g (b + 4) (by omega), g (b + 5) (by omega), g (b + 6) (by omega), g (b + 7) (by omega), g (b + 8) (by omega), g (b + 9) (by omega), g (b + 10) (by omega)]
    exact hc
  obtain ⟨Sf, k1, k2⟩ := sp_settle (q := q) (sx := sxG) (by rw [sxG_l]; exact Nat.le_of_ble_eq_true rfl) hc' hn hl hl0
  exact ⟨Sf, EW_EV k1, k2⟩
/-- what the reference counts of the whole: 2^20 is full -/
def cdF (l : Int → Int) (n : Nat) : Nat → Int
  | 0 => 0
  | K + 1 => cdF l n K + cN l (K + 1 : Nat) n * (2 : Int) ^ (19 - K)
theorem cdF_k (l : Int → Int) (n K : Nat) : cdF l n (K + 1) = cdF l n K + cN l (K + 1 : Nat) n * (2 : Int) ^ (19 - K) := rfl
theorem cN_s (l : Int → Int) (k : Int) (m : Nat) : cN l k (m + 1) = cN l k m + (if l m = k then 1 else 0) := rfl
theorem cC_k (l : Int → Int) (n K : Nat) : cC l n (K + 1) = (cC l n K + cN l (K + 1 : Nat) n) * 2 := rfl
theorem cP_k (l : Int → Int) (n K : Nat) : cP l n (K + 1) = cP l n K + cN l (K + 1 : Nat) n := rfl
theorem cdF_s (l : Int → Int) (m : Nat) : ∀ K : Nat, cdF l (m + 1) K = cdF l m K + (if 1 ≤ l m ∧ l m ≤ K then (2 : Int) ^ (20 - (l m).toNat) else 0)
  | 0 => by
    rw [if_neg (by omega)]
    rfl
  | K + 1 => by
    rw [cdF_k, cdF_k, cdF_s l m K, cN_s]
    by_cases c : l m = ((K + 1 : Nat) : Int)
    · rw [if_pos c, if_neg (by omega), if_pos (by omega), Int.add_mul, Int.one_mul, show 20 - (l m).toNat = 19 - K by omega]
      omega
    · rw [if_neg c, Int.add_zero]
      by_cases d : 1 ≤ l m ∧ l m ≤ K
      · rw [if_pos d, if_pos (by omega)]
        omega
      · rw [if_neg d, if_neg (by omega)]
        omega
theorem cdF_cS {l : Int → Int} : ∀ n : Nat, (∀ s : Nat, s < n → 0 ≤ l s ∧ l s ≤ 20) → cdF l n 20 = cS l n
  | 0, _ => by
    show cdF l 0 20 = 0
    have : ∀ K, cdF l 0 K = 0 := by
      intro K
      induction K with
      | zero => rfl
      | succ K ih =>
        rw [cdF_k, ih]
        show (0 : Int) + 0 * _ = 0
        omega
    exact this 20
  | n + 1, h => by
    rw [cdF_s, cdF_cS n (fun s hs => h s (by omega))]
    show _ = cS l n + (if 0 < l n then w32 1048576 / ((2 : Int) ^ (l n % 32).toNat) else 0)
    have hl := h n (by omega)
    by_cases c : 0 < l n
    · rw [if_pos (by omega), if_pos c]
      obtain ⟨k, ek⟩ : ∃ k : Nat, l n = k := ⟨(l n).toNat, by omega⟩
      rw [ek]
      have hk : 1 ≤ k ∧ k ≤ 20 := by omega
      have key : ∀ k : Nat, k < 21 → 1 ≤ k → (2 : Int) ^ (20 - ((k : Int)).toNat) = w32 1048576 / (2 : Int) ^ (((k : Int)) % 32).toNat := by decide
      rw [key k (by omega) hk.1]
    · rw [if_neg (by omega), if_neg c]
theorem cC_rg {l : Int → Int} {n : Nat} (hn : n ≤ 288) : ∀ K : Nat, K ≤ 20 → 0 ≤ cC l n K ∧ cC l n K ≤ 2 * (n : Int) * (2 : Int) ^ K - 2 * n
  | 0, _ => by
    show (0 : Int) ≤ 0 ∧ (0 : Int) ≤ 2 * (n : Int) * 1 - 2 * n
    omega
  | K + 1, h => by
    have ih := cC_rg (l := l) hn K (by omega)
    have c := cN_0 l ((K + 1 : Nat) : Int) n
    have ps : (2 : Int) ^ (K + 1) = (2 : Int) ^ K * 2 := Int.pow_succ _ _
    rw [cC_k, ps, ← Int.mul_assoc]
    generalize 2 * (n : Int) * (2 : Int) ^ K = y at ih ⊢
    omega
/-- codes(lengths, fr, n, to) -/
def CdI (B U : ms) (a3 : Nat) (fr : Int) (n : Nat) (l : Int → Int) (L s : Int) : Prop := U.2 = B.2 ∧ (∀ (a : Nat) (k : Int), a ≠ a3 → U.1 a k = B.1 a k) ∧ (∀ k : Int, ¬ (fr ≤ k ∧ k < fr + n) → U.1 a3 k = B.1 a3 k) ∧ ∀ t : Nat, t < n → 1 ≤ l t → l t < L ∨ (l t = L ∧ (t : Int) < s) → U.1 a3 (fr + t) = cdOf l n t
theorem md_codes {B : ms} {a0 n0 a3 n3 n : Nat} {fr : Int} {l : Int → Int} (h0 : SH a0 = (0, n0, [])) (h3 : SH a3 = (0, n3, [])) (hne : a0 ≠ a3) (hn : n ≤ 288) (hfr : 0 ≤ fr ∧ fr < 100000) (hn0 : fr + n ≤ n0) (hn3 : fr + n ≤ n3) (hl : ∀ s : Nat, s < n → (0 ≤ l s ∧ l s ≤ 20) ∧ B.1 a0 (fr + s) = l s) : ∃ B', EV q 301 0 [some (.ref a0), some (vI fr), some (vI n), some (.ref a3), none, none, none, none] [] B (some (vI (cdF l n 20))) B' ∧ B'.2 = B.2 ∧ (∀ (a : Nat) (k : Int), a ≠ a3 → B'.1 a k = B.1 a k) ∧ (∀ k : Int, ¬ (fr ≤ k ∧ k < fr + n) → B'.1 a3 k = B.1 a3 k) ∧ ∀ t : Nat, t < n → 1 ≤ l t → B'.1 a3 (fr + t) = cdOf l n t := by
  have wn : Unit → w32 ((n : Nat) : Int) = n := fun _ => w32_of (by omega)
  -- the symbols of one length
  have inner : ∀ (K : Nat), K < 20 → ∀ (m s : Nat) (U : ms), s + m = n → CdI B U a3 fr n l ((K + 1 : Nat) : Int) s → ∃ U', CdI B U' a3 fr n l ((K + 1 : Nat) : Int) n ∧ ∀ (r : Option Value) (S' : ms), EV q 301 9 [some (.ref a0), some (vI fr), some (vI n), some (.ref a3), some (vI (cC l n K + cN l ((K + 1 : Nat) : Int) n)), some (vI (cdF l n (K + 1))), some (vI (((K + 1 : Nat) : Int) + 1)), none] [] U' r S' → EV q 301 25 [some (.ref a0), some (vI fr), some (vI n), some (.ref a3), some (vI (cC l n K + cN l ((K + 1 : Nat) : Int) s)), some (vI (cdF l n K + cN l ((K + 1 : Nat) : Int) s * (2 : Int) ^ (19 - K))), some (vI ((K + 1 : Nat) : Int)), some (vI s)] [] U r S' := by
    intro K hK m
    have wK : Unit → w32 (((K + 1 : Nat) : Int)) = ((K + 1 : Nat) : Int) := fun _ => w32_of (by omega)
    have eK : (1 : Int) * (2 : Int) ^ ((20 - ((K + 1 : Nat) : Int)) % 32).toNat = (2 : Int) ^ (19 - K) := by
      rw [Int.one_mul, show ((20 - ((K + 1 : Nat) : Int)) % 32).toNat = 19 - K by omega]
    induction m with
    | zero =>
      intro s U hs hU
      have e : s = n := by omega
      subst e
      exact ⟨U, hU, fun r S' k => vc_MD_codes_25 _ _ _ _ _ _ _ _ h0 _ _ h3 (cY (Int.le_refl _) (by rw [cdF_k] at k; exact k))⟩
    | succ m ih =>
      intro s U hs hU
      have hls := hl s (by omega)
      have ws : Unit → w32 ((s : Nat) : Int) = s := fun _ => w32_of (by omega)
      have wf : Unit → w32 (fr + ((s : Nat) : Int)) = fr + s := fun _ => w32_of (by omega)
      have es : U.1 a0 (fr + s) = l s := by rw [hU.2.1 a0 _ hne]; exact hls.2
      have wls : w32 (l s) = l s := w32_of (by omega)
      have z0 : ¬ (n : Int) ≤ s := by omega
      have es1 : ((s + 1 : Nat) : Int) = (s : Int) + 1 := by omega
      by_cases c : l s = ((K + 1 : Nat) : Int)
      · obtain ⟨V, eV⟩ : ∃ V, V = wI U a3 (fr + s) (cC l n K + cN l ((K + 1 : Nat) : Int) s) := ⟨_, rfl⟩
        have hcd : cdOf l n s = cC l n K + cN l ((K + 1 : Nat) : Int) s := by
          unfold cdOf
          rw [c, show (((K + 1 : Nat) : Int) - 1).toNat = K by omega]
        have hV : CdI B V a3 fr n l ((K + 1 : Nat) : Int) ((s + 1 : Nat) : Int) := by
          obtain ⟨g1, g2, g3, g4⟩ := hU
          refine ⟨by rw [eV]; exact g1, fun a k n1 => ?_, fun k n1 => ?_, fun t ht1 ht2 ht3 => ?_⟩
          · rw [eV, rI_I, if_neg (fun y => n1 y.1), g2 a k n1]
          · rw [eV, rI_I, if_neg (by omega), g3 k n1]
          · rw [eV, rI_I]
            by_cases ct : t = s
            · subst ct
              rw [if_pos ⟨rfl, rfl⟩, hcd]
            · rw [if_neg (by omega)]
              exact g4 t ht1 ht2 (by omega)
        obtain ⟨U', g1, g2⟩ := ih (s + 1) V (by omega) hV
        refine ⟨U', g1, fun r S' k => vc_MD_codes_25 _ _ _ _ _ _ _ _ h0 _ _ h3 ?_⟩
        have g3 := g2 r S' k
        rw [cN_s, if_pos c, es1, Int.add_mul, Int.one_mul] at g3
        rw [wn (), ws (), wf (), es, wls, wK ()]
        refine cNo z0 ⟨by omega, cNN c ⟨by omega, fun S3 f3 => ?_⟩⟩
        rw [← eV] at f3
        subst f3
        refine vc_MD_codes_65 _ _ _ _ _ _ _ _ h0 _ _ h3 ?_
        rw [eK, show cC l n K + cN l ((K + 1 : Nat) : Int) s + 1 = cC l n K + (cN l ((K + 1 : Nat) : Int) s + 1) by omega, show cdF l n K + cN l ((K + 1 : Nat) : Int) s * (2 : Int) ^ (19 - K) + (2 : Int) ^ (19 - K) = cdF l n K + (cN l ((K + 1 : Nat) : Int) s * (2 : Int) ^ (19 - K) + (2 : Int) ^ (19 - K)) by omega]
        exact g3
      · have hV : CdI B U a3 fr n l ((K + 1 : Nat) : Int) ((s + 1 : Nat) : Int) := by
          obtain ⟨g1, g2, g3, g4⟩ := hU
          refine ⟨g1, g2, g3, fun t ht1 ht2 ht3 => g4 t ht1 ht2 ?_⟩
          rcases ht3 with y | ⟨y1, y2⟩
          · exact Or.inl y
          · refine Or.inr ⟨y1, ?_⟩
            by_cases ct : t = s
            · subst ct
              exact absurd y1 c
            · omega
        obtain ⟨U', g1, g2⟩ := ih (s + 1) U (by omega) hV
        refine ⟨U', g1, fun r S' k => vc_MD_codes_25 _ _ _ _ _ _ _ _ h0 _ _ h3 ?_⟩
        have g3 := g2 r S' k
        rw [cN_s, if_neg c, Int.add_zero, es1] at g3
        rw [wn (), ws (), wf (), es, wls, wK ()]
        exact cNo z0 ⟨by omega, cY c (vc_MD_codes_65 _ _ _ _ _ _ _ _ h0 _ _ h3 g3)⟩
  -- all lengths
  have outer : ∀ (m K : Nat) (v : Int) (U : ms), K + m = 20 → 2 * v = cC l n K → CdI B U a3 fr n l ((K + 1 : Nat) : Int) 0 → ∃ B', EV q 301 9 [some (.ref a0), some (vI fr), some (vI n), some (.ref a3), some (vI v), some (vI (cdF l n K)), some (vI ((K + 1 : Nat) : Int)), none] [] U (some (vI (cdF l n 20))) B' ∧ CdI B B' a3 fr n l 21 0 := by
    intro m
    induction m with
    | zero =>
      intro K v U hK hv hU
      have e : K = 20 := by omega
      subst e
      exact ⟨U, vc_MD_codes_9 _ _ _ _ _ _ _ h0 _ _ h3 (cY (by decide) ⟨rfl, rfl⟩), hU⟩
    | succ m ih =>
      intro K v U hK hv hU
      have wK : Unit → w32 (((K + 1 : Nat) : Int)) = ((K + 1 : Nat) : Int) := fun _ => w32_of (by omega)
      obtain ⟨U', g1, g2⟩ := inner K (by omega) n 0 U (by omega) hU
      obtain ⟨B', g3, g4⟩ := ih (K + 1) (cC l n K + cN l ((K + 1 : Nat) : Int) n) U' (by omega) (by rw [cC_k]; omega) (by
        obtain ⟨k1, k2, k3, k4⟩ := g1
        exact ⟨k1, k2, k3, fun t ht1 ht2 ht3 => k4 t ht1 ht2 (by omega)⟩)
      rw [show ((K + 1 + 1 : Nat) : Int) = ((K + 1 : Nat) : Int) + 1 by omega] at g3
      have g5 := g2 _ _ g3
      refine ⟨B', vc_MD_codes_9 _ _ _ _ _ _ _ h0 _ _ h3 ?_, g4⟩
      rw [wK (), hv]
      have z : cN l ((K + 1 : Nat) : Int) 0 = 0 := rfl
      rw [z, Int.add_zero, Int.zero_mul, Int.add_zero] at g5
      exact cNo (by omega) g5
  obtain ⟨B', k1, k2⟩ := outer 20 0 0 B (by omega) rfl ⟨rfl, fun _ _ _ => rfl, fun _ _ => rfl, fun t ht1 ht2 ht3 => by omega⟩
  obtain ⟨g1, g2, g3, g4⟩ := k2
  exact ⟨B', vc_MD_codes _ _ _ _ h0 _ _ h3 k1, g1, g2, g3, fun t ht1 ht2 => g4 t ht1 ht2 (Or.inl (by have := (hl t ht1).1; omega))⟩
end Codes1
