/-! read: a BOX's text, as far as its kind, both sides -/
section ReaI
variable {q : Nat × (Nat → Int32)} {x : Int} {t : Int → Int}
/-- the head stands where the row says, and fits it -/
abbrev bxH (t : Int → Int) (r b0 : Int) (n : Nat) : Prop := lowV t (r + 42) 4 + 30 + n + lowV t (r + 20) 4 ≤ b0 ∧ HFr t (lowV t (r + 42) 4) r n = 1
theorem sp_bxPre {S A : ms} {sh n : Nat} {r b0 : Int} {st : Rd} {R : Option Value} {T : ms} (hs : isSh sh) (hx : 0 ≤ x ∧ x ≤ 6000) (r0 : 0 ≤ r) (r1 : r + 46 + n ≤ x) (hn : n ≤ 100) (hb : 0 ≤ b0 ∧ b0 ≤ x) (hT : TC S x t) (hL : LabC S (sh + 5) n (fun k => t (r + 46 + k))) (hA : CW S A x st) (y1 : bxH t r b0 n → EV q 206 120 [some (.ref sh), some (.ref 9), some (vI r), some (vI b0), some (.ref 2), some (vL (lowV t (r + 42) 4)), none, some (vI (lowV t (r + 42) 4)), some (vL (lowV t (r + 20) 4)), none, some (vL (lowV t (r + 24) 4)), none, none, none, none, none, none] [vI (if lowV t (r + 10) 2 = 8 then 1 else 0)] A R T) (y2 : ¬ bxH t r b0 n → ∃ S1 : ms, EV q 126 0 [some (.ref 9), some (vI 124), some (vI (min (lowV t (r + 42) 4) 2147483647))] [] A none S1 ∧ R = none ∧ T = S1) : EV q 206 0 [some (.ref sh), some (.ref 9), some (vI r), some (vI b0), none, none, none, none, none, none, none, none, none, none, none, none, none] [] A R T := by
  have hsl := isSh_is hs
  have hsr : sh = 193 ∨ sh = 268 := hs
  have hTA : TC A x t := fun k k0 k1 => ⟨(hT k k0 k1).1, by rw [hA.2.2.2 2 k (by omega) (by omega) (by omega)]; exact (hT k k0 k1).2⟩
  have hLA : LabC A (sh + 5) n (fun k => t (r + 46 + k)) := ⟨by rw [hA.2.2.2 _ _ (by omega) (by omega) (by omega)]; exact hL.1, by rw [hA.2.2.2 _ _ (by omega) (by omega) (by omega)]; exact hL.2.1, fun k k0 k1 => by rw [hA.2.2.2 _ _ (by omega) (by omega) (by omega)]; exact hL.2.2 k k0 k1⟩
  have ht : ∀ k : Int, 0 ≤ k → k < x → 0 ≤ t k ∧ t k < 256 := fun k k0 k1 => (hT k k0 k1).1
  obtain ⟨hd, ehd⟩ : ∃ v : Int, v = lowV t (r + 42) 4 := ⟨_, rfl⟩
  obtain ⟨sd, esd⟩ : ∃ v : Int, v = lowV t (r + 20) 4 := ⟨_, rfl⟩
  obtain ⟨sz, esz⟩ : ∃ v : Int, v = lowV t (r + 24) 4 := ⟨_, rfl⟩
  have rh := low4_r (t := t) (x := x) (p := r + 42) (by omega) ht
  have rs := low4_r (t := t) (x := x) (p := r + 20) (by omega) ht
  have k1 := cn_low (q := q) (p := r + 42) (n := 4) (by omega) (by omega) hx.2 hTA
  have k2 := cn_low (q := q) (p := r + 20) (n := 4) (by omega) (by omega) hx.2 hTA
  have k3 := cn_low (q := q) (p := r + 24) (n := 4) (by omega) (by omega) hx.2 hTA
  unfold bxH at y1 y2
  rw [← ehd] at k1 rh y1 y2
  rw [← esd] at k2 rs y1 y2
  rw [← esz] at k3 y1
  have en : A.1 (sh + 5) 1 = n := by rw [hLA.1]; omega
  have wn : Unit → w32 ((n : Nat) : Int) = n := fun _ => w32_of (by omega)
  have wb : w64 (w32 b0) = b0 := by rw [w32_of (by omega), w64_of (by omega)]
  have ws : w64 (hd + 30 + n + sd) = hd + 30 + n + sd := w64_of (by omega)
  have wh : w64 hd = hd := w64_of (by omega)
  have wT : w64 2147483647 = 2147483647 := by decide
  have y89 : ¬ (hd + 30 + n + sd ≤ b0 ∧ HFr t hd r n = 1) → EV q 206 89 [some (.ref sh), some (.ref 9), some (vI r), some (vI b0), some (.ref 2), some (vL hd), none, some (vI (min hd 2147483647)), some (vL sd), none, some (vL sz), none, none, none, none, none, none] [] A R T := fun h => vc_Shelf_boxText_89 _ _ _ _ _ _ sh hsl (y2 h)
  refine vc_Shelf_boxText _ _ sh hsl ⟨hd, A, k1, sd, A, k2, sz, A, k3, ?_⟩
  rw [en, wn (), wb, ws, wh, wT]
  by_cases c1 : hd + 30 + n + sd ≤ b0
  case neg => exact cY (by omega) (y89 (fun z => c1 z.1))
  have em : min hd 2147483647 = hd := by omega
  have kf := sp_fits (q := q) (h := hd) (r := r) hs hx.2 rh.1 (by omega) r0 r1 hn hTA hLA
  have h01 : HFr t hd r n = 0 ∨ HFr t hd r n = 1 := alF_01 (alF_01 (by unfold HFb; split; exact Or.inr rfl; exact Or.inl rfl) 20) n
  refine cNo (by omega) ⟨_, A, by rw [em]; exact kf, ?_⟩
  rcases h01 with c2 | c2
  · rw [c2]
    have k := y89 (fun z => by rw [c2] at z; exact absurd z.2 (by decide))
    exact cNN (by decide) k
  · rw [c2]
    refine cY (by decide) ⟨_, A, cn_low (p := r + 10) (n := 2) (by omega) (by omega) hx.2 hTA, ?_⟩
    have r10 := low2_r (t := t) (x := x) (p := r + 10) (by omega) ht
    have k := y1 ⟨c1, c2⟩
    rw [w64_of (x := lowV t (r + 10) 2) (by omega), show w64 8 = 8 by decide, em]
    by_cases c3 : lowV t (r + 10) 2 = 8
    · rw [if_pos c3] at k; exact cNN c3 k
    · rw [if_neg c3] at k; exact cY c3 k
theorem md_bxPre {S B : ms} {n : Nat} {r b0 : Int} {st : Rd} {R : Option Value} {T : ms} (hx : 0 ≤ x ∧ x ≤ 6000) (r0 : 0 ≤ r) (r1 : r + 46 + n ≤ x) (hn : n ≤ 100) (hnr : lowV t (r + 28) 2 = n) (hb : 0 ≤ b0 ∧ b0 ≤ x) (hT : TM S x t) (hB : MWl S B st) (y1 : bxH t r b0 n → EV q 402 352 [some (.ref 367), some (vI r), some (vI b0), some (vI n), some (vL (lowV t (r + 42) 4)), none, some (vL (lowV t (r + 20) 4)), none, some (vL (lowV t (r + 24) 4)), none, some (vI 1), some (vI (lowV t (r + 42) 4)), some (vI (lowV t (r + 42) 4 + 30 + n)), none, none, none, none] [vI (if lowV t (r + 10) 2 = 0 then 1 else 0)] B R T) (y2 : ¬ bxH t r b0 n → ∃ S1 : ms, EV q 335 0 [some (.ref 367), some (vI 124), some (vI (min (lowV t (r + 42) 4) 2147483647))] [] B none S1 ∧ R = none ∧ T = S1) : EV q 402 0 [some (.ref 367), some (vI r), some (vI b0), some (vI n), none, none, none, none, none, none, none, none, none, none, none, none, none] [] B R T := by
  have hTB : TM B x t := fun k k0 k1 => ⟨(hT k k0 k1).1, by rw [hB.2.2.2 368 k (by omega) (by omega)]; exact (hT k k0 k1).2⟩
  have ht : ∀ k : Int, 0 ≤ k → k < x → 0 ≤ t k ∧ t k < 256 := fun k k0 k1 => (hT k k0 k1).1
  obtain ⟨hd, ehd⟩ : ∃ v : Int, v = lowV t (r + 42) 4 := ⟨_, rfl⟩
  obtain ⟨sd, esd⟩ : ∃ v : Int, v = lowV t (r + 20) 4 := ⟨_, rfl⟩
  obtain ⟨sz, esz⟩ : ∃ v : Int, v = lowV t (r + 24) 4 := ⟨_, rfl⟩
  have rh := low4_r (t := t) (x := x) (p := r + 42) (by omega) ht
  have rs := low4_r (t := t) (x := x) (p := r + 20) (by omega) ht
  have k1 := mn_low (q := q) (p := r + 42) (n := 4) (by omega) (by omega) hx.2 hTB
  have k2 := mn_low (q := q) (p := r + 20) (n := 4) (by omega) (by omega) hx.2 hTB
  have k3 := mn_low (q := q) (p := r + 24) (n := 4) (by omega) (by omega) hx.2 hTB
  unfold bxH at y1 y2
  rw [← ehd] at k1 rh y1 y2
  rw [← esd] at k2 rs y1 y2
  rw [← esz] at k3 y1
  have wn : Unit → w32 ((n : Nat) : Int) = n := fun _ => w32_of (by omega)
  have wb : w64 (w32 b0) = b0 := by rw [w32_of (by omega), w64_of (by omega)]
  have ws : w64 (hd + 30 + n + sd) = hd + 30 + n + sd := w64_of (by omega)
  have wh : w64 hd = hd := w64_of (by omega)
  have wT : w64 2147483647 = 2147483647 := by decide
  -- not good
  have bad : ¬ (hd + 30 + n + sd ≤ b0 ∧ HFr t hd r n = 1) → ∀ h x12 : Int, EV q 402 294 [some (.ref 367), some (vI r), some (vI b0), some (vI n), some (vL hd), none, some (vL sd), none, some (vL sz), none, some (vI 0), some (vI h), some (vI x12), none, none, none, none] [] B R T := by
    intro h hh x12
    have k := y2 h
    refine vc_MD_boxHead_294 _ _ _ _ _ _ _ _ _ (cNN (by decide) ?_)
    rw [wh, wT]
    by_cases c : hd ≤ 2147483647
    · rw [show min hd 2147483647 = hd by omega] at k
      exact cY c (vc_MD_boxHead_320 _ _ _ _ _ _ _ _ _ _ _ k)
    · rw [show min hd 2147483647 = 2147483647 by omega] at k
      exact cNo c (vc_MD_boxHead_320 _ _ _ _ _ _ _ _ _ _ _ k)
  refine vc_MD_boxHead _ _ _ ⟨hd, B, k1, sd, B, k2, sz, B, k3, ?_⟩
  rw [wn (), wb, ws]
  by_cases c1 : hd + 30 + n + sd ≤ b0
  case neg =>
    have kb := bad (fun z => c1 z.1)
    refine cY (by omega) (vc_MD_boxHead_56 _ _ _ _ _ _ _ (cY (by decide) (vc_MD_boxHead_70 _ _ _ _ _ _ _ _ (cY (by decide) (vc_MD_boxHead_180 _ _ _ _ _ _ _ _ (vc_MD_boxHead_181 _ _ _ _ _ _ _ _ _ (vc_MD_boxHead_186 _ _ _ _ _ _ _ _ _ (cNo (by decide) (cY (by decide) (vc_MD_boxHead_239 _ _ _ _ _ _ _ _ _ (vc_MD_boxHead_242 _ _ _ _ _ _ _ _ _ ⟨fun _ => kb _ _, fun _ => cY (by decide) (kb _ _)⟩)))))))))))
  have em : min hd 2147483647 = hd := by omega
  have h01 : HFr t hd r n = 0 ∨ HFr t hd r n = 1 := alF_01 (alF_01 (by unfold HFb; split; exact Or.inr rfl; exact Or.inl rfl) 20) n
  refine cNo (by omega) (vc_MD_boxHead_56 _ _ _ _ _ _ _ (cNo (by decide) (md_fits (q := q) (x2 := b0) (x4 := hd) (x6 := sd) (x8 := sz) hx.2 rh.1 (by omega) r0 r1 hn hnr hTB (fun x12 => ?_))))
  rcases h01 with c2 | c2
  · rw [c2]
    exact bad (fun z => by rw [c2] at z; exact absurd z.2 (by decide)) hd x12
  · rw [c2]
    have k := y1 ⟨c1, c2⟩
    refine vc_MD_boxHead_294 _ _ _ _ _ _ _ _ _ (cY (by decide) ⟨_, B, mn_low (p := r + 10) (n := 2) (by omega) (by omega) hx.2 hTB, ?_⟩)
    have r10 := low2_r (t := t) (x := x) (p := r + 10) (by omega) ht
    rw [w64_of (x := lowV t (r + 10) 2) (by omega), show w64 0 = 0 by decide]
    by_cases c3 : lowV t (r + 10) 2 = 0
    · rw [if_pos c3] at k; exact cNN c3 k
    · rw [if_neg c3] at k; exact cY c3 k
end ReaI
