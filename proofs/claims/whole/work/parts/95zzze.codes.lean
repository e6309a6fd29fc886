/-! BLOCKS: the two codes of a block are settled, both sides at once (2) -/
section Cod3
variable {q : Nat × (Nat → Int32)} {en : Int}
def XSc (a : Nat) (_ : Int) : Prop := 53 ≤ a ∧ a ≤ 74
def XSm (a : Nat) (_ : Int) : Prop := 385 ≤ a ∧ a ≤ 388
theorem SetP_EX {b n : Nat} {l : Int → Int} {A A' : ms} (h : SetP b n l A A') : EX (fun a _ => b ≤ a ∧ a ≤ b + 7) A A' := ⟨h.1, fun a k y => h.2.1 a k (fun z => y ⟨by omega, by omega⟩) (fun z => y ⟨by omega, by omega⟩)⟩
theorem jset {t L : Int → Int} {a n : Nat} (he : en ≤ 6000) (ha : 257 ≤ a ∧ a ≤ 286) (hn : 1 ≤ n ∧ n ≤ 30) (hL : ∀ k : Nat, k < a + n → 0 ≤ L k ∧ L k ≤ 20) {st : Rd} {h : Int} (hr : rdR en st) (hh : hR st h) : ∃ stf : Rd, (rdR en stf ∧ Fw st stf) ∧ (∀ (S A : ms) (o : Nat), RdC S o en t → (∀ k : Nat, k < a + n → S.1 89 k = L k) → CB S A o en t st h → ∃ S1 A1, EX XSc S S1 ∧ EV q 139 0 [some (.ref 30), some (.ref 9), some (vI a), some (vI n), none] [] A none A1 ∧ CB S1 A1 o en t stf h ∧ CodC S1 53 a L ∧ CodC S1 64 n (fun k => L (a + k))) ∧ ∀ (S B : ms) (x3 x4 : Int), (∀ k : Nat, k < a + n → S.1 401 k = L k) → MB S B en st h → ∃ S1 B1, EX XSm S S1 ∧ EV q 346 377 [some (.ref 367), some (vI a), some (vI n), some (vI x3), some (vI x4), some (vI 0), none, none, none] [] B none B1 ∧ MB S1 B1 en stf h ∧ CodM S1 385 330 386 330 a L ∧ CodM S1 387 40 388 40 n (fun k => L (a + k)) := by
  classical
  have l1 : ∀ s : Nat, s < a → 0 ≤ L s ∧ L s ≤ 20 := fun s hs => hL s (by omega)
  obtain ⟨l', el⟩ : ∃ l' : Int → Int, l' = fun k => L (a + k) := ⟨_, rfl⟩
  have l2 : ∀ s : Nat, s < n → 0 ≤ l' s ∧ l' s ≤ 20 := by
    intro s hs
    rw [el]
    have := hL (a + s) (by omega)
    rw [show ((a + s : Nat) : Int) = (a : Int) + s by omega] at this
    exact this
  rw [← el]
  have r1 := (cS_rg a l1).1
  have r2 := cS_rg n l2
  have w1 : w32 (cS L a) = cS L a := w32_of (by omega)
  have w2 : w32 (cS l' n) = cS l' n := w32_of (by omega)
  have w256 : w32 256 = 256 := by decide
  have wn : Unit → w32 ((n : Nat) : Int) = n := fun _ => w32_of (by omega)
  have wL : w32 (L 256) = L 256 := w32_of (by have := l1 256 (by omega); have e : ((256 : Nat) : Int) = 256 := rfl; rw [e] at this; omega)
  have t1 := rd_gt (c := L 256 ≠ 0) (k := 10) (by decide) hr
  obtain ⟨st1, e1⟩ : ∃ x : Rd, x = if L 256 ≠ 0 then st else rdTell 10 st := ⟨_, rfl⟩
  rw [← e1] at t1
  have t2 := rd_gt (c := fu L a ∨ si L a) (k := 6) (by decide) t1.1
  obtain ⟨st2, e2⟩ : ∃ x : Rd, x = if fu L a ∨ si L a then st1 else rdTell 6 st1 := ⟨_, rfl⟩
  rw [← e2] at t2
  have t3 := rd_gt (c := fu l' n ∨ si l' n ∨ ep l' n) (k := 7) (by decide) t2.1
  obtain ⟨st3, e3⟩ : ∃ x : Rd, x = if fu l' n ∨ si l' n ∨ ep l' n then st2 else rdTell 7 st2 := ⟨_, rfl⟩
  rw [← e3] at t3
  refine ⟨st3, ⟨t3.1, Fw_t t1.2 (Fw_t t2.2 t3.2)⟩, fun S A o hC h8 hA => ?_, fun S B x3 x4 h4 hB => ?_⟩
  · have ho := hC.2.2.1
    have h89 : ∀ k : Nat, k < a + n → A.1 89 k = L k := by
      intro k hk
      rw [hA.2.2.2 89 k (by omega) (by omega) (by omega)]
      exact h8 k hk
    obtain ⟨A1, a1, a2, a3⟩ := bc_one (q := q) (x3 := n) (L := L) (n := a) (by omega) a 0 A (by omega) (fun k hk => h89 k (by omega)) (fun k hk => absurd hk (by omega))
    obtain ⟨A2, b1, b2, b3⟩ := bc_two (q := q) (L := L) ha.2 hn.2 n 0 A1 (by omega) (fun k hk => by rw [a1.2 89 k (show ¬ (89 : Nat) = 54 by decide)]; exact h89 k hk) (fun k hk => absurd hk (by omega))
    obtain ⟨A3, c1, c2⟩ := ev_settle (q := q) (b := 53) (n := a) (l := L) (S := A2) (by decide) is_53 (by omega) l1 (fun s hs => by
      show A2.1 54 s = L s
      rw [b1.2 54 s (show ¬ (54 : Nat) = 65 by decide)]
      exact a2 s hs)
    obtain ⟨A4, d1, d2⟩ := ev_settle (q := q) (b := 64) (n := n) (l := l') (S := A3) (by decide) is_64 (by omega) l2 (fun s hs => by
      show A3.1 65 s = l' s
      rw [c2.2.1 65 s (by omega) (by omega), el]
      exact b2 s hs)
    have ex : EX XSc A A4 := EX.trans (EX.mono a1 (fun a k y => by unfold XSc; omega)) (EX.trans (EX.mono b1 (fun a k y => by unfold XSc; omega)) (EX.trans (EX.mono (SetP_EX c2) (fun a k y => by unfold XSc; omega)) (EX.mono (SetP_EX d2) (fun a k y => by unfold XSc; omega))))
    obtain ⟨S1, s1, s2, s3⟩ := CB_X (fun a k y => by unfold XSc at y; omega) hA ex
    have v5 : ∀ (x : Nat) (k : Int), 53 ≤ x → x ≤ 60 → A4.1 x k = A3.1 x k := fun x k y1 y2 => d2.2.1 x k (by omega) (by omega)
    obtain ⟨A5, f1, f2⟩ := gC (q := q) (c := L 256 ≠ 0) (k := 10) hr ho s3
    rw [← e1] at f1
    obtain ⟨A6, g1, g2⟩ := gC (q := q) (c := fu L a ∨ si L a) (k := 6) t1.1 ho f1
    rw [← e2] at g1
    obtain ⟨A7, i1, i2⟩ := gC (q := q) (c := fu l' n ∨ si l' n ∨ ep l' n) (k := 7) t2.1 ho g1
    rw [← e3] at i1
    have v6 : ∀ (x : Nat) (k : Int), 53 ≤ x → x ≤ 74 → A6.1 x k = A4.1 x k := fun x k y1 y2 => by rw [g1.2.2.2 x k (by omega) (by omega) (by omega), s2 x k ⟨y1, y2⟩]
    have v7 : ∀ (x : Nat) (k : Int), 53 ≤ x → x ≤ 74 → A5.1 x k = A4.1 x k := fun x k y1 y2 => by rw [f1.2.2.2 x k (by omega) (by omega) (by omega), s2 x k ⟨y1, y2⟩]
    have k125 : EV q 139 125 [some (.ref 30), some (.ref 9), some (vI a), some (vI n), some (vI n)] [] A6 none A7 := by
      have q7 : A6.1 64 7 = cS l' n := by rw [v6 64 7 (by omega) (by omega)]; exact d2.2.2.1.2.2
      have q6 : A6.1 64 6 = cU l' n := by rw [v6 64 6 (by omega) (by omega)]; exact d2.2.2.1.2.1
      have q5 : A6.1 (64 + 5) 1 = cN l' 1 n := by rw [v6 (64 + 5) 1 (by omega) (by omega)]; exact d2.2.2.2.1 1 (by omega) (by omega)
      obtain ⟨p1, p2⟩ := cd_full (q := q) (A := A6) is_64 (by omega) l2 q7
      obtain ⟨p3, p4⟩ := cd_sing (q := q) (A := A6) is_64 (by omega) l2 q6 q5
      obtain ⟨p5, p6⟩ := cd_empt (q := q) (A := A6) is_64 (by omega) l2 q6
      refine vc_Blocks_settleCodes_125 _ _ _ ?_
      by_cases cf : fu l' n
      · rcases i2 with ⟨_, y⟩ | ⟨y, _⟩
        · exact ⟨1, A6, p1 cf, cY (by decide) ⟨rfl, y⟩⟩
        · exact absurd (Or.inl cf) y
      · by_cases cs : si l' n
        · rcases i2 with ⟨_, y⟩ | ⟨y, _⟩
          · exact ⟨0, A6, p2 cf, cNN (by decide) ⟨1, A6, p3 cs, cY (by decide) ⟨rfl, y⟩⟩⟩
          · exact absurd (Or.inr (Or.inl cs)) y
        · by_cases ce : ep l' n
          · rcases i2 with ⟨_, y⟩ | ⟨y, _⟩
            · exact ⟨0, A6, p2 cf, cNN (by decide) ⟨0, A6, p4 cs, cNN (by decide) ⟨1, A6, p5 ce, cY (by decide) ⟨rfl, y⟩⟩⟩⟩
            · exact absurd (Or.inr (Or.inr ce)) y
          · rcases i2 with ⟨y, _⟩ | ⟨_, y⟩
            · rcases y with y | y | y
              · exact absurd y cf
              · exact absurd y cs
              · exact absurd y ce
            · exact ⟨0, A6, p2 cf, cNN (by decide) ⟨0, A6, p4 cs, cNN (by decide) ⟨0, A6, p6 ce, cNN (by decide) ⟨A7, y, rfl, rfl⟩⟩⟩⟩
    have k99 : EV q 139 99 [some (.ref 30), some (.ref 9), some (vI a), some (vI n), some (vI n)] [] A5 none A7 := by
      have q7 : A5.1 53 7 = cS L a := by rw [v7 53 7 (by omega) (by omega), v5 53 7 (by omega) (by omega)]; exact c2.2.2.1.2.2
      have q6 : A5.1 53 6 = cU L a := by rw [v7 53 6 (by omega) (by omega), v5 53 6 (by omega) (by omega)]; exact c2.2.2.1.2.1
      have q5 : A5.1 (53 + 5) 1 = cN L 1 a := by rw [v7 (53 + 5) 1 (by omega) (by omega), v5 (53 + 5) 1 (by omega) (by omega)]; exact c2.2.2.2.1 1 (by omega) (by omega)
      obtain ⟨p1, p2⟩ := cd_full (q := q) (A := A5) is_53 (by omega) l1 q7
      obtain ⟨p3, p4⟩ := cd_sing (q := q) (A := A5) is_53 (by omega) l1 q6 q5
      refine vc_Blocks_settleCodes_99 _ _ _ ?_
      by_cases cf : fu L a
      · rcases g2 with ⟨_, y⟩ | ⟨y, _⟩
        · rw [y] at k125
          exact ⟨1, A5, p1 cf, cY (by decide) k125⟩
        · exact absurd (Or.inl cf) y
      · by_cases cs : si L a
        · rcases g2 with ⟨_, y⟩ | ⟨y, _⟩
          · rw [y] at k125
            exact ⟨0, A5, p2 cf, cNN (by decide) ⟨1, A5, p3 cs, cY (by decide) k125⟩⟩
          · exact absurd (Or.inr cs) y
        · rcases g2 with ⟨y, _⟩ | ⟨_, y⟩
          · rcases y with y | y
            · exact absurd y cf
            · exact absurd y cs
          · exact ⟨0, A5, p2 cf, cNN (by decide) ⟨0, A5, p4 cs, cNN (by decide) ⟨A6, y, k125⟩⟩⟩
    have k35 : EV q 139 35 [some (.ref 30), some (.ref 9), some (vI a), some (vI n), some (vI n)] [] A2 none A7 := by
      refine vc_Blocks_settleCodes_35 _ _ _ (cY (Int.le_refl _) ⟨A3, c1, A4, d1, by decide, ?_⟩)
      have q9 : A4.1 89 256 = L 256 := by
        rw [ex.2 89 256 (by unfold XSc; omega)]
        exact h89 256 (by omega)
      rw [w256, q9, wL]
      rcases f2 with ⟨y, z⟩ | ⟨y, z⟩
      · rw [z] at k99
        exact cY y k99
      · exact cNN (Classical.not_not.mp y) ⟨A5, z, k99⟩
    refine ⟨S1, A7, s1, vc_Blocks_settleCodes _ _ (a3 none A7 (b3 none A7 k35)), i1, ⟨is_53, by omega, by omega, ?_, fun k k1 k2 => ?_, fun s hs hl => ?_⟩, ⟨is_64, by omega, by omega, ?_, fun k k1 k2 => ?_, fun s hs hl => ?_⟩⟩
    · rw [s2 53 5 (by unfold XSc; omega), v5 53 5 (by omega) (by omega)]
      exact c2.2.2.1.1
    · rw [s2 (53 + 5) k (by unfold XSc; omega), v5 (53 + 5) k (by omega) (by omega)]
      exact c2.2.2.2.1 k k1 k2
    · rw [s2 (53 + 4) _ (by unfold XSc; omega), v5 (53 + 4) _ (by omega) (by omega)]
      exact (c2.2.2.2.2 s hs hl).2.2
    · rw [s2 64 5 (by unfold XSc; omega)]
      exact d2.2.2.1.1
    · rw [s2 (64 + 5) k (by unfold XSc; omega)]
      exact d2.2.2.2.1 k k1 k2
    · rw [s2 (64 + 4) _ (by unfold XSc; omega)]
      exact (d2.2.2.2.2 s hs hl).2.2
  · have h40 : ∀ k : Nat, k < a + n → B.1 401 k = L k := by
      intro k hk
      rw [hB.2.2.2 401 k (by omega) (by omega)]
      exact h4 k hk
    have hh1 := hR_n hh t1.2
    have hh2 := hR_n hh1 t2.2
    obtain ⟨B1, a1, a2, a3⟩ := mc_one (q := q) (x2 := n) (x3 := x3) (x4 := x4) (L := L) (n := a) (by omega) a 0 B (by omega) (fun k hk => h40 k (by omega)) (fun k hk => absurd hk (by omega))
    obtain ⟨B2, b1, b2, b3⟩ := mc_two (q := q) (x3 := x3) (x4 := x4) (L := L) ha.2 hn.2 n 0 B1 (by omega) (fun k hk => by rw [a1.2 401 k (show ¬ (401 : Nat) = 385 by decide)]; exact h40 k hk) (fun k hk => absurd hk (by omega))
    have ex : EX XSm B B2 := EX.trans (EX.mono a1 (fun a k y => by unfold XSm; omega)) (EX.mono b1 (fun a k y => by unfold XSm; omega))
    obtain ⟨S1, s1, s2, s3⟩ := MB_X (fun a k y => by unfold XSm at y; omega) hB ex
    have u5 : ∀ k : Nat, k < a → S1.1 385 k = L k := fun k hk => by
      rw [s2 385 k (by unfold XSm; omega), b1.2 385 k (show ¬ (385 : Nat) = 387 by decide)]
      exact a2 k hk
    have u7 : ∀ k : Nat, k < n → S1.1 387 k = l' k := fun k hk => by
      rw [s2 387 k (by unfold XSm; omega), el]
      exact b2 k hk
    obtain ⟨B3, f1, f2⟩ := gM (q := q) (c := L 256 ≠ 0) (k := 10) hr he hh s3
    rw [← e1] at f1
    obtain ⟨B4, c1, c2, c3, c4, c5⟩ := md_codes (q := q) (B := B3) (l := L) (n := a) (fr := 0) sh_385 sh_386 (by decide) (by omega) (by decide) (by omega) (by omega) (fun s hs => ⟨l1 s hs, by
      rw [Int.zero_add, f1.2.2.2 385 s (by omega) (by omega)]
      exact u5 s hs⟩)
    rw [cdF_cS a l1] at c1
    obtain ⟨S2, p1, p2, p3⟩ := MB_X (X := fun a _ => a = 386) (fun a k y => by omega) f1 ⟨c2, fun a k y => c3 a k y⟩
    obtain ⟨B5, g1, g2⟩ := gM (q := q) (c := fu L a ∨ si L a) (k := 6) t1.1 he hh1 p3
    rw [← e2] at g1
    obtain ⟨B6, d1, d2, d3, d4, d5⟩ := md_codes (q := q) (B := B5) (l := l') (n := n) (fr := 0) sh_387 sh_388 (by decide) (by omega) (by decide) (by omega) (by omega) (fun s hs => ⟨l2 s hs, by
      rw [Int.zero_add, g1.2.2.2 387 s (by omega) (by omega), p1.2 387 s (show ¬ (387 : Nat) = 386 by decide)]
      exact u7 s hs⟩)
    rw [cdF_cS n l2] at d1
    obtain ⟨S3, q1, q2, q3⟩ := MB_X (X := fun a _ => a = 388) (fun a k y => by omega) g1 ⟨d2, fun a k y => d3 a k y⟩
    obtain ⟨B7, i1, i2⟩ := gM (q := q) (c := fu l' n ∨ si l' n ∨ ep l' n) (k := 7) t2.1 he hh2 q3
    rw [← e3] at i1
    have k491 : EV q 346 491 [some (.ref 367), some (vI a), some (vI n), some (vI x3), some (vI x4), some (vI (cS L a)), none, none, none] [] B5 none B7 := by
      obtain ⟨m1, m2⟩ := md_sing (q := q) (B := B6) (l := l') (n := n) sh_387 (by omega) (fun s hs => ⟨l2 s hs, by
        rw [d3 387 s (by decide), g1.2.2.2 387 s (by omega) (by omega), p1.2 387 s (show ¬ (387 : Nat) = 386 by decide)]
        exact u7 s hs⟩)
      refine vc_MD_readOwn_491 _ _ _ _ _ ⟨cS l' n, B6, d1, ?_⟩
      rw [w2]
      by_cases cf : fu l' n
      · rcases i2 with ⟨_, y⟩ | ⟨y, _⟩
        · exact cY cf ⟨rfl, y⟩
        · exact absurd (Or.inl cf) y
      · by_cases ce : ep l' n
        · rcases i2 with ⟨_, y⟩ | ⟨y, _⟩
          · exact cNo cf (cY (r2.2.1.mpr ce) ⟨rfl, y⟩)
          · exact absurd (Or.inr (Or.inr ce)) y
        · have ce' : ¬ cS l' n = 0 := fun z => ce (r2.2.1.mp z)
          by_cases cs : si l' n
          · rcases i2 with ⟨_, y⟩ | ⟨y, _⟩
            · exact cNo cf (cNo ce' ⟨1, B6, m1 cs, cY (by decide) ⟨rfl, y⟩⟩)
            · exact absurd (Or.inr (Or.inl cs)) y
          · rcases i2 with ⟨y, _⟩ | ⟨_, y⟩
            · rcases y with y | y | y
              · exact absurd y cf
              · exact absurd y cs
              · exact absurd y ce
            · exact cNo cf (cNo ce' ⟨0, B6, m2 cs, cNN (by decide) ⟨B7, y, rfl, rfl⟩⟩)
    have k451 : EV q 346 451 [some (.ref 367), some (vI a), some (vI n), some (vI x3), some (vI x4), some (vI n), none, none, none] [] B3 none B7 := by
      obtain ⟨m1, m2⟩ := md_sing (q := q) (B := B4) (l := L) (n := a) sh_385 (by omega) (fun s hs => ⟨l1 s hs, by
        rw [c3 385 s (by decide), f1.2.2.2 385 s (by omega) (by omega)]
        exact u5 s hs⟩)
      refine vc_MD_readOwn_451 _ _ _ _ _ ⟨cS L a, B4, c1, ?_⟩
      rw [w1]
      by_cases cf : fu L a
      · rcases g2 with ⟨_, y⟩ | ⟨y, _⟩
        · rw [y] at k491
          exact cY cf k491
        · exact absurd (Or.inl cf) y
      · by_cases cs : si L a
        · rcases g2 with ⟨_, y⟩ | ⟨y, _⟩
          · rw [y] at k491
            exact cNo cf ⟨1, B4, m1 cs, cY (by decide) k491⟩
          · exact absurd (Or.inr cs) y
        · rcases g2 with ⟨y, _⟩ | ⟨_, y⟩
          · rcases y with y | y
            · exact absurd y cf
            · exact absurd y cs
          · exact cNo cf ⟨0, B4, m2 cs, cNN (by decide) ⟨B5, y, k491⟩⟩
    have k406 : EV q 346 406 [some (.ref 367), some (vI a), some (vI n), some (vI x3), some (vI x4), some (vI n), none, none, none] [] B2 none B7 := by
      refine vc_MD_readOwn_406 _ _ _ _ _ (cY (Int.le_refl _) ⟨by decide, ?_⟩)
      have q9 : B2.1 385 256 = L 256 := by
        rw [b1.2 385 256 (show ¬ (385 : Nat) = 387 by decide)]
        exact a2 256 (by omega)
      rw [w256, q9, wL]
      rcases f2 with ⟨y, z⟩ | ⟨y, z⟩
      · rw [z] at k451
        exact cY y k451
      · exact cNN (Classical.not_not.mp y) ⟨B3, z, k451⟩
    have x23 : EX XSm S S3 := EX.trans s1 (EX.trans (EX.mono p1 (fun a k y => by unfold XSm; omega)) (EX.mono q1 (fun a k y => by unfold XSm; omega)))
    refine ⟨S3, B7, x23, a3 none B7 (b3 none B7 k406), i1, ⟨sh_385, sh_386, by omega, by omega, fun s hs => ?_, fun s hs hl => ?_⟩, ⟨sh_387, sh_388, by omega, by omega, fun s hs => ?_, fun s hs hl => ?_⟩⟩
    · rw [q1.2 385 s (show ¬ (385 : Nat) = 388 by decide), p1.2 385 s (show ¬ (385 : Nat) = 386 by decide)]
      exact u5 s hs
    · rw [q1.2 386 s (show ¬ (386 : Nat) = 388 by decide), p2 386 s rfl]
      have := c5 s hs (by omega)
      rw [Int.zero_add] at this
      exact this
    · rw [q1.2 387 s (show ¬ (387 : Nat) = 388 by decide), p1.2 387 s (show ¬ (387 : Nat) = 386 by decide)]
      exact u7 s hs
    · rw [q2 388 s rfl]
      have := d5 s hs (by omega)
      rw [Int.zero_add] at this
      exact this
end Cod3
