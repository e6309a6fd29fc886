/-! save on both sides -/
section Save5
variable {q : Nat × (Nat → Int32)} {S A B : ms} {r s n0 fr m a b d : Int} {l j n : Nat}
def MX (A B T : ms) : Prop := (∀ (a : Nat) (k : Int), a < 367 → T.1 a k = A.1 a k) ∧ ∀ (a : Nat) (k : Int), 366 < a → T.1 a k = B.1 a k
theorem md_209 {b : Int} (hs : 0 ≤ s ∧ s < 8) (hj : j < 192) (hB : B.1 451 s = j) {rr : Option Value} {B' : ms} (k : EV q 421 33 [some (.ref 367), some (vI s), some (vI 1), some (vI (fr + l)), none, none, none] [] (wI (wI B 450 (200 * s + j) b) 451 s ((j : Int) + 1)) rr B') : EV q 421 209 [some (.ref 367), some (vI s), some (vI 1), some (vI fr), some (vI (fr + l)), some (vI b), none] [] B rr B' := by
  have ws : w32 s = s := w32_of (by omega)
  have wx : w32 (200 * s + j) = 200 * s + j := w32_of (by omega)
  refine vc_MD_save_209 _ _ _ _ _ ?_
  rw [ws, hB, wx]
  refine ⟨fun n => absurd n (by decide), fun _ => ⟨by omega, by omega, fun S3 f3 => ⟨by omega, by omega, fun S6 f6 => vc_MD_save_242 _ _ _ _ _ ?_⟩⟩⟩
  have e : S3.1 451 s = j := by rw [f3, rI_I, if_neg (by omega), hB]
  rw [e] at f6
  subst f3 f6
  exact k
theorem sv_loop (h : RO m S) (hm : m < 100000) (hr : 0 ≤ r ∧ r < 8) (hr0 : S.1 190 r = 0) (hs : s = S.1 184 2) (hs8 : S.1 184 2 < 8) (hn : n0 ≤ 6000) (oc : ∀ k : Int, 0 ≤ k → k < n0 → (0 ≤ S.1 2 k ∧ S.1 2 k < 256) ∧ S.1 368 k = b8 (S.1 2 k)) : ∀ (t : Nat) (A B0 : ms) (j : Nat) (fr : Int), n0 - fr ≤ t → SV S A B0 r s n0 j fr → ∃ (zc : Int) (A' : ms), EV q 241 19 [some (.ref 184), some (.ref 1), some (vI r), some (vI j), some (vI fr), some (vI j), none, none] [] A (some (vI zc)) A' ∧ (A'.2 = S.2 ∧ (∀ (a : Nat) (k : Int), ¬ XO a k → A'.1 a k = S.1 a k) ∧ ∀ (a : Nat) (k : Int), 366 < a → A'.1 a k = S.1 a k) ∧ ∀ B, SV S A B r s n0 j fr → ∃ (zr : Int) (B' : ms), EV q 421 33 [some (.ref 367), some (vI s), some (vI 1), some (vI fr), none, none, none] [] B (some (vI zr)) B' ∧ (B'.2 = B.2 ∧ (∀ (a : Nat) (k : Int), ¬ XO a k → B'.1 a k = B.1 a k) ∧ ∀ (a : Nat) (k : Int), a < 367 → B'.1 a k = B.1 a k) ∧ ((zc = 1 ∧ zr = S.1 184 3 + 1 ∧ A'.1 184 3 = S.1 184 3 + 1 ∧ ∀ T, MX A' B' T → RO (m + 1) T) ∨ (zc = 0 ∧ zr = -4 ∧ ∀ T, MX A' B' T → RO m T)) := by
  have r1 : isRow 1 6000 := ⟨rfl, rfl⟩
  have s8 : 0 ≤ s ∧ s < 8 := by
    have := h.2.1.1
    omega
  obtain ⟨⟨w1, w2, w3, w4⟩, ⟨n1, n2, n3, n4⟩, -⟩ := id h
  intro t
  induction t with
  | zero =>
    intro A B0 j fr ht sv
    obtain ⟨⟨v1, v2, v3, v4⟩, v5, v6, v7, ⟨d1, d2, d3, d4⟩, cc, ⟨v9, v10⟩, v11⟩ := id sv
    have e : fr = n0 := by omega
    subst e
    have jb : j ≤ 192 := by omega
    have j192 : ¬ 192 ≤ (j : Int) := by omega
    obtain ⟨A', kA, a1, a2, ⟨a3, a4, a5, a6⟩, a7⟩ := sp_keepend (q := q) (x4 := fr) (x5 := j) sv hr jb
    have e3 : A.1 184 3 = S.1 184 3 := v10 _ _ (by omega)
    have e2 : A.1 184 2 = S.1 184 2 := v10 _ _ (by omega)
    have wj : Unit → w32 (j : Int) = j := fun _ => w32_of (by omega)
    refine ⟨1, A', vc_Store_keep_19 _ _ _ _ 1 6000 r1 ?_, ⟨a1.trans v9, fun a k ha => ?_, fun a k ha => ?_⟩, fun B svB => ?_⟩
    · rw [v1, wj ()]
      exact ⟨fun _ => kA, fun _ => ⟨fun _ => kA, fun n => absurd (Int.le_refl _) n⟩⟩
    · rw [a7 a k (by omega) (by omega) (by omega) (by omega), v10 a k (by omega)]
    · rw [a7 a k (by omega) (by omega) (by omega) (by omega), v10 a k (by omega)]
    · obtain ⟨⟨-, -, b3, -⟩, -, -, -, ⟨f1, -, -, -⟩, -, -, b11⟩ := id svB
      have e130 : B.1 367 130 = S.1 184 3 := by rw [b11 _ _ (by omega), w4]
      have e129 : B.1 367 129 = S.1 184 2 := by rw [b11 _ _ (by omega), w3]
      have ws : w32 s = s := w32_of (by omega)
      have q3 : ∀ (a : Nat) (k : Int), (wI (wI (wI B 367 130 (S.1 184 3 + 1)) 449 s (S.1 184 3 + 1)) 367 129 (S.1 184 2 + 1)).1 a k = if a = 367 ∧ k = 129 then S.1 184 2 + 1 else if a = 449 ∧ k = s then S.1 184 3 + 1 else if a = 367 ∧ k = 130 then S.1 184 3 + 1 else B.1 a k := fun _ _ => rfl
      refine ⟨S.1 184 3 + 1, wI (wI (wI B 367 130 (S.1 184 3 + 1)) 449 s (S.1 184 3 + 1)) 367 129 (S.1 184 2 + 1), vc_MD_save_33 _ _ _ ?_, ⟨rfl, fun a k ha => ?_, fun a k ha => ?_⟩, Or.inl ⟨rfl, rfl, by rw [a6, e3], fun T hT => ?_⟩⟩
      · rw [b3]
        refine ⟨fun _ => vc_MD_save_248 _ _ _ ⟨fun _ S1 f1 => ?_, fun n => absurd (by decide) n⟩, fun n => absurd (Int.le_refl _) n⟩
        rw [e130] at f1
        rw [ws]
        refine ⟨by omega, fun S3 f3 S4 f4 => ?_⟩
        have g1 : S1.1 367 130 = S.1 184 3 + 1 := by rw [f1, rI_I, if_pos ⟨rfl, rfl⟩]
        rw [g1] at f3
        have g3 : S3.1 367 129 = S.1 184 2 := by rw [f3, rI_I, if_neg (by omega), f1, rI_I, if_neg (by omega), e129]
        rw [g3] at f4
        have g4 : S4.1 367 130 = S.1 184 3 + 1 := by rw [f4, rI_I, if_neg (by omega), f3, rI_I, if_neg (by omega), g1]
        rw [g4]
        subst f1 f3 f4
        exact ⟨rfl, rfl⟩
      · rw [q3, if_neg (by omega), if_neg (by omega), if_neg (by omega)]
      · rw [q3, if_neg (by omega), if_neg (by omega), if_neg (by omega)]
      · refine SG_RO (n := j) (r := r) (s := s) h hm hr hr0 hs hs8 hn svB ⟨⟨?_, ?_, ?_, ?_⟩, ⟨?_, ?_, ?_, ?_⟩, ⟨?_, ?_, ?_, ?_, ?_, ?_⟩, fun b b0 b1 => ?_, fun i => ⟨?_, ?_⟩, fun k => ?_, fun i => ⟨?_, ?_⟩, fun k => ?_⟩
        · rw [hT.1 _ _ (by decide), a7 _ _ (by omega) (by omega) (by omega) (by omega)]
        · rw [hT.1 _ _ (by decide), a7 _ _ (by omega) (by omega) (by omega) (by omega)]
        · rw [hT.1 _ _ (by decide), a5, e2]
        · rw [hT.1 _ _ (by decide), a6, e3]
        · rw [hT.2 _ _ (by decide), q3, if_neg (by omega), if_neg (by omega), if_neg (by omega)]
        · rw [hT.2 _ _ (by decide), q3, if_neg (by omega), if_neg (by omega), if_neg (by omega)]
        · rw [hT.2 _ _ (by decide), q3, if_pos ⟨rfl, rfl⟩]
        · rw [hT.2 _ _ (by decide), q3, if_neg (by omega), if_neg (by omega), if_pos ⟨rfl, rfl⟩]
        · funext k
          rw [hT.1 _ _ (by decide), a7 _ _ (by omega) (by omega) (by omega) (by omega)]
        · funext k
          rw [hT.1 _ _ (by decide), a7 _ _ (by omega) (by omega) (by omega) (by omega)]
        · funext k
          rw [hT.1 _ _ (by decide), a7 _ _ (by omega) (by omega) (by omega) (by omega)]
        · funext k
          rw [hT.2 _ _ (by decide), q3, if_neg (by omega), if_neg (by omega), if_neg (by omega)]
        · funext k
          rw [hT.2 _ _ (by decide), q3, if_neg (by omega), if_neg (by omega), if_neg (by omega)]
        · funext k
          rw [hT.2 _ _ (by decide), q3, if_neg (by omega), if_neg (by omega), if_neg (by omega)]
        · rw [hT.1 _ _ (by decide), a2 b b0 b1, v10 _ _ (by omega)]
        · rw [hT.1 _ _ (by decide)]
          by_cases c : i = r
          · rw [if_pos c, c, a4, e3]
          · rw [if_neg c, a7 _ _ (by omega) (by omega) (by omega) (by omega), v10 _ _ (by omega)]
        · rw [hT.1 _ _ (by decide)]
          by_cases c : i = r
          · rw [if_pos c, c, a3]
          · rw [if_neg c, a7 _ _ (by omega) (by omega) (by omega) (by omega), v10 _ _ (by omega)]
        · rw [hT.1 _ _ (by decide), a7 _ _ (by omega) (by omega) (by omega) (by omega)]
        · rw [hT.2 _ _ (by decide), q3, if_neg (by omega)]
          by_cases c : i = s
          · rw [if_pos ⟨rfl, c⟩, if_pos c]
          · rw [if_neg (fun z => c z.2), if_neg c, if_neg (by omega), b11 _ _ (by omega)]
        · rw [hT.2 _ _ (by decide), q3, if_neg (by omega), if_neg (by omega), if_neg (by omega)]
          by_cases c : i = s
          · rw [if_pos c, c, f1]
          · rw [if_neg c, b11 _ _ (by omega)]
        · rw [hT.2 _ _ (by decide), q3, if_neg (by omega), if_neg (by omega), if_neg (by omega)]
  | succ t ih =>
    intro A B0 j fr ht sv
    obtain ⟨⟨v1, v2, v3, v4⟩, v5, v6, v7, ⟨d1, d2, d3, d4⟩, ⟨c1, c2, c3, c4, c5, c6⟩, ⟨v9, v10⟩, v11⟩ := id sv
    by_cases ce : fr = n0
    · exact ih A B0 j fr (by omega) sv
    · have j192 : j < 188 := by omega
      obtain ⟨l, ⟨l1, l2, l3, l4⟩, peC, peM⟩ := pe_both (q := q) (S := S) (n0 := n0) (fr := fr) d3.1 (by omega) hn oc
      have kC := peC A v1 v2
      obtain ⟨h', eh'⟩ : ∃ h' : Int, h' = hsF (fun k => S.1 2 (fr + k)) l := ⟨_, rfl⟩
      rw [← eh'] at kC
      obtain ⟨A1, eA1⟩ : ∃ A1 : ms, A1 = wI A 184 12 h' := ⟨_, rfl⟩
      rw [← eA1] at kC
      have q1 : ∀ (a : Nat) (k : Int), A1.1 a k = if a = 184 ∧ k = 12 then h' else A.1 a k := fun a k => by rw [eA1]; rfl
      have A12 : A1.1 2 = S.1 2 := by
        rw [← v2]
        funext k
        rw [q1, if_neg (by omega)]
      have to : TO A1 n0 := fun k k0 k1 => by
        rw [A12]
        exact (oc k k0 k1).1
      have hh : A1.1 184 12 = hsF (fun k => A1.1 2 (fr + k)) l := by
        rw [A12, ← eh', q1, if_pos ⟨rfl, rfl⟩]
      have sv1 : ∀ (E : Int → Prop) (B : ms), SV S A B r s n0 j fr → SVx E S A1 B r s n0 j fr := fun E B svB => by
        rw [eA1]
        exact sv_hash svB h'
      have A1o : A1.1 184 1 = A.1 184 1 := by rw [q1, if_neg (by omega)]
      obtain ⟨F, hF⟩ := fb_ex A1
      have hFA : FB A F := ⟨hF.1, fun i i0 i1 => by
        have := hF.2.1 i i0 i1
        rw [q1, if_neg (by omega)] at this
        exact this, fun z => by
        have := hF.2.2 z
        rw [q1, if_neg (by omega)] at this
        exact this⟩
      obtain ⟨pl1, pl2⟩ := sp_place (q := q) (A := A1) (B := B0) (fr := fr) (l := l) (n0 := n0) (F := F) d3.1 l2 hn l1 l3 to (sv1 (fun _ => False) B0 sv).2.1 hh (by rw [A1o]; exact ⟨c5, c6⟩) hF
      have es : fr + (l : Int) - fr = l := by omega
      have ek : (j : Int) + 1 = ((j + 1 : Nat) : Int) := by omega
      have z0 : ¬ n0 ≤ fr := by omega
      have z192 : ¬ 192 ≤ (j : Int) := by omega
      have zx : 0 ≤ r * 192 + (j : Int) ∧ r * 192 + (j : Int) < (1536 : Nat) := by omega
      have wn0 : w32 n0 = n0 := w32_of (by omega)
      have wfr : w32 fr = fr := w32_of (by omega)
      have wx : w32 (r * 192 + j) = 192 * r + j := by rw [w32_of (by omega)]; omega
      have wj : Unit → w32 (j : Int) = j := fun _ => w32_of (by omega)
      have hB368 : ∀ B : ms, SV S A B r s n0 j fr → ∀ k : Int, 0 ≤ k → k < n0 → B.1 368 k = b8 (A1.1 2 k) := fun B svB k k0 k1 => by
        rw [svB.1.2.2.2, A12]
        exact (oc k k0 k1).2
      -- a piece that has its BLOCK b
      have step : ∀ (bb : Int) (A1' : ms) (nB : ms → ms), 0 ≤ bb → bb < 300 → (∀ B, SV S A B r s n0 j fr → SVx (fun x => x = bb) S A1' (nB B) r s n0 j fr ∧ (nB B).2 = B.2 ∧ (∀ (a : Nat) (k : Int), ¬ XO a k → (nB B).1 a k = B.1 a k) ∧ (∀ (a : Nat) (k : Int), a < 367 → (nB B).1 a k = B.1 a k) ∧ ∀ {rr : Option Value} {B' : ms}, EV q 421 209 [some (.ref 367), some (vI s), some (vI 1), some (vI fr), some (vI (fr + l)), some (vI bb), none] [] (nB B) rr B' → EV q 421 33 [some (.ref 367), some (vI s), some (vI 1), some (vI fr), none, none, none] [] B rr B') → A1'.1 186 bb = l → EV q 244 0 [some (.ref 184), some (.ref 1), some (vI fr), some (vI l), none, none] [] A1 (some (vI bb)) A1' → ∃ (zc : Int) (A' : ms), EV q 241 19 [some (.ref 184), some (.ref 1), some (vI r), some (vI j), some (vI fr), some (vI j), none, none] [] A (some (vI zc)) A' ∧ (A'.2 = S.2 ∧ (∀ (a : Nat) (k : Int), ¬ XO a k → A'.1 a k = S.1 a k) ∧ ∀ (a : Nat) (k : Int), 366 < a → A'.1 a k = S.1 a k) ∧ ∀ B, SV S A B r s n0 j fr → ∃ (zr : Int) (B' : ms), EV q 421 33 [some (.ref 367), some (vI s), some (vI 1), some (vI fr), none, none, none] [] B (some (vI zr)) B' ∧ (B'.2 = B.2 ∧ (∀ (a : Nat) (k : Int), ¬ XO a k → B'.1 a k = B.1 a k) ∧ ∀ (a : Nat) (k : Int), a < 367 → B'.1 a k = B.1 a k) ∧ ((zc = 1 ∧ zr = S.1 184 3 + 1 ∧ A'.1 184 3 = S.1 184 3 + 1 ∧ ∀ T, MX A' B' T → RO (m + 1) T) ∨ (zc = 0 ∧ zr = -4 ∧ ∀ T, MX A' B' T → RO m T)) := by
        intro bb A1' nB b0 b1 hnB hlb kpl
        have nxt : ∀ B, SV S A B r s n0 j fr → SV S (wI A1' 192 (192 * r + j) bb) (wI (wI (nB B) 450 (200 * s + j) bb) 451 s ((j : Int) + 1)) r s n0 (j + 1) (fr + l) := fun B svB => sv_row (hnB B svB).1 hr s8 hn ⟨b0, b1⟩ hlb l1 l2 l4
        obtain ⟨zc, A', k1, k2, k3⟩ := ih (wI A1' 192 (192 * r + j) bb) (wI (wI (nB B0) 450 (200 * s + j) bb) 451 s ((j : Int) + 1)) (j + 1) (fr + l) (by omega) (nxt B0 sv)
        have wb : w32 bb = bb := w32_of (by omega)
        refine ⟨zc, A', vc_Store_keep_19 _ _ _ _ 1 6000 r1 ?_, k2, fun B svB => ?_⟩
        · rw [v1, wj (), wn0, wfr]
          refine ⟨fun n => absurd n z192, fun _ => ⟨fun n => absurd n z0, fun _ => ⟨fr + l, A1, kC, bb, A1', by rw [es]; exact kpl, ?_⟩⟩⟩
          rw [wb, wx, ek]
          refine ⟨fun _ => ⟨by rw [← wx, w32_of (by omega)]; exact zx, fun S8 f8 => ?_⟩, fun n => absurd b0 n⟩
          subst f8
          exact k1
        · obtain ⟨zr, B', m1, ⟨m2, m3, m4⟩, m5⟩ := k3 _ (nxt B svB)
          obtain ⟨g1, g2, g3, g4, g5⟩ := hnB B svB
          have f1 : (nB B).1 451 s = j := g1.2.2.2.2.1.1
          refine ⟨zr, B', g5 (md_209 (q := q) s8 (by omega) f1 m1), ⟨m2.trans g2, fun a k ha => ?_, fun a k ha => ?_⟩, m5⟩
          · rw [m3 a k ha, rI_I, if_neg (by omega), rI_I, if_neg (by omega), g3 a k ha]
          · rw [m4 a k ha, rI_I, if_neg (by omega), rI_I, if_neg (by omega), g4 a k ha]
      rcases lk_least (P := LK A1 fr l) 300 0 (by omega) (by omega) (fun b b0 b1 => absurd b1 (by omega)) with ⟨bb, b01, blk, bno⟩ | nolk
      · refine step bb A1 (fun B => B) b01.1 b01.2 (fun B svB => ⟨sv1 _ B svB, rfl, fun _ _ _ => rfl, fun _ _ _ => rfl, fun {rr B'} kk => vc_MD_save_33 _ _ _ ?_⟩) blk.1 (pl1 bb b01.1 b01.2 blk bno)
        have kM := peM B svB.1.2.2.1 svB.1.2.2.2
        have kb := (md_place (q := q) (A := A1) (B := B) d3.1 l2 hn l1 l3 to (hB368 B svB) (sv1 (fun _ => False) B svB).2.1).1 bb b01.1 b01.2 blk bno
        have wb : w32 bb = bb := w32_of (by omega)
        rw [svB.1.2.2.1, wn0, wfr]
        refine ⟨fun n => absurd n z0, fun _ => ⟨fun n => absurd n (by decide), fun _ => ⟨fr + l, B, kM, bb, B, by rw [es]; exact kb, ?_⟩⟩⟩
        rw [wb]
        exact ⟨fun _ => kk, fun n => absurd b01.1 n⟩
      · obtain ⟨p1, p2⟩ := pl2 nolk
        have mro : ∀ B, SV S A B r s n0 j fr → (F < 300 ↔ B.1 367 123 < 300) ∧ (0 ≤ B.1 367 123 ∧ B.1 367 123 ≤ 300) ∧ B.1 367 124 = A.1 184 1 := fun B svB => by
          have ff := sv_full svB hFA
          obtain ⟨-, -, -, -, -, ⟨g1, -, g3, -⟩, -⟩ := svB
          rw [← g1, ← g3]
          exact ⟨ff.1, ff.2, rfl⟩
        by_cases room : F < 300 ∧ A1.1 184 1 + l ≤ 40000
        · have room2 : A.1 184 1 + l ≤ 40000 := by rw [← A1o]; exact room.2
          have nb186 : (NBc A1 fr l F).1 186 F = l := by
            rw [NBc_at, if_neg (by omega), if_neg (by omega), if_neg (by omega), if_neg (by omega), if_pos ⟨rfl, rfl⟩]
          refine step F (NBc A1 fr l F) (fun B => NBm B fr l F) hF.1.1 room.1 (fun B svB => ⟨?_, rfl, fun a k ha => ?_, fun a k ha => ?_, fun {rr B'} kk => vc_MD_save_33 _ _ _ ?_⟩) nb186 (p1 room.1 room.2)
          · rw [eA1]
            exact sv_new svB hn oc (fun z => (RO_188 h hF.1.1 room.1 z).1) hFA room.1 l1 l3 l2 eh' room2
          · show (NBm B fr l F).1 a k = B.1 a k
            rw [NBm_at, if_neg (by omega), if_neg (by omega), if_neg (by omega), if_neg (by omega), if_neg (by omega)]
          · show (NBm B fr l F).1 a k = B.1 a k
            rw [NBm_at, if_neg (by omega), if_neg (by omega), if_neg (by omega), if_neg (by omega), if_neg (by omega)]
          · have kM := peM B svB.1.2.2.1 svB.1.2.2.2
            have kb := (md_place (q := q) (A := A1) (B := B) d3.1 l2 hn l1 l3 to (hB368 B svB) (sv1 (fun _ => False) B svB).2.1).2 nolk
            obtain ⟨mr1, mr2, mr3⟩ := mro B svB
            have lt := mr1.mp room.1
            have w123 : w32 (B.1 367 123) = B.1 367 123 := w32_of (by omega)
            have e124 : B.1 367 124 + (fr + (l : Int)) - fr = A.1 184 1 + l := by rw [mr3]; omega
            have w124 : w32 (A.1 184 1 + l) = A.1 184 1 + l := w32_of (by omega)
            have ox := svB.2.1
            have wF : w32 F = F := w32_of (by have := hF.1; omega)
            have b448 : B.1 448 F = 0 := by rw [(ox F hF.1.1 room.1).2.1, if_pos (hFA.2.2 room.1)]
            have b448' : ∀ i : Int, 0 ≤ i → i < F → B.1 448 i = 1 := fun i i0 i1 => by rw [(ox i i0 (by omega)).2.1, if_neg (hFA.2.1 i i0 i1)]
            have knew := lp_mnew (q := q) (B := B) (x1 := s) (fr := fr) (l := l) (F := F) ⟨hF.1.1, room.1⟩ d3.1 l2 hn l3 kk l 0 (by omega)
            rw [show ((0 : Nat) : Int) = 0 from rfl, wC_00] at knew
            have k122 : EV q 421 122 [some (.ref 367), some (vI s), some (vI 1), some (vI fr), some (vI (fr + l)), some (vI F), none] [] B rr B' := by
              refine vc_MD_save_122 _ _ _ _ _ ?_
              rw [wF, es]
              refine ⟨fun n => absurd n (by decide), fun _ => ⟨⟨hF.1.1, room.1⟩, fun S2 f2 => ⟨⟨hF.1.1, room.1⟩, fun S4 f4 => ?_⟩⟩⟩
              have f2' : S2 = wI B 448 F 1 := f2
              subst f2' f4
              exact knew
            have kfree := lp_mfree (q := q) (B := B) (x1 := s) (fr := fr) (x4 := fr + l) (F := F) ⟨hF.1.1, room.1⟩ b448' b448 k122 F.toNat 0 (by omega) (by have := hF.1; omega)
            rw [svB.1.2.2.1, wn0, wfr]
            refine ⟨fun n => absurd n z0, fun _ => ⟨fun n => absurd n (by decide), fun _ => ⟨fr + l, B, kM, -1, B, by rw [es]; exact kb, ?_⟩⟩⟩
            rw [w123, e124, w124]
            exact ⟨fun n => absurd n (by decide), fun _ => ⟨fun n => absurd n (by omega), fun _ => ⟨fun n => absurd n (by omega), fun _ => vc_MD_save_98 _ _ _ _ _ _ kfree⟩⟩⟩
        · obtain ⟨zz, C, kf, g1, ⟨g2, g3⟩, g4, g5⟩ := sp_keepfail (q := q) (h' := h') h sv
          rw [← eA1] at kf
          refine ⟨0, C, vc_Store_keep_19 _ _ _ _ 1 6000 r1 ?_, ⟨g1, fun a k ha => ?_, fun a k ha => ?_⟩, fun B svB => ?_⟩
          · rw [v1, wj (), wn0, wfr]
            refine ⟨fun n => absurd n z192, fun _ => ⟨fun n => absurd n z0, fun _ => ⟨fr + l, A1, kC, -1, A1, by rw [es]; exact p2 room, fun n => absurd n (by decide), fun _ => ⟨zz, C, kf, rfl, rfl⟩⟩⟩⟩
          · rw [g5 a k (by omega) (by omega), v10 a k (by omega)]
          · rw [g5 a k (by omega) (by omega), v10 a k (by omega)]
          · have kM := peM B svB.1.2.2.1 svB.1.2.2.2
            have kb := (md_place (q := q) (A := A1) (B := B) d3.1 l2 hn l1 l3 to (hB368 B svB) (sv1 (fun _ => False) B svB).2.1).2 nolk
            obtain ⟨mr1, mr2, mr3⟩ := mro B svB
            have w123 : w32 (B.1 367 123) = B.1 367 123 := w32_of (by omega)
            have e124 : B.1 367 124 + (fr + (l : Int)) - fr = A.1 184 1 + l := by rw [mr3]; omega
            have w124 : w32 (A.1 184 1 + l) = A.1 184 1 + l := w32_of (by omega)
            obtain ⟨T', kT, t1, ⟨t2, t3⟩, t4, t5⟩ := md_keepfail (q := q) (x3 := fr + l) h hs hs8 hn svB
            obtain ⟨-, -, -, -, -, -, -, b11⟩ := id svB
            have k248 : EV q 421 248 [some (.ref 367), some (vI s), some (vI 0), some (vI (fr + l)), none, none, none] [] B (some (vI (-4))) T' := vc_MD_save_248 _ _ _ ⟨fun n => absurd rfl n, fun _ => kT⟩
            have k97 : EV q 421 97 [some (.ref 367), some (vI s), some (vI 1), some (vI fr), some (vI (fr + l)), some (vI (-1)), none] [] B (some (vI (-4))) T' := by
              refine vc_MD_save_97 _ _ _ _ _ (vc_MD_save_98 _ _ _ _ _ _ (vc_MD_save_102 _ _ _ _ _ ⟨fun _ => vc_MD_save_122 _ _ _ _ _ ⟨fun _ => vc_MD_save_209 _ _ _ _ _ ⟨fun _ => vc_MD_save_242 _ _ _ _ _ (vc_MD_save_33 _ _ _ ?_), fun n => absurd rfl n⟩, fun n => absurd rfl n⟩, fun n => absurd rfl n⟩))
              exact ⟨fun _ => k248, fun _ => ⟨fun _ => k248, fun n => absurd rfl n⟩⟩
            refine ⟨-4, T', vc_MD_save_33 _ _ _ ?_, ⟨t1, fun a k ha => t5 a k (by omega) (by omega), fun a k ha => t5 a k (by omega) (by omega)⟩, Or.inr ⟨rfl, rfl, fun T hT => ?_⟩⟩
            · rw [svB.1.2.2.1, wn0, wfr]
              refine ⟨fun n => absurd n z0, fun _ => ⟨fun n => absurd n (by decide), fun _ => ⟨fr + l, B, kM, -1, B, by rw [es]; exact kb, ?_⟩⟩⟩
              rw [w123, e124, w124]
              refine ⟨fun n => absurd n (by decide), fun _ => ⟨fun _ => k97, fun c => ⟨fun _ => k97, fun c2 => absurd ⟨mr1.mpr (by omega), ?_⟩ room⟩⟩⟩
              rw [A1o]
              omega
            · refine SX_RO (r := r) (s := s) h hr hr0 hs svB ⟨⟨?_, ?_, ?_, ?_⟩, ⟨?_, ?_, ?_, ?_⟩, ⟨?_, ?_, ?_, ?_⟩, fun b b0 b1 => ⟨?_, ?_⟩, ?_, ?_, ?_, ?_, ?_, ?_, ?_⟩
              · rw [hT.1 _ _ (by decide), g2]
              · rw [hT.1 _ _ (by decide), g3]
              · rw [hT.1 _ _ (by decide), g5 _ _ (by omega) (by omega), v10 _ _ (by omega)]
              · rw [hT.1 _ _ (by decide), g5 _ _ (by omega) (by omega), v10 _ _ (by omega)]
              · rw [hT.2 _ _ (by decide), t2]
              · rw [hT.2 _ _ (by decide), t3]
              · rw [hT.2 _ _ (by decide), t5 _ _ (by omega) (by omega), b11 _ _ (by omega)]
              · rw [hT.2 _ _ (by decide), t5 _ _ (by omega) (by omega), b11 _ _ (by omega)]
              · funext k
                rw [hT.1 _ _ (by decide), g5 _ _ (by omega) (by omega)]
              · funext k
                rw [hT.1 _ _ (by decide), g5 _ _ (by omega) (by omega)]
              · funext k
                rw [hT.2 _ _ (by decide), t5 _ _ (by omega) (by omega)]
              · funext k
                rw [hT.2 _ _ (by decide), t5 _ _ (by omega) (by omega)]
              · rw [hT.1 _ _ (by decide), g4 b b0 b1]
              · rw [hT.2 _ _ (by decide), t4 b b0 b1]
              · funext k
                rw [hT.1 _ _ (by decide), g5 _ _ (by omega) (by omega), v10 _ _ (by omega)]
              · funext k
                rw [hT.1 _ _ (by decide), g5 _ _ (by omega) (by omega), v10 _ _ (by omega)]
              · funext k
                rw [hT.1 _ _ (by decide), g5 _ _ (by omega) (by omega), v10 _ _ (by omega)]
              · funext k
                rw [hT.1 _ _ (by decide), g5 _ _ (by omega) (by omega)]
              · funext k
                rw [hT.2 _ _ (by decide), t5 _ _ (by omega) (by omega), b11 _ _ (by omega)]
              · funext k
                rw [hT.2 _ _ (by decide), t5 _ _ (by omega) (by omega)]
              · funext k
                rw [hT.2 _ _ (by decide), t5 _ _ (by omega) (by omega)]
end Save5
