/-! read: BENCH, both sides at once -/
section ReaB
variable {q : Nat × (Nat → Int32)} {x p : Int} {t : Int → Int}
theorem md_bnRow {n l z : Nat} {E : Nat → En} {v1 v2 v3 : Int} {st : Rd} {S B : ms} (hx : 0 ≤ x ∧ x ≤ 6000) (h0 : 0 ≤ p) (h1 : p + 60 ≤ x) (hn : n ≤ 16) (hE : ∀ e : Nat, e < n → EnOk (E e)) (b1 : -1 ≤ v1 ∧ v1 < 1000000000000) (b2 : -1 ≤ v2 ∧ v2 < 1000000000000) (b3 : -1 ≤ v3 ∧ v3 < 1000000000000) (hl : stR t p l) (hz : upR t p l z) (kz : ∀ B : ms, TM B x t → EV q 395 0 [some (.ref 367), some (vI p), some (vI l), none] [] B (some (vI z)) B) (hr : rdR x st) (c0 : st.1 = 0) (hT : TM S x t) (h2 : S.1 367 2 = x) (hSh : ShM S n E) (hB : MR S B x st) : ∃ S1 B1, EX xSi S S1 ∧ MR S1 B1 x (bnF x p t n l z v1 v2 v3 st) ∧ ((bnF x p t n l z v1 v2 v3 st).1 = 0 → ShM S1 (n + 1) (upE E n ((z : Nat), fun k => t (p + k), v2 % 512, v1, v3, fun k => t (p + 60 + k)))) ∧ ((bnF x p t n l z v1 v2 v3 st).1 ≠ 0 → ShM S1 n E) ∧ ∀ (r : Option Value) (T : ms), ((bnF x p t n l z v1 v2 v3 st).1 = 0 → EV q 398 58 [some (.ref 367), some (vI (bnP p v3)), none, none, none, none, none, none, none, none, none, none] [] B1 r T) → ((bnF x p t n l z v1 v2 v3 st).1 ≠ 0 → r = none ∧ T = B1) → EV q 398 165 [some (.ref 367), some (vI p), some (vL v1), none, some (vL v2), none, some (vL v3), none, some (vI l), none, none, none] [] B r T := by
  have hTB : TM B x t := fun k k0 k1 => ⟨(hT k k0 k1).1, by rw [hB.2.2.2 368 k (by omega) (by omega)]; exact (hT k k0 k1).2⟩
  have hl1 := hl.1
  have hz1 := hz.1
  have w0 : w64 0 = 0 := by decide
  have t58 := hTB (p + 58) (by omega) (by omega)
  have t59 := hTB (p + 59) (by omega) (by omega)
  have e95 : B.1 367 95 = n := by rw [hB.2.2.2 367 95 (by omega) (by omega)]; exact hSh.1
  have e2 : B.1 367 2 = x := by rw [hB.2.2.2 367 2 (by omega) (by omega)]; exact h2
  obtain ⟨Y, eY⟩ : ∃ Y : Int, Y = if z = l then 0 else 1 := ⟨_, rfl⟩
  have wl : Unit → w32 ((l : Nat) : Int) = l := fun _ => w32_of (by omega)
  have wz : Unit → w32 ((z : Nat) : Int) = z := fun _ => w32_of (by omega)
  have wn : Unit → w32 ((n : Nat) : Int) = n := fun _ => w32_of (by omega)
  have p182 : ∀ (r : Option Value) (T : ms), EV q 398 182 [some (.ref 367), some (vI p), some (vL v1), none, some (vL v2), none, some (vL v3), none, some (vI l), none, none, none] [vI Y] B r T → EV q 398 165 [some (.ref 367), some (vI p), some (vL v1), none, some (vL v2), none, some (vL v3), none, some (vI l), none, none, none] [] B r T := by
    intro r T y
    refine vc_MD_readBench_165 _ _ _ _ _ ⟨z, B, kz B hTB, ?_⟩
    rw [wl (), wz ()]
    by_cases a : z = l
    · rw [eY, if_pos a] at y
      exact cY (by omega) y
    · rw [eY, if_neg a] at y
      exact cNo (by omega) y
  have fin : ∀ (k pp : Int), (1 ≤ k ∧ k < 1000) → bnF x p t n l z v1 v2 v3 st = rdTellAt k pp st → (∀ B1 : ms, EV q 335 0 [some (.ref 367), some (vI k), some (vI pp)] [] B none B1 → EV q 398 182 [some (.ref 367), some (vI p), some (vL v1), none, some (vL v2), none, some (vL v3), none, some (vI l), none, none, none] [vI Y] B none B1) → ∃ S1 B1, EX xSi S S1 ∧ MR S1 B1 x (bnF x p t n l z v1 v2 v3 st) ∧ ((bnF x p t n l z v1 v2 v3 st).1 = 0 → ShM S1 (n + 1) (upE E n ((z : Nat), fun k => t (p + k), v2 % 512, v1, v3, fun k => t (p + 60 + k)))) ∧ ((bnF x p t n l z v1 v2 v3 st).1 ≠ 0 → ShM S1 n E) ∧ ∀ (r : Option Value) (T : ms), ((bnF x p t n l z v1 v2 v3 st).1 = 0 → EV q 398 58 [some (.ref 367), some (vI (bnP p v3)), none, none, none, none, none, none, none, none, none, none] [] B1 r T) → ((bnF x p t n l z v1 v2 v3 st).1 ≠ 0 → r = none ∧ T = B1) → EV q 398 165 [some (.ref 367), some (vI p), some (vL v1), none, some (vL v2), none, some (vL v3), none, some (vI l), none, none, none] [] B r T := by
    intro k pp hk et h3
    have ct : (bnF x p t n l z v1 v2 v3 st).1 ≠ 0 := by rw [et]; exact rdTellAt_1 (by omega)
    obtain ⟨B1, m1, m2⟩ := mb_tellAt (q := q) (k := k) (p := pp) hr hB
    rw [← et] at m2
    refine ⟨S, B1, EX.refl _ S, m2, fun y => absurd y ct, fun _ => hSh, fun r T _ y => ?_⟩
    obtain ⟨y1, y2⟩ := y ct
    rw [y1, y2]
    exact p182 _ _ (h3 B1 m1)
  have wv1 : w64 v1 = v1 := w64_of (by omega)
  have wv2 : w64 v2 = v2 := w64_of (by omega)
  have wv3 : w64 v3 = v3 := w64_of (by omega)
  have w58 : w32 (p + 58) = p + 58 := w32_of (by omega)
  have w59 : w32 (p + 59) = p + 59 := w32_of (by omega)
  have w6 : w64 6000 = 6000 := by decide
  have wT : w64 2147483647 = 2147483647 := by decide
  have n296 : ∀ (y0 : Int) (B1 : ms), (1 ≤ y0 ∧ y0 < 1000) → EV q 335 0 [some (.ref 367), some (vI y0), some (vI p)] [] B none B1 → EV q 398 296 [some (.ref 367), some (vI p), some (vL v1), none, some (vL v2), none, some (vL v3), none, some (vI l), some (vI Y), none, none] [vI y0] B none B1 := by
    intro y0 B1 hy k
    refine vc_MD_readBench_296 _ _ _ _ _ _ _ ?_
    rw [w32_of (x := y0) (by omega)]
    exact cNo (by omega) ⟨B1, k, rfl, rfl⟩
  by_cases c1 : t (p + 58) = 96 ∧ t (p + 59) = 10
  case neg =>
    refine fin 111 p (by decide) (by
      unfold bnF
      have t1 := @rdTellAt_1 111 p st (by decide)
      rw [tl_n c1, tl_told t1, tl_told t1, tl_told t1, tl_told t1]) (fun B1 k => vc_MD_readBench_182 _ _ _ _ _ _ ?_)
    have y212 := vc_MD_readBench_212 (q := q) _ _ _ _ _ _ (n296 111 B1 (by decide) k)
    rw [w58, w59, t58.2, t59.2]
    refine ⟨by omega, ?_⟩
    by_cases a : t (p + 58) = 96
    · exact cNN ((b8_is t58.1 (by decide)).2 a) ⟨by omega, cNo (fun v => c1 ⟨a, (b8_is t59.1 (by decide)).1 v⟩) y212⟩
    · exact cY (fun v => a ((b8_is t58.1 (by decide)).1 v)) y212
  have b96 := (b8_is t58.1 (by decide)).2 c1.1
  have b10 := (b8_is t59.1 (by decide)).2 c1.2
  by_cases c2 : 0 ≤ v1 ∧ 0 ≤ v2 ∧ 0 ≤ v3 ∧ v1 ≤ 2147483647
  case neg =>
    refine fin 112 p (by decide) (by
      unfold bnF
      have t1 := @rdTellAt_1 112 p st (by decide)
      rw [tl_y c1, tl_n c2, tl_told t1, tl_told t1, tl_told t1]) (fun B1 k => vc_MD_readBench_182 _ _ _ _ _ _ ?_)
    have y245 := vc_MD_readBench_245 (q := q) _ _ _ _ _ _ (n296 112 B1 (by decide) k)
    rw [w58, w59, t58.2, t59.2, wv1, wv2, wv3, w0, wT]
    refine ⟨by omega, cNN b96 ⟨by omega, cY b10 ?_⟩⟩
    by_cases z2 : v1 < 0
    · exact cY z2 y245
    · refine cNo z2 ?_
      by_cases z3 : v2 < 0
      · exact cY z3 y245
      · refine cNo z3 ?_
        by_cases z4 : v3 < 0
        · exact cY z4 y245
        · exact cNo z4 (cNo (fun z' => c2 ⟨by omega, by omega, by omega, z'⟩) y245)
  have n182 : ∀ (r : Option Value) (T : ms), ((((l : Int) = 0) → EV q 398 267 [some (.ref 367), some (vI p), some (vL v1), none, some (vL v2), none, some (vL v3), none, some (vI l), some (vI Y), none, none] [] B r T) ∧ ((¬ (l : Int) = 0) → (((l : Int) = 16) → EV q 398 267 [some (.ref 367), some (vI p), some (vL v1), none, some (vL v2), none, some (vL v3), none, some (vI l), some (vI Y), none, none] [] B r T) ∧ ((¬ (l : Int) = 16) → ((w32 Y = 0) → (((n : Int) = 16) → EV q 398 290 [some (.ref 367), some (vI p), some (vL v1), none, some (vL v2), none, some (vL v3), none, some (vI l), some (vI Y), none, none] [] B r T) ∧ ((¬ (n : Int) = 16) → ((v3 ≤ 6000) → EV q 398 296 [some (.ref 367), some (vI p), some (vL v1), none, some (vL v2), none, some (vL v3), none, some (vI l), some (vI Y), none, none] [vI 0] B r T) ∧ ((¬ v3 ≤ 6000) → EV q 398 290 [some (.ref 367), some (vI p), some (vL v1), none, some (vL v2), none, some (vL v3), none, some (vI l), some (vI Y), none, none] [] B r T))) ∧ ((¬ w32 Y = 0) → EV q 398 267 [some (.ref 367), some (vI p), some (vL v1), none, some (vL v2), none, some (vL v3), none, some (vI l), some (vI Y), none, none] [] B r T)))) → EV q 398 182 [some (.ref 367), some (vI p), some (vL v1), none, some (vL v2), none, some (vL v3), none, some (vI l), none, none, none] [vI Y] B r T := by
    intro r T y
    refine vc_MD_readBench_182 _ _ _ _ _ _ ?_
    rw [w58, w59, t58.2, t59.2, wv1, wv2, wv3, w0, wT, wl (), e95, wn (), w6]
    exact ⟨by omega, cNN b96 ⟨by omega, cY b10 (cNo (by omega) (cNo (by omega) (cNo (by omega) (cY c2.2.2.2 y))))⟩⟩
  by_cases c3 : z = l ∧ 0 < l ∧ l < 16
  case neg =>
    refine fin 103 p (by decide) (by
      unfold bnF
      have t1 := @rdTellAt_1 103 p st (by decide)
      rw [tl_y c1, tl_y c2, tl_n c3, tl_told t1, tl_told t1]) (fun B1 k => n182 _ _ ?_)
    have y267 := vc_MD_readBench_267 (q := q) _ _ _ _ _ _ (n296 103 B1 (by decide) k)
    by_cases a1 : (l : Int) = 0
    · exact cY a1 y267
    · refine cNo a1 ?_
      by_cases a2 : (l : Int) = 16
      · exact cY a2 y267
      · have ez : ¬ z = l := fun v => c3 ⟨v, by omega, by omega⟩
        exact cNo a2 (cNo (by rw [eY, if_neg ez]; decide) y267)
  have eY0 : w32 Y = 0 := by rw [eY, if_pos c3.1]; decide
  by_cases c4 : n < 16 ∧ v3 ≤ 6000
  case neg =>
    refine fin 104 p (by decide) (by
      unfold bnF
      have t1 := @rdTellAt_1 104 p st (by decide)
      rw [tl_y c1, tl_y c2, tl_y c3, tl_n c4, tl_told t1]) (fun B1 k => n182 _ _ (cNo (by omega) (cNo (by omega) (cY eY0 ?_))))
    have y290 := vc_MD_readBench_290 (q := q) _ _ _ _ _ _ (n296 104 B1 (by decide) k)
    by_cases a : (n : Int) = 16
    · exact cY a y290
    · exact cNo a (cNo (fun a' => c4 ⟨by omega, a'⟩) y290)
  by_cases c5 : v3 ≤ x - p - 60
  case neg =>
    refine fin 1 x (by decide) (by
      unfold bnF
      rw [tl_y c1, tl_y c2, tl_y c3, tl_y c4, tl_n c5]) (fun B1 k => n182 _ _ (cNo (by omega) (cNo (by omega) (cY eY0 (cNo (by omega) (cY c4.2 (vc_MD_readBench_296 _ _ _ _ _ _ _ (cY (by decide) ?_))))))))
    rw [wv3, e2, w32_of (x := x - p - 60) (by omega), w64_of (x := x - p - 60) (by omega)]
    exact cNo c5 ⟨B1, k, rfl, rfl⟩
  have et : bnF x p t n l z v1 v2 v3 st = st := by
    unfold bnF
    rw [tl_y c1, tl_y c2, tl_y c3, tl_y c4, tl_y c5]
  rw [et]
  clear wv1 wv2 wv3 w58 w59
  obtain ⟨M, eM⟩ : ∃ M : Nat, (M : Int) = v3 := ⟨v3.toNat, by omega⟩
  have ex0 : EX (xNm n) B (wI B 426 n 0) := EX.wr (EX.refl _ B) (show xNm n 426 n from Or.inr ⟨rfl, rfl⟩)
  have hTw : TM (wI B 426 n 0) x t := fun k k0 k1 => ⟨(hTB k k0 k1).1, by rw [wI_no _ (by omega)]; exact (hTB k k0 k1).2⟩
  obtain ⟨B1, m1, m2, m3⟩ := md_nm (q := q) (g := fun k => t (p + k)) (c := 0) (n := z) c4.1 h0 (by omega) hx.2 (by omega) (fun k hk => by rw [Nat.zero_add]) z 0 _ (by omega) hTw (by rw [wI_no _ (by omega)]; exact e95) ⟨wI_at _ _ _ _, fun k hk => absurd hk (by omega)⟩
  rw [Nat.zero_add] at m2
  have exn := EX.trans ex0 m1
  have hSB : ShM B n E := ShM_x hSh ⟨hB.1, fun a k (y : ¬ ((a = 367 ∧ ((15 ≤ k ∧ k ≤ 17) ∨ k = 19 ∨ k = 20 ∨ k = 22)) ∨ a = 375)) => hB.2.2.2 a k (fun z => y (Or.inl z)) (fun z => y (Or.inr z))⟩ (fun a k y => by unfold xSi; omega)
  have hS1 : ShM B1 n E := ShM_nm hE hSB exn
  have hT1 : TM B1 x t := fun k k0 k1 => ⟨(hTB k k0 k1).1, by rw [exn.2 368 k (by unfold xNm; omega)]; exact (hTB k k0 k1).2⟩
  obtain ⟨B2, i1, i2, i3⟩ := md_ent (q := q) (mo := v2 % 512) (ti := v1) (tx := fun k => t (p + 60 + k)) (c := 368) (n1 := 6000) c4.1 hE hS1 m2 (by omega) rfl (by decide) (fr := p + 60) (m := M) (by omega) (by omega) (by omega) (by decide) (fun k k0 k1 => (hT1 (p + 60 + k) (by omega) (by omega)).2)
  rw [eM] at i2 i3
  have exB := EX.trans (xNm_i exn) i1
  obtain ⟨S2, j1, j2, j3⟩ := MB_X (X := xSi) (fun a k y => by unfold xSi at y; omega) hB exB
  have hS2 : ShM S2 (n + 1) (upE E n ((z : Nat), fun k => t (p + k), v2 % 512, v1, v3, fun k => t (p + 60 + k))) := by
    have hx9 : EX (fun a k => ¬ xSi a k) B2 S2 := ⟨(j1.1.trans hB.1.symm).trans exB.1.symm, fun a k y => j2 a k (Classical.not_not.mp y)⟩
    exact ShM_x i2 hx9 (fun a k y => y)
  have etm : Int.tmod (w32 v3) (w32 2) = v3 % 2 := by
    rw [w32_of (by omega), show w32 2 = 2 by decide, Int.tmod_eq_emod_of_nonneg (by omega)]
  have ep : p + (60 + v3 + v3 % 2) = bnP p v3 := by unfold bnP; omega
  refine ⟨S2, B2, j1, j3, fun _ => hS2, fun y => absurd c0 y, fun r T y1 y2 => p182 r T (n182 r T (cNo (by omega) (cNo (by omega) (cY eY0 (cNo (by omega) (cY c4.2 (vc_MD_readBench_296 _ _ _ _ _ _ _ (cY (by decide) ?_))))))))⟩
  have y3 := y1 c0
  rw [w64_of (x := v3) (by omega), e2, w32_of (x := x - p - 60) (by omega), w64_of (x := x - p - 60) (by omega), e95, wn (), etm, ep]
  refine cY c5 ⟨by omega, fun S3 e3 => ?_⟩
  subst e3
  rw [c3.1] at m3
  exact ⟨1, B1, vc_MD_newName _ _ m3, B2, i3, y3⟩
def BnR (q : Nat × (Nat → Int32)) (x : Int) (t : Int → Int) (sh n : Nat) (E : Nat → En) (P : Int) (st : Rd) : Prop := ∃ (n' : Nat) (E' : Nat → En) (st' : Rd), rdR x st' ∧ n' ≤ 16 ∧ (∀ e : Nat, e < n' → EnOk (E' e)) ∧ (∀ S A : ms, TC S x t → ShC S sh n E → CR S A 7 x st → ∃ S1 A1, EX (xSh sh) S S1 ∧ CR S1 A1 7 x st' ∧ ShC S1 sh n' E' ∧ EV q 199 65 [some (.ref sh), some (.ref 9), some (vI P), some (vI n)] [] A none A1) ∧ ∀ S B : ms, TM S x t → S.1 367 2 = x → ShM S n E → MR S B x st → ∃ S1 B1, EX xSi S S1 ∧ MR S1 B1 x st' ∧ ShM S1 n' E' ∧ EV q 398 58 [some (.ref 367), some (vI P), none, none, none, none, none, none, none, none, none, none] [] B none B1
theorem bench1 {sh n : Nat} {E : Nat → En} {P : Int} {st : Rd} (hs : isSh sh) (hx : 0 ≤ x ∧ x ≤ 6000) (ht : ∀ k : Int, 0 ≤ k → k < x → 0 ≤ t k ∧ t k < 256) (hn : n ≤ 16) (hP : 0 ≤ P ∧ P < 200000) (hE : ∀ e : Nat, e < n → EnOk (E e)) (hr : rdR x st) (c0 : st.1 = 0) (nx : n < 16 → ∀ (E1 : Nat → En) (P1 : Int), (0 ≤ P1 ∧ P1 < 200000) → (∀ e : Nat, e < n + 1 → EnOk (E1 e)) → BnR q x t sh (n + 1) E1 P1 st) : BnR q x t sh n E P st := by
  have hsl := isSh_is hs
  have hsr : sh = 193 ∨ sh = 268 := hs
  have ho : (300 < 7 ∨ 7 = 7) := Or.inr rfl
  have wP : w32 P = P := w32_of (by omega)
  have wx : w32 x = x := w32_of (by omega)
  have wx6 : w32 (x - 60) = x - 60 := w32_of (by omega)
  have wxP : w32 (x - P) = x - P := w32_of (by omega)
  have wn : Unit → w32 ((n : Nat) : Int) = n := fun _ => w32_of (by omega)
  have en1 : ((n + 1 : Nat) : Int) = (n : Int) + 1 := by omega
  have tc : ∀ (S A : ms) (st : Rd) (P n : Int), st.1 ≠ 0 → rdR x st → CR S A 7 x st → EV q 199 116 [some (.ref sh), some (.ref 9), some (vI P), some (vI n)] [] A none A := by
    intro S A st P n c hr hA
    refine vc_Shelf_readBench_116 _ _ sh hsl (vc_Shelf_readBench_65 _ _ sh hsl ⟨fun _ => ⟨rfl, rfl⟩, fun _ => ?_⟩)
    rw [hA.2.1.2.1, w32_of (x := st.1) (by have := hr.1; omega)]
    exact cY c ⟨rfl, rfl⟩
  have e95 : ∀ S A : ms, CR S A 7 x st → A.1 9 5 = 0 ∧ A.1 9 2 = x := fun S A hA => ⟨by rw [hA.2.1.2.1]; exact c0, hA.2.1.1 c0⟩
  have e2m : ∀ S B : ms, S.1 367 2 = x → MR S B x st → B.1 367 2 = x := fun S B h2 hB => by rw [hB.2.2.2 367 2 (by omega) (by omega)]; exact h2
  have mf : ∀ S B : ms, MR S B x st → EV q 333 0 [some (.ref 367)] [] B (some (vI 1)) B := fun S B hB => by
    have kf := md_fine (q := q) hr hB
    rw [if_pos c0] at kf
    exact kf
  by_cases cE : x ≤ P
  · refine ⟨n, E, st, hr, hn, hE, fun S A hT hSh hA => ?_, fun S B hT h2 hSh hB => ?_⟩
    · obtain ⟨f1, f2⟩ := e95 S A hA
      refine ⟨S, A, EX.refl _ S, hA, hSh, vc_Shelf_readBench_65 _ _ sh hsl ?_⟩
      rw [wn (), f1, f2, wP, wx]
      exact cNo (by omega) (cNN (by decide) (cY cE ⟨rfl, rfl⟩))
    · refine ⟨S, B, EX.refl _ S, hB, hSh, vc_MD_readBench_58 _ ⟨1, B, mf S B hB, cNo (by decide) ?_⟩⟩
      rw [e2m S B h2 hB, wP, wx]
      exact cY cE ⟨rfl, rfl⟩
  by_cases cP : P ≤ x - 60
  case neg =>
    have ct : (rdTellAt 1 x st).1 ≠ 0 := rdTellAt_1 (by decide)
    have hrt : rdR x (rdTellAt 1 x st) := rdR_tellAt hr (by decide)
    refine ⟨n, E, rdTellAt 1 x st, hrt, hn, hE, fun S A hT hSh hA => ?_, fun S B hT h2 hSh hB => ?_⟩
    · obtain ⟨f1, f2⟩ := e95 S A hA
      obtain ⟨A1, k1, k2⟩ := sb_tellAt (q := q) (k := 1) (p := x) hr ho hA
      refine ⟨S, A1, EX.refl _ S, k2, hSh, vc_Shelf_readBench_65 _ _ sh hsl ?_⟩
      rw [wn (), f1, f2, wP, wx, wx6]
      exact cNo (by omega) (cNN (by decide) (cNo cE (cNo cP ⟨A1, k1, tc S A1 _ _ _ ct hrt k2⟩)))
    · obtain ⟨B1, k1, k2⟩ := mb_tellAt (q := q) (k := 1) (p := x) hr hB
      refine ⟨S, B1, EX.refl _ S, k2, hSh, vc_MD_readBench_58 _ ⟨1, B, mf S B hB, cNo (by decide) ?_⟩⟩
      rw [e2m S B h2 hB, wP, wx, wxP]
      exact cNo cE (cNo (by omega) ⟨B1, k1, rfl, rfl⟩)
  have h1 : P + 60 ≤ x := by omega
  obtain ⟨v1, b1, g1, l1⟩ := jfig (q := q) (x := x) (t := t) (p := P + 16) (n := 12) (b := 10) (by omega) (by omega) hx.2 (by omega) (Or.inr rfl)
  obtain ⟨v2, b2, g2, l2⟩ := jfig (q := q) (x := x) (t := t) (p := P + 40) (n := 8) (b := 8) (by omega) (by omega) hx.2 (by omega) (Or.inl rfl)
  obtain ⟨v3, b3, g3, l3⟩ := jfig (q := q) (x := x) (t := t) (p := P + 48) (n := 10) (b := 10) (by omega) (by omega) hx.2 (by omega) (Or.inr rfl)
  obtain ⟨l, hl, kl⟩ := md_st (q := q) (x := x) (t := t) (p := P) hP.1 h1 hx.2
  obtain ⟨z, hz, kz⟩ := md_up (q := q) (x := x) (t := t) (p := P) (n := l) hP.1 (by have := hl.1; omega) hx.2
  obtain ⟨s7, e7⟩ : ∃ s : Rd, s = bnF x P t n l z v1 v2 v3 st := ⟨_, rfl⟩
  have r7 : rdR x s7 := by rw [e7]; exact bnF_r hr
  have hC : ∀ S A : ms, TC S x t → ShC S sh n E → CR S A 7 x st → ∃ (S1 A1 : ms) (zr : Int), EX (xSh sh) S S1 ∧ CR S1 A1 7 x s7 ∧ (s7.1 = 0 → ShC S1 sh (n + 1) (upE E n ((z : Nat), fun k => t (P + k), v2 % 512, v1, v3, fun k => t (P + 60 + k))) ∧ zr = bnP P v3) ∧ (s7.1 ≠ 0 → ShC S1 sh n E) ∧ ∀ T : ms, EV q 199 116 [some (.ref sh), some (.ref 9), some (vI zr), some (vI n)] [] A1 none T → EV q 199 65 [some (.ref sh), some (.ref 9), some (vI P), some (vI n)] [] A none T := by
    intro S A hT hSh hA
    obtain ⟨f1, f2⟩ := e95 S A hA
    obtain ⟨S1, A1, zr, k1, k2, k3, k4, k5⟩ := sp_bnRow (q := q) hs hx hP.1 h1 hn hE b1 b2 b3 g1 g2 g3 hl hz hr hT hSh hA
    rw [← e7] at k2 k3 k4
    refine ⟨S1, A1, zr, k1, k2, k3, k4, fun T y => vc_Shelf_readBench_65 _ _ sh hsl ?_⟩
    rw [wn (), f1, f2, wP, wx, wx6]
    exact cNo (by omega) (cNN (by decide) (cNo cE (cY cP ⟨zr, A1, k5, y⟩)))
  have hM : ∀ S B : ms, TM S x t → S.1 367 2 = x → ShM S n E → MR S B x st → ∃ S1 B1, EX xSi S S1 ∧ MR S1 B1 x s7 ∧ (s7.1 = 0 → ShM S1 (n + 1) (upE E n ((z : Nat), fun k => t (P + k), v2 % 512, v1, v3, fun k => t (P + 60 + k)))) ∧ (s7.1 ≠ 0 → ShM S1 n E) ∧ ∀ (r : Option Value) (T : ms), (s7.1 = 0 → EV q 398 58 [some (.ref 367), some (vI (bnP P v3)), none, none, none, none, none, none, none, none, none, none] [] B1 r T) → (s7.1 ≠ 0 → r = none ∧ T = B1) → EV q 398 58 [some (.ref 367), some (vI P), none, none, none, none, none, none, none, none, none, none] [] B r T := by
    intro S B hT h2 hSh hB
    obtain ⟨S1, B1, k1, k2, k3, k4, k5⟩ := md_bnRow (q := q) hx hP.1 h1 hn hE b1 b2 b3 hl hz kz hr c0 hT h2 hSh hB
    rw [← e7] at k2 k3 k4 k5
    have hTB : TM B x t := fun k k0 k1 => ⟨(hT k k0 k1).1, by rw [hB.2.2.2 368 k (by omega) (by omega)]; exact (hT k k0 k1).2⟩
    refine ⟨S1, B1, k1, k2, k3, k4, fun r T y1 y2 => vc_MD_readBench_58 _ ⟨1, B, mf S B hB, cNo (by decide) ?_⟩⟩
    rw [e2m S B h2 hB, wP, wx, wxP]
    exact cNo cE (cY (by omega) ⟨v1, B, l1 B hTB, v2, B, l2 B hTB, v3, B, l3 B hTB, kl B hTB _ _ _ r T (k5 r T y1 y2)⟩)
  by_cases zz : s7.1 = 0
  case neg =>
    refine ⟨n, E, s7, r7, hn, hE, fun S A hT hSh hA => ?_, fun S B hT h2 hSh hB => ?_⟩
    · obtain ⟨S1, A1, zr, k1, k2, k3, k4, k5⟩ := hC S A hT hSh hA
      exact ⟨S1, A1, k1, k2, k4 zz, k5 A1 (tc S1 A1 s7 _ _ zz r7 k2)⟩
    · obtain ⟨S1, B1, k1, k2, k3, k4, k5⟩ := hM S B hT h2 hSh hB
      exact ⟨S1, B1, k1, k2, k4 zz, k5 none B1 (fun y => absurd y zz) (fun _ => ⟨rfl, rfl⟩)⟩
  have z' := zz
  rw [e7] at z'
  obtain ⟨f1, f2, f3, f4, f5⟩ := bnF_0 z'
  have es : s7 = st := by
    rw [e7]
    unfold bnF
    rw [tl_y f1, tl_y f2, tl_y f3, tl_y f4, tl_y f5]
  have hok : EnOk ((z : Nat), fun k => t (P + k), v2 % 512, v1, v3, fun k => t (P + 60 + k)) := by
    refine ⟨⟨⟨?_, ?_⟩, fun k k0 k1 => ?_⟩, ⟨f2.2.2.1, f4.2⟩, fun k k0 k1 => ht (P + 60 + k) (by omega) (by have : k < v3 := k1; omega), ⟨by show 0 ≤ v2 % 512; omega, by show v2 % 512 ≤ 511; omega⟩, by show 0 ≤ v1; omega, by show v1 ≤ 2147483647; omega⟩
    · show 1 ≤ ((z : Nat) : Int)
      omega
    · show ((z : Nat) : Int) ≤ 100
      omega
    · have k1' : k < (z : Int) := k1
      have a := hz.2.1 k.toNat (by omega)
      rw [show ((k.toNat : Nat) : Int) = k by omega] at a
      have b' := ht (P + k) (by omega) (by omega)
      show 1 ≤ t (P + k) ∧ t (P + k) < 256
      omega
  obtain ⟨n', E', st', i1, i2, i3, i4, i5⟩ := nx f4.1 _ (bnP P v3) (by unfold bnP; omega) (upE_ok hE hok)
  refine ⟨n', E', st', i1, i2, i3, fun S A hT hSh hA => ?_, fun S B hT h2 hSh hB => ?_⟩
  · obtain ⟨S1, A1, zr, k1, k2, k3, k4, k5⟩ := hC S A hT hSh hA
    obtain ⟨k6, k7⟩ := k3 zz
    rw [es] at k2
    have hT1 : TC S1 x t := fun k k0 k1' => ⟨(hT k k0 k1').1, by rw [k1.2 2 k (by unfold xSh; omega)]; exact (hT k k0 k1').2⟩
    obtain ⟨S2, A2, j1, j2, j3, j4⟩ := i4 S1 A1 hT1 k6 k2
    rw [en1] at j4
    subst k7
    exact ⟨S2, A2, EX.trans k1 j1, j2, j3, k5 A2 (vc_Shelf_readBench_116 _ _ sh hsl j4)⟩
  · obtain ⟨S1, B1, k1, k2, k3, k4, k5⟩ := hM S B hT h2 hSh hB
    rw [es] at k2
    have hT1 : TM S1 x t := fun k k0 k1' => ⟨(hT k k0 k1').1, by rw [k1.2 368 k (by unfold xSi; omega)]; exact (hT k k0 k1').2⟩
    obtain ⟨S2, B2, j1, j2, j3, j4⟩ := i5 S1 B1 hT1 (by rw [k1.2 367 2 (by unfold xSi; omega)]; exact h2) (k3 zz) k2
    exact ⟨S2, B2, EX.trans k1 j1, j2, j3, k5 none B2 (fun _ => j4) (fun y => absurd zz y)⟩
theorem jbench {sh : Nat} (hs : isSh sh) (hx : 0 ≤ x ∧ x ≤ 6000) (ht : ∀ k : Int, 0 ≤ k → k < x → 0 ≤ t k ∧ t k < 256) : ∀ (d n : Nat) (E : Nat → En) (P : Int) (st : Rd), n + d = 16 → (0 ≤ P ∧ P < 200000) → (∀ e : Nat, e < n → EnOk (E e)) → rdR x st → st.1 = 0 → BnR q x t sh n E P st := by
  intro d
  induction d with
  | zero =>
    intro n E P st hn hP hE hr c0
    exact bench1 hs hx ht (by omega) hP hE hr c0 (fun y => absurd y (by omega))
  | succ d ih =>
    intro n E P st hn hP hE hr c0
    exact bench1 hs hx ht (by omega) hP hE hr c0 (fun _ E1 P1 h1 h2 => ih (n + 1) E1 P1 st (by omega) h1 h2 hr c0)
end ReaB
