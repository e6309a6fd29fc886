/-! spoil; SHELVES: nameAt, told (but for UNSAFE) on both sides -/
section ShelfOps
variable {q : Nat × (Nat → Int32)} {S : ms} {a b d : Int}
theorem bX_rg {x y : Int} (hx : 0 ≤ x ∧ x < 256) (hy : 0 ≤ y ∧ y < 256) : 0 ≤ bX x y ∧ bX x y < 256 := by
  unfold bX
  have := Nat.xor_lt_two_pow (n := 8) (x := (x % 4294967296).toNat) (y := (y % 4294967296).toNat) (by show _ < 256; omega) (by show _ < 256; omega)
  omega
/-- spoil(part, i, mask) -/
theorem op29_ok (ha : -2147483648 ≤ a ∧ a < 2147483648) (hb : -2147483648 ≤ b ∧ b < 2147483648) (hd : -2147483648 ≤ d ∧ d < 2147483648) (h : RP S) : op_29 q a b d S (fun T => T = wI S 367 0 0 ∨ (Hs S a b ∧ S.1 175 a = 0 ∧ 0 ≤ d ∧ d < 256 ∧ T = wI (wI (wI S 174 (a * S.1 173 3 + b) (bX (S.1 174 (a * S.1 173 3 + b)) d)) 367 0 0) 439 (a * S.1 173 3 + b) (b8 (b8 (bX (S.1 174 (a * S.1 173 3 + b)) d))))) := by
  have ea : w32 a = a := w32_of ha
  have eb : w32 b = b := w32_of hb
  have ed : w32 d = d := w32_of hd
  have hR := h
  obtain ⟨⟨g1, g2, g3, -⟩, ⟨h1, h2, h3, h4, h5⟩, h6, h7⟩ := h
  have ez : w32 (S.1 173 3) = S.1 173 3 := w32_of (by omega)
  by_cases hh : Hs S a b
  · obtain ⟨c1, c2, c3, c4⟩ := hh
    obtain ⟨l1, l2, -⟩ := h6 a c1 c2
    have ix := pa_ix c1 c2 c3 c4
    obtain ⟨o1, o2⟩ := h7 (a * S.1 173 3 + b) ix.1 ix.2
    have ei : w32 (a * S.1 173 3 + b) = a * S.1 173 3 + b := w32_of (by omega)
    by_cases cd : 0 ≤ d ∧ d ≤ 255
    · by_cases cl : S.1 175 a = 0
      · let U := wI (wI S 174 (a * S.1 173 3 + b) (bX (S.1 174 (a * S.1 173 3 + b)) d)) 367 0 0
        have ou : ∀ (c : Nat) (k : Int), c ≠ 174 → (c ≠ 367 ∨ k ≠ 0) → U.1 c k = S.1 c k := by
          intro c k c1 c2
          show (wI (wI S 174 _ _) 367 0 0).1 c k = _
          rw [rI_I, if_neg (by omega), rI_I, if_neg (by omega)]
        have np := md_np (q := q) (T := U) ea hR (ou 367 112 (by decide) (Or.inr (by decide))) (ou 367 113 (by decide) (Or.inr (by decide)))
        have e114 : U.1 367 114 = S.1 173 3 := by rw [ou 367 114 (by decide) (Or.inr (by decide)), g3]
        have e441 : U.1 441 (w32 a) = 0 := by rw [ea, ou 441 a (by decide) (Or.inl (by decide)), l2, cl]
        have e439 : U.1 439 (a * S.1 173 3 + b) % 256 = S.1 174 (a * S.1 173 3 + b) := by rw [ou 439 _ (by decide) (Or.inl (by decide)), oct_eq o1 o2]
        refine ⟨S.1 174 (a * S.1 173 3 + b), wI S 174 (a * S.1 173 3 + b) (bX (S.1 174 (a * S.1 173 3 + b)) d), S.1 174 (a * S.1 173 3 + b), _, vc_PH_spoil a b d ⟨1, S, pa_has1 ea eb hR ⟨c1, c2, c3, c4⟩, fun _ => ?_, fun n => absurd (by decide) n⟩, vc_MD_spoil a b d (fun S1 f => ?_), rfl, Or.inr ⟨⟨c1, c2, c3, c4⟩, cl, by omega, by omega, rfl⟩⟩
        · rw [ed, ea, ei, cl]
          exact ⟨fun n => absurd n (by omega), fun _ => ⟨fun _ => ⟨by omega, fun _ => ⟨by omega, by omega, fun S7 f => ⟨rfl, f.symm⟩⟩, fun n => absurd rfl n⟩, fun n => absurd (by omega) n⟩⟩
        · have f' : S1 = U := f
          subst f'
          refine ⟨0, _, np.1 ⟨c1, c2⟩, fun n => absurd rfl n, fun _ => ?_⟩
          rw [eb, e114, ez]
          refine ⟨fun n => absurd n (by omega), fun _ => ⟨fun _ => ⟨1, U, md_in1 (by rw [ed]; exact cd.1) (by rw [ed]; exact cd.2), fun _ => ⟨by omega, fun _ => ⟨_, U, vc_MD_partAt a ⟨rfl, rfl⟩, ?_⟩, fun n => absurd (by rw [e441]; rfl) n⟩, fun n => absurd (by decide) n⟩, fun n => absurd c4 n⟩⟩
          rw [e114, Int.mul_comm (S.1 173 3) a, ei]
          refine ⟨by omega, _, U, vc_MD_partAt a ⟨rfl, rfl⟩, ?_⟩
          rw [e114, Int.mul_comm (S.1 173 3) a, ei, e439]
          exact ⟨by omega, fun S17 f => ⟨rfl, f.symm⟩⟩
      · have cl1 : S.1 175 a = 1 := by
          rcases l1 with z | z
          · exact absurd z cl
          · exact z
        have np := md_np (q := q) (T := wI S 367 0 0) ea hR (r0 112 (by decide)) (r0 113 (by decide))
        have e114 : (wI S 367 0 0).1 367 114 = S.1 173 3 := by rw [r0 114 (by decide), g3]
        have e441 : (wI S 367 0 0).1 441 (w32 a) = 1 := by rw [ea, r0a 441 a (by decide), l2, cl1]
        refine ⟨-3, S, -3, wI S 367 0 0, vc_PH_spoil a b d ⟨1, S, pa_has1 ea eb hR ⟨c1, c2, c3, c4⟩, fun _ => ?_, fun n => absurd (by decide) n⟩, vc_MD_spoil a b d (fun S1 f => ?_), rfl, Or.inl rfl⟩
        · rw [ed, ea, cl1]
          exact ⟨fun n => absurd n (by omega), fun _ => ⟨fun _ => ⟨by omega, fun n => absurd n (by decide), fun _ => ⟨rfl, rfl⟩⟩, fun n => absurd (by omega) n⟩⟩
        · subst f
          refine ⟨0, _, np.1 ⟨c1, c2⟩, fun n => absurd rfl n, fun _ => ?_⟩
          rw [eb, e114, ez]
          exact ⟨fun n => absurd n (by omega), fun _ => ⟨fun _ => ⟨1, _, md_in1 (by rw [ed]; exact cd.1) (by rw [ed]; exact cd.2), fun _ => ⟨by omega, fun n => absurd (by rw [e441] at n; exact n) (by decide), fun _ => ⟨rfl, rfl⟩⟩, fun n => absurd (by decide) n⟩, fun n => absurd c4 n⟩⟩
    · have np := md_np (q := q) (T := wI S 367 0 0) ea hR (r0 112 (by decide)) (r0 113 (by decide))
      have e114 : (wI S 367 0 0).1 367 114 = S.1 173 3 := by rw [r0 114 (by decide), g3]
      refine ⟨-2, S, -2, wI S 367 0 0, vc_PH_spoil a b d ⟨1, S, pa_has1 ea eb hR ⟨c1, c2, c3, c4⟩, fun _ => ?_, fun n => absurd (by decide) n⟩, vc_MD_spoil a b d (fun S1 f => ?_), rfl, Or.inl rfl⟩
      · rw [ed]
        exact ⟨fun _ => ⟨rfl, rfl⟩, fun n1 => ⟨fun n2 => absurd ⟨by omega, n2⟩ cd, fun _ => ⟨rfl, rfl⟩⟩⟩
      · subst f
        refine ⟨0, _, np.1 ⟨c1, c2⟩, fun n => absurd rfl n, fun _ => ?_⟩
        rw [eb, e114, ez]
        exact ⟨fun n => absurd n (by omega), fun _ => ⟨fun _ => ⟨0, _, md_in0 (by rw [ed]; show d < 0 ∨ 255 < d; omega), fun n => absurd rfl n, fun _ => ⟨rfl, rfl⟩⟩, fun n => absurd c4 n⟩⟩
  · have np := md_np (q := q) (T := wI S 367 0 0) ea hR (r0 112 (by decide)) (r0 113 (by decide))
    have e114 : (wI S 367 0 0).1 367 114 = S.1 173 3 := by rw [r0 114 (by decide), g3]
    refine ⟨-1, S, -1, wI S 367 0 0, vc_PH_spoil a b d ⟨0, S, pa_has0 ea eb hR hh, fun n => absurd rfl n, fun _ => ⟨rfl, rfl⟩⟩, vc_MD_spoil a b d (fun S1 f => ?_), rfl, Or.inl rfl⟩
    subst f
    by_cases cp : 0 ≤ a ∧ a < S.1 173 6 + S.1 173 2
    · refine ⟨0, _, np.1 cp, fun n => absurd rfl n, fun _ => ?_⟩
      rw [eb, e114, ez]
      exact ⟨fun _ => ⟨rfl, rfl⟩, fun n1 => ⟨fun n2 => absurd ⟨cp.1, cp.2, by omega, n2⟩ hh, fun _ => ⟨rfl, rfl⟩⟩⟩
    · exact ⟨1, _, np.2 cp, fun _ => ⟨rfl, rfl⟩, fun n => absurd (by decide) n⟩
theorem sh_nm193 : ∀ n : Nat, n < 16 → sh_r (SH (193 + 1)).2.2 n = some (193 + 11 + 4 * n) ∧ isRow (193 + 11 + 4 * n) 100 ∧ sh_r (SH (193 + 2)).2.2 n = some (193 + 13 + 4 * n) ∧ isRow (193 + 13 + 4 * n) 6000
  | 0, _ => ⟨rfl, ⟨rfl, rfl⟩, rfl, ⟨rfl, rfl⟩⟩
  | 1, _ => ⟨rfl, ⟨rfl, rfl⟩, rfl, ⟨rfl, rfl⟩⟩
  | 2, _ => ⟨rfl, ⟨rfl, rfl⟩, rfl, ⟨rfl, rfl⟩⟩
  | 3, _ => ⟨rfl, ⟨rfl, rfl⟩, rfl, ⟨rfl, rfl⟩⟩
  | 4, _ => ⟨rfl, ⟨rfl, rfl⟩, rfl, ⟨rfl, rfl⟩⟩
  | 5, _ => ⟨rfl, ⟨rfl, rfl⟩, rfl, ⟨rfl, rfl⟩⟩
  | 6, _ => ⟨rfl, ⟨rfl, rfl⟩, rfl, ⟨rfl, rfl⟩⟩
  | 7, _ => ⟨rfl, ⟨rfl, rfl⟩, rfl, ⟨rfl, rfl⟩⟩
  | 8, _ => ⟨rfl, ⟨rfl, rfl⟩, rfl, ⟨rfl, rfl⟩⟩
  | 9, _ => ⟨rfl, ⟨rfl, rfl⟩, rfl, ⟨rfl, rfl⟩⟩
  | 10, _ => ⟨rfl, ⟨rfl, rfl⟩, rfl, ⟨rfl, rfl⟩⟩
  | 11, _ => ⟨rfl, ⟨rfl, rfl⟩, rfl, ⟨rfl, rfl⟩⟩
  | 12, _ => ⟨rfl, ⟨rfl, rfl⟩, rfl, ⟨rfl, rfl⟩⟩
  | 13, _ => ⟨rfl, ⟨rfl, rfl⟩, rfl, ⟨rfl, rfl⟩⟩
  | 14, _ => ⟨rfl, ⟨rfl, rfl⟩, rfl, ⟨rfl, rfl⟩⟩
  | 15, _ => ⟨rfl, ⟨rfl, rfl⟩, rfl, ⟨rfl, rfl⟩⟩
  | n + 16, h => absurd h (by omega)
theorem sh_nm268 : ∀ n : Nat, n < 16 → sh_r (SH (268 + 1)).2.2 n = some (268 + 11 + 4 * n) ∧ isRow (268 + 11 + 4 * n) 100 ∧ sh_r (SH (268 + 2)).2.2 n = some (268 + 13 + 4 * n) ∧ isRow (268 + 13 + 4 * n) 6000
  | 0, _ => ⟨rfl, ⟨rfl, rfl⟩, rfl, ⟨rfl, rfl⟩⟩
  | 1, _ => ⟨rfl, ⟨rfl, rfl⟩, rfl, ⟨rfl, rfl⟩⟩
  | 2, _ => ⟨rfl, ⟨rfl, rfl⟩, rfl, ⟨rfl, rfl⟩⟩
  | 3, _ => ⟨rfl, ⟨rfl, rfl⟩, rfl, ⟨rfl, rfl⟩⟩
  | 4, _ => ⟨rfl, ⟨rfl, rfl⟩, rfl, ⟨rfl, rfl⟩⟩
  | 5, _ => ⟨rfl, ⟨rfl, rfl⟩, rfl, ⟨rfl, rfl⟩⟩
  | 6, _ => ⟨rfl, ⟨rfl, rfl⟩, rfl, ⟨rfl, rfl⟩⟩
  | 7, _ => ⟨rfl, ⟨rfl, rfl⟩, rfl, ⟨rfl, rfl⟩⟩
  | 8, _ => ⟨rfl, ⟨rfl, rfl⟩, rfl, ⟨rfl, rfl⟩⟩
  | 9, _ => ⟨rfl, ⟨rfl, rfl⟩, rfl, ⟨rfl, rfl⟩⟩
  | 10, _ => ⟨rfl, ⟨rfl, rfl⟩, rfl, ⟨rfl, rfl⟩⟩
  | 11, _ => ⟨rfl, ⟨rfl, rfl⟩, rfl, ⟨rfl, rfl⟩⟩
  | 12, _ => ⟨rfl, ⟨rfl, rfl⟩, rfl, ⟨rfl, rfl⟩⟩
  | 13, _ => ⟨rfl, ⟨rfl, rfl⟩, rfl, ⟨rfl, rfl⟩⟩
  | 14, _ => ⟨rfl, ⟨rfl, rfl⟩, rfl, ⟨rfl, rfl⟩⟩
  | 15, _ => ⟨rfl, ⟨rfl, rfl⟩, rfl, ⟨rfl, rfl⟩⟩
  | n + 16, h => absurd h (by omega)
/-- the shelf that stands -/
def isSh (sh : Nat) : Prop := sh = 193 ∨ sh = 268
theorem isSh_is {sh : Nat} (h : isSh sh) : isShelf sh := by
  rcases h with e | e <;> subst e
  · exact is_193
  · exact is_268
theorem sh_nm {sh n : Nat} (h : isSh sh) (hn : n < 16) : sh_r (SH (sh + 1)).2.2 n = some (sh + 11 + 4 * n) ∧ isRow (sh + 11 + 4 * n) 100 ∧ sh_r (SH (sh + 2)).2.2 n = some (sh + 13 + 4 * n) ∧ isRow (sh + 13 + 4 * n) 6000 := by
  rcases h with e | e <;> subst e
  · exact sh_nm193 n hn
  · exact sh_nm268 n hn
/-- ENTRIES: as many, with the same NAMES, modes, times, texts -/
def RE (S : ms) (sh : Nat) : Prop := S.2.2 0 13 = sh ∧ isSh sh ∧ (0 ≤ S.1 sh 4 ∧ S.1 sh 4 ≤ 16) ∧ S.1 367 88 = S.1 sh 4 ∧ ∀ e : Nat, (e : Int) < S.1 sh 4 → ((1 ≤ S.1 (sh + 11 + 4 * e) 1 ∧ S.1 (sh + 11 + 4 * e) 1 ≤ 100) ∧ S.1 420 e = S.1 (sh + 11 + 4 * e) 1 ∧ ∀ k : Int, 0 ≤ k → k < S.1 (sh + 11 + 4 * e) 1 → (1 ≤ S.1 (sh + 11 + 4 * e + 1) k ∧ S.1 (sh + 11 + 4 * e + 1) k < 256) ∧ S.1 419 (100 * e + k) = b8 (S.1 (sh + 11 + 4 * e + 1) k)) ∧ (S.1 421 e = S.1 (sh + 3) e ∧ S.1 422 e = S.1 (sh + 4) e) ∧ ((0 ≤ S.1 (sh + 13 + 4 * e) 1 ∧ S.1 (sh + 13 + 4 * e) 1 ≤ 6000) ∧ S.1 424 e = S.1 (sh + 13 + 4 * e) 1 ∧ ∀ k : Int, 0 ≤ k → k < S.1 (sh + 13 + 4 * e) 1 → (0 ≤ S.1 (sh + 13 + 4 * e + 1) k ∧ S.1 (sh + 13 + 4 * e + 1) k < 256) ∧ S.1 423 (6000 * e + k) = b8 (S.1 (sh + 13 + 4 * e + 1) k))
theorem md_ne {T : ms} {n : Int} (ea : w32 a = a) (hn : T.1 367 88 = n) (h0 : 0 ≤ n ∧ n ≤ 16) : (0 ≤ a ∧ a < n → EV q 375 0 [some (.ref 367), some (vI a)] [] T (some (vI 0)) T) ∧ (¬ (0 ≤ a ∧ a < n) → EV q 375 0 [some (.ref 367), some (vI a)] [] T (some (vI 1)) T) := by
  have es : w32 (T.1 367 88) = n := by rw [hn, w32_of (by omega)]
  constructor
  · intro c
    refine vc_MD_noEntry a ?_
    rw [ea, es]
    exact ⟨fun n => absurd n (by omega), fun _ => ⟨fun _ => ⟨rfl, rfl⟩, fun n => absurd c.2 n⟩⟩
  · intro c
    refine vc_MD_noEntry a ?_
    rw [ea, es]
    exact ⟨fun _ => vc_MD_noEntry_12 a ⟨rfl, rfl⟩, fun n1 => ⟨fun n2 => absurd ⟨by omega, n2⟩ c, fun _ => vc_MD_noEntry_12 a ⟨rfl, rfl⟩⟩⟩
/-- nameAt(entry, k) -/
theorem op21_ok {sh : Nat} (ha : -2147483648 ≤ a ∧ a < 2147483648) (hb : -2147483648 ≤ b ∧ b < 2147483648) (h : RE S sh) : op_21 q a b d S (fun T => T = wI S 367 0 0) := by
  have ea : w32 a = a := w32_of ha
  have eb : w32 b = b := w32_of hb
  obtain ⟨h1, h2, h3, h4, h5⟩ := h
  have hs := isSh_is h2
  have ec : w32 (S.1 sh 4) = S.1 sh 4 := w32_of (by omega)
  have ne := md_ne (q := q) (T := wI S 367 0 0) (n := S.1 sh 4) ea (by rw [r0 88 (by decide), h4]) h3
  by_cases c : 0 ≤ a ∧ a < S.1 sh 4
  · have en : ((a.toNat : Nat) : Int) = a := by omega
    obtain ⟨⟨n1, n2, n3⟩, -, -⟩ := h5 a.toNat (by omega)
    rw [en] at n2 n3
    obtain ⟨r1, r2, -, -⟩ := sh_nm h2 (n := a.toNat) (by omega)
    have r1' : sh_r (SH (sh + 1)).2.2 (w32 a).toNat = some (sh + 11 + 4 * a.toNat) := by rw [ea]; exact r1
    have ew : w32 (S.1 (sh + 11 + 4 * a.toNat) 1) = S.1 (sh + 11 + 4 * a.toNat) 1 := w32_of (by omega)
    have e420 : (wI S 367 0 0).1 420 (w32 a) = S.1 (sh + 11 + 4 * a.toNat) 1 := by rw [ea, r0a 420 a (by decide), n2]
    by_cases cb : b < 0
    · refine ⟨-1, S, -1, wI S 367 0 0, vc_PH_nameAt a b ?_, vc_MD_nameAt a b (fun S1 f => ?_), rfl, rfl⟩
      · rw [ea, eb]
        refine ⟨fun n => absurd n (by omega), fun _ => ⟨sh, h1, hs, ?_⟩⟩
        rw [ec]
        exact ⟨fun n => absurd n (by omega), fun _ => ⟨fun _ => ⟨rfl, rfl⟩, fun n => absurd cb n⟩⟩
      · subst f
        refine ⟨0, _, ne.1 c, fun n => absurd rfl n, fun _ => ?_⟩
        rw [eb]
        exact ⟨fun _ => vc_MD_nameAt_27 a b ⟨rfl, rfl⟩, fun n => absurd cb n⟩
    · by_cases c2 : b < S.1 (sh + 11 + 4 * a.toNat) 1
      · obtain ⟨o1, o2⟩ := n3 b (by omega) c2
        have ei : w32 (100 * a + b) = 100 * a + b := w32_of (by omega)
        refine ⟨S.1 (sh + 11 + 4 * a.toNat + 1) b, S, S.1 419 (100 * a + b) % 256, wI S 367 0 0, vc_PH_nameAt a b ?_, vc_MD_nameAt a b (fun S1 f => ?_), by rw [oct_eq (by omega) o2], rfl⟩
        · rw [ea, eb]
          refine ⟨fun n => absurd n (by omega), fun _ => ⟨sh, h1, hs, ?_⟩⟩
          rw [ec]
          refine ⟨fun n => absurd n (by omega), fun _ => ⟨fun n => absurd n cb, fun _ => ⟨sh, h1, hs, by omega, _, 100, r1, r2, ?_⟩⟩⟩
          rw [ew]
          exact ⟨fun _ => ⟨sh, h1, hs, by omega, _, 100, r1, r2, by omega, rfl, rfl⟩, fun n => absurd c2 n⟩
        · subst f
          refine ⟨0, _, ne.1 c, fun n => absurd rfl n, fun _ => ?_⟩
          rw [eb, e420, ew, ei]
          exact ⟨fun n => absurd n cb, fun _ => ⟨by omega, fun _ => ⟨by omega, by rw [r0a 419 _ (by decide)], rfl⟩, fun n => absurd c2 n⟩⟩
      · refine ⟨-1, S, -1, wI S 367 0 0, vc_PH_nameAt a b ?_, vc_MD_nameAt a b (fun S1 f => ?_), rfl, rfl⟩
        · rw [ea, eb]
          refine ⟨fun n => absurd n (by omega), fun _ => ⟨sh, h1, hs, ?_⟩⟩
          rw [ec]
          refine ⟨fun n => absurd n (by omega), fun _ => ⟨fun n => absurd n cb, fun _ => ⟨sh, h1, hs, by omega, _, 100, r1, r2, ?_⟩⟩⟩
          rw [ew]
          exact ⟨fun n => absurd n c2, fun _ => ⟨rfl, rfl⟩⟩
        · subst f
          refine ⟨0, _, ne.1 c, fun n => absurd rfl n, fun _ => ?_⟩
          rw [eb, e420, ew]
          exact ⟨fun n => absurd n cb, fun _ => ⟨by omega, fun n => absurd n c2, fun _ => vc_MD_nameAt_27 a b ⟨rfl, rfl⟩⟩⟩
  · refine ⟨-1, S, -1, wI S 367 0 0, vc_PH_nameAt a b ?_, vc_MD_nameAt a b (fun S1 f => ?_), rfl, rfl⟩
    · rw [ea]
      refine ⟨fun _ => ⟨rfl, rfl⟩, fun n1 => ⟨sh, h1, hs, ?_⟩⟩
      rw [ec]
      exact ⟨fun _ => ⟨rfl, rfl⟩, fun n2 => absurd ⟨by omega, by omega⟩ c⟩
    · subst f
      exact ⟨1, _, ne.2 c, fun _ => vc_MD_nameAt_27 a b ⟨rfl, rfl⟩, fun n => absurd (by decide) n⟩
end ShelfOps
