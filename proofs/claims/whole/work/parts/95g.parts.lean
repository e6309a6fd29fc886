/-! PARTS on both sides: part, lose, spoil -/
section PartOps
variable {q : Nat × (Nat → Int32)} {S : ms} {a b d : Int}
/-- a SET: as many parts of the same size, the same octets, the same marks and sums -/
def RP (S : ms) : Prop := (S.1 367 112 = S.1 173 6 ∧ S.1 367 113 = S.1 173 2 ∧ S.1 367 114 = S.1 173 3 ∧ S.1 367 115 = S.1 173 4) ∧ ((0 ≤ S.1 173 6 ∧ S.1 173 6 ≤ 32) ∧ (0 ≤ S.1 173 2 ∧ S.1 173 2 ≤ 16) ∧ (0 ≤ S.1 173 3 ∧ S.1 173 3 ≤ 6000) ∧ (S.1 173 6 + S.1 173 2 = 0 ∨ 1 ≤ S.1 173 3) ∧ (S.1 173 6 + S.1 173 2) * S.1 173 3 ≤ 102000) ∧ (∀ p : Int, 0 ≤ p → p < S.1 173 6 + S.1 173 2 → (S.1 175 p = 0 ∨ S.1 175 p = 1) ∧ S.1 441 p = S.1 175 p ∧ w32 (S.1 440 p) = w32 (S.1 177 p)) ∧ ∀ k : Int, 0 ≤ k → k < (S.1 173 6 + S.1 173 2) * S.1 173 3 → (0 ≤ S.1 174 k ∧ S.1 174 k < 256) ∧ S.1 439 k = b8 (S.1 174 k)
/-- there is such a part, and octet -/
def Hs (S : ms) (p i : Int) : Prop := 0 ≤ p ∧ p < S.1 173 6 + S.1 173 2 ∧ 0 ≤ i ∧ i < S.1 173 3
theorem pa_has1 (ea : w32 a = a) (eb : w32 b = b) (h : RP S) (hh : Hs S a b) : EV q 230 0 [some (.ref 173), some (vI a), some (vI b)] [] S (some (vI 1)) S := by
  obtain ⟨-, ⟨h1, h2, h3, -, -⟩, -⟩ := h
  obtain ⟨c1, c2, c3, c4⟩ := hh
  refine vc_Parts_has a b ?_
  rw [ea, eb, show w32 (S.1 173 6 + S.1 173 2) = S.1 173 6 + S.1 173 2 from w32_of (by omega), show w32 (S.1 173 3) = S.1 173 3 from w32_of (by omega)]
  exact ⟨fun n => absurd n (by omega), fun _ => ⟨fun n => absurd n (by omega), fun _ => ⟨fun n => absurd n (by omega), fun _ => ⟨fun n => absurd n (by omega), fun _ => ⟨rfl, rfl⟩⟩⟩⟩⟩
theorem pa_has0 (ea : w32 a = a) (eb : w32 b = b) (h : RP S) (hh : ¬ Hs S a b) : EV q 230 0 [some (.ref 173), some (vI a), some (vI b)] [] S (some (vI 0)) S := by
  obtain ⟨-, ⟨h1, h2, h3, -, -⟩, -⟩ := h
  refine vc_Parts_has a b ?_
  rw [ea, eb, show w32 (S.1 173 6 + S.1 173 2) = S.1 173 6 + S.1 173 2 from w32_of (by omega), show w32 (S.1 173 3) = S.1 173 3 from w32_of (by omega)]
  exact ⟨fun _ => ⟨rfl, rfl⟩, fun n1 => ⟨fun _ => ⟨rfl, rfl⟩, fun n2 => ⟨fun _ => ⟨rfl, rfl⟩, fun n3 => ⟨fun _ => ⟨rfl, rfl⟩, fun n4 => absurd ⟨by omega, by omega, by omega, by omega⟩ hh⟩⟩⟩⟩
theorem md_np {T : ms} (ea : w32 a = a) (h : RP S) (e1 : T.1 367 112 = S.1 367 112) (e2 : T.1 367 113 = S.1 367 113) : (0 ≤ a ∧ a < S.1 173 6 + S.1 173 2 → EV q 414 0 [some (.ref 367), some (vI a)] [] T (some (vI 0)) T) ∧ (¬ (0 ≤ a ∧ a < S.1 173 6 + S.1 173 2) → EV q 414 0 [some (.ref 367), some (vI a)] [] T (some (vI 1)) T) := by
  obtain ⟨⟨g1, g2, -, -⟩, ⟨h1, h2, h3, -, -⟩, -⟩ := h
  have es : w32 (T.1 367 112 + T.1 367 113) = S.1 173 6 + S.1 173 2 := by
    rw [e1, e2, g1, g2, w32_of (by omega)]
  constructor
  · intro c
    refine vc_MD_noPart a ?_
    rw [ea, es]
    exact ⟨fun n => absurd n (by omega), fun _ => ⟨fun _ => ⟨rfl, rfl⟩, fun n => absurd c.2 n⟩⟩
  · intro c
    refine vc_MD_noPart a ?_
    rw [ea, es]
    exact ⟨fun _ => vc_MD_noPart_17 a ⟨rfl, rfl⟩, fun n1 => ⟨fun n2 => absurd ⟨by omega, n2⟩ c, fun _ => vc_MD_noPart_17 a ⟨rfl, rfl⟩⟩⟩
theorem pa_ix {D z p i : Int} (h0 : 0 ≤ p) (h1 : p < D) (h2 : 0 ≤ i) (h3 : i < z) : 0 ≤ p * z + i ∧ p * z + i < D * z := by
  have e1 : 0 ≤ p * z := Int.mul_nonneg h0 (by omega)
  have e2 : (p + 1) * z ≤ D * z := Int.mul_le_mul_of_nonneg_right (by omega) (by omega)
  rw [Int.add_mul, Int.one_mul] at e2
  omega
/-- part(part, i) -/
theorem op27_ok (ha : -2147483648 ≤ a ∧ a < 2147483648) (hb : -2147483648 ≤ b ∧ b < 2147483648) (h : RP S) : op_27 q a b d S (fun T => T = wI S 367 0 0) := by
  have ea : w32 a = a := w32_of ha
  have eb : w32 b = b := w32_of hb
  have hR := h
  have np := md_np (q := q) (T := wI S 367 0 0) ea h (r0 112 (by decide)) (r0 113 (by decide))
  obtain ⟨⟨g1, g2, g3, -⟩, ⟨h1, h2, h3, h4, h5⟩, h6, h7⟩ := h
  have e114 : (wI S 367 0 0).1 367 114 = S.1 173 3 := by rw [r0 114 (by decide), g3]
  have ez : w32 (S.1 173 3) = S.1 173 3 := w32_of (by omega)
  by_cases hh : Hs S a b
  · obtain ⟨c1, c2, c3, c4⟩ := hh
    obtain ⟨l1, l2, -⟩ := h6 a c1 c2
    have ix := pa_ix c1 c2 c3 c4
    obtain ⟨o1, o2⟩ := h7 (a * S.1 173 3 + b) ix.1 ix.2
    have ei : w32 (a * S.1 173 3 + b) = a * S.1 173 3 + b := w32_of (by omega)
    have e441 : (wI S 367 0 0).1 441 (w32 a) = S.1 175 a := by rw [ea, r0a 441 a (by decide), l2]
    by_cases cl : S.1 175 a = 0
    · refine ⟨S.1 174 (a * S.1 173 3 + b), S, S.1 439 (a * S.1 173 3 + b) % 256, wI S 367 0 0, vc_PH_part a b ⟨1, S, pa_has1 ea eb hR ⟨c1, c2, c3, c4⟩, fun _ => ⟨by omega, fun _ => ⟨by omega, by rw [ei], rfl⟩, fun n => absurd (by rw [ea, cl]; rfl) n⟩, fun n => absurd (by decide) n⟩, vc_MD_part a b (fun S1 f => ?_), by rw [oct_eq o1 o2], rfl⟩
      subst f
      refine ⟨0, _, np.1 ⟨c1, c2⟩, fun n => absurd rfl n, fun _ => ?_⟩
      rw [eb, e114, ez, e441]
      refine ⟨fun n => absurd n (by omega), fun _ => ⟨fun _ => ⟨by omega, fun _ => ⟨_, _, vc_MD_partAt a ⟨rfl, rfl⟩, ?_⟩, fun n => absurd (by rw [cl]; rfl) n⟩, fun n => absurd c4 n⟩⟩
      rw [e114, Int.mul_comm (S.1 173 3) a, ei]
      exact ⟨by omega, by rw [r0a 439 _ (by decide)], rfl⟩
    · have cl1 : S.1 175 a = 1 := by
        rcases l1 with z | z
        · exact absurd z cl
        · exact z
      refine ⟨0, S, 0, wI S 367 0 0, vc_PH_part a b ⟨1, S, pa_has1 ea eb hR ⟨c1, c2, c3, c4⟩, fun _ => ⟨by omega, fun n => absurd (by rw [ea, cl1] at n; exact n) (by decide), fun _ => ⟨rfl, rfl⟩⟩, fun n => absurd (by decide) n⟩, vc_MD_part a b (fun S1 f => ?_), rfl, rfl⟩
      subst f
      refine ⟨0, _, np.1 ⟨c1, c2⟩, fun n => absurd rfl n, fun _ => ?_⟩
      rw [eb, e114, ez, e441, cl1]
      exact ⟨fun n => absurd n (by omega), fun _ => ⟨fun _ => ⟨by omega, fun n => absurd n (by decide), fun _ => ⟨rfl, rfl⟩⟩, fun n => absurd c4 n⟩⟩
  · refine ⟨-1, S, -1, wI S 367 0 0, vc_PH_part a b ⟨0, S, pa_has0 ea eb hR hh, fun n => absurd rfl n, fun _ => ⟨rfl, rfl⟩⟩, vc_MD_part a b (fun S1 f => ?_), rfl, rfl⟩
    subst f
    by_cases cp : 0 ≤ a ∧ a < S.1 173 6 + S.1 173 2
    · refine ⟨0, _, np.1 cp, fun n => absurd rfl n, fun _ => ?_⟩
      rw [eb, e114, ez]
      exact ⟨fun _ => ⟨rfl, rfl⟩, fun n1 => ⟨fun n2 => absurd ⟨cp.1, cp.2, by omega, n2⟩ hh, fun _ => ⟨rfl, rfl⟩⟩⟩
    · exact ⟨1, _, np.2 cp, fun _ => ⟨rfl, rfl⟩, fun n => absurd (by decide) n⟩
/-- lose(part) -/
theorem op28_ok (ha : -2147483648 ≤ a ∧ a < 2147483648) (h : RP S) : op_28 q a b d S (fun T => T = wI S 367 0 0 ∨ (0 ≤ a ∧ a < S.1 173 6 + S.1 173 2 ∧ T = wI (wI (wI S 175 a 1) 367 0 0) 441 a 1)) := by
  have ea : w32 a = a := w32_of ha
  have hR := h
  obtain ⟨⟨g1, g2, g3, -⟩, ⟨h1, h2, h3, h4, h5⟩, h6, -⟩ := h
  by_cases cp : 0 ≤ a ∧ a < S.1 173 6 + S.1 173 2
  · have hh : Hs S a 0 := ⟨cp.1, cp.2, by omega, by omega⟩
    obtain ⟨l1, l2, -⟩ := h6 a cp.1 cp.2
    have np := md_np (q := q) (T := wI (wI S 175 a 1) 367 0 0) ea hR (by rw [r0 112 (by decide), rI_I, if_neg (by omega)]) (by rw [r0 113 (by decide), rI_I, if_neg (by omega)])
    have e441 : (wI (wI S 175 a 1) 367 0 0).1 441 (w32 a) = S.1 175 a := by rw [ea, r0a 441 a (by decide), rI_I, if_neg (by omega), l2]
    have fin : ∀ v : Int, EV q 415 29 [some (.ref 367), some (vI a), none] [vI v] (wI (wI S 175 a 1) 367 0 0) (some (vI v)) (wI (wI (wI S 175 a 1) 367 0 0) 441 a 1) := by
      intro v
      refine vc_MD_lose_29 a v ?_
      rw [ea]
      exact ⟨by omega, fun S2 f => ⟨rfl, f.symm⟩⟩
    by_cases cl : S.1 175 a = 0
    · refine ⟨1, wI S 175 a 1, 1, wI (wI (wI S 175 a 1) 367 0 0) 441 a 1, vc_PH_lose a ⟨1, S, pa_has1 ea rfl hR hh, fun _ => ?_, fun n => absurd (by decide) n⟩, vc_MD_lose a (fun S1 f => ?_), rfl, Or.inr ⟨cp.1, cp.2, rfl⟩⟩
      · rw [ea, cl]
        exact ⟨by omega, by omega, fun S6 f => ⟨fun _ => ⟨rfl, f.symm⟩, fun n => absurd rfl n⟩⟩
      · subst f
        refine ⟨0, _, np.1 cp, fun _ => ?_, fun n => absurd rfl n⟩
        rw [e441, cl]
        exact ⟨by omega, fun _ => fin 1, fun n => absurd rfl n⟩
    · have cl1 : S.1 175 a = 1 := by
        rcases l1 with z | z
        · exact absurd z cl
        · exact z
      refine ⟨0, wI S 175 a 1, 0, wI (wI (wI S 175 a 1) 367 0 0) 441 a 1, vc_PH_lose a ⟨1, S, pa_has1 ea rfl hR hh, fun _ => ?_, fun n => absurd (by decide) n⟩, vc_MD_lose a (fun S1 f => ?_), rfl, Or.inr ⟨cp.1, cp.2, rfl⟩⟩
      · rw [ea, cl1]
        exact ⟨by omega, by omega, fun S6 f => ⟨fun n => absurd n (by decide), fun _ => ⟨rfl, f.symm⟩⟩⟩
      · subst f
        refine ⟨0, _, np.1 cp, fun _ => ?_, fun n => absurd rfl n⟩
        rw [e441, cl1]
        exact ⟨by omega, fun n => absurd n (by decide), fun _ => fin 0⟩
  · have np := md_np (q := q) (T := wI S 367 0 0) ea hR (r0 112 (by decide)) (r0 113 (by decide))
    refine ⟨-1, S, -1, wI S 367 0 0, vc_PH_lose a ⟨0, S, pa_has0 ea rfl hR (fun z => cp ⟨z.1, z.2.1⟩), fun n => absurd rfl n, fun _ => ⟨rfl, rfl⟩⟩, vc_MD_lose a (fun S1 f => ?_), rfl, Or.inl rfl⟩
    subst f
    exact ⟨1, _, np.2 cp, fun n => absurd n (by decide), fun _ => ⟨rfl, rfl⟩⟩
end PartOps
