/-! entry on both sides -/
section EntryOp2
variable {q : Nat × (Nat → Int32)} {S : ms} {a b d : Int}
/-- entry(stream, mode, time) -/
theorem op17_ok {sh : Nat} (ha : -2147483648 ≤ a ∧ a < 2147483648) (hb : -2147483648 ≤ b ∧ b < 2147483648) (hd : -2147483648 ≤ d ∧ d < 2147483648) (h : RE S sh) (hS : RS S) (hN : RN S) : op_17 q a b d S (fun T => T = wI S 367 0 0 ∨ (Lv S a ∧ 0 ≤ b ∧ b ≤ 511 ∧ 0 ≤ d ∧ 1 ≤ S.1 5 1 ∧ S.1 sh 4 < 16 ∧ S.1 (sR a) 1 ≤ 6000 ∧ T = EM (wI (CL (AE S sh (S.1 sh 4) 5 (S.1 5 1) (sR a + 1) 0 (S.1 (sR a) 1) b d) 5) 367 0 0) (S.1 sh 4) (S.1 5 1) (S.1 (sR a) 1) a b d)) := by
  have ea : w32 a = a := w32_of ha
  have eb : w32 b = b := w32_of hb
  have ed : w32 d = d := w32_of hd
  obtain ⟨h1, h2, h3, h4, -⟩ := h
  obtain ⟨n1, n2, -⟩ := hN
  have hs := isSh_is h2
  have ec : w32 (S.1 sh 4) = S.1 sh 4 := w32_of (by omega)
  have e5 : w32 (S.1 5 1) = S.1 5 1 := w32_of (by omega)
  have m103 : (wI S 367 0 0).1 367 103 = S.1 5 1 := by rw [r0 103 (by decide), n2]
  have m88 : (wI S 367 0 0).1 367 88 = S.1 sh 4 := by rw [r0 88 (by decide), h4]
  by_cases hl : Lv S a
  · have pl := ph_live1 (q := q) ea hl
    have ns := md_ns0 (q := q) ea (RS_0 hS) (Lv_0.mpr hl)
    have hl' := hl
    obtain ⟨l1, l2, l3⟩ := hl
    obtain ⟨g1, g2, -⟩ := (hS a l1 l2).2.2 l3
    obtain ⟨i1, i2⟩ := st_is l1 l2
    have hrg := sR_rg l1 l2
    have es : w32 (S.1 (sR a) 1) = S.1 (sR a) 1 := w32_of (by omega)
    have i1' : sh_r (SH 3).2.2 (w32 a).toNat = some (sR a) := by rw [ea]; exact i1
    have m370 : (wI S 367 0 0).1 370 a = S.1 (sR a) 1 := by rw [r0a 370 a (by decide), g2]
    by_cases cb : 0 ≤ b ∧ b ≤ 511
    · have mb := md_in1 (q := q) (S := wI S 367 0 0) (x := b) (y := 0) (z := 511) (by rw [eb]; exact cb.1) (by rw [eb]; exact cb.2)
      by_cases cd : d < 0
      · refine ⟨-2, S, -2, wI S 367 0 0, vc_PH_entry a b d ⟨1, S, pl, fun _ => ?_, fun n => absurd (by decide) n⟩, vc_MD_entry a b d (fun S1 f => ?_), rfl, Or.inl rfl⟩
        · rw [eb, ed]
          exact ⟨fun n => absurd n (by omega), fun _ => ⟨fun n => absurd n (by omega), fun _ => ⟨fun _ => ⟨rfl, rfl⟩, fun n => absurd cd n⟩⟩⟩
        · subst f
          refine ⟨0, _, ns, fun _ => ⟨1, _, mb, fun n => absurd n (by decide), fun _ => ?_⟩, fun n => absurd rfl n⟩
          rw [ed]
          exact ⟨fun _ => ⟨rfl, rfl⟩, fun n => absurd cd n⟩
      · by_cases c5 : S.1 5 1 = 0
        · refine ⟨-2, S, -2, wI S 367 0 0, vc_PH_entry a b d ⟨1, S, pl, fun _ => ?_, fun n => absurd (by decide) n⟩, vc_MD_entry a b d (fun S1 f => ?_), rfl, Or.inl rfl⟩
          · rw [eb, ed, e5]
            exact ⟨fun n => absurd n (by omega), fun _ => ⟨fun n => absurd n (by omega), fun _ => ⟨fun n => absurd n cd, fun _ => ⟨fun n => absurd c5 n, fun _ => ⟨rfl, rfl⟩⟩⟩⟩⟩
          · subst f
            refine ⟨0, _, ns, fun _ => ⟨1, _, mb, fun n => absurd n (by decide), fun _ => ?_⟩, fun n => absurd rfl n⟩
            rw [ed, m103, e5]
            exact ⟨fun n => absurd n cd, fun _ => ⟨fun n => absurd c5 n, fun _ => ⟨rfl, rfl⟩⟩⟩
        · by_cases c16 : S.1 sh 4 = 16
          · refine ⟨-4, S, -4, wI S 367 0 0, vc_PH_entry a b d ⟨1, S, pl, fun _ => ?_, fun n => absurd (by decide) n⟩, vc_MD_entry a b d (fun S1 f => ?_), rfl, Or.inl rfl⟩
            · rw [eb, ed, e5]
              refine ⟨fun n => absurd n (by omega), fun _ => ⟨fun n => absurd n (by omega), fun _ => ⟨fun n => absurd n cd, fun _ => ⟨fun _ => ⟨by omega, sR a, 12000, i1', i2, sh, h1, hs, ?_⟩, fun n => absurd c5 n⟩⟩⟩⟩
              rw [ec]
              exact ⟨fun _ => ⟨rfl, rfl⟩, fun n => absurd (by omega) n⟩
            · subst f
              refine ⟨0, _, ns, fun _ => ⟨1, _, mb, fun n => absurd n (by decide), fun _ => ?_⟩, fun n => absurd rfl n⟩
              rw [ed, m103, e5, m88, ec]
              exact ⟨fun n => absurd n cd, fun _ => ⟨fun _ => ⟨fun _ => ⟨rfl, rfl⟩, fun n => absurd c16 n⟩, fun n => absurd c5 n⟩⟩
          · by_cases cn : S.1 (sR a) 1 ≤ 6000
            · have hsb : sh ≤ 268 := by rcases h2 with e | e <;> omega
              have hsc : 193 ≤ sh := by rcases h2 with e | e <;> omega
              have k1 := sp_addEntry (q := q) (S := S) (mo := b) (ti := d) (fr := 0) (n := S.1 (sR a) 1) h2 is_5 (by decide) i2.2 (by decide) (Or.inl (by omega)) (Or.inr (Or.inr (by omega))) rfl (by omega) rfl n1 (by omega) (by decide) (by omega) (by omega)
              have k2 : (CL (AE S sh (S.1 sh 4) 5 (S.1 5 1) (sR a + 1) 0 (S.1 (sR a) 1) b d) 5).1 sh 4 = S.1 sh 4 + 1 := by
                rw [CL_n _ (by omega)]
                unfold AE
                rw [rI_I, if_pos ⟨rfl, rfl⟩]
              have o : ∀ (c : Nat) (k : Int), 366 < c → (CL (AE S sh (S.1 sh 4) 5 (S.1 5 1) (sR a + 1) 0 (S.1 (sR a) 1) b d) 5).1 c k = S.1 c k := by
                intro c k c1
                rw [CL_n _ (by omega)]
                unfold AE
                rw [rI_I, if_neg (by omega), rI_I, if_neg (by omega), rI_I, if_neg (by omega), RW_at, if_neg (by omega), if_neg (by omega), CL_n _ (by omega), RW_at, if_neg (by omega), if_neg (by omega), CL_n _ (by omega)]
              have p103 : (wI (CL (AE S sh (S.1 sh 4) 5 (S.1 5 1) (sR a + 1) 0 (S.1 (sR a) 1) b d) 5) 367 0 0).1 367 103 = S.1 5 1 := by rw [r0 103 (by decide), o _ _ (by decide), n2]
              have p88 : (wI (CL (AE S sh (S.1 sh 4) 5 (S.1 5 1) (sR a + 1) 0 (S.1 (sR a) 1) b d) 5) 367 0 0).1 367 88 = S.1 sh 4 := by rw [r0 88 (by decide), o _ _ (by decide), h4]
              have p370 : (wI (CL (AE S sh (S.1 sh 4) 5 (S.1 5 1) (sR a + 1) 0 (S.1 (sR a) 1) b d) 5) 367 0 0).1 370 a = S.1 (sR a) 1 := by rw [r0a 370 a (by decide), o _ _ (by decide), g2]
              have p371 : (wI (CL (AE S sh (S.1 sh 4) 5 (S.1 5 1) (sR a + 1) 0 (S.1 (sR a) 1) b d) 5) 367 0 0).1 371 a = 1 := by rw [r0a 371 a (by decide), o _ _ (by decide), (hS a l1 l2).2.1, l3]
              have key := lp_entry1 (q := q) (a := a) (b := b) (d := d) l1 l2 g1.1 cn (by omega) n1.2 p103 p88 p370 (S.1 5 1).toNat 0 (by decide) (by omega)
              rw [wC_0] at key
              refine ⟨S.1 sh 4 + 1 - 1, CL (AE S sh (S.1 sh 4) 5 (S.1 5 1) (sR a + 1) 0 (S.1 (sR a) 1) b d) 5, S.1 sh 4, _, vc_PH_entry a b d ⟨1, S, pl, fun _ => ?_, fun n => absurd (by decide) n⟩, vc_MD_entry a b d (fun S1 f => ?_), by rw [show S.1 sh 4 + 1 - 1 = S.1 sh 4 by omega], Or.inr ⟨hl', cb.1, cb.2, by omega, by omega, by omega, cn, rfl⟩⟩
              · rw [eb, ed, e5]
                refine ⟨fun n => absurd n (by omega), fun _ => ⟨fun n => absurd n (by omega), fun _ => ⟨fun n => absurd n cd, fun _ => ⟨fun _ => ⟨by omega, sR a, 12000, i1', i2, sh, h1, hs, ?_⟩, fun n => absurd c5 n⟩⟩⟩⟩
                rw [ec, es]
                exact ⟨fun n => absurd n (by omega), fun _ => ⟨fun _ => ⟨sh, h1, hs, _, k1, _, sp_clear is_5, sh, h1, hs, by rw [k2], rfl⟩, fun n => absurd cn n⟩⟩
              · subst f
                have ns' : EV q 271 0 [some (.ref 367), some (vI a)] [] (wI (CL (AE S sh (S.1 sh 4) 5 (S.1 5 1) (sR a + 1) 0 (S.1 (sR a) 1) b d) 5) 367 0 0) (some (vI 0)) (wI (CL (AE S sh (S.1 sh 4) 5 (S.1 5 1) (sR a + 1) 0 (S.1 (sR a) 1) b d) 5) 367 0 0) := by
                  refine vc_MD_noStream a ⟨1, _, md_in1 (by show 1 ≤ w32 a; omega) (by show w32 a ≤ 12; omega), fun c => absurd c (by decide), fun _ => ⟨by omega, fun _ => ⟨rfl, rfl⟩, fun c => ?_⟩⟩
                  rw [ea, p371] at c
                  exact absurd (by decide) c
                refine ⟨0, _, ns', fun _ => ⟨1, _, md_in1 (by rw [eb]; exact cb.1) (by rw [eb]; exact cb.2), fun n => absurd n (by decide), fun _ => ?_⟩, fun n => absurd rfl n⟩
                rw [ed, p103, e5, p88, ec, ea, p370, es]
                exact ⟨fun n => absurd n cd, fun _ => ⟨fun _ => ⟨fun n => absurd n c16, fun _ => ⟨by omega, fun _ => key, fun n => absurd cn n⟩⟩, fun n => absurd c5 n⟩⟩
            · refine ⟨-4, S, -4, wI S 367 0 0, vc_PH_entry a b d ⟨1, S, pl, fun _ => ?_, fun n => absurd (by decide) n⟩, vc_MD_entry a b d (fun S1 f => ?_), rfl, Or.inl rfl⟩
              · rw [eb, ed, e5]
                refine ⟨fun n => absurd n (by omega), fun _ => ⟨fun n => absurd n (by omega), fun _ => ⟨fun n => absurd n cd, fun _ => ⟨fun _ => ⟨by omega, sR a, 12000, i1', i2, sh, h1, hs, ?_⟩, fun n => absurd c5 n⟩⟩⟩⟩
                rw [ec, es]
                exact ⟨fun _ => ⟨rfl, rfl⟩, fun _ => ⟨fun n => absurd n cn, fun _ => ⟨rfl, rfl⟩⟩⟩
              · subst f
                refine ⟨0, _, ns, fun _ => ⟨1, _, mb, fun n => absurd n (by decide), fun _ => ?_⟩, fun n => absurd rfl n⟩
                rw [ed, m103, e5, m88, ec, ea, m370, es]
                exact ⟨fun n => absurd n cd, fun _ => ⟨fun _ => ⟨fun n => absurd n c16, fun _ => ⟨by omega, fun n => absurd n cn, fun _ => ⟨rfl, rfl⟩⟩⟩, fun n => absurd c5 n⟩⟩
    · refine ⟨-2, S, -2, wI S 367 0 0, vc_PH_entry a b d ⟨1, S, pl, fun _ => ?_, fun n => absurd (by decide) n⟩, vc_MD_entry a b d (fun S1 f => ?_), rfl, Or.inl rfl⟩
      · rw [eb]
        exact ⟨fun _ => ⟨rfl, rfl⟩, fun n1 => ⟨fun _ => ⟨rfl, rfl⟩, fun n2 => absurd ⟨by omega, by omega⟩ cb⟩⟩
      · subst f
        exact ⟨0, _, ns, fun _ => ⟨0, _, md_in0 (by rw [eb]; show b < 0 ∨ 511 < b; omega), fun _ => ⟨rfl, rfl⟩, fun n => absurd rfl n⟩, fun n => absurd rfl n⟩
  · refine ⟨-1, S, -1, wI S 367 0 0, vc_PH_entry a b d ⟨0, S, ph_live0 ea hS hl, fun n => absurd rfl n, fun _ => ⟨rfl, rfl⟩⟩, vc_MD_entry a b d (fun S1 f => ?_), rfl, Or.inl rfl⟩
    subst f
    exact ⟨1, _, md_ns1 ea (RS_0 hS) (fun z => hl (Lv_0.mp z)), fun c => absurd c (by decide), fun _ => ⟨rfl, rfl⟩⟩
end EntryOp2
