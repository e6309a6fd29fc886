section EnFz
variable {σ : Nat → Nat} {P : en_Pg} {tb : en_T} {cr : Nat → Nat}
set_option maxHeartbeats 8000000 in
theorem en_x1 {i : Instr} {len pc : Nat} {st : List Value} {q : Nat × List Value} (h : en_br i len pc st = some q) (st' : List Value) : en_op i st' = none := by
  cases i <;> first | rfl | cases h
set_option maxHeartbeats 8000000 in
theorem en_x2 {i : Instr} {len : Nat} {lv : en_L} {st : List Value} {q : en_L × List Value} (h : en_lo i len lv st = some q) (st' : List Value) : en_op i st' = none ∧ ∀ pc' : Nat, en_br i len pc' st' = none := by
  cases i <;> first | exact ⟨rfl, fun _ => rfl⟩ | cases h
set_option maxHeartbeats 8000000 in
theorem en_x3 {i : Instr} {len j cs ss : Nat} {st : List Value} {g : en_H} {q : List Value × en_H × Nat × Nat} (h : en_hp P tb cr j i len st g cs ss = some q) (st' : List Value) : en_op i st' = none ∧ (∀ pc' : Nat, en_br i len pc' st' = none) ∧ ∀ lv' : en_L, en_lo i len lv' st' = none := by
  cases i <;> first | exact ⟨rfl, fun _ => rfl, fun _ => rfl⟩ | cases h
set_option maxHeartbeats 8000000 in
theorem en_x4 {i : Instr} {len j : Nat} {st : List Value} {g : en_H} {q : Nat × Nat × List Value × List Value} (h : en_cal P j i len st g = some q) (st' : List Value) (cs ss : Nat) : en_ret P j i len st' cs ss = none := by
  cases i <;> first | rfl | cases h
set_option maxHeartbeats 8000000 in
theorem en_x5 {i : Instr} {len j : Nat} {S S' : en_S} (h : en_stp P tb cr j i len S = some S') (st' : List Value) : (∀ cs ss : Nat, en_ret P j i len st' cs ss = none) ∧ ∀ g' : en_H, en_cal P j i len st' g' = none := by
  cases i with
  | invokestatic x =>
    refine ⟨fun _ _ => rfl, fun g' => ?_⟩
    change (match (if len = 3 then (match en_pM P j x with
        | some (5, 0) => en_uh S.2.2.2.2.1 S.2.2.2.2.2 (en_cpy P tb j S.2.2.1 S.2.2.2.1)
        | some (kd + 6, 0) => en_up S.2.2.2.2.1 S.2.2.2.2.2 S.2.2.2.1 (en_mth P j (kd + 6) S.2.2.2.2.1 S.2.2.2.2.2 S.2.2.1)
        | _ => none) else none) with
      | some (st', h', cs', ss') => some (S.1 + len, S.2.1, st', h', cs', ss')
      | none => none) = _ at h
    by_cases hc : len = 3
    · rw [if_pos hc] at h
      unfold en_cal
      try dsimp only
      rw [if_pos hc]
      cases hm : en_pM P j x with
      | none => rfl
      | some q =>
        obtain ⟨kd, j2⟩ := q
        rw [hm] at h
        match kd with
        | 0 => cases h
        | n + 1 => rfl
    · rw [if_neg hc] at h
      cases h
  | invokespecial x =>
    refine ⟨fun _ _ => rfl, fun g' => ?_⟩
    change (match (if len = 3 ∧ en_pM P j x = some (4, 0) then en_up S.2.2.2.2.1 S.2.2.2.2.2 S.2.2.2.1 (en_obj P j S.2.2.1) else none) with
      | some (st', h', cs', ss') => some (S.1 + len, S.2.1, st', h', cs', ss')
      | none => none) = _ at h
    by_cases hc : len = 3 ∧ en_pM P j x = some (4, 0)
    · unfold en_cal
      try dsimp only
      rw [if_pos hc.1, hc.2]
      try dsimp only
      rw [if_neg (by decide)]
    · rw [if_neg hc] at h
      cases h
  | _ => first | exact ⟨fun _ _ => rfl, fun _ => rfl⟩ | cases h
theorem en_stp_fr {i : Instr} {len j pc cs ss : Nat} {lv : en_L} {st : List Value} {g h : en_H} {S' : en_S} (hmc : en_mc P j = 0) (hE : en_Em σ g h) (hq : en_stp P tb cr j i len (pc, lv, st, g, cs, ss) = some S') : ∃ h', en_stp P tb cr j i len (pc, en_L2 σ lv, st.map (en_v σ), h, cs, ss) = some (S'.1, en_L2 σ S'.2.1, S'.2.2.1.map (en_v σ), h', S'.2.2.2.2) ∧ en_Em σ S'.2.2.2.1 h' ∧ en_Kp σ g h h' ∧ S'.2.2.2.1.length = g.length := by
  unfold en_stp at hq ⊢
  dsimp only at hq ⊢
  split at hq
  · rename_i n st' ho
    rw [en_op_fr ho]
    try dsimp only
    split at hq
    · rename_i hn
      cases hq
      rw [if_pos hn]
      exact ⟨h, rfl, hE, en_Kp.rf, rfl⟩
    · cases hq
  · split at hq
    · rename_i pc' st' ho
      cases hq
      rw [en_x1 ho, en_br_fr ho]
      exact ⟨h, rfl, hE, en_Kp.rf, rfl⟩
    · split at hq
      · rename_i lv' st' ho
        cases hq
        rw [(en_x2 ho _).1, (en_x2 ho _).2, en_lo_fr ho]
        exact ⟨h, rfl, hE, en_Kp.rf, rfl⟩
      · split at hq
        · rename_i st' h2 cs' ss' ho
          cases hq
          obtain ⟨h', e1, e2, e3, e4⟩ := en_hp_fr hmc hE ho
          rw [(en_x3 ho _).1, (en_x3 ho _).2.1, (en_x3 ho _).2.2, e1]
          exact ⟨h', rfl, e2, e3, e4⟩
        · cases hq
/-- THE FRAME RULE: a run of a method that makes no cells, over the few cells g, is its run over any cells h among which these lie -/
theorem en_run_fr : ∀ (n j : Nat) (pc cs ss : Nat) (lv : en_L) (st : List Value) (g g' h : en_H) (r : Option Value), en_mc P j = 0 → en_Em σ g h → en_run P tb cr n j (pc, lv, st, g, cs, ss) = some (r, g') → ∃ h', en_run P tb cr n j (pc, en_L2 σ lv, st.map (en_v σ), h, cs, ss) = some (r.map (en_v σ), h') ∧ en_Em σ g' h' ∧ en_Kp σ g h h' ∧ g'.length = g.length := by
  intro n
  induction n with
  | zero => intro j pc cs ss lv st g g' h r _ _ hq; cases hq
  | succ n ih =>
    intro j pc cs ss lv st g g' h r hmc hE hq
    rw [en_run_s] at hq ⊢
    dsimp only at hq ⊢
    split at hq
    · cases hq
    · rename_i i len hI
      try rw [hI]
      try dsimp only
      split at hq
      · rename_i r2 hr2
        cases hq
        rw [en_ret_fr hr2]
        exact ⟨h, rfl, hE, en_Kp.rf, rfl⟩
      · split at hq
        · rename_i kd j' as rest hcal
          split at hq
          · rename_i hc
            split at hq
            · rename_i r1 g1 hr1
              split at hq
              · rename_i hc2
                have hf := en_fit_ok hc.1
                have hmc' : en_mc P j' = 0 := by omega
                obtain ⟨h1, e1, e2, e3, e4⟩ := ih j' 0 0 0 (en_ent (en_ml P j') as) [] g g1 h r1 hmc' hE hr1
                obtain ⟨h', z1, z2, z3, z4⟩ := ih j (pc + 3) (cs + en_mc P j') (ss + en_ms P j') lv (r1.toList ++ rest) g1 g' h1 r hmc e2 hq
                refine ⟨h', ?_, z2, e3.tr e4 z3, z4.trans e4⟩
                rw [en_x4 hcal, en_cal_fr hE hcal]
                try dsimp only
                have hfit2 : en_fit P j j' (rest.map (en_v σ)) cs ss = en_fit P j j' rest cs ss := by
                  unfold en_fit
                  rw [en_ws_fr]
                rw [hfit2, (en_ent_fr (σ := σ) (en_ml P j') as).2, if_pos hc, (en_ent_fr (σ := σ) (en_ml P j') as).1]
                have e1' : en_run P tb cr n j' (0, en_L2 σ (en_ent (en_ml P j') as), [], h, 0, 0) = some (r1.map (en_v σ), h1) := e1
                rw [e1']
                try dsimp only
                rw [if_pos ⟨by rw [e3.1]; omega, by rw [e3.1]; exact hE.2.2.2.2⟩, en_tl]
                exact z1
              · cases hq
            · cases hq
          · cases hq
        · split at hq
          · rename_i S' hstp
            obtain ⟨h1, e1, e2, e3, e4⟩ := en_stp_fr hmc hE hstp
            obtain ⟨pc', lv', st', g1, cs', ss'⟩ := S'
            obtain ⟨h', z1, z2, z3, z4⟩ := ih j pc' cs' ss' lv' st' g1 g' h1 r hmc e2 hq
            refine ⟨h', ?_, z2, e3.tr e4 z3, z4.trans e4⟩
            rw [(en_x5 hstp _).1, (en_x5 hstp _).2, e1]
            exact z1
          · cases hq
end EnFz
