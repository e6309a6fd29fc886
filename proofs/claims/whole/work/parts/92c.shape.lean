/-! the machine of shapes: steps, calls, runs -/
def sr_stp (P : en_Pg) (cr : Nat → Nat) (j : Nat) (i : Instr) (len : Nat) (X : sr_S) : Option sr_S := match en_op i X.2.2.1 with
  | some (n, st') => if n = len then some (X.1 + len, X.2.1, st', X.2.2.2) else none
  | none => match en_br i len X.1 X.2.2.1 with
    | some (pc', st') => some (pc', X.2.1, st', X.2.2.2)
    | none => match en_lo i len X.2.1 X.2.2.1 with
      | some (lv', st') => some (X.1 + len, lv', st', X.2.2.2)
      | none => match sr_hp P cr j i len X.2.2.1 X.2.2.2.1 X.2.2.2.2.1 X.2.2.2.2.2 with
        | some (st', sx', cs', ss') => some (X.1 + len, X.2.1, st', sx', cs', ss')
        | none => none
def sr_run (P : en_Pg) (cr : Nat → Nat) (n : Nat) : Nat → sr_S → Option (Option Value × List sh_T) := Nat.rec (motive := fun _ => Nat → sr_S → Option (Option Value × List sh_T)) (fun _ _ => none) (fun _ ih j X => match en_pI P j X.1 with
  | none => none
  | some (i, len) => match en_ret P j i len X.2.2.1 X.2.2.2.2.1 X.2.2.2.2.2 with
    | some r => some (r, X.2.2.2.1)
    | none => match en_cal P j i len X.2.2.1 [] with
      | some (_, j', as, rest) => if en_fit P j j' rest X.2.2.2.2.1 X.2.2.2.2.2 = true ∧ (en_ent1 as).length ≤ en_ml P j' then (match ih j' (0, en_ent (en_ml P j') as, [], X.2.2.2.1, 0, 0) with
        | some (r, sx') => if sx'.length = X.2.2.2.1.length + en_mc P j' ∧ sx'.length ≤ en_b then ih j (X.1 + 3, X.2.1, r.toList ++ rest, sx', X.2.2.2.2.1 + en_mc P j', X.2.2.2.2.2 + en_ms P j') else none
        | none => none) else none
      | none => match sr_stp P cr j i len X with
        | some X' => ih j X'
        | none => none) n
/-- one instruction, or one call with all that it does -/
def sr_one (P : en_Pg) (cr : Nat → Nat) (f j : Nat) (X : sr_S) : Option sr_S := match en_pI P j X.1 with
  | none => none
  | some (i, len) => match en_ret P j i len X.2.2.1 X.2.2.2.2.1 X.2.2.2.2.2 with
    | some _ => none
    | none => match en_cal P j i len X.2.2.1 [] with
      | some (_, j', as, rest) => if en_fit P j j' rest X.2.2.2.2.1 X.2.2.2.2.2 = true ∧ (en_ent1 as).length ≤ en_ml P j' then (match sr_run P cr f j' (0, en_ent (en_ml P j') as, [], X.2.2.2.1, 0, 0) with
        | some (r, sx') => if sx'.length = X.2.2.2.1.length + en_mc P j' ∧ sx'.length ≤ en_b then some (X.1 + 3, X.2.1, r.toList ++ rest, sx', X.2.2.2.2.1 + en_mc P j', X.2.2.2.2.2 + en_ms P j') else none
        | none => none) else none
      | none => sr_stp P cr j i len X
def sr_to (P : en_Pg) (cr : Nat → Nat) (f j stop n : Nat) : sr_S → Option sr_S := Nat.rec (motive := fun _ => sr_S → Option sr_S) (fun X => bif Nat.beq X.1 stop then some X else none) (fun _ ih X => bif Nat.beq X.1 stop then some X else match sr_one P cr f j X with
  | some X' => ih X'
  | none => none) n
theorem sr_run_s (P : en_Pg) (cr : Nat → Nat) (n j : Nat) (X : sr_S) : sr_run P cr (n + 1) j X = match en_pI P j X.1 with
  | none => none
  | some (i, len) => match en_ret P j i len X.2.2.1 X.2.2.2.2.1 X.2.2.2.2.2 with
    | some r => some (r, X.2.2.2.1)
    | none => match en_cal P j i len X.2.2.1 [] with
      | some (_, j', as, rest) => if en_fit P j j' rest X.2.2.2.2.1 X.2.2.2.2.2 = true ∧ (en_ent1 as).length ≤ en_ml P j' then (match sr_run P cr n j' (0, en_ent (en_ml P j') as, [], X.2.2.2.1, 0, 0) with
        | some (r, sx') => if sx'.length = X.2.2.2.1.length + en_mc P j' ∧ sx'.length ≤ en_b then sr_run P cr n j (X.1 + 3, X.2.1, r.toList ++ rest, sx', X.2.2.2.2.1 + en_mc P j', X.2.2.2.2.2 + en_ms P j') else none
        | none => none) else none
      | none => match sr_stp P cr j i len X with
        | some X' => sr_run P cr n j X'
        | none => none := rfl
section SrRun
variable {P : en_Pg} {cr : Nat → Nat} {S : ms} {tb : en_T}
/-- a state of the machine of shapes, with contents -/
def sr_e (S : ms) (X : sr_S) : en_S := (X.1, X.2.1, X.2.2.1, hq X.2.2.2.1 S, X.2.2.2.2)
theorem sr_z.mono {n m : Nat} (h : sr_z n S) (hnm : n ≤ m) : sr_z m S := ⟨fun a k ha => h.1 a k (Nat.le_trans hnm ha), fun a k ha => h.2.1 a k (Nat.le_trans hnm ha), h.2.2⟩
theorem en_cal_nil {j len : Nat} {i : Instr} {st : List Value} {h : en_H} {q : Nat × Nat × List Value × List Value} (hc : en_cal P j i len st [] = some q) : en_cal P j i len st h = some q := by
  cases i with
  | invokestatic x => exact hc
  | invokespecial x => exact hc
  | invokevirtual x =>
    unfold en_cal at hc
    simp only [List.getElem?_nil] at hc
    split at hc <;> (try split at hc) <;> (try split at hc) <;> cases hc
  | _ => cases hc
theorem sr_stp_ok {j len : Nat} {i : Instr} {X X' : sr_S} (hz : sr_z X.2.2.2.1.length S) (h : sr_stp P cr j i len X = some X') : en_stp P tb cr j i len (sr_e S X) = some (sr_e S X') ∧ X.2.2.2.1.length ≤ X'.2.2.2.1.length := by
  obtain ⟨pc, lv, st, sx, cs, ss⟩ := X
  unfold sr_stp at h
  unfold en_stp sr_e
  dsimp only at h hz ⊢
  split at h
  · rename_i n st' ho
    try rw [ho]
    try dsimp only
    split at h
    · rename_i hn
      cases h
      rw [if_pos hn]
      exact ⟨rfl, Nat.le_refl _⟩
    · cases h
  · rename_i ho
    try rw [ho]
    try dsimp only
    split at h
    · rename_i pc' st' hb
      cases h
      try rw [hb]
      exact ⟨rfl, Nat.le_refl _⟩
    · rename_i hb
      try rw [hb]
      try dsimp only
      split at h
      · rename_i lv' st' hl
        cases h
        try rw [hl]
        exact ⟨rfl, Nat.le_refl _⟩
      · rename_i hl
        try rw [hl]
        try dsimp only
        split at h
        · rename_i st' sx' cs' ss' hh
          cases h
          obtain ⟨e1, e2⟩ := sr_hp_ok (tb := tb) hz hh
          rw [e1]
          exact ⟨rfl, e2⟩
        · cases h
theorem sr_run_ok : ∀ (n j : Nat) (X : sr_S) (r : Option Value) (sx' : List sh_T), sr_z X.2.2.2.1.length S → sr_run P cr n j X = some (r, sx') → en_run P tb cr n j (sr_e S X) = some (r, hq sx' S) ∧ X.2.2.2.1.length ≤ sx'.length := by
  intro n
  induction n with
  | zero => intro j X r sx' _ h; cases h
  | succ n ih =>
    intro j X r sx' hz h
    rw [sr_run_s] at h
    rw [en_run_s]
    obtain ⟨pc, lv, st, sx, cs, ss⟩ := X
    unfold sr_e
    dsimp only at h hz ⊢
    split at h
    · cases h
    · rename_i i len hI
      try rw [hI]
      try dsimp only
      split at h
      · rename_i r2 hr2
        cases h
        try rw [hr2]
        exact ⟨rfl, Nat.le_refl _⟩
      · rename_i hr2
        try rw [hr2]
        try dsimp only
        split at h
        · rename_i kd j' as rest hcal
          rw [en_cal_nil hcal]
          try dsimp only
          split at h
          · rename_i hc
            rw [if_pos hc]
            split at h
            · rename_i r1 sx1 hrun
              split at h
              · rename_i hc2
                obtain ⟨e1, e2⟩ := ih j' (0, en_ent (en_ml P j') as, [], sx, 0, 0) r1 sx1 hz hrun
                have e1' : en_run P tb cr n j' (0, en_ent (en_ml P j') as, [], hq sx S, 0, 0) = some (r1, hq sx1 S) := e1
                rw [e1']
                try dsimp only
                have e2' : sx.length ≤ sx1.length := e2
                obtain ⟨f1, f2⟩ := ih j (pc + 3, lv, r1.toList ++ rest, sx1, cs + en_mc P j', ss + en_ms P j') r sx' (hz.mono e2') h
                rw [if_pos (by rw [hq_len, hq_len]; exact hc2)]
                have f2' : sx1.length ≤ sx'.length := f2
                exact ⟨f1, by omega⟩
              · cases h
            · cases h
          · cases h
        · rename_i hcal
          split at h
          · rename_i X' hstp
            obtain ⟨e1, e2⟩ := sr_stp_ok (tb := tb) (S := S) (X := (pc, lv, st, sx, cs, ss)) hz hstp
            have e1' : en_stp P tb cr j i len (pc, lv, st, hq sx S, cs, ss) = some (sr_e S X') := e1
            rw [(en_x5 e1' st).2, e1']
            try dsimp only
            have e2' : sx.length ≤ X'.2.2.2.1.length := e2
            obtain ⟨f1, f2⟩ := ih j X' r sx' (hz.mono e2') h
            exact ⟨f1, by omega⟩
          · cases h
theorem ev_stp {j : Nat} {r : Option Value} {h' : en_H} {i : Instr} {len : Nat} {S0 S1 : en_S} (hI : en_pI P j S0.1 = some (i, len)) (hs : en_stp P tb cr j i len S0 = some S1) (k : en_Ev P tb cr j S1 r h') : en_Ev P tb cr j S0 r h' := by
  refine ev_nx ?_ k
  unfold en_nx
  rw [hI]
  dsimp only
  rw [(en_x5 hs _).1, (en_x5 hs _).2]
  exact hs
theorem sr_one_ok {f j : Nat} {X X' : sr_S} {r : Option Value} {h' : en_H} (hz : sr_z X.2.2.2.1.length S) (h : sr_one P cr f j X = some X') : X.2.2.2.1.length ≤ X'.2.2.2.1.length ∧ (en_Ev P tb cr j (sr_e S X') r h' → en_Ev P tb cr j (sr_e S X) r h') := by
  obtain ⟨pc, lv, st, sx, cs, ss⟩ := X
  unfold sr_one at h
  dsimp only at h hz ⊢
  split at h
  · cases h
  · rename_i i len hI
    split at h
    · cases h
    · rename_i hr2
      split at h
      · rename_i kd j' as rest hcal
        split at h
        · rename_i hc
          split at h
          · rename_i r1 sx1 hrun
            split at h
            · rename_i hc2
              cases h
              obtain ⟨e1, e2⟩ := sr_run_ok (tb := tb) (S := S) f j' (0, en_ent (en_ml P j') as, [], sx, 0, 0) r1 sx1 hz hrun
              exact ⟨e2, fun k => ev_call hI (en_cal_nil hcal) hc.1 hc.2 ⟨f, e1⟩ (by rw [hq_len, hq_len]; exact hc2) k⟩
            · cases h
          · cases h
        · cases h
      · obtain ⟨e1, e2⟩ := sr_stp_ok (tb := tb) (S := S) (X := (pc, lv, st, sx, cs, ss)) hz h
        exact ⟨e2, fun k => ev_stp hI e1 k⟩
theorem ev_sr {f j stop : Nat} {r : Option Value} {h' : en_H} (n : Nat) : ∀ {X X' : sr_S}, sr_to P cr f j stop n X = some X' → sr_z X.2.2.2.1.length S → en_Ev P tb cr j (sr_e S X') r h' → en_Ev P tb cr j (sr_e S X) r h' := by
  induction n with
  | zero =>
    intro X X' h hz k
    have h2 : (bif Nat.beq X.1 stop then some X else none) = some X' := h
    cases hb : Nat.beq X.1 stop
    · rw [hb] at h2
      cases h2
    · rw [hb] at h2
      cases h2
      exact k
  | succ n ih =>
    intro X X' h hz k
    have h2 : (bif Nat.beq X.1 stop then some X else match sr_one P cr f j X with
      | some X' => sr_to P cr f j stop n X'
      | none => none) = some X' := h
    cases hb : Nat.beq X.1 stop
    · rw [hb, cond_false] at h2
      split at h2
      · rename_i X1 h1
        obtain ⟨e1, e2⟩ := sr_one_ok (tb := tb) (S := S) (r := r) (h' := h') hz h1
        exact e2 (ih h2 (hz.mono e1) k)
      · cases h2
    · rw [hb] at h2
      cases h2
      exact k
end SrRun
