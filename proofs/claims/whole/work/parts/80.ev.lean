/-! what an instruction is excludes the others -/
section EnFz
variable {P : en_Pg} {tb : en_T} {cr : Nat → Nat}
set_option maxHeartbeats 8000000 in
theorem en_x1 {i : Instr} {len pc : Nat} {st : List Value} {q : Nat × List Value} (h : en_br i len pc st = some q) (st' : List Value) : en_op i st' = none := by
  cases i <;> first | rfl | cases h
set_option maxHeartbeats 8000000 in
theorem en_x2 {i : Instr} {len : Nat} {lv : en_L} {st : List Value} {q : en_L × List Value} (h : en_lo i len lv st = some q) (st' : List Value) : en_op i st' = none ∧ ∀ pc' : Nat, en_br i len pc' st' = none := by
  cases i <;> first | exact ⟨rfl, fun _ => rfl⟩ | cases h
set_option maxHeartbeats 8000000 in
theorem en_x3 {i : Instr} {len j cs ss : Nat} {st : List Value} {g : en_H} {q : List Value × en_H × Nat × Nat} (h : en_hp P tb cr j i len st g cs ss = some q) (st' : List Value) : en_op i st' = none ∧ (∀ pc' : Nat, en_br i len pc' st' = none) ∧ ∀ lv' : en_L, en_lo i len lv' st' = none := by
  cases i <;> first | exact ⟨rfl, fun _ => rfl, fun _ => rfl⟩ | cases h
set_option maxHeartbeats 8000000 in
theorem en_x4 {i : Instr} {len j : Nat} {st : List Value} {g : en_H} {q : Nat × Nat × List Value × List Value} (h : en_cal P j i len st g = some q) (st' : List Value) (cs ss : Nat) : en_ret P j i len st' cs ss = none := by
  cases i <;> first | rfl | cases h
set_option maxHeartbeats 8000000 in
theorem en_x5 {i : Instr} {len j : Nat} {S S' : en_S} (h : en_stp P tb cr j i len S = some S') (st' : List Value) : (∀ cs ss : Nat, en_ret P j i len st' cs ss = none) ∧ ∀ g' : en_H, en_cal P j i len st' g' = none := by
  cases i with
  | invokestatic x =>
    refine ⟨fun _ _ => rfl, fun g' => ?_⟩
    change (match (if len = 3 then (match en_pM P j x with
        | some (5, 0) => en_uh S.2.2.2.2.1 S.2.2.2.2.2 (en_cpy P tb j S.2.2.1 S.2.2.2.1)
        | some (kd + 6, 0) => en_up S.2.2.2.2.1 S.2.2.2.2.2 S.2.2.2.1 (en_mth P j (kd + 6) S.2.2.2.2.1 S.2.2.2.2.2 S.2.2.1)
        | _ => none) else none) with
      | some (st', h', cs', ss') => some (S.1 + len, S.2.1, st', h', cs', ss')
      | none => none) = _ at h
    by_cases hc : len = 3
    · rw [if_pos hc] at h
      unfold en_cal
      try dsimp only
      rw [if_pos hc]
      cases hm : en_pM P j x with
      | none => rfl
      | some q =>
        obtain ⟨kd, j2⟩ := q
        rw [hm] at h
        match kd with
        | 0 => cases h
        | n + 1 => rfl
    · rw [if_neg hc] at h
      cases h
  | invokespecial x =>
    refine ⟨fun _ _ => rfl, fun g' => ?_⟩
    change (match (if len = 3 ∧ en_pM P j x = some (4, 0) then en_up S.2.2.2.2.1 S.2.2.2.2.2 S.2.2.2.1 (en_obj P j S.2.2.1) else none) with
      | some (st', h', cs', ss') => some (S.1 + len, S.2.1, st', h', cs', ss')
      | none => none) = _ at h
    by_cases hc : len = 3 ∧ en_pM P j x = some (4, 0)
    · unfold en_cal
      try dsimp only
      rw [if_pos hc.1, hc.2]
      try dsimp only
      rw [if_neg (by decide)]
    · rw [if_neg hc] at h
      cases h
  | _ => first | exact ⟨fun _ _ => rfl, fun _ => rfl⟩ | cases h
end EnFz
/-! runs that come to an end, without their length -/
def en_Ev (P : en_Pg) (tb : en_T) (cr : Nat → Nat) (j : Nat) (S : en_S) (r : Option Value) (h' : en_H) : Prop := ∃ n, en_run P tb cr n j S = some (r, h')
section EnEv
variable {P : en_Pg} {tb : en_T} {cr : Nat → Nat} {j : Nat} {S S' : en_S} {r : Option Value} {h' : en_H}
theorem en_run_mono : ∀ (n j : Nat) (S : en_S) (q : Option Value × en_H), en_run P tb cr n j S = some q → en_run P tb cr (n + 1) j S = some q := by
  intro n
  induction n with
  | zero => intro j S q h; cases h
  | succ n ih =>
    intro j S q h
    rw [en_run_s] at h ⊢
    split at h
    · cases h
    · rename_i i len hI
      try rw [hI]
      try dsimp only
      split at h
      · rename_i r2 hr2
        try rw [hr2]
        exact h
      · rename_i hr2
        try rw [hr2]
        try dsimp only
        split at h
        · rename_i kd j' as rest hcal
          try rw [hcal]
          try dsimp only
          split at h
          · rename_i hc
            rw [if_pos hc]
            split at h
            · rename_i r1 h1 hrun1
              rw [ih _ _ _ hrun1]
              try dsimp only
              split at h
              · rename_i hc2
                rw [if_pos hc2]
                exact ih _ _ _ h
              · cases h
            · cases h
          · cases h
        · rename_i hcal
          try rw [hcal]
          try dsimp only
          split at h
          · rename_i S' hstp
            try rw [hstp]
            exact ih _ _ _ h
          · cases h
theorem en_run_le {n k : Nat} (hk : n ≤ k) {q : Option Value × en_H} (h : en_run P tb cr n j S = some q) : en_run P tb cr k j S = some q := by
  induction hk with
  | refl => exact h
  | step _ ih => exact en_run_mono _ _ _ _ ih
def en_nx (P : en_Pg) (tb : en_T) (cr : Nat → Nat) (j : Nat) (S : en_S) : Option en_S := match en_pI P j S.1 with
  | none => none
  | some (i, len) => match en_ret P j i len S.2.2.1 S.2.2.2.2.1 S.2.2.2.2.2 with
    | some _ => none
    | none => match en_cal P j i len S.2.2.1 S.2.2.2.1 with
      | some _ => none
      | none => en_stp P tb cr j i len S
def en_bk (P : en_Pg) (tb : en_T) (cr : Nat → Nat) (j : Nat) (k : Nat) : en_S → Option en_S := Nat.rec (motive := fun _ => en_S → Option en_S) (fun S => some S) (fun _ ih S => match en_nx P tb cr j S with
  | some S' => ih S'
  | none => none) k
theorem ev_nx (h : en_nx P tb cr j S = some S') (k : en_Ev P tb cr j S' r h') : en_Ev P tb cr j S r h' := by
  obtain ⟨n, hn⟩ := k
  refine ⟨n + 1, ?_⟩
  rw [en_run_s]
  unfold en_nx at h
  split at h
  · cases h
  · rename_i i len hI
    split at h
    · cases h
    · rename_i hr2
      split at h
      · cases h
      · rename_i hcal
        try rw [hI]
        try dsimp only
        try rw [hr2]
        try dsimp only
        try rw [hcal]
        try dsimp only
        rw [h]
        exact hn
theorem ev_bk (k : Nat) : ∀ {S : en_S}, en_bk P tb cr j k S = some S' → en_Ev P tb cr j S' r h' → en_Ev P tb cr j S r h' := by
  induction k with
  | zero => intro S h hk; cases h; exact hk
  | succ k ih =>
    intro S h hk
    have h2 : (match en_nx P tb cr j S with
      | some S' => en_bk P tb cr j k S'
      | none => none) = some S' := h
    split at h2
    · rename_i S1 h1
      exact ev_nx h1 (ih h2 hk)
    · cases h2
theorem ev_ret {pc len cs ss : Nat} {lv : en_L} {st : List Value} {h : en_H} {i : Instr} (hI : en_pI P j pc = some (i, len)) (hr : en_ret P j i len st cs ss = some r) : en_Ev P tb cr j (pc, lv, st, h, cs, ss) r h := by
  refine ⟨1, ?_⟩
  rw [en_run_s]
  dsimp only
  rw [hI]
  dsimp only
  rw [hr]
theorem ev_call {pc len cs ss kd j' : Nat} {lv : en_L} {st as rest : List Value} {h h1 : en_H} {i : Instr} {r1 : Option Value} (hI : en_pI P j pc = some (i, len)) (hcal : en_cal P j i len st h = some (kd, j', as, rest)) (hfit : en_fit P j j' rest cs ss = true) (hent : (en_ent1 as).length ≤ en_ml P j') (hrun : en_Ev P tb cr j' (0, en_ent (en_ml P j') as, [], h, 0, 0) r1 h1) (hlen : h1.length = h.length + en_mc P j' ∧ h1.length ≤ en_b)
    (k : en_Ev P tb cr j (pc + 3, lv, r1.toList ++ rest, h1, cs + en_mc P j', ss + en_ms P j') r h') : en_Ev P tb cr j (pc, lv, st, h, cs, ss) r h' := by
  obtain ⟨n1, g1⟩ := hrun
  obtain ⟨n2, g2⟩ := k
  refine ⟨n1 + n2 + 1, ?_⟩
  rw [en_run_s]
  dsimp only
  rw [hI]
  dsimp only
  rw [en_x4 hcal]
  dsimp only
  rw [hcal]
  dsimp only
  rw [if_pos ⟨hfit, hent⟩, en_run_le (Nat.le_add_right n1 n2) g1]
  dsimp only
  rw [if_pos hlen]
  exact en_run_le (Nat.le_add_left n2 n1) g2
/-- a place where the way parts -/
theorem ev_if {b : Bool} {x y : Nat} {rest : en_L × List Value × en_H × Nat × Nat} (ht : b = true → en_Ev P tb cr j (x, rest) r h') (hf : b = false → en_Ev P tb cr j (y, rest) r h') : en_Ev P tb cr j (bif b then x else y, rest) r h' := by
  cases b
  · exact hf rfl
  · exact ht rfl
end EnEv
