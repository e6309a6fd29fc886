/-! a run doesn't mind what dead locals hold -/
def lv_le (a b : en_L) : Prop := a.length = b.length ∧ ∀ (k : Nat) (v : Value), a[k]? = some (some v) → b[k]? = some (some v)
theorem le_0 : lv_le [] [] := ⟨rfl, fun _ _ h => h⟩
theorem le_s {x : Option Value} {a b : en_L} (h : lv_le a b) : lv_le (x :: a) (x :: b) := by
  refine ⟨by rw [List.length_cons, List.length_cons, h.1], fun k v hk => ?_⟩
  match k, hk with
  | 0, hk => exact hk
  | k + 1, hk => exact h.2 k v hk
theorem le_n {x : Option Value} {a b : en_L} (h : lv_le a b) : lv_le (none :: a) (x :: b) := by
  refine ⟨by rw [List.length_cons, List.length_cons, h.1], fun k v hk => ?_⟩
  match k, hk with
  | 0, hk => cases hk
  | k + 1, hk => exact h.2 k v hk
theorem le_set {a b : en_L} {i : Nat} {x : Option Value} (h : lv_le a b) : lv_le (a.set i x) (b.set i x) := by
  refine ⟨by rw [List.length_set, List.length_set, h.1], fun k v hk => ?_⟩
  by_cases hki : k = i
  · subst hki
    by_cases hl : k < a.length
    · rw [List.getElem?_set_self hl] at hk
      rw [List.getElem?_set_self (by rw [← h.1]; exact hl)]
      exact hk
    · rw [List.getElem?_eq_none (by rw [List.length_set]; omega)] at hk
      cases hk
  · rw [List.getElem?_set_ne (fun q => hki q.symm)] at hk ⊢
    exact h.2 k v hk
theorem le_setn {a b : en_L} {i : Nat} (h : lv_le a b) : lv_le (a.set i none) b := by
  refine ⟨by rw [List.length_set, h.1], fun k v hk => ?_⟩
  by_cases hki : k = i
  · subst hki
    by_cases hl : k < a.length
    · rw [List.getElem?_set_self hl] at hk
      cases hk
    · rw [List.getElem?_eq_none (by rw [List.length_set]; omega)] at hk
      cases hk
  · rw [List.getElem?_set_ne (fun q => hki q.symm)] at hk
    exact h.2 k v hk
theorem le_cl {a b : en_L} {i : Nat} (h : lv_le a b) : lv_le (en_cl a i) (en_cl b i) := by
  unfold en_cl
  split
  · exact h
  · rename_i j
    cases ha : a[j]? with
    | none =>
      have hb : b[j]? = none := by
        rw [List.getElem?_eq_none_iff] at ha ⊢
        rw [← h.1]
        exact ha
      rw [hb]
      exact h
    | some z =>
      cases z with
      | none =>
        have hn : lv_le a (b.set j none) := by
          refine ⟨by rw [List.length_set, h.1], fun k v hk => ?_⟩
          by_cases hkj : k = j
          · subst hkj
            rw [ha] at hk
            cases hk
          · rw [List.getElem?_set_ne (fun q => hkj q.symm)]
            exact h.2 k v hk
        dsimp only
        split
        · split
          · exact hn
          · exact h
        · exact h
      | some w =>
        rw [h.2 j w ha]
        dsimp only
        split
        · exact le_set h
        · exact h
theorem en_lo_le {i : Instr} {len : Nat} {a b a1 : en_L} {st st1 : List Value} (h : lv_le a b) (hq : en_lo i len a st = some (a1, st1)) : ∃ b1, en_lo i len b st = some (b1, st1) ∧ lv_le a1 b1 := by
  unfold en_lo at hq ⊢
  split at hq
  · rename_i n x kd hld
    split at hq
    · rename_i v hv
      split at hq
      · rename_i hc
        cases hq
        try rw [hld]
        try dsimp only
        rw [h.2 x v hv]
        try dsimp only
        rw [if_pos hc]
        exact ⟨b, rfl, h⟩
      · cases hq
    · cases hq
  · rename_i hld
    try rw [hld]
    try dsimp only
    split at hq
    · rename_i n x kd hsd
      try rw [hsd]
      try dsimp only
      split at hq
      · rename_i v r
        split at hq
        · rename_i hc
          rw [if_pos hc]
          split at hq
          · rename_i hk
            rw [if_pos hk]
            split at hq
            · rename_i hl
              cases hq
              rw [if_pos (by rw [← h.1]; exact hl)]
              exact ⟨_, rfl, by unfold en_st2; exact le_set (le_set (le_cl h))⟩
            · cases hq
          · rename_i hk
            rw [if_neg hk]
            split at hq
            · rename_i hl
              cases hq
              rw [if_pos (by rw [← h.1]; exact hl)]
              exact ⟨_, rfl, by unfold en_st1; exact le_set (le_cl h)⟩
            · cases hq
        · cases hq
      · cases hq
    · rename_i hsd
      try rw [hsd]
      try dsimp only
      split at hq
      · split at hq
        · rename_i v hv
          split at hq
          · rename_i hl
            cases hq
            try dsimp only
            rw [h.2 _ _ hv]
            try dsimp only
            rw [if_pos hl]
            exact ⟨_, rfl, by unfold en_st1; exact le_set (le_cl h)⟩
          · cases hq
        · cases hq
      · cases hq
theorem en_run_wk {P : en_Pg} {tb : en_T} {cr : Nat → Nat} : ∀ (n j pc cs ss : Nat) (a b : en_L) (st : List Value) (h : en_H) (q : Option Value × en_H), lv_le a b → en_run P tb cr n j (pc, a, st, h, cs, ss) = some q → en_run P tb cr n j (pc, b, st, h, cs, ss) = some q := by
  intro n
  induction n with
  | zero => intro j pc cs ss a b st h q _ hq; cases hq
  | succ n ih =>
    intro j pc cs ss a b st h q hab hq
    rw [en_run_s] at hq ⊢
    dsimp only at hq ⊢
    split at hq
    · cases hq
    · rename_i i len hI
      try rw [hI]
      try dsimp only
      split at hq
      · rename_i r2 hr2
        try rw [hr2]
        exact hq
      · rename_i hr2
        try rw [hr2]
        try dsimp only
        split at hq
        · rename_i kd j' as rest hcal
          try rw [hcal]
          try dsimp only
          split at hq
          · rename_i hc
            rw [if_pos hc]
            split at hq
            · rename_i r1 h1 hrun1
              try rw [hrun1]
              try dsimp only
              split at hq
              · rename_i hc2
                rw [if_pos hc2]
                exact ih _ _ _ _ _ _ _ _ _ hab hq
              · cases hq
            · cases hq
          · cases hq
        · rename_i hcal
          try rw [hcal]
          try dsimp only
          split at hq
          · rename_i S' hstp
            have key : ∃ b1, en_stp P tb cr j i len (pc, b, st, h, cs, ss) = some (S'.1, b1, S'.2.2) ∧ lv_le S'.2.1 b1 := by
              unfold en_stp at hstp ⊢
              dsimp only at hstp ⊢
              split at hstp
              · rename_i n0 st' ho
                try rw [ho]
                try dsimp only
                split at hstp
                · rename_i hn
                  cases hstp
                  rw [if_pos hn]
                  exact ⟨b, rfl, hab⟩
                · cases hstp
              · rename_i ho
                try rw [ho]
                try dsimp only
                split at hstp
                · rename_i pc' st' hb
                  cases hstp
                  try rw [hb]
                  exact ⟨b, rfl, hab⟩
                · rename_i hb
                  try rw [hb]
                  try dsimp only
                  split at hstp
                  · rename_i lv' st' hl
                    cases hstp
                    obtain ⟨b1, e1, e2⟩ := en_lo_le hab hl
                    rw [e1]
                    exact ⟨b1, rfl, e2⟩
                  · rename_i hl
                    split at hstp
                    · rename_i st' h2 cs' ss' ho2
                      cases hstp
                      have hl2 : en_lo i len b st = none := (en_x3 ho2 st).2.2 b |> fun z => z
                      rw [hl2]
                      try rw [ho2]
                      exact ⟨b, rfl, hab⟩
                    · cases hstp
            obtain ⟨b1, e1, e2⟩ := key
            obtain ⟨pc', lv', st', h1, cs', ss'⟩ := S'
            rw [e1]
            exact ih _ _ _ _ _ _ _ _ _ e2 hq
          · cases hq
theorem ev_wk {P : en_Pg} {tb : en_T} {cr : Nat → Nat} {j pc cs ss : Nat} {a b : en_L} {st : List Value} {h h' : en_H} {r : Option Value} (hab : lv_le a b) (k : en_Ev P tb cr j (pc, a, st, h, cs, ss) r h') : en_Ev P tb cr j (pc, b, st, h, cs, ss) r h' := by
  obtain ⟨n, hn⟩ := k
  exact ⟨n, en_run_wk n j pc cs ss a b st h _ hab hn⟩
