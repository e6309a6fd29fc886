section EnFx
variable {σ : Nat → Nat} {P : en_Pg} {tb : en_T} {cr : Nat → Nat} {j : Nat} {st st' : List Value} {g g' h : en_H}
theorem en_ai21 (hq : en_ai tb 2 st h = some st') : en_ai tb 1 st h = none := by
  unfold en_ai at hq ⊢
  split at hq
  · rename_i i a r
    try dsimp only
    split at hq
    · rename_i t' n f he
      try rw [he]
      try dsimp only
      split at hq
      · rename_i hc
        rw [Bool.and_eq_true] at hc
        have ht := Nat.eq_of_beq_eq_true hc.1
        subst ht
        rw [if_neg (fun z => by rw [Bool.and_eq_true] at z; cases z.1)]
      · cases hq
    · cases hq
    · split at hq
      · cases hq
      · rename_i hab
        exact absurd (Or.inr (by decide)) hab
  · cases hq
theorem en_si21 {n1 n2 : Int32 → Int32} {q : List Value × en_H} (hq : en_si 2 n2 st h = some q) : en_si 1 n1 st h = none := by
  unfold en_si at hq ⊢
  split at hq
  · rename_i v i a r
    try dsimp only
    split at hq
    · rename_i t' n f he
      try rw [he]
      try dsimp only
      split at hq
      · rename_i hc
        rw [Bool.and_eq_true] at hc
        have ht := Nat.eq_of_beq_eq_true hc.1
        subst ht
        rw [if_neg (fun z => by rw [Bool.and_eq_true] at z; cases z.1)]
      · cases hq
    · cases hq
  · cases hq
set_option maxHeartbeats 8000000 in
theorem en_hp_fr {i : Instr} {len cs ss cs' ss' : Nat} (hmc : en_mc P j = 0) (hE : en_Em σ g h) (hq : en_hp P tb cr j i len st g cs ss = some (st', g', cs', ss')) : ∃ h', en_hp P tb cr j i len (st.map (en_v σ)) h cs ss = some (st'.map (en_v σ), h', cs', ss') ∧ en_Em σ g' h' ∧ en_Kp σ g h h' ∧ g'.length = g.length := by
  cases i with
  | getfield x =>
    unfold en_hp at hq ⊢
    dsimp only at hq ⊢
    split at hq
    · rename_i hl
      obtain ⟨hq2, rfl, rfl, rfl⟩ := en_up_ok hq
      rw [if_pos hl, en_gf_fr hE hq2]
      exact ⟨h, rfl, hE, en_Kp.rf, rfl⟩
    · cases hq
  | putfield x =>
    unfold en_hp at hq ⊢
    dsimp only at hq ⊢
    split at hq
    · rename_i hl
      obtain ⟨hq2, rfl, rfl⟩ := en_uh_ok hq
      obtain ⟨h', e1, e2, e3, e4⟩ := en_pf_fr hE hq2
      rw [if_pos hl, e1]
      exact ⟨h', rfl, e2, e3, e4⟩
    · cases hq
  | iaload =>
    unfold en_hp at hq ⊢
    dsimp only at hq ⊢
    split at hq
    · rename_i hl
      obtain ⟨hq2, rfl, rfl, rfl⟩ := en_up_ok hq
      rw [if_pos hl, en_ai_fr hE hq2]
      exact ⟨h, rfl, hE, en_Kp.rf, rfl⟩
    · cases hq
  | baload =>
    unfold en_hp at hq ⊢
    dsimp only at hq ⊢
    split at hq
    · rename_i hl
      rw [if_pos hl]
      split at hq
      · rename_i r hr
        cases hq
        rw [en_ai_fr hE hr]
        exact ⟨h, rfl, hE, en_Kp.rf, rfl⟩
      · obtain ⟨hq2, rfl, rfl, rfl⟩ := en_up_ok hq
        have z := en_ai_fr hE hq2
        rw [en_ai21 z, z]
        exact ⟨h, rfl, hE, en_Kp.rf, rfl⟩
    · cases hq
  | laload =>
    unfold en_hp at hq ⊢
    dsimp only at hq ⊢
    split at hq
    · rename_i hl
      obtain ⟨hq2, rfl, rfl, rfl⟩ := en_up_ok hq
      rw [if_pos hl, en_al_fr hE hq2]
      exact ⟨h, rfl, hE, en_Kp.rf, rfl⟩
    · cases hq
  | aaload =>
    unfold en_hp at hq ⊢
    dsimp only at hq ⊢
    split at hq
    · rename_i hl
      obtain ⟨hq2, rfl, rfl, rfl⟩ := en_up_ok hq
      rw [if_pos hl, en_aa_fr hE hq2]
      exact ⟨h, rfl, hE, en_Kp.rf, rfl⟩
    · cases hq
  | iastore =>
    unfold en_hp at hq ⊢
    dsimp only at hq ⊢
    split at hq
    · rename_i hl
      obtain ⟨hq2, rfl, rfl⟩ := en_uh_ok hq
      obtain ⟨h', e1, e2, e3, e4⟩ := en_si_fr hE hq2
      rw [if_pos hl, e1]
      exact ⟨h', rfl, e2, e3, e4⟩
    · cases hq
  | bastore =>
    unfold en_hp at hq ⊢
    dsimp only at hq ⊢
    split at hq
    · rename_i hl
      rw [if_pos hl]
      split at hq
      · rename_i r h2 hr
        cases hq
        obtain ⟨h', e1, e2, e3, e4⟩ := en_si_fr hE hr
        rw [e1]
        exact ⟨h', rfl, e2, e3, e4⟩
      · obtain ⟨hq2, rfl, rfl⟩ := en_uh_ok hq
        obtain ⟨h', e1, e2, e3, e4⟩ := en_si_fr hE hq2
        rw [en_si21 e1, e1]
        exact ⟨h', rfl, e2, e3, e4⟩
    · cases hq
  | lastore =>
    unfold en_hp at hq ⊢
    dsimp only at hq ⊢
    split at hq
    · rename_i hl
      obtain ⟨hq2, rfl, rfl⟩ := en_uh_ok hq
      obtain ⟨h', e1, e2, e3, e4⟩ := en_sl_fr hE hq2
      rw [if_pos hl, e1]
      exact ⟨h', rfl, e2, e3, e4⟩
    · cases hq
  | aastore =>
    unfold en_hp at hq ⊢
    dsimp only at hq ⊢
    split at hq
    · rename_i hl
      obtain ⟨hq2, rfl, rfl⟩ := en_uh_ok hq
      obtain ⟨h', e1, e2, e3, e4⟩ := en_sa_fr hE hq2
      rw [if_pos hl, e1]
      exact ⟨h', rfl, e2, e3, e4⟩
    · cases hq
  | arraylength =>
    unfold en_hp at hq ⊢
    dsimp only at hq ⊢
    split at hq
    · rename_i hl
      obtain ⟨hq2, rfl, rfl, rfl⟩ := en_up_ok hq
      rw [if_pos hl, en_len_fr hE hq2]
      exact ⟨h, rfl, hE, en_Kp.rf, rfl⟩
    · cases hq
  | getstatic x =>
    unfold en_hp at hq ⊢
    dsimp only at hq ⊢
    split at hq
    · rename_i hl
      rw [if_pos hl]
      split at hq
      · rename_i k hk
        cases hq
        try rw [hk]
        refine ⟨h, ?_, hE, en_Kp.rf, rfl⟩
        show some (Value.ref (en_b + k) :: st.map (en_v σ), h, cs, ss) = some (Value.ref (σ (en_b + k)) :: st.map (en_v σ), h, cs, ss)
        rw [hE.2.2.1]
      · cases hq
    · cases hq
  | ldc x =>
    unfold en_hp at hq ⊢
    dsimp only at hq ⊢
    split at hq
    · rename_i hl
      rw [if_pos hl]
      split at hq
      · rename_i v hk
        cases hq
        try rw [hk]
        exact ⟨h, rfl, hE, en_Kp.rf, rfl⟩
      · cases hq
    · cases hq
  | ldc_w x =>
    unfold en_hp at hq ⊢
    dsimp only at hq ⊢
    split at hq
    · rename_i hl
      rw [if_pos hl]
      split at hq
      · rename_i v hk
        cases hq
        try rw [hk]
        exact ⟨h, rfl, hE, en_Kp.rf, rfl⟩
      · cases hq
    · cases hq
  | ldc2_w x =>
    unfold en_hp at hq ⊢
    dsimp only at hq ⊢
    split at hq
    · rename_i hl
      rw [if_pos hl]
      split at hq
      · rename_i v hk
        cases hq
        try rw [hk]
        exact ⟨h, rfl, hE, en_Kp.rf, rfl⟩
      · cases hq
    · cases hq
  | new x =>
    unfold en_hp at hq
    dsimp only at hq
    split at hq
    · unfold en_new at hq
      split at hq
      · split at hq
        · rename_i hc
          have := hc.1
          omega
        · cases hq
      · cases hq
    · cases hq
  | newarray x =>
    unfold en_hp at hq
    dsimp only at hq
    split at hq
    · unfold en_nar at hq
      split at hq
      · split at hq
        · split at hq
          · rename_i hc
            have := hc.2.2.1
            omega
          · cases hq
        · cases hq
      · cases hq
    · cases hq
  | anewarray x =>
    unfold en_hp at hq
    dsimp only at hq
    split at hq
    · unfold en_naq at hq
      split at hq
      · split at hq
        · split at hq
          · rename_i hc
            have := hc.2.2.2.1
            omega
          · cases hq
        · cases hq
      · cases hq
    · cases hq
  | invokespecial x =>
    unfold en_hp at hq ⊢
    dsimp only at hq ⊢
    split at hq
    · rename_i hl
      obtain ⟨hq2, rfl, rfl, rfl⟩ := en_up_ok hq
      rw [if_pos hl, en_obj_fr hq2]
      exact ⟨h, rfl, hE, en_Kp.rf, rfl⟩
    · cases hq
  | invokestatic x =>
    unfold en_hp at hq ⊢
    dsimp only at hq ⊢
    split at hq
    · rename_i hl
      rw [if_pos hl]
      split at hq
      · rename_i hm
        try rw [hm]
        try dsimp only
        obtain ⟨hq2, rfl, rfl⟩ := en_uh_ok hq
        obtain ⟨h', e1, e2, e3, e4⟩ := en_cpy_fr hE hq2
        rw [e1]
        exact ⟨h', rfl, e2, e3, e4⟩
      · rename_i kd hm
        try rw [hm]
        try dsimp only
        obtain ⟨hq2, rfl, rfl, rfl⟩ := en_up_ok hq
        rw [en_mth_fr hq2]
        exact ⟨h, rfl, hE, en_Kp.rf, rfl⟩
      · cases hq
    · cases hq
  | _ => cases hq
theorem en_ent_fr (ml : Nat) (as : List Value) : en_ent ml (as.map (en_v σ)) = en_L2 σ (en_ent ml as) ∧ (en_ent1 (as.map (en_v σ))).length = (en_ent1 as).length := by
  have h1 : ∀ as : List Value, en_ent1 (as.map (en_v σ)) = en_L2 σ (en_ent1 as) := by
    intro as
    induction as with
    | nil => rfl
    | cons v vs ih =>
      show (if (en_v σ v).category = 2 then some (en_v σ v) :: none :: en_ent1 (vs.map (en_v σ)) else some (en_v σ v) :: en_ent1 (vs.map (en_v σ))) = en_L2 σ (if v.category = 2 then some v :: none :: en_ent1 vs else some v :: en_ent1 vs)
      rw [en_v_cat, ih]
      by_cases hc : v.category = 2
      · rw [if_pos hc, if_pos hc]; rfl
      · rw [if_neg hc, if_neg hc]; rfl
  have h2 : (en_ent1 (as.map (en_v σ))).length = (en_ent1 as).length := by rw [h1, en_L2_len]
  refine ⟨?_, h2⟩
  unfold en_ent
  rw [h2, h1]
  unfold en_L2
  rw [List.map_append, List.map_replicate]
  rfl
theorem en_cal_fr {i : Instr} {len kd j' : Nat} {as rest : List Value} (hE : en_Em σ g h) (hq : en_cal P j i len st g = some (kd, j', as, rest)) : en_cal P j i len (st.map (en_v σ)) h = some (kd, j', as.map (en_v σ), rest.map (en_v σ)) := by
  cases i with
  | invokestatic x =>
    unfold en_cal at hq ⊢
    dsimp only at hq ⊢
    split at hq
    · rename_i hl
      rw [if_pos hl]
      split at hq
      · rename_i j2 hm
        try rw [hm]
        try dsimp only
        rw [List.length_map]
        split at hq
        · rename_i hn
          cases hq
          rw [if_pos hn, List.map_reverse, List.map_take, List.map_drop]
        · cases hq
      · cases hq
    · cases hq
  | invokevirtual x =>
    unfold en_cal at hq ⊢
    dsimp only at hq ⊢
    split at hq
    · rename_i hl
      rw [if_pos hl]
      split at hq
      · rename_i j2 hm
        try rw [hm]
        try dsimp only
        split at hq
        · rename_i b r hd
          have hd2 : (st.map (en_v σ)).drop (en_na P j2) = .ref (σ b) :: r.map (en_v σ) := by rw [← List.map_drop, hd]; rfl
          rw [hd2]
          try dsimp only
          split at hq
          · rename_i ci fs he
            have he2 : h[σ b]? = some (.inr (ci, fs.map (en_v σ))) := hE.1 b _ he
            rw [he2]
            try dsimp only
            split at hq
            · rename_i hc
              cases hq
              rw [if_pos hc, List.map_cons, List.map_reverse, List.map_take]
              rfl
            · cases hq
          · cases hq
        · cases hq
      · cases hq
    · cases hq
  | invokespecial x =>
    unfold en_cal at hq ⊢
    dsimp only at hq ⊢
    split at hq
    · rename_i hl
      rw [if_pos hl]
      split at hq
      · rename_i k2 j2 hm
        try rw [hm]
        try dsimp only
        split at hq
        · rename_i hk
          rw [if_pos hk]
          split at hq
          · rename_i b r hd
            have hd2 : (st.map (en_v σ)).drop (en_na P j2) = .ref (σ b) :: r.map (en_v σ) := by rw [← List.map_drop, hd]; rfl
            rw [hd2]
            cases hq
            try dsimp only
            rw [List.map_cons, List.map_reverse, List.map_take]
            rfl
          · cases hq
        · cases hq
      · cases hq
    · cases hq
  | _ => cases hq
theorem en_ret_fr {i : Instr} {len cs ss : Nat} {r : Option Value} (hq : en_ret P j i len st cs ss = some r) : en_ret P j i len (st.map (en_v σ)) cs ss = some (r.map (en_v σ)) := by
  unfold en_ret at hq
  split at hq
  · split at hq
    · split at hq
      · rename_i hc
        cases hq
        show (if _ then _ else _) = _
        rw [if_pos hc]; rfl
      · cases hq
    · cases hq
  · split at hq
    · split at hq
      · rename_i ty hty
        split at hq
        · rename_i hc
          cases hq
          simp only [en_ret, List.map_cons, List.map_nil, en_v, hty, if_pos hc]
          rfl
        · cases hq
      · cases hq
    · cases hq
  · split at hq
    · split at hq
      · rename_i hc
        cases hq
        simp only [en_ret, List.map_cons, List.map_nil, en_v, if_pos hc]
        rfl
      · cases hq
    · cases hq
  · cases hq
end EnFx
