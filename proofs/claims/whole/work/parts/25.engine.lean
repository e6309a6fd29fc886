/-! a step, a call, a return, a run -/
def en_ret (P : en_Pg) (j : Nat) (i : Instr) (len : Nat) (st : List Value) (cs ss : Nat) : Option (Option Value) := match i with
  | .return_ => match st with
    | [] => if (Nat.beq len 1 && (Nat.ble cs (en_mc P j) && Nat.ble ss (en_ms P j))) = true ∧ en_rt P j = none then some none else none
    | _ => none
  | .ireturn => match st with
    | [.int v] => match en_rt P j with
      | some ty => if (Nat.beq len 1 && (Nat.ble cs (en_mc P j) && (Nat.ble ss (en_ms P j) && en_nf ty (.int v)))) = true then some (some (.int v)) else none
      | none => none
    | _ => none
  | .lreturn => match st with
    | [.long v] => if (Nat.beq len 1 && (Nat.ble cs (en_mc P j) && Nat.ble ss (en_ms P j))) = true ∧ en_rt P j = some .long then some (some (.long v)) else none
    | _ => none
  | _ => none
/-- a call fits: frames, words, cells, slots, the caller's stack -/
def en_fit (P : en_Pg) (j j' : Nat) (rest : List Value) (cs ss : Nat) : Bool := Nat.ble ((en_rm P j').frames + 1) (en_rm P j).frames && (Nat.ble (8 + (en_ml P j' + 11) + (en_rm P j').locals) (en_rm P j).locals && (Nat.ble (cs + en_mc P j') (en_mc P j) && (Nat.ble (ss + en_ms P j') (en_ms P j) && Nat.ble (en_ws rest) 8)))
theorem en_fit_ok {P : en_Pg} {j j' cs ss : Nat} {rest : List Value} (h : en_fit P j j' rest cs ss = true) : ((en_rm P j').frames + 1 ≤ (en_rm P j).frames ∧ 8 + (en_ml P j' + 11) + (en_rm P j').locals ≤ (en_rm P j).locals) ∧ (cs + en_mc P j' ≤ en_mc P j ∧ ss + en_ms P j' ≤ en_ms P j) ∧ en_ws rest ≤ 8 := by
  unfold en_fit at h
  simp only [Bool.and_eq_true] at h
  obtain ⟨h1, h2, h3, h4, h5⟩ := h
  exact ⟨⟨Nat.le_of_ble_eq_true h1, Nat.le_of_ble_eq_true h2⟩, ⟨Nat.le_of_ble_eq_true h3, Nat.le_of_ble_eq_true h4⟩, Nat.le_of_ble_eq_true h5⟩
/-- who is called, with what, and what is left on the stack; 0 static, 1 virtual, 2, 3 constructors -/
def en_cal (P : en_Pg) (j : Nat) (i : Instr) (len : Nat) (st : List Value) (h : en_H) : Option (Nat × Nat × List Value × List Value) := match i with
  | .invokestatic x => if len = 3 then (match en_pM P j x with
    | some (0, j') => if en_na P j' ≤ st.length then some (0, j', (st.take (en_na P j')).reverse, st.drop (en_na P j')) else none
    | _ => none) else none
  | .invokevirtual x => if len = 3 then (match en_pM P j x with
    | some (1, j') => match st.drop (en_na P j') with
      | .ref b :: r => match h[b]? with
        | some (.inr (ci, _)) => if ci = en_oc P j' then some (1, j', .ref b :: (st.take (en_na P j')).reverse, r) else none
        | _ => none
      | _ => none
    | _ => none) else none
  | .invokespecial x => if len = 3 then (match en_pM P j x with
    | some (kd, j') => if kd = 2 ∨ kd = 3 then (match st.drop (en_na P j') with
      | .ref b :: r => some (kd, j', .ref b :: (st.take (en_na P j')).reverse, r)
      | _ => none) else none
    | _ => none) else none
  | _ => none
def en_ent1 : List Value → en_L
  | [] => []
  | v :: vs => if v.category = 2 then some v :: none :: en_ent1 vs else some v :: en_ent1 vs
def en_ent (ml : Nat) (as : List Value) : en_L := en_ent1 as ++ List.replicate (ml - (en_ent1 as).length) none
def en_stp (P : en_Pg) (tb : en_T) (cr : Nat → Nat) (j : Nat) (i : Instr) (len : Nat) (S : en_S) : Option en_S := match en_op i S.2.2.1 with
  | some (n, st') => if n = len then some (S.1 + len, S.2.1, st', S.2.2.2) else none
  | none => match en_br i len S.1 S.2.2.1 with
    | some (pc', st') => some (pc', S.2.1, st', S.2.2.2)
    | none => match en_lo i len S.2.1 S.2.2.1 with
      | some (lv', st') => some (S.1 + len, lv', st', S.2.2.2)
      | none => match en_hp P tb cr j i len S.2.2.1 S.2.2.2.1 S.2.2.2.2.1 S.2.2.2.2.2 with
        | some (st', h', cs', ss') => some (S.1 + len, S.2.1, st', h', cs', ss')
        | none => none
def en_run (P : en_Pg) (tb : en_T) (cr : Nat → Nat) (n : Nat) : Nat → en_S → Option (Option Value × en_H) := Nat.rec (motive := fun _ => Nat → en_S → Option (Option Value × en_H)) (fun _ _ => none) (fun _ ih j S => match en_pI P j S.1 with
  | none => none
  | some (i, len) => match en_ret P j i len S.2.2.1 S.2.2.2.2.1 S.2.2.2.2.2 with
    | some r => some (r, S.2.2.2.1)
    | none => match en_cal P j i len S.2.2.1 S.2.2.2.1 with
      | some (_, j', as, rest) => if en_fit P j j' rest S.2.2.2.2.1 S.2.2.2.2.2 = true ∧ (en_ent1 as).length ≤ en_ml P j' then (match ih j' (0, en_ent (en_ml P j') as, [], S.2.2.2.1, 0, 0) with
        | some (r, h') => if h'.length = S.2.2.2.1.length + en_mc P j' ∧ h'.length ≤ en_b then ih j (S.1 + 3, S.2.1, r.toList ++ rest, h', S.2.2.2.2.1 + en_mc P j', S.2.2.2.2.2 + en_ms P j') else none
        | none => none) else none
      | none => match en_stp P tb cr j i len S with
        | some S' => ih j S'
        | none => none) n
theorem en_run_s {P : en_Pg} {tb : en_T} {cr : Nat → Nat} (n j : Nat) (S : en_S) : en_run P tb cr (n + 1) j S = match en_pI P j S.1 with
  | none => none
  | some (i, len) => match en_ret P j i len S.2.2.1 S.2.2.2.2.1 S.2.2.2.2.2 with
    | some r => some (r, S.2.2.2.1)
    | none => match en_cal P j i len S.2.2.1 S.2.2.2.1 with
      | some (_, j', as, rest) => if en_fit P j j' rest S.2.2.2.2.1 S.2.2.2.2.2 = true ∧ (en_ent1 as).length ≤ en_ml P j' then (match en_run P tb cr n j' (0, en_ent (en_ml P j') as, [], S.2.2.2.1, 0, 0) with
        | some (r, h') => if h'.length = S.2.2.2.1.length + en_mc P j' ∧ h'.length ≤ en_b then en_run P tb cr n j (S.1 + 3, S.2.1, r.toList ++ rest, h', S.2.2.2.2.1 + en_mc P j', S.2.2.2.2.2 + en_ms P j') else none
        | none => none) else none
      | none => match en_stp P tb cr j i len S with
        | some S' => en_run P tb cr n j S'
        | none => none := rfl
/-! entry -/
theorem en_ent_len {ml : Nat} {as : List Value} (h : (en_ent1 as).length ≤ ml) : (en_ent ml as).length = ml := by
  unfold en_ent
  rw [List.length_append, List.length_replicate]
  omega
theorem en_ent1_len (ad : Nat → Nat) : ∀ as : List Value, (lg_sl (as.map (en_v ad))).length = (en_ent1 as).length
  | [] => rfl
  | v :: vs => by
    have ih := en_ent1_len ad vs
    unfold lg_sl at ih ⊢
    rw [List.map_cons, List.flatMap_cons, List.length_append, ih]
    show _ = (if v.category = 2 then some v :: none :: en_ent1 vs else some v :: en_ent1 vs : en_L).length
    rw [en_v_cat]
    by_cases hc : v.category = 2
    · rw [if_pos hc, if_pos hc]
      simp only [List.length_cons, List.length_nil]
      omega
    · rw [if_neg hc, if_neg hc]
      simp only [List.length_cons, List.length_nil]
      omega
theorem en_ent1_at (ad : Nat → Nat) : ∀ (as : List Value) (o i : Nat) (v : Value), (en_ent1 as)[i]? = some (some v) → (o + i, en_v ad v) ∈ lv_args o (as.map (en_v ad))
  | [], o, i, v, h => by simp [en_ent1] at h
  | w :: vs, o, i, v, h => by
    unfold en_ent1 at h
    rw [List.map_cons]
    unfold lv_args
    rw [en_v_cat]
    by_cases hc : w.category = 2
    · rw [if_pos hc] at h
      rw [if_pos hc]
      match i, h with
      | 0, h =>
        rw [List.getElem?_cons_zero] at h
        cases h
        exact List.mem_cons_self
      | 1, h => simp at h
      | i + 2, h =>
        have h2 : (en_ent1 vs)[i]? = some (some v) := h
        have := en_ent1_at ad vs (o + 2) i v h2
        rw [show o + (i + 2) = o + 2 + i by omega]
        exact List.mem_cons_of_mem _ this
    · rw [if_neg hc] at h
      rw [if_neg hc]
      match i, h with
      | 0, h =>
        rw [List.getElem?_cons_zero] at h
        cases h
        exact List.mem_cons_self
      | i + 1, h =>
        have h2 : (en_ent1 vs)[i]? = some (some v) := h
        have := en_ent1_at ad vs (o + 1) i v h2
        rw [show o + (i + 1) = o + 1 + i by omega]
        exact List.mem_cons_of_mem _ this
theorem en_ent_has {ad : Nat → Nat} {ml : Nat} {as : List Value} (h : (en_ent1 as).length ≤ ml) : en_has ad ((lg_sl (as.map (en_v ad)) ++ List.replicate (ml - (lg_sl (as.map (en_v ad))).length) Slot.unset).toArray) (en_ent ml as) := by
  have hl := lv_entry (as.map (en_v ad)) (n := ml) (by rw [en_ent1_len]; exact h)
  refine ⟨by rw [en_ent_len h]; exact hl.1, hl.2.1, fun i v hi => ?_⟩
  unfold en_ent at hi
  by_cases hc : i < (en_ent1 as).length
  · rw [List.getElem?_append_left hc] at hi
    have := hl.2.2 _ (en_ent1_at ad as 0 i v hi)
    rw [Nat.zero_add] at this
    exact this
  · rw [List.getElem?_append_right (by omega)] at hi
    have := List.eq_of_mem_replicate (List.mem_of_getElem? hi)
    cases this
