/-! rows for arrays -/
section EnRows
variable {P : en_Pg} {tb : en_T} {cr : Nat → Nat} {j : Nat} {r : Option Value} {h' g : en_H} {pc cs ss a n : Nat} {lv : en_L} {st : List Value} {f : Nat → Int32} {fl : Nat → Int64} {i : Int32}
theorem en_ai_get {t : Nat} (hc : g[a]? = some (.inl (t, n, .inl f))) (hb : en_bad i n = false) : en_ai tb t (.int i :: .ref a :: st) g = some (.int (f i.toNatClampNeg) :: st) := by
  unfold en_ai
  dsimp only
  rw [hc]
  dsimp only
  rw [if_pos (by rw [hb, Nat.beq_refl]; rfl)]
theorem en_si_put {t : Nat} {nar : Int32 → Int32} {x : Int32} (hc : g[a]? = some (.inl (t, n, .inl f))) (hb : en_bad i n = false) : en_si t nar (.int x :: .int i :: .ref a :: st) g = some (st, g.set a (.inl (t, n, .inl (upd f i.toNatClampNeg (nar x))))) := by
  unfold en_si
  dsimp only
  rw [hc]
  dsimp only
  rw [if_pos (by rw [hb, Nat.beq_refl]; rfl)]
theorem ev_iald (hI : en_pI P j pc = some (.iaload, 1)) (hc : g[a]? = some (.inl (0, n, .inl f))) (hb : en_bad i n = false) (k : en_Ev P tb cr j (pc + 1, lv, .int (f i.toNatClampNeg) :: st, g, cs, ss) r h') : en_Ev P tb cr j (pc, lv, .int i :: .ref a :: st, g, cs, ss) r h' := by
  refine ev_nx ?_ k
  unfold en_nx
  dsimp only
  rw [hI]
  show (match (if (1 : Nat) = 1 then en_up cs ss g (en_ai tb 0 (.int i :: .ref a :: st) g) else none) with
    | some (st', h', cs', ss') => some (pc + 1, lv, st', h', cs', ss')
    | none => none) = _
  rw [if_pos rfl, en_ai_get hc hb]
  rfl
theorem ev_bald (hI : en_pI P j pc = some (.baload, 1)) (hc : g[a]? = some (.inl (1, n, .inl f))) (hb : en_bad i n = false) (k : en_Ev P tb cr j (pc + 1, lv, .int (f i.toNatClampNeg) :: st, g, cs, ss) r h') : en_Ev P tb cr j (pc, lv, .int i :: .ref a :: st, g, cs, ss) r h' := by
  refine ev_nx ?_ k
  unfold en_nx
  dsimp only
  rw [hI]
  show (match (if (1 : Nat) = 1 then (match en_ai tb 1 (.int i :: .ref a :: st) g with
      | some r => some (r, g, cs, ss)
      | none => en_up cs ss g (en_ai tb 2 (.int i :: .ref a :: st) g)) else none) with
    | some (st', h', cs', ss') => some (pc + 1, lv, st', h', cs', ss')
    | none => none) = _
  rw [if_pos rfl, en_ai_get hc hb]
theorem ev_zald (hI : en_pI P j pc = some (.baload, 1)) (hc : g[a]? = some (.inl (2, n, .inl f))) (hb : en_bad i n = false) (k : en_Ev P tb cr j (pc + 1, lv, .int (f i.toNatClampNeg) :: st, g, cs, ss) r h') : en_Ev P tb cr j (pc, lv, .int i :: .ref a :: st, g, cs, ss) r h' := by
  refine ev_nx ?_ k
  unfold en_nx
  dsimp only
  rw [hI]
  show (match (if (1 : Nat) = 1 then (match en_ai tb 1 (.int i :: .ref a :: st) g with
      | some r => some (r, g, cs, ss)
      | none => en_up cs ss g (en_ai tb 2 (.int i :: .ref a :: st) g)) else none) with
    | some (st', h', cs', ss') => some (pc + 1, lv, st', h', cs', ss')
    | none => none) = _
  have z : en_ai tb 2 (.int i :: .ref a :: st) g = some (.int (f i.toNatClampNeg) :: st) := en_ai_get hc hb
  rw [if_pos rfl, en_ai21 z, z]
  rfl
theorem ev_lald (hI : en_pI P j pc = some (.laload, 1)) (hc : g[a]? = some (.inl (3, n, .inr (.inl fl)))) (hb : en_bad i n = false) (k : en_Ev P tb cr j (pc + 1, lv, .long (fl i.toNatClampNeg) :: st, g, cs, ss) r h') : en_Ev P tb cr j (pc, lv, .int i :: .ref a :: st, g, cs, ss) r h' := by
  refine ev_nx ?_ k
  unfold en_nx
  dsimp only
  rw [hI]
  show (match (if (1 : Nat) = 1 then en_up cs ss g (en_al (.int i :: .ref a :: st) g) else none) with
    | some (st', h', cs', ss') => some (pc + 1, lv, st', h', cs', ss')
    | none => none) = _
  have z : en_al (.int i :: .ref a :: st) g = some (.long (fl i.toNatClampNeg) :: st) := by
    unfold en_al
    dsimp only
    rw [hc]
    dsimp only
    rw [if_pos (by rw [hb]; rfl)]
  rw [if_pos rfl, z]
  rfl
theorem ev_iast {x : Int32} (hI : en_pI P j pc = some (.iastore, 1)) (hc : g[a]? = some (.inl (0, n, .inl f))) (hb : en_bad i n = false) (k : en_Ev P tb cr j (pc + 1, lv, st, g.set a (.inl (0, n, .inl (upd f i.toNatClampNeg x))), cs, ss) r h') : en_Ev P tb cr j (pc, lv, .int x :: .int i :: .ref a :: st, g, cs, ss) r h' := by
  refine ev_nx ?_ k
  unfold en_nx
  dsimp only
  rw [hI]
  show (match (if (1 : Nat) = 1 then en_uh cs ss (en_si 0 (fun x => x) (.int x :: .int i :: .ref a :: st) g) else none) with
    | some (st', h', cs', ss') => some (pc + 1, lv, st', h', cs', ss')
    | none => none) = _
  rw [if_pos rfl, en_si_put hc hb]
  rfl
theorem ev_bast {x : Int32} (hI : en_pI P j pc = some (.bastore, 1)) (hc : g[a]? = some (.inl (1, n, .inl f))) (hb : en_bad i n = false) (k : en_Ev P tb cr j (pc + 1, lv, st, g.set a (.inl (1, n, .inl (upd f i.toNatClampNeg (vp_nar .byte x)))), cs, ss) r h') : en_Ev P tb cr j (pc, lv, .int x :: .int i :: .ref a :: st, g, cs, ss) r h' := by
  refine ev_nx ?_ k
  unfold en_nx
  dsimp only
  rw [hI]
  show (match (if (1 : Nat) = 1 then (match en_si 1 (vp_nar .byte) (.int x :: .int i :: .ref a :: st) g with
      | some (r, h') => some (r, h', cs, ss)
      | none => en_uh cs ss (en_si 2 (vp_nar .boolean) (.int x :: .int i :: .ref a :: st) g)) else none) with
    | some (st', h', cs', ss') => some (pc + 1, lv, st', h', cs', ss')
    | none => none) = _
  rw [if_pos rfl, en_si_put hc hb]
theorem ev_zast {x : Int32} (hI : en_pI P j pc = some (.bastore, 1)) (hc : g[a]? = some (.inl (2, n, .inl f))) (hb : en_bad i n = false) (k : en_Ev P tb cr j (pc + 1, lv, st, g.set a (.inl (2, n, .inl (upd f i.toNatClampNeg (vp_nar .boolean x)))), cs, ss) r h') : en_Ev P tb cr j (pc, lv, .int x :: .int i :: .ref a :: st, g, cs, ss) r h' := by
  refine ev_nx ?_ k
  unfold en_nx
  dsimp only
  rw [hI]
  show (match (if (1 : Nat) = 1 then (match en_si 1 (vp_nar .byte) (.int x :: .int i :: .ref a :: st) g with
      | some (r, h') => some (r, h', cs, ss)
      | none => en_uh cs ss (en_si 2 (vp_nar .boolean) (.int x :: .int i :: .ref a :: st) g)) else none) with
    | some (st', h', cs', ss') => some (pc + 1, lv, st', h', cs', ss')
    | none => none) = _
  have z : en_si 2 (vp_nar .boolean) (.int x :: .int i :: .ref a :: st) g = some (st, g.set a (.inl (2, n, .inl (upd f i.toNatClampNeg (vp_nar .boolean x))))) := en_si_put hc hb
  rw [if_pos rfl, en_si21 z, z]
  rfl
theorem ev_last {x : Int64} (hI : en_pI P j pc = some (.lastore, 1)) (hc : g[a]? = some (.inl (3, n, .inr (.inl fl)))) (hb : en_bad i n = false) (k : en_Ev P tb cr j (pc + 1, lv, st, g.set a (.inl (3, n, .inr (.inl (vp_updL fl i.toNatClampNeg x)))), cs, ss) r h') : en_Ev P tb cr j (pc, lv, .long x :: .int i :: .ref a :: st, g, cs, ss) r h' := by
  refine ev_nx ?_ k
  unfold en_nx
  dsimp only
  rw [hI]
  show (match (if (1 : Nat) = 1 then en_uh cs ss (en_sl (.long x :: .int i :: .ref a :: st) g) else none) with
    | some (st', h', cs', ss') => some (pc + 1, lv, st', h', cs', ss')
    | none => none) = _
  have z : en_sl (.long x :: .int i :: .ref a :: st) g = some (st, g.set a (.inl (3, n, .inr (.inl (vp_updL fl i.toNatClampNeg x))))) := by
    unfold en_sl
    dsimp only
    rw [hc]
    dsimp only
    rw [if_pos (by rw [hb]; rfl)]
  rw [if_pos rfl, z]
  rfl
theorem en_bad_of {i : Int32} {n : Nat} (h0 : ¬ i < 0) (h1 : i.toNatClampNeg < n) : en_bad i n = false := by
  unfold en_bad
  rw [Bool.or_eq_false_iff]
  refine ⟨decide_eq_false h0, ?_⟩
  cases hz : Nat.ble n i.toNatClampNeg
  · rfl
  · exact absurd (Nat.le_of_ble_eq_true hz) (Nat.not_le.mpr h1)
theorem en_bad_nI {k n : Nat} (h : k < n) (hn : n < 2 ^ 31) : en_bad (nI k) n = false := en_bad_of (nI_pos (Nat.lt_trans h hn)) (by rw [nI_clamp (Nat.lt_trans h hn)]; exact h)
end EnRows
