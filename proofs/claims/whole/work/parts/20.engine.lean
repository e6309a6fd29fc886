/-! THE ENGINE (our own): a small machine over abstract cells, whose runs are runs of the JVM's. A value's '.ref k' names the k-th cell of an abstract heap (k below en_b), or the static array k - en_b. -/
abbrev en_L : Type := List (Option Value)
abbrev en_H : Type := List va_E
/-- pc, locals, stack, heap, cells made, slots made -/
abbrev en_S : Type := Nat × en_L × List Value × en_H × Nat × Nat
/-- static arrays of ints: how long, what they hold -/
abbrev en_T : Type := Nat → Option (Nat × (Nat → Int32))
def en_b : Nat := 1048576
def en_v (ad : Nat → Nat) (v : Value) : Value := match v with
  | .ref k => .ref (ad k)
  | .int x => .int x
  | .long x => .long x
  | .float x => .float x
  | .double x => .double x
  | .null => .null
  | .retAddr x => .retAddr x
theorem en_v_cat (ad : Nat → Nat) (v : Value) : (en_v ad v).category = v.category := by cases v <;> rfl
def en_e (ad : Nat → Nat) (ac : Nat → ClassId) (e : va_E) : va_E := match e with
  | .inl (t, n, .inl f) => .inl (ac t, n, .inl f)
  | .inl (t, n, .inr (.inl f)) => .inl (ac t, n, .inr (.inl f))
  | .inl (t, n, .inr (.inr (.inl f))) => .inl (ac t, n, .inr (.inr (.inl f)))
  | .inl (t, n, .inr (.inr (.inr (.inl f)))) => .inl (ac t, n, .inr (.inr (.inr (.inl f))))
  | .inl (t, n, .inr (.inr (.inr (.inr f)))) => .inl (ac t, n, .inr (.inr (.inr (.inr (fun i => (f i).map ad)))))
  | .inr (ci, fs) => .inr (ci, fs.map (en_v ad))
def en_w (ad : Nat → Nat) (ac : Nat → ClassId) (h : en_H) : va_W := h.mapIdx (fun k e => (ad k, en_e ad ac e))
theorem en_w_at {ad : Nat → Nat} {ac : Nat → ClassId} {h : en_H} {k : Nat} {e : va_E} (he : h[k]? = some e) : (en_w ad ac h)[k]? = some (ad k, en_e ad ac e) := by
  unfold en_w
  rw [List.getElem?_mapIdx, he]
  rfl
theorem en_w_set {ad : Nat → Nat} {ac : Nat → ClassId} {h : en_H} {k : Nat} {e : va_E} : en_w ad ac (h.set k e) = (en_w ad ac h).set k (ad k, en_e ad ac e) := by
  apply List.ext_getElem?
  intro i
  unfold en_w
  by_cases hi : i = k
  · subst hi
    by_cases hl : i < h.length
    · rw [List.getElem?_mapIdx, List.getElem?_set_self hl, List.getElem?_set_self (by rw [List.length_mapIdx]; exact hl)]
      rfl
    · rw [List.getElem?_eq_none (by rw [List.length_mapIdx, List.length_set]; omega), List.getElem?_eq_none (by rw [List.length_set, List.length_mapIdx]; omega)]
  · rw [List.getElem?_mapIdx, List.getElem?_set_ne (fun q => hi q.symm), List.getElem?_set_ne (fun q => hi q.symm), List.getElem?_mapIdx]
theorem en_w_push {ad : Nat → Nat} {ac : Nat → ClassId} {h : en_H} {e : va_E} : en_w ad ac (h ++ [e]) = en_w ad ac h ++ [(ad h.length, en_e ad ac e)] := by
  unfold en_w
  rw [List.mapIdx_append]
  simp
theorem en_w_len {ad : Nat → Nat} {ac : Nat → ClassId} {h : en_H} : (en_w ad ac h).length = h.length := by
  unfold en_w
  rw [List.length_mapIdx]
/-- the locals hold what the list tells -/
def en_has (ad : Nat → Nat) (ls : Array Slot) (lv : en_L) : Prop := ls.size = lv.length ∧ lv_wf ls ∧ ∀ (i : Nat) (v : Value), lv[i]? = some (some v) → ls[i]? = some (.val (en_v ad v))
def en_pl (ad : Nat → Nat) (lv : en_L) : List (Nat × Value) := (List.range lv.length).filterMap (fun i => match lv[i]? with
  | some (some v) => some (i, en_v ad v)
  | _ => none)
theorem en_pl_in {ad : Nat → Nat} {lv : en_L} {i : Nat} {v : Value} (h : lv[i]? = some (some v)) : (i, en_v ad v) ∈ en_pl ad lv := by
  unfold en_pl
  refine List.mem_filterMap.mpr ⟨i, List.mem_range.mpr (List.getElem?_eq_some_iff.mp h).1, ?_⟩
  rw [h]
theorem en_has.lv {ad : Nat → Nat} {ls : Array Slot} {lv : en_L} (h : en_has ad ls lv) : lv_has ls lv.length (en_pl ad lv) := by
  refine ⟨h.1, h.2.1, fun q hq => ?_⟩
  unfold en_pl at hq
  obtain ⟨i, -, hi⟩ := List.mem_filterMap.mp hq
  split at hi
  · rename_i v hv
    cases hi
    exact h.2.2 i v hv
  · cases hi
/-- what a store leaves -/
def en_cl (lv : en_L) (i : Nat) : en_L := match i with
  | 0 => lv
  | j + 1 => match lv[j]? with
    | some (some w) => if w.category = 2 then lv.set j none else lv
    | _ => lv
def en_st1 (lv : en_L) (i : Nat) (v : Value) : en_L := (en_cl lv i).set i (some v)
def en_st2 (lv : en_L) (i : Nat) (v : Value) : en_L := ((en_cl lv i).set i (some v)).set (i + 1) none
theorem en_cl_len (lv : en_L) (i : Nat) : (en_cl lv i).length = lv.length := by
  unfold en_cl
  split
  · rfl
  · split
    · split
      · rw [List.length_set]
      · rfl
    · rfl
theorem en_cl_at {lv : en_L} {i k : Nat} {v : Value} (h : (en_cl lv i)[k]? = some (some v)) : lv[k]? = some (some v) ∧ ¬ (k + 1 = i ∧ v.category = 2) := by
  unfold en_cl at h
  split at h
  · exact ⟨h, fun q => by omega⟩
  · rename_i j
    split at h
    · rename_i w hw
      split at h
      · rename_i hc
        by_cases hk : k = j
        · subst hk
          rw [List.getElem?_set_self (List.getElem?_eq_some_iff.mp hw).1] at h
          cases h
        · rw [List.getElem?_set_ne (fun q => hk q.symm)] at h
          exact ⟨h, fun q => hk (by omega)⟩
      · rename_i hc
        refine ⟨h, fun q => ?_⟩
        have : k = j := by omega
        subst this
        rw [hw] at h
        cases h
        exact hc q.2
    · rename_i hn
      refine ⟨h, fun q => ?_⟩
      have : k = j := by omega
      subst this
      exact hn v h
theorem en_has_st1 {ad : Nat → Nat} {ls : Array Slot} {lv : en_L} {i : Nat} {v : Value} (hi : i < lv.length) (h : lv_has ls lv.length ((i, en_v ad v) :: (en_pl ad lv).filter (fun q => !(q.1 == i) && !(q.1 + 1 == i && q.2.category == 2)))) : en_has ad ls (en_st1 lv i v) := by
  refine ⟨by unfold en_st1; rw [List.length_set, en_cl_len]; exact h.1, h.2.1, fun k w hk => ?_⟩
  unfold en_st1 at hk
  by_cases hki : k = i
  · subst hki
    rw [List.getElem?_set_self (by rw [en_cl_len]; exact hi)] at hk
    cases hk
    exact h.2.2 _ List.mem_cons_self
  · rw [List.getElem?_set_ne (fun q => hki q.symm)] at hk
    obtain ⟨h1, h2⟩ := en_cl_at hk
    refine h.2.2 (k, en_v ad w) (List.mem_cons_of_mem _ (List.mem_filter.mpr ⟨en_pl_in h1, ?_⟩))
    simp only [Bool.and_eq_true, Bool.not_eq_true', beq_eq_false_iff_ne, ne_eq, Bool.and_eq_false_iff, en_v_cat]
    refine ⟨hki, ?_⟩
    by_cases hz : k + 1 = i
    · exact Or.inr (fun q => h2 ⟨hz, q⟩)
    · exact Or.inl hz
theorem en_has_st2 {ad : Nat → Nat} {ls : Array Slot} {lv : en_L} {i : Nat} {v : Value} (hi : i + 1 < lv.length) (h : lv_has ls lv.length ((i, en_v ad v) :: (en_pl ad lv).filter (fun q => !(q.1 == i) && (!(q.1 == i + 1) && !(q.1 + 1 == i && q.2.category == 2))))) : en_has ad ls (en_st2 lv i v) := by
  refine ⟨by unfold en_st2; rw [List.length_set, List.length_set, en_cl_len]; exact h.1, h.2.1, fun k w hk => ?_⟩
  unfold en_st2 at hk
  by_cases hk1 : k = i + 1
  · subst hk1
    rw [List.getElem?_set_self (by rw [List.length_set, en_cl_len]; exact hi)] at hk
    cases hk
  · rw [List.getElem?_set_ne (fun q => hk1 q.symm)] at hk
    by_cases hki : k = i
    · subst hki
      rw [List.getElem?_set_self (by rw [en_cl_len]; omega)] at hk
      cases hk
      exact h.2.2 _ List.mem_cons_self
    · rw [List.getElem?_set_ne (fun q => hki q.symm)] at hk
      obtain ⟨h1, h2⟩ := en_cl_at hk
      refine h.2.2 (k, en_v ad w) (List.mem_cons_of_mem _ (List.mem_filter.mpr ⟨en_pl_in h1, ?_⟩))
      simp only [Bool.and_eq_true, Bool.not_eq_true', beq_eq_false_iff_ne, ne_eq, Bool.and_eq_false_iff, en_v_cat]
      refine ⟨hki, hk1, ?_⟩
      by_cases hz : k + 1 = i
      · exact Or.inr (fun q => h2 ⟨hz, q⟩)
      · exact Or.inl hz
/-! stack instructions: the length of the instruction and the new stack -/
abbrev en_O : Type := Option (Nat × List Value)
def en_ii (st : List Value) (f : Int32 → Int32 → Int32) : en_O := match st with
  | .int y :: .int x :: r => some (1, .int (f x y) :: r)
  | _ => none
def en_id (st : List Value) (f : Int32 → Int32 → Int32) : en_O := match st with
  | .int y :: .int x :: r => if y = 0 then none else some (1, .int (f x y) :: r)
  | _ => none
def en_ll (st : List Value) (f : Int64 → Int64 → Int64) : en_O := match st with
  | .long y :: .long x :: r => some (1, .long (f x y) :: r)
  | _ => none
def en_lD (st : List Value) (f : Int64 → Int64 → Int64) : en_O := match st with
  | .long y :: .long x :: r => if y = 0 then none else some (1, .long (f x y) :: r)
  | _ => none
def en_li (st : List Value) (f : Int64 → Int32 → Int64) : en_O := match st with
  | .int y :: .long x :: r => some (1, .long (f x y) :: r)
  | _ => none
def en_lc (st : List Value) : en_O := match st with
  | .long y :: .long x :: r => some (1, .int (lg_cmp x y) :: r)
  | _ => none
def en_i1 (st : List Value) (f : Int32 → Value) : en_O := match st with
  | .int x :: r => some (1, f x :: r)
  | _ => none
def en_l1 (st : List Value) (f : Int64 → Value) : en_O := match st with
  | .long x :: r => some (1, f x :: r)
  | _ => none
def en_dup (st : List Value) : en_O := match st with
  | v :: r => if v.category = 1 then some (1, v :: v :: r) else none
  | _ => none
def en_pop (st : List Value) : en_O := match st with
  | v :: r => if v.category = 1 then some (1, r) else none
  | _ => none
def en_dup2 (st : List Value) : en_O := match st with
  | v :: w :: r => if v.category = 1 ∧ w.category = 1 then some (1, v :: w :: v :: w :: r) else if v.category = 2 then some (1, v :: v :: w :: r) else none
  | [v] => if v.category = 2 then some (1, [v, v]) else none
  | _ => none
theorem en_ii_ok {st st' : List Value} {f : Int32 → Int32 → Int32} {n : Nat} (h : en_ii st f = some (n, st')) : ∃ x y r, st = .int y :: .int x :: r ∧ n = 1 ∧ st' = .int (f x y) :: r := by
  unfold en_ii at h
  split at h
  · cases h; exact ⟨_, _, _, rfl, rfl, rfl⟩
  · cases h
theorem en_id_ok {st st' : List Value} {f : Int32 → Int32 → Int32} {n : Nat} (h : en_id st f = some (n, st')) : ∃ x y r, st = .int y :: .int x :: r ∧ n = 1 ∧ st' = .int (f x y) :: r ∧ ¬ y = 0 := by
  unfold en_id at h
  split at h
  · split at h
    · cases h
    · rename_i hy
      cases h; exact ⟨_, _, _, rfl, rfl, rfl, hy⟩
  · cases h
theorem en_ll_ok {st st' : List Value} {f : Int64 → Int64 → Int64} {n : Nat} (h : en_ll st f = some (n, st')) : ∃ x y r, st = .long y :: .long x :: r ∧ n = 1 ∧ st' = .long (f x y) :: r := by
  unfold en_ll at h
  split at h
  · cases h; exact ⟨_, _, _, rfl, rfl, rfl⟩
  · cases h
theorem en_lD_ok {st st' : List Value} {f : Int64 → Int64 → Int64} {n : Nat} (h : en_lD st f = some (n, st')) : ∃ x y r, st = .long y :: .long x :: r ∧ n = 1 ∧ st' = .long (f x y) :: r ∧ ¬ y = 0 := by
  unfold en_lD at h
  split at h
  · split at h
    · cases h
    · rename_i hy
      cases h; exact ⟨_, _, _, rfl, rfl, rfl, hy⟩
  · cases h
theorem en_li_ok {st st' : List Value} {f : Int64 → Int32 → Int64} {n : Nat} (h : en_li st f = some (n, st')) : ∃ x y r, st = .int y :: .long x :: r ∧ n = 1 ∧ st' = .long (f x y) :: r := by
  unfold en_li at h
  split at h
  · cases h; exact ⟨_, _, _, rfl, rfl, rfl⟩
  · cases h
theorem en_lc_ok {st st' : List Value} {n : Nat} (h : en_lc st = some (n, st')) : ∃ x y r, st = .long y :: .long x :: r ∧ n = 1 ∧ st' = .int (lg_cmp x y) :: r := by
  unfold en_lc at h
  split at h
  · cases h; exact ⟨_, _, _, rfl, rfl, rfl⟩
  · cases h
theorem en_i1_ok {st st' : List Value} {f : Int32 → Value} {n : Nat} (h : en_i1 st f = some (n, st')) : ∃ x r, st = .int x :: r ∧ n = 1 ∧ st' = f x :: r := by
  unfold en_i1 at h
  split at h
  · cases h; exact ⟨_, _, rfl, rfl, rfl⟩
  · cases h
theorem en_l1_ok {st st' : List Value} {f : Int64 → Value} {n : Nat} (h : en_l1 st f = some (n, st')) : ∃ x r, st = .long x :: r ∧ n = 1 ∧ st' = f x :: r := by
  unfold en_l1 at h
  split at h
  · cases h; exact ⟨_, _, rfl, rfl, rfl⟩
  · cases h
def en_op (i : Instr) (st : List Value) : en_O := match i with
  | .iconst n => some (1, .int (Int32.ofInt n) :: st)
  | .bipush n => some (2, .int (Int8.ofInt n).toInt32 :: st)
  | .sipush n => some (3, .int (Int16.ofInt n).toInt32 :: st)
  | .lconst n => some (1, .long (Int64.ofNat (n : Nat)) :: st)
  | .iadd => en_ii st (fun x y => x + y)
  | .isub => en_ii st (fun x y => x - y)
  | .imul => en_ii st (fun x y => x * y)
  | .iand => en_ii st (fun x y => x &&& y)
  | .ior => en_ii st (fun x y => x ||| y)
  | .ixor => en_ii st (fun x y => x ^^^ y)
  | .ishl => en_ii st (fun x y => x <<< (y &&& 31))
  | .ishr => en_ii st (fun x y => x >>> (y &&& 31))
  | .iushr => en_ii st (fun x y => (x.toUInt32 >>> (y.toUInt32 &&& Int32.toUInt32 31)).toInt32)
  | .idiv => en_id st (fun x y => x / y)
  | .irem => en_id st (fun x y => x - x / y * y)
  | .ladd => en_ll st (fun x y => x + y)
  | .lsub => en_ll st (fun x y => x - y)
  | .lmul => en_ll st (fun x y => x * y)
  | .land => en_ll st (fun x y => x &&& y)
  | .lor => en_ll st (fun x y => x ||| y)
  | .lxor => en_ll st (fun x y => x ^^^ y)
  | .ldiv => en_lD st (fun x y => x / y)
  | .lrem => en_lD st (fun x y => x - x / y * y)
  | .lshl => en_li st (fun x y => x <<< (y.toInt64 &&& 63))
  | .lshr => en_li st (fun x y => x >>> (y.toInt64 &&& 63))
  | .lushr => en_li st (fun x y => (x.toUInt64 >>> (y.toInt64.toUInt64 &&& Int64.toUInt64 63)).toInt64)
  | .lcmp => en_lc st
  | .i2l => en_i1 st (fun x => .long x.toInt64)
  | .i2b => en_i1 st (fun x => .int x.toInt8.toInt32)
  | .l2i => en_l1 st (fun x => .int x.toInt32)
  | .ineg => en_i1 st (fun x => .int (-x))
  | .lneg => en_l1 st (fun x => .long (-x))
  | .dup => en_dup st
  | .pop => en_pop st
  | .dup2 => en_dup2 st
  | _ => none
section EnOp
variable {p : Program} {l : Launch} {e : Env} {R : Room} {s : State} {m : MethodId} {args : Array Value} {below : List Frame} {meth : Method} {c : Code} {H : Heap} {locs : List Loc} {cells slots : Nat} {Q : State → Prop}
variable {cc : ByteArray} {pc : Nat} {ls : Array Slot} {ad : Nat → Nat}
set_option maxHeartbeats 4000000 in
theorem en_op_ok (hx : p.tables.exec = Jvm.exec) (hb : c.code = cc) {i : Instr} {len : Nat} {st st' : List Value} (hdg : decode cc pc = .ok (i, len)) (h : en_op i st = some (len, st')) (k : W p l e R s m args below meth c H locs cells slots Q (F0 m (pc + len) ls (st'.map (en_v ad)))) : W p l e R s m args below meth c H locs cells slots Q (F0 m pc ls (st.map (en_v ad))) := by
  cases i with
  | iconst n => cases h; exact lv_iconst hx hb hdg rfl k
  | bipush n => cases h; exact lv_bipush hx hb hdg rfl k
  | sipush n => cases h; exact lv_sipush hx hb hdg rfl k
  | lconst n => cases h; exact lv_lconst hx hb hdg rfl k
  | iadd => obtain ⟨x, y, r, rfl, rfl, rfl⟩ := en_ii_ok h; exact lv_iadd hx hb hdg k
  | isub => obtain ⟨x, y, r, rfl, rfl, rfl⟩ := en_ii_ok h; exact lv_isub hx hb hdg k
  | imul => obtain ⟨x, y, r, rfl, rfl, rfl⟩ := en_ii_ok h; exact lv_imul hx hb hdg k
  | iand => obtain ⟨x, y, r, rfl, rfl, rfl⟩ := en_ii_ok h; exact lv_iand hx hb hdg k
  | ior => obtain ⟨x, y, r, rfl, rfl, rfl⟩ := en_ii_ok h; exact lv_ior hx hb hdg k
  | ixor => obtain ⟨x, y, r, rfl, rfl, rfl⟩ := en_ii_ok h; exact lv_ixor hx hb hdg k
  | ishl => obtain ⟨x, y, r, rfl, rfl, rfl⟩ := en_ii_ok h; exact lv_ishl hx hb hdg k
  | ishr => obtain ⟨x, y, r, rfl, rfl, rfl⟩ := en_ii_ok h; exact lv_ishr hx hb hdg k
  | iushr => obtain ⟨x, y, r, rfl, rfl, rfl⟩ := en_ii_ok h; exact lv_iushr hx hb hdg rfl k
  | idiv => obtain ⟨x, y, r, rfl, rfl, rfl, hy⟩ := en_id_ok h; exact lv_idiv hx hb hdg hy k
  | irem => obtain ⟨x, y, r, rfl, rfl, rfl, hy⟩ := en_id_ok h; exact lv_irem hx hb hdg hy k
  | ladd => obtain ⟨x, y, r, rfl, rfl, rfl⟩ := en_ll_ok h; exact lv_ladd hx hb hdg k
  | lsub => obtain ⟨x, y, r, rfl, rfl, rfl⟩ := en_ll_ok h; exact lv_lsub hx hb hdg k
  | lmul => obtain ⟨x, y, r, rfl, rfl, rfl⟩ := en_ll_ok h; exact lv_lmul hx hb hdg k
  | land => obtain ⟨x, y, r, rfl, rfl, rfl⟩ := en_ll_ok h; exact lv_land hx hb hdg k
  | lor => obtain ⟨x, y, r, rfl, rfl, rfl⟩ := en_ll_ok h; exact lv_lor hx hb hdg k
  | lxor => obtain ⟨x, y, r, rfl, rfl, rfl⟩ := en_ll_ok h; exact lv_lxor hx hb hdg k
  | ldiv => obtain ⟨x, y, r, rfl, rfl, rfl, hy⟩ := en_lD_ok h; exact lv_ldiv hx hb hdg hy k
  | lrem => obtain ⟨x, y, r, rfl, rfl, rfl, hy⟩ := en_lD_ok h; exact lv_lrem hx hb hdg hy k
  | lshl => obtain ⟨x, y, r, rfl, rfl, rfl⟩ := en_li_ok h; exact lv_lshl hx hb hdg rfl k
  | lshr => obtain ⟨x, y, r, rfl, rfl, rfl⟩ := en_li_ok h; exact lv_lshr hx hb hdg rfl k
  | lushr => obtain ⟨x, y, r, rfl, rfl, rfl⟩ := en_li_ok h; exact lv_lushr hx hb hdg rfl k
  | lcmp => obtain ⟨x, y, r, rfl, rfl, rfl⟩ := en_lc_ok h; exact W.lcmp hx hb hdg k
  | i2l => obtain ⟨x, r, rfl, rfl, rfl⟩ := en_i1_ok h; exact lv_i2l hx hb hdg rfl k
  | i2b => obtain ⟨x, r, rfl, rfl, rfl⟩ := en_i1_ok h; exact lv_i2b hx hb hdg rfl k
  | l2i => obtain ⟨x, r, rfl, rfl, rfl⟩ := en_l1_ok h; exact lv_l2i hx hb hdg rfl k
  | ineg => obtain ⟨x, r, rfl, rfl, rfl⟩ := en_i1_ok h; exact lv_ineg hx hb hdg k
  | lneg => obtain ⟨x, r, rfl, rfl, rfl⟩ := en_l1_ok h; exact lv_lneg hx hb hdg k
  | dup =>
    change en_dup st = _ at h
    unfold en_dup at h
    split at h
    · split at h
      · rename_i hc
        cases h
        exact lv_dup hx hb hdg (by rw [en_v_cat]; exact hc) k
      · cases h
    · cases h
  | pop =>
    change en_pop st = _ at h
    unfold en_pop at h
    split at h
    · split at h
      · rename_i hc
        cases h
        exact lv_pop hx hb hdg (by rw [en_v_cat]; exact hc) k
      · cases h
    · cases h
  | dup2 =>
    change en_dup2 st = _ at h
    unfold en_dup2 at h
    split at h
    · split at h
      · rename_i hc
        cases h
        exact lv_dup2_11 hx hb hdg (by rw [en_v_cat]; exact hc.1) (by rw [en_v_cat]; exact hc.2) k
      · split at h
        · rename_i hc
          cases h
          exact lv_dup2_2 hx hb hdg (by rw [en_v_cat]; exact hc) k
        · cases h
    · split at h
      · rename_i hc
        cases h
        exact lv_dup2_2 hx hb hdg (by rw [en_v_cat]; exact hc) k
      · cases h
    · cases h
  | _ => cases h
end EnOp
