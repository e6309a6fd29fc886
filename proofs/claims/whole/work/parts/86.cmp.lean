/-! what a branch tells; static arrays -/
theorem cm_eq_t {x y : Int32} (h : en_cmp .eq x y = true) : x = y := of_decide_eq_true h
theorem cm_eq_f {x y : Int32} (h : en_cmp .eq x y = false) : ¬ x = y := of_decide_eq_false h
theorem cm_ne_t {x y : Int32} (h : en_cmp .ne x y = true) : ¬ x = y := fun q => by
  have z : (!decide (x = y)) = true := h
  rw [decide_eq_true q] at z
  cases z
theorem cm_ne_f {x y : Int32} (h : en_cmp .ne x y = false) : x = y := by
  have z : (!decide (x = y)) = false := h
  rw [Bool.not_eq_false'] at z
  exact of_decide_eq_true z
theorem cm_lt_t {x y : Int32} (h : en_cmp .lt x y = true) : x < y := of_decide_eq_true h
theorem cm_lt_f {x y : Int32} (h : en_cmp .lt x y = false) : ¬ x < y := of_decide_eq_false h
theorem cm_ge_t {x y : Int32} (h : en_cmp .ge x y = true) : y ≤ x := of_decide_eq_true h
theorem cm_ge_f {x y : Int32} (h : en_cmp .ge x y = false) : ¬ y ≤ x := of_decide_eq_false h
theorem cm_gt_t {x y : Int32} (h : en_cmp .gt x y = true) : y < x := of_decide_eq_true h
theorem cm_gt_f {x y : Int32} (h : en_cmp .gt x y = false) : ¬ y < x := of_decide_eq_false h
theorem cm_le_t {x y : Int32} (h : en_cmp .le x y = true) : x ≤ y := of_decide_eq_true h
theorem cm_le_f {x y : Int32} (h : en_cmp .le x y = false) : ¬ x ≤ y := of_decide_eq_false h
theorem ev_sld {P : en_Pg} {tb : en_T} {cr : Nat → Nat} {j : Nat} {r : Option Value} {h' g : en_H} {pc cs ss n : Nat} {lv : en_L} {st : List Value} {f : Nat → Int32} {i : Int32} (k0 : Nat) (hI : en_pI P j pc = some (.iaload, 1)) (hg : g.length ≤ en_b) (ht : tb k0 = some (n, f)) (hb : en_bad i n = false) (k : en_Ev P tb cr j (pc + 1, lv, .int (f i.toNatClampNeg) :: st, g, cs, ss) r h') : en_Ev P tb cr j (pc, lv, .int i :: .ref (en_b + k0) :: st, g, cs, ss) r h' := by
  refine ev_nx ?_ k
  unfold en_nx
  dsimp only
  rw [hI]
  show (match (if (1 : Nat) = 1 then en_up cs ss g (en_ai tb 0 (.int i :: .ref (en_b + k0) :: st) g) else none) with
    | some (st', h', cs', ss') => some (pc + 1, lv, st', h', cs', ss')
    | none => none) = _
  have z : en_ai tb 0 (.int i :: .ref (en_b + k0) :: st) g = some (.int (f i.toNatClampNeg) :: st) := by
    unfold en_ai
    dsimp only
    rw [List.getElem?_eq_none (by omega)]
    dsimp only
    rw [if_neg (by rintro (q | q); exact absurd q (Nat.not_lt.mpr (Nat.le_add_right en_b k0)); exact q rfl), Nat.add_sub_cancel_left, ht]
    dsimp only
    rw [if_pos (by rw [hb]; rfl)]
  rw [if_pos rfl, z]
  rfl
def st_0 (i : Nat) : Int32 := (pg_st.getD 0 []).getD i 0
def st_1 (i : Nat) : Int32 := (pg_st.getD 1 []).getD i 0
def st_2 (i : Nat) : Int32 := (pg_st.getD 2 []).getD i 0
def st_3 (i : Nat) : Int32 := (pg_st.getD 3 []).getD i 0
def st_4 (i : Nat) : Int32 := (pg_st.getD 4 []).getD i 0
def st_5 (i : Nat) : Int32 := (pg_st.getD 5 []).getD i 0
def st_6 (i : Nat) : Int32 := (pg_st.getD 6 []).getD i 0
def st_7 (i : Nat) : Int32 := (pg_st.getD 7 []).getD i 0
def st_8 (i : Nat) : Int32 := (pg_st.getD 8 []).getD i 0
def st_9 (i : Nat) : Int32 := (pg_st.getD 9 []).getD i 0
def st_10 (i : Nat) : Int32 := (pg_st.getD 10 []).getD i 0
