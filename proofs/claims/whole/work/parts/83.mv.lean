/-! MOVES: one instruction, over the memory -/
section EnMv
variable {tb : en_T} {j pc cs ss : Nat} {lv : en_L} {st : List Value} {h h' : en_H} {r : Option Value} {x y : Int} {S : ms}
theorem mv_stp {i : Instr} {len : Nat} {S0 S1 : en_S} (hI : en_pI pg_P j S0.1 = some (i, len)) (hs : en_stp pg_P tb pg_cr j i len S0 = some S1) (k : en_Ev pg_P tb pg_cr j S1 r h') : en_Ev pg_P tb pg_cr j S0 r h' := by
  refine ev_nx ?_ k
  unfold en_nx
  rw [hI]
  dsimp only
  rw [(en_x5 hs _).1, (en_x5 hs _).2]
  exact hs
theorem mv_op {i : Instr} {len : Nat} {st st' : List Value} (hI : en_pI pg_P j pc = some (i, len)) (ho : en_op i st = some (len, st')) (k : en_Ev pg_P tb pg_cr j (pc + len, lv, st', h, cs, ss) r h') : en_Ev pg_P tb pg_cr j (pc, lv, st, h, cs, ss) r h' := by
  refine mv_stp (S1 := (pc + len, lv, st', h, cs, ss)) hI ?_ k
  unfold en_stp
  dsimp only
  rw [ho]
  dsimp only
  rw [if_pos rfl]
theorem mv_hp {i : Instr} {len : Nat} {st st' : List Value} {h1 : en_H} (hI : en_pI pg_P j pc = some (i, len)) (h0 : ∀ s : List Value, en_op i s = none) (h2 : ∀ (s : List Value) (n m : Nat), en_br i n m s = none) (h3 : ∀ (s : List Value) (n : Nat) (l : en_L), en_lo i n l s = none) (ho : en_hp pg_P tb pg_cr j i len st h cs ss = some (st', h1, cs, ss)) (k : en_Ev pg_P tb pg_cr j (pc + len, lv, st', h1, cs, ss) r h') : en_Ev pg_P tb pg_cr j (pc, lv, st, h, cs, ss) r h' := by
  refine mv_stp (S1 := (pc + len, lv, st', h1, cs, ss)) hI ?_ k
  unfold en_stp
  dsimp only
  rw [h0, h2, h3, ho]
/-! ints -/
theorem mv_iadd (hI : en_pI pg_P j pc = some (.iadd, 1)) (k : en_Ev pg_P tb pg_cr j (pc + 1, lv, vI (x + y) :: st, h, cs, ss) r h') : en_Ev pg_P tb pg_cr j (pc, lv, vI y :: vI x :: st, h, cs, ss) r h' :=
  mv_op hI (show some (1, Value.int (Int32.ofInt x + Int32.ofInt y) :: st) = _ by rw [← Int32.ofInt_add]; rfl) k
theorem mv_isub (hI : en_pI pg_P j pc = some (.isub, 1)) (k : en_Ev pg_P tb pg_cr j (pc + 1, lv, vI (x - y) :: st, h, cs, ss) r h') : en_Ev pg_P tb pg_cr j (pc, lv, vI y :: vI x :: st, h, cs, ss) r h' :=
  mv_op hI (show some (1, Value.int (Int32.ofInt x - Int32.ofInt y) :: st) = _ by rw [← Int32.ofInt_sub]; rfl) k
theorem mv_imul (hI : en_pI pg_P j pc = some (.imul, 1)) (k : en_Ev pg_P tb pg_cr j (pc + 1, lv, vI (x * y) :: st, h, cs, ss) r h') : en_Ev pg_P tb pg_cr j (pc, lv, vI y :: vI x :: st, h, cs, ss) r h' :=
  mv_op hI (show some (1, Value.int (Int32.ofInt x * Int32.ofInt y) :: st) = _ by rw [← Int32.ofInt_mul]; rfl) k
theorem mv_ineg (hI : en_pI pg_P j pc = some (.ineg, 1)) (k : en_Ev pg_P tb pg_cr j (pc + 1, lv, vI (-x) :: st, h, cs, ss) r h') : en_Ev pg_P tb pg_cr j (pc, lv, vI x :: st, h, cs, ss) r h' :=
  mv_op hI (show some (1, Value.int (-Int32.ofInt x) :: st) = _ by rw [← Int32.ofInt_neg]; rfl) k
theorem mv_iand (hI : en_pI pg_P j pc = some (.iand, 1)) (k : en_Ev pg_P tb pg_cr j (pc + 1, lv, vI (bA x y) :: st, h, cs, ss) r h') : en_Ev pg_P tb pg_cr j (pc, lv, vI y :: vI x :: st, h, cs, ss) r h' :=
  mv_op hI (show some (1, Value.int (Int32.ofInt x &&& Int32.ofInt y) :: st) = _ by rw [oI_and]; rfl) k
theorem mv_iandm (m : Int) (q : Nat) (hq : q ≤ 32) (hm : m = 2 ^ q) (hy : y = m - 1) (hI : en_pI pg_P j pc = some (.iand, 1)) (k : en_Ev pg_P tb pg_cr j (pc + 1, lv, vI (x % m) :: st, h, cs, ss) r h') : en_Ev pg_P tb pg_cr j (pc, lv, vI y :: vI x :: st, h, cs, ss) r h' := by
  subst hm hy
  refine mv_iand hI ?_
  rw [bA_m x q hq]
  exact k
theorem mv_ior (hI : en_pI pg_P j pc = some (.ior, 1)) (k : en_Ev pg_P tb pg_cr j (pc + 1, lv, vI (bO x y) :: st, h, cs, ss) r h') : en_Ev pg_P tb pg_cr j (pc, lv, vI y :: vI x :: st, h, cs, ss) r h' :=
  mv_op hI (show some (1, Value.int (Int32.ofInt x ||| Int32.ofInt y) :: st) = _ by rw [oI_or]; rfl) k
theorem mv_ixor (hI : en_pI pg_P j pc = some (.ixor, 1)) (k : en_Ev pg_P tb pg_cr j (pc + 1, lv, vI (bX x y) :: st, h, cs, ss) r h') : en_Ev pg_P tb pg_cr j (pc, lv, vI y :: vI x :: st, h, cs, ss) r h' :=
  mv_op hI (show some (1, Value.int (Int32.ofInt x ^^^ Int32.ofInt y) :: st) = _ by rw [oI_xor]; rfl) k
theorem oI_not (x : Int) : Int32.ofInt x ^^^ Int32.ofInt (-1) = Int32.ofInt (-x - 1) := by
  have h1 : Int32.ofInt x ^^^ Int32.ofInt (-1) = ~~~ Int32.ofInt x := Int32.xor_neg_one
  rw [h1, Int32.not_eq_neg_sub, ← Int32.ofInt_neg, show (1 : Int32) = Int32.ofInt 1 from rfl, ← Int32.ofInt_sub]
theorem mv_inot (hI : en_pI pg_P j pc = some (.ixor, 1)) (k : en_Ev pg_P tb pg_cr j (pc + 1, lv, vI (-x - 1) :: st, h, cs, ss) r h') : en_Ev pg_P tb pg_cr j (pc, lv, vI (-1) :: vI x :: st, h, cs, ss) r h' :=
  mv_op hI (show some (1, Value.int (Int32.ofInt x ^^^ Int32.ofInt (-1)) :: st) = _ by rw [oI_not]; rfl) k
theorem mv_ishl (m : Int) (hm : (2 : Int) ^ (y % 32).toNat = m) (hI : en_pI pg_P j pc = some (.ishl, 1)) (k : en_Ev pg_P tb pg_cr j (pc + 1, lv, vI (x * m) :: st, h, cs, ss) r h') : en_Ev pg_P tb pg_cr j (pc, lv, vI y :: vI x :: st, h, cs, ss) r h' :=
  mv_op hI (show some (1, Value.int (Int32.ofInt x <<< (Int32.ofInt y &&& 31)) :: st) = _ by rw [oI_shl, hm]; rfl) k
theorem mv_ishr (m : Int) (hm : (2 : Int) ^ (y % 32).toNat = m) (hI : en_pI pg_P j pc = some (.ishr, 1)) (k : en_Ev pg_P tb pg_cr j (pc + 1, lv, vI (w32 x / m) :: st, h, cs, ss) r h') : en_Ev pg_P tb pg_cr j (pc, lv, vI y :: vI x :: st, h, cs, ss) r h' :=
  mv_op hI (show some (1, Value.int (Int32.ofInt x >>> (Int32.ofInt y &&& 31)) :: st) = _ by rw [oI_shr, hm]; rfl) k
theorem mv_iushr (m : Int) (hm : (2 : Int) ^ (y % 32).toNat = m) (hI : en_pI pg_P j pc = some (.iushr, 1)) (k : en_Ev pg_P tb pg_cr j (pc + 1, lv, vI (x % 4294967296 / m) :: st, h, cs, ss) r h') : en_Ev pg_P tb pg_cr j (pc, lv, vI y :: vI x :: st, h, cs, ss) r h' :=
  mv_op hI (show some (1, Value.int ((Int32.ofInt x).toUInt32 >>> ((Int32.ofInt y).toUInt32 &&& Int32.toUInt32 31)).toInt32 :: st) = _ by rw [oI_ushr, hm]; rfl) k
theorem mv_idiv (hy : ¬ w32 y = 0) (hI : en_pI pg_P j pc = some (.idiv, 1)) (k : en_Ev pg_P tb pg_cr j (pc + 1, lv, vI (Int.tdiv (w32 x) (w32 y)) :: st, h, cs, ss) r h') : en_Ev pg_P tb pg_cr j (pc, lv, vI y :: vI x :: st, h, cs, ss) r h' :=
  mv_op hI (show (if Int32.ofInt y = 0 then none else some (1, Value.int (Int32.ofInt x / Int32.ofInt y) :: st)) = _ by
    rw [if_neg (fun q => hy (by rw [show (0 : Int32) = Int32.ofInt 0 from rfl, oI_eq] at q; exact q)), oI_div]; rfl) k
theorem mv_irem (hy : ¬ w32 y = 0) (hI : en_pI pg_P j pc = some (.irem, 1)) (k : en_Ev pg_P tb pg_cr j (pc + 1, lv, vI (Int.tmod (w32 x) (w32 y)) :: st, h, cs, ss) r h') : en_Ev pg_P tb pg_cr j (pc, lv, vI y :: vI x :: st, h, cs, ss) r h' :=
  mv_op hI (show (if Int32.ofInt y = 0 then none else some (1, Value.int (Int32.ofInt x - Int32.ofInt x / Int32.ofInt y * Int32.ofInt y) :: st)) = _ by
    rw [if_neg (fun q => hy (by rw [show (0 : Int32) = Int32.ofInt 0 from rfl, oI_eq] at q; exact q)), oI_rem]; rfl) k
theorem mv_i2l (hI : en_pI pg_P j pc = some (.i2l, 1)) (k : en_Ev pg_P tb pg_cr j (pc + 1, lv, vL (w32 x) :: st, h, cs, ss) r h') : en_Ev pg_P tb pg_cr j (pc, lv, vI x :: st, h, cs, ss) r h' :=
  mv_op hI (show some (1, Value.long (Int32.ofInt x).toInt64 :: st) = _ by rw [oI_l]; rfl) k
theorem mv_l2i (hI : en_pI pg_P j pc = some (.l2i, 1)) (k : en_Ev pg_P tb pg_cr j (pc + 1, lv, vI x :: st, h, cs, ss) r h') : en_Ev pg_P tb pg_cr j (pc, lv, vL x :: st, h, cs, ss) r h' :=
  mv_op hI (show some (1, Value.int (Int64.ofInt x).toInt32 :: st) = _ by rw [oL_i]; rfl) k
theorem mv_i2b (hI : en_pI pg_P j pc = some (.i2b, 1)) (k : en_Ev pg_P tb pg_cr j (pc + 1, lv, vI (b8 x) :: st, h, cs, ss) r h') : en_Ev pg_P tb pg_cr j (pc, lv, vI x :: st, h, cs, ss) r h' :=
  mv_op hI (show some (1, Value.int (Int32.ofInt x).toInt8.toInt32 :: st) = _ by rw [oI_b]; rfl) k
/-! longs -/
theorem mv_ladd (hI : en_pI pg_P j pc = some (.ladd, 1)) (k : en_Ev pg_P tb pg_cr j (pc + 1, lv, vL (x + y) :: st, h, cs, ss) r h') : en_Ev pg_P tb pg_cr j (pc, lv, vL y :: vL x :: st, h, cs, ss) r h' :=
  mv_op hI (show some (1, Value.long (Int64.ofInt x + Int64.ofInt y) :: st) = _ by rw [← Int64.ofInt_add]; rfl) k
theorem mv_lsub (hI : en_pI pg_P j pc = some (.lsub, 1)) (k : en_Ev pg_P tb pg_cr j (pc + 1, lv, vL (x - y) :: st, h, cs, ss) r h') : en_Ev pg_P tb pg_cr j (pc, lv, vL y :: vL x :: st, h, cs, ss) r h' :=
  mv_op hI (show some (1, Value.long (Int64.ofInt x - Int64.ofInt y) :: st) = _ by rw [← Int64.ofInt_sub]; rfl) k
theorem mv_lmul (hI : en_pI pg_P j pc = some (.lmul, 1)) (k : en_Ev pg_P tb pg_cr j (pc + 1, lv, vL (x * y) :: st, h, cs, ss) r h') : en_Ev pg_P tb pg_cr j (pc, lv, vL y :: vL x :: st, h, cs, ss) r h' :=
  mv_op hI (show some (1, Value.long (Int64.ofInt x * Int64.ofInt y) :: st) = _ by rw [← Int64.ofInt_mul]; rfl) k
theorem mv_land (hI : en_pI pg_P j pc = some (.land, 1)) (k : en_Ev pg_P tb pg_cr j (pc + 1, lv, vL (lA x y) :: st, h, cs, ss) r h') : en_Ev pg_P tb pg_cr j (pc, lv, vL y :: vL x :: st, h, cs, ss) r h' :=
  mv_op hI (show some (1, Value.long (Int64.ofInt x &&& Int64.ofInt y) :: st) = _ by rw [oL_and]; rfl) k
theorem mv_landm (m : Int) (q : Nat) (hq : q ≤ 64) (hm : m = 2 ^ q) (hy : y = m - 1) (hI : en_pI pg_P j pc = some (.land, 1)) (k : en_Ev pg_P tb pg_cr j (pc + 1, lv, vL (x % m) :: st, h, cs, ss) r h') : en_Ev pg_P tb pg_cr j (pc, lv, vL y :: vL x :: st, h, cs, ss) r h' := by
  subst hm hy
  refine mv_land hI ?_
  rw [lA_m x q hq]
  exact k
theorem mv_lor (hI : en_pI pg_P j pc = some (.lor, 1)) (k : en_Ev pg_P tb pg_cr j (pc + 1, lv, vL (lO x y) :: st, h, cs, ss) r h') : en_Ev pg_P tb pg_cr j (pc, lv, vL y :: vL x :: st, h, cs, ss) r h' :=
  mv_op hI (show some (1, Value.long (Int64.ofInt x ||| Int64.ofInt y) :: st) = _ by rw [oL_or]; rfl) k
theorem mv_lxor (hI : en_pI pg_P j pc = some (.lxor, 1)) (k : en_Ev pg_P tb pg_cr j (pc + 1, lv, vL (lX x y) :: st, h, cs, ss) r h') : en_Ev pg_P tb pg_cr j (pc, lv, vL y :: vL x :: st, h, cs, ss) r h' :=
  mv_op hI (show some (1, Value.long (Int64.ofInt x ^^^ Int64.ofInt y) :: st) = _ by rw [oL_xor]; rfl) k
theorem mv_lshl (m : Int) (hm : (2 : Int) ^ (y % 64).toNat = m) (hI : en_pI pg_P j pc = some (.lshl, 1)) (k : en_Ev pg_P tb pg_cr j (pc + 1, lv, vL (x * m) :: st, h, cs, ss) r h') : en_Ev pg_P tb pg_cr j (pc, lv, vI y :: vL x :: st, h, cs, ss) r h' :=
  mv_op hI (show some (1, Value.long (Int64.ofInt x <<< ((Int32.ofInt y).toInt64 &&& 63)) :: st) = _ by rw [oL_shl, hm]; rfl) k
theorem mv_lshr (m : Int) (hm : (2 : Int) ^ (y % 64).toNat = m) (hI : en_pI pg_P j pc = some (.lshr, 1)) (k : en_Ev pg_P tb pg_cr j (pc + 1, lv, vL (w64 x / m) :: st, h, cs, ss) r h') : en_Ev pg_P tb pg_cr j (pc, lv, vI y :: vL x :: st, h, cs, ss) r h' :=
  mv_op hI (show some (1, Value.long (Int64.ofInt x >>> ((Int32.ofInt y).toInt64 &&& 63)) :: st) = _ by rw [oL_shr, hm]; rfl) k
theorem mv_lushr (m : Int) (hm : (2 : Int) ^ (y % 64).toNat = m) (hI : en_pI pg_P j pc = some (.lushr, 1)) (k : en_Ev pg_P tb pg_cr j (pc + 1, lv, vL (x % 18446744073709551616 / m) :: st, h, cs, ss) r h') : en_Ev pg_P tb pg_cr j (pc, lv, vI y :: vL x :: st, h, cs, ss) r h' :=
  mv_op hI (show some (1, Value.long ((Int64.ofInt x).toUInt64 >>> ((Int32.ofInt y).toInt64.toUInt64 &&& Int64.toUInt64 63)).toInt64 :: st) = _ by rw [oL_ushr, hm]; rfl) k
theorem mv_ldiv (hy : ¬ w64 y = 0) (hI : en_pI pg_P j pc = some (.ldiv, 1)) (k : en_Ev pg_P tb pg_cr j (pc + 1, lv, vL (Int.tdiv (w64 x) (w64 y)) :: st, h, cs, ss) r h') : en_Ev pg_P tb pg_cr j (pc, lv, vL y :: vL x :: st, h, cs, ss) r h' :=
  mv_op hI (show (if Int64.ofInt y = 0 then none else some (1, Value.long (Int64.ofInt x / Int64.ofInt y) :: st)) = _ by
    rw [if_neg (fun q => hy (by rw [show (0 : Int64) = Int64.ofInt 0 from rfl, oL_eq] at q; exact q)), oL_div]; rfl) k
theorem mv_lrem (hy : ¬ w64 y = 0) (hI : en_pI pg_P j pc = some (.lrem, 1)) (k : en_Ev pg_P tb pg_cr j (pc + 1, lv, vL (Int.tmod (w64 x) (w64 y)) :: st, h, cs, ss) r h') : en_Ev pg_P tb pg_cr j (pc, lv, vL y :: vL x :: st, h, cs, ss) r h' :=
  mv_op hI (show (if Int64.ofInt y = 0 then none else some (1, Value.long (Int64.ofInt x - Int64.ofInt x / Int64.ofInt y * Int64.ofInt y) :: st)) = _ by
    rw [if_neg (fun q => hy (by rw [show (0 : Int64) = Int64.ofInt 0 from rfl, oL_eq] at q; exact q)), oL_rem]; rfl) k
/-! branches -/
def cq (c : ClassFile.Cond) (x y : Int) : Prop := match c with
  | .eq => x = y
  | .ne => ¬ x = y
  | .lt => x < y
  | .ge => y ≤ x
  | .gt => y < x
  | .le => x ≤ y
theorem cq_t {c : ClassFile.Cond} {x y : Int} (h : en_cmp c (Int32.ofInt x) (Int32.ofInt y) = true) : cq c (w32 x) (w32 y) := by
  cases c with
  | eq => exact oI_eq.mp (of_decide_eq_true h)
  | ne =>
    have z : (!decide (Int32.ofInt x = Int32.ofInt y)) = true := h
    rw [Bool.not_eq_true', decide_eq_false_iff_not] at z
    exact fun q => z (oI_eq.mpr q)
  | lt => exact oI_lt.mp (of_decide_eq_true h)
  | ge => exact oI_le.mp (of_decide_eq_true h)
  | gt => exact oI_lt.mp (of_decide_eq_true h)
  | le => exact oI_le.mp (of_decide_eq_true h)
theorem cq_f {c : ClassFile.Cond} {x y : Int} (h : en_cmp c (Int32.ofInt x) (Int32.ofInt y) = false) : ¬ cq c (w32 x) (w32 y) := by
  cases c with
  | eq => exact fun q => of_decide_eq_false h (oI_eq.mpr q)
  | ne =>
    have z : (!decide (Int32.ofInt x = Int32.ofInt y)) = false := h
    rw [Bool.not_eq_false', decide_eq_true_iff] at z
    exact fun q => q (oI_eq.mp z)
  | lt => exact fun q => of_decide_eq_false h (oI_lt.mpr q)
  | ge => exact fun q => of_decide_eq_false h (oI_le.mpr q)
  | gt => exact fun q => of_decide_eq_false h (oI_lt.mpr q)
  | le => exact fun q => of_decide_eq_false h (oI_le.mpr q)
theorem mv_br {i : Instr} {len pc' : Nat} {st st' : List Value} (hI : en_pI pg_P j pc = some (i, len)) (ho : en_br i len pc st = some (pc', st')) (k : en_Ev pg_P tb pg_cr j (pc', lv, st', h, cs, ss) r h') : en_Ev pg_P tb pg_cr j (pc, lv, st, h, cs, ss) r h' := by
  refine mv_stp (S1 := (pc', lv, st', h, cs, ss)) hI ?_ k
  unfold en_stp
  dsimp only
  rw [en_x1 ho, ho]
theorem mv_icmp {c : ClassFile.Cond} {off : Int} (t : Nat) (hI : en_pI pg_P j pc = some (.if_icmp c off, 3)) (ht : (pc : Int) + off = t) (kt : cq c (w32 x) (w32 y) → en_Ev pg_P tb pg_cr j (t, lv, st, h, cs, ss) r h') (kf : ¬ cq c (w32 x) (w32 y) → en_Ev pg_P tb pg_cr j (pc + 3, lv, st, h, cs, ss) r h') : en_Ev pg_P tb pg_cr j (pc, lv, vI y :: vI x :: st, h, cs, ss) r h' := by
  have ho : en_br (.if_icmp c off) 3 pc (vI y :: vI x :: st) = some (bif en_cmp c (Int32.ofInt x) (Int32.ofInt y) then t else pc + 3, st) := by
    show (if 0 ≤ (pc : Int) + off ∧ 3 = 3 then some (bif en_cmp c (Int32.ofInt x) (Int32.ofInt y) then en_tg pc off else pc + 3, st) else none) = _
    rw [if_pos ⟨by omega, rfl⟩, show en_tg pc off = t by unfold en_tg; omega]
  refine mv_br hI ho ?_
  cases hc : en_cmp c (Int32.ofInt x) (Int32.ofInt y)
  · exact kf (cq_f hc)
  · exact kt (cq_t hc)
theorem mv_if {c : ClassFile.Cond} {off : Int} (t : Nat) (hI : en_pI pg_P j pc = some (.ifCond c off, 3)) (ht : (pc : Int) + off = t) (kt : cq c (w32 x) 0 → en_Ev pg_P tb pg_cr j (t, lv, st, h, cs, ss) r h') (kf : ¬ cq c (w32 x) 0 → en_Ev pg_P tb pg_cr j (pc + 3, lv, st, h, cs, ss) r h') : en_Ev pg_P tb pg_cr j (pc, lv, vI x :: st, h, cs, ss) r h' := by
  have ho : en_br (.ifCond c off) 3 pc (vI x :: st) = some (bif en_cmp c (Int32.ofInt x) (Int32.ofInt 0) then t else pc + 3, st) := by
    show (if 0 ≤ (pc : Int) + off ∧ 3 = 3 then some (bif en_cmp c (Int32.ofInt x) 0 then en_tg pc off else pc + 3, st) else none) = _
    rw [if_pos ⟨by omega, rfl⟩, show en_tg pc off = t by unfold en_tg; omega]
    rfl
  refine mv_br hI ho ?_
  cases hc : en_cmp c (Int32.ofInt x) (Int32.ofInt 0)
  · exact kf (cq_f hc)
  · exact kt (cq_t hc)
theorem lg_cmp_w (x y : Int) : lg_cmp (Int64.ofInt x) (Int64.ofInt y) = Int32.ofInt (if w64 y < w64 x then 1 else if w64 x = w64 y then 0 else -1) := by
  unfold lg_cmp
  by_cases h1 : w64 y < w64 x
  · rw [if_pos h1, if_pos (oL_lt.mpr h1)]
    rfl
  · rw [if_neg h1, if_neg (fun q => h1 (oL_lt.mp q))]
    by_cases h2 : w64 x = w64 y
    · rw [if_pos h2, if_pos (oL_eq.mpr h2)]
      rfl
    · rw [if_neg h2, if_neg (fun q => h2 (oL_eq.mp q))]
      rfl
theorem cq_l {c : ClassFile.Cond} {a b : Int} : cq c (w32 (if b < a then 1 else if a = b then 0 else -1)) 0 ↔ cq c a b := by
  have e : w32 (if b < a then 1 else if a = b then 0 else -1) = (if b < a then 1 else if a = b then 0 else -1) := by
    apply w32_of
    split
    · decide
    · split <;> decide
  rw [e]
  cases c <;> (show (_ : Prop) ↔ (_ : Prop)) <;> unfold cq <;> dsimp only <;> (split <;> try split) <;> omega
theorem mv_lif {c : ClassFile.Cond} {off : Int} (t : Nat) (hI : en_pI pg_P j pc = some (.lcmp, 1)) (hI2 : en_pI pg_P j (pc + 1) = some (.ifCond c off, 3)) (ht : ((pc + 1 : Nat) : Int) + off = t) (kt : cq c (w64 x) (w64 y) → en_Ev pg_P tb pg_cr j (t, lv, st, h, cs, ss) r h') (kf : ¬ cq c (w64 x) (w64 y) → en_Ev pg_P tb pg_cr j (pc + 1 + 3, lv, st, h, cs, ss) r h') : en_Ev pg_P tb pg_cr j (pc, lv, vL y :: vL x :: st, h, cs, ss) r h' := by
  refine mv_op (st' := vI (if w64 y < w64 x then 1 else if w64 x = w64 y then 0 else -1) :: st) hI ?_ ?_
  · show some (1, Value.int (lg_cmp (Int64.ofInt x) (Int64.ofInt y)) :: st) = _
    rw [lg_cmp_w]
    rfl
  · exact mv_if t hI2 ht (fun q => kt (cq_l.mp q)) (fun q => kf (fun z => q (cq_l.mpr z)))
theorem mv_goto {off : Int} (t : Nat) (hI : en_pI pg_P j pc = some (.goto off, 3)) (ht : (pc : Int) + off = t) (k : en_Ev pg_P tb pg_cr j (t, lv, st, h, cs, ss) r h') : en_Ev pg_P tb pg_cr j (pc, lv, st, h, cs, ss) r h' := by
  refine mv_br (pc' := t) hI ?_ k
  show (if 0 ≤ (pc : Int) + off ∧ 3 = 3 then some (en_tg pc off, st) else none) = _
  rw [if_pos ⟨by omega, rfl⟩, show en_tg pc off = t by unfold en_tg; omega]
theorem mv_tin {d lo hi off : Int} {offs : Array Int} {len : Nat} (t : Nat) (v : Int) (e : w32 x = v) (hI : en_pI pg_P j pc = some (.tableswitch d lo hi offs, len)) (h1 : ¬ (v < lo ∨ hi < v)) (ho : offs[(v - lo).toNat]? = some off) (ht : (pc : Int) + off = t) (k : en_Ev pg_P tb pg_cr j (t, lv, st, h, cs, ss) r h') : en_Ev pg_P tb pg_cr j (pc, lv, vI x :: st, h, cs, ss) r h' := by
  refine mv_br (pc' := t) (st' := st) hI ?_ k
  unfold en_br vI
  dsimp only
  rw [w32_toInt, e, if_neg h1, ho]
  dsimp only
  rw [if_pos (by omega), show en_tg pc off = t by unfold en_tg; omega]
theorem mv_tout {d lo hi : Int} {offs : Array Int} {len : Nat} (t : Nat) (e : w32 x < lo ∨ hi < w32 x) (hI : en_pI pg_P j pc = some (.tableswitch d lo hi offs, len)) (ht : (pc : Int) + d = t) (k : en_Ev pg_P tb pg_cr j (t, lv, st, h, cs, ss) r h') : en_Ev pg_P tb pg_cr j (pc, lv, vI x :: st, h, cs, ss) r h' := by
  refine mv_br (pc' := t) (st' := st) hI ?_ k
  unfold en_br vI
  dsimp only
  rw [w32_toInt, if_pos e, if_pos (by omega), show en_tg pc d = t by unfold en_tg; omega]
theorem mv_look {d off : Int} {ps : Array (Int × Int)} {len : Nat} (t : Nat) (hI : en_pI pg_P j pc = some (.lookupswitch d ps, len)) (hall : (ps.toList.zip (ps.toList.drop 1)).all (fun (a, next) => a.1 < next.1) = true) (ho : Op.lookupswitch.offset ps.toList d (w32 x) = off) (ht : (pc : Int) + off = t) (k : en_Ev pg_P tb pg_cr j (t, lv, st, h, cs, ss) r h') : en_Ev pg_P tb pg_cr j (pc, lv, vI x :: st, h, cs, ss) r h' := by
  refine mv_br (pc' := t) (st' := st) hI ?_ k
  unfold en_br vI
  dsimp only
  rw [w32_toInt, ho, if_pos ⟨hall, by omega⟩, show en_tg pc off = t by unfold en_tg; omega]
/-! fields -/
theorem mv_gf {f t k n : Nat} {fs : List (Nat × Nat)} {q : Nat × Nat} {a : Nat} (hI : en_pI pg_P j pc = some (.getfield f, 3)) (hF : en_pF pg_P j f = some (t, k)) (hs : SH a = (t + 6, n, fs)) (ht : t < 90) (hk : fs[k]? = some q) (kk : en_Ev pg_P tb pg_cr j (pc + 3, lv, sh_v (S.1 a) (S.2.1 a) (S.2.2 a) k q :: st, hp S, cs, ss) r h') : en_Ev pg_P tb pg_cr j (pc, lv, .ref a :: st, hp S, cs, ss) r h' := by
  refine mv_hp (st' := sh_v (S.1 a) (S.2.1 a) (S.2.2 a) k q :: st) (h1 := hp S) hI (fun _ => rfl) (fun _ _ _ => rfl) (fun _ _ _ => rfl) ?_ kk
  unfold en_hp
  dsimp only
  rw [if_pos rfl]
  unfold en_gf
  dsimp only
  rw [hF]
  dsimp only
  rw [hp_obj hs ht]
  dsimp only
  rw [if_pos (Nat.beq_refl t), sh_f_at hk]
  rfl
theorem mv_gfI {f t k n z : Nat} {fs : List (Nat × Nat)} {a : Nat} (hI : en_pI pg_P j pc = some (.getfield f, 3)) (hF : en_pF pg_P j f = some (t, k)) (hs : SH a = (t + 6, n, fs)) (ht : t < 90) (hk : fs[k]? = some (0, z)) (kk : en_Ev pg_P tb pg_cr j (pc + 3, lv, vI (S.1 a k) :: st, hp S, cs, ss) r h') : en_Ev pg_P tb pg_cr j (pc, lv, .ref a :: st, hp S, cs, ss) r h' := mv_gf hI hF hs ht hk kk
theorem mv_gfJ {f t k n z : Nat} {fs : List (Nat × Nat)} {a : Nat} (hI : en_pI pg_P j pc = some (.getfield f, 3)) (hF : en_pF pg_P j f = some (t, k)) (hs : SH a = (t + 6, n, fs)) (ht : t < 90) (hk : fs[k]? = some (1, z)) (kk : en_Ev pg_P tb pg_cr j (pc + 3, lv, vL (S.2.1 a k) :: st, hp S, cs, ss) r h') : en_Ev pg_P tb pg_cr j (pc, lv, .ref a :: st, hp S, cs, ss) r h' := mv_gf hI hF hs ht hk kk
theorem mv_gfR {f t k n z : Nat} {fs : List (Nat × Nat)} {a : Nat} (hI : en_pI pg_P j pc = some (.getfield f, 3)) (hF : en_pF pg_P j f = some (t, k)) (hs : SH a = (t + 6, n, fs)) (ht : t < 90) (hk : fs[k]? = some (2, z)) (kk : en_Ev pg_P tb pg_cr j (pc + 3, lv, .ref z :: st, hp S, cs, ss) r h') : en_Ev pg_P tb pg_cr j (pc, lv, .ref a :: st, hp S, cs, ss) r h' := mv_gf hI hF hs ht hk kk
theorem mv_gfM {f t k n z : Nat} {fs : List (Nat × Nat)} {a : Nat} (hI : en_pI pg_P j pc = some (.getfield f, 3)) (hF : en_pF pg_P j f = some (t, k)) (hs : SH a = (t + 6, n, fs)) (ht : t < 90) (hk : fs[k]? = some (3, z)) (kk : en_Ev pg_P tb pg_cr j (pc + 3, lv, .ref (S.2.2 a k) :: st, hp S, cs, ss) r h') : en_Ev pg_P tb pg_cr j (pc, lv, .ref a :: st, hp S, cs, ss) r h' := mv_gf hI hF hs ht hk kk
theorem mv_pf {f t k n : Nat} {fs : List (Nat × Nat)} {q : Nat × Nat} {a : Nat} {v : Value} {h1 : en_H} (hI : en_pI pg_P j pc = some (.putfield f, 3)) (hF : en_pF pg_P j f = some (t, k)) (hs : SH a = (t + 6, n, fs)) (ht : t < 90) (hk : fs[k]? = some q) (hn : (en_nf (en_pY pg_P t k).1 v && (!(en_pY pg_P t k).2 || Nat.beq (en_ini pg_P j) (t + 1))) = true) (hh : (hp S).set a (.inr (t, (sh_f (S.1 a) (S.2.1 a) (S.2.2 a) fs).set k v)) = h1) (kk : en_Ev pg_P tb pg_cr j (pc + 3, lv, st, h1, cs, ss) r h') : en_Ev pg_P tb pg_cr j (pc, lv, v :: .ref a :: st, hp S, cs, ss) r h' := by
  refine mv_hp (st' := st) (h1 := h1) hI (fun _ => rfl) (fun _ _ _ => rfl) (fun _ _ _ => rfl) ?_ kk
  unfold en_hp
  dsimp only
  rw [if_pos rfl]
  unfold en_pf
  dsimp only
  rw [hF]
  dsimp only
  rw [hp_obj hs ht]
  dsimp only
  rw [Bool.and_eq_true] at hn
  rw [if_pos (by rw [Nat.beq_refl, hn.1, hn.2, sh_f_len, Nat.ble_eq_true_of_le (Nat.succ_le_of_lt (List.getElem?_eq_some_iff.mp hk).1)]; rfl), hh]
  rfl
theorem mv_pfI {f t k n z : Nat} {fs : List (Nat × Nat)} {a : Nat} {v : Int} (hI : en_pI pg_P j pc = some (.putfield f, 3)) (hF : en_pF pg_P j f = some (t, k)) (hs : SH a = (t + 6, n, fs)) (ht : t < 90) (hk : fs[k]? = some (0, z)) (hn : (en_nf (en_pY pg_P t k).1 (vI v) && (!(en_pY pg_P t k).2 || Nat.beq (en_ini pg_P j) (t + 1))) = true) (kk : en_Ev pg_P tb pg_cr j (pc + 3, lv, st, hp (wI S a k v), cs, ss) r h') : en_Ev pg_P tb pg_cr j (pc, lv, vI v :: .ref a :: st, hp S, cs, ss) r h' := mv_pf hI hF hs ht hk hn (hp_pfI hs ht hk) kk
theorem mv_pfJ {f t k n z : Nat} {fs : List (Nat × Nat)} {a : Nat} {v : Int} (hI : en_pI pg_P j pc = some (.putfield f, 3)) (hF : en_pF pg_P j f = some (t, k)) (hs : SH a = (t + 6, n, fs)) (ht : t < 90) (hk : fs[k]? = some (1, z)) (hn : (en_nf (en_pY pg_P t k).1 (vL v) && (!(en_pY pg_P t k).2 || Nat.beq (en_ini pg_P j) (t + 1))) = true) (kk : en_Ev pg_P tb pg_cr j (pc + 3, lv, st, hp (wJ S a k v), cs, ss) r h') : en_Ev pg_P tb pg_cr j (pc, lv, vL v :: .ref a :: st, hp S, cs, ss) r h' := mv_pf hI hF hs ht hk hn (hp_pfJ hs ht hk) kk
theorem mv_pfR {f t k n z v : Nat} {fs : List (Nat × Nat)} {a : Nat} (hI : en_pI pg_P j pc = some (.putfield f, 3)) (hF : en_pF pg_P j f = some (t, k)) (hs : SH a = (t + 6, n, fs)) (ht : t < 90) (hk : fs[k]? = some (3, z)) (hn : (en_nf (en_pY pg_P t k).1 (.ref v) && (!(en_pY pg_P t k).2 || Nat.beq (en_ini pg_P j) (t + 1))) = true) (kk : en_Ev pg_P tb pg_cr j (pc + 3, lv, st, hp (wR S a k v), cs, ss) r h') : en_Ev pg_P tb pg_cr j (pc, lv, .ref v :: .ref a :: st, hp S, cs, ss) r h' := mv_pf hI hF hs ht hk hn (hp_pfR hs ht hk) kk
/-- 0 or 1: what a boolean field, or answer, takes -/
theorem nf_z {v : Int} (h : v = 0 ∨ v = 1) : en_nf .boolean (vI v) = true := by
  rcases h with rfl | rfl <;> rfl
/-! arrays -/
theorem bd_ok {i : Int} {n : Nat} (h : 0 ≤ w32 i ∧ w32 i < n) : en_bad (Int32.ofInt i) n = false := by
  have h1 := oI_nat h.1
  unfold en_bad
  rw [Bool.or_eq_false_iff]
  refine ⟨decide_eq_false (fun q => ?_), ?_⟩
  · rw [show (0 : Int32) = Int32.ofInt 0 from rfl, oI_lt] at q
    have : w32 0 = 0 := rfl
    omega
  · cases hz : Nat.ble n (Int32.ofInt i).toNatClampNeg
    · rfl
    · have := Nat.le_of_ble_eq_true hz
      omega
theorem en_ai_at {t a n : Nat} {i : Int} (hs : SH a = (t, n, [])) (ht : t < 3) (hb : 0 ≤ w32 i ∧ w32 i < n) : en_ai tb t (vI i :: .ref a :: st) (hp S) = some (vI (S.1 a (w32 i)) :: st) := by
  unfold en_ai vI
  dsimp only
  rw [hp_arr hs ht]
  dsimp only
  rw [if_pos (by rw [bd_ok hb, Nat.beq_refl]; rfl), oI_nat hb.1]
theorem mv_ial {a n : Nat} {i : Int} (hI : en_pI pg_P j pc = some (.iaload, 1)) (hs : SH a = (0, n, [])) (hb : 0 ≤ w32 i ∧ w32 i < n) (kk : en_Ev pg_P tb pg_cr j (pc + 1, lv, vI (S.1 a (w32 i)) :: st, hp S, cs, ss) r h') : en_Ev pg_P tb pg_cr j (pc, lv, vI i :: .ref a :: st, hp S, cs, ss) r h' := by
  refine mv_hp (st' := vI (S.1 a (w32 i)) :: st) (h1 := hp S) hI (fun _ => rfl) (fun _ _ _ => rfl) (fun _ _ _ => rfl) ?_ kk
  unfold en_hp
  dsimp only
  rw [if_pos rfl, en_ai_at hs (by decide) hb]
  rfl
theorem mv_bal {a n : Nat} {i : Int} (hI : en_pI pg_P j pc = some (.baload, 1)) (hs : SH a = (1, n, [])) (hb : 0 ≤ w32 i ∧ w32 i < n) (kk : en_Ev pg_P tb pg_cr j (pc + 1, lv, vI (S.1 a (w32 i)) :: st, hp S, cs, ss) r h') : en_Ev pg_P tb pg_cr j (pc, lv, vI i :: .ref a :: st, hp S, cs, ss) r h' := by
  refine mv_hp (st' := vI (S.1 a (w32 i)) :: st) (h1 := hp S) hI (fun _ => rfl) (fun _ _ _ => rfl) (fun _ _ _ => rfl) ?_ kk
  unfold en_hp
  dsimp only
  rw [if_pos rfl, en_ai_at hs (by decide) hb]
theorem mv_zal {a n : Nat} {i : Int} (hI : en_pI pg_P j pc = some (.baload, 1)) (hs : SH a = (2, n, [])) (hb : 0 ≤ w32 i ∧ w32 i < n) (kk : en_Ev pg_P tb pg_cr j (pc + 1, lv, vI (S.1 a (w32 i)) :: st, hp S, cs, ss) r h') : en_Ev pg_P tb pg_cr j (pc, lv, vI i :: .ref a :: st, hp S, cs, ss) r h' := by
  refine mv_hp (st' := vI (S.1 a (w32 i)) :: st) (h1 := hp S) hI (fun _ => rfl) (fun _ _ _ => rfl) (fun _ _ _ => rfl) ?_ kk
  have z : en_ai tb 2 (vI i :: .ref a :: st) (hp S) = some (vI (S.1 a (w32 i)) :: st) := en_ai_at hs (by decide) hb
  have z1 : en_ai tb 1 (vI i :: .ref a :: st) (hp S) = none := by
    unfold en_ai vI
    dsimp only
    rw [hp_arr hs (by decide)]
    rfl
  unfold en_hp
  dsimp only
  rw [if_pos rfl, z1, z]
  rfl
theorem mv_lal {a n : Nat} {i : Int} (hI : en_pI pg_P j pc = some (.laload, 1)) (hs : SH a = (3, n, [])) (hb : 0 ≤ w32 i ∧ w32 i < n) (kk : en_Ev pg_P tb pg_cr j (pc + 1, lv, vL (S.2.1 a (w32 i)) :: st, hp S, cs, ss) r h') : en_Ev pg_P tb pg_cr j (pc, lv, vI i :: .ref a :: st, hp S, cs, ss) r h' := by
  refine mv_hp (st' := vL (S.2.1 a (w32 i)) :: st) (h1 := hp S) hI (fun _ => rfl) (fun _ _ _ => rfl) (fun _ _ _ => rfl) ?_ kk
  unfold en_hp
  dsimp only
  rw [if_pos rfl]
  have z : en_al (vI i :: .ref a :: st) (hp S) = some (vL (S.2.1 a (w32 i)) :: st) := by
    unfold en_al vI
    dsimp only
    rw [hp_larr hs]
    dsimp only
    rw [if_pos (by rw [bd_ok hb]; rfl), oI_nat hb.1]
    rfl
  rw [z]
  rfl
theorem mv_aal {t a n q : Nat} {fs : List (Nat × Nat)} {i : Int} (hI : en_pI pg_P j pc = some (.aaload, 1)) (hs : SH a = (t, n, fs)) (ht : t = 4 ∨ t = 5) (hb : 0 ≤ w32 i ∧ w32 i < n) (hq : sh_r fs (w32 i).toNat = some q) (kk : en_Ev pg_P tb pg_cr j (pc + 1, lv, .ref q :: st, hp S, cs, ss) r h') : en_Ev pg_P tb pg_cr j (pc, lv, vI i :: .ref a :: st, hp S, cs, ss) r h' := by
  refine mv_hp (st' := .ref q :: st) (h1 := hp S) hI (fun _ => rfl) (fun _ _ _ => rfl) (fun _ _ _ => rfl) ?_ kk
  unfold en_hp
  dsimp only
  rw [if_pos rfl]
  have z : en_aa (vI i :: .ref a :: st) (hp S) = some (.ref q :: st) := by
    have h1 := oI_nat hb.1
    unfold en_aa vI
    dsimp only
    rw [hp_rarr hs ht]
    dsimp only
    rw [if_pos (by rw [bd_ok hb]; rcases ht with rfl | rfl <;> rfl), show (Int32.ofInt i).toNatClampNeg = (w32 i).toNat by omega, hq]
    rfl
  rw [z]
  rfl
theorem mv_ias {a n : Nat} {i v : Int} (hI : en_pI pg_P j pc = some (.iastore, 1)) (hs : SH a = (0, n, [])) (hb : 0 ≤ w32 i ∧ w32 i < n) (kk : en_Ev pg_P tb pg_cr j (pc + 1, lv, st, hp (wI S a (w32 i) v), cs, ss) r h') : en_Ev pg_P tb pg_cr j (pc, lv, vI v :: vI i :: .ref a :: st, hp S, cs, ss) r h' := by
  refine mv_hp (st' := st) (h1 := hp (wI S a (w32 i) v)) hI (fun _ => rfl) (fun _ _ _ => rfl) (fun _ _ _ => rfl) ?_ kk
  unfold en_hp
  dsimp only
  rw [if_pos rfl]
  unfold en_si vI
  dsimp only
  rw [hp_arr hs (by decide)]
  dsimp only
  rw [if_pos (by rw [bd_ok hb]; rfl), hp_ast hs (by decide) hb.1 rfl]
  rfl
theorem mv_bas {a n : Nat} {i v : Int} (hI : en_pI pg_P j pc = some (.bastore, 1)) (hs : SH a = (1, n, [])) (hb : 0 ≤ w32 i ∧ w32 i < n) (kk : en_Ev pg_P tb pg_cr j (pc + 1, lv, st, hp (wI S a (w32 i) (b8 v)), cs, ss) r h') : en_Ev pg_P tb pg_cr j (pc, lv, vI v :: vI i :: .ref a :: st, hp S, cs, ss) r h' := by
  refine mv_hp (st' := st) (h1 := hp (wI S a (w32 i) (b8 v))) hI (fun _ => rfl) (fun _ _ _ => rfl) (fun _ _ _ => rfl) ?_ kk
  unfold en_hp
  dsimp only
  rw [if_pos rfl]
  have z : en_si 1 (vp_nar .byte) (vI v :: vI i :: .ref a :: st) (hp S) = some (st, hp (wI S a (w32 i) (b8 v))) := by
    unfold en_si vI
    dsimp only
    rw [hp_arr hs (by decide)]
    dsimp only
    rw [if_pos (by rw [bd_ok hb]; rfl), hp_ast hs (by decide) hb.1 (show vp_nar .byte (Int32.ofInt v) = Int32.ofInt (b8 v) from oI_b v)]
  rw [z]
theorem mv_zas {a n : Nat} {i v : Int} (hI : en_pI pg_P j pc = some (.bastore, 1)) (hs : SH a = (2, n, [])) (hb : 0 ≤ w32 i ∧ w32 i < n) (kk : en_Ev pg_P tb pg_cr j (pc + 1, lv, st, hp (wI S a (w32 i) (v % 2)), cs, ss) r h') : en_Ev pg_P tb pg_cr j (pc, lv, vI v :: vI i :: .ref a :: st, hp S, cs, ss) r h' := by
  refine mv_hp (st' := st) (h1 := hp (wI S a (w32 i) (v % 2))) hI (fun _ => rfl) (fun _ _ _ => rfl) (fun _ _ _ => rfl) ?_ kk
  unfold en_hp
  dsimp only
  rw [if_pos rfl]
  have e : vp_nar .boolean (Int32.ofInt v) = Int32.ofInt (v % 2) := by
    show Int32.ofInt v &&& Int32.ofInt 1 = _
    rw [oI_and, show bA v 1 = v % 2 from bA_m v 1 (by decide)]
  have z : en_si 2 (vp_nar .boolean) (vI v :: vI i :: .ref a :: st) (hp S) = some (st, hp (wI S a (w32 i) (v % 2))) := by
    unfold en_si vI
    dsimp only
    rw [hp_arr hs (by decide)]
    dsimp only
    rw [if_pos (by rw [bd_ok hb]; rfl), hp_ast hs (by decide) hb.1 (v := v % 2) e]
  have z1 : en_si 1 (vp_nar .byte) (vI v :: vI i :: .ref a :: st) (hp S) = none := by
    unfold en_si vI
    dsimp only
    rw [hp_arr hs (by decide)]
    rfl
  rw [z1, z]
  rfl
theorem mv_las {a n : Nat} {i v : Int} (hI : en_pI pg_P j pc = some (.lastore, 1)) (hs : SH a = (3, n, [])) (hb : 0 ≤ w32 i ∧ w32 i < n) (kk : en_Ev pg_P tb pg_cr j (pc + 1, lv, st, hp (wJ S a (w32 i) v), cs, ss) r h') : en_Ev pg_P tb pg_cr j (pc, lv, vL v :: vI i :: .ref a :: st, hp S, cs, ss) r h' := by
  refine mv_hp (st' := st) (h1 := hp (wJ S a (w32 i) v)) hI (fun _ => rfl) (fun _ _ _ => rfl) (fun _ _ _ => rfl) ?_ kk
  unfold en_hp
  dsimp only
  rw [if_pos rfl]
  have z : en_sl (vL v :: vI i :: .ref a :: st) (hp S) = some (st, hp (wJ S a (w32 i) v)) := by
    unfold en_sl vL vI
    dsimp only
    rw [hp_larr hs]
    dsimp only
    rw [if_pos (by rw [bd_ok hb]; rfl), hp_last hs hb.1]
  rw [z]
  rfl
theorem mv_len {t a n : Nat} {fs : List (Nat × Nat)} (hI : en_pI pg_P j pc = some (.arraylength, 1)) (hs : SH a = (t, n, fs)) (ht : t < 6) (kk : en_Ev pg_P tb pg_cr j (pc + 1, lv, vI n :: st, hp S, cs, ss) r h') : en_Ev pg_P tb pg_cr j (pc, lv, .ref a :: st, hp S, cs, ss) r h' := by
  refine mv_hp (st' := vI n :: st) (h1 := hp S) hI (fun _ => rfl) (fun _ _ _ => rfl) (fun _ _ _ => rfl) ?_ kk
  unfold en_hp
  dsimp only
  rw [if_pos rfl]
  have z : en_len tb (.ref a :: st) (hp S) = some (vI n :: st) := by
    unfold en_len vI
    dsimp only
    rw [hp_at (SH_lt hs (by omega)), hs, Int32.ofInt_eq_ofNat]
    match t, ht with
    | 0, _ => rfl
    | 1, _ => rfl
    | 2, _ => rfl
    | 3, _ => rfl
    | 4, _ => rfl
    | 5, _ => rfl
  rw [z]
  rfl
theorem mv_inc (i : Nat) (c : Int) {lv' : en_L} (hI : en_pI pg_P j pc = some (.iinc i c, 3)) (hx : lv[i]? = some (some (vI x))) (hl : en_st1 lv i (vI y) = lv') (he : x + c = y) (k : en_Ev pg_P tb pg_cr j (pc + 3, lv', st, h, cs, ss) r h') : en_Ev pg_P tb pg_cr j (pc, lv, st, h, cs, ss) r h' := by
  refine mv_stp (S1 := (pc + 3, lv', st, h, cs, ss)) hI ?_ k
  have ho : en_lo (.iinc i c) 3 lv st = some (lv', st) := by
    unfold vI at hx
    unfold en_lo en_ld en_sd
    dsimp only
    rw [hx]
    dsimp only
    rw [if_pos (Or.inl rfl), ← Int32.ofInt_add, he]
    exact congrArg (fun z => some (z, st)) hl
  unfold en_stp
  dsimp only
  rw [(en_x2 ho st).1, (en_x2 ho st).2, ho]
theorem mv_zret {v : Int} (b : v = 0 ∨ v = 1) (hI : en_pI pg_P j pc = some (.ireturn, 1)) (hrt : en_rt pg_P j = some .boolean) : en_Ev pg_P tb pg_cr j (pc, lv, [vI v], h, 0, 0) (some (vI v)) h := by
  refine ev_ret hI ?_
  have hn := nf_z b
  unfold vI at hn ⊢
  unfold en_ret
  dsimp only
  rw [hrt]
  dsimp only
  rw [if_pos (by rw [hn]; rfl)]
/-! static arrays -/
theorem en_b_ge (k : Nat) : 453 ≤ en_b + k := Nat.le_trans (Nat.le_of_ble_eq_true rfl : 453 ≤ en_b) (Nat.le_add_right _ _)
theorem en_b_nlt (k : Nat) : ¬ en_b + k < en_b := Nat.not_lt.mpr (Nat.le_add_right en_b k)
def sS (k : Nat) (i : Int) : Int := ((pg_st.getD k []).getD i.toNat 0).toInt
theorem tb_at {L k : Nat} {xs : Nat → Int32} {l : List Int32} (hl : pg_st[k]? = some l) (hk : k < 11) : pg_tb L xs k = some (l.length, fun i => l.getD i 0) := by
  have hbk : Nat.beq k 11 = false := by
    cases hz : Nat.beq k 11
    · rfl
    · have := Nat.eq_of_beq_eq_true hz
      omega
  unfold pg_tb
  rw [hbk, cond_false, hl]
theorem mv_gs {f k : Nat} (hI : en_pI pg_P j pc = some (.getstatic f, 3)) (hG : en_pG pg_P j f = some k) (kk : en_Ev pg_P tb pg_cr j (pc + 3, lv, .ref (en_b + k) :: st, h, cs, ss) r h') : en_Ev pg_P tb pg_cr j (pc, lv, st, h, cs, ss) r h' := by
  refine mv_hp (st' := .ref (en_b + k) :: st) (h1 := h) hI (fun _ => rfl) (fun _ _ _ => rfl) (fun _ _ _ => rfl) ?_ kk
  unfold en_hp
  dsimp only
  rw [if_pos rfl, hG]
theorem en_ai_s {b n : Nat} {f : Nat → Int32} {i : Int32} {hh : en_H} (hb : hh[b]? = none) (hlt : ¬ b < en_b) (ht : tb (b - en_b) = some (n, f)) (h1 : en_bad i n = false) : en_ai tb 0 (.int i :: .ref b :: st) hh = some (.int (f i.toNatClampNeg) :: st) := by
  unfold en_ai
  dsimp only
  rw [hb]
  dsimp only
  rw [if_neg (by rintro (q | q); exact hlt q; exact q rfl), ht]
  dsimp only
  rw [if_pos (by rw [h1]; rfl)]
theorem en_len_s {b n : Nat} {f : Nat → Int32} {hh : en_H} (hb : hh[b]? = none) (hlt : ¬ b < en_b) (ht : tb (b - en_b) = some (n, f)) : en_len tb (.ref b :: st) hh = some (.int (Int32.ofNat n) :: st) := by
  unfold en_len
  dsimp only
  rw [hb]
  dsimp only
  rw [if_neg hlt, ht]
theorem mv_sal {L : Nat} {xs : Nat → Int32} {k : Nat} {i : Int} {l : List Int32} (hI : en_pI pg_P j pc = some (.iaload, 1)) (hl : pg_st[k]? = some l) (hk : k < 11) (hb : 0 ≤ w32 i ∧ w32 i < (l.length : Nat)) (kk : en_Ev pg_P (pg_tb L xs) pg_cr j (pc + 1, lv, vI (sS k (w32 i)) :: st, hp S, cs, ss) r h') : en_Ev pg_P (pg_tb L xs) pg_cr j (pc, lv, vI i :: .ref (en_b + k) :: st, hp S, cs, ss) r h' := by
  refine mv_hp (st' := vI (sS k (w32 i)) :: st) (h1 := hp S) hI (fun _ => rfl) (fun _ _ _ => rfl) (fun _ _ _ => rfl) ?_ kk
  unfold en_hp
  dsimp only
  rw [if_pos rfl]
  have z : en_ai (pg_tb L xs) 0 (vI i :: .ref (en_b + k) :: st) (hp S) = some (vI (sS k (w32 i)) :: st) := by
    have h1 := oI_nat hb.1
    unfold vI
    rw [en_ai_s (hp_none (en_b_ge k)) (en_b_nlt k) (by rw [Nat.add_sub_cancel_left]; exact tb_at hl hk) (bd_ok hb)]
    unfold sS
    rw [Int32.ofInt_toInt, List.getD_eq_getElem?_getD (l := pg_st), hl, Option.getD_some, show (Int32.ofInt i).toNatClampNeg = (w32 i).toNat by omega]
  rw [z]
  rfl
theorem mv_slen {L : Nat} {xs : Nat → Int32} {k : Nat} {l : List Int32} (hI : en_pI pg_P j pc = some (.arraylength, 1)) (hl : pg_st[k]? = some l) (hk : k < 11) (kk : en_Ev pg_P (pg_tb L xs) pg_cr j (pc + 1, lv, vI (l.length : Nat) :: st, hp S, cs, ss) r h') : en_Ev pg_P (pg_tb L xs) pg_cr j (pc, lv, .ref (en_b + k) :: st, hp S, cs, ss) r h' := by
  refine mv_hp (st' := vI (l.length : Nat) :: st) (h1 := hp S) hI (fun _ => rfl) (fun _ _ _ => rfl) (fun _ _ _ => rfl) ?_ kk
  unfold en_hp
  dsimp only
  rw [if_pos rfl]
  have z : en_len (pg_tb L xs) (.ref (en_b + k) :: st) (hp S) = some (vI (l.length : Nat) :: st) := by
    unfold vI
    rw [en_len_s (hp_none (en_b_ge k)) (en_b_nlt k) (by rw [Nat.add_sub_cancel_left]; exact tb_at hl hk), Int32.ofInt_eq_ofNat]
  rw [z]
  rfl
/-! Math, arraycopy -/
theorem mv_max {f : Nat} (hI : en_pI pg_P j pc = some (.invokestatic f, 3)) (hM : en_pM pg_P j f = some (6, 0)) (hf : (Nat.ble 1 (en_rm pg_P j).frames && (Nat.ble (en_ws st + 13) (en_rm pg_P j).locals && (Nat.ble cs (en_mc pg_P j) && Nat.ble ss (en_ms pg_P j)))) = true) (kk : en_Ev pg_P tb pg_cr j (pc + 3, lv, vI (max (w32 x) (w32 y)) :: st, h, cs, ss) r h') : en_Ev pg_P tb pg_cr j (pc, lv, vI y :: vI x :: st, h, cs, ss) r h' := by
  refine mv_hp (st' := vI (max (w32 x) (w32 y)) :: st) (h1 := h) hI (fun _ => rfl) (fun _ _ _ => rfl) (fun _ _ _ => rfl) ?_ kk
  unfold en_hp
  dsimp only
  rw [if_pos rfl, hM]
  show en_up cs ss h (en_mth pg_P j 6 cs ss (vI y :: vI x :: st)) = _
  unfold en_mth vI
  dsimp only
  rw [if_pos hf]
  show some (Value.int (if Int32.ofInt x < Int32.ofInt y then Int32.ofInt y else Int32.ofInt x) :: st, h, cs, ss) = _
  by_cases hc : w32 x < w32 y
  · rw [if_pos (oI_lt.mpr hc), show max (w32 x) (w32 y) = w32 y by omega, oI_w]
  · rw [if_neg (fun q => hc (oI_lt.mp q)), show max (w32 x) (w32 y) = w32 x by omega, oI_w]
theorem mv_min {f : Nat} (hI : en_pI pg_P j pc = some (.invokestatic f, 3)) (hM : en_pM pg_P j f = some (7, 0)) (hf : (Nat.ble 1 (en_rm pg_P j).frames && (Nat.ble (en_ws st + 13) (en_rm pg_P j).locals && (Nat.ble cs (en_mc pg_P j) && Nat.ble ss (en_ms pg_P j)))) = true) (kk : en_Ev pg_P tb pg_cr j (pc + 3, lv, vI (min (w32 x) (w32 y)) :: st, h, cs, ss) r h') : en_Ev pg_P tb pg_cr j (pc, lv, vI y :: vI x :: st, h, cs, ss) r h' := by
  refine mv_hp (st' := vI (min (w32 x) (w32 y)) :: st) (h1 := h) hI (fun _ => rfl) (fun _ _ _ => rfl) (fun _ _ _ => rfl) ?_ kk
  unfold en_hp
  dsimp only
  rw [if_pos rfl, hM]
  show en_up cs ss h (en_mth pg_P j 7 cs ss (vI y :: vI x :: st)) = _
  unfold en_mth vI
  dsimp only
  rw [if_pos hf]
  show some (Value.int (if Int32.ofInt y < Int32.ofInt x then Int32.ofInt y else Int32.ofInt x) :: st, h, cs, ss) = _
  by_cases hc : w32 y < w32 x
  · rw [if_pos (oI_lt.mpr hc), show min (w32 x) (w32 y) = w32 y by omega, oI_w]
  · rw [if_neg (fun q => hc (oI_lt.mp q)), show min (w32 x) (w32 y) = w32 x by omega, oI_w]
theorem mv_lmax {f : Nat} (hI : en_pI pg_P j pc = some (.invokestatic f, 3)) (hM : en_pM pg_P j f = some (8, 0)) (hf : (Nat.ble 1 (en_rm pg_P j).frames && (Nat.ble (en_ws st + 15) (en_rm pg_P j).locals && (Nat.ble cs (en_mc pg_P j) && Nat.ble ss (en_ms pg_P j)))) = true) (kk : en_Ev pg_P tb pg_cr j (pc + 3, lv, vL (max (w64 x) (w64 y)) :: st, h, cs, ss) r h') : en_Ev pg_P tb pg_cr j (pc, lv, vL y :: vL x :: st, h, cs, ss) r h' := by
  refine mv_hp (st' := vL (max (w64 x) (w64 y)) :: st) (h1 := h) hI (fun _ => rfl) (fun _ _ _ => rfl) (fun _ _ _ => rfl) ?_ kk
  unfold en_hp
  dsimp only
  rw [if_pos rfl, hM]
  show en_up cs ss h (en_mth pg_P j 8 cs ss (vL y :: vL x :: st)) = _
  unfold en_mth vL
  dsimp only
  rw [if_pos hf]
  show some (Value.long (if Int64.ofInt y < Int64.ofInt x then Int64.ofInt x else Int64.ofInt y) :: st, h, cs, ss) = _
  by_cases hc : w64 y < w64 x
  · rw [if_pos (oL_lt.mpr hc), show max (w64 x) (w64 y) = w64 x by omega, oL_w]
  · rw [if_neg (fun q => hc (oL_lt.mp q)), show max (w64 x) (w64 y) = w64 y by omega, oL_w]
theorem mv_lmin {f : Nat} (hI : en_pI pg_P j pc = some (.invokestatic f, 3)) (hM : en_pM pg_P j f = some (9, 0)) (hf : (Nat.ble 1 (en_rm pg_P j).frames && (Nat.ble (en_ws st + 15) (en_rm pg_P j).locals && (Nat.ble cs (en_mc pg_P j) && Nat.ble ss (en_ms pg_P j)))) = true) (kk : en_Ev pg_P tb pg_cr j (pc + 3, lv, vL (min (w64 x) (w64 y)) :: st, h, cs, ss) r h') : en_Ev pg_P tb pg_cr j (pc, lv, vL y :: vL x :: st, h, cs, ss) r h' := by
  refine mv_hp (st' := vL (min (w64 x) (w64 y)) :: st) (h1 := h) hI (fun _ => rfl) (fun _ _ _ => rfl) (fun _ _ _ => rfl) ?_ kk
  unfold en_hp
  dsimp only
  rw [if_pos rfl, hM]
  show en_up cs ss h (en_mth pg_P j 9 cs ss (vL y :: vL x :: st)) = _
  unfold en_mth vL
  dsimp only
  rw [if_pos hf]
  show some (Value.long (if Int64.ofInt y < Int64.ofInt x then Int64.ofInt y else Int64.ofInt x) :: st, h, cs, ss) = _
  by_cases hc : w64 y < w64 x
  · rw [if_pos (oL_lt.mpr hc), show min (w64 x) (w64 y) = w64 y by omega, oL_w]
  · rw [if_neg (fun q => hc (oL_lt.mp q)), show min (w64 x) (w64 y) = w64 x by omega, oL_w]
theorem o_neg {x : Int} (h : 0 ≤ w32 x) : ¬ Int32.ofInt x < 0 := by
  rw [show (0 : Int32) = Int32.ofInt 0 from rfl, oI_lt]
  have : w32 0 = 0 := rfl
  omega
theorem mv_cpy {f a b n0 n1 : Nat} {sp dp n : Int} (hI : en_pI pg_P j pc = some (.invokestatic f, 3)) (hM : en_pM pg_P j f = some (5, 0)) (hf : 1 ≤ (en_rm pg_P j).frames ∧ en_ws st + (nativeFrameWords "java/lang/System" "arraycopy" 5 + 11) ≤ (en_rm pg_P j).locals) (hs : SH a = (0, n1, [])) (hs2 : SH b = (0, n0, [])) (hb : 0 ≤ w32 sp ∧ 0 ≤ w32 dp ∧ 0 ≤ w32 n ∧ w32 dp + w32 n ≤ n1 ∧ w32 sp + w32 n ≤ n0) (kk : en_Ev pg_P tb pg_cr j (pc + 3, lv, st, hp (wC S a (w32 dp) (w32 n) (fun k => S.1 b (w32 sp + k))), cs, ss) r h') : en_Ev pg_P tb pg_cr j (pc, lv, vI n :: vI dp :: .ref a :: vI sp :: .ref b :: st, hp S, cs, ss) r h' := by
  refine mv_hp (st' := st) (h1 := hp (wC S a (w32 dp) (w32 n) (fun k => S.1 b (w32 sp + k)))) hI (fun _ => rfl) (fun _ _ _ => rfl) (fun _ _ _ => rfl) ?_ kk
  unfold en_hp
  try dsimp only
  rw [if_pos rfl, hM]
  obtain ⟨b1, b2, b3, b4, b5⟩ := hb
  have c1 := oI_nat b1
  have c2 := oI_nat b2
  have c3 := oI_nat b3
  have z : en_cpy pg_P tb j (vI n :: vI dp :: .ref a :: vI sp :: .ref b :: st) (hp S) = some (st, hp (wC S a (w32 dp) (w32 n) (fun k => S.1 b (w32 sp + k)))) := by
    unfold en_cpy vI
    try dsimp only
    rw [hp_arr hs (by decide)]
    change (ite _ _ _) = _
    rw [if_pos ⟨o_neg b1, o_neg b2, o_neg b3, by omega, hf.1, hf.2⟩, hp_arr hs2 (by decide)]
    change (ite _ _ _) = _
    rw [if_pos (by omega), hp_cpy hs b1 b2 b3 (fun k hk => ?_)]
    show Int32.ofInt (S.1 b (((w32 sp).toNat + k : Nat) : Int)) = Int32.ofInt (S.1 b (w32 sp + k))
    rw [show (((w32 sp).toNat + k : Nat) : Int) = w32 sp + k by omega]
  rw [z]
  rfl
theorem en_cpy_s {b a n0 n1 : Nat} {f g : Nat → Int32} {n dp sp : Int32} {hh : en_H} (ha : hh[a]? = some (.inl (0, n1, .inl g))) (hb : hh[b]? = none) (hlt : ¬ b < en_b) (ht : tb (b - en_b) = some (n0, f)) (h1 : ¬ sp < 0 ∧ ¬ dp < 0 ∧ ¬ n < 0 ∧ dp.toNatClampNeg + n.toNatClampNeg ≤ n1 ∧ 1 ≤ (en_rm pg_P j).frames ∧ en_ws st + (nativeFrameWords "java/lang/System" "arraycopy" 5 + 11) ≤ (en_rm pg_P j).locals) (h2 : sp.toNatClampNeg + n.toNatClampNeg ≤ n0) : en_cpy pg_P tb j (.int n :: .int dp :: .ref a :: .int sp :: .ref b :: st) hh = some (st, hh.set a (.inl (0, n1, .inl (va_cpy f g sp.toNatClampNeg dp.toNatClampNeg n.toNatClampNeg)))) := by
  unfold en_cpy
  dsimp only
  rw [ha]
  change (ite _ _ _) = _
  rw [if_pos h1, hb]
  change (ite _ _ _) = _
  rw [if_neg hlt, ht]
  change (ite _ _ _) = _
  rw [if_pos h2]
theorem mv_scpy {L : Nat} {xs : Nat → Int32} {f a k0 n1 : Nat} {l : List Int32} {sp dp n : Int} (hI : en_pI pg_P j pc = some (.invokestatic f, 3)) (hM : en_pM pg_P j f = some (5, 0)) (hf : 1 ≤ (en_rm pg_P j).frames ∧ en_ws st + (nativeFrameWords "java/lang/System" "arraycopy" 5 + 11) ≤ (en_rm pg_P j).locals) (hs : SH a = (0, n1, [])) (hl : pg_st[k0]? = some l) (hk0 : k0 < 11) (hb : 0 ≤ w32 sp ∧ 0 ≤ w32 dp ∧ 0 ≤ w32 n ∧ w32 dp + w32 n ≤ n1 ∧ w32 sp + w32 n ≤ (l.length : Nat)) (kk : en_Ev pg_P (pg_tb L xs) pg_cr j (pc + 3, lv, st, hp (wC S a (w32 dp) (w32 n) (fun k => sS k0 (w32 sp + k))), cs, ss) r h') : en_Ev pg_P (pg_tb L xs) pg_cr j (pc, lv, vI n :: vI dp :: .ref a :: vI sp :: .ref (en_b + k0) :: st, hp S, cs, ss) r h' := by
  refine mv_hp (st' := st) (h1 := hp (wC S a (w32 dp) (w32 n) (fun k => sS k0 (w32 sp + k)))) hI (fun _ => rfl) (fun _ _ _ => rfl) (fun _ _ _ => rfl) ?_ kk
  unfold en_hp
  try dsimp only
  rw [if_pos rfl, hM]
  obtain ⟨b1, b2, b3, b4, b5⟩ := hb
  have c1 := oI_nat b1
  have c2 := oI_nat b2
  have c3 := oI_nat b3
  have z : en_cpy pg_P (pg_tb L xs) j (vI n :: vI dp :: .ref a :: vI sp :: .ref (en_b + k0) :: st) (hp S) = some (st, hp (wC S a (w32 dp) (w32 n) (fun k => sS k0 (w32 sp + k)))) := by
    unfold vI
    rw [en_cpy_s (hp_arr hs (by decide)) (hp_none (en_b_ge k0)) (en_b_nlt k0) (by rw [Nat.add_sub_cancel_left]; exact tb_at hl hk0) ⟨o_neg b1, o_neg b2, o_neg b3, by omega, hf.1, hf.2⟩ (by omega), hp_cpy hs b1 b2 b3 (fun k hk => ?_)]
    show l.getD ((w32 sp).toNat + k) 0 = Int32.ofInt (sS k0 (w32 sp + k))
    unfold sS
    rw [Int32.ofInt_toInt, List.getD_eq_getElem?_getD (l := pg_st), hl, Option.getD_some, show (w32 sp + (k : Int)).toNat = (w32 sp).toNat + k by omega]
  rw [z]
  rfl
end EnMv
/-! RUNS over the memory -/
/-- method j, from pc on, with these locals and this stack, over memory S, comes to the answer r and memory S' -/
def EV (q : Nat × (Nat → Int32)) (j pc : Nat) (lv : en_L) (st : List Value) (S : ms) (r : Option Value) (S' : ms) : Prop := en_Ev pg_P (pg_tb q.1 q.2) pg_cr j (pc, lv, st, hp S, 0, 0) r (hp S')
section EnCl
variable {tb : en_T} {j pc cs ss : Nat} {lv : en_L} {st : List Value} {h' : en_H} {r r1 : Option Value} {S S1 : ms}
theorem mv_cal {kd j' : Nat} {as rest : List Value} {i : Instr} (hr : en_Ev pg_P tb pg_cr j' (0, en_ent (en_ml pg_P j') as, [], hp S, 0, 0) r1 (hp S1)) (hI : en_pI pg_P j pc = some (i, 3)) (hcal : en_cal pg_P j i 3 st (hp S) = some (kd, j', as, rest)) (hfit : en_fit pg_P j j' rest cs ss = true) (hent : Nat.ble (en_ent1 as).length (en_ml pg_P j') = true) (hmc : en_mc pg_P j' = 0) (hms : en_ms pg_P j' = 0) (k : en_Ev pg_P tb pg_cr j (pc + 3, lv, r1.toList ++ rest, hp S1, cs, ss) r h') : en_Ev pg_P tb pg_cr j (pc, lv, st, hp S, cs, ss) r h' := by
  refine ev_call hI hcal hfit (Nat.le_of_ble_eq_true hent) hr ⟨by rw [hp_len, hp_len, hmc], by rw [hp_len]; decide⟩ ?_
  rw [hmc, hms]
  exact k
theorem mv_cals {j' f na : Nat} {as rest : List Value} (hr : en_Ev pg_P tb pg_cr j' (0, en_ent (en_ml pg_P j') as, [], hp S, 0, 0) r1 (hp S1)) (hI : en_pI pg_P j pc = some (.invokestatic f, 3)) (hM : en_pM pg_P j f = some (0, j')) (hna : en_na pg_P j' = na) (hl : st.take na = as.reverse ∧ st.drop na = rest ∧ Nat.ble na st.length = true) (hfit : en_fit pg_P j j' rest cs ss = true) (hent : Nat.ble (en_ent1 as).length (en_ml pg_P j') = true) (hmc : en_mc pg_P j' = 0) (hms : en_ms pg_P j' = 0) (k : en_Ev pg_P tb pg_cr j (pc + 3, lv, r1.toList ++ rest, hp S1, cs, ss) r h') : en_Ev pg_P tb pg_cr j (pc, lv, st, hp S, cs, ss) r h' := by
  refine mv_cal (kd := 0) hr hI ?_ hfit hent hmc hms k
  unfold en_cal
  try dsimp only
  rw [if_pos rfl, hM]
  change (ite _ _ _) = _
  rw [hna, if_pos (Nat.le_of_ble_eq_true hl.2.2), hl.1, hl.2.1, List.reverse_reverse]
theorem mv_calv {j' f na a n : Nat} {fs : List (Nat × Nat)} {as rest : List Value} (hr : en_Ev pg_P tb pg_cr j' (0, en_ent (en_ml pg_P j') (.ref a :: as), [], hp S, 0, 0) r1 (hp S1)) (hs : SH a = (en_oc pg_P j' + 6, n, fs)) (hI : en_pI pg_P j pc = some (.invokevirtual f, 3)) (hM : en_pM pg_P j f = some (1, j')) (hna : en_na pg_P j' = na) (hl : st.take na = as.reverse ∧ st.drop na = .ref a :: rest) (hoc : Nat.ble (en_oc pg_P j') 80 = true) (hfit : en_fit pg_P j j' rest cs ss = true) (hent : Nat.ble (en_ent1 (.ref a :: as)).length (en_ml pg_P j') = true) (hmc : en_mc pg_P j' = 0) (hms : en_ms pg_P j' = 0) (k : en_Ev pg_P tb pg_cr j (pc + 3, lv, r1.toList ++ rest, hp S1, cs, ss) r h') : en_Ev pg_P tb pg_cr j (pc, lv, st, hp S, cs, ss) r h' := by
  have := Nat.le_of_ble_eq_true hoc
  refine mv_cal (kd := 1) hr hI ?_ hfit hent hmc hms k
  unfold en_cal
  try dsimp only
  rw [if_pos rfl, hM]
  show (match List.drop (en_na pg_P j') st with
    | Value.ref b :: r => (match (hp S)[b]? with
      | some (.inr (ci, _)) => if ci = en_oc pg_P j' then some (1, j', Value.ref b :: (st.take (en_na pg_P j')).reverse, r) else none
      | _ => none)
    | _ => none) = _
  rw [hna, hl.2]
  try dsimp only
  rw [hp_obj hs (by omega)]
  try dsimp only
  rw [if_pos rfl, hl.1, List.reverse_reverse]
end EnCl
