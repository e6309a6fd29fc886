/-! iinc, wide -/
theorem mv_incW {tb : en_T} {j pc cs ss : Nat} {lv : en_L} {st : List Value} {h h' : en_H} {r : Option Value} {x y : Int} (i : Nat) (c : Int) {lv' : en_L} (hI : en_pI pg_P j pc = some (.iinc i c, 6)) (hx : lv[i]? = some (some (vI x))) (hl : en_st1 lv i (vI y) = lv') (he : x + c = y) (k : en_Ev pg_P tb pg_cr j (pc + 6, lv', st, h, cs, ss) r h') : en_Ev pg_P tb pg_cr j (pc, lv, st, h, cs, ss) r h' := by
  refine mv_stp (S1 := (pc + 6, lv', st, h, cs, ss)) hI ?_ k
  have ho : en_lo (.iinc i c) 6 lv st = some (lv', st) := by
    unfold vI at hx
    unfold en_lo en_ld en_sd
    dsimp only
    rw [hx]
    dsimp only
    rw [if_pos (Or.inr rfl), ← Int32.ofInt_add, he]
    exact congrArg (fun z => some (z, st)) hl
  unfold en_stp
  dsimp only
  rw [(en_x2 ho st).1, (en_x2 ho st).2, ho]
