/-! static arrays: what they hold at the start; and the start of the law -/
def pg_st : List (List Int32) := [[3, 4, 5, 6, 7, 8, 9, 10, 11, 13, 15, 17, 19, 23, 27, 31, 35, 43, 51, 59, 67, 83, 99, 115, 131, 163, 195, 227, 258],
  [0, 0, 0, 0, 0, 0, 0, 0, 1, 1, 1, 1, 2, 2, 2, 2, 3, 3, 3, 3, 4, 4, 4, 4, 5, 5, 5, 5, 0],
  [0, 498536548, 997073096, 651767980, 1994146192, 1802195444, 1303535960, 1342533948, -306674912, -267414716, -690576408, -882789492, -1687895376, -2032938284, -1609899400, -1111625188],
  [0, 79764919, 159529838, 222504665, 319059676, 398814059, 445009330, 507990021, 638119352, 583659535, 797628118, 726387553, 890018660, 835552979, 1015980042, 944750013],
  [1, 2, 3, 4, 5, 7, 9, 13, 17, 25, 33, 49, 65, 97, 129, 193, 257, 385, 513, 769, 1025, 1537, 2049, 3073, 4097, 6145, 8193, 12289, 16385, 24577],
  [0, 0, 0, 0, 1, 1, 2, 2, 3, 3, 4, 4, 5, 5, 6, 6, 7, 7, 8, 8, 9, 9, 10, 10, 11, 11, 12, 12, 13, 13],
  [16, 17, 18, 0, 8, 7, 9, 6, 10, 5, 11, 4, 12, 3, 13, 2, 14, 1, 15],
  [117, 115, 116, 97, 114, 0, 48, 48],
  [33, 60, 97, 114, 99, 104, 62, 10],
  [16, 17, 18, 0, 8, 7, 9, 6, 10, 5, 11, 4, 12, 3, 13, 2, 14, 1, 15],
  [33, 60, 97, 114, 99, 104, 62, 10]]
def pg_sp : List ((Nat × Nat) × (Nat × Nat)) := [((2, 86), (1, 8)), ((2, 88), (1, 8)), ((3, 225), (1, 2)), ((3, 230), (1, 2)), ((4, 157), (1, 8)), ((4, 159), (1, 8)), ((4, 203), (1, 8)), ((6, 227), (1, 14)), ((7, 0), (1, 14)), ((10, 185), (1, 15)), ((12, 64), (1, 15))]
/-- the static arrays, and the script (number 11) -/
def pg_tb (L : Nat) (xs : Nat → Int32) : en_T := fun k => bif Nat.beq k 11 then some (L, xs) else match pg_st[k]? with
  | some l => some (l.length, fun i => l.getD i 0)
  | none => none
def pg_fl : List Cond := flatC (Jvm.Cond.and given_1 narrow_1)
def ck_S (k : Nat) : Bool := match pg_SN k with
  | some (C, n, d) => match pg_st[k]? with
    | some l => decide (Cond.arrayOf (.static C n d) .int ∈ pg_fl) && (decide (Cond.eq (.length (.static C n d)) (.int (Int32.ofNat l.length)) ∈ pg_fl) && ((List.range l.length).all (fun j => decide (Cond.eq (.elem (.static C n d) (.int (Int32.ofNat j))) (.int (l.getD j 0)) ∈ pg_fl)) && (Nat.ble l.length 1000 && (decide (en_at (pg_sp.getD k ((99, 0), (99, 0))).1 = some (Cond.laysStatic C n d)) && decide (en_at (pg_sp.getD k ((99, 0), (99, 0))).2 = some (Cond.initialized C))))))
    | none => false
  | none => false
theorem ck_S_0 : ck_S 0 = true := by decide +kernel
theorem ck_S_1 : ck_S 1 = true := by decide +kernel
theorem ck_S_2 : ck_S 2 = true := by decide +kernel
theorem ck_S_3 : ck_S 3 = true := by decide +kernel
theorem ck_S_4 : ck_S 4 = true := by decide +kernel
theorem ck_S_5 : ck_S 5 = true := by decide +kernel
theorem ck_S_6 : ck_S 6 = true := by decide +kernel
theorem ck_S_7 : ck_S 7 = true := by decide +kernel
theorem ck_S_8 : ck_S 8 = true := by decide +kernel
theorem ck_S_9 : ck_S 9 = true := by decide +kernel
theorem ck_S_10 : ck_S 10 = true := by decide +kernel
theorem en_Xof {args : Array Value} {s : State} {tm : Term} {N : Nat} {f : Nat → Int32} (hN : N < 2 ^ 31) (harr : (Cond.arrayOf tm .int).before args s = true) (hlen : (Term.length tm).eval args s none [] s = some (.int (Int32.ofNat N))) (hel : ∀ j : Nat, j < N → (Term.elem tm (.int (Int32.ofNat j))).eval args s none [] s = some (.int (f j))) : ∃ t : Nat, tm.eval args s none [] s = some (.ref t) ∧ va_X t N f s s.heap ∧ t < s.heap.size := by
  obtain ⟨t, ht, cell, h1, h2, h3, h4, h5, h6, -⟩ := va_Tof (A := fun _ => False) (f := fun j => .int (f j)) hN harr hlen hel (fun _ _ h => h)
  obtain ⟨t', cell', ht', hat, -⟩ := Term.length_spec hlen
  have htt : t = t' := Value.ref.inj (Option.some.inj (ht.symm.trans ht'))
  subst htt
  obtain ⟨hcell, -⟩ := State.arrayAt?_spec hat
  have hcc : cell = cell' := Option.some.inj (h1.symm.trans hcell)
  subst hcc
  have hsz : cell.slots.size < 2 ^ 31 := by
    have hv := hlen
    simp only [Term.eval, ht, hat, Option.bind_eq_bind, Option.bind_some] at hv
    by_cases hlt : cell.slots.size < 2147483648
    · exact hlt
    · simp [hlt] at hv
  have he : cell.slots.size = N := (nI_eq hsz hN).mp h5
  exact ⟨t, ht, ⟨cell, h1, h2, h3, he, h6⟩, (Array.getElem?_eq_some_iff.mp h1).1⟩
theorem en_Sof {args : Array Value} {s : State} {k : Nat} (hc : ck_S k = true) (hgv : (Jvm.Cond.and given_1 narrow_1).before args s = true) (hts : ∀ w ∈ lw_tbl, w.before args s = true) : ∃ (C n d : String) (l : List Int32) (t : Nat), pg_SN k = some (C, n, d) ∧ pg_st[k]? = some l ∧ va_X t l.length (fun i => l.getD i 0) s s.heap ∧ t < s.heap.size ∧ va_Z C n d (.ref t) (en_A s.heap.size) s s.heap := by
  unfold ck_S at hc
  split at hc
  · rename_i C n d hs
    split at hc
    · rename_i l hl
      simp only [Bool.and_eq_true, decide_eq_true_eq] at hc
      obtain ⟨c1, c2, c3, c4, c5, c6⟩ := hc
      have hfl : ∀ w ∈ pg_fl, w.before args s = true := flat_of_before _ hgv
      have hlen : l.length ≤ 1000 := Nat.le_of_ble_eq_true c4
      obtain ⟨t, ht, hX, hlt⟩ := en_Xof (N := l.length) (f := fun i => l.getD i 0) (by omega) (hfl _ c1) (va_eqt (hfl _ c2)) (fun j hj => va_eqt (hfl _ (of_decide_eq_true (List.all_eq_true.mp c3 j (List.mem_range.mpr hj)))))
      exact ⟨C, n, d, l, t, hs, hl, hX, hlt, va_Zof (hts _ (en_at_lw c5)) (hts _ (en_at_lw c6)) ht (fun a ha => Nat.not_le.mpr ha)⟩
    · cases hc
  · cases hc
theorem ck_S_all {k : Nat} (hk : k < 11) : ck_S k = true := by
  rcases (show k = 0 ∨ k = 1 ∨ k = 2 ∨ k = 3 ∨ k = 4 ∨ k = 5 ∨ k = 6 ∨ k = 7 ∨ k = 8 ∨ k = 9 ∨ k = 10 by omega) with rfl | rfl | rfl | rfl | rfl | rfl | rfl | rfl | rfl | rfl | rfl
  · exact ck_S_0
  · exact ck_S_1
  · exact ck_S_2
  · exact ck_S_3
  · exact ck_S_4
  · exact ck_S_5
  · exact ck_S_6
  · exact ck_S_7
  · exact ck_S_8
  · exact ck_S_9
  · exact ck_S_10
theorem en_ACp {args : Array Value} {s : State} {ty : FieldType} (h : (Cond.arrayClass ty).before args s = true) : ∃ cA : ClassId, ArrOfT s cA ty ∧ s.vm.findClass ("[" ++ ty.toString) = some cA := by
  obtain ⟨c, k, comp, h1, h2, h3⟩ := Cond.arrayClass_spec h
  exact ⟨c, fun N z => ⟨(fun q hq => by cases hq), k, h2, comp, h3⟩, h1⟩
theorem en_ACo {args : Array Value} {s : State} {C : String} (h : (Cond.arrayOver (.object C)).before args s = true) : ∃ cA : ClassId, ArrOfT s cA (.object C) ∧ va_RA s cA (.object C) := by
  obtain ⟨comp, c, k, h1, -, h2, h3, h4⟩ := Cond.arrayOver_spec h
  exact ⟨c, fun N z => ⟨(fun q hq => by cases hq), k, h2, comp, h3⟩, k, comp, h2, h3, h1, h4⟩
/-- the classes and array classes are known -/
theorem en_Kof {args : Array Value} {s : State} (hts : ∀ w ∈ pg_Ts, w.before args s = true) (hxs : ∀ w ∈ en_Xs, va_Nw w s) : ∃ (D : va_G) (ac : Nat → ClassId), va_K D vwCl (en_tys ac) s := by
  have hk : ∀ ci : Nat, ∃ (cC : ClassId) (iS : Nat → Nat), ∀ q : vw_C, vwCl[ci]? = some q → u_Kn s q.1 q.2.1 q.2.2 cC iS := by
    intro ci
    cases h : vwCl[ci]? with
    | none => exact ⟨0, fun _ => 0, fun q hq => by cases hq⟩
    | some q =>
      obtain ⟨C, T, N⟩ := q
      obtain ⟨g1, -, -, -, -, g2, -⟩ := pg_okC ci C T N h
      obtain ⟨cC, iS, hKn⟩ := u_known hts g1 (hts _ g2)
      exact ⟨cC, iS, fun q hq => by cases hq; exact hKn⟩
  obtain ⟨a0, z0, y0⟩ := en_ACp (hts _ pg_okT.1)
  obtain ⟨a1, z1, y1⟩ := en_ACp (hts _ pg_okT.2.1)
  obtain ⟨a2, z2, y2⟩ := en_ACp (hts _ pg_okT.2.2.1)
  obtain ⟨a3, z3, y3⟩ := en_ACp (hts _ pg_okT.2.2.2)
  obtain ⟨a4, z4, y4⟩ := en_ACo (hxs (.arrayOver (.object "PackingHouse$Row")) (by decide +kernel))
  obtain ⟨a5, z5, y5⟩ := en_ACo (hxs (.arrayOver (.object "PackingHouse$Code")) (by decide +kernel))
  refine ⟨(fun k => Classical.choose (hk k), fun k => Classical.choose (Classical.choose_spec (hk k))), fun t => [a0, a1, a2, a3, a4, a5].getD t 0, fun c q hq => Classical.choose_spec (Classical.choose_spec (hk c)) q hq, fun k q hq => ?_⟩
  match k, hq with
  | 0, hq => cases hq; exact ⟨z0, y0⟩
  | 1, hq => cases hq; exact ⟨z1, y1⟩
  | 2, hq => cases hq; exact ⟨z2, y2⟩
  | 3, hq => cases hq; exact ⟨z3, y3⟩
  | 4, hq => cases hq; exact ⟨z4, y4⟩
  | 5, hq => cases hq; exact ⟨z5, y5⟩
  | n + 6, hq => exact absurd (List.getElem?_eq_some_iff.mp hq).1 (by show ¬ n + 6 < 6; omega)
