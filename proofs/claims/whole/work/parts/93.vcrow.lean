/-! Row: what its methods come to, by program (wip/gen/vc.py) -/
theorem vc_Row_behind {tb : en_T} {r : Option Value} {h' : en_H} (d e : Int32) (n o s : Int32) (N : Nat) (f : Nat → Int32)
    (k1 : (d ≤ 0) → (r = some (.int e) ∧ h' = [.inr (6, [.ref 1, .int n, .int o, .int s]), .inl (0, N, .inl f)]))
    (k2 : (¬ d ≤ 0) → (n < d) → (r = some (.int e) ∧ h' = [.inr (6, [.ref 1, .int n, .int o, .int s]), .inl (0, N, .inl f)]))
    (k3 : (¬ d ≤ 0) → (¬ n < d) → (en_bad (n - d) N = false))
    (k4 : (¬ d ≤ 0) → (¬ n < d) → (r = some (.int (f (n - d).toNatClampNeg)) ∧ h' = [.inr (6, [.ref 1, .int n, .int o, .int s]), .inl (0, N, .inl f)])) : en_Ev pg_P tb pg_cr 22 (0, [some (.ref 0), some (.int d), some (.int e)], [], [.inr (6, [.ref 1, .int n, .int o, .int s]), .inl (0, N, .inl f)], 0, 0) r h' := by
  refine ev_bk 2 (S' := (bif en_cmp .le d 0 then 26 else 4, [some (.ref 0), some (.int d), some (.int e)], [], [.inr (6, [.ref 1, .int n, .int o, .int s]), .inl (0, N, .inl f)], 0, 0)) rfl ?_
  refine ev_if (fun c1 => ?_) (fun c1 => ?_)
  · have c1 := cm_le_t c1
    refine ev_bk 1 (S' := (27, [some (.ref 0), some (.int d), some (.int e)], [.int e], [.inr (6, [.ref 1, .int n, .int o, .int s]), .inl (0, N, .inl f)], 0, 0)) rfl ?_
    rw [(k1 c1).1, (k1 c1).2]
    exact ev_ret rfl rfl
  · have c1 := cm_le_f c1
    refine ev_bk 4 (S' := (bif en_cmp .gt d n then 26 else 12, [some (.ref 0), some (.int d), some (.int e)], [], [.inr (6, [.ref 1, .int n, .int o, .int s]), .inl (0, N, .inl f)], 0, 0)) rfl ?_
    refine ev_if (fun c2 => ?_) (fun c2 => ?_)
    · have c2 := cm_gt_t c2
      refine ev_bk 1 (S' := (27, [some (.ref 0), some (.int d), some (.int e)], [.int e], [.inr (6, [.ref 1, .int n, .int o, .int s]), .inl (0, N, .inl f)], 0, 0)) rfl ?_
      rw [(k2 c1 c2).1, (k2 c1 c2).2]
      exact ev_ret rfl rfl
    · have c2 := cm_gt_f c2
      refine ev_bk 6 (S' := (22, [some (.ref 0), some (.int d), some (.int e)], [.int (n - d), .ref 1], [.inr (6, [.ref 1, .int n, .int o, .int s]), .inl (0, N, .inl f)], 0, 0)) rfl ?_
      refine ev_iald (n := N) (f := f) rfl rfl (k3 c1 c2) ?_
      refine ev_bk 1 (S' := (27, [some (.ref 0), some (.int d), some (.int e)], [.int (f (n - d).toNatClampNeg)], [.inr (6, [.ref 1, .int n, .int o, .int s]), .inl (0, N, .inl f)], 0, 0)) rfl ?_
      rw [(k4 c1 c2).1, (k4 c1 c2).2]
      exact ev_ret rfl rfl
theorem vc_Row_adler {tb : en_T} {r : Option Value} {h' : en_H} (fr to : Int32) (N : Nat) (f : Nat → Int32)
    (k1 : (en_Ev pg_P tb pg_cr 27 (8, [some (.ref 0), some (.int fr), some (.int to), some (.int 1), some (.int 0), some (.int fr)], [], [.inl (0, N, .inl f)], 0, 0) r h')) : en_Ev pg_P tb pg_cr 27 (0, [some (.ref 0), some (.int fr), some (.int to), none, none, none], [], [.inl (0, N, .inl f)], 0, 0) r h' := by
  refine ev_bk 6 (S' := (8, [some (.ref 0), some (.int fr), some (.int to), some (.int 1), some (.int 0), some (.int fr)], [], [.inl (0, N, .inl f)], 0, 0)) rfl ?_
  exact k1
theorem vc_Row_adler_8 {tb : en_T} {r : Option Value} {h' : en_H} (fr to a b i : Int32) (N : Nat) (f : Nat → Int32)
    (k1 : (to ≤ i) → (r = some (.int ((b * 65536) + a)) ∧ h' = [.inl (0, N, .inl f)]))
    (k2 : (¬ to ≤ i) → (en_bad i N = false))
    (k3 : (¬ to ≤ i) → ((a + (f i.toNatClampNeg)) < 65521) → ((b + (a + (f i.toNatClampNeg))) < 65521) → (en_Ev pg_P tb pg_cr 27 (8, [some (.ref 0), some (.int fr), some (.int to), some (.int (a + (f i.toNatClampNeg))), some (.int (b + (a + (f i.toNatClampNeg)))), some (.int (i + 1))], [], [.inl (0, N, .inl f)], 0, 0) r h'))
    (k4 : (¬ to ≤ i) → ((a + (f i.toNatClampNeg)) < 65521) → (¬ (b + (a + (f i.toNatClampNeg))) < 65521) → (en_Ev pg_P tb pg_cr 27 (8, [some (.ref 0), some (.int fr), some (.int to), some (.int (a + (f i.toNatClampNeg))), some (.int ((b + (a + (f i.toNatClampNeg))) - 65521)), some (.int (i + 1))], [], [.inl (0, N, .inl f)], 0, 0) r h'))
    (k5 : (¬ to ≤ i) → (¬ (a + (f i.toNatClampNeg)) < 65521) → ((b + ((a + (f i.toNatClampNeg)) - 65521)) < 65521) → (en_Ev pg_P tb pg_cr 27 (8, [some (.ref 0), some (.int fr), some (.int to), some (.int ((a + (f i.toNatClampNeg)) - 65521)), some (.int (b + ((a + (f i.toNatClampNeg)) - 65521))), some (.int (i + 1))], [], [.inl (0, N, .inl f)], 0, 0) r h'))
    (k6 : (¬ to ≤ i) → (¬ (a + (f i.toNatClampNeg)) < 65521) → (¬ (b + ((a + (f i.toNatClampNeg)) - 65521)) < 65521) → (en_Ev pg_P tb pg_cr 27 (8, [some (.ref 0), some (.int fr), some (.int to), some (.int ((a + (f i.toNatClampNeg)) - 65521)), some (.int ((b + ((a + (f i.toNatClampNeg)) - 65521)) - 65521)), some (.int (i + 1))], [], [.inl (0, N, .inl f)], 0, 0) r h')) : en_Ev pg_P tb pg_cr 27 (8, [some (.ref 0), some (.int fr), some (.int to), some (.int a), some (.int b), some (.int i)], [], [.inl (0, N, .inl f)], 0, 0) r h' := by
  refine ev_bk 3 (S' := (bif en_cmp .ge i to then 58 else 14, [some (.ref 0), some (.int fr), some (.int to), some (.int a), some (.int b), some (.int i)], [], [.inl (0, N, .inl f)], 0, 0)) rfl ?_
  refine ev_if (fun c1 => ?_) (fun c1 => ?_)
  · have c1 := cm_ge_t c1
    refine ev_bk 5 (S' := (65, [some (.ref 0), some (.int fr), some (.int to), some (.int a), some (.int b), some (.int i)], [.int ((b * 65536) + a)], [.inl (0, N, .inl f)], 0, 0)) rfl ?_
    rw [(k1 c1).1, (k1 c1).2]
    exact ev_ret rfl rfl
  · have c1 := cm_ge_f c1
    refine ev_bk 3 (S' := (18, [some (.ref 0), some (.int fr), some (.int to), some (.int a), some (.int b), some (.int i)], [.int i, .ref 0, .int a], [.inl (0, N, .inl f)], 0, 0)) rfl ?_
    refine ev_iald (n := N) (f := f) rfl rfl (k2 c1) ?_
    refine ev_bk 5 (S' := (bif en_cmp .lt (a + (f i.toNatClampNeg)) 65521 then 32 else 27, [some (.ref 0), some (.int fr), some (.int to), some (.int (a + (f i.toNatClampNeg))), some (.int b), some (.int i)], [], [.inl (0, N, .inl f)], 0, 0)) rfl ?_
    refine ev_if (fun c2 => ?_) (fun c2 => ?_)
    · have c2 := cm_lt_t c2
      refine ev_bk 7 (S' := (bif en_cmp .lt (b + (a + (f i.toNatClampNeg))) 65521 then 52 else 45, [some (.ref 0), some (.int fr), some (.int to), some (.int (a + (f i.toNatClampNeg))), some (.int (b + (a + (f i.toNatClampNeg)))), some (.int i)], [], [.inl (0, N, .inl f)], 0, 0)) rfl ?_
      refine ev_if (fun c3 => ?_) (fun c3 => ?_)
      · have c3 := cm_lt_t c3
        refine ev_bk 2 (S' := (8, [some (.ref 0), some (.int fr), some (.int to), some (.int (a + (f i.toNatClampNeg))), some (.int (b + (a + (f i.toNatClampNeg)))), some (.int (i + 1))], [], [.inl (0, N, .inl f)], 0, 0)) rfl ?_
        exact k3 c1 c2 c3
      · have c3 := cm_lt_f c3
        refine ev_bk 6 (S' := (8, [some (.ref 0), some (.int fr), some (.int to), some (.int (a + (f i.toNatClampNeg))), some (.int ((b + (a + (f i.toNatClampNeg))) - 65521)), some (.int (i + 1))], [], [.inl (0, N, .inl f)], 0, 0)) rfl ?_
        exact k4 c1 c2 c3
    · have c2 := cm_lt_f c2
      refine ev_bk 11 (S' := (bif en_cmp .lt (b + ((a + (f i.toNatClampNeg)) - 65521)) 65521 then 52 else 45, [some (.ref 0), some (.int fr), some (.int to), some (.int ((a + (f i.toNatClampNeg)) - 65521)), some (.int (b + ((a + (f i.toNatClampNeg)) - 65521))), some (.int i)], [], [.inl (0, N, .inl f)], 0, 0)) rfl ?_
      refine ev_if (fun c4 => ?_) (fun c4 => ?_)
      · have c4 := cm_lt_t c4
        refine ev_bk 2 (S' := (8, [some (.ref 0), some (.int fr), some (.int to), some (.int ((a + (f i.toNatClampNeg)) - 65521)), some (.int (b + ((a + (f i.toNatClampNeg)) - 65521))), some (.int (i + 1))], [], [.inl (0, N, .inl f)], 0, 0)) rfl ?_
        exact k5 c1 c2 c4
      · have c4 := cm_lt_f c4
        refine ev_bk 6 (S' := (8, [some (.ref 0), some (.int fr), some (.int to), some (.int ((a + (f i.toNatClampNeg)) - 65521)), some (.int ((b + ((a + (f i.toNatClampNeg)) - 65521)) - 65521)), some (.int (i + 1))], [], [.inl (0, N, .inl f)], 0, 0)) rfl ?_
        exact k6 c1 c2 c4
theorem vc_Row_word {tb : en_T} {r : Option Value} {h' : en_H} (q : Int32) (N : Nat) (f : Nat → Int32)
    (k1 : (en_bad q N = false))
    (k2 : (en_bad (q + 1) N = false))
    (k3 : (en_bad (q + 2) N = false))
    (k4 : (en_bad (q + 3) N = false))
    (k5 : (r = some (.int ((((f q.toNatClampNeg) ||| ((f (q + 1).toNatClampNeg) <<< (8 &&& 31))) ||| ((f (q + 2).toNatClampNeg) <<< (16 &&& 31))) ||| ((f (q + 3).toNatClampNeg) <<< (24 &&& 31)))) ∧ h' = [.inl (0, N, .inl f)])) : en_Ev pg_P tb pg_cr 31 (0, [some (.ref 0), some (.int q)], [], [.inl (0, N, .inl f)], 0, 0) r h' := by
  refine ev_bk 2 (S' := (2, [some (.ref 0), some (.int q)], [.int q, .ref 0], [.inl (0, N, .inl f)], 0, 0)) rfl ?_
  refine ev_iald (n := N) (f := f) rfl rfl (k1) ?_
  refine ev_bk 4 (S' := (7, [some (.ref 0), some (.int q)], [.int (q + 1), .ref 0, .int (f q.toNatClampNeg)], [.inl (0, N, .inl f)], 0, 0)) rfl ?_
  refine ev_iald (n := N) (f := f) rfl rfl (k2) ?_
  refine ev_bk 7 (S' := (16, [some (.ref 0), some (.int q)], [.int (q + 2), .ref 0, .int ((f q.toNatClampNeg) ||| ((f (q + 1).toNatClampNeg) <<< (8 &&& 31)))], [.inl (0, N, .inl f)], 0, 0)) rfl ?_
  refine ev_iald (n := N) (f := f) rfl rfl (k3) ?_
  refine ev_bk 7 (S' := (25, [some (.ref 0), some (.int q)], [.int (q + 3), .ref 0, .int (((f q.toNatClampNeg) ||| ((f (q + 1).toNatClampNeg) <<< (8 &&& 31))) ||| ((f (q + 2).toNatClampNeg) <<< (16 &&& 31)))], [.inl (0, N, .inl f)], 0, 0)) rfl ?_
  refine ev_iald (n := N) (f := f) rfl rfl (k4) ?_
  refine ev_bk 3 (S' := (30, [some (.ref 0), some (.int q)], [.int ((((f q.toNatClampNeg) ||| ((f (q + 1).toNatClampNeg) <<< (8 &&& 31))) ||| ((f (q + 2).toNatClampNeg) <<< (16 &&& 31))) ||| ((f (q + 3).toNatClampNeg) <<< (24 &&& 31)))], [.inl (0, N, .inl f)], 0, 0)) rfl ?_
  rw [(k5).1, (k5).2]
  exact ev_ret rfl rfl
theorem vc_Row_round {tb : en_T} {r : Option Value} {h' : en_H} (fr to : Int32) (N : Nat) (f : Nat → Int32)
    (k1 : (en_Ev pg_P tb pg_cr 28 (5, [some (.ref 0), some (.int fr), some (.int to), some (.int ((-1))), some (.int fr)], [], [.inl (0, N, .inl f)], 0, 0) r h')) : en_Ev pg_P tb pg_cr 28 (0, [some (.ref 0), some (.int fr), some (.int to), none, none], [], [.inl (0, N, .inl f)], 0, 0) r h' := by
  refine ev_bk 4 (S' := (5, [some (.ref 0), some (.int fr), some (.int to), some (.int ((-1))), some (.int fr)], [], [.inl (0, N, .inl f)], 0, 0)) rfl ?_
  exact k1
theorem vc_Row_round_5 {L : Nat} {xs : Nat → Int32} {r : Option Value} {h' : en_H} (fr to a i : Int32) (N : Nat) (f : Nat → Int32)
    (k1 : (to ≤ i) → (r = some (.int (a ^^^ ((-1)))) ∧ h' = [.inl (0, N, .inl f)]))
    (k2 : (¬ to ≤ i) → (en_bad i N = false))
    (k3 : (¬ to ≤ i) → (en_bad ((a ^^^ (f i.toNatClampNeg)) &&& 15) 16 = false))
    (k4 : (¬ to ≤ i) → (en_bad (((((a ^^^ (f i.toNatClampNeg)).toUInt32 >>> ((4 : Int32).toUInt32 &&& Int32.toUInt32 31)).toInt32) ^^^ (st_2 ((a ^^^ (f i.toNatClampNeg)) &&& 15).toNatClampNeg)) &&& 15) 16 = false))
    (k5 : (¬ to ≤ i) → (en_Ev pg_P (pg_tb L xs) pg_cr 28 (5, [some (.ref 0), some (.int fr), some (.int to), some (.int (((((((a ^^^ (f i.toNatClampNeg)).toUInt32 >>> ((4 : Int32).toUInt32 &&& Int32.toUInt32 31)).toInt32) ^^^ (st_2 ((a ^^^ (f i.toNatClampNeg)) &&& 15).toNatClampNeg)).toUInt32 >>> ((4 : Int32).toUInt32 &&& Int32.toUInt32 31)).toInt32) ^^^ (st_2 (((((a ^^^ (f i.toNatClampNeg)).toUInt32 >>> ((4 : Int32).toUInt32 &&& Int32.toUInt32 31)).toInt32) ^^^ (st_2 ((a ^^^ (f i.toNatClampNeg)) &&& 15).toNatClampNeg)) &&& 15).toNatClampNeg))), some (.int (i + 1))], [], [.inl (0, N, .inl f)], 0, 0) r h')) : en_Ev pg_P (pg_tb L xs) pg_cr 28 (5, [some (.ref 0), some (.int fr), some (.int to), some (.int a), some (.int i)], [], [.inl (0, N, .inl f)], 0, 0) r h' := by
  refine ev_bk 3 (S' := (bif en_cmp .ge i to then 50 else 11, [some (.ref 0), some (.int fr), some (.int to), some (.int a), some (.int i)], [], [.inl (0, N, .inl f)], 0, 0)) rfl ?_
  refine ev_if (fun c1 => ?_) (fun c1 => ?_)
  · have c1 := cm_ge_t c1
    refine ev_bk 3 (S' := (53, [some (.ref 0), some (.int fr), some (.int to), some (.int a), some (.int i)], [.int (a ^^^ ((-1)))], [.inl (0, N, .inl f)], 0, 0)) rfl ?_
    rw [(k1 c1).1, (k1 c1).2]
    exact ev_ret rfl rfl
  · have c1 := cm_ge_f c1
    refine ev_bk 3 (S' := (15, [some (.ref 0), some (.int fr), some (.int to), some (.int a), some (.int i)], [.int i, .ref 0, .int a], [.inl (0, N, .inl f)], 0, 0)) rfl ?_
    refine ev_iald (n := N) (f := f) rfl rfl (k2 c1) ?_
    refine ev_bk 9 (S' := (28, [some (.ref 0), some (.int fr), some (.int to), some (.int (a ^^^ (f i.toNatClampNeg))), some (.int i)], [.int ((a ^^^ (f i.toNatClampNeg)) &&& 15), .ref ((en_b + 2)), .int (((a ^^^ (f i.toNatClampNeg)).toUInt32 >>> ((4 : Int32).toUInt32 &&& Int32.toUInt32 31)).toInt32)], [.inl (0, N, .inl f)], 0, 0)) rfl ?_
    refine ev_sld 2 (n := 16) (f := st_2) rfl (Nat.le_of_ble_eq_true rfl) rfl (k3 c1) ?_
    refine ev_bk 9 (S' := (41, [some (.ref 0), some (.int fr), some (.int to), some (.int ((((a ^^^ (f i.toNatClampNeg)).toUInt32 >>> ((4 : Int32).toUInt32 &&& Int32.toUInt32 31)).toInt32) ^^^ (st_2 ((a ^^^ (f i.toNatClampNeg)) &&& 15).toNatClampNeg))), some (.int i)], [.int (((((a ^^^ (f i.toNatClampNeg)).toUInt32 >>> ((4 : Int32).toUInt32 &&& Int32.toUInt32 31)).toInt32) ^^^ (st_2 ((a ^^^ (f i.toNatClampNeg)) &&& 15).toNatClampNeg)) &&& 15), .ref ((en_b + 2)), .int ((((((a ^^^ (f i.toNatClampNeg)).toUInt32 >>> ((4 : Int32).toUInt32 &&& Int32.toUInt32 31)).toInt32) ^^^ (st_2 ((a ^^^ (f i.toNatClampNeg)) &&& 15).toNatClampNeg)).toUInt32 >>> ((4 : Int32).toUInt32 &&& Int32.toUInt32 31)).toInt32)], [.inl (0, N, .inl f)], 0, 0)) rfl ?_
    refine ev_sld 2 (n := 16) (f := st_2) rfl (Nat.le_of_ble_eq_true rfl) rfl (k4 c1) ?_
    refine ev_bk 4 (S' := (5, [some (.ref 0), some (.int fr), some (.int to), some (.int (((((((a ^^^ (f i.toNatClampNeg)).toUInt32 >>> ((4 : Int32).toUInt32 &&& Int32.toUInt32 31)).toInt32) ^^^ (st_2 ((a ^^^ (f i.toNatClampNeg)) &&& 15).toNatClampNeg)).toUInt32 >>> ((4 : Int32).toUInt32 &&& Int32.toUInt32 31)).toInt32) ^^^ (st_2 (((((a ^^^ (f i.toNatClampNeg)).toUInt32 >>> ((4 : Int32).toUInt32 &&& Int32.toUInt32 31)).toInt32) ^^^ (st_2 ((a ^^^ (f i.toNatClampNeg)) &&& 15).toNatClampNeg)) &&& 15).toNatClampNeg))), some (.int (i + 1))], [], [.inl (0, N, .inl f)], 0, 0)) rfl ?_
    exact k5 c1
theorem vc_Row_turned {tb : en_T} {r : Option Value} {h' : en_H} (fr to : Int32) (N : Nat) (f : Nat → Int32)
    (k1 : (en_Ev pg_P tb pg_cr 29 (5, [some (.ref 0), some (.int fr), some (.int to), some (.int ((-1))), some (.int fr)], [], [.inl (0, N, .inl f)], 0, 0) r h')) : en_Ev pg_P tb pg_cr 29 (0, [some (.ref 0), some (.int fr), some (.int to), none, none], [], [.inl (0, N, .inl f)], 0, 0) r h' := by
  refine ev_bk 4 (S' := (5, [some (.ref 0), some (.int fr), some (.int to), some (.int ((-1))), some (.int fr)], [], [.inl (0, N, .inl f)], 0, 0)) rfl ?_
  exact k1
theorem vc_Row_turned_5 {L : Nat} {xs : Nat → Int32} {r : Option Value} {h' : en_H} (fr to a i : Int32) (N : Nat) (f : Nat → Int32)
    (k1 : (to ≤ i) → (r = some (.int (a ^^^ ((-1)))) ∧ h' = [.inl (0, N, .inl f)]))
    (k2 : (¬ to ≤ i) → (en_bad i N = false))
    (k3 : (¬ to ≤ i) → (en_bad (((a ^^^ ((f i.toNatClampNeg) <<< (24 &&& 31))).toUInt32 >>> ((28 : Int32).toUInt32 &&& Int32.toUInt32 31)).toInt32) 16 = false))
    (k4 : (¬ to ≤ i) → (en_bad (((((a ^^^ ((f i.toNatClampNeg) <<< (24 &&& 31))) <<< (4 &&& 31)) ^^^ (st_3 (((a ^^^ ((f i.toNatClampNeg) <<< (24 &&& 31))).toUInt32 >>> ((28 : Int32).toUInt32 &&& Int32.toUInt32 31)).toInt32).toNatClampNeg)).toUInt32 >>> ((28 : Int32).toUInt32 &&& Int32.toUInt32 31)).toInt32) 16 = false))
    (k5 : (¬ to ≤ i) → (en_Ev pg_P (pg_tb L xs) pg_cr 29 (5, [some (.ref 0), some (.int fr), some (.int to), some (.int (((((a ^^^ ((f i.toNatClampNeg) <<< (24 &&& 31))) <<< (4 &&& 31)) ^^^ (st_3 (((a ^^^ ((f i.toNatClampNeg) <<< (24 &&& 31))).toUInt32 >>> ((28 : Int32).toUInt32 &&& Int32.toUInt32 31)).toInt32).toNatClampNeg)) <<< (4 &&& 31)) ^^^ (st_3 (((((a ^^^ ((f i.toNatClampNeg) <<< (24 &&& 31))) <<< (4 &&& 31)) ^^^ (st_3 (((a ^^^ ((f i.toNatClampNeg) <<< (24 &&& 31))).toUInt32 >>> ((28 : Int32).toUInt32 &&& Int32.toUInt32 31)).toInt32).toNatClampNeg)).toUInt32 >>> ((28 : Int32).toUInt32 &&& Int32.toUInt32 31)).toInt32).toNatClampNeg))), some (.int (i + 1))], [], [.inl (0, N, .inl f)], 0, 0) r h')) : en_Ev pg_P (pg_tb L xs) pg_cr 29 (5, [some (.ref 0), some (.int fr), some (.int to), some (.int a), some (.int i)], [], [.inl (0, N, .inl f)], 0, 0) r h' := by
  refine ev_bk 3 (S' := (bif en_cmp .ge i to then 53 else 11, [some (.ref 0), some (.int fr), some (.int to), some (.int a), some (.int i)], [], [.inl (0, N, .inl f)], 0, 0)) rfl ?_
  refine ev_if (fun c1 => ?_) (fun c1 => ?_)
  · have c1 := cm_ge_t c1
    refine ev_bk 3 (S' := (56, [some (.ref 0), some (.int fr), some (.int to), some (.int a), some (.int i)], [.int (a ^^^ ((-1)))], [.inl (0, N, .inl f)], 0, 0)) rfl ?_
    rw [(k1 c1).1, (k1 c1).2]
    exact ev_ret rfl rfl
  · have c1 := cm_ge_f c1
    refine ev_bk 3 (S' := (15, [some (.ref 0), some (.int fr), some (.int to), some (.int a), some (.int i)], [.int i, .ref 0, .int a], [.inl (0, N, .inl f)], 0, 0)) rfl ?_
    refine ev_iald (n := N) (f := f) rfl rfl (k2 c1) ?_
    refine ev_bk 11 (S' := (31, [some (.ref 0), some (.int fr), some (.int to), some (.int (a ^^^ ((f i.toNatClampNeg) <<< (24 &&& 31)))), some (.int i)], [.int (((a ^^^ ((f i.toNatClampNeg) <<< (24 &&& 31))).toUInt32 >>> ((28 : Int32).toUInt32 &&& Int32.toUInt32 31)).toInt32), .ref ((en_b + 3)), .int ((a ^^^ ((f i.toNatClampNeg) <<< (24 &&& 31))) <<< (4 &&& 31))], [.inl (0, N, .inl f)], 0, 0)) rfl ?_
    refine ev_sld 3 (n := 16) (f := st_3) rfl (Nat.le_of_ble_eq_true rfl) rfl (k3 c1) ?_
    refine ev_bk 9 (S' := (44, [some (.ref 0), some (.int fr), some (.int to), some (.int (((a ^^^ ((f i.toNatClampNeg) <<< (24 &&& 31))) <<< (4 &&& 31)) ^^^ (st_3 (((a ^^^ ((f i.toNatClampNeg) <<< (24 &&& 31))).toUInt32 >>> ((28 : Int32).toUInt32 &&& Int32.toUInt32 31)).toInt32).toNatClampNeg))), some (.int i)], [.int (((((a ^^^ ((f i.toNatClampNeg) <<< (24 &&& 31))) <<< (4 &&& 31)) ^^^ (st_3 (((a ^^^ ((f i.toNatClampNeg) <<< (24 &&& 31))).toUInt32 >>> ((28 : Int32).toUInt32 &&& Int32.toUInt32 31)).toInt32).toNatClampNeg)).toUInt32 >>> ((28 : Int32).toUInt32 &&& Int32.toUInt32 31)).toInt32), .ref ((en_b + 3)), .int ((((a ^^^ ((f i.toNatClampNeg) <<< (24 &&& 31))) <<< (4 &&& 31)) ^^^ (st_3 (((a ^^^ ((f i.toNatClampNeg) <<< (24 &&& 31))).toUInt32 >>> ((28 : Int32).toUInt32 &&& Int32.toUInt32 31)).toInt32).toNatClampNeg)) <<< (4 &&& 31))], [.inl (0, N, .inl f)], 0, 0)) rfl ?_
    refine ev_sld 3 (n := 16) (f := st_3) rfl (Nat.le_of_ble_eq_true rfl) rfl (k4 c1) ?_
    refine ev_bk 4 (S' := (5, [some (.ref 0), some (.int fr), some (.int to), some (.int (((((a ^^^ ((f i.toNatClampNeg) <<< (24 &&& 31))) <<< (4 &&& 31)) ^^^ (st_3 (((a ^^^ ((f i.toNatClampNeg) <<< (24 &&& 31))).toUInt32 >>> ((28 : Int32).toUInt32 &&& Int32.toUInt32 31)).toInt32).toNatClampNeg)) <<< (4 &&& 31)) ^^^ (st_3 (((((a ^^^ ((f i.toNatClampNeg) <<< (24 &&& 31))) <<< (4 &&& 31)) ^^^ (st_3 (((a ^^^ ((f i.toNatClampNeg) <<< (24 &&& 31))).toUInt32 >>> ((28 : Int32).toUInt32 &&& Int32.toUInt32 31)).toInt32).toNatClampNeg)).toUInt32 >>> ((28 : Int32).toUInt32 &&& Int32.toUInt32 31)).toInt32).toNatClampNeg))), some (.int (i + 1))], [], [.inl (0, N, .inl f)], 0, 0)) rfl ?_
    exact k5 c1
theorem vc_Row_addLow {tb : en_T} {r : Option Value} {h' : en_H} (v : Int64) (k : Int32) (n o s : Int32) (N : Nat) (f : Nat → Int32)
    (k1 : (en_Ev pg_P tb pg_cr 57 (3, [some (.ref 0), some (.long v), none, some (.int k), some (.int 0)], [], [.inr (6, [.ref 1, .int n, .int o, .int s]), .inl (0, N, .inl f)], 0, 0) r h')) : en_Ev pg_P tb pg_cr 57 (0, [some (.ref 0), some (.long v), none, some (.int k), none], [], [.inr (6, [.ref 1, .int n, .int o, .int s]), .inl (0, N, .inl f)], 0, 0) r h' := by
  refine ev_bk 2 (S' := (3, [some (.ref 0), some (.long v), none, some (.int k), some (.int 0)], [], [.inr (6, [.ref 1, .int n, .int o, .int s]), .inl (0, N, .inl f)], 0, 0)) rfl ?_
  exact k1
theorem vc_Row_addLow_3 {tb : en_T} {r : Option Value} {h' : en_H} (v : Int64) (k i : Int32) (n o s : Int32) (N : Nat) (f : Nat → Int32) (q1 : rw_S)
    (k1 : (k ≤ i) → (r = none ∧ h' = [.inr (6, [.ref 1, .int n, .int o, .int s]), .inl (0, N, .inl f)]))
    (k2 : (¬ k ≤ i) → (en_Ev pg_P tb pg_cr 19 (0, en_ent (en_ml pg_P 19) [.ref 0, .int (((v.toUInt64 >>> ((8 * i).toInt64.toUInt64 &&& Int64.toUInt64 63)).toInt64).toInt32)], [], (rw_c N (n, o, s, f)), 0, 0) none (rw_c N q1)))
    (k3 : (¬ k ≤ i) → (en_Ev pg_P tb pg_cr 57 (3, [some (.ref 0), some (.long v), none, some (.int k), some (.int (i + 1))], [], [.inr (6, [.ref 1, .int q1.1, .int q1.2.1, .int q1.2.2.1]), .inl (0, N, .inl q1.2.2.2)], 0, 0) r h')) : en_Ev pg_P tb pg_cr 57 (3, [some (.ref 0), some (.long v), none, some (.int k), some (.int i)], [], [.inr (6, [.ref 1, .int n, .int o, .int s]), .inl (0, N, .inl f)], 0, 0) r h' := by
  refine ev_bk 3 (S' := (bif en_cmp .ge i k then 27 else 9, [some (.ref 0), some (.long v), none, some (.int k), some (.int i)], [], [.inr (6, [.ref 1, .int n, .int o, .int s]), .inl (0, N, .inl f)], 0, 0)) rfl ?_
  refine ev_if (fun c1 => ?_) (fun c1 => ?_)
  · have c1 := cm_ge_t c1
    rw [(k1 c1).1, (k1 c1).2]
    exact ev_ret rfl rfl
  · have c1 := cm_ge_f c1
    refine ev_bk 7 (S' := (18, [some (.ref 0), some (.long v), none, some (.int k), some (.int i)], [.int (((v.toUInt64 >>> ((8 * i).toInt64.toUInt64 &&& Int64.toUInt64 63)).toInt64).toInt32), .ref 0], [.inr (6, [.ref 1, .int n, .int o, .int s]), .inl (0, N, .inl f)], 0, 0)) rfl ?_
    refine ev_callF [0, 1] (as0 := [.ref 0, .int (((v.toUInt64 >>> ((8 * i).toInt64.toUInt64 &&& Int64.toUInt64 63)).toInt64).toInt32)]) (k2 c1) rfl rfl rfl (Nat.le_of_ble_eq_true rfl) rfl rfl rfl (Nat.le_of_ble_eq_true rfl) (Nat.le_of_ble_eq_true rfl) ?_
    refine ev_bk 2 (S' := (3, [some (.ref 0), some (.long v), none, some (.int k), some (.int (i + 1))], [], [.inr (6, [.ref 1, .int q1.1, .int q1.2.1, .int q1.2.2.1]), .inl (0, N, .inl q1.2.2.2)], 0, 0)) rfl ?_
    exact k3 c1
theorem vc_Row_addSevens {tb : en_T} {r : Option Value} {h' : en_H} (v : Int32) (n o s : Int32) (N : Nat) (f : Nat → Int32)
    (k1 : (en_Ev pg_P tb pg_cr 89 (4, [some (.ref 0), some (.int v), some (.int v), some (.int 0)], [], [.inr (6, [.ref 1, .int n, .int o, .int s]), .inl (0, N, .inl f)], 0, 0) r h')) : en_Ev pg_P tb pg_cr 89 (0, [some (.ref 0), some (.int v), none, none], [], [.inr (6, [.ref 1, .int n, .int o, .int s]), .inl (0, N, .inl f)], 0, 0) r h' := by
  refine ev_bk 4 (S' := (4, [some (.ref 0), some (.int v), some (.int v), some (.int 0)], [], [.inr (6, [.ref 1, .int n, .int o, .int s]), .inl (0, N, .inl f)], 0, 0)) rfl ?_
  exact k1
theorem vc_Row_addSevens_4 {tb : en_T} {r : Option Value} {h' : en_H} (v t i : Int32) (n o s : Int32) (N : Nat) (f : Nat → Int32) (q1 : rw_S) (q2 : rw_S) (q3 : rw_S)
    (k1 : (5 ≤ i) → (en_Ev pg_P tb pg_cr 19 (0, en_ent (en_ml pg_P 19) [.ref 0, .int t], [], (rw_c N (n, o, s, f)), 0, 0) none (rw_c N q1)))
    (k2 : (5 ≤ i) → (r = none ∧ h' = [.inr (6, [.ref 1, .int q1.1, .int q1.2.1, .int q1.2.2.1]), .inl (0, N, .inl q1.2.2.2)]))
    (k3 : (¬ 5 ≤ i) → (t ≤ 127) → (en_Ev pg_P tb pg_cr 19 (0, en_ent (en_ml pg_P 19) [.ref 0, .int t], [], (rw_c N (n, o, s, f)), 0, 0) none (rw_c N q2)))
    (k4 : (¬ 5 ≤ i) → (t ≤ 127) → (r = none ∧ h' = [.inr (6, [.ref 1, .int q2.1, .int q2.2.1, .int q2.2.2.1]), .inl (0, N, .inl q2.2.2.2)]))
    (k5 : (¬ 5 ≤ i) → (¬ t ≤ 127) → (en_Ev pg_P tb pg_cr 19 (0, en_ent (en_ml pg_P 19) [.ref 0, .int (128 ||| (t &&& 127))], [], (rw_c N (n, o, s, f)), 0, 0) none (rw_c N q3)))
    (k6 : (¬ 5 ≤ i) → (¬ t ≤ 127) → (en_Ev pg_P tb pg_cr 89 (4, [some (.ref 0), some (.int v), some (.int ((t.toUInt32 >>> ((7 : Int32).toUInt32 &&& Int32.toUInt32 31)).toInt32)), some (.int (i + 1))], [], [.inr (6, [.ref 1, .int q3.1, .int q3.2.1, .int q3.2.2.1]), .inl (0, N, .inl q3.2.2.2)], 0, 0) r h')) : en_Ev pg_P tb pg_cr 89 (4, [some (.ref 0), some (.int v), some (.int t), some (.int i)], [], [.inr (6, [.ref 1, .int n, .int o, .int s]), .inl (0, N, .inl f)], 0, 0) r h' := by
  refine ev_bk 3 (S' := (bif en_cmp .ge i 5 then 38 else 9, [some (.ref 0), some (.int v), some (.int t), some (.int i)], [], [.inr (6, [.ref 1, .int n, .int o, .int s]), .inl (0, N, .inl f)], 0, 0)) rfl ?_
  refine ev_if (fun c1 => ?_) (fun c1 => ?_)
  · have c1 := cm_ge_t c1
    refine ev_bk 2 (S' := (40, [some (.ref 0), some (.int v), some (.int t), some (.int i)], [.int t, .ref 0], [.inr (6, [.ref 1, .int n, .int o, .int s]), .inl (0, N, .inl f)], 0, 0)) rfl ?_
    refine ev_callF [0, 1] (as0 := [.ref 0, .int t]) (k1 c1) rfl rfl rfl (Nat.le_of_ble_eq_true rfl) rfl rfl rfl (Nat.le_of_ble_eq_true rfl) (Nat.le_of_ble_eq_true rfl) ?_
    rw [(k2 c1).1, (k2 c1).2]
    exact ev_ret rfl rfl
  · have c1 := cm_ge_f c1
    refine ev_bk 3 (S' := (bif en_cmp .le t 127 then 38 else 15, [some (.ref 0), some (.int v), some (.int t), some (.int i)], [], [.inr (6, [.ref 1, .int n, .int o, .int s]), .inl (0, N, .inl f)], 0, 0)) rfl ?_
    refine ev_if (fun c2 => ?_) (fun c2 => ?_)
    · have c2 := cm_le_t c2
      refine ev_bk 2 (S' := (40, [some (.ref 0), some (.int v), some (.int t), some (.int i)], [.int t, .ref 0], [.inr (6, [.ref 1, .int n, .int o, .int s]), .inl (0, N, .inl f)], 0, 0)) rfl ?_
      refine ev_callF [0, 1] (as0 := [.ref 0, .int t]) (k3 c1 c2) rfl rfl rfl (Nat.le_of_ble_eq_true rfl) rfl rfl rfl (Nat.le_of_ble_eq_true rfl) (Nat.le_of_ble_eq_true rfl) ?_
      rw [(k4 c1 c2).1, (k4 c1 c2).2]
      exact ev_ret rfl rfl
    · have c2 := cm_le_f c2
      refine ev_bk 6 (S' := (24, [some (.ref 0), some (.int v), some (.int t), some (.int i)], [.int (128 ||| (t &&& 127)), .ref 0], [.inr (6, [.ref 1, .int n, .int o, .int s]), .inl (0, N, .inl f)], 0, 0)) rfl ?_
      refine ev_callF [0, 1] (as0 := [.ref 0, .int (128 ||| (t &&& 127))]) (k5 c1 c2) rfl rfl rfl (Nat.le_of_ble_eq_true rfl) rfl rfl rfl (Nat.le_of_ble_eq_true rfl) (Nat.le_of_ble_eq_true rfl) ?_
      refine ev_bk 6 (S' := (4, [some (.ref 0), some (.int v), some (.int ((t.toUInt32 >>> ((7 : Int32).toUInt32 &&& Int32.toUInt32 31)).toInt32)), some (.int (i + 1))], [], [.inr (6, [.ref 1, .int q3.1, .int q3.2.1, .int q3.2.2.1]), .inl (0, N, .inl q3.2.2.2)], 0, 0)) rfl ?_
      exact k6 c1 c2
theorem vc_Row_lowBits {tb : en_T} {r : Option Value} {h' : en_H} (v k : Int32) (n o s : Int32) (N : Nat) (f : Nat → Int32)
    (k1 : (en_Ev pg_P tb pg_cr 49 (8, [some (.ref 0), some (.int v), some (.int k), some (.int v), some (.int k), some (.int 0), none, none], [], [.inr (6, [.ref 1, .int n, .int o, .int s]), .inl (0, N, .inl f)], 0, 0) r h')) : en_Ev pg_P tb pg_cr 49 (0, [some (.ref 0), some (.int v), some (.int k), none, none, none, none, none], [], [.inr (6, [.ref 1, .int n, .int o, .int s]), .inl (0, N, .inl f)], 0, 0) r h' := by
  refine ev_bk 6 (S' := (8, [some (.ref 0), some (.int v), some (.int k), some (.int v), some (.int k), some (.int 0), none, none], [], [.inr (6, [.ref 1, .int n, .int o, .int s]), .inl (0, N, .inl f)], 0, 0)) rfl ?_
  exact k1
theorem vc_Row_lowBits_8 {tb : en_T} {r : Option Value} {h' : en_H} (v k t l i : Int32) (n o s : Int32) (N : Nat) (f : Nat → Int32) (q1 : rw_S)
    (k1 : (32 ≤ i) → (r = none ∧ h' = [.inr (6, [.ref 1, .int n, .int o, .int s]), .inl (0, N, .inl f)]))
    (k2 : (¬ 32 ≤ i) → (l ≤ 0) → (r = none ∧ h' = [.inr (6, [.ref 1, .int n, .int o, .int s]), .inl (0, N, .inl f)]))
    (k3 : (¬ 32 ≤ i) → (¬ l ≤ 0) → (¬ s = 0) → (n ≤ 0) → (en_Ev pg_P tb pg_cr 49 (8, [some (.ref 0), some (.int v), some (.int k), some (.int ((t.toUInt32 >>> ((if l < s then l else s).toUInt32 &&& Int32.toUInt32 31)).toInt32)), some (.int (l - (if l < s then l else s))), some (.int (i + 1)), some (.int (if l < s then l else s)), some (.int (t &&& ((1 <<< ((if l < s then l else s) &&& 31)) - 1)))], [], [.inr (6, [.ref 1, .int n, .int o, .int (s - (if l < s then l else s))]), .inl (0, N, .inl f)], 0, 0) r h'))
    (k4 : (¬ 32 ≤ i) → (¬ l ≤ 0) → (¬ s = 0) → (¬ n ≤ 0) → (¬ o = 0) → (en_Ev pg_P tb pg_cr 49 (8, [some (.ref 0), some (.int v), some (.int k), some (.int ((t.toUInt32 >>> ((if l < s then l else s).toUInt32 &&& Int32.toUInt32 31)).toInt32)), some (.int (l - (if l < s then l else s))), some (.int (i + 1)), some (.int (if l < s then l else s)), some (.int (t &&& ((1 <<< ((if l < s then l else s) &&& 31)) - 1)))], [], [.inr (6, [.ref 1, .int n, .int o, .int (s - (if l < s then l else s))]), .inl (0, N, .inl f)], 0, 0) r h'))
    (k5 : (¬ 32 ≤ i) → (¬ l ≤ 0) → (¬ s = 0) → (¬ n ≤ 0) → (o = 0) → (en_bad (n - 1) N = false))
    (k6 : (¬ 32 ≤ i) → (¬ l ≤ 0) → (¬ s = 0) → (¬ n ≤ 0) → (o = 0) → (en_bad (n - 1) N = false))
    (k7 : (¬ 32 ≤ i) → (¬ l ≤ 0) → (¬ s = 0) → (¬ n ≤ 0) → (o = 0) → (en_Ev pg_P tb pg_cr 49 (8, [some (.ref 0), some (.int v), some (.int k), some (.int ((t.toUInt32 >>> ((if l < s then l else s).toUInt32 &&& Int32.toUInt32 31)).toInt32)), some (.int (l - (if l < s then l else s))), some (.int (i + 1)), some (.int (if l < s then l else s)), some (.int (t &&& ((1 <<< ((if l < s then l else s) &&& 31)) - 1)))], [], [.inr (6, [.ref 1, .int n, .int o, .int (s - (if l < s then l else s))]), .inl (0, N, .inl (upd f (n - 1).toNatClampNeg ((f (n - 1).toNatClampNeg) ||| ((t &&& ((1 <<< ((if l < s then l else s) &&& 31)) - 1)) <<< ((8 - s) &&& 31)))))], 0, 0) r h'))
    (k8 : (¬ 32 ≤ i) → (¬ l ≤ 0) → (s = 0) → (en_Ev pg_P tb pg_cr 19 (0, en_ent (en_ml pg_P 19) [.ref 0, .int 0], [], (rw_c N (n, o, s, f)), 0, 0) none (rw_c N q1)))
    (k9 : (¬ 32 ≤ i) → (¬ l ≤ 0) → (s = 0) → (q1.1 ≤ 0) → (en_Ev pg_P tb pg_cr 49 (8, [some (.ref 0), some (.int v), some (.int k), some (.int ((t.toUInt32 >>> ((if l < (8 : Int32) then l else (8 : Int32)).toUInt32 &&& Int32.toUInt32 31)).toInt32)), some (.int (l - (if l < (8 : Int32) then l else (8 : Int32)))), some (.int (i + 1)), some (.int (if l < (8 : Int32) then l else (8 : Int32))), some (.int (t &&& ((1 <<< ((if l < (8 : Int32) then l else (8 : Int32)) &&& 31)) - 1)))], [], [.inr (6, [.ref 1, .int q1.1, .int q1.2.1, .int (8 - (if l < (8 : Int32) then l else (8 : Int32)))]), .inl (0, N, .inl q1.2.2.2)], 0, 0) r h'))
    (k10 : (¬ 32 ≤ i) → (¬ l ≤ 0) → (s = 0) → (¬ q1.1 ≤ 0) → (¬ q1.2.1 = 0) → (en_Ev pg_P tb pg_cr 49 (8, [some (.ref 0), some (.int v), some (.int k), some (.int ((t.toUInt32 >>> ((if l < (8 : Int32) then l else (8 : Int32)).toUInt32 &&& Int32.toUInt32 31)).toInt32)), some (.int (l - (if l < (8 : Int32) then l else (8 : Int32)))), some (.int (i + 1)), some (.int (if l < (8 : Int32) then l else (8 : Int32))), some (.int (t &&& ((1 <<< ((if l < (8 : Int32) then l else (8 : Int32)) &&& 31)) - 1)))], [], [.inr (6, [.ref 1, .int q1.1, .int q1.2.1, .int (8 - (if l < (8 : Int32) then l else (8 : Int32)))]), .inl (0, N, .inl q1.2.2.2)], 0, 0) r h'))
    (k11 : (¬ 32 ≤ i) → (¬ l ≤ 0) → (s = 0) → (¬ q1.1 ≤ 0) → (q1.2.1 = 0) → (en_bad (q1.1 - 1) N = false))
    (k12 : (¬ 32 ≤ i) → (¬ l ≤ 0) → (s = 0) → (¬ q1.1 ≤ 0) → (q1.2.1 = 0) → (en_bad (q1.1 - 1) N = false))
    (k13 : (¬ 32 ≤ i) → (¬ l ≤ 0) → (s = 0) → (¬ q1.1 ≤ 0) → (q1.2.1 = 0) → (en_Ev pg_P tb pg_cr 49 (8, [some (.ref 0), some (.int v), some (.int k), some (.int ((t.toUInt32 >>> ((if l < (8 : Int32) then l else (8 : Int32)).toUInt32 &&& Int32.toUInt32 31)).toInt32)), some (.int (l - (if l < (8 : Int32) then l else (8 : Int32)))), some (.int (i + 1)), some (.int (if l < (8 : Int32) then l else (8 : Int32))), some (.int (t &&& ((1 <<< ((if l < (8 : Int32) then l else (8 : Int32)) &&& 31)) - 1)))], [], [.inr (6, [.ref 1, .int q1.1, .int q1.2.1, .int (8 - (if l < (8 : Int32) then l else (8 : Int32)))]), .inl (0, N, .inl (upd q1.2.2.2 (q1.1 - 1).toNatClampNeg ((q1.2.2.2 (q1.1 - 1).toNatClampNeg) ||| ((t &&& ((1 <<< ((if l < (8 : Int32) then l else (8 : Int32)) &&& 31)) - 1)) <<< ((8 - 8) &&& 31)))))], 0, 0) r h')) : en_Ev pg_P tb pg_cr 49 (8, [some (.ref 0), some (.int v), some (.int k), some (.int t), some (.int l), some (.int i), none, none], [], [.inr (6, [.ref 1, .int n, .int o, .int s]), .inl (0, N, .inl f)], 0, 0) r h' := by
  refine ev_bk 3 (S' := (bif en_cmp .ge i 32 then 126 else 15, [some (.ref 0), some (.int v), some (.int k), some (.int t), some (.int l), some (.int i), none, none], [], [.inr (6, [.ref 1, .int n, .int o, .int s]), .inl (0, N, .inl f)], 0, 0)) rfl ?_
  refine ev_if (fun c1 => ?_) (fun c1 => ?_)
  · have c1 := cm_ge_t c1
    rw [(k1 c1).1, (k1 c1).2]
    exact ev_ret rfl rfl
  · have c1 := cm_ge_f c1
    refine ev_bk 2 (S' := (bif en_cmp .le l 0 then 126 else 20, [some (.ref 0), some (.int v), some (.int k), some (.int t), some (.int l), some (.int i), none, none], [], [.inr (6, [.ref 1, .int n, .int o, .int s]), .inl (0, N, .inl f)], 0, 0)) rfl ?_
    refine ev_if (fun c2 => ?_) (fun c2 => ?_)
    · have c2 := cm_le_t c2
      rw [(k2 c1 c2).1, (k2 c1 c2).2]
      exact ev_ret rfl rfl
    · have c2 := cm_le_f c2
      refine ev_bk 3 (S' := (bif en_cmp .ne s 0 then 38 else 27, [some (.ref 0), some (.int v), some (.int k), some (.int t), some (.int l), some (.int i), none, none], [], [.inr (6, [.ref 1, .int n, .int o, .int s]), .inl (0, N, .inl f)], 0, 0)) rfl ?_
      refine ev_if (fun c3 => ?_) (fun c3 => ?_)
      · have c3 := cm_ne_t c3
        refine ev_bk 16 (S' := (bif en_cmp .le n 0 then 97 else 66, [some (.ref 0), some (.int v), some (.int k), some (.int t), some (.int l), some (.int i), some (.int (if l < s then l else s)), some (.int (t &&& ((1 <<< ((if l < s then l else s) &&& 31)) - 1)))], [], [.inr (6, [.ref 1, .int n, .int o, .int s]), .inl (0, N, .inl f)], 0, 0)) rfl ?_
        refine ev_if (fun c4 => ?_) (fun c4 => ?_)
        · have c4 := cm_le_t c4
          refine ev_bk 16 (S' := (8, [some (.ref 0), some (.int v), some (.int k), some (.int ((t.toUInt32 >>> ((if l < s then l else s).toUInt32 &&& Int32.toUInt32 31)).toInt32)), some (.int (l - (if l < s then l else s))), some (.int (i + 1)), some (.int (if l < s then l else s)), some (.int (t &&& ((1 <<< ((if l < s then l else s) &&& 31)) - 1)))], [], [.inr (6, [.ref 1, .int n, .int o, .int (s - (if l < s then l else s))]), .inl (0, N, .inl f)], 0, 0)) rfl ?_
          exact k3 c1 c2 c3 c4
        · have c4 := cm_le_f c4
          refine ev_bk 3 (S' := (bif en_cmp .ne o 0 then 97 else 73, [some (.ref 0), some (.int v), some (.int k), some (.int t), some (.int l), some (.int i), some (.int (if l < s then l else s)), some (.int (t &&& ((1 <<< ((if l < s then l else s) &&& 31)) - 1)))], [], [.inr (6, [.ref 1, .int n, .int o, .int s]), .inl (0, N, .inl f)], 0, 0)) rfl ?_
          refine ev_if (fun c5 => ?_) (fun c5 => ?_)
          · have c5 := cm_ne_t c5
            refine ev_bk 16 (S' := (8, [some (.ref 0), some (.int v), some (.int k), some (.int ((t.toUInt32 >>> ((if l < s then l else s).toUInt32 &&& Int32.toUInt32 31)).toInt32)), some (.int (l - (if l < s then l else s))), some (.int (i + 1)), some (.int (if l < s then l else s)), some (.int (t &&& ((1 <<< ((if l < s then l else s) &&& 31)) - 1)))], [], [.inr (6, [.ref 1, .int n, .int o, .int (s - (if l < s then l else s))]), .inl (0, N, .inl f)], 0, 0)) rfl ?_
            exact k4 c1 c2 c3 c4 c5
          · have c5 := cm_ne_f c5
            refine ev_bk 7 (S' := (84, [some (.ref 0), some (.int v), some (.int k), some (.int t), some (.int l), some (.int i), some (.int (if l < s then l else s)), some (.int (t &&& ((1 <<< ((if l < s then l else s) &&& 31)) - 1)))], [.int (n - 1), .ref 1, .int (n - 1), .ref 1], [.inr (6, [.ref 1, .int n, .int o, .int s]), .inl (0, N, .inl f)], 0, 0)) rfl ?_
            refine ev_iald (n := N) (f := f) rfl rfl (k5 c1 c2 c3 c4 c5) ?_
            refine ev_bk 7 (S' := (96, [some (.ref 0), some (.int v), some (.int k), some (.int t), some (.int l), some (.int i), some (.int (if l < s then l else s)), some (.int (t &&& ((1 <<< ((if l < s then l else s) &&& 31)) - 1)))], [.int ((f (n - 1).toNatClampNeg) ||| ((t &&& ((1 <<< ((if l < s then l else s) &&& 31)) - 1)) <<< ((8 - s) &&& 31))), .int (n - 1), .ref 1], [.inr (6, [.ref 1, .int n, .int o, .int s]), .inl (0, N, .inl f)], 0, 0)) rfl ?_
            refine ev_iast (n := N) (f := f) rfl rfl (k6 c1 c2 c3 c4 c5) ?_
            refine ev_bk 16 (S' := (8, [some (.ref 0), some (.int v), some (.int k), some (.int ((t.toUInt32 >>> ((if l < s then l else s).toUInt32 &&& Int32.toUInt32 31)).toInt32)), some (.int (l - (if l < s then l else s))), some (.int (i + 1)), some (.int (if l < s then l else s)), some (.int (t &&& ((1 <<< ((if l < s then l else s) &&& 31)) - 1)))], [], [.inr (6, [.ref 1, .int n, .int o, .int (s - (if l < s then l else s))]), .inl (0, N, .inl (upd f (n - 1).toNatClampNeg ((f (n - 1).toNatClampNeg) ||| ((t &&& ((1 <<< ((if l < s then l else s) &&& 31)) - 1)) <<< ((8 - s) &&& 31)))))], 0, 0)) rfl ?_
            exact k7 c1 c2 c3 c4 c5
      · have c3 := cm_ne_f c3
        refine ev_bk 2 (S' := (29, [some (.ref 0), some (.int v), some (.int k), some (.int t), some (.int l), some (.int i), none, none], [.int 0, .ref 0], [.inr (6, [.ref 1, .int n, .int o, .int s]), .inl (0, N, .inl f)], 0, 0)) rfl ?_
        refine ev_callF [0, 1] (as0 := [.ref 0, .int 0]) (k8 c1 c2 c3) rfl rfl rfl (Nat.le_of_ble_eq_true rfl) rfl rfl rfl (Nat.le_of_ble_eq_true rfl) (Nat.le_of_ble_eq_true rfl) ?_
        refine ev_bk 19 (S' := (bif en_cmp .le q1.1 0 then 97 else 66, [some (.ref 0), some (.int v), some (.int k), some (.int t), some (.int l), some (.int i), some (.int (if l < (8 : Int32) then l else (8 : Int32))), some (.int (t &&& ((1 <<< ((if l < (8 : Int32) then l else (8 : Int32)) &&& 31)) - 1)))], [], [.inr (6, [.ref 1, .int q1.1, .int q1.2.1, .int 8]), .inl (0, N, .inl q1.2.2.2)], 0, 0)) rfl ?_
        refine ev_if (fun c6 => ?_) (fun c6 => ?_)
        · have c6 := cm_le_t c6
          refine ev_bk 16 (S' := (8, [some (.ref 0), some (.int v), some (.int k), some (.int ((t.toUInt32 >>> ((if l < (8 : Int32) then l else (8 : Int32)).toUInt32 &&& Int32.toUInt32 31)).toInt32)), some (.int (l - (if l < (8 : Int32) then l else (8 : Int32)))), some (.int (i + 1)), some (.int (if l < (8 : Int32) then l else (8 : Int32))), some (.int (t &&& ((1 <<< ((if l < (8 : Int32) then l else (8 : Int32)) &&& 31)) - 1)))], [], [.inr (6, [.ref 1, .int q1.1, .int q1.2.1, .int (8 - (if l < (8 : Int32) then l else (8 : Int32)))]), .inl (0, N, .inl q1.2.2.2)], 0, 0)) rfl ?_
          exact k9 c1 c2 c3 c6
        · have c6 := cm_le_f c6
          refine ev_bk 3 (S' := (bif en_cmp .ne q1.2.1 0 then 97 else 73, [some (.ref 0), some (.int v), some (.int k), some (.int t), some (.int l), some (.int i), some (.int (if l < (8 : Int32) then l else (8 : Int32))), some (.int (t &&& ((1 <<< ((if l < (8 : Int32) then l else (8 : Int32)) &&& 31)) - 1)))], [], [.inr (6, [.ref 1, .int q1.1, .int q1.2.1, .int 8]), .inl (0, N, .inl q1.2.2.2)], 0, 0)) rfl ?_
          refine ev_if (fun c7 => ?_) (fun c7 => ?_)
          · have c7 := cm_ne_t c7
            refine ev_bk 16 (S' := (8, [some (.ref 0), some (.int v), some (.int k), some (.int ((t.toUInt32 >>> ((if l < (8 : Int32) then l else (8 : Int32)).toUInt32 &&& Int32.toUInt32 31)).toInt32)), some (.int (l - (if l < (8 : Int32) then l else (8 : Int32)))), some (.int (i + 1)), some (.int (if l < (8 : Int32) then l else (8 : Int32))), some (.int (t &&& ((1 <<< ((if l < (8 : Int32) then l else (8 : Int32)) &&& 31)) - 1)))], [], [.inr (6, [.ref 1, .int q1.1, .int q1.2.1, .int (8 - (if l < (8 : Int32) then l else (8 : Int32)))]), .inl (0, N, .inl q1.2.2.2)], 0, 0)) rfl ?_
            exact k10 c1 c2 c3 c6 c7
          · have c7 := cm_ne_f c7
            refine ev_bk 7 (S' := (84, [some (.ref 0), some (.int v), some (.int k), some (.int t), some (.int l), some (.int i), some (.int (if l < (8 : Int32) then l else (8 : Int32))), some (.int (t &&& ((1 <<< ((if l < (8 : Int32) then l else (8 : Int32)) &&& 31)) - 1)))], [.int (q1.1 - 1), .ref 1, .int (q1.1 - 1), .ref 1], [.inr (6, [.ref 1, .int q1.1, .int q1.2.1, .int 8]), .inl (0, N, .inl q1.2.2.2)], 0, 0)) rfl ?_
            refine ev_iald (n := N) (f := q1.2.2.2) rfl rfl (k11 c1 c2 c3 c6 c7) ?_
            refine ev_bk 7 (S' := (96, [some (.ref 0), some (.int v), some (.int k), some (.int t), some (.int l), some (.int i), some (.int (if l < (8 : Int32) then l else (8 : Int32))), some (.int (t &&& ((1 <<< ((if l < (8 : Int32) then l else (8 : Int32)) &&& 31)) - 1)))], [.int ((q1.2.2.2 (q1.1 - 1).toNatClampNeg) ||| ((t &&& ((1 <<< ((if l < (8 : Int32) then l else (8 : Int32)) &&& 31)) - 1)) <<< ((8 - 8) &&& 31))), .int (q1.1 - 1), .ref 1], [.inr (6, [.ref 1, .int q1.1, .int q1.2.1, .int 8]), .inl (0, N, .inl q1.2.2.2)], 0, 0)) rfl ?_
            refine ev_iast (n := N) (f := q1.2.2.2) rfl rfl (k12 c1 c2 c3 c6 c7) ?_
            refine ev_bk 16 (S' := (8, [some (.ref 0), some (.int v), some (.int k), some (.int ((t.toUInt32 >>> ((if l < (8 : Int32) then l else (8 : Int32)).toUInt32 &&& Int32.toUInt32 31)).toInt32)), some (.int (l - (if l < (8 : Int32) then l else (8 : Int32)))), some (.int (i + 1)), some (.int (if l < (8 : Int32) then l else (8 : Int32))), some (.int (t &&& ((1 <<< ((if l < (8 : Int32) then l else (8 : Int32)) &&& 31)) - 1)))], [], [.inr (6, [.ref 1, .int q1.1, .int q1.2.1, .int (8 - (if l < (8 : Int32) then l else (8 : Int32)))]), .inl (0, N, .inl (upd q1.2.2.2 (q1.1 - 1).toNatClampNeg ((q1.2.2.2 (q1.1 - 1).toNatClampNeg) ||| ((t &&& ((1 <<< ((if l < (8 : Int32) then l else (8 : Int32)) &&& 31)) - 1)) <<< ((8 - 8) &&& 31)))))], 0, 0)) rfl ?_
            exact k13 c1 c2 c3 c6 c7
theorem vc_Row_highBits {tb : en_T} {r : Option Value} {h' : en_H} (v : Int64) (k : Int32) (n o s : Int32) (N : Nat) (f : Nat → Int32)
    (k1 : (en_Ev pg_P tb pg_cr 98 (6, [some (.ref 0), some (.long v), none, some (.int k), some (.int k), some (.int 0), none, none], [], [.inr (6, [.ref 1, .int n, .int o, .int s]), .inl (0, N, .inl f)], 0, 0) r h')) : en_Ev pg_P tb pg_cr 98 (0, [some (.ref 0), some (.long v), none, some (.int k), none, none, none, none], [], [.inr (6, [.ref 1, .int n, .int o, .int s]), .inl (0, N, .inl f)], 0, 0) r h' := by
  refine ev_bk 4 (S' := (6, [some (.ref 0), some (.long v), none, some (.int k), some (.int k), some (.int 0), none, none], [], [.inr (6, [.ref 1, .int n, .int o, .int s]), .inl (0, N, .inl f)], 0, 0)) rfl ?_
  exact k1
theorem vc_Row_highBits_6 {tb : en_T} {r : Option Value} {h' : en_H} (v : Int64) (k l i : Int32) (n o s : Int32) (N : Nat) (f : Nat → Int32) (q1 : rw_S)
    (k1 : (64 ≤ i) → (r = none ∧ h' = [.inr (6, [.ref 1, .int n, .int o, .int s]), .inl (0, N, .inl f)]))
    (k2 : (¬ 64 ≤ i) → (l ≤ 0) → (r = none ∧ h' = [.inr (6, [.ref 1, .int n, .int o, .int s]), .inl (0, N, .inl f)]))
    (k3 : (¬ 64 ≤ i) → (¬ l ≤ 0) → (¬ s = 0) → (n ≤ 0) → (en_Ev pg_P tb pg_cr 98 (6, [some (.ref 0), some (.long v), none, some (.int k), some (.int (l - (if l < s then l else s))), some (.int (i + 1)), some (.int (if l < s then l else s)), some (.int ((((v.toUInt64 >>> ((l - (if l < s then l else s)).toInt64.toUInt64 &&& Int64.toUInt64 63)).toInt64).toInt32) &&& ((1 <<< ((if l < s then l else s) &&& 31)) - 1)))], [], [.inr (6, [.ref 1, .int n, .int o, .int (s - (if l < s then l else s))]), .inl (0, N, .inl f)], 0, 0) r h'))
    (k4 : (¬ 64 ≤ i) → (¬ l ≤ 0) → (¬ s = 0) → (¬ n ≤ 0) → (¬ o = 0) → (en_Ev pg_P tb pg_cr 98 (6, [some (.ref 0), some (.long v), none, some (.int k), some (.int (l - (if l < s then l else s))), some (.int (i + 1)), some (.int (if l < s then l else s)), some (.int ((((v.toUInt64 >>> ((l - (if l < s then l else s)).toInt64.toUInt64 &&& Int64.toUInt64 63)).toInt64).toInt32) &&& ((1 <<< ((if l < s then l else s) &&& 31)) - 1)))], [], [.inr (6, [.ref 1, .int n, .int o, .int (s - (if l < s then l else s))]), .inl (0, N, .inl f)], 0, 0) r h'))
    (k5 : (¬ 64 ≤ i) → (¬ l ≤ 0) → (¬ s = 0) → (¬ n ≤ 0) → (o = 0) → (en_bad (n - 1) N = false))
    (k6 : (¬ 64 ≤ i) → (¬ l ≤ 0) → (¬ s = 0) → (¬ n ≤ 0) → (o = 0) → (en_bad (n - 1) N = false))
    (k7 : (¬ 64 ≤ i) → (¬ l ≤ 0) → (¬ s = 0) → (¬ n ≤ 0) → (o = 0) → (en_Ev pg_P tb pg_cr 98 (6, [some (.ref 0), some (.long v), none, some (.int k), some (.int (l - (if l < s then l else s))), some (.int (i + 1)), some (.int (if l < s then l else s)), some (.int ((((v.toUInt64 >>> ((l - (if l < s then l else s)).toInt64.toUInt64 &&& Int64.toUInt64 63)).toInt64).toInt32) &&& ((1 <<< ((if l < s then l else s) &&& 31)) - 1)))], [], [.inr (6, [.ref 1, .int n, .int o, .int (s - (if l < s then l else s))]), .inl (0, N, .inl (upd f (n - 1).toNatClampNeg ((f (n - 1).toNatClampNeg) ||| (((((v.toUInt64 >>> ((l - (if l < s then l else s)).toInt64.toUInt64 &&& Int64.toUInt64 63)).toInt64).toInt32) &&& ((1 <<< ((if l < s then l else s) &&& 31)) - 1)) <<< ((s - (if l < s then l else s)) &&& 31)))))], 0, 0) r h'))
    (k8 : (¬ 64 ≤ i) → (¬ l ≤ 0) → (s = 0) → (en_Ev pg_P tb pg_cr 19 (0, en_ent (en_ml pg_P 19) [.ref 0, .int 0], [], (rw_c N (n, o, s, f)), 0, 0) none (rw_c N q1)))
    (k9 : (¬ 64 ≤ i) → (¬ l ≤ 0) → (s = 0) → (q1.1 ≤ 0) → (en_Ev pg_P tb pg_cr 98 (6, [some (.ref 0), some (.long v), none, some (.int k), some (.int (l - (if l < (8 : Int32) then l else (8 : Int32)))), some (.int (i + 1)), some (.int (if l < (8 : Int32) then l else (8 : Int32))), some (.int ((((v.toUInt64 >>> ((l - (if l < (8 : Int32) then l else (8 : Int32))).toInt64.toUInt64 &&& Int64.toUInt64 63)).toInt64).toInt32) &&& ((1 <<< ((if l < (8 : Int32) then l else (8 : Int32)) &&& 31)) - 1)))], [], [.inr (6, [.ref 1, .int q1.1, .int q1.2.1, .int (8 - (if l < (8 : Int32) then l else (8 : Int32)))]), .inl (0, N, .inl q1.2.2.2)], 0, 0) r h'))
    (k10 : (¬ 64 ≤ i) → (¬ l ≤ 0) → (s = 0) → (¬ q1.1 ≤ 0) → (¬ q1.2.1 = 0) → (en_Ev pg_P tb pg_cr 98 (6, [some (.ref 0), some (.long v), none, some (.int k), some (.int (l - (if l < (8 : Int32) then l else (8 : Int32)))), some (.int (i + 1)), some (.int (if l < (8 : Int32) then l else (8 : Int32))), some (.int ((((v.toUInt64 >>> ((l - (if l < (8 : Int32) then l else (8 : Int32))).toInt64.toUInt64 &&& Int64.toUInt64 63)).toInt64).toInt32) &&& ((1 <<< ((if l < (8 : Int32) then l else (8 : Int32)) &&& 31)) - 1)))], [], [.inr (6, [.ref 1, .int q1.1, .int q1.2.1, .int (8 - (if l < (8 : Int32) then l else (8 : Int32)))]), .inl (0, N, .inl q1.2.2.2)], 0, 0) r h'))
    (k11 : (¬ 64 ≤ i) → (¬ l ≤ 0) → (s = 0) → (¬ q1.1 ≤ 0) → (q1.2.1 = 0) → (en_bad (q1.1 - 1) N = false))
    (k12 : (¬ 64 ≤ i) → (¬ l ≤ 0) → (s = 0) → (¬ q1.1 ≤ 0) → (q1.2.1 = 0) → (en_bad (q1.1 - 1) N = false))
    (k13 : (¬ 64 ≤ i) → (¬ l ≤ 0) → (s = 0) → (¬ q1.1 ≤ 0) → (q1.2.1 = 0) → (en_Ev pg_P tb pg_cr 98 (6, [some (.ref 0), some (.long v), none, some (.int k), some (.int (l - (if l < (8 : Int32) then l else (8 : Int32)))), some (.int (i + 1)), some (.int (if l < (8 : Int32) then l else (8 : Int32))), some (.int ((((v.toUInt64 >>> ((l - (if l < (8 : Int32) then l else (8 : Int32))).toInt64.toUInt64 &&& Int64.toUInt64 63)).toInt64).toInt32) &&& ((1 <<< ((if l < (8 : Int32) then l else (8 : Int32)) &&& 31)) - 1)))], [], [.inr (6, [.ref 1, .int q1.1, .int q1.2.1, .int (8 - (if l < (8 : Int32) then l else (8 : Int32)))]), .inl (0, N, .inl (upd q1.2.2.2 (q1.1 - 1).toNatClampNeg ((q1.2.2.2 (q1.1 - 1).toNatClampNeg) ||| (((((v.toUInt64 >>> ((l - (if l < (8 : Int32) then l else (8 : Int32))).toInt64.toUInt64 &&& Int64.toUInt64 63)).toInt64).toInt32) &&& ((1 <<< ((if l < (8 : Int32) then l else (8 : Int32)) &&& 31)) - 1)) <<< ((8 - (if l < (8 : Int32) then l else (8 : Int32))) &&& 31)))))], 0, 0) r h')) : en_Ev pg_P tb pg_cr 98 (6, [some (.ref 0), some (.long v), none, some (.int k), some (.int l), some (.int i), none, none], [], [.inr (6, [.ref 1, .int n, .int o, .int s]), .inl (0, N, .inl f)], 0, 0) r h' := by
  refine ev_bk 3 (S' := (bif en_cmp .ge i 64 then 126 else 13, [some (.ref 0), some (.long v), none, some (.int k), some (.int l), some (.int i), none, none], [], [.inr (6, [.ref 1, .int n, .int o, .int s]), .inl (0, N, .inl f)], 0, 0)) rfl ?_
  refine ev_if (fun c1 => ?_) (fun c1 => ?_)
  · have c1 := cm_ge_t c1
    rw [(k1 c1).1, (k1 c1).2]
    exact ev_ret rfl rfl
  · have c1 := cm_ge_f c1
    refine ev_bk 2 (S' := (bif en_cmp .le l 0 then 126 else 18, [some (.ref 0), some (.long v), none, some (.int k), some (.int l), some (.int i), none, none], [], [.inr (6, [.ref 1, .int n, .int o, .int s]), .inl (0, N, .inl f)], 0, 0)) rfl ?_
    refine ev_if (fun c2 => ?_) (fun c2 => ?_)
    · have c2 := cm_le_t c2
      rw [(k2 c1 c2).1, (k2 c1 c2).2]
      exact ev_ret rfl rfl
    · have c2 := cm_le_f c2
      refine ev_bk 3 (S' := (bif en_cmp .ne s 0 then 36 else 25, [some (.ref 0), some (.long v), none, some (.int k), some (.int l), some (.int i), none, none], [], [.inr (6, [.ref 1, .int n, .int o, .int s]), .inl (0, N, .inl f)], 0, 0)) rfl ?_
      refine ev_if (fun c3 => ?_) (fun c3 => ?_)
      · have c3 := cm_ne_t c3
        refine ev_bk 21 (S' := (bif en_cmp .le n 0 then 102 else 71, [some (.ref 0), some (.long v), none, some (.int k), some (.int l), some (.int i), some (.int (if l < s then l else s)), some (.int ((((v.toUInt64 >>> ((l - (if l < s then l else s)).toInt64.toUInt64 &&& Int64.toUInt64 63)).toInt64).toInt32) &&& ((1 <<< ((if l < s then l else s) &&& 31)) - 1)))], [], [.inr (6, [.ref 1, .int n, .int o, .int s]), .inl (0, N, .inl f)], 0, 0)) rfl ?_
        refine ev_if (fun c4 => ?_) (fun c4 => ?_)
        · have c4 := cm_le_t c4
          refine ev_bk 12 (S' := (6, [some (.ref 0), some (.long v), none, some (.int k), some (.int (l - (if l < s then l else s))), some (.int (i + 1)), some (.int (if l < s then l else s)), some (.int ((((v.toUInt64 >>> ((l - (if l < s then l else s)).toInt64.toUInt64 &&& Int64.toUInt64 63)).toInt64).toInt32) &&& ((1 <<< ((if l < s then l else s) &&& 31)) - 1)))], [], [.inr (6, [.ref 1, .int n, .int o, .int (s - (if l < s then l else s))]), .inl (0, N, .inl f)], 0, 0)) rfl ?_
          exact k3 c1 c2 c3 c4
        · have c4 := cm_le_f c4
          refine ev_bk 3 (S' := (bif en_cmp .ne o 0 then 102 else 78, [some (.ref 0), some (.long v), none, some (.int k), some (.int l), some (.int i), some (.int (if l < s then l else s)), some (.int ((((v.toUInt64 >>> ((l - (if l < s then l else s)).toInt64.toUInt64 &&& Int64.toUInt64 63)).toInt64).toInt32) &&& ((1 <<< ((if l < s then l else s) &&& 31)) - 1)))], [], [.inr (6, [.ref 1, .int n, .int o, .int s]), .inl (0, N, .inl f)], 0, 0)) rfl ?_
          refine ev_if (fun c5 => ?_) (fun c5 => ?_)
          · have c5 := cm_ne_t c5
            refine ev_bk 12 (S' := (6, [some (.ref 0), some (.long v), none, some (.int k), some (.int (l - (if l < s then l else s))), some (.int (i + 1)), some (.int (if l < s then l else s)), some (.int ((((v.toUInt64 >>> ((l - (if l < s then l else s)).toInt64.toUInt64 &&& Int64.toUInt64 63)).toInt64).toInt32) &&& ((1 <<< ((if l < s then l else s) &&& 31)) - 1)))], [], [.inr (6, [.ref 1, .int n, .int o, .int (s - (if l < s then l else s))]), .inl (0, N, .inl f)], 0, 0)) rfl ?_
            exact k4 c1 c2 c3 c4 c5
          · have c5 := cm_ne_f c5
            refine ev_bk 7 (S' := (89, [some (.ref 0), some (.long v), none, some (.int k), some (.int l), some (.int i), some (.int (if l < s then l else s)), some (.int ((((v.toUInt64 >>> ((l - (if l < s then l else s)).toInt64.toUInt64 &&& Int64.toUInt64 63)).toInt64).toInt32) &&& ((1 <<< ((if l < s then l else s) &&& 31)) - 1)))], [.int (n - 1), .ref 1, .int (n - 1), .ref 1], [.inr (6, [.ref 1, .int n, .int o, .int s]), .inl (0, N, .inl f)], 0, 0)) rfl ?_
            refine ev_iald (n := N) (f := f) rfl rfl (k5 c1 c2 c3 c4 c5) ?_
            refine ev_bk 7 (S' := (101, [some (.ref 0), some (.long v), none, some (.int k), some (.int l), some (.int i), some (.int (if l < s then l else s)), some (.int ((((v.toUInt64 >>> ((l - (if l < s then l else s)).toInt64.toUInt64 &&& Int64.toUInt64 63)).toInt64).toInt32) &&& ((1 <<< ((if l < s then l else s) &&& 31)) - 1)))], [.int ((f (n - 1).toNatClampNeg) ||| (((((v.toUInt64 >>> ((l - (if l < s then l else s)).toInt64.toUInt64 &&& Int64.toUInt64 63)).toInt64).toInt32) &&& ((1 <<< ((if l < s then l else s) &&& 31)) - 1)) <<< ((s - (if l < s then l else s)) &&& 31))), .int (n - 1), .ref 1], [.inr (6, [.ref 1, .int n, .int o, .int s]), .inl (0, N, .inl f)], 0, 0)) rfl ?_
            refine ev_iast (n := N) (f := f) rfl rfl (k6 c1 c2 c3 c4 c5) ?_
            refine ev_bk 12 (S' := (6, [some (.ref 0), some (.long v), none, some (.int k), some (.int (l - (if l < s then l else s))), some (.int (i + 1)), some (.int (if l < s then l else s)), some (.int ((((v.toUInt64 >>> ((l - (if l < s then l else s)).toInt64.toUInt64 &&& Int64.toUInt64 63)).toInt64).toInt32) &&& ((1 <<< ((if l < s then l else s) &&& 31)) - 1)))], [], [.inr (6, [.ref 1, .int n, .int o, .int (s - (if l < s then l else s))]), .inl (0, N, .inl (upd f (n - 1).toNatClampNeg ((f (n - 1).toNatClampNeg) ||| (((((v.toUInt64 >>> ((l - (if l < s then l else s)).toInt64.toUInt64 &&& Int64.toUInt64 63)).toInt64).toInt32) &&& ((1 <<< ((if l < s then l else s) &&& 31)) - 1)) <<< ((s - (if l < s then l else s)) &&& 31)))))], 0, 0)) rfl ?_
            exact k7 c1 c2 c3 c4 c5
      · have c3 := cm_ne_f c3
        refine ev_bk 2 (S' := (27, [some (.ref 0), some (.long v), none, some (.int k), some (.int l), some (.int i), none, none], [.int 0, .ref 0], [.inr (6, [.ref 1, .int n, .int o, .int s]), .inl (0, N, .inl f)], 0, 0)) rfl ?_
        refine ev_callF [0, 1] (as0 := [.ref 0, .int 0]) (k8 c1 c2 c3) rfl rfl rfl (Nat.le_of_ble_eq_true rfl) rfl rfl rfl (Nat.le_of_ble_eq_true rfl) (Nat.le_of_ble_eq_true rfl) ?_
        refine ev_bk 24 (S' := (bif en_cmp .le q1.1 0 then 102 else 71, [some (.ref 0), some (.long v), none, some (.int k), some (.int l), some (.int i), some (.int (if l < (8 : Int32) then l else (8 : Int32))), some (.int ((((v.toUInt64 >>> ((l - (if l < (8 : Int32) then l else (8 : Int32))).toInt64.toUInt64 &&& Int64.toUInt64 63)).toInt64).toInt32) &&& ((1 <<< ((if l < (8 : Int32) then l else (8 : Int32)) &&& 31)) - 1)))], [], [.inr (6, [.ref 1, .int q1.1, .int q1.2.1, .int 8]), .inl (0, N, .inl q1.2.2.2)], 0, 0)) rfl ?_
        refine ev_if (fun c6 => ?_) (fun c6 => ?_)
        · have c6 := cm_le_t c6
          refine ev_bk 12 (S' := (6, [some (.ref 0), some (.long v), none, some (.int k), some (.int (l - (if l < (8 : Int32) then l else (8 : Int32)))), some (.int (i + 1)), some (.int (if l < (8 : Int32) then l else (8 : Int32))), some (.int ((((v.toUInt64 >>> ((l - (if l < (8 : Int32) then l else (8 : Int32))).toInt64.toUInt64 &&& Int64.toUInt64 63)).toInt64).toInt32) &&& ((1 <<< ((if l < (8 : Int32) then l else (8 : Int32)) &&& 31)) - 1)))], [], [.inr (6, [.ref 1, .int q1.1, .int q1.2.1, .int (8 - (if l < (8 : Int32) then l else (8 : Int32)))]), .inl (0, N, .inl q1.2.2.2)], 0, 0)) rfl ?_
          exact k9 c1 c2 c3 c6
        · have c6 := cm_le_f c6
          refine ev_bk 3 (S' := (bif en_cmp .ne q1.2.1 0 then 102 else 78, [some (.ref 0), some (.long v), none, some (.int k), some (.int l), some (.int i), some (.int (if l < (8 : Int32) then l else (8 : Int32))), some (.int ((((v.toUInt64 >>> ((l - (if l < (8 : Int32) then l else (8 : Int32))).toInt64.toUInt64 &&& Int64.toUInt64 63)).toInt64).toInt32) &&& ((1 <<< ((if l < (8 : Int32) then l else (8 : Int32)) &&& 31)) - 1)))], [], [.inr (6, [.ref 1, .int q1.1, .int q1.2.1, .int 8]), .inl (0, N, .inl q1.2.2.2)], 0, 0)) rfl ?_
          refine ev_if (fun c7 => ?_) (fun c7 => ?_)
          · have c7 := cm_ne_t c7
            refine ev_bk 12 (S' := (6, [some (.ref 0), some (.long v), none, some (.int k), some (.int (l - (if l < (8 : Int32) then l else (8 : Int32)))), some (.int (i + 1)), some (.int (if l < (8 : Int32) then l else (8 : Int32))), some (.int ((((v.toUInt64 >>> ((l - (if l < (8 : Int32) then l else (8 : Int32))).toInt64.toUInt64 &&& Int64.toUInt64 63)).toInt64).toInt32) &&& ((1 <<< ((if l < (8 : Int32) then l else (8 : Int32)) &&& 31)) - 1)))], [], [.inr (6, [.ref 1, .int q1.1, .int q1.2.1, .int (8 - (if l < (8 : Int32) then l else (8 : Int32)))]), .inl (0, N, .inl q1.2.2.2)], 0, 0)) rfl ?_
            exact k10 c1 c2 c3 c6 c7
          · have c7 := cm_ne_f c7
            refine ev_bk 7 (S' := (89, [some (.ref 0), some (.long v), none, some (.int k), some (.int l), some (.int i), some (.int (if l < (8 : Int32) then l else (8 : Int32))), some (.int ((((v.toUInt64 >>> ((l - (if l < (8 : Int32) then l else (8 : Int32))).toInt64.toUInt64 &&& Int64.toUInt64 63)).toInt64).toInt32) &&& ((1 <<< ((if l < (8 : Int32) then l else (8 : Int32)) &&& 31)) - 1)))], [.int (q1.1 - 1), .ref 1, .int (q1.1 - 1), .ref 1], [.inr (6, [.ref 1, .int q1.1, .int q1.2.1, .int 8]), .inl (0, N, .inl q1.2.2.2)], 0, 0)) rfl ?_
            refine ev_iald (n := N) (f := q1.2.2.2) rfl rfl (k11 c1 c2 c3 c6 c7) ?_
            refine ev_bk 7 (S' := (101, [some (.ref 0), some (.long v), none, some (.int k), some (.int l), some (.int i), some (.int (if l < (8 : Int32) then l else (8 : Int32))), some (.int ((((v.toUInt64 >>> ((l - (if l < (8 : Int32) then l else (8 : Int32))).toInt64.toUInt64 &&& Int64.toUInt64 63)).toInt64).toInt32) &&& ((1 <<< ((if l < (8 : Int32) then l else (8 : Int32)) &&& 31)) - 1)))], [.int ((q1.2.2.2 (q1.1 - 1).toNatClampNeg) ||| (((((v.toUInt64 >>> ((l - (if l < (8 : Int32) then l else (8 : Int32))).toInt64.toUInt64 &&& Int64.toUInt64 63)).toInt64).toInt32) &&& ((1 <<< ((if l < (8 : Int32) then l else (8 : Int32)) &&& 31)) - 1)) <<< ((8 - (if l < (8 : Int32) then l else (8 : Int32))) &&& 31))), .int (q1.1 - 1), .ref 1], [.inr (6, [.ref 1, .int q1.1, .int q1.2.1, .int 8]), .inl (0, N, .inl q1.2.2.2)], 0, 0)) rfl ?_
            refine ev_iast (n := N) (f := q1.2.2.2) rfl rfl (k12 c1 c2 c3 c6 c7) ?_
            refine ev_bk 12 (S' := (6, [some (.ref 0), some (.long v), none, some (.int k), some (.int (l - (if l < (8 : Int32) then l else (8 : Int32)))), some (.int (i + 1)), some (.int (if l < (8 : Int32) then l else (8 : Int32))), some (.int ((((v.toUInt64 >>> ((l - (if l < (8 : Int32) then l else (8 : Int32))).toInt64.toUInt64 &&& Int64.toUInt64 63)).toInt64).toInt32) &&& ((1 <<< ((if l < (8 : Int32) then l else (8 : Int32)) &&& 31)) - 1)))], [], [.inr (6, [.ref 1, .int q1.1, .int q1.2.1, .int (8 - (if l < (8 : Int32) then l else (8 : Int32)))]), .inl (0, N, .inl (upd q1.2.2.2 (q1.1 - 1).toNatClampNeg ((q1.2.2.2 (q1.1 - 1).toNatClampNeg) ||| (((((v.toUInt64 >>> ((l - (if l < (8 : Int32) then l else (8 : Int32))).toInt64.toUInt64 &&& Int64.toUInt64 63)).toInt64).toInt32) &&& ((1 <<< ((if l < (8 : Int32) then l else (8 : Int32)) &&& 31)) - 1)) <<< ((8 - (if l < (8 : Int32) then l else (8 : Int32))) &&& 31)))))], 0, 0)) rfl ?_
            exact k13 c1 c2 c3 c6 c7
theorem vc_Row_low {tb : en_T} {r : Option Value} {h' : en_H} (q k : Int32) (N : Nat) (f : Nat → Int32)
    (k1 : (en_Ev pg_P tb pg_cr 155 (5, [some (.ref 0), some (.int q), some (.int k), some (.long 0), none, some (.int 0)], [], [.inl (0, N, .inl f)], 0, 0) r h')) : en_Ev pg_P tb pg_cr 155 (0, [some (.ref 0), some (.int q), some (.int k), none, none, none], [], [.inl (0, N, .inl f)], 0, 0) r h' := by
  refine ev_bk 4 (S' := (5, [some (.ref 0), some (.int q), some (.int k), some (.long 0), none, some (.int 0)], [], [.inl (0, N, .inl f)], 0, 0)) rfl ?_
  exact k1
theorem vc_Row_low_5 {tb : en_T} {r : Option Value} {h' : en_H} (q k : Int32) (v : Int64) (i : Int32) (N : Nat) (f : Nat → Int32)
    (k1 : (k ≤ i) → (r = some (.long v) ∧ h' = [.inl (0, N, .inl f)]))
    (k2 : (¬ k ≤ i) → ((q + i) < 0) → (r = some (.long v) ∧ h' = [.inl (0, N, .inl f)]))
    (k3 : (¬ k ≤ i) → (¬ (q + i) < 0) → ((Int32.ofNat N) ≤ (q + i)) → (r = some (.long v) ∧ h' = [.inl (0, N, .inl f)]))
    (k4 : (¬ k ≤ i) → (¬ (q + i) < 0) → (¬ (Int32.ofNat N) ≤ (q + i)) → (en_bad (q + i) N = false))
    (k5 : (¬ k ≤ i) → (¬ (q + i) < 0) → (¬ (Int32.ofNat N) ≤ (q + i)) → (en_Ev pg_P tb pg_cr 155 (5, [some (.ref 0), some (.int q), some (.int k), some (.long (v ||| (((f (q + i).toNatClampNeg).toInt64) <<< ((8 * i).toInt64 &&& 63)))), none, some (.int (i + 1))], [], [.inl (0, N, .inl f)], 0, 0) r h')) : en_Ev pg_P tb pg_cr 155 (5, [some (.ref 0), some (.int q), some (.int k), some (.long v), none, some (.int i)], [], [.inl (0, N, .inl f)], 0, 0) r h' := by
  refine ev_bk 3 (S' := (bif en_cmp .ge i k then 49 else 11, [some (.ref 0), some (.int q), some (.int k), some (.long v), none, some (.int i)], [], [.inl (0, N, .inl f)], 0, 0)) rfl ?_
  refine ev_if (fun c1 => ?_) (fun c1 => ?_)
  · have c1 := cm_ge_t c1
    refine ev_bk 1 (S' := (50, [some (.ref 0), some (.int q), some (.int k), some (.long v), none, some (.int i)], [.long v], [.inl (0, N, .inl f)], 0, 0)) rfl ?_
    rw [(k1 c1).1, (k1 c1).2]
    exact ev_ret rfl rfl
  · have c1 := cm_ge_f c1
    refine ev_bk 4 (S' := (bif en_cmp .lt (q + i) 0 then 49 else 18, [some (.ref 0), some (.int q), some (.int k), some (.long v), none, some (.int i)], [], [.inl (0, N, .inl f)], 0, 0)) rfl ?_
    refine ev_if (fun c2 => ?_) (fun c2 => ?_)
    · have c2 := cm_lt_t c2
      refine ev_bk 1 (S' := (50, [some (.ref 0), some (.int q), some (.int k), some (.long v), none, some (.int i)], [.long v], [.inl (0, N, .inl f)], 0, 0)) rfl ?_
      rw [(k2 c1 c2).1, (k2 c1 c2).2]
      exact ev_ret rfl rfl
    · have c2 := cm_lt_f c2
      refine ev_bk 6 (S' := (bif en_cmp .ge (q + i) (Int32.ofNat N) then 49 else 27, [some (.ref 0), some (.int q), some (.int k), some (.long v), none, some (.int i)], [], [.inl (0, N, .inl f)], 0, 0)) rfl ?_
      refine ev_if (fun c3 => ?_) (fun c3 => ?_)
      · have c3 := cm_ge_t c3
        refine ev_bk 1 (S' := (50, [some (.ref 0), some (.int q), some (.int k), some (.long v), none, some (.int i)], [.long v], [.inl (0, N, .inl f)], 0, 0)) rfl ?_
        rw [(k3 c1 c2 c3).1, (k3 c1 c2 c3).2]
        exact ev_ret rfl rfl
      · have c3 := cm_ge_f c3
        refine ev_bk 5 (S' := (33, [some (.ref 0), some (.int q), some (.int k), some (.long v), none, some (.int i)], [.int (q + i), .ref 0, .long v], [.inl (0, N, .inl f)], 0, 0)) rfl ?_
        refine ev_iald (n := N) (f := f) rfl rfl (k4 c1 c2 c3) ?_
        refine ev_bk 9 (S' := (5, [some (.ref 0), some (.int q), some (.int k), some (.long (v ||| (((f (q + i).toNatClampNeg).toInt64) <<< ((8 * i).toInt64 &&& 63)))), none, some (.int (i + 1))], [], [.inl (0, N, .inl f)], 0, 0)) rfl ?_
        exact k5 c1 c2 c3
