/-! Row: what its methods come to, by program (wip/gen/vc.py) -/
theorem vc_behind {tb : en_T} {r : Option Value} {h' : en_H} (n o s d e : Int32) (N : Nat) (f : Nat → Int32)
    (k1 : (d ≤ 0) → (r = some (.int e) ∧ h' = [.inr (6, [.ref 1, .int n, .int o, .int s]), .inl (0, N, .inl f)]))
    (k2 : (¬ d ≤ 0) → (n < d) → (r = some (.int e) ∧ h' = [.inr (6, [.ref 1, .int n, .int o, .int s]), .inl (0, N, .inl f)]))
    (k3 : (¬ d ≤ 0) → (¬ n < d) → (en_bad (n - d) N = false))
    (k4 : (¬ d ≤ 0) → (¬ n < d) → (r = some (.int (f (n - d).toNatClampNeg)) ∧ h' = [.inr (6, [.ref 1, .int n, .int o, .int s]), .inl (0, N, .inl f)])) : en_Ev pg_P tb pg_cr 22 (0, [some (.ref 0), some (.int d), some (.int e)], [], [.inr (6, [.ref 1, .int n, .int o, .int s]), .inl (0, N, .inl f)], 0, 0) r h' := by
  refine ev_bk 2 (S' := (bif en_cmp .le d 0 then 26 else 4, [some (.ref 0), some (.int d), some (.int e)], [], [.inr (6, [.ref 1, .int n, .int o, .int s]), .inl (0, N, .inl f)], 0, 0)) rfl ?_
  refine ev_if (fun c1 => ?_) (fun c1 => ?_)
  · have c1 := cm_le_t c1
    refine ev_bk 1 (S' := (27, [some (.ref 0), some (.int d), some (.int e)], [.int e], [.inr (6, [.ref 1, .int n, .int o, .int s]), .inl (0, N, .inl f)], 0, 0)) rfl ?_
    rw [(k1 c1).1, (k1 c1).2]
    exact ev_ret rfl rfl
  · have c1 := cm_le_f c1
    refine ev_bk 4 (S' := (bif en_cmp .gt d n then 26 else 12, [some (.ref 0), some (.int d), some (.int e)], [], [.inr (6, [.ref 1, .int n, .int o, .int s]), .inl (0, N, .inl f)], 0, 0)) rfl ?_
    refine ev_if (fun c2 => ?_) (fun c2 => ?_)
    · have c2 := cm_gt_t c2
      refine ev_bk 1 (S' := (27, [some (.ref 0), some (.int d), some (.int e)], [.int e], [.inr (6, [.ref 1, .int n, .int o, .int s]), .inl (0, N, .inl f)], 0, 0)) rfl ?_
      rw [(k2 c1 c2).1, (k2 c1 c2).2]
      exact ev_ret rfl rfl
    · have c2 := cm_gt_f c2
      refine ev_bk 6 (S' := (22, [some (.ref 0), some (.int d), some (.int e)], [.int (n - d), .ref 1], [.inr (6, [.ref 1, .int n, .int o, .int s]), .inl (0, N, .inl f)], 0, 0)) rfl ?_
      refine ev_iald (n := N) (f := f) rfl rfl (k3 c1 c2) ?_
      refine ev_bk 1 (S' := (27, [some (.ref 0), some (.int d), some (.int e)], [.int (f (n - d).toNatClampNeg)], [.inr (6, [.ref 1, .int n, .int o, .int s]), .inl (0, N, .inl f)], 0, 0)) rfl ?_
      rw [(k4 c1 c2).1, (k4 c1 c2).2]
      exact ev_ret rfl rfl
theorem vc_Row_adler {tb : en_T} {r : Option Value} {h' : en_H} (fr to : Int32) (N : Nat) (f : Nat → Int32)
    (k1 : (en_Ev pg_P tb pg_cr 27 (8, [some (.ref 0), some (.int fr), some (.int to), some (.int 1), some (.int 0), some (.int fr)], [], [.inl (0, N, .inl f)], 0, 0) r h')) : en_Ev pg_P tb pg_cr 27 (0, [some (.ref 0), some (.int fr), some (.int to), none, none, none], [], [.inl (0, N, .inl f)], 0, 0) r h' := by
  refine ev_bk 6 (S' := (8, [some (.ref 0), some (.int fr), some (.int to), some (.int 1), some (.int 0), some (.int fr)], [], [.inl (0, N, .inl f)], 0, 0)) rfl ?_
  exact k1
theorem vc_Row_adler_8 {tb : en_T} {r : Option Value} {h' : en_H} (fr to a b i : Int32) (N : Nat) (f : Nat → Int32)
    (k1 : (to ≤ i) → (r = some (.int ((b * 65536) + a)) ∧ h' = [.inl (0, N, .inl f)]))
    (k2 : (¬ to ≤ i) → (en_bad i N = false))
    (k3 : (¬ to ≤ i) → ((a + (f i.toNatClampNeg)) < 65521) → ((b + (a + (f i.toNatClampNeg))) < 65521) → (en_Ev pg_P tb pg_cr 27 (8, [some (.ref 0), some (.int fr), some (.int to), some (.int (a + (f i.toNatClampNeg))), some (.int (b + (a + (f i.toNatClampNeg)))), some (.int (i + 1))], [], [.inl (0, N, .inl f)], 0, 0) r h'))
    (k4 : (¬ to ≤ i) → ((a + (f i.toNatClampNeg)) < 65521) → (¬ (b + (a + (f i.toNatClampNeg))) < 65521) → (en_Ev pg_P tb pg_cr 27 (8, [some (.ref 0), some (.int fr), some (.int to), some (.int (a + (f i.toNatClampNeg))), some (.int ((b + (a + (f i.toNatClampNeg))) - 65521)), some (.int (i + 1))], [], [.inl (0, N, .inl f)], 0, 0) r h'))
    (k5 : (¬ to ≤ i) → (¬ (a + (f i.toNatClampNeg)) < 65521) → ((b + ((a + (f i.toNatClampNeg)) - 65521)) < 65521) → (en_Ev pg_P tb pg_cr 27 (8, [some (.ref 0), some (.int fr), some (.int to), some (.int ((a + (f i.toNatClampNeg)) - 65521)), some (.int (b + ((a + (f i.toNatClampNeg)) - 65521))), some (.int (i + 1))], [], [.inl (0, N, .inl f)], 0, 0) r h'))
    (k6 : (¬ to ≤ i) → (¬ (a + (f i.toNatClampNeg)) < 65521) → (¬ (b + ((a + (f i.toNatClampNeg)) - 65521)) < 65521) → (en_Ev pg_P tb pg_cr 27 (8, [some (.ref 0), some (.int fr), some (.int to), some (.int ((a + (f i.toNatClampNeg)) - 65521)), some (.int ((b + ((a + (f i.toNatClampNeg)) - 65521)) - 65521)), some (.int (i + 1))], [], [.inl (0, N, .inl f)], 0, 0) r h')) : en_Ev pg_P tb pg_cr 27 (8, [some (.ref 0), some (.int fr), some (.int to), some (.int a), some (.int b), some (.int i)], [], [.inl (0, N, .inl f)], 0, 0) r h' := by
  refine ev_bk 3 (S' := (bif en_cmp .ge i to then 58 else 14, [some (.ref 0), some (.int fr), some (.int to), some (.int a), some (.int b), some (.int i)], [], [.inl (0, N, .inl f)], 0, 0)) rfl ?_
  refine ev_if (fun c1 => ?_) (fun c1 => ?_)
  · have c1 := cm_ge_t c1
    refine ev_bk 5 (S' := (65, [some (.ref 0), some (.int fr), some (.int to), some (.int a), some (.int b), some (.int i)], [.int ((b * 65536) + a)], [.inl (0, N, .inl f)], 0, 0)) rfl ?_
    rw [(k1 c1).1, (k1 c1).2]
    exact ev_ret rfl rfl
  · have c1 := cm_ge_f c1
    refine ev_bk 3 (S' := (18, [some (.ref 0), some (.int fr), some (.int to), some (.int a), some (.int b), some (.int i)], [.int i, .ref 0, .int a], [.inl (0, N, .inl f)], 0, 0)) rfl ?_
    refine ev_iald (n := N) (f := f) rfl rfl (k2 c1) ?_
    refine ev_bk 5 (S' := (bif en_cmp .lt (a + (f i.toNatClampNeg)) 65521 then 32 else 27, [some (.ref 0), some (.int fr), some (.int to), some (.int (a + (f i.toNatClampNeg))), some (.int b), some (.int i)], [], [.inl (0, N, .inl f)], 0, 0)) rfl ?_
    refine ev_if (fun c2 => ?_) (fun c2 => ?_)
    · have c2 := cm_lt_t c2
      refine ev_bk 7 (S' := (bif en_cmp .lt (b + (a + (f i.toNatClampNeg))) 65521 then 52 else 45, [some (.ref 0), some (.int fr), some (.int to), some (.int (a + (f i.toNatClampNeg))), some (.int (b + (a + (f i.toNatClampNeg)))), some (.int i)], [], [.inl (0, N, .inl f)], 0, 0)) rfl ?_
      refine ev_if (fun c3 => ?_) (fun c3 => ?_)
      · have c3 := cm_lt_t c3
        refine ev_bk 2 (S' := (8, [some (.ref 0), some (.int fr), some (.int to), some (.int (a + (f i.toNatClampNeg))), some (.int (b + (a + (f i.toNatClampNeg)))), some (.int (i + 1))], [], [.inl (0, N, .inl f)], 0, 0)) rfl ?_
        exact k3 c1 c2 c3
      · have c3 := cm_lt_f c3
        refine ev_bk 6 (S' := (8, [some (.ref 0), some (.int fr), some (.int to), some (.int (a + (f i.toNatClampNeg))), some (.int ((b + (a + (f i.toNatClampNeg))) - 65521)), some (.int (i + 1))], [], [.inl (0, N, .inl f)], 0, 0)) rfl ?_
        exact k4 c1 c2 c3
    · have c2 := cm_lt_f c2
      refine ev_bk 11 (S' := (bif en_cmp .lt (b + ((a + (f i.toNatClampNeg)) - 65521)) 65521 then 52 else 45, [some (.ref 0), some (.int fr), some (.int to), some (.int ((a + (f i.toNatClampNeg)) - 65521)), some (.int (b + ((a + (f i.toNatClampNeg)) - 65521))), some (.int i)], [], [.inl (0, N, .inl f)], 0, 0)) rfl ?_
      refine ev_if (fun c4 => ?_) (fun c4 => ?_)
      · have c4 := cm_lt_t c4
        refine ev_bk 2 (S' := (8, [some (.ref 0), some (.int fr), some (.int to), some (.int ((a + (f i.toNatClampNeg)) - 65521)), some (.int (b + ((a + (f i.toNatClampNeg)) - 65521))), some (.int (i + 1))], [], [.inl (0, N, .inl f)], 0, 0)) rfl ?_
        exact k5 c1 c2 c4
      · have c4 := cm_lt_f c4
        refine ev_bk 6 (S' := (8, [some (.ref 0), some (.int fr), some (.int to), some (.int ((a + (f i.toNatClampNeg)) - 65521)), some (.int ((b + ((a + (f i.toNatClampNeg)) - 65521)) - 65521)), some (.int (i + 1))], [], [.inl (0, N, .inl f)], 0, 0)) rfl ?_
        exact k6 c1 c2 c4
theorem vc_Row_word {tb : en_T} {r : Option Value} {h' : en_H} (q : Int32) (N : Nat) (f : Nat → Int32)
    (k1 : (en_bad q N = false))
    (k2 : (en_bad (q + 1) N = false))
    (k3 : (en_bad (q + 2) N = false))
    (k4 : (en_bad (q + 3) N = false))
    (k5 : (r = some (.int ((((f q.toNatClampNeg) ||| ((f (q + 1).toNatClampNeg) <<< (8 &&& 31))) ||| ((f (q + 2).toNatClampNeg) <<< (16 &&& 31))) ||| ((f (q + 3).toNatClampNeg) <<< (24 &&& 31)))) ∧ h' = [.inl (0, N, .inl f)])) : en_Ev pg_P tb pg_cr 31 (0, [some (.ref 0), some (.int q)], [], [.inl (0, N, .inl f)], 0, 0) r h' := by
  refine ev_bk 2 (S' := (2, [some (.ref 0), some (.int q)], [.int q, .ref 0], [.inl (0, N, .inl f)], 0, 0)) rfl ?_
  refine ev_iald (n := N) (f := f) rfl rfl (k1) ?_
  refine ev_bk 4 (S' := (7, [some (.ref 0), some (.int q)], [.int (q + 1), .ref 0, .int (f q.toNatClampNeg)], [.inl (0, N, .inl f)], 0, 0)) rfl ?_
  refine ev_iald (n := N) (f := f) rfl rfl (k2) ?_
  refine ev_bk 7 (S' := (16, [some (.ref 0), some (.int q)], [.int (q + 2), .ref 0, .int ((f q.toNatClampNeg) ||| ((f (q + 1).toNatClampNeg) <<< (8 &&& 31)))], [.inl (0, N, .inl f)], 0, 0)) rfl ?_
  refine ev_iald (n := N) (f := f) rfl rfl (k3) ?_
  refine ev_bk 7 (S' := (25, [some (.ref 0), some (.int q)], [.int (q + 3), .ref 0, .int (((f q.toNatClampNeg) ||| ((f (q + 1).toNatClampNeg) <<< (8 &&& 31))) ||| ((f (q + 2).toNatClampNeg) <<< (16 &&& 31)))], [.inl (0, N, .inl f)], 0, 0)) rfl ?_
  refine ev_iald (n := N) (f := f) rfl rfl (k4) ?_
  refine ev_bk 3 (S' := (30, [some (.ref 0), some (.int q)], [.int ((((f q.toNatClampNeg) ||| ((f (q + 1).toNatClampNeg) <<< (8 &&& 31))) ||| ((f (q + 2).toNatClampNeg) <<< (16 &&& 31))) ||| ((f (q + 3).toNatClampNeg) <<< (24 &&& 31)))], [.inl (0, N, .inl f)], 0, 0)) rfl ?_
  rw [(k5).1, (k5).2]
  exact ev_ret rfl rfl
