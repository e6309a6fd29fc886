/-! Row: over its own few cells (0 the row, 1 its cells) -/
section RowSp
variable {tb : en_T}
theorem en_lt_t {x y : Int32} (h : x < y) : en_cmp .lt x y = true := decide_eq_true h
theorem en_lt_f {x y : Int32} (h : ¬ x < y) : en_cmp .lt x y = false := decide_eq_false h
theorem en_no {b : Bool} {C : Prop} (h : b = true) (h2 : b = false) : C := by rw [h] at h2; cases h2
/-- clear() -/
theorem sp_Row_clear (c : Value) (n o s : Int32) : en_Ev pg_P tb pg_cr 37 (0, [some (.ref 0)], [], [.inr (6, [c, .int n, .int o, .int s])], 0, 0) none [.inr (6, [c, .int 0, .int 0, .int 0])] := by
  refine ev_bk 9 (S' := (15, [some (.ref 0)], [], [.inr (6, [c, .int 0, .int 0, .int 0])], 0, 0)) rfl ?_
  exact ev_ret rfl rfl
/-- add(v), where there is room -/
theorem sp_Row_add (n o s v : Int32) (N : Nat) (f : Nat → Int32) (h0 : ¬ n < 0) (h1 : n < Int32.ofNat N) (hb : en_bad n N = false) : en_Ev pg_P tb pg_cr 19 (0, [some (.ref 0), some (.int v)], [], [.inr (6, [.ref 1, .int n, .int o, .int s]), .inl (0, N, .inl f)], 0, 0) none [.inr (6, [.ref 1, .int (n + 1), .int o, .int s]), .inl (0, N, .inl (upd f n.toNatClampNeg (v &&& 255)))] := by
  refine ev_bk 3 (S' := (bif en_cmp .lt n 0 then 19 else 7, [some (.ref 0), some (.int v)], [], [.inr (6, [.ref 1, .int n, .int o, .int s]), .inl (0, N, .inl f)], 0, 0)) rfl ?_
  refine ev_if (fun c1 => en_no c1 (en_lt_f h0)) (fun c1 => ?_)
  refine ev_bk 6 (S' := (bif en_cmp .lt n (Int32.ofNat N) then 25 else 19, [some (.ref 0), some (.int v)], [], [.inr (6, [.ref 1, .int n, .int o, .int s]), .inl (0, N, .inl f)], 0, 0)) rfl ?_
  refine ev_if (fun c2 => ?_) (fun c2 => en_no (en_lt_t h1) c2)
  refine ev_bk 7 (S' := (38, [some (.ref 0), some (.int v)], [.int (v &&& 255), .int n, .ref 1], [.inr (6, [.ref 1, .int n, .int o, .int s]), .inl (0, N, .inl f)], 0, 0)) rfl ?_
  refine ev_iast (n := N) (f := f) rfl rfl hb ?_
  refine ev_bk 6 (S' := (49, [some (.ref 0), some (.int v)], [], [.inr (6, [.ref 1, .int (n + 1), .int o, .int s]), .inl (0, N, .inl (upd f n.toNatClampNeg (v &&& 255)))], 0, 0)) rfl ?_
  exact ev_ret rfl rfl
/-- add(v), where there is none -/
theorem sp_Row_addOver (n o s v : Int32) (N : Nat) (f : Nat → Int32) (h1 : n < 0 ∨ ¬ n < Int32.ofNat N) : en_Ev pg_P tb pg_cr 19 (0, [some (.ref 0), some (.int v)], [], [.inr (6, [.ref 1, .int n, .int o, .int s]), .inl (0, N, .inl f)], 0, 0) none [.inr (6, [.ref 1, .int n, .int 1, .int s]), .inl (0, N, .inl f)] := by
  refine ev_bk 3 (S' := (bif en_cmp .lt n 0 then 19 else 7, [some (.ref 0), some (.int v)], [], [.inr (6, [.ref 1, .int n, .int o, .int s]), .inl (0, N, .inl f)], 0, 0)) rfl ?_
  refine ev_if (fun c1 => ?_) (fun c1 => ?_)
  · refine ev_bk 3 (S' := (24, [some (.ref 0), some (.int v)], [], [.inr (6, [.ref 1, .int n, .int 1, .int s]), .inl (0, N, .inl f)], 0, 0)) rfl ?_
    exact ev_ret rfl rfl
  · refine ev_bk 6 (S' := (bif en_cmp .lt n (Int32.ofNat N) then 25 else 19, [some (.ref 0), some (.int v)], [], [.inr (6, [.ref 1, .int n, .int o, .int s]), .inl (0, N, .inl f)], 0, 0)) rfl ?_
    refine ev_if (fun c2 => ?_) (fun c2 => ?_)
    · rcases h1 with q | q
      · exact en_no (en_lt_t q) c1
      · exact en_no c2 (en_lt_f q)
    · refine ev_bk 3 (S' := (24, [some (.ref 0), some (.int v)], [], [.inr (6, [.ref 1, .int n, .int 1, .int s]), .inl (0, N, .inl f)], 0, 0)) rfl ?_
      exact ev_ret rfl rfl
end RowSp
