/-! THE CLAIM OUT OF ONE WALK OF THE LAW'S BODY. Your part is whole_start (and what it stands on); all else here is the same for every law, but numbers. -/
def R_law : String := "PackingHouseLaw"
def lw_P (b : Addr) (xs : List Int32) (args : Array Value) (s : State) : Prop := args = #[.ref b] ∧ s.IntsAt b xs ∧ xs.length ≤ 2048 ∧ (Jvm.Cond.and given_1 narrow_1).before args s = true
def lw_Q (_ : Array Value) (s : State) (o : Outcome) (t : State) : Prop := o = .returned (some (.int 1)) ∧ Framed s o t [] 60000 8922250
def lw_Z (below : List Frame) (a : Array Value) (s : State) : State → Prop := fun t => ∃ o, t.status = .running ∧ Ended t below o ∧ lw_Q a s o t
/-- the law's own end, with 1 on the stack, nothing written that was there before, its room as the claim has it -/
theorem lw_ret {p : Program} {l : Launch} {e : Env} {s : State} {m : MethodId} {below : List Frame} {meth : Method} {c : Code} {b : Nat} (hx : p.tables.exec = Jvm.exec) (hb : c.code = code) (hr : meth.sig.returnType = ret) (hlocks : meth.locks = false) {pc : Nat} {H : Heap} {ls : Array Slot} (hdg : decode code pc = .ok (.ireturn, 1)) : W p l e room_1 s m #[Value.ref b] below meth c H [] 60000 8922250 (lw_Z below #[Value.ref b] s) (F0 m pc ls [.int 1]) := by
  intro T hT X
  obtain ⟨fs, hret, hrun, hended, hW, hframe⟩ := X.leave (v := some (.int 1)) (hlocks := hlocks) (fun h => by rw [hr] at h; cases h)
  have hmeth' : T.vm.method? m = some meth := X.method'
  refine ⟨T.setFrames fs, ?_, .returned (some (.int 1)), hrun, hended, rfl, ⟨_, rfl⟩, hW, hframe⟩
  jvm_step X.here [X.here.top, hx, hb, hdg, hmeth', hr, ret, narrow_b1]
  (try refine ⟨rfl, ?_⟩); (try refine ⟨rfl, ?_⟩)
  first | (intro acts; rw [hret _ acts rfl rfl rfl]) | rw [hret _ _ rfl rfl rfl]
  exact Steps.refl _
/-- what holds at the law's entry: the machine, the code, the tables' words (any of lw_tbl by 'hts w (by decide +kernel)'), the script of L ints xs at the cell b, what the Statement gives of the start (any of its parts by flat_of_before) -/
def lw_At (p : Program) (s : State) (m : MethodId) (meth : Method) (c : Code) (b L : Nat) (xs : Nat → Int32) : Prop :=
  p.tables.exec = Jvm.exec ∧ c.code = code ∧ meth.sig.returnType = ret ∧ c.maxLocals = 4 ∧ s.vm.findClass R_law = some m.cls ∧ (∀ w ∈ lw_tbl, w.before #[Value.ref b] s = true) ∧ va_X b L xs s s.heap ∧ b < s.heap.size ∧ meth.locks = false ∧ (Jvm.Cond.and given_1 narrow_1).before #[Value.ref b] s = true
/-- what the engine is asked: from the law's start, with the script as static array 11, it comes to 1 -/
def pg_S0 : en_S := (0, en_ent 4 [.ref (en_b + 11)], [], [], 0, 0)
def pg_Law (L : Nat) (xs : Nat → Int32) : Prop := ∃ (n : Nat) (h' : en_H), en_run pg_P (pg_tb L xs) pg_cr n 0 pg_S0 = some (some (.int 1), h')
set_option maxHeartbeats 8000000 in
/-- THE LAW, from its entry, out of the engine's run -/
theorem en_start {p : Program} {e : Env} {s : State} {m : MethodId} {below : List Frame} {meth : Method} {c : Code} (l : Launch) {b L : Nat} {xs : Nat → Int32} (hlaw : pg_Law L xs) (C0 : lw_At p s m meth c b L xs) : W p l e room_1 s m #[Value.ref b] below meth c s.heap [] 0 0 (lw_Z below #[Value.ref b] s) (entryFrame m ([Value.ref b] : List Value).toArray 4) := by
  obtain ⟨hx, hb, hr, hml, hown, hts0, hX, hbl, hlocks, hgv⟩ := C0
  have hts : ∀ w ∈ pg_Ts, w.before #[Value.ref b] s = true := fun w hw => hts0 w (List.mem_filter.mp hw).1
  have hxs : ∀ w ∈ en_Xs, va_Nw w s := fun w hw => by
    have z := hts0 w (en_Xs_lw w hw)
    rcases en_Xs_ok w hw with ⟨a, i, x, h, rfl⟩ | ⟨C, rfl⟩
    · exact va_Nw.of rfl z
    · exact va_AO.of z
  obtain ⟨n, h', hrun⟩ := hlaw
  obtain ⟨D, ac, hK⟩ := en_Kof hts hxs
  have hst : ∀ k : Nat, ∃ t : Nat, k < 11 → ∃ (C n d : String) (l : List Int32), pg_SN k = some (C, n, d) ∧ pg_st[k]? = some l ∧ va_X t l.length (fun i => l.getD i 0) s s.heap ∧ t < s.heap.size ∧ va_Z C n d (.ref t) (en_A s.heap.size) s s.heap := by
    intro k
    by_cases hk : k < 11
    · obtain ⟨C, n, d, l, t, q⟩ := en_Sof (ck_S_all hk) hgv hts0
      exact ⟨t, fun _ => ⟨C, n, d, l, q⟩⟩
    · exact ⟨0, fun q => absurd q hk⟩
  obtain ⟨tk, htk⟩ : ∃ tk : Nat → Nat, ∀ k, k < 11 → ∃ (C n d : String) (l : List Int32), pg_SN k = some (C, n, d) ∧ pg_st[k]? = some l ∧ va_X (tk k) l.length (fun i => l.getD i 0) s s.heap ∧ tk k < s.heap.size ∧ va_Z C n d (.ref (tk k)) (en_A s.heap.size) s s.heap := ⟨fun k => Classical.choose (hst k), fun k => Classical.choose_spec (hst k)⟩
  let ad : Nat → Nat := fun q => if q < en_b then s.heap.size + q else if q = en_b + 11 then b else tk (q - en_b)
  have had : en_ad s.heap.size ad := fun k hk => if_pos hk
  have had1 : ad (en_b + 11) = b := by
    show (if en_b + 11 < en_b then _ else if en_b + 11 = en_b + 11 then b else _) = b
    rw [if_neg (by omega), if_pos rfl]
  have had2 : ∀ k, k < 11 → ad (en_b + k) = tk k := fun k hk => by
    show (if en_b + k < en_b then _ else if en_b + k = en_b + 11 then b else tk (en_b + k - en_b)) = tk k
    rw [if_neg (by omega), if_neg (by omega), Nat.add_sub_cancel_left]
  have hZ : en_Z pg_SN s.heap.size ad (pg_tb L xs) s := by
    refine ⟨fun k n f hk => ?_, fun k C n d hk => ?_, hxs⟩
    · unfold pg_tb at hk
      by_cases hkn : k = 11
      · subst hkn
        cases hk
        rw [had1]
        exact ⟨hX, hbl, Nat.not_le.mpr hbl⟩
      · have hkb : Nat.beq k 11 = false := by
          cases hz : Nat.beq k 11
          · rfl
          · exact absurd (Nat.eq_of_beq_eq_true hz) hkn
        rw [hkb] at hk
        have hlt : k < 11 := by
          rcases Nat.lt_or_ge k 11 with q | q
          · exact q
          · have hl : pg_st.length = 11 := rfl
            rw [cond_false, List.getElem?_eq_none (by omega)] at hk
            cases hk
        obtain ⟨C, n', d, l', g1, g2, g3, g4, g5⟩ := htk k hlt
        rw [cond_false, g2] at hk
        cases hk
        rw [had2 k hlt]
        exact ⟨g3, g4, Nat.not_le.mpr g4⟩
    · have hlt : k < 11 := by
        unfold pg_SN at hk
        exact (List.getElem?_eq_some_iff.mp hk).1
      obtain ⟨C', n', d', l', g1, g2, g3, g4, g5⟩ := htk k hlt
      rw [g1] at hk
      cases hk
      rw [had2 k hlt]
      exact g5
  rw [lg_entry_eq]
  have hent : en_has ad ((lg_sl [Value.ref b] ++ List.replicate (4 - (lg_sl [Value.ref b]).length) Slot.unset).toArray) (en_ent 4 [.ref (en_b + 11)]) := by
    have h := en_ent_has (ad := ad) (ml := 4) (as := [.ref (en_b + 11)]) (by decide)
    rw [show ([Value.ref (en_b + 11)].map (en_v ad)) = [Value.ref b] by show [Value.ref (ad (en_b + 11))] = _; rw [had1]] at h
    exact h
  refine en_snd (l := l) (Y := pg_Y) (B := pg_B) pg_Ok pg_okM pg_okD en_GG had n 0 pg_S0 (some (.int 1)) h' hrun p e s m #[Value.ref b] below meth c 0 (lw_Z below #[Value.ref b] s) s.heap [] _ hx hb hml hown hts hK hZ (fun z hz => by cases hz) rfl rfl rfl (fun k q h => by cases h) (Nat.zero_le _) va_S.rf hent ?_
  intro pc i len st cs ss H' locs' ls' hdg hret hP' hS'
  have hdg' : decode code pc = .ok (i, len) := hdg
  unfold en_ret at hret
  split at hret
  · split at hret
    · split at hret <;> cases hret
    · cases hret
  · split at hret
    · split at hret
      · split at hret
        · rename_i hc
          rw [Bool.and_eq_true, Bool.and_eq_true, Bool.and_eq_true] at hc
          obtain ⟨c0, c1, c2, -⟩ := hc
          have c0 := Nat.eq_of_beq_eq_true c0
          subst c0
          cases hret
          exact va_forget (fun q hq => hS'.2.2 q hq) (W.widen (Nat.le_of_ble_eq_true c1) (Nat.le_of_ble_eq_true c2) (lw_ret hx hb hr hlocks hdg'))
        · cases hret
      · cases hret
    · cases hret
  · split at hret
    · split at hret <;> cases hret
    · cases hret
  · cases hret
