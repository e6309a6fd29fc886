/-! the engine is sound: calls and runs -/
/-- what the tables must say of the calls: the callee's code, its class, its parameters; by the kind of call -/
def en_okM (P : en_Pg) (O : Nat → String) (B : Nat → ByteArray) (Y : Nat → MethodName) (cl : List vw_C) (Ts : List Cond) : Prop := ∀ j x kd j', en_pM P j x = some (kd, j') → kd < 4 →
  (Cond.code (Y j') (B j') (en_ml P j') (en_rt P j') ∈ Ts ∧ Cond.initialized (Y j').cls ∈ Ts ∧ ((Y j').cls ≠ "java/lang/invoke/MethodHandle" ∧ (Y j').cls ≠ "java/lang/invoke/VarHandle" ∧ (parseMethodDescriptor (Y j').desc).map (fun d => d.parameters.length) = some (en_na P j')) ∧ plainName (Y j').cls = true ∧ O j' = (Y j').cls ∧ (∀ z, en_ini P j' = z + 1 → (Y j').name = "<init>")) ∧
  (kd = 0 → Cond.methodLink (O j) x (Y j') ∈ Ts ∧ Cond.static (Y j') ∈ Ts) ∧
  (kd = 1 → Cond.methodLink (O j) x (Y j') ∈ Ts ∧ Cond.instanceMethod (Y j') ∈ Ts ∧ Cond.selects (Y j').cls (Y j') (Y j') ∈ Ts ∧ ∃ (T : u_T) (N : Nat), cl[en_oc P j']? = some ((Y j').cls, T, N)) ∧
  (kd = 2 → Cond.methodLink (O j) x (Y j') ∈ Ts ∧ Cond.instanceMethod (Y j') ∈ Ts ∧ (Y j').name = "<init>" ∧ en_rt P j' = none) ∧
  (kd = 3 → ∃ host : String, Cond.methodLinkNest (O j) x (Y j') host ∈ en_Xs ∧ Cond.instanceMethod (Y j') ∈ Ts ∧ (Y j').name = "<init>" ∧ en_rt P j' = none)
def en_okD (P : en_Pg) (B : Nat → ByteArray) : Prop := ∀ j pc i len, en_pI P j pc = some (i, len) → decode (B j) pc = .ok (i, len)
theorem en_Z.moved {SN : en_SN} {n0 : Nat} {ad : Nat → Nat} {tb : en_T} {u U : State} (hW : u.WarmedH U.vm) (hsz : u.heap.size ≤ U.heap.size) (hq : ∀ a : Nat, a < u.heap.size → ¬ en_A n0 a → U.heap[a]? = u.heap[a]?) (h : en_Z SN n0 ad tb u) : en_Z SN n0 ad tb U := by
  refine ⟨fun k n f hk => ?_, fun k C n d hk => ?_, fun w hw => ?_⟩
  · obtain ⟨z1, z2, z3⟩ := h.1 k n f hk
    exact ⟨(z1.kept (hq _ z2 z3)).moved hW.alike, Nat.lt_of_lt_of_le z2 hsz, z3⟩
  · exact ((h.2.1 k C n d hk).kept hq).moved hW.alike
  · have z := h.2.2 w hw
    rcases en_Xs_ok w hw with ⟨a, i, x, h, rfl⟩ | ⟨C, rfl⟩
    · exact va_Nw.warmM hW z
    · exact va_AO.moved hW.alike z
/-- a callee's start: its arguments; the cells stand -/
def en_B (D : va_G) (cl : List vw_C) (ad : Nat → Nat) (ac : Nat → ClassId) (n0 : Nat) (SN : en_SN) (tb : en_T) (h : en_H) (U : State) : Prop := va_P D cl (en_w ad ac h) U.heap ∧ va_K D cl (en_tys ac) U ∧ en_Z SN n0 ad tb U ∧ U.heap.size = n0 + h.length ∧ h.length ≤ en_b
def en_Pc (D : va_G) (cl : List vw_C) (ad : Nat → Nat) (ac : Nat → ClassId) (n0 : Nat) (SN : en_SN) (tb : en_T) (as : List Value) (h : en_H) : Array Value → State → Prop := va_Pc (as.map (en_v ad)) (en_B D cl ad ac n0 SN tb h)
def en_Qc (D : va_G) (cl : List vw_C) (ad : Nat → Nat) (ac : Nat → ClassId) (n0 : Nat) (r : Option Value) (h' : en_H) : Array Value → State → Outcome → State → Prop := fun _ st oc t => oc = .returned (r.map (en_v ad)) ∧ va_P D cl (en_w ad ac h') t.heap ∧ va_F (en_A n0) st t
theorem en_blind {D : va_G} {cl : List vw_C} {ad : Nat → Nat} {ac : Nat → ClassId} {n0 : Nat} {SN : en_SN} {tb : en_T} {as : List Value} {h : en_H} : FrameBlind (en_Pc D cl ad ac n0 SN tb as h) := by
  intro a U g mk q
  obtain ⟨q0, q1, q2, q3, q4, q5⟩ := q
  exact ⟨q0, q1, va_K.moved (u := U) (U := U.calling g mk a) (Vm.Alike.refl U.vm) q2, q3.moved (u := U) (U := U.calling g mk a) (State.WarmedH.refl U) (Nat.le_refl _) (fun _ _ _ => rfl), q4, q5⟩
section EnCall
variable {p : Program} {l : Launch} {e : Env} {R : Room} {s : State} {m : MethodId} {args : Array Value} {below : List Frame} {meth : Method} {c : Code} {H : Heap} {locs : List Loc} {cs ss mc ms pc n0 : Nat} {Q : State → Prop} {ls : Array Slot} {ad : Nat → Nat} {ac : Nat → ClassId} {D : va_G} {cl : List vw_C} {h' : en_H} {r : Option Value} {rest st0 : List Value} {a : Array Value}
theorem en_callW (hr : va_Run p l e R s m args below meth c H locs cs ss mc ms (F0 m pc ls st0) rest (en_Qc D cl ad ac n0 r h' a) (en_A n0)) (hS : va_S (en_A n0) s.heap H locs)
    (kk : ∀ (H1 : Heap) (locs1 : List Loc), va_P D cl (en_w ad ac h') H1 → va_S (en_A n0) s.heap H1 locs1 → W p l e R s m args below meth c H1 locs1 (cs + mc) (ss + ms) Q (F0 m (pc + 3) ls ((r.map (en_v ad)).toList ++ rest))) : W p l e R s m args below meth c H locs cs ss Q (F0 m pc ls st0) := by
  intro T hT X
  obtain ⟨v, st₀, t, T', L, h0, X', hL, e1, e2, ⟨hv, hp, hz, hk⟩, go⟩ := hr T hT X
  cases hv
  rw [h0] at hz hk
  obtain ⟨t2, a1, b1⟩ := kk T'.heap (locs ++ L) (by rw [e1]; exact hp) ⟨Nat.le_trans hS.1 (by rw [e1]; exact hz), fun q h1 h2 => by rw [e1, hk q (Nat.lt_of_lt_of_le h1 hS.1) h2]; exact hS.2.1 q h1 h2, fun q hq => (List.mem_append.mp hq).elim (hS.2.2 q) (hL q)⟩ T' rfl X'
  exact ⟨t2, go t2 a1, b1⟩
end EnCall
/-- the run of a method from a state of the engine's, at any frame that is like it -/
def en_Snd (l : Launch) (D : va_G) (cl : List vw_C) (ad : Nat → Nat) (ac : Nat → ClassId) (n0 : Nat) (SN : en_SN) (tb : en_T) (cr : Nat → Nat) (P : en_Pg) (O : Nat → String) (B : Nat → ByteArray) (Ts : List Cond) (n : Nat) : Prop :=
  ∀ (j : Nat) (S : en_S) (r : Option Value) (h' : en_H), en_run P tb cr n j S = some (r, h') →
  ∀ (p : Program) (e : Env) (s : State) (m : MethodId) (args : Array Value) (below : List Frame) (meth : Method) (c : Code) (hl0 : Nat) (Q : State → Prop) (H : Heap) (locs : List Loc) (ls : Array Slot),
  p.tables.exec = Jvm.exec → c.code = B j → c.maxLocals = en_ml P j → s.vm.findClass (O j) = some m.cls → (∀ w ∈ Ts, w.before args s = true) → va_K D cl (en_tys ac) s → en_Z SN n0 ad tb s → (∀ z, en_ini P j = z + 1 → meth.name = "<init>") → s.heap.size = n0 + hl0 →
  S.2.1.length = en_ml P j → S.2.2.2.2.1 + hl0 = S.2.2.2.1.length → va_P D cl (en_w ad ac S.2.2.2.1) H → S.2.2.2.1.length ≤ en_b → va_S (en_A n0) s.heap H locs → en_has ad ls S.2.1 →
  (∀ (pc : Nat) (i : Instr) (len : Nat) (st : List Value) (cs ss : Nat) (H' : Heap) (locs' : List Loc) (ls' : Array Slot), decode (B j) pc = .ok (i, len) → en_ret P j i len st cs ss = some r → va_P D cl (en_w ad ac h') H' → va_S (en_A n0) s.heap H' locs' → W p l e (en_rm P j) s m args below meth c H' locs' cs ss Q (F0 m pc ls' (st.map (en_v ad)))) →
  W p l e (en_rm P j) s m args below meth c H locs S.2.2.2.2.1 S.2.2.2.2.2 Q (F0 m S.1 ls (S.2.2.1.map (en_v ad)))
section EnRun
variable {l : Launch} {D : va_G} {cl : List vw_C} {ad : Nat → Nat} {ac : Nat → ClassId} {n0 : Nat} {SN : en_SN} {tb : en_T} {cr : Nat → Nat} {P : en_Pg} {O : Nat → String} {B : Nat → ByteArray} {Y : Nat → MethodName} {Ts : List Cond}
def en_wl (P : en_Pg) (B : Nat → ByteArray) (Y : Nat → MethodName) (Ts : List Cond) (j : Nat) : List Cond := Cond.code (Y j) (B j) (en_ml P j) (en_rt P j) :: Ts
set_option maxHeartbeats 8000000 in
/-- a method's contract, out of its run -/
theorem en_met {n : Nat} (ih : en_Snd l D cl ad ac n0 SN tb cr P O B Ts n) {j : Nat} {as : List Value} {h h' : en_H} {r : Option Value} (hpl : plainName (Y j).cls = true) (hO : O j = (Y j).cls) (hini : ∀ z, en_ini P j = z + 1 → (Y j).name = "<init>") (hent : (en_ent1 as).length ≤ en_ml P j) (hrun : en_run P tb cr n j (0, en_ent (en_ml P j) as, [], h, 0, 0) = some (r, h')) : Met l (Y j) (en_wl P B Y Ts j) (en_rm P j) (en_Pc D cl ad ac n0 SN tb as h) (en_Qc D cl ad ac n0 r h') (en_mc P j) (en_ms P j) (en_A n0) := by
  refine Met.ofW (cc := B j) (maxL := en_ml P j) (ret := en_rt P j) hpl rfl ?_
  intro p e s m args below meth c s₁ Bo hml hv
  obtain ⟨rfl, hP, hK, hZ, hsz, hle⟩ := hv
  have hts := atoms_spec (ws := en_wl P B Y Ts j) Bo.pre
  have hr := Bo.returns
  have hb := Bo.bytes
  have hx := Bo.exec
  have hlocks := Bo.notSynchronized
  rw [lg_entry_eq]
  refine ih j (0, en_ent (en_ml P j) as, [], h, 0, 0) r h' hrun p e s m _ below meth c h.length _ s.heap [] _ hx hb hml (by rw [hO]; exact findClass_of_methodNamed Bo.named) (fun w hw => hts w (List.mem_cons_of_mem _ hw)) hK hZ (fun z hz => (name_of_methodNamed Bo.named Bo.method).1.trans (hini z hz)) hsz (en_ent_len hent) (Nat.zero_add _) hP hle va_S.rf (en_ent_has hent) ?_
  intro pc i len st cs ss H' locs' ls' hdg hret hP' hS'
  have hq : ∀ t : State, t.heap = H' → s.WarmedH t.vm → en_Qc D cl ad ac n0 r h' (as.map (en_v ad)).toArray s (.returned (r.map (en_v ad))) t := fun t ht _ => ⟨rfl, by rw [ht]; exact hP', hS'.F ht⟩
  unfold en_ret at hret
  split at hret
  · split at hret
    · split at hret
      · rename_i hc
        obtain ⟨hc, c3⟩ := hc
        rw [Bool.and_eq_true, Bool.and_eq_true] at hc
        obtain ⟨c0, c1, c2⟩ := hc
        have c0 := Nat.eq_of_beq_eq_true c0
        subst c0
        cases hret
        rw [c3] at hr
        exact W.widen (Nat.le_of_ble_eq_true c1) (Nat.le_of_ble_eq_true c2) (W.vret hx hb hr hq (fun q hq => hS'.2.2 q hq) hdg)
      · cases hret
    · cases hret
  · split at hret
    · split at hret
      · rename_i ty hty
        split at hret
        · rename_i hc
          rw [Bool.and_eq_true, Bool.and_eq_true, Bool.and_eq_true] at hc
          obtain ⟨c0, c1, c2, c3⟩ := hc
          have c0 := Nat.eq_of_beq_eq_true c0
          subst c0
          cases hret
          rw [hty] at hr
          exact W.widen (Nat.le_of_ble_eq_true c1) (Nat.le_of_ble_eq_true c2) (W.zret hx hb hr (en_nf_ok c3).1 hq (fun q hq => hS'.2.2 q hq) hdg)
        · cases hret
      · cases hret
    · cases hret
  · split at hret
    · split at hret
      · rename_i hc
        obtain ⟨hc, c3⟩ := hc
        rw [Bool.and_eq_true, Bool.and_eq_true] at hc
        obtain ⟨c0, c1, c2⟩ := hc
        have c0 := Nat.eq_of_beq_eq_true c0
        subst c0
        cases hret
        rw [c3] at hr
        exact W.widen (Nat.le_of_ble_eq_true c1) (Nat.le_of_ble_eq_true c2) (W.lret hx hb hr hq (fun q hq => hS'.2.2 q hq) hdg)
      · cases hret
    · cases hret
  · cases hret
end EnRun
