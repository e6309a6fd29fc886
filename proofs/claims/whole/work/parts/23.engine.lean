/-! what is said of the cells: they stand one behind another from n0 on; static arrays lie below n0 -/
def en_A (n0 : Nat) : Nat → Prop := fun q => n0 ≤ q
def en_ad (n0 : Nat) (ad : Nat → Nat) : Prop := ∀ k, k < en_b → ad k = n0 + k
abbrev en_SN : Type := Nat → Option (String × String × String)
def en_Z (SN : en_SN) (n0 : Nat) (ad : Nat → Nat) (tb : en_T) (s : State) : Prop :=
  (∀ (k n : Nat) (f : Nat → Int32), tb k = some (n, f) → va_X (ad (en_b + k)) n f s s.heap ∧ ad (en_b + k) < s.heap.size ∧ ¬ en_A n0 (ad (en_b + k))) ∧
  (∀ (k : Nat) (C n d : String), SN k = some (C, n, d) → va_Z C n d (.ref (ad (en_b + k))) (en_A n0) s s.heap) ∧
  ∀ w ∈ en_Xs, va_Nw w s
theorem en_wD {n0 : Nat} {ad : Nat → Nat} {ac : Nat → ClassId} {h : en_H} (had : en_ad n0 ad) (hle : h.length ≤ en_b) : va_D (en_A n0) (en_w ad ac h) := by
  have key : ∀ (k : Nat) (q : Nat × va_E), (en_w ad ac h)[k]? = some q → q.1 = n0 + k := by
    intro k q hk
    have hl : k < h.length := by
      have := (List.getElem?_eq_some_iff.mp hk).1
      rw [en_w_len] at this
      exact this
    have he := en_w_at (ad := ad) (ac := ac) (List.getElem?_eq_getElem hl)
    rw [he] at hk
    cases hk
    exact had k (by omega)
  refine ⟨fun i j x y hi hj hxy => ?_, fun k q hk => ?_⟩
  · rw [key i x hi, key j y hj] at hxy
    omega
  · rw [key k q hk]
    exact Nat.le_add_right _ _
theorem en_tys_at (ac : Nat → ClassId) {t : Nat} (h : t < 6) : (en_tys ac)[t]? = some (ac t, en_ty t) := by
  match t, h with
  | 0, _ => rfl
  | 1, _ => rfl
  | 2, _ => rfl
  | 3, _ => rfl
  | 4, _ => rfl
  | 5, _ => rfl
  | n + 6, h => exact absurd h (by omega)
/-- what the tables must say of the program -/
def en_okF (P : en_Pg) (O : Nat → String) (cl : List vw_C) (Ts : List Cond) : Prop := ∀ j x ci k, en_pF P j x = some (ci, k) → ∃ (C : String) (T : u_T) (N : Nat), cl[ci]? = some (C, T, N) ∧ k < N ∧ (T k).1 = C ∧ Cond.fieldLink (O j) x C (T k).2.1 (T k).2.2.1 ∈ Ts ∧ parseFieldDescriptor (T k).2.2.1 = some (en_pY P ci k).1 ∧ (T k).2.2.2 = (en_pY P ci k).2
def en_okC (P : en_Pg) (cl : List vw_C) (Ts : List Cond) : Prop := ∀ (ci : Nat) (C : String) (T : u_T) (N : Nat), cl[ci]? = some (C, T, N) → (∀ w ∈ u_ws C T N, w ∈ Ts) ∧ (∃ ty0 : Nat → FieldType, (∀ k, k < N → parseFieldDescriptor (T k).2.2.1 = some (ty0 k)) ∧ ∀ q, q < N → defaultValue (ty0 q) = vp_V (en_pD P ci) q) ∧ (∀ a, a < N → ∀ b, b < N → a ≠ b → (T a).2.1 ≠ (T b).2.1) ∧ (en_pD P ci).length = N ∧ (∀ ad : Nat → Nat, (en_pD P ci).map (en_v ad) = en_pD P ci) ∧ Cond.instantiable C N ∈ Ts ∧ Cond.initialized C ∈ Ts
def en_okI (P : en_Pg) (O : Nat → String) (cl : List vw_C) : Prop := ∀ (j ci : Nat) (q : vw_C), en_ini P j = ci + 1 → cl[ci]? = some q → O j = q.1
def en_okK (P : en_Pg) (O : Nat → String) (Ts : List Cond) : Prop := ∀ j x, (∀ v, en_pK P j x = some (.int v) → Cond.constant (O j) x v ∈ Ts) ∧ ∀ v, en_pK P j x = some (.long v) → Cond.constantLong (O j) x v ∈ Ts
def en_okN (P : en_Pg) (O : Nat → String) (cl : List vw_C) (Ts : List Cond) : Prop := ∀ j x ci, en_pN P j x = some ci → ∃ (C : String) (T : u_T) (N : Nat), cl[ci]? = some (C, T, N) ∧ Cond.classLink (O j) x C ∈ Ts
def en_okA (P : en_Pg) (O : Nat → String) (Ts : List Cond) : Prop := ∀ j x t, en_pA P j x = some t → ∃ C : String, en_ty t = .object C ∧ Cond.classLink (O j) x C ∈ Ts ∧ Cond.arrayOver (.object C) ∈ en_Xs
def en_okT (Ts : List Cond) : Prop := Cond.arrayClass .int ∈ Ts ∧ Cond.arrayClass .byte ∈ Ts ∧ Cond.arrayClass .boolean ∈ Ts ∧ Cond.arrayClass .long ∈ Ts
def en_okG (P : en_Pg) (O : Nat → String) (SN : en_SN) (Ts : List Cond) : Prop := ∀ j x k, en_pG P j x = some k → ∃ C n d : String, SN k = some (C, n, d) ∧ Cond.fieldLink (O j) x C n d ∈ Ts
def en_okR (cr : Nat → Nat) (cl : List vw_C) : Prop := ∀ t, (t = 4 ∨ t = 5) → ∃ q : vw_C, cl[cr t]? = some q ∧ en_ty t = .object q.1
def en_okO (P : en_Pg) (O : Nat → String) (Ts : List Cond) : Prop := (∀ j x, en_pM P j x = some (4, 0) → Cond.methodLink (O j) x objectInit ∈ Ts) ∧ Cond.instanceMethod objectInit ∈ Ts ∧ Cond.code objectInit ⟨#[0xb1]⟩ 1 none ∈ Ts
def en_okY (P : en_Pg) (O : Nat → String) (Ts : List Cond) : Prop := (∀ j x, en_pM P j x = some (5, 0) → Cond.methodLink (O j) x arraycopyName ∈ Ts) ∧ Cond.native arraycopyName ∈ Ts ∧ Cond.static arraycopyName ∈ Ts ∧ Cond.initialized "java/lang/System" ∈ Ts
def en_okH (P : en_Pg) (O : Nat → String) (Ts : List Cond) : Prop := (∀ j x, (en_pM P j x = some (6, 0) → Cond.methodLink (O j) x Lib.Math.max.name ∈ Ts) ∧ (en_pM P j x = some (7, 0) → Cond.methodLink (O j) x Lib.Math.min.name ∈ Ts) ∧ (en_pM P j x = some (8, 0) → Cond.methodLink (O j) x Lib.MathLoose.max_long.x ∈ Ts) ∧ (en_pM P j x = some (9, 0) → Cond.methodLink (O j) x Lib.MathLoose.min_long.x ∈ Ts)) ∧ (Cond.static Lib.Math.max.name ∈ Ts ∧ Cond.static Lib.Math.min.name ∈ Ts ∧ Cond.static Lib.MathLoose.max_long.x ∈ Ts ∧ Cond.static Lib.MathLoose.min_long.x ∈ Ts) ∧ Cond.initialized "java/lang/Math" ∈ Ts ∧ (Cond.code Lib.Math.max.name Lib.Math.max.code 2 (some .int) ∈ Ts ∧ Cond.code Lib.Math.min.name Lib.Math.min.code 2 (some .int) ∈ Ts ∧ Cond.code Lib.MathLoose.max_long.x Lib.MathLoose.max_long.code 4 (some .long) ∈ Ts ∧ Cond.code Lib.MathLoose.min_long.x Lib.MathLoose.min_long.code 4 (some .long) ∈ Ts)
def en_Ok (P : en_Pg) (O : Nat → String) (cl : List vw_C) (SN : en_SN) (cr : Nat → Nat) (Ts : List Cond) : Prop := en_okF P O cl Ts ∧ en_okC P cl Ts ∧ en_okI P O cl ∧ en_okK P O Ts ∧ en_okN P O cl Ts ∧ en_okA P O Ts ∧ en_okT Ts ∧ en_okG P O SN Ts ∧ en_okR cr cl ∧ en_okO P O Ts ∧ en_okY P O Ts ∧ en_okH P O Ts
theorem en_narrow {ad : Nat → Nat} {ty : FieldType} {v : Value} (h : narrow ty v = v) : narrow ty (en_v ad v) = en_v ad v := by
  cases v with
  | ref k => cases ty <;> rfl
  | _ => exact h
theorem en_fits {ad : Nat → Nat} {ty : FieldType} {v : Value} (h : fits ty v = true) : fits ty (en_v ad v) = true := by
  cases v with
  | ref k => cases ty <;> first | rfl | (cases h)
  | _ => exact h
section EnHp
variable {p : Program} {l : Launch} {e : Env} {R : Room} {s : State} {m : MethodId} {args : Array Value} {below : List Frame} {meth : Method} {c : Code} {H : Heap} {locs : List Loc} {cs ss : Nat} {Q : State → Prop}
variable {cc : ByteArray} {pc : Nat} {ls : Array Slot} {ad : Nat → Nat} {ac : Nat → ClassId} {D : va_G} {cl : List vw_C} {n0 hl0 j : Nat} {P : en_Pg} {O : Nat → String} {SN : en_SN} {tb : en_T} {cr : Nat → Nat} {Ts : List Cond} {h h' : en_H} {st st' : List Value}
/-- the size of the heap is known by what was made -/
theorem en_sz {g : JFrame} (k : H.size ≤ s.heap.size + cs → W p l e R s m args below meth c H locs cs ss Q g) : W p l e R s m args below meth c H locs cs ss Q g := by
  intro T hT X
  exact k (by rw [← hT]; exact X.heapSize) T hT X
set_option maxHeartbeats 4000000 in
theorem en_gf_ok (hF : en_okF P O cl Ts) (hC : en_okC P cl Ts) (hx : p.tables.exec = Jvm.exec) (hb : c.code = cc) (hown : s.vm.findClass (O j) = some m.cls) (hts : ∀ w ∈ Ts, w.before args s = true) (hK : va_K D cl (en_tys ac) s) (hP : va_P D cl (en_w ad ac h) H) {x : Nat} (hdg : decode cc pc = .ok (.getfield x, 3)) (hq : en_gf P j x st h = some st')
    (k : W p l e R s m args below meth c H locs cs ss Q (F0 m (pc + 3) ls (st'.map (en_v ad)))) : W p l e R s m args below meth c H locs cs ss Q (F0 m pc ls (st.map (en_v ad))) := by
  unfold en_gf at hq
  split at hq
  · rename_i a r
    split at hq
    · rename_i ci kk hf
      split at hq
      · rename_i ci' fs he
        split at hq
        · rename_i hci
          have hci := Nat.eq_of_beq_eq_true hci
          subst hci
          split at hq
          · rename_i v hv
            cases hq
            obtain ⟨C, T, N, h1, h2, h3, h4, -, -⟩ := hF _ _ _ _ hf
            obtain ⟨g1, -⟩ := hC ci C T N h1
            exact va_get hx hb hts g1 hown hK hP a (fs := fs.map (en_v ad)) (en_w_at he) h1 kk h2 (hts _ h4) (fun y hy => by rw [h3] at hy; exact hy) (by rw [List.getElem?_map, hv]; rfl) hdg k
          · cases hq
        · cases hq
      · cases hq
    · cases hq
  · cases hq
set_option maxHeartbeats 4000000 in
theorem en_pf_ok (hF : en_okF P O cl Ts) (hC : en_okC P cl Ts) (hI : en_okI P O cl) (hx : p.tables.exec = Jvm.exec) (hb : c.code = cc) (hown : s.vm.findClass (O j) = some m.cls) (hts : ∀ w ∈ Ts, w.before args s = true) (hK : va_K D cl (en_tys ac) s) (hin : ∀ z, en_ini P j = z + 1 → meth.name = "<init>") (had : en_ad n0 ad) (hP : va_P D cl (en_w ad ac h) H) (hle : h.length ≤ en_b) (hS : va_S (en_A n0) s.heap H locs) {x : Nat} (hdg : decode cc pc = .ok (.putfield x, 3)) (hq : en_pf P j x st h = some (st', h'))
    (k : ∀ (H' : Heap) (locs' : List Loc), va_P D cl (en_w ad ac h') H' → h'.length = h.length → va_S (en_A n0) s.heap H' locs' → W p l e R s m args below meth c H' locs' cs ss Q (F0 m (pc + 3) ls (st'.map (en_v ad)))) : W p l e R s m args below meth c H locs cs ss Q (F0 m pc ls (st.map (en_v ad))) := by
  unfold en_pf at hq
  split at hq
  · rename_i v a r
    split at hq
    · rename_i ci kk hf
      split at hq
      · rename_i ci' fs he
        split at hq
        · rename_i hc
          simp only [Bool.and_eq_true, Bool.or_eq_true, Bool.not_eq_true'] at hc
          obtain ⟨hci, hkl, hnf, hfin0⟩ := hc
          have hci := Nat.eq_of_beq_eq_true hci
          have hkl : kk < fs.length := Nat.le_of_ble_eq_true hkl
          obtain ⟨hn, hfi⟩ := en_nf_ok hnf
          have hfin : (en_pY P ci kk).2 = true → en_ini P j = ci + 1 := fun q => by
            rcases hfin0 with z | z
            · rw [q] at z; cases z
            · exact Nat.eq_of_beq_eq_true z
          subst hci
          cases hq
          obtain ⟨C, T, N, h1, h2, h3, h4, h5, h6⟩ := hF _ _ _ _ hf
          obtain ⟨g1, ⟨ty0, g2, -⟩, g3, -⟩ := hC ci C T N h1
          have hset : en_w ad ac (h.set a (.inr (ci, fs.set kk v))) = (en_w ad ac h).set a (ad a, .inr (ci, (fs.map (en_v ad)).set kk (en_v ad v))) := by
            rw [en_w_set]
            show (en_w ad ac h).set a (ad a, .inr (ci, (fs.set kk v).map (en_v ad))) = _
            rw [List.map_set]
          by_cases hfl : (en_pY P ci kk).2 = true
          · obtain hj := hfin hfl
            have hO := hI j ci _ hj h1
            exact va_putF hx hb hts g1 ty0 g2 g3 hown hK hP (en_wD had hle) hS a (fs := fs.map (en_v ad)) (en_w_at he) h1 kk h2 (hts _ h4) (fun y hy => by rw [h3] at hy; exact hy) (h6.trans hfl) (hin _ hj) (h3.trans hO.symm) h5 (en_narrow hn) (en_fits hfi) (by rw [List.length_map]; exact hkl) hdg (fun H1 locs1 a1 a2 a3 => k H1 locs1 (by rw [hset]; exact a1) (by rw [List.length_set]) a3)
          · have hfl : (en_pY P ci kk).2 = false := by
              cases hz : (en_pY P ci kk).2
              · rfl
              · exact absurd hz hfl
            exact va_put hx hb hts g1 ty0 g2 g3 hown hK hP (en_wD had hle) hS a (fs := fs.map (en_v ad)) (en_w_at he) h1 kk h2 (hts _ h4) (fun y hy => by rw [h3] at hy; exact hy) (h6.trans hfl) h5 (en_narrow hn) (en_fits hfi) (by rw [List.length_map]; exact hkl) hdg (fun H1 locs1 a1 a2 a3 => k H1 locs1 (by rw [hset]; exact a1) (by rw [List.length_set]) a3)
        · cases hq
      · cases hq
    · cases hq
  · cases hq
set_option maxHeartbeats 4000000 in
theorem en_ai_ok (hx : p.tables.exec = Jvm.exec) (hb : c.code = cc) (hK : va_K D cl (en_tys ac) s) (hZ : en_Z SN n0 ad tb s) (hP : va_P D cl (en_w ad ac h) H) (hS : va_S (en_A n0) s.heap H locs) {t : Nat} {i : Instr} (hi : (t = 0 ∧ i = .iaload) ∨ (t = 1 ∧ i = .baload) ∨ (t = 2 ∧ i = .baload)) (hdg : decode cc pc = .ok (i, 1)) (hq : en_ai tb t st h = some st')
    (k : W p l e R s m args below meth c H locs cs ss Q (F0 m (pc + 1) ls (st'.map (en_v ad)))) : W p l e R s m args below meth c H locs cs ss Q (F0 m pc ls (st.map (en_v ad))) := by
  unfold en_ai at hq
  split at hq
  · rename_i i a r
    split at hq
    · rename_i t' n f he
      split at hq
      · rename_i hc
        rw [Bool.and_eq_true, Bool.not_eq_true'] at hc
        obtain ⟨hc1, hbd⟩ := hc
        have hc1 := Nat.eq_of_beq_eq_true hc1
        subst hc1
        cases hq
        have he2 := en_w_at (ad := ad) (ac := ac) he
        rcases hi with ⟨rfl, rfl⟩ | ⟨rfl, rfl⟩ | ⟨rfl, rfl⟩
        · exact va_iald hx hb hK hP a 0 he2 rfl (en_bad_in hbd) hdg k
        · exact va_bald hx hb hK hP a 1 he2 rfl (en_bad_in hbd) hdg k
        · exact va_zald hx hb hK hP a 2 he2 rfl (en_bad_in hbd) hdg k
      · cases hq
    · cases hq
    · split at hq
      · cases hq
      · rename_i hab
        split at hq
        · rename_i n f ht
          split at hq
          · rename_i hbd
            rw [Bool.not_eq_true'] at hbd
            cases hq
            have ht0 : t = 0 := by
              by_cases z : t = 0
              · exact z
              · exact absurd (Or.inr z) hab
            have hge : ¬ a < en_b := fun z => hab (Or.inl z)
            have hae : en_b + (a - en_b) = a := Nat.add_sub_of_le (Nat.not_lt.mp hge)
            obtain ⟨z1, z2, z3⟩ := hZ.1 _ _ _ ht
            rw [hae] at z1 z2 z3
            subst ht0
            rcases hi with ⟨-, rfl⟩ | ⟨q, -⟩ | ⟨q, -⟩
            · exact va_sld hx hb z1 z2 z3 hS (en_bad_in hbd) hdg k
            · cases q
            · cases q
          · cases hq
        · cases hq
  · cases hq
set_option maxHeartbeats 4000000 in
theorem en_al_ok (hx : p.tables.exec = Jvm.exec) (hb : c.code = cc) (hK : va_K D cl (en_tys ac) s) (hP : va_P D cl (en_w ad ac h) H) (hdg : decode cc pc = .ok (.laload, 1)) (hq : en_al st h = some st')
    (k : W p l e R s m args below meth c H locs cs ss Q (F0 m (pc + 1) ls (st'.map (en_v ad)))) : W p l e R s m args below meth c H locs cs ss Q (F0 m pc ls (st.map (en_v ad))) := by
  unfold en_al at hq
  split at hq
  · rename_i i a r
    split at hq
    · rename_i t' n f he
      split at hq
      · rename_i hc
        rw [Bool.and_eq_true, Bool.not_eq_true'] at hc
        obtain ⟨hc1, hbd⟩ := hc
        have hc1 := Nat.eq_of_beq_eq_true hc1
        subst hc1
        cases hq
        exact va_lald hx hb hK hP a 3 (en_w_at he) rfl (en_bad_in hbd) hdg k
      · cases hq
    · cases hq
  · cases hq
theorem en_rfm (o : Option Nat) : en_v ad (va_rf o) = va_rf (o.map ad) := by cases o <;> rfl
set_option maxHeartbeats 4000000 in
theorem en_aa_ok (hx : p.tables.exec = Jvm.exec) (hb : c.code = cc) (hK : va_K D cl (en_tys ac) s) (hP : va_P D cl (en_w ad ac h) H) (hdg : decode cc pc = .ok (.aaload, 1)) (hq : en_aa st h = some st')
    (k : W p l e R s m args below meth c H locs cs ss Q (F0 m (pc + 1) ls (st'.map (en_v ad)))) : W p l e R s m args below meth c H locs cs ss Q (F0 m pc ls (st.map (en_v ad))) := by
  unfold en_aa at hq
  split at hq
  · rename_i i a r
    split at hq
    · rename_i t' n f he
      split at hq
      · rename_i hc
        rw [Bool.and_eq_true, Bool.or_eq_true, Bool.not_eq_true'] at hc
        obtain ⟨ht, hbd⟩ := hc
        have ht : t' = 4 ∨ t' = 5 := ht.imp Nat.eq_of_beq_eq_true Nat.eq_of_beq_eq_true
        cases hq
        have he2 := en_w_at (ad := ad) (ac := ac) he
        rw [List.map_cons, en_rfm] at k
        rcases ht with rfl | rfl
        · exact va_aldq hx hb hK hP a 4 he2 rfl (en_bad_in hbd) hdg k
        · exact va_aldq hx hb hK hP a 5 he2 rfl (en_bad_in hbd) hdg k
      · cases hq
    · cases hq
  · cases hq
set_option maxHeartbeats 4000000 in
theorem en_si_ok (hx : p.tables.exec = Jvm.exec) (hb : c.code = cc) (hK : va_K D cl (en_tys ac) s) (had : en_ad n0 ad) (hP : va_P D cl (en_w ad ac h) H) (hle : h.length ≤ en_b) (hS : va_S (en_A n0) s.heap H locs) {t : Nat} {nar : Int32 → Int32} {i : Instr} (hi : (t = 0 ∧ nar = (fun x => x) ∧ i = .iastore) ∨ (t = 1 ∧ nar = vp_nar .byte ∧ i = .bastore) ∨ (t = 2 ∧ nar = vp_nar .boolean ∧ i = .bastore)) (hdg : decode cc pc = .ok (i, 1)) (hq : en_si t nar st h = some (st', h'))
    (k : ∀ (H' : Heap) (locs' : List Loc), va_P D cl (en_w ad ac h') H' → h'.length = h.length → va_S (en_A n0) s.heap H' locs' → W p l e R s m args below meth c H' locs' cs ss Q (F0 m (pc + 1) ls (st'.map (en_v ad)))) : W p l e R s m args below meth c H locs cs ss Q (F0 m pc ls (st.map (en_v ad))) := by
  unfold en_si at hq
  split at hq
  · rename_i x i a r
    split at hq
    · rename_i t' n f he
      split at hq
      · rename_i hc
        rw [Bool.and_eq_true, Bool.not_eq_true'] at hc
        obtain ⟨hc1, hbd⟩ := hc
        have hc1 := Nat.eq_of_beq_eq_true hc1
        subst hc1
        cases hq
        have he2 := en_w_at (ad := ad) (ac := ac) he
        rcases hi with ⟨rfl, rfl, rfl⟩ | ⟨rfl, rfl, rfl⟩ | ⟨rfl, rfl, rfl⟩
        · exact va_iast hx hb hK hP (en_wD had hle) hS a 0 he2 rfl (en_bad_in hbd) hdg (fun H1 locs1 a1 a2 a3 => k H1 locs1 (by rw [en_w_set]; exact a1) (by rw [List.length_set]) a3)
        · exact va_bast hx hb hK hP (en_wD had hle) hS a 1 he2 rfl (en_bad_in hbd) hdg (fun H1 locs1 a1 a2 a3 => k H1 locs1 (by rw [en_w_set]; exact a1) (by rw [List.length_set]) a3)
        · exact va_zast hx hb hK hP (en_wD had hle) hS a 2 he2 rfl (en_bad_in hbd) hdg (fun H1 locs1 a1 a2 a3 => k H1 locs1 (by rw [en_w_set]; exact a1) (by rw [List.length_set]) a3)
      · cases hq
    · cases hq
  · cases hq
set_option maxHeartbeats 4000000 in
theorem en_sl_ok (hx : p.tables.exec = Jvm.exec) (hb : c.code = cc) (hK : va_K D cl (en_tys ac) s) (had : en_ad n0 ad) (hP : va_P D cl (en_w ad ac h) H) (hle : h.length ≤ en_b) (hS : va_S (en_A n0) s.heap H locs) (hdg : decode cc pc = .ok (.lastore, 1)) (hq : en_sl st h = some (st', h'))
    (k : ∀ (H' : Heap) (locs' : List Loc), va_P D cl (en_w ad ac h') H' → h'.length = h.length → va_S (en_A n0) s.heap H' locs' → W p l e R s m args below meth c H' locs' cs ss Q (F0 m (pc + 1) ls (st'.map (en_v ad)))) : W p l e R s m args below meth c H locs cs ss Q (F0 m pc ls (st.map (en_v ad))) := by
  unfold en_sl at hq
  split at hq
  · rename_i x i a r
    split at hq
    · rename_i t' n f he
      split at hq
      · rename_i hc
        rw [Bool.and_eq_true, Bool.not_eq_true'] at hc
        obtain ⟨hc1, hbd⟩ := hc
        have hc1 := Nat.eq_of_beq_eq_true hc1
        subst hc1
        cases hq
        exact va_last hx hb hK hP (en_wD had hle) hS a 3 (en_w_at he) rfl (en_bad_in hbd) hdg (fun H1 locs1 a1 a2 a3 => k H1 locs1 (by rw [en_w_set]; exact a1) (by rw [List.length_set]) a3)
      · cases hq
    · cases hq
  · cases hq
theorem en_upm {f : Nat → Option Nat} {i v : Nat} : (fun q => (va_up f i (some v) q).map ad) = va_up (fun q => (f q).map ad) i (some (ad v)) := by
  funext q
  unfold va_up
  by_cases hq : q = i
  · rw [if_pos hq, if_pos hq]; rfl
  · rw [if_neg hq, if_neg hq]
set_option maxHeartbeats 4000000 in
theorem en_sa_ok (hR : en_okR cr cl) (hx : p.tables.exec = Jvm.exec) (hb : c.code = cc) (hK : va_K D cl (en_tys ac) s) (had : en_ad n0 ad) (hP : va_P D cl (en_w ad ac h) H) (hle : h.length ≤ en_b) (hS : va_S (en_A n0) s.heap H locs) (hdg : decode cc pc = .ok (.aastore, 1)) (hq : en_sa cr st h = some (st', h'))
    (k : ∀ (H' : Heap) (locs' : List Loc), va_P D cl (en_w ad ac h') H' → h'.length = h.length → va_S (en_A n0) s.heap H' locs' → W p l e R s m args below meth c H' locs' cs ss Q (F0 m (pc + 1) ls (st'.map (en_v ad)))) : W p l e R s m args below meth c H locs cs ss Q (F0 m pc ls (st.map (en_v ad))) := by
  unfold en_sa at hq
  split at hq
  · rename_i v i a r
    split at hq
    · rename_i t' n f he
      split at hq
      · rename_i ci fs hv
        split at hq
        · rename_i hc
          rw [Bool.and_eq_true, Bool.and_eq_true, Bool.or_eq_true, Bool.not_eq_true'] at hc
          obtain ⟨ht, hcr, hbd⟩ := hc
          have ht : t' = 4 ∨ t' = 5 := ht.imp Nat.eq_of_beq_eq_true Nat.eq_of_beq_eq_true
          have hcr := Nat.eq_of_beq_eq_true hcr
          subst hcr
          cases hq
          obtain ⟨q, hq1, hq2⟩ := hR t' ht
          have he2 := en_w_at (ad := ad) (ac := ac) he
          have hv2 := en_w_at (ad := ad) (ac := ac) hv
          have ht6 : (en_tys ac)[t']? = some (ac t', .object q.1) := by
            rw [← hq2]
            exact en_tys_at ac (by rcases ht with rfl | rfl <;> decide)
          refine va_astq hx hb hK hP (en_wD had hle) hS a t' v (cr t') he2 ht6 hv2 hq1 (en_bad_in hbd) hdg (fun H1 locs1 a1 a2 a3 => k H1 locs1 ?_ (by rw [List.length_set]) a3)
          rw [en_w_set]
          show va_P D cl ((en_w ad ac h).set a (ad a, .inl (ac t', n, .inr (.inr (.inr (.inr (fun q => (va_up f i.toNatClampNeg (some v) q).map ad))))))) H1
          rw [en_upm]
          exact a1
        · cases hq
      · cases hq
    · cases hq
  · cases hq
set_option maxHeartbeats 4000000 in
theorem en_len_ok (hx : p.tables.exec = Jvm.exec) (hb : c.code = cc) (hK : va_K D cl (en_tys ac) s) (hZ : en_Z SN n0 ad tb s) (hP : va_P D cl (en_w ad ac h) H) (hS : va_S (en_A n0) s.heap H locs) (hdg : decode cc pc = .ok (.arraylength, 1)) (hq : en_len tb st h = some st')
    (k : W p l e R s m args below meth c H locs cs ss Q (F0 m (pc + 1) ls (st'.map (en_v ad)))) : W p l e R s m args below meth c H locs cs ss Q (F0 m pc ls (st.map (en_v ad))) := by
  unfold en_len at hq
  split at hq
  · rename_i a r
    split at hq
    · rename_i t' x he
      split at hq
      · rename_i ht
        cases hq
        have he2 := en_w_at (ad := ad) (ac := ac) he
        have hex : ∃ y : vp_A, en_e ad ac (.inl (t', x)) = .inl (ac t', y) ∧ y.1 = x.1 := by
          obtain ⟨n, g⟩ := x
          rcases g with g | g | g | g | g <;> exact ⟨_, rfl, rfl⟩
        obtain ⟨y, hy, hy1⟩ := hex
        rw [hy] at he2
        exact va_alen hx hb hK hP a t' he2 (en_tys_at ac ht) (by rw [hy1]) hdg k
      · cases hq
    · cases hq
    · split at hq
      · cases hq
      · rename_i hab
        split at hq
        · rename_i n f ht
          cases hq
          have hae : en_b + (a - en_b) = a := Nat.add_sub_of_le (Nat.not_lt.mp hab)
          obtain ⟨z1, z2, z3⟩ := hZ.1 _ _ _ ht
          rw [hae] at z1 z2 z3
          exact va_slen hx hb z1 z2 z3 hS hdg k
        · cases hq
  · cases hq
end EnHp
