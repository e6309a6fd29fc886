/-! branches: where it goes on, and the new stack -/
def en_cmp (c : ClassFile.Cond) (x y : Int32) : Bool := match c with
  | .eq => decide (x = y)
  | .ne => !decide (x = y)
  | .lt => decide (x < y)
  | .ge => decide (y ≤ x)
  | .gt => decide (y < x)
  | .le => decide (x ≤ y)
def en_tg (pc : Nat) (off : Int) : Nat := ((pc : Int) + off).toNat
def en_br (i : Instr) (len pc : Nat) (st : List Value) : en_O := match i with
  | .goto off => if 0 ≤ (pc : Int) + off ∧ len = 3 then some (en_tg pc off, st) else none
  | .ifCond c off => match st with
    | .int x :: r => if 0 ≤ (pc : Int) + off ∧ len = 3 then some (bif en_cmp c x 0 then en_tg pc off else pc + 3, r) else none
    | _ => none
  | .if_icmp c off => match st with
    | .int y :: .int x :: r => if 0 ≤ (pc : Int) + off ∧ len = 3 then some (bif en_cmp c x y then en_tg pc off else pc + 3, r) else none
    | _ => none
  | .tableswitch d lo hi offs => match st with
    | .int x :: r => if x.toInt < lo ∨ hi < x.toInt then (if 0 ≤ (pc : Int) + d then some (en_tg pc d, r) else none) else match offs[(x.toInt - lo).toNat]? with
      | some off => if 0 ≤ (pc : Int) + off then some (en_tg pc off, r) else none
      | none => none
    | _ => none
  | .lookupswitch d ps => match st with
    | .int x :: r => if (ps.toList.zip (ps.toList.drop 1)).all (fun (a, next) => a.1 < next.1) = true ∧ 0 ≤ (pc : Int) + Op.lookupswitch.offset ps.toList d x.toInt then some (en_tg pc (Op.lookupswitch.offset ps.toList d x.toInt), r) else none
    | _ => none
  | _ => none
theorem en_tg_ok {pc : Nat} {off : Int} (h : 0 ≤ (pc : Int) + off) : (pc : Int) + off = ((en_tg pc off : Nat) : Int) := by
  unfold en_tg
  omega
section EnBr
variable {p : Program} {l : Launch} {e : Env} {R : Room} {s : State} {m : MethodId} {args : Array Value} {below : List Frame} {meth : Method} {c : Code} {H : Heap} {locs : List Loc} {cells slots : Nat} {Q : State → Prop}
variable {cc : ByteArray} {pc : Nat} {ls : Array Slot} {ad : Nat → Nat}
theorem en_bif {b : Bool} {x y : Nat} {P : Nat → Prop} (h : P (bif b then x else y)) : (b = true → P x) ∧ (b = false → P y) := by
  cases b
  · exact ⟨fun q => (by cases q), fun _ => h⟩
  · exact ⟨fun _ => h, fun q => (by cases q)⟩
set_option maxHeartbeats 4000000 in
theorem en_br_ok (hx : p.tables.exec = Jvm.exec) (hb : c.code = cc) {i : Instr} {len pc' : Nat} {st st' : List Value} (hdg : decode cc pc = .ok (i, len)) (h : en_br i len pc st = some (pc', st')) (k : W p l e R s m args below meth c H locs cells slots Q (F0 m pc' ls (st'.map (en_v ad)))) : W p l e R s m args below meth c H locs cells slots Q (F0 m pc ls (st.map (en_v ad))) := by
  cases i with
  | goto off =>
    change (if 0 ≤ (pc : Int) + off ∧ len = 3 then some (en_tg pc off, st) else none) = _ at h
    split at h
    · rename_i hc
      obtain ⟨hc, rfl⟩ := hc
      cases h
      exact lv_goto hx hb hdg (en_tg_ok hc) k
    · cases h
  | ifCond cd off =>
    unfold en_br at h
    dsimp only at h
    split at h
    · split at h
      · rename_i x r hc
        obtain ⟨hc, rfl⟩ := hc
        cases h
        obtain ⟨kt, kf⟩ := en_bif (P := fun q => W p l e R s m args below meth c H locs cells slots Q (F0 m q ls (st'.map (en_v ad)))) k
        cases cd with
        | eq => exact lv_if_eq hx hb hdg (en_tg_ok hc) (fun q => kt (decide_eq_true q)) (fun q => kf (decide_eq_false q))
        | ne => exact lv_if_ne hx hb hdg (en_tg_ok hc) (fun q => kt (by show (!decide _) = true; rw [decide_eq_false q]; rfl)) (fun q => kf (by show (!decide _) = false; rw [decide_eq_true q]; rfl))
        | lt => exact lv_if_lt hx hb hdg (en_tg_ok hc) (fun q => kt (decide_eq_true q)) (fun q => kf (decide_eq_false q))
        | ge => exact lv_if_ge hx hb hdg (en_tg_ok hc) (fun q => kt (decide_eq_true q)) (fun q => kf (decide_eq_false q))
        | gt => exact lv_if_gt hx hb hdg (en_tg_ok hc) (fun q => kt (decide_eq_true q)) (fun q => kf (decide_eq_false q))
        | le => exact lv_if_le hx hb hdg (en_tg_ok hc) (fun q => kt (decide_eq_true q)) (fun q => kf (decide_eq_false q))
      · cases h
    · cases h
  | if_icmp cd off =>
    unfold en_br at h
    dsimp only at h
    split at h
    · split at h
      · rename_i y x r hc
        obtain ⟨hc, rfl⟩ := hc
        cases h
        obtain ⟨kt, kf⟩ := en_bif (P := fun q => W p l e R s m args below meth c H locs cells slots Q (F0 m q ls (st'.map (en_v ad)))) k
        cases cd with
        | eq => exact lv_icmp_eq hx hb hdg (en_tg_ok hc) (fun q => kt (decide_eq_true q)) (fun q => kf (decide_eq_false q))
        | ne => exact lv_icmp_ne hx hb hdg (en_tg_ok hc) (fun q => kt (by show (!decide _) = true; rw [decide_eq_false q]; rfl)) (fun q => kf (by show (!decide _) = false; rw [decide_eq_true q]; rfl))
        | lt => exact lv_icmp_lt hx hb hdg (en_tg_ok hc) (fun q => kt (decide_eq_true q)) (fun q => kf (decide_eq_false q))
        | ge => exact lv_icmp_ge hx hb hdg (en_tg_ok hc) (fun q => kt (decide_eq_true q)) (fun q => kf (decide_eq_false q))
        | gt => exact lv_icmp_gt hx hb hdg (en_tg_ok hc) (fun q => kt (decide_eq_true q)) (fun q => kf (decide_eq_false q))
        | le => exact lv_icmp_le hx hb hdg (en_tg_ok hc) (fun q => kt (decide_eq_true q)) (fun q => kf (decide_eq_false q))
      · cases h
    · cases h
  | tableswitch d lo hi offs =>
    unfold en_br at h
    dsimp only at h
    split at h
    · split at h
      · rename_i hc
        split at h
        · rename_i h0
          cases h
          exact lv_tableOut hx hb hdg hc (en_tg_ok h0) k
        · cases h
      · rename_i hc
        split at h
        · rename_i off ho
          split at h
          · rename_i h0
            cases h
            exact lv_tableIn hx hb hdg (fun q => hc (Or.inl q)) (fun q => hc (Or.inr q)) ho (en_tg_ok h0) k
          · cases h
        · cases h
    · cases h
  | lookupswitch d ps =>
    unfold en_br at h
    dsimp only at h
    split at h
    · split at h
      · rename_i hc
        cases h
        exact lv_lookup hx hb hdg hc.1 rfl (en_tg_ok hc.2) k
      · cases h
    · cases h
  | _ => cases h
end EnBr
/-! loads and stores of locals: length, index, kind -/
def en_ld (i : Instr) : Option (Nat × Nat × Nat) := match i with
  | .iload n => some (2, n, 0)
  | .iload_n k => some (1, k, 0)
  | .lload n => some (2, n, 1)
  | .lload_n k => some (1, k, 1)
  | .aload n => some (2, n, 2)
  | .aload_n k => some (1, k, 2)
  | _ => none
def en_sd (i : Instr) : Option (Nat × Nat × Nat) := match i with
  | .istore n => some (2, n, 0)
  | .istore_n k => some (1, k, 0)
  | .lstore n => some (2, n, 1)
  | .lstore_n k => some (1, k, 1)
  | .astore n => some (2, n, 2)
  | .astore_n k => some (1, k, 2)
  | _ => none
def en_kd (k : Nat) (v : Value) : Bool := match v with
  | .int _ => k == 0
  | .long _ => k == 1
  | .ref _ => k == 2
  | _ => false
def en_lo (i : Instr) (len : Nat) (lv : en_L) (st : List Value) : Option (en_L × List Value) := match en_ld i with
  | some (n, x, kd) => match lv[x]? with
    | some (some v) => if n = len ∧ en_kd kd v = true then some (lv, v :: st) else none
    | _ => none
  | none => match en_sd i with
    | some (n, x, kd) => match st with
      | v :: r => if n = len ∧ en_kd kd v = true then (if kd = 1 then (if x + 1 < lv.length then some (en_st2 lv x v, r) else none) else (if x < lv.length then some (en_st1 lv x v, r) else none)) else none
      | _ => none
    | none => match i with
      | .iinc x n => match lv[x]? with
        | some (some (.int v)) => if len = 3 ∨ len = 6 then some (en_st1 lv x (.int (v + Int32.ofInt n)), st) else none
        | _ => none
      | _ => none
section EnLo
variable {p : Program} {l : Launch} {e : Env} {R : Room} {s : State} {m : MethodId} {args : Array Value} {below : List Frame} {meth : Method} {c : Code} {H : Heap} {locs : List Loc} {cells slots : Nat} {Q : State → Prop}
variable {cc : ByteArray} {pc : Nat} {ls : Array Slot} {ad : Nat → Nat}
theorem en_kd0 {v : Value} (h : en_kd 0 v = true) : ∃ x, v = .int x := by
  cases v <;> first | exact ⟨_, rfl⟩ | cases h
theorem en_kd1 {v : Value} (h : en_kd 1 v = true) : ∃ x, v = .long x := by
  cases v <;> first | exact ⟨_, rfl⟩ | cases h
theorem en_kd2 {v : Value} (h : en_kd 2 v = true) : ∃ x, v = .ref x := by
  cases v <;> first | exact ⟨_, rfl⟩ | cases h
set_option maxHeartbeats 4000000 in
theorem en_ld_ok (hx : p.tables.exec = Jvm.exec) (hb : c.code = cc) {i : Instr} {len x kd : Nat} {lv : en_L} {v : Value} {st : List Value} (hl : en_has ad ls lv) (hdg : decode cc pc = .ok (i, len)) (h : en_ld i = some (len, x, kd)) (hv : lv[x]? = some (some v)) (hk : en_kd kd v = true)
    (k : W p l e R s m args below meth c H locs cells slots Q (F0 m (pc + len) ls ((v :: st).map (en_v ad)))) : W p l e R s m args below meth c H locs cells slots Q (F0 m pc ls (st.map (en_v ad))) := by
  have h2 := hl.2.2 x v hv
  cases i with
  | iload n => cases h; obtain ⟨y, rfl⟩ := en_kd0 hk; exact lv_iload hx hb hdg h2 k
  | iload_n n => cases h; obtain ⟨y, rfl⟩ := en_kd0 hk; exact lv_iload_n hx hb hdg rfl h2 k
  | lload n => cases h; obtain ⟨y, rfl⟩ := en_kd1 hk; exact lv_lload hx hb hdg h2 k
  | lload_n n => cases h; obtain ⟨y, rfl⟩ := en_kd1 hk; exact lv_lload_n hx hb hdg rfl h2 k
  | aload n => cases h; obtain ⟨y, rfl⟩ := en_kd2 hk; exact lv_aload hx hb hdg h2 k
  | aload_n n => cases h; obtain ⟨y, rfl⟩ := en_kd2 hk; exact lv_aload_n hx hb hdg rfl h2 k
  | _ => cases h
set_option maxHeartbeats 4000000 in
theorem en_sd_ok (hx : p.tables.exec = Jvm.exec) (hb : c.code = cc) {i : Instr} {len x kd : Nat} {lv lv' : en_L} {v : Value} {st : List Value} (hl : en_has ad ls lv) (hdg : decode cc pc = .ok (i, len)) (h : en_sd i = some (len, x, kd)) (hk : en_kd kd v = true)
    (hn : (kd = 1 ∧ x + 1 < lv.length ∧ lv' = en_st2 lv x v) ∨ (¬ kd = 1 ∧ x < lv.length ∧ lv' = en_st1 lv x v))
    (k : ∀ ls' : Array Slot, en_has ad ls' lv' → W p l e R s m args below meth c H locs cells slots Q (F0 m (pc + len) ls' (st.map (en_v ad)))) : W p l e R s m args below meth c H locs cells slots Q (F0 m pc ls ((v :: st).map (en_v ad))) := by
  cases i with
  | istore n =>
    cases h; obtain ⟨y, rfl⟩ := en_kd0 hk
    rcases hn with ⟨q, -⟩ | ⟨-, hn, rfl⟩
    · cases q
    · exact lv_istore hx hb hdg hl.lv hn rfl (fun ls' h' => k ls' (en_has_st1 (v := .int y) hn h'))
  | istore_n n =>
    cases h; obtain ⟨y, rfl⟩ := en_kd0 hk
    rcases hn with ⟨q, -⟩ | ⟨-, hn, rfl⟩
    · cases q
    · exact lv_istore_n hx hb hdg rfl hl.lv hn rfl (fun ls' h' => k ls' (en_has_st1 (v := .int y) hn h'))
  | lstore n =>
    cases h; obtain ⟨y, rfl⟩ := en_kd1 hk
    rcases hn with ⟨-, hn, rfl⟩ | ⟨q, -⟩
    · exact lv_lstore hx hb hdg hl.lv hn rfl (fun ls' h' => k ls' (en_has_st2 (v := .long y) hn h'))
    · exact absurd rfl q
  | lstore_n n =>
    cases h; obtain ⟨y, rfl⟩ := en_kd1 hk
    rcases hn with ⟨-, hn, rfl⟩ | ⟨q, -⟩
    · exact lv_lstore_n hx hb hdg rfl hl.lv hn rfl (fun ls' h' => k ls' (en_has_st2 (v := .long y) hn h'))
    · exact absurd rfl q
  | astore n =>
    cases h; obtain ⟨y, rfl⟩ := en_kd2 hk
    rcases hn with ⟨q, -⟩ | ⟨-, hn, rfl⟩
    · cases q
    · exact lv_astore hx hb hdg hl.lv hn rfl (fun ls' h' => k ls' (en_has_st1 (v := .ref y) hn h'))
  | astore_n n =>
    cases h; obtain ⟨y, rfl⟩ := en_kd2 hk
    rcases hn with ⟨q, -⟩ | ⟨-, hn, rfl⟩
    · cases q
    · exact lv_astore_n hx hb hdg rfl hl.lv hn rfl (fun ls' h' => k ls' (en_has_st1 (v := .ref y) hn h'))
  | _ => cases h
set_option maxHeartbeats 4000000 in
theorem en_lo_ok (hx : p.tables.exec = Jvm.exec) (hb : c.code = cc) {i : Instr} {len : Nat} {lv lv' : en_L} {st st' : List Value} (hl : en_has ad ls lv) (hdg : decode cc pc = .ok (i, len)) (h : en_lo i len lv st = some (lv', st'))
    (k : ∀ ls' : Array Slot, en_has ad ls' lv' → W p l e R s m args below meth c H locs cells slots Q (F0 m (pc + len) ls' (st'.map (en_v ad)))) : W p l e R s m args below meth c H locs cells slots Q (F0 m pc ls (st.map (en_v ad))) := by
  unfold en_lo at h
  split at h
  · rename_i n x kd hld
    split at h
    · rename_i v hv
      split at h
      · rename_i hc
        obtain ⟨rfl, hk⟩ := hc
        cases h
        exact en_ld_ok hx hb hl hdg hld hv hk (k ls hl)
      · cases h
    · cases h
  · split at h
    · rename_i n x kd hsd
      split at h
      · rename_i v r
        split at h
        · rename_i hc
          obtain ⟨rfl, hk⟩ := hc
          split at h
          · rename_i hkd
            split at h
            · rename_i hn
              cases h
              exact en_sd_ok hx hb hl hdg hsd hk (Or.inl ⟨hkd, hn, rfl⟩) k
            · cases h
          · rename_i hkd
            split at h
            · rename_i hn
              cases h
              exact en_sd_ok hx hb hl hdg hsd hk (Or.inr ⟨hkd, hn, rfl⟩) k
            · cases h
        · cases h
      · cases h
    · split at h
      · rename_i x n _ _
        split at h
        · rename_i v hv
          split at h
          · rename_i hlen
            cases h
            have hm := en_pl_in (ad := ad) hv
            obtain ⟨kk, hkk⟩ := List.getElem?_of_mem hm
            have hn : x < lv.length := (List.getElem?_eq_some_iff.mp hv).1
            rcases hlen with rfl | rfl
            · exact lv_iinc (v := v + Int32.ofInt n) hx hb hdg hl.lv hkk rfl hn rfl (fun ls' h' => k ls' (en_has_st1 (v := .int (v + Int32.ofInt n)) hn h'))
            · exact lv_iincW (v := v + Int32.ofInt n) hx hb hdg hl.lv hkk rfl hn rfl (fun ls' h' => k ls' (en_has_st1 (v := .int (v + Int32.ofInt n)) hn h'))
          · cases h
        · cases h
      · cases h
end EnLo
