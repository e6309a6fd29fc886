/-! the engine is sound: a step -/
theorem en_up_ok {cs ss cs' ss' : Nat} {h h' : en_H} {o : Option (List Value)} {st' : List Value} (hq : en_up cs ss h o = some (st', h', cs', ss')) : o = some st' ∧ h' = h ∧ cs' = cs ∧ ss' = ss := by
  cases o with
  | none => cases hq
  | some x => cases hq; exact ⟨rfl, rfl, rfl, rfl⟩
theorem en_uh_ok {cs ss cs' ss' : Nat} {h' : en_H} {o : Option (List Value × en_H)} {st' : List Value} (hq : en_uh cs ss o = some (st', h', cs', ss')) : o = some (st', h') ∧ cs' = cs ∧ ss' = ss := by
  cases o with
  | none => cases hq
  | some x => cases hq; exact ⟨rfl, rfl, rfl⟩
theorem en_if {α : Type} {b : Prop} [Decidable b] {x y : α} {o : Option α} (hq : (if b then o else none) = some y) : b ∧ o = some y := by
  by_cases hb : b
  · rw [if_pos hb] at hq; exact ⟨hb, hq⟩
  · rw [if_neg hb] at hq; cases hq
section EnStp
variable {p : Program} {l : Launch} {e : Env} {s : State} {m : MethodId} {args : Array Value} {below : List Frame} {meth : Method} {c : Code} {H : Heap} {locs : List Loc} {cs ss cs' ss' : Nat} {Q : State → Prop}
variable {cc : ByteArray} {pc : Nat} {ls : Array Slot} {ad : Nat → Nat} {ac : Nat → ClassId} {D : va_G} {cl : List vw_C} {n0 hl0 j : Nat} {P : en_Pg} {O : Nat → String} {SN : en_SN} {tb : en_T} {cr : Nat → Nat} {Ts : List Cond} {h h' : en_H} {st st' : List Value}
set_option maxHeartbeats 8000000 in
theorem en_hp_ok (OK : en_Ok P O cl SN cr Ts) (hx : p.tables.exec = Jvm.exec) (hb : c.code = cc) (hml : c.maxLocals = ls.size) (hown : s.vm.findClass (O j) = some m.cls) (hts : ∀ w ∈ Ts, w.before args s = true) (hK : va_K D cl (en_tys ac) s) (hZ : en_Z SN n0 ad tb s) (hin : ∀ z, en_ini P j = z + 1 → meth.name = "<init>") (had : en_ad n0 ad) (h00 : s.heap.size = n0 + hl0) (hcs : cs + hl0 = h.length) (hP : va_P D cl (en_w ad ac h) H) (hle : h.length ≤ en_b) (hS : va_S (en_A n0) s.heap H locs) {i : Instr} {len : Nat} (hdg : decode cc pc = .ok (i, len)) (hq : en_hp P tb cr j i len st h cs ss = some (st', h', cs', ss'))
    (k : ∀ (H' : Heap) (locs' : List Loc), va_P D cl (en_w ad ac h') H' → h'.length ≤ en_b → cs' + hl0 = h'.length → va_S (en_A n0) s.heap H' locs' → W p l e (en_rm P j) s m args below meth c H' locs' cs' ss' Q (F0 m (pc + len) ls (st'.map (en_v ad)))) : W p l e (en_rm P j) s m args below meth c H locs cs ss Q (F0 m pc ls (st.map (en_v ad))) := by
  obtain ⟨oF, oC, oI, oK, oN, oA, oT, oG, oR, oO, oY, oH⟩ := OK
  cases i with
  | getfield x =>
    unfold en_hp at hq
    dsimp only at hq
    split at hq
    · rename_i hlen; subst hlen
      obtain ⟨hq2, rfl, rfl, rfl⟩ := en_up_ok hq
      exact en_gf_ok oF oC hx hb hown hts hK hP hdg hq2 (k H locs hP hle hcs hS)
    · cases hq
  | putfield x =>
    unfold en_hp at hq
    dsimp only at hq
    split at hq
    · rename_i hlen; subst hlen
      obtain ⟨hq2, rfl, rfl⟩ := en_uh_ok hq
      exact en_pf_ok oF oC oI hx hb hown hts hK hin had hP hle hS hdg hq2 (fun H' locs' a1 a2 a3 => k H' locs' a1 (by rw [a2]; exact hle) (by rw [a2]; exact hcs) a3)
    · cases hq
  | iaload =>
    unfold en_hp at hq
    dsimp only at hq
    split at hq
    · rename_i hlen; subst hlen
      obtain ⟨hq2, rfl, rfl, rfl⟩ := en_up_ok hq
      exact en_ai_ok hx hb hK hZ hP hS (Or.inl ⟨rfl, rfl⟩) hdg hq2 (k H locs hP hle hcs hS)
    · cases hq
  | baload =>
    unfold en_hp at hq
    dsimp only at hq
    split at hq
    · rename_i hlen; subst hlen
      split at hq
      · rename_i r hr
        cases hq
        exact en_ai_ok hx hb hK hZ hP hS (Or.inr (Or.inl ⟨rfl, rfl⟩)) hdg hr (k H locs hP hle hcs hS)
      · obtain ⟨hq2, rfl, rfl, rfl⟩ := en_up_ok hq
        exact en_ai_ok hx hb hK hZ hP hS (Or.inr (Or.inr ⟨rfl, rfl⟩)) hdg hq2 (k H locs hP hle hcs hS)
    · cases hq
  | laload =>
    unfold en_hp at hq
    dsimp only at hq
    split at hq
    · rename_i hlen; subst hlen
      obtain ⟨hq2, rfl, rfl, rfl⟩ := en_up_ok hq
      exact en_al_ok hx hb hK hP hdg hq2 (k H locs hP hle hcs hS)
    · cases hq
  | aaload =>
    unfold en_hp at hq
    dsimp only at hq
    split at hq
    · rename_i hlen; subst hlen
      obtain ⟨hq2, rfl, rfl, rfl⟩ := en_up_ok hq
      exact en_aa_ok hx hb hK hP hdg hq2 (k H locs hP hle hcs hS)
    · cases hq
  | iastore =>
    unfold en_hp at hq
    dsimp only at hq
    split at hq
    · rename_i hlen; subst hlen
      obtain ⟨hq2, rfl, rfl⟩ := en_uh_ok hq
      exact en_si_ok hx hb hK had hP hle hS (Or.inl ⟨rfl, rfl, rfl⟩) hdg hq2 (fun H' locs' a1 a2 a3 => k H' locs' a1 (by rw [a2]; exact hle) (by rw [a2]; exact hcs) a3)
    · cases hq
  | bastore =>
    unfold en_hp at hq
    dsimp only at hq
    split at hq
    · rename_i hlen; subst hlen
      split at hq
      · rename_i r h2 hr
        cases hq
        exact en_si_ok hx hb hK had hP hle hS (Or.inr (Or.inl ⟨rfl, rfl, rfl⟩)) hdg hr (fun H' locs' a1 a2 a3 => k H' locs' a1 (by rw [a2]; exact hle) (by rw [a2]; exact hcs) a3)
      · obtain ⟨hq2, rfl, rfl⟩ := en_uh_ok hq
        exact en_si_ok hx hb hK had hP hle hS (Or.inr (Or.inr ⟨rfl, rfl, rfl⟩)) hdg hq2 (fun H' locs' a1 a2 a3 => k H' locs' a1 (by rw [a2]; exact hle) (by rw [a2]; exact hcs) a3)
    · cases hq
  | lastore =>
    unfold en_hp at hq
    dsimp only at hq
    split at hq
    · rename_i hlen; subst hlen
      obtain ⟨hq2, rfl, rfl⟩ := en_uh_ok hq
      exact en_sl_ok hx hb hK had hP hle hS hdg hq2 (fun H' locs' a1 a2 a3 => k H' locs' a1 (by rw [a2]; exact hle) (by rw [a2]; exact hcs) a3)
    · cases hq
  | aastore =>
    unfold en_hp at hq
    dsimp only at hq
    split at hq
    · rename_i hlen; subst hlen
      obtain ⟨hq2, rfl, rfl⟩ := en_uh_ok hq
      exact en_sa_ok oR hx hb hK had hP hle hS hdg hq2 (fun H' locs' a1 a2 a3 => k H' locs' a1 (by rw [a2]; exact hle) (by rw [a2]; exact hcs) a3)
    · cases hq
  | arraylength =>
    unfold en_hp at hq
    dsimp only at hq
    split at hq
    · rename_i hlen; subst hlen
      obtain ⟨hq2, rfl, rfl, rfl⟩ := en_up_ok hq
      exact en_len_ok hx hb hK hZ hP hS hdg hq2 (k H locs hP hle hcs hS)
    · cases hq
  | getstatic x =>
    unfold en_hp at hq
    dsimp only at hq
    split at hq
    · rename_i hlen; subst hlen
      split at hq
      · rename_i kk hk
        cases hq
        obtain ⟨C, n, d, g1, g2⟩ := oG _ _ _ hk
        exact va_gets hx hb (hZ.2.1 _ _ _ _ g1) hS hown (hts _ g2) (fun y hy => hy) hdg (k H locs hP hle hcs hS)
      · cases hq
    · cases hq
  | ldc x =>
    unfold en_hp at hq
    dsimp only at hq
    split at hq
    · rename_i hlen; subst hlen
      split at hq
      · rename_i v hk
        cases hq
        exact lv_ldc hx hb hown (hts _ ((oK _ _).1 _ hk)) hdg (k H locs hP hle hcs hS)
      · cases hq
    · cases hq
  | ldc_w x =>
    unfold en_hp at hq
    dsimp only at hq
    split at hq
    · rename_i hlen; subst hlen
      split at hq
      · rename_i v hk
        cases hq
        exact lv_ldcw hx hb hown (hts _ ((oK _ _).1 _ hk)) hdg (k H locs hP hle hcs hS)
      · cases hq
    · cases hq
  | ldc2_w x =>
    unfold en_hp at hq
    dsimp only at hq
    split at hq
    · rename_i hlen; subst hlen
      split at hq
      · rename_i v hk
        cases hq
        exact lv_ldc2 hx hb hown (hts _ ((oK _ _).2 _ hk)) hdg (k H locs hP hle hcs hS)
      · cases hq
    · cases hq
  | new x =>
    unfold en_hp at hq
    dsimp only at hq
    split at hq
    · rename_i hlen; subst hlen
      exact en_new_ok oC oN hx hb hown hts hK had h00 hcs hP hle hS hdg hq (fun H' a1 a2 a3 a4 => k H' locs a1 a2 a3 a4)
    · cases hq
  | newarray a =>
    unfold en_hp at hq
    dsimp only at hq
    split at hq
    · rename_i hlen; subst hlen
      exact en_nar_ok oT hx hb hts hK had h00 hcs hP hle hS hdg hq (fun H' a1 a2 a3 a4 => k H' locs a1 a2 a3 a4)
    · cases hq
  | anewarray x =>
    unfold en_hp at hq
    dsimp only at hq
    split at hq
    · rename_i hlen; subst hlen
      exact en_naq_ok oA hx hb hown hts hK hZ had h00 hcs hP hle hS hdg hq (fun H' a1 a2 a3 a4 => k H' locs a1 a2 a3 a4)
    · cases hq
  | invokespecial x =>
    unfold en_hp at hq
    dsimp only at hq
    split at hq
    · rename_i hlen
      obtain ⟨rfl, hm⟩ := hlen
      obtain ⟨hq2, rfl, rfl, rfl⟩ := en_up_ok hq
      exact en_obj_ok oO hx hb hml hown hts hm hdg hq2 (k H locs hP hle hcs hS)
    · cases hq
  | invokestatic x =>
    unfold en_hp at hq
    dsimp only at hq
    split at hq
    · rename_i hlen; subst hlen
      split at hq
      · rename_i hm
        obtain ⟨hq2, rfl, rfl⟩ := en_uh_ok hq
        exact en_cpy_ok oY hx hb hml hown hts hK hZ had hP hle hS hm hdg hq2 (fun H' locs' a1 a2 a3 => k H' locs' a1 (by rw [a2]; exact hle) (by rw [a2]; exact hcs) a3)
      · rename_i kd hm
        obtain ⟨hq2, rfl, rfl, rfl⟩ := en_up_ok hq
        exact en_mth_ok oH hx hb hml hown hts hm hdg hq2 (k H locs hP hle hcs hS)
      · cases hq
    · cases hq
  | _ => cases hq
theorem en_st1_len (lv : en_L) (i : Nat) (v : Value) : (en_st1 lv i v).length = lv.length := by
  unfold en_st1
  rw [List.length_set, en_cl_len]
theorem en_st2_len (lv : en_L) (i : Nat) (v : Value) : (en_st2 lv i v).length = lv.length := by
  unfold en_st2
  rw [List.length_set, List.length_set, en_cl_len]
theorem en_lo_len {i : Instr} {len : Nat} {lv lv' : en_L} {st st' : List Value} (h : en_lo i len lv st = some (lv', st')) : lv'.length = lv.length := by
  unfold en_lo at h
  split at h
  · split at h
    · split at h
      · cases h; rfl
      · cases h
    · cases h
  · split at h
    · split at h
      · split at h
        · split at h
          · split at h
            · cases h; exact en_st2_len _ _ _
            · cases h
          · split at h
            · cases h; exact en_st1_len _ _ _
            · cases h
        · cases h
      · cases h
    · split at h
      · split at h
        · split at h
          · cases h; exact en_st1_len _ _ _
          · cases h
        · cases h
      · cases h
set_option maxHeartbeats 8000000 in
theorem en_stp_ok (OK : en_Ok P O cl SN cr Ts) (hx : p.tables.exec = Jvm.exec) (hb : c.code = cc) (hown : s.vm.findClass (O j) = some m.cls) (hts : ∀ w ∈ Ts, w.before args s = true) (hK : va_K D cl (en_tys ac) s) (hZ : en_Z SN n0 ad tb s) (hin : ∀ z, en_ini P j = z + 1 → meth.name = "<init>") (had : en_ad n0 ad) (h00 : s.heap.size = n0 + hl0) {S S' : en_S} (hml : c.maxLocals = S.2.1.length) (hcs : S.2.2.2.2.1 + hl0 = S.2.2.2.1.length) (hP : va_P D cl (en_w ad ac S.2.2.2.1) H) (hle : S.2.2.2.1.length ≤ en_b) (hS : va_S (en_A n0) s.heap H locs) (hl : en_has ad ls S.2.1) {i : Instr} {len : Nat} (hdg : decode cc S.1 = .ok (i, len)) (hq : en_stp P tb cr j i len S = some S')
    (k : ∀ (H' : Heap) (locs' : List Loc) (ls' : Array Slot), va_P D cl (en_w ad ac S'.2.2.2.1) H' → S'.2.2.2.1.length ≤ en_b → S'.2.2.2.2.1 + hl0 = S'.2.2.2.1.length → va_S (en_A n0) s.heap H' locs' → en_has ad ls' S'.2.1 → S'.2.1.length = S.2.1.length → W p l e (en_rm P j) s m args below meth c H' locs' S'.2.2.2.2.1 S'.2.2.2.2.2 Q (F0 m S'.1 ls' (S'.2.2.1.map (en_v ad)))) : W p l e (en_rm P j) s m args below meth c H locs S.2.2.2.2.1 S.2.2.2.2.2 Q (F0 m S.1 ls (S.2.2.1.map (en_v ad))) := by
  unfold en_stp at hq
  split at hq
  · rename_i n st' ho
    split at hq
    · rename_i hn
      subst hn
      cases hq
      exact en_op_ok hx hb hdg ho (k H locs ls hP hle hcs hS hl rfl)
    · cases hq
  · split at hq
    · rename_i pc' st' ho
      cases hq
      exact en_br_ok hx hb hdg ho (k H locs ls hP hle hcs hS hl rfl)
    · split at hq
      · rename_i lv' st' ho
        cases hq
        exact en_lo_ok hx hb hl hdg ho (fun ls' hl' => k H locs ls' hP hle hcs hS hl' (en_lo_len ho))
      · split at hq
        · rename_i st' h' cs' ss' ho
          cases hq
          exact en_hp_ok OK hx hb (hml.trans hl.1.symm) hown hts hK hZ hin had h00 hcs hP hle hS hdg ho (fun H' locs' a1 a2 a3 a4 => k H' locs' ls a1 a2 a3 a4 hl rfl)
        · cases hq
end EnStp
