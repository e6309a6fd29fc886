theorem en_size {D : va_G} {cl : List vw_C} {ad : Nat → Nat} {ac : Nat → ClassId} {n0 hl0 cs : Nat} {h : en_H} {s : State} {H : Heap} (had : en_ad n0 ad) (hP : va_P D cl (en_w ad ac h) H) (hle : h.length ≤ en_b) (h00 : s.heap.size = n0 + hl0) (hcs : cs + hl0 = h.length) (h1 : H.size ≤ s.heap.size + cs) (h2 : s.heap.size ≤ H.size) : H.size = n0 + h.length := by
  by_cases hz : h.length = 0
  · omega
  · have hk : h.length - 1 < h.length := by omega
    have he := en_w_at (ad := ad) (ac := ac) (List.getElem?_eq_getElem hk)
    have hlt : ad (h.length - 1) < H.size := (hP _ _ he).lt
    rw [had _ (by omega)] at hlt
    omega
theorem en_wsm (ad : Nat → Nat) (r : List Value) : ((r.map (en_v ad)).map fun v => v.category).sum = en_ws r := by
  unfold en_ws
  rw [List.map_map]
  congr 1
  apply List.map_congr_left
  intro v _
  exact en_v_cat ad v
theorem en_tl (ad : Nat → Nat) (r : Option Value) (rest : List Value) : (r.map (en_v ad)).toList ++ rest.map (en_v ad) = (r.toList ++ rest).map (en_v ad) := by
  cases r <;> simp
theorem en_tk {ad : Nat → Nat} {st : List Value} {n : Nat} : st.map (en_v ad) = (((st.take n).reverse).map (en_v ad)).reverse ++ (st.drop n).map (en_v ad) := by
  rw [List.map_reverse, List.reverse_reverse, ← List.map_append, List.take_append_drop]
section EnSnd
variable {l : Launch} {D : va_G} {cl : List vw_C} {ad : Nat → Nat} {ac : Nat → ClassId} {n0 : Nat} {SN : en_SN} {tb : en_T} {cr : Nat → Nat} {P : en_Pg} {O : Nat → String} {B : Nat → ByteArray} {Y : Nat → MethodName} {Ts : List Cond}
theorem en_good (hG : GoodIn Ts Ts) {j : Nat} (hc : Cond.code (Y j) (B j) (en_ml P j) (en_rt P j) ∈ Ts) : GoodIn Ts (en_wl P B Y Ts j) := by
  intro w hw
  rcases List.mem_cons.mp hw with rfl | hw
  · exact hG _ hc
  · exact hG w hw
set_option maxHeartbeats 16000000 in
theorem en_cal_ok (OM : en_okM P O B Y cl Ts) (hG : GoodIn Ts Ts) (had : en_ad n0 ad) {p : Program} {e : Env} {s : State} {m : MethodId} {args : Array Value} {below : List Frame} {meth : Method} {c : Code} {hl0 : Nat} {Q : State → Prop} {H : Heap} {locs : List Loc} {ls : Array Slot} {j pc cs ss kd j' len : Nat} {i : Instr} {st as rest : List Value} {h h1 : en_H} {r1 : Option Value}
    (hx : p.tables.exec = Jvm.exec) (hb : c.code = B j) (hml : c.maxLocals = en_ml P j) (hown : s.vm.findClass (O j) = some m.cls) (hts : ∀ w ∈ Ts, w.before args s = true) (hK : va_K D cl (en_tys ac) s) (hZ : en_Z SN n0 ad tb s) (h00 : s.heap.size = n0 + hl0) (hcs : cs + hl0 = h.length) (hP : va_P D cl (en_w ad ac h) H) (hle : h.length ≤ en_b) (hS : va_S (en_A n0) s.heap H locs) (hls : ls.size = en_ml P j) (hdg : decode (B j) pc = .ok (i, len))
    (hq : en_cal P j i len st h = some (kd, j', as, rest)) (hfit : en_fit P j j' rest cs ss = true)
    (hM : plainName (Y j').cls = true → O j' = (Y j').cls → (∀ z, en_ini P j' = z + 1 → (Y j').name = "<init>") → Met l (Y j') (en_wl P B Y Ts j') (en_rm P j') (en_Pc D cl ad ac n0 SN tb as h) (en_Qc D cl ad ac n0 r1 h1) (en_mc P j') (en_ms P j') (en_A n0))
    (k : ∀ (H' : Heap) (locs' : List Loc), va_P D cl (en_w ad ac h1) H' → va_S (en_A n0) s.heap H' locs' → W p l e (en_rm P j) s m args below meth c H' locs' (cs + en_mc P j') (ss + en_ms P j') Q (F0 m (pc + 3) ls ((r1.toList ++ rest).map (en_v ad)))) : W p l e (en_rm P j) s m args below meth c H locs cs ss Q (F0 m pc ls (st.map (en_v ad))) := by
  refine en_sz (fun hz => ?_)
  have hsize := en_size had hP hle h00 hcs hz hS.1
  obtain ⟨hf1, hf2, hf3⟩ := en_fit_ok hfit
  have hpre : ∀ U : State, U.heap = H → s.WarmedH U.vm → en_Pc D cl ad ac n0 SN tb as h (as.map (en_v ad)).toArray U := fun U hU hW => ⟨rfl, by rw [hU]; exact hP, va_K.moved hW.alike hK, hZ.moved hW (by rw [hU]; exact hS.1) (fun a h1 h2 => by rw [hU]; exact hS.2.1 a h1 h2), by rw [hU]; exact hsize, hle⟩
  have hfix : CallFix p m c (B j) (en_ml P j) s args Ts (O j) := ⟨hx, hb, hml, hown, hts⟩
  have hrm : 2 * (F0 m pc ls (st.map (en_v ad))).monitorRoom + ((rest.map (en_v ad)).map fun v => v.category).sum ≤ 8 := by
    show 2 * 0 + _ ≤ 8
    rw [en_wsm]
    omega
  have kk : ∀ (H' : Heap) (locs' : List Loc), va_P D cl (en_w ad ac h1) H' → va_S (en_A n0) s.heap H' locs' → W p l e (en_rm P j) s m args below meth c H' locs' (cs + en_mc P j') (ss + en_ms P j') Q (F0 m (pc + 3) ls ((r1.map (en_v ad)).toList ++ rest.map (en_v ad))) := fun H' locs' a1 a2 => by rw [en_tl]; exact k H' locs' a1 a2
  cases i with
  | invokestatic x =>
    unfold en_cal at hq
    dsimp only at hq
    split at hq
    · rename_i hlen; subst hlen
      split at hq
      · rename_i j2 hm
        split at hq
        · rename_i hn
          cases hq
          obtain ⟨⟨o1, o2, o3, o4, o5, o6⟩, o7, -, -, -⟩ := OM _ _ _ _ hm (by decide)
          obtain ⟨o8, o9⟩ := o7 rfl
          exact en_callW (va_runS (nL := en_ml P j) (As := ((st.take (en_na P j')).reverse).map (en_v ad)) (rest := (st.drop (en_na P j')).map (en_v ad)) hfix (hM o4 o5 o6) ⟨callB_of (en_na P j') hts (en_good hG o1) rfl rfl rfl (hts _ o2) (hts _ o8) o3 hf1, hts _ o9⟩ ⟨en_blind, hpre⟩ rfl (by rw [List.length_map, List.length_reverse, List.length_take]; omega) hls en_tk hrm hdg hf2) hS kk
        · cases hq
      · cases hq
    · cases hq
  | invokevirtual x =>
    unfold en_cal at hq
    dsimp only at hq
    split at hq
    · rename_i hlen; subst hlen
      split at hq
      · rename_i j2 hm
        split at hq
        · rename_i b rr hd
          split at hq
          · rename_i ci fs he
            split at hq
            · rename_i hci
              subst hci
              cases hq
              obtain ⟨⟨o1, o2, o3, o4, o5, o6⟩, -, o7, -, -⟩ := OM _ _ _ _ hm (by decide)
              obtain ⟨o8, o9, o10, T, N, o11⟩ := o7 rfl
              have hn : en_na P j' < st.length := by
                rcases Nat.lt_or_ge (en_na P j') st.length with q | q
                · exact q
                · rw [List.drop_eq_nil_of_le q] at hd
                  cases hd
              have hst : st.map (en_v ad) = (((st.take (en_na P j')).reverse).map (en_v ad)).reverse ++ .ref (ad b) :: rest.map (en_v ad) := by
                have z := en_tk (ad := ad) (st := st) (n := en_na P j')
                rw [hd] at z
                exact z
              exact en_callW (va_runV (nL := en_ml P j) (C := (Y j').cls) (As := ((st.take (en_na P j')).reverse).map (en_v ad)) (rest := rest.map (en_v ad)) hfix (hM o4 o5 o6) ⟨callB_of (en_na P j') hts (en_good hG o1) rfl rfl rfl (hts _ o2) (hts _ o8) o3 hf1, hts _ o9, hts _ o10⟩ ⟨en_blind, va_recv hK hP o11 (en_w_at he), hpre⟩ rfl (by rw [List.length_map, List.length_reverse, List.length_take]; omega) hls hst hrm hdg hf2) hS kk
            · cases hq
          · cases hq
        · cases hq
      · cases hq
    · cases hq
  | invokespecial x =>
    unfold en_cal at hq
    dsimp only at hq
    split at hq
    · rename_i hlen; subst hlen
      split at hq
      · rename_i kd2 j2 hm
        split at hq
        · rename_i hkd
          split at hq
          · rename_i b rr hd
            cases hq
            obtain ⟨⟨o1, o2, o3, o4, o5, o6⟩, -, -, o7, o8⟩ := OM _ _ _ _ hm (by rcases hkd with rfl | rfl <;> decide)
            have hn : en_na P j' < st.length := by
              rcases Nat.lt_or_ge (en_na P j') st.length with q | q
              · exact q
              · rw [List.drop_eq_nil_of_le q] at hd
                cases hd
            have hst : st.map (en_v ad) = (((st.take (en_na P j')).reverse).map (en_v ad)).reverse ++ .ref (ad b) :: rest.map (en_v ad) := by
              have z := en_tk (ad := ad) (st := st) (n := en_na P j')
              rw [hd] at z
              exact z
            rcases hkd with rfl | rfl
            · obtain ⟨g1, g2, g3, g4⟩ := o7 rfl
              have hcb := callB_of (R := en_rm P j) (rm := en_rm P j') (en_na P j') hts (en_good hG o1) rfl rfl rfl (hts _ o2) (hts _ g1) o3 hf1
              rw [g4] at hcb
              exact en_callW (va_runI (nL := en_ml P j) (As := ((st.take (en_na P j')).reverse).map (en_v ad)) (rest := rest.map (en_v ad)) hfix (hM o4 o5 o6) ⟨hcb, g3, hts _ g2⟩ ⟨en_blind, hpre⟩ rfl (by rw [List.length_map, List.length_reverse, List.length_take]; omega) hls hst hrm hdg hf2) hS kk
            · obtain ⟨host, g1, g2, g3, g4⟩ := o8 rfl
              have hcb := va_cnB (R := en_rm P j) (rm := en_rm P j') (args := args) (en_na P j') hts (en_good hG o1) rfl rfl rfl (hZ.2.2 _ g1) (hts _ o2) o3 hf1
              rw [g4] at hcb
              exact en_callW (va_runIN (nL := en_ml P j) (As := ((st.take (en_na P j')).reverse).map (en_v ad)) (rest := rest.map (en_v ad)) hfix (hM o4 o5 o6) ⟨hcb, g3, hts _ g2⟩ ⟨en_blind, hpre⟩ rfl (by rw [List.length_map, List.length_reverse, List.length_take]; omega) hls hst hrm hdg hf2) hS kk
          · cases hq
        · cases hq
      · cases hq
    · cases hq
  | _ => cases hq
set_option maxHeartbeats 16000000 in
theorem en_snd (OK : en_Ok P O cl SN cr Ts) (OM : en_okM P O B Y cl Ts) (OD : en_okD P B) (hG : GoodIn Ts Ts) (had : en_ad n0 ad) : ∀ n : Nat, en_Snd l D cl ad ac n0 SN tb cr P O B Ts n := by
  intro n
  induction n with
  | zero => intro j S r h' hrun; cases hrun
  | succ n ih =>
    intro j S r h' hrun p e s m args below meth c hl0 Q H locs ls hx hb hml hown hts hK hZ hin h00 hll hcs hP hle hS hl fin
    rw [en_run_s] at hrun
    split at hrun
    · cases hrun
    · rename_i i len hI
      have hdg := OD _ _ _ _ hI
      split at hrun
      · rename_i r2 hr2
        cases hrun
        exact fin _ _ _ _ _ _ _ _ _ hdg hr2 hP hS
      · split at hrun
        · rename_i kd j' as rest hcal
          split at hrun
          · rename_i hc
            obtain ⟨hfit, hent⟩ := hc
            split at hrun
            · rename_i r1 h1 hrun1
              split at hrun
              · rename_i hc2
                obtain ⟨hlen1, hle1⟩ := hc2
                refine en_cal_ok OM hG had hx hb hml hown hts hK hZ h00 hcs hP hle hS (hl.1.trans hll) hdg hcal hfit (fun o1 o2 o3 => en_met ih o1 o2 o3 hent hrun1) (fun H' locs' a1 a2 => ?_)
                exact ih j (S.1 + 3, S.2.1, r1.toList ++ rest, h1, S.2.2.2.2.1 + en_mc P j', S.2.2.2.2.2 + en_ms P j') r h' hrun p e s m args below meth c hl0 Q H' locs' ls hx hb hml hown hts hK hZ hin h00 hll (by show S.2.2.2.2.1 + en_mc P j' + hl0 = h1.length; omega) a1 hle1 a2 hl fin
              · cases hrun
            · cases hrun
          · cases hrun
        · split at hrun
          · rename_i S' hstp
            refine en_stp_ok OK hx hb hown hts hK hZ hin had h00 (hml.trans hll.symm) hcs hP hle hS hl hdg hstp (fun H' locs' ls' a1 a2 a3 a4 a5 a6 => ?_)
            exact ih j S' r h' hrun p e s m args below meth c hl0 Q H' locs' ls' hx hb hml hown hts hK hZ hin h00 (a6.trans hll) a3 a1 a2 a4 a5 fin
          · cases hrun
end EnSnd
