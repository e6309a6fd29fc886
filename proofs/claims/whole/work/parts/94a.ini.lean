/-! THE START: both objects made -/
section Start
variable {q : Nat × (Nat → Int32)}
/-- nothing in any cell -/
def mz : ms := (fun _ _ => 0, fun _ _ => 0, R0)
theorem mz_z (n : Nat) : sr_z n mz := ⟨fun _ _ _ => rfl, fun _ _ _ => rfl, rfl⟩
theorem BlP_same {S Sf : ms} (h : BlP S Sf) : Sf.2 = S.2 ∧ ∀ (a : Nat) (k : Int), ¬ (31 ≤ a ∧ a ≤ 52) → a ≠ 92 → a ≠ 93 → Sf.1 a k = S.1 a k := by
  obtain ⟨S2, S4, p2, p4, pf⟩ := h
  obtain ⟨a1, a2, -⟩ := p2
  obtain ⟨b1, b2, -⟩ := p4
  obtain ⟨c1, c2, -⟩ := pf
  refine ⟨c1.trans (b1.trans a1), fun a k h1 h2 h3 => ?_⟩
  rw [c2 a k h2 h3, b2 a k (by omega) (by omega), rI_C, if_neg (by omega), a2 a k (by omega) (by omega), rI_C, if_neg (by omega)]
theorem BlP_z {S Sf : ms} (h : BlP S Sf) (hz : sr_z 94 S) : sr_z 94 Sf := by
  obtain ⟨h1, h2⟩ := BlP_same h
  refine ⟨fun a k ha => ?_, fun a k ha => ?_, ?_⟩
  · rw [h2 a k (by omega) (by omega) (by omega)]
    exact hz.1 a k ha
  · rw [h1]
    exact hz.2.1 a k ha
  · rw [h1]
    exact hz.2.2
theorem paI_z {S Sf : ms} (h : paI S Sf 255) (hz : sr_z 184 S) : sr_z 184 Sf := by
  obtain ⟨h1, h2, -⟩ := h
  refine ⟨fun a k ha => ?_, fun a k ha => ?_, ?_⟩
  · rw [h2 a k (by omega) (by omega)]
    exact hz.1 a k ha
  · rw [h1]
    exact hz.2.1 a k ha
  · rw [h1]
    exact hz.2.2
theorem sxZ_l : sxZ.length = 1 := rfl
theorem sxA_l : sxA.length = 31 := by decide +kernel
theorem sxB_l : sxB.length = 94 := by decide +kernel
theorem sxC_l : sxC.length = 174 := by decide +kernel
theorem sxD_l : sxD.length = 184 := by decide +kernel
theorem sxE_l : sxE.length = 367 := by decide +kernel
theorem sxF_l : sxF.length = 368 := by decide +kernel
theorem sxG_l : sxG.length = 453 := by decide +kernel
theorem ini_blocks : ∃ SB, en_Ev pg_P (pg_tb q.1 q.2) pg_cr 8 (0, [some (.ref 30), some (.ref 10), none, none], [], hq sxA mz, 0, 0) none (hq sxB SB) ∧ BlP mz SB := by
  obtain ⟨SB, k, p⟩ := sp_blocks (q := q) (S := mz)
  exact ⟨SB, ev_sr 300 (sr_eq_ok ct_2) (mz_z _) k, p⟩
theorem ini_parts {S : ms} (hz : sr_z 94 S) : ∃ SD, en_Ev pg_P (pg_tb q.1 q.2) pg_cr 14 (0, [some (.ref 173), none, none], [], hq sxC S, 0, 0) none (hq sxD SD) ∧ paI S SD 255 := by
  obtain ⟨SD, k, p⟩ := sp_parts (q := q) (S := S)
  exact ⟨SD, ev_sr 300 (sr_eq_ok ct_4) (hz.mono (by show 94 ≤ sxC.length; rw [sxC_l]; decide)) k, p⟩
theorem ini_house : ∃ SB SD, en_Ev pg_P (pg_tb q.1 q.2) pg_cr 1 (0, [some (.ref 0), none], [], hq sxZ mz, 0, 0) none (hq sxE SD) ∧ BlP mz SB ∧ paI SB SD 255 := by
  obtain ⟨SB, kB, pB⟩ := ini_blocks (q := q)
  have zB := BlP_z pB (mz_z 94)
  obtain ⟨SD, kD, pD⟩ := ini_parts (q := q) zB
  have zD := paI_z pD (zB.mono (by decide))
  refine ⟨SB, SD, ?_, pB, pD⟩
  refine ev_sr 300 (sr_eq_ok ct_1) (mz_z _) ?_
  refine ev_call (kd := 2) (j' := 8) (as := [.ref 30, .ref 10]) (rest := [.ref 30, .ref 0]) (r1 := none) (h1 := hq sxB SB) rfl rfl rfl (Nat.le_of_ble_eq_true rfl) kB ⟨?_, ?_⟩ ?_
  · rw [hq_len, sxB_l]
    show 94 = (hq sxA mz).length + _
    rw [hq_len, sxA_l]
    rfl
  · rw [hq_len, sxB_l]
    exact Nat.le_of_ble_eq_true rfl
  refine ev_sr (S := SB) 300 (sr_eq_ok ct_3) (by show sr_z sxB.length SB; rw [sxB_l]; exact zB) ?_
  refine ev_call (kd := 2) (j' := 14) (as := [.ref 173]) (rest := [.ref 173, .ref 0]) (r1 := none) (h1 := hq sxD SD) rfl rfl rfl (Nat.le_of_ble_eq_true rfl) kD ⟨?_, ?_⟩ ?_
  · rw [hq_len, sxD_l]
    show 184 = (hq sxC SB).length + _
    rw [hq_len, sxC_l]
    rfl
  · rw [hq_len, sxD_l]
    exact Nat.le_of_ble_eq_true rfl
  refine ev_sr (S := SD) 600 (sr_eq_ok ct_5) (by show sr_z sxD.length SD; rw [sxD_l]; exact zD) ?_
  exact ev_ret rfl rfl
theorem sv_sh {I J : Int → Int} {R : Int → Nat} {s : sh_T} (h : s.2.2.all (fun q => Nat.ble q.1 3) = true ∨ s.1 < 6) : sv_c I J R s = sh_c I J R s := by
  obtain ⟨t, n, fs⟩ := s
  match t, h with
  | 0, _ => rfl
  | 1, _ => rfl
  | 2, _ => rfl
  | 3, _ => rfl
  | 4, _ => rfl
  | 5, _ => rfl
  | t + 6, h =>
    have h : fs.all (fun q => Nat.ble q.1 3) = true := by
      rcases h with z | z
      · exact z
      · have z : t + 6 < 6 := z
        omega
    show Sum.inr (t, sv_f I J R fs) = Sum.inr (t, sh_f I J R fs)
    congr 2
    apply List.ext_getElem?
    intro i
    unfold sv_f sh_f
    rw [List.getElem?_mapIdx, List.getElem?_mapIdx]
    cases hd : fs[i]? with
    | none => rfl
    | some q =>
      have hq := Nat.le_of_ble_eq_true (List.all_eq_true.mp h q (List.mem_of_getElem? hd))
      show some (sv_v I J R i q) = some (sh_v I J R i q)
      congr 1
      obtain ⟨k, v⟩ := q
      match k, hq with
      | 0, _ => rfl
      | 1, _ => rfl
      | 2, _ => rfl
      | 3, _ => rfl
      | k + 4, hq =>
        have hq : k + 4 ≤ 3 := hq
        omega
theorem sxG_sh : ∀ a : Nat, a < 453 → sg sxG a = SH a ∧ ((sg sxG a).2.2.all (fun q => Nat.ble q.1 3) = true ∨ (sg sxG a).1 < 6) := by decide +kernel
theorem hq_hp (S : ms) : hq sxG S = hp S := by
  apply List.ext_getElem?
  intro i
  rcases Nat.lt_or_ge i 453 with h | h
  · obtain ⟨e1, e2⟩ := sxG_sh i h
    rw [hq_at (by rw [sxG_l]; exact h), hp_at h, sv_sh e2, e1]
  · rw [hq_none (by rw [sxG_l]; exact h), hp_none h]
/-- the memory behind the constructors -/
def IniP (S : ms) : Prop := ∃ SB SD : ms, BlP mz SB ∧ paI SB SD 255 ∧ MdP SD S
theorem law_ini : ∃ S0, IniP S0 ∧ ∀ (r : Option Value) (S' : ms), EVL q 18 [some (.ref (en_b + 11)), some (.ref 0), some (.ref 367), some (vI (4 * 0 : Nat))] [] S0 r S' → en_Ev pg_P (pg_tb q.1 q.2) pg_cr 0 pg_S0 r (hp S') := by
  obtain ⟨SB, SD, kH, pB, pD⟩ := ini_house (q := q)
  have zD := paI_z pD ((BlP_z pB (mz_z 94)).mono (by decide))
  obtain ⟨SM, kM, pM⟩ := sp_md (q := q) (S := SD)
  refine ⟨SM, ⟨SB, SD, pB, pD, pM⟩, fun r S' k => ?_⟩
  refine ev_sr (S := mz) 10 (sr_eq_ok ct_0) (mz_z _) ?_
  refine ev_call (kd := 2) (j' := 1) (as := [.ref 0]) (rest := [.ref 0]) (r1 := none) (h1 := hq sxE SD) rfl rfl rfl (Nat.le_of_ble_eq_true rfl) kH ⟨?_, ?_⟩ ?_
  · rw [hq_len, sxE_l]
    show 367 = (hq sxZ mz).length + _
    rw [hq_len, sxZ_l]
    rfl
  · rw [hq_len, sxE_l]
    exact Nat.le_of_ble_eq_true rfl
  have zE : sr_z sxE.length SD := by
    rw [sxE_l]
    exact zD.mono (by decide)
  refine ev_sr (S := SD) 10 (sr_eq_ok ct_6) zE ?_
  have zF : sr_z sxF.length SD := by
    rw [sxF_l]
    exact zD.mono (by decide)
  have kM2 : en_Ev pg_P (pg_tb q.1 q.2) pg_cr 255 (0, [some (.ref 367), none, none, none, none], [], hq sxF SD, 0, 0) none (hp SM) := by
    refine ev_sr (S := SD) 600 (sr_eq_ok ct_7) zF ?_
    show en_Ev pg_P (pg_tb q.1 q.2) pg_cr 255 (739, [some (.ref 367), some (vI 0), none, none, none], [], hq sxG SD, 85, 801753) none (hp SM)
    rw [hq_hp]
    exact kM
  refine ev_call (kd := 2) (j' := 255) (as := [.ref 367]) (rest := [.ref 367]) (r1 := none) (h1 := hp SM) rfl rfl rfl (Nat.le_of_ble_eq_true rfl) kM2 ⟨?_, ?_⟩ ?_
  · rw [hp_len]
    show 453 = (hq sxF SD).length + _
    rw [hq_len, sxF_l]
    rfl
  · rw [hp_len]
    exact Nat.le_of_ble_eq_true rfl
  refine ev_bk 3 (S' := (18, [some (.ref (en_b + 11)), some (.ref 0), some (.ref 367), some (vI 0)], [], hp SM, 453, 2211534)) rfl ?_
  exact k
/-- the law, out of steps: K holds behind the constructors, and each call keeps it -/
theorem law_of {L : Nat} {xs : Nat → Int32} (hL : L ≤ 2048) (M : Nat) (hM : L < 4 * M + 4) (hM2 : M ≤ 1000) (K : Nat → ms → Prop) (ini : ∀ S, IniP S → K 0 S) (mono : ∀ i S, K i S → K (i + 1) S) (step : ∀ (i : Nat) (S : ms) (c a b d : Int), i < M → K i S → -2147483648 ≤ a ∧ a < 2147483648 → -2147483648 ≤ b ∧ b < 2147483648 → -2147483648 ≤ d ∧ d < 2147483648 → opAll (L, xs) c a b d S (K (i + 1))) : pg_Law L xs := by
  obtain ⟨S0, h0, k0⟩ := law_ini (q := (L, xs))
  obtain ⟨S', hS⟩ := lw_loop (q := (L, xs)) hL M hM hM2 K mono step M 0 S0 (by omega) (by omega) (ini S0 h0)
  obtain ⟨n, hn⟩ := k0 _ S' hS
  exact ⟨n, _, hn⟩
end Start
