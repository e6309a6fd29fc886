/-! the engine's premises, out of the checks -/
theorem ck_F_all (o : Nat) : en_ck pg_F ck_F o = true := by
  by_cases ho : o < 16
  · rcases (show o = 0 ∨ o = 1 ∨ o = 2 ∨ o = 3 ∨ o = 4 ∨ o = 5 ∨ o = 6 ∨ o = 7 ∨ o = 8 ∨ o = 9 ∨ o = 10 ∨ o = 11 ∨ o = 12 ∨ o = 13 ∨ o = 14 ∨ o = 15 by omega) with rfl | rfl | rfl | rfl | rfl | rfl | rfl | rfl | rfl | rfl | rfl | rfl | rfl | rfl | rfl | rfl
    · exact ck_F_0
    · exact ck_F_1
    · exact ck_F_2
    · exact ck_F_3
    · exact ck_F_4
    · exact ck_F_5
    · exact ck_F_6
    · exact ck_F_7
    · exact ck_F_8
    · exact ck_F_9
    · exact ck_F_10
    · exact ck_F_11
    · exact ck_F_12
    · exact ck_F_13
    · exact ck_F_14
    · exact ck_F_15
  · have hl : pg_F.length = 16 := rfl
    unfold en_ck
    rw [List.getD_eq_getElem?_getD, List.getElem?_eq_none (by omega)]
    rfl
theorem ck_K_all (o : Nat) : en_ck pg_K ck_K o = true := by
  by_cases ho : o < 16
  · rcases (show o = 0 ∨ o = 1 ∨ o = 2 ∨ o = 3 ∨ o = 4 ∨ o = 5 ∨ o = 6 ∨ o = 7 ∨ o = 8 ∨ o = 9 ∨ o = 10 ∨ o = 11 ∨ o = 12 ∨ o = 13 ∨ o = 14 ∨ o = 15 by omega) with rfl | rfl | rfl | rfl | rfl | rfl | rfl | rfl | rfl | rfl | rfl | rfl | rfl | rfl | rfl | rfl
    · exact ck_K_0
    · exact ck_K_1
    · exact ck_K_2
    · exact ck_K_3
    · exact ck_K_4
    · exact ck_K_5
    · exact ck_K_6
    · exact ck_K_7
    · exact ck_K_8
    · exact ck_K_9
    · exact ck_K_10
    · exact ck_K_11
    · exact ck_K_12
    · exact ck_K_13
    · exact ck_K_14
    · exact ck_K_15
  · have hl : pg_K.length = 16 := rfl
    unfold en_ck
    rw [List.getD_eq_getElem?_getD, List.getElem?_eq_none (by omega)]
    rfl
theorem ck_N_all (o : Nat) : en_ck pg_N ck_N o = true := by
  by_cases ho : o < 16
  · rcases (show o = 0 ∨ o = 1 ∨ o = 2 ∨ o = 3 ∨ o = 4 ∨ o = 5 ∨ o = 6 ∨ o = 7 ∨ o = 8 ∨ o = 9 ∨ o = 10 ∨ o = 11 ∨ o = 12 ∨ o = 13 ∨ o = 14 ∨ o = 15 by omega) with rfl | rfl | rfl | rfl | rfl | rfl | rfl | rfl | rfl | rfl | rfl | rfl | rfl | rfl | rfl | rfl
    · exact ck_N_0
    · exact ck_N_1
    · exact ck_N_2
    · exact ck_N_3
    · exact ck_N_4
    · exact ck_N_5
    · exact ck_N_6
    · exact ck_N_7
    · exact ck_N_8
    · exact ck_N_9
    · exact ck_N_10
    · exact ck_N_11
    · exact ck_N_12
    · exact ck_N_13
    · exact ck_N_14
    · exact ck_N_15
  · have hl : pg_N.length = 16 := rfl
    unfold en_ck
    rw [List.getD_eq_getElem?_getD, List.getElem?_eq_none (by omega)]
    rfl
theorem ck_A_all (o : Nat) : en_ck pg_A ck_A o = true := by
  by_cases ho : o < 16
  · rcases (show o = 0 ∨ o = 1 ∨ o = 2 ∨ o = 3 ∨ o = 4 ∨ o = 5 ∨ o = 6 ∨ o = 7 ∨ o = 8 ∨ o = 9 ∨ o = 10 ∨ o = 11 ∨ o = 12 ∨ o = 13 ∨ o = 14 ∨ o = 15 by omega) with rfl | rfl | rfl | rfl | rfl | rfl | rfl | rfl | rfl | rfl | rfl | rfl | rfl | rfl | rfl | rfl
    · exact ck_A_0
    · exact ck_A_1
    · exact ck_A_2
    · exact ck_A_3
    · exact ck_A_4
    · exact ck_A_5
    · exact ck_A_6
    · exact ck_A_7
    · exact ck_A_8
    · exact ck_A_9
    · exact ck_A_10
    · exact ck_A_11
    · exact ck_A_12
    · exact ck_A_13
    · exact ck_A_14
    · exact ck_A_15
  · have hl : pg_A.length = 16 := rfl
    unfold en_ck
    rw [List.getD_eq_getElem?_getD, List.getElem?_eq_none (by omega)]
    rfl
theorem ck_G_all (o : Nat) : en_ck pg_G ck_G o = true := by
  by_cases ho : o < 16
  · rcases (show o = 0 ∨ o = 1 ∨ o = 2 ∨ o = 3 ∨ o = 4 ∨ o = 5 ∨ o = 6 ∨ o = 7 ∨ o = 8 ∨ o = 9 ∨ o = 10 ∨ o = 11 ∨ o = 12 ∨ o = 13 ∨ o = 14 ∨ o = 15 by omega) with rfl | rfl | rfl | rfl | rfl | rfl | rfl | rfl | rfl | rfl | rfl | rfl | rfl | rfl | rfl | rfl
    · exact ck_G_0
    · exact ck_G_1
    · exact ck_G_2
    · exact ck_G_3
    · exact ck_G_4
    · exact ck_G_5
    · exact ck_G_6
    · exact ck_G_7
    · exact ck_G_8
    · exact ck_G_9
    · exact ck_G_10
    · exact ck_G_11
    · exact ck_G_12
    · exact ck_G_13
    · exact ck_G_14
    · exact ck_G_15
  · have hl : pg_G.length = 16 := rfl
    unfold en_ck
    rw [List.getD_eq_getElem?_getD, List.getElem?_eq_none (by omega)]
    rfl
theorem ck_L_all (o : Nat) : en_ck pg_L ck_L o = true := by
  by_cases ho : o < 16
  · rcases (show o = 0 ∨ o = 1 ∨ o = 2 ∨ o = 3 ∨ o = 4 ∨ o = 5 ∨ o = 6 ∨ o = 7 ∨ o = 8 ∨ o = 9 ∨ o = 10 ∨ o = 11 ∨ o = 12 ∨ o = 13 ∨ o = 14 ∨ o = 15 by omega) with rfl | rfl | rfl | rfl | rfl | rfl | rfl | rfl | rfl | rfl | rfl | rfl | rfl | rfl | rfl | rfl
    · exact ck_L_0
    · exact ck_L_1
    · exact ck_L_2
    · exact ck_L_3
    · exact ck_L_4
    · exact ck_L_5
    · exact ck_L_6
    · exact ck_L_7
    · exact ck_L_8
    · exact ck_L_9
    · exact ck_L_10
    · exact ck_L_11
    · exact ck_L_12
    · exact ck_L_13
    · exact ck_L_14
    · exact ck_L_15
  · have hl : pg_L.length = 16 := rfl
    unfold en_ck
    rw [List.getD_eq_getElem?_getD, List.getElem?_eq_none (by omega)]
    rfl
theorem ck_m_all {j : Nat} (h0 : 0 < j) (hj : j < 429) : ck_m j = true := by
  have key : ∀ (a n : Nat), (List.range n).all (fun i => ck_m (a + i)) = true → a ≤ j → j < a + n → ck_m j = true := fun a n h h1 h2 => by
    have := List.all_eq_true.mp h (j - a) (List.mem_range.mpr (by omega))
    rw [show a + (j - a) = j by omega] at this
    exact this
  by_cases c0 : j < 32
  · exact key 1 31 ck_m_0 (by omega) (by omega)
  by_cases c1 : j < 64
  · exact key 32 32 ck_m_1 (by omega) (by omega)
  by_cases c2 : j < 96
  · exact key 64 32 ck_m_2 (by omega) (by omega)
  by_cases c3 : j < 128
  · exact key 96 32 ck_m_3 (by omega) (by omega)
  by_cases c4 : j < 160
  · exact key 128 32 ck_m_4 (by omega) (by omega)
  by_cases c5 : j < 192
  · exact key 160 32 ck_m_5 (by omega) (by omega)
  by_cases c6 : j < 224
  · exact key 192 32 ck_m_6 (by omega) (by omega)
  by_cases c7 : j < 256
  · exact key 224 32 ck_m_7 (by omega) (by omega)
  by_cases c8 : j < 288
  · exact key 256 32 ck_m_8 (by omega) (by omega)
  by_cases c9 : j < 320
  · exact key 288 32 ck_m_9 (by omega) (by omega)
  by_cases c10 : j < 352
  · exact key 320 32 ck_m_10 (by omega) (by omega)
  by_cases c11 : j < 384
  · exact key 352 32 ck_m_11 (by omega) (by omega)
  by_cases c12 : j < 416
  · exact key 384 32 ck_m_12 (by omega) (by omega)
  by_cases c13 : j < 429
  · exact key 416 13 ck_m_13 (by omega) (by omega)
  omega
theorem pg_okF : en_okF pg_P pg_O vwCl pg_Ts := by
  intro j x ci k h
  obtain ⟨⟨⟨ci', k'⟩, ps⟩, h1, h2⟩ := en_mapS (show (en_gk2 x (pg_F.getD (pg_r j).2.2.2.2 [])).map (fun q => q.1) = some (ci, k) from h)
  cases h2
  have hc := en_ck_ok (ck_F_all _) h1
  unfold ck_F at hc
  dsimp only at hc
  split at hc
  · rename_i C T N hcl
    simp only [Bool.and_eq_true, decide_eq_true_eq] at hc
    obtain ⟨c1, c2, c3, c4⟩ := hc
    refine ⟨C, T, N, hcl, Nat.le_of_ble_eq_true c1, c2, en_at_in c3, c4, ?_⟩
    show _ = (pg_ty ci k).2
    unfold pg_ty
    rw [hcl]
  · cases hc
theorem pg_okK : en_okK pg_P pg_O pg_Ts := by
  intro j x
  refine ⟨fun v h => ?_, fun v h => ?_⟩
  · obtain ⟨⟨w, ps⟩, h1, h2⟩ := en_mapS (show (en_gk2 x (pg_K.getD (pg_r j).2.2.2.2 [])).map (fun q => q.1) = some (.int v) from h)
    cases h2
    exact en_at_in (of_decide_eq_true (en_ck_ok (ck_K_all _) h1))
  · obtain ⟨⟨w, ps⟩, h1, h2⟩ := en_mapS (show (en_gk2 x (pg_K.getD (pg_r j).2.2.2.2 [])).map (fun q => q.1) = some (.long v) from h)
    cases h2
    exact en_at_in (of_decide_eq_true (en_ck_ok (ck_K_all _) h1))
theorem pg_okN : en_okN pg_P pg_O vwCl pg_Ts := by
  intro j x ci h
  obtain ⟨⟨ci', ps⟩, h1, h2⟩ := en_mapS (show (en_gk2 x (pg_N.getD (pg_r j).2.2.2.2 [])).map (fun q => q.1) = some ci from h)
  cases h2
  have hc := en_ck_ok (ck_N_all _) h1
  unfold ck_N at hc
  dsimp only at hc
  split at hc
  · rename_i C T N hcl
    exact ⟨C, T, N, hcl, en_at_in (of_decide_eq_true hc)⟩
  · cases hc
theorem pg_okA : en_okA pg_P pg_O pg_Ts := by
  intro j x t h
  obtain ⟨⟨t', ps⟩, h1, h2⟩ := en_mapS (show (en_gk2 x (pg_A.getD (pg_r j).2.2.2.2 [])).map (fun q => q.1) = some t from h)
  cases h2
  have hc := en_ck_ok (ck_A_all _) h1
  unfold ck_A at hc
  dsimp only at hc
  split at hc
  · rename_i C hC
    simp only [Bool.and_eq_true, Bool.or_eq_true, decide_eq_true_eq] at hc
    refine ⟨C, hC, en_at_in hc.1, ?_⟩
    rcases hc.2 with rfl | rfl
    · decide +kernel
    · decide +kernel
  · cases hc
theorem pg_okG : en_okG pg_P pg_O pg_SN pg_Ts := by
  intro j x k h
  obtain ⟨⟨k', ps⟩, h1, h2⟩ := en_mapS (show (en_gk2 x (pg_G.getD (pg_r j).2.2.2.2 [])).map (fun q => q.1) = some k from h)
  cases h2
  have hc := en_ck_ok (ck_G_all _) h1
  unfold ck_G at hc
  dsimp only at hc
  split at hc
  · rename_i C n d hs
    exact ⟨C, n, d, hs, en_at_in (of_decide_eq_true hc)⟩
  · cases hc
theorem pg_okT : en_okT pg_Ts := ⟨en_at_in (q := (1, 71)) (by decide +kernel), en_at_in (q := (9, 223)) (by decide +kernel), en_at_in (q := (1, 131)) (by decide +kernel), en_at_in (q := (9, 224)) (by decide +kernel)⟩
theorem pg_okR : en_okR pg_cr vwCl := by
  intro t ht
  rcases ht with rfl | rfl
  · exact ⟨(RX6, TX6, 4), rfl, rfl⟩
  · exact ⟨(RX1, TX1, 13), rfl, rfl⟩
theorem pg_okO : en_okO pg_P pg_O pg_Ts := by
  refine ⟨fun j x h => ?_, en_at_in (q := (1, 23)) (by decide +kernel), en_at_in (q := (1, 24)) rfl⟩
  obtain ⟨⟨w, ps⟩, h1, h2⟩ := en_mapS (show (en_gk2 x (pg_L.getD (pg_r j).2.2.2.2 [])).map (fun q => q.1) = some (4, 0) from h)
  cases h2
  exact en_at_in (of_decide_eq_true (en_ck_ok (ck_L_all _) h1))
theorem pg_okY : en_okY pg_P pg_O pg_Ts := by
  refine ⟨fun j x h => ?_, en_at_in (q := (4, 37)) (by decide +kernel), en_at_in (q := (4, 36)) (by decide +kernel), en_at_in (q := (1, 16)) (by decide +kernel)⟩
  obtain ⟨⟨w, ps⟩, h1, h2⟩ := en_mapS (show (en_gk2 x (pg_L.getD (pg_r j).2.2.2.2 [])).map (fun q => q.1) = some (5, 0) from h)
  cases h2
  exact en_at_in (of_decide_eq_true (en_ck_ok (ck_L_all _) h1))
theorem pg_okH : en_okH pg_P pg_O pg_Ts := by
  refine ⟨fun j x => ⟨fun h => ?_, fun h => ?_, fun h => ?_, fun h => ?_⟩, ⟨en_at_in (q := (1, 32)) (by decide +kernel), en_at_in (q := (4, 33)) (by decide +kernel), en_at_in (q := (7, 43)) (by decide +kernel), en_at_in (q := (6, 80)) (by decide +kernel)⟩, en_at_in (q := (1, 3)) (by decide +kernel), ⟨en_at_in (q := (1, 33)) rfl, en_at_in (q := (4, 34)) rfl, en_at_in (q := (7, 44)) rfl, en_at_in (q := (6, 81)) rfl⟩⟩
  · obtain ⟨⟨w, ps⟩, h1, h2⟩ := en_mapS (show (en_gk2 x (pg_L.getD (pg_r j).2.2.2.2 [])).map (fun q => q.1) = some (6, 0) from h)
    cases h2
    exact en_at_in (of_decide_eq_true (en_ck_ok (ck_L_all _) h1))
  · obtain ⟨⟨w, ps⟩, h1, h2⟩ := en_mapS (show (en_gk2 x (pg_L.getD (pg_r j).2.2.2.2 [])).map (fun q => q.1) = some (7, 0) from h)
    cases h2
    exact en_at_in (of_decide_eq_true (en_ck_ok (ck_L_all _) h1))
  · obtain ⟨⟨w, ps⟩, h1, h2⟩ := en_mapS (show (en_gk2 x (pg_L.getD (pg_r j).2.2.2.2 [])).map (fun q => q.1) = some (8, 0) from h)
    cases h2
    exact en_at_in (of_decide_eq_true (en_ck_ok (ck_L_all _) h1))
  · obtain ⟨⟨w, ps⟩, h1, h2⟩ := en_mapS (show (en_gk2 x (pg_L.getD (pg_r j).2.2.2.2 [])).map (fun q => q.1) = some (9, 0) from h)
    cases h2
    exact en_at_in (of_decide_eq_true (en_ck_ok (ck_L_all _) h1))
theorem pg_okC1 {ci : Nat} {C : String} {T : u_T} {N : Nat} (hcl : vwCl[ci]? = some (C, T, N)) (hc : ck_C ci = true) (hty : ∀ k, k < N → parseFieldDescriptor (T k).2.2.1 = some ((pg_tyl.getD ci (fun _ => .int)) k)) (hnm : ∀ a, a < N → ∀ b, b < N → a ≠ b → (T a).2.1 ≠ (T b).2.1) (hmap : ∀ ad : Nat → Nat, (pg_Dl.getD ci []).map (en_v ad) = pg_Dl.getD ci []) : (∀ w ∈ u_ws C T N, w ∈ pg_Ts) ∧ (∃ ty0 : Nat → FieldType, (∀ k, k < N → parseFieldDescriptor (T k).2.2.1 = some (ty0 k)) ∧ ∀ q, q < N → defaultValue (ty0 q) = vp_V (en_pD pg_P ci) q) ∧ (∀ a, a < N → ∀ b, b < N → a ≠ b → (T a).2.1 ≠ (T b).2.1) ∧ (en_pD pg_P ci).length = N ∧ (∀ ad : Nat → Nat, (en_pD pg_P ci).map (en_v ad) = en_pD pg_P ci) ∧ Cond.instantiable C N ∈ pg_Ts ∧ Cond.initialized C ∈ pg_Ts := by
  unfold ck_C at hc
  rw [hcl] at hc
  dsimp only at hc
  simp only [Bool.and_eq_true, decide_eq_true_eq] at hc
  obtain ⟨c1, c2, c3, c4, c5, -⟩ := hc
  refine ⟨fun w hw => ?_, ⟨_, hty, fun q hq => ?_⟩, hnm, Nat.eq_of_beq_eq_true c3, hmap, en_at_in c4, en_at_in c5⟩
  · unfold u_ws at hw
    obtain ⟨k, hk, rfl⟩ := List.mem_map.mp hw
    exact en_at_in (of_decide_eq_true (List.all_eq_true.mp c1 k hk)) (by unfold u_lay; split <;> rfl)
  · exact of_decide_eq_true (List.all_eq_true.mp c2 q (List.mem_range.mpr hq))
theorem pg_okC : en_okC pg_P vwCl pg_Ts := by
  intro ci C T N h
  match ci, h with
  | 0, h => cases h; exact pg_okC1 (ci := 0) rfl ck_C_0 tyX0_ok nmX0 (fun _ => rfl)
  | 1, h => cases h; exact pg_okC1 (ci := 1) rfl ck_C_1 tyX1_ok nmX1 (fun _ => rfl)
  | 2, h => cases h; exact pg_okC1 (ci := 2) rfl ck_C_2 tyX2_ok nmX2 (fun _ => rfl)
  | 3, h => cases h; exact pg_okC1 (ci := 3) rfl ck_C_3 tyX3_ok nmX3 (fun _ => rfl)
  | 4, h => cases h; exact pg_okC1 (ci := 4) rfl ck_C_4 tyX4_ok nmX4 (fun _ => rfl)
  | 5, h => cases h; exact pg_okC1 (ci := 5) rfl ck_C_5 tyX5_ok nmX5 (fun _ => rfl)
  | 6, h => cases h; exact pg_okC1 (ci := 6) rfl ck_C_6 tyX6_ok nmX6 (fun _ => rfl)
  | 7, h => cases h; exact pg_okC1 (ci := 7) rfl ck_C_7 tyX7_ok nmX7 (fun _ => rfl)
  | 8, h => cases h; exact pg_okC1 (ci := 8) rfl ck_C_8 tyX8_ok nmX8 (fun _ => rfl)
  | 9, h => cases h; exact pg_okC1 (ci := 9) rfl ck_C_9 tyX9_ok nmX9 (fun _ => rfl)
  | 10, h => cases h; exact pg_okC1 (ci := 10) rfl ck_C_10 tyX10_ok nmX10 (fun _ => rfl)
  | 11, h => cases h; exact pg_okC1 (ci := 11) rfl ck_C_11 tyX11_ok nmX11 (fun _ => rfl)
  | 12, h => cases h; exact pg_okC1 (ci := 12) rfl ck_C_12 tyX12_ok nmX12 (fun _ => rfl)
  | n + 13, h => exact absurd (List.getElem?_eq_some_iff.mp h).1 (by show ¬ n + 13 < 13; omega)
theorem pg_okI1 : pg_all.all (fun L => L.all (fun m => Nat.beq m.2.2.1.2.1 0 || Nat.beq m.2.2.1.2.1 (m.2.2.2.2 + 1))) = true := by decide +kernel
theorem pg_okI : en_okI pg_P pg_O vwCl := by
  intro j ci q hj hq
  have h := en_n2_ok (LL := pg_all) (d := pg_0) (p := fun m => (Nat.beq m.2.2.1.2.1 0 || Nat.beq m.2.2.1.2.1 (m.2.2.2.2 + 1)) = true) (fun L hL m hm => List.all_eq_true.mp (List.all_eq_true.mp pg_okI1 L hL) m hm) (by decide +kernel) j
  rw [Bool.or_eq_true] at h
  have hj' : (pg_r j).2.2.1.2.1 = ci + 1 := hj
  have ho : (pg_r j).2.2.2.2 = ci := by
    rcases h with h | h
    · have e : (pg_r j).2.2.1.2.1 = 0 := Nat.eq_of_beq_eq_true h
      omega
    · have e : (pg_r j).2.2.1.2.1 = (pg_r j).2.2.2.2 + 1 := Nat.eq_of_beq_eq_true h
      omega
  show pg_on (pg_r j).2.2.2.2 = q.1
  rw [ho]
  obtain ⟨C, T, N⟩ := q
  match ci, hq with
  | 0, hq => cases hq; rfl
  | 1, hq => cases hq; rfl
  | 2, hq => cases hq; rfl
  | 3, hq => cases hq; rfl
  | 4, hq => cases hq; rfl
  | 5, hq => cases hq; rfl
  | 6, hq => cases hq; rfl
  | 7, hq => cases hq; rfl
  | 8, hq => cases hq; rfl
  | 9, hq => cases hq; rfl
  | 10, hq => cases hq; rfl
  | 11, hq => cases hq; rfl
  | 12, hq => cases hq; rfl
  | n + 13, hq => exact absurd (List.getElem?_eq_some_iff.mp hq).1 (by show ¬ n + 13 < 13; omega)
theorem pg_Ok : en_Ok pg_P pg_O vwCl pg_SN pg_cr pg_Ts := ⟨pg_okF, pg_okC, pg_okI, pg_okK, pg_okN, pg_okA, pg_okT, pg_okG, pg_okR, pg_okO, pg_okY, pg_okH⟩
set_option maxHeartbeats 4000000 in
theorem pg_okM : en_okM pg_P pg_O pg_B pg_Y vwCl pg_Ts := by
  intro j x kd j' h hkd
  obtain ⟨⟨⟨kd', j2⟩, ps⟩, h1, h2⟩ := en_mapS (show (en_gk2 x (pg_L.getD (pg_r j).2.2.2.2 [])).map (fun q => q.1) = some (kd, j') from h)
  cases h2
  have hc := en_ck_ok (ck_L_all _) h1
  have hmm : ∀ (hlt : j' < 429) (h0 : 0 < j') (hnm : ¬ (pg_Y j').cls = "java/lang/Math"), (Cond.code (pg_Y j') (pg_B j') (en_ml pg_P j') (en_rt pg_P j') ∈ pg_Ts ∧ Cond.initialized (pg_Y j').cls ∈ pg_Ts ∧ ((pg_Y j').cls ≠ "java/lang/invoke/MethodHandle" ∧ (pg_Y j').cls ≠ "java/lang/invoke/VarHandle" ∧ (parseMethodDescriptor (pg_Y j').desc).map (fun d => d.parameters.length) = some (en_na pg_P j')) ∧ plainName (pg_Y j').cls = true ∧ pg_O j' = (pg_Y j').cls ∧ (∀ z, en_ini pg_P j' = z + 1 → (pg_Y j').name = "<init>")) ∧ en_oc pg_P j' = (pg_r j').2.2.2.2 := fun hlt h0 hnm => by
    have hm := ck_m_all h0 hlt
    unfold ck_m at hm
    simp only [Bool.and_eq_true, Bool.or_eq_true, decide_eq_true_eq, Bool.not_eq_true'] at hm
    have hm := hm.resolve_left hnm
    obtain ⟨m1, m2, m3, m4, m5, ⟨m6, m7⟩, m8, m9⟩ := hm
    refine ⟨⟨?_, en_at_in m1, ⟨m2, m3, m4⟩, m5, m6, fun z hz => ?_⟩, Nat.eq_of_beq_eq_true m9⟩
    · rcases pg_codes j' with q | q
      · rw [q] at m8
        cases m8
      · exact q
    · rcases m7 with q | q
      · have := Nat.eq_of_beq_eq_true q
        omega
      · exact q
  match kd, hkd with
  | 0, _ =>
    unfold ck_L at hc
    simp only [Bool.and_eq_true, decide_eq_true_eq, Bool.not_eq_true', decide_eq_false_iff_not] at hc
    obtain ⟨⟨⟨⟨c0, c1⟩, cM⟩, c2⟩, c3⟩ := hc
    have hlt : j' < 429 := Nat.le_of_ble_eq_true c1
    exact ⟨(hmm hlt (Nat.le_of_ble_eq_true c0) cM).1, fun _ => ⟨en_at_in c2, en_at_in c3⟩, (fun q => by cases q), (fun q => by cases q), (fun q => by cases q)⟩
  | 1, _ =>
    unfold ck_L at hc
    simp only [Bool.and_eq_true, decide_eq_true_eq, Bool.not_eq_true', decide_eq_false_iff_not] at hc
    obtain ⟨⟨⟨⟨c0, c1⟩, cM⟩, c2⟩, c3, c4, c5⟩ := hc
    have hlt : j' < 429 := Nat.le_of_ble_eq_true c1
    have hm := hmm hlt (Nat.le_of_ble_eq_true c0) cM
    refine ⟨hm.1, (fun q => by cases q), fun _ => ⟨en_at_in c2, en_at_in c3, en_at_in c4, ?_⟩, (fun q => by cases q), (fun q => by cases q)⟩
    have ho : pg_on (pg_r j').2.2.2.2 = (pg_Y j').cls := hm.1.2.2.2.2.1
    have hl : (pg_r j').2.2.2.2 < 13 := Nat.le_of_ble_eq_true c5
    rw [hm.2]
    rw [← ho]
    revert hl
    generalize (pg_r j').2.2.2.2 = o
    intro hl
    rcases (show o = 0 ∨ o = 1 ∨ o = 2 ∨ o = 3 ∨ o = 4 ∨ o = 5 ∨ o = 6 ∨ o = 7 ∨ o = 8 ∨ o = 9 ∨ o = 10 ∨ o = 11 ∨ o = 12 by omega) with rfl | rfl | rfl | rfl | rfl | rfl | rfl | rfl | rfl | rfl | rfl | rfl | rfl
    · exact ⟨TX0, 15, rfl⟩
    · exact ⟨TX1, 13, rfl⟩
    · exact ⟨TX2, 4, rfl⟩
    · exact ⟨TX3, 16, rfl⟩
    · exact ⟨TX4, 15, rfl⟩
    · exact ⟨TX5, 9, rfl⟩
    · exact ⟨TX6, 4, rfl⟩
    · exact ⟨TX7, 12, rfl⟩
    · exact ⟨TX8, 16, rfl⟩
    · exact ⟨TX9, 10, rfl⟩
    · exact ⟨TX10, 13, rfl⟩
    · exact ⟨TX11, 19, rfl⟩
    · exact ⟨TX12, 134, rfl⟩
  | 2, _ =>
    unfold ck_L at hc
    simp only [Bool.and_eq_true, decide_eq_true_eq, Bool.not_eq_true', decide_eq_false_iff_not] at hc
    obtain ⟨⟨⟨⟨c0, c1⟩, cM⟩, c2⟩, c3, c4, c5⟩ := hc
    have hlt : j' < 429 := Nat.le_of_ble_eq_true c1
    exact ⟨(hmm hlt (Nat.le_of_ble_eq_true c0) cM).1, (fun q => by cases q), (fun q => by cases q), fun _ => ⟨en_at_in c2, en_at_in c3, c4, c5⟩, (fun q => by cases q)⟩
  | 3, _ =>
    unfold ck_L at hc
    simp only [Bool.and_eq_true, decide_eq_true_eq, Bool.not_eq_true', decide_eq_false_iff_not] at hc
    obtain ⟨⟨⟨⟨c0, c1⟩, cM⟩, c2⟩, c3, c4, c5⟩ := hc
    have hlt : j' < 429 := Nat.le_of_ble_eq_true c1
    exact ⟨(hmm hlt (Nat.le_of_ble_eq_true c0) cM).1, (fun q => by cases q), (fun q => by cases q), (fun q => by cases q), fun _ => ⟨_, c2, en_at_in c3, c4, c5⟩⟩
  | n + 4, hn => exact absurd hn (by omega)
