/-! the checks, by evaluation -/
theorem ck_F_0 : en_ck pg_F ck_F 0 = true := by decide +kernel
theorem ck_F_1 : en_ck pg_F ck_F 1 = true := by decide +kernel
theorem ck_F_2 : en_ck pg_F ck_F 2 = true := by decide +kernel
theorem ck_F_3 : en_ck pg_F ck_F 3 = true := by decide +kernel
theorem ck_F_4 : en_ck pg_F ck_F 4 = true := by decide +kernel
theorem ck_F_5 : en_ck pg_F ck_F 5 = true := by decide +kernel
theorem ck_F_6 : en_ck pg_F ck_F 6 = true := by decide +kernel
theorem ck_F_7 : en_ck pg_F ck_F 7 = true := by decide +kernel
theorem ck_F_8 : en_ck pg_F ck_F 8 = true := by decide +kernel
theorem ck_F_9 : en_ck pg_F ck_F 9 = true := by decide +kernel
theorem ck_F_10 : en_ck pg_F ck_F 10 = true := by decide +kernel
theorem ck_F_11 : en_ck pg_F ck_F 11 = true := by decide +kernel
theorem ck_F_12 : en_ck pg_F ck_F 12 = true := by decide +kernel
theorem ck_F_13 : en_ck pg_F ck_F 13 = true := by decide +kernel
theorem ck_F_14 : en_ck pg_F ck_F 14 = true := by decide +kernel
theorem ck_F_15 : en_ck pg_F ck_F 15 = true := by decide +kernel
theorem ck_K_0 : en_ck pg_K ck_K 0 = true := by decide +kernel
theorem ck_K_1 : en_ck pg_K ck_K 1 = true := by decide +kernel
theorem ck_K_2 : en_ck pg_K ck_K 2 = true := by decide +kernel
theorem ck_K_3 : en_ck pg_K ck_K 3 = true := by decide +kernel
theorem ck_K_4 : en_ck pg_K ck_K 4 = true := by decide +kernel
theorem ck_K_5 : en_ck pg_K ck_K 5 = true := by decide +kernel
theorem ck_K_6 : en_ck pg_K ck_K 6 = true := by decide +kernel
theorem ck_K_7 : en_ck pg_K ck_K 7 = true := by decide +kernel
theorem ck_K_8 : en_ck pg_K ck_K 8 = true := by decide +kernel
theorem ck_K_9 : en_ck pg_K ck_K 9 = true := by decide +kernel
theorem ck_K_10 : en_ck pg_K ck_K 10 = true := by decide +kernel
theorem ck_K_11 : en_ck pg_K ck_K 11 = true := by decide +kernel
theorem ck_K_12 : en_ck pg_K ck_K 12 = true := by decide +kernel
theorem ck_K_13 : en_ck pg_K ck_K 13 = true := by decide +kernel
theorem ck_K_14 : en_ck pg_K ck_K 14 = true := by decide +kernel
theorem ck_K_15 : en_ck pg_K ck_K 15 = true := by decide +kernel
theorem ck_N_0 : en_ck pg_N ck_N 0 = true := by decide +kernel
theorem ck_N_1 : en_ck pg_N ck_N 1 = true := by decide +kernel
theorem ck_N_2 : en_ck pg_N ck_N 2 = true := by decide +kernel
theorem ck_N_3 : en_ck pg_N ck_N 3 = true := by decide +kernel
theorem ck_N_4 : en_ck pg_N ck_N 4 = true := by decide +kernel
theorem ck_N_5 : en_ck pg_N ck_N 5 = true := by decide +kernel
theorem ck_N_6 : en_ck pg_N ck_N 6 = true := by decide +kernel
theorem ck_N_7 : en_ck pg_N ck_N 7 = true := by decide +kernel
theorem ck_N_8 : en_ck pg_N ck_N 8 = true := by decide +kernel
theorem ck_N_9 : en_ck pg_N ck_N 9 = true := by decide +kernel
theorem ck_N_10 : en_ck pg_N ck_N 10 = true := by decide +kernel
theorem ck_N_11 : en_ck pg_N ck_N 11 = true := by decide +kernel
theorem ck_N_12 : en_ck pg_N ck_N 12 = true := by decide +kernel
theorem ck_N_13 : en_ck pg_N ck_N 13 = true := by decide +kernel
theorem ck_N_14 : en_ck pg_N ck_N 14 = true := by decide +kernel
theorem ck_N_15 : en_ck pg_N ck_N 15 = true := by decide +kernel
theorem ck_A_0 : en_ck pg_A ck_A 0 = true := by decide +kernel
theorem ck_A_1 : en_ck pg_A ck_A 1 = true := by decide +kernel
theorem ck_A_2 : en_ck pg_A ck_A 2 = true := by decide +kernel
theorem ck_A_3 : en_ck pg_A ck_A 3 = true := by decide +kernel
theorem ck_A_4 : en_ck pg_A ck_A 4 = true := by decide +kernel
theorem ck_A_5 : en_ck pg_A ck_A 5 = true := by decide +kernel
theorem ck_A_6 : en_ck pg_A ck_A 6 = true := by decide +kernel
theorem ck_A_7 : en_ck pg_A ck_A 7 = true := by decide +kernel
theorem ck_A_8 : en_ck pg_A ck_A 8 = true := by decide +kernel
theorem ck_A_9 : en_ck pg_A ck_A 9 = true := by decide +kernel
theorem ck_A_10 : en_ck pg_A ck_A 10 = true := by decide +kernel
theorem ck_A_11 : en_ck pg_A ck_A 11 = true := by decide +kernel
theorem ck_A_12 : en_ck pg_A ck_A 12 = true := by decide +kernel
theorem ck_A_13 : en_ck pg_A ck_A 13 = true := by decide +kernel
theorem ck_A_14 : en_ck pg_A ck_A 14 = true := by decide +kernel
theorem ck_A_15 : en_ck pg_A ck_A 15 = true := by decide +kernel
theorem ck_G_0 : en_ck pg_G ck_G 0 = true := by decide +kernel
theorem ck_G_1 : en_ck pg_G ck_G 1 = true := by decide +kernel
theorem ck_G_2 : en_ck pg_G ck_G 2 = true := by decide +kernel
theorem ck_G_3 : en_ck pg_G ck_G 3 = true := by decide +kernel
theorem ck_G_4 : en_ck pg_G ck_G 4 = true := by decide +kernel
theorem ck_G_5 : en_ck pg_G ck_G 5 = true := by decide +kernel
theorem ck_G_6 : en_ck pg_G ck_G 6 = true := by decide +kernel
theorem ck_G_7 : en_ck pg_G ck_G 7 = true := by decide +kernel
theorem ck_G_8 : en_ck pg_G ck_G 8 = true := by decide +kernel
theorem ck_G_9 : en_ck pg_G ck_G 9 = true := by decide +kernel
theorem ck_G_10 : en_ck pg_G ck_G 10 = true := by decide +kernel
theorem ck_G_11 : en_ck pg_G ck_G 11 = true := by decide +kernel
theorem ck_G_12 : en_ck pg_G ck_G 12 = true := by decide +kernel
theorem ck_G_13 : en_ck pg_G ck_G 13 = true := by decide +kernel
theorem ck_G_14 : en_ck pg_G ck_G 14 = true := by decide +kernel
theorem ck_G_15 : en_ck pg_G ck_G 15 = true := by decide +kernel
theorem ck_L_0 : en_ck pg_L ck_L 0 = true := by decide +kernel
theorem ck_L_1 : en_ck pg_L ck_L 1 = true := by decide +kernel
theorem ck_L_2 : en_ck pg_L ck_L 2 = true := by decide +kernel
theorem ck_L_3 : en_ck pg_L ck_L 3 = true := by decide +kernel
theorem ck_L_4 : en_ck pg_L ck_L 4 = true := by decide +kernel
theorem ck_L_5 : en_ck pg_L ck_L 5 = true := by decide +kernel
theorem ck_L_6 : en_ck pg_L ck_L 6 = true := by decide +kernel
theorem ck_L_7 : en_ck pg_L ck_L 7 = true := by decide +kernel
theorem ck_L_8 : en_ck pg_L ck_L 8 = true := by decide +kernel
theorem ck_L_9 : en_ck pg_L ck_L 9 = true := by decide +kernel
theorem ck_L_10 : en_ck pg_L ck_L 10 = true := by decide +kernel
theorem ck_L_11 : en_ck pg_L ck_L 11 = true := by decide +kernel
theorem ck_L_12 : en_ck pg_L ck_L 12 = true := by decide +kernel
theorem ck_L_13 : en_ck pg_L ck_L 13 = true := by decide +kernel
theorem ck_L_14 : en_ck pg_L ck_L 14 = true := by decide +kernel
theorem ck_L_15 : en_ck pg_L ck_L 15 = true := by decide +kernel
theorem ck_C_0 : ck_C 0 = true := by decide +kernel
theorem ck_C_1 : ck_C 1 = true := by decide +kernel
theorem ck_C_2 : ck_C 2 = true := by decide +kernel
theorem ck_C_3 : ck_C 3 = true := by decide +kernel
theorem ck_C_4 : ck_C 4 = true := by decide +kernel
theorem ck_C_5 : ck_C 5 = true := by decide +kernel
theorem ck_C_6 : ck_C 6 = true := by decide +kernel
theorem ck_C_7 : ck_C 7 = true := by decide +kernel
theorem ck_C_8 : ck_C 8 = true := by decide +kernel
theorem ck_C_9 : ck_C 9 = true := by decide +kernel
theorem ck_C_10 : ck_C 10 = true := by decide +kernel
theorem ck_C_11 : ck_C 11 = true := by decide +kernel
theorem ck_C_12 : ck_C 12 = true := by decide +kernel
theorem ck_m_0 : (List.range 31).all (fun i => ck_m (1 + i)) = true := by decide +kernel
theorem ck_m_1 : (List.range 32).all (fun i => ck_m (32 + i)) = true := by decide +kernel
theorem ck_m_2 : (List.range 32).all (fun i => ck_m (64 + i)) = true := by decide +kernel
theorem ck_m_3 : (List.range 32).all (fun i => ck_m (96 + i)) = true := by decide +kernel
theorem ck_m_4 : (List.range 32).all (fun i => ck_m (128 + i)) = true := by decide +kernel
theorem ck_m_5 : (List.range 32).all (fun i => ck_m (160 + i)) = true := by decide +kernel
theorem ck_m_6 : (List.range 32).all (fun i => ck_m (192 + i)) = true := by decide +kernel
theorem ck_m_7 : (List.range 32).all (fun i => ck_m (224 + i)) = true := by decide +kernel
theorem ck_m_8 : (List.range 32).all (fun i => ck_m (256 + i)) = true := by decide +kernel
theorem ck_m_9 : (List.range 32).all (fun i => ck_m (288 + i)) = true := by decide +kernel
theorem ck_m_10 : (List.range 32).all (fun i => ck_m (320 + i)) = true := by decide +kernel
theorem ck_m_11 : (List.range 32).all (fun i => ck_m (352 + i)) = true := by decide +kernel
theorem ck_m_12 : (List.range 32).all (fun i => ck_m (384 + i)) = true := by decide +kernel
theorem ck_m_13 : (List.range 13).all (fun i => ck_m (416 + i)) = true := by decide +kernel
