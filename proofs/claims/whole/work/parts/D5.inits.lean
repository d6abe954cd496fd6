/-! the making: the constructors -/
theorem k_X2_init_2 {X : qX} {d : Nat} : Run X (d + 1) 6 116 mX2_init [(2, 2)] (cS 3, cP_1, cH_0) (fun r g => r = none ∧ g = (cS 9, cP_7, cH_4)) := by
  show Ev X (d + 1) 6 116 mX2_init 0 [(2, 2)] [] (cS 3, cP_1, cH_0) _
  refine ev_aload_n 1 rfl dX2_init_0 rfl rfl ?_
  refine ev_objInit 4 rfl dX2_init_1 lo_2_5 (by decide) (Nat.le_of_ble_eq_true rfl) (Nat.succ_le_succ (Nat.zero_le _)) ?_
  refine ev_aload_n 5 rfl dX2_init_4 rfl rfl ?_
  refine ev_bipush 7 rfl dX2_init_5 (by decide) (by decide) ?_
  refine en_arr (kd := 0) (ms := 20) (by decide) 3 3 rfl (by decide) rfl rfl (lowR_mo (by decide) rP_1) (lowR_mo (by decide) rH_0) 9 rfl dX2_init_7 (by decide) (by decide) ?_
  refine en_putR (ki := 0) cP_2 rfl 12 rfl dX2_init_9 lf_2_11 (Or.inr ⟨rfl, fun q e => by cases e; rfl⟩) (cS_at (k := 2) rfl (by decide) rfl) (by decide) rfl ?_
  refine ev_aload_n 13 rfl dX2_init_12 rfl rfl ?_
  refine ev_bipush 15 rfl dX2_init_13 (by decide) (by decide) ?_
  refine en_arr (kd := 0) (ms := 20) (by decide) 4 4 rfl (by decide) rfl rfl (lowR_mo (by decide) rP_2) (lowR_mo (by decide) rH_0) 17 rfl dX2_init_15 (by decide) (by decide) ?_
  refine en_putR (ki := 1) cP_3 rfl 20 rfl dX2_init_17 lf_2_15 (Or.inr ⟨rfl, fun q e => by cases e; rfl⟩) (cS_at (k := 2) rfl (by decide) rfl) (by decide) rfl ?_
  refine ev_aload_n 21 rfl dX2_init_20 rfl rfl ?_
  refine ev_bipush 23 rfl dX2_init_21 (by decide) (by decide) ?_
  refine en_arr (kd := 0) (ms := 20) (by decide) 5 5 rfl (by decide) rfl rfl (lowR_mo (by decide) rP_3) (lowR_mo (by decide) rH_0) 25 rfl dX2_init_23 (by decide) (by decide) ?_
  refine en_putR (ki := 2) cP_4 rfl 28 rfl dX2_init_25 lf_2_18 (Or.inr ⟨rfl, fun q e => by cases e; rfl⟩) (cS_at (k := 2) rfl (by decide) rfl) (by decide) rfl ?_
  refine ev_aload_n 29 rfl dX2_init_28 rfl rfl ?_
  refine ev_iconst 30 rfl dX2_init_29 (by decide) ?_
  refine en_putI (ki := 3) cH_1 rfl 33 rfl dX2_init_30 lf_2_21 (Or.inl rfl) (cS_at (k := 2) rfl (by decide) rfl) (by decide) rfl ?_
  refine ev_aload_n 34 rfl dX2_init_33 rfl rfl ?_
  refine ev_bipush 36 rfl dX2_init_34 (by decide) (by decide) ?_
  refine en_arr (kd := 1) (ms := 40) (by decide) 6 6 rfl (by decide) rfl rfl (lowR_mo (by decide) rP_4) (lowR_mo (by decide) rH_1) 38 rfl dX2_init_36 (by decide) (by decide) ?_
  refine en_putR (ki := 4) cP_5 rfl 41 rfl dX2_init_38 lf_2_25 (Or.inr ⟨rfl, fun q e => by cases e; rfl⟩) (cS_at (k := 2) rfl (by decide) rfl) (by decide) rfl ?_
  refine ev_aload_n 42 rfl dX2_init_41 rfl rfl ?_
  refine ev_iconst 43 rfl dX2_init_42 (by decide) ?_
  refine en_putI (ki := 5) cH_2 rfl 46 rfl dX2_init_43 lf_2_29 (Or.inl rfl) (cS_at (k := 2) rfl (by decide) rfl) (by decide) rfl ?_
  refine ev_aload_n 47 rfl dX2_init_46 rfl rfl ?_
  refine ev_bipush 49 rfl dX2_init_47 (by decide) (by decide) ?_
  refine en_arr (kd := 1) (ms := 8) (by decide) 7 7 rfl (by decide) rfl rfl (lowR_mo (by decide) rP_5) (lowR_mo (by decide) rH_2) 51 rfl dX2_init_49 (by decide) (by decide) ?_
  refine en_putR (ki := 6) cP_6 rfl 54 rfl dX2_init_51 lf_2_32 (Or.inr ⟨rfl, fun q e => by cases e; rfl⟩) (cS_at (k := 2) rfl (by decide) rfl) (by decide) rfl ?_
  refine ev_aload_n 55 rfl dX2_init_54 rfl rfl ?_
  refine ev_bipush 57 rfl dX2_init_55 (by decide) (by decide) ?_
  refine en_arr (kd := 0) (ms := 8) (by decide) 8 8 rfl (by decide) rfl rfl (lowR_mo (by decide) rP_6) (lowR_mo (by decide) rH_2) 59 rfl dX2_init_57 (by decide) (by decide) ?_
  refine en_putR (ki := 7) cP_7 rfl 62 rfl dX2_init_59 lf_2_35 (Or.inr ⟨rfl, fun q e => by cases e; rfl⟩) (cS_at (k := 2) rfl (by decide) rfl) (by decide) rfl ?_
  refine ev_aload_n 63 rfl dX2_init_62 rfl rfl ?_
  refine ev_iconst 64 rfl dX2_init_63 (by decide) ?_
  refine en_putI (ki := 8) cH_3 rfl 67 rfl dX2_init_64 lf_2_38 (Or.inl rfl) (cS_at (k := 2) rfl (by decide) rfl) (by decide) rfl ?_
  refine ev_aload_n 68 rfl dX2_init_67 rfl rfl ?_
  refine ev_iconst 69 rfl dX2_init_68 (by decide) ?_
  refine en_putI (ki := 9) cH_4 rfl 72 rfl dX2_init_69 lf_2_41 (Or.inl rfl) (cS_at (k := 2) rfl (by decide) rfl) (by decide) rfl ?_
  exact ev_return dX2_init_72 rfl ⟨rfl, rfl⟩
theorem k_X4_init_9 {X : qX} {d : Nat} : Run X (d + 1) 2 503 mX4_init [(2, 9)] (cS 10, cP_8, cH_4) (fun r g => r = none ∧ g = (cS 12, cP_10, cH_17)) := by
  show Ev X (d + 1) 2 503 mX4_init 0 [(2, 9)] [] (cS 10, cP_8, cH_4) _
  refine ev_aload_n 1 rfl dX4_init_0 rfl rfl ?_
  refine ev_objInit 4 rfl dX4_init_1 lo_4_3 (by decide) (Nat.le_of_ble_eq_true rfl) (Nat.succ_le_succ (Nat.zero_le _)) ?_
  refine ev_aload_n 5 rfl dX4_init_4 rfl rfl ?_
  refine ev_sipush 8 rfl dX4_init_5 (by decide) (by decide) ?_
  refine en_arr (kd := 0) (ms := 500) (by decide) 10 10 rfl (by decide) rfl rfl (lowR_mo (by decide) rP_8) (lowR_mo (by decide) rH_4) 10 rfl dX4_init_8 (by decide) (by decide) ?_
  refine en_putR (ki := 0) cP_9 rfl 13 rfl dX4_init_10 lf_4_11 (Or.inr ⟨rfl, fun q e => by cases e; rfl⟩) (cS_at (k := 9) rfl (by decide) rfl) (by decide) rfl ?_
  refine ev_aload_n 14 rfl dX4_init_13 rfl rfl ?_
  refine ev_iconst 15 rfl dX4_init_14 (by decide) ?_
  refine en_putI (ki := 1) cH_5 rfl 18 rfl dX4_init_15 lf_4_15 (Or.inl rfl) (cS_at (k := 9) rfl (by decide) rfl) (by decide) rfl ?_
  refine ev_aload_n 19 rfl dX4_init_18 rfl rfl ?_
  refine ev_iconst 20 rfl dX4_init_19 (by decide) ?_
  refine en_putI (ki := 2) cH_6 rfl 23 rfl dX4_init_20 lf_4_19 (Or.inl rfl) (cS_at (k := 9) rfl (by decide) rfl) (by decide) rfl ?_
  refine ev_aload_n 24 rfl dX4_init_23 rfl rfl ?_
  refine ev_iconst 25 rfl dX4_init_24 (by decide) ?_
  refine en_putI (ki := 3) cH_7 rfl 28 rfl dX4_init_25 lf_4_22 (Or.inl rfl) (cS_at (k := 9) rfl (by decide) rfl) (by decide) rfl ?_
  refine ev_aload_n 29 rfl dX4_init_28 rfl rfl ?_
  refine ev_iconst 30 rfl dX4_init_29 (by decide) ?_
  refine en_putI (ki := 4) cH_8 rfl 33 rfl dX4_init_30 lf_4_25 (Or.inl rfl) (cS_at (k := 9) rfl (by decide) rfl) (by decide) rfl ?_
  refine ev_aload_n 34 rfl dX4_init_33 rfl rfl ?_
  refine ev_iconst 35 rfl dX4_init_34 (by decide) ?_
  refine en_putI (ki := 5) cH_9 rfl 38 rfl dX4_init_35 lf_4_28 (Or.inl rfl) (cS_at (k := 9) rfl (by decide) rfl) (by decide) rfl ?_
  refine ev_aload_n 39 rfl dX4_init_38 rfl rfl ?_
  refine ev_iconst 40 rfl dX4_init_39 (by decide) ?_
  refine en_putI (ki := 6) cH_10 rfl 43 rfl dX4_init_40 lf_4_31 (Or.inl rfl) (cS_at (k := 9) rfl (by decide) rfl) (by decide) rfl ?_
  refine ev_aload_n 44 rfl dX4_init_43 rfl rfl ?_
  refine ev_iconst 45 rfl dX4_init_44 (by decide) ?_
  refine en_putI (ki := 7) cH_11 rfl 48 rfl dX4_init_45 lf_4_34 (Or.inl rfl) (cS_at (k := 9) rfl (by decide) rfl) (by decide) rfl ?_
  refine ev_aload_n 49 rfl dX4_init_48 rfl rfl ?_
  refine ev_lconst (v := 0) 50 rfl dX4_init_49 (by decide) (by decide) ?_
  refine en_putL (ki := 8) cH_12 rfl 53 rfl dX4_init_50 lf_4_37 (cS_at (k := 9) rfl (by decide) rfl) (by decide) rfl ?_
  refine ev_aload_n 54 rfl dX4_init_53 rfl rfl ?_
  refine ev_iconst 55 rfl dX4_init_54 (by decide) ?_
  refine en_putI (ki := 9) cH_13 rfl 58 rfl dX4_init_55 lf_4_41 (Or.inl rfl) (cS_at (k := 9) rfl (by decide) rfl) (by decide) rfl ?_
  refine ev_aload_n 59 rfl dX4_init_58 rfl rfl ?_
  refine ev_iconst 60 rfl dX4_init_59 (by decide) ?_
  refine en_putI (ki := 10) cH_14 rfl 63 rfl dX4_init_60 lf_4_44 (Or.inl rfl) (cS_at (k := 9) rfl (by decide) rfl) (by decide) rfl ?_
  refine ev_aload_n 64 rfl dX4_init_63 rfl rfl ?_
  refine ev_iconst 65 rfl dX4_init_64 (by decide) ?_
  refine en_putI (ki := 11) cH_15 rfl 68 rfl dX4_init_65 lf_4_47 (Or.inr ⟨rfl, by decide, by decide⟩) (cS_at (k := 9) rfl (by decide) rfl) (by decide) rfl ?_
  refine ev_aload_n 69 rfl dX4_init_68 rfl rfl ?_
  refine ev_iconst 70 rfl dX4_init_69 (by decide) ?_
  refine en_arr (kd := 0) (ms := 3) (by decide) 11 11 rfl (by decide) rfl rfl (lowR_mo (by decide) rP_9) (lowR_mo (by decide) rH_15) 72 rfl dX4_init_70 (by decide) (by decide) ?_
  refine en_putR (ki := 12) cP_10 rfl 75 rfl dX4_init_72 lf_4_51 (Or.inr ⟨rfl, fun q e => by cases e; rfl⟩) (cS_at (k := 9) rfl (by decide) rfl) (by decide) rfl ?_
  refine ev_aload_n 76 rfl dX4_init_75 rfl rfl ?_
  refine ev_iconst 77 rfl dX4_init_76 (by decide) ?_
  refine en_putI (ki := 13) cH_16 rfl 80 rfl dX4_init_77 lf_4_54 (Or.inl rfl) (cS_at (k := 9) rfl (by decide) rfl) (by decide) rfl ?_
  refine ev_aload_n 81 rfl dX4_init_80 rfl rfl ?_
  refine ev_iconst 82 rfl dX4_init_81 (by decide) ?_
  refine en_putI (ki := 14) cH_17 rfl 85 rfl dX4_init_82 lf_4_57 (Or.inl rfl) (cS_at (k := 9) rfl (by decide) rfl) (by decide) rfl ?_
  exact ev_return dX4_init_85 rfl ⟨rfl, rfl⟩
theorem k_X1_init_12 {X : qX} {d : Nat} : Run X (d + 1) 6 86 mX1_init [(2, 12)] (cS 13, cP_11, cH_17) (fun r g => r = none ∧ g = (cS 19, cP_17, cH_24)) := by
  show Ev X (d + 1) 6 86 mX1_init 0 [(2, 12)] [] (cS 13, cP_11, cH_17) _
  refine ev_aload_n 1 rfl dX1_init_0 rfl rfl ?_
  refine ev_objInit 4 rfl dX1_init_1 lo_1_5 (by decide) (Nat.le_of_ble_eq_true rfl) (Nat.succ_le_succ (Nat.zero_le _)) ?_
  refine ev_aload_n 5 rfl dX1_init_4 rfl rfl ?_
  refine ev_iconst 6 rfl dX1_init_5 (by decide) ?_
  refine en_putI (ki := 0) cH_18 rfl 9 rfl dX1_init_6 lf_1_11 (Or.inl rfl) (cS_at (k := 12) rfl (by decide) rfl) (by decide) rfl ?_
  refine ev_aload_n 10 rfl dX1_init_9 rfl rfl ?_
  refine ev_iconst 11 rfl dX1_init_10 (by decide) ?_
  refine en_putI (ki := 1) cH_19 rfl 14 rfl dX1_init_11 lf_1_15 (Or.inl rfl) (cS_at (k := 12) rfl (by decide) rfl) (by decide) rfl ?_
  refine ev_aload_n 15 rfl dX1_init_14 rfl rfl ?_
  refine ev_bipush 17 rfl dX1_init_15 (by decide) (by decide) ?_
  refine en_arr (kd := 0) (ms := 20) (by decide) 13 13 rfl (by decide) rfl rfl (lowR_mo (by decide) rP_11) (lowR_mo (by decide) rH_19) 19 rfl dX1_init_17 (by decide) (by decide) ?_
  refine en_putR (ki := 2) cP_12 rfl 22 rfl dX1_init_19 lf_1_20 (Or.inr ⟨rfl, fun q e => by cases e; rfl⟩) (cS_at (k := 12) rfl (by decide) rfl) (by decide) rfl ?_
  refine ev_aload_n 23 rfl dX1_init_22 rfl rfl ?_
  refine ev_bipush 25 rfl dX1_init_23 (by decide) (by decide) ?_
  refine en_arr (kd := 0) (ms := 20) (by decide) 14 14 rfl (by decide) rfl rfl (lowR_mo (by decide) rP_12) (lowR_mo (by decide) rH_19) 27 rfl dX1_init_25 (by decide) (by decide) ?_
  refine en_putR (ki := 3) cP_13 rfl 30 rfl dX1_init_27 lf_1_24 (Or.inr ⟨rfl, fun q e => by cases e; rfl⟩) (cS_at (k := 12) rfl (by decide) rfl) (by decide) rfl ?_
  refine ev_aload_n 31 rfl dX1_init_30 rfl rfl ?_
  refine ev_bipush 33 rfl dX1_init_31 (by decide) (by decide) ?_
  refine en_arr (kd := 0) (ms := 20) (by decide) 15 15 rfl (by decide) rfl rfl (lowR_mo (by decide) rP_13) (lowR_mo (by decide) rH_19) 35 rfl dX1_init_33 (by decide) (by decide) ?_
  refine en_putR (ki := 4) cP_14 rfl 38 rfl dX1_init_35 lf_1_27 (Or.inr ⟨rfl, fun q e => by cases e; rfl⟩) (cS_at (k := 12) rfl (by decide) rfl) (by decide) rfl ?_
  refine ev_aload_n 39 rfl dX1_init_38 rfl rfl ?_
  refine ev_iconst 40 rfl dX1_init_39 (by decide) ?_
  refine en_putI (ki := 5) cH_20 rfl 43 rfl dX1_init_40 lf_1_30 (Or.inl rfl) (cS_at (k := 12) rfl (by decide) rfl) (by decide) rfl ?_
  refine ev_aload_n 44 rfl dX1_init_43 rfl rfl ?_
  refine ev_bipush 46 rfl dX1_init_44 (by decide) (by decide) ?_
  refine en_arr (kd := 0) (ms := 20) (by decide) 16 16 rfl (by decide) rfl rfl (lowR_mo (by decide) rP_14) (lowR_mo (by decide) rH_20) 48 rfl dX1_init_46 (by decide) (by decide) ?_
  refine en_putR (ki := 6) cP_15 rfl 51 rfl dX1_init_48 lf_1_33 (Or.inr ⟨rfl, fun q e => by cases e; rfl⟩) (cS_at (k := 12) rfl (by decide) rfl) (by decide) rfl ?_
  refine ev_aload_n 52 rfl dX1_init_51 rfl rfl ?_
  refine ev_iconst 53 rfl dX1_init_52 (by decide) ?_
  refine en_arr (kd := 0) (ms := 3) (by decide) 17 17 rfl (by decide) rfl rfl (lowR_mo (by decide) rP_15) (lowR_mo (by decide) rH_20) 55 rfl dX1_init_53 (by decide) (by decide) ?_
  refine en_putR (ki := 7) cP_16 rfl 58 rfl dX1_init_55 lf_1_36 (Or.inr ⟨rfl, fun q e => by cases e; rfl⟩) (cS_at (k := 12) rfl (by decide) rfl) (by decide) rfl ?_
  refine ev_aload_n 59 rfl dX1_init_58 rfl rfl ?_
  refine ev_iconst 60 rfl dX1_init_59 (by decide) ?_
  refine en_arr (kd := 0) (ms := 3) (by decide) 18 18 rfl (by decide) rfl rfl (lowR_mo (by decide) rP_16) (lowR_mo (by decide) rH_20) 62 rfl dX1_init_60 (by decide) (by decide) ?_
  refine en_putR (ki := 8) cP_17 rfl 65 rfl dX1_init_62 lf_1_39 (Or.inr ⟨rfl, fun q e => by cases e; rfl⟩) (cS_at (k := 12) rfl (by decide) rfl) (by decide) rfl ?_
  refine ev_aload_n 66 rfl dX1_init_65 rfl rfl ?_
  refine ev_iconst 67 rfl dX1_init_66 (by decide) ?_
  refine en_putI (ki := 9) cH_21 rfl 70 rfl dX1_init_67 lf_1_42 (Or.inl rfl) (cS_at (k := 12) rfl (by decide) rfl) (by decide) rfl ?_
  refine ev_aload_n 71 rfl dX1_init_70 rfl rfl ?_
  refine ev_iconst 72 rfl dX1_init_71 (by decide) ?_
  refine en_putI (ki := 10) cH_22 rfl 75 rfl dX1_init_72 lf_1_45 (Or.inl rfl) (cS_at (k := 12) rfl (by decide) rfl) (by decide) rfl ?_
  refine ev_aload_n 76 rfl dX1_init_75 rfl rfl ?_
  refine ev_iconst 77 rfl dX1_init_76 (by decide) ?_
  refine en_putI (ki := 11) cH_23 rfl 80 rfl dX1_init_77 lf_1_48 (Or.inl rfl) (cS_at (k := 12) rfl (by decide) rfl) (by decide) rfl ?_
  refine ev_aload_n 81 rfl dX1_init_80 rfl rfl ?_
  refine ev_iconst 82 rfl dX1_init_81 (by decide) ?_
  refine en_putI (ki := 12) cH_24 rfl 85 rfl dX1_init_82 lf_1_51 (Or.inl rfl) (cS_at (k := 12) rfl (by decide) rfl) (by decide) rfl ?_
  exact ev_return dX1_init_85 rfl ⟨rfl, rfl⟩
theorem k_X3_init_19 {X : qX} {d : Nat} : Run X (d + 1) 8 2838 mX3_init [(2, 19)] (cS 20, cP_18, cH_24) (fun r g => r = none ∧ g = (cS 28, cP_26, cH_30)) := by
  show Ev X (d + 1) 8 2838 mX3_init 0 [(2, 19)] [] (cS 20, cP_18, cH_24) _
  refine ev_aload_n 1 rfl dX3_init_0 rfl rfl ?_
  refine ev_objInit 4 rfl dX3_init_1 lo_3_5 (by decide) (Nat.le_of_ble_eq_true rfl) (Nat.succ_le_succ (Nat.zero_le _)) ?_
  refine ev_aload_n 5 rfl dX3_init_4 rfl rfl ?_
  refine ev_iconst 6 rfl dX3_init_5 (by decide) ?_
  refine en_putI (ki := 0) cH_25 rfl 9 rfl dX3_init_6 lf_3_11 (Or.inl rfl) (cS_at (k := 19) rfl (by decide) rfl) (by decide) rfl ?_
  refine ev_aload_n 10 rfl dX3_init_9 rfl rfl ?_
  refine ev_iconst 11 rfl dX3_init_10 (by decide) ?_
  refine en_putI (ki := 1) cH_26 rfl 14 rfl dX3_init_11 lf_3_15 (Or.inl rfl) (cS_at (k := 19) rfl (by decide) rfl) (by decide) rfl ?_
  refine ev_aload_n 15 rfl dX3_init_14 rfl rfl ?_
  refine ev_iconst 16 rfl dX3_init_15 (by decide) ?_
  refine en_putI (ki := 2) cH_27 rfl 19 rfl dX3_init_16 lf_3_18 (Or.inl rfl) (cS_at (k := 19) rfl (by decide) rfl) (by decide) rfl ?_
  refine ev_aload_n 20 rfl dX3_init_19 rfl rfl ?_
  refine ev_bipush 22 rfl dX3_init_20 (by decide) (by decide) ?_
  refine en_arr (kd := 0) (ms := 6) (by decide) 20 20 rfl (by decide) rfl rfl (lowR_mo (by decide) rP_18) (lowR_mo (by decide) rH_27) 24 rfl dX3_init_22 (by decide) (by decide) ?_
  refine en_putR (ki := 3) cP_19 rfl 27 rfl dX3_init_24 lf_3_21 (Or.inr ⟨rfl, fun q e => by cases e; rfl⟩) (cS_at (k := 19) rfl (by decide) rfl) (by decide) rfl ?_
  refine ev_aload_n 28 rfl dX3_init_27 rfl rfl ?_
  refine ev_bipush 30 rfl dX3_init_28 (by decide) (by decide) ?_
  refine en_arr (kd := 0) (ms := 6) (by decide) 21 21 rfl (by decide) rfl rfl (lowR_mo (by decide) rP_19) (lowR_mo (by decide) rH_27) 32 rfl dX3_init_30 (by decide) (by decide) ?_
  refine en_putR (ki := 4) cP_20 rfl 35 rfl dX3_init_32 lf_3_25 (Or.inr ⟨rfl, fun q e => by cases e; rfl⟩) (cS_at (k := 19) rfl (by decide) rfl) (by decide) rfl ?_
  refine ev_aload_n 36 rfl dX3_init_35 rfl rfl ?_
  refine ev_bipush 38 rfl dX3_init_36 (by decide) (by decide) ?_
  refine en_arr (kd := 0) (ms := 6) (by decide) 22 22 rfl (by decide) rfl rfl (lowR_mo (by decide) rP_20) (lowR_mo (by decide) rH_27) 40 rfl dX3_init_38 (by decide) (by decide) ?_
  refine en_putR (ki := 5) cP_21 rfl 43 rfl dX3_init_40 lf_3_28 (Or.inr ⟨rfl, fun q e => by cases e; rfl⟩) (cS_at (k := 19) rfl (by decide) rfl) (by decide) rfl ?_
  refine ev_aload_n 44 rfl dX3_init_43 rfl rfl ?_
  refine ev_bipush 46 rfl dX3_init_44 (by decide) (by decide) ?_
  refine en_arr (kd := 0) (ms := 6) (by decide) 23 23 rfl (by decide) rfl rfl (lowR_mo (by decide) rP_21) (lowR_mo (by decide) rH_27) 48 rfl dX3_init_46 (by decide) (by decide) ?_
  refine en_putR (ki := 6) cP_22 rfl 51 rfl dX3_init_48 lf_3_31 (Or.inr ⟨rfl, fun q e => by cases e; rfl⟩) (cS_at (k := 19) rfl (by decide) rfl) (by decide) rfl ?_
  refine ev_aload_n 52 rfl dX3_init_51 rfl rfl ?_
  refine ev_bipush 54 rfl dX3_init_52 (by decide) (by decide) ?_
  refine en_arr (kd := 0) (ms := 6) (by decide) 24 24 rfl (by decide) rfl rfl (lowR_mo (by decide) rP_22) (lowR_mo (by decide) rH_27) 56 rfl dX3_init_54 (by decide) (by decide) ?_
  refine en_putR (ki := 7) cP_23 rfl 59 rfl dX3_init_56 lf_3_34 (Or.inr ⟨rfl, fun q e => by cases e; rfl⟩) (cS_at (k := 19) rfl (by decide) rfl) (by decide) rfl ?_
  refine ev_aload_n 60 rfl dX3_init_59 rfl rfl ?_
  refine ev_bipush 62 rfl dX3_init_60 (by decide) (by decide) ?_
  refine en_arr (kd := 0) (ms := 36) (by decide) 25 25 rfl (by decide) rfl rfl (lowR_mo (by decide) rP_23) (lowR_mo (by decide) rH_27) 64 rfl dX3_init_62 (by decide) (by decide) ?_
  refine en_putR (ki := 8) cP_24 rfl 67 rfl dX3_init_64 lf_3_37 (Or.inr ⟨rfl, fun q e => by cases e; rfl⟩) (cS_at (k := 19) rfl (by decide) rfl) (by decide) rfl ?_
  refine ev_aload_n 68 rfl dX3_init_67 rfl rfl ?_
  refine ev_sipush 71 rfl dX3_init_68 (by decide) (by decide) ?_
  refine en_arr (kd := 0) (ms := 1476) (by decide) 26 26 rfl (by decide) rfl rfl (lowR_mo (by decide) rP_24) (lowR_mo (by decide) rH_27) 73 rfl dX3_init_71 (by decide) (by decide) ?_
  refine en_putR (ki := 9) cP_25 rfl 76 rfl dX3_init_73 lf_3_40 (Or.inr ⟨rfl, fun q e => by cases e; rfl⟩) (cS_at (k := 19) rfl (by decide) rfl) (by decide) rfl ?_
  refine ev_aload_n 77 rfl dX3_init_76 rfl rfl ?_
  refine ev_sipush 80 rfl dX3_init_77 (by decide) (by decide) ?_
  refine en_arr (kd := 3) (ms := 1296) (by decide) 27 27 rfl (by decide) rfl rfl (lowR_mo (by decide) rP_25) (lowR_mo (by decide) rH_27) 82 rfl dX3_init_80 (by decide) (by decide) ?_
  refine en_putR (ki := 10) cP_26 rfl 85 rfl dX3_init_82 lf_3_43 (Or.inr ⟨rfl, fun q e => by cases e; rfl⟩) (cS_at (k := 19) rfl (by decide) rfl) (by decide) rfl ?_
  refine ev_aload_n 86 rfl dX3_init_85 rfl rfl ?_
  refine ev_iconst 87 rfl dX3_init_86 (by decide) ?_
  refine en_putI (ki := 11) cH_28 rfl 90 rfl dX3_init_87 lf_3_47 (Or.inl rfl) (cS_at (k := 19) rfl (by decide) rfl) (by decide) rfl ?_
  refine ev_aload_n 91 rfl dX3_init_90 rfl rfl ?_
  refine ev_iconst 92 rfl dX3_init_91 (by decide) ?_
  refine en_putI (ki := 12) cH_29 rfl 95 rfl dX3_init_92 lf_3_50 (Or.inl rfl) (cS_at (k := 19) rfl (by decide) rfl) (by decide) rfl ?_
  refine ev_aload_n 96 rfl dX3_init_95 rfl rfl ?_
  refine ev_iconst 97 rfl dX3_init_96 (by decide) ?_
  refine en_putI (ki := 13) cH_30 rfl 100 rfl dX3_init_97 lf_3_53 (Or.inl rfl) (cS_at (k := 19) rfl (by decide) rfl) (by decide) rfl ?_
  exact ev_return dX3_init_100 rfl ⟨rfl, rfl⟩
theorem k_X9_init_28 {X : qX} {d : Nat} : Run X (d + 1) 1 40 mX9_init [(2, 28)] (cS 29, cP_27, cH_30) (fun r g => r = none ∧ g = (cS 30, cP_31, cH_32)) := by
  show Ev X (d + 1) 1 40 mX9_init 0 [(2, 28)] [] (cS 29, cP_27, cH_30) _
  refine ev_aload_n 1 rfl dX9_init_0 rfl rfl ?_
  refine ev_objInit 4 rfl dX9_init_1 lo_9_5 (by decide) (Nat.le_of_ble_eq_true rfl) (Nat.succ_le_succ (Nat.zero_le _)) ?_
  refine ev_aload_n 5 rfl dX9_init_4 rfl rfl ?_
  refine ev_iconst 6 rfl dX9_init_5 (by decide) ?_
  refine en_putI (ki := 0) cH_31 rfl 9 rfl dX9_init_6 lf_9_11 (Or.inl rfl) (cS_at (k := 28) rfl (by decide) rfl) (by decide) rfl ?_
  refine ev_aload_n 10 rfl dX9_init_9 rfl rfl ?_
  refine ev_aconst_null 11 rfl dX9_init_10 ?_
  refine en_putR (ki := 1) cP_28 rfl 14 rfl dX9_init_11 lf_9_17 (Or.inl rfl) (cS_at (k := 28) rfl (by decide) rfl) (by decide) rfl ?_
  refine ev_aload_n 15 rfl dX9_init_14 rfl rfl ?_
  refine ev_bipush 17 rfl dX9_init_15 (by decide) (by decide) ?_
  refine en_arr (kd := 1) (ms := 40) (by decide) 29 29 rfl (by decide) rfl rfl (lowR_mo (by decide) rP_28) (lowR_mo (by decide) rH_31) 19 rfl dX9_init_17 (by decide) (by decide) ?_
  refine en_putR (ki := 2) cP_29 rfl 22 rfl dX9_init_19 lf_9_21 (Or.inr ⟨rfl, fun q e => by cases e; rfl⟩) (cS_at (k := 28) rfl (by decide) rfl) (by decide) rfl ?_
  refine ev_aload_n 23 rfl dX9_init_22 rfl rfl ?_
  refine ev_aconst_null 24 rfl dX9_init_23 ?_
  refine en_putR (ki := 3) cP_30 rfl 27 rfl dX9_init_24 lf_9_25 (Or.inl rfl) (cS_at (k := 28) rfl (by decide) rfl) (by decide) rfl ?_
  refine ev_aload_n 28 rfl dX9_init_27 rfl rfl ?_
  refine ev_aconst_null 29 rfl dX9_init_28 ?_
  refine en_putR (ki := 4) cP_31 rfl 32 rfl dX9_init_29 lf_9_28 (Or.inl rfl) (cS_at (k := 28) rfl (by decide) rfl) (by decide) rfl ?_
  refine ev_aload_n 33 rfl dX9_init_32 rfl rfl ?_
  refine ev_iconst 34 rfl dX9_init_33 (by decide) ?_
  refine en_putI (ki := 5) cH_32 rfl 37 rfl dX9_init_34 lf_9_32 (Or.inl rfl) (cS_at (k := 28) rfl (by decide) rfl) (by decide) rfl ?_
  exact ev_return dX9_init_37 rfl ⟨rfl, rfl⟩
theorem k_X5_init_30 {X : qX} {d : Nat} : Run X (d + 1) 10 348 mX5_init [(2, 30)] (cS 31, cP_32, cH_32) (fun r g => r = none ∧ g = (cS 41, cP_42, cH_36)) := by
  show Ev X (d + 1) 10 348 mX5_init 0 [(2, 30)] [] (cS 31, cP_32, cH_32) _
  refine ev_aload_n 1 rfl dX5_init_0 rfl rfl ?_
  refine ev_objInit 4 rfl dX5_init_1 lo_5_3 (by decide) (Nat.le_of_ble_eq_true rfl) (Nat.succ_le_succ (Nat.zero_le _)) ?_
  refine ev_aload_n 5 rfl dX5_init_4 rfl rfl ?_
  refine ev_iconst 6 rfl dX5_init_5 (by decide) ?_
  refine en_putI (ki := 0) cH_33 rfl 9 rfl dX5_init_6 lf_5_9 (Or.inl rfl) (cS_at (k := 30) rfl (by decide) rfl) (by decide) rfl ?_
  refine ev_aload_n 10 rfl dX5_init_9 rfl rfl ?_
  refine ev_iconst 11 rfl dX5_init_10 (by decide) ?_
  refine en_putI (ki := 1) cH_34 rfl 14 rfl dX5_init_11 lf_5_15 (Or.inl rfl) (cS_at (k := 30) rfl (by decide) rfl) (by decide) rfl ?_
  refine ev_aload_n 15 rfl dX5_init_14 rfl rfl ?_
  refine ev_iconst 16 rfl dX5_init_15 (by decide) ?_
  refine en_putI (ki := 2) cH_35 rfl 19 rfl dX5_init_16 lf_5_18 (Or.inl rfl) (cS_at (k := 30) rfl (by decide) rfl) (by decide) rfl ?_
  refine ev_aload_n 20 rfl dX5_init_19 rfl rfl ?_
  refine ev_bipush 22 rfl dX5_init_20 (by decide) (by decide) ?_
  refine en_arr (kd := 0) (ms := 20) (by decide) 31 31 rfl (by decide) rfl rfl (lowR_mo (by decide) rP_32) (lowR_mo (by decide) rH_35) 24 rfl dX5_init_22 (by decide) (by decide) ?_
  refine en_putR (ki := 3) cP_33 rfl 27 rfl dX5_init_24 lf_5_23 (Or.inr ⟨rfl, fun q e => by cases e; rfl⟩) (cS_at (k := 30) rfl (by decide) rfl) (by decide) rfl ?_
  refine ev_aload_n 28 rfl dX5_init_27 rfl rfl ?_
  refine ev_bipush 30 rfl dX5_init_28 (by decide) (by decide) ?_
  refine en_arr (kd := 0) (ms := 16) (by decide) 32 32 rfl (by decide) rfl rfl (lowR_mo (by decide) rP_33) (lowR_mo (by decide) rH_35) 32 rfl dX5_init_30 (by decide) (by decide) ?_
  refine en_putR (ki := 4) cP_34 rfl 35 rfl dX5_init_32 lf_5_27 (Or.inr ⟨rfl, fun q e => by cases e; rfl⟩) (cS_at (k := 30) rfl (by decide) rfl) (by decide) rfl ?_
  refine ev_aload_n 36 rfl dX5_init_35 rfl rfl ?_
  refine ev_bipush 38 rfl dX5_init_36 (by decide) (by decide) ?_
  refine en_arr (kd := 0) (ms := 60) (by decide) 33 33 rfl (by decide) rfl rfl (lowR_mo (by decide) rP_34) (lowR_mo (by decide) rH_35) 40 rfl dX5_init_38 (by decide) (by decide) ?_
  refine en_putR (ki := 5) cP_35 rfl 43 rfl dX5_init_40 lf_5_30 (Or.inr ⟨rfl, fun q e => by cases e; rfl⟩) (cS_at (k := 30) rfl (by decide) rfl) (by decide) rfl ?_
  refine ev_aload_n 44 rfl dX5_init_43 rfl rfl ?_
  refine ev_bipush 46 rfl dX5_init_44 (by decide) (by decide) ?_
  refine en_arr (kd := 0) (ms := 60) (by decide) 34 34 rfl (by decide) rfl rfl (lowR_mo (by decide) rP_35) (lowR_mo (by decide) rH_35) 48 rfl dX5_init_46 (by decide) (by decide) ?_
  refine en_putR (ki := 6) cP_36 rfl 51 rfl dX5_init_48 lf_5_33 (Or.inr ⟨rfl, fun q e => by cases e; rfl⟩) (cS_at (k := 30) rfl (by decide) rfl) (by decide) rfl ?_
  refine ev_aload_n 52 rfl dX5_init_51 rfl rfl ?_
  refine ev_bipush 54 rfl dX5_init_52 (by decide) (by decide) ?_
  refine en_arr (kd := 0) (ms := 60) (by decide) 35 35 rfl (by decide) rfl rfl (lowR_mo (by decide) rP_36) (lowR_mo (by decide) rH_35) 56 rfl dX5_init_54 (by decide) (by decide) ?_
  refine en_putR (ki := 7) cP_37 rfl 59 rfl dX5_init_56 lf_5_36 (Or.inr ⟨rfl, fun q e => by cases e; rfl⟩) (cS_at (k := 30) rfl (by decide) rfl) (by decide) rfl ?_
  refine ev_aload_n 60 rfl dX5_init_59 rfl rfl ?_
  refine ev_bipush 62 rfl dX5_init_60 (by decide) (by decide) ?_
  refine en_arr (kd := 0) (ms := 60) (by decide) 36 36 rfl (by decide) rfl rfl (lowR_mo (by decide) rP_37) (lowR_mo (by decide) rH_35) 64 rfl dX5_init_62 (by decide) (by decide) ?_
  refine en_putR (ki := 8) cP_38 rfl 67 rfl dX5_init_64 lf_5_39 (Or.inr ⟨rfl, fun q e => by cases e; rfl⟩) (cS_at (k := 30) rfl (by decide) rfl) (by decide) rfl ?_
  refine ev_aload_n 68 rfl dX5_init_67 rfl rfl ?_
  refine ev_bipush 70 rfl dX5_init_68 (by decide) (by decide) ?_
  refine en_arr (kd := 0) (ms := 20) (by decide) 37 37 rfl (by decide) rfl rfl (lowR_mo (by decide) rP_38) (lowR_mo (by decide) rH_35) 72 rfl dX5_init_70 (by decide) (by decide) ?_
  refine en_putR (ki := 9) cP_39 rfl 75 rfl dX5_init_72 lf_5_42 (Or.inr ⟨rfl, fun q e => by cases e; rfl⟩) (cS_at (k := 30) rfl (by decide) rfl) (by decide) rfl ?_
  refine ev_aload_n 76 rfl dX5_init_75 rfl rfl ?_
  refine ev_bipush 78 rfl dX5_init_76 (by decide) (by decide) ?_
  refine en_arr (kd := 0) (ms := 16) (by decide) 38 38 rfl (by decide) rfl rfl (lowR_mo (by decide) rP_39) (lowR_mo (by decide) rH_35) 80 rfl dX5_init_78 (by decide) (by decide) ?_
  refine en_putR (ki := 10) cP_40 rfl 83 rfl dX5_init_80 lf_5_45 (Or.inr ⟨rfl, fun q e => by cases e; rfl⟩) (cS_at (k := 30) rfl (by decide) rfl) (by decide) rfl ?_
  refine ev_aload_n 84 rfl dX5_init_83 rfl rfl ?_
  refine ev_bipush 86 rfl dX5_init_84 (by decide) (by decide) ?_
  refine en_arr (kd := 0) (ms := 20) (by decide) 39 39 rfl (by decide) rfl rfl (lowR_mo (by decide) rP_40) (lowR_mo (by decide) rH_35) 88 rfl dX5_init_86 (by decide) (by decide) ?_
  refine en_putR (ki := 11) cP_41 rfl 91 rfl dX5_init_88 lf_5_48 (Or.inr ⟨rfl, fun q e => by cases e; rfl⟩) (cS_at (k := 30) rfl (by decide) rfl) (by decide) rfl ?_
  refine ev_aload_n 92 rfl dX5_init_91 rfl rfl ?_
  refine ev_bipush 94 rfl dX5_init_92 (by decide) (by decide) ?_
  refine en_arr (kd := 0) (ms := 16) (by decide) 40 40 rfl (by decide) rfl rfl (lowR_mo (by decide) rP_41) (lowR_mo (by decide) rH_35) 96 rfl dX5_init_94 (by decide) (by decide) ?_
  refine en_putR (ki := 12) cP_42 rfl 99 rfl dX5_init_96 lf_5_51 (Or.inr ⟨rfl, fun q e => by cases e; rfl⟩) (cS_at (k := 30) rfl (by decide) rfl) (by decide) rfl ?_
  refine ev_aload_n 100 rfl dX5_init_99 rfl rfl ?_
  refine ev_iconst 101 rfl dX5_init_100 (by decide) ?_
  refine en_putI (ki := 13) cH_36 rfl 104 rfl dX5_init_101 lf_5_54 (Or.inl rfl) (cS_at (k := 30) rfl (by decide) rfl) (by decide) rfl ?_
  exact ev_return dX5_init_104 rfl ⟨rfl, rfl⟩
theorem k_X6_init_41 {X : qX} {d : Nat} : Run X (d + 1) 2 165 mX6_init [(2, 41)] (cS 42, cP_43, cH_36) (fun r g => r = none ∧ g = (cS 44, cP_45, cH_42)) := by
  show Ev X (d + 1) 2 165 mX6_init 0 [(2, 41)] [] (cS 42, cP_43, cH_36) _
  refine ev_aload_n 1 rfl dX6_init_0 rfl rfl ?_
  refine ev_objInit 4 rfl dX6_init_1 lo_6_3 (by decide) (Nat.le_of_ble_eq_true rfl) (Nat.succ_le_succ (Nat.zero_le _)) ?_
  refine ev_aload_n 5 rfl dX6_init_4 rfl rfl ?_
  refine ev_iconst 6 rfl dX6_init_5 (by decide) ?_
  refine en_arr (kd := 0) (ms := 3) (by decide) 42 42 rfl (by decide) rfl rfl (lowR_mo (by decide) rP_43) (lowR_mo (by decide) rH_36) 8 rfl dX6_init_6 (by decide) (by decide) ?_
  refine en_putR (ki := 0) cP_44 rfl 11 rfl dX6_init_8 lf_6_11 (Or.inr ⟨rfl, fun q e => by cases e; rfl⟩) (cS_at (k := 41) rfl (by decide) rfl) (by decide) rfl ?_
  refine ev_aload_n 12 rfl dX6_init_11 rfl rfl ?_
  refine ev_lconst (v := 0) 13 rfl dX6_init_12 (by decide) (by decide) ?_
  refine en_putL (ki := 1) cH_37 rfl 16 rfl dX6_init_13 lf_6_15 (cS_at (k := 41) rfl (by decide) rfl) (by decide) rfl ?_
  refine ev_aload_n 17 rfl dX6_init_16 rfl rfl ?_
  refine ev_lconst (v := 1) 18 rfl dX6_init_17 (by decide) (by decide) ?_
  refine en_putL (ki := 2) cH_38 rfl 21 rfl dX6_init_18 lf_6_19 (cS_at (k := 41) rfl (by decide) rfl) (by decide) rfl ?_
  refine ev_aload_n 22 rfl dX6_init_21 rfl rfl ?_
  refine ev_sipush 25 rfl dX6_init_22 (by decide) (by decide) ?_
  refine en_arr (kd := 0) (ms := 162) (by decide) 43 43 rfl (by decide) rfl rfl (lowR_mo (by decide) rP_44) (lowR_mo (by decide) rH_38) 27 rfl dX6_init_25 (by decide) (by decide) ?_
  refine en_putR (ki := 3) cP_45 rfl 30 rfl dX6_init_27 lf_6_22 (Or.inr ⟨rfl, fun q e => by cases e; rfl⟩) (cS_at (k := 41) rfl (by decide) rfl) (by decide) rfl ?_
  refine ev_aload_n 31 rfl dX6_init_30 rfl rfl ?_
  refine ev_lconst (v := 0) 32 rfl dX6_init_31 (by decide) (by decide) ?_
  refine en_putL (ki := 4) cH_39 rfl 35 rfl dX6_init_32 lf_6_25 (cS_at (k := 41) rfl (by decide) rfl) (by decide) rfl ?_
  refine ev_aload_n 36 rfl dX6_init_35 rfl rfl ?_
  refine ev_lconst (v := 1) 37 rfl dX6_init_36 (by decide) (by decide) ?_
  refine en_putL (ki := 5) cH_40 rfl 40 rfl dX6_init_37 lf_6_28 (cS_at (k := 41) rfl (by decide) rfl) (by decide) rfl ?_
  refine ev_aload_n 41 rfl dX6_init_40 rfl rfl ?_
  refine ev_getR (ki := 0) (v := 42) 44 rfl dX6_init_41 lf_6_11 (cS_at (k := 41) rfl (by decide) rfl) (by decide) rfl (by decide +kernel) ?_
  refine ev_iconst 45 rfl dX6_init_44 (by decide) ?_
  refine ev_callS (mc := 0) (ms := 0) (As := [(2, 42), (0, 1)]) (rest := []) 48 rfl dX6_init_45 lm_6_31 mm_J7_fill_53178 rfl rfl (Nat.le_of_ble_eq_true rfl) (Nat.le_of_ble_eq_true rfl) (Nat.le_refl _) (k_fill (n := 3) (hz := cH_41) (cS_at (k := 42) rfl (by decide) rfl) (by decide) (by decide) rfl) ?_
  rintro _ _ ⟨rfl, rfl⟩
  refine ev_aload_n 49 rfl dX6_init_48 rfl rfl ?_
  refine ev_getR (ki := 3) (v := 43) 52 rfl dX6_init_49 lf_6_22 (cS_at (k := 41) rfl (by decide) rfl) (by decide) rfl (by decide +kernel) ?_
  refine ev_iconst 53 rfl dX6_init_52 (by decide) ?_
  refine ev_callS (mc := 0) (ms := 0) (As := [(2, 43), (0, -1)]) (rest := []) 56 rfl dX6_init_53 lm_6_31 mm_J7_fill_53178 rfl rfl (Nat.le_of_ble_eq_true rfl) (Nat.le_of_ble_eq_true rfl) (Nat.le_refl _) (k_fill (n := 162) (hz := cH_42) (cS_at (k := 43) rfl (by decide) rfl) (by decide) (by decide) rfl) ?_
  rintro _ _ ⟨rfl, rfl⟩
  exact ev_return dX6_init_56 rfl ⟨rfl, rfl⟩
theorem k_X7_init_44 {X : qX} {d : Nat} : Run X (d + 1) 8 376 mX7_init [(2, 44)] (cS 45, cP_46, cH_42) (fun r g => r = none ∧ g = (cS 53, cP_54, cH_46)) := by
  show Ev X (d + 1) 8 376 mX7_init 0 [(2, 44)] [] (cS 45, cP_46, cH_42) _
  refine ev_aload_n 1 rfl dX7_init_0 rfl rfl ?_
  refine ev_objInit 4 rfl dX7_init_1 lo_7_1 (by decide) (Nat.le_of_ble_eq_true rfl) (Nat.succ_le_succ (Nat.zero_le _)) ?_
  refine ev_aload_n 5 rfl dX7_init_4 rfl rfl ?_
  refine ev_bipush 7 rfl dX7_init_5 (by decide) (by decide) ?_
  refine en_arr (kd := 0) (ms := 60) (by decide) 45 45 rfl (by decide) rfl rfl (lowR_mo (by decide) rP_46) (lowR_mo (by decide) rH_42) 9 rfl dX7_init_7 (by decide) (by decide) ?_
  refine en_putR (ki := 0) cP_47 rfl 12 rfl dX7_init_9 lf_7_9 (Or.inr ⟨rfl, fun q e => by cases e; rfl⟩) (cS_at (k := 44) rfl (by decide) rfl) (by decide) rfl ?_
  refine ev_aload_n 13 rfl dX7_init_12 rfl rfl ?_
  refine ev_bipush 15 rfl dX7_init_13 (by decide) (by decide) ?_
  refine en_arr (kd := 0) (ms := 60) (by decide) 46 46 rfl (by decide) rfl rfl (lowR_mo (by decide) rP_47) (lowR_mo (by decide) rH_42) 17 rfl dX7_init_15 (by decide) (by decide) ?_
  refine en_putR (ki := 1) cP_48 rfl 20 rfl dX7_init_17 lf_7_13 (Or.inr ⟨rfl, fun q e => by cases e; rfl⟩) (cS_at (k := 44) rfl (by decide) rfl) (by decide) rfl ?_
  refine ev_aload_n 21 rfl dX7_init_20 rfl rfl ?_
  refine ev_bipush 23 rfl dX7_init_21 (by decide) (by decide) ?_
  refine en_arr (kd := 0) (ms := 60) (by decide) 47 47 rfl (by decide) rfl rfl (lowR_mo (by decide) rP_48) (lowR_mo (by decide) rH_42) 25 rfl dX7_init_23 (by decide) (by decide) ?_
  refine en_putR (ki := 2) cP_49 rfl 28 rfl dX7_init_25 lf_7_16 (Or.inr ⟨rfl, fun q e => by cases e; rfl⟩) (cS_at (k := 44) rfl (by decide) rfl) (by decide) rfl ?_
  refine ev_aload_n 29 rfl dX7_init_28 rfl rfl ?_
  refine ev_bipush 31 rfl dX7_init_29 (by decide) (by decide) ?_
  refine en_arr (kd := 0) (ms := 60) (by decide) 48 48 rfl (by decide) rfl rfl (lowR_mo (by decide) rP_49) (lowR_mo (by decide) rH_42) 33 rfl dX7_init_31 (by decide) (by decide) ?_
  refine en_putR (ki := 3) cP_50 rfl 36 rfl dX7_init_33 lf_7_19 (Or.inr ⟨rfl, fun q e => by cases e; rfl⟩) (cS_at (k := 44) rfl (by decide) rfl) (by decide) rfl ?_
  refine ev_aload_n 37 rfl dX7_init_36 rfl rfl ?_
  refine ev_bipush 39 rfl dX7_init_37 (by decide) (by decide) ?_
  refine en_arr (kd := 0) (ms := 60) (by decide) 49 49 rfl (by decide) rfl rfl (lowR_mo (by decide) rP_50) (lowR_mo (by decide) rH_42) 41 rfl dX7_init_39 (by decide) (by decide) ?_
  refine en_putR (ki := 4) cP_51 rfl 44 rfl dX7_init_41 lf_7_22 (Or.inr ⟨rfl, fun q e => by cases e; rfl⟩) (cS_at (k := 44) rfl (by decide) rfl) (by decide) rfl ?_
  refine ev_aload_n 45 rfl dX7_init_44 rfl rfl ?_
  refine ev_bipush 47 rfl dX7_init_45 (by decide) (by decide) ?_
  refine en_arr (kd := 0) (ms := 60) (by decide) 50 50 rfl (by decide) rfl rfl (lowR_mo (by decide) rP_51) (lowR_mo (by decide) rH_42) 49 rfl dX7_init_47 (by decide) (by decide) ?_
  refine en_putR (ki := 5) cP_52 rfl 52 rfl dX7_init_49 lf_7_25 (Or.inr ⟨rfl, fun q e => by cases e; rfl⟩) (cS_at (k := 44) rfl (by decide) rfl) (by decide) rfl ?_
  refine ev_aload_n 53 rfl dX7_init_52 rfl rfl ?_
  refine ev_bipush 55 rfl dX7_init_53 (by decide) (by decide) ?_
  refine en_arr (kd := 0) (ms := 8) (by decide) 51 51 rfl (by decide) rfl rfl (lowR_mo (by decide) rP_52) (lowR_mo (by decide) rH_42) 57 rfl dX7_init_55 (by decide) (by decide) ?_
  refine en_putR (ki := 6) cP_53 rfl 60 rfl dX7_init_57 lf_7_30 (Or.inr ⟨rfl, fun q e => by cases e; rfl⟩) (cS_at (k := 44) rfl (by decide) rfl) (by decide) rfl ?_
  refine ev_aload_n 61 rfl dX7_init_60 rfl rfl ?_
  refine ev_bipush 63 rfl dX7_init_61 (by decide) (by decide) ?_
  refine en_arr (kd := 0) (ms := 8) (by decide) 52 52 rfl (by decide) rfl rfl (lowR_mo (by decide) rP_53) (lowR_mo (by decide) rH_42) 65 rfl dX7_init_63 (by decide) (by decide) ?_
  refine en_putR (ki := 7) cP_54 rfl 68 rfl dX7_init_65 lf_7_33 (Or.inr ⟨rfl, fun q e => by cases e; rfl⟩) (cS_at (k := 44) rfl (by decide) rfl) (by decide) rfl ?_
  refine ev_aload_n 69 rfl dX7_init_68 rfl rfl ?_
  refine ev_iconst 70 rfl dX7_init_69 (by decide) ?_
  refine en_putI (ki := 8) cH_43 rfl 73 rfl dX7_init_70 lf_7_36 (Or.inl rfl) (cS_at (k := 44) rfl (by decide) rfl) (by decide) rfl ?_
  refine ev_aload_n 74 rfl dX7_init_73 rfl rfl ?_
  refine ev_iconst 75 rfl dX7_init_74 (by decide) ?_
  refine en_putI (ki := 9) cH_44 rfl 78 rfl dX7_init_75 lf_7_40 (Or.inl rfl) (cS_at (k := 44) rfl (by decide) rfl) (by decide) rfl ?_
  refine ev_aload_n 79 rfl dX7_init_78 rfl rfl ?_
  refine ev_iconst 80 rfl dX7_init_79 (by decide) ?_
  refine en_putI (ki := 10) cH_45 rfl 83 rfl dX7_init_80 lf_7_43 (Or.inr ⟨rfl, by decide, by decide⟩) (cS_at (k := 44) rfl (by decide) rfl) (by decide) rfl ?_
  refine ev_aload_n 84 rfl dX7_init_83 rfl rfl ?_
  refine ev_iconst 85 rfl dX7_init_84 (by decide) ?_
  refine en_putI (ki := 11) cH_46 rfl 88 rfl dX7_init_85 lf_7_47 (Or.inl rfl) (cS_at (k := 44) rfl (by decide) rfl) (by decide) rfl ?_
  exact ev_return dX7_init_88 rfl ⟨rfl, rfl⟩
theorem k_X7_init_53 {X : qX} {d : Nat} : Run X (d + 1) 8 376 mX7_init [(2, 53)] (cS 54, cP_55, cH_46) (fun r g => r = none ∧ g = (cS 62, cP_63, cH_50)) := by
  show Ev X (d + 1) 8 376 mX7_init 0 [(2, 53)] [] (cS 54, cP_55, cH_46) _
  refine ev_aload_n 1 rfl dX7_init_0 rfl rfl ?_
  refine ev_objInit 4 rfl dX7_init_1 lo_7_1 (by decide) (Nat.le_of_ble_eq_true rfl) (Nat.succ_le_succ (Nat.zero_le _)) ?_
  refine ev_aload_n 5 rfl dX7_init_4 rfl rfl ?_
  refine ev_bipush 7 rfl dX7_init_5 (by decide) (by decide) ?_
  refine en_arr (kd := 0) (ms := 60) (by decide) 54 54 rfl (by decide) rfl rfl (lowR_mo (by decide) rP_55) (lowR_mo (by decide) rH_46) 9 rfl dX7_init_7 (by decide) (by decide) ?_
  refine en_putR (ki := 0) cP_56 rfl 12 rfl dX7_init_9 lf_7_9 (Or.inr ⟨rfl, fun q e => by cases e; rfl⟩) (cS_at (k := 53) rfl (by decide) rfl) (by decide) rfl ?_
  refine ev_aload_n 13 rfl dX7_init_12 rfl rfl ?_
  refine ev_bipush 15 rfl dX7_init_13 (by decide) (by decide) ?_
  refine en_arr (kd := 0) (ms := 60) (by decide) 55 55 rfl (by decide) rfl rfl (lowR_mo (by decide) rP_56) (lowR_mo (by decide) rH_46) 17 rfl dX7_init_15 (by decide) (by decide) ?_
  refine en_putR (ki := 1) cP_57 rfl 20 rfl dX7_init_17 lf_7_13 (Or.inr ⟨rfl, fun q e => by cases e; rfl⟩) (cS_at (k := 53) rfl (by decide) rfl) (by decide) rfl ?_
  refine ev_aload_n 21 rfl dX7_init_20 rfl rfl ?_
  refine ev_bipush 23 rfl dX7_init_21 (by decide) (by decide) ?_
  refine en_arr (kd := 0) (ms := 60) (by decide) 56 56 rfl (by decide) rfl rfl (lowR_mo (by decide) rP_57) (lowR_mo (by decide) rH_46) 25 rfl dX7_init_23 (by decide) (by decide) ?_
  refine en_putR (ki := 2) cP_58 rfl 28 rfl dX7_init_25 lf_7_16 (Or.inr ⟨rfl, fun q e => by cases e; rfl⟩) (cS_at (k := 53) rfl (by decide) rfl) (by decide) rfl ?_
  refine ev_aload_n 29 rfl dX7_init_28 rfl rfl ?_
  refine ev_bipush 31 rfl dX7_init_29 (by decide) (by decide) ?_
  refine en_arr (kd := 0) (ms := 60) (by decide) 57 57 rfl (by decide) rfl rfl (lowR_mo (by decide) rP_58) (lowR_mo (by decide) rH_46) 33 rfl dX7_init_31 (by decide) (by decide) ?_
  refine en_putR (ki := 3) cP_59 rfl 36 rfl dX7_init_33 lf_7_19 (Or.inr ⟨rfl, fun q e => by cases e; rfl⟩) (cS_at (k := 53) rfl (by decide) rfl) (by decide) rfl ?_
  refine ev_aload_n 37 rfl dX7_init_36 rfl rfl ?_
  refine ev_bipush 39 rfl dX7_init_37 (by decide) (by decide) ?_
  refine en_arr (kd := 0) (ms := 60) (by decide) 58 58 rfl (by decide) rfl rfl (lowR_mo (by decide) rP_59) (lowR_mo (by decide) rH_46) 41 rfl dX7_init_39 (by decide) (by decide) ?_
  refine en_putR (ki := 4) cP_60 rfl 44 rfl dX7_init_41 lf_7_22 (Or.inr ⟨rfl, fun q e => by cases e; rfl⟩) (cS_at (k := 53) rfl (by decide) rfl) (by decide) rfl ?_
  refine ev_aload_n 45 rfl dX7_init_44 rfl rfl ?_
  refine ev_bipush 47 rfl dX7_init_45 (by decide) (by decide) ?_
  refine en_arr (kd := 0) (ms := 60) (by decide) 59 59 rfl (by decide) rfl rfl (lowR_mo (by decide) rP_60) (lowR_mo (by decide) rH_46) 49 rfl dX7_init_47 (by decide) (by decide) ?_
  refine en_putR (ki := 5) cP_61 rfl 52 rfl dX7_init_49 lf_7_25 (Or.inr ⟨rfl, fun q e => by cases e; rfl⟩) (cS_at (k := 53) rfl (by decide) rfl) (by decide) rfl ?_
  refine ev_aload_n 53 rfl dX7_init_52 rfl rfl ?_
  refine ev_bipush 55 rfl dX7_init_53 (by decide) (by decide) ?_
  refine en_arr (kd := 0) (ms := 8) (by decide) 60 60 rfl (by decide) rfl rfl (lowR_mo (by decide) rP_61) (lowR_mo (by decide) rH_46) 57 rfl dX7_init_55 (by decide) (by decide) ?_
  refine en_putR (ki := 6) cP_62 rfl 60 rfl dX7_init_57 lf_7_30 (Or.inr ⟨rfl, fun q e => by cases e; rfl⟩) (cS_at (k := 53) rfl (by decide) rfl) (by decide) rfl ?_
  refine ev_aload_n 61 rfl dX7_init_60 rfl rfl ?_
  refine ev_bipush 63 rfl dX7_init_61 (by decide) (by decide) ?_
  refine en_arr (kd := 0) (ms := 8) (by decide) 61 61 rfl (by decide) rfl rfl (lowR_mo (by decide) rP_62) (lowR_mo (by decide) rH_46) 65 rfl dX7_init_63 (by decide) (by decide) ?_
  refine en_putR (ki := 7) cP_63 rfl 68 rfl dX7_init_65 lf_7_33 (Or.inr ⟨rfl, fun q e => by cases e; rfl⟩) (cS_at (k := 53) rfl (by decide) rfl) (by decide) rfl ?_
  refine ev_aload_n 69 rfl dX7_init_68 rfl rfl ?_
  refine ev_iconst 70 rfl dX7_init_69 (by decide) ?_
  refine en_putI (ki := 8) cH_47 rfl 73 rfl dX7_init_70 lf_7_36 (Or.inl rfl) (cS_at (k := 53) rfl (by decide) rfl) (by decide) rfl ?_
  refine ev_aload_n 74 rfl dX7_init_73 rfl rfl ?_
  refine ev_iconst 75 rfl dX7_init_74 (by decide) ?_
  refine en_putI (ki := 9) cH_48 rfl 78 rfl dX7_init_75 lf_7_40 (Or.inl rfl) (cS_at (k := 53) rfl (by decide) rfl) (by decide) rfl ?_
  refine ev_aload_n 79 rfl dX7_init_78 rfl rfl ?_
  refine ev_iconst 80 rfl dX7_init_79 (by decide) ?_
  refine en_putI (ki := 10) cH_49 rfl 83 rfl dX7_init_80 lf_7_43 (Or.inr ⟨rfl, by decide, by decide⟩) (cS_at (k := 53) rfl (by decide) rfl) (by decide) rfl ?_
  refine ev_aload_n 84 rfl dX7_init_83 rfl rfl ?_
  refine ev_iconst 85 rfl dX7_init_84 (by decide) ?_
  refine en_putI (ki := 11) cH_50 rfl 88 rfl dX7_init_85 lf_7_47 (Or.inl rfl) (cS_at (k := 53) rfl (by decide) rfl) (by decide) rfl ?_
  exact ev_return dX7_init_88 rfl ⟨rfl, rfl⟩
theorem k_X0_init_62 {X : qX} {d : Nat} : Run X (d + 1) 3 3060 mX0_init [(2, 62)] (cS 63, cP_64, cH_50) (fun r g => r = none ∧ g = (cS 66, cP_67, cH_54)) := by
  show Ev X (d + 1) 3 3060 mX0_init 0 [(2, 62)] [] (cS 63, cP_64, cH_50) _
  refine ev_aload_n 1 rfl dX0_init_0 rfl rfl ?_
  refine ev_objInit 4 rfl dX0_init_1 lo_0_5 (by decide) (Nat.le_of_ble_eq_true rfl) (Nat.succ_le_succ (Nat.zero_le _)) ?_
  refine ev_aload_n 5 rfl dX0_init_4 rfl rfl ?_
  refine ev_sipush 8 rfl dX0_init_5 (by decide) (by decide) ?_
  refine en_arr (kd := 0) (ms := 3020) (by decide) 63 63 rfl (by decide) rfl rfl (lowR_mo (by decide) rP_64) (lowR_mo (by decide) rH_50) 10 rfl dX0_init_8 (by decide) (by decide) ?_
  refine en_putR (ki := 0) cP_65 rfl 13 rfl dX0_init_10 lf_0_13 (Or.inr ⟨rfl, fun q e => by cases e; rfl⟩) (cS_at (k := 62) rfl (by decide) rfl) (by decide) rfl ?_
  refine ev_aload_n 14 rfl dX0_init_13 rfl rfl ?_
  refine ev_bipush 16 rfl dX0_init_14 (by decide) (by decide) ?_
  refine en_arr (kd := 0) (ms := 20) (by decide) 64 64 rfl (by decide) rfl rfl (lowR_mo (by decide) rP_65) (lowR_mo (by decide) rH_50) 18 rfl dX0_init_16 (by decide) (by decide) ?_
  refine en_putR (ki := 1) cP_66 rfl 21 rfl dX0_init_18 lf_0_17 (Or.inr ⟨rfl, fun q e => by cases e; rfl⟩) (cS_at (k := 62) rfl (by decide) rfl) (by decide) rfl ?_
  refine ev_aload_n 22 rfl dX0_init_21 rfl rfl ?_
  refine ev_bipush 24 rfl dX0_init_22 (by decide) (by decide) ?_
  refine en_arr (kd := 0) (ms := 20) (by decide) 65 65 rfl (by decide) rfl rfl (lowR_mo (by decide) rP_66) (lowR_mo (by decide) rH_50) 26 rfl dX0_init_24 (by decide) (by decide) ?_
  refine en_putR (ki := 2) cP_67 rfl 29 rfl dX0_init_26 lf_0_20 (Or.inr ⟨rfl, fun q e => by cases e; rfl⟩) (cS_at (k := 62) rfl (by decide) rfl) (by decide) rfl ?_
  refine ev_aload_n 30 rfl dX0_init_29 rfl rfl ?_
  refine ev_iconst 31 rfl dX0_init_30 (by decide) ?_
  refine en_putI (ki := 3) cH_51 rfl 34 rfl dX0_init_31 lf_0_23 (Or.inr ⟨rfl, by decide, by decide⟩) (cS_at (k := 62) rfl (by decide) rfl) (by decide) rfl ?_
  refine ev_aload_n 35 rfl dX0_init_34 rfl rfl ?_
  refine ev_iconst 36 rfl dX0_init_35 (by decide) ?_
  refine en_putI (ki := 4) cH_52 rfl 39 rfl dX0_init_36 lf_0_27 (Or.inl rfl) (cS_at (k := 62) rfl (by decide) rfl) (by decide) rfl ?_
  refine ev_aload_n 40 rfl dX0_init_39 rfl rfl ?_
  refine ev_iconst 41 rfl dX0_init_40 (by decide) ?_
  refine en_putI (ki := 5) cH_53 rfl 44 rfl dX0_init_41 lf_0_31 (Or.inl rfl) (cS_at (k := 62) rfl (by decide) rfl) (by decide) rfl ?_
  refine ev_aload_n 45 rfl dX0_init_44 rfl rfl ?_
  refine ev_iconst 46 rfl dX0_init_45 (by decide) ?_
  refine en_putI (ki := 6) cH_54 rfl 49 rfl dX0_init_46 lf_0_34 (Or.inl rfl) (cS_at (k := 62) rfl (by decide) rfl) (by decide) rfl ?_
  exact ev_return dX0_init_49 rfl ⟨rfl, rfl⟩
theorem k_X0_init_66 {X : qX} {d : Nat} : Run X (d + 1) 3 3060 mX0_init [(2, 66)] (cS 67, cP_68, cH_54) (fun r g => r = none ∧ g = (cS 70, cP_71, cH_58)) := by
  show Ev X (d + 1) 3 3060 mX0_init 0 [(2, 66)] [] (cS 67, cP_68, cH_54) _
  refine ev_aload_n 1 rfl dX0_init_0 rfl rfl ?_
  refine ev_objInit 4 rfl dX0_init_1 lo_0_5 (by decide) (Nat.le_of_ble_eq_true rfl) (Nat.succ_le_succ (Nat.zero_le _)) ?_
  refine ev_aload_n 5 rfl dX0_init_4 rfl rfl ?_
  refine ev_sipush 8 rfl dX0_init_5 (by decide) (by decide) ?_
  refine en_arr (kd := 0) (ms := 3020) (by decide) 67 67 rfl (by decide) rfl rfl (lowR_mo (by decide) rP_68) (lowR_mo (by decide) rH_54) 10 rfl dX0_init_8 (by decide) (by decide) ?_
  refine en_putR (ki := 0) cP_69 rfl 13 rfl dX0_init_10 lf_0_13 (Or.inr ⟨rfl, fun q e => by cases e; rfl⟩) (cS_at (k := 66) rfl (by decide) rfl) (by decide) rfl ?_
  refine ev_aload_n 14 rfl dX0_init_13 rfl rfl ?_
  refine ev_bipush 16 rfl dX0_init_14 (by decide) (by decide) ?_
  refine en_arr (kd := 0) (ms := 20) (by decide) 68 68 rfl (by decide) rfl rfl (lowR_mo (by decide) rP_69) (lowR_mo (by decide) rH_54) 18 rfl dX0_init_16 (by decide) (by decide) ?_
  refine en_putR (ki := 1) cP_70 rfl 21 rfl dX0_init_18 lf_0_17 (Or.inr ⟨rfl, fun q e => by cases e; rfl⟩) (cS_at (k := 66) rfl (by decide) rfl) (by decide) rfl ?_
  refine ev_aload_n 22 rfl dX0_init_21 rfl rfl ?_
  refine ev_bipush 24 rfl dX0_init_22 (by decide) (by decide) ?_
  refine en_arr (kd := 0) (ms := 20) (by decide) 69 69 rfl (by decide) rfl rfl (lowR_mo (by decide) rP_70) (lowR_mo (by decide) rH_54) 26 rfl dX0_init_24 (by decide) (by decide) ?_
  refine en_putR (ki := 2) cP_71 rfl 29 rfl dX0_init_26 lf_0_20 (Or.inr ⟨rfl, fun q e => by cases e; rfl⟩) (cS_at (k := 66) rfl (by decide) rfl) (by decide) rfl ?_
  refine ev_aload_n 30 rfl dX0_init_29 rfl rfl ?_
  refine ev_iconst 31 rfl dX0_init_30 (by decide) ?_
  refine en_putI (ki := 3) cH_55 rfl 34 rfl dX0_init_31 lf_0_23 (Or.inr ⟨rfl, by decide, by decide⟩) (cS_at (k := 66) rfl (by decide) rfl) (by decide) rfl ?_
  refine ev_aload_n 35 rfl dX0_init_34 rfl rfl ?_
  refine ev_iconst 36 rfl dX0_init_35 (by decide) ?_
  refine en_putI (ki := 4) cH_56 rfl 39 rfl dX0_init_36 lf_0_27 (Or.inl rfl) (cS_at (k := 66) rfl (by decide) rfl) (by decide) rfl ?_
  refine ev_aload_n 40 rfl dX0_init_39 rfl rfl ?_
  refine ev_iconst 41 rfl dX0_init_40 (by decide) ?_
  refine en_putI (ki := 5) cH_57 rfl 44 rfl dX0_init_41 lf_0_31 (Or.inl rfl) (cS_at (k := 66) rfl (by decide) rfl) (by decide) rfl ?_
  refine ev_aload_n 45 rfl dX0_init_44 rfl rfl ?_
  refine ev_iconst 46 rfl dX0_init_45 (by decide) ?_
  refine en_putI (ki := 6) cH_58 rfl 49 rfl dX0_init_46 lf_0_34 (Or.inl rfl) (cS_at (k := 66) rfl (by decide) rfl) (by decide) rfl ?_
  exact ev_return dX0_init_49 rfl ⟨rfl, rfl⟩
theorem k_X8_init_70 {X : qX} {d : Nat} : Run X (d + 1) 1 40 mX8_init [(2, 70)] (cS 71, cP_72, cH_63) (fun r g => r = none ∧ g = (cS 72, cP_73, cH_66)) := by
  show Ev X (d + 1) 1 40 mX8_init 0 [(2, 70)] [] (cS 71, cP_72, cH_63) _
  refine ev_aload_n 1 rfl dX8_init_0 rfl rfl ?_
  refine ev_objInit 4 rfl dX8_init_1 lo_8_1 (by decide) (Nat.le_of_ble_eq_true rfl) (Nat.succ_le_succ (Nat.zero_le _)) ?_
  refine ev_aload_n 5 rfl dX8_init_4 rfl rfl ?_
  refine ev_bipush 7 rfl dX8_init_5 (by decide) (by decide) ?_
  refine en_arr (kd := 1) (ms := 40) (by decide) 71 71 rfl (by decide) rfl rfl (lowR_mo (by decide) rP_72) (lowR_mo (by decide) rH_63) 9 rfl dX8_init_7 (by decide) (by decide) ?_
  refine en_putR (ki := 0) cP_73 rfl 12 rfl dX8_init_9 lf_8_9 (Or.inr ⟨rfl, fun q e => by cases e; rfl⟩) (cS_at (k := 70) rfl (by decide) rfl) (by decide) rfl ?_
  refine ev_aload_n 13 rfl dX8_init_12 rfl rfl ?_
  refine ev_iconst 14 rfl dX8_init_13 (by decide) ?_
  refine en_putI (ki := 1) cH_64 rfl 17 rfl dX8_init_14 lf_8_13 (Or.inr ⟨rfl, by decide, by decide⟩) (cS_at (k := 70) rfl (by decide) rfl) (by decide) rfl ?_
  refine ev_aload_n 18 rfl dX8_init_17 rfl rfl ?_
  refine ev_iconst 19 rfl dX8_init_18 (by decide) ?_
  refine en_putI (ki := 2) cH_65 rfl 22 rfl dX8_init_19 lf_8_17 (Or.inl rfl) (cS_at (k := 70) rfl (by decide) rfl) (by decide) rfl ?_
  refine ev_aload_n 23 rfl dX8_init_22 rfl rfl ?_
  refine ev_iconst 24 rfl dX8_init_23 (by decide) ?_
  refine en_putI (ki := 3) cH_66 rfl 27 rfl dX8_init_24 lf_8_21 (Or.inl rfl) (cS_at (k := 70) rfl (by decide) rfl) (by decide) rfl ?_
  exact ev_return dX8_init_27 rfl ⟨rfl, rfl⟩
theorem k_X8_init_72 {X : qX} {d : Nat} : Run X (d + 1) 1 40 mX8_init [(2, 72)] (cS 73, cP_74, cH_66) (fun r g => r = none ∧ g = (cS 74, cP_75, cH_69)) := by
  show Ev X (d + 1) 1 40 mX8_init 0 [(2, 72)] [] (cS 73, cP_74, cH_66) _
  refine ev_aload_n 1 rfl dX8_init_0 rfl rfl ?_
  refine ev_objInit 4 rfl dX8_init_1 lo_8_1 (by decide) (Nat.le_of_ble_eq_true rfl) (Nat.succ_le_succ (Nat.zero_le _)) ?_
  refine ev_aload_n 5 rfl dX8_init_4 rfl rfl ?_
  refine ev_bipush 7 rfl dX8_init_5 (by decide) (by decide) ?_
  refine en_arr (kd := 1) (ms := 40) (by decide) 73 73 rfl (by decide) rfl rfl (lowR_mo (by decide) rP_74) (lowR_mo (by decide) rH_66) 9 rfl dX8_init_7 (by decide) (by decide) ?_
  refine en_putR (ki := 0) cP_75 rfl 12 rfl dX8_init_9 lf_8_9 (Or.inr ⟨rfl, fun q e => by cases e; rfl⟩) (cS_at (k := 72) rfl (by decide) rfl) (by decide) rfl ?_
  refine ev_aload_n 13 rfl dX8_init_12 rfl rfl ?_
  refine ev_iconst 14 rfl dX8_init_13 (by decide) ?_
  refine en_putI (ki := 1) cH_67 rfl 17 rfl dX8_init_14 lf_8_13 (Or.inr ⟨rfl, by decide, by decide⟩) (cS_at (k := 72) rfl (by decide) rfl) (by decide) rfl ?_
  refine ev_aload_n 18 rfl dX8_init_17 rfl rfl ?_
  refine ev_iconst 19 rfl dX8_init_18 (by decide) ?_
  refine en_putI (ki := 2) cH_68 rfl 22 rfl dX8_init_19 lf_8_17 (Or.inl rfl) (cS_at (k := 72) rfl (by decide) rfl) (by decide) rfl ?_
  refine ev_aload_n 23 rfl dX8_init_22 rfl rfl ?_
  refine ev_iconst 24 rfl dX8_init_23 (by decide) ?_
  refine en_putI (ki := 3) cH_69 rfl 27 rfl dX8_init_24 lf_8_21 (Or.inl rfl) (cS_at (k := 72) rfl (by decide) rfl) (by decide) rfl ?_
  exact ev_return dX8_init_27 rfl ⟨rfl, rfl⟩
theorem k_X8_init_74 {X : qX} {d : Nat} : Run X (d + 1) 1 40 mX8_init [(2, 74)] (cS 75, cP_76, cH_69) (fun r g => r = none ∧ g = (cS 76, cP_77, cH_72)) := by
  show Ev X (d + 1) 1 40 mX8_init 0 [(2, 74)] [] (cS 75, cP_76, cH_69) _
  refine ev_aload_n 1 rfl dX8_init_0 rfl rfl ?_
  refine ev_objInit 4 rfl dX8_init_1 lo_8_1 (by decide) (Nat.le_of_ble_eq_true rfl) (Nat.succ_le_succ (Nat.zero_le _)) ?_
  refine ev_aload_n 5 rfl dX8_init_4 rfl rfl ?_
  refine ev_bipush 7 rfl dX8_init_5 (by decide) (by decide) ?_
  refine en_arr (kd := 1) (ms := 40) (by decide) 75 75 rfl (by decide) rfl rfl (lowR_mo (by decide) rP_76) (lowR_mo (by decide) rH_69) 9 rfl dX8_init_7 (by decide) (by decide) ?_
  refine en_putR (ki := 0) cP_77 rfl 12 rfl dX8_init_9 lf_8_9 (Or.inr ⟨rfl, fun q e => by cases e; rfl⟩) (cS_at (k := 74) rfl (by decide) rfl) (by decide) rfl ?_
  refine ev_aload_n 13 rfl dX8_init_12 rfl rfl ?_
  refine ev_iconst 14 rfl dX8_init_13 (by decide) ?_
  refine en_putI (ki := 1) cH_70 rfl 17 rfl dX8_init_14 lf_8_13 (Or.inr ⟨rfl, by decide, by decide⟩) (cS_at (k := 74) rfl (by decide) rfl) (by decide) rfl ?_
  refine ev_aload_n 18 rfl dX8_init_17 rfl rfl ?_
  refine ev_iconst 19 rfl dX8_init_18 (by decide) ?_
  refine en_putI (ki := 2) cH_71 rfl 22 rfl dX8_init_19 lf_8_17 (Or.inl rfl) (cS_at (k := 74) rfl (by decide) rfl) (by decide) rfl ?_
  refine ev_aload_n 23 rfl dX8_init_22 rfl rfl ?_
  refine ev_iconst 24 rfl dX8_init_23 (by decide) ?_
  refine en_putI (ki := 3) cH_72 rfl 27 rfl dX8_init_24 lf_8_21 (Or.inl rfl) (cS_at (k := 74) rfl (by decide) rfl) (by decide) rfl ?_
  exact ev_return dX8_init_27 rfl ⟨rfl, rfl⟩
theorem k_X8_init_76 {X : qX} {d : Nat} : Run X (d + 1) 1 40 mX8_init [(2, 76)] (cS 77, cP_78, cH_72) (fun r g => r = none ∧ g = (cS 78, cP_79, cH_75)) := by
  show Ev X (d + 1) 1 40 mX8_init 0 [(2, 76)] [] (cS 77, cP_78, cH_72) _
  refine ev_aload_n 1 rfl dX8_init_0 rfl rfl ?_
  refine ev_objInit 4 rfl dX8_init_1 lo_8_1 (by decide) (Nat.le_of_ble_eq_true rfl) (Nat.succ_le_succ (Nat.zero_le _)) ?_
  refine ev_aload_n 5 rfl dX8_init_4 rfl rfl ?_
  refine ev_bipush 7 rfl dX8_init_5 (by decide) (by decide) ?_
  refine en_arr (kd := 1) (ms := 40) (by decide) 77 77 rfl (by decide) rfl rfl (lowR_mo (by decide) rP_78) (lowR_mo (by decide) rH_72) 9 rfl dX8_init_7 (by decide) (by decide) ?_
  refine en_putR (ki := 0) cP_79 rfl 12 rfl dX8_init_9 lf_8_9 (Or.inr ⟨rfl, fun q e => by cases e; rfl⟩) (cS_at (k := 76) rfl (by decide) rfl) (by decide) rfl ?_
  refine ev_aload_n 13 rfl dX8_init_12 rfl rfl ?_
  refine ev_iconst 14 rfl dX8_init_13 (by decide) ?_
  refine en_putI (ki := 1) cH_73 rfl 17 rfl dX8_init_14 lf_8_13 (Or.inr ⟨rfl, by decide, by decide⟩) (cS_at (k := 76) rfl (by decide) rfl) (by decide) rfl ?_
  refine ev_aload_n 18 rfl dX8_init_17 rfl rfl ?_
  refine ev_iconst 19 rfl dX8_init_18 (by decide) ?_
  refine en_putI (ki := 2) cH_74 rfl 22 rfl dX8_init_19 lf_8_17 (Or.inl rfl) (cS_at (k := 76) rfl (by decide) rfl) (by decide) rfl ?_
  refine ev_aload_n 23 rfl dX8_init_22 rfl rfl ?_
  refine ev_iconst 24 rfl dX8_init_23 (by decide) ?_
  refine en_putI (ki := 3) cH_75 rfl 27 rfl dX8_init_24 lf_8_21 (Or.inl rfl) (cS_at (k := 76) rfl (by decide) rfl) (by decide) rfl ?_
  exact ev_return dX8_init_27 rfl ⟨rfl, rfl⟩
theorem k_X10_init_0 {X : qX} {d : Nat} : Run X (d + 2) 77 11264 mX10_init [(2, 0)] (cS 1, cP_0, cH_0) (fun r g => r = none ∧ g = (cS 78, cP_80, cH_75)) := by
  show Ev X (d + 2) 77 11264 mX10_init 0 [(2, 0), (8, -1)] [] (cS 1, cP_0, cH_0) _
  refine ev_aload_n 1 rfl dX10_init_0 rfl rfl ?_
  refine ev_objInit 4 rfl dX10_init_1 lo_10_1 (by decide) (Nat.le_of_ble_eq_true rfl) (Nat.succ_le_succ (Nat.zero_le _)) ?_
  refine ev_aload_n 5 rfl dX10_init_4 rfl rfl ?_
  refine ev_iconst 6 rfl dX10_init_5 (by decide) ?_
  refine en_anew (ms := 4) 1 1 rfl (by decide) rfl rfl (lowR_mo (by decide) rP_0) (lowR_mo (by decide) rH_0) 9 rfl dX10_init_6 lc_10_9 (by decide) (by decide) ?_
  refine en_putR (ki := 0) cP_1 rfl 12 rfl dX10_init_9 lf_10_11 (Or.inr ⟨rfl, fun q e => by cases e; rfl⟩) (cS_at (k := 0) rfl (by decide) rfl) (by decide) rfl ?_
  refine ev_aload_n 13 rfl dX10_init_12 rfl rfl ?_
  refine en_new (ci := 2) (N := 10) (K := RX2) (T := TX2) 2 2 rfl (by decide) rfl (lowR_mo (by decide) rP_1) (lowR_mo (by decide) rH_0) 16 rfl dX10_init_13 lc_10_15 rfl (by decide) ?_
  refine ev_dup 17 rfl dX10_init_16 (by decide) ?_
  refine ev_callI (mc := 6) (ms := 116) (As := []) (rest := [(2, 2), (2, 0)]) 20 rfl dX10_init_17 (Or.inr ⟨_, lm_10_17⟩) mm_X2_init (by decide) rfl rfl (Nat.le_of_ble_eq_true rfl) (Nat.le_of_ble_eq_true rfl) (Nat.le_refl _) k_X2_init_2 ?_
  rintro _ _ ⟨rfl, rfl⟩
  refine en_putR (ki := 1) cP_8 rfl 23 rfl dX10_init_20 lf_10_18 (Or.inr ⟨rfl, fun q e => by cases e; rfl⟩) (cS_at (k := 0) rfl (by decide) rfl) (by decide) rfl ?_
  refine ev_aload_n 24 rfl dX10_init_23 rfl rfl ?_
  refine en_new (ci := 4) (N := 15) (K := RX4) (T := TX4) 9 9 rfl (by decide) rfl (lowR_mo (by decide) rP_8) (lowR_mo (by decide) rH_4) 27 rfl dX10_init_24 lc_10_22 rfl (by decide) ?_
  refine ev_dup 28 rfl dX10_init_27 (by decide) ?_
  refine ev_callI (mc := 2) (ms := 503) (As := []) (rest := [(2, 9), (2, 0)]) 31 rfl dX10_init_28 (Or.inr ⟨_, lm_10_24⟩) mm_X4_init (by decide) rfl rfl (Nat.le_of_ble_eq_true rfl) (Nat.le_of_ble_eq_true rfl) (Nat.le_refl _) k_X4_init_9 ?_
  rintro _ _ ⟨rfl, rfl⟩
  refine en_putR (ki := 2) cP_11 rfl 34 rfl dX10_init_31 lf_10_25 (Or.inr ⟨rfl, fun q e => by cases e; rfl⟩) (cS_at (k := 0) rfl (by decide) rfl) (by decide) rfl ?_
  refine ev_aload_n 35 rfl dX10_init_34 rfl rfl ?_
  refine en_new (ci := 1) (N := 13) (K := RX1) (T := TX1) 12 12 rfl (by decide) rfl (lowR_mo (by decide) rP_11) (lowR_mo (by decide) rH_17) 38 rfl dX10_init_35 lc_10_29 rfl (by decide) ?_
  refine ev_dup 39 rfl dX10_init_38 (by decide) ?_
  refine ev_callI (mc := 6) (ms := 86) (As := []) (rest := [(2, 12), (2, 0)]) 42 rfl dX10_init_39 (Or.inr ⟨_, lm_10_31⟩) mm_X1_init (by decide) rfl rfl (Nat.le_of_ble_eq_true rfl) (Nat.le_of_ble_eq_true rfl) (Nat.le_refl _) k_X1_init_12 ?_
  rintro _ _ ⟨rfl, rfl⟩
  refine en_putR (ki := 3) cP_18 rfl 45 rfl dX10_init_42 lf_10_32 (Or.inr ⟨rfl, fun q e => by cases e; rfl⟩) (cS_at (k := 0) rfl (by decide) rfl) (by decide) rfl ?_
  refine ev_aload_n 46 rfl dX10_init_45 rfl rfl ?_
  refine en_new (ci := 3) (N := 14) (K := RX3) (T := TX3) 19 19 rfl (by decide) rfl (lowR_mo (by decide) rP_18) (lowR_mo (by decide) rH_24) 49 rfl dX10_init_46 lc_10_36 rfl (by decide) ?_
  refine ev_dup 50 rfl dX10_init_49 (by decide) ?_
  refine ev_callI (mc := 8) (ms := 2838) (As := []) (rest := [(2, 19), (2, 0)]) 53 rfl dX10_init_50 (Or.inr ⟨_, lm_10_38⟩) mm_X3_init (by decide) rfl rfl (Nat.le_of_ble_eq_true rfl) (Nat.le_of_ble_eq_true rfl) (Nat.le_refl _) k_X3_init_19 ?_
  rintro _ _ ⟨rfl, rfl⟩
  refine en_putR (ki := 4) cP_27 rfl 56 rfl dX10_init_53 lf_10_39 (Or.inr ⟨rfl, fun q e => by cases e; rfl⟩) (cS_at (k := 0) rfl (by decide) rfl) (by decide) rfl ?_
  refine ev_aload_n 57 rfl dX10_init_56 rfl rfl ?_
  refine en_new (ci := 9) (N := 6) (K := RX9) (T := TX9) 28 28 rfl (by decide) rfl (lowR_mo (by decide) rP_27) (lowR_mo (by decide) rH_30) 60 rfl dX10_init_57 lc_10_43 rfl (by decide) ?_
  refine ev_dup 61 rfl dX10_init_60 (by decide) ?_
  refine ev_callI (mc := 1) (ms := 40) (As := []) (rest := [(2, 28), (2, 0)]) 64 rfl dX10_init_61 (Or.inr ⟨_, lm_10_45⟩) mm_X9_init (by decide) rfl rfl (Nat.le_of_ble_eq_true rfl) (Nat.le_of_ble_eq_true rfl) (Nat.le_refl _) k_X9_init_28 ?_
  rintro _ _ ⟨rfl, rfl⟩
  refine en_putR (ki := 5) cP_32 rfl 67 rfl dX10_init_64 lf_10_46 (Or.inr ⟨rfl, fun q e => by cases e; rfl⟩) (cS_at (k := 0) rfl (by decide) rfl) (by decide) rfl ?_
  refine ev_aload_n 68 rfl dX10_init_67 rfl rfl ?_
  refine en_new (ci := 5) (N := 14) (K := RX5) (T := TX5) 30 30 rfl (by decide) rfl (lowR_mo (by decide) rP_32) (lowR_mo (by decide) rH_32) 71 rfl dX10_init_68 lc_10_50 rfl (by decide) ?_
  refine ev_dup 72 rfl dX10_init_71 (by decide) ?_
  refine ev_callI (mc := 10) (ms := 348) (As := []) (rest := [(2, 30), (2, 0)]) 75 rfl dX10_init_72 (Or.inr ⟨_, lm_10_52⟩) mm_X5_init (by decide) rfl rfl (Nat.le_of_ble_eq_true rfl) (Nat.le_of_ble_eq_true rfl) (Nat.le_refl _) k_X5_init_30 ?_
  rintro _ _ ⟨rfl, rfl⟩
  refine en_putR (ki := 6) cP_43 rfl 78 rfl dX10_init_75 lf_10_53 (Or.inr ⟨rfl, fun q e => by cases e; rfl⟩) (cS_at (k := 0) rfl (by decide) rfl) (by decide) rfl ?_
  refine ev_aload_n 79 rfl dX10_init_78 rfl rfl ?_
  refine en_new (ci := 6) (N := 6) (K := RX6) (T := TX6) 41 41 rfl (by decide) rfl (lowR_mo (by decide) rP_43) (lowR_mo (by decide) rH_36) 82 rfl dX10_init_79 lc_10_57 rfl (by decide) ?_
  refine ev_dup 83 rfl dX10_init_82 (by decide) ?_
  refine ev_callI (mc := 2) (ms := 165) (As := []) (rest := [(2, 41), (2, 0)]) 86 rfl dX10_init_83 (Or.inl lm_10_59) mm_X6_init (by decide) rfl rfl (Nat.le_of_ble_eq_true rfl) (Nat.le_of_ble_eq_true rfl) (Nat.le_refl _) k_X6_init_41 ?_
  rintro _ _ ⟨rfl, rfl⟩
  refine en_putR (ki := 7) cP_46 rfl 89 rfl dX10_init_86 lf_10_60 (Or.inr ⟨rfl, fun q e => by cases e; rfl⟩) (cS_at (k := 0) rfl (by decide) rfl) (by decide) rfl ?_
  refine ev_aload_n 90 rfl dX10_init_89 rfl rfl ?_
  refine en_new (ci := 7) (N := 12) (K := RX7) (T := TX7) 44 44 rfl (by decide) rfl (lowR_mo (by decide) rP_46) (lowR_mo (by decide) rH_42) 93 rfl dX10_init_90 lc_10_64 rfl (by decide) ?_
  refine ev_dup 94 rfl dX10_init_93 (by decide) ?_
  refine ev_callI (mc := 8) (ms := 376) (As := []) (rest := [(2, 44), (2, 0)]) 97 rfl dX10_init_94 (Or.inr ⟨_, lm_10_66⟩) mm_X7_init (by decide) rfl rfl (Nat.le_of_ble_eq_true rfl) (Nat.le_of_ble_eq_true rfl) (Nat.le_refl _) k_X7_init_44 ?_
  rintro _ _ ⟨rfl, rfl⟩
  refine en_putR (ki := 8) cP_55 rfl 100 rfl dX10_init_97 lf_10_67 (Or.inl rfl) (cS_at (k := 0) rfl (by decide) rfl) (by decide) rfl ?_
  refine ev_aload_n 101 rfl dX10_init_100 rfl rfl ?_
  refine en_new (ci := 7) (N := 12) (K := RX7) (T := TX7) 53 53 rfl (by decide) rfl (lowR_mo (by decide) rP_55) (lowR_mo (by decide) rH_46) 104 rfl dX10_init_101 lc_10_64 rfl (by decide) ?_
  refine ev_dup 105 rfl dX10_init_104 (by decide) ?_
  refine ev_callI (mc := 8) (ms := 376) (As := []) (rest := [(2, 53), (2, 0)]) 108 rfl dX10_init_105 (Or.inr ⟨_, lm_10_66⟩) mm_X7_init (by decide) rfl rfl (Nat.le_of_ble_eq_true rfl) (Nat.le_of_ble_eq_true rfl) (Nat.le_refl _) k_X7_init_53 ?_
  rintro _ _ ⟨rfl, rfl⟩
  refine en_putR (ki := 9) cP_64 rfl 111 rfl dX10_init_108 lf_10_71 (Or.inl rfl) (cS_at (k := 0) rfl (by decide) rfl) (by decide) rfl ?_
  refine ev_aload_n 112 rfl dX10_init_111 rfl rfl ?_
  refine en_new (ci := 0) (N := 7) (K := RX0) (T := TX0) 62 62 rfl (by decide) rfl (lowR_mo (by decide) rP_64) (lowR_mo (by decide) rH_50) 115 rfl dX10_init_112 lc_10_74 rfl (by decide) ?_
  refine ev_dup 116 rfl dX10_init_115 (by decide) ?_
  refine ev_callI (mc := 3) (ms := 3060) (As := []) (rest := [(2, 62), (2, 0)]) 119 rfl dX10_init_116 (Or.inr ⟨_, lm_10_76⟩) mm_X0_init (by decide) rfl rfl (Nat.le_of_ble_eq_true rfl) (Nat.le_of_ble_eq_true rfl) (Nat.le_refl _) k_X0_init_62 ?_
  rintro _ _ ⟨rfl, rfl⟩
  refine en_putR (ki := 10) cP_68 rfl 122 rfl dX10_init_119 lf_10_77 (Or.inl rfl) (cS_at (k := 0) rfl (by decide) rfl) (by decide) rfl ?_
  refine ev_aload_n 123 rfl dX10_init_122 rfl rfl ?_
  refine en_new (ci := 0) (N := 7) (K := RX0) (T := TX0) 66 66 rfl (by decide) rfl (lowR_mo (by decide) rP_68) (lowR_mo (by decide) rH_54) 126 rfl dX10_init_123 lc_10_74 rfl (by decide) ?_
  refine ev_dup 127 rfl dX10_init_126 (by decide) ?_
  refine ev_callI (mc := 3) (ms := 3060) (As := []) (rest := [(2, 66), (2, 0)]) 130 rfl dX10_init_127 (Or.inr ⟨_, lm_10_76⟩) mm_X0_init (by decide) rfl rfl (Nat.le_of_ble_eq_true rfl) (Nat.le_of_ble_eq_true rfl) (Nat.le_refl _) k_X0_init_66 ?_
  rintro _ _ ⟨rfl, rfl⟩
  refine en_putR (ki := 11) cP_72 rfl 133 rfl dX10_init_130 lf_10_81 (Or.inl rfl) (cS_at (k := 0) rfl (by decide) rfl) (by decide) rfl ?_
  refine ev_aload_n 134 rfl dX10_init_133 rfl rfl ?_
  refine ev_iconst 135 rfl dX10_init_134 (by decide) ?_
  refine en_putI (ki := 12) cH_59 rfl 138 rfl dX10_init_135 lf_10_84 (Or.inl rfl) (cS_at (k := 0) rfl (by decide) rfl) (by decide) rfl ?_
  refine ev_aload_n 139 rfl dX10_init_138 rfl rfl ?_
  refine ev_iconst 140 rfl dX10_init_139 (by decide) ?_
  refine en_putI (ki := 13) cH_60 rfl 143 rfl dX10_init_140 lf_10_88 (Or.inl rfl) (cS_at (k := 0) rfl (by decide) rfl) (by decide) rfl ?_
  refine ev_aload_n 144 rfl dX10_init_143 rfl rfl ?_
  refine ev_iconst 145 rfl dX10_init_144 (by decide) ?_
  refine en_putI (ki := 14) cH_61 rfl 148 rfl dX10_init_145 lf_10_91 (Or.inl rfl) (cS_at (k := 0) rfl (by decide) rfl) (by decide) rfl ?_
  refine ev_aload_n 149 rfl dX10_init_148 rfl rfl ?_
  refine ev_iconst 150 rfl dX10_init_149 (by decide) ?_
  refine en_putI (ki := 15) cH_62 rfl 153 rfl dX10_init_150 lf_10_94 (Or.inl rfl) (cS_at (k := 0) rfl (by decide) rfl) (by decide) rfl ?_
  refine ev_aload_n 154 rfl dX10_init_153 rfl rfl ?_
  refine ev_iconst 155 rfl dX10_init_154 (by decide) ?_
  refine en_putI (ki := 16) cH_63 rfl 158 rfl dX10_init_155 lf_10_97 (Or.inl rfl) (cS_at (k := 0) rfl (by decide) rfl) (by decide) rfl ?_
  refine ev_iconst 159 rfl dX10_init_158 (by decide) ?_
  refine ev_istore_n 160 rfl dX10_init_159 rfl (by decide) rfl ?_
  refine ev_iload_n 161 rfl dX10_init_160 rfl rfl ?_
  refine ev_iconst 162 rfl dX10_init_161 (by decide) ?_
  refine ev_icmp_ge (tgt := 184) 165 rfl dX10_init_162 (by decide) (fun c => absurd c (by decide)) (fun _ => ?_)
  refine ev_aload_n 166 rfl dX10_init_165 rfl rfl ?_
  refine ev_getR (ki := 0) (v := 1) 169 rfl dX10_init_166 lf_10_11 (cS_at (k := 0) rfl (by decide) rfl) (by decide) rfl (by decide +kernel) ?_
  refine ev_iload_n 170 rfl dX10_init_169 rfl rfl ?_
  refine en_new (ci := 8) (N := 4) (K := RX8) (T := TX8) 70 70 rfl (by decide) rfl (lowR_mo (by decide) rP_72) (lowR_mo (by decide) rH_63) 173 rfl dX10_init_170 lc_10_9 rfl (by decide) ?_
  refine ev_dup 174 rfl dX10_init_173 (by decide) ?_
  refine ev_callI (mc := 1) (ms := 40) (As := []) (rest := [(2, 70), (0, 0), (2, 1)]) 177 rfl dX10_init_174 (Or.inr ⟨_, lm_10_100⟩) mm_X8_init (by decide) rfl rfl (Nat.le_of_ble_eq_true rfl) (Nat.le_of_ble_eq_true rfl) (Nat.le_refl _) k_X8_init_70 ?_
  rintro _ _ ⟨rfl, rfl⟩
  refine en_aas (n := 4) (N := 4) cP_74 rfl 178 rfl dX10_init_177 (cS_at (k := 1) rfl (by decide) rfl) (cS_at (k := 70) rfl (by decide) rfl) (by decide) (by decide) ?_
  refine ev_iinc (i := 1) 181 rfl dX10_init_178 rfl (by decide) (by decide) rfl ?_
  show Ev X _ _ _ _ _ [(2, 0), (0, 1)] _ _ _
  refine ev_goto (tgt := 160) dX10_init_181 (by decide) ?_
  refine ev_iload_n 161 rfl dX10_init_160 rfl rfl ?_
  refine ev_iconst 162 rfl dX10_init_161 (by decide) ?_
  refine ev_icmp_ge (tgt := 184) 165 rfl dX10_init_162 (by decide) (fun c => absurd c (by decide)) (fun _ => ?_)
  refine ev_aload_n 166 rfl dX10_init_165 rfl rfl ?_
  refine ev_getR (ki := 0) (v := 1) 169 rfl dX10_init_166 lf_10_11 (cS_at (k := 0) rfl (by decide) rfl) (by decide) rfl (by decide +kernel) ?_
  refine ev_iload_n 170 rfl dX10_init_169 rfl rfl ?_
  refine en_new (ci := 8) (N := 4) (K := RX8) (T := TX8) 72 72 rfl (by decide) rfl (lowR_mo (by decide) rP_74) (lowR_mo (by decide) rH_66) 173 rfl dX10_init_170 lc_10_9 rfl (by decide) ?_
  refine ev_dup 174 rfl dX10_init_173 (by decide) ?_
  refine ev_callI (mc := 1) (ms := 40) (As := []) (rest := [(2, 72), (0, 1), (2, 1)]) 177 rfl dX10_init_174 (Or.inr ⟨_, lm_10_100⟩) mm_X8_init (by decide) rfl rfl (Nat.le_of_ble_eq_true rfl) (Nat.le_of_ble_eq_true rfl) (Nat.le_refl _) k_X8_init_72 ?_
  rintro _ _ ⟨rfl, rfl⟩
  refine en_aas (n := 4) (N := 4) cP_76 rfl 178 rfl dX10_init_177 (cS_at (k := 1) rfl (by decide) rfl) (cS_at (k := 72) rfl (by decide) rfl) (by decide) (by decide) ?_
  refine ev_iinc (i := 1) 181 rfl dX10_init_178 rfl (by decide) (by decide) rfl ?_
  show Ev X _ _ _ _ _ [(2, 0), (0, 2)] _ _ _
  refine ev_goto (tgt := 160) dX10_init_181 (by decide) ?_
  refine ev_iload_n 161 rfl dX10_init_160 rfl rfl ?_
  refine ev_iconst 162 rfl dX10_init_161 (by decide) ?_
  refine ev_icmp_ge (tgt := 184) 165 rfl dX10_init_162 (by decide) (fun c => absurd c (by decide)) (fun _ => ?_)
  refine ev_aload_n 166 rfl dX10_init_165 rfl rfl ?_
  refine ev_getR (ki := 0) (v := 1) 169 rfl dX10_init_166 lf_10_11 (cS_at (k := 0) rfl (by decide) rfl) (by decide) rfl (by decide +kernel) ?_
  refine ev_iload_n 170 rfl dX10_init_169 rfl rfl ?_
  refine en_new (ci := 8) (N := 4) (K := RX8) (T := TX8) 74 74 rfl (by decide) rfl (lowR_mo (by decide) rP_76) (lowR_mo (by decide) rH_69) 173 rfl dX10_init_170 lc_10_9 rfl (by decide) ?_
  refine ev_dup 174 rfl dX10_init_173 (by decide) ?_
  refine ev_callI (mc := 1) (ms := 40) (As := []) (rest := [(2, 74), (0, 2), (2, 1)]) 177 rfl dX10_init_174 (Or.inr ⟨_, lm_10_100⟩) mm_X8_init (by decide) rfl rfl (Nat.le_of_ble_eq_true rfl) (Nat.le_of_ble_eq_true rfl) (Nat.le_refl _) k_X8_init_74 ?_
  rintro _ _ ⟨rfl, rfl⟩
  refine en_aas (n := 4) (N := 4) cP_78 rfl 178 rfl dX10_init_177 (cS_at (k := 1) rfl (by decide) rfl) (cS_at (k := 74) rfl (by decide) rfl) (by decide) (by decide) ?_
  refine ev_iinc (i := 1) 181 rfl dX10_init_178 rfl (by decide) (by decide) rfl ?_
  show Ev X _ _ _ _ _ [(2, 0), (0, 3)] _ _ _
  refine ev_goto (tgt := 160) dX10_init_181 (by decide) ?_
  refine ev_iload_n 161 rfl dX10_init_160 rfl rfl ?_
  refine ev_iconst 162 rfl dX10_init_161 (by decide) ?_
  refine ev_icmp_ge (tgt := 184) 165 rfl dX10_init_162 (by decide) (fun c => absurd c (by decide)) (fun _ => ?_)
  refine ev_aload_n 166 rfl dX10_init_165 rfl rfl ?_
  refine ev_getR (ki := 0) (v := 1) 169 rfl dX10_init_166 lf_10_11 (cS_at (k := 0) rfl (by decide) rfl) (by decide) rfl (by decide +kernel) ?_
  refine ev_iload_n 170 rfl dX10_init_169 rfl rfl ?_
  refine en_new (ci := 8) (N := 4) (K := RX8) (T := TX8) 76 76 rfl (by decide) rfl (lowR_mo (by decide) rP_78) (lowR_mo (by decide) rH_72) 173 rfl dX10_init_170 lc_10_9 rfl (by decide) ?_
  refine ev_dup 174 rfl dX10_init_173 (by decide) ?_
  refine ev_callI (mc := 1) (ms := 40) (As := []) (rest := [(2, 76), (0, 3), (2, 1)]) 177 rfl dX10_init_174 (Or.inr ⟨_, lm_10_100⟩) mm_X8_init (by decide) rfl rfl (Nat.le_of_ble_eq_true rfl) (Nat.le_of_ble_eq_true rfl) (Nat.le_refl _) k_X8_init_76 ?_
  rintro _ _ ⟨rfl, rfl⟩
  refine en_aas (n := 4) (N := 4) cP_80 rfl 178 rfl dX10_init_177 (cS_at (k := 1) rfl (by decide) rfl) (cS_at (k := 76) rfl (by decide) rfl) (by decide) (by decide) ?_
  refine ev_iinc (i := 1) 181 rfl dX10_init_178 rfl (by decide) (by decide) rfl ?_
  show Ev X _ _ _ _ _ [(2, 0), (0, 4)] _ _ _
  refine ev_goto (tgt := 160) dX10_init_181 (by decide) ?_
  refine ev_iload_n 161 rfl dX10_init_160 rfl rfl ?_
  refine ev_iconst 162 rfl dX10_init_161 (by decide) ?_
  refine ev_icmp_ge (tgt := 184) 165 rfl dX10_init_162 (by decide) (fun _ => ?_) (fun c => absurd c (by decide))
  exact ev_return dX10_init_184 rfl ⟨rfl, rfl⟩
theorem lp_80 {X : qX} {d rc rs : Nat} {Q : Option qV → qG → Prop} (k : Ev X (d + 1) rc rs mX11_init 536 [(2, 78), (0, 4)] [] (cS 136, cP_137, cH_85) Q) : Ev X (d + 1) rc rs mX11_init 518 [(2, 78), (0, 0)] [] (cS 136, cP_137, cH_84) Q := by
  have z : ∀ (u : Nat) (j : Int), j + u = 4 → 0 ≤ j → Ev X (d + 1) rc rs mX11_init 518 [(2, 78), (0, j)] [] (cS 136, cP_137, qfr cH_84 80 j (-1)) Q := by
    intro u
    induction u with
    | zero =>
      intro j e j0
      refine ev_iload_n 519 rfl dX11_init_518 rfl rfl ?_
      refine ev_iconst 520 rfl dX11_init_519 (by decide) ?_
      refine ev_icmp_ge (tgt := 536) 523 rfl dX11_init_520 (by decide) (fun _ => ?_) (fun c => absurd c (by omega))
      have ej : j = 4 := by omega
      subst ej
      exact k
    | succ u ih =>
      intro j e j0
      refine ev_iload_n 519 rfl dX11_init_518 rfl rfl ?_
      refine ev_iconst 520 rfl dX11_init_519 (by decide) ?_
      refine ev_icmp_ge (tgt := 536) 523 rfl dX11_init_520 (by decide) (fun c => absurd c (by omega)) (fun _ => ?_)
      refine ev_aload_n 524 rfl dX11_init_523 rfl rfl ?_
      refine ev_getR (ki := 5) (v := 80) 527 rfl dX11_init_524 lf_11_17 (cS_at (k := 78) rfl (by decide) rfl) (by decide) rfl (by decide +kernel) ?_
      refine ev_iload_n 528 rfl dX11_init_527 rfl rfl ?_
      refine ev_iconst 529 rfl dX11_init_528 (by decide) ?_
      refine ev_iastore (n := 4) 530 rfl dX11_init_529 (cS_at (k := 80) rfl (by decide) rfl) j0 (by omega) ?_
      rw [qfr_s j0]
      refine ev_iinc (i := 1) 533 rfl dX11_init_530 rfl ⟨by omega, by omega⟩ (by decide) rfl ?_
      exact ev_goto (tgt := 518) dX11_init_533 (by decide) (ih (j + 1) (by omega) (by omega))
  have y := z 4 0 rfl (by decide)
  rw [qfr_0] at y
  exact y
theorem lp_134 {X : qX} {d rc rs : Nat} {Q : Option qV → qG → Prop} (k : Ev X (d + 1) rc rs mX11_init 558 [(2, 78), (0, 162)] [] (cS 136, cP_137, cH_86) Q) : Ev X (d + 1) rc rs mX11_init 538 [(2, 78), (0, 0)] [] (cS 136, cP_137, cH_85) Q := by
  have z : ∀ (u : Nat) (j : Int), j + u = 162 → 0 ≤ j → Ev X (d + 1) rc rs mX11_init 538 [(2, 78), (0, j)] [] (cS 136, cP_137, qfr cH_85 134 j (-1)) Q := by
    intro u
    induction u with
    | zero =>
      intro j e j0
      refine ev_iload_n 539 rfl dX11_init_538 rfl rfl ?_
      refine ev_sipush 542 rfl dX11_init_539 (by decide) (by decide) ?_
      refine ev_icmp_ge (tgt := 558) 545 rfl dX11_init_542 (by decide) (fun _ => ?_) (fun c => absurd c (by omega))
      have ej : j = 162 := by omega
      subst ej
      exact k
    | succ u ih =>
      intro j e j0
      refine ev_iload_n 539 rfl dX11_init_538 rfl rfl ?_
      refine ev_sipush 542 rfl dX11_init_539 (by decide) (by decide) ?_
      refine ev_icmp_ge (tgt := 558) 545 rfl dX11_init_542 (by decide) (fun c => absurd c (by omega)) (fun _ => ?_)
      refine ev_aload_n 546 rfl dX11_init_545 rfl rfl ?_
      refine ev_getR (ki := 98) (v := 134) 549 rfl dX11_init_546 lf_11_207 (cS_at (k := 78) rfl (by decide) rfl) (by decide) rfl (by decide +kernel) ?_
      refine ev_iload_n 550 rfl dX11_init_549 rfl rfl ?_
      refine ev_iconst 551 rfl dX11_init_550 (by decide) ?_
      refine ev_iastore (n := 162) 552 rfl dX11_init_551 (cS_at (k := 134) rfl (by decide) rfl) j0 (by omega) ?_
      rw [qfr_s j0]
      refine ev_iinc (i := 1) 555 rfl dX11_init_552 rfl ⟨by omega, by omega⟩ (by decide) rfl ?_
      exact ev_goto (tgt := 538) dX11_init_555 (by decide) (ih (j + 1) (by omega) (by omega))
  have y := z 162 0 rfl (by decide)
  rw [qfr_0] at y
  exact y
theorem lp_135 {X : qX} {d rc rs : Nat} {Q : Option qV → qG → Prop} (k : Ev X (d + 1) rc rs mX11_init 578 [(2, 78), (0, 3)] [] (cS 136, cP_137, cH_87) Q) : Ev X (d + 1) rc rs mX11_init 560 [(2, 78), (0, 0)] [] (cS 136, cP_137, cH_86) Q := by
  have z : ∀ (u : Nat) (j : Int), j + u = 3 → 0 ≤ j → Ev X (d + 1) rc rs mX11_init 560 [(2, 78), (0, j)] [] (cS 136, cP_137, qfr cH_86 135 j 1) Q := by
    intro u
    induction u with
    | zero =>
      intro j e j0
      refine ev_iload_n 561 rfl dX11_init_560 rfl rfl ?_
      refine ev_iconst 562 rfl dX11_init_561 (by decide) ?_
      refine ev_icmp_ge (tgt := 578) 565 rfl dX11_init_562 (by decide) (fun _ => ?_) (fun c => absurd c (by omega))
      have ej : j = 3 := by omega
      subst ej
      exact k
    | succ u ih =>
      intro j e j0
      refine ev_iload_n 561 rfl dX11_init_560 rfl rfl ?_
      refine ev_iconst 562 rfl dX11_init_561 (by decide) ?_
      refine ev_icmp_ge (tgt := 578) 565 rfl dX11_init_562 (by decide) (fun c => absurd c (by omega)) (fun _ => ?_)
      refine ev_aload_n 566 rfl dX11_init_565 rfl rfl ?_
      refine ev_getR (ki := 99) (v := 135) 569 rfl dX11_init_566 lf_11_210 (cS_at (k := 78) rfl (by decide) rfl) (by decide) rfl (by decide +kernel) ?_
      refine ev_iload_n 570 rfl dX11_init_569 rfl rfl ?_
      refine ev_iconst 571 rfl dX11_init_570 (by decide) ?_
      refine ev_iastore (n := 3) 572 rfl dX11_init_571 (cS_at (k := 135) rfl (by decide) rfl) j0 (by omega) ?_
      rw [qfr_s j0]
      refine ev_iinc (i := 1) 575 rfl dX11_init_572 rfl ⟨by omega, by omega⟩ (by decide) rfl ?_
      exact ev_goto (tgt := 560) dX11_init_575 (by decide) (ih (j + 1) (by omega) (by omega))
  have y := z 3 0 rfl (by decide)
  rw [qfr_0] at y
  exact y
theorem k_X11_init_78 {X : qX} {d : Nat} : Run X (d + 1) 57 82721 mX11_init [(2, 78)] (cS 79, cP_80, cH_75) (fun r g => r = none ∧ g = (cS 136, cP_137, cH_87)) := by
  show Ev X (d + 1) 57 82721 mX11_init 0 [(2, 78), (8, -1)] [] (cS 79, cP_80, cH_75) _
  refine ev_aload_n 1 rfl dX11_init_0 rfl rfl ?_
  refine ev_objInit 4 rfl dX11_init_1 lo_11_1 (by decide) (Nat.le_of_ble_eq_true rfl) (Nat.succ_le_succ (Nat.zero_le _)) ?_
  refine ev_aload_n 5 rfl dX11_init_4 rfl rfl ?_
  refine ev_lconst (v := 1) 6 rfl dX11_init_5 (by decide) (by decide) ?_
  refine en_putL (ki := 3) cH_76 rfl 9 rfl dX11_init_6 lf_11_7 (cS_at (k := 78) rfl (by decide) rfl) (by decide) rfl ?_
  refine ev_aload_n 10 rfl dX11_init_9 rfl rfl ?_
  refine ev_iconst 11 rfl dX11_init_10 (by decide) ?_
  refine en_arr (kd := 0) (ms := 4) (by decide) 79 79 rfl (by decide) rfl rfl (lowR_mo (by decide) rP_80) (lowR_mo (by decide) rH_76) 13 rfl dX11_init_11 (by decide) (by decide) ?_
  refine en_putR (ki := 4) cP_81 rfl 16 rfl dX11_init_13 lf_11_13 (Or.inr ⟨rfl, fun q e => by cases e; rfl⟩) (cS_at (k := 78) rfl (by decide) rfl) (by decide) rfl ?_
  refine ev_aload_n 17 rfl dX11_init_16 rfl rfl ?_
  refine ev_iconst 18 rfl dX11_init_17 (by decide) ?_
  refine en_arr (kd := 0) (ms := 4) (by decide) 80 80 rfl (by decide) rfl rfl (lowR_mo (by decide) rP_81) (lowR_mo (by decide) rH_76) 20 rfl dX11_init_18 (by decide) (by decide) ?_
  refine en_putR (ki := 5) cP_82 rfl 23 rfl dX11_init_20 lf_11_17 (Or.inr ⟨rfl, fun q e => by cases e; rfl⟩) (cS_at (k := 78) rfl (by decide) rfl) (by decide) rfl ?_
  refine ev_aload_n 24 rfl dX11_init_23 rfl rfl ?_
  refine ev_sipush 27 rfl dX11_init_24 (by decide) (by decide) ?_
  refine en_arr (kd := 1) (ms := 160) (by decide) 81 81 rfl (by decide) rfl rfl (lowR_mo (by decide) rP_82) (lowR_mo (by decide) rH_76) 29 rfl dX11_init_27 (by decide) (by decide) ?_
  refine en_putR (ki := 6) cP_83 rfl 32 rfl dX11_init_29 lf_11_20 (Or.inr ⟨rfl, fun q e => by cases e; rfl⟩) (cS_at (k := 78) rfl (by decide) rfl) (by decide) rfl ?_
  refine ev_aload_n 33 rfl dX11_init_32 rfl rfl ?_
  refine ev_iconst 34 rfl dX11_init_33 (by decide) ?_
  refine en_putI (ki := 10) cH_77 rfl 37 rfl dX11_init_34 lf_11_24 (Or.inl rfl) (cS_at (k := 78) rfl (by decide) rfl) (by decide) rfl ?_
  refine ev_aload_n 38 rfl dX11_init_37 rfl rfl ?_
  refine ev_bipush 40 rfl dX11_init_38 (by decide) (by decide) ?_
  refine en_arr (kd := 0) (ms := 20) (by decide) 82 82 rfl (by decide) rfl rfl (lowR_mo (by decide) rP_83) (lowR_mo (by decide) rH_77) 42 rfl dX11_init_40 (by decide) (by decide) ?_
  refine en_putR (ki := 11) cP_84 rfl 45 rfl dX11_init_42 lf_11_28 (Or.inr ⟨rfl, fun q e => by cases e; rfl⟩) (cS_at (k := 78) rfl (by decide) rfl) (by decide) rfl ?_
  refine ev_aload_n 46 rfl dX11_init_45 rfl rfl ?_
  refine ev_bipush 48 rfl dX11_init_46 (by decide) (by decide) ?_
  refine en_arr (kd := 0) (ms := 20) (by decide) 83 83 rfl (by decide) rfl rfl (lowR_mo (by decide) rP_84) (lowR_mo (by decide) rH_77) 50 rfl dX11_init_48 (by decide) (by decide) ?_
  refine en_putR (ki := 12) cP_85 rfl 53 rfl dX11_init_50 lf_11_31 (Or.inr ⟨rfl, fun q e => by cases e; rfl⟩) (cS_at (k := 78) rfl (by decide) rfl) (by decide) rfl ?_
  refine ev_aload_n 54 rfl dX11_init_53 rfl rfl ?_
  refine ev_bipush 56 rfl dX11_init_54 (by decide) (by decide) ?_
  refine en_arr (kd := 0) (ms := 20) (by decide) 84 84 rfl (by decide) rfl rfl (lowR_mo (by decide) rP_85) (lowR_mo (by decide) rH_77) 58 rfl dX11_init_56 (by decide) (by decide) ?_
  refine en_putR (ki := 13) cP_86 rfl 61 rfl dX11_init_58 lf_11_34 (Or.inr ⟨rfl, fun q e => by cases e; rfl⟩) (cS_at (k := 78) rfl (by decide) rfl) (by decide) rfl ?_
  refine ev_aload_n 62 rfl dX11_init_61 rfl rfl ?_
  refine ev_bipush 64 rfl dX11_init_62 (by decide) (by decide) ?_
  refine en_arr (kd := 0) (ms := 8) (by decide) 85 85 rfl (by decide) rfl rfl (lowR_mo (by decide) rP_86) (lowR_mo (by decide) rH_77) 66 rfl dX11_init_64 (by decide) (by decide) ?_
  refine en_putR (ki := 14) cP_87 rfl 69 rfl dX11_init_66 lf_11_37 (Or.inr ⟨rfl, fun q e => by cases e; rfl⟩) (cS_at (k := 78) rfl (by decide) rfl) (by decide) rfl ?_
  refine ev_aload_n 70 rfl dX11_init_69 rfl rfl ?_
  refine ev_sipush 73 rfl dX11_init_70 (by decide) (by decide) ?_
  refine en_arr (kd := 3) (ms := 2400) (by decide) 86 86 rfl (by decide) rfl rfl (lowR_mo (by decide) rP_87) (lowR_mo (by decide) rH_77) 75 rfl dX11_init_73 (by decide) (by decide) ?_
  refine en_putR (ki := 15) cP_88 rfl 78 rfl dX11_init_75 lf_11_40 (Or.inr ⟨rfl, fun q e => by cases e; rfl⟩) (cS_at (k := 78) rfl (by decide) rfl) (by decide) rfl ?_
  refine ev_aload_n 79 rfl dX11_init_78 rfl rfl ?_
  refine ev_bipush 81 rfl dX11_init_79 (by decide) (by decide) ?_
  refine en_arr (kd := 1) (ms := 8) (by decide) 87 87 rfl (by decide) rfl rfl (lowR_mo (by decide) rP_88) (lowR_mo (by decide) rH_77) 83 rfl dX11_init_81 (by decide) (by decide) ?_
  refine en_putR (ki := 16) cP_89 rfl 86 rfl dX11_init_83 lf_11_44 (Or.inr ⟨rfl, fun q e => by cases e; rfl⟩) (cS_at (k := 78) rfl (by decide) rfl) (by decide) rfl ?_
  refine ev_aload_n 87 rfl dX11_init_86 rfl rfl ?_
  refine ev_sipush 90 rfl dX11_init_87 (by decide) (by decide) ?_
  refine en_arr (kd := 2) (ms := 500) (by decide) 88 88 rfl (by decide) rfl rfl (lowR_mo (by decide) rP_89) (lowR_mo (by decide) rH_77) 92 rfl dX11_init_90 (by decide) (by decide) ?_
  refine en_putR (ki := 17) cP_90 rfl 95 rfl dX11_init_92 lf_11_47 (Or.inr ⟨rfl, fun q e => by cases e; rfl⟩) (cS_at (k := 78) rfl (by decide) rfl) (by decide) rfl ?_
  refine ev_aload_n 96 rfl dX11_init_95 rfl rfl ?_
  refine ev_iconst 97 rfl dX11_init_96 (by decide) ?_
  refine en_putI (ki := 20) cH_78 rfl 100 rfl dX11_init_97 lf_11_51 (Or.inl rfl) (cS_at (k := 78) rfl (by decide) rfl) (by decide) rfl ?_
  refine ev_aload_n 101 rfl dX11_init_100 rfl rfl ?_
  refine ev_iconst 102 rfl dX11_init_101 (by decide) ?_
  refine en_putI (ki := 21) cH_79 rfl 105 rfl dX11_init_102 lf_11_54 (Or.inl rfl) (cS_at (k := 78) rfl (by decide) rfl) (by decide) rfl ?_
  refine ev_aload_n 106 rfl dX11_init_105 rfl rfl ?_
  refine ev_iconst 107 rfl dX11_init_106 (by decide) ?_
  refine en_putI (ki := 30) cH_80 rfl 110 rfl dX11_init_107 lf_11_57 (Or.inl rfl) (cS_at (k := 78) rfl (by decide) rfl) (by decide) rfl ?_
  refine ev_aload_n 111 rfl dX11_init_110 rfl rfl ?_
  refine ev_bipush 113 rfl dX11_init_111 (by decide) (by decide) ?_
  refine en_arr (kd := 0) (ms := 8) (by decide) 89 89 rfl (by decide) rfl rfl (lowR_mo (by decide) rP_90) (lowR_mo (by decide) rH_80) 115 rfl dX11_init_113 (by decide) (by decide) ?_
  refine en_putR (ki := 33) cP_91 rfl 118 rfl dX11_init_115 lf_11_60 (Or.inr ⟨rfl, fun q e => by cases e; rfl⟩) (cS_at (k := 78) rfl (by decide) rfl) (by decide) rfl ?_
  refine ev_aload_n 119 rfl dX11_init_118 rfl rfl ?_
  refine ev_bipush 121 rfl dX11_init_119 (by decide) (by decide) ?_
  refine en_arr (kd := 0) (ms := 9) (by decide) 90 90 rfl (by decide) rfl rfl (lowR_mo (by decide) rP_91) (lowR_mo (by decide) rH_80) 123 rfl dX11_init_121 (by decide) (by decide) ?_
  refine en_putR (ki := 34) cP_92 rfl 126 rfl dX11_init_123 lf_11_63 (Or.inr ⟨rfl, fun q e => by cases e; rfl⟩) (cS_at (k := 78) rfl (by decide) rfl) (by decide) rfl ?_
  refine ev_aload_n 127 rfl dX11_init_126 rfl rfl ?_
  refine ev_bipush 129 rfl dX11_init_127 (by decide) (by decide) ?_
  refine en_arr (kd := 0) (ms := 8) (by decide) 91 91 rfl (by decide) rfl rfl (lowR_mo (by decide) rP_92) (lowR_mo (by decide) rH_80) 131 rfl dX11_init_129 (by decide) (by decide) ?_
  refine en_putR (ki := 35) cP_93 rfl 134 rfl dX11_init_131 lf_11_66 (Or.inr ⟨rfl, fun q e => by cases e; rfl⟩) (cS_at (k := 78) rfl (by decide) rfl) (by decide) rfl ?_
  refine ev_aload_n 135 rfl dX11_init_134 rfl rfl ?_
  refine ev_bipush 137 rfl dX11_init_135 (by decide) (by decide) ?_
  refine en_arr (kd := 0) (ms := 8) (by decide) 92 92 rfl (by decide) rfl rfl (lowR_mo (by decide) rP_93) (lowR_mo (by decide) rH_80) 139 rfl dX11_init_137 (by decide) (by decide) ?_
  refine en_putR (ki := 36) cP_94 rfl 142 rfl dX11_init_139 lf_11_69 (Or.inr ⟨rfl, fun q e => by cases e; rfl⟩) (cS_at (k := 78) rfl (by decide) rfl) (by decide) rfl ?_
  refine ev_aload_n 143 rfl dX11_init_142 rfl rfl ?_
  refine ev_bipush 145 rfl dX11_init_143 (by decide) (by decide) ?_
  refine en_arr (kd := 0) (ms := 9) (by decide) 93 93 rfl (by decide) rfl rfl (lowR_mo (by decide) rP_94) (lowR_mo (by decide) rH_80) 147 rfl dX11_init_145 (by decide) (by decide) ?_
  refine en_putR (ki := 37) cP_95 rfl 150 rfl dX11_init_147 lf_11_72 (Or.inr ⟨rfl, fun q e => by cases e; rfl⟩) (cS_at (k := 78) rfl (by decide) rfl) (by decide) rfl ?_
  refine ev_aload_n 151 rfl dX11_init_150 rfl rfl ?_
  refine ev_bipush 153 rfl dX11_init_151 (by decide) (by decide) ?_
  refine en_arr (kd := 0) (ms := 60) (by decide) 94 94 rfl (by decide) rfl rfl (lowR_mo (by decide) rP_95) (lowR_mo (by decide) rH_80) 155 rfl dX11_init_153 (by decide) (by decide) ?_
  refine en_putR (ki := 38) cP_96 rfl 158 rfl dX11_init_155 lf_11_75 (Or.inr ⟨rfl, fun q e => by cases e; rfl⟩) (cS_at (k := 78) rfl (by decide) rfl) (by decide) rfl ?_
  refine ev_aload_n 159 rfl dX11_init_158 rfl rfl ?_
  refine ev_bipush 161 rfl dX11_init_159 (by decide) (by decide) ?_
  refine en_arr (kd := 0) (ms := 60) (by decide) 95 95 rfl (by decide) rfl rfl (lowR_mo (by decide) rP_96) (lowR_mo (by decide) rH_80) 163 rfl dX11_init_161 (by decide) (by decide) ?_
  refine en_putR (ki := 39) cP_97 rfl 166 rfl dX11_init_163 lf_11_78 (Or.inr ⟨rfl, fun q e => by cases e; rfl⟩) (cS_at (k := 78) rfl (by decide) rfl) (by decide) rfl ?_
  refine ev_aload_n 167 rfl dX11_init_166 rfl rfl ?_
  refine ev_bipush 169 rfl dX11_init_167 (by decide) (by decide) ?_
  refine en_arr (kd := 0) (ms := 60) (by decide) 96 96 rfl (by decide) rfl rfl (lowR_mo (by decide) rP_97) (lowR_mo (by decide) rH_80) 171 rfl dX11_init_169 (by decide) (by decide) ?_
  refine en_putR (ki := 40) cP_98 rfl 174 rfl dX11_init_171 lf_11_81 (Or.inr ⟨rfl, fun q e => by cases e; rfl⟩) (cS_at (k := 78) rfl (by decide) rfl) (by decide) rfl ?_
  refine ev_aload_n 175 rfl dX11_init_174 rfl rfl ?_
  refine ev_bipush 177 rfl dX11_init_175 (by decide) (by decide) ?_
  refine en_arr (kd := 0) (ms := 60) (by decide) 97 97 rfl (by decide) rfl rfl (lowR_mo (by decide) rP_98) (lowR_mo (by decide) rH_80) 179 rfl dX11_init_177 (by decide) (by decide) ?_
  refine en_putR (ki := 41) cP_99 rfl 182 rfl dX11_init_179 lf_11_84 (Or.inr ⟨rfl, fun q e => by cases e; rfl⟩) (cS_at (k := 78) rfl (by decide) rfl) (by decide) rfl ?_
  refine ev_aload_n 183 rfl dX11_init_182 rfl rfl ?_
  refine ev_bipush 185 rfl dX11_init_183 (by decide) (by decide) ?_
  refine en_arr (kd := 0) (ms := 60) (by decide) 98 98 rfl (by decide) rfl rfl (lowR_mo (by decide) rP_99) (lowR_mo (by decide) rH_80) 187 rfl dX11_init_185 (by decide) (by decide) ?_
  refine en_putR (ki := 42) cP_100 rfl 190 rfl dX11_init_187 lf_11_87 (Or.inr ⟨rfl, fun q e => by cases e; rfl⟩) (cS_at (k := 78) rfl (by decide) rfl) (by decide) rfl ?_
  refine ev_aload_n 191 rfl dX11_init_190 rfl rfl ?_
  refine ev_bipush 193 rfl dX11_init_191 (by decide) (by decide) ?_
  refine en_arr (kd := 0) (ms := 60) (by decide) 99 99 rfl (by decide) rfl rfl (lowR_mo (by decide) rP_100) (lowR_mo (by decide) rH_80) 195 rfl dX11_init_193 (by decide) (by decide) ?_
  refine en_putR (ki := 43) cP_101 rfl 198 rfl dX11_init_195 lf_11_90 (Or.inr ⟨rfl, fun q e => by cases e; rfl⟩) (cS_at (k := 78) rfl (by decide) rfl) (by decide) rfl ?_
  refine ev_aload_n 199 rfl dX11_init_198 rfl rfl ?_
  refine ev_bipush 201 rfl dX11_init_199 (by decide) (by decide) ?_
  refine en_arr (kd := 0) (ms := 60) (by decide) 100 100 rfl (by decide) rfl rfl (lowR_mo (by decide) rP_101) (lowR_mo (by decide) rH_80) 203 rfl dX11_init_201 (by decide) (by decide) ?_
  refine en_putR (ki := 44) cP_102 rfl 206 rfl dX11_init_203 lf_11_93 (Or.inr ⟨rfl, fun q e => by cases e; rfl⟩) (cS_at (k := 78) rfl (by decide) rfl) (by decide) rfl ?_
  refine ev_aload_n 207 rfl dX11_init_206 rfl rfl ?_
  refine ev_bipush 209 rfl dX11_init_207 (by decide) (by decide) ?_
  refine en_arr (kd := 0) (ms := 60) (by decide) 101 101 rfl (by decide) rfl rfl (lowR_mo (by decide) rP_102) (lowR_mo (by decide) rH_80) 211 rfl dX11_init_209 (by decide) (by decide) ?_
  refine en_putR (ki := 45) cP_103 rfl 214 rfl dX11_init_211 lf_11_96 (Or.inr ⟨rfl, fun q e => by cases e; rfl⟩) (cS_at (k := 78) rfl (by decide) rfl) (by decide) rfl ?_
  refine ev_aload_n 215 rfl dX11_init_214 rfl rfl ?_
  refine ev_bipush 217 rfl dX11_init_215 (by decide) (by decide) ?_
  refine en_arr (kd := 0) (ms := 60) (by decide) 102 102 rfl (by decide) rfl rfl (lowR_mo (by decide) rP_103) (lowR_mo (by decide) rH_80) 219 rfl dX11_init_217 (by decide) (by decide) ?_
  refine en_putR (ki := 46) cP_104 rfl 222 rfl dX11_init_219 lf_11_99 (Or.inr ⟨rfl, fun q e => by cases e; rfl⟩) (cS_at (k := 78) rfl (by decide) rfl) (by decide) rfl ?_
  refine ev_aload_n 223 rfl dX11_init_222 rfl rfl ?_
  refine ev_bipush 225 rfl dX11_init_223 (by decide) (by decide) ?_
  refine en_arr (kd := 0) (ms := 60) (by decide) 103 103 rfl (by decide) rfl rfl (lowR_mo (by decide) rP_104) (lowR_mo (by decide) rH_80) 227 rfl dX11_init_225 (by decide) (by decide) ?_
  refine en_putR (ki := 47) cP_105 rfl 230 rfl dX11_init_227 lf_11_102 (Or.inr ⟨rfl, fun q e => by cases e; rfl⟩) (cS_at (k := 78) rfl (by decide) rfl) (by decide) rfl ?_
  refine ev_aload_n 231 rfl dX11_init_230 rfl rfl ?_
  refine ev_bipush 233 rfl dX11_init_231 (by decide) (by decide) ?_
  refine en_arr (kd := 0) (ms := 60) (by decide) 104 104 rfl (by decide) rfl rfl (lowR_mo (by decide) rP_105) (lowR_mo (by decide) rH_80) 235 rfl dX11_init_233 (by decide) (by decide) ?_
  refine en_putR (ki := 48) cP_106 rfl 238 rfl dX11_init_235 lf_11_105 (Or.inr ⟨rfl, fun q e => by cases e; rfl⟩) (cS_at (k := 78) rfl (by decide) rfl) (by decide) rfl ?_
  refine ev_aload_n 239 rfl dX11_init_238 rfl rfl ?_
  refine ev_bipush 241 rfl dX11_init_239 (by decide) (by decide) ?_
  refine en_arr (kd := 0) (ms := 60) (by decide) 105 105 rfl (by decide) rfl rfl (lowR_mo (by decide) rP_106) (lowR_mo (by decide) rH_80) 243 rfl dX11_init_241 (by decide) (by decide) ?_
  refine en_putR (ki := 49) cP_107 rfl 246 rfl dX11_init_243 lf_11_108 (Or.inr ⟨rfl, fun q e => by cases e; rfl⟩) (cS_at (k := 78) rfl (by decide) rfl) (by decide) rfl ?_
  refine ev_aload_n 247 rfl dX11_init_246 rfl rfl ?_
  refine ev_iconst 248 rfl dX11_init_247 (by decide) ?_
  refine en_putI (ki := 50) cH_81 rfl 251 rfl dX11_init_248 lf_11_111 (Or.inl rfl) (cS_at (k := 78) rfl (by decide) rfl) (by decide) rfl ?_
  refine ev_aload_n 252 rfl dX11_init_251 rfl rfl ?_
  refine ev_iconst 253 rfl dX11_init_252 (by decide) ?_
  refine en_putI (ki := 53) cH_82 rfl 256 rfl dX11_init_253 lf_11_114 (Or.inl rfl) (cS_at (k := 78) rfl (by decide) rfl) (by decide) rfl ?_
  refine ev_aload_n 257 rfl dX11_init_256 rfl rfl ?_
  refine ev_iconst 258 rfl dX11_init_257 (by decide) ?_
  refine en_putI (ki := 54) cH_83 rfl 261 rfl dX11_init_258 lf_11_117 (Or.inl rfl) (cS_at (k := 78) rfl (by decide) rfl) (by decide) rfl ?_
  refine ev_aload_n 262 rfl dX11_init_261 rfl rfl ?_
  refine ev_sipush 265 rfl dX11_init_262 (by decide) (by decide) ?_
  refine en_arr (kd := 0) (ms := 3020) (by decide) 106 106 rfl (by decide) rfl rfl (lowR_mo (by decide) rP_107) (lowR_mo (by decide) rH_83) 267 rfl dX11_init_265 (by decide) (by decide) ?_
  refine en_putR (ki := 55) cP_108 rfl 270 rfl dX11_init_267 lf_11_120 (Or.inr ⟨rfl, fun q e => by cases e; rfl⟩) (cS_at (k := 78) rfl (by decide) rfl) (by decide) rfl ?_
  refine ev_aload_n 271 rfl dX11_init_270 rfl rfl ?_
  refine ev_sipush 274 rfl dX11_init_271 (by decide) (by decide) ?_
  refine en_arr (kd := 0) (ms := 3020) (by decide) 107 107 rfl (by decide) rfl rfl (lowR_mo (by decide) rP_108) (lowR_mo (by decide) rH_83) 276 rfl dX11_init_274 (by decide) (by decide) ?_
  refine en_putR (ki := 56) cP_109 rfl 279 rfl dX11_init_276 lf_11_123 (Or.inr ⟨rfl, fun q e => by cases e; rfl⟩) (cS_at (k := 78) rfl (by decide) rfl) (by decide) rfl ?_
  refine ev_aload_n 280 rfl dX11_init_279 rfl rfl ?_
  refine ev_sipush 283 rfl dX11_init_280 (by decide) (by decide) ?_
  refine en_arr (kd := 0) (ms := 3020) (by decide) 108 108 rfl (by decide) rfl rfl (lowR_mo (by decide) rP_109) (lowR_mo (by decide) rH_83) 285 rfl dX11_init_283 (by decide) (by decide) ?_
  refine en_putR (ki := 57) cP_110 rfl 288 rfl dX11_init_285 lf_11_126 (Or.inr ⟨rfl, fun q e => by cases e; rfl⟩) (cS_at (k := 78) rfl (by decide) rfl) (by decide) rfl ?_
  refine ev_aload_n 289 rfl dX11_init_288 rfl rfl ?_
  refine ev_sipush 292 rfl dX11_init_289 (by decide) (by decide) ?_
  refine en_arr (kd := 0) (ms := 3020) (by decide) 109 109 rfl (by decide) rfl rfl (lowR_mo (by decide) rP_110) (lowR_mo (by decide) rH_83) 294 rfl dX11_init_292 (by decide) (by decide) ?_
  refine en_putR (ki := 58) cP_111 rfl 297 rfl dX11_init_294 lf_11_129 (Or.inr ⟨rfl, fun q e => by cases e; rfl⟩) (cS_at (k := 78) rfl (by decide) rfl) (by decide) rfl ?_
  refine ev_aload_n 298 rfl dX11_init_297 rfl rfl ?_
  refine ev_sipush 301 rfl dX11_init_298 (by decide) (by decide) ?_
  refine en_arr (kd := 0) (ms := 3020) (by decide) 110 110 rfl (by decide) rfl rfl (lowR_mo (by decide) rP_111) (lowR_mo (by decide) rH_83) 303 rfl dX11_init_301 (by decide) (by decide) ?_
  refine en_putR (ki := 59) cP_112 rfl 306 rfl dX11_init_303 lf_11_132 (Or.inr ⟨rfl, fun q e => by cases e; rfl⟩) (cS_at (k := 78) rfl (by decide) rfl) (by decide) rfl ?_
  refine ev_aload_n 307 rfl dX11_init_306 rfl rfl ?_
  refine ev_sipush 310 rfl dX11_init_307 (by decide) (by decide) ?_
  refine en_arr (kd := 0) (ms := 3020) (by decide) 111 111 rfl (by decide) rfl rfl (lowR_mo (by decide) rP_112) (lowR_mo (by decide) rH_83) 312 rfl dX11_init_310 (by decide) (by decide) ?_
  refine en_putR (ki := 60) cP_113 rfl 315 rfl dX11_init_312 lf_11_135 (Or.inr ⟨rfl, fun q e => by cases e; rfl⟩) (cS_at (k := 78) rfl (by decide) rfl) (by decide) rfl ?_
  refine ev_aload_n 316 rfl dX11_init_315 rfl rfl ?_
  refine ev_bipush 318 rfl dX11_init_316 (by decide) (by decide) ?_
  refine en_arr (kd := 0) (ms := 20) (by decide) 112 112 rfl (by decide) rfl rfl (lowR_mo (by decide) rP_113) (lowR_mo (by decide) rH_83) 320 rfl dX11_init_318 (by decide) (by decide) ?_
  refine en_putR (ki := 61) cP_114 rfl 323 rfl dX11_init_320 lf_11_138 (Or.inr ⟨rfl, fun q e => by cases e; rfl⟩) (cS_at (k := 78) rfl (by decide) rfl) (by decide) rfl ?_
  refine ev_aload_n 324 rfl dX11_init_323 rfl rfl ?_
  refine ev_bipush 326 rfl dX11_init_324 (by decide) (by decide) ?_
  refine en_arr (kd := 0) (ms := 20) (by decide) 113 113 rfl (by decide) rfl rfl (lowR_mo (by decide) rP_114) (lowR_mo (by decide) rH_83) 328 rfl dX11_init_326 (by decide) (by decide) ?_
  refine en_putR (ki := 69) cP_115 rfl 331 rfl dX11_init_328 lf_11_141 (Or.inr ⟨rfl, fun q e => by cases e; rfl⟩) (cS_at (k := 78) rfl (by decide) rfl) (by decide) rfl ?_
  refine ev_aload_n 332 rfl dX11_init_331 rfl rfl ?_
  refine ev_bipush 334 rfl dX11_init_332 (by decide) (by decide) ?_
  refine en_arr (kd := 0) (ms := 20) (by decide) 114 114 rfl (by decide) rfl rfl (lowR_mo (by decide) rP_115) (lowR_mo (by decide) rH_83) 336 rfl dX11_init_334 (by decide) (by decide) ?_
  refine en_putR (ki := 70) cP_116 rfl 339 rfl dX11_init_336 lf_11_144 (Or.inr ⟨rfl, fun q e => by cases e; rfl⟩) (cS_at (k := 78) rfl (by decide) rfl) (by decide) rfl ?_
  refine ev_aload_n 340 rfl dX11_init_339 rfl rfl ?_
  refine ev_bipush 342 rfl dX11_init_340 (by decide) (by decide) ?_
  refine en_arr (kd := 0) (ms := 6) (by decide) 115 115 rfl (by decide) rfl rfl (lowR_mo (by decide) rP_116) (lowR_mo (by decide) rH_83) 344 rfl dX11_init_342 (by decide) (by decide) ?_
  refine en_putR (ki := 71) cP_117 rfl 347 rfl dX11_init_344 lf_11_147 (Or.inr ⟨rfl, fun q e => by cases e; rfl⟩) (cS_at (k := 78) rfl (by decide) rfl) (by decide) rfl ?_
  refine ev_aload_n 348 rfl dX11_init_347 rfl rfl ?_
  refine ev_bipush 350 rfl dX11_init_348 (by decide) (by decide) ?_
  refine en_arr (kd := 0) (ms := 6) (by decide) 116 116 rfl (by decide) rfl rfl (lowR_mo (by decide) rP_117) (lowR_mo (by decide) rH_83) 352 rfl dX11_init_350 (by decide) (by decide) ?_
  refine en_putR (ki := 72) cP_118 rfl 355 rfl dX11_init_352 lf_11_150 (Or.inr ⟨rfl, fun q e => by cases e; rfl⟩) (cS_at (k := 78) rfl (by decide) rfl) (by decide) rfl ?_
  refine ev_aload_n 356 rfl dX11_init_355 rfl rfl ?_
  refine ev_bipush 358 rfl dX11_init_356 (by decide) (by decide) ?_
  refine en_arr (kd := 0) (ms := 6) (by decide) 117 117 rfl (by decide) rfl rfl (lowR_mo (by decide) rP_118) (lowR_mo (by decide) rH_83) 360 rfl dX11_init_358 (by decide) (by decide) ?_
  refine en_putR (ki := 73) cP_119 rfl 363 rfl dX11_init_360 lf_11_153 (Or.inr ⟨rfl, fun q e => by cases e; rfl⟩) (cS_at (k := 78) rfl (by decide) rfl) (by decide) rfl ?_
  refine ev_aload_n 364 rfl dX11_init_363 rfl rfl ?_
  refine ev_bipush 366 rfl dX11_init_364 (by decide) (by decide) ?_
  refine en_arr (kd := 0) (ms := 6) (by decide) 118 118 rfl (by decide) rfl rfl (lowR_mo (by decide) rP_119) (lowR_mo (by decide) rH_83) 368 rfl dX11_init_366 (by decide) (by decide) ?_
  refine en_putR (ki := 74) cP_120 rfl 371 rfl dX11_init_368 lf_11_156 (Or.inr ⟨rfl, fun q e => by cases e; rfl⟩) (cS_at (k := 78) rfl (by decide) rfl) (by decide) rfl ?_
  refine ev_aload_n 372 rfl dX11_init_371 rfl rfl ?_
  refine ev_bipush 374 rfl dX11_init_372 (by decide) (by decide) ?_
  refine en_arr (kd := 0) (ms := 6) (by decide) 119 119 rfl (by decide) rfl rfl (lowR_mo (by decide) rP_120) (lowR_mo (by decide) rH_83) 376 rfl dX11_init_374 (by decide) (by decide) ?_
  refine en_putR (ki := 75) cP_121 rfl 379 rfl dX11_init_376 lf_11_159 (Or.inr ⟨rfl, fun q e => by cases e; rfl⟩) (cS_at (k := 78) rfl (by decide) rfl) (by decide) rfl ?_
  refine ev_aload_n 380 rfl dX11_init_379 rfl rfl ?_
  refine ev_sipush 383 rfl dX11_init_380 (by decide) (by decide) ?_
  refine en_arr (kd := 0) (ms := 19200) (by decide) 120 120 rfl (by decide) rfl rfl (lowR_mo (by decide) rP_121) (lowR_mo (by decide) rH_83) 385 rfl dX11_init_383 (by decide) (by decide) ?_
  refine en_putR (ki := 80) cP_122 rfl 388 rfl dX11_init_385 lf_11_162 (Or.inr ⟨rfl, fun q e => by cases e; rfl⟩) (cS_at (k := 78) rfl (by decide) rfl) (by decide) rfl ?_
  refine ev_aload_n 389 rfl dX11_init_388 rfl rfl ?_
  refine ev_sipush 392 rfl dX11_init_389 (by decide) (by decide) ?_
  refine en_arr (kd := 0) (ms := 19200) (by decide) 121 121 rfl (by decide) rfl rfl (lowR_mo (by decide) rP_122) (lowR_mo (by decide) rH_83) 394 rfl dX11_init_392 (by decide) (by decide) ?_
  refine en_putR (ki := 81) cP_123 rfl 397 rfl dX11_init_394 lf_11_165 (Or.inr ⟨rfl, fun q e => by cases e; rfl⟩) (cS_at (k := 78) rfl (by decide) rfl) (by decide) rfl ?_
  refine ev_aload_n 398 rfl dX11_init_397 rfl rfl ?_
  refine ev_sipush 401 rfl dX11_init_398 (by decide) (by decide) ?_
  refine en_arr (kd := 0) (ms := 19200) (by decide) 122 122 rfl (by decide) rfl rfl (lowR_mo (by decide) rP_123) (lowR_mo (by decide) rH_83) 403 rfl dX11_init_401 (by decide) (by decide) ?_
  refine en_putR (ki := 82) cP_124 rfl 406 rfl dX11_init_403 lf_11_168 (Or.inr ⟨rfl, fun q e => by cases e; rfl⟩) (cS_at (k := 78) rfl (by decide) rfl) (by decide) rfl ?_
  refine ev_aload_n 407 rfl dX11_init_406 rfl rfl ?_
  refine ev_sipush 410 rfl dX11_init_407 (by decide) (by decide) ?_
  refine en_arr (kd := 0) (ms := 2500) (by decide) 123 123 rfl (by decide) rfl rfl (lowR_mo (by decide) rP_124) (lowR_mo (by decide) rH_83) 412 rfl dX11_init_410 (by decide) (by decide) ?_
  refine en_putR (ki := 83) cP_125 rfl 415 rfl dX11_init_412 lf_11_171 (Or.inr ⟨rfl, fun q e => by cases e; rfl⟩) (cS_at (k := 78) rfl (by decide) rfl) (by decide) rfl ?_
  refine ev_aload_n 416 rfl dX11_init_415 rfl rfl ?_
  refine ev_iconst 417 rfl dX11_init_416 (by decide) ?_
  refine en_putI (ki := 84) cH_84 rfl 420 rfl dX11_init_417 lf_11_174 (Or.inl rfl) (cS_at (k := 78) rfl (by decide) rfl) (by decide) rfl ?_
  refine ev_aload_n 421 rfl dX11_init_420 rfl rfl ?_
  refine ev_bipush 423 rfl dX11_init_421 (by decide) (by decide) ?_
  refine en_arr (kd := 0) (ms := 16) (by decide) 124 124 rfl (by decide) rfl rfl (lowR_mo (by decide) rP_125) (lowR_mo (by decide) rH_84) 425 rfl dX11_init_423 (by decide) (by decide) ?_
  refine en_putR (ki := 88) cP_126 rfl 428 rfl dX11_init_425 lf_11_177 (Or.inr ⟨rfl, fun q e => by cases e; rfl⟩) (cS_at (k := 78) rfl (by decide) rfl) (by decide) rfl ?_
  refine ev_aload_n 429 rfl dX11_init_428 rfl rfl ?_
  refine ev_bipush 431 rfl dX11_init_429 (by decide) (by decide) ?_
  refine en_arr (kd := 0) (ms := 60) (by decide) 125 125 rfl (by decide) rfl rfl (lowR_mo (by decide) rP_126) (lowR_mo (by decide) rH_84) 433 rfl dX11_init_431 (by decide) (by decide) ?_
  refine en_putR (ki := 89) cP_127 rfl 436 rfl dX11_init_433 lf_11_180 (Or.inr ⟨rfl, fun q e => by cases e; rfl⟩) (cS_at (k := 78) rfl (by decide) rfl) (by decide) rfl ?_
  refine ev_aload_n 437 rfl dX11_init_436 rfl rfl ?_
  refine ev_bipush 439 rfl dX11_init_437 (by decide) (by decide) ?_
  refine en_arr (kd := 0) (ms := 60) (by decide) 126 126 rfl (by decide) rfl rfl (lowR_mo (by decide) rP_127) (lowR_mo (by decide) rH_84) 441 rfl dX11_init_439 (by decide) (by decide) ?_
  refine en_putR (ki := 90) cP_128 rfl 444 rfl dX11_init_441 lf_11_183 (Or.inr ⟨rfl, fun q e => by cases e; rfl⟩) (cS_at (k := 78) rfl (by decide) rfl) (by decide) rfl ?_
  refine ev_aload_n 445 rfl dX11_init_444 rfl rfl ?_
  refine ev_bipush 447 rfl dX11_init_445 (by decide) (by decide) ?_
  refine en_arr (kd := 0) (ms := 60) (by decide) 127 127 rfl (by decide) rfl rfl (lowR_mo (by decide) rP_128) (lowR_mo (by decide) rH_84) 449 rfl dX11_init_447 (by decide) (by decide) ?_
  refine en_putR (ki := 91) cP_129 rfl 452 rfl dX11_init_449 lf_11_186 (Or.inr ⟨rfl, fun q e => by cases e; rfl⟩) (cS_at (k := 78) rfl (by decide) rfl) (by decide) rfl ?_
  refine ev_aload_n 453 rfl dX11_init_452 rfl rfl ?_
  refine ev_bipush 455 rfl dX11_init_453 (by decide) (by decide) ?_
  refine en_arr (kd := 0) (ms := 60) (by decide) 128 128 rfl (by decide) rfl rfl (lowR_mo (by decide) rP_129) (lowR_mo (by decide) rH_84) 457 rfl dX11_init_455 (by decide) (by decide) ?_
  refine en_putR (ki := 92) cP_130 rfl 460 rfl dX11_init_457 lf_11_189 (Or.inr ⟨rfl, fun q e => by cases e; rfl⟩) (cS_at (k := 78) rfl (by decide) rfl) (by decide) rfl ?_
  refine ev_aload_n 461 rfl dX11_init_460 rfl rfl ?_
  refine ev_bipush 463 rfl dX11_init_461 (by decide) (by decide) ?_
  refine en_arr (kd := 0) (ms := 20) (by decide) 129 129 rfl (by decide) rfl rfl (lowR_mo (by decide) rP_130) (lowR_mo (by decide) rH_84) 465 rfl dX11_init_463 (by decide) (by decide) ?_
  refine en_putR (ki := 93) cP_131 rfl 468 rfl dX11_init_465 lf_11_192 (Or.inr ⟨rfl, fun q e => by cases e; rfl⟩) (cS_at (k := 78) rfl (by decide) rfl) (by decide) rfl ?_
  refine ev_aload_n 469 rfl dX11_init_468 rfl rfl ?_
  refine ev_bipush 471 rfl dX11_init_469 (by decide) (by decide) ?_
  refine en_arr (kd := 0) (ms := 16) (by decide) 130 130 rfl (by decide) rfl rfl (lowR_mo (by decide) rP_131) (lowR_mo (by decide) rH_84) 473 rfl dX11_init_471 (by decide) (by decide) ?_
  refine en_putR (ki := 94) cP_132 rfl 476 rfl dX11_init_473 lf_11_195 (Or.inr ⟨rfl, fun q e => by cases e; rfl⟩) (cS_at (k := 78) rfl (by decide) rfl) (by decide) rfl ?_
  refine ev_aload_n 477 rfl dX11_init_476 rfl rfl ?_
  refine ev_bipush 479 rfl dX11_init_477 (by decide) (by decide) ?_
  refine en_arr (kd := 3) (ms := 16) (by decide) 131 131 rfl (by decide) rfl rfl (lowR_mo (by decide) rP_132) (lowR_mo (by decide) rH_84) 481 rfl dX11_init_479 (by decide) (by decide) ?_
  refine en_putR (ki := 95) cP_133 rfl 484 rfl dX11_init_481 lf_11_198 (Or.inr ⟨rfl, fun q e => by cases e; rfl⟩) (cS_at (k := 78) rfl (by decide) rfl) (by decide) rfl ?_
  refine ev_aload_n 485 rfl dX11_init_484 rfl rfl ?_
  refine ev_bipush 487 rfl dX11_init_485 (by decide) (by decide) ?_
  refine en_arr (kd := 3) (ms := 16) (by decide) 132 132 rfl (by decide) rfl rfl (lowR_mo (by decide) rP_133) (lowR_mo (by decide) rH_84) 489 rfl dX11_init_487 (by decide) (by decide) ?_
  refine en_putR (ki := 96) cP_134 rfl 492 rfl dX11_init_489 lf_11_201 (Or.inr ⟨rfl, fun q e => by cases e; rfl⟩) (cS_at (k := 78) rfl (by decide) rfl) (by decide) rfl ?_
  refine ev_aload_n 493 rfl dX11_init_492 rfl rfl ?_
  refine ev_bipush 495 rfl dX11_init_493 (by decide) (by decide) ?_
  refine en_arr (kd := 3) (ms := 16) (by decide) 133 133 rfl (by decide) rfl rfl (lowR_mo (by decide) rP_134) (lowR_mo (by decide) rH_84) 497 rfl dX11_init_495 (by decide) (by decide) ?_
  refine en_putR (ki := 97) cP_135 rfl 500 rfl dX11_init_497 lf_11_204 (Or.inr ⟨rfl, fun q e => by cases e; rfl⟩) (cS_at (k := 78) rfl (by decide) rfl) (by decide) rfl ?_
  refine ev_aload_n 501 rfl dX11_init_500 rfl rfl ?_
  refine ev_sipush 504 rfl dX11_init_501 (by decide) (by decide) ?_
  refine en_arr (kd := 0) (ms := 162) (by decide) 134 134 rfl (by decide) rfl rfl (lowR_mo (by decide) rP_135) (lowR_mo (by decide) rH_84) 506 rfl dX11_init_504 (by decide) (by decide) ?_
  refine en_putR (ki := 98) cP_136 rfl 509 rfl dX11_init_506 lf_11_207 (Or.inr ⟨rfl, fun q e => by cases e; rfl⟩) (cS_at (k := 78) rfl (by decide) rfl) (by decide) rfl ?_
  refine ev_aload_n 510 rfl dX11_init_509 rfl rfl ?_
  refine ev_iconst 511 rfl dX11_init_510 (by decide) ?_
  refine en_arr (kd := 0) (ms := 3) (by decide) 135 135 rfl (by decide) rfl rfl (lowR_mo (by decide) rP_136) (lowR_mo (by decide) rH_84) 513 rfl dX11_init_511 (by decide) (by decide) ?_
  refine en_putR (ki := 99) cP_137 rfl 516 rfl dX11_init_513 lf_11_210 (Or.inr ⟨rfl, fun q e => by cases e; rfl⟩) (cS_at (k := 78) rfl (by decide) rfl) (by decide) rfl ?_
  refine ev_iconst 517 rfl dX11_init_516 (by decide) ?_
  refine ev_istore_n 518 rfl dX11_init_517 rfl (by decide) rfl ?_
  refine lp_80 ?_
  refine ev_iconst 537 rfl dX11_init_536 (by decide) ?_
  refine ev_istore_n 538 rfl dX11_init_537 rfl (by decide) rfl ?_
  refine lp_134 ?_
  refine ev_iconst 559 rfl dX11_init_558 (by decide) ?_
  refine ev_istore_n 560 rfl dX11_init_559 rfl (by decide) rfl ?_
  refine lp_135 ?_
  exact ev_return dX11_init_578 rfl ⟨rfl, rfl⟩
