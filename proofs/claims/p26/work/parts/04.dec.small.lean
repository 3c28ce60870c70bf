theorem dX0_init_0 : decode cX0_init 0 = .ok (.aload_n 0, 1) := by decide +kernel
theorem dX0_init_1 : decode cX0_init 1 = .ok (.invokespecial 3, 3) := by decide +kernel
theorem dX0_init_4 : decode cX0_init 4 = .ok (.aload_n 0, 1) := by decide +kernel
theorem dX0_init_5 : decode cX0_init 5 = .ok (.iconst 4, 1) := by decide +kernel
theorem dX0_init_6 : decode cX0_init 6 = .ok (.newarray .int, 2) := by decide +kernel
theorem dX0_init_8 : decode cX0_init 8 = .ok (.putfield 9, 3) := by decide +kernel
theorem dX0_init_11 : decode cX0_init 11 = .ok (.aload_n 0, 1) := by decide +kernel
theorem dX0_init_12 : decode cX0_init 12 = .ok (.iconst 4, 1) := by decide +kernel
theorem dX0_init_13 : decode cX0_init 13 = .ok (.newarray .int, 2) := by decide +kernel
theorem dX0_init_15 : decode cX0_init 15 = .ok (.putfield 15, 3) := by decide +kernel
theorem dX0_init_18 : decode cX0_init 18 = .ok (.aload_n 0, 1) := by decide +kernel
theorem dX0_init_19 : decode cX0_init 19 = .ok (.getfield 9, 3) := by decide +kernel
theorem dX0_init_22 : decode cX0_init 22 = .ok (.iconst (-1), 1) := by decide +kernel
theorem dX0_init_23 : decode cX0_init 23 = .ok (.invokestatic 18, 3) := by decide +kernel
theorem dX0_init_26 : decode cX0_init 26 = .ok (.return_, 1) := by decide +kernel
theorem dX0_copyFrom_0 : decode cX0_copyFrom 0 = .ok (.aload_n 1, 1) := by decide +kernel
theorem dX0_copyFrom_1 : decode cX0_copyFrom 1 = .ok (.getfield 9, 3) := by decide +kernel
theorem dX0_copyFrom_4 : decode cX0_copyFrom 4 = .ok (.iconst 0, 1) := by decide +kernel
theorem dX0_copyFrom_5 : decode cX0_copyFrom 5 = .ok (.aload_n 0, 1) := by decide +kernel
theorem dX0_copyFrom_6 : decode cX0_copyFrom 6 = .ok (.getfield 9, 3) := by decide +kernel
theorem dX0_copyFrom_9 : decode cX0_copyFrom 9 = .ok (.iconst 0, 1) := by decide +kernel
theorem dX0_copyFrom_10 : decode cX0_copyFrom 10 = .ok (.iconst 4, 1) := by decide +kernel
theorem dX0_copyFrom_11 : decode cX0_copyFrom 11 = .ok (.invokestatic 24, 3) := by decide +kernel
theorem dX0_copyFrom_14 : decode cX0_copyFrom 14 = .ok (.aload_n 1, 1) := by decide +kernel
theorem dX0_copyFrom_15 : decode cX0_copyFrom 15 = .ok (.getfield 15, 3) := by decide +kernel
theorem dX0_copyFrom_18 : decode cX0_copyFrom 18 = .ok (.iconst 0, 1) := by decide +kernel
theorem dX0_copyFrom_19 : decode cX0_copyFrom 19 = .ok (.aload_n 0, 1) := by decide +kernel
theorem dX0_copyFrom_20 : decode cX0_copyFrom 20 = .ok (.getfield 15, 3) := by decide +kernel
theorem dX0_copyFrom_23 : decode cX0_copyFrom 23 = .ok (.iconst 0, 1) := by decide +kernel
theorem dX0_copyFrom_24 : decode cX0_copyFrom 24 = .ok (.iconst 4, 1) := by decide +kernel
theorem dX0_copyFrom_25 : decode cX0_copyFrom 25 = .ok (.invokestatic 24, 3) := by decide +kernel
theorem dX0_copyFrom_28 : decode cX0_copyFrom 28 = .ok (.return_, 1) := by decide +kernel
theorem dX0_horizonWithout_0 : decode cX0_horizonWithout 0 = .ok (.iload_n 2, 1) := by decide +kernel
theorem dX0_horizonWithout_1 : decode cX0_horizonWithout 1 = .ok (.istore_n 3, 1) := by decide +kernel
theorem dX0_horizonWithout_2 : decode cX0_horizonWithout 2 = .ok (.iconst 0, 1) := by decide +kernel
theorem dX0_horizonWithout_3 : decode cX0_horizonWithout 3 = .ok (.istore 4, 2) := by decide +kernel
theorem dX0_horizonWithout_5 : decode cX0_horizonWithout 5 = .ok (.iload 4, 2) := by decide +kernel
theorem dX0_horizonWithout_7 : decode cX0_horizonWithout 7 = .ok (.iconst 4, 1) := by decide +kernel
theorem dX0_horizonWithout_8 : decode cX0_horizonWithout 8 = .ok (.if_icmp .ge 45, 3) := by decide +kernel
theorem dX0_horizonWithout_11 : decode cX0_horizonWithout 11 = .ok (.iload 4, 2) := by decide +kernel
theorem dX0_horizonWithout_13 : decode cX0_horizonWithout 13 = .ok (.iload_n 1, 1) := by decide +kernel
theorem dX0_horizonWithout_14 : decode cX0_horizonWithout 14 = .ok (.if_icmp .eq 33, 3) := by decide +kernel
theorem dX0_horizonWithout_17 : decode cX0_horizonWithout 17 = .ok (.aload_n 0, 1) := by decide +kernel
theorem dX0_horizonWithout_18 : decode cX0_horizonWithout 18 = .ok (.getfield 9, 3) := by decide +kernel
theorem dX0_horizonWithout_21 : decode cX0_horizonWithout 21 = .ok (.iload 4, 2) := by decide +kernel
theorem dX0_horizonWithout_23 : decode cX0_horizonWithout 23 = .ok (.iaload, 1) := by decide +kernel
theorem dX0_horizonWithout_24 : decode cX0_horizonWithout 24 = .ok (.iconst (-1), 1) := by decide +kernel
theorem dX0_horizonWithout_25 : decode cX0_horizonWithout 25 = .ok (.if_icmp .eq 22, 3) := by decide +kernel
theorem dX0_horizonWithout_28 : decode cX0_horizonWithout 28 = .ok (.aload_n 0, 1) := by decide +kernel
theorem dX0_horizonWithout_29 : decode cX0_horizonWithout 29 = .ok (.getfield 9, 3) := by decide +kernel
theorem dX0_horizonWithout_32 : decode cX0_horizonWithout 32 = .ok (.iload 4, 2) := by decide +kernel
theorem dX0_horizonWithout_34 : decode cX0_horizonWithout 34 = .ok (.iaload, 1) := by decide +kernel
theorem dX0_horizonWithout_35 : decode cX0_horizonWithout 35 = .ok (.iload_n 3, 1) := by decide +kernel
theorem dX0_horizonWithout_36 : decode cX0_horizonWithout 36 = .ok (.if_icmp .ge 11, 3) := by decide +kernel
theorem dX0_horizonWithout_39 : decode cX0_horizonWithout 39 = .ok (.aload_n 0, 1) := by decide +kernel
theorem dX0_horizonWithout_40 : decode cX0_horizonWithout 40 = .ok (.getfield 9, 3) := by decide +kernel
theorem dX0_horizonWithout_43 : decode cX0_horizonWithout 43 = .ok (.iload 4, 2) := by decide +kernel
theorem dX0_horizonWithout_45 : decode cX0_horizonWithout 45 = .ok (.iaload, 1) := by decide +kernel
theorem dX0_horizonWithout_46 : decode cX0_horizonWithout 46 = .ok (.istore_n 3, 1) := by decide +kernel
theorem dX0_horizonWithout_47 : decode cX0_horizonWithout 47 = .ok (.iinc 4 1, 3) := by decide +kernel
theorem dX0_horizonWithout_50 : decode cX0_horizonWithout 50 = .ok (.goto (-45), 3) := by decide +kernel
theorem dX0_horizonWithout_53 : decode cX0_horizonWithout 53 = .ok (.iload_n 3, 1) := by decide +kernel
theorem dX0_horizonWithout_54 : decode cX0_horizonWithout 54 = .ok (.ireturn, 1) := by decide +kernel
theorem dX1_init_0 : decode cX1_init 0 = .ok (.aload_n 0, 1) := by decide +kernel
theorem dX1_init_1 : decode cX1_init 1 = .ok (.invokespecial 3, 3) := by decide +kernel
theorem dX1_init_4 : decode cX1_init 4 = .ok (.aload_n 0, 1) := by decide +kernel
theorem dX1_init_5 : decode cX1_init 5 = .ok (.bipush 6, 2) := by decide +kernel
theorem dX1_init_7 : decode cX1_init 7 = .ok (.anewarray 9, 3) := by decide +kernel
theorem dX1_init_10 : decode cX1_init 10 = .ok (.putfield 11, 3) := by decide +kernel
theorem dX1_init_13 : decode cX1_init 13 = .ok (.iconst 0, 1) := by decide +kernel
theorem dX1_init_14 : decode cX1_init 14 = .ok (.istore_n 1, 1) := by decide +kernel
theorem dX1_init_15 : decode cX1_init 15 = .ok (.iload_n 1, 1) := by decide +kernel
theorem dX1_init_16 : decode cX1_init 16 = .ok (.bipush 6, 2) := by decide +kernel
theorem dX1_init_18 : decode cX1_init 18 = .ok (.if_icmp .ge 22, 3) := by decide +kernel
theorem dX1_init_21 : decode cX1_init 21 = .ok (.aload_n 0, 1) := by decide +kernel
theorem dX1_init_22 : decode cX1_init 22 = .ok (.getfield 11, 3) := by decide +kernel
theorem dX1_init_25 : decode cX1_init 25 = .ok (.iload_n 1, 1) := by decide +kernel
theorem dX1_init_26 : decode cX1_init 26 = .ok (.new 9, 3) := by decide +kernel
theorem dX1_init_29 : decode cX1_init 29 = .ok (.dup, 1) := by decide +kernel
theorem dX1_init_30 : decode cX1_init 30 = .ok (.invokespecial 17, 3) := by decide +kernel
theorem dX1_init_33 : decode cX1_init 33 = .ok (.aastore, 1) := by decide +kernel
theorem dX1_init_34 : decode cX1_init 34 = .ok (.iinc 1 1, 3) := by decide +kernel
theorem dX1_init_37 : decode cX1_init 37 = .ok (.goto (-22), 3) := by decide +kernel
theorem dX1_init_40 : decode cX1_init 40 = .ok (.return_, 1) := by decide +kernel
theorem dX1_save_0 : decode cX1_save 0 = .ok (.aload_n 0, 1) := by decide +kernel
theorem dX1_save_1 : decode cX1_save 1 = .ok (.getfield 11, 3) := by decide +kernel
theorem dX1_save_4 : decode cX1_save 4 = .ok (.aload_n 0, 1) := by decide +kernel
theorem dX1_save_5 : decode cX1_save 5 = .ok (.getfield 18, 3) := by decide +kernel
theorem dX1_save_8 : decode cX1_save 8 = .ok (.aaload, 1) := by decide +kernel
theorem dX1_save_9 : decode cX1_save 9 = .ok (.aload_n 1, 1) := by decide +kernel
theorem dX1_save_10 : decode cX1_save 10 = .ok (.invokevirtual 22, 3) := by decide +kernel
theorem dX1_save_13 : decode cX1_save 13 = .ok (.aload_n 0, 1) := by decide +kernel
theorem dX1_save_14 : decode cX1_save 14 = .ok (.aload_n 0, 1) := by decide +kernel
theorem dX1_save_15 : decode cX1_save 15 = .ok (.getfield 18, 3) := by decide +kernel
theorem dX1_save_18 : decode cX1_save 18 = .ok (.iconst 1, 1) := by decide +kernel
theorem dX1_save_19 : decode cX1_save 19 = .ok (.iadd, 1) := by decide +kernel
theorem dX1_save_20 : decode cX1_save 20 = .ok (.bipush 6, 2) := by decide +kernel
theorem dX1_save_22 : decode cX1_save 22 = .ok (.irem, 1) := by decide +kernel
theorem dX1_save_23 : decode cX1_save 23 = .ok (.putfield 18, 3) := by decide +kernel
theorem dX1_save_26 : decode cX1_save 26 = .ok (.aload_n 0, 1) := by decide +kernel
theorem dX1_save_27 : decode cX1_save 27 = .ok (.getfield 26, 3) := by decide +kernel
theorem dX1_save_30 : decode cX1_save 30 = .ok (.bipush 6, 2) := by decide +kernel
theorem dX1_save_32 : decode cX1_save 32 = .ok (.if_icmp .ge 13, 3) := by decide +kernel
theorem dX1_save_35 : decode cX1_save 35 = .ok (.aload_n 0, 1) := by decide +kernel
theorem dX1_save_36 : decode cX1_save 36 = .ok (.dup, 1) := by decide +kernel
theorem dX1_save_37 : decode cX1_save 37 = .ok (.getfield 26, 3) := by decide +kernel
theorem dX1_save_40 : decode cX1_save 40 = .ok (.iconst 1, 1) := by decide +kernel
theorem dX1_save_41 : decode cX1_save 41 = .ok (.iadd, 1) := by decide +kernel
theorem dX1_save_42 : decode cX1_save 42 = .ok (.putfield 26, 3) := by decide +kernel
theorem dX1_save_45 : decode cX1_save 45 = .ok (.return_, 1) := by decide +kernel
theorem dX1_restore_0 : decode cX1_restore 0 = .ok (.aload_n 0, 1) := by decide +kernel
theorem dX1_restore_1 : decode cX1_restore 1 = .ok (.getfield 26, 3) := by decide +kernel
theorem dX1_restore_4 : decode cX1_restore 4 = .ok (.ifCond .ne 4, 3) := by decide +kernel
theorem dX1_restore_7 : decode cX1_restore 7 = .ok (.return_, 1) := by decide +kernel
theorem dX1_restore_8 : decode cX1_restore 8 = .ok (.aload_n 0, 1) := by decide +kernel
theorem dX1_restore_9 : decode cX1_restore 9 = .ok (.dup, 1) := by decide +kernel
theorem dX1_restore_10 : decode cX1_restore 10 = .ok (.getfield 26, 3) := by decide +kernel
theorem dX1_restore_13 : decode cX1_restore 13 = .ok (.iconst 1, 1) := by decide +kernel
theorem dX1_restore_14 : decode cX1_restore 14 = .ok (.isub, 1) := by decide +kernel
theorem dX1_restore_15 : decode cX1_restore 15 = .ok (.putfield 26, 3) := by decide +kernel
theorem dX1_restore_18 : decode cX1_restore 18 = .ok (.aload_n 0, 1) := by decide +kernel
theorem dX1_restore_19 : decode cX1_restore 19 = .ok (.aload_n 0, 1) := by decide +kernel
theorem dX1_restore_20 : decode cX1_restore 20 = .ok (.getfield 18, 3) := by decide +kernel
theorem dX1_restore_23 : decode cX1_restore 23 = .ok (.bipush 6, 2) := by decide +kernel
theorem dX1_restore_25 : decode cX1_restore 25 = .ok (.iadd, 1) := by decide +kernel
theorem dX1_restore_26 : decode cX1_restore 26 = .ok (.iconst 1, 1) := by decide +kernel
theorem dX1_restore_27 : decode cX1_restore 27 = .ok (.isub, 1) := by decide +kernel
theorem dX1_restore_28 : decode cX1_restore 28 = .ok (.bipush 6, 2) := by decide +kernel
theorem dX1_restore_30 : decode cX1_restore 30 = .ok (.irem, 1) := by decide +kernel
theorem dX1_restore_31 : decode cX1_restore 31 = .ok (.putfield 18, 3) := by decide +kernel
theorem dX1_restore_34 : decode cX1_restore 34 = .ok (.aload_n 1, 1) := by decide +kernel
theorem dX1_restore_35 : decode cX1_restore 35 = .ok (.aload_n 0, 1) := by decide +kernel
theorem dX1_restore_36 : decode cX1_restore 36 = .ok (.getfield 11, 3) := by decide +kernel
theorem dX1_restore_39 : decode cX1_restore 39 = .ok (.aload_n 0, 1) := by decide +kernel
theorem dX1_restore_40 : decode cX1_restore 40 = .ok (.getfield 18, 3) := by decide +kernel
theorem dX1_restore_43 : decode cX1_restore 43 = .ok (.aaload, 1) := by decide +kernel
theorem dX1_restore_44 : decode cX1_restore 44 = .ok (.invokevirtual 22, 3) := by decide +kernel
theorem dX1_restore_47 : decode cX1_restore 47 = .ok (.return_, 1) := by decide +kernel
theorem dX2_init_0 : decode cX2_init 0 = .ok (.aload_n 0, 1) := by decide +kernel
theorem dX2_init_1 : decode cX2_init 1 = .ok (.invokespecial 3, 3) := by decide +kernel
theorem dX2_init_4 : decode cX2_init 4 = .ok (.aload_n 0, 1) := by decide +kernel
theorem dX2_init_5 : decode cX2_init 5 = .ok (.new 9, 3) := by decide +kernel
theorem dX2_init_8 : decode cX2_init 8 = .ok (.dup, 1) := by decide +kernel
theorem dX2_init_9 : decode cX2_init 9 = .ok (.invokespecial 11, 3) := by decide +kernel
theorem dX2_init_12 : decode cX2_init 12 = .ok (.putfield 12, 3) := by decide +kernel
theorem dX2_init_15 : decode cX2_init 15 = .ok (.aload_n 0, 1) := by decide +kernel
theorem dX2_init_16 : decode cX2_init 16 = .ok (.new 18, 3) := by decide +kernel
theorem dX2_init_19 : decode cX2_init 19 = .ok (.dup, 1) := by decide +kernel
theorem dX2_init_20 : decode cX2_init 20 = .ok (.invokespecial 20, 3) := by decide +kernel
theorem dX2_init_23 : decode cX2_init 23 = .ok (.putfield 21, 3) := by decide +kernel
theorem dX2_init_26 : decode cX2_init 26 = .ok (.aload_n 0, 1) := by decide +kernel
theorem dX2_init_27 : decode cX2_init 27 = .ok (.new 25, 3) := by decide +kernel
theorem dX2_init_30 : decode cX2_init 30 = .ok (.dup, 1) := by decide +kernel
theorem dX2_init_31 : decode cX2_init 31 = .ok (.invokespecial 27, 3) := by decide +kernel
theorem dX2_init_34 : decode cX2_init 34 = .ok (.putfield 28, 3) := by decide +kernel
theorem dX2_init_37 : decode cX2_init 37 = .ok (.return_, 1) := by decide +kernel
theorem dX2_copyFrom_0 : decode cX2_copyFrom 0 = .ok (.aload_n 0, 1) := by decide +kernel
theorem dX2_copyFrom_1 : decode cX2_copyFrom 1 = .ok (.getfield 12, 3) := by decide +kernel
theorem dX2_copyFrom_4 : decode cX2_copyFrom 4 = .ok (.aload_n 1, 1) := by decide +kernel
theorem dX2_copyFrom_5 : decode cX2_copyFrom 5 = .ok (.getfield 12, 3) := by decide +kernel
theorem dX2_copyFrom_8 : decode cX2_copyFrom 8 = .ok (.invokevirtual 32, 3) := by decide +kernel
theorem dX2_copyFrom_11 : decode cX2_copyFrom 11 = .ok (.aload_n 0, 1) := by decide +kernel
theorem dX2_copyFrom_12 : decode cX2_copyFrom 12 = .ok (.getfield 21, 3) := by decide +kernel
theorem dX2_copyFrom_15 : decode cX2_copyFrom 15 = .ok (.aload_n 1, 1) := by decide +kernel
theorem dX2_copyFrom_16 : decode cX2_copyFrom 16 = .ok (.getfield 21, 3) := by decide +kernel
theorem dX2_copyFrom_19 : decode cX2_copyFrom 19 = .ok (.invokevirtual 36, 3) := by decide +kernel
theorem dX2_copyFrom_22 : decode cX2_copyFrom 22 = .ok (.aload_n 0, 1) := by decide +kernel
theorem dX2_copyFrom_23 : decode cX2_copyFrom 23 = .ok (.getfield 28, 3) := by decide +kernel
theorem dX2_copyFrom_26 : decode cX2_copyFrom 26 = .ok (.aload_n 1, 1) := by decide +kernel
theorem dX2_copyFrom_27 : decode cX2_copyFrom 27 = .ok (.getfield 28, 3) := by decide +kernel
theorem dX2_copyFrom_30 : decode cX2_copyFrom 30 = .ok (.invokevirtual 39, 3) := by decide +kernel
theorem dX2_copyFrom_33 : decode cX2_copyFrom 33 = .ok (.return_, 1) := by decide +kernel
theorem dX2_horizon_0 : decode cX2_horizon 0 = .ok (.aload_n 0, 1) := by decide +kernel
theorem dX2_horizon_1 : decode cX2_horizon 1 = .ok (.getfield 21, 3) := by decide +kernel
theorem dX2_horizon_4 : decode cX2_horizon 4 = .ok (.iconst (-1), 1) := by decide +kernel
theorem dX2_horizon_5 : decode cX2_horizon 5 = .ok (.aload_n 0, 1) := by decide +kernel
theorem dX2_horizon_6 : decode cX2_horizon 6 = .ok (.getfield 12, 3) := by decide +kernel
theorem dX2_horizon_9 : decode cX2_horizon 9 = .ok (.getfield 42, 3) := by decide +kernel
theorem dX2_horizon_12 : decode cX2_horizon 12 = .ok (.invokevirtual 46, 3) := by decide +kernel
theorem dX2_horizon_15 : decode cX2_horizon 15 = .ok (.ireturn, 1) := by decide +kernel
theorem dX3_init_0 : decode cX3_init 0 = .ok (.aload_n 0, 1) := by decide +kernel
theorem dX3_init_1 : decode cX3_init 1 = .ok (.invokespecial 3, 3) := by decide +kernel
theorem dX3_init_4 : decode cX3_init 4 = .ok (.aload_n 0, 1) := by decide +kernel
theorem dX3_init_5 : decode cX3_init 5 = .ok (.bipush 24, 2) := by decide +kernel
theorem dX3_init_7 : decode cX3_init 7 = .ok (.newarray .int, 2) := by decide +kernel
theorem dX3_init_9 : decode cX3_init 9 = .ok (.putfield 9, 3) := by decide +kernel
theorem dX3_init_12 : decode cX3_init 12 = .ok (.aload_n 0, 1) := by decide +kernel
theorem dX3_init_13 : decode cX3_init 13 = .ok (.bipush 24, 2) := by decide +kernel
theorem dX3_init_15 : decode cX3_init 15 = .ok (.newarray .int, 2) := by decide +kernel
theorem dX3_init_17 : decode cX3_init 17 = .ok (.putfield 15, 3) := by decide +kernel
theorem dX3_init_20 : decode cX3_init 20 = .ok (.aload_n 0, 1) := by decide +kernel
theorem dX3_init_21 : decode cX3_init 21 = .ok (.bipush 24, 2) := by decide +kernel
theorem dX3_init_23 : decode cX3_init 23 = .ok (.newarray .int, 2) := by decide +kernel
theorem dX3_init_25 : decode cX3_init 25 = .ok (.putfield 18, 3) := by decide +kernel
theorem dX3_init_28 : decode cX3_init 28 = .ok (.aload_n 0, 1) := by decide +kernel
theorem dX3_init_29 : decode cX3_init 29 = .ok (.bipush 6, 2) := by decide +kernel
theorem dX3_init_31 : decode cX3_init 31 = .ok (.newarray .int, 2) := by decide +kernel
theorem dX3_init_33 : decode cX3_init 33 = .ok (.putfield 21, 3) := by decide +kernel
theorem dX3_init_36 : decode cX3_init 36 = .ok (.aload_n 0, 1) := by decide +kernel
theorem dX3_init_37 : decode cX3_init 37 = .ok (.getfield 9, 3) := by decide +kernel
theorem dX3_init_40 : decode cX3_init 40 = .ok (.iconst (-1), 1) := by decide +kernel
theorem dX3_init_41 : decode cX3_init 41 = .ok (.invokestatic 24, 3) := by decide +kernel
theorem dX3_init_44 : decode cX3_init 44 = .ok (.aload_n 0, 1) := by decide +kernel
theorem dX3_init_45 : decode cX3_init 45 = .ok (.getfield 15, 3) := by decide +kernel
theorem dX3_init_48 : decode cX3_init 48 = .ok (.iconst (-1), 1) := by decide +kernel
theorem dX3_init_49 : decode cX3_init 49 = .ok (.invokestatic 24, 3) := by decide +kernel
theorem dX3_init_52 : decode cX3_init 52 = .ok (.aload_n 0, 1) := by decide +kernel
theorem dX3_init_53 : decode cX3_init 53 = .ok (.getfield 18, 3) := by decide +kernel
theorem dX3_init_56 : decode cX3_init 56 = .ok (.iconst (-1), 1) := by decide +kernel
theorem dX3_init_57 : decode cX3_init 57 = .ok (.invokestatic 24, 3) := by decide +kernel
theorem dX3_init_60 : decode cX3_init 60 = .ok (.aload_n 0, 1) := by decide +kernel
theorem dX3_init_61 : decode cX3_init 61 = .ok (.getfield 21, 3) := by decide +kernel
theorem dX3_init_64 : decode cX3_init 64 = .ok (.iconst (-1), 1) := by decide +kernel
theorem dX3_init_65 : decode cX3_init 65 = .ok (.invokestatic 24, 3) := by decide +kernel
theorem dX3_init_68 : decode cX3_init 68 = .ok (.return_, 1) := by decide +kernel
theorem dX3_copyFrom_0 : decode cX3_copyFrom 0 = .ok (.aload_n 1, 1) := by decide +kernel
theorem dX3_copyFrom_1 : decode cX3_copyFrom 1 = .ok (.getfield 9, 3) := by decide +kernel
theorem dX3_copyFrom_4 : decode cX3_copyFrom 4 = .ok (.iconst 0, 1) := by decide +kernel
theorem dX3_copyFrom_5 : decode cX3_copyFrom 5 = .ok (.aload_n 0, 1) := by decide +kernel
theorem dX3_copyFrom_6 : decode cX3_copyFrom 6 = .ok (.getfield 9, 3) := by decide +kernel
theorem dX3_copyFrom_9 : decode cX3_copyFrom 9 = .ok (.iconst 0, 1) := by decide +kernel
theorem dX3_copyFrom_10 : decode cX3_copyFrom 10 = .ok (.bipush 24, 2) := by decide +kernel
theorem dX3_copyFrom_12 : decode cX3_copyFrom 12 = .ok (.invokestatic 30, 3) := by decide +kernel
theorem dX3_copyFrom_15 : decode cX3_copyFrom 15 = .ok (.aload_n 1, 1) := by decide +kernel
theorem dX3_copyFrom_16 : decode cX3_copyFrom 16 = .ok (.getfield 15, 3) := by decide +kernel
theorem dX3_copyFrom_19 : decode cX3_copyFrom 19 = .ok (.iconst 0, 1) := by decide +kernel
theorem dX3_copyFrom_20 : decode cX3_copyFrom 20 = .ok (.aload_n 0, 1) := by decide +kernel
theorem dX3_copyFrom_21 : decode cX3_copyFrom 21 = .ok (.getfield 15, 3) := by decide +kernel
theorem dX3_copyFrom_24 : decode cX3_copyFrom 24 = .ok (.iconst 0, 1) := by decide +kernel
theorem dX3_copyFrom_25 : decode cX3_copyFrom 25 = .ok (.bipush 24, 2) := by decide +kernel
theorem dX3_copyFrom_27 : decode cX3_copyFrom 27 = .ok (.invokestatic 30, 3) := by decide +kernel
theorem dX3_copyFrom_30 : decode cX3_copyFrom 30 = .ok (.aload_n 1, 1) := by decide +kernel
theorem dX3_copyFrom_31 : decode cX3_copyFrom 31 = .ok (.getfield 18, 3) := by decide +kernel
theorem dX3_copyFrom_34 : decode cX3_copyFrom 34 = .ok (.iconst 0, 1) := by decide +kernel
theorem dX3_copyFrom_35 : decode cX3_copyFrom 35 = .ok (.aload_n 0, 1) := by decide +kernel
theorem dX3_copyFrom_36 : decode cX3_copyFrom 36 = .ok (.getfield 18, 3) := by decide +kernel
theorem dX3_copyFrom_39 : decode cX3_copyFrom 39 = .ok (.iconst 0, 1) := by decide +kernel
theorem dX3_copyFrom_40 : decode cX3_copyFrom 40 = .ok (.bipush 24, 2) := by decide +kernel
theorem dX3_copyFrom_42 : decode cX3_copyFrom 42 = .ok (.invokestatic 30, 3) := by decide +kernel
theorem dX3_copyFrom_45 : decode cX3_copyFrom 45 = .ok (.aload_n 1, 1) := by decide +kernel
theorem dX3_copyFrom_46 : decode cX3_copyFrom 46 = .ok (.getfield 21, 3) := by decide +kernel
theorem dX3_copyFrom_49 : decode cX3_copyFrom 49 = .ok (.iconst 0, 1) := by decide +kernel
theorem dX3_copyFrom_50 : decode cX3_copyFrom 50 = .ok (.aload_n 0, 1) := by decide +kernel
theorem dX3_copyFrom_51 : decode cX3_copyFrom 51 = .ok (.getfield 21, 3) := by decide +kernel
theorem dX3_copyFrom_54 : decode cX3_copyFrom 54 = .ok (.iconst 0, 1) := by decide +kernel
theorem dX3_copyFrom_55 : decode cX3_copyFrom 55 = .ok (.bipush 6, 2) := by decide +kernel
theorem dX3_copyFrom_57 : decode cX3_copyFrom 57 = .ok (.invokestatic 30, 3) := by decide +kernel
theorem dX3_copyFrom_60 : decode cX3_copyFrom 60 = .ok (.aload_n 0, 1) := by decide +kernel
theorem dX3_copyFrom_61 : decode cX3_copyFrom 61 = .ok (.aload_n 1, 1) := by decide +kernel
theorem dX3_copyFrom_62 : decode cX3_copyFrom 62 = .ok (.getfield 36, 3) := by decide +kernel
theorem dX3_copyFrom_65 : decode cX3_copyFrom 65 = .ok (.putfield 36, 3) := by decide +kernel
theorem dX3_copyFrom_68 : decode cX3_copyFrom 68 = .ok (.aload_n 0, 1) := by decide +kernel
theorem dX3_copyFrom_69 : decode cX3_copyFrom 69 = .ok (.aload_n 1, 1) := by decide +kernel
theorem dX3_copyFrom_70 : decode cX3_copyFrom 70 = .ok (.getfield 40, 3) := by decide +kernel
theorem dX3_copyFrom_73 : decode cX3_copyFrom 73 = .ok (.putfield 40, 3) := by decide +kernel
theorem dX3_copyFrom_76 : decode cX3_copyFrom 76 = .ok (.return_, 1) := by decide +kernel
theorem dX3_isSeen_0 : decode cX3_isSeen 0 = .ok (.aload_n 0, 1) := by decide +kernel
theorem dX3_isSeen_1 : decode cX3_isSeen 1 = .ok (.getfield 9, 3) := by decide +kernel
theorem dX3_isSeen_4 : decode cX3_isSeen 4 = .ok (.iload_n 1, 1) := by decide +kernel
theorem dX3_isSeen_5 : decode cX3_isSeen 5 = .ok (.iaload, 1) := by decide +kernel
theorem dX3_isSeen_6 : decode cX3_isSeen 6 = .ok (.iconst (-1), 1) := by decide +kernel
theorem dX3_isSeen_7 : decode cX3_isSeen 7 = .ok (.if_icmp .eq 13, 3) := by decide +kernel
theorem dX3_isSeen_10 : decode cX3_isSeen 10 = .ok (.aload_n 0, 1) := by decide +kernel
theorem dX3_isSeen_11 : decode cX3_isSeen 11 = .ok (.getfield 15, 3) := by decide +kernel
theorem dX3_isSeen_14 : decode cX3_isSeen 14 = .ok (.iload_n 1, 1) := by decide +kernel
theorem dX3_isSeen_15 : decode cX3_isSeen 15 = .ok (.iaload, 1) := by decide +kernel
theorem dX3_isSeen_16 : decode cX3_isSeen 16 = .ok (.iload_n 2, 1) := by decide +kernel
theorem dX3_isSeen_17 : decode cX3_isSeen 17 = .ok (.if_icmp .le 5, 3) := by decide +kernel
theorem dX3_isSeen_20 : decode cX3_isSeen 20 = .ok (.iconst 0, 1) := by decide +kernel
theorem dX3_isSeen_21 : decode cX3_isSeen 21 = .ok (.ireturn, 1) := by decide +kernel
theorem dX3_isSeen_22 : decode cX3_isSeen 22 = .ok (.aload_n 0, 1) := by decide +kernel
theorem dX3_isSeen_23 : decode cX3_isSeen 23 = .ok (.getfield 18, 3) := by decide +kernel
theorem dX3_isSeen_26 : decode cX3_isSeen 26 = .ok (.iload_n 1, 1) := by decide +kernel
theorem dX3_isSeen_27 : decode cX3_isSeen 27 = .ok (.iaload, 1) := by decide +kernel
theorem dX3_isSeen_28 : decode cX3_isSeen 28 = .ok (.ifCond .eq 13, 3) := by decide +kernel
theorem dX3_isSeen_31 : decode cX3_isSeen 31 = .ok (.aload_n 0, 1) := by decide +kernel
theorem dX3_isSeen_32 : decode cX3_isSeen 32 = .ok (.getfield 18, 3) := by decide +kernel
theorem dX3_isSeen_35 : decode cX3_isSeen 35 = .ok (.iload_n 1, 1) := by decide +kernel
theorem dX3_isSeen_36 : decode cX3_isSeen 36 = .ok (.iaload, 1) := by decide +kernel
theorem dX3_isSeen_37 : decode cX3_isSeen 37 = .ok (.iload_n 2, 1) := by decide +kernel
theorem dX3_isSeen_38 : decode cX3_isSeen 38 = .ok (.if_icmp .le 7, 3) := by decide +kernel
theorem dX3_isSeen_41 : decode cX3_isSeen 41 = .ok (.iconst 1, 1) := by decide +kernel
theorem dX3_isSeen_42 : decode cX3_isSeen 42 = .ok (.goto 4, 3) := by decide +kernel
theorem dX3_isSeen_45 : decode cX3_isSeen 45 = .ok (.iconst 0, 1) := by decide +kernel
theorem dX3_isSeen_46 : decode cX3_isSeen 46 = .ok (.ireturn, 1) := by decide +kernel
theorem dX3_isSeenNow_0 : decode cX3_isSeenNow 0 = .ok (.aload_n 0, 1) := by decide +kernel
theorem dX3_isSeenNow_1 : decode cX3_isSeenNow 1 = .ok (.iload_n 1, 1) := by decide +kernel
theorem dX3_isSeenNow_2 : decode cX3_isSeenNow 2 = .ok (.aload_n 0, 1) := by decide +kernel
theorem dX3_isSeenNow_3 : decode cX3_isSeenNow 3 = .ok (.getfield 36, 3) := by decide +kernel
theorem dX3_isSeenNow_6 : decode cX3_isSeenNow 6 = .ok (.invokevirtual 43, 3) := by decide +kernel
theorem dX3_isSeenNow_9 : decode cX3_isSeenNow 9 = .ok (.ireturn, 1) := by decide +kernel
theorem dX3_isMarked_0 : decode cX3_isMarked 0 = .ok (.aload_n 0, 1) := by decide +kernel
theorem dX3_isMarked_1 : decode cX3_isMarked 1 = .ok (.getfield 21, 3) := by decide +kernel
theorem dX3_isMarked_4 : decode cX3_isMarked 4 = .ok (.iload_n 1, 1) := by decide +kernel
theorem dX3_isMarked_5 : decode cX3_isMarked 5 = .ok (.iaload, 1) := by decide +kernel
theorem dX3_isMarked_6 : decode cX3_isMarked 6 = .ok (.iconst (-1), 1) := by decide +kernel
theorem dX3_isMarked_7 : decode cX3_isMarked 7 = .ok (.if_icmp .eq 7, 3) := by decide +kernel
theorem dX3_isMarked_10 : decode cX3_isMarked 10 = .ok (.iconst 1, 1) := by decide +kernel
theorem dX3_isMarked_11 : decode cX3_isMarked 11 = .ok (.goto 4, 3) := by decide +kernel
theorem dX3_isMarked_14 : decode cX3_isMarked 14 = .ok (.iconst 0, 1) := by decide +kernel
theorem dX3_isMarked_15 : decode cX3_isMarked 15 = .ok (.ireturn, 1) := by decide +kernel
theorem dX3_lowestEmptySlot_0 : decode cX3_lowestEmptySlot 0 = .ok (.iconst 0, 1) := by decide +kernel
theorem dX3_lowestEmptySlot_1 : decode cX3_lowestEmptySlot 1 = .ok (.istore_n 1, 1) := by decide +kernel
theorem dX3_lowestEmptySlot_2 : decode cX3_lowestEmptySlot 2 = .ok (.iload_n 1, 1) := by decide +kernel
theorem dX3_lowestEmptySlot_3 : decode cX3_lowestEmptySlot 3 = .ok (.bipush 24, 2) := by decide +kernel
theorem dX3_lowestEmptySlot_5 : decode cX3_lowestEmptySlot 5 = .ok (.if_icmp .ge 21, 3) := by decide +kernel
theorem dX3_lowestEmptySlot_8 : decode cX3_lowestEmptySlot 8 = .ok (.aload_n 0, 1) := by decide +kernel
theorem dX3_lowestEmptySlot_9 : decode cX3_lowestEmptySlot 9 = .ok (.getfield 9, 3) := by decide +kernel
theorem dX3_lowestEmptySlot_12 : decode cX3_lowestEmptySlot 12 = .ok (.iload_n 1, 1) := by decide +kernel
theorem dX3_lowestEmptySlot_13 : decode cX3_lowestEmptySlot 13 = .ok (.iaload, 1) := by decide +kernel
theorem dX3_lowestEmptySlot_14 : decode cX3_lowestEmptySlot 14 = .ok (.iconst (-1), 1) := by decide +kernel
theorem dX3_lowestEmptySlot_15 : decode cX3_lowestEmptySlot 15 = .ok (.if_icmp .ne 5, 3) := by decide +kernel
theorem dX3_lowestEmptySlot_18 : decode cX3_lowestEmptySlot 18 = .ok (.iload_n 1, 1) := by decide +kernel
theorem dX3_lowestEmptySlot_19 : decode cX3_lowestEmptySlot 19 = .ok (.ireturn, 1) := by decide +kernel
theorem dX3_lowestEmptySlot_20 : decode cX3_lowestEmptySlot 20 = .ok (.iinc 1 1, 3) := by decide +kernel
theorem dX3_lowestEmptySlot_23 : decode cX3_lowestEmptySlot 23 = .ok (.goto (-21), 3) := by decide +kernel
theorem dX3_lowestEmptySlot_26 : decode cX3_lowestEmptySlot 26 = .ok (.iconst (-1), 1) := by decide +kernel
theorem dX3_lowestEmptySlot_27 : decode cX3_lowestEmptySlot 27 = .ok (.ireturn, 1) := by decide +kernel
theorem dX3_hasEmptySlot_0 : decode cX3_hasEmptySlot 0 = .ok (.aload_n 0, 1) := by decide +kernel
theorem dX3_hasEmptySlot_1 : decode cX3_hasEmptySlot 1 = .ok (.invokevirtual 47, 3) := by decide +kernel
theorem dX3_hasEmptySlot_4 : decode cX3_hasEmptySlot 4 = .ok (.iconst (-1), 1) := by decide +kernel
theorem dX3_hasEmptySlot_5 : decode cX3_hasEmptySlot 5 = .ok (.if_icmp .eq 7, 3) := by decide +kernel
theorem dX3_hasEmptySlot_8 : decode cX3_hasEmptySlot 8 = .ok (.iconst 1, 1) := by decide +kernel
theorem dX3_hasEmptySlot_9 : decode cX3_hasEmptySlot 9 = .ok (.goto 4, 3) := by decide +kernel
theorem dX3_hasEmptySlot_12 : decode cX3_hasEmptySlot 12 = .ok (.iconst 0, 1) := by decide +kernel
theorem dX3_hasEmptySlot_13 : decode cX3_hasEmptySlot 13 = .ok (.ireturn, 1) := by decide +kernel
theorem dX3_putValue_0 : decode cX3_putValue 0 = .ok (.aload_n 0, 1) := by decide +kernel
theorem dX3_putValue_1 : decode cX3_putValue 1 = .ok (.invokevirtual 47, 3) := by decide +kernel
theorem dX3_putValue_4 : decode cX3_putValue 4 = .ok (.istore_n 2, 1) := by decide +kernel
theorem dX3_putValue_5 : decode cX3_putValue 5 = .ok (.iload_n 2, 1) := by decide +kernel
theorem dX3_putValue_6 : decode cX3_putValue 6 = .ok (.iconst (-1), 1) := by decide +kernel
theorem dX3_putValue_7 : decode cX3_putValue 7 = .ok (.if_icmp .ne 5, 3) := by decide +kernel
theorem dX3_putValue_10 : decode cX3_putValue 10 = .ok (.iconst (-1), 1) := by decide +kernel
theorem dX3_putValue_11 : decode cX3_putValue 11 = .ok (.ireturn, 1) := by decide +kernel
theorem dX3_putValue_12 : decode cX3_putValue 12 = .ok (.aload_n 0, 1) := by decide +kernel
theorem dX3_putValue_13 : decode cX3_putValue 13 = .ok (.dup, 1) := by decide +kernel
theorem dX3_putValue_14 : decode cX3_putValue 14 = .ok (.getfield 36, 3) := by decide +kernel
theorem dX3_putValue_17 : decode cX3_putValue 17 = .ok (.iconst 1, 1) := by decide +kernel
theorem dX3_putValue_18 : decode cX3_putValue 18 = .ok (.iadd, 1) := by decide +kernel
theorem dX3_putValue_19 : decode cX3_putValue 19 = .ok (.putfield 36, 3) := by decide +kernel
theorem dX3_putValue_22 : decode cX3_putValue 22 = .ok (.aload_n 0, 1) := by decide +kernel
theorem dX3_putValue_23 : decode cX3_putValue 23 = .ok (.iload_n 2, 1) := by decide +kernel
theorem dX3_putValue_24 : decode cX3_putValue 24 = .ok (.iload_n 1, 1) := by decide +kernel
theorem dX3_putValue_25 : decode cX3_putValue 25 = .ok (.invokevirtual 51, 3) := by decide +kernel
theorem dX3_putValue_28 : decode cX3_putValue 28 = .ok (.iload_n 2, 1) := by decide +kernel
theorem dX3_putValue_29 : decode cX3_putValue 29 = .ok (.ireturn, 1) := by decide +kernel
theorem dX3_takeAway_0 : decode cX3_takeAway 0 = .ok (.aload_n 0, 1) := by decide +kernel
theorem dX3_takeAway_1 : decode cX3_takeAway 1 = .ok (.iload_n 1, 1) := by decide +kernel
theorem dX3_takeAway_2 : decode cX3_takeAway 2 = .ok (.invokevirtual 55, 3) := by decide +kernel
theorem dX3_takeAway_5 : decode cX3_takeAway 5 = .ok (.ifCond .ne 5, 3) := by decide +kernel
theorem dX3_takeAway_8 : decode cX3_takeAway 8 = .ok (.iconst 0, 1) := by decide +kernel
theorem dX3_takeAway_9 : decode cX3_takeAway 9 = .ok (.ireturn, 1) := by decide +kernel
theorem dX3_takeAway_10 : decode cX3_takeAway 10 = .ok (.aload_n 0, 1) := by decide +kernel
theorem dX3_takeAway_11 : decode cX3_takeAway 11 = .ok (.dup, 1) := by decide +kernel
theorem dX3_takeAway_12 : decode cX3_takeAway 12 = .ok (.getfield 36, 3) := by decide +kernel
theorem dX3_takeAway_15 : decode cX3_takeAway 15 = .ok (.iconst 1, 1) := by decide +kernel
theorem dX3_takeAway_16 : decode cX3_takeAway 16 = .ok (.iadd, 1) := by decide +kernel
theorem dX3_takeAway_17 : decode cX3_takeAway 17 = .ok (.putfield 36, 3) := by decide +kernel
theorem dX3_takeAway_20 : decode cX3_takeAway 20 = .ok (.aload_n 0, 1) := by decide +kernel
theorem dX3_takeAway_21 : decode cX3_takeAway 21 = .ok (.iload_n 1, 1) := by decide +kernel
theorem dX3_takeAway_22 : decode cX3_takeAway 22 = .ok (.invokevirtual 59, 3) := by decide +kernel
theorem dX3_takeAway_25 : decode cX3_takeAway 25 = .ok (.iconst 1, 1) := by decide +kernel
theorem dX3_takeAway_26 : decode cX3_takeAway 26 = .ok (.ireturn, 1) := by decide +kernel
theorem dX3_changeTo_0 : decode cX3_changeTo 0 = .ok (.aload_n 0, 1) := by decide +kernel
theorem dX3_changeTo_1 : decode cX3_changeTo 1 = .ok (.invokevirtual 47, 3) := by decide +kernel
theorem dX3_changeTo_4 : decode cX3_changeTo 4 = .ok (.istore_n 3, 1) := by decide +kernel
theorem dX3_changeTo_5 : decode cX3_changeTo 5 = .ok (.iload_n 3, 1) := by decide +kernel
theorem dX3_changeTo_6 : decode cX3_changeTo 6 = .ok (.iconst (-1), 1) := by decide +kernel
theorem dX3_changeTo_7 : decode cX3_changeTo 7 = .ok (.if_icmp .eq 11, 3) := by decide +kernel
theorem dX3_changeTo_10 : decode cX3_changeTo 10 = .ok (.aload_n 0, 1) := by decide +kernel
theorem dX3_changeTo_11 : decode cX3_changeTo 11 = .ok (.iload_n 1, 1) := by decide +kernel
theorem dX3_changeTo_12 : decode cX3_changeTo 12 = .ok (.invokevirtual 55, 3) := by decide +kernel
theorem dX3_changeTo_15 : decode cX3_changeTo 15 = .ok (.ifCond .ne 5, 3) := by decide +kernel
theorem dX3_changeTo_18 : decode cX3_changeTo 18 = .ok (.iconst (-1), 1) := by decide +kernel
theorem dX3_changeTo_19 : decode cX3_changeTo 19 = .ok (.ireturn, 1) := by decide +kernel
theorem dX3_changeTo_20 : decode cX3_changeTo 20 = .ok (.aload_n 0, 1) := by decide +kernel
theorem dX3_changeTo_21 : decode cX3_changeTo 21 = .ok (.dup, 1) := by decide +kernel
theorem dX3_changeTo_22 : decode cX3_changeTo 22 = .ok (.getfield 36, 3) := by decide +kernel
theorem dX3_changeTo_25 : decode cX3_changeTo 25 = .ok (.iconst 1, 1) := by decide +kernel
theorem dX3_changeTo_26 : decode cX3_changeTo 26 = .ok (.iadd, 1) := by decide +kernel
theorem dX3_changeTo_27 : decode cX3_changeTo 27 = .ok (.putfield 36, 3) := by decide +kernel
theorem dX3_changeTo_30 : decode cX3_changeTo 30 = .ok (.aload_n 0, 1) := by decide +kernel
theorem dX3_changeTo_31 : decode cX3_changeTo 31 = .ok (.iload_n 1, 1) := by decide +kernel
theorem dX3_changeTo_32 : decode cX3_changeTo 32 = .ok (.invokevirtual 59, 3) := by decide +kernel
theorem dX3_changeTo_35 : decode cX3_changeTo 35 = .ok (.aload_n 0, 1) := by decide +kernel
theorem dX3_changeTo_36 : decode cX3_changeTo 36 = .ok (.iload_n 3, 1) := by decide +kernel
theorem dX3_changeTo_37 : decode cX3_changeTo 37 = .ok (.iload_n 2, 1) := by decide +kernel
theorem dX3_changeTo_38 : decode cX3_changeTo 38 = .ok (.invokevirtual 51, 3) := by decide +kernel
theorem dX3_changeTo_41 : decode cX3_changeTo 41 = .ok (.iload_n 3, 1) := by decide +kernel
theorem dX3_changeTo_42 : decode cX3_changeTo 42 = .ok (.ireturn, 1) := by decide +kernel
theorem dX3_come_0 : decode cX3_come 0 = .ok (.aload_n 0, 1) := by decide +kernel
theorem dX3_come_1 : decode cX3_come 1 = .ok (.getfield 9, 3) := by decide +kernel
theorem dX3_come_4 : decode cX3_come 4 = .ok (.iload_n 1, 1) := by decide +kernel
theorem dX3_come_5 : decode cX3_come 5 = .ok (.iload_n 2, 1) := by decide +kernel
theorem dX3_come_6 : decode cX3_come 6 = .ok (.iastore, 1) := by decide +kernel
theorem dX3_come_7 : decode cX3_come 7 = .ok (.aload_n 0, 1) := by decide +kernel
theorem dX3_come_8 : decode cX3_come 8 = .ok (.getfield 15, 3) := by decide +kernel
theorem dX3_come_11 : decode cX3_come 11 = .ok (.iload_n 1, 1) := by decide +kernel
theorem dX3_come_12 : decode cX3_come 12 = .ok (.aload_n 0, 1) := by decide +kernel
theorem dX3_come_13 : decode cX3_come 13 = .ok (.getfield 36, 3) := by decide +kernel
theorem dX3_come_16 : decode cX3_come 16 = .ok (.iastore, 1) := by decide +kernel
theorem dX3_come_17 : decode cX3_come 17 = .ok (.aload_n 0, 1) := by decide +kernel
theorem dX3_come_18 : decode cX3_come 18 = .ok (.getfield 18, 3) := by decide +kernel
theorem dX3_come_21 : decode cX3_come 21 = .ok (.iload_n 1, 1) := by decide +kernel
theorem dX3_come_22 : decode cX3_come 22 = .ok (.iconst 0, 1) := by decide +kernel
theorem dX3_come_23 : decode cX3_come 23 = .ok (.iastore, 1) := by decide +kernel
theorem dX3_come_24 : decode cX3_come 24 = .ok (.aload_n 0, 1) := by decide +kernel
theorem dX3_come_25 : decode cX3_come 25 = .ok (.getfield 21, 3) := by decide +kernel
theorem dX3_come_28 : decode cX3_come 28 = .ok (.iload_n 1, 1) := by decide +kernel
theorem dX3_come_29 : decode cX3_come 29 = .ok (.iconst 4, 1) := by decide +kernel
theorem dX3_come_30 : decode cX3_come 30 = .ok (.idiv, 1) := by decide +kernel
theorem dX3_come_31 : decode cX3_come 31 = .ok (.iconst (-1), 1) := by decide +kernel
theorem dX3_come_32 : decode cX3_come 32 = .ok (.iastore, 1) := by decide +kernel
theorem dX3_come_33 : decode cX3_come 33 = .ok (.return_, 1) := by decide +kernel
theorem dX3_go_0 : decode cX3_go 0 = .ok (.aload_n 0, 1) := by decide +kernel
theorem dX3_go_1 : decode cX3_go 1 = .ok (.getfield 18, 3) := by decide +kernel
theorem dX3_go_4 : decode cX3_go 4 = .ok (.iload_n 1, 1) := by decide +kernel
theorem dX3_go_5 : decode cX3_go 5 = .ok (.aload_n 0, 1) := by decide +kernel
theorem dX3_go_6 : decode cX3_go 6 = .ok (.getfield 36, 3) := by decide +kernel
theorem dX3_go_9 : decode cX3_go 9 = .ok (.iastore, 1) := by decide +kernel
theorem dX3_go_10 : decode cX3_go 10 = .ok (.aload_n 0, 1) := by decide +kernel
theorem dX3_go_11 : decode cX3_go 11 = .ok (.getfield 21, 3) := by decide +kernel
theorem dX3_go_14 : decode cX3_go 14 = .ok (.iload_n 1, 1) := by decide +kernel
theorem dX3_go_15 : decode cX3_go 15 = .ok (.iconst 4, 1) := by decide +kernel
theorem dX3_go_16 : decode cX3_go 16 = .ok (.idiv, 1) := by decide +kernel
theorem dX3_go_17 : decode cX3_go 17 = .ok (.iconst (-1), 1) := by decide +kernel
theorem dX3_go_18 : decode cX3_go 18 = .ok (.iastore, 1) := by decide +kernel
theorem dX3_go_19 : decode cX3_go 19 = .ok (.return_, 1) := by decide +kernel
theorem dX3_isToTakeOut_0 : decode cX3_isToTakeOut 0 = .ok (.aload_n 0, 1) := by decide +kernel
theorem dX3_isToTakeOut_1 : decode cX3_isToTakeOut 1 = .ok (.getfield 18, 3) := by decide +kernel
theorem dX3_isToTakeOut_4 : decode cX3_isToTakeOut 4 = .ok (.iload_n 1, 1) := by decide +kernel
theorem dX3_isToTakeOut_5 : decode cX3_isToTakeOut 5 = .ok (.iaload, 1) := by decide +kernel
theorem dX3_isToTakeOut_6 : decode cX3_isToTakeOut 6 = .ok (.ifCond .le 17, 3) := by decide +kernel
theorem dX3_isToTakeOut_9 : decode cX3_isToTakeOut 9 = .ok (.aload_n 0, 1) := by decide +kernel
theorem dX3_isToTakeOut_10 : decode cX3_isToTakeOut 10 = .ok (.getfield 18, 3) := by decide +kernel
theorem dX3_isToTakeOut_13 : decode cX3_isToTakeOut 13 = .ok (.iload_n 1, 1) := by decide +kernel
theorem dX3_isToTakeOut_14 : decode cX3_isToTakeOut 14 = .ok (.iaload, 1) := by decide +kernel
theorem dX3_isToTakeOut_15 : decode cX3_isToTakeOut 15 = .ok (.iload_n 2, 1) := by decide +kernel
theorem dX3_isToTakeOut_16 : decode cX3_isToTakeOut 16 = .ok (.if_icmp .gt 7, 3) := by decide +kernel
theorem dX3_isToTakeOut_19 : decode cX3_isToTakeOut 19 = .ok (.iconst 1, 1) := by decide +kernel
theorem dX3_isToTakeOut_20 : decode cX3_isToTakeOut 20 = .ok (.goto 4, 3) := by decide +kernel
theorem dX3_isToTakeOut_23 : decode cX3_isToTakeOut 23 = .ok (.iconst 0, 1) := by decide +kernel
theorem dX3_isToTakeOut_24 : decode cX3_isToTakeOut 24 = .ok (.ireturn, 1) := by decide +kernel
theorem dX3_isSeenByAll_0 : decode cX3_isSeenByAll 0 = .ok (.aload_n 0, 1) := by decide +kernel
theorem dX3_isSeenByAll_1 : decode cX3_isSeenByAll 1 = .ok (.getfield 15, 3) := by decide +kernel
theorem dX3_isSeenByAll_4 : decode cX3_isSeenByAll 4 = .ok (.iload_n 1, 1) := by decide +kernel
theorem dX3_isSeenByAll_5 : decode cX3_isSeenByAll 5 = .ok (.iaload, 1) := by decide +kernel
theorem dX3_isSeenByAll_6 : decode cX3_isSeenByAll 6 = .ok (.iload_n 2, 1) := by decide +kernel
theorem dX3_isSeenByAll_7 : decode cX3_isSeenByAll 7 = .ok (.if_icmp .gt 16, 3) := by decide +kernel
theorem dX3_isSeenByAll_10 : decode cX3_isSeenByAll 10 = .ok (.aload_n 0, 1) := by decide +kernel
theorem dX3_isSeenByAll_11 : decode cX3_isSeenByAll 11 = .ok (.getfield 18, 3) := by decide +kernel
theorem dX3_isSeenByAll_14 : decode cX3_isSeenByAll 14 = .ok (.iload_n 1, 1) := by decide +kernel
theorem dX3_isSeenByAll_15 : decode cX3_isSeenByAll 15 = .ok (.iaload, 1) := by decide +kernel
theorem dX3_isSeenByAll_16 : decode cX3_isSeenByAll 16 = .ok (.ifCond .ne 7, 3) := by decide +kernel
theorem dX3_isSeenByAll_19 : decode cX3_isSeenByAll 19 = .ok (.iconst 1, 1) := by decide +kernel
theorem dX3_isSeenByAll_20 : decode cX3_isSeenByAll 20 = .ok (.goto 4, 3) := by decide +kernel
theorem dX3_isSeenByAll_23 : decode cX3_isSeenByAll 23 = .ok (.iconst 0, 1) := by decide +kernel
theorem dX3_isSeenByAll_24 : decode cX3_isSeenByAll 24 = .ok (.ireturn, 1) := by decide +kernel
theorem dX3_empty_0 : decode cX3_empty 0 = .ok (.aload_n 0, 1) := by decide +kernel
theorem dX3_empty_1 : decode cX3_empty 1 = .ok (.getfield 9, 3) := by decide +kernel
theorem dX3_empty_4 : decode cX3_empty 4 = .ok (.iload_n 1, 1) := by decide +kernel
theorem dX3_empty_5 : decode cX3_empty 5 = .ok (.iconst (-1), 1) := by decide +kernel
theorem dX3_empty_6 : decode cX3_empty 6 = .ok (.iastore, 1) := by decide +kernel
theorem dX3_empty_7 : decode cX3_empty 7 = .ok (.aload_n 0, 1) := by decide +kernel
theorem dX3_empty_8 : decode cX3_empty 8 = .ok (.getfield 15, 3) := by decide +kernel
theorem dX3_empty_11 : decode cX3_empty 11 = .ok (.iload_n 1, 1) := by decide +kernel
theorem dX3_empty_12 : decode cX3_empty 12 = .ok (.iconst (-1), 1) := by decide +kernel
theorem dX3_empty_13 : decode cX3_empty 13 = .ok (.iastore, 1) := by decide +kernel
theorem dX3_empty_14 : decode cX3_empty 14 = .ok (.aload_n 0, 1) := by decide +kernel
theorem dX3_empty_15 : decode cX3_empty 15 = .ok (.getfield 18, 3) := by decide +kernel
theorem dX3_empty_18 : decode cX3_empty 18 = .ok (.iload_n 1, 1) := by decide +kernel
theorem dX3_empty_19 : decode cX3_empty 19 = .ok (.iconst (-1), 1) := by decide +kernel
theorem dX3_empty_20 : decode cX3_empty 20 = .ok (.iastore, 1) := by decide +kernel
theorem dX3_empty_21 : decode cX3_empty 21 = .ok (.return_, 1) := by decide +kernel
theorem dX3_sweepPage_0 : decode cX3_sweepPage 0 = .ok (.iconst 0, 1) := by decide +kernel
theorem dX3_sweepPage_1 : decode cX3_sweepPage 1 = .ok (.istore_n 3, 1) := by decide +kernel
theorem dX3_sweepPage_2 : decode cX3_sweepPage 2 = .ok (.iconst 1, 1) := by decide +kernel
theorem dX3_sweepPage_3 : decode cX3_sweepPage 3 = .ok (.istore 4, 2) := by decide +kernel
theorem dX3_sweepPage_5 : decode cX3_sweepPage 5 = .ok (.iload_n 1, 1) := by decide +kernel
theorem dX3_sweepPage_6 : decode cX3_sweepPage 6 = .ok (.iconst 4, 1) := by decide +kernel
theorem dX3_sweepPage_7 : decode cX3_sweepPage 7 = .ok (.imul, 1) := by decide +kernel
theorem dX3_sweepPage_8 : decode cX3_sweepPage 8 = .ok (.istore 5, 2) := by decide +kernel
theorem dX3_sweepPage_10 : decode cX3_sweepPage 10 = .ok (.iload 5, 2) := by decide +kernel
theorem dX3_sweepPage_12 : decode cX3_sweepPage 12 = .ok (.istore 6, 2) := by decide +kernel
theorem dX3_sweepPage_14 : decode cX3_sweepPage 14 = .ok (.iload 6, 2) := by decide +kernel
theorem dX3_sweepPage_16 : decode cX3_sweepPage 16 = .ok (.iload 5, 2) := by decide +kernel
theorem dX3_sweepPage_18 : decode cX3_sweepPage 18 = .ok (.iconst 4, 1) := by decide +kernel
theorem dX3_sweepPage_19 : decode cX3_sweepPage 19 = .ok (.iadd, 1) := by decide +kernel
theorem dX3_sweepPage_20 : decode cX3_sweepPage 20 = .ok (.if_icmp .ge 55, 3) := by decide +kernel
theorem dX3_sweepPage_23 : decode cX3_sweepPage 23 = .ok (.aload_n 0, 1) := by decide +kernel
theorem dX3_sweepPage_24 : decode cX3_sweepPage 24 = .ok (.iload 6, 2) := by decide +kernel
theorem dX3_sweepPage_26 : decode cX3_sweepPage 26 = .ok (.iload_n 2, 1) := by decide +kernel
theorem dX3_sweepPage_27 : decode cX3_sweepPage 27 = .ok (.invokevirtual 63, 3) := by decide +kernel
theorem dX3_sweepPage_30 : decode cX3_sweepPage 30 = .ok (.ifCond .eq 15, 3) := by decide +kernel
theorem dX3_sweepPage_33 : decode cX3_sweepPage 33 = .ok (.aload_n 0, 1) := by decide +kernel
theorem dX3_sweepPage_34 : decode cX3_sweepPage 34 = .ok (.iload 6, 2) := by decide +kernel
theorem dX3_sweepPage_36 : decode cX3_sweepPage 36 = .ok (.invokevirtual 66, 3) := by decide +kernel
theorem dX3_sweepPage_39 : decode cX3_sweepPage 39 = .ok (.iinc 3 1, 3) := by decide +kernel
theorem dX3_sweepPage_42 : decode cX3_sweepPage 42 = .ok (.goto 27, 3) := by decide +kernel
theorem dX3_sweepPage_45 : decode cX3_sweepPage 45 = .ok (.aload_n 0, 1) := by decide +kernel
theorem dX3_sweepPage_46 : decode cX3_sweepPage 46 = .ok (.getfield 9, 3) := by decide +kernel
theorem dX3_sweepPage_49 : decode cX3_sweepPage 49 = .ok (.iload 6, 2) := by decide +kernel
theorem dX3_sweepPage_51 : decode cX3_sweepPage 51 = .ok (.iaload, 1) := by decide +kernel
theorem dX3_sweepPage_52 : decode cX3_sweepPage 52 = .ok (.iconst (-1), 1) := by decide +kernel
theorem dX3_sweepPage_53 : decode cX3_sweepPage 53 = .ok (.if_icmp .eq 16, 3) := by decide +kernel
theorem dX3_sweepPage_56 : decode cX3_sweepPage 56 = .ok (.aload_n 0, 1) := by decide +kernel
theorem dX3_sweepPage_57 : decode cX3_sweepPage 57 = .ok (.iload 6, 2) := by decide +kernel
theorem dX3_sweepPage_59 : decode cX3_sweepPage 59 = .ok (.iload_n 2, 1) := by decide +kernel
theorem dX3_sweepPage_60 : decode cX3_sweepPage 60 = .ok (.invokevirtual 69, 3) := by decide +kernel
theorem dX3_sweepPage_63 : decode cX3_sweepPage 63 = .ok (.ifCond .ne 6, 3) := by decide +kernel
theorem dX3_sweepPage_66 : decode cX3_sweepPage 66 = .ok (.iconst 0, 1) := by decide +kernel
theorem dX3_sweepPage_67 : decode cX3_sweepPage 67 = .ok (.istore 4, 2) := by decide +kernel
theorem dX3_sweepPage_69 : decode cX3_sweepPage 69 = .ok (.iinc 6 1, 3) := by decide +kernel
theorem dX3_sweepPage_72 : decode cX3_sweepPage 72 = .ok (.goto (-58), 3) := by decide +kernel
theorem dX3_sweepPage_75 : decode cX3_sweepPage 75 = .ok (.iload 4, 2) := by decide +kernel
theorem dX3_sweepPage_77 : decode cX3_sweepPage 77 = .ok (.ifCond .eq 10, 3) := by decide +kernel
theorem dX3_sweepPage_80 : decode cX3_sweepPage 80 = .ok (.aload_n 0, 1) := by decide +kernel
theorem dX3_sweepPage_81 : decode cX3_sweepPage 81 = .ok (.getfield 21, 3) := by decide +kernel
theorem dX3_sweepPage_84 : decode cX3_sweepPage 84 = .ok (.iload_n 1, 1) := by decide +kernel
theorem dX3_sweepPage_85 : decode cX3_sweepPage 85 = .ok (.iload_n 2, 1) := by decide +kernel
theorem dX3_sweepPage_86 : decode cX3_sweepPage 86 = .ok (.iastore, 1) := by decide +kernel
theorem dX3_sweepPage_87 : decode cX3_sweepPage 87 = .ok (.aload_n 0, 1) := by decide +kernel
theorem dX3_sweepPage_88 : decode cX3_sweepPage 88 = .ok (.dup, 1) := by decide +kernel
theorem dX3_sweepPage_89 : decode cX3_sweepPage 89 = .ok (.getfield 40, 3) := by decide +kernel
theorem dX3_sweepPage_92 : decode cX3_sweepPage 92 = .ok (.iload_n 3, 1) := by decide +kernel
theorem dX3_sweepPage_93 : decode cX3_sweepPage 93 = .ok (.iadd, 1) := by decide +kernel
theorem dX3_sweepPage_94 : decode cX3_sweepPage 94 = .ok (.putfield 40, 3) := by decide +kernel
theorem dX3_sweepPage_97 : decode cX3_sweepPage 97 = .ok (.iload_n 3, 1) := by decide +kernel
theorem dX3_sweepPage_98 : decode cX3_sweepPage 98 = .ok (.ireturn, 1) := by decide +kernel
theorem dX3_versions_0 : decode cX3_versions 0 = .ok (.iconst 0, 1) := by decide +kernel
theorem dX3_versions_1 : decode cX3_versions 1 = .ok (.istore_n 3, 1) := by decide +kernel
theorem dX3_versions_2 : decode cX3_versions 2 = .ok (.iload_n 1, 1) := by decide +kernel
theorem dX3_versions_3 : decode cX3_versions 3 = .ok (.istore 4, 2) := by decide +kernel
theorem dX3_versions_5 : decode cX3_versions 5 = .ok (.iload 4, 2) := by decide +kernel
theorem dX3_versions_7 : decode cX3_versions 7 = .ok (.iload_n 2, 1) := by decide +kernel
theorem dX3_versions_8 : decode cX3_versions 8 = .ok (.if_icmp .ge 23, 3) := by decide +kernel
theorem dX3_versions_11 : decode cX3_versions 11 = .ok (.aload_n 0, 1) := by decide +kernel
theorem dX3_versions_12 : decode cX3_versions 12 = .ok (.getfield 9, 3) := by decide +kernel
theorem dX3_versions_15 : decode cX3_versions 15 = .ok (.iload 4, 2) := by decide +kernel
theorem dX3_versions_17 : decode cX3_versions 17 = .ok (.iaload, 1) := by decide +kernel
theorem dX3_versions_18 : decode cX3_versions 18 = .ok (.iconst (-1), 1) := by decide +kernel
theorem dX3_versions_19 : decode cX3_versions 19 = .ok (.if_icmp .eq 6, 3) := by decide +kernel
theorem dX3_versions_22 : decode cX3_versions 22 = .ok (.iinc 3 1, 3) := by decide +kernel
theorem dX3_versions_25 : decode cX3_versions 25 = .ok (.iinc 4 1, 3) := by decide +kernel
theorem dX3_versions_28 : decode cX3_versions 28 = .ok (.goto (-23), 3) := by decide +kernel
theorem dX3_versions_31 : decode cX3_versions 31 = .ok (.iload_n 3, 1) := by decide +kernel
theorem dX3_versions_32 : decode cX3_versions 32 = .ok (.ireturn, 1) := by decide +kernel
theorem dX3_versionsSeen_0 : decode cX3_versionsSeen 0 = .ok (.iconst 0, 1) := by decide +kernel
theorem dX3_versionsSeen_1 : decode cX3_versionsSeen 1 = .ok (.istore 4, 2) := by decide +kernel
theorem dX3_versionsSeen_3 : decode cX3_versionsSeen 3 = .ok (.iload_n 1, 1) := by decide +kernel
theorem dX3_versionsSeen_4 : decode cX3_versionsSeen 4 = .ok (.istore 5, 2) := by decide +kernel
theorem dX3_versionsSeen_6 : decode cX3_versionsSeen 6 = .ok (.iload 5, 2) := by decide +kernel
theorem dX3_versionsSeen_8 : decode cX3_versionsSeen 8 = .ok (.iload_n 2, 1) := by decide +kernel
theorem dX3_versionsSeen_9 : decode cX3_versionsSeen 9 = .ok (.if_icmp .ge 22, 3) := by decide +kernel
theorem dX3_versionsSeen_12 : decode cX3_versionsSeen 12 = .ok (.aload_n 0, 1) := by decide +kernel
theorem dX3_versionsSeen_13 : decode cX3_versionsSeen 13 = .ok (.iload 5, 2) := by decide +kernel
theorem dX3_versionsSeen_15 : decode cX3_versionsSeen 15 = .ok (.iload_n 3, 1) := by decide +kernel
theorem dX3_versionsSeen_16 : decode cX3_versionsSeen 16 = .ok (.invokevirtual 43, 3) := by decide +kernel
theorem dX3_versionsSeen_19 : decode cX3_versionsSeen 19 = .ok (.ifCond .eq 6, 3) := by decide +kernel
theorem dX3_versionsSeen_22 : decode cX3_versionsSeen 22 = .ok (.iinc 4 1, 3) := by decide +kernel
theorem dX3_versionsSeen_25 : decode cX3_versionsSeen 25 = .ok (.iinc 5 1, 3) := by decide +kernel
theorem dX3_versionsSeen_28 : decode cX3_versionsSeen 28 = .ok (.goto (-22), 3) := by decide +kernel
theorem dX3_versionsSeen_31 : decode cX3_versionsSeen 31 = .ok (.iload 4, 2) := by decide +kernel
theorem dX3_versionsSeen_33 : decode cX3_versionsSeen 33 = .ok (.ireturn, 1) := by decide +kernel
theorem dX3_versionsToTakeOut_0 : decode cX3_versionsToTakeOut 0 = .ok (.iconst 0, 1) := by decide +kernel
theorem dX3_versionsToTakeOut_1 : decode cX3_versionsToTakeOut 1 = .ok (.istore 4, 2) := by decide +kernel
theorem dX3_versionsToTakeOut_3 : decode cX3_versionsToTakeOut 3 = .ok (.iload_n 1, 1) := by decide +kernel
theorem dX3_versionsToTakeOut_4 : decode cX3_versionsToTakeOut 4 = .ok (.istore 5, 2) := by decide +kernel
theorem dX3_versionsToTakeOut_6 : decode cX3_versionsToTakeOut 6 = .ok (.iload 5, 2) := by decide +kernel
theorem dX3_versionsToTakeOut_8 : decode cX3_versionsToTakeOut 8 = .ok (.iload_n 2, 1) := by decide +kernel
theorem dX3_versionsToTakeOut_9 : decode cX3_versionsToTakeOut 9 = .ok (.if_icmp .ge 22, 3) := by decide +kernel
theorem dX3_versionsToTakeOut_12 : decode cX3_versionsToTakeOut 12 = .ok (.aload_n 0, 1) := by decide +kernel
theorem dX3_versionsToTakeOut_13 : decode cX3_versionsToTakeOut 13 = .ok (.iload 5, 2) := by decide +kernel
theorem dX3_versionsToTakeOut_15 : decode cX3_versionsToTakeOut 15 = .ok (.iload_n 3, 1) := by decide +kernel
theorem dX3_versionsToTakeOut_16 : decode cX3_versionsToTakeOut 16 = .ok (.invokevirtual 63, 3) := by decide +kernel
theorem dX3_versionsToTakeOut_19 : decode cX3_versionsToTakeOut 19 = .ok (.ifCond .eq 6, 3) := by decide +kernel
theorem dX3_versionsToTakeOut_22 : decode cX3_versionsToTakeOut 22 = .ok (.iinc 4 1, 3) := by decide +kernel
theorem dX3_versionsToTakeOut_25 : decode cX3_versionsToTakeOut 25 = .ok (.iinc 5 1, 3) := by decide +kernel
theorem dX3_versionsToTakeOut_28 : decode cX3_versionsToTakeOut 28 = .ok (.goto (-22), 3) := by decide +kernel
theorem dX3_versionsToTakeOut_31 : decode cX3_versionsToTakeOut 31 = .ok (.iload 4, 2) := by decide +kernel
theorem dX3_versionsToTakeOut_33 : decode cX3_versionsToTakeOut 33 = .ok (.ireturn, 1) := by decide +kernel
theorem dX3_markedPages_0 : decode cX3_markedPages 0 = .ok (.iconst 0, 1) := by decide +kernel
theorem dX3_markedPages_1 : decode cX3_markedPages 1 = .ok (.istore_n 1, 1) := by decide +kernel
theorem dX3_markedPages_2 : decode cX3_markedPages 2 = .ok (.iconst 0, 1) := by decide +kernel
theorem dX3_markedPages_3 : decode cX3_markedPages 3 = .ok (.istore_n 2, 1) := by decide +kernel
theorem dX3_markedPages_4 : decode cX3_markedPages 4 = .ok (.iload_n 2, 1) := by decide +kernel
theorem dX3_markedPages_5 : decode cX3_markedPages 5 = .ok (.bipush 6, 2) := by decide +kernel
theorem dX3_markedPages_7 : decode cX3_markedPages 7 = .ok (.if_icmp .ge 20, 3) := by decide +kernel
theorem dX3_markedPages_10 : decode cX3_markedPages 10 = .ok (.aload_n 0, 1) := by decide +kernel
theorem dX3_markedPages_11 : decode cX3_markedPages 11 = .ok (.iload_n 2, 1) := by decide +kernel
theorem dX3_markedPages_12 : decode cX3_markedPages 12 = .ok (.invokevirtual 72, 3) := by decide +kernel
theorem dX3_markedPages_15 : decode cX3_markedPages 15 = .ok (.ifCond .eq 6, 3) := by decide +kernel
theorem dX3_markedPages_18 : decode cX3_markedPages 18 = .ok (.iinc 1 1, 3) := by decide +kernel
theorem dX3_markedPages_21 : decode cX3_markedPages 21 = .ok (.iinc 2 1, 3) := by decide +kernel
theorem dX3_markedPages_24 : decode cX3_markedPages 24 = .ok (.goto (-20), 3) := by decide +kernel
theorem dX3_markedPages_27 : decode cX3_markedPages 27 = .ok (.iload_n 1, 1) := by decide +kernel
theorem dX3_markedPages_28 : decode cX3_markedPages 28 = .ok (.ireturn, 1) := by decide +kernel
theorem dX3_mayTrustMarks_0 : decode cX3_mayTrustMarks 0 = .ok (.iconst 0, 1) := by decide +kernel
theorem dX3_mayTrustMarks_1 : decode cX3_mayTrustMarks 1 = .ok (.istore_n 2, 1) := by decide +kernel
theorem dX3_mayTrustMarks_2 : decode cX3_mayTrustMarks 2 = .ok (.iload_n 2, 1) := by decide +kernel
theorem dX3_mayTrustMarks_3 : decode cX3_mayTrustMarks 3 = .ok (.bipush 6, 2) := by decide +kernel
theorem dX3_mayTrustMarks_5 : decode cX3_mayTrustMarks 5 = .ok (.if_icmp .ge 21, 3) := by decide +kernel
theorem dX3_mayTrustMarks_8 : decode cX3_mayTrustMarks 8 = .ok (.aload_n 0, 1) := by decide +kernel
theorem dX3_mayTrustMarks_9 : decode cX3_mayTrustMarks 9 = .ok (.getfield 21, 3) := by decide +kernel
theorem dX3_mayTrustMarks_12 : decode cX3_mayTrustMarks 12 = .ok (.iload_n 2, 1) := by decide +kernel
theorem dX3_mayTrustMarks_13 : decode cX3_mayTrustMarks 13 = .ok (.iaload, 1) := by decide +kernel
theorem dX3_mayTrustMarks_14 : decode cX3_mayTrustMarks 14 = .ok (.iload_n 1, 1) := by decide +kernel
theorem dX3_mayTrustMarks_15 : decode cX3_mayTrustMarks 15 = .ok (.if_icmp .le 5, 3) := by decide +kernel
theorem dX3_mayTrustMarks_18 : decode cX3_mayTrustMarks 18 = .ok (.iconst 0, 1) := by decide +kernel
theorem dX3_mayTrustMarks_19 : decode cX3_mayTrustMarks 19 = .ok (.ireturn, 1) := by decide +kernel
theorem dX3_mayTrustMarks_20 : decode cX3_mayTrustMarks 20 = .ok (.iinc 2 1, 3) := by decide +kernel
theorem dX3_mayTrustMarks_23 : decode cX3_mayTrustMarks 23 = .ok (.goto (-21), 3) := by decide +kernel
theorem dX3_mayTrustMarks_26 : decode cX3_mayTrustMarks 26 = .ok (.iconst 1, 1) := by decide +kernel
theorem dX3_mayTrustMarks_27 : decode cX3_mayTrustMarks 27 = .ok (.ireturn, 1) := by decide +kernel
theorem dX3_answer_0 : decode cX3_answer 0 = .ok (.iload_n 3, 1) := by decide +kernel
theorem dX3_answer_1 : decode cX3_answer 1 = .ok (.iconst 2, 1) := by decide +kernel
theorem dX3_answer_2 : decode cX3_answer 2 = .ok (.if_icmp .ne 15, 3) := by decide +kernel
theorem dX3_answer_5 : decode cX3_answer 5 = .ok (.aload_n 0, 1) := by decide +kernel
theorem dX3_answer_6 : decode cX3_answer 6 = .ok (.iload_n 1, 1) := by decide +kernel
theorem dX3_answer_7 : decode cX3_answer 7 = .ok (.invokevirtual 75, 3) := by decide +kernel
theorem dX3_answer_10 : decode cX3_answer 10 = .ok (.ifCond .eq 7, 3) := by decide +kernel
theorem dX3_answer_13 : decode cX3_answer 13 = .ok (.iconst 1, 1) := by decide +kernel
theorem dX3_answer_14 : decode cX3_answer 14 = .ok (.goto 4, 3) := by decide +kernel
theorem dX3_answer_17 : decode cX3_answer 17 = .ok (.iconst 0, 1) := by decide +kernel
theorem dX3_answer_18 : decode cX3_answer 18 = .ok (.istore 4, 2) := by decide +kernel
theorem dX3_answer_20 : decode cX3_answer 20 = .ok (.iconst 0, 1) := by decide +kernel
theorem dX3_answer_21 : decode cX3_answer 21 = .ok (.istore 5, 2) := by decide +kernel
theorem dX3_answer_23 : decode cX3_answer 23 = .ok (.iconst 0, 1) := by decide +kernel
theorem dX3_answer_24 : decode cX3_answer 24 = .ok (.istore 6, 2) := by decide +kernel
theorem dX3_answer_26 : decode cX3_answer 26 = .ok (.iload 6, 2) := by decide +kernel
theorem dX3_answer_28 : decode cX3_answer 28 = .ok (.bipush 24, 2) := by decide +kernel
theorem dX3_answer_30 : decode cX3_answer 30 = .ok (.if_icmp .ge 52, 3) := by decide +kernel
theorem dX3_answer_33 : decode cX3_answer 33 = .ok (.aload_n 0, 1) := by decide +kernel
theorem dX3_answer_34 : decode cX3_answer 34 = .ok (.getfield 9, 3) := by decide +kernel
theorem dX3_answer_37 : decode cX3_answer 37 = .ok (.iload 6, 2) := by decide +kernel
theorem dX3_answer_39 : decode cX3_answer 39 = .ok (.iaload, 1) := by decide +kernel
theorem dX3_answer_40 : decode cX3_answer 40 = .ok (.iload_n 2, 1) := by decide +kernel
theorem dX3_answer_41 : decode cX3_answer 41 = .ok (.if_icmp .eq 6, 3) := by decide +kernel
theorem dX3_answer_44 : decode cX3_answer 44 = .ok (.goto 32, 3) := by decide +kernel
theorem dX3_answer_47 : decode cX3_answer 47 = .ok (.iload 4, 2) := by decide +kernel
theorem dX3_answer_49 : decode cX3_answer 49 = .ok (.ifCond .eq 14, 3) := by decide +kernel
theorem dX3_answer_52 : decode cX3_answer 52 = .ok (.aload_n 0, 1) := by decide +kernel
theorem dX3_answer_53 : decode cX3_answer 53 = .ok (.iload 6, 2) := by decide +kernel
theorem dX3_answer_55 : decode cX3_answer 55 = .ok (.iconst 4, 1) := by decide +kernel
theorem dX3_answer_56 : decode cX3_answer 56 = .ok (.idiv, 1) := by decide +kernel
theorem dX3_answer_57 : decode cX3_answer 57 = .ok (.invokevirtual 72, 3) := by decide +kernel
theorem dX3_answer_60 : decode cX3_answer 60 = .ok (.ifCond .ne 13, 3) := by decide +kernel
theorem dX3_answer_63 : decode cX3_answer 63 = .ok (.aload_n 0, 1) := by decide +kernel
theorem dX3_answer_64 : decode cX3_answer 64 = .ok (.iload 6, 2) := by decide +kernel
theorem dX3_answer_66 : decode cX3_answer 66 = .ok (.iload_n 1, 1) := by decide +kernel
theorem dX3_answer_67 : decode cX3_answer 67 = .ok (.invokevirtual 43, 3) := by decide +kernel
theorem dX3_answer_70 : decode cX3_answer 70 = .ok (.ifCond .eq 6, 3) := by decide +kernel
theorem dX3_answer_73 : decode cX3_answer 73 = .ok (.iinc 5 1, 3) := by decide +kernel
theorem dX3_answer_76 : decode cX3_answer 76 = .ok (.iinc 6 1, 3) := by decide +kernel
theorem dX3_answer_79 : decode cX3_answer 79 = .ok (.goto (-53), 3) := by decide +kernel
theorem dX3_answer_82 : decode cX3_answer 82 = .ok (.iload 5, 2) := by decide +kernel
theorem dX3_answer_84 : decode cX3_answer 84 = .ok (.ireturn, 1) := by decide +kernel
theorem dX3_cost_0 : decode cX3_cost 0 = .ok (.iload_n 3, 1) := by decide +kernel
theorem dX3_cost_1 : decode cX3_cost 1 = .ok (.ifCond .ne 6, 3) := by decide +kernel
theorem dX3_cost_4 : decode cX3_cost 4 = .ok (.bipush 6, 2) := by decide +kernel
theorem dX3_cost_6 : decode cX3_cost 6 = .ok (.ireturn, 1) := by decide +kernel
theorem dX3_cost_7 : decode cX3_cost 7 = .ok (.iload_n 3, 1) := by decide +kernel
theorem dX3_cost_8 : decode cX3_cost 8 = .ok (.iconst 2, 1) := by decide +kernel
theorem dX3_cost_9 : decode cX3_cost 9 = .ok (.if_icmp .ne 15, 3) := by decide +kernel
theorem dX3_cost_12 : decode cX3_cost 12 = .ok (.aload_n 0, 1) := by decide +kernel
theorem dX3_cost_13 : decode cX3_cost 13 = .ok (.iload_n 1, 1) := by decide +kernel
theorem dX3_cost_14 : decode cX3_cost 14 = .ok (.invokevirtual 75, 3) := by decide +kernel
theorem dX3_cost_17 : decode cX3_cost 17 = .ok (.ifCond .eq 7, 3) := by decide +kernel
theorem dX3_cost_20 : decode cX3_cost 20 = .ok (.iconst 1, 1) := by decide +kernel
theorem dX3_cost_21 : decode cX3_cost 21 = .ok (.goto 4, 3) := by decide +kernel
theorem dX3_cost_24 : decode cX3_cost 24 = .ok (.iconst 0, 1) := by decide +kernel
theorem dX3_cost_25 : decode cX3_cost 25 = .ok (.istore 4, 2) := by decide +kernel
theorem dX3_cost_27 : decode cX3_cost 27 = .ok (.iconst 0, 1) := by decide +kernel
theorem dX3_cost_28 : decode cX3_cost 28 = .ok (.istore 5, 2) := by decide +kernel
theorem dX3_cost_30 : decode cX3_cost 30 = .ok (.iconst 0, 1) := by decide +kernel
theorem dX3_cost_31 : decode cX3_cost 31 = .ok (.istore 6, 2) := by decide +kernel
theorem dX3_cost_33 : decode cX3_cost 33 = .ok (.iload 6, 2) := by decide +kernel
theorem dX3_cost_35 : decode cX3_cost 35 = .ok (.bipush 6, 2) := by decide +kernel
theorem dX3_cost_37 : decode cX3_cost 37 = .ok (.if_icmp .ge 36, 3) := by decide +kernel
theorem dX3_cost_40 : decode cX3_cost 40 = .ok (.aload_n 0, 1) := by decide +kernel
theorem dX3_cost_41 : decode cX3_cost 41 = .ok (.iload 6, 2) := by decide +kernel
theorem dX3_cost_43 : decode cX3_cost 43 = .ok (.iload_n 2, 1) := by decide +kernel
theorem dX3_cost_44 : decode cX3_cost 44 = .ok (.invokevirtual 78, 3) := by decide +kernel
theorem dX3_cost_47 : decode cX3_cost 47 = .ok (.ifCond .eq 20, 3) := by decide +kernel
theorem dX3_cost_50 : decode cX3_cost 50 = .ok (.iload 4, 2) := by decide +kernel
theorem dX3_cost_52 : decode cX3_cost 52 = .ok (.ifCond .eq 12, 3) := by decide +kernel
theorem dX3_cost_55 : decode cX3_cost 55 = .ok (.aload_n 0, 1) := by decide +kernel
theorem dX3_cost_56 : decode cX3_cost 56 = .ok (.iload 6, 2) := by decide +kernel
theorem dX3_cost_58 : decode cX3_cost 58 = .ok (.invokevirtual 72, 3) := by decide +kernel
theorem dX3_cost_61 : decode cX3_cost 61 = .ok (.ifCond .ne 6, 3) := by decide +kernel
theorem dX3_cost_64 : decode cX3_cost 64 = .ok (.iinc 5 1, 3) := by decide +kernel
theorem dX3_cost_67 : decode cX3_cost 67 = .ok (.iinc 6 1, 3) := by decide +kernel
theorem dX3_cost_70 : decode cX3_cost 70 = .ok (.goto (-37), 3) := by decide +kernel
theorem dX3_cost_73 : decode cX3_cost 73 = .ok (.iload 5, 2) := by decide +kernel
theorem dX3_cost_75 : decode cX3_cost 75 = .ok (.ireturn, 1) := by decide +kernel
theorem dX3_indexHas_0 : decode cX3_indexHas 0 = .ok (.iload_n 1, 1) := by decide +kernel
theorem dX3_indexHas_1 : decode cX3_indexHas 1 = .ok (.iconst 4, 1) := by decide +kernel
theorem dX3_indexHas_2 : decode cX3_indexHas 2 = .ok (.imul, 1) := by decide +kernel
theorem dX3_indexHas_3 : decode cX3_indexHas 3 = .ok (.istore_n 3, 1) := by decide +kernel
theorem dX3_indexHas_4 : decode cX3_indexHas 4 = .ok (.iload_n 3, 1) := by decide +kernel
theorem dX3_indexHas_5 : decode cX3_indexHas 5 = .ok (.istore 4, 2) := by decide +kernel
theorem dX3_indexHas_7 : decode cX3_indexHas 7 = .ok (.iload 4, 2) := by decide +kernel
theorem dX3_indexHas_9 : decode cX3_indexHas 9 = .ok (.iload_n 3, 1) := by decide +kernel
theorem dX3_indexHas_10 : decode cX3_indexHas 10 = .ok (.iconst 4, 1) := by decide +kernel
theorem dX3_indexHas_11 : decode cX3_indexHas 11 = .ok (.iadd, 1) := by decide +kernel
theorem dX3_indexHas_12 : decode cX3_indexHas 12 = .ok (.if_icmp .ge 22, 3) := by decide +kernel
theorem dX3_indexHas_15 : decode cX3_indexHas 15 = .ok (.aload_n 0, 1) := by decide +kernel
theorem dX3_indexHas_16 : decode cX3_indexHas 16 = .ok (.getfield 9, 3) := by decide +kernel
theorem dX3_indexHas_19 : decode cX3_indexHas 19 = .ok (.iload 4, 2) := by decide +kernel
theorem dX3_indexHas_21 : decode cX3_indexHas 21 = .ok (.iaload, 1) := by decide +kernel
theorem dX3_indexHas_22 : decode cX3_indexHas 22 = .ok (.iload_n 2, 1) := by decide +kernel
theorem dX3_indexHas_23 : decode cX3_indexHas 23 = .ok (.if_icmp .ne 5, 3) := by decide +kernel
theorem dX3_indexHas_26 : decode cX3_indexHas 26 = .ok (.iconst 1, 1) := by decide +kernel
theorem dX3_indexHas_27 : decode cX3_indexHas 27 = .ok (.ireturn, 1) := by decide +kernel
theorem dX3_indexHas_28 : decode cX3_indexHas 28 = .ok (.iinc 4 1, 3) := by decide +kernel
theorem dX3_indexHas_31 : decode cX3_indexHas 31 = .ok (.goto (-24), 3) := by decide +kernel
theorem dX3_indexHas_34 : decode cX3_indexHas 34 = .ok (.iconst 0, 1) := by decide +kernel
theorem dX3_indexHas_35 : decode cX3_indexHas 35 = .ok (.ireturn, 1) := by decide +kernel
theorem dX4_init_0 : decode cX4_init 0 = .ok (.aload_n 0, 1) := by decide +kernel
theorem dX4_init_1 : decode cX4_init 1 = .ok (.invokespecial 3, 3) := by decide +kernel
theorem dX4_init_4 : decode cX4_init 4 = .ok (.aload_n 0, 1) := by decide +kernel
theorem dX4_init_5 : decode cX4_init 5 = .ok (.iconst 3, 1) := by decide +kernel
theorem dX4_init_6 : decode cX4_init 6 = .ok (.newarray .int, 2) := by decide +kernel
theorem dX4_init_8 : decode cX4_init 8 = .ok (.putfield 9, 3) := by decide +kernel
theorem dX4_init_11 : decode cX4_init 11 = .ok (.return_, 1) := by decide +kernel
theorem dX4_copyFrom_0 : decode cX4_copyFrom 0 = .ok (.aload_n 1, 1) := by decide +kernel
theorem dX4_copyFrom_1 : decode cX4_copyFrom 1 = .ok (.getfield 9, 3) := by decide +kernel
theorem dX4_copyFrom_4 : decode cX4_copyFrom 4 = .ok (.iconst 0, 1) := by decide +kernel
theorem dX4_copyFrom_5 : decode cX4_copyFrom 5 = .ok (.aload_n 0, 1) := by decide +kernel
theorem dX4_copyFrom_6 : decode cX4_copyFrom 6 = .ok (.getfield 9, 3) := by decide +kernel
theorem dX4_copyFrom_9 : decode cX4_copyFrom 9 = .ok (.iconst 0, 1) := by decide +kernel
theorem dX4_copyFrom_10 : decode cX4_copyFrom 10 = .ok (.iconst 3, 1) := by decide +kernel
theorem dX4_copyFrom_11 : decode cX4_copyFrom 11 = .ok (.invokestatic 15, 3) := by decide +kernel
theorem dX4_copyFrom_14 : decode cX4_copyFrom 14 = .ok (.aload_n 0, 1) := by decide +kernel
theorem dX4_copyFrom_15 : decode cX4_copyFrom 15 = .ok (.aload_n 1, 1) := by decide +kernel
theorem dX4_copyFrom_16 : decode cX4_copyFrom 16 = .ok (.getfield 21, 3) := by decide +kernel
theorem dX4_copyFrom_19 : decode cX4_copyFrom 19 = .ok (.putfield 21, 3) := by decide +kernel
theorem dX4_copyFrom_22 : decode cX4_copyFrom 22 = .ok (.aload_n 0, 1) := by decide +kernel
theorem dX4_copyFrom_23 : decode cX4_copyFrom 23 = .ok (.aload_n 1, 1) := by decide +kernel
theorem dX4_copyFrom_24 : decode cX4_copyFrom 24 = .ok (.getfield 25, 3) := by decide +kernel
theorem dX4_copyFrom_27 : decode cX4_copyFrom 27 = .ok (.putfield 25, 3) := by decide +kernel
theorem dX4_copyFrom_30 : decode cX4_copyFrom 30 = .ok (.return_, 1) := by decide +kernel
theorem dX4_add_0 : decode cX4_add 0 = .ok (.aload_n 0, 1) := by decide +kernel
theorem dX4_add_1 : decode cX4_add 1 = .ok (.getfield 9, 3) := by decide +kernel
theorem dX4_add_4 : decode cX4_add 4 = .ok (.iload_n 1, 1) := by decide +kernel
theorem dX4_add_5 : decode cX4_add 5 = .ok (.dup2, 1) := by decide +kernel
theorem dX4_add_6 : decode cX4_add 6 = .ok (.iaload, 1) := by decide +kernel
theorem dX4_add_7 : decode cX4_add 7 = .ok (.iconst 1, 1) := by decide +kernel
theorem dX4_add_8 : decode cX4_add 8 = .ok (.iadd, 1) := by decide +kernel
theorem dX4_add_9 : decode cX4_add 9 = .ok (.iastore, 1) := by decide +kernel
theorem dX4_add_10 : decode cX4_add 10 = .ok (.aload_n 0, 1) := by decide +kernel
theorem dX4_add_11 : decode cX4_add 11 = .ok (.dup, 1) := by decide +kernel
theorem dX4_add_12 : decode cX4_add 12 = .ok (.getfield 25, 3) := by decide +kernel
theorem dX4_add_15 : decode cX4_add 15 = .ok (.iload_n 2, 1) := by decide +kernel
theorem dX4_add_16 : decode cX4_add 16 = .ok (.iadd, 1) := by decide +kernel
theorem dX4_add_17 : decode cX4_add 17 = .ok (.putfield 25, 3) := by decide +kernel
theorem dX4_add_20 : decode cX4_add 20 = .ok (.iload_n 1, 1) := by decide +kernel
theorem dX4_add_21 : decode cX4_add 21 = .ok (.iconst 2, 1) := by decide +kernel
theorem dX4_add_22 : decode cX4_add 22 = .ok (.if_icmp .ne 17, 3) := by decide +kernel
theorem dX4_add_25 : decode cX4_add 25 = .ok (.iload_n 3, 1) := by decide +kernel
theorem dX4_add_26 : decode cX4_add 26 = .ok (.ifCond .eq 13, 3) := by decide +kernel
theorem dX4_add_29 : decode cX4_add 29 = .ok (.aload_n 0, 1) := by decide +kernel
theorem dX4_add_30 : decode cX4_add 30 = .ok (.dup, 1) := by decide +kernel
theorem dX4_add_31 : decode cX4_add 31 = .ok (.getfield 21, 3) := by decide +kernel
theorem dX4_add_34 : decode cX4_add 34 = .ok (.iconst 1, 1) := by decide +kernel
theorem dX4_add_35 : decode cX4_add 35 = .ok (.iadd, 1) := by decide +kernel
theorem dX4_add_36 : decode cX4_add 36 = .ok (.putfield 21, 3) := by decide +kernel
theorem dX4_add_39 : decode cX4_add 39 = .ok (.return_, 1) := by decide +kernel
theorem dX5_init_0 : decode cX5_init 0 = .ok (.aload_n 0, 1) := by decide +kernel
theorem dX5_init_1 : decode cX5_init 1 = .ok (.invokespecial 3, 3) := by decide +kernel
theorem dX5_init_4 : decode cX5_init 4 = .ok (.aload_n 0, 1) := by decide +kernel
theorem dX5_init_5 : decode cX5_init 5 = .ok (.bipush 60, 2) := by decide +kernel
theorem dX5_init_7 : decode cX5_init 7 = .ok (.newarray .char, 2) := by decide +kernel
theorem dX5_init_9 : decode cX5_init 9 = .ok (.putfield 9, 3) := by decide +kernel
theorem dX5_init_12 : decode cX5_init 12 = .ok (.return_, 1) := by decide +kernel
theorem dJ7_fill_53178_0 : decode cJ7_fill_53178 0 = .ok (.iconst 0, 1) := by decide +kernel
theorem dJ7_fill_53178_1 : decode cJ7_fill_53178 1 = .ok (.istore_n 2, 1) := by decide +kernel
theorem dJ7_fill_53178_2 : decode cJ7_fill_53178 2 = .ok (.aload_n 0, 1) := by decide +kernel
theorem dJ7_fill_53178_3 : decode cJ7_fill_53178 3 = .ok (.arraylength, 1) := by decide +kernel
theorem dJ7_fill_53178_4 : decode cJ7_fill_53178 4 = .ok (.istore_n 3, 1) := by decide +kernel
theorem dJ7_fill_53178_5 : decode cJ7_fill_53178 5 = .ok (.iload_n 2, 1) := by decide +kernel
theorem dJ7_fill_53178_6 : decode cJ7_fill_53178 6 = .ok (.iload_n 3, 1) := by decide +kernel
theorem dJ7_fill_53178_7 : decode cJ7_fill_53178 7 = .ok (.if_icmp .ge 13, 3) := by decide +kernel
theorem dJ7_fill_53178_10 : decode cJ7_fill_53178 10 = .ok (.aload_n 0, 1) := by decide +kernel
theorem dJ7_fill_53178_11 : decode cJ7_fill_53178 11 = .ok (.iload_n 2, 1) := by decide +kernel
theorem dJ7_fill_53178_12 : decode cJ7_fill_53178 12 = .ok (.iload_n 1, 1) := by decide +kernel
theorem dJ7_fill_53178_13 : decode cJ7_fill_53178 13 = .ok (.iastore, 1) := by decide +kernel
theorem dJ7_fill_53178_14 : decode cJ7_fill_53178 14 = .ok (.iinc 2 1, 3) := by decide +kernel
theorem dJ7_fill_53178_17 : decode cJ7_fill_53178 17 = .ok (.goto (-12), 3) := by decide +kernel
theorem dJ7_fill_53178_20 : decode cJ7_fill_53178 20 = .ok (.return_, 1) := by decide +kernel
