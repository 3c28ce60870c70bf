theorem dX6_init_0 : decode cX6_init 0 = .ok (.aload_n 0, 1) := by decide +kernel
theorem dX6_init_1 : decode cX6_init 1 = .ok (.invokespecial 3, 3) := by decide +kernel
theorem dX6_init_4 : decode cX6_init 4 = .ok (.aload_n 0, 1) := by decide +kernel
theorem dX6_init_5 : decode cX6_init 5 = .ok (.new 9, 3) := by decide +kernel
theorem dX6_init_8 : decode cX6_init 8 = .ok (.dup, 1) := by decide +kernel
theorem dX6_init_9 : decode cX6_init 9 = .ok (.invokespecial 11, 3) := by decide +kernel
theorem dX6_init_12 : decode cX6_init 12 = .ok (.putfield 12, 3) := by decide +kernel
theorem dX6_init_15 : decode cX6_init 15 = .ok (.aload_n 0, 1) := by decide +kernel
theorem dX6_init_16 : decode cX6_init 16 = .ok (.new 16, 3) := by decide +kernel
theorem dX6_init_19 : decode cX6_init 19 = .ok (.dup, 1) := by decide +kernel
theorem dX6_init_20 : decode cX6_init 20 = .ok (.invokespecial 18, 3) := by decide +kernel
theorem dX6_init_23 : decode cX6_init 23 = .ok (.putfield 19, 3) := by decide +kernel
theorem dX6_init_26 : decode cX6_init 26 = .ok (.aload_n 0, 1) := by decide +kernel
theorem dX6_init_27 : decode cX6_init 27 = .ok (.new 23, 3) := by decide +kernel
theorem dX6_init_30 : decode cX6_init 30 = .ok (.dup, 1) := by decide +kernel
theorem dX6_init_31 : decode cX6_init 31 = .ok (.invokespecial 25, 3) := by decide +kernel
theorem dX6_init_34 : decode cX6_init 34 = .ok (.putfield 26, 3) := by decide +kernel
theorem dX6_init_37 : decode cX6_init 37 = .ok (.return_, 1) := by decide +kernel
theorem dX6_put_0 : decode cX6_put 0 = .ok (.iload_n 1, 1) := by decide +kernel
theorem dX6_put_1 : decode cX6_put 1 = .ok (.bipush 10, 2) := by decide +kernel
theorem dX6_put_3 : decode cX6_put 3 = .ok (.invokestatic 30, 3) := by decide +kernel
theorem dX6_put_6 : decode cX6_put 6 = .ok (.ifCond .eq 13, 3) := by decide +kernel
theorem dX6_put_9 : decode cX6_put 9 = .ok (.new 34, 3) := by decide +kernel
theorem dX6_put_12 : decode cX6_put 12 = .ok (.dup, 1) := by decide +kernel
theorem dX6_put_13 : decode cX6_put 13 = .ok (.ldc 36, 2) := by decide +kernel
theorem dX6_put_15 : decode cX6_put 15 = .ok (.invokespecial 38, 3) := by decide +kernel
theorem dX6_put_18 : decode cX6_put 18 = .ok (.athrow, 1) := by decide +kernel
theorem dX6_put_19 : decode cX6_put 19 = .ok (.aload_n 0, 1) := by decide +kernel
theorem dX6_put_20 : decode cX6_put 20 = .ok (.getfield 12, 3) := by decide +kernel
theorem dX6_put_23 : decode cX6_put 23 = .ok (.getfield 41, 3) := by decide +kernel
theorem dX6_put_26 : decode cX6_put 26 = .ok (.invokevirtual 45, 3) := by decide +kernel
theorem dX6_put_29 : decode cX6_put 29 = .ok (.ifCond .ne 13, 3) := by decide +kernel
theorem dX6_put_32 : decode cX6_put 32 = .ok (.new 51, 3) := by decide +kernel
theorem dX6_put_35 : decode cX6_put 35 = .ok (.dup, 1) := by decide +kernel
theorem dX6_put_36 : decode cX6_put 36 = .ok (.ldc 53, 2) := by decide +kernel
theorem dX6_put_38 : decode cX6_put 38 = .ok (.invokespecial 55, 3) := by decide +kernel
theorem dX6_put_41 : decode cX6_put 41 = .ok (.athrow, 1) := by decide +kernel
theorem dX6_put_42 : decode cX6_put 42 = .ok (.aload_n 0, 1) := by decide +kernel
theorem dX6_put_43 : decode cX6_put 43 = .ok (.getfield 19, 3) := by decide +kernel
theorem dX6_put_46 : decode cX6_put 46 = .ok (.aload_n 0, 1) := by decide +kernel
theorem dX6_put_47 : decode cX6_put 47 = .ok (.getfield 12, 3) := by decide +kernel
theorem dX6_put_50 : decode cX6_put 50 = .ok (.invokevirtual 56, 3) := by decide +kernel
theorem dX6_put_53 : decode cX6_put 53 = .ok (.aload_n 0, 1) := by decide +kernel
theorem dX6_put_54 : decode cX6_put 54 = .ok (.getfield 12, 3) := by decide +kernel
theorem dX6_put_57 : decode cX6_put 57 = .ok (.getfield 41, 3) := by decide +kernel
theorem dX6_put_60 : decode cX6_put 60 = .ok (.iload_n 1, 1) := by decide +kernel
theorem dX6_put_61 : decode cX6_put 61 = .ok (.invokevirtual 60, 3) := by decide +kernel
theorem dX6_put_64 : decode cX6_put 64 = .ok (.ireturn, 1) := by decide +kernel
theorem dX6_take_0 : decode cX6_take 0 = .ok (.iload_n 1, 1) := by decide +kernel
theorem dX6_take_1 : decode cX6_take 1 = .ok (.bipush 24, 2) := by decide +kernel
theorem dX6_take_3 : decode cX6_take 3 = .ok (.invokestatic 30, 3) := by decide +kernel
theorem dX6_take_6 : decode cX6_take 6 = .ok (.ifCond .eq 13, 3) := by decide +kernel
theorem dX6_take_9 : decode cX6_take 9 = .ok (.new 64, 3) := by decide +kernel
theorem dX6_take_12 : decode cX6_take 12 = .ok (.dup, 1) := by decide +kernel
theorem dX6_take_13 : decode cX6_take 13 = .ok (.ldc 66, 2) := by decide +kernel
theorem dX6_take_15 : decode cX6_take 15 = .ok (.invokespecial 68, 3) := by decide +kernel
theorem dX6_take_18 : decode cX6_take 18 = .ok (.athrow, 1) := by decide +kernel
theorem dX6_take_19 : decode cX6_take 19 = .ok (.aload_n 0, 1) := by decide +kernel
theorem dX6_take_20 : decode cX6_take 20 = .ok (.getfield 12, 3) := by decide +kernel
theorem dX6_take_23 : decode cX6_take 23 = .ok (.getfield 41, 3) := by decide +kernel
theorem dX6_take_26 : decode cX6_take 26 = .ok (.iload_n 1, 1) := by decide +kernel
theorem dX6_take_27 : decode cX6_take 27 = .ok (.invokevirtual 69, 3) := by decide +kernel
theorem dX6_take_30 : decode cX6_take 30 = .ok (.ifCond .ne 13, 3) := by decide +kernel
theorem dX6_take_33 : decode cX6_take 33 = .ok (.new 51, 3) := by decide +kernel
theorem dX6_take_36 : decode cX6_take 36 = .ok (.dup, 1) := by decide +kernel
theorem dX6_take_37 : decode cX6_take 37 = .ok (.ldc 73, 2) := by decide +kernel
theorem dX6_take_39 : decode cX6_take 39 = .ok (.invokespecial 55, 3) := by decide +kernel
theorem dX6_take_42 : decode cX6_take 42 = .ok (.athrow, 1) := by decide +kernel
theorem dX6_take_43 : decode cX6_take 43 = .ok (.aload_n 0, 1) := by decide +kernel
theorem dX6_take_44 : decode cX6_take 44 = .ok (.getfield 19, 3) := by decide +kernel
theorem dX6_take_47 : decode cX6_take 47 = .ok (.aload_n 0, 1) := by decide +kernel
theorem dX6_take_48 : decode cX6_take 48 = .ok (.getfield 12, 3) := by decide +kernel
theorem dX6_take_51 : decode cX6_take 51 = .ok (.invokevirtual 56, 3) := by decide +kernel
theorem dX6_take_54 : decode cX6_take 54 = .ok (.aload_n 0, 1) := by decide +kernel
theorem dX6_take_55 : decode cX6_take 55 = .ok (.getfield 12, 3) := by decide +kernel
theorem dX6_take_58 : decode cX6_take 58 = .ok (.getfield 41, 3) := by decide +kernel
theorem dX6_take_61 : decode cX6_take 61 = .ok (.iload_n 1, 1) := by decide +kernel
theorem dX6_take_62 : decode cX6_take 62 = .ok (.invokevirtual 75, 3) := by decide +kernel
theorem dX6_take_65 : decode cX6_take 65 = .ok (.pop, 1) := by decide +kernel
theorem dX6_take_66 : decode cX6_take 66 = .ok (.aload_n 0, 1) := by decide +kernel
theorem dX6_take_67 : decode cX6_take 67 = .ok (.getfield 12, 3) := by decide +kernel
theorem dX6_take_70 : decode cX6_take 70 = .ok (.getfield 41, 3) := by decide +kernel
theorem dX6_take_73 : decode cX6_take 73 = .ok (.getfield 78, 3) := by decide +kernel
theorem dX6_take_76 : decode cX6_take 76 = .ok (.iload_n 1, 1) := by decide +kernel
theorem dX6_take_77 : decode cX6_take 77 = .ok (.iaload, 1) := by decide +kernel
theorem dX6_take_78 : decode cX6_take 78 = .ok (.ireturn, 1) := by decide +kernel
theorem dX6_change_0 : decode cX6_change 0 = .ok (.iload_n 1, 1) := by decide +kernel
theorem dX6_change_1 : decode cX6_change 1 = .ok (.bipush 24, 2) := by decide +kernel
theorem dX6_change_3 : decode cX6_change 3 = .ok (.invokestatic 30, 3) := by decide +kernel
theorem dX6_change_6 : decode cX6_change 6 = .ok (.ifCond .eq 13, 3) := by decide +kernel
theorem dX6_change_9 : decode cX6_change 9 = .ok (.new 64, 3) := by decide +kernel
theorem dX6_change_12 : decode cX6_change 12 = .ok (.dup, 1) := by decide +kernel
theorem dX6_change_13 : decode cX6_change 13 = .ok (.ldc 66, 2) := by decide +kernel
theorem dX6_change_15 : decode cX6_change 15 = .ok (.invokespecial 68, 3) := by decide +kernel
theorem dX6_change_18 : decode cX6_change 18 = .ok (.athrow, 1) := by decide +kernel
theorem dX6_change_19 : decode cX6_change 19 = .ok (.iload_n 2, 1) := by decide +kernel
theorem dX6_change_20 : decode cX6_change 20 = .ok (.bipush 10, 2) := by decide +kernel
theorem dX6_change_22 : decode cX6_change 22 = .ok (.invokestatic 30, 3) := by decide +kernel
theorem dX6_change_25 : decode cX6_change 25 = .ok (.ifCond .eq 13, 3) := by decide +kernel
theorem dX6_change_28 : decode cX6_change 28 = .ok (.new 34, 3) := by decide +kernel
theorem dX6_change_31 : decode cX6_change 31 = .ok (.dup, 1) := by decide +kernel
theorem dX6_change_32 : decode cX6_change 32 = .ok (.ldc 36, 2) := by decide +kernel
theorem dX6_change_34 : decode cX6_change 34 = .ok (.invokespecial 38, 3) := by decide +kernel
theorem dX6_change_37 : decode cX6_change 37 = .ok (.athrow, 1) := by decide +kernel
theorem dX6_change_38 : decode cX6_change 38 = .ok (.aload_n 0, 1) := by decide +kernel
theorem dX6_change_39 : decode cX6_change 39 = .ok (.getfield 12, 3) := by decide +kernel
theorem dX6_change_42 : decode cX6_change 42 = .ok (.getfield 41, 3) := by decide +kernel
theorem dX6_change_45 : decode cX6_change 45 = .ok (.iload_n 1, 1) := by decide +kernel
theorem dX6_change_46 : decode cX6_change 46 = .ok (.invokevirtual 69, 3) := by decide +kernel
theorem dX6_change_49 : decode cX6_change 49 = .ok (.ifCond .eq 16, 3) := by decide +kernel
theorem dX6_change_52 : decode cX6_change 52 = .ok (.aload_n 0, 1) := by decide +kernel
theorem dX6_change_53 : decode cX6_change 53 = .ok (.getfield 12, 3) := by decide +kernel
theorem dX6_change_56 : decode cX6_change 56 = .ok (.getfield 41, 3) := by decide +kernel
theorem dX6_change_59 : decode cX6_change 59 = .ok (.invokevirtual 45, 3) := by decide +kernel
theorem dX6_change_62 : decode cX6_change 62 = .ok (.ifCond .ne 13, 3) := by decide +kernel
theorem dX6_change_65 : decode cX6_change 65 = .ok (.new 51, 3) := by decide +kernel
theorem dX6_change_68 : decode cX6_change 68 = .ok (.dup, 1) := by decide +kernel
theorem dX6_change_69 : decode cX6_change 69 = .ok (.ldc 82, 2) := by decide +kernel
theorem dX6_change_71 : decode cX6_change 71 = .ok (.invokespecial 55, 3) := by decide +kernel
theorem dX6_change_74 : decode cX6_change 74 = .ok (.athrow, 1) := by decide +kernel
theorem dX6_change_75 : decode cX6_change 75 = .ok (.aload_n 0, 1) := by decide +kernel
theorem dX6_change_76 : decode cX6_change 76 = .ok (.getfield 19, 3) := by decide +kernel
theorem dX6_change_79 : decode cX6_change 79 = .ok (.aload_n 0, 1) := by decide +kernel
theorem dX6_change_80 : decode cX6_change 80 = .ok (.getfield 12, 3) := by decide +kernel
theorem dX6_change_83 : decode cX6_change 83 = .ok (.invokevirtual 56, 3) := by decide +kernel
theorem dX6_change_86 : decode cX6_change 86 = .ok (.aload_n 0, 1) := by decide +kernel
theorem dX6_change_87 : decode cX6_change 87 = .ok (.getfield 12, 3) := by decide +kernel
theorem dX6_change_90 : decode cX6_change 90 = .ok (.getfield 41, 3) := by decide +kernel
theorem dX6_change_93 : decode cX6_change 93 = .ok (.iload_n 1, 1) := by decide +kernel
theorem dX6_change_94 : decode cX6_change 94 = .ok (.iload_n 2, 1) := by decide +kernel
theorem dX6_change_95 : decode cX6_change 95 = .ok (.invokevirtual 84, 3) := by decide +kernel
theorem dX6_change_98 : decode cX6_change 98 = .ok (.ireturn, 1) := by decide +kernel
theorem dX6_open_0 : decode cX6_open 0 = .ok (.iload_n 1, 1) := by decide +kernel
theorem dX6_open_1 : decode cX6_open 1 = .ok (.iconst 4, 1) := by decide +kernel
theorem dX6_open_2 : decode cX6_open 2 = .ok (.invokestatic 30, 3) := by decide +kernel
theorem dX6_open_5 : decode cX6_open 5 = .ok (.ifCond .eq 13, 3) := by decide +kernel
theorem dX6_open_8 : decode cX6_open 8 = .ok (.new 64, 3) := by decide +kernel
theorem dX6_open_11 : decode cX6_open 11 = .ok (.dup, 1) := by decide +kernel
theorem dX6_open_12 : decode cX6_open 12 = .ok (.ldc 88, 2) := by decide +kernel
theorem dX6_open_14 : decode cX6_open 14 = .ok (.invokespecial 68, 3) := by decide +kernel
theorem dX6_open_17 : decode cX6_open 17 = .ok (.athrow, 1) := by decide +kernel
theorem dX6_open_18 : decode cX6_open 18 = .ok (.aload_n 0, 1) := by decide +kernel
theorem dX6_open_19 : decode cX6_open 19 = .ok (.getfield 19, 3) := by decide +kernel
theorem dX6_open_22 : decode cX6_open 22 = .ok (.aload_n 0, 1) := by decide +kernel
theorem dX6_open_23 : decode cX6_open 23 = .ok (.getfield 12, 3) := by decide +kernel
theorem dX6_open_26 : decode cX6_open 26 = .ok (.invokevirtual 56, 3) := by decide +kernel
theorem dX6_open_29 : decode cX6_open 29 = .ok (.aload_n 0, 1) := by decide +kernel
theorem dX6_open_30 : decode cX6_open 30 = .ok (.getfield 12, 3) := by decide +kernel
theorem dX6_open_33 : decode cX6_open 33 = .ok (.getfield 90, 3) := by decide +kernel
theorem dX6_open_36 : decode cX6_open 36 = .ok (.getfield 94, 3) := by decide +kernel
theorem dX6_open_39 : decode cX6_open 39 = .ok (.iload_n 1, 1) := by decide +kernel
theorem dX6_open_40 : decode cX6_open 40 = .ok (.aload_n 0, 1) := by decide +kernel
theorem dX6_open_41 : decode cX6_open 41 = .ok (.getfield 12, 3) := by decide +kernel
theorem dX6_open_44 : decode cX6_open 44 = .ok (.getfield 41, 3) := by decide +kernel
theorem dX6_open_47 : decode cX6_open 47 = .ok (.getfield 99, 3) := by decide +kernel
theorem dX6_open_50 : decode cX6_open 50 = .ok (.iastore, 1) := by decide +kernel
theorem dX6_open_51 : decode cX6_open 51 = .ok (.aload_n 0, 1) := by decide +kernel
theorem dX6_open_52 : decode cX6_open 52 = .ok (.getfield 12, 3) := by decide +kernel
theorem dX6_open_55 : decode cX6_open 55 = .ok (.getfield 41, 3) := by decide +kernel
theorem dX6_open_58 : decode cX6_open 58 = .ok (.getfield 99, 3) := by decide +kernel
theorem dX6_open_61 : decode cX6_open 61 = .ok (.ireturn, 1) := by decide +kernel
theorem dX6_close_0 : decode cX6_close 0 = .ok (.iload_n 1, 1) := by decide +kernel
theorem dX6_close_1 : decode cX6_close 1 = .ok (.iconst 4, 1) := by decide +kernel
theorem dX6_close_2 : decode cX6_close 2 = .ok (.invokestatic 30, 3) := by decide +kernel
theorem dX6_close_5 : decode cX6_close 5 = .ok (.ifCond .eq 13, 3) := by decide +kernel
theorem dX6_close_8 : decode cX6_close 8 = .ok (.new 64, 3) := by decide +kernel
theorem dX6_close_11 : decode cX6_close 11 = .ok (.dup, 1) := by decide +kernel
theorem dX6_close_12 : decode cX6_close 12 = .ok (.ldc 88, 2) := by decide +kernel
theorem dX6_close_14 : decode cX6_close 14 = .ok (.invokespecial 68, 3) := by decide +kernel
theorem dX6_close_17 : decode cX6_close 17 = .ok (.athrow, 1) := by decide +kernel
theorem dX6_close_18 : decode cX6_close 18 = .ok (.aload_n 0, 1) := by decide +kernel
theorem dX6_close_19 : decode cX6_close 19 = .ok (.getfield 12, 3) := by decide +kernel
theorem dX6_close_22 : decode cX6_close 22 = .ok (.getfield 90, 3) := by decide +kernel
theorem dX6_close_25 : decode cX6_close 25 = .ok (.getfield 94, 3) := by decide +kernel
theorem dX6_close_28 : decode cX6_close 28 = .ok (.iload_n 1, 1) := by decide +kernel
theorem dX6_close_29 : decode cX6_close 29 = .ok (.iaload, 1) := by decide +kernel
theorem dX6_close_30 : decode cX6_close 30 = .ok (.istore_n 2, 1) := by decide +kernel
theorem dX6_close_31 : decode cX6_close 31 = .ok (.iload_n 2, 1) := by decide +kernel
theorem dX6_close_32 : decode cX6_close 32 = .ok (.iconst (-1), 1) := by decide +kernel
theorem dX6_close_33 : decode cX6_close 33 = .ok (.if_icmp .ne 13, 3) := by decide +kernel
theorem dX6_close_36 : decode cX6_close 36 = .ok (.new 51, 3) := by decide +kernel
theorem dX6_close_39 : decode cX6_close 39 = .ok (.dup, 1) := by decide +kernel
theorem dX6_close_40 : decode cX6_close 40 = .ok (.ldc 103, 2) := by decide +kernel
theorem dX6_close_42 : decode cX6_close 42 = .ok (.invokespecial 55, 3) := by decide +kernel
theorem dX6_close_45 : decode cX6_close 45 = .ok (.athrow, 1) := by decide +kernel
theorem dX6_close_46 : decode cX6_close 46 = .ok (.aload_n 0, 1) := by decide +kernel
theorem dX6_close_47 : decode cX6_close 47 = .ok (.getfield 19, 3) := by decide +kernel
theorem dX6_close_50 : decode cX6_close 50 = .ok (.aload_n 0, 1) := by decide +kernel
theorem dX6_close_51 : decode cX6_close 51 = .ok (.getfield 12, 3) := by decide +kernel
theorem dX6_close_54 : decode cX6_close 54 = .ok (.invokevirtual 56, 3) := by decide +kernel
theorem dX6_close_57 : decode cX6_close 57 = .ok (.aload_n 0, 1) := by decide +kernel
theorem dX6_close_58 : decode cX6_close 58 = .ok (.getfield 12, 3) := by decide +kernel
theorem dX6_close_61 : decode cX6_close 61 = .ok (.getfield 90, 3) := by decide +kernel
theorem dX6_close_64 : decode cX6_close 64 = .ok (.getfield 94, 3) := by decide +kernel
theorem dX6_close_67 : decode cX6_close 67 = .ok (.iload_n 1, 1) := by decide +kernel
theorem dX6_close_68 : decode cX6_close 68 = .ok (.iconst (-1), 1) := by decide +kernel
theorem dX6_close_69 : decode cX6_close 69 = .ok (.iastore, 1) := by decide +kernel
theorem dX6_close_70 : decode cX6_close 70 = .ok (.iload_n 2, 1) := by decide +kernel
theorem dX6_close_71 : decode cX6_close 71 = .ok (.ireturn, 1) := by decide +kernel
theorem dX6_sweep_0 : decode cX6_sweep 0 = .ok (.iload_n 1, 1) := by decide +kernel
theorem dX6_sweep_1 : decode cX6_sweep 1 = .ok (.bipush 6, 2) := by decide +kernel
theorem dX6_sweep_3 : decode cX6_sweep 3 = .ok (.invokestatic 30, 3) := by decide +kernel
theorem dX6_sweep_6 : decode cX6_sweep 6 = .ok (.ifCond .eq 13, 3) := by decide +kernel
theorem dX6_sweep_9 : decode cX6_sweep 9 = .ok (.new 64, 3) := by decide +kernel
theorem dX6_sweep_12 : decode cX6_sweep 12 = .ok (.dup, 1) := by decide +kernel
theorem dX6_sweep_13 : decode cX6_sweep 13 = .ok (.ldc 105, 2) := by decide +kernel
theorem dX6_sweep_15 : decode cX6_sweep 15 = .ok (.invokespecial 68, 3) := by decide +kernel
theorem dX6_sweep_18 : decode cX6_sweep 18 = .ok (.athrow, 1) := by decide +kernel
theorem dX6_sweep_19 : decode cX6_sweep 19 = .ok (.aload_n 0, 1) := by decide +kernel
theorem dX6_sweep_20 : decode cX6_sweep 20 = .ok (.getfield 19, 3) := by decide +kernel
theorem dX6_sweep_23 : decode cX6_sweep 23 = .ok (.aload_n 0, 1) := by decide +kernel
theorem dX6_sweep_24 : decode cX6_sweep 24 = .ok (.getfield 12, 3) := by decide +kernel
theorem dX6_sweep_27 : decode cX6_sweep 27 = .ok (.invokevirtual 56, 3) := by decide +kernel
theorem dX6_sweep_30 : decode cX6_sweep 30 = .ok (.aload_n 0, 1) := by decide +kernel
theorem dX6_sweep_31 : decode cX6_sweep 31 = .ok (.getfield 12, 3) := by decide +kernel
theorem dX6_sweep_34 : decode cX6_sweep 34 = .ok (.getfield 41, 3) := by decide +kernel
theorem dX6_sweep_37 : decode cX6_sweep 37 = .ok (.iload_n 1, 1) := by decide +kernel
theorem dX6_sweep_38 : decode cX6_sweep 38 = .ok (.aload_n 0, 1) := by decide +kernel
theorem dX6_sweep_39 : decode cX6_sweep 39 = .ok (.getfield 12, 3) := by decide +kernel
theorem dX6_sweep_42 : decode cX6_sweep 42 = .ok (.invokevirtual 107, 3) := by decide +kernel
theorem dX6_sweep_45 : decode cX6_sweep 45 = .ok (.invokevirtual 111, 3) := by decide +kernel
theorem dX6_sweep_48 : decode cX6_sweep 48 = .ok (.ireturn, 1) := by decide +kernel
theorem dX6_sweepAll_0 : decode cX6_sweepAll 0 = .ok (.aload_n 0, 1) := by decide +kernel
theorem dX6_sweepAll_1 : decode cX6_sweepAll 1 = .ok (.getfield 19, 3) := by decide +kernel
theorem dX6_sweepAll_4 : decode cX6_sweepAll 4 = .ok (.aload_n 0, 1) := by decide +kernel
theorem dX6_sweepAll_5 : decode cX6_sweepAll 5 = .ok (.getfield 12, 3) := by decide +kernel
theorem dX6_sweepAll_8 : decode cX6_sweepAll 8 = .ok (.invokevirtual 56, 3) := by decide +kernel
theorem dX6_sweepAll_11 : decode cX6_sweepAll 11 = .ok (.aload_n 0, 1) := by decide +kernel
theorem dX6_sweepAll_12 : decode cX6_sweepAll 12 = .ok (.getfield 12, 3) := by decide +kernel
theorem dX6_sweepAll_15 : decode cX6_sweepAll 15 = .ok (.invokevirtual 107, 3) := by decide +kernel
theorem dX6_sweepAll_18 : decode cX6_sweepAll 18 = .ok (.istore_n 1, 1) := by decide +kernel
theorem dX6_sweepAll_19 : decode cX6_sweepAll 19 = .ok (.iconst 0, 1) := by decide +kernel
theorem dX6_sweepAll_20 : decode cX6_sweepAll 20 = .ok (.istore_n 2, 1) := by decide +kernel
theorem dX6_sweepAll_21 : decode cX6_sweepAll 21 = .ok (.iload_n 2, 1) := by decide +kernel
theorem dX6_sweepAll_22 : decode cX6_sweepAll 22 = .ok (.bipush 6, 2) := by decide +kernel
theorem dX6_sweepAll_24 : decode cX6_sweepAll 24 = .ok (.if_icmp .ge 22, 3) := by decide +kernel
theorem dX6_sweepAll_27 : decode cX6_sweepAll 27 = .ok (.aload_n 0, 1) := by decide +kernel
theorem dX6_sweepAll_28 : decode cX6_sweepAll 28 = .ok (.getfield 12, 3) := by decide +kernel
theorem dX6_sweepAll_31 : decode cX6_sweepAll 31 = .ok (.getfield 41, 3) := by decide +kernel
theorem dX6_sweepAll_34 : decode cX6_sweepAll 34 = .ok (.iload_n 2, 1) := by decide +kernel
theorem dX6_sweepAll_35 : decode cX6_sweepAll 35 = .ok (.iload_n 1, 1) := by decide +kernel
theorem dX6_sweepAll_36 : decode cX6_sweepAll 36 = .ok (.invokevirtual 111, 3) := by decide +kernel
theorem dX6_sweepAll_39 : decode cX6_sweepAll 39 = .ok (.pop, 1) := by decide +kernel
theorem dX6_sweepAll_40 : decode cX6_sweepAll 40 = .ok (.iinc 2 1, 3) := by decide +kernel
theorem dX6_sweepAll_43 : decode cX6_sweepAll 43 = .ok (.goto (-22), 3) := by decide +kernel
theorem dX6_sweepAll_46 : decode cX6_sweepAll 46 = .ok (.aload_n 0, 1) := by decide +kernel
theorem dX6_sweepAll_47 : decode cX6_sweepAll 47 = .ok (.getfield 12, 3) := by decide +kernel
theorem dX6_sweepAll_50 : decode cX6_sweepAll 50 = .ok (.getfield 41, 3) := by decide +kernel
theorem dX6_sweepAll_53 : decode cX6_sweepAll 53 = .ok (.invokevirtual 114, 3) := by decide +kernel
theorem dX6_sweepAll_56 : decode cX6_sweepAll 56 = .ok (.ireturn, 1) := by decide +kernel
theorem dX6_ask_0 : decode cX6_ask 0 = .ok (.iload_n 1, 1) := by decide +kernel
theorem dX6_ask_1 : decode cX6_ask 1 = .ok (.iconst 4, 1) := by decide +kernel
theorem dX6_ask_2 : decode cX6_ask 2 = .ok (.invokestatic 30, 3) := by decide +kernel
theorem dX6_ask_5 : decode cX6_ask 5 = .ok (.ifCond .eq 13, 3) := by decide +kernel
theorem dX6_ask_8 : decode cX6_ask 8 = .ok (.new 64, 3) := by decide +kernel
theorem dX6_ask_11 : decode cX6_ask 11 = .ok (.dup, 1) := by decide +kernel
theorem dX6_ask_12 : decode cX6_ask 12 = .ok (.ldc 88, 2) := by decide +kernel
theorem dX6_ask_14 : decode cX6_ask 14 = .ok (.invokespecial 68, 3) := by decide +kernel
theorem dX6_ask_17 : decode cX6_ask 17 = .ok (.athrow, 1) := by decide +kernel
theorem dX6_ask_18 : decode cX6_ask 18 = .ok (.iload_n 2, 1) := by decide +kernel
theorem dX6_ask_19 : decode cX6_ask 19 = .ok (.bipush 10, 2) := by decide +kernel
theorem dX6_ask_21 : decode cX6_ask 21 = .ok (.invokestatic 30, 3) := by decide +kernel
theorem dX6_ask_24 : decode cX6_ask 24 = .ok (.ifCond .ne 11, 3) := by decide +kernel
theorem dX6_ask_27 : decode cX6_ask 27 = .ok (.iload_n 3, 1) := by decide +kernel
theorem dX6_ask_28 : decode cX6_ask 28 = .ok (.iconst 3, 1) := by decide +kernel
theorem dX6_ask_29 : decode cX6_ask 29 = .ok (.invokestatic 30, 3) := by decide +kernel
theorem dX6_ask_32 : decode cX6_ask 32 = .ok (.ifCond .eq 13, 3) := by decide +kernel
theorem dX6_ask_35 : decode cX6_ask 35 = .ok (.new 34, 3) := by decide +kernel
theorem dX6_ask_38 : decode cX6_ask 38 = .ok (.dup, 1) := by decide +kernel
theorem dX6_ask_39 : decode cX6_ask 39 = .ok (.ldc 117, 2) := by decide +kernel
theorem dX6_ask_41 : decode cX6_ask 41 = .ok (.invokespecial 38, 3) := by decide +kernel
theorem dX6_ask_44 : decode cX6_ask 44 = .ok (.athrow, 1) := by decide +kernel
theorem dX6_ask_45 : decode cX6_ask 45 = .ok (.aload_n 0, 1) := by decide +kernel
theorem dX6_ask_46 : decode cX6_ask 46 = .ok (.getfield 12, 3) := by decide +kernel
theorem dX6_ask_49 : decode cX6_ask 49 = .ok (.getfield 90, 3) := by decide +kernel
theorem dX6_ask_52 : decode cX6_ask 52 = .ok (.getfield 94, 3) := by decide +kernel
theorem dX6_ask_55 : decode cX6_ask 55 = .ok (.iload_n 1, 1) := by decide +kernel
theorem dX6_ask_56 : decode cX6_ask 56 = .ok (.iaload, 1) := by decide +kernel
theorem dX6_ask_57 : decode cX6_ask 57 = .ok (.istore 4, 2) := by decide +kernel
theorem dX6_ask_59 : decode cX6_ask 59 = .ok (.iload 4, 2) := by decide +kernel
theorem dX6_ask_61 : decode cX6_ask 61 = .ok (.iconst (-1), 1) := by decide +kernel
theorem dX6_ask_62 : decode cX6_ask 62 = .ok (.if_icmp .ne 13, 3) := by decide +kernel
theorem dX6_ask_65 : decode cX6_ask 65 = .ok (.new 51, 3) := by decide +kernel
theorem dX6_ask_68 : decode cX6_ask 68 = .ok (.dup, 1) := by decide +kernel
theorem dX6_ask_69 : decode cX6_ask 69 = .ok (.ldc 103, 2) := by decide +kernel
theorem dX6_ask_71 : decode cX6_ask 71 = .ok (.invokespecial 55, 3) := by decide +kernel
theorem dX6_ask_74 : decode cX6_ask 74 = .ok (.athrow, 1) := by decide +kernel
theorem dX6_ask_75 : decode cX6_ask 75 = .ok (.aload_n 0, 1) := by decide +kernel
theorem dX6_ask_76 : decode cX6_ask 76 = .ok (.getfield 19, 3) := by decide +kernel
theorem dX6_ask_79 : decode cX6_ask 79 = .ok (.aload_n 0, 1) := by decide +kernel
theorem dX6_ask_80 : decode cX6_ask 80 = .ok (.getfield 12, 3) := by decide +kernel
theorem dX6_ask_83 : decode cX6_ask 83 = .ok (.invokevirtual 56, 3) := by decide +kernel
theorem dX6_ask_86 : decode cX6_ask 86 = .ok (.aload_n 0, 1) := by decide +kernel
theorem dX6_ask_87 : decode cX6_ask 87 = .ok (.getfield 12, 3) := by decide +kernel
theorem dX6_ask_90 : decode cX6_ask 90 = .ok (.getfield 90, 3) := by decide +kernel
theorem dX6_ask_93 : decode cX6_ask 93 = .ok (.getfield 119, 3) := by decide +kernel
theorem dX6_ask_96 : decode cX6_ask 96 = .ok (.iload_n 1, 1) := by decide +kernel
theorem dX6_ask_97 : decode cX6_ask 97 = .ok (.dup2, 1) := by decide +kernel
theorem dX6_ask_98 : decode cX6_ask 98 = .ok (.iaload, 1) := by decide +kernel
theorem dX6_ask_99 : decode cX6_ask 99 = .ok (.iconst 1, 1) := by decide +kernel
theorem dX6_ask_100 : decode cX6_ask 100 = .ok (.iadd, 1) := by decide +kernel
theorem dX6_ask_101 : decode cX6_ask 101 = .ok (.iastore, 1) := by decide +kernel
theorem dX6_ask_102 : decode cX6_ask 102 = .ok (.aload_n 0, 1) := by decide +kernel
theorem dX6_ask_103 : decode cX6_ask 103 = .ok (.getfield 12, 3) := by decide +kernel
theorem dX6_ask_106 : decode cX6_ask 106 = .ok (.getfield 122, 3) := by decide +kernel
theorem dX6_ask_109 : decode cX6_ask 109 = .ok (.iload_n 3, 1) := by decide +kernel
theorem dX6_ask_110 : decode cX6_ask 110 = .ok (.aload_n 0, 1) := by decide +kernel
theorem dX6_ask_111 : decode cX6_ask 111 = .ok (.getfield 12, 3) := by decide +kernel
theorem dX6_ask_114 : decode cX6_ask 114 = .ok (.getfield 41, 3) := by decide +kernel
theorem dX6_ask_117 : decode cX6_ask 117 = .ok (.iload 4, 2) := by decide +kernel
theorem dX6_ask_119 : decode cX6_ask 119 = .ok (.iload_n 2, 1) := by decide +kernel
theorem dX6_ask_120 : decode cX6_ask 120 = .ok (.iload_n 3, 1) := by decide +kernel
theorem dX6_ask_121 : decode cX6_ask 121 = .ok (.invokevirtual 126, 3) := by decide +kernel
theorem dX6_ask_124 : decode cX6_ask 124 = .ok (.aload_n 0, 1) := by decide +kernel
theorem dX6_ask_125 : decode cX6_ask 125 = .ok (.getfield 12, 3) := by decide +kernel
theorem dX6_ask_128 : decode cX6_ask 128 = .ok (.getfield 41, 3) := by decide +kernel
theorem dX6_ask_131 : decode cX6_ask 131 = .ok (.iload 4, 2) := by decide +kernel
theorem dX6_ask_133 : decode cX6_ask 133 = .ok (.invokevirtual 130, 3) := by decide +kernel
theorem dX6_ask_136 : decode cX6_ask 136 = .ok (.ifCond .ne 7, 3) := by decide +kernel
theorem dX6_ask_139 : decode cX6_ask 139 = .ok (.iconst 1, 1) := by decide +kernel
theorem dX6_ask_140 : decode cX6_ask 140 = .ok (.goto 4, 3) := by decide +kernel
theorem dX6_ask_143 : decode cX6_ask 143 = .ok (.iconst 0, 1) := by decide +kernel
theorem dX6_ask_144 : decode cX6_ask 144 = .ok (.invokevirtual 133, 3) := by decide +kernel
theorem dX6_ask_147 : decode cX6_ask 147 = .ok (.aload_n 0, 1) := by decide +kernel
theorem dX6_ask_148 : decode cX6_ask 148 = .ok (.getfield 12, 3) := by decide +kernel
theorem dX6_ask_151 : decode cX6_ask 151 = .ok (.getfield 41, 3) := by decide +kernel
theorem dX6_ask_154 : decode cX6_ask 154 = .ok (.iload 4, 2) := by decide +kernel
theorem dX6_ask_156 : decode cX6_ask 156 = .ok (.iload_n 2, 1) := by decide +kernel
theorem dX6_ask_157 : decode cX6_ask 157 = .ok (.iload_n 3, 1) := by decide +kernel
theorem dX6_ask_158 : decode cX6_ask 158 = .ok (.invokevirtual 139, 3) := by decide +kernel
theorem dX6_ask_161 : decode cX6_ask 161 = .ok (.ireturn, 1) := by decide +kernel
theorem dX6_undo_0 : decode cX6_undo 0 = .ok (.aload_n 0, 1) := by decide +kernel
theorem dX6_undo_1 : decode cX6_undo 1 = .ok (.getfield 19, 3) := by decide +kernel
theorem dX6_undo_4 : decode cX6_undo 4 = .ok (.getfield 166, 3) := by decide +kernel
theorem dX6_undo_7 : decode cX6_undo 7 = .ok (.ifCond .ne 13, 3) := by decide +kernel
theorem dX6_undo_10 : decode cX6_undo 10 = .ok (.new 51, 3) := by decide +kernel
theorem dX6_undo_13 : decode cX6_undo 13 = .ok (.dup, 1) := by decide +kernel
theorem dX6_undo_14 : decode cX6_undo 14 = .ok (.ldc 169, 2) := by decide +kernel
theorem dX6_undo_16 : decode cX6_undo 16 = .ok (.invokespecial 55, 3) := by decide +kernel
theorem dX6_undo_19 : decode cX6_undo 19 = .ok (.athrow, 1) := by decide +kernel
theorem dX6_undo_20 : decode cX6_undo 20 = .ok (.aload_n 0, 1) := by decide +kernel
theorem dX6_undo_21 : decode cX6_undo 21 = .ok (.getfield 19, 3) := by decide +kernel
theorem dX6_undo_24 : decode cX6_undo 24 = .ok (.aload_n 0, 1) := by decide +kernel
theorem dX6_undo_25 : decode cX6_undo 25 = .ok (.getfield 12, 3) := by decide +kernel
theorem dX6_undo_28 : decode cX6_undo 28 = .ok (.invokevirtual 171, 3) := by decide +kernel
theorem dX6_undo_31 : decode cX6_undo 31 = .ok (.aload_n 0, 1) := by decide +kernel
theorem dX6_undo_32 : decode cX6_undo 32 = .ok (.getfield 19, 3) := by decide +kernel
theorem dX6_undo_35 : decode cX6_undo 35 = .ok (.getfield 166, 3) := by decide +kernel
theorem dX6_undo_38 : decode cX6_undo 38 = .ok (.ireturn, 1) := by decide +kernel
theorem dX6_slot_0 : decode cX6_slot 0 = .ok (.iload_n 1, 1) := by decide +kernel
theorem dX6_slot_1 : decode cX6_slot 1 = .ok (.bipush 24, 2) := by decide +kernel
theorem dX6_slot_3 : decode cX6_slot 3 = .ok (.invokestatic 30, 3) := by decide +kernel
theorem dX6_slot_6 : decode cX6_slot 6 = .ok (.ifCond .eq 13, 3) := by decide +kernel
theorem dX6_slot_9 : decode cX6_slot 9 = .ok (.new 64, 3) := by decide +kernel
theorem dX6_slot_12 : decode cX6_slot 12 = .ok (.dup, 1) := by decide +kernel
theorem dX6_slot_13 : decode cX6_slot 13 = .ok (.ldc 66, 2) := by decide +kernel
theorem dX6_slot_15 : decode cX6_slot 15 = .ok (.invokespecial 68, 3) := by decide +kernel
theorem dX6_slot_18 : decode cX6_slot 18 = .ok (.athrow, 1) := by decide +kernel
theorem dX6_slot_19 : decode cX6_slot 19 = .ok (.iload_n 2, 1) := by decide +kernel
theorem dX6_slot_20 : decode cX6_slot 20 = .ok (.iconst 4, 1) := by decide +kernel
theorem dX6_slot_21 : decode cX6_slot 21 = .ok (.invokestatic 30, 3) := by decide +kernel
theorem dX6_slot_24 : decode cX6_slot 24 = .ok (.ifCond .eq 13, 3) := by decide +kernel
theorem dX6_slot_27 : decode cX6_slot 27 = .ok (.new 34, 3) := by decide +kernel
theorem dX6_slot_30 : decode cX6_slot 30 = .ok (.dup, 1) := by decide +kernel
theorem dX6_slot_31 : decode cX6_slot 31 = .ok (.ldc 174, 2) := by decide +kernel
theorem dX6_slot_33 : decode cX6_slot 33 = .ok (.invokespecial 38, 3) := by decide +kernel
theorem dX6_slot_36 : decode cX6_slot 36 = .ok (.athrow, 1) := by decide +kernel
theorem dX6_slot_37 : decode cX6_slot 37 = .ok (.aload_n 0, 1) := by decide +kernel
theorem dX6_slot_38 : decode cX6_slot 38 = .ok (.iload_n 1, 1) := by decide +kernel
theorem dX6_slot_39 : decode cX6_slot 39 = .ok (.iload_n 2, 1) := by decide +kernel
theorem dX6_slot_40 : decode cX6_slot 40 = .ok (.invokevirtual 176, 3) := by decide +kernel
theorem dX6_slot_43 : decode cX6_slot 43 = .ok (.ireturn, 1) := by decide +kernel
theorem dX6_page_0 : decode cX6_page 0 = .ok (.iload_n 1, 1) := by decide +kernel
theorem dX6_page_1 : decode cX6_page 1 = .ok (.bipush 6, 2) := by decide +kernel
theorem dX6_page_3 : decode cX6_page 3 = .ok (.invokestatic 30, 3) := by decide +kernel
theorem dX6_page_6 : decode cX6_page 6 = .ok (.ifCond .eq 13, 3) := by decide +kernel
theorem dX6_page_9 : decode cX6_page 9 = .ok (.new 64, 3) := by decide +kernel
theorem dX6_page_12 : decode cX6_page 12 = .ok (.dup, 1) := by decide +kernel
theorem dX6_page_13 : decode cX6_page 13 = .ok (.ldc 105, 2) := by decide +kernel
theorem dX6_page_15 : decode cX6_page 15 = .ok (.invokespecial 68, 3) := by decide +kernel
theorem dX6_page_18 : decode cX6_page 18 = .ok (.athrow, 1) := by decide +kernel
theorem dX6_page_19 : decode cX6_page 19 = .ok (.iload_n 2, 1) := by decide +kernel
theorem dX6_page_20 : decode cX6_page 20 = .ok (.iconst 5, 1) := by decide +kernel
theorem dX6_page_21 : decode cX6_page 21 = .ok (.invokestatic 30, 3) := by decide +kernel
theorem dX6_page_24 : decode cX6_page 24 = .ok (.ifCond .eq 13, 3) := by decide +kernel
theorem dX6_page_27 : decode cX6_page 27 = .ok (.new 34, 3) := by decide +kernel
theorem dX6_page_30 : decode cX6_page 30 = .ok (.dup, 1) := by decide +kernel
theorem dX6_page_31 : decode cX6_page 31 = .ok (.ldc 179, 2) := by decide +kernel
theorem dX6_page_33 : decode cX6_page 33 = .ok (.invokespecial 38, 3) := by decide +kernel
theorem dX6_page_36 : decode cX6_page 36 = .ok (.athrow, 1) := by decide +kernel
theorem dX6_page_37 : decode cX6_page 37 = .ok (.aload_n 0, 1) := by decide +kernel
theorem dX6_page_38 : decode cX6_page 38 = .ok (.iload_n 1, 1) := by decide +kernel
theorem dX6_page_39 : decode cX6_page 39 = .ok (.iload_n 2, 1) := by decide +kernel
theorem dX6_page_40 : decode cX6_page 40 = .ok (.invokevirtual 181, 3) := by decide +kernel
theorem dX6_page_43 : decode cX6_page 43 = .ok (.ireturn, 1) := by decide +kernel
theorem dX6_asker_0 : decode cX6_asker 0 = .ok (.iload_n 1, 1) := by decide +kernel
theorem dX6_asker_1 : decode cX6_asker 1 = .ok (.iconst 4, 1) := by decide +kernel
theorem dX6_asker_2 : decode cX6_asker 2 = .ok (.invokestatic 30, 3) := by decide +kernel
theorem dX6_asker_5 : decode cX6_asker 5 = .ok (.ifCond .eq 13, 3) := by decide +kernel
theorem dX6_asker_8 : decode cX6_asker 8 = .ok (.new 64, 3) := by decide +kernel
theorem dX6_asker_11 : decode cX6_asker 11 = .ok (.dup, 1) := by decide +kernel
theorem dX6_asker_12 : decode cX6_asker 12 = .ok (.ldc 88, 2) := by decide +kernel
theorem dX6_asker_14 : decode cX6_asker 14 = .ok (.invokespecial 68, 3) := by decide +kernel
theorem dX6_asker_17 : decode cX6_asker 17 = .ok (.athrow, 1) := by decide +kernel
theorem dX6_asker_18 : decode cX6_asker 18 = .ok (.iload_n 2, 1) := by decide +kernel
theorem dX6_asker_19 : decode cX6_asker 19 = .ok (.iconst 3, 1) := by decide +kernel
theorem dX6_asker_20 : decode cX6_asker 20 = .ok (.invokestatic 30, 3) := by decide +kernel
theorem dX6_asker_23 : decode cX6_asker 23 = .ok (.ifCond .eq 13, 3) := by decide +kernel
theorem dX6_asker_26 : decode cX6_asker 26 = .ok (.new 34, 3) := by decide +kernel
theorem dX6_asker_29 : decode cX6_asker 29 = .ok (.dup, 1) := by decide +kernel
theorem dX6_asker_30 : decode cX6_asker 30 = .ok (.ldc 184, 2) := by decide +kernel
theorem dX6_asker_32 : decode cX6_asker 32 = .ok (.invokespecial 38, 3) := by decide +kernel
theorem dX6_asker_35 : decode cX6_asker 35 = .ok (.athrow, 1) := by decide +kernel
theorem dX6_asker_36 : decode cX6_asker 36 = .ok (.aload_n 0, 1) := by decide +kernel
theorem dX6_asker_37 : decode cX6_asker 37 = .ok (.iload_n 1, 1) := by decide +kernel
theorem dX6_asker_38 : decode cX6_asker 38 = .ok (.iload_n 2, 1) := by decide +kernel
theorem dX6_asker_39 : decode cX6_asker 39 = .ok (.invokevirtual 186, 3) := by decide +kernel
theorem dX6_asker_42 : decode cX6_asker 42 = .ok (.ireturn, 1) := by decide +kernel
theorem dX6_count_0 : decode cX6_count 0 = .ok (.iload_n 1, 1) := by decide +kernel
theorem dX6_count_1 : decode cX6_count 1 = .ok (.bipush 13, 2) := by decide +kernel
theorem dX6_count_3 : decode cX6_count 3 = .ok (.invokestatic 30, 3) := by decide +kernel
theorem dX6_count_6 : decode cX6_count 6 = .ok (.ifCond .eq 13, 3) := by decide +kernel
theorem dX6_count_9 : decode cX6_count 9 = .ok (.new 34, 3) := by decide +kernel
theorem dX6_count_12 : decode cX6_count 12 = .ok (.dup, 1) := by decide +kernel
theorem dX6_count_13 : decode cX6_count 13 = .ok (.ldc 189, 2) := by decide +kernel
theorem dX6_count_15 : decode cX6_count 15 = .ok (.invokespecial 38, 3) := by decide +kernel
theorem dX6_count_18 : decode cX6_count 18 = .ok (.athrow, 1) := by decide +kernel
theorem dX6_count_19 : decode cX6_count 19 = .ok (.aload_n 0, 1) := by decide +kernel
theorem dX6_count_20 : decode cX6_count 20 = .ok (.iload_n 1, 1) := by decide +kernel
theorem dX6_count_21 : decode cX6_count 21 = .ok (.invokevirtual 191, 3) := by decide +kernel
theorem dX6_count_24 : decode cX6_count 24 = .ok (.ireturn, 1) := by decide +kernel
theorem dX6_ifAsked_0 : decode cX6_ifAsked 0 = .ok (.iload_n 1, 1) := by decide +kernel
theorem dX6_ifAsked_1 : decode cX6_ifAsked 1 = .ok (.ifCond .lt 17, 3) := by decide +kernel
theorem dX6_ifAsked_4 : decode cX6_ifAsked 4 = .ok (.iload_n 1, 1) := by decide +kernel
theorem dX6_ifAsked_5 : decode cX6_ifAsked 5 = .ok (.aload_n 0, 1) := by decide +kernel
theorem dX6_ifAsked_6 : decode cX6_ifAsked 6 = .ok (.getfield 12, 3) := by decide +kernel
theorem dX6_ifAsked_9 : decode cX6_ifAsked 9 = .ok (.getfield 41, 3) := by decide +kernel
theorem dX6_ifAsked_12 : decode cX6_ifAsked 12 = .ok (.getfield 99, 3) := by decide +kernel
theorem dX6_ifAsked_15 : decode cX6_ifAsked 15 = .ok (.if_icmp .le 13, 3) := by decide +kernel
theorem dX6_ifAsked_18 : decode cX6_ifAsked 18 = .ok (.new 34, 3) := by decide +kernel
theorem dX6_ifAsked_21 : decode cX6_ifAsked 21 = .ok (.dup, 1) := by decide +kernel
theorem dX6_ifAsked_22 : decode cX6_ifAsked 22 = .ok (.ldc 194, 2) := by decide +kernel
theorem dX6_ifAsked_24 : decode cX6_ifAsked 24 = .ok (.invokespecial 38, 3) := by decide +kernel
theorem dX6_ifAsked_27 : decode cX6_ifAsked 27 = .ok (.athrow, 1) := by decide +kernel
theorem dX6_ifAsked_28 : decode cX6_ifAsked 28 = .ok (.iload_n 2, 1) := by decide +kernel
theorem dX6_ifAsked_29 : decode cX6_ifAsked 29 = .ok (.bipush 10, 2) := by decide +kernel
theorem dX6_ifAsked_31 : decode cX6_ifAsked 31 = .ok (.invokestatic 30, 3) := by decide +kernel
theorem dX6_ifAsked_34 : decode cX6_ifAsked 34 = .ok (.ifCond .ne 11, 3) := by decide +kernel
theorem dX6_ifAsked_37 : decode cX6_ifAsked 37 = .ok (.iload_n 3, 1) := by decide +kernel
theorem dX6_ifAsked_38 : decode cX6_ifAsked 38 = .ok (.iconst 3, 1) := by decide +kernel
theorem dX6_ifAsked_39 : decode cX6_ifAsked 39 = .ok (.invokestatic 30, 3) := by decide +kernel
theorem dX6_ifAsked_42 : decode cX6_ifAsked 42 = .ok (.ifCond .eq 13, 3) := by decide +kernel
theorem dX6_ifAsked_45 : decode cX6_ifAsked 45 = .ok (.new 34, 3) := by decide +kernel
theorem dX6_ifAsked_48 : decode cX6_ifAsked 48 = .ok (.dup, 1) := by decide +kernel
theorem dX6_ifAsked_49 : decode cX6_ifAsked 49 = .ok (.ldc 117, 2) := by decide +kernel
theorem dX6_ifAsked_51 : decode cX6_ifAsked 51 = .ok (.invokespecial 38, 3) := by decide +kernel
theorem dX6_ifAsked_54 : decode cX6_ifAsked 54 = .ok (.athrow, 1) := by decide +kernel
theorem dX6_ifAsked_55 : decode cX6_ifAsked 55 = .ok (.iload 4, 2) := by decide +kernel
theorem dX6_ifAsked_57 : decode cX6_ifAsked 57 = .ok (.ifCond .ne 17, 3) := by decide +kernel
theorem dX6_ifAsked_60 : decode cX6_ifAsked 60 = .ok (.aload_n 0, 1) := by decide +kernel
theorem dX6_ifAsked_61 : decode cX6_ifAsked 61 = .ok (.getfield 12, 3) := by decide +kernel
theorem dX6_ifAsked_64 : decode cX6_ifAsked 64 = .ok (.getfield 41, 3) := by decide +kernel
theorem dX6_ifAsked_67 : decode cX6_ifAsked 67 = .ok (.iload_n 1, 1) := by decide +kernel
theorem dX6_ifAsked_68 : decode cX6_ifAsked 68 = .ok (.iload_n 2, 1) := by decide +kernel
theorem dX6_ifAsked_69 : decode cX6_ifAsked 69 = .ok (.iload_n 3, 1) := by decide +kernel
theorem dX6_ifAsked_70 : decode cX6_ifAsked 70 = .ok (.invokevirtual 139, 3) := by decide +kernel
theorem dX6_ifAsked_73 : decode cX6_ifAsked 73 = .ok (.ireturn, 1) := by decide +kernel
theorem dX6_ifAsked_74 : decode cX6_ifAsked 74 = .ok (.iload 4, 2) := by decide +kernel
theorem dX6_ifAsked_76 : decode cX6_ifAsked 76 = .ok (.iconst 1, 1) := by decide +kernel
theorem dX6_ifAsked_77 : decode cX6_ifAsked 77 = .ok (.if_icmp .ne 17, 3) := by decide +kernel
theorem dX6_ifAsked_80 : decode cX6_ifAsked 80 = .ok (.aload_n 0, 1) := by decide +kernel
theorem dX6_ifAsked_81 : decode cX6_ifAsked 81 = .ok (.getfield 12, 3) := by decide +kernel
theorem dX6_ifAsked_84 : decode cX6_ifAsked 84 = .ok (.getfield 41, 3) := by decide +kernel
theorem dX6_ifAsked_87 : decode cX6_ifAsked 87 = .ok (.iload_n 1, 1) := by decide +kernel
theorem dX6_ifAsked_88 : decode cX6_ifAsked 88 = .ok (.iload_n 2, 1) := by decide +kernel
theorem dX6_ifAsked_89 : decode cX6_ifAsked 89 = .ok (.iload_n 3, 1) := by decide +kernel
theorem dX6_ifAsked_90 : decode cX6_ifAsked 90 = .ok (.invokevirtual 126, 3) := by decide +kernel
theorem dX6_ifAsked_93 : decode cX6_ifAsked 93 = .ok (.ireturn, 1) := by decide +kernel
theorem dX6_ifAsked_94 : decode cX6_ifAsked 94 = .ok (.new 34, 3) := by decide +kernel
theorem dX6_ifAsked_97 : decode cX6_ifAsked 97 = .ok (.dup, 1) := by decide +kernel
theorem dX6_ifAsked_98 : decode cX6_ifAsked 98 = .ok (.ldc 196, 2) := by decide +kernel
theorem dX6_ifAsked_100 : decode cX6_ifAsked 100 = .ok (.invokespecial 38, 3) := by decide +kernel
theorem dX6_ifAsked_103 : decode cX6_ifAsked 103 = .ok (.athrow, 1) := by decide +kernel
theorem dX6_marked_0 : decode cX6_marked 0 = .ok (.aload_n 0, 1) := by decide +kernel
theorem dX6_marked_1 : decode cX6_marked 1 = .ok (.invokevirtual 207, 3) := by decide +kernel
theorem dX6_marked_4 : decode cX6_marked 4 = .ok (.dreturn, 1) := by decide +kernel
theorem dX6_isOutside_0 : decode cX6_isOutside 0 = .ok (.iload_n 0, 1) := by decide +kernel
theorem dX6_isOutside_1 : decode cX6_isOutside 1 = .ok (.ifCond .lt 8, 3) := by decide +kernel
theorem dX6_isOutside_4 : decode cX6_isOutside 4 = .ok (.iload_n 0, 1) := by decide +kernel
theorem dX6_isOutside_5 : decode cX6_isOutside 5 = .ok (.iload_n 1, 1) := by decide +kernel
theorem dX6_isOutside_6 : decode cX6_isOutside 6 = .ok (.if_icmp .lt 7, 3) := by decide +kernel
theorem dX6_isOutside_9 : decode cX6_isOutside 9 = .ok (.iconst 1, 1) := by decide +kernel
theorem dX6_isOutside_10 : decode cX6_isOutside 10 = .ok (.goto 4, 3) := by decide +kernel
theorem dX6_isOutside_13 : decode cX6_isOutside 13 = .ok (.iconst 0, 1) := by decide +kernel
theorem dX6_isOutside_14 : decode cX6_isOutside 14 = .ok (.ireturn, 1) := by decide +kernel
theorem dX6_slotNumber_0 : decode cX6_slotNumber 0 = .ok (.aload_n 0, 1) := by decide +kernel
theorem dX6_slotNumber_1 : decode cX6_slotNumber 1 = .ok (.getfield 12, 3) := by decide +kernel
theorem dX6_slotNumber_4 : decode cX6_slotNumber 4 = .ok (.getfield 41, 3) := by decide +kernel
theorem dX6_slotNumber_7 : decode cX6_slotNumber 7 = .ok (.astore_n 3, 1) := by decide +kernel
theorem dX6_slotNumber_8 : decode cX6_slotNumber 8 = .ok (.iload_n 2, 1) := by decide +kernel
theorem dX6_slotNumber_9 : decode cX6_slotNumber 9 = .ok (.tableswitch 48 0 2 #[27, 34, 41], 27) := by decide +kernel
theorem dX6_slotNumber_36 : decode cX6_slotNumber 36 = .ok (.aload_n 3, 1) := by decide +kernel
theorem dX6_slotNumber_37 : decode cX6_slotNumber 37 = .ok (.getfield 78, 3) := by decide +kernel
theorem dX6_slotNumber_40 : decode cX6_slotNumber 40 = .ok (.iload_n 1, 1) := by decide +kernel
theorem dX6_slotNumber_41 : decode cX6_slotNumber 41 = .ok (.iaload, 1) := by decide +kernel
theorem dX6_slotNumber_42 : decode cX6_slotNumber 42 = .ok (.ireturn, 1) := by decide +kernel
theorem dX6_slotNumber_43 : decode cX6_slotNumber 43 = .ok (.aload_n 3, 1) := by decide +kernel
theorem dX6_slotNumber_44 : decode cX6_slotNumber 44 = .ok (.getfield 233, 3) := by decide +kernel
theorem dX6_slotNumber_47 : decode cX6_slotNumber 47 = .ok (.iload_n 1, 1) := by decide +kernel
theorem dX6_slotNumber_48 : decode cX6_slotNumber 48 = .ok (.iaload, 1) := by decide +kernel
theorem dX6_slotNumber_49 : decode cX6_slotNumber 49 = .ok (.ireturn, 1) := by decide +kernel
theorem dX6_slotNumber_50 : decode cX6_slotNumber 50 = .ok (.aload_n 3, 1) := by decide +kernel
theorem dX6_slotNumber_51 : decode cX6_slotNumber 51 = .ok (.getfield 236, 3) := by decide +kernel
theorem dX6_slotNumber_54 : decode cX6_slotNumber 54 = .ok (.iload_n 1, 1) := by decide +kernel
theorem dX6_slotNumber_55 : decode cX6_slotNumber 55 = .ok (.iaload, 1) := by decide +kernel
theorem dX6_slotNumber_56 : decode cX6_slotNumber 56 = .ok (.ireturn, 1) := by decide +kernel
theorem dX6_slotNumber_57 : decode cX6_slotNumber 57 = .ok (.aload_n 3, 1) := by decide +kernel
theorem dX6_slotNumber_58 : decode cX6_slotNumber 58 = .ok (.iload_n 1, 1) := by decide +kernel
theorem dX6_slotNumber_59 : decode cX6_slotNumber 59 = .ok (.invokevirtual 69, 3) := by decide +kernel
theorem dX6_slotNumber_62 : decode cX6_slotNumber 62 = .ok (.ifCond .eq 7, 3) := by decide +kernel
theorem dX6_slotNumber_65 : decode cX6_slotNumber 65 = .ok (.iconst 1, 1) := by decide +kernel
theorem dX6_slotNumber_66 : decode cX6_slotNumber 66 = .ok (.goto 4, 3) := by decide +kernel
theorem dX6_slotNumber_69 : decode cX6_slotNumber 69 = .ok (.iconst 0, 1) := by decide +kernel
theorem dX6_slotNumber_70 : decode cX6_slotNumber 70 = .ok (.ireturn, 1) := by decide +kernel
theorem dX6_pageNumber_0 : decode cX6_pageNumber 0 = .ok (.aload_n 0, 1) := by decide +kernel
theorem dX6_pageNumber_1 : decode cX6_pageNumber 1 = .ok (.getfield 12, 3) := by decide +kernel
theorem dX6_pageNumber_4 : decode cX6_pageNumber 4 = .ok (.getfield 41, 3) := by decide +kernel
theorem dX6_pageNumber_7 : decode cX6_pageNumber 7 = .ok (.astore_n 3, 1) := by decide +kernel
theorem dX6_pageNumber_8 : decode cX6_pageNumber 8 = .ok (.iload_n 1, 1) := by decide +kernel
theorem dX6_pageNumber_9 : decode cX6_pageNumber 9 = .ok (.iconst 4, 1) := by decide +kernel
theorem dX6_pageNumber_10 : decode cX6_pageNumber 10 = .ok (.imul, 1) := by decide +kernel
theorem dX6_pageNumber_11 : decode cX6_pageNumber 11 = .ok (.istore 4, 2) := by decide +kernel
theorem dX6_pageNumber_13 : decode cX6_pageNumber 13 = .ok (.iload 4, 2) := by decide +kernel
theorem dX6_pageNumber_15 : decode cX6_pageNumber 15 = .ok (.iconst 4, 1) := by decide +kernel
theorem dX6_pageNumber_16 : decode cX6_pageNumber 16 = .ok (.iadd, 1) := by decide +kernel
theorem dX6_pageNumber_17 : decode cX6_pageNumber 17 = .ok (.istore 5, 2) := by decide +kernel
theorem dX6_pageNumber_19 : decode cX6_pageNumber 19 = .ok (.iload_n 2, 1) := by decide +kernel
theorem dX6_pageNumber_20 : decode cX6_pageNumber 20 = .ok (.tableswitch 84 0 3 #[32, 46, 55, 68], 32) := by decide +kernel
theorem dX6_pageNumber_52 : decode cX6_pageNumber 52 = .ok (.aload_n 3, 1) := by decide +kernel
theorem dX6_pageNumber_53 : decode cX6_pageNumber 53 = .ok (.iload_n 1, 1) := by decide +kernel
theorem dX6_pageNumber_54 : decode cX6_pageNumber 54 = .ok (.invokevirtual 239, 3) := by decide +kernel
theorem dX6_pageNumber_57 : decode cX6_pageNumber 57 = .ok (.ifCond .eq 7, 3) := by decide +kernel
theorem dX6_pageNumber_60 : decode cX6_pageNumber 60 = .ok (.iconst 1, 1) := by decide +kernel
theorem dX6_pageNumber_61 : decode cX6_pageNumber 61 = .ok (.goto 4, 3) := by decide +kernel
theorem dX6_pageNumber_64 : decode cX6_pageNumber 64 = .ok (.iconst 0, 1) := by decide +kernel
theorem dX6_pageNumber_65 : decode cX6_pageNumber 65 = .ok (.ireturn, 1) := by decide +kernel
theorem dX6_pageNumber_66 : decode cX6_pageNumber 66 = .ok (.aload_n 3, 1) := by decide +kernel
theorem dX6_pageNumber_67 : decode cX6_pageNumber 67 = .ok (.iload 4, 2) := by decide +kernel
theorem dX6_pageNumber_69 : decode cX6_pageNumber 69 = .ok (.iload 5, 2) := by decide +kernel
theorem dX6_pageNumber_71 : decode cX6_pageNumber 71 = .ok (.invokevirtual 242, 3) := by decide +kernel
theorem dX6_pageNumber_74 : decode cX6_pageNumber 74 = .ok (.ireturn, 1) := by decide +kernel
theorem dX6_pageNumber_75 : decode cX6_pageNumber 75 = .ok (.aload_n 3, 1) := by decide +kernel
theorem dX6_pageNumber_76 : decode cX6_pageNumber 76 = .ok (.iload 4, 2) := by decide +kernel
theorem dX6_pageNumber_78 : decode cX6_pageNumber 78 = .ok (.iload 5, 2) := by decide +kernel
theorem dX6_pageNumber_80 : decode cX6_pageNumber 80 = .ok (.aload_n 3, 1) := by decide +kernel
theorem dX6_pageNumber_81 : decode cX6_pageNumber 81 = .ok (.getfield 99, 3) := by decide +kernel
theorem dX6_pageNumber_84 : decode cX6_pageNumber 84 = .ok (.invokevirtual 245, 3) := by decide +kernel
theorem dX6_pageNumber_87 : decode cX6_pageNumber 87 = .ok (.ireturn, 1) := by decide +kernel
theorem dX6_pageNumber_88 : decode cX6_pageNumber 88 = .ok (.aload_n 3, 1) := by decide +kernel
theorem dX6_pageNumber_89 : decode cX6_pageNumber 89 = .ok (.iload 4, 2) := by decide +kernel
theorem dX6_pageNumber_91 : decode cX6_pageNumber 91 = .ok (.iload 5, 2) := by decide +kernel
theorem dX6_pageNumber_93 : decode cX6_pageNumber 93 = .ok (.aload_n 0, 1) := by decide +kernel
theorem dX6_pageNumber_94 : decode cX6_pageNumber 94 = .ok (.getfield 12, 3) := by decide +kernel
theorem dX6_pageNumber_97 : decode cX6_pageNumber 97 = .ok (.invokevirtual 107, 3) := by decide +kernel
theorem dX6_pageNumber_100 : decode cX6_pageNumber 100 = .ok (.invokevirtual 248, 3) := by decide +kernel
theorem dX6_pageNumber_103 : decode cX6_pageNumber 103 = .ok (.ireturn, 1) := by decide +kernel
theorem dX6_pageNumber_104 : decode cX6_pageNumber 104 = .ok (.aload_n 3, 1) := by decide +kernel
theorem dX6_pageNumber_105 : decode cX6_pageNumber 105 = .ok (.getfield 251, 3) := by decide +kernel
theorem dX6_pageNumber_108 : decode cX6_pageNumber 108 = .ok (.iload_n 1, 1) := by decide +kernel
theorem dX6_pageNumber_109 : decode cX6_pageNumber 109 = .ok (.iaload, 1) := by decide +kernel
theorem dX6_pageNumber_110 : decode cX6_pageNumber 110 = .ok (.ireturn, 1) := by decide +kernel
theorem dX6_askerNumber_0 : decode cX6_askerNumber 0 = .ok (.aload_n 0, 1) := by decide +kernel
theorem dX6_askerNumber_1 : decode cX6_askerNumber 1 = .ok (.getfield 12, 3) := by decide +kernel
theorem dX6_askerNumber_4 : decode cX6_askerNumber 4 = .ok (.getfield 90, 3) := by decide +kernel
theorem dX6_askerNumber_7 : decode cX6_askerNumber 7 = .ok (.getfield 94, 3) := by decide +kernel
theorem dX6_askerNumber_10 : decode cX6_askerNumber 10 = .ok (.iload_n 1, 1) := by decide +kernel
theorem dX6_askerNumber_11 : decode cX6_askerNumber 11 = .ok (.iaload, 1) := by decide +kernel
theorem dX6_askerNumber_12 : decode cX6_askerNumber 12 = .ok (.istore_n 3, 1) := by decide +kernel
theorem dX6_askerNumber_13 : decode cX6_askerNumber 13 = .ok (.iload_n 2, 1) := by decide +kernel
theorem dX6_askerNumber_14 : decode cX6_askerNumber 14 = .ok (.lookupswitch 52 #[(0, 26), (1, 28)], 26) := by decide +kernel
theorem dX6_askerNumber_40 : decode cX6_askerNumber 40 = .ok (.iload_n 3, 1) := by decide +kernel
theorem dX6_askerNumber_41 : decode cX6_askerNumber 41 = .ok (.ireturn, 1) := by decide +kernel
theorem dX6_askerNumber_42 : decode cX6_askerNumber 42 = .ok (.iload_n 3, 1) := by decide +kernel
theorem dX6_askerNumber_43 : decode cX6_askerNumber 43 = .ok (.iconst (-1), 1) := by decide +kernel
theorem dX6_askerNumber_44 : decode cX6_askerNumber 44 = .ok (.if_icmp .ne 7, 3) := by decide +kernel
theorem dX6_askerNumber_47 : decode cX6_askerNumber 47 = .ok (.iconst (-1), 1) := by decide +kernel
theorem dX6_askerNumber_48 : decode cX6_askerNumber 48 = .ok (.goto 17, 3) := by decide +kernel
theorem dX6_askerNumber_51 : decode cX6_askerNumber 51 = .ok (.aload_n 0, 1) := by decide +kernel
theorem dX6_askerNumber_52 : decode cX6_askerNumber 52 = .ok (.getfield 12, 3) := by decide +kernel
theorem dX6_askerNumber_55 : decode cX6_askerNumber 55 = .ok (.getfield 41, 3) := by decide +kernel
theorem dX6_askerNumber_58 : decode cX6_askerNumber 58 = .ok (.iconst 0, 1) := by decide +kernel
theorem dX6_askerNumber_59 : decode cX6_askerNumber 59 = .ok (.bipush 24, 2) := by decide +kernel
theorem dX6_askerNumber_61 : decode cX6_askerNumber 61 = .ok (.iload_n 3, 1) := by decide +kernel
theorem dX6_askerNumber_62 : decode cX6_askerNumber 62 = .ok (.invokevirtual 245, 3) := by decide +kernel
theorem dX6_askerNumber_65 : decode cX6_askerNumber 65 = .ok (.ireturn, 1) := by decide +kernel
theorem dX6_askerNumber_66 : decode cX6_askerNumber 66 = .ok (.aload_n 0, 1) := by decide +kernel
theorem dX6_askerNumber_67 : decode cX6_askerNumber 67 = .ok (.getfield 12, 3) := by decide +kernel
theorem dX6_askerNumber_70 : decode cX6_askerNumber 70 = .ok (.getfield 90, 3) := by decide +kernel
theorem dX6_askerNumber_73 : decode cX6_askerNumber 73 = .ok (.getfield 119, 3) := by decide +kernel
theorem dX6_askerNumber_76 : decode cX6_askerNumber 76 = .ok (.iload_n 1, 1) := by decide +kernel
theorem dX6_askerNumber_77 : decode cX6_askerNumber 77 = .ok (.iaload, 1) := by decide +kernel
theorem dX6_askerNumber_78 : decode cX6_askerNumber 78 = .ok (.ireturn, 1) := by decide +kernel
theorem dX6_countNumber_0 : decode cX6_countNumber 0 = .ok (.aload_n 0, 1) := by decide +kernel
theorem dX6_countNumber_1 : decode cX6_countNumber 1 = .ok (.getfield 12, 3) := by decide +kernel
theorem dX6_countNumber_4 : decode cX6_countNumber 4 = .ok (.getfield 41, 3) := by decide +kernel
theorem dX6_countNumber_7 : decode cX6_countNumber 7 = .ok (.astore_n 2, 1) := by decide +kernel
theorem dX6_countNumber_8 : decode cX6_countNumber 8 = .ok (.iload_n 1, 1) := by decide +kernel
theorem dX6_countNumber_9 : decode cX6_countNumber 9 = .ok (.tableswitch 178 0 11 #[63, 68, 76, 84, 96, 107, 112, 125, 138, 151, 162, 173], 63) := by decide +kernel
theorem dX6_countNumber_72 : decode cX6_countNumber 72 = .ok (.aload_n 2, 1) := by decide +kernel
theorem dX6_countNumber_73 : decode cX6_countNumber 73 = .ok (.getfield 99, 3) := by decide +kernel
theorem dX6_countNumber_76 : decode cX6_countNumber 76 = .ok (.ireturn, 1) := by decide +kernel
theorem dX6_countNumber_77 : decode cX6_countNumber 77 = .ok (.aload_n 0, 1) := by decide +kernel
theorem dX6_countNumber_78 : decode cX6_countNumber 78 = .ok (.getfield 12, 3) := by decide +kernel
theorem dX6_countNumber_81 : decode cX6_countNumber 81 = .ok (.invokevirtual 107, 3) := by decide +kernel
theorem dX6_countNumber_84 : decode cX6_countNumber 84 = .ok (.ireturn, 1) := by decide +kernel
theorem dX6_countNumber_85 : decode cX6_countNumber 85 = .ok (.aload_n 2, 1) := by decide +kernel
theorem dX6_countNumber_86 : decode cX6_countNumber 86 = .ok (.iconst 0, 1) := by decide +kernel
theorem dX6_countNumber_87 : decode cX6_countNumber 87 = .ok (.bipush 24, 2) := by decide +kernel
theorem dX6_countNumber_89 : decode cX6_countNumber 89 = .ok (.invokevirtual 242, 3) := by decide +kernel
theorem dX6_countNumber_92 : decode cX6_countNumber 92 = .ok (.ireturn, 1) := by decide +kernel
theorem dX6_countNumber_93 : decode cX6_countNumber 93 = .ok (.aload_n 2, 1) := by decide +kernel
theorem dX6_countNumber_94 : decode cX6_countNumber 94 = .ok (.iconst 0, 1) := by decide +kernel
theorem dX6_countNumber_95 : decode cX6_countNumber 95 = .ok (.bipush 24, 2) := by decide +kernel
theorem dX6_countNumber_97 : decode cX6_countNumber 97 = .ok (.aload_n 2, 1) := by decide +kernel
theorem dX6_countNumber_98 : decode cX6_countNumber 98 = .ok (.getfield 99, 3) := by decide +kernel
theorem dX6_countNumber_101 : decode cX6_countNumber 101 = .ok (.invokevirtual 245, 3) := by decide +kernel
theorem dX6_countNumber_104 : decode cX6_countNumber 104 = .ok (.ireturn, 1) := by decide +kernel
theorem dX6_countNumber_105 : decode cX6_countNumber 105 = .ok (.bipush 24, 2) := by decide +kernel
theorem dX6_countNumber_107 : decode cX6_countNumber 107 = .ok (.aload_n 2, 1) := by decide +kernel
theorem dX6_countNumber_108 : decode cX6_countNumber 108 = .ok (.iconst 0, 1) := by decide +kernel
theorem dX6_countNumber_109 : decode cX6_countNumber 109 = .ok (.bipush 24, 2) := by decide +kernel
theorem dX6_countNumber_111 : decode cX6_countNumber 111 = .ok (.invokevirtual 242, 3) := by decide +kernel
theorem dX6_countNumber_114 : decode cX6_countNumber 114 = .ok (.isub, 1) := by decide +kernel
theorem dX6_countNumber_115 : decode cX6_countNumber 115 = .ok (.ireturn, 1) := by decide +kernel
theorem dX6_countNumber_116 : decode cX6_countNumber 116 = .ok (.aload_n 2, 1) := by decide +kernel
theorem dX6_countNumber_117 : decode cX6_countNumber 117 = .ok (.invokevirtual 114, 3) := by decide +kernel
theorem dX6_countNumber_120 : decode cX6_countNumber 120 = .ok (.ireturn, 1) := by decide +kernel
theorem dX6_countNumber_121 : decode cX6_countNumber 121 = .ok (.aload_n 0, 1) := by decide +kernel
theorem dX6_countNumber_122 : decode cX6_countNumber 122 = .ok (.getfield 12, 3) := by decide +kernel
theorem dX6_countNumber_125 : decode cX6_countNumber 125 = .ok (.getfield 122, 3) := by decide +kernel
theorem dX6_countNumber_128 : decode cX6_countNumber 128 = .ok (.getfield 254, 3) := by decide +kernel
theorem dX6_countNumber_131 : decode cX6_countNumber 131 = .ok (.iconst 0, 1) := by decide +kernel
theorem dX6_countNumber_132 : decode cX6_countNumber 132 = .ok (.iaload, 1) := by decide +kernel
theorem dX6_countNumber_133 : decode cX6_countNumber 133 = .ok (.ireturn, 1) := by decide +kernel
theorem dX6_countNumber_134 : decode cX6_countNumber 134 = .ok (.aload_n 0, 1) := by decide +kernel
theorem dX6_countNumber_135 : decode cX6_countNumber 135 = .ok (.getfield 12, 3) := by decide +kernel
theorem dX6_countNumber_138 : decode cX6_countNumber 138 = .ok (.getfield 122, 3) := by decide +kernel
theorem dX6_countNumber_141 : decode cX6_countNumber 141 = .ok (.getfield 254, 3) := by decide +kernel
theorem dX6_countNumber_144 : decode cX6_countNumber 144 = .ok (.iconst 1, 1) := by decide +kernel
theorem dX6_countNumber_145 : decode cX6_countNumber 145 = .ok (.iaload, 1) := by decide +kernel
theorem dX6_countNumber_146 : decode cX6_countNumber 146 = .ok (.ireturn, 1) := by decide +kernel
theorem dX6_countNumber_147 : decode cX6_countNumber 147 = .ok (.aload_n 0, 1) := by decide +kernel
theorem dX6_countNumber_148 : decode cX6_countNumber 148 = .ok (.getfield 12, 3) := by decide +kernel
theorem dX6_countNumber_151 : decode cX6_countNumber 151 = .ok (.getfield 122, 3) := by decide +kernel
theorem dX6_countNumber_154 : decode cX6_countNumber 154 = .ok (.getfield 254, 3) := by decide +kernel
theorem dX6_countNumber_157 : decode cX6_countNumber 157 = .ok (.iconst 2, 1) := by decide +kernel
theorem dX6_countNumber_158 : decode cX6_countNumber 158 = .ok (.iaload, 1) := by decide +kernel
theorem dX6_countNumber_159 : decode cX6_countNumber 159 = .ok (.ireturn, 1) := by decide +kernel
theorem dX6_countNumber_160 : decode cX6_countNumber 160 = .ok (.aload_n 0, 1) := by decide +kernel
theorem dX6_countNumber_161 : decode cX6_countNumber 161 = .ok (.getfield 12, 3) := by decide +kernel
theorem dX6_countNumber_164 : decode cX6_countNumber 164 = .ok (.getfield 122, 3) := by decide +kernel
theorem dX6_countNumber_167 : decode cX6_countNumber 167 = .ok (.getfield 255, 3) := by decide +kernel
theorem dX6_countNumber_170 : decode cX6_countNumber 170 = .ok (.ireturn, 1) := by decide +kernel
theorem dX6_countNumber_171 : decode cX6_countNumber 171 = .ok (.aload_n 0, 1) := by decide +kernel
theorem dX6_countNumber_172 : decode cX6_countNumber 172 = .ok (.getfield 12, 3) := by decide +kernel
theorem dX6_countNumber_175 : decode cX6_countNumber 175 = .ok (.getfield 122, 3) := by decide +kernel
theorem dX6_countNumber_178 : decode cX6_countNumber 178 = .ok (.getfield 258, 3) := by decide +kernel
theorem dX6_countNumber_181 : decode cX6_countNumber 181 = .ok (.ireturn, 1) := by decide +kernel
theorem dX6_countNumber_182 : decode cX6_countNumber 182 = .ok (.aload_n 2, 1) := by decide +kernel
theorem dX6_countNumber_183 : decode cX6_countNumber 183 = .ok (.getfield 261, 3) := by decide +kernel
theorem dX6_countNumber_186 : decode cX6_countNumber 186 = .ok (.ireturn, 1) := by decide +kernel
theorem dX6_countNumber_187 : decode cX6_countNumber 187 = .ok (.aload_n 0, 1) := by decide +kernel
theorem dX6_countNumber_188 : decode cX6_countNumber 188 = .ok (.getfield 19, 3) := by decide +kernel
theorem dX6_countNumber_191 : decode cX6_countNumber 191 = .ok (.getfield 166, 3) := by decide +kernel
theorem dX6_countNumber_194 : decode cX6_countNumber 194 = .ok (.ireturn, 1) := by decide +kernel
theorem dX6_markedShare_0 : decode cX6_markedShare 0 = .ok (.aload_n 0, 1) := by decide +kernel
theorem dX6_markedShare_1 : decode cX6_markedShare 1 = .ok (.getfield 12, 3) := by decide +kernel
theorem dX6_markedShare_4 : decode cX6_markedShare 4 = .ok (.getfield 41, 3) := by decide +kernel
theorem dX6_markedShare_7 : decode cX6_markedShare 7 = .ok (.invokevirtual 114, 3) := by decide +kernel
theorem dX6_markedShare_10 : decode cX6_markedShare 10 = .ok (.i2d, 1) := by decide +kernel
theorem dX6_markedShare_11 : decode cX6_markedShare 11 = .ok (.ldc2_w 267, 3) := by decide +kernel
theorem dX6_markedShare_14 : decode cX6_markedShare 14 = .ok (.ddiv, 1) := by decide +kernel
theorem dX6_markedShare_15 : decode cX6_markedShare 15 = .ok (.dreturn, 1) := by decide +kernel
