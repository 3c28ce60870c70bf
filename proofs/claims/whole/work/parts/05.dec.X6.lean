theorem dX6_init_0 : decode cX6_init 0 = .ok (.aload_n 0, 1) := by decide +kernel
theorem dX6_init_1 : decode cX6_init 1 = .ok (.invokespecial 3, 3) := by decide +kernel
theorem dX6_init_4 : decode cX6_init 4 = .ok (.aload_n 0, 1) := by decide +kernel
theorem dX6_init_5 : decode cX6_init 5 = .ok (.new 9, 3) := by decide +kernel
theorem dX6_init_8 : decode cX6_init 8 = .ok (.dup, 1) := by decide +kernel
theorem dX6_init_9 : decode cX6_init 9 = .ok (.invokespecial 11, 3) := by decide +kernel
theorem dX6_init_12 : decode cX6_init 12 = .ok (.putfield 12, 3) := by decide +kernel
theorem dX6_init_15 : decode cX6_init 15 = .ok (.aload_n 0, 1) := by decide +kernel
theorem dX6_init_16 : decode cX6_init 16 = .ok (.new 16, 3) := by decide +kernel
theorem dX6_init_19 : decode cX6_init 19 = .ok (.dup, 1) := by decide +kernel
theorem dX6_init_20 : decode cX6_init 20 = .ok (.invokespecial 18, 3) := by decide +kernel
theorem dX6_init_23 : decode cX6_init 23 = .ok (.putfield 19, 3) := by decide +kernel
theorem dX6_init_26 : decode cX6_init 26 = .ok (.aload_n 0, 1) := by decide +kernel
theorem dX6_init_27 : decode cX6_init 27 = .ok (.new 23, 3) := by decide +kernel
theorem dX6_init_30 : decode cX6_init 30 = .ok (.dup, 1) := by decide +kernel
theorem dX6_init_31 : decode cX6_init 31 = .ok (.invokespecial 25, 3) := by decide +kernel
theorem dX6_init_34 : decode cX6_init 34 = .ok (.putfield 26, 3) := by decide +kernel
theorem dX6_init_37 : decode cX6_init 37 = .ok (.return_, 1) := by decide +kernel
theorem dX6_put_0 : decode cX6_put 0 = .ok (.iload_n 1, 1) := by decide +kernel
theorem dX6_put_1 : decode cX6_put 1 = .ok (.bipush 10, 2) := by decide +kernel
theorem dX6_put_3 : decode cX6_put 3 = .ok (.invokestatic 30, 3) := by decide +kernel
theorem dX6_put_6 : decode cX6_put 6 = .ok (.ifCond .eq 13, 3) := by decide +kernel
theorem dX6_put_9 : decode cX6_put 9 = .ok (.new 34, 3) := by decide +kernel
theorem dX6_put_12 : decode cX6_put 12 = .ok (.dup, 1) := by decide +kernel
theorem dX6_put_13 : decode cX6_put 13 = .ok (.ldc 36, 2) := by decide +kernel
theorem dX6_put_15 : decode cX6_put 15 = .ok (.invokespecial 38, 3) := by decide +kernel
theorem dX6_put_18 : decode cX6_put 18 = .ok (.athrow, 1) := by decide +kernel
theorem dX6_put_19 : decode cX6_put 19 = .ok (.aload_n 0, 1) := by decide +kernel
theorem dX6_put_20 : decode cX6_put 20 = .ok (.getfield 12, 3) := by decide +kernel
theorem dX6_put_23 : decode cX6_put 23 = .ok (.getfield 41, 3) := by decide +kernel
theorem dX6_put_26 : decode cX6_put 26 = .ok (.invokevirtual 45, 3) := by decide +kernel
theorem dX6_put_29 : decode cX6_put 29 = .ok (.ifCond .ne 13, 3) := by decide +kernel
theorem dX6_put_32 : decode cX6_put 32 = .ok (.new 51, 3) := by decide +kernel
theorem dX6_put_35 : decode cX6_put 35 = .ok (.dup, 1) := by decide +kernel
theorem dX6_put_36 : decode cX6_put 36 = .ok (.ldc 53, 2) := by decide +kernel
theorem dX6_put_38 : decode cX6_put 38 = .ok (.invokespecial 55, 3) := by decide +kernel
theorem dX6_put_41 : decode cX6_put 41 = .ok (.athrow, 1) := by decide +kernel
theorem dX6_put_42 : decode cX6_put 42 = .ok (.aload_n 0, 1) := by decide +kernel
theorem dX6_put_43 : decode cX6_put 43 = .ok (.getfield 19, 3) := by decide +kernel
theorem dX6_put_46 : decode cX6_put 46 = .ok (.aload_n 0, 1) := by decide +kernel
theorem dX6_put_47 : decode cX6_put 47 = .ok (.getfield 12, 3) := by decide +kernel
theorem dX6_put_50 : decode cX6_put 50 = .ok (.invokevirtual 56, 3) := by decide +kernel
theorem dX6_put_53 : decode cX6_put 53 = .ok (.aload_n 0, 1) := by decide +kernel
theorem dX6_put_54 : decode cX6_put 54 = .ok (.getfield 12, 3) := by decide +kernel
theorem dX6_put_57 : decode cX6_put 57 = .ok (.getfield 41, 3) := by decide +kernel
theorem dX6_put_60 : decode cX6_put 60 = .ok (.iload_n 1, 1) := by decide +kernel
theorem dX6_put_61 : decode cX6_put 61 = .ok (.invokevirtual 60, 3) := by decide +kernel
theorem dX6_put_64 : decode cX6_put 64 = .ok (.ireturn, 1) := by decide +kernel
theorem dX6_take_0 : decode cX6_take 0 = .ok (.iload_n 1, 1) := by decide +kernel
theorem dX6_take_1 : decode cX6_take 1 = .ok (.bipush 24, 2) := by decide +kernel
theorem dX6_take_3 : decode cX6_take 3 = .ok (.invokestatic 30, 3) := by decide +kernel
theorem dX6_take_6 : decode cX6_take 6 = .ok (.ifCond .eq 13, 3) := by decide +kernel
theorem dX6_take_9 : decode cX6_take 9 = .ok (.new 64, 3) := by decide +kernel
theorem dX6_take_12 : decode cX6_take 12 = .ok (.dup, 1) := by decide +kernel
theorem dX6_take_13 : decode cX6_take 13 = .ok (.ldc 66, 2) := by decide +kernel
theorem dX6_take_15 : decode cX6_take 15 = .ok (.invokespecial 68, 3) := by decide +kernel
theorem dX6_take_18 : decode cX6_take 18 = .ok (.athrow, 1) := by decide +kernel
theorem dX6_take_19 : decode cX6_take 19 = .ok (.aload_n 0, 1) := by decide +kernel
theorem dX6_take_20 : decode cX6_take 20 = .ok (.getfield 12, 3) := by decide +kernel
theorem dX6_take_23 : decode cX6_take 23 = .ok (.getfield 41, 3) := by decide +kernel
theorem dX6_take_26 : decode cX6_take 26 = .ok (.iload_n 1, 1) := by decide +kernel
theorem dX6_take_27 : decode cX6_take 27 = .ok (.invokevirtual 69, 3) := by decide +kernel
theorem dX6_take_30 : decode cX6_take 30 = .ok (.ifCond .ne 13, 3) := by decide +kernel
theorem dX6_take_33 : decode cX6_take 33 = .ok (.new 51, 3) := by decide +kernel
theorem dX6_take_36 : decode cX6_take 36 = .ok (.dup, 1) := by decide +kernel
theorem dX6_take_37 : decode cX6_take 37 = .ok (.ldc 73, 2) := by decide +kernel
theorem dX6_take_39 : decode cX6_take 39 = .ok (.invokespecial 55, 3) := by decide +kernel
theorem dX6_take_42 : decode cX6_take 42 = .ok (.athrow, 1) := by decide +kernel
theorem dX6_take_43 : decode cX6_take 43 = .ok (.aload_n 0, 1) := by decide +kernel
theorem dX6_take_44 : decode cX6_take 44 = .ok (.getfield 19, 3) := by decide +kernel
theorem dX6_take_47 : decode cX6_take 47 = .ok (.aload_n 0, 1) := by decide +kernel
theorem dX6_take_48 : decode cX6_take 48 = .ok (.getfield 12, 3) := by decide +kernel
theorem dX6_take_51 : decode cX6_take 51 = .ok (.invokevirtual 56, 3) := by decide +kernel
theorem dX6_take_54 : decode cX6_take 54 = .ok (.aload_n 0, 1) := by decide +kernel
theorem dX6_take_55 : decode cX6_take 55 = .ok (.getfield 12, 3) := by decide +kernel
theorem dX6_take_58 : decode cX6_take 58 = .ok (.getfield 41, 3) := by decide +kernel
theorem dX6_take_61 : decode cX6_take 61 = .ok (.iload_n 1, 1) := by decide +kernel
theorem dX6_take_62 : decode cX6_take 62 = .ok (.invokevirtual 75, 3) := by decide +kernel
theorem dX6_take_65 : decode cX6_take 65 = .ok (.pop, 1) := by decide +kernel
theorem dX6_take_66 : decode cX6_take 66 = .ok (.aload_n 0, 1) := by decide +kernel
theorem dX6_take_67 : decode cX6_take 67 = .ok (.getfield 12, 3) := by decide +kernel
theorem dX6_take_70 : decode cX6_take 70 = .ok (.getfield 41, 3) := by decide +kernel
theorem dX6_take_73 : decode cX6_take 73 = .ok (.getfield 78, 3) := by decide +kernel
theorem dX6_take_76 : decode cX6_take 76 = .ok (.iload_n 1, 1) := by decide +kernel
theorem dX6_take_77 : decode cX6_take 77 = .ok (.iaload, 1) := by decide +kernel
theorem dX6_take_78 : decode cX6_take 78 = .ok (.ireturn, 1) := by decide +kernel
theorem dX6_change_0 : decode cX6_change 0 = .ok (.iload_n 1, 1) := by decide +kernel
theorem dX6_change_1 : decode cX6_change 1 = .ok (.bipush 24, 2) := by decide +kernel
theorem dX6_change_3 : decode cX6_change 3 = .ok (.invokestatic 30, 3) := by decide +kernel
theorem dX6_change_6 : decode cX6_change 6 = .ok (.ifCond .eq 13, 3) := by decide +kernel
theorem dX6_change_9 : decode cX6_change 9 = .ok (.new 64, 3) := by decide +kernel
theorem dX6_change_12 : decode cX6_change 12 = .ok (.dup, 1) := by decide +kernel
theorem dX6_change_13 : decode cX6_change 13 = .ok (.ldc 66, 2) := by decide +kernel
theorem dX6_change_15 : decode cX6_change 15 = .ok (.invokespecial 68, 3) := by decide +kernel
theorem dX6_change_18 : decode cX6_change 18 = .ok (.athrow, 1) := by decide +kernel
theorem dX6_change_19 : decode cX6_change 19 = .ok (.iload_n 2, 1) := by decide +kernel
theorem dX6_change_20 : decode cX6_change 20 = .ok (.bipush 10, 2) := by decide +kernel
theorem dX6_change_22 : decode cX6_change 22 = .ok (.invokestatic 30, 3) := by decide +kernel
theorem dX6_change_25 : decode cX6_change 25 = .ok (.ifCond .eq 13, 3) := by decide +kernel
theorem dX6_change_28 : decode cX6_change 28 = .ok (.new 34, 3) := by decide +kernel
theorem dX6_change_31 : decode cX6_change 31 = .ok (.dup, 1) := by decide +kernel
theorem dX6_change_32 : decode cX6_change 32 = .ok (.ldc 36, 2) := by decide +kernel
theorem dX6_change_34 : decode cX6_change 34 = .ok (.invokespecial 38, 3) := by decide +kernel
theorem dX6_change_37 : decode cX6_change 37 = .ok (.athrow, 1) := by decide +kernel
theorem dX6_change_38 : decode cX6_change 38 = .ok (.aload_n 0, 1) := by decide +kernel
theorem dX6_change_39 : decode cX6_change 39 = .ok (.getfield 12, 3) := by decide +kernel
theorem dX6_change_42 : decode cX6_change 42 = .ok (.getfield 41, 3) := by decide +kernel
theorem dX6_change_45 : decode cX6_change 45 = .ok (.iload_n 1, 1) := by decide +kernel
theorem dX6_change_46 : decode cX6_change 46 = .ok (.invokevirtual 69, 3) := by decide +kernel
theorem dX6_change_49 : decode cX6_change 49 = .ok (.ifCond .eq 16, 3) := by decide +kernel
theorem dX6_change_52 : decode cX6_change 52 = .ok (.aload_n 0, 1) := by decide +kernel
theorem dX6_change_53 : decode cX6_change 53 = .ok (.getfield 12, 3) := by decide +kernel
theorem dX6_change_56 : decode cX6_change 56 = .ok (.getfield 41, 3) := by decide +kernel
theorem dX6_change_59 : decode cX6_change 59 = .ok (.invokevirtual 45, 3) := by decide +kernel
theorem dX6_change_62 : decode cX6_change 62 = .ok (.ifCond .ne 13, 3) := by decide +kernel
theorem dX6_change_65 : decode cX6_change 65 = .ok (.new 51, 3) := by decide +kernel
theorem dX6_change_68 : decode cX6_change 68 = .ok (.dup, 1) := by decide +kernel
theorem dX6_change_69 : decode cX6_change 69 = .ok (.ldc 82, 2) := by decide +kernel
theorem dX6_change_71 : decode cX6_change 71 = .ok (.invokespecial 55, 3) := by decide +kernel
theorem dX6_change_74 : decode cX6_change 74 = .ok (.athrow, 1) := by decide +kernel
theorem dX6_change_75 : decode cX6_change 75 = .ok (.aload_n 0, 1) := by decide +kernel
theorem dX6_change_76 : decode cX6_change 76 = .ok (.getfield 19, 3) := by decide +kernel
theorem dX6_change_79 : decode cX6_change 79 = .ok (.aload_n 0, 1) := by decide +kernel
theorem dX6_change_80 : decode cX6_change 80 = .ok (.getfield 12, 3) := by decide +kernel
theorem dX6_change_83 : decode cX6_change 83 = .ok (.invokevirtual 56, 3) := by decide +kernel
theorem dX6_change_86 : decode cX6_change 86 = .ok (.aload_n 0, 1) := by decide +kernel
theorem dX6_change_87 : decode cX6_change 87 = .ok (.getfield 12, 3) := by decide +kernel
theorem dX6_change_90 : decode cX6_change 90 = .ok (.getfield 41, 3) := by decide +kernel
theorem dX6_change_93 : decode cX6_change 93 = .ok (.iload_n 1, 1) := by decide +kernel
theorem dX6_change_94 : decode cX6_change 94 = .ok (.iload_n 2, 1) := by decide +kernel
theorem dX6_change_95 : decode cX6_change 95 = .ok (.invokevirtual 84, 3) := by decide +kernel
theorem dX6_change_98 : decode cX6_change 98 = .ok (.ireturn, 1) := by decide +kernel
theorem dX6_open_0 : decode cX6_open 0 = .ok (.iload_n 1, 1) := by decide +kernel
theorem dX6_open_1 : decode cX6_open 1 = .ok (.iconst 4, 1) := by decide +kernel
theorem dX6_open_2 : decode cX6_open 2 = .ok (.invokestatic 30, 3) := by decide +kernel
theorem dX6_open_5 : decode cX6_open 5 = .ok (.ifCond .eq 13, 3) := by decide +kernel
theorem dX6_open_8 : decode cX6_open 8 = .ok (.new 64, 3) := by decide +kernel
theorem dX6_open_11 : decode cX6_open 11 = .ok (.dup, 1) := by decide +kernel
theorem dX6_open_12 : decode cX6_open 12 = .ok (.ldc 88, 2) := by decide +kernel
theorem dX6_open_14 : decode cX6_open 14 = .ok (.invokespecial 68, 3) := by decide +kernel
theorem dX6_open_17 : decode cX6_open 17 = .ok (.athrow, 1) := by decide +kernel
theorem dX6_open_18 : decode cX6_open 18 = .ok (.aload_n 0, 1) := by decide +kernel
theorem dX6_open_19 : decode cX6_open 19 = .ok (.getfield 19, 3) := by decide +kernel
theorem dX6_open_22 : decode cX6_open 22 = .ok (.aload_n 0, 1) := by decide +kernel
theorem dX6_open_23 : decode cX6_open 23 = .ok (.getfield 12, 3) := by decide +kernel
theorem dX6_open_26 : decode cX6_open 26 = .ok (.invokevirtual 56, 3) := by decide +kernel
theorem dX6_open_29 : decode cX6_open 29 = .ok (.aload_n 0, 1) := by decide +kernel
theorem dX6_open_30 : decode cX6_open 30 = .ok (.getfield 12, 3) := by decide +kernel
theorem dX6_open_33 : decode cX6_open 33 = .ok (.getfield 90, 3) := by decide +kernel
theorem dX6_open_36 : decode cX6_open 36 = .ok (.getfield 94, 3) := by decide +kernel
theorem dX6_open_39 : decode cX6_open 39 = .ok (.iload_n 1, 1) := by decide +kernel
theorem dX6_open_40 : decode cX6_open 40 = .ok (.aload_n 0, 1) := by decide +kernel
theorem dX6_open_41 : decode cX6_open 41 = .ok (.getfield 12, 3) := by decide +kernel
theorem dX6_open_44 : decode cX6_open 44 = .ok (.getfield 41, 3) := by decide +kernel
theorem dX6_open_47 : decode cX6_open 47 = .ok (.getfield 99, 3) := by decide +kernel
theorem dX6_open_50 : decode cX6_open 50 = .ok (.iastore, 1) := by decide +kernel
theorem dX6_open_51 : decode cX6_open 51 = .ok (.aload_n 0, 1) := by decide +kernel
theorem dX6_open_52 : decode cX6_open 52 = .ok (.getfield 12, 3) := by decide +kernel
theorem dX6_open_55 : decode cX6_open 55 = .ok (.getfield 41, 3) := by decide +kernel
theorem dX6_open_58 : decode cX6_open 58 = .ok (.getfield 99, 3) := by decide +kernel
theorem dX6_open_61 : decode cX6_open 61 = .ok (.ireturn, 1) := by decide +kernel
theorem dX6_close_0 : decode cX6_close 0 = .ok (.iload_n 1, 1) := by decide +kernel
theorem dX6_close_1 : decode cX6_close 1 = .ok (.iconst 4, 1) := by decide +kernel
theorem dX6_close_2 : decode cX6_close 2 = .ok (.invokestatic 30, 3) := by decide +kernel
theorem dX6_close_5 : decode cX6_close 5 = .ok (.ifCond .eq 13, 3) := by decide +kernel
theorem dX6_close_8 : decode cX6_close 8 = .ok (.new 64, 3) := by decide +kernel
theorem dX6_close_11 : decode cX6_close 11 = .ok (.dup, 1) := by decide +kernel
theorem dX6_close_12 : decode cX6_close 12 = .ok (.ldc 88, 2) := by decide +kernel
theorem dX6_close_14 : decode cX6_close 14 = .ok (.invokespecial 68, 3) := by decide +kernel
theorem dX6_close_17 : decode cX6_close 17 = .ok (.athrow, 1) := by decide +kernel
theorem dX6_close_18 : decode cX6_close 18 = .ok (.aload_n 0, 1) := by decide +kernel
theorem dX6_close_19 : decode cX6_close 19 = .ok (.getfield 12, 3) := by decide +kernel
theorem dX6_close_22 : decode cX6_close 22 = .ok (.getfield 90, 3) := by decide +kernel
theorem dX6_close_25 : decode cX6_close 25 = .ok (.getfield 94, 3) := by decide +kernel
theorem dX6_close_28 : decode cX6_close 28 = .ok (.iload_n 1, 1) := by decide +kernel
theorem dX6_close_29 : decode cX6_close 29 = .ok (.iaload, 1) := by decide +kernel
theorem dX6_close_30 : decode cX6_close 30 = .ok (.istore_n 2, 1) := by decide +kernel
theorem dX6_close_31 : decode cX6_close 31 = .ok (.iload_n 2, 1) := by decide +kernel
theorem dX6_close_32 : decode cX6_close 32 = .ok (.iconst (-1), 1) := by decide +kernel
theorem dX6_close_33 : decode cX6_close 33 = .ok (.if_icmp .ne 13, 3) := by decide +kernel
theorem dX6_close_36 : decode cX6_close 36 = .ok (.new 51, 3) := by decide +kernel
theorem dX6_close_39 : decode cX6_close 39 = .ok (.dup, 1) := by decide +kernel
theorem dX6_close_40 : decode cX6_close 40 = .ok (.ldc 103, 2) := by decide +kernel
theorem dX6_close_42 : decode cX6_close 42 = .ok (.invokespecial 55, 3) := by decide +kernel
theorem dX6_close_45 : decode cX6_close 45 = .ok (.athrow, 1) := by decide +kernel
theorem dX6_close_46 : decode cX6_close 46 = .ok (.aload_n 0, 1) := by decide +kernel
theorem dX6_close_47 : decode cX6_close 47 = .ok (.getfield 19, 3) := by decide +kernel
theorem dX6_close_50 : decode cX6_close 50 = .ok (.aload_n 0, 1) := by decide +kernel
theorem dX6_close_51 : decode cX6_close 51 = .ok (.getfield 12, 3) := by decide +kernel
theorem dX6_close_54 : decode cX6_close 54 = .ok (.invokevirtual 56, 3) := by decide +kernel
theorem dX6_close_57 : decode cX6_close 57 = .ok (.aload_n 0, 1) := by decide +kernel
theorem dX6_close_58 : decode cX6_close 58 = .ok (.getfield 12, 3) := by decide +kernel
theorem dX6_close_61 : decode cX6_close 61 = .ok (.getfield 90, 3) := by decide +kernel
theorem dX6_close_64 : decode cX6_close 64 = .ok (.getfield 94, 3) := by decide +kernel
theorem dX6_close_67 : decode cX6_close 67 = .ok (.iload_n 1, 1) := by decide +kernel
theorem dX6_close_68 : decode cX6_close 68 = .ok (.iconst (-1), 1) := by decide +kernel
theorem dX6_close_69 : decode cX6_close 69 = .ok (.iastore, 1) := by decide +kernel
theorem dX6_close_70 : decode cX6_close 70 = .ok (.iload_n 2, 1) := by decide +kernel
theorem dX6_close_71 : decode cX6_close 71 = .ok (.ireturn, 1) := by decide +kernel
theorem dX6_sweep_0 : decode cX6_sweep 0 = .ok (.iload_n 1, 1) := by decide +kernel
theorem dX6_sweep_1 : decode cX6_sweep 1 = .ok (.bipush 6, 2) := by decide +kernel
theorem dX6_sweep_3 : decode cX6_sweep 3 = .ok (.invokestatic 30, 3) := by decide +kernel
theorem dX6_sweep_6 : decode cX6_sweep 6 = .ok (.ifCond .eq 13, 3) := by decide +kernel
theorem dX6_sweep_9 : decode cX6_sweep 9 = .ok (.new 64, 3) := by decide +kernel
theorem dX6_sweep_12 : decode cX6_sweep 12 = .ok (.dup, 1) := by decide +kernel
theorem dX6_sweep_13 : decode cX6_sweep 13 = .ok (.ldc 105, 2) := by decide +kernel
theorem dX6_sweep_15 : decode cX6_sweep 15 = .ok (.invokespecial 68, 3) := by decide +kernel
theorem dX6_sweep_18 : decode cX6_sweep 18 = .ok (.athrow, 1) := by decide +kernel
theorem dX6_sweep_19 : decode cX6_sweep 19 = .ok (.aload_n 0, 1) := by decide +kernel
theorem dX6_sweep_20 : decode cX6_sweep 20 = .ok (.getfield 19, 3) := by decide +kernel
theorem dX6_sweep_23 : decode cX6_sweep 23 = .ok (.aload_n 0, 1) := by decide +kernel
theorem dX6_sweep_24 : decode cX6_sweep 24 = .ok (.getfield 12, 3) := by decide +kernel
theorem dX6_sweep_27 : decode cX6_sweep 27 = .ok (.invokevirtual 56, 3) := by decide +kernel
theorem dX6_sweep_30 : decode cX6_sweep 30 = .ok (.aload_n 0, 1) := by decide +kernel
theorem dX6_sweep_31 : decode cX6_sweep 31 = .ok (.getfield 12, 3) := by decide +kernel
theorem dX6_sweep_34 : decode cX6_sweep 34 = .ok (.getfield 41, 3) := by decide +kernel
theorem dX6_sweep_37 : decode cX6_sweep 37 = .ok (.iload_n 1, 1) := by decide +kernel
theorem dX6_sweep_38 : decode cX6_sweep 38 = .ok (.aload_n 0, 1) := by decide +kernel
theorem dX6_sweep_39 : decode cX6_sweep 39 = .ok (.getfield 12, 3) := by decide +kernel
theorem dX6_sweep_42 : decode cX6_sweep 42 = .ok (.invokevirtual 107, 3) := by decide +kernel
theorem dX6_sweep_45 : decode cX6_sweep 45 = .ok (.invokevirtual 111, 3) := by decide +kernel
theorem dX6_sweep_48 : decode cX6_sweep 48 = .ok (.ireturn, 1) := by decide +kernel
theorem dX6_sweepAll_0 : decode cX6_sweepAll 0 = .ok (.aload_n 0, 1) := by decide +kernel
theorem dX6_sweepAll_1 : decode cX6_sweepAll 1 = .ok (.getfield 19, 3) := by decide +kernel
theorem dX6_sweepAll_4 : decode cX6_sweepAll 4 = .ok (.aload_n 0, 1) := by decide +kernel
theorem dX6_sweepAll_5 : decode cX6_sweepAll 5 = .ok (.getfield 12, 3) := by decide +kernel
theorem dX6_sweepAll_8 : decode cX6_sweepAll 8 = .ok (.invokevirtual 56, 3) := by decide +kernel
theorem dX6_sweepAll_11 : decode cX6_sweepAll 11 = .ok (.aload_n 0, 1) := by decide +kernel
theorem dX6_sweepAll_12 : decode cX6_sweepAll 12 = .ok (.getfield 12, 3) := by decide +kernel
theorem dX6_sweepAll_15 : decode cX6_sweepAll 15 = .ok (.invokevirtual 107, 3) := by decide +kernel
theorem dX6_sweepAll_18 : decode cX6_sweepAll 18 = .ok (.istore_n 1, 1) := by decide +kernel
theorem dX6_sweepAll_19 : decode cX6_sweepAll 19 = .ok (.iconst 0, 1) := by decide +kernel
theorem dX6_sweepAll_20 : decode cX6_sweepAll 20 = .ok (.istore_n 2, 1) := by decide +kernel
theorem dX6_sweepAll_21 : decode cX6_sweepAll 21 = .ok (.iload_n 2, 1) := by decide +kernel
theorem dX6_sweepAll_22 : decode cX6_sweepAll 22 = .ok (.bipush 6, 2) := by decide +kernel
theorem dX6_sweepAll_24 : decode cX6_sweepAll 24 = .ok (.if_icmp .ge 22, 3) := by decide +kernel
theorem dX6_sweepAll_27 : decode cX6_sweepAll 27 = .ok (.aload_n 0, 1) := by decide +kernel
theorem dX6_sweepAll_28 : decode cX6_sweepAll 28 = .ok (.getfield 12, 3) := by decide +kernel
theorem dX6_sweepAll_31 : decode cX6_sweepAll 31 = .ok (.getfield 41, 3) := by decide +kernel
theorem dX6_sweepAll_34 : decode cX6_sweepAll 34 = .ok (.iload_n 2, 1) := by decide +kernel
theorem dX6_sweepAll_35 : decode cX6_sweepAll 35 = .ok (.iload_n 1, 1) := by decide +kernel
theorem dX6_sweepAll_36 : decode cX6_sweepAll 36 = .ok (.invokevirtual 111, 3) := by decide +kernel
theorem dX6_sweepAll_39 : decode cX6_sweepAll 39 = .ok (.pop, 1) := by decide +kernel
theorem dX6_sweepAll_40 : decode cX6_sweepAll 40 = .ok (.iinc 2 1, 3) := by decide +kernel
theorem dX6_sweepAll_43 : decode cX6_sweepAll 43 = .ok (.goto (-22), 3) := by decide +kernel
theorem dX6_sweepAll_46 : decode cX6_sweepAll 46 = .ok (.aload_n 0, 1) := by decide +kernel
theorem dX6_sweepAll_47 : decode cX6_sweepAll 47 = .ok (.getfield 12, 3) := by decide +kernel
theorem dX6_sweepAll_50 : decode cX6_sweepAll 50 = .ok (.getfield 41, 3) := by decide +kernel
theorem dX6_sweepAll_53 : decode cX6_sweepAll 53 = .ok (.invokevirtual 114, 3) := by decide +kernel
theorem dX6_sweepAll_56 : decode cX6_sweepAll 56 = .ok (.ireturn, 1) := by decide +kernel
theorem dX6_ask_0 : decode cX6_ask 0 = .ok (.iload_n 1, 1) := by decide +kernel
theorem dX6_ask_1 : decode cX6_ask 1 = .ok (.iconst 4, 1) := by decide +kernel
theorem dX6_ask_2 : decode cX6_ask 2 = .ok (.invokestatic 30, 3) := by decide +kernel
theorem dX6_ask_5 : decode cX6_ask 5 = .ok (.ifCond .eq 13, 3) := by decide +kernel
theorem dX6_ask_8 : decode cX6_ask 8 = .ok (.new 64, 3) := by decide +kernel
theorem dX6_ask_11 : decode cX6_ask 11 = .ok (.dup, 1) := by decide +kernel
theorem dX6_ask_12 : decode cX6_ask 12 = .ok (.ldc 88, 2) := by decide +kernel
theorem dX6_ask_14 : decode cX6_ask 14 = .ok (.invokespecial 68, 3) := by decide +kernel
theorem dX6_ask_17 : decode cX6_ask 17 = .ok (.athrow, 1) := by decide +kernel
theorem dX6_ask_18 : decode cX6_ask 18 = .ok (.iload_n 2, 1) := by decide +kernel
theorem dX6_ask_19 : decode cX6_ask 19 = .ok (.bipush 10, 2) := by decide +kernel
theorem dX6_ask_21 : decode cX6_ask 21 = .ok (.invokestatic 30, 3) := by decide +kernel
theorem dX6_ask_24 : decode cX6_ask 24 = .ok (.ifCond .ne 11, 3) := by decide +kernel
theorem dX6_ask_27 : decode cX6_ask 27 = .ok (.iload_n 3, 1) := by decide +kernel
theorem dX6_ask_28 : decode cX6_ask 28 = .ok (.iconst 3, 1) := by decide +kernel
theorem dX6_ask_29 : decode cX6_ask 29 = .ok (.invokestatic 30, 3) := by decide +kernel
theorem dX6_ask_32 : decode cX6_ask 32 = .ok (.ifCond .eq 13, 3) := by decide +kernel
theorem dX6_ask_35 : decode cX6_ask 35 = .ok (.new 34, 3) := by decide +kernel
theorem dX6_ask_38 : decode cX6_ask 38 = .ok (.dup, 1) := by decide +kernel
theorem dX6_ask_39 : decode cX6_ask 39 = .ok (.ldc 117, 2) := by decide +kernel
theorem dX6_ask_41 : decode cX6_ask 41 = .ok (.invokespecial 38, 3) := by decide +kernel
theorem dX6_ask_44 : decode cX6_ask 44 = .ok (.athrow, 1) := by decide +kernel
theorem dX6_ask_45 : decode cX6_ask 45 = .ok (.aload_n 0, 1) := by decide +kernel
theorem dX6_ask_46 : decode cX6_ask 46 = .ok (.getfield 12, 3) := by decide +kernel
theorem dX6_ask_49 : decode cX6_ask 49 = .ok (.getfield 90, 3) := by decide +kernel
theorem dX6_ask_52 : decode cX6_ask 52 = .ok (.getfield 94, 3) := by decide +kernel
theorem dX6_ask_55 : decode cX6_ask 55 = .ok (.iload_n 1, 1) := by decide +kernel
theorem dX6_ask_56 : decode cX6_ask 56 = .ok (.iaload, 1) := by decide +kernel
theorem dX6_ask_57 : decode cX6_ask 57 = .ok (.istore 4, 2) := by decide +kernel
theorem dX6_ask_59 : decode cX6_ask 59 = .ok (.iload 4, 2) := by decide +kernel
theorem dX6_ask_61 : decode cX6_ask 61 = .ok (.iconst (-1), 1) := by decide +kernel
theorem dX6_ask_62 : decode cX6_ask 62 = .ok (.if_icmp .ne 13, 3) := by decide +kernel
theorem dX6_ask_65 : decode cX6_ask 65 = .ok (.new 51, 3) := by decide +kernel
theorem dX6_ask_68 : decode cX6_ask 68 = .ok (.dup, 1) := by decide +kernel
theorem dX6_ask_69 : decode cX6_ask 69 = .ok (.ldc 103, 2) := by decide +kernel
theorem dX6_ask_71 : decode cX6_ask 71 = .ok (.invokespecial 55, 3) := by decide +kernel
theorem dX6_ask_74 : decode cX6_ask 74 = .ok (.athrow, 1) := by decide +kernel
theorem dX6_ask_75 : decode cX6_ask 75 = .ok (.aload_n 0, 1) := by decide +kernel
theorem dX6_ask_76 : decode cX6_ask 76 = .ok (.getfield 19, 3) := by decide +kernel
theorem dX6_ask_79 : decode cX6_ask 79 = .ok (.aload_n 0, 1) := by decide +kernel
theorem dX6_ask_80 : decode cX6_ask 80 = .ok (.getfield 12, 3) := by decide +kernel
theorem dX6_ask_83 : decode cX6_ask 83 = .ok (.invokevirtual 56, 3) := by decide +kernel
theorem dX6_ask_86 : decode cX6_ask 86 = .ok (.aload_n 0, 1) := by decide +kernel
theorem dX6_ask_87 : decode cX6_ask 87 = .ok (.getfield 12, 3) := by decide +kernel
theorem dX6_ask_90 : decode cX6_ask 90 = .ok (.getfield 90, 3) := by decide +kernel
theorem dX6_ask_93 : decode cX6_ask 93 = .ok (.getfield 119, 3) := by decide +kernel
theorem dX6_ask_96 : decode cX6_ask 96 = .ok (.iload_n 1, 1) := by decide +kernel
theorem dX6_ask_97 : decode cX6_ask 97 = .ok (.dup2, 1) := by decide +kernel
theorem dX6_ask_98 : decode cX6_ask 98 = .ok (.iaload, 1) := by decide +kernel
theorem dX6_ask_99 : decode cX6_ask 99 = .ok (.iconst 1, 1) := by decide +kernel
theorem dX6_ask_100 : decode cX6_ask 100 = .ok (.iadd, 1) := by decide +kernel
theorem dX6_ask_101 : decode cX6_ask 101 = .ok (.iastore, 1) := by decide +kernel
theorem dX6_ask_102 : decode cX6_ask 102 = .ok (.aload_n 0, 1) := by decide +kernel
theorem dX6_ask_103 : decode cX6_ask 103 = .ok (.getfield 12, 3) := by decide +kernel
theorem dX6_ask_106 : decode cX6_ask 106 = .ok (.getfield 122, 3) := by decide +kernel
theorem dX6_ask_109 : decode cX6_ask 109 = .ok (.iload_n 3, 1) := by decide +kernel
theorem dX6_ask_110 : decode cX6_ask 110 = .ok (.aload_n 0, 1) := by decide +kernel
theorem dX6_ask_111 : decode cX6_ask 111 = .ok (.getfield 12, 3) := by decide +kernel
theorem dX6_ask_114 : decode cX6_ask 114 = .ok (.getfield 41, 3) := by decide +kernel
theorem dX6_ask_117 : decode cX6_ask 117 = .ok (.iload 4, 2) := by decide +kernel
theorem dX6_ask_119 : decode cX6_ask 119 = .ok (.iload_n 2, 1) := by decide +kernel
theorem dX6_ask_120 : decode cX6_ask 120 = .ok (.iload_n 3, 1) := by decide +kernel
theorem dX6_ask_121 : decode cX6_ask 121 = .ok (.invokevirtual 126, 3) := by decide +kernel
theorem dX6_ask_124 : decode cX6_ask 124 = .ok (.aload_n 0, 1) := by decide +kernel
theorem dX6_ask_125 : decode cX6_ask 125 = .ok (.getfield 12, 3) := by decide +kernel
theorem dX6_ask_128 : decode cX6_ask 128 = .ok (.getfield 41, 3) := by decide +kernel
theorem dX6_ask_131 : decode cX6_ask 131 = .ok (.iload 4, 2) := by decide +kernel
theorem dX6_ask_133 : decode cX6_ask 133 = .ok (.invokevirtual 130, 3) := by decide +kernel
theorem dX6_ask_136 : decode cX6_ask 136 = .ok (.ifCond .ne 7, 3) := by decide +kernel
theorem dX6_ask_139 : decode cX6_ask 139 = .ok (.iconst 1, 1) := by decide +kernel
theorem dX6_ask_140 : decode cX6_ask 140 = .ok (.goto 4, 3) := by decide +kernel
theorem dX6_ask_143 : decode cX6_ask 143 = .ok (.iconst 0, 1) := by decide +kernel
theorem dX6_ask_144 : decode cX6_ask 144 = .ok (.invokevirtual 133, 3) := by decide +kernel
theorem dX6_ask_147 : decode cX6_ask 147 = .ok (.aload_n 0, 1) := by decide +kernel
theorem dX6_ask_148 : decode cX6_ask 148 = .ok (.getfield 12, 3) := by decide +kernel
theorem dX6_ask_151 : decode cX6_ask 151 = .ok (.getfield 41, 3) := by decide +kernel
theorem dX6_ask_154 : decode cX6_ask 154 = .ok (.iload 4, 2) := by decide +kernel
theorem dX6_ask_156 : decode cX6_ask 156 = .ok (.iload_n 2, 1) := by decide +kernel
theorem dX6_ask_157 : decode cX6_ask 157 = .ok (.iload_n 3, 1) := by decide +kernel
theorem dX6_ask_158 : decode cX6_ask 158 = .ok (.invokevirtual 139, 3) := by decide +kernel
theorem dX6_ask_161 : decode cX6_ask 161 = .ok (.ireturn, 1) := by decide +kernel
theorem dX6_append_0 : decode cX6_append 0 = .ok (.iload_n 1, 1) := by decide +kernel
theorem dX6_append_1 : decode cX6_append 1 = .ok (.bipush 33, 2) := by decide +kernel
theorem dX6_append_3 : decode cX6_append 3 = .ok (.if_icmp .lt 9, 3) := by decide +kernel
theorem dX6_append_6 : decode cX6_append 6 = .ok (.iload_n 1, 1) := by decide +kernel
theorem dX6_append_7 : decode cX6_append 7 = .ok (.bipush 126, 2) := by decide +kernel
theorem dX6_append_9 : decode cX6_append 9 = .ok (.if_icmp .le 13, 3) := by decide +kernel
theorem dX6_append_12 : decode cX6_append 12 = .ok (.new 34, 3) := by decide +kernel
theorem dX6_append_15 : decode cX6_append 15 = .ok (.dup, 1) := by decide +kernel
theorem dX6_append_16 : decode cX6_append 16 = .ok (.ldc 142, 2) := by decide +kernel
theorem dX6_append_18 : decode cX6_append 18 = .ok (.invokespecial 38, 3) := by decide +kernel
theorem dX6_append_21 : decode cX6_append 21 = .ok (.athrow, 1) := by decide +kernel
theorem dX6_append_22 : decode cX6_append 22 = .ok (.aload_n 0, 1) := by decide +kernel
theorem dX6_append_23 : decode cX6_append 23 = .ok (.getfield 26, 3) := by decide +kernel
theorem dX6_append_26 : decode cX6_append 26 = .ok (.getfield 144, 3) := by decide +kernel
theorem dX6_append_29 : decode cX6_append 29 = .ok (.bipush 60, 2) := by decide +kernel
theorem dX6_append_31 : decode cX6_append 31 = .ok (.if_icmp .lt 13, 3) := by decide +kernel
theorem dX6_append_34 : decode cX6_append 34 = .ok (.new 51, 3) := by decide +kernel
theorem dX6_append_37 : decode cX6_append 37 = .ok (.dup, 1) := by decide +kernel
theorem dX6_append_38 : decode cX6_append 38 = .ok (.ldc 147, 2) := by decide +kernel
theorem dX6_append_40 : decode cX6_append 40 = .ok (.invokespecial 55, 3) := by decide +kernel
theorem dX6_append_43 : decode cX6_append 43 = .ok (.athrow, 1) := by decide +kernel
theorem dX6_append_44 : decode cX6_append 44 = .ok (.aload_n 0, 1) := by decide +kernel
theorem dX6_append_45 : decode cX6_append 45 = .ok (.getfield 26, 3) := by decide +kernel
theorem dX6_append_48 : decode cX6_append 48 = .ok (.iload_n 1, 1) := by decide +kernel
theorem dX6_append_49 : decode cX6_append 49 = .ok (.i2c, 1) := by decide +kernel
theorem dX6_append_50 : decode cX6_append 50 = .ok (.invokevirtual 149, 3) := by decide +kernel
theorem dX6_append_53 : decode cX6_append 53 = .ok (.ireturn, 1) := by decide +kernel
theorem dX6_clearBuffer_0 : decode cX6_clearBuffer 0 = .ok (.aload_n 0, 1) := by decide +kernel
theorem dX6_clearBuffer_1 : decode cX6_clearBuffer 1 = .ok (.getfield 26, 3) := by decide +kernel
theorem dX6_clearBuffer_4 : decode cX6_clearBuffer 4 = .ok (.invokevirtual 152, 3) := by decide +kernel
theorem dX6_clearBuffer_7 : decode cX6_clearBuffer 7 = .ok (.ireturn, 1) := by decide +kernel
theorem dX6_firstError_0 : decode cX6_firstError 0 = .ok (.aload_n 0, 1) := by decide +kernel
theorem dX6_firstError_1 : decode cX6_firstError 1 = .ok (.getfield 26, 3) := by decide +kernel
theorem dX6_firstError_4 : decode cX6_firstError 4 = .ok (.invokevirtual 155, 3) := by decide +kernel
theorem dX6_firstError_7 : decode cX6_firstError 7 = .ok (.pop, 1) := by decide +kernel
theorem dX6_firstError_8 : decode cX6_firstError 8 = .ok (.aload_n 0, 1) := by decide +kernel
theorem dX6_firstError_9 : decode cX6_firstError 9 = .ok (.getfield 26, 3) := by decide +kernel
theorem dX6_firstError_12 : decode cX6_firstError 12 = .ok (.getfield 158, 3) := by decide +kernel
theorem dX6_firstError_15 : decode cX6_firstError 15 = .ok (.ireturn, 1) := by decide +kernel
theorem dX6_play_0 : decode cX6_play 0 = .ok (.aload_n 0, 1) := by decide +kernel
theorem dX6_play_1 : decode cX6_play 1 = .ok (.getfield 26, 3) := by decide +kernel
theorem dX6_play_4 : decode cX6_play 4 = .ok (.invokevirtual 155, 3) := by decide +kernel
theorem dX6_play_7 : decode cX6_play 7 = .ok (.ifCond .ne 13, 3) := by decide +kernel
theorem dX6_play_10 : decode cX6_play 10 = .ok (.new 34, 3) := by decide +kernel
theorem dX6_play_13 : decode cX6_play 13 = .ok (.dup, 1) := by decide +kernel
theorem dX6_play_14 : decode cX6_play 14 = .ok (.ldc 161, 2) := by decide +kernel
theorem dX6_play_16 : decode cX6_play 16 = .ok (.invokespecial 38, 3) := by decide +kernel
theorem dX6_play_19 : decode cX6_play 19 = .ok (.athrow, 1) := by decide +kernel
theorem dX6_play_20 : decode cX6_play 20 = .ok (.aload_n 0, 1) := by decide +kernel
theorem dX6_play_21 : decode cX6_play 21 = .ok (.getfield 19, 3) := by decide +kernel
theorem dX6_play_24 : decode cX6_play 24 = .ok (.aload_n 0, 1) := by decide +kernel
theorem dX6_play_25 : decode cX6_play 25 = .ok (.getfield 12, 3) := by decide +kernel
theorem dX6_play_28 : decode cX6_play 28 = .ok (.invokevirtual 56, 3) := by decide +kernel
theorem dX6_play_31 : decode cX6_play 31 = .ok (.aload_n 0, 1) := by decide +kernel
theorem dX6_play_32 : decode cX6_play 32 = .ok (.invokevirtual 163, 3) := by decide +kernel
theorem dX6_play_35 : decode cX6_play 35 = .ok (.istore_n 1, 1) := by decide +kernel
theorem dX6_play_36 : decode cX6_play 36 = .ok (.aload_n 0, 1) := by decide +kernel
theorem dX6_play_37 : decode cX6_play 37 = .ok (.getfield 26, 3) := by decide +kernel
theorem dX6_play_40 : decode cX6_play 40 = .ok (.invokevirtual 152, 3) := by decide +kernel
theorem dX6_play_43 : decode cX6_play 43 = .ok (.pop, 1) := by decide +kernel
theorem dX6_play_44 : decode cX6_play 44 = .ok (.iload_n 1, 1) := by decide +kernel
theorem dX6_play_45 : decode cX6_play 45 = .ok (.ireturn, 1) := by decide +kernel
theorem dX6_undo_0 : decode cX6_undo 0 = .ok (.aload_n 0, 1) := by decide +kernel
theorem dX6_undo_1 : decode cX6_undo 1 = .ok (.getfield 19, 3) := by decide +kernel
theorem dX6_undo_4 : decode cX6_undo 4 = .ok (.getfield 166, 3) := by decide +kernel
theorem dX6_undo_7 : decode cX6_undo 7 = .ok (.ifCond .ne 13, 3) := by decide +kernel
theorem dX6_undo_10 : decode cX6_undo 10 = .ok (.new 51, 3) := by decide +kernel
theorem dX6_undo_13 : decode cX6_undo 13 = .ok (.dup, 1) := by decide +kernel
theorem dX6_undo_14 : decode cX6_undo 14 = .ok (.ldc 169, 2) := by decide +kernel
theorem dX6_undo_16 : decode cX6_undo 16 = .ok (.invokespecial 55, 3) := by decide +kernel
theorem dX6_undo_19 : decode cX6_undo 19 = .ok (.athrow, 1) := by decide +kernel
theorem dX6_undo_20 : decode cX6_undo 20 = .ok (.aload_n 0, 1) := by decide +kernel
theorem dX6_undo_21 : decode cX6_undo 21 = .ok (.getfield 19, 3) := by decide +kernel
theorem dX6_undo_24 : decode cX6_undo 24 = .ok (.aload_n 0, 1) := by decide +kernel
theorem dX6_undo_25 : decode cX6_undo 25 = .ok (.getfield 12, 3) := by decide +kernel
theorem dX6_undo_28 : decode cX6_undo 28 = .ok (.invokevirtual 171, 3) := by decide +kernel
theorem dX6_undo_31 : decode cX6_undo 31 = .ok (.aload_n 0, 1) := by decide +kernel
theorem dX6_undo_32 : decode cX6_undo 32 = .ok (.getfield 19, 3) := by decide +kernel
theorem dX6_undo_35 : decode cX6_undo 35 = .ok (.getfield 166, 3) := by decide +kernel
theorem dX6_undo_38 : decode cX6_undo 38 = .ok (.ireturn, 1) := by decide +kernel
theorem dX6_slot_0 : decode cX6_slot 0 = .ok (.iload_n 1, 1) := by decide +kernel
theorem dX6_slot_1 : decode cX6_slot 1 = .ok (.bipush 24, 2) := by decide +kernel
theorem dX6_slot_3 : decode cX6_slot 3 = .ok (.invokestatic 30, 3) := by decide +kernel
theorem dX6_slot_6 : decode cX6_slot 6 = .ok (.ifCond .eq 13, 3) := by decide +kernel
theorem dX6_slot_9 : decode cX6_slot 9 = .ok (.new 64, 3) := by decide +kernel
theorem dX6_slot_12 : decode cX6_slot 12 = .ok (.dup, 1) := by decide +kernel
theorem dX6_slot_13 : decode cX6_slot 13 = .ok (.ldc 66, 2) := by decide +kernel
theorem dX6_slot_15 : decode cX6_slot 15 = .ok (.invokespecial 68, 3) := by decide +kernel
theorem dX6_slot_18 : decode cX6_slot 18 = .ok (.athrow, 1) := by decide +kernel
theorem dX6_slot_19 : decode cX6_slot 19 = .ok (.iload_n 2, 1) := by decide +kernel
theorem dX6_slot_20 : decode cX6_slot 20 = .ok (.iconst 4, 1) := by decide +kernel
theorem dX6_slot_21 : decode cX6_slot 21 = .ok (.invokestatic 30, 3) := by decide +kernel
theorem dX6_slot_24 : decode cX6_slot 24 = .ok (.ifCond .eq 13, 3) := by decide +kernel
theorem dX6_slot_27 : decode cX6_slot 27 = .ok (.new 34, 3) := by decide +kernel
theorem dX6_slot_30 : decode cX6_slot 30 = .ok (.dup, 1) := by decide +kernel
theorem dX6_slot_31 : decode cX6_slot 31 = .ok (.ldc 174, 2) := by decide +kernel
theorem dX6_slot_33 : decode cX6_slot 33 = .ok (.invokespecial 38, 3) := by decide +kernel
theorem dX6_slot_36 : decode cX6_slot 36 = .ok (.athrow, 1) := by decide +kernel
theorem dX6_slot_37 : decode cX6_slot 37 = .ok (.aload_n 0, 1) := by decide +kernel
theorem dX6_slot_38 : decode cX6_slot 38 = .ok (.iload_n 1, 1) := by decide +kernel
theorem dX6_slot_39 : decode cX6_slot 39 = .ok (.iload_n 2, 1) := by decide +kernel
theorem dX6_slot_40 : decode cX6_slot 40 = .ok (.invokevirtual 176, 3) := by decide +kernel
theorem dX6_slot_43 : decode cX6_slot 43 = .ok (.ireturn, 1) := by decide +kernel
theorem dX6_page_0 : decode cX6_page 0 = .ok (.iload_n 1, 1) := by decide +kernel
theorem dX6_page_1 : decode cX6_page 1 = .ok (.bipush 6, 2) := by decide +kernel
theorem dX6_page_3 : decode cX6_page 3 = .ok (.invokestatic 30, 3) := by decide +kernel
theorem dX6_page_6 : decode cX6_page 6 = .ok (.ifCond .eq 13, 3) := by decide +kernel
theorem dX6_page_9 : decode cX6_page 9 = .ok (.new 64, 3) := by decide +kernel
theorem dX6_page_12 : decode cX6_page 12 = .ok (.dup, 1) := by decide +kernel
theorem dX6_page_13 : decode cX6_page 13 = .ok (.ldc 105, 2) := by decide +kernel
theorem dX6_page_15 : decode cX6_page 15 = .ok (.invokespecial 68, 3) := by decide +kernel
theorem dX6_page_18 : decode cX6_page 18 = .ok (.athrow, 1) := by decide +kernel
theorem dX6_page_19 : decode cX6_page 19 = .ok (.iload_n 2, 1) := by decide +kernel
theorem dX6_page_20 : decode cX6_page 20 = .ok (.iconst 5, 1) := by decide +kernel
theorem dX6_page_21 : decode cX6_page 21 = .ok (.invokestatic 30, 3) := by decide +kernel
theorem dX6_page_24 : decode cX6_page 24 = .ok (.ifCond .eq 13, 3) := by decide +kernel
theorem dX6_page_27 : decode cX6_page 27 = .ok (.new 34, 3) := by decide +kernel
theorem dX6_page_30 : decode cX6_page 30 = .ok (.dup, 1) := by decide +kernel
theorem dX6_page_31 : decode cX6_page 31 = .ok (.ldc 179, 2) := by decide +kernel
theorem dX6_page_33 : decode cX6_page 33 = .ok (.invokespecial 38, 3) := by decide +kernel
theorem dX6_page_36 : decode cX6_page 36 = .ok (.athrow, 1) := by decide +kernel
theorem dX6_page_37 : decode cX6_page 37 = .ok (.aload_n 0, 1) := by decide +kernel
theorem dX6_page_38 : decode cX6_page 38 = .ok (.iload_n 1, 1) := by decide +kernel
theorem dX6_page_39 : decode cX6_page 39 = .ok (.iload_n 2, 1) := by decide +kernel
theorem dX6_page_40 : decode cX6_page 40 = .ok (.invokevirtual 181, 3) := by decide +kernel
theorem dX6_page_43 : decode cX6_page 43 = .ok (.ireturn, 1) := by decide +kernel
theorem dX6_asker_0 : decode cX6_asker 0 = .ok (.iload_n 1, 1) := by decide +kernel
theorem dX6_asker_1 : decode cX6_asker 1 = .ok (.iconst 4, 1) := by decide +kernel
theorem dX6_asker_2 : decode cX6_asker 2 = .ok (.invokestatic 30, 3) := by decide +kernel
theorem dX6_asker_5 : decode cX6_asker 5 = .ok (.ifCond .eq 13, 3) := by decide +kernel
theorem dX6_asker_8 : decode cX6_asker 8 = .ok (.new 64, 3) := by decide +kernel
theorem dX6_asker_11 : decode cX6_asker 11 = .ok (.dup, 1) := by decide +kernel
theorem dX6_asker_12 : decode cX6_asker 12 = .ok (.ldc 88, 2) := by decide +kernel
theorem dX6_asker_14 : decode cX6_asker 14 = .ok (.invokespecial 68, 3) := by decide +kernel
theorem dX6_asker_17 : decode cX6_asker 17 = .ok (.athrow, 1) := by decide +kernel
theorem dX6_asker_18 : decode cX6_asker 18 = .ok (.iload_n 2, 1) := by decide +kernel
theorem dX6_asker_19 : decode cX6_asker 19 = .ok (.iconst 3, 1) := by decide +kernel
theorem dX6_asker_20 : decode cX6_asker 20 = .ok (.invokestatic 30, 3) := by decide +kernel
theorem dX6_asker_23 : decode cX6_asker 23 = .ok (.ifCond .eq 13, 3) := by decide +kernel
theorem dX6_asker_26 : decode cX6_asker 26 = .ok (.new 34, 3) := by decide +kernel
theorem dX6_asker_29 : decode cX6_asker 29 = .ok (.dup, 1) := by decide +kernel
theorem dX6_asker_30 : decode cX6_asker 30 = .ok (.ldc 184, 2) := by decide +kernel
theorem dX6_asker_32 : decode cX6_asker 32 = .ok (.invokespecial 38, 3) := by decide +kernel
theorem dX6_asker_35 : decode cX6_asker 35 = .ok (.athrow, 1) := by decide +kernel
theorem dX6_asker_36 : decode cX6_asker 36 = .ok (.aload_n 0, 1) := by decide +kernel
theorem dX6_asker_37 : decode cX6_asker 37 = .ok (.iload_n 1, 1) := by decide +kernel
theorem dX6_asker_38 : decode cX6_asker 38 = .ok (.iload_n 2, 1) := by decide +kernel
theorem dX6_asker_39 : decode cX6_asker 39 = .ok (.invokevirtual 186, 3) := by decide +kernel
theorem dX6_asker_42 : decode cX6_asker 42 = .ok (.ireturn, 1) := by decide +kernel
theorem dX6_count_0 : decode cX6_count 0 = .ok (.iload_n 1, 1) := by decide +kernel
theorem dX6_count_1 : decode cX6_count 1 = .ok (.bipush 13, 2) := by decide +kernel
theorem dX6_count_3 : decode cX6_count 3 = .ok (.invokestatic 30, 3) := by decide +kernel
theorem dX6_count_6 : decode cX6_count 6 = .ok (.ifCond .eq 13, 3) := by decide +kernel
theorem dX6_count_9 : decode cX6_count 9 = .ok (.new 34, 3) := by decide +kernel
theorem dX6_count_12 : decode cX6_count 12 = .ok (.dup, 1) := by decide +kernel
theorem dX6_count_13 : decode cX6_count 13 = .ok (.ldc 189, 2) := by decide +kernel
theorem dX6_count_15 : decode cX6_count 15 = .ok (.invokespecial 38, 3) := by decide +kernel
theorem dX6_count_18 : decode cX6_count 18 = .ok (.athrow, 1) := by decide +kernel
theorem dX6_count_19 : decode cX6_count 19 = .ok (.aload_n 0, 1) := by decide +kernel
theorem dX6_count_20 : decode cX6_count 20 = .ok (.iload_n 1, 1) := by decide +kernel
theorem dX6_count_21 : decode cX6_count 21 = .ok (.invokevirtual 191, 3) := by decide +kernel
theorem dX6_count_24 : decode cX6_count 24 = .ok (.ireturn, 1) := by decide +kernel
theorem dX6_ifAsked_0 : decode cX6_ifAsked 0 = .ok (.iload_n 1, 1) := by decide +kernel
theorem dX6_ifAsked_1 : decode cX6_ifAsked 1 = .ok (.ifCond .lt 17, 3) := by decide +kernel
theorem dX6_ifAsked_4 : decode cX6_ifAsked 4 = .ok (.iload_n 1, 1) := by decide +kernel
theorem dX6_ifAsked_5 : decode cX6_ifAsked 5 = .ok (.aload_n 0, 1) := by decide +kernel
theorem dX6_ifAsked_6 : decode cX6_ifAsked 6 = .ok (.getfield 12, 3) := by decide +kernel
theorem dX6_ifAsked_9 : decode cX6_ifAsked 9 = .ok (.getfield 41, 3) := by decide +kernel
theorem dX6_ifAsked_12 : decode cX6_ifAsked 12 = .ok (.getfield 99, 3) := by decide +kernel
theorem dX6_ifAsked_15 : decode cX6_ifAsked 15 = .ok (.if_icmp .le 13, 3) := by decide +kernel
theorem dX6_ifAsked_18 : decode cX6_ifAsked 18 = .ok (.new 34, 3) := by decide +kernel
theorem dX6_ifAsked_21 : decode cX6_ifAsked 21 = .ok (.dup, 1) := by decide +kernel
theorem dX6_ifAsked_22 : decode cX6_ifAsked 22 = .ok (.ldc 194, 2) := by decide +kernel
theorem dX6_ifAsked_24 : decode cX6_ifAsked 24 = .ok (.invokespecial 38, 3) := by decide +kernel
theorem dX6_ifAsked_27 : decode cX6_ifAsked 27 = .ok (.athrow, 1) := by decide +kernel
theorem dX6_ifAsked_28 : decode cX6_ifAsked 28 = .ok (.iload_n 2, 1) := by decide +kernel
theorem dX6_ifAsked_29 : decode cX6_ifAsked 29 = .ok (.bipush 10, 2) := by decide +kernel
theorem dX6_ifAsked_31 : decode cX6_ifAsked 31 = .ok (.invokestatic 30, 3) := by decide +kernel
theorem dX6_ifAsked_34 : decode cX6_ifAsked 34 = .ok (.ifCond .ne 11, 3) := by decide +kernel
theorem dX6_ifAsked_37 : decode cX6_ifAsked 37 = .ok (.iload_n 3, 1) := by decide +kernel
theorem dX6_ifAsked_38 : decode cX6_ifAsked 38 = .ok (.iconst 3, 1) := by decide +kernel
theorem dX6_ifAsked_39 : decode cX6_ifAsked 39 = .ok (.invokestatic 30, 3) := by decide +kernel
theorem dX6_ifAsked_42 : decode cX6_ifAsked 42 = .ok (.ifCond .eq 13, 3) := by decide +kernel
theorem dX6_ifAsked_45 : decode cX6_ifAsked 45 = .ok (.new 34, 3) := by decide +kernel
theorem dX6_ifAsked_48 : decode cX6_ifAsked 48 = .ok (.dup, 1) := by decide +kernel
theorem dX6_ifAsked_49 : decode cX6_ifAsked 49 = .ok (.ldc 117, 2) := by decide +kernel
theorem dX6_ifAsked_51 : decode cX6_ifAsked 51 = .ok (.invokespecial 38, 3) := by decide +kernel
theorem dX6_ifAsked_54 : decode cX6_ifAsked 54 = .ok (.athrow, 1) := by decide +kernel
theorem dX6_ifAsked_55 : decode cX6_ifAsked 55 = .ok (.iload 4, 2) := by decide +kernel
theorem dX6_ifAsked_57 : decode cX6_ifAsked 57 = .ok (.ifCond .ne 17, 3) := by decide +kernel
theorem dX6_ifAsked_60 : decode cX6_ifAsked 60 = .ok (.aload_n 0, 1) := by decide +kernel
theorem dX6_ifAsked_61 : decode cX6_ifAsked 61 = .ok (.getfield 12, 3) := by decide +kernel
theorem dX6_ifAsked_64 : decode cX6_ifAsked 64 = .ok (.getfield 41, 3) := by decide +kernel
theorem dX6_ifAsked_67 : decode cX6_ifAsked 67 = .ok (.iload_n 1, 1) := by decide +kernel
theorem dX6_ifAsked_68 : decode cX6_ifAsked 68 = .ok (.iload_n 2, 1) := by decide +kernel
theorem dX6_ifAsked_69 : decode cX6_ifAsked 69 = .ok (.iload_n 3, 1) := by decide +kernel
theorem dX6_ifAsked_70 : decode cX6_ifAsked 70 = .ok (.invokevirtual 139, 3) := by decide +kernel
theorem dX6_ifAsked_73 : decode cX6_ifAsked 73 = .ok (.ireturn, 1) := by decide +kernel
theorem dX6_ifAsked_74 : decode cX6_ifAsked 74 = .ok (.iload 4, 2) := by decide +kernel
theorem dX6_ifAsked_76 : decode cX6_ifAsked 76 = .ok (.iconst 1, 1) := by decide +kernel
theorem dX6_ifAsked_77 : decode cX6_ifAsked 77 = .ok (.if_icmp .ne 17, 3) := by decide +kernel
theorem dX6_ifAsked_80 : decode cX6_ifAsked 80 = .ok (.aload_n 0, 1) := by decide +kernel
theorem dX6_ifAsked_81 : decode cX6_ifAsked 81 = .ok (.getfield 12, 3) := by decide +kernel
theorem dX6_ifAsked_84 : decode cX6_ifAsked 84 = .ok (.getfield 41, 3) := by decide +kernel
theorem dX6_ifAsked_87 : decode cX6_ifAsked 87 = .ok (.iload_n 1, 1) := by decide +kernel
theorem dX6_ifAsked_88 : decode cX6_ifAsked 88 = .ok (.iload_n 2, 1) := by decide +kernel
theorem dX6_ifAsked_89 : decode cX6_ifAsked 89 = .ok (.iload_n 3, 1) := by decide +kernel
theorem dX6_ifAsked_90 : decode cX6_ifAsked 90 = .ok (.invokevirtual 126, 3) := by decide +kernel
theorem dX6_ifAsked_93 : decode cX6_ifAsked 93 = .ok (.ireturn, 1) := by decide +kernel
theorem dX6_ifAsked_94 : decode cX6_ifAsked 94 = .ok (.new 34, 3) := by decide +kernel
theorem dX6_ifAsked_97 : decode cX6_ifAsked 97 = .ok (.dup, 1) := by decide +kernel
theorem dX6_ifAsked_98 : decode cX6_ifAsked 98 = .ok (.ldc 196, 2) := by decide +kernel
theorem dX6_ifAsked_100 : decode cX6_ifAsked 100 = .ok (.invokespecial 38, 3) := by decide +kernel
theorem dX6_ifAsked_103 : decode cX6_ifAsked 103 = .ok (.athrow, 1) := by decide +kernel
theorem dX6_lies_0 : decode cX6_lies 0 = .ok (.iload_n 1, 1) := by decide +kernel
theorem dX6_lies_1 : decode cX6_lies 1 = .ok (.bipush 10, 2) := by decide +kernel
theorem dX6_lies_3 : decode cX6_lies 3 = .ok (.invokestatic 30, 3) := by decide +kernel
theorem dX6_lies_6 : decode cX6_lies 6 = .ok (.ifCond .eq 13, 3) := by decide +kernel
theorem dX6_lies_9 : decode cX6_lies 9 = .ok (.new 34, 3) := by decide +kernel
theorem dX6_lies_12 : decode cX6_lies 12 = .ok (.dup, 1) := by decide +kernel
theorem dX6_lies_13 : decode cX6_lies 13 = .ok (.ldc 36, 2) := by decide +kernel
theorem dX6_lies_15 : decode cX6_lies 15 = .ok (.invokespecial 38, 3) := by decide +kernel
theorem dX6_lies_18 : decode cX6_lies 18 = .ok (.athrow, 1) := by decide +kernel
theorem dX6_lies_19 : decode cX6_lies 19 = .ok (.aload_n 0, 1) := by decide +kernel
theorem dX6_lies_20 : decode cX6_lies 20 = .ok (.getfield 12, 3) := by decide +kernel
theorem dX6_lies_23 : decode cX6_lies 23 = .ok (.getfield 41, 3) := by decide +kernel
theorem dX6_lies_26 : decode cX6_lies 26 = .ok (.iload_n 1, 1) := by decide +kernel
theorem dX6_lies_27 : decode cX6_lies 27 = .ok (.invokevirtual 198, 3) := by decide +kernel
theorem dX6_lies_30 : decode cX6_lies 30 = .ok (.ireturn, 1) := by decide +kernel
theorem dX6_cheapest_0 : decode cX6_cheapest 0 = .ok (.iload_n 1, 1) := by decide +kernel
theorem dX6_cheapest_1 : decode cX6_cheapest 1 = .ok (.bipush 10, 2) := by decide +kernel
theorem dX6_cheapest_3 : decode cX6_cheapest 3 = .ok (.invokestatic 30, 3) := by decide +kernel
theorem dX6_cheapest_6 : decode cX6_cheapest 6 = .ok (.ifCond .eq 13, 3) := by decide +kernel
theorem dX6_cheapest_9 : decode cX6_cheapest 9 = .ok (.new 34, 3) := by decide +kernel
theorem dX6_cheapest_12 : decode cX6_cheapest 12 = .ok (.dup, 1) := by decide +kernel
theorem dX6_cheapest_13 : decode cX6_cheapest 13 = .ok (.ldc 36, 2) := by decide +kernel
theorem dX6_cheapest_15 : decode cX6_cheapest 15 = .ok (.invokespecial 38, 3) := by decide +kernel
theorem dX6_cheapest_18 : decode cX6_cheapest 18 = .ok (.athrow, 1) := by decide +kernel
theorem dX6_cheapest_19 : decode cX6_cheapest 19 = .ok (.aload_n 0, 1) := by decide +kernel
theorem dX6_cheapest_20 : decode cX6_cheapest 20 = .ok (.getfield 12, 3) := by decide +kernel
theorem dX6_cheapest_23 : decode cX6_cheapest 23 = .ok (.getfield 41, 3) := by decide +kernel
theorem dX6_cheapest_26 : decode cX6_cheapest 26 = .ok (.iload_n 1, 1) := by decide +kernel
theorem dX6_cheapest_27 : decode cX6_cheapest 27 = .ok (.invokevirtual 201, 3) := by decide +kernel
theorem dX6_cheapest_30 : decode cX6_cheapest 30 = .ok (.ireturn, 1) := by decide +kernel
theorem dX6_holder_0 : decode cX6_holder 0 = .ok (.aload_n 0, 1) := by decide +kernel
theorem dX6_holder_1 : decode cX6_holder 1 = .ok (.invokevirtual 204, 3) := by decide +kernel
theorem dX6_holder_4 : decode cX6_holder 4 = .ok (.ireturn, 1) := by decide +kernel
theorem dX6_marked_0 : decode cX6_marked 0 = .ok (.aload_n 0, 1) := by decide +kernel
theorem dX6_marked_1 : decode cX6_marked 1 = .ok (.invokevirtual 207, 3) := by decide +kernel
theorem dX6_marked_4 : decode cX6_marked 4 = .ok (.dreturn, 1) := by decide +kernel
theorem dX6_digest_0 : decode cX6_digest 0 = .ok (.ldc2_w 211, 3) := by decide +kernel
theorem dX6_digest_3 : decode cX6_digest 3 = .ok (.lstore_n 1, 1) := by decide +kernel
theorem dX6_digest_4 : decode cX6_digest 4 = .ok (.iconst 0, 1) := by decide +kernel
theorem dX6_digest_5 : decode cX6_digest 5 = .ok (.istore_n 3, 1) := by decide +kernel
theorem dX6_digest_6 : decode cX6_digest 6 = .ok (.iload_n 3, 1) := by decide +kernel
theorem dX6_digest_7 : decode cX6_digest 7 = .ok (.bipush 13, 2) := by decide +kernel
theorem dX6_digest_9 : decode cX6_digest 9 = .ok (.if_icmp .ge 20, 3) := by decide +kernel
theorem dX6_digest_12 : decode cX6_digest 12 = .ok (.lload_n 1, 1) := by decide +kernel
theorem dX6_digest_13 : decode cX6_digest 13 = .ok (.aload_n 0, 1) := by decide +kernel
theorem dX6_digest_14 : decode cX6_digest 14 = .ok (.iload_n 3, 1) := by decide +kernel
theorem dX6_digest_15 : decode cX6_digest 15 = .ok (.invokevirtual 191, 3) := by decide +kernel
theorem dX6_digest_18 : decode cX6_digest 18 = .ok (.i2l, 1) := by decide +kernel
theorem dX6_digest_19 : decode cX6_digest 19 = .ok (.invokestatic 213, 3) := by decide +kernel
theorem dX6_digest_22 : decode cX6_digest 22 = .ok (.lstore_n 1, 1) := by decide +kernel
theorem dX6_digest_23 : decode cX6_digest 23 = .ok (.iinc 3 1, 3) := by decide +kernel
theorem dX6_digest_26 : decode cX6_digest 26 = .ok (.goto (-20), 3) := by decide +kernel
theorem dX6_digest_29 : decode cX6_digest 29 = .ok (.aload_n 0, 1) := by decide +kernel
theorem dX6_digest_30 : decode cX6_digest 30 = .ok (.lload_n 1, 1) := by decide +kernel
theorem dX6_digest_31 : decode cX6_digest 31 = .ok (.invokevirtual 217, 3) := by decide +kernel
theorem dX6_digest_34 : decode cX6_digest 34 = .ok (.lstore_n 1, 1) := by decide +kernel
theorem dX6_digest_35 : decode cX6_digest 35 = .ok (.iconst 0, 1) := by decide +kernel
theorem dX6_digest_36 : decode cX6_digest 36 = .ok (.istore_n 3, 1) := by decide +kernel
theorem dX6_digest_37 : decode cX6_digest 37 = .ok (.iload_n 3, 1) := by decide +kernel
theorem dX6_digest_38 : decode cX6_digest 38 = .ok (.bipush 10, 2) := by decide +kernel
theorem dX6_digest_40 : decode cX6_digest 40 = .ok (.if_icmp .ge 16, 3) := by decide +kernel
theorem dX6_digest_43 : decode cX6_digest 43 = .ok (.aload_n 0, 1) := by decide +kernel
theorem dX6_digest_44 : decode cX6_digest 44 = .ok (.lload_n 1, 1) := by decide +kernel
theorem dX6_digest_45 : decode cX6_digest 45 = .ok (.iload_n 3, 1) := by decide +kernel
theorem dX6_digest_46 : decode cX6_digest 46 = .ok (.invokevirtual 221, 3) := by decide +kernel
theorem dX6_digest_49 : decode cX6_digest 49 = .ok (.lstore_n 1, 1) := by decide +kernel
theorem dX6_digest_50 : decode cX6_digest 50 = .ok (.iinc 3 1, 3) := by decide +kernel
theorem dX6_digest_53 : decode cX6_digest 53 = .ok (.goto (-16), 3) := by decide +kernel
theorem dX6_digest_56 : decode cX6_digest 56 = .ok (.lload_n 1, 1) := by decide +kernel
theorem dX6_digest_57 : decode cX6_digest 57 = .ok (.aload_n 0, 1) := by decide +kernel
theorem dX6_digest_58 : decode cX6_digest 58 = .ok (.invokevirtual 204, 3) := by decide +kernel
theorem dX6_digest_61 : decode cX6_digest 61 = .ok (.i2l, 1) := by decide +kernel
theorem dX6_digest_62 : decode cX6_digest 62 = .ok (.invokestatic 213, 3) := by decide +kernel
theorem dX6_digest_65 : decode cX6_digest 65 = .ok (.lstore_n 1, 1) := by decide +kernel
theorem dX6_digest_66 : decode cX6_digest 66 = .ok (.lload_n 1, 1) := by decide +kernel
theorem dX6_digest_67 : decode cX6_digest 67 = .ok (.aload_n 0, 1) := by decide +kernel
theorem dX6_digest_68 : decode cX6_digest 68 = .ok (.invokevirtual 207, 3) := by decide +kernel
theorem dX6_digest_71 : decode cX6_digest 71 = .ok (.invokestatic 225, 3) := by decide +kernel
theorem dX6_digest_74 : decode cX6_digest 74 = .ok (.invokestatic 213, 3) := by decide +kernel
theorem dX6_digest_77 : decode cX6_digest 77 = .ok (.lstore_n 1, 1) := by decide +kernel
theorem dX6_digest_78 : decode cX6_digest 78 = .ok (.lload_n 1, 1) := by decide +kernel
theorem dX6_digest_79 : decode cX6_digest 79 = .ok (.aload_n 0, 1) := by decide +kernel
theorem dX6_digest_80 : decode cX6_digest 80 = .ok (.getfield 26, 3) := by decide +kernel
theorem dX6_digest_83 : decode cX6_digest 83 = .ok (.getfield 144, 3) := by decide +kernel
theorem dX6_digest_86 : decode cX6_digest 86 = .ok (.i2l, 1) := by decide +kernel
theorem dX6_digest_87 : decode cX6_digest 87 = .ok (.invokestatic 213, 3) := by decide +kernel
theorem dX6_digest_90 : decode cX6_digest 90 = .ok (.lstore_n 1, 1) := by decide +kernel
theorem dX6_digest_91 : decode cX6_digest 91 = .ok (.iconst 0, 1) := by decide +kernel
theorem dX6_digest_92 : decode cX6_digest 92 = .ok (.istore_n 3, 1) := by decide +kernel
theorem dX6_digest_93 : decode cX6_digest 93 = .ok (.iload_n 3, 1) := by decide +kernel
theorem dX6_digest_94 : decode cX6_digest 94 = .ok (.aload_n 0, 1) := by decide +kernel
theorem dX6_digest_95 : decode cX6_digest 95 = .ok (.getfield 26, 3) := by decide +kernel
theorem dX6_digest_98 : decode cX6_digest 98 = .ok (.getfield 144, 3) := by decide +kernel
theorem dX6_digest_101 : decode cX6_digest 101 = .ok (.if_icmp .ge 23, 3) := by decide +kernel
theorem dX6_digest_104 : decode cX6_digest 104 = .ok (.lload_n 1, 1) := by decide +kernel
theorem dX6_digest_105 : decode cX6_digest 105 = .ok (.aload_n 0, 1) := by decide +kernel
theorem dX6_digest_106 : decode cX6_digest 106 = .ok (.getfield 26, 3) := by decide +kernel
theorem dX6_digest_109 : decode cX6_digest 109 = .ok (.iload_n 3, 1) := by decide +kernel
theorem dX6_digest_110 : decode cX6_digest 110 = .ok (.invokevirtual 229, 3) := by decide +kernel
theorem dX6_digest_113 : decode cX6_digest 113 = .ok (.i2l, 1) := by decide +kernel
theorem dX6_digest_114 : decode cX6_digest 114 = .ok (.invokestatic 213, 3) := by decide +kernel
theorem dX6_digest_117 : decode cX6_digest 117 = .ok (.lstore_n 1, 1) := by decide +kernel
theorem dX6_digest_118 : decode cX6_digest 118 = .ok (.iinc 3 1, 3) := by decide +kernel
theorem dX6_digest_121 : decode cX6_digest 121 = .ok (.goto (-28), 3) := by decide +kernel
theorem dX6_digest_124 : decode cX6_digest 124 = .ok (.lload_n 1, 1) := by decide +kernel
theorem dX6_digest_125 : decode cX6_digest 125 = .ok (.lreturn, 1) := by decide +kernel
theorem dX6_isOutside_0 : decode cX6_isOutside 0 = .ok (.iload_n 0, 1) := by decide +kernel
theorem dX6_isOutside_1 : decode cX6_isOutside 1 = .ok (.ifCond .lt 8, 3) := by decide +kernel
theorem dX6_isOutside_4 : decode cX6_isOutside 4 = .ok (.iload_n 0, 1) := by decide +kernel
theorem dX6_isOutside_5 : decode cX6_isOutside 5 = .ok (.iload_n 1, 1) := by decide +kernel
theorem dX6_isOutside_6 : decode cX6_isOutside 6 = .ok (.if_icmp .lt 7, 3) := by decide +kernel
theorem dX6_isOutside_9 : decode cX6_isOutside 9 = .ok (.iconst 1, 1) := by decide +kernel
theorem dX6_isOutside_10 : decode cX6_isOutside 10 = .ok (.goto 4, 3) := by decide +kernel
theorem dX6_isOutside_13 : decode cX6_isOutside 13 = .ok (.iconst 0, 1) := by decide +kernel
theorem dX6_isOutside_14 : decode cX6_isOutside 14 = .ok (.ireturn, 1) := by decide +kernel
theorem dX6_slotNumber_0 : decode cX6_slotNumber 0 = .ok (.aload_n 0, 1) := by decide +kernel
theorem dX6_slotNumber_1 : decode cX6_slotNumber 1 = .ok (.getfield 12, 3) := by decide +kernel
theorem dX6_slotNumber_4 : decode cX6_slotNumber 4 = .ok (.getfield 41, 3) := by decide +kernel
theorem dX6_slotNumber_7 : decode cX6_slotNumber 7 = .ok (.astore_n 3, 1) := by decide +kernel
theorem dX6_slotNumber_8 : decode cX6_slotNumber 8 = .ok (.iload_n 2, 1) := by decide +kernel
theorem dX6_slotNumber_9 : decode cX6_slotNumber 9 = .ok (.tableswitch 48 0 2 #[27, 34, 41], 27) := by decide +kernel
theorem dX6_slotNumber_36 : decode cX6_slotNumber 36 = .ok (.aload_n 3, 1) := by decide +kernel
theorem dX6_slotNumber_37 : decode cX6_slotNumber 37 = .ok (.getfield 78, 3) := by decide +kernel
theorem dX6_slotNumber_40 : decode cX6_slotNumber 40 = .ok (.iload_n 1, 1) := by decide +kernel
theorem dX6_slotNumber_41 : decode cX6_slotNumber 41 = .ok (.iaload, 1) := by decide +kernel
theorem dX6_slotNumber_42 : decode cX6_slotNumber 42 = .ok (.ireturn, 1) := by decide +kernel
theorem dX6_slotNumber_43 : decode cX6_slotNumber 43 = .ok (.aload_n 3, 1) := by decide +kernel
theorem dX6_slotNumber_44 : decode cX6_slotNumber 44 = .ok (.getfield 233, 3) := by decide +kernel
theorem dX6_slotNumber_47 : decode cX6_slotNumber 47 = .ok (.iload_n 1, 1) := by decide +kernel
theorem dX6_slotNumber_48 : decode cX6_slotNumber 48 = .ok (.iaload, 1) := by decide +kernel
theorem dX6_slotNumber_49 : decode cX6_slotNumber 49 = .ok (.ireturn, 1) := by decide +kernel
theorem dX6_slotNumber_50 : decode cX6_slotNumber 50 = .ok (.aload_n 3, 1) := by decide +kernel
theorem dX6_slotNumber_51 : decode cX6_slotNumber 51 = .ok (.getfield 236, 3) := by decide +kernel
theorem dX6_slotNumber_54 : decode cX6_slotNumber 54 = .ok (.iload_n 1, 1) := by decide +kernel
theorem dX6_slotNumber_55 : decode cX6_slotNumber 55 = .ok (.iaload, 1) := by decide +kernel
theorem dX6_slotNumber_56 : decode cX6_slotNumber 56 = .ok (.ireturn, 1) := by decide +kernel
theorem dX6_slotNumber_57 : decode cX6_slotNumber 57 = .ok (.aload_n 3, 1) := by decide +kernel
theorem dX6_slotNumber_58 : decode cX6_slotNumber 58 = .ok (.iload_n 1, 1) := by decide +kernel
theorem dX6_slotNumber_59 : decode cX6_slotNumber 59 = .ok (.invokevirtual 69, 3) := by decide +kernel
theorem dX6_slotNumber_62 : decode cX6_slotNumber 62 = .ok (.ifCond .eq 7, 3) := by decide +kernel
theorem dX6_slotNumber_65 : decode cX6_slotNumber 65 = .ok (.iconst 1, 1) := by decide +kernel
theorem dX6_slotNumber_66 : decode cX6_slotNumber 66 = .ok (.goto 4, 3) := by decide +kernel
theorem dX6_slotNumber_69 : decode cX6_slotNumber 69 = .ok (.iconst 0, 1) := by decide +kernel
theorem dX6_slotNumber_70 : decode cX6_slotNumber 70 = .ok (.ireturn, 1) := by decide +kernel
theorem dX6_pageNumber_0 : decode cX6_pageNumber 0 = .ok (.aload_n 0, 1) := by decide +kernel
theorem dX6_pageNumber_1 : decode cX6_pageNumber 1 = .ok (.getfield 12, 3) := by decide +kernel
theorem dX6_pageNumber_4 : decode cX6_pageNumber 4 = .ok (.getfield 41, 3) := by decide +kernel
theorem dX6_pageNumber_7 : decode cX6_pageNumber 7 = .ok (.astore_n 3, 1) := by decide +kernel
theorem dX6_pageNumber_8 : decode cX6_pageNumber 8 = .ok (.iload_n 1, 1) := by decide +kernel
theorem dX6_pageNumber_9 : decode cX6_pageNumber 9 = .ok (.iconst 4, 1) := by decide +kernel
theorem dX6_pageNumber_10 : decode cX6_pageNumber 10 = .ok (.imul, 1) := by decide +kernel
theorem dX6_pageNumber_11 : decode cX6_pageNumber 11 = .ok (.istore 4, 2) := by decide +kernel
theorem dX6_pageNumber_13 : decode cX6_pageNumber 13 = .ok (.iload 4, 2) := by decide +kernel
theorem dX6_pageNumber_15 : decode cX6_pageNumber 15 = .ok (.iconst 4, 1) := by decide +kernel
theorem dX6_pageNumber_16 : decode cX6_pageNumber 16 = .ok (.iadd, 1) := by decide +kernel
theorem dX6_pageNumber_17 : decode cX6_pageNumber 17 = .ok (.istore 5, 2) := by decide +kernel
theorem dX6_pageNumber_19 : decode cX6_pageNumber 19 = .ok (.iload_n 2, 1) := by decide +kernel
theorem dX6_pageNumber_20 : decode cX6_pageNumber 20 = .ok (.tableswitch 84 0 3 #[32, 46, 55, 68], 32) := by decide +kernel
theorem dX6_pageNumber_52 : decode cX6_pageNumber 52 = .ok (.aload_n 3, 1) := by decide +kernel
theorem dX6_pageNumber_53 : decode cX6_pageNumber 53 = .ok (.iload_n 1, 1) := by decide +kernel
theorem dX6_pageNumber_54 : decode cX6_pageNumber 54 = .ok (.invokevirtual 239, 3) := by decide +kernel
theorem dX6_pageNumber_57 : decode cX6_pageNumber 57 = .ok (.ifCond .eq 7, 3) := by decide +kernel
theorem dX6_pageNumber_60 : decode cX6_pageNumber 60 = .ok (.iconst 1, 1) := by decide +kernel
theorem dX6_pageNumber_61 : decode cX6_pageNumber 61 = .ok (.goto 4, 3) := by decide +kernel
theorem dX6_pageNumber_64 : decode cX6_pageNumber 64 = .ok (.iconst 0, 1) := by decide +kernel
theorem dX6_pageNumber_65 : decode cX6_pageNumber 65 = .ok (.ireturn, 1) := by decide +kernel
theorem dX6_pageNumber_66 : decode cX6_pageNumber 66 = .ok (.aload_n 3, 1) := by decide +kernel
theorem dX6_pageNumber_67 : decode cX6_pageNumber 67 = .ok (.iload 4, 2) := by decide +kernel
theorem dX6_pageNumber_69 : decode cX6_pageNumber 69 = .ok (.iload 5, 2) := by decide +kernel
theorem dX6_pageNumber_71 : decode cX6_pageNumber 71 = .ok (.invokevirtual 242, 3) := by decide +kernel
theorem dX6_pageNumber_74 : decode cX6_pageNumber 74 = .ok (.ireturn, 1) := by decide +kernel
theorem dX6_pageNumber_75 : decode cX6_pageNumber 75 = .ok (.aload_n 3, 1) := by decide +kernel
theorem dX6_pageNumber_76 : decode cX6_pageNumber 76 = .ok (.iload 4, 2) := by decide +kernel
theorem dX6_pageNumber_78 : decode cX6_pageNumber 78 = .ok (.iload 5, 2) := by decide +kernel
theorem dX6_pageNumber_80 : decode cX6_pageNumber 80 = .ok (.aload_n 3, 1) := by decide +kernel
theorem dX6_pageNumber_81 : decode cX6_pageNumber 81 = .ok (.getfield 99, 3) := by decide +kernel
theorem dX6_pageNumber_84 : decode cX6_pageNumber 84 = .ok (.invokevirtual 245, 3) := by decide +kernel
theorem dX6_pageNumber_87 : decode cX6_pageNumber 87 = .ok (.ireturn, 1) := by decide +kernel
theorem dX6_pageNumber_88 : decode cX6_pageNumber 88 = .ok (.aload_n 3, 1) := by decide +kernel
theorem dX6_pageNumber_89 : decode cX6_pageNumber 89 = .ok (.iload 4, 2) := by decide +kernel
theorem dX6_pageNumber_91 : decode cX6_pageNumber 91 = .ok (.iload 5, 2) := by decide +kernel
theorem dX6_pageNumber_93 : decode cX6_pageNumber 93 = .ok (.aload_n 0, 1) := by decide +kernel
theorem dX6_pageNumber_94 : decode cX6_pageNumber 94 = .ok (.getfield 12, 3) := by decide +kernel
theorem dX6_pageNumber_97 : decode cX6_pageNumber 97 = .ok (.invokevirtual 107, 3) := by decide +kernel
theorem dX6_pageNumber_100 : decode cX6_pageNumber 100 = .ok (.invokevirtual 248, 3) := by decide +kernel
theorem dX6_pageNumber_103 : decode cX6_pageNumber 103 = .ok (.ireturn, 1) := by decide +kernel
theorem dX6_pageNumber_104 : decode cX6_pageNumber 104 = .ok (.aload_n 3, 1) := by decide +kernel
theorem dX6_pageNumber_105 : decode cX6_pageNumber 105 = .ok (.getfield 251, 3) := by decide +kernel
theorem dX6_pageNumber_108 : decode cX6_pageNumber 108 = .ok (.iload_n 1, 1) := by decide +kernel
theorem dX6_pageNumber_109 : decode cX6_pageNumber 109 = .ok (.iaload, 1) := by decide +kernel
theorem dX6_pageNumber_110 : decode cX6_pageNumber 110 = .ok (.ireturn, 1) := by decide +kernel
theorem dX6_askerNumber_0 : decode cX6_askerNumber 0 = .ok (.aload_n 0, 1) := by decide +kernel
theorem dX6_askerNumber_1 : decode cX6_askerNumber 1 = .ok (.getfield 12, 3) := by decide +kernel
theorem dX6_askerNumber_4 : decode cX6_askerNumber 4 = .ok (.getfield 90, 3) := by decide +kernel
theorem dX6_askerNumber_7 : decode cX6_askerNumber 7 = .ok (.getfield 94, 3) := by decide +kernel
theorem dX6_askerNumber_10 : decode cX6_askerNumber 10 = .ok (.iload_n 1, 1) := by decide +kernel
theorem dX6_askerNumber_11 : decode cX6_askerNumber 11 = .ok (.iaload, 1) := by decide +kernel
theorem dX6_askerNumber_12 : decode cX6_askerNumber 12 = .ok (.istore_n 3, 1) := by decide +kernel
theorem dX6_askerNumber_13 : decode cX6_askerNumber 13 = .ok (.iload_n 2, 1) := by decide +kernel
theorem dX6_askerNumber_14 : decode cX6_askerNumber 14 = .ok (.lookupswitch 52 #[(0, 26), (1, 28)], 26) := by decide +kernel
theorem dX6_askerNumber_40 : decode cX6_askerNumber 40 = .ok (.iload_n 3, 1) := by decide +kernel
theorem dX6_askerNumber_41 : decode cX6_askerNumber 41 = .ok (.ireturn, 1) := by decide +kernel
theorem dX6_askerNumber_42 : decode cX6_askerNumber 42 = .ok (.iload_n 3, 1) := by decide +kernel
theorem dX6_askerNumber_43 : decode cX6_askerNumber 43 = .ok (.iconst (-1), 1) := by decide +kernel
theorem dX6_askerNumber_44 : decode cX6_askerNumber 44 = .ok (.if_icmp .ne 7, 3) := by decide +kernel
theorem dX6_askerNumber_47 : decode cX6_askerNumber 47 = .ok (.iconst (-1), 1) := by decide +kernel
theorem dX6_askerNumber_48 : decode cX6_askerNumber 48 = .ok (.goto 17, 3) := by decide +kernel
theorem dX6_askerNumber_51 : decode cX6_askerNumber 51 = .ok (.aload_n 0, 1) := by decide +kernel
theorem dX6_askerNumber_52 : decode cX6_askerNumber 52 = .ok (.getfield 12, 3) := by decide +kernel
theorem dX6_askerNumber_55 : decode cX6_askerNumber 55 = .ok (.getfield 41, 3) := by decide +kernel
theorem dX6_askerNumber_58 : decode cX6_askerNumber 58 = .ok (.iconst 0, 1) := by decide +kernel
theorem dX6_askerNumber_59 : decode cX6_askerNumber 59 = .ok (.bipush 24, 2) := by decide +kernel
theorem dX6_askerNumber_61 : decode cX6_askerNumber 61 = .ok (.iload_n 3, 1) := by decide +kernel
theorem dX6_askerNumber_62 : decode cX6_askerNumber 62 = .ok (.invokevirtual 245, 3) := by decide +kernel
theorem dX6_askerNumber_65 : decode cX6_askerNumber 65 = .ok (.ireturn, 1) := by decide +kernel
theorem dX6_askerNumber_66 : decode cX6_askerNumber 66 = .ok (.aload_n 0, 1) := by decide +kernel
theorem dX6_askerNumber_67 : decode cX6_askerNumber 67 = .ok (.getfield 12, 3) := by decide +kernel
theorem dX6_askerNumber_70 : decode cX6_askerNumber 70 = .ok (.getfield 90, 3) := by decide +kernel
theorem dX6_askerNumber_73 : decode cX6_askerNumber 73 = .ok (.getfield 119, 3) := by decide +kernel
theorem dX6_askerNumber_76 : decode cX6_askerNumber 76 = .ok (.iload_n 1, 1) := by decide +kernel
theorem dX6_askerNumber_77 : decode cX6_askerNumber 77 = .ok (.iaload, 1) := by decide +kernel
theorem dX6_askerNumber_78 : decode cX6_askerNumber 78 = .ok (.ireturn, 1) := by decide +kernel
theorem dX6_countNumber_0 : decode cX6_countNumber 0 = .ok (.aload_n 0, 1) := by decide +kernel
theorem dX6_countNumber_1 : decode cX6_countNumber 1 = .ok (.getfield 12, 3) := by decide +kernel
theorem dX6_countNumber_4 : decode cX6_countNumber 4 = .ok (.getfield 41, 3) := by decide +kernel
theorem dX6_countNumber_7 : decode cX6_countNumber 7 = .ok (.astore_n 2, 1) := by decide +kernel
theorem dX6_countNumber_8 : decode cX6_countNumber 8 = .ok (.iload_n 1, 1) := by decide +kernel
theorem dX6_countNumber_9 : decode cX6_countNumber 9 = .ok (.tableswitch 178 0 11 #[63, 68, 76, 84, 96, 107, 112, 125, 138, 151, 162, 173], 63) := by decide +kernel
theorem dX6_countNumber_72 : decode cX6_countNumber 72 = .ok (.aload_n 2, 1) := by decide +kernel
theorem dX6_countNumber_73 : decode cX6_countNumber 73 = .ok (.getfield 99, 3) := by decide +kernel
theorem dX6_countNumber_76 : decode cX6_countNumber 76 = .ok (.ireturn, 1) := by decide +kernel
theorem dX6_countNumber_77 : decode cX6_countNumber 77 = .ok (.aload_n 0, 1) := by decide +kernel
theorem dX6_countNumber_78 : decode cX6_countNumber 78 = .ok (.getfield 12, 3) := by decide +kernel
theorem dX6_countNumber_81 : decode cX6_countNumber 81 = .ok (.invokevirtual 107, 3) := by decide +kernel
theorem dX6_countNumber_84 : decode cX6_countNumber 84 = .ok (.ireturn, 1) := by decide +kernel
theorem dX6_countNumber_85 : decode cX6_countNumber 85 = .ok (.aload_n 2, 1) := by decide +kernel
theorem dX6_countNumber_86 : decode cX6_countNumber 86 = .ok (.iconst 0, 1) := by decide +kernel
theorem dX6_countNumber_87 : decode cX6_countNumber 87 = .ok (.bipush 24, 2) := by decide +kernel
theorem dX6_countNumber_89 : decode cX6_countNumber 89 = .ok (.invokevirtual 242, 3) := by decide +kernel
theorem dX6_countNumber_92 : decode cX6_countNumber 92 = .ok (.ireturn, 1) := by decide +kernel
theorem dX6_countNumber_93 : decode cX6_countNumber 93 = .ok (.aload_n 2, 1) := by decide +kernel
theorem dX6_countNumber_94 : decode cX6_countNumber 94 = .ok (.iconst 0, 1) := by decide +kernel
theorem dX6_countNumber_95 : decode cX6_countNumber 95 = .ok (.bipush 24, 2) := by decide +kernel
theorem dX6_countNumber_97 : decode cX6_countNumber 97 = .ok (.aload_n 2, 1) := by decide +kernel
theorem dX6_countNumber_98 : decode cX6_countNumber 98 = .ok (.getfield 99, 3) := by decide +kernel
theorem dX6_countNumber_101 : decode cX6_countNumber 101 = .ok (.invokevirtual 245, 3) := by decide +kernel
theorem dX6_countNumber_104 : decode cX6_countNumber 104 = .ok (.ireturn, 1) := by decide +kernel
theorem dX6_countNumber_105 : decode cX6_countNumber 105 = .ok (.bipush 24, 2) := by decide +kernel
theorem dX6_countNumber_107 : decode cX6_countNumber 107 = .ok (.aload_n 2, 1) := by decide +kernel
theorem dX6_countNumber_108 : decode cX6_countNumber 108 = .ok (.iconst 0, 1) := by decide +kernel
theorem dX6_countNumber_109 : decode cX6_countNumber 109 = .ok (.bipush 24, 2) := by decide +kernel
theorem dX6_countNumber_111 : decode cX6_countNumber 111 = .ok (.invokevirtual 242, 3) := by decide +kernel
theorem dX6_countNumber_114 : decode cX6_countNumber 114 = .ok (.isub, 1) := by decide +kernel
theorem dX6_countNumber_115 : decode cX6_countNumber 115 = .ok (.ireturn, 1) := by decide +kernel
theorem dX6_countNumber_116 : decode cX6_countNumber 116 = .ok (.aload_n 2, 1) := by decide +kernel
theorem dX6_countNumber_117 : decode cX6_countNumber 117 = .ok (.invokevirtual 114, 3) := by decide +kernel
theorem dX6_countNumber_120 : decode cX6_countNumber 120 = .ok (.ireturn, 1) := by decide +kernel
theorem dX6_countNumber_121 : decode cX6_countNumber 121 = .ok (.aload_n 0, 1) := by decide +kernel
theorem dX6_countNumber_122 : decode cX6_countNumber 122 = .ok (.getfield 12, 3) := by decide +kernel
theorem dX6_countNumber_125 : decode cX6_countNumber 125 = .ok (.getfield 122, 3) := by decide +kernel
theorem dX6_countNumber_128 : decode cX6_countNumber 128 = .ok (.getfield 254, 3) := by decide +kernel
theorem dX6_countNumber_131 : decode cX6_countNumber 131 = .ok (.iconst 0, 1) := by decide +kernel
theorem dX6_countNumber_132 : decode cX6_countNumber 132 = .ok (.iaload, 1) := by decide +kernel
theorem dX6_countNumber_133 : decode cX6_countNumber 133 = .ok (.ireturn, 1) := by decide +kernel
theorem dX6_countNumber_134 : decode cX6_countNumber 134 = .ok (.aload_n 0, 1) := by decide +kernel
theorem dX6_countNumber_135 : decode cX6_countNumber 135 = .ok (.getfield 12, 3) := by decide +kernel
theorem dX6_countNumber_138 : decode cX6_countNumber 138 = .ok (.getfield 122, 3) := by decide +kernel
theorem dX6_countNumber_141 : decode cX6_countNumber 141 = .ok (.getfield 254, 3) := by decide +kernel
theorem dX6_countNumber_144 : decode cX6_countNumber 144 = .ok (.iconst 1, 1) := by decide +kernel
theorem dX6_countNumber_145 : decode cX6_countNumber 145 = .ok (.iaload, 1) := by decide +kernel
theorem dX6_countNumber_146 : decode cX6_countNumber 146 = .ok (.ireturn, 1) := by decide +kernel
theorem dX6_countNumber_147 : decode cX6_countNumber 147 = .ok (.aload_n 0, 1) := by decide +kernel
theorem dX6_countNumber_148 : decode cX6_countNumber 148 = .ok (.getfield 12, 3) := by decide +kernel
theorem dX6_countNumber_151 : decode cX6_countNumber 151 = .ok (.getfield 122, 3) := by decide +kernel
theorem dX6_countNumber_154 : decode cX6_countNumber 154 = .ok (.getfield 254, 3) := by decide +kernel
theorem dX6_countNumber_157 : decode cX6_countNumber 157 = .ok (.iconst 2, 1) := by decide +kernel
theorem dX6_countNumber_158 : decode cX6_countNumber 158 = .ok (.iaload, 1) := by decide +kernel
theorem dX6_countNumber_159 : decode cX6_countNumber 159 = .ok (.ireturn, 1) := by decide +kernel
theorem dX6_countNumber_160 : decode cX6_countNumber 160 = .ok (.aload_n 0, 1) := by decide +kernel
theorem dX6_countNumber_161 : decode cX6_countNumber 161 = .ok (.getfield 12, 3) := by decide +kernel
theorem dX6_countNumber_164 : decode cX6_countNumber 164 = .ok (.getfield 122, 3) := by decide +kernel
theorem dX6_countNumber_167 : decode cX6_countNumber 167 = .ok (.getfield 255, 3) := by decide +kernel
theorem dX6_countNumber_170 : decode cX6_countNumber 170 = .ok (.ireturn, 1) := by decide +kernel
theorem dX6_countNumber_171 : decode cX6_countNumber 171 = .ok (.aload_n 0, 1) := by decide +kernel
theorem dX6_countNumber_172 : decode cX6_countNumber 172 = .ok (.getfield 12, 3) := by decide +kernel
theorem dX6_countNumber_175 : decode cX6_countNumber 175 = .ok (.getfield 122, 3) := by decide +kernel
theorem dX6_countNumber_178 : decode cX6_countNumber 178 = .ok (.getfield 258, 3) := by decide +kernel
theorem dX6_countNumber_181 : decode cX6_countNumber 181 = .ok (.ireturn, 1) := by decide +kernel
theorem dX6_countNumber_182 : decode cX6_countNumber 182 = .ok (.aload_n 2, 1) := by decide +kernel
theorem dX6_countNumber_183 : decode cX6_countNumber 183 = .ok (.getfield 261, 3) := by decide +kernel
theorem dX6_countNumber_186 : decode cX6_countNumber 186 = .ok (.ireturn, 1) := by decide +kernel
theorem dX6_countNumber_187 : decode cX6_countNumber 187 = .ok (.aload_n 0, 1) := by decide +kernel
theorem dX6_countNumber_188 : decode cX6_countNumber 188 = .ok (.getfield 19, 3) := by decide +kernel
theorem dX6_countNumber_191 : decode cX6_countNumber 191 = .ok (.getfield 166, 3) := by decide +kernel
theorem dX6_countNumber_194 : decode cX6_countNumber 194 = .ok (.ireturn, 1) := by decide +kernel
theorem dX6_mostHolding_0 : decode cX6_mostHolding 0 = .ok (.iconst (-1), 1) := by decide +kernel
theorem dX6_mostHolding_1 : decode cX6_mostHolding 1 = .ok (.istore_n 1, 1) := by decide +kernel
theorem dX6_mostHolding_2 : decode cX6_mostHolding 2 = .ok (.aload_n 0, 1) := by decide +kernel
theorem dX6_mostHolding_3 : decode cX6_mostHolding 3 = .ok (.getfield 12, 3) := by decide +kernel
theorem dX6_mostHolding_6 : decode cX6_mostHolding 6 = .ok (.getfield 41, 3) := by decide +kernel
theorem dX6_mostHolding_9 : decode cX6_mostHolding 9 = .ok (.iconst 0, 1) := by decide +kernel
theorem dX6_mostHolding_10 : decode cX6_mostHolding 10 = .ok (.bipush 24, 2) := by decide +kernel
theorem dX6_mostHolding_12 : decode cX6_mostHolding 12 = .ok (.aload_n 0, 1) := by decide +kernel
theorem dX6_mostHolding_13 : decode cX6_mostHolding 13 = .ok (.getfield 12, 3) := by decide +kernel
theorem dX6_mostHolding_16 : decode cX6_mostHolding 16 = .ok (.invokevirtual 107, 3) := by decide +kernel
theorem dX6_mostHolding_19 : decode cX6_mostHolding 19 = .ok (.invokevirtual 248, 3) := by decide +kernel
theorem dX6_mostHolding_22 : decode cX6_mostHolding 22 = .ok (.istore_n 2, 1) := by decide +kernel
theorem dX6_mostHolding_23 : decode cX6_mostHolding 23 = .ok (.iconst 0, 1) := by decide +kernel
theorem dX6_mostHolding_24 : decode cX6_mostHolding 24 = .ok (.istore_n 3, 1) := by decide +kernel
theorem dX6_mostHolding_25 : decode cX6_mostHolding 25 = .ok (.iload_n 3, 1) := by decide +kernel
theorem dX6_mostHolding_26 : decode cX6_mostHolding 26 = .ok (.iconst 4, 1) := by decide +kernel
theorem dX6_mostHolding_27 : decode cX6_mostHolding 27 = .ok (.if_icmp .ge 60, 3) := by decide +kernel
theorem dX6_mostHolding_30 : decode cX6_mostHolding 30 = .ok (.aload_n 0, 1) := by decide +kernel
theorem dX6_mostHolding_31 : decode cX6_mostHolding 31 = .ok (.getfield 12, 3) := by decide +kernel
theorem dX6_mostHolding_34 : decode cX6_mostHolding 34 = .ok (.getfield 90, 3) := by decide +kernel
theorem dX6_mostHolding_37 : decode cX6_mostHolding 37 = .ok (.iload_n 3, 1) := by decide +kernel
theorem dX6_mostHolding_38 : decode cX6_mostHolding 38 = .ok (.aload_n 0, 1) := by decide +kernel
theorem dX6_mostHolding_39 : decode cX6_mostHolding 39 = .ok (.getfield 12, 3) := by decide +kernel
theorem dX6_mostHolding_42 : decode cX6_mostHolding 42 = .ok (.getfield 41, 3) := by decide +kernel
theorem dX6_mostHolding_45 : decode cX6_mostHolding 45 = .ok (.getfield 99, 3) := by decide +kernel
theorem dX6_mostHolding_48 : decode cX6_mostHolding 48 = .ok (.invokevirtual 264, 3) := by decide +kernel
theorem dX6_mostHolding_51 : decode cX6_mostHolding 51 = .ok (.istore 4, 2) := by decide +kernel
theorem dX6_mostHolding_53 : decode cX6_mostHolding 53 = .ok (.aload_n 0, 1) := by decide +kernel
theorem dX6_mostHolding_54 : decode cX6_mostHolding 54 = .ok (.getfield 12, 3) := by decide +kernel
theorem dX6_mostHolding_57 : decode cX6_mostHolding 57 = .ok (.getfield 41, 3) := by decide +kernel
theorem dX6_mostHolding_60 : decode cX6_mostHolding 60 = .ok (.iconst 0, 1) := by decide +kernel
theorem dX6_mostHolding_61 : decode cX6_mostHolding 61 = .ok (.bipush 24, 2) := by decide +kernel
theorem dX6_mostHolding_63 : decode cX6_mostHolding 63 = .ok (.iload 4, 2) := by decide +kernel
theorem dX6_mostHolding_65 : decode cX6_mostHolding 65 = .ok (.invokevirtual 248, 3) := by decide +kernel
theorem dX6_mostHolding_68 : decode cX6_mostHolding 68 = .ok (.istore 5, 2) := by decide +kernel
theorem dX6_mostHolding_70 : decode cX6_mostHolding 70 = .ok (.iload 5, 2) := by decide +kernel
theorem dX6_mostHolding_72 : decode cX6_mostHolding 72 = .ok (.iload_n 2, 1) := by decide +kernel
theorem dX6_mostHolding_73 : decode cX6_mostHolding 73 = .ok (.if_icmp .le 8, 3) := by decide +kernel
theorem dX6_mostHolding_76 : decode cX6_mostHolding 76 = .ok (.iload 5, 2) := by decide +kernel
theorem dX6_mostHolding_78 : decode cX6_mostHolding 78 = .ok (.istore_n 2, 1) := by decide +kernel
theorem dX6_mostHolding_79 : decode cX6_mostHolding 79 = .ok (.iload_n 3, 1) := by decide +kernel
theorem dX6_mostHolding_80 : decode cX6_mostHolding 80 = .ok (.istore_n 1, 1) := by decide +kernel
theorem dX6_mostHolding_81 : decode cX6_mostHolding 81 = .ok (.iinc 3 1, 3) := by decide +kernel
theorem dX6_mostHolding_84 : decode cX6_mostHolding 84 = .ok (.goto (-59), 3) := by decide +kernel
theorem dX6_mostHolding_87 : decode cX6_mostHolding 87 = .ok (.iload_n 1, 1) := by decide +kernel
theorem dX6_mostHolding_88 : decode cX6_mostHolding 88 = .ok (.ireturn, 1) := by decide +kernel
theorem dX6_markedShare_0 : decode cX6_markedShare 0 = .ok (.aload_n 0, 1) := by decide +kernel
theorem dX6_markedShare_1 : decode cX6_markedShare 1 = .ok (.getfield 12, 3) := by decide +kernel
theorem dX6_markedShare_4 : decode cX6_markedShare 4 = .ok (.getfield 41, 3) := by decide +kernel
theorem dX6_markedShare_7 : decode cX6_markedShare 7 = .ok (.invokevirtual 114, 3) := by decide +kernel
theorem dX6_markedShare_10 : decode cX6_markedShare 10 = .ok (.i2d, 1) := by decide +kernel
theorem dX6_markedShare_11 : decode cX6_markedShare 11 = .ok (.ldc2_w 267, 3) := by decide +kernel
theorem dX6_markedShare_14 : decode cX6_markedShare 14 = .ok (.ddiv, 1) := by decide +kernel
theorem dX6_markedShare_15 : decode cX6_markedShare 15 = .ok (.dreturn, 1) := by decide +kernel
theorem dX6_makeParts_0 : decode cX6_makeParts 0 = .ok (.iconst 0, 1) := by decide +kernel
theorem dX6_makeParts_1 : decode cX6_makeParts 1 = .ok (.istore_n 1, 1) := by decide +kernel
theorem dX6_makeParts_2 : decode cX6_makeParts 2 = .ok (.aload_n 0, 1) := by decide +kernel
theorem dX6_makeParts_3 : decode cX6_makeParts 3 = .ok (.getfield 26, 3) := by decide +kernel
theorem dX6_makeParts_6 : decode cX6_makeParts 6 = .ok (.invokevirtual 269, 3) := by decide +kernel
theorem dX6_makeParts_9 : decode cX6_makeParts 9 = .ok (.iconst 0, 1) := by decide +kernel
theorem dX6_makeParts_10 : decode cX6_makeParts 10 = .ok (.istore_n 2, 1) := by decide +kernel
theorem dX6_makeParts_11 : decode cX6_makeParts 11 = .ok (.iload_n 2, 1) := by decide +kernel
theorem dX6_makeParts_12 : decode cX6_makeParts 12 = .ok (.bipush 60, 2) := by decide +kernel
theorem dX6_makeParts_14 : decode cX6_makeParts 14 = .ok (.if_icmp .ge 55, 3) := by decide +kernel
theorem dX6_makeParts_17 : decode cX6_makeParts 17 = .ok (.aload_n 0, 1) := by decide +kernel
theorem dX6_makeParts_18 : decode cX6_makeParts 18 = .ok (.getfield 26, 3) := by decide +kernel
theorem dX6_makeParts_21 : decode cX6_makeParts 21 = .ok (.invokevirtual 272, 3) := by decide +kernel
theorem dX6_makeParts_24 : decode cX6_makeParts 24 = .ok (.ifCond .eq 45, 3) := by decide +kernel
theorem dX6_makeParts_27 : decode cX6_makeParts 27 = .ok (.aload_n 0, 1) := by decide +kernel
theorem dX6_makeParts_28 : decode cX6_makeParts 28 = .ok (.getfield 12, 3) := by decide +kernel
theorem dX6_makeParts_31 : decode cX6_makeParts 31 = .ok (.aload_n 0, 1) := by decide +kernel
theorem dX6_makeParts_32 : decode cX6_makeParts 32 = .ok (.getfield 26, 3) := by decide +kernel
theorem dX6_makeParts_35 : decode cX6_makeParts 35 = .ok (.getfield 275, 3) := by decide +kernel
theorem dX6_makeParts_38 : decode cX6_makeParts 38 = .ok (.aload_n 0, 1) := by decide +kernel
theorem dX6_makeParts_39 : decode cX6_makeParts 39 = .ok (.getfield 26, 3) := by decide +kernel
theorem dX6_makeParts_42 : decode cX6_makeParts 42 = .ok (.getfield 279, 3) := by decide +kernel
theorem dX6_makeParts_45 : decode cX6_makeParts 45 = .ok (.aload_n 0, 1) := by decide +kernel
theorem dX6_makeParts_46 : decode cX6_makeParts 46 = .ok (.getfield 26, 3) := by decide +kernel
theorem dX6_makeParts_49 : decode cX6_makeParts 49 = .ok (.getfield 282, 3) := by decide +kernel
theorem dX6_makeParts_52 : decode cX6_makeParts 52 = .ok (.invokevirtual 285, 3) := by decide +kernel
theorem dX6_makeParts_55 : decode cX6_makeParts 55 = .ok (.ifCond .ne 5, 3) := by decide +kernel
theorem dX6_makeParts_58 : decode cX6_makeParts 58 = .ok (.iload_n 1, 1) := by decide +kernel
theorem dX6_makeParts_59 : decode cX6_makeParts 59 = .ok (.ireturn, 1) := by decide +kernel
theorem dX6_makeParts_60 : decode cX6_makeParts 60 = .ok (.iinc 1 1, 3) := by decide +kernel
theorem dX6_makeParts_63 : decode cX6_makeParts 63 = .ok (.iinc 2 1, 3) := by decide +kernel
theorem dX6_makeParts_66 : decode cX6_makeParts 66 = .ok (.goto (-55), 3) := by decide +kernel
theorem dX6_makeParts_69 : decode cX6_makeParts 69 = .ok (.iload_n 1, 1) := by decide +kernel
theorem dX6_makeParts_70 : decode cX6_makeParts 70 = .ok (.ireturn, 1) := by decide +kernel
theorem dX6_mix_0 : decode cX6_mix 0 = .ok (.ldc2_w 289, 3) := by decide +kernel
theorem dX6_mix_3 : decode cX6_mix 3 = .ok (.lload_n 0, 1) := by decide +kernel
theorem dX6_mix_4 : decode cX6_mix 4 = .ok (.lmul, 1) := by decide +kernel
theorem dX6_mix_5 : decode cX6_mix 5 = .ok (.lload_n 2, 1) := by decide +kernel
theorem dX6_mix_6 : decode cX6_mix 6 = .ok (.ladd, 1) := by decide +kernel
theorem dX6_mix_7 : decode cX6_mix 7 = .ok (.lreturn, 1) := by decide +kernel
theorem dX6_mixParts_0 : decode cX6_mixParts 0 = .ok (.lload_n 1, 1) := by decide +kernel
theorem dX6_mixParts_1 : decode cX6_mixParts 1 = .ok (.lstore_n 3, 1) := by decide +kernel
theorem dX6_mixParts_2 : decode cX6_mixParts 2 = .ok (.iconst 0, 1) := by decide +kernel
theorem dX6_mixParts_3 : decode cX6_mixParts 3 = .ok (.istore 5, 2) := by decide +kernel
theorem dX6_mixParts_5 : decode cX6_mixParts 5 = .ok (.iload 5, 2) := by decide +kernel
theorem dX6_mixParts_7 : decode cX6_mixParts 7 = .ok (.bipush 24, 2) := by decide +kernel
theorem dX6_mixParts_9 : decode cX6_mixParts 9 = .ok (.if_icmp .ge 38, 3) := by decide +kernel
theorem dX6_mixParts_12 : decode cX6_mixParts 12 = .ok (.iconst 0, 1) := by decide +kernel
theorem dX6_mixParts_13 : decode cX6_mixParts 13 = .ok (.istore 6, 2) := by decide +kernel
theorem dX6_mixParts_15 : decode cX6_mixParts 15 = .ok (.iload 6, 2) := by decide +kernel
theorem dX6_mixParts_17 : decode cX6_mixParts 17 = .ok (.iconst 4, 1) := by decide +kernel
theorem dX6_mixParts_18 : decode cX6_mixParts 18 = .ok (.if_icmp .ge 23, 3) := by decide +kernel
theorem dX6_mixParts_21 : decode cX6_mixParts 21 = .ok (.lload_n 3, 1) := by decide +kernel
theorem dX6_mixParts_22 : decode cX6_mixParts 22 = .ok (.aload_n 0, 1) := by decide +kernel
theorem dX6_mixParts_23 : decode cX6_mixParts 23 = .ok (.iload 5, 2) := by decide +kernel
theorem dX6_mixParts_25 : decode cX6_mixParts 25 = .ok (.iload 6, 2) := by decide +kernel
theorem dX6_mixParts_27 : decode cX6_mixParts 27 = .ok (.invokevirtual 176, 3) := by decide +kernel
theorem dX6_mixParts_30 : decode cX6_mixParts 30 = .ok (.i2l, 1) := by decide +kernel
theorem dX6_mixParts_31 : decode cX6_mixParts 31 = .ok (.invokestatic 213, 3) := by decide +kernel
theorem dX6_mixParts_34 : decode cX6_mixParts 34 = .ok (.lstore_n 3, 1) := by decide +kernel
theorem dX6_mixParts_35 : decode cX6_mixParts 35 = .ok (.iinc 6 1, 3) := by decide +kernel
theorem dX6_mixParts_38 : decode cX6_mixParts 38 = .ok (.goto (-23), 3) := by decide +kernel
theorem dX6_mixParts_41 : decode cX6_mixParts 41 = .ok (.iinc 5 1, 3) := by decide +kernel
theorem dX6_mixParts_44 : decode cX6_mixParts 44 = .ok (.goto (-39), 3) := by decide +kernel
theorem dX6_mixParts_47 : decode cX6_mixParts 47 = .ok (.iconst 0, 1) := by decide +kernel
theorem dX6_mixParts_48 : decode cX6_mixParts 48 = .ok (.istore 5, 2) := by decide +kernel
theorem dX6_mixParts_50 : decode cX6_mixParts 50 = .ok (.iload 5, 2) := by decide +kernel
theorem dX6_mixParts_52 : decode cX6_mixParts 52 = .ok (.bipush 6, 2) := by decide +kernel
theorem dX6_mixParts_54 : decode cX6_mixParts 54 = .ok (.if_icmp .ge 38, 3) := by decide +kernel
theorem dX6_mixParts_57 : decode cX6_mixParts 57 = .ok (.iconst 0, 1) := by decide +kernel
theorem dX6_mixParts_58 : decode cX6_mixParts 58 = .ok (.istore 6, 2) := by decide +kernel
theorem dX6_mixParts_60 : decode cX6_mixParts 60 = .ok (.iload 6, 2) := by decide +kernel
theorem dX6_mixParts_62 : decode cX6_mixParts 62 = .ok (.iconst 5, 1) := by decide +kernel
theorem dX6_mixParts_63 : decode cX6_mixParts 63 = .ok (.if_icmp .ge 23, 3) := by decide +kernel
theorem dX6_mixParts_66 : decode cX6_mixParts 66 = .ok (.lload_n 3, 1) := by decide +kernel
theorem dX6_mixParts_67 : decode cX6_mixParts 67 = .ok (.aload_n 0, 1) := by decide +kernel
theorem dX6_mixParts_68 : decode cX6_mixParts 68 = .ok (.iload 5, 2) := by decide +kernel
theorem dX6_mixParts_70 : decode cX6_mixParts 70 = .ok (.iload 6, 2) := by decide +kernel
theorem dX6_mixParts_72 : decode cX6_mixParts 72 = .ok (.invokevirtual 181, 3) := by decide +kernel
theorem dX6_mixParts_75 : decode cX6_mixParts 75 = .ok (.i2l, 1) := by decide +kernel
theorem dX6_mixParts_76 : decode cX6_mixParts 76 = .ok (.invokestatic 213, 3) := by decide +kernel
theorem dX6_mixParts_79 : decode cX6_mixParts 79 = .ok (.lstore_n 3, 1) := by decide +kernel
theorem dX6_mixParts_80 : decode cX6_mixParts 80 = .ok (.iinc 6 1, 3) := by decide +kernel
theorem dX6_mixParts_83 : decode cX6_mixParts 83 = .ok (.goto (-23), 3) := by decide +kernel
theorem dX6_mixParts_86 : decode cX6_mixParts 86 = .ok (.iinc 5 1, 3) := by decide +kernel
theorem dX6_mixParts_89 : decode cX6_mixParts 89 = .ok (.goto (-39), 3) := by decide +kernel
theorem dX6_mixParts_92 : decode cX6_mixParts 92 = .ok (.iconst 0, 1) := by decide +kernel
theorem dX6_mixParts_93 : decode cX6_mixParts 93 = .ok (.istore 5, 2) := by decide +kernel
theorem dX6_mixParts_95 : decode cX6_mixParts 95 = .ok (.iload 5, 2) := by decide +kernel
theorem dX6_mixParts_97 : decode cX6_mixParts 97 = .ok (.iconst 4, 1) := by decide +kernel
theorem dX6_mixParts_98 : decode cX6_mixParts 98 = .ok (.if_icmp .ge 38, 3) := by decide +kernel
theorem dX6_mixParts_101 : decode cX6_mixParts 101 = .ok (.iconst 0, 1) := by decide +kernel
theorem dX6_mixParts_102 : decode cX6_mixParts 102 = .ok (.istore 6, 2) := by decide +kernel
theorem dX6_mixParts_104 : decode cX6_mixParts 104 = .ok (.iload 6, 2) := by decide +kernel
theorem dX6_mixParts_106 : decode cX6_mixParts 106 = .ok (.iconst 3, 1) := by decide +kernel
theorem dX6_mixParts_107 : decode cX6_mixParts 107 = .ok (.if_icmp .ge 23, 3) := by decide +kernel
theorem dX6_mixParts_110 : decode cX6_mixParts 110 = .ok (.lload_n 3, 1) := by decide +kernel
theorem dX6_mixParts_111 : decode cX6_mixParts 111 = .ok (.aload_n 0, 1) := by decide +kernel
theorem dX6_mixParts_112 : decode cX6_mixParts 112 = .ok (.iload 5, 2) := by decide +kernel
theorem dX6_mixParts_114 : decode cX6_mixParts 114 = .ok (.iload 6, 2) := by decide +kernel
theorem dX6_mixParts_116 : decode cX6_mixParts 116 = .ok (.invokevirtual 186, 3) := by decide +kernel
theorem dX6_mixParts_119 : decode cX6_mixParts 119 = .ok (.i2l, 1) := by decide +kernel
theorem dX6_mixParts_120 : decode cX6_mixParts 120 = .ok (.invokestatic 213, 3) := by decide +kernel
theorem dX6_mixParts_123 : decode cX6_mixParts 123 = .ok (.lstore_n 3, 1) := by decide +kernel
theorem dX6_mixParts_124 : decode cX6_mixParts 124 = .ok (.iinc 6 1, 3) := by decide +kernel
theorem dX6_mixParts_127 : decode cX6_mixParts 127 = .ok (.goto (-23), 3) := by decide +kernel
theorem dX6_mixParts_130 : decode cX6_mixParts 130 = .ok (.iinc 5 1, 3) := by decide +kernel
theorem dX6_mixParts_133 : decode cX6_mixParts 133 = .ok (.goto (-38), 3) := by decide +kernel
theorem dX6_mixParts_136 : decode cX6_mixParts 136 = .ok (.lload_n 3, 1) := by decide +kernel
theorem dX6_mixParts_137 : decode cX6_mixParts 137 = .ok (.lreturn, 1) := by decide +kernel
theorem dX6_mixValue_0 : decode cX6_mixValue 0 = .ok (.aload_n 0, 1) := by decide +kernel
theorem dX6_mixValue_1 : decode cX6_mixValue 1 = .ok (.getfield 12, 3) := by decide +kernel
theorem dX6_mixValue_4 : decode cX6_mixValue 4 = .ok (.getfield 41, 3) := by decide +kernel
theorem dX6_mixValue_7 : decode cX6_mixValue 7 = .ok (.astore 4, 2) := by decide +kernel
theorem dX6_mixValue_9 : decode cX6_mixValue 9 = .ok (.lload_n 1, 1) := by decide +kernel
theorem dX6_mixValue_10 : decode cX6_mixValue 10 = .ok (.lstore 5, 2) := by decide +kernel
theorem dX6_mixValue_12 : decode cX6_mixValue 12 = .ok (.iconst 0, 1) := by decide +kernel
theorem dX6_mixValue_13 : decode cX6_mixValue 13 = .ok (.istore 7, 2) := by decide +kernel
theorem dX6_mixValue_15 : decode cX6_mixValue 15 = .ok (.iload 7, 2) := by decide +kernel
theorem dX6_mixValue_17 : decode cX6_mixValue 17 = .ok (.iconst 3, 1) := by decide +kernel
theorem dX6_mixValue_18 : decode cX6_mixValue 18 = .ok (.if_icmp .ge 51, 3) := by decide +kernel
theorem dX6_mixValue_21 : decode cX6_mixValue 21 = .ok (.lload 5, 2) := by decide +kernel
theorem dX6_mixValue_23 : decode cX6_mixValue 23 = .ok (.aload 4, 2) := by decide +kernel
theorem dX6_mixValue_25 : decode cX6_mixValue 25 = .ok (.aload 4, 2) := by decide +kernel
theorem dX6_mixValue_27 : decode cX6_mixValue 27 = .ok (.getfield 99, 3) := by decide +kernel
theorem dX6_mixValue_30 : decode cX6_mixValue 30 = .ok (.iload_n 3, 1) := by decide +kernel
theorem dX6_mixValue_31 : decode cX6_mixValue 31 = .ok (.iload 7, 2) := by decide +kernel
theorem dX6_mixValue_33 : decode cX6_mixValue 33 = .ok (.invokevirtual 139, 3) := by decide +kernel
theorem dX6_mixValue_36 : decode cX6_mixValue 36 = .ok (.i2l, 1) := by decide +kernel
theorem dX6_mixValue_37 : decode cX6_mixValue 37 = .ok (.invokestatic 213, 3) := by decide +kernel
theorem dX6_mixValue_40 : decode cX6_mixValue 40 = .ok (.lstore 5, 2) := by decide +kernel
theorem dX6_mixValue_42 : decode cX6_mixValue 42 = .ok (.lload 5, 2) := by decide +kernel
theorem dX6_mixValue_44 : decode cX6_mixValue 44 = .ok (.aload 4, 2) := by decide +kernel
theorem dX6_mixValue_46 : decode cX6_mixValue 46 = .ok (.aload 4, 2) := by decide +kernel
theorem dX6_mixValue_48 : decode cX6_mixValue 48 = .ok (.getfield 99, 3) := by decide +kernel
theorem dX6_mixValue_51 : decode cX6_mixValue 51 = .ok (.iload_n 3, 1) := by decide +kernel
theorem dX6_mixValue_52 : decode cX6_mixValue 52 = .ok (.iload 7, 2) := by decide +kernel
theorem dX6_mixValue_54 : decode cX6_mixValue 54 = .ok (.invokevirtual 126, 3) := by decide +kernel
theorem dX6_mixValue_57 : decode cX6_mixValue 57 = .ok (.i2l, 1) := by decide +kernel
theorem dX6_mixValue_58 : decode cX6_mixValue 58 = .ok (.invokestatic 213, 3) := by decide +kernel
theorem dX6_mixValue_61 : decode cX6_mixValue 61 = .ok (.lstore 5, 2) := by decide +kernel
theorem dX6_mixValue_63 : decode cX6_mixValue 63 = .ok (.iinc 7 1, 3) := by decide +kernel
theorem dX6_mixValue_66 : decode cX6_mixValue 66 = .ok (.goto (-51), 3) := by decide +kernel
theorem dX6_mixValue_69 : decode cX6_mixValue 69 = .ok (.lload 5, 2) := by decide +kernel
theorem dX6_mixValue_71 : decode cX6_mixValue 71 = .ok (.aload 4, 2) := by decide +kernel
theorem dX6_mixValue_73 : decode cX6_mixValue 73 = .ok (.iload_n 3, 1) := by decide +kernel
theorem dX6_mixValue_74 : decode cX6_mixValue 74 = .ok (.invokevirtual 198, 3) := by decide +kernel
theorem dX6_mixValue_77 : decode cX6_mixValue 77 = .ok (.i2l, 1) := by decide +kernel
theorem dX6_mixValue_78 : decode cX6_mixValue 78 = .ok (.invokestatic 213, 3) := by decide +kernel
theorem dX6_mixValue_81 : decode cX6_mixValue 81 = .ok (.lstore 5, 2) := by decide +kernel
theorem dX6_mixValue_83 : decode cX6_mixValue 83 = .ok (.lload 5, 2) := by decide +kernel
theorem dX6_mixValue_85 : decode cX6_mixValue 85 = .ok (.aload 4, 2) := by decide +kernel
theorem dX6_mixValue_87 : decode cX6_mixValue 87 = .ok (.iload_n 3, 1) := by decide +kernel
theorem dX6_mixValue_88 : decode cX6_mixValue 88 = .ok (.invokevirtual 201, 3) := by decide +kernel
theorem dX6_mixValue_91 : decode cX6_mixValue 91 = .ok (.i2l, 1) := by decide +kernel
theorem dX6_mixValue_92 : decode cX6_mixValue 92 = .ok (.invokestatic 213, 3) := by decide +kernel
theorem dX6_mixValue_95 : decode cX6_mixValue 95 = .ok (.lreturn, 1) := by decide +kernel
theorem dX6_bitsOfShare_0 : decode cX6_bitsOfShare 0 = .ok (.dload_n 0, 1) := by decide +kernel
theorem dX6_bitsOfShare_1 : decode cX6_bitsOfShare 1 = .ok (.dconst 0, 1) := by decide +kernel
theorem dX6_bitsOfShare_2 : decode cX6_bitsOfShare 2 = .ok (.dcmp .g, 1) := by decide +kernel
theorem dX6_bitsOfShare_3 : decode cX6_bitsOfShare 3 = .ok (.ifCond .gt 5, 3) := by decide +kernel
theorem dX6_bitsOfShare_6 : decode cX6_bitsOfShare 6 = .ok (.lconst 0, 1) := by decide +kernel
theorem dX6_bitsOfShare_7 : decode cX6_bitsOfShare 7 = .ok (.lreturn, 1) := by decide +kernel
theorem dX6_bitsOfShare_8 : decode cX6_bitsOfShare 8 = .ok (.dload_n 0, 1) := by decide +kernel
theorem dX6_bitsOfShare_9 : decode cX6_bitsOfShare 9 = .ok (.dstore_n 2, 1) := by decide +kernel
theorem dX6_bitsOfShare_10 : decode cX6_bitsOfShare 10 = .ok (.sipush 1023, 3) := by decide +kernel
theorem dX6_bitsOfShare_13 : decode cX6_bitsOfShare 13 = .ok (.istore 4, 2) := by decide +kernel
theorem dX6_bitsOfShare_15 : decode cX6_bitsOfShare 15 = .ok (.dload_n 2, 1) := by decide +kernel
theorem dX6_bitsOfShare_16 : decode cX6_bitsOfShare 16 = .ok (.dconst 1, 1) := by decide +kernel
theorem dX6_bitsOfShare_17 : decode cX6_bitsOfShare 17 = .ok (.dcmp .g, 1) := by decide +kernel
theorem dX6_bitsOfShare_18 : decode cX6_bitsOfShare 18 = .ok (.ifCond .ge 21, 3) := by decide +kernel
theorem dX6_bitsOfShare_21 : decode cX6_bitsOfShare 21 = .ok (.iload 4, 2) := by decide +kernel
theorem dX6_bitsOfShare_23 : decode cX6_bitsOfShare 23 = .ok (.iconst 1, 1) := by decide +kernel
theorem dX6_bitsOfShare_24 : decode cX6_bitsOfShare 24 = .ok (.if_icmp .le 15, 3) := by decide +kernel
theorem dX6_bitsOfShare_27 : decode cX6_bitsOfShare 27 = .ok (.dload_n 2, 1) := by decide +kernel
theorem dX6_bitsOfShare_28 : decode cX6_bitsOfShare 28 = .ok (.ldc2_w 291, 3) := by decide +kernel
theorem dX6_bitsOfShare_31 : decode cX6_bitsOfShare 31 = .ok (.dmul, 1) := by decide +kernel
theorem dX6_bitsOfShare_32 : decode cX6_bitsOfShare 32 = .ok (.dstore_n 2, 1) := by decide +kernel
theorem dX6_bitsOfShare_33 : decode cX6_bitsOfShare 33 = .ok (.iinc 4 (-1), 3) := by decide +kernel
theorem dX6_bitsOfShare_36 : decode cX6_bitsOfShare 36 = .ok (.goto (-21), 3) := by decide +kernel
theorem dX6_bitsOfShare_39 : decode cX6_bitsOfShare 39 = .ok (.dload_n 2, 1) := by decide +kernel
theorem dX6_bitsOfShare_40 : decode cX6_bitsOfShare 40 = .ok (.dconst 1, 1) := by decide +kernel
theorem dX6_bitsOfShare_41 : decode cX6_bitsOfShare 41 = .ok (.dsub, 1) := by decide +kernel
theorem dX6_bitsOfShare_42 : decode cX6_bitsOfShare 42 = .ok (.ldc2_w 293, 3) := by decide +kernel
theorem dX6_bitsOfShare_45 : decode cX6_bitsOfShare 45 = .ok (.dmul, 1) := by decide +kernel
theorem dX6_bitsOfShare_46 : decode cX6_bitsOfShare 46 = .ok (.d2l, 1) := by decide +kernel
theorem dX6_bitsOfShare_47 : decode cX6_bitsOfShare 47 = .ok (.lstore 5, 2) := by decide +kernel
theorem dX6_bitsOfShare_49 : decode cX6_bitsOfShare 49 = .ok (.iload 4, 2) := by decide +kernel
theorem dX6_bitsOfShare_51 : decode cX6_bitsOfShare 51 = .ok (.i2l, 1) := by decide +kernel
theorem dX6_bitsOfShare_52 : decode cX6_bitsOfShare 52 = .ok (.bipush 52, 2) := by decide +kernel
theorem dX6_bitsOfShare_54 : decode cX6_bitsOfShare 54 = .ok (.lshl, 1) := by decide +kernel
theorem dX6_bitsOfShare_55 : decode cX6_bitsOfShare 55 = .ok (.lload 5, 2) := by decide +kernel
theorem dX6_bitsOfShare_57 : decode cX6_bitsOfShare 57 = .ok (.ladd, 1) := by decide +kernel
theorem dX6_bitsOfShare_58 : decode cX6_bitsOfShare 58 = .ok (.lreturn, 1) := by decide +kernel
