theorem dX7_init_0 : decode cX7_init 0 = .ok (.aload_n 0, 1) := by decide +kernel
theorem dX7_init_1 : decode cX7_init 1 = .ok (.invokespecial 1, 3) := by decide +kernel
theorem dX7_init_4 : decode cX7_init 4 = .ok (.aload_n 0, 1) := by decide +kernel
theorem dX7_init_5 : decode cX7_init 5 = .ok (.bipush 99, 2) := by decide +kernel
theorem dX7_init_7 : decode cX7_init 7 = .ok (.newarray .int, 2) := by decide +kernel
theorem dX7_init_9 : decode cX7_init 9 = .ok (.putfield 7, 3) := by decide +kernel
theorem dX7_init_12 : decode cX7_init 12 = .ok (.aload_n 0, 1) := by decide +kernel
theorem dX7_init_13 : decode cX7_init 13 = .ok (.sipush 594, 3) := by decide +kernel
theorem dX7_init_16 : decode cX7_init 16 = .ok (.newarray .int, 2) := by decide +kernel
theorem dX7_init_18 : decode cX7_init 18 = .ok (.putfield 13, 3) := by decide +kernel
theorem dX7_init_21 : decode cX7_init 21 = .ok (.aload_n 0, 1) := by decide +kernel
theorem dX7_init_22 : decode cX7_init 22 = .ok (.bipush 60, 2) := by decide +kernel
theorem dX7_init_24 : decode cX7_init 24 = .ok (.newarray .int, 2) := by decide +kernel
theorem dX7_init_26 : decode cX7_init 26 = .ok (.putfield 16, 3) := by decide +kernel
theorem dX7_init_29 : decode cX7_init 29 = .ok (.aload_n 0, 1) := by decide +kernel
theorem dX7_init_30 : decode cX7_init 30 = .ok (.bipush 93, 2) := by decide +kernel
theorem dX7_init_32 : decode cX7_init 32 = .ok (.newarray .int, 2) := by decide +kernel
theorem dX7_init_34 : decode cX7_init 34 = .ok (.putfield 19, 3) := by decide +kernel
theorem dX7_init_37 : decode cX7_init 37 = .ok (.aload_n 0, 1) := by decide +kernel
theorem dX7_init_38 : decode cX7_init 38 = .ok (.iconst 0, 1) := by decide +kernel
theorem dX7_init_39 : decode cX7_init 39 = .ok (.putfield 22, 3) := by decide +kernel
theorem dX7_init_42 : decode cX7_init 42 = .ok (.return_, 1) := by decide +kernel
theorem dX7_thrown_0 : decode cX7_thrown 0 = .ok (.aload_n 0, 1) := by decide +kernel
theorem dX7_thrown_1 : decode cX7_thrown 1 = .ok (.getfield 22, 3) := by decide +kernel
theorem dX7_thrown_4 : decode cX7_thrown 4 = .ok (.ireturn, 1) := by decide +kernel
theorem dX7_in_0 : decode cX7_in 0 = .ok (.iload_n 0, 1) := by decide +kernel
theorem dX7_in_1 : decode cX7_in 1 = .ok (.iload_n 1, 1) := by decide +kernel
theorem dX7_in_2 : decode cX7_in 2 = .ok (.if_icmp .lt 12, 3) := by decide +kernel
theorem dX7_in_5 : decode cX7_in 5 = .ok (.iload_n 0, 1) := by decide +kernel
theorem dX7_in_6 : decode cX7_in 6 = .ok (.iload_n 2, 1) := by decide +kernel
theorem dX7_in_7 : decode cX7_in 7 = .ok (.if_icmp .gt 7, 3) := by decide +kernel
theorem dX7_in_10 : decode cX7_in 10 = .ok (.iconst 1, 1) := by decide +kernel
theorem dX7_in_11 : decode cX7_in 11 = .ok (.goto 4, 3) := by decide +kernel
theorem dX7_in_14 : decode cX7_in 14 = .ok (.iconst 0, 1) := by decide +kernel
theorem dX7_in_15 : decode cX7_in 15 = .ok (.ireturn, 1) := by decide +kernel
theorem dX7_fails_0 : decode cX7_fails 0 = .ok (.aload_n 0, 1) := by decide +kernel
theorem dX7_fails_1 : decode cX7_fails 1 = .ok (.iload_n 1, 1) := by decide +kernel
theorem dX7_fails_2 : decode cX7_fails 2 = .ok (.putfield 22, 3) := by decide +kernel
theorem dX7_fails_5 : decode cX7_fails 5 = .ok (.iconst 0, 1) := by decide +kernel
theorem dX7_fails_6 : decode cX7_fails 6 = .ok (.ireturn, 1) := by decide +kernel
theorem dX7_of_0 : decode cX7_of 0 = .ok (.aload_n 0, 1) := by decide +kernel
theorem dX7_of_1 : decode cX7_of 1 = .ok (.getfield 7, 3) := by decide +kernel
theorem dX7_of_4 : decode cX7_of 4 = .ok (.bipush 7, 2) := by decide +kernel
theorem dX7_of_6 : decode cX7_of 6 = .ok (.iconst 3, 1) := by decide +kernel
theorem dX7_of_7 : decode cX7_of 7 = .ok (.iload_n 1, 1) := by decide +kernel
theorem dX7_of_8 : decode cX7_of 8 = .ok (.imul, 1) := by decide +kernel
theorem dX7_of_9 : decode cX7_of 9 = .ok (.iadd, 1) := by decide +kernel
theorem dX7_of_10 : decode cX7_of 10 = .ok (.iload_n 2, 1) := by decide +kernel
theorem dX7_of_11 : decode cX7_of 11 = .ok (.iadd, 1) := by decide +kernel
theorem dX7_of_12 : decode cX7_of 12 = .ok (.iaload, 1) := by decide +kernel
theorem dX7_of_13 : decode cX7_of 13 = .ok (.ireturn, 1) := by decide +kernel
theorem dX7_lay_0 : decode cX7_lay 0 = .ok (.aload_n 0, 1) := by decide +kernel
theorem dX7_lay_1 : decode cX7_lay 1 = .ok (.getfield 7, 3) := by decide +kernel
theorem dX7_lay_4 : decode cX7_lay 4 = .ok (.bipush 7, 2) := by decide +kernel
theorem dX7_lay_6 : decode cX7_lay 6 = .ok (.iconst 3, 1) := by decide +kernel
theorem dX7_lay_7 : decode cX7_lay 7 = .ok (.iload_n 1, 1) := by decide +kernel
theorem dX7_lay_8 : decode cX7_lay 8 = .ok (.imul, 1) := by decide +kernel
theorem dX7_lay_9 : decode cX7_lay 9 = .ok (.iadd, 1) := by decide +kernel
theorem dX7_lay_10 : decode cX7_lay 10 = .ok (.iconst 0, 1) := by decide +kernel
theorem dX7_lay_11 : decode cX7_lay 11 = .ok (.iadd, 1) := by decide +kernel
theorem dX7_lay_12 : decode cX7_lay 12 = .ok (.iload_n 2, 1) := by decide +kernel
theorem dX7_lay_13 : decode cX7_lay 13 = .ok (.iastore, 1) := by decide +kernel
theorem dX7_lay_14 : decode cX7_lay 14 = .ok (.aload_n 0, 1) := by decide +kernel
theorem dX7_lay_15 : decode cX7_lay 15 = .ok (.getfield 7, 3) := by decide +kernel
theorem dX7_lay_18 : decode cX7_lay 18 = .ok (.bipush 7, 2) := by decide +kernel
theorem dX7_lay_20 : decode cX7_lay 20 = .ok (.iconst 3, 1) := by decide +kernel
theorem dX7_lay_21 : decode cX7_lay 21 = .ok (.iload_n 1, 1) := by decide +kernel
theorem dX7_lay_22 : decode cX7_lay 22 = .ok (.imul, 1) := by decide +kernel
theorem dX7_lay_23 : decode cX7_lay 23 = .ok (.iadd, 1) := by decide +kernel
theorem dX7_lay_24 : decode cX7_lay 24 = .ok (.iconst 1, 1) := by decide +kernel
theorem dX7_lay_25 : decode cX7_lay 25 = .ok (.iadd, 1) := by decide +kernel
theorem dX7_lay_26 : decode cX7_lay 26 = .ok (.iload_n 3, 1) := by decide +kernel
theorem dX7_lay_27 : decode cX7_lay 27 = .ok (.iastore, 1) := by decide +kernel
theorem dX7_lay_28 : decode cX7_lay 28 = .ok (.aload_n 0, 1) := by decide +kernel
theorem dX7_lay_29 : decode cX7_lay 29 = .ok (.getfield 7, 3) := by decide +kernel
theorem dX7_lay_32 : decode cX7_lay 32 = .ok (.bipush 7, 2) := by decide +kernel
theorem dX7_lay_34 : decode cX7_lay 34 = .ok (.iconst 3, 1) := by decide +kernel
theorem dX7_lay_35 : decode cX7_lay 35 = .ok (.iload_n 1, 1) := by decide +kernel
theorem dX7_lay_36 : decode cX7_lay 36 = .ok (.imul, 1) := by decide +kernel
theorem dX7_lay_37 : decode cX7_lay 37 = .ok (.iadd, 1) := by decide +kernel
theorem dX7_lay_38 : decode cX7_lay 38 = .ok (.iconst 2, 1) := by decide +kernel
theorem dX7_lay_39 : decode cX7_lay 39 = .ok (.iadd, 1) := by decide +kernel
theorem dX7_lay_40 : decode cX7_lay 40 = .ok (.iload 4, 2) := by decide +kernel
theorem dX7_lay_42 : decode cX7_lay 42 = .ok (.iastore, 1) := by decide +kernel
theorem dX7_lay_43 : decode cX7_lay 43 = .ok (.return_, 1) := by decide +kernel
theorem dX7_ofPage_0 : decode cX7_ofPage 0 = .ok (.aload_n 0, 1) := by decide +kernel
theorem dX7_ofPage_1 : decode cX7_ofPage 1 = .ok (.getfield 7, 3) := by decide +kernel
theorem dX7_ofPage_4 : decode cX7_ofPage 4 = .ok (.bipush 79, 2) := by decide +kernel
theorem dX7_ofPage_6 : decode cX7_ofPage 6 = .ok (.iconst 2, 1) := by decide +kernel
theorem dX7_ofPage_7 : decode cX7_ofPage 7 = .ok (.iload_n 1, 1) := by decide +kernel
theorem dX7_ofPage_8 : decode cX7_ofPage 8 = .ok (.imul, 1) := by decide +kernel
theorem dX7_ofPage_9 : decode cX7_ofPage 9 = .ok (.iadd, 1) := by decide +kernel
theorem dX7_ofPage_10 : decode cX7_ofPage 10 = .ok (.iload_n 2, 1) := by decide +kernel
theorem dX7_ofPage_11 : decode cX7_ofPage 11 = .ok (.iadd, 1) := by decide +kernel
theorem dX7_ofPage_12 : decode cX7_ofPage 12 = .ok (.iaload, 1) := by decide +kernel
theorem dX7_ofPage_13 : decode cX7_ofPage 13 = .ok (.ireturn, 1) := by decide +kernel
theorem dX7_snapshotOf_0 : decode cX7_snapshotOf 0 = .ok (.aload_n 0, 1) := by decide +kernel
theorem dX7_snapshotOf_1 : decode cX7_snapshotOf 1 = .ok (.getfield 7, 3) := by decide +kernel
theorem dX7_snapshotOf_4 : decode cX7_snapshotOf 4 = .ok (.bipush 91, 2) := by decide +kernel
theorem dX7_snapshotOf_6 : decode cX7_snapshotOf 6 = .ok (.iconst 2, 1) := by decide +kernel
theorem dX7_snapshotOf_7 : decode cX7_snapshotOf 7 = .ok (.iload_n 1, 1) := by decide +kernel
theorem dX7_snapshotOf_8 : decode cX7_snapshotOf 8 = .ok (.imul, 1) := by decide +kernel
theorem dX7_snapshotOf_9 : decode cX7_snapshotOf 9 = .ok (.iadd, 1) := by decide +kernel
theorem dX7_snapshotOf_10 : decode cX7_snapshotOf 10 = .ok (.iconst 0, 1) := by decide +kernel
theorem dX7_snapshotOf_11 : decode cX7_snapshotOf 11 = .ok (.iadd, 1) := by decide +kernel
theorem dX7_snapshotOf_12 : decode cX7_snapshotOf 12 = .ok (.iaload, 1) := by decide +kernel
theorem dX7_snapshotOf_13 : decode cX7_snapshotOf 13 = .ok (.iconst 1, 1) := by decide +kernel
theorem dX7_snapshotOf_14 : decode cX7_snapshotOf 14 = .ok (.isub, 1) := by decide +kernel
theorem dX7_snapshotOf_15 : decode cX7_snapshotOf 15 = .ok (.ireturn, 1) := by decide +kernel
theorem dX7_isPlace_0 : decode cX7_isPlace 0 = .ok (.iload_n 0, 1) := by decide +kernel
theorem dX7_isPlace_1 : decode cX7_isPlace 1 = .ok (.iconst 0, 1) := by decide +kernel
theorem dX7_isPlace_2 : decode cX7_isPlace 2 = .ok (.bipush 23, 2) := by decide +kernel
theorem dX7_isPlace_4 : decode cX7_isPlace 4 = .ok (.invokestatic 26, 3) := by decide +kernel
theorem dX7_isPlace_7 : decode cX7_isPlace 7 = .ok (.ireturn, 1) := by decide +kernel
theorem dX7_isPage_0 : decode cX7_isPage 0 = .ok (.iload_n 0, 1) := by decide +kernel
theorem dX7_isPage_1 : decode cX7_isPage 1 = .ok (.iconst 0, 1) := by decide +kernel
theorem dX7_isPage_2 : decode cX7_isPage 2 = .ok (.iconst 5, 1) := by decide +kernel
theorem dX7_isPage_3 : decode cX7_isPage 3 = .ok (.invokestatic 26, 3) := by decide +kernel
theorem dX7_isPage_6 : decode cX7_isPage 6 = .ok (.ireturn, 1) := by decide +kernel
theorem dX7_isAsker_0 : decode cX7_isAsker 0 = .ok (.iload_n 0, 1) := by decide +kernel
theorem dX7_isAsker_1 : decode cX7_isAsker 1 = .ok (.iconst 0, 1) := by decide +kernel
theorem dX7_isAsker_2 : decode cX7_isAsker 2 = .ok (.iconst 3, 1) := by decide +kernel
theorem dX7_isAsker_3 : decode cX7_isAsker 3 = .ok (.invokestatic 26, 3) := by decide +kernel
theorem dX7_isAsker_6 : decode cX7_isAsker 6 = .ok (.ireturn, 1) := by decide +kernel
theorem dX7_saves_0 : decode cX7_saves 0 = .ok (.aload_n 0, 1) := by decide +kernel
theorem dX7_saves_1 : decode cX7_saves 1 = .ok (.getfield 30, 3) := by decide +kernel
theorem dX7_saves_4 : decode cX7_saves 4 = .ok (.bipush 6, 2) := by decide +kernel
theorem dX7_saves_6 : decode cX7_saves 6 = .ok (.if_icmp .ne 43, 3) := by decide +kernel
theorem dX7_saves_9 : decode cX7_saves 9 = .ok (.iconst 0, 1) := by decide +kernel
theorem dX7_saves_10 : decode cX7_saves 10 = .ok (.istore_n 1, 1) := by decide +kernel
theorem dX7_saves_11 : decode cX7_saves 11 = .ok (.iload_n 1, 1) := by decide +kernel
theorem dX7_saves_12 : decode cX7_saves 12 = .ok (.sipush 495, 3) := by decide +kernel
theorem dX7_saves_15 : decode cX7_saves 15 = .ok (.if_icmp .ge 24, 3) := by decide +kernel
theorem dX7_saves_18 : decode cX7_saves 18 = .ok (.aload_n 0, 1) := by decide +kernel
theorem dX7_saves_19 : decode cX7_saves 19 = .ok (.getfield 13, 3) := by decide +kernel
theorem dX7_saves_22 : decode cX7_saves 22 = .ok (.iload_n 1, 1) := by decide +kernel
theorem dX7_saves_23 : decode cX7_saves 23 = .ok (.aload_n 0, 1) := by decide +kernel
theorem dX7_saves_24 : decode cX7_saves 24 = .ok (.getfield 13, 3) := by decide +kernel
theorem dX7_saves_27 : decode cX7_saves 27 = .ok (.iload_n 1, 1) := by decide +kernel
theorem dX7_saves_28 : decode cX7_saves 28 = .ok (.bipush 99, 2) := by decide +kernel
theorem dX7_saves_30 : decode cX7_saves 30 = .ok (.iadd, 1) := by decide +kernel
theorem dX7_saves_31 : decode cX7_saves 31 = .ok (.iaload, 1) := by decide +kernel
theorem dX7_saves_32 : decode cX7_saves 32 = .ok (.iastore, 1) := by decide +kernel
theorem dX7_saves_33 : decode cX7_saves 33 = .ok (.iinc 1 1, 3) := by decide +kernel
theorem dX7_saves_36 : decode cX7_saves 36 = .ok (.goto (-25), 3) := by decide +kernel
theorem dX7_saves_39 : decode cX7_saves 39 = .ok (.aload_n 0, 1) := by decide +kernel
theorem dX7_saves_40 : decode cX7_saves 40 = .ok (.dup, 1) := by decide +kernel
theorem dX7_saves_41 : decode cX7_saves 41 = .ok (.getfield 30, 3) := by decide +kernel
theorem dX7_saves_44 : decode cX7_saves 44 = .ok (.iconst 1, 1) := by decide +kernel
theorem dX7_saves_45 : decode cX7_saves 45 = .ok (.isub, 1) := by decide +kernel
theorem dX7_saves_46 : decode cX7_saves 46 = .ok (.putfield 30, 3) := by decide +kernel
theorem dX7_saves_49 : decode cX7_saves 49 = .ok (.iconst 0, 1) := by decide +kernel
theorem dX7_saves_50 : decode cX7_saves 50 = .ok (.istore_n 1, 1) := by decide +kernel
theorem dX7_saves_51 : decode cX7_saves 51 = .ok (.iload_n 1, 1) := by decide +kernel
theorem dX7_saves_52 : decode cX7_saves 52 = .ok (.bipush 99, 2) := by decide +kernel
theorem dX7_saves_54 : decode cX7_saves 54 = .ok (.if_icmp .ge 29, 3) := by decide +kernel
theorem dX7_saves_57 : decode cX7_saves 57 = .ok (.aload_n 0, 1) := by decide +kernel
theorem dX7_saves_58 : decode cX7_saves 58 = .ok (.getfield 13, 3) := by decide +kernel
theorem dX7_saves_61 : decode cX7_saves 61 = .ok (.bipush 99, 2) := by decide +kernel
theorem dX7_saves_63 : decode cX7_saves 63 = .ok (.aload_n 0, 1) := by decide +kernel
theorem dX7_saves_64 : decode cX7_saves 64 = .ok (.getfield 30, 3) := by decide +kernel
theorem dX7_saves_67 : decode cX7_saves 67 = .ok (.imul, 1) := by decide +kernel
theorem dX7_saves_68 : decode cX7_saves 68 = .ok (.iload_n 1, 1) := by decide +kernel
theorem dX7_saves_69 : decode cX7_saves 69 = .ok (.iadd, 1) := by decide +kernel
theorem dX7_saves_70 : decode cX7_saves 70 = .ok (.aload_n 0, 1) := by decide +kernel
theorem dX7_saves_71 : decode cX7_saves 71 = .ok (.getfield 7, 3) := by decide +kernel
theorem dX7_saves_74 : decode cX7_saves 74 = .ok (.iload_n 1, 1) := by decide +kernel
theorem dX7_saves_75 : decode cX7_saves 75 = .ok (.iaload, 1) := by decide +kernel
theorem dX7_saves_76 : decode cX7_saves 76 = .ok (.iastore, 1) := by decide +kernel
theorem dX7_saves_77 : decode cX7_saves 77 = .ok (.iinc 1 1, 3) := by decide +kernel
theorem dX7_saves_80 : decode cX7_saves 80 = .ok (.goto (-29), 3) := by decide +kernel
theorem dX7_saves_83 : decode cX7_saves 83 = .ok (.aload_n 0, 1) := by decide +kernel
theorem dX7_saves_84 : decode cX7_saves 84 = .ok (.dup, 1) := by decide +kernel
theorem dX7_saves_85 : decode cX7_saves 85 = .ok (.getfield 30, 3) := by decide +kernel
theorem dX7_saves_88 : decode cX7_saves 88 = .ok (.iconst 1, 1) := by decide +kernel
theorem dX7_saves_89 : decode cX7_saves 89 = .ok (.iadd, 1) := by decide +kernel
theorem dX7_saves_90 : decode cX7_saves 90 = .ok (.putfield 30, 3) := by decide +kernel
theorem dX7_saves_93 : decode cX7_saves 93 = .ok (.return_, 1) := by decide +kernel
theorem dX7_isFull_0 : decode cX7_isFull 0 = .ok (.aload_n 0, 1) := by decide +kernel
theorem dX7_isFull_1 : decode cX7_isFull 1 = .ok (.iload_n 1, 1) := by decide +kernel
theorem dX7_isFull_2 : decode cX7_isFull 2 = .ok (.iconst 0, 1) := by decide +kernel
theorem dX7_isFull_3 : decode cX7_isFull 3 = .ok (.invokevirtual 33, 3) := by decide +kernel
theorem dX7_isFull_6 : decode cX7_isFull 6 = .ok (.ifCond .le 7, 3) := by decide +kernel
theorem dX7_isFull_9 : decode cX7_isFull 9 = .ok (.iconst 1, 1) := by decide +kernel
theorem dX7_isFull_10 : decode cX7_isFull 10 = .ok (.goto 4, 3) := by decide +kernel
theorem dX7_isFull_13 : decode cX7_isFull 13 = .ok (.iconst 0, 1) := by decide +kernel
theorem dX7_isFull_14 : decode cX7_isFull 14 = .ok (.ireturn, 1) := by decide +kernel
theorem dX7_isSeen_0 : decode cX7_isSeen 0 = .ok (.aload_n 0, 1) := by decide +kernel
theorem dX7_isSeen_1 : decode cX7_isSeen 1 = .ok (.iload_n 1, 1) := by decide +kernel
theorem dX7_isSeen_2 : decode cX7_isSeen 2 = .ok (.invokevirtual 37, 3) := by decide +kernel
theorem dX7_isSeen_5 : decode cX7_isSeen 5 = .ok (.ifCond .eq 17, 3) := by decide +kernel
theorem dX7_isSeen_8 : decode cX7_isSeen 8 = .ok (.aload_n 0, 1) := by decide +kernel
theorem dX7_isSeen_9 : decode cX7_isSeen 9 = .ok (.iload_n 1, 1) := by decide +kernel
theorem dX7_isSeen_10 : decode cX7_isSeen 10 = .ok (.iconst 1, 1) := by decide +kernel
theorem dX7_isSeen_11 : decode cX7_isSeen 11 = .ok (.invokevirtual 33, 3) := by decide +kernel
theorem dX7_isSeen_14 : decode cX7_isSeen 14 = .ok (.iload_n 2, 1) := by decide +kernel
theorem dX7_isSeen_15 : decode cX7_isSeen 15 = .ok (.if_icmp .gt 7, 3) := by decide +kernel
theorem dX7_isSeen_18 : decode cX7_isSeen 18 = .ok (.iconst 1, 1) := by decide +kernel
theorem dX7_isSeen_19 : decode cX7_isSeen 19 = .ok (.goto 4, 3) := by decide +kernel
theorem dX7_isSeen_22 : decode cX7_isSeen 22 = .ok (.iconst 0, 1) := by decide +kernel
theorem dX7_isSeen_23 : decode cX7_isSeen 23 = .ok (.istore_n 3, 1) := by decide +kernel
theorem dX7_isSeen_24 : decode cX7_isSeen 24 = .ok (.iload_n 3, 1) := by decide +kernel
theorem dX7_isSeen_25 : decode cX7_isSeen 25 = .ok (.ifCond .eq 26, 3) := by decide +kernel
theorem dX7_isSeen_28 : decode cX7_isSeen 28 = .ok (.aload_n 0, 1) := by decide +kernel
theorem dX7_isSeen_29 : decode cX7_isSeen 29 = .ok (.iload_n 1, 1) := by decide +kernel
theorem dX7_isSeen_30 : decode cX7_isSeen 30 = .ok (.iconst 2, 1) := by decide +kernel
theorem dX7_isSeen_31 : decode cX7_isSeen 31 = .ok (.invokevirtual 33, 3) := by decide +kernel
theorem dX7_isSeen_34 : decode cX7_isSeen 34 = .ok (.ifCond .eq 13, 3) := by decide +kernel
theorem dX7_isSeen_37 : decode cX7_isSeen 37 = .ok (.aload_n 0, 1) := by decide +kernel
theorem dX7_isSeen_38 : decode cX7_isSeen 38 = .ok (.iload_n 1, 1) := by decide +kernel
theorem dX7_isSeen_39 : decode cX7_isSeen 39 = .ok (.iconst 2, 1) := by decide +kernel
theorem dX7_isSeen_40 : decode cX7_isSeen 40 = .ok (.invokevirtual 33, 3) := by decide +kernel
theorem dX7_isSeen_43 : decode cX7_isSeen 43 = .ok (.iload_n 2, 1) := by decide +kernel
theorem dX7_isSeen_44 : decode cX7_isSeen 44 = .ok (.if_icmp .le 7, 3) := by decide +kernel
theorem dX7_isSeen_47 : decode cX7_isSeen 47 = .ok (.iconst 1, 1) := by decide +kernel
theorem dX7_isSeen_48 : decode cX7_isSeen 48 = .ok (.goto 4, 3) := by decide +kernel
theorem dX7_isSeen_51 : decode cX7_isSeen 51 = .ok (.iconst 0, 1) := by decide +kernel
theorem dX7_isSeen_52 : decode cX7_isSeen 52 = .ok (.ireturn, 1) := by decide +kernel
theorem dX7_lowestEmpty_0 : decode cX7_lowestEmpty 0 = .ok (.iconst 0, 1) := by decide +kernel
theorem dX7_lowestEmpty_1 : decode cX7_lowestEmpty 1 = .ok (.istore_n 1, 1) := by decide +kernel
theorem dX7_lowestEmpty_2 : decode cX7_lowestEmpty 2 = .ok (.iload_n 1, 1) := by decide +kernel
theorem dX7_lowestEmpty_3 : decode cX7_lowestEmpty 3 = .ok (.bipush 24, 2) := by decide +kernel
theorem dX7_lowestEmpty_5 : decode cX7_lowestEmpty 5 = .ok (.if_icmp .ge 17, 3) := by decide +kernel
theorem dX7_lowestEmpty_8 : decode cX7_lowestEmpty 8 = .ok (.aload_n 0, 1) := by decide +kernel
theorem dX7_lowestEmpty_9 : decode cX7_lowestEmpty 9 = .ok (.iload_n 1, 1) := by decide +kernel
theorem dX7_lowestEmpty_10 : decode cX7_lowestEmpty 10 = .ok (.invokevirtual 37, 3) := by decide +kernel
theorem dX7_lowestEmpty_13 : decode cX7_lowestEmpty 13 = .ok (.ifCond .eq 9, 3) := by decide +kernel
theorem dX7_lowestEmpty_16 : decode cX7_lowestEmpty 16 = .ok (.iinc 1 1, 3) := by decide +kernel
theorem dX7_lowestEmpty_19 : decode cX7_lowestEmpty 19 = .ok (.goto (-17), 3) := by decide +kernel
theorem dX7_lowestEmpty_22 : decode cX7_lowestEmpty 22 = .ok (.iload_n 1, 1) := by decide +kernel
theorem dX7_lowestEmpty_23 : decode cX7_lowestEmpty 23 = .ok (.bipush 24, 2) := by decide +kernel
theorem dX7_lowestEmpty_25 : decode cX7_lowestEmpty 25 = .ok (.if_icmp .ge 7, 3) := by decide +kernel
theorem dX7_lowestEmpty_28 : decode cX7_lowestEmpty 28 = .ok (.iload_n 1, 1) := by decide +kernel
theorem dX7_lowestEmpty_29 : decode cX7_lowestEmpty 29 = .ok (.goto 4, 3) := by decide +kernel
theorem dX7_lowestEmpty_32 : decode cX7_lowestEmpty 32 = .ok (.iconst (-1), 1) := by decide +kernel
theorem dX7_lowestEmpty_33 : decode cX7_lowestEmpty 33 = .ok (.ireturn, 1) := by decide +kernel
theorem dX7_unmarks_0 : decode cX7_unmarks 0 = .ok (.aload_n 0, 1) := by decide +kernel
theorem dX7_unmarks_1 : decode cX7_unmarks 1 = .ok (.getfield 7, 3) := by decide +kernel
theorem dX7_unmarks_4 : decode cX7_unmarks 4 = .ok (.bipush 79, 2) := by decide +kernel
theorem dX7_unmarks_6 : decode cX7_unmarks 6 = .ok (.iconst 2, 1) := by decide +kernel
theorem dX7_unmarks_7 : decode cX7_unmarks 7 = .ok (.iload_n 1, 1) := by decide +kernel
theorem dX7_unmarks_8 : decode cX7_unmarks 8 = .ok (.iconst 4, 1) := by decide +kernel
theorem dX7_unmarks_9 : decode cX7_unmarks 9 = .ok (.idiv, 1) := by decide +kernel
theorem dX7_unmarks_10 : decode cX7_unmarks 10 = .ok (.imul, 1) := by decide +kernel
theorem dX7_unmarks_11 : decode cX7_unmarks 11 = .ok (.iadd, 1) := by decide +kernel
theorem dX7_unmarks_12 : decode cX7_unmarks 12 = .ok (.iconst 0, 1) := by decide +kernel
theorem dX7_unmarks_13 : decode cX7_unmarks 13 = .ok (.iadd, 1) := by decide +kernel
theorem dX7_unmarks_14 : decode cX7_unmarks 14 = .ok (.iconst 0, 1) := by decide +kernel
theorem dX7_unmarks_15 : decode cX7_unmarks 15 = .ok (.iastore, 1) := by decide +kernel
theorem dX7_unmarks_16 : decode cX7_unmarks 16 = .ok (.aload_n 0, 1) := by decide +kernel
theorem dX7_unmarks_17 : decode cX7_unmarks 17 = .ok (.getfield 7, 3) := by decide +kernel
theorem dX7_unmarks_20 : decode cX7_unmarks 20 = .ok (.bipush 79, 2) := by decide +kernel
theorem dX7_unmarks_22 : decode cX7_unmarks 22 = .ok (.iconst 2, 1) := by decide +kernel
theorem dX7_unmarks_23 : decode cX7_unmarks 23 = .ok (.iload_n 1, 1) := by decide +kernel
theorem dX7_unmarks_24 : decode cX7_unmarks 24 = .ok (.iconst 4, 1) := by decide +kernel
theorem dX7_unmarks_25 : decode cX7_unmarks 25 = .ok (.idiv, 1) := by decide +kernel
theorem dX7_unmarks_26 : decode cX7_unmarks 26 = .ok (.imul, 1) := by decide +kernel
theorem dX7_unmarks_27 : decode cX7_unmarks 27 = .ok (.iadd, 1) := by decide +kernel
theorem dX7_unmarks_28 : decode cX7_unmarks 28 = .ok (.iconst 1, 1) := by decide +kernel
theorem dX7_unmarks_29 : decode cX7_unmarks 29 = .ok (.iadd, 1) := by decide +kernel
theorem dX7_unmarks_30 : decode cX7_unmarks 30 = .ok (.iconst 0, 1) := by decide +kernel
theorem dX7_unmarks_31 : decode cX7_unmarks 31 = .ok (.iastore, 1) := by decide +kernel
theorem dX7_unmarks_32 : decode cX7_unmarks 32 = .ok (.return_, 1) := by decide +kernel
theorem dX7_comes_0 : decode cX7_comes 0 = .ok (.aload_n 0, 1) := by decide +kernel
theorem dX7_comes_1 : decode cX7_comes 1 = .ok (.iload_n 1, 1) := by decide +kernel
theorem dX7_comes_2 : decode cX7_comes 2 = .ok (.iload_n 2, 1) := by decide +kernel
theorem dX7_comes_3 : decode cX7_comes 3 = .ok (.iconst 1, 1) := by decide +kernel
theorem dX7_comes_4 : decode cX7_comes 4 = .ok (.iadd, 1) := by decide +kernel
theorem dX7_comes_5 : decode cX7_comes 5 = .ok (.aload_n 0, 1) := by decide +kernel
theorem dX7_comes_6 : decode cX7_comes 6 = .ok (.getfield 7, 3) := by decide +kernel
theorem dX7_comes_9 : decode cX7_comes 9 = .ok (.iconst 0, 1) := by decide +kernel
theorem dX7_comes_10 : decode cX7_comes 10 = .ok (.iaload, 1) := by decide +kernel
theorem dX7_comes_11 : decode cX7_comes 11 = .ok (.iconst 0, 1) := by decide +kernel
theorem dX7_comes_12 : decode cX7_comes 12 = .ok (.invokevirtual 41, 3) := by decide +kernel
theorem dX7_comes_15 : decode cX7_comes 15 = .ok (.aload_n 0, 1) := by decide +kernel
theorem dX7_comes_16 : decode cX7_comes 16 = .ok (.iload_n 1, 1) := by decide +kernel
theorem dX7_comes_17 : decode cX7_comes 17 = .ok (.invokevirtual 45, 3) := by decide +kernel
theorem dX7_comes_20 : decode cX7_comes 20 = .ok (.return_, 1) := by decide +kernel
theorem dX7_goes_0 : decode cX7_goes 0 = .ok (.aload_n 0, 1) := by decide +kernel
theorem dX7_goes_1 : decode cX7_goes 1 = .ok (.getfield 7, 3) := by decide +kernel
theorem dX7_goes_4 : decode cX7_goes 4 = .ok (.bipush 7, 2) := by decide +kernel
theorem dX7_goes_6 : decode cX7_goes 6 = .ok (.iconst 3, 1) := by decide +kernel
theorem dX7_goes_7 : decode cX7_goes 7 = .ok (.iload_n 1, 1) := by decide +kernel
theorem dX7_goes_8 : decode cX7_goes 8 = .ok (.imul, 1) := by decide +kernel
theorem dX7_goes_9 : decode cX7_goes 9 = .ok (.iadd, 1) := by decide +kernel
theorem dX7_goes_10 : decode cX7_goes 10 = .ok (.iconst 2, 1) := by decide +kernel
theorem dX7_goes_11 : decode cX7_goes 11 = .ok (.iadd, 1) := by decide +kernel
theorem dX7_goes_12 : decode cX7_goes 12 = .ok (.aload_n 0, 1) := by decide +kernel
theorem dX7_goes_13 : decode cX7_goes 13 = .ok (.getfield 7, 3) := by decide +kernel
theorem dX7_goes_16 : decode cX7_goes 16 = .ok (.iconst 0, 1) := by decide +kernel
theorem dX7_goes_17 : decode cX7_goes 17 = .ok (.iaload, 1) := by decide +kernel
theorem dX7_goes_18 : decode cX7_goes 18 = .ok (.iastore, 1) := by decide +kernel
theorem dX7_goes_19 : decode cX7_goes 19 = .ok (.aload_n 0, 1) := by decide +kernel
theorem dX7_goes_20 : decode cX7_goes 20 = .ok (.iload_n 1, 1) := by decide +kernel
theorem dX7_goes_21 : decode cX7_goes 21 = .ok (.invokevirtual 45, 3) := by decide +kernel
theorem dX7_goes_24 : decode cX7_goes 24 = .ok (.return_, 1) := by decide +kernel
theorem dX7_changes_0 : decode cX7_changes 0 = .ok (.aload_n 0, 1) := by decide +kernel
theorem dX7_changes_1 : decode cX7_changes 1 = .ok (.invokevirtual 49, 3) := by decide +kernel
theorem dX7_changes_4 : decode cX7_changes 4 = .ok (.istore 4, 2) := by decide +kernel
theorem dX7_changes_6 : decode cX7_changes 6 = .ok (.aload_n 0, 1) := by decide +kernel
theorem dX7_changes_7 : decode cX7_changes 7 = .ok (.getfield 7, 3) := by decide +kernel
theorem dX7_changes_10 : decode cX7_changes 10 = .ok (.iconst 0, 1) := by decide +kernel
theorem dX7_changes_11 : decode cX7_changes 11 = .ok (.dup2, 1) := by decide +kernel
theorem dX7_changes_12 : decode cX7_changes 12 = .ok (.iaload, 1) := by decide +kernel
theorem dX7_changes_13 : decode cX7_changes 13 = .ok (.iconst 1, 1) := by decide +kernel
theorem dX7_changes_14 : decode cX7_changes 14 = .ok (.iadd, 1) := by decide +kernel
theorem dX7_changes_15 : decode cX7_changes 15 = .ok (.iastore, 1) := by decide +kernel
theorem dX7_changes_16 : decode cX7_changes 16 = .ok (.iload_n 1, 1) := by decide +kernel
theorem dX7_changes_17 : decode cX7_changes 17 = .ok (.bipush 43, 2) := by decide +kernel
theorem dX7_changes_19 : decode cX7_changes 19 = .ok (.if_icmp .eq 8, 3) := by decide +kernel
theorem dX7_changes_22 : decode cX7_changes 22 = .ok (.aload_n 0, 1) := by decide +kernel
theorem dX7_changes_23 : decode cX7_changes 23 = .ok (.iload_n 2, 1) := by decide +kernel
theorem dX7_changes_24 : decode cX7_changes 24 = .ok (.invokevirtual 53, 3) := by decide +kernel
theorem dX7_changes_27 : decode cX7_changes 27 = .ok (.iload_n 1, 1) := by decide +kernel
theorem dX7_changes_28 : decode cX7_changes 28 = .ok (.bipush 45, 2) := by decide +kernel
theorem dX7_changes_30 : decode cX7_changes 30 = .ok (.if_icmp .eq 10, 3) := by decide +kernel
theorem dX7_changes_33 : decode cX7_changes 33 = .ok (.aload_n 0, 1) := by decide +kernel
theorem dX7_changes_34 : decode cX7_changes 34 = .ok (.iload 4, 2) := by decide +kernel
theorem dX7_changes_36 : decode cX7_changes 36 = .ok (.iload_n 3, 1) := by decide +kernel
theorem dX7_changes_37 : decode cX7_changes 37 = .ok (.invokevirtual 56, 3) := by decide +kernel
theorem dX7_changes_40 : decode cX7_changes 40 = .ok (.iload 4, 2) := by decide +kernel
theorem dX7_changes_42 : decode cX7_changes 42 = .ok (.ireturn, 1) := by decide +kernel
theorem dX7_canChange_0 : decode cX7_canChange 0 = .ok (.iload_n 1, 1) := by decide +kernel
theorem dX7_canChange_1 : decode cX7_canChange 1 = .ok (.bipush 43, 2) := by decide +kernel
theorem dX7_canChange_3 : decode cX7_canChange 3 = .ok (.if_icmp .eq 24, 3) := by decide +kernel
theorem dX7_canChange_6 : decode cX7_canChange 6 = .ok (.iload_n 2, 1) := by decide +kernel
theorem dX7_canChange_7 : decode cX7_canChange 7 = .ok (.invokestatic 60, 3) := by decide +kernel
theorem dX7_canChange_10 : decode cX7_canChange 10 = .ok (.ifCond .eq 21, 3) := by decide +kernel
theorem dX7_canChange_13 : decode cX7_canChange 13 = .ok (.aload_n 0, 1) := by decide +kernel
theorem dX7_canChange_14 : decode cX7_canChange 14 = .ok (.iload_n 2, 1) := by decide +kernel
theorem dX7_canChange_15 : decode cX7_canChange 15 = .ok (.aload_n 0, 1) := by decide +kernel
theorem dX7_canChange_16 : decode cX7_canChange 16 = .ok (.getfield 7, 3) := by decide +kernel
theorem dX7_canChange_19 : decode cX7_canChange 19 = .ok (.iconst 0, 1) := by decide +kernel
theorem dX7_canChange_20 : decode cX7_canChange 20 = .ok (.iaload, 1) := by decide +kernel
theorem dX7_canChange_21 : decode cX7_canChange 21 = .ok (.invokevirtual 63, 3) := by decide +kernel
theorem dX7_canChange_24 : decode cX7_canChange 24 = .ok (.ifCond .eq 7, 3) := by decide +kernel
theorem dX7_canChange_27 : decode cX7_canChange 27 = .ok (.iconst 1, 1) := by decide +kernel
theorem dX7_canChange_28 : decode cX7_canChange 28 = .ok (.goto 4, 3) := by decide +kernel
theorem dX7_canChange_31 : decode cX7_canChange 31 = .ok (.iconst 0, 1) := by decide +kernel
theorem dX7_canChange_32 : decode cX7_canChange 32 = .ok (.istore_n 3, 1) := by decide +kernel
theorem dX7_canChange_33 : decode cX7_canChange 33 = .ok (.iload_n 3, 1) := by decide +kernel
theorem dX7_canChange_34 : decode cX7_canChange 34 = .ok (.ifCond .eq 21, 3) := by decide +kernel
theorem dX7_canChange_37 : decode cX7_canChange 37 = .ok (.iload_n 1, 1) := by decide +kernel
theorem dX7_canChange_38 : decode cX7_canChange 38 = .ok (.bipush 45, 2) := by decide +kernel
theorem dX7_canChange_40 : decode cX7_canChange 40 = .ok (.if_icmp .eq 11, 3) := by decide +kernel
theorem dX7_canChange_43 : decode cX7_canChange 43 = .ok (.aload_n 0, 1) := by decide +kernel
theorem dX7_canChange_44 : decode cX7_canChange 44 = .ok (.invokevirtual 49, 3) := by decide +kernel
theorem dX7_canChange_47 : decode cX7_canChange 47 = .ok (.iconst (-1), 1) := by decide +kernel
theorem dX7_canChange_48 : decode cX7_canChange 48 = .ok (.if_icmp .eq 7, 3) := by decide +kernel
theorem dX7_canChange_51 : decode cX7_canChange 51 = .ok (.iconst 1, 1) := by decide +kernel
theorem dX7_canChange_52 : decode cX7_canChange 52 = .ok (.goto 4, 3) := by decide +kernel
theorem dX7_canChange_55 : decode cX7_canChange 55 = .ok (.iconst 0, 1) := by decide +kernel
theorem dX7_canChange_56 : decode cX7_canChange 56 = .ok (.ireturn, 1) := by decide +kernel
theorem dX7_put_0 : decode cX7_put 0 = .ok (.aload_n 0, 1) := by decide +kernel
theorem dX7_put_1 : decode cX7_put 1 = .ok (.iconst 0, 1) := by decide +kernel
theorem dX7_put_2 : decode cX7_put 2 = .ok (.putfield 22, 3) := by decide +kernel
theorem dX7_put_5 : decode cX7_put 5 = .ok (.iload_n 1, 1) := by decide +kernel
theorem dX7_put_6 : decode cX7_put 6 = .ok (.iconst 0, 1) := by decide +kernel
theorem dX7_put_7 : decode cX7_put 7 = .ok (.bipush 9, 2) := by decide +kernel
theorem dX7_put_9 : decode cX7_put 9 = .ok (.invokestatic 26, 3) := by decide +kernel
theorem dX7_put_12 : decode cX7_put 12 = .ok (.ifCond .ne 9, 3) := by decide +kernel
theorem dX7_put_15 : decode cX7_put 15 = .ok (.aload_n 0, 1) := by decide +kernel
theorem dX7_put_16 : decode cX7_put 16 = .ok (.iconst 1, 1) := by decide +kernel
theorem dX7_put_17 : decode cX7_put 17 = .ok (.invokevirtual 67, 3) := by decide +kernel
theorem dX7_put_20 : decode cX7_put 20 = .ok (.ireturn, 1) := by decide +kernel
theorem dX7_put_21 : decode cX7_put 21 = .ok (.aload_n 0, 1) := by decide +kernel
theorem dX7_put_22 : decode cX7_put 22 = .ok (.bipush 43, 2) := by decide +kernel
theorem dX7_put_24 : decode cX7_put 24 = .ok (.iconst 0, 1) := by decide +kernel
theorem dX7_put_25 : decode cX7_put 25 = .ok (.invokevirtual 71, 3) := by decide +kernel
theorem dX7_put_28 : decode cX7_put 28 = .ok (.ifCond .ne 9, 3) := by decide +kernel
theorem dX7_put_31 : decode cX7_put 31 = .ok (.aload_n 0, 1) := by decide +kernel
theorem dX7_put_32 : decode cX7_put 32 = .ok (.iconst 2, 1) := by decide +kernel
theorem dX7_put_33 : decode cX7_put 33 = .ok (.invokevirtual 67, 3) := by decide +kernel
theorem dX7_put_36 : decode cX7_put 36 = .ok (.ireturn, 1) := by decide +kernel
theorem dX7_put_37 : decode cX7_put 37 = .ok (.aload_n 0, 1) := by decide +kernel
theorem dX7_put_38 : decode cX7_put 38 = .ok (.invokevirtual 74, 3) := by decide +kernel
theorem dX7_put_41 : decode cX7_put 41 = .ok (.aload_n 0, 1) := by decide +kernel
theorem dX7_put_42 : decode cX7_put 42 = .ok (.bipush 43, 2) := by decide +kernel
theorem dX7_put_44 : decode cX7_put 44 = .ok (.iconst 0, 1) := by decide +kernel
theorem dX7_put_45 : decode cX7_put 45 = .ok (.iload_n 1, 1) := by decide +kernel
theorem dX7_put_46 : decode cX7_put 46 = .ok (.invokevirtual 77, 3) := by decide +kernel
theorem dX7_put_49 : decode cX7_put 49 = .ok (.ireturn, 1) := by decide +kernel
theorem dX7_take_0 : decode cX7_take 0 = .ok (.aload_n 0, 1) := by decide +kernel
theorem dX7_take_1 : decode cX7_take 1 = .ok (.iconst 0, 1) := by decide +kernel
theorem dX7_take_2 : decode cX7_take 2 = .ok (.putfield 22, 3) := by decide +kernel
theorem dX7_take_5 : decode cX7_take 5 = .ok (.iload_n 1, 1) := by decide +kernel
theorem dX7_take_6 : decode cX7_take 6 = .ok (.invokestatic 60, 3) := by decide +kernel
theorem dX7_take_9 : decode cX7_take 9 = .ok (.ifCond .ne 9, 3) := by decide +kernel
theorem dX7_take_12 : decode cX7_take 12 = .ok (.aload_n 0, 1) := by decide +kernel
theorem dX7_take_13 : decode cX7_take 13 = .ok (.iconst 1, 1) := by decide +kernel
theorem dX7_take_14 : decode cX7_take 14 = .ok (.invokevirtual 67, 3) := by decide +kernel
theorem dX7_take_17 : decode cX7_take 17 = .ok (.ireturn, 1) := by decide +kernel
theorem dX7_take_18 : decode cX7_take 18 = .ok (.aload_n 0, 1) := by decide +kernel
theorem dX7_take_19 : decode cX7_take 19 = .ok (.bipush 45, 2) := by decide +kernel
theorem dX7_take_21 : decode cX7_take 21 = .ok (.iload_n 1, 1) := by decide +kernel
theorem dX7_take_22 : decode cX7_take 22 = .ok (.invokevirtual 71, 3) := by decide +kernel
theorem dX7_take_25 : decode cX7_take 25 = .ok (.ifCond .ne 9, 3) := by decide +kernel
theorem dX7_take_28 : decode cX7_take 28 = .ok (.aload_n 0, 1) := by decide +kernel
theorem dX7_take_29 : decode cX7_take 29 = .ok (.iconst 2, 1) := by decide +kernel
theorem dX7_take_30 : decode cX7_take 30 = .ok (.invokevirtual 67, 3) := by decide +kernel
theorem dX7_take_33 : decode cX7_take 33 = .ok (.ireturn, 1) := by decide +kernel
theorem dX7_take_34 : decode cX7_take 34 = .ok (.aload_n 0, 1) := by decide +kernel
theorem dX7_take_35 : decode cX7_take 35 = .ok (.invokevirtual 74, 3) := by decide +kernel
theorem dX7_take_38 : decode cX7_take 38 = .ok (.aload_n 0, 1) := by decide +kernel
theorem dX7_take_39 : decode cX7_take 39 = .ok (.bipush 45, 2) := by decide +kernel
theorem dX7_take_41 : decode cX7_take 41 = .ok (.iload_n 1, 1) := by decide +kernel
theorem dX7_take_42 : decode cX7_take 42 = .ok (.iconst 0, 1) := by decide +kernel
theorem dX7_take_43 : decode cX7_take 43 = .ok (.invokevirtual 77, 3) := by decide +kernel
theorem dX7_take_46 : decode cX7_take 46 = .ok (.pop, 1) := by decide +kernel
theorem dX7_take_47 : decode cX7_take 47 = .ok (.aload_n 0, 1) := by decide +kernel
theorem dX7_take_48 : decode cX7_take 48 = .ok (.iload_n 1, 1) := by decide +kernel
theorem dX7_take_49 : decode cX7_take 49 = .ok (.iconst 0, 1) := by decide +kernel
theorem dX7_take_50 : decode cX7_take 50 = .ok (.invokevirtual 33, 3) := by decide +kernel
theorem dX7_take_53 : decode cX7_take 53 = .ok (.iconst 1, 1) := by decide +kernel
theorem dX7_take_54 : decode cX7_take 54 = .ok (.isub, 1) := by decide +kernel
theorem dX7_take_55 : decode cX7_take 55 = .ok (.ireturn, 1) := by decide +kernel
theorem dX7_change_0 : decode cX7_change 0 = .ok (.aload_n 0, 1) := by decide +kernel
theorem dX7_change_1 : decode cX7_change 1 = .ok (.iconst 0, 1) := by decide +kernel
theorem dX7_change_2 : decode cX7_change 2 = .ok (.putfield 22, 3) := by decide +kernel
theorem dX7_change_5 : decode cX7_change 5 = .ok (.iload_n 1, 1) := by decide +kernel
theorem dX7_change_6 : decode cX7_change 6 = .ok (.invokestatic 60, 3) := by decide +kernel
theorem dX7_change_9 : decode cX7_change 9 = .ok (.ifCond .ne 9, 3) := by decide +kernel
theorem dX7_change_12 : decode cX7_change 12 = .ok (.aload_n 0, 1) := by decide +kernel
theorem dX7_change_13 : decode cX7_change 13 = .ok (.iconst 1, 1) := by decide +kernel
theorem dX7_change_14 : decode cX7_change 14 = .ok (.invokevirtual 67, 3) := by decide +kernel
theorem dX7_change_17 : decode cX7_change 17 = .ok (.ireturn, 1) := by decide +kernel
theorem dX7_change_18 : decode cX7_change 18 = .ok (.iload_n 2, 1) := by decide +kernel
theorem dX7_change_19 : decode cX7_change 19 = .ok (.iconst 0, 1) := by decide +kernel
theorem dX7_change_20 : decode cX7_change 20 = .ok (.bipush 9, 2) := by decide +kernel
theorem dX7_change_22 : decode cX7_change 22 = .ok (.invokestatic 26, 3) := by decide +kernel
theorem dX7_change_25 : decode cX7_change 25 = .ok (.ifCond .ne 9, 3) := by decide +kernel
theorem dX7_change_28 : decode cX7_change 28 = .ok (.aload_n 0, 1) := by decide +kernel
theorem dX7_change_29 : decode cX7_change 29 = .ok (.iconst 2, 1) := by decide +kernel
theorem dX7_change_30 : decode cX7_change 30 = .ok (.invokevirtual 67, 3) := by decide +kernel
theorem dX7_change_33 : decode cX7_change 33 = .ok (.ireturn, 1) := by decide +kernel
theorem dX7_change_34 : decode cX7_change 34 = .ok (.aload_n 0, 1) := by decide +kernel
theorem dX7_change_35 : decode cX7_change 35 = .ok (.bipush 61, 2) := by decide +kernel
theorem dX7_change_37 : decode cX7_change 37 = .ok (.iload_n 1, 1) := by decide +kernel
theorem dX7_change_38 : decode cX7_change 38 = .ok (.invokevirtual 71, 3) := by decide +kernel
theorem dX7_change_41 : decode cX7_change 41 = .ok (.ifCond .ne 9, 3) := by decide +kernel
theorem dX7_change_44 : decode cX7_change 44 = .ok (.aload_n 0, 1) := by decide +kernel
theorem dX7_change_45 : decode cX7_change 45 = .ok (.iconst 3, 1) := by decide +kernel
theorem dX7_change_46 : decode cX7_change 46 = .ok (.invokevirtual 67, 3) := by decide +kernel
theorem dX7_change_49 : decode cX7_change 49 = .ok (.ireturn, 1) := by decide +kernel
theorem dX7_change_50 : decode cX7_change 50 = .ok (.aload_n 0, 1) := by decide +kernel
theorem dX7_change_51 : decode cX7_change 51 = .ok (.invokevirtual 74, 3) := by decide +kernel
theorem dX7_change_54 : decode cX7_change 54 = .ok (.aload_n 0, 1) := by decide +kernel
theorem dX7_change_55 : decode cX7_change 55 = .ok (.bipush 61, 2) := by decide +kernel
theorem dX7_change_57 : decode cX7_change 57 = .ok (.iload_n 1, 1) := by decide +kernel
theorem dX7_change_58 : decode cX7_change 58 = .ok (.iload_n 2, 1) := by decide +kernel
theorem dX7_change_59 : decode cX7_change 59 = .ok (.invokevirtual 77, 3) := by decide +kernel
theorem dX7_change_62 : decode cX7_change 62 = .ok (.ireturn, 1) := by decide +kernel
theorem dX7_horizonBut_0 : decode cX7_horizonBut 0 = .ok (.aload_n 0, 1) := by decide +kernel
theorem dX7_horizonBut_1 : decode cX7_horizonBut 1 = .ok (.getfield 7, 3) := by decide +kernel
theorem dX7_horizonBut_4 : decode cX7_horizonBut 4 = .ok (.iconst 0, 1) := by decide +kernel
theorem dX7_horizonBut_5 : decode cX7_horizonBut 5 = .ok (.iaload, 1) := by decide +kernel
theorem dX7_horizonBut_6 : decode cX7_horizonBut 6 = .ok (.istore_n 2, 1) := by decide +kernel
theorem dX7_horizonBut_7 : decode cX7_horizonBut 7 = .ok (.iconst 0, 1) := by decide +kernel
theorem dX7_horizonBut_8 : decode cX7_horizonBut 8 = .ok (.istore_n 3, 1) := by decide +kernel
theorem dX7_horizonBut_9 : decode cX7_horizonBut 9 = .ok (.iload_n 3, 1) := by decide +kernel
theorem dX7_horizonBut_10 : decode cX7_horizonBut 10 = .ok (.iconst 4, 1) := by decide +kernel
theorem dX7_horizonBut_11 : decode cX7_horizonBut 11 = .ok (.if_icmp .ge 40, 3) := by decide +kernel
theorem dX7_horizonBut_14 : decode cX7_horizonBut 14 = .ok (.aload_n 0, 1) := by decide +kernel
theorem dX7_horizonBut_15 : decode cX7_horizonBut 15 = .ok (.iload_n 3, 1) := by decide +kernel
theorem dX7_horizonBut_16 : decode cX7_horizonBut 16 = .ok (.invokevirtual 81, 3) := by decide +kernel
theorem dX7_horizonBut_19 : decode cX7_horizonBut 19 = .ok (.istore 4, 2) := by decide +kernel
theorem dX7_horizonBut_21 : decode cX7_horizonBut 21 = .ok (.iload_n 3, 1) := by decide +kernel
theorem dX7_horizonBut_22 : decode cX7_horizonBut 22 = .ok (.iload_n 1, 1) := by decide +kernel
theorem dX7_horizonBut_23 : decode cX7_horizonBut 23 = .ok (.if_icmp .eq 20, 3) := by decide +kernel
theorem dX7_horizonBut_26 : decode cX7_horizonBut 26 = .ok (.iload 4, 2) := by decide +kernel
theorem dX7_horizonBut_28 : decode cX7_horizonBut 28 = .ok (.iconst (-1), 1) := by decide +kernel
theorem dX7_horizonBut_29 : decode cX7_horizonBut 29 = .ok (.if_icmp .eq 14, 3) := by decide +kernel
theorem dX7_horizonBut_32 : decode cX7_horizonBut 32 = .ok (.iload 4, 2) := by decide +kernel
theorem dX7_horizonBut_34 : decode cX7_horizonBut 34 = .ok (.iload_n 2, 1) := by decide +kernel
theorem dX7_horizonBut_35 : decode cX7_horizonBut 35 = .ok (.if_icmp .ge 8, 3) := by decide +kernel
theorem dX7_horizonBut_38 : decode cX7_horizonBut 38 = .ok (.iload 4, 2) := by decide +kernel
theorem dX7_horizonBut_40 : decode cX7_horizonBut 40 = .ok (.goto 4, 3) := by decide +kernel
theorem dX7_horizonBut_43 : decode cX7_horizonBut 43 = .ok (.iload_n 2, 1) := by decide +kernel
theorem dX7_horizonBut_44 : decode cX7_horizonBut 44 = .ok (.istore_n 2, 1) := by decide +kernel
theorem dX7_horizonBut_45 : decode cX7_horizonBut 45 = .ok (.iinc 3 1, 3) := by decide +kernel
theorem dX7_horizonBut_48 : decode cX7_horizonBut 48 = .ok (.goto (-39), 3) := by decide +kernel
theorem dX7_horizonBut_51 : decode cX7_horizonBut 51 = .ok (.iload_n 2, 1) := by decide +kernel
theorem dX7_horizonBut_52 : decode cX7_horizonBut 52 = .ok (.ireturn, 1) := by decide +kernel
theorem dX7_horizon_0 : decode cX7_horizon 0 = .ok (.aload_n 0, 1) := by decide +kernel
theorem dX7_horizon_1 : decode cX7_horizon 1 = .ok (.iconst (-1), 1) := by decide +kernel
theorem dX7_horizon_2 : decode cX7_horizon 2 = .ok (.invokevirtual 84, 3) := by decide +kernel
theorem dX7_horizon_5 : decode cX7_horizon 5 = .ok (.ireturn, 1) := by decide +kernel
theorem dX7_open_0 : decode cX7_open 0 = .ok (.aload_n 0, 1) := by decide +kernel
theorem dX7_open_1 : decode cX7_open 1 = .ok (.iconst 0, 1) := by decide +kernel
theorem dX7_open_2 : decode cX7_open 2 = .ok (.putfield 22, 3) := by decide +kernel
theorem dX7_open_5 : decode cX7_open 5 = .ok (.iload_n 1, 1) := by decide +kernel
theorem dX7_open_6 : decode cX7_open 6 = .ok (.invokestatic 87, 3) := by decide +kernel
theorem dX7_open_9 : decode cX7_open 9 = .ok (.ifCond .ne 9, 3) := by decide +kernel
theorem dX7_open_12 : decode cX7_open 12 = .ok (.aload_n 0, 1) := by decide +kernel
theorem dX7_open_13 : decode cX7_open 13 = .ok (.iconst 1, 1) := by decide +kernel
theorem dX7_open_14 : decode cX7_open 14 = .ok (.invokevirtual 67, 3) := by decide +kernel
theorem dX7_open_17 : decode cX7_open 17 = .ok (.ireturn, 1) := by decide +kernel
theorem dX7_open_18 : decode cX7_open 18 = .ok (.aload_n 0, 1) := by decide +kernel
theorem dX7_open_19 : decode cX7_open 19 = .ok (.invokevirtual 74, 3) := by decide +kernel
theorem dX7_open_22 : decode cX7_open 22 = .ok (.aload_n 0, 1) := by decide +kernel
theorem dX7_open_23 : decode cX7_open 23 = .ok (.getfield 7, 3) := by decide +kernel
theorem dX7_open_26 : decode cX7_open 26 = .ok (.bipush 91, 2) := by decide +kernel
theorem dX7_open_28 : decode cX7_open 28 = .ok (.iconst 2, 1) := by decide +kernel
theorem dX7_open_29 : decode cX7_open 29 = .ok (.iload_n 1, 1) := by decide +kernel
theorem dX7_open_30 : decode cX7_open 30 = .ok (.imul, 1) := by decide +kernel
theorem dX7_open_31 : decode cX7_open 31 = .ok (.iadd, 1) := by decide +kernel
theorem dX7_open_32 : decode cX7_open 32 = .ok (.iconst 0, 1) := by decide +kernel
theorem dX7_open_33 : decode cX7_open 33 = .ok (.iadd, 1) := by decide +kernel
theorem dX7_open_34 : decode cX7_open 34 = .ok (.aload_n 0, 1) := by decide +kernel
theorem dX7_open_35 : decode cX7_open 35 = .ok (.getfield 7, 3) := by decide +kernel
theorem dX7_open_38 : decode cX7_open 38 = .ok (.iconst 0, 1) := by decide +kernel
theorem dX7_open_39 : decode cX7_open 39 = .ok (.iaload, 1) := by decide +kernel
theorem dX7_open_40 : decode cX7_open 40 = .ok (.iconst 1, 1) := by decide +kernel
theorem dX7_open_41 : decode cX7_open 41 = .ok (.iadd, 1) := by decide +kernel
theorem dX7_open_42 : decode cX7_open 42 = .ok (.iastore, 1) := by decide +kernel
theorem dX7_open_43 : decode cX7_open 43 = .ok (.aload_n 0, 1) := by decide +kernel
theorem dX7_open_44 : decode cX7_open 44 = .ok (.getfield 7, 3) := by decide +kernel
theorem dX7_open_47 : decode cX7_open 47 = .ok (.iconst 0, 1) := by decide +kernel
theorem dX7_open_48 : decode cX7_open 48 = .ok (.iaload, 1) := by decide +kernel
theorem dX7_open_49 : decode cX7_open 49 = .ok (.ireturn, 1) := by decide +kernel
theorem dX7_close_0 : decode cX7_close 0 = .ok (.aload_n 0, 1) := by decide +kernel
theorem dX7_close_1 : decode cX7_close 1 = .ok (.iconst 0, 1) := by decide +kernel
theorem dX7_close_2 : decode cX7_close 2 = .ok (.putfield 22, 3) := by decide +kernel
theorem dX7_close_5 : decode cX7_close 5 = .ok (.iload_n 1, 1) := by decide +kernel
theorem dX7_close_6 : decode cX7_close 6 = .ok (.invokestatic 87, 3) := by decide +kernel
theorem dX7_close_9 : decode cX7_close 9 = .ok (.ifCond .ne 9, 3) := by decide +kernel
theorem dX7_close_12 : decode cX7_close 12 = .ok (.aload_n 0, 1) := by decide +kernel
theorem dX7_close_13 : decode cX7_close 13 = .ok (.iconst 1, 1) := by decide +kernel
theorem dX7_close_14 : decode cX7_close 14 = .ok (.invokevirtual 67, 3) := by decide +kernel
theorem dX7_close_17 : decode cX7_close 17 = .ok (.ireturn, 1) := by decide +kernel
theorem dX7_close_18 : decode cX7_close 18 = .ok (.aload_n 0, 1) := by decide +kernel
theorem dX7_close_19 : decode cX7_close 19 = .ok (.iload_n 1, 1) := by decide +kernel
theorem dX7_close_20 : decode cX7_close 20 = .ok (.invokevirtual 81, 3) := by decide +kernel
theorem dX7_close_23 : decode cX7_close 23 = .ok (.istore_n 2, 1) := by decide +kernel
theorem dX7_close_24 : decode cX7_close 24 = .ok (.iload_n 2, 1) := by decide +kernel
theorem dX7_close_25 : decode cX7_close 25 = .ok (.iconst (-1), 1) := by decide +kernel
theorem dX7_close_26 : decode cX7_close 26 = .ok (.if_icmp .ne 9, 3) := by decide +kernel
theorem dX7_close_29 : decode cX7_close 29 = .ok (.aload_n 0, 1) := by decide +kernel
theorem dX7_close_30 : decode cX7_close 30 = .ok (.iconst 2, 1) := by decide +kernel
theorem dX7_close_31 : decode cX7_close 31 = .ok (.invokevirtual 67, 3) := by decide +kernel
theorem dX7_close_34 : decode cX7_close 34 = .ok (.ireturn, 1) := by decide +kernel
theorem dX7_close_35 : decode cX7_close 35 = .ok (.aload_n 0, 1) := by decide +kernel
theorem dX7_close_36 : decode cX7_close 36 = .ok (.invokevirtual 74, 3) := by decide +kernel
theorem dX7_close_39 : decode cX7_close 39 = .ok (.aload_n 0, 1) := by decide +kernel
theorem dX7_close_40 : decode cX7_close 40 = .ok (.getfield 7, 3) := by decide +kernel
theorem dX7_close_43 : decode cX7_close 43 = .ok (.bipush 91, 2) := by decide +kernel
theorem dX7_close_45 : decode cX7_close 45 = .ok (.iconst 2, 1) := by decide +kernel
theorem dX7_close_46 : decode cX7_close 46 = .ok (.iload_n 1, 1) := by decide +kernel
theorem dX7_close_47 : decode cX7_close 47 = .ok (.imul, 1) := by decide +kernel
theorem dX7_close_48 : decode cX7_close 48 = .ok (.iadd, 1) := by decide +kernel
theorem dX7_close_49 : decode cX7_close 49 = .ok (.iconst 0, 1) := by decide +kernel
theorem dX7_close_50 : decode cX7_close 50 = .ok (.iadd, 1) := by decide +kernel
theorem dX7_close_51 : decode cX7_close 51 = .ok (.iconst 0, 1) := by decide +kernel
theorem dX7_close_52 : decode cX7_close 52 = .ok (.iastore, 1) := by decide +kernel
theorem dX7_close_53 : decode cX7_close 53 = .ok (.iload_n 2, 1) := by decide +kernel
theorem dX7_close_54 : decode cX7_close 54 = .ok (.ireturn, 1) := by decide +kernel
theorem dX7_isOld_0 : decode cX7_isOld 0 = .ok (.aload_n 0, 1) := by decide +kernel
theorem dX7_isOld_1 : decode cX7_isOld 1 = .ok (.iload_n 1, 1) := by decide +kernel
theorem dX7_isOld_2 : decode cX7_isOld 2 = .ok (.invokevirtual 37, 3) := by decide +kernel
theorem dX7_isOld_5 : decode cX7_isOld 5 = .ok (.ifCond .eq 26, 3) := by decide +kernel
theorem dX7_isOld_8 : decode cX7_isOld 8 = .ok (.aload_n 0, 1) := by decide +kernel
theorem dX7_isOld_9 : decode cX7_isOld 9 = .ok (.iload_n 1, 1) := by decide +kernel
theorem dX7_isOld_10 : decode cX7_isOld 10 = .ok (.iconst 2, 1) := by decide +kernel
theorem dX7_isOld_11 : decode cX7_isOld 11 = .ok (.invokevirtual 33, 3) := by decide +kernel
theorem dX7_isOld_14 : decode cX7_isOld 14 = .ok (.ifCond .le 17, 3) := by decide +kernel
theorem dX7_isOld_17 : decode cX7_isOld 17 = .ok (.aload_n 0, 1) := by decide +kernel
theorem dX7_isOld_18 : decode cX7_isOld 18 = .ok (.iload_n 1, 1) := by decide +kernel
theorem dX7_isOld_19 : decode cX7_isOld 19 = .ok (.iconst 2, 1) := by decide +kernel
theorem dX7_isOld_20 : decode cX7_isOld 20 = .ok (.invokevirtual 33, 3) := by decide +kernel
theorem dX7_isOld_23 : decode cX7_isOld 23 = .ok (.iload_n 2, 1) := by decide +kernel
theorem dX7_isOld_24 : decode cX7_isOld 24 = .ok (.if_icmp .gt 7, 3) := by decide +kernel
theorem dX7_isOld_27 : decode cX7_isOld 27 = .ok (.iconst 1, 1) := by decide +kernel
theorem dX7_isOld_28 : decode cX7_isOld 28 = .ok (.goto 4, 3) := by decide +kernel
theorem dX7_isOld_31 : decode cX7_isOld 31 = .ok (.iconst 0, 1) := by decide +kernel
theorem dX7_isOld_32 : decode cX7_isOld 32 = .ok (.ireturn, 1) := by decide +kernel
theorem dX7_oldIn_0 : decode cX7_oldIn 0 = .ok (.iconst 0, 1) := by decide +kernel
theorem dX7_oldIn_1 : decode cX7_oldIn 1 = .ok (.istore_n 3, 1) := by decide +kernel
theorem dX7_oldIn_2 : decode cX7_oldIn 2 = .ok (.iconst 4, 1) := by decide +kernel
theorem dX7_oldIn_3 : decode cX7_oldIn 3 = .ok (.iload_n 1, 1) := by decide +kernel
theorem dX7_oldIn_4 : decode cX7_oldIn 4 = .ok (.imul, 1) := by decide +kernel
theorem dX7_oldIn_5 : decode cX7_oldIn 5 = .ok (.istore 4, 2) := by decide +kernel
theorem dX7_oldIn_7 : decode cX7_oldIn 7 = .ok (.iload 4, 2) := by decide +kernel
theorem dX7_oldIn_9 : decode cX7_oldIn 9 = .ok (.iconst 4, 1) := by decide +kernel
theorem dX7_oldIn_10 : decode cX7_oldIn 10 = .ok (.iload_n 1, 1) := by decide +kernel
theorem dX7_oldIn_11 : decode cX7_oldIn 11 = .ok (.imul, 1) := by decide +kernel
theorem dX7_oldIn_12 : decode cX7_oldIn 12 = .ok (.iconst 4, 1) := by decide +kernel
theorem dX7_oldIn_13 : decode cX7_oldIn 13 = .ok (.iadd, 1) := by decide +kernel
theorem dX7_oldIn_14 : decode cX7_oldIn 14 = .ok (.if_icmp .ge 27, 3) := by decide +kernel
theorem dX7_oldIn_17 : decode cX7_oldIn 17 = .ok (.iload_n 3, 1) := by decide +kernel
theorem dX7_oldIn_18 : decode cX7_oldIn 18 = .ok (.aload_n 0, 1) := by decide +kernel
theorem dX7_oldIn_19 : decode cX7_oldIn 19 = .ok (.iload 4, 2) := by decide +kernel
theorem dX7_oldIn_21 : decode cX7_oldIn 21 = .ok (.iload_n 2, 1) := by decide +kernel
theorem dX7_oldIn_22 : decode cX7_oldIn 22 = .ok (.invokevirtual 90, 3) := by decide +kernel
theorem dX7_oldIn_25 : decode cX7_oldIn 25 = .ok (.ifCond .eq 7, 3) := by decide +kernel
theorem dX7_oldIn_28 : decode cX7_oldIn 28 = .ok (.iconst 1, 1) := by decide +kernel
theorem dX7_oldIn_29 : decode cX7_oldIn 29 = .ok (.goto 4, 3) := by decide +kernel
theorem dX7_oldIn_32 : decode cX7_oldIn 32 = .ok (.iconst 0, 1) := by decide +kernel
theorem dX7_oldIn_33 : decode cX7_oldIn 33 = .ok (.iadd, 1) := by decide +kernel
theorem dX7_oldIn_34 : decode cX7_oldIn 34 = .ok (.istore_n 3, 1) := by decide +kernel
theorem dX7_oldIn_35 : decode cX7_oldIn 35 = .ok (.iinc 4 1, 3) := by decide +kernel
theorem dX7_oldIn_38 : decode cX7_oldIn 38 = .ok (.goto (-31), 3) := by decide +kernel
theorem dX7_oldIn_41 : decode cX7_oldIn 41 = .ok (.iload_n 3, 1) := by decide +kernel
theorem dX7_oldIn_42 : decode cX7_oldIn 42 = .ok (.ireturn, 1) := by decide +kernel
theorem dX7_sweeps_0 : decode cX7_sweeps 0 = .ok (.aload_n 0, 1) := by decide +kernel
theorem dX7_sweeps_1 : decode cX7_sweeps 1 = .ok (.invokevirtual 93, 3) := by decide +kernel
theorem dX7_sweeps_4 : decode cX7_sweeps 4 = .ok (.istore_n 2, 1) := by decide +kernel
theorem dX7_sweeps_5 : decode cX7_sweeps 5 = .ok (.aload_n 0, 1) := by decide +kernel
theorem dX7_sweeps_6 : decode cX7_sweeps 6 = .ok (.iload_n 1, 1) := by decide +kernel
theorem dX7_sweeps_7 : decode cX7_sweeps 7 = .ok (.iload_n 2, 1) := by decide +kernel
theorem dX7_sweeps_8 : decode cX7_sweeps 8 = .ok (.invokevirtual 96, 3) := by decide +kernel
theorem dX7_sweeps_11 : decode cX7_sweeps 11 = .ok (.istore_n 3, 1) := by decide +kernel
theorem dX7_sweeps_12 : decode cX7_sweeps 12 = .ok (.iconst 1, 1) := by decide +kernel
theorem dX7_sweeps_13 : decode cX7_sweeps 13 = .ok (.istore 4, 2) := by decide +kernel
theorem dX7_sweeps_15 : decode cX7_sweeps 15 = .ok (.iconst 4, 1) := by decide +kernel
theorem dX7_sweeps_16 : decode cX7_sweeps 16 = .ok (.iload_n 1, 1) := by decide +kernel
theorem dX7_sweeps_17 : decode cX7_sweeps 17 = .ok (.imul, 1) := by decide +kernel
theorem dX7_sweeps_18 : decode cX7_sweeps 18 = .ok (.istore 5, 2) := by decide +kernel
theorem dX7_sweeps_20 : decode cX7_sweeps 20 = .ok (.iload 5, 2) := by decide +kernel
theorem dX7_sweeps_22 : decode cX7_sweeps 22 = .ok (.iconst 4, 1) := by decide +kernel
theorem dX7_sweeps_23 : decode cX7_sweeps 23 = .ok (.iload_n 1, 1) := by decide +kernel
theorem dX7_sweeps_24 : decode cX7_sweeps 24 = .ok (.imul, 1) := by decide +kernel
theorem dX7_sweeps_25 : decode cX7_sweeps 25 = .ok (.iconst 4, 1) := by decide +kernel
theorem dX7_sweeps_26 : decode cX7_sweeps 26 = .ok (.iadd, 1) := by decide +kernel
theorem dX7_sweeps_27 : decode cX7_sweeps 27 = .ok (.if_icmp .ge 70, 3) := by decide +kernel
theorem dX7_sweeps_30 : decode cX7_sweeps 30 = .ok (.aload_n 0, 1) := by decide +kernel
theorem dX7_sweeps_31 : decode cX7_sweeps 31 = .ok (.iload 5, 2) := by decide +kernel
theorem dX7_sweeps_33 : decode cX7_sweeps 33 = .ok (.iload_n 2, 1) := by decide +kernel
theorem dX7_sweeps_34 : decode cX7_sweeps 34 = .ok (.invokevirtual 90, 3) := by decide +kernel
theorem dX7_sweeps_37 : decode cX7_sweeps 37 = .ok (.ifCond .eq 12, 3) := by decide +kernel
theorem dX7_sweeps_40 : decode cX7_sweeps 40 = .ok (.aload_n 0, 1) := by decide +kernel
theorem dX7_sweeps_41 : decode cX7_sweeps 41 = .ok (.iload 5, 2) := by decide +kernel
theorem dX7_sweeps_43 : decode cX7_sweeps 43 = .ok (.iconst 0, 1) := by decide +kernel
theorem dX7_sweeps_44 : decode cX7_sweeps 44 = .ok (.iconst 0, 1) := by decide +kernel
theorem dX7_sweeps_45 : decode cX7_sweeps 45 = .ok (.iconst 0, 1) := by decide +kernel
theorem dX7_sweeps_46 : decode cX7_sweeps 46 = .ok (.invokevirtual 41, 3) := by decide +kernel
theorem dX7_sweeps_49 : decode cX7_sweeps 49 = .ok (.iload 4, 2) := by decide +kernel
theorem dX7_sweeps_51 : decode cX7_sweeps 51 = .ok (.ifCond .eq 37, 3) := by decide +kernel
theorem dX7_sweeps_54 : decode cX7_sweeps 54 = .ok (.aload_n 0, 1) := by decide +kernel
theorem dX7_sweeps_55 : decode cX7_sweeps 55 = .ok (.iload 5, 2) := by decide +kernel
theorem dX7_sweeps_57 : decode cX7_sweeps 57 = .ok (.invokevirtual 37, 3) := by decide +kernel
theorem dX7_sweeps_60 : decode cX7_sweeps 60 = .ok (.ifCond .eq 24, 3) := by decide +kernel
theorem dX7_sweeps_63 : decode cX7_sweeps 63 = .ok (.aload_n 0, 1) := by decide +kernel
theorem dX7_sweeps_64 : decode cX7_sweeps 64 = .ok (.iload 5, 2) := by decide +kernel
theorem dX7_sweeps_66 : decode cX7_sweeps 66 = .ok (.iconst 1, 1) := by decide +kernel
theorem dX7_sweeps_67 : decode cX7_sweeps 67 = .ok (.invokevirtual 33, 3) := by decide +kernel
theorem dX7_sweeps_70 : decode cX7_sweeps 70 = .ok (.iload_n 2, 1) := by decide +kernel
theorem dX7_sweeps_71 : decode cX7_sweeps 71 = .ok (.if_icmp .gt 17, 3) := by decide +kernel
theorem dX7_sweeps_74 : decode cX7_sweeps 74 = .ok (.aload_n 0, 1) := by decide +kernel
theorem dX7_sweeps_75 : decode cX7_sweeps 75 = .ok (.iload 5, 2) := by decide +kernel
theorem dX7_sweeps_77 : decode cX7_sweeps 77 = .ok (.iconst 2, 1) := by decide +kernel
theorem dX7_sweeps_78 : decode cX7_sweeps 78 = .ok (.invokevirtual 33, 3) := by decide +kernel
theorem dX7_sweeps_81 : decode cX7_sweeps 81 = .ok (.ifCond .ne 7, 3) := by decide +kernel
theorem dX7_sweeps_84 : decode cX7_sweeps 84 = .ok (.iconst 1, 1) := by decide +kernel
theorem dX7_sweeps_85 : decode cX7_sweeps 85 = .ok (.goto 4, 3) := by decide +kernel
theorem dX7_sweeps_88 : decode cX7_sweeps 88 = .ok (.iconst 0, 1) := by decide +kernel
theorem dX7_sweeps_89 : decode cX7_sweeps 89 = .ok (.istore 4, 2) := by decide +kernel
theorem dX7_sweeps_91 : decode cX7_sweeps 91 = .ok (.iinc 5 1, 3) := by decide +kernel
theorem dX7_sweeps_94 : decode cX7_sweeps 94 = .ok (.goto (-74), 3) := by decide +kernel
theorem dX7_sweeps_97 : decode cX7_sweeps 97 = .ok (.iload 4, 2) := by decide +kernel
theorem dX7_sweeps_99 : decode cX7_sweeps 99 = .ok (.ifCond .eq 31, 3) := by decide +kernel
theorem dX7_sweeps_102 : decode cX7_sweeps 102 = .ok (.aload_n 0, 1) := by decide +kernel
theorem dX7_sweeps_103 : decode cX7_sweeps 103 = .ok (.getfield 7, 3) := by decide +kernel
theorem dX7_sweeps_106 : decode cX7_sweeps 106 = .ok (.bipush 79, 2) := by decide +kernel
theorem dX7_sweeps_108 : decode cX7_sweeps 108 = .ok (.iconst 2, 1) := by decide +kernel
theorem dX7_sweeps_109 : decode cX7_sweeps 109 = .ok (.iload_n 1, 1) := by decide +kernel
theorem dX7_sweeps_110 : decode cX7_sweeps 110 = .ok (.imul, 1) := by decide +kernel
theorem dX7_sweeps_111 : decode cX7_sweeps 111 = .ok (.iadd, 1) := by decide +kernel
theorem dX7_sweeps_112 : decode cX7_sweeps 112 = .ok (.iconst 0, 1) := by decide +kernel
theorem dX7_sweeps_113 : decode cX7_sweeps 113 = .ok (.iadd, 1) := by decide +kernel
theorem dX7_sweeps_114 : decode cX7_sweeps 114 = .ok (.iconst 1, 1) := by decide +kernel
theorem dX7_sweeps_115 : decode cX7_sweeps 115 = .ok (.iastore, 1) := by decide +kernel
theorem dX7_sweeps_116 : decode cX7_sweeps 116 = .ok (.aload_n 0, 1) := by decide +kernel
theorem dX7_sweeps_117 : decode cX7_sweeps 117 = .ok (.getfield 7, 3) := by decide +kernel
theorem dX7_sweeps_120 : decode cX7_sweeps 120 = .ok (.bipush 79, 2) := by decide +kernel
theorem dX7_sweeps_122 : decode cX7_sweeps 122 = .ok (.iconst 2, 1) := by decide +kernel
theorem dX7_sweeps_123 : decode cX7_sweeps 123 = .ok (.iload_n 1, 1) := by decide +kernel
theorem dX7_sweeps_124 : decode cX7_sweeps 124 = .ok (.imul, 1) := by decide +kernel
theorem dX7_sweeps_125 : decode cX7_sweeps 125 = .ok (.iadd, 1) := by decide +kernel
theorem dX7_sweeps_126 : decode cX7_sweeps 126 = .ok (.iconst 1, 1) := by decide +kernel
theorem dX7_sweeps_127 : decode cX7_sweeps 127 = .ok (.iadd, 1) := by decide +kernel
theorem dX7_sweeps_128 : decode cX7_sweeps 128 = .ok (.iload_n 2, 1) := by decide +kernel
theorem dX7_sweeps_129 : decode cX7_sweeps 129 = .ok (.iastore, 1) := by decide +kernel
theorem dX7_sweeps_130 : decode cX7_sweeps 130 = .ok (.aload_n 0, 1) := by decide +kernel
theorem dX7_sweeps_131 : decode cX7_sweeps 131 = .ok (.getfield 7, 3) := by decide +kernel
theorem dX7_sweeps_134 : decode cX7_sweeps 134 = .ok (.bipush 6, 2) := by decide +kernel
theorem dX7_sweeps_136 : decode cX7_sweeps 136 = .ok (.dup2, 1) := by decide +kernel
theorem dX7_sweeps_137 : decode cX7_sweeps 137 = .ok (.iaload, 1) := by decide +kernel
theorem dX7_sweeps_138 : decode cX7_sweeps 138 = .ok (.iload_n 3, 1) := by decide +kernel
theorem dX7_sweeps_139 : decode cX7_sweeps 139 = .ok (.iadd, 1) := by decide +kernel
theorem dX7_sweeps_140 : decode cX7_sweeps 140 = .ok (.iastore, 1) := by decide +kernel
theorem dX7_sweeps_141 : decode cX7_sweeps 141 = .ok (.iload_n 3, 1) := by decide +kernel
theorem dX7_sweeps_142 : decode cX7_sweeps 142 = .ok (.ireturn, 1) := by decide +kernel
theorem dX7_sweep_0 : decode cX7_sweep 0 = .ok (.aload_n 0, 1) := by decide +kernel
theorem dX7_sweep_1 : decode cX7_sweep 1 = .ok (.iconst 0, 1) := by decide +kernel
theorem dX7_sweep_2 : decode cX7_sweep 2 = .ok (.putfield 22, 3) := by decide +kernel
theorem dX7_sweep_5 : decode cX7_sweep 5 = .ok (.iload_n 1, 1) := by decide +kernel
theorem dX7_sweep_6 : decode cX7_sweep 6 = .ok (.invokestatic 99, 3) := by decide +kernel
theorem dX7_sweep_9 : decode cX7_sweep 9 = .ok (.ifCond .ne 9, 3) := by decide +kernel
theorem dX7_sweep_12 : decode cX7_sweep 12 = .ok (.aload_n 0, 1) := by decide +kernel
theorem dX7_sweep_13 : decode cX7_sweep 13 = .ok (.iconst 1, 1) := by decide +kernel
theorem dX7_sweep_14 : decode cX7_sweep 14 = .ok (.invokevirtual 67, 3) := by decide +kernel
theorem dX7_sweep_17 : decode cX7_sweep 17 = .ok (.ireturn, 1) := by decide +kernel
theorem dX7_sweep_18 : decode cX7_sweep 18 = .ok (.aload_n 0, 1) := by decide +kernel
theorem dX7_sweep_19 : decode cX7_sweep 19 = .ok (.invokevirtual 74, 3) := by decide +kernel
theorem dX7_sweep_22 : decode cX7_sweep 22 = .ok (.aload_n 0, 1) := by decide +kernel
theorem dX7_sweep_23 : decode cX7_sweep 23 = .ok (.iload_n 1, 1) := by decide +kernel
theorem dX7_sweep_24 : decode cX7_sweep 24 = .ok (.invokevirtual 102, 3) := by decide +kernel
theorem dX7_sweep_27 : decode cX7_sweep 27 = .ok (.ireturn, 1) := by decide +kernel
theorem dX7_markedPages_0 : decode cX7_markedPages 0 = .ok (.iconst 0, 1) := by decide +kernel
theorem dX7_markedPages_1 : decode cX7_markedPages 1 = .ok (.istore_n 1, 1) := by decide +kernel
theorem dX7_markedPages_2 : decode cX7_markedPages 2 = .ok (.iconst 0, 1) := by decide +kernel
theorem dX7_markedPages_3 : decode cX7_markedPages 3 = .ok (.istore_n 2, 1) := by decide +kernel
theorem dX7_markedPages_4 : decode cX7_markedPages 4 = .ok (.iload_n 2, 1) := by decide +kernel
theorem dX7_markedPages_5 : decode cX7_markedPages 5 = .ok (.bipush 6, 2) := by decide +kernel
theorem dX7_markedPages_7 : decode cX7_markedPages 7 = .ok (.if_icmp .ge 18, 3) := by decide +kernel
theorem dX7_markedPages_10 : decode cX7_markedPages 10 = .ok (.iload_n 1, 1) := by decide +kernel
theorem dX7_markedPages_11 : decode cX7_markedPages 11 = .ok (.aload_n 0, 1) := by decide +kernel
theorem dX7_markedPages_12 : decode cX7_markedPages 12 = .ok (.iload_n 2, 1) := by decide +kernel
theorem dX7_markedPages_13 : decode cX7_markedPages 13 = .ok (.iconst 0, 1) := by decide +kernel
theorem dX7_markedPages_14 : decode cX7_markedPages 14 = .ok (.invokevirtual 105, 3) := by decide +kernel
theorem dX7_markedPages_17 : decode cX7_markedPages 17 = .ok (.iadd, 1) := by decide +kernel
theorem dX7_markedPages_18 : decode cX7_markedPages 18 = .ok (.istore_n 1, 1) := by decide +kernel
theorem dX7_markedPages_19 : decode cX7_markedPages 19 = .ok (.iinc 2 1, 3) := by decide +kernel
theorem dX7_markedPages_22 : decode cX7_markedPages 22 = .ok (.goto (-18), 3) := by decide +kernel
theorem dX7_markedPages_25 : decode cX7_markedPages 25 = .ok (.iload_n 1, 1) := by decide +kernel
theorem dX7_markedPages_26 : decode cX7_markedPages 26 = .ok (.ireturn, 1) := by decide +kernel
theorem dX7_sweepAll_0 : decode cX7_sweepAll 0 = .ok (.aload_n 0, 1) := by decide +kernel
theorem dX7_sweepAll_1 : decode cX7_sweepAll 1 = .ok (.iconst 0, 1) := by decide +kernel
theorem dX7_sweepAll_2 : decode cX7_sweepAll 2 = .ok (.putfield 22, 3) := by decide +kernel
theorem dX7_sweepAll_5 : decode cX7_sweepAll 5 = .ok (.aload_n 0, 1) := by decide +kernel
theorem dX7_sweepAll_6 : decode cX7_sweepAll 6 = .ok (.invokevirtual 74, 3) := by decide +kernel
theorem dX7_sweepAll_9 : decode cX7_sweepAll 9 = .ok (.iconst 0, 1) := by decide +kernel
theorem dX7_sweepAll_10 : decode cX7_sweepAll 10 = .ok (.istore_n 1, 1) := by decide +kernel
theorem dX7_sweepAll_11 : decode cX7_sweepAll 11 = .ok (.iload_n 1, 1) := by decide +kernel
theorem dX7_sweepAll_12 : decode cX7_sweepAll 12 = .ok (.bipush 6, 2) := by decide +kernel
theorem dX7_sweepAll_14 : decode cX7_sweepAll 14 = .ok (.if_icmp .ge 15, 3) := by decide +kernel
theorem dX7_sweepAll_17 : decode cX7_sweepAll 17 = .ok (.aload_n 0, 1) := by decide +kernel
theorem dX7_sweepAll_18 : decode cX7_sweepAll 18 = .ok (.iload_n 1, 1) := by decide +kernel
theorem dX7_sweepAll_19 : decode cX7_sweepAll 19 = .ok (.invokevirtual 102, 3) := by decide +kernel
theorem dX7_sweepAll_22 : decode cX7_sweepAll 22 = .ok (.pop, 1) := by decide +kernel
theorem dX7_sweepAll_23 : decode cX7_sweepAll 23 = .ok (.iinc 1 1, 3) := by decide +kernel
theorem dX7_sweepAll_26 : decode cX7_sweepAll 26 = .ok (.goto (-15), 3) := by decide +kernel
theorem dX7_sweepAll_29 : decode cX7_sweepAll 29 = .ok (.aload_n 0, 1) := by decide +kernel
theorem dX7_sweepAll_30 : decode cX7_sweepAll 30 = .ok (.invokevirtual 108, 3) := by decide +kernel
theorem dX7_sweepAll_33 : decode cX7_sweepAll 33 = .ok (.ireturn, 1) := by decide +kernel
theorem dX7_greatestMark_0 : decode cX7_greatestMark 0 = .ok (.iconst 0, 1) := by decide +kernel
theorem dX7_greatestMark_1 : decode cX7_greatestMark 1 = .ok (.istore_n 1, 1) := by decide +kernel
theorem dX7_greatestMark_2 : decode cX7_greatestMark 2 = .ok (.iconst 0, 1) := by decide +kernel
theorem dX7_greatestMark_3 : decode cX7_greatestMark 3 = .ok (.istore_n 2, 1) := by decide +kernel
theorem dX7_greatestMark_4 : decode cX7_greatestMark 4 = .ok (.iload_n 2, 1) := by decide +kernel
theorem dX7_greatestMark_5 : decode cX7_greatestMark 5 = .ok (.bipush 6, 2) := by decide +kernel
theorem dX7_greatestMark_7 : decode cX7_greatestMark 7 = .ok (.if_icmp .ge 40, 3) := by decide +kernel
theorem dX7_greatestMark_10 : decode cX7_greatestMark 10 = .ok (.aload_n 0, 1) := by decide +kernel
theorem dX7_greatestMark_11 : decode cX7_greatestMark 11 = .ok (.iload_n 2, 1) := by decide +kernel
theorem dX7_greatestMark_12 : decode cX7_greatestMark 12 = .ok (.iconst 0, 1) := by decide +kernel
theorem dX7_greatestMark_13 : decode cX7_greatestMark 13 = .ok (.invokevirtual 105, 3) := by decide +kernel
theorem dX7_greatestMark_16 : decode cX7_greatestMark 16 = .ok (.iconst 1, 1) := by decide +kernel
theorem dX7_greatestMark_17 : decode cX7_greatestMark 17 = .ok (.if_icmp .ne 22, 3) := by decide +kernel
theorem dX7_greatestMark_20 : decode cX7_greatestMark 20 = .ok (.aload_n 0, 1) := by decide +kernel
theorem dX7_greatestMark_21 : decode cX7_greatestMark 21 = .ok (.iload_n 2, 1) := by decide +kernel
theorem dX7_greatestMark_22 : decode cX7_greatestMark 22 = .ok (.iconst 1, 1) := by decide +kernel
theorem dX7_greatestMark_23 : decode cX7_greatestMark 23 = .ok (.invokevirtual 105, 3) := by decide +kernel
theorem dX7_greatestMark_26 : decode cX7_greatestMark 26 = .ok (.iload_n 1, 1) := by decide +kernel
theorem dX7_greatestMark_27 : decode cX7_greatestMark 27 = .ok (.if_icmp .le 12, 3) := by decide +kernel
theorem dX7_greatestMark_30 : decode cX7_greatestMark 30 = .ok (.aload_n 0, 1) := by decide +kernel
theorem dX7_greatestMark_31 : decode cX7_greatestMark 31 = .ok (.iload_n 2, 1) := by decide +kernel
theorem dX7_greatestMark_32 : decode cX7_greatestMark 32 = .ok (.iconst 1, 1) := by decide +kernel
theorem dX7_greatestMark_33 : decode cX7_greatestMark 33 = .ok (.invokevirtual 105, 3) := by decide +kernel
theorem dX7_greatestMark_36 : decode cX7_greatestMark 36 = .ok (.goto 4, 3) := by decide +kernel
theorem dX7_greatestMark_39 : decode cX7_greatestMark 39 = .ok (.iload_n 1, 1) := by decide +kernel
theorem dX7_greatestMark_40 : decode cX7_greatestMark 40 = .ok (.istore_n 1, 1) := by decide +kernel
theorem dX7_greatestMark_41 : decode cX7_greatestMark 41 = .ok (.iinc 2 1, 3) := by decide +kernel
theorem dX7_greatestMark_44 : decode cX7_greatestMark 44 = .ok (.goto (-40), 3) := by decide +kernel
theorem dX7_greatestMark_47 : decode cX7_greatestMark 47 = .ok (.iload_n 1, 1) := by decide +kernel
theorem dX7_greatestMark_48 : decode cX7_greatestMark 48 = .ok (.ireturn, 1) := by decide +kernel
theorem dX7_truly_0 : decode cX7_truly 0 = .ok (.iload_n 2, 1) := by decide +kernel
theorem dX7_truly_1 : decode cX7_truly 1 = .ok (.iconst 2, 1) := by decide +kernel
theorem dX7_truly_2 : decode cX7_truly 2 = .ok (.if_icmp .ne 15, 3) := by decide +kernel
theorem dX7_truly_5 : decode cX7_truly 5 = .ok (.iload_n 1, 1) := by decide +kernel
theorem dX7_truly_6 : decode cX7_truly 6 = .ok (.aload_n 0, 1) := by decide +kernel
theorem dX7_truly_7 : decode cX7_truly 7 = .ok (.invokevirtual 111, 3) := by decide +kernel
theorem dX7_truly_10 : decode cX7_truly 10 = .ok (.if_icmp .ge 7, 3) := by decide +kernel
theorem dX7_truly_13 : decode cX7_truly 13 = .ok (.iconst 1, 1) := by decide +kernel
theorem dX7_truly_14 : decode cX7_truly 14 = .ok (.goto 4, 3) := by decide +kernel
theorem dX7_truly_17 : decode cX7_truly 17 = .ok (.iload_n 2, 1) := by decide +kernel
theorem dX7_truly_18 : decode cX7_truly 18 = .ok (.ireturn, 1) := by decide +kernel
theorem dX7_hasValue_0 : decode cX7_hasValue 0 = .ok (.aload_n 0, 1) := by decide +kernel
theorem dX7_hasValue_1 : decode cX7_hasValue 1 = .ok (.iload_n 1, 1) := by decide +kernel
theorem dX7_hasValue_2 : decode cX7_hasValue 2 = .ok (.iconst 0, 1) := by decide +kernel
theorem dX7_hasValue_3 : decode cX7_hasValue 3 = .ok (.invokevirtual 33, 3) := by decide +kernel
theorem dX7_hasValue_6 : decode cX7_hasValue 6 = .ok (.iload_n 2, 1) := by decide +kernel
theorem dX7_hasValue_7 : decode cX7_hasValue 7 = .ok (.iconst 1, 1) := by decide +kernel
theorem dX7_hasValue_8 : decode cX7_hasValue 8 = .ok (.iadd, 1) := by decide +kernel
theorem dX7_hasValue_9 : decode cX7_hasValue 9 = .ok (.if_icmp .ne 7, 3) := by decide +kernel
theorem dX7_hasValue_12 : decode cX7_hasValue 12 = .ok (.iconst 1, 1) := by decide +kernel
theorem dX7_hasValue_13 : decode cX7_hasValue 13 = .ok (.goto 4, 3) := by decide +kernel
theorem dX7_hasValue_16 : decode cX7_hasValue 16 = .ok (.iconst 0, 1) := by decide +kernel
theorem dX7_hasValue_17 : decode cX7_hasValue 17 = .ok (.ireturn, 1) := by decide +kernel
theorem dX7_answers_0 : decode cX7_answers 0 = .ok (.aload_n 0, 1) := by decide +kernel
theorem dX7_answers_1 : decode cX7_answers 1 = .ok (.iload_n 1, 1) := by decide +kernel
theorem dX7_answers_2 : decode cX7_answers 2 = .ok (.iload_n 3, 1) := by decide +kernel
theorem dX7_answers_3 : decode cX7_answers 3 = .ok (.invokevirtual 114, 3) := by decide +kernel
theorem dX7_answers_6 : decode cX7_answers 6 = .ok (.iconst 2, 1) := by decide +kernel
theorem dX7_answers_7 : decode cX7_answers 7 = .ok (.if_icmp .ne 7, 3) := by decide +kernel
theorem dX7_answers_10 : decode cX7_answers 10 = .ok (.iconst 1, 1) := by decide +kernel
theorem dX7_answers_11 : decode cX7_answers 11 = .ok (.goto 4, 3) := by decide +kernel
theorem dX7_answers_14 : decode cX7_answers 14 = .ok (.iconst 0, 1) := by decide +kernel
theorem dX7_answers_15 : decode cX7_answers 15 = .ok (.istore 4, 2) := by decide +kernel
theorem dX7_answers_17 : decode cX7_answers 17 = .ok (.iconst 0, 1) := by decide +kernel
theorem dX7_answers_18 : decode cX7_answers 18 = .ok (.istore 5, 2) := by decide +kernel
theorem dX7_answers_20 : decode cX7_answers 20 = .ok (.iconst 0, 1) := by decide +kernel
theorem dX7_answers_21 : decode cX7_answers 21 = .ok (.istore 6, 2) := by decide +kernel
theorem dX7_answers_23 : decode cX7_answers 23 = .ok (.iload 6, 2) := by decide +kernel
theorem dX7_answers_25 : decode cX7_answers 25 = .ok (.bipush 24, 2) := by decide +kernel
theorem dX7_answers_27 : decode cX7_answers 27 = .ok (.if_icmp .ge 69, 3) := by decide +kernel
theorem dX7_answers_30 : decode cX7_answers 30 = .ok (.aload_n 0, 1) := by decide +kernel
theorem dX7_answers_31 : decode cX7_answers 31 = .ok (.iload 6, 2) := by decide +kernel
theorem dX7_answers_33 : decode cX7_answers 33 = .ok (.iload_n 1, 1) := by decide +kernel
theorem dX7_answers_34 : decode cX7_answers 34 = .ok (.invokevirtual 63, 3) := by decide +kernel
theorem dX7_answers_37 : decode cX7_answers 37 = .ok (.ifCond .ne 21, 3) := by decide +kernel
theorem dX7_answers_40 : decode cX7_answers 40 = .ok (.iload 4, 2) := by decide +kernel
theorem dX7_answers_42 : decode cX7_answers 42 = .ok (.ifCond .eq 20, 3) := by decide +kernel
theorem dX7_answers_45 : decode cX7_answers 45 = .ok (.aload_n 0, 1) := by decide +kernel
theorem dX7_answers_46 : decode cX7_answers 46 = .ok (.iload 6, 2) := by decide +kernel
theorem dX7_answers_48 : decode cX7_answers 48 = .ok (.iconst 4, 1) := by decide +kernel
theorem dX7_answers_49 : decode cX7_answers 49 = .ok (.idiv, 1) := by decide +kernel
theorem dX7_answers_50 : decode cX7_answers 50 = .ok (.iconst 0, 1) := by decide +kernel
theorem dX7_answers_51 : decode cX7_answers 51 = .ok (.invokevirtual 105, 3) := by decide +kernel
theorem dX7_answers_54 : decode cX7_answers 54 = .ok (.iconst 1, 1) := by decide +kernel
theorem dX7_answers_55 : decode cX7_answers 55 = .ok (.if_icmp .ne 7, 3) := by decide +kernel
theorem dX7_answers_58 : decode cX7_answers 58 = .ok (.iconst 1, 1) := by decide +kernel
theorem dX7_answers_59 : decode cX7_answers 59 = .ok (.goto 4, 3) := by decide +kernel
theorem dX7_answers_62 : decode cX7_answers 62 = .ok (.iconst 0, 1) := by decide +kernel
theorem dX7_answers_63 : decode cX7_answers 63 = .ok (.istore 7, 2) := by decide +kernel
theorem dX7_answers_65 : decode cX7_answers 65 = .ok (.iload 5, 2) := by decide +kernel
theorem dX7_answers_67 : decode cX7_answers 67 = .ok (.aload_n 0, 1) := by decide +kernel
theorem dX7_answers_68 : decode cX7_answers 68 = .ok (.iload 6, 2) := by decide +kernel
theorem dX7_answers_70 : decode cX7_answers 70 = .ok (.iload_n 2, 1) := by decide +kernel
theorem dX7_answers_71 : decode cX7_answers 71 = .ok (.invokevirtual 117, 3) := by decide +kernel
theorem dX7_answers_74 : decode cX7_answers 74 = .ok (.ifCond .eq 12, 3) := by decide +kernel
theorem dX7_answers_77 : decode cX7_answers 77 = .ok (.iload 7, 2) := by decide +kernel
theorem dX7_answers_79 : decode cX7_answers 79 = .ok (.ifCond .eq 7, 3) := by decide +kernel
theorem dX7_answers_82 : decode cX7_answers 82 = .ok (.iconst 1, 1) := by decide +kernel
theorem dX7_answers_83 : decode cX7_answers 83 = .ok (.goto 4, 3) := by decide +kernel
theorem dX7_answers_86 : decode cX7_answers 86 = .ok (.iconst 0, 1) := by decide +kernel
theorem dX7_answers_87 : decode cX7_answers 87 = .ok (.iadd, 1) := by decide +kernel
theorem dX7_answers_88 : decode cX7_answers 88 = .ok (.istore 5, 2) := by decide +kernel
theorem dX7_answers_90 : decode cX7_answers 90 = .ok (.iinc 6 1, 3) := by decide +kernel
theorem dX7_answers_93 : decode cX7_answers 93 = .ok (.goto (-70), 3) := by decide +kernel
theorem dX7_answers_96 : decode cX7_answers 96 = .ok (.iload 5, 2) := by decide +kernel
theorem dX7_answers_98 : decode cX7_answers 98 = .ok (.ireturn, 1) := by decide +kernel
theorem dX7_hasIn_0 : decode cX7_hasIn 0 = .ok (.iconst 0, 1) := by decide +kernel
theorem dX7_hasIn_1 : decode cX7_hasIn 1 = .ok (.istore_n 3, 1) := by decide +kernel
theorem dX7_hasIn_2 : decode cX7_hasIn 2 = .ok (.iconst 4, 1) := by decide +kernel
theorem dX7_hasIn_3 : decode cX7_hasIn 3 = .ok (.iload_n 1, 1) := by decide +kernel
theorem dX7_hasIn_4 : decode cX7_hasIn 4 = .ok (.imul, 1) := by decide +kernel
theorem dX7_hasIn_5 : decode cX7_hasIn 5 = .ok (.istore 4, 2) := by decide +kernel
theorem dX7_hasIn_7 : decode cX7_hasIn 7 = .ok (.iload 4, 2) := by decide +kernel
theorem dX7_hasIn_9 : decode cX7_hasIn 9 = .ok (.iconst 4, 1) := by decide +kernel
theorem dX7_hasIn_10 : decode cX7_hasIn 10 = .ok (.iload_n 1, 1) := by decide +kernel
theorem dX7_hasIn_11 : decode cX7_hasIn 11 = .ok (.imul, 1) := by decide +kernel
theorem dX7_hasIn_12 : decode cX7_hasIn 12 = .ok (.iconst 4, 1) := by decide +kernel
theorem dX7_hasIn_13 : decode cX7_hasIn 13 = .ok (.iadd, 1) := by decide +kernel
theorem dX7_hasIn_14 : decode cX7_hasIn 14 = .ok (.if_icmp .ge 29, 3) := by decide +kernel
theorem dX7_hasIn_17 : decode cX7_hasIn 17 = .ok (.iload_n 3, 1) := by decide +kernel
theorem dX7_hasIn_18 : decode cX7_hasIn 18 = .ok (.ifCond .ne 13, 3) := by decide +kernel
theorem dX7_hasIn_21 : decode cX7_hasIn 21 = .ok (.aload_n 0, 1) := by decide +kernel
theorem dX7_hasIn_22 : decode cX7_hasIn 22 = .ok (.iload 4, 2) := by decide +kernel
theorem dX7_hasIn_24 : decode cX7_hasIn 24 = .ok (.iload_n 2, 1) := by decide +kernel
theorem dX7_hasIn_25 : decode cX7_hasIn 25 = .ok (.invokevirtual 117, 3) := by decide +kernel
theorem dX7_hasIn_28 : decode cX7_hasIn 28 = .ok (.ifCond .eq 7, 3) := by decide +kernel
theorem dX7_hasIn_31 : decode cX7_hasIn 31 = .ok (.iconst 1, 1) := by decide +kernel
theorem dX7_hasIn_32 : decode cX7_hasIn 32 = .ok (.goto 4, 3) := by decide +kernel
theorem dX7_hasIn_35 : decode cX7_hasIn 35 = .ok (.iconst 0, 1) := by decide +kernel
theorem dX7_hasIn_36 : decode cX7_hasIn 36 = .ok (.istore_n 3, 1) := by decide +kernel
theorem dX7_hasIn_37 : decode cX7_hasIn 37 = .ok (.iinc 4 1, 3) := by decide +kernel
theorem dX7_hasIn_40 : decode cX7_hasIn 40 = .ok (.goto (-33), 3) := by decide +kernel
theorem dX7_hasIn_43 : decode cX7_hasIn 43 = .ok (.iload_n 3, 1) := by decide +kernel
theorem dX7_hasIn_44 : decode cX7_hasIn 44 = .ok (.ireturn, 1) := by decide +kernel
theorem dX7_costs_0 : decode cX7_costs 0 = .ok (.aload_n 0, 1) := by decide +kernel
theorem dX7_costs_1 : decode cX7_costs 1 = .ok (.iload_n 1, 1) := by decide +kernel
theorem dX7_costs_2 : decode cX7_costs 2 = .ok (.iload_n 3, 1) := by decide +kernel
theorem dX7_costs_3 : decode cX7_costs 3 = .ok (.invokevirtual 114, 3) := by decide +kernel
theorem dX7_costs_6 : decode cX7_costs 6 = .ok (.istore 4, 2) := by decide +kernel
theorem dX7_costs_8 : decode cX7_costs 8 = .ok (.iconst 0, 1) := by decide +kernel
theorem dX7_costs_9 : decode cX7_costs 9 = .ok (.istore 5, 2) := by decide +kernel
theorem dX7_costs_11 : decode cX7_costs 11 = .ok (.iconst 0, 1) := by decide +kernel
theorem dX7_costs_12 : decode cX7_costs 12 = .ok (.istore 6, 2) := by decide +kernel
theorem dX7_costs_14 : decode cX7_costs 14 = .ok (.iload 6, 2) := by decide +kernel
theorem dX7_costs_16 : decode cX7_costs 16 = .ok (.bipush 6, 2) := by decide +kernel
theorem dX7_costs_18 : decode cX7_costs 18 = .ok (.if_icmp .ge 62, 3) := by decide +kernel
theorem dX7_costs_21 : decode cX7_costs 21 = .ok (.iload 4, 2) := by decide +kernel
theorem dX7_costs_23 : decode cX7_costs 23 = .ok (.ifCond .eq 29, 3) := by decide +kernel
theorem dX7_costs_26 : decode cX7_costs 26 = .ok (.aload_n 0, 1) := by decide +kernel
theorem dX7_costs_27 : decode cX7_costs 27 = .ok (.iload 6, 2) := by decide +kernel
theorem dX7_costs_29 : decode cX7_costs 29 = .ok (.iload_n 2, 1) := by decide +kernel
theorem dX7_costs_30 : decode cX7_costs 30 = .ok (.invokevirtual 120, 3) := by decide +kernel
theorem dX7_costs_33 : decode cX7_costs 33 = .ok (.ifCond .eq 23, 3) := by decide +kernel
theorem dX7_costs_36 : decode cX7_costs 36 = .ok (.iload 4, 2) := by decide +kernel
theorem dX7_costs_38 : decode cX7_costs 38 = .ok (.iconst 1, 1) := by decide +kernel
theorem dX7_costs_39 : decode cX7_costs 39 = .ok (.if_icmp .eq 13, 3) := by decide +kernel
theorem dX7_costs_42 : decode cX7_costs 42 = .ok (.aload_n 0, 1) := by decide +kernel
theorem dX7_costs_43 : decode cX7_costs 43 = .ok (.iload 6, 2) := by decide +kernel
theorem dX7_costs_45 : decode cX7_costs 45 = .ok (.iconst 0, 1) := by decide +kernel
theorem dX7_costs_46 : decode cX7_costs 46 = .ok (.invokevirtual 105, 3) := by decide +kernel
theorem dX7_costs_49 : decode cX7_costs 49 = .ok (.ifCond .ne 7, 3) := by decide +kernel
theorem dX7_costs_52 : decode cX7_costs 52 = .ok (.iconst 1, 1) := by decide +kernel
theorem dX7_costs_53 : decode cX7_costs 53 = .ok (.goto 4, 3) := by decide +kernel
theorem dX7_costs_56 : decode cX7_costs 56 = .ok (.iconst 0, 1) := by decide +kernel
theorem dX7_costs_57 : decode cX7_costs 57 = .ok (.istore 7, 2) := by decide +kernel
theorem dX7_costs_59 : decode cX7_costs 59 = .ok (.iload 5, 2) := by decide +kernel
theorem dX7_costs_61 : decode cX7_costs 61 = .ok (.iload 7, 2) := by decide +kernel
theorem dX7_costs_63 : decode cX7_costs 63 = .ok (.ifCond .eq 7, 3) := by decide +kernel
theorem dX7_costs_66 : decode cX7_costs 66 = .ok (.iconst 1, 1) := by decide +kernel
theorem dX7_costs_67 : decode cX7_costs 67 = .ok (.goto 4, 3) := by decide +kernel
theorem dX7_costs_70 : decode cX7_costs 70 = .ok (.iconst 0, 1) := by decide +kernel
theorem dX7_costs_71 : decode cX7_costs 71 = .ok (.iadd, 1) := by decide +kernel
theorem dX7_costs_72 : decode cX7_costs 72 = .ok (.istore 5, 2) := by decide +kernel
theorem dX7_costs_74 : decode cX7_costs 74 = .ok (.iinc 6 1, 3) := by decide +kernel
theorem dX7_costs_77 : decode cX7_costs 77 = .ok (.goto (-63), 3) := by decide +kernel
theorem dX7_costs_80 : decode cX7_costs 80 = .ok (.iload 5, 2) := by decide +kernel
theorem dX7_costs_82 : decode cX7_costs 82 = .ok (.ireturn, 1) := by decide +kernel
theorem dX7_ask_0 : decode cX7_ask 0 = .ok (.aload_n 0, 1) := by decide +kernel
theorem dX7_ask_1 : decode cX7_ask 1 = .ok (.iconst 0, 1) := by decide +kernel
theorem dX7_ask_2 : decode cX7_ask 2 = .ok (.putfield 22, 3) := by decide +kernel
theorem dX7_ask_5 : decode cX7_ask 5 = .ok (.iload_n 1, 1) := by decide +kernel
theorem dX7_ask_6 : decode cX7_ask 6 = .ok (.invokestatic 87, 3) := by decide +kernel
theorem dX7_ask_9 : decode cX7_ask 9 = .ok (.ifCond .ne 9, 3) := by decide +kernel
theorem dX7_ask_12 : decode cX7_ask 12 = .ok (.aload_n 0, 1) := by decide +kernel
theorem dX7_ask_13 : decode cX7_ask 13 = .ok (.iconst 1, 1) := by decide +kernel
theorem dX7_ask_14 : decode cX7_ask 14 = .ok (.invokevirtual 67, 3) := by decide +kernel
theorem dX7_ask_17 : decode cX7_ask 17 = .ok (.ireturn, 1) := by decide +kernel
theorem dX7_ask_18 : decode cX7_ask 18 = .ok (.iload_n 2, 1) := by decide +kernel
theorem dX7_ask_19 : decode cX7_ask 19 = .ok (.iconst 0, 1) := by decide +kernel
theorem dX7_ask_20 : decode cX7_ask 20 = .ok (.bipush 9, 2) := by decide +kernel
theorem dX7_ask_22 : decode cX7_ask 22 = .ok (.invokestatic 26, 3) := by decide +kernel
theorem dX7_ask_25 : decode cX7_ask 25 = .ok (.ifCond .eq 12, 3) := by decide +kernel
theorem dX7_ask_28 : decode cX7_ask 28 = .ok (.iload_n 3, 1) := by decide +kernel
theorem dX7_ask_29 : decode cX7_ask 29 = .ok (.iconst 0, 1) := by decide +kernel
theorem dX7_ask_30 : decode cX7_ask 30 = .ok (.iconst 2, 1) := by decide +kernel
theorem dX7_ask_31 : decode cX7_ask 31 = .ok (.invokestatic 26, 3) := by decide +kernel
theorem dX7_ask_34 : decode cX7_ask 34 = .ok (.ifCond .ne 9, 3) := by decide +kernel
theorem dX7_ask_37 : decode cX7_ask 37 = .ok (.aload_n 0, 1) := by decide +kernel
theorem dX7_ask_38 : decode cX7_ask 38 = .ok (.iconst 2, 1) := by decide +kernel
theorem dX7_ask_39 : decode cX7_ask 39 = .ok (.invokevirtual 67, 3) := by decide +kernel
theorem dX7_ask_42 : decode cX7_ask 42 = .ok (.ireturn, 1) := by decide +kernel
theorem dX7_ask_43 : decode cX7_ask 43 = .ok (.aload_n 0, 1) := by decide +kernel
theorem dX7_ask_44 : decode cX7_ask 44 = .ok (.iload_n 1, 1) := by decide +kernel
theorem dX7_ask_45 : decode cX7_ask 45 = .ok (.invokevirtual 81, 3) := by decide +kernel
theorem dX7_ask_48 : decode cX7_ask 48 = .ok (.istore 4, 2) := by decide +kernel
theorem dX7_ask_50 : decode cX7_ask 50 = .ok (.iload 4, 2) := by decide +kernel
theorem dX7_ask_52 : decode cX7_ask 52 = .ok (.iconst (-1), 1) := by decide +kernel
theorem dX7_ask_53 : decode cX7_ask 53 = .ok (.if_icmp .ne 9, 3) := by decide +kernel
theorem dX7_ask_56 : decode cX7_ask 56 = .ok (.aload_n 0, 1) := by decide +kernel
theorem dX7_ask_57 : decode cX7_ask 57 = .ok (.iconst 3, 1) := by decide +kernel
theorem dX7_ask_58 : decode cX7_ask 58 = .ok (.invokevirtual 67, 3) := by decide +kernel
theorem dX7_ask_61 : decode cX7_ask 61 = .ok (.ireturn, 1) := by decide +kernel
theorem dX7_ask_62 : decode cX7_ask 62 = .ok (.aload_n 0, 1) := by decide +kernel
theorem dX7_ask_63 : decode cX7_ask 63 = .ok (.invokevirtual 74, 3) := by decide +kernel
theorem dX7_ask_66 : decode cX7_ask 66 = .ok (.aload_n 0, 1) := by decide +kernel
theorem dX7_ask_67 : decode cX7_ask 67 = .ok (.getfield 7, 3) := by decide +kernel
theorem dX7_ask_70 : decode cX7_ask 70 = .ok (.iconst 1, 1) := by decide +kernel
theorem dX7_ask_71 : decode cX7_ask 71 = .ok (.iload_n 3, 1) := by decide +kernel
theorem dX7_ask_72 : decode cX7_ask 72 = .ok (.iadd, 1) := by decide +kernel
theorem dX7_ask_73 : decode cX7_ask 73 = .ok (.dup2, 1) := by decide +kernel
theorem dX7_ask_74 : decode cX7_ask 74 = .ok (.iaload, 1) := by decide +kernel
theorem dX7_ask_75 : decode cX7_ask 75 = .ok (.iconst 1, 1) := by decide +kernel
theorem dX7_ask_76 : decode cX7_ask 76 = .ok (.iadd, 1) := by decide +kernel
theorem dX7_ask_77 : decode cX7_ask 77 = .ok (.iastore, 1) := by decide +kernel
theorem dX7_ask_78 : decode cX7_ask 78 = .ok (.aload_n 0, 1) := by decide +kernel
theorem dX7_ask_79 : decode cX7_ask 79 = .ok (.getfield 7, 3) := by decide +kernel
theorem dX7_ask_82 : decode cX7_ask 82 = .ok (.iconst 4, 1) := by decide +kernel
theorem dX7_ask_83 : decode cX7_ask 83 = .ok (.dup2, 1) := by decide +kernel
theorem dX7_ask_84 : decode cX7_ask 84 = .ok (.iaload, 1) := by decide +kernel
theorem dX7_ask_85 : decode cX7_ask 85 = .ok (.aload_n 0, 1) := by decide +kernel
theorem dX7_ask_86 : decode cX7_ask 86 = .ok (.iload 4, 2) := by decide +kernel
theorem dX7_ask_88 : decode cX7_ask 88 = .ok (.iload_n 3, 1) := by decide +kernel
theorem dX7_ask_89 : decode cX7_ask 89 = .ok (.invokevirtual 114, 3) := by decide +kernel
theorem dX7_ask_92 : decode cX7_ask 92 = .ok (.iload_n 3, 1) := by decide +kernel
theorem dX7_ask_93 : decode cX7_ask 93 = .ok (.if_icmp .eq 7, 3) := by decide +kernel
theorem dX7_ask_96 : decode cX7_ask 96 = .ok (.iconst 1, 1) := by decide +kernel
theorem dX7_ask_97 : decode cX7_ask 97 = .ok (.goto 4, 3) := by decide +kernel
theorem dX7_ask_100 : decode cX7_ask 100 = .ok (.iconst 0, 1) := by decide +kernel
theorem dX7_ask_101 : decode cX7_ask 101 = .ok (.iadd, 1) := by decide +kernel
theorem dX7_ask_102 : decode cX7_ask 102 = .ok (.iastore, 1) := by decide +kernel
theorem dX7_ask_103 : decode cX7_ask 103 = .ok (.aload_n 0, 1) := by decide +kernel
theorem dX7_ask_104 : decode cX7_ask 104 = .ok (.getfield 7, 3) := by decide +kernel
theorem dX7_ask_107 : decode cX7_ask 107 = .ok (.iconst 5, 1) := by decide +kernel
theorem dX7_ask_108 : decode cX7_ask 108 = .ok (.dup2, 1) := by decide +kernel
theorem dX7_ask_109 : decode cX7_ask 109 = .ok (.iaload, 1) := by decide +kernel
theorem dX7_ask_110 : decode cX7_ask 110 = .ok (.aload_n 0, 1) := by decide +kernel
theorem dX7_ask_111 : decode cX7_ask 111 = .ok (.iload 4, 2) := by decide +kernel
theorem dX7_ask_113 : decode cX7_ask 113 = .ok (.iload_n 2, 1) := by decide +kernel
theorem dX7_ask_114 : decode cX7_ask 114 = .ok (.iload_n 3, 1) := by decide +kernel
theorem dX7_ask_115 : decode cX7_ask 115 = .ok (.invokevirtual 123, 3) := by decide +kernel
theorem dX7_ask_118 : decode cX7_ask 118 = .ok (.iadd, 1) := by decide +kernel
theorem dX7_ask_119 : decode cX7_ask 119 = .ok (.iastore, 1) := by decide +kernel
theorem dX7_ask_120 : decode cX7_ask 120 = .ok (.aload_n 0, 1) := by decide +kernel
theorem dX7_ask_121 : decode cX7_ask 121 = .ok (.getfield 7, 3) := by decide +kernel
theorem dX7_ask_124 : decode cX7_ask 124 = .ok (.bipush 91, 2) := by decide +kernel
theorem dX7_ask_126 : decode cX7_ask 126 = .ok (.iconst 2, 1) := by decide +kernel
theorem dX7_ask_127 : decode cX7_ask 127 = .ok (.iload_n 1, 1) := by decide +kernel
theorem dX7_ask_128 : decode cX7_ask 128 = .ok (.imul, 1) := by decide +kernel
theorem dX7_ask_129 : decode cX7_ask 129 = .ok (.iadd, 1) := by decide +kernel
theorem dX7_ask_130 : decode cX7_ask 130 = .ok (.iconst 1, 1) := by decide +kernel
theorem dX7_ask_131 : decode cX7_ask 131 = .ok (.iadd, 1) := by decide +kernel
theorem dX7_ask_132 : decode cX7_ask 132 = .ok (.dup2, 1) := by decide +kernel
theorem dX7_ask_133 : decode cX7_ask 133 = .ok (.iaload, 1) := by decide +kernel
theorem dX7_ask_134 : decode cX7_ask 134 = .ok (.iconst 1, 1) := by decide +kernel
theorem dX7_ask_135 : decode cX7_ask 135 = .ok (.iadd, 1) := by decide +kernel
theorem dX7_ask_136 : decode cX7_ask 136 = .ok (.iastore, 1) := by decide +kernel
theorem dX7_ask_137 : decode cX7_ask 137 = .ok (.aload_n 0, 1) := by decide +kernel
theorem dX7_ask_138 : decode cX7_ask 138 = .ok (.iload 4, 2) := by decide +kernel
theorem dX7_ask_140 : decode cX7_ask 140 = .ok (.iload_n 2, 1) := by decide +kernel
theorem dX7_ask_141 : decode cX7_ask 141 = .ok (.iload_n 3, 1) := by decide +kernel
theorem dX7_ask_142 : decode cX7_ask 142 = .ok (.invokevirtual 126, 3) := by decide +kernel
theorem dX7_ask_145 : decode cX7_ask 145 = .ok (.ireturn, 1) := by decide +kernel
theorem dX7_append_0 : decode cX7_append 0 = .ok (.aload_n 0, 1) := by decide +kernel
theorem dX7_append_1 : decode cX7_append 1 = .ok (.iconst 0, 1) := by decide +kernel
theorem dX7_append_2 : decode cX7_append 2 = .ok (.putfield 22, 3) := by decide +kernel
theorem dX7_append_5 : decode cX7_append 5 = .ok (.iload_n 1, 1) := by decide +kernel
theorem dX7_append_6 : decode cX7_append 6 = .ok (.bipush 33, 2) := by decide +kernel
theorem dX7_append_8 : decode cX7_append 8 = .ok (.bipush 126, 2) := by decide +kernel
theorem dX7_append_10 : decode cX7_append 10 = .ok (.invokestatic 26, 3) := by decide +kernel
theorem dX7_append_13 : decode cX7_append 13 = .ok (.ifCond .ne 9, 3) := by decide +kernel
theorem dX7_append_16 : decode cX7_append 16 = .ok (.aload_n 0, 1) := by decide +kernel
theorem dX7_append_17 : decode cX7_append 17 = .ok (.iconst 1, 1) := by decide +kernel
theorem dX7_append_18 : decode cX7_append 18 = .ok (.invokevirtual 67, 3) := by decide +kernel
theorem dX7_append_21 : decode cX7_append 21 = .ok (.ireturn, 1) := by decide +kernel
theorem dX7_append_22 : decode cX7_append 22 = .ok (.aload_n 0, 1) := by decide +kernel
theorem dX7_append_23 : decode cX7_append 23 = .ok (.getfield 129, 3) := by decide +kernel
theorem dX7_append_26 : decode cX7_append 26 = .ok (.bipush 60, 2) := by decide +kernel
theorem dX7_append_28 : decode cX7_append 28 = .ok (.if_icmp .ne 9, 3) := by decide +kernel
theorem dX7_append_31 : decode cX7_append 31 = .ok (.aload_n 0, 1) := by decide +kernel
theorem dX7_append_32 : decode cX7_append 32 = .ok (.iconst 2, 1) := by decide +kernel
theorem dX7_append_33 : decode cX7_append 33 = .ok (.invokevirtual 67, 3) := by decide +kernel
theorem dX7_append_36 : decode cX7_append 36 = .ok (.ireturn, 1) := by decide +kernel
theorem dX7_append_37 : decode cX7_append 37 = .ok (.aload_n 0, 1) := by decide +kernel
theorem dX7_append_38 : decode cX7_append 38 = .ok (.getfield 16, 3) := by decide +kernel
theorem dX7_append_41 : decode cX7_append 41 = .ok (.aload_n 0, 1) := by decide +kernel
theorem dX7_append_42 : decode cX7_append 42 = .ok (.getfield 129, 3) := by decide +kernel
theorem dX7_append_45 : decode cX7_append 45 = .ok (.iload_n 1, 1) := by decide +kernel
theorem dX7_append_46 : decode cX7_append 46 = .ok (.iastore, 1) := by decide +kernel
theorem dX7_append_47 : decode cX7_append 47 = .ok (.aload_n 0, 1) := by decide +kernel
theorem dX7_append_48 : decode cX7_append 48 = .ok (.dup, 1) := by decide +kernel
theorem dX7_append_49 : decode cX7_append 49 = .ok (.getfield 129, 3) := by decide +kernel
theorem dX7_append_52 : decode cX7_append 52 = .ok (.iconst 1, 1) := by decide +kernel
theorem dX7_append_53 : decode cX7_append 53 = .ok (.iadd, 1) := by decide +kernel
theorem dX7_append_54 : decode cX7_append 54 = .ok (.putfield 129, 3) := by decide +kernel
theorem dX7_append_57 : decode cX7_append 57 = .ok (.aload_n 0, 1) := by decide +kernel
theorem dX7_append_58 : decode cX7_append 58 = .ok (.getfield 129, 3) := by decide +kernel
theorem dX7_append_61 : decode cX7_append 61 = .ok (.ireturn, 1) := by decide +kernel
theorem dX7_clearBuffer_0 : decode cX7_clearBuffer 0 = .ok (.aload_n 0, 1) := by decide +kernel
theorem dX7_clearBuffer_1 : decode cX7_clearBuffer 1 = .ok (.iconst 0, 1) := by decide +kernel
theorem dX7_clearBuffer_2 : decode cX7_clearBuffer 2 = .ok (.putfield 22, 3) := by decide +kernel
theorem dX7_clearBuffer_5 : decode cX7_clearBuffer 5 = .ok (.aload_n 0, 1) := by decide +kernel
theorem dX7_clearBuffer_6 : decode cX7_clearBuffer 6 = .ok (.getfield 129, 3) := by decide +kernel
theorem dX7_clearBuffer_9 : decode cX7_clearBuffer 9 = .ok (.istore_n 1, 1) := by decide +kernel
theorem dX7_clearBuffer_10 : decode cX7_clearBuffer 10 = .ok (.aload_n 0, 1) := by decide +kernel
theorem dX7_clearBuffer_11 : decode cX7_clearBuffer 11 = .ok (.iconst 0, 1) := by decide +kernel
theorem dX7_clearBuffer_12 : decode cX7_clearBuffer 12 = .ok (.putfield 129, 3) := by decide +kernel
theorem dX7_clearBuffer_15 : decode cX7_clearBuffer 15 = .ok (.iload_n 1, 1) := by decide +kernel
theorem dX7_clearBuffer_16 : decode cX7_clearBuffer 16 = .ok (.ireturn, 1) := by decide +kernel
theorem dX7_sign_0 : decode cX7_sign 0 = .ok (.aload_n 0, 1) := by decide +kernel
theorem dX7_sign_1 : decode cX7_sign 1 = .ok (.getfield 132, 3) := by decide +kernel
theorem dX7_sign_4 : decode cX7_sign 4 = .ok (.aload_n 0, 1) := by decide +kernel
theorem dX7_sign_5 : decode cX7_sign 5 = .ok (.getfield 129, 3) := by decide +kernel
theorem dX7_sign_8 : decode cX7_sign 8 = .ok (.if_icmp .ge 15, 3) := by decide +kernel
theorem dX7_sign_11 : decode cX7_sign 11 = .ok (.aload_n 0, 1) := by decide +kernel
theorem dX7_sign_12 : decode cX7_sign 12 = .ok (.getfield 16, 3) := by decide +kernel
theorem dX7_sign_15 : decode cX7_sign 15 = .ok (.aload_n 0, 1) := by decide +kernel
theorem dX7_sign_16 : decode cX7_sign 16 = .ok (.getfield 132, 3) := by decide +kernel
theorem dX7_sign_19 : decode cX7_sign 19 = .ok (.iaload, 1) := by decide +kernel
theorem dX7_sign_20 : decode cX7_sign 20 = .ok (.goto 4, 3) := by decide +kernel
theorem dX7_sign_23 : decode cX7_sign 23 = .ok (.iconst 0, 1) := by decide +kernel
theorem dX7_sign_24 : decode cX7_sign 24 = .ok (.ireturn, 1) := by decide +kernel
theorem dX7_digit_0 : decode cX7_digit 0 = .ok (.aload_n 0, 1) := by decide +kernel
theorem dX7_digit_1 : decode cX7_digit 1 = .ok (.aload_n 0, 1) := by decide +kernel
theorem dX7_digit_2 : decode cX7_digit 2 = .ok (.getfield 135, 3) := by decide +kernel
theorem dX7_digit_5 : decode cX7_digit 5 = .ok (.ifCond .eq 20, 3) := by decide +kernel
theorem dX7_digit_8 : decode cX7_digit 8 = .ok (.aload_n 0, 1) := by decide +kernel
theorem dX7_digit_9 : decode cX7_digit 9 = .ok (.invokevirtual 139, 3) := by decide +kernel
theorem dX7_digit_12 : decode cX7_digit 12 = .ok (.bipush 48, 2) := by decide +kernel
theorem dX7_digit_14 : decode cX7_digit 14 = .ok (.iload_n 1, 1) := by decide +kernel
theorem dX7_digit_15 : decode cX7_digit 15 = .ok (.invokestatic 26, 3) := by decide +kernel
theorem dX7_digit_18 : decode cX7_digit 18 = .ok (.ifCond .eq 7, 3) := by decide +kernel
theorem dX7_digit_21 : decode cX7_digit 21 = .ok (.iconst 1, 1) := by decide +kernel
theorem dX7_digit_22 : decode cX7_digit 22 = .ok (.goto 4, 3) := by decide +kernel
theorem dX7_digit_25 : decode cX7_digit 25 = .ok (.iconst 0, 1) := by decide +kernel
theorem dX7_digit_26 : decode cX7_digit 26 = .ok (.putfield 135, 3) := by decide +kernel
theorem dX7_digit_29 : decode cX7_digit 29 = .ok (.aload_n 0, 1) := by decide +kernel
theorem dX7_digit_30 : decode cX7_digit 30 = .ok (.invokevirtual 139, 3) := by decide +kernel
theorem dX7_digit_33 : decode cX7_digit 33 = .ok (.bipush 48, 2) := by decide +kernel
theorem dX7_digit_35 : decode cX7_digit 35 = .ok (.isub, 1) := by decide +kernel
theorem dX7_digit_36 : decode cX7_digit 36 = .ok (.istore_n 2, 1) := by decide +kernel
theorem dX7_digit_37 : decode cX7_digit 37 = .ok (.aload_n 0, 1) := by decide +kernel
theorem dX7_digit_38 : decode cX7_digit 38 = .ok (.dup, 1) := by decide +kernel
theorem dX7_digit_39 : decode cX7_digit 39 = .ok (.getfield 132, 3) := by decide +kernel
theorem dX7_digit_42 : decode cX7_digit 42 = .ok (.aload_n 0, 1) := by decide +kernel
theorem dX7_digit_43 : decode cX7_digit 43 = .ok (.getfield 135, 3) := by decide +kernel
theorem dX7_digit_46 : decode cX7_digit 46 = .ok (.ifCond .eq 7, 3) := by decide +kernel
theorem dX7_digit_49 : decode cX7_digit 49 = .ok (.iconst 1, 1) := by decide +kernel
theorem dX7_digit_50 : decode cX7_digit 50 = .ok (.goto 4, 3) := by decide +kernel
theorem dX7_digit_53 : decode cX7_digit 53 = .ok (.iconst 0, 1) := by decide +kernel
theorem dX7_digit_54 : decode cX7_digit 54 = .ok (.iadd, 1) := by decide +kernel
theorem dX7_digit_55 : decode cX7_digit 55 = .ok (.putfield 132, 3) := by decide +kernel
theorem dX7_digit_58 : decode cX7_digit 58 = .ok (.iload_n 2, 1) := by decide +kernel
theorem dX7_digit_59 : decode cX7_digit 59 = .ok (.ireturn, 1) := by decide +kernel
theorem dX7_placeRead_0 : decode cX7_placeRead 0 = .ok (.aload_n 0, 1) := by decide +kernel
theorem dX7_placeRead_1 : decode cX7_placeRead 1 = .ok (.bipush 57, 2) := by decide +kernel
theorem dX7_placeRead_3 : decode cX7_placeRead 3 = .ok (.invokevirtual 142, 3) := by decide +kernel
theorem dX7_placeRead_6 : decode cX7_placeRead 6 = .ok (.istore_n 1, 1) := by decide +kernel
theorem dX7_placeRead_7 : decode cX7_placeRead 7 = .ok (.aload_n 0, 1) := by decide +kernel
theorem dX7_placeRead_8 : decode cX7_placeRead 8 = .ok (.getfield 135, 3) := by decide +kernel
theorem dX7_placeRead_11 : decode cX7_placeRead 11 = .ok (.ifCond .eq 50, 3) := by decide +kernel
theorem dX7_placeRead_14 : decode cX7_placeRead 14 = .ok (.iload_n 1, 1) := by decide +kernel
theorem dX7_placeRead_15 : decode cX7_placeRead 15 = .ok (.ifCond .le 46, 3) := by decide +kernel
theorem dX7_placeRead_18 : decode cX7_placeRead 18 = .ok (.aload_n 0, 1) := by decide +kernel
theorem dX7_placeRead_19 : decode cX7_placeRead 19 = .ok (.invokevirtual 139, 3) := by decide +kernel
theorem dX7_placeRead_22 : decode cX7_placeRead 22 = .ok (.bipush 48, 2) := by decide +kernel
theorem dX7_placeRead_24 : decode cX7_placeRead 24 = .ok (.bipush 57, 2) := by decide +kernel
theorem dX7_placeRead_26 : decode cX7_placeRead 26 = .ok (.invokestatic 26, 3) := by decide +kernel
theorem dX7_placeRead_29 : decode cX7_placeRead 29 = .ok (.ifCond .eq 32, 3) := by decide +kernel
theorem dX7_placeRead_32 : decode cX7_placeRead 32 = .ok (.bipush 10, 2) := by decide +kernel
theorem dX7_placeRead_34 : decode cX7_placeRead 34 = .ok (.iload_n 1, 1) := by decide +kernel
theorem dX7_placeRead_35 : decode cX7_placeRead 35 = .ok (.imul, 1) := by decide +kernel
theorem dX7_placeRead_36 : decode cX7_placeRead 36 = .ok (.aload_n 0, 1) := by decide +kernel
theorem dX7_placeRead_37 : decode cX7_placeRead 37 = .ok (.invokevirtual 139, 3) := by decide +kernel
theorem dX7_placeRead_40 : decode cX7_placeRead 40 = .ok (.iadd, 1) := by decide +kernel
theorem dX7_placeRead_41 : decode cX7_placeRead 41 = .ok (.bipush 48, 2) := by decide +kernel
theorem dX7_placeRead_43 : decode cX7_placeRead 43 = .ok (.isub, 1) := by decide +kernel
theorem dX7_placeRead_44 : decode cX7_placeRead 44 = .ok (.bipush 24, 2) := by decide +kernel
theorem dX7_placeRead_46 : decode cX7_placeRead 46 = .ok (.if_icmp .ge 15, 3) := by decide +kernel
theorem dX7_placeRead_49 : decode cX7_placeRead 49 = .ok (.bipush 10, 2) := by decide +kernel
theorem dX7_placeRead_51 : decode cX7_placeRead 51 = .ok (.iload_n 1, 1) := by decide +kernel
theorem dX7_placeRead_52 : decode cX7_placeRead 52 = .ok (.imul, 1) := by decide +kernel
theorem dX7_placeRead_53 : decode cX7_placeRead 53 = .ok (.aload_n 0, 1) := by decide +kernel
theorem dX7_placeRead_54 : decode cX7_placeRead 54 = .ok (.bipush 57, 2) := by decide +kernel
theorem dX7_placeRead_56 : decode cX7_placeRead 56 = .ok (.invokevirtual 142, 3) := by decide +kernel
theorem dX7_placeRead_59 : decode cX7_placeRead 59 = .ok (.iadd, 1) := by decide +kernel
theorem dX7_placeRead_60 : decode cX7_placeRead 60 = .ok (.istore_n 1, 1) := by decide +kernel
theorem dX7_placeRead_61 : decode cX7_placeRead 61 = .ok (.iload_n 1, 1) := by decide +kernel
theorem dX7_placeRead_62 : decode cX7_placeRead 62 = .ok (.ireturn, 1) := by decide +kernel
theorem dX7_readsChange_0 : decode cX7_readsChange 0 = .ok (.iconst 3, 1) := by decide +kernel
theorem dX7_readsChange_1 : decode cX7_readsChange 1 = .ok (.aload_n 0, 1) := by decide +kernel
theorem dX7_readsChange_2 : decode cX7_readsChange 2 = .ok (.getfield 145, 3) := by decide +kernel
theorem dX7_readsChange_5 : decode cX7_readsChange 5 = .ok (.imul, 1) := by decide +kernel
theorem dX7_readsChange_6 : decode cX7_readsChange 6 = .ok (.istore_n 1, 1) := by decide +kernel
theorem dX7_readsChange_7 : decode cX7_readsChange 7 = .ok (.aload_n 0, 1) := by decide +kernel
theorem dX7_readsChange_8 : decode cX7_readsChange 8 = .ok (.invokevirtual 139, 3) := by decide +kernel
theorem dX7_readsChange_11 : decode cX7_readsChange 11 = .ok (.istore_n 2, 1) := by decide +kernel
theorem dX7_readsChange_12 : decode cX7_readsChange 12 = .ok (.iload_n 2, 1) := by decide +kernel
theorem dX7_readsChange_13 : decode cX7_readsChange 13 = .ok (.bipush 43, 2) := by decide +kernel
theorem dX7_readsChange_15 : decode cX7_readsChange 15 = .ok (.if_icmp .eq 15, 3) := by decide +kernel
theorem dX7_readsChange_18 : decode cX7_readsChange 18 = .ok (.iload_n 2, 1) := by decide +kernel
theorem dX7_readsChange_19 : decode cX7_readsChange 19 = .ok (.bipush 45, 2) := by decide +kernel
theorem dX7_readsChange_21 : decode cX7_readsChange 21 = .ok (.if_icmp .eq 9, 3) := by decide +kernel
theorem dX7_readsChange_24 : decode cX7_readsChange 24 = .ok (.iload_n 2, 1) := by decide +kernel
theorem dX7_readsChange_25 : decode cX7_readsChange 25 = .ok (.bipush 126, 2) := by decide +kernel
theorem dX7_readsChange_27 : decode cX7_readsChange 27 = .ok (.if_icmp .ne 7, 3) := by decide +kernel
theorem dX7_readsChange_30 : decode cX7_readsChange 30 = .ok (.iconst 1, 1) := by decide +kernel
theorem dX7_readsChange_31 : decode cX7_readsChange 31 = .ok (.goto 4, 3) := by decide +kernel
theorem dX7_readsChange_34 : decode cX7_readsChange 34 = .ok (.iconst 0, 1) := by decide +kernel
theorem dX7_readsChange_35 : decode cX7_readsChange 35 = .ok (.istore_n 3, 1) := by decide +kernel
theorem dX7_readsChange_36 : decode cX7_readsChange 36 = .ok (.aload_n 0, 1) := by decide +kernel
theorem dX7_readsChange_37 : decode cX7_readsChange 37 = .ok (.dup, 1) := by decide +kernel
theorem dX7_readsChange_38 : decode cX7_readsChange 38 = .ok (.getfield 132, 3) := by decide +kernel
theorem dX7_readsChange_41 : decode cX7_readsChange 41 = .ok (.iload_n 3, 1) := by decide +kernel
theorem dX7_readsChange_42 : decode cX7_readsChange 42 = .ok (.ifCond .eq 7, 3) := by decide +kernel
theorem dX7_readsChange_45 : decode cX7_readsChange 45 = .ok (.iconst 1, 1) := by decide +kernel
theorem dX7_readsChange_46 : decode cX7_readsChange 46 = .ok (.goto 4, 3) := by decide +kernel
theorem dX7_readsChange_49 : decode cX7_readsChange 49 = .ok (.iconst 0, 1) := by decide +kernel
theorem dX7_readsChange_50 : decode cX7_readsChange 50 = .ok (.iadd, 1) := by decide +kernel
theorem dX7_readsChange_51 : decode cX7_readsChange 51 = .ok (.putfield 132, 3) := by decide +kernel
theorem dX7_readsChange_54 : decode cX7_readsChange 54 = .ok (.aload_n 0, 1) := by decide +kernel
theorem dX7_readsChange_55 : decode cX7_readsChange 55 = .ok (.getfield 19, 3) := by decide +kernel
theorem dX7_readsChange_58 : decode cX7_readsChange 58 = .ok (.iload_n 1, 1) := by decide +kernel
theorem dX7_readsChange_59 : decode cX7_readsChange 59 = .ok (.iload_n 3, 1) := by decide +kernel
theorem dX7_readsChange_60 : decode cX7_readsChange 60 = .ok (.ifCond .eq 7, 3) := by decide +kernel
theorem dX7_readsChange_63 : decode cX7_readsChange 63 = .ok (.iload_n 2, 1) := by decide +kernel
theorem dX7_readsChange_64 : decode cX7_readsChange 64 = .ok (.goto 5, 3) := by decide +kernel
theorem dX7_readsChange_67 : decode cX7_readsChange 67 = .ok (.bipush 61, 2) := by decide +kernel
theorem dX7_readsChange_69 : decode cX7_readsChange 69 = .ok (.iastore, 1) := by decide +kernel
theorem dX7_readsChange_70 : decode cX7_readsChange 70 = .ok (.aload_n 0, 1) := by decide +kernel
theorem dX7_readsChange_71 : decode cX7_readsChange 71 = .ok (.getfield 19, 3) := by decide +kernel
theorem dX7_readsChange_74 : decode cX7_readsChange 74 = .ok (.iload_n 1, 1) := by decide +kernel
theorem dX7_readsChange_75 : decode cX7_readsChange 75 = .ok (.iconst 1, 1) := by decide +kernel
theorem dX7_readsChange_76 : decode cX7_readsChange 76 = .ok (.iadd, 1) := by decide +kernel
theorem dX7_readsChange_77 : decode cX7_readsChange 77 = .ok (.iload_n 2, 1) := by decide +kernel
theorem dX7_readsChange_78 : decode cX7_readsChange 78 = .ok (.bipush 43, 2) := by decide +kernel
theorem dX7_readsChange_80 : decode cX7_readsChange 80 = .ok (.if_icmp .ne 7, 3) := by decide +kernel
theorem dX7_readsChange_83 : decode cX7_readsChange 83 = .ok (.iconst 0, 1) := by decide +kernel
theorem dX7_readsChange_84 : decode cX7_readsChange 84 = .ok (.goto 22, 3) := by decide +kernel
theorem dX7_readsChange_87 : decode cX7_readsChange 87 = .ok (.iload_n 2, 1) := by decide +kernel
theorem dX7_readsChange_88 : decode cX7_readsChange 88 = .ok (.bipush 126, 2) := by decide +kernel
theorem dX7_readsChange_90 : decode cX7_readsChange 90 = .ok (.if_icmp .ne 12, 3) := by decide +kernel
theorem dX7_readsChange_93 : decode cX7_readsChange 93 = .ok (.aload_n 0, 1) := by decide +kernel
theorem dX7_readsChange_94 : decode cX7_readsChange 94 = .ok (.bipush 53, 2) := by decide +kernel
theorem dX7_readsChange_96 : decode cX7_readsChange 96 = .ok (.invokevirtual 142, 3) := by decide +kernel
theorem dX7_readsChange_99 : decode cX7_readsChange 99 = .ok (.goto 7, 3) := by decide +kernel
theorem dX7_readsChange_102 : decode cX7_readsChange 102 = .ok (.aload_n 0, 1) := by decide +kernel
theorem dX7_readsChange_103 : decode cX7_readsChange 103 = .ok (.invokevirtual 148, 3) := by decide +kernel
theorem dX7_readsChange_106 : decode cX7_readsChange 106 = .ok (.iastore, 1) := by decide +kernel
theorem dX7_readsChange_107 : decode cX7_readsChange 107 = .ok (.iload_n 3, 1) := by decide +kernel
theorem dX7_readsChange_108 : decode cX7_readsChange 108 = .ok (.ifCond .ne 49, 3) := by decide +kernel
theorem dX7_readsChange_111 : decode cX7_readsChange 111 = .ok (.aload_n 0, 1) := by decide +kernel
theorem dX7_readsChange_112 : decode cX7_readsChange 112 = .ok (.aload_n 0, 1) := by decide +kernel
theorem dX7_readsChange_113 : decode cX7_readsChange 113 = .ok (.getfield 135, 3) := by decide +kernel
theorem dX7_readsChange_116 : decode cX7_readsChange 116 = .ok (.ifCond .eq 16, 3) := by decide +kernel
theorem dX7_readsChange_119 : decode cX7_readsChange 119 = .ok (.aload_n 0, 1) := by decide +kernel
theorem dX7_readsChange_120 : decode cX7_readsChange 120 = .ok (.invokevirtual 139, 3) := by decide +kernel
theorem dX7_readsChange_123 : decode cX7_readsChange 123 = .ok (.bipush 61, 2) := by decide +kernel
theorem dX7_readsChange_125 : decode cX7_readsChange 125 = .ok (.if_icmp .ne 7, 3) := by decide +kernel
theorem dX7_readsChange_128 : decode cX7_readsChange 128 = .ok (.iconst 1, 1) := by decide +kernel
theorem dX7_readsChange_129 : decode cX7_readsChange 129 = .ok (.goto 4, 3) := by decide +kernel
theorem dX7_readsChange_132 : decode cX7_readsChange 132 = .ok (.iconst 0, 1) := by decide +kernel
theorem dX7_readsChange_133 : decode cX7_readsChange 133 = .ok (.putfield 135, 3) := by decide +kernel
theorem dX7_readsChange_136 : decode cX7_readsChange 136 = .ok (.aload_n 0, 1) := by decide +kernel
theorem dX7_readsChange_137 : decode cX7_readsChange 137 = .ok (.dup, 1) := by decide +kernel
theorem dX7_readsChange_138 : decode cX7_readsChange 138 = .ok (.getfield 132, 3) := by decide +kernel
theorem dX7_readsChange_141 : decode cX7_readsChange 141 = .ok (.aload_n 0, 1) := by decide +kernel
theorem dX7_readsChange_142 : decode cX7_readsChange 142 = .ok (.getfield 135, 3) := by decide +kernel
theorem dX7_readsChange_145 : decode cX7_readsChange 145 = .ok (.ifCond .eq 7, 3) := by decide +kernel
theorem dX7_readsChange_148 : decode cX7_readsChange 148 = .ok (.iconst 1, 1) := by decide +kernel
theorem dX7_readsChange_149 : decode cX7_readsChange 149 = .ok (.goto 4, 3) := by decide +kernel
theorem dX7_readsChange_152 : decode cX7_readsChange 152 = .ok (.iconst 0, 1) := by decide +kernel
theorem dX7_readsChange_153 : decode cX7_readsChange 153 = .ok (.iadd, 1) := by decide +kernel
theorem dX7_readsChange_154 : decode cX7_readsChange 154 = .ok (.putfield 132, 3) := by decide +kernel
theorem dX7_readsChange_157 : decode cX7_readsChange 157 = .ok (.aload_n 0, 1) := by decide +kernel
theorem dX7_readsChange_158 : decode cX7_readsChange 158 = .ok (.getfield 19, 3) := by decide +kernel
theorem dX7_readsChange_161 : decode cX7_readsChange 161 = .ok (.iload_n 1, 1) := by decide +kernel
theorem dX7_readsChange_162 : decode cX7_readsChange 162 = .ok (.iconst 2, 1) := by decide +kernel
theorem dX7_readsChange_163 : decode cX7_readsChange 163 = .ok (.iadd, 1) := by decide +kernel
theorem dX7_readsChange_164 : decode cX7_readsChange 164 = .ok (.iload_n 2, 1) := by decide +kernel
theorem dX7_readsChange_165 : decode cX7_readsChange 165 = .ok (.bipush 45, 2) := by decide +kernel
theorem dX7_readsChange_167 : decode cX7_readsChange 167 = .ok (.if_icmp .eq 9, 3) := by decide +kernel
theorem dX7_readsChange_170 : decode cX7_readsChange 170 = .ok (.iload_n 2, 1) := by decide +kernel
theorem dX7_readsChange_171 : decode cX7_readsChange 171 = .ok (.bipush 126, 2) := by decide +kernel
theorem dX7_readsChange_173 : decode cX7_readsChange 173 = .ok (.if_icmp .ne 7, 3) := by decide +kernel
theorem dX7_readsChange_176 : decode cX7_readsChange 176 = .ok (.iconst 0, 1) := by decide +kernel
theorem dX7_readsChange_177 : decode cX7_readsChange 177 = .ok (.goto 9, 3) := by decide +kernel
theorem dX7_readsChange_180 : decode cX7_readsChange 180 = .ok (.aload_n 0, 1) := by decide +kernel
theorem dX7_readsChange_181 : decode cX7_readsChange 181 = .ok (.bipush 57, 2) := by decide +kernel
theorem dX7_readsChange_183 : decode cX7_readsChange 183 = .ok (.invokevirtual 142, 3) := by decide +kernel
theorem dX7_readsChange_186 : decode cX7_readsChange 186 = .ok (.iastore, 1) := by decide +kernel
theorem dX7_readsChange_187 : decode cX7_readsChange 187 = .ok (.aload_n 0, 1) := by decide +kernel
theorem dX7_readsChange_188 : decode cX7_readsChange 188 = .ok (.dup, 1) := by decide +kernel
theorem dX7_readsChange_189 : decode cX7_readsChange 189 = .ok (.getfield 145, 3) := by decide +kernel
theorem dX7_readsChange_192 : decode cX7_readsChange 192 = .ok (.aload_n 0, 1) := by decide +kernel
theorem dX7_readsChange_193 : decode cX7_readsChange 193 = .ok (.getfield 135, 3) := by decide +kernel
theorem dX7_readsChange_196 : decode cX7_readsChange 196 = .ok (.ifCond .eq 7, 3) := by decide +kernel
theorem dX7_readsChange_199 : decode cX7_readsChange 199 = .ok (.iconst 1, 1) := by decide +kernel
theorem dX7_readsChange_200 : decode cX7_readsChange 200 = .ok (.goto 4, 3) := by decide +kernel
theorem dX7_readsChange_203 : decode cX7_readsChange 203 = .ok (.iconst 0, 1) := by decide +kernel
theorem dX7_readsChange_204 : decode cX7_readsChange 204 = .ok (.iadd, 1) := by decide +kernel
theorem dX7_readsChange_205 : decode cX7_readsChange 205 = .ok (.putfield 145, 3) := by decide +kernel
theorem dX7_readsChange_208 : decode cX7_readsChange 208 = .ok (.return_, 1) := by decide +kernel
theorem dX7_readsAll_0 : decode cX7_readsAll 0 = .ok (.aload_n 0, 1) := by decide +kernel
theorem dX7_readsAll_1 : decode cX7_readsAll 1 = .ok (.iconst 0, 1) := by decide +kernel
theorem dX7_readsAll_2 : decode cX7_readsAll 2 = .ok (.putfield 132, 3) := by decide +kernel
theorem dX7_readsAll_5 : decode cX7_readsAll 5 = .ok (.aload_n 0, 1) := by decide +kernel
theorem dX7_readsAll_6 : decode cX7_readsAll 6 = .ok (.iconst 1, 1) := by decide +kernel
theorem dX7_readsAll_7 : decode cX7_readsAll 7 = .ok (.putfield 135, 3) := by decide +kernel
theorem dX7_readsAll_10 : decode cX7_readsAll 10 = .ok (.aload_n 0, 1) := by decide +kernel
theorem dX7_readsAll_11 : decode cX7_readsAll 11 = .ok (.iconst 0, 1) := by decide +kernel
theorem dX7_readsAll_12 : decode cX7_readsAll 12 = .ok (.putfield 145, 3) := by decide +kernel
theorem dX7_readsAll_15 : decode cX7_readsAll 15 = .ok (.aload_n 0, 1) := by decide +kernel
theorem dX7_readsAll_16 : decode cX7_readsAll 16 = .ok (.invokevirtual 151, 3) := by decide +kernel
theorem dX7_readsAll_19 : decode cX7_readsAll 19 = .ok (.aload_n 0, 1) := by decide +kernel
theorem dX7_readsAll_20 : decode cX7_readsAll 20 = .ok (.getfield 135, 3) := by decide +kernel
theorem dX7_readsAll_23 : decode cX7_readsAll 23 = .ok (.ifCond .eq 67, 3) := by decide +kernel
theorem dX7_readsAll_26 : decode cX7_readsAll 26 = .ok (.aload_n 0, 1) := by decide +kernel
theorem dX7_readsAll_27 : decode cX7_readsAll 27 = .ok (.getfield 132, 3) := by decide +kernel
theorem dX7_readsAll_30 : decode cX7_readsAll 30 = .ok (.aload_n 0, 1) := by decide +kernel
theorem dX7_readsAll_31 : decode cX7_readsAll 31 = .ok (.getfield 129, 3) := by decide +kernel
theorem dX7_readsAll_34 : decode cX7_readsAll 34 = .ok (.if_icmp .ge 56, 3) := by decide +kernel
theorem dX7_readsAll_37 : decode cX7_readsAll 37 = .ok (.aload_n 0, 1) := by decide +kernel
theorem dX7_readsAll_38 : decode cX7_readsAll 38 = .ok (.aload_n 0, 1) := by decide +kernel
theorem dX7_readsAll_39 : decode cX7_readsAll 39 = .ok (.invokevirtual 139, 3) := by decide +kernel
theorem dX7_readsAll_42 : decode cX7_readsAll 42 = .ok (.bipush 44, 2) := by decide +kernel
theorem dX7_readsAll_44 : decode cX7_readsAll 44 = .ok (.if_icmp .ne 7, 3) := by decide +kernel
theorem dX7_readsAll_47 : decode cX7_readsAll 47 = .ok (.iconst 1, 1) := by decide +kernel
theorem dX7_readsAll_48 : decode cX7_readsAll 48 = .ok (.goto 4, 3) := by decide +kernel
theorem dX7_readsAll_51 : decode cX7_readsAll 51 = .ok (.iconst 0, 1) := by decide +kernel
theorem dX7_readsAll_52 : decode cX7_readsAll 52 = .ok (.putfield 135, 3) := by decide +kernel
theorem dX7_readsAll_55 : decode cX7_readsAll 55 = .ok (.aload_n 0, 1) := by decide +kernel
theorem dX7_readsAll_56 : decode cX7_readsAll 56 = .ok (.dup, 1) := by decide +kernel
theorem dX7_readsAll_57 : decode cX7_readsAll 57 = .ok (.getfield 132, 3) := by decide +kernel
theorem dX7_readsAll_60 : decode cX7_readsAll 60 = .ok (.aload_n 0, 1) := by decide +kernel
theorem dX7_readsAll_61 : decode cX7_readsAll 61 = .ok (.getfield 135, 3) := by decide +kernel
theorem dX7_readsAll_64 : decode cX7_readsAll 64 = .ok (.ifCond .eq 7, 3) := by decide +kernel
theorem dX7_readsAll_67 : decode cX7_readsAll 67 = .ok (.iconst 1, 1) := by decide +kernel
theorem dX7_readsAll_68 : decode cX7_readsAll 68 = .ok (.goto 4, 3) := by decide +kernel
theorem dX7_readsAll_71 : decode cX7_readsAll 71 = .ok (.iconst 0, 1) := by decide +kernel
theorem dX7_readsAll_72 : decode cX7_readsAll 72 = .ok (.iadd, 1) := by decide +kernel
theorem dX7_readsAll_73 : decode cX7_readsAll 73 = .ok (.putfield 132, 3) := by decide +kernel
theorem dX7_readsAll_76 : decode cX7_readsAll 76 = .ok (.aload_n 0, 1) := by decide +kernel
theorem dX7_readsAll_77 : decode cX7_readsAll 77 = .ok (.getfield 135, 3) := by decide +kernel
theorem dX7_readsAll_80 : decode cX7_readsAll 80 = .ok (.ifCond .eq (-61), 3) := by decide +kernel
theorem dX7_readsAll_83 : decode cX7_readsAll 83 = .ok (.aload_n 0, 1) := by decide +kernel
theorem dX7_readsAll_84 : decode cX7_readsAll 84 = .ok (.invokevirtual 151, 3) := by decide +kernel
theorem dX7_readsAll_87 : decode cX7_readsAll 87 = .ok (.goto (-68), 3) := by decide +kernel
theorem dX7_readsAll_90 : decode cX7_readsAll 90 = .ok (.return_, 1) := by decide +kernel
theorem dX7_firstError_0 : decode cX7_firstError 0 = .ok (.aload_n 0, 1) := by decide +kernel
theorem dX7_firstError_1 : decode cX7_firstError 1 = .ok (.iconst 0, 1) := by decide +kernel
theorem dX7_firstError_2 : decode cX7_firstError 2 = .ok (.putfield 22, 3) := by decide +kernel
theorem dX7_firstError_5 : decode cX7_firstError 5 = .ok (.aload_n 0, 1) := by decide +kernel
theorem dX7_firstError_6 : decode cX7_firstError 6 = .ok (.invokevirtual 154, 3) := by decide +kernel
theorem dX7_firstError_9 : decode cX7_firstError 9 = .ok (.aload_n 0, 1) := by decide +kernel
theorem dX7_firstError_10 : decode cX7_firstError 10 = .ok (.getfield 132, 3) := by decide +kernel
theorem dX7_firstError_13 : decode cX7_firstError 13 = .ok (.ireturn, 1) := by decide +kernel
theorem dX7_makes_0 : decode cX7_makes 0 = .ok (.aload_n 0, 1) := by decide +kernel
theorem dX7_makes_1 : decode cX7_makes 1 = .ok (.getfield 19, 3) := by decide +kernel
theorem dX7_makes_4 : decode cX7_makes 4 = .ok (.iload_n 1, 1) := by decide +kernel
theorem dX7_makes_5 : decode cX7_makes 5 = .ok (.iaload, 1) := by decide +kernel
theorem dX7_makes_6 : decode cX7_makes 6 = .ok (.bipush 126, 2) := by decide +kernel
theorem dX7_makes_8 : decode cX7_makes 8 = .ok (.if_icmp .ne 18, 3) := by decide +kernel
theorem dX7_makes_11 : decode cX7_makes 11 = .ok (.aload_n 0, 1) := by decide +kernel
theorem dX7_makes_12 : decode cX7_makes 12 = .ok (.aload_n 0, 1) := by decide +kernel
theorem dX7_makes_13 : decode cX7_makes 13 = .ok (.getfield 19, 3) := by decide +kernel
theorem dX7_makes_16 : decode cX7_makes 16 = .ok (.iload_n 1, 1) := by decide +kernel
theorem dX7_makes_17 : decode cX7_makes 17 = .ok (.iconst 1, 1) := by decide +kernel
theorem dX7_makes_18 : decode cX7_makes 18 = .ok (.iadd, 1) := by decide +kernel
theorem dX7_makes_19 : decode cX7_makes 19 = .ok (.iaload, 1) := by decide +kernel
theorem dX7_makes_20 : decode cX7_makes 20 = .ok (.invokevirtual 102, 3) := by decide +kernel
theorem dX7_makes_23 : decode cX7_makes 23 = .ok (.pop, 1) := by decide +kernel
theorem dX7_makes_24 : decode cX7_makes 24 = .ok (.iconst 1, 1) := by decide +kernel
theorem dX7_makes_25 : decode cX7_makes 25 = .ok (.ireturn, 1) := by decide +kernel
theorem dX7_makes_26 : decode cX7_makes 26 = .ok (.aload_n 0, 1) := by decide +kernel
theorem dX7_makes_27 : decode cX7_makes 27 = .ok (.aload_n 0, 1) := by decide +kernel
theorem dX7_makes_28 : decode cX7_makes 28 = .ok (.getfield 19, 3) := by decide +kernel
theorem dX7_makes_31 : decode cX7_makes 31 = .ok (.iload_n 1, 1) := by decide +kernel
theorem dX7_makes_32 : decode cX7_makes 32 = .ok (.iaload, 1) := by decide +kernel
theorem dX7_makes_33 : decode cX7_makes 33 = .ok (.aload_n 0, 1) := by decide +kernel
theorem dX7_makes_34 : decode cX7_makes 34 = .ok (.getfield 19, 3) := by decide +kernel
theorem dX7_makes_37 : decode cX7_makes 37 = .ok (.iload_n 1, 1) := by decide +kernel
theorem dX7_makes_38 : decode cX7_makes 38 = .ok (.iconst 1, 1) := by decide +kernel
theorem dX7_makes_39 : decode cX7_makes 39 = .ok (.iadd, 1) := by decide +kernel
theorem dX7_makes_40 : decode cX7_makes 40 = .ok (.iaload, 1) := by decide +kernel
theorem dX7_makes_41 : decode cX7_makes 41 = .ok (.invokevirtual 71, 3) := by decide +kernel
theorem dX7_makes_44 : decode cX7_makes 44 = .ok (.istore_n 2, 1) := by decide +kernel
theorem dX7_makes_45 : decode cX7_makes 45 = .ok (.iload_n 2, 1) := by decide +kernel
theorem dX7_makes_46 : decode cX7_makes 46 = .ok (.ifCond .eq 30, 3) := by decide +kernel
theorem dX7_makes_49 : decode cX7_makes 49 = .ok (.aload_n 0, 1) := by decide +kernel
theorem dX7_makes_50 : decode cX7_makes 50 = .ok (.aload_n 0, 1) := by decide +kernel
theorem dX7_makes_51 : decode cX7_makes 51 = .ok (.getfield 19, 3) := by decide +kernel
theorem dX7_makes_54 : decode cX7_makes 54 = .ok (.iload_n 1, 1) := by decide +kernel
theorem dX7_makes_55 : decode cX7_makes 55 = .ok (.iaload, 1) := by decide +kernel
theorem dX7_makes_56 : decode cX7_makes 56 = .ok (.aload_n 0, 1) := by decide +kernel
theorem dX7_makes_57 : decode cX7_makes 57 = .ok (.getfield 19, 3) := by decide +kernel
theorem dX7_makes_60 : decode cX7_makes 60 = .ok (.iload_n 1, 1) := by decide +kernel
theorem dX7_makes_61 : decode cX7_makes 61 = .ok (.iconst 1, 1) := by decide +kernel
theorem dX7_makes_62 : decode cX7_makes 62 = .ok (.iadd, 1) := by decide +kernel
theorem dX7_makes_63 : decode cX7_makes 63 = .ok (.iaload, 1) := by decide +kernel
theorem dX7_makes_64 : decode cX7_makes 64 = .ok (.aload_n 0, 1) := by decide +kernel
theorem dX7_makes_65 : decode cX7_makes 65 = .ok (.getfield 19, 3) := by decide +kernel
theorem dX7_makes_68 : decode cX7_makes 68 = .ok (.iload_n 1, 1) := by decide +kernel
theorem dX7_makes_69 : decode cX7_makes 69 = .ok (.iconst 2, 1) := by decide +kernel
theorem dX7_makes_70 : decode cX7_makes 70 = .ok (.iadd, 1) := by decide +kernel
theorem dX7_makes_71 : decode cX7_makes 71 = .ok (.iaload, 1) := by decide +kernel
theorem dX7_makes_72 : decode cX7_makes 72 = .ok (.invokevirtual 77, 3) := by decide +kernel
theorem dX7_makes_75 : decode cX7_makes 75 = .ok (.pop, 1) := by decide +kernel
theorem dX7_makes_76 : decode cX7_makes 76 = .ok (.iload_n 2, 1) := by decide +kernel
theorem dX7_makes_77 : decode cX7_makes 77 = .ok (.ireturn, 1) := by decide +kernel
theorem dX7_play_0 : decode cX7_play 0 = .ok (.aload_n 0, 1) := by decide +kernel
theorem dX7_play_1 : decode cX7_play 1 = .ok (.iconst 0, 1) := by decide +kernel
theorem dX7_play_2 : decode cX7_play 2 = .ok (.putfield 22, 3) := by decide +kernel
theorem dX7_play_5 : decode cX7_play 5 = .ok (.aload_n 0, 1) := by decide +kernel
theorem dX7_play_6 : decode cX7_play 6 = .ok (.invokevirtual 154, 3) := by decide +kernel
theorem dX7_play_9 : decode cX7_play 9 = .ok (.aload_n 0, 1) := by decide +kernel
theorem dX7_play_10 : decode cX7_play 10 = .ok (.getfield 135, 3) := by decide +kernel
theorem dX7_play_13 : decode cX7_play 13 = .ok (.ifCond .ne 9, 3) := by decide +kernel
theorem dX7_play_16 : decode cX7_play 16 = .ok (.aload_n 0, 1) := by decide +kernel
theorem dX7_play_17 : decode cX7_play 17 = .ok (.iconst 1, 1) := by decide +kernel
theorem dX7_play_18 : decode cX7_play 18 = .ok (.invokevirtual 67, 3) := by decide +kernel
theorem dX7_play_21 : decode cX7_play 21 = .ok (.ireturn, 1) := by decide +kernel
theorem dX7_play_22 : decode cX7_play 22 = .ok (.aload_n 0, 1) := by decide +kernel
theorem dX7_play_23 : decode cX7_play 23 = .ok (.invokevirtual 74, 3) := by decide +kernel
theorem dX7_play_26 : decode cX7_play 26 = .ok (.aload_n 0, 1) := by decide +kernel
theorem dX7_play_27 : decode cX7_play 27 = .ok (.iconst 0, 1) := by decide +kernel
theorem dX7_play_28 : decode cX7_play 28 = .ok (.putfield 129, 3) := by decide +kernel
theorem dX7_play_31 : decode cX7_play 31 = .ok (.iconst 0, 1) := by decide +kernel
theorem dX7_play_32 : decode cX7_play 32 = .ok (.istore_n 1, 1) := by decide +kernel
theorem dX7_play_33 : decode cX7_play 33 = .ok (.iload_n 1, 1) := by decide +kernel
theorem dX7_play_34 : decode cX7_play 34 = .ok (.aload_n 0, 1) := by decide +kernel
theorem dX7_play_35 : decode cX7_play 35 = .ok (.getfield 145, 3) := by decide +kernel
theorem dX7_play_38 : decode cX7_play 38 = .ok (.if_icmp .ge 19, 3) := by decide +kernel
theorem dX7_play_41 : decode cX7_play 41 = .ok (.aload_n 0, 1) := by decide +kernel
theorem dX7_play_42 : decode cX7_play 42 = .ok (.iconst 3, 1) := by decide +kernel
theorem dX7_play_43 : decode cX7_play 43 = .ok (.iload_n 1, 1) := by decide +kernel
theorem dX7_play_44 : decode cX7_play 44 = .ok (.imul, 1) := by decide +kernel
theorem dX7_play_45 : decode cX7_play 45 = .ok (.invokevirtual 157, 3) := by decide +kernel
theorem dX7_play_48 : decode cX7_play 48 = .ok (.ifCond .eq 9, 3) := by decide +kernel
theorem dX7_play_51 : decode cX7_play 51 = .ok (.iinc 1 1, 3) := by decide +kernel
theorem dX7_play_54 : decode cX7_play 54 = .ok (.goto (-21), 3) := by decide +kernel
theorem dX7_play_57 : decode cX7_play 57 = .ok (.iload_n 1, 1) := by decide +kernel
theorem dX7_play_58 : decode cX7_play 58 = .ok (.ireturn, 1) := by decide +kernel
theorem dX7_undo_0 : decode cX7_undo 0 = .ok (.aload_n 0, 1) := by decide +kernel
theorem dX7_undo_1 : decode cX7_undo 1 = .ok (.iconst 0, 1) := by decide +kernel
theorem dX7_undo_2 : decode cX7_undo 2 = .ok (.putfield 22, 3) := by decide +kernel
theorem dX7_undo_5 : decode cX7_undo 5 = .ok (.aload_n 0, 1) := by decide +kernel
theorem dX7_undo_6 : decode cX7_undo 6 = .ok (.getfield 30, 3) := by decide +kernel
theorem dX7_undo_9 : decode cX7_undo 9 = .ok (.ifCond .ne 9, 3) := by decide +kernel
theorem dX7_undo_12 : decode cX7_undo 12 = .ok (.aload_n 0, 1) := by decide +kernel
theorem dX7_undo_13 : decode cX7_undo 13 = .ok (.iconst 1, 1) := by decide +kernel
theorem dX7_undo_14 : decode cX7_undo 14 = .ok (.invokevirtual 67, 3) := by decide +kernel
theorem dX7_undo_17 : decode cX7_undo 17 = .ok (.ireturn, 1) := by decide +kernel
theorem dX7_undo_18 : decode cX7_undo 18 = .ok (.aload_n 0, 1) := by decide +kernel
theorem dX7_undo_19 : decode cX7_undo 19 = .ok (.dup, 1) := by decide +kernel
theorem dX7_undo_20 : decode cX7_undo 20 = .ok (.getfield 30, 3) := by decide +kernel
theorem dX7_undo_23 : decode cX7_undo 23 = .ok (.iconst 1, 1) := by decide +kernel
theorem dX7_undo_24 : decode cX7_undo 24 = .ok (.isub, 1) := by decide +kernel
theorem dX7_undo_25 : decode cX7_undo 25 = .ok (.putfield 30, 3) := by decide +kernel
theorem dX7_undo_28 : decode cX7_undo 28 = .ok (.iconst 0, 1) := by decide +kernel
theorem dX7_undo_29 : decode cX7_undo 29 = .ok (.istore_n 1, 1) := by decide +kernel
theorem dX7_undo_30 : decode cX7_undo 30 = .ok (.iload_n 1, 1) := by decide +kernel
theorem dX7_undo_31 : decode cX7_undo 31 = .ok (.bipush 99, 2) := by decide +kernel
theorem dX7_undo_33 : decode cX7_undo 33 = .ok (.if_icmp .ge 29, 3) := by decide +kernel
theorem dX7_undo_36 : decode cX7_undo 36 = .ok (.aload_n 0, 1) := by decide +kernel
theorem dX7_undo_37 : decode cX7_undo 37 = .ok (.getfield 7, 3) := by decide +kernel
theorem dX7_undo_40 : decode cX7_undo 40 = .ok (.iload_n 1, 1) := by decide +kernel
theorem dX7_undo_41 : decode cX7_undo 41 = .ok (.aload_n 0, 1) := by decide +kernel
theorem dX7_undo_42 : decode cX7_undo 42 = .ok (.getfield 13, 3) := by decide +kernel
theorem dX7_undo_45 : decode cX7_undo 45 = .ok (.bipush 99, 2) := by decide +kernel
theorem dX7_undo_47 : decode cX7_undo 47 = .ok (.aload_n 0, 1) := by decide +kernel
theorem dX7_undo_48 : decode cX7_undo 48 = .ok (.getfield 30, 3) := by decide +kernel
theorem dX7_undo_51 : decode cX7_undo 51 = .ok (.imul, 1) := by decide +kernel
theorem dX7_undo_52 : decode cX7_undo 52 = .ok (.iload_n 1, 1) := by decide +kernel
theorem dX7_undo_53 : decode cX7_undo 53 = .ok (.iadd, 1) := by decide +kernel
theorem dX7_undo_54 : decode cX7_undo 54 = .ok (.iaload, 1) := by decide +kernel
theorem dX7_undo_55 : decode cX7_undo 55 = .ok (.iastore, 1) := by decide +kernel
theorem dX7_undo_56 : decode cX7_undo 56 = .ok (.iinc 1 1, 3) := by decide +kernel
theorem dX7_undo_59 : decode cX7_undo 59 = .ok (.goto (-29), 3) := by decide +kernel
theorem dX7_undo_62 : decode cX7_undo 62 = .ok (.aload_n 0, 1) := by decide +kernel
theorem dX7_undo_63 : decode cX7_undo 63 = .ok (.getfield 30, 3) := by decide +kernel
theorem dX7_undo_66 : decode cX7_undo 66 = .ok (.ireturn, 1) := by decide +kernel
theorem dX7_tellsSlot_0 : decode cX7_tellsSlot 0 = .ok (.iload_n 2, 1) := by decide +kernel
theorem dX7_tellsSlot_1 : decode cX7_tellsSlot 1 = .ok (.tableswitch 55 0 2 #[27, 36, 36], 27) := by decide +kernel
theorem dX7_tellsSlot_28 : decode cX7_tellsSlot 28 = .ok (.aload_n 0, 1) := by decide +kernel
theorem dX7_tellsSlot_29 : decode cX7_tellsSlot 29 = .ok (.iload_n 1, 1) := by decide +kernel
theorem dX7_tellsSlot_30 : decode cX7_tellsSlot 30 = .ok (.iconst 0, 1) := by decide +kernel
theorem dX7_tellsSlot_31 : decode cX7_tellsSlot 31 = .ok (.invokevirtual 33, 3) := by decide +kernel
theorem dX7_tellsSlot_34 : decode cX7_tellsSlot 34 = .ok (.iconst 1, 1) := by decide +kernel
theorem dX7_tellsSlot_35 : decode cX7_tellsSlot 35 = .ok (.isub, 1) := by decide +kernel
theorem dX7_tellsSlot_36 : decode cX7_tellsSlot 36 = .ok (.ireturn, 1) := by decide +kernel
theorem dX7_tellsSlot_37 : decode cX7_tellsSlot 37 = .ok (.aload_n 0, 1) := by decide +kernel
theorem dX7_tellsSlot_38 : decode cX7_tellsSlot 38 = .ok (.iload_n 1, 1) := by decide +kernel
theorem dX7_tellsSlot_39 : decode cX7_tellsSlot 39 = .ok (.invokevirtual 37, 3) := by decide +kernel
theorem dX7_tellsSlot_42 : decode cX7_tellsSlot 42 = .ok (.ifCond .eq 12, 3) := by decide +kernel
theorem dX7_tellsSlot_45 : decode cX7_tellsSlot 45 = .ok (.aload_n 0, 1) := by decide +kernel
theorem dX7_tellsSlot_46 : decode cX7_tellsSlot 46 = .ok (.iload_n 1, 1) := by decide +kernel
theorem dX7_tellsSlot_47 : decode cX7_tellsSlot 47 = .ok (.iload_n 2, 1) := by decide +kernel
theorem dX7_tellsSlot_48 : decode cX7_tellsSlot 48 = .ok (.invokevirtual 33, 3) := by decide +kernel
theorem dX7_tellsSlot_51 : decode cX7_tellsSlot 51 = .ok (.goto 4, 3) := by decide +kernel
theorem dX7_tellsSlot_54 : decode cX7_tellsSlot 54 = .ok (.iconst (-1), 1) := by decide +kernel
theorem dX7_tellsSlot_55 : decode cX7_tellsSlot 55 = .ok (.ireturn, 1) := by decide +kernel
theorem dX7_tellsSlot_56 : decode cX7_tellsSlot 56 = .ok (.aload_n 0, 1) := by decide +kernel
theorem dX7_tellsSlot_57 : decode cX7_tellsSlot 57 = .ok (.iload_n 1, 1) := by decide +kernel
theorem dX7_tellsSlot_58 : decode cX7_tellsSlot 58 = .ok (.aload_n 0, 1) := by decide +kernel
theorem dX7_tellsSlot_59 : decode cX7_tellsSlot 59 = .ok (.getfield 7, 3) := by decide +kernel
theorem dX7_tellsSlot_62 : decode cX7_tellsSlot 62 = .ok (.iconst 0, 1) := by decide +kernel
theorem dX7_tellsSlot_63 : decode cX7_tellsSlot 63 = .ok (.iaload, 1) := by decide +kernel
theorem dX7_tellsSlot_64 : decode cX7_tellsSlot 64 = .ok (.invokevirtual 63, 3) := by decide +kernel
theorem dX7_tellsSlot_67 : decode cX7_tellsSlot 67 = .ok (.ifCond .eq 7, 3) := by decide +kernel
theorem dX7_tellsSlot_70 : decode cX7_tellsSlot 70 = .ok (.iconst 1, 1) := by decide +kernel
theorem dX7_tellsSlot_71 : decode cX7_tellsSlot 71 = .ok (.goto 4, 3) := by decide +kernel
theorem dX7_tellsSlot_74 : decode cX7_tellsSlot 74 = .ok (.iconst 0, 1) := by decide +kernel
theorem dX7_tellsSlot_75 : decode cX7_tellsSlot 75 = .ok (.ireturn, 1) := by decide +kernel
theorem dX7_slot_0 : decode cX7_slot 0 = .ok (.aload_n 0, 1) := by decide +kernel
theorem dX7_slot_1 : decode cX7_slot 1 = .ok (.iconst 0, 1) := by decide +kernel
theorem dX7_slot_2 : decode cX7_slot 2 = .ok (.putfield 22, 3) := by decide +kernel
theorem dX7_slot_5 : decode cX7_slot 5 = .ok (.iload_n 1, 1) := by decide +kernel
theorem dX7_slot_6 : decode cX7_slot 6 = .ok (.invokestatic 60, 3) := by decide +kernel
theorem dX7_slot_9 : decode cX7_slot 9 = .ok (.ifCond .ne 9, 3) := by decide +kernel
theorem dX7_slot_12 : decode cX7_slot 12 = .ok (.aload_n 0, 1) := by decide +kernel
theorem dX7_slot_13 : decode cX7_slot 13 = .ok (.iconst 1, 1) := by decide +kernel
theorem dX7_slot_14 : decode cX7_slot 14 = .ok (.invokevirtual 67, 3) := by decide +kernel
theorem dX7_slot_17 : decode cX7_slot 17 = .ok (.ireturn, 1) := by decide +kernel
theorem dX7_slot_18 : decode cX7_slot 18 = .ok (.iload_n 2, 1) := by decide +kernel
theorem dX7_slot_19 : decode cX7_slot 19 = .ok (.iconst 0, 1) := by decide +kernel
theorem dX7_slot_20 : decode cX7_slot 20 = .ok (.iconst 3, 1) := by decide +kernel
theorem dX7_slot_21 : decode cX7_slot 21 = .ok (.invokestatic 26, 3) := by decide +kernel
theorem dX7_slot_24 : decode cX7_slot 24 = .ok (.ifCond .eq 12, 3) := by decide +kernel
theorem dX7_slot_27 : decode cX7_slot 27 = .ok (.aload_n 0, 1) := by decide +kernel
theorem dX7_slot_28 : decode cX7_slot 28 = .ok (.iload_n 1, 1) := by decide +kernel
theorem dX7_slot_29 : decode cX7_slot 29 = .ok (.iload_n 2, 1) := by decide +kernel
theorem dX7_slot_30 : decode cX7_slot 30 = .ok (.invokevirtual 160, 3) := by decide +kernel
theorem dX7_slot_33 : decode cX7_slot 33 = .ok (.goto 8, 3) := by decide +kernel
theorem dX7_slot_36 : decode cX7_slot 36 = .ok (.aload_n 0, 1) := by decide +kernel
theorem dX7_slot_37 : decode cX7_slot 37 = .ok (.iconst 2, 1) := by decide +kernel
theorem dX7_slot_38 : decode cX7_slot 38 = .ok (.invokevirtual 67, 3) := by decide +kernel
theorem dX7_slot_41 : decode cX7_slot 41 = .ok (.ireturn, 1) := by decide +kernel
theorem dX7_versions_0 : decode cX7_versions 0 = .ok (.iconst 0, 1) := by decide +kernel
theorem dX7_versions_1 : decode cX7_versions 1 = .ok (.istore 5, 2) := by decide +kernel
theorem dX7_versions_3 : decode cX7_versions 3 = .ok (.iload_n 1, 1) := by decide +kernel
theorem dX7_versions_4 : decode cX7_versions 4 = .ok (.istore 6, 2) := by decide +kernel
theorem dX7_versions_6 : decode cX7_versions 6 = .ok (.iload 6, 2) := by decide +kernel
theorem dX7_versions_8 : decode cX7_versions 8 = .ok (.iload_n 2, 1) := by decide +kernel
theorem dX7_versions_9 : decode cX7_versions 9 = .ok (.if_icmp .ge 51, 3) := by decide +kernel
theorem dX7_versions_12 : decode cX7_versions 12 = .ok (.iload 5, 2) := by decide +kernel
theorem dX7_versions_14 : decode cX7_versions 14 = .ok (.iload_n 3, 1) := by decide +kernel
theorem dX7_versions_15 : decode cX7_versions 15 = .ok (.ifCond .eq 22, 3) := by decide +kernel
theorem dX7_versions_18 : decode cX7_versions 18 = .ok (.aload_n 0, 1) := by decide +kernel
theorem dX7_versions_19 : decode cX7_versions 19 = .ok (.iload 6, 2) := by decide +kernel
theorem dX7_versions_21 : decode cX7_versions 21 = .ok (.iload 4, 2) := by decide +kernel
theorem dX7_versions_23 : decode cX7_versions 23 = .ok (.invokevirtual 63, 3) := by decide +kernel
theorem dX7_versions_26 : decode cX7_versions 26 = .ok (.ifCond .eq 7, 3) := by decide +kernel
theorem dX7_versions_29 : decode cX7_versions 29 = .ok (.iconst 1, 1) := by decide +kernel
theorem dX7_versions_30 : decode cX7_versions 30 = .ok (.goto 21, 3) := by decide +kernel
theorem dX7_versions_33 : decode cX7_versions 33 = .ok (.iconst 0, 1) := by decide +kernel
theorem dX7_versions_34 : decode cX7_versions 34 = .ok (.goto 17, 3) := by decide +kernel
theorem dX7_versions_37 : decode cX7_versions 37 = .ok (.aload_n 0, 1) := by decide +kernel
theorem dX7_versions_38 : decode cX7_versions 38 = .ok (.iload 6, 2) := by decide +kernel
theorem dX7_versions_40 : decode cX7_versions 40 = .ok (.invokevirtual 37, 3) := by decide +kernel
theorem dX7_versions_43 : decode cX7_versions 43 = .ok (.ifCond .eq 7, 3) := by decide +kernel
theorem dX7_versions_46 : decode cX7_versions 46 = .ok (.iconst 1, 1) := by decide +kernel
theorem dX7_versions_47 : decode cX7_versions 47 = .ok (.goto 4, 3) := by decide +kernel
theorem dX7_versions_50 : decode cX7_versions 50 = .ok (.iconst 0, 1) := by decide +kernel
theorem dX7_versions_51 : decode cX7_versions 51 = .ok (.iadd, 1) := by decide +kernel
theorem dX7_versions_52 : decode cX7_versions 52 = .ok (.istore 5, 2) := by decide +kernel
theorem dX7_versions_54 : decode cX7_versions 54 = .ok (.iinc 6 1, 3) := by decide +kernel
theorem dX7_versions_57 : decode cX7_versions 57 = .ok (.goto (-51), 3) := by decide +kernel
theorem dX7_versions_60 : decode cX7_versions 60 = .ok (.iload 5, 2) := by decide +kernel
theorem dX7_versions_62 : decode cX7_versions 62 = .ok (.ireturn, 1) := by decide +kernel
theorem dX7_tellsPage_0 : decode cX7_tellsPage 0 = .ok (.iload_n 2, 1) := by decide +kernel
theorem dX7_tellsPage_1 : decode cX7_tellsPage 1 = .ok (.tableswitch 77 0 3 #[31, 38, 38, 67], 31) := by decide +kernel
theorem dX7_tellsPage_32 : decode cX7_tellsPage 32 = .ok (.aload_n 0, 1) := by decide +kernel
theorem dX7_tellsPage_33 : decode cX7_tellsPage 33 = .ok (.iload_n 1, 1) := by decide +kernel
theorem dX7_tellsPage_34 : decode cX7_tellsPage 34 = .ok (.iconst 0, 1) := by decide +kernel
theorem dX7_tellsPage_35 : decode cX7_tellsPage 35 = .ok (.invokevirtual 105, 3) := by decide +kernel
theorem dX7_tellsPage_38 : decode cX7_tellsPage 38 = .ok (.ireturn, 1) := by decide +kernel
theorem dX7_tellsPage_39 : decode cX7_tellsPage 39 = .ok (.aload_n 0, 1) := by decide +kernel
theorem dX7_tellsPage_40 : decode cX7_tellsPage 40 = .ok (.iconst 4, 1) := by decide +kernel
theorem dX7_tellsPage_41 : decode cX7_tellsPage 41 = .ok (.iload_n 1, 1) := by decide +kernel
theorem dX7_tellsPage_42 : decode cX7_tellsPage 42 = .ok (.imul, 1) := by decide +kernel
theorem dX7_tellsPage_43 : decode cX7_tellsPage 43 = .ok (.iconst 4, 1) := by decide +kernel
theorem dX7_tellsPage_44 : decode cX7_tellsPage 44 = .ok (.iload_n 1, 1) := by decide +kernel
theorem dX7_tellsPage_45 : decode cX7_tellsPage 45 = .ok (.imul, 1) := by decide +kernel
theorem dX7_tellsPage_46 : decode cX7_tellsPage 46 = .ok (.iconst 4, 1) := by decide +kernel
theorem dX7_tellsPage_47 : decode cX7_tellsPage 47 = .ok (.iadd, 1) := by decide +kernel
theorem dX7_tellsPage_48 : decode cX7_tellsPage 48 = .ok (.iload_n 2, 1) := by decide +kernel
theorem dX7_tellsPage_49 : decode cX7_tellsPage 49 = .ok (.iconst 2, 1) := by decide +kernel
theorem dX7_tellsPage_50 : decode cX7_tellsPage 50 = .ok (.if_icmp .ne 7, 3) := by decide +kernel
theorem dX7_tellsPage_53 : decode cX7_tellsPage 53 = .ok (.iconst 1, 1) := by decide +kernel
theorem dX7_tellsPage_54 : decode cX7_tellsPage 54 = .ok (.goto 4, 3) := by decide +kernel
theorem dX7_tellsPage_57 : decode cX7_tellsPage 57 = .ok (.iconst 0, 1) := by decide +kernel
theorem dX7_tellsPage_58 : decode cX7_tellsPage 58 = .ok (.aload_n 0, 1) := by decide +kernel
theorem dX7_tellsPage_59 : decode cX7_tellsPage 59 = .ok (.getfield 7, 3) := by decide +kernel
theorem dX7_tellsPage_62 : decode cX7_tellsPage 62 = .ok (.iconst 0, 1) := by decide +kernel
theorem dX7_tellsPage_63 : decode cX7_tellsPage 63 = .ok (.iaload, 1) := by decide +kernel
theorem dX7_tellsPage_64 : decode cX7_tellsPage 64 = .ok (.invokevirtual 163, 3) := by decide +kernel
theorem dX7_tellsPage_67 : decode cX7_tellsPage 67 = .ok (.ireturn, 1) := by decide +kernel
theorem dX7_tellsPage_68 : decode cX7_tellsPage 68 = .ok (.aload_n 0, 1) := by decide +kernel
theorem dX7_tellsPage_69 : decode cX7_tellsPage 69 = .ok (.iload_n 1, 1) := by decide +kernel
theorem dX7_tellsPage_70 : decode cX7_tellsPage 70 = .ok (.aload_n 0, 1) := by decide +kernel
theorem dX7_tellsPage_71 : decode cX7_tellsPage 71 = .ok (.invokevirtual 93, 3) := by decide +kernel
theorem dX7_tellsPage_74 : decode cX7_tellsPage 74 = .ok (.invokevirtual 96, 3) := by decide +kernel
theorem dX7_tellsPage_77 : decode cX7_tellsPage 77 = .ok (.ireturn, 1) := by decide +kernel
theorem dX7_tellsPage_78 : decode cX7_tellsPage 78 = .ok (.aload_n 0, 1) := by decide +kernel
theorem dX7_tellsPage_79 : decode cX7_tellsPage 79 = .ok (.iload_n 1, 1) := by decide +kernel
theorem dX7_tellsPage_80 : decode cX7_tellsPage 80 = .ok (.iconst 0, 1) := by decide +kernel
theorem dX7_tellsPage_81 : decode cX7_tellsPage 81 = .ok (.invokevirtual 105, 3) := by decide +kernel
theorem dX7_tellsPage_84 : decode cX7_tellsPage 84 = .ok (.iconst 1, 1) := by decide +kernel
theorem dX7_tellsPage_85 : decode cX7_tellsPage 85 = .ok (.if_icmp .ne 12, 3) := by decide +kernel
theorem dX7_tellsPage_88 : decode cX7_tellsPage 88 = .ok (.aload_n 0, 1) := by decide +kernel
theorem dX7_tellsPage_89 : decode cX7_tellsPage 89 = .ok (.iload_n 1, 1) := by decide +kernel
theorem dX7_tellsPage_90 : decode cX7_tellsPage 90 = .ok (.iconst 1, 1) := by decide +kernel
theorem dX7_tellsPage_91 : decode cX7_tellsPage 91 = .ok (.invokevirtual 105, 3) := by decide +kernel
theorem dX7_tellsPage_94 : decode cX7_tellsPage 94 = .ok (.goto 4, 3) := by decide +kernel
theorem dX7_tellsPage_97 : decode cX7_tellsPage 97 = .ok (.iconst (-1), 1) := by decide +kernel
theorem dX7_tellsPage_98 : decode cX7_tellsPage 98 = .ok (.ireturn, 1) := by decide +kernel
theorem dX7_page_0 : decode cX7_page 0 = .ok (.aload_n 0, 1) := by decide +kernel
theorem dX7_page_1 : decode cX7_page 1 = .ok (.iconst 0, 1) := by decide +kernel
theorem dX7_page_2 : decode cX7_page 2 = .ok (.putfield 22, 3) := by decide +kernel
theorem dX7_page_5 : decode cX7_page 5 = .ok (.iload_n 1, 1) := by decide +kernel
theorem dX7_page_6 : decode cX7_page 6 = .ok (.invokestatic 99, 3) := by decide +kernel
theorem dX7_page_9 : decode cX7_page 9 = .ok (.ifCond .ne 9, 3) := by decide +kernel
theorem dX7_page_12 : decode cX7_page 12 = .ok (.aload_n 0, 1) := by decide +kernel
theorem dX7_page_13 : decode cX7_page 13 = .ok (.iconst 1, 1) := by decide +kernel
theorem dX7_page_14 : decode cX7_page 14 = .ok (.invokevirtual 67, 3) := by decide +kernel
theorem dX7_page_17 : decode cX7_page 17 = .ok (.ireturn, 1) := by decide +kernel
theorem dX7_page_18 : decode cX7_page 18 = .ok (.iload_n 2, 1) := by decide +kernel
theorem dX7_page_19 : decode cX7_page 19 = .ok (.iconst 0, 1) := by decide +kernel
theorem dX7_page_20 : decode cX7_page 20 = .ok (.iconst 4, 1) := by decide +kernel
theorem dX7_page_21 : decode cX7_page 21 = .ok (.invokestatic 26, 3) := by decide +kernel
theorem dX7_page_24 : decode cX7_page 24 = .ok (.ifCond .eq 12, 3) := by decide +kernel
theorem dX7_page_27 : decode cX7_page 27 = .ok (.aload_n 0, 1) := by decide +kernel
theorem dX7_page_28 : decode cX7_page 28 = .ok (.iload_n 1, 1) := by decide +kernel
theorem dX7_page_29 : decode cX7_page 29 = .ok (.iload_n 2, 1) := by decide +kernel
theorem dX7_page_30 : decode cX7_page 30 = .ok (.invokevirtual 167, 3) := by decide +kernel
theorem dX7_page_33 : decode cX7_page 33 = .ok (.goto 8, 3) := by decide +kernel
theorem dX7_page_36 : decode cX7_page 36 = .ok (.aload_n 0, 1) := by decide +kernel
theorem dX7_page_37 : decode cX7_page 37 = .ok (.iconst 2, 1) := by decide +kernel
theorem dX7_page_38 : decode cX7_page 38 = .ok (.invokevirtual 67, 3) := by decide +kernel
theorem dX7_page_41 : decode cX7_page 41 = .ok (.ireturn, 1) := by decide +kernel
theorem dX7_tellsAsker_0 : decode cX7_tellsAsker 0 = .ok (.aload_n 0, 1) := by decide +kernel
theorem dX7_tellsAsker_1 : decode cX7_tellsAsker 1 = .ok (.iload_n 1, 1) := by decide +kernel
theorem dX7_tellsAsker_2 : decode cX7_tellsAsker 2 = .ok (.invokevirtual 81, 3) := by decide +kernel
theorem dX7_tellsAsker_5 : decode cX7_tellsAsker 5 = .ok (.istore_n 3, 1) := by decide +kernel
theorem dX7_tellsAsker_6 : decode cX7_tellsAsker 6 = .ok (.iload_n 2, 1) := by decide +kernel
theorem dX7_tellsAsker_7 : decode cX7_tellsAsker 7 = .ok (.lookupswitch 46 #[(0, 25), (1, 27)], 25) := by decide +kernel
theorem dX7_tellsAsker_32 : decode cX7_tellsAsker 32 = .ok (.iload_n 3, 1) := by decide +kernel
theorem dX7_tellsAsker_33 : decode cX7_tellsAsker 33 = .ok (.ireturn, 1) := by decide +kernel
theorem dX7_tellsAsker_34 : decode cX7_tellsAsker 34 = .ok (.iload_n 3, 1) := by decide +kernel
theorem dX7_tellsAsker_35 : decode cX7_tellsAsker 35 = .ok (.iconst (-1), 1) := by decide +kernel
theorem dX7_tellsAsker_36 : decode cX7_tellsAsker 36 = .ok (.if_icmp .ne 7, 3) := by decide +kernel
theorem dX7_tellsAsker_39 : decode cX7_tellsAsker 39 = .ok (.iconst (-1), 1) := by decide +kernel
theorem dX7_tellsAsker_40 : decode cX7_tellsAsker 40 = .ok (.goto 12, 3) := by decide +kernel
theorem dX7_tellsAsker_43 : decode cX7_tellsAsker 43 = .ok (.aload_n 0, 1) := by decide +kernel
theorem dX7_tellsAsker_44 : decode cX7_tellsAsker 44 = .ok (.iconst 0, 1) := by decide +kernel
theorem dX7_tellsAsker_45 : decode cX7_tellsAsker 45 = .ok (.bipush 24, 2) := by decide +kernel
theorem dX7_tellsAsker_47 : decode cX7_tellsAsker 47 = .ok (.iconst 1, 1) := by decide +kernel
theorem dX7_tellsAsker_48 : decode cX7_tellsAsker 48 = .ok (.iload_n 3, 1) := by decide +kernel
theorem dX7_tellsAsker_49 : decode cX7_tellsAsker 49 = .ok (.invokevirtual 163, 3) := by decide +kernel
theorem dX7_tellsAsker_52 : decode cX7_tellsAsker 52 = .ok (.ireturn, 1) := by decide +kernel
theorem dX7_tellsAsker_53 : decode cX7_tellsAsker 53 = .ok (.aload_n 0, 1) := by decide +kernel
theorem dX7_tellsAsker_54 : decode cX7_tellsAsker 54 = .ok (.getfield 7, 3) := by decide +kernel
theorem dX7_tellsAsker_57 : decode cX7_tellsAsker 57 = .ok (.bipush 91, 2) := by decide +kernel
theorem dX7_tellsAsker_59 : decode cX7_tellsAsker 59 = .ok (.iconst 2, 1) := by decide +kernel
theorem dX7_tellsAsker_60 : decode cX7_tellsAsker 60 = .ok (.iload_n 1, 1) := by decide +kernel
theorem dX7_tellsAsker_61 : decode cX7_tellsAsker 61 = .ok (.imul, 1) := by decide +kernel
theorem dX7_tellsAsker_62 : decode cX7_tellsAsker 62 = .ok (.iadd, 1) := by decide +kernel
theorem dX7_tellsAsker_63 : decode cX7_tellsAsker 63 = .ok (.iconst 1, 1) := by decide +kernel
theorem dX7_tellsAsker_64 : decode cX7_tellsAsker 64 = .ok (.iadd, 1) := by decide +kernel
theorem dX7_tellsAsker_65 : decode cX7_tellsAsker 65 = .ok (.iaload, 1) := by decide +kernel
theorem dX7_tellsAsker_66 : decode cX7_tellsAsker 66 = .ok (.ireturn, 1) := by decide +kernel
theorem dX7_asker_0 : decode cX7_asker 0 = .ok (.aload_n 0, 1) := by decide +kernel
theorem dX7_asker_1 : decode cX7_asker 1 = .ok (.iconst 0, 1) := by decide +kernel
theorem dX7_asker_2 : decode cX7_asker 2 = .ok (.putfield 22, 3) := by decide +kernel
theorem dX7_asker_5 : decode cX7_asker 5 = .ok (.iload_n 1, 1) := by decide +kernel
theorem dX7_asker_6 : decode cX7_asker 6 = .ok (.invokestatic 87, 3) := by decide +kernel
theorem dX7_asker_9 : decode cX7_asker 9 = .ok (.ifCond .ne 9, 3) := by decide +kernel
theorem dX7_asker_12 : decode cX7_asker 12 = .ok (.aload_n 0, 1) := by decide +kernel
theorem dX7_asker_13 : decode cX7_asker 13 = .ok (.iconst 1, 1) := by decide +kernel
theorem dX7_asker_14 : decode cX7_asker 14 = .ok (.invokevirtual 67, 3) := by decide +kernel
theorem dX7_asker_17 : decode cX7_asker 17 = .ok (.ireturn, 1) := by decide +kernel
theorem dX7_asker_18 : decode cX7_asker 18 = .ok (.iload_n 2, 1) := by decide +kernel
theorem dX7_asker_19 : decode cX7_asker 19 = .ok (.iconst 0, 1) := by decide +kernel
theorem dX7_asker_20 : decode cX7_asker 20 = .ok (.iconst 2, 1) := by decide +kernel
theorem dX7_asker_21 : decode cX7_asker 21 = .ok (.invokestatic 26, 3) := by decide +kernel
theorem dX7_asker_24 : decode cX7_asker 24 = .ok (.ifCond .eq 12, 3) := by decide +kernel
theorem dX7_asker_27 : decode cX7_asker 27 = .ok (.aload_n 0, 1) := by decide +kernel
theorem dX7_asker_28 : decode cX7_asker 28 = .ok (.iload_n 1, 1) := by decide +kernel
theorem dX7_asker_29 : decode cX7_asker 29 = .ok (.iload_n 2, 1) := by decide +kernel
theorem dX7_asker_30 : decode cX7_asker 30 = .ok (.invokevirtual 170, 3) := by decide +kernel
theorem dX7_asker_33 : decode cX7_asker 33 = .ok (.goto 8, 3) := by decide +kernel
theorem dX7_asker_36 : decode cX7_asker 36 = .ok (.aload_n 0, 1) := by decide +kernel
theorem dX7_asker_37 : decode cX7_asker 37 = .ok (.iconst 2, 1) := by decide +kernel
theorem dX7_asker_38 : decode cX7_asker 38 = .ok (.invokevirtual 67, 3) := by decide +kernel
theorem dX7_asker_41 : decode cX7_asker 41 = .ok (.ireturn, 1) := by decide +kernel
theorem dX7_tellsCount_0 : decode cX7_tellsCount 0 = .ok (.iload_n 1, 1) := by decide +kernel
theorem dX7_tellsCount_1 : decode cX7_tellsCount 1 = .ok (.tableswitch 126 0 12 #[67, 74, 79, 79, 103, 116, 126, 126, 126, 126, 126, 126, 121], 67) := by decide +kernel
theorem dX7_tellsCount_68 : decode cX7_tellsCount 68 = .ok (.aload_n 0, 1) := by decide +kernel
theorem dX7_tellsCount_69 : decode cX7_tellsCount 69 = .ok (.getfield 7, 3) := by decide +kernel
theorem dX7_tellsCount_72 : decode cX7_tellsCount 72 = .ok (.iconst 0, 1) := by decide +kernel
theorem dX7_tellsCount_73 : decode cX7_tellsCount 73 = .ok (.iaload, 1) := by decide +kernel
theorem dX7_tellsCount_74 : decode cX7_tellsCount 74 = .ok (.ireturn, 1) := by decide +kernel
theorem dX7_tellsCount_75 : decode cX7_tellsCount 75 = .ok (.aload_n 0, 1) := by decide +kernel
theorem dX7_tellsCount_76 : decode cX7_tellsCount 76 = .ok (.invokevirtual 93, 3) := by decide +kernel
theorem dX7_tellsCount_79 : decode cX7_tellsCount 79 = .ok (.ireturn, 1) := by decide +kernel
theorem dX7_tellsCount_80 : decode cX7_tellsCount 80 = .ok (.aload_n 0, 1) := by decide +kernel
theorem dX7_tellsCount_81 : decode cX7_tellsCount 81 = .ok (.iconst 0, 1) := by decide +kernel
theorem dX7_tellsCount_82 : decode cX7_tellsCount 82 = .ok (.bipush 24, 2) := by decide +kernel
theorem dX7_tellsCount_84 : decode cX7_tellsCount 84 = .ok (.iload_n 1, 1) := by decide +kernel
theorem dX7_tellsCount_85 : decode cX7_tellsCount 85 = .ok (.iconst 3, 1) := by decide +kernel
theorem dX7_tellsCount_86 : decode cX7_tellsCount 86 = .ok (.if_icmp .ne 7, 3) := by decide +kernel
theorem dX7_tellsCount_89 : decode cX7_tellsCount 89 = .ok (.iconst 1, 1) := by decide +kernel
theorem dX7_tellsCount_90 : decode cX7_tellsCount 90 = .ok (.goto 4, 3) := by decide +kernel
theorem dX7_tellsCount_93 : decode cX7_tellsCount 93 = .ok (.iconst 0, 1) := by decide +kernel
theorem dX7_tellsCount_94 : decode cX7_tellsCount 94 = .ok (.aload_n 0, 1) := by decide +kernel
theorem dX7_tellsCount_95 : decode cX7_tellsCount 95 = .ok (.getfield 7, 3) := by decide +kernel
theorem dX7_tellsCount_98 : decode cX7_tellsCount 98 = .ok (.iconst 0, 1) := by decide +kernel
theorem dX7_tellsCount_99 : decode cX7_tellsCount 99 = .ok (.iaload, 1) := by decide +kernel
theorem dX7_tellsCount_100 : decode cX7_tellsCount 100 = .ok (.invokevirtual 163, 3) := by decide +kernel
theorem dX7_tellsCount_103 : decode cX7_tellsCount 103 = .ok (.ireturn, 1) := by decide +kernel
theorem dX7_tellsCount_104 : decode cX7_tellsCount 104 = .ok (.bipush 24, 2) := by decide +kernel
theorem dX7_tellsCount_106 : decode cX7_tellsCount 106 = .ok (.aload_n 0, 1) := by decide +kernel
theorem dX7_tellsCount_107 : decode cX7_tellsCount 107 = .ok (.iconst 0, 1) := by decide +kernel
theorem dX7_tellsCount_108 : decode cX7_tellsCount 108 = .ok (.bipush 24, 2) := by decide +kernel
theorem dX7_tellsCount_110 : decode cX7_tellsCount 110 = .ok (.iconst 0, 1) := by decide +kernel
theorem dX7_tellsCount_111 : decode cX7_tellsCount 111 = .ok (.iconst 0, 1) := by decide +kernel
theorem dX7_tellsCount_112 : decode cX7_tellsCount 112 = .ok (.invokevirtual 163, 3) := by decide +kernel
theorem dX7_tellsCount_115 : decode cX7_tellsCount 115 = .ok (.isub, 1) := by decide +kernel
theorem dX7_tellsCount_116 : decode cX7_tellsCount 116 = .ok (.ireturn, 1) := by decide +kernel
theorem dX7_tellsCount_117 : decode cX7_tellsCount 117 = .ok (.aload_n 0, 1) := by decide +kernel
theorem dX7_tellsCount_118 : decode cX7_tellsCount 118 = .ok (.invokevirtual 108, 3) := by decide +kernel
theorem dX7_tellsCount_121 : decode cX7_tellsCount 121 = .ok (.ireturn, 1) := by decide +kernel
theorem dX7_tellsCount_122 : decode cX7_tellsCount 122 = .ok (.aload_n 0, 1) := by decide +kernel
theorem dX7_tellsCount_123 : decode cX7_tellsCount 123 = .ok (.getfield 30, 3) := by decide +kernel
theorem dX7_tellsCount_126 : decode cX7_tellsCount 126 = .ok (.ireturn, 1) := by decide +kernel
theorem dX7_tellsCount_127 : decode cX7_tellsCount 127 = .ok (.aload_n 0, 1) := by decide +kernel
theorem dX7_tellsCount_128 : decode cX7_tellsCount 128 = .ok (.getfield 7, 3) := by decide +kernel
theorem dX7_tellsCount_131 : decode cX7_tellsCount 131 = .ok (.iconst 1, 1) := by decide +kernel
theorem dX7_tellsCount_132 : decode cX7_tellsCount 132 = .ok (.iload_n 1, 1) := by decide +kernel
theorem dX7_tellsCount_133 : decode cX7_tellsCount 133 = .ok (.iadd, 1) := by decide +kernel
theorem dX7_tellsCount_134 : decode cX7_tellsCount 134 = .ok (.bipush 6, 2) := by decide +kernel
theorem dX7_tellsCount_136 : decode cX7_tellsCount 136 = .ok (.isub, 1) := by decide +kernel
theorem dX7_tellsCount_137 : decode cX7_tellsCount 137 = .ok (.iaload, 1) := by decide +kernel
theorem dX7_tellsCount_138 : decode cX7_tellsCount 138 = .ok (.ireturn, 1) := by decide +kernel
theorem dX7_count_0 : decode cX7_count 0 = .ok (.aload_n 0, 1) := by decide +kernel
theorem dX7_count_1 : decode cX7_count 1 = .ok (.iconst 0, 1) := by decide +kernel
theorem dX7_count_2 : decode cX7_count 2 = .ok (.putfield 22, 3) := by decide +kernel
theorem dX7_count_5 : decode cX7_count 5 = .ok (.iload_n 1, 1) := by decide +kernel
theorem dX7_count_6 : decode cX7_count 6 = .ok (.iconst 0, 1) := by decide +kernel
theorem dX7_count_7 : decode cX7_count 7 = .ok (.bipush 12, 2) := by decide +kernel
theorem dX7_count_9 : decode cX7_count 9 = .ok (.invokestatic 26, 3) := by decide +kernel
theorem dX7_count_12 : decode cX7_count 12 = .ok (.ifCond .eq 11, 3) := by decide +kernel
theorem dX7_count_15 : decode cX7_count 15 = .ok (.aload_n 0, 1) := by decide +kernel
theorem dX7_count_16 : decode cX7_count 16 = .ok (.iload_n 1, 1) := by decide +kernel
theorem dX7_count_17 : decode cX7_count 17 = .ok (.invokevirtual 173, 3) := by decide +kernel
theorem dX7_count_20 : decode cX7_count 20 = .ok (.goto 8, 3) := by decide +kernel
theorem dX7_count_23 : decode cX7_count 23 = .ok (.aload_n 0, 1) := by decide +kernel
theorem dX7_count_24 : decode cX7_count 24 = .ok (.iconst 1, 1) := by decide +kernel
theorem dX7_count_25 : decode cX7_count 25 = .ok (.invokevirtual 67, 3) := by decide +kernel
theorem dX7_count_28 : decode cX7_count 28 = .ok (.ireturn, 1) := by decide +kernel
theorem dX7_ifAsked_0 : decode cX7_ifAsked 0 = .ok (.aload_n 0, 1) := by decide +kernel
theorem dX7_ifAsked_1 : decode cX7_ifAsked 1 = .ok (.iconst 0, 1) := by decide +kernel
theorem dX7_ifAsked_2 : decode cX7_ifAsked 2 = .ok (.putfield 22, 3) := by decide +kernel
theorem dX7_ifAsked_5 : decode cX7_ifAsked 5 = .ok (.iload_n 1, 1) := by decide +kernel
theorem dX7_ifAsked_6 : decode cX7_ifAsked 6 = .ok (.iconst 0, 1) := by decide +kernel
theorem dX7_ifAsked_7 : decode cX7_ifAsked 7 = .ok (.aload_n 0, 1) := by decide +kernel
theorem dX7_ifAsked_8 : decode cX7_ifAsked 8 = .ok (.getfield 7, 3) := by decide +kernel
theorem dX7_ifAsked_11 : decode cX7_ifAsked 11 = .ok (.iconst 0, 1) := by decide +kernel
theorem dX7_ifAsked_12 : decode cX7_ifAsked 12 = .ok (.iaload, 1) := by decide +kernel
theorem dX7_ifAsked_13 : decode cX7_ifAsked 13 = .ok (.invokestatic 26, 3) := by decide +kernel
theorem dX7_ifAsked_16 : decode cX7_ifAsked 16 = .ok (.ifCond .eq 36, 3) := by decide +kernel
theorem dX7_ifAsked_19 : decode cX7_ifAsked 19 = .ok (.iload_n 2, 1) := by decide +kernel
theorem dX7_ifAsked_20 : decode cX7_ifAsked 20 = .ok (.iconst 0, 1) := by decide +kernel
theorem dX7_ifAsked_21 : decode cX7_ifAsked 21 = .ok (.bipush 9, 2) := by decide +kernel
theorem dX7_ifAsked_23 : decode cX7_ifAsked 23 = .ok (.invokestatic 26, 3) := by decide +kernel
theorem dX7_ifAsked_26 : decode cX7_ifAsked 26 = .ok (.ifCond .eq 26, 3) := by decide +kernel
theorem dX7_ifAsked_29 : decode cX7_ifAsked 29 = .ok (.iload_n 3, 1) := by decide +kernel
theorem dX7_ifAsked_30 : decode cX7_ifAsked 30 = .ok (.iconst 0, 1) := by decide +kernel
theorem dX7_ifAsked_31 : decode cX7_ifAsked 31 = .ok (.iconst 2, 1) := by decide +kernel
theorem dX7_ifAsked_32 : decode cX7_ifAsked 32 = .ok (.invokestatic 26, 3) := by decide +kernel
theorem dX7_ifAsked_35 : decode cX7_ifAsked 35 = .ok (.ifCond .eq 17, 3) := by decide +kernel
theorem dX7_ifAsked_38 : decode cX7_ifAsked 38 = .ok (.iload 4, 2) := by decide +kernel
theorem dX7_ifAsked_40 : decode cX7_ifAsked 40 = .ok (.iconst 0, 1) := by decide +kernel
theorem dX7_ifAsked_41 : decode cX7_ifAsked 41 = .ok (.iconst 1, 1) := by decide +kernel
theorem dX7_ifAsked_42 : decode cX7_ifAsked 42 = .ok (.invokestatic 26, 3) := by decide +kernel
theorem dX7_ifAsked_45 : decode cX7_ifAsked 45 = .ok (.ifCond .eq 7, 3) := by decide +kernel
theorem dX7_ifAsked_48 : decode cX7_ifAsked 48 = .ok (.iconst 1, 1) := by decide +kernel
theorem dX7_ifAsked_49 : decode cX7_ifAsked 49 = .ok (.goto 4, 3) := by decide +kernel
theorem dX7_ifAsked_52 : decode cX7_ifAsked 52 = .ok (.iconst 0, 1) := by decide +kernel
theorem dX7_ifAsked_53 : decode cX7_ifAsked 53 = .ok (.istore 5, 2) := by decide +kernel
theorem dX7_ifAsked_55 : decode cX7_ifAsked 55 = .ok (.iload 5, 2) := by decide +kernel
theorem dX7_ifAsked_57 : decode cX7_ifAsked 57 = .ok (.ifCond .ne 9, 3) := by decide +kernel
theorem dX7_ifAsked_60 : decode cX7_ifAsked 60 = .ok (.aload_n 0, 1) := by decide +kernel
theorem dX7_ifAsked_61 : decode cX7_ifAsked 61 = .ok (.iconst 1, 1) := by decide +kernel
theorem dX7_ifAsked_62 : decode cX7_ifAsked 62 = .ok (.invokevirtual 67, 3) := by decide +kernel
theorem dX7_ifAsked_65 : decode cX7_ifAsked 65 = .ok (.ireturn, 1) := by decide +kernel
theorem dX7_ifAsked_66 : decode cX7_ifAsked 66 = .ok (.iload 4, 2) := by decide +kernel
theorem dX7_ifAsked_68 : decode cX7_ifAsked 68 = .ok (.ifCond .ne 13, 3) := by decide +kernel
theorem dX7_ifAsked_71 : decode cX7_ifAsked 71 = .ok (.aload_n 0, 1) := by decide +kernel
theorem dX7_ifAsked_72 : decode cX7_ifAsked 72 = .ok (.iload_n 1, 1) := by decide +kernel
theorem dX7_ifAsked_73 : decode cX7_ifAsked 73 = .ok (.iload_n 2, 1) := by decide +kernel
theorem dX7_ifAsked_74 : decode cX7_ifAsked 74 = .ok (.iload_n 3, 1) := by decide +kernel
theorem dX7_ifAsked_75 : decode cX7_ifAsked 75 = .ok (.invokevirtual 126, 3) := by decide +kernel
theorem dX7_ifAsked_78 : decode cX7_ifAsked 78 = .ok (.goto 10, 3) := by decide +kernel
theorem dX7_ifAsked_81 : decode cX7_ifAsked 81 = .ok (.aload_n 0, 1) := by decide +kernel
theorem dX7_ifAsked_82 : decode cX7_ifAsked 82 = .ok (.iload_n 1, 1) := by decide +kernel
theorem dX7_ifAsked_83 : decode cX7_ifAsked 83 = .ok (.iload_n 2, 1) := by decide +kernel
theorem dX7_ifAsked_84 : decode cX7_ifAsked 84 = .ok (.iload_n 3, 1) := by decide +kernel
theorem dX7_ifAsked_85 : decode cX7_ifAsked 85 = .ok (.invokevirtual 123, 3) := by decide +kernel
theorem dX7_ifAsked_88 : decode cX7_ifAsked 88 = .ok (.ireturn, 1) := by decide +kernel
theorem dX7_tellsLies_0 : decode cX7_tellsLies 0 = .ok (.iconst 0, 1) := by decide +kernel
theorem dX7_tellsLies_1 : decode cX7_tellsLies 1 = .ok (.istore_n 2, 1) := by decide +kernel
theorem dX7_tellsLies_2 : decode cX7_tellsLies 2 = .ok (.iconst 0, 1) := by decide +kernel
theorem dX7_tellsLies_3 : decode cX7_tellsLies 3 = .ok (.istore_n 3, 1) := by decide +kernel
theorem dX7_tellsLies_4 : decode cX7_tellsLies 4 = .ok (.iload_n 3, 1) := by decide +kernel
theorem dX7_tellsLies_5 : decode cX7_tellsLies 5 = .ok (.bipush 24, 2) := by decide +kernel
theorem dX7_tellsLies_7 : decode cX7_tellsLies 7 = .ok (.if_icmp .ge 40, 3) := by decide +kernel
theorem dX7_tellsLies_10 : decode cX7_tellsLies 10 = .ok (.iload_n 2, 1) := by decide +kernel
theorem dX7_tellsLies_11 : decode cX7_tellsLies 11 = .ok (.aload_n 0, 1) := by decide +kernel
theorem dX7_tellsLies_12 : decode cX7_tellsLies 12 = .ok (.iload_n 3, 1) := by decide +kernel
theorem dX7_tellsLies_13 : decode cX7_tellsLies 13 = .ok (.iload_n 1, 1) := by decide +kernel
theorem dX7_tellsLies_14 : decode cX7_tellsLies 14 = .ok (.invokevirtual 117, 3) := by decide +kernel
theorem dX7_tellsLies_17 : decode cX7_tellsLies 17 = .ok (.ifCond .eq 21, 3) := by decide +kernel
theorem dX7_tellsLies_20 : decode cX7_tellsLies 20 = .ok (.aload_n 0, 1) := by decide +kernel
theorem dX7_tellsLies_21 : decode cX7_tellsLies 21 = .ok (.iload_n 3, 1) := by decide +kernel
theorem dX7_tellsLies_22 : decode cX7_tellsLies 22 = .ok (.aload_n 0, 1) := by decide +kernel
theorem dX7_tellsLies_23 : decode cX7_tellsLies 23 = .ok (.getfield 7, 3) := by decide +kernel
theorem dX7_tellsLies_26 : decode cX7_tellsLies 26 = .ok (.iconst 0, 1) := by decide +kernel
theorem dX7_tellsLies_27 : decode cX7_tellsLies 27 = .ok (.iaload, 1) := by decide +kernel
theorem dX7_tellsLies_28 : decode cX7_tellsLies 28 = .ok (.invokevirtual 63, 3) := by decide +kernel
theorem dX7_tellsLies_31 : decode cX7_tellsLies 31 = .ok (.ifCond .ne 7, 3) := by decide +kernel
theorem dX7_tellsLies_34 : decode cX7_tellsLies 34 = .ok (.iconst 1, 1) := by decide +kernel
theorem dX7_tellsLies_35 : decode cX7_tellsLies 35 = .ok (.goto 4, 3) := by decide +kernel
theorem dX7_tellsLies_38 : decode cX7_tellsLies 38 = .ok (.iconst 0, 1) := by decide +kernel
theorem dX7_tellsLies_39 : decode cX7_tellsLies 39 = .ok (.iadd, 1) := by decide +kernel
theorem dX7_tellsLies_40 : decode cX7_tellsLies 40 = .ok (.istore_n 2, 1) := by decide +kernel
theorem dX7_tellsLies_41 : decode cX7_tellsLies 41 = .ok (.iinc 3 1, 3) := by decide +kernel
theorem dX7_tellsLies_44 : decode cX7_tellsLies 44 = .ok (.goto (-40), 3) := by decide +kernel
theorem dX7_tellsLies_47 : decode cX7_tellsLies 47 = .ok (.iload_n 2, 1) := by decide +kernel
theorem dX7_tellsLies_48 : decode cX7_tellsLies 48 = .ok (.ireturn, 1) := by decide +kernel
theorem dX7_lies_0 : decode cX7_lies 0 = .ok (.aload_n 0, 1) := by decide +kernel
theorem dX7_lies_1 : decode cX7_lies 1 = .ok (.iconst 0, 1) := by decide +kernel
theorem dX7_lies_2 : decode cX7_lies 2 = .ok (.putfield 22, 3) := by decide +kernel
theorem dX7_lies_5 : decode cX7_lies 5 = .ok (.iload_n 1, 1) := by decide +kernel
theorem dX7_lies_6 : decode cX7_lies 6 = .ok (.iconst 0, 1) := by decide +kernel
theorem dX7_lies_7 : decode cX7_lies 7 = .ok (.bipush 9, 2) := by decide +kernel
theorem dX7_lies_9 : decode cX7_lies 9 = .ok (.invokestatic 26, 3) := by decide +kernel
theorem dX7_lies_12 : decode cX7_lies 12 = .ok (.ifCond .eq 11, 3) := by decide +kernel
theorem dX7_lies_15 : decode cX7_lies 15 = .ok (.aload_n 0, 1) := by decide +kernel
theorem dX7_lies_16 : decode cX7_lies 16 = .ok (.iload_n 1, 1) := by decide +kernel
theorem dX7_lies_17 : decode cX7_lies 17 = .ok (.invokevirtual 176, 3) := by decide +kernel
theorem dX7_lies_20 : decode cX7_lies 20 = .ok (.goto 8, 3) := by decide +kernel
theorem dX7_lies_23 : decode cX7_lies 23 = .ok (.aload_n 0, 1) := by decide +kernel
theorem dX7_lies_24 : decode cX7_lies 24 = .ok (.iconst 1, 1) := by decide +kernel
theorem dX7_lies_25 : decode cX7_lies 25 = .ok (.invokevirtual 67, 3) := by decide +kernel
theorem dX7_lies_28 : decode cX7_lies 28 = .ok (.ireturn, 1) := by decide +kernel
theorem dX7_cheapestWay_0 : decode cX7_cheapestWay 0 = .ok (.iconst 0, 1) := by decide +kernel
theorem dX7_cheapestWay_1 : decode cX7_cheapestWay 1 = .ok (.istore_n 2, 1) := by decide +kernel
theorem dX7_cheapestWay_2 : decode cX7_cheapestWay 2 = .ok (.iconst 1, 1) := by decide +kernel
theorem dX7_cheapestWay_3 : decode cX7_cheapestWay 3 = .ok (.istore_n 3, 1) := by decide +kernel
theorem dX7_cheapestWay_4 : decode cX7_cheapestWay 4 = .ok (.iload_n 3, 1) := by decide +kernel
theorem dX7_cheapestWay_5 : decode cX7_cheapestWay 5 = .ok (.iconst 3, 1) := by decide +kernel
theorem dX7_cheapestWay_6 : decode cX7_cheapestWay 6 = .ok (.if_icmp .ge 42, 3) := by decide +kernel
theorem dX7_cheapestWay_9 : decode cX7_cheapestWay 9 = .ok (.aload_n 0, 1) := by decide +kernel
theorem dX7_cheapestWay_10 : decode cX7_cheapestWay 10 = .ok (.aload_n 0, 1) := by decide +kernel
theorem dX7_cheapestWay_11 : decode cX7_cheapestWay 11 = .ok (.getfield 7, 3) := by decide +kernel
theorem dX7_cheapestWay_14 : decode cX7_cheapestWay 14 = .ok (.iconst 0, 1) := by decide +kernel
theorem dX7_cheapestWay_15 : decode cX7_cheapestWay 15 = .ok (.iaload, 1) := by decide +kernel
theorem dX7_cheapestWay_16 : decode cX7_cheapestWay 16 = .ok (.iload_n 1, 1) := by decide +kernel
theorem dX7_cheapestWay_17 : decode cX7_cheapestWay 17 = .ok (.iload_n 3, 1) := by decide +kernel
theorem dX7_cheapestWay_18 : decode cX7_cheapestWay 18 = .ok (.invokevirtual 123, 3) := by decide +kernel
theorem dX7_cheapestWay_21 : decode cX7_cheapestWay 21 = .ok (.aload_n 0, 1) := by decide +kernel
theorem dX7_cheapestWay_22 : decode cX7_cheapestWay 22 = .ok (.aload_n 0, 1) := by decide +kernel
theorem dX7_cheapestWay_23 : decode cX7_cheapestWay 23 = .ok (.getfield 7, 3) := by decide +kernel
theorem dX7_cheapestWay_26 : decode cX7_cheapestWay 26 = .ok (.iconst 0, 1) := by decide +kernel
theorem dX7_cheapestWay_27 : decode cX7_cheapestWay 27 = .ok (.iaload, 1) := by decide +kernel
theorem dX7_cheapestWay_28 : decode cX7_cheapestWay 28 = .ok (.iload_n 1, 1) := by decide +kernel
theorem dX7_cheapestWay_29 : decode cX7_cheapestWay 29 = .ok (.iload_n 2, 1) := by decide +kernel
theorem dX7_cheapestWay_30 : decode cX7_cheapestWay 30 = .ok (.invokevirtual 123, 3) := by decide +kernel
theorem dX7_cheapestWay_33 : decode cX7_cheapestWay 33 = .ok (.if_icmp .gt 7, 3) := by decide +kernel
theorem dX7_cheapestWay_36 : decode cX7_cheapestWay 36 = .ok (.iload_n 3, 1) := by decide +kernel
theorem dX7_cheapestWay_37 : decode cX7_cheapestWay 37 = .ok (.goto 4, 3) := by decide +kernel
theorem dX7_cheapestWay_40 : decode cX7_cheapestWay 40 = .ok (.iload_n 2, 1) := by decide +kernel
theorem dX7_cheapestWay_41 : decode cX7_cheapestWay 41 = .ok (.istore_n 2, 1) := by decide +kernel
theorem dX7_cheapestWay_42 : decode cX7_cheapestWay 42 = .ok (.iinc 3 1, 3) := by decide +kernel
theorem dX7_cheapestWay_45 : decode cX7_cheapestWay 45 = .ok (.goto (-41), 3) := by decide +kernel
theorem dX7_cheapestWay_48 : decode cX7_cheapestWay 48 = .ok (.iload_n 2, 1) := by decide +kernel
theorem dX7_cheapestWay_49 : decode cX7_cheapestWay 49 = .ok (.ireturn, 1) := by decide +kernel
theorem dX7_cheapest_0 : decode cX7_cheapest 0 = .ok (.aload_n 0, 1) := by decide +kernel
theorem dX7_cheapest_1 : decode cX7_cheapest 1 = .ok (.iconst 0, 1) := by decide +kernel
theorem dX7_cheapest_2 : decode cX7_cheapest 2 = .ok (.putfield 22, 3) := by decide +kernel
theorem dX7_cheapest_5 : decode cX7_cheapest 5 = .ok (.iload_n 1, 1) := by decide +kernel
theorem dX7_cheapest_6 : decode cX7_cheapest 6 = .ok (.iconst 0, 1) := by decide +kernel
theorem dX7_cheapest_7 : decode cX7_cheapest 7 = .ok (.bipush 9, 2) := by decide +kernel
theorem dX7_cheapest_9 : decode cX7_cheapest 9 = .ok (.invokestatic 26, 3) := by decide +kernel
theorem dX7_cheapest_12 : decode cX7_cheapest 12 = .ok (.ifCond .eq 11, 3) := by decide +kernel
theorem dX7_cheapest_15 : decode cX7_cheapest 15 = .ok (.aload_n 0, 1) := by decide +kernel
theorem dX7_cheapest_16 : decode cX7_cheapest 16 = .ok (.iload_n 1, 1) := by decide +kernel
theorem dX7_cheapest_17 : decode cX7_cheapest 17 = .ok (.invokevirtual 179, 3) := by decide +kernel
theorem dX7_cheapest_20 : decode cX7_cheapest 20 = .ok (.goto 8, 3) := by decide +kernel
theorem dX7_cheapest_23 : decode cX7_cheapest 23 = .ok (.aload_n 0, 1) := by decide +kernel
theorem dX7_cheapest_24 : decode cX7_cheapest 24 = .ok (.iconst 1, 1) := by decide +kernel
theorem dX7_cheapest_25 : decode cX7_cheapest 25 = .ok (.invokevirtual 67, 3) := by decide +kernel
theorem dX7_cheapest_28 : decode cX7_cheapest 28 = .ok (.ireturn, 1) := by decide +kernel
theorem dX7_oldOnes_0 : decode cX7_oldOnes 0 = .ok (.iconst 0, 1) := by decide +kernel
theorem dX7_oldOnes_1 : decode cX7_oldOnes 1 = .ok (.istore_n 2, 1) := by decide +kernel
theorem dX7_oldOnes_2 : decode cX7_oldOnes 2 = .ok (.iconst 0, 1) := by decide +kernel
theorem dX7_oldOnes_3 : decode cX7_oldOnes 3 = .ok (.istore_n 3, 1) := by decide +kernel
theorem dX7_oldOnes_4 : decode cX7_oldOnes 4 = .ok (.iload_n 3, 1) := by decide +kernel
theorem dX7_oldOnes_5 : decode cX7_oldOnes 5 = .ok (.bipush 6, 2) := by decide +kernel
theorem dX7_oldOnes_7 : decode cX7_oldOnes 7 = .ok (.if_icmp .ge 18, 3) := by decide +kernel
theorem dX7_oldOnes_10 : decode cX7_oldOnes 10 = .ok (.iload_n 2, 1) := by decide +kernel
theorem dX7_oldOnes_11 : decode cX7_oldOnes 11 = .ok (.aload_n 0, 1) := by decide +kernel
theorem dX7_oldOnes_12 : decode cX7_oldOnes 12 = .ok (.iload_n 3, 1) := by decide +kernel
theorem dX7_oldOnes_13 : decode cX7_oldOnes 13 = .ok (.iload_n 1, 1) := by decide +kernel
theorem dX7_oldOnes_14 : decode cX7_oldOnes 14 = .ok (.invokevirtual 96, 3) := by decide +kernel
theorem dX7_oldOnes_17 : decode cX7_oldOnes 17 = .ok (.iadd, 1) := by decide +kernel
theorem dX7_oldOnes_18 : decode cX7_oldOnes 18 = .ok (.istore_n 2, 1) := by decide +kernel
theorem dX7_oldOnes_19 : decode cX7_oldOnes 19 = .ok (.iinc 3 1, 3) := by decide +kernel
theorem dX7_oldOnes_22 : decode cX7_oldOnes 22 = .ok (.goto (-18), 3) := by decide +kernel
theorem dX7_oldOnes_25 : decode cX7_oldOnes 25 = .ok (.iload_n 2, 1) := by decide +kernel
theorem dX7_oldOnes_26 : decode cX7_oldOnes 26 = .ok (.ireturn, 1) := by decide +kernel
theorem dX7_holderNow_0 : decode cX7_holderNow 0 = .ok (.iconst (-1), 1) := by decide +kernel
theorem dX7_holderNow_1 : decode cX7_holderNow 1 = .ok (.istore_n 1, 1) := by decide +kernel
theorem dX7_holderNow_2 : decode cX7_holderNow 2 = .ok (.aload_n 0, 1) := by decide +kernel
theorem dX7_holderNow_3 : decode cX7_holderNow 3 = .ok (.aload_n 0, 1) := by decide +kernel
theorem dX7_holderNow_4 : decode cX7_holderNow 4 = .ok (.invokevirtual 93, 3) := by decide +kernel
theorem dX7_holderNow_7 : decode cX7_holderNow 7 = .ok (.invokevirtual 182, 3) := by decide +kernel
theorem dX7_holderNow_10 : decode cX7_holderNow 10 = .ok (.istore_n 2, 1) := by decide +kernel
theorem dX7_holderNow_11 : decode cX7_holderNow 11 = .ok (.iconst 0, 1) := by decide +kernel
theorem dX7_holderNow_12 : decode cX7_holderNow 12 = .ok (.istore_n 3, 1) := by decide +kernel
theorem dX7_holderNow_13 : decode cX7_holderNow 13 = .ok (.iload_n 3, 1) := by decide +kernel
theorem dX7_holderNow_14 : decode cX7_holderNow 14 = .ok (.iconst 4, 1) := by decide +kernel
theorem dX7_holderNow_15 : decode cX7_holderNow 15 = .ok (.if_icmp .ge 58, 3) := by decide +kernel
theorem dX7_holderNow_18 : decode cX7_holderNow 18 = .ok (.aload_n 0, 1) := by decide +kernel
theorem dX7_holderNow_19 : decode cX7_holderNow 19 = .ok (.iload_n 3, 1) := by decide +kernel
theorem dX7_holderNow_20 : decode cX7_holderNow 20 = .ok (.invokevirtual 81, 3) := by decide +kernel
theorem dX7_holderNow_23 : decode cX7_holderNow 23 = .ok (.iconst (-1), 1) := by decide +kernel
theorem dX7_holderNow_24 : decode cX7_holderNow 24 = .ok (.if_icmp .ne 7, 3) := by decide +kernel
theorem dX7_holderNow_27 : decode cX7_holderNow 27 = .ok (.iconst 0, 1) := by decide +kernel
theorem dX7_holderNow_28 : decode cX7_holderNow 28 = .ok (.goto 12, 3) := by decide +kernel
theorem dX7_holderNow_31 : decode cX7_holderNow 31 = .ok (.aload_n 0, 1) := by decide +kernel
theorem dX7_holderNow_32 : decode cX7_holderNow 32 = .ok (.aload_n 0, 1) := by decide +kernel
theorem dX7_holderNow_33 : decode cX7_holderNow 33 = .ok (.iload_n 3, 1) := by decide +kernel
theorem dX7_holderNow_34 : decode cX7_holderNow 34 = .ok (.invokevirtual 84, 3) := by decide +kernel
theorem dX7_holderNow_37 : decode cX7_holderNow 37 = .ok (.invokevirtual 182, 3) := by decide +kernel
theorem dX7_holderNow_40 : decode cX7_holderNow 40 = .ok (.istore 4, 2) := by decide +kernel
theorem dX7_holderNow_42 : decode cX7_holderNow 42 = .ok (.iload 4, 2) := by decide +kernel
theorem dX7_holderNow_44 : decode cX7_holderNow 44 = .ok (.iload_n 2, 1) := by decide +kernel
theorem dX7_holderNow_45 : decode cX7_holderNow 45 = .ok (.if_icmp .le 7, 3) := by decide +kernel
theorem dX7_holderNow_48 : decode cX7_holderNow 48 = .ok (.iload_n 3, 1) := by decide +kernel
theorem dX7_holderNow_49 : decode cX7_holderNow 49 = .ok (.goto 4, 3) := by decide +kernel
theorem dX7_holderNow_52 : decode cX7_holderNow 52 = .ok (.iload_n 1, 1) := by decide +kernel
theorem dX7_holderNow_53 : decode cX7_holderNow 53 = .ok (.istore_n 1, 1) := by decide +kernel
theorem dX7_holderNow_54 : decode cX7_holderNow 54 = .ok (.iload 4, 2) := by decide +kernel
theorem dX7_holderNow_56 : decode cX7_holderNow 56 = .ok (.iload_n 2, 1) := by decide +kernel
theorem dX7_holderNow_57 : decode cX7_holderNow 57 = .ok (.if_icmp .le 8, 3) := by decide +kernel
theorem dX7_holderNow_60 : decode cX7_holderNow 60 = .ok (.iload 4, 2) := by decide +kernel
theorem dX7_holderNow_62 : decode cX7_holderNow 62 = .ok (.goto 4, 3) := by decide +kernel
theorem dX7_holderNow_65 : decode cX7_holderNow 65 = .ok (.iload_n 2, 1) := by decide +kernel
theorem dX7_holderNow_66 : decode cX7_holderNow 66 = .ok (.istore_n 2, 1) := by decide +kernel
theorem dX7_holderNow_67 : decode cX7_holderNow 67 = .ok (.iinc 3 1, 3) := by decide +kernel
theorem dX7_holderNow_70 : decode cX7_holderNow 70 = .ok (.goto (-57), 3) := by decide +kernel
theorem dX7_holderNow_73 : decode cX7_holderNow 73 = .ok (.iload_n 1, 1) := by decide +kernel
theorem dX7_holderNow_74 : decode cX7_holderNow 74 = .ok (.ireturn, 1) := by decide +kernel
theorem dX7_holder_0 : decode cX7_holder 0 = .ok (.aload_n 0, 1) := by decide +kernel
theorem dX7_holder_1 : decode cX7_holder 1 = .ok (.iconst 0, 1) := by decide +kernel
theorem dX7_holder_2 : decode cX7_holder 2 = .ok (.putfield 22, 3) := by decide +kernel
theorem dX7_holder_5 : decode cX7_holder 5 = .ok (.aload_n 0, 1) := by decide +kernel
theorem dX7_holder_6 : decode cX7_holder 6 = .ok (.invokevirtual 185, 3) := by decide +kernel
theorem dX7_holder_9 : decode cX7_holder 9 = .ok (.ireturn, 1) := by decide +kernel
theorem dX7_share_0 : decode cX7_share 0 = .ok (.aload_n 0, 1) := by decide +kernel
theorem dX7_share_1 : decode cX7_share 1 = .ok (.invokevirtual 108, 3) := by decide +kernel
theorem dX7_share_4 : decode cX7_share 4 = .ok (.i2d, 1) := by decide +kernel
theorem dX7_share_5 : decode cX7_share 5 = .ok (.ldc2_w 188, 3) := by decide +kernel
theorem dX7_share_8 : decode cX7_share 8 = .ok (.ddiv, 1) := by decide +kernel
theorem dX7_share_9 : decode cX7_share 9 = .ok (.dreturn, 1) := by decide +kernel
theorem dX7_marked_0 : decode cX7_marked 0 = .ok (.aload_n 0, 1) := by decide +kernel
theorem dX7_marked_1 : decode cX7_marked 1 = .ok (.iconst 0, 1) := by decide +kernel
theorem dX7_marked_2 : decode cX7_marked 2 = .ok (.putfield 22, 3) := by decide +kernel
theorem dX7_marked_5 : decode cX7_marked 5 = .ok (.aload_n 0, 1) := by decide +kernel
theorem dX7_marked_6 : decode cX7_marked 6 = .ok (.invokevirtual 190, 3) := by decide +kernel
theorem dX7_marked_9 : decode cX7_marked 9 = .ok (.dreturn, 1) := by decide +kernel
theorem dX7_hashes_0 : decode cX7_hashes 0 = .ok (.aload_n 0, 1) := by decide +kernel
theorem dX7_hashes_1 : decode cX7_hashes 1 = .ok (.ldc2_w 194, 3) := by decide +kernel
theorem dX7_hashes_4 : decode cX7_hashes 4 = .ok (.aload_n 0, 1) := by decide +kernel
theorem dX7_hashes_5 : decode cX7_hashes 5 = .ok (.getfield 196, 3) := by decide +kernel
theorem dX7_hashes_8 : decode cX7_hashes 8 = .ok (.lmul, 1) := by decide +kernel
theorem dX7_hashes_9 : decode cX7_hashes 9 = .ok (.lload_n 1, 1) := by decide +kernel
theorem dX7_hashes_10 : decode cX7_hashes 10 = .ok (.ladd, 1) := by decide +kernel
theorem dX7_hashes_11 : decode cX7_hashes 11 = .ok (.putfield 196, 3) := by decide +kernel
theorem dX7_hashes_14 : decode cX7_hashes 14 = .ok (.return_, 1) := by decide +kernel
theorem dX7_hashesValue_0 : decode cX7_hashesValue 0 = .ok (.iconst 0, 1) := by decide +kernel
theorem dX7_hashesValue_1 : decode cX7_hashesValue 1 = .ok (.istore_n 2, 1) := by decide +kernel
theorem dX7_hashesValue_2 : decode cX7_hashesValue 2 = .ok (.iload_n 2, 1) := by decide +kernel
theorem dX7_hashesValue_3 : decode cX7_hashesValue 3 = .ok (.iconst 3, 1) := by decide +kernel
theorem dX7_hashesValue_4 : decode cX7_hashesValue 4 = .ok (.if_icmp .ge 43, 3) := by decide +kernel
theorem dX7_hashesValue_7 : decode cX7_hashesValue 7 = .ok (.aload_n 0, 1) := by decide +kernel
theorem dX7_hashesValue_8 : decode cX7_hashesValue 8 = .ok (.aload_n 0, 1) := by decide +kernel
theorem dX7_hashesValue_9 : decode cX7_hashesValue 9 = .ok (.aload_n 0, 1) := by decide +kernel
theorem dX7_hashesValue_10 : decode cX7_hashesValue 10 = .ok (.getfield 7, 3) := by decide +kernel
theorem dX7_hashesValue_13 : decode cX7_hashesValue 13 = .ok (.iconst 0, 1) := by decide +kernel
theorem dX7_hashesValue_14 : decode cX7_hashesValue 14 = .ok (.iaload, 1) := by decide +kernel
theorem dX7_hashesValue_15 : decode cX7_hashesValue 15 = .ok (.iload_n 1, 1) := by decide +kernel
theorem dX7_hashesValue_16 : decode cX7_hashesValue 16 = .ok (.iload_n 2, 1) := by decide +kernel
theorem dX7_hashesValue_17 : decode cX7_hashesValue 17 = .ok (.invokevirtual 126, 3) := by decide +kernel
theorem dX7_hashesValue_20 : decode cX7_hashesValue 20 = .ok (.i2l, 1) := by decide +kernel
theorem dX7_hashesValue_21 : decode cX7_hashesValue 21 = .ok (.invokevirtual 200, 3) := by decide +kernel
theorem dX7_hashesValue_24 : decode cX7_hashesValue 24 = .ok (.aload_n 0, 1) := by decide +kernel
theorem dX7_hashesValue_25 : decode cX7_hashesValue 25 = .ok (.aload_n 0, 1) := by decide +kernel
theorem dX7_hashesValue_26 : decode cX7_hashesValue 26 = .ok (.aload_n 0, 1) := by decide +kernel
theorem dX7_hashesValue_27 : decode cX7_hashesValue 27 = .ok (.getfield 7, 3) := by decide +kernel
theorem dX7_hashesValue_30 : decode cX7_hashesValue 30 = .ok (.iconst 0, 1) := by decide +kernel
theorem dX7_hashesValue_31 : decode cX7_hashesValue 31 = .ok (.iaload, 1) := by decide +kernel
theorem dX7_hashesValue_32 : decode cX7_hashesValue 32 = .ok (.iload_n 1, 1) := by decide +kernel
theorem dX7_hashesValue_33 : decode cX7_hashesValue 33 = .ok (.iload_n 2, 1) := by decide +kernel
theorem dX7_hashesValue_34 : decode cX7_hashesValue 34 = .ok (.invokevirtual 123, 3) := by decide +kernel
theorem dX7_hashesValue_37 : decode cX7_hashesValue 37 = .ok (.i2l, 1) := by decide +kernel
theorem dX7_hashesValue_38 : decode cX7_hashesValue 38 = .ok (.invokevirtual 200, 3) := by decide +kernel
theorem dX7_hashesValue_41 : decode cX7_hashesValue 41 = .ok (.iinc 2 1, 3) := by decide +kernel
theorem dX7_hashesValue_44 : decode cX7_hashesValue 44 = .ok (.goto (-42), 3) := by decide +kernel
theorem dX7_hashesValue_47 : decode cX7_hashesValue 47 = .ok (.aload_n 0, 1) := by decide +kernel
theorem dX7_hashesValue_48 : decode cX7_hashesValue 48 = .ok (.aload_n 0, 1) := by decide +kernel
theorem dX7_hashesValue_49 : decode cX7_hashesValue 49 = .ok (.iload_n 1, 1) := by decide +kernel
theorem dX7_hashesValue_50 : decode cX7_hashesValue 50 = .ok (.invokevirtual 176, 3) := by decide +kernel
theorem dX7_hashesValue_53 : decode cX7_hashesValue 53 = .ok (.i2l, 1) := by decide +kernel
theorem dX7_hashesValue_54 : decode cX7_hashesValue 54 = .ok (.invokevirtual 200, 3) := by decide +kernel
theorem dX7_hashesValue_57 : decode cX7_hashesValue 57 = .ok (.aload_n 0, 1) := by decide +kernel
theorem dX7_hashesValue_58 : decode cX7_hashesValue 58 = .ok (.aload_n 0, 1) := by decide +kernel
theorem dX7_hashesValue_59 : decode cX7_hashesValue 59 = .ok (.iload_n 1, 1) := by decide +kernel
theorem dX7_hashesValue_60 : decode cX7_hashesValue 60 = .ok (.invokevirtual 179, 3) := by decide +kernel
theorem dX7_hashesValue_63 : decode cX7_hashesValue 63 = .ok (.i2l, 1) := by decide +kernel
theorem dX7_hashesValue_64 : decode cX7_hashesValue 64 = .ok (.invokevirtual 200, 3) := by decide +kernel
theorem dX7_hashesValue_67 : decode cX7_hashesValue 67 = .ok (.return_, 1) := by decide +kernel
theorem dX7_digest_0 : decode cX7_digest 0 = .ok (.aload_n 0, 1) := by decide +kernel
theorem dX7_digest_1 : decode cX7_digest 1 = .ok (.iconst 0, 1) := by decide +kernel
theorem dX7_digest_2 : decode cX7_digest 2 = .ok (.putfield 22, 3) := by decide +kernel
theorem dX7_digest_5 : decode cX7_digest 5 = .ok (.aload_n 0, 1) := by decide +kernel
theorem dX7_digest_6 : decode cX7_digest 6 = .ok (.ldc2_w 204, 3) := by decide +kernel
theorem dX7_digest_9 : decode cX7_digest 9 = .ok (.putfield 196, 3) := by decide +kernel
theorem dX7_digest_12 : decode cX7_digest 12 = .ok (.iconst 0, 1) := by decide +kernel
theorem dX7_digest_13 : decode cX7_digest 13 = .ok (.istore_n 1, 1) := by decide +kernel
theorem dX7_digest_14 : decode cX7_digest 14 = .ok (.iload_n 1, 1) := by decide +kernel
theorem dX7_digest_15 : decode cX7_digest 15 = .ok (.bipush 13, 2) := by decide +kernel
theorem dX7_digest_17 : decode cX7_digest 17 = .ok (.if_icmp .ge 19, 3) := by decide +kernel
theorem dX7_digest_20 : decode cX7_digest 20 = .ok (.aload_n 0, 1) := by decide +kernel
theorem dX7_digest_21 : decode cX7_digest 21 = .ok (.aload_n 0, 1) := by decide +kernel
theorem dX7_digest_22 : decode cX7_digest 22 = .ok (.iload_n 1, 1) := by decide +kernel
theorem dX7_digest_23 : decode cX7_digest 23 = .ok (.invokevirtual 173, 3) := by decide +kernel
theorem dX7_digest_26 : decode cX7_digest 26 = .ok (.i2l, 1) := by decide +kernel
theorem dX7_digest_27 : decode cX7_digest 27 = .ok (.invokevirtual 200, 3) := by decide +kernel
theorem dX7_digest_30 : decode cX7_digest 30 = .ok (.iinc 1 1, 3) := by decide +kernel
theorem dX7_digest_33 : decode cX7_digest 33 = .ok (.goto (-19), 3) := by decide +kernel
theorem dX7_digest_36 : decode cX7_digest 36 = .ok (.iconst 0, 1) := by decide +kernel
theorem dX7_digest_37 : decode cX7_digest 37 = .ok (.istore_n 1, 1) := by decide +kernel
theorem dX7_digest_38 : decode cX7_digest 38 = .ok (.iload_n 1, 1) := by decide +kernel
theorem dX7_digest_39 : decode cX7_digest 39 = .ok (.bipush 96, 2) := by decide +kernel
theorem dX7_digest_41 : decode cX7_digest 41 = .ok (.if_icmp .ge 24, 3) := by decide +kernel
theorem dX7_digest_44 : decode cX7_digest 44 = .ok (.aload_n 0, 1) := by decide +kernel
theorem dX7_digest_45 : decode cX7_digest 45 = .ok (.aload_n 0, 1) := by decide +kernel
theorem dX7_digest_46 : decode cX7_digest 46 = .ok (.iload_n 1, 1) := by decide +kernel
theorem dX7_digest_47 : decode cX7_digest 47 = .ok (.iconst 4, 1) := by decide +kernel
theorem dX7_digest_48 : decode cX7_digest 48 = .ok (.idiv, 1) := by decide +kernel
theorem dX7_digest_49 : decode cX7_digest 49 = .ok (.iload_n 1, 1) := by decide +kernel
theorem dX7_digest_50 : decode cX7_digest 50 = .ok (.iconst 4, 1) := by decide +kernel
theorem dX7_digest_51 : decode cX7_digest 51 = .ok (.irem, 1) := by decide +kernel
theorem dX7_digest_52 : decode cX7_digest 52 = .ok (.invokevirtual 160, 3) := by decide +kernel
theorem dX7_digest_55 : decode cX7_digest 55 = .ok (.i2l, 1) := by decide +kernel
theorem dX7_digest_56 : decode cX7_digest 56 = .ok (.invokevirtual 200, 3) := by decide +kernel
theorem dX7_digest_59 : decode cX7_digest 59 = .ok (.iinc 1 1, 3) := by decide +kernel
theorem dX7_digest_62 : decode cX7_digest 62 = .ok (.goto (-24), 3) := by decide +kernel
theorem dX7_digest_65 : decode cX7_digest 65 = .ok (.iconst 0, 1) := by decide +kernel
theorem dX7_digest_66 : decode cX7_digest 66 = .ok (.istore_n 1, 1) := by decide +kernel
theorem dX7_digest_67 : decode cX7_digest 67 = .ok (.iload_n 1, 1) := by decide +kernel
theorem dX7_digest_68 : decode cX7_digest 68 = .ok (.bipush 30, 2) := by decide +kernel
theorem dX7_digest_70 : decode cX7_digest 70 = .ok (.if_icmp .ge 24, 3) := by decide +kernel
theorem dX7_digest_73 : decode cX7_digest 73 = .ok (.aload_n 0, 1) := by decide +kernel
theorem dX7_digest_74 : decode cX7_digest 74 = .ok (.aload_n 0, 1) := by decide +kernel
theorem dX7_digest_75 : decode cX7_digest 75 = .ok (.iload_n 1, 1) := by decide +kernel
theorem dX7_digest_76 : decode cX7_digest 76 = .ok (.iconst 5, 1) := by decide +kernel
theorem dX7_digest_77 : decode cX7_digest 77 = .ok (.idiv, 1) := by decide +kernel
theorem dX7_digest_78 : decode cX7_digest 78 = .ok (.iload_n 1, 1) := by decide +kernel
theorem dX7_digest_79 : decode cX7_digest 79 = .ok (.iconst 5, 1) := by decide +kernel
theorem dX7_digest_80 : decode cX7_digest 80 = .ok (.irem, 1) := by decide +kernel
theorem dX7_digest_81 : decode cX7_digest 81 = .ok (.invokevirtual 167, 3) := by decide +kernel
theorem dX7_digest_84 : decode cX7_digest 84 = .ok (.i2l, 1) := by decide +kernel
theorem dX7_digest_85 : decode cX7_digest 85 = .ok (.invokevirtual 200, 3) := by decide +kernel
theorem dX7_digest_88 : decode cX7_digest 88 = .ok (.iinc 1 1, 3) := by decide +kernel
theorem dX7_digest_91 : decode cX7_digest 91 = .ok (.goto (-24), 3) := by decide +kernel
theorem dX7_digest_94 : decode cX7_digest 94 = .ok (.iconst 0, 1) := by decide +kernel
theorem dX7_digest_95 : decode cX7_digest 95 = .ok (.istore_n 1, 1) := by decide +kernel
theorem dX7_digest_96 : decode cX7_digest 96 = .ok (.iload_n 1, 1) := by decide +kernel
theorem dX7_digest_97 : decode cX7_digest 97 = .ok (.bipush 12, 2) := by decide +kernel
theorem dX7_digest_99 : decode cX7_digest 99 = .ok (.if_icmp .ge 24, 3) := by decide +kernel
theorem dX7_digest_102 : decode cX7_digest 102 = .ok (.aload_n 0, 1) := by decide +kernel
theorem dX7_digest_103 : decode cX7_digest 103 = .ok (.aload_n 0, 1) := by decide +kernel
theorem dX7_digest_104 : decode cX7_digest 104 = .ok (.iload_n 1, 1) := by decide +kernel
theorem dX7_digest_105 : decode cX7_digest 105 = .ok (.iconst 3, 1) := by decide +kernel
theorem dX7_digest_106 : decode cX7_digest 106 = .ok (.idiv, 1) := by decide +kernel
theorem dX7_digest_107 : decode cX7_digest 107 = .ok (.iload_n 1, 1) := by decide +kernel
theorem dX7_digest_108 : decode cX7_digest 108 = .ok (.iconst 3, 1) := by decide +kernel
theorem dX7_digest_109 : decode cX7_digest 109 = .ok (.irem, 1) := by decide +kernel
theorem dX7_digest_110 : decode cX7_digest 110 = .ok (.invokevirtual 170, 3) := by decide +kernel
theorem dX7_digest_113 : decode cX7_digest 113 = .ok (.i2l, 1) := by decide +kernel
theorem dX7_digest_114 : decode cX7_digest 114 = .ok (.invokevirtual 200, 3) := by decide +kernel
theorem dX7_digest_117 : decode cX7_digest 117 = .ok (.iinc 1 1, 3) := by decide +kernel
theorem dX7_digest_120 : decode cX7_digest 120 = .ok (.goto (-24), 3) := by decide +kernel
theorem dX7_digest_123 : decode cX7_digest 123 = .ok (.iconst 0, 1) := by decide +kernel
theorem dX7_digest_124 : decode cX7_digest 124 = .ok (.istore_n 1, 1) := by decide +kernel
theorem dX7_digest_125 : decode cX7_digest 125 = .ok (.iload_n 1, 1) := by decide +kernel
theorem dX7_digest_126 : decode cX7_digest 126 = .ok (.bipush 10, 2) := by decide +kernel
theorem dX7_digest_128 : decode cX7_digest 128 = .ok (.if_icmp .ge 14, 3) := by decide +kernel
theorem dX7_digest_131 : decode cX7_digest 131 = .ok (.aload_n 0, 1) := by decide +kernel
theorem dX7_digest_132 : decode cX7_digest 132 = .ok (.iload_n 1, 1) := by decide +kernel
theorem dX7_digest_133 : decode cX7_digest 133 = .ok (.invokevirtual 206, 3) := by decide +kernel
theorem dX7_digest_136 : decode cX7_digest 136 = .ok (.iinc 1 1, 3) := by decide +kernel
theorem dX7_digest_139 : decode cX7_digest 139 = .ok (.goto (-14), 3) := by decide +kernel
theorem dX7_digest_142 : decode cX7_digest 142 = .ok (.aload_n 0, 1) := by decide +kernel
theorem dX7_digest_143 : decode cX7_digest 143 = .ok (.aload_n 0, 1) := by decide +kernel
theorem dX7_digest_144 : decode cX7_digest 144 = .ok (.invokevirtual 185, 3) := by decide +kernel
theorem dX7_digest_147 : decode cX7_digest 147 = .ok (.i2l, 1) := by decide +kernel
theorem dX7_digest_148 : decode cX7_digest 148 = .ok (.invokevirtual 200, 3) := by decide +kernel
theorem dX7_digest_151 : decode cX7_digest 151 = .ok (.aload_n 0, 1) := by decide +kernel
theorem dX7_digest_152 : decode cX7_digest 152 = .ok (.aload_n 0, 1) := by decide +kernel
theorem dX7_digest_153 : decode cX7_digest 153 = .ok (.invokevirtual 190, 3) := by decide +kernel
theorem dX7_digest_156 : decode cX7_digest 156 = .ok (.invokestatic 209, 3) := by decide +kernel
theorem dX7_digest_159 : decode cX7_digest 159 = .ok (.invokevirtual 200, 3) := by decide +kernel
theorem dX7_digest_162 : decode cX7_digest 162 = .ok (.aload_n 0, 1) := by decide +kernel
theorem dX7_digest_163 : decode cX7_digest 163 = .ok (.aload_n 0, 1) := by decide +kernel
theorem dX7_digest_164 : decode cX7_digest 164 = .ok (.getfield 129, 3) := by decide +kernel
theorem dX7_digest_167 : decode cX7_digest 167 = .ok (.i2l, 1) := by decide +kernel
theorem dX7_digest_168 : decode cX7_digest 168 = .ok (.invokevirtual 200, 3) := by decide +kernel
theorem dX7_digest_171 : decode cX7_digest 171 = .ok (.iconst 0, 1) := by decide +kernel
theorem dX7_digest_172 : decode cX7_digest 172 = .ok (.istore_n 1, 1) := by decide +kernel
theorem dX7_digest_173 : decode cX7_digest 173 = .ok (.iload_n 1, 1) := by decide +kernel
theorem dX7_digest_174 : decode cX7_digest 174 = .ok (.aload_n 0, 1) := by decide +kernel
theorem dX7_digest_175 : decode cX7_digest 175 = .ok (.getfield 129, 3) := by decide +kernel
theorem dX7_digest_178 : decode cX7_digest 178 = .ok (.if_icmp .ge 20, 3) := by decide +kernel
theorem dX7_digest_181 : decode cX7_digest 181 = .ok (.aload_n 0, 1) := by decide +kernel
theorem dX7_digest_182 : decode cX7_digest 182 = .ok (.aload_n 0, 1) := by decide +kernel
theorem dX7_digest_183 : decode cX7_digest 183 = .ok (.getfield 16, 3) := by decide +kernel
theorem dX7_digest_186 : decode cX7_digest 186 = .ok (.iload_n 1, 1) := by decide +kernel
theorem dX7_digest_187 : decode cX7_digest 187 = .ok (.iaload, 1) := by decide +kernel
theorem dX7_digest_188 : decode cX7_digest 188 = .ok (.i2l, 1) := by decide +kernel
theorem dX7_digest_189 : decode cX7_digest 189 = .ok (.invokevirtual 200, 3) := by decide +kernel
theorem dX7_digest_192 : decode cX7_digest 192 = .ok (.iinc 1 1, 3) := by decide +kernel
theorem dX7_digest_195 : decode cX7_digest 195 = .ok (.goto (-22), 3) := by decide +kernel
theorem dX7_digest_198 : decode cX7_digest 198 = .ok (.aload_n 0, 1) := by decide +kernel
theorem dX7_digest_199 : decode cX7_digest 199 = .ok (.getfield 196, 3) := by decide +kernel
theorem dX7_digest_202 : decode cX7_digest 202 = .ok (.lreturn, 1) := by decide +kernel
