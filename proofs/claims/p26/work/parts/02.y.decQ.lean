theorem dX0_init_0 : decode cX0_init 0 = .ok (.aload_n 0, 1) := by decide +kernel
theorem dX0_init_1 : decode cX0_init 1 = .ok (.invokespecial 3, 3) := by decide +kernel
theorem dX0_init_4 : decode cX0_init 4 = .ok (.aload_n 0, 1) := by decide +kernel
theorem dX0_init_5 : decode cX0_init 5 = .ok (.aload_n 1, 1) := by decide +kernel
theorem dX0_init_6 : decode cX0_init 6 = .ok (.putfield 9, 3) := by decide +kernel
theorem dX0_init_9 : decode cX0_init 9 = .ok (.aload_n 0, 1) := by decide +kernel
theorem dX0_init_10 : decode cX0_init 10 = .ok (.aload_n 2, 1) := by decide +kernel
theorem dX0_init_11 : decode cX0_init 11 = .ok (.putfield 15, 3) := by decide +kernel
theorem dX0_init_14 : decode cX0_init 14 = .ok (.aload_n 0, 1) := by decide +kernel
theorem dX0_init_15 : decode cX0_init 15 = .ok (.sipush 28800, 3) := by decide +kernel
theorem dX0_init_18 : decode cX0_init 18 = .ok (.newarray .int, 2) := by decide +kernel
theorem dX0_init_20 : decode cX0_init 20 = .ok (.putfield 19, 3) := by decide +kernel
theorem dX0_init_23 : decode cX0_init 23 = .ok (.aload_n 0, 1) := by decide +kernel
theorem dX0_init_24 : decode cX0_init 24 = .ok (.bipush 24, 2) := by decide +kernel
theorem dX0_init_26 : decode cX0_init 26 = .ok (.newarray .int, 2) := by decide +kernel
theorem dX0_init_28 : decode cX0_init 28 = .ok (.putfield 23, 3) := by decide +kernel
theorem dX0_init_31 : decode cX0_init 31 = .ok (.aload_n 0, 1) := by decide +kernel
theorem dX0_init_32 : decode cX0_init 32 = .ok (.bipush 24, 2) := by decide +kernel
theorem dX0_init_34 : decode cX0_init 34 = .ok (.newarray .int, 2) := by decide +kernel
theorem dX0_init_36 : decode cX0_init 36 = .ok (.putfield 26, 3) := by decide +kernel
theorem dX0_init_39 : decode cX0_init 39 = .ok (.aload_n 0, 1) := by decide +kernel
theorem dX0_init_40 : decode cX0_init 40 = .ok (.bipush 24, 2) := by decide +kernel
theorem dX0_init_42 : decode cX0_init 42 = .ok (.newarray .int, 2) := by decide +kernel
theorem dX0_init_44 : decode cX0_init 44 = .ok (.putfield 29, 3) := by decide +kernel
theorem dX0_init_47 : decode cX0_init 47 = .ok (.aload_n 0, 1) := by decide +kernel
theorem dX0_init_48 : decode cX0_init 48 = .ok (.bipush 24, 2) := by decide +kernel
theorem dX0_init_50 : decode cX0_init 50 = .ok (.newarray .boolean, 2) := by decide +kernel
theorem dX0_init_52 : decode cX0_init 52 = .ok (.putfield 32, 3) := by decide +kernel
theorem dX0_init_55 : decode cX0_init 55 = .ok (.aload_n 0, 1) := by decide +kernel
theorem dX0_init_56 : decode cX0_init 56 = .ok (.sipush 200, 3) := by decide +kernel
theorem dX0_init_59 : decode cX0_init 59 = .ok (.newarray .boolean, 2) := by decide +kernel
theorem dX0_init_61 : decode cX0_init 61 = .ok (.putfield 36, 3) := by decide +kernel
theorem dX0_init_64 : decode cX0_init 64 = .ok (.return_, 1) := by decide +kernel
theorem dX0_isPossible_0 : decode cX0_isPossible 0 = .ok (.aload_n 0, 1) := by decide +kernel
theorem dX0_isPossible_1 : decode cX0_isPossible 1 = .ok (.getfield 15, 3) := by decide +kernel
theorem dX0_isPossible_4 : decode cX0_isPossible 4 = .ok (.iload_n 1, 1) := by decide +kernel
theorem dX0_isPossible_5 : decode cX0_isPossible 5 = .ok (.invokevirtual 39, 3) := by decide +kernel
theorem dX0_isPossible_8 : decode cX0_isPossible 8 = .ok (.ifCond .ne 5, 3) := by decide +kernel
theorem dX0_isPossible_11 : decode cX0_isPossible 11 = .ok (.iconst 0, 1) := by decide +kernel
theorem dX0_isPossible_12 : decode cX0_isPossible 12 = .ok (.ireturn, 1) := by decide +kernel
theorem dX0_isPossible_13 : decode cX0_isPossible 13 = .ok (.aload_n 0, 1) := by decide +kernel
theorem dX0_isPossible_14 : decode cX0_isPossible 14 = .ok (.iload_n 1, 1) := by decide +kernel
theorem dX0_isPossible_15 : decode cX0_isPossible 15 = .ok (.invokevirtual 45, 3) := by decide +kernel
theorem dX0_isPossible_18 : decode cX0_isPossible 18 = .ok (.iconst 0, 1) := by decide +kernel
theorem dX0_isPossible_19 : decode cX0_isPossible 19 = .ok (.istore_n 3, 1) := by decide +kernel
theorem dX0_isPossible_20 : decode cX0_isPossible 20 = .ok (.iload_n 3, 1) := by decide +kernel
theorem dX0_isPossible_21 : decode cX0_isPossible 21 = .ok (.iload_n 1, 1) := by decide +kernel
theorem dX0_isPossible_22 : decode cX0_isPossible 22 = .ok (.if_icmp .gt 70, 3) := by decide +kernel
theorem dX0_isPossible_25 : decode cX0_isPossible 25 = .ok (.iload_n 3, 1) := by decide +kernel
theorem dX0_isPossible_26 : decode cX0_isPossible 26 = .ok (.bipush 24, 2) := by decide +kernel
theorem dX0_isPossible_28 : decode cX0_isPossible 28 = .ok (.if_icmp .ge 64, 3) := by decide +kernel
theorem dX0_isPossible_31 : decode cX0_isPossible 31 = .ok (.aload_n 0, 1) := by decide +kernel
theorem dX0_isPossible_32 : decode cX0_isPossible 32 = .ok (.getfield 32, 3) := by decide +kernel
theorem dX0_isPossible_35 : decode cX0_isPossible 35 = .ok (.iload_n 3, 1) := by decide +kernel
theorem dX0_isPossible_36 : decode cX0_isPossible 36 = .ok (.baload, 1) := by decide +kernel
theorem dX0_isPossible_37 : decode cX0_isPossible 37 = .ok (.ifCond .eq 49, 3) := by decide +kernel
theorem dX0_isPossible_40 : decode cX0_isPossible 40 = .ok (.aload_n 0, 1) := by decide +kernel
theorem dX0_isPossible_41 : decode cX0_isPossible 41 = .ok (.getfield 29, 3) := by decide +kernel
theorem dX0_isPossible_44 : decode cX0_isPossible 44 = .ok (.iload_n 3, 1) := by decide +kernel
theorem dX0_isPossible_45 : decode cX0_isPossible 45 = .ok (.aload_n 0, 1) := by decide +kernel
theorem dX0_isPossible_46 : decode cX0_isPossible 46 = .ok (.getfield 9, 3) := by decide +kernel
theorem dX0_isPossible_49 : decode cX0_isPossible 49 = .ok (.invokevirtual 49, 3) := by decide +kernel
theorem dX0_isPossible_52 : decode cX0_isPossible 52 = .ok (.iastore, 1) := by decide +kernel
theorem dX0_isPossible_53 : decode cX0_isPossible 53 = .ok (.aload_n 0, 1) := by decide +kernel
theorem dX0_isPossible_54 : decode cX0_isPossible 54 = .ok (.getfield 23, 3) := by decide +kernel
theorem dX0_isPossible_57 : decode cX0_isPossible 57 = .ok (.iload_n 3, 1) := by decide +kernel
theorem dX0_isPossible_58 : decode cX0_isPossible 58 = .ok (.iconst 0, 1) := by decide +kernel
theorem dX0_isPossible_59 : decode cX0_isPossible 59 = .ok (.iastore, 1) := by decide +kernel
theorem dX0_isPossible_60 : decode cX0_isPossible 60 = .ok (.aload_n 0, 1) := by decide +kernel
theorem dX0_isPossible_61 : decode cX0_isPossible 61 = .ok (.iload_n 3, 1) := by decide +kernel
theorem dX0_isPossible_62 : decode cX0_isPossible 62 = .ok (.aload_n 0, 1) := by decide +kernel
theorem dX0_isPossible_63 : decode cX0_isPossible 63 = .ok (.iload_n 3, 1) := by decide +kernel
theorem dX0_isPossible_64 : decode cX0_isPossible 64 = .ok (.invokevirtual 55, 3) := by decide +kernel
theorem dX0_isPossible_67 : decode cX0_isPossible 67 = .ok (.ifCond .eq 15, 3) := by decide +kernel
theorem dX0_isPossible_70 : decode cX0_isPossible 70 = .ok (.aload_n 0, 1) := by decide +kernel
theorem dX0_isPossible_71 : decode cX0_isPossible 71 = .ok (.iload_n 3, 1) := by decide +kernel
theorem dX0_isPossible_72 : decode cX0_isPossible 72 = .ok (.invokevirtual 58, 3) := by decide +kernel
theorem dX0_isPossible_75 : decode cX0_isPossible 75 = .ok (.ifCond .eq 7, 3) := by decide +kernel
theorem dX0_isPossible_78 : decode cX0_isPossible 78 = .ok (.iconst 1, 1) := by decide +kernel
theorem dX0_isPossible_79 : decode cX0_isPossible 79 = .ok (.goto 4, 3) := by decide +kernel
theorem dX0_isPossible_82 : decode cX0_isPossible 82 = .ok (.iconst 0, 1) := by decide +kernel
theorem dX0_isPossible_83 : decode cX0_isPossible 83 = .ok (.invokevirtual 61, 3) := by decide +kernel
theorem dX0_isPossible_86 : decode cX0_isPossible 86 = .ok (.iinc 3 1, 3) := by decide +kernel
theorem dX0_isPossible_89 : decode cX0_isPossible 89 = .ok (.goto (-69), 3) := by decide +kernel
theorem dX0_isPossible_92 : decode cX0_isPossible 92 = .ok (.aload_n 0, 1) := by decide +kernel
theorem dX0_isPossible_93 : decode cX0_isPossible 93 = .ok (.iload_n 1, 1) := by decide +kernel
theorem dX0_isPossible_94 : decode cX0_isPossible 94 = .ok (.invokevirtual 65, 3) := by decide +kernel
theorem dX0_isPossible_97 : decode cX0_isPossible 97 = .ok (.iconst (-1), 1) := by decide +kernel
theorem dX0_isPossible_98 : decode cX0_isPossible 98 = .ok (.if_icmp .eq 16, 3) := by decide +kernel
theorem dX0_isPossible_101 : decode cX0_isPossible 101 = .ok (.aload_n 0, 1) := by decide +kernel
theorem dX0_isPossible_102 : decode cX0_isPossible 102 = .ok (.iload_n 1, 1) := by decide +kernel
theorem dX0_isPossible_103 : decode cX0_isPossible 103 = .ok (.invokevirtual 69, 3) := by decide +kernel
theorem dX0_isPossible_106 : decode cX0_isPossible 106 = .ok (.iload_n 2, 1) := by decide +kernel
theorem dX0_isPossible_107 : decode cX0_isPossible 107 = .ok (.if_icmp .gt 7, 3) := by decide +kernel
theorem dX0_isPossible_110 : decode cX0_isPossible 110 = .ok (.iconst 1, 1) := by decide +kernel
theorem dX0_isPossible_111 : decode cX0_isPossible 111 = .ok (.goto 4, 3) := by decide +kernel
theorem dX0_isPossible_114 : decode cX0_isPossible 114 = .ok (.iconst 0, 1) := by decide +kernel
theorem dX0_isPossible_115 : decode cX0_isPossible 115 = .ok (.ireturn, 1) := by decide +kernel
theorem dX0_countOf_0 : decode cX0_countOf 0 = .ok (.iload_n 1, 1) := by decide +kernel
theorem dX0_countOf_1 : decode cX0_countOf 1 = .ok (.ifCond .lt 18, 3) := by decide +kernel
theorem dX0_countOf_4 : decode cX0_countOf 4 = .ok (.iload_n 1, 1) := by decide +kernel
theorem dX0_countOf_5 : decode cX0_countOf 5 = .ok (.bipush 24, 2) := by decide +kernel
theorem dX0_countOf_7 : decode cX0_countOf 7 = .ok (.if_icmp .ge 12, 3) := by decide +kernel
theorem dX0_countOf_10 : decode cX0_countOf 10 = .ok (.aload_n 0, 1) := by decide +kernel
theorem dX0_countOf_11 : decode cX0_countOf 11 = .ok (.getfield 23, 3) := by decide +kernel
theorem dX0_countOf_14 : decode cX0_countOf 14 = .ok (.iload_n 1, 1) := by decide +kernel
theorem dX0_countOf_15 : decode cX0_countOf 15 = .ok (.iaload, 1) := by decide +kernel
theorem dX0_countOf_16 : decode cX0_countOf 16 = .ok (.goto 4, 3) := by decide +kernel
theorem dX0_countOf_19 : decode cX0_countOf 19 = .ok (.iconst (-1), 1) := by decide +kernel
theorem dX0_countOf_20 : decode cX0_countOf 20 = .ok (.ireturn, 1) := by decide +kernel
theorem dX0_stepsOf_0 : decode cX0_stepsOf 0 = .ok (.iload_n 1, 1) := by decide +kernel
theorem dX0_stepsOf_1 : decode cX0_stepsOf 1 = .ok (.ifCond .lt 18, 3) := by decide +kernel
theorem dX0_stepsOf_4 : decode cX0_stepsOf 4 = .ok (.iload_n 1, 1) := by decide +kernel
theorem dX0_stepsOf_5 : decode cX0_stepsOf 5 = .ok (.bipush 24, 2) := by decide +kernel
theorem dX0_stepsOf_7 : decode cX0_stepsOf 7 = .ok (.if_icmp .ge 12, 3) := by decide +kernel
theorem dX0_stepsOf_10 : decode cX0_stepsOf 10 = .ok (.aload_n 0, 1) := by decide +kernel
theorem dX0_stepsOf_11 : decode cX0_stepsOf 11 = .ok (.getfield 26, 3) := by decide +kernel
theorem dX0_stepsOf_14 : decode cX0_stepsOf 14 = .ok (.iload_n 1, 1) := by decide +kernel
theorem dX0_stepsOf_15 : decode cX0_stepsOf 15 = .ok (.iaload, 1) := by decide +kernel
theorem dX0_stepsOf_16 : decode cX0_stepsOf 16 = .ok (.goto 4, 3) := by decide +kernel
theorem dX0_stepsOf_19 : decode cX0_stepsOf 19 = .ok (.iconst 0, 1) := by decide +kernel
theorem dX0_stepsOf_20 : decode cX0_stepsOf 20 = .ok (.ireturn, 1) := by decide +kernel
theorem dX0_valueAt_0 : decode cX0_valueAt 0 = .ok (.iload_n 1, 1) := by decide +kernel
theorem dX0_valueAt_1 : decode cX0_valueAt 1 = .ok (.sipush 1200, 3) := by decide +kernel
theorem dX0_valueAt_4 : decode cX0_valueAt 4 = .ok (.imul, 1) := by decide +kernel
theorem dX0_valueAt_5 : decode cX0_valueAt 5 = .ok (.iload_n 2, 1) := by decide +kernel
theorem dX0_valueAt_6 : decode cX0_valueAt 6 = .ok (.bipush 6, 2) := by decide +kernel
theorem dX0_valueAt_8 : decode cX0_valueAt 8 = .ok (.imul, 1) := by decide +kernel
theorem dX0_valueAt_9 : decode cX0_valueAt 9 = .ok (.iadd, 1) := by decide +kernel
theorem dX0_valueAt_10 : decode cX0_valueAt 10 = .ok (.iload_n 3, 1) := by decide +kernel
theorem dX0_valueAt_11 : decode cX0_valueAt 11 = .ok (.iadd, 1) := by decide +kernel
theorem dX0_valueAt_12 : decode cX0_valueAt 12 = .ok (.istore 4, 2) := by decide +kernel
theorem dX0_valueAt_14 : decode cX0_valueAt 14 = .ok (.iload 4, 2) := by decide +kernel
theorem dX0_valueAt_16 : decode cX0_valueAt 16 = .ok (.ifCond .lt 23, 3) := by decide +kernel
theorem dX0_valueAt_19 : decode cX0_valueAt 19 = .ok (.iload 4, 2) := by decide +kernel
theorem dX0_valueAt_21 : decode cX0_valueAt 21 = .ok (.aload_n 0, 1) := by decide +kernel
theorem dX0_valueAt_22 : decode cX0_valueAt 22 = .ok (.getfield 19, 3) := by decide +kernel
theorem dX0_valueAt_25 : decode cX0_valueAt 25 = .ok (.arraylength, 1) := by decide +kernel
theorem dX0_valueAt_26 : decode cX0_valueAt 26 = .ok (.if_icmp .ge 13, 3) := by decide +kernel
theorem dX0_valueAt_29 : decode cX0_valueAt 29 = .ok (.aload_n 0, 1) := by decide +kernel
theorem dX0_valueAt_30 : decode cX0_valueAt 30 = .ok (.getfield 19, 3) := by decide +kernel
theorem dX0_valueAt_33 : decode cX0_valueAt 33 = .ok (.iload 4, 2) := by decide +kernel
theorem dX0_valueAt_35 : decode cX0_valueAt 35 = .ok (.iaload, 1) := by decide +kernel
theorem dX0_valueAt_36 : decode cX0_valueAt 36 = .ok (.goto 6, 3) := by decide +kernel
theorem dX0_valueAt_39 : decode cX0_valueAt 39 = .ok (.sipush (-1000), 3) := by decide +kernel
theorem dX0_valueAt_42 : decode cX0_valueAt 42 = .ok (.ireturn, 1) := by decide +kernel
theorem dX0_findRow_0 : decode cX0_findRow 0 = .ok (.aload_n 0, 1) := by decide +kernel
theorem dX0_findRow_1 : decode cX0_findRow 1 = .ok (.iload_n 1, 1) := by decide +kernel
theorem dX0_findRow_2 : decode cX0_findRow 2 = .ok (.invokevirtual 65, 3) := by decide +kernel
theorem dX0_findRow_5 : decode cX0_findRow 5 = .ok (.istore 4, 2) := by decide +kernel
theorem dX0_findRow_7 : decode cX0_findRow 7 = .ok (.iload_n 1, 1) := by decide +kernel
theorem dX0_findRow_8 : decode cX0_findRow 8 = .ok (.sipush 1200, 3) := by decide +kernel
theorem dX0_findRow_11 : decode cX0_findRow 11 = .ok (.imul, 1) := by decide +kernel
theorem dX0_findRow_12 : decode cX0_findRow 12 = .ok (.iload_n 2, 1) := by decide +kernel
theorem dX0_findRow_13 : decode cX0_findRow 13 = .ok (.iadd, 1) := by decide +kernel
theorem dX0_findRow_14 : decode cX0_findRow 14 = .ok (.istore 5, 2) := by decide +kernel
theorem dX0_findRow_16 : decode cX0_findRow 16 = .ok (.iconst 0, 1) := by decide +kernel
theorem dX0_findRow_17 : decode cX0_findRow 17 = .ok (.istore 6, 2) := by decide +kernel
theorem dX0_findRow_19 : decode cX0_findRow 19 = .ok (.iload 6, 2) := by decide +kernel
theorem dX0_findRow_21 : decode cX0_findRow 21 = .ok (.iload 4, 2) := by decide +kernel
theorem dX0_findRow_23 : decode cX0_findRow 23 = .ok (.if_icmp .ge 41, 3) := by decide +kernel
theorem dX0_findRow_26 : decode cX0_findRow 26 = .ok (.iload 5, 2) := by decide +kernel
theorem dX0_findRow_28 : decode cX0_findRow 28 = .ok (.ifCond .lt 36, 3) := by decide +kernel
theorem dX0_findRow_31 : decode cX0_findRow 31 = .ok (.iload 5, 2) := by decide +kernel
theorem dX0_findRow_33 : decode cX0_findRow 33 = .ok (.aload_n 0, 1) := by decide +kernel
theorem dX0_findRow_34 : decode cX0_findRow 34 = .ok (.getfield 19, 3) := by decide +kernel
theorem dX0_findRow_37 : decode cX0_findRow 37 = .ok (.arraylength, 1) := by decide +kernel
theorem dX0_findRow_38 : decode cX0_findRow 38 = .ok (.if_icmp .ge 26, 3) := by decide +kernel
theorem dX0_findRow_41 : decode cX0_findRow 41 = .ok (.aload_n 0, 1) := by decide +kernel
theorem dX0_findRow_42 : decode cX0_findRow 42 = .ok (.getfield 19, 3) := by decide +kernel
theorem dX0_findRow_45 : decode cX0_findRow 45 = .ok (.iload 5, 2) := by decide +kernel
theorem dX0_findRow_47 : decode cX0_findRow 47 = .ok (.iaload, 1) := by decide +kernel
theorem dX0_findRow_48 : decode cX0_findRow 48 = .ok (.iload_n 3, 1) := by decide +kernel
theorem dX0_findRow_49 : decode cX0_findRow 49 = .ok (.if_icmp .ne 6, 3) := by decide +kernel
theorem dX0_findRow_52 : decode cX0_findRow 52 = .ok (.iload 6, 2) := by decide +kernel
theorem dX0_findRow_54 : decode cX0_findRow 54 = .ok (.ireturn, 1) := by decide +kernel
theorem dX0_findRow_55 : decode cX0_findRow 55 = .ok (.iinc 5 6, 3) := by decide +kernel
theorem dX0_findRow_58 : decode cX0_findRow 58 = .ok (.iinc 6 1, 3) := by decide +kernel
theorem dX0_findRow_61 : decode cX0_findRow 61 = .ok (.goto (-42), 3) := by decide +kernel
theorem dX0_findRow_64 : decode cX0_findRow 64 = .ok (.iconst (-1), 1) := by decide +kernel
theorem dX0_findRow_65 : decode cX0_findRow 65 = .ok (.ireturn, 1) := by decide +kernel
theorem dX0_haveSameRows_0 : decode cX0_haveSameRows 0 = .ok (.aload_n 0, 1) := by decide +kernel
theorem dX0_haveSameRows_1 : decode cX0_haveSameRows 1 = .ok (.getfield 15, 3) := by decide +kernel
theorem dX0_haveSameRows_4 : decode cX0_haveSameRows 4 = .ok (.iload_n 1, 1) := by decide +kernel
theorem dX0_haveSameRows_5 : decode cX0_haveSameRows 5 = .ok (.invokevirtual 72, 3) := by decide +kernel
theorem dX0_haveSameRows_8 : decode cX0_haveSameRows 8 = .ok (.aload_n 0, 1) := by decide +kernel
theorem dX0_haveSameRows_9 : decode cX0_haveSameRows 9 = .ok (.getfield 15, 3) := by decide +kernel
theorem dX0_haveSameRows_12 : decode cX0_haveSameRows 12 = .ok (.iload_n 2, 1) := by decide +kernel
theorem dX0_haveSameRows_13 : decode cX0_haveSameRows 13 = .ok (.invokevirtual 72, 3) := by decide +kernel
theorem dX0_haveSameRows_16 : decode cX0_haveSameRows 16 = .ok (.if_icmp .ne 16, 3) := by decide +kernel
theorem dX0_haveSameRows_19 : decode cX0_haveSameRows 19 = .ok (.aload_n 0, 1) := by decide +kernel
theorem dX0_haveSameRows_20 : decode cX0_haveSameRows 20 = .ok (.iload_n 1, 1) := by decide +kernel
theorem dX0_haveSameRows_21 : decode cX0_haveSameRows 21 = .ok (.invokevirtual 65, 3) := by decide +kernel
theorem dX0_haveSameRows_24 : decode cX0_haveSameRows 24 = .ok (.aload_n 0, 1) := by decide +kernel
theorem dX0_haveSameRows_25 : decode cX0_haveSameRows 25 = .ok (.iload_n 2, 1) := by decide +kernel
theorem dX0_haveSameRows_26 : decode cX0_haveSameRows 26 = .ok (.invokevirtual 65, 3) := by decide +kernel
theorem dX0_haveSameRows_29 : decode cX0_haveSameRows 29 = .ok (.if_icmp .eq 5, 3) := by decide +kernel
theorem dX0_haveSameRows_32 : decode cX0_haveSameRows 32 = .ok (.iconst 0, 1) := by decide +kernel
theorem dX0_haveSameRows_33 : decode cX0_haveSameRows 33 = .ok (.ireturn, 1) := by decide +kernel
theorem dX0_haveSameRows_34 : decode cX0_haveSameRows 34 = .ok (.aload_n 0, 1) := by decide +kernel
theorem dX0_haveSameRows_35 : decode cX0_haveSameRows 35 = .ok (.invokevirtual 75, 3) := by decide +kernel
theorem dX0_haveSameRows_38 : decode cX0_haveSameRows 38 = .ok (.iconst 0, 1) := by decide +kernel
theorem dX0_haveSameRows_39 : decode cX0_haveSameRows 39 = .ok (.istore_n 3, 1) := by decide +kernel
theorem dX0_haveSameRows_40 : decode cX0_haveSameRows 40 = .ok (.iload_n 3, 1) := by decide +kernel
theorem dX0_haveSameRows_41 : decode cX0_haveSameRows 41 = .ok (.aload_n 0, 1) := by decide +kernel
theorem dX0_haveSameRows_42 : decode cX0_haveSameRows 42 = .ok (.iload_n 2, 1) := by decide +kernel
theorem dX0_haveSameRows_43 : decode cX0_haveSameRows 43 = .ok (.invokevirtual 65, 3) := by decide +kernel
theorem dX0_haveSameRows_46 : decode cX0_haveSameRows 46 = .ok (.if_icmp .ge 21, 3) := by decide +kernel
theorem dX0_haveSameRows_49 : decode cX0_haveSameRows 49 = .ok (.aload_n 0, 1) := by decide +kernel
theorem dX0_haveSameRows_50 : decode cX0_haveSameRows 50 = .ok (.iload_n 1, 1) := by decide +kernel
theorem dX0_haveSameRows_51 : decode cX0_haveSameRows 51 = .ok (.iload_n 2, 1) := by decide +kernel
theorem dX0_haveSameRows_52 : decode cX0_haveSameRows 52 = .ok (.iload_n 3, 1) := by decide +kernel
theorem dX0_haveSameRows_53 : decode cX0_haveSameRows 53 = .ok (.invokevirtual 78, 3) := by decide +kernel
theorem dX0_haveSameRows_56 : decode cX0_haveSameRows 56 = .ok (.ifCond .ne 5, 3) := by decide +kernel
theorem dX0_haveSameRows_59 : decode cX0_haveSameRows 59 = .ok (.iconst 0, 1) := by decide +kernel
theorem dX0_haveSameRows_60 : decode cX0_haveSameRows 60 = .ok (.ireturn, 1) := by decide +kernel
theorem dX0_haveSameRows_61 : decode cX0_haveSameRows 61 = .ok (.iinc 3 1, 3) := by decide +kernel
theorem dX0_haveSameRows_64 : decode cX0_haveSameRows 64 = .ok (.goto (-24), 3) := by decide +kernel
theorem dX0_haveSameRows_67 : decode cX0_haveSameRows 67 = .ok (.iconst 1, 1) := by decide +kernel
theorem dX0_haveSameRows_68 : decode cX0_haveSameRows 68 = .ok (.ireturn, 1) := by decide +kernel
theorem dX0_markWanted_0 : decode cX0_markWanted 0 = .ok (.iconst 0, 1) := by decide +kernel
theorem dX0_markWanted_1 : decode cX0_markWanted 1 = .ok (.istore_n 2, 1) := by decide +kernel
theorem dX0_markWanted_2 : decode cX0_markWanted 2 = .ok (.iload_n 2, 1) := by decide +kernel
theorem dX0_markWanted_3 : decode cX0_markWanted 3 = .ok (.bipush 24, 2) := by decide +kernel
theorem dX0_markWanted_5 : decode cX0_markWanted 5 = .ok (.if_icmp .ge 25, 3) := by decide +kernel
theorem dX0_markWanted_8 : decode cX0_markWanted 8 = .ok (.aload_n 0, 1) := by decide +kernel
theorem dX0_markWanted_9 : decode cX0_markWanted 9 = .ok (.getfield 32, 3) := by decide +kernel
theorem dX0_markWanted_12 : decode cX0_markWanted 12 = .ok (.iload_n 2, 1) := by decide +kernel
theorem dX0_markWanted_13 : decode cX0_markWanted 13 = .ok (.iload_n 2, 1) := by decide +kernel
theorem dX0_markWanted_14 : decode cX0_markWanted 14 = .ok (.iload_n 1, 1) := by decide +kernel
theorem dX0_markWanted_15 : decode cX0_markWanted 15 = .ok (.if_icmp .ne 7, 3) := by decide +kernel
theorem dX0_markWanted_18 : decode cX0_markWanted 18 = .ok (.iconst 1, 1) := by decide +kernel
theorem dX0_markWanted_19 : decode cX0_markWanted 19 = .ok (.goto 4, 3) := by decide +kernel
theorem dX0_markWanted_22 : decode cX0_markWanted 22 = .ok (.iconst 0, 1) := by decide +kernel
theorem dX0_markWanted_23 : decode cX0_markWanted 23 = .ok (.bastore, 1) := by decide +kernel
theorem dX0_markWanted_24 : decode cX0_markWanted 24 = .ok (.iinc 2 1, 3) := by decide +kernel
theorem dX0_markWanted_27 : decode cX0_markWanted 27 = .ok (.goto (-25), 3) := by decide +kernel
theorem dX0_markWanted_30 : decode cX0_markWanted 30 = .ok (.bipush 23, 2) := by decide +kernel
theorem dX0_markWanted_32 : decode cX0_markWanted 32 = .ok (.istore_n 2, 1) := by decide +kernel
theorem dX0_markWanted_33 : decode cX0_markWanted 33 = .ok (.iload_n 2, 1) := by decide +kernel
theorem dX0_markWanted_34 : decode cX0_markWanted 34 = .ok (.ifCond .lt 89, 3) := by decide +kernel
theorem dX0_markWanted_37 : decode cX0_markWanted 37 = .ok (.aload_n 0, 1) := by decide +kernel
theorem dX0_markWanted_38 : decode cX0_markWanted 38 = .ok (.getfield 32, 3) := by decide +kernel
theorem dX0_markWanted_41 : decode cX0_markWanted 41 = .ok (.iload_n 2, 1) := by decide +kernel
theorem dX0_markWanted_42 : decode cX0_markWanted 42 = .ok (.aload_n 0, 1) := by decide +kernel
theorem dX0_markWanted_43 : decode cX0_markWanted 43 = .ok (.getfield 32, 3) := by decide +kernel
theorem dX0_markWanted_46 : decode cX0_markWanted 46 = .ok (.iload_n 2, 1) := by decide +kernel
theorem dX0_markWanted_47 : decode cX0_markWanted 47 = .ok (.baload, 1) := by decide +kernel
theorem dX0_markWanted_48 : decode cX0_markWanted 48 = .ok (.ifCond .eq 23, 3) := by decide +kernel
theorem dX0_markWanted_51 : decode cX0_markWanted 51 = .ok (.aload_n 0, 1) := by decide +kernel
theorem dX0_markWanted_52 : decode cX0_markWanted 52 = .ok (.getfield 29, 3) := by decide +kernel
theorem dX0_markWanted_55 : decode cX0_markWanted 55 = .ok (.iload_n 2, 1) := by decide +kernel
theorem dX0_markWanted_56 : decode cX0_markWanted 56 = .ok (.iaload, 1) := by decide +kernel
theorem dX0_markWanted_57 : decode cX0_markWanted 57 = .ok (.aload_n 0, 1) := by decide +kernel
theorem dX0_markWanted_58 : decode cX0_markWanted 58 = .ok (.getfield 9, 3) := by decide +kernel
theorem dX0_markWanted_61 : decode cX0_markWanted 61 = .ok (.invokevirtual 49, 3) := by decide +kernel
theorem dX0_markWanted_64 : decode cX0_markWanted 64 = .ok (.if_icmp .eq 7, 3) := by decide +kernel
theorem dX0_markWanted_67 : decode cX0_markWanted 67 = .ok (.iconst 1, 1) := by decide +kernel
theorem dX0_markWanted_68 : decode cX0_markWanted 68 = .ok (.goto 4, 3) := by decide +kernel
theorem dX0_markWanted_71 : decode cX0_markWanted 71 = .ok (.iconst 0, 1) := by decide +kernel
theorem dX0_markWanted_72 : decode cX0_markWanted 72 = .ok (.bastore, 1) := by decide +kernel
theorem dX0_markWanted_73 : decode cX0_markWanted 73 = .ok (.aload_n 0, 1) := by decide +kernel
theorem dX0_markWanted_74 : decode cX0_markWanted 74 = .ok (.getfield 32, 3) := by decide +kernel
theorem dX0_markWanted_77 : decode cX0_markWanted 77 = .ok (.iload_n 2, 1) := by decide +kernel
theorem dX0_markWanted_78 : decode cX0_markWanted 78 = .ok (.baload, 1) := by decide +kernel
theorem dX0_markWanted_79 : decode cX0_markWanted 79 = .ok (.ifCond .eq 38, 3) := by decide +kernel
theorem dX0_markWanted_82 : decode cX0_markWanted 82 = .ok (.aload_n 0, 1) := by decide +kernel
theorem dX0_markWanted_83 : decode cX0_markWanted 83 = .ok (.getfield 15, 3) := by decide +kernel
theorem dX0_markWanted_86 : decode cX0_markWanted 86 = .ok (.iload_n 2, 1) := by decide +kernel
theorem dX0_markWanted_87 : decode cX0_markWanted 87 = .ok (.invokevirtual 82, 3) := by decide +kernel
theorem dX0_markWanted_90 : decode cX0_markWanted 90 = .ok (.ifCond .eq 27, 3) := by decide +kernel
theorem dX0_markWanted_93 : decode cX0_markWanted 93 = .ok (.aload_n 0, 1) := by decide +kernel
theorem dX0_markWanted_94 : decode cX0_markWanted 94 = .ok (.aload_n 0, 1) := by decide +kernel
theorem dX0_markWanted_95 : decode cX0_markWanted 95 = .ok (.getfield 15, 3) := by decide +kernel
theorem dX0_markWanted_98 : decode cX0_markWanted 98 = .ok (.iload_n 2, 1) := by decide +kernel
theorem dX0_markWanted_99 : decode cX0_markWanted 99 = .ok (.invokevirtual 85, 3) := by decide +kernel
theorem dX0_markWanted_102 : decode cX0_markWanted 102 = .ok (.invokevirtual 88, 3) := by decide +kernel
theorem dX0_markWanted_105 : decode cX0_markWanted 105 = .ok (.aload_n 0, 1) := by decide +kernel
theorem dX0_markWanted_106 : decode cX0_markWanted 106 = .ok (.aload_n 0, 1) := by decide +kernel
theorem dX0_markWanted_107 : decode cX0_markWanted 107 = .ok (.getfield 15, 3) := by decide +kernel
theorem dX0_markWanted_110 : decode cX0_markWanted 110 = .ok (.iload_n 2, 1) := by decide +kernel
theorem dX0_markWanted_111 : decode cX0_markWanted 111 = .ok (.invokevirtual 91, 3) := by decide +kernel
theorem dX0_markWanted_114 : decode cX0_markWanted 114 = .ok (.invokevirtual 88, 3) := by decide +kernel
theorem dX0_markWanted_117 : decode cX0_markWanted 117 = .ok (.iinc 2 (-1), 3) := by decide +kernel
theorem dX0_markWanted_120 : decode cX0_markWanted 120 = .ok (.goto (-87), 3) := by decide +kernel
theorem dX0_markWanted_123 : decode cX0_markWanted 123 = .ok (.return_, 1) := by decide +kernel
theorem dX0_want_0 : decode cX0_want 0 = .ok (.iload_n 1, 1) := by decide +kernel
theorem dX0_want_1 : decode cX0_want 1 = .ok (.ifCond .lt 16, 3) := by decide +kernel
theorem dX0_want_4 : decode cX0_want 4 = .ok (.iload_n 1, 1) := by decide +kernel
theorem dX0_want_5 : decode cX0_want 5 = .ok (.bipush 24, 2) := by decide +kernel
theorem dX0_want_7 : decode cX0_want 7 = .ok (.if_icmp .ge 10, 3) := by decide +kernel
theorem dX0_want_10 : decode cX0_want 10 = .ok (.aload_n 0, 1) := by decide +kernel
theorem dX0_want_11 : decode cX0_want 11 = .ok (.getfield 32, 3) := by decide +kernel
theorem dX0_want_14 : decode cX0_want 14 = .ok (.iload_n 1, 1) := by decide +kernel
theorem dX0_want_15 : decode cX0_want 15 = .ok (.iconst 1, 1) := by decide +kernel
theorem dX0_want_16 : decode cX0_want 16 = .ok (.bastore, 1) := by decide +kernel
theorem dX0_want_17 : decode cX0_want 17 = .ok (.return_, 1) := by decide +kernel
theorem dX0_finish_0 : decode cX0_finish 0 = .ok (.iload_n 1, 1) := by decide +kernel
theorem dX0_finish_1 : decode cX0_finish 1 = .ok (.ifCond .lt 9, 3) := by decide +kernel
theorem dX0_finish_4 : decode cX0_finish 4 = .ok (.iload_n 1, 1) := by decide +kernel
theorem dX0_finish_5 : decode cX0_finish 5 = .ok (.bipush 24, 2) := by decide +kernel
theorem dX0_finish_7 : decode cX0_finish 7 = .ok (.if_icmp .lt 4, 3) := by decide +kernel
theorem dX0_finish_10 : decode cX0_finish 10 = .ok (.return_, 1) := by decide +kernel
theorem dX0_finish_11 : decode cX0_finish 11 = .ok (.iload_n 2, 1) := by decide +kernel
theorem dX0_finish_12 : decode cX0_finish 12 = .ok (.ifCond .ne 10, 3) := by decide +kernel
theorem dX0_finish_15 : decode cX0_finish 15 = .ok (.aload_n 0, 1) := by decide +kernel
theorem dX0_finish_16 : decode cX0_finish 16 = .ok (.getfield 23, 3) := by decide +kernel
theorem dX0_finish_19 : decode cX0_finish 19 = .ok (.iload_n 1, 1) := by decide +kernel
theorem dX0_finish_20 : decode cX0_finish 20 = .ok (.iconst (-1), 1) := by decide +kernel
theorem dX0_finish_21 : decode cX0_finish 21 = .ok (.iastore, 1) := by decide +kernel
theorem dX0_finish_22 : decode cX0_finish 22 = .ok (.aload_n 0, 1) := by decide +kernel
theorem dX0_finish_23 : decode cX0_finish 23 = .ok (.getfield 23, 3) := by decide +kernel
theorem dX0_finish_26 : decode cX0_finish 26 = .ok (.iload_n 1, 1) := by decide +kernel
theorem dX0_finish_27 : decode cX0_finish 27 = .ok (.iaload, 1) := by decide +kernel
theorem dX0_finish_28 : decode cX0_finish 28 = .ok (.istore_n 3, 1) := by decide +kernel
theorem dX0_finish_29 : decode cX0_finish 29 = .ok (.aload_n 0, 1) := by decide +kernel
theorem dX0_finish_30 : decode cX0_finish 30 = .ok (.getfield 15, 3) := by decide +kernel
theorem dX0_finish_33 : decode cX0_finish 33 = .ok (.iload_n 1, 1) := by decide +kernel
theorem dX0_finish_34 : decode cX0_finish 34 = .ok (.invokevirtual 82, 3) := by decide +kernel
theorem dX0_finish_37 : decode cX0_finish 37 = .ok (.ifCond .eq 31, 3) := by decide +kernel
theorem dX0_finish_40 : decode cX0_finish 40 = .ok (.iload_n 3, 1) := by decide +kernel
theorem dX0_finish_41 : decode cX0_finish 41 = .ok (.aload_n 0, 1) := by decide +kernel
theorem dX0_finish_42 : decode cX0_finish 42 = .ok (.aload_n 0, 1) := by decide +kernel
theorem dX0_finish_43 : decode cX0_finish 43 = .ok (.getfield 15, 3) := by decide +kernel
theorem dX0_finish_46 : decode cX0_finish 46 = .ok (.iload_n 1, 1) := by decide +kernel
theorem dX0_finish_47 : decode cX0_finish 47 = .ok (.invokevirtual 85, 3) := by decide +kernel
theorem dX0_finish_50 : decode cX0_finish 50 = .ok (.invokevirtual 69, 3) := by decide +kernel
theorem dX0_finish_53 : decode cX0_finish 53 = .ok (.aload_n 0, 1) := by decide +kernel
theorem dX0_finish_54 : decode cX0_finish 54 = .ok (.aload_n 0, 1) := by decide +kernel
theorem dX0_finish_55 : decode cX0_finish 55 = .ok (.getfield 15, 3) := by decide +kernel
theorem dX0_finish_58 : decode cX0_finish 58 = .ok (.iload_n 1, 1) := by decide +kernel
theorem dX0_finish_59 : decode cX0_finish 59 = .ok (.invokevirtual 91, 3) := by decide +kernel
theorem dX0_finish_62 : decode cX0_finish 62 = .ok (.invokevirtual 69, 3) := by decide +kernel
theorem dX0_finish_65 : decode cX0_finish 65 = .ok (.iadd, 1) := by decide +kernel
theorem dX0_finish_66 : decode cX0_finish 66 = .ok (.iadd, 1) := by decide +kernel
theorem dX0_finish_67 : decode cX0_finish 67 = .ok (.istore_n 3, 1) := by decide +kernel
theorem dX0_finish_68 : decode cX0_finish 68 = .ok (.aload_n 0, 1) := by decide +kernel
theorem dX0_finish_69 : decode cX0_finish 69 = .ok (.getfield 26, 3) := by decide +kernel
theorem dX0_finish_72 : decode cX0_finish 72 = .ok (.iload_n 1, 1) := by decide +kernel
theorem dX0_finish_73 : decode cX0_finish 73 = .ok (.iload_n 3, 1) := by decide +kernel
theorem dX0_finish_74 : decode cX0_finish 74 = .ok (.ldc 94, 2) := by decide +kernel
theorem dX0_finish_76 : decode cX0_finish 76 = .ok (.invokestatic 95, 3) := by decide +kernel
theorem dX0_finish_79 : decode cX0_finish 79 = .ok (.iastore, 1) := by decide +kernel
theorem dX0_finish_80 : decode cX0_finish 80 = .ok (.return_, 1) := by decide +kernel
theorem dX0_arePartsPossible_0 : decode cX0_arePartsPossible 0 = .ok (.aload_n 0, 1) := by decide +kernel
theorem dX0_arePartsPossible_1 : decode cX0_arePartsPossible 1 = .ok (.getfield 15, 3) := by decide +kernel
theorem dX0_arePartsPossible_4 : decode cX0_arePartsPossible 4 = .ok (.iload_n 1, 1) := by decide +kernel
theorem dX0_arePartsPossible_5 : decode cX0_arePartsPossible 5 = .ok (.invokevirtual 82, 3) := by decide +kernel
theorem dX0_arePartsPossible_8 : decode cX0_arePartsPossible 8 = .ok (.ifCond .ne 5, 3) := by decide +kernel
theorem dX0_arePartsPossible_11 : decode cX0_arePartsPossible 11 = .ok (.iconst 1, 1) := by decide +kernel
theorem dX0_arePartsPossible_12 : decode cX0_arePartsPossible 12 = .ok (.ireturn, 1) := by decide +kernel
theorem dX0_arePartsPossible_13 : decode cX0_arePartsPossible 13 = .ok (.aload_n 0, 1) := by decide +kernel
theorem dX0_arePartsPossible_14 : decode cX0_arePartsPossible 14 = .ok (.getfield 15, 3) := by decide +kernel
theorem dX0_arePartsPossible_17 : decode cX0_arePartsPossible 17 = .ok (.iload_n 1, 1) := by decide +kernel
theorem dX0_arePartsPossible_18 : decode cX0_arePartsPossible 18 = .ok (.invokevirtual 91, 3) := by decide +kernel
theorem dX0_arePartsPossible_21 : decode cX0_arePartsPossible 21 = .ok (.istore_n 2, 1) := by decide +kernel
theorem dX0_arePartsPossible_22 : decode cX0_arePartsPossible 22 = .ok (.aload_n 0, 1) := by decide +kernel
theorem dX0_arePartsPossible_23 : decode cX0_arePartsPossible 23 = .ok (.aload_n 0, 1) := by decide +kernel
theorem dX0_arePartsPossible_24 : decode cX0_arePartsPossible 24 = .ok (.getfield 15, 3) := by decide +kernel
theorem dX0_arePartsPossible_27 : decode cX0_arePartsPossible 27 = .ok (.iload_n 1, 1) := by decide +kernel
theorem dX0_arePartsPossible_28 : decode cX0_arePartsPossible 28 = .ok (.invokevirtual 85, 3) := by decide +kernel
theorem dX0_arePartsPossible_31 : decode cX0_arePartsPossible 31 = .ok (.invokevirtual 65, 3) := by decide +kernel
theorem dX0_arePartsPossible_34 : decode cX0_arePartsPossible 34 = .ok (.iconst (-1), 1) := by decide +kernel
theorem dX0_arePartsPossible_35 : decode cX0_arePartsPossible 35 = .ok (.if_icmp .eq 21, 3) := by decide +kernel
theorem dX0_arePartsPossible_38 : decode cX0_arePartsPossible 38 = .ok (.iload_n 2, 1) := by decide +kernel
theorem dX0_arePartsPossible_39 : decode cX0_arePartsPossible 39 = .ok (.iconst (-1), 1) := by decide +kernel
theorem dX0_arePartsPossible_40 : decode cX0_arePartsPossible 40 = .ok (.if_icmp .eq 12, 3) := by decide +kernel
theorem dX0_arePartsPossible_43 : decode cX0_arePartsPossible 43 = .ok (.aload_n 0, 1) := by decide +kernel
theorem dX0_arePartsPossible_44 : decode cX0_arePartsPossible 44 = .ok (.iload_n 2, 1) := by decide +kernel
theorem dX0_arePartsPossible_45 : decode cX0_arePartsPossible 45 = .ok (.invokevirtual 65, 3) := by decide +kernel
theorem dX0_arePartsPossible_48 : decode cX0_arePartsPossible 48 = .ok (.iconst (-1), 1) := by decide +kernel
theorem dX0_arePartsPossible_49 : decode cX0_arePartsPossible 49 = .ok (.if_icmp .eq 7, 3) := by decide +kernel
theorem dX0_arePartsPossible_52 : decode cX0_arePartsPossible 52 = .ok (.iconst 1, 1) := by decide +kernel
theorem dX0_arePartsPossible_53 : decode cX0_arePartsPossible 53 = .ok (.goto 4, 3) := by decide +kernel
theorem dX0_arePartsPossible_56 : decode cX0_arePartsPossible 56 = .ok (.iconst 0, 1) := by decide +kernel
theorem dX0_arePartsPossible_57 : decode cX0_arePartsPossible 57 = .ok (.ireturn, 1) := by decide +kernel
theorem dX0_fill_0 : decode cX0_fill 0 = .ok (.aload_n 0, 1) := by decide +kernel
theorem dX0_fill_1 : decode cX0_fill 1 = .ok (.getfield 15, 3) := by decide +kernel
theorem dX0_fill_4 : decode cX0_fill 4 = .ok (.iload_n 1, 1) := by decide +kernel
theorem dX0_fill_5 : decode cX0_fill 5 = .ok (.invokevirtual 82, 3) := by decide +kernel
theorem dX0_fill_8 : decode cX0_fill 8 = .ok (.tableswitch 97 0 4 #[36, 42, 48, 85, 91], 36) := by decide +kernel
theorem dX0_fill_44 : decode cX0_fill 44 = .ok (.aload_n 0, 1) := by decide +kernel
theorem dX0_fill_45 : decode cX0_fill 45 = .ok (.iload_n 1, 1) := by decide +kernel
theorem dX0_fill_46 : decode cX0_fill 46 = .ok (.invokevirtual 101, 3) := by decide +kernel
theorem dX0_fill_49 : decode cX0_fill 49 = .ok (.ireturn, 1) := by decide +kernel
theorem dX0_fill_50 : decode cX0_fill 50 = .ok (.aload_n 0, 1) := by decide +kernel
theorem dX0_fill_51 : decode cX0_fill 51 = .ok (.iload_n 1, 1) := by decide +kernel
theorem dX0_fill_52 : decode cX0_fill 52 = .ok (.invokevirtual 104, 3) := by decide +kernel
theorem dX0_fill_55 : decode cX0_fill 55 = .ok (.ireturn, 1) := by decide +kernel
theorem dX0_fill_56 : decode cX0_fill 56 = .ok (.aload_n 0, 1) := by decide +kernel
theorem dX0_fill_57 : decode cX0_fill 57 = .ok (.getfield 15, 3) := by decide +kernel
theorem dX0_fill_60 : decode cX0_fill 60 = .ok (.iload_n 1, 1) := by decide +kernel
theorem dX0_fill_61 : decode cX0_fill 61 = .ok (.invokevirtual 107, 3) := by decide +kernel
theorem dX0_fill_64 : decode cX0_fill 64 = .ok (.ifCond .eq 15, 3) := by decide +kernel
theorem dX0_fill_67 : decode cX0_fill 67 = .ok (.aload_n 0, 1) := by decide +kernel
theorem dX0_fill_68 : decode cX0_fill 68 = .ok (.getfield 15, 3) := by decide +kernel
theorem dX0_fill_71 : decode cX0_fill 71 = .ok (.iload_n 1, 1) := by decide +kernel
theorem dX0_fill_72 : decode cX0_fill 72 = .ok (.invokevirtual 107, 3) := by decide +kernel
theorem dX0_fill_75 : decode cX0_fill 75 = .ok (.iconst 1, 1) := by decide +kernel
theorem dX0_fill_76 : decode cX0_fill 76 = .ok (.if_icmp .ne 11, 3) := by decide +kernel
theorem dX0_fill_79 : decode cX0_fill 79 = .ok (.aload_n 0, 1) := by decide +kernel
theorem dX0_fill_80 : decode cX0_fill 80 = .ok (.iload_n 1, 1) := by decide +kernel
theorem dX0_fill_81 : decode cX0_fill 81 = .ok (.invokevirtual 110, 3) := by decide +kernel
theorem dX0_fill_84 : decode cX0_fill 84 = .ok (.goto 8, 3) := by decide +kernel
theorem dX0_fill_87 : decode cX0_fill 87 = .ok (.aload_n 0, 1) := by decide +kernel
theorem dX0_fill_88 : decode cX0_fill 88 = .ok (.iload_n 1, 1) := by decide +kernel
theorem dX0_fill_89 : decode cX0_fill 89 = .ok (.invokevirtual 113, 3) := by decide +kernel
theorem dX0_fill_92 : decode cX0_fill 92 = .ok (.ireturn, 1) := by decide +kernel
theorem dX0_fill_93 : decode cX0_fill 93 = .ok (.aload_n 0, 1) := by decide +kernel
theorem dX0_fill_94 : decode cX0_fill 94 = .ok (.iload_n 1, 1) := by decide +kernel
theorem dX0_fill_95 : decode cX0_fill 95 = .ok (.invokevirtual 116, 3) := by decide +kernel
theorem dX0_fill_98 : decode cX0_fill 98 = .ok (.ireturn, 1) := by decide +kernel
theorem dX0_fill_99 : decode cX0_fill 99 = .ok (.aload_n 0, 1) := by decide +kernel
theorem dX0_fill_100 : decode cX0_fill 100 = .ok (.iload_n 1, 1) := by decide +kernel
theorem dX0_fill_101 : decode cX0_fill 101 = .ok (.invokevirtual 119, 3) := by decide +kernel
theorem dX0_fill_104 : decode cX0_fill 104 = .ok (.ireturn, 1) := by decide +kernel
theorem dX0_fill_105 : decode cX0_fill 105 = .ok (.iconst 0, 1) := by decide +kernel
theorem dX0_fill_106 : decode cX0_fill 106 = .ok (.ireturn, 1) := by decide +kernel
theorem dX0_fillScan_0 : decode cX0_fillScan 0 = .ok (.aload_n 0, 1) := by decide +kernel
theorem dX0_fillScan_1 : decode cX0_fillScan 1 = .ok (.getfield 9, 3) := by decide +kernel
theorem dX0_fillScan_4 : decode cX0_fillScan 4 = .ok (.aload_n 0, 1) := by decide +kernel
theorem dX0_fillScan_5 : decode cX0_fillScan 5 = .ok (.getfield 15, 3) := by decide +kernel
theorem dX0_fillScan_8 : decode cX0_fillScan 8 = .ok (.iload_n 1, 1) := by decide +kernel
theorem dX0_fillScan_9 : decode cX0_fillScan 9 = .ok (.invokevirtual 85, 3) := by decide +kernel
theorem dX0_fillScan_12 : decode cX0_fillScan 12 = .ok (.invokevirtual 122, 3) := by decide +kernel
theorem dX0_fillScan_15 : decode cX0_fillScan 15 = .ok (.astore_n 2, 1) := by decide +kernel
theorem dX0_fillScan_16 : decode cX0_fillScan 16 = .ok (.aload_n 2, 1) := by decide +kernel
theorem dX0_fillScan_17 : decode cX0_fillScan 17 = .ok (.ifnonnull 5, 3) := by decide +kernel
theorem dX0_fillScan_20 : decode cX0_fillScan 20 = .ok (.iconst 0, 1) := by decide +kernel
theorem dX0_fillScan_21 : decode cX0_fillScan 21 = .ok (.ireturn, 1) := by decide +kernel
theorem dX0_fillScan_22 : decode cX0_fillScan 22 = .ok (.iconst 0, 1) := by decide +kernel
theorem dX0_fillScan_23 : decode cX0_fillScan 23 = .ok (.istore_n 3, 1) := by decide +kernel
theorem dX0_fillScan_24 : decode cX0_fillScan 24 = .ok (.iload_n 3, 1) := by decide +kernel
theorem dX0_fillScan_25 : decode cX0_fillScan 25 = .ok (.aload_n 2, 1) := by decide +kernel
theorem dX0_fillScan_26 : decode cX0_fillScan 26 = .ok (.invokevirtual 126, 3) := by decide +kernel
theorem dX0_fillScan_29 : decode cX0_fillScan 29 = .ok (.if_icmp .ge 50, 3) := by decide +kernel
theorem dX0_fillScan_32 : decode cX0_fillScan 32 = .ok (.aload_n 0, 1) := by decide +kernel
theorem dX0_fillScan_33 : decode cX0_fillScan 33 = .ok (.iload_n 1, 1) := by decide +kernel
theorem dX0_fillScan_34 : decode cX0_fillScan 34 = .ok (.invokevirtual 131, 3) := by decide +kernel
theorem dX0_fillScan_37 : decode cX0_fillScan 37 = .ok (.istore 4, 2) := by decide +kernel
theorem dX0_fillScan_39 : decode cX0_fillScan 39 = .ok (.iconst 0, 1) := by decide +kernel
theorem dX0_fillScan_40 : decode cX0_fillScan 40 = .ok (.istore 5, 2) := by decide +kernel
theorem dX0_fillScan_42 : decode cX0_fillScan 42 = .ok (.iload 5, 2) := by decide +kernel
theorem dX0_fillScan_44 : decode cX0_fillScan 44 = .ok (.aload_n 2, 1) := by decide +kernel
theorem dX0_fillScan_45 : decode cX0_fillScan 45 = .ok (.invokevirtual 134, 3) := by decide +kernel
theorem dX0_fillScan_48 : decode cX0_fillScan 48 = .ok (.if_icmp .ge 25, 3) := by decide +kernel
theorem dX0_fillScan_51 : decode cX0_fillScan 51 = .ok (.aload_n 0, 1) := by decide +kernel
theorem dX0_fillScan_52 : decode cX0_fillScan 52 = .ok (.iload_n 1, 1) := by decide +kernel
theorem dX0_fillScan_53 : decode cX0_fillScan 53 = .ok (.iload 4, 2) := by decide +kernel
theorem dX0_fillScan_55 : decode cX0_fillScan 55 = .ok (.iload 5, 2) := by decide +kernel
theorem dX0_fillScan_57 : decode cX0_fillScan 57 = .ok (.aload_n 2, 1) := by decide +kernel
theorem dX0_fillScan_58 : decode cX0_fillScan 58 = .ok (.iload_n 3, 1) := by decide +kernel
theorem dX0_fillScan_59 : decode cX0_fillScan 59 = .ok (.iload 5, 2) := by decide +kernel
theorem dX0_fillScan_61 : decode cX0_fillScan 61 = .ok (.invokevirtual 137, 3) := by decide +kernel
theorem dX0_fillScan_64 : decode cX0_fillScan 64 = .ok (.invokevirtual 140, 3) := by decide +kernel
theorem dX0_fillScan_67 : decode cX0_fillScan 67 = .ok (.iinc 5 1, 3) := by decide +kernel
theorem dX0_fillScan_70 : decode cX0_fillScan 70 = .ok (.goto (-28), 3) := by decide +kernel
theorem dX0_fillScan_73 : decode cX0_fillScan 73 = .ok (.iinc 3 1, 3) := by decide +kernel
theorem dX0_fillScan_76 : decode cX0_fillScan 76 = .ok (.goto (-52), 3) := by decide +kernel
theorem dX0_fillScan_79 : decode cX0_fillScan 79 = .ok (.iconst 1, 1) := by decide +kernel
theorem dX0_fillScan_80 : decode cX0_fillScan 80 = .ok (.ireturn, 1) := by decide +kernel
theorem dX0_fillFilter_0 : decode cX0_fillFilter 0 = .ok (.aload_n 0, 1) := by decide +kernel
theorem dX0_fillFilter_1 : decode cX0_fillFilter 1 = .ok (.getfield 15, 3) := by decide +kernel
theorem dX0_fillFilter_4 : decode cX0_fillFilter 4 = .ok (.iload_n 1, 1) := by decide +kernel
theorem dX0_fillFilter_5 : decode cX0_fillFilter 5 = .ok (.invokevirtual 85, 3) := by decide +kernel
theorem dX0_fillFilter_8 : decode cX0_fillFilter 8 = .ok (.istore_n 2, 1) := by decide +kernel
theorem dX0_fillFilter_9 : decode cX0_fillFilter 9 = .ok (.iconst 0, 1) := by decide +kernel
theorem dX0_fillFilter_10 : decode cX0_fillFilter 10 = .ok (.istore_n 3, 1) := by decide +kernel
theorem dX0_fillFilter_11 : decode cX0_fillFilter 11 = .ok (.iload_n 3, 1) := by decide +kernel
theorem dX0_fillFilter_12 : decode cX0_fillFilter 12 = .ok (.aload_n 0, 1) := by decide +kernel
theorem dX0_fillFilter_13 : decode cX0_fillFilter 13 = .ok (.iload_n 2, 1) := by decide +kernel
theorem dX0_fillFilter_14 : decode cX0_fillFilter 14 = .ok (.invokevirtual 65, 3) := by decide +kernel
theorem dX0_fillFilter_17 : decode cX0_fillFilter 17 = .ok (.if_icmp .ge 57, 3) := by decide +kernel
theorem dX0_fillFilter_20 : decode cX0_fillFilter 20 = .ok (.aload_n 0, 1) := by decide +kernel
theorem dX0_fillFilter_21 : decode cX0_fillFilter 21 = .ok (.iload_n 2, 1) := by decide +kernel
theorem dX0_fillFilter_22 : decode cX0_fillFilter 22 = .ok (.iload_n 3, 1) := by decide +kernel
theorem dX0_fillFilter_23 : decode cX0_fillFilter 23 = .ok (.aload_n 0, 1) := by decide +kernel
theorem dX0_fillFilter_24 : decode cX0_fillFilter 24 = .ok (.getfield 15, 3) := by decide +kernel
theorem dX0_fillFilter_27 : decode cX0_fillFilter 27 = .ok (.iload_n 1, 1) := by decide +kernel
theorem dX0_fillFilter_28 : decode cX0_fillFilter 28 = .ok (.invokevirtual 144, 3) := by decide +kernel
theorem dX0_fillFilter_31 : decode cX0_fillFilter 31 = .ok (.invokevirtual 147, 3) := by decide +kernel
theorem dX0_fillFilter_34 : decode cX0_fillFilter 34 = .ok (.istore 4, 2) := by decide +kernel
theorem dX0_fillFilter_36 : decode cX0_fillFilter 36 = .ok (.aload_n 0, 1) := by decide +kernel
theorem dX0_fillFilter_37 : decode cX0_fillFilter 37 = .ok (.getfield 15, 3) := by decide +kernel
theorem dX0_fillFilter_40 : decode cX0_fillFilter 40 = .ok (.iload_n 1, 1) := by decide +kernel
theorem dX0_fillFilter_41 : decode cX0_fillFilter 41 = .ok (.invokevirtual 107, 3) := by decide +kernel
theorem dX0_fillFilter_44 : decode cX0_fillFilter 44 = .ok (.iload 4, 2) := by decide +kernel
theorem dX0_fillFilter_46 : decode cX0_fillFilter 46 = .ok (.aload_n 0, 1) := by decide +kernel
theorem dX0_fillFilter_47 : decode cX0_fillFilter 47 = .ok (.getfield 15, 3) := by decide +kernel
theorem dX0_fillFilter_50 : decode cX0_fillFilter 50 = .ok (.iload_n 1, 1) := by decide +kernel
theorem dX0_fillFilter_51 : decode cX0_fillFilter 51 = .ok (.invokevirtual 151, 3) := by decide +kernel
theorem dX0_fillFilter_54 : decode cX0_fillFilter 54 = .ok (.invokestatic 154, 3) := by decide +kernel
theorem dX0_fillFilter_57 : decode cX0_fillFilter 57 = .ok (.ifCond .eq 11, 3) := by decide +kernel
theorem dX0_fillFilter_60 : decode cX0_fillFilter 60 = .ok (.aload_n 0, 1) := by decide +kernel
theorem dX0_fillFilter_61 : decode cX0_fillFilter 61 = .ok (.iload_n 1, 1) := by decide +kernel
theorem dX0_fillFilter_62 : decode cX0_fillFilter 62 = .ok (.iload_n 2, 1) := by decide +kernel
theorem dX0_fillFilter_63 : decode cX0_fillFilter 63 = .ok (.iload_n 3, 1) := by decide +kernel
theorem dX0_fillFilter_64 : decode cX0_fillFilter 64 = .ok (.invokevirtual 157, 3) := by decide +kernel
theorem dX0_fillFilter_67 : decode cX0_fillFilter 67 = .ok (.pop, 1) := by decide +kernel
theorem dX0_fillFilter_68 : decode cX0_fillFilter 68 = .ok (.iinc 3 1, 3) := by decide +kernel
theorem dX0_fillFilter_71 : decode cX0_fillFilter 71 = .ok (.goto (-60), 3) := by decide +kernel
theorem dX0_fillFilter_74 : decode cX0_fillFilter 74 = .ok (.iconst 1, 1) := by decide +kernel
theorem dX0_fillFilter_75 : decode cX0_fillFilter 75 = .ok (.ireturn, 1) := by decide +kernel
theorem dX0_fillSideBySide_0 : decode cX0_fillSideBySide 0 = .ok (.aload_n 0, 1) := by decide +kernel
theorem dX0_fillSideBySide_1 : decode cX0_fillSideBySide 1 = .ok (.aload_n 0, 1) := by decide +kernel
theorem dX0_fillSideBySide_2 : decode cX0_fillSideBySide 2 = .ok (.getfield 15, 3) := by decide +kernel
theorem dX0_fillSideBySide_5 : decode cX0_fillSideBySide 5 = .ok (.iload_n 1, 1) := by decide +kernel
theorem dX0_fillSideBySide_6 : decode cX0_fillSideBySide 6 = .ok (.invokevirtual 85, 3) := by decide +kernel
theorem dX0_fillSideBySide_9 : decode cX0_fillSideBySide 9 = .ok (.invokevirtual 65, 3) := by decide +kernel
theorem dX0_fillSideBySide_12 : decode cX0_fillSideBySide 12 = .ok (.istore_n 2, 1) := by decide +kernel
theorem dX0_fillSideBySide_13 : decode cX0_fillSideBySide 13 = .ok (.iconst 0, 1) := by decide +kernel
theorem dX0_fillSideBySide_14 : decode cX0_fillSideBySide 14 = .ok (.istore_n 3, 1) := by decide +kernel
theorem dX0_fillSideBySide_15 : decode cX0_fillSideBySide 15 = .ok (.iload_n 3, 1) := by decide +kernel
theorem dX0_fillSideBySide_16 : decode cX0_fillSideBySide 16 = .ok (.iload_n 2, 1) := by decide +kernel
theorem dX0_fillSideBySide_17 : decode cX0_fillSideBySide 17 = .ok (.if_icmp .ge 20, 3) := by decide +kernel
theorem dX0_fillSideBySide_20 : decode cX0_fillSideBySide 20 = .ok (.aload_n 0, 1) := by decide +kernel
theorem dX0_fillSideBySide_21 : decode cX0_fillSideBySide 21 = .ok (.iload_n 1, 1) := by decide +kernel
theorem dX0_fillSideBySide_22 : decode cX0_fillSideBySide 22 = .ok (.iload_n 3, 1) := by decide +kernel
theorem dX0_fillSideBySide_23 : decode cX0_fillSideBySide 23 = .ok (.invokevirtual 160, 3) := by decide +kernel
theorem dX0_fillSideBySide_26 : decode cX0_fillSideBySide 26 = .ok (.ifCond .ne 5, 3) := by decide +kernel
theorem dX0_fillSideBySide_29 : decode cX0_fillSideBySide 29 = .ok (.iconst 0, 1) := by decide +kernel
theorem dX0_fillSideBySide_30 : decode cX0_fillSideBySide 30 = .ok (.ireturn, 1) := by decide +kernel
theorem dX0_fillSideBySide_31 : decode cX0_fillSideBySide 31 = .ok (.iinc 3 1, 3) := by decide +kernel
theorem dX0_fillSideBySide_34 : decode cX0_fillSideBySide 34 = .ok (.goto (-19), 3) := by decide +kernel
theorem dX0_fillSideBySide_37 : decode cX0_fillSideBySide 37 = .ok (.iconst 1, 1) := by decide +kernel
theorem dX0_fillSideBySide_38 : decode cX0_fillSideBySide 38 = .ok (.ireturn, 1) := by decide +kernel
theorem dX0_pairUp_0 : decode cX0_pairUp 0 = .ok (.aload_n 0, 1) := by decide +kernel
theorem dX0_pairUp_1 : decode cX0_pairUp 1 = .ok (.getfield 15, 3) := by decide +kernel
theorem dX0_pairUp_4 : decode cX0_pairUp 4 = .ok (.iload_n 1, 1) := by decide +kernel
theorem dX0_pairUp_5 : decode cX0_pairUp 5 = .ok (.invokevirtual 91, 3) := by decide +kernel
theorem dX0_pairUp_8 : decode cX0_pairUp 8 = .ok (.istore_n 3, 1) := by decide +kernel
theorem dX0_pairUp_9 : decode cX0_pairUp 9 = .ok (.aload_n 0, 1) := by decide +kernel
theorem dX0_pairUp_10 : decode cX0_pairUp 10 = .ok (.getfield 15, 3) := by decide +kernel
theorem dX0_pairUp_13 : decode cX0_pairUp 13 = .ok (.iload_n 1, 1) := by decide +kernel
theorem dX0_pairUp_14 : decode cX0_pairUp 14 = .ok (.invokevirtual 151, 3) := by decide +kernel
theorem dX0_pairUp_17 : decode cX0_pairUp 17 = .ok (.istore 4, 2) := by decide +kernel
theorem dX0_pairUp_19 : decode cX0_pairUp 19 = .ok (.aload_n 0, 1) := by decide +kernel
theorem dX0_pairUp_20 : decode cX0_pairUp 20 = .ok (.aload_n 0, 1) := by decide +kernel
theorem dX0_pairUp_21 : decode cX0_pairUp 21 = .ok (.getfield 15, 3) := by decide +kernel
theorem dX0_pairUp_24 : decode cX0_pairUp 24 = .ok (.iload_n 1, 1) := by decide +kernel
theorem dX0_pairUp_25 : decode cX0_pairUp 25 = .ok (.invokevirtual 85, 3) := by decide +kernel
theorem dX0_pairUp_28 : decode cX0_pairUp 28 = .ok (.iload_n 2, 1) := by decide +kernel
theorem dX0_pairUp_29 : decode cX0_pairUp 29 = .ok (.aload_n 0, 1) := by decide +kernel
theorem dX0_pairUp_30 : decode cX0_pairUp 30 = .ok (.getfield 15, 3) := by decide +kernel
theorem dX0_pairUp_33 : decode cX0_pairUp 33 = .ok (.iload_n 1, 1) := by decide +kernel
theorem dX0_pairUp_34 : decode cX0_pairUp 34 = .ok (.invokevirtual 144, 3) := by decide +kernel
theorem dX0_pairUp_37 : decode cX0_pairUp 37 = .ok (.invokevirtual 147, 3) := by decide +kernel
theorem dX0_pairUp_40 : decode cX0_pairUp 40 = .ok (.istore 5, 2) := by decide +kernel
theorem dX0_pairUp_42 : decode cX0_pairUp 42 = .ok (.iload 5, 2) := by decide +kernel
theorem dX0_pairUp_44 : decode cX0_pairUp 44 = .ok (.sipush (-1000), 3) := by decide +kernel
theorem dX0_pairUp_47 : decode cX0_pairUp 47 = .ok (.if_icmp .ne 7, 3) := by decide +kernel
theorem dX0_pairUp_50 : decode cX0_pairUp 50 = .ok (.iconst 0, 1) := by decide +kernel
theorem dX0_pairUp_51 : decode cX0_pairUp 51 = .ok (.goto 8, 3) := by decide +kernel
theorem dX0_pairUp_54 : decode cX0_pairUp 54 = .ok (.aload_n 0, 1) := by decide +kernel
theorem dX0_pairUp_55 : decode cX0_pairUp 55 = .ok (.iload_n 3, 1) := by decide +kernel
theorem dX0_pairUp_56 : decode cX0_pairUp 56 = .ok (.invokevirtual 65, 3) := by decide +kernel
theorem dX0_pairUp_59 : decode cX0_pairUp 59 = .ok (.istore 6, 2) := by decide +kernel
theorem dX0_pairUp_61 : decode cX0_pairUp 61 = .ok (.iconst 0, 1) := by decide +kernel
theorem dX0_pairUp_62 : decode cX0_pairUp 62 = .ok (.istore 7, 2) := by decide +kernel
theorem dX0_pairUp_64 : decode cX0_pairUp 64 = .ok (.iconst 0, 1) := by decide +kernel
theorem dX0_pairUp_65 : decode cX0_pairUp 65 = .ok (.istore 8, 2) := by decide +kernel
theorem dX0_pairUp_67 : decode cX0_pairUp 67 = .ok (.iload 8, 2) := by decide +kernel
theorem dX0_pairUp_69 : decode cX0_pairUp 69 = .ok (.iload 6, 2) := by decide +kernel
theorem dX0_pairUp_71 : decode cX0_pairUp 71 = .ok (.if_icmp .ge 39, 3) := by decide +kernel
theorem dX0_pairUp_74 : decode cX0_pairUp 74 = .ok (.aload_n 0, 1) := by decide +kernel
theorem dX0_pairUp_75 : decode cX0_pairUp 75 = .ok (.iload_n 3, 1) := by decide +kernel
theorem dX0_pairUp_76 : decode cX0_pairUp 76 = .ok (.iload 8, 2) := by decide +kernel
theorem dX0_pairUp_78 : decode cX0_pairUp 78 = .ok (.iload 4, 2) := by decide +kernel
theorem dX0_pairUp_80 : decode cX0_pairUp 80 = .ok (.invokevirtual 147, 3) := by decide +kernel
theorem dX0_pairUp_83 : decode cX0_pairUp 83 = .ok (.iload 5, 2) := by decide +kernel
theorem dX0_pairUp_85 : decode cX0_pairUp 85 = .ok (.if_icmp .ne 19, 3) := by decide +kernel
theorem dX0_pairUp_88 : decode cX0_pairUp 88 = .ok (.iconst 1, 1) := by decide +kernel
theorem dX0_pairUp_89 : decode cX0_pairUp 89 = .ok (.istore 7, 2) := by decide +kernel
theorem dX0_pairUp_91 : decode cX0_pairUp 91 = .ok (.aload_n 0, 1) := by decide +kernel
theorem dX0_pairUp_92 : decode cX0_pairUp 92 = .ok (.iload_n 1, 1) := by decide +kernel
theorem dX0_pairUp_93 : decode cX0_pairUp 93 = .ok (.iload_n 2, 1) := by decide +kernel
theorem dX0_pairUp_94 : decode cX0_pairUp 94 = .ok (.iload 8, 2) := by decide +kernel
theorem dX0_pairUp_96 : decode cX0_pairUp 96 = .ok (.invokevirtual 164, 3) := by decide +kernel
theorem dX0_pairUp_99 : decode cX0_pairUp 99 = .ok (.ifCond .ne 5, 3) := by decide +kernel
theorem dX0_pairUp_102 : decode cX0_pairUp 102 = .ok (.iconst 0, 1) := by decide +kernel
theorem dX0_pairUp_103 : decode cX0_pairUp 103 = .ok (.ireturn, 1) := by decide +kernel
theorem dX0_pairUp_104 : decode cX0_pairUp 104 = .ok (.iinc 8 1, 3) := by decide +kernel
theorem dX0_pairUp_107 : decode cX0_pairUp 107 = .ok (.goto (-40), 3) := by decide +kernel
theorem dX0_pairUp_110 : decode cX0_pairUp 110 = .ok (.iload 7, 2) := by decide +kernel
theorem dX0_pairUp_112 : decode cX0_pairUp 112 = .ok (.ifCond .ne 24, 3) := by decide +kernel
theorem dX0_pairUp_115 : decode cX0_pairUp 115 = .ok (.aload_n 0, 1) := by decide +kernel
theorem dX0_pairUp_116 : decode cX0_pairUp 116 = .ok (.getfield 15, 3) := by decide +kernel
theorem dX0_pairUp_119 : decode cX0_pairUp 119 = .ok (.iload_n 1, 1) := by decide +kernel
theorem dX0_pairUp_120 : decode cX0_pairUp 120 = .ok (.invokevirtual 107, 3) := by decide +kernel
theorem dX0_pairUp_123 : decode cX0_pairUp 123 = .ok (.ifCond .eq 13, 3) := by decide +kernel
theorem dX0_pairUp_126 : decode cX0_pairUp 126 = .ok (.aload_n 0, 1) := by decide +kernel
theorem dX0_pairUp_127 : decode cX0_pairUp 127 = .ok (.iload_n 1, 1) := by decide +kernel
theorem dX0_pairUp_128 : decode cX0_pairUp 128 = .ok (.iload_n 2, 1) := by decide +kernel
theorem dX0_pairUp_129 : decode cX0_pairUp 129 = .ok (.iconst (-1), 1) := by decide +kernel
theorem dX0_pairUp_130 : decode cX0_pairUp 130 = .ok (.invokevirtual 164, 3) := by decide +kernel
theorem dX0_pairUp_133 : decode cX0_pairUp 133 = .ok (.ifCond .eq 7, 3) := by decide +kernel
theorem dX0_pairUp_136 : decode cX0_pairUp 136 = .ok (.iconst 1, 1) := by decide +kernel
theorem dX0_pairUp_137 : decode cX0_pairUp 137 = .ok (.goto 4, 3) := by decide +kernel
theorem dX0_pairUp_140 : decode cX0_pairUp 140 = .ok (.iconst 0, 1) := by decide +kernel
theorem dX0_pairUp_141 : decode cX0_pairUp 141 = .ok (.ireturn, 1) := by decide +kernel
theorem dX0_fillStaying_0 : decode cX0_fillStaying 0 = .ok (.aload_n 0, 1) := by decide +kernel
theorem dX0_fillStaying_1 : decode cX0_fillStaying 1 = .ok (.getfield 15, 3) := by decide +kernel
theorem dX0_fillStaying_4 : decode cX0_fillStaying 4 = .ok (.iload_n 1, 1) := by decide +kernel
theorem dX0_fillStaying_5 : decode cX0_fillStaying 5 = .ok (.invokevirtual 85, 3) := by decide +kernel
theorem dX0_fillStaying_8 : decode cX0_fillStaying 8 = .ok (.istore_n 2, 1) := by decide +kernel
theorem dX0_fillStaying_9 : decode cX0_fillStaying 9 = .ok (.iconst 0, 1) := by decide +kernel
theorem dX0_fillStaying_10 : decode cX0_fillStaying 10 = .ok (.istore_n 3, 1) := by decide +kernel
theorem dX0_fillStaying_11 : decode cX0_fillStaying 11 = .ok (.iload_n 3, 1) := by decide +kernel
theorem dX0_fillStaying_12 : decode cX0_fillStaying 12 = .ok (.aload_n 0, 1) := by decide +kernel
theorem dX0_fillStaying_13 : decode cX0_fillStaying 13 = .ok (.iload_n 2, 1) := by decide +kernel
theorem dX0_fillStaying_14 : decode cX0_fillStaying 14 = .ok (.invokevirtual 65, 3) := by decide +kernel
theorem dX0_fillStaying_17 : decode cX0_fillStaying 17 = .ok (.if_icmp .ge 39, 3) := by decide +kernel
theorem dX0_fillStaying_20 : decode cX0_fillStaying 20 = .ok (.aload_n 0, 1) := by decide +kernel
theorem dX0_fillStaying_21 : decode cX0_fillStaying 21 = .ok (.iload_n 1, 1) := by decide +kernel
theorem dX0_fillStaying_22 : decode cX0_fillStaying 22 = .ok (.aload_n 0, 1) := by decide +kernel
theorem dX0_fillStaying_23 : decode cX0_fillStaying 23 = .ok (.iload_n 2, 1) := by decide +kernel
theorem dX0_fillStaying_24 : decode cX0_fillStaying 24 = .ok (.iload_n 3, 1) := by decide +kernel
theorem dX0_fillStaying_25 : decode cX0_fillStaying 25 = .ok (.aload_n 0, 1) := by decide +kernel
theorem dX0_fillStaying_26 : decode cX0_fillStaying 26 = .ok (.getfield 15, 3) := by decide +kernel
theorem dX0_fillStaying_29 : decode cX0_fillStaying 29 = .ok (.iload_n 1, 1) := by decide +kernel
theorem dX0_fillStaying_30 : decode cX0_fillStaying 30 = .ok (.invokevirtual 144, 3) := by decide +kernel
theorem dX0_fillStaying_33 : decode cX0_fillStaying 33 = .ok (.invokevirtual 147, 3) := by decide +kernel
theorem dX0_fillStaying_36 : decode cX0_fillStaying 36 = .ok (.invokevirtual 167, 3) := by decide +kernel
theorem dX0_fillStaying_39 : decode cX0_fillStaying 39 = .ok (.ifCond .eq 11, 3) := by decide +kernel
theorem dX0_fillStaying_42 : decode cX0_fillStaying 42 = .ok (.aload_n 0, 1) := by decide +kernel
theorem dX0_fillStaying_43 : decode cX0_fillStaying 43 = .ok (.iload_n 1, 1) := by decide +kernel
theorem dX0_fillStaying_44 : decode cX0_fillStaying 44 = .ok (.iload_n 2, 1) := by decide +kernel
theorem dX0_fillStaying_45 : decode cX0_fillStaying 45 = .ok (.iload_n 3, 1) := by decide +kernel
theorem dX0_fillStaying_46 : decode cX0_fillStaying 46 = .ok (.invokevirtual 157, 3) := by decide +kernel
theorem dX0_fillStaying_49 : decode cX0_fillStaying 49 = .ok (.pop, 1) := by decide +kernel
theorem dX0_fillStaying_50 : decode cX0_fillStaying 50 = .ok (.iinc 3 1, 3) := by decide +kernel
theorem dX0_fillStaying_53 : decode cX0_fillStaying 53 = .ok (.goto (-42), 3) := by decide +kernel
theorem dX0_fillStaying_56 : decode cX0_fillStaying 56 = .ok (.iconst 1, 1) := by decide +kernel
theorem dX0_fillStaying_57 : decode cX0_fillStaying 57 = .ok (.ireturn, 1) := by decide +kernel
theorem dX0_stays_0 : decode cX0_stays 0 = .ok (.aload_n 0, 1) := by decide +kernel
theorem dX0_stays_1 : decode cX0_stays 1 = .ok (.getfield 15, 3) := by decide +kernel
theorem dX0_stays_4 : decode cX0_stays 4 = .ok (.iload_n 1, 1) := by decide +kernel
theorem dX0_stays_5 : decode cX0_stays 5 = .ok (.invokevirtual 91, 3) := by decide +kernel
theorem dX0_stays_8 : decode cX0_stays 8 = .ok (.istore_n 3, 1) := by decide +kernel
theorem dX0_stays_9 : decode cX0_stays 9 = .ok (.aload_n 0, 1) := by decide +kernel
theorem dX0_stays_10 : decode cX0_stays 10 = .ok (.getfield 15, 3) := by decide +kernel
theorem dX0_stays_13 : decode cX0_stays 13 = .ok (.iload_n 1, 1) := by decide +kernel
theorem dX0_stays_14 : decode cX0_stays 14 = .ok (.invokevirtual 151, 3) := by decide +kernel
theorem dX0_stays_17 : decode cX0_stays 17 = .ok (.istore 4, 2) := by decide +kernel
theorem dX0_stays_19 : decode cX0_stays 19 = .ok (.iload_n 2, 1) := by decide +kernel
theorem dX0_stays_20 : decode cX0_stays 20 = .ok (.sipush (-1000), 3) := by decide +kernel
theorem dX0_stays_23 : decode cX0_stays 23 = .ok (.if_icmp .eq 19, 3) := by decide +kernel
theorem dX0_stays_26 : decode cX0_stays 26 = .ok (.aload_n 0, 1) := by decide +kernel
theorem dX0_stays_27 : decode cX0_stays 27 = .ok (.iload_n 3, 1) := by decide +kernel
theorem dX0_stays_28 : decode cX0_stays 28 = .ok (.iload 4, 2) := by decide +kernel
theorem dX0_stays_30 : decode cX0_stays 30 = .ok (.iload_n 2, 1) := by decide +kernel
theorem dX0_stays_31 : decode cX0_stays 31 = .ok (.invokevirtual 170, 3) := by decide +kernel
theorem dX0_stays_34 : decode cX0_stays 34 = .ok (.iconst (-1), 1) := by decide +kernel
theorem dX0_stays_35 : decode cX0_stays 35 = .ok (.if_icmp .eq 7, 3) := by decide +kernel
theorem dX0_stays_38 : decode cX0_stays 38 = .ok (.iconst 1, 1) := by decide +kernel
theorem dX0_stays_39 : decode cX0_stays 39 = .ok (.goto 4, 3) := by decide +kernel
theorem dX0_stays_42 : decode cX0_stays 42 = .ok (.iconst 0, 1) := by decide +kernel
theorem dX0_stays_43 : decode cX0_stays 43 = .ok (.istore 5, 2) := by decide +kernel
theorem dX0_stays_45 : decode cX0_stays 45 = .ok (.aload_n 0, 1) := by decide +kernel
theorem dX0_stays_46 : decode cX0_stays 46 = .ok (.getfield 15, 3) := by decide +kernel
theorem dX0_stays_49 : decode cX0_stays 49 = .ok (.iload_n 1, 1) := by decide +kernel
theorem dX0_stays_50 : decode cX0_stays 50 = .ok (.invokevirtual 107, 3) := by decide +kernel
theorem dX0_stays_53 : decode cX0_stays 53 = .ok (.iconst 2, 1) := by decide +kernel
theorem dX0_stays_54 : decode cX0_stays 54 = .ok (.if_icmp .ne 6, 3) := by decide +kernel
theorem dX0_stays_57 : decode cX0_stays 57 = .ok (.iload 5, 2) := by decide +kernel
theorem dX0_stays_59 : decode cX0_stays 59 = .ok (.ireturn, 1) := by decide +kernel
theorem dX0_stays_60 : decode cX0_stays 60 = .ok (.aload_n 0, 1) := by decide +kernel
theorem dX0_stays_61 : decode cX0_stays 61 = .ok (.getfield 15, 3) := by decide +kernel
theorem dX0_stays_64 : decode cX0_stays 64 = .ok (.iload_n 1, 1) := by decide +kernel
theorem dX0_stays_65 : decode cX0_stays 65 = .ok (.invokevirtual 107, 3) := by decide +kernel
theorem dX0_stays_68 : decode cX0_stays 68 = .ok (.iconst 4, 1) := by decide +kernel
theorem dX0_stays_69 : decode cX0_stays 69 = .ok (.if_icmp .ne 43, 3) := by decide +kernel
theorem dX0_stays_72 : decode cX0_stays 72 = .ok (.aload_n 0, 1) := by decide +kernel
theorem dX0_stays_73 : decode cX0_stays 73 = .ok (.iload_n 3, 1) := by decide +kernel
theorem dX0_stays_74 : decode cX0_stays 74 = .ok (.invokevirtual 65, 3) := by decide +kernel
theorem dX0_stays_77 : decode cX0_stays 77 = .ok (.ifCond .le 35, 3) := by decide +kernel
theorem dX0_stays_80 : decode cX0_stays 80 = .ok (.iload 5, 2) := by decide +kernel
theorem dX0_stays_82 : decode cX0_stays 82 = .ok (.ifCond .ne 28, 3) := by decide +kernel
theorem dX0_stays_85 : decode cX0_stays 85 = .ok (.iload_n 2, 1) := by decide +kernel
theorem dX0_stays_86 : decode cX0_stays 86 = .ok (.sipush (-1000), 3) := by decide +kernel
theorem dX0_stays_89 : decode cX0_stays 89 = .ok (.if_icmp .eq 21, 3) := by decide +kernel
theorem dX0_stays_92 : decode cX0_stays 92 = .ok (.aload_n 0, 1) := by decide +kernel
theorem dX0_stays_93 : decode cX0_stays 93 = .ok (.iload_n 3, 1) := by decide +kernel
theorem dX0_stays_94 : decode cX0_stays 94 = .ok (.iload 4, 2) := by decide +kernel
theorem dX0_stays_96 : decode cX0_stays 96 = .ok (.sipush (-1000), 3) := by decide +kernel
theorem dX0_stays_99 : decode cX0_stays 99 = .ok (.invokevirtual 170, 3) := by decide +kernel
theorem dX0_stays_102 : decode cX0_stays 102 = .ok (.iconst (-1), 1) := by decide +kernel
theorem dX0_stays_103 : decode cX0_stays 103 = .ok (.if_icmp .ne 7, 3) := by decide +kernel
theorem dX0_stays_106 : decode cX0_stays 106 = .ok (.iconst 1, 1) := by decide +kernel
theorem dX0_stays_107 : decode cX0_stays 107 = .ok (.goto 4, 3) := by decide +kernel
theorem dX0_stays_110 : decode cX0_stays 110 = .ok (.iconst 0, 1) := by decide +kernel
theorem dX0_stays_111 : decode cX0_stays 111 = .ok (.ireturn, 1) := by decide +kernel
theorem dX0_stays_112 : decode cX0_stays 112 = .ok (.iload 5, 2) := by decide +kernel
theorem dX0_stays_114 : decode cX0_stays 114 = .ok (.ifCond .ne 7, 3) := by decide +kernel
theorem dX0_stays_117 : decode cX0_stays 117 = .ok (.iconst 1, 1) := by decide +kernel
theorem dX0_stays_118 : decode cX0_stays 118 = .ok (.goto 4, 3) := by decide +kernel
theorem dX0_stays_121 : decode cX0_stays 121 = .ok (.iconst 0, 1) := by decide +kernel
theorem dX0_stays_122 : decode cX0_stays 122 = .ok (.ireturn, 1) := by decide +kernel
theorem dX0_fillGroup_0 : decode cX0_fillGroup 0 = .ok (.aload_n 0, 1) := by decide +kernel
theorem dX0_fillGroup_1 : decode cX0_fillGroup 1 = .ok (.getfield 15, 3) := by decide +kernel
theorem dX0_fillGroup_4 : decode cX0_fillGroup 4 = .ok (.iload_n 1, 1) := by decide +kernel
theorem dX0_fillGroup_5 : decode cX0_fillGroup 5 = .ok (.invokevirtual 85, 3) := by decide +kernel
theorem dX0_fillGroup_8 : decode cX0_fillGroup 8 = .ok (.istore_n 2, 1) := by decide +kernel
theorem dX0_fillGroup_9 : decode cX0_fillGroup 9 = .ok (.iconst 0, 1) := by decide +kernel
theorem dX0_fillGroup_10 : decode cX0_fillGroup 10 = .ok (.istore_n 3, 1) := by decide +kernel
theorem dX0_fillGroup_11 : decode cX0_fillGroup 11 = .ok (.iload_n 3, 1) := by decide +kernel
theorem dX0_fillGroup_12 : decode cX0_fillGroup 12 = .ok (.aload_n 0, 1) := by decide +kernel
theorem dX0_fillGroup_13 : decode cX0_fillGroup 13 = .ok (.iload_n 2, 1) := by decide +kernel
theorem dX0_fillGroup_14 : decode cX0_fillGroup 14 = .ok (.invokevirtual 65, 3) := by decide +kernel
theorem dX0_fillGroup_17 : decode cX0_fillGroup 17 = .ok (.if_icmp .ge 69, 3) := by decide +kernel
theorem dX0_fillGroup_20 : decode cX0_fillGroup 20 = .ok (.aload_n 0, 1) := by decide +kernel
theorem dX0_fillGroup_21 : decode cX0_fillGroup 21 = .ok (.iload_n 2, 1) := by decide +kernel
theorem dX0_fillGroup_22 : decode cX0_fillGroup 22 = .ok (.iload_n 3, 1) := by decide +kernel
theorem dX0_fillGroup_23 : decode cX0_fillGroup 23 = .ok (.aload_n 0, 1) := by decide +kernel
theorem dX0_fillGroup_24 : decode cX0_fillGroup 24 = .ok (.getfield 15, 3) := by decide +kernel
theorem dX0_fillGroup_27 : decode cX0_fillGroup 27 = .ok (.iload_n 1, 1) := by decide +kernel
theorem dX0_fillGroup_28 : decode cX0_fillGroup 28 = .ok (.invokevirtual 144, 3) := by decide +kernel
theorem dX0_fillGroup_31 : decode cX0_fillGroup 31 = .ok (.invokevirtual 147, 3) := by decide +kernel
theorem dX0_fillGroup_34 : decode cX0_fillGroup 34 = .ok (.istore 4, 2) := by decide +kernel
theorem dX0_fillGroup_36 : decode cX0_fillGroup 36 = .ok (.aload_n 0, 1) := by decide +kernel
theorem dX0_fillGroup_37 : decode cX0_fillGroup 37 = .ok (.iload_n 1, 1) := by decide +kernel
theorem dX0_fillGroup_38 : decode cX0_fillGroup 38 = .ok (.iconst 0, 1) := by decide +kernel
theorem dX0_fillGroup_39 : decode cX0_fillGroup 39 = .ok (.iload 4, 2) := by decide +kernel
theorem dX0_fillGroup_41 : decode cX0_fillGroup 41 = .ok (.invokevirtual 170, 3) := by decide +kernel
theorem dX0_fillGroup_44 : decode cX0_fillGroup 44 = .ok (.iconst (-1), 1) := by decide +kernel
theorem dX0_fillGroup_45 : decode cX0_fillGroup 45 = .ok (.if_icmp .ne 35, 3) := by decide +kernel
theorem dX0_fillGroup_48 : decode cX0_fillGroup 48 = .ok (.aload_n 0, 1) := by decide +kernel
theorem dX0_fillGroup_49 : decode cX0_fillGroup 49 = .ok (.iload_n 1, 1) := by decide +kernel
theorem dX0_fillGroup_50 : decode cX0_fillGroup 50 = .ok (.invokevirtual 131, 3) := by decide +kernel
theorem dX0_fillGroup_53 : decode cX0_fillGroup 53 = .ok (.istore 5, 2) := by decide +kernel
theorem dX0_fillGroup_55 : decode cX0_fillGroup 55 = .ok (.aload_n 0, 1) := by decide +kernel
theorem dX0_fillGroup_56 : decode cX0_fillGroup 56 = .ok (.iload_n 1, 1) := by decide +kernel
theorem dX0_fillGroup_57 : decode cX0_fillGroup 57 = .ok (.iload 5, 2) := by decide +kernel
theorem dX0_fillGroup_59 : decode cX0_fillGroup 59 = .ok (.iconst 0, 1) := by decide +kernel
theorem dX0_fillGroup_60 : decode cX0_fillGroup 60 = .ok (.iload 4, 2) := by decide +kernel
theorem dX0_fillGroup_62 : decode cX0_fillGroup 62 = .ok (.invokevirtual 140, 3) := by decide +kernel
theorem dX0_fillGroup_65 : decode cX0_fillGroup 65 = .ok (.aload_n 0, 1) := by decide +kernel
theorem dX0_fillGroup_66 : decode cX0_fillGroup 66 = .ok (.iload_n 1, 1) := by decide +kernel
theorem dX0_fillGroup_67 : decode cX0_fillGroup 67 = .ok (.iload 5, 2) := by decide +kernel
theorem dX0_fillGroup_69 : decode cX0_fillGroup 69 = .ok (.iconst 1, 1) := by decide +kernel
theorem dX0_fillGroup_70 : decode cX0_fillGroup 70 = .ok (.aload_n 0, 1) := by decide +kernel
theorem dX0_fillGroup_71 : decode cX0_fillGroup 71 = .ok (.iload_n 1, 1) := by decide +kernel
theorem dX0_fillGroup_72 : decode cX0_fillGroup 72 = .ok (.iload 4, 2) := by decide +kernel
theorem dX0_fillGroup_74 : decode cX0_fillGroup 74 = .ok (.invokevirtual 173, 3) := by decide +kernel
theorem dX0_fillGroup_77 : decode cX0_fillGroup 77 = .ok (.invokevirtual 140, 3) := by decide +kernel
theorem dX0_fillGroup_80 : decode cX0_fillGroup 80 = .ok (.iinc 3 1, 3) := by decide +kernel
theorem dX0_fillGroup_83 : decode cX0_fillGroup 83 = .ok (.goto (-72), 3) := by decide +kernel
theorem dX0_fillGroup_86 : decode cX0_fillGroup 86 = .ok (.iconst 1, 1) := by decide +kernel
theorem dX0_fillGroup_87 : decode cX0_fillGroup 87 = .ok (.ireturn, 1) := by decide +kernel
theorem dX0_summary_0 : decode cX0_summary 0 = .ok (.aload_n 0, 1) := by decide +kernel
theorem dX0_summary_1 : decode cX0_summary 1 = .ok (.getfield 15, 3) := by decide +kernel
theorem dX0_summary_4 : decode cX0_summary 4 = .ok (.iload_n 1, 1) := by decide +kernel
theorem dX0_summary_5 : decode cX0_summary 5 = .ok (.invokevirtual 85, 3) := by decide +kernel
theorem dX0_summary_8 : decode cX0_summary 8 = .ok (.istore_n 3, 1) := by decide +kernel
theorem dX0_summary_9 : decode cX0_summary 9 = .ok (.aload_n 0, 1) := by decide +kernel
theorem dX0_summary_10 : decode cX0_summary 10 = .ok (.getfield 15, 3) := by decide +kernel
theorem dX0_summary_13 : decode cX0_summary 13 = .ok (.iload_n 1, 1) := by decide +kernel
theorem dX0_summary_14 : decode cX0_summary 14 = .ok (.invokevirtual 107, 3) := by decide +kernel
theorem dX0_summary_17 : decode cX0_summary 17 = .ok (.istore 4, 2) := by decide +kernel
theorem dX0_summary_19 : decode cX0_summary 19 = .ok (.aload_n 0, 1) := by decide +kernel
theorem dX0_summary_20 : decode cX0_summary 20 = .ok (.getfield 15, 3) := by decide +kernel
theorem dX0_summary_23 : decode cX0_summary 23 = .ok (.iload_n 1, 1) := by decide +kernel
theorem dX0_summary_24 : decode cX0_summary 24 = .ok (.invokevirtual 144, 3) := by decide +kernel
theorem dX0_summary_27 : decode cX0_summary 27 = .ok (.istore 5, 2) := by decide +kernel
theorem dX0_summary_29 : decode cX0_summary 29 = .ok (.aload_n 0, 1) := by decide +kernel
theorem dX0_summary_30 : decode cX0_summary 30 = .ok (.getfield 15, 3) := by decide +kernel
theorem dX0_summary_33 : decode cX0_summary 33 = .ok (.iload_n 1, 1) := by decide +kernel
theorem dX0_summary_34 : decode cX0_summary 34 = .ok (.invokevirtual 151, 3) := by decide +kernel
theorem dX0_summary_37 : decode cX0_summary 37 = .ok (.istore 6, 2) := by decide +kernel
theorem dX0_summary_39 : decode cX0_summary 39 = .ok (.aload_n 0, 1) := by decide +kernel
theorem dX0_summary_40 : decode cX0_summary 40 = .ok (.iload_n 3, 1) := by decide +kernel
theorem dX0_summary_41 : decode cX0_summary 41 = .ok (.invokevirtual 65, 3) := by decide +kernel
theorem dX0_summary_44 : decode cX0_summary 44 = .ok (.istore 7, 2) := by decide +kernel
theorem dX0_summary_46 : decode cX0_summary 46 = .ok (.iconst 0, 1) := by decide +kernel
theorem dX0_summary_47 : decode cX0_summary 47 = .ok (.istore 8, 2) := by decide +kernel
theorem dX0_summary_49 : decode cX0_summary 49 = .ok (.iconst 0, 1) := by decide +kernel
theorem dX0_summary_50 : decode cX0_summary 50 = .ok (.istore 9, 2) := by decide +kernel
theorem dX0_summary_52 : decode cX0_summary 52 = .ok (.iconst 0, 1) := by decide +kernel
theorem dX0_summary_53 : decode cX0_summary 53 = .ok (.istore 10, 2) := by decide +kernel
theorem dX0_summary_55 : decode cX0_summary 55 = .ok (.sipush (-1000), 3) := by decide +kernel
theorem dX0_summary_58 : decode cX0_summary 58 = .ok (.istore 11, 2) := by decide +kernel
theorem dX0_summary_60 : decode cX0_summary 60 = .ok (.iconst 0, 1) := by decide +kernel
theorem dX0_summary_61 : decode cX0_summary 61 = .ok (.istore 12, 2) := by decide +kernel
theorem dX0_summary_63 : decode cX0_summary 63 = .ok (.iload 12, 2) := by decide +kernel
theorem dX0_summary_65 : decode cX0_summary 65 = .ok (.iload 7, 2) := by decide +kernel
theorem dX0_summary_67 : decode cX0_summary 67 = .ok (.if_icmp .ge 86, 3) := by decide +kernel
theorem dX0_summary_70 : decode cX0_summary 70 = .ok (.aload_n 0, 1) := by decide +kernel
theorem dX0_summary_71 : decode cX0_summary 71 = .ok (.iload_n 3, 1) := by decide +kernel
theorem dX0_summary_72 : decode cX0_summary 72 = .ok (.iload 12, 2) := by decide +kernel
theorem dX0_summary_74 : decode cX0_summary 74 = .ok (.iload 5, 2) := by decide +kernel
theorem dX0_summary_76 : decode cX0_summary 76 = .ok (.invokevirtual 147, 3) := by decide +kernel
theorem dX0_summary_79 : decode cX0_summary 79 = .ok (.iload_n 2, 1) := by decide +kernel
theorem dX0_summary_80 : decode cX0_summary 80 = .ok (.if_icmp .eq 6, 3) := by decide +kernel
theorem dX0_summary_83 : decode cX0_summary 83 = .ok (.goto 64, 3) := by decide +kernel
theorem dX0_summary_86 : decode cX0_summary 86 = .ok (.iinc 10 1, 3) := by decide +kernel
theorem dX0_summary_89 : decode cX0_summary 89 = .ok (.aload_n 0, 1) := by decide +kernel
theorem dX0_summary_90 : decode cX0_summary 90 = .ok (.iload_n 3, 1) := by decide +kernel
theorem dX0_summary_91 : decode cX0_summary 91 = .ok (.iload 12, 2) := by decide +kernel
theorem dX0_summary_93 : decode cX0_summary 93 = .ok (.iload 6, 2) := by decide +kernel
theorem dX0_summary_95 : decode cX0_summary 95 = .ok (.invokevirtual 147, 3) := by decide +kernel
theorem dX0_summary_98 : decode cX0_summary 98 = .ok (.istore 13, 2) := by decide +kernel
theorem dX0_summary_100 : decode cX0_summary 100 = .ok (.iload 13, 2) := by decide +kernel
theorem dX0_summary_102 : decode cX0_summary 102 = .ok (.sipush (-1000), 3) := by decide +kernel
theorem dX0_summary_105 : decode cX0_summary 105 = .ok (.if_icmp .ne 6, 3) := by decide +kernel
theorem dX0_summary_108 : decode cX0_summary 108 = .ok (.goto 39, 3) := by decide +kernel
theorem dX0_summary_111 : decode cX0_summary 111 = .ok (.iload 8, 2) := by decide +kernel
theorem dX0_summary_113 : decode cX0_summary 113 = .ok (.ifCond .eq 15, 3) := by decide +kernel
theorem dX0_summary_116 : decode cX0_summary 116 = .ok (.iload 4, 2) := by decide +kernel
theorem dX0_summary_118 : decode cX0_summary 118 = .ok (.iload 13, 2) := by decide +kernel
theorem dX0_summary_120 : decode cX0_summary 120 = .ok (.iload 11, 2) := by decide +kernel
theorem dX0_summary_122 : decode cX0_summary 122 = .ok (.invokestatic 176, 3) := by decide +kernel
theorem dX0_summary_125 : decode cX0_summary 125 = .ok (.ifCond .eq 8, 3) := by decide +kernel
theorem dX0_summary_128 : decode cX0_summary 128 = .ok (.iload 13, 2) := by decide +kernel
theorem dX0_summary_130 : decode cX0_summary 130 = .ok (.goto 5, 3) := by decide +kernel
theorem dX0_summary_133 : decode cX0_summary 133 = .ok (.iload 11, 2) := by decide +kernel
theorem dX0_summary_135 : decode cX0_summary 135 = .ok (.istore 11, 2) := by decide +kernel
theorem dX0_summary_137 : decode cX0_summary 137 = .ok (.iinc 8 1, 3) := by decide +kernel
theorem dX0_summary_140 : decode cX0_summary 140 = .ok (.iload 9, 2) := by decide +kernel
theorem dX0_summary_142 : decode cX0_summary 142 = .ok (.iload 13, 2) := by decide +kernel
theorem dX0_summary_144 : decode cX0_summary 144 = .ok (.iadd, 1) := by decide +kernel
theorem dX0_summary_145 : decode cX0_summary 145 = .ok (.istore 9, 2) := by decide +kernel
theorem dX0_summary_147 : decode cX0_summary 147 = .ok (.iinc 12 1, 3) := by decide +kernel
theorem dX0_summary_150 : decode cX0_summary 150 = .ok (.goto (-87), 3) := by decide +kernel
theorem dX0_summary_153 : decode cX0_summary 153 = .ok (.iload 4, 2) := by decide +kernel
theorem dX0_summary_155 : decode cX0_summary 155 = .ok (.tableswitch 55 0 2 #[25, 28, 31], 25) := by decide +kernel
theorem dX0_summary_180 : decode cX0_summary 180 = .ok (.iload 10, 2) := by decide +kernel
theorem dX0_summary_182 : decode cX0_summary 182 = .ok (.ireturn, 1) := by decide +kernel
theorem dX0_summary_183 : decode cX0_summary 183 = .ok (.iload 8, 2) := by decide +kernel
theorem dX0_summary_185 : decode cX0_summary 185 = .ok (.ireturn, 1) := by decide +kernel
theorem dX0_summary_186 : decode cX0_summary 186 = .ok (.iload 8, 2) := by decide +kernel
theorem dX0_summary_188 : decode cX0_summary 188 = .ok (.ifCond .ne 9, 3) := by decide +kernel
theorem dX0_summary_191 : decode cX0_summary 191 = .ok (.sipush (-1000), 3) := by decide +kernel
theorem dX0_summary_194 : decode cX0_summary 194 = .ok (.goto 15, 3) := by decide +kernel
theorem dX0_summary_197 : decode cX0_summary 197 = .ok (.bipush (-99), 2) := by decide +kernel
theorem dX0_summary_199 : decode cX0_summary 199 = .ok (.bipush 99, 2) := by decide +kernel
theorem dX0_summary_201 : decode cX0_summary 201 = .ok (.iload 9, 2) := by decide +kernel
theorem dX0_summary_203 : decode cX0_summary 203 = .ok (.invokestatic 95, 3) := by decide +kernel
theorem dX0_summary_206 : decode cX0_summary 206 = .ok (.invokestatic 179, 3) := by decide +kernel
theorem dX0_summary_209 : decode cX0_summary 209 = .ok (.ireturn, 1) := by decide +kernel
theorem dX0_summary_210 : decode cX0_summary 210 = .ok (.iload 11, 2) := by decide +kernel
theorem dX0_summary_212 : decode cX0_summary 212 = .ok (.ireturn, 1) := by decide +kernel
theorem dX0_isBetter_0 : decode cX0_isBetter 0 = .ok (.iload_n 0, 1) := by decide +kernel
theorem dX0_isBetter_1 : decode cX0_isBetter 1 = .ok (.iconst 3, 1) := by decide +kernel
theorem dX0_isBetter_2 : decode cX0_isBetter 2 = .ok (.if_icmp .ne 16, 3) := by decide +kernel
theorem dX0_isBetter_5 : decode cX0_isBetter 5 = .ok (.iload_n 1, 1) := by decide +kernel
theorem dX0_isBetter_6 : decode cX0_isBetter 6 = .ok (.iload_n 2, 1) := by decide +kernel
theorem dX0_isBetter_7 : decode cX0_isBetter 7 = .ok (.if_icmp .ge 7, 3) := by decide +kernel
theorem dX0_isBetter_10 : decode cX0_isBetter 10 = .ok (.iconst 1, 1) := by decide +kernel
theorem dX0_isBetter_11 : decode cX0_isBetter 11 = .ok (.goto 17, 3) := by decide +kernel
theorem dX0_isBetter_14 : decode cX0_isBetter 14 = .ok (.iconst 0, 1) := by decide +kernel
theorem dX0_isBetter_15 : decode cX0_isBetter 15 = .ok (.goto 13, 3) := by decide +kernel
theorem dX0_isBetter_18 : decode cX0_isBetter 18 = .ok (.iload_n 1, 1) := by decide +kernel
theorem dX0_isBetter_19 : decode cX0_isBetter 19 = .ok (.iload_n 2, 1) := by decide +kernel
theorem dX0_isBetter_20 : decode cX0_isBetter 20 = .ok (.if_icmp .le 7, 3) := by decide +kernel
theorem dX0_isBetter_23 : decode cX0_isBetter 23 = .ok (.iconst 1, 1) := by decide +kernel
theorem dX0_isBetter_24 : decode cX0_isBetter 24 = .ok (.goto 4, 3) := by decide +kernel
theorem dX0_isBetter_27 : decode cX0_isBetter 27 = .ok (.iconst 0, 1) := by decide +kernel
theorem dX0_isBetter_28 : decode cX0_isBetter 28 = .ok (.ireturn, 1) := by decide +kernel
theorem dX0_fillBag_0 : decode cX0_fillBag 0 = .ok (.aload_n 0, 1) := by decide +kernel
theorem dX0_fillBag_1 : decode cX0_fillBag 1 = .ok (.getfield 15, 3) := by decide +kernel
theorem dX0_fillBag_4 : decode cX0_fillBag 4 = .ok (.iload_n 1, 1) := by decide +kernel
theorem dX0_fillBag_5 : decode cX0_fillBag 5 = .ok (.invokevirtual 85, 3) := by decide +kernel
theorem dX0_fillBag_8 : decode cX0_fillBag 8 = .ok (.istore_n 2, 1) := by decide +kernel
theorem dX0_fillBag_9 : decode cX0_fillBag 9 = .ok (.aload_n 0, 1) := by decide +kernel
theorem dX0_fillBag_10 : decode cX0_fillBag 10 = .ok (.getfield 15, 3) := by decide +kernel
theorem dX0_fillBag_13 : decode cX0_fillBag 13 = .ok (.iload_n 1, 1) := by decide +kernel
theorem dX0_fillBag_14 : decode cX0_fillBag 14 = .ok (.invokevirtual 91, 3) := by decide +kernel
theorem dX0_fillBag_17 : decode cX0_fillBag 17 = .ok (.istore_n 3, 1) := by decide +kernel
theorem dX0_fillBag_18 : decode cX0_fillBag 18 = .ok (.aload_n 0, 1) := by decide +kernel
theorem dX0_fillBag_19 : decode cX0_fillBag 19 = .ok (.getfield 15, 3) := by decide +kernel
theorem dX0_fillBag_22 : decode cX0_fillBag 22 = .ok (.iload_n 1, 1) := by decide +kernel
theorem dX0_fillBag_23 : decode cX0_fillBag 23 = .ok (.invokevirtual 107, 3) := by decide +kernel
theorem dX0_fillBag_26 : decode cX0_fillBag 26 = .ok (.lookupswitch 74 #[(0, 26), (3, 50)], 26) := by decide +kernel
theorem dX0_fillBag_52 : decode cX0_fillBag 52 = .ok (.aload_n 0, 1) := by decide +kernel
theorem dX0_fillBag_53 : decode cX0_fillBag 53 = .ok (.iload_n 1, 1) := by decide +kernel
theorem dX0_fillBag_54 : decode cX0_fillBag 54 = .ok (.iload_n 2, 1) := by decide +kernel
theorem dX0_fillBag_55 : decode cX0_fillBag 55 = .ok (.invokevirtual 182, 3) := by decide +kernel
theorem dX0_fillBag_58 : decode cX0_fillBag 58 = .ok (.ifCond .eq 16, 3) := by decide +kernel
theorem dX0_fillBag_61 : decode cX0_fillBag 61 = .ok (.aload_n 0, 1) := by decide +kernel
theorem dX0_fillBag_62 : decode cX0_fillBag 62 = .ok (.iload_n 1, 1) := by decide +kernel
theorem dX0_fillBag_63 : decode cX0_fillBag 63 = .ok (.iload_n 3, 1) := by decide +kernel
theorem dX0_fillBag_64 : decode cX0_fillBag 64 = .ok (.invokevirtual 182, 3) := by decide +kernel
theorem dX0_fillBag_67 : decode cX0_fillBag 67 = .ok (.ifCond .eq 7, 3) := by decide +kernel
theorem dX0_fillBag_70 : decode cX0_fillBag 70 = .ok (.iconst 1, 1) := by decide +kernel
theorem dX0_fillBag_71 : decode cX0_fillBag 71 = .ok (.goto 4, 3) := by decide +kernel
theorem dX0_fillBag_74 : decode cX0_fillBag 74 = .ok (.iconst 0, 1) := by decide +kernel
theorem dX0_fillBag_75 : decode cX0_fillBag 75 = .ok (.ireturn, 1) := by decide +kernel
theorem dX0_fillBag_76 : decode cX0_fillBag 76 = .ok (.aload_n 0, 1) := by decide +kernel
theorem dX0_fillBag_77 : decode cX0_fillBag 77 = .ok (.iload_n 1, 1) := by decide +kernel
theorem dX0_fillBag_78 : decode cX0_fillBag 78 = .ok (.iload_n 2, 1) := by decide +kernel
theorem dX0_fillBag_79 : decode cX0_fillBag 79 = .ok (.invokevirtual 185, 3) := by decide +kernel
theorem dX0_fillBag_82 : decode cX0_fillBag 82 = .ok (.ifCond .eq 16, 3) := by decide +kernel
theorem dX0_fillBag_85 : decode cX0_fillBag 85 = .ok (.aload_n 0, 1) := by decide +kernel
theorem dX0_fillBag_86 : decode cX0_fillBag 86 = .ok (.iload_n 1, 1) := by decide +kernel
theorem dX0_fillBag_87 : decode cX0_fillBag 87 = .ok (.iload_n 3, 1) := by decide +kernel
theorem dX0_fillBag_88 : decode cX0_fillBag 88 = .ok (.invokevirtual 185, 3) := by decide +kernel
theorem dX0_fillBag_91 : decode cX0_fillBag 91 = .ok (.ifCond .eq 7, 3) := by decide +kernel
theorem dX0_fillBag_94 : decode cX0_fillBag 94 = .ok (.iconst 1, 1) := by decide +kernel
theorem dX0_fillBag_95 : decode cX0_fillBag 95 = .ok (.goto 4, 3) := by decide +kernel
theorem dX0_fillBag_98 : decode cX0_fillBag 98 = .ok (.iconst 0, 1) := by decide +kernel
theorem dX0_fillBag_99 : decode cX0_fillBag 99 = .ok (.ireturn, 1) := by decide +kernel
theorem dX0_fillBag_100 : decode cX0_fillBag 100 = .ok (.aload_n 0, 1) := by decide +kernel
theorem dX0_fillBag_101 : decode cX0_fillBag 101 = .ok (.iload_n 1, 1) := by decide +kernel
theorem dX0_fillBag_102 : decode cX0_fillBag 102 = .ok (.aload_n 0, 1) := by decide +kernel
theorem dX0_fillBag_103 : decode cX0_fillBag 103 = .ok (.getfield 15, 3) := by decide +kernel
theorem dX0_fillBag_106 : decode cX0_fillBag 106 = .ok (.iload_n 1, 1) := by decide +kernel
theorem dX0_fillBag_107 : decode cX0_fillBag 107 = .ok (.invokevirtual 107, 3) := by decide +kernel
theorem dX0_fillBag_110 : decode cX0_fillBag 110 = .ok (.iconst 2, 1) := by decide +kernel
theorem dX0_fillBag_111 : decode cX0_fillBag 111 = .ok (.if_icmp .ne 7, 3) := by decide +kernel
theorem dX0_fillBag_114 : decode cX0_fillBag 114 = .ok (.iconst 1, 1) := by decide +kernel
theorem dX0_fillBag_115 : decode cX0_fillBag 115 = .ok (.goto 4, 3) := by decide +kernel
theorem dX0_fillBag_118 : decode cX0_fillBag 118 = .ok (.iconst 0, 1) := by decide +kernel
theorem dX0_fillBag_119 : decode cX0_fillBag 119 = .ok (.invokevirtual 188, 3) := by decide +kernel
theorem dX0_fillBag_122 : decode cX0_fillBag 122 = .ok (.ireturn, 1) := by decide +kernel
theorem dX0_copyAll_0 : decode cX0_copyAll 0 = .ok (.iconst 0, 1) := by decide +kernel
theorem dX0_copyAll_1 : decode cX0_copyAll 1 = .ok (.istore_n 3, 1) := by decide +kernel
theorem dX0_copyAll_2 : decode cX0_copyAll 2 = .ok (.iload_n 3, 1) := by decide +kernel
theorem dX0_copyAll_3 : decode cX0_copyAll 3 = .ok (.aload_n 0, 1) := by decide +kernel
theorem dX0_copyAll_4 : decode cX0_copyAll 4 = .ok (.iload_n 2, 1) := by decide +kernel
theorem dX0_copyAll_5 : decode cX0_copyAll 5 = .ok (.invokevirtual 65, 3) := by decide +kernel
theorem dX0_copyAll_8 : decode cX0_copyAll 8 = .ok (.if_icmp .ge 21, 3) := by decide +kernel
theorem dX0_copyAll_11 : decode cX0_copyAll 11 = .ok (.aload_n 0, 1) := by decide +kernel
theorem dX0_copyAll_12 : decode cX0_copyAll 12 = .ok (.iload_n 1, 1) := by decide +kernel
theorem dX0_copyAll_13 : decode cX0_copyAll 13 = .ok (.iload_n 2, 1) := by decide +kernel
theorem dX0_copyAll_14 : decode cX0_copyAll 14 = .ok (.iload_n 3, 1) := by decide +kernel
theorem dX0_copyAll_15 : decode cX0_copyAll 15 = .ok (.invokevirtual 157, 3) := by decide +kernel
theorem dX0_copyAll_18 : decode cX0_copyAll 18 = .ok (.ifCond .ne 5, 3) := by decide +kernel
theorem dX0_copyAll_21 : decode cX0_copyAll 21 = .ok (.iconst 0, 1) := by decide +kernel
theorem dX0_copyAll_22 : decode cX0_copyAll 22 = .ok (.ireturn, 1) := by decide +kernel
theorem dX0_copyAll_23 : decode cX0_copyAll 23 = .ok (.iinc 3 1, 3) := by decide +kernel
theorem dX0_copyAll_26 : decode cX0_copyAll 26 = .ok (.goto (-24), 3) := by decide +kernel
theorem dX0_copyAll_29 : decode cX0_copyAll 29 = .ok (.iconst 1, 1) := by decide +kernel
theorem dX0_copyAll_30 : decode cX0_copyAll 30 = .ok (.ireturn, 1) := by decide +kernel
theorem dX0_copyNew_0 : decode cX0_copyNew 0 = .ok (.iconst 0, 1) := by decide +kernel
theorem dX0_copyNew_1 : decode cX0_copyNew 1 = .ok (.istore_n 3, 1) := by decide +kernel
theorem dX0_copyNew_2 : decode cX0_copyNew 2 = .ok (.iload_n 3, 1) := by decide +kernel
theorem dX0_copyNew_3 : decode cX0_copyNew 3 = .ok (.aload_n 0, 1) := by decide +kernel
theorem dX0_copyNew_4 : decode cX0_copyNew 4 = .ok (.iload_n 2, 1) := by decide +kernel
theorem dX0_copyNew_5 : decode cX0_copyNew 5 = .ok (.invokevirtual 65, 3) := by decide +kernel
theorem dX0_copyNew_8 : decode cX0_copyNew 8 = .ok (.if_icmp .ge 31, 3) := by decide +kernel
theorem dX0_copyNew_11 : decode cX0_copyNew 11 = .ok (.aload_n 0, 1) := by decide +kernel
theorem dX0_copyNew_12 : decode cX0_copyNew 12 = .ok (.iload_n 1, 1) := by decide +kernel
theorem dX0_copyNew_13 : decode cX0_copyNew 13 = .ok (.iload_n 2, 1) := by decide +kernel
theorem dX0_copyNew_14 : decode cX0_copyNew 14 = .ok (.iload_n 3, 1) := by decide +kernel
theorem dX0_copyNew_15 : decode cX0_copyNew 15 = .ok (.invokevirtual 192, 3) := by decide +kernel
theorem dX0_copyNew_18 : decode cX0_copyNew 18 = .ok (.ifCond .ne 15, 3) := by decide +kernel
theorem dX0_copyNew_21 : decode cX0_copyNew 21 = .ok (.aload_n 0, 1) := by decide +kernel
theorem dX0_copyNew_22 : decode cX0_copyNew 22 = .ok (.iload_n 1, 1) := by decide +kernel
theorem dX0_copyNew_23 : decode cX0_copyNew 23 = .ok (.iload_n 2, 1) := by decide +kernel
theorem dX0_copyNew_24 : decode cX0_copyNew 24 = .ok (.iload_n 3, 1) := by decide +kernel
theorem dX0_copyNew_25 : decode cX0_copyNew 25 = .ok (.invokevirtual 157, 3) := by decide +kernel
theorem dX0_copyNew_28 : decode cX0_copyNew 28 = .ok (.ifCond .ne 5, 3) := by decide +kernel
theorem dX0_copyNew_31 : decode cX0_copyNew 31 = .ok (.iconst 0, 1) := by decide +kernel
theorem dX0_copyNew_32 : decode cX0_copyNew 32 = .ok (.ireturn, 1) := by decide +kernel
theorem dX0_copyNew_33 : decode cX0_copyNew 33 = .ok (.iinc 3 1, 3) := by decide +kernel
theorem dX0_copyNew_36 : decode cX0_copyNew 36 = .ok (.goto (-34), 3) := by decide +kernel
theorem dX0_copyNew_39 : decode cX0_copyNew 39 = .ok (.iconst 1, 1) := by decide +kernel
theorem dX0_copyNew_40 : decode cX0_copyNew 40 = .ok (.ireturn, 1) := by decide +kernel
theorem dX0_hasRowOf_0 : decode cX0_hasRowOf 0 = .ok (.aload_n 0, 1) := by decide +kernel
theorem dX0_hasRowOf_1 : decode cX0_hasRowOf 1 = .ok (.iload_n 1, 1) := by decide +kernel
theorem dX0_hasRowOf_2 : decode cX0_hasRowOf 2 = .ok (.invokevirtual 65, 3) := by decide +kernel
theorem dX0_hasRowOf_5 : decode cX0_hasRowOf 5 = .ok (.istore 4, 2) := by decide +kernel
theorem dX0_hasRowOf_7 : decode cX0_hasRowOf 7 = .ok (.iconst 0, 1) := by decide +kernel
theorem dX0_hasRowOf_8 : decode cX0_hasRowOf 8 = .ok (.istore 5, 2) := by decide +kernel
theorem dX0_hasRowOf_10 : decode cX0_hasRowOf 10 = .ok (.iload 5, 2) := by decide +kernel
theorem dX0_hasRowOf_12 : decode cX0_hasRowOf 12 = .ok (.iload 4, 2) := by decide +kernel
theorem dX0_hasRowOf_14 : decode cX0_hasRowOf 14 = .ok (.if_icmp .ge 23, 3) := by decide +kernel
theorem dX0_hasRowOf_17 : decode cX0_hasRowOf 17 = .ok (.aload_n 0, 1) := by decide +kernel
theorem dX0_hasRowOf_18 : decode cX0_hasRowOf 18 = .ok (.iload_n 1, 1) := by decide +kernel
theorem dX0_hasRowOf_19 : decode cX0_hasRowOf 19 = .ok (.iload 5, 2) := by decide +kernel
theorem dX0_hasRowOf_21 : decode cX0_hasRowOf 21 = .ok (.iload_n 2, 1) := by decide +kernel
theorem dX0_hasRowOf_22 : decode cX0_hasRowOf 22 = .ok (.iload_n 3, 1) := by decide +kernel
theorem dX0_hasRowOf_23 : decode cX0_hasRowOf 23 = .ok (.invokevirtual 195, 3) := by decide +kernel
theorem dX0_hasRowOf_26 : decode cX0_hasRowOf 26 = .ok (.ifCond .eq 5, 3) := by decide +kernel
theorem dX0_hasRowOf_29 : decode cX0_hasRowOf 29 = .ok (.iconst 1, 1) := by decide +kernel
theorem dX0_hasRowOf_30 : decode cX0_hasRowOf 30 = .ok (.ireturn, 1) := by decide +kernel
theorem dX0_hasRowOf_31 : decode cX0_hasRowOf 31 = .ok (.iinc 5 1, 3) := by decide +kernel
theorem dX0_hasRowOf_34 : decode cX0_hasRowOf 34 = .ok (.goto (-24), 3) := by decide +kernel
theorem dX0_hasRowOf_37 : decode cX0_hasRowOf 37 = .ok (.iconst 0, 1) := by decide +kernel
theorem dX0_hasRowOf_38 : decode cX0_hasRowOf 38 = .ok (.ireturn, 1) := by decide +kernel
theorem dX0_copyTaken_0 : decode cX0_copyTaken 0 = .ok (.aload_n 0, 1) := by decide +kernel
theorem dX0_copyTaken_1 : decode cX0_copyTaken 1 = .ok (.getfield 15, 3) := by decide +kernel
theorem dX0_copyTaken_4 : decode cX0_copyTaken 4 = .ok (.iload_n 1, 1) := by decide +kernel
theorem dX0_copyTaken_5 : decode cX0_copyTaken 5 = .ok (.invokevirtual 85, 3) := by decide +kernel
theorem dX0_copyTaken_8 : decode cX0_copyTaken 8 = .ok (.istore_n 3, 1) := by decide +kernel
theorem dX0_copyTaken_9 : decode cX0_copyTaken 9 = .ok (.aload_n 0, 1) := by decide +kernel
theorem dX0_copyTaken_10 : decode cX0_copyTaken 10 = .ok (.getfield 15, 3) := by decide +kernel
theorem dX0_copyTaken_13 : decode cX0_copyTaken 13 = .ok (.iload_n 1, 1) := by decide +kernel
theorem dX0_copyTaken_14 : decode cX0_copyTaken 14 = .ok (.invokevirtual 91, 3) := by decide +kernel
theorem dX0_copyTaken_17 : decode cX0_copyTaken 17 = .ok (.istore 4, 2) := by decide +kernel
theorem dX0_copyTaken_19 : decode cX0_copyTaken 19 = .ok (.aload_n 0, 1) := by decide +kernel
theorem dX0_copyTaken_20 : decode cX0_copyTaken 20 = .ok (.invokevirtual 75, 3) := by decide +kernel
theorem dX0_copyTaken_23 : decode cX0_copyTaken 23 = .ok (.iconst 0, 1) := by decide +kernel
theorem dX0_copyTaken_24 : decode cX0_copyTaken 24 = .ok (.istore 5, 2) := by decide +kernel
theorem dX0_copyTaken_26 : decode cX0_copyTaken 26 = .ok (.iload 5, 2) := by decide +kernel
theorem dX0_copyTaken_28 : decode cX0_copyTaken 28 = .ok (.aload_n 0, 1) := by decide +kernel
theorem dX0_copyTaken_29 : decode cX0_copyTaken 29 = .ok (.iload 4, 2) := by decide +kernel
theorem dX0_copyTaken_31 : decode cX0_copyTaken 31 = .ok (.invokevirtual 65, 3) := by decide +kernel
theorem dX0_copyTaken_34 : decode cX0_copyTaken 34 = .ok (.if_icmp .ge 19, 3) := by decide +kernel
theorem dX0_copyTaken_37 : decode cX0_copyTaken 37 = .ok (.aload_n 0, 1) := by decide +kernel
theorem dX0_copyTaken_38 : decode cX0_copyTaken 38 = .ok (.iload_n 3, 1) := by decide +kernel
theorem dX0_copyTaken_39 : decode cX0_copyTaken 39 = .ok (.iload 4, 2) := by decide +kernel
theorem dX0_copyTaken_41 : decode cX0_copyTaken 41 = .ok (.iload 5, 2) := by decide +kernel
theorem dX0_copyTaken_43 : decode cX0_copyTaken 43 = .ok (.invokevirtual 78, 3) := by decide +kernel
theorem dX0_copyTaken_46 : decode cX0_copyTaken 46 = .ok (.pop, 1) := by decide +kernel
theorem dX0_copyTaken_47 : decode cX0_copyTaken 47 = .ok (.iinc 5 1, 3) := by decide +kernel
theorem dX0_copyTaken_50 : decode cX0_copyTaken 50 = .ok (.goto (-24), 3) := by decide +kernel
theorem dX0_copyTaken_53 : decode cX0_copyTaken 53 = .ok (.iconst 0, 1) := by decide +kernel
theorem dX0_copyTaken_54 : decode cX0_copyTaken 54 = .ok (.istore 5, 2) := by decide +kernel
theorem dX0_copyTaken_56 : decode cX0_copyTaken 56 = .ok (.iload 5, 2) := by decide +kernel
theorem dX0_copyTaken_58 : decode cX0_copyTaken 58 = .ok (.aload_n 0, 1) := by decide +kernel
theorem dX0_copyTaken_59 : decode cX0_copyTaken 59 = .ok (.iload_n 3, 1) := by decide +kernel
theorem dX0_copyTaken_60 : decode cX0_copyTaken 60 = .ok (.invokevirtual 65, 3) := by decide +kernel
theorem dX0_copyTaken_63 : decode cX0_copyTaken 63 = .ok (.if_icmp .ge 37, 3) := by decide +kernel
theorem dX0_copyTaken_66 : decode cX0_copyTaken 66 = .ok (.iload 5, 2) := by decide +kernel
theorem dX0_copyTaken_68 : decode cX0_copyTaken 68 = .ok (.sipush 200, 3) := by decide +kernel
theorem dX0_copyTaken_71 : decode cX0_copyTaken 71 = .ok (.if_icmp .ge 29, 3) := by decide +kernel
theorem dX0_copyTaken_74 : decode cX0_copyTaken 74 = .ok (.aload_n 0, 1) := by decide +kernel
theorem dX0_copyTaken_75 : decode cX0_copyTaken 75 = .ok (.getfield 36, 3) := by decide +kernel
theorem dX0_copyTaken_78 : decode cX0_copyTaken 78 = .ok (.iload 5, 2) := by decide +kernel
theorem dX0_copyTaken_80 : decode cX0_copyTaken 80 = .ok (.baload, 1) := by decide +kernel
theorem dX0_copyTaken_81 : decode cX0_copyTaken 81 = .ok (.iload_n 2, 1) := by decide +kernel
theorem dX0_copyTaken_82 : decode cX0_copyTaken 82 = .ok (.if_icmp .ne 12, 3) := by decide +kernel
theorem dX0_copyTaken_85 : decode cX0_copyTaken 85 = .ok (.aload_n 0, 1) := by decide +kernel
theorem dX0_copyTaken_86 : decode cX0_copyTaken 86 = .ok (.iload_n 1, 1) := by decide +kernel
theorem dX0_copyTaken_87 : decode cX0_copyTaken 87 = .ok (.iload_n 3, 1) := by decide +kernel
theorem dX0_copyTaken_88 : decode cX0_copyTaken 88 = .ok (.iload 5, 2) := by decide +kernel
theorem dX0_copyTaken_90 : decode cX0_copyTaken 90 = .ok (.invokevirtual 157, 3) := by decide +kernel
theorem dX0_copyTaken_93 : decode cX0_copyTaken 93 = .ok (.pop, 1) := by decide +kernel
theorem dX0_copyTaken_94 : decode cX0_copyTaken 94 = .ok (.iinc 5 1, 3) := by decide +kernel
theorem dX0_copyTaken_97 : decode cX0_copyTaken 97 = .ok (.goto (-41), 3) := by decide +kernel
theorem dX0_copyTaken_100 : decode cX0_copyTaken 100 = .ok (.iconst 1, 1) := by decide +kernel
theorem dX0_copyTaken_101 : decode cX0_copyTaken 101 = .ok (.ireturn, 1) := by decide +kernel
theorem dX0_clearGone_0 : decode cX0_clearGone 0 = .ok (.iconst 0, 1) := by decide +kernel
theorem dX0_clearGone_1 : decode cX0_clearGone 1 = .ok (.istore_n 1, 1) := by decide +kernel
theorem dX0_clearGone_2 : decode cX0_clearGone 2 = .ok (.iload_n 1, 1) := by decide +kernel
theorem dX0_clearGone_3 : decode cX0_clearGone 3 = .ok (.sipush 200, 3) := by decide +kernel
theorem dX0_clearGone_6 : decode cX0_clearGone 6 = .ok (.if_icmp .ge 16, 3) := by decide +kernel
theorem dX0_clearGone_9 : decode cX0_clearGone 9 = .ok (.aload_n 0, 1) := by decide +kernel
theorem dX0_clearGone_10 : decode cX0_clearGone 10 = .ok (.getfield 36, 3) := by decide +kernel
theorem dX0_clearGone_13 : decode cX0_clearGone 13 = .ok (.iload_n 1, 1) := by decide +kernel
theorem dX0_clearGone_14 : decode cX0_clearGone 14 = .ok (.iconst 0, 1) := by decide +kernel
theorem dX0_clearGone_15 : decode cX0_clearGone 15 = .ok (.bastore, 1) := by decide +kernel
theorem dX0_clearGone_16 : decode cX0_clearGone 16 = .ok (.iinc 1 1, 3) := by decide +kernel
theorem dX0_clearGone_19 : decode cX0_clearGone 19 = .ok (.goto (-17), 3) := by decide +kernel
theorem dX0_clearGone_22 : decode cX0_clearGone 22 = .ok (.return_, 1) := by decide +kernel
theorem dX0_takeAway_0 : decode cX0_takeAway 0 = .ok (.aload_n 0, 1) := by decide +kernel
theorem dX0_takeAway_1 : decode cX0_takeAway 1 = .ok (.iload_n 1, 1) := by decide +kernel
theorem dX0_takeAway_2 : decode cX0_takeAway 2 = .ok (.invokevirtual 65, 3) := by decide +kernel
theorem dX0_takeAway_5 : decode cX0_takeAway 5 = .ok (.istore 4, 2) := by decide +kernel
theorem dX0_takeAway_7 : decode cX0_takeAway 7 = .ok (.iconst 0, 1) := by decide +kernel
theorem dX0_takeAway_8 : decode cX0_takeAway 8 = .ok (.istore 5, 2) := by decide +kernel
theorem dX0_takeAway_10 : decode cX0_takeAway 10 = .ok (.iload 5, 2) := by decide +kernel
theorem dX0_takeAway_12 : decode cX0_takeAway 12 = .ok (.iload 4, 2) := by decide +kernel
theorem dX0_takeAway_14 : decode cX0_takeAway 14 = .ok (.if_icmp .ge 49, 3) := by decide +kernel
theorem dX0_takeAway_17 : decode cX0_takeAway 17 = .ok (.iload 5, 2) := by decide +kernel
theorem dX0_takeAway_19 : decode cX0_takeAway 19 = .ok (.sipush 200, 3) := by decide +kernel
theorem dX0_takeAway_22 : decode cX0_takeAway 22 = .ok (.if_icmp .ge 41, 3) := by decide +kernel
theorem dX0_takeAway_25 : decode cX0_takeAway 25 = .ok (.aload_n 0, 1) := by decide +kernel
theorem dX0_takeAway_26 : decode cX0_takeAway 26 = .ok (.getfield 36, 3) := by decide +kernel
theorem dX0_takeAway_29 : decode cX0_takeAway 29 = .ok (.iload 5, 2) := by decide +kernel
theorem dX0_takeAway_31 : decode cX0_takeAway 31 = .ok (.baload, 1) := by decide +kernel
theorem dX0_takeAway_32 : decode cX0_takeAway 32 = .ok (.ifCond .ne 25, 3) := by decide +kernel
theorem dX0_takeAway_35 : decode cX0_takeAway 35 = .ok (.aload_n 0, 1) := by decide +kernel
theorem dX0_takeAway_36 : decode cX0_takeAway 36 = .ok (.iload_n 1, 1) := by decide +kernel
theorem dX0_takeAway_37 : decode cX0_takeAway 37 = .ok (.iload 5, 2) := by decide +kernel
theorem dX0_takeAway_39 : decode cX0_takeAway 39 = .ok (.iload_n 2, 1) := by decide +kernel
theorem dX0_takeAway_40 : decode cX0_takeAway 40 = .ok (.iload_n 3, 1) := by decide +kernel
theorem dX0_takeAway_41 : decode cX0_takeAway 41 = .ok (.invokevirtual 195, 3) := by decide +kernel
theorem dX0_takeAway_44 : decode cX0_takeAway 44 = .ok (.ifCond .eq 13, 3) := by decide +kernel
theorem dX0_takeAway_47 : decode cX0_takeAway 47 = .ok (.aload_n 0, 1) := by decide +kernel
theorem dX0_takeAway_48 : decode cX0_takeAway 48 = .ok (.getfield 36, 3) := by decide +kernel
theorem dX0_takeAway_51 : decode cX0_takeAway 51 = .ok (.iload 5, 2) := by decide +kernel
theorem dX0_takeAway_53 : decode cX0_takeAway 53 = .ok (.iconst 1, 1) := by decide +kernel
theorem dX0_takeAway_54 : decode cX0_takeAway 54 = .ok (.bastore, 1) := by decide +kernel
theorem dX0_takeAway_55 : decode cX0_takeAway 55 = .ok (.iconst 1, 1) := by decide +kernel
theorem dX0_takeAway_56 : decode cX0_takeAway 56 = .ok (.ireturn, 1) := by decide +kernel
theorem dX0_takeAway_57 : decode cX0_takeAway 57 = .ok (.iinc 5 1, 3) := by decide +kernel
theorem dX0_takeAway_60 : decode cX0_takeAway 60 = .ok (.goto (-50), 3) := by decide +kernel
theorem dX0_takeAway_63 : decode cX0_takeAway 63 = .ok (.iconst 0, 1) := by decide +kernel
theorem dX0_takeAway_64 : decode cX0_takeAway 64 = .ok (.ireturn, 1) := by decide +kernel
theorem dX0_areAlike_0 : decode cX0_areAlike 0 = .ok (.iload_n 1, 1) := by decide +kernel
theorem dX0_areAlike_1 : decode cX0_areAlike 1 = .ok (.sipush 1200, 3) := by decide +kernel
theorem dX0_areAlike_4 : decode cX0_areAlike 4 = .ok (.imul, 1) := by decide +kernel
theorem dX0_areAlike_5 : decode cX0_areAlike 5 = .ok (.iload_n 2, 1) := by decide +kernel
theorem dX0_areAlike_6 : decode cX0_areAlike 6 = .ok (.bipush 6, 2) := by decide +kernel
theorem dX0_areAlike_8 : decode cX0_areAlike 8 = .ok (.imul, 1) := by decide +kernel
theorem dX0_areAlike_9 : decode cX0_areAlike 9 = .ok (.iadd, 1) := by decide +kernel
theorem dX0_areAlike_10 : decode cX0_areAlike 10 = .ok (.istore 5, 2) := by decide +kernel
theorem dX0_areAlike_12 : decode cX0_areAlike 12 = .ok (.iload_n 3, 1) := by decide +kernel
theorem dX0_areAlike_13 : decode cX0_areAlike 13 = .ok (.sipush 1200, 3) := by decide +kernel
theorem dX0_areAlike_16 : decode cX0_areAlike 16 = .ok (.imul, 1) := by decide +kernel
theorem dX0_areAlike_17 : decode cX0_areAlike 17 = .ok (.iload 4, 2) := by decide +kernel
theorem dX0_areAlike_19 : decode cX0_areAlike 19 = .ok (.bipush 6, 2) := by decide +kernel
theorem dX0_areAlike_21 : decode cX0_areAlike 21 = .ok (.imul, 1) := by decide +kernel
theorem dX0_areAlike_22 : decode cX0_areAlike 22 = .ok (.iadd, 1) := by decide +kernel
theorem dX0_areAlike_23 : decode cX0_areAlike 23 = .ok (.istore 6, 2) := by decide +kernel
theorem dX0_areAlike_25 : decode cX0_areAlike 25 = .ok (.iload 5, 2) := by decide +kernel
theorem dX0_areAlike_27 : decode cX0_areAlike 27 = .ok (.aload_n 0, 1) := by decide +kernel
theorem dX0_areAlike_28 : decode cX0_areAlike 28 = .ok (.getfield 15, 3) := by decide +kernel
theorem dX0_areAlike_31 : decode cX0_areAlike 31 = .ok (.iload_n 1, 1) := by decide +kernel
theorem dX0_areAlike_32 : decode cX0_areAlike 32 = .ok (.invokevirtual 72, 3) := by decide +kernel
theorem dX0_areAlike_35 : decode cX0_areAlike 35 = .ok (.iadd, 1) := by decide +kernel
theorem dX0_areAlike_36 : decode cX0_areAlike 36 = .ok (.istore 7, 2) := by decide +kernel
theorem dX0_areAlike_38 : decode cX0_areAlike 38 = .ok (.iload 5, 2) := by decide +kernel
theorem dX0_areAlike_40 : decode cX0_areAlike 40 = .ok (.iload 7, 2) := by decide +kernel
theorem dX0_areAlike_42 : decode cX0_areAlike 42 = .ok (.if_icmp .ge 61, 3) := by decide +kernel
theorem dX0_areAlike_45 : decode cX0_areAlike 45 = .ok (.iload 5, 2) := by decide +kernel
theorem dX0_areAlike_47 : decode cX0_areAlike 47 = .ok (.ifCond .lt 56, 3) := by decide +kernel
theorem dX0_areAlike_50 : decode cX0_areAlike 50 = .ok (.iload 5, 2) := by decide +kernel
theorem dX0_areAlike_52 : decode cX0_areAlike 52 = .ok (.aload_n 0, 1) := by decide +kernel
theorem dX0_areAlike_53 : decode cX0_areAlike 53 = .ok (.getfield 19, 3) := by decide +kernel
theorem dX0_areAlike_56 : decode cX0_areAlike 56 = .ok (.arraylength, 1) := by decide +kernel
theorem dX0_areAlike_57 : decode cX0_areAlike 57 = .ok (.if_icmp .ge 46, 3) := by decide +kernel
theorem dX0_areAlike_60 : decode cX0_areAlike 60 = .ok (.iload 6, 2) := by decide +kernel
theorem dX0_areAlike_62 : decode cX0_areAlike 62 = .ok (.ifCond .lt 41, 3) := by decide +kernel
theorem dX0_areAlike_65 : decode cX0_areAlike 65 = .ok (.iload 6, 2) := by decide +kernel
theorem dX0_areAlike_67 : decode cX0_areAlike 67 = .ok (.aload_n 0, 1) := by decide +kernel
theorem dX0_areAlike_68 : decode cX0_areAlike 68 = .ok (.getfield 19, 3) := by decide +kernel
theorem dX0_areAlike_71 : decode cX0_areAlike 71 = .ok (.arraylength, 1) := by decide +kernel
theorem dX0_areAlike_72 : decode cX0_areAlike 72 = .ok (.if_icmp .ge 31, 3) := by decide +kernel
theorem dX0_areAlike_75 : decode cX0_areAlike 75 = .ok (.aload_n 0, 1) := by decide +kernel
theorem dX0_areAlike_76 : decode cX0_areAlike 76 = .ok (.getfield 19, 3) := by decide +kernel
theorem dX0_areAlike_79 : decode cX0_areAlike 79 = .ok (.iload 5, 2) := by decide +kernel
theorem dX0_areAlike_81 : decode cX0_areAlike 81 = .ok (.iaload, 1) := by decide +kernel
theorem dX0_areAlike_82 : decode cX0_areAlike 82 = .ok (.aload_n 0, 1) := by decide +kernel
theorem dX0_areAlike_83 : decode cX0_areAlike 83 = .ok (.getfield 19, 3) := by decide +kernel
theorem dX0_areAlike_86 : decode cX0_areAlike 86 = .ok (.iload 6, 2) := by decide +kernel
theorem dX0_areAlike_88 : decode cX0_areAlike 88 = .ok (.iaload, 1) := by decide +kernel
theorem dX0_areAlike_89 : decode cX0_areAlike 89 = .ok (.if_icmp .eq 5, 3) := by decide +kernel
theorem dX0_areAlike_92 : decode cX0_areAlike 92 = .ok (.iconst 0, 1) := by decide +kernel
theorem dX0_areAlike_93 : decode cX0_areAlike 93 = .ok (.ireturn, 1) := by decide +kernel
theorem dX0_areAlike_94 : decode cX0_areAlike 94 = .ok (.iinc 5 1, 3) := by decide +kernel
theorem dX0_areAlike_97 : decode cX0_areAlike 97 = .ok (.iinc 6 1, 3) := by decide +kernel
theorem dX0_areAlike_100 : decode cX0_areAlike 100 = .ok (.goto (-62), 3) := by decide +kernel
theorem dX0_areAlike_103 : decode cX0_areAlike 103 = .ok (.iconst 1, 1) := by decide +kernel
theorem dX0_areAlike_104 : decode cX0_areAlike 104 = .ok (.ireturn, 1) := by decide +kernel
theorem dX0_copyRow_0 : decode cX0_copyRow 0 = .ok (.aload_n 0, 1) := by decide +kernel
theorem dX0_copyRow_1 : decode cX0_copyRow 1 = .ok (.iload_n 1, 1) := by decide +kernel
theorem dX0_copyRow_2 : decode cX0_copyRow 2 = .ok (.invokevirtual 131, 3) := by decide +kernel
theorem dX0_copyRow_5 : decode cX0_copyRow 5 = .ok (.istore 4, 2) := by decide +kernel
theorem dX0_copyRow_7 : decode cX0_copyRow 7 = .ok (.iconst 0, 1) := by decide +kernel
theorem dX0_copyRow_8 : decode cX0_copyRow 8 = .ok (.istore 5, 2) := by decide +kernel
theorem dX0_copyRow_10 : decode cX0_copyRow 10 = .ok (.iload 5, 2) := by decide +kernel
theorem dX0_copyRow_12 : decode cX0_copyRow 12 = .ok (.aload_n 0, 1) := by decide +kernel
theorem dX0_copyRow_13 : decode cX0_copyRow 13 = .ok (.getfield 15, 3) := by decide +kernel
theorem dX0_copyRow_16 : decode cX0_copyRow 16 = .ok (.iload_n 2, 1) := by decide +kernel
theorem dX0_copyRow_17 : decode cX0_copyRow 17 = .ok (.invokevirtual 72, 3) := by decide +kernel
theorem dX0_copyRow_20 : decode cX0_copyRow 20 = .ok (.if_icmp .ge 26, 3) := by decide +kernel
theorem dX0_copyRow_23 : decode cX0_copyRow 23 = .ok (.aload_n 0, 1) := by decide +kernel
theorem dX0_copyRow_24 : decode cX0_copyRow 24 = .ok (.iload_n 1, 1) := by decide +kernel
theorem dX0_copyRow_25 : decode cX0_copyRow 25 = .ok (.iload 4, 2) := by decide +kernel
theorem dX0_copyRow_27 : decode cX0_copyRow 27 = .ok (.iload 5, 2) := by decide +kernel
theorem dX0_copyRow_29 : decode cX0_copyRow 29 = .ok (.aload_n 0, 1) := by decide +kernel
theorem dX0_copyRow_30 : decode cX0_copyRow 30 = .ok (.iload_n 2, 1) := by decide +kernel
theorem dX0_copyRow_31 : decode cX0_copyRow 31 = .ok (.iload_n 3, 1) := by decide +kernel
theorem dX0_copyRow_32 : decode cX0_copyRow 32 = .ok (.iload 5, 2) := by decide +kernel
theorem dX0_copyRow_34 : decode cX0_copyRow 34 = .ok (.invokevirtual 147, 3) := by decide +kernel
theorem dX0_copyRow_37 : decode cX0_copyRow 37 = .ok (.invokevirtual 140, 3) := by decide +kernel
theorem dX0_copyRow_40 : decode cX0_copyRow 40 = .ok (.iinc 5 1, 3) := by decide +kernel
theorem dX0_copyRow_43 : decode cX0_copyRow 43 = .ok (.goto (-33), 3) := by decide +kernel
theorem dX0_copyRow_46 : decode cX0_copyRow 46 = .ok (.iload 4, 2) := by decide +kernel
theorem dX0_copyRow_48 : decode cX0_copyRow 48 = .ok (.iconst (-1), 1) := by decide +kernel
theorem dX0_copyRow_49 : decode cX0_copyRow 49 = .ok (.if_icmp .eq 7, 3) := by decide +kernel
theorem dX0_copyRow_52 : decode cX0_copyRow 52 = .ok (.iconst 1, 1) := by decide +kernel
theorem dX0_copyRow_53 : decode cX0_copyRow 53 = .ok (.goto 4, 3) := by decide +kernel
theorem dX0_copyRow_56 : decode cX0_copyRow 56 = .ok (.iconst 0, 1) := by decide +kernel
theorem dX0_copyRow_57 : decode cX0_copyRow 57 = .ok (.ireturn, 1) := by decide +kernel
theorem dX0_copyPair_0 : decode cX0_copyPair 0 = .ok (.aload_n 0, 1) := by decide +kernel
theorem dX0_copyPair_1 : decode cX0_copyPair 1 = .ok (.getfield 15, 3) := by decide +kernel
theorem dX0_copyPair_4 : decode cX0_copyPair 4 = .ok (.iload_n 1, 1) := by decide +kernel
theorem dX0_copyPair_5 : decode cX0_copyPair 5 = .ok (.invokevirtual 85, 3) := by decide +kernel
theorem dX0_copyPair_8 : decode cX0_copyPair 8 = .ok (.istore 4, 2) := by decide +kernel
theorem dX0_copyPair_10 : decode cX0_copyPair 10 = .ok (.aload_n 0, 1) := by decide +kernel
theorem dX0_copyPair_11 : decode cX0_copyPair 11 = .ok (.getfield 15, 3) := by decide +kernel
theorem dX0_copyPair_14 : decode cX0_copyPair 14 = .ok (.iload_n 1, 1) := by decide +kernel
theorem dX0_copyPair_15 : decode cX0_copyPair 15 = .ok (.invokevirtual 91, 3) := by decide +kernel
theorem dX0_copyPair_18 : decode cX0_copyPair 18 = .ok (.istore 5, 2) := by decide +kernel
theorem dX0_copyPair_20 : decode cX0_copyPair 20 = .ok (.aload_n 0, 1) := by decide +kernel
theorem dX0_copyPair_21 : decode cX0_copyPair 21 = .ok (.getfield 15, 3) := by decide +kernel
theorem dX0_copyPair_24 : decode cX0_copyPair 24 = .ok (.iload 4, 2) := by decide +kernel
theorem dX0_copyPair_26 : decode cX0_copyPair 26 = .ok (.invokevirtual 72, 3) := by decide +kernel
theorem dX0_copyPair_29 : decode cX0_copyPair 29 = .ok (.istore 6, 2) := by decide +kernel
theorem dX0_copyPair_31 : decode cX0_copyPair 31 = .ok (.aload_n 0, 1) := by decide +kernel
theorem dX0_copyPair_32 : decode cX0_copyPair 32 = .ok (.iload_n 1, 1) := by decide +kernel
theorem dX0_copyPair_33 : decode cX0_copyPair 33 = .ok (.invokevirtual 131, 3) := by decide +kernel
theorem dX0_copyPair_36 : decode cX0_copyPair 36 = .ok (.istore 7, 2) := by decide +kernel
theorem dX0_copyPair_38 : decode cX0_copyPair 38 = .ok (.iconst 0, 1) := by decide +kernel
theorem dX0_copyPair_39 : decode cX0_copyPair 39 = .ok (.istore 8, 2) := by decide +kernel
theorem dX0_copyPair_41 : decode cX0_copyPair 41 = .ok (.iload 8, 2) := by decide +kernel
theorem dX0_copyPair_43 : decode cX0_copyPair 43 = .ok (.iload 6, 2) := by decide +kernel
theorem dX0_copyPair_45 : decode cX0_copyPair 45 = .ok (.if_icmp .ge 27, 3) := by decide +kernel
theorem dX0_copyPair_48 : decode cX0_copyPair 48 = .ok (.aload_n 0, 1) := by decide +kernel
theorem dX0_copyPair_49 : decode cX0_copyPair 49 = .ok (.iload_n 1, 1) := by decide +kernel
theorem dX0_copyPair_50 : decode cX0_copyPair 50 = .ok (.iload 7, 2) := by decide +kernel
theorem dX0_copyPair_52 : decode cX0_copyPair 52 = .ok (.iload 8, 2) := by decide +kernel
theorem dX0_copyPair_54 : decode cX0_copyPair 54 = .ok (.aload_n 0, 1) := by decide +kernel
theorem dX0_copyPair_55 : decode cX0_copyPair 55 = .ok (.iload 4, 2) := by decide +kernel
theorem dX0_copyPair_57 : decode cX0_copyPair 57 = .ok (.iload_n 2, 1) := by decide +kernel
theorem dX0_copyPair_58 : decode cX0_copyPair 58 = .ok (.iload 8, 2) := by decide +kernel
theorem dX0_copyPair_60 : decode cX0_copyPair 60 = .ok (.invokevirtual 147, 3) := by decide +kernel
theorem dX0_copyPair_63 : decode cX0_copyPair 63 = .ok (.invokevirtual 140, 3) := by decide +kernel
theorem dX0_copyPair_66 : decode cX0_copyPair 66 = .ok (.iinc 8 1, 3) := by decide +kernel
theorem dX0_copyPair_69 : decode cX0_copyPair 69 = .ok (.goto (-28), 3) := by decide +kernel
theorem dX0_copyPair_72 : decode cX0_copyPair 72 = .ok (.iconst 0, 1) := by decide +kernel
theorem dX0_copyPair_73 : decode cX0_copyPair 73 = .ok (.istore 8, 2) := by decide +kernel
theorem dX0_copyPair_75 : decode cX0_copyPair 75 = .ok (.iload 8, 2) := by decide +kernel
theorem dX0_copyPair_77 : decode cX0_copyPair 77 = .ok (.aload_n 0, 1) := by decide +kernel
theorem dX0_copyPair_78 : decode cX0_copyPair 78 = .ok (.getfield 15, 3) := by decide +kernel
theorem dX0_copyPair_81 : decode cX0_copyPair 81 = .ok (.iload 5, 2) := by decide +kernel
theorem dX0_copyPair_83 : decode cX0_copyPair 83 = .ok (.invokevirtual 72, 3) := by decide +kernel
theorem dX0_copyPair_86 : decode cX0_copyPair 86 = .ok (.if_icmp .ge 41, 3) := by decide +kernel
theorem dX0_copyPair_89 : decode cX0_copyPair 89 = .ok (.aload_n 0, 1) := by decide +kernel
theorem dX0_copyPair_90 : decode cX0_copyPair 90 = .ok (.iload_n 1, 1) := by decide +kernel
theorem dX0_copyPair_91 : decode cX0_copyPair 91 = .ok (.iload 7, 2) := by decide +kernel
theorem dX0_copyPair_93 : decode cX0_copyPair 93 = .ok (.iload 6, 2) := by decide +kernel
theorem dX0_copyPair_95 : decode cX0_copyPair 95 = .ok (.iload 8, 2) := by decide +kernel
theorem dX0_copyPair_97 : decode cX0_copyPair 97 = .ok (.iadd, 1) := by decide +kernel
theorem dX0_copyPair_98 : decode cX0_copyPair 98 = .ok (.iload_n 3, 1) := by decide +kernel
theorem dX0_copyPair_99 : decode cX0_copyPair 99 = .ok (.iconst (-1), 1) := by decide +kernel
theorem dX0_copyPair_100 : decode cX0_copyPair 100 = .ok (.if_icmp .ne 9, 3) := by decide +kernel
theorem dX0_copyPair_103 : decode cX0_copyPair 103 = .ok (.sipush (-1000), 3) := by decide +kernel
theorem dX0_copyPair_106 : decode cX0_copyPair 106 = .ok (.goto 12, 3) := by decide +kernel
theorem dX0_copyPair_109 : decode cX0_copyPair 109 = .ok (.aload_n 0, 1) := by decide +kernel
theorem dX0_copyPair_110 : decode cX0_copyPair 110 = .ok (.iload 5, 2) := by decide +kernel
theorem dX0_copyPair_112 : decode cX0_copyPair 112 = .ok (.iload_n 3, 1) := by decide +kernel
theorem dX0_copyPair_113 : decode cX0_copyPair 113 = .ok (.iload 8, 2) := by decide +kernel
theorem dX0_copyPair_115 : decode cX0_copyPair 115 = .ok (.invokevirtual 147, 3) := by decide +kernel
theorem dX0_copyPair_118 : decode cX0_copyPair 118 = .ok (.invokevirtual 140, 3) := by decide +kernel
theorem dX0_copyPair_121 : decode cX0_copyPair 121 = .ok (.iinc 8 1, 3) := by decide +kernel
theorem dX0_copyPair_124 : decode cX0_copyPair 124 = .ok (.goto (-49), 3) := by decide +kernel
theorem dX0_copyPair_127 : decode cX0_copyPair 127 = .ok (.iload 7, 2) := by decide +kernel
theorem dX0_copyPair_129 : decode cX0_copyPair 129 = .ok (.iconst (-1), 1) := by decide +kernel
theorem dX0_copyPair_130 : decode cX0_copyPair 130 = .ok (.if_icmp .eq 7, 3) := by decide +kernel
theorem dX0_copyPair_133 : decode cX0_copyPair 133 = .ok (.iconst 1, 1) := by decide +kernel
theorem dX0_copyPair_134 : decode cX0_copyPair 134 = .ok (.goto 4, 3) := by decide +kernel
theorem dX0_copyPair_137 : decode cX0_copyPair 137 = .ok (.iconst 0, 1) := by decide +kernel
theorem dX0_copyPair_138 : decode cX0_copyPair 138 = .ok (.ireturn, 1) := by decide +kernel
theorem dX0_newRow_0 : decode cX0_newRow 0 = .ok (.iload_n 1, 1) := by decide +kernel
theorem dX0_newRow_1 : decode cX0_newRow 1 = .ok (.ifCond .lt 21, 3) := by decide +kernel
theorem dX0_newRow_4 : decode cX0_newRow 4 = .ok (.iload_n 1, 1) := by decide +kernel
theorem dX0_newRow_5 : decode cX0_newRow 5 = .ok (.bipush 24, 2) := by decide +kernel
theorem dX0_newRow_7 : decode cX0_newRow 7 = .ok (.if_icmp .ge 15, 3) := by decide +kernel
theorem dX0_newRow_10 : decode cX0_newRow 10 = .ok (.aload_n 0, 1) := by decide +kernel
theorem dX0_newRow_11 : decode cX0_newRow 11 = .ok (.getfield 23, 3) := by decide +kernel
theorem dX0_newRow_14 : decode cX0_newRow 14 = .ok (.iload_n 1, 1) := by decide +kernel
theorem dX0_newRow_15 : decode cX0_newRow 15 = .ok (.iaload, 1) := by decide +kernel
theorem dX0_newRow_16 : decode cX0_newRow 16 = .ok (.sipush 200, 3) := by decide +kernel
theorem dX0_newRow_19 : decode cX0_newRow 19 = .ok (.if_icmp .lt 5, 3) := by decide +kernel
theorem dX0_newRow_22 : decode cX0_newRow 22 = .ok (.iconst (-1), 1) := by decide +kernel
theorem dX0_newRow_23 : decode cX0_newRow 23 = .ok (.ireturn, 1) := by decide +kernel
theorem dX0_newRow_24 : decode cX0_newRow 24 = .ok (.aload_n 0, 1) := by decide +kernel
theorem dX0_newRow_25 : decode cX0_newRow 25 = .ok (.getfield 23, 3) := by decide +kernel
theorem dX0_newRow_28 : decode cX0_newRow 28 = .ok (.iload_n 1, 1) := by decide +kernel
theorem dX0_newRow_29 : decode cX0_newRow 29 = .ok (.dup2, 1) := by decide +kernel
theorem dX0_newRow_30 : decode cX0_newRow 30 = .ok (.iaload, 1) := by decide +kernel
theorem dX0_newRow_31 : decode cX0_newRow 31 = .ok (.iconst 1, 1) := by decide +kernel
theorem dX0_newRow_32 : decode cX0_newRow 32 = .ok (.iadd, 1) := by decide +kernel
theorem dX0_newRow_33 : decode cX0_newRow 33 = .ok (.iastore, 1) := by decide +kernel
theorem dX0_newRow_34 : decode cX0_newRow 34 = .ok (.aload_n 0, 1) := by decide +kernel
theorem dX0_newRow_35 : decode cX0_newRow 35 = .ok (.getfield 23, 3) := by decide +kernel
theorem dX0_newRow_38 : decode cX0_newRow 38 = .ok (.iload_n 1, 1) := by decide +kernel
theorem dX0_newRow_39 : decode cX0_newRow 39 = .ok (.iaload, 1) := by decide +kernel
theorem dX0_newRow_40 : decode cX0_newRow 40 = .ok (.iconst 1, 1) := by decide +kernel
theorem dX0_newRow_41 : decode cX0_newRow 41 = .ok (.isub, 1) := by decide +kernel
theorem dX0_newRow_42 : decode cX0_newRow 42 = .ok (.ireturn, 1) := by decide +kernel
theorem dX0_put_0 : decode cX0_put 0 = .ok (.iload_n 1, 1) := by decide +kernel
theorem dX0_put_1 : decode cX0_put 1 = .ok (.sipush 1200, 3) := by decide +kernel
theorem dX0_put_4 : decode cX0_put 4 = .ok (.imul, 1) := by decide +kernel
theorem dX0_put_5 : decode cX0_put 5 = .ok (.iload_n 2, 1) := by decide +kernel
theorem dX0_put_6 : decode cX0_put 6 = .ok (.bipush 6, 2) := by decide +kernel
theorem dX0_put_8 : decode cX0_put 8 = .ok (.imul, 1) := by decide +kernel
theorem dX0_put_9 : decode cX0_put 9 = .ok (.iadd, 1) := by decide +kernel
theorem dX0_put_10 : decode cX0_put 10 = .ok (.iload_n 3, 1) := by decide +kernel
theorem dX0_put_11 : decode cX0_put 11 = .ok (.iadd, 1) := by decide +kernel
theorem dX0_put_12 : decode cX0_put 12 = .ok (.istore 5, 2) := by decide +kernel
theorem dX0_put_14 : decode cX0_put 14 = .ok (.iload_n 2, 1) := by decide +kernel
theorem dX0_put_15 : decode cX0_put 15 = .ok (.ifCond .lt 27, 3) := by decide +kernel
theorem dX0_put_18 : decode cX0_put 18 = .ok (.iload 5, 2) := by decide +kernel
theorem dX0_put_20 : decode cX0_put 20 = .ok (.ifCond .lt 22, 3) := by decide +kernel
theorem dX0_put_23 : decode cX0_put 23 = .ok (.iload 5, 2) := by decide +kernel
theorem dX0_put_25 : decode cX0_put 25 = .ok (.aload_n 0, 1) := by decide +kernel
theorem dX0_put_26 : decode cX0_put 26 = .ok (.getfield 19, 3) := by decide +kernel
theorem dX0_put_29 : decode cX0_put 29 = .ok (.arraylength, 1) := by decide +kernel
theorem dX0_put_30 : decode cX0_put 30 = .ok (.if_icmp .ge 12, 3) := by decide +kernel
theorem dX0_put_33 : decode cX0_put 33 = .ok (.aload_n 0, 1) := by decide +kernel
theorem dX0_put_34 : decode cX0_put 34 = .ok (.getfield 19, 3) := by decide +kernel
theorem dX0_put_37 : decode cX0_put 37 = .ok (.iload 5, 2) := by decide +kernel
theorem dX0_put_39 : decode cX0_put 39 = .ok (.iload 4, 2) := by decide +kernel
theorem dX0_put_41 : decode cX0_put 41 = .ok (.iastore, 1) := by decide +kernel
theorem dX0_put_42 : decode cX0_put 42 = .ok (.return_, 1) := by decide +kernel
theorem dX1_init_0 : decode cX1_init 0 = .ok (.aload_n 0, 1) := by decide +kernel
theorem dX1_init_1 : decode cX1_init 1 = .ok (.invokespecial 3, 3) := by decide +kernel
theorem dX1_init_4 : decode cX1_init 4 = .ok (.aload_n 0, 1) := by decide +kernel
theorem dX1_init_5 : decode cX1_init 5 = .ok (.aload_n 1, 1) := by decide +kernel
theorem dX1_init_6 : decode cX1_init 6 = .ok (.putfield 9, 3) := by decide +kernel
theorem dX1_init_9 : decode cX1_init 9 = .ok (.aload_n 0, 1) := by decide +kernel
theorem dX1_init_10 : decode cX1_init 10 = .ok (.bipush 6, 2) := by decide +kernel
theorem dX1_init_12 : decode cX1_init 12 = .ok (.newarray .int, 2) := by decide +kernel
theorem dX1_init_14 : decode cX1_init 14 = .ok (.putfield 15, 3) := by decide +kernel
theorem dX1_init_17 : decode cX1_init 17 = .ok (.aload_n 0, 1) := by decide +kernel
theorem dX1_init_18 : decode cX1_init 18 = .ok (.bipush 6, 2) := by decide +kernel
theorem dX1_init_20 : decode cX1_init 20 = .ok (.newarray .int, 2) := by decide +kernel
theorem dX1_init_22 : decode cX1_init 22 = .ok (.putfield 19, 3) := by decide +kernel
theorem dX1_init_25 : decode cX1_init 25 = .ok (.aload_n 0, 1) := by decide +kernel
theorem dX1_init_26 : decode cX1_init 26 = .ok (.bipush 6, 2) := by decide +kernel
theorem dX1_init_28 : decode cX1_init 28 = .ok (.newarray .int, 2) := by decide +kernel
theorem dX1_init_30 : decode cX1_init 30 = .ok (.putfield 22, 3) := by decide +kernel
theorem dX1_init_33 : decode cX1_init 33 = .ok (.aload_n 0, 1) := by decide +kernel
theorem dX1_init_34 : decode cX1_init 34 = .ok (.bipush 6, 2) := by decide +kernel
theorem dX1_init_36 : decode cX1_init 36 = .ok (.newarray .int, 2) := by decide +kernel
theorem dX1_init_38 : decode cX1_init 38 = .ok (.putfield 25, 3) := by decide +kernel
theorem dX1_init_41 : decode cX1_init 41 = .ok (.aload_n 0, 1) := by decide +kernel
theorem dX1_init_42 : decode cX1_init 42 = .ok (.iconst 4, 1) := by decide +kernel
theorem dX1_init_43 : decode cX1_init 43 = .ok (.newarray .int, 2) := by decide +kernel
theorem dX1_init_45 : decode cX1_init 45 = .ok (.putfield 28, 3) := by decide +kernel
theorem dX1_init_48 : decode cX1_init 48 = .ok (.aload_n 0, 1) := by decide +kernel
theorem dX1_init_49 : decode cX1_init 49 = .ok (.bipush 6, 2) := by decide +kernel
theorem dX1_init_51 : decode cX1_init 51 = .ok (.newarray .int, 2) := by decide +kernel
theorem dX1_init_53 : decode cX1_init 53 = .ok (.putfield 31, 3) := by decide +kernel
theorem dX1_init_56 : decode cX1_init 56 = .ok (.aload_n 0, 1) := by decide +kernel
theorem dX1_init_57 : decode cX1_init 57 = .ok (.bipush 16, 2) := by decide +kernel
theorem dX1_init_59 : decode cX1_init 59 = .ok (.newarray .int, 2) := by decide +kernel
theorem dX1_init_61 : decode cX1_init 61 = .ok (.putfield 34, 3) := by decide +kernel
theorem dX1_init_64 : decode cX1_init 64 = .ok (.aload_n 0, 1) := by decide +kernel
theorem dX1_init_65 : decode cX1_init 65 = .ok (.bipush 16, 2) := by decide +kernel
theorem dX1_init_67 : decode cX1_init 67 = .ok (.newarray .int, 2) := by decide +kernel
theorem dX1_init_69 : decode cX1_init 69 = .ok (.putfield 37, 3) := by decide +kernel
theorem dX1_init_72 : decode cX1_init 72 = .ok (.return_, 1) := by decide +kernel
theorem dX1_isFull_0 : decode cX1_isFull 0 = .ok (.aload_n 0, 1) := by decide +kernel
theorem dX1_isFull_1 : decode cX1_isFull 1 = .ok (.getfield 40, 3) := by decide +kernel
theorem dX1_isFull_4 : decode cX1_isFull 4 = .ok (.bipush 6, 2) := by decide +kernel
theorem dX1_isFull_6 : decode cX1_isFull 6 = .ok (.if_icmp .lt 7, 3) := by decide +kernel
theorem dX1_isFull_9 : decode cX1_isFull 9 = .ok (.iconst 1, 1) := by decide +kernel
theorem dX1_isFull_10 : decode cX1_isFull 10 = .ok (.goto 4, 3) := by decide +kernel
theorem dX1_isFull_13 : decode cX1_isFull 13 = .ok (.iconst 0, 1) := by decide +kernel
theorem dX1_isFull_14 : decode cX1_isFull 14 = .ok (.ireturn, 1) := by decide +kernel
theorem dX1_append_0 : decode cX1_append 0 = .ok (.aload_n 0, 1) := by decide +kernel
theorem dX1_append_1 : decode cX1_append 1 = .ok (.getfield 40, 3) := by decide +kernel
theorem dX1_append_4 : decode cX1_append 4 = .ok (.bipush 6, 2) := by decide +kernel
theorem dX1_append_6 : decode cX1_append 6 = .ok (.if_icmp .ge 54, 3) := by decide +kernel
theorem dX1_append_9 : decode cX1_append 9 = .ok (.aload_n 0, 1) := by decide +kernel
theorem dX1_append_10 : decode cX1_append 10 = .ok (.getfield 15, 3) := by decide +kernel
theorem dX1_append_13 : decode cX1_append 13 = .ok (.aload_n 0, 1) := by decide +kernel
theorem dX1_append_14 : decode cX1_append 14 = .ok (.getfield 40, 3) := by decide +kernel
theorem dX1_append_17 : decode cX1_append 17 = .ok (.iload_n 1, 1) := by decide +kernel
theorem dX1_append_18 : decode cX1_append 18 = .ok (.iastore, 1) := by decide +kernel
theorem dX1_append_19 : decode cX1_append 19 = .ok (.aload_n 0, 1) := by decide +kernel
theorem dX1_append_20 : decode cX1_append 20 = .ok (.getfield 19, 3) := by decide +kernel
theorem dX1_append_23 : decode cX1_append 23 = .ok (.aload_n 0, 1) := by decide +kernel
theorem dX1_append_24 : decode cX1_append 24 = .ok (.getfield 40, 3) := by decide +kernel
theorem dX1_append_27 : decode cX1_append 27 = .ok (.iload_n 2, 1) := by decide +kernel
theorem dX1_append_28 : decode cX1_append 28 = .ok (.iastore, 1) := by decide +kernel
theorem dX1_append_29 : decode cX1_append 29 = .ok (.aload_n 0, 1) := by decide +kernel
theorem dX1_append_30 : decode cX1_append 30 = .ok (.getfield 22, 3) := by decide +kernel
theorem dX1_append_33 : decode cX1_append 33 = .ok (.aload_n 0, 1) := by decide +kernel
theorem dX1_append_34 : decode cX1_append 34 = .ok (.getfield 40, 3) := by decide +kernel
theorem dX1_append_37 : decode cX1_append 37 = .ok (.iload_n 3, 1) := by decide +kernel
theorem dX1_append_38 : decode cX1_append 38 = .ok (.iastore, 1) := by decide +kernel
theorem dX1_append_39 : decode cX1_append 39 = .ok (.aload_n 0, 1) := by decide +kernel
theorem dX1_append_40 : decode cX1_append 40 = .ok (.getfield 25, 3) := by decide +kernel
theorem dX1_append_43 : decode cX1_append 43 = .ok (.aload_n 0, 1) := by decide +kernel
theorem dX1_append_44 : decode cX1_append 44 = .ok (.getfield 40, 3) := by decide +kernel
theorem dX1_append_47 : decode cX1_append 47 = .ok (.iload 4, 2) := by decide +kernel
theorem dX1_append_49 : decode cX1_append 49 = .ok (.iastore, 1) := by decide +kernel
theorem dX1_append_50 : decode cX1_append 50 = .ok (.aload_n 0, 1) := by decide +kernel
theorem dX1_append_51 : decode cX1_append 51 = .ok (.dup, 1) := by decide +kernel
theorem dX1_append_52 : decode cX1_append 52 = .ok (.getfield 40, 3) := by decide +kernel
theorem dX1_append_55 : decode cX1_append 55 = .ok (.iconst 1, 1) := by decide +kernel
theorem dX1_append_56 : decode cX1_append 56 = .ok (.iadd, 1) := by decide +kernel
theorem dX1_append_57 : decode cX1_append 57 = .ok (.putfield 40, 3) := by decide +kernel
theorem dX1_append_60 : decode cX1_append 60 = .ok (.aload_n 0, 1) := by decide +kernel
theorem dX1_append_61 : decode cX1_append 61 = .ok (.getfield 40, 3) := by decide +kernel
theorem dX1_append_64 : decode cX1_append 64 = .ok (.ireturn, 1) := by decide +kernel
theorem dX1_estimateOf_0 : decode cX1_estimateOf 0 = .ok (.aload_n 0, 1) := by decide +kernel
theorem dX1_estimateOf_1 : decode cX1_estimateOf 1 = .ok (.invokevirtual 44, 3) := by decide +kernel
theorem dX1_estimateOf_4 : decode cX1_estimateOf 4 = .ok (.aload_n 0, 1) := by decide +kernel
theorem dX1_estimateOf_5 : decode cX1_estimateOf 5 = .ok (.iload_n 1, 1) := by decide +kernel
theorem dX1_estimateOf_6 : decode cX1_estimateOf 6 = .ok (.invokevirtual 47, 3) := by decide +kernel
theorem dX1_estimateOf_9 : decode cX1_estimateOf 9 = .ok (.ireturn, 1) := by decide +kernel
theorem dX1_bestCost_0 : decode cX1_bestCost 0 = .ok (.aload_n 0, 1) := by decide +kernel
theorem dX1_bestCost_1 : decode cX1_bestCost 1 = .ok (.iload_n 1, 1) := by decide +kernel
theorem dX1_bestCost_2 : decode cX1_bestCost 2 = .ok (.invokevirtual 51, 3) := by decide +kernel
theorem dX1_bestCost_5 : decode cX1_bestCost 5 = .ok (.iload_n 1, 1) := by decide +kernel
theorem dX1_bestCost_6 : decode cX1_bestCost 6 = .ok (.ifCond .lt 18, 3) := by decide +kernel
theorem dX1_bestCost_9 : decode cX1_bestCost 9 = .ok (.iload_n 1, 1) := by decide +kernel
theorem dX1_bestCost_10 : decode cX1_bestCost 10 = .ok (.bipush 16, 2) := by decide +kernel
theorem dX1_bestCost_12 : decode cX1_bestCost 12 = .ok (.if_icmp .ge 12, 3) := by decide +kernel
theorem dX1_bestCost_15 : decode cX1_bestCost 15 = .ok (.aload_n 0, 1) := by decide +kernel
theorem dX1_bestCost_16 : decode cX1_bestCost 16 = .ok (.getfield 34, 3) := by decide +kernel
theorem dX1_bestCost_19 : decode cX1_bestCost 19 = .ok (.iload_n 1, 1) := by decide +kernel
theorem dX1_bestCost_20 : decode cX1_bestCost 20 = .ok (.iaload, 1) := by decide +kernel
theorem dX1_bestCost_21 : decode cX1_bestCost 21 = .ok (.goto 4, 3) := by decide +kernel
theorem dX1_bestCost_24 : decode cX1_bestCost 24 = .ok (.iconst 0, 1) := by decide +kernel
theorem dX1_bestCost_25 : decode cX1_bestCost 25 = .ok (.ireturn, 1) := by decide +kernel
theorem dX1_bestPart_0 : decode cX1_bestPart 0 = .ok (.aload_n 0, 1) := by decide +kernel
theorem dX1_bestPart_1 : decode cX1_bestPart 1 = .ok (.iload_n 1, 1) := by decide +kernel
theorem dX1_bestPart_2 : decode cX1_bestPart 2 = .ok (.invokevirtual 51, 3) := by decide +kernel
theorem dX1_bestPart_5 : decode cX1_bestPart 5 = .ok (.iload_n 1, 1) := by decide +kernel
theorem dX1_bestPart_6 : decode cX1_bestPart 6 = .ok (.ifCond .lt 18, 3) := by decide +kernel
theorem dX1_bestPart_9 : decode cX1_bestPart 9 = .ok (.iload_n 1, 1) := by decide +kernel
theorem dX1_bestPart_10 : decode cX1_bestPart 10 = .ok (.bipush 16, 2) := by decide +kernel
theorem dX1_bestPart_12 : decode cX1_bestPart 12 = .ok (.if_icmp .ge 12, 3) := by decide +kernel
theorem dX1_bestPart_15 : decode cX1_bestPart 15 = .ok (.aload_n 0, 1) := by decide +kernel
theorem dX1_bestPart_16 : decode cX1_bestPart 16 = .ok (.getfield 37, 3) := by decide +kernel
theorem dX1_bestPart_19 : decode cX1_bestPart 19 = .ok (.iload_n 1, 1) := by decide +kernel
theorem dX1_bestPart_20 : decode cX1_bestPart 20 = .ok (.iaload, 1) := by decide +kernel
theorem dX1_bestPart_21 : decode cX1_bestPart 21 = .ok (.goto 4, 3) := by decide +kernel
theorem dX1_bestPart_24 : decode cX1_bestPart 24 = .ok (.iconst 0, 1) := by decide +kernel
theorem dX1_bestPart_25 : decode cX1_bestPart 25 = .ok (.ireturn, 1) := by decide +kernel
theorem dX1_planUpTo_0 : decode cX1_planUpTo 0 = .ok (.aload_n 0, 1) := by decide +kernel
theorem dX1_planUpTo_1 : decode cX1_planUpTo 1 = .ok (.invokevirtual 44, 3) := by decide +kernel
theorem dX1_planUpTo_4 : decode cX1_planUpTo 4 = .ok (.iconst 1, 1) := by decide +kernel
theorem dX1_planUpTo_5 : decode cX1_planUpTo 5 = .ok (.istore_n 2, 1) := by decide +kernel
theorem dX1_planUpTo_6 : decode cX1_planUpTo 6 = .ok (.iload_n 2, 1) := by decide +kernel
theorem dX1_planUpTo_7 : decode cX1_planUpTo 7 = .ok (.iload_n 1, 1) := by decide +kernel
theorem dX1_planUpTo_8 : decode cX1_planUpTo 8 = .ok (.if_icmp .gt 27, 3) := by decide +kernel
theorem dX1_planUpTo_11 : decode cX1_planUpTo 11 = .ok (.iload_n 2, 1) := by decide +kernel
theorem dX1_planUpTo_12 : decode cX1_planUpTo 12 = .ok (.bipush 16, 2) := by decide +kernel
theorem dX1_planUpTo_14 : decode cX1_planUpTo 14 = .ok (.if_icmp .ge 21, 3) := by decide +kernel
theorem dX1_planUpTo_17 : decode cX1_planUpTo 17 = .ok (.iload_n 2, 1) := by decide +kernel
theorem dX1_planUpTo_18 : decode cX1_planUpTo 18 = .ok (.iload_n 1, 1) := by decide +kernel
theorem dX1_planUpTo_19 : decode cX1_planUpTo 19 = .ok (.iand, 1) := by decide +kernel
theorem dX1_planUpTo_20 : decode cX1_planUpTo 20 = .ok (.iload_n 2, 1) := by decide +kernel
theorem dX1_planUpTo_21 : decode cX1_planUpTo 21 = .ok (.if_icmp .ne 8, 3) := by decide +kernel
theorem dX1_planUpTo_24 : decode cX1_planUpTo 24 = .ok (.aload_n 0, 1) := by decide +kernel
theorem dX1_planUpTo_25 : decode cX1_planUpTo 25 = .ok (.iload_n 2, 1) := by decide +kernel
theorem dX1_planUpTo_26 : decode cX1_planUpTo 26 = .ok (.invokevirtual 55, 3) := by decide +kernel
theorem dX1_planUpTo_29 : decode cX1_planUpTo 29 = .ok (.iinc 2 1, 3) := by decide +kernel
theorem dX1_planUpTo_32 : decode cX1_planUpTo 32 = .ok (.goto (-26), 3) := by decide +kernel
theorem dX1_planUpTo_35 : decode cX1_planUpTo 35 = .ok (.return_, 1) := by decide +kernel
theorem dX1_measure_0 : decode cX1_measure 0 = .ok (.iconst 0, 1) := by decide +kernel
theorem dX1_measure_1 : decode cX1_measure 1 = .ok (.istore_n 1, 1) := by decide +kernel
theorem dX1_measure_2 : decode cX1_measure 2 = .ok (.iload_n 1, 1) := by decide +kernel
theorem dX1_measure_3 : decode cX1_measure 3 = .ok (.iconst 4, 1) := by decide +kernel
theorem dX1_measure_4 : decode cX1_measure 4 = .ok (.if_icmp .ge 27, 3) := by decide +kernel
theorem dX1_measure_7 : decode cX1_measure 7 = .ok (.aload_n 0, 1) := by decide +kernel
theorem dX1_measure_8 : decode cX1_measure 8 = .ok (.getfield 28, 3) := by decide +kernel
theorem dX1_measure_11 : decode cX1_measure 11 = .ok (.iload_n 1, 1) := by decide +kernel
theorem dX1_measure_12 : decode cX1_measure 12 = .ok (.iconst 1, 1) := by decide +kernel
theorem dX1_measure_13 : decode cX1_measure 13 = .ok (.aload_n 0, 1) := by decide +kernel
theorem dX1_measure_14 : decode cX1_measure 14 = .ok (.getfield 9, 3) := by decide +kernel
theorem dX1_measure_17 : decode cX1_measure 17 = .ok (.iload_n 1, 1) := by decide +kernel
theorem dX1_measure_18 : decode cX1_measure 18 = .ok (.invokevirtual 58, 3) := by decide +kernel
theorem dX1_measure_21 : decode cX1_measure 21 = .ok (.invokestatic 63, 3) := by decide +kernel
theorem dX1_measure_24 : decode cX1_measure 24 = .ok (.iastore, 1) := by decide +kernel
theorem dX1_measure_25 : decode cX1_measure 25 = .ok (.iinc 1 1, 3) := by decide +kernel
theorem dX1_measure_28 : decode cX1_measure 28 = .ok (.goto (-26), 3) := by decide +kernel
theorem dX1_measure_31 : decode cX1_measure 31 = .ok (.iconst 0, 1) := by decide +kernel
theorem dX1_measure_32 : decode cX1_measure 32 = .ok (.istore_n 1, 1) := by decide +kernel
theorem dX1_measure_33 : decode cX1_measure 33 = .ok (.iload_n 1, 1) := by decide +kernel
theorem dX1_measure_34 : decode cX1_measure 34 = .ok (.aload_n 0, 1) := by decide +kernel
theorem dX1_measure_35 : decode cX1_measure 35 = .ok (.getfield 40, 3) := by decide +kernel
theorem dX1_measure_38 : decode cX1_measure 38 = .ok (.if_icmp .ge 70, 3) := by decide +kernel
theorem dX1_measure_41 : decode cX1_measure 41 = .ok (.iload_n 1, 1) := by decide +kernel
theorem dX1_measure_42 : decode cX1_measure 42 = .ok (.bipush 6, 2) := by decide +kernel
theorem dX1_measure_44 : decode cX1_measure 44 = .ok (.if_icmp .ge 64, 3) := by decide +kernel
theorem dX1_measure_47 : decode cX1_measure 47 = .ok (.aload_n 0, 1) := by decide +kernel
theorem dX1_measure_48 : decode cX1_measure 48 = .ok (.getfield 9, 3) := by decide +kernel
theorem dX1_measure_51 : decode cX1_measure 51 = .ok (.aload_n 0, 1) := by decide +kernel
theorem dX1_measure_52 : decode cX1_measure 52 = .ok (.getfield 15, 3) := by decide +kernel
theorem dX1_measure_55 : decode cX1_measure 55 = .ok (.iload_n 1, 1) := by decide +kernel
theorem dX1_measure_56 : decode cX1_measure 56 = .ok (.iaload, 1) := by decide +kernel
theorem dX1_measure_57 : decode cX1_measure 57 = .ok (.aload_n 0, 1) := by decide +kernel
theorem dX1_measure_58 : decode cX1_measure 58 = .ok (.getfield 19, 3) := by decide +kernel
theorem dX1_measure_61 : decode cX1_measure 61 = .ok (.iload_n 1, 1) := by decide +kernel
theorem dX1_measure_62 : decode cX1_measure 62 = .ok (.iaload, 1) := by decide +kernel
theorem dX1_measure_63 : decode cX1_measure 63 = .ok (.invokevirtual 69, 3) := by decide +kernel
theorem dX1_measure_66 : decode cX1_measure 66 = .ok (.istore_n 2, 1) := by decide +kernel
theorem dX1_measure_67 : decode cX1_measure 67 = .ok (.aload_n 0, 1) := by decide +kernel
theorem dX1_measure_68 : decode cX1_measure 68 = .ok (.getfield 9, 3) := by decide +kernel
theorem dX1_measure_71 : decode cX1_measure 71 = .ok (.aload_n 0, 1) := by decide +kernel
theorem dX1_measure_72 : decode cX1_measure 72 = .ok (.getfield 22, 3) := by decide +kernel
theorem dX1_measure_75 : decode cX1_measure 75 = .ok (.iload_n 1, 1) := by decide +kernel
theorem dX1_measure_76 : decode cX1_measure 76 = .ok (.iaload, 1) := by decide +kernel
theorem dX1_measure_77 : decode cX1_measure 77 = .ok (.aload_n 0, 1) := by decide +kernel
theorem dX1_measure_78 : decode cX1_measure 78 = .ok (.getfield 25, 3) := by decide +kernel
theorem dX1_measure_81 : decode cX1_measure 81 = .ok (.iload_n 1, 1) := by decide +kernel
theorem dX1_measure_82 : decode cX1_measure 82 = .ok (.iaload, 1) := by decide +kernel
theorem dX1_measure_83 : decode cX1_measure 83 = .ok (.invokevirtual 69, 3) := by decide +kernel
theorem dX1_measure_86 : decode cX1_measure 86 = .ok (.istore_n 3, 1) := by decide +kernel
theorem dX1_measure_87 : decode cX1_measure 87 = .ok (.aload_n 0, 1) := by decide +kernel
theorem dX1_measure_88 : decode cX1_measure 88 = .ok (.getfield 31, 3) := by decide +kernel
theorem dX1_measure_91 : decode cX1_measure 91 = .ok (.iload_n 1, 1) := by decide +kernel
theorem dX1_measure_92 : decode cX1_measure 92 = .ok (.iconst 1, 1) := by decide +kernel
theorem dX1_measure_93 : decode cX1_measure 93 = .ok (.iload_n 2, 1) := by decide +kernel
theorem dX1_measure_94 : decode cX1_measure 94 = .ok (.iload_n 3, 1) := by decide +kernel
theorem dX1_measure_95 : decode cX1_measure 95 = .ok (.invokestatic 63, 3) := by decide +kernel
theorem dX1_measure_98 : decode cX1_measure 98 = .ok (.invokestatic 63, 3) := by decide +kernel
theorem dX1_measure_101 : decode cX1_measure 101 = .ok (.iastore, 1) := by decide +kernel
theorem dX1_measure_102 : decode cX1_measure 102 = .ok (.iinc 1 1, 3) := by decide +kernel
theorem dX1_measure_105 : decode cX1_measure 105 = .ok (.goto (-72), 3) := by decide +kernel
theorem dX1_measure_108 : decode cX1_measure 108 = .ok (.return_, 1) := by decide +kernel
theorem dX1_guess_0 : decode cX1_guess 0 = .ok (.iconst 1, 1) := by decide +kernel
theorem dX1_guess_1 : decode cX1_guess 1 = .ok (.istore_n 2, 1) := by decide +kernel
theorem dX1_guess_2 : decode cX1_guess 2 = .ok (.iconst 0, 1) := by decide +kernel
theorem dX1_guess_3 : decode cX1_guess 3 = .ok (.istore_n 3, 1) := by decide +kernel
theorem dX1_guess_4 : decode cX1_guess 4 = .ok (.iload_n 3, 1) := by decide +kernel
theorem dX1_guess_5 : decode cX1_guess 5 = .ok (.iconst 4, 1) := by decide +kernel
theorem dX1_guess_6 : decode cX1_guess 6 = .ok (.if_icmp .ge 26, 3) := by decide +kernel
theorem dX1_guess_9 : decode cX1_guess 9 = .ok (.iload_n 1, 1) := by decide +kernel
theorem dX1_guess_10 : decode cX1_guess 10 = .ok (.iload_n 3, 1) := by decide +kernel
theorem dX1_guess_11 : decode cX1_guess 11 = .ok (.invokestatic 72, 3) := by decide +kernel
theorem dX1_guess_14 : decode cX1_guess 14 = .ok (.ifCond .eq 12, 3) := by decide +kernel
theorem dX1_guess_17 : decode cX1_guess 17 = .ok (.iload_n 2, 1) := by decide +kernel
theorem dX1_guess_18 : decode cX1_guess 18 = .ok (.aload_n 0, 1) := by decide +kernel
theorem dX1_guess_19 : decode cX1_guess 19 = .ok (.getfield 28, 3) := by decide +kernel
theorem dX1_guess_22 : decode cX1_guess 22 = .ok (.iload_n 3, 1) := by decide +kernel
theorem dX1_guess_23 : decode cX1_guess 23 = .ok (.iaload, 1) := by decide +kernel
theorem dX1_guess_24 : decode cX1_guess 24 = .ok (.imul, 1) := by decide +kernel
theorem dX1_guess_25 : decode cX1_guess 25 = .ok (.istore_n 2, 1) := by decide +kernel
theorem dX1_guess_26 : decode cX1_guess 26 = .ok (.iinc 3 1, 3) := by decide +kernel
theorem dX1_guess_29 : decode cX1_guess 29 = .ok (.goto (-25), 3) := by decide +kernel
theorem dX1_guess_32 : decode cX1_guess 32 = .ok (.iconst 0, 1) := by decide +kernel
theorem dX1_guess_33 : decode cX1_guess 33 = .ok (.istore_n 3, 1) := by decide +kernel
theorem dX1_guess_34 : decode cX1_guess 34 = .ok (.iload_n 3, 1) := by decide +kernel
theorem dX1_guess_35 : decode cX1_guess 35 = .ok (.aload_n 0, 1) := by decide +kernel
theorem dX1_guess_36 : decode cX1_guess 36 = .ok (.getfield 40, 3) := by decide +kernel
theorem dX1_guess_39 : decode cX1_guess 39 = .ok (.if_icmp .ge 59, 3) := by decide +kernel
theorem dX1_guess_42 : decode cX1_guess 42 = .ok (.iload_n 3, 1) := by decide +kernel
theorem dX1_guess_43 : decode cX1_guess 43 = .ok (.bipush 6, 2) := by decide +kernel
theorem dX1_guess_45 : decode cX1_guess 45 = .ok (.if_icmp .ge 53, 3) := by decide +kernel
theorem dX1_guess_48 : decode cX1_guess 48 = .ok (.iload_n 1, 1) := by decide +kernel
theorem dX1_guess_49 : decode cX1_guess 49 = .ok (.aload_n 0, 1) := by decide +kernel
theorem dX1_guess_50 : decode cX1_guess 50 = .ok (.getfield 15, 3) := by decide +kernel
theorem dX1_guess_53 : decode cX1_guess 53 = .ok (.iload_n 3, 1) := by decide +kernel
theorem dX1_guess_54 : decode cX1_guess 54 = .ok (.iaload, 1) := by decide +kernel
theorem dX1_guess_55 : decode cX1_guess 55 = .ok (.invokestatic 72, 3) := by decide +kernel
theorem dX1_guess_58 : decode cX1_guess 58 = .ok (.ifCond .eq 34, 3) := by decide +kernel
theorem dX1_guess_61 : decode cX1_guess 61 = .ok (.iload_n 1, 1) := by decide +kernel
theorem dX1_guess_62 : decode cX1_guess 62 = .ok (.aload_n 0, 1) := by decide +kernel
theorem dX1_guess_63 : decode cX1_guess 63 = .ok (.getfield 22, 3) := by decide +kernel
theorem dX1_guess_66 : decode cX1_guess 66 = .ok (.iload_n 3, 1) := by decide +kernel
theorem dX1_guess_67 : decode cX1_guess 67 = .ok (.iaload, 1) := by decide +kernel
theorem dX1_guess_68 : decode cX1_guess 68 = .ok (.invokestatic 72, 3) := by decide +kernel
theorem dX1_guess_71 : decode cX1_guess 71 = .ok (.ifCond .eq 21, 3) := by decide +kernel
theorem dX1_guess_74 : decode cX1_guess 74 = .ok (.aload_n 0, 1) := by decide +kernel
theorem dX1_guess_75 : decode cX1_guess 75 = .ok (.getfield 31, 3) := by decide +kernel
theorem dX1_guess_78 : decode cX1_guess 78 = .ok (.iload_n 3, 1) := by decide +kernel
theorem dX1_guess_79 : decode cX1_guess 79 = .ok (.iaload, 1) := by decide +kernel
theorem dX1_guess_80 : decode cX1_guess 80 = .ok (.ifCond .le 12, 3) := by decide +kernel
theorem dX1_guess_83 : decode cX1_guess 83 = .ok (.iload_n 2, 1) := by decide +kernel
theorem dX1_guess_84 : decode cX1_guess 84 = .ok (.aload_n 0, 1) := by decide +kernel
theorem dX1_guess_85 : decode cX1_guess 85 = .ok (.getfield 31, 3) := by decide +kernel
theorem dX1_guess_88 : decode cX1_guess 88 = .ok (.iload_n 3, 1) := by decide +kernel
theorem dX1_guess_89 : decode cX1_guess 89 = .ok (.iaload, 1) := by decide +kernel
theorem dX1_guess_90 : decode cX1_guess 90 = .ok (.idiv, 1) := by decide +kernel
theorem dX1_guess_91 : decode cX1_guess 91 = .ok (.istore_n 2, 1) := by decide +kernel
theorem dX1_guess_92 : decode cX1_guess 92 = .ok (.iinc 3 1, 3) := by decide +kernel
theorem dX1_guess_95 : decode cX1_guess 95 = .ok (.goto (-61), 3) := by decide +kernel
theorem dX1_guess_98 : decode cX1_guess 98 = .ok (.iconst 1, 1) := by decide +kernel
theorem dX1_guess_99 : decode cX1_guess 99 = .ok (.iload_n 2, 1) := by decide +kernel
theorem dX1_guess_100 : decode cX1_guess 100 = .ok (.invokestatic 63, 3) := by decide +kernel
theorem dX1_guess_103 : decode cX1_guess 103 = .ok (.ireturn, 1) := by decide +kernel
theorem dX1_has_0 : decode cX1_has 0 = .ok (.iload_n 0, 1) := by decide +kernel
theorem dX1_has_1 : decode cX1_has 1 = .ok (.iload_n 1, 1) := by decide +kernel
theorem dX1_has_2 : decode cX1_has 2 = .ok (.ishr, 1) := by decide +kernel
theorem dX1_has_3 : decode cX1_has 3 = .ok (.iconst 1, 1) := by decide +kernel
theorem dX1_has_4 : decode cX1_has 4 = .ok (.iand, 1) := by decide +kernel
theorem dX1_has_5 : decode cX1_has 5 = .ok (.iconst 1, 1) := by decide +kernel
theorem dX1_has_6 : decode cX1_has 6 = .ok (.if_icmp .ne 7, 3) := by decide +kernel
theorem dX1_has_9 : decode cX1_has 9 = .ok (.iconst 1, 1) := by decide +kernel
theorem dX1_has_10 : decode cX1_has 10 = .ok (.goto 4, 3) := by decide +kernel
theorem dX1_has_13 : decode cX1_has 13 = .ok (.iconst 0, 1) := by decide +kernel
theorem dX1_has_14 : decode cX1_has 14 = .ok (.ireturn, 1) := by decide +kernel
theorem dX1_planFor_0 : decode cX1_planFor 0 = .ok (.iload_n 1, 1) := by decide +kernel
theorem dX1_planFor_1 : decode cX1_planFor 1 = .ok (.ifCond .le 9, 3) := by decide +kernel
theorem dX1_planFor_4 : decode cX1_planFor 4 = .ok (.iload_n 1, 1) := by decide +kernel
theorem dX1_planFor_5 : decode cX1_planFor 5 = .ok (.bipush 16, 2) := by decide +kernel
theorem dX1_planFor_7 : decode cX1_planFor 7 = .ok (.if_icmp .lt 4, 3) := by decide +kernel
theorem dX1_planFor_10 : decode cX1_planFor 10 = .ok (.return_, 1) := by decide +kernel
theorem dX1_planFor_11 : decode cX1_planFor 11 = .ok (.iload_n 1, 1) := by decide +kernel
theorem dX1_planFor_12 : decode cX1_planFor 12 = .ok (.iload_n 1, 1) := by decide +kernel
theorem dX1_planFor_13 : decode cX1_planFor 13 = .ok (.ineg, 1) := by decide +kernel
theorem dX1_planFor_14 : decode cX1_planFor 14 = .ok (.iand, 1) := by decide +kernel
theorem dX1_planFor_15 : decode cX1_planFor 15 = .ok (.istore_n 2, 1) := by decide +kernel
theorem dX1_planFor_16 : decode cX1_planFor 16 = .ok (.ldc 76, 2) := by decide +kernel
theorem dX1_planFor_18 : decode cX1_planFor 18 = .ok (.istore_n 3, 1) := by decide +kernel
theorem dX1_planFor_19 : decode cX1_planFor 19 = .ok (.aload_n 0, 1) := by decide +kernel
theorem dX1_planFor_20 : decode cX1_planFor 20 = .ok (.getfield 34, 3) := by decide +kernel
theorem dX1_planFor_23 : decode cX1_planFor 23 = .ok (.iload_n 1, 1) := by decide +kernel
theorem dX1_planFor_24 : decode cX1_planFor 24 = .ok (.iconst 0, 1) := by decide +kernel
theorem dX1_planFor_25 : decode cX1_planFor 25 = .ok (.iastore, 1) := by decide +kernel
theorem dX1_planFor_26 : decode cX1_planFor 26 = .ok (.aload_n 0, 1) := by decide +kernel
theorem dX1_planFor_27 : decode cX1_planFor 27 = .ok (.getfield 37, 3) := by decide +kernel
theorem dX1_planFor_30 : decode cX1_planFor 30 = .ok (.iload_n 1, 1) := by decide +kernel
theorem dX1_planFor_31 : decode cX1_planFor 31 = .ok (.iload_n 1, 1) := by decide +kernel
theorem dX1_planFor_32 : decode cX1_planFor 32 = .ok (.iastore, 1) := by decide +kernel
theorem dX1_planFor_33 : decode cX1_planFor 33 = .ok (.iload_n 2, 1) := by decide +kernel
theorem dX1_planFor_34 : decode cX1_planFor 34 = .ok (.istore 4, 2) := by decide +kernel
theorem dX1_planFor_36 : decode cX1_planFor 36 = .ok (.iload 4, 2) := by decide +kernel
theorem dX1_planFor_38 : decode cX1_planFor 38 = .ok (.iload_n 1, 1) := by decide +kernel
theorem dX1_planFor_39 : decode cX1_planFor 39 = .ok (.if_icmp .ge 84, 3) := by decide +kernel
theorem dX1_planFor_42 : decode cX1_planFor 42 = .ok (.iload 4, 2) := by decide +kernel
theorem dX1_planFor_44 : decode cX1_planFor 44 = .ok (.iload_n 1, 1) := by decide +kernel
theorem dX1_planFor_45 : decode cX1_planFor 45 = .ok (.iand, 1) := by decide +kernel
theorem dX1_planFor_46 : decode cX1_planFor 46 = .ok (.iload 4, 2) := by decide +kernel
theorem dX1_planFor_48 : decode cX1_planFor 48 = .ok (.if_icmp .ne 14, 3) := by decide +kernel
theorem dX1_planFor_51 : decode cX1_planFor 51 = .ok (.iload 4, 2) := by decide +kernel
theorem dX1_planFor_53 : decode cX1_planFor 53 = .ok (.iload_n 2, 1) := by decide +kernel
theorem dX1_planFor_54 : decode cX1_planFor 54 = .ok (.iand, 1) := by decide +kernel
theorem dX1_planFor_55 : decode cX1_planFor 55 = .ok (.ifCond .eq 7, 3) := by decide +kernel
theorem dX1_planFor_58 : decode cX1_planFor 58 = .ok (.iconst 1, 1) := by decide +kernel
theorem dX1_planFor_59 : decode cX1_planFor 59 = .ok (.goto 4, 3) := by decide +kernel
theorem dX1_planFor_62 : decode cX1_planFor 62 = .ok (.iconst 0, 1) := by decide +kernel
theorem dX1_planFor_63 : decode cX1_planFor 63 = .ok (.istore 5, 2) := by decide +kernel
theorem dX1_planFor_65 : decode cX1_planFor 65 = .ok (.iload 5, 2) := by decide +kernel
theorem dX1_planFor_67 : decode cX1_planFor 67 = .ok (.ifCond .eq 50, 3) := by decide +kernel
theorem dX1_planFor_70 : decode cX1_planFor 70 = .ok (.aload_n 0, 1) := by decide +kernel
theorem dX1_planFor_71 : decode cX1_planFor 71 = .ok (.getfield 34, 3) := by decide +kernel
theorem dX1_planFor_74 : decode cX1_planFor 74 = .ok (.iload 4, 2) := by decide +kernel
theorem dX1_planFor_76 : decode cX1_planFor 76 = .ok (.iaload, 1) := by decide +kernel
theorem dX1_planFor_77 : decode cX1_planFor 77 = .ok (.aload_n 0, 1) := by decide +kernel
theorem dX1_planFor_78 : decode cX1_planFor 78 = .ok (.getfield 34, 3) := by decide +kernel
theorem dX1_planFor_81 : decode cX1_planFor 81 = .ok (.iload_n 1, 1) := by decide +kernel
theorem dX1_planFor_82 : decode cX1_planFor 82 = .ok (.iload 4, 2) := by decide +kernel
theorem dX1_planFor_84 : decode cX1_planFor 84 = .ok (.ixor, 1) := by decide +kernel
theorem dX1_planFor_85 : decode cX1_planFor 85 = .ok (.iaload, 1) := by decide +kernel
theorem dX1_planFor_86 : decode cX1_planFor 86 = .ok (.iadd, 1) := by decide +kernel
theorem dX1_planFor_87 : decode cX1_planFor 87 = .ok (.iload_n 3, 1) := by decide +kernel
theorem dX1_planFor_88 : decode cX1_planFor 88 = .ok (.if_icmp .ge 29, 3) := by decide +kernel
theorem dX1_planFor_91 : decode cX1_planFor 91 = .ok (.aload_n 0, 1) := by decide +kernel
theorem dX1_planFor_92 : decode cX1_planFor 92 = .ok (.getfield 34, 3) := by decide +kernel
theorem dX1_planFor_95 : decode cX1_planFor 95 = .ok (.iload 4, 2) := by decide +kernel
theorem dX1_planFor_97 : decode cX1_planFor 97 = .ok (.iaload, 1) := by decide +kernel
theorem dX1_planFor_98 : decode cX1_planFor 98 = .ok (.aload_n 0, 1) := by decide +kernel
theorem dX1_planFor_99 : decode cX1_planFor 99 = .ok (.getfield 34, 3) := by decide +kernel
theorem dX1_planFor_102 : decode cX1_planFor 102 = .ok (.iload_n 1, 1) := by decide +kernel
theorem dX1_planFor_103 : decode cX1_planFor 103 = .ok (.iload 4, 2) := by decide +kernel
theorem dX1_planFor_105 : decode cX1_planFor 105 = .ok (.ixor, 1) := by decide +kernel
theorem dX1_planFor_106 : decode cX1_planFor 106 = .ok (.iaload, 1) := by decide +kernel
theorem dX1_planFor_107 : decode cX1_planFor 107 = .ok (.iadd, 1) := by decide +kernel
theorem dX1_planFor_108 : decode cX1_planFor 108 = .ok (.istore_n 3, 1) := by decide +kernel
theorem dX1_planFor_109 : decode cX1_planFor 109 = .ok (.aload_n 0, 1) := by decide +kernel
theorem dX1_planFor_110 : decode cX1_planFor 110 = .ok (.getfield 37, 3) := by decide +kernel
theorem dX1_planFor_113 : decode cX1_planFor 113 = .ok (.iload_n 1, 1) := by decide +kernel
theorem dX1_planFor_114 : decode cX1_planFor 114 = .ok (.iload 4, 2) := by decide +kernel
theorem dX1_planFor_116 : decode cX1_planFor 116 = .ok (.iastore, 1) := by decide +kernel
theorem dX1_planFor_117 : decode cX1_planFor 117 = .ok (.iinc 4 1, 3) := by decide +kernel
theorem dX1_planFor_120 : decode cX1_planFor 120 = .ok (.goto (-84), 3) := by decide +kernel
theorem dX1_planFor_123 : decode cX1_planFor 123 = .ok (.iload_n 1, 1) := by decide +kernel
theorem dX1_planFor_124 : decode cX1_planFor 124 = .ok (.iload_n 2, 1) := by decide +kernel
theorem dX1_planFor_125 : decode cX1_planFor 125 = .ok (.if_icmp .eq 16, 3) := by decide +kernel
theorem dX1_planFor_128 : decode cX1_planFor 128 = .ok (.aload_n 0, 1) := by decide +kernel
theorem dX1_planFor_129 : decode cX1_planFor 129 = .ok (.getfield 34, 3) := by decide +kernel
theorem dX1_planFor_132 : decode cX1_planFor 132 = .ok (.iload_n 1, 1) := by decide +kernel
theorem dX1_planFor_133 : decode cX1_planFor 133 = .ok (.iload_n 3, 1) := by decide +kernel
theorem dX1_planFor_134 : decode cX1_planFor 134 = .ok (.aload_n 0, 1) := by decide +kernel
theorem dX1_planFor_135 : decode cX1_planFor 135 = .ok (.iload_n 1, 1) := by decide +kernel
theorem dX1_planFor_136 : decode cX1_planFor 136 = .ok (.invokevirtual 47, 3) := by decide +kernel
theorem dX1_planFor_139 : decode cX1_planFor 139 = .ok (.iadd, 1) := by decide +kernel
theorem dX1_planFor_140 : decode cX1_planFor 140 = .ok (.iastore, 1) := by decide +kernel
theorem dX1_planFor_141 : decode cX1_planFor 141 = .ok (.return_, 1) := by decide +kernel
theorem dX2_init_0 : decode cX2_init 0 = .ok (.aload_n 0, 1) := by decide +kernel
theorem dX2_init_1 : decode cX2_init 1 = .ok (.invokespecial 3, 3) := by decide +kernel
theorem dX2_init_4 : decode cX2_init 4 = .ok (.aload_n 0, 1) := by decide +kernel
theorem dX2_init_5 : decode cX2_init 5 = .ok (.aload_n 1, 1) := by decide +kernel
theorem dX2_init_6 : decode cX2_init 6 = .ok (.putfield 9, 3) := by decide +kernel
theorem dX2_init_9 : decode cX2_init 9 = .ok (.aload_n 0, 1) := by decide +kernel
theorem dX2_init_10 : decode cX2_init 10 = .ok (.bipush 24, 2) := by decide +kernel
theorem dX2_init_12 : decode cX2_init 12 = .ok (.newarray .int, 2) := by decide +kernel
theorem dX2_init_14 : decode cX2_init 14 = .ok (.putfield 15, 3) := by decide +kernel
theorem dX2_init_17 : decode cX2_init 17 = .ok (.aload_n 0, 1) := by decide +kernel
theorem dX2_init_18 : decode cX2_init 18 = .ok (.bipush 24, 2) := by decide +kernel
theorem dX2_init_20 : decode cX2_init 20 = .ok (.newarray .int, 2) := by decide +kernel
theorem dX2_init_22 : decode cX2_init 22 = .ok (.putfield 19, 3) := by decide +kernel
theorem dX2_init_25 : decode cX2_init 25 = .ok (.aload_n 0, 1) := by decide +kernel
theorem dX2_init_26 : decode cX2_init 26 = .ok (.bipush 24, 2) := by decide +kernel
theorem dX2_init_28 : decode cX2_init 28 = .ok (.newarray .int, 2) := by decide +kernel
theorem dX2_init_30 : decode cX2_init 30 = .ok (.putfield 22, 3) := by decide +kernel
theorem dX2_init_33 : decode cX2_init 33 = .ok (.aload_n 0, 1) := by decide +kernel
theorem dX2_init_34 : decode cX2_init 34 = .ok (.bipush 24, 2) := by decide +kernel
theorem dX2_init_36 : decode cX2_init 36 = .ok (.newarray .int, 2) := by decide +kernel
theorem dX2_init_38 : decode cX2_init 38 = .ok (.putfield 25, 3) := by decide +kernel
theorem dX2_init_41 : decode cX2_init 41 = .ok (.aload_n 0, 1) := by decide +kernel
theorem dX2_init_42 : decode cX2_init 42 = .ok (.bipush 24, 2) := by decide +kernel
theorem dX2_init_44 : decode cX2_init 44 = .ok (.newarray .int, 2) := by decide +kernel
theorem dX2_init_46 : decode cX2_init 46 = .ok (.putfield 28, 3) := by decide +kernel
theorem dX2_init_49 : decode cX2_init 49 = .ok (.aload_n 0, 1) := by decide +kernel
theorem dX2_init_50 : decode cX2_init 50 = .ok (.bipush 24, 2) := by decide +kernel
theorem dX2_init_52 : decode cX2_init 52 = .ok (.newarray .int, 2) := by decide +kernel
theorem dX2_init_54 : decode cX2_init 54 = .ok (.putfield 31, 3) := by decide +kernel
theorem dX2_init_57 : decode cX2_init 57 = .ok (.aload_n 0, 1) := by decide +kernel
theorem dX2_init_58 : decode cX2_init 58 = .ok (.bipush 24, 2) := by decide +kernel
theorem dX2_init_60 : decode cX2_init 60 = .ok (.newarray .int, 2) := by decide +kernel
theorem dX2_init_62 : decode cX2_init 62 = .ok (.putfield 34, 3) := by decide +kernel
theorem dX2_init_65 : decode cX2_init 65 = .ok (.return_, 1) := by decide +kernel
theorem dX2_size_0 : decode cX2_size 0 = .ok (.aload_n 0, 1) := by decide +kernel
theorem dX2_size_1 : decode cX2_size 1 = .ok (.getfield 37, 3) := by decide +kernel
theorem dX2_size_4 : decode cX2_size 4 = .ok (.ireturn, 1) := by decide +kernel
theorem dX2_has_0 : decode cX2_has 0 = .ok (.iload_n 1, 1) := by decide +kernel
theorem dX2_has_1 : decode cX2_has 1 = .ok (.ifCond .lt 15, 3) := by decide +kernel
theorem dX2_has_4 : decode cX2_has 4 = .ok (.iload_n 1, 1) := by decide +kernel
theorem dX2_has_5 : decode cX2_has 5 = .ok (.aload_n 0, 1) := by decide +kernel
theorem dX2_has_6 : decode cX2_has 6 = .ok (.getfield 37, 3) := by decide +kernel
theorem dX2_has_9 : decode cX2_has 9 = .ok (.if_icmp .ge 7, 3) := by decide +kernel
theorem dX2_has_12 : decode cX2_has 12 = .ok (.iconst 1, 1) := by decide +kernel
theorem dX2_has_13 : decode cX2_has 13 = .ok (.goto 4, 3) := by decide +kernel
theorem dX2_has_16 : decode cX2_has 16 = .ok (.iconst 0, 1) := by decide +kernel
theorem dX2_has_17 : decode cX2_has 17 = .ok (.ireturn, 1) := by decide +kernel
theorem dX2_hasColumn_0 : decode cX2_hasColumn 0 = .ok (.iload_n 2, 1) := by decide +kernel
theorem dX2_hasColumn_1 : decode cX2_hasColumn 1 = .ok (.ifCond .lt 16, 3) := by decide +kernel
theorem dX2_hasColumn_4 : decode cX2_hasColumn 4 = .ok (.iload_n 2, 1) := by decide +kernel
theorem dX2_hasColumn_5 : decode cX2_hasColumn 5 = .ok (.aload_n 0, 1) := by decide +kernel
theorem dX2_hasColumn_6 : decode cX2_hasColumn 6 = .ok (.iload_n 1, 1) := by decide +kernel
theorem dX2_hasColumn_7 : decode cX2_hasColumn 7 = .ok (.invokevirtual 41, 3) := by decide +kernel
theorem dX2_hasColumn_10 : decode cX2_hasColumn 10 = .ok (.if_icmp .ge 7, 3) := by decide +kernel
theorem dX2_hasColumn_13 : decode cX2_hasColumn 13 = .ok (.iconst 1, 1) := by decide +kernel
theorem dX2_hasColumn_14 : decode cX2_hasColumn 14 = .ok (.goto 4, 3) := by decide +kernel
theorem dX2_hasColumn_17 : decode cX2_hasColumn 17 = .ok (.iconst 0, 1) := by decide +kernel
theorem dX2_hasColumn_18 : decode cX2_hasColumn 18 = .ok (.ireturn, 1) := by decide +kernel
theorem dX2_typeOf_0 : decode cX2_typeOf 0 = .ok (.iload_n 1, 1) := by decide +kernel
theorem dX2_typeOf_1 : decode cX2_typeOf 1 = .ok (.ifCond .lt 20, 3) := by decide +kernel
theorem dX2_typeOf_4 : decode cX2_typeOf 4 = .ok (.iload_n 1, 1) := by decide +kernel
theorem dX2_typeOf_5 : decode cX2_typeOf 5 = .ok (.aload_n 0, 1) := by decide +kernel
theorem dX2_typeOf_6 : decode cX2_typeOf 6 = .ok (.getfield 37, 3) := by decide +kernel
theorem dX2_typeOf_9 : decode cX2_typeOf 9 = .ok (.if_icmp .ge 12, 3) := by decide +kernel
theorem dX2_typeOf_12 : decode cX2_typeOf 12 = .ok (.aload_n 0, 1) := by decide +kernel
theorem dX2_typeOf_13 : decode cX2_typeOf 13 = .ok (.getfield 15, 3) := by decide +kernel
theorem dX2_typeOf_16 : decode cX2_typeOf 16 = .ok (.iload_n 1, 1) := by decide +kernel
theorem dX2_typeOf_17 : decode cX2_typeOf 17 = .ok (.iaload, 1) := by decide +kernel
theorem dX2_typeOf_18 : decode cX2_typeOf 18 = .ok (.goto 4, 3) := by decide +kernel
theorem dX2_typeOf_21 : decode cX2_typeOf 21 = .ok (.iconst (-1), 1) := by decide +kernel
theorem dX2_typeOf_22 : decode cX2_typeOf 22 = .ok (.ireturn, 1) := by decide +kernel
theorem dX2_firstOf_0 : decode cX2_firstOf 0 = .ok (.iload_n 1, 1) := by decide +kernel
theorem dX2_firstOf_1 : decode cX2_firstOf 1 = .ok (.ifCond .lt 20, 3) := by decide +kernel
theorem dX2_firstOf_4 : decode cX2_firstOf 4 = .ok (.iload_n 1, 1) := by decide +kernel
theorem dX2_firstOf_5 : decode cX2_firstOf 5 = .ok (.aload_n 0, 1) := by decide +kernel
theorem dX2_firstOf_6 : decode cX2_firstOf 6 = .ok (.getfield 37, 3) := by decide +kernel
theorem dX2_firstOf_9 : decode cX2_firstOf 9 = .ok (.if_icmp .ge 12, 3) := by decide +kernel
theorem dX2_firstOf_12 : decode cX2_firstOf 12 = .ok (.aload_n 0, 1) := by decide +kernel
theorem dX2_firstOf_13 : decode cX2_firstOf 13 = .ok (.getfield 19, 3) := by decide +kernel
theorem dX2_firstOf_16 : decode cX2_firstOf 16 = .ok (.iload_n 1, 1) := by decide +kernel
theorem dX2_firstOf_17 : decode cX2_firstOf 17 = .ok (.iaload, 1) := by decide +kernel
theorem dX2_firstOf_18 : decode cX2_firstOf 18 = .ok (.goto 4, 3) := by decide +kernel
theorem dX2_firstOf_21 : decode cX2_firstOf 21 = .ok (.iconst (-1), 1) := by decide +kernel
theorem dX2_firstOf_22 : decode cX2_firstOf 22 = .ok (.ireturn, 1) := by decide +kernel
theorem dX2_secondOf_0 : decode cX2_secondOf 0 = .ok (.iload_n 1, 1) := by decide +kernel
theorem dX2_secondOf_1 : decode cX2_secondOf 1 = .ok (.ifCond .lt 20, 3) := by decide +kernel
theorem dX2_secondOf_4 : decode cX2_secondOf 4 = .ok (.iload_n 1, 1) := by decide +kernel
theorem dX2_secondOf_5 : decode cX2_secondOf 5 = .ok (.aload_n 0, 1) := by decide +kernel
theorem dX2_secondOf_6 : decode cX2_secondOf 6 = .ok (.getfield 37, 3) := by decide +kernel
theorem dX2_secondOf_9 : decode cX2_secondOf 9 = .ok (.if_icmp .ge 12, 3) := by decide +kernel
theorem dX2_secondOf_12 : decode cX2_secondOf 12 = .ok (.aload_n 0, 1) := by decide +kernel
theorem dX2_secondOf_13 : decode cX2_secondOf 13 = .ok (.getfield 22, 3) := by decide +kernel
theorem dX2_secondOf_16 : decode cX2_secondOf 16 = .ok (.iload_n 1, 1) := by decide +kernel
theorem dX2_secondOf_17 : decode cX2_secondOf 17 = .ok (.iaload, 1) := by decide +kernel
theorem dX2_secondOf_18 : decode cX2_secondOf 18 = .ok (.goto 4, 3) := by decide +kernel
theorem dX2_secondOf_21 : decode cX2_secondOf 21 = .ok (.iconst (-1), 1) := by decide +kernel
theorem dX2_secondOf_22 : decode cX2_secondOf 22 = .ok (.ireturn, 1) := by decide +kernel
theorem dX2_kindOf_0 : decode cX2_kindOf 0 = .ok (.iload_n 1, 1) := by decide +kernel
theorem dX2_kindOf_1 : decode cX2_kindOf 1 = .ok (.ifCond .lt 20, 3) := by decide +kernel
theorem dX2_kindOf_4 : decode cX2_kindOf 4 = .ok (.iload_n 1, 1) := by decide +kernel
theorem dX2_kindOf_5 : decode cX2_kindOf 5 = .ok (.aload_n 0, 1) := by decide +kernel
theorem dX2_kindOf_6 : decode cX2_kindOf 6 = .ok (.getfield 37, 3) := by decide +kernel
theorem dX2_kindOf_9 : decode cX2_kindOf 9 = .ok (.if_icmp .ge 12, 3) := by decide +kernel
theorem dX2_kindOf_12 : decode cX2_kindOf 12 = .ok (.aload_n 0, 1) := by decide +kernel
theorem dX2_kindOf_13 : decode cX2_kindOf 13 = .ok (.getfield 25, 3) := by decide +kernel
theorem dX2_kindOf_16 : decode cX2_kindOf 16 = .ok (.iload_n 1, 1) := by decide +kernel
theorem dX2_kindOf_17 : decode cX2_kindOf 17 = .ok (.iaload, 1) := by decide +kernel
theorem dX2_kindOf_18 : decode cX2_kindOf 18 = .ok (.goto 4, 3) := by decide +kernel
theorem dX2_kindOf_21 : decode cX2_kindOf 21 = .ok (.iconst (-1), 1) := by decide +kernel
theorem dX2_kindOf_22 : decode cX2_kindOf 22 = .ok (.ireturn, 1) := by decide +kernel
theorem dX2_columnOf_0 : decode cX2_columnOf 0 = .ok (.iload_n 1, 1) := by decide +kernel
theorem dX2_columnOf_1 : decode cX2_columnOf 1 = .ok (.ifCond .lt 20, 3) := by decide +kernel
theorem dX2_columnOf_4 : decode cX2_columnOf 4 = .ok (.iload_n 1, 1) := by decide +kernel
theorem dX2_columnOf_5 : decode cX2_columnOf 5 = .ok (.aload_n 0, 1) := by decide +kernel
theorem dX2_columnOf_6 : decode cX2_columnOf 6 = .ok (.getfield 37, 3) := by decide +kernel
theorem dX2_columnOf_9 : decode cX2_columnOf 9 = .ok (.if_icmp .ge 12, 3) := by decide +kernel
theorem dX2_columnOf_12 : decode cX2_columnOf 12 = .ok (.aload_n 0, 1) := by decide +kernel
theorem dX2_columnOf_13 : decode cX2_columnOf 13 = .ok (.getfield 28, 3) := by decide +kernel
theorem dX2_columnOf_16 : decode cX2_columnOf 16 = .ok (.iload_n 1, 1) := by decide +kernel
theorem dX2_columnOf_17 : decode cX2_columnOf 17 = .ok (.iaload, 1) := by decide +kernel
theorem dX2_columnOf_18 : decode cX2_columnOf 18 = .ok (.goto 4, 3) := by decide +kernel
theorem dX2_columnOf_21 : decode cX2_columnOf 21 = .ok (.iconst (-1), 1) := by decide +kernel
theorem dX2_columnOf_22 : decode cX2_columnOf 22 = .ok (.ireturn, 1) := by decide +kernel
theorem dX2_extraOf_0 : decode cX2_extraOf 0 = .ok (.iload_n 1, 1) := by decide +kernel
theorem dX2_extraOf_1 : decode cX2_extraOf 1 = .ok (.ifCond .lt 20, 3) := by decide +kernel
theorem dX2_extraOf_4 : decode cX2_extraOf 4 = .ok (.iload_n 1, 1) := by decide +kernel
theorem dX2_extraOf_5 : decode cX2_extraOf 5 = .ok (.aload_n 0, 1) := by decide +kernel
theorem dX2_extraOf_6 : decode cX2_extraOf 6 = .ok (.getfield 37, 3) := by decide +kernel
theorem dX2_extraOf_9 : decode cX2_extraOf 9 = .ok (.if_icmp .ge 12, 3) := by decide +kernel
theorem dX2_extraOf_12 : decode cX2_extraOf 12 = .ok (.aload_n 0, 1) := by decide +kernel
theorem dX2_extraOf_13 : decode cX2_extraOf 13 = .ok (.getfield 31, 3) := by decide +kernel
theorem dX2_extraOf_16 : decode cX2_extraOf 16 = .ok (.iload_n 1, 1) := by decide +kernel
theorem dX2_extraOf_17 : decode cX2_extraOf 17 = .ok (.iaload, 1) := by decide +kernel
theorem dX2_extraOf_18 : decode cX2_extraOf 18 = .ok (.goto 4, 3) := by decide +kernel
theorem dX2_extraOf_21 : decode cX2_extraOf 21 = .ok (.iconst (-1), 1) := by decide +kernel
theorem dX2_extraOf_22 : decode cX2_extraOf 22 = .ok (.ireturn, 1) := by decide +kernel
theorem dX2_widthOf_0 : decode cX2_widthOf 0 = .ok (.iload_n 1, 1) := by decide +kernel
theorem dX2_widthOf_1 : decode cX2_widthOf 1 = .ok (.ifCond .lt 20, 3) := by decide +kernel
theorem dX2_widthOf_4 : decode cX2_widthOf 4 = .ok (.iload_n 1, 1) := by decide +kernel
theorem dX2_widthOf_5 : decode cX2_widthOf 5 = .ok (.aload_n 0, 1) := by decide +kernel
theorem dX2_widthOf_6 : decode cX2_widthOf 6 = .ok (.getfield 37, 3) := by decide +kernel
theorem dX2_widthOf_9 : decode cX2_widthOf 9 = .ok (.if_icmp .ge 12, 3) := by decide +kernel
theorem dX2_widthOf_12 : decode cX2_widthOf 12 = .ok (.aload_n 0, 1) := by decide +kernel
theorem dX2_widthOf_13 : decode cX2_widthOf 13 = .ok (.getfield 34, 3) := by decide +kernel
theorem dX2_widthOf_16 : decode cX2_widthOf 16 = .ok (.iload_n 1, 1) := by decide +kernel
theorem dX2_widthOf_17 : decode cX2_widthOf 17 = .ok (.iaload, 1) := by decide +kernel
theorem dX2_widthOf_18 : decode cX2_widthOf 18 = .ok (.goto 4, 3) := by decide +kernel
theorem dX2_widthOf_21 : decode cX2_widthOf 21 = .ok (.iconst 0, 1) := by decide +kernel
theorem dX2_widthOf_22 : decode cX2_widthOf 22 = .ok (.ireturn, 1) := by decide +kernel
theorem dX2_widthMade_0 : decode cX2_widthMade 0 = .ok (.iload_n 1, 1) := by decide +kernel
theorem dX2_widthMade_1 : decode cX2_widthMade 1 = .ok (.ifCond .ne 28, 3) := by decide +kernel
theorem dX2_widthMade_4 : decode cX2_widthMade 4 = .ok (.aload_n 0, 1) := by decide +kernel
theorem dX2_widthMade_5 : decode cX2_widthMade 5 = .ok (.getfield 9, 3) := by decide +kernel
theorem dX2_widthMade_8 : decode cX2_widthMade 8 = .ok (.iload_n 2, 1) := by decide +kernel
theorem dX2_widthMade_9 : decode cX2_widthMade 9 = .ok (.invokevirtual 45, 3) := by decide +kernel
theorem dX2_widthMade_12 : decode cX2_widthMade 12 = .ok (.astore 5, 2) := by decide +kernel
theorem dX2_widthMade_14 : decode cX2_widthMade 14 = .ok (.aload 5, 2) := by decide +kernel
theorem dX2_widthMade_16 : decode cX2_widthMade 16 = .ok (.ifnonnull 7, 3) := by decide +kernel
theorem dX2_widthMade_19 : decode cX2_widthMade 19 = .ok (.iconst 0, 1) := by decide +kernel
theorem dX2_widthMade_20 : decode cX2_widthMade 20 = .ok (.goto 8, 3) := by decide +kernel
theorem dX2_widthMade_23 : decode cX2_widthMade 23 = .ok (.aload 5, 2) := by decide +kernel
theorem dX2_widthMade_25 : decode cX2_widthMade 25 = .ok (.invokevirtual 51, 3) := by decide +kernel
theorem dX2_widthMade_28 : decode cX2_widthMade 28 = .ok (.ireturn, 1) := by decide +kernel
theorem dX2_widthMade_29 : decode cX2_widthMade 29 = .ok (.iload_n 1, 1) := by decide +kernel
theorem dX2_widthMade_30 : decode cX2_widthMade 30 = .ok (.iconst 3, 1) := by decide +kernel
theorem dX2_widthMade_31 : decode cX2_widthMade 31 = .ok (.if_icmp .ne 5, 3) := by decide +kernel
theorem dX2_widthMade_34 : decode cX2_widthMade 34 = .ok (.iconst 2, 1) := by decide +kernel
theorem dX2_widthMade_35 : decode cX2_widthMade 35 = .ok (.ireturn, 1) := by decide +kernel
theorem dX2_widthMade_36 : decode cX2_widthMade 36 = .ok (.iload_n 1, 1) := by decide +kernel
theorem dX2_widthMade_37 : decode cX2_widthMade 37 = .ok (.iconst 2, 1) := by decide +kernel
theorem dX2_widthMade_38 : decode cX2_widthMade 38 = .ok (.if_icmp .ne 18, 3) := by decide +kernel
theorem dX2_widthMade_41 : decode cX2_widthMade 41 = .ok (.iload 4, 2) := by decide +kernel
theorem dX2_widthMade_43 : decode cX2_widthMade 43 = .ok (.ifCond .eq 9, 3) := by decide +kernel
theorem dX2_widthMade_46 : decode cX2_widthMade 46 = .ok (.iload 4, 2) := by decide +kernel
theorem dX2_widthMade_48 : decode cX2_widthMade 48 = .ok (.iconst 1, 1) := by decide +kernel
theorem dX2_widthMade_49 : decode cX2_widthMade 49 = .ok (.if_icmp .ne 7, 3) := by decide +kernel
theorem dX2_widthMade_52 : decode cX2_widthMade 52 = .ok (.iconst 1, 1) := by decide +kernel
theorem dX2_widthMade_53 : decode cX2_widthMade 53 = .ok (.goto 4, 3) := by decide +kernel
theorem dX2_widthMade_56 : decode cX2_widthMade 56 = .ok (.iconst 0, 1) := by decide +kernel
theorem dX2_widthMade_57 : decode cX2_widthMade 57 = .ok (.istore 5, 2) := by decide +kernel
theorem dX2_widthMade_59 : decode cX2_widthMade 59 = .ok (.iload 5, 2) := by decide +kernel
theorem dX2_widthMade_61 : decode cX2_widthMade 61 = .ok (.ifCond .eq 17, 3) := by decide +kernel
theorem dX2_widthMade_64 : decode cX2_widthMade 64 = .ok (.aload_n 0, 1) := by decide +kernel
theorem dX2_widthMade_65 : decode cX2_widthMade 65 = .ok (.iload_n 2, 1) := by decide +kernel
theorem dX2_widthMade_66 : decode cX2_widthMade 66 = .ok (.invokevirtual 41, 3) := by decide +kernel
theorem dX2_widthMade_69 : decode cX2_widthMade 69 = .ok (.aload_n 0, 1) := by decide +kernel
theorem dX2_widthMade_70 : decode cX2_widthMade 70 = .ok (.iload_n 3, 1) := by decide +kernel
theorem dX2_widthMade_71 : decode cX2_widthMade 71 = .ok (.invokevirtual 41, 3) := by decide +kernel
theorem dX2_widthMade_74 : decode cX2_widthMade 74 = .ok (.iadd, 1) := by decide +kernel
theorem dX2_widthMade_75 : decode cX2_widthMade 75 = .ok (.goto 8, 3) := by decide +kernel
theorem dX2_widthMade_78 : decode cX2_widthMade 78 = .ok (.aload_n 0, 1) := by decide +kernel
theorem dX2_widthMade_79 : decode cX2_widthMade 79 = .ok (.iload_n 2, 1) := by decide +kernel
theorem dX2_widthMade_80 : decode cX2_widthMade 80 = .ok (.invokevirtual 41, 3) := by decide +kernel
theorem dX2_widthMade_83 : decode cX2_widthMade 83 = .ok (.ireturn, 1) := by decide +kernel
theorem dX2_make_0 : decode cX2_make 0 = .ok (.iconst 0, 1) := by decide +kernel
theorem dX2_make_1 : decode cX2_make 1 = .ok (.istore 7, 2) := by decide +kernel
theorem dX2_make_3 : decode cX2_make 3 = .ok (.iload 7, 2) := by decide +kernel
theorem dX2_make_5 : decode cX2_make 5 = .ok (.aload_n 0, 1) := by decide +kernel
theorem dX2_make_6 : decode cX2_make 6 = .ok (.getfield 37, 3) := by decide +kernel
theorem dX2_make_9 : decode cX2_make 9 = .ok (.if_icmp .ge 88, 3) := by decide +kernel
theorem dX2_make_12 : decode cX2_make 12 = .ok (.iload 7, 2) := by decide +kernel
theorem dX2_make_14 : decode cX2_make 14 = .ok (.bipush 24, 2) := by decide +kernel
theorem dX2_make_16 : decode cX2_make 16 = .ok (.if_icmp .ge 81, 3) := by decide +kernel
theorem dX2_make_19 : decode cX2_make 19 = .ok (.aload_n 0, 1) := by decide +kernel
theorem dX2_make_20 : decode cX2_make 20 = .ok (.getfield 15, 3) := by decide +kernel
theorem dX2_make_23 : decode cX2_make 23 = .ok (.iload 7, 2) := by decide +kernel
theorem dX2_make_25 : decode cX2_make 25 = .ok (.iaload, 1) := by decide +kernel
theorem dX2_make_26 : decode cX2_make 26 = .ok (.iload_n 1, 1) := by decide +kernel
theorem dX2_make_27 : decode cX2_make 27 = .ok (.if_icmp .ne 64, 3) := by decide +kernel
theorem dX2_make_30 : decode cX2_make 30 = .ok (.aload_n 0, 1) := by decide +kernel
theorem dX2_make_31 : decode cX2_make 31 = .ok (.getfield 19, 3) := by decide +kernel
theorem dX2_make_34 : decode cX2_make 34 = .ok (.iload 7, 2) := by decide +kernel
theorem dX2_make_36 : decode cX2_make 36 = .ok (.iaload, 1) := by decide +kernel
theorem dX2_make_37 : decode cX2_make 37 = .ok (.iload_n 2, 1) := by decide +kernel
theorem dX2_make_38 : decode cX2_make 38 = .ok (.if_icmp .ne 53, 3) := by decide +kernel
theorem dX2_make_41 : decode cX2_make 41 = .ok (.aload_n 0, 1) := by decide +kernel
theorem dX2_make_42 : decode cX2_make 42 = .ok (.getfield 22, 3) := by decide +kernel
theorem dX2_make_45 : decode cX2_make 45 = .ok (.iload 7, 2) := by decide +kernel
theorem dX2_make_47 : decode cX2_make 47 = .ok (.iaload, 1) := by decide +kernel
theorem dX2_make_48 : decode cX2_make 48 = .ok (.iload_n 3, 1) := by decide +kernel
theorem dX2_make_49 : decode cX2_make 49 = .ok (.if_icmp .ne 42, 3) := by decide +kernel
theorem dX2_make_52 : decode cX2_make 52 = .ok (.aload_n 0, 1) := by decide +kernel
theorem dX2_make_53 : decode cX2_make 53 = .ok (.getfield 25, 3) := by decide +kernel
theorem dX2_make_56 : decode cX2_make 56 = .ok (.iload 7, 2) := by decide +kernel
theorem dX2_make_58 : decode cX2_make 58 = .ok (.iaload, 1) := by decide +kernel
theorem dX2_make_59 : decode cX2_make 59 = .ok (.iload 4, 2) := by decide +kernel
theorem dX2_make_61 : decode cX2_make 61 = .ok (.if_icmp .ne 30, 3) := by decide +kernel
theorem dX2_make_64 : decode cX2_make 64 = .ok (.aload_n 0, 1) := by decide +kernel
theorem dX2_make_65 : decode cX2_make 65 = .ok (.getfield 28, 3) := by decide +kernel
theorem dX2_make_68 : decode cX2_make 68 = .ok (.iload 7, 2) := by decide +kernel
theorem dX2_make_70 : decode cX2_make 70 = .ok (.iaload, 1) := by decide +kernel
theorem dX2_make_71 : decode cX2_make 71 = .ok (.iload 5, 2) := by decide +kernel
theorem dX2_make_73 : decode cX2_make 73 = .ok (.if_icmp .ne 18, 3) := by decide +kernel
theorem dX2_make_76 : decode cX2_make 76 = .ok (.aload_n 0, 1) := by decide +kernel
theorem dX2_make_77 : decode cX2_make 77 = .ok (.getfield 31, 3) := by decide +kernel
theorem dX2_make_80 : decode cX2_make 80 = .ok (.iload 7, 2) := by decide +kernel
theorem dX2_make_82 : decode cX2_make 82 = .ok (.iaload, 1) := by decide +kernel
theorem dX2_make_83 : decode cX2_make 83 = .ok (.iload 6, 2) := by decide +kernel
theorem dX2_make_85 : decode cX2_make 85 = .ok (.if_icmp .ne 6, 3) := by decide +kernel
theorem dX2_make_88 : decode cX2_make 88 = .ok (.iload 7, 2) := by decide +kernel
theorem dX2_make_90 : decode cX2_make 90 = .ok (.ireturn, 1) := by decide +kernel
theorem dX2_make_91 : decode cX2_make 91 = .ok (.iinc 7 1, 3) := by decide +kernel
theorem dX2_make_94 : decode cX2_make 94 = .ok (.goto (-91), 3) := by decide +kernel
theorem dX2_make_97 : decode cX2_make 97 = .ok (.aload_n 0, 1) := by decide +kernel
theorem dX2_make_98 : decode cX2_make 98 = .ok (.getfield 37, 3) := by decide +kernel
theorem dX2_make_101 : decode cX2_make 101 = .ok (.bipush 24, 2) := by decide +kernel
theorem dX2_make_103 : decode cX2_make 103 = .ok (.if_icmp .lt 5, 3) := by decide +kernel
theorem dX2_make_106 : decode cX2_make 106 = .ok (.iconst (-1), 1) := by decide +kernel
theorem dX2_make_107 : decode cX2_make 107 = .ok (.ireturn, 1) := by decide +kernel
theorem dX2_make_108 : decode cX2_make 108 = .ok (.aload_n 0, 1) := by decide +kernel
theorem dX2_make_109 : decode cX2_make 109 = .ok (.getfield 15, 3) := by decide +kernel
theorem dX2_make_112 : decode cX2_make 112 = .ok (.aload_n 0, 1) := by decide +kernel
theorem dX2_make_113 : decode cX2_make 113 = .ok (.getfield 37, 3) := by decide +kernel
theorem dX2_make_116 : decode cX2_make 116 = .ok (.iload_n 1, 1) := by decide +kernel
theorem dX2_make_117 : decode cX2_make 117 = .ok (.iastore, 1) := by decide +kernel
theorem dX2_make_118 : decode cX2_make 118 = .ok (.aload_n 0, 1) := by decide +kernel
theorem dX2_make_119 : decode cX2_make 119 = .ok (.getfield 19, 3) := by decide +kernel
theorem dX2_make_122 : decode cX2_make 122 = .ok (.aload_n 0, 1) := by decide +kernel
theorem dX2_make_123 : decode cX2_make 123 = .ok (.getfield 37, 3) := by decide +kernel
theorem dX2_make_126 : decode cX2_make 126 = .ok (.iload_n 2, 1) := by decide +kernel
theorem dX2_make_127 : decode cX2_make 127 = .ok (.iastore, 1) := by decide +kernel
theorem dX2_make_128 : decode cX2_make 128 = .ok (.aload_n 0, 1) := by decide +kernel
theorem dX2_make_129 : decode cX2_make 129 = .ok (.getfield 22, 3) := by decide +kernel
theorem dX2_make_132 : decode cX2_make 132 = .ok (.aload_n 0, 1) := by decide +kernel
theorem dX2_make_133 : decode cX2_make 133 = .ok (.getfield 37, 3) := by decide +kernel
theorem dX2_make_136 : decode cX2_make 136 = .ok (.iload_n 3, 1) := by decide +kernel
theorem dX2_make_137 : decode cX2_make 137 = .ok (.iastore, 1) := by decide +kernel
theorem dX2_make_138 : decode cX2_make 138 = .ok (.aload_n 0, 1) := by decide +kernel
theorem dX2_make_139 : decode cX2_make 139 = .ok (.getfield 25, 3) := by decide +kernel
theorem dX2_make_142 : decode cX2_make 142 = .ok (.aload_n 0, 1) := by decide +kernel
theorem dX2_make_143 : decode cX2_make 143 = .ok (.getfield 37, 3) := by decide +kernel
theorem dX2_make_146 : decode cX2_make 146 = .ok (.iload 4, 2) := by decide +kernel
theorem dX2_make_148 : decode cX2_make 148 = .ok (.iastore, 1) := by decide +kernel
theorem dX2_make_149 : decode cX2_make 149 = .ok (.aload_n 0, 1) := by decide +kernel
theorem dX2_make_150 : decode cX2_make 150 = .ok (.getfield 28, 3) := by decide +kernel
theorem dX2_make_153 : decode cX2_make 153 = .ok (.aload_n 0, 1) := by decide +kernel
theorem dX2_make_154 : decode cX2_make 154 = .ok (.getfield 37, 3) := by decide +kernel
theorem dX2_make_157 : decode cX2_make 157 = .ok (.iload 5, 2) := by decide +kernel
theorem dX2_make_159 : decode cX2_make 159 = .ok (.iastore, 1) := by decide +kernel
theorem dX2_make_160 : decode cX2_make 160 = .ok (.aload_n 0, 1) := by decide +kernel
theorem dX2_make_161 : decode cX2_make 161 = .ok (.getfield 31, 3) := by decide +kernel
theorem dX2_make_164 : decode cX2_make 164 = .ok (.aload_n 0, 1) := by decide +kernel
theorem dX2_make_165 : decode cX2_make 165 = .ok (.getfield 37, 3) := by decide +kernel
theorem dX2_make_168 : decode cX2_make 168 = .ok (.iload 6, 2) := by decide +kernel
theorem dX2_make_170 : decode cX2_make 170 = .ok (.iastore, 1) := by decide +kernel
theorem dX2_make_171 : decode cX2_make 171 = .ok (.aload_n 0, 1) := by decide +kernel
theorem dX2_make_172 : decode cX2_make 172 = .ok (.getfield 34, 3) := by decide +kernel
theorem dX2_make_175 : decode cX2_make 175 = .ok (.aload_n 0, 1) := by decide +kernel
theorem dX2_make_176 : decode cX2_make 176 = .ok (.getfield 37, 3) := by decide +kernel
theorem dX2_make_179 : decode cX2_make 179 = .ok (.aload_n 0, 1) := by decide +kernel
theorem dX2_make_180 : decode cX2_make 180 = .ok (.iload_n 1, 1) := by decide +kernel
theorem dX2_make_181 : decode cX2_make 181 = .ok (.iload_n 2, 1) := by decide +kernel
theorem dX2_make_182 : decode cX2_make 182 = .ok (.iload_n 3, 1) := by decide +kernel
theorem dX2_make_183 : decode cX2_make 183 = .ok (.iload 4, 2) := by decide +kernel
theorem dX2_make_185 : decode cX2_make 185 = .ok (.invokevirtual 56, 3) := by decide +kernel
theorem dX2_make_188 : decode cX2_make 188 = .ok (.iastore, 1) := by decide +kernel
theorem dX2_make_189 : decode cX2_make 189 = .ok (.aload_n 0, 1) := by decide +kernel
theorem dX2_make_190 : decode cX2_make 190 = .ok (.dup, 1) := by decide +kernel
theorem dX2_make_191 : decode cX2_make 191 = .ok (.getfield 37, 3) := by decide +kernel
theorem dX2_make_194 : decode cX2_make 194 = .ok (.iconst 1, 1) := by decide +kernel
theorem dX2_make_195 : decode cX2_make 195 = .ok (.iadd, 1) := by decide +kernel
theorem dX2_make_196 : decode cX2_make 196 = .ok (.putfield 37, 3) := by decide +kernel
theorem dX2_make_199 : decode cX2_make 199 = .ok (.aload_n 0, 1) := by decide +kernel
theorem dX2_make_200 : decode cX2_make 200 = .ok (.getfield 37, 3) := by decide +kernel
theorem dX2_make_203 : decode cX2_make 203 = .ok (.iconst 1, 1) := by decide +kernel
theorem dX2_make_204 : decode cX2_make 204 = .ok (.isub, 1) := by decide +kernel
theorem dX2_make_205 : decode cX2_make 205 = .ok (.ireturn, 1) := by decide +kernel
theorem dX2_cutTo_0 : decode cX2_cutTo 0 = .ok (.iload_n 1, 1) := by decide +kernel
theorem dX2_cutTo_1 : decode cX2_cutTo 1 = .ok (.ifCond .lt 16, 3) := by decide +kernel
theorem dX2_cutTo_4 : decode cX2_cutTo 4 = .ok (.iload_n 1, 1) := by decide +kernel
theorem dX2_cutTo_5 : decode cX2_cutTo 5 = .ok (.aload_n 0, 1) := by decide +kernel
theorem dX2_cutTo_6 : decode cX2_cutTo 6 = .ok (.getfield 37, 3) := by decide +kernel
theorem dX2_cutTo_9 : decode cX2_cutTo 9 = .ok (.if_icmp .ge 8, 3) := by decide +kernel
theorem dX2_cutTo_12 : decode cX2_cutTo 12 = .ok (.aload_n 0, 1) := by decide +kernel
theorem dX2_cutTo_13 : decode cX2_cutTo 13 = .ok (.iload_n 1, 1) := by decide +kernel
theorem dX2_cutTo_14 : decode cX2_cutTo 14 = .ok (.putfield 37, 3) := by decide +kernel
theorem dX2_cutTo_17 : decode cX2_cutTo 17 = .ok (.return_, 1) := by decide +kernel
theorem dX3_init_0 : decode cX3_init 0 = .ok (.aload_n 0, 1) := by decide +kernel
theorem dX3_init_1 : decode cX3_init 1 = .ok (.invokespecial 5, 3) := by decide +kernel
theorem dX3_init_4 : decode cX3_init 4 = .ok (.aload_n 0, 1) := by decide +kernel
theorem dX3_init_5 : decode cX3_init 5 = .ok (.aload_n 1, 1) := by decide +kernel
theorem dX3_init_6 : decode cX3_init 6 = .ok (.putfield 11, 3) := by decide +kernel
theorem dX3_init_9 : decode cX3_init 9 = .ok (.aload_n 0, 1) := by decide +kernel
theorem dX3_init_10 : decode cX3_init 10 = .ok (.sipush 600, 3) := by decide +kernel
theorem dX3_init_13 : decode cX3_init 13 = .ok (.newarray .int, 2) := by decide +kernel
theorem dX3_init_15 : decode cX3_init 15 = .ok (.putfield 15, 3) := by decide +kernel
theorem dX3_init_18 : decode cX3_init 18 = .ok (.aload_n 0, 1) := by decide +kernel
theorem dX3_init_19 : decode cX3_init 19 = .ok (.bipush 25, 2) := by decide +kernel
theorem dX3_init_21 : decode cX3_init 21 = .ok (.newarray .int, 2) := by decide +kernel
theorem dX3_init_23 : decode cX3_init 23 = .ok (.putfield 19, 3) := by decide +kernel
theorem dX3_init_26 : decode cX3_init 26 = .ok (.aload_n 0, 1) := by decide +kernel
theorem dX3_init_27 : decode cX3_init 27 = .ok (.sipush 256, 3) := by decide +kernel
theorem dX3_init_30 : decode cX3_init 30 = .ok (.newarray .int, 2) := by decide +kernel
theorem dX3_init_32 : decode cX3_init 32 = .ok (.putfield 22, 3) := by decide +kernel
theorem dX3_init_35 : decode cX3_init 35 = .ok (.aload_n 0, 1) := by decide +kernel
theorem dX3_init_36 : decode cX3_init 36 = .ok (.sipush 256, 3) := by decide +kernel
theorem dX3_init_39 : decode cX3_init 39 = .ok (.newarray .int, 2) := by decide +kernel
theorem dX3_init_41 : decode cX3_init 41 = .ok (.putfield 25, 3) := by decide +kernel
theorem dX3_init_44 : decode cX3_init 44 = .ok (.aload_n 0, 1) := by decide +kernel
theorem dX3_init_45 : decode cX3_init 45 = .ok (.sipush 6144, 3) := by decide +kernel
theorem dX3_init_48 : decode cX3_init 48 = .ok (.newarray .int, 2) := by decide +kernel
theorem dX3_init_50 : decode cX3_init 50 = .ok (.putfield 28, 3) := by decide +kernel
theorem dX3_init_53 : decode cX3_init 53 = .ok (.aload_n 0, 1) := by decide +kernel
theorem dX3_init_54 : decode cX3_init 54 = .ok (.sipush 256, 3) := by decide +kernel
theorem dX3_init_57 : decode cX3_init 57 = .ok (.newarray .int, 2) := by decide +kernel
theorem dX3_init_59 : decode cX3_init 59 = .ok (.putfield 31, 3) := by decide +kernel
theorem dX3_init_62 : decode cX3_init 62 = .ok (.return_, 1) := by decide +kernel
theorem dX3_rewritten_0 : decode cX3_rewritten 0 = .ok (.aload_n 0, 1) := by decide +kernel
theorem dX3_rewritten_1 : decode cX3_rewritten 1 = .ok (.getfield 11, 3) := by decide +kernel
theorem dX3_rewritten_4 : decode cX3_rewritten 4 = .ok (.invokevirtual 34, 3) := by decide +kernel
theorem dX3_rewritten_7 : decode cX3_rewritten 7 = .ok (.istore_n 2, 1) := by decide +kernel
theorem dX3_rewritten_8 : decode cX3_rewritten 8 = .ok (.aload_n 0, 1) := by decide +kernel
theorem dX3_rewritten_9 : decode cX3_rewritten 9 = .ok (.iconst 0, 1) := by decide +kernel
theorem dX3_rewritten_10 : decode cX3_rewritten 10 = .ok (.putfield 40, 3) := by decide +kernel
theorem dX3_rewritten_13 : decode cX3_rewritten 13 = .ok (.aload_n 0, 1) := by decide +kernel
theorem dX3_rewritten_14 : decode cX3_rewritten 14 = .ok (.iconst 0, 1) := by decide +kernel
theorem dX3_rewritten_15 : decode cX3_rewritten 15 = .ok (.invokevirtual 44, 3) := by decide +kernel
theorem dX3_rewritten_18 : decode cX3_rewritten 18 = .ok (.aload_n 0, 1) := by decide +kernel
theorem dX3_rewritten_19 : decode cX3_rewritten 19 = .ok (.iload_n 1, 1) := by decide +kernel
theorem dX3_rewritten_20 : decode cX3_rewritten 20 = .ok (.iconst 0, 1) := by decide +kernel
theorem dX3_rewritten_21 : decode cX3_rewritten 21 = .ok (.invokevirtual 48, 3) := by decide +kernel
theorem dX3_rewritten_24 : decode cX3_rewritten 24 = .ok (.istore_n 3, 1) := by decide +kernel
theorem dX3_rewritten_25 : decode cX3_rewritten 25 = .ok (.iload_n 3, 1) := by decide +kernel
theorem dX3_rewritten_26 : decode cX3_rewritten 26 = .ok (.iconst (-1), 1) := by decide +kernel
theorem dX3_rewritten_27 : decode cX3_rewritten 27 = .ok (.if_icmp .ne 11, 3) := by decide +kernel
theorem dX3_rewritten_30 : decode cX3_rewritten 30 = .ok (.aload_n 0, 1) := by decide +kernel
theorem dX3_rewritten_31 : decode cX3_rewritten 31 = .ok (.getfield 11, 3) := by decide +kernel
theorem dX3_rewritten_34 : decode cX3_rewritten 34 = .ok (.iload_n 2, 1) := by decide +kernel
theorem dX3_rewritten_35 : decode cX3_rewritten 35 = .ok (.invokevirtual 52, 3) := by decide +kernel
theorem dX3_rewritten_38 : decode cX3_rewritten 38 = .ok (.iload_n 3, 1) := by decide +kernel
theorem dX3_rewritten_39 : decode cX3_rewritten 39 = .ok (.ireturn, 1) := by decide +kernel
theorem dX3_codeOf_0 : decode cX3_codeOf 0 = .ok (.iload_n 0, 1) := by decide +kernel
theorem dX3_codeOf_1 : decode cX3_codeOf 1 = .ok (.sipush 1194, 3) := by decide +kernel
theorem dX3_codeOf_4 : decode cX3_codeOf 4 = .ok (.imul, 1) := by decide +kernel
theorem dX3_codeOf_5 : decode cX3_codeOf 5 = .ok (.iload_n 1, 1) := by decide +kernel
theorem dX3_codeOf_6 : decode cX3_codeOf 6 = .ok (.sipush 199, 3) := by decide +kernel
theorem dX3_codeOf_9 : decode cX3_codeOf 9 = .ok (.imul, 1) := by decide +kernel
theorem dX3_codeOf_10 : decode cX3_codeOf 10 = .ok (.iadd, 1) := by decide +kernel
theorem dX3_codeOf_11 : decode cX3_codeOf 11 = .ok (.iload_n 2, 1) := by decide +kernel
theorem dX3_codeOf_12 : decode cX3_codeOf 12 = .ok (.iadd, 1) := by decide +kernel
theorem dX3_codeOf_13 : decode cX3_codeOf 13 = .ok (.bipush 99, 2) := by decide +kernel
theorem dX3_codeOf_15 : decode cX3_codeOf 15 = .ok (.iadd, 1) := by decide +kernel
theorem dX3_codeOf_16 : decode cX3_codeOf 16 = .ok (.ireturn, 1) := by decide +kernel
theorem dX3_settle_0 : decode cX3_settle 0 = .ok (.aload_n 0, 1) := by decide +kernel
theorem dX3_settle_1 : decode cX3_settle 1 = .ok (.getfield 11, 3) := by decide +kernel
theorem dX3_settle_4 : decode cX3_settle 4 = .ok (.iload_n 1, 1) := by decide +kernel
theorem dX3_settle_5 : decode cX3_settle 5 = .ok (.invokevirtual 55, 3) := by decide +kernel
theorem dX3_settle_8 : decode cX3_settle 8 = .ok (.ifCond .eq 13, 3) := by decide +kernel
theorem dX3_settle_11 : decode cX3_settle 11 = .ok (.iload_n 2, 1) := by decide +kernel
theorem dX3_settle_12 : decode cX3_settle 12 = .ok (.ifCond .lt 9, 3) := by decide +kernel
theorem dX3_settle_15 : decode cX3_settle 15 = .ok (.iload_n 2, 1) := by decide +kernel
theorem dX3_settle_16 : decode cX3_settle 16 = .ok (.bipush 24, 2) := by decide +kernel
theorem dX3_settle_18 : decode cX3_settle 18 = .ok (.if_icmp .lt 5, 3) := by decide +kernel
theorem dX3_settle_21 : decode cX3_settle 21 = .ok (.iconst (-1), 1) := by decide +kernel
theorem dX3_settle_22 : decode cX3_settle 22 = .ok (.ireturn, 1) := by decide +kernel
theorem dX3_settle_23 : decode cX3_settle 23 = .ok (.aload_n 0, 1) := by decide +kernel
theorem dX3_settle_24 : decode cX3_settle 24 = .ok (.iload_n 1, 1) := by decide +kernel
theorem dX3_settle_25 : decode cX3_settle 25 = .ok (.iload_n 2, 1) := by decide +kernel
theorem dX3_settle_26 : decode cX3_settle 26 = .ok (.invokevirtual 59, 3) := by decide +kernel
theorem dX3_settle_29 : decode cX3_settle 29 = .ok (.istore_n 3, 1) := by decide +kernel
theorem dX3_settle_30 : decode cX3_settle 30 = .ok (.iload_n 3, 1) := by decide +kernel
theorem dX3_settle_31 : decode cX3_settle 31 = .ok (.iconst (-1), 1) := by decide +kernel
theorem dX3_settle_32 : decode cX3_settle 32 = .ok (.if_icmp .eq 10, 3) := by decide +kernel
theorem dX3_settle_35 : decode cX3_settle 35 = .ok (.aload_n 0, 1) := by decide +kernel
theorem dX3_settle_36 : decode cX3_settle 36 = .ok (.getfield 31, 3) := by decide +kernel
theorem dX3_settle_39 : decode cX3_settle 39 = .ok (.iload_n 3, 1) := by decide +kernel
theorem dX3_settle_40 : decode cX3_settle 40 = .ok (.iaload, 1) := by decide +kernel
theorem dX3_settle_41 : decode cX3_settle 41 = .ok (.ireturn, 1) := by decide +kernel
theorem dX3_settle_42 : decode cX3_settle 42 = .ok (.aload_n 0, 1) := by decide +kernel
theorem dX3_settle_43 : decode cX3_settle 43 = .ok (.iload_n 1, 1) := by decide +kernel
theorem dX3_settle_44 : decode cX3_settle 44 = .ok (.iload_n 2, 1) := by decide +kernel
theorem dX3_settle_45 : decode cX3_settle 45 = .ok (.invokevirtual 62, 3) := by decide +kernel
theorem dX3_settle_48 : decode cX3_settle 48 = .ok (.istore 4, 2) := by decide +kernel
theorem dX3_settle_50 : decode cX3_settle 50 = .ok (.aload_n 0, 1) := by decide +kernel
theorem dX3_settle_51 : decode cX3_settle 51 = .ok (.getfield 11, 3) := by decide +kernel
theorem dX3_settle_54 : decode cX3_settle 54 = .ok (.iload_n 1, 1) := by decide +kernel
theorem dX3_settle_55 : decode cX3_settle 55 = .ok (.invokevirtual 65, 3) := by decide +kernel
theorem dX3_settle_58 : decode cX3_settle 58 = .ok (.iconst 1, 1) := by decide +kernel
theorem dX3_settle_59 : decode cX3_settle 59 = .ok (.if_icmp .ne 12, 3) := by decide +kernel
theorem dX3_settle_62 : decode cX3_settle 62 = .ok (.aload_n 0, 1) := by decide +kernel
theorem dX3_settle_63 : decode cX3_settle 63 = .ok (.iload_n 1, 1) := by decide +kernel
theorem dX3_settle_64 : decode cX3_settle 64 = .ok (.iload_n 2, 1) := by decide +kernel
theorem dX3_settle_65 : decode cX3_settle 65 = .ok (.invokevirtual 69, 3) := by decide +kernel
theorem dX3_settle_68 : decode cX3_settle 68 = .ok (.goto 9, 3) := by decide +kernel
theorem dX3_settle_71 : decode cX3_settle 71 = .ok (.aload_n 0, 1) := by decide +kernel
theorem dX3_settle_72 : decode cX3_settle 72 = .ok (.iload_n 1, 1) := by decide +kernel
theorem dX3_settle_73 : decode cX3_settle 73 = .ok (.iload_n 2, 1) := by decide +kernel
theorem dX3_settle_74 : decode cX3_settle 74 = .ok (.invokevirtual 72, 3) := by decide +kernel
theorem dX3_settle_77 : decode cX3_settle 77 = .ok (.istore 5, 2) := by decide +kernel
theorem dX3_settle_79 : decode cX3_settle 79 = .ok (.iload 4, 2) := by decide +kernel
theorem dX3_settle_81 : decode cX3_settle 81 = .ok (.iconst (-1), 1) := by decide +kernel
theorem dX3_settle_82 : decode cX3_settle 82 = .ok (.if_icmp .eq 12, 3) := by decide +kernel
theorem dX3_settle_85 : decode cX3_settle 85 = .ok (.aload_n 0, 1) := by decide +kernel
theorem dX3_settle_86 : decode cX3_settle 86 = .ok (.getfield 31, 3) := by decide +kernel
theorem dX3_settle_89 : decode cX3_settle 89 = .ok (.iload 4, 2) := by decide +kernel
theorem dX3_settle_91 : decode cX3_settle 91 = .ok (.iload 5, 2) := by decide +kernel
theorem dX3_settle_93 : decode cX3_settle 93 = .ok (.iastore, 1) := by decide +kernel
theorem dX3_settle_94 : decode cX3_settle 94 = .ok (.iload 5, 2) := by decide +kernel
theorem dX3_settle_96 : decode cX3_settle 96 = .ok (.ireturn, 1) := by decide +kernel
theorem dX3_settleFilter_0 : decode cX3_settleFilter 0 = .ok (.aload_n 0, 1) := by decide +kernel
theorem dX3_settleFilter_1 : decode cX3_settleFilter 1 = .ok (.iload_n 2, 1) := by decide +kernel
theorem dX3_settleFilter_2 : decode cX3_settleFilter 2 = .ok (.iconst 1, 1) := by decide +kernel
theorem dX3_settleFilter_3 : decode cX3_settleFilter 3 = .ok (.iadd, 1) := by decide +kernel
theorem dX3_settleFilter_4 : decode cX3_settleFilter 4 = .ok (.invokevirtual 44, 3) := by decide +kernel
theorem dX3_settleFilter_7 : decode cX3_settleFilter 7 = .ok (.aload_n 0, 1) := by decide +kernel
theorem dX3_settleFilter_8 : decode cX3_settleFilter 8 = .ok (.iload_n 2, 1) := by decide +kernel
theorem dX3_settleFilter_9 : decode cX3_settleFilter 9 = .ok (.iconst 1, 1) := by decide +kernel
theorem dX3_settleFilter_10 : decode cX3_settleFilter 10 = .ok (.iadd, 1) := by decide +kernel
theorem dX3_settleFilter_11 : decode cX3_settleFilter 11 = .ok (.aload_n 0, 1) := by decide +kernel
theorem dX3_settleFilter_12 : decode cX3_settleFilter 12 = .ok (.getfield 11, 3) := by decide +kernel
theorem dX3_settleFilter_15 : decode cX3_settleFilter 15 = .ok (.iload_n 1, 1) := by decide +kernel
theorem dX3_settleFilter_16 : decode cX3_settleFilter 16 = .ok (.invokevirtual 75, 3) := by decide +kernel
theorem dX3_settleFilter_19 : decode cX3_settleFilter 19 = .ok (.aload_n 0, 1) := by decide +kernel
theorem dX3_settleFilter_20 : decode cX3_settleFilter 20 = .ok (.getfield 11, 3) := by decide +kernel
theorem dX3_settleFilter_23 : decode cX3_settleFilter 23 = .ok (.iload_n 1, 1) := by decide +kernel
theorem dX3_settleFilter_24 : decode cX3_settleFilter 24 = .ok (.invokevirtual 78, 3) := by decide +kernel
theorem dX3_settleFilter_27 : decode cX3_settleFilter 27 = .ok (.aload_n 0, 1) := by decide +kernel
theorem dX3_settleFilter_28 : decode cX3_settleFilter 28 = .ok (.getfield 11, 3) := by decide +kernel
theorem dX3_settleFilter_31 : decode cX3_settleFilter 31 = .ok (.iload_n 1, 1) := by decide +kernel
theorem dX3_settleFilter_32 : decode cX3_settleFilter 32 = .ok (.invokevirtual 81, 3) := by decide +kernel
theorem dX3_settleFilter_35 : decode cX3_settleFilter 35 = .ok (.invokestatic 84, 3) := by decide +kernel
theorem dX3_settleFilter_38 : decode cX3_settleFilter 38 = .ok (.invokevirtual 88, 3) := by decide +kernel
theorem dX3_settleFilter_41 : decode cX3_settleFilter 41 = .ok (.iconst 0, 1) := by decide +kernel
theorem dX3_settleFilter_42 : decode cX3_settleFilter 42 = .ok (.istore_n 3, 1) := by decide +kernel
theorem dX3_settleFilter_43 : decode cX3_settleFilter 43 = .ok (.iload_n 3, 1) := by decide +kernel
theorem dX3_settleFilter_44 : decode cX3_settleFilter 44 = .ok (.aload_n 0, 1) := by decide +kernel
theorem dX3_settleFilter_45 : decode cX3_settleFilter 45 = .ok (.iload_n 2, 1) := by decide +kernel
theorem dX3_settleFilter_46 : decode cX3_settleFilter 46 = .ok (.invokevirtual 92, 3) := by decide +kernel
theorem dX3_settleFilter_49 : decode cX3_settleFilter 49 = .ok (.if_icmp .ge 22, 3) := by decide +kernel
theorem dX3_settleFilter_52 : decode cX3_settleFilter 52 = .ok (.aload_n 0, 1) := by decide +kernel
theorem dX3_settleFilter_53 : decode cX3_settleFilter 53 = .ok (.iload_n 2, 1) := by decide +kernel
theorem dX3_settleFilter_54 : decode cX3_settleFilter 54 = .ok (.iconst 1, 1) := by decide +kernel
theorem dX3_settleFilter_55 : decode cX3_settleFilter 55 = .ok (.iadd, 1) := by decide +kernel
theorem dX3_settleFilter_56 : decode cX3_settleFilter 56 = .ok (.aload_n 0, 1) := by decide +kernel
theorem dX3_settleFilter_57 : decode cX3_settleFilter 57 = .ok (.iload_n 2, 1) := by decide +kernel
theorem dX3_settleFilter_58 : decode cX3_settleFilter 58 = .ok (.iload_n 3, 1) := by decide +kernel
theorem dX3_settleFilter_59 : decode cX3_settleFilter 59 = .ok (.invokevirtual 95, 3) := by decide +kernel
theorem dX3_settleFilter_62 : decode cX3_settleFilter 62 = .ok (.invokevirtual 88, 3) := by decide +kernel
theorem dX3_settleFilter_65 : decode cX3_settleFilter 65 = .ok (.iinc 3 1, 3) := by decide +kernel
theorem dX3_settleFilter_68 : decode cX3_settleFilter 68 = .ok (.goto (-25), 3) := by decide +kernel
theorem dX3_settleFilter_71 : decode cX3_settleFilter 71 = .ok (.aload_n 0, 1) := by decide +kernel
theorem dX3_settleFilter_72 : decode cX3_settleFilter 72 = .ok (.aload_n 0, 1) := by decide +kernel
theorem dX3_settleFilter_73 : decode cX3_settleFilter 73 = .ok (.getfield 11, 3) := by decide +kernel
theorem dX3_settleFilter_76 : decode cX3_settleFilter 76 = .ok (.iload_n 1, 1) := by decide +kernel
theorem dX3_settleFilter_77 : decode cX3_settleFilter 77 = .ok (.invokevirtual 98, 3) := by decide +kernel
theorem dX3_settleFilter_80 : decode cX3_settleFilter 80 = .ok (.iload_n 2, 1) := by decide +kernel
theorem dX3_settleFilter_81 : decode cX3_settleFilter 81 = .ok (.iconst 1, 1) := by decide +kernel
theorem dX3_settleFilter_82 : decode cX3_settleFilter 82 = .ok (.iadd, 1) := by decide +kernel
theorem dX3_settleFilter_83 : decode cX3_settleFilter 83 = .ok (.invokevirtual 48, 3) := by decide +kernel
theorem dX3_settleFilter_86 : decode cX3_settleFilter 86 = .ok (.ireturn, 1) := by decide +kernel
theorem dX3_settleOther_0 : decode cX3_settleOther 0 = .ok (.aload_n 0, 1) := by decide +kernel
theorem dX3_settleOther_1 : decode cX3_settleOther 1 = .ok (.getfield 11, 3) := by decide +kernel
theorem dX3_settleOther_4 : decode cX3_settleOther 4 = .ok (.iload_n 1, 1) := by decide +kernel
theorem dX3_settleOther_5 : decode cX3_settleOther 5 = .ok (.invokevirtual 65, 3) := by decide +kernel
theorem dX3_settleOther_8 : decode cX3_settleOther 8 = .ok (.istore_n 3, 1) := by decide +kernel
theorem dX3_settleOther_9 : decode cX3_settleOther 9 = .ok (.aload_n 0, 1) := by decide +kernel
theorem dX3_settleOther_10 : decode cX3_settleOther 10 = .ok (.getfield 11, 3) := by decide +kernel
theorem dX3_settleOther_13 : decode cX3_settleOther 13 = .ok (.iload_n 1, 1) := by decide +kernel
theorem dX3_settleOther_14 : decode cX3_settleOther 14 = .ok (.invokevirtual 98, 3) := by decide +kernel
theorem dX3_settleOther_17 : decode cX3_settleOther 17 = .ok (.istore 4, 2) := by decide +kernel
theorem dX3_settleOther_19 : decode cX3_settleOther 19 = .ok (.aload_n 0, 1) := by decide +kernel
theorem dX3_settleOther_20 : decode cX3_settleOther 20 = .ok (.getfield 11, 3) := by decide +kernel
theorem dX3_settleOther_23 : decode cX3_settleOther 23 = .ok (.iload_n 1, 1) := by decide +kernel
theorem dX3_settleOther_24 : decode cX3_settleOther 24 = .ok (.invokevirtual 101, 3) := by decide +kernel
theorem dX3_settleOther_27 : decode cX3_settleOther 27 = .ok (.istore 5, 2) := by decide +kernel
theorem dX3_settleOther_29 : decode cX3_settleOther 29 = .ok (.aload_n 0, 1) := by decide +kernel
theorem dX3_settleOther_30 : decode cX3_settleOther 30 = .ok (.iload_n 1, 1) := by decide +kernel
theorem dX3_settleOther_31 : decode cX3_settleOther 31 = .ok (.iload_n 2, 1) := by decide +kernel
theorem dX3_settleOther_32 : decode cX3_settleOther 32 = .ok (.invokevirtual 104, 3) := by decide +kernel
theorem dX3_settleOther_35 : decode cX3_settleOther 35 = .ok (.istore 6, 2) := by decide +kernel
theorem dX3_settleOther_37 : decode cX3_settleOther 37 = .ok (.iload_n 3, 1) := by decide +kernel
theorem dX3_settleOther_38 : decode cX3_settleOther 38 = .ok (.ifCond .eq 30, 3) := by decide +kernel
theorem dX3_settleOther_41 : decode cX3_settleOther 41 = .ok (.aload_n 0, 1) := by decide +kernel
theorem dX3_settleOther_42 : decode cX3_settleOther 42 = .ok (.iload_n 1, 1) := by decide +kernel
theorem dX3_settleOther_43 : decode cX3_settleOther 43 = .ok (.iload_n 2, 1) := by decide +kernel
theorem dX3_settleOther_44 : decode cX3_settleOther 44 = .ok (.iload 6, 2) := by decide +kernel
theorem dX3_settleOther_46 : decode cX3_settleOther 46 = .ok (.invokevirtual 107, 3) := by decide +kernel
theorem dX3_settleOther_49 : decode cX3_settleOther 49 = .ok (.aload_n 0, 1) := by decide +kernel
theorem dX3_settleOther_50 : decode cX3_settleOther 50 = .ok (.iload 4, 2) := by decide +kernel
theorem dX3_settleOther_52 : decode cX3_settleOther 52 = .ok (.iload_n 2, 1) := by decide +kernel
theorem dX3_settleOther_53 : decode cX3_settleOther 53 = .ok (.iconst 1, 1) := by decide +kernel
theorem dX3_settleOther_54 : decode cX3_settleOther 54 = .ok (.iadd, 1) := by decide +kernel
theorem dX3_settleOther_55 : decode cX3_settleOther 55 = .ok (.invokevirtual 48, 3) := by decide +kernel
theorem dX3_settleOther_58 : decode cX3_settleOther 58 = .ok (.istore 4, 2) := by decide +kernel
theorem dX3_settleOther_60 : decode cX3_settleOther 60 = .ok (.iload 4, 2) := by decide +kernel
theorem dX3_settleOther_62 : decode cX3_settleOther 62 = .ok (.iconst (-1), 1) := by decide +kernel
theorem dX3_settleOther_63 : decode cX3_settleOther 63 = .ok (.if_icmp .ne 5, 3) := by decide +kernel
theorem dX3_settleOther_66 : decode cX3_settleOther 66 = .ok (.iconst (-1), 1) := by decide +kernel
theorem dX3_settleOther_67 : decode cX3_settleOther 67 = .ok (.ireturn, 1) := by decide +kernel
theorem dX3_settleOther_68 : decode cX3_settleOther 68 = .ok (.iload 5, 2) := by decide +kernel
theorem dX3_settleOther_70 : decode cX3_settleOther 70 = .ok (.iconst (-1), 1) := by decide +kernel
theorem dX3_settleOther_71 : decode cX3_settleOther 71 = .ok (.if_icmp .eq 30, 3) := by decide +kernel
theorem dX3_settleOther_74 : decode cX3_settleOther 74 = .ok (.aload_n 0, 1) := by decide +kernel
theorem dX3_settleOther_75 : decode cX3_settleOther 75 = .ok (.iload_n 1, 1) := by decide +kernel
theorem dX3_settleOther_76 : decode cX3_settleOther 76 = .ok (.iload_n 2, 1) := by decide +kernel
theorem dX3_settleOther_77 : decode cX3_settleOther 77 = .ok (.iload 6, 2) := by decide +kernel
theorem dX3_settleOther_79 : decode cX3_settleOther 79 = .ok (.invokevirtual 111, 3) := by decide +kernel
theorem dX3_settleOther_82 : decode cX3_settleOther 82 = .ok (.aload_n 0, 1) := by decide +kernel
theorem dX3_settleOther_83 : decode cX3_settleOther 83 = .ok (.iload 5, 2) := by decide +kernel
theorem dX3_settleOther_85 : decode cX3_settleOther 85 = .ok (.iload_n 2, 1) := by decide +kernel
theorem dX3_settleOther_86 : decode cX3_settleOther 86 = .ok (.iconst 1, 1) := by decide +kernel
theorem dX3_settleOther_87 : decode cX3_settleOther 87 = .ok (.iadd, 1) := by decide +kernel
theorem dX3_settleOther_88 : decode cX3_settleOther 88 = .ok (.invokevirtual 48, 3) := by decide +kernel
theorem dX3_settleOther_91 : decode cX3_settleOther 91 = .ok (.istore 5, 2) := by decide +kernel
theorem dX3_settleOther_93 : decode cX3_settleOther 93 = .ok (.iload 5, 2) := by decide +kernel
theorem dX3_settleOther_95 : decode cX3_settleOther 95 = .ok (.iconst (-1), 1) := by decide +kernel
theorem dX3_settleOther_96 : decode cX3_settleOther 96 = .ok (.if_icmp .ne 5, 3) := by decide +kernel
theorem dX3_settleOther_99 : decode cX3_settleOther 99 = .ok (.iconst (-1), 1) := by decide +kernel
theorem dX3_settleOther_100 : decode cX3_settleOther 100 = .ok (.ireturn, 1) := by decide +kernel
theorem dX3_settleOther_101 : decode cX3_settleOther 101 = .ok (.aload_n 0, 1) := by decide +kernel
theorem dX3_settleOther_102 : decode cX3_settleOther 102 = .ok (.getfield 11, 3) := by decide +kernel
theorem dX3_settleOther_105 : decode cX3_settleOther 105 = .ok (.iload_n 3, 1) := by decide +kernel
theorem dX3_settleOther_106 : decode cX3_settleOther 106 = .ok (.iload 4, 2) := by decide +kernel
theorem dX3_settleOther_108 : decode cX3_settleOther 108 = .ok (.iload 5, 2) := by decide +kernel
theorem dX3_settleOther_110 : decode cX3_settleOther 110 = .ok (.aload_n 0, 1) := by decide +kernel
theorem dX3_settleOther_111 : decode cX3_settleOther 111 = .ok (.getfield 11, 3) := by decide +kernel
theorem dX3_settleOther_114 : decode cX3_settleOther 114 = .ok (.iload_n 1, 1) := by decide +kernel
theorem dX3_settleOther_115 : decode cX3_settleOther 115 = .ok (.invokevirtual 78, 3) := by decide +kernel
theorem dX3_settleOther_118 : decode cX3_settleOther 118 = .ok (.aload_n 0, 1) := by decide +kernel
theorem dX3_settleOther_119 : decode cX3_settleOther 119 = .ok (.getfield 11, 3) := by decide +kernel
theorem dX3_settleOther_122 : decode cX3_settleOther 122 = .ok (.iload_n 1, 1) := by decide +kernel
theorem dX3_settleOther_123 : decode cX3_settleOther 123 = .ok (.invokevirtual 75, 3) := by decide +kernel
theorem dX3_settleOther_126 : decode cX3_settleOther 126 = .ok (.aload_n 0, 1) := by decide +kernel
theorem dX3_settleOther_127 : decode cX3_settleOther 127 = .ok (.getfield 11, 3) := by decide +kernel
theorem dX3_settleOther_130 : decode cX3_settleOther 130 = .ok (.iload_n 1, 1) := by decide +kernel
theorem dX3_settleOther_131 : decode cX3_settleOther 131 = .ok (.invokevirtual 81, 3) := by decide +kernel
theorem dX3_settleOther_134 : decode cX3_settleOther 134 = .ok (.invokevirtual 114, 3) := by decide +kernel
theorem dX3_settleOther_137 : decode cX3_settleOther 137 = .ok (.istore 7, 2) := by decide +kernel
theorem dX3_settleOther_139 : decode cX3_settleOther 139 = .ok (.aload_n 0, 1) := by decide +kernel
theorem dX3_settleOther_140 : decode cX3_settleOther 140 = .ok (.iload 7, 2) := by decide +kernel
theorem dX3_settleOther_142 : decode cX3_settleOther 142 = .ok (.iload_n 2, 1) := by decide +kernel
theorem dX3_settleOther_143 : decode cX3_settleOther 143 = .ok (.iload 6, 2) := by decide +kernel
theorem dX3_settleOther_145 : decode cX3_settleOther 145 = .ok (.invokevirtual 118, 3) := by decide +kernel
theorem dX3_settleOther_148 : decode cX3_settleOther 148 = .ok (.ireturn, 1) := by decide +kernel
theorem dX3_countFree_0 : decode cX3_countFree 0 = .ok (.iconst 0, 1) := by decide +kernel
theorem dX3_countFree_1 : decode cX3_countFree 1 = .ok (.istore_n 3, 1) := by decide +kernel
theorem dX3_countFree_2 : decode cX3_countFree 2 = .ok (.iload_n 3, 1) := by decide +kernel
theorem dX3_countFree_3 : decode cX3_countFree 3 = .ok (.aload_n 0, 1) := by decide +kernel
theorem dX3_countFree_4 : decode cX3_countFree 4 = .ok (.iload_n 2, 1) := by decide +kernel
theorem dX3_countFree_5 : decode cX3_countFree 5 = .ok (.invokevirtual 92, 3) := by decide +kernel
theorem dX3_countFree_8 : decode cX3_countFree 8 = .ok (.if_icmp .ge 23, 3) := by decide +kernel
theorem dX3_countFree_11 : decode cX3_countFree 11 = .ok (.aload_n 0, 1) := by decide +kernel
theorem dX3_countFree_12 : decode cX3_countFree 12 = .ok (.iload_n 1, 1) := by decide +kernel
theorem dX3_countFree_13 : decode cX3_countFree 13 = .ok (.aload_n 0, 1) := by decide +kernel
theorem dX3_countFree_14 : decode cX3_countFree 14 = .ok (.iload_n 2, 1) := by decide +kernel
theorem dX3_countFree_15 : decode cX3_countFree 15 = .ok (.iload_n 3, 1) := by decide +kernel
theorem dX3_countFree_16 : decode cX3_countFree 16 = .ok (.invokevirtual 95, 3) := by decide +kernel
theorem dX3_countFree_19 : decode cX3_countFree 19 = .ok (.invokevirtual 121, 3) := by decide +kernel
theorem dX3_countFree_22 : decode cX3_countFree 22 = .ok (.ifCond .eq 9, 3) := by decide +kernel
theorem dX3_countFree_25 : decode cX3_countFree 25 = .ok (.iinc 3 1, 3) := by decide +kernel
theorem dX3_countFree_28 : decode cX3_countFree 28 = .ok (.goto (-26), 3) := by decide +kernel
theorem dX3_countFree_31 : decode cX3_countFree 31 = .ok (.iload_n 3, 1) := by decide +kernel
theorem dX3_countFree_32 : decode cX3_countFree 32 = .ok (.ireturn, 1) := by decide +kernel
theorem dX3_isFree_0 : decode cX3_isFree 0 = .ok (.aload_n 0, 1) := by decide +kernel
theorem dX3_isFree_1 : decode cX3_isFree 1 = .ok (.getfield 11, 3) := by decide +kernel
theorem dX3_isFree_4 : decode cX3_isFree 4 = .ok (.iload_n 1, 1) := by decide +kernel
theorem dX3_isFree_5 : decode cX3_isFree 5 = .ok (.invokevirtual 65, 3) := by decide +kernel
theorem dX3_isFree_8 : decode cX3_isFree 8 = .ok (.lookupswitch 71 #[(2, 28), (4, 54)], 28) := by decide +kernel
theorem dX3_isFree_36 : decode cX3_isFree 36 = .ok (.aload_n 0, 1) := by decide +kernel
theorem dX3_isFree_37 : decode cX3_isFree 37 = .ok (.getfield 11, 3) := by decide +kernel
theorem dX3_isFree_40 : decode cX3_isFree 40 = .ok (.iload_n 1, 1) := by decide +kernel
theorem dX3_isFree_41 : decode cX3_isFree 41 = .ok (.invokevirtual 78, 3) := by decide +kernel
theorem dX3_isFree_44 : decode cX3_isFree 44 = .ok (.ifCond .eq 12, 3) := by decide +kernel
theorem dX3_isFree_47 : decode cX3_isFree 47 = .ok (.iload_n 2, 1) := by decide +kernel
theorem dX3_isFree_48 : decode cX3_isFree 48 = .ok (.aload_n 0, 1) := by decide +kernel
theorem dX3_isFree_49 : decode cX3_isFree 49 = .ok (.iload_n 1, 1) := by decide +kernel
theorem dX3_isFree_50 : decode cX3_isFree 50 = .ok (.invokevirtual 125, 3) := by decide +kernel
theorem dX3_isFree_53 : decode cX3_isFree 53 = .ok (.if_icmp .ge 7, 3) := by decide +kernel
theorem dX3_isFree_56 : decode cX3_isFree 56 = .ok (.iconst 1, 1) := by decide +kernel
theorem dX3_isFree_57 : decode cX3_isFree 57 = .ok (.goto 4, 3) := by decide +kernel
theorem dX3_isFree_60 : decode cX3_isFree 60 = .ok (.iconst 0, 1) := by decide +kernel
theorem dX3_isFree_61 : decode cX3_isFree 61 = .ok (.ireturn, 1) := by decide +kernel
theorem dX3_isFree_62 : decode cX3_isFree 62 = .ok (.aload_n 0, 1) := by decide +kernel
theorem dX3_isFree_63 : decode cX3_isFree 63 = .ok (.getfield 11, 3) := by decide +kernel
theorem dX3_isFree_66 : decode cX3_isFree 66 = .ok (.iload_n 1, 1) := by decide +kernel
theorem dX3_isFree_67 : decode cX3_isFree 67 = .ok (.invokevirtual 78, 3) := by decide +kernel
theorem dX3_isFree_70 : decode cX3_isFree 70 = .ok (.ifCond .ne 7, 3) := by decide +kernel
theorem dX3_isFree_73 : decode cX3_isFree 73 = .ok (.iconst 1, 1) := by decide +kernel
theorem dX3_isFree_74 : decode cX3_isFree 74 = .ok (.goto 4, 3) := by decide +kernel
theorem dX3_isFree_77 : decode cX3_isFree 77 = .ok (.iconst 0, 1) := by decide +kernel
theorem dX3_isFree_78 : decode cX3_isFree 78 = .ok (.ireturn, 1) := by decide +kernel
theorem dX3_isFree_79 : decode cX3_isFree 79 = .ok (.iconst 0, 1) := by decide +kernel
theorem dX3_isFree_80 : decode cX3_isFree 80 = .ok (.ireturn, 1) := by decide +kernel
theorem dX3_firstCodes_0 : decode cX3_firstCodes 0 = .ok (.aload_n 0, 1) := by decide +kernel
theorem dX3_firstCodes_1 : decode cX3_firstCodes 1 = .ok (.getfield 11, 3) := by decide +kernel
theorem dX3_firstCodes_4 : decode cX3_firstCodes 4 = .ok (.aload_n 0, 1) := by decide +kernel
theorem dX3_firstCodes_5 : decode cX3_firstCodes 5 = .ok (.getfield 11, 3) := by decide +kernel
theorem dX3_firstCodes_8 : decode cX3_firstCodes 8 = .ok (.iload_n 1, 1) := by decide +kernel
theorem dX3_firstCodes_9 : decode cX3_firstCodes 9 = .ok (.invokevirtual 98, 3) := by decide +kernel
theorem dX3_firstCodes_12 : decode cX3_firstCodes 12 = .ok (.invokevirtual 128, 3) := by decide +kernel
theorem dX3_firstCodes_15 : decode cX3_firstCodes 15 = .ok (.sipush 1194, 3) := by decide +kernel
theorem dX3_firstCodes_18 : decode cX3_firstCodes 18 = .ok (.imul, 1) := by decide +kernel
theorem dX3_firstCodes_19 : decode cX3_firstCodes 19 = .ok (.ireturn, 1) := by decide +kernel
theorem dX3_passToFirst_0 : decode cX3_passToFirst 0 = .ok (.aload_n 0, 1) := by decide +kernel
theorem dX3_passToFirst_1 : decode cX3_passToFirst 1 = .ok (.getfield 11, 3) := by decide +kernel
theorem dX3_passToFirst_4 : decode cX3_passToFirst 4 = .ok (.iload_n 1, 1) := by decide +kernel
theorem dX3_passToFirst_5 : decode cX3_passToFirst 5 = .ok (.invokevirtual 65, 3) := by decide +kernel
theorem dX3_passToFirst_8 : decode cX3_passToFirst 8 = .ok (.iconst 4, 1) := by decide +kernel
theorem dX3_passToFirst_9 : decode cX3_passToFirst 9 = .ok (.if_icmp .ne 7, 3) := by decide +kernel
theorem dX3_passToFirst_12 : decode cX3_passToFirst 12 = .ok (.iconst 1, 1) := by decide +kernel
theorem dX3_passToFirst_13 : decode cX3_passToFirst 13 = .ok (.goto 4, 3) := by decide +kernel
theorem dX3_passToFirst_16 : decode cX3_passToFirst 16 = .ok (.iconst 0, 1) := by decide +kernel
theorem dX3_passToFirst_17 : decode cX3_passToFirst 17 = .ok (.istore 4, 2) := by decide +kernel
theorem dX3_passToFirst_19 : decode cX3_passToFirst 19 = .ok (.aload_n 0, 1) := by decide +kernel
theorem dX3_passToFirst_20 : decode cX3_passToFirst 20 = .ok (.iload_n 2, 1) := by decide +kernel
theorem dX3_passToFirst_21 : decode cX3_passToFirst 21 = .ok (.iconst 1, 1) := by decide +kernel
theorem dX3_passToFirst_22 : decode cX3_passToFirst 22 = .ok (.iadd, 1) := by decide +kernel
theorem dX3_passToFirst_23 : decode cX3_passToFirst 23 = .ok (.invokevirtual 44, 3) := by decide +kernel
theorem dX3_passToFirst_26 : decode cX3_passToFirst 26 = .ok (.iconst 0, 1) := by decide +kernel
theorem dX3_passToFirst_27 : decode cX3_passToFirst 27 = .ok (.istore 5, 2) := by decide +kernel
theorem dX3_passToFirst_29 : decode cX3_passToFirst 29 = .ok (.iload 5, 2) := by decide +kernel
theorem dX3_passToFirst_31 : decode cX3_passToFirst 31 = .ok (.iload_n 3, 1) := by decide +kernel
theorem dX3_passToFirst_32 : decode cX3_passToFirst 32 = .ok (.if_icmp .ge 42, 3) := by decide +kernel
theorem dX3_passToFirst_35 : decode cX3_passToFirst 35 = .ok (.aload_n 0, 1) := by decide +kernel
theorem dX3_passToFirst_36 : decode cX3_passToFirst 36 = .ok (.iload_n 2, 1) := by decide +kernel
theorem dX3_passToFirst_37 : decode cX3_passToFirst 37 = .ok (.iload 5, 2) := by decide +kernel
theorem dX3_passToFirst_39 : decode cX3_passToFirst 39 = .ok (.invokevirtual 95, 3) := by decide +kernel
theorem dX3_passToFirst_42 : decode cX3_passToFirst 42 = .ok (.istore 6, 2) := by decide +kernel
theorem dX3_passToFirst_44 : decode cX3_passToFirst 44 = .ok (.iload 4, 2) := by decide +kernel
theorem dX3_passToFirst_46 : decode cX3_passToFirst 46 = .ok (.ifCond .ne 13, 3) := by decide +kernel
theorem dX3_passToFirst_49 : decode cX3_passToFirst 49 = .ok (.iload 6, 2) := by decide +kernel
theorem dX3_passToFirst_51 : decode cX3_passToFirst 51 = .ok (.aload_n 0, 1) := by decide +kernel
theorem dX3_passToFirst_52 : decode cX3_passToFirst 52 = .ok (.iload_n 1, 1) := by decide +kernel
theorem dX3_passToFirst_53 : decode cX3_passToFirst 53 = .ok (.invokevirtual 125, 3) := by decide +kernel
theorem dX3_passToFirst_56 : decode cX3_passToFirst 56 = .ok (.if_icmp .ge 12, 3) := by decide +kernel
theorem dX3_passToFirst_59 : decode cX3_passToFirst 59 = .ok (.aload_n 0, 1) := by decide +kernel
theorem dX3_passToFirst_60 : decode cX3_passToFirst 60 = .ok (.iload_n 2, 1) := by decide +kernel
theorem dX3_passToFirst_61 : decode cX3_passToFirst 61 = .ok (.iconst 1, 1) := by decide +kernel
theorem dX3_passToFirst_62 : decode cX3_passToFirst 62 = .ok (.iadd, 1) := by decide +kernel
theorem dX3_passToFirst_63 : decode cX3_passToFirst 63 = .ok (.iload 6, 2) := by decide +kernel
theorem dX3_passToFirst_65 : decode cX3_passToFirst 65 = .ok (.invokevirtual 88, 3) := by decide +kernel
theorem dX3_passToFirst_68 : decode cX3_passToFirst 68 = .ok (.iinc 5 1, 3) := by decide +kernel
theorem dX3_passToFirst_71 : decode cX3_passToFirst 71 = .ok (.goto (-42), 3) := by decide +kernel
theorem dX3_passToFirst_74 : decode cX3_passToFirst 74 = .ok (.return_, 1) := by decide +kernel
theorem dX3_passToSecond_0 : decode cX3_passToSecond 0 = .ok (.aload_n 0, 1) := by decide +kernel
theorem dX3_passToSecond_1 : decode cX3_passToSecond 1 = .ok (.getfield 11, 3) := by decide +kernel
theorem dX3_passToSecond_4 : decode cX3_passToSecond 4 = .ok (.iload_n 1, 1) := by decide +kernel
theorem dX3_passToSecond_5 : decode cX3_passToSecond 5 = .ok (.invokevirtual 65, 3) := by decide +kernel
theorem dX3_passToSecond_8 : decode cX3_passToSecond 8 = .ok (.iconst 4, 1) := by decide +kernel
theorem dX3_passToSecond_9 : decode cX3_passToSecond 9 = .ok (.if_icmp .ne 7, 3) := by decide +kernel
theorem dX3_passToSecond_12 : decode cX3_passToSecond 12 = .ok (.iconst 1, 1) := by decide +kernel
theorem dX3_passToSecond_13 : decode cX3_passToSecond 13 = .ok (.goto 4, 3) := by decide +kernel
theorem dX3_passToSecond_16 : decode cX3_passToSecond 16 = .ok (.iconst 0, 1) := by decide +kernel
theorem dX3_passToSecond_17 : decode cX3_passToSecond 17 = .ok (.istore 4, 2) := by decide +kernel
theorem dX3_passToSecond_19 : decode cX3_passToSecond 19 = .ok (.aload_n 0, 1) := by decide +kernel
theorem dX3_passToSecond_20 : decode cX3_passToSecond 20 = .ok (.iload_n 2, 1) := by decide +kernel
theorem dX3_passToSecond_21 : decode cX3_passToSecond 21 = .ok (.iconst 1, 1) := by decide +kernel
theorem dX3_passToSecond_22 : decode cX3_passToSecond 22 = .ok (.iadd, 1) := by decide +kernel
theorem dX3_passToSecond_23 : decode cX3_passToSecond 23 = .ok (.invokevirtual 44, 3) := by decide +kernel
theorem dX3_passToSecond_26 : decode cX3_passToSecond 26 = .ok (.iconst 0, 1) := by decide +kernel
theorem dX3_passToSecond_27 : decode cX3_passToSecond 27 = .ok (.istore 5, 2) := by decide +kernel
theorem dX3_passToSecond_29 : decode cX3_passToSecond 29 = .ok (.iload 5, 2) := by decide +kernel
theorem dX3_passToSecond_31 : decode cX3_passToSecond 31 = .ok (.iload_n 3, 1) := by decide +kernel
theorem dX3_passToSecond_32 : decode cX3_passToSecond 32 = .ok (.if_icmp .ge 60, 3) := by decide +kernel
theorem dX3_passToSecond_35 : decode cX3_passToSecond 35 = .ok (.aload_n 0, 1) := by decide +kernel
theorem dX3_passToSecond_36 : decode cX3_passToSecond 36 = .ok (.iload_n 2, 1) := by decide +kernel
theorem dX3_passToSecond_37 : decode cX3_passToSecond 37 = .ok (.iload 5, 2) := by decide +kernel
theorem dX3_passToSecond_39 : decode cX3_passToSecond 39 = .ok (.invokevirtual 95, 3) := by decide +kernel
theorem dX3_passToSecond_42 : decode cX3_passToSecond 42 = .ok (.istore 6, 2) := by decide +kernel
theorem dX3_passToSecond_44 : decode cX3_passToSecond 44 = .ok (.iload 4, 2) := by decide +kernel
theorem dX3_passToSecond_46 : decode cX3_passToSecond 46 = .ok (.ifCond .eq 15, 3) := by decide +kernel
theorem dX3_passToSecond_49 : decode cX3_passToSecond 49 = .ok (.aload_n 0, 1) := by decide +kernel
theorem dX3_passToSecond_50 : decode cX3_passToSecond 50 = .ok (.iload_n 2, 1) := by decide +kernel
theorem dX3_passToSecond_51 : decode cX3_passToSecond 51 = .ok (.iconst 1, 1) := by decide +kernel
theorem dX3_passToSecond_52 : decode cX3_passToSecond 52 = .ok (.iadd, 1) := by decide +kernel
theorem dX3_passToSecond_53 : decode cX3_passToSecond 53 = .ok (.iload 6, 2) := by decide +kernel
theorem dX3_passToSecond_55 : decode cX3_passToSecond 55 = .ok (.invokevirtual 88, 3) := by decide +kernel
theorem dX3_passToSecond_58 : decode cX3_passToSecond 58 = .ok (.goto 28, 3) := by decide +kernel
theorem dX3_passToSecond_61 : decode cX3_passToSecond 61 = .ok (.iload 6, 2) := by decide +kernel
theorem dX3_passToSecond_63 : decode cX3_passToSecond 63 = .ok (.aload_n 0, 1) := by decide +kernel
theorem dX3_passToSecond_64 : decode cX3_passToSecond 64 = .ok (.iload_n 1, 1) := by decide +kernel
theorem dX3_passToSecond_65 : decode cX3_passToSecond 65 = .ok (.invokevirtual 125, 3) := by decide +kernel
theorem dX3_passToSecond_68 : decode cX3_passToSecond 68 = .ok (.if_icmp .lt 18, 3) := by decide +kernel
theorem dX3_passToSecond_71 : decode cX3_passToSecond 71 = .ok (.aload_n 0, 1) := by decide +kernel
theorem dX3_passToSecond_72 : decode cX3_passToSecond 72 = .ok (.iload_n 2, 1) := by decide +kernel
theorem dX3_passToSecond_73 : decode cX3_passToSecond 73 = .ok (.iconst 1, 1) := by decide +kernel
theorem dX3_passToSecond_74 : decode cX3_passToSecond 74 = .ok (.iadd, 1) := by decide +kernel
theorem dX3_passToSecond_75 : decode cX3_passToSecond 75 = .ok (.iload 6, 2) := by decide +kernel
theorem dX3_passToSecond_77 : decode cX3_passToSecond 77 = .ok (.aload_n 0, 1) := by decide +kernel
theorem dX3_passToSecond_78 : decode cX3_passToSecond 78 = .ok (.iload_n 1, 1) := by decide +kernel
theorem dX3_passToSecond_79 : decode cX3_passToSecond 79 = .ok (.invokevirtual 125, 3) := by decide +kernel
theorem dX3_passToSecond_82 : decode cX3_passToSecond 82 = .ok (.isub, 1) := by decide +kernel
theorem dX3_passToSecond_83 : decode cX3_passToSecond 83 = .ok (.invokevirtual 88, 3) := by decide +kernel
theorem dX3_passToSecond_86 : decode cX3_passToSecond 86 = .ok (.iinc 5 1, 3) := by decide +kernel
theorem dX3_passToSecond_89 : decode cX3_passToSecond 89 = .ok (.goto (-60), 3) := by decide +kernel
theorem dX3_passToSecond_92 : decode cX3_passToSecond 92 = .ok (.return_, 1) := by decide +kernel
theorem dX3_stack_0 : decode cX3_stack 0 = .ok (.iload_n 1, 1) := by decide +kernel
theorem dX3_stack_1 : decode cX3_stack 1 = .ok (.istore 4, 2) := by decide +kernel
theorem dX3_stack_3 : decode cX3_stack 3 = .ok (.iload_n 3, 1) := by decide +kernel
theorem dX3_stack_4 : decode cX3_stack 4 = .ok (.istore 5, 2) := by decide +kernel
theorem dX3_stack_6 : decode cX3_stack 6 = .ok (.iload 5, 2) := by decide +kernel
theorem dX3_stack_8 : decode cX3_stack 8 = .ok (.aload_n 0, 1) := by decide +kernel
theorem dX3_stack_9 : decode cX3_stack 9 = .ok (.iload_n 2, 1) := by decide +kernel
theorem dX3_stack_10 : decode cX3_stack 10 = .ok (.invokevirtual 92, 3) := by decide +kernel
theorem dX3_stack_13 : decode cX3_stack 13 = .ok (.if_icmp .ge 73, 3) := by decide +kernel
theorem dX3_stack_16 : decode cX3_stack 16 = .ok (.iload 4, 2) := by decide +kernel
theorem dX3_stack_18 : decode cX3_stack 18 = .ok (.iconst (-1), 1) := by decide +kernel
theorem dX3_stack_19 : decode cX3_stack 19 = .ok (.if_icmp .eq 67, 3) := by decide +kernel
theorem dX3_stack_22 : decode cX3_stack 22 = .ok (.aload_n 0, 1) := by decide +kernel
theorem dX3_stack_23 : decode cX3_stack 23 = .ok (.iload_n 2, 1) := by decide +kernel
theorem dX3_stack_24 : decode cX3_stack 24 = .ok (.iload 5, 2) := by decide +kernel
theorem dX3_stack_26 : decode cX3_stack 26 = .ok (.invokevirtual 131, 3) := by decide +kernel
theorem dX3_stack_29 : decode cX3_stack 29 = .ok (.aload_n 0, 1) := by decide +kernel
theorem dX3_stack_30 : decode cX3_stack 30 = .ok (.iload_n 2, 1) := by decide +kernel
theorem dX3_stack_31 : decode cX3_stack 31 = .ok (.iload 5, 2) := by decide +kernel
theorem dX3_stack_33 : decode cX3_stack 33 = .ok (.invokevirtual 95, 3) := by decide +kernel
theorem dX3_stack_36 : decode cX3_stack 36 = .ok (.istore 6, 2) := by decide +kernel
theorem dX3_stack_38 : decode cX3_stack 38 = .ok (.iload 6, 2) := by decide +kernel
theorem dX3_stack_40 : decode cX3_stack 40 = .ok (.sipush 1194, 3) := by decide +kernel
theorem dX3_stack_43 : decode cX3_stack 43 = .ok (.irem, 1) := by decide +kernel
theorem dX3_stack_44 : decode cX3_stack 44 = .ok (.istore 7, 2) := by decide +kernel
theorem dX3_stack_46 : decode cX3_stack 46 = .ok (.aload_n 0, 1) := by decide +kernel
theorem dX3_stack_47 : decode cX3_stack 47 = .ok (.getfield 11, 3) := by decide +kernel
theorem dX3_stack_50 : decode cX3_stack 50 = .ok (.iconst 1, 1) := by decide +kernel
theorem dX3_stack_51 : decode cX3_stack 51 = .ok (.iload 4, 2) := by decide +kernel
theorem dX3_stack_53 : decode cX3_stack 53 = .ok (.iconst (-1), 1) := by decide +kernel
theorem dX3_stack_54 : decode cX3_stack 54 = .ok (.iload 7, 2) := by decide +kernel
theorem dX3_stack_56 : decode cX3_stack 56 = .ok (.sipush 199, 3) := by decide +kernel
theorem dX3_stack_59 : decode cX3_stack 59 = .ok (.idiv, 1) := by decide +kernel
theorem dX3_stack_60 : decode cX3_stack 60 = .ok (.iload 6, 2) := by decide +kernel
theorem dX3_stack_62 : decode cX3_stack 62 = .ok (.sipush 1194, 3) := by decide +kernel
theorem dX3_stack_65 : decode cX3_stack 65 = .ok (.idiv, 1) := by decide +kernel
theorem dX3_stack_66 : decode cX3_stack 66 = .ok (.iload 7, 2) := by decide +kernel
theorem dX3_stack_68 : decode cX3_stack 68 = .ok (.sipush 199, 3) := by decide +kernel
theorem dX3_stack_71 : decode cX3_stack 71 = .ok (.irem, 1) := by decide +kernel
theorem dX3_stack_72 : decode cX3_stack 72 = .ok (.bipush 99, 2) := by decide +kernel
theorem dX3_stack_74 : decode cX3_stack 74 = .ok (.isub, 1) := by decide +kernel
theorem dX3_stack_75 : decode cX3_stack 75 = .ok (.invokevirtual 114, 3) := by decide +kernel
theorem dX3_stack_78 : decode cX3_stack 78 = .ok (.istore 4, 2) := by decide +kernel
theorem dX3_stack_80 : decode cX3_stack 80 = .ok (.iinc 5 1, 3) := by decide +kernel
theorem dX3_stack_83 : decode cX3_stack 83 = .ok (.goto (-77), 3) := by decide +kernel
theorem dX3_stack_86 : decode cX3_stack 86 = .ok (.iload 4, 2) := by decide +kernel
theorem dX3_stack_88 : decode cX3_stack 88 = .ok (.ireturn, 1) := by decide +kernel
theorem dX3_bringGreatest_0 : decode cX3_bringGreatest 0 = .ok (.iload_n 2, 1) := by decide +kernel
theorem dX3_bringGreatest_1 : decode cX3_bringGreatest 1 = .ok (.iconst 1, 1) := by decide +kernel
theorem dX3_bringGreatest_2 : decode cX3_bringGreatest 2 = .ok (.iadd, 1) := by decide +kernel
theorem dX3_bringGreatest_3 : decode cX3_bringGreatest 3 = .ok (.istore_n 3, 1) := by decide +kernel
theorem dX3_bringGreatest_4 : decode cX3_bringGreatest 4 = .ok (.iload_n 3, 1) := by decide +kernel
theorem dX3_bringGreatest_5 : decode cX3_bringGreatest 5 = .ok (.aload_n 0, 1) := by decide +kernel
theorem dX3_bringGreatest_6 : decode cX3_bringGreatest 6 = .ok (.iload_n 1, 1) := by decide +kernel
theorem dX3_bringGreatest_7 : decode cX3_bringGreatest 7 = .ok (.invokevirtual 92, 3) := by decide +kernel
theorem dX3_bringGreatest_10 : decode cX3_bringGreatest 10 = .ok (.if_icmp .ge 48, 3) := by decide +kernel
theorem dX3_bringGreatest_13 : decode cX3_bringGreatest 13 = .ok (.aload_n 0, 1) := by decide +kernel
theorem dX3_bringGreatest_14 : decode cX3_bringGreatest 14 = .ok (.iload_n 1, 1) := by decide +kernel
theorem dX3_bringGreatest_15 : decode cX3_bringGreatest 15 = .ok (.iload_n 3, 1) := by decide +kernel
theorem dX3_bringGreatest_16 : decode cX3_bringGreatest 16 = .ok (.invokevirtual 95, 3) := by decide +kernel
theorem dX3_bringGreatest_19 : decode cX3_bringGreatest 19 = .ok (.istore 4, 2) := by decide +kernel
theorem dX3_bringGreatest_21 : decode cX3_bringGreatest 21 = .ok (.iload 4, 2) := by decide +kernel
theorem dX3_bringGreatest_23 : decode cX3_bringGreatest 23 = .ok (.aload_n 0, 1) := by decide +kernel
theorem dX3_bringGreatest_24 : decode cX3_bringGreatest 24 = .ok (.iload_n 1, 1) := by decide +kernel
theorem dX3_bringGreatest_25 : decode cX3_bringGreatest 25 = .ok (.iload_n 2, 1) := by decide +kernel
theorem dX3_bringGreatest_26 : decode cX3_bringGreatest 26 = .ok (.invokevirtual 95, 3) := by decide +kernel
theorem dX3_bringGreatest_29 : decode cX3_bringGreatest 29 = .ok (.if_icmp .le 23, 3) := by decide +kernel
theorem dX3_bringGreatest_32 : decode cX3_bringGreatest 32 = .ok (.aload_n 0, 1) := by decide +kernel
theorem dX3_bringGreatest_33 : decode cX3_bringGreatest 33 = .ok (.iload_n 1, 1) := by decide +kernel
theorem dX3_bringGreatest_34 : decode cX3_bringGreatest 34 = .ok (.iload_n 3, 1) := by decide +kernel
theorem dX3_bringGreatest_35 : decode cX3_bringGreatest 35 = .ok (.aload_n 0, 1) := by decide +kernel
theorem dX3_bringGreatest_36 : decode cX3_bringGreatest 36 = .ok (.iload_n 1, 1) := by decide +kernel
theorem dX3_bringGreatest_37 : decode cX3_bringGreatest 37 = .ok (.iload_n 2, 1) := by decide +kernel
theorem dX3_bringGreatest_38 : decode cX3_bringGreatest 38 = .ok (.invokevirtual 95, 3) := by decide +kernel
theorem dX3_bringGreatest_41 : decode cX3_bringGreatest 41 = .ok (.invokevirtual 134, 3) := by decide +kernel
theorem dX3_bringGreatest_44 : decode cX3_bringGreatest 44 = .ok (.aload_n 0, 1) := by decide +kernel
theorem dX3_bringGreatest_45 : decode cX3_bringGreatest 45 = .ok (.iload_n 1, 1) := by decide +kernel
theorem dX3_bringGreatest_46 : decode cX3_bringGreatest 46 = .ok (.iload_n 2, 1) := by decide +kernel
theorem dX3_bringGreatest_47 : decode cX3_bringGreatest 47 = .ok (.iload 4, 2) := by decide +kernel
theorem dX3_bringGreatest_49 : decode cX3_bringGreatest 49 = .ok (.invokevirtual 134, 3) := by decide +kernel
theorem dX3_bringGreatest_52 : decode cX3_bringGreatest 52 = .ok (.iinc 3 1, 3) := by decide +kernel
theorem dX3_bringGreatest_55 : decode cX3_bringGreatest 55 = .ok (.goto (-51), 3) := by decide +kernel
theorem dX3_bringGreatest_58 : decode cX3_bringGreatest 58 = .ok (.return_, 1) := by decide +kernel
theorem dX3_find_0 : decode cX3_find 0 = .ok (.iconst 0, 1) := by decide +kernel
theorem dX3_find_1 : decode cX3_find 1 = .ok (.istore_n 3, 1) := by decide +kernel
theorem dX3_find_2 : decode cX3_find 2 = .ok (.iload_n 3, 1) := by decide +kernel
theorem dX3_find_3 : decode cX3_find 3 = .ok (.aload_n 0, 1) := by decide +kernel
theorem dX3_find_4 : decode cX3_find 4 = .ok (.getfield 40, 3) := by decide +kernel
theorem dX3_find_7 : decode cX3_find 7 = .ok (.if_icmp .ge 37, 3) := by decide +kernel
theorem dX3_find_10 : decode cX3_find 10 = .ok (.iload_n 3, 1) := by decide +kernel
theorem dX3_find_11 : decode cX3_find 11 = .ok (.sipush 256, 3) := by decide +kernel
theorem dX3_find_14 : decode cX3_find 14 = .ok (.if_icmp .ge 30, 3) := by decide +kernel
theorem dX3_find_17 : decode cX3_find 17 = .ok (.aload_n 0, 1) := by decide +kernel
theorem dX3_find_18 : decode cX3_find 18 = .ok (.getfield 22, 3) := by decide +kernel
theorem dX3_find_21 : decode cX3_find 21 = .ok (.iload_n 3, 1) := by decide +kernel
theorem dX3_find_22 : decode cX3_find 22 = .ok (.iaload, 1) := by decide +kernel
theorem dX3_find_23 : decode cX3_find 23 = .ok (.iload_n 1, 1) := by decide +kernel
theorem dX3_find_24 : decode cX3_find 24 = .ok (.if_icmp .ne 14, 3) := by decide +kernel
theorem dX3_find_27 : decode cX3_find 27 = .ok (.aload_n 0, 1) := by decide +kernel
theorem dX3_find_28 : decode cX3_find 28 = .ok (.iload_n 3, 1) := by decide +kernel
theorem dX3_find_29 : decode cX3_find 29 = .ok (.iload_n 2, 1) := by decide +kernel
theorem dX3_find_30 : decode cX3_find 30 = .ok (.invokevirtual 137, 3) := by decide +kernel
theorem dX3_find_33 : decode cX3_find 33 = .ok (.ifCond .eq 5, 3) := by decide +kernel
theorem dX3_find_36 : decode cX3_find 36 = .ok (.iload_n 3, 1) := by decide +kernel
theorem dX3_find_37 : decode cX3_find 37 = .ok (.ireturn, 1) := by decide +kernel
theorem dX3_find_38 : decode cX3_find 38 = .ok (.iinc 3 1, 3) := by decide +kernel
theorem dX3_find_41 : decode cX3_find 41 = .ok (.goto (-39), 3) := by decide +kernel
theorem dX3_find_44 : decode cX3_find 44 = .ok (.iconst (-1), 1) := by decide +kernel
theorem dX3_find_45 : decode cX3_find 45 = .ok (.ireturn, 1) := by decide +kernel
theorem dX3_isSeenAt_0 : decode cX3_isSeenAt 0 = .ok (.iload_n 1, 1) := by decide +kernel
theorem dX3_isSeenAt_1 : decode cX3_isSeenAt 1 = .ok (.ifCond .lt 24, 3) := by decide +kernel
theorem dX3_isSeenAt_4 : decode cX3_isSeenAt 4 = .ok (.iload_n 1, 1) := by decide +kernel
theorem dX3_isSeenAt_5 : decode cX3_isSeenAt 5 = .ok (.sipush 256, 3) := by decide +kernel
theorem dX3_isSeenAt_8 : decode cX3_isSeenAt 8 = .ok (.if_icmp .ge 17, 3) := by decide +kernel
theorem dX3_isSeenAt_11 : decode cX3_isSeenAt 11 = .ok (.aload_n 0, 1) := by decide +kernel
theorem dX3_isSeenAt_12 : decode cX3_isSeenAt 12 = .ok (.getfield 25, 3) := by decide +kernel
theorem dX3_isSeenAt_15 : decode cX3_isSeenAt 15 = .ok (.iload_n 1, 1) := by decide +kernel
theorem dX3_isSeenAt_16 : decode cX3_isSeenAt 16 = .ok (.iaload, 1) := by decide +kernel
theorem dX3_isSeenAt_17 : decode cX3_isSeenAt 17 = .ok (.aload_n 0, 1) := by decide +kernel
theorem dX3_isSeenAt_18 : decode cX3_isSeenAt 18 = .ok (.iload_n 2, 1) := by decide +kernel
theorem dX3_isSeenAt_19 : decode cX3_isSeenAt 19 = .ok (.invokevirtual 92, 3) := by decide +kernel
theorem dX3_isSeenAt_22 : decode cX3_isSeenAt 22 = .ok (.if_icmp .eq 5, 3) := by decide +kernel
theorem dX3_isSeenAt_25 : decode cX3_isSeenAt 25 = .ok (.iconst 0, 1) := by decide +kernel
theorem dX3_isSeenAt_26 : decode cX3_isSeenAt 26 = .ok (.ireturn, 1) := by decide +kernel
theorem dX3_isSeenAt_27 : decode cX3_isSeenAt 27 = .ok (.iconst 0, 1) := by decide +kernel
theorem dX3_isSeenAt_28 : decode cX3_isSeenAt 28 = .ok (.istore_n 3, 1) := by decide +kernel
theorem dX3_isSeenAt_29 : decode cX3_isSeenAt 29 = .ok (.iload_n 3, 1) := by decide +kernel
theorem dX3_isSeenAt_30 : decode cX3_isSeenAt 30 = .ok (.aload_n 0, 1) := by decide +kernel
theorem dX3_isSeenAt_31 : decode cX3_isSeenAt 31 = .ok (.iload_n 2, 1) := by decide +kernel
theorem dX3_isSeenAt_32 : decode cX3_isSeenAt 32 = .ok (.invokevirtual 92, 3) := by decide +kernel
theorem dX3_isSeenAt_35 : decode cX3_isSeenAt 35 = .ok (.if_icmp .ge 37, 3) := by decide +kernel
theorem dX3_isSeenAt_38 : decode cX3_isSeenAt 38 = .ok (.iload_n 3, 1) := by decide +kernel
theorem dX3_isSeenAt_39 : decode cX3_isSeenAt 39 = .ok (.bipush 24, 2) := by decide +kernel
theorem dX3_isSeenAt_41 : decode cX3_isSeenAt 41 = .ok (.if_icmp .ge 31, 3) := by decide +kernel
theorem dX3_isSeenAt_44 : decode cX3_isSeenAt 44 = .ok (.aload_n 0, 1) := by decide +kernel
theorem dX3_isSeenAt_45 : decode cX3_isSeenAt 45 = .ok (.getfield 28, 3) := by decide +kernel
theorem dX3_isSeenAt_48 : decode cX3_isSeenAt 48 = .ok (.iload_n 1, 1) := by decide +kernel
theorem dX3_isSeenAt_49 : decode cX3_isSeenAt 49 = .ok (.bipush 24, 2) := by decide +kernel
theorem dX3_isSeenAt_51 : decode cX3_isSeenAt 51 = .ok (.imul, 1) := by decide +kernel
theorem dX3_isSeenAt_52 : decode cX3_isSeenAt 52 = .ok (.iload_n 3, 1) := by decide +kernel
theorem dX3_isSeenAt_53 : decode cX3_isSeenAt 53 = .ok (.iadd, 1) := by decide +kernel
theorem dX3_isSeenAt_54 : decode cX3_isSeenAt 54 = .ok (.iaload, 1) := by decide +kernel
theorem dX3_isSeenAt_55 : decode cX3_isSeenAt 55 = .ok (.aload_n 0, 1) := by decide +kernel
theorem dX3_isSeenAt_56 : decode cX3_isSeenAt 56 = .ok (.iload_n 2, 1) := by decide +kernel
theorem dX3_isSeenAt_57 : decode cX3_isSeenAt 57 = .ok (.iload_n 3, 1) := by decide +kernel
theorem dX3_isSeenAt_58 : decode cX3_isSeenAt 58 = .ok (.invokevirtual 95, 3) := by decide +kernel
theorem dX3_isSeenAt_61 : decode cX3_isSeenAt 61 = .ok (.if_icmp .eq 5, 3) := by decide +kernel
theorem dX3_isSeenAt_64 : decode cX3_isSeenAt 64 = .ok (.iconst 0, 1) := by decide +kernel
theorem dX3_isSeenAt_65 : decode cX3_isSeenAt 65 = .ok (.ireturn, 1) := by decide +kernel
theorem dX3_isSeenAt_66 : decode cX3_isSeenAt 66 = .ok (.iinc 3 1, 3) := by decide +kernel
theorem dX3_isSeenAt_69 : decode cX3_isSeenAt 69 = .ok (.goto (-40), 3) := by decide +kernel
theorem dX3_isSeenAt_72 : decode cX3_isSeenAt 72 = .ok (.iconst 1, 1) := by decide +kernel
theorem dX3_isSeenAt_73 : decode cX3_isSeenAt 73 = .ok (.ireturn, 1) := by decide +kernel
theorem dX3_remember_0 : decode cX3_remember 0 = .ok (.aload_n 0, 1) := by decide +kernel
theorem dX3_remember_1 : decode cX3_remember 1 = .ok (.getfield 40, 3) := by decide +kernel
theorem dX3_remember_4 : decode cX3_remember 4 = .ok (.sipush 256, 3) := by decide +kernel
theorem dX3_remember_7 : decode cX3_remember 7 = .ok (.if_icmp .lt 5, 3) := by decide +kernel
theorem dX3_remember_10 : decode cX3_remember 10 = .ok (.iconst (-1), 1) := by decide +kernel
theorem dX3_remember_11 : decode cX3_remember 11 = .ok (.ireturn, 1) := by decide +kernel
theorem dX3_remember_12 : decode cX3_remember 12 = .ok (.aload_n 0, 1) := by decide +kernel
theorem dX3_remember_13 : decode cX3_remember 13 = .ok (.getfield 22, 3) := by decide +kernel
theorem dX3_remember_16 : decode cX3_remember 16 = .ok (.aload_n 0, 1) := by decide +kernel
theorem dX3_remember_17 : decode cX3_remember 17 = .ok (.getfield 40, 3) := by decide +kernel
theorem dX3_remember_20 : decode cX3_remember 20 = .ok (.iload_n 1, 1) := by decide +kernel
theorem dX3_remember_21 : decode cX3_remember 21 = .ok (.iastore, 1) := by decide +kernel
theorem dX3_remember_22 : decode cX3_remember 22 = .ok (.aload_n 0, 1) := by decide +kernel
theorem dX3_remember_23 : decode cX3_remember 23 = .ok (.getfield 25, 3) := by decide +kernel
theorem dX3_remember_26 : decode cX3_remember 26 = .ok (.aload_n 0, 1) := by decide +kernel
theorem dX3_remember_27 : decode cX3_remember 27 = .ok (.getfield 40, 3) := by decide +kernel
theorem dX3_remember_30 : decode cX3_remember 30 = .ok (.aload_n 0, 1) := by decide +kernel
theorem dX3_remember_31 : decode cX3_remember 31 = .ok (.iload_n 2, 1) := by decide +kernel
theorem dX3_remember_32 : decode cX3_remember 32 = .ok (.invokevirtual 92, 3) := by decide +kernel
theorem dX3_remember_35 : decode cX3_remember 35 = .ok (.iastore, 1) := by decide +kernel
theorem dX3_remember_36 : decode cX3_remember 36 = .ok (.aload_n 0, 1) := by decide +kernel
theorem dX3_remember_37 : decode cX3_remember 37 = .ok (.getfield 31, 3) := by decide +kernel
theorem dX3_remember_40 : decode cX3_remember 40 = .ok (.aload_n 0, 1) := by decide +kernel
theorem dX3_remember_41 : decode cX3_remember 41 = .ok (.getfield 40, 3) := by decide +kernel
theorem dX3_remember_44 : decode cX3_remember 44 = .ok (.iconst (-1), 1) := by decide +kernel
theorem dX3_remember_45 : decode cX3_remember 45 = .ok (.iastore, 1) := by decide +kernel
theorem dX3_remember_46 : decode cX3_remember 46 = .ok (.iconst 0, 1) := by decide +kernel
theorem dX3_remember_47 : decode cX3_remember 47 = .ok (.istore_n 3, 1) := by decide +kernel
theorem dX3_remember_48 : decode cX3_remember 48 = .ok (.iload_n 3, 1) := by decide +kernel
theorem dX3_remember_49 : decode cX3_remember 49 = .ok (.aload_n 0, 1) := by decide +kernel
theorem dX3_remember_50 : decode cX3_remember 50 = .ok (.iload_n 2, 1) := by decide +kernel
theorem dX3_remember_51 : decode cX3_remember 51 = .ok (.invokevirtual 92, 3) := by decide +kernel
theorem dX3_remember_54 : decode cX3_remember 54 = .ok (.if_icmp .ge 35, 3) := by decide +kernel
theorem dX3_remember_57 : decode cX3_remember 57 = .ok (.iload_n 3, 1) := by decide +kernel
theorem dX3_remember_58 : decode cX3_remember 58 = .ok (.bipush 24, 2) := by decide +kernel
theorem dX3_remember_60 : decode cX3_remember 60 = .ok (.if_icmp .ge 29, 3) := by decide +kernel
theorem dX3_remember_63 : decode cX3_remember 63 = .ok (.aload_n 0, 1) := by decide +kernel
theorem dX3_remember_64 : decode cX3_remember 64 = .ok (.getfield 28, 3) := by decide +kernel
theorem dX3_remember_67 : decode cX3_remember 67 = .ok (.aload_n 0, 1) := by decide +kernel
theorem dX3_remember_68 : decode cX3_remember 68 = .ok (.getfield 40, 3) := by decide +kernel
theorem dX3_remember_71 : decode cX3_remember 71 = .ok (.bipush 24, 2) := by decide +kernel
theorem dX3_remember_73 : decode cX3_remember 73 = .ok (.imul, 1) := by decide +kernel
theorem dX3_remember_74 : decode cX3_remember 74 = .ok (.iload_n 3, 1) := by decide +kernel
theorem dX3_remember_75 : decode cX3_remember 75 = .ok (.iadd, 1) := by decide +kernel
theorem dX3_remember_76 : decode cX3_remember 76 = .ok (.aload_n 0, 1) := by decide +kernel
theorem dX3_remember_77 : decode cX3_remember 77 = .ok (.iload_n 2, 1) := by decide +kernel
theorem dX3_remember_78 : decode cX3_remember 78 = .ok (.iload_n 3, 1) := by decide +kernel
theorem dX3_remember_79 : decode cX3_remember 79 = .ok (.invokevirtual 95, 3) := by decide +kernel
theorem dX3_remember_82 : decode cX3_remember 82 = .ok (.iastore, 1) := by decide +kernel
theorem dX3_remember_83 : decode cX3_remember 83 = .ok (.iinc 3 1, 3) := by decide +kernel
theorem dX3_remember_86 : decode cX3_remember 86 = .ok (.goto (-38), 3) := by decide +kernel
theorem dX3_remember_89 : decode cX3_remember 89 = .ok (.aload_n 0, 1) := by decide +kernel
theorem dX3_remember_90 : decode cX3_remember 90 = .ok (.dup, 1) := by decide +kernel
theorem dX3_remember_91 : decode cX3_remember 91 = .ok (.getfield 40, 3) := by decide +kernel
theorem dX3_remember_94 : decode cX3_remember 94 = .ok (.iconst 1, 1) := by decide +kernel
theorem dX3_remember_95 : decode cX3_remember 95 = .ok (.iadd, 1) := by decide +kernel
theorem dX3_remember_96 : decode cX3_remember 96 = .ok (.putfield 40, 3) := by decide +kernel
theorem dX3_remember_99 : decode cX3_remember 99 = .ok (.aload_n 0, 1) := by decide +kernel
theorem dX3_remember_100 : decode cX3_remember 100 = .ok (.getfield 40, 3) := by decide +kernel
theorem dX3_remember_103 : decode cX3_remember 103 = .ok (.iconst 1, 1) := by decide +kernel
theorem dX3_remember_104 : decode cX3_remember 104 = .ok (.isub, 1) := by decide +kernel
theorem dX3_remember_105 : decode cX3_remember 105 = .ok (.ireturn, 1) := by decide +kernel
theorem dX3_lengthOf_0 : decode cX3_lengthOf 0 = .ok (.iload_n 1, 1) := by decide +kernel
theorem dX3_lengthOf_1 : decode cX3_lengthOf 1 = .ok (.ifCond .lt 18, 3) := by decide +kernel
theorem dX3_lengthOf_4 : decode cX3_lengthOf 4 = .ok (.iload_n 1, 1) := by decide +kernel
theorem dX3_lengthOf_5 : decode cX3_lengthOf 5 = .ok (.bipush 25, 2) := by decide +kernel
theorem dX3_lengthOf_7 : decode cX3_lengthOf 7 = .ok (.if_icmp .ge 12, 3) := by decide +kernel
theorem dX3_lengthOf_10 : decode cX3_lengthOf 10 = .ok (.aload_n 0, 1) := by decide +kernel
theorem dX3_lengthOf_11 : decode cX3_lengthOf 11 = .ok (.getfield 19, 3) := by decide +kernel
theorem dX3_lengthOf_14 : decode cX3_lengthOf 14 = .ok (.iload_n 1, 1) := by decide +kernel
theorem dX3_lengthOf_15 : decode cX3_lengthOf 15 = .ok (.iaload, 1) := by decide +kernel
theorem dX3_lengthOf_16 : decode cX3_lengthOf 16 = .ok (.goto 4, 3) := by decide +kernel
theorem dX3_lengthOf_19 : decode cX3_lengthOf 19 = .ok (.iconst 0, 1) := by decide +kernel
theorem dX3_lengthOf_20 : decode cX3_lengthOf 20 = .ok (.ireturn, 1) := by decide +kernel
theorem dX3_codeAt_0 : decode cX3_codeAt 0 = .ok (.iload_n 2, 1) := by decide +kernel
theorem dX3_codeAt_1 : decode cX3_codeAt 1 = .ok (.ifCond .lt 32, 3) := by decide +kernel
theorem dX3_codeAt_4 : decode cX3_codeAt 4 = .ok (.iload_n 2, 1) := by decide +kernel
theorem dX3_codeAt_5 : decode cX3_codeAt 5 = .ok (.aload_n 0, 1) := by decide +kernel
theorem dX3_codeAt_6 : decode cX3_codeAt 6 = .ok (.iload_n 1, 1) := by decide +kernel
theorem dX3_codeAt_7 : decode cX3_codeAt 7 = .ok (.invokevirtual 92, 3) := by decide +kernel
theorem dX3_codeAt_10 : decode cX3_codeAt 10 = .ok (.if_icmp .ge 23, 3) := by decide +kernel
theorem dX3_codeAt_13 : decode cX3_codeAt 13 = .ok (.iload_n 2, 1) := by decide +kernel
theorem dX3_codeAt_14 : decode cX3_codeAt 14 = .ok (.bipush 24, 2) := by decide +kernel
theorem dX3_codeAt_16 : decode cX3_codeAt 16 = .ok (.if_icmp .ge 17, 3) := by decide +kernel
theorem dX3_codeAt_19 : decode cX3_codeAt 19 = .ok (.aload_n 0, 1) := by decide +kernel
theorem dX3_codeAt_20 : decode cX3_codeAt 20 = .ok (.getfield 15, 3) := by decide +kernel
theorem dX3_codeAt_23 : decode cX3_codeAt 23 = .ok (.iload_n 1, 1) := by decide +kernel
theorem dX3_codeAt_24 : decode cX3_codeAt 24 = .ok (.bipush 24, 2) := by decide +kernel
theorem dX3_codeAt_26 : decode cX3_codeAt 26 = .ok (.imul, 1) := by decide +kernel
theorem dX3_codeAt_27 : decode cX3_codeAt 27 = .ok (.iload_n 2, 1) := by decide +kernel
theorem dX3_codeAt_28 : decode cX3_codeAt 28 = .ok (.iadd, 1) := by decide +kernel
theorem dX3_codeAt_29 : decode cX3_codeAt 29 = .ok (.iaload, 1) := by decide +kernel
theorem dX3_codeAt_30 : decode cX3_codeAt 30 = .ok (.goto 4, 3) := by decide +kernel
theorem dX3_codeAt_33 : decode cX3_codeAt 33 = .ok (.iconst 0, 1) := by decide +kernel
theorem dX3_codeAt_34 : decode cX3_codeAt 34 = .ok (.ireturn, 1) := by decide +kernel
theorem dX3_setCode_0 : decode cX3_setCode 0 = .ok (.iload_n 2, 1) := by decide +kernel
theorem dX3_setCode_1 : decode cX3_setCode 1 = .ok (.ifCond .lt 30, 3) := by decide +kernel
theorem dX3_setCode_4 : decode cX3_setCode 4 = .ok (.iload_n 2, 1) := by decide +kernel
theorem dX3_setCode_5 : decode cX3_setCode 5 = .ok (.aload_n 0, 1) := by decide +kernel
theorem dX3_setCode_6 : decode cX3_setCode 6 = .ok (.iload_n 1, 1) := by decide +kernel
theorem dX3_setCode_7 : decode cX3_setCode 7 = .ok (.invokevirtual 92, 3) := by decide +kernel
theorem dX3_setCode_10 : decode cX3_setCode 10 = .ok (.if_icmp .ge 21, 3) := by decide +kernel
theorem dX3_setCode_13 : decode cX3_setCode 13 = .ok (.iload_n 2, 1) := by decide +kernel
theorem dX3_setCode_14 : decode cX3_setCode 14 = .ok (.bipush 24, 2) := by decide +kernel
theorem dX3_setCode_16 : decode cX3_setCode 16 = .ok (.if_icmp .ge 15, 3) := by decide +kernel
theorem dX3_setCode_19 : decode cX3_setCode 19 = .ok (.aload_n 0, 1) := by decide +kernel
theorem dX3_setCode_20 : decode cX3_setCode 20 = .ok (.getfield 15, 3) := by decide +kernel
theorem dX3_setCode_23 : decode cX3_setCode 23 = .ok (.iload_n 1, 1) := by decide +kernel
theorem dX3_setCode_24 : decode cX3_setCode 24 = .ok (.bipush 24, 2) := by decide +kernel
theorem dX3_setCode_26 : decode cX3_setCode 26 = .ok (.imul, 1) := by decide +kernel
theorem dX3_setCode_27 : decode cX3_setCode 27 = .ok (.iload_n 2, 1) := by decide +kernel
theorem dX3_setCode_28 : decode cX3_setCode 28 = .ok (.iadd, 1) := by decide +kernel
theorem dX3_setCode_29 : decode cX3_setCode 29 = .ok (.iload_n 3, 1) := by decide +kernel
theorem dX3_setCode_30 : decode cX3_setCode 30 = .ok (.iastore, 1) := by decide +kernel
theorem dX3_setCode_31 : decode cX3_setCode 31 = .ok (.return_, 1) := by decide +kernel
theorem dX3_empty_0 : decode cX3_empty 0 = .ok (.iload_n 1, 1) := by decide +kernel
theorem dX3_empty_1 : decode cX3_empty 1 = .ok (.ifCond .lt 16, 3) := by decide +kernel
theorem dX3_empty_4 : decode cX3_empty 4 = .ok (.iload_n 1, 1) := by decide +kernel
theorem dX3_empty_5 : decode cX3_empty 5 = .ok (.bipush 25, 2) := by decide +kernel
theorem dX3_empty_7 : decode cX3_empty 7 = .ok (.if_icmp .ge 10, 3) := by decide +kernel
theorem dX3_empty_10 : decode cX3_empty 10 = .ok (.aload_n 0, 1) := by decide +kernel
theorem dX3_empty_11 : decode cX3_empty 11 = .ok (.getfield 19, 3) := by decide +kernel
theorem dX3_empty_14 : decode cX3_empty 14 = .ok (.iload_n 1, 1) := by decide +kernel
theorem dX3_empty_15 : decode cX3_empty 15 = .ok (.iconst 0, 1) := by decide +kernel
theorem dX3_empty_16 : decode cX3_empty 16 = .ok (.iastore, 1) := by decide +kernel
theorem dX3_empty_17 : decode cX3_empty 17 = .ok (.return_, 1) := by decide +kernel
theorem dX3_append_0 : decode cX3_append 0 = .ok (.iload_n 1, 1) := by decide +kernel
theorem dX3_append_1 : decode cX3_append 1 = .ok (.ifCond .lt 44, 3) := by decide +kernel
theorem dX3_append_4 : decode cX3_append 4 = .ok (.iload_n 1, 1) := by decide +kernel
theorem dX3_append_5 : decode cX3_append 5 = .ok (.bipush 25, 2) := by decide +kernel
theorem dX3_append_7 : decode cX3_append 7 = .ok (.if_icmp .ge 38, 3) := by decide +kernel
theorem dX3_append_10 : decode cX3_append 10 = .ok (.aload_n 0, 1) := by decide +kernel
theorem dX3_append_11 : decode cX3_append 11 = .ok (.getfield 19, 3) := by decide +kernel
theorem dX3_append_14 : decode cX3_append 14 = .ok (.iload_n 1, 1) := by decide +kernel
theorem dX3_append_15 : decode cX3_append 15 = .ok (.iaload, 1) := by decide +kernel
theorem dX3_append_16 : decode cX3_append 16 = .ok (.bipush 24, 2) := by decide +kernel
theorem dX3_append_18 : decode cX3_append 18 = .ok (.if_icmp .ge 27, 3) := by decide +kernel
theorem dX3_append_21 : decode cX3_append 21 = .ok (.aload_n 0, 1) := by decide +kernel
theorem dX3_append_22 : decode cX3_append 22 = .ok (.getfield 19, 3) := by decide +kernel
theorem dX3_append_25 : decode cX3_append 25 = .ok (.iload_n 1, 1) := by decide +kernel
theorem dX3_append_26 : decode cX3_append 26 = .ok (.dup2, 1) := by decide +kernel
theorem dX3_append_27 : decode cX3_append 27 = .ok (.iaload, 1) := by decide +kernel
theorem dX3_append_28 : decode cX3_append 28 = .ok (.iconst 1, 1) := by decide +kernel
theorem dX3_append_29 : decode cX3_append 29 = .ok (.iadd, 1) := by decide +kernel
theorem dX3_append_30 : decode cX3_append 30 = .ok (.iastore, 1) := by decide +kernel
theorem dX3_append_31 : decode cX3_append 31 = .ok (.aload_n 0, 1) := by decide +kernel
theorem dX3_append_32 : decode cX3_append 32 = .ok (.iload_n 1, 1) := by decide +kernel
theorem dX3_append_33 : decode cX3_append 33 = .ok (.aload_n 0, 1) := by decide +kernel
theorem dX3_append_34 : decode cX3_append 34 = .ok (.getfield 19, 3) := by decide +kernel
theorem dX3_append_37 : decode cX3_append 37 = .ok (.iload_n 1, 1) := by decide +kernel
theorem dX3_append_38 : decode cX3_append 38 = .ok (.iaload, 1) := by decide +kernel
theorem dX3_append_39 : decode cX3_append 39 = .ok (.iconst 1, 1) := by decide +kernel
theorem dX3_append_40 : decode cX3_append 40 = .ok (.isub, 1) := by decide +kernel
theorem dX3_append_41 : decode cX3_append 41 = .ok (.iload_n 2, 1) := by decide +kernel
theorem dX3_append_42 : decode cX3_append 42 = .ok (.invokevirtual 134, 3) := by decide +kernel
theorem dX3_append_45 : decode cX3_append 45 = .ok (.return_, 1) := by decide +kernel
theorem dX4_init_0 : decode cX4_init 0 = .ok (.aload_n 0, 1) := by decide +kernel
theorem dX4_init_1 : decode cX4_init 1 = .ok (.invokespecial 3, 3) := by decide +kernel
theorem dX4_init_4 : decode cX4_init 4 = .ok (.aload_n 0, 1) := by decide +kernel
theorem dX4_init_5 : decode cX4_init 5 = .ok (.iconst 4, 1) := by decide +kernel
theorem dX4_init_6 : decode cX4_init 6 = .ok (.anewarray 9, 3) := by decide +kernel
theorem dX4_init_9 : decode cX4_init 9 = .ok (.putfield 11, 3) := by decide +kernel
theorem dX4_init_12 : decode cX4_init 12 = .ok (.iconst 0, 1) := by decide +kernel
theorem dX4_init_13 : decode cX4_init 13 = .ok (.istore_n 1, 1) := by decide +kernel
theorem dX4_init_14 : decode cX4_init 14 = .ok (.iload_n 1, 1) := by decide +kernel
theorem dX4_init_15 : decode cX4_init 15 = .ok (.iconst 4, 1) := by decide +kernel
theorem dX4_init_16 : decode cX4_init 16 = .ok (.if_icmp .ge 22, 3) := by decide +kernel
theorem dX4_init_19 : decode cX4_init 19 = .ok (.aload_n 0, 1) := by decide +kernel
theorem dX4_init_20 : decode cX4_init 20 = .ok (.getfield 11, 3) := by decide +kernel
theorem dX4_init_23 : decode cX4_init 23 = .ok (.iload_n 1, 1) := by decide +kernel
theorem dX4_init_24 : decode cX4_init 24 = .ok (.new 9, 3) := by decide +kernel
theorem dX4_init_27 : decode cX4_init 27 = .ok (.dup, 1) := by decide +kernel
theorem dX4_init_28 : decode cX4_init 28 = .ok (.invokespecial 17, 3) := by decide +kernel
theorem dX4_init_31 : decode cX4_init 31 = .ok (.aastore, 1) := by decide +kernel
theorem dX4_init_32 : decode cX4_init 32 = .ok (.iinc 1 1, 3) := by decide +kernel
theorem dX4_init_35 : decode cX4_init 35 = .ok (.goto (-21), 3) := by decide +kernel
theorem dX4_init_38 : decode cX4_init 38 = .ok (.aload_n 0, 1) := by decide +kernel
theorem dX4_init_39 : decode cX4_init 39 = .ok (.iconst 1, 1) := by decide +kernel
theorem dX4_init_40 : decode cX4_init 40 = .ok (.putfield 18, 3) := by decide +kernel
theorem dX4_init_43 : decode cX4_init 43 = .ok (.return_, 1) := by decide +kernel
theorem dX4_open_0 : decode cX4_open 0 = .ok (.aload_n 0, 1) := by decide +kernel
theorem dX4_open_1 : decode cX4_open 1 = .ok (.getfield 22, 3) := by decide +kernel
theorem dX4_open_4 : decode cX4_open 4 = .ok (.iconst 4, 1) := by decide +kernel
theorem dX4_open_5 : decode cX4_open 5 = .ok (.if_icmp .lt 5, 3) := by decide +kernel
theorem dX4_open_8 : decode cX4_open 8 = .ok (.iconst (-1), 1) := by decide +kernel
theorem dX4_open_9 : decode cX4_open 9 = .ok (.ireturn, 1) := by decide +kernel
theorem dX4_open_10 : decode cX4_open 10 = .ok (.aload_n 0, 1) := by decide +kernel
theorem dX4_open_11 : decode cX4_open 11 = .ok (.getfield 11, 3) := by decide +kernel
theorem dX4_open_14 : decode cX4_open 14 = .ok (.aload_n 0, 1) := by decide +kernel
theorem dX4_open_15 : decode cX4_open 15 = .ok (.getfield 22, 3) := by decide +kernel
theorem dX4_open_18 : decode cX4_open 18 = .ok (.aaload, 1) := by decide +kernel
theorem dX4_open_19 : decode cX4_open 19 = .ok (.astore_n 2, 1) := by decide +kernel
theorem dX4_open_20 : decode cX4_open 20 = .ok (.aload_n 2, 1) := by decide +kernel
theorem dX4_open_21 : decode cX4_open 21 = .ok (.ifnonnull 5, 3) := by decide +kernel
theorem dX4_open_24 : decode cX4_open 24 = .ok (.iconst (-1), 1) := by decide +kernel
theorem dX4_open_25 : decode cX4_open 25 = .ok (.ireturn, 1) := by decide +kernel
theorem dX4_open_26 : decode cX4_open 26 = .ok (.aload_n 2, 1) := by decide +kernel
theorem dX4_open_27 : decode cX4_open 27 = .ok (.iload_n 1, 1) := by decide +kernel
theorem dX4_open_28 : decode cX4_open 28 = .ok (.invokevirtual 25, 3) := by decide +kernel
theorem dX4_open_31 : decode cX4_open 31 = .ok (.aload_n 0, 1) := by decide +kernel
theorem dX4_open_32 : decode cX4_open 32 = .ok (.dup, 1) := by decide +kernel
theorem dX4_open_33 : decode cX4_open 33 = .ok (.getfield 22, 3) := by decide +kernel
theorem dX4_open_36 : decode cX4_open 36 = .ok (.iconst 1, 1) := by decide +kernel
theorem dX4_open_37 : decode cX4_open 37 = .ok (.iadd, 1) := by decide +kernel
theorem dX4_open_38 : decode cX4_open 38 = .ok (.putfield 22, 3) := by decide +kernel
theorem dX4_open_41 : decode cX4_open 41 = .ok (.aload_n 0, 1) := by decide +kernel
theorem dX4_open_42 : decode cX4_open 42 = .ok (.getfield 22, 3) := by decide +kernel
theorem dX4_open_45 : decode cX4_open 45 = .ok (.iconst 1, 1) := by decide +kernel
theorem dX4_open_46 : decode cX4_open 46 = .ok (.isub, 1) := by decide +kernel
theorem dX4_open_47 : decode cX4_open 47 = .ok (.ireturn, 1) := by decide +kernel
theorem dX4_find_0 : decode cX4_find 0 = .ok (.iload_n 1, 1) := by decide +kernel
theorem dX4_find_1 : decode cX4_find 1 = .ok (.ifCond .lt 25, 3) := by decide +kernel
theorem dX4_find_4 : decode cX4_find 4 = .ok (.iload_n 1, 1) := by decide +kernel
theorem dX4_find_5 : decode cX4_find 5 = .ok (.aload_n 0, 1) := by decide +kernel
theorem dX4_find_6 : decode cX4_find 6 = .ok (.getfield 22, 3) := by decide +kernel
theorem dX4_find_9 : decode cX4_find 9 = .ok (.if_icmp .ge 17, 3) := by decide +kernel
theorem dX4_find_12 : decode cX4_find 12 = .ok (.iload_n 1, 1) := by decide +kernel
theorem dX4_find_13 : decode cX4_find 13 = .ok (.iconst 4, 1) := by decide +kernel
theorem dX4_find_14 : decode cX4_find 14 = .ok (.if_icmp .ge 12, 3) := by decide +kernel
theorem dX4_find_17 : decode cX4_find 17 = .ok (.aload_n 0, 1) := by decide +kernel
theorem dX4_find_18 : decode cX4_find 18 = .ok (.getfield 11, 3) := by decide +kernel
theorem dX4_find_21 : decode cX4_find 21 = .ok (.iload_n 1, 1) := by decide +kernel
theorem dX4_find_22 : decode cX4_find 22 = .ok (.aaload, 1) := by decide +kernel
theorem dX4_find_23 : decode cX4_find 23 = .ok (.goto 4, 3) := by decide +kernel
theorem dX4_find_26 : decode cX4_find 26 = .ok (.aconst_null, 1) := by decide +kernel
theorem dX4_find_27 : decode cX4_find 27 = .ok (.areturn, 1) := by decide +kernel
theorem dX4_hasColumn_0 : decode cX4_hasColumn 0 = .ok (.aload_n 0, 1) := by decide +kernel
theorem dX4_hasColumn_1 : decode cX4_hasColumn 1 = .ok (.iload_n 1, 1) := by decide +kernel
theorem dX4_hasColumn_2 : decode cX4_hasColumn 2 = .ok (.invokevirtual 29, 3) := by decide +kernel
theorem dX4_hasColumn_5 : decode cX4_hasColumn 5 = .ok (.astore_n 3, 1) := by decide +kernel
theorem dX4_hasColumn_6 : decode cX4_hasColumn 6 = .ok (.aload_n 3, 1) := by decide +kernel
theorem dX4_hasColumn_7 : decode cX4_hasColumn 7 = .ok (.ifnull 15, 3) := by decide +kernel
theorem dX4_hasColumn_10 : decode cX4_hasColumn 10 = .ok (.aload_n 3, 1) := by decide +kernel
theorem dX4_hasColumn_11 : decode cX4_hasColumn 11 = .ok (.iload_n 2, 1) := by decide +kernel
theorem dX4_hasColumn_12 : decode cX4_hasColumn 12 = .ok (.invokevirtual 33, 3) := by decide +kernel
theorem dX4_hasColumn_15 : decode cX4_hasColumn 15 = .ok (.ifCond .eq 7, 3) := by decide +kernel
theorem dX4_hasColumn_18 : decode cX4_hasColumn 18 = .ok (.iconst 1, 1) := by decide +kernel
theorem dX4_hasColumn_19 : decode cX4_hasColumn 19 = .ok (.goto 4, 3) := by decide +kernel
theorem dX4_hasColumn_22 : decode cX4_hasColumn 22 = .ok (.iconst 0, 1) := by decide +kernel
theorem dX4_hasColumn_23 : decode cX4_hasColumn 23 = .ok (.ireturn, 1) := by decide +kernel
theorem dX4_hasSet_0 : decode cX4_hasSet 0 = .ok (.iload_n 1, 1) := by decide +kernel
theorem dX4_hasSet_1 : decode cX4_hasSet 1 = .ok (.ifCond .le 17, 3) := by decide +kernel
theorem dX4_hasSet_4 : decode cX4_hasSet 4 = .ok (.iload_n 1, 1) := by decide +kernel
theorem dX4_hasSet_5 : decode cX4_hasSet 5 = .ok (.iconst 1, 1) := by decide +kernel
theorem dX4_hasSet_6 : decode cX4_hasSet 6 = .ok (.aload_n 0, 1) := by decide +kernel
theorem dX4_hasSet_7 : decode cX4_hasSet 7 = .ok (.getfield 22, 3) := by decide +kernel
theorem dX4_hasSet_10 : decode cX4_hasSet 10 = .ok (.ishl, 1) := by decide +kernel
theorem dX4_hasSet_11 : decode cX4_hasSet 11 = .ok (.if_icmp .ge 7, 3) := by decide +kernel
theorem dX4_hasSet_14 : decode cX4_hasSet 14 = .ok (.iconst 1, 1) := by decide +kernel
theorem dX4_hasSet_15 : decode cX4_hasSet 15 = .ok (.goto 4, 3) := by decide +kernel
theorem dX4_hasSet_18 : decode cX4_hasSet 18 = .ok (.iconst 0, 1) := by decide +kernel
theorem dX4_hasSet_19 : decode cX4_hasSet 19 = .ok (.ireturn, 1) := by decide +kernel
theorem dX4_countRows_0 : decode cX4_countRows 0 = .ok (.aload_n 0, 1) := by decide +kernel
theorem dX4_countRows_1 : decode cX4_countRows 1 = .ok (.iload_n 1, 1) := by decide +kernel
theorem dX4_countRows_2 : decode cX4_countRows 2 = .ok (.invokevirtual 29, 3) := by decide +kernel
theorem dX4_countRows_5 : decode cX4_countRows 5 = .ok (.astore_n 2, 1) := by decide +kernel
theorem dX4_countRows_6 : decode cX4_countRows 6 = .ok (.aload_n 2, 1) := by decide +kernel
theorem dX4_countRows_7 : decode cX4_countRows 7 = .ok (.ifnonnull 7, 3) := by decide +kernel
theorem dX4_countRows_10 : decode cX4_countRows 10 = .ok (.iconst 0, 1) := by decide +kernel
theorem dX4_countRows_11 : decode cX4_countRows 11 = .ok (.goto 7, 3) := by decide +kernel
theorem dX4_countRows_14 : decode cX4_countRows 14 = .ok (.aload_n 2, 1) := by decide +kernel
theorem dX4_countRows_15 : decode cX4_countRows 15 = .ok (.invokevirtual 37, 3) := by decide +kernel
theorem dX4_countRows_18 : decode cX4_countRows 18 = .ok (.ireturn, 1) := by decide +kernel
theorem dX4_countKnownValues_0 : decode cX4_countKnownValues 0 = .ok (.aload_n 0, 1) := by decide +kernel
theorem dX4_countKnownValues_1 : decode cX4_countKnownValues 1 = .ok (.iload_n 1, 1) := by decide +kernel
theorem dX4_countKnownValues_2 : decode cX4_countKnownValues 2 = .ok (.invokevirtual 29, 3) := by decide +kernel
theorem dX4_countKnownValues_5 : decode cX4_countKnownValues 5 = .ok (.astore_n 3, 1) := by decide +kernel
theorem dX4_countKnownValues_6 : decode cX4_countKnownValues 6 = .ok (.aload_n 3, 1) := by decide +kernel
theorem dX4_countKnownValues_7 : decode cX4_countKnownValues 7 = .ok (.ifnonnull 7, 3) := by decide +kernel
theorem dX4_countKnownValues_10 : decode cX4_countKnownValues 10 = .ok (.iconst 0, 1) := by decide +kernel
theorem dX4_countKnownValues_11 : decode cX4_countKnownValues 11 = .ok (.goto 8, 3) := by decide +kernel
theorem dX4_countKnownValues_14 : decode cX4_countKnownValues 14 = .ok (.aload_n 3, 1) := by decide +kernel
theorem dX4_countKnownValues_15 : decode cX4_countKnownValues 15 = .ok (.iload_n 2, 1) := by decide +kernel
theorem dX4_countKnownValues_16 : decode cX4_countKnownValues 16 = .ok (.invokevirtual 40, 3) := by decide +kernel
theorem dX4_countKnownValues_19 : decode cX4_countKnownValues 19 = .ok (.ireturn, 1) := by decide +kernel
theorem dX4_noteChange_0 : decode cX4_noteChange 0 = .ok (.aload_n 0, 1) := by decide +kernel
theorem dX4_noteChange_1 : decode cX4_noteChange 1 = .ok (.dup, 1) := by decide +kernel
theorem dX4_noteChange_2 : decode cX4_noteChange 2 = .ok (.getfield 18, 3) := by decide +kernel
theorem dX4_noteChange_5 : decode cX4_noteChange 5 = .ok (.iconst 1, 1) := by decide +kernel
theorem dX4_noteChange_6 : decode cX4_noteChange 6 = .ok (.iadd, 1) := by decide +kernel
theorem dX4_noteChange_7 : decode cX4_noteChange 7 = .ok (.putfield 18, 3) := by decide +kernel
theorem dX4_noteChange_10 : decode cX4_noteChange 10 = .ok (.return_, 1) := by decide +kernel
theorem dX4_changes_0 : decode cX4_changes 0 = .ok (.aload_n 0, 1) := by decide +kernel
theorem dX4_changes_1 : decode cX4_changes 1 = .ok (.getfield 18, 3) := by decide +kernel
theorem dX4_changes_4 : decode cX4_changes 4 = .ok (.ireturn, 1) := by decide +kernel
theorem dX5_init_0 : decode cX5_init 0 = .ok (.aload_n 0, 1) := by decide +kernel
theorem dX5_init_1 : decode cX5_init 1 = .ok (.invokespecial 3, 3) := by decide +kernel
theorem dX5_init_4 : decode cX5_init 4 = .ok (.aload_n 0, 1) := by decide +kernel
theorem dX5_init_5 : decode cX5_init 5 = .ok (.bipush 30, 2) := by decide +kernel
theorem dX5_init_7 : decode cX5_init 7 = .ok (.newarray .int, 2) := by decide +kernel
theorem dX5_init_9 : decode cX5_init 9 = .ok (.putfield 9, 3) := by decide +kernel
theorem dX5_init_12 : decode cX5_init 12 = .ok (.aload_n 0, 1) := by decide +kernel
theorem dX5_init_13 : decode cX5_init 13 = .ok (.bipush 10, 2) := by decide +kernel
theorem dX5_init_15 : decode cX5_init 15 = .ok (.newarray .boolean, 2) := by decide +kernel
theorem dX5_init_17 : decode cX5_init 17 = .ok (.putfield 15, 3) := by decide +kernel
theorem dX5_init_20 : decode cX5_init 20 = .ok (.return_, 1) := by decide +kernel
theorem dX5_open_0 : decode cX5_open 0 = .ok (.aload_n 0, 1) := by decide +kernel
theorem dX5_open_1 : decode cX5_open 1 = .ok (.iload_n 1, 1) := by decide +kernel
theorem dX5_open_2 : decode cX5_open 2 = .ok (.putfield 19, 3) := by decide +kernel
theorem dX5_open_5 : decode cX5_open 5 = .ok (.aload_n 0, 1) := by decide +kernel
theorem dX5_open_6 : decode cX5_open 6 = .ok (.iconst 0, 1) := by decide +kernel
theorem dX5_open_7 : decode cX5_open 7 = .ok (.putfield 23, 3) := by decide +kernel
theorem dX5_open_10 : decode cX5_open 10 = .ok (.return_, 1) := by decide +kernel
theorem dX5_columns_0 : decode cX5_columns 0 = .ok (.aload_n 0, 1) := by decide +kernel
theorem dX5_columns_1 : decode cX5_columns 1 = .ok (.getfield 19, 3) := by decide +kernel
theorem dX5_columns_4 : decode cX5_columns 4 = .ok (.ireturn, 1) := by decide +kernel
theorem dX5_count_0 : decode cX5_count 0 = .ok (.aload_n 0, 1) := by decide +kernel
theorem dX5_count_1 : decode cX5_count 1 = .ok (.getfield 23, 3) := by decide +kernel
theorem dX5_count_4 : decode cX5_count 4 = .ok (.ireturn, 1) := by decide +kernel
theorem dX5_isFull_0 : decode cX5_isFull 0 = .ok (.aload_n 0, 1) := by decide +kernel
theorem dX5_isFull_1 : decode cX5_isFull 1 = .ok (.getfield 23, 3) := by decide +kernel
theorem dX5_isFull_4 : decode cX5_isFull 4 = .ok (.bipush 10, 2) := by decide +kernel
theorem dX5_isFull_6 : decode cX5_isFull 6 = .ok (.if_icmp .lt 7, 3) := by decide +kernel
theorem dX5_isFull_9 : decode cX5_isFull 9 = .ok (.iconst 1, 1) := by decide +kernel
theorem dX5_isFull_10 : decode cX5_isFull 10 = .ok (.goto 4, 3) := by decide +kernel
theorem dX5_isFull_13 : decode cX5_isFull 13 = .ok (.iconst 0, 1) := by decide +kernel
theorem dX5_isFull_14 : decode cX5_isFull 14 = .ok (.ireturn, 1) := by decide +kernel
theorem dX5_hasRow_0 : decode cX5_hasRow 0 = .ok (.iload_n 1, 1) := by decide +kernel
theorem dX5_hasRow_1 : decode cX5_hasRow 1 = .ok (.ifCond .lt 15, 3) := by decide +kernel
theorem dX5_hasRow_4 : decode cX5_hasRow 4 = .ok (.iload_n 1, 1) := by decide +kernel
theorem dX5_hasRow_5 : decode cX5_hasRow 5 = .ok (.aload_n 0, 1) := by decide +kernel
theorem dX5_hasRow_6 : decode cX5_hasRow 6 = .ok (.getfield 23, 3) := by decide +kernel
theorem dX5_hasRow_9 : decode cX5_hasRow 9 = .ok (.if_icmp .ge 7, 3) := by decide +kernel
theorem dX5_hasRow_12 : decode cX5_hasRow 12 = .ok (.iconst 1, 1) := by decide +kernel
theorem dX5_hasRow_13 : decode cX5_hasRow 13 = .ok (.goto 4, 3) := by decide +kernel
theorem dX5_hasRow_16 : decode cX5_hasRow 16 = .ok (.iconst 0, 1) := by decide +kernel
theorem dX5_hasRow_17 : decode cX5_hasRow 17 = .ok (.ireturn, 1) := by decide +kernel
theorem dX5_hasColumn_0 : decode cX5_hasColumn 0 = .ok (.iload_n 1, 1) := by decide +kernel
theorem dX5_hasColumn_1 : decode cX5_hasColumn 1 = .ok (.ifCond .lt 15, 3) := by decide +kernel
theorem dX5_hasColumn_4 : decode cX5_hasColumn 4 = .ok (.iload_n 1, 1) := by decide +kernel
theorem dX5_hasColumn_5 : decode cX5_hasColumn 5 = .ok (.aload_n 0, 1) := by decide +kernel
theorem dX5_hasColumn_6 : decode cX5_hasColumn 6 = .ok (.getfield 19, 3) := by decide +kernel
theorem dX5_hasColumn_9 : decode cX5_hasColumn 9 = .ok (.if_icmp .ge 7, 3) := by decide +kernel
theorem dX5_hasColumn_12 : decode cX5_hasColumn 12 = .ok (.iconst 1, 1) := by decide +kernel
theorem dX5_hasColumn_13 : decode cX5_hasColumn 13 = .ok (.goto 4, 3) := by decide +kernel
theorem dX5_hasColumn_16 : decode cX5_hasColumn 16 = .ok (.iconst 0, 1) := by decide +kernel
theorem dX5_hasColumn_17 : decode cX5_hasColumn 17 = .ok (.ireturn, 1) := by decide +kernel
theorem dX5_allows_0 : decode cX5_allows 0 = .ok (.aload_n 0, 1) := by decide +kernel
theorem dX5_allows_1 : decode cX5_allows 1 = .ok (.iconst 0, 1) := by decide +kernel
theorem dX5_allows_2 : decode cX5_allows 2 = .ok (.iload_n 1, 1) := by decide +kernel
theorem dX5_allows_3 : decode cX5_allows 3 = .ok (.invokevirtual 26, 3) := by decide +kernel
theorem dX5_allows_6 : decode cX5_allows 6 = .ok (.ifCond .eq 25, 3) := by decide +kernel
theorem dX5_allows_9 : decode cX5_allows 9 = .ok (.aload_n 0, 1) := by decide +kernel
theorem dX5_allows_10 : decode cX5_allows 10 = .ok (.iconst 1, 1) := by decide +kernel
theorem dX5_allows_11 : decode cX5_allows 11 = .ok (.iload_n 2, 1) := by decide +kernel
theorem dX5_allows_12 : decode cX5_allows 12 = .ok (.invokevirtual 26, 3) := by decide +kernel
theorem dX5_allows_15 : decode cX5_allows 15 = .ok (.ifCond .eq 16, 3) := by decide +kernel
theorem dX5_allows_18 : decode cX5_allows 18 = .ok (.aload_n 0, 1) := by decide +kernel
theorem dX5_allows_19 : decode cX5_allows 19 = .ok (.iconst 2, 1) := by decide +kernel
theorem dX5_allows_20 : decode cX5_allows 20 = .ok (.iload_n 3, 1) := by decide +kernel
theorem dX5_allows_21 : decode cX5_allows 21 = .ok (.invokevirtual 26, 3) := by decide +kernel
theorem dX5_allows_24 : decode cX5_allows 24 = .ok (.ifCond .eq 7, 3) := by decide +kernel
theorem dX5_allows_27 : decode cX5_allows 27 = .ok (.iconst 1, 1) := by decide +kernel
theorem dX5_allows_28 : decode cX5_allows 28 = .ok (.goto 4, 3) := by decide +kernel
theorem dX5_allows_31 : decode cX5_allows 31 = .ok (.iconst 0, 1) := by decide +kernel
theorem dX5_allows_32 : decode cX5_allows 32 = .ok (.ireturn, 1) := by decide +kernel
theorem dX5_allowsIn_0 : decode cX5_allowsIn 0 = .ok (.iload_n 1, 1) := by decide +kernel
theorem dX5_allowsIn_1 : decode cX5_allowsIn 1 = .ok (.aload_n 0, 1) := by decide +kernel
theorem dX5_allowsIn_2 : decode cX5_allowsIn 2 = .ok (.getfield 19, 3) := by decide +kernel
theorem dX5_allowsIn_5 : decode cX5_allowsIn 5 = .ok (.if_icmp .lt 13, 3) := by decide +kernel
theorem dX5_allowsIn_8 : decode cX5_allowsIn 8 = .ok (.iload_n 2, 1) := by decide +kernel
theorem dX5_allowsIn_9 : decode cX5_allowsIn 9 = .ok (.ifCond .ne 7, 3) := by decide +kernel
theorem dX5_allowsIn_12 : decode cX5_allowsIn 12 = .ok (.iconst 1, 1) := by decide +kernel
theorem dX5_allowsIn_13 : decode cX5_allowsIn 13 = .ok (.goto 4, 3) := by decide +kernel
theorem dX5_allowsIn_16 : decode cX5_allowsIn 16 = .ok (.iconst 0, 1) := by decide +kernel
theorem dX5_allowsIn_17 : decode cX5_allowsIn 17 = .ok (.ireturn, 1) := by decide +kernel
theorem dX5_allowsIn_18 : decode cX5_allowsIn 18 = .ok (.iload_n 2, 1) := by decide +kernel
theorem dX5_allowsIn_19 : decode cX5_allowsIn 19 = .ok (.sipush (-1000), 3) := by decide +kernel
theorem dX5_allowsIn_22 : decode cX5_allowsIn 22 = .ok (.if_icmp .eq 10, 3) := by decide +kernel
theorem dX5_allowsIn_25 : decode cX5_allowsIn 25 = .ok (.iload_n 2, 1) := by decide +kernel
theorem dX5_allowsIn_26 : decode cX5_allowsIn 26 = .ok (.invokestatic 30, 3) := by decide +kernel
theorem dX5_allowsIn_29 : decode cX5_allowsIn 29 = .ok (.ifCond .eq 7, 3) := by decide +kernel
theorem dX5_allowsIn_32 : decode cX5_allowsIn 32 = .ok (.iconst 1, 1) := by decide +kernel
theorem dX5_allowsIn_33 : decode cX5_allowsIn 33 = .ok (.goto 4, 3) := by decide +kernel
theorem dX5_allowsIn_36 : decode cX5_allowsIn 36 = .ok (.iconst 0, 1) := by decide +kernel
theorem dX5_allowsIn_37 : decode cX5_allowsIn 37 = .ok (.ireturn, 1) := by decide +kernel
theorem dX5_append_0 : decode cX5_append 0 = .ok (.aload_n 0, 1) := by decide +kernel
theorem dX5_append_1 : decode cX5_append 1 = .ok (.getfield 23, 3) := by decide +kernel
theorem dX5_append_4 : decode cX5_append 4 = .ok (.bipush 10, 2) := by decide +kernel
theorem dX5_append_6 : decode cX5_append 6 = .ok (.if_icmp .lt 4, 3) := by decide +kernel
theorem dX5_append_9 : decode cX5_append 9 = .ok (.return_, 1) := by decide +kernel
theorem dX5_append_10 : decode cX5_append 10 = .ok (.aload_n 0, 1) := by decide +kernel
theorem dX5_append_11 : decode cX5_append 11 = .ok (.getfield 23, 3) := by decide +kernel
theorem dX5_append_14 : decode cX5_append 14 = .ok (.iconst 3, 1) := by decide +kernel
theorem dX5_append_15 : decode cX5_append 15 = .ok (.imul, 1) := by decide +kernel
theorem dX5_append_16 : decode cX5_append 16 = .ok (.istore 4, 2) := by decide +kernel
theorem dX5_append_18 : decode cX5_append 18 = .ok (.aload_n 0, 1) := by decide +kernel
theorem dX5_append_19 : decode cX5_append 19 = .ok (.getfield 9, 3) := by decide +kernel
theorem dX5_append_22 : decode cX5_append 22 = .ok (.iload 4, 2) := by decide +kernel
theorem dX5_append_24 : decode cX5_append 24 = .ok (.iload_n 1, 1) := by decide +kernel
theorem dX5_append_25 : decode cX5_append 25 = .ok (.iastore, 1) := by decide +kernel
theorem dX5_append_26 : decode cX5_append 26 = .ok (.aload_n 0, 1) := by decide +kernel
theorem dX5_append_27 : decode cX5_append 27 = .ok (.getfield 9, 3) := by decide +kernel
theorem dX5_append_30 : decode cX5_append 30 = .ok (.iload 4, 2) := by decide +kernel
theorem dX5_append_32 : decode cX5_append 32 = .ok (.iconst 1, 1) := by decide +kernel
theorem dX5_append_33 : decode cX5_append 33 = .ok (.iadd, 1) := by decide +kernel
theorem dX5_append_34 : decode cX5_append 34 = .ok (.iload_n 2, 1) := by decide +kernel
theorem dX5_append_35 : decode cX5_append 35 = .ok (.iastore, 1) := by decide +kernel
theorem dX5_append_36 : decode cX5_append 36 = .ok (.aload_n 0, 1) := by decide +kernel
theorem dX5_append_37 : decode cX5_append 37 = .ok (.getfield 9, 3) := by decide +kernel
theorem dX5_append_40 : decode cX5_append 40 = .ok (.iload 4, 2) := by decide +kernel
theorem dX5_append_42 : decode cX5_append 42 = .ok (.iconst 2, 1) := by decide +kernel
theorem dX5_append_43 : decode cX5_append 43 = .ok (.iadd, 1) := by decide +kernel
theorem dX5_append_44 : decode cX5_append 44 = .ok (.iload_n 3, 1) := by decide +kernel
theorem dX5_append_45 : decode cX5_append 45 = .ok (.iastore, 1) := by decide +kernel
theorem dX5_append_46 : decode cX5_append 46 = .ok (.aload_n 0, 1) := by decide +kernel
theorem dX5_append_47 : decode cX5_append 47 = .ok (.dup, 1) := by decide +kernel
theorem dX5_append_48 : decode cX5_append 48 = .ok (.getfield 23, 3) := by decide +kernel
theorem dX5_append_51 : decode cX5_append 51 = .ok (.iconst 1, 1) := by decide +kernel
theorem dX5_append_52 : decode cX5_append 52 = .ok (.iadd, 1) := by decide +kernel
theorem dX5_append_53 : decode cX5_append 53 = .ok (.putfield 23, 3) := by decide +kernel
theorem dX5_append_56 : decode cX5_append 56 = .ok (.return_, 1) := by decide +kernel
theorem dX5_remove_0 : decode cX5_remove 0 = .ok (.iload_n 1, 1) := by decide +kernel
theorem dX5_remove_1 : decode cX5_remove 1 = .ok (.ifCond .lt 11, 3) := by decide +kernel
theorem dX5_remove_4 : decode cX5_remove 4 = .ok (.iload_n 1, 1) := by decide +kernel
theorem dX5_remove_5 : decode cX5_remove 5 = .ok (.aload_n 0, 1) := by decide +kernel
theorem dX5_remove_6 : decode cX5_remove 6 = .ok (.getfield 23, 3) := by decide +kernel
theorem dX5_remove_9 : decode cX5_remove 9 = .ok (.if_icmp .lt 4, 3) := by decide +kernel
theorem dX5_remove_12 : decode cX5_remove 12 = .ok (.return_, 1) := by decide +kernel
theorem dX5_remove_13 : decode cX5_remove 13 = .ok (.aload_n 0, 1) := by decide +kernel
theorem dX5_remove_14 : decode cX5_remove 14 = .ok (.dup, 1) := by decide +kernel
theorem dX5_remove_15 : decode cX5_remove 15 = .ok (.getfield 23, 3) := by decide +kernel
theorem dX5_remove_18 : decode cX5_remove 18 = .ok (.iconst 1, 1) := by decide +kernel
theorem dX5_remove_19 : decode cX5_remove 19 = .ok (.isub, 1) := by decide +kernel
theorem dX5_remove_20 : decode cX5_remove 20 = .ok (.putfield 23, 3) := by decide +kernel
theorem dX5_remove_23 : decode cX5_remove 23 = .ok (.iload_n 1, 1) := by decide +kernel
theorem dX5_remove_24 : decode cX5_remove 24 = .ok (.iconst 3, 1) := by decide +kernel
theorem dX5_remove_25 : decode cX5_remove 25 = .ok (.imul, 1) := by decide +kernel
theorem dX5_remove_26 : decode cX5_remove 26 = .ok (.istore_n 2, 1) := by decide +kernel
theorem dX5_remove_27 : decode cX5_remove 27 = .ok (.iload_n 2, 1) := by decide +kernel
theorem dX5_remove_28 : decode cX5_remove 28 = .ok (.aload_n 0, 1) := by decide +kernel
theorem dX5_remove_29 : decode cX5_remove 29 = .ok (.getfield 23, 3) := by decide +kernel
theorem dX5_remove_32 : decode cX5_remove 32 = .ok (.iconst 3, 1) := by decide +kernel
theorem dX5_remove_33 : decode cX5_remove 33 = .ok (.imul, 1) := by decide +kernel
theorem dX5_remove_34 : decode cX5_remove 34 = .ok (.if_icmp .ge 23, 3) := by decide +kernel
theorem dX5_remove_37 : decode cX5_remove 37 = .ok (.aload_n 0, 1) := by decide +kernel
theorem dX5_remove_38 : decode cX5_remove 38 = .ok (.getfield 9, 3) := by decide +kernel
theorem dX5_remove_41 : decode cX5_remove 41 = .ok (.iload_n 2, 1) := by decide +kernel
theorem dX5_remove_42 : decode cX5_remove 42 = .ok (.aload_n 0, 1) := by decide +kernel
theorem dX5_remove_43 : decode cX5_remove 43 = .ok (.getfield 9, 3) := by decide +kernel
theorem dX5_remove_46 : decode cX5_remove 46 = .ok (.iload_n 2, 1) := by decide +kernel
theorem dX5_remove_47 : decode cX5_remove 47 = .ok (.iconst 3, 1) := by decide +kernel
theorem dX5_remove_48 : decode cX5_remove 48 = .ok (.iadd, 1) := by decide +kernel
theorem dX5_remove_49 : decode cX5_remove 49 = .ok (.iaload, 1) := by decide +kernel
theorem dX5_remove_50 : decode cX5_remove 50 = .ok (.iastore, 1) := by decide +kernel
theorem dX5_remove_51 : decode cX5_remove 51 = .ok (.iinc 2 1, 3) := by decide +kernel
theorem dX5_remove_54 : decode cX5_remove 54 = .ok (.goto (-27), 3) := by decide +kernel
theorem dX5_remove_57 : decode cX5_remove 57 = .ok (.return_, 1) := by decide +kernel
theorem dX5_value_0 : decode cX5_value 0 = .ok (.iload_n 1, 1) := by decide +kernel
theorem dX5_value_1 : decode cX5_value 1 = .ok (.ifCond .lt 27, 3) := by decide +kernel
theorem dX5_value_4 : decode cX5_value 4 = .ok (.iload_n 1, 1) := by decide +kernel
theorem dX5_value_5 : decode cX5_value 5 = .ok (.aload_n 0, 1) := by decide +kernel
theorem dX5_value_6 : decode cX5_value 6 = .ok (.getfield 23, 3) := by decide +kernel
theorem dX5_value_9 : decode cX5_value 9 = .ok (.if_icmp .ge 19, 3) := by decide +kernel
theorem dX5_value_12 : decode cX5_value 12 = .ok (.iload_n 2, 1) := by decide +kernel
theorem dX5_value_13 : decode cX5_value 13 = .ok (.ifCond .lt 15, 3) := by decide +kernel
theorem dX5_value_16 : decode cX5_value 16 = .ok (.iload_n 2, 1) := by decide +kernel
theorem dX5_value_17 : decode cX5_value 17 = .ok (.aload_n 0, 1) := by decide +kernel
theorem dX5_value_18 : decode cX5_value 18 = .ok (.getfield 19, 3) := by decide +kernel
theorem dX5_value_21 : decode cX5_value 21 = .ok (.if_icmp .ge 7, 3) := by decide +kernel
theorem dX5_value_24 : decode cX5_value 24 = .ok (.iconst 1, 1) := by decide +kernel
theorem dX5_value_25 : decode cX5_value 25 = .ok (.goto 4, 3) := by decide +kernel
theorem dX5_value_28 : decode cX5_value 28 = .ok (.iconst 0, 1) := by decide +kernel
theorem dX5_value_29 : decode cX5_value 29 = .ok (.istore_n 3, 1) := by decide +kernel
theorem dX5_value_30 : decode cX5_value 30 = .ok (.iload_n 3, 1) := by decide +kernel
theorem dX5_value_31 : decode cX5_value 31 = .ok (.ifCond .eq 16, 3) := by decide +kernel
theorem dX5_value_34 : decode cX5_value 34 = .ok (.aload_n 0, 1) := by decide +kernel
theorem dX5_value_35 : decode cX5_value 35 = .ok (.getfield 9, 3) := by decide +kernel
theorem dX5_value_38 : decode cX5_value 38 = .ok (.iload_n 1, 1) := by decide +kernel
theorem dX5_value_39 : decode cX5_value 39 = .ok (.iconst 3, 1) := by decide +kernel
theorem dX5_value_40 : decode cX5_value 40 = .ok (.imul, 1) := by decide +kernel
theorem dX5_value_41 : decode cX5_value 41 = .ok (.iload_n 2, 1) := by decide +kernel
theorem dX5_value_42 : decode cX5_value 42 = .ok (.iadd, 1) := by decide +kernel
theorem dX5_value_43 : decode cX5_value 43 = .ok (.iaload, 1) := by decide +kernel
theorem dX5_value_44 : decode cX5_value 44 = .ok (.goto 6, 3) := by decide +kernel
theorem dX5_value_47 : decode cX5_value 47 = .ok (.sipush (-1000), 3) := by decide +kernel
theorem dX5_value_50 : decode cX5_value 50 = .ok (.ireturn, 1) := by decide +kernel
theorem dX5_areAlike_0 : decode cX5_areAlike 0 = .ok (.iconst 0, 1) := by decide +kernel
theorem dX5_areAlike_1 : decode cX5_areAlike 1 = .ok (.istore_n 3, 1) := by decide +kernel
theorem dX5_areAlike_2 : decode cX5_areAlike 2 = .ok (.iload_n 3, 1) := by decide +kernel
theorem dX5_areAlike_3 : decode cX5_areAlike 3 = .ok (.aload_n 0, 1) := by decide +kernel
theorem dX5_areAlike_4 : decode cX5_areAlike 4 = .ok (.getfield 19, 3) := by decide +kernel
theorem dX5_areAlike_7 : decode cX5_areAlike 7 = .ok (.if_icmp .ge 26, 3) := by decide +kernel
theorem dX5_areAlike_10 : decode cX5_areAlike 10 = .ok (.aload_n 0, 1) := by decide +kernel
theorem dX5_areAlike_11 : decode cX5_areAlike 11 = .ok (.iload_n 1, 1) := by decide +kernel
theorem dX5_areAlike_12 : decode cX5_areAlike 12 = .ok (.iload_n 3, 1) := by decide +kernel
theorem dX5_areAlike_13 : decode cX5_areAlike 13 = .ok (.invokevirtual 34, 3) := by decide +kernel
theorem dX5_areAlike_16 : decode cX5_areAlike 16 = .ok (.aload_n 0, 1) := by decide +kernel
theorem dX5_areAlike_17 : decode cX5_areAlike 17 = .ok (.iload_n 2, 1) := by decide +kernel
theorem dX5_areAlike_18 : decode cX5_areAlike 18 = .ok (.iload_n 3, 1) := by decide +kernel
theorem dX5_areAlike_19 : decode cX5_areAlike 19 = .ok (.invokevirtual 34, 3) := by decide +kernel
theorem dX5_areAlike_22 : decode cX5_areAlike 22 = .ok (.if_icmp .eq 5, 3) := by decide +kernel
theorem dX5_areAlike_25 : decode cX5_areAlike 25 = .ok (.iconst 0, 1) := by decide +kernel
theorem dX5_areAlike_26 : decode cX5_areAlike 26 = .ok (.ireturn, 1) := by decide +kernel
theorem dX5_areAlike_27 : decode cX5_areAlike 27 = .ok (.iinc 3 1, 3) := by decide +kernel
theorem dX5_areAlike_30 : decode cX5_areAlike 30 = .ok (.goto (-28), 3) := by decide +kernel
theorem dX5_areAlike_33 : decode cX5_areAlike 33 = .ok (.iconst 1, 1) := by decide +kernel
theorem dX5_areAlike_34 : decode cX5_areAlike 34 = .ok (.ireturn, 1) := by decide +kernel
theorem dX5_countAlike_0 : decode cX5_countAlike 0 = .ok (.iconst 0, 1) := by decide +kernel
theorem dX5_countAlike_1 : decode cX5_countAlike 1 = .ok (.istore_n 2, 1) := by decide +kernel
theorem dX5_countAlike_2 : decode cX5_countAlike 2 = .ok (.iconst 0, 1) := by decide +kernel
theorem dX5_countAlike_3 : decode cX5_countAlike 3 = .ok (.istore_n 3, 1) := by decide +kernel
theorem dX5_countAlike_4 : decode cX5_countAlike 4 = .ok (.iload_n 3, 1) := by decide +kernel
theorem dX5_countAlike_5 : decode cX5_countAlike 5 = .ok (.aload_n 0, 1) := by decide +kernel
theorem dX5_countAlike_6 : decode cX5_countAlike 6 = .ok (.getfield 23, 3) := by decide +kernel
theorem dX5_countAlike_9 : decode cX5_countAlike 9 = .ok (.if_icmp .ge 21, 3) := by decide +kernel
theorem dX5_countAlike_12 : decode cX5_countAlike 12 = .ok (.aload_n 0, 1) := by decide +kernel
theorem dX5_countAlike_13 : decode cX5_countAlike 13 = .ok (.iload_n 1, 1) := by decide +kernel
theorem dX5_countAlike_14 : decode cX5_countAlike 14 = .ok (.iload_n 3, 1) := by decide +kernel
theorem dX5_countAlike_15 : decode cX5_countAlike 15 = .ok (.invokevirtual 38, 3) := by decide +kernel
theorem dX5_countAlike_18 : decode cX5_countAlike 18 = .ok (.ifCond .eq 6, 3) := by decide +kernel
theorem dX5_countAlike_21 : decode cX5_countAlike 21 = .ok (.iinc 2 1, 3) := by decide +kernel
theorem dX5_countAlike_24 : decode cX5_countAlike 24 = .ok (.iinc 3 1, 3) := by decide +kernel
theorem dX5_countAlike_27 : decode cX5_countAlike 27 = .ok (.goto (-23), 3) := by decide +kernel
theorem dX5_countAlike_30 : decode cX5_countAlike 30 = .ok (.iload_n 2, 1) := by decide +kernel
theorem dX5_countAlike_31 : decode cX5_countAlike 31 = .ok (.ireturn, 1) := by decide +kernel
theorem dX5_isFirstAlike_0 : decode cX5_isFirstAlike 0 = .ok (.iconst 0, 1) := by decide +kernel
theorem dX5_isFirstAlike_1 : decode cX5_isFirstAlike 1 = .ok (.istore_n 2, 1) := by decide +kernel
theorem dX5_isFirstAlike_2 : decode cX5_isFirstAlike 2 = .ok (.iload_n 2, 1) := by decide +kernel
theorem dX5_isFirstAlike_3 : decode cX5_isFirstAlike 3 = .ok (.iload_n 1, 1) := by decide +kernel
theorem dX5_isFirstAlike_4 : decode cX5_isFirstAlike 4 = .ok (.if_icmp .ge 20, 3) := by decide +kernel
theorem dX5_isFirstAlike_7 : decode cX5_isFirstAlike 7 = .ok (.aload_n 0, 1) := by decide +kernel
theorem dX5_isFirstAlike_8 : decode cX5_isFirstAlike 8 = .ok (.iload_n 1, 1) := by decide +kernel
theorem dX5_isFirstAlike_9 : decode cX5_isFirstAlike 9 = .ok (.iload_n 2, 1) := by decide +kernel
theorem dX5_isFirstAlike_10 : decode cX5_isFirstAlike 10 = .ok (.invokevirtual 38, 3) := by decide +kernel
theorem dX5_isFirstAlike_13 : decode cX5_isFirstAlike 13 = .ok (.ifCond .eq 5, 3) := by decide +kernel
theorem dX5_isFirstAlike_16 : decode cX5_isFirstAlike 16 = .ok (.iconst 0, 1) := by decide +kernel
theorem dX5_isFirstAlike_17 : decode cX5_isFirstAlike 17 = .ok (.ireturn, 1) := by decide +kernel
theorem dX5_isFirstAlike_18 : decode cX5_isFirstAlike 18 = .ok (.iinc 2 1, 3) := by decide +kernel
theorem dX5_isFirstAlike_21 : decode cX5_isFirstAlike 21 = .ok (.goto (-19), 3) := by decide +kernel
theorem dX5_isFirstAlike_24 : decode cX5_isFirstAlike 24 = .ok (.iconst 1, 1) := by decide +kernel
theorem dX5_isFirstAlike_25 : decode cX5_isFirstAlike 25 = .ok (.ireturn, 1) := by decide +kernel
theorem dX5_countKnownValues_0 : decode cX5_countKnownValues 0 = .ok (.iconst 0, 1) := by decide +kernel
theorem dX5_countKnownValues_1 : decode cX5_countKnownValues 1 = .ok (.istore_n 2, 1) := by decide +kernel
theorem dX5_countKnownValues_2 : decode cX5_countKnownValues 2 = .ok (.iconst 0, 1) := by decide +kernel
theorem dX5_countKnownValues_3 : decode cX5_countKnownValues 3 = .ok (.istore_n 3, 1) := by decide +kernel
theorem dX5_countKnownValues_4 : decode cX5_countKnownValues 4 = .ok (.iload_n 3, 1) := by decide +kernel
theorem dX5_countKnownValues_5 : decode cX5_countKnownValues 5 = .ok (.aload_n 0, 1) := by decide +kernel
theorem dX5_countKnownValues_6 : decode cX5_countKnownValues 6 = .ok (.getfield 23, 3) := by decide +kernel
theorem dX5_countKnownValues_9 : decode cX5_countKnownValues 9 = .ok (.if_icmp .ge 21, 3) := by decide +kernel
theorem dX5_countKnownValues_12 : decode cX5_countKnownValues 12 = .ok (.aload_n 0, 1) := by decide +kernel
theorem dX5_countKnownValues_13 : decode cX5_countKnownValues 13 = .ok (.iload_n 3, 1) := by decide +kernel
theorem dX5_countKnownValues_14 : decode cX5_countKnownValues 14 = .ok (.iload_n 1, 1) := by decide +kernel
theorem dX5_countKnownValues_15 : decode cX5_countKnownValues 15 = .ok (.invokevirtual 41, 3) := by decide +kernel
theorem dX5_countKnownValues_18 : decode cX5_countKnownValues 18 = .ok (.ifCond .eq 6, 3) := by decide +kernel
theorem dX5_countKnownValues_21 : decode cX5_countKnownValues 21 = .ok (.iinc 2 1, 3) := by decide +kernel
theorem dX5_countKnownValues_24 : decode cX5_countKnownValues 24 = .ok (.iinc 3 1, 3) := by decide +kernel
theorem dX5_countKnownValues_27 : decode cX5_countKnownValues 27 = .ok (.goto (-23), 3) := by decide +kernel
theorem dX5_countKnownValues_30 : decode cX5_countKnownValues 30 = .ok (.iload_n 2, 1) := by decide +kernel
theorem dX5_countKnownValues_31 : decode cX5_countKnownValues 31 = .ok (.ireturn, 1) := by decide +kernel
theorem dX5_isFirstKnown_0 : decode cX5_isFirstKnown 0 = .ok (.aload_n 0, 1) := by decide +kernel
theorem dX5_isFirstKnown_1 : decode cX5_isFirstKnown 1 = .ok (.iload_n 1, 1) := by decide +kernel
theorem dX5_isFirstKnown_2 : decode cX5_isFirstKnown 2 = .ok (.iload_n 2, 1) := by decide +kernel
theorem dX5_isFirstKnown_3 : decode cX5_isFirstKnown 3 = .ok (.invokevirtual 34, 3) := by decide +kernel
theorem dX5_isFirstKnown_6 : decode cX5_isFirstKnown 6 = .ok (.istore_n 3, 1) := by decide +kernel
theorem dX5_isFirstKnown_7 : decode cX5_isFirstKnown 7 = .ok (.iconst 0, 1) := by decide +kernel
theorem dX5_isFirstKnown_8 : decode cX5_isFirstKnown 8 = .ok (.istore 4, 2) := by decide +kernel
theorem dX5_isFirstKnown_10 : decode cX5_isFirstKnown 10 = .ok (.iload 4, 2) := by decide +kernel
theorem dX5_isFirstKnown_12 : decode cX5_isFirstKnown 12 = .ok (.iload_n 1, 1) := by decide +kernel
theorem dX5_isFirstKnown_13 : decode cX5_isFirstKnown 13 = .ok (.if_icmp .ge 22, 3) := by decide +kernel
theorem dX5_isFirstKnown_16 : decode cX5_isFirstKnown 16 = .ok (.aload_n 0, 1) := by decide +kernel
theorem dX5_isFirstKnown_17 : decode cX5_isFirstKnown 17 = .ok (.iload 4, 2) := by decide +kernel
theorem dX5_isFirstKnown_19 : decode cX5_isFirstKnown 19 = .ok (.iload_n 2, 1) := by decide +kernel
theorem dX5_isFirstKnown_20 : decode cX5_isFirstKnown 20 = .ok (.invokevirtual 34, 3) := by decide +kernel
theorem dX5_isFirstKnown_23 : decode cX5_isFirstKnown 23 = .ok (.iload_n 3, 1) := by decide +kernel
theorem dX5_isFirstKnown_24 : decode cX5_isFirstKnown 24 = .ok (.if_icmp .ne 5, 3) := by decide +kernel
theorem dX5_isFirstKnown_27 : decode cX5_isFirstKnown 27 = .ok (.iconst 0, 1) := by decide +kernel
theorem dX5_isFirstKnown_28 : decode cX5_isFirstKnown 28 = .ok (.ireturn, 1) := by decide +kernel
theorem dX5_isFirstKnown_29 : decode cX5_isFirstKnown 29 = .ok (.iinc 4 1, 3) := by decide +kernel
theorem dX5_isFirstKnown_32 : decode cX5_isFirstKnown 32 = .ok (.goto (-22), 3) := by decide +kernel
theorem dX5_isFirstKnown_35 : decode cX5_isFirstKnown 35 = .ok (.iload_n 3, 1) := by decide +kernel
theorem dX5_isFirstKnown_36 : decode cX5_isFirstKnown 36 = .ok (.sipush (-1000), 3) := by decide +kernel
theorem dX5_isFirstKnown_39 : decode cX5_isFirstKnown 39 = .ok (.if_icmp .eq 7, 3) := by decide +kernel
theorem dX5_isFirstKnown_42 : decode cX5_isFirstKnown 42 = .ok (.iconst 1, 1) := by decide +kernel
theorem dX5_isFirstKnown_43 : decode cX5_isFirstKnown 43 = .ok (.goto 4, 3) := by decide +kernel
theorem dX5_isFirstKnown_46 : decode cX5_isFirstKnown 46 = .ok (.iconst 0, 1) := by decide +kernel
theorem dX5_isFirstKnown_47 : decode cX5_isFirstKnown 47 = .ok (.ireturn, 1) := by decide +kernel
theorem dX5_pathPairs_0 : decode cX5_pathPairs 0 = .ok (.iconst 0, 1) := by decide +kernel
theorem dX5_pathPairs_1 : decode cX5_pathPairs 1 = .ok (.istore_n 1, 1) := by decide +kernel
theorem dX5_pathPairs_2 : decode cX5_pathPairs 2 = .ok (.iconst 0, 1) := by decide +kernel
theorem dX5_pathPairs_3 : decode cX5_pathPairs 3 = .ok (.istore_n 2, 1) := by decide +kernel
theorem dX5_pathPairs_4 : decode cX5_pathPairs 4 = .ok (.iload_n 2, 1) := by decide +kernel
theorem dX5_pathPairs_5 : decode cX5_pathPairs 5 = .ok (.aload_n 0, 1) := by decide +kernel
theorem dX5_pathPairs_6 : decode cX5_pathPairs 6 = .ok (.getfield 23, 3) := by decide +kernel
theorem dX5_pathPairs_9 : decode cX5_pathPairs 9 = .ok (.if_icmp .ge 34, 3) := by decide +kernel
theorem dX5_pathPairs_12 : decode cX5_pathPairs 12 = .ok (.aload_n 0, 1) := by decide +kernel
theorem dX5_pathPairs_13 : decode cX5_pathPairs 13 = .ok (.iload_n 2, 1) := by decide +kernel
theorem dX5_pathPairs_14 : decode cX5_pathPairs 14 = .ok (.invokevirtual 44, 3) := by decide +kernel
theorem dX5_pathPairs_17 : decode cX5_pathPairs 17 = .ok (.ifCond .eq 20, 3) := by decide +kernel
theorem dX5_pathPairs_20 : decode cX5_pathPairs 20 = .ok (.aload_n 0, 1) := by decide +kernel
theorem dX5_pathPairs_21 : decode cX5_pathPairs 21 = .ok (.aload_n 0, 1) := by decide +kernel
theorem dX5_pathPairs_22 : decode cX5_pathPairs 22 = .ok (.iload_n 2, 1) := by decide +kernel
theorem dX5_pathPairs_23 : decode cX5_pathPairs 23 = .ok (.iconst 0, 1) := by decide +kernel
theorem dX5_pathPairs_24 : decode cX5_pathPairs 24 = .ok (.invokevirtual 34, 3) := by decide +kernel
theorem dX5_pathPairs_27 : decode cX5_pathPairs 27 = .ok (.invokevirtual 47, 3) := by decide +kernel
theorem dX5_pathPairs_30 : decode cX5_pathPairs 30 = .ok (.iload_n 1, 1) := by decide +kernel
theorem dX5_pathPairs_31 : decode cX5_pathPairs 31 = .ok (.aload_n 0, 1) := by decide +kernel
theorem dX5_pathPairs_32 : decode cX5_pathPairs 32 = .ok (.invokevirtual 51, 3) := by decide +kernel
theorem dX5_pathPairs_35 : decode cX5_pathPairs 35 = .ok (.iadd, 1) := by decide +kernel
theorem dX5_pathPairs_36 : decode cX5_pathPairs 36 = .ok (.istore_n 1, 1) := by decide +kernel
theorem dX5_pathPairs_37 : decode cX5_pathPairs 37 = .ok (.iinc 2 1, 3) := by decide +kernel
theorem dX5_pathPairs_40 : decode cX5_pathPairs 40 = .ok (.goto (-36), 3) := by decide +kernel
theorem dX5_pathPairs_43 : decode cX5_pathPairs 43 = .ok (.iload_n 1, 1) := by decide +kernel
theorem dX5_pathPairs_44 : decode cX5_pathPairs 44 = .ok (.ireturn, 1) := by decide +kernel
theorem dX5_isStep_0 : decode cX5_isStep 0 = .ok (.aload_n 0, 1) := by decide +kernel
theorem dX5_isStep_1 : decode cX5_isStep 1 = .ok (.iload_n 1, 1) := by decide +kernel
theorem dX5_isStep_2 : decode cX5_isStep 2 = .ok (.iconst 0, 1) := by decide +kernel
theorem dX5_isStep_3 : decode cX5_isStep 3 = .ok (.invokevirtual 34, 3) := by decide +kernel
theorem dX5_isStep_6 : decode cX5_isStep 6 = .ok (.sipush (-1000), 3) := by decide +kernel
theorem dX5_isStep_9 : decode cX5_isStep 9 = .ok (.if_icmp .eq 19, 3) := by decide +kernel
theorem dX5_isStep_12 : decode cX5_isStep 12 = .ok (.aload_n 0, 1) := by decide +kernel
theorem dX5_isStep_13 : decode cX5_isStep 13 = .ok (.iload_n 1, 1) := by decide +kernel
theorem dX5_isStep_14 : decode cX5_isStep 14 = .ok (.iconst 1, 1) := by decide +kernel
theorem dX5_isStep_15 : decode cX5_isStep 15 = .ok (.invokevirtual 34, 3) := by decide +kernel
theorem dX5_isStep_18 : decode cX5_isStep 18 = .ok (.sipush (-1000), 3) := by decide +kernel
theorem dX5_isStep_21 : decode cX5_isStep 21 = .ok (.if_icmp .eq 7, 3) := by decide +kernel
theorem dX5_isStep_24 : decode cX5_isStep 24 = .ok (.iconst 1, 1) := by decide +kernel
theorem dX5_isStep_25 : decode cX5_isStep 25 = .ok (.goto 4, 3) := by decide +kernel
theorem dX5_isStep_28 : decode cX5_isStep 28 = .ok (.iconst 0, 1) := by decide +kernel
theorem dX5_isStep_29 : decode cX5_isStep 29 = .ok (.ireturn, 1) := by decide +kernel
theorem dX5_isNewStart_0 : decode cX5_isNewStart 0 = .ok (.iconst 0, 1) := by decide +kernel
theorem dX5_isNewStart_1 : decode cX5_isNewStart 1 = .ok (.istore_n 2, 1) := by decide +kernel
theorem dX5_isNewStart_2 : decode cX5_isNewStart 2 = .ok (.iload_n 2, 1) := by decide +kernel
theorem dX5_isNewStart_3 : decode cX5_isNewStart 3 = .ok (.iload_n 1, 1) := by decide +kernel
theorem dX5_isNewStart_4 : decode cX5_isNewStart 4 = .ok (.if_icmp .ge 34, 3) := by decide +kernel
theorem dX5_isNewStart_7 : decode cX5_isNewStart 7 = .ok (.aload_n 0, 1) := by decide +kernel
theorem dX5_isNewStart_8 : decode cX5_isNewStart 8 = .ok (.iload_n 2, 1) := by decide +kernel
theorem dX5_isNewStart_9 : decode cX5_isNewStart 9 = .ok (.invokevirtual 55, 3) := by decide +kernel
theorem dX5_isNewStart_12 : decode cX5_isNewStart 12 = .ok (.ifCond .eq 20, 3) := by decide +kernel
theorem dX5_isNewStart_15 : decode cX5_isNewStart 15 = .ok (.aload_n 0, 1) := by decide +kernel
theorem dX5_isNewStart_16 : decode cX5_isNewStart 16 = .ok (.iload_n 2, 1) := by decide +kernel
theorem dX5_isNewStart_17 : decode cX5_isNewStart 17 = .ok (.iconst 0, 1) := by decide +kernel
theorem dX5_isNewStart_18 : decode cX5_isNewStart 18 = .ok (.invokevirtual 34, 3) := by decide +kernel
theorem dX5_isNewStart_21 : decode cX5_isNewStart 21 = .ok (.aload_n 0, 1) := by decide +kernel
theorem dX5_isNewStart_22 : decode cX5_isNewStart 22 = .ok (.iload_n 1, 1) := by decide +kernel
theorem dX5_isNewStart_23 : decode cX5_isNewStart 23 = .ok (.iconst 0, 1) := by decide +kernel
theorem dX5_isNewStart_24 : decode cX5_isNewStart 24 = .ok (.invokevirtual 34, 3) := by decide +kernel
theorem dX5_isNewStart_27 : decode cX5_isNewStart 27 = .ok (.if_icmp .ne 5, 3) := by decide +kernel
theorem dX5_isNewStart_30 : decode cX5_isNewStart 30 = .ok (.iconst 0, 1) := by decide +kernel
theorem dX5_isNewStart_31 : decode cX5_isNewStart 31 = .ok (.ireturn, 1) := by decide +kernel
theorem dX5_isNewStart_32 : decode cX5_isNewStart 32 = .ok (.iinc 2 1, 3) := by decide +kernel
theorem dX5_isNewStart_35 : decode cX5_isNewStart 35 = .ok (.goto (-33), 3) := by decide +kernel
theorem dX5_isNewStart_38 : decode cX5_isNewStart 38 = .ok (.aload_n 0, 1) := by decide +kernel
theorem dX5_isNewStart_39 : decode cX5_isNewStart 39 = .ok (.iload_n 1, 1) := by decide +kernel
theorem dX5_isNewStart_40 : decode cX5_isNewStart 40 = .ok (.invokevirtual 55, 3) := by decide +kernel
theorem dX5_isNewStart_43 : decode cX5_isNewStart 43 = .ok (.ireturn, 1) := by decide +kernel
theorem dX5_spread_0 : decode cX5_spread 0 = .ok (.iconst 0, 1) := by decide +kernel
theorem dX5_spread_1 : decode cX5_spread 1 = .ok (.istore_n 2, 1) := by decide +kernel
theorem dX5_spread_2 : decode cX5_spread 2 = .ok (.iload_n 2, 1) := by decide +kernel
theorem dX5_spread_3 : decode cX5_spread 3 = .ok (.aload_n 0, 1) := by decide +kernel
theorem dX5_spread_4 : decode cX5_spread 4 = .ok (.getfield 23, 3) := by decide +kernel
theorem dX5_spread_7 : decode cX5_spread 7 = .ok (.if_icmp .ge 44, 3) := by decide +kernel
theorem dX5_spread_10 : decode cX5_spread 10 = .ok (.iload_n 2, 1) := by decide +kernel
theorem dX5_spread_11 : decode cX5_spread 11 = .ok (.bipush 10, 2) := by decide +kernel
theorem dX5_spread_13 : decode cX5_spread 13 = .ok (.if_icmp .ge 38, 3) := by decide +kernel
theorem dX5_spread_16 : decode cX5_spread 16 = .ok (.aload_n 0, 1) := by decide +kernel
theorem dX5_spread_17 : decode cX5_spread 17 = .ok (.getfield 15, 3) := by decide +kernel
theorem dX5_spread_20 : decode cX5_spread 20 = .ok (.iload_n 2, 1) := by decide +kernel
theorem dX5_spread_21 : decode cX5_spread 21 = .ok (.aload_n 0, 1) := by decide +kernel
theorem dX5_spread_22 : decode cX5_spread 22 = .ok (.iload_n 2, 1) := by decide +kernel
theorem dX5_spread_23 : decode cX5_spread 23 = .ok (.invokevirtual 55, 3) := by decide +kernel
theorem dX5_spread_26 : decode cX5_spread 26 = .ok (.ifCond .eq 17, 3) := by decide +kernel
theorem dX5_spread_29 : decode cX5_spread 29 = .ok (.aload_n 0, 1) := by decide +kernel
theorem dX5_spread_30 : decode cX5_spread 30 = .ok (.iload_n 2, 1) := by decide +kernel
theorem dX5_spread_31 : decode cX5_spread 31 = .ok (.iconst 0, 1) := by decide +kernel
theorem dX5_spread_32 : decode cX5_spread 32 = .ok (.invokevirtual 34, 3) := by decide +kernel
theorem dX5_spread_35 : decode cX5_spread 35 = .ok (.iload_n 1, 1) := by decide +kernel
theorem dX5_spread_36 : decode cX5_spread 36 = .ok (.if_icmp .ne 7, 3) := by decide +kernel
theorem dX5_spread_39 : decode cX5_spread 39 = .ok (.iconst 1, 1) := by decide +kernel
theorem dX5_spread_40 : decode cX5_spread 40 = .ok (.goto 4, 3) := by decide +kernel
theorem dX5_spread_43 : decode cX5_spread 43 = .ok (.iconst 0, 1) := by decide +kernel
theorem dX5_spread_44 : decode cX5_spread 44 = .ok (.bastore, 1) := by decide +kernel
theorem dX5_spread_45 : decode cX5_spread 45 = .ok (.iinc 2 1, 3) := by decide +kernel
theorem dX5_spread_48 : decode cX5_spread 48 = .ok (.goto (-46), 3) := by decide +kernel
theorem dX5_spread_51 : decode cX5_spread 51 = .ok (.iconst 0, 1) := by decide +kernel
theorem dX5_spread_52 : decode cX5_spread 52 = .ok (.istore_n 2, 1) := by decide +kernel
theorem dX5_spread_53 : decode cX5_spread 53 = .ok (.iload_n 2, 1) := by decide +kernel
theorem dX5_spread_54 : decode cX5_spread 54 = .ok (.aload_n 0, 1) := by decide +kernel
theorem dX5_spread_55 : decode cX5_spread 55 = .ok (.getfield 23, 3) := by decide +kernel
theorem dX5_spread_58 : decode cX5_spread 58 = .ok (.if_icmp .ge 76, 3) := by decide +kernel
theorem dX5_spread_61 : decode cX5_spread 61 = .ok (.iconst 0, 1) := by decide +kernel
theorem dX5_spread_62 : decode cX5_spread 62 = .ok (.istore_n 3, 1) := by decide +kernel
theorem dX5_spread_63 : decode cX5_spread 63 = .ok (.iload_n 3, 1) := by decide +kernel
theorem dX5_spread_64 : decode cX5_spread 64 = .ok (.aload_n 0, 1) := by decide +kernel
theorem dX5_spread_65 : decode cX5_spread 65 = .ok (.getfield 23, 3) := by decide +kernel
theorem dX5_spread_68 : decode cX5_spread 68 = .ok (.if_icmp .ge 60, 3) := by decide +kernel
theorem dX5_spread_71 : decode cX5_spread 71 = .ok (.iload_n 3, 1) := by decide +kernel
theorem dX5_spread_72 : decode cX5_spread 72 = .ok (.bipush 10, 2) := by decide +kernel
theorem dX5_spread_74 : decode cX5_spread 74 = .ok (.if_icmp .ge 54, 3) := by decide +kernel
theorem dX5_spread_77 : decode cX5_spread 77 = .ok (.aload_n 0, 1) := by decide +kernel
theorem dX5_spread_78 : decode cX5_spread 78 = .ok (.getfield 15, 3) := by decide +kernel
theorem dX5_spread_81 : decode cX5_spread 81 = .ok (.iload_n 3, 1) := by decide +kernel
theorem dX5_spread_82 : decode cX5_spread 82 = .ok (.aload_n 0, 1) := by decide +kernel
theorem dX5_spread_83 : decode cX5_spread 83 = .ok (.getfield 15, 3) := by decide +kernel
theorem dX5_spread_86 : decode cX5_spread 86 = .ok (.iload_n 3, 1) := by decide +kernel
theorem dX5_spread_87 : decode cX5_spread 87 = .ok (.baload, 1) := by decide +kernel
theorem dX5_spread_88 : decode cX5_spread 88 = .ok (.ifCond .ne 28, 3) := by decide +kernel
theorem dX5_spread_91 : decode cX5_spread 91 = .ok (.aload_n 0, 1) := by decide +kernel
theorem dX5_spread_92 : decode cX5_spread 92 = .ok (.iload_n 3, 1) := by decide +kernel
theorem dX5_spread_93 : decode cX5_spread 93 = .ok (.invokevirtual 55, 3) := by decide +kernel
theorem dX5_spread_96 : decode cX5_spread 96 = .ok (.ifCond .eq 24, 3) := by decide +kernel
theorem dX5_spread_99 : decode cX5_spread 99 = .ok (.aload_n 0, 1) := by decide +kernel
theorem dX5_spread_100 : decode cX5_spread 100 = .ok (.aload_n 0, 1) := by decide +kernel
theorem dX5_spread_101 : decode cX5_spread 101 = .ok (.iload_n 3, 1) := by decide +kernel
theorem dX5_spread_102 : decode cX5_spread 102 = .ok (.iconst 0, 1) := by decide +kernel
theorem dX5_spread_103 : decode cX5_spread 103 = .ok (.invokevirtual 34, 3) := by decide +kernel
theorem dX5_spread_106 : decode cX5_spread 106 = .ok (.aload_n 0, 1) := by decide +kernel
theorem dX5_spread_107 : decode cX5_spread 107 = .ok (.getfield 23, 3) := by decide +kernel
theorem dX5_spread_110 : decode cX5_spread 110 = .ok (.invokevirtual 58, 3) := by decide +kernel
theorem dX5_spread_113 : decode cX5_spread 113 = .ok (.ifCond .eq 7, 3) := by decide +kernel
theorem dX5_spread_116 : decode cX5_spread 116 = .ok (.iconst 1, 1) := by decide +kernel
theorem dX5_spread_117 : decode cX5_spread 117 = .ok (.goto 4, 3) := by decide +kernel
theorem dX5_spread_120 : decode cX5_spread 120 = .ok (.iconst 0, 1) := by decide +kernel
theorem dX5_spread_121 : decode cX5_spread 121 = .ok (.bastore, 1) := by decide +kernel
theorem dX5_spread_122 : decode cX5_spread 122 = .ok (.iinc 3 1, 3) := by decide +kernel
theorem dX5_spread_125 : decode cX5_spread 125 = .ok (.goto (-62), 3) := by decide +kernel
theorem dX5_spread_128 : decode cX5_spread 128 = .ok (.iinc 2 1, 3) := by decide +kernel
theorem dX5_spread_131 : decode cX5_spread 131 = .ok (.goto (-78), 3) := by decide +kernel
theorem dX5_spread_134 : decode cX5_spread 134 = .ok (.return_, 1) := by decide +kernel
theorem dX5_isReachedEnd_0 : decode cX5_isReachedEnd 0 = .ok (.iconst 0, 1) := by decide +kernel
theorem dX5_isReachedEnd_1 : decode cX5_isReachedEnd 1 = .ok (.istore_n 3, 1) := by decide +kernel
theorem dX5_isReachedEnd_2 : decode cX5_isReachedEnd 2 = .ok (.iload_n 3, 1) := by decide +kernel
theorem dX5_isReachedEnd_3 : decode cX5_isReachedEnd 3 = .ok (.iload_n 2, 1) := by decide +kernel
theorem dX5_isReachedEnd_4 : decode cX5_isReachedEnd 4 = .ok (.if_icmp .ge 36, 3) := by decide +kernel
theorem dX5_isReachedEnd_7 : decode cX5_isReachedEnd 7 = .ok (.iload_n 3, 1) := by decide +kernel
theorem dX5_isReachedEnd_8 : decode cX5_isReachedEnd 8 = .ok (.bipush 10, 2) := by decide +kernel
theorem dX5_isReachedEnd_10 : decode cX5_isReachedEnd 10 = .ok (.if_icmp .ge 30, 3) := by decide +kernel
theorem dX5_isReachedEnd_13 : decode cX5_isReachedEnd 13 = .ok (.aload_n 0, 1) := by decide +kernel
theorem dX5_isReachedEnd_14 : decode cX5_isReachedEnd 14 = .ok (.getfield 15, 3) := by decide +kernel
theorem dX5_isReachedEnd_17 : decode cX5_isReachedEnd 17 = .ok (.iload_n 3, 1) := by decide +kernel
theorem dX5_isReachedEnd_18 : decode cX5_isReachedEnd 18 = .ok (.baload, 1) := by decide +kernel
theorem dX5_isReachedEnd_19 : decode cX5_isReachedEnd 19 = .ok (.ifCond .eq 15, 3) := by decide +kernel
theorem dX5_isReachedEnd_22 : decode cX5_isReachedEnd 22 = .ok (.aload_n 0, 1) := by decide +kernel
theorem dX5_isReachedEnd_23 : decode cX5_isReachedEnd 23 = .ok (.iload_n 3, 1) := by decide +kernel
theorem dX5_isReachedEnd_24 : decode cX5_isReachedEnd 24 = .ok (.iconst 1, 1) := by decide +kernel
theorem dX5_isReachedEnd_25 : decode cX5_isReachedEnd 25 = .ok (.invokevirtual 34, 3) := by decide +kernel
theorem dX5_isReachedEnd_28 : decode cX5_isReachedEnd 28 = .ok (.iload_n 1, 1) := by decide +kernel
theorem dX5_isReachedEnd_29 : decode cX5_isReachedEnd 29 = .ok (.if_icmp .ne 5, 3) := by decide +kernel
theorem dX5_isReachedEnd_32 : decode cX5_isReachedEnd 32 = .ok (.iconst 1, 1) := by decide +kernel
theorem dX5_isReachedEnd_33 : decode cX5_isReachedEnd 33 = .ok (.ireturn, 1) := by decide +kernel
theorem dX5_isReachedEnd_34 : decode cX5_isReachedEnd 34 = .ok (.iinc 3 1, 3) := by decide +kernel
theorem dX5_isReachedEnd_37 : decode cX5_isReachedEnd 37 = .ok (.goto (-35), 3) := by decide +kernel
theorem dX5_isReachedEnd_40 : decode cX5_isReachedEnd 40 = .ok (.iconst 0, 1) := by decide +kernel
theorem dX5_isReachedEnd_41 : decode cX5_isReachedEnd 41 = .ok (.ireturn, 1) := by decide +kernel
theorem dX5_countReachedEnds_0 : decode cX5_countReachedEnds 0 = .ok (.iconst 0, 1) := by decide +kernel
theorem dX5_countReachedEnds_1 : decode cX5_countReachedEnds 1 = .ok (.istore_n 1, 1) := by decide +kernel
theorem dX5_countReachedEnds_2 : decode cX5_countReachedEnds 2 = .ok (.iconst 0, 1) := by decide +kernel
theorem dX5_countReachedEnds_3 : decode cX5_countReachedEnds 3 = .ok (.istore_n 2, 1) := by decide +kernel
theorem dX5_countReachedEnds_4 : decode cX5_countReachedEnds 4 = .ok (.iload_n 2, 1) := by decide +kernel
theorem dX5_countReachedEnds_5 : decode cX5_countReachedEnds 5 = .ok (.aload_n 0, 1) := by decide +kernel
theorem dX5_countReachedEnds_6 : decode cX5_countReachedEnds 6 = .ok (.getfield 23, 3) := by decide +kernel
theorem dX5_countReachedEnds_9 : decode cX5_countReachedEnds 9 = .ok (.if_icmp .ge 41, 3) := by decide +kernel
theorem dX5_countReachedEnds_12 : decode cX5_countReachedEnds 12 = .ok (.iload_n 2, 1) := by decide +kernel
theorem dX5_countReachedEnds_13 : decode cX5_countReachedEnds 13 = .ok (.bipush 10, 2) := by decide +kernel
theorem dX5_countReachedEnds_15 : decode cX5_countReachedEnds 15 = .ok (.if_icmp .ge 35, 3) := by decide +kernel
theorem dX5_countReachedEnds_18 : decode cX5_countReachedEnds 18 = .ok (.aload_n 0, 1) := by decide +kernel
theorem dX5_countReachedEnds_19 : decode cX5_countReachedEnds 19 = .ok (.getfield 15, 3) := by decide +kernel
theorem dX5_countReachedEnds_22 : decode cX5_countReachedEnds 22 = .ok (.iload_n 2, 1) := by decide +kernel
theorem dX5_countReachedEnds_23 : decode cX5_countReachedEnds 23 = .ok (.baload, 1) := by decide +kernel
theorem dX5_countReachedEnds_24 : decode cX5_countReachedEnds 24 = .ok (.ifCond .eq 20, 3) := by decide +kernel
theorem dX5_countReachedEnds_27 : decode cX5_countReachedEnds 27 = .ok (.aload_n 0, 1) := by decide +kernel
theorem dX5_countReachedEnds_28 : decode cX5_countReachedEnds 28 = .ok (.aload_n 0, 1) := by decide +kernel
theorem dX5_countReachedEnds_29 : decode cX5_countReachedEnds 29 = .ok (.iload_n 2, 1) := by decide +kernel
theorem dX5_countReachedEnds_30 : decode cX5_countReachedEnds 30 = .ok (.iconst 1, 1) := by decide +kernel
theorem dX5_countReachedEnds_31 : decode cX5_countReachedEnds 31 = .ok (.invokevirtual 34, 3) := by decide +kernel
theorem dX5_countReachedEnds_34 : decode cX5_countReachedEnds 34 = .ok (.iload_n 2, 1) := by decide +kernel
theorem dX5_countReachedEnds_35 : decode cX5_countReachedEnds 35 = .ok (.invokevirtual 58, 3) := by decide +kernel
theorem dX5_countReachedEnds_38 : decode cX5_countReachedEnds 38 = .ok (.ifCond .ne 6, 3) := by decide +kernel
theorem dX5_countReachedEnds_41 : decode cX5_countReachedEnds 41 = .ok (.iinc 1 1, 3) := by decide +kernel
theorem dX5_countReachedEnds_44 : decode cX5_countReachedEnds 44 = .ok (.iinc 2 1, 3) := by decide +kernel
theorem dX5_countReachedEnds_47 : decode cX5_countReachedEnds 47 = .ok (.goto (-43), 3) := by decide +kernel
theorem dX5_countReachedEnds_50 : decode cX5_countReachedEnds 50 = .ok (.iload_n 1, 1) := by decide +kernel
theorem dX5_countReachedEnds_51 : decode cX5_countReachedEnds 51 = .ok (.ireturn, 1) := by decide +kernel
theorem dX6_init_0 : decode cX6_init 0 = .ok (.aload_n 0, 1) := by decide +kernel
theorem dX6_init_1 : decode cX6_init 1 = .ok (.invokespecial 3, 3) := by decide +kernel
theorem dX6_init_4 : decode cX6_init 4 = .ok (.aload_n 0, 1) := by decide +kernel
theorem dX6_init_5 : decode cX6_init 5 = .ok (.aload_n 1, 1) := by decide +kernel
theorem dX6_init_6 : decode cX6_init 6 = .ok (.putfield 9, 3) := by decide +kernel
theorem dX6_init_9 : decode cX6_init 9 = .ok (.aload_n 0, 1) := by decide +kernel
theorem dX6_init_10 : decode cX6_init 10 = .ok (.iconst 4, 1) := by decide +kernel
theorem dX6_init_11 : decode cX6_init 11 = .ok (.newarray .int, 2) := by decide +kernel
theorem dX6_init_13 : decode cX6_init 13 = .ok (.putfield 15, 3) := by decide +kernel
theorem dX6_init_16 : decode cX6_init 16 = .ok (.aload_n 0, 1) := by decide +kernel
theorem dX6_init_17 : decode cX6_init 17 = .ok (.iconst 4, 1) := by decide +kernel
theorem dX6_init_18 : decode cX6_init 18 = .ok (.newarray .int, 2) := by decide +kernel
theorem dX6_init_20 : decode cX6_init 20 = .ok (.putfield 19, 3) := by decide +kernel
theorem dX6_init_23 : decode cX6_init 23 = .ok (.aload_n 0, 1) := by decide +kernel
theorem dX6_init_24 : decode cX6_init 24 = .ok (.iconst 4, 1) := by decide +kernel
theorem dX6_init_25 : decode cX6_init 25 = .ok (.newarray .int, 2) := by decide +kernel
theorem dX6_init_27 : decode cX6_init 27 = .ok (.putfield 22, 3) := by decide +kernel
theorem dX6_init_30 : decode cX6_init 30 = .ok (.aload_n 0, 1) := by decide +kernel
theorem dX6_init_31 : decode cX6_init 31 = .ok (.iconst 4, 1) := by decide +kernel
theorem dX6_init_32 : decode cX6_init 32 = .ok (.newarray .int, 2) := by decide +kernel
theorem dX6_init_34 : decode cX6_init 34 = .ok (.putfield 25, 3) := by decide +kernel
theorem dX6_init_37 : decode cX6_init 37 = .ok (.return_, 1) := by decide +kernel
theorem dX6_has_0 : decode cX6_has 0 = .ok (.iload_n 1, 1) := by decide +kernel
theorem dX6_has_1 : decode cX6_has 1 = .ok (.ifCond .lt 20, 3) := by decide +kernel
theorem dX6_has_4 : decode cX6_has 4 = .ok (.iload_n 1, 1) := by decide +kernel
theorem dX6_has_5 : decode cX6_has 5 = .ok (.aload_n 0, 1) := by decide +kernel
theorem dX6_has_6 : decode cX6_has 6 = .ok (.getfield 28, 3) := by decide +kernel
theorem dX6_has_9 : decode cX6_has 9 = .ok (.if_icmp .ge 12, 3) := by decide +kernel
theorem dX6_has_12 : decode cX6_has 12 = .ok (.iload_n 1, 1) := by decide +kernel
theorem dX6_has_13 : decode cX6_has 13 = .ok (.iconst 4, 1) := by decide +kernel
theorem dX6_has_14 : decode cX6_has 14 = .ok (.if_icmp .ge 7, 3) := by decide +kernel
theorem dX6_has_17 : decode cX6_has 17 = .ok (.iconst 1, 1) := by decide +kernel
theorem dX6_has_18 : decode cX6_has 18 = .ok (.goto 4, 3) := by decide +kernel
theorem dX6_has_21 : decode cX6_has 21 = .ok (.iconst 0, 1) := by decide +kernel
theorem dX6_has_22 : decode cX6_has 22 = .ok (.ireturn, 1) := by decide +kernel
theorem dX6_hasRows_0 : decode cX6_hasRows 0 = .ok (.aload_n 0, 1) := by decide +kernel
theorem dX6_hasRows_1 : decode cX6_hasRows 1 = .ok (.iload_n 1, 1) := by decide +kernel
theorem dX6_hasRows_2 : decode cX6_hasRows 2 = .ok (.invokevirtual 32, 3) := by decide +kernel
theorem dX6_hasRows_5 : decode cX6_hasRows 5 = .ok (.astore 4, 2) := by decide +kernel
theorem dX6_hasRows_7 : decode cX6_hasRows 7 = .ok (.aload_n 0, 1) := by decide +kernel
theorem dX6_hasRows_8 : decode cX6_hasRows 8 = .ok (.iload_n 1, 1) := by decide +kernel
theorem dX6_hasRows_9 : decode cX6_hasRows 9 = .ok (.invokevirtual 36, 3) := by decide +kernel
theorem dX6_hasRows_12 : decode cX6_hasRows 12 = .ok (.astore 5, 2) := by decide +kernel
theorem dX6_hasRows_14 : decode cX6_hasRows 14 = .ok (.aload 4, 2) := by decide +kernel
theorem dX6_hasRows_16 : decode cX6_hasRows 16 = .ok (.ifnull 30, 3) := by decide +kernel
theorem dX6_hasRows_19 : decode cX6_hasRows 19 = .ok (.aload 5, 2) := by decide +kernel
theorem dX6_hasRows_21 : decode cX6_hasRows 21 = .ok (.ifnull 25, 3) := by decide +kernel
theorem dX6_hasRows_24 : decode cX6_hasRows 24 = .ok (.aload 4, 2) := by decide +kernel
theorem dX6_hasRows_26 : decode cX6_hasRows 26 = .ok (.iload_n 2, 1) := by decide +kernel
theorem dX6_hasRows_27 : decode cX6_hasRows 27 = .ok (.invokevirtual 39, 3) := by decide +kernel
theorem dX6_hasRows_30 : decode cX6_hasRows 30 = .ok (.ifCond .eq 16, 3) := by decide +kernel
theorem dX6_hasRows_33 : decode cX6_hasRows 33 = .ok (.aload 5, 2) := by decide +kernel
theorem dX6_hasRows_35 : decode cX6_hasRows 35 = .ok (.iload_n 3, 1) := by decide +kernel
theorem dX6_hasRows_36 : decode cX6_hasRows 36 = .ok (.invokevirtual 39, 3) := by decide +kernel
theorem dX6_hasRows_39 : decode cX6_hasRows 39 = .ok (.ifCond .eq 7, 3) := by decide +kernel
theorem dX6_hasRows_42 : decode cX6_hasRows 42 = .ok (.iconst 1, 1) := by decide +kernel
theorem dX6_hasRows_43 : decode cX6_hasRows 43 = .ok (.goto 4, 3) := by decide +kernel
theorem dX6_hasRows_46 : decode cX6_hasRows 46 = .ok (.iconst 0, 1) := by decide +kernel
theorem dX6_hasRows_47 : decode cX6_hasRows 47 = .ok (.ireturn, 1) := by decide +kernel
theorem dX6_append_0 : decode cX6_append 0 = .ok (.aload_n 0, 1) := by decide +kernel
theorem dX6_append_1 : decode cX6_append 1 = .ok (.getfield 28, 3) := by decide +kernel
theorem dX6_append_4 : decode cX6_append 4 = .ok (.iconst 4, 1) := by decide +kernel
theorem dX6_append_5 : decode cX6_append 5 = .ok (.if_icmp .lt 5, 3) := by decide +kernel
theorem dX6_append_8 : decode cX6_append 8 = .ok (.iconst (-1), 1) := by decide +kernel
theorem dX6_append_9 : decode cX6_append 9 = .ok (.ireturn, 1) := by decide +kernel
theorem dX6_append_10 : decode cX6_append 10 = .ok (.aload_n 0, 1) := by decide +kernel
theorem dX6_append_11 : decode cX6_append 11 = .ok (.getfield 15, 3) := by decide +kernel
theorem dX6_append_14 : decode cX6_append 14 = .ok (.aload_n 0, 1) := by decide +kernel
theorem dX6_append_15 : decode cX6_append 15 = .ok (.getfield 28, 3) := by decide +kernel
theorem dX6_append_18 : decode cX6_append 18 = .ok (.iload_n 1, 1) := by decide +kernel
theorem dX6_append_19 : decode cX6_append 19 = .ok (.iastore, 1) := by decide +kernel
theorem dX6_append_20 : decode cX6_append 20 = .ok (.aload_n 0, 1) := by decide +kernel
theorem dX6_append_21 : decode cX6_append 21 = .ok (.getfield 19, 3) := by decide +kernel
theorem dX6_append_24 : decode cX6_append 24 = .ok (.aload_n 0, 1) := by decide +kernel
theorem dX6_append_25 : decode cX6_append 25 = .ok (.getfield 28, 3) := by decide +kernel
theorem dX6_append_28 : decode cX6_append 28 = .ok (.iload_n 2, 1) := by decide +kernel
theorem dX6_append_29 : decode cX6_append 29 = .ok (.iastore, 1) := by decide +kernel
theorem dX6_append_30 : decode cX6_append 30 = .ok (.aload_n 0, 1) := by decide +kernel
theorem dX6_append_31 : decode cX6_append 31 = .ok (.getfield 22, 3) := by decide +kernel
theorem dX6_append_34 : decode cX6_append 34 = .ok (.aload_n 0, 1) := by decide +kernel
theorem dX6_append_35 : decode cX6_append 35 = .ok (.getfield 28, 3) := by decide +kernel
theorem dX6_append_38 : decode cX6_append 38 = .ok (.iload_n 3, 1) := by decide +kernel
theorem dX6_append_39 : decode cX6_append 39 = .ok (.iastore, 1) := by decide +kernel
theorem dX6_append_40 : decode cX6_append 40 = .ok (.aload_n 0, 1) := by decide +kernel
theorem dX6_append_41 : decode cX6_append 41 = .ok (.getfield 25, 3) := by decide +kernel
theorem dX6_append_44 : decode cX6_append 44 = .ok (.aload_n 0, 1) := by decide +kernel
theorem dX6_append_45 : decode cX6_append 45 = .ok (.getfield 28, 3) := by decide +kernel
theorem dX6_append_48 : decode cX6_append 48 = .ok (.iload 4, 2) := by decide +kernel
theorem dX6_append_50 : decode cX6_append 50 = .ok (.iastore, 1) := by decide +kernel
theorem dX6_append_51 : decode cX6_append 51 = .ok (.aload_n 0, 1) := by decide +kernel
theorem dX6_append_52 : decode cX6_append 52 = .ok (.dup, 1) := by decide +kernel
theorem dX6_append_53 : decode cX6_append 53 = .ok (.getfield 28, 3) := by decide +kernel
theorem dX6_append_56 : decode cX6_append 56 = .ok (.iconst 1, 1) := by decide +kernel
theorem dX6_append_57 : decode cX6_append 57 = .ok (.iadd, 1) := by decide +kernel
theorem dX6_append_58 : decode cX6_append 58 = .ok (.putfield 28, 3) := by decide +kernel
theorem dX6_append_61 : decode cX6_append 61 = .ok (.aload_n 0, 1) := by decide +kernel
theorem dX6_append_62 : decode cX6_append 62 = .ok (.getfield 28, 3) := by decide +kernel
theorem dX6_append_65 : decode cX6_append 65 = .ok (.iconst 1, 1) := by decide +kernel
theorem dX6_append_66 : decode cX6_append 66 = .ok (.isub, 1) := by decide +kernel
theorem dX6_append_67 : decode cX6_append 67 = .ok (.ireturn, 1) := by decide +kernel
theorem dX6_firstOf_0 : decode cX6_firstOf 0 = .ok (.aload_n 0, 1) := by decide +kernel
theorem dX6_firstOf_1 : decode cX6_firstOf 1 = .ok (.iload_n 1, 1) := by decide +kernel
theorem dX6_firstOf_2 : decode cX6_firstOf 2 = .ok (.invokevirtual 45, 3) := by decide +kernel
theorem dX6_firstOf_5 : decode cX6_firstOf 5 = .ok (.ifCond .eq 19, 3) := by decide +kernel
theorem dX6_firstOf_8 : decode cX6_firstOf 8 = .ok (.aload_n 0, 1) := by decide +kernel
theorem dX6_firstOf_9 : decode cX6_firstOf 9 = .ok (.getfield 9, 3) := by decide +kernel
theorem dX6_firstOf_12 : decode cX6_firstOf 12 = .ok (.aload_n 0, 1) := by decide +kernel
theorem dX6_firstOf_13 : decode cX6_firstOf 13 = .ok (.getfield 15, 3) := by decide +kernel
theorem dX6_firstOf_16 : decode cX6_firstOf 16 = .ok (.iload_n 1, 1) := by decide +kernel
theorem dX6_firstOf_17 : decode cX6_firstOf 17 = .ok (.iaload, 1) := by decide +kernel
theorem dX6_firstOf_18 : decode cX6_firstOf 18 = .ok (.invokevirtual 48, 3) := by decide +kernel
theorem dX6_firstOf_21 : decode cX6_firstOf 21 = .ok (.goto 4, 3) := by decide +kernel
theorem dX6_firstOf_24 : decode cX6_firstOf 24 = .ok (.aconst_null, 1) := by decide +kernel
theorem dX6_firstOf_25 : decode cX6_firstOf 25 = .ok (.areturn, 1) := by decide +kernel
theorem dX6_secondOf_0 : decode cX6_secondOf 0 = .ok (.aload_n 0, 1) := by decide +kernel
theorem dX6_secondOf_1 : decode cX6_secondOf 1 = .ok (.iload_n 1, 1) := by decide +kernel
theorem dX6_secondOf_2 : decode cX6_secondOf 2 = .ok (.invokevirtual 45, 3) := by decide +kernel
theorem dX6_secondOf_5 : decode cX6_secondOf 5 = .ok (.ifCond .eq 19, 3) := by decide +kernel
theorem dX6_secondOf_8 : decode cX6_secondOf 8 = .ok (.aload_n 0, 1) := by decide +kernel
theorem dX6_secondOf_9 : decode cX6_secondOf 9 = .ok (.getfield 9, 3) := by decide +kernel
theorem dX6_secondOf_12 : decode cX6_secondOf 12 = .ok (.aload_n 0, 1) := by decide +kernel
theorem dX6_secondOf_13 : decode cX6_secondOf 13 = .ok (.getfield 19, 3) := by decide +kernel
theorem dX6_secondOf_16 : decode cX6_secondOf 16 = .ok (.iload_n 1, 1) := by decide +kernel
theorem dX6_secondOf_17 : decode cX6_secondOf 17 = .ok (.iaload, 1) := by decide +kernel
theorem dX6_secondOf_18 : decode cX6_secondOf 18 = .ok (.invokevirtual 48, 3) := by decide +kernel
theorem dX6_secondOf_21 : decode cX6_secondOf 21 = .ok (.goto 4, 3) := by decide +kernel
theorem dX6_secondOf_24 : decode cX6_secondOf 24 = .ok (.aconst_null, 1) := by decide +kernel
theorem dX6_secondOf_25 : decode cX6_secondOf 25 = .ok (.areturn, 1) := by decide +kernel
theorem dX6_meet_0 : decode cX6_meet 0 = .ok (.aload_n 0, 1) := by decide +kernel
theorem dX6_meet_1 : decode cX6_meet 1 = .ok (.iload_n 1, 1) := by decide +kernel
theorem dX6_meet_2 : decode cX6_meet 2 = .ok (.invokevirtual 32, 3) := by decide +kernel
theorem dX6_meet_5 : decode cX6_meet 5 = .ok (.astore 4, 2) := by decide +kernel
theorem dX6_meet_7 : decode cX6_meet 7 = .ok (.aload_n 0, 1) := by decide +kernel
theorem dX6_meet_8 : decode cX6_meet 8 = .ok (.iload_n 1, 1) := by decide +kernel
theorem dX6_meet_9 : decode cX6_meet 9 = .ok (.invokevirtual 36, 3) := by decide +kernel
theorem dX6_meet_12 : decode cX6_meet 12 = .ok (.astore 5, 2) := by decide +kernel
theorem dX6_meet_14 : decode cX6_meet 14 = .ok (.aload_n 0, 1) := by decide +kernel
theorem dX6_meet_15 : decode cX6_meet 15 = .ok (.iload_n 1, 1) := by decide +kernel
theorem dX6_meet_16 : decode cX6_meet 16 = .ok (.invokevirtual 45, 3) := by decide +kernel
theorem dX6_meet_19 : decode cX6_meet 19 = .ok (.ifCond .eq 13, 3) := by decide +kernel
theorem dX6_meet_22 : decode cX6_meet 22 = .ok (.aload 4, 2) := by decide +kernel
theorem dX6_meet_24 : decode cX6_meet 24 = .ok (.ifnull 8, 3) := by decide +kernel
theorem dX6_meet_27 : decode cX6_meet 27 = .ok (.aload 5, 2) := by decide +kernel
theorem dX6_meet_29 : decode cX6_meet 29 = .ok (.ifnonnull 5, 3) := by decide +kernel
theorem dX6_meet_32 : decode cX6_meet 32 = .ok (.iconst 0, 1) := by decide +kernel
theorem dX6_meet_33 : decode cX6_meet 33 = .ok (.ireturn, 1) := by decide +kernel
theorem dX6_meet_34 : decode cX6_meet 34 = .ok (.aload 4, 2) := by decide +kernel
theorem dX6_meet_36 : decode cX6_meet 36 = .ok (.iload_n 2, 1) := by decide +kernel
theorem dX6_meet_37 : decode cX6_meet 37 = .ok (.aload_n 0, 1) := by decide +kernel
theorem dX6_meet_38 : decode cX6_meet 38 = .ok (.getfield 22, 3) := by decide +kernel
theorem dX6_meet_41 : decode cX6_meet 41 = .ok (.iload_n 1, 1) := by decide +kernel
theorem dX6_meet_42 : decode cX6_meet 42 = .ok (.iaload, 1) := by decide +kernel
theorem dX6_meet_43 : decode cX6_meet 43 = .ok (.invokevirtual 53, 3) := by decide +kernel
theorem dX6_meet_46 : decode cX6_meet 46 = .ok (.aload 5, 2) := by decide +kernel
theorem dX6_meet_48 : decode cX6_meet 48 = .ok (.iload_n 3, 1) := by decide +kernel
theorem dX6_meet_49 : decode cX6_meet 49 = .ok (.aload_n 0, 1) := by decide +kernel
theorem dX6_meet_50 : decode cX6_meet 50 = .ok (.getfield 25, 3) := by decide +kernel
theorem dX6_meet_53 : decode cX6_meet 53 = .ok (.iload_n 1, 1) := by decide +kernel
theorem dX6_meet_54 : decode cX6_meet 54 = .ok (.iaload, 1) := by decide +kernel
theorem dX6_meet_55 : decode cX6_meet 55 = .ok (.invokevirtual 53, 3) := by decide +kernel
theorem dX6_meet_58 : decode cX6_meet 58 = .ok (.invokestatic 57, 3) := by decide +kernel
theorem dX6_meet_61 : decode cX6_meet 61 = .ok (.ireturn, 1) := by decide +kernel
theorem dX6_timesOf_0 : decode cX6_timesOf 0 = .ok (.aload_n 0, 1) := by decide +kernel
theorem dX6_timesOf_1 : decode cX6_timesOf 1 = .ok (.iload_n 1, 1) := by decide +kernel
theorem dX6_timesOf_2 : decode cX6_timesOf 2 = .ok (.invokevirtual 32, 3) := by decide +kernel
theorem dX6_timesOf_5 : decode cX6_timesOf 5 = .ok (.astore 4, 2) := by decide +kernel
theorem dX6_timesOf_7 : decode cX6_timesOf 7 = .ok (.aload_n 0, 1) := by decide +kernel
theorem dX6_timesOf_8 : decode cX6_timesOf 8 = .ok (.iload_n 1, 1) := by decide +kernel
theorem dX6_timesOf_9 : decode cX6_timesOf 9 = .ok (.invokevirtual 36, 3) := by decide +kernel
theorem dX6_timesOf_12 : decode cX6_timesOf 12 = .ok (.astore 5, 2) := by decide +kernel
theorem dX6_timesOf_14 : decode cX6_timesOf 14 = .ok (.aload 4, 2) := by decide +kernel
theorem dX6_timesOf_16 : decode cX6_timesOf 16 = .ok (.ifnull 18, 3) := by decide +kernel
theorem dX6_timesOf_19 : decode cX6_timesOf 19 = .ok (.aload 5, 2) := by decide +kernel
theorem dX6_timesOf_21 : decode cX6_timesOf 21 = .ok (.ifnull 13, 3) := by decide +kernel
theorem dX6_timesOf_24 : decode cX6_timesOf 24 = .ok (.aload_n 0, 1) := by decide +kernel
theorem dX6_timesOf_25 : decode cX6_timesOf 25 = .ok (.iload_n 1, 1) := by decide +kernel
theorem dX6_timesOf_26 : decode cX6_timesOf 26 = .ok (.iload_n 2, 1) := by decide +kernel
theorem dX6_timesOf_27 : decode cX6_timesOf 27 = .ok (.iload_n 3, 1) := by decide +kernel
theorem dX6_timesOf_28 : decode cX6_timesOf 28 = .ok (.invokevirtual 61, 3) := by decide +kernel
theorem dX6_timesOf_31 : decode cX6_timesOf 31 = .ok (.ifCond .ne 5, 3) := by decide +kernel
theorem dX6_timesOf_34 : decode cX6_timesOf 34 = .ok (.iconst 0, 1) := by decide +kernel
theorem dX6_timesOf_35 : decode cX6_timesOf 35 = .ok (.ireturn, 1) := by decide +kernel
theorem dX6_timesOf_36 : decode cX6_timesOf 36 = .ok (.aload 4, 2) := by decide +kernel
theorem dX6_timesOf_38 : decode cX6_timesOf 38 = .ok (.iload_n 2, 1) := by decide +kernel
theorem dX6_timesOf_39 : decode cX6_timesOf 39 = .ok (.invokevirtual 65, 3) := by decide +kernel
theorem dX6_timesOf_42 : decode cX6_timesOf 42 = .ok (.aload 5, 2) := by decide +kernel
theorem dX6_timesOf_44 : decode cX6_timesOf 44 = .ok (.iload_n 3, 1) := by decide +kernel
theorem dX6_timesOf_45 : decode cX6_timesOf 45 = .ok (.invokevirtual 65, 3) := by decide +kernel
theorem dX6_timesOf_48 : decode cX6_timesOf 48 = .ok (.imul, 1) := by decide +kernel
theorem dX6_timesOf_49 : decode cX6_timesOf 49 = .ok (.ireturn, 1) := by decide +kernel
theorem dX6_differentRows_0 : decode cX6_differentRows 0 = .ok (.aload_n 0, 1) := by decide +kernel
theorem dX6_differentRows_1 : decode cX6_differentRows 1 = .ok (.iload_n 1, 1) := by decide +kernel
theorem dX6_differentRows_2 : decode cX6_differentRows 2 = .ok (.invokevirtual 32, 3) := by decide +kernel
theorem dX6_differentRows_5 : decode cX6_differentRows 5 = .ok (.astore_n 2, 1) := by decide +kernel
theorem dX6_differentRows_6 : decode cX6_differentRows 6 = .ok (.iconst 0, 1) := by decide +kernel
theorem dX6_differentRows_7 : decode cX6_differentRows 7 = .ok (.istore_n 3, 1) := by decide +kernel
theorem dX6_differentRows_8 : decode cX6_differentRows 8 = .ok (.iconst 0, 1) := by decide +kernel
theorem dX6_differentRows_9 : decode cX6_differentRows 9 = .ok (.istore 4, 2) := by decide +kernel
theorem dX6_differentRows_11 : decode cX6_differentRows 11 = .ok (.aload_n 2, 1) := by decide +kernel
theorem dX6_differentRows_12 : decode cX6_differentRows 12 = .ok (.ifnull 37, 3) := by decide +kernel
theorem dX6_differentRows_15 : decode cX6_differentRows 15 = .ok (.iload 4, 2) := by decide +kernel
theorem dX6_differentRows_17 : decode cX6_differentRows 17 = .ok (.aload_n 2, 1) := by decide +kernel
theorem dX6_differentRows_18 : decode cX6_differentRows 18 = .ok (.invokevirtual 69, 3) := by decide +kernel
theorem dX6_differentRows_21 : decode cX6_differentRows 21 = .ok (.if_icmp .ge 28, 3) := by decide +kernel
theorem dX6_differentRows_24 : decode cX6_differentRows 24 = .ok (.aload_n 2, 1) := by decide +kernel
theorem dX6_differentRows_25 : decode cX6_differentRows 25 = .ok (.iload 4, 2) := by decide +kernel
theorem dX6_differentRows_27 : decode cX6_differentRows 27 = .ok (.invokevirtual 72, 3) := by decide +kernel
theorem dX6_differentRows_30 : decode cX6_differentRows 30 = .ok (.ifCond .eq 13, 3) := by decide +kernel
theorem dX6_differentRows_33 : decode cX6_differentRows 33 = .ok (.iload_n 3, 1) := by decide +kernel
theorem dX6_differentRows_34 : decode cX6_differentRows 34 = .ok (.aload_n 0, 1) := by decide +kernel
theorem dX6_differentRows_35 : decode cX6_differentRows 35 = .ok (.iload_n 1, 1) := by decide +kernel
theorem dX6_differentRows_36 : decode cX6_differentRows 36 = .ok (.iload 4, 2) := by decide +kernel
theorem dX6_differentRows_38 : decode cX6_differentRows 38 = .ok (.invokevirtual 75, 3) := by decide +kernel
theorem dX6_differentRows_41 : decode cX6_differentRows 41 = .ok (.iadd, 1) := by decide +kernel
theorem dX6_differentRows_42 : decode cX6_differentRows 42 = .ok (.istore_n 3, 1) := by decide +kernel
theorem dX6_differentRows_43 : decode cX6_differentRows 43 = .ok (.iinc 4 1, 3) := by decide +kernel
theorem dX6_differentRows_46 : decode cX6_differentRows 46 = .ok (.goto (-35), 3) := by decide +kernel
theorem dX6_differentRows_49 : decode cX6_differentRows 49 = .ok (.iload_n 3, 1) := by decide +kernel
theorem dX6_differentRows_50 : decode cX6_differentRows 50 = .ok (.ireturn, 1) := by decide +kernel
theorem dX6_countPartners_0 : decode cX6_countPartners 0 = .ok (.aload_n 0, 1) := by decide +kernel
theorem dX6_countPartners_1 : decode cX6_countPartners 1 = .ok (.iload_n 1, 1) := by decide +kernel
theorem dX6_countPartners_2 : decode cX6_countPartners 2 = .ok (.invokevirtual 36, 3) := by decide +kernel
theorem dX6_countPartners_5 : decode cX6_countPartners 5 = .ok (.astore_n 3, 1) := by decide +kernel
theorem dX6_countPartners_6 : decode cX6_countPartners 6 = .ok (.iconst 0, 1) := by decide +kernel
theorem dX6_countPartners_7 : decode cX6_countPartners 7 = .ok (.istore 4, 2) := by decide +kernel
theorem dX6_countPartners_9 : decode cX6_countPartners 9 = .ok (.iconst 0, 1) := by decide +kernel
theorem dX6_countPartners_10 : decode cX6_countPartners 10 = .ok (.istore 5, 2) := by decide +kernel
theorem dX6_countPartners_12 : decode cX6_countPartners 12 = .ok (.aload_n 3, 1) := by decide +kernel
theorem dX6_countPartners_13 : decode cX6_countPartners 13 = .ok (.ifnull 41, 3) := by decide +kernel
theorem dX6_countPartners_16 : decode cX6_countPartners 16 = .ok (.iload 5, 2) := by decide +kernel
theorem dX6_countPartners_18 : decode cX6_countPartners 18 = .ok (.aload_n 3, 1) := by decide +kernel
theorem dX6_countPartners_19 : decode cX6_countPartners 19 = .ok (.invokevirtual 69, 3) := by decide +kernel
theorem dX6_countPartners_22 : decode cX6_countPartners 22 = .ok (.if_icmp .ge 32, 3) := by decide +kernel
theorem dX6_countPartners_25 : decode cX6_countPartners 25 = .ok (.aload_n 3, 1) := by decide +kernel
theorem dX6_countPartners_26 : decode cX6_countPartners 26 = .ok (.iload 5, 2) := by decide +kernel
theorem dX6_countPartners_28 : decode cX6_countPartners 28 = .ok (.invokevirtual 72, 3) := by decide +kernel
theorem dX6_countPartners_31 : decode cX6_countPartners 31 = .ok (.ifCond .eq 17, 3) := by decide +kernel
theorem dX6_countPartners_34 : decode cX6_countPartners 34 = .ok (.aload_n 0, 1) := by decide +kernel
theorem dX6_countPartners_35 : decode cX6_countPartners 35 = .ok (.iload_n 1, 1) := by decide +kernel
theorem dX6_countPartners_36 : decode cX6_countPartners 36 = .ok (.iload_n 2, 1) := by decide +kernel
theorem dX6_countPartners_37 : decode cX6_countPartners 37 = .ok (.iload 5, 2) := by decide +kernel
theorem dX6_countPartners_39 : decode cX6_countPartners 39 = .ok (.invokevirtual 61, 3) := by decide +kernel
theorem dX6_countPartners_42 : decode cX6_countPartners 42 = .ok (.ifCond .eq 6, 3) := by decide +kernel
theorem dX6_countPartners_45 : decode cX6_countPartners 45 = .ok (.iinc 4 1, 3) := by decide +kernel
theorem dX6_countPartners_48 : decode cX6_countPartners 48 = .ok (.iinc 5 1, 3) := by decide +kernel
theorem dX6_countPartners_51 : decode cX6_countPartners 51 = .ok (.goto (-39), 3) := by decide +kernel
theorem dX6_countPartners_54 : decode cX6_countPartners 54 = .ok (.iload 4, 2) := by decide +kernel
theorem dX6_countPartners_56 : decode cX6_countPartners 56 = .ok (.ireturn, 1) := by decide +kernel
theorem dX7_init_0 : decode cX7_init 0 = .ok (.aload_n 0, 1) := by decide +kernel
theorem dX7_init_1 : decode cX7_init 1 = .ok (.invokespecial 1, 3) := by decide +kernel
theorem dX7_init_4 : decode cX7_init 4 = .ok (.aload_n 0, 1) := by decide +kernel
theorem dX7_init_5 : decode cX7_init 5 = .ok (.new 7, 3) := by decide +kernel
theorem dX7_init_8 : decode cX7_init 8 = .ok (.dup, 1) := by decide +kernel
theorem dX7_init_9 : decode cX7_init 9 = .ok (.invokespecial 9, 3) := by decide +kernel
theorem dX7_init_12 : decode cX7_init 12 = .ok (.putfield 10, 3) := by decide +kernel
theorem dX7_init_15 : decode cX7_init 15 = .ok (.aload_n 0, 1) := by decide +kernel
theorem dX7_init_16 : decode cX7_init 16 = .ok (.new 16, 3) := by decide +kernel
theorem dX7_init_19 : decode cX7_init 19 = .ok (.dup, 1) := by decide +kernel
theorem dX7_init_20 : decode cX7_init 20 = .ok (.aload_n 0, 1) := by decide +kernel
theorem dX7_init_21 : decode cX7_init 21 = .ok (.getfield 10, 3) := by decide +kernel
theorem dX7_init_24 : decode cX7_init 24 = .ok (.invokespecial 18, 3) := by decide +kernel
theorem dX7_init_27 : decode cX7_init 27 = .ok (.putfield 21, 3) := by decide +kernel
theorem dX7_init_30 : decode cX7_init 30 = .ok (.aload_n 0, 1) := by decide +kernel
theorem dX7_init_31 : decode cX7_init 31 = .ok (.new 25, 3) := by decide +kernel
theorem dX7_init_34 : decode cX7_init 34 = .ok (.dup, 1) := by decide +kernel
theorem dX7_init_35 : decode cX7_init 35 = .ok (.aload_n 0, 1) := by decide +kernel
theorem dX7_init_36 : decode cX7_init 36 = .ok (.getfield 10, 3) := by decide +kernel
theorem dX7_init_39 : decode cX7_init 39 = .ok (.aload_n 0, 1) := by decide +kernel
theorem dX7_init_40 : decode cX7_init 40 = .ok (.getfield 21, 3) := by decide +kernel
theorem dX7_init_43 : decode cX7_init 43 = .ok (.invokespecial 27, 3) := by decide +kernel
theorem dX7_init_46 : decode cX7_init 46 = .ok (.putfield 30, 3) := by decide +kernel
theorem dX7_init_49 : decode cX7_init 49 = .ok (.aload_n 0, 1) := by decide +kernel
theorem dX7_init_50 : decode cX7_init 50 = .ok (.new 34, 3) := by decide +kernel
theorem dX7_init_53 : decode cX7_init 53 = .ok (.dup, 1) := by decide +kernel
theorem dX7_init_54 : decode cX7_init 54 = .ok (.aload_n 0, 1) := by decide +kernel
theorem dX7_init_55 : decode cX7_init 55 = .ok (.getfield 21, 3) := by decide +kernel
theorem dX7_init_58 : decode cX7_init 58 = .ok (.invokespecial 36, 3) := by decide +kernel
theorem dX7_init_61 : decode cX7_init 61 = .ok (.putfield 39, 3) := by decide +kernel
theorem dX7_init_64 : decode cX7_init 64 = .ok (.aload_n 0, 1) := by decide +kernel
theorem dX7_init_65 : decode cX7_init 65 = .ok (.new 43, 3) := by decide +kernel
theorem dX7_init_68 : decode cX7_init 68 = .ok (.dup, 1) := by decide +kernel
theorem dX7_init_69 : decode cX7_init 69 = .ok (.aload_n 0, 1) := by decide +kernel
theorem dX7_init_70 : decode cX7_init 70 = .ok (.getfield 10, 3) := by decide +kernel
theorem dX7_init_73 : decode cX7_init 73 = .ok (.invokespecial 45, 3) := by decide +kernel
theorem dX7_init_76 : decode cX7_init 76 = .ok (.putfield 46, 3) := by decide +kernel
theorem dX7_init_79 : decode cX7_init 79 = .ok (.aload_n 0, 1) := by decide +kernel
theorem dX7_init_80 : decode cX7_init 80 = .ok (.new 50, 3) := by decide +kernel
theorem dX7_init_83 : decode cX7_init 83 = .ok (.dup, 1) := by decide +kernel
theorem dX7_init_84 : decode cX7_init 84 = .ok (.aload_n 0, 1) := by decide +kernel
theorem dX7_init_85 : decode cX7_init 85 = .ok (.getfield 10, 3) := by decide +kernel
theorem dX7_init_88 : decode cX7_init 88 = .ok (.invokespecial 52, 3) := by decide +kernel
theorem dX7_init_91 : decode cX7_init 91 = .ok (.putfield 53, 3) := by decide +kernel
theorem dX7_init_94 : decode cX7_init 94 = .ok (.aload_n 0, 1) := by decide +kernel
theorem dX7_init_95 : decode cX7_init 95 = .ok (.ldc 57, 2) := by decide +kernel
theorem dX7_init_97 : decode cX7_init 97 = .ok (.putfield 58, 3) := by decide +kernel
theorem dX7_init_100 : decode cX7_init 100 = .ok (.return_, 1) := by decide +kernel
theorem dX7_table_0 : decode cX7_table 0 = .ok (.iload_n 1, 1) := by decide +kernel
theorem dX7_table_1 : decode cX7_table 1 = .ok (.iconst 1, 1) := by decide +kernel
theorem dX7_table_2 : decode cX7_table 2 = .ok (.if_icmp .lt 8, 3) := by decide +kernel
theorem dX7_table_5 : decode cX7_table 5 = .ok (.iload_n 1, 1) := by decide +kernel
theorem dX7_table_6 : decode cX7_table 6 = .ok (.iconst 3, 1) := by decide +kernel
theorem dX7_table_7 : decode cX7_table 7 = .ok (.if_icmp .le 13, 3) := by decide +kernel
theorem dX7_table_10 : decode cX7_table 10 = .ok (.new 62, 3) := by decide +kernel
theorem dX7_table_13 : decode cX7_table 13 = .ok (.dup, 1) := by decide +kernel
theorem dX7_table_14 : decode cX7_table 14 = .ok (.ldc 64, 2) := by decide +kernel
theorem dX7_table_16 : decode cX7_table 16 = .ok (.invokespecial 66, 3) := by decide +kernel
theorem dX7_table_19 : decode cX7_table 19 = .ok (.athrow, 1) := by decide +kernel
theorem dX7_table_20 : decode cX7_table 20 = .ok (.aload_n 0, 1) := by decide +kernel
theorem dX7_table_21 : decode cX7_table 21 = .ok (.getfield 10, 3) := by decide +kernel
theorem dX7_table_24 : decode cX7_table 24 = .ok (.iload_n 1, 1) := by decide +kernel
theorem dX7_table_25 : decode cX7_table 25 = .ok (.invokevirtual 69, 3) := by decide +kernel
theorem dX7_table_28 : decode cX7_table 28 = .ok (.istore_n 2, 1) := by decide +kernel
theorem dX7_table_29 : decode cX7_table 29 = .ok (.iload_n 2, 1) := by decide +kernel
theorem dX7_table_30 : decode cX7_table 30 = .ok (.iconst (-1), 1) := by decide +kernel
theorem dX7_table_31 : decode cX7_table 31 = .ok (.if_icmp .ne 13, 3) := by decide +kernel
theorem dX7_table_34 : decode cX7_table 34 = .ok (.new 73, 3) := by decide +kernel
theorem dX7_table_37 : decode cX7_table 37 = .ok (.dup, 1) := by decide +kernel
theorem dX7_table_38 : decode cX7_table 38 = .ok (.ldc 75, 2) := by decide +kernel
theorem dX7_table_40 : decode cX7_table 40 = .ok (.invokespecial 77, 3) := by decide +kernel
theorem dX7_table_43 : decode cX7_table 43 = .ok (.athrow, 1) := by decide +kernel
theorem dX7_table_44 : decode cX7_table 44 = .ok (.iload_n 2, 1) := by decide +kernel
theorem dX7_table_45 : decode cX7_table 45 = .ok (.ireturn, 1) := by decide +kernel
theorem dX7_add_0 : decode cX7_add 0 = .ok (.aload_n 0, 1) := by decide +kernel
theorem dX7_add_1 : decode cX7_add 1 = .ok (.getfield 10, 3) := by decide +kernel
theorem dX7_add_4 : decode cX7_add 4 = .ok (.iload_n 1, 1) := by decide +kernel
theorem dX7_add_5 : decode cX7_add 5 = .ok (.invokevirtual 78, 3) := by decide +kernel
theorem dX7_add_8 : decode cX7_add 8 = .ok (.astore 5, 2) := by decide +kernel
theorem dX7_add_10 : decode cX7_add 10 = .ok (.aload 5, 2) := by decide +kernel
theorem dX7_add_12 : decode cX7_add 12 = .ok (.ifnonnull 13, 3) := by decide +kernel
theorem dX7_add_15 : decode cX7_add 15 = .ok (.new 82, 3) := by decide +kernel
theorem dX7_add_18 : decode cX7_add 18 = .ok (.dup, 1) := by decide +kernel
theorem dX7_add_19 : decode cX7_add 19 = .ok (.ldc 84, 2) := by decide +kernel
theorem dX7_add_21 : decode cX7_add 21 = .ok (.invokespecial 86, 3) := by decide +kernel
theorem dX7_add_24 : decode cX7_add 24 = .ok (.athrow, 1) := by decide +kernel
theorem dX7_add_25 : decode cX7_add 25 = .ok (.aload 5, 2) := by decide +kernel
theorem dX7_add_27 : decode cX7_add 27 = .ok (.iload_n 2, 1) := by decide +kernel
theorem dX7_add_28 : decode cX7_add 28 = .ok (.iload_n 3, 1) := by decide +kernel
theorem dX7_add_29 : decode cX7_add 29 = .ok (.iload 4, 2) := by decide +kernel
theorem dX7_add_31 : decode cX7_add 31 = .ok (.invokevirtual 87, 3) := by decide +kernel
theorem dX7_add_34 : decode cX7_add 34 = .ok (.ifCond .ne 13, 3) := by decide +kernel
theorem dX7_add_37 : decode cX7_add 37 = .ok (.new 62, 3) := by decide +kernel
theorem dX7_add_40 : decode cX7_add 40 = .ok (.dup, 1) := by decide +kernel
theorem dX7_add_41 : decode cX7_add 41 = .ok (.ldc 93, 2) := by decide +kernel
theorem dX7_add_43 : decode cX7_add 43 = .ok (.invokespecial 66, 3) := by decide +kernel
theorem dX7_add_46 : decode cX7_add 46 = .ok (.athrow, 1) := by decide +kernel
theorem dX7_add_47 : decode cX7_add 47 = .ok (.aload 5, 2) := by decide +kernel
theorem dX7_add_49 : decode cX7_add 49 = .ok (.invokevirtual 95, 3) := by decide +kernel
theorem dX7_add_52 : decode cX7_add 52 = .ok (.ifCond .eq 13, 3) := by decide +kernel
theorem dX7_add_55 : decode cX7_add 55 = .ok (.new 73, 3) := by decide +kernel
theorem dX7_add_58 : decode cX7_add 58 = .ok (.dup, 1) := by decide +kernel
theorem dX7_add_59 : decode cX7_add 59 = .ok (.ldc 99, 2) := by decide +kernel
theorem dX7_add_61 : decode cX7_add 61 = .ok (.invokespecial 77, 3) := by decide +kernel
theorem dX7_add_64 : decode cX7_add 64 = .ok (.athrow, 1) := by decide +kernel
theorem dX7_add_65 : decode cX7_add 65 = .ok (.aload 5, 2) := by decide +kernel
theorem dX7_add_67 : decode cX7_add 67 = .ok (.iload_n 2, 1) := by decide +kernel
theorem dX7_add_68 : decode cX7_add 68 = .ok (.iload_n 3, 1) := by decide +kernel
theorem dX7_add_69 : decode cX7_add 69 = .ok (.iload 4, 2) := by decide +kernel
theorem dX7_add_71 : decode cX7_add 71 = .ok (.invokevirtual 101, 3) := by decide +kernel
theorem dX7_add_74 : decode cX7_add 74 = .ok (.aload_n 0, 1) := by decide +kernel
theorem dX7_add_75 : decode cX7_add 75 = .ok (.getfield 10, 3) := by decide +kernel
theorem dX7_add_78 : decode cX7_add 78 = .ok (.invokevirtual 105, 3) := by decide +kernel
theorem dX7_add_81 : decode cX7_add 81 = .ok (.aload 5, 2) := by decide +kernel
theorem dX7_add_83 : decode cX7_add 83 = .ok (.invokevirtual 108, 3) := by decide +kernel
theorem dX7_add_86 : decode cX7_add 86 = .ok (.ireturn, 1) := by decide +kernel
theorem dX7_take_0 : decode cX7_take 0 = .ok (.aload_n 0, 1) := by decide +kernel
theorem dX7_take_1 : decode cX7_take 1 = .ok (.getfield 10, 3) := by decide +kernel
theorem dX7_take_4 : decode cX7_take 4 = .ok (.iload_n 1, 1) := by decide +kernel
theorem dX7_take_5 : decode cX7_take 5 = .ok (.invokevirtual 78, 3) := by decide +kernel
theorem dX7_take_8 : decode cX7_take 8 = .ok (.astore_n 3, 1) := by decide +kernel
theorem dX7_take_9 : decode cX7_take 9 = .ok (.aload_n 3, 1) := by decide +kernel
theorem dX7_take_10 : decode cX7_take 10 = .ok (.ifnull 11, 3) := by decide +kernel
theorem dX7_take_13 : decode cX7_take 13 = .ok (.aload_n 3, 1) := by decide +kernel
theorem dX7_take_14 : decode cX7_take 14 = .ok (.iload_n 2, 1) := by decide +kernel
theorem dX7_take_15 : decode cX7_take 15 = .ok (.invokevirtual 112, 3) := by decide +kernel
theorem dX7_take_18 : decode cX7_take 18 = .ok (.ifCond .ne 13, 3) := by decide +kernel
theorem dX7_take_21 : decode cX7_take 21 = .ok (.new 82, 3) := by decide +kernel
theorem dX7_take_24 : decode cX7_take 24 = .ok (.dup, 1) := by decide +kernel
theorem dX7_take_25 : decode cX7_take 25 = .ok (.ldc 116, 2) := by decide +kernel
theorem dX7_take_27 : decode cX7_take 27 = .ok (.invokespecial 86, 3) := by decide +kernel
theorem dX7_take_30 : decode cX7_take 30 = .ok (.athrow, 1) := by decide +kernel
theorem dX7_take_31 : decode cX7_take 31 = .ok (.aload_n 3, 1) := by decide +kernel
theorem dX7_take_32 : decode cX7_take 32 = .ok (.iload_n 2, 1) := by decide +kernel
theorem dX7_take_33 : decode cX7_take 33 = .ok (.invokevirtual 118, 3) := by decide +kernel
theorem dX7_take_36 : decode cX7_take 36 = .ok (.aload_n 0, 1) := by decide +kernel
theorem dX7_take_37 : decode cX7_take 37 = .ok (.getfield 10, 3) := by decide +kernel
theorem dX7_take_40 : decode cX7_take 40 = .ok (.invokevirtual 105, 3) := by decide +kernel
theorem dX7_take_43 : decode cX7_take 43 = .ok (.aload_n 3, 1) := by decide +kernel
theorem dX7_take_44 : decode cX7_take 44 = .ok (.invokevirtual 108, 3) := by decide +kernel
theorem dX7_take_47 : decode cX7_take 47 = .ok (.ireturn, 1) := by decide +kernel
theorem dX7_scan_0 : decode cX7_scan 0 = .ok (.aload_n 0, 1) := by decide +kernel
theorem dX7_scan_1 : decode cX7_scan 1 = .ok (.getfield 10, 3) := by decide +kernel
theorem dX7_scan_4 : decode cX7_scan 4 = .ok (.iload_n 1, 1) := by decide +kernel
theorem dX7_scan_5 : decode cX7_scan 5 = .ok (.invokevirtual 78, 3) := by decide +kernel
theorem dX7_scan_8 : decode cX7_scan 8 = .ok (.ifnonnull 13, 3) := by decide +kernel
theorem dX7_scan_11 : decode cX7_scan 11 = .ok (.new 82, 3) := by decide +kernel
theorem dX7_scan_14 : decode cX7_scan 14 = .ok (.dup, 1) := by decide +kernel
theorem dX7_scan_15 : decode cX7_scan 15 = .ok (.ldc 84, 2) := by decide +kernel
theorem dX7_scan_17 : decode cX7_scan 17 = .ok (.invokespecial 86, 3) := by decide +kernel
theorem dX7_scan_20 : decode cX7_scan 20 = .ok (.athrow, 1) := by decide +kernel
theorem dX7_scan_21 : decode cX7_scan 21 = .ok (.aload_n 0, 1) := by decide +kernel
theorem dX7_scan_22 : decode cX7_scan 22 = .ok (.getfield 21, 3) := by decide +kernel
theorem dX7_scan_25 : decode cX7_scan 25 = .ok (.iconst 0, 1) := by decide +kernel
theorem dX7_scan_26 : decode cX7_scan 26 = .ok (.iload_n 1, 1) := by decide +kernel
theorem dX7_scan_27 : decode cX7_scan 27 = .ok (.iconst (-1), 1) := by decide +kernel
theorem dX7_scan_28 : decode cX7_scan 28 = .ok (.iconst 0, 1) := by decide +kernel
theorem dX7_scan_29 : decode cX7_scan 29 = .ok (.iconst 0, 1) := by decide +kernel
theorem dX7_scan_30 : decode cX7_scan 30 = .ok (.iconst 0, 1) := by decide +kernel
theorem dX7_scan_31 : decode cX7_scan 31 = .ok (.invokevirtual 122, 3) := by decide +kernel
theorem dX7_scan_34 : decode cX7_scan 34 = .ok (.istore_n 2, 1) := by decide +kernel
theorem dX7_scan_35 : decode cX7_scan 35 = .ok (.iload_n 2, 1) := by decide +kernel
theorem dX7_scan_36 : decode cX7_scan 36 = .ok (.iconst (-1), 1) := by decide +kernel
theorem dX7_scan_37 : decode cX7_scan 37 = .ok (.if_icmp .ne 13, 3) := by decide +kernel
theorem dX7_scan_40 : decode cX7_scan 40 = .ok (.new 73, 3) := by decide +kernel
theorem dX7_scan_43 : decode cX7_scan 43 = .ok (.dup, 1) := by decide +kernel
theorem dX7_scan_44 : decode cX7_scan 44 = .ok (.ldc 126, 2) := by decide +kernel
theorem dX7_scan_46 : decode cX7_scan 46 = .ok (.invokespecial 77, 3) := by decide +kernel
theorem dX7_scan_49 : decode cX7_scan 49 = .ok (.athrow, 1) := by decide +kernel
theorem dX7_scan_50 : decode cX7_scan 50 = .ok (.iload_n 2, 1) := by decide +kernel
theorem dX7_scan_51 : decode cX7_scan 51 = .ok (.ireturn, 1) := by decide +kernel
theorem dX7_filter_0 : decode cX7_filter 0 = .ok (.aload_n 0, 1) := by decide +kernel
theorem dX7_filter_1 : decode cX7_filter 1 = .ok (.getfield 21, 3) := by decide +kernel
theorem dX7_filter_4 : decode cX7_filter 4 = .ok (.iload_n 1, 1) := by decide +kernel
theorem dX7_filter_5 : decode cX7_filter 5 = .ok (.iload_n 2, 1) := by decide +kernel
theorem dX7_filter_6 : decode cX7_filter 6 = .ok (.invokevirtual 128, 3) := by decide +kernel
theorem dX7_filter_9 : decode cX7_filter 9 = .ok (.ifCond .ne 13, 3) := by decide +kernel
theorem dX7_filter_12 : decode cX7_filter 12 = .ok (.new 82, 3) := by decide +kernel
theorem dX7_filter_15 : decode cX7_filter 15 = .ok (.dup, 1) := by decide +kernel
theorem dX7_filter_16 : decode cX7_filter 16 = .ok (.ldc 132, 2) := by decide +kernel
theorem dX7_filter_18 : decode cX7_filter 18 = .ok (.invokespecial 86, 3) := by decide +kernel
theorem dX7_filter_21 : decode cX7_filter 21 = .ok (.athrow, 1) := by decide +kernel
theorem dX7_filter_22 : decode cX7_filter 22 = .ok (.iload_n 3, 1) := by decide +kernel
theorem dX7_filter_23 : decode cX7_filter 23 = .ok (.ifCond .lt 16, 3) := by decide +kernel
theorem dX7_filter_26 : decode cX7_filter 26 = .ok (.iload_n 3, 1) := by decide +kernel
theorem dX7_filter_27 : decode cX7_filter 27 = .ok (.iconst 5, 1) := by decide +kernel
theorem dX7_filter_28 : decode cX7_filter 28 = .ok (.if_icmp .gt 11, 3) := by decide +kernel
theorem dX7_filter_31 : decode cX7_filter 31 = .ok (.iload 4, 2) := by decide +kernel
theorem dX7_filter_33 : decode cX7_filter 33 = .ok (.invokestatic 134, 3) := by decide +kernel
theorem dX7_filter_36 : decode cX7_filter 36 = .ok (.ifCond .ne 13, 3) := by decide +kernel
theorem dX7_filter_39 : decode cX7_filter 39 = .ok (.new 62, 3) := by decide +kernel
theorem dX7_filter_42 : decode cX7_filter 42 = .ok (.dup, 1) := by decide +kernel
theorem dX7_filter_43 : decode cX7_filter 43 = .ok (.ldc 137, 2) := by decide +kernel
theorem dX7_filter_45 : decode cX7_filter 45 = .ok (.invokespecial 66, 3) := by decide +kernel
theorem dX7_filter_48 : decode cX7_filter 48 = .ok (.athrow, 1) := by decide +kernel
theorem dX7_filter_49 : decode cX7_filter 49 = .ok (.iload_n 3, 1) := by decide +kernel
theorem dX7_filter_50 : decode cX7_filter 50 = .ok (.iconst 4, 1) := by decide +kernel
theorem dX7_filter_51 : decode cX7_filter 51 = .ok (.if_icmp .lt 18, 3) := by decide +kernel
theorem dX7_filter_54 : decode cX7_filter 54 = .ok (.iload 4, 2) := by decide +kernel
theorem dX7_filter_56 : decode cX7_filter 56 = .ok (.ifCond .eq 13, 3) := by decide +kernel
theorem dX7_filter_59 : decode cX7_filter 59 = .ok (.new 62, 3) := by decide +kernel
theorem dX7_filter_62 : decode cX7_filter 62 = .ok (.dup, 1) := by decide +kernel
theorem dX7_filter_63 : decode cX7_filter 63 = .ok (.ldc 139, 2) := by decide +kernel
theorem dX7_filter_65 : decode cX7_filter 65 = .ok (.invokespecial 66, 3) := by decide +kernel
theorem dX7_filter_68 : decode cX7_filter 68 = .ok (.athrow, 1) := by decide +kernel
theorem dX7_filter_69 : decode cX7_filter 69 = .ok (.aload_n 0, 1) := by decide +kernel
theorem dX7_filter_70 : decode cX7_filter 70 = .ok (.getfield 21, 3) := by decide +kernel
theorem dX7_filter_73 : decode cX7_filter 73 = .ok (.iconst 1, 1) := by decide +kernel
theorem dX7_filter_74 : decode cX7_filter 74 = .ok (.iload_n 1, 1) := by decide +kernel
theorem dX7_filter_75 : decode cX7_filter 75 = .ok (.iconst (-1), 1) := by decide +kernel
theorem dX7_filter_76 : decode cX7_filter 76 = .ok (.iload_n 3, 1) := by decide +kernel
theorem dX7_filter_77 : decode cX7_filter 77 = .ok (.iload_n 2, 1) := by decide +kernel
theorem dX7_filter_78 : decode cX7_filter 78 = .ok (.iload 4, 2) := by decide +kernel
theorem dX7_filter_80 : decode cX7_filter 80 = .ok (.invokevirtual 122, 3) := by decide +kernel
theorem dX7_filter_83 : decode cX7_filter 83 = .ok (.istore 5, 2) := by decide +kernel
theorem dX7_filter_85 : decode cX7_filter 85 = .ok (.iload 5, 2) := by decide +kernel
theorem dX7_filter_87 : decode cX7_filter 87 = .ok (.iconst (-1), 1) := by decide +kernel
theorem dX7_filter_88 : decode cX7_filter 88 = .ok (.if_icmp .ne 13, 3) := by decide +kernel
theorem dX7_filter_91 : decode cX7_filter 91 = .ok (.new 73, 3) := by decide +kernel
theorem dX7_filter_94 : decode cX7_filter 94 = .ok (.dup, 1) := by decide +kernel
theorem dX7_filter_95 : decode cX7_filter 95 = .ok (.ldc 126, 2) := by decide +kernel
theorem dX7_filter_97 : decode cX7_filter 97 = .ok (.invokespecial 77, 3) := by decide +kernel
theorem dX7_filter_100 : decode cX7_filter 100 = .ok (.athrow, 1) := by decide +kernel
theorem dX7_filter_101 : decode cX7_filter 101 = .ok (.iload 5, 2) := by decide +kernel
theorem dX7_filter_103 : decode cX7_filter 103 = .ok (.ireturn, 1) := by decide +kernel
theorem dX7_join_0 : decode cX7_join 0 = .ok (.aload_n 0, 1) := by decide +kernel
theorem dX7_join_1 : decode cX7_join 1 = .ok (.getfield 21, 3) := by decide +kernel
theorem dX7_join_4 : decode cX7_join 4 = .ok (.iload_n 1, 1) := by decide +kernel
theorem dX7_join_5 : decode cX7_join 5 = .ok (.iload_n 3, 1) := by decide +kernel
theorem dX7_join_6 : decode cX7_join 6 = .ok (.invokevirtual 128, 3) := by decide +kernel
theorem dX7_join_9 : decode cX7_join 9 = .ok (.ifCond .eq 16, 3) := by decide +kernel
theorem dX7_join_12 : decode cX7_join 12 = .ok (.aload_n 0, 1) := by decide +kernel
theorem dX7_join_13 : decode cX7_join 13 = .ok (.getfield 21, 3) := by decide +kernel
theorem dX7_join_16 : decode cX7_join 16 = .ok (.iload_n 2, 1) := by decide +kernel
theorem dX7_join_17 : decode cX7_join 17 = .ok (.iload 4, 2) := by decide +kernel
theorem dX7_join_19 : decode cX7_join 19 = .ok (.invokevirtual 128, 3) := by decide +kernel
theorem dX7_join_22 : decode cX7_join 22 = .ok (.ifCond .ne 13, 3) := by decide +kernel
theorem dX7_join_25 : decode cX7_join 25 = .ok (.new 82, 3) := by decide +kernel
theorem dX7_join_28 : decode cX7_join 28 = .ok (.dup, 1) := by decide +kernel
theorem dX7_join_29 : decode cX7_join 29 = .ok (.ldc 132, 2) := by decide +kernel
theorem dX7_join_31 : decode cX7_join 31 = .ok (.invokespecial 86, 3) := by decide +kernel
theorem dX7_join_34 : decode cX7_join 34 = .ok (.athrow, 1) := by decide +kernel
theorem dX7_join_35 : decode cX7_join 35 = .ok (.iload 5, 2) := by decide +kernel
theorem dX7_join_37 : decode cX7_join 37 = .ok (.ifCond .lt 9, 3) := by decide +kernel
theorem dX7_join_40 : decode cX7_join 40 = .ok (.iload 5, 2) := by decide +kernel
theorem dX7_join_42 : decode cX7_join 42 = .ok (.iconst 4, 1) := by decide +kernel
theorem dX7_join_43 : decode cX7_join 43 = .ok (.if_icmp .le 13, 3) := by decide +kernel
theorem dX7_join_46 : decode cX7_join 46 = .ok (.new 62, 3) := by decide +kernel
theorem dX7_join_49 : decode cX7_join 49 = .ok (.dup, 1) := by decide +kernel
theorem dX7_join_50 : decode cX7_join 50 = .ok (.ldc 141, 2) := by decide +kernel
theorem dX7_join_52 : decode cX7_join 52 = .ok (.invokespecial 66, 3) := by decide +kernel
theorem dX7_join_55 : decode cX7_join 55 = .ok (.athrow, 1) := by decide +kernel
theorem dX7_join_56 : decode cX7_join 56 = .ok (.aload_n 0, 1) := by decide +kernel
theorem dX7_join_57 : decode cX7_join 57 = .ok (.getfield 21, 3) := by decide +kernel
theorem dX7_join_60 : decode cX7_join 60 = .ok (.iconst 2, 1) := by decide +kernel
theorem dX7_join_61 : decode cX7_join 61 = .ok (.iload_n 1, 1) := by decide +kernel
theorem dX7_join_62 : decode cX7_join 62 = .ok (.iload_n 2, 1) := by decide +kernel
theorem dX7_join_63 : decode cX7_join 63 = .ok (.iload 5, 2) := by decide +kernel
theorem dX7_join_65 : decode cX7_join 65 = .ok (.invokevirtual 143, 3) := by decide +kernel
theorem dX7_join_68 : decode cX7_join 68 = .ok (.bipush 6, 2) := by decide +kernel
theorem dX7_join_70 : decode cX7_join 70 = .ok (.if_icmp .le 13, 3) := by decide +kernel
theorem dX7_join_73 : decode cX7_join 73 = .ok (.new 73, 3) := by decide +kernel
theorem dX7_join_76 : decode cX7_join 76 = .ok (.dup, 1) := by decide +kernel
theorem dX7_join_77 : decode cX7_join 77 = .ok (.ldc 147, 2) := by decide +kernel
theorem dX7_join_79 : decode cX7_join 79 = .ok (.invokespecial 77, 3) := by decide +kernel
theorem dX7_join_82 : decode cX7_join 82 = .ok (.athrow, 1) := by decide +kernel
theorem dX7_join_83 : decode cX7_join 83 = .ok (.aload_n 0, 1) := by decide +kernel
theorem dX7_join_84 : decode cX7_join 84 = .ok (.getfield 21, 3) := by decide +kernel
theorem dX7_join_87 : decode cX7_join 87 = .ok (.iconst 2, 1) := by decide +kernel
theorem dX7_join_88 : decode cX7_join 88 = .ok (.iload_n 1, 1) := by decide +kernel
theorem dX7_join_89 : decode cX7_join 89 = .ok (.iload_n 2, 1) := by decide +kernel
theorem dX7_join_90 : decode cX7_join 90 = .ok (.iload 5, 2) := by decide +kernel
theorem dX7_join_92 : decode cX7_join 92 = .ok (.iload_n 3, 1) := by decide +kernel
theorem dX7_join_93 : decode cX7_join 93 = .ok (.iload 4, 2) := by decide +kernel
theorem dX7_join_95 : decode cX7_join 95 = .ok (.invokevirtual 122, 3) := by decide +kernel
theorem dX7_join_98 : decode cX7_join 98 = .ok (.istore 6, 2) := by decide +kernel
theorem dX7_join_100 : decode cX7_join 100 = .ok (.iload 6, 2) := by decide +kernel
theorem dX7_join_102 : decode cX7_join 102 = .ok (.iconst (-1), 1) := by decide +kernel
theorem dX7_join_103 : decode cX7_join 103 = .ok (.if_icmp .ne 13, 3) := by decide +kernel
theorem dX7_join_106 : decode cX7_join 106 = .ok (.new 73, 3) := by decide +kernel
theorem dX7_join_109 : decode cX7_join 109 = .ok (.dup, 1) := by decide +kernel
theorem dX7_join_110 : decode cX7_join 110 = .ok (.ldc 126, 2) := by decide +kernel
theorem dX7_join_112 : decode cX7_join 112 = .ok (.invokespecial 77, 3) := by decide +kernel
theorem dX7_join_115 : decode cX7_join 115 = .ok (.athrow, 1) := by decide +kernel
theorem dX7_join_116 : decode cX7_join 116 = .ok (.iload 6, 2) := by decide +kernel
theorem dX7_join_118 : decode cX7_join 118 = .ok (.ireturn, 1) := by decide +kernel
theorem dX7_group_0 : decode cX7_group 0 = .ok (.aload_n 0, 1) := by decide +kernel
theorem dX7_group_1 : decode cX7_group 1 = .ok (.getfield 21, 3) := by decide +kernel
theorem dX7_group_4 : decode cX7_group 4 = .ok (.iload_n 1, 1) := by decide +kernel
theorem dX7_group_5 : decode cX7_group 5 = .ok (.iload_n 2, 1) := by decide +kernel
theorem dX7_group_6 : decode cX7_group 6 = .ok (.invokevirtual 128, 3) := by decide +kernel
theorem dX7_group_9 : decode cX7_group 9 = .ok (.ifCond .ne 13, 3) := by decide +kernel
theorem dX7_group_12 : decode cX7_group 12 = .ok (.new 82, 3) := by decide +kernel
theorem dX7_group_15 : decode cX7_group 15 = .ok (.dup, 1) := by decide +kernel
theorem dX7_group_16 : decode cX7_group 16 = .ok (.ldc 132, 2) := by decide +kernel
theorem dX7_group_18 : decode cX7_group 18 = .ok (.invokespecial 86, 3) := by decide +kernel
theorem dX7_group_21 : decode cX7_group 21 = .ok (.athrow, 1) := by decide +kernel
theorem dX7_group_22 : decode cX7_group 22 = .ok (.iload_n 3, 1) := by decide +kernel
theorem dX7_group_23 : decode cX7_group 23 = .ok (.ifCond .eq 26, 3) := by decide +kernel
theorem dX7_group_26 : decode cX7_group 26 = .ok (.aload_n 0, 1) := by decide +kernel
theorem dX7_group_27 : decode cX7_group 27 = .ok (.getfield 21, 3) := by decide +kernel
theorem dX7_group_30 : decode cX7_group 30 = .ok (.iload_n 1, 1) := by decide +kernel
theorem dX7_group_31 : decode cX7_group 31 = .ok (.iload 4, 2) := by decide +kernel
theorem dX7_group_33 : decode cX7_group 33 = .ok (.invokevirtual 128, 3) := by decide +kernel
theorem dX7_group_36 : decode cX7_group 36 = .ok (.ifCond .ne 13, 3) := by decide +kernel
theorem dX7_group_39 : decode cX7_group 39 = .ok (.new 82, 3) := by decide +kernel
theorem dX7_group_42 : decode cX7_group 42 = .ok (.dup, 1) := by decide +kernel
theorem dX7_group_43 : decode cX7_group 43 = .ok (.ldc 149, 2) := by decide +kernel
theorem dX7_group_45 : decode cX7_group 45 = .ok (.invokespecial 86, 3) := by decide +kernel
theorem dX7_group_48 : decode cX7_group 48 = .ok (.athrow, 1) := by decide +kernel
theorem dX7_group_49 : decode cX7_group 49 = .ok (.iload_n 3, 1) := by decide +kernel
theorem dX7_group_50 : decode cX7_group 50 = .ok (.ifCond .lt 8, 3) := by decide +kernel
theorem dX7_group_53 : decode cX7_group 53 = .ok (.iload_n 3, 1) := by decide +kernel
theorem dX7_group_54 : decode cX7_group 54 = .ok (.iconst 4, 1) := by decide +kernel
theorem dX7_group_55 : decode cX7_group 55 = .ok (.if_icmp .le 13, 3) := by decide +kernel
theorem dX7_group_58 : decode cX7_group 58 = .ok (.new 62, 3) := by decide +kernel
theorem dX7_group_61 : decode cX7_group 61 = .ok (.dup, 1) := by decide +kernel
theorem dX7_group_62 : decode cX7_group 62 = .ok (.ldc 141, 2) := by decide +kernel
theorem dX7_group_64 : decode cX7_group 64 = .ok (.invokespecial 66, 3) := by decide +kernel
theorem dX7_group_67 : decode cX7_group 67 = .ok (.athrow, 1) := by decide +kernel
theorem dX7_group_68 : decode cX7_group 68 = .ok (.iload_n 3, 1) := by decide +kernel
theorem dX7_group_69 : decode cX7_group 69 = .ok (.ifCond .ne 18, 3) := by decide +kernel
theorem dX7_group_72 : decode cX7_group 72 = .ok (.iload 4, 2) := by decide +kernel
theorem dX7_group_74 : decode cX7_group 74 = .ok (.ifCond .eq 13, 3) := by decide +kernel
theorem dX7_group_77 : decode cX7_group 77 = .ok (.new 62, 3) := by decide +kernel
theorem dX7_group_80 : decode cX7_group 80 = .ok (.dup, 1) := by decide +kernel
theorem dX7_group_81 : decode cX7_group 81 = .ok (.ldc 151, 2) := by decide +kernel
theorem dX7_group_83 : decode cX7_group 83 = .ok (.invokespecial 66, 3) := by decide +kernel
theorem dX7_group_86 : decode cX7_group 86 = .ok (.athrow, 1) := by decide +kernel
theorem dX7_group_87 : decode cX7_group 87 = .ok (.aload_n 0, 1) := by decide +kernel
theorem dX7_group_88 : decode cX7_group 88 = .ok (.getfield 21, 3) := by decide +kernel
theorem dX7_group_91 : decode cX7_group 91 = .ok (.iconst 3, 1) := by decide +kernel
theorem dX7_group_92 : decode cX7_group 92 = .ok (.iload_n 1, 1) := by decide +kernel
theorem dX7_group_93 : decode cX7_group 93 = .ok (.iconst (-1), 1) := by decide +kernel
theorem dX7_group_94 : decode cX7_group 94 = .ok (.iload_n 3, 1) := by decide +kernel
theorem dX7_group_95 : decode cX7_group 95 = .ok (.iload_n 2, 1) := by decide +kernel
theorem dX7_group_96 : decode cX7_group 96 = .ok (.iload 4, 2) := by decide +kernel
theorem dX7_group_98 : decode cX7_group 98 = .ok (.invokevirtual 122, 3) := by decide +kernel
theorem dX7_group_101 : decode cX7_group 101 = .ok (.istore 5, 2) := by decide +kernel
theorem dX7_group_103 : decode cX7_group 103 = .ok (.iload 5, 2) := by decide +kernel
theorem dX7_group_105 : decode cX7_group 105 = .ok (.iconst (-1), 1) := by decide +kernel
theorem dX7_group_106 : decode cX7_group 106 = .ok (.if_icmp .ne 13, 3) := by decide +kernel
theorem dX7_group_109 : decode cX7_group 109 = .ok (.new 73, 3) := by decide +kernel
theorem dX7_group_112 : decode cX7_group 112 = .ok (.dup, 1) := by decide +kernel
theorem dX7_group_113 : decode cX7_group 113 = .ok (.ldc 126, 2) := by decide +kernel
theorem dX7_group_115 : decode cX7_group 115 = .ok (.invokespecial 77, 3) := by decide +kernel
theorem dX7_group_118 : decode cX7_group 118 = .ok (.athrow, 1) := by decide +kernel
theorem dX7_group_119 : decode cX7_group 119 = .ok (.iload 5, 2) := by decide +kernel
theorem dX7_group_121 : decode cX7_group 121 = .ok (.ireturn, 1) := by decide +kernel
theorem dX7_bag_0 : decode cX7_bag 0 = .ok (.aload_n 0, 1) := by decide +kernel
theorem dX7_bag_1 : decode cX7_bag 1 = .ok (.getfield 21, 3) := by decide +kernel
theorem dX7_bag_4 : decode cX7_bag 4 = .ok (.iload_n 1, 1) := by decide +kernel
theorem dX7_bag_5 : decode cX7_bag 5 = .ok (.invokevirtual 153, 3) := by decide +kernel
theorem dX7_bag_8 : decode cX7_bag 8 = .ok (.ifCond .eq 14, 3) := by decide +kernel
theorem dX7_bag_11 : decode cX7_bag 11 = .ok (.aload_n 0, 1) := by decide +kernel
theorem dX7_bag_12 : decode cX7_bag 12 = .ok (.getfield 21, 3) := by decide +kernel
theorem dX7_bag_15 : decode cX7_bag 15 = .ok (.iload_n 2, 1) := by decide +kernel
theorem dX7_bag_16 : decode cX7_bag 16 = .ok (.invokevirtual 153, 3) := by decide +kernel
theorem dX7_bag_19 : decode cX7_bag 19 = .ok (.ifCond .ne 13, 3) := by decide +kernel
theorem dX7_bag_22 : decode cX7_bag 22 = .ok (.new 82, 3) := by decide +kernel
theorem dX7_bag_25 : decode cX7_bag 25 = .ok (.dup, 1) := by decide +kernel
theorem dX7_bag_26 : decode cX7_bag 26 = .ok (.ldc 156, 2) := by decide +kernel
theorem dX7_bag_28 : decode cX7_bag 28 = .ok (.invokespecial 86, 3) := by decide +kernel
theorem dX7_bag_31 : decode cX7_bag 31 = .ok (.athrow, 1) := by decide +kernel
theorem dX7_bag_32 : decode cX7_bag 32 = .ok (.iload_n 3, 1) := by decide +kernel
theorem dX7_bag_33 : decode cX7_bag 33 = .ok (.ifCond .lt 8, 3) := by decide +kernel
theorem dX7_bag_36 : decode cX7_bag 36 = .ok (.iload_n 3, 1) := by decide +kernel
theorem dX7_bag_37 : decode cX7_bag 37 = .ok (.iconst 3, 1) := by decide +kernel
theorem dX7_bag_38 : decode cX7_bag 38 = .ok (.if_icmp .le 13, 3) := by decide +kernel
theorem dX7_bag_41 : decode cX7_bag 41 = .ok (.new 62, 3) := by decide +kernel
theorem dX7_bag_44 : decode cX7_bag 44 = .ok (.dup, 1) := by decide +kernel
theorem dX7_bag_45 : decode cX7_bag 45 = .ok (.ldc 141, 2) := by decide +kernel
theorem dX7_bag_47 : decode cX7_bag 47 = .ok (.invokespecial 66, 3) := by decide +kernel
theorem dX7_bag_50 : decode cX7_bag 50 = .ok (.athrow, 1) := by decide +kernel
theorem dX7_bag_51 : decode cX7_bag 51 = .ok (.aload_n 0, 1) := by decide +kernel
theorem dX7_bag_52 : decode cX7_bag 52 = .ok (.getfield 21, 3) := by decide +kernel
theorem dX7_bag_55 : decode cX7_bag 55 = .ok (.iload_n 1, 1) := by decide +kernel
theorem dX7_bag_56 : decode cX7_bag 56 = .ok (.invokevirtual 158, 3) := by decide +kernel
theorem dX7_bag_59 : decode cX7_bag 59 = .ok (.aload_n 0, 1) := by decide +kernel
theorem dX7_bag_60 : decode cX7_bag 60 = .ok (.getfield 21, 3) := by decide +kernel
theorem dX7_bag_63 : decode cX7_bag 63 = .ok (.iload_n 2, 1) := by decide +kernel
theorem dX7_bag_64 : decode cX7_bag 64 = .ok (.invokevirtual 158, 3) := by decide +kernel
theorem dX7_bag_67 : decode cX7_bag 67 = .ok (.if_icmp .eq 13, 3) := by decide +kernel
theorem dX7_bag_70 : decode cX7_bag 70 = .ok (.new 73, 3) := by decide +kernel
theorem dX7_bag_73 : decode cX7_bag 73 = .ok (.dup, 1) := by decide +kernel
theorem dX7_bag_74 : decode cX7_bag 74 = .ok (.ldc 161, 2) := by decide +kernel
theorem dX7_bag_76 : decode cX7_bag 76 = .ok (.invokespecial 77, 3) := by decide +kernel
theorem dX7_bag_79 : decode cX7_bag 79 = .ok (.athrow, 1) := by decide +kernel
theorem dX7_bag_80 : decode cX7_bag 80 = .ok (.aload_n 0, 1) := by decide +kernel
theorem dX7_bag_81 : decode cX7_bag 81 = .ok (.getfield 21, 3) := by decide +kernel
theorem dX7_bag_84 : decode cX7_bag 84 = .ok (.iconst 4, 1) := by decide +kernel
theorem dX7_bag_85 : decode cX7_bag 85 = .ok (.iload_n 1, 1) := by decide +kernel
theorem dX7_bag_86 : decode cX7_bag 86 = .ok (.iload_n 2, 1) := by decide +kernel
theorem dX7_bag_87 : decode cX7_bag 87 = .ok (.iload_n 3, 1) := by decide +kernel
theorem dX7_bag_88 : decode cX7_bag 88 = .ok (.iconst 0, 1) := by decide +kernel
theorem dX7_bag_89 : decode cX7_bag 89 = .ok (.iconst 0, 1) := by decide +kernel
theorem dX7_bag_90 : decode cX7_bag 90 = .ok (.invokevirtual 122, 3) := by decide +kernel
theorem dX7_bag_93 : decode cX7_bag 93 = .ok (.istore 4, 2) := by decide +kernel
theorem dX7_bag_95 : decode cX7_bag 95 = .ok (.iload 4, 2) := by decide +kernel
theorem dX7_bag_97 : decode cX7_bag 97 = .ok (.iconst (-1), 1) := by decide +kernel
theorem dX7_bag_98 : decode cX7_bag 98 = .ok (.if_icmp .ne 13, 3) := by decide +kernel
theorem dX7_bag_101 : decode cX7_bag 101 = .ok (.new 73, 3) := by decide +kernel
theorem dX7_bag_104 : decode cX7_bag 104 = .ok (.dup, 1) := by decide +kernel
theorem dX7_bag_105 : decode cX7_bag 105 = .ok (.ldc 126, 2) := by decide +kernel
theorem dX7_bag_107 : decode cX7_bag 107 = .ok (.invokespecial 77, 3) := by decide +kernel
theorem dX7_bag_110 : decode cX7_bag 110 = .ok (.athrow, 1) := by decide +kernel
theorem dX7_bag_111 : decode cX7_bag 111 = .ok (.iload 4, 2) := by decide +kernel
theorem dX7_bag_113 : decode cX7_bag 113 = .ok (.ireturn, 1) := by decide +kernel
theorem dX7_rows_0 : decode cX7_rows 0 = .ok (.aload_n 0, 1) := by decide +kernel
theorem dX7_rows_1 : decode cX7_rows 1 = .ok (.getfield 21, 3) := by decide +kernel
theorem dX7_rows_4 : decode cX7_rows 4 = .ok (.iload_n 1, 1) := by decide +kernel
theorem dX7_rows_5 : decode cX7_rows 5 = .ok (.invokevirtual 153, 3) := by decide +kernel
theorem dX7_rows_8 : decode cX7_rows 8 = .ok (.ifCond .ne 13, 3) := by decide +kernel
theorem dX7_rows_11 : decode cX7_rows 11 = .ok (.new 82, 3) := by decide +kernel
theorem dX7_rows_14 : decode cX7_rows 14 = .ok (.dup, 1) := by decide +kernel
theorem dX7_rows_15 : decode cX7_rows 15 = .ok (.ldc 156, 2) := by decide +kernel
theorem dX7_rows_17 : decode cX7_rows 17 = .ok (.invokespecial 86, 3) := by decide +kernel
theorem dX7_rows_20 : decode cX7_rows 20 = .ok (.athrow, 1) := by decide +kernel
theorem dX7_rows_21 : decode cX7_rows 21 = .ok (.aload_n 0, 1) := by decide +kernel
theorem dX7_rows_22 : decode cX7_rows 22 = .ok (.getfield 30, 3) := by decide +kernel
theorem dX7_rows_25 : decode cX7_rows 25 = .ok (.iload_n 1, 1) := by decide +kernel
theorem dX7_rows_26 : decode cX7_rows 26 = .ok (.aload_n 0, 1) := by decide +kernel
theorem dX7_rows_27 : decode cX7_rows 27 = .ok (.getfield 58, 3) := by decide +kernel
theorem dX7_rows_30 : decode cX7_rows 30 = .ok (.invokevirtual 163, 3) := by decide +kernel
theorem dX7_rows_33 : decode cX7_rows 33 = .ok (.ifCond .ne 13, 3) := by decide +kernel
theorem dX7_rows_36 : decode cX7_rows 36 = .ok (.new 73, 3) := by decide +kernel
theorem dX7_rows_39 : decode cX7_rows 39 = .ok (.dup, 1) := by decide +kernel
theorem dX7_rows_40 : decode cX7_rows 40 = .ok (.ldc 166, 2) := by decide +kernel
theorem dX7_rows_42 : decode cX7_rows 42 = .ok (.invokespecial 77, 3) := by decide +kernel
theorem dX7_rows_45 : decode cX7_rows 45 = .ok (.athrow, 1) := by decide +kernel
theorem dX7_rows_46 : decode cX7_rows 46 = .ok (.aload_n 0, 1) := by decide +kernel
theorem dX7_rows_47 : decode cX7_rows 47 = .ok (.getfield 30, 3) := by decide +kernel
theorem dX7_rows_50 : decode cX7_rows 50 = .ok (.iload_n 1, 1) := by decide +kernel
theorem dX7_rows_51 : decode cX7_rows 51 = .ok (.invokevirtual 168, 3) := by decide +kernel
theorem dX7_rows_54 : decode cX7_rows 54 = .ok (.ireturn, 1) := by decide +kernel
theorem dX7_cell_0 : decode cX7_cell 0 = .ok (.aload_n 0, 1) := by decide +kernel
theorem dX7_cell_1 : decode cX7_cell 1 = .ok (.getfield 21, 3) := by decide +kernel
theorem dX7_cell_4 : decode cX7_cell 4 = .ok (.iload_n 1, 1) := by decide +kernel
theorem dX7_cell_5 : decode cX7_cell 5 = .ok (.iload_n 3, 1) := by decide +kernel
theorem dX7_cell_6 : decode cX7_cell 6 = .ok (.invokevirtual 128, 3) := by decide +kernel
theorem dX7_cell_9 : decode cX7_cell 9 = .ok (.ifCond .eq 7, 3) := by decide +kernel
theorem dX7_cell_12 : decode cX7_cell 12 = .ok (.iload_n 2, 1) := by decide +kernel
theorem dX7_cell_13 : decode cX7_cell 13 = .ok (.ifCond .ge 13, 3) := by decide +kernel
theorem dX7_cell_16 : decode cX7_cell 16 = .ok (.new 82, 3) := by decide +kernel
theorem dX7_cell_19 : decode cX7_cell 19 = .ok (.dup, 1) := by decide +kernel
theorem dX7_cell_20 : decode cX7_cell 20 = .ok (.ldc 171, 2) := by decide +kernel
theorem dX7_cell_22 : decode cX7_cell 22 = .ok (.invokespecial 86, 3) := by decide +kernel
theorem dX7_cell_25 : decode cX7_cell 25 = .ok (.athrow, 1) := by decide +kernel
theorem dX7_cell_26 : decode cX7_cell 26 = .ok (.aload_n 0, 1) := by decide +kernel
theorem dX7_cell_27 : decode cX7_cell 27 = .ok (.getfield 30, 3) := by decide +kernel
theorem dX7_cell_30 : decode cX7_cell 30 = .ok (.iload_n 1, 1) := by decide +kernel
theorem dX7_cell_31 : decode cX7_cell 31 = .ok (.aload_n 0, 1) := by decide +kernel
theorem dX7_cell_32 : decode cX7_cell 32 = .ok (.getfield 58, 3) := by decide +kernel
theorem dX7_cell_35 : decode cX7_cell 35 = .ok (.invokevirtual 163, 3) := by decide +kernel
theorem dX7_cell_38 : decode cX7_cell 38 = .ok (.ifCond .ne 13, 3) := by decide +kernel
theorem dX7_cell_41 : decode cX7_cell 41 = .ok (.new 73, 3) := by decide +kernel
theorem dX7_cell_44 : decode cX7_cell 44 = .ok (.dup, 1) := by decide +kernel
theorem dX7_cell_45 : decode cX7_cell 45 = .ok (.ldc 166, 2) := by decide +kernel
theorem dX7_cell_47 : decode cX7_cell 47 = .ok (.invokespecial 77, 3) := by decide +kernel
theorem dX7_cell_50 : decode cX7_cell 50 = .ok (.athrow, 1) := by decide +kernel
theorem dX7_cell_51 : decode cX7_cell 51 = .ok (.iload_n 2, 1) := by decide +kernel
theorem dX7_cell_52 : decode cX7_cell 52 = .ok (.aload_n 0, 1) := by decide +kernel
theorem dX7_cell_53 : decode cX7_cell 53 = .ok (.getfield 30, 3) := by decide +kernel
theorem dX7_cell_56 : decode cX7_cell 56 = .ok (.iload_n 1, 1) := by decide +kernel
theorem dX7_cell_57 : decode cX7_cell 57 = .ok (.invokevirtual 168, 3) := by decide +kernel
theorem dX7_cell_60 : decode cX7_cell 60 = .ok (.if_icmp .lt 13, 3) := by decide +kernel
theorem dX7_cell_63 : decode cX7_cell 63 = .ok (.new 82, 3) := by decide +kernel
theorem dX7_cell_66 : decode cX7_cell 66 = .ok (.dup, 1) := by decide +kernel
theorem dX7_cell_67 : decode cX7_cell 67 = .ok (.ldc 173, 2) := by decide +kernel
theorem dX7_cell_69 : decode cX7_cell 69 = .ok (.invokespecial 86, 3) := by decide +kernel
theorem dX7_cell_72 : decode cX7_cell 72 = .ok (.athrow, 1) := by decide +kernel
theorem dX7_cell_73 : decode cX7_cell 73 = .ok (.aload_n 0, 1) := by decide +kernel
theorem dX7_cell_74 : decode cX7_cell 74 = .ok (.getfield 30, 3) := by decide +kernel
theorem dX7_cell_77 : decode cX7_cell 77 = .ok (.iload_n 1, 1) := by decide +kernel
theorem dX7_cell_78 : decode cX7_cell 78 = .ok (.iload_n 2, 1) := by decide +kernel
theorem dX7_cell_79 : decode cX7_cell 79 = .ok (.iload_n 3, 1) := by decide +kernel
theorem dX7_cell_80 : decode cX7_cell 80 = .ok (.invokevirtual 175, 3) := by decide +kernel
theorem dX7_cell_83 : decode cX7_cell 83 = .ok (.ireturn, 1) := by decide +kernel
theorem dX7_same_0 : decode cX7_same 0 = .ok (.aload_n 0, 1) := by decide +kernel
theorem dX7_same_1 : decode cX7_same 1 = .ok (.getfield 21, 3) := by decide +kernel
theorem dX7_same_4 : decode cX7_same 4 = .ok (.iload_n 1, 1) := by decide +kernel
theorem dX7_same_5 : decode cX7_same 5 = .ok (.invokevirtual 153, 3) := by decide +kernel
theorem dX7_same_8 : decode cX7_same 8 = .ok (.ifCond .eq 14, 3) := by decide +kernel
theorem dX7_same_11 : decode cX7_same 11 = .ok (.aload_n 0, 1) := by decide +kernel
theorem dX7_same_12 : decode cX7_same 12 = .ok (.getfield 21, 3) := by decide +kernel
theorem dX7_same_15 : decode cX7_same 15 = .ok (.iload_n 2, 1) := by decide +kernel
theorem dX7_same_16 : decode cX7_same 16 = .ok (.invokevirtual 153, 3) := by decide +kernel
theorem dX7_same_19 : decode cX7_same 19 = .ok (.ifCond .ne 13, 3) := by decide +kernel
theorem dX7_same_22 : decode cX7_same 22 = .ok (.new 82, 3) := by decide +kernel
theorem dX7_same_25 : decode cX7_same 25 = .ok (.dup, 1) := by decide +kernel
theorem dX7_same_26 : decode cX7_same 26 = .ok (.ldc 156, 2) := by decide +kernel
theorem dX7_same_28 : decode cX7_same 28 = .ok (.invokespecial 86, 3) := by decide +kernel
theorem dX7_same_31 : decode cX7_same 31 = .ok (.athrow, 1) := by decide +kernel
theorem dX7_same_32 : decode cX7_same 32 = .ok (.aload_n 0, 1) := by decide +kernel
theorem dX7_same_33 : decode cX7_same 33 = .ok (.getfield 30, 3) := by decide +kernel
theorem dX7_same_36 : decode cX7_same 36 = .ok (.iload_n 1, 1) := by decide +kernel
theorem dX7_same_37 : decode cX7_same 37 = .ok (.aload_n 0, 1) := by decide +kernel
theorem dX7_same_38 : decode cX7_same 38 = .ok (.getfield 58, 3) := by decide +kernel
theorem dX7_same_41 : decode cX7_same 41 = .ok (.invokevirtual 163, 3) := by decide +kernel
theorem dX7_same_44 : decode cX7_same 44 = .ok (.ifCond .eq 18, 3) := by decide +kernel
theorem dX7_same_47 : decode cX7_same 47 = .ok (.aload_n 0, 1) := by decide +kernel
theorem dX7_same_48 : decode cX7_same 48 = .ok (.getfield 30, 3) := by decide +kernel
theorem dX7_same_51 : decode cX7_same 51 = .ok (.iload_n 2, 1) := by decide +kernel
theorem dX7_same_52 : decode cX7_same 52 = .ok (.aload_n 0, 1) := by decide +kernel
theorem dX7_same_53 : decode cX7_same 53 = .ok (.getfield 58, 3) := by decide +kernel
theorem dX7_same_56 : decode cX7_same 56 = .ok (.invokevirtual 163, 3) := by decide +kernel
theorem dX7_same_59 : decode cX7_same 59 = .ok (.ifCond .ne 13, 3) := by decide +kernel
theorem dX7_same_62 : decode cX7_same 62 = .ok (.new 73, 3) := by decide +kernel
theorem dX7_same_65 : decode cX7_same 65 = .ok (.dup, 1) := by decide +kernel
theorem dX7_same_66 : decode cX7_same 66 = .ok (.ldc 166, 2) := by decide +kernel
theorem dX7_same_68 : decode cX7_same 68 = .ok (.invokespecial 77, 3) := by decide +kernel
theorem dX7_same_71 : decode cX7_same 71 = .ok (.athrow, 1) := by decide +kernel
theorem dX7_same_72 : decode cX7_same 72 = .ok (.aload_n 0, 1) := by decide +kernel
theorem dX7_same_73 : decode cX7_same 73 = .ok (.getfield 30, 3) := by decide +kernel
theorem dX7_same_76 : decode cX7_same 76 = .ok (.iload_n 1, 1) := by decide +kernel
theorem dX7_same_77 : decode cX7_same 77 = .ok (.iload_n 2, 1) := by decide +kernel
theorem dX7_same_78 : decode cX7_same 78 = .ok (.invokevirtual 179, 3) := by decide +kernel
theorem dX7_same_81 : decode cX7_same 81 = .ok (.ireturn, 1) := by decide +kernel
theorem dX7_steps_0 : decode cX7_steps 0 = .ok (.aload_n 0, 1) := by decide +kernel
theorem dX7_steps_1 : decode cX7_steps 1 = .ok (.getfield 21, 3) := by decide +kernel
theorem dX7_steps_4 : decode cX7_steps 4 = .ok (.iload_n 1, 1) := by decide +kernel
theorem dX7_steps_5 : decode cX7_steps 5 = .ok (.invokevirtual 153, 3) := by decide +kernel
theorem dX7_steps_8 : decode cX7_steps 8 = .ok (.ifCond .ne 13, 3) := by decide +kernel
theorem dX7_steps_11 : decode cX7_steps 11 = .ok (.new 82, 3) := by decide +kernel
theorem dX7_steps_14 : decode cX7_steps 14 = .ok (.dup, 1) := by decide +kernel
theorem dX7_steps_15 : decode cX7_steps 15 = .ok (.ldc 156, 2) := by decide +kernel
theorem dX7_steps_17 : decode cX7_steps 17 = .ok (.invokespecial 86, 3) := by decide +kernel
theorem dX7_steps_20 : decode cX7_steps 20 = .ok (.athrow, 1) := by decide +kernel
theorem dX7_steps_21 : decode cX7_steps 21 = .ok (.aload_n 0, 1) := by decide +kernel
theorem dX7_steps_22 : decode cX7_steps 22 = .ok (.getfield 30, 3) := by decide +kernel
theorem dX7_steps_25 : decode cX7_steps 25 = .ok (.iload_n 1, 1) := by decide +kernel
theorem dX7_steps_26 : decode cX7_steps 26 = .ok (.aload_n 0, 1) := by decide +kernel
theorem dX7_steps_27 : decode cX7_steps 27 = .ok (.getfield 58, 3) := by decide +kernel
theorem dX7_steps_30 : decode cX7_steps 30 = .ok (.invokevirtual 163, 3) := by decide +kernel
theorem dX7_steps_33 : decode cX7_steps 33 = .ok (.ifCond .ne 13, 3) := by decide +kernel
theorem dX7_steps_36 : decode cX7_steps 36 = .ok (.new 73, 3) := by decide +kernel
theorem dX7_steps_39 : decode cX7_steps 39 = .ok (.dup, 1) := by decide +kernel
theorem dX7_steps_40 : decode cX7_steps 40 = .ok (.ldc 166, 2) := by decide +kernel
theorem dX7_steps_42 : decode cX7_steps 42 = .ok (.invokespecial 77, 3) := by decide +kernel
theorem dX7_steps_45 : decode cX7_steps 45 = .ok (.athrow, 1) := by decide +kernel
theorem dX7_steps_46 : decode cX7_steps 46 = .ok (.aload_n 0, 1) := by decide +kernel
theorem dX7_steps_47 : decode cX7_steps 47 = .ok (.getfield 30, 3) := by decide +kernel
theorem dX7_steps_50 : decode cX7_steps 50 = .ok (.iload_n 1, 1) := by decide +kernel
theorem dX7_steps_51 : decode cX7_steps 51 = .ok (.invokevirtual 182, 3) := by decide +kernel
theorem dX7_steps_54 : decode cX7_steps 54 = .ok (.ireturn, 1) := by decide +kernel
theorem dX7_budget_0 : decode cX7_budget 0 = .ok (.iload_n 1, 1) := by decide +kernel
theorem dX7_budget_1 : decode cX7_budget 1 = .ok (.iconst 1, 1) := by decide +kernel
theorem dX7_budget_2 : decode cX7_budget 2 = .ok (.if_icmp .lt 9, 3) := by decide +kernel
theorem dX7_budget_5 : decode cX7_budget 5 = .ok (.iload_n 1, 1) := by decide +kernel
theorem dX7_budget_6 : decode cX7_budget 6 = .ok (.ldc 57, 2) := by decide +kernel
theorem dX7_budget_8 : decode cX7_budget 8 = .ok (.if_icmp .le 13, 3) := by decide +kernel
theorem dX7_budget_11 : decode cX7_budget 11 = .ok (.new 62, 3) := by decide +kernel
theorem dX7_budget_14 : decode cX7_budget 14 = .ok (.dup, 1) := by decide +kernel
theorem dX7_budget_15 : decode cX7_budget 15 = .ok (.ldc 185, 2) := by decide +kernel
theorem dX7_budget_17 : decode cX7_budget 17 = .ok (.invokespecial 66, 3) := by decide +kernel
theorem dX7_budget_20 : decode cX7_budget 20 = .ok (.athrow, 1) := by decide +kernel
theorem dX7_budget_21 : decode cX7_budget 21 = .ok (.aload_n 0, 1) := by decide +kernel
theorem dX7_budget_22 : decode cX7_budget 22 = .ok (.getfield 58, 3) := by decide +kernel
theorem dX7_budget_25 : decode cX7_budget 25 = .ok (.istore_n 2, 1) := by decide +kernel
theorem dX7_budget_26 : decode cX7_budget 26 = .ok (.aload_n 0, 1) := by decide +kernel
theorem dX7_budget_27 : decode cX7_budget 27 = .ok (.iload_n 1, 1) := by decide +kernel
theorem dX7_budget_28 : decode cX7_budget 28 = .ok (.putfield 58, 3) := by decide +kernel
theorem dX7_budget_31 : decode cX7_budget 31 = .ok (.iload_n 2, 1) := by decide +kernel
theorem dX7_budget_32 : decode cX7_budget 32 = .ok (.ireturn, 1) := by decide +kernel
theorem dX7_rewrite_0 : decode cX7_rewrite 0 = .ok (.aload_n 0, 1) := by decide +kernel
theorem dX7_rewrite_1 : decode cX7_rewrite 1 = .ok (.getfield 21, 3) := by decide +kernel
theorem dX7_rewrite_4 : decode cX7_rewrite 4 = .ok (.iload_n 1, 1) := by decide +kernel
theorem dX7_rewrite_5 : decode cX7_rewrite 5 = .ok (.invokevirtual 153, 3) := by decide +kernel
theorem dX7_rewrite_8 : decode cX7_rewrite 8 = .ok (.ifCond .ne 13, 3) := by decide +kernel
theorem dX7_rewrite_11 : decode cX7_rewrite 11 = .ok (.new 82, 3) := by decide +kernel
theorem dX7_rewrite_14 : decode cX7_rewrite 14 = .ok (.dup, 1) := by decide +kernel
theorem dX7_rewrite_15 : decode cX7_rewrite 15 = .ok (.ldc 156, 2) := by decide +kernel
theorem dX7_rewrite_17 : decode cX7_rewrite 17 = .ok (.invokespecial 86, 3) := by decide +kernel
theorem dX7_rewrite_20 : decode cX7_rewrite 20 = .ok (.athrow, 1) := by decide +kernel
theorem dX7_rewrite_21 : decode cX7_rewrite 21 = .ok (.aload_n 0, 1) := by decide +kernel
theorem dX7_rewrite_22 : decode cX7_rewrite 22 = .ok (.getfield 39, 3) := by decide +kernel
theorem dX7_rewrite_25 : decode cX7_rewrite 25 = .ok (.iload_n 1, 1) := by decide +kernel
theorem dX7_rewrite_26 : decode cX7_rewrite 26 = .ok (.invokevirtual 187, 3) := by decide +kernel
theorem dX7_rewrite_29 : decode cX7_rewrite 29 = .ok (.istore_n 2, 1) := by decide +kernel
theorem dX7_rewrite_30 : decode cX7_rewrite 30 = .ok (.iload_n 2, 1) := by decide +kernel
theorem dX7_rewrite_31 : decode cX7_rewrite 31 = .ok (.iconst (-1), 1) := by decide +kernel
theorem dX7_rewrite_32 : decode cX7_rewrite 32 = .ok (.if_icmp .ne 13, 3) := by decide +kernel
theorem dX7_rewrite_35 : decode cX7_rewrite 35 = .ok (.new 73, 3) := by decide +kernel
theorem dX7_rewrite_38 : decode cX7_rewrite 38 = .ok (.dup, 1) := by decide +kernel
theorem dX7_rewrite_39 : decode cX7_rewrite 39 = .ok (.ldc 190, 2) := by decide +kernel
theorem dX7_rewrite_41 : decode cX7_rewrite 41 = .ok (.invokespecial 77, 3) := by decide +kernel
theorem dX7_rewrite_44 : decode cX7_rewrite 44 = .ok (.athrow, 1) := by decide +kernel
theorem dX7_rewrite_45 : decode cX7_rewrite 45 = .ok (.iload_n 2, 1) := by decide +kernel
theorem dX7_rewrite_46 : decode cX7_rewrite 46 = .ok (.ireturn, 1) := by decide +kernel
theorem dX7_node_0 : decode cX7_node 0 = .ok (.aload_n 0, 1) := by decide +kernel
theorem dX7_node_1 : decode cX7_node 1 = .ok (.getfield 21, 3) := by decide +kernel
theorem dX7_node_4 : decode cX7_node 4 = .ok (.iload_n 1, 1) := by decide +kernel
theorem dX7_node_5 : decode cX7_node 5 = .ok (.invokevirtual 153, 3) := by decide +kernel
theorem dX7_node_8 : decode cX7_node 8 = .ok (.ifCond .ne 13, 3) := by decide +kernel
theorem dX7_node_11 : decode cX7_node 11 = .ok (.new 82, 3) := by decide +kernel
theorem dX7_node_14 : decode cX7_node 14 = .ok (.dup, 1) := by decide +kernel
theorem dX7_node_15 : decode cX7_node 15 = .ok (.ldc 156, 2) := by decide +kernel
theorem dX7_node_17 : decode cX7_node 17 = .ok (.invokespecial 86, 3) := by decide +kernel
theorem dX7_node_20 : decode cX7_node 20 = .ok (.athrow, 1) := by decide +kernel
theorem dX7_node_21 : decode cX7_node 21 = .ok (.iload_n 2, 1) := by decide +kernel
theorem dX7_node_22 : decode cX7_node 22 = .ok (.tableswitch 66 0 3 #[30, 39, 48, 57], 30) := by decide +kernel
theorem dX7_node_52 : decode cX7_node 52 = .ok (.aload_n 0, 1) := by decide +kernel
theorem dX7_node_53 : decode cX7_node 53 = .ok (.getfield 21, 3) := by decide +kernel
theorem dX7_node_56 : decode cX7_node 56 = .ok (.iload_n 1, 1) := by decide +kernel
theorem dX7_node_57 : decode cX7_node 57 = .ok (.invokevirtual 192, 3) := by decide +kernel
theorem dX7_node_60 : decode cX7_node 60 = .ok (.ireturn, 1) := by decide +kernel
theorem dX7_node_61 : decode cX7_node 61 = .ok (.aload_n 0, 1) := by decide +kernel
theorem dX7_node_62 : decode cX7_node 62 = .ok (.getfield 21, 3) := by decide +kernel
theorem dX7_node_65 : decode cX7_node 65 = .ok (.iload_n 1, 1) := by decide +kernel
theorem dX7_node_66 : decode cX7_node 66 = .ok (.invokevirtual 195, 3) := by decide +kernel
theorem dX7_node_69 : decode cX7_node 69 = .ok (.ireturn, 1) := by decide +kernel
theorem dX7_node_70 : decode cX7_node 70 = .ok (.aload_n 0, 1) := by decide +kernel
theorem dX7_node_71 : decode cX7_node 71 = .ok (.getfield 21, 3) := by decide +kernel
theorem dX7_node_74 : decode cX7_node 74 = .ok (.iload_n 1, 1) := by decide +kernel
theorem dX7_node_75 : decode cX7_node 75 = .ok (.invokevirtual 198, 3) := by decide +kernel
theorem dX7_node_78 : decode cX7_node 78 = .ok (.ireturn, 1) := by decide +kernel
theorem dX7_node_79 : decode cX7_node 79 = .ok (.aload_n 0, 1) := by decide +kernel
theorem dX7_node_80 : decode cX7_node 80 = .ok (.getfield 21, 3) := by decide +kernel
theorem dX7_node_83 : decode cX7_node 83 = .ok (.iload_n 1, 1) := by decide +kernel
theorem dX7_node_84 : decode cX7_node 84 = .ok (.invokevirtual 158, 3) := by decide +kernel
theorem dX7_node_87 : decode cX7_node 87 = .ok (.ireturn, 1) := by decide +kernel
theorem dX7_node_88 : decode cX7_node 88 = .ok (.new 62, 3) := by decide +kernel
theorem dX7_node_91 : decode cX7_node 91 = .ok (.dup, 1) := by decide +kernel
theorem dX7_node_92 : decode cX7_node 92 = .ok (.ldc 201, 2) := by decide +kernel
theorem dX7_node_94 : decode cX7_node 94 = .ok (.invokespecial 66, 3) := by decide +kernel
theorem dX7_node_97 : decode cX7_node 97 = .ok (.athrow, 1) := by decide +kernel
theorem dX7_link_0 : decode cX7_link 0 = .ok (.aload_n 0, 1) := by decide +kernel
theorem dX7_link_1 : decode cX7_link 1 = .ok (.getfield 10, 3) := by decide +kernel
theorem dX7_link_4 : decode cX7_link 4 = .ok (.iload_n 1, 1) := by decide +kernel
theorem dX7_link_5 : decode cX7_link 5 = .ok (.iload_n 2, 1) := by decide +kernel
theorem dX7_link_6 : decode cX7_link 6 = .ok (.invokevirtual 203, 3) := by decide +kernel
theorem dX7_link_9 : decode cX7_link 9 = .ok (.ifCond .eq 16, 3) := by decide +kernel
theorem dX7_link_12 : decode cX7_link 12 = .ok (.aload_n 0, 1) := by decide +kernel
theorem dX7_link_13 : decode cX7_link 13 = .ok (.getfield 10, 3) := by decide +kernel
theorem dX7_link_16 : decode cX7_link 16 = .ok (.iload_n 3, 1) := by decide +kernel
theorem dX7_link_17 : decode cX7_link 17 = .ok (.iload 4, 2) := by decide +kernel
theorem dX7_link_19 : decode cX7_link 19 = .ok (.invokevirtual 203, 3) := by decide +kernel
theorem dX7_link_22 : decode cX7_link 22 = .ok (.ifCond .ne 13, 3) := by decide +kernel
theorem dX7_link_25 : decode cX7_link 25 = .ok (.new 82, 3) := by decide +kernel
theorem dX7_link_28 : decode cX7_link 28 = .ok (.dup, 1) := by decide +kernel
theorem dX7_link_29 : decode cX7_link 29 = .ok (.ldc 204, 2) := by decide +kernel
theorem dX7_link_31 : decode cX7_link 31 = .ok (.invokespecial 86, 3) := by decide +kernel
theorem dX7_link_34 : decode cX7_link 34 = .ok (.athrow, 1) := by decide +kernel
theorem dX7_link_35 : decode cX7_link 35 = .ok (.iload_n 1, 1) := by decide +kernel
theorem dX7_link_36 : decode cX7_link 36 = .ok (.iload_n 3, 1) := by decide +kernel
theorem dX7_link_37 : decode cX7_link 37 = .ok (.if_icmp .ne 13, 3) := by decide +kernel
theorem dX7_link_40 : decode cX7_link 40 = .ok (.new 62, 3) := by decide +kernel
theorem dX7_link_43 : decode cX7_link 43 = .ok (.dup, 1) := by decide +kernel
theorem dX7_link_44 : decode cX7_link 44 = .ok (.ldc 206, 2) := by decide +kernel
theorem dX7_link_46 : decode cX7_link 46 = .ok (.invokespecial 66, 3) := by decide +kernel
theorem dX7_link_49 : decode cX7_link 49 = .ok (.athrow, 1) := by decide +kernel
theorem dX7_link_50 : decode cX7_link 50 = .ok (.aload_n 0, 1) := by decide +kernel
theorem dX7_link_51 : decode cX7_link 51 = .ok (.getfield 46, 3) := by decide +kernel
theorem dX7_link_54 : decode cX7_link 54 = .ok (.invokevirtual 208, 3) := by decide +kernel
theorem dX7_link_57 : decode cX7_link 57 = .ok (.ifCond .eq 13, 3) := by decide +kernel
theorem dX7_link_60 : decode cX7_link 60 = .ok (.new 73, 3) := by decide +kernel
theorem dX7_link_63 : decode cX7_link 63 = .ok (.dup, 1) := by decide +kernel
theorem dX7_link_64 : decode cX7_link 64 = .ok (.ldc 209, 2) := by decide +kernel
theorem dX7_link_66 : decode cX7_link 66 = .ok (.invokespecial 77, 3) := by decide +kernel
theorem dX7_link_69 : decode cX7_link 69 = .ok (.athrow, 1) := by decide +kernel
theorem dX7_link_70 : decode cX7_link 70 = .ok (.aload_n 0, 1) := by decide +kernel
theorem dX7_link_71 : decode cX7_link 71 = .ok (.getfield 46, 3) := by decide +kernel
theorem dX7_link_74 : decode cX7_link 74 = .ok (.iload_n 1, 1) := by decide +kernel
theorem dX7_link_75 : decode cX7_link 75 = .ok (.iload_n 2, 1) := by decide +kernel
theorem dX7_link_76 : decode cX7_link 76 = .ok (.iload_n 3, 1) := by decide +kernel
theorem dX7_link_77 : decode cX7_link 77 = .ok (.iload 4, 2) := by decide +kernel
theorem dX7_link_79 : decode cX7_link 79 = .ok (.invokevirtual 211, 3) := by decide +kernel
theorem dX7_link_82 : decode cX7_link 82 = .ok (.ireturn, 1) := by decide +kernel
theorem dX7_estimate_0 : decode cX7_estimate 0 = .ok (.aload_n 0, 1) := by decide +kernel
theorem dX7_estimate_1 : decode cX7_estimate 1 = .ok (.getfield 10, 3) := by decide +kernel
theorem dX7_estimate_4 : decode cX7_estimate 4 = .ok (.iload_n 1, 1) := by decide +kernel
theorem dX7_estimate_5 : decode cX7_estimate 5 = .ok (.invokevirtual 213, 3) := by decide +kernel
theorem dX7_estimate_8 : decode cX7_estimate 8 = .ok (.ifCond .ne 13, 3) := by decide +kernel
theorem dX7_estimate_11 : decode cX7_estimate 11 = .ok (.new 62, 3) := by decide +kernel
theorem dX7_estimate_14 : decode cX7_estimate 14 = .ok (.dup, 1) := by decide +kernel
theorem dX7_estimate_15 : decode cX7_estimate 15 = .ok (.ldc 216, 2) := by decide +kernel
theorem dX7_estimate_17 : decode cX7_estimate 17 = .ok (.invokespecial 66, 3) := by decide +kernel
theorem dX7_estimate_20 : decode cX7_estimate 20 = .ok (.athrow, 1) := by decide +kernel
theorem dX7_estimate_21 : decode cX7_estimate 21 = .ok (.aload_n 0, 1) := by decide +kernel
theorem dX7_estimate_22 : decode cX7_estimate 22 = .ok (.getfield 46, 3) := by decide +kernel
theorem dX7_estimate_25 : decode cX7_estimate 25 = .ok (.iload_n 1, 1) := by decide +kernel
theorem dX7_estimate_26 : decode cX7_estimate 26 = .ok (.invokevirtual 218, 3) := by decide +kernel
theorem dX7_estimate_29 : decode cX7_estimate 29 = .ok (.ireturn, 1) := by decide +kernel
theorem dX7_cost_0 : decode cX7_cost 0 = .ok (.aload_n 0, 1) := by decide +kernel
theorem dX7_cost_1 : decode cX7_cost 1 = .ok (.getfield 10, 3) := by decide +kernel
theorem dX7_cost_4 : decode cX7_cost 4 = .ok (.iload_n 1, 1) := by decide +kernel
theorem dX7_cost_5 : decode cX7_cost 5 = .ok (.invokevirtual 213, 3) := by decide +kernel
theorem dX7_cost_8 : decode cX7_cost 8 = .ok (.ifCond .ne 13, 3) := by decide +kernel
theorem dX7_cost_11 : decode cX7_cost 11 = .ok (.new 62, 3) := by decide +kernel
theorem dX7_cost_14 : decode cX7_cost 14 = .ok (.dup, 1) := by decide +kernel
theorem dX7_cost_15 : decode cX7_cost 15 = .ok (.ldc 216, 2) := by decide +kernel
theorem dX7_cost_17 : decode cX7_cost 17 = .ok (.invokespecial 66, 3) := by decide +kernel
theorem dX7_cost_20 : decode cX7_cost 20 = .ok (.athrow, 1) := by decide +kernel
theorem dX7_cost_21 : decode cX7_cost 21 = .ok (.aload_n 0, 1) := by decide +kernel
theorem dX7_cost_22 : decode cX7_cost 22 = .ok (.getfield 46, 3) := by decide +kernel
theorem dX7_cost_25 : decode cX7_cost 25 = .ok (.iload_n 1, 1) := by decide +kernel
theorem dX7_cost_26 : decode cX7_cost 26 = .ok (.invokevirtual 221, 3) := by decide +kernel
theorem dX7_cost_29 : decode cX7_cost 29 = .ok (.ireturn, 1) := by decide +kernel
theorem dX7_split_0 : decode cX7_split 0 = .ok (.aload_n 0, 1) := by decide +kernel
theorem dX7_split_1 : decode cX7_split 1 = .ok (.getfield 10, 3) := by decide +kernel
theorem dX7_split_4 : decode cX7_split 4 = .ok (.iload_n 1, 1) := by decide +kernel
theorem dX7_split_5 : decode cX7_split 5 = .ok (.invokevirtual 213, 3) := by decide +kernel
theorem dX7_split_8 : decode cX7_split 8 = .ok (.ifCond .ne 13, 3) := by decide +kernel
theorem dX7_split_11 : decode cX7_split 11 = .ok (.new 62, 3) := by decide +kernel
theorem dX7_split_14 : decode cX7_split 14 = .ok (.dup, 1) := by decide +kernel
theorem dX7_split_15 : decode cX7_split 15 = .ok (.ldc 216, 2) := by decide +kernel
theorem dX7_split_17 : decode cX7_split 17 = .ok (.invokespecial 66, 3) := by decide +kernel
theorem dX7_split_20 : decode cX7_split 20 = .ok (.athrow, 1) := by decide +kernel
theorem dX7_split_21 : decode cX7_split 21 = .ok (.aload_n 0, 1) := by decide +kernel
theorem dX7_split_22 : decode cX7_split 22 = .ok (.getfield 46, 3) := by decide +kernel
theorem dX7_split_25 : decode cX7_split 25 = .ok (.iload_n 1, 1) := by decide +kernel
theorem dX7_split_26 : decode cX7_split 26 = .ok (.invokevirtual 224, 3) := by decide +kernel
theorem dX7_split_29 : decode cX7_split 29 = .ok (.ireturn, 1) := by decide +kernel
theorem dX7_view_0 : decode cX7_view 0 = .ok (.aload_n 0, 1) := by decide +kernel
theorem dX7_view_1 : decode cX7_view 1 = .ok (.getfield 10, 3) := by decide +kernel
theorem dX7_view_4 : decode cX7_view 4 = .ok (.iload_n 1, 1) := by decide +kernel
theorem dX7_view_5 : decode cX7_view 5 = .ok (.iload_n 3, 1) := by decide +kernel
theorem dX7_view_6 : decode cX7_view 6 = .ok (.invokevirtual 203, 3) := by decide +kernel
theorem dX7_view_9 : decode cX7_view 9 = .ok (.ifCond .eq 16, 3) := by decide +kernel
theorem dX7_view_12 : decode cX7_view 12 = .ok (.aload_n 0, 1) := by decide +kernel
theorem dX7_view_13 : decode cX7_view 13 = .ok (.getfield 10, 3) := by decide +kernel
theorem dX7_view_16 : decode cX7_view 16 = .ok (.iload_n 2, 1) := by decide +kernel
theorem dX7_view_17 : decode cX7_view 17 = .ok (.iload 4, 2) := by decide +kernel
theorem dX7_view_19 : decode cX7_view 19 = .ok (.invokevirtual 203, 3) := by decide +kernel
theorem dX7_view_22 : decode cX7_view 22 = .ok (.ifCond .ne 13, 3) := by decide +kernel
theorem dX7_view_25 : decode cX7_view 25 = .ok (.new 82, 3) := by decide +kernel
theorem dX7_view_28 : decode cX7_view 28 = .ok (.dup, 1) := by decide +kernel
theorem dX7_view_29 : decode cX7_view 29 = .ok (.ldc 204, 2) := by decide +kernel
theorem dX7_view_31 : decode cX7_view 31 = .ok (.invokespecial 86, 3) := by decide +kernel
theorem dX7_view_34 : decode cX7_view 34 = .ok (.athrow, 1) := by decide +kernel
theorem dX7_view_35 : decode cX7_view 35 = .ok (.iload_n 1, 1) := by decide +kernel
theorem dX7_view_36 : decode cX7_view 36 = .ok (.iload_n 2, 1) := by decide +kernel
theorem dX7_view_37 : decode cX7_view 37 = .ok (.if_icmp .ne 13, 3) := by decide +kernel
theorem dX7_view_40 : decode cX7_view 40 = .ok (.new 62, 3) := by decide +kernel
theorem dX7_view_43 : decode cX7_view 43 = .ok (.dup, 1) := by decide +kernel
theorem dX7_view_44 : decode cX7_view 44 = .ok (.ldc 206, 2) := by decide +kernel
theorem dX7_view_46 : decode cX7_view 46 = .ok (.invokespecial 66, 3) := by decide +kernel
theorem dX7_view_49 : decode cX7_view 49 = .ok (.athrow, 1) := by decide +kernel
theorem dX7_view_50 : decode cX7_view 50 = .ok (.aload_n 0, 1) := by decide +kernel
theorem dX7_view_51 : decode cX7_view 51 = .ok (.getfield 53, 3) := by decide +kernel
theorem dX7_view_54 : decode cX7_view 54 = .ok (.iload_n 1, 1) := by decide +kernel
theorem dX7_view_55 : decode cX7_view 55 = .ok (.iload_n 2, 1) := by decide +kernel
theorem dX7_view_56 : decode cX7_view 56 = .ok (.iload_n 3, 1) := by decide +kernel
theorem dX7_view_57 : decode cX7_view 57 = .ok (.iload 4, 2) := by decide +kernel
theorem dX7_view_59 : decode cX7_view 59 = .ok (.invokevirtual 227, 3) := by decide +kernel
theorem dX7_view_62 : decode cX7_view 62 = .ok (.istore 5, 2) := by decide +kernel
theorem dX7_view_64 : decode cX7_view 64 = .ok (.iload 5, 2) := by decide +kernel
theorem dX7_view_66 : decode cX7_view 66 = .ok (.iconst (-1), 1) := by decide +kernel
theorem dX7_view_67 : decode cX7_view 67 = .ok (.if_icmp .ne 13, 3) := by decide +kernel
theorem dX7_view_70 : decode cX7_view 70 = .ok (.new 73, 3) := by decide +kernel
theorem dX7_view_73 : decode cX7_view 73 = .ok (.dup, 1) := by decide +kernel
theorem dX7_view_74 : decode cX7_view 74 = .ok (.ldc 228, 2) := by decide +kernel
theorem dX7_view_76 : decode cX7_view 76 = .ok (.invokespecial 77, 3) := by decide +kernel
theorem dX7_view_79 : decode cX7_view 79 = .ok (.athrow, 1) := by decide +kernel
theorem dX7_view_80 : decode cX7_view 80 = .ok (.iload 5, 2) := by decide +kernel
theorem dX7_view_82 : decode cX7_view 82 = .ok (.ireturn, 1) := by decide +kernel
theorem dX7_different_0 : decode cX7_different 0 = .ok (.aload_n 0, 1) := by decide +kernel
theorem dX7_different_1 : decode cX7_different 1 = .ok (.getfield 53, 3) := by decide +kernel
theorem dX7_different_4 : decode cX7_different 4 = .ok (.iload_n 1, 1) := by decide +kernel
theorem dX7_different_5 : decode cX7_different 5 = .ok (.invokevirtual 230, 3) := by decide +kernel
theorem dX7_different_8 : decode cX7_different 8 = .ok (.ifCond .ne 13, 3) := by decide +kernel
theorem dX7_different_11 : decode cX7_different 11 = .ok (.new 82, 3) := by decide +kernel
theorem dX7_different_14 : decode cX7_different 14 = .ok (.dup, 1) := by decide +kernel
theorem dX7_different_15 : decode cX7_different 15 = .ok (.ldc 231, 2) := by decide +kernel
theorem dX7_different_17 : decode cX7_different 17 = .ok (.invokespecial 86, 3) := by decide +kernel
theorem dX7_different_20 : decode cX7_different 20 = .ok (.athrow, 1) := by decide +kernel
theorem dX7_different_21 : decode cX7_different 21 = .ok (.aload_n 0, 1) := by decide +kernel
theorem dX7_different_22 : decode cX7_different 22 = .ok (.getfield 53, 3) := by decide +kernel
theorem dX7_different_25 : decode cX7_different 25 = .ok (.iload_n 1, 1) := by decide +kernel
theorem dX7_different_26 : decode cX7_different 26 = .ok (.invokevirtual 233, 3) := by decide +kernel
theorem dX7_different_29 : decode cX7_different 29 = .ok (.ireturn, 1) := by decide +kernel
theorem dX7_often_0 : decode cX7_often 0 = .ok (.aload_n 0, 1) := by decide +kernel
theorem dX7_often_1 : decode cX7_often 1 = .ok (.getfield 53, 3) := by decide +kernel
theorem dX7_often_4 : decode cX7_often 4 = .ok (.iload_n 1, 1) := by decide +kernel
theorem dX7_often_5 : decode cX7_often 5 = .ok (.iload_n 2, 1) := by decide +kernel
theorem dX7_often_6 : decode cX7_often 6 = .ok (.iload_n 3, 1) := by decide +kernel
theorem dX7_often_7 : decode cX7_often 7 = .ok (.invokevirtual 236, 3) := by decide +kernel
theorem dX7_often_10 : decode cX7_often 10 = .ok (.ifCond .ne 13, 3) := by decide +kernel
theorem dX7_often_13 : decode cX7_often 13 = .ok (.new 82, 3) := by decide +kernel
theorem dX7_often_16 : decode cX7_often 16 = .ok (.dup, 1) := by decide +kernel
theorem dX7_often_17 : decode cX7_often 17 = .ok (.ldc 239, 2) := by decide +kernel
theorem dX7_often_19 : decode cX7_often 19 = .ok (.invokespecial 86, 3) := by decide +kernel
theorem dX7_often_22 : decode cX7_often 22 = .ok (.athrow, 1) := by decide +kernel
theorem dX7_often_23 : decode cX7_often 23 = .ok (.aload_n 0, 1) := by decide +kernel
theorem dX7_often_24 : decode cX7_often 24 = .ok (.getfield 53, 3) := by decide +kernel
theorem dX7_often_27 : decode cX7_often 27 = .ok (.iload_n 1, 1) := by decide +kernel
theorem dX7_often_28 : decode cX7_often 28 = .ok (.iload_n 2, 1) := by decide +kernel
theorem dX7_often_29 : decode cX7_often 29 = .ok (.iload_n 3, 1) := by decide +kernel
theorem dX7_often_30 : decode cX7_often 30 = .ok (.invokevirtual 241, 3) := by decide +kernel
theorem dX7_often_33 : decode cX7_often 33 = .ok (.ireturn, 1) := by decide +kernel
theorem dX7_ways_0 : decode cX7_ways 0 = .ok (.aload_n 0, 1) := by decide +kernel
theorem dX7_ways_1 : decode cX7_ways 1 = .ok (.getfield 10, 3) := by decide +kernel
theorem dX7_ways_4 : decode cX7_ways 4 = .ok (.iload_n 1, 1) := by decide +kernel
theorem dX7_ways_5 : decode cX7_ways 5 = .ok (.invokevirtual 78, 3) := by decide +kernel
theorem dX7_ways_8 : decode cX7_ways 8 = .ok (.astore_n 2, 1) := by decide +kernel
theorem dX7_ways_9 : decode cX7_ways 9 = .ok (.aload_n 2, 1) := by decide +kernel
theorem dX7_ways_10 : decode cX7_ways 10 = .ok (.ifnonnull 13, 3) := by decide +kernel
theorem dX7_ways_13 : decode cX7_ways 13 = .ok (.new 82, 3) := by decide +kernel
theorem dX7_ways_16 : decode cX7_ways 16 = .ok (.dup, 1) := by decide +kernel
theorem dX7_ways_17 : decode cX7_ways 17 = .ok (.ldc 84, 2) := by decide +kernel
theorem dX7_ways_19 : decode cX7_ways 19 = .ok (.invokespecial 86, 3) := by decide +kernel
theorem dX7_ways_22 : decode cX7_ways 22 = .ok (.athrow, 1) := by decide +kernel
theorem dX7_ways_23 : decode cX7_ways 23 = .ok (.aload_n 2, 1) := by decide +kernel
theorem dX7_ways_24 : decode cX7_ways 24 = .ok (.iconst 1, 1) := by decide +kernel
theorem dX7_ways_25 : decode cX7_ways 25 = .ok (.invokevirtual 244, 3) := by decide +kernel
theorem dX7_ways_28 : decode cX7_ways 28 = .ok (.ifCond .ne 13, 3) := by decide +kernel
theorem dX7_ways_31 : decode cX7_ways 31 = .ok (.new 73, 3) := by decide +kernel
theorem dX7_ways_34 : decode cX7_ways 34 = .ok (.dup, 1) := by decide +kernel
theorem dX7_ways_35 : decode cX7_ways 35 = .ok (.ldc 246, 2) := by decide +kernel
theorem dX7_ways_37 : decode cX7_ways 37 = .ok (.invokespecial 77, 3) := by decide +kernel
theorem dX7_ways_40 : decode cX7_ways 40 = .ok (.athrow, 1) := by decide +kernel
theorem dX7_ways_41 : decode cX7_ways 41 = .ok (.aload_n 2, 1) := by decide +kernel
theorem dX7_ways_42 : decode cX7_ways 42 = .ok (.invokevirtual 248, 3) := by decide +kernel
theorem dX7_ways_45 : decode cX7_ways 45 = .ok (.ireturn, 1) := by decide +kernel
theorem dX7_isKnownValue_0 : decode cX7_isKnownValue 0 = .ok (.iload_n 0, 1) := by decide +kernel
theorem dX7_isKnownValue_1 : decode cX7_isKnownValue 1 = .ok (.bipush (-99), 2) := by decide +kernel
theorem dX7_isKnownValue_3 : decode cX7_isKnownValue 3 = .ok (.if_icmp .lt 13, 3) := by decide +kernel
theorem dX7_isKnownValue_6 : decode cX7_isKnownValue 6 = .ok (.iload_n 0, 1) := by decide +kernel
theorem dX7_isKnownValue_7 : decode cX7_isKnownValue 7 = .ok (.bipush 99, 2) := by decide +kernel
theorem dX7_isKnownValue_9 : decode cX7_isKnownValue 9 = .ok (.if_icmp .gt 7, 3) := by decide +kernel
theorem dX7_isKnownValue_12 : decode cX7_isKnownValue 12 = .ok (.iconst 1, 1) := by decide +kernel
theorem dX7_isKnownValue_13 : decode cX7_isKnownValue 13 = .ok (.goto 4, 3) := by decide +kernel
theorem dX7_isKnownValue_16 : decode cX7_isKnownValue 16 = .ok (.iconst 0, 1) := by decide +kernel
theorem dX7_isKnownValue_17 : decode cX7_isKnownValue 17 = .ok (.ireturn, 1) := by decide +kernel
theorem dX7_areEqual_0 : decode cX7_areEqual 0 = .ok (.iload_n 0, 1) := by decide +kernel
theorem dX7_areEqual_1 : decode cX7_areEqual 1 = .ok (.sipush (-1000), 3) := by decide +kernel
theorem dX7_areEqual_4 : decode cX7_areEqual 4 = .ok (.if_icmp .eq 12, 3) := by decide +kernel
theorem dX7_areEqual_7 : decode cX7_areEqual 7 = .ok (.iload_n 0, 1) := by decide +kernel
theorem dX7_areEqual_8 : decode cX7_areEqual 8 = .ok (.iload_n 1, 1) := by decide +kernel
theorem dX7_areEqual_9 : decode cX7_areEqual 9 = .ok (.if_icmp .ne 7, 3) := by decide +kernel
theorem dX7_areEqual_12 : decode cX7_areEqual 12 = .ok (.iconst 1, 1) := by decide +kernel
theorem dX7_areEqual_13 : decode cX7_areEqual 13 = .ok (.goto 4, 3) := by decide +kernel
theorem dX7_areEqual_16 : decode cX7_areEqual 16 = .ok (.iconst 0, 1) := by decide +kernel
theorem dX7_areEqual_17 : decode cX7_areEqual 17 = .ok (.ireturn, 1) := by decide +kernel
theorem dX7_isTrue_0 : decode cX7_isTrue 0 = .ok (.iload_n 0, 1) := by decide +kernel
theorem dX7_isTrue_1 : decode cX7_isTrue 1 = .ok (.lookupswitch 53 #[(4, 27), (5, 40)], 27) := by decide +kernel
theorem dX7_isTrue_28 : decode cX7_isTrue 28 = .ok (.iload_n 1, 1) := by decide +kernel
theorem dX7_isTrue_29 : decode cX7_isTrue 29 = .ok (.sipush (-1000), 3) := by decide +kernel
theorem dX7_isTrue_32 : decode cX7_isTrue 32 = .ok (.if_icmp .ne 7, 3) := by decide +kernel
theorem dX7_isTrue_35 : decode cX7_isTrue 35 = .ok (.iconst 1, 1) := by decide +kernel
theorem dX7_isTrue_36 : decode cX7_isTrue 36 = .ok (.goto 4, 3) := by decide +kernel
theorem dX7_isTrue_39 : decode cX7_isTrue 39 = .ok (.iconst 0, 1) := by decide +kernel
theorem dX7_isTrue_40 : decode cX7_isTrue 40 = .ok (.ireturn, 1) := by decide +kernel
theorem dX7_isTrue_41 : decode cX7_isTrue 41 = .ok (.iload_n 1, 1) := by decide +kernel
theorem dX7_isTrue_42 : decode cX7_isTrue 42 = .ok (.sipush (-1000), 3) := by decide +kernel
theorem dX7_isTrue_45 : decode cX7_isTrue 45 = .ok (.if_icmp .eq 7, 3) := by decide +kernel
theorem dX7_isTrue_48 : decode cX7_isTrue 48 = .ok (.iconst 1, 1) := by decide +kernel
theorem dX7_isTrue_49 : decode cX7_isTrue 49 = .ok (.goto 4, 3) := by decide +kernel
theorem dX7_isTrue_52 : decode cX7_isTrue 52 = .ok (.iconst 0, 1) := by decide +kernel
theorem dX7_isTrue_53 : decode cX7_isTrue 53 = .ok (.ireturn, 1) := by decide +kernel
theorem dX7_isTrue_54 : decode cX7_isTrue 54 = .ok (.iload_n 1, 1) := by decide +kernel
theorem dX7_isTrue_55 : decode cX7_isTrue 55 = .ok (.sipush (-1000), 3) := by decide +kernel
theorem dX7_isTrue_58 : decode cX7_isTrue 58 = .ok (.if_icmp .eq 23, 3) := by decide +kernel
theorem dX7_isTrue_61 : decode cX7_isTrue 61 = .ok (.iload_n 2, 1) := by decide +kernel
theorem dX7_isTrue_62 : decode cX7_isTrue 62 = .ok (.sipush (-1000), 3) := by decide +kernel
theorem dX7_isTrue_65 : decode cX7_isTrue 65 = .ok (.if_icmp .eq 16, 3) := by decide +kernel
theorem dX7_isTrue_68 : decode cX7_isTrue 68 = .ok (.iload_n 0, 1) := by decide +kernel
theorem dX7_isTrue_69 : decode cX7_isTrue 69 = .ok (.iload_n 1, 1) := by decide +kernel
theorem dX7_isTrue_70 : decode cX7_isTrue 70 = .ok (.iload_n 2, 1) := by decide +kernel
theorem dX7_isTrue_71 : decode cX7_isTrue 71 = .ok (.invokestatic 251, 3) := by decide +kernel
theorem dX7_isTrue_74 : decode cX7_isTrue 74 = .ok (.ifCond .eq 7, 3) := by decide +kernel
theorem dX7_isTrue_77 : decode cX7_isTrue 77 = .ok (.iconst 1, 1) := by decide +kernel
theorem dX7_isTrue_78 : decode cX7_isTrue 78 = .ok (.goto 4, 3) := by decide +kernel
theorem dX7_isTrue_81 : decode cX7_isTrue 81 = .ok (.iconst 0, 1) := by decide +kernel
theorem dX7_isTrue_82 : decode cX7_isTrue 82 = .ok (.ireturn, 1) := by decide +kernel
theorem dX7_holds_0 : decode cX7_holds 0 = .ok (.iload_n 0, 1) := by decide +kernel
theorem dX7_holds_1 : decode cX7_holds 1 = .ok (.tableswitch 75 0 3 #[31, 42, 53, 64], 31) := by decide +kernel
theorem dX7_holds_32 : decode cX7_holds 32 = .ok (.iload_n 1, 1) := by decide +kernel
theorem dX7_holds_33 : decode cX7_holds 33 = .ok (.iload_n 2, 1) := by decide +kernel
theorem dX7_holds_34 : decode cX7_holds 34 = .ok (.if_icmp .ne 7, 3) := by decide +kernel
theorem dX7_holds_37 : decode cX7_holds 37 = .ok (.iconst 1, 1) := by decide +kernel
theorem dX7_holds_38 : decode cX7_holds 38 = .ok (.goto 4, 3) := by decide +kernel
theorem dX7_holds_41 : decode cX7_holds 41 = .ok (.iconst 0, 1) := by decide +kernel
theorem dX7_holds_42 : decode cX7_holds 42 = .ok (.ireturn, 1) := by decide +kernel
theorem dX7_holds_43 : decode cX7_holds 43 = .ok (.iload_n 1, 1) := by decide +kernel
theorem dX7_holds_44 : decode cX7_holds 44 = .ok (.iload_n 2, 1) := by decide +kernel
theorem dX7_holds_45 : decode cX7_holds 45 = .ok (.if_icmp .eq 7, 3) := by decide +kernel
theorem dX7_holds_48 : decode cX7_holds 48 = .ok (.iconst 1, 1) := by decide +kernel
theorem dX7_holds_49 : decode cX7_holds 49 = .ok (.goto 4, 3) := by decide +kernel
theorem dX7_holds_52 : decode cX7_holds 52 = .ok (.iconst 0, 1) := by decide +kernel
theorem dX7_holds_53 : decode cX7_holds 53 = .ok (.ireturn, 1) := by decide +kernel
theorem dX7_holds_54 : decode cX7_holds 54 = .ok (.iload_n 1, 1) := by decide +kernel
theorem dX7_holds_55 : decode cX7_holds 55 = .ok (.iload_n 2, 1) := by decide +kernel
theorem dX7_holds_56 : decode cX7_holds 56 = .ok (.if_icmp .ge 7, 3) := by decide +kernel
theorem dX7_holds_59 : decode cX7_holds 59 = .ok (.iconst 1, 1) := by decide +kernel
theorem dX7_holds_60 : decode cX7_holds 60 = .ok (.goto 4, 3) := by decide +kernel
theorem dX7_holds_63 : decode cX7_holds 63 = .ok (.iconst 0, 1) := by decide +kernel
theorem dX7_holds_64 : decode cX7_holds 64 = .ok (.ireturn, 1) := by decide +kernel
theorem dX7_holds_65 : decode cX7_holds 65 = .ok (.iload_n 1, 1) := by decide +kernel
theorem dX7_holds_66 : decode cX7_holds 66 = .ok (.iload_n 2, 1) := by decide +kernel
theorem dX7_holds_67 : decode cX7_holds 67 = .ok (.if_icmp .le 7, 3) := by decide +kernel
theorem dX7_holds_70 : decode cX7_holds 70 = .ok (.iconst 1, 1) := by decide +kernel
theorem dX7_holds_71 : decode cX7_holds 71 = .ok (.goto 4, 3) := by decide +kernel
theorem dX7_holds_74 : decode cX7_holds 74 = .ok (.iconst 0, 1) := by decide +kernel
theorem dX7_holds_75 : decode cX7_holds 75 = .ok (.ireturn, 1) := by decide +kernel
theorem dX7_holds_76 : decode cX7_holds 76 = .ok (.iconst 0, 1) := by decide +kernel
theorem dX7_holds_77 : decode cX7_holds 77 = .ok (.ireturn, 1) := by decide +kernel
theorem dJ9_max_7cf53_0 : decode cJ9_max_7cf53 0 = .ok (.iload_n 0, 1) := by decide +kernel
theorem dJ9_max_7cf53_1 : decode cJ9_max_7cf53 1 = .ok (.iload_n 1, 1) := by decide +kernel
theorem dJ9_max_7cf53_2 : decode cJ9_max_7cf53 2 = .ok (.if_icmp .lt 7, 3) := by decide +kernel
theorem dJ9_max_7cf53_5 : decode cJ9_max_7cf53 5 = .ok (.iload_n 0, 1) := by decide +kernel
theorem dJ9_max_7cf53_6 : decode cJ9_max_7cf53 6 = .ok (.goto 4, 3) := by decide +kernel
theorem dJ9_max_7cf53_9 : decode cJ9_max_7cf53 9 = .ok (.iload_n 1, 1) := by decide +kernel
theorem dJ9_max_7cf53_10 : decode cJ9_max_7cf53 10 = .ok (.ireturn, 1) := by decide +kernel
theorem dJ9_min_7cf53_0 : decode cJ9_min_7cf53 0 = .ok (.iload_n 0, 1) := by decide +kernel
theorem dJ9_min_7cf53_1 : decode cJ9_min_7cf53 1 = .ok (.iload_n 1, 1) := by decide +kernel
theorem dJ9_min_7cf53_2 : decode cJ9_min_7cf53 2 = .ok (.if_icmp .gt 7, 3) := by decide +kernel
theorem dJ9_min_7cf53_5 : decode cJ9_min_7cf53 5 = .ok (.iload_n 0, 1) := by decide +kernel
theorem dJ9_min_7cf53_6 : decode cJ9_min_7cf53 6 = .ok (.goto 4, 3) := by decide +kernel
theorem dJ9_min_7cf53_9 : decode cJ9_min_7cf53 9 = .ok (.iload_n 1, 1) := by decide +kernel
theorem dJ9_min_7cf53_10 : decode cJ9_min_7cf53 10 = .ok (.ireturn, 1) := by decide +kernel
