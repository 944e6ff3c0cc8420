theorem dX9_init_0 : decode cX9_init 0 = .ok (.aload_n 0, 1) := by decide +kernel
theorem dX9_init_1 : decode cX9_init 1 = .ok (.invokespecial 3, 3) := by decide +kernel
theorem dX9_init_4 : decode cX9_init 4 = .ok (.aload_n 0, 1) := by decide +kernel
theorem dX9_init_5 : decode cX9_init 5 = .ok (.new 9, 3) := by decide +kernel
theorem dX9_init_8 : decode cX9_init 8 = .ok (.dup, 1) := by decide +kernel
theorem dX9_init_9 : decode cX9_init 9 = .ok (.invokespecial 11, 3) := by decide +kernel
theorem dX9_init_12 : decode cX9_init 12 = .ok (.putfield 12, 3) := by decide +kernel
theorem dX9_init_15 : decode cX9_init 15 = .ok (.aload_n 0, 1) := by decide +kernel
theorem dX9_init_16 : decode cX9_init 16 = .ok (.sipush 400, 3) := by decide +kernel
theorem dX9_init_19 : decode cX9_init 19 = .ok (.newarray .int, 2) := by decide +kernel
theorem dX9_init_21 : decode cX9_init 21 = .ok (.putfield 18, 3) := by decide +kernel
theorem dX9_init_24 : decode cX9_init 24 = .ok (.aload_n 0, 1) := by decide +kernel
theorem dX9_init_25 : decode cX9_init 25 = .ok (.bipush 24, 2) := by decide +kernel
theorem dX9_init_27 : decode cX9_init 27 = .ok (.newarray .boolean, 2) := by decide +kernel
theorem dX9_init_29 : decode cX9_init 29 = .ok (.putfield 22, 3) := by decide +kernel
theorem dX9_init_32 : decode cX9_init 32 = .ok (.return_, 1) := by decide +kernel
theorem dX9_begin_0 : decode cX9_begin 0 = .ok (.aload_n 0, 1) := by decide +kernel
theorem dX9_begin_1 : decode cX9_begin 1 = .ok (.getfield 12, 3) := by decide +kernel
theorem dX9_begin_4 : decode cX9_begin 4 = .ok (.iload_n 1, 1) := by decide +kernel
theorem dX9_begin_5 : decode cX9_begin 5 = .ok (.iload_n 2, 1) := by decide +kernel
theorem dX9_begin_6 : decode cX9_begin 6 = .ok (.invokevirtual 26, 3) := by decide +kernel
theorem dX9_begin_9 : decode cX9_begin 9 = .ok (.return_, 1) := by decide +kernel
theorem dX9_costsOf_0 : decode cX9_costsOf 0 = .ok (.aload_n 1, 1) := by decide +kernel
theorem dX9_costsOf_1 : decode cX9_costsOf 1 = .ok (.invokevirtual 30, 3) := by decide +kernel
theorem dX9_costsOf_4 : decode cX9_costsOf 4 = .ok (.istore_n 3, 1) := by decide +kernel
theorem dX9_costsOf_5 : decode cX9_costsOf 5 = .ok (.aload_n 0, 1) := by decide +kernel
theorem dX9_costsOf_6 : decode cX9_costsOf 6 = .ok (.aload_n 1, 1) := by decide +kernel
theorem dX9_costsOf_7 : decode cX9_costsOf 7 = .ok (.iload_n 2, 1) := by decide +kernel
theorem dX9_costsOf_8 : decode cX9_costsOf 8 = .ok (.invokevirtual 34, 3) := by decide +kernel
theorem dX9_costsOf_11 : decode cX9_costsOf 11 = .ok (.istore 4, 2) := by decide +kernel
theorem dX9_costsOf_13 : decode cX9_costsOf 13 = .ok (.iload 4, 2) := by decide +kernel
theorem dX9_costsOf_15 : decode cX9_costsOf 15 = .ok (.ifCond .ne 5, 3) := by decide +kernel
theorem dX9_costsOf_18 : decode cX9_costsOf 18 = .ok (.iconst 0, 1) := by decide +kernel
theorem dX9_costsOf_19 : decode cX9_costsOf 19 = .ok (.ireturn, 1) := by decide +kernel
theorem dX9_costsOf_20 : decode cX9_costsOf 20 = .ok (.aload_n 1, 1) := by decide +kernel
theorem dX9_costsOf_21 : decode cX9_costsOf 21 = .ok (.iload_n 2, 1) := by decide +kernel
theorem dX9_costsOf_22 : decode cX9_costsOf 22 = .ok (.invokevirtual 38, 3) := by decide +kernel
theorem dX9_costsOf_25 : decode cX9_costsOf 25 = .ok (.istore 5, 2) := by decide +kernel
theorem dX9_costsOf_27 : decode cX9_costsOf 27 = .ok (.iload_n 3, 1) := by decide +kernel
theorem dX9_costsOf_28 : decode cX9_costsOf 28 = .ok (.istore 6, 2) := by decide +kernel
theorem dX9_costsOf_30 : decode cX9_costsOf 30 = .ok (.iload 6, 2) := by decide +kernel
theorem dX9_costsOf_32 : decode cX9_costsOf 32 = .ok (.ifCond .lt 114, 3) := by decide +kernel
theorem dX9_costsOf_35 : decode cX9_costsOf 35 = .ok (.iconst 0, 1) := by decide +kernel
theorem dX9_costsOf_36 : decode cX9_costsOf 36 = .ok (.istore 7, 2) := by decide +kernel
theorem dX9_costsOf_38 : decode cX9_costsOf 38 = .ok (.iload 7, 2) := by decide +kernel
theorem dX9_costsOf_40 : decode cX9_costsOf 40 = .ok (.bipush 16, 2) := by decide +kernel
theorem dX9_costsOf_42 : decode cX9_costsOf 42 = .ok (.if_icmp .ge 98, 3) := by decide +kernel
theorem dX9_costsOf_45 : decode cX9_costsOf 45 = .ok (.ldc 42, 2) := by decide +kernel
theorem dX9_costsOf_47 : decode cX9_costsOf 47 = .ok (.istore 8, 2) := by decide +kernel
theorem dX9_costsOf_49 : decode cX9_costsOf 49 = .ok (.iload 6, 2) := by decide +kernel
theorem dX9_costsOf_51 : decode cX9_costsOf 51 = .ok (.iload 4, 2) := by decide +kernel
theorem dX9_costsOf_53 : decode cX9_costsOf 53 = .ok (.if_icmp .lt 9, 3) := by decide +kernel
theorem dX9_costsOf_56 : decode cX9_costsOf 56 = .ok (.iconst 0, 1) := by decide +kernel
theorem dX9_costsOf_57 : decode cX9_costsOf 57 = .ok (.istore 8, 2) := by decide +kernel
theorem dX9_costsOf_59 : decode cX9_costsOf 59 = .ok (.goto 65, 3) := by decide +kernel
theorem dX9_costsOf_62 : decode cX9_costsOf 62 = .ok (.aload_n 1, 1) := by decide +kernel
theorem dX9_costsOf_63 : decode cX9_costsOf 63 = .ok (.iload_n 2, 1) := by decide +kernel
theorem dX9_costsOf_64 : decode cX9_costsOf 64 = .ok (.iload 6, 2) := by decide +kernel
theorem dX9_costsOf_66 : decode cX9_costsOf 66 = .ok (.invokevirtual 43, 3) := by decide +kernel
theorem dX9_costsOf_69 : decode cX9_costsOf 69 = .ok (.bipush (-2), 2) := by decide +kernel
theorem dX9_costsOf_71 : decode cX9_costsOf 71 = .ok (.if_icmp .eq 53, 3) := by decide +kernel
theorem dX9_costsOf_74 : decode cX9_costsOf 74 = .ok (.aload_n 0, 1) := by decide +kernel
theorem dX9_costsOf_75 : decode cX9_costsOf 75 = .ok (.aload_n 1, 1) := by decide +kernel
theorem dX9_costsOf_76 : decode cX9_costsOf 76 = .ok (.iload_n 2, 1) := by decide +kernel
theorem dX9_costsOf_77 : decode cX9_costsOf 77 = .ok (.iload 6, 2) := by decide +kernel
theorem dX9_costsOf_79 : decode cX9_costsOf 79 = .ok (.invokevirtual 43, 3) := by decide +kernel
theorem dX9_costsOf_82 : decode cX9_costsOf 82 = .ok (.iload 6, 2) := by decide +kernel
theorem dX9_costsOf_84 : decode cX9_costsOf 84 = .ok (.iload 7, 2) := by decide +kernel
theorem dX9_costsOf_86 : decode cX9_costsOf 86 = .ok (.invokevirtual 47, 3) := by decide +kernel
theorem dX9_costsOf_89 : decode cX9_costsOf 89 = .ok (.aload_n 0, 1) := by decide +kernel
theorem dX9_costsOf_90 : decode cX9_costsOf 90 = .ok (.aload_n 1, 1) := by decide +kernel
theorem dX9_costsOf_91 : decode cX9_costsOf 91 = .ok (.iload_n 2, 1) := by decide +kernel
theorem dX9_costsOf_92 : decode cX9_costsOf 92 = .ok (.iload 6, 2) := by decide +kernel
theorem dX9_costsOf_94 : decode cX9_costsOf 94 = .ok (.iload 7, 2) := by decide +kernel
theorem dX9_costsOf_96 : decode cX9_costsOf 96 = .ok (.invokevirtual 51, 3) := by decide +kernel
theorem dX9_costsOf_99 : decode cX9_costsOf 99 = .ok (.invokestatic 55, 3) := by decide +kernel
theorem dX9_costsOf_102 : decode cX9_costsOf 102 = .ok (.istore 8, 2) := by decide +kernel
theorem dX9_costsOf_104 : decode cX9_costsOf 104 = .ok (.iload 6, 2) := by decide +kernel
theorem dX9_costsOf_106 : decode cX9_costsOf 106 = .ok (.iload 5, 2) := by decide +kernel
theorem dX9_costsOf_108 : decode cX9_costsOf 108 = .ok (.if_icmp .lt 12, 3) := by decide +kernel
theorem dX9_costsOf_111 : decode cX9_costsOf 111 = .ok (.iload 8, 2) := by decide +kernel
theorem dX9_costsOf_113 : decode cX9_costsOf 113 = .ok (.iconst 3, 1) := by decide +kernel
theorem dX9_costsOf_114 : decode cX9_costsOf 114 = .ok (.invokestatic 55, 3) := by decide +kernel
theorem dX9_costsOf_117 : decode cX9_costsOf 117 = .ok (.goto 5, 3) := by decide +kernel
theorem dX9_costsOf_120 : decode cX9_costsOf 120 = .ok (.iload 8, 2) := by decide +kernel
theorem dX9_costsOf_122 : decode cX9_costsOf 122 = .ok (.istore 8, 2) := by decide +kernel
theorem dX9_costsOf_124 : decode cX9_costsOf 124 = .ok (.aload_n 0, 1) := by decide +kernel
theorem dX9_costsOf_125 : decode cX9_costsOf 125 = .ok (.iload 6, 2) := by decide +kernel
theorem dX9_costsOf_127 : decode cX9_costsOf 127 = .ok (.iload 7, 2) := by decide +kernel
theorem dX9_costsOf_129 : decode cX9_costsOf 129 = .ok (.iload 8, 2) := by decide +kernel
theorem dX9_costsOf_131 : decode cX9_costsOf 131 = .ok (.invokevirtual 60, 3) := by decide +kernel
theorem dX9_costsOf_134 : decode cX9_costsOf 134 = .ok (.iinc 7 1, 3) := by decide +kernel
theorem dX9_costsOf_137 : decode cX9_costsOf 137 = .ok (.goto (-99), 3) := by decide +kernel
theorem dX9_costsOf_140 : decode cX9_costsOf 140 = .ok (.iinc 6 (-1), 3) := by decide +kernel
theorem dX9_costsOf_143 : decode cX9_costsOf 143 = .ok (.goto (-113), 3) := by decide +kernel
theorem dX9_costsOf_146 : decode cX9_costsOf 146 = .ok (.bipush 6, 2) := by decide +kernel
theorem dX9_costsOf_148 : decode cX9_costsOf 148 = .ok (.aload_n 0, 1) := by decide +kernel
theorem dX9_costsOf_149 : decode cX9_costsOf 149 = .ok (.iload_n 3, 1) := by decide +kernel
theorem dX9_costsOf_150 : decode cX9_costsOf 150 = .ok (.invokevirtual 64, 3) := by decide +kernel
theorem dX9_costsOf_153 : decode cX9_costsOf 153 = .ok (.iadd, 1) := by decide +kernel
theorem dX9_costsOf_154 : decode cX9_costsOf 154 = .ok (.ireturn, 1) := by decide +kernel
theorem dX9_compare_0 : decode cX9_compare 0 = .ok (.iconst 0, 1) := by decide +kernel
theorem dX9_compare_1 : decode cX9_compare 1 = .ok (.istore_n 3, 1) := by decide +kernel
theorem dX9_compare_2 : decode cX9_compare 2 = .ok (.iconst 0, 1) := by decide +kernel
theorem dX9_compare_3 : decode cX9_compare 3 = .ok (.istore 4, 2) := by decide +kernel
theorem dX9_compare_5 : decode cX9_compare 5 = .ok (.iload 4, 2) := by decide +kernel
theorem dX9_compare_7 : decode cX9_compare 7 = .ok (.aload_n 1, 1) := by decide +kernel
theorem dX9_compare_8 : decode cX9_compare 8 = .ok (.invokevirtual 30, 3) := by decide +kernel
theorem dX9_compare_11 : decode cX9_compare 11 = .ok (.if_icmp .ge 67, 3) := by decide +kernel
theorem dX9_compare_14 : decode cX9_compare 14 = .ok (.iload 4, 2) := by decide +kernel
theorem dX9_compare_16 : decode cX9_compare 16 = .ok (.bipush 24, 2) := by decide +kernel
theorem dX9_compare_18 : decode cX9_compare 18 = .ok (.if_icmp .ge 60, 3) := by decide +kernel
theorem dX9_compare_21 : decode cX9_compare 21 = .ok (.aload_n 0, 1) := by decide +kernel
theorem dX9_compare_22 : decode cX9_compare 22 = .ok (.getfield 22, 3) := by decide +kernel
theorem dX9_compare_25 : decode cX9_compare 25 = .ok (.iload 4, 2) := by decide +kernel
theorem dX9_compare_27 : decode cX9_compare 27 = .ok (.aload_n 1, 1) := by decide +kernel
theorem dX9_compare_28 : decode cX9_compare 28 = .ok (.iload_n 2, 1) := by decide +kernel
theorem dX9_compare_29 : decode cX9_compare 29 = .ok (.iload 4, 2) := by decide +kernel
theorem dX9_compare_31 : decode cX9_compare 31 = .ok (.invokevirtual 43, 3) := by decide +kernel
theorem dX9_compare_34 : decode cX9_compare 34 = .ok (.aload_n 0, 1) := by decide +kernel
theorem dX9_compare_35 : decode cX9_compare 35 = .ok (.getfield 12, 3) := by decide +kernel
theorem dX9_compare_38 : decode cX9_compare 38 = .ok (.iload_n 2, 1) := by decide +kernel
theorem dX9_compare_39 : decode cX9_compare 39 = .ok (.iload 4, 2) := by decide +kernel
theorem dX9_compare_41 : decode cX9_compare 41 = .ok (.invokevirtual 43, 3) := by decide +kernel
theorem dX9_compare_44 : decode cX9_compare 44 = .ok (.if_icmp .ne 7, 3) := by decide +kernel
theorem dX9_compare_47 : decode cX9_compare 47 = .ok (.iconst 1, 1) := by decide +kernel
theorem dX9_compare_48 : decode cX9_compare 48 = .ok (.goto 4, 3) := by decide +kernel
theorem dX9_compare_51 : decode cX9_compare 51 = .ok (.iconst 0, 1) := by decide +kernel
theorem dX9_compare_52 : decode cX9_compare 52 = .ok (.bastore, 1) := by decide +kernel
theorem dX9_compare_53 : decode cX9_compare 53 = .ok (.aload_n 0, 1) := by decide +kernel
theorem dX9_compare_54 : decode cX9_compare 54 = .ok (.getfield 22, 3) := by decide +kernel
theorem dX9_compare_57 : decode cX9_compare 57 = .ok (.iload 4, 2) := by decide +kernel
theorem dX9_compare_59 : decode cX9_compare 59 = .ok (.baload, 1) := by decide +kernel
theorem dX9_compare_60 : decode cX9_compare 60 = .ok (.ifCond .eq 7, 3) := by decide +kernel
theorem dX9_compare_63 : decode cX9_compare 63 = .ok (.iload_n 3, 1) := by decide +kernel
theorem dX9_compare_64 : decode cX9_compare 64 = .ok (.goto 7, 3) := by decide +kernel
theorem dX9_compare_67 : decode cX9_compare 67 = .ok (.iload 4, 2) := by decide +kernel
theorem dX9_compare_69 : decode cX9_compare 69 = .ok (.iconst 1, 1) := by decide +kernel
theorem dX9_compare_70 : decode cX9_compare 70 = .ok (.iadd, 1) := by decide +kernel
theorem dX9_compare_71 : decode cX9_compare 71 = .ok (.istore_n 3, 1) := by decide +kernel
theorem dX9_compare_72 : decode cX9_compare 72 = .ok (.iinc 4 1, 3) := by decide +kernel
theorem dX9_compare_75 : decode cX9_compare 75 = .ok (.goto (-70), 3) := by decide +kernel
theorem dX9_compare_78 : decode cX9_compare 78 = .ok (.iload_n 3, 1) := by decide +kernel
theorem dX9_compare_79 : decode cX9_compare 79 = .ok (.ireturn, 1) := by decide +kernel
theorem dX9_isLikeAt_0 : decode cX9_isLikeAt 0 = .ok (.iload_n 1, 1) := by decide +kernel
theorem dX9_isLikeAt_1 : decode cX9_isLikeAt 1 = .ok (.ifCond .lt 22, 3) := by decide +kernel
theorem dX9_isLikeAt_4 : decode cX9_isLikeAt 4 = .ok (.iload_n 1, 1) := by decide +kernel
theorem dX9_isLikeAt_5 : decode cX9_isLikeAt 5 = .ok (.bipush 24, 2) := by decide +kernel
theorem dX9_isLikeAt_7 : decode cX9_isLikeAt 7 = .ok (.if_icmp .ge 16, 3) := by decide +kernel
theorem dX9_isLikeAt_10 : decode cX9_isLikeAt 10 = .ok (.aload_n 0, 1) := by decide +kernel
theorem dX9_isLikeAt_11 : decode cX9_isLikeAt 11 = .ok (.getfield 22, 3) := by decide +kernel
theorem dX9_isLikeAt_14 : decode cX9_isLikeAt 14 = .ok (.iload_n 1, 1) := by decide +kernel
theorem dX9_isLikeAt_15 : decode cX9_isLikeAt 15 = .ok (.baload, 1) := by decide +kernel
theorem dX9_isLikeAt_16 : decode cX9_isLikeAt 16 = .ok (.ifCond .eq 7, 3) := by decide +kernel
theorem dX9_isLikeAt_19 : decode cX9_isLikeAt 19 = .ok (.iconst 1, 1) := by decide +kernel
theorem dX9_isLikeAt_20 : decode cX9_isLikeAt 20 = .ok (.goto 4, 3) := by decide +kernel
theorem dX9_isLikeAt_23 : decode cX9_isLikeAt 23 = .ok (.iconst 0, 1) := by decide +kernel
theorem dX9_isLikeAt_24 : decode cX9_isLikeAt 24 = .ok (.ireturn, 1) := by decide +kernel
theorem dX9_keepCosts_0 : decode cX9_keepCosts 0 = .ok (.iload_n 1, 1) := by decide +kernel
theorem dX9_keepCosts_1 : decode cX9_keepCosts 1 = .ok (.bipush 16, 2) := by decide +kernel
theorem dX9_keepCosts_3 : decode cX9_keepCosts 3 = .ok (.imul, 1) := by decide +kernel
theorem dX9_keepCosts_4 : decode cX9_keepCosts 4 = .ok (.iload_n 2, 1) := by decide +kernel
theorem dX9_keepCosts_5 : decode cX9_keepCosts 5 = .ok (.iadd, 1) := by decide +kernel
theorem dX9_keepCosts_6 : decode cX9_keepCosts 6 = .ok (.istore 4, 2) := by decide +kernel
theorem dX9_keepCosts_8 : decode cX9_keepCosts 8 = .ok (.iload 4, 2) := by decide +kernel
theorem dX9_keepCosts_10 : decode cX9_keepCosts 10 = .ok (.ifCond .lt 21, 3) := by decide +kernel
theorem dX9_keepCosts_13 : decode cX9_keepCosts 13 = .ok (.iload 4, 2) := by decide +kernel
theorem dX9_keepCosts_15 : decode cX9_keepCosts 15 = .ok (.aload_n 0, 1) := by decide +kernel
theorem dX9_keepCosts_16 : decode cX9_keepCosts 16 = .ok (.getfield 18, 3) := by decide +kernel
theorem dX9_keepCosts_19 : decode cX9_keepCosts 19 = .ok (.arraylength, 1) := by decide +kernel
theorem dX9_keepCosts_20 : decode cX9_keepCosts 20 = .ok (.if_icmp .ge 11, 3) := by decide +kernel
theorem dX9_keepCosts_23 : decode cX9_keepCosts 23 = .ok (.aload_n 0, 1) := by decide +kernel
theorem dX9_keepCosts_24 : decode cX9_keepCosts 24 = .ok (.getfield 18, 3) := by decide +kernel
theorem dX9_keepCosts_27 : decode cX9_keepCosts 27 = .ok (.iload 4, 2) := by decide +kernel
theorem dX9_keepCosts_29 : decode cX9_keepCosts 29 = .ok (.iload_n 3, 1) := by decide +kernel
theorem dX9_keepCosts_30 : decode cX9_keepCosts 30 = .ok (.iastore, 1) := by decide +kernel
theorem dX9_keepCosts_31 : decode cX9_keepCosts 31 = .ok (.return_, 1) := by decide +kernel
theorem dX9_costsFrom_0 : decode cX9_costsFrom 0 = .ok (.iload_n 1, 1) := by decide +kernel
theorem dX9_costsFrom_1 : decode cX9_costsFrom 1 = .ok (.bipush 16, 2) := by decide +kernel
theorem dX9_costsFrom_3 : decode cX9_costsFrom 3 = .ok (.imul, 1) := by decide +kernel
theorem dX9_costsFrom_4 : decode cX9_costsFrom 4 = .ok (.iload_n 2, 1) := by decide +kernel
theorem dX9_costsFrom_5 : decode cX9_costsFrom 5 = .ok (.iadd, 1) := by decide +kernel
theorem dX9_costsFrom_6 : decode cX9_costsFrom 6 = .ok (.istore_n 3, 1) := by decide +kernel
theorem dX9_costsFrom_7 : decode cX9_costsFrom 7 = .ok (.iload_n 3, 1) := by decide +kernel
theorem dX9_costsFrom_8 : decode cX9_costsFrom 8 = .ok (.ifCond .lt 21, 3) := by decide +kernel
theorem dX9_costsFrom_11 : decode cX9_costsFrom 11 = .ok (.iload_n 3, 1) := by decide +kernel
theorem dX9_costsFrom_12 : decode cX9_costsFrom 12 = .ok (.aload_n 0, 1) := by decide +kernel
theorem dX9_costsFrom_13 : decode cX9_costsFrom 13 = .ok (.getfield 18, 3) := by decide +kernel
theorem dX9_costsFrom_16 : decode cX9_costsFrom 16 = .ok (.arraylength, 1) := by decide +kernel
theorem dX9_costsFrom_17 : decode cX9_costsFrom 17 = .ok (.if_icmp .ge 12, 3) := by decide +kernel
theorem dX9_costsFrom_20 : decode cX9_costsFrom 20 = .ok (.aload_n 0, 1) := by decide +kernel
theorem dX9_costsFrom_21 : decode cX9_costsFrom 21 = .ok (.getfield 18, 3) := by decide +kernel
theorem dX9_costsFrom_24 : decode cX9_costsFrom 24 = .ok (.iload_n 3, 1) := by decide +kernel
theorem dX9_costsFrom_25 : decode cX9_costsFrom 25 = .ok (.iaload, 1) := by decide +kernel
theorem dX9_costsFrom_26 : decode cX9_costsFrom 26 = .ok (.goto 5, 3) := by decide +kernel
theorem dX9_costsFrom_29 : decode cX9_costsFrom 29 = .ok (.ldc 42, 2) := by decide +kernel
theorem dX9_costsFrom_31 : decode cX9_costsFrom 31 = .ok (.ireturn, 1) := by decide +kernel
theorem dX9_writing_0 : decode cX9_writing 0 = .ok (.iload_n 2, 1) := by decide +kernel
theorem dX9_writing_1 : decode cX9_writing 1 = .ok (.iload_n 1, 1) := by decide +kernel
theorem dX9_writing_2 : decode cX9_writing 2 = .ok (.invokestatic 67, 3) := by decide +kernel
theorem dX9_writing_5 : decode cX9_writing 5 = .ok (.ifCond .eq 7, 3) := by decide +kernel
theorem dX9_writing_8 : decode cX9_writing 8 = .ok (.iconst 2, 1) := by decide +kernel
theorem dX9_writing_9 : decode cX9_writing 9 = .ok (.goto 4, 3) := by decide +kernel
theorem dX9_writing_12 : decode cX9_writing 12 = .ok (.iconst 1, 1) := by decide +kernel
theorem dX9_writing_13 : decode cX9_writing 13 = .ok (.iadd, 1) := by decide +kernel
theorem dX9_writing_14 : decode cX9_writing 14 = .ok (.istore 4, 2) := by decide +kernel
theorem dX9_writing_16 : decode cX9_writing 16 = .ok (.iload_n 1, 1) := by decide +kernel
theorem dX9_writing_17 : decode cX9_writing 17 = .ok (.invokestatic 71, 3) := by decide +kernel
theorem dX9_writing_20 : decode cX9_writing 20 = .ok (.iload_n 3, 1) := by decide +kernel
theorem dX9_writing_21 : decode cX9_writing 21 = .ok (.if_icmp .ne 7, 3) := by decide +kernel
theorem dX9_writing_24 : decode cX9_writing 24 = .ok (.iconst 0, 1) := by decide +kernel
theorem dX9_writing_25 : decode cX9_writing 25 = .ok (.goto 4, 3) := by decide +kernel
theorem dX9_writing_28 : decode cX9_writing 28 = .ok (.iconst 4, 1) := by decide +kernel
theorem dX9_writing_29 : decode cX9_writing 29 = .ok (.istore 5, 2) := by decide +kernel
theorem dX9_writing_31 : decode cX9_writing 31 = .ok (.iconst 1, 1) := by decide +kernel
theorem dX9_writing_32 : decode cX9_writing 32 = .ok (.iload_n 1, 1) := by decide +kernel
theorem dX9_writing_33 : decode cX9_writing 33 = .ok (.invokestatic 74, 3) := by decide +kernel
theorem dX9_writing_36 : decode cX9_writing 36 = .ok (.iadd, 1) := by decide +kernel
theorem dX9_writing_37 : decode cX9_writing 37 = .ok (.iload 5, 2) := by decide +kernel
theorem dX9_writing_39 : decode cX9_writing 39 = .ok (.iadd, 1) := by decide +kernel
theorem dX9_writing_40 : decode cX9_writing 40 = .ok (.aload_n 0, 1) := by decide +kernel
theorem dX9_writing_41 : decode cX9_writing 41 = .ok (.iload 4, 2) := by decide +kernel
theorem dX9_writing_43 : decode cX9_writing 43 = .ok (.iload_n 1, 1) := by decide +kernel
theorem dX9_writing_44 : decode cX9_writing 44 = .ok (.invokestatic 71, 3) := by decide +kernel
theorem dX9_writing_47 : decode cX9_writing 47 = .ok (.invokevirtual 77, 3) := by decide +kernel
theorem dX9_writing_50 : decode cX9_writing 50 = .ok (.iadd, 1) := by decide +kernel
theorem dX9_writing_51 : decode cX9_writing 51 = .ok (.ireturn, 1) := by decide +kernel
theorem dX9_passing_0 : decode cX9_passing 0 = .ok (.ldc 42, 2) := by decide +kernel
theorem dX9_passing_2 : decode cX9_passing 2 = .ok (.istore 5, 2) := by decide +kernel
theorem dX9_passing_4 : decode cX9_passing 4 = .ok (.iload_n 3, 1) := by decide +kernel
theorem dX9_passing_5 : decode cX9_passing 5 = .ok (.iconst 1, 1) := by decide +kernel
theorem dX9_passing_6 : decode cX9_passing 6 = .ok (.iadd, 1) := by decide +kernel
theorem dX9_passing_7 : decode cX9_passing 7 = .ok (.istore 6, 2) := by decide +kernel
theorem dX9_passing_9 : decode cX9_passing 9 = .ok (.iload 6, 2) := by decide +kernel
theorem dX9_passing_11 : decode cX9_passing 11 = .ok (.aload_n 1, 1) := by decide +kernel
theorem dX9_passing_12 : decode cX9_passing 12 = .ok (.invokevirtual 30, 3) := by decide +kernel
theorem dX9_passing_15 : decode cX9_passing 15 = .ok (.if_icmp .ge 49, 3) := by decide +kernel
theorem dX9_passing_18 : decode cX9_passing 18 = .ok (.aload_n 0, 1) := by decide +kernel
theorem dX9_passing_19 : decode cX9_passing 19 = .ok (.iload 6, 2) := by decide +kernel
theorem dX9_passing_21 : decode cX9_passing 21 = .ok (.iconst 1, 1) := by decide +kernel
theorem dX9_passing_22 : decode cX9_passing 22 = .ok (.isub, 1) := by decide +kernel
theorem dX9_passing_23 : decode cX9_passing 23 = .ok (.invokevirtual 80, 3) := by decide +kernel
theorem dX9_passing_26 : decode cX9_passing 26 = .ok (.ifCond .eq 38, 3) := by decide +kernel
theorem dX9_passing_29 : decode cX9_passing 29 = .ok (.aload_n 1, 1) := by decide +kernel
theorem dX9_passing_30 : decode cX9_passing 30 = .ok (.iload_n 2, 1) := by decide +kernel
theorem dX9_passing_31 : decode cX9_passing 31 = .ok (.iload 6, 2) := by decide +kernel
theorem dX9_passing_33 : decode cX9_passing 33 = .ok (.invokevirtual 43, 3) := by decide +kernel
theorem dX9_passing_36 : decode cX9_passing 36 = .ok (.bipush (-2), 2) := by decide +kernel
theorem dX9_passing_38 : decode cX9_passing 38 = .ok (.if_icmp .eq 20, 3) := by decide +kernel
theorem dX9_passing_41 : decode cX9_passing 41 = .ok (.iload 5, 2) := by decide +kernel
theorem dX9_passing_43 : decode cX9_passing 43 = .ok (.iconst 4, 1) := by decide +kernel
theorem dX9_passing_44 : decode cX9_passing 44 = .ok (.aload_n 0, 1) := by decide +kernel
theorem dX9_passing_45 : decode cX9_passing 45 = .ok (.iload 6, 2) := by decide +kernel
theorem dX9_passing_47 : decode cX9_passing 47 = .ok (.iload 4, 2) := by decide +kernel
theorem dX9_passing_49 : decode cX9_passing 49 = .ok (.invokevirtual 77, 3) := by decide +kernel
theorem dX9_passing_52 : decode cX9_passing 52 = .ok (.iadd, 1) := by decide +kernel
theorem dX9_passing_53 : decode cX9_passing 53 = .ok (.invokestatic 55, 3) := by decide +kernel
theorem dX9_passing_56 : decode cX9_passing 56 = .ok (.istore 5, 2) := by decide +kernel
theorem dX9_passing_58 : decode cX9_passing 58 = .ok (.iinc 6 1, 3) := by decide +kernel
theorem dX9_passing_61 : decode cX9_passing 61 = .ok (.goto (-52), 3) := by decide +kernel
theorem dX9_passing_64 : decode cX9_passing 64 = .ok (.iload 5, 2) := by decide +kernel
theorem dX9_passing_66 : decode cX9_passing 66 = .ok (.ireturn, 1) := by decide +kernel
theorem dX9_beginning_0 : decode cX9_beginning 0 = .ok (.ldc 42, 2) := by decide +kernel
theorem dX9_beginning_2 : decode cX9_beginning 2 = .ok (.istore_n 2, 1) := by decide +kernel
theorem dX9_beginning_3 : decode cX9_beginning 3 = .ok (.iconst 0, 1) := by decide +kernel
theorem dX9_beginning_4 : decode cX9_beginning 4 = .ok (.istore_n 3, 1) := by decide +kernel
theorem dX9_beginning_5 : decode cX9_beginning 5 = .ok (.iload_n 3, 1) := by decide +kernel
theorem dX9_beginning_6 : decode cX9_beginning 6 = .ok (.iload_n 1, 1) := by decide +kernel
theorem dX9_beginning_7 : decode cX9_beginning 7 = .ok (.if_icmp .ge 30, 3) := by decide +kernel
theorem dX9_beginning_10 : decode cX9_beginning 10 = .ok (.iload_n 2, 1) := by decide +kernel
theorem dX9_beginning_11 : decode cX9_beginning 11 = .ok (.aload_n 0, 1) := by decide +kernel
theorem dX9_beginning_12 : decode cX9_beginning 12 = .ok (.iload_n 3, 1) := by decide +kernel
theorem dX9_beginning_13 : decode cX9_beginning 13 = .ok (.iconst 0, 1) := by decide +kernel
theorem dX9_beginning_14 : decode cX9_beginning 14 = .ok (.invokevirtual 77, 3) := by decide +kernel
theorem dX9_beginning_17 : decode cX9_beginning 17 = .ok (.invokestatic 55, 3) := by decide +kernel
theorem dX9_beginning_20 : decode cX9_beginning 20 = .ok (.istore_n 2, 1) := by decide +kernel
theorem dX9_beginning_21 : decode cX9_beginning 21 = .ok (.aload_n 0, 1) := by decide +kernel
theorem dX9_beginning_22 : decode cX9_beginning 22 = .ok (.iload_n 3, 1) := by decide +kernel
theorem dX9_beginning_23 : decode cX9_beginning 23 = .ok (.invokevirtual 80, 3) := by decide +kernel
theorem dX9_beginning_26 : decode cX9_beginning 26 = .ok (.ifCond .ne 5, 3) := by decide +kernel
theorem dX9_beginning_29 : decode cX9_beginning 29 = .ok (.iload_n 2, 1) := by decide +kernel
theorem dX9_beginning_30 : decode cX9_beginning 30 = .ok (.ireturn, 1) := by decide +kernel
theorem dX9_beginning_31 : decode cX9_beginning 31 = .ok (.iinc 3 1, 3) := by decide +kernel
theorem dX9_beginning_34 : decode cX9_beginning 34 = .ok (.goto (-29), 3) := by decide +kernel
theorem dX9_beginning_37 : decode cX9_beginning 37 = .ok (.iload_n 2, 1) := by decide +kernel
theorem dX9_beginning_38 : decode cX9_beginning 38 = .ok (.ireturn, 1) := by decide +kernel
theorem dX10_init_0 : decode cX10_init 0 = .ok (.aload_n 0, 1) := by decide +kernel
theorem dX10_init_1 : decode cX10_init 1 = .ok (.invokespecial 1, 3) := by decide +kernel
theorem dX10_init_4 : decode cX10_init 4 = .ok (.aload_n 0, 1) := by decide +kernel
theorem dX10_init_5 : decode cX10_init 5 = .ok (.sipush 1024, 3) := by decide +kernel
theorem dX10_init_8 : decode cX10_init 8 = .ok (.newarray .int, 2) := by decide +kernel
theorem dX10_init_10 : decode cX10_init 10 = .ok (.putfield 9, 3) := by decide +kernel
theorem dX10_init_13 : decode cX10_init 13 = .ok (.return_, 1) := by decide +kernel
theorem dX10_noteByte_0 : decode cX10_noteByte 0 = .ok (.aload_n 0, 1) := by decide +kernel
theorem dX10_noteByte_1 : decode cX10_noteByte 1 = .ok (.iload_n 1, 1) := by decide +kernel
theorem dX10_noteByte_2 : decode cX10_noteByte 2 = .ok (.invokevirtual 13, 3) := by decide +kernel
theorem dX10_noteByte_5 : decode cX10_noteByte 5 = .ok (.return_, 1) := by decide +kernel
theorem dX10_noteSize_0 : decode cX10_noteSize 0 = .ok (.aload_n 0, 1) := by decide +kernel
theorem dX10_noteSize_1 : decode cX10_noteSize 1 = .ok (.sipush 128, 3) := by decide +kernel
theorem dX10_noteSize_4 : decode cX10_noteSize 4 = .ok (.iload_n 1, 1) := by decide +kernel
theorem dX10_noteSize_5 : decode cX10_noteSize 5 = .ok (.bipush 32, 2) := by decide +kernel
theorem dX10_noteSize_7 : decode cX10_noteSize 7 = .ok (.imul, 1) := by decide +kernel
theorem dX10_noteSize_8 : decode cX10_noteSize 8 = .ok (.iadd, 1) := by decide +kernel
theorem dX10_noteSize_9 : decode cX10_noteSize 9 = .ok (.iload_n 2, 1) := by decide +kernel
theorem dX10_noteSize_10 : decode cX10_noteSize 10 = .ok (.iadd, 1) := by decide +kernel
theorem dX10_noteSize_11 : decode cX10_noteSize 11 = .ok (.invokevirtual 13, 3) := by decide +kernel
theorem dX10_noteSize_14 : decode cX10_noteSize 14 = .ok (.return_, 1) := by decide +kernel
theorem dX10_note_0 : decode cX10_note 0 = .ok (.aload_n 0, 1) := by decide +kernel
theorem dX10_note_1 : decode cX10_note 1 = .ok (.getfield 17, 3) := by decide +kernel
theorem dX10_note_4 : decode cX10_note 4 = .ok (.aload_n 0, 1) := by decide +kernel
theorem dX10_note_5 : decode cX10_note 5 = .ok (.getfield 9, 3) := by decide +kernel
theorem dX10_note_8 : decode cX10_note 8 = .ok (.arraylength, 1) := by decide +kernel
theorem dX10_note_9 : decode cX10_note 9 = .ok (.if_icmp .lt 31, 3) := by decide +kernel
theorem dX10_note_12 : decode cX10_note 12 = .ok (.aload_n 0, 1) := by decide +kernel
theorem dX10_note_13 : decode cX10_note 13 = .ok (.getfield 9, 3) := by decide +kernel
theorem dX10_note_16 : decode cX10_note 16 = .ok (.arraylength, 1) := by decide +kernel
theorem dX10_note_17 : decode cX10_note 17 = .ok (.ldc 21, 2) := by decide +kernel
theorem dX10_note_19 : decode cX10_note 19 = .ok (.if_icmp .ge 21, 3) := by decide +kernel
theorem dX10_note_22 : decode cX10_note 22 = .ok (.aload_n 0, 1) := by decide +kernel
theorem dX10_note_23 : decode cX10_note 23 = .ok (.aload_n 0, 1) := by decide +kernel
theorem dX10_note_24 : decode cX10_note 24 = .ok (.getfield 9, 3) := by decide +kernel
theorem dX10_note_27 : decode cX10_note 27 = .ok (.aload_n 0, 1) := by decide +kernel
theorem dX10_note_28 : decode cX10_note 28 = .ok (.getfield 9, 3) := by decide +kernel
theorem dX10_note_31 : decode cX10_note 31 = .ok (.arraylength, 1) := by decide +kernel
theorem dX10_note_32 : decode cX10_note 32 = .ok (.iconst 2, 1) := by decide +kernel
theorem dX10_note_33 : decode cX10_note 33 = .ok (.imul, 1) := by decide +kernel
theorem dX10_note_34 : decode cX10_note 34 = .ok (.invokestatic 22, 3) := by decide +kernel
theorem dX10_note_37 : decode cX10_note 37 = .ok (.putfield 9, 3) := by decide +kernel
theorem dX10_note_40 : decode cX10_note 40 = .ok (.aload_n 0, 1) := by decide +kernel
theorem dX10_note_41 : decode cX10_note 41 = .ok (.getfield 17, 3) := by decide +kernel
theorem dX10_note_44 : decode cX10_note 44 = .ok (.ifCond .lt 35, 3) := by decide +kernel
theorem dX10_note_47 : decode cX10_note 47 = .ok (.aload_n 0, 1) := by decide +kernel
theorem dX10_note_48 : decode cX10_note 48 = .ok (.getfield 17, 3) := by decide +kernel
theorem dX10_note_51 : decode cX10_note 51 = .ok (.aload_n 0, 1) := by decide +kernel
theorem dX10_note_52 : decode cX10_note 52 = .ok (.getfield 9, 3) := by decide +kernel
theorem dX10_note_55 : decode cX10_note 55 = .ok (.arraylength, 1) := by decide +kernel
theorem dX10_note_56 : decode cX10_note 56 = .ok (.if_icmp .ge 23, 3) := by decide +kernel
theorem dX10_note_59 : decode cX10_note 59 = .ok (.aload_n 0, 1) := by decide +kernel
theorem dX10_note_60 : decode cX10_note 60 = .ok (.getfield 9, 3) := by decide +kernel
theorem dX10_note_63 : decode cX10_note 63 = .ok (.aload_n 0, 1) := by decide +kernel
theorem dX10_note_64 : decode cX10_note 64 = .ok (.getfield 17, 3) := by decide +kernel
theorem dX10_note_67 : decode cX10_note 67 = .ok (.iload_n 1, 1) := by decide +kernel
theorem dX10_note_68 : decode cX10_note 68 = .ok (.iastore, 1) := by decide +kernel
theorem dX10_note_69 : decode cX10_note 69 = .ok (.aload_n 0, 1) := by decide +kernel
theorem dX10_note_70 : decode cX10_note 70 = .ok (.dup, 1) := by decide +kernel
theorem dX10_note_71 : decode cX10_note 71 = .ok (.getfield 17, 3) := by decide +kernel
theorem dX10_note_74 : decode cX10_note 74 = .ok (.iconst 1, 1) := by decide +kernel
theorem dX10_note_75 : decode cX10_note 75 = .ok (.iadd, 1) := by decide +kernel
theorem dX10_note_76 : decode cX10_note 76 = .ok (.putfield 17, 3) := by decide +kernel
theorem dX10_note_79 : decode cX10_note 79 = .ok (.return_, 1) := by decide +kernel
theorem dX10_playOn_0 : decode cX10_playOn 0 = .ok (.aload_n 0, 1) := by decide +kernel
theorem dX10_playOn_1 : decode cX10_playOn 1 = .ok (.getfield 28, 3) := by decide +kernel
theorem dX10_playOn_4 : decode cX10_playOn 4 = .ok (.iconst 0, 1) := by decide +kernel
theorem dX10_playOn_5 : decode cX10_playOn 5 = .ok (.invokestatic 31, 3) := by decide +kernel
theorem dX10_playOn_8 : decode cX10_playOn 8 = .ok (.istore_n 2, 1) := by decide +kernel
theorem dX10_playOn_9 : decode cX10_playOn 9 = .ok (.iload_n 2, 1) := by decide +kernel
theorem dX10_playOn_10 : decode cX10_playOn 10 = .ok (.aload_n 0, 1) := by decide +kernel
theorem dX10_playOn_11 : decode cX10_playOn 11 = .ok (.getfield 17, 3) := by decide +kernel
theorem dX10_playOn_14 : decode cX10_playOn 14 = .ok (.if_icmp .ge 60, 3) := by decide +kernel
theorem dX10_playOn_17 : decode cX10_playOn 17 = .ok (.iload_n 2, 1) := by decide +kernel
theorem dX10_playOn_18 : decode cX10_playOn 18 = .ok (.aload_n 0, 1) := by decide +kernel
theorem dX10_playOn_19 : decode cX10_playOn 19 = .ok (.getfield 9, 3) := by decide +kernel
theorem dX10_playOn_22 : decode cX10_playOn 22 = .ok (.arraylength, 1) := by decide +kernel
theorem dX10_playOn_23 : decode cX10_playOn 23 = .ok (.if_icmp .ge 51, 3) := by decide +kernel
theorem dX10_playOn_26 : decode cX10_playOn 26 = .ok (.aload_n 0, 1) := by decide +kernel
theorem dX10_playOn_27 : decode cX10_playOn 27 = .ok (.getfield 9, 3) := by decide +kernel
theorem dX10_playOn_30 : decode cX10_playOn 30 = .ok (.iload_n 2, 1) := by decide +kernel
theorem dX10_playOn_31 : decode cX10_playOn 31 = .ok (.iaload, 1) := by decide +kernel
theorem dX10_playOn_32 : decode cX10_playOn 32 = .ok (.istore_n 3, 1) := by decide +kernel
theorem dX10_playOn_33 : decode cX10_playOn 33 = .ok (.iload_n 3, 1) := by decide +kernel
theorem dX10_playOn_34 : decode cX10_playOn 34 = .ok (.sipush 128, 3) := by decide +kernel
theorem dX10_playOn_37 : decode cX10_playOn 37 = .ok (.if_icmp .ge 11, 3) := by decide +kernel
theorem dX10_playOn_40 : decode cX10_playOn 40 = .ok (.aload_n 1, 1) := by decide +kernel
theorem dX10_playOn_41 : decode cX10_playOn 41 = .ok (.iload_n 3, 1) := by decide +kernel
theorem dX10_playOn_42 : decode cX10_playOn 42 = .ok (.invokevirtual 37, 3) := by decide +kernel
theorem dX10_playOn_45 : decode cX10_playOn 45 = .ok (.goto 23, 3) := by decide +kernel
theorem dX10_playOn_48 : decode cX10_playOn 48 = .ok (.aload_n 1, 1) := by decide +kernel
theorem dX10_playOn_49 : decode cX10_playOn 49 = .ok (.iload_n 3, 1) := by decide +kernel
theorem dX10_playOn_50 : decode cX10_playOn 50 = .ok (.sipush 128, 3) := by decide +kernel
theorem dX10_playOn_53 : decode cX10_playOn 53 = .ok (.isub, 1) := by decide +kernel
theorem dX10_playOn_54 : decode cX10_playOn 54 = .ok (.bipush 32, 2) := by decide +kernel
theorem dX10_playOn_56 : decode cX10_playOn 56 = .ok (.idiv, 1) := by decide +kernel
theorem dX10_playOn_57 : decode cX10_playOn 57 = .ok (.iload_n 3, 1) := by decide +kernel
theorem dX10_playOn_58 : decode cX10_playOn 58 = .ok (.sipush 128, 3) := by decide +kernel
theorem dX10_playOn_61 : decode cX10_playOn 61 = .ok (.isub, 1) := by decide +kernel
theorem dX10_playOn_62 : decode cX10_playOn 62 = .ok (.bipush 32, 2) := by decide +kernel
theorem dX10_playOn_64 : decode cX10_playOn 64 = .ok (.irem, 1) := by decide +kernel
theorem dX10_playOn_65 : decode cX10_playOn 65 = .ok (.invokevirtual 42, 3) := by decide +kernel
theorem dX10_playOn_68 : decode cX10_playOn 68 = .ok (.iinc 2 1, 3) := by decide +kernel
theorem dX10_playOn_71 : decode cX10_playOn 71 = .ok (.goto (-62), 3) := by decide +kernel
theorem dX10_playOn_74 : decode cX10_playOn 74 = .ok (.aload_n 0, 1) := by decide +kernel
theorem dX10_playOn_75 : decode cX10_playOn 75 = .ok (.aload_n 0, 1) := by decide +kernel
theorem dX10_playOn_76 : decode cX10_playOn 76 = .ok (.getfield 17, 3) := by decide +kernel
theorem dX10_playOn_79 : decode cX10_playOn 79 = .ok (.putfield 28, 3) := by decide +kernel
theorem dX10_playOn_82 : decode cX10_playOn 82 = .ok (.return_, 1) := by decide +kernel
theorem dX11_init_0 : decode cX11_init 0 = .ok (.aload_n 0, 1) := by decide +kernel
theorem dX11_init_1 : decode cX11_init 1 = .ok (.invokespecial 1, 3) := by decide +kernel
theorem dX11_init_4 : decode cX11_init 4 = .ok (.aload_n 0, 1) := by decide +kernel
theorem dX11_init_5 : decode cX11_init 5 = .ok (.new 7, 3) := by decide +kernel
theorem dX11_init_8 : decode cX11_init 8 = .ok (.dup, 1) := by decide +kernel
theorem dX11_init_9 : decode cX11_init 9 = .ok (.bipush 64, 2) := by decide +kernel
theorem dX11_init_11 : decode cX11_init 11 = .ok (.invokespecial 11, 3) := by decide +kernel
theorem dX11_init_14 : decode cX11_init 14 = .ok (.putfield 14, 3) := by decide +kernel
theorem dX11_init_17 : decode cX11_init 17 = .ok (.aload_n 0, 1) := by decide +kernel
theorem dX11_init_18 : decode cX11_init 18 = .ok (.new 7, 3) := by decide +kernel
theorem dX11_init_21 : decode cX11_init 21 = .ok (.dup, 1) := by decide +kernel
theorem dX11_init_22 : decode cX11_init 22 = .ok (.bipush 40, 2) := by decide +kernel
theorem dX11_init_24 : decode cX11_init 24 = .ok (.invokespecial 11, 3) := by decide +kernel
theorem dX11_init_27 : decode cX11_init 27 = .ok (.putfield 18, 3) := by decide +kernel
theorem dX11_init_30 : decode cX11_init 30 = .ok (.aload_n 0, 1) := by decide +kernel
theorem dX11_init_31 : decode cX11_init 31 = .ok (.new 21, 3) := by decide +kernel
theorem dX11_init_34 : decode cX11_init 34 = .ok (.dup, 1) := by decide +kernel
theorem dX11_init_35 : decode cX11_init 35 = .ok (.invokespecial 23, 3) := by decide +kernel
theorem dX11_init_38 : decode cX11_init 38 = .ok (.putfield 24, 3) := by decide +kernel
theorem dX11_init_41 : decode cX11_init 41 = .ok (.aload_n 0, 1) := by decide +kernel
theorem dX11_init_42 : decode cX11_init 42 = .ok (.new 28, 3) := by decide +kernel
theorem dX11_init_45 : decode cX11_init 45 = .ok (.dup, 1) := by decide +kernel
theorem dX11_init_46 : decode cX11_init 46 = .ok (.invokespecial 30, 3) := by decide +kernel
theorem dX11_init_49 : decode cX11_init 49 = .ok (.putfield 31, 3) := by decide +kernel
theorem dX11_init_52 : decode cX11_init 52 = .ok (.aload_n 0, 1) := by decide +kernel
theorem dX11_init_53 : decode cX11_init 53 = .ok (.new 35, 3) := by decide +kernel
theorem dX11_init_56 : decode cX11_init 56 = .ok (.dup, 1) := by decide +kernel
theorem dX11_init_57 : decode cX11_init 57 = .ok (.invokespecial 37, 3) := by decide +kernel
theorem dX11_init_60 : decode cX11_init 60 = .ok (.putfield 38, 3) := by decide +kernel
theorem dX11_init_63 : decode cX11_init 63 = .ok (.aload_n 0, 1) := by decide +kernel
theorem dX11_init_64 : decode cX11_init 64 = .ok (.new 28, 3) := by decide +kernel
theorem dX11_init_67 : decode cX11_init 67 = .ok (.dup, 1) := by decide +kernel
theorem dX11_init_68 : decode cX11_init 68 = .ok (.invokespecial 30, 3) := by decide +kernel
theorem dX11_init_71 : decode cX11_init 71 = .ok (.putfield 42, 3) := by decide +kernel
theorem dX11_init_74 : decode cX11_init 74 = .ok (.aload_n 0, 1) := by decide +kernel
theorem dX11_init_75 : decode cX11_init 75 = .ok (.new 45, 3) := by decide +kernel
theorem dX11_init_78 : decode cX11_init 78 = .ok (.dup, 1) := by decide +kernel
theorem dX11_init_79 : decode cX11_init 79 = .ok (.invokespecial 47, 3) := by decide +kernel
theorem dX11_init_82 : decode cX11_init 82 = .ok (.putfield 48, 3) := by decide +kernel
theorem dX11_init_85 : decode cX11_init 85 = .ok (.return_, 1) := by decide +kernel
theorem dX11_write_0 : decode cX11_write 0 = .ok (.iload_n 1, 1) := by decide +kernel
theorem dX11_write_1 : decode cX11_write 1 = .ok (.ifCond .lt 9, 3) := by decide +kernel
theorem dX11_write_4 : decode cX11_write 4 = .ok (.iload_n 1, 1) := by decide +kernel
theorem dX11_write_5 : decode cX11_write 5 = .ok (.bipush 127, 2) := by decide +kernel
theorem dX11_write_7 : decode cX11_write 7 = .ok (.if_icmp .le 13, 3) := by decide +kernel
theorem dX11_write_10 : decode cX11_write 10 = .ok (.new 52, 3) := by decide +kernel
theorem dX11_write_13 : decode cX11_write 13 = .ok (.dup, 1) := by decide +kernel
theorem dX11_write_14 : decode cX11_write 14 = .ok (.ldc 54, 2) := by decide +kernel
theorem dX11_write_16 : decode cX11_write 16 = .ok (.invokespecial 56, 3) := by decide +kernel
theorem dX11_write_19 : decode cX11_write 19 = .ok (.athrow, 1) := by decide +kernel
theorem dX11_write_20 : decode cX11_write 20 = .ok (.aload_n 0, 1) := by decide +kernel
theorem dX11_write_21 : decode cX11_write 21 = .ok (.getfield 24, 3) := by decide +kernel
theorem dX11_write_24 : decode cX11_write 24 = .ok (.iconst 1, 1) := by decide +kernel
theorem dX11_write_25 : decode cX11_write 25 = .ok (.invokevirtual 59, 3) := by decide +kernel
theorem dX11_write_28 : decode cX11_write 28 = .ok (.ifCond .ne 13, 3) := by decide +kernel
theorem dX11_write_31 : decode cX11_write 31 = .ok (.new 63, 3) := by decide +kernel
theorem dX11_write_34 : decode cX11_write 34 = .ok (.dup, 1) := by decide +kernel
theorem dX11_write_35 : decode cX11_write 35 = .ok (.ldc 65, 2) := by decide +kernel
theorem dX11_write_37 : decode cX11_write 37 = .ok (.invokespecial 67, 3) := by decide +kernel
theorem dX11_write_40 : decode cX11_write 40 = .ok (.athrow, 1) := by decide +kernel
theorem dX11_write_41 : decode cX11_write 41 = .ok (.aload_n 0, 1) := by decide +kernel
theorem dX11_write_42 : decode cX11_write 42 = .ok (.getfield 24, 3) := by decide +kernel
theorem dX11_write_45 : decode cX11_write 45 = .ok (.iload_n 1, 1) := by decide +kernel
theorem dX11_write_46 : decode cX11_write 46 = .ok (.invokevirtual 68, 3) := by decide +kernel
theorem dX11_write_49 : decode cX11_write 49 = .ok (.aload_n 0, 1) := by decide +kernel
theorem dX11_write_50 : decode cX11_write 50 = .ok (.invokevirtual 71, 3) := by decide +kernel
theorem dX11_write_53 : decode cX11_write 53 = .ok (.aload_n 0, 1) := by decide +kernel
theorem dX11_write_54 : decode cX11_write 54 = .ok (.getfield 24, 3) := by decide +kernel
theorem dX11_write_57 : decode cX11_write 57 = .ok (.getfield 74, 3) := by decide +kernel
theorem dX11_write_60 : decode cX11_write 60 = .ok (.invokevirtual 77, 3) := by decide +kernel
theorem dX11_write_63 : decode cX11_write 63 = .ok (.ireturn, 1) := by decide +kernel
theorem dX11_code_0 : decode cX11_code 0 = .ok (.iload_n 2, 1) := by decide +kernel
theorem dX11_code_1 : decode cX11_code 1 = .ok (.ifCond .lt 21, 3) := by decide +kernel
theorem dX11_code_4 : decode cX11_code 4 = .ok (.iload_n 2, 1) := by decide +kernel
theorem dX11_code_5 : decode cX11_code 5 = .ok (.sipush 999, 3) := by decide +kernel
theorem dX11_code_8 : decode cX11_code 8 = .ok (.if_icmp .gt 14, 3) := by decide +kernel
theorem dX11_code_11 : decode cX11_code 11 = .ok (.iload_n 3, 1) := by decide +kernel
theorem dX11_code_12 : decode cX11_code 12 = .ok (.ifCond .lt 10, 3) := by decide +kernel
theorem dX11_code_15 : decode cX11_code 15 = .ok (.iload_n 3, 1) := by decide +kernel
theorem dX11_code_16 : decode cX11_code 16 = .ok (.sipush 999, 3) := by decide +kernel
theorem dX11_code_19 : decode cX11_code 19 = .ok (.if_icmp .le 13, 3) := by decide +kernel
theorem dX11_code_22 : decode cX11_code 22 = .ok (.new 52, 3) := by decide +kernel
theorem dX11_code_25 : decode cX11_code 25 = .ok (.dup, 1) := by decide +kernel
theorem dX11_code_26 : decode cX11_code 26 = .ok (.ldc 81, 2) := by decide +kernel
theorem dX11_code_28 : decode cX11_code 28 = .ok (.invokespecial 56, 3) := by decide +kernel
theorem dX11_code_31 : decode cX11_code 31 = .ok (.athrow, 1) := by decide +kernel
theorem dX11_code_32 : decode cX11_code 32 = .ok (.iload 4, 2) := by decide +kernel
theorem dX11_code_34 : decode cX11_code 34 = .ok (.bipush 64, 2) := by decide +kernel
theorem dX11_code_36 : decode cX11_code 36 = .ok (.if_icmp .lt 10, 3) := by decide +kernel
theorem dX11_code_39 : decode cX11_code 39 = .ok (.iload 4, 2) := by decide +kernel
theorem dX11_code_41 : decode cX11_code 41 = .ok (.bipush 126, 2) := by decide +kernel
theorem dX11_code_43 : decode cX11_code 43 = .ok (.if_icmp .le 13, 3) := by decide +kernel
theorem dX11_code_46 : decode cX11_code 46 = .ok (.new 52, 3) := by decide +kernel
theorem dX11_code_49 : decode cX11_code 49 = .ok (.dup, 1) := by decide +kernel
theorem dX11_code_50 : decode cX11_code 50 = .ok (.ldc 54, 2) := by decide +kernel
theorem dX11_code_52 : decode cX11_code 52 = .ok (.invokespecial 56, 3) := by decide +kernel
theorem dX11_code_55 : decode cX11_code 55 = .ok (.athrow, 1) := by decide +kernel
theorem dX11_code_56 : decode cX11_code 56 = .ok (.iconst 3, 1) := by decide +kernel
theorem dX11_code_57 : decode cX11_code 57 = .ok (.iload_n 1, 1) := by decide +kernel
theorem dX11_code_58 : decode cX11_code 58 = .ok (.ifCond .eq 7, 3) := by decide +kernel
theorem dX11_code_61 : decode cX11_code 61 = .ok (.iconst 1, 1) := by decide +kernel
theorem dX11_code_62 : decode cX11_code 62 = .ok (.goto 4, 3) := by decide +kernel
theorem dX11_code_65 : decode cX11_code 65 = .ok (.iconst 0, 1) := by decide +kernel
theorem dX11_code_66 : decode cX11_code 66 = .ok (.iadd, 1) := by decide +kernel
theorem dX11_code_67 : decode cX11_code 67 = .ok (.iload_n 2, 1) := by decide +kernel
theorem dX11_code_68 : decode cX11_code 68 = .ok (.invokestatic 83, 3) := by decide +kernel
theorem dX11_code_71 : decode cX11_code 71 = .ok (.iadd, 1) := by decide +kernel
theorem dX11_code_72 : decode cX11_code 72 = .ok (.iload_n 3, 1) := by decide +kernel
theorem dX11_code_73 : decode cX11_code 73 = .ok (.ifCond .ne 7, 3) := by decide +kernel
theorem dX11_code_76 : decode cX11_code 76 = .ok (.iconst 0, 1) := by decide +kernel
theorem dX11_code_77 : decode cX11_code 77 = .ok (.goto 9, 3) := by decide +kernel
theorem dX11_code_80 : decode cX11_code 80 = .ok (.iconst 1, 1) := by decide +kernel
theorem dX11_code_81 : decode cX11_code 81 = .ok (.iload_n 3, 1) := by decide +kernel
theorem dX11_code_82 : decode cX11_code 82 = .ok (.invokestatic 83, 3) := by decide +kernel
theorem dX11_code_85 : decode cX11_code 85 = .ok (.iadd, 1) := by decide +kernel
theorem dX11_code_86 : decode cX11_code 86 = .ok (.iadd, 1) := by decide +kernel
theorem dX11_code_87 : decode cX11_code 87 = .ok (.istore 5, 2) := by decide +kernel
theorem dX11_code_89 : decode cX11_code 89 = .ok (.aload_n 0, 1) := by decide +kernel
theorem dX11_code_90 : decode cX11_code 90 = .ok (.getfield 24, 3) := by decide +kernel
theorem dX11_code_93 : decode cX11_code 93 = .ok (.iload 5, 2) := by decide +kernel
theorem dX11_code_95 : decode cX11_code 95 = .ok (.invokevirtual 59, 3) := by decide +kernel
theorem dX11_code_98 : decode cX11_code 98 = .ok (.ifCond .ne 13, 3) := by decide +kernel
theorem dX11_code_101 : decode cX11_code 101 = .ok (.new 63, 3) := by decide +kernel
theorem dX11_code_104 : decode cX11_code 104 = .ok (.dup, 1) := by decide +kernel
theorem dX11_code_105 : decode cX11_code 105 = .ok (.ldc 65, 2) := by decide +kernel
theorem dX11_code_107 : decode cX11_code 107 = .ok (.invokespecial 67, 3) := by decide +kernel
theorem dX11_code_110 : decode cX11_code 110 = .ok (.athrow, 1) := by decide +kernel
theorem dX11_code_111 : decode cX11_code 111 = .ok (.aload_n 0, 1) := by decide +kernel
theorem dX11_code_112 : decode cX11_code 112 = .ok (.getfield 24, 3) := by decide +kernel
theorem dX11_code_115 : decode cX11_code 115 = .ok (.bipush 27, 2) := by decide +kernel
theorem dX11_code_117 : decode cX11_code 117 = .ok (.invokevirtual 68, 3) := by decide +kernel
theorem dX11_code_120 : decode cX11_code 120 = .ok (.aload_n 0, 1) := by decide +kernel
theorem dX11_code_121 : decode cX11_code 121 = .ok (.getfield 24, 3) := by decide +kernel
theorem dX11_code_124 : decode cX11_code 124 = .ok (.bipush 91, 2) := by decide +kernel
theorem dX11_code_126 : decode cX11_code 126 = .ok (.invokevirtual 68, 3) := by decide +kernel
theorem dX11_code_129 : decode cX11_code 129 = .ok (.iload_n 1, 1) := by decide +kernel
theorem dX11_code_130 : decode cX11_code 130 = .ok (.ifCond .eq 12, 3) := by decide +kernel
theorem dX11_code_133 : decode cX11_code 133 = .ok (.aload_n 0, 1) := by decide +kernel
theorem dX11_code_134 : decode cX11_code 134 = .ok (.getfield 24, 3) := by decide +kernel
theorem dX11_code_137 : decode cX11_code 137 = .ok (.bipush 63, 2) := by decide +kernel
theorem dX11_code_139 : decode cX11_code 139 = .ok (.invokevirtual 68, 3) := by decide +kernel
theorem dX11_code_142 : decode cX11_code 142 = .ok (.aload_n 0, 1) := by decide +kernel
theorem dX11_code_143 : decode cX11_code 143 = .ok (.getfield 24, 3) := by decide +kernel
theorem dX11_code_146 : decode cX11_code 146 = .ok (.iload_n 2, 1) := by decide +kernel
theorem dX11_code_147 : decode cX11_code 147 = .ok (.invokevirtual 87, 3) := by decide +kernel
theorem dX11_code_150 : decode cX11_code 150 = .ok (.iload_n 3, 1) := by decide +kernel
theorem dX11_code_151 : decode cX11_code 151 = .ok (.ifCond .eq 20, 3) := by decide +kernel
theorem dX11_code_154 : decode cX11_code 154 = .ok (.aload_n 0, 1) := by decide +kernel
theorem dX11_code_155 : decode cX11_code 155 = .ok (.getfield 24, 3) := by decide +kernel
theorem dX11_code_158 : decode cX11_code 158 = .ok (.bipush 59, 2) := by decide +kernel
theorem dX11_code_160 : decode cX11_code 160 = .ok (.invokevirtual 68, 3) := by decide +kernel
theorem dX11_code_163 : decode cX11_code 163 = .ok (.aload_n 0, 1) := by decide +kernel
theorem dX11_code_164 : decode cX11_code 164 = .ok (.getfield 24, 3) := by decide +kernel
theorem dX11_code_167 : decode cX11_code 167 = .ok (.iload_n 3, 1) := by decide +kernel
theorem dX11_code_168 : decode cX11_code 168 = .ok (.invokevirtual 87, 3) := by decide +kernel
theorem dX11_code_171 : decode cX11_code 171 = .ok (.aload_n 0, 1) := by decide +kernel
theorem dX11_code_172 : decode cX11_code 172 = .ok (.getfield 24, 3) := by decide +kernel
theorem dX11_code_175 : decode cX11_code 175 = .ok (.iload 4, 2) := by decide +kernel
theorem dX11_code_177 : decode cX11_code 177 = .ok (.invokevirtual 68, 3) := by decide +kernel
theorem dX11_code_180 : decode cX11_code 180 = .ok (.aload_n 0, 1) := by decide +kernel
theorem dX11_code_181 : decode cX11_code 181 = .ok (.invokevirtual 71, 3) := by decide +kernel
theorem dX11_code_184 : decode cX11_code 184 = .ok (.aload_n 0, 1) := by decide +kernel
theorem dX11_code_185 : decode cX11_code 185 = .ok (.getfield 24, 3) := by decide +kernel
theorem dX11_code_188 : decode cX11_code 188 = .ok (.getfield 74, 3) := by decide +kernel
theorem dX11_code_191 : decode cX11_code 191 = .ok (.invokevirtual 77, 3) := by decide +kernel
theorem dX11_code_194 : decode cX11_code 194 = .ok (.ireturn, 1) := by decide +kernel
theorem dX11_type_0 : decode cX11_type 0 = .ok (.iload_n 1, 1) := by decide +kernel
theorem dX11_type_1 : decode cX11_type 1 = .ok (.ifCond .lt 9, 3) := by decide +kernel
theorem dX11_type_4 : decode cX11_type 4 = .ok (.iload_n 1, 1) := by decide +kernel
theorem dX11_type_5 : decode cX11_type 5 = .ok (.bipush 127, 2) := by decide +kernel
theorem dX11_type_7 : decode cX11_type 7 = .ok (.if_icmp .le 13, 3) := by decide +kernel
theorem dX11_type_10 : decode cX11_type 10 = .ok (.new 52, 3) := by decide +kernel
theorem dX11_type_13 : decode cX11_type 13 = .ok (.dup, 1) := by decide +kernel
theorem dX11_type_14 : decode cX11_type 14 = .ok (.ldc 54, 2) := by decide +kernel
theorem dX11_type_16 : decode cX11_type 16 = .ok (.invokespecial 56, 3) := by decide +kernel
theorem dX11_type_19 : decode cX11_type 19 = .ok (.athrow, 1) := by decide +kernel
theorem dX11_type_20 : decode cX11_type 20 = .ok (.aload_n 0, 1) := by decide +kernel
theorem dX11_type_21 : decode cX11_type 21 = .ok (.getfield 14, 3) := by decide +kernel
theorem dX11_type_24 : decode cX11_type 24 = .ok (.iload_n 1, 1) := by decide +kernel
theorem dX11_type_25 : decode cX11_type 25 = .ok (.invokevirtual 90, 3) := by decide +kernel
theorem dX11_type_28 : decode cX11_type 28 = .ok (.pop, 1) := by decide +kernel
theorem dX11_type_29 : decode cX11_type 29 = .ok (.aload_n 0, 1) := by decide +kernel
theorem dX11_type_30 : decode cX11_type 30 = .ok (.invokevirtual 71, 3) := by decide +kernel
theorem dX11_type_33 : decode cX11_type 33 = .ok (.aload_n 0, 1) := by decide +kernel
theorem dX11_type_34 : decode cX11_type 34 = .ok (.getfield 24, 3) := by decide +kernel
theorem dX11_type_37 : decode cX11_type 37 = .ok (.getfield 93, 3) := by decide +kernel
theorem dX11_type_40 : decode cX11_type 40 = .ok (.invokevirtual 77, 3) := by decide +kernel
theorem dX11_type_43 : decode cX11_type 43 = .ok (.ireturn, 1) := by decide +kernel
theorem dX11_key_0 : decode cX11_key 0 = .ok (.iload_n 1, 1) := by decide +kernel
theorem dX11_key_1 : decode cX11_key 1 = .ok (.ifCond .lt 9, 3) := by decide +kernel
theorem dX11_key_4 : decode cX11_key 4 = .ok (.iload_n 1, 1) := by decide +kernel
theorem dX11_key_5 : decode cX11_key 5 = .ok (.bipush 6, 2) := by decide +kernel
theorem dX11_key_7 : decode cX11_key 7 = .ok (.if_icmp .le 13, 3) := by decide +kernel
theorem dX11_key_10 : decode cX11_key 10 = .ok (.new 52, 3) := by decide +kernel
theorem dX11_key_13 : decode cX11_key 13 = .ok (.dup, 1) := by decide +kernel
theorem dX11_key_14 : decode cX11_key 14 = .ok (.ldc 96, 2) := by decide +kernel
theorem dX11_key_16 : decode cX11_key 16 = .ok (.invokespecial 56, 3) := by decide +kernel
theorem dX11_key_19 : decode cX11_key 19 = .ok (.athrow, 1) := by decide +kernel
theorem dX11_key_20 : decode cX11_key 20 = .ok (.iload_n 2, 1) := by decide +kernel
theorem dX11_key_21 : decode cX11_key 21 = .ok (.ifCond .lt 9, 3) := by decide +kernel
theorem dX11_key_24 : decode cX11_key 24 = .ok (.iload_n 2, 1) := by decide +kernel
theorem dX11_key_25 : decode cX11_key 25 = .ok (.bipush 7, 2) := by decide +kernel
theorem dX11_key_27 : decode cX11_key 27 = .ok (.if_icmp .le 13, 3) := by decide +kernel
theorem dX11_key_30 : decode cX11_key 30 = .ok (.new 52, 3) := by decide +kernel
theorem dX11_key_33 : decode cX11_key 33 = .ok (.dup, 1) := by decide +kernel
theorem dX11_key_34 : decode cX11_key 34 = .ok (.ldc 98, 2) := by decide +kernel
theorem dX11_key_36 : decode cX11_key 36 = .ok (.invokespecial 56, 3) := by decide +kernel
theorem dX11_key_39 : decode cX11_key 39 = .ok (.athrow, 1) := by decide +kernel
theorem dX11_key_40 : decode cX11_key 40 = .ok (.iload_n 1, 1) := by decide +kernel
theorem dX11_key_41 : decode cX11_key 41 = .ok (.getstatic 100, 3) := by decide +kernel
theorem dX11_key_44 : decode cX11_key 44 = .ok (.arraylength, 1) := by decide +kernel
theorem dX11_key_45 : decode cX11_key 45 = .ok (.if_icmp .ge 7, 3) := by decide +kernel
theorem dX11_key_48 : decode cX11_key 48 = .ok (.iconst 1, 1) := by decide +kernel
theorem dX11_key_49 : decode cX11_key 49 = .ok (.goto 4, 3) := by decide +kernel
theorem dX11_key_52 : decode cX11_key 52 = .ok (.iconst 0, 1) := by decide +kernel
theorem dX11_key_53 : decode cX11_key 53 = .ok (.istore_n 3, 1) := by decide +kernel
theorem dX11_key_54 : decode cX11_key 54 = .ok (.aload_n 0, 1) := by decide +kernel
theorem dX11_key_55 : decode cX11_key 55 = .ok (.getfield 14, 3) := by decide +kernel
theorem dX11_key_58 : decode cX11_key 58 = .ok (.bipush 27, 2) := by decide +kernel
theorem dX11_key_60 : decode cX11_key 60 = .ok (.invokevirtual 90, 3) := by decide +kernel
theorem dX11_key_63 : decode cX11_key 63 = .ok (.pop, 1) := by decide +kernel
theorem dX11_key_64 : decode cX11_key 64 = .ok (.aload_n 0, 1) := by decide +kernel
theorem dX11_key_65 : decode cX11_key 65 = .ok (.getfield 14, 3) := by decide +kernel
theorem dX11_key_68 : decode cX11_key 68 = .ok (.iload_n 3, 1) := by decide +kernel
theorem dX11_key_69 : decode cX11_key 69 = .ok (.ifCond .eq 25, 3) := by decide +kernel
theorem dX11_key_72 : decode cX11_key 72 = .ok (.iload_n 2, 1) := by decide +kernel
theorem dX11_key_73 : decode cX11_key 73 = .ok (.ifCond .ne 21, 3) := by decide +kernel
theorem dX11_key_76 : decode cX11_key 76 = .ok (.aload_n 0, 1) := by decide +kernel
theorem dX11_key_77 : decode cX11_key 77 = .ok (.getfield 31, 3) := by decide +kernel
theorem dX11_key_80 : decode cX11_key 80 = .ok (.getfield 104, 3) := by decide +kernel
theorem dX11_key_83 : decode cX11_key 83 = .ok (.getfield 108, 3) := by decide +kernel
theorem dX11_key_86 : decode cX11_key 86 = .ok (.ifCond .eq 8, 3) := by decide +kernel
theorem dX11_key_89 : decode cX11_key 89 = .ok (.bipush 79, 2) := by decide +kernel
theorem dX11_key_91 : decode cX11_key 91 = .ok (.goto 5, 3) := by decide +kernel
theorem dX11_key_94 : decode cX11_key 94 = .ok (.bipush 91, 2) := by decide +kernel
theorem dX11_key_96 : decode cX11_key 96 = .ok (.invokevirtual 90, 3) := by decide +kernel
theorem dX11_key_99 : decode cX11_key 99 = .ok (.pop, 1) := by decide +kernel
theorem dX11_key_100 : decode cX11_key 100 = .ok (.iload_n 2, 1) := by decide +kernel
theorem dX11_key_101 : decode cX11_key 101 = .ok (.ifCond .eq 45, 3) := by decide +kernel
theorem dX11_key_104 : decode cX11_key 104 = .ok (.aload_n 0, 1) := by decide +kernel
theorem dX11_key_105 : decode cX11_key 105 = .ok (.getfield 14, 3) := by decide +kernel
theorem dX11_key_108 : decode cX11_key 108 = .ok (.iload_n 3, 1) := by decide +kernel
theorem dX11_key_109 : decode cX11_key 109 = .ok (.ifCond .eq 8, 3) := by decide +kernel
theorem dX11_key_112 : decode cX11_key 112 = .ok (.bipush 49, 2) := by decide +kernel
theorem dX11_key_114 : decode cX11_key 114 = .ok (.goto 5, 3) := by decide +kernel
theorem dX11_key_117 : decode cX11_key 117 = .ok (.bipush 51, 2) := by decide +kernel
theorem dX11_key_119 : decode cX11_key 119 = .ok (.invokevirtual 90, 3) := by decide +kernel
theorem dX11_key_122 : decode cX11_key 122 = .ok (.pop, 1) := by decide +kernel
theorem dX11_key_123 : decode cX11_key 123 = .ok (.aload_n 0, 1) := by decide +kernel
theorem dX11_key_124 : decode cX11_key 124 = .ok (.getfield 14, 3) := by decide +kernel
theorem dX11_key_127 : decode cX11_key 127 = .ok (.bipush 59, 2) := by decide +kernel
theorem dX11_key_129 : decode cX11_key 129 = .ok (.invokevirtual 90, 3) := by decide +kernel
theorem dX11_key_132 : decode cX11_key 132 = .ok (.pop, 1) := by decide +kernel
theorem dX11_key_133 : decode cX11_key 133 = .ok (.aload_n 0, 1) := by decide +kernel
theorem dX11_key_134 : decode cX11_key 134 = .ok (.getfield 14, 3) := by decide +kernel
theorem dX11_key_137 : decode cX11_key 137 = .ok (.iload_n 2, 1) := by decide +kernel
theorem dX11_key_138 : decode cX11_key 138 = .ok (.iconst 1, 1) := by decide +kernel
theorem dX11_key_139 : decode cX11_key 139 = .ok (.iadd, 1) := by decide +kernel
theorem dX11_key_140 : decode cX11_key 140 = .ok (.invokevirtual 114, 3) := by decide +kernel
theorem dX11_key_143 : decode cX11_key 143 = .ok (.goto 17, 3) := by decide +kernel
theorem dX11_key_146 : decode cX11_key 146 = .ok (.iload_n 3, 1) := by decide +kernel
theorem dX11_key_147 : decode cX11_key 147 = .ok (.ifCond .ne 13, 3) := by decide +kernel
theorem dX11_key_150 : decode cX11_key 150 = .ok (.aload_n 0, 1) := by decide +kernel
theorem dX11_key_151 : decode cX11_key 151 = .ok (.getfield 14, 3) := by decide +kernel
theorem dX11_key_154 : decode cX11_key 154 = .ok (.bipush 51, 2) := by decide +kernel
theorem dX11_key_156 : decode cX11_key 156 = .ok (.invokevirtual 90, 3) := by decide +kernel
theorem dX11_key_159 : decode cX11_key 159 = .ok (.pop, 1) := by decide +kernel
theorem dX11_key_160 : decode cX11_key 160 = .ok (.aload_n 0, 1) := by decide +kernel
theorem dX11_key_161 : decode cX11_key 161 = .ok (.getfield 14, 3) := by decide +kernel
theorem dX11_key_164 : decode cX11_key 164 = .ok (.iload_n 1, 1) := by decide +kernel
theorem dX11_key_165 : decode cX11_key 165 = .ok (.getstatic 100, 3) := by decide +kernel
theorem dX11_key_168 : decode cX11_key 168 = .ok (.arraylength, 1) := by decide +kernel
theorem dX11_key_169 : decode cX11_key 169 = .ok (.if_icmp .ge 11, 3) := by decide +kernel
theorem dX11_key_172 : decode cX11_key 172 = .ok (.getstatic 100, 3) := by decide +kernel
theorem dX11_key_175 : decode cX11_key 175 = .ok (.iload_n 1, 1) := by decide +kernel
theorem dX11_key_176 : decode cX11_key 176 = .ok (.caload, 1) := by decide +kernel
theorem dX11_key_177 : decode cX11_key 177 = .ok (.goto 5, 3) := by decide +kernel
theorem dX11_key_180 : decode cX11_key 180 = .ok (.bipush 126, 2) := by decide +kernel
theorem dX11_key_182 : decode cX11_key 182 = .ok (.invokevirtual 90, 3) := by decide +kernel
theorem dX11_key_185 : decode cX11_key 185 = .ok (.pop, 1) := by decide +kernel
theorem dX11_key_186 : decode cX11_key 186 = .ok (.aload_n 0, 1) := by decide +kernel
theorem dX11_key_187 : decode cX11_key 187 = .ok (.getfield 14, 3) := by decide +kernel
theorem dX11_key_190 : decode cX11_key 190 = .ok (.invokevirtual 77, 3) := by decide +kernel
theorem dX11_key_193 : decode cX11_key 193 = .ok (.istore 4, 2) := by decide +kernel
theorem dX11_key_195 : decode cX11_key 195 = .ok (.aload_n 0, 1) := by decide +kernel
theorem dX11_key_196 : decode cX11_key 196 = .ok (.invokevirtual 71, 3) := by decide +kernel
theorem dX11_key_199 : decode cX11_key 199 = .ok (.iload 4, 2) := by decide +kernel
theorem dX11_key_201 : decode cX11_key 201 = .ok (.ireturn, 1) := by decide +kernel
theorem dX11_draft_0 : decode cX11_draft 0 = .ok (.iload_n 1, 1) := by decide +kernel
theorem dX11_draft_1 : decode cX11_draft 1 = .ok (.iconst 1, 1) := by decide +kernel
theorem dX11_draft_2 : decode cX11_draft 2 = .ok (.if_icmp .lt 9, 3) := by decide +kernel
theorem dX11_draft_5 : decode cX11_draft 5 = .ok (.iload_n 1, 1) := by decide +kernel
theorem dX11_draft_6 : decode cX11_draft 6 = .ok (.bipush 127, 2) := by decide +kernel
theorem dX11_draft_8 : decode cX11_draft 8 = .ok (.if_icmp .lt 13, 3) := by decide +kernel
theorem dX11_draft_11 : decode cX11_draft 11 = .ok (.new 52, 3) := by decide +kernel
theorem dX11_draft_14 : decode cX11_draft 14 = .ok (.dup, 1) := by decide +kernel
theorem dX11_draft_15 : decode cX11_draft 15 = .ok (.ldc 54, 2) := by decide +kernel
theorem dX11_draft_17 : decode cX11_draft 17 = .ok (.invokespecial 56, 3) := by decide +kernel
theorem dX11_draft_20 : decode cX11_draft 20 = .ok (.athrow, 1) := by decide +kernel
theorem dX11_draft_21 : decode cX11_draft 21 = .ok (.aload_n 0, 1) := by decide +kernel
theorem dX11_draft_22 : decode cX11_draft 22 = .ok (.getfield 18, 3) := by decide +kernel
theorem dX11_draft_25 : decode cX11_draft 25 = .ok (.invokevirtual 117, 3) := by decide +kernel
theorem dX11_draft_28 : decode cX11_draft 28 = .ok (.iconst 1, 1) := by decide +kernel
theorem dX11_draft_29 : decode cX11_draft 29 = .ok (.if_icmp .ge 13, 3) := by decide +kernel
theorem dX11_draft_32 : decode cX11_draft 32 = .ok (.new 63, 3) := by decide +kernel
theorem dX11_draft_35 : decode cX11_draft 35 = .ok (.dup, 1) := by decide +kernel
theorem dX11_draft_36 : decode cX11_draft 36 = .ok (.ldc 120, 2) := by decide +kernel
theorem dX11_draft_38 : decode cX11_draft 38 = .ok (.invokespecial 67, 3) := by decide +kernel
theorem dX11_draft_41 : decode cX11_draft 41 = .ok (.athrow, 1) := by decide +kernel
theorem dX11_draft_42 : decode cX11_draft 42 = .ok (.aload_n 0, 1) := by decide +kernel
theorem dX11_draft_43 : decode cX11_draft 43 = .ok (.getfield 18, 3) := by decide +kernel
theorem dX11_draft_46 : decode cX11_draft 46 = .ok (.iload_n 1, 1) := by decide +kernel
theorem dX11_draft_47 : decode cX11_draft 47 = .ok (.invokevirtual 90, 3) := by decide +kernel
theorem dX11_draft_50 : decode cX11_draft 50 = .ok (.pop, 1) := by decide +kernel
theorem dX11_draft_51 : decode cX11_draft 51 = .ok (.aload_n 0, 1) := by decide +kernel
theorem dX11_draft_52 : decode cX11_draft 52 = .ok (.getfield 18, 3) := by decide +kernel
theorem dX11_draft_55 : decode cX11_draft 55 = .ok (.invokevirtual 77, 3) := by decide +kernel
theorem dX11_draft_58 : decode cX11_draft 58 = .ok (.ireturn, 1) := by decide +kernel
theorem dX11_paste_0 : decode cX11_paste 0 = .ok (.aload_n 0, 1) := by decide +kernel
theorem dX11_paste_1 : decode cX11_paste 1 = .ok (.getfield 31, 3) := by decide +kernel
theorem dX11_paste_4 : decode cX11_paste 4 = .ok (.getfield 104, 3) := by decide +kernel
theorem dX11_paste_7 : decode cX11_paste 7 = .ok (.getfield 122, 3) := by decide +kernel
theorem dX11_paste_10 : decode cX11_paste 10 = .ok (.istore_n 1, 1) := by decide +kernel
theorem dX11_paste_11 : decode cX11_paste 11 = .ok (.iload_n 1, 1) := by decide +kernel
theorem dX11_paste_12 : decode cX11_paste 12 = .ok (.ifCond .eq 9, 3) := by decide +kernel
theorem dX11_paste_15 : decode cX11_paste 15 = .ok (.aload_n 0, 1) := by decide +kernel
theorem dX11_paste_16 : decode cX11_paste 16 = .ok (.bipush 48, 2) := by decide +kernel
theorem dX11_paste_18 : decode cX11_paste 18 = .ok (.invokevirtual 125, 3) := by decide +kernel
theorem dX11_paste_21 : decode cX11_paste 21 = .ok (.aload_n 0, 1) := by decide +kernel
theorem dX11_paste_22 : decode cX11_paste 22 = .ok (.getfield 18, 3) := by decide +kernel
theorem dX11_paste_25 : decode cX11_paste 25 = .ok (.invokevirtual 77, 3) := by decide +kernel
theorem dX11_paste_28 : decode cX11_paste 28 = .ok (.istore_n 2, 1) := by decide +kernel
theorem dX11_paste_29 : decode cX11_paste 29 = .ok (.iconst 0, 1) := by decide +kernel
theorem dX11_paste_30 : decode cX11_paste 30 = .ok (.istore_n 3, 1) := by decide +kernel
theorem dX11_paste_31 : decode cX11_paste 31 = .ok (.iload_n 3, 1) := by decide +kernel
theorem dX11_paste_32 : decode cX11_paste 32 = .ok (.iload_n 2, 1) := by decide +kernel
theorem dX11_paste_33 : decode cX11_paste 33 = .ok (.if_icmp .ge 35, 3) := by decide +kernel
theorem dX11_paste_36 : decode cX11_paste 36 = .ok (.aload_n 0, 1) := by decide +kernel
theorem dX11_paste_37 : decode cX11_paste 37 = .ok (.getfield 18, 3) := by decide +kernel
theorem dX11_paste_40 : decode cX11_paste 40 = .ok (.invokevirtual 128, 3) := by decide +kernel
theorem dX11_paste_43 : decode cX11_paste 43 = .ok (.istore 4, 2) := by decide +kernel
theorem dX11_paste_45 : decode cX11_paste 45 = .ok (.iload 4, 2) := by decide +kernel
theorem dX11_paste_47 : decode cX11_paste 47 = .ok (.bipush 27, 2) := by decide +kernel
theorem dX11_paste_49 : decode cX11_paste 49 = .ok (.if_icmp .eq 13, 3) := by decide +kernel
theorem dX11_paste_52 : decode cX11_paste 52 = .ok (.aload_n 0, 1) := by decide +kernel
theorem dX11_paste_53 : decode cX11_paste 53 = .ok (.getfield 14, 3) := by decide +kernel
theorem dX11_paste_56 : decode cX11_paste 56 = .ok (.iload 4, 2) := by decide +kernel
theorem dX11_paste_58 : decode cX11_paste 58 = .ok (.invokevirtual 90, 3) := by decide +kernel
theorem dX11_paste_61 : decode cX11_paste 61 = .ok (.pop, 1) := by decide +kernel
theorem dX11_paste_62 : decode cX11_paste 62 = .ok (.iinc 3 1, 3) := by decide +kernel
theorem dX11_paste_65 : decode cX11_paste 65 = .ok (.goto (-34), 3) := by decide +kernel
theorem dX11_paste_68 : decode cX11_paste 68 = .ok (.iload_n 1, 1) := by decide +kernel
theorem dX11_paste_69 : decode cX11_paste 69 = .ok (.ifCond .eq 9, 3) := by decide +kernel
theorem dX11_paste_72 : decode cX11_paste 72 = .ok (.aload_n 0, 1) := by decide +kernel
theorem dX11_paste_73 : decode cX11_paste 73 = .ok (.bipush 49, 2) := by decide +kernel
theorem dX11_paste_75 : decode cX11_paste 75 = .ok (.invokevirtual 125, 3) := by decide +kernel
theorem dX11_paste_78 : decode cX11_paste 78 = .ok (.aload_n 0, 1) := by decide +kernel
theorem dX11_paste_79 : decode cX11_paste 79 = .ok (.getfield 14, 3) := by decide +kernel
theorem dX11_paste_82 : decode cX11_paste 82 = .ok (.invokevirtual 77, 3) := by decide +kernel
theorem dX11_paste_85 : decode cX11_paste 85 = .ok (.istore_n 3, 1) := by decide +kernel
theorem dX11_paste_86 : decode cX11_paste 86 = .ok (.aload_n 0, 1) := by decide +kernel
theorem dX11_paste_87 : decode cX11_paste 87 = .ok (.invokevirtual 71, 3) := by decide +kernel
theorem dX11_paste_90 : decode cX11_paste 90 = .ok (.iload_n 3, 1) := by decide +kernel
theorem dX11_paste_91 : decode cX11_paste 91 = .ok (.ireturn, 1) := by decide +kernel
theorem dX11_mouse_0 : decode cX11_mouse 0 = .ok (.aload_n 0, 1) := by decide +kernel
theorem dX11_mouse_1 : decode cX11_mouse 1 = .ok (.getfield 31, 3) := by decide +kernel
theorem dX11_mouse_4 : decode cX11_mouse 4 = .ok (.iload_n 2, 1) := by decide +kernel
theorem dX11_mouse_5 : decode cX11_mouse 5 = .ok (.iload_n 3, 1) := by decide +kernel
theorem dX11_mouse_6 : decode cX11_mouse 6 = .ok (.invokevirtual 131, 3) := by decide +kernel
theorem dX11_mouse_9 : decode cX11_mouse 9 = .ok (.ifCond .ne 13, 3) := by decide +kernel
theorem dX11_mouse_12 : decode cX11_mouse 12 = .ok (.new 135, 3) := by decide +kernel
theorem dX11_mouse_15 : decode cX11_mouse 15 = .ok (.dup, 1) := by decide +kernel
theorem dX11_mouse_16 : decode cX11_mouse 16 = .ok (.ldc 137, 2) := by decide +kernel
theorem dX11_mouse_18 : decode cX11_mouse 18 = .ok (.invokespecial 139, 3) := by decide +kernel
theorem dX11_mouse_21 : decode cX11_mouse 21 = .ok (.athrow, 1) := by decide +kernel
theorem dX11_mouse_22 : decode cX11_mouse 22 = .ok (.iload_n 1, 1) := by decide +kernel
theorem dX11_mouse_23 : decode cX11_mouse 23 = .ok (.ifCond .lt 8, 3) := by decide +kernel
theorem dX11_mouse_26 : decode cX11_mouse 26 = .ok (.iload_n 1, 1) := by decide +kernel
theorem dX11_mouse_27 : decode cX11_mouse 27 = .ok (.iconst 2, 1) := by decide +kernel
theorem dX11_mouse_28 : decode cX11_mouse 28 = .ok (.if_icmp .le 13, 3) := by decide +kernel
theorem dX11_mouse_31 : decode cX11_mouse 31 = .ok (.new 52, 3) := by decide +kernel
theorem dX11_mouse_34 : decode cX11_mouse 34 = .ok (.dup, 1) := by decide +kernel
theorem dX11_mouse_35 : decode cX11_mouse 35 = .ok (.ldc 140, 2) := by decide +kernel
theorem dX11_mouse_37 : decode cX11_mouse 37 = .ok (.invokespecial 56, 3) := by decide +kernel
theorem dX11_mouse_40 : decode cX11_mouse 40 = .ok (.athrow, 1) := by decide +kernel
theorem dX11_mouse_41 : decode cX11_mouse 41 = .ok (.aload_n 0, 1) := by decide +kernel
theorem dX11_mouse_42 : decode cX11_mouse 42 = .ok (.getfield 31, 3) := by decide +kernel
theorem dX11_mouse_45 : decode cX11_mouse 45 = .ok (.getfield 104, 3) := by decide +kernel
theorem dX11_mouse_48 : decode cX11_mouse 48 = .ok (.getfield 142, 3) := by decide +kernel
theorem dX11_mouse_51 : decode cX11_mouse 51 = .ok (.ifCond .ne 5, 3) := by decide +kernel
theorem dX11_mouse_54 : decode cX11_mouse 54 = .ok (.iconst 0, 1) := by decide +kernel
theorem dX11_mouse_55 : decode cX11_mouse 55 = .ok (.ireturn, 1) := by decide +kernel
theorem dX11_mouse_56 : decode cX11_mouse 56 = .ok (.aload_n 0, 1) := by decide +kernel
theorem dX11_mouse_57 : decode cX11_mouse 57 = .ok (.getfield 14, 3) := by decide +kernel
theorem dX11_mouse_60 : decode cX11_mouse 60 = .ok (.bipush 27, 2) := by decide +kernel
theorem dX11_mouse_62 : decode cX11_mouse 62 = .ok (.invokevirtual 90, 3) := by decide +kernel
theorem dX11_mouse_65 : decode cX11_mouse 65 = .ok (.pop, 1) := by decide +kernel
theorem dX11_mouse_66 : decode cX11_mouse 66 = .ok (.aload_n 0, 1) := by decide +kernel
theorem dX11_mouse_67 : decode cX11_mouse 67 = .ok (.getfield 14, 3) := by decide +kernel
theorem dX11_mouse_70 : decode cX11_mouse 70 = .ok (.bipush 91, 2) := by decide +kernel
theorem dX11_mouse_72 : decode cX11_mouse 72 = .ok (.invokevirtual 90, 3) := by decide +kernel
theorem dX11_mouse_75 : decode cX11_mouse 75 = .ok (.pop, 1) := by decide +kernel
theorem dX11_mouse_76 : decode cX11_mouse 76 = .ok (.aload_n 0, 1) := by decide +kernel
theorem dX11_mouse_77 : decode cX11_mouse 77 = .ok (.getfield 14, 3) := by decide +kernel
theorem dX11_mouse_80 : decode cX11_mouse 80 = .ok (.bipush 60, 2) := by decide +kernel
theorem dX11_mouse_82 : decode cX11_mouse 82 = .ok (.invokevirtual 90, 3) := by decide +kernel
theorem dX11_mouse_85 : decode cX11_mouse 85 = .ok (.pop, 1) := by decide +kernel
theorem dX11_mouse_86 : decode cX11_mouse 86 = .ok (.aload_n 0, 1) := by decide +kernel
theorem dX11_mouse_87 : decode cX11_mouse 87 = .ok (.getfield 14, 3) := by decide +kernel
theorem dX11_mouse_90 : decode cX11_mouse 90 = .ok (.iload_n 1, 1) := by decide +kernel
theorem dX11_mouse_91 : decode cX11_mouse 91 = .ok (.invokevirtual 114, 3) := by decide +kernel
theorem dX11_mouse_94 : decode cX11_mouse 94 = .ok (.aload_n 0, 1) := by decide +kernel
theorem dX11_mouse_95 : decode cX11_mouse 95 = .ok (.getfield 14, 3) := by decide +kernel
theorem dX11_mouse_98 : decode cX11_mouse 98 = .ok (.bipush 59, 2) := by decide +kernel
theorem dX11_mouse_100 : decode cX11_mouse 100 = .ok (.invokevirtual 90, 3) := by decide +kernel
theorem dX11_mouse_103 : decode cX11_mouse 103 = .ok (.pop, 1) := by decide +kernel
theorem dX11_mouse_104 : decode cX11_mouse 104 = .ok (.aload_n 0, 1) := by decide +kernel
theorem dX11_mouse_105 : decode cX11_mouse 105 = .ok (.getfield 14, 3) := by decide +kernel
theorem dX11_mouse_108 : decode cX11_mouse 108 = .ok (.iload_n 3, 1) := by decide +kernel
theorem dX11_mouse_109 : decode cX11_mouse 109 = .ok (.iconst 1, 1) := by decide +kernel
theorem dX11_mouse_110 : decode cX11_mouse 110 = .ok (.iadd, 1) := by decide +kernel
theorem dX11_mouse_111 : decode cX11_mouse 111 = .ok (.invokevirtual 114, 3) := by decide +kernel
theorem dX11_mouse_114 : decode cX11_mouse 114 = .ok (.aload_n 0, 1) := by decide +kernel
theorem dX11_mouse_115 : decode cX11_mouse 115 = .ok (.getfield 14, 3) := by decide +kernel
theorem dX11_mouse_118 : decode cX11_mouse 118 = .ok (.bipush 59, 2) := by decide +kernel
theorem dX11_mouse_120 : decode cX11_mouse 120 = .ok (.invokevirtual 90, 3) := by decide +kernel
theorem dX11_mouse_123 : decode cX11_mouse 123 = .ok (.pop, 1) := by decide +kernel
theorem dX11_mouse_124 : decode cX11_mouse 124 = .ok (.aload_n 0, 1) := by decide +kernel
theorem dX11_mouse_125 : decode cX11_mouse 125 = .ok (.getfield 14, 3) := by decide +kernel
theorem dX11_mouse_128 : decode cX11_mouse 128 = .ok (.iload_n 2, 1) := by decide +kernel
theorem dX11_mouse_129 : decode cX11_mouse 129 = .ok (.iconst 1, 1) := by decide +kernel
theorem dX11_mouse_130 : decode cX11_mouse 130 = .ok (.iadd, 1) := by decide +kernel
theorem dX11_mouse_131 : decode cX11_mouse 131 = .ok (.invokevirtual 114, 3) := by decide +kernel
theorem dX11_mouse_134 : decode cX11_mouse 134 = .ok (.aload_n 0, 1) := by decide +kernel
theorem dX11_mouse_135 : decode cX11_mouse 135 = .ok (.getfield 14, 3) := by decide +kernel
theorem dX11_mouse_138 : decode cX11_mouse 138 = .ok (.bipush 77, 2) := by decide +kernel
theorem dX11_mouse_140 : decode cX11_mouse 140 = .ok (.invokevirtual 90, 3) := by decide +kernel
theorem dX11_mouse_143 : decode cX11_mouse 143 = .ok (.pop, 1) := by decide +kernel
theorem dX11_mouse_144 : decode cX11_mouse 144 = .ok (.aload_n 0, 1) := by decide +kernel
theorem dX11_mouse_145 : decode cX11_mouse 145 = .ok (.getfield 14, 3) := by decide +kernel
theorem dX11_mouse_148 : decode cX11_mouse 148 = .ok (.invokevirtual 77, 3) := by decide +kernel
theorem dX11_mouse_151 : decode cX11_mouse 151 = .ok (.istore 4, 2) := by decide +kernel
theorem dX11_mouse_153 : decode cX11_mouse 153 = .ok (.aload_n 0, 1) := by decide +kernel
theorem dX11_mouse_154 : decode cX11_mouse 154 = .ok (.invokevirtual 71, 3) := by decide +kernel
theorem dX11_mouse_157 : decode cX11_mouse 157 = .ok (.iload 4, 2) := by decide +kernel
theorem dX11_mouse_159 : decode cX11_mouse 159 = .ok (.ireturn, 1) := by decide +kernel
theorem dX11_rule_0 : decode cX11_rule 0 = .ok (.aload_n 0, 1) := by decide +kernel
theorem dX11_rule_1 : decode cX11_rule 1 = .ok (.getfield 24, 3) := by decide +kernel
theorem dX11_rule_4 : decode cX11_rule 4 = .ok (.iload_n 1, 1) := by decide +kernel
theorem dX11_rule_5 : decode cX11_rule 5 = .ok (.iload_n 2, 1) := by decide +kernel
theorem dX11_rule_6 : decode cX11_rule 6 = .ok (.invokevirtual 145, 3) := by decide +kernel
theorem dX11_rule_9 : decode cX11_rule 9 = .ok (.ireturn, 1) := by decide +kernel
theorem dX11_take_0 : decode cX11_take 0 = .ok (.aload_n 0, 1) := by decide +kernel
theorem dX11_take_1 : decode cX11_take 1 = .ok (.getfield 24, 3) := by decide +kernel
theorem dX11_take_4 : decode cX11_take 4 = .ok (.getfield 149, 3) := by decide +kernel
theorem dX11_take_7 : decode cX11_take 7 = .ok (.invokevirtual 128, 3) := by decide +kernel
theorem dX11_take_10 : decode cX11_take 10 = .ok (.ireturn, 1) := by decide +kernel
theorem dX11_size_0 : decode cX11_size 0 = .ok (.iload_n 1, 1) := by decide +kernel
theorem dX11_size_1 : decode cX11_size 1 = .ok (.iconst 2, 1) := by decide +kernel
theorem dX11_size_2 : decode cX11_size 2 = .ok (.if_icmp .lt 20, 3) := by decide +kernel
theorem dX11_size_5 : decode cX11_size 5 = .ok (.iload_n 1, 1) := by decide +kernel
theorem dX11_size_6 : decode cX11_size 6 = .ok (.bipush 12, 2) := by decide +kernel
theorem dX11_size_8 : decode cX11_size 8 = .ok (.if_icmp .gt 14, 3) := by decide +kernel
theorem dX11_size_11 : decode cX11_size 11 = .ok (.iload_n 2, 1) := by decide +kernel
theorem dX11_size_12 : decode cX11_size 12 = .ok (.iconst 4, 1) := by decide +kernel
theorem dX11_size_13 : decode cX11_size 13 = .ok (.if_icmp .lt 9, 3) := by decide +kernel
theorem dX11_size_16 : decode cX11_size 16 = .ok (.iload_n 2, 1) := by decide +kernel
theorem dX11_size_17 : decode cX11_size 17 = .ok (.bipush 24, 2) := by decide +kernel
theorem dX11_size_19 : decode cX11_size 19 = .ok (.if_icmp .le 13, 3) := by decide +kernel
theorem dX11_size_22 : decode cX11_size 22 = .ok (.new 52, 3) := by decide +kernel
theorem dX11_size_25 : decode cX11_size 25 = .ok (.dup, 1) := by decide +kernel
theorem dX11_size_26 : decode cX11_size 26 = .ok (.ldc 152, 2) := by decide +kernel
theorem dX11_size_28 : decode cX11_size 28 = .ok (.invokespecial 56, 3) := by decide +kernel
theorem dX11_size_31 : decode cX11_size 31 = .ok (.athrow, 1) := by decide +kernel
theorem dX11_size_32 : decode cX11_size 32 = .ok (.aload_n 0, 1) := by decide +kernel
theorem dX11_size_33 : decode cX11_size 33 = .ok (.getfield 38, 3) := by decide +kernel
theorem dX11_size_36 : decode cX11_size 36 = .ok (.iload_n 1, 1) := by decide +kernel
theorem dX11_size_37 : decode cX11_size 37 = .ok (.iload_n 2, 1) := by decide +kernel
theorem dX11_size_38 : decode cX11_size 38 = .ok (.invokevirtual 154, 3) := by decide +kernel
theorem dX11_size_41 : decode cX11_size 41 = .ok (.aload_n 0, 1) := by decide +kernel
theorem dX11_size_42 : decode cX11_size 42 = .ok (.getfield 31, 3) := by decide +kernel
theorem dX11_size_45 : decode cX11_size 45 = .ok (.iload_n 1, 1) := by decide +kernel
theorem dX11_size_46 : decode cX11_size 46 = .ok (.iload_n 2, 1) := by decide +kernel
theorem dX11_size_47 : decode cX11_size 47 = .ok (.invokevirtual 158, 3) := by decide +kernel
theorem dX11_size_50 : decode cX11_size 50 = .ok (.aload_n 0, 1) := by decide +kernel
theorem dX11_size_51 : decode cX11_size 51 = .ok (.getfield 48, 3) := by decide +kernel
theorem dX11_size_54 : decode cX11_size 54 = .ok (.iload_n 1, 1) := by decide +kernel
theorem dX11_size_55 : decode cX11_size 55 = .ok (.iload_n 2, 1) := by decide +kernel
theorem dX11_size_56 : decode cX11_size 56 = .ok (.invokevirtual 161, 3) := by decide +kernel
theorem dX11_size_59 : decode cX11_size 59 = .ok (.aload_n 0, 1) := by decide +kernel
theorem dX11_size_60 : decode cX11_size 60 = .ok (.getfield 31, 3) := by decide +kernel
theorem dX11_size_63 : decode cX11_size 63 = .ok (.getfield 164, 3) := by decide +kernel
theorem dX11_size_66 : decode cX11_size 66 = .ok (.getfield 168, 3) := by decide +kernel
theorem dX11_size_69 : decode cX11_size 69 = .ok (.invokevirtual 174, 3) := by decide +kernel
theorem dX11_size_72 : decode cX11_size 72 = .ok (.ireturn, 1) := by decide +kernel
theorem dX11_draw_0 : decode cX11_draw 0 = .ok (.iconst 0, 1) := by decide +kernel
theorem dX11_draw_1 : decode cX11_draw 1 = .ok (.istore_n 1, 1) := by decide +kernel
theorem dX11_draw_2 : decode cX11_draw 2 = .ok (.aload_n 0, 1) := by decide +kernel
theorem dX11_draw_3 : decode cX11_draw 3 = .ok (.getfield 31, 3) := by decide +kernel
theorem dX11_draw_6 : decode cX11_draw 6 = .ok (.invokevirtual 177, 3) := by decide +kernel
theorem dX11_draw_9 : decode cX11_draw 9 = .ok (.astore_n 2, 1) := by decide +kernel
theorem dX11_draw_10 : decode cX11_draw 10 = .ok (.iconst 0, 1) := by decide +kernel
theorem dX11_draw_11 : decode cX11_draw 11 = .ok (.istore_n 3, 1) := by decide +kernel
theorem dX11_draw_12 : decode cX11_draw 12 = .ok (.iload_n 3, 1) := by decide +kernel
theorem dX11_draw_13 : decode cX11_draw 13 = .ok (.aload_n 2, 1) := by decide +kernel
theorem dX11_draw_14 : decode cX11_draw 14 = .ok (.invokevirtual 181, 3) := by decide +kernel
theorem dX11_draw_17 : decode cX11_draw 17 = .ok (.if_icmp .ge 21, 3) := by decide +kernel
theorem dX11_draw_20 : decode cX11_draw 20 = .ok (.iload_n 1, 1) := by decide +kernel
theorem dX11_draw_21 : decode cX11_draw 21 = .ok (.aload_n 0, 1) := by decide +kernel
theorem dX11_draw_22 : decode cX11_draw 22 = .ok (.getfield 48, 3) := by decide +kernel
theorem dX11_draw_25 : decode cX11_draw 25 = .ok (.aload_n 2, 1) := by decide +kernel
theorem dX11_draw_26 : decode cX11_draw 26 = .ok (.iload_n 3, 1) := by decide +kernel
theorem dX11_draw_27 : decode cX11_draw 27 = .ok (.invokevirtual 186, 3) := by decide +kernel
theorem dX11_draw_30 : decode cX11_draw 30 = .ok (.iadd, 1) := by decide +kernel
theorem dX11_draw_31 : decode cX11_draw 31 = .ok (.istore_n 1, 1) := by decide +kernel
theorem dX11_draw_32 : decode cX11_draw 32 = .ok (.iinc 3 1, 3) := by decide +kernel
theorem dX11_draw_35 : decode cX11_draw 35 = .ok (.goto (-23), 3) := by decide +kernel
theorem dX11_draw_38 : decode cX11_draw 38 = .ok (.aload_n 0, 1) := by decide +kernel
theorem dX11_draw_39 : decode cX11_draw 39 = .ok (.getfield 48, 3) := by decide +kernel
theorem dX11_draw_42 : decode cX11_draw 42 = .ok (.getfield 190, 3) := by decide +kernel
theorem dX11_draw_45 : decode cX11_draw 45 = .ok (.aload_n 2, 1) := by decide +kernel
theorem dX11_draw_46 : decode cX11_draw 46 = .ok (.invokevirtual 194, 3) := by decide +kernel
theorem dX11_draw_49 : decode cX11_draw 49 = .ok (.iload_n 1, 1) := by decide +kernel
theorem dX11_draw_50 : decode cX11_draw 50 = .ok (.ireturn, 1) := by decide +kernel
theorem dX11_cell_0 : decode cX11_cell 0 = .ok (.aload_n 0, 1) := by decide +kernel
theorem dX11_cell_1 : decode cX11_cell 1 = .ok (.getfield 31, 3) := by decide +kernel
theorem dX11_cell_4 : decode cX11_cell 4 = .ok (.iload_n 1, 1) := by decide +kernel
theorem dX11_cell_5 : decode cX11_cell 5 = .ok (.iload_n 2, 1) := by decide +kernel
theorem dX11_cell_6 : decode cX11_cell 6 = .ok (.invokevirtual 131, 3) := by decide +kernel
theorem dX11_cell_9 : decode cX11_cell 9 = .ok (.ifCond .ne 13, 3) := by decide +kernel
theorem dX11_cell_12 : decode cX11_cell 12 = .ok (.new 135, 3) := by decide +kernel
theorem dX11_cell_15 : decode cX11_cell 15 = .ok (.dup, 1) := by decide +kernel
theorem dX11_cell_16 : decode cX11_cell 16 = .ok (.ldc 137, 2) := by decide +kernel
theorem dX11_cell_18 : decode cX11_cell 18 = .ok (.invokespecial 139, 3) := by decide +kernel
theorem dX11_cell_21 : decode cX11_cell 21 = .ok (.athrow, 1) := by decide +kernel
theorem dX11_cell_22 : decode cX11_cell 22 = .ok (.aload_n 0, 1) := by decide +kernel
theorem dX11_cell_23 : decode cX11_cell 23 = .ok (.getfield 31, 3) := by decide +kernel
theorem dX11_cell_26 : decode cX11_cell 26 = .ok (.invokevirtual 177, 3) := by decide +kernel
theorem dX11_cell_29 : decode cX11_cell 29 = .ok (.iload_n 1, 1) := by decide +kernel
theorem dX11_cell_30 : decode cX11_cell 30 = .ok (.iload_n 2, 1) := by decide +kernel
theorem dX11_cell_31 : decode cX11_cell 31 = .ok (.invokevirtual 198, 3) := by decide +kernel
theorem dX11_cell_34 : decode cX11_cell 34 = .ok (.ireturn, 1) := by decide +kernel
theorem dX11_cellAnew_0 : decode cX11_cellAnew 0 = .ok (.aload_n 0, 1) := by decide +kernel
theorem dX11_cellAnew_1 : decode cX11_cellAnew 1 = .ok (.getfield 31, 3) := by decide +kernel
theorem dX11_cellAnew_4 : decode cX11_cellAnew 4 = .ok (.iload_n 1, 1) := by decide +kernel
theorem dX11_cellAnew_5 : decode cX11_cellAnew 5 = .ok (.iload_n 2, 1) := by decide +kernel
theorem dX11_cellAnew_6 : decode cX11_cellAnew 6 = .ok (.invokevirtual 131, 3) := by decide +kernel
theorem dX11_cellAnew_9 : decode cX11_cellAnew 9 = .ok (.ifCond .ne 13, 3) := by decide +kernel
theorem dX11_cellAnew_12 : decode cX11_cellAnew 12 = .ok (.new 135, 3) := by decide +kernel
theorem dX11_cellAnew_15 : decode cX11_cellAnew 15 = .ok (.dup, 1) := by decide +kernel
theorem dX11_cellAnew_16 : decode cX11_cellAnew 16 = .ok (.ldc 137, 2) := by decide +kernel
theorem dX11_cellAnew_18 : decode cX11_cellAnew 18 = .ok (.invokespecial 139, 3) := by decide +kernel
theorem dX11_cellAnew_21 : decode cX11_cellAnew 21 = .ok (.athrow, 1) := by decide +kernel
theorem dX11_cellAnew_22 : decode cX11_cellAnew 22 = .ok (.aload_n 0, 1) := by decide +kernel
theorem dX11_cellAnew_23 : decode cX11_cellAnew 23 = .ok (.getfield 38, 3) := by decide +kernel
theorem dX11_cellAnew_26 : decode cX11_cellAnew 26 = .ok (.aload_n 0, 1) := by decide +kernel
theorem dX11_cellAnew_27 : decode cX11_cellAnew 27 = .ok (.getfield 42, 3) := by decide +kernel
theorem dX11_cellAnew_30 : decode cX11_cellAnew 30 = .ok (.invokevirtual 202, 3) := by decide +kernel
theorem dX11_cellAnew_33 : decode cX11_cellAnew 33 = .ok (.aload_n 0, 1) := by decide +kernel
theorem dX11_cellAnew_34 : decode cX11_cellAnew 34 = .ok (.getfield 42, 3) := by decide +kernel
theorem dX11_cellAnew_37 : decode cX11_cellAnew 37 = .ok (.invokevirtual 177, 3) := by decide +kernel
theorem dX11_cellAnew_40 : decode cX11_cellAnew 40 = .ok (.iload_n 1, 1) := by decide +kernel
theorem dX11_cellAnew_41 : decode cX11_cellAnew 41 = .ok (.iload_n 2, 1) := by decide +kernel
theorem dX11_cellAnew_42 : decode cX11_cellAnew 42 = .ok (.invokevirtual 198, 3) := by decide +kernel
theorem dX11_cellAnew_45 : decode cX11_cellAnew 45 = .ok (.ireturn, 1) := by decide +kernel
theorem dX11_past_0 : decode cX11_past 0 = .ok (.iload_n 1, 1) := by decide +kernel
theorem dX11_past_1 : decode cX11_past 1 = .ok (.ifCond .lt 35, 3) := by decide +kernel
theorem dX11_past_4 : decode cX11_past 4 = .ok (.iload_n 1, 1) := by decide +kernel
theorem dX11_past_5 : decode cX11_past 5 = .ok (.aload_n 0, 1) := by decide +kernel
theorem dX11_past_6 : decode cX11_past 6 = .ok (.getfield 31, 3) := by decide +kernel
theorem dX11_past_9 : decode cX11_past 9 = .ok (.getfield 164, 3) := by decide +kernel
theorem dX11_past_12 : decode cX11_past 12 = .ok (.getfield 168, 3) := by decide +kernel
theorem dX11_past_15 : decode cX11_past 15 = .ok (.invokevirtual 174, 3) := by decide +kernel
theorem dX11_past_18 : decode cX11_past 18 = .ok (.if_icmp .ge 18, 3) := by decide +kernel
theorem dX11_past_21 : decode cX11_past 21 = .ok (.iload_n 2, 1) := by decide +kernel
theorem dX11_past_22 : decode cX11_past 22 = .ok (.ifCond .lt 14, 3) := by decide +kernel
theorem dX11_past_25 : decode cX11_past 25 = .ok (.iload_n 2, 1) := by decide +kernel
theorem dX11_past_26 : decode cX11_past 26 = .ok (.aload_n 0, 1) := by decide +kernel
theorem dX11_past_27 : decode cX11_past 27 = .ok (.getfield 31, 3) := by decide +kernel
theorem dX11_past_30 : decode cX11_past 30 = .ok (.getfield 206, 3) := by decide +kernel
theorem dX11_past_33 : decode cX11_past 33 = .ok (.if_icmp .lt 13, 3) := by decide +kernel
theorem dX11_past_36 : decode cX11_past 36 = .ok (.new 135, 3) := by decide +kernel
theorem dX11_past_39 : decode cX11_past 39 = .ok (.dup, 1) := by decide +kernel
theorem dX11_past_40 : decode cX11_past 40 = .ok (.ldc 137, 2) := by decide +kernel
theorem dX11_past_42 : decode cX11_past 42 = .ok (.invokespecial 139, 3) := by decide +kernel
theorem dX11_past_45 : decode cX11_past 45 = .ok (.athrow, 1) := by decide +kernel
theorem dX11_past_46 : decode cX11_past 46 = .ok (.aload_n 0, 1) := by decide +kernel
theorem dX11_past_47 : decode cX11_past 47 = .ok (.getfield 31, 3) := by decide +kernel
theorem dX11_past_50 : decode cX11_past 50 = .ok (.getfield 164, 3) := by decide +kernel
theorem dX11_past_53 : decode cX11_past 53 = .ok (.getfield 168, 3) := by decide +kernel
theorem dX11_past_56 : decode cX11_past 56 = .ok (.iload_n 1, 1) := by decide +kernel
theorem dX11_past_57 : decode cX11_past 57 = .ok (.iload_n 2, 1) := by decide +kernel
theorem dX11_past_58 : decode cX11_past 58 = .ok (.invokevirtual 210, 3) := by decide +kernel
theorem dX11_past_61 : decode cX11_past 61 = .ok (.ireturn, 1) := by decide +kernel
theorem dX11_goesOn_0 : decode cX11_goesOn 0 = .ok (.aload_n 0, 1) := by decide +kernel
theorem dX11_goesOn_1 : decode cX11_goesOn 1 = .ok (.getfield 31, 3) := by decide +kernel
theorem dX11_goesOn_4 : decode cX11_goesOn 4 = .ok (.getfield 164, 3) := by decide +kernel
theorem dX11_goesOn_7 : decode cX11_goesOn 7 = .ok (.getfield 168, 3) := by decide +kernel
theorem dX11_goesOn_10 : decode cX11_goesOn 10 = .ok (.invokevirtual 174, 3) := by decide +kernel
theorem dX11_goesOn_13 : decode cX11_goesOn 13 = .ok (.istore_n 2, 1) := by decide +kernel
theorem dX11_goesOn_14 : decode cX11_goesOn 14 = .ok (.iload_n 1, 1) := by decide +kernel
theorem dX11_goesOn_15 : decode cX11_goesOn 15 = .ok (.iload_n 2, 1) := by decide +kernel
theorem dX11_goesOn_16 : decode cX11_goesOn 16 = .ok (.ineg, 1) := by decide +kernel
theorem dX11_goesOn_17 : decode cX11_goesOn 17 = .ok (.if_icmp .lt 14, 3) := by decide +kernel
theorem dX11_goesOn_20 : decode cX11_goesOn 20 = .ok (.iload_n 1, 1) := by decide +kernel
theorem dX11_goesOn_21 : decode cX11_goesOn 21 = .ok (.aload_n 0, 1) := by decide +kernel
theorem dX11_goesOn_22 : decode cX11_goesOn 22 = .ok (.getfield 31, 3) := by decide +kernel
theorem dX11_goesOn_25 : decode cX11_goesOn 25 = .ok (.getfield 211, 3) := by decide +kernel
theorem dX11_goesOn_28 : decode cX11_goesOn 28 = .ok (.if_icmp .lt 13, 3) := by decide +kernel
theorem dX11_goesOn_31 : decode cX11_goesOn 31 = .ok (.new 135, 3) := by decide +kernel
theorem dX11_goesOn_34 : decode cX11_goesOn 34 = .ok (.dup, 1) := by decide +kernel
theorem dX11_goesOn_35 : decode cX11_goesOn 35 = .ok (.ldc 213, 2) := by decide +kernel
theorem dX11_goesOn_37 : decode cX11_goesOn 37 = .ok (.invokespecial 139, 3) := by decide +kernel
theorem dX11_goesOn_40 : decode cX11_goesOn 40 = .ok (.athrow, 1) := by decide +kernel
theorem dX11_goesOn_41 : decode cX11_goesOn 41 = .ok (.iload_n 1, 1) := by decide +kernel
theorem dX11_goesOn_42 : decode cX11_goesOn 42 = .ok (.ifCond .ge 22, 3) := by decide +kernel
theorem dX11_goesOn_45 : decode cX11_goesOn 45 = .ok (.aload_n 0, 1) := by decide +kernel
theorem dX11_goesOn_46 : decode cX11_goesOn 46 = .ok (.getfield 31, 3) := by decide +kernel
theorem dX11_goesOn_49 : decode cX11_goesOn 49 = .ok (.getfield 164, 3) := by decide +kernel
theorem dX11_goesOn_52 : decode cX11_goesOn 52 = .ok (.getfield 168, 3) := by decide +kernel
theorem dX11_goesOn_55 : decode cX11_goesOn 55 = .ok (.iload_n 2, 1) := by decide +kernel
theorem dX11_goesOn_56 : decode cX11_goesOn 56 = .ok (.iload_n 1, 1) := by decide +kernel
theorem dX11_goesOn_57 : decode cX11_goesOn 57 = .ok (.iadd, 1) := by decide +kernel
theorem dX11_goesOn_58 : decode cX11_goesOn 58 = .ok (.invokevirtual 215, 3) := by decide +kernel
theorem dX11_goesOn_61 : decode cX11_goesOn 61 = .ok (.goto 14, 3) := by decide +kernel
theorem dX11_goesOn_64 : decode cX11_goesOn 64 = .ok (.aload_n 0, 1) := by decide +kernel
theorem dX11_goesOn_65 : decode cX11_goesOn 65 = .ok (.getfield 31, 3) := by decide +kernel
theorem dX11_goesOn_68 : decode cX11_goesOn 68 = .ok (.invokevirtual 177, 3) := by decide +kernel
theorem dX11_goesOn_71 : decode cX11_goesOn 71 = .ok (.iload_n 1, 1) := by decide +kernel
theorem dX11_goesOn_72 : decode cX11_goesOn 72 = .ok (.invokevirtual 218, 3) := by decide +kernel
theorem dX11_goesOn_75 : decode cX11_goesOn 75 = .ok (.ireturn, 1) := by decide +kernel
theorem dX11_title_0 : decode cX11_title 0 = .ok (.iload_n 1, 1) := by decide +kernel
theorem dX11_title_1 : decode cX11_title 1 = .ok (.ifCond .lt 20, 3) := by decide +kernel
theorem dX11_title_4 : decode cX11_title 4 = .ok (.iload_n 1, 1) := by decide +kernel
theorem dX11_title_5 : decode cX11_title 5 = .ok (.aload_n 0, 1) := by decide +kernel
theorem dX11_title_6 : decode cX11_title 6 = .ok (.getfield 31, 3) := by decide +kernel
theorem dX11_title_9 : decode cX11_title 9 = .ok (.getfield 219, 3) := by decide +kernel
theorem dX11_title_12 : decode cX11_title 12 = .ok (.getfield 223, 3) := by decide +kernel
theorem dX11_title_15 : decode cX11_title 15 = .ok (.invokevirtual 77, 3) := by decide +kernel
theorem dX11_title_18 : decode cX11_title 18 = .ok (.if_icmp .lt 13, 3) := by decide +kernel
theorem dX11_title_21 : decode cX11_title 21 = .ok (.new 135, 3) := by decide +kernel
theorem dX11_title_24 : decode cX11_title 24 = .ok (.dup, 1) := by decide +kernel
theorem dX11_title_25 : decode cX11_title 25 = .ok (.ldc 228, 2) := by decide +kernel
theorem dX11_title_27 : decode cX11_title 27 = .ok (.invokespecial 139, 3) := by decide +kernel
theorem dX11_title_30 : decode cX11_title 30 = .ok (.athrow, 1) := by decide +kernel
theorem dX11_title_31 : decode cX11_title 31 = .ok (.aload_n 0, 1) := by decide +kernel
theorem dX11_title_32 : decode cX11_title 32 = .ok (.getfield 31, 3) := by decide +kernel
theorem dX11_title_35 : decode cX11_title 35 = .ok (.getfield 219, 3) := by decide +kernel
theorem dX11_title_38 : decode cX11_title 38 = .ok (.getfield 223, 3) := by decide +kernel
theorem dX11_title_41 : decode cX11_title 41 = .ok (.iload_n 1, 1) := by decide +kernel
theorem dX11_title_42 : decode cX11_title 42 = .ok (.invokevirtual 230, 3) := by decide +kernel
theorem dX11_title_45 : decode cX11_title 45 = .ok (.ireturn, 1) := by decide +kernel
theorem dX11_least_0 : decode cX11_least 0 = .ok (.iload_n 1, 1) := by decide +kernel
theorem dX11_least_1 : decode cX11_least 1 = .ok (.ifCond .lt 14, 3) := by decide +kernel
theorem dX11_least_4 : decode cX11_least 4 = .ok (.iload_n 1, 1) := by decide +kernel
theorem dX11_least_5 : decode cX11_least 5 = .ok (.aload_n 0, 1) := by decide +kernel
theorem dX11_least_6 : decode cX11_least 6 = .ok (.getfield 31, 3) := by decide +kernel
theorem dX11_least_9 : decode cX11_least 9 = .ok (.getfield 211, 3) := by decide +kernel
theorem dX11_least_12 : decode cX11_least 12 = .ok (.if_icmp .lt 13, 3) := by decide +kernel
theorem dX11_least_15 : decode cX11_least 15 = .ok (.new 135, 3) := by decide +kernel
theorem dX11_least_18 : decode cX11_least 18 = .ok (.dup, 1) := by decide +kernel
theorem dX11_least_19 : decode cX11_least 19 = .ok (.ldc 213, 2) := by decide +kernel
theorem dX11_least_21 : decode cX11_least 21 = .ok (.invokespecial 139, 3) := by decide +kernel
theorem dX11_least_24 : decode cX11_least 24 = .ok (.athrow, 1) := by decide +kernel
theorem dX11_least_25 : decode cX11_least 25 = .ok (.aload_n 0, 1) := by decide +kernel
theorem dX11_least_26 : decode cX11_least 26 = .ok (.getfield 48, 3) := by decide +kernel
theorem dX11_least_29 : decode cX11_least 29 = .ok (.aload_n 0, 1) := by decide +kernel
theorem dX11_least_30 : decode cX11_least 30 = .ok (.getfield 31, 3) := by decide +kernel
theorem dX11_least_33 : decode cX11_least 33 = .ok (.invokevirtual 177, 3) := by decide +kernel
theorem dX11_least_36 : decode cX11_least 36 = .ok (.iload_n 1, 1) := by decide +kernel
theorem dX11_least_37 : decode cX11_least 37 = .ok (.invokevirtual 186, 3) := by decide +kernel
theorem dX11_least_40 : decode cX11_least 40 = .ok (.ireturn, 1) := by decide +kernel
theorem dX11_told_0 : decode cX11_told 0 = .ok (.iload_n 1, 1) := by decide +kernel
theorem dX11_told_1 : decode cX11_told 1 = .ok (.ifCond .lt 9, 3) := by decide +kernel
theorem dX11_told_4 : decode cX11_told 4 = .ok (.iload_n 1, 1) := by decide +kernel
theorem dX11_told_5 : decode cX11_told 5 = .ok (.bipush 20, 2) := by decide +kernel
theorem dX11_told_7 : decode cX11_told 7 = .ok (.if_icmp .le 13, 3) := by decide +kernel
theorem dX11_told_10 : decode cX11_told 10 = .ok (.new 52, 3) := by decide +kernel
theorem dX11_told_13 : decode cX11_told 13 = .ok (.dup, 1) := by decide +kernel
theorem dX11_told_14 : decode cX11_told 14 = .ok (.ldc 232, 2) := by decide +kernel
theorem dX11_told_16 : decode cX11_told 16 = .ok (.invokespecial 56, 3) := by decide +kernel
theorem dX11_told_19 : decode cX11_told 19 = .ok (.athrow, 1) := by decide +kernel
theorem dX11_told_20 : decode cX11_told 20 = .ok (.iload_n 1, 1) := by decide +kernel
theorem dX11_told_21 : decode cX11_told 21 = .ok (.tableswitch 189 10 20 #[59, 67, 83, 99, 110, 121, 132, 140, 148, 167, 181], 59) := by decide +kernel
theorem dX11_told_80 : decode cX11_told 80 = .ok (.aload_n 0, 1) := by decide +kernel
theorem dX11_told_81 : decode cX11_told 81 = .ok (.getfield 31, 3) := by decide +kernel
theorem dX11_told_84 : decode cX11_told 84 = .ok (.getfield 234, 3) := by decide +kernel
theorem dX11_told_87 : decode cX11_told 87 = .ok (.ireturn, 1) := by decide +kernel
theorem dX11_told_88 : decode cX11_told 88 = .ok (.aload_n 0, 1) := by decide +kernel
theorem dX11_told_89 : decode cX11_told 89 = .ok (.getfield 31, 3) := by decide +kernel
theorem dX11_told_92 : decode cX11_told 92 = .ok (.getfield 237, 3) := by decide +kernel
theorem dX11_told_95 : decode cX11_told 95 = .ok (.ifCond .eq 7, 3) := by decide +kernel
theorem dX11_told_98 : decode cX11_told 98 = .ok (.iconst 1, 1) := by decide +kernel
theorem dX11_told_99 : decode cX11_told 99 = .ok (.goto 4, 3) := by decide +kernel
theorem dX11_told_102 : decode cX11_told 102 = .ok (.iconst 0, 1) := by decide +kernel
theorem dX11_told_103 : decode cX11_told 103 = .ok (.ireturn, 1) := by decide +kernel
theorem dX11_told_104 : decode cX11_told 104 = .ok (.aload_n 0, 1) := by decide +kernel
theorem dX11_told_105 : decode cX11_told 105 = .ok (.getfield 24, 3) := by decide +kernel
theorem dX11_told_108 : decode cX11_told 108 = .ok (.getfield 240, 3) := by decide +kernel
theorem dX11_told_111 : decode cX11_told 111 = .ok (.ifCond .eq 7, 3) := by decide +kernel
theorem dX11_told_114 : decode cX11_told 114 = .ok (.iconst 1, 1) := by decide +kernel
theorem dX11_told_115 : decode cX11_told 115 = .ok (.goto 4, 3) := by decide +kernel
theorem dX11_told_118 : decode cX11_told 118 = .ok (.iconst 0, 1) := by decide +kernel
theorem dX11_told_119 : decode cX11_told 119 = .ok (.ireturn, 1) := by decide +kernel
theorem dX11_told_120 : decode cX11_told 120 = .ok (.aload_n 0, 1) := by decide +kernel
theorem dX11_told_121 : decode cX11_told 121 = .ok (.getfield 24, 3) := by decide +kernel
theorem dX11_told_124 : decode cX11_told 124 = .ok (.getfield 74, 3) := by decide +kernel
theorem dX11_told_127 : decode cX11_told 127 = .ok (.invokevirtual 77, 3) := by decide +kernel
theorem dX11_told_130 : decode cX11_told 130 = .ok (.ireturn, 1) := by decide +kernel
theorem dX11_told_131 : decode cX11_told 131 = .ok (.aload_n 0, 1) := by decide +kernel
theorem dX11_told_132 : decode cX11_told 132 = .ok (.getfield 24, 3) := by decide +kernel
theorem dX11_told_135 : decode cX11_told 135 = .ok (.getfield 93, 3) := by decide +kernel
theorem dX11_told_138 : decode cX11_told 138 = .ok (.invokevirtual 77, 3) := by decide +kernel
theorem dX11_told_141 : decode cX11_told 141 = .ok (.ireturn, 1) := by decide +kernel
theorem dX11_told_142 : decode cX11_told 142 = .ok (.aload_n 0, 1) := by decide +kernel
theorem dX11_told_143 : decode cX11_told 143 = .ok (.getfield 24, 3) := by decide +kernel
theorem dX11_told_146 : decode cX11_told 146 = .ok (.getfield 149, 3) := by decide +kernel
theorem dX11_told_149 : decode cX11_told 149 = .ok (.invokevirtual 77, 3) := by decide +kernel
theorem dX11_told_152 : decode cX11_told 152 = .ok (.ireturn, 1) := by decide +kernel
theorem dX11_told_153 : decode cX11_told 153 = .ok (.aload_n 0, 1) := by decide +kernel
theorem dX11_told_154 : decode cX11_told 154 = .ok (.getfield 24, 3) := by decide +kernel
theorem dX11_told_157 : decode cX11_told 157 = .ok (.getfield 243, 3) := by decide +kernel
theorem dX11_told_160 : decode cX11_told 160 = .ok (.ireturn, 1) := by decide +kernel
theorem dX11_told_161 : decode cX11_told 161 = .ok (.aload_n 0, 1) := by decide +kernel
theorem dX11_told_162 : decode cX11_told 162 = .ok (.getfield 24, 3) := by decide +kernel
theorem dX11_told_165 : decode cX11_told 165 = .ok (.getfield 246, 3) := by decide +kernel
theorem dX11_told_168 : decode cX11_told 168 = .ok (.ireturn, 1) := by decide +kernel
theorem dX11_told_169 : decode cX11_told 169 = .ok (.aload_n 0, 1) := by decide +kernel
theorem dX11_told_170 : decode cX11_told 170 = .ok (.getfield 31, 3) := by decide +kernel
theorem dX11_told_173 : decode cX11_told 173 = .ok (.getfield 104, 3) := by decide +kernel
theorem dX11_told_176 : decode cX11_told 176 = .ok (.getfield 249, 3) := by decide +kernel
theorem dX11_told_179 : decode cX11_told 179 = .ok (.ifCond .eq 7, 3) := by decide +kernel
theorem dX11_told_182 : decode cX11_told 182 = .ok (.iconst 1, 1) := by decide +kernel
theorem dX11_told_183 : decode cX11_told 183 = .ok (.goto 4, 3) := by decide +kernel
theorem dX11_told_186 : decode cX11_told 186 = .ok (.iconst 0, 1) := by decide +kernel
theorem dX11_told_187 : decode cX11_told 187 = .ok (.ireturn, 1) := by decide +kernel
theorem dX11_told_188 : decode cX11_told 188 = .ok (.aload_n 0, 1) := by decide +kernel
theorem dX11_told_189 : decode cX11_told 189 = .ok (.getfield 31, 3) := by decide +kernel
theorem dX11_told_192 : decode cX11_told 192 = .ok (.getfield 219, 3) := by decide +kernel
theorem dX11_told_195 : decode cX11_told 195 = .ok (.getfield 223, 3) := by decide +kernel
theorem dX11_told_198 : decode cX11_told 198 = .ok (.invokevirtual 77, 3) := by decide +kernel
theorem dX11_told_201 : decode cX11_told 201 = .ok (.ireturn, 1) := by decide +kernel
theorem dX11_told_202 : decode cX11_told 202 = .ok (.aload_n 0, 1) := by decide +kernel
theorem dX11_told_203 : decode cX11_told 203 = .ok (.getfield 31, 3) := by decide +kernel
theorem dX11_told_206 : decode cX11_told 206 = .ok (.invokevirtual 252, 3) := by decide +kernel
theorem dX11_told_209 : decode cX11_told 209 = .ok (.ireturn, 1) := by decide +kernel
theorem dX11_told_210 : decode cX11_told 210 = .ok (.aload_n 0, 1) := by decide +kernel
theorem dX11_told_211 : decode cX11_told 211 = .ok (.getfield 31, 3) := by decide +kernel
theorem dX11_told_214 : decode cX11_told 214 = .ok (.iload_n 1, 1) := by decide +kernel
theorem dX11_told_215 : decode cX11_told 215 = .ok (.invokevirtual 255, 3) := by decide +kernel
theorem dX11_told_218 : decode cX11_told 218 = .ok (.ireturn, 1) := by decide +kernel
theorem dX11_settle_0 : decode cX11_settle 0 = .ok (.iconst 0, 1) := by decide +kernel
theorem dX11_settle_1 : decode cX11_settle 1 = .ok (.istore_n 1, 1) := by decide +kernel
theorem dX11_settle_2 : decode cX11_settle 2 = .ok (.iload_n 1, 1) := by decide +kernel
theorem dX11_settle_3 : decode cX11_settle 3 = .ok (.ldc_w 258, 3) := by decide +kernel
theorem dX11_settle_6 : decode cX11_settle 6 = .ok (.if_icmp .ge 97, 3) := by decide +kernel
theorem dX11_settle_9 : decode cX11_settle 9 = .ok (.aload_n 0, 1) := by decide +kernel
theorem dX11_settle_10 : decode cX11_settle 10 = .ok (.getfield 24, 3) := by decide +kernel
theorem dX11_settle_13 : decode cX11_settle 13 = .ok (.getfield 259, 3) := by decide +kernel
theorem dX11_settle_16 : decode cX11_settle 16 = .ok (.invokevirtual 77, 3) := by decide +kernel
theorem dX11_settle_19 : decode cX11_settle 19 = .ok (.ifCond .le 50, 3) := by decide +kernel
theorem dX11_settle_22 : decode cX11_settle 22 = .ok (.aload_n 0, 1) := by decide +kernel
theorem dX11_settle_23 : decode cX11_settle 23 = .ok (.getfield 24, 3) := by decide +kernel
theorem dX11_settle_26 : decode cX11_settle 26 = .ok (.getfield 259, 3) := by decide +kernel
theorem dX11_settle_29 : decode cX11_settle 29 = .ok (.invokevirtual 128, 3) := by decide +kernel
theorem dX11_settle_32 : decode cX11_settle 32 = .ok (.istore_n 2, 1) := by decide +kernel
theorem dX11_settle_33 : decode cX11_settle 33 = .ok (.aload_n 0, 1) := by decide +kernel
theorem dX11_settle_34 : decode cX11_settle 34 = .ok (.getfield 38, 3) := by decide +kernel
theorem dX11_settle_37 : decode cX11_settle 37 = .ok (.iload_n 2, 1) := by decide +kernel
theorem dX11_settle_38 : decode cX11_settle 38 = .ok (.invokevirtual 262, 3) := by decide +kernel
theorem dX11_settle_41 : decode cX11_settle 41 = .ok (.aload_n 0, 1) := by decide +kernel
theorem dX11_settle_42 : decode cX11_settle 42 = .ok (.getfield 31, 3) := by decide +kernel
theorem dX11_settle_45 : decode cX11_settle 45 = .ok (.iload_n 2, 1) := by decide +kernel
theorem dX11_settle_46 : decode cX11_settle 46 = .ok (.invokevirtual 265, 3) := by decide +kernel
theorem dX11_settle_49 : decode cX11_settle 49 = .ok (.aload_n 0, 1) := by decide +kernel
theorem dX11_settle_50 : decode cX11_settle 50 = .ok (.getfield 24, 3) := by decide +kernel
theorem dX11_settle_53 : decode cX11_settle 53 = .ok (.getfield 149, 3) := by decide +kernel
theorem dX11_settle_56 : decode cX11_settle 56 = .ok (.aload_n 0, 1) := by decide +kernel
theorem dX11_settle_57 : decode cX11_settle 57 = .ok (.getfield 31, 3) := by decide +kernel
theorem dX11_settle_60 : decode cX11_settle 60 = .ok (.getfield 268, 3) := by decide +kernel
theorem dX11_settle_63 : decode cX11_settle 63 = .ok (.invokevirtual 271, 3) := by decide +kernel
theorem dX11_settle_66 : decode cX11_settle 66 = .ok (.goto 31, 3) := by decide +kernel
theorem dX11_settle_69 : decode cX11_settle 69 = .ok (.aload_n 0, 1) := by decide +kernel
theorem dX11_settle_70 : decode cX11_settle 70 = .ok (.getfield 14, 3) := by decide +kernel
theorem dX11_settle_73 : decode cX11_settle 73 = .ok (.invokevirtual 77, 3) := by decide +kernel
theorem dX11_settle_76 : decode cX11_settle 76 = .ok (.ifCond .le 20, 3) := by decide +kernel
theorem dX11_settle_79 : decode cX11_settle 79 = .ok (.aload_n 0, 1) := by decide +kernel
theorem dX11_settle_80 : decode cX11_settle 80 = .ok (.getfield 24, 3) := by decide +kernel
theorem dX11_settle_83 : decode cX11_settle 83 = .ok (.aload_n 0, 1) := by decide +kernel
theorem dX11_settle_84 : decode cX11_settle 84 = .ok (.getfield 14, 3) := by decide +kernel
theorem dX11_settle_87 : decode cX11_settle 87 = .ok (.invokevirtual 128, 3) := by decide +kernel
theorem dX11_settle_90 : decode cX11_settle 90 = .ok (.invokevirtual 275, 3) := by decide +kernel
theorem dX11_settle_93 : decode cX11_settle 93 = .ok (.goto 4, 3) := by decide +kernel
theorem dX11_settle_96 : decode cX11_settle 96 = .ok (.return_, 1) := by decide +kernel
theorem dX11_settle_97 : decode cX11_settle 97 = .ok (.iinc 1 1, 3) := by decide +kernel
theorem dX11_settle_100 : decode cX11_settle 100 = .ok (.goto (-98), 3) := by decide +kernel
theorem dX11_settle_103 : decode cX11_settle 103 = .ok (.return_, 1) := by decide +kernel
theorem dX11_addBracket_0 : decode cX11_addBracket 0 = .ok (.aload_n 0, 1) := by decide +kernel
theorem dX11_addBracket_1 : decode cX11_addBracket 1 = .ok (.getfield 14, 3) := by decide +kernel
theorem dX11_addBracket_4 : decode cX11_addBracket 4 = .ok (.bipush 27, 2) := by decide +kernel
theorem dX11_addBracket_6 : decode cX11_addBracket 6 = .ok (.invokevirtual 90, 3) := by decide +kernel
theorem dX11_addBracket_9 : decode cX11_addBracket 9 = .ok (.pop, 1) := by decide +kernel
theorem dX11_addBracket_10 : decode cX11_addBracket 10 = .ok (.aload_n 0, 1) := by decide +kernel
theorem dX11_addBracket_11 : decode cX11_addBracket 11 = .ok (.getfield 14, 3) := by decide +kernel
theorem dX11_addBracket_14 : decode cX11_addBracket 14 = .ok (.bipush 91, 2) := by decide +kernel
theorem dX11_addBracket_16 : decode cX11_addBracket 16 = .ok (.invokevirtual 90, 3) := by decide +kernel
theorem dX11_addBracket_19 : decode cX11_addBracket 19 = .ok (.pop, 1) := by decide +kernel
theorem dX11_addBracket_20 : decode cX11_addBracket 20 = .ok (.aload_n 0, 1) := by decide +kernel
theorem dX11_addBracket_21 : decode cX11_addBracket 21 = .ok (.getfield 14, 3) := by decide +kernel
theorem dX11_addBracket_24 : decode cX11_addBracket 24 = .ok (.bipush 50, 2) := by decide +kernel
theorem dX11_addBracket_26 : decode cX11_addBracket 26 = .ok (.invokevirtual 90, 3) := by decide +kernel
theorem dX11_addBracket_29 : decode cX11_addBracket 29 = .ok (.pop, 1) := by decide +kernel
theorem dX11_addBracket_30 : decode cX11_addBracket 30 = .ok (.aload_n 0, 1) := by decide +kernel
theorem dX11_addBracket_31 : decode cX11_addBracket 31 = .ok (.getfield 14, 3) := by decide +kernel
theorem dX11_addBracket_34 : decode cX11_addBracket 34 = .ok (.bipush 48, 2) := by decide +kernel
theorem dX11_addBracket_36 : decode cX11_addBracket 36 = .ok (.invokevirtual 90, 3) := by decide +kernel
theorem dX11_addBracket_39 : decode cX11_addBracket 39 = .ok (.pop, 1) := by decide +kernel
theorem dX11_addBracket_40 : decode cX11_addBracket 40 = .ok (.aload_n 0, 1) := by decide +kernel
theorem dX11_addBracket_41 : decode cX11_addBracket 41 = .ok (.getfield 14, 3) := by decide +kernel
theorem dX11_addBracket_44 : decode cX11_addBracket 44 = .ok (.iload_n 1, 1) := by decide +kernel
theorem dX11_addBracket_45 : decode cX11_addBracket 45 = .ok (.invokevirtual 90, 3) := by decide +kernel
theorem dX11_addBracket_48 : decode cX11_addBracket 48 = .ok (.pop, 1) := by decide +kernel
theorem dX11_addBracket_49 : decode cX11_addBracket 49 = .ok (.aload_n 0, 1) := by decide +kernel
theorem dX11_addBracket_50 : decode cX11_addBracket 50 = .ok (.getfield 14, 3) := by decide +kernel
theorem dX11_addBracket_53 : decode cX11_addBracket 53 = .ok (.bipush 126, 2) := by decide +kernel
theorem dX11_addBracket_55 : decode cX11_addBracket 55 = .ok (.invokevirtual 90, 3) := by decide +kernel
theorem dX11_addBracket_58 : decode cX11_addBracket 58 = .ok (.pop, 1) := by decide +kernel
theorem dX11_addBracket_59 : decode cX11_addBracket 59 = .ok (.return_, 1) := by decide +kernel
theorem dX11_digitsOf_0 : decode cX11_digitsOf 0 = .ok (.iload_n 0, 1) := by decide +kernel
theorem dX11_digitsOf_1 : decode cX11_digitsOf 1 = .ok (.bipush 100, 2) := by decide +kernel
theorem dX11_digitsOf_3 : decode cX11_digitsOf 3 = .ok (.if_icmp .lt 5, 3) := by decide +kernel
theorem dX11_digitsOf_6 : decode cX11_digitsOf 6 = .ok (.iconst 3, 1) := by decide +kernel
theorem dX11_digitsOf_7 : decode cX11_digitsOf 7 = .ok (.ireturn, 1) := by decide +kernel
theorem dX11_digitsOf_8 : decode cX11_digitsOf 8 = .ok (.iload_n 0, 1) := by decide +kernel
theorem dX11_digitsOf_9 : decode cX11_digitsOf 9 = .ok (.bipush 10, 2) := by decide +kernel
theorem dX11_digitsOf_11 : decode cX11_digitsOf 11 = .ok (.if_icmp .lt 7, 3) := by decide +kernel
theorem dX11_digitsOf_14 : decode cX11_digitsOf 14 = .ok (.iconst 2, 1) := by decide +kernel
theorem dX11_digitsOf_15 : decode cX11_digitsOf 15 = .ok (.goto 4, 3) := by decide +kernel
theorem dX11_digitsOf_18 : decode cX11_digitsOf 18 = .ok (.iconst 1, 1) := by decide +kernel
theorem dX11_digitsOf_19 : decode cX11_digitsOf 19 = .ok (.ireturn, 1) := by decide +kernel
theorem dX11_isWide_0 : decode cX11_isWide 0 = .ok (.iload_n 0, 1) := by decide +kernel
theorem dX11_isWide_1 : decode cX11_isWide 1 = .ok (.sipush 1000, 3) := by decide +kernel
theorem dX11_isWide_4 : decode cX11_isWide 4 = .ok (.irem, 1) := by decide +kernel
theorem dX11_isWide_5 : decode cX11_isWide 5 = .ok (.istore_n 1, 1) := by decide +kernel
theorem dX11_isWide_6 : decode cX11_isWide 6 = .ok (.iload_n 1, 1) := by decide +kernel
theorem dX11_isWide_7 : decode cX11_isWide 7 = .ok (.bipush 65, 2) := by decide +kernel
theorem dX11_isWide_9 : decode cX11_isWide 9 = .ok (.if_icmp .lt 13, 3) := by decide +kernel
theorem dX11_isWide_12 : decode cX11_isWide 12 = .ok (.iload_n 1, 1) := by decide +kernel
theorem dX11_isWide_13 : decode cX11_isWide 13 = .ok (.bipush 90, 2) := by decide +kernel
theorem dX11_isWide_15 : decode cX11_isWide 15 = .ok (.if_icmp .gt 7, 3) := by decide +kernel
theorem dX11_isWide_18 : decode cX11_isWide 18 = .ok (.iconst 1, 1) := by decide +kernel
theorem dX11_isWide_19 : decode cX11_isWide 19 = .ok (.goto 4, 3) := by decide +kernel
theorem dX11_isWide_22 : decode cX11_isWide 22 = .ok (.iconst 0, 1) := by decide +kernel
theorem dX11_isWide_23 : decode cX11_isWide 23 = .ok (.ireturn, 1) := by decide +kernel
theorem dX11_attributeOf_0 : decode cX11_attributeOf 0 = .ok (.iload_n 0, 1) := by decide +kernel
theorem dX11_attributeOf_1 : decode cX11_attributeOf 1 = .ok (.ifCond .le 15, 3) := by decide +kernel
theorem dX11_attributeOf_4 : decode cX11_attributeOf 4 = .ok (.iload_n 0, 1) := by decide +kernel
theorem dX11_attributeOf_5 : decode cX11_attributeOf 5 = .ok (.ldc_w 278, 3) := by decide +kernel
theorem dX11_attributeOf_8 : decode cX11_attributeOf 8 = .ok (.irem, 1) := by decide +kernel
theorem dX11_attributeOf_9 : decode cX11_attributeOf 9 = .ok (.sipush 1000, 3) := by decide +kernel
theorem dX11_attributeOf_12 : decode cX11_attributeOf 12 = .ok (.idiv, 1) := by decide +kernel
theorem dX11_attributeOf_13 : decode cX11_attributeOf 13 = .ok (.goto 4, 3) := by decide +kernel
theorem dX11_attributeOf_16 : decode cX11_attributeOf 16 = .ok (.iconst 0, 1) := by decide +kernel
theorem dX11_attributeOf_17 : decode cX11_attributeOf 17 = .ok (.ireturn, 1) := by decide +kernel
theorem dX11_marksOf_0 : decode cX11_marksOf 0 = .ok (.iload_n 0, 1) := by decide +kernel
theorem dX11_marksOf_1 : decode cX11_marksOf 1 = .ok (.ifCond .le 11, 3) := by decide +kernel
theorem dX11_marksOf_4 : decode cX11_marksOf 4 = .ok (.iload_n 0, 1) := by decide +kernel
theorem dX11_marksOf_5 : decode cX11_marksOf 5 = .ok (.ldc_w 278, 3) := by decide +kernel
theorem dX11_marksOf_8 : decode cX11_marksOf 8 = .ok (.idiv, 1) := by decide +kernel
theorem dX11_marksOf_9 : decode cX11_marksOf 9 = .ok (.goto 4, 3) := by decide +kernel
theorem dX11_marksOf_12 : decode cX11_marksOf 12 = .ok (.iconst 0, 1) := by decide +kernel
theorem dX11_marksOf_13 : decode cX11_marksOf 13 = .ok (.ireturn, 1) := by decide +kernel
theorem dL_write_0 : decode cL_write 0 = .ok (.aload_n 2, 1) := by decide +kernel
theorem dL_write_1 : decode cL_write 1 = .ok (.iconst 0, 1) := by decide +kernel
theorem dL_write_2 : decode cL_write 2 = .ok (.aload_n 0, 1) := by decide +kernel
theorem dL_write_3 : decode cL_write 3 = .ok (.iload_n 1, 1) := by decide +kernel
theorem dL_write_4 : decode cL_write 4 = .ok (.invokevirtual 7, 3) := by decide +kernel
theorem dL_write_7 : decode cL_write 7 = .ok (.i2l, 1) := by decide +kernel
theorem dL_write_8 : decode cL_write 8 = .ok (.lastore, 1) := by decide +kernel
theorem dL_write_9 : decode cL_write 9 = .ok (.goto 9, 3) := by decide +kernel
theorem dL_write_12 : decode cL_write 12 = .ok (.astore_n 3, 1) := by decide +kernel
theorem dL_write_13 : decode cL_write 13 = .ok (.iconst 1, 1) := by decide +kernel
theorem dL_write_14 : decode cL_write 14 = .ok (.ireturn, 1) := by decide +kernel
theorem dL_write_15 : decode cL_write 15 = .ok (.astore_n 3, 1) := by decide +kernel
theorem dL_write_16 : decode cL_write 16 = .ok (.iconst 2, 1) := by decide +kernel
theorem dL_write_17 : decode cL_write 17 = .ok (.ireturn, 1) := by decide +kernel
theorem dL_write_18 : decode cL_write 18 = .ok (.iconst 0, 1) := by decide +kernel
theorem dL_write_19 : decode cL_write 19 = .ok (.ireturn, 1) := by decide +kernel
theorem dL_code_0 : decode cL_code 0 = .ok (.aload 5, 2) := by decide +kernel
theorem dL_code_2 : decode cL_code 2 = .ok (.iconst 0, 1) := by decide +kernel
theorem dL_code_3 : decode cL_code 3 = .ok (.aload_n 0, 1) := by decide +kernel
theorem dL_code_4 : decode cL_code 4 = .ok (.iload_n 1, 1) := by decide +kernel
theorem dL_code_5 : decode cL_code 5 = .ok (.iload_n 2, 1) := by decide +kernel
theorem dL_code_6 : decode cL_code 6 = .ok (.iload_n 3, 1) := by decide +kernel
theorem dL_code_7 : decode cL_code 7 = .ok (.iload 4, 2) := by decide +kernel
theorem dL_code_9 : decode cL_code 9 = .ok (.invokevirtual 17, 3) := by decide +kernel
theorem dL_code_12 : decode cL_code 12 = .ok (.i2l, 1) := by decide +kernel
theorem dL_code_13 : decode cL_code 13 = .ok (.lastore, 1) := by decide +kernel
theorem dL_code_14 : decode cL_code 14 = .ok (.goto 11, 3) := by decide +kernel
theorem dL_code_17 : decode cL_code 17 = .ok (.astore 6, 2) := by decide +kernel
theorem dL_code_19 : decode cL_code 19 = .ok (.iconst 1, 1) := by decide +kernel
theorem dL_code_20 : decode cL_code 20 = .ok (.ireturn, 1) := by decide +kernel
theorem dL_code_21 : decode cL_code 21 = .ok (.astore 6, 2) := by decide +kernel
theorem dL_code_23 : decode cL_code 23 = .ok (.iconst 2, 1) := by decide +kernel
theorem dL_code_24 : decode cL_code 24 = .ok (.ireturn, 1) := by decide +kernel
theorem dL_code_25 : decode cL_code 25 = .ok (.iconst 0, 1) := by decide +kernel
theorem dL_code_26 : decode cL_code 26 = .ok (.ireturn, 1) := by decide +kernel
theorem dL_type_0 : decode cL_type 0 = .ok (.aload_n 2, 1) := by decide +kernel
theorem dL_type_1 : decode cL_type 1 = .ok (.iconst 0, 1) := by decide +kernel
theorem dL_type_2 : decode cL_type 2 = .ok (.aload_n 0, 1) := by decide +kernel
theorem dL_type_3 : decode cL_type 3 = .ok (.iload_n 1, 1) := by decide +kernel
theorem dL_type_4 : decode cL_type 4 = .ok (.invokevirtual 21, 3) := by decide +kernel
theorem dL_type_7 : decode cL_type 7 = .ok (.i2l, 1) := by decide +kernel
theorem dL_type_8 : decode cL_type 8 = .ok (.lastore, 1) := by decide +kernel
theorem dL_type_9 : decode cL_type 9 = .ok (.goto 6, 3) := by decide +kernel
theorem dL_type_12 : decode cL_type 12 = .ok (.astore_n 3, 1) := by decide +kernel
theorem dL_type_13 : decode cL_type 13 = .ok (.iconst 1, 1) := by decide +kernel
theorem dL_type_14 : decode cL_type 14 = .ok (.ireturn, 1) := by decide +kernel
theorem dL_type_15 : decode cL_type 15 = .ok (.iconst 0, 1) := by decide +kernel
theorem dL_type_16 : decode cL_type 16 = .ok (.ireturn, 1) := by decide +kernel
theorem dL_key_0 : decode cL_key 0 = .ok (.aload_n 3, 1) := by decide +kernel
theorem dL_key_1 : decode cL_key 1 = .ok (.iconst 0, 1) := by decide +kernel
theorem dL_key_2 : decode cL_key 2 = .ok (.aload_n 0, 1) := by decide +kernel
theorem dL_key_3 : decode cL_key 3 = .ok (.iload_n 1, 1) := by decide +kernel
theorem dL_key_4 : decode cL_key 4 = .ok (.iload_n 2, 1) := by decide +kernel
theorem dL_key_5 : decode cL_key 5 = .ok (.invokevirtual 24, 3) := by decide +kernel
theorem dL_key_8 : decode cL_key 8 = .ok (.i2l, 1) := by decide +kernel
theorem dL_key_9 : decode cL_key 9 = .ok (.lastore, 1) := by decide +kernel
theorem dL_key_10 : decode cL_key 10 = .ok (.goto 7, 3) := by decide +kernel
theorem dL_key_13 : decode cL_key 13 = .ok (.astore 4, 2) := by decide +kernel
theorem dL_key_15 : decode cL_key 15 = .ok (.iconst 1, 1) := by decide +kernel
theorem dL_key_16 : decode cL_key 16 = .ok (.ireturn, 1) := by decide +kernel
theorem dL_key_17 : decode cL_key 17 = .ok (.iconst 0, 1) := by decide +kernel
theorem dL_key_18 : decode cL_key 18 = .ok (.ireturn, 1) := by decide +kernel
theorem dL_draft_0 : decode cL_draft 0 = .ok (.aload_n 2, 1) := by decide +kernel
theorem dL_draft_1 : decode cL_draft 1 = .ok (.iconst 0, 1) := by decide +kernel
theorem dL_draft_2 : decode cL_draft 2 = .ok (.aload_n 0, 1) := by decide +kernel
theorem dL_draft_3 : decode cL_draft 3 = .ok (.iload_n 1, 1) := by decide +kernel
theorem dL_draft_4 : decode cL_draft 4 = .ok (.invokevirtual 28, 3) := by decide +kernel
theorem dL_draft_7 : decode cL_draft 7 = .ok (.i2l, 1) := by decide +kernel
theorem dL_draft_8 : decode cL_draft 8 = .ok (.lastore, 1) := by decide +kernel
theorem dL_draft_9 : decode cL_draft 9 = .ok (.goto 9, 3) := by decide +kernel
theorem dL_draft_12 : decode cL_draft 12 = .ok (.astore_n 3, 1) := by decide +kernel
theorem dL_draft_13 : decode cL_draft 13 = .ok (.iconst 1, 1) := by decide +kernel
theorem dL_draft_14 : decode cL_draft 14 = .ok (.ireturn, 1) := by decide +kernel
theorem dL_draft_15 : decode cL_draft 15 = .ok (.astore_n 3, 1) := by decide +kernel
theorem dL_draft_16 : decode cL_draft 16 = .ok (.iconst 2, 1) := by decide +kernel
theorem dL_draft_17 : decode cL_draft 17 = .ok (.ireturn, 1) := by decide +kernel
theorem dL_draft_18 : decode cL_draft 18 = .ok (.iconst 0, 1) := by decide +kernel
theorem dL_draft_19 : decode cL_draft 19 = .ok (.ireturn, 1) := by decide +kernel
theorem dL_mouse_0 : decode cL_mouse 0 = .ok (.aload 4, 2) := by decide +kernel
theorem dL_mouse_2 : decode cL_mouse 2 = .ok (.iconst 0, 1) := by decide +kernel
theorem dL_mouse_3 : decode cL_mouse 3 = .ok (.aload_n 0, 1) := by decide +kernel
theorem dL_mouse_4 : decode cL_mouse 4 = .ok (.iload_n 1, 1) := by decide +kernel
theorem dL_mouse_5 : decode cL_mouse 5 = .ok (.iload_n 2, 1) := by decide +kernel
theorem dL_mouse_6 : decode cL_mouse 6 = .ok (.iload_n 3, 1) := by decide +kernel
theorem dL_mouse_7 : decode cL_mouse 7 = .ok (.invokevirtual 31, 3) := by decide +kernel
theorem dL_mouse_10 : decode cL_mouse 10 = .ok (.i2l, 1) := by decide +kernel
theorem dL_mouse_11 : decode cL_mouse 11 = .ok (.lastore, 1) := by decide +kernel
theorem dL_mouse_12 : decode cL_mouse 12 = .ok (.goto 11, 3) := by decide +kernel
theorem dL_mouse_15 : decode cL_mouse 15 = .ok (.astore 5, 2) := by decide +kernel
theorem dL_mouse_17 : decode cL_mouse 17 = .ok (.iconst 1, 1) := by decide +kernel
theorem dL_mouse_18 : decode cL_mouse 18 = .ok (.ireturn, 1) := by decide +kernel
theorem dL_mouse_19 : decode cL_mouse 19 = .ok (.astore 5, 2) := by decide +kernel
theorem dL_mouse_21 : decode cL_mouse 21 = .ok (.iconst 2, 1) := by decide +kernel
theorem dL_mouse_22 : decode cL_mouse 22 = .ok (.ireturn, 1) := by decide +kernel
theorem dL_mouse_23 : decode cL_mouse 23 = .ok (.iconst 0, 1) := by decide +kernel
theorem dL_mouse_24 : decode cL_mouse 24 = .ok (.ireturn, 1) := by decide +kernel
theorem dL_size_0 : decode cL_size 0 = .ok (.aload_n 3, 1) := by decide +kernel
theorem dL_size_1 : decode cL_size 1 = .ok (.iconst 0, 1) := by decide +kernel
theorem dL_size_2 : decode cL_size 2 = .ok (.aload_n 0, 1) := by decide +kernel
theorem dL_size_3 : decode cL_size 3 = .ok (.iload_n 1, 1) := by decide +kernel
theorem dL_size_4 : decode cL_size 4 = .ok (.iload_n 2, 1) := by decide +kernel
theorem dL_size_5 : decode cL_size 5 = .ok (.invokevirtual 37, 3) := by decide +kernel
theorem dL_size_8 : decode cL_size 8 = .ok (.i2l, 1) := by decide +kernel
theorem dL_size_9 : decode cL_size 9 = .ok (.lastore, 1) := by decide +kernel
theorem dL_size_10 : decode cL_size 10 = .ok (.goto 7, 3) := by decide +kernel
theorem dL_size_13 : decode cL_size 13 = .ok (.astore 4, 2) := by decide +kernel
theorem dL_size_15 : decode cL_size 15 = .ok (.iconst 1, 1) := by decide +kernel
theorem dL_size_16 : decode cL_size 16 = .ok (.ireturn, 1) := by decide +kernel
theorem dL_size_17 : decode cL_size 17 = .ok (.iconst 0, 1) := by decide +kernel
theorem dL_size_18 : decode cL_size 18 = .ok (.ireturn, 1) := by decide +kernel
theorem dL_cell_0 : decode cL_cell 0 = .ok (.aload_n 3, 1) := by decide +kernel
theorem dL_cell_1 : decode cL_cell 1 = .ok (.iconst 0, 1) := by decide +kernel
theorem dL_cell_2 : decode cL_cell 2 = .ok (.aload_n 0, 1) := by decide +kernel
theorem dL_cell_3 : decode cL_cell 3 = .ok (.iload_n 1, 1) := by decide +kernel
theorem dL_cell_4 : decode cL_cell 4 = .ok (.iload_n 2, 1) := by decide +kernel
theorem dL_cell_5 : decode cL_cell 5 = .ok (.invokevirtual 40, 3) := by decide +kernel
theorem dL_cell_8 : decode cL_cell 8 = .ok (.i2l, 1) := by decide +kernel
theorem dL_cell_9 : decode cL_cell 9 = .ok (.lastore, 1) := by decide +kernel
theorem dL_cell_10 : decode cL_cell 10 = .ok (.goto 7, 3) := by decide +kernel
theorem dL_cell_13 : decode cL_cell 13 = .ok (.astore 4, 2) := by decide +kernel
theorem dL_cell_15 : decode cL_cell 15 = .ok (.iconst 1, 1) := by decide +kernel
theorem dL_cell_16 : decode cL_cell 16 = .ok (.ireturn, 1) := by decide +kernel
theorem dL_cell_17 : decode cL_cell 17 = .ok (.iconst 0, 1) := by decide +kernel
theorem dL_cell_18 : decode cL_cell 18 = .ok (.ireturn, 1) := by decide +kernel
theorem dL_cellAnew_0 : decode cL_cellAnew 0 = .ok (.aload_n 3, 1) := by decide +kernel
theorem dL_cellAnew_1 : decode cL_cellAnew 1 = .ok (.iconst 0, 1) := by decide +kernel
theorem dL_cellAnew_2 : decode cL_cellAnew 2 = .ok (.aload_n 0, 1) := by decide +kernel
theorem dL_cellAnew_3 : decode cL_cellAnew 3 = .ok (.iload_n 1, 1) := by decide +kernel
theorem dL_cellAnew_4 : decode cL_cellAnew 4 = .ok (.iload_n 2, 1) := by decide +kernel
theorem dL_cellAnew_5 : decode cL_cellAnew 5 = .ok (.invokevirtual 43, 3) := by decide +kernel
theorem dL_cellAnew_8 : decode cL_cellAnew 8 = .ok (.i2l, 1) := by decide +kernel
theorem dL_cellAnew_9 : decode cL_cellAnew 9 = .ok (.lastore, 1) := by decide +kernel
theorem dL_cellAnew_10 : decode cL_cellAnew 10 = .ok (.goto 7, 3) := by decide +kernel
theorem dL_cellAnew_13 : decode cL_cellAnew 13 = .ok (.astore 4, 2) := by decide +kernel
theorem dL_cellAnew_15 : decode cL_cellAnew 15 = .ok (.iconst 1, 1) := by decide +kernel
theorem dL_cellAnew_16 : decode cL_cellAnew 16 = .ok (.ireturn, 1) := by decide +kernel
theorem dL_cellAnew_17 : decode cL_cellAnew 17 = .ok (.iconst 0, 1) := by decide +kernel
theorem dL_cellAnew_18 : decode cL_cellAnew 18 = .ok (.ireturn, 1) := by decide +kernel
theorem dL_past_0 : decode cL_past 0 = .ok (.aload_n 3, 1) := by decide +kernel
theorem dL_past_1 : decode cL_past 1 = .ok (.iconst 0, 1) := by decide +kernel
theorem dL_past_2 : decode cL_past 2 = .ok (.aload_n 0, 1) := by decide +kernel
theorem dL_past_3 : decode cL_past 3 = .ok (.iload_n 1, 1) := by decide +kernel
theorem dL_past_4 : decode cL_past 4 = .ok (.iload_n 2, 1) := by decide +kernel
theorem dL_past_5 : decode cL_past 5 = .ok (.invokevirtual 46, 3) := by decide +kernel
theorem dL_past_8 : decode cL_past 8 = .ok (.i2l, 1) := by decide +kernel
theorem dL_past_9 : decode cL_past 9 = .ok (.lastore, 1) := by decide +kernel
theorem dL_past_10 : decode cL_past 10 = .ok (.goto 7, 3) := by decide +kernel
theorem dL_past_13 : decode cL_past 13 = .ok (.astore 4, 2) := by decide +kernel
theorem dL_past_15 : decode cL_past 15 = .ok (.iconst 1, 1) := by decide +kernel
theorem dL_past_16 : decode cL_past 16 = .ok (.ireturn, 1) := by decide +kernel
theorem dL_past_17 : decode cL_past 17 = .ok (.iconst 0, 1) := by decide +kernel
theorem dL_past_18 : decode cL_past 18 = .ok (.ireturn, 1) := by decide +kernel
theorem dL_goesOn_0 : decode cL_goesOn 0 = .ok (.aload_n 2, 1) := by decide +kernel
theorem dL_goesOn_1 : decode cL_goesOn 1 = .ok (.iconst 0, 1) := by decide +kernel
theorem dL_goesOn_2 : decode cL_goesOn 2 = .ok (.aload_n 0, 1) := by decide +kernel
theorem dL_goesOn_3 : decode cL_goesOn 3 = .ok (.iload_n 1, 1) := by decide +kernel
theorem dL_goesOn_4 : decode cL_goesOn 4 = .ok (.invokevirtual 49, 3) := by decide +kernel
theorem dL_goesOn_7 : decode cL_goesOn 7 = .ok (.ifCond .eq 7, 3) := by decide +kernel
theorem dL_goesOn_10 : decode cL_goesOn 10 = .ok (.lconst 1, 1) := by decide +kernel
theorem dL_goesOn_11 : decode cL_goesOn 11 = .ok (.goto 4, 3) := by decide +kernel
theorem dL_goesOn_14 : decode cL_goesOn 14 = .ok (.lconst 0, 1) := by decide +kernel
theorem dL_goesOn_15 : decode cL_goesOn 15 = .ok (.lastore, 1) := by decide +kernel
theorem dL_goesOn_16 : decode cL_goesOn 16 = .ok (.goto 6, 3) := by decide +kernel
theorem dL_goesOn_19 : decode cL_goesOn 19 = .ok (.astore_n 3, 1) := by decide +kernel
theorem dL_goesOn_20 : decode cL_goesOn 20 = .ok (.iconst 1, 1) := by decide +kernel
theorem dL_goesOn_21 : decode cL_goesOn 21 = .ok (.ireturn, 1) := by decide +kernel
theorem dL_goesOn_22 : decode cL_goesOn 22 = .ok (.iconst 0, 1) := by decide +kernel
theorem dL_goesOn_23 : decode cL_goesOn 23 = .ok (.ireturn, 1) := by decide +kernel
theorem dL_title_0 : decode cL_title 0 = .ok (.aload_n 2, 1) := by decide +kernel
theorem dL_title_1 : decode cL_title 1 = .ok (.iconst 0, 1) := by decide +kernel
theorem dL_title_2 : decode cL_title 2 = .ok (.aload_n 0, 1) := by decide +kernel
theorem dL_title_3 : decode cL_title 3 = .ok (.iload_n 1, 1) := by decide +kernel
theorem dL_title_4 : decode cL_title 4 = .ok (.invokevirtual 53, 3) := by decide +kernel
theorem dL_title_7 : decode cL_title 7 = .ok (.i2l, 1) := by decide +kernel
theorem dL_title_8 : decode cL_title 8 = .ok (.lastore, 1) := by decide +kernel
theorem dL_title_9 : decode cL_title 9 = .ok (.goto 6, 3) := by decide +kernel
theorem dL_title_12 : decode cL_title 12 = .ok (.astore_n 3, 1) := by decide +kernel
theorem dL_title_13 : decode cL_title 13 = .ok (.iconst 1, 1) := by decide +kernel
theorem dL_title_14 : decode cL_title 14 = .ok (.ireturn, 1) := by decide +kernel
theorem dL_title_15 : decode cL_title 15 = .ok (.iconst 0, 1) := by decide +kernel
theorem dL_title_16 : decode cL_title 16 = .ok (.ireturn, 1) := by decide +kernel
theorem dL_least_0 : decode cL_least 0 = .ok (.aload_n 2, 1) := by decide +kernel
theorem dL_least_1 : decode cL_least 1 = .ok (.iconst 0, 1) := by decide +kernel
theorem dL_least_2 : decode cL_least 2 = .ok (.aload_n 0, 1) := by decide +kernel
theorem dL_least_3 : decode cL_least 3 = .ok (.iload_n 1, 1) := by decide +kernel
theorem dL_least_4 : decode cL_least 4 = .ok (.invokevirtual 56, 3) := by decide +kernel
theorem dL_least_7 : decode cL_least 7 = .ok (.i2l, 1) := by decide +kernel
theorem dL_least_8 : decode cL_least 8 = .ok (.lastore, 1) := by decide +kernel
theorem dL_least_9 : decode cL_least 9 = .ok (.goto 6, 3) := by decide +kernel
theorem dL_least_12 : decode cL_least 12 = .ok (.astore_n 3, 1) := by decide +kernel
theorem dL_least_13 : decode cL_least 13 = .ok (.iconst 1, 1) := by decide +kernel
theorem dL_least_14 : decode cL_least 14 = .ok (.ireturn, 1) := by decide +kernel
theorem dL_least_15 : decode cL_least 15 = .ok (.iconst 0, 1) := by decide +kernel
theorem dL_least_16 : decode cL_least 16 = .ok (.ireturn, 1) := by decide +kernel
theorem dL_told_0 : decode cL_told 0 = .ok (.aload_n 2, 1) := by decide +kernel
theorem dL_told_1 : decode cL_told 1 = .ok (.iconst 0, 1) := by decide +kernel
theorem dL_told_2 : decode cL_told 2 = .ok (.aload_n 0, 1) := by decide +kernel
theorem dL_told_3 : decode cL_told 3 = .ok (.iload_n 1, 1) := by decide +kernel
theorem dL_told_4 : decode cL_told 4 = .ok (.invokevirtual 59, 3) := by decide +kernel
theorem dL_told_7 : decode cL_told 7 = .ok (.i2l, 1) := by decide +kernel
theorem dL_told_8 : decode cL_told 8 = .ok (.lastore, 1) := by decide +kernel
theorem dL_told_9 : decode cL_told 9 = .ok (.goto 6, 3) := by decide +kernel
theorem dL_told_12 : decode cL_told 12 = .ok (.astore_n 3, 1) := by decide +kernel
theorem dL_told_13 : decode cL_told 13 = .ok (.iconst 1, 1) := by decide +kernel
theorem dL_told_14 : decode cL_told 14 = .ok (.ireturn, 1) := by decide +kernel
theorem dL_told_15 : decode cL_told 15 = .ok (.iconst 0, 1) := by decide +kernel
theorem dL_told_16 : decode cL_told 16 = .ok (.ireturn, 1) := by decide +kernel
theorem dL_law_0 : decode cL_law 0 = .ok (.new 8, 3) := by decide +kernel
theorem dL_law_3 : decode cL_law 3 = .ok (.dup, 1) := by decide +kernel
theorem dL_law_4 : decode cL_law 4 = .ok (.invokespecial 62, 3) := by decide +kernel
theorem dL_law_7 : decode cL_law 7 = .ok (.astore_n 1, 1) := by decide +kernel
theorem dL_law_8 : decode cL_law 8 = .ok (.new 63, 3) := by decide +kernel
theorem dL_law_11 : decode cL_law 11 = .ok (.dup, 1) := by decide +kernel
theorem dL_law_12 : decode cL_law 12 = .ok (.invokespecial 65, 3) := by decide +kernel
theorem dL_law_15 : decode cL_law 15 = .ok (.astore_n 2, 1) := by decide +kernel
theorem dL_law_16 : decode cL_law 16 = .ok (.iconst 1, 1) := by decide +kernel
theorem dL_law_17 : decode cL_law 17 = .ok (.newarray .long, 2) := by decide +kernel
theorem dL_law_19 : decode cL_law 19 = .ok (.astore_n 3, 1) := by decide +kernel
theorem dL_law_20 : decode cL_law 20 = .ok (.iconst 0, 1) := by decide +kernel
theorem dL_law_21 : decode cL_law 21 = .ok (.istore 4, 2) := by decide +kernel
theorem dL_law_23 : decode cL_law 23 = .ok (.iload 4, 2) := by decide +kernel
theorem dL_law_25 : decode cL_law 25 = .ok (.aload_n 0, 1) := by decide +kernel
theorem dL_law_26 : decode cL_law 26 = .ok (.arraylength, 1) := by decide +kernel
theorem dL_law_27 : decode cL_law 27 = .ok (.iconst 5, 1) := by decide +kernel
theorem dL_law_28 : decode cL_law 28 = .ok (.isub, 1) := by decide +kernel
theorem dL_law_29 : decode cL_law 29 = .ok (.if_icmp .gt 1136, 3) := by decide +kernel
theorem dL_law_32 : decode cL_law 32 = .ok (.aload_n 0, 1) := by decide +kernel
theorem dL_law_33 : decode cL_law 33 = .ok (.iload 4, 2) := by decide +kernel
theorem dL_law_35 : decode cL_law 35 = .ok (.iaload, 1) := by decide +kernel
theorem dL_law_36 : decode cL_law 36 = .ok (.bipush 31, 2) := by decide +kernel
theorem dL_law_38 : decode cL_law 38 = .ok (.iand, 1) := by decide +kernel
theorem dL_law_39 : decode cL_law 39 = .ok (.tableswitch 1120 0 17 #[85, 141, 249, 305, 373, 429, 442, 522, 591, 604, 672, 685, 753, 821, 889, 952, 1008, 1064], 85) := by decide +kernel
theorem dL_law_124 : decode cL_law 124 = .ok (.aload_n 1, 1) := by decide +kernel
theorem dL_law_125 : decode cL_law 125 = .ok (.aload_n 0, 1) := by decide +kernel
theorem dL_law_126 : decode cL_law 126 = .ok (.iload 4, 2) := by decide +kernel
theorem dL_law_128 : decode cL_law 128 = .ok (.iconst 1, 1) := by decide +kernel
theorem dL_law_129 : decode cL_law 129 = .ok (.iadd, 1) := by decide +kernel
theorem dL_law_130 : decode cL_law 130 = .ok (.iaload, 1) := by decide +kernel
theorem dL_law_131 : decode cL_law 131 = .ok (.aload_n 3, 1) := by decide +kernel
theorem dL_law_132 : decode cL_law 132 = .ok (.invokestatic 66, 3) := by decide +kernel
theorem dL_law_135 : decode cL_law 135 = .ok (.istore 5, 2) := by decide +kernel
theorem dL_law_137 : decode cL_law 137 = .ok (.aload_n 2, 1) := by decide +kernel
theorem dL_law_138 : decode cL_law 138 = .ok (.aload_n 0, 1) := by decide +kernel
theorem dL_law_139 : decode cL_law 139 = .ok (.iload 4, 2) := by decide +kernel
theorem dL_law_141 : decode cL_law 141 = .ok (.iconst 1, 1) := by decide +kernel
theorem dL_law_142 : decode cL_law 142 = .ok (.iadd, 1) := by decide +kernel
theorem dL_law_143 : decode cL_law 143 = .ok (.iaload, 1) := by decide +kernel
theorem dL_law_144 : decode cL_law 144 = .ok (.invokevirtual 71, 3) := by decide +kernel
theorem dL_law_147 : decode cL_law 147 = .ok (.istore 6, 2) := by decide +kernel
theorem dL_law_149 : decode cL_law 149 = .ok (.aload_n 2, 1) := by decide +kernel
theorem dL_law_150 : decode cL_law 150 = .ok (.invokevirtual 72, 3) := by decide +kernel
theorem dL_law_153 : decode cL_law 153 = .ok (.iload 5, 2) := by decide +kernel
theorem dL_law_155 : decode cL_law 155 = .ok (.if_icmp .eq 5, 3) := by decide +kernel
theorem dL_law_158 : decode cL_law 158 = .ok (.iconst 0, 1) := by decide +kernel
theorem dL_law_159 : decode cL_law 159 = .ok (.ireturn, 1) := by decide +kernel
theorem dL_law_160 : decode cL_law 160 = .ok (.iload 5, 2) := by decide +kernel
theorem dL_law_162 : decode cL_law 162 = .ok (.ifCond .ne 15, 3) := by decide +kernel
theorem dL_law_165 : decode cL_law 165 = .ok (.aload_n 3, 1) := by decide +kernel
theorem dL_law_166 : decode cL_law 166 = .ok (.iconst 0, 1) := by decide +kernel
theorem dL_law_167 : decode cL_law 167 = .ok (.laload, 1) := by decide +kernel
theorem dL_law_168 : decode cL_law 168 = .ok (.iload 6, 2) := by decide +kernel
theorem dL_law_170 : decode cL_law 170 = .ok (.i2l, 1) := by decide +kernel
theorem dL_law_171 : decode cL_law 171 = .ok (.lcmp, 1) := by decide +kernel
theorem dL_law_172 : decode cL_law 172 = .ok (.ifCond .eq 5, 3) := by decide +kernel
theorem dL_law_175 : decode cL_law 175 = .ok (.iconst 0, 1) := by decide +kernel
theorem dL_law_176 : decode cL_law 176 = .ok (.ireturn, 1) := by decide +kernel
theorem dL_law_177 : decode cL_law 177 = .ok (.goto 982, 3) := by decide +kernel
theorem dL_law_180 : decode cL_law 180 = .ok (.aload_n 1, 1) := by decide +kernel
theorem dL_law_181 : decode cL_law 181 = .ok (.aload_n 0, 1) := by decide +kernel
theorem dL_law_182 : decode cL_law 182 = .ok (.iload 4, 2) := by decide +kernel
theorem dL_law_184 : decode cL_law 184 = .ok (.iconst 1, 1) := by decide +kernel
theorem dL_law_185 : decode cL_law 185 = .ok (.iadd, 1) := by decide +kernel
theorem dL_law_186 : decode cL_law 186 = .ok (.iaload, 1) := by decide +kernel
theorem dL_law_187 : decode cL_law 187 = .ok (.ifCond .eq 7, 3) := by decide +kernel
theorem dL_law_190 : decode cL_law 190 = .ok (.iconst 1, 1) := by decide +kernel
theorem dL_law_191 : decode cL_law 191 = .ok (.goto 4, 3) := by decide +kernel
theorem dL_law_194 : decode cL_law 194 = .ok (.iconst 0, 1) := by decide +kernel
theorem dL_law_195 : decode cL_law 195 = .ok (.aload_n 0, 1) := by decide +kernel
theorem dL_law_196 : decode cL_law 196 = .ok (.iload 4, 2) := by decide +kernel
theorem dL_law_198 : decode cL_law 198 = .ok (.iconst 2, 1) := by decide +kernel
theorem dL_law_199 : decode cL_law 199 = .ok (.iadd, 1) := by decide +kernel
theorem dL_law_200 : decode cL_law 200 = .ok (.iaload, 1) := by decide +kernel
theorem dL_law_201 : decode cL_law 201 = .ok (.aload_n 0, 1) := by decide +kernel
theorem dL_law_202 : decode cL_law 202 = .ok (.iload 4, 2) := by decide +kernel
theorem dL_law_204 : decode cL_law 204 = .ok (.iconst 3, 1) := by decide +kernel
theorem dL_law_205 : decode cL_law 205 = .ok (.iadd, 1) := by decide +kernel
theorem dL_law_206 : decode cL_law 206 = .ok (.iaload, 1) := by decide +kernel
theorem dL_law_207 : decode cL_law 207 = .ok (.aload_n 0, 1) := by decide +kernel
theorem dL_law_208 : decode cL_law 208 = .ok (.iload 4, 2) := by decide +kernel
theorem dL_law_210 : decode cL_law 210 = .ok (.iconst 4, 1) := by decide +kernel
theorem dL_law_211 : decode cL_law 211 = .ok (.iadd, 1) := by decide +kernel
theorem dL_law_212 : decode cL_law 212 = .ok (.iaload, 1) := by decide +kernel
theorem dL_law_213 : decode cL_law 213 = .ok (.aload_n 3, 1) := by decide +kernel
theorem dL_law_214 : decode cL_law 214 = .ok (.invokestatic 76, 3) := by decide +kernel
theorem dL_law_217 : decode cL_law 217 = .ok (.istore 5, 2) := by decide +kernel
theorem dL_law_219 : decode cL_law 219 = .ok (.aload_n 2, 1) := by decide +kernel
theorem dL_law_220 : decode cL_law 220 = .ok (.aload_n 0, 1) := by decide +kernel
theorem dL_law_221 : decode cL_law 221 = .ok (.iload 4, 2) := by decide +kernel
theorem dL_law_223 : decode cL_law 223 = .ok (.iconst 1, 1) := by decide +kernel
theorem dL_law_224 : decode cL_law 224 = .ok (.iadd, 1) := by decide +kernel
theorem dL_law_225 : decode cL_law 225 = .ok (.iaload, 1) := by decide +kernel
theorem dL_law_226 : decode cL_law 226 = .ok (.ifCond .eq 7, 3) := by decide +kernel
theorem dL_law_229 : decode cL_law 229 = .ok (.iconst 1, 1) := by decide +kernel
theorem dL_law_230 : decode cL_law 230 = .ok (.goto 4, 3) := by decide +kernel
theorem dL_law_233 : decode cL_law 233 = .ok (.iconst 0, 1) := by decide +kernel
theorem dL_law_234 : decode cL_law 234 = .ok (.aload_n 0, 1) := by decide +kernel
theorem dL_law_235 : decode cL_law 235 = .ok (.iload 4, 2) := by decide +kernel
theorem dL_law_237 : decode cL_law 237 = .ok (.iconst 2, 1) := by decide +kernel
theorem dL_law_238 : decode cL_law 238 = .ok (.iadd, 1) := by decide +kernel
theorem dL_law_239 : decode cL_law 239 = .ok (.iaload, 1) := by decide +kernel
theorem dL_law_240 : decode cL_law 240 = .ok (.aload_n 0, 1) := by decide +kernel
theorem dL_law_241 : decode cL_law 241 = .ok (.iload 4, 2) := by decide +kernel
theorem dL_law_243 : decode cL_law 243 = .ok (.iconst 3, 1) := by decide +kernel
theorem dL_law_244 : decode cL_law 244 = .ok (.iadd, 1) := by decide +kernel
theorem dL_law_245 : decode cL_law 245 = .ok (.iaload, 1) := by decide +kernel
theorem dL_law_246 : decode cL_law 246 = .ok (.aload_n 0, 1) := by decide +kernel
theorem dL_law_247 : decode cL_law 247 = .ok (.iload 4, 2) := by decide +kernel
theorem dL_law_249 : decode cL_law 249 = .ok (.iconst 4, 1) := by decide +kernel
theorem dL_law_250 : decode cL_law 250 = .ok (.iadd, 1) := by decide +kernel
theorem dL_law_251 : decode cL_law 251 = .ok (.iaload, 1) := by decide +kernel
theorem dL_law_252 : decode cL_law 252 = .ok (.invokevirtual 79, 3) := by decide +kernel
theorem dL_law_255 : decode cL_law 255 = .ok (.istore 6, 2) := by decide +kernel
theorem dL_law_257 : decode cL_law 257 = .ok (.aload_n 2, 1) := by decide +kernel
theorem dL_law_258 : decode cL_law 258 = .ok (.invokevirtual 72, 3) := by decide +kernel
theorem dL_law_261 : decode cL_law 261 = .ok (.iload 5, 2) := by decide +kernel
theorem dL_law_263 : decode cL_law 263 = .ok (.if_icmp .eq 5, 3) := by decide +kernel
theorem dL_law_266 : decode cL_law 266 = .ok (.iconst 0, 1) := by decide +kernel
theorem dL_law_267 : decode cL_law 267 = .ok (.ireturn, 1) := by decide +kernel
theorem dL_law_268 : decode cL_law 268 = .ok (.iload 5, 2) := by decide +kernel
theorem dL_law_270 : decode cL_law 270 = .ok (.ifCond .ne 15, 3) := by decide +kernel
theorem dL_law_273 : decode cL_law 273 = .ok (.aload_n 3, 1) := by decide +kernel
theorem dL_law_274 : decode cL_law 274 = .ok (.iconst 0, 1) := by decide +kernel
theorem dL_law_275 : decode cL_law 275 = .ok (.laload, 1) := by decide +kernel
theorem dL_law_276 : decode cL_law 276 = .ok (.iload 6, 2) := by decide +kernel
theorem dL_law_278 : decode cL_law 278 = .ok (.i2l, 1) := by decide +kernel
theorem dL_law_279 : decode cL_law 279 = .ok (.lcmp, 1) := by decide +kernel
theorem dL_law_280 : decode cL_law 280 = .ok (.ifCond .eq 5, 3) := by decide +kernel
theorem dL_law_283 : decode cL_law 283 = .ok (.iconst 0, 1) := by decide +kernel
theorem dL_law_284 : decode cL_law 284 = .ok (.ireturn, 1) := by decide +kernel
theorem dL_law_285 : decode cL_law 285 = .ok (.goto 874, 3) := by decide +kernel
theorem dL_law_288 : decode cL_law 288 = .ok (.aload_n 1, 1) := by decide +kernel
theorem dL_law_289 : decode cL_law 289 = .ok (.aload_n 0, 1) := by decide +kernel
theorem dL_law_290 : decode cL_law 290 = .ok (.iload 4, 2) := by decide +kernel
theorem dL_law_292 : decode cL_law 292 = .ok (.iconst 1, 1) := by decide +kernel
theorem dL_law_293 : decode cL_law 293 = .ok (.iadd, 1) := by decide +kernel
theorem dL_law_294 : decode cL_law 294 = .ok (.iaload, 1) := by decide +kernel
theorem dL_law_295 : decode cL_law 295 = .ok (.aload_n 3, 1) := by decide +kernel
theorem dL_law_296 : decode cL_law 296 = .ok (.invokestatic 80, 3) := by decide +kernel
theorem dL_law_299 : decode cL_law 299 = .ok (.istore 5, 2) := by decide +kernel
theorem dL_law_301 : decode cL_law 301 = .ok (.aload_n 2, 1) := by decide +kernel
theorem dL_law_302 : decode cL_law 302 = .ok (.aload_n 0, 1) := by decide +kernel
theorem dL_law_303 : decode cL_law 303 = .ok (.iload 4, 2) := by decide +kernel
theorem dL_law_305 : decode cL_law 305 = .ok (.iconst 1, 1) := by decide +kernel
theorem dL_law_306 : decode cL_law 306 = .ok (.iadd, 1) := by decide +kernel
theorem dL_law_307 : decode cL_law 307 = .ok (.iaload, 1) := by decide +kernel
theorem dL_law_308 : decode cL_law 308 = .ok (.invokevirtual 82, 3) := by decide +kernel
theorem dL_law_311 : decode cL_law 311 = .ok (.istore 6, 2) := by decide +kernel
theorem dL_law_313 : decode cL_law 313 = .ok (.aload_n 2, 1) := by decide +kernel
theorem dL_law_314 : decode cL_law 314 = .ok (.invokevirtual 72, 3) := by decide +kernel
theorem dL_law_317 : decode cL_law 317 = .ok (.iload 5, 2) := by decide +kernel
theorem dL_law_319 : decode cL_law 319 = .ok (.if_icmp .eq 5, 3) := by decide +kernel
theorem dL_law_322 : decode cL_law 322 = .ok (.iconst 0, 1) := by decide +kernel
theorem dL_law_323 : decode cL_law 323 = .ok (.ireturn, 1) := by decide +kernel
theorem dL_law_324 : decode cL_law 324 = .ok (.iload 5, 2) := by decide +kernel
theorem dL_law_326 : decode cL_law 326 = .ok (.ifCond .ne 15, 3) := by decide +kernel
theorem dL_law_329 : decode cL_law 329 = .ok (.aload_n 3, 1) := by decide +kernel
theorem dL_law_330 : decode cL_law 330 = .ok (.iconst 0, 1) := by decide +kernel
theorem dL_law_331 : decode cL_law 331 = .ok (.laload, 1) := by decide +kernel
theorem dL_law_332 : decode cL_law 332 = .ok (.iload 6, 2) := by decide +kernel
theorem dL_law_334 : decode cL_law 334 = .ok (.i2l, 1) := by decide +kernel
theorem dL_law_335 : decode cL_law 335 = .ok (.lcmp, 1) := by decide +kernel
theorem dL_law_336 : decode cL_law 336 = .ok (.ifCond .eq 5, 3) := by decide +kernel
theorem dL_law_339 : decode cL_law 339 = .ok (.iconst 0, 1) := by decide +kernel
theorem dL_law_340 : decode cL_law 340 = .ok (.ireturn, 1) := by decide +kernel
theorem dL_law_341 : decode cL_law 341 = .ok (.goto 818, 3) := by decide +kernel
theorem dL_law_344 : decode cL_law 344 = .ok (.aload_n 1, 1) := by decide +kernel
theorem dL_law_345 : decode cL_law 345 = .ok (.aload_n 0, 1) := by decide +kernel
theorem dL_law_346 : decode cL_law 346 = .ok (.iload 4, 2) := by decide +kernel
theorem dL_law_348 : decode cL_law 348 = .ok (.iconst 1, 1) := by decide +kernel
theorem dL_law_349 : decode cL_law 349 = .ok (.iadd, 1) := by decide +kernel
theorem dL_law_350 : decode cL_law 350 = .ok (.iaload, 1) := by decide +kernel
theorem dL_law_351 : decode cL_law 351 = .ok (.aload_n 0, 1) := by decide +kernel
theorem dL_law_352 : decode cL_law 352 = .ok (.iload 4, 2) := by decide +kernel
theorem dL_law_354 : decode cL_law 354 = .ok (.iconst 2, 1) := by decide +kernel
theorem dL_law_355 : decode cL_law 355 = .ok (.iadd, 1) := by decide +kernel
theorem dL_law_356 : decode cL_law 356 = .ok (.iaload, 1) := by decide +kernel
theorem dL_law_357 : decode cL_law 357 = .ok (.aload_n 3, 1) := by decide +kernel
theorem dL_law_358 : decode cL_law 358 = .ok (.invokestatic 83, 3) := by decide +kernel
theorem dL_law_361 : decode cL_law 361 = .ok (.istore 5, 2) := by decide +kernel
theorem dL_law_363 : decode cL_law 363 = .ok (.aload_n 2, 1) := by decide +kernel
theorem dL_law_364 : decode cL_law 364 = .ok (.aload_n 0, 1) := by decide +kernel
theorem dL_law_365 : decode cL_law 365 = .ok (.iload 4, 2) := by decide +kernel
theorem dL_law_367 : decode cL_law 367 = .ok (.iconst 1, 1) := by decide +kernel
theorem dL_law_368 : decode cL_law 368 = .ok (.iadd, 1) := by decide +kernel
theorem dL_law_369 : decode cL_law 369 = .ok (.iaload, 1) := by decide +kernel
theorem dL_law_370 : decode cL_law 370 = .ok (.aload_n 0, 1) := by decide +kernel
theorem dL_law_371 : decode cL_law 371 = .ok (.iload 4, 2) := by decide +kernel
theorem dL_law_373 : decode cL_law 373 = .ok (.iconst 2, 1) := by decide +kernel
theorem dL_law_374 : decode cL_law 374 = .ok (.iadd, 1) := by decide +kernel
theorem dL_law_375 : decode cL_law 375 = .ok (.iaload, 1) := by decide +kernel
theorem dL_law_376 : decode cL_law 376 = .ok (.invokevirtual 86, 3) := by decide +kernel
theorem dL_law_379 : decode cL_law 379 = .ok (.istore 6, 2) := by decide +kernel
theorem dL_law_381 : decode cL_law 381 = .ok (.aload_n 2, 1) := by decide +kernel
theorem dL_law_382 : decode cL_law 382 = .ok (.invokevirtual 72, 3) := by decide +kernel
theorem dL_law_385 : decode cL_law 385 = .ok (.iload 5, 2) := by decide +kernel
theorem dL_law_387 : decode cL_law 387 = .ok (.if_icmp .eq 5, 3) := by decide +kernel
theorem dL_law_390 : decode cL_law 390 = .ok (.iconst 0, 1) := by decide +kernel
theorem dL_law_391 : decode cL_law 391 = .ok (.ireturn, 1) := by decide +kernel
theorem dL_law_392 : decode cL_law 392 = .ok (.iload 5, 2) := by decide +kernel
theorem dL_law_394 : decode cL_law 394 = .ok (.ifCond .ne 15, 3) := by decide +kernel
theorem dL_law_397 : decode cL_law 397 = .ok (.aload_n 3, 1) := by decide +kernel
theorem dL_law_398 : decode cL_law 398 = .ok (.iconst 0, 1) := by decide +kernel
theorem dL_law_399 : decode cL_law 399 = .ok (.laload, 1) := by decide +kernel
theorem dL_law_400 : decode cL_law 400 = .ok (.iload 6, 2) := by decide +kernel
theorem dL_law_402 : decode cL_law 402 = .ok (.i2l, 1) := by decide +kernel
theorem dL_law_403 : decode cL_law 403 = .ok (.lcmp, 1) := by decide +kernel
theorem dL_law_404 : decode cL_law 404 = .ok (.ifCond .eq 5, 3) := by decide +kernel
theorem dL_law_407 : decode cL_law 407 = .ok (.iconst 0, 1) := by decide +kernel
theorem dL_law_408 : decode cL_law 408 = .ok (.ireturn, 1) := by decide +kernel
theorem dL_law_409 : decode cL_law 409 = .ok (.goto 750, 3) := by decide +kernel
theorem dL_law_412 : decode cL_law 412 = .ok (.aload_n 1, 1) := by decide +kernel
theorem dL_law_413 : decode cL_law 413 = .ok (.aload_n 0, 1) := by decide +kernel
theorem dL_law_414 : decode cL_law 414 = .ok (.iload 4, 2) := by decide +kernel
theorem dL_law_416 : decode cL_law 416 = .ok (.iconst 1, 1) := by decide +kernel
theorem dL_law_417 : decode cL_law 417 = .ok (.iadd, 1) := by decide +kernel
theorem dL_law_418 : decode cL_law 418 = .ok (.iaload, 1) := by decide +kernel
theorem dL_law_419 : decode cL_law 419 = .ok (.aload_n 3, 1) := by decide +kernel
theorem dL_law_420 : decode cL_law 420 = .ok (.invokestatic 87, 3) := by decide +kernel
theorem dL_law_423 : decode cL_law 423 = .ok (.istore 5, 2) := by decide +kernel
theorem dL_law_425 : decode cL_law 425 = .ok (.aload_n 2, 1) := by decide +kernel
theorem dL_law_426 : decode cL_law 426 = .ok (.aload_n 0, 1) := by decide +kernel
theorem dL_law_427 : decode cL_law 427 = .ok (.iload 4, 2) := by decide +kernel
theorem dL_law_429 : decode cL_law 429 = .ok (.iconst 1, 1) := by decide +kernel
theorem dL_law_430 : decode cL_law 430 = .ok (.iadd, 1) := by decide +kernel
theorem dL_law_431 : decode cL_law 431 = .ok (.iaload, 1) := by decide +kernel
theorem dL_law_432 : decode cL_law 432 = .ok (.invokevirtual 89, 3) := by decide +kernel
theorem dL_law_435 : decode cL_law 435 = .ok (.istore 6, 2) := by decide +kernel
theorem dL_law_437 : decode cL_law 437 = .ok (.aload_n 2, 1) := by decide +kernel
theorem dL_law_438 : decode cL_law 438 = .ok (.invokevirtual 72, 3) := by decide +kernel
theorem dL_law_441 : decode cL_law 441 = .ok (.iload 5, 2) := by decide +kernel
theorem dL_law_443 : decode cL_law 443 = .ok (.if_icmp .eq 5, 3) := by decide +kernel
theorem dL_law_446 : decode cL_law 446 = .ok (.iconst 0, 1) := by decide +kernel
theorem dL_law_447 : decode cL_law 447 = .ok (.ireturn, 1) := by decide +kernel
theorem dL_law_448 : decode cL_law 448 = .ok (.iload 5, 2) := by decide +kernel
theorem dL_law_450 : decode cL_law 450 = .ok (.ifCond .ne 15, 3) := by decide +kernel
theorem dL_law_453 : decode cL_law 453 = .ok (.aload_n 3, 1) := by decide +kernel
theorem dL_law_454 : decode cL_law 454 = .ok (.iconst 0, 1) := by decide +kernel
theorem dL_law_455 : decode cL_law 455 = .ok (.laload, 1) := by decide +kernel
theorem dL_law_456 : decode cL_law 456 = .ok (.iload 6, 2) := by decide +kernel
theorem dL_law_458 : decode cL_law 458 = .ok (.i2l, 1) := by decide +kernel
theorem dL_law_459 : decode cL_law 459 = .ok (.lcmp, 1) := by decide +kernel
theorem dL_law_460 : decode cL_law 460 = .ok (.ifCond .eq 5, 3) := by decide +kernel
theorem dL_law_463 : decode cL_law 463 = .ok (.iconst 0, 1) := by decide +kernel
theorem dL_law_464 : decode cL_law 464 = .ok (.ireturn, 1) := by decide +kernel
theorem dL_law_465 : decode cL_law 465 = .ok (.goto 694, 3) := by decide +kernel
theorem dL_law_468 : decode cL_law 468 = .ok (.aload_n 1, 1) := by decide +kernel
theorem dL_law_469 : decode cL_law 469 = .ok (.invokevirtual 90, 3) := by decide +kernel
theorem dL_law_472 : decode cL_law 472 = .ok (.aload_n 2, 1) := by decide +kernel
theorem dL_law_473 : decode cL_law 473 = .ok (.invokevirtual 93, 3) := by decide +kernel
theorem dL_law_476 : decode cL_law 476 = .ok (.if_icmp .eq 683, 3) := by decide +kernel
theorem dL_law_479 : decode cL_law 479 = .ok (.iconst 0, 1) := by decide +kernel
theorem dL_law_480 : decode cL_law 480 = .ok (.ireturn, 1) := by decide +kernel
theorem dL_law_481 : decode cL_law 481 = .ok (.aload_n 1, 1) := by decide +kernel
theorem dL_law_482 : decode cL_law 482 = .ok (.aload_n 0, 1) := by decide +kernel
theorem dL_law_483 : decode cL_law 483 = .ok (.iload 4, 2) := by decide +kernel
theorem dL_law_485 : decode cL_law 485 = .ok (.iconst 1, 1) := by decide +kernel
theorem dL_law_486 : decode cL_law 486 = .ok (.iadd, 1) := by decide +kernel
theorem dL_law_487 : decode cL_law 487 = .ok (.iaload, 1) := by decide +kernel
theorem dL_law_488 : decode cL_law 488 = .ok (.aload_n 0, 1) := by decide +kernel
theorem dL_law_489 : decode cL_law 489 = .ok (.iload 4, 2) := by decide +kernel
theorem dL_law_491 : decode cL_law 491 = .ok (.iconst 2, 1) := by decide +kernel
theorem dL_law_492 : decode cL_law 492 = .ok (.iadd, 1) := by decide +kernel
theorem dL_law_493 : decode cL_law 493 = .ok (.iaload, 1) := by decide +kernel
theorem dL_law_494 : decode cL_law 494 = .ok (.aload_n 0, 1) := by decide +kernel
theorem dL_law_495 : decode cL_law 495 = .ok (.iload 4, 2) := by decide +kernel
theorem dL_law_497 : decode cL_law 497 = .ok (.iconst 3, 1) := by decide +kernel
theorem dL_law_498 : decode cL_law 498 = .ok (.iadd, 1) := by decide +kernel
theorem dL_law_499 : decode cL_law 499 = .ok (.iaload, 1) := by decide +kernel
theorem dL_law_500 : decode cL_law 500 = .ok (.aload_n 3, 1) := by decide +kernel
theorem dL_law_501 : decode cL_law 501 = .ok (.invokestatic 94, 3) := by decide +kernel
theorem dL_law_504 : decode cL_law 504 = .ok (.istore 5, 2) := by decide +kernel
theorem dL_law_506 : decode cL_law 506 = .ok (.aload_n 2, 1) := by decide +kernel
theorem dL_law_507 : decode cL_law 507 = .ok (.aload_n 0, 1) := by decide +kernel
theorem dL_law_508 : decode cL_law 508 = .ok (.iload 4, 2) := by decide +kernel
theorem dL_law_510 : decode cL_law 510 = .ok (.iconst 1, 1) := by decide +kernel
theorem dL_law_511 : decode cL_law 511 = .ok (.iadd, 1) := by decide +kernel
theorem dL_law_512 : decode cL_law 512 = .ok (.iaload, 1) := by decide +kernel
theorem dL_law_513 : decode cL_law 513 = .ok (.aload_n 0, 1) := by decide +kernel
theorem dL_law_514 : decode cL_law 514 = .ok (.iload 4, 2) := by decide +kernel
theorem dL_law_516 : decode cL_law 516 = .ok (.iconst 2, 1) := by decide +kernel
theorem dL_law_517 : decode cL_law 517 = .ok (.iadd, 1) := by decide +kernel
theorem dL_law_518 : decode cL_law 518 = .ok (.iaload, 1) := by decide +kernel
theorem dL_law_519 : decode cL_law 519 = .ok (.aload_n 0, 1) := by decide +kernel
theorem dL_law_520 : decode cL_law 520 = .ok (.iload 4, 2) := by decide +kernel
theorem dL_law_522 : decode cL_law 522 = .ok (.iconst 3, 1) := by decide +kernel
theorem dL_law_523 : decode cL_law 523 = .ok (.iadd, 1) := by decide +kernel
theorem dL_law_524 : decode cL_law 524 = .ok (.iaload, 1) := by decide +kernel
theorem dL_law_525 : decode cL_law 525 = .ok (.invokevirtual 97, 3) := by decide +kernel
theorem dL_law_528 : decode cL_law 528 = .ok (.istore 6, 2) := by decide +kernel
theorem dL_law_530 : decode cL_law 530 = .ok (.aload_n 2, 1) := by decide +kernel
theorem dL_law_531 : decode cL_law 531 = .ok (.invokevirtual 72, 3) := by decide +kernel
theorem dL_law_534 : decode cL_law 534 = .ok (.iload 5, 2) := by decide +kernel
theorem dL_law_536 : decode cL_law 536 = .ok (.if_icmp .eq 5, 3) := by decide +kernel
theorem dL_law_539 : decode cL_law 539 = .ok (.iconst 0, 1) := by decide +kernel
theorem dL_law_540 : decode cL_law 540 = .ok (.ireturn, 1) := by decide +kernel
theorem dL_law_541 : decode cL_law 541 = .ok (.iload 5, 2) := by decide +kernel
theorem dL_law_543 : decode cL_law 543 = .ok (.ifCond .ne 15, 3) := by decide +kernel
theorem dL_law_546 : decode cL_law 546 = .ok (.aload_n 3, 1) := by decide +kernel
theorem dL_law_547 : decode cL_law 547 = .ok (.iconst 0, 1) := by decide +kernel
theorem dL_law_548 : decode cL_law 548 = .ok (.laload, 1) := by decide +kernel
theorem dL_law_549 : decode cL_law 549 = .ok (.iload 6, 2) := by decide +kernel
theorem dL_law_551 : decode cL_law 551 = .ok (.i2l, 1) := by decide +kernel
theorem dL_law_552 : decode cL_law 552 = .ok (.lcmp, 1) := by decide +kernel
theorem dL_law_553 : decode cL_law 553 = .ok (.ifCond .eq 5, 3) := by decide +kernel
theorem dL_law_556 : decode cL_law 556 = .ok (.iconst 0, 1) := by decide +kernel
theorem dL_law_557 : decode cL_law 557 = .ok (.ireturn, 1) := by decide +kernel
theorem dL_law_558 : decode cL_law 558 = .ok (.goto 601, 3) := by decide +kernel
theorem dL_law_561 : decode cL_law 561 = .ok (.aload_n 1, 1) := by decide +kernel
theorem dL_law_562 : decode cL_law 562 = .ok (.aload_n 0, 1) := by decide +kernel
theorem dL_law_563 : decode cL_law 563 = .ok (.iload 4, 2) := by decide +kernel
theorem dL_law_565 : decode cL_law 565 = .ok (.iconst 1, 1) := by decide +kernel
theorem dL_law_566 : decode cL_law 566 = .ok (.iadd, 1) := by decide +kernel
theorem dL_law_567 : decode cL_law 567 = .ok (.iaload, 1) := by decide +kernel
theorem dL_law_568 : decode cL_law 568 = .ok (.ifCond .eq 7, 3) := by decide +kernel
theorem dL_law_571 : decode cL_law 571 = .ok (.iconst 1, 1) := by decide +kernel
theorem dL_law_572 : decode cL_law 572 = .ok (.goto 4, 3) := by decide +kernel
theorem dL_law_575 : decode cL_law 575 = .ok (.iconst 0, 1) := by decide +kernel
theorem dL_law_576 : decode cL_law 576 = .ok (.aload_n 0, 1) := by decide +kernel
theorem dL_law_577 : decode cL_law 577 = .ok (.iload 4, 2) := by decide +kernel
theorem dL_law_579 : decode cL_law 579 = .ok (.iconst 2, 1) := by decide +kernel
theorem dL_law_580 : decode cL_law 580 = .ok (.iadd, 1) := by decide +kernel
theorem dL_law_581 : decode cL_law 581 = .ok (.iaload, 1) := by decide +kernel
theorem dL_law_582 : decode cL_law 582 = .ok (.ifCond .eq 7, 3) := by decide +kernel
theorem dL_law_585 : decode cL_law 585 = .ok (.iconst 1, 1) := by decide +kernel
theorem dL_law_586 : decode cL_law 586 = .ok (.goto 4, 3) := by decide +kernel
theorem dL_law_589 : decode cL_law 589 = .ok (.iconst 0, 1) := by decide +kernel
theorem dL_law_590 : decode cL_law 590 = .ok (.invokevirtual 98, 3) := by decide +kernel
theorem dL_law_593 : decode cL_law 593 = .ok (.aload_n 2, 1) := by decide +kernel
theorem dL_law_594 : decode cL_law 594 = .ok (.aload_n 0, 1) := by decide +kernel
theorem dL_law_595 : decode cL_law 595 = .ok (.iload 4, 2) := by decide +kernel
theorem dL_law_597 : decode cL_law 597 = .ok (.iconst 1, 1) := by decide +kernel
theorem dL_law_598 : decode cL_law 598 = .ok (.iadd, 1) := by decide +kernel
theorem dL_law_599 : decode cL_law 599 = .ok (.iaload, 1) := by decide +kernel
theorem dL_law_600 : decode cL_law 600 = .ok (.ifCond .eq 7, 3) := by decide +kernel
theorem dL_law_603 : decode cL_law 603 = .ok (.iconst 1, 1) := by decide +kernel
theorem dL_law_604 : decode cL_law 604 = .ok (.goto 4, 3) := by decide +kernel
theorem dL_law_607 : decode cL_law 607 = .ok (.iconst 0, 1) := by decide +kernel
theorem dL_law_608 : decode cL_law 608 = .ok (.aload_n 0, 1) := by decide +kernel
theorem dL_law_609 : decode cL_law 609 = .ok (.iload 4, 2) := by decide +kernel
theorem dL_law_611 : decode cL_law 611 = .ok (.iconst 2, 1) := by decide +kernel
theorem dL_law_612 : decode cL_law 612 = .ok (.iadd, 1) := by decide +kernel
theorem dL_law_613 : decode cL_law 613 = .ok (.iaload, 1) := by decide +kernel
theorem dL_law_614 : decode cL_law 614 = .ok (.ifCond .eq 7, 3) := by decide +kernel
theorem dL_law_617 : decode cL_law 617 = .ok (.iconst 1, 1) := by decide +kernel
theorem dL_law_618 : decode cL_law 618 = .ok (.goto 4, 3) := by decide +kernel
theorem dL_law_621 : decode cL_law 621 = .ok (.iconst 0, 1) := by decide +kernel
theorem dL_law_622 : decode cL_law 622 = .ok (.invokevirtual 102, 3) := by decide +kernel
theorem dL_law_625 : decode cL_law 625 = .ok (.if_icmp .eq 534, 3) := by decide +kernel
theorem dL_law_628 : decode cL_law 628 = .ok (.iconst 0, 1) := by decide +kernel
theorem dL_law_629 : decode cL_law 629 = .ok (.ireturn, 1) := by decide +kernel
theorem dL_law_630 : decode cL_law 630 = .ok (.aload_n 1, 1) := by decide +kernel
theorem dL_law_631 : decode cL_law 631 = .ok (.invokevirtual 103, 3) := by decide +kernel
theorem dL_law_634 : decode cL_law 634 = .ok (.aload_n 2, 1) := by decide +kernel
theorem dL_law_635 : decode cL_law 635 = .ok (.invokevirtual 106, 3) := by decide +kernel
theorem dL_law_638 : decode cL_law 638 = .ok (.if_icmp .eq 521, 3) := by decide +kernel
theorem dL_law_641 : decode cL_law 641 = .ok (.iconst 0, 1) := by decide +kernel
theorem dL_law_642 : decode cL_law 642 = .ok (.ireturn, 1) := by decide +kernel
theorem dL_law_643 : decode cL_law 643 = .ok (.aload_n 1, 1) := by decide +kernel
theorem dL_law_644 : decode cL_law 644 = .ok (.aload_n 0, 1) := by decide +kernel
theorem dL_law_645 : decode cL_law 645 = .ok (.iload 4, 2) := by decide +kernel
theorem dL_law_647 : decode cL_law 647 = .ok (.iconst 1, 1) := by decide +kernel
theorem dL_law_648 : decode cL_law 648 = .ok (.iadd, 1) := by decide +kernel
theorem dL_law_649 : decode cL_law 649 = .ok (.iaload, 1) := by decide +kernel
theorem dL_law_650 : decode cL_law 650 = .ok (.aload_n 0, 1) := by decide +kernel
theorem dL_law_651 : decode cL_law 651 = .ok (.iload 4, 2) := by decide +kernel
theorem dL_law_653 : decode cL_law 653 = .ok (.iconst 2, 1) := by decide +kernel
theorem dL_law_654 : decode cL_law 654 = .ok (.iadd, 1) := by decide +kernel
theorem dL_law_655 : decode cL_law 655 = .ok (.iaload, 1) := by decide +kernel
theorem dL_law_656 : decode cL_law 656 = .ok (.aload_n 3, 1) := by decide +kernel
theorem dL_law_657 : decode cL_law 657 = .ok (.invokestatic 107, 3) := by decide +kernel
theorem dL_law_660 : decode cL_law 660 = .ok (.istore 5, 2) := by decide +kernel
theorem dL_law_662 : decode cL_law 662 = .ok (.aload_n 2, 1) := by decide +kernel
theorem dL_law_663 : decode cL_law 663 = .ok (.aload_n 0, 1) := by decide +kernel
theorem dL_law_664 : decode cL_law 664 = .ok (.iload 4, 2) := by decide +kernel
theorem dL_law_666 : decode cL_law 666 = .ok (.iconst 1, 1) := by decide +kernel
theorem dL_law_667 : decode cL_law 667 = .ok (.iadd, 1) := by decide +kernel
theorem dL_law_668 : decode cL_law 668 = .ok (.iaload, 1) := by decide +kernel
theorem dL_law_669 : decode cL_law 669 = .ok (.aload_n 0, 1) := by decide +kernel
theorem dL_law_670 : decode cL_law 670 = .ok (.iload 4, 2) := by decide +kernel
theorem dL_law_672 : decode cL_law 672 = .ok (.iconst 2, 1) := by decide +kernel
theorem dL_law_673 : decode cL_law 673 = .ok (.iadd, 1) := by decide +kernel
theorem dL_law_674 : decode cL_law 674 = .ok (.iaload, 1) := by decide +kernel
theorem dL_law_675 : decode cL_law 675 = .ok (.invokevirtual 109, 3) := by decide +kernel
theorem dL_law_678 : decode cL_law 678 = .ok (.istore 6, 2) := by decide +kernel
theorem dL_law_680 : decode cL_law 680 = .ok (.aload_n 2, 1) := by decide +kernel
theorem dL_law_681 : decode cL_law 681 = .ok (.invokevirtual 72, 3) := by decide +kernel
theorem dL_law_684 : decode cL_law 684 = .ok (.iload 5, 2) := by decide +kernel
theorem dL_law_686 : decode cL_law 686 = .ok (.if_icmp .eq 5, 3) := by decide +kernel
theorem dL_law_689 : decode cL_law 689 = .ok (.iconst 0, 1) := by decide +kernel
theorem dL_law_690 : decode cL_law 690 = .ok (.ireturn, 1) := by decide +kernel
theorem dL_law_691 : decode cL_law 691 = .ok (.iload 5, 2) := by decide +kernel
theorem dL_law_693 : decode cL_law 693 = .ok (.ifCond .ne 15, 3) := by decide +kernel
theorem dL_law_696 : decode cL_law 696 = .ok (.aload_n 3, 1) := by decide +kernel
theorem dL_law_697 : decode cL_law 697 = .ok (.iconst 0, 1) := by decide +kernel
theorem dL_law_698 : decode cL_law 698 = .ok (.laload, 1) := by decide +kernel
theorem dL_law_699 : decode cL_law 699 = .ok (.iload 6, 2) := by decide +kernel
theorem dL_law_701 : decode cL_law 701 = .ok (.i2l, 1) := by decide +kernel
theorem dL_law_702 : decode cL_law 702 = .ok (.lcmp, 1) := by decide +kernel
theorem dL_law_703 : decode cL_law 703 = .ok (.ifCond .eq 5, 3) := by decide +kernel
theorem dL_law_706 : decode cL_law 706 = .ok (.iconst 0, 1) := by decide +kernel
theorem dL_law_707 : decode cL_law 707 = .ok (.ireturn, 1) := by decide +kernel
theorem dL_law_708 : decode cL_law 708 = .ok (.goto 451, 3) := by decide +kernel
theorem dL_law_711 : decode cL_law 711 = .ok (.aload_n 1, 1) := by decide +kernel
theorem dL_law_712 : decode cL_law 712 = .ok (.invokevirtual 110, 3) := by decide +kernel
theorem dL_law_715 : decode cL_law 715 = .ok (.aload_n 2, 1) := by decide +kernel
theorem dL_law_716 : decode cL_law 716 = .ok (.invokevirtual 113, 3) := by decide +kernel
theorem dL_law_719 : decode cL_law 719 = .ok (.if_icmp .eq 440, 3) := by decide +kernel
theorem dL_law_722 : decode cL_law 722 = .ok (.iconst 0, 1) := by decide +kernel
theorem dL_law_723 : decode cL_law 723 = .ok (.ireturn, 1) := by decide +kernel
theorem dL_law_724 : decode cL_law 724 = .ok (.aload_n 1, 1) := by decide +kernel
theorem dL_law_725 : decode cL_law 725 = .ok (.aload_n 0, 1) := by decide +kernel
theorem dL_law_726 : decode cL_law 726 = .ok (.iload 4, 2) := by decide +kernel
theorem dL_law_728 : decode cL_law 728 = .ok (.iconst 1, 1) := by decide +kernel
theorem dL_law_729 : decode cL_law 729 = .ok (.iadd, 1) := by decide +kernel
theorem dL_law_730 : decode cL_law 730 = .ok (.iaload, 1) := by decide +kernel
theorem dL_law_731 : decode cL_law 731 = .ok (.aload_n 0, 1) := by decide +kernel
theorem dL_law_732 : decode cL_law 732 = .ok (.iload 4, 2) := by decide +kernel
theorem dL_law_734 : decode cL_law 734 = .ok (.iconst 2, 1) := by decide +kernel
theorem dL_law_735 : decode cL_law 735 = .ok (.iadd, 1) := by decide +kernel
theorem dL_law_736 : decode cL_law 736 = .ok (.iaload, 1) := by decide +kernel
theorem dL_law_737 : decode cL_law 737 = .ok (.aload_n 3, 1) := by decide +kernel
theorem dL_law_738 : decode cL_law 738 = .ok (.invokestatic 114, 3) := by decide +kernel
theorem dL_law_741 : decode cL_law 741 = .ok (.istore 5, 2) := by decide +kernel
theorem dL_law_743 : decode cL_law 743 = .ok (.aload_n 2, 1) := by decide +kernel
theorem dL_law_744 : decode cL_law 744 = .ok (.aload_n 0, 1) := by decide +kernel
theorem dL_law_745 : decode cL_law 745 = .ok (.iload 4, 2) := by decide +kernel
theorem dL_law_747 : decode cL_law 747 = .ok (.iconst 1, 1) := by decide +kernel
theorem dL_law_748 : decode cL_law 748 = .ok (.iadd, 1) := by decide +kernel
theorem dL_law_749 : decode cL_law 749 = .ok (.iaload, 1) := by decide +kernel
theorem dL_law_750 : decode cL_law 750 = .ok (.aload_n 0, 1) := by decide +kernel
theorem dL_law_751 : decode cL_law 751 = .ok (.iload 4, 2) := by decide +kernel
theorem dL_law_753 : decode cL_law 753 = .ok (.iconst 2, 1) := by decide +kernel
theorem dL_law_754 : decode cL_law 754 = .ok (.iadd, 1) := by decide +kernel
theorem dL_law_755 : decode cL_law 755 = .ok (.iaload, 1) := by decide +kernel
theorem dL_law_756 : decode cL_law 756 = .ok (.invokevirtual 116, 3) := by decide +kernel
theorem dL_law_759 : decode cL_law 759 = .ok (.istore 6, 2) := by decide +kernel
theorem dL_law_761 : decode cL_law 761 = .ok (.aload_n 2, 1) := by decide +kernel
theorem dL_law_762 : decode cL_law 762 = .ok (.invokevirtual 72, 3) := by decide +kernel
theorem dL_law_765 : decode cL_law 765 = .ok (.iload 5, 2) := by decide +kernel
theorem dL_law_767 : decode cL_law 767 = .ok (.if_icmp .eq 5, 3) := by decide +kernel
theorem dL_law_770 : decode cL_law 770 = .ok (.iconst 0, 1) := by decide +kernel
theorem dL_law_771 : decode cL_law 771 = .ok (.ireturn, 1) := by decide +kernel
theorem dL_law_772 : decode cL_law 772 = .ok (.iload 5, 2) := by decide +kernel
theorem dL_law_774 : decode cL_law 774 = .ok (.ifCond .ne 15, 3) := by decide +kernel
theorem dL_law_777 : decode cL_law 777 = .ok (.aload_n 3, 1) := by decide +kernel
theorem dL_law_778 : decode cL_law 778 = .ok (.iconst 0, 1) := by decide +kernel
theorem dL_law_779 : decode cL_law 779 = .ok (.laload, 1) := by decide +kernel
theorem dL_law_780 : decode cL_law 780 = .ok (.iload 6, 2) := by decide +kernel
theorem dL_law_782 : decode cL_law 782 = .ok (.i2l, 1) := by decide +kernel
theorem dL_law_783 : decode cL_law 783 = .ok (.lcmp, 1) := by decide +kernel
theorem dL_law_784 : decode cL_law 784 = .ok (.ifCond .eq 5, 3) := by decide +kernel
theorem dL_law_787 : decode cL_law 787 = .ok (.iconst 0, 1) := by decide +kernel
theorem dL_law_788 : decode cL_law 788 = .ok (.ireturn, 1) := by decide +kernel
theorem dL_law_789 : decode cL_law 789 = .ok (.goto 370, 3) := by decide +kernel
theorem dL_law_792 : decode cL_law 792 = .ok (.aload_n 1, 1) := by decide +kernel
theorem dL_law_793 : decode cL_law 793 = .ok (.aload_n 0, 1) := by decide +kernel
theorem dL_law_794 : decode cL_law 794 = .ok (.iload 4, 2) := by decide +kernel
theorem dL_law_796 : decode cL_law 796 = .ok (.iconst 1, 1) := by decide +kernel
theorem dL_law_797 : decode cL_law 797 = .ok (.iadd, 1) := by decide +kernel
theorem dL_law_798 : decode cL_law 798 = .ok (.iaload, 1) := by decide +kernel
theorem dL_law_799 : decode cL_law 799 = .ok (.aload_n 0, 1) := by decide +kernel
theorem dL_law_800 : decode cL_law 800 = .ok (.iload 4, 2) := by decide +kernel
theorem dL_law_802 : decode cL_law 802 = .ok (.iconst 2, 1) := by decide +kernel
theorem dL_law_803 : decode cL_law 803 = .ok (.iadd, 1) := by decide +kernel
theorem dL_law_804 : decode cL_law 804 = .ok (.iaload, 1) := by decide +kernel
theorem dL_law_805 : decode cL_law 805 = .ok (.aload_n 3, 1) := by decide +kernel
theorem dL_law_806 : decode cL_law 806 = .ok (.invokestatic 117, 3) := by decide +kernel
theorem dL_law_809 : decode cL_law 809 = .ok (.istore 5, 2) := by decide +kernel
theorem dL_law_811 : decode cL_law 811 = .ok (.aload_n 2, 1) := by decide +kernel
theorem dL_law_812 : decode cL_law 812 = .ok (.aload_n 0, 1) := by decide +kernel
theorem dL_law_813 : decode cL_law 813 = .ok (.iload 4, 2) := by decide +kernel
theorem dL_law_815 : decode cL_law 815 = .ok (.iconst 1, 1) := by decide +kernel
theorem dL_law_816 : decode cL_law 816 = .ok (.iadd, 1) := by decide +kernel
theorem dL_law_817 : decode cL_law 817 = .ok (.iaload, 1) := by decide +kernel
theorem dL_law_818 : decode cL_law 818 = .ok (.aload_n 0, 1) := by decide +kernel
theorem dL_law_819 : decode cL_law 819 = .ok (.iload 4, 2) := by decide +kernel
theorem dL_law_821 : decode cL_law 821 = .ok (.iconst 2, 1) := by decide +kernel
theorem dL_law_822 : decode cL_law 822 = .ok (.iadd, 1) := by decide +kernel
theorem dL_law_823 : decode cL_law 823 = .ok (.iaload, 1) := by decide +kernel
theorem dL_law_824 : decode cL_law 824 = .ok (.invokevirtual 119, 3) := by decide +kernel
theorem dL_law_827 : decode cL_law 827 = .ok (.istore 6, 2) := by decide +kernel
theorem dL_law_829 : decode cL_law 829 = .ok (.aload_n 2, 1) := by decide +kernel
theorem dL_law_830 : decode cL_law 830 = .ok (.invokevirtual 72, 3) := by decide +kernel
theorem dL_law_833 : decode cL_law 833 = .ok (.iload 5, 2) := by decide +kernel
theorem dL_law_835 : decode cL_law 835 = .ok (.if_icmp .eq 5, 3) := by decide +kernel
theorem dL_law_838 : decode cL_law 838 = .ok (.iconst 0, 1) := by decide +kernel
theorem dL_law_839 : decode cL_law 839 = .ok (.ireturn, 1) := by decide +kernel
theorem dL_law_840 : decode cL_law 840 = .ok (.iload 5, 2) := by decide +kernel
theorem dL_law_842 : decode cL_law 842 = .ok (.ifCond .ne 15, 3) := by decide +kernel
theorem dL_law_845 : decode cL_law 845 = .ok (.aload_n 3, 1) := by decide +kernel
theorem dL_law_846 : decode cL_law 846 = .ok (.iconst 0, 1) := by decide +kernel
theorem dL_law_847 : decode cL_law 847 = .ok (.laload, 1) := by decide +kernel
theorem dL_law_848 : decode cL_law 848 = .ok (.iload 6, 2) := by decide +kernel
theorem dL_law_850 : decode cL_law 850 = .ok (.i2l, 1) := by decide +kernel
theorem dL_law_851 : decode cL_law 851 = .ok (.lcmp, 1) := by decide +kernel
theorem dL_law_852 : decode cL_law 852 = .ok (.ifCond .eq 5, 3) := by decide +kernel
theorem dL_law_855 : decode cL_law 855 = .ok (.iconst 0, 1) := by decide +kernel
theorem dL_law_856 : decode cL_law 856 = .ok (.ireturn, 1) := by decide +kernel
theorem dL_law_857 : decode cL_law 857 = .ok (.goto 302, 3) := by decide +kernel
theorem dL_law_860 : decode cL_law 860 = .ok (.aload_n 1, 1) := by decide +kernel
theorem dL_law_861 : decode cL_law 861 = .ok (.aload_n 0, 1) := by decide +kernel
theorem dL_law_862 : decode cL_law 862 = .ok (.iload 4, 2) := by decide +kernel
theorem dL_law_864 : decode cL_law 864 = .ok (.iconst 1, 1) := by decide +kernel
theorem dL_law_865 : decode cL_law 865 = .ok (.iadd, 1) := by decide +kernel
theorem dL_law_866 : decode cL_law 866 = .ok (.iaload, 1) := by decide +kernel
theorem dL_law_867 : decode cL_law 867 = .ok (.aload_n 0, 1) := by decide +kernel
theorem dL_law_868 : decode cL_law 868 = .ok (.iload 4, 2) := by decide +kernel
theorem dL_law_870 : decode cL_law 870 = .ok (.iconst 2, 1) := by decide +kernel
theorem dL_law_871 : decode cL_law 871 = .ok (.iadd, 1) := by decide +kernel
theorem dL_law_872 : decode cL_law 872 = .ok (.iaload, 1) := by decide +kernel
theorem dL_law_873 : decode cL_law 873 = .ok (.aload_n 3, 1) := by decide +kernel
theorem dL_law_874 : decode cL_law 874 = .ok (.invokestatic 120, 3) := by decide +kernel
theorem dL_law_877 : decode cL_law 877 = .ok (.istore 5, 2) := by decide +kernel
theorem dL_law_879 : decode cL_law 879 = .ok (.aload_n 2, 1) := by decide +kernel
theorem dL_law_880 : decode cL_law 880 = .ok (.aload_n 0, 1) := by decide +kernel
theorem dL_law_881 : decode cL_law 881 = .ok (.iload 4, 2) := by decide +kernel
theorem dL_law_883 : decode cL_law 883 = .ok (.iconst 1, 1) := by decide +kernel
theorem dL_law_884 : decode cL_law 884 = .ok (.iadd, 1) := by decide +kernel
theorem dL_law_885 : decode cL_law 885 = .ok (.iaload, 1) := by decide +kernel
theorem dL_law_886 : decode cL_law 886 = .ok (.aload_n 0, 1) := by decide +kernel
theorem dL_law_887 : decode cL_law 887 = .ok (.iload 4, 2) := by decide +kernel
theorem dL_law_889 : decode cL_law 889 = .ok (.iconst 2, 1) := by decide +kernel
theorem dL_law_890 : decode cL_law 890 = .ok (.iadd, 1) := by decide +kernel
theorem dL_law_891 : decode cL_law 891 = .ok (.iaload, 1) := by decide +kernel
theorem dL_law_892 : decode cL_law 892 = .ok (.invokevirtual 122, 3) := by decide +kernel
theorem dL_law_895 : decode cL_law 895 = .ok (.istore 6, 2) := by decide +kernel
theorem dL_law_897 : decode cL_law 897 = .ok (.aload_n 2, 1) := by decide +kernel
theorem dL_law_898 : decode cL_law 898 = .ok (.invokevirtual 72, 3) := by decide +kernel
theorem dL_law_901 : decode cL_law 901 = .ok (.iload 5, 2) := by decide +kernel
theorem dL_law_903 : decode cL_law 903 = .ok (.if_icmp .eq 5, 3) := by decide +kernel
theorem dL_law_906 : decode cL_law 906 = .ok (.iconst 0, 1) := by decide +kernel
theorem dL_law_907 : decode cL_law 907 = .ok (.ireturn, 1) := by decide +kernel
theorem dL_law_908 : decode cL_law 908 = .ok (.iload 5, 2) := by decide +kernel
theorem dL_law_910 : decode cL_law 910 = .ok (.ifCond .ne 15, 3) := by decide +kernel
theorem dL_law_913 : decode cL_law 913 = .ok (.aload_n 3, 1) := by decide +kernel
theorem dL_law_914 : decode cL_law 914 = .ok (.iconst 0, 1) := by decide +kernel
theorem dL_law_915 : decode cL_law 915 = .ok (.laload, 1) := by decide +kernel
theorem dL_law_916 : decode cL_law 916 = .ok (.iload 6, 2) := by decide +kernel
theorem dL_law_918 : decode cL_law 918 = .ok (.i2l, 1) := by decide +kernel
theorem dL_law_919 : decode cL_law 919 = .ok (.lcmp, 1) := by decide +kernel
theorem dL_law_920 : decode cL_law 920 = .ok (.ifCond .eq 5, 3) := by decide +kernel
theorem dL_law_923 : decode cL_law 923 = .ok (.iconst 0, 1) := by decide +kernel
theorem dL_law_924 : decode cL_law 924 = .ok (.ireturn, 1) := by decide +kernel
theorem dL_law_925 : decode cL_law 925 = .ok (.goto 234, 3) := by decide +kernel
theorem dL_law_928 : decode cL_law 928 = .ok (.aload_n 1, 1) := by decide +kernel
theorem dL_law_929 : decode cL_law 929 = .ok (.aload_n 0, 1) := by decide +kernel
theorem dL_law_930 : decode cL_law 930 = .ok (.iload 4, 2) := by decide +kernel
theorem dL_law_932 : decode cL_law 932 = .ok (.iconst 1, 1) := by decide +kernel
theorem dL_law_933 : decode cL_law 933 = .ok (.iadd, 1) := by decide +kernel
theorem dL_law_934 : decode cL_law 934 = .ok (.iaload, 1) := by decide +kernel
theorem dL_law_935 : decode cL_law 935 = .ok (.aload_n 3, 1) := by decide +kernel
theorem dL_law_936 : decode cL_law 936 = .ok (.invokestatic 123, 3) := by decide +kernel
theorem dL_law_939 : decode cL_law 939 = .ok (.istore 5, 2) := by decide +kernel
theorem dL_law_941 : decode cL_law 941 = .ok (.aload_n 2, 1) := by decide +kernel
theorem dL_law_942 : decode cL_law 942 = .ok (.aload_n 0, 1) := by decide +kernel
theorem dL_law_943 : decode cL_law 943 = .ok (.iload 4, 2) := by decide +kernel
theorem dL_law_945 : decode cL_law 945 = .ok (.iconst 1, 1) := by decide +kernel
theorem dL_law_946 : decode cL_law 946 = .ok (.iadd, 1) := by decide +kernel
theorem dL_law_947 : decode cL_law 947 = .ok (.iaload, 1) := by decide +kernel
theorem dL_law_948 : decode cL_law 948 = .ok (.invokevirtual 125, 3) := by decide +kernel
theorem dL_law_951 : decode cL_law 951 = .ok (.istore 6, 2) := by decide +kernel
theorem dL_law_953 : decode cL_law 953 = .ok (.aload_n 2, 1) := by decide +kernel
theorem dL_law_954 : decode cL_law 954 = .ok (.invokevirtual 72, 3) := by decide +kernel
theorem dL_law_957 : decode cL_law 957 = .ok (.iload 5, 2) := by decide +kernel
theorem dL_law_959 : decode cL_law 959 = .ok (.if_icmp .eq 5, 3) := by decide +kernel
theorem dL_law_962 : decode cL_law 962 = .ok (.iconst 0, 1) := by decide +kernel
theorem dL_law_963 : decode cL_law 963 = .ok (.ireturn, 1) := by decide +kernel
theorem dL_law_964 : decode cL_law 964 = .ok (.iload 5, 2) := by decide +kernel
theorem dL_law_966 : decode cL_law 966 = .ok (.ifCond .ne 22, 3) := by decide +kernel
theorem dL_law_969 : decode cL_law 969 = .ok (.aload_n 3, 1) := by decide +kernel
theorem dL_law_970 : decode cL_law 970 = .ok (.iconst 0, 1) := by decide +kernel
theorem dL_law_971 : decode cL_law 971 = .ok (.laload, 1) := by decide +kernel
theorem dL_law_972 : decode cL_law 972 = .ok (.iload 6, 2) := by decide +kernel
theorem dL_law_974 : decode cL_law 974 = .ok (.ifCond .eq 7, 3) := by decide +kernel
theorem dL_law_977 : decode cL_law 977 = .ok (.lconst 1, 1) := by decide +kernel
theorem dL_law_978 : decode cL_law 978 = .ok (.goto 4, 3) := by decide +kernel
theorem dL_law_981 : decode cL_law 981 = .ok (.lconst 0, 1) := by decide +kernel
theorem dL_law_982 : decode cL_law 982 = .ok (.lcmp, 1) := by decide +kernel
theorem dL_law_983 : decode cL_law 983 = .ok (.ifCond .eq 5, 3) := by decide +kernel
theorem dL_law_986 : decode cL_law 986 = .ok (.iconst 0, 1) := by decide +kernel
theorem dL_law_987 : decode cL_law 987 = .ok (.ireturn, 1) := by decide +kernel
theorem dL_law_988 : decode cL_law 988 = .ok (.goto 171, 3) := by decide +kernel
theorem dL_law_991 : decode cL_law 991 = .ok (.aload_n 1, 1) := by decide +kernel
theorem dL_law_992 : decode cL_law 992 = .ok (.aload_n 0, 1) := by decide +kernel
theorem dL_law_993 : decode cL_law 993 = .ok (.iload 4, 2) := by decide +kernel
theorem dL_law_995 : decode cL_law 995 = .ok (.iconst 1, 1) := by decide +kernel
theorem dL_law_996 : decode cL_law 996 = .ok (.iadd, 1) := by decide +kernel
theorem dL_law_997 : decode cL_law 997 = .ok (.iaload, 1) := by decide +kernel
theorem dL_law_998 : decode cL_law 998 = .ok (.aload_n 3, 1) := by decide +kernel
theorem dL_law_999 : decode cL_law 999 = .ok (.invokestatic 126, 3) := by decide +kernel
theorem dL_law_1002 : decode cL_law 1002 = .ok (.istore 5, 2) := by decide +kernel
theorem dL_law_1004 : decode cL_law 1004 = .ok (.aload_n 2, 1) := by decide +kernel
theorem dL_law_1005 : decode cL_law 1005 = .ok (.aload_n 0, 1) := by decide +kernel
theorem dL_law_1006 : decode cL_law 1006 = .ok (.iload 4, 2) := by decide +kernel
theorem dL_law_1008 : decode cL_law 1008 = .ok (.iconst 1, 1) := by decide +kernel
theorem dL_law_1009 : decode cL_law 1009 = .ok (.iadd, 1) := by decide +kernel
theorem dL_law_1010 : decode cL_law 1010 = .ok (.iaload, 1) := by decide +kernel
theorem dL_law_1011 : decode cL_law 1011 = .ok (.invokevirtual 128, 3) := by decide +kernel
theorem dL_law_1014 : decode cL_law 1014 = .ok (.istore 6, 2) := by decide +kernel
theorem dL_law_1016 : decode cL_law 1016 = .ok (.aload_n 2, 1) := by decide +kernel
theorem dL_law_1017 : decode cL_law 1017 = .ok (.invokevirtual 72, 3) := by decide +kernel
theorem dL_law_1020 : decode cL_law 1020 = .ok (.iload 5, 2) := by decide +kernel
theorem dL_law_1022 : decode cL_law 1022 = .ok (.if_icmp .eq 5, 3) := by decide +kernel
theorem dL_law_1025 : decode cL_law 1025 = .ok (.iconst 0, 1) := by decide +kernel
theorem dL_law_1026 : decode cL_law 1026 = .ok (.ireturn, 1) := by decide +kernel
theorem dL_law_1027 : decode cL_law 1027 = .ok (.iload 5, 2) := by decide +kernel
theorem dL_law_1029 : decode cL_law 1029 = .ok (.ifCond .ne 15, 3) := by decide +kernel
theorem dL_law_1032 : decode cL_law 1032 = .ok (.aload_n 3, 1) := by decide +kernel
theorem dL_law_1033 : decode cL_law 1033 = .ok (.iconst 0, 1) := by decide +kernel
theorem dL_law_1034 : decode cL_law 1034 = .ok (.laload, 1) := by decide +kernel
theorem dL_law_1035 : decode cL_law 1035 = .ok (.iload 6, 2) := by decide +kernel
theorem dL_law_1037 : decode cL_law 1037 = .ok (.i2l, 1) := by decide +kernel
theorem dL_law_1038 : decode cL_law 1038 = .ok (.lcmp, 1) := by decide +kernel
theorem dL_law_1039 : decode cL_law 1039 = .ok (.ifCond .eq 5, 3) := by decide +kernel
theorem dL_law_1042 : decode cL_law 1042 = .ok (.iconst 0, 1) := by decide +kernel
theorem dL_law_1043 : decode cL_law 1043 = .ok (.ireturn, 1) := by decide +kernel
theorem dL_law_1044 : decode cL_law 1044 = .ok (.goto 115, 3) := by decide +kernel
theorem dL_law_1047 : decode cL_law 1047 = .ok (.aload_n 1, 1) := by decide +kernel
theorem dL_law_1048 : decode cL_law 1048 = .ok (.aload_n 0, 1) := by decide +kernel
theorem dL_law_1049 : decode cL_law 1049 = .ok (.iload 4, 2) := by decide +kernel
theorem dL_law_1051 : decode cL_law 1051 = .ok (.iconst 1, 1) := by decide +kernel
theorem dL_law_1052 : decode cL_law 1052 = .ok (.iadd, 1) := by decide +kernel
theorem dL_law_1053 : decode cL_law 1053 = .ok (.iaload, 1) := by decide +kernel
theorem dL_law_1054 : decode cL_law 1054 = .ok (.aload_n 3, 1) := by decide +kernel
theorem dL_law_1055 : decode cL_law 1055 = .ok (.invokestatic 129, 3) := by decide +kernel
theorem dL_law_1058 : decode cL_law 1058 = .ok (.istore 5, 2) := by decide +kernel
theorem dL_law_1060 : decode cL_law 1060 = .ok (.aload_n 2, 1) := by decide +kernel
theorem dL_law_1061 : decode cL_law 1061 = .ok (.aload_n 0, 1) := by decide +kernel
theorem dL_law_1062 : decode cL_law 1062 = .ok (.iload 4, 2) := by decide +kernel
theorem dL_law_1064 : decode cL_law 1064 = .ok (.iconst 1, 1) := by decide +kernel
theorem dL_law_1065 : decode cL_law 1065 = .ok (.iadd, 1) := by decide +kernel
theorem dL_law_1066 : decode cL_law 1066 = .ok (.iaload, 1) := by decide +kernel
theorem dL_law_1067 : decode cL_law 1067 = .ok (.invokevirtual 131, 3) := by decide +kernel
theorem dL_law_1070 : decode cL_law 1070 = .ok (.istore 6, 2) := by decide +kernel
theorem dL_law_1072 : decode cL_law 1072 = .ok (.aload_n 2, 1) := by decide +kernel
theorem dL_law_1073 : decode cL_law 1073 = .ok (.invokevirtual 72, 3) := by decide +kernel
theorem dL_law_1076 : decode cL_law 1076 = .ok (.iload 5, 2) := by decide +kernel
theorem dL_law_1078 : decode cL_law 1078 = .ok (.if_icmp .eq 5, 3) := by decide +kernel
theorem dL_law_1081 : decode cL_law 1081 = .ok (.iconst 0, 1) := by decide +kernel
theorem dL_law_1082 : decode cL_law 1082 = .ok (.ireturn, 1) := by decide +kernel
theorem dL_law_1083 : decode cL_law 1083 = .ok (.iload 5, 2) := by decide +kernel
theorem dL_law_1085 : decode cL_law 1085 = .ok (.ifCond .ne 15, 3) := by decide +kernel
theorem dL_law_1088 : decode cL_law 1088 = .ok (.aload_n 3, 1) := by decide +kernel
theorem dL_law_1089 : decode cL_law 1089 = .ok (.iconst 0, 1) := by decide +kernel
theorem dL_law_1090 : decode cL_law 1090 = .ok (.laload, 1) := by decide +kernel
theorem dL_law_1091 : decode cL_law 1091 = .ok (.iload 6, 2) := by decide +kernel
theorem dL_law_1093 : decode cL_law 1093 = .ok (.i2l, 1) := by decide +kernel
theorem dL_law_1094 : decode cL_law 1094 = .ok (.lcmp, 1) := by decide +kernel
theorem dL_law_1095 : decode cL_law 1095 = .ok (.ifCond .eq 5, 3) := by decide +kernel
theorem dL_law_1098 : decode cL_law 1098 = .ok (.iconst 0, 1) := by decide +kernel
theorem dL_law_1099 : decode cL_law 1099 = .ok (.ireturn, 1) := by decide +kernel
theorem dL_law_1100 : decode cL_law 1100 = .ok (.goto 59, 3) := by decide +kernel
theorem dL_law_1103 : decode cL_law 1103 = .ok (.aload_n 1, 1) := by decide +kernel
theorem dL_law_1104 : decode cL_law 1104 = .ok (.aload_n 0, 1) := by decide +kernel
theorem dL_law_1105 : decode cL_law 1105 = .ok (.iload 4, 2) := by decide +kernel
theorem dL_law_1107 : decode cL_law 1107 = .ok (.iconst 1, 1) := by decide +kernel
theorem dL_law_1108 : decode cL_law 1108 = .ok (.iadd, 1) := by decide +kernel
theorem dL_law_1109 : decode cL_law 1109 = .ok (.iaload, 1) := by decide +kernel
theorem dL_law_1110 : decode cL_law 1110 = .ok (.aload_n 3, 1) := by decide +kernel
theorem dL_law_1111 : decode cL_law 1111 = .ok (.invokestatic 132, 3) := by decide +kernel
theorem dL_law_1114 : decode cL_law 1114 = .ok (.istore 5, 2) := by decide +kernel
theorem dL_law_1116 : decode cL_law 1116 = .ok (.aload_n 2, 1) := by decide +kernel
theorem dL_law_1117 : decode cL_law 1117 = .ok (.aload_n 0, 1) := by decide +kernel
theorem dL_law_1118 : decode cL_law 1118 = .ok (.iload 4, 2) := by decide +kernel
theorem dL_law_1120 : decode cL_law 1120 = .ok (.iconst 1, 1) := by decide +kernel
theorem dL_law_1121 : decode cL_law 1121 = .ok (.iadd, 1) := by decide +kernel
theorem dL_law_1122 : decode cL_law 1122 = .ok (.iaload, 1) := by decide +kernel
theorem dL_law_1123 : decode cL_law 1123 = .ok (.invokevirtual 134, 3) := by decide +kernel
theorem dL_law_1126 : decode cL_law 1126 = .ok (.istore 6, 2) := by decide +kernel
theorem dL_law_1128 : decode cL_law 1128 = .ok (.aload_n 2, 1) := by decide +kernel
theorem dL_law_1129 : decode cL_law 1129 = .ok (.invokevirtual 72, 3) := by decide +kernel
theorem dL_law_1132 : decode cL_law 1132 = .ok (.iload 5, 2) := by decide +kernel
theorem dL_law_1134 : decode cL_law 1134 = .ok (.if_icmp .eq 5, 3) := by decide +kernel
theorem dL_law_1137 : decode cL_law 1137 = .ok (.iconst 0, 1) := by decide +kernel
theorem dL_law_1138 : decode cL_law 1138 = .ok (.ireturn, 1) := by decide +kernel
theorem dL_law_1139 : decode cL_law 1139 = .ok (.iload 5, 2) := by decide +kernel
theorem dL_law_1141 : decode cL_law 1141 = .ok (.ifCond .ne 15, 3) := by decide +kernel
theorem dL_law_1144 : decode cL_law 1144 = .ok (.aload_n 3, 1) := by decide +kernel
theorem dL_law_1145 : decode cL_law 1145 = .ok (.iconst 0, 1) := by decide +kernel
theorem dL_law_1146 : decode cL_law 1146 = .ok (.laload, 1) := by decide +kernel
theorem dL_law_1147 : decode cL_law 1147 = .ok (.iload 6, 2) := by decide +kernel
theorem dL_law_1149 : decode cL_law 1149 = .ok (.i2l, 1) := by decide +kernel
theorem dL_law_1150 : decode cL_law 1150 = .ok (.lcmp, 1) := by decide +kernel
theorem dL_law_1151 : decode cL_law 1151 = .ok (.ifCond .eq 5, 3) := by decide +kernel
theorem dL_law_1154 : decode cL_law 1154 = .ok (.iconst 0, 1) := by decide +kernel
theorem dL_law_1155 : decode cL_law 1155 = .ok (.ireturn, 1) := by decide +kernel
theorem dL_law_1156 : decode cL_law 1156 = .ok (.goto 3, 3) := by decide +kernel
theorem dL_law_1159 : decode cL_law 1159 = .ok (.iinc 4 5, 3) := by decide +kernel
theorem dL_law_1162 : decode cL_law 1162 = .ok (.goto (-1139), 3) := by decide +kernel
theorem dL_law_1165 : decode cL_law 1165 = .ok (.iconst 1, 1) := by decide +kernel
theorem dL_law_1166 : decode cL_law 1166 = .ok (.ireturn, 1) := by decide +kernel
