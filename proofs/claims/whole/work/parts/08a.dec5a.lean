theorem dX12_init_0 : decode cX12_init 0 = .ok (.aload_n 0, 1) := by decide +kernel
theorem dX12_init_1 : decode cX12_init 1 = .ok (.invokespecial 1, 3) := by decide +kernel
theorem dX12_init_4 : decode cX12_init 4 = .ok (.aload_n 0, 1) := by decide +kernel
theorem dX12_init_5 : decode cX12_init 5 = .ok (.bipush 6, 2) := by decide +kernel
theorem dX12_init_7 : decode cX12_init 7 = .ok (.putfield 7, 3) := by decide +kernel
theorem dX12_init_10 : decode cX12_init 10 = .ok (.aload_n 0, 1) := by decide +kernel
theorem dX12_init_11 : decode cX12_init 11 = .ok (.bipush 12, 2) := by decide +kernel
theorem dX12_init_13 : decode cX12_init 13 = .ok (.putfield 13, 3) := by decide +kernel
theorem dX12_init_16 : decode cX12_init 16 = .ok (.aload_n 0, 1) := by decide +kernel
theorem dX12_init_17 : decode cX12_init 17 = .ok (.sipush 576, 3) := by decide +kernel
theorem dX12_init_20 : decode cX12_init 20 = .ok (.newarray .int, 2) := by decide +kernel
theorem dX12_init_22 : decode cX12_init 22 = .ok (.putfield 16, 3) := by decide +kernel
theorem dX12_init_25 : decode cX12_init 25 = .ok (.aload_n 0, 1) := by decide +kernel
theorem dX12_init_26 : decode cX12_init 26 = .ok (.bipush 24, 2) := by decide +kernel
theorem dX12_init_28 : decode cX12_init 28 = .ok (.newarray .boolean, 2) := by decide +kernel
theorem dX12_init_30 : decode cX12_init 30 = .ok (.putfield 20, 3) := by decide +kernel
theorem dX12_init_33 : decode cX12_init 33 = .ok (.aload_n 0, 1) := by decide +kernel
theorem dX12_init_34 : decode cX12_init 34 = .ok (.sipush 960, 3) := by decide +kernel
theorem dX12_init_37 : decode cX12_init 37 = .ok (.newarray .int, 2) := by decide +kernel
theorem dX12_init_39 : decode cX12_init 39 = .ok (.putfield 24, 3) := by decide +kernel
theorem dX12_init_42 : decode cX12_init 42 = .ok (.aload_n 0, 1) := by decide +kernel
theorem dX12_init_43 : decode cX12_init 43 = .ok (.bipush 40, 2) := by decide +kernel
theorem dX12_init_45 : decode cX12_init 45 = .ok (.newarray .boolean, 2) := by decide +kernel
theorem dX12_init_47 : decode cX12_init 47 = .ok (.putfield 27, 3) := by decide +kernel
theorem dX12_init_50 : decode cX12_init 50 = .ok (.aload_n 0, 1) := by decide +kernel
theorem dX12_init_51 : decode cX12_init 51 = .ok (.iconst 5, 1) := by decide +kernel
theorem dX12_init_52 : decode cX12_init 52 = .ok (.putfield 30, 3) := by decide +kernel
theorem dX12_init_55 : decode cX12_init 55 = .ok (.aload_n 0, 1) := by decide +kernel
theorem dX12_init_56 : decode cX12_init 56 = .ok (.iconst 1, 1) := by decide +kernel
theorem dX12_init_57 : decode cX12_init 57 = .ok (.putfield 33, 3) := by decide +kernel
theorem dX12_init_60 : decode cX12_init 60 = .ok (.aload_n 0, 1) := by decide +kernel
theorem dX12_init_61 : decode cX12_init 61 = .ok (.iconst 1, 1) := by decide +kernel
theorem dX12_init_62 : decode cX12_init 62 = .ok (.putfield 37, 3) := by decide +kernel
theorem dX12_init_65 : decode cX12_init 65 = .ok (.aload_n 0, 1) := by decide +kernel
theorem dX12_init_66 : decode cX12_init 66 = .ok (.iconst 4, 1) := by decide +kernel
theorem dX12_init_67 : decode cX12_init 67 = .ok (.newarray .int, 2) := by decide +kernel
theorem dX12_init_69 : decode cX12_init 69 = .ok (.putfield 40, 3) := by decide +kernel
theorem dX12_init_72 : decode cX12_init 72 = .ok (.aload_n 0, 1) := by decide +kernel
theorem dX12_init_73 : decode cX12_init 73 = .ok (.bipush 16, 2) := by decide +kernel
theorem dX12_init_75 : decode cX12_init 75 = .ok (.newarray .int, 2) := by decide +kernel
theorem dX12_init_77 : decode cX12_init 77 = .ok (.putfield 43, 3) := by decide +kernel
theorem dX12_init_80 : decode cX12_init 80 = .ok (.aload_n 0, 1) := by decide +kernel
theorem dX12_init_81 : decode cX12_init 81 = .ok (.bipush 16, 2) := by decide +kernel
theorem dX12_init_83 : decode cX12_init 83 = .ok (.newarray .int, 2) := by decide +kernel
theorem dX12_init_85 : decode cX12_init 85 = .ok (.putfield 46, 3) := by decide +kernel
theorem dX12_init_88 : decode cX12_init 88 = .ok (.aload_n 0, 1) := by decide +kernel
theorem dX12_init_89 : decode cX12_init 89 = .ok (.iconst 1, 1) := by decide +kernel
theorem dX12_init_90 : decode cX12_init 90 = .ok (.putfield 49, 3) := by decide +kernel
theorem dX12_init_93 : decode cX12_init 93 = .ok (.aload_n 0, 1) := by decide +kernel
theorem dX12_init_94 : decode cX12_init 94 = .ok (.bipush 100, 2) := by decide +kernel
theorem dX12_init_96 : decode cX12_init 96 = .ok (.newarray .int, 2) := by decide +kernel
theorem dX12_init_98 : decode cX12_init 98 = .ok (.putfield 52, 3) := by decide +kernel
theorem dX12_init_101 : decode cX12_init 101 = .ok (.aload_n 0, 1) := by decide +kernel
theorem dX12_init_102 : decode cX12_init 102 = .ok (.bipush 30, 2) := by decide +kernel
theorem dX12_init_104 : decode cX12_init 104 = .ok (.newarray .int, 2) := by decide +kernel
theorem dX12_init_106 : decode cX12_init 106 = .ok (.putfield 55, 3) := by decide +kernel
theorem dX12_init_109 : decode cX12_init 109 = .ok (.aload_n 0, 1) := by decide +kernel
theorem dX12_init_110 : decode cX12_init 110 = .ok (.sipush 200, 3) := by decide +kernel
theorem dX12_init_113 : decode cX12_init 113 = .ok (.newarray .int, 2) := by decide +kernel
theorem dX12_init_115 : decode cX12_init 115 = .ok (.putfield 58, 3) := by decide +kernel
theorem dX12_init_118 : decode cX12_init 118 = .ok (.aload_n 0, 1) := by decide +kernel
theorem dX12_init_119 : decode cX12_init 119 = .ok (.bipush 40, 2) := by decide +kernel
theorem dX12_init_121 : decode cX12_init 121 = .ok (.newarray .int, 2) := by decide +kernel
theorem dX12_init_123 : decode cX12_init 123 = .ok (.putfield 61, 3) := by decide +kernel
theorem dX12_init_126 : decode cX12_init 126 = .ok (.aload_n 0, 1) := by decide +kernel
theorem dX12_init_127 : decode cX12_init 127 = .ok (.sipush 288, 3) := by decide +kernel
theorem dX12_init_130 : decode cX12_init 130 = .ok (.newarray .int, 2) := by decide +kernel
theorem dX12_init_132 : decode cX12_init 132 = .ok (.putfield 64, 3) := by decide +kernel
theorem dX12_init_135 : decode cX12_init 135 = .ok (.aload_n 0, 1) := by decide +kernel
theorem dX12_init_136 : decode cX12_init 136 = .ok (.sipush 400, 3) := by decide +kernel
theorem dX12_init_139 : decode cX12_init 139 = .ok (.newarray .int, 2) := by decide +kernel
theorem dX12_init_141 : decode cX12_init 141 = .ok (.putfield 67, 3) := by decide +kernel
theorem dX12_init_144 : decode cX12_init 144 = .ok (.aload_n 0, 1) := by decide +kernel
theorem dX12_init_145 : decode cX12_init 145 = .ok (.sipush 12000, 3) := by decide +kernel
theorem dX12_init_148 : decode cX12_init 148 = .ok (.newarray .int, 2) := by decide +kernel
theorem dX12_init_150 : decode cX12_init 150 = .ok (.putfield 70, 3) := by decide +kernel
theorem dX12_init_153 : decode cX12_init 153 = .ok (.aload_n 0, 1) := by decide +kernel
theorem dX12_init_154 : decode cX12_init 154 = .ok (.sipush 500, 3) := by decide +kernel
theorem dX12_init_157 : decode cX12_init 157 = .ok (.newarray .boolean, 2) := by decide +kernel
theorem dX12_init_159 : decode cX12_init 159 = .ok (.putfield 73, 3) := by decide +kernel
theorem dX12_init_162 : decode cX12_init 162 = .ok (.aload_n 0, 1) := by decide +kernel
theorem dX12_init_163 : decode cX12_init 163 = .ok (.iconst 0, 1) := by decide +kernel
theorem dX12_init_164 : decode cX12_init 164 = .ok (.invokevirtual 76, 3) := by decide +kernel
theorem dX12_init_167 : decode cX12_init 167 = .ok (.return_, 1) := by decide +kernel
theorem dX12_thrown_0 : decode cX12_thrown 0 = .ok (.aload_n 0, 1) := by decide +kernel
theorem dX12_thrown_1 : decode cX12_thrown 1 = .ok (.getfield 80, 3) := by decide +kernel
theorem dX12_thrown_4 : decode cX12_thrown 4 = .ok (.ireturn, 1) := by decide +kernel
theorem dX12_in_0 : decode cX12_in 0 = .ok (.iload_n 0, 1) := by decide +kernel
theorem dX12_in_1 : decode cX12_in 1 = .ok (.iload_n 1, 1) := by decide +kernel
theorem dX12_in_2 : decode cX12_in 2 = .ok (.if_icmp .lt 12, 3) := by decide +kernel
theorem dX12_in_5 : decode cX12_in 5 = .ok (.iload_n 0, 1) := by decide +kernel
theorem dX12_in_6 : decode cX12_in 6 = .ok (.iload_n 2, 1) := by decide +kernel
theorem dX12_in_7 : decode cX12_in 7 = .ok (.if_icmp .gt 7, 3) := by decide +kernel
theorem dX12_in_10 : decode cX12_in 10 = .ok (.iconst 1, 1) := by decide +kernel
theorem dX12_in_11 : decode cX12_in 11 = .ok (.goto 4, 3) := by decide +kernel
theorem dX12_in_14 : decode cX12_in 14 = .ok (.iconst 0, 1) := by decide +kernel
theorem dX12_in_15 : decode cX12_in 15 = .ok (.ireturn, 1) := by decide +kernel
theorem dX12_isWide_0 : decode cX12_isWide 0 = .ok (.iload_n 0, 1) := by decide +kernel
theorem dX12_isWide_1 : decode cX12_isWide 1 = .ok (.sipush 1000, 3) := by decide +kernel
theorem dX12_isWide_4 : decode cX12_isWide 4 = .ok (.irem, 1) := by decide +kernel
theorem dX12_isWide_5 : decode cX12_isWide 5 = .ok (.bipush 65, 2) := by decide +kernel
theorem dX12_isWide_7 : decode cX12_isWide 7 = .ok (.bipush 90, 2) := by decide +kernel
theorem dX12_isWide_9 : decode cX12_isWide 9 = .ok (.invokestatic 83, 3) := by decide +kernel
theorem dX12_isWide_12 : decode cX12_isWide 12 = .ok (.ifCond .eq 11, 3) := by decide +kernel
theorem dX12_isWide_15 : decode cX12_isWide 15 = .ok (.iload_n 0, 1) := by decide +kernel
theorem dX12_isWide_16 : decode cX12_isWide 16 = .ok (.ifCond .le 7, 3) := by decide +kernel
theorem dX12_isWide_19 : decode cX12_isWide 19 = .ok (.iconst 1, 1) := by decide +kernel
theorem dX12_isWide_20 : decode cX12_isWide 20 = .ok (.goto 4, 3) := by decide +kernel
theorem dX12_isWide_23 : decode cX12_isWide 23 = .ok (.iconst 0, 1) := by decide +kernel
theorem dX12_isWide_24 : decode cX12_isWide 24 = .ok (.ireturn, 1) := by decide +kernel
theorem dX12_at_0 : decode cX12_at 0 = .ok (.sipush 288, 3) := by decide +kernel
theorem dX12_at_3 : decode cX12_at 3 = .ok (.aload_n 0, 1) := by decide +kernel
theorem dX12_at_4 : decode cX12_at 4 = .ok (.getfield 87, 3) := by decide +kernel
theorem dX12_at_7 : decode cX12_at 7 = .ok (.imul, 1) := by decide +kernel
theorem dX12_at_8 : decode cX12_at 8 = .ok (.bipush 24, 2) := by decide +kernel
theorem dX12_at_10 : decode cX12_at 10 = .ok (.iload_n 1, 1) := by decide +kernel
theorem dX12_at_11 : decode cX12_at 11 = .ok (.imul, 1) := by decide +kernel
theorem dX12_at_12 : decode cX12_at 12 = .ok (.iadd, 1) := by decide +kernel
theorem dX12_at_13 : decode cX12_at 13 = .ok (.iload_n 2, 1) := by decide +kernel
theorem dX12_at_14 : decode cX12_at 14 = .ok (.iadd, 1) := by decide +kernel
theorem dX12_at_15 : decode cX12_at 15 = .ok (.ireturn, 1) := by decide +kernel
theorem dX12_parts_0 : decode cX12_parts 0 = .ok (.iload_n 2, 1) := by decide +kernel
theorem dX12_parts_1 : decode cX12_parts 1 = .ok (.iconst 1, 1) := by decide +kernel
theorem dX12_parts_2 : decode cX12_parts 2 = .ok (.aload_n 0, 1) := by decide +kernel
theorem dX12_parts_3 : decode cX12_parts 3 = .ok (.getfield 13, 3) := by decide +kernel
theorem dX12_parts_6 : decode cX12_parts 6 = .ok (.iconst 1, 1) := by decide +kernel
theorem dX12_parts_7 : decode cX12_parts 7 = .ok (.isub, 1) := by decide +kernel
theorem dX12_parts_8 : decode cX12_parts 8 = .ok (.invokestatic 83, 3) := by decide +kernel
theorem dX12_parts_11 : decode cX12_parts 11 = .ok (.ifCond .eq 45, 3) := by decide +kernel
theorem dX12_parts_14 : decode cX12_parts 14 = .ok (.aload_n 0, 1) := by decide +kernel
theorem dX12_parts_15 : decode cX12_parts 15 = .ok (.getfield 16, 3) := by decide +kernel
theorem dX12_parts_18 : decode cX12_parts 18 = .ok (.aload_n 0, 1) := by decide +kernel
theorem dX12_parts_19 : decode cX12_parts 19 = .ok (.iload_n 1, 1) := by decide +kernel
theorem dX12_parts_20 : decode cX12_parts 20 = .ok (.iload_n 2, 1) := by decide +kernel
theorem dX12_parts_21 : decode cX12_parts 21 = .ok (.invokevirtual 90, 3) := by decide +kernel
theorem dX12_parts_24 : decode cX12_parts 24 = .ok (.iaload, 1) := by decide +kernel
theorem dX12_parts_25 : decode cX12_parts 25 = .ok (.bipush (-2), 2) := by decide +kernel
theorem dX12_parts_27 : decode cX12_parts 27 = .ok (.if_icmp .ne 29, 3) := by decide +kernel
theorem dX12_parts_30 : decode cX12_parts 30 = .ok (.aload_n 0, 1) := by decide +kernel
theorem dX12_parts_31 : decode cX12_parts 31 = .ok (.getfield 16, 3) := by decide +kernel
theorem dX12_parts_34 : decode cX12_parts 34 = .ok (.aload_n 0, 1) := by decide +kernel
theorem dX12_parts_35 : decode cX12_parts 35 = .ok (.iload_n 1, 1) := by decide +kernel
theorem dX12_parts_36 : decode cX12_parts 36 = .ok (.iload_n 2, 1) := by decide +kernel
theorem dX12_parts_37 : decode cX12_parts 37 = .ok (.invokevirtual 90, 3) := by decide +kernel
theorem dX12_parts_40 : decode cX12_parts 40 = .ok (.iconst 0, 1) := by decide +kernel
theorem dX12_parts_41 : decode cX12_parts 41 = .ok (.iastore, 1) := by decide +kernel
theorem dX12_parts_42 : decode cX12_parts 42 = .ok (.aload_n 0, 1) := by decide +kernel
theorem dX12_parts_43 : decode cX12_parts 43 = .ok (.getfield 16, 3) := by decide +kernel
theorem dX12_parts_46 : decode cX12_parts 46 = .ok (.aload_n 0, 1) := by decide +kernel
theorem dX12_parts_47 : decode cX12_parts 47 = .ok (.iload_n 1, 1) := by decide +kernel
theorem dX12_parts_48 : decode cX12_parts 48 = .ok (.iload_n 2, 1) := by decide +kernel
theorem dX12_parts_49 : decode cX12_parts 49 = .ok (.iconst 1, 1) := by decide +kernel
theorem dX12_parts_50 : decode cX12_parts 50 = .ok (.isub, 1) := by decide +kernel
theorem dX12_parts_51 : decode cX12_parts 51 = .ok (.invokevirtual 90, 3) := by decide +kernel
theorem dX12_parts_54 : decode cX12_parts 54 = .ok (.iconst 0, 1) := by decide +kernel
theorem dX12_parts_55 : decode cX12_parts 55 = .ok (.iastore, 1) := by decide +kernel
theorem dX12_parts_56 : decode cX12_parts 56 = .ok (.return_, 1) := by decide +kernel
theorem dX12_erases_0 : decode cX12_erases 0 = .ok (.aload_n 0, 1) := by decide +kernel
theorem dX12_erases_1 : decode cX12_erases 1 = .ok (.iload_n 1, 1) := by decide +kernel
theorem dX12_erases_2 : decode cX12_erases 2 = .ok (.iload_n 2, 1) := by decide +kernel
theorem dX12_erases_3 : decode cX12_erases 3 = .ok (.invokevirtual 94, 3) := by decide +kernel
theorem dX12_erases_6 : decode cX12_erases 6 = .ok (.aload_n 0, 1) := by decide +kernel
theorem dX12_erases_7 : decode cX12_erases 7 = .ok (.iload_n 1, 1) := by decide +kernel
theorem dX12_erases_8 : decode cX12_erases 8 = .ok (.iload_n 3, 1) := by decide +kernel
theorem dX12_erases_9 : decode cX12_erases 9 = .ok (.invokevirtual 94, 3) := by decide +kernel
theorem dX12_erases_12 : decode cX12_erases 12 = .ok (.iload_n 2, 1) := by decide +kernel
theorem dX12_erases_13 : decode cX12_erases 13 = .ok (.istore 4, 2) := by decide +kernel
theorem dX12_erases_15 : decode cX12_erases 15 = .ok (.iload 4, 2) := by decide +kernel
theorem dX12_erases_17 : decode cX12_erases 17 = .ok (.iload_n 3, 1) := by decide +kernel
theorem dX12_erases_18 : decode cX12_erases 18 = .ok (.if_icmp .ge 22, 3) := by decide +kernel
theorem dX12_erases_21 : decode cX12_erases 21 = .ok (.aload_n 0, 1) := by decide +kernel
theorem dX12_erases_22 : decode cX12_erases 22 = .ok (.getfield 16, 3) := by decide +kernel
theorem dX12_erases_25 : decode cX12_erases 25 = .ok (.aload_n 0, 1) := by decide +kernel
theorem dX12_erases_26 : decode cX12_erases 26 = .ok (.iload_n 1, 1) := by decide +kernel
theorem dX12_erases_27 : decode cX12_erases 27 = .ok (.iload 4, 2) := by decide +kernel
theorem dX12_erases_29 : decode cX12_erases 29 = .ok (.invokevirtual 90, 3) := by decide +kernel
theorem dX12_erases_32 : decode cX12_erases 32 = .ok (.iconst 0, 1) := by decide +kernel
theorem dX12_erases_33 : decode cX12_erases 33 = .ok (.iastore, 1) := by decide +kernel
theorem dX12_erases_34 : decode cX12_erases 34 = .ok (.iinc 4 1, 3) := by decide +kernel
theorem dX12_erases_37 : decode cX12_erases 37 = .ok (.goto (-22), 3) := by decide +kernel
theorem dX12_erases_40 : decode cX12_erases 40 = .ok (.return_, 1) := by decide +kernel
theorem dX12_movesRight_0 : decode cX12_movesRight 0 = .ok (.iload_n 3, 1) := by decide +kernel
theorem dX12_movesRight_1 : decode cX12_movesRight 1 = .ok (.aload_n 0, 1) := by decide +kernel
theorem dX12_movesRight_2 : decode cX12_movesRight 2 = .ok (.getfield 13, 3) := by decide +kernel
theorem dX12_movesRight_5 : decode cX12_movesRight 5 = .ok (.iload_n 2, 1) := by decide +kernel
theorem dX12_movesRight_6 : decode cX12_movesRight 6 = .ok (.isub, 1) := by decide +kernel
theorem dX12_movesRight_7 : decode cX12_movesRight 7 = .ok (.if_icmp .ge 7, 3) := by decide +kernel
theorem dX12_movesRight_10 : decode cX12_movesRight 10 = .ok (.iload_n 3, 1) := by decide +kernel
theorem dX12_movesRight_11 : decode cX12_movesRight 11 = .ok (.goto 9, 3) := by decide +kernel
theorem dX12_movesRight_14 : decode cX12_movesRight 14 = .ok (.aload_n 0, 1) := by decide +kernel
theorem dX12_movesRight_15 : decode cX12_movesRight 15 = .ok (.getfield 13, 3) := by decide +kernel
theorem dX12_movesRight_18 : decode cX12_movesRight 18 = .ok (.iload_n 2, 1) := by decide +kernel
theorem dX12_movesRight_19 : decode cX12_movesRight 19 = .ok (.isub, 1) := by decide +kernel
theorem dX12_movesRight_20 : decode cX12_movesRight 20 = .ok (.istore 4, 2) := by decide +kernel
theorem dX12_movesRight_22 : decode cX12_movesRight 22 = .ok (.aload_n 0, 1) := by decide +kernel
theorem dX12_movesRight_23 : decode cX12_movesRight 23 = .ok (.iload_n 1, 1) := by decide +kernel
theorem dX12_movesRight_24 : decode cX12_movesRight 24 = .ok (.iload_n 2, 1) := by decide +kernel
theorem dX12_movesRight_25 : decode cX12_movesRight 25 = .ok (.invokevirtual 94, 3) := by decide +kernel
theorem dX12_movesRight_28 : decode cX12_movesRight 28 = .ok (.aload_n 0, 1) := by decide +kernel
theorem dX12_movesRight_29 : decode cX12_movesRight 29 = .ok (.getfield 13, 3) := by decide +kernel
theorem dX12_movesRight_32 : decode cX12_movesRight 32 = .ok (.iload 4, 2) := by decide +kernel
theorem dX12_movesRight_34 : decode cX12_movesRight 34 = .ok (.isub, 1) := by decide +kernel
theorem dX12_movesRight_35 : decode cX12_movesRight 35 = .ok (.iload_n 2, 1) := by decide +kernel
theorem dX12_movesRight_36 : decode cX12_movesRight 36 = .ok (.if_icmp .le 15, 3) := by decide +kernel
theorem dX12_movesRight_39 : decode cX12_movesRight 39 = .ok (.aload_n 0, 1) := by decide +kernel
theorem dX12_movesRight_40 : decode cX12_movesRight 40 = .ok (.iload_n 1, 1) := by decide +kernel
theorem dX12_movesRight_41 : decode cX12_movesRight 41 = .ok (.aload_n 0, 1) := by decide +kernel
theorem dX12_movesRight_42 : decode cX12_movesRight 42 = .ok (.getfield 13, 3) := by decide +kernel
theorem dX12_movesRight_45 : decode cX12_movesRight 45 = .ok (.iload 4, 2) := by decide +kernel
theorem dX12_movesRight_47 : decode cX12_movesRight 47 = .ok (.isub, 1) := by decide +kernel
theorem dX12_movesRight_48 : decode cX12_movesRight 48 = .ok (.invokevirtual 94, 3) := by decide +kernel
theorem dX12_movesRight_51 : decode cX12_movesRight 51 = .ok (.aload_n 0, 1) := by decide +kernel
theorem dX12_movesRight_52 : decode cX12_movesRight 52 = .ok (.getfield 13, 3) := by decide +kernel
theorem dX12_movesRight_55 : decode cX12_movesRight 55 = .ok (.iconst 1, 1) := by decide +kernel
theorem dX12_movesRight_56 : decode cX12_movesRight 56 = .ok (.isub, 1) := by decide +kernel
theorem dX12_movesRight_57 : decode cX12_movesRight 57 = .ok (.istore 5, 2) := by decide +kernel
theorem dX12_movesRight_59 : decode cX12_movesRight 59 = .ok (.iload 5, 2) := by decide +kernel
theorem dX12_movesRight_61 : decode cX12_movesRight 61 = .ok (.iload_n 2, 1) := by decide +kernel
theorem dX12_movesRight_62 : decode cX12_movesRight 62 = .ok (.if_icmp .lt 49, 3) := by decide +kernel
theorem dX12_movesRight_65 : decode cX12_movesRight 65 = .ok (.aload_n 0, 1) := by decide +kernel
theorem dX12_movesRight_66 : decode cX12_movesRight 66 = .ok (.getfield 16, 3) := by decide +kernel
theorem dX12_movesRight_69 : decode cX12_movesRight 69 = .ok (.aload_n 0, 1) := by decide +kernel
theorem dX12_movesRight_70 : decode cX12_movesRight 70 = .ok (.iload_n 1, 1) := by decide +kernel
theorem dX12_movesRight_71 : decode cX12_movesRight 71 = .ok (.iload 5, 2) := by decide +kernel
theorem dX12_movesRight_73 : decode cX12_movesRight 73 = .ok (.invokevirtual 90, 3) := by decide +kernel
theorem dX12_movesRight_76 : decode cX12_movesRight 76 = .ok (.iload 5, 2) := by decide +kernel
theorem dX12_movesRight_78 : decode cX12_movesRight 78 = .ok (.iload 4, 2) := by decide +kernel
theorem dX12_movesRight_80 : decode cX12_movesRight 80 = .ok (.isub, 1) := by decide +kernel
theorem dX12_movesRight_81 : decode cX12_movesRight 81 = .ok (.iload_n 2, 1) := by decide +kernel
theorem dX12_movesRight_82 : decode cX12_movesRight 82 = .ok (.if_icmp .lt 21, 3) := by decide +kernel
theorem dX12_movesRight_85 : decode cX12_movesRight 85 = .ok (.aload_n 0, 1) := by decide +kernel
theorem dX12_movesRight_86 : decode cX12_movesRight 86 = .ok (.getfield 16, 3) := by decide +kernel
theorem dX12_movesRight_89 : decode cX12_movesRight 89 = .ok (.aload_n 0, 1) := by decide +kernel
theorem dX12_movesRight_90 : decode cX12_movesRight 90 = .ok (.iload_n 1, 1) := by decide +kernel
theorem dX12_movesRight_91 : decode cX12_movesRight 91 = .ok (.iload 5, 2) := by decide +kernel
theorem dX12_movesRight_93 : decode cX12_movesRight 93 = .ok (.iload 4, 2) := by decide +kernel
theorem dX12_movesRight_95 : decode cX12_movesRight 95 = .ok (.isub, 1) := by decide +kernel
theorem dX12_movesRight_96 : decode cX12_movesRight 96 = .ok (.invokevirtual 90, 3) := by decide +kernel
theorem dX12_movesRight_99 : decode cX12_movesRight 99 = .ok (.iaload, 1) := by decide +kernel
theorem dX12_movesRight_100 : decode cX12_movesRight 100 = .ok (.goto 4, 3) := by decide +kernel
theorem dX12_movesRight_103 : decode cX12_movesRight 103 = .ok (.iconst 0, 1) := by decide +kernel
theorem dX12_movesRight_104 : decode cX12_movesRight 104 = .ok (.iastore, 1) := by decide +kernel
theorem dX12_movesRight_105 : decode cX12_movesRight 105 = .ok (.iinc 5 (-1), 3) := by decide +kernel
theorem dX12_movesRight_108 : decode cX12_movesRight 108 = .ok (.goto (-49), 3) := by decide +kernel
theorem dX12_movesRight_111 : decode cX12_movesRight 111 = .ok (.return_, 1) := by decide +kernel
theorem dX12_movesLeft_0 : decode cX12_movesLeft 0 = .ok (.iload_n 3, 1) := by decide +kernel
theorem dX12_movesLeft_1 : decode cX12_movesLeft 1 = .ok (.aload_n 0, 1) := by decide +kernel
theorem dX12_movesLeft_2 : decode cX12_movesLeft 2 = .ok (.getfield 13, 3) := by decide +kernel
theorem dX12_movesLeft_5 : decode cX12_movesLeft 5 = .ok (.iload_n 2, 1) := by decide +kernel
theorem dX12_movesLeft_6 : decode cX12_movesLeft 6 = .ok (.isub, 1) := by decide +kernel
theorem dX12_movesLeft_7 : decode cX12_movesLeft 7 = .ok (.if_icmp .ge 7, 3) := by decide +kernel
theorem dX12_movesLeft_10 : decode cX12_movesLeft 10 = .ok (.iload_n 3, 1) := by decide +kernel
theorem dX12_movesLeft_11 : decode cX12_movesLeft 11 = .ok (.goto 9, 3) := by decide +kernel
theorem dX12_movesLeft_14 : decode cX12_movesLeft 14 = .ok (.aload_n 0, 1) := by decide +kernel
theorem dX12_movesLeft_15 : decode cX12_movesLeft 15 = .ok (.getfield 13, 3) := by decide +kernel
theorem dX12_movesLeft_18 : decode cX12_movesLeft 18 = .ok (.iload_n 2, 1) := by decide +kernel
theorem dX12_movesLeft_19 : decode cX12_movesLeft 19 = .ok (.isub, 1) := by decide +kernel
theorem dX12_movesLeft_20 : decode cX12_movesLeft 20 = .ok (.istore 4, 2) := by decide +kernel
theorem dX12_movesLeft_22 : decode cX12_movesLeft 22 = .ok (.aload_n 0, 1) := by decide +kernel
theorem dX12_movesLeft_23 : decode cX12_movesLeft 23 = .ok (.iload_n 1, 1) := by decide +kernel
theorem dX12_movesLeft_24 : decode cX12_movesLeft 24 = .ok (.iload_n 2, 1) := by decide +kernel
theorem dX12_movesLeft_25 : decode cX12_movesLeft 25 = .ok (.invokevirtual 94, 3) := by decide +kernel
theorem dX12_movesLeft_28 : decode cX12_movesLeft 28 = .ok (.aload_n 0, 1) := by decide +kernel
theorem dX12_movesLeft_29 : decode cX12_movesLeft 29 = .ok (.iload_n 1, 1) := by decide +kernel
theorem dX12_movesLeft_30 : decode cX12_movesLeft 30 = .ok (.iload_n 2, 1) := by decide +kernel
theorem dX12_movesLeft_31 : decode cX12_movesLeft 31 = .ok (.iload 4, 2) := by decide +kernel
theorem dX12_movesLeft_33 : decode cX12_movesLeft 33 = .ok (.iadd, 1) := by decide +kernel
theorem dX12_movesLeft_34 : decode cX12_movesLeft 34 = .ok (.invokevirtual 94, 3) := by decide +kernel
theorem dX12_movesLeft_37 : decode cX12_movesLeft 37 = .ok (.iload_n 2, 1) := by decide +kernel
theorem dX12_movesLeft_38 : decode cX12_movesLeft 38 = .ok (.istore 5, 2) := by decide +kernel
theorem dX12_movesLeft_40 : decode cX12_movesLeft 40 = .ok (.iload 5, 2) := by decide +kernel
theorem dX12_movesLeft_42 : decode cX12_movesLeft 42 = .ok (.aload_n 0, 1) := by decide +kernel
theorem dX12_movesLeft_43 : decode cX12_movesLeft 43 = .ok (.getfield 13, 3) := by decide +kernel
theorem dX12_movesLeft_46 : decode cX12_movesLeft 46 = .ok (.if_icmp .ge 52, 3) := by decide +kernel
theorem dX12_movesLeft_49 : decode cX12_movesLeft 49 = .ok (.aload_n 0, 1) := by decide +kernel
theorem dX12_movesLeft_50 : decode cX12_movesLeft 50 = .ok (.getfield 16, 3) := by decide +kernel
theorem dX12_movesLeft_53 : decode cX12_movesLeft 53 = .ok (.aload_n 0, 1) := by decide +kernel
theorem dX12_movesLeft_54 : decode cX12_movesLeft 54 = .ok (.iload_n 1, 1) := by decide +kernel
theorem dX12_movesLeft_55 : decode cX12_movesLeft 55 = .ok (.iload 5, 2) := by decide +kernel
theorem dX12_movesLeft_57 : decode cX12_movesLeft 57 = .ok (.invokevirtual 90, 3) := by decide +kernel
theorem dX12_movesLeft_60 : decode cX12_movesLeft 60 = .ok (.iload 5, 2) := by decide +kernel
theorem dX12_movesLeft_62 : decode cX12_movesLeft 62 = .ok (.iload 4, 2) := by decide +kernel
theorem dX12_movesLeft_64 : decode cX12_movesLeft 64 = .ok (.iadd, 1) := by decide +kernel
theorem dX12_movesLeft_65 : decode cX12_movesLeft 65 = .ok (.aload_n 0, 1) := by decide +kernel
theorem dX12_movesLeft_66 : decode cX12_movesLeft 66 = .ok (.getfield 13, 3) := by decide +kernel
theorem dX12_movesLeft_69 : decode cX12_movesLeft 69 = .ok (.if_icmp .ge 21, 3) := by decide +kernel
theorem dX12_movesLeft_72 : decode cX12_movesLeft 72 = .ok (.aload_n 0, 1) := by decide +kernel
theorem dX12_movesLeft_73 : decode cX12_movesLeft 73 = .ok (.getfield 16, 3) := by decide +kernel
theorem dX12_movesLeft_76 : decode cX12_movesLeft 76 = .ok (.aload_n 0, 1) := by decide +kernel
theorem dX12_movesLeft_77 : decode cX12_movesLeft 77 = .ok (.iload_n 1, 1) := by decide +kernel
theorem dX12_movesLeft_78 : decode cX12_movesLeft 78 = .ok (.iload 5, 2) := by decide +kernel
theorem dX12_movesLeft_80 : decode cX12_movesLeft 80 = .ok (.iload 4, 2) := by decide +kernel
theorem dX12_movesLeft_82 : decode cX12_movesLeft 82 = .ok (.iadd, 1) := by decide +kernel
theorem dX12_movesLeft_83 : decode cX12_movesLeft 83 = .ok (.invokevirtual 90, 3) := by decide +kernel
theorem dX12_movesLeft_86 : decode cX12_movesLeft 86 = .ok (.iaload, 1) := by decide +kernel
theorem dX12_movesLeft_87 : decode cX12_movesLeft 87 = .ok (.goto 4, 3) := by decide +kernel
theorem dX12_movesLeft_90 : decode cX12_movesLeft 90 = .ok (.iconst 0, 1) := by decide +kernel
theorem dX12_movesLeft_91 : decode cX12_movesLeft 91 = .ok (.iastore, 1) := by decide +kernel
theorem dX12_movesLeft_92 : decode cX12_movesLeft 92 = .ok (.iinc 5 1, 3) := by decide +kernel
theorem dX12_movesLeft_95 : decode cX12_movesLeft 95 = .ok (.goto (-55), 3) := by decide +kernel
theorem dX12_movesLeft_98 : decode cX12_movesLeft 98 = .ok (.return_, 1) := by decide +kernel
theorem dX12_copiesRow_0 : decode cX12_copiesRow 0 = .ok (.iconst 0, 1) := by decide +kernel
theorem dX12_copiesRow_1 : decode cX12_copiesRow 1 = .ok (.istore_n 3, 1) := by decide +kernel
theorem dX12_copiesRow_2 : decode cX12_copiesRow 2 = .ok (.iload_n 3, 1) := by decide +kernel
theorem dX12_copiesRow_3 : decode cX12_copiesRow 3 = .ok (.bipush 24, 2) := by decide +kernel
theorem dX12_copiesRow_5 : decode cX12_copiesRow 5 = .ok (.if_icmp .ge 31, 3) := by decide +kernel
theorem dX12_copiesRow_8 : decode cX12_copiesRow 8 = .ok (.aload_n 0, 1) := by decide +kernel
theorem dX12_copiesRow_9 : decode cX12_copiesRow 9 = .ok (.getfield 16, 3) := by decide +kernel
theorem dX12_copiesRow_12 : decode cX12_copiesRow 12 = .ok (.aload_n 0, 1) := by decide +kernel
theorem dX12_copiesRow_13 : decode cX12_copiesRow 13 = .ok (.iload_n 2, 1) := by decide +kernel
theorem dX12_copiesRow_14 : decode cX12_copiesRow 14 = .ok (.iload_n 3, 1) := by decide +kernel
theorem dX12_copiesRow_15 : decode cX12_copiesRow 15 = .ok (.invokevirtual 90, 3) := by decide +kernel
theorem dX12_copiesRow_18 : decode cX12_copiesRow 18 = .ok (.aload_n 0, 1) := by decide +kernel
theorem dX12_copiesRow_19 : decode cX12_copiesRow 19 = .ok (.getfield 16, 3) := by decide +kernel
theorem dX12_copiesRow_22 : decode cX12_copiesRow 22 = .ok (.aload_n 0, 1) := by decide +kernel
theorem dX12_copiesRow_23 : decode cX12_copiesRow 23 = .ok (.iload_n 1, 1) := by decide +kernel
theorem dX12_copiesRow_24 : decode cX12_copiesRow 24 = .ok (.iload_n 3, 1) := by decide +kernel
theorem dX12_copiesRow_25 : decode cX12_copiesRow 25 = .ok (.invokevirtual 90, 3) := by decide +kernel
theorem dX12_copiesRow_28 : decode cX12_copiesRow 28 = .ok (.iaload, 1) := by decide +kernel
theorem dX12_copiesRow_29 : decode cX12_copiesRow 29 = .ok (.iastore, 1) := by decide +kernel
theorem dX12_copiesRow_30 : decode cX12_copiesRow 30 = .ok (.iinc 3 1, 3) := by decide +kernel
theorem dX12_copiesRow_33 : decode cX12_copiesRow 33 = .ok (.goto (-31), 3) := by decide +kernel
theorem dX12_copiesRow_36 : decode cX12_copiesRow 36 = .ok (.aload_n 0, 1) := by decide +kernel
theorem dX12_copiesRow_37 : decode cX12_copiesRow 37 = .ok (.getfield 20, 3) := by decide +kernel
theorem dX12_copiesRow_40 : decode cX12_copiesRow 40 = .ok (.bipush 12, 2) := by decide +kernel
theorem dX12_copiesRow_42 : decode cX12_copiesRow 42 = .ok (.aload_n 0, 1) := by decide +kernel
theorem dX12_copiesRow_43 : decode cX12_copiesRow 43 = .ok (.getfield 87, 3) := by decide +kernel
theorem dX12_copiesRow_46 : decode cX12_copiesRow 46 = .ok (.imul, 1) := by decide +kernel
theorem dX12_copiesRow_47 : decode cX12_copiesRow 47 = .ok (.iload_n 2, 1) := by decide +kernel
theorem dX12_copiesRow_48 : decode cX12_copiesRow 48 = .ok (.iadd, 1) := by decide +kernel
theorem dX12_copiesRow_49 : decode cX12_copiesRow 49 = .ok (.aload_n 0, 1) := by decide +kernel
theorem dX12_copiesRow_50 : decode cX12_copiesRow 50 = .ok (.getfield 20, 3) := by decide +kernel
theorem dX12_copiesRow_53 : decode cX12_copiesRow 53 = .ok (.bipush 12, 2) := by decide +kernel
theorem dX12_copiesRow_55 : decode cX12_copiesRow 55 = .ok (.aload_n 0, 1) := by decide +kernel
theorem dX12_copiesRow_56 : decode cX12_copiesRow 56 = .ok (.getfield 87, 3) := by decide +kernel
theorem dX12_copiesRow_59 : decode cX12_copiesRow 59 = .ok (.imul, 1) := by decide +kernel
theorem dX12_copiesRow_60 : decode cX12_copiesRow 60 = .ok (.iload_n 1, 1) := by decide +kernel
theorem dX12_copiesRow_61 : decode cX12_copiesRow 61 = .ok (.iadd, 1) := by decide +kernel
theorem dX12_copiesRow_62 : decode cX12_copiesRow 62 = .ok (.baload, 1) := by decide +kernel
theorem dX12_copiesRow_63 : decode cX12_copiesRow 63 = .ok (.bastore, 1) := by decide +kernel
theorem dX12_copiesRow_64 : decode cX12_copiesRow 64 = .ok (.return_, 1) := by decide +kernel
theorem dX12_emptiesRow_0 : decode cX12_emptiesRow 0 = .ok (.iconst 0, 1) := by decide +kernel
theorem dX12_emptiesRow_1 : decode cX12_emptiesRow 1 = .ok (.istore_n 2, 1) := by decide +kernel
theorem dX12_emptiesRow_2 : decode cX12_emptiesRow 2 = .ok (.iload_n 2, 1) := by decide +kernel
theorem dX12_emptiesRow_3 : decode cX12_emptiesRow 3 = .ok (.bipush 24, 2) := by decide +kernel
theorem dX12_emptiesRow_5 : decode cX12_emptiesRow 5 = .ok (.if_icmp .ge 21, 3) := by decide +kernel
theorem dX12_emptiesRow_8 : decode cX12_emptiesRow 8 = .ok (.aload_n 0, 1) := by decide +kernel
theorem dX12_emptiesRow_9 : decode cX12_emptiesRow 9 = .ok (.getfield 16, 3) := by decide +kernel
theorem dX12_emptiesRow_12 : decode cX12_emptiesRow 12 = .ok (.aload_n 0, 1) := by decide +kernel
theorem dX12_emptiesRow_13 : decode cX12_emptiesRow 13 = .ok (.iload_n 1, 1) := by decide +kernel
theorem dX12_emptiesRow_14 : decode cX12_emptiesRow 14 = .ok (.iload_n 2, 1) := by decide +kernel
theorem dX12_emptiesRow_15 : decode cX12_emptiesRow 15 = .ok (.invokevirtual 90, 3) := by decide +kernel
theorem dX12_emptiesRow_18 : decode cX12_emptiesRow 18 = .ok (.iconst 0, 1) := by decide +kernel
theorem dX12_emptiesRow_19 : decode cX12_emptiesRow 19 = .ok (.iastore, 1) := by decide +kernel
theorem dX12_emptiesRow_20 : decode cX12_emptiesRow 20 = .ok (.iinc 2 1, 3) := by decide +kernel
theorem dX12_emptiesRow_23 : decode cX12_emptiesRow 23 = .ok (.goto (-21), 3) := by decide +kernel
theorem dX12_emptiesRow_26 : decode cX12_emptiesRow 26 = .ok (.aload_n 0, 1) := by decide +kernel
theorem dX12_emptiesRow_27 : decode cX12_emptiesRow 27 = .ok (.getfield 20, 3) := by decide +kernel
theorem dX12_emptiesRow_30 : decode cX12_emptiesRow 30 = .ok (.bipush 12, 2) := by decide +kernel
theorem dX12_emptiesRow_32 : decode cX12_emptiesRow 32 = .ok (.aload_n 0, 1) := by decide +kernel
theorem dX12_emptiesRow_33 : decode cX12_emptiesRow 33 = .ok (.getfield 87, 3) := by decide +kernel
theorem dX12_emptiesRow_36 : decode cX12_emptiesRow 36 = .ok (.imul, 1) := by decide +kernel
theorem dX12_emptiesRow_37 : decode cX12_emptiesRow 37 = .ok (.iload_n 1, 1) := by decide +kernel
theorem dX12_emptiesRow_38 : decode cX12_emptiesRow 38 = .ok (.iadd, 1) := by decide +kernel
theorem dX12_emptiesRow_39 : decode cX12_emptiesRow 39 = .ok (.iconst 0, 1) := by decide +kernel
theorem dX12_emptiesRow_40 : decode cX12_emptiesRow 40 = .ok (.bastore, 1) := by decide +kernel
theorem dX12_emptiesRow_41 : decode cX12_emptiesRow 41 = .ok (.return_, 1) := by decide +kernel
theorem dX12_stopsAbove_0 : decode cX12_stopsAbove 0 = .ok (.iload_n 1, 1) := by decide +kernel
theorem dX12_stopsAbove_1 : decode cX12_stopsAbove 1 = .ok (.ifCond .le 23, 3) := by decide +kernel
theorem dX12_stopsAbove_4 : decode cX12_stopsAbove 4 = .ok (.aload_n 0, 1) := by decide +kernel
theorem dX12_stopsAbove_5 : decode cX12_stopsAbove 5 = .ok (.getfield 20, 3) := by decide +kernel
theorem dX12_stopsAbove_8 : decode cX12_stopsAbove 8 = .ok (.bipush 12, 2) := by decide +kernel
theorem dX12_stopsAbove_10 : decode cX12_stopsAbove 10 = .ok (.aload_n 0, 1) := by decide +kernel
theorem dX12_stopsAbove_11 : decode cX12_stopsAbove 11 = .ok (.getfield 87, 3) := by decide +kernel
theorem dX12_stopsAbove_14 : decode cX12_stopsAbove 14 = .ok (.imul, 1) := by decide +kernel
theorem dX12_stopsAbove_15 : decode cX12_stopsAbove 15 = .ok (.iload_n 1, 1) := by decide +kernel
theorem dX12_stopsAbove_16 : decode cX12_stopsAbove 16 = .ok (.iadd, 1) := by decide +kernel
theorem dX12_stopsAbove_17 : decode cX12_stopsAbove 17 = .ok (.iconst 1, 1) := by decide +kernel
theorem dX12_stopsAbove_18 : decode cX12_stopsAbove 18 = .ok (.isub, 1) := by decide +kernel
theorem dX12_stopsAbove_19 : decode cX12_stopsAbove 19 = .ok (.iconst 0, 1) := by decide +kernel
theorem dX12_stopsAbove_20 : decode cX12_stopsAbove 20 = .ok (.bastore, 1) := by decide +kernel
theorem dX12_stopsAbove_21 : decode cX12_stopsAbove 21 = .ok (.goto 29, 3) := by decide +kernel
theorem dX12_stopsAbove_24 : decode cX12_stopsAbove 24 = .ok (.aload_n 0, 1) := by decide +kernel
theorem dX12_stopsAbove_25 : decode cX12_stopsAbove 25 = .ok (.getfield 87, 3) := by decide +kernel
theorem dX12_stopsAbove_28 : decode cX12_stopsAbove 28 = .ok (.ifCond .ne 22, 3) := by decide +kernel
theorem dX12_stopsAbove_31 : decode cX12_stopsAbove 31 = .ok (.aload_n 0, 1) := by decide +kernel
theorem dX12_stopsAbove_32 : decode cX12_stopsAbove 32 = .ok (.getfield 98, 3) := by decide +kernel
theorem dX12_stopsAbove_35 : decode cX12_stopsAbove 35 = .ok (.ifCond .le 15, 3) := by decide +kernel
theorem dX12_stopsAbove_38 : decode cX12_stopsAbove 38 = .ok (.aload_n 0, 1) := by decide +kernel
theorem dX12_stopsAbove_39 : decode cX12_stopsAbove 39 = .ok (.getfield 27, 3) := by decide +kernel
theorem dX12_stopsAbove_42 : decode cX12_stopsAbove 42 = .ok (.aload_n 0, 1) := by decide +kernel
theorem dX12_stopsAbove_43 : decode cX12_stopsAbove 43 = .ok (.getfield 98, 3) := by decide +kernel
theorem dX12_stopsAbove_46 : decode cX12_stopsAbove 46 = .ok (.iconst 1, 1) := by decide +kernel
theorem dX12_stopsAbove_47 : decode cX12_stopsAbove 47 = .ok (.isub, 1) := by decide +kernel
theorem dX12_stopsAbove_48 : decode cX12_stopsAbove 48 = .ok (.iconst 0, 1) := by decide +kernel
theorem dX12_stopsAbove_49 : decode cX12_stopsAbove 49 = .ok (.bastore, 1) := by decide +kernel
theorem dX12_stopsAbove_50 : decode cX12_stopsAbove 50 = .ok (.return_, 1) := by decide +kernel
theorem dX12_keepsRow_0 : decode cX12_keepsRow 0 = .ok (.aload_n 0, 1) := by decide +kernel
theorem dX12_keepsRow_1 : decode cX12_keepsRow 1 = .ok (.getfield 98, 3) := by decide +kernel
theorem dX12_keepsRow_4 : decode cX12_keepsRow 4 = .ok (.bipush 40, 2) := by decide +kernel
theorem dX12_keepsRow_6 : decode cX12_keepsRow 6 = .ok (.if_icmp .ne 71, 3) := by decide +kernel
theorem dX12_keepsRow_9 : decode cX12_keepsRow 9 = .ok (.iconst 0, 1) := by decide +kernel
theorem dX12_keepsRow_10 : decode cX12_keepsRow 10 = .ok (.istore_n 1, 1) := by decide +kernel
theorem dX12_keepsRow_11 : decode cX12_keepsRow 11 = .ok (.iload_n 1, 1) := by decide +kernel
theorem dX12_keepsRow_12 : decode cX12_keepsRow 12 = .ok (.sipush 936, 3) := by decide +kernel
theorem dX12_keepsRow_15 : decode cX12_keepsRow 15 = .ok (.if_icmp .ge 24, 3) := by decide +kernel
theorem dX12_keepsRow_18 : decode cX12_keepsRow 18 = .ok (.aload_n 0, 1) := by decide +kernel
theorem dX12_keepsRow_19 : decode cX12_keepsRow 19 = .ok (.getfield 24, 3) := by decide +kernel
theorem dX12_keepsRow_22 : decode cX12_keepsRow 22 = .ok (.iload_n 1, 1) := by decide +kernel
theorem dX12_keepsRow_23 : decode cX12_keepsRow 23 = .ok (.aload_n 0, 1) := by decide +kernel
theorem dX12_keepsRow_24 : decode cX12_keepsRow 24 = .ok (.getfield 24, 3) := by decide +kernel
theorem dX12_keepsRow_27 : decode cX12_keepsRow 27 = .ok (.iload_n 1, 1) := by decide +kernel
theorem dX12_keepsRow_28 : decode cX12_keepsRow 28 = .ok (.bipush 24, 2) := by decide +kernel
theorem dX12_keepsRow_30 : decode cX12_keepsRow 30 = .ok (.iadd, 1) := by decide +kernel
theorem dX12_keepsRow_31 : decode cX12_keepsRow 31 = .ok (.iaload, 1) := by decide +kernel
theorem dX12_keepsRow_32 : decode cX12_keepsRow 32 = .ok (.iastore, 1) := by decide +kernel
theorem dX12_keepsRow_33 : decode cX12_keepsRow 33 = .ok (.iinc 1 1, 3) := by decide +kernel
theorem dX12_keepsRow_36 : decode cX12_keepsRow 36 = .ok (.goto (-25), 3) := by decide +kernel
theorem dX12_keepsRow_39 : decode cX12_keepsRow 39 = .ok (.iconst 0, 1) := by decide +kernel
theorem dX12_keepsRow_40 : decode cX12_keepsRow 40 = .ok (.istore_n 1, 1) := by decide +kernel
theorem dX12_keepsRow_41 : decode cX12_keepsRow 41 = .ok (.iload_n 1, 1) := by decide +kernel
theorem dX12_keepsRow_42 : decode cX12_keepsRow 42 = .ok (.bipush 39, 2) := by decide +kernel
theorem dX12_keepsRow_44 : decode cX12_keepsRow 44 = .ok (.if_icmp .ge 23, 3) := by decide +kernel
theorem dX12_keepsRow_47 : decode cX12_keepsRow 47 = .ok (.aload_n 0, 1) := by decide +kernel
theorem dX12_keepsRow_48 : decode cX12_keepsRow 48 = .ok (.getfield 27, 3) := by decide +kernel
theorem dX12_keepsRow_51 : decode cX12_keepsRow 51 = .ok (.iload_n 1, 1) := by decide +kernel
theorem dX12_keepsRow_52 : decode cX12_keepsRow 52 = .ok (.aload_n 0, 1) := by decide +kernel
theorem dX12_keepsRow_53 : decode cX12_keepsRow 53 = .ok (.getfield 27, 3) := by decide +kernel
theorem dX12_keepsRow_56 : decode cX12_keepsRow 56 = .ok (.iload_n 1, 1) := by decide +kernel
theorem dX12_keepsRow_57 : decode cX12_keepsRow 57 = .ok (.iconst 1, 1) := by decide +kernel
theorem dX12_keepsRow_58 : decode cX12_keepsRow 58 = .ok (.iadd, 1) := by decide +kernel
theorem dX12_keepsRow_59 : decode cX12_keepsRow 59 = .ok (.baload, 1) := by decide +kernel
theorem dX12_keepsRow_60 : decode cX12_keepsRow 60 = .ok (.bastore, 1) := by decide +kernel
theorem dX12_keepsRow_61 : decode cX12_keepsRow 61 = .ok (.iinc 1 1, 3) := by decide +kernel
theorem dX12_keepsRow_64 : decode cX12_keepsRow 64 = .ok (.goto (-23), 3) := by decide +kernel
theorem dX12_keepsRow_67 : decode cX12_keepsRow 67 = .ok (.aload_n 0, 1) := by decide +kernel
theorem dX12_keepsRow_68 : decode cX12_keepsRow 68 = .ok (.dup, 1) := by decide +kernel
theorem dX12_keepsRow_69 : decode cX12_keepsRow 69 = .ok (.getfield 98, 3) := by decide +kernel
theorem dX12_keepsRow_72 : decode cX12_keepsRow 72 = .ok (.iconst 1, 1) := by decide +kernel
theorem dX12_keepsRow_73 : decode cX12_keepsRow 73 = .ok (.isub, 1) := by decide +kernel
theorem dX12_keepsRow_74 : decode cX12_keepsRow 74 = .ok (.putfield 98, 3) := by decide +kernel
theorem dX12_keepsRow_77 : decode cX12_keepsRow 77 = .ok (.iconst 0, 1) := by decide +kernel
theorem dX12_keepsRow_78 : decode cX12_keepsRow 78 = .ok (.istore_n 1, 1) := by decide +kernel
theorem dX12_keepsRow_79 : decode cX12_keepsRow 79 = .ok (.iload_n 1, 1) := by decide +kernel
theorem dX12_keepsRow_80 : decode cX12_keepsRow 80 = .ok (.bipush 24, 2) := by decide +kernel
theorem dX12_keepsRow_82 : decode cX12_keepsRow 82 = .ok (.if_icmp .ge 29, 3) := by decide +kernel
theorem dX12_keepsRow_85 : decode cX12_keepsRow 85 = .ok (.aload_n 0, 1) := by decide +kernel
theorem dX12_keepsRow_86 : decode cX12_keepsRow 86 = .ok (.getfield 24, 3) := by decide +kernel
theorem dX12_keepsRow_89 : decode cX12_keepsRow 89 = .ok (.bipush 24, 2) := by decide +kernel
theorem dX12_keepsRow_91 : decode cX12_keepsRow 91 = .ok (.aload_n 0, 1) := by decide +kernel
theorem dX12_keepsRow_92 : decode cX12_keepsRow 92 = .ok (.getfield 98, 3) := by decide +kernel
theorem dX12_keepsRow_95 : decode cX12_keepsRow 95 = .ok (.imul, 1) := by decide +kernel
theorem dX12_keepsRow_96 : decode cX12_keepsRow 96 = .ok (.iload_n 1, 1) := by decide +kernel
theorem dX12_keepsRow_97 : decode cX12_keepsRow 97 = .ok (.iadd, 1) := by decide +kernel
theorem dX12_keepsRow_98 : decode cX12_keepsRow 98 = .ok (.aload_n 0, 1) := by decide +kernel
theorem dX12_keepsRow_99 : decode cX12_keepsRow 99 = .ok (.getfield 16, 3) := by decide +kernel
theorem dX12_keepsRow_102 : decode cX12_keepsRow 102 = .ok (.iload_n 1, 1) := by decide +kernel
theorem dX12_keepsRow_103 : decode cX12_keepsRow 103 = .ok (.iaload, 1) := by decide +kernel
theorem dX12_keepsRow_104 : decode cX12_keepsRow 104 = .ok (.iastore, 1) := by decide +kernel
theorem dX12_keepsRow_105 : decode cX12_keepsRow 105 = .ok (.iinc 1 1, 3) := by decide +kernel
theorem dX12_keepsRow_108 : decode cX12_keepsRow 108 = .ok (.goto (-29), 3) := by decide +kernel
theorem dX12_keepsRow_111 : decode cX12_keepsRow 111 = .ok (.aload_n 0, 1) := by decide +kernel
theorem dX12_keepsRow_112 : decode cX12_keepsRow 112 = .ok (.getfield 27, 3) := by decide +kernel
theorem dX12_keepsRow_115 : decode cX12_keepsRow 115 = .ok (.aload_n 0, 1) := by decide +kernel
theorem dX12_keepsRow_116 : decode cX12_keepsRow 116 = .ok (.getfield 98, 3) := by decide +kernel
theorem dX12_keepsRow_119 : decode cX12_keepsRow 119 = .ok (.aload_n 0, 1) := by decide +kernel
theorem dX12_keepsRow_120 : decode cX12_keepsRow 120 = .ok (.getfield 20, 3) := by decide +kernel
theorem dX12_keepsRow_123 : decode cX12_keepsRow 123 = .ok (.iconst 0, 1) := by decide +kernel
theorem dX12_keepsRow_124 : decode cX12_keepsRow 124 = .ok (.baload, 1) := by decide +kernel
theorem dX12_keepsRow_125 : decode cX12_keepsRow 125 = .ok (.bastore, 1) := by decide +kernel
theorem dX12_keepsRow_126 : decode cX12_keepsRow 126 = .ok (.aload_n 0, 1) := by decide +kernel
theorem dX12_keepsRow_127 : decode cX12_keepsRow 127 = .ok (.dup, 1) := by decide +kernel
theorem dX12_keepsRow_128 : decode cX12_keepsRow 128 = .ok (.getfield 98, 3) := by decide +kernel
theorem dX12_keepsRow_131 : decode cX12_keepsRow 131 = .ok (.iconst 1, 1) := by decide +kernel
theorem dX12_keepsRow_132 : decode cX12_keepsRow 132 = .ok (.iadd, 1) := by decide +kernel
theorem dX12_keepsRow_133 : decode cX12_keepsRow 133 = .ok (.putfield 98, 3) := by decide +kernel
theorem dX12_keepsRow_136 : decode cX12_keepsRow 136 = .ok (.return_, 1) := by decide +kernel
theorem dX12_scrollsUp_0 : decode cX12_scrollsUp 0 = .ok (.iload_n 3, 1) := by decide +kernel
theorem dX12_scrollsUp_1 : decode cX12_scrollsUp 1 = .ok (.ifCond .eq 18, 3) := by decide +kernel
theorem dX12_scrollsUp_4 : decode cX12_scrollsUp 4 = .ok (.iload_n 1, 1) := by decide +kernel
theorem dX12_scrollsUp_5 : decode cX12_scrollsUp 5 = .ok (.ifCond .ne 14, 3) := by decide +kernel
theorem dX12_scrollsUp_8 : decode cX12_scrollsUp 8 = .ok (.aload_n 0, 1) := by decide +kernel
theorem dX12_scrollsUp_9 : decode cX12_scrollsUp 9 = .ok (.getfield 87, 3) := by decide +kernel
theorem dX12_scrollsUp_12 : decode cX12_scrollsUp 12 = .ok (.ifCond .ne 7, 3) := by decide +kernel
theorem dX12_scrollsUp_15 : decode cX12_scrollsUp 15 = .ok (.iconst 1, 1) := by decide +kernel
theorem dX12_scrollsUp_16 : decode cX12_scrollsUp 16 = .ok (.goto 4, 3) := by decide +kernel
theorem dX12_scrollsUp_19 : decode cX12_scrollsUp 19 = .ok (.iconst 0, 1) := by decide +kernel
theorem dX12_scrollsUp_20 : decode cX12_scrollsUp 20 = .ok (.istore 4, 2) := by decide +kernel
theorem dX12_scrollsUp_22 : decode cX12_scrollsUp 22 = .ok (.iload 4, 2) := by decide +kernel
theorem dX12_scrollsUp_24 : decode cX12_scrollsUp 24 = .ok (.ifCond .eq 7, 3) := by decide +kernel
theorem dX12_scrollsUp_27 : decode cX12_scrollsUp 27 = .ok (.aload_n 0, 1) := by decide +kernel
theorem dX12_scrollsUp_28 : decode cX12_scrollsUp 28 = .ok (.invokevirtual 101, 3) := by decide +kernel
theorem dX12_scrollsUp_31 : decode cX12_scrollsUp 31 = .ok (.iload_n 1, 1) := by decide +kernel
theorem dX12_scrollsUp_32 : decode cX12_scrollsUp 32 = .ok (.istore 5, 2) := by decide +kernel
theorem dX12_scrollsUp_34 : decode cX12_scrollsUp 34 = .ok (.iload 5, 2) := by decide +kernel
theorem dX12_scrollsUp_36 : decode cX12_scrollsUp 36 = .ok (.iload_n 2, 1) := by decide +kernel
theorem dX12_scrollsUp_37 : decode cX12_scrollsUp 37 = .ok (.if_icmp .ge 19, 3) := by decide +kernel
theorem dX12_scrollsUp_40 : decode cX12_scrollsUp 40 = .ok (.aload_n 0, 1) := by decide +kernel
theorem dX12_scrollsUp_41 : decode cX12_scrollsUp 41 = .ok (.iload 5, 2) := by decide +kernel
theorem dX12_scrollsUp_43 : decode cX12_scrollsUp 43 = .ok (.iconst 1, 1) := by decide +kernel
theorem dX12_scrollsUp_44 : decode cX12_scrollsUp 44 = .ok (.iadd, 1) := by decide +kernel
theorem dX12_scrollsUp_45 : decode cX12_scrollsUp 45 = .ok (.iload 5, 2) := by decide +kernel
theorem dX12_scrollsUp_47 : decode cX12_scrollsUp 47 = .ok (.invokevirtual 104, 3) := by decide +kernel
theorem dX12_scrollsUp_50 : decode cX12_scrollsUp 50 = .ok (.iinc 5 1, 3) := by decide +kernel
theorem dX12_scrollsUp_53 : decode cX12_scrollsUp 53 = .ok (.goto (-19), 3) := by decide +kernel
theorem dX12_scrollsUp_56 : decode cX12_scrollsUp 56 = .ok (.aload_n 0, 1) := by decide +kernel
theorem dX12_scrollsUp_57 : decode cX12_scrollsUp 57 = .ok (.iload_n 2, 1) := by decide +kernel
theorem dX12_scrollsUp_58 : decode cX12_scrollsUp 58 = .ok (.invokevirtual 107, 3) := by decide +kernel
theorem dX12_scrollsUp_61 : decode cX12_scrollsUp 61 = .ok (.iload 4, 2) := by decide +kernel
theorem dX12_scrollsUp_63 : decode cX12_scrollsUp 63 = .ok (.ifCond .ne 8, 3) := by decide +kernel
theorem dX12_scrollsUp_66 : decode cX12_scrollsUp 66 = .ok (.aload_n 0, 1) := by decide +kernel
theorem dX12_scrollsUp_67 : decode cX12_scrollsUp 67 = .ok (.iload_n 1, 1) := by decide +kernel
theorem dX12_scrollsUp_68 : decode cX12_scrollsUp 68 = .ok (.invokevirtual 110, 3) := by decide +kernel
theorem dX12_scrollsUp_71 : decode cX12_scrollsUp 71 = .ok (.return_, 1) := by decide +kernel
theorem dX12_scrollsDown_0 : decode cX12_scrollsDown 0 = .ok (.iload_n 2, 1) := by decide +kernel
theorem dX12_scrollsDown_1 : decode cX12_scrollsDown 1 = .ok (.istore_n 3, 1) := by decide +kernel
theorem dX12_scrollsDown_2 : decode cX12_scrollsDown 2 = .ok (.iload_n 3, 1) := by decide +kernel
theorem dX12_scrollsDown_3 : decode cX12_scrollsDown 3 = .ok (.iload_n 1, 1) := by decide +kernel
theorem dX12_scrollsDown_4 : decode cX12_scrollsDown 4 = .ok (.if_icmp .le 17, 3) := by decide +kernel
theorem dX12_scrollsDown_7 : decode cX12_scrollsDown 7 = .ok (.aload_n 0, 1) := by decide +kernel
theorem dX12_scrollsDown_8 : decode cX12_scrollsDown 8 = .ok (.iload_n 3, 1) := by decide +kernel
theorem dX12_scrollsDown_9 : decode cX12_scrollsDown 9 = .ok (.iconst 1, 1) := by decide +kernel
theorem dX12_scrollsDown_10 : decode cX12_scrollsDown 10 = .ok (.isub, 1) := by decide +kernel
theorem dX12_scrollsDown_11 : decode cX12_scrollsDown 11 = .ok (.iload_n 3, 1) := by decide +kernel
theorem dX12_scrollsDown_12 : decode cX12_scrollsDown 12 = .ok (.invokevirtual 104, 3) := by decide +kernel
theorem dX12_scrollsDown_15 : decode cX12_scrollsDown 15 = .ok (.iinc 3 (-1), 3) := by decide +kernel
theorem dX12_scrollsDown_18 : decode cX12_scrollsDown 18 = .ok (.goto (-16), 3) := by decide +kernel
theorem dX12_scrollsDown_21 : decode cX12_scrollsDown 21 = .ok (.aload_n 0, 1) := by decide +kernel
theorem dX12_scrollsDown_22 : decode cX12_scrollsDown 22 = .ok (.iload_n 1, 1) := by decide +kernel
theorem dX12_scrollsDown_23 : decode cX12_scrollsDown 23 = .ok (.invokevirtual 107, 3) := by decide +kernel
theorem dX12_scrollsDown_26 : decode cX12_scrollsDown 26 = .ok (.aload_n 0, 1) := by decide +kernel
theorem dX12_scrollsDown_27 : decode cX12_scrollsDown 27 = .ok (.getfield 20, 3) := by decide +kernel
theorem dX12_scrollsDown_30 : decode cX12_scrollsDown 30 = .ok (.bipush 12, 2) := by decide +kernel
theorem dX12_scrollsDown_32 : decode cX12_scrollsDown 32 = .ok (.aload_n 0, 1) := by decide +kernel
theorem dX12_scrollsDown_33 : decode cX12_scrollsDown 33 = .ok (.getfield 87, 3) := by decide +kernel
theorem dX12_scrollsDown_36 : decode cX12_scrollsDown 36 = .ok (.imul, 1) := by decide +kernel
theorem dX12_scrollsDown_37 : decode cX12_scrollsDown 37 = .ok (.iload_n 2, 1) := by decide +kernel
theorem dX12_scrollsDown_38 : decode cX12_scrollsDown 38 = .ok (.iadd, 1) := by decide +kernel
theorem dX12_scrollsDown_39 : decode cX12_scrollsDown 39 = .ok (.iconst 0, 1) := by decide +kernel
theorem dX12_scrollsDown_40 : decode cX12_scrollsDown 40 = .ok (.bastore, 1) := by decide +kernel
theorem dX12_scrollsDown_41 : decode cX12_scrollsDown 41 = .ok (.aload_n 0, 1) := by decide +kernel
theorem dX12_scrollsDown_42 : decode cX12_scrollsDown 42 = .ok (.iload_n 1, 1) := by decide +kernel
theorem dX12_scrollsDown_43 : decode cX12_scrollsDown 43 = .ok (.invokevirtual 110, 3) := by decide +kernel
theorem dX12_scrollsDown_46 : decode cX12_scrollsDown 46 = .ok (.return_, 1) := by decide +kernel
theorem dX12_feeds_0 : decode cX12_feeds 0 = .ok (.aload_n 0, 1) := by decide +kernel
theorem dX12_feeds_1 : decode cX12_feeds 1 = .ok (.getfield 113, 3) := by decide +kernel
theorem dX12_feeds_4 : decode cX12_feeds 4 = .ok (.aload_n 0, 1) := by decide +kernel
theorem dX12_feeds_5 : decode cX12_feeds 5 = .ok (.getfield 30, 3) := by decide +kernel
theorem dX12_feeds_8 : decode cX12_feeds 8 = .ok (.if_icmp .ne 19, 3) := by decide +kernel
theorem dX12_feeds_11 : decode cX12_feeds 11 = .ok (.aload_n 0, 1) := by decide +kernel
theorem dX12_feeds_12 : decode cX12_feeds 12 = .ok (.aload_n 0, 1) := by decide +kernel
theorem dX12_feeds_13 : decode cX12_feeds 13 = .ok (.getfield 116, 3) := by decide +kernel
theorem dX12_feeds_16 : decode cX12_feeds 16 = .ok (.aload_n 0, 1) := by decide +kernel
theorem dX12_feeds_17 : decode cX12_feeds 17 = .ok (.getfield 30, 3) := by decide +kernel
theorem dX12_feeds_20 : decode cX12_feeds 20 = .ok (.iconst 1, 1) := by decide +kernel
theorem dX12_feeds_21 : decode cX12_feeds 21 = .ok (.invokevirtual 119, 3) := by decide +kernel
theorem dX12_feeds_24 : decode cX12_feeds 24 = .ok (.goto 26, 3) := by decide +kernel
theorem dX12_feeds_27 : decode cX12_feeds 27 = .ok (.aload_n 0, 1) := by decide +kernel
theorem dX12_feeds_28 : decode cX12_feeds 28 = .ok (.getfield 113, 3) := by decide +kernel
theorem dX12_feeds_31 : decode cX12_feeds 31 = .ok (.aload_n 0, 1) := by decide +kernel
theorem dX12_feeds_32 : decode cX12_feeds 32 = .ok (.getfield 7, 3) := by decide +kernel
theorem dX12_feeds_35 : decode cX12_feeds 35 = .ok (.iconst 1, 1) := by decide +kernel
theorem dX12_feeds_36 : decode cX12_feeds 36 = .ok (.isub, 1) := by decide +kernel
theorem dX12_feeds_37 : decode cX12_feeds 37 = .ok (.if_icmp .ge 13, 3) := by decide +kernel
theorem dX12_feeds_40 : decode cX12_feeds 40 = .ok (.aload_n 0, 1) := by decide +kernel
theorem dX12_feeds_41 : decode cX12_feeds 41 = .ok (.dup, 1) := by decide +kernel
theorem dX12_feeds_42 : decode cX12_feeds 42 = .ok (.getfield 113, 3) := by decide +kernel
theorem dX12_feeds_45 : decode cX12_feeds 45 = .ok (.iconst 1, 1) := by decide +kernel
theorem dX12_feeds_46 : decode cX12_feeds 46 = .ok (.iadd, 1) := by decide +kernel
theorem dX12_feeds_47 : decode cX12_feeds 47 = .ok (.putfield 113, 3) := by decide +kernel
theorem dX12_feeds_50 : decode cX12_feeds 50 = .ok (.return_, 1) := by decide +kernel
theorem dX12_draws_0 : decode cX12_draws 0 = .ok (.iload_n 1, 1) := by decide +kernel
theorem dX12_draws_1 : decode cX12_draws 1 = .ok (.bipush 65, 2) := by decide +kernel
theorem dX12_draws_3 : decode cX12_draws 3 = .ok (.bipush 90, 2) := by decide +kernel
theorem dX12_draws_5 : decode cX12_draws 5 = .ok (.invokestatic 83, 3) := by decide +kernel
theorem dX12_draws_8 : decode cX12_draws 8 = .ok (.ifCond .eq 7, 3) := by decide +kernel
theorem dX12_draws_11 : decode cX12_draws 11 = .ok (.iconst 2, 1) := by decide +kernel
theorem dX12_draws_12 : decode cX12_draws 12 = .ok (.goto 4, 3) := by decide +kernel
theorem dX12_draws_15 : decode cX12_draws 15 = .ok (.iconst 1, 1) := by decide +kernel
theorem dX12_draws_16 : decode cX12_draws 16 = .ok (.istore_n 2, 1) := by decide +kernel
theorem dX12_draws_17 : decode cX12_draws 17 = .ok (.iload_n 2, 1) := by decide +kernel
theorem dX12_draws_18 : decode cX12_draws 18 = .ok (.iconst 2, 1) := by decide +kernel
theorem dX12_draws_19 : decode cX12_draws 19 = .ok (.if_icmp .ne 20, 3) := by decide +kernel
theorem dX12_draws_22 : decode cX12_draws 22 = .ok (.aload_n 0, 1) := by decide +kernel
theorem dX12_draws_23 : decode cX12_draws 23 = .ok (.getfield 123, 3) := by decide +kernel
theorem dX12_draws_26 : decode cX12_draws 26 = .ok (.aload_n 0, 1) := by decide +kernel
theorem dX12_draws_27 : decode cX12_draws 27 = .ok (.getfield 13, 3) := by decide +kernel
theorem dX12_draws_30 : decode cX12_draws 30 = .ok (.iconst 1, 1) := by decide +kernel
theorem dX12_draws_31 : decode cX12_draws 31 = .ok (.isub, 1) := by decide +kernel
theorem dX12_draws_32 : decode cX12_draws 32 = .ok (.if_icmp .ne 7, 3) := by decide +kernel
theorem dX12_draws_35 : decode cX12_draws 35 = .ok (.iconst 1, 1) := by decide +kernel
theorem dX12_draws_36 : decode cX12_draws 36 = .ok (.goto 4, 3) := by decide +kernel
theorem dX12_draws_39 : decode cX12_draws 39 = .ok (.iconst 0, 1) := by decide +kernel
theorem dX12_draws_40 : decode cX12_draws 40 = .ok (.istore_n 3, 1) := by decide +kernel
theorem dX12_draws_41 : decode cX12_draws 41 = .ok (.aload_n 0, 1) := by decide +kernel
theorem dX12_draws_42 : decode cX12_draws 42 = .ok (.getfield 33, 3) := by decide +kernel
theorem dX12_draws_45 : decode cX12_draws 45 = .ok (.ifCond .eq 69, 3) := by decide +kernel
theorem dX12_draws_48 : decode cX12_draws 48 = .ok (.aload_n 0, 1) := by decide +kernel
theorem dX12_draws_49 : decode cX12_draws 49 = .ok (.getfield 126, 3) := by decide +kernel
theorem dX12_draws_52 : decode cX12_draws 52 = .ok (.ifCond .ne 7, 3) := by decide +kernel
theorem dX12_draws_55 : decode cX12_draws 55 = .ok (.iload_n 3, 1) := by decide +kernel
theorem dX12_draws_56 : decode cX12_draws 56 = .ok (.ifCond .eq 58, 3) := by decide +kernel
theorem dX12_draws_59 : decode cX12_draws 59 = .ok (.aload_n 0, 1) := by decide +kernel
theorem dX12_draws_60 : decode cX12_draws 60 = .ok (.getfield 126, 3) := by decide +kernel
theorem dX12_draws_63 : decode cX12_draws 63 = .ok (.ifCond .ne 21, 3) := by decide +kernel
theorem dX12_draws_66 : decode cX12_draws 66 = .ok (.aload_n 0, 1) := by decide +kernel
theorem dX12_draws_67 : decode cX12_draws 67 = .ok (.aload_n 0, 1) := by decide +kernel
theorem dX12_draws_68 : decode cX12_draws 68 = .ok (.getfield 113, 3) := by decide +kernel
theorem dX12_draws_71 : decode cX12_draws 71 = .ok (.aload_n 0, 1) := by decide +kernel
theorem dX12_draws_72 : decode cX12_draws 72 = .ok (.getfield 13, 3) := by decide +kernel
theorem dX12_draws_75 : decode cX12_draws 75 = .ok (.iconst 1, 1) := by decide +kernel
theorem dX12_draws_76 : decode cX12_draws 76 = .ok (.isub, 1) := by decide +kernel
theorem dX12_draws_77 : decode cX12_draws 77 = .ok (.aload_n 0, 1) := by decide +kernel
theorem dX12_draws_78 : decode cX12_draws 78 = .ok (.getfield 13, 3) := by decide +kernel
theorem dX12_draws_81 : decode cX12_draws 81 = .ok (.invokevirtual 129, 3) := by decide +kernel
theorem dX12_draws_84 : decode cX12_draws 84 = .ok (.aload_n 0, 1) := by decide +kernel
theorem dX12_draws_85 : decode cX12_draws 85 = .ok (.getfield 20, 3) := by decide +kernel
theorem dX12_draws_88 : decode cX12_draws 88 = .ok (.bipush 12, 2) := by decide +kernel
theorem dX12_draws_90 : decode cX12_draws 90 = .ok (.aload_n 0, 1) := by decide +kernel
theorem dX12_draws_91 : decode cX12_draws 91 = .ok (.getfield 87, 3) := by decide +kernel
theorem dX12_draws_94 : decode cX12_draws 94 = .ok (.imul, 1) := by decide +kernel
theorem dX12_draws_95 : decode cX12_draws 95 = .ok (.aload_n 0, 1) := by decide +kernel
theorem dX12_draws_96 : decode cX12_draws 96 = .ok (.getfield 113, 3) := by decide +kernel
theorem dX12_draws_99 : decode cX12_draws 99 = .ok (.iadd, 1) := by decide +kernel
theorem dX12_draws_100 : decode cX12_draws 100 = .ok (.iconst 1, 1) := by decide +kernel
theorem dX12_draws_101 : decode cX12_draws 101 = .ok (.bastore, 1) := by decide +kernel
theorem dX12_draws_102 : decode cX12_draws 102 = .ok (.aload_n 0, 1) := by decide +kernel
theorem dX12_draws_103 : decode cX12_draws 103 = .ok (.invokevirtual 133, 3) := by decide +kernel
theorem dX12_draws_106 : decode cX12_draws 106 = .ok (.aload_n 0, 1) := by decide +kernel
theorem dX12_draws_107 : decode cX12_draws 107 = .ok (.iconst 0, 1) := by decide +kernel
theorem dX12_draws_108 : decode cX12_draws 108 = .ok (.putfield 123, 3) := by decide +kernel
theorem dX12_draws_111 : decode cX12_draws 111 = .ok (.goto 17, 3) := by decide +kernel
theorem dX12_draws_114 : decode cX12_draws 114 = .ok (.iload_n 3, 1) := by decide +kernel
theorem dX12_draws_115 : decode cX12_draws 115 = .ok (.ifCond .eq 13, 3) := by decide +kernel
theorem dX12_draws_118 : decode cX12_draws 118 = .ok (.aload_n 0, 1) := by decide +kernel
theorem dX12_draws_119 : decode cX12_draws 119 = .ok (.aload_n 0, 1) := by decide +kernel
theorem dX12_draws_120 : decode cX12_draws 120 = .ok (.getfield 13, 3) := by decide +kernel
theorem dX12_draws_123 : decode cX12_draws 123 = .ok (.iconst 2, 1) := by decide +kernel
theorem dX12_draws_124 : decode cX12_draws 124 = .ok (.isub, 1) := by decide +kernel
theorem dX12_draws_125 : decode cX12_draws 125 = .ok (.putfield 123, 3) := by decide +kernel
theorem dX12_draws_128 : decode cX12_draws 128 = .ok (.aload_n 0, 1) := by decide +kernel
theorem dX12_draws_129 : decode cX12_draws 129 = .ok (.iconst 0, 1) := by decide +kernel
theorem dX12_draws_130 : decode cX12_draws 130 = .ok (.putfield 126, 3) := by decide +kernel
theorem dX12_draws_133 : decode cX12_draws 133 = .ok (.aload_n 0, 1) := by decide +kernel
theorem dX12_draws_134 : decode cX12_draws 134 = .ok (.getfield 136, 3) := by decide +kernel
theorem dX12_draws_137 : decode cX12_draws 137 = .ok (.ifCond .eq 16, 3) := by decide +kernel
theorem dX12_draws_140 : decode cX12_draws 140 = .ok (.aload_n 0, 1) := by decide +kernel
theorem dX12_draws_141 : decode cX12_draws 141 = .ok (.aload_n 0, 1) := by decide +kernel
theorem dX12_draws_142 : decode cX12_draws 142 = .ok (.getfield 113, 3) := by decide +kernel
theorem dX12_draws_145 : decode cX12_draws 145 = .ok (.aload_n 0, 1) := by decide +kernel
theorem dX12_draws_146 : decode cX12_draws 146 = .ok (.getfield 123, 3) := by decide +kernel
theorem dX12_draws_149 : decode cX12_draws 149 = .ok (.iload_n 2, 1) := by decide +kernel
theorem dX12_draws_150 : decode cX12_draws 150 = .ok (.invokevirtual 139, 3) := by decide +kernel
theorem dX12_draws_153 : decode cX12_draws 153 = .ok (.aload_n 0, 1) := by decide +kernel
theorem dX12_draws_154 : decode cX12_draws 154 = .ok (.aload_n 0, 1) := by decide +kernel
theorem dX12_draws_155 : decode cX12_draws 155 = .ok (.getfield 113, 3) := by decide +kernel
theorem dX12_draws_158 : decode cX12_draws 158 = .ok (.aload_n 0, 1) := by decide +kernel
theorem dX12_draws_159 : decode cX12_draws 159 = .ok (.getfield 123, 3) := by decide +kernel
theorem dX12_draws_162 : decode cX12_draws 162 = .ok (.invokevirtual 94, 3) := by decide +kernel
theorem dX12_draws_165 : decode cX12_draws 165 = .ok (.aload_n 0, 1) := by decide +kernel
theorem dX12_draws_166 : decode cX12_draws 166 = .ok (.aload_n 0, 1) := by decide +kernel
theorem dX12_draws_167 : decode cX12_draws 167 = .ok (.getfield 113, 3) := by decide +kernel
theorem dX12_draws_170 : decode cX12_draws 170 = .ok (.aload_n 0, 1) := by decide +kernel
theorem dX12_draws_171 : decode cX12_draws 171 = .ok (.getfield 123, 3) := by decide +kernel
theorem dX12_draws_174 : decode cX12_draws 174 = .ok (.iload_n 2, 1) := by decide +kernel
theorem dX12_draws_175 : decode cX12_draws 175 = .ok (.iadd, 1) := by decide +kernel
theorem dX12_draws_176 : decode cX12_draws 176 = .ok (.invokevirtual 94, 3) := by decide +kernel
theorem dX12_draws_179 : decode cX12_draws 179 = .ok (.aload_n 0, 1) := by decide +kernel
theorem dX12_draws_180 : decode cX12_draws 180 = .ok (.getfield 16, 3) := by decide +kernel
theorem dX12_draws_183 : decode cX12_draws 183 = .ok (.aload_n 0, 1) := by decide +kernel
theorem dX12_draws_184 : decode cX12_draws 184 = .ok (.aload_n 0, 1) := by decide +kernel
theorem dX12_draws_185 : decode cX12_draws 185 = .ok (.getfield 113, 3) := by decide +kernel
theorem dX12_draws_188 : decode cX12_draws 188 = .ok (.aload_n 0, 1) := by decide +kernel
theorem dX12_draws_189 : decode cX12_draws 189 = .ok (.getfield 123, 3) := by decide +kernel
theorem dX12_draws_192 : decode cX12_draws 192 = .ok (.invokevirtual 90, 3) := by decide +kernel
theorem dX12_draws_195 : decode cX12_draws 195 = .ok (.iload_n 1, 1) := by decide +kernel
theorem dX12_draws_196 : decode cX12_draws 196 = .ok (.sipush 1000, 3) := by decide +kernel
theorem dX12_draws_199 : decode cX12_draws 199 = .ok (.aload_n 0, 1) := by decide +kernel
theorem dX12_draws_200 : decode cX12_draws 200 = .ok (.getfield 142, 3) := by decide +kernel
theorem dX12_draws_203 : decode cX12_draws 203 = .ok (.imul, 1) := by decide +kernel
theorem dX12_draws_204 : decode cX12_draws 204 = .ok (.iadd, 1) := by decide +kernel
theorem dX12_draws_205 : decode cX12_draws 205 = .ok (.iastore, 1) := by decide +kernel
theorem dX12_draws_206 : decode cX12_draws 206 = .ok (.iload_n 2, 1) := by decide +kernel
theorem dX12_draws_207 : decode cX12_draws 207 = .ok (.iconst 2, 1) := by decide +kernel
theorem dX12_draws_208 : decode cX12_draws 208 = .ok (.if_icmp .ne 24, 3) := by decide +kernel
theorem dX12_draws_211 : decode cX12_draws 211 = .ok (.aload_n 0, 1) := by decide +kernel
theorem dX12_draws_212 : decode cX12_draws 212 = .ok (.getfield 16, 3) := by decide +kernel
theorem dX12_draws_215 : decode cX12_draws 215 = .ok (.aload_n 0, 1) := by decide +kernel
theorem dX12_draws_216 : decode cX12_draws 216 = .ok (.aload_n 0, 1) := by decide +kernel
theorem dX12_draws_217 : decode cX12_draws 217 = .ok (.getfield 113, 3) := by decide +kernel
theorem dX12_draws_220 : decode cX12_draws 220 = .ok (.aload_n 0, 1) := by decide +kernel
theorem dX12_draws_221 : decode cX12_draws 221 = .ok (.getfield 123, 3) := by decide +kernel
theorem dX12_draws_224 : decode cX12_draws 224 = .ok (.iconst 1, 1) := by decide +kernel
theorem dX12_draws_225 : decode cX12_draws 225 = .ok (.iadd, 1) := by decide +kernel
theorem dX12_draws_226 : decode cX12_draws 226 = .ok (.invokevirtual 90, 3) := by decide +kernel
theorem dX12_draws_229 : decode cX12_draws 229 = .ok (.bipush (-2), 2) := by decide +kernel
theorem dX12_draws_231 : decode cX12_draws 231 = .ok (.iastore, 1) := by decide +kernel
theorem dX12_draws_232 : decode cX12_draws 232 = .ok (.aload_n 0, 1) := by decide +kernel
theorem dX12_draws_233 : decode cX12_draws 233 = .ok (.dup, 1) := by decide +kernel
theorem dX12_draws_234 : decode cX12_draws 234 = .ok (.getfield 123, 3) := by decide +kernel
theorem dX12_draws_237 : decode cX12_draws 237 = .ok (.iload_n 2, 1) := by decide +kernel
theorem dX12_draws_238 : decode cX12_draws 238 = .ok (.iadd, 1) := by decide +kernel
theorem dX12_draws_239 : decode cX12_draws 239 = .ok (.putfield 123, 3) := by decide +kernel
theorem dX12_draws_242 : decode cX12_draws 242 = .ok (.aload_n 0, 1) := by decide +kernel
theorem dX12_draws_243 : decode cX12_draws 243 = .ok (.getfield 123, 3) := by decide +kernel
theorem dX12_draws_246 : decode cX12_draws 246 = .ok (.aload_n 0, 1) := by decide +kernel
theorem dX12_draws_247 : decode cX12_draws 247 = .ok (.getfield 13, 3) := by decide +kernel
theorem dX12_draws_250 : decode cX12_draws 250 = .ok (.iconst 1, 1) := by decide +kernel
theorem dX12_draws_251 : decode cX12_draws 251 = .ok (.isub, 1) := by decide +kernel
theorem dX12_draws_252 : decode cX12_draws 252 = .ok (.if_icmp .le 21, 3) := by decide +kernel
theorem dX12_draws_255 : decode cX12_draws 255 = .ok (.aload_n 0, 1) := by decide +kernel
theorem dX12_draws_256 : decode cX12_draws 256 = .ok (.aload_n 0, 1) := by decide +kernel
theorem dX12_draws_257 : decode cX12_draws 257 = .ok (.getfield 13, 3) := by decide +kernel
theorem dX12_draws_260 : decode cX12_draws 260 = .ok (.iconst 1, 1) := by decide +kernel
theorem dX12_draws_261 : decode cX12_draws 261 = .ok (.isub, 1) := by decide +kernel
theorem dX12_draws_262 : decode cX12_draws 262 = .ok (.putfield 123, 3) := by decide +kernel
theorem dX12_draws_265 : decode cX12_draws 265 = .ok (.aload_n 0, 1) := by decide +kernel
theorem dX12_draws_266 : decode cX12_draws 266 = .ok (.aload_n 0, 1) := by decide +kernel
theorem dX12_draws_267 : decode cX12_draws 267 = .ok (.getfield 33, 3) := by decide +kernel
theorem dX12_draws_270 : decode cX12_draws 270 = .ok (.putfield 126, 3) := by decide +kernel
theorem dX12_draws_273 : decode cX12_draws 273 = .ok (.return_, 1) := by decide +kernel
theorem dX12_marks_0 : decode cX12_marks 0 = .ok (.aload_n 0, 1) := by decide +kernel
theorem dX12_marks_1 : decode cX12_marks 1 = .ok (.getfield 126, 3) := by decide +kernel
theorem dX12_marks_4 : decode cX12_marks 4 = .ok (.ifCond .eq 10, 3) := by decide +kernel
theorem dX12_marks_7 : decode cX12_marks 7 = .ok (.aload_n 0, 1) := by decide +kernel
theorem dX12_marks_8 : decode cX12_marks 8 = .ok (.getfield 123, 3) := by decide +kernel
theorem dX12_marks_11 : decode cX12_marks 11 = .ok (.goto 9, 3) := by decide +kernel
theorem dX12_marks_14 : decode cX12_marks 14 = .ok (.aload_n 0, 1) := by decide +kernel
theorem dX12_marks_15 : decode cX12_marks 15 = .ok (.getfield 123, 3) := by decide +kernel
theorem dX12_marks_18 : decode cX12_marks 18 = .ok (.iconst 1, 1) := by decide +kernel
theorem dX12_marks_19 : decode cX12_marks 19 = .ok (.isub, 1) := by decide +kernel
theorem dX12_marks_20 : decode cX12_marks 20 = .ok (.istore_n 1, 1) := by decide +kernel
theorem dX12_marks_21 : decode cX12_marks 21 = .ok (.iload_n 1, 1) := by decide +kernel
theorem dX12_marks_22 : decode cX12_marks 22 = .ok (.ifCond .lt 80, 3) := by decide +kernel
theorem dX12_marks_25 : decode cX12_marks 25 = .ok (.aload_n 0, 1) := by decide +kernel
theorem dX12_marks_26 : decode cX12_marks 26 = .ok (.getfield 16, 3) := by decide +kernel
theorem dX12_marks_29 : decode cX12_marks 29 = .ok (.aload_n 0, 1) := by decide +kernel
theorem dX12_marks_30 : decode cX12_marks 30 = .ok (.aload_n 0, 1) := by decide +kernel
theorem dX12_marks_31 : decode cX12_marks 31 = .ok (.getfield 113, 3) := by decide +kernel
theorem dX12_marks_34 : decode cX12_marks 34 = .ok (.iload_n 1, 1) := by decide +kernel
theorem dX12_marks_35 : decode cX12_marks 35 = .ok (.invokevirtual 90, 3) := by decide +kernel
theorem dX12_marks_38 : decode cX12_marks 38 = .ok (.iaload, 1) := by decide +kernel
theorem dX12_marks_39 : decode cX12_marks 39 = .ok (.bipush (-2), 2) := by decide +kernel
theorem dX12_marks_41 : decode cX12_marks 41 = .ok (.if_icmp .ne 9, 3) := by decide +kernel
theorem dX12_marks_44 : decode cX12_marks 44 = .ok (.iload_n 1, 1) := by decide +kernel
theorem dX12_marks_45 : decode cX12_marks 45 = .ok (.iconst 1, 1) := by decide +kernel
theorem dX12_marks_46 : decode cX12_marks 46 = .ok (.isub, 1) := by decide +kernel
theorem dX12_marks_47 : decode cX12_marks 47 = .ok (.goto 4, 3) := by decide +kernel
theorem dX12_marks_50 : decode cX12_marks 50 = .ok (.iload_n 1, 1) := by decide +kernel
theorem dX12_marks_51 : decode cX12_marks 51 = .ok (.istore_n 2, 1) := by decide +kernel
theorem dX12_marks_52 : decode cX12_marks 52 = .ok (.aload_n 0, 1) := by decide +kernel
theorem dX12_marks_53 : decode cX12_marks 53 = .ok (.getfield 16, 3) := by decide +kernel
theorem dX12_marks_56 : decode cX12_marks 56 = .ok (.aload_n 0, 1) := by decide +kernel
theorem dX12_marks_57 : decode cX12_marks 57 = .ok (.aload_n 0, 1) := by decide +kernel
theorem dX12_marks_58 : decode cX12_marks 58 = .ok (.getfield 113, 3) := by decide +kernel
theorem dX12_marks_61 : decode cX12_marks 61 = .ok (.iload_n 2, 1) := by decide +kernel
theorem dX12_marks_62 : decode cX12_marks 62 = .ok (.invokevirtual 90, 3) := by decide +kernel
theorem dX12_marks_65 : decode cX12_marks 65 = .ok (.iaload, 1) := by decide +kernel
theorem dX12_marks_66 : decode cX12_marks 66 = .ok (.istore_n 3, 1) := by decide +kernel
theorem dX12_marks_67 : decode cX12_marks 67 = .ok (.aload_n 0, 1) := by decide +kernel
theorem dX12_marks_68 : decode cX12_marks 68 = .ok (.getfield 16, 3) := by decide +kernel
theorem dX12_marks_71 : decode cX12_marks 71 = .ok (.aload_n 0, 1) := by decide +kernel
theorem dX12_marks_72 : decode cX12_marks 72 = .ok (.aload_n 0, 1) := by decide +kernel
theorem dX12_marks_73 : decode cX12_marks 73 = .ok (.getfield 113, 3) := by decide +kernel
theorem dX12_marks_76 : decode cX12_marks 76 = .ok (.iload_n 2, 1) := by decide +kernel
theorem dX12_marks_77 : decode cX12_marks 77 = .ok (.invokevirtual 90, 3) := by decide +kernel
theorem dX12_marks_80 : decode cX12_marks 80 = .ok (.dup2, 1) := by decide +kernel
theorem dX12_marks_81 : decode cX12_marks 81 = .ok (.iaload, 1) := by decide +kernel
theorem dX12_marks_82 : decode cX12_marks 82 = .ok (.iload_n 3, 1) := by decide +kernel
theorem dX12_marks_83 : decode cX12_marks 83 = .ok (.ifCond .le 16, 3) := by decide +kernel
theorem dX12_marks_86 : decode cX12_marks 86 = .ok (.iload_n 3, 1) := by decide +kernel
theorem dX12_marks_87 : decode cX12_marks 87 = .ok (.ldc 145, 2) := by decide +kernel
theorem dX12_marks_89 : decode cX12_marks 89 = .ok (.idiv, 1) := by decide +kernel
theorem dX12_marks_90 : decode cX12_marks 90 = .ok (.iconst 3, 1) := by decide +kernel
theorem dX12_marks_91 : decode cX12_marks 91 = .ok (.if_icmp .ge 8, 3) := by decide +kernel
theorem dX12_marks_94 : decode cX12_marks 94 = .ok (.ldc 145, 2) := by decide +kernel
theorem dX12_marks_96 : decode cX12_marks 96 = .ok (.goto 4, 3) := by decide +kernel
theorem dX12_marks_99 : decode cX12_marks 99 = .ok (.iconst 0, 1) := by decide +kernel
theorem dX12_marks_100 : decode cX12_marks 100 = .ok (.iadd, 1) := by decide +kernel
theorem dX12_marks_101 : decode cX12_marks 101 = .ok (.iastore, 1) := by decide +kernel
theorem dX12_marks_102 : decode cX12_marks 102 = .ok (.return_, 1) := by decide +kernel
theorem dX12_nextTab_0 : decode cX12_nextTab 0 = .ok (.iconst (-1), 1) := by decide +kernel
theorem dX12_nextTab_1 : decode cX12_nextTab 1 = .ok (.istore_n 1, 1) := by decide +kernel
theorem dX12_nextTab_2 : decode cX12_nextTab 2 = .ok (.aload_n 0, 1) := by decide +kernel
theorem dX12_nextTab_3 : decode cX12_nextTab 3 = .ok (.getfield 13, 3) := by decide +kernel
theorem dX12_nextTab_6 : decode cX12_nextTab 6 = .ok (.iconst 1, 1) := by decide +kernel
theorem dX12_nextTab_7 : decode cX12_nextTab 7 = .ok (.isub, 1) := by decide +kernel
theorem dX12_nextTab_8 : decode cX12_nextTab 8 = .ok (.istore_n 2, 1) := by decide +kernel
theorem dX12_nextTab_9 : decode cX12_nextTab 9 = .ok (.iload_n 2, 1) := by decide +kernel
theorem dX12_nextTab_10 : decode cX12_nextTab 10 = .ok (.aload_n 0, 1) := by decide +kernel
theorem dX12_nextTab_11 : decode cX12_nextTab 11 = .ok (.getfield 123, 3) := by decide +kernel
theorem dX12_nextTab_14 : decode cX12_nextTab 14 = .ok (.if_icmp .le 27, 3) := by decide +kernel
theorem dX12_nextTab_17 : decode cX12_nextTab 17 = .ok (.aload_n 0, 1) := by decide +kernel
theorem dX12_nextTab_18 : decode cX12_nextTab 18 = .ok (.getfield 146, 3) := by decide +kernel
theorem dX12_nextTab_21 : decode cX12_nextTab 21 = .ok (.iload_n 2, 1) := by decide +kernel
theorem dX12_nextTab_22 : decode cX12_nextTab 22 = .ok (.ishr, 1) := by decide +kernel
theorem dX12_nextTab_23 : decode cX12_nextTab 23 = .ok (.iconst 1, 1) := by decide +kernel
theorem dX12_nextTab_24 : decode cX12_nextTab 24 = .ok (.iand, 1) := by decide +kernel
theorem dX12_nextTab_25 : decode cX12_nextTab 25 = .ok (.iconst 1, 1) := by decide +kernel
theorem dX12_nextTab_26 : decode cX12_nextTab 26 = .ok (.if_icmp .ne 7, 3) := by decide +kernel
theorem dX12_nextTab_29 : decode cX12_nextTab 29 = .ok (.iload_n 2, 1) := by decide +kernel
theorem dX12_nextTab_30 : decode cX12_nextTab 30 = .ok (.goto 4, 3) := by decide +kernel
theorem dX12_nextTab_33 : decode cX12_nextTab 33 = .ok (.iload_n 1, 1) := by decide +kernel
theorem dX12_nextTab_34 : decode cX12_nextTab 34 = .ok (.istore_n 1, 1) := by decide +kernel
theorem dX12_nextTab_35 : decode cX12_nextTab 35 = .ok (.iinc 2 (-1), 3) := by decide +kernel
theorem dX12_nextTab_38 : decode cX12_nextTab 38 = .ok (.goto (-29), 3) := by decide +kernel
theorem dX12_nextTab_41 : decode cX12_nextTab 41 = .ok (.iload_n 1, 1) := by decide +kernel
theorem dX12_nextTab_42 : decode cX12_nextTab 42 = .ok (.ireturn, 1) := by decide +kernel
theorem dX12_laysTabs_0 : decode cX12_laysTabs 0 = .ok (.iload_n 1, 1) := by decide +kernel
theorem dX12_laysTabs_1 : decode cX12_laysTabs 1 = .ok (.istore_n 2, 1) := by decide +kernel
theorem dX12_laysTabs_2 : decode cX12_laysTabs 2 = .ok (.iload_n 2, 1) := by decide +kernel
theorem dX12_laysTabs_3 : decode cX12_laysTabs 3 = .ok (.aload_n 0, 1) := by decide +kernel
theorem dX12_laysTabs_4 : decode cX12_laysTabs 4 = .ok (.getfield 13, 3) := by decide +kernel
theorem dX12_laysTabs_7 : decode cX12_laysTabs 7 = .ok (.if_icmp .ge 31, 3) := by decide +kernel
theorem dX12_laysTabs_10 : decode cX12_laysTabs 10 = .ok (.aload_n 0, 1) := by decide +kernel
theorem dX12_laysTabs_11 : decode cX12_laysTabs 11 = .ok (.dup, 1) := by decide +kernel
theorem dX12_laysTabs_12 : decode cX12_laysTabs 12 = .ok (.getfield 146, 3) := by decide +kernel
theorem dX12_laysTabs_15 : decode cX12_laysTabs 15 = .ok (.iload_n 2, 1) := by decide +kernel
theorem dX12_laysTabs_16 : decode cX12_laysTabs 16 = .ok (.iconst 4, 1) := by decide +kernel
theorem dX12_laysTabs_17 : decode cX12_laysTabs 17 = .ok (.irem, 1) := by decide +kernel
theorem dX12_laysTabs_18 : decode cX12_laysTabs 18 = .ok (.ifCond .ne 9, 3) := by decide +kernel
theorem dX12_laysTabs_21 : decode cX12_laysTabs 21 = .ok (.iconst 1, 1) := by decide +kernel
theorem dX12_laysTabs_22 : decode cX12_laysTabs 22 = .ok (.iload_n 2, 1) := by decide +kernel
theorem dX12_laysTabs_23 : decode cX12_laysTabs 23 = .ok (.ishl, 1) := by decide +kernel
theorem dX12_laysTabs_24 : decode cX12_laysTabs 24 = .ok (.goto 4, 3) := by decide +kernel
theorem dX12_laysTabs_27 : decode cX12_laysTabs 27 = .ok (.iconst 0, 1) := by decide +kernel
theorem dX12_laysTabs_28 : decode cX12_laysTabs 28 = .ok (.ior, 1) := by decide +kernel
theorem dX12_laysTabs_29 : decode cX12_laysTabs 29 = .ok (.putfield 146, 3) := by decide +kernel
theorem dX12_laysTabs_32 : decode cX12_laysTabs 32 = .ok (.iinc 2 1, 3) := by decide +kernel
theorem dX12_laysTabs_35 : decode cX12_laysTabs 35 = .ok (.goto (-33), 3) := by decide +kernel
theorem dX12_laysTabs_38 : decode cX12_laysTabs 38 = .ok (.return_, 1) := by decide +kernel
theorem dX12_saves_0 : decode cX12_saves 0 = .ok (.aload_n 0, 1) := by decide +kernel
theorem dX12_saves_1 : decode cX12_saves 1 = .ok (.iconst 1, 1) := by decide +kernel
theorem dX12_saves_2 : decode cX12_saves 2 = .ok (.putfield 149, 3) := by decide +kernel
theorem dX12_saves_5 : decode cX12_saves 5 = .ok (.aload_n 0, 1) := by decide +kernel
theorem dX12_saves_6 : decode cX12_saves 6 = .ok (.aload_n 0, 1) := by decide +kernel
theorem dX12_saves_7 : decode cX12_saves 7 = .ok (.getfield 113, 3) := by decide +kernel
theorem dX12_saves_10 : decode cX12_saves 10 = .ok (.putfield 152, 3) := by decide +kernel
theorem dX12_saves_13 : decode cX12_saves 13 = .ok (.aload_n 0, 1) := by decide +kernel
theorem dX12_saves_14 : decode cX12_saves 14 = .ok (.aload_n 0, 1) := by decide +kernel
theorem dX12_saves_15 : decode cX12_saves 15 = .ok (.getfield 123, 3) := by decide +kernel
theorem dX12_saves_18 : decode cX12_saves 18 = .ok (.putfield 155, 3) := by decide +kernel
theorem dX12_saves_21 : decode cX12_saves 21 = .ok (.aload_n 0, 1) := by decide +kernel
theorem dX12_saves_22 : decode cX12_saves 22 = .ok (.aload_n 0, 1) := by decide +kernel
theorem dX12_saves_23 : decode cX12_saves 23 = .ok (.getfield 126, 3) := by decide +kernel
theorem dX12_saves_26 : decode cX12_saves 26 = .ok (.putfield 158, 3) := by decide +kernel
theorem dX12_saves_29 : decode cX12_saves 29 = .ok (.aload_n 0, 1) := by decide +kernel
theorem dX12_saves_30 : decode cX12_saves 30 = .ok (.aload_n 0, 1) := by decide +kernel
theorem dX12_saves_31 : decode cX12_saves 31 = .ok (.getfield 142, 3) := by decide +kernel
theorem dX12_saves_34 : decode cX12_saves 34 = .ok (.putfield 161, 3) := by decide +kernel
theorem dX12_saves_37 : decode cX12_saves 37 = .ok (.aload_n 0, 1) := by decide +kernel
theorem dX12_saves_38 : decode cX12_saves 38 = .ok (.aload_n 0, 1) := by decide +kernel
theorem dX12_saves_39 : decode cX12_saves 39 = .ok (.getfield 164, 3) := by decide +kernel
theorem dX12_saves_42 : decode cX12_saves 42 = .ok (.putfield 167, 3) := by decide +kernel
theorem dX12_saves_45 : decode cX12_saves 45 = .ok (.return_, 1) := by decide +kernel
theorem dX12_lesser_0 : decode cX12_lesser 0 = .ok (.iload_n 0, 1) := by decide +kernel
theorem dX12_lesser_1 : decode cX12_lesser 1 = .ok (.iload_n 1, 1) := by decide +kernel
theorem dX12_lesser_2 : decode cX12_lesser 2 = .ok (.if_icmp .ge 7, 3) := by decide +kernel
theorem dX12_lesser_5 : decode cX12_lesser 5 = .ok (.iload_n 0, 1) := by decide +kernel
theorem dX12_lesser_6 : decode cX12_lesser 6 = .ok (.goto 4, 3) := by decide +kernel
theorem dX12_lesser_9 : decode cX12_lesser 9 = .ok (.iload_n 1, 1) := by decide +kernel
theorem dX12_lesser_10 : decode cX12_lesser 10 = .ok (.ireturn, 1) := by decide +kernel
theorem dX12_bringsBack_0 : decode cX12_bringsBack 0 = .ok (.aload_n 0, 1) := by decide +kernel
theorem dX12_bringsBack_1 : decode cX12_bringsBack 1 = .ok (.aload_n 0, 1) := by decide +kernel
theorem dX12_bringsBack_2 : decode cX12_bringsBack 2 = .ok (.getfield 149, 3) := by decide +kernel
theorem dX12_bringsBack_5 : decode cX12_bringsBack 5 = .ok (.ifCond .eq 19, 3) := by decide +kernel
theorem dX12_bringsBack_8 : decode cX12_bringsBack 8 = .ok (.aload_n 0, 1) := by decide +kernel
theorem dX12_bringsBack_9 : decode cX12_bringsBack 9 = .ok (.getfield 152, 3) := by decide +kernel
theorem dX12_bringsBack_12 : decode cX12_bringsBack 12 = .ok (.aload_n 0, 1) := by decide +kernel
theorem dX12_bringsBack_13 : decode cX12_bringsBack 13 = .ok (.getfield 7, 3) := by decide +kernel
theorem dX12_bringsBack_16 : decode cX12_bringsBack 16 = .ok (.iconst 1, 1) := by decide +kernel
theorem dX12_bringsBack_17 : decode cX12_bringsBack 17 = .ok (.isub, 1) := by decide +kernel
theorem dX12_bringsBack_18 : decode cX12_bringsBack 18 = .ok (.invokestatic 170, 3) := by decide +kernel
theorem dX12_bringsBack_21 : decode cX12_bringsBack 21 = .ok (.goto 4, 3) := by decide +kernel
theorem dX12_bringsBack_24 : decode cX12_bringsBack 24 = .ok (.iconst 0, 1) := by decide +kernel
theorem dX12_bringsBack_25 : decode cX12_bringsBack 25 = .ok (.putfield 113, 3) := by decide +kernel
theorem dX12_bringsBack_28 : decode cX12_bringsBack 28 = .ok (.aload_n 0, 1) := by decide +kernel
theorem dX12_bringsBack_29 : decode cX12_bringsBack 29 = .ok (.aload_n 0, 1) := by decide +kernel
theorem dX12_bringsBack_30 : decode cX12_bringsBack 30 = .ok (.getfield 149, 3) := by decide +kernel
theorem dX12_bringsBack_33 : decode cX12_bringsBack 33 = .ok (.ifCond .eq 19, 3) := by decide +kernel
theorem dX12_bringsBack_36 : decode cX12_bringsBack 36 = .ok (.aload_n 0, 1) := by decide +kernel
theorem dX12_bringsBack_37 : decode cX12_bringsBack 37 = .ok (.getfield 155, 3) := by decide +kernel
theorem dX12_bringsBack_40 : decode cX12_bringsBack 40 = .ok (.aload_n 0, 1) := by decide +kernel
theorem dX12_bringsBack_41 : decode cX12_bringsBack 41 = .ok (.getfield 13, 3) := by decide +kernel
theorem dX12_bringsBack_44 : decode cX12_bringsBack 44 = .ok (.iconst 1, 1) := by decide +kernel
theorem dX12_bringsBack_45 : decode cX12_bringsBack 45 = .ok (.isub, 1) := by decide +kernel
theorem dX12_bringsBack_46 : decode cX12_bringsBack 46 = .ok (.invokestatic 170, 3) := by decide +kernel
theorem dX12_bringsBack_49 : decode cX12_bringsBack 49 = .ok (.goto 4, 3) := by decide +kernel
theorem dX12_bringsBack_52 : decode cX12_bringsBack 52 = .ok (.iconst 0, 1) := by decide +kernel
theorem dX12_bringsBack_53 : decode cX12_bringsBack 53 = .ok (.putfield 123, 3) := by decide +kernel
theorem dX12_bringsBack_56 : decode cX12_bringsBack 56 = .ok (.aload_n 0, 1) := by decide +kernel
theorem dX12_bringsBack_57 : decode cX12_bringsBack 57 = .ok (.aload_n 0, 1) := by decide +kernel
theorem dX12_bringsBack_58 : decode cX12_bringsBack 58 = .ok (.getfield 149, 3) := by decide +kernel
theorem dX12_bringsBack_61 : decode cX12_bringsBack 61 = .ok (.ifCond .eq 34, 3) := by decide +kernel
theorem dX12_bringsBack_64 : decode cX12_bringsBack 64 = .ok (.aload_n 0, 1) := by decide +kernel
theorem dX12_bringsBack_65 : decode cX12_bringsBack 65 = .ok (.getfield 158, 3) := by decide +kernel
theorem dX12_bringsBack_68 : decode cX12_bringsBack 68 = .ok (.ifCond .eq 27, 3) := by decide +kernel
theorem dX12_bringsBack_71 : decode cX12_bringsBack 71 = .ok (.aload_n 0, 1) := by decide +kernel
theorem dX12_bringsBack_72 : decode cX12_bringsBack 72 = .ok (.getfield 123, 3) := by decide +kernel
theorem dX12_bringsBack_75 : decode cX12_bringsBack 75 = .ok (.aload_n 0, 1) := by decide +kernel
theorem dX12_bringsBack_76 : decode cX12_bringsBack 76 = .ok (.getfield 13, 3) := by decide +kernel
theorem dX12_bringsBack_79 : decode cX12_bringsBack 79 = .ok (.iconst 1, 1) := by decide +kernel
theorem dX12_bringsBack_80 : decode cX12_bringsBack 80 = .ok (.isub, 1) := by decide +kernel
theorem dX12_bringsBack_81 : decode cX12_bringsBack 81 = .ok (.if_icmp .ne 14, 3) := by decide +kernel
theorem dX12_bringsBack_84 : decode cX12_bringsBack 84 = .ok (.aload_n 0, 1) := by decide +kernel
theorem dX12_bringsBack_85 : decode cX12_bringsBack 85 = .ok (.getfield 33, 3) := by decide +kernel
theorem dX12_bringsBack_88 : decode cX12_bringsBack 88 = .ok (.ifCond .eq 7, 3) := by decide +kernel
theorem dX12_bringsBack_91 : decode cX12_bringsBack 91 = .ok (.iconst 1, 1) := by decide +kernel
theorem dX12_bringsBack_92 : decode cX12_bringsBack 92 = .ok (.goto 4, 3) := by decide +kernel
theorem dX12_bringsBack_95 : decode cX12_bringsBack 95 = .ok (.iconst 0, 1) := by decide +kernel
theorem dX12_bringsBack_96 : decode cX12_bringsBack 96 = .ok (.putfield 126, 3) := by decide +kernel
theorem dX12_bringsBack_99 : decode cX12_bringsBack 99 = .ok (.aload_n 0, 1) := by decide +kernel
theorem dX12_bringsBack_100 : decode cX12_bringsBack 100 = .ok (.aload_n 0, 1) := by decide +kernel
theorem dX12_bringsBack_101 : decode cX12_bringsBack 101 = .ok (.getfield 149, 3) := by decide +kernel
theorem dX12_bringsBack_104 : decode cX12_bringsBack 104 = .ok (.ifCond .eq 10, 3) := by decide +kernel
theorem dX12_bringsBack_107 : decode cX12_bringsBack 107 = .ok (.aload_n 0, 1) := by decide +kernel
theorem dX12_bringsBack_108 : decode cX12_bringsBack 108 = .ok (.getfield 161, 3) := by decide +kernel
theorem dX12_bringsBack_111 : decode cX12_bringsBack 111 = .ok (.goto 4, 3) := by decide +kernel
theorem dX12_bringsBack_114 : decode cX12_bringsBack 114 = .ok (.iconst 0, 1) := by decide +kernel
theorem dX12_bringsBack_115 : decode cX12_bringsBack 115 = .ok (.putfield 142, 3) := by decide +kernel
theorem dX12_bringsBack_118 : decode cX12_bringsBack 118 = .ok (.aload_n 0, 1) := by decide +kernel
theorem dX12_bringsBack_119 : decode cX12_bringsBack 119 = .ok (.aload_n 0, 1) := by decide +kernel
theorem dX12_bringsBack_120 : decode cX12_bringsBack 120 = .ok (.getfield 149, 3) := by decide +kernel
theorem dX12_bringsBack_123 : decode cX12_bringsBack 123 = .ok (.ifCond .eq 14, 3) := by decide +kernel
theorem dX12_bringsBack_126 : decode cX12_bringsBack 126 = .ok (.aload_n 0, 1) := by decide +kernel
theorem dX12_bringsBack_127 : decode cX12_bringsBack 127 = .ok (.getfield 167, 3) := by decide +kernel
theorem dX12_bringsBack_130 : decode cX12_bringsBack 130 = .ok (.ifCond .eq 7, 3) := by decide +kernel
theorem dX12_bringsBack_133 : decode cX12_bringsBack 133 = .ok (.iconst 1, 1) := by decide +kernel
theorem dX12_bringsBack_134 : decode cX12_bringsBack 134 = .ok (.goto 4, 3) := by decide +kernel
theorem dX12_bringsBack_137 : decode cX12_bringsBack 137 = .ok (.iconst 0, 1) := by decide +kernel
theorem dX12_bringsBack_138 : decode cX12_bringsBack 138 = .ok (.putfield 164, 3) := by decide +kernel
theorem dX12_bringsBack_141 : decode cX12_bringsBack 141 = .ok (.return_, 1) := by decide +kernel
theorem dX12_empties_0 : decode cX12_empties 0 = .ok (.iconst 0, 1) := by decide +kernel
theorem dX12_empties_1 : decode cX12_empties 1 = .ok (.istore_n 2, 1) := by decide +kernel
theorem dX12_empties_2 : decode cX12_empties 2 = .ok (.iload_n 2, 1) := by decide +kernel
theorem dX12_empties_3 : decode cX12_empties 3 = .ok (.sipush 288, 3) := by decide +kernel
theorem dX12_empties_6 : decode cX12_empties 6 = .ok (.if_icmp .ge 22, 3) := by decide +kernel
theorem dX12_empties_9 : decode cX12_empties 9 = .ok (.aload_n 0, 1) := by decide +kernel
theorem dX12_empties_10 : decode cX12_empties 10 = .ok (.getfield 16, 3) := by decide +kernel
theorem dX12_empties_13 : decode cX12_empties 13 = .ok (.sipush 288, 3) := by decide +kernel
theorem dX12_empties_16 : decode cX12_empties 16 = .ok (.iload_n 1, 1) := by decide +kernel
theorem dX12_empties_17 : decode cX12_empties 17 = .ok (.imul, 1) := by decide +kernel
theorem dX12_empties_18 : decode cX12_empties 18 = .ok (.iload_n 2, 1) := by decide +kernel
theorem dX12_empties_19 : decode cX12_empties 19 = .ok (.iadd, 1) := by decide +kernel
theorem dX12_empties_20 : decode cX12_empties 20 = .ok (.iconst 0, 1) := by decide +kernel
theorem dX12_empties_21 : decode cX12_empties 21 = .ok (.iastore, 1) := by decide +kernel
theorem dX12_empties_22 : decode cX12_empties 22 = .ok (.iinc 2 1, 3) := by decide +kernel
theorem dX12_empties_25 : decode cX12_empties 25 = .ok (.goto (-23), 3) := by decide +kernel
theorem dX12_empties_28 : decode cX12_empties 28 = .ok (.iconst 0, 1) := by decide +kernel
theorem dX12_empties_29 : decode cX12_empties 29 = .ok (.istore_n 2, 1) := by decide +kernel
theorem dX12_empties_30 : decode cX12_empties 30 = .ok (.iload_n 2, 1) := by decide +kernel
theorem dX12_empties_31 : decode cX12_empties 31 = .ok (.bipush 12, 2) := by decide +kernel
theorem dX12_empties_33 : decode cX12_empties 33 = .ok (.if_icmp .ge 21, 3) := by decide +kernel
theorem dX12_empties_36 : decode cX12_empties 36 = .ok (.aload_n 0, 1) := by decide +kernel
theorem dX12_empties_37 : decode cX12_empties 37 = .ok (.getfield 20, 3) := by decide +kernel
theorem dX12_empties_40 : decode cX12_empties 40 = .ok (.bipush 12, 2) := by decide +kernel
theorem dX12_empties_42 : decode cX12_empties 42 = .ok (.iload_n 1, 1) := by decide +kernel
theorem dX12_empties_43 : decode cX12_empties 43 = .ok (.imul, 1) := by decide +kernel
theorem dX12_empties_44 : decode cX12_empties 44 = .ok (.iload_n 2, 1) := by decide +kernel
theorem dX12_empties_45 : decode cX12_empties 45 = .ok (.iadd, 1) := by decide +kernel
theorem dX12_empties_46 : decode cX12_empties 46 = .ok (.iconst 0, 1) := by decide +kernel
theorem dX12_empties_47 : decode cX12_empties 47 = .ok (.bastore, 1) := by decide +kernel
theorem dX12_empties_48 : decode cX12_empties 48 = .ok (.iinc 2 1, 3) := by decide +kernel
theorem dX12_empties_51 : decode cX12_empties 51 = .ok (.goto (-21), 3) := by decide +kernel
theorem dX12_empties_54 : decode cX12_empties 54 = .ok (.return_, 1) := by decide +kernel
theorem dX12_resets_0 : decode cX12_resets 0 = .ok (.aload_n 0, 1) := by decide +kernel
theorem dX12_resets_1 : decode cX12_resets 1 = .ok (.iconst 0, 1) := by decide +kernel
theorem dX12_resets_2 : decode cX12_resets 2 = .ok (.putfield 87, 3) := by decide +kernel
theorem dX12_resets_5 : decode cX12_resets 5 = .ok (.aload_n 0, 1) := by decide +kernel
theorem dX12_resets_6 : decode cX12_resets 6 = .ok (.iconst 0, 1) := by decide +kernel
theorem dX12_resets_7 : decode cX12_resets 7 = .ok (.invokevirtual 173, 3) := by decide +kernel
theorem dX12_resets_10 : decode cX12_resets 10 = .ok (.aload_n 0, 1) := by decide +kernel
theorem dX12_resets_11 : decode cX12_resets 11 = .ok (.iconst 1, 1) := by decide +kernel
theorem dX12_resets_12 : decode cX12_resets 12 = .ok (.invokevirtual 173, 3) := by decide +kernel
theorem dX12_resets_15 : decode cX12_resets 15 = .ok (.aload_n 0, 1) := by decide +kernel
theorem dX12_resets_16 : decode cX12_resets 16 = .ok (.iconst 0, 1) := by decide +kernel
theorem dX12_resets_17 : decode cX12_resets 17 = .ok (.putfield 113, 3) := by decide +kernel
theorem dX12_resets_20 : decode cX12_resets 20 = .ok (.aload_n 0, 1) := by decide +kernel
theorem dX12_resets_21 : decode cX12_resets 21 = .ok (.iconst 0, 1) := by decide +kernel
theorem dX12_resets_22 : decode cX12_resets 22 = .ok (.putfield 123, 3) := by decide +kernel
theorem dX12_resets_25 : decode cX12_resets 25 = .ok (.aload_n 0, 1) := by decide +kernel
theorem dX12_resets_26 : decode cX12_resets 26 = .ok (.iconst 0, 1) := by decide +kernel
theorem dX12_resets_27 : decode cX12_resets 27 = .ok (.putfield 126, 3) := by decide +kernel
theorem dX12_resets_30 : decode cX12_resets 30 = .ok (.aload_n 0, 1) := by decide +kernel
theorem dX12_resets_31 : decode cX12_resets 31 = .ok (.iconst 0, 1) := by decide +kernel
theorem dX12_resets_32 : decode cX12_resets 32 = .ok (.putfield 149, 3) := by decide +kernel
theorem dX12_resets_35 : decode cX12_resets 35 = .ok (.aload_n 0, 1) := by decide +kernel
theorem dX12_resets_36 : decode cX12_resets 36 = .ok (.iconst 0, 1) := by decide +kernel
theorem dX12_resets_37 : decode cX12_resets 37 = .ok (.putfield 142, 3) := by decide +kernel
theorem dX12_resets_40 : decode cX12_resets 40 = .ok (.aload_n 0, 1) := by decide +kernel
theorem dX12_resets_41 : decode cX12_resets 41 = .ok (.iconst 0, 1) := by decide +kernel
theorem dX12_resets_42 : decode cX12_resets 42 = .ok (.putfield 116, 3) := by decide +kernel
theorem dX12_resets_45 : decode cX12_resets 45 = .ok (.aload_n 0, 1) := by decide +kernel
theorem dX12_resets_46 : decode cX12_resets 46 = .ok (.aload_n 0, 1) := by decide +kernel
theorem dX12_resets_47 : decode cX12_resets 47 = .ok (.getfield 7, 3) := by decide +kernel
theorem dX12_resets_50 : decode cX12_resets 50 = .ok (.iconst 1, 1) := by decide +kernel
theorem dX12_resets_51 : decode cX12_resets 51 = .ok (.isub, 1) := by decide +kernel
theorem dX12_resets_52 : decode cX12_resets 52 = .ok (.putfield 30, 3) := by decide +kernel
theorem dX12_resets_55 : decode cX12_resets 55 = .ok (.aload_n 0, 1) := by decide +kernel
theorem dX12_resets_56 : decode cX12_resets 56 = .ok (.iconst 0, 1) := by decide +kernel
theorem dX12_resets_57 : decode cX12_resets 57 = .ok (.putfield 176, 3) := by decide +kernel
theorem dX12_resets_60 : decode cX12_resets 60 = .ok (.aload_n 0, 1) := by decide +kernel
theorem dX12_resets_61 : decode cX12_resets 61 = .ok (.iconst 0, 1) := by decide +kernel
theorem dX12_resets_62 : decode cX12_resets 62 = .ok (.putfield 164, 3) := by decide +kernel
theorem dX12_resets_65 : decode cX12_resets 65 = .ok (.aload_n 0, 1) := by decide +kernel
theorem dX12_resets_66 : decode cX12_resets 66 = .ok (.iconst 1, 1) := by decide +kernel
theorem dX12_resets_67 : decode cX12_resets 67 = .ok (.putfield 33, 3) := by decide +kernel
theorem dX12_resets_70 : decode cX12_resets 70 = .ok (.aload_n 0, 1) := by decide +kernel
theorem dX12_resets_71 : decode cX12_resets 71 = .ok (.iconst 1, 1) := by decide +kernel
theorem dX12_resets_72 : decode cX12_resets 72 = .ok (.putfield 37, 3) := by decide +kernel
theorem dX12_resets_75 : decode cX12_resets 75 = .ok (.aload_n 0, 1) := by decide +kernel
theorem dX12_resets_76 : decode cX12_resets 76 = .ok (.iconst 0, 1) := by decide +kernel
theorem dX12_resets_77 : decode cX12_resets 77 = .ok (.putfield 179, 3) := by decide +kernel
theorem dX12_resets_80 : decode cX12_resets 80 = .ok (.aload_n 0, 1) := by decide +kernel
theorem dX12_resets_81 : decode cX12_resets 81 = .ok (.iconst 0, 1) := by decide +kernel
theorem dX12_resets_82 : decode cX12_resets 82 = .ok (.putfield 182, 3) := by decide +kernel
theorem dX12_resets_85 : decode cX12_resets 85 = .ok (.aload_n 0, 1) := by decide +kernel
theorem dX12_resets_86 : decode cX12_resets 86 = .ok (.iconst 0, 1) := by decide +kernel
theorem dX12_resets_87 : decode cX12_resets 87 = .ok (.putfield 136, 3) := by decide +kernel
theorem dX12_resets_90 : decode cX12_resets 90 = .ok (.aload_n 0, 1) := by decide +kernel
theorem dX12_resets_91 : decode cX12_resets 91 = .ok (.iconst 0, 1) := by decide +kernel
theorem dX12_resets_92 : decode cX12_resets 92 = .ok (.putfield 146, 3) := by decide +kernel
theorem dX12_resets_95 : decode cX12_resets 95 = .ok (.aload_n 0, 1) := by decide +kernel
theorem dX12_resets_96 : decode cX12_resets 96 = .ok (.iconst 0, 1) := by decide +kernel
theorem dX12_resets_97 : decode cX12_resets 97 = .ok (.invokevirtual 76, 3) := by decide +kernel
theorem dX12_resets_100 : decode cX12_resets 100 = .ok (.aload_n 0, 1) := by decide +kernel
theorem dX12_resets_101 : decode cX12_resets 101 = .ok (.getfield 98, 3) := by decide +kernel
theorem dX12_resets_104 : decode cX12_resets 104 = .ok (.ifCond .le 15, 3) := by decide +kernel
theorem dX12_resets_107 : decode cX12_resets 107 = .ok (.aload_n 0, 1) := by decide +kernel
theorem dX12_resets_108 : decode cX12_resets 108 = .ok (.getfield 27, 3) := by decide +kernel
theorem dX12_resets_111 : decode cX12_resets 111 = .ok (.aload_n 0, 1) := by decide +kernel
theorem dX12_resets_112 : decode cX12_resets 112 = .ok (.getfield 98, 3) := by decide +kernel
theorem dX12_resets_115 : decode cX12_resets 115 = .ok (.iconst 1, 1) := by decide +kernel
theorem dX12_resets_116 : decode cX12_resets 116 = .ok (.isub, 1) := by decide +kernel
theorem dX12_resets_117 : decode cX12_resets 117 = .ok (.iconst 0, 1) := by decide +kernel
theorem dX12_resets_118 : decode cX12_resets 118 = .ok (.bastore, 1) := by decide +kernel
theorem dX12_resets_119 : decode cX12_resets 119 = .ok (.return_, 1) := by decide +kernel
theorem dX12_controls_0 : decode cX12_controls 0 = .ok (.iload_n 1, 1) := by decide +kernel
theorem dX12_controls_1 : decode cX12_controls 1 = .ok (.tableswitch 215 7 27 #[99, 112, 141, 174, 215, 215, 186, 215, 215, 215, 215, 215, 215, 215, 215, 215, 215, 199, 215, 215, 207], 99) := by decide +kernel
theorem dX12_controls_100 : decode cX12_controls 100 = .ok (.aload_n 0, 1) := by decide +kernel
theorem dX12_controls_101 : decode cX12_controls 101 = .ok (.dup, 1) := by decide +kernel
theorem dX12_controls_102 : decode cX12_controls 102 = .ok (.getfield 185, 3) := by decide +kernel
theorem dX12_controls_105 : decode cX12_controls 105 = .ok (.iconst 1, 1) := by decide +kernel
theorem dX12_controls_106 : decode cX12_controls 106 = .ok (.iadd, 1) := by decide +kernel
theorem dX12_controls_107 : decode cX12_controls 107 = .ok (.putfield 185, 3) := by decide +kernel
theorem dX12_controls_110 : decode cX12_controls 110 = .ok (.goto 106, 3) := by decide +kernel
theorem dX12_controls_113 : decode cX12_controls 113 = .ok (.aload_n 0, 1) := by decide +kernel
theorem dX12_controls_114 : decode cX12_controls 114 = .ok (.dup, 1) := by decide +kernel
theorem dX12_controls_115 : decode cX12_controls 115 = .ok (.getfield 123, 3) := by decide +kernel
theorem dX12_controls_118 : decode cX12_controls 118 = .ok (.aload_n 0, 1) := by decide +kernel
theorem dX12_controls_119 : decode cX12_controls 119 = .ok (.getfield 123, 3) := by decide +kernel
theorem dX12_controls_122 : decode cX12_controls 122 = .ok (.ifCond .le 7, 3) := by decide +kernel
theorem dX12_controls_125 : decode cX12_controls 125 = .ok (.iconst 1, 1) := by decide +kernel
theorem dX12_controls_126 : decode cX12_controls 126 = .ok (.goto 4, 3) := by decide +kernel
theorem dX12_controls_129 : decode cX12_controls 129 = .ok (.iconst 0, 1) := by decide +kernel
theorem dX12_controls_130 : decode cX12_controls 130 = .ok (.isub, 1) := by decide +kernel
theorem dX12_controls_131 : decode cX12_controls 131 = .ok (.putfield 123, 3) := by decide +kernel
theorem dX12_controls_134 : decode cX12_controls 134 = .ok (.aload_n 0, 1) := by decide +kernel
theorem dX12_controls_135 : decode cX12_controls 135 = .ok (.iconst 0, 1) := by decide +kernel
theorem dX12_controls_136 : decode cX12_controls 136 = .ok (.putfield 126, 3) := by decide +kernel
theorem dX12_controls_139 : decode cX12_controls 139 = .ok (.goto 77, 3) := by decide +kernel
theorem dX12_controls_142 : decode cX12_controls 142 = .ok (.aload_n 0, 1) := by decide +kernel
theorem dX12_controls_143 : decode cX12_controls 143 = .ok (.aload_n 0, 1) := by decide +kernel
theorem dX12_controls_144 : decode cX12_controls 144 = .ok (.invokevirtual 188, 3) := by decide +kernel
theorem dX12_controls_147 : decode cX12_controls 147 = .ok (.iconst (-1), 1) := by decide +kernel
theorem dX12_controls_148 : decode cX12_controls 148 = .ok (.if_icmp .ne 12, 3) := by decide +kernel
theorem dX12_controls_151 : decode cX12_controls 151 = .ok (.aload_n 0, 1) := by decide +kernel
theorem dX12_controls_152 : decode cX12_controls 152 = .ok (.getfield 13, 3) := by decide +kernel
theorem dX12_controls_155 : decode cX12_controls 155 = .ok (.iconst 1, 1) := by decide +kernel
theorem dX12_controls_156 : decode cX12_controls 156 = .ok (.isub, 1) := by decide +kernel
theorem dX12_controls_157 : decode cX12_controls 157 = .ok (.goto 7, 3) := by decide +kernel
theorem dX12_controls_160 : decode cX12_controls 160 = .ok (.aload_n 0, 1) := by decide +kernel
theorem dX12_controls_161 : decode cX12_controls 161 = .ok (.invokevirtual 188, 3) := by decide +kernel
theorem dX12_controls_164 : decode cX12_controls 164 = .ok (.putfield 123, 3) := by decide +kernel
theorem dX12_controls_167 : decode cX12_controls 167 = .ok (.aload_n 0, 1) := by decide +kernel
theorem dX12_controls_168 : decode cX12_controls 168 = .ok (.iconst 0, 1) := by decide +kernel
theorem dX12_controls_169 : decode cX12_controls 169 = .ok (.putfield 126, 3) := by decide +kernel
theorem dX12_controls_172 : decode cX12_controls 172 = .ok (.goto 44, 3) := by decide +kernel
theorem dX12_controls_175 : decode cX12_controls 175 = .ok (.aload_n 0, 1) := by decide +kernel
theorem dX12_controls_176 : decode cX12_controls 176 = .ok (.invokevirtual 133, 3) := by decide +kernel
theorem dX12_controls_179 : decode cX12_controls 179 = .ok (.aload_n 0, 1) := by decide +kernel
theorem dX12_controls_180 : decode cX12_controls 180 = .ok (.iconst 0, 1) := by decide +kernel
theorem dX12_controls_181 : decode cX12_controls 181 = .ok (.putfield 126, 3) := by decide +kernel
theorem dX12_controls_184 : decode cX12_controls 184 = .ok (.goto 32, 3) := by decide +kernel
theorem dX12_controls_187 : decode cX12_controls 187 = .ok (.aload_n 0, 1) := by decide +kernel
theorem dX12_controls_188 : decode cX12_controls 188 = .ok (.iconst 0, 1) := by decide +kernel
theorem dX12_controls_189 : decode cX12_controls 189 = .ok (.putfield 123, 3) := by decide +kernel
theorem dX12_controls_192 : decode cX12_controls 192 = .ok (.aload_n 0, 1) := by decide +kernel
theorem dX12_controls_193 : decode cX12_controls 193 = .ok (.iconst 0, 1) := by decide +kernel
theorem dX12_controls_194 : decode cX12_controls 194 = .ok (.putfield 126, 3) := by decide +kernel
theorem dX12_controls_197 : decode cX12_controls 197 = .ok (.goto 19, 3) := by decide +kernel
theorem dX12_controls_200 : decode cX12_controls 200 = .ok (.aload_n 0, 1) := by decide +kernel
theorem dX12_controls_201 : decode cX12_controls 201 = .ok (.iconst 0, 1) := by decide +kernel
theorem dX12_controls_202 : decode cX12_controls 202 = .ok (.putfield 192, 3) := by decide +kernel
theorem dX12_controls_205 : decode cX12_controls 205 = .ok (.goto 11, 3) := by decide +kernel
theorem dX12_controls_208 : decode cX12_controls 208 = .ok (.aload_n 0, 1) := by decide +kernel
theorem dX12_controls_209 : decode cX12_controls 209 = .ok (.iconst 1, 1) := by decide +kernel
theorem dX12_controls_210 : decode cX12_controls 210 = .ok (.putfield 192, 3) := by decide +kernel
theorem dX12_controls_213 : decode cX12_controls 213 = .ok (.goto 3, 3) := by decide +kernel
theorem dX12_controls_216 : decode cX12_controls 216 = .ok (.return_, 1) := by decide +kernel
theorem dX12_escapes_0 : decode cX12_escapes 0 = .ok (.aload_n 0, 1) := by decide +kernel
theorem dX12_escapes_1 : decode cX12_escapes 1 = .ok (.iconst 0, 1) := by decide +kernel
theorem dX12_escapes_2 : decode cX12_escapes 2 = .ok (.putfield 192, 3) := by decide +kernel
theorem dX12_escapes_5 : decode cX12_escapes 5 = .ok (.iload_n 1, 1) := by decide +kernel
theorem dX12_escapes_6 : decode cX12_escapes 6 = .ok (.lookupswitch 253 #[(55, 130), (56, 137), (68, 144), (69, 156), (72, 228), (77, 173), (91, 82), (93, 117), (99, 246)], 82) := by decide +kernel
theorem dX12_escapes_88 : decode cX12_escapes 88 = .ok (.aload_n 0, 1) := by decide +kernel
theorem dX12_escapes_89 : decode cX12_escapes 89 = .ok (.iconst 2, 1) := by decide +kernel
theorem dX12_escapes_90 : decode cX12_escapes 90 = .ok (.putfield 192, 3) := by decide +kernel
theorem dX12_escapes_93 : decode cX12_escapes 93 = .ok (.aload_n 0, 1) := by decide +kernel
theorem dX12_escapes_94 : decode cX12_escapes 94 = .ok (.getfield 40, 3) := by decide +kernel
theorem dX12_escapes_97 : decode cX12_escapes 97 = .ok (.iconst 0, 1) := by decide +kernel
theorem dX12_escapes_98 : decode cX12_escapes 98 = .ok (.iconst 0, 1) := by decide +kernel
theorem dX12_escapes_99 : decode cX12_escapes 99 = .ok (.iastore, 1) := by decide +kernel
theorem dX12_escapes_100 : decode cX12_escapes 100 = .ok (.aload_n 0, 1) := by decide +kernel
theorem dX12_escapes_101 : decode cX12_escapes 101 = .ok (.iconst 1, 1) := by decide +kernel
theorem dX12_escapes_102 : decode cX12_escapes 102 = .ok (.putfield 195, 3) := by decide +kernel
theorem dX12_escapes_105 : decode cX12_escapes 105 = .ok (.aload_n 0, 1) := by decide +kernel
theorem dX12_escapes_106 : decode cX12_escapes 106 = .ok (.iconst 1, 1) := by decide +kernel
theorem dX12_escapes_107 : decode cX12_escapes 107 = .ok (.putfield 198, 3) := by decide +kernel
theorem dX12_escapes_110 : decode cX12_escapes 110 = .ok (.aload_n 0, 1) := by decide +kernel
theorem dX12_escapes_111 : decode cX12_escapes 111 = .ok (.iconst 0, 1) := by decide +kernel
theorem dX12_escapes_112 : decode cX12_escapes 112 = .ok (.putfield 201, 3) := by decide +kernel
theorem dX12_escapes_115 : decode cX12_escapes 115 = .ok (.aload_n 0, 1) := by decide +kernel
theorem dX12_escapes_116 : decode cX12_escapes 116 = .ok (.iconst 0, 1) := by decide +kernel
theorem dX12_escapes_117 : decode cX12_escapes 117 = .ok (.putfield 204, 3) := by decide +kernel
theorem dX12_escapes_120 : decode cX12_escapes 120 = .ok (.goto 139, 3) := by decide +kernel
theorem dX12_escapes_123 : decode cX12_escapes 123 = .ok (.aload_n 0, 1) := by decide +kernel
theorem dX12_escapes_124 : decode cX12_escapes 124 = .ok (.iconst 3, 1) := by decide +kernel
theorem dX12_escapes_125 : decode cX12_escapes 125 = .ok (.putfield 192, 3) := by decide +kernel
theorem dX12_escapes_128 : decode cX12_escapes 128 = .ok (.aload_n 0, 1) := by decide +kernel
theorem dX12_escapes_129 : decode cX12_escapes 129 = .ok (.iconst 0, 1) := by decide +kernel
theorem dX12_escapes_130 : decode cX12_escapes 130 = .ok (.putfield 207, 3) := by decide +kernel
theorem dX12_escapes_133 : decode cX12_escapes 133 = .ok (.goto 126, 3) := by decide +kernel
theorem dX12_escapes_136 : decode cX12_escapes 136 = .ok (.aload_n 0, 1) := by decide +kernel
theorem dX12_escapes_137 : decode cX12_escapes 137 = .ok (.invokevirtual 210, 3) := by decide +kernel
theorem dX12_escapes_140 : decode cX12_escapes 140 = .ok (.goto 119, 3) := by decide +kernel
theorem dX12_escapes_143 : decode cX12_escapes 143 = .ok (.aload_n 0, 1) := by decide +kernel
theorem dX12_escapes_144 : decode cX12_escapes 144 = .ok (.invokevirtual 213, 3) := by decide +kernel
theorem dX12_escapes_147 : decode cX12_escapes 147 = .ok (.goto 112, 3) := by decide +kernel
theorem dX12_escapes_150 : decode cX12_escapes 150 = .ok (.aload_n 0, 1) := by decide +kernel
theorem dX12_escapes_151 : decode cX12_escapes 151 = .ok (.invokevirtual 133, 3) := by decide +kernel
theorem dX12_escapes_154 : decode cX12_escapes 154 = .ok (.aload_n 0, 1) := by decide +kernel
theorem dX12_escapes_155 : decode cX12_escapes 155 = .ok (.iconst 0, 1) := by decide +kernel
theorem dX12_escapes_156 : decode cX12_escapes 156 = .ok (.putfield 126, 3) := by decide +kernel
theorem dX12_escapes_159 : decode cX12_escapes 159 = .ok (.goto 100, 3) := by decide +kernel
theorem dX12_escapes_162 : decode cX12_escapes 162 = .ok (.aload_n 0, 1) := by decide +kernel
theorem dX12_escapes_163 : decode cX12_escapes 163 = .ok (.invokevirtual 133, 3) := by decide +kernel
theorem dX12_escapes_166 : decode cX12_escapes 166 = .ok (.aload_n 0, 1) := by decide +kernel
theorem dX12_escapes_167 : decode cX12_escapes 167 = .ok (.iconst 0, 1) := by decide +kernel
theorem dX12_escapes_168 : decode cX12_escapes 168 = .ok (.putfield 123, 3) := by decide +kernel
theorem dX12_escapes_171 : decode cX12_escapes 171 = .ok (.aload_n 0, 1) := by decide +kernel
theorem dX12_escapes_172 : decode cX12_escapes 172 = .ok (.iconst 0, 1) := by decide +kernel
theorem dX12_escapes_173 : decode cX12_escapes 173 = .ok (.putfield 126, 3) := by decide +kernel
theorem dX12_escapes_176 : decode cX12_escapes 176 = .ok (.goto 83, 3) := by decide +kernel
theorem dX12_escapes_179 : decode cX12_escapes 179 = .ok (.aload_n 0, 1) := by decide +kernel
theorem dX12_escapes_180 : decode cX12_escapes 180 = .ok (.getfield 113, 3) := by decide +kernel
theorem dX12_escapes_183 : decode cX12_escapes 183 = .ok (.aload_n 0, 1) := by decide +kernel
theorem dX12_escapes_184 : decode cX12_escapes 184 = .ok (.getfield 116, 3) := by decide +kernel
theorem dX12_escapes_187 : decode cX12_escapes 187 = .ok (.if_icmp .ne 18, 3) := by decide +kernel
theorem dX12_escapes_190 : decode cX12_escapes 190 = .ok (.aload_n 0, 1) := by decide +kernel
theorem dX12_escapes_191 : decode cX12_escapes 191 = .ok (.aload_n 0, 1) := by decide +kernel
theorem dX12_escapes_192 : decode cX12_escapes 192 = .ok (.getfield 116, 3) := by decide +kernel
theorem dX12_escapes_195 : decode cX12_escapes 195 = .ok (.aload_n 0, 1) := by decide +kernel
theorem dX12_escapes_196 : decode cX12_escapes 196 = .ok (.getfield 30, 3) := by decide +kernel
theorem dX12_escapes_199 : decode cX12_escapes 199 = .ok (.invokevirtual 216, 3) := by decide +kernel
theorem dX12_escapes_202 : decode cX12_escapes 202 = .ok (.goto 24, 3) := by decide +kernel
theorem dX12_escapes_205 : decode cX12_escapes 205 = .ok (.aload_n 0, 1) := by decide +kernel
theorem dX12_escapes_206 : decode cX12_escapes 206 = .ok (.dup, 1) := by decide +kernel
theorem dX12_escapes_207 : decode cX12_escapes 207 = .ok (.getfield 113, 3) := by decide +kernel
theorem dX12_escapes_210 : decode cX12_escapes 210 = .ok (.aload_n 0, 1) := by decide +kernel
theorem dX12_escapes_211 : decode cX12_escapes 211 = .ok (.getfield 113, 3) := by decide +kernel
theorem dX12_escapes_214 : decode cX12_escapes 214 = .ok (.ifCond .le 7, 3) := by decide +kernel
theorem dX12_escapes_217 : decode cX12_escapes 217 = .ok (.iconst 1, 1) := by decide +kernel
theorem dX12_escapes_218 : decode cX12_escapes 218 = .ok (.goto 4, 3) := by decide +kernel
theorem dX12_escapes_221 : decode cX12_escapes 221 = .ok (.iconst 0, 1) := by decide +kernel
theorem dX12_escapes_222 : decode cX12_escapes 222 = .ok (.isub, 1) := by decide +kernel
theorem dX12_escapes_223 : decode cX12_escapes 223 = .ok (.putfield 113, 3) := by decide +kernel
theorem dX12_escapes_226 : decode cX12_escapes 226 = .ok (.aload_n 0, 1) := by decide +kernel
theorem dX12_escapes_227 : decode cX12_escapes 227 = .ok (.iconst 0, 1) := by decide +kernel
theorem dX12_escapes_228 : decode cX12_escapes 228 = .ok (.putfield 126, 3) := by decide +kernel
theorem dX12_escapes_231 : decode cX12_escapes 231 = .ok (.goto 28, 3) := by decide +kernel
theorem dX12_escapes_234 : decode cX12_escapes 234 = .ok (.aload_n 0, 1) := by decide +kernel
theorem dX12_escapes_235 : decode cX12_escapes 235 = .ok (.dup, 1) := by decide +kernel
theorem dX12_escapes_236 : decode cX12_escapes 236 = .ok (.getfield 146, 3) := by decide +kernel
theorem dX12_escapes_239 : decode cX12_escapes 239 = .ok (.iconst 1, 1) := by decide +kernel
theorem dX12_escapes_240 : decode cX12_escapes 240 = .ok (.aload_n 0, 1) := by decide +kernel
theorem dX12_escapes_241 : decode cX12_escapes 241 = .ok (.getfield 123, 3) := by decide +kernel
theorem dX12_escapes_244 : decode cX12_escapes 244 = .ok (.ishl, 1) := by decide +kernel
theorem dX12_escapes_245 : decode cX12_escapes 245 = .ok (.ior, 1) := by decide +kernel
theorem dX12_escapes_246 : decode cX12_escapes 246 = .ok (.putfield 146, 3) := by decide +kernel
theorem dX12_escapes_249 : decode cX12_escapes 249 = .ok (.goto 10, 3) := by decide +kernel
theorem dX12_escapes_252 : decode cX12_escapes 252 = .ok (.aload_n 0, 1) := by decide +kernel
theorem dX12_escapes_253 : decode cX12_escapes 253 = .ok (.invokevirtual 219, 3) := by decide +kernel
theorem dX12_escapes_256 : decode cX12_escapes 256 = .ok (.goto 3, 3) := by decide +kernel
theorem dX12_escapes_259 : decode cX12_escapes 259 = .ok (.return_, 1) := by decide +kernel
theorem dX12_codes_0 : decode cX12_codes 0 = .ok (.iload_n 1, 1) := by decide +kernel
theorem dX12_codes_1 : decode cX12_codes 1 = .ok (.bipush 48, 2) := by decide +kernel
theorem dX12_codes_3 : decode cX12_codes 3 = .ok (.bipush 57, 2) := by decide +kernel
theorem dX12_codes_5 : decode cX12_codes 5 = .ok (.invokestatic 83, 3) := by decide +kernel
theorem dX12_codes_8 : decode cX12_codes 8 = .ok (.ifCond .eq 59, 3) := by decide +kernel
theorem dX12_codes_11 : decode cX12_codes 11 = .ok (.aload_n 0, 1) := by decide +kernel
theorem dX12_codes_12 : decode cX12_codes 12 = .ok (.getfield 195, 3) := by decide +kernel
theorem dX12_codes_15 : decode cX12_codes 15 = .ok (.iconst 4, 1) := by decide +kernel
theorem dX12_codes_16 : decode cX12_codes 16 = .ok (.if_icmp .gt 197, 3) := by decide +kernel
theorem dX12_codes_19 : decode cX12_codes 19 = .ok (.bipush 10, 2) := by decide +kernel
theorem dX12_codes_21 : decode cX12_codes 21 = .ok (.aload_n 0, 1) := by decide +kernel
theorem dX12_codes_22 : decode cX12_codes 22 = .ok (.getfield 40, 3) := by decide +kernel
theorem dX12_codes_25 : decode cX12_codes 25 = .ok (.aload_n 0, 1) := by decide +kernel
theorem dX12_codes_26 : decode cX12_codes 26 = .ok (.getfield 195, 3) := by decide +kernel
theorem dX12_codes_29 : decode cX12_codes 29 = .ok (.iconst 1, 1) := by decide +kernel
theorem dX12_codes_30 : decode cX12_codes 30 = .ok (.isub, 1) := by decide +kernel
theorem dX12_codes_31 : decode cX12_codes 31 = .ok (.iaload, 1) := by decide +kernel
theorem dX12_codes_32 : decode cX12_codes 32 = .ok (.imul, 1) := by decide +kernel
theorem dX12_codes_33 : decode cX12_codes 33 = .ok (.iload_n 1, 1) := by decide +kernel
theorem dX12_codes_34 : decode cX12_codes 34 = .ok (.iadd, 1) := by decide +kernel
theorem dX12_codes_35 : decode cX12_codes 35 = .ok (.bipush 48, 2) := by decide +kernel
theorem dX12_codes_37 : decode cX12_codes 37 = .ok (.isub, 1) := by decide +kernel
theorem dX12_codes_38 : decode cX12_codes 38 = .ok (.istore_n 2, 1) := by decide +kernel
theorem dX12_codes_39 : decode cX12_codes 39 = .ok (.aload_n 0, 1) := by decide +kernel
theorem dX12_codes_40 : decode cX12_codes 40 = .ok (.getfield 40, 3) := by decide +kernel
theorem dX12_codes_43 : decode cX12_codes 43 = .ok (.aload_n 0, 1) := by decide +kernel
theorem dX12_codes_44 : decode cX12_codes 44 = .ok (.getfield 195, 3) := by decide +kernel
theorem dX12_codes_47 : decode cX12_codes 47 = .ok (.iconst 1, 1) := by decide +kernel
theorem dX12_codes_48 : decode cX12_codes 48 = .ok (.isub, 1) := by decide +kernel
theorem dX12_codes_49 : decode cX12_codes 49 = .ok (.iload_n 2, 1) := by decide +kernel
theorem dX12_codes_50 : decode cX12_codes 50 = .ok (.sipush 999, 3) := by decide +kernel
theorem dX12_codes_53 : decode cX12_codes 53 = .ok (.if_icmp .le 9, 3) := by decide +kernel
theorem dX12_codes_56 : decode cX12_codes 56 = .ok (.sipush 999, 3) := by decide +kernel
theorem dX12_codes_59 : decode cX12_codes 59 = .ok (.goto 4, 3) := by decide +kernel
theorem dX12_codes_62 : decode cX12_codes 62 = .ok (.iload_n 2, 1) := by decide +kernel
theorem dX12_codes_63 : decode cX12_codes 63 = .ok (.iastore, 1) := by decide +kernel
theorem dX12_codes_64 : decode cX12_codes 64 = .ok (.goto 149, 3) := by decide +kernel
theorem dX12_codes_67 : decode cX12_codes 67 = .ok (.iload_n 1, 1) := by decide +kernel
theorem dX12_codes_68 : decode cX12_codes 68 = .ok (.bipush 59, 2) := by decide +kernel
theorem dX12_codes_70 : decode cX12_codes 70 = .ok (.if_icmp .ne 48, 3) := by decide +kernel
theorem dX12_codes_73 : decode cX12_codes 73 = .ok (.aload_n 0, 1) := by decide +kernel
theorem dX12_codes_74 : decode cX12_codes 74 = .ok (.dup, 1) := by decide +kernel
theorem dX12_codes_75 : decode cX12_codes 75 = .ok (.getfield 195, 3) := by decide +kernel
theorem dX12_codes_78 : decode cX12_codes 78 = .ok (.aload_n 0, 1) := by decide +kernel
theorem dX12_codes_79 : decode cX12_codes 79 = .ok (.getfield 195, 3) := by decide +kernel
theorem dX12_codes_82 : decode cX12_codes 82 = .ok (.iconst 4, 1) := by decide +kernel
theorem dX12_codes_83 : decode cX12_codes 83 = .ok (.if_icmp .gt 7, 3) := by decide +kernel
theorem dX12_codes_86 : decode cX12_codes 86 = .ok (.iconst 1, 1) := by decide +kernel
theorem dX12_codes_87 : decode cX12_codes 87 = .ok (.goto 4, 3) := by decide +kernel
theorem dX12_codes_90 : decode cX12_codes 90 = .ok (.iconst 0, 1) := by decide +kernel
theorem dX12_codes_91 : decode cX12_codes 91 = .ok (.iadd, 1) := by decide +kernel
theorem dX12_codes_92 : decode cX12_codes 92 = .ok (.putfield 195, 3) := by decide +kernel
theorem dX12_codes_95 : decode cX12_codes 95 = .ok (.aload_n 0, 1) := by decide +kernel
theorem dX12_codes_96 : decode cX12_codes 96 = .ok (.getfield 195, 3) := by decide +kernel
theorem dX12_codes_99 : decode cX12_codes 99 = .ok (.iconst 4, 1) := by decide +kernel
theorem dX12_codes_100 : decode cX12_codes 100 = .ok (.if_icmp .gt 113, 3) := by decide +kernel
theorem dX12_codes_103 : decode cX12_codes 103 = .ok (.aload_n 0, 1) := by decide +kernel
theorem dX12_codes_104 : decode cX12_codes 104 = .ok (.getfield 40, 3) := by decide +kernel
theorem dX12_codes_107 : decode cX12_codes 107 = .ok (.aload_n 0, 1) := by decide +kernel
theorem dX12_codes_108 : decode cX12_codes 108 = .ok (.getfield 195, 3) := by decide +kernel
theorem dX12_codes_111 : decode cX12_codes 111 = .ok (.iconst 1, 1) := by decide +kernel
theorem dX12_codes_112 : decode cX12_codes 112 = .ok (.isub, 1) := by decide +kernel
theorem dX12_codes_113 : decode cX12_codes 113 = .ok (.iconst 0, 1) := by decide +kernel
theorem dX12_codes_114 : decode cX12_codes 114 = .ok (.iastore, 1) := by decide +kernel
theorem dX12_codes_115 : decode cX12_codes 115 = .ok (.goto 98, 3) := by decide +kernel
theorem dX12_codes_118 : decode cX12_codes 118 = .ok (.iload_n 1, 1) := by decide +kernel
theorem dX12_codes_119 : decode cX12_codes 119 = .ok (.bipush 63, 2) := by decide +kernel
theorem dX12_codes_121 : decode cX12_codes 121 = .ok (.if_icmp .ne 18, 3) := by decide +kernel
theorem dX12_codes_124 : decode cX12_codes 124 = .ok (.aload_n 0, 1) := by decide +kernel
theorem dX12_codes_125 : decode cX12_codes 125 = .ok (.getfield 198, 3) := by decide +kernel
theorem dX12_codes_128 : decode cX12_codes 128 = .ok (.ifCond .eq 11, 3) := by decide +kernel
theorem dX12_codes_131 : decode cX12_codes 131 = .ok (.aload_n 0, 1) := by decide +kernel
theorem dX12_codes_132 : decode cX12_codes 132 = .ok (.iconst 1, 1) := by decide +kernel
theorem dX12_codes_133 : decode cX12_codes 133 = .ok (.putfield 201, 3) := by decide +kernel
theorem dX12_codes_136 : decode cX12_codes 136 = .ok (.goto 77, 3) := by decide +kernel
theorem dX12_codes_139 : decode cX12_codes 139 = .ok (.iload_n 1, 1) := by decide +kernel
theorem dX12_codes_140 : decode cX12_codes 140 = .ok (.bipush 64, 2) := by decide +kernel
theorem dX12_codes_142 : decode cX12_codes 142 = .ok (.if_icmp .ge 11, 3) := by decide +kernel
theorem dX12_codes_145 : decode cX12_codes 145 = .ok (.aload_n 0, 1) := by decide +kernel
theorem dX12_codes_146 : decode cX12_codes 146 = .ok (.iconst 1, 1) := by decide +kernel
theorem dX12_codes_147 : decode cX12_codes 147 = .ok (.putfield 204, 3) := by decide +kernel
theorem dX12_codes_150 : decode cX12_codes 150 = .ok (.goto 63, 3) := by decide +kernel
theorem dX12_codes_153 : decode cX12_codes 153 = .ok (.aload_n 0, 1) := by decide +kernel
theorem dX12_codes_154 : decode cX12_codes 154 = .ok (.iconst 0, 1) := by decide +kernel
theorem dX12_codes_155 : decode cX12_codes 155 = .ok (.putfield 192, 3) := by decide +kernel
theorem dX12_codes_158 : decode cX12_codes 158 = .ok (.aload_n 0, 1) := by decide +kernel
theorem dX12_codes_159 : decode cX12_codes 159 = .ok (.aload_n 0, 1) := by decide +kernel
theorem dX12_codes_160 : decode cX12_codes 160 = .ok (.getfield 195, 3) := by decide +kernel
theorem dX12_codes_163 : decode cX12_codes 163 = .ok (.iconst 4, 1) := by decide +kernel
theorem dX12_codes_164 : decode cX12_codes 164 = .ok (.if_icmp .le 7, 3) := by decide +kernel
theorem dX12_codes_167 : decode cX12_codes 167 = .ok (.iconst 4, 1) := by decide +kernel
theorem dX12_codes_168 : decode cX12_codes 168 = .ok (.goto 7, 3) := by decide +kernel
theorem dX12_codes_171 : decode cX12_codes 171 = .ok (.aload_n 0, 1) := by decide +kernel
theorem dX12_codes_172 : decode cX12_codes 172 = .ok (.getfield 195, 3) := by decide +kernel
theorem dX12_codes_175 : decode cX12_codes 175 = .ok (.putfield 195, 3) := by decide +kernel
theorem dX12_codes_178 : decode cX12_codes 178 = .ok (.aload_n 0, 1) := by decide +kernel
theorem dX12_codes_179 : decode cX12_codes 179 = .ok (.getfield 204, 3) := by decide +kernel
theorem dX12_codes_182 : decode cX12_codes 182 = .ok (.ifCond .ne 19, 3) := by decide +kernel
theorem dX12_codes_185 : decode cX12_codes 185 = .ok (.aload_n 0, 1) := by decide +kernel
theorem dX12_codes_186 : decode cX12_codes 186 = .ok (.getfield 201, 3) := by decide +kernel
theorem dX12_codes_189 : decode cX12_codes 189 = .ok (.ifCond .eq 12, 3) := by decide +kernel
theorem dX12_codes_192 : decode cX12_codes 192 = .ok (.aload_n 0, 1) := by decide +kernel
theorem dX12_codes_193 : decode cX12_codes 193 = .ok (.iload_n 1, 1) := by decide +kernel
theorem dX12_codes_194 : decode cX12_codes 194 = .ok (.iconst 1, 1) := by decide +kernel
theorem dX12_codes_195 : decode cX12_codes 195 = .ok (.invokevirtual 222, 3) := by decide +kernel
theorem dX12_codes_198 : decode cX12_codes 198 = .ok (.goto 15, 3) := by decide +kernel
theorem dX12_codes_201 : decode cX12_codes 201 = .ok (.aload_n 0, 1) := by decide +kernel
theorem dX12_codes_202 : decode cX12_codes 202 = .ok (.getfield 204, 3) := by decide +kernel
theorem dX12_codes_205 : decode cX12_codes 205 = .ok (.ifCond .ne 8, 3) := by decide +kernel
theorem dX12_codes_208 : decode cX12_codes 208 = .ok (.aload_n 0, 1) := by decide +kernel
theorem dX12_codes_209 : decode cX12_codes 209 = .ok (.iload_n 1, 1) := by decide +kernel
theorem dX12_codes_210 : decode cX12_codes 210 = .ok (.invokevirtual 226, 3) := by decide +kernel
theorem dX12_codes_213 : decode cX12_codes 213 = .ok (.aload_n 0, 1) := by decide +kernel
theorem dX12_codes_214 : decode cX12_codes 214 = .ok (.iconst 0, 1) := by decide +kernel
theorem dX12_codes_215 : decode cX12_codes 215 = .ok (.putfield 198, 3) := by decide +kernel
theorem dX12_codes_218 : decode cX12_codes 218 = .ok (.return_, 1) := by decide +kernel
theorem dX12_titles_0 : decode cX12_titles 0 = .ok (.iload_n 1, 1) := by decide +kernel
theorem dX12_titles_1 : decode cX12_titles 1 = .ok (.bipush 7, 2) := by decide +kernel
theorem dX12_titles_3 : decode cX12_titles 3 = .ok (.if_icmp .ne 47, 3) := by decide +kernel
theorem dX12_titles_6 : decode cX12_titles 6 = .ok (.aload_n 0, 1) := by decide +kernel
theorem dX12_titles_7 : decode cX12_titles 7 = .ok (.aload_n 0, 1) := by decide +kernel
theorem dX12_titles_8 : decode cX12_titles 8 = .ok (.getfield 207, 3) := by decide +kernel
theorem dX12_titles_11 : decode cX12_titles 11 = .ok (.putfield 229, 3) := by decide +kernel
theorem dX12_titles_14 : decode cX12_titles 14 = .ok (.iconst 0, 1) := by decide +kernel
theorem dX12_titles_15 : decode cX12_titles 15 = .ok (.istore_n 2, 1) := by decide +kernel
theorem dX12_titles_16 : decode cX12_titles 16 = .ok (.iload_n 2, 1) := by decide +kernel
theorem dX12_titles_17 : decode cX12_titles 17 = .ok (.aload_n 0, 1) := by decide +kernel
theorem dX12_titles_18 : decode cX12_titles 18 = .ok (.getfield 207, 3) := by decide +kernel
theorem dX12_titles_21 : decode cX12_titles 21 = .ok (.if_icmp .ge 21, 3) := by decide +kernel
theorem dX12_titles_24 : decode cX12_titles 24 = .ok (.aload_n 0, 1) := by decide +kernel
theorem dX12_titles_25 : decode cX12_titles 25 = .ok (.getfield 46, 3) := by decide +kernel
theorem dX12_titles_28 : decode cX12_titles 28 = .ok (.iload_n 2, 1) := by decide +kernel
theorem dX12_titles_29 : decode cX12_titles 29 = .ok (.aload_n 0, 1) := by decide +kernel
theorem dX12_titles_30 : decode cX12_titles 30 = .ok (.getfield 43, 3) := by decide +kernel
theorem dX12_titles_33 : decode cX12_titles 33 = .ok (.iload_n 2, 1) := by decide +kernel
theorem dX12_titles_34 : decode cX12_titles 34 = .ok (.iaload, 1) := by decide +kernel
theorem dX12_titles_35 : decode cX12_titles 35 = .ok (.iastore, 1) := by decide +kernel
theorem dX12_titles_36 : decode cX12_titles 36 = .ok (.iinc 2 1, 3) := by decide +kernel
theorem dX12_titles_39 : decode cX12_titles 39 = .ok (.goto (-23), 3) := by decide +kernel
theorem dX12_titles_42 : decode cX12_titles 42 = .ok (.aload_n 0, 1) := by decide +kernel
theorem dX12_titles_43 : decode cX12_titles 43 = .ok (.iconst 0, 1) := by decide +kernel
theorem dX12_titles_44 : decode cX12_titles 44 = .ok (.putfield 192, 3) := by decide +kernel
theorem dX12_titles_47 : decode cX12_titles 47 = .ok (.goto 71, 3) := by decide +kernel
theorem dX12_titles_50 : decode cX12_titles 50 = .ok (.iload_n 1, 1) := by decide +kernel
theorem dX12_titles_51 : decode cX12_titles 51 = .ok (.bipush 27, 2) := by decide +kernel
theorem dX12_titles_53 : decode cX12_titles 53 = .ok (.if_icmp .ne 11, 3) := by decide +kernel
theorem dX12_titles_56 : decode cX12_titles 56 = .ok (.aload_n 0, 1) := by decide +kernel
theorem dX12_titles_57 : decode cX12_titles 57 = .ok (.iconst 1, 1) := by decide +kernel
theorem dX12_titles_58 : decode cX12_titles 58 = .ok (.putfield 192, 3) := by decide +kernel
theorem dX12_titles_61 : decode cX12_titles 61 = .ok (.goto 57, 3) := by decide +kernel
theorem dX12_titles_64 : decode cX12_titles 64 = .ok (.iload_n 1, 1) := by decide +kernel
theorem dX12_titles_65 : decode cX12_titles 65 = .ok (.bipush 24, 2) := by decide +kernel
theorem dX12_titles_67 : decode cX12_titles 67 = .ok (.if_icmp .ne 11, 3) := by decide +kernel
theorem dX12_titles_70 : decode cX12_titles 70 = .ok (.aload_n 0, 1) := by decide +kernel
theorem dX12_titles_71 : decode cX12_titles 71 = .ok (.iconst 0, 1) := by decide +kernel
theorem dX12_titles_72 : decode cX12_titles 72 = .ok (.putfield 192, 3) := by decide +kernel
theorem dX12_titles_75 : decode cX12_titles 75 = .ok (.goto 43, 3) := by decide +kernel
theorem dX12_titles_78 : decode cX12_titles 78 = .ok (.iload_n 1, 1) := by decide +kernel
theorem dX12_titles_79 : decode cX12_titles 79 = .ok (.bipush 32, 2) := by decide +kernel
theorem dX12_titles_81 : decode cX12_titles 81 = .ok (.bipush 126, 2) := by decide +kernel
theorem dX12_titles_83 : decode cX12_titles 83 = .ok (.invokestatic 83, 3) := by decide +kernel
theorem dX12_titles_86 : decode cX12_titles 86 = .ok (.ifCond .eq 32, 3) := by decide +kernel
theorem dX12_titles_89 : decode cX12_titles 89 = .ok (.aload_n 0, 1) := by decide +kernel
theorem dX12_titles_90 : decode cX12_titles 90 = .ok (.getfield 207, 3) := by decide +kernel
theorem dX12_titles_93 : decode cX12_titles 93 = .ok (.bipush 16, 2) := by decide +kernel
theorem dX12_titles_95 : decode cX12_titles 95 = .ok (.if_icmp .ge 23, 3) := by decide +kernel
theorem dX12_titles_98 : decode cX12_titles 98 = .ok (.aload_n 0, 1) := by decide +kernel
theorem dX12_titles_99 : decode cX12_titles 99 = .ok (.getfield 43, 3) := by decide +kernel
theorem dX12_titles_102 : decode cX12_titles 102 = .ok (.aload_n 0, 1) := by decide +kernel
theorem dX12_titles_103 : decode cX12_titles 103 = .ok (.getfield 207, 3) := by decide +kernel
theorem dX12_titles_106 : decode cX12_titles 106 = .ok (.iload_n 1, 1) := by decide +kernel
theorem dX12_titles_107 : decode cX12_titles 107 = .ok (.iastore, 1) := by decide +kernel
theorem dX12_titles_108 : decode cX12_titles 108 = .ok (.aload_n 0, 1) := by decide +kernel
theorem dX12_titles_109 : decode cX12_titles 109 = .ok (.dup, 1) := by decide +kernel
theorem dX12_titles_110 : decode cX12_titles 110 = .ok (.getfield 207, 3) := by decide +kernel
theorem dX12_titles_113 : decode cX12_titles 113 = .ok (.iconst 1, 1) := by decide +kernel
theorem dX12_titles_114 : decode cX12_titles 114 = .ok (.iadd, 1) := by decide +kernel
theorem dX12_titles_115 : decode cX12_titles 115 = .ok (.putfield 207, 3) := by decide +kernel
theorem dX12_titles_118 : decode cX12_titles 118 = .ok (.return_, 1) := by decide +kernel
theorem dX12_comes_0 : decode cX12_comes 0 = .ok (.aload_n 0, 1) := by decide +kernel
theorem dX12_comes_1 : decode cX12_comes 1 = .ok (.getfield 192, 3) := by decide +kernel
theorem dX12_comes_4 : decode cX12_comes 4 = .ok (.iconst 3, 1) := by decide +kernel
theorem dX12_comes_5 : decode cX12_comes 5 = .ok (.if_icmp .ne 11, 3) := by decide +kernel
theorem dX12_comes_8 : decode cX12_comes 8 = .ok (.aload_n 0, 1) := by decide +kernel
theorem dX12_comes_9 : decode cX12_comes 9 = .ok (.iload_n 1, 1) := by decide +kernel
theorem dX12_comes_10 : decode cX12_comes 10 = .ok (.invokevirtual 232, 3) := by decide +kernel
theorem dX12_comes_13 : decode cX12_comes 13 = .ok (.goto 73, 3) := by decide +kernel
theorem dX12_comes_16 : decode cX12_comes 16 = .ok (.iload_n 1, 1) := by decide +kernel
theorem dX12_comes_17 : decode cX12_comes 17 = .ok (.bipush 32, 2) := by decide +kernel
theorem dX12_comes_19 : decode cX12_comes 19 = .ok (.if_icmp .lt 9, 3) := by decide +kernel
theorem dX12_comes_22 : decode cX12_comes 22 = .ok (.iload_n 1, 1) := by decide +kernel
theorem dX12_comes_23 : decode cX12_comes 23 = .ok (.bipush 127, 2) := by decide +kernel
theorem dX12_comes_25 : decode cX12_comes 25 = .ok (.if_icmp .ne 11, 3) := by decide +kernel
theorem dX12_comes_28 : decode cX12_comes 28 = .ok (.aload_n 0, 1) := by decide +kernel
theorem dX12_comes_29 : decode cX12_comes 29 = .ok (.iload_n 1, 1) := by decide +kernel
theorem dX12_comes_30 : decode cX12_comes 30 = .ok (.invokevirtual 235, 3) := by decide +kernel
theorem dX12_comes_33 : decode cX12_comes 33 = .ok (.goto 53, 3) := by decide +kernel
theorem dX12_comes_36 : decode cX12_comes 36 = .ok (.aload_n 0, 1) := by decide +kernel
theorem dX12_comes_37 : decode cX12_comes 37 = .ok (.getfield 192, 3) := by decide +kernel
theorem dX12_comes_40 : decode cX12_comes 40 = .ok (.iconst 1, 1) := by decide +kernel
theorem dX12_comes_41 : decode cX12_comes 41 = .ok (.if_icmp .ne 11, 3) := by decide +kernel
theorem dX12_comes_44 : decode cX12_comes 44 = .ok (.aload_n 0, 1) := by decide +kernel
theorem dX12_comes_45 : decode cX12_comes 45 = .ok (.iload_n 1, 1) := by decide +kernel
theorem dX12_comes_46 : decode cX12_comes 46 = .ok (.invokevirtual 238, 3) := by decide +kernel
theorem dX12_comes_49 : decode cX12_comes 49 = .ok (.goto 37, 3) := by decide +kernel
theorem dX12_comes_52 : decode cX12_comes 52 = .ok (.aload_n 0, 1) := by decide +kernel
theorem dX12_comes_53 : decode cX12_comes 53 = .ok (.getfield 192, 3) := by decide +kernel
theorem dX12_comes_56 : decode cX12_comes 56 = .ok (.iconst 2, 1) := by decide +kernel
theorem dX12_comes_57 : decode cX12_comes 57 = .ok (.if_icmp .ne 11, 3) := by decide +kernel
theorem dX12_comes_60 : decode cX12_comes 60 = .ok (.aload_n 0, 1) := by decide +kernel
theorem dX12_comes_61 : decode cX12_comes 61 = .ok (.iload_n 1, 1) := by decide +kernel
theorem dX12_comes_62 : decode cX12_comes 62 = .ok (.invokevirtual 241, 3) := by decide +kernel
theorem dX12_comes_65 : decode cX12_comes 65 = .ok (.goto 21, 3) := by decide +kernel
theorem dX12_comes_68 : decode cX12_comes 68 = .ok (.iload_n 1, 1) := by decide +kernel
theorem dX12_comes_69 : decode cX12_comes 69 = .ok (.bipush 96, 2) := by decide +kernel
theorem dX12_comes_71 : decode cX12_comes 71 = .ok (.if_icmp .ne 10, 3) := by decide +kernel
theorem dX12_comes_74 : decode cX12_comes 74 = .ok (.aload_n 0, 1) := by decide +kernel
theorem dX12_comes_75 : decode cX12_comes 75 = .ok (.invokevirtual 244, 3) := by decide +kernel
theorem dX12_comes_78 : decode cX12_comes 78 = .ok (.goto 8, 3) := by decide +kernel
theorem dX12_comes_81 : decode cX12_comes 81 = .ok (.aload_n 0, 1) := by decide +kernel
theorem dX12_comes_82 : decode cX12_comes 82 = .ok (.iload_n 1, 1) := by decide +kernel
theorem dX12_comes_83 : decode cX12_comes 83 = .ok (.invokevirtual 247, 3) := by decide +kernel
theorem dX12_comes_86 : decode cX12_comes 86 = .ok (.return_, 1) := by decide +kernel
theorem dX12_first_0 : decode cX12_first 0 = .ok (.aload_n 0, 1) := by decide +kernel
theorem dX12_first_1 : decode cX12_first 1 = .ok (.getfield 40, 3) := by decide +kernel
theorem dX12_first_4 : decode cX12_first 4 = .ok (.iconst 0, 1) := by decide +kernel
theorem dX12_first_5 : decode cX12_first 5 = .ok (.iaload, 1) := by decide +kernel
theorem dX12_first_6 : decode cX12_first 6 = .ok (.ifCond .ne 7, 3) := by decide +kernel
theorem dX12_first_9 : decode cX12_first 9 = .ok (.iconst 1, 1) := by decide +kernel
theorem dX12_first_10 : decode cX12_first 10 = .ok (.goto 9, 3) := by decide +kernel
theorem dX12_first_13 : decode cX12_first 13 = .ok (.aload_n 0, 1) := by decide +kernel
theorem dX12_first_14 : decode cX12_first 14 = .ok (.getfield 40, 3) := by decide +kernel
theorem dX12_first_17 : decode cX12_first 17 = .ok (.iconst 0, 1) := by decide +kernel
theorem dX12_first_18 : decode cX12_first 18 = .ok (.iaload, 1) := by decide +kernel
theorem dX12_first_19 : decode cX12_first 19 = .ok (.ireturn, 1) := by decide +kernel
theorem dX12_second_0 : decode cX12_second 0 = .ok (.aload_n 0, 1) := by decide +kernel
theorem dX12_second_1 : decode cX12_second 1 = .ok (.getfield 195, 3) := by decide +kernel
theorem dX12_second_4 : decode cX12_second 4 = .ok (.iconst 1, 1) := by decide +kernel
theorem dX12_second_5 : decode cX12_second 5 = .ok (.if_icmp .le 12, 3) := by decide +kernel
theorem dX12_second_8 : decode cX12_second 8 = .ok (.aload_n 0, 1) := by decide +kernel
theorem dX12_second_9 : decode cX12_second 9 = .ok (.getfield 40, 3) := by decide +kernel
theorem dX12_second_12 : decode cX12_second 12 = .ok (.iconst 1, 1) := by decide +kernel
theorem dX12_second_13 : decode cX12_second 13 = .ok (.iaload, 1) := by decide +kernel
theorem dX12_second_14 : decode cX12_second 14 = .ok (.goto 4, 3) := by decide +kernel
theorem dX12_second_17 : decode cX12_second 17 = .ok (.iconst 0, 1) := by decide +kernel
theorem dX12_second_18 : decode cX12_second 18 = .ok (.ireturn, 1) := by decide +kernel
theorem dX12_modes_0 : decode cX12_modes 0 = .ok (.iconst 0, 1) := by decide +kernel
theorem dX12_modes_1 : decode cX12_modes 1 = .ok (.istore_n 3, 1) := by decide +kernel
theorem dX12_modes_2 : decode cX12_modes 2 = .ok (.iload_n 3, 1) := by decide +kernel
theorem dX12_modes_3 : decode cX12_modes 3 = .ok (.aload_n 0, 1) := by decide +kernel
theorem dX12_modes_4 : decode cX12_modes 4 = .ok (.getfield 195, 3) := by decide +kernel
theorem dX12_modes_7 : decode cX12_modes 7 = .ok (.if_icmp .ge 65, 3) := by decide +kernel
theorem dX12_modes_10 : decode cX12_modes 10 = .ok (.iload_n 1, 1) := by decide +kernel
theorem dX12_modes_11 : decode cX12_modes 11 = .ok (.bipush 104, 2) := by decide +kernel
theorem dX12_modes_13 : decode cX12_modes 13 = .ok (.if_icmp .eq 9, 3) := by decide +kernel
theorem dX12_modes_16 : decode cX12_modes 16 = .ok (.iload_n 1, 1) := by decide +kernel
theorem dX12_modes_17 : decode cX12_modes 17 = .ok (.bipush 108, 2) := by decide +kernel
theorem dX12_modes_19 : decode cX12_modes 19 = .ok (.if_icmp .ne 53, 3) := by decide +kernel
theorem dX12_modes_22 : decode cX12_modes 22 = .ok (.aload_n 0, 1) := by decide +kernel
theorem dX12_modes_23 : decode cX12_modes 23 = .ok (.iload_n 2, 1) := by decide +kernel
theorem dX12_modes_24 : decode cX12_modes 24 = .ok (.ifCond .eq 12, 3) := by decide +kernel
theorem dX12_modes_27 : decode cX12_modes 27 = .ok (.aload_n 0, 1) := by decide +kernel
theorem dX12_modes_28 : decode cX12_modes 28 = .ok (.getfield 40, 3) := by decide +kernel
theorem dX12_modes_31 : decode cX12_modes 31 = .ok (.iload_n 3, 1) := by decide +kernel
theorem dX12_modes_32 : decode cX12_modes 32 = .ok (.iaload, 1) := by decide +kernel
theorem dX12_modes_33 : decode cX12_modes 33 = .ok (.goto 19, 3) := by decide +kernel
theorem dX12_modes_36 : decode cX12_modes 36 = .ok (.aload_n 0, 1) := by decide +kernel
theorem dX12_modes_37 : decode cX12_modes 37 = .ok (.getfield 40, 3) := by decide +kernel
theorem dX12_modes_40 : decode cX12_modes 40 = .ok (.iload_n 3, 1) := by decide +kernel
theorem dX12_modes_41 : decode cX12_modes 41 = .ok (.iaload, 1) := by decide +kernel
theorem dX12_modes_42 : decode cX12_modes 42 = .ok (.iconst 4, 1) := by decide +kernel
theorem dX12_modes_43 : decode cX12_modes 43 = .ok (.if_icmp .ne 8, 3) := by decide +kernel
theorem dX12_modes_46 : decode cX12_modes 46 = .ok (.bipush (-4), 2) := by decide +kernel
theorem dX12_modes_48 : decode cX12_modes 48 = .ok (.goto 4, 3) := by decide +kernel
theorem dX12_modes_51 : decode cX12_modes 51 = .ok (.iconst (-1), 1) := by decide +kernel
theorem dX12_modes_52 : decode cX12_modes 52 = .ok (.iload_n 1, 1) := by decide +kernel
theorem dX12_modes_53 : decode cX12_modes 53 = .ok (.bipush 104, 2) := by decide +kernel
theorem dX12_modes_55 : decode cX12_modes 55 = .ok (.if_icmp .ne 7, 3) := by decide +kernel
theorem dX12_modes_58 : decode cX12_modes 58 = .ok (.iconst 1, 1) := by decide +kernel
theorem dX12_modes_59 : decode cX12_modes 59 = .ok (.goto 4, 3) := by decide +kernel
theorem dX12_modes_62 : decode cX12_modes 62 = .ok (.iconst 0, 1) := by decide +kernel
theorem dX12_modes_63 : decode cX12_modes 63 = .ok (.invokevirtual 250, 3) := by decide +kernel
theorem dX12_modes_66 : decode cX12_modes 66 = .ok (.iinc 3 1, 3) := by decide +kernel
theorem dX12_modes_69 : decode cX12_modes 69 = .ok (.goto (-67), 3) := by decide +kernel
theorem dX12_modes_72 : decode cX12_modes 72 = .ok (.return_, 1) := by decide +kernel
theorem dX12_setsMode_0 : decode cX12_setsMode 0 = .ok (.iload_n 1, 1) := by decide +kernel
theorem dX12_setsMode_1 : decode cX12_setsMode 1 = .ok (.lookupswitch 229 #[(-4, 75), (1, 83), (6, 91), (7, 125), (25, 153), (47, 161), (100, 213), (204, 221)], 75) := by decide +kernel
theorem dX12_setsMode_76 : decode cX12_setsMode 76 = .ok (.aload_n 0, 1) := by decide +kernel
theorem dX12_setsMode_77 : decode cX12_setsMode 77 = .ok (.iload_n 2, 1) := by decide +kernel
theorem dX12_setsMode_78 : decode cX12_setsMode 78 = .ok (.putfield 136, 3) := by decide +kernel
theorem dX12_setsMode_81 : decode cX12_setsMode 81 = .ok (.goto 149, 3) := by decide +kernel
theorem dX12_setsMode_84 : decode cX12_setsMode 84 = .ok (.aload_n 0, 1) := by decide +kernel
theorem dX12_setsMode_85 : decode cX12_setsMode 85 = .ok (.iload_n 2, 1) := by decide +kernel
theorem dX12_setsMode_86 : decode cX12_setsMode 86 = .ok (.putfield 176, 3) := by decide +kernel
theorem dX12_setsMode_89 : decode cX12_setsMode 89 = .ok (.goto 141, 3) := by decide +kernel
theorem dX12_setsMode_92 : decode cX12_setsMode 92 = .ok (.aload_n 0, 1) := by decide +kernel
theorem dX12_setsMode_93 : decode cX12_setsMode 93 = .ok (.iload_n 2, 1) := by decide +kernel
theorem dX12_setsMode_94 : decode cX12_setsMode 94 = .ok (.putfield 164, 3) := by decide +kernel
theorem dX12_setsMode_97 : decode cX12_setsMode 97 = .ok (.aload_n 0, 1) := by decide +kernel
theorem dX12_setsMode_98 : decode cX12_setsMode 98 = .ok (.iload_n 2, 1) := by decide +kernel
theorem dX12_setsMode_99 : decode cX12_setsMode 99 = .ok (.ifCond .eq 10, 3) := by decide +kernel
theorem dX12_setsMode_102 : decode cX12_setsMode 102 = .ok (.aload_n 0, 1) := by decide +kernel
theorem dX12_setsMode_103 : decode cX12_setsMode 103 = .ok (.getfield 116, 3) := by decide +kernel
theorem dX12_setsMode_106 : decode cX12_setsMode 106 = .ok (.goto 4, 3) := by decide +kernel
theorem dX12_setsMode_109 : decode cX12_setsMode 109 = .ok (.iconst 0, 1) := by decide +kernel
theorem dX12_setsMode_110 : decode cX12_setsMode 110 = .ok (.putfield 113, 3) := by decide +kernel
theorem dX12_setsMode_113 : decode cX12_setsMode 113 = .ok (.aload_n 0, 1) := by decide +kernel
theorem dX12_setsMode_114 : decode cX12_setsMode 114 = .ok (.iconst 0, 1) := by decide +kernel
theorem dX12_setsMode_115 : decode cX12_setsMode 115 = .ok (.putfield 123, 3) := by decide +kernel
theorem dX12_setsMode_118 : decode cX12_setsMode 118 = .ok (.aload_n 0, 1) := by decide +kernel
theorem dX12_setsMode_119 : decode cX12_setsMode 119 = .ok (.iconst 0, 1) := by decide +kernel
theorem dX12_setsMode_120 : decode cX12_setsMode 120 = .ok (.putfield 126, 3) := by decide +kernel
theorem dX12_setsMode_123 : decode cX12_setsMode 123 = .ok (.goto 107, 3) := by decide +kernel
theorem dX12_setsMode_126 : decode cX12_setsMode 126 = .ok (.aload_n 0, 1) := by decide +kernel
theorem dX12_setsMode_127 : decode cX12_setsMode 127 = .ok (.iload_n 2, 1) := by decide +kernel
theorem dX12_setsMode_128 : decode cX12_setsMode 128 = .ok (.putfield 33, 3) := by decide +kernel
theorem dX12_setsMode_131 : decode cX12_setsMode 131 = .ok (.aload_n 0, 1) := by decide +kernel
theorem dX12_setsMode_132 : decode cX12_setsMode 132 = .ok (.aload_n 0, 1) := by decide +kernel
theorem dX12_setsMode_133 : decode cX12_setsMode 133 = .ok (.getfield 126, 3) := by decide +kernel
theorem dX12_setsMode_136 : decode cX12_setsMode 136 = .ok (.ifCond .eq 11, 3) := by decide +kernel
theorem dX12_setsMode_139 : decode cX12_setsMode 139 = .ok (.iload_n 2, 1) := by decide +kernel
theorem dX12_setsMode_140 : decode cX12_setsMode 140 = .ok (.ifCond .eq 7, 3) := by decide +kernel
theorem dX12_setsMode_143 : decode cX12_setsMode 143 = .ok (.iconst 1, 1) := by decide +kernel
theorem dX12_setsMode_144 : decode cX12_setsMode 144 = .ok (.goto 4, 3) := by decide +kernel
theorem dX12_setsMode_147 : decode cX12_setsMode 147 = .ok (.iconst 0, 1) := by decide +kernel
theorem dX12_setsMode_148 : decode cX12_setsMode 148 = .ok (.putfield 126, 3) := by decide +kernel
theorem dX12_setsMode_151 : decode cX12_setsMode 151 = .ok (.goto 79, 3) := by decide +kernel
theorem dX12_setsMode_154 : decode cX12_setsMode 154 = .ok (.aload_n 0, 1) := by decide +kernel
theorem dX12_setsMode_155 : decode cX12_setsMode 155 = .ok (.iload_n 2, 1) := by decide +kernel
theorem dX12_setsMode_156 : decode cX12_setsMode 156 = .ok (.putfield 37, 3) := by decide +kernel
theorem dX12_setsMode_159 : decode cX12_setsMode 159 = .ok (.goto 71, 3) := by decide +kernel
theorem dX12_setsMode_162 : decode cX12_setsMode 162 = .ok (.iload_n 2, 1) := by decide +kernel
theorem dX12_setsMode_163 : decode cX12_setsMode 163 = .ok (.ifCond .eq 27, 3) := by decide +kernel
theorem dX12_setsMode_166 : decode cX12_setsMode 166 = .ok (.aload_n 0, 1) := by decide +kernel
theorem dX12_setsMode_167 : decode cX12_setsMode 167 = .ok (.getfield 87, 3) := by decide +kernel
theorem dX12_setsMode_170 : decode cX12_setsMode 170 = .ok (.ifCond .ne 20, 3) := by decide +kernel
theorem dX12_setsMode_173 : decode cX12_setsMode 173 = .ok (.aload_n 0, 1) := by decide +kernel
theorem dX12_setsMode_174 : decode cX12_setsMode 174 = .ok (.invokevirtual 210, 3) := by decide +kernel
theorem dX12_setsMode_177 : decode cX12_setsMode 177 = .ok (.aload_n 0, 1) := by decide +kernel
theorem dX12_setsMode_178 : decode cX12_setsMode 178 = .ok (.iconst 1, 1) := by decide +kernel
theorem dX12_setsMode_179 : decode cX12_setsMode 179 = .ok (.putfield 87, 3) := by decide +kernel
theorem dX12_setsMode_182 : decode cX12_setsMode 182 = .ok (.aload_n 0, 1) := by decide +kernel
theorem dX12_setsMode_183 : decode cX12_setsMode 183 = .ok (.iconst 1, 1) := by decide +kernel
theorem dX12_setsMode_184 : decode cX12_setsMode 184 = .ok (.invokevirtual 173, 3) := by decide +kernel
theorem dX12_setsMode_187 : decode cX12_setsMode 187 = .ok (.goto 43, 3) := by decide +kernel
theorem dX12_setsMode_190 : decode cX12_setsMode 190 = .ok (.iload_n 2, 1) := by decide +kernel
theorem dX12_setsMode_191 : decode cX12_setsMode 191 = .ok (.ifCond .ne 39, 3) := by decide +kernel
theorem dX12_setsMode_194 : decode cX12_setsMode 194 = .ok (.aload_n 0, 1) := by decide +kernel
theorem dX12_setsMode_195 : decode cX12_setsMode 195 = .ok (.getfield 87, 3) := by decide +kernel
theorem dX12_setsMode_198 : decode cX12_setsMode 198 = .ok (.iconst 1, 1) := by decide +kernel
theorem dX12_setsMode_199 : decode cX12_setsMode 199 = .ok (.if_icmp .ne 31, 3) := by decide +kernel
theorem dX12_setsMode_202 : decode cX12_setsMode 202 = .ok (.aload_n 0, 1) := by decide +kernel
theorem dX12_setsMode_203 : decode cX12_setsMode 203 = .ok (.iconst 0, 1) := by decide +kernel
theorem dX12_setsMode_204 : decode cX12_setsMode 204 = .ok (.putfield 87, 3) := by decide +kernel
theorem dX12_setsMode_207 : decode cX12_setsMode 207 = .ok (.aload_n 0, 1) := by decide +kernel
theorem dX12_setsMode_208 : decode cX12_setsMode 208 = .ok (.invokevirtual 213, 3) := by decide +kernel
theorem dX12_setsMode_211 : decode cX12_setsMode 211 = .ok (.goto 19, 3) := by decide +kernel
theorem dX12_setsMode_214 : decode cX12_setsMode 214 = .ok (.aload_n 0, 1) := by decide +kernel
theorem dX12_setsMode_215 : decode cX12_setsMode 215 = .ok (.iload_n 2, 1) := by decide +kernel
theorem dX12_setsMode_216 : decode cX12_setsMode 216 = .ok (.putfield 179, 3) := by decide +kernel
theorem dX12_setsMode_219 : decode cX12_setsMode 219 = .ok (.goto 11, 3) := by decide +kernel
theorem dX12_setsMode_222 : decode cX12_setsMode 222 = .ok (.aload_n 0, 1) := by decide +kernel
theorem dX12_setsMode_223 : decode cX12_setsMode 223 = .ok (.iload_n 2, 1) := by decide +kernel
theorem dX12_setsMode_224 : decode cX12_setsMode 224 = .ok (.putfield 182, 3) := by decide +kernel
theorem dX12_setsMode_227 : decode cX12_setsMode 227 = .ok (.goto 3, 3) := by decide +kernel
theorem dX12_setsMode_230 : decode cX12_setsMode 230 = .ok (.return_, 1) := by decide +kernel
theorem dX12_erasesRow_0 : decode cX12_erasesRow 0 = .ok (.aload_n 0, 1) := by decide +kernel
theorem dX12_erasesRow_1 : decode cX12_erasesRow 1 = .ok (.iload_n 1, 1) := by decide +kernel
theorem dX12_erasesRow_2 : decode cX12_erasesRow 2 = .ok (.iload_n 2, 1) := by decide +kernel
theorem dX12_erasesRow_3 : decode cX12_erasesRow 3 = .ok (.ifCond .ne 10, 3) := by decide +kernel
theorem dX12_erasesRow_6 : decode cX12_erasesRow 6 = .ok (.aload_n 0, 1) := by decide +kernel
theorem dX12_erasesRow_7 : decode cX12_erasesRow 7 = .ok (.getfield 123, 3) := by decide +kernel
theorem dX12_erasesRow_10 : decode cX12_erasesRow 10 = .ok (.goto 4, 3) := by decide +kernel
theorem dX12_erasesRow_13 : decode cX12_erasesRow 13 = .ok (.iconst 0, 1) := by decide +kernel
theorem dX12_erasesRow_14 : decode cX12_erasesRow 14 = .ok (.iload_n 2, 1) := by decide +kernel
theorem dX12_erasesRow_15 : decode cX12_erasesRow 15 = .ok (.iconst 1, 1) := by decide +kernel
theorem dX12_erasesRow_16 : decode cX12_erasesRow 16 = .ok (.if_icmp .ne 12, 3) := by decide +kernel
theorem dX12_erasesRow_19 : decode cX12_erasesRow 19 = .ok (.aload_n 0, 1) := by decide +kernel
theorem dX12_erasesRow_20 : decode cX12_erasesRow 20 = .ok (.getfield 123, 3) := by decide +kernel
theorem dX12_erasesRow_23 : decode cX12_erasesRow 23 = .ok (.iconst 1, 1) := by decide +kernel
theorem dX12_erasesRow_24 : decode cX12_erasesRow 24 = .ok (.iadd, 1) := by decide +kernel
theorem dX12_erasesRow_25 : decode cX12_erasesRow 25 = .ok (.goto 7, 3) := by decide +kernel
theorem dX12_erasesRow_28 : decode cX12_erasesRow 28 = .ok (.aload_n 0, 1) := by decide +kernel
theorem dX12_erasesRow_29 : decode cX12_erasesRow 29 = .ok (.getfield 13, 3) := by decide +kernel
theorem dX12_erasesRow_32 : decode cX12_erasesRow 32 = .ok (.invokevirtual 129, 3) := by decide +kernel
theorem dX12_erasesRow_35 : decode cX12_erasesRow 35 = .ok (.iload_n 2, 1) := by decide +kernel
theorem dX12_erasesRow_36 : decode cX12_erasesRow 36 = .ok (.iconst 1, 1) := by decide +kernel
theorem dX12_erasesRow_37 : decode cX12_erasesRow 37 = .ok (.if_icmp .ne 16, 3) := by decide +kernel
theorem dX12_erasesRow_40 : decode cX12_erasesRow 40 = .ok (.aload_n 0, 1) := by decide +kernel
theorem dX12_erasesRow_41 : decode cX12_erasesRow 41 = .ok (.getfield 123, 3) := by decide +kernel
theorem dX12_erasesRow_44 : decode cX12_erasesRow 44 = .ok (.aload_n 0, 1) := by decide +kernel
theorem dX12_erasesRow_45 : decode cX12_erasesRow 45 = .ok (.getfield 13, 3) := by decide +kernel
theorem dX12_erasesRow_48 : decode cX12_erasesRow 48 = .ok (.iconst 1, 1) := by decide +kernel
theorem dX12_erasesRow_49 : decode cX12_erasesRow 49 = .ok (.isub, 1) := by decide +kernel
theorem dX12_erasesRow_50 : decode cX12_erasesRow 50 = .ok (.if_icmp .ne 18, 3) := by decide +kernel
theorem dX12_erasesRow_53 : decode cX12_erasesRow 53 = .ok (.aload_n 0, 1) := by decide +kernel
theorem dX12_erasesRow_54 : decode cX12_erasesRow 54 = .ok (.getfield 20, 3) := by decide +kernel
theorem dX12_erasesRow_57 : decode cX12_erasesRow 57 = .ok (.bipush 12, 2) := by decide +kernel
theorem dX12_erasesRow_59 : decode cX12_erasesRow 59 = .ok (.aload_n 0, 1) := by decide +kernel
theorem dX12_erasesRow_60 : decode cX12_erasesRow 60 = .ok (.getfield 87, 3) := by decide +kernel
theorem dX12_erasesRow_63 : decode cX12_erasesRow 63 = .ok (.imul, 1) := by decide +kernel
theorem dX12_erasesRow_64 : decode cX12_erasesRow 64 = .ok (.iload_n 1, 1) := by decide +kernel
theorem dX12_erasesRow_65 : decode cX12_erasesRow 65 = .ok (.iadd, 1) := by decide +kernel
theorem dX12_erasesRow_66 : decode cX12_erasesRow 66 = .ok (.iconst 0, 1) := by decide +kernel
theorem dX12_erasesRow_67 : decode cX12_erasesRow 67 = .ok (.bastore, 1) := by decide +kernel
theorem dX12_erasesRow_68 : decode cX12_erasesRow 68 = .ok (.return_, 1) := by decide +kernel
theorem dX12_erasesAll_0 : decode cX12_erasesAll 0 = .ok (.iload_n 1, 1) := by decide +kernel
theorem dX12_erasesAll_1 : decode cX12_erasesAll 1 = .ok (.iconst 3, 1) := by decide +kernel
theorem dX12_erasesAll_2 : decode cX12_erasesAll 2 = .ok (.if_icmp .ne 8, 3) := by decide +kernel
theorem dX12_erasesAll_5 : decode cX12_erasesAll 5 = .ok (.aload_n 0, 1) := by decide +kernel
theorem dX12_erasesAll_6 : decode cX12_erasesAll 6 = .ok (.iconst 0, 1) := by decide +kernel
theorem dX12_erasesAll_7 : decode cX12_erasesAll 7 = .ok (.putfield 98, 3) := by decide +kernel
theorem dX12_erasesAll_10 : decode cX12_erasesAll 10 = .ok (.iconst 0, 1) := by decide +kernel
theorem dX12_erasesAll_11 : decode cX12_erasesAll 11 = .ok (.istore_n 2, 1) := by decide +kernel
theorem dX12_erasesAll_12 : decode cX12_erasesAll 12 = .ok (.iload_n 2, 1) := by decide +kernel
theorem dX12_erasesAll_13 : decode cX12_erasesAll 13 = .ok (.aload_n 0, 1) := by decide +kernel
theorem dX12_erasesAll_14 : decode cX12_erasesAll 14 = .ok (.getfield 7, 3) := by decide +kernel
theorem dX12_erasesAll_17 : decode cX12_erasesAll 17 = .ok (.if_icmp .ge 66, 3) := by decide +kernel
theorem dX12_erasesAll_20 : decode cX12_erasesAll 20 = .ok (.iload_n 1, 1) := by decide +kernel
theorem dX12_erasesAll_21 : decode cX12_erasesAll 21 = .ok (.iconst 3, 1) := by decide +kernel
theorem dX12_erasesAll_22 : decode cX12_erasesAll 22 = .ok (.if_icmp .ge 61, 3) := by decide +kernel
theorem dX12_erasesAll_25 : decode cX12_erasesAll 25 = .ok (.iload_n 2, 1) := by decide +kernel
theorem dX12_erasesAll_26 : decode cX12_erasesAll 26 = .ok (.aload_n 0, 1) := by decide +kernel
theorem dX12_erasesAll_27 : decode cX12_erasesAll 27 = .ok (.getfield 113, 3) := by decide +kernel
theorem dX12_erasesAll_30 : decode cX12_erasesAll 30 = .ok (.if_icmp .ne 12, 3) := by decide +kernel
theorem dX12_erasesAll_33 : decode cX12_erasesAll 33 = .ok (.aload_n 0, 1) := by decide +kernel
theorem dX12_erasesAll_34 : decode cX12_erasesAll 34 = .ok (.iload_n 2, 1) := by decide +kernel
theorem dX12_erasesAll_35 : decode cX12_erasesAll 35 = .ok (.iload_n 1, 1) := by decide +kernel
theorem dX12_erasesAll_36 : decode cX12_erasesAll 36 = .ok (.invokevirtual 253, 3) := by decide +kernel
theorem dX12_erasesAll_39 : decode cX12_erasesAll 39 = .ok (.goto 38, 3) := by decide +kernel
theorem dX12_erasesAll_42 : decode cX12_erasesAll 42 = .ok (.iload_n 1, 1) := by decide +kernel
theorem dX12_erasesAll_43 : decode cX12_erasesAll 43 = .ok (.iconst 2, 1) := by decide +kernel
theorem dX12_erasesAll_44 : decode cX12_erasesAll 44 = .ok (.if_icmp .eq 28, 3) := by decide +kernel
theorem dX12_erasesAll_47 : decode cX12_erasesAll 47 = .ok (.iload_n 1, 1) := by decide +kernel
theorem dX12_erasesAll_48 : decode cX12_erasesAll 48 = .ok (.ifCond .ne 7, 3) := by decide +kernel
theorem dX12_erasesAll_51 : decode cX12_erasesAll 51 = .ok (.iconst 1, 1) := by decide +kernel
theorem dX12_erasesAll_52 : decode cX12_erasesAll 52 = .ok (.goto 4, 3) := by decide +kernel
theorem dX12_erasesAll_55 : decode cX12_erasesAll 55 = .ok (.iconst 0, 1) := by decide +kernel
theorem dX12_erasesAll_56 : decode cX12_erasesAll 56 = .ok (.iload_n 2, 1) := by decide +kernel
theorem dX12_erasesAll_57 : decode cX12_erasesAll 57 = .ok (.aload_n 0, 1) := by decide +kernel
theorem dX12_erasesAll_58 : decode cX12_erasesAll 58 = .ok (.getfield 113, 3) := by decide +kernel
theorem dX12_erasesAll_61 : decode cX12_erasesAll 61 = .ok (.if_icmp .le 7, 3) := by decide +kernel
theorem dX12_erasesAll_64 : decode cX12_erasesAll 64 = .ok (.iconst 1, 1) := by decide +kernel
theorem dX12_erasesAll_65 : decode cX12_erasesAll 65 = .ok (.goto 4, 3) := by decide +kernel
theorem dX12_erasesAll_68 : decode cX12_erasesAll 68 = .ok (.iconst 0, 1) := by decide +kernel
theorem dX12_erasesAll_69 : decode cX12_erasesAll 69 = .ok (.if_icmp .ne 8, 3) := by decide +kernel
theorem dX12_erasesAll_72 : decode cX12_erasesAll 72 = .ok (.aload_n 0, 1) := by decide +kernel
theorem dX12_erasesAll_73 : decode cX12_erasesAll 73 = .ok (.iload_n 2, 1) := by decide +kernel
theorem dX12_erasesAll_74 : decode cX12_erasesAll 74 = .ok (.invokevirtual 107, 3) := by decide +kernel
theorem dX12_erasesAll_77 : decode cX12_erasesAll 77 = .ok (.iinc 2 1, 3) := by decide +kernel
theorem dX12_erasesAll_80 : decode cX12_erasesAll 80 = .ok (.goto (-68), 3) := by decide +kernel
theorem dX12_erasesAll_83 : decode cX12_erasesAll 83 = .ok (.return_, 1) := by decide +kernel
theorem dX12_linesMove_0 : decode cX12_linesMove 0 = .ok (.aload_n 0, 1) := by decide +kernel
theorem dX12_linesMove_1 : decode cX12_linesMove 1 = .ok (.getfield 113, 3) := by decide +kernel
theorem dX12_linesMove_4 : decode cX12_linesMove 4 = .ok (.aload_n 0, 1) := by decide +kernel
theorem dX12_linesMove_5 : decode cX12_linesMove 5 = .ok (.getfield 116, 3) := by decide +kernel
theorem dX12_linesMove_8 : decode cX12_linesMove 8 = .ok (.aload_n 0, 1) := by decide +kernel
theorem dX12_linesMove_9 : decode cX12_linesMove 9 = .ok (.getfield 30, 3) := by decide +kernel
theorem dX12_linesMove_12 : decode cX12_linesMove 12 = .ok (.invokestatic 83, 3) := by decide +kernel
theorem dX12_linesMove_15 : decode cX12_linesMove 15 = .ok (.ifCond .eq 69, 3) := by decide +kernel
theorem dX12_linesMove_18 : decode cX12_linesMove 18 = .ok (.aload_n 0, 1) := by decide +kernel
theorem dX12_linesMove_19 : decode cX12_linesMove 19 = .ok (.invokevirtual 256, 3) := by decide +kernel
theorem dX12_linesMove_22 : decode cX12_linesMove 22 = .ok (.aload_n 0, 1) := by decide +kernel
theorem dX12_linesMove_23 : decode cX12_linesMove 23 = .ok (.getfield 30, 3) := by decide +kernel
theorem dX12_linesMove_26 : decode cX12_linesMove 26 = .ok (.aload_n 0, 1) := by decide +kernel
theorem dX12_linesMove_27 : decode cX12_linesMove 27 = .ok (.getfield 113, 3) := by decide +kernel
theorem dX12_linesMove_30 : decode cX12_linesMove 30 = .ok (.isub, 1) := by decide +kernel
theorem dX12_linesMove_31 : decode cX12_linesMove 31 = .ok (.iconst 1, 1) := by decide +kernel
theorem dX12_linesMove_32 : decode cX12_linesMove 32 = .ok (.iadd, 1) := by decide +kernel
theorem dX12_linesMove_33 : decode cX12_linesMove 33 = .ok (.invokestatic 170, 3) := by decide +kernel
theorem dX12_linesMove_36 : decode cX12_linesMove 36 = .ok (.istore_n 2, 1) := by decide +kernel
theorem dX12_linesMove_37 : decode cX12_linesMove 37 = .ok (.iload_n 2, 1) := by decide +kernel
theorem dX12_linesMove_38 : decode cX12_linesMove 38 = .ok (.ifCond .le 41, 3) := by decide +kernel
theorem dX12_linesMove_41 : decode cX12_linesMove 41 = .ok (.iload_n 1, 1) := by decide +kernel
theorem dX12_linesMove_42 : decode cX12_linesMove 42 = .ok (.ifCond .eq 18, 3) := by decide +kernel
theorem dX12_linesMove_45 : decode cX12_linesMove 45 = .ok (.aload_n 0, 1) := by decide +kernel
theorem dX12_linesMove_46 : decode cX12_linesMove 46 = .ok (.aload_n 0, 1) := by decide +kernel
theorem dX12_linesMove_47 : decode cX12_linesMove 47 = .ok (.getfield 113, 3) := by decide +kernel
theorem dX12_linesMove_50 : decode cX12_linesMove 50 = .ok (.aload_n 0, 1) := by decide +kernel
theorem dX12_linesMove_51 : decode cX12_linesMove 51 = .ok (.getfield 30, 3) := by decide +kernel
theorem dX12_linesMove_54 : decode cX12_linesMove 54 = .ok (.invokevirtual 216, 3) := by decide +kernel
theorem dX12_linesMove_57 : decode cX12_linesMove 57 = .ok (.goto 16, 3) := by decide +kernel
theorem dX12_linesMove_60 : decode cX12_linesMove 60 = .ok (.aload_n 0, 1) := by decide +kernel
theorem dX12_linesMove_61 : decode cX12_linesMove 61 = .ok (.aload_n 0, 1) := by decide +kernel
theorem dX12_linesMove_62 : decode cX12_linesMove 62 = .ok (.getfield 113, 3) := by decide +kernel
theorem dX12_linesMove_65 : decode cX12_linesMove 65 = .ok (.aload_n 0, 1) := by decide +kernel
theorem dX12_linesMove_66 : decode cX12_linesMove 66 = .ok (.getfield 30, 3) := by decide +kernel
theorem dX12_linesMove_69 : decode cX12_linesMove 69 = .ok (.iconst 0, 1) := by decide +kernel
theorem dX12_linesMove_70 : decode cX12_linesMove 70 = .ok (.invokevirtual 119, 3) := by decide +kernel
theorem dX12_linesMove_73 : decode cX12_linesMove 73 = .ok (.iinc 2 (-1), 3) := by decide +kernel
theorem dX12_linesMove_76 : decode cX12_linesMove 76 = .ok (.goto (-39), 3) := by decide +kernel
theorem dX12_linesMove_79 : decode cX12_linesMove 79 = .ok (.aload_n 0, 1) := by decide +kernel
theorem dX12_linesMove_80 : decode cX12_linesMove 80 = .ok (.iconst 0, 1) := by decide +kernel
theorem dX12_linesMove_81 : decode cX12_linesMove 81 = .ok (.putfield 123, 3) := by decide +kernel
theorem dX12_linesMove_84 : decode cX12_linesMove 84 = .ok (.aload_n 0, 1) := by decide +kernel
theorem dX12_linesMove_85 : decode cX12_linesMove 85 = .ok (.iconst 0, 1) := by decide +kernel
theorem dX12_linesMove_86 : decode cX12_linesMove 86 = .ok (.putfield 126, 3) := by decide +kernel
theorem dX12_linesMove_89 : decode cX12_linesMove 89 = .ok (.return_, 1) := by decide +kernel
theorem dX12_setsRegion_0 : decode cX12_setsRegion 0 = .ok (.aload_n 0, 1) := by decide +kernel
theorem dX12_setsRegion_1 : decode cX12_setsRegion 1 = .ok (.invokevirtual 256, 3) := by decide +kernel
theorem dX12_setsRegion_4 : decode cX12_setsRegion 4 = .ok (.istore_n 1, 1) := by decide +kernel
theorem dX12_setsRegion_5 : decode cX12_setsRegion 5 = .ok (.aload_n 0, 1) := by decide +kernel
theorem dX12_setsRegion_6 : decode cX12_setsRegion 6 = .ok (.invokevirtual 259, 3) := by decide +kernel
theorem dX12_setsRegion_9 : decode cX12_setsRegion 9 = .ok (.ifCond .ne 10, 3) := by decide +kernel
theorem dX12_setsRegion_12 : decode cX12_setsRegion 12 = .ok (.aload_n 0, 1) := by decide +kernel
theorem dX12_setsRegion_13 : decode cX12_setsRegion 13 = .ok (.getfield 7, 3) := by decide +kernel
theorem dX12_setsRegion_16 : decode cX12_setsRegion 16 = .ok (.goto 7, 3) := by decide +kernel
theorem dX12_setsRegion_19 : decode cX12_setsRegion 19 = .ok (.aload_n 0, 1) := by decide +kernel
theorem dX12_setsRegion_20 : decode cX12_setsRegion 20 = .ok (.invokevirtual 259, 3) := by decide +kernel
theorem dX12_setsRegion_23 : decode cX12_setsRegion 23 = .ok (.istore_n 2, 1) := by decide +kernel
theorem dX12_setsRegion_24 : decode cX12_setsRegion 24 = .ok (.iload_n 1, 1) := by decide +kernel
theorem dX12_setsRegion_25 : decode cX12_setsRegion 25 = .ok (.iload_n 2, 1) := by decide +kernel
theorem dX12_setsRegion_26 : decode cX12_setsRegion 26 = .ok (.if_icmp .ge 49, 3) := by decide +kernel
theorem dX12_setsRegion_29 : decode cX12_setsRegion 29 = .ok (.iload_n 2, 1) := by decide +kernel
theorem dX12_setsRegion_30 : decode cX12_setsRegion 30 = .ok (.aload_n 0, 1) := by decide +kernel
theorem dX12_setsRegion_31 : decode cX12_setsRegion 31 = .ok (.getfield 7, 3) := by decide +kernel
theorem dX12_setsRegion_34 : decode cX12_setsRegion 34 = .ok (.if_icmp .gt 41, 3) := by decide +kernel
theorem dX12_setsRegion_37 : decode cX12_setsRegion 37 = .ok (.aload_n 0, 1) := by decide +kernel
theorem dX12_setsRegion_38 : decode cX12_setsRegion 38 = .ok (.iload_n 1, 1) := by decide +kernel
theorem dX12_setsRegion_39 : decode cX12_setsRegion 39 = .ok (.iconst 1, 1) := by decide +kernel
theorem dX12_setsRegion_40 : decode cX12_setsRegion 40 = .ok (.isub, 1) := by decide +kernel
theorem dX12_setsRegion_41 : decode cX12_setsRegion 41 = .ok (.putfield 116, 3) := by decide +kernel
theorem dX12_setsRegion_44 : decode cX12_setsRegion 44 = .ok (.aload_n 0, 1) := by decide +kernel
theorem dX12_setsRegion_45 : decode cX12_setsRegion 45 = .ok (.iload_n 2, 1) := by decide +kernel
theorem dX12_setsRegion_46 : decode cX12_setsRegion 46 = .ok (.iconst 1, 1) := by decide +kernel
theorem dX12_setsRegion_47 : decode cX12_setsRegion 47 = .ok (.isub, 1) := by decide +kernel
theorem dX12_setsRegion_48 : decode cX12_setsRegion 48 = .ok (.putfield 30, 3) := by decide +kernel
theorem dX12_setsRegion_51 : decode cX12_setsRegion 51 = .ok (.aload_n 0, 1) := by decide +kernel
theorem dX12_setsRegion_52 : decode cX12_setsRegion 52 = .ok (.aload_n 0, 1) := by decide +kernel
theorem dX12_setsRegion_53 : decode cX12_setsRegion 53 = .ok (.getfield 164, 3) := by decide +kernel
theorem dX12_setsRegion_56 : decode cX12_setsRegion 56 = .ok (.ifCond .eq 10, 3) := by decide +kernel
theorem dX12_setsRegion_59 : decode cX12_setsRegion 59 = .ok (.aload_n 0, 1) := by decide +kernel
theorem dX12_setsRegion_60 : decode cX12_setsRegion 60 = .ok (.getfield 116, 3) := by decide +kernel
theorem dX12_setsRegion_63 : decode cX12_setsRegion 63 = .ok (.goto 4, 3) := by decide +kernel
theorem dX12_setsRegion_66 : decode cX12_setsRegion 66 = .ok (.iconst 0, 1) := by decide +kernel
theorem dX12_setsRegion_67 : decode cX12_setsRegion 67 = .ok (.putfield 113, 3) := by decide +kernel
theorem dX12_setsRegion_70 : decode cX12_setsRegion 70 = .ok (.aload_n 0, 1) := by decide +kernel
theorem dX12_setsRegion_71 : decode cX12_setsRegion 71 = .ok (.iconst 0, 1) := by decide +kernel
theorem dX12_setsRegion_72 : decode cX12_setsRegion 72 = .ok (.putfield 123, 3) := by decide +kernel
theorem dX12_setsRegion_75 : decode cX12_setsRegion 75 = .ok (.aload_n 0, 1) := by decide +kernel
theorem dX12_setsRegion_76 : decode cX12_setsRegion 76 = .ok (.iconst 0, 1) := by decide +kernel
theorem dX12_setsRegion_77 : decode cX12_setsRegion 77 = .ok (.putfield 126, 3) := by decide +kernel
theorem dX12_setsRegion_80 : decode cX12_setsRegion 80 = .ok (.return_, 1) := by decide +kernel
theorem dX12_colours_0 : decode cX12_colours 0 = .ok (.iconst 0, 1) := by decide +kernel
theorem dX12_colours_1 : decode cX12_colours 1 = .ok (.istore_n 1, 1) := by decide +kernel
theorem dX12_colours_2 : decode cX12_colours 2 = .ok (.iload_n 1, 1) := by decide +kernel
theorem dX12_colours_3 : decode cX12_colours 3 = .ok (.aload_n 0, 1) := by decide +kernel
theorem dX12_colours_4 : decode cX12_colours 4 = .ok (.getfield 195, 3) := by decide +kernel
theorem dX12_colours_7 : decode cX12_colours 7 = .ok (.if_icmp .ge 81, 3) := by decide +kernel
theorem dX12_colours_10 : decode cX12_colours 10 = .ok (.aload_n 0, 1) := by decide +kernel
theorem dX12_colours_11 : decode cX12_colours 11 = .ok (.getfield 40, 3) := by decide +kernel
theorem dX12_colours_14 : decode cX12_colours 14 = .ok (.iload_n 1, 1) := by decide +kernel
theorem dX12_colours_15 : decode cX12_colours 15 = .ok (.iaload, 1) := by decide +kernel
theorem dX12_colours_16 : decode cX12_colours 16 = .ok (.istore_n 2, 1) := by decide +kernel
theorem dX12_colours_17 : decode cX12_colours 17 = .ok (.aload_n 0, 1) := by decide +kernel
theorem dX12_colours_18 : decode cX12_colours 18 = .ok (.iload_n 2, 1) := by decide +kernel
theorem dX12_colours_19 : decode cX12_colours 19 = .ok (.ifCond .ne 7, 3) := by decide +kernel
theorem dX12_colours_22 : decode cX12_colours 22 = .ok (.iconst 0, 1) := by decide +kernel
theorem dX12_colours_23 : decode cX12_colours 23 = .ok (.goto 56, 3) := by decide +kernel
theorem dX12_colours_26 : decode cX12_colours 26 = .ok (.iload_n 2, 1) := by decide +kernel
theorem dX12_colours_27 : decode cX12_colours 27 = .ok (.iconst 1, 1) := by decide +kernel
theorem dX12_colours_28 : decode cX12_colours 28 = .ok (.iconst 4, 1) := by decide +kernel
theorem dX12_colours_29 : decode cX12_colours 29 = .ok (.invokestatic 83, 3) := by decide +kernel
theorem dX12_colours_32 : decode cX12_colours 32 = .ok (.ifCond .eq 16, 3) := by decide +kernel
theorem dX12_colours_35 : decode cX12_colours 35 = .ok (.aload_n 0, 1) := by decide +kernel
theorem dX12_colours_36 : decode cX12_colours 36 = .ok (.getfield 142, 3) := by decide +kernel
theorem dX12_colours_39 : decode cX12_colours 39 = .ok (.iconst 1, 1) := by decide +kernel
theorem dX12_colours_40 : decode cX12_colours 40 = .ok (.iload_n 2, 1) := by decide +kernel
theorem dX12_colours_41 : decode cX12_colours 41 = .ok (.iconst 1, 1) := by decide +kernel
theorem dX12_colours_42 : decode cX12_colours 42 = .ok (.isub, 1) := by decide +kernel
theorem dX12_colours_43 : decode cX12_colours 43 = .ok (.ishl, 1) := by decide +kernel
theorem dX12_colours_44 : decode cX12_colours 44 = .ok (.ior, 1) := by decide +kernel
theorem dX12_colours_45 : decode cX12_colours 45 = .ok (.goto 34, 3) := by decide +kernel
theorem dX12_colours_48 : decode cX12_colours 48 = .ok (.iload_n 2, 1) := by decide +kernel
theorem dX12_colours_49 : decode cX12_colours 49 = .ok (.bipush 21, 2) := by decide +kernel
theorem dX12_colours_51 : decode cX12_colours 51 = .ok (.bipush 24, 2) := by decide +kernel
theorem dX12_colours_53 : decode cX12_colours 53 = .ok (.invokestatic 83, 3) := by decide +kernel
theorem dX12_colours_56 : decode cX12_colours 56 = .ok (.ifCond .eq 19, 3) := by decide +kernel
theorem dX12_colours_59 : decode cX12_colours 59 = .ok (.aload_n 0, 1) := by decide +kernel
theorem dX12_colours_60 : decode cX12_colours 60 = .ok (.getfield 142, 3) := by decide +kernel
theorem dX12_colours_63 : decode cX12_colours 63 = .ok (.iconst 1, 1) := by decide +kernel
theorem dX12_colours_64 : decode cX12_colours 64 = .ok (.iload_n 2, 1) := by decide +kernel
theorem dX12_colours_65 : decode cX12_colours 65 = .ok (.bipush 21, 2) := by decide +kernel
theorem dX12_colours_67 : decode cX12_colours 67 = .ok (.isub, 1) := by decide +kernel
theorem dX12_colours_68 : decode cX12_colours 68 = .ok (.ishl, 1) := by decide +kernel
theorem dX12_colours_69 : decode cX12_colours 69 = .ok (.iconst (-1), 1) := by decide +kernel
theorem dX12_colours_70 : decode cX12_colours 70 = .ok (.ixor, 1) := by decide +kernel
theorem dX12_colours_71 : decode cX12_colours 71 = .ok (.iand, 1) := by decide +kernel
theorem dX12_colours_72 : decode cX12_colours 72 = .ok (.goto 7, 3) := by decide +kernel
theorem dX12_colours_75 : decode cX12_colours 75 = .ok (.aload_n 0, 1) := by decide +kernel
theorem dX12_colours_76 : decode cX12_colours 76 = .ok (.getfield 142, 3) := by decide +kernel
theorem dX12_colours_79 : decode cX12_colours 79 = .ok (.putfield 142, 3) := by decide +kernel
theorem dX12_colours_82 : decode cX12_colours 82 = .ok (.iinc 1 1, 3) := by decide +kernel
theorem dX12_colours_85 : decode cX12_colours 85 = .ok (.goto (-83), 3) := by decide +kernel
theorem dX12_colours_88 : decode cX12_colours 88 = .ok (.return_, 1) := by decide +kernel
theorem dX12_sends_0 : decode cX12_sends 0 = .ok (.aload_n 0, 1) := by decide +kernel
theorem dX12_sends_1 : decode cX12_sends 1 = .ok (.getfield 262, 3) := by decide +kernel
theorem dX12_sends_4 : decode cX12_sends 4 = .ok (.sipush 200, 3) := by decide +kernel
theorem dX12_sends_7 : decode cX12_sends 7 = .ok (.if_icmp .ge 23, 3) := by decide +kernel
theorem dX12_sends_10 : decode cX12_sends 10 = .ok (.aload_n 0, 1) := by decide +kernel
theorem dX12_sends_11 : decode cX12_sends 11 = .ok (.getfield 58, 3) := by decide +kernel
theorem dX12_sends_14 : decode cX12_sends 14 = .ok (.aload_n 0, 1) := by decide +kernel
theorem dX12_sends_15 : decode cX12_sends 15 = .ok (.getfield 262, 3) := by decide +kernel
theorem dX12_sends_18 : decode cX12_sends 18 = .ok (.iload_n 1, 1) := by decide +kernel
theorem dX12_sends_19 : decode cX12_sends 19 = .ok (.iastore, 1) := by decide +kernel
theorem dX12_sends_20 : decode cX12_sends 20 = .ok (.aload_n 0, 1) := by decide +kernel
theorem dX12_sends_21 : decode cX12_sends 21 = .ok (.dup, 1) := by decide +kernel
theorem dX12_sends_22 : decode cX12_sends 22 = .ok (.getfield 262, 3) := by decide +kernel
theorem dX12_sends_25 : decode cX12_sends 25 = .ok (.iconst 1, 1) := by decide +kernel
theorem dX12_sends_26 : decode cX12_sends 26 = .ok (.iadd, 1) := by decide +kernel
theorem dX12_sends_27 : decode cX12_sends 27 = .ok (.putfield 262, 3) := by decide +kernel
theorem dX12_sends_30 : decode cX12_sends 30 = .ok (.return_, 1) := by decide +kernel
theorem dX12_sendsNumber_0 : decode cX12_sendsNumber 0 = .ok (.iload_n 1, 1) := by decide +kernel
theorem dX12_sendsNumber_1 : decode cX12_sendsNumber 1 = .ok (.bipush 9, 2) := by decide +kernel
theorem dX12_sendsNumber_3 : decode cX12_sendsNumber 3 = .ok (.if_icmp .le 14, 3) := by decide +kernel
theorem dX12_sendsNumber_6 : decode cX12_sendsNumber 6 = .ok (.aload_n 0, 1) := by decide +kernel
theorem dX12_sendsNumber_7 : decode cX12_sendsNumber 7 = .ok (.bipush 48, 2) := by decide +kernel
theorem dX12_sendsNumber_9 : decode cX12_sendsNumber 9 = .ok (.iload_n 1, 1) := by decide +kernel
theorem dX12_sendsNumber_10 : decode cX12_sendsNumber 10 = .ok (.bipush 10, 2) := by decide +kernel
theorem dX12_sendsNumber_12 : decode cX12_sendsNumber 12 = .ok (.idiv, 1) := by decide +kernel
theorem dX12_sendsNumber_13 : decode cX12_sendsNumber 13 = .ok (.iadd, 1) := by decide +kernel
theorem dX12_sendsNumber_14 : decode cX12_sendsNumber 14 = .ok (.invokevirtual 265, 3) := by decide +kernel
theorem dX12_sendsNumber_17 : decode cX12_sendsNumber 17 = .ok (.aload_n 0, 1) := by decide +kernel
theorem dX12_sendsNumber_18 : decode cX12_sendsNumber 18 = .ok (.bipush 48, 2) := by decide +kernel
theorem dX12_sendsNumber_20 : decode cX12_sendsNumber 20 = .ok (.iload_n 1, 1) := by decide +kernel
theorem dX12_sendsNumber_21 : decode cX12_sendsNumber 21 = .ok (.bipush 10, 2) := by decide +kernel
theorem dX12_sendsNumber_23 : decode cX12_sendsNumber 23 = .ok (.irem, 1) := by decide +kernel
theorem dX12_sendsNumber_24 : decode cX12_sendsNumber 24 = .ok (.iadd, 1) := by decide +kernel
theorem dX12_sendsNumber_25 : decode cX12_sendsNumber 25 = .ok (.invokevirtual 265, 3) := by decide +kernel
theorem dX12_sendsNumber_28 : decode cX12_sendsNumber 28 = .ok (.return_, 1) := by decide +kernel
theorem dX12_tells_0 : decode cX12_tells 0 = .ok (.aload_n 0, 1) := by decide +kernel
theorem dX12_tells_1 : decode cX12_tells 1 = .ok (.getfield 40, 3) := by decide +kernel
theorem dX12_tells_4 : decode cX12_tells 4 = .ok (.iconst 0, 1) := by decide +kernel
theorem dX12_tells_5 : decode cX12_tells 5 = .ok (.iaload, 1) := by decide +kernel
theorem dX12_tells_6 : decode cX12_tells 6 = .ok (.iconst 5, 1) := by decide +kernel
theorem dX12_tells_7 : decode cX12_tells 7 = .ok (.if_icmp .ne 30, 3) := by decide +kernel
theorem dX12_tells_10 : decode cX12_tells 10 = .ok (.aload_n 0, 1) := by decide +kernel
theorem dX12_tells_11 : decode cX12_tells 11 = .ok (.bipush 27, 2) := by decide +kernel
theorem dX12_tells_13 : decode cX12_tells 13 = .ok (.invokevirtual 265, 3) := by decide +kernel
theorem dX12_tells_16 : decode cX12_tells 16 = .ok (.aload_n 0, 1) := by decide +kernel
theorem dX12_tells_17 : decode cX12_tells 17 = .ok (.bipush 91, 2) := by decide +kernel
theorem dX12_tells_19 : decode cX12_tells 19 = .ok (.invokevirtual 265, 3) := by decide +kernel
theorem dX12_tells_22 : decode cX12_tells 22 = .ok (.aload_n 0, 1) := by decide +kernel
theorem dX12_tells_23 : decode cX12_tells 23 = .ok (.bipush 48, 2) := by decide +kernel
theorem dX12_tells_25 : decode cX12_tells 25 = .ok (.invokevirtual 265, 3) := by decide +kernel
theorem dX12_tells_28 : decode cX12_tells 28 = .ok (.aload_n 0, 1) := by decide +kernel
theorem dX12_tells_29 : decode cX12_tells 29 = .ok (.bipush 110, 2) := by decide +kernel
theorem dX12_tells_31 : decode cX12_tells 31 = .ok (.invokevirtual 265, 3) := by decide +kernel
theorem dX12_tells_34 : decode cX12_tells 34 = .ok (.goto 90, 3) := by decide +kernel
theorem dX12_tells_37 : decode cX12_tells 37 = .ok (.aload_n 0, 1) := by decide +kernel
theorem dX12_tells_38 : decode cX12_tells 38 = .ok (.getfield 40, 3) := by decide +kernel
theorem dX12_tells_41 : decode cX12_tells 41 = .ok (.iconst 0, 1) := by decide +kernel
theorem dX12_tells_42 : decode cX12_tells 42 = .ok (.iaload, 1) := by decide +kernel
theorem dX12_tells_43 : decode cX12_tells 43 = .ok (.bipush 6, 2) := by decide +kernel
theorem dX12_tells_45 : decode cX12_tells 45 = .ok (.if_icmp .ne 79, 3) := by decide +kernel
theorem dX12_tells_48 : decode cX12_tells 48 = .ok (.aload_n 0, 1) := by decide +kernel
theorem dX12_tells_49 : decode cX12_tells 49 = .ok (.getfield 164, 3) := by decide +kernel
theorem dX12_tells_52 : decode cX12_tells 52 = .ok (.ifCond .eq 17, 3) := by decide +kernel
theorem dX12_tells_55 : decode cX12_tells 55 = .ok (.aload_n 0, 1) := by decide +kernel
theorem dX12_tells_56 : decode cX12_tells 56 = .ok (.getfield 113, 3) := by decide +kernel
theorem dX12_tells_59 : decode cX12_tells 59 = .ok (.aload_n 0, 1) := by decide +kernel
theorem dX12_tells_60 : decode cX12_tells 60 = .ok (.getfield 116, 3) := by decide +kernel
theorem dX12_tells_63 : decode cX12_tells 63 = .ok (.isub, 1) := by decide +kernel
theorem dX12_tells_64 : decode cX12_tells 64 = .ok (.iconst 1, 1) := by decide +kernel
theorem dX12_tells_65 : decode cX12_tells 65 = .ok (.iadd, 1) := by decide +kernel
theorem dX12_tells_66 : decode cX12_tells 66 = .ok (.goto 9, 3) := by decide +kernel
theorem dX12_tells_69 : decode cX12_tells 69 = .ok (.aload_n 0, 1) := by decide +kernel
theorem dX12_tells_70 : decode cX12_tells 70 = .ok (.getfield 113, 3) := by decide +kernel
theorem dX12_tells_73 : decode cX12_tells 73 = .ok (.iconst 1, 1) := by decide +kernel
theorem dX12_tells_74 : decode cX12_tells 74 = .ok (.iadd, 1) := by decide +kernel
theorem dX12_tells_75 : decode cX12_tells 75 = .ok (.istore_n 1, 1) := by decide +kernel
theorem dX12_tells_76 : decode cX12_tells 76 = .ok (.aload_n 0, 1) := by decide +kernel
theorem dX12_tells_77 : decode cX12_tells 77 = .ok (.bipush 27, 2) := by decide +kernel
theorem dX12_tells_79 : decode cX12_tells 79 = .ok (.invokevirtual 265, 3) := by decide +kernel
theorem dX12_tells_82 : decode cX12_tells 82 = .ok (.aload_n 0, 1) := by decide +kernel
theorem dX12_tells_83 : decode cX12_tells 83 = .ok (.bipush 91, 2) := by decide +kernel
theorem dX12_tells_85 : decode cX12_tells 85 = .ok (.invokevirtual 265, 3) := by decide +kernel
theorem dX12_tells_88 : decode cX12_tells 88 = .ok (.aload_n 0, 1) := by decide +kernel
theorem dX12_tells_89 : decode cX12_tells 89 = .ok (.iload_n 1, 1) := by decide +kernel
theorem dX12_tells_90 : decode cX12_tells 90 = .ok (.iconst 1, 1) := by decide +kernel
theorem dX12_tells_91 : decode cX12_tells 91 = .ok (.if_icmp .ge 7, 3) := by decide +kernel
theorem dX12_tells_94 : decode cX12_tells 94 = .ok (.iconst 1, 1) := by decide +kernel
theorem dX12_tells_95 : decode cX12_tells 95 = .ok (.goto 4, 3) := by decide +kernel
theorem dX12_tells_98 : decode cX12_tells 98 = .ok (.iload_n 1, 1) := by decide +kernel
theorem dX12_tells_99 : decode cX12_tells 99 = .ok (.invokevirtual 268, 3) := by decide +kernel
theorem dX12_tells_102 : decode cX12_tells 102 = .ok (.aload_n 0, 1) := by decide +kernel
theorem dX12_tells_103 : decode cX12_tells 103 = .ok (.bipush 59, 2) := by decide +kernel
theorem dX12_tells_105 : decode cX12_tells 105 = .ok (.invokevirtual 265, 3) := by decide +kernel
theorem dX12_tells_108 : decode cX12_tells 108 = .ok (.aload_n 0, 1) := by decide +kernel
theorem dX12_tells_109 : decode cX12_tells 109 = .ok (.aload_n 0, 1) := by decide +kernel
theorem dX12_tells_110 : decode cX12_tells 110 = .ok (.getfield 123, 3) := by decide +kernel
theorem dX12_tells_113 : decode cX12_tells 113 = .ok (.iconst 1, 1) := by decide +kernel
theorem dX12_tells_114 : decode cX12_tells 114 = .ok (.iadd, 1) := by decide +kernel
theorem dX12_tells_115 : decode cX12_tells 115 = .ok (.invokevirtual 268, 3) := by decide +kernel
theorem dX12_tells_118 : decode cX12_tells 118 = .ok (.aload_n 0, 1) := by decide +kernel
theorem dX12_tells_119 : decode cX12_tells 119 = .ok (.bipush 82, 2) := by decide +kernel
theorem dX12_tells_121 : decode cX12_tells 121 = .ok (.invokevirtual 265, 3) := by decide +kernel
theorem dX12_tells_124 : decode cX12_tells 124 = .ok (.return_, 1) := by decide +kernel
theorem dX12_means_0 : decode cX12_means 0 = .ok (.aload_n 0, 1) := by decide +kernel
theorem dX12_means_1 : decode cX12_means 1 = .ok (.invokevirtual 256, 3) := by decide +kernel
theorem dX12_means_4 : decode cX12_means 4 = .ok (.istore_n 2, 1) := by decide +kernel
theorem dX12_means_5 : decode cX12_means 5 = .ok (.iload_n 1, 1) := by decide +kernel
theorem dX12_means_6 : decode cX12_means 6 = .ok (.tableswitch 450 64 88 #[375, 114, 145, 172, 199, 450, 450, 450, 230, 450, 309, 327, 359, 367, 450, 450, 396, 450, 450, 450, 450, 450, 450, 450, 417], 114) := by decide +kernel
theorem dX12_means_120 : decode cX12_means 120 = .ok (.aload_n 0, 1) := by decide +kernel
theorem dX12_means_121 : decode cX12_means 121 = .ok (.aload_n 0, 1) := by decide +kernel
theorem dX12_means_122 : decode cX12_means 122 = .ok (.getfield 113, 3) := by decide +kernel
theorem dX12_means_125 : decode cX12_means 125 = .ok (.iload_n 2, 1) := by decide +kernel
theorem dX12_means_126 : decode cX12_means 126 = .ok (.isub, 1) := by decide +kernel
theorem dX12_means_127 : decode cX12_means 127 = .ok (.ifCond .ge 7, 3) := by decide +kernel
theorem dX12_means_130 : decode cX12_means 130 = .ok (.iconst 0, 1) := by decide +kernel
theorem dX12_means_131 : decode cX12_means 131 = .ok (.goto 9, 3) := by decide +kernel
theorem dX12_means_134 : decode cX12_means 134 = .ok (.aload_n 0, 1) := by decide +kernel
theorem dX12_means_135 : decode cX12_means 135 = .ok (.getfield 113, 3) := by decide +kernel
theorem dX12_means_138 : decode cX12_means 138 = .ok (.iload_n 2, 1) := by decide +kernel
theorem dX12_means_139 : decode cX12_means 139 = .ok (.isub, 1) := by decide +kernel
theorem dX12_means_140 : decode cX12_means 140 = .ok (.putfield 113, 3) := by decide +kernel
theorem dX12_means_143 : decode cX12_means 143 = .ok (.aload_n 0, 1) := by decide +kernel
theorem dX12_means_144 : decode cX12_means 144 = .ok (.iconst 0, 1) := by decide +kernel
theorem dX12_means_145 : decode cX12_means 145 = .ok (.putfield 126, 3) := by decide +kernel
theorem dX12_means_148 : decode cX12_means 148 = .ok (.goto 314, 3) := by decide +kernel
theorem dX12_means_151 : decode cX12_means 151 = .ok (.aload_n 0, 1) := by decide +kernel
theorem dX12_means_152 : decode cX12_means 152 = .ok (.aload_n 0, 1) := by decide +kernel
theorem dX12_means_153 : decode cX12_means 153 = .ok (.getfield 113, 3) := by decide +kernel
theorem dX12_means_156 : decode cX12_means 156 = .ok (.iload_n 2, 1) := by decide +kernel
theorem dX12_means_157 : decode cX12_means 157 = .ok (.iadd, 1) := by decide +kernel
theorem dX12_means_158 : decode cX12_means 158 = .ok (.aload_n 0, 1) := by decide +kernel
theorem dX12_means_159 : decode cX12_means 159 = .ok (.getfield 7, 3) := by decide +kernel
theorem dX12_means_162 : decode cX12_means 162 = .ok (.iconst 1, 1) := by decide +kernel
theorem dX12_means_163 : decode cX12_means 163 = .ok (.isub, 1) := by decide +kernel
theorem dX12_means_164 : decode cX12_means 164 = .ok (.invokestatic 170, 3) := by decide +kernel
theorem dX12_means_167 : decode cX12_means 167 = .ok (.putfield 113, 3) := by decide +kernel
theorem dX12_means_170 : decode cX12_means 170 = .ok (.aload_n 0, 1) := by decide +kernel
theorem dX12_means_171 : decode cX12_means 171 = .ok (.iconst 0, 1) := by decide +kernel
theorem dX12_means_172 : decode cX12_means 172 = .ok (.putfield 126, 3) := by decide +kernel
theorem dX12_means_175 : decode cX12_means 175 = .ok (.goto 287, 3) := by decide +kernel
theorem dX12_means_178 : decode cX12_means 178 = .ok (.aload_n 0, 1) := by decide +kernel
theorem dX12_means_179 : decode cX12_means 179 = .ok (.aload_n 0, 1) := by decide +kernel
theorem dX12_means_180 : decode cX12_means 180 = .ok (.getfield 123, 3) := by decide +kernel
theorem dX12_means_183 : decode cX12_means 183 = .ok (.iload_n 2, 1) := by decide +kernel
theorem dX12_means_184 : decode cX12_means 184 = .ok (.iadd, 1) := by decide +kernel
theorem dX12_means_185 : decode cX12_means 185 = .ok (.aload_n 0, 1) := by decide +kernel
theorem dX12_means_186 : decode cX12_means 186 = .ok (.getfield 13, 3) := by decide +kernel
theorem dX12_means_189 : decode cX12_means 189 = .ok (.iconst 1, 1) := by decide +kernel
theorem dX12_means_190 : decode cX12_means 190 = .ok (.isub, 1) := by decide +kernel
theorem dX12_means_191 : decode cX12_means 191 = .ok (.invokestatic 170, 3) := by decide +kernel
theorem dX12_means_194 : decode cX12_means 194 = .ok (.putfield 123, 3) := by decide +kernel
theorem dX12_means_197 : decode cX12_means 197 = .ok (.aload_n 0, 1) := by decide +kernel
theorem dX12_means_198 : decode cX12_means 198 = .ok (.iconst 0, 1) := by decide +kernel
theorem dX12_means_199 : decode cX12_means 199 = .ok (.putfield 126, 3) := by decide +kernel
theorem dX12_means_202 : decode cX12_means 202 = .ok (.goto 260, 3) := by decide +kernel
theorem dX12_means_205 : decode cX12_means 205 = .ok (.aload_n 0, 1) := by decide +kernel
theorem dX12_means_206 : decode cX12_means 206 = .ok (.aload_n 0, 1) := by decide +kernel
theorem dX12_means_207 : decode cX12_means 207 = .ok (.getfield 123, 3) := by decide +kernel
theorem dX12_means_210 : decode cX12_means 210 = .ok (.iload_n 2, 1) := by decide +kernel
theorem dX12_means_211 : decode cX12_means 211 = .ok (.isub, 1) := by decide +kernel
theorem dX12_means_212 : decode cX12_means 212 = .ok (.ifCond .ge 7, 3) := by decide +kernel
theorem dX12_means_215 : decode cX12_means 215 = .ok (.iconst 0, 1) := by decide +kernel
theorem dX12_means_216 : decode cX12_means 216 = .ok (.goto 9, 3) := by decide +kernel
theorem dX12_means_219 : decode cX12_means 219 = .ok (.aload_n 0, 1) := by decide +kernel
theorem dX12_means_220 : decode cX12_means 220 = .ok (.getfield 123, 3) := by decide +kernel
theorem dX12_means_223 : decode cX12_means 223 = .ok (.iload_n 2, 1) := by decide +kernel
theorem dX12_means_224 : decode cX12_means 224 = .ok (.isub, 1) := by decide +kernel
theorem dX12_means_225 : decode cX12_means 225 = .ok (.putfield 123, 3) := by decide +kernel
theorem dX12_means_228 : decode cX12_means 228 = .ok (.aload_n 0, 1) := by decide +kernel
theorem dX12_means_229 : decode cX12_means 229 = .ok (.iconst 0, 1) := by decide +kernel
theorem dX12_means_230 : decode cX12_means 230 = .ok (.putfield 126, 3) := by decide +kernel
theorem dX12_means_233 : decode cX12_means 233 = .ok (.goto 229, 3) := by decide +kernel
theorem dX12_means_236 : decode cX12_means 236 = .ok (.aload_n 0, 1) := by decide +kernel
theorem dX12_means_237 : decode cX12_means 237 = .ok (.aload_n 0, 1) := by decide +kernel
theorem dX12_means_238 : decode cX12_means 238 = .ok (.getfield 164, 3) := by decide +kernel
theorem dX12_means_241 : decode cX12_means 241 = .ok (.ifCond .eq 21, 3) := by decide +kernel
theorem dX12_means_244 : decode cX12_means 244 = .ok (.aload_n 0, 1) := by decide +kernel
theorem dX12_means_245 : decode cX12_means 245 = .ok (.getfield 116, 3) := by decide +kernel
theorem dX12_means_248 : decode cX12_means 248 = .ok (.iload_n 2, 1) := by decide +kernel
theorem dX12_means_249 : decode cX12_means 249 = .ok (.iadd, 1) := by decide +kernel
theorem dX12_means_250 : decode cX12_means 250 = .ok (.iconst 1, 1) := by decide +kernel
theorem dX12_means_251 : decode cX12_means 251 = .ok (.isub, 1) := by decide +kernel
theorem dX12_means_252 : decode cX12_means 252 = .ok (.aload_n 0, 1) := by decide +kernel
theorem dX12_means_253 : decode cX12_means 253 = .ok (.getfield 30, 3) := by decide +kernel
theorem dX12_means_256 : decode cX12_means 256 = .ok (.invokestatic 170, 3) := by decide +kernel
theorem dX12_means_259 : decode cX12_means 259 = .ok (.goto 15, 3) := by decide +kernel
theorem dX12_means_262 : decode cX12_means 262 = .ok (.iload_n 2, 1) := by decide +kernel
theorem dX12_means_263 : decode cX12_means 263 = .ok (.iconst 1, 1) := by decide +kernel
theorem dX12_means_264 : decode cX12_means 264 = .ok (.isub, 1) := by decide +kernel
theorem dX12_means_265 : decode cX12_means 265 = .ok (.aload_n 0, 1) := by decide +kernel
theorem dX12_means_266 : decode cX12_means 266 = .ok (.getfield 7, 3) := by decide +kernel
theorem dX12_means_269 : decode cX12_means 269 = .ok (.iconst 1, 1) := by decide +kernel
theorem dX12_means_270 : decode cX12_means 270 = .ok (.isub, 1) := by decide +kernel
theorem dX12_means_271 : decode cX12_means 271 = .ok (.invokestatic 170, 3) := by decide +kernel
theorem dX12_means_274 : decode cX12_means 274 = .ok (.putfield 113, 3) := by decide +kernel
theorem dX12_means_277 : decode cX12_means 277 = .ok (.aload_n 0, 1) := by decide +kernel
theorem dX12_means_278 : decode cX12_means 278 = .ok (.aload_n 0, 1) := by decide +kernel
theorem dX12_means_279 : decode cX12_means 279 = .ok (.invokevirtual 259, 3) := by decide +kernel
theorem dX12_means_282 : decode cX12_means 282 = .ok (.ifCond .ne 7, 3) := by decide +kernel
theorem dX12_means_285 : decode cX12_means 285 = .ok (.iconst 0, 1) := by decide +kernel
theorem dX12_means_286 : decode cX12_means 286 = .ok (.goto 18, 3) := by decide +kernel
theorem dX12_means_289 : decode cX12_means 289 = .ok (.aload_n 0, 1) := by decide +kernel
theorem dX12_means_290 : decode cX12_means 290 = .ok (.invokevirtual 259, 3) := by decide +kernel
theorem dX12_means_293 : decode cX12_means 293 = .ok (.iconst 1, 1) := by decide +kernel
theorem dX12_means_294 : decode cX12_means 294 = .ok (.isub, 1) := by decide +kernel
theorem dX12_means_295 : decode cX12_means 295 = .ok (.aload_n 0, 1) := by decide +kernel
theorem dX12_means_296 : decode cX12_means 296 = .ok (.getfield 13, 3) := by decide +kernel
theorem dX12_means_299 : decode cX12_means 299 = .ok (.iconst 1, 1) := by decide +kernel
theorem dX12_means_300 : decode cX12_means 300 = .ok (.isub, 1) := by decide +kernel
theorem dX12_means_301 : decode cX12_means 301 = .ok (.invokestatic 170, 3) := by decide +kernel
theorem dX12_means_304 : decode cX12_means 304 = .ok (.putfield 123, 3) := by decide +kernel
theorem dX12_means_307 : decode cX12_means 307 = .ok (.aload_n 0, 1) := by decide +kernel
theorem dX12_means_308 : decode cX12_means 308 = .ok (.iconst 0, 1) := by decide +kernel
theorem dX12_means_309 : decode cX12_means 309 = .ok (.putfield 126, 3) := by decide +kernel
theorem dX12_means_312 : decode cX12_means 312 = .ok (.goto 150, 3) := by decide +kernel
theorem dX12_means_315 : decode cX12_means 315 = .ok (.aload_n 0, 1) := by decide +kernel
theorem dX12_means_316 : decode cX12_means 316 = .ok (.aload_n 0, 1) := by decide +kernel
theorem dX12_means_317 : decode cX12_means 317 = .ok (.getfield 40, 3) := by decide +kernel
theorem dX12_means_320 : decode cX12_means 320 = .ok (.iconst 0, 1) := by decide +kernel
theorem dX12_means_321 : decode cX12_means 321 = .ok (.iaload, 1) := by decide +kernel
theorem dX12_means_322 : decode cX12_means 322 = .ok (.invokevirtual 271, 3) := by decide +kernel
theorem dX12_means_325 : decode cX12_means 325 = .ok (.aload_n 0, 1) := by decide +kernel
theorem dX12_means_326 : decode cX12_means 326 = .ok (.iconst 0, 1) := by decide +kernel
theorem dX12_means_327 : decode cX12_means 327 = .ok (.putfield 126, 3) := by decide +kernel
theorem dX12_means_330 : decode cX12_means 330 = .ok (.goto 132, 3) := by decide +kernel
theorem dX12_means_333 : decode cX12_means 333 = .ok (.aload_n 0, 1) := by decide +kernel
theorem dX12_means_334 : decode cX12_means 334 = .ok (.getfield 40, 3) := by decide +kernel
theorem dX12_means_337 : decode cX12_means 337 = .ok (.iconst 0, 1) := by decide +kernel
theorem dX12_means_338 : decode cX12_means 338 = .ok (.iaload, 1) := by decide +kernel
theorem dX12_means_339 : decode cX12_means 339 = .ok (.iconst 3, 1) := by decide +kernel
theorem dX12_means_340 : decode cX12_means 340 = .ok (.if_icmp .ge 17, 3) := by decide +kernel
theorem dX12_means_343 : decode cX12_means 343 = .ok (.aload_n 0, 1) := by decide +kernel
theorem dX12_means_344 : decode cX12_means 344 = .ok (.aload_n 0, 1) := by decide +kernel
theorem dX12_means_345 : decode cX12_means 345 = .ok (.getfield 113, 3) := by decide +kernel
theorem dX12_means_348 : decode cX12_means 348 = .ok (.aload_n 0, 1) := by decide +kernel
theorem dX12_means_349 : decode cX12_means 349 = .ok (.getfield 40, 3) := by decide +kernel
theorem dX12_means_352 : decode cX12_means 352 = .ok (.iconst 0, 1) := by decide +kernel
theorem dX12_means_353 : decode cX12_means 353 = .ok (.iaload, 1) := by decide +kernel
theorem dX12_means_354 : decode cX12_means 354 = .ok (.invokevirtual 253, 3) := by decide +kernel
theorem dX12_means_357 : decode cX12_means 357 = .ok (.aload_n 0, 1) := by decide +kernel
theorem dX12_means_358 : decode cX12_means 358 = .ok (.iconst 0, 1) := by decide +kernel
theorem dX12_means_359 : decode cX12_means 359 = .ok (.putfield 126, 3) := by decide +kernel
theorem dX12_means_362 : decode cX12_means 362 = .ok (.goto 100, 3) := by decide +kernel
theorem dX12_means_365 : decode cX12_means 365 = .ok (.aload_n 0, 1) := by decide +kernel
theorem dX12_means_366 : decode cX12_means 366 = .ok (.iconst 1, 1) := by decide +kernel
theorem dX12_means_367 : decode cX12_means 367 = .ok (.invokevirtual 274, 3) := by decide +kernel
theorem dX12_means_370 : decode cX12_means 370 = .ok (.goto 92, 3) := by decide +kernel
theorem dX12_means_373 : decode cX12_means 373 = .ok (.aload_n 0, 1) := by decide +kernel
theorem dX12_means_374 : decode cX12_means 374 = .ok (.iconst 0, 1) := by decide +kernel
theorem dX12_means_375 : decode cX12_means 375 = .ok (.invokevirtual 274, 3) := by decide +kernel
theorem dX12_means_378 : decode cX12_means 378 = .ok (.goto 84, 3) := by decide +kernel
theorem dX12_means_381 : decode cX12_means 381 = .ok (.aload_n 0, 1) := by decide +kernel
theorem dX12_means_382 : decode cX12_means 382 = .ok (.aload_n 0, 1) := by decide +kernel
theorem dX12_means_383 : decode cX12_means 383 = .ok (.getfield 113, 3) := by decide +kernel
theorem dX12_means_386 : decode cX12_means 386 = .ok (.aload_n 0, 1) := by decide +kernel
theorem dX12_means_387 : decode cX12_means 387 = .ok (.getfield 123, 3) := by decide +kernel
theorem dX12_means_390 : decode cX12_means 390 = .ok (.iload_n 2, 1) := by decide +kernel
theorem dX12_means_391 : decode cX12_means 391 = .ok (.invokevirtual 139, 3) := by decide +kernel
theorem dX12_means_394 : decode cX12_means 394 = .ok (.aload_n 0, 1) := by decide +kernel
theorem dX12_means_395 : decode cX12_means 395 = .ok (.iconst 0, 1) := by decide +kernel
theorem dX12_means_396 : decode cX12_means 396 = .ok (.putfield 126, 3) := by decide +kernel
theorem dX12_means_399 : decode cX12_means 399 = .ok (.goto 63, 3) := by decide +kernel
theorem dX12_means_402 : decode cX12_means 402 = .ok (.aload_n 0, 1) := by decide +kernel
theorem dX12_means_403 : decode cX12_means 403 = .ok (.aload_n 0, 1) := by decide +kernel
theorem dX12_means_404 : decode cX12_means 404 = .ok (.getfield 113, 3) := by decide +kernel
theorem dX12_means_407 : decode cX12_means 407 = .ok (.aload_n 0, 1) := by decide +kernel
theorem dX12_means_408 : decode cX12_means 408 = .ok (.getfield 123, 3) := by decide +kernel
theorem dX12_means_411 : decode cX12_means 411 = .ok (.iload_n 2, 1) := by decide +kernel
theorem dX12_means_412 : decode cX12_means 412 = .ok (.invokevirtual 278, 3) := by decide +kernel
theorem dX12_means_415 : decode cX12_means 415 = .ok (.aload_n 0, 1) := by decide +kernel
theorem dX12_means_416 : decode cX12_means 416 = .ok (.iconst 0, 1) := by decide +kernel
theorem dX12_means_417 : decode cX12_means 417 = .ok (.putfield 126, 3) := by decide +kernel
theorem dX12_means_420 : decode cX12_means 420 = .ok (.goto 42, 3) := by decide +kernel
theorem dX12_means_423 : decode cX12_means 423 = .ok (.aload_n 0, 1) := by decide +kernel
theorem dX12_means_424 : decode cX12_means 424 = .ok (.aload_n 0, 1) := by decide +kernel
theorem dX12_means_425 : decode cX12_means 425 = .ok (.getfield 113, 3) := by decide +kernel
theorem dX12_means_428 : decode cX12_means 428 = .ok (.aload_n 0, 1) := by decide +kernel
theorem dX12_means_429 : decode cX12_means 429 = .ok (.getfield 123, 3) := by decide +kernel
theorem dX12_means_432 : decode cX12_means 432 = .ok (.aload_n 0, 1) := by decide +kernel
theorem dX12_means_433 : decode cX12_means 433 = .ok (.getfield 123, 3) := by decide +kernel
theorem dX12_means_436 : decode cX12_means 436 = .ok (.iload_n 2, 1) := by decide +kernel
theorem dX12_means_437 : decode cX12_means 437 = .ok (.iadd, 1) := by decide +kernel
theorem dX12_means_438 : decode cX12_means 438 = .ok (.aload_n 0, 1) := by decide +kernel
theorem dX12_means_439 : decode cX12_means 439 = .ok (.getfield 13, 3) := by decide +kernel
theorem dX12_means_442 : decode cX12_means 442 = .ok (.invokestatic 170, 3) := by decide +kernel
theorem dX12_means_445 : decode cX12_means 445 = .ok (.invokevirtual 129, 3) := by decide +kernel
theorem dX12_means_448 : decode cX12_means 448 = .ok (.aload_n 0, 1) := by decide +kernel
theorem dX12_means_449 : decode cX12_means 449 = .ok (.iconst 0, 1) := by decide +kernel
theorem dX12_means_450 : decode cX12_means 450 = .ok (.putfield 126, 3) := by decide +kernel
theorem dX12_means_453 : decode cX12_means 453 = .ok (.goto 9, 3) := by decide +kernel
theorem dX12_means_456 : decode cX12_means 456 = .ok (.aload_n 0, 1) := by decide +kernel
theorem dX12_means_457 : decode cX12_means 457 = .ok (.iload_n 1, 1) := by decide +kernel
theorem dX12_means_458 : decode cX12_means 458 = .ok (.iload_n 2, 1) := by decide +kernel
theorem dX12_means_459 : decode cX12_means 459 = .ok (.invokevirtual 281, 3) := by decide +kernel
theorem dX12_means_462 : decode cX12_means 462 = .ok (.return_, 1) := by decide +kernel
theorem dX12_meansMore_0 : decode cX12_meansMore 0 = .ok (.iload_n 1, 1) := by decide +kernel
theorem dX12_meansMore_1 : decode cX12_meansMore 1 = .ok (.lookupswitch 187 #[(83, 59), (84, 88), (103, 130), (109, 123), (110, 180), (114, 116)], 59) := by decide +kernel
theorem dX12_meansMore_60 : decode cX12_meansMore 60 = .ok (.iconst 0, 1) := by decide +kernel
theorem dX12_meansMore_61 : decode cX12_meansMore 61 = .ok (.istore_n 3, 1) := by decide +kernel
theorem dX12_meansMore_62 : decode cX12_meansMore 62 = .ok (.iload_n 3, 1) := by decide +kernel
theorem dX12_meansMore_63 : decode cX12_meansMore 63 = .ok (.iload_n 2, 1) := by decide +kernel
theorem dX12_meansMore_64 : decode cX12_meansMore 64 = .ok (.if_icmp .ge 22, 3) := by decide +kernel
theorem dX12_meansMore_67 : decode cX12_meansMore 67 = .ok (.aload_n 0, 1) := by decide +kernel
theorem dX12_meansMore_68 : decode cX12_meansMore 68 = .ok (.aload_n 0, 1) := by decide +kernel
theorem dX12_meansMore_69 : decode cX12_meansMore 69 = .ok (.getfield 116, 3) := by decide +kernel
theorem dX12_meansMore_72 : decode cX12_meansMore 72 = .ok (.aload_n 0, 1) := by decide +kernel
theorem dX12_meansMore_73 : decode cX12_meansMore 73 = .ok (.getfield 30, 3) := by decide +kernel
theorem dX12_meansMore_76 : decode cX12_meansMore 76 = .ok (.iconst 1, 1) := by decide +kernel
theorem dX12_meansMore_77 : decode cX12_meansMore 77 = .ok (.invokevirtual 119, 3) := by decide +kernel
theorem dX12_meansMore_80 : decode cX12_meansMore 80 = .ok (.iinc 3 1, 3) := by decide +kernel
theorem dX12_meansMore_83 : decode cX12_meansMore 83 = .ok (.goto (-21), 3) := by decide +kernel
theorem dX12_meansMore_86 : decode cX12_meansMore 86 = .ok (.goto 108, 3) := by decide +kernel
theorem dX12_meansMore_89 : decode cX12_meansMore 89 = .ok (.iconst 0, 1) := by decide +kernel
theorem dX12_meansMore_90 : decode cX12_meansMore 90 = .ok (.istore_n 3, 1) := by decide +kernel
