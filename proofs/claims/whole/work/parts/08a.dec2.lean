theorem dX4_init_0 : decode cX4_init 0 = .ok (.aload_n 0, 1) := by decide +kernel
theorem dX4_init_1 : decode cX4_init 1 = .ok (.invokespecial 3, 3) := by decide +kernel
theorem dX4_init_4 : decode cX4_init 4 = .ok (.aload_n 0, 1) := by decide +kernel
theorem dX4_init_5 : decode cX4_init 5 = .ok (.new 9, 3) := by decide +kernel
theorem dX4_init_8 : decode cX4_init 8 = .ok (.dup, 1) := by decide +kernel
theorem dX4_init_9 : decode cX4_init 9 = .ok (.invokespecial 11, 3) := by decide +kernel
theorem dX4_init_12 : decode cX4_init 12 = .ok (.putfield 12, 3) := by decide +kernel
theorem dX4_init_15 : decode cX4_init 15 = .ok (.aload_n 0, 1) := by decide +kernel
theorem dX4_init_16 : decode cX4_init 16 = .ok (.new 18, 3) := by decide +kernel
theorem dX4_init_19 : decode cX4_init 19 = .ok (.dup, 1) := by decide +kernel
theorem dX4_init_20 : decode cX4_init 20 = .ok (.invokespecial 20, 3) := by decide +kernel
theorem dX4_init_23 : decode cX4_init 23 = .ok (.putfield 21, 3) := by decide +kernel
theorem dX4_init_26 : decode cX4_init 26 = .ok (.aload_n 0, 1) := by decide +kernel
theorem dX4_init_27 : decode cX4_init 27 = .ok (.sipush 1248, 3) := by decide +kernel
theorem dX4_init_30 : decode cX4_init 30 = .ok (.newarray .int, 2) := by decide +kernel
theorem dX4_init_32 : decode cX4_init 32 = .ok (.putfield 25, 3) := by decide +kernel
theorem dX4_init_35 : decode cX4_init 35 = .ok (.aload_n 0, 1) := by decide +kernel
theorem dX4_init_36 : decode cX4_init 36 = .ok (.sipush 512, 3) := by decide +kernel
theorem dX4_init_39 : decode cX4_init 39 = .ok (.newarray .int, 2) := by decide +kernel
theorem dX4_init_41 : decode cX4_init 41 = .ok (.putfield 29, 3) := by decide +kernel
theorem dX4_init_44 : decode cX4_init 44 = .ok (.aload_n 0, 1) := by decide +kernel
theorem dX4_init_45 : decode cX4_init 45 = .ok (.sipush 512, 3) := by decide +kernel
theorem dX4_init_48 : decode cX4_init 48 = .ok (.newarray .int, 2) := by decide +kernel
theorem dX4_init_50 : decode cX4_init 50 = .ok (.putfield 32, 3) := by decide +kernel
theorem dX4_init_53 : decode cX4_init 53 = .ok (.aload_n 0, 1) := by decide +kernel
theorem dX4_init_54 : decode cX4_init 54 = .ok (.sipush 512, 3) := by decide +kernel
theorem dX4_init_57 : decode cX4_init 57 = .ok (.newarray .boolean, 2) := by decide +kernel
theorem dX4_init_59 : decode cX4_init 59 = .ok (.putfield 35, 3) := by decide +kernel
theorem dX4_init_62 : decode cX4_init 62 = .ok (.return_, 1) := by decide +kernel
theorem dX4_wrap_0 : decode cX4_wrap 0 = .ok (.aload_n 0, 1) := by decide +kernel
theorem dX4_wrap_1 : decode cX4_wrap 1 = .ok (.iload_n 3, 1) := by decide +kernel
theorem dX4_wrap_2 : decode cX4_wrap 2 = .ok (.putfield 39, 3) := by decide +kernel
theorem dX4_wrap_5 : decode cX4_wrap 5 = .ok (.aload_n 0, 1) := by decide +kernel
theorem dX4_wrap_6 : decode cX4_wrap 6 = .ok (.iconst 0, 1) := by decide +kernel
theorem dX4_wrap_7 : decode cX4_wrap 7 = .ok (.putfield 43, 3) := by decide +kernel
theorem dX4_wrap_10 : decode cX4_wrap 10 = .ok (.aload_n 0, 1) := by decide +kernel
theorem dX4_wrap_11 : decode cX4_wrap 11 = .ok (.iconst 0, 1) := by decide +kernel
theorem dX4_wrap_12 : decode cX4_wrap 12 = .ok (.putfield 46, 3) := by decide +kernel
theorem dX4_wrap_15 : decode cX4_wrap 15 = .ok (.aload_n 0, 1) := by decide +kernel
theorem dX4_wrap_16 : decode cX4_wrap 16 = .ok (.iconst 0, 1) := by decide +kernel
theorem dX4_wrap_17 : decode cX4_wrap 17 = .ok (.putfield 49, 3) := by decide +kernel
theorem dX4_wrap_20 : decode cX4_wrap 20 = .ok (.aload_n 0, 1) := by decide +kernel
theorem dX4_wrap_21 : decode cX4_wrap 21 = .ok (.getfield 21, 3) := by decide +kernel
theorem dX4_wrap_24 : decode cX4_wrap 24 = .ok (.invokevirtual 53, 3) := by decide +kernel
theorem dX4_wrap_27 : decode cX4_wrap 27 = .ok (.istore 4, 2) := by decide +kernel
theorem dX4_wrap_29 : decode cX4_wrap 29 = .ok (.iload 4, 2) := by decide +kernel
theorem dX4_wrap_31 : decode cX4_wrap 31 = .ok (.aload_n 0, 1) := by decide +kernel
theorem dX4_wrap_32 : decode cX4_wrap 32 = .ok (.aload_n 1, 1) := by decide +kernel
theorem dX4_wrap_33 : decode cX4_wrap 33 = .ok (.getfield 57, 3) := by decide +kernel
theorem dX4_wrap_36 : decode cX4_wrap 36 = .ok (.invokevirtual 62, 3) := by decide +kernel
theorem dX4_wrap_39 : decode cX4_wrap 39 = .ok (.iadd, 1) := by decide +kernel
theorem dX4_wrap_40 : decode cX4_wrap 40 = .ok (.istore 5, 2) := by decide +kernel
theorem dX4_wrap_42 : decode cX4_wrap 42 = .ok (.iconst 0, 1) := by decide +kernel
theorem dX4_wrap_43 : decode cX4_wrap 43 = .ok (.istore 6, 2) := by decide +kernel
theorem dX4_wrap_45 : decode cX4_wrap 45 = .ok (.iconst 0, 1) := by decide +kernel
theorem dX4_wrap_46 : decode cX4_wrap 46 = .ok (.istore 7, 2) := by decide +kernel
theorem dX4_wrap_48 : decode cX4_wrap 48 = .ok (.iload 7, 2) := by decide +kernel
theorem dX4_wrap_50 : decode cX4_wrap 50 = .ok (.iload 5, 2) := by decide +kernel
theorem dX4_wrap_52 : decode cX4_wrap 52 = .ok (.if_icmp .ge 71, 3) := by decide +kernel
theorem dX4_wrap_55 : decode cX4_wrap 55 = .ok (.iload 6, 2) := by decide +kernel
theorem dX4_wrap_57 : decode cX4_wrap 57 = .ok (.ifCond .ne 7, 3) := by decide +kernel
theorem dX4_wrap_60 : decode cX4_wrap 60 = .ok (.aload_n 0, 1) := by decide +kernel
theorem dX4_wrap_61 : decode cX4_wrap 61 = .ok (.invokevirtual 66, 3) := by decide +kernel
theorem dX4_wrap_64 : decode cX4_wrap 64 = .ok (.iload 7, 2) := by decide +kernel
theorem dX4_wrap_66 : decode cX4_wrap 66 = .ok (.iconst 1, 1) := by decide +kernel
theorem dX4_wrap_67 : decode cX4_wrap 67 = .ok (.iadd, 1) := by decide +kernel
theorem dX4_wrap_68 : decode cX4_wrap 68 = .ok (.iload 5, 2) := by decide +kernel
theorem dX4_wrap_70 : decode cX4_wrap 70 = .ok (.if_icmp .ge 16, 3) := by decide +kernel
theorem dX4_wrap_73 : decode cX4_wrap 73 = .ok (.aload_n 0, 1) := by decide +kernel
theorem dX4_wrap_74 : decode cX4_wrap 74 = .ok (.iload 7, 2) := by decide +kernel
theorem dX4_wrap_76 : decode cX4_wrap 76 = .ok (.invokevirtual 69, 3) := by decide +kernel
theorem dX4_wrap_79 : decode cX4_wrap 79 = .ok (.ifCond .eq 7, 3) := by decide +kernel
theorem dX4_wrap_82 : decode cX4_wrap 82 = .ok (.iconst 1, 1) := by decide +kernel
theorem dX4_wrap_83 : decode cX4_wrap 83 = .ok (.goto 4, 3) := by decide +kernel
theorem dX4_wrap_86 : decode cX4_wrap 86 = .ok (.iconst 0, 1) := by decide +kernel
theorem dX4_wrap_87 : decode cX4_wrap 87 = .ok (.istore 6, 2) := by decide +kernel
theorem dX4_wrap_89 : decode cX4_wrap 89 = .ok (.aload_n 0, 1) := by decide +kernel
theorem dX4_wrap_90 : decode cX4_wrap 90 = .ok (.iload 7, 2) := by decide +kernel
theorem dX4_wrap_92 : decode cX4_wrap 92 = .ok (.iload 6, 2) := by decide +kernel
theorem dX4_wrap_94 : decode cX4_wrap 94 = .ok (.iload 7, 2) := by decide +kernel
theorem dX4_wrap_96 : decode cX4_wrap 96 = .ok (.iload 4, 2) := by decide +kernel
theorem dX4_wrap_98 : decode cX4_wrap 98 = .ok (.aload_n 1, 1) := by decide +kernel
theorem dX4_wrap_99 : decode cX4_wrap 99 = .ok (.getfield 57, 3) := by decide +kernel
theorem dX4_wrap_102 : decode cX4_wrap 102 = .ok (.iadd, 1) := by decide +kernel
theorem dX4_wrap_103 : decode cX4_wrap 103 = .ok (.if_icmp .ne 10, 3) := by decide +kernel
theorem dX4_wrap_106 : decode cX4_wrap 106 = .ok (.aload_n 1, 1) := by decide +kernel
theorem dX4_wrap_107 : decode cX4_wrap 107 = .ok (.getfield 73, 3) := by decide +kernel
theorem dX4_wrap_110 : decode cX4_wrap 110 = .ok (.goto 4, 3) := by decide +kernel
theorem dX4_wrap_113 : decode cX4_wrap 113 = .ok (.iconst (-1), 1) := by decide +kernel
theorem dX4_wrap_114 : decode cX4_wrap 114 = .ok (.invokevirtual 76, 3) := by decide +kernel
theorem dX4_wrap_117 : decode cX4_wrap 117 = .ok (.iinc 7 1, 3) := by decide +kernel
theorem dX4_wrap_120 : decode cX4_wrap 120 = .ok (.goto (-72), 3) := by decide +kernel
theorem dX4_wrap_123 : decode cX4_wrap 123 = .ok (.aload_n 0, 1) := by decide +kernel
theorem dX4_wrap_124 : decode cX4_wrap 124 = .ok (.getfield 46, 3) := by decide +kernel
theorem dX4_wrap_127 : decode cX4_wrap 127 = .ok (.iload_n 2, 1) := by decide +kernel
theorem dX4_wrap_128 : decode cX4_wrap 128 = .ok (.isub, 1) := by decide +kernel
theorem dX4_wrap_129 : decode cX4_wrap 129 = .ok (.iconst 0, 1) := by decide +kernel
theorem dX4_wrap_130 : decode cX4_wrap 130 = .ok (.invokestatic 80, 3) := by decide +kernel
theorem dX4_wrap_133 : decode cX4_wrap 133 = .ok (.aload_n 0, 1) := by decide +kernel
theorem dX4_wrap_134 : decode cX4_wrap 134 = .ok (.getfield 86, 3) := by decide +kernel
theorem dX4_wrap_137 : decode cX4_wrap 137 = .ok (.invokestatic 89, 3) := by decide +kernel
theorem dX4_wrap_140 : decode cX4_wrap 140 = .ok (.istore 7, 2) := by decide +kernel
theorem dX4_wrap_142 : decode cX4_wrap 142 = .ok (.aload_n 0, 1) := by decide +kernel
theorem dX4_wrap_143 : decode cX4_wrap 143 = .ok (.iload_n 2, 1) := by decide +kernel
theorem dX4_wrap_144 : decode cX4_wrap 144 = .ok (.iload_n 3, 1) := by decide +kernel
theorem dX4_wrap_145 : decode cX4_wrap 145 = .ok (.iload 7, 2) := by decide +kernel
theorem dX4_wrap_147 : decode cX4_wrap 147 = .ok (.invokevirtual 92, 3) := by decide +kernel
theorem dX4_wrap_150 : decode cX4_wrap 150 = .ok (.aload_n 1, 1) := by decide +kernel
theorem dX4_wrap_151 : decode cX4_wrap 151 = .ok (.aload_n 0, 1) := by decide +kernel
theorem dX4_wrap_152 : decode cX4_wrap 152 = .ok (.getfield 86, 3) := by decide +kernel
theorem dX4_wrap_155 : decode cX4_wrap 155 = .ok (.iload 7, 2) := by decide +kernel
theorem dX4_wrap_157 : decode cX4_wrap 157 = .ok (.isub, 1) := by decide +kernel
theorem dX4_wrap_158 : decode cX4_wrap 158 = .ok (.putfield 57, 3) := by decide +kernel
theorem dX4_wrap_161 : decode cX4_wrap 161 = .ok (.aload_n 1, 1) := by decide +kernel
theorem dX4_wrap_162 : decode cX4_wrap 162 = .ok (.aload_n 0, 1) := by decide +kernel
theorem dX4_wrap_163 : decode cX4_wrap 163 = .ok (.getfield 96, 3) := by decide +kernel
theorem dX4_wrap_166 : decode cX4_wrap 166 = .ok (.putfield 73, 3) := by decide +kernel
theorem dX4_wrap_169 : decode cX4_wrap 169 = .ok (.aload_n 1, 1) := by decide +kernel
theorem dX4_wrap_170 : decode cX4_wrap 170 = .ok (.aload_n 1, 1) := by decide +kernel
theorem dX4_wrap_171 : decode cX4_wrap 171 = .ok (.getfield 99, 3) := by decide +kernel
theorem dX4_wrap_174 : decode cX4_wrap 174 = .ok (.ifCond .eq 20, 3) := by decide +kernel
theorem dX4_wrap_177 : decode cX4_wrap 177 = .ok (.aload_n 0, 1) := by decide +kernel
theorem dX4_wrap_178 : decode cX4_wrap 178 = .ok (.getfield 96, 3) := by decide +kernel
theorem dX4_wrap_181 : decode cX4_wrap 181 = .ok (.aload_n 0, 1) := by decide +kernel
theorem dX4_wrap_182 : decode cX4_wrap 182 = .ok (.getfield 39, 3) := by decide +kernel
theorem dX4_wrap_185 : decode cX4_wrap 185 = .ok (.iconst 1, 1) := by decide +kernel
theorem dX4_wrap_186 : decode cX4_wrap 186 = .ok (.isub, 1) := by decide +kernel
theorem dX4_wrap_187 : decode cX4_wrap 187 = .ok (.if_icmp .ne 7, 3) := by decide +kernel
theorem dX4_wrap_190 : decode cX4_wrap 190 = .ok (.iconst 1, 1) := by decide +kernel
theorem dX4_wrap_191 : decode cX4_wrap 191 = .ok (.goto 4, 3) := by decide +kernel
theorem dX4_wrap_194 : decode cX4_wrap 194 = .ok (.iconst 0, 1) := by decide +kernel
theorem dX4_wrap_195 : decode cX4_wrap 195 = .ok (.putfield 99, 3) := by decide +kernel
theorem dX4_wrap_198 : decode cX4_wrap 198 = .ok (.return_, 1) := by decide +kernel
theorem dX4_keptRows_0 : decode cX4_keptRows 0 = .ok (.aload_n 0, 1) := by decide +kernel
theorem dX4_keptRows_1 : decode cX4_keptRows 1 = .ok (.getfield 12, 3) := by decide +kernel
theorem dX4_keptRows_4 : decode cX4_keptRows 4 = .ok (.invokevirtual 102, 3) := by decide +kernel
theorem dX4_keptRows_7 : decode cX4_keptRows 7 = .ok (.iconst 1, 1) := by decide +kernel
theorem dX4_keptRows_8 : decode cX4_keptRows 8 = .ok (.isub, 1) := by decide +kernel
theorem dX4_keptRows_9 : decode cX4_keptRows 9 = .ok (.istore_n 2, 1) := by decide +kernel
theorem dX4_keptRows_10 : decode cX4_keptRows 10 = .ok (.iconst 0, 1) := by decide +kernel
theorem dX4_keptRows_11 : decode cX4_keptRows 11 = .ok (.istore_n 3, 1) := by decide +kernel
theorem dX4_keptRows_12 : decode cX4_keptRows 12 = .ok (.iload_n 3, 1) := by decide +kernel
theorem dX4_keptRows_13 : decode cX4_keptRows 13 = .ok (.bipush 12, 2) := by decide +kernel
theorem dX4_keptRows_15 : decode cX4_keptRows 15 = .ok (.if_icmp .ge 28, 3) := by decide +kernel
theorem dX4_keptRows_18 : decode cX4_keptRows 18 = .ok (.iload_n 2, 1) := by decide +kernel
theorem dX4_keptRows_19 : decode cX4_keptRows 19 = .ok (.iload_n 1, 1) := by decide +kernel
theorem dX4_keptRows_20 : decode cX4_keptRows 20 = .ok (.if_icmp .le 23, 3) := by decide +kernel
theorem dX4_keptRows_23 : decode cX4_keptRows 23 = .ok (.aload_n 0, 1) := by decide +kernel
theorem dX4_keptRows_24 : decode cX4_keptRows 24 = .ok (.getfield 12, 3) := by decide +kernel
theorem dX4_keptRows_27 : decode cX4_keptRows 27 = .ok (.iload_n 2, 1) := by decide +kernel
theorem dX4_keptRows_28 : decode cX4_keptRows 28 = .ok (.invokevirtual 105, 3) := by decide +kernel
theorem dX4_keptRows_31 : decode cX4_keptRows 31 = .ok (.ifCond .ne 12, 3) := by decide +kernel
theorem dX4_keptRows_34 : decode cX4_keptRows 34 = .ok (.iinc 2 (-1), 3) := by decide +kernel
theorem dX4_keptRows_37 : decode cX4_keptRows 37 = .ok (.iinc 3 1, 3) := by decide +kernel
theorem dX4_keptRows_40 : decode cX4_keptRows 40 = .ok (.goto (-28), 3) := by decide +kernel
theorem dX4_keptRows_43 : decode cX4_keptRows 43 = .ok (.iload_n 2, 1) := by decide +kernel
theorem dX4_keptRows_44 : decode cX4_keptRows 44 = .ok (.iconst 1, 1) := by decide +kernel
theorem dX4_keptRows_45 : decode cX4_keptRows 45 = .ok (.iadd, 1) := by decide +kernel
theorem dX4_keptRows_46 : decode cX4_keptRows 46 = .ok (.ireturn, 1) := by decide +kernel
theorem dX4_isGoing_0 : decode cX4_isGoing 0 = .ok (.aload_n 0, 1) := by decide +kernel
theorem dX4_isGoing_1 : decode cX4_isGoing 1 = .ok (.getfield 21, 3) := by decide +kernel
theorem dX4_isGoing_4 : decode cX4_isGoing 4 = .ok (.invokevirtual 53, 3) := by decide +kernel
theorem dX4_isGoing_7 : decode cX4_isGoing 7 = .ok (.istore_n 2, 1) := by decide +kernel
theorem dX4_isGoing_8 : decode cX4_isGoing 8 = .ok (.iload_n 1, 1) := by decide +kernel
theorem dX4_isGoing_9 : decode cX4_isGoing 9 = .ok (.iload_n 2, 1) := by decide +kernel
theorem dX4_isGoing_10 : decode cX4_isGoing 10 = .ok (.if_icmp .ge 14, 3) := by decide +kernel
theorem dX4_isGoing_13 : decode cX4_isGoing 13 = .ok (.aload_n 0, 1) := by decide +kernel
theorem dX4_isGoing_14 : decode cX4_isGoing 14 = .ok (.getfield 21, 3) := by decide +kernel
theorem dX4_isGoing_17 : decode cX4_isGoing 17 = .ok (.iload_n 1, 1) := by decide +kernel
theorem dX4_isGoing_18 : decode cX4_isGoing 18 = .ok (.invokevirtual 108, 3) := by decide +kernel
theorem dX4_isGoing_21 : decode cX4_isGoing 21 = .ok (.goto 13, 3) := by decide +kernel
theorem dX4_isGoing_24 : decode cX4_isGoing 24 = .ok (.aload_n 0, 1) := by decide +kernel
theorem dX4_isGoing_25 : decode cX4_isGoing 25 = .ok (.getfield 12, 3) := by decide +kernel
theorem dX4_isGoing_28 : decode cX4_isGoing 28 = .ok (.iload_n 1, 1) := by decide +kernel
theorem dX4_isGoing_29 : decode cX4_isGoing 29 = .ok (.iload_n 2, 1) := by decide +kernel
theorem dX4_isGoing_30 : decode cX4_isGoing 30 = .ok (.isub, 1) := by decide +kernel
theorem dX4_isGoing_31 : decode cX4_isGoing 31 = .ok (.invokevirtual 109, 3) := by decide +kernel
theorem dX4_isGoing_34 : decode cX4_isGoing 34 = .ok (.ireturn, 1) := by decide +kernel
theorem dX4_at_0 : decode cX4_at 0 = .ok (.aload_n 0, 1) := by decide +kernel
theorem dX4_at_1 : decode cX4_at 1 = .ok (.getfield 21, 3) := by decide +kernel
theorem dX4_at_4 : decode cX4_at 4 = .ok (.invokevirtual 53, 3) := by decide +kernel
theorem dX4_at_7 : decode cX4_at 7 = .ok (.istore_n 3, 1) := by decide +kernel
theorem dX4_at_8 : decode cX4_at 8 = .ok (.iload_n 1, 1) := by decide +kernel
theorem dX4_at_9 : decode cX4_at 9 = .ok (.iload_n 3, 1) := by decide +kernel
theorem dX4_at_10 : decode cX4_at 10 = .ok (.if_icmp .ge 15, 3) := by decide +kernel
theorem dX4_at_13 : decode cX4_at 13 = .ok (.aload_n 0, 1) := by decide +kernel
theorem dX4_at_14 : decode cX4_at 14 = .ok (.getfield 21, 3) := by decide +kernel
theorem dX4_at_17 : decode cX4_at 17 = .ok (.iload_n 1, 1) := by decide +kernel
theorem dX4_at_18 : decode cX4_at 18 = .ok (.iload_n 2, 1) := by decide +kernel
theorem dX4_at_19 : decode cX4_at 19 = .ok (.invokevirtual 110, 3) := by decide +kernel
theorem dX4_at_22 : decode cX4_at 22 = .ok (.goto 14, 3) := by decide +kernel
theorem dX4_at_25 : decode cX4_at 25 = .ok (.aload_n 0, 1) := by decide +kernel
theorem dX4_at_26 : decode cX4_at 26 = .ok (.getfield 12, 3) := by decide +kernel
theorem dX4_at_29 : decode cX4_at 29 = .ok (.iload_n 1, 1) := by decide +kernel
theorem dX4_at_30 : decode cX4_at 30 = .ok (.iload_n 3, 1) := by decide +kernel
theorem dX4_at_31 : decode cX4_at 31 = .ok (.isub, 1) := by decide +kernel
theorem dX4_at_32 : decode cX4_at 32 = .ok (.iload_n 2, 1) := by decide +kernel
theorem dX4_at_33 : decode cX4_at 33 = .ok (.invokevirtual 113, 3) := by decide +kernel
theorem dX4_at_36 : decode cX4_at 36 = .ok (.ireturn, 1) := by decide +kernel
theorem dX4_cellsOf_0 : decode cX4_cellsOf 0 = .ok (.aload_n 0, 1) := by decide +kernel
theorem dX4_cellsOf_1 : decode cX4_cellsOf 1 = .ok (.getfield 12, 3) := by decide +kernel
theorem dX4_cellsOf_4 : decode cX4_cellsOf 4 = .ok (.invokevirtual 114, 3) := by decide +kernel
theorem dX4_cellsOf_7 : decode cX4_cellsOf 7 = .ok (.istore_n 3, 1) := by decide +kernel
theorem dX4_cellsOf_8 : decode cX4_cellsOf 8 = .ok (.iload_n 2, 1) := by decide +kernel
theorem dX4_cellsOf_9 : decode cX4_cellsOf 9 = .ok (.ifCond .eq 48, 3) := by decide +kernel
theorem dX4_cellsOf_12 : decode cX4_cellsOf 12 = .ok (.aload_n 0, 1) := by decide +kernel
theorem dX4_cellsOf_13 : decode cX4_cellsOf 13 = .ok (.iload_n 1, 1) := by decide +kernel
theorem dX4_cellsOf_14 : decode cX4_cellsOf 14 = .ok (.iload_n 3, 1) := by decide +kernel
theorem dX4_cellsOf_15 : decode cX4_cellsOf 15 = .ok (.iconst 1, 1) := by decide +kernel
theorem dX4_cellsOf_16 : decode cX4_cellsOf 16 = .ok (.isub, 1) := by decide +kernel
theorem dX4_cellsOf_17 : decode cX4_cellsOf 17 = .ok (.invokevirtual 117, 3) := by decide +kernel
theorem dX4_cellsOf_20 : decode cX4_cellsOf 20 = .ok (.ifCond .ne 21, 3) := by decide +kernel
theorem dX4_cellsOf_23 : decode cX4_cellsOf 23 = .ok (.aload_n 0, 1) := by decide +kernel
theorem dX4_cellsOf_24 : decode cX4_cellsOf 24 = .ok (.iload_n 1, 1) := by decide +kernel
theorem dX4_cellsOf_25 : decode cX4_cellsOf 25 = .ok (.iconst 1, 1) := by decide +kernel
theorem dX4_cellsOf_26 : decode cX4_cellsOf 26 = .ok (.iadd, 1) := by decide +kernel
theorem dX4_cellsOf_27 : decode cX4_cellsOf 27 = .ok (.iconst 0, 1) := by decide +kernel
theorem dX4_cellsOf_28 : decode cX4_cellsOf 28 = .ok (.invokevirtual 117, 3) := by decide +kernel
theorem dX4_cellsOf_31 : decode cX4_cellsOf 31 = .ok (.invokestatic 118, 3) := by decide +kernel
theorem dX4_cellsOf_34 : decode cX4_cellsOf 34 = .ok (.ifCond .eq 7, 3) := by decide +kernel
theorem dX4_cellsOf_37 : decode cX4_cellsOf 37 = .ok (.iconst 1, 1) := by decide +kernel
theorem dX4_cellsOf_38 : decode cX4_cellsOf 38 = .ok (.goto 4, 3) := by decide +kernel
theorem dX4_cellsOf_41 : decode cX4_cellsOf 41 = .ok (.iconst 0, 1) := by decide +kernel
theorem dX4_cellsOf_42 : decode cX4_cellsOf 42 = .ok (.istore 4, 2) := by decide +kernel
theorem dX4_cellsOf_44 : decode cX4_cellsOf 44 = .ok (.iload 4, 2) := by decide +kernel
theorem dX4_cellsOf_46 : decode cX4_cellsOf 46 = .ok (.ifCond .eq 9, 3) := by decide +kernel
theorem dX4_cellsOf_49 : decode cX4_cellsOf 49 = .ok (.iload_n 3, 1) := by decide +kernel
theorem dX4_cellsOf_50 : decode cX4_cellsOf 50 = .ok (.iconst 1, 1) := by decide +kernel
theorem dX4_cellsOf_51 : decode cX4_cellsOf 51 = .ok (.isub, 1) := by decide +kernel
theorem dX4_cellsOf_52 : decode cX4_cellsOf 52 = .ok (.goto 4, 3) := by decide +kernel
theorem dX4_cellsOf_55 : decode cX4_cellsOf 55 = .ok (.iload_n 3, 1) := by decide +kernel
theorem dX4_cellsOf_56 : decode cX4_cellsOf 56 = .ok (.ireturn, 1) := by decide +kernel
theorem dX4_cellsOf_57 : decode cX4_cellsOf 57 = .ok (.iconst 0, 1) := by decide +kernel
theorem dX4_cellsOf_58 : decode cX4_cellsOf 58 = .ok (.istore 4, 2) := by decide +kernel
theorem dX4_cellsOf_60 : decode cX4_cellsOf 60 = .ok (.iload 4, 2) := by decide +kernel
theorem dX4_cellsOf_62 : decode cX4_cellsOf 62 = .ok (.bipush 24, 2) := by decide +kernel
theorem dX4_cellsOf_64 : decode cX4_cellsOf 64 = .ok (.if_icmp .ge 27, 3) := by decide +kernel
theorem dX4_cellsOf_67 : decode cX4_cellsOf 67 = .ok (.iload_n 3, 1) := by decide +kernel
theorem dX4_cellsOf_68 : decode cX4_cellsOf 68 = .ok (.ifCond .le 23, 3) := by decide +kernel
theorem dX4_cellsOf_71 : decode cX4_cellsOf 71 = .ok (.aload_n 0, 1) := by decide +kernel
theorem dX4_cellsOf_72 : decode cX4_cellsOf 72 = .ok (.iload_n 1, 1) := by decide +kernel
theorem dX4_cellsOf_73 : decode cX4_cellsOf 73 = .ok (.iload_n 3, 1) := by decide +kernel
theorem dX4_cellsOf_74 : decode cX4_cellsOf 74 = .ok (.iconst 1, 1) := by decide +kernel
theorem dX4_cellsOf_75 : decode cX4_cellsOf 75 = .ok (.isub, 1) := by decide +kernel
theorem dX4_cellsOf_76 : decode cX4_cellsOf 76 = .ok (.invokevirtual 117, 3) := by decide +kernel
theorem dX4_cellsOf_79 : decode cX4_cellsOf 79 = .ok (.ifCond .ne 12, 3) := by decide +kernel
theorem dX4_cellsOf_82 : decode cX4_cellsOf 82 = .ok (.iinc 3 (-1), 3) := by decide +kernel
theorem dX4_cellsOf_85 : decode cX4_cellsOf 85 = .ok (.iinc 4 1, 3) := by decide +kernel
theorem dX4_cellsOf_88 : decode cX4_cellsOf 88 = .ok (.goto (-28), 3) := by decide +kernel
theorem dX4_cellsOf_91 : decode cX4_cellsOf 91 = .ok (.iload_n 3, 1) := by decide +kernel
theorem dX4_cellsOf_92 : decode cX4_cellsOf 92 = .ok (.ireturn, 1) := by decide +kernel
theorem dX4_layRow_0 : decode cX4_layRow 0 = .ok (.aload_n 0, 1) := by decide +kernel
theorem dX4_layRow_1 : decode cX4_layRow 1 = .ok (.iload_n 1, 1) := by decide +kernel
theorem dX4_layRow_2 : decode cX4_layRow 2 = .ok (.iload_n 2, 1) := by decide +kernel
theorem dX4_layRow_3 : decode cX4_layRow 3 = .ok (.invokevirtual 121, 3) := by decide +kernel
theorem dX4_layRow_6 : decode cX4_layRow 6 = .ok (.istore 4, 2) := by decide +kernel
theorem dX4_layRow_8 : decode cX4_layRow 8 = .ok (.iconst 0, 1) := by decide +kernel
theorem dX4_layRow_9 : decode cX4_layRow 9 = .ok (.istore 5, 2) := by decide +kernel
theorem dX4_layRow_11 : decode cX4_layRow 11 = .ok (.iload 5, 2) := by decide +kernel
theorem dX4_layRow_13 : decode cX4_layRow 13 = .ok (.iload 4, 2) := by decide +kernel
theorem dX4_layRow_15 : decode cX4_layRow 15 = .ok (.if_icmp .ge 89, 3) := by decide +kernel
theorem dX4_layRow_18 : decode cX4_layRow 18 = .ok (.aload_n 0, 1) := by decide +kernel
theorem dX4_layRow_19 : decode cX4_layRow 19 = .ok (.iload_n 1, 1) := by decide +kernel
theorem dX4_layRow_20 : decode cX4_layRow 20 = .ok (.iload 5, 2) := by decide +kernel
theorem dX4_layRow_22 : decode cX4_layRow 22 = .ok (.invokevirtual 117, 3) := by decide +kernel
theorem dX4_layRow_25 : decode cX4_layRow 25 = .ok (.istore 6, 2) := by decide +kernel
theorem dX4_layRow_27 : decode cX4_layRow 27 = .ok (.aload_n 0, 1) := by decide +kernel
theorem dX4_layRow_28 : decode cX4_layRow 28 = .ok (.invokevirtual 125, 3) := by decide +kernel
theorem dX4_layRow_31 : decode cX4_layRow 31 = .ok (.iload 6, 2) := by decide +kernel
theorem dX4_layRow_33 : decode cX4_layRow 33 = .ok (.invokestatic 118, 3) := by decide +kernel
theorem dX4_layRow_36 : decode cX4_layRow 36 = .ok (.ifCond .eq 7, 3) := by decide +kernel
theorem dX4_layRow_39 : decode cX4_layRow 39 = .ok (.iconst 2, 1) := by decide +kernel
theorem dX4_layRow_40 : decode cX4_layRow 40 = .ok (.goto 4, 3) := by decide +kernel
theorem dX4_layRow_43 : decode cX4_layRow 43 = .ok (.iconst 1, 1) := by decide +kernel
theorem dX4_layRow_44 : decode cX4_layRow 44 = .ok (.iadd, 1) := by decide +kernel
theorem dX4_layRow_45 : decode cX4_layRow 45 = .ok (.aload_n 0, 1) := by decide +kernel
theorem dX4_layRow_46 : decode cX4_layRow 46 = .ok (.getfield 39, 3) := by decide +kernel
theorem dX4_layRow_49 : decode cX4_layRow 49 = .ok (.if_icmp .le 7, 3) := by decide +kernel
theorem dX4_layRow_52 : decode cX4_layRow 52 = .ok (.aload_n 0, 1) := by decide +kernel
theorem dX4_layRow_53 : decode cX4_layRow 53 = .ok (.invokevirtual 128, 3) := by decide +kernel
theorem dX4_layRow_56 : decode cX4_layRow 56 = .ok (.iload 5, 2) := by decide +kernel
theorem dX4_layRow_58 : decode cX4_layRow 58 = .ok (.iload_n 3, 1) := by decide +kernel
theorem dX4_layRow_59 : decode cX4_layRow 59 = .ok (.if_icmp .eq 10, 3) := by decide +kernel
theorem dX4_layRow_62 : decode cX4_layRow 62 = .ok (.aload_n 0, 1) := by decide +kernel
theorem dX4_layRow_63 : decode cX4_layRow 63 = .ok (.getfield 49, 3) := by decide +kernel
theorem dX4_layRow_66 : decode cX4_layRow 66 = .ok (.ifCond .eq 26, 3) := by decide +kernel
theorem dX4_layRow_69 : decode cX4_layRow 69 = .ok (.aload_n 0, 1) := by decide +kernel
theorem dX4_layRow_70 : decode cX4_layRow 70 = .ok (.aload_n 0, 1) := by decide +kernel
theorem dX4_layRow_71 : decode cX4_layRow 71 = .ok (.getfield 46, 3) := by decide +kernel
theorem dX4_layRow_74 : decode cX4_layRow 74 = .ok (.iconst 1, 1) := by decide +kernel
theorem dX4_layRow_75 : decode cX4_layRow 75 = .ok (.isub, 1) := by decide +kernel
theorem dX4_layRow_76 : decode cX4_layRow 76 = .ok (.putfield 86, 3) := by decide +kernel
theorem dX4_layRow_79 : decode cX4_layRow 79 = .ok (.aload_n 0, 1) := by decide +kernel
theorem dX4_layRow_80 : decode cX4_layRow 80 = .ok (.aload_n 0, 1) := by decide +kernel
theorem dX4_layRow_81 : decode cX4_layRow 81 = .ok (.invokevirtual 125, 3) := by decide +kernel
theorem dX4_layRow_84 : decode cX4_layRow 84 = .ok (.putfield 96, 3) := by decide +kernel
theorem dX4_layRow_87 : decode cX4_layRow 87 = .ok (.aload_n 0, 1) := by decide +kernel
theorem dX4_layRow_88 : decode cX4_layRow 88 = .ok (.iconst 0, 1) := by decide +kernel
theorem dX4_layRow_89 : decode cX4_layRow 89 = .ok (.putfield 49, 3) := by decide +kernel
theorem dX4_layRow_92 : decode cX4_layRow 92 = .ok (.aload_n 0, 1) := by decide +kernel
theorem dX4_layRow_93 : decode cX4_layRow 93 = .ok (.iload 6, 2) := by decide +kernel
theorem dX4_layRow_95 : decode cX4_layRow 95 = .ok (.invokevirtual 131, 3) := by decide +kernel
theorem dX4_layRow_98 : decode cX4_layRow 98 = .ok (.iinc 5 1, 3) := by decide +kernel
theorem dX4_layRow_101 : decode cX4_layRow 101 = .ok (.goto (-90), 3) := by decide +kernel
theorem dX4_layRow_104 : decode cX4_layRow 104 = .ok (.iload_n 3, 1) := by decide +kernel
theorem dX4_layRow_105 : decode cX4_layRow 105 = .ok (.iload 4, 2) := by decide +kernel
theorem dX4_layRow_107 : decode cX4_layRow 107 = .ok (.if_icmp .lt 15, 3) := by decide +kernel
theorem dX4_layRow_110 : decode cX4_layRow 110 = .ok (.iload_n 2, 1) := by decide +kernel
theorem dX4_layRow_111 : decode cX4_layRow 111 = .ok (.ifCond .eq 11, 3) := by decide +kernel
theorem dX4_layRow_114 : decode cX4_layRow 114 = .ok (.aload_n 0, 1) := by decide +kernel
theorem dX4_layRow_115 : decode cX4_layRow 115 = .ok (.iconst 1, 1) := by decide +kernel
theorem dX4_layRow_116 : decode cX4_layRow 116 = .ok (.putfield 49, 3) := by decide +kernel
theorem dX4_layRow_119 : decode cX4_layRow 119 = .ok (.goto 41, 3) := by decide +kernel
theorem dX4_layRow_122 : decode cX4_layRow 122 = .ok (.iload_n 3, 1) := by decide +kernel
theorem dX4_layRow_123 : decode cX4_layRow 123 = .ok (.iload 4, 2) := by decide +kernel
theorem dX4_layRow_125 : decode cX4_layRow 125 = .ok (.if_icmp .lt 35, 3) := by decide +kernel
theorem dX4_layRow_128 : decode cX4_layRow 128 = .ok (.aload_n 0, 1) := by decide +kernel
theorem dX4_layRow_129 : decode cX4_layRow 129 = .ok (.aload_n 0, 1) := by decide +kernel
theorem dX4_layRow_130 : decode cX4_layRow 130 = .ok (.getfield 46, 3) := by decide +kernel
theorem dX4_layRow_133 : decode cX4_layRow 133 = .ok (.iconst 1, 1) := by decide +kernel
theorem dX4_layRow_134 : decode cX4_layRow 134 = .ok (.isub, 1) := by decide +kernel
theorem dX4_layRow_135 : decode cX4_layRow 135 = .ok (.putfield 86, 3) := by decide +kernel
theorem dX4_layRow_138 : decode cX4_layRow 138 = .ok (.aload_n 0, 1) := by decide +kernel
theorem dX4_layRow_139 : decode cX4_layRow 139 = .ok (.aload_n 0, 1) := by decide +kernel
theorem dX4_layRow_140 : decode cX4_layRow 140 = .ok (.invokevirtual 125, 3) := by decide +kernel
theorem dX4_layRow_143 : decode cX4_layRow 143 = .ok (.iload_n 3, 1) := by decide +kernel
theorem dX4_layRow_144 : decode cX4_layRow 144 = .ok (.iadd, 1) := by decide +kernel
theorem dX4_layRow_145 : decode cX4_layRow 145 = .ok (.iload 4, 2) := by decide +kernel
theorem dX4_layRow_147 : decode cX4_layRow 147 = .ok (.isub, 1) := by decide +kernel
theorem dX4_layRow_148 : decode cX4_layRow 148 = .ok (.aload_n 0, 1) := by decide +kernel
theorem dX4_layRow_149 : decode cX4_layRow 149 = .ok (.getfield 39, 3) := by decide +kernel
theorem dX4_layRow_152 : decode cX4_layRow 152 = .ok (.iconst 1, 1) := by decide +kernel
theorem dX4_layRow_153 : decode cX4_layRow 153 = .ok (.isub, 1) := by decide +kernel
theorem dX4_layRow_154 : decode cX4_layRow 154 = .ok (.invokestatic 89, 3) := by decide +kernel
theorem dX4_layRow_157 : decode cX4_layRow 157 = .ok (.putfield 96, 3) := by decide +kernel
theorem dX4_layRow_160 : decode cX4_layRow 160 = .ok (.return_, 1) := by decide +kernel
theorem dX4_lengthOfLast_0 : decode cX4_lengthOfLast 0 = .ok (.aload_n 0, 1) := by decide +kernel
theorem dX4_lengthOfLast_1 : decode cX4_lengthOfLast 1 = .ok (.getfield 46, 3) := by decide +kernel
theorem dX4_lengthOfLast_4 : decode cX4_lengthOfLast 4 = .ok (.iconst 1, 1) := by decide +kernel
theorem dX4_lengthOfLast_5 : decode cX4_lengthOfLast 5 = .ok (.isub, 1) := by decide +kernel
theorem dX4_lengthOfLast_6 : decode cX4_lengthOfLast 6 = .ok (.istore_n 1, 1) := by decide +kernel
theorem dX4_lengthOfLast_7 : decode cX4_lengthOfLast 7 = .ok (.iload_n 1, 1) := by decide +kernel
theorem dX4_lengthOfLast_8 : decode cX4_lengthOfLast 8 = .ok (.ifCond .lt 19, 3) := by decide +kernel
theorem dX4_lengthOfLast_11 : decode cX4_lengthOfLast 11 = .ok (.iload_n 1, 1) := by decide +kernel
theorem dX4_lengthOfLast_12 : decode cX4_lengthOfLast 12 = .ok (.sipush 512, 3) := by decide +kernel
theorem dX4_lengthOfLast_15 : decode cX4_lengthOfLast 15 = .ok (.if_icmp .ge 12, 3) := by decide +kernel
theorem dX4_lengthOfLast_18 : decode cX4_lengthOfLast 18 = .ok (.aload_n 0, 1) := by decide +kernel
theorem dX4_lengthOfLast_19 : decode cX4_lengthOfLast 19 = .ok (.getfield 32, 3) := by decide +kernel
theorem dX4_lengthOfLast_22 : decode cX4_lengthOfLast 22 = .ok (.iload_n 1, 1) := by decide +kernel
theorem dX4_lengthOfLast_23 : decode cX4_lengthOfLast 23 = .ok (.iaload, 1) := by decide +kernel
theorem dX4_lengthOfLast_24 : decode cX4_lengthOfLast 24 = .ok (.goto 4, 3) := by decide +kernel
theorem dX4_lengthOfLast_27 : decode cX4_lengthOfLast 27 = .ok (.iconst 0, 1) := by decide +kernel
theorem dX4_lengthOfLast_28 : decode cX4_lengthOfLast 28 = .ok (.ireturn, 1) := by decide +kernel
theorem dX4_goOn_0 : decode cX4_goOn 0 = .ok (.aload_n 0, 1) := by decide +kernel
theorem dX4_goOn_1 : decode cX4_goOn 1 = .ok (.getfield 46, 3) := by decide +kernel
theorem dX4_goOn_4 : decode cX4_goOn 4 = .ok (.iconst 1, 1) := by decide +kernel
theorem dX4_goOn_5 : decode cX4_goOn 5 = .ok (.isub, 1) := by decide +kernel
theorem dX4_goOn_6 : decode cX4_goOn 6 = .ok (.istore_n 1, 1) := by decide +kernel
theorem dX4_goOn_7 : decode cX4_goOn 7 = .ok (.iload_n 1, 1) := by decide +kernel
theorem dX4_goOn_8 : decode cX4_goOn 8 = .ok (.ifCond .lt 17, 3) := by decide +kernel
theorem dX4_goOn_11 : decode cX4_goOn 11 = .ok (.iload_n 1, 1) := by decide +kernel
theorem dX4_goOn_12 : decode cX4_goOn 12 = .ok (.sipush 512, 3) := by decide +kernel
theorem dX4_goOn_15 : decode cX4_goOn 15 = .ok (.if_icmp .ge 10, 3) := by decide +kernel
theorem dX4_goOn_18 : decode cX4_goOn 18 = .ok (.aload_n 0, 1) := by decide +kernel
theorem dX4_goOn_19 : decode cX4_goOn 19 = .ok (.getfield 35, 3) := by decide +kernel
theorem dX4_goOn_22 : decode cX4_goOn 22 = .ok (.iload_n 1, 1) := by decide +kernel
theorem dX4_goOn_23 : decode cX4_goOn 23 = .ok (.iconst 1, 1) := by decide +kernel
theorem dX4_goOn_24 : decode cX4_goOn 24 = .ok (.bastore, 1) := by decide +kernel
theorem dX4_goOn_25 : decode cX4_goOn 25 = .ok (.aload_n 0, 1) := by decide +kernel
theorem dX4_goOn_26 : decode cX4_goOn 26 = .ok (.invokevirtual 66, 3) := by decide +kernel
theorem dX4_goOn_29 : decode cX4_goOn 29 = .ok (.return_, 1) := by decide +kernel
theorem dX4_beginRow_0 : decode cX4_beginRow 0 = .ok (.aload_n 0, 1) := by decide +kernel
theorem dX4_beginRow_1 : decode cX4_beginRow 1 = .ok (.getfield 46, 3) := by decide +kernel
theorem dX4_beginRow_4 : decode cX4_beginRow 4 = .ok (.ifCond .lt 13, 3) := by decide +kernel
theorem dX4_beginRow_7 : decode cX4_beginRow 7 = .ok (.aload_n 0, 1) := by decide +kernel
theorem dX4_beginRow_8 : decode cX4_beginRow 8 = .ok (.getfield 46, 3) := by decide +kernel
theorem dX4_beginRow_11 : decode cX4_beginRow 11 = .ok (.sipush 512, 3) := by decide +kernel
theorem dX4_beginRow_14 : decode cX4_beginRow 14 = .ok (.if_icmp .lt 4, 3) := by decide +kernel
theorem dX4_beginRow_17 : decode cX4_beginRow 17 = .ok (.return_, 1) := by decide +kernel
theorem dX4_beginRow_18 : decode cX4_beginRow 18 = .ok (.aload_n 0, 1) := by decide +kernel
theorem dX4_beginRow_19 : decode cX4_beginRow 19 = .ok (.getfield 29, 3) := by decide +kernel
theorem dX4_beginRow_22 : decode cX4_beginRow 22 = .ok (.aload_n 0, 1) := by decide +kernel
theorem dX4_beginRow_23 : decode cX4_beginRow 23 = .ok (.getfield 46, 3) := by decide +kernel
theorem dX4_beginRow_26 : decode cX4_beginRow 26 = .ok (.aload_n 0, 1) := by decide +kernel
theorem dX4_beginRow_27 : decode cX4_beginRow 27 = .ok (.getfield 43, 3) := by decide +kernel
theorem dX4_beginRow_30 : decode cX4_beginRow 30 = .ok (.iastore, 1) := by decide +kernel
theorem dX4_beginRow_31 : decode cX4_beginRow 31 = .ok (.aload_n 0, 1) := by decide +kernel
theorem dX4_beginRow_32 : decode cX4_beginRow 32 = .ok (.getfield 32, 3) := by decide +kernel
theorem dX4_beginRow_35 : decode cX4_beginRow 35 = .ok (.aload_n 0, 1) := by decide +kernel
theorem dX4_beginRow_36 : decode cX4_beginRow 36 = .ok (.getfield 46, 3) := by decide +kernel
theorem dX4_beginRow_39 : decode cX4_beginRow 39 = .ok (.iconst 0, 1) := by decide +kernel
theorem dX4_beginRow_40 : decode cX4_beginRow 40 = .ok (.iastore, 1) := by decide +kernel
theorem dX4_beginRow_41 : decode cX4_beginRow 41 = .ok (.aload_n 0, 1) := by decide +kernel
theorem dX4_beginRow_42 : decode cX4_beginRow 42 = .ok (.getfield 35, 3) := by decide +kernel
theorem dX4_beginRow_45 : decode cX4_beginRow 45 = .ok (.aload_n 0, 1) := by decide +kernel
theorem dX4_beginRow_46 : decode cX4_beginRow 46 = .ok (.getfield 46, 3) := by decide +kernel
theorem dX4_beginRow_49 : decode cX4_beginRow 49 = .ok (.iconst 0, 1) := by decide +kernel
theorem dX4_beginRow_50 : decode cX4_beginRow 50 = .ok (.bastore, 1) := by decide +kernel
theorem dX4_beginRow_51 : decode cX4_beginRow 51 = .ok (.aload_n 0, 1) := by decide +kernel
theorem dX4_beginRow_52 : decode cX4_beginRow 52 = .ok (.dup, 1) := by decide +kernel
theorem dX4_beginRow_53 : decode cX4_beginRow 53 = .ok (.getfield 46, 3) := by decide +kernel
theorem dX4_beginRow_56 : decode cX4_beginRow 56 = .ok (.iconst 1, 1) := by decide +kernel
theorem dX4_beginRow_57 : decode cX4_beginRow 57 = .ok (.iadd, 1) := by decide +kernel
theorem dX4_beginRow_58 : decode cX4_beginRow 58 = .ok (.putfield 46, 3) := by decide +kernel
theorem dX4_beginRow_61 : decode cX4_beginRow 61 = .ok (.return_, 1) := by decide +kernel
theorem dX4_lay_0 : decode cX4_lay 0 = .ok (.aload_n 0, 1) := by decide +kernel
theorem dX4_lay_1 : decode cX4_lay 1 = .ok (.getfield 46, 3) := by decide +kernel
theorem dX4_lay_4 : decode cX4_lay 4 = .ok (.iconst 1, 1) := by decide +kernel
theorem dX4_lay_5 : decode cX4_lay 5 = .ok (.isub, 1) := by decide +kernel
theorem dX4_lay_6 : decode cX4_lay 6 = .ok (.istore_n 2, 1) := by decide +kernel
theorem dX4_lay_7 : decode cX4_lay 7 = .ok (.aload_n 0, 1) := by decide +kernel
theorem dX4_lay_8 : decode cX4_lay 8 = .ok (.getfield 43, 3) := by decide +kernel
theorem dX4_lay_11 : decode cX4_lay 11 = .ok (.ifCond .lt 24, 3) := by decide +kernel
theorem dX4_lay_14 : decode cX4_lay 14 = .ok (.aload_n 0, 1) := by decide +kernel
theorem dX4_lay_15 : decode cX4_lay 15 = .ok (.getfield 43, 3) := by decide +kernel
theorem dX4_lay_18 : decode cX4_lay 18 = .ok (.sipush 1248, 3) := by decide +kernel
theorem dX4_lay_21 : decode cX4_lay 21 = .ok (.if_icmp .ge 14, 3) := by decide +kernel
theorem dX4_lay_24 : decode cX4_lay 24 = .ok (.iload_n 2, 1) := by decide +kernel
theorem dX4_lay_25 : decode cX4_lay 25 = .ok (.ifCond .lt 10, 3) := by decide +kernel
theorem dX4_lay_28 : decode cX4_lay 28 = .ok (.iload_n 2, 1) := by decide +kernel
theorem dX4_lay_29 : decode cX4_lay 29 = .ok (.sipush 512, 3) := by decide +kernel
theorem dX4_lay_32 : decode cX4_lay 32 = .ok (.if_icmp .lt 4, 3) := by decide +kernel
theorem dX4_lay_35 : decode cX4_lay 35 = .ok (.return_, 1) := by decide +kernel
theorem dX4_lay_36 : decode cX4_lay 36 = .ok (.aload_n 0, 1) := by decide +kernel
theorem dX4_lay_37 : decode cX4_lay 37 = .ok (.getfield 25, 3) := by decide +kernel
theorem dX4_lay_40 : decode cX4_lay 40 = .ok (.aload_n 0, 1) := by decide +kernel
theorem dX4_lay_41 : decode cX4_lay 41 = .ok (.getfield 43, 3) := by decide +kernel
theorem dX4_lay_44 : decode cX4_lay 44 = .ok (.iload_n 1, 1) := by decide +kernel
theorem dX4_lay_45 : decode cX4_lay 45 = .ok (.iastore, 1) := by decide +kernel
theorem dX4_lay_46 : decode cX4_lay 46 = .ok (.aload_n 0, 1) := by decide +kernel
theorem dX4_lay_47 : decode cX4_lay 47 = .ok (.dup, 1) := by decide +kernel
theorem dX4_lay_48 : decode cX4_lay 48 = .ok (.getfield 43, 3) := by decide +kernel
theorem dX4_lay_51 : decode cX4_lay 51 = .ok (.iconst 1, 1) := by decide +kernel
theorem dX4_lay_52 : decode cX4_lay 52 = .ok (.iadd, 1) := by decide +kernel
theorem dX4_lay_53 : decode cX4_lay 53 = .ok (.putfield 43, 3) := by decide +kernel
theorem dX4_lay_56 : decode cX4_lay 56 = .ok (.aload_n 0, 1) := by decide +kernel
theorem dX4_lay_57 : decode cX4_lay 57 = .ok (.getfield 32, 3) := by decide +kernel
theorem dX4_lay_60 : decode cX4_lay 60 = .ok (.iload_n 2, 1) := by decide +kernel
theorem dX4_lay_61 : decode cX4_lay 61 = .ok (.dup2, 1) := by decide +kernel
theorem dX4_lay_62 : decode cX4_lay 62 = .ok (.iaload, 1) := by decide +kernel
theorem dX4_lay_63 : decode cX4_lay 63 = .ok (.iconst 1, 1) := by decide +kernel
theorem dX4_lay_64 : decode cX4_lay 64 = .ok (.iadd, 1) := by decide +kernel
theorem dX4_lay_65 : decode cX4_lay 65 = .ok (.iastore, 1) := by decide +kernel
theorem dX4_lay_66 : decode cX4_lay 66 = .ok (.return_, 1) := by decide +kernel
theorem dX4_putBack_0 : decode cX4_putBack 0 = .ok (.aload_n 0, 1) := by decide +kernel
theorem dX4_putBack_1 : decode cX4_putBack 1 = .ok (.getfield 21, 3) := by decide +kernel
theorem dX4_putBack_4 : decode cX4_putBack 4 = .ok (.invokevirtual 135, 3) := by decide +kernel
theorem dX4_putBack_7 : decode cX4_putBack 7 = .ok (.aload_n 0, 1) := by decide +kernel
theorem dX4_putBack_8 : decode cX4_putBack 8 = .ok (.getfield 12, 3) := by decide +kernel
theorem dX4_putBack_11 : decode cX4_putBack 11 = .ok (.iload_n 1, 1) := by decide +kernel
theorem dX4_putBack_12 : decode cX4_putBack 12 = .ok (.iload_n 2, 1) := by decide +kernel
theorem dX4_putBack_13 : decode cX4_putBack 13 = .ok (.invokevirtual 138, 3) := by decide +kernel
theorem dX4_putBack_16 : decode cX4_putBack 16 = .ok (.iload_n 3, 1) := by decide +kernel
theorem dX4_putBack_17 : decode cX4_putBack 17 = .ok (.bipush 40, 2) := by decide +kernel
theorem dX4_putBack_19 : decode cX4_putBack 19 = .ok (.isub, 1) := by decide +kernel
theorem dX4_putBack_20 : decode cX4_putBack 20 = .ok (.iconst 0, 1) := by decide +kernel
theorem dX4_putBack_21 : decode cX4_putBack 21 = .ok (.invokestatic 80, 3) := by decide +kernel
theorem dX4_putBack_24 : decode cX4_putBack 24 = .ok (.istore 4, 2) := by decide +kernel
theorem dX4_putBack_26 : decode cX4_putBack 26 = .ok (.iload 4, 2) := by decide +kernel
theorem dX4_putBack_28 : decode cX4_putBack 28 = .ok (.aload_n 0, 1) := by decide +kernel
theorem dX4_putBack_29 : decode cX4_putBack 29 = .ok (.getfield 46, 3) := by decide +kernel
theorem dX4_putBack_32 : decode cX4_putBack 32 = .ok (.if_icmp .ge 177, 3) := by decide +kernel
theorem dX4_putBack_35 : decode cX4_putBack 35 = .ok (.iload 4, 2) := by decide +kernel
theorem dX4_putBack_37 : decode cX4_putBack 37 = .ok (.sipush 512, 3) := by decide +kernel
theorem dX4_putBack_40 : decode cX4_putBack 40 = .ok (.if_icmp .ge 169, 3) := by decide +kernel
theorem dX4_putBack_43 : decode cX4_putBack 43 = .ok (.iload 4, 2) := by decide +kernel
theorem dX4_putBack_45 : decode cX4_putBack 45 = .ok (.iload_n 3, 1) := by decide +kernel
theorem dX4_putBack_46 : decode cX4_putBack 46 = .ok (.if_icmp .ge 20, 3) := by decide +kernel
theorem dX4_putBack_49 : decode cX4_putBack 49 = .ok (.aload_n 0, 1) := by decide +kernel
theorem dX4_putBack_50 : decode cX4_putBack 50 = .ok (.getfield 21, 3) := by decide +kernel
theorem dX4_putBack_53 : decode cX4_putBack 53 = .ok (.aload_n 0, 1) := by decide +kernel
theorem dX4_putBack_54 : decode cX4_putBack 54 = .ok (.getfield 35, 3) := by decide +kernel
theorem dX4_putBack_57 : decode cX4_putBack 57 = .ok (.iload 4, 2) := by decide +kernel
theorem dX4_putBack_59 : decode cX4_putBack 59 = .ok (.baload, 1) := by decide +kernel
theorem dX4_putBack_60 : decode cX4_putBack 60 = .ok (.invokevirtual 142, 3) := by decide +kernel
theorem dX4_putBack_63 : decode cX4_putBack 63 = .ok (.goto 39, 3) := by decide +kernel
theorem dX4_putBack_66 : decode cX4_putBack 66 = .ok (.aload_n 0, 1) := by decide +kernel
theorem dX4_putBack_67 : decode cX4_putBack 67 = .ok (.getfield 12, 3) := by decide +kernel
theorem dX4_putBack_70 : decode cX4_putBack 70 = .ok (.iload 4, 2) := by decide +kernel
theorem dX4_putBack_72 : decode cX4_putBack 72 = .ok (.iload_n 3, 1) := by decide +kernel
theorem dX4_putBack_73 : decode cX4_putBack 73 = .ok (.isub, 1) := by decide +kernel
theorem dX4_putBack_74 : decode cX4_putBack 74 = .ok (.aload_n 0, 1) := by decide +kernel
theorem dX4_putBack_75 : decode cX4_putBack 75 = .ok (.getfield 35, 3) := by decide +kernel
theorem dX4_putBack_78 : decode cX4_putBack 78 = .ok (.iload 4, 2) := by decide +kernel
theorem dX4_putBack_80 : decode cX4_putBack 80 = .ok (.baload, 1) := by decide +kernel
theorem dX4_putBack_81 : decode cX4_putBack 81 = .ok (.ifCond .eq 17, 3) := by decide +kernel
theorem dX4_putBack_84 : decode cX4_putBack 84 = .ok (.iload 4, 2) := by decide +kernel
theorem dX4_putBack_86 : decode cX4_putBack 86 = .ok (.iload_n 3, 1) := by decide +kernel
theorem dX4_putBack_87 : decode cX4_putBack 87 = .ok (.isub, 1) := by decide +kernel
theorem dX4_putBack_88 : decode cX4_putBack 88 = .ok (.iload_n 1, 1) := by decide +kernel
theorem dX4_putBack_89 : decode cX4_putBack 89 = .ok (.iconst 1, 1) := by decide +kernel
theorem dX4_putBack_90 : decode cX4_putBack 90 = .ok (.isub, 1) := by decide +kernel
theorem dX4_putBack_91 : decode cX4_putBack 91 = .ok (.if_icmp .ge 7, 3) := by decide +kernel
theorem dX4_putBack_94 : decode cX4_putBack 94 = .ok (.iconst 1, 1) := by decide +kernel
theorem dX4_putBack_95 : decode cX4_putBack 95 = .ok (.goto 4, 3) := by decide +kernel
theorem dX4_putBack_98 : decode cX4_putBack 98 = .ok (.iconst 0, 1) := by decide +kernel
theorem dX4_putBack_99 : decode cX4_putBack 99 = .ok (.invokevirtual 146, 3) := by decide +kernel
theorem dX4_putBack_102 : decode cX4_putBack 102 = .ok (.iconst 0, 1) := by decide +kernel
theorem dX4_putBack_103 : decode cX4_putBack 103 = .ok (.istore 5, 2) := by decide +kernel
theorem dX4_putBack_105 : decode cX4_putBack 105 = .ok (.iload 5, 2) := by decide +kernel
theorem dX4_putBack_107 : decode cX4_putBack 107 = .ok (.aload_n 0, 1) := by decide +kernel
theorem dX4_putBack_108 : decode cX4_putBack 108 = .ok (.getfield 32, 3) := by decide +kernel
theorem dX4_putBack_111 : decode cX4_putBack 111 = .ok (.iload 4, 2) := by decide +kernel
theorem dX4_putBack_113 : decode cX4_putBack 113 = .ok (.iaload, 1) := by decide +kernel
theorem dX4_putBack_114 : decode cX4_putBack 114 = .ok (.if_icmp .ge 89, 3) := by decide +kernel
theorem dX4_putBack_117 : decode cX4_putBack 117 = .ok (.iload 5, 2) := by decide +kernel
theorem dX4_putBack_119 : decode cX4_putBack 119 = .ok (.bipush 24, 2) := by decide +kernel
theorem dX4_putBack_121 : decode cX4_putBack 121 = .ok (.if_icmp .ge 82, 3) := by decide +kernel
theorem dX4_putBack_124 : decode cX4_putBack 124 = .ok (.aload_n 0, 1) := by decide +kernel
theorem dX4_putBack_125 : decode cX4_putBack 125 = .ok (.getfield 29, 3) := by decide +kernel
theorem dX4_putBack_128 : decode cX4_putBack 128 = .ok (.iload 4, 2) := by decide +kernel
theorem dX4_putBack_130 : decode cX4_putBack 130 = .ok (.iaload, 1) := by decide +kernel
theorem dX4_putBack_131 : decode cX4_putBack 131 = .ok (.iload 5, 2) := by decide +kernel
theorem dX4_putBack_133 : decode cX4_putBack 133 = .ok (.iadd, 1) := by decide +kernel
theorem dX4_putBack_134 : decode cX4_putBack 134 = .ok (.istore 6, 2) := by decide +kernel
theorem dX4_putBack_136 : decode cX4_putBack 136 = .ok (.iload 6, 2) := by decide +kernel
theorem dX4_putBack_138 : decode cX4_putBack 138 = .ok (.ifCond .lt 21, 3) := by decide +kernel
theorem dX4_putBack_141 : decode cX4_putBack 141 = .ok (.iload 6, 2) := by decide +kernel
theorem dX4_putBack_143 : decode cX4_putBack 143 = .ok (.sipush 1248, 3) := by decide +kernel
theorem dX4_putBack_146 : decode cX4_putBack 146 = .ok (.if_icmp .ge 13, 3) := by decide +kernel
theorem dX4_putBack_149 : decode cX4_putBack 149 = .ok (.aload_n 0, 1) := by decide +kernel
theorem dX4_putBack_150 : decode cX4_putBack 150 = .ok (.getfield 25, 3) := by decide +kernel
theorem dX4_putBack_153 : decode cX4_putBack 153 = .ok (.iload 6, 2) := by decide +kernel
theorem dX4_putBack_155 : decode cX4_putBack 155 = .ok (.iaload, 1) := by decide +kernel
theorem dX4_putBack_156 : decode cX4_putBack 156 = .ok (.goto 4, 3) := by decide +kernel
theorem dX4_putBack_159 : decode cX4_putBack 159 = .ok (.iconst 0, 1) := by decide +kernel
theorem dX4_putBack_160 : decode cX4_putBack 160 = .ok (.istore 7, 2) := by decide +kernel
theorem dX4_putBack_162 : decode cX4_putBack 162 = .ok (.iload 4, 2) := by decide +kernel
theorem dX4_putBack_164 : decode cX4_putBack 164 = .ok (.iload_n 3, 1) := by decide +kernel
theorem dX4_putBack_165 : decode cX4_putBack 165 = .ok (.if_icmp .ge 17, 3) := by decide +kernel
theorem dX4_putBack_168 : decode cX4_putBack 168 = .ok (.aload_n 0, 1) := by decide +kernel
theorem dX4_putBack_169 : decode cX4_putBack 169 = .ok (.getfield 21, 3) := by decide +kernel
theorem dX4_putBack_172 : decode cX4_putBack 172 = .ok (.iload 5, 2) := by decide +kernel
theorem dX4_putBack_174 : decode cX4_putBack 174 = .ok (.iload 7, 2) := by decide +kernel
theorem dX4_putBack_176 : decode cX4_putBack 176 = .ok (.invokevirtual 150, 3) := by decide +kernel
theorem dX4_putBack_179 : decode cX4_putBack 179 = .ok (.goto 18, 3) := by decide +kernel
theorem dX4_putBack_182 : decode cX4_putBack 182 = .ok (.aload_n 0, 1) := by decide +kernel
theorem dX4_putBack_183 : decode cX4_putBack 183 = .ok (.getfield 12, 3) := by decide +kernel
theorem dX4_putBack_186 : decode cX4_putBack 186 = .ok (.iload 4, 2) := by decide +kernel
theorem dX4_putBack_188 : decode cX4_putBack 188 = .ok (.iload_n 3, 1) := by decide +kernel
theorem dX4_putBack_189 : decode cX4_putBack 189 = .ok (.isub, 1) := by decide +kernel
theorem dX4_putBack_190 : decode cX4_putBack 190 = .ok (.iload 5, 2) := by decide +kernel
theorem dX4_putBack_192 : decode cX4_putBack 192 = .ok (.iload 7, 2) := by decide +kernel
theorem dX4_putBack_194 : decode cX4_putBack 194 = .ok (.invokevirtual 153, 3) := by decide +kernel
theorem dX4_putBack_197 : decode cX4_putBack 197 = .ok (.iinc 5 1, 3) := by decide +kernel
theorem dX4_putBack_200 : decode cX4_putBack 200 = .ok (.goto (-95), 3) := by decide +kernel
theorem dX4_putBack_203 : decode cX4_putBack 203 = .ok (.iinc 4 1, 3) := by decide +kernel
theorem dX4_putBack_206 : decode cX4_putBack 206 = .ok (.goto (-180), 3) := by decide +kernel
theorem dX4_putBack_209 : decode cX4_putBack 209 = .ok (.return_, 1) := by decide +kernel
theorem dX6_init_0 : decode cX6_init 0 = .ok (.aload_n 0, 1) := by decide +kernel
theorem dX6_init_1 : decode cX6_init 1 = .ok (.invokespecial 3, 3) := by decide +kernel
theorem dX6_init_4 : decode cX6_init 4 = .ok (.aload_n 0, 1) := by decide +kernel
theorem dX6_init_5 : decode cX6_init 5 = .ok (.sipush 288, 3) := by decide +kernel
theorem dX6_init_8 : decode cX6_init 8 = .ok (.newarray .int, 2) := by decide +kernel
theorem dX6_init_10 : decode cX6_init 10 = .ok (.putfield 9, 3) := by decide +kernel
theorem dX6_init_13 : decode cX6_init 13 = .ok (.aload_n 0, 1) := by decide +kernel
theorem dX6_init_14 : decode cX6_init 14 = .ok (.bipush 12, 2) := by decide +kernel
theorem dX6_init_16 : decode cX6_init 16 = .ok (.newarray .boolean, 2) := by decide +kernel
theorem dX6_init_18 : decode cX6_init 18 = .ok (.putfield 15, 3) := by decide +kernel
theorem dX6_init_21 : decode cX6_init 21 = .ok (.aload_n 0, 1) := by decide +kernel
theorem dX6_init_22 : decode cX6_init 22 = .ok (.bipush 6, 2) := by decide +kernel
theorem dX6_init_24 : decode cX6_init 24 = .ok (.putfield 19, 3) := by decide +kernel
theorem dX6_init_27 : decode cX6_init 27 = .ok (.aload_n 0, 1) := by decide +kernel
theorem dX6_init_28 : decode cX6_init 28 = .ok (.bipush 12, 2) := by decide +kernel
theorem dX6_init_30 : decode cX6_init 30 = .ok (.putfield 23, 3) := by decide +kernel
theorem dX6_init_33 : decode cX6_init 33 = .ok (.return_, 1) := by decide +kernel
theorem dX6_rows_0 : decode cX6_rows 0 = .ok (.aload_n 0, 1) := by decide +kernel
theorem dX6_rows_1 : decode cX6_rows 1 = .ok (.getfield 19, 3) := by decide +kernel
theorem dX6_rows_4 : decode cX6_rows 4 = .ok (.ireturn, 1) := by decide +kernel
theorem dX6_columns_0 : decode cX6_columns 0 = .ok (.aload_n 0, 1) := by decide +kernel
theorem dX6_columns_1 : decode cX6_columns 1 = .ok (.getfield 23, 3) := by decide +kernel
theorem dX6_columns_4 : decode cX6_columns 4 = .ok (.ireturn, 1) := by decide +kernel
theorem dX6_at_0 : decode cX6_at 0 = .ok (.iload_n 1, 1) := by decide +kernel
theorem dX6_at_1 : decode cX6_at 1 = .ok (.ifCond .lt 19, 3) := by decide +kernel
theorem dX6_at_4 : decode cX6_at 4 = .ok (.iload_n 1, 1) := by decide +kernel
theorem dX6_at_5 : decode cX6_at 5 = .ok (.bipush 12, 2) := by decide +kernel
theorem dX6_at_7 : decode cX6_at 7 = .ok (.if_icmp .ge 13, 3) := by decide +kernel
theorem dX6_at_10 : decode cX6_at 10 = .ok (.iload_n 2, 1) := by decide +kernel
theorem dX6_at_11 : decode cX6_at 11 = .ok (.ifCond .lt 9, 3) := by decide +kernel
theorem dX6_at_14 : decode cX6_at 14 = .ok (.iload_n 2, 1) := by decide +kernel
theorem dX6_at_15 : decode cX6_at 15 = .ok (.bipush 24, 2) := by decide +kernel
theorem dX6_at_17 : decode cX6_at 17 = .ok (.if_icmp .lt 5, 3) := by decide +kernel
theorem dX6_at_20 : decode cX6_at 20 = .ok (.iconst 0, 1) := by decide +kernel
theorem dX6_at_21 : decode cX6_at 21 = .ok (.ireturn, 1) := by decide +kernel
theorem dX6_at_22 : decode cX6_at 22 = .ok (.aload_n 0, 1) := by decide +kernel
theorem dX6_at_23 : decode cX6_at 23 = .ok (.getfield 9, 3) := by decide +kernel
theorem dX6_at_26 : decode cX6_at 26 = .ok (.iload_n 1, 1) := by decide +kernel
theorem dX6_at_27 : decode cX6_at 27 = .ok (.bipush 24, 2) := by decide +kernel
theorem dX6_at_29 : decode cX6_at 29 = .ok (.imul, 1) := by decide +kernel
theorem dX6_at_30 : decode cX6_at 30 = .ok (.iload_n 2, 1) := by decide +kernel
theorem dX6_at_31 : decode cX6_at 31 = .ok (.iadd, 1) := by decide +kernel
theorem dX6_at_32 : decode cX6_at 32 = .ok (.iaload, 1) := by decide +kernel
theorem dX6_at_33 : decode cX6_at 33 = .ok (.ireturn, 1) := by decide +kernel
theorem dX6_put_0 : decode cX6_put 0 = .ok (.iload_n 1, 1) := by decide +kernel
theorem dX6_put_1 : decode cX6_put 1 = .ok (.ifCond .lt 23, 3) := by decide +kernel
theorem dX6_put_4 : decode cX6_put 4 = .ok (.iload_n 1, 1) := by decide +kernel
theorem dX6_put_5 : decode cX6_put 5 = .ok (.aload_n 0, 1) := by decide +kernel
theorem dX6_put_6 : decode cX6_put 6 = .ok (.getfield 19, 3) := by decide +kernel
theorem dX6_put_9 : decode cX6_put 9 = .ok (.if_icmp .ge 15, 3) := by decide +kernel
theorem dX6_put_12 : decode cX6_put 12 = .ok (.iload_n 2, 1) := by decide +kernel
theorem dX6_put_13 : decode cX6_put 13 = .ok (.ifCond .lt 11, 3) := by decide +kernel
theorem dX6_put_16 : decode cX6_put 16 = .ok (.iload_n 2, 1) := by decide +kernel
theorem dX6_put_17 : decode cX6_put 17 = .ok (.aload_n 0, 1) := by decide +kernel
theorem dX6_put_18 : decode cX6_put 18 = .ok (.getfield 23, 3) := by decide +kernel
theorem dX6_put_21 : decode cX6_put 21 = .ok (.if_icmp .lt 4, 3) := by decide +kernel
theorem dX6_put_24 : decode cX6_put 24 = .ok (.return_, 1) := by decide +kernel
theorem dX6_put_25 : decode cX6_put 25 = .ok (.iload_n 1, 1) := by decide +kernel
theorem dX6_put_26 : decode cX6_put 26 = .ok (.bipush 12, 2) := by decide +kernel
theorem dX6_put_28 : decode cX6_put 28 = .ok (.if_icmp .ge 21, 3) := by decide +kernel
theorem dX6_put_31 : decode cX6_put 31 = .ok (.iload_n 2, 1) := by decide +kernel
theorem dX6_put_32 : decode cX6_put 32 = .ok (.bipush 24, 2) := by decide +kernel
theorem dX6_put_34 : decode cX6_put 34 = .ok (.if_icmp .ge 15, 3) := by decide +kernel
theorem dX6_put_37 : decode cX6_put 37 = .ok (.aload_n 0, 1) := by decide +kernel
theorem dX6_put_38 : decode cX6_put 38 = .ok (.getfield 9, 3) := by decide +kernel
theorem dX6_put_41 : decode cX6_put 41 = .ok (.iload_n 1, 1) := by decide +kernel
theorem dX6_put_42 : decode cX6_put 42 = .ok (.bipush 24, 2) := by decide +kernel
theorem dX6_put_44 : decode cX6_put 44 = .ok (.imul, 1) := by decide +kernel
theorem dX6_put_45 : decode cX6_put 45 = .ok (.iload_n 2, 1) := by decide +kernel
theorem dX6_put_46 : decode cX6_put 46 = .ok (.iadd, 1) := by decide +kernel
theorem dX6_put_47 : decode cX6_put 47 = .ok (.iload_n 3, 1) := by decide +kernel
theorem dX6_put_48 : decode cX6_put 48 = .ok (.iastore, 1) := by decide +kernel
theorem dX6_put_49 : decode cX6_put 49 = .ok (.return_, 1) := by decide +kernel
theorem dX6_isGoing_0 : decode cX6_isGoing 0 = .ok (.iload_n 1, 1) := by decide +kernel
theorem dX6_isGoing_1 : decode cX6_isGoing 1 = .ok (.ifCond .lt 22, 3) := by decide +kernel
theorem dX6_isGoing_4 : decode cX6_isGoing 4 = .ok (.iload_n 1, 1) := by decide +kernel
theorem dX6_isGoing_5 : decode cX6_isGoing 5 = .ok (.bipush 12, 2) := by decide +kernel
theorem dX6_isGoing_7 : decode cX6_isGoing 7 = .ok (.if_icmp .ge 16, 3) := by decide +kernel
theorem dX6_isGoing_10 : decode cX6_isGoing 10 = .ok (.aload_n 0, 1) := by decide +kernel
theorem dX6_isGoing_11 : decode cX6_isGoing 11 = .ok (.getfield 15, 3) := by decide +kernel
theorem dX6_isGoing_14 : decode cX6_isGoing 14 = .ok (.iload_n 1, 1) := by decide +kernel
theorem dX6_isGoing_15 : decode cX6_isGoing 15 = .ok (.baload, 1) := by decide +kernel
theorem dX6_isGoing_16 : decode cX6_isGoing 16 = .ok (.ifCond .eq 7, 3) := by decide +kernel
theorem dX6_isGoing_19 : decode cX6_isGoing 19 = .ok (.iconst 1, 1) := by decide +kernel
theorem dX6_isGoing_20 : decode cX6_isGoing 20 = .ok (.goto 4, 3) := by decide +kernel
theorem dX6_isGoing_23 : decode cX6_isGoing 23 = .ok (.iconst 0, 1) := by decide +kernel
theorem dX6_isGoing_24 : decode cX6_isGoing 24 = .ok (.ireturn, 1) := by decide +kernel
theorem dX6_setGoing_0 : decode cX6_setGoing 0 = .ok (.iload_n 1, 1) := by decide +kernel
theorem dX6_setGoing_1 : decode cX6_setGoing 1 = .ok (.ifCond .lt 16, 3) := by decide +kernel
theorem dX6_setGoing_4 : decode cX6_setGoing 4 = .ok (.iload_n 1, 1) := by decide +kernel
theorem dX6_setGoing_5 : decode cX6_setGoing 5 = .ok (.bipush 12, 2) := by decide +kernel
theorem dX6_setGoing_7 : decode cX6_setGoing 7 = .ok (.if_icmp .ge 10, 3) := by decide +kernel
theorem dX6_setGoing_10 : decode cX6_setGoing 10 = .ok (.aload_n 0, 1) := by decide +kernel
theorem dX6_setGoing_11 : decode cX6_setGoing 11 = .ok (.getfield 15, 3) := by decide +kernel
theorem dX6_setGoing_14 : decode cX6_setGoing 14 = .ok (.iload_n 1, 1) := by decide +kernel
theorem dX6_setGoing_15 : decode cX6_setGoing 15 = .ok (.iload_n 2, 1) := by decide +kernel
theorem dX6_setGoing_16 : decode cX6_setGoing 16 = .ok (.bastore, 1) := by decide +kernel
theorem dX6_setGoing_17 : decode cX6_setGoing 17 = .ok (.return_, 1) := by decide +kernel
theorem dX6_filled_0 : decode cX6_filled 0 = .ok (.aload_n 0, 1) := by decide +kernel
theorem dX6_filled_1 : decode cX6_filled 1 = .ok (.getfield 23, 3) := by decide +kernel
theorem dX6_filled_4 : decode cX6_filled 4 = .ok (.iconst 1, 1) := by decide +kernel
theorem dX6_filled_5 : decode cX6_filled 5 = .ok (.isub, 1) := by decide +kernel
theorem dX6_filled_6 : decode cX6_filled 6 = .ok (.istore_n 2, 1) := by decide +kernel
theorem dX6_filled_7 : decode cX6_filled 7 = .ok (.iload_n 2, 1) := by decide +kernel
theorem dX6_filled_8 : decode cX6_filled 8 = .ok (.ifCond .lt 22, 3) := by decide +kernel
theorem dX6_filled_11 : decode cX6_filled 11 = .ok (.aload_n 0, 1) := by decide +kernel
theorem dX6_filled_12 : decode cX6_filled 12 = .ok (.iload_n 1, 1) := by decide +kernel
theorem dX6_filled_13 : decode cX6_filled 13 = .ok (.iload_n 2, 1) := by decide +kernel
theorem dX6_filled_14 : decode cX6_filled 14 = .ok (.invokevirtual 26, 3) := by decide +kernel
theorem dX6_filled_17 : decode cX6_filled 17 = .ok (.ifCond .eq 7, 3) := by decide +kernel
theorem dX6_filled_20 : decode cX6_filled 20 = .ok (.iload_n 2, 1) := by decide +kernel
theorem dX6_filled_21 : decode cX6_filled 21 = .ok (.iconst 1, 1) := by decide +kernel
theorem dX6_filled_22 : decode cX6_filled 22 = .ok (.iadd, 1) := by decide +kernel
theorem dX6_filled_23 : decode cX6_filled 23 = .ok (.ireturn, 1) := by decide +kernel
theorem dX6_filled_24 : decode cX6_filled 24 = .ok (.iinc 2 (-1), 3) := by decide +kernel
theorem dX6_filled_27 : decode cX6_filled 27 = .ok (.goto (-20), 3) := by decide +kernel
theorem dX6_filled_30 : decode cX6_filled 30 = .ok (.iconst 0, 1) := by decide +kernel
theorem dX6_filled_31 : decode cX6_filled 31 = .ok (.ireturn, 1) := by decide +kernel
theorem dX6_part_0 : decode cX6_part 0 = .ok (.aload_n 0, 1) := by decide +kernel
theorem dX6_part_1 : decode cX6_part 1 = .ok (.iload_n 1, 1) := by decide +kernel
theorem dX6_part_2 : decode cX6_part 2 = .ok (.iload_n 2, 1) := by decide +kernel
theorem dX6_part_3 : decode cX6_part 3 = .ok (.invokevirtual 26, 3) := by decide +kernel
theorem dX6_part_6 : decode cX6_part 6 = .ok (.bipush (-2), 2) := by decide +kernel
theorem dX6_part_8 : decode cX6_part 8 = .ok (.if_icmp .ne 19, 3) := by decide +kernel
theorem dX6_part_11 : decode cX6_part 11 = .ok (.aload_n 0, 1) := by decide +kernel
theorem dX6_part_12 : decode cX6_part 12 = .ok (.iload_n 1, 1) := by decide +kernel
theorem dX6_part_13 : decode cX6_part 13 = .ok (.iload_n 2, 1) := by decide +kernel
theorem dX6_part_14 : decode cX6_part 14 = .ok (.iconst 1, 1) := by decide +kernel
theorem dX6_part_15 : decode cX6_part 15 = .ok (.isub, 1) := by decide +kernel
theorem dX6_part_16 : decode cX6_part 16 = .ok (.iconst 0, 1) := by decide +kernel
theorem dX6_part_17 : decode cX6_part 17 = .ok (.invokevirtual 30, 3) := by decide +kernel
theorem dX6_part_20 : decode cX6_part 20 = .ok (.aload_n 0, 1) := by decide +kernel
theorem dX6_part_21 : decode cX6_part 21 = .ok (.iload_n 1, 1) := by decide +kernel
theorem dX6_part_22 : decode cX6_part 22 = .ok (.iload_n 2, 1) := by decide +kernel
theorem dX6_part_23 : decode cX6_part 23 = .ok (.iconst 0, 1) := by decide +kernel
theorem dX6_part_24 : decode cX6_part 24 = .ok (.invokevirtual 30, 3) := by decide +kernel
theorem dX6_part_27 : decode cX6_part 27 = .ok (.return_, 1) := by decide +kernel
theorem dX6_erase_0 : decode cX6_erase 0 = .ok (.aload_n 0, 1) := by decide +kernel
theorem dX6_erase_1 : decode cX6_erase 1 = .ok (.iload_n 1, 1) := by decide +kernel
theorem dX6_erase_2 : decode cX6_erase 2 = .ok (.iload_n 2, 1) := by decide +kernel
theorem dX6_erase_3 : decode cX6_erase 3 = .ok (.invokevirtual 34, 3) := by decide +kernel
theorem dX6_erase_6 : decode cX6_erase 6 = .ok (.aload_n 0, 1) := by decide +kernel
theorem dX6_erase_7 : decode cX6_erase 7 = .ok (.iload_n 1, 1) := by decide +kernel
theorem dX6_erase_8 : decode cX6_erase 8 = .ok (.iload_n 3, 1) := by decide +kernel
theorem dX6_erase_9 : decode cX6_erase 9 = .ok (.invokevirtual 34, 3) := by decide +kernel
theorem dX6_erase_12 : decode cX6_erase 12 = .ok (.iload_n 3, 1) := by decide +kernel
theorem dX6_erase_13 : decode cX6_erase 13 = .ok (.aload_n 0, 1) := by decide +kernel
theorem dX6_erase_14 : decode cX6_erase 14 = .ok (.getfield 23, 3) := by decide +kernel
theorem dX6_erase_17 : decode cX6_erase 17 = .ok (.invokestatic 38, 3) := by decide +kernel
theorem dX6_erase_20 : decode cX6_erase 20 = .ok (.istore 4, 2) := by decide +kernel
theorem dX6_erase_22 : decode cX6_erase 22 = .ok (.iload_n 2, 1) := by decide +kernel
theorem dX6_erase_23 : decode cX6_erase 23 = .ok (.iconst 0, 1) := by decide +kernel
theorem dX6_erase_24 : decode cX6_erase 24 = .ok (.invokestatic 43, 3) := by decide +kernel
theorem dX6_erase_27 : decode cX6_erase 27 = .ok (.istore 5, 2) := by decide +kernel
theorem dX6_erase_29 : decode cX6_erase 29 = .ok (.iload 5, 2) := by decide +kernel
theorem dX6_erase_31 : decode cX6_erase 31 = .ok (.iload 4, 2) := by decide +kernel
theorem dX6_erase_33 : decode cX6_erase 33 = .ok (.if_icmp .ge 17, 3) := by decide +kernel
theorem dX6_erase_36 : decode cX6_erase 36 = .ok (.aload_n 0, 1) := by decide +kernel
theorem dX6_erase_37 : decode cX6_erase 37 = .ok (.iload_n 1, 1) := by decide +kernel
theorem dX6_erase_38 : decode cX6_erase 38 = .ok (.iload 5, 2) := by decide +kernel
theorem dX6_erase_40 : decode cX6_erase 40 = .ok (.iconst 0, 1) := by decide +kernel
theorem dX6_erase_41 : decode cX6_erase 41 = .ok (.invokevirtual 30, 3) := by decide +kernel
theorem dX6_erase_44 : decode cX6_erase 44 = .ok (.iinc 5 1, 3) := by decide +kernel
theorem dX6_erase_47 : decode cX6_erase 47 = .ok (.goto (-18), 3) := by decide +kernel
theorem dX6_erase_50 : decode cX6_erase 50 = .ok (.return_, 1) := by decide +kernel
theorem dX6_insert_0 : decode cX6_insert 0 = .ok (.aload_n 0, 1) := by decide +kernel
theorem dX6_insert_1 : decode cX6_insert 1 = .ok (.iload_n 1, 1) := by decide +kernel
theorem dX6_insert_2 : decode cX6_insert 2 = .ok (.iload_n 2, 1) := by decide +kernel
theorem dX6_insert_3 : decode cX6_insert 3 = .ok (.invokevirtual 34, 3) := by decide +kernel
theorem dX6_insert_6 : decode cX6_insert 6 = .ok (.aload_n 0, 1) := by decide +kernel
theorem dX6_insert_7 : decode cX6_insert 7 = .ok (.iload_n 1, 1) := by decide +kernel
theorem dX6_insert_8 : decode cX6_insert 8 = .ok (.aload_n 0, 1) := by decide +kernel
theorem dX6_insert_9 : decode cX6_insert 9 = .ok (.getfield 23, 3) := by decide +kernel
theorem dX6_insert_12 : decode cX6_insert 12 = .ok (.iload_n 3, 1) := by decide +kernel
theorem dX6_insert_13 : decode cX6_insert 13 = .ok (.isub, 1) := by decide +kernel
theorem dX6_insert_14 : decode cX6_insert 14 = .ok (.iload_n 2, 1) := by decide +kernel
theorem dX6_insert_15 : decode cX6_insert 15 = .ok (.invokestatic 43, 3) := by decide +kernel
theorem dX6_insert_18 : decode cX6_insert 18 = .ok (.invokevirtual 34, 3) := by decide +kernel
theorem dX6_insert_21 : decode cX6_insert 21 = .ok (.aload_n 0, 1) := by decide +kernel
theorem dX6_insert_22 : decode cX6_insert 22 = .ok (.getfield 23, 3) := by decide +kernel
theorem dX6_insert_25 : decode cX6_insert 25 = .ok (.iconst 1, 1) := by decide +kernel
theorem dX6_insert_26 : decode cX6_insert 26 = .ok (.isub, 1) := by decide +kernel
theorem dX6_insert_27 : decode cX6_insert 27 = .ok (.istore 4, 2) := by decide +kernel
theorem dX6_insert_29 : decode cX6_insert 29 = .ok (.iload 4, 2) := by decide +kernel
theorem dX6_insert_31 : decode cX6_insert 31 = .ok (.iload_n 2, 1) := by decide +kernel
theorem dX6_insert_32 : decode cX6_insert 32 = .ok (.if_icmp .lt 37, 3) := by decide +kernel
theorem dX6_insert_35 : decode cX6_insert 35 = .ok (.aload_n 0, 1) := by decide +kernel
theorem dX6_insert_36 : decode cX6_insert 36 = .ok (.iload_n 1, 1) := by decide +kernel
theorem dX6_insert_37 : decode cX6_insert 37 = .ok (.iload 4, 2) := by decide +kernel
theorem dX6_insert_39 : decode cX6_insert 39 = .ok (.iload 4, 2) := by decide +kernel
theorem dX6_insert_41 : decode cX6_insert 41 = .ok (.iload_n 3, 1) := by decide +kernel
theorem dX6_insert_42 : decode cX6_insert 42 = .ok (.isub, 1) := by decide +kernel
theorem dX6_insert_43 : decode cX6_insert 43 = .ok (.iload_n 2, 1) := by decide +kernel
theorem dX6_insert_44 : decode cX6_insert 44 = .ok (.if_icmp .lt 15, 3) := by decide +kernel
theorem dX6_insert_47 : decode cX6_insert 47 = .ok (.aload_n 0, 1) := by decide +kernel
theorem dX6_insert_48 : decode cX6_insert 48 = .ok (.iload_n 1, 1) := by decide +kernel
theorem dX6_insert_49 : decode cX6_insert 49 = .ok (.iload 4, 2) := by decide +kernel
theorem dX6_insert_51 : decode cX6_insert 51 = .ok (.iload_n 3, 1) := by decide +kernel
theorem dX6_insert_52 : decode cX6_insert 52 = .ok (.isub, 1) := by decide +kernel
theorem dX6_insert_53 : decode cX6_insert 53 = .ok (.invokevirtual 26, 3) := by decide +kernel
theorem dX6_insert_56 : decode cX6_insert 56 = .ok (.goto 4, 3) := by decide +kernel
theorem dX6_insert_59 : decode cX6_insert 59 = .ok (.iconst 0, 1) := by decide +kernel
theorem dX6_insert_60 : decode cX6_insert 60 = .ok (.invokevirtual 30, 3) := by decide +kernel
theorem dX6_insert_63 : decode cX6_insert 63 = .ok (.iinc 4 (-1), 3) := by decide +kernel
theorem dX6_insert_66 : decode cX6_insert 66 = .ok (.goto (-37), 3) := by decide +kernel
theorem dX6_insert_69 : decode cX6_insert 69 = .ok (.return_, 1) := by decide +kernel
theorem dX6_delete_0 : decode cX6_delete 0 = .ok (.aload_n 0, 1) := by decide +kernel
theorem dX6_delete_1 : decode cX6_delete 1 = .ok (.iload_n 1, 1) := by decide +kernel
theorem dX6_delete_2 : decode cX6_delete 2 = .ok (.iload_n 2, 1) := by decide +kernel
theorem dX6_delete_3 : decode cX6_delete 3 = .ok (.invokevirtual 34, 3) := by decide +kernel
theorem dX6_delete_6 : decode cX6_delete 6 = .ok (.aload_n 0, 1) := by decide +kernel
theorem dX6_delete_7 : decode cX6_delete 7 = .ok (.iload_n 1, 1) := by decide +kernel
theorem dX6_delete_8 : decode cX6_delete 8 = .ok (.iload_n 2, 1) := by decide +kernel
theorem dX6_delete_9 : decode cX6_delete 9 = .ok (.iload_n 3, 1) := by decide +kernel
theorem dX6_delete_10 : decode cX6_delete 10 = .ok (.iadd, 1) := by decide +kernel
theorem dX6_delete_11 : decode cX6_delete 11 = .ok (.invokevirtual 34, 3) := by decide +kernel
theorem dX6_delete_14 : decode cX6_delete 14 = .ok (.iload_n 2, 1) := by decide +kernel
theorem dX6_delete_15 : decode cX6_delete 15 = .ok (.istore 4, 2) := by decide +kernel
theorem dX6_delete_17 : decode cX6_delete 17 = .ok (.iload 4, 2) := by decide +kernel
theorem dX6_delete_19 : decode cX6_delete 19 = .ok (.aload_n 0, 1) := by decide +kernel
theorem dX6_delete_20 : decode cX6_delete 20 = .ok (.getfield 23, 3) := by decide +kernel
theorem dX6_delete_23 : decode cX6_delete 23 = .ok (.if_icmp .ge 40, 3) := by decide +kernel
theorem dX6_delete_26 : decode cX6_delete 26 = .ok (.aload_n 0, 1) := by decide +kernel
theorem dX6_delete_27 : decode cX6_delete 27 = .ok (.iload_n 1, 1) := by decide +kernel
theorem dX6_delete_28 : decode cX6_delete 28 = .ok (.iload 4, 2) := by decide +kernel
theorem dX6_delete_30 : decode cX6_delete 30 = .ok (.iload 4, 2) := by decide +kernel
theorem dX6_delete_32 : decode cX6_delete 32 = .ok (.iload_n 3, 1) := by decide +kernel
theorem dX6_delete_33 : decode cX6_delete 33 = .ok (.iadd, 1) := by decide +kernel
theorem dX6_delete_34 : decode cX6_delete 34 = .ok (.aload_n 0, 1) := by decide +kernel
theorem dX6_delete_35 : decode cX6_delete 35 = .ok (.getfield 23, 3) := by decide +kernel
theorem dX6_delete_38 : decode cX6_delete 38 = .ok (.if_icmp .ge 15, 3) := by decide +kernel
theorem dX6_delete_41 : decode cX6_delete 41 = .ok (.aload_n 0, 1) := by decide +kernel
theorem dX6_delete_42 : decode cX6_delete 42 = .ok (.iload_n 1, 1) := by decide +kernel
theorem dX6_delete_43 : decode cX6_delete 43 = .ok (.iload 4, 2) := by decide +kernel
theorem dX6_delete_45 : decode cX6_delete 45 = .ok (.iload_n 3, 1) := by decide +kernel
theorem dX6_delete_46 : decode cX6_delete 46 = .ok (.iadd, 1) := by decide +kernel
theorem dX6_delete_47 : decode cX6_delete 47 = .ok (.invokevirtual 26, 3) := by decide +kernel
theorem dX6_delete_50 : decode cX6_delete 50 = .ok (.goto 4, 3) := by decide +kernel
theorem dX6_delete_53 : decode cX6_delete 53 = .ok (.iconst 0, 1) := by decide +kernel
theorem dX6_delete_54 : decode cX6_delete 54 = .ok (.invokevirtual 30, 3) := by decide +kernel
theorem dX6_delete_57 : decode cX6_delete 57 = .ok (.iinc 4 1, 3) := by decide +kernel
theorem dX6_delete_60 : decode cX6_delete 60 = .ok (.goto (-43), 3) := by decide +kernel
theorem dX6_delete_63 : decode cX6_delete 63 = .ok (.return_, 1) := by decide +kernel
theorem dX6_moveUp_0 : decode cX6_moveUp 0 = .ok (.iload_n 1, 1) := by decide +kernel
theorem dX6_moveUp_1 : decode cX6_moveUp 1 = .ok (.ifCond .lt 14, 3) := by decide +kernel
theorem dX6_moveUp_4 : decode cX6_moveUp 4 = .ok (.iload_n 2, 1) := by decide +kernel
theorem dX6_moveUp_5 : decode cX6_moveUp 5 = .ok (.bipush 12, 2) := by decide +kernel
theorem dX6_moveUp_7 : decode cX6_moveUp 7 = .ok (.if_icmp .ge 8, 3) := by decide +kernel
theorem dX6_moveUp_10 : decode cX6_moveUp 10 = .ok (.iload_n 1, 1) := by decide +kernel
theorem dX6_moveUp_11 : decode cX6_moveUp 11 = .ok (.iload_n 2, 1) := by decide +kernel
theorem dX6_moveUp_12 : decode cX6_moveUp 12 = .ok (.if_icmp .le 4, 3) := by decide +kernel
theorem dX6_moveUp_15 : decode cX6_moveUp 15 = .ok (.return_, 1) := by decide +kernel
theorem dX6_moveUp_16 : decode cX6_moveUp 16 = .ok (.iload_n 1, 1) := by decide +kernel
theorem dX6_moveUp_17 : decode cX6_moveUp 17 = .ok (.iconst 1, 1) := by decide +kernel
theorem dX6_moveUp_18 : decode cX6_moveUp 18 = .ok (.iadd, 1) := by decide +kernel
theorem dX6_moveUp_19 : decode cX6_moveUp 19 = .ok (.bipush 24, 2) := by decide +kernel
theorem dX6_moveUp_21 : decode cX6_moveUp 21 = .ok (.imul, 1) := by decide +kernel
theorem dX6_moveUp_22 : decode cX6_moveUp 22 = .ok (.istore_n 3, 1) := by decide +kernel
theorem dX6_moveUp_23 : decode cX6_moveUp 23 = .ok (.aload_n 0, 1) := by decide +kernel
theorem dX6_moveUp_24 : decode cX6_moveUp 24 = .ok (.getfield 9, 3) := by decide +kernel
theorem dX6_moveUp_27 : decode cX6_moveUp 27 = .ok (.iload_n 3, 1) := by decide +kernel
theorem dX6_moveUp_28 : decode cX6_moveUp 28 = .ok (.aload_n 0, 1) := by decide +kernel
theorem dX6_moveUp_29 : decode cX6_moveUp 29 = .ok (.getfield 9, 3) := by decide +kernel
theorem dX6_moveUp_32 : decode cX6_moveUp 32 = .ok (.iload_n 1, 1) := by decide +kernel
theorem dX6_moveUp_33 : decode cX6_moveUp 33 = .ok (.bipush 24, 2) := by decide +kernel
theorem dX6_moveUp_35 : decode cX6_moveUp 35 = .ok (.imul, 1) := by decide +kernel
theorem dX6_moveUp_36 : decode cX6_moveUp 36 = .ok (.iload_n 2, 1) := by decide +kernel
theorem dX6_moveUp_37 : decode cX6_moveUp 37 = .ok (.iload_n 1, 1) := by decide +kernel
theorem dX6_moveUp_38 : decode cX6_moveUp 38 = .ok (.isub, 1) := by decide +kernel
theorem dX6_moveUp_39 : decode cX6_moveUp 39 = .ok (.bipush 24, 2) := by decide +kernel
theorem dX6_moveUp_41 : decode cX6_moveUp 41 = .ok (.imul, 1) := by decide +kernel
theorem dX6_moveUp_42 : decode cX6_moveUp 42 = .ok (.invokestatic 46, 3) := by decide +kernel
theorem dX6_moveUp_45 : decode cX6_moveUp 45 = .ok (.iload_n 1, 1) := by decide +kernel
theorem dX6_moveUp_46 : decode cX6_moveUp 46 = .ok (.istore 4, 2) := by decide +kernel
theorem dX6_moveUp_48 : decode cX6_moveUp 48 = .ok (.iload 4, 2) := by decide +kernel
theorem dX6_moveUp_50 : decode cX6_moveUp 50 = .ok (.iload_n 2, 1) := by decide +kernel
theorem dX6_moveUp_51 : decode cX6_moveUp 51 = .ok (.if_icmp .ge 25, 3) := by decide +kernel
theorem dX6_moveUp_54 : decode cX6_moveUp 54 = .ok (.aload_n 0, 1) := by decide +kernel
theorem dX6_moveUp_55 : decode cX6_moveUp 55 = .ok (.getfield 15, 3) := by decide +kernel
theorem dX6_moveUp_58 : decode cX6_moveUp 58 = .ok (.iload 4, 2) := by decide +kernel
theorem dX6_moveUp_60 : decode cX6_moveUp 60 = .ok (.aload_n 0, 1) := by decide +kernel
theorem dX6_moveUp_61 : decode cX6_moveUp 61 = .ok (.getfield 15, 3) := by decide +kernel
theorem dX6_moveUp_64 : decode cX6_moveUp 64 = .ok (.iload 4, 2) := by decide +kernel
theorem dX6_moveUp_66 : decode cX6_moveUp 66 = .ok (.iconst 1, 1) := by decide +kernel
theorem dX6_moveUp_67 : decode cX6_moveUp 67 = .ok (.iadd, 1) := by decide +kernel
theorem dX6_moveUp_68 : decode cX6_moveUp 68 = .ok (.baload, 1) := by decide +kernel
theorem dX6_moveUp_69 : decode cX6_moveUp 69 = .ok (.bastore, 1) := by decide +kernel
theorem dX6_moveUp_70 : decode cX6_moveUp 70 = .ok (.iinc 4 1, 3) := by decide +kernel
theorem dX6_moveUp_73 : decode cX6_moveUp 73 = .ok (.goto (-25), 3) := by decide +kernel
theorem dX6_moveUp_76 : decode cX6_moveUp 76 = .ok (.aload_n 0, 1) := by decide +kernel
theorem dX6_moveUp_77 : decode cX6_moveUp 77 = .ok (.iload_n 2, 1) := by decide +kernel
theorem dX6_moveUp_78 : decode cX6_moveUp 78 = .ok (.invokevirtual 52, 3) := by decide +kernel
theorem dX6_moveUp_81 : decode cX6_moveUp 81 = .ok (.return_, 1) := by decide +kernel
theorem dX6_moveDown_0 : decode cX6_moveDown 0 = .ok (.iload_n 1, 1) := by decide +kernel
theorem dX6_moveDown_1 : decode cX6_moveDown 1 = .ok (.ifCond .lt 14, 3) := by decide +kernel
theorem dX6_moveDown_4 : decode cX6_moveDown 4 = .ok (.iload_n 2, 1) := by decide +kernel
theorem dX6_moveDown_5 : decode cX6_moveDown 5 = .ok (.bipush 12, 2) := by decide +kernel
theorem dX6_moveDown_7 : decode cX6_moveDown 7 = .ok (.if_icmp .ge 8, 3) := by decide +kernel
theorem dX6_moveDown_10 : decode cX6_moveDown 10 = .ok (.iload_n 1, 1) := by decide +kernel
theorem dX6_moveDown_11 : decode cX6_moveDown 11 = .ok (.iload_n 2, 1) := by decide +kernel
theorem dX6_moveDown_12 : decode cX6_moveDown 12 = .ok (.if_icmp .le 4, 3) := by decide +kernel
theorem dX6_moveDown_15 : decode cX6_moveDown 15 = .ok (.return_, 1) := by decide +kernel
theorem dX6_moveDown_16 : decode cX6_moveDown 16 = .ok (.iload_n 1, 1) := by decide +kernel
theorem dX6_moveDown_17 : decode cX6_moveDown 17 = .ok (.bipush 24, 2) := by decide +kernel
theorem dX6_moveDown_19 : decode cX6_moveDown 19 = .ok (.imul, 1) := by decide +kernel
theorem dX6_moveDown_20 : decode cX6_moveDown 20 = .ok (.istore_n 3, 1) := by decide +kernel
theorem dX6_moveDown_21 : decode cX6_moveDown 21 = .ok (.aload_n 0, 1) := by decide +kernel
theorem dX6_moveDown_22 : decode cX6_moveDown 22 = .ok (.getfield 9, 3) := by decide +kernel
theorem dX6_moveDown_25 : decode cX6_moveDown 25 = .ok (.iload_n 3, 1) := by decide +kernel
theorem dX6_moveDown_26 : decode cX6_moveDown 26 = .ok (.aload_n 0, 1) := by decide +kernel
theorem dX6_moveDown_27 : decode cX6_moveDown 27 = .ok (.getfield 9, 3) := by decide +kernel
theorem dX6_moveDown_30 : decode cX6_moveDown 30 = .ok (.iload_n 3, 1) := by decide +kernel
theorem dX6_moveDown_31 : decode cX6_moveDown 31 = .ok (.bipush 24, 2) := by decide +kernel
theorem dX6_moveDown_33 : decode cX6_moveDown 33 = .ok (.iadd, 1) := by decide +kernel
theorem dX6_moveDown_34 : decode cX6_moveDown 34 = .ok (.iload_n 2, 1) := by decide +kernel
theorem dX6_moveDown_35 : decode cX6_moveDown 35 = .ok (.iload_n 1, 1) := by decide +kernel
theorem dX6_moveDown_36 : decode cX6_moveDown 36 = .ok (.isub, 1) := by decide +kernel
theorem dX6_moveDown_37 : decode cX6_moveDown 37 = .ok (.bipush 24, 2) := by decide +kernel
theorem dX6_moveDown_39 : decode cX6_moveDown 39 = .ok (.imul, 1) := by decide +kernel
theorem dX6_moveDown_40 : decode cX6_moveDown 40 = .ok (.invokestatic 46, 3) := by decide +kernel
theorem dX6_moveDown_43 : decode cX6_moveDown 43 = .ok (.iload_n 2, 1) := by decide +kernel
theorem dX6_moveDown_44 : decode cX6_moveDown 44 = .ok (.istore 4, 2) := by decide +kernel
theorem dX6_moveDown_46 : decode cX6_moveDown 46 = .ok (.iload 4, 2) := by decide +kernel
theorem dX6_moveDown_48 : decode cX6_moveDown 48 = .ok (.iload_n 1, 1) := by decide +kernel
theorem dX6_moveDown_49 : decode cX6_moveDown 49 = .ok (.if_icmp .le 25, 3) := by decide +kernel
theorem dX6_moveDown_52 : decode cX6_moveDown 52 = .ok (.aload_n 0, 1) := by decide +kernel
theorem dX6_moveDown_53 : decode cX6_moveDown 53 = .ok (.getfield 15, 3) := by decide +kernel
theorem dX6_moveDown_56 : decode cX6_moveDown 56 = .ok (.iload 4, 2) := by decide +kernel
theorem dX6_moveDown_58 : decode cX6_moveDown 58 = .ok (.aload_n 0, 1) := by decide +kernel
theorem dX6_moveDown_59 : decode cX6_moveDown 59 = .ok (.getfield 15, 3) := by decide +kernel
theorem dX6_moveDown_62 : decode cX6_moveDown 62 = .ok (.iload 4, 2) := by decide +kernel
theorem dX6_moveDown_64 : decode cX6_moveDown 64 = .ok (.iconst 1, 1) := by decide +kernel
theorem dX6_moveDown_65 : decode cX6_moveDown 65 = .ok (.isub, 1) := by decide +kernel
theorem dX6_moveDown_66 : decode cX6_moveDown 66 = .ok (.baload, 1) := by decide +kernel
theorem dX6_moveDown_67 : decode cX6_moveDown 67 = .ok (.bastore, 1) := by decide +kernel
theorem dX6_moveDown_68 : decode cX6_moveDown 68 = .ok (.iinc 4 (-1), 3) := by decide +kernel
theorem dX6_moveDown_71 : decode cX6_moveDown 71 = .ok (.goto (-25), 3) := by decide +kernel
theorem dX6_moveDown_74 : decode cX6_moveDown 74 = .ok (.aload_n 0, 1) := by decide +kernel
theorem dX6_moveDown_75 : decode cX6_moveDown 75 = .ok (.iload_n 1, 1) := by decide +kernel
theorem dX6_moveDown_76 : decode cX6_moveDown 76 = .ok (.invokevirtual 52, 3) := by decide +kernel
theorem dX6_moveDown_79 : decode cX6_moveDown 79 = .ok (.aload_n 0, 1) := by decide +kernel
theorem dX6_moveDown_80 : decode cX6_moveDown 80 = .ok (.getfield 15, 3) := by decide +kernel
theorem dX6_moveDown_83 : decode cX6_moveDown 83 = .ok (.iload_n 2, 1) := by decide +kernel
theorem dX6_moveDown_84 : decode cX6_moveDown 84 = .ok (.iconst 0, 1) := by decide +kernel
theorem dX6_moveDown_85 : decode cX6_moveDown 85 = .ok (.bastore, 1) := by decide +kernel
theorem dX6_moveDown_86 : decode cX6_moveDown 86 = .ok (.return_, 1) := by decide +kernel
theorem dX6_clearRow_0 : decode cX6_clearRow 0 = .ok (.iload_n 1, 1) := by decide +kernel
theorem dX6_clearRow_1 : decode cX6_clearRow 1 = .ok (.ifCond .lt 9, 3) := by decide +kernel
theorem dX6_clearRow_4 : decode cX6_clearRow 4 = .ok (.iload_n 1, 1) := by decide +kernel
theorem dX6_clearRow_5 : decode cX6_clearRow 5 = .ok (.bipush 12, 2) := by decide +kernel
theorem dX6_clearRow_7 : decode cX6_clearRow 7 = .ok (.if_icmp .lt 4, 3) := by decide +kernel
theorem dX6_clearRow_10 : decode cX6_clearRow 10 = .ok (.return_, 1) := by decide +kernel
theorem dX6_clearRow_11 : decode cX6_clearRow 11 = .ok (.aload_n 0, 1) := by decide +kernel
theorem dX6_clearRow_12 : decode cX6_clearRow 12 = .ok (.getfield 9, 3) := by decide +kernel
theorem dX6_clearRow_15 : decode cX6_clearRow 15 = .ok (.iload_n 1, 1) := by decide +kernel
theorem dX6_clearRow_16 : decode cX6_clearRow 16 = .ok (.bipush 24, 2) := by decide +kernel
theorem dX6_clearRow_18 : decode cX6_clearRow 18 = .ok (.imul, 1) := by decide +kernel
theorem dX6_clearRow_19 : decode cX6_clearRow 19 = .ok (.iload_n 1, 1) := by decide +kernel
theorem dX6_clearRow_20 : decode cX6_clearRow 20 = .ok (.iconst 1, 1) := by decide +kernel
theorem dX6_clearRow_21 : decode cX6_clearRow 21 = .ok (.iadd, 1) := by decide +kernel
theorem dX6_clearRow_22 : decode cX6_clearRow 22 = .ok (.bipush 24, 2) := by decide +kernel
theorem dX6_clearRow_24 : decode cX6_clearRow 24 = .ok (.imul, 1) := by decide +kernel
theorem dX6_clearRow_25 : decode cX6_clearRow 25 = .ok (.iconst 0, 1) := by decide +kernel
theorem dX6_clearRow_26 : decode cX6_clearRow 26 = .ok (.invokestatic 56, 3) := by decide +kernel
theorem dX6_clearRow_29 : decode cX6_clearRow 29 = .ok (.aload_n 0, 1) := by decide +kernel
theorem dX6_clearRow_30 : decode cX6_clearRow 30 = .ok (.getfield 15, 3) := by decide +kernel
theorem dX6_clearRow_33 : decode cX6_clearRow 33 = .ok (.iload_n 1, 1) := by decide +kernel
theorem dX6_clearRow_34 : decode cX6_clearRow 34 = .ok (.iconst 0, 1) := by decide +kernel
theorem dX6_clearRow_35 : decode cX6_clearRow 35 = .ok (.bastore, 1) := by decide +kernel
theorem dX6_clearRow_36 : decode cX6_clearRow 36 = .ok (.return_, 1) := by decide +kernel
theorem dX6_clear_0 : decode cX6_clear 0 = .ok (.iconst 0, 1) := by decide +kernel
theorem dX6_clear_1 : decode cX6_clear 1 = .ok (.istore_n 1, 1) := by decide +kernel
theorem dX6_clear_2 : decode cX6_clear 2 = .ok (.iload_n 1, 1) := by decide +kernel
theorem dX6_clear_3 : decode cX6_clear 3 = .ok (.bipush 12, 2) := by decide +kernel
theorem dX6_clear_5 : decode cX6_clear 5 = .ok (.if_icmp .ge 14, 3) := by decide +kernel
theorem dX6_clear_8 : decode cX6_clear 8 = .ok (.aload_n 0, 1) := by decide +kernel
theorem dX6_clear_9 : decode cX6_clear 9 = .ok (.iload_n 1, 1) := by decide +kernel
theorem dX6_clear_10 : decode cX6_clear 10 = .ok (.invokevirtual 52, 3) := by decide +kernel
theorem dX6_clear_13 : decode cX6_clear 13 = .ok (.iinc 1 1, 3) := by decide +kernel
theorem dX6_clear_16 : decode cX6_clear 16 = .ok (.goto (-14), 3) := by decide +kernel
theorem dX6_clear_19 : decode cX6_clear 19 = .ok (.return_, 1) := by decide +kernel
theorem dX6_begin_0 : decode cX6_begin 0 = .ok (.aload_n 0, 1) := by decide +kernel
theorem dX6_begin_1 : decode cX6_begin 1 = .ok (.invokevirtual 62, 3) := by decide +kernel
theorem dX6_begin_4 : decode cX6_begin 4 = .ok (.aload_n 0, 1) := by decide +kernel
theorem dX6_begin_5 : decode cX6_begin 5 = .ok (.iload_n 1, 1) := by decide +kernel
theorem dX6_begin_6 : decode cX6_begin 6 = .ok (.putfield 19, 3) := by decide +kernel
theorem dX6_begin_9 : decode cX6_begin 9 = .ok (.aload_n 0, 1) := by decide +kernel
theorem dX6_begin_10 : decode cX6_begin 10 = .ok (.iload_n 2, 1) := by decide +kernel
theorem dX6_begin_11 : decode cX6_begin 11 = .ok (.putfield 23, 3) := by decide +kernel
theorem dX6_begin_14 : decode cX6_begin 14 = .ok (.return_, 1) := by decide +kernel
theorem dX6_cut_0 : decode cX6_cut 0 = .ok (.iconst 0, 1) := by decide +kernel
theorem dX6_cut_1 : decode cX6_cut 1 = .ok (.istore_n 3, 1) := by decide +kernel
theorem dX6_cut_2 : decode cX6_cut 2 = .ok (.iload_n 3, 1) := by decide +kernel
theorem dX6_cut_3 : decode cX6_cut 3 = .ok (.aload_n 0, 1) := by decide +kernel
theorem dX6_cut_4 : decode cX6_cut 4 = .ok (.getfield 19, 3) := by decide +kernel
theorem dX6_cut_7 : decode cX6_cut 7 = .ok (.if_icmp .ge 41, 3) := by decide +kernel
theorem dX6_cut_10 : decode cX6_cut 10 = .ok (.aload_n 0, 1) := by decide +kernel
theorem dX6_cut_11 : decode cX6_cut 11 = .ok (.iload_n 3, 1) := by decide +kernel
theorem dX6_cut_12 : decode cX6_cut 12 = .ok (.iload_n 2, 1) := by decide +kernel
theorem dX6_cut_13 : decode cX6_cut 13 = .ok (.invokevirtual 34, 3) := by decide +kernel
theorem dX6_cut_16 : decode cX6_cut 16 = .ok (.iload_n 2, 1) := by decide +kernel
theorem dX6_cut_17 : decode cX6_cut 17 = .ok (.istore 4, 2) := by decide +kernel
theorem dX6_cut_19 : decode cX6_cut 19 = .ok (.iload 4, 2) := by decide +kernel
theorem dX6_cut_21 : decode cX6_cut 21 = .ok (.aload_n 0, 1) := by decide +kernel
theorem dX6_cut_22 : decode cX6_cut 22 = .ok (.getfield 23, 3) := by decide +kernel
theorem dX6_cut_25 : decode cX6_cut 25 = .ok (.if_icmp .ge 17, 3) := by decide +kernel
theorem dX6_cut_28 : decode cX6_cut 28 = .ok (.aload_n 0, 1) := by decide +kernel
theorem dX6_cut_29 : decode cX6_cut 29 = .ok (.iload_n 3, 1) := by decide +kernel
theorem dX6_cut_30 : decode cX6_cut 30 = .ok (.iload 4, 2) := by decide +kernel
theorem dX6_cut_32 : decode cX6_cut 32 = .ok (.iconst 0, 1) := by decide +kernel
theorem dX6_cut_33 : decode cX6_cut 33 = .ok (.invokevirtual 30, 3) := by decide +kernel
theorem dX6_cut_36 : decode cX6_cut 36 = .ok (.iinc 4 1, 3) := by decide +kernel
theorem dX6_cut_39 : decode cX6_cut 39 = .ok (.goto (-20), 3) := by decide +kernel
theorem dX6_cut_42 : decode cX6_cut 42 = .ok (.iinc 3 1, 3) := by decide +kernel
theorem dX6_cut_45 : decode cX6_cut 45 = .ok (.goto (-43), 3) := by decide +kernel
theorem dX6_cut_48 : decode cX6_cut 48 = .ok (.iload_n 1, 1) := by decide +kernel
theorem dX6_cut_49 : decode cX6_cut 49 = .ok (.istore_n 3, 1) := by decide +kernel
theorem dX6_cut_50 : decode cX6_cut 50 = .ok (.iload_n 3, 1) := by decide +kernel
theorem dX6_cut_51 : decode cX6_cut 51 = .ok (.aload_n 0, 1) := by decide +kernel
theorem dX6_cut_52 : decode cX6_cut 52 = .ok (.getfield 19, 3) := by decide +kernel
theorem dX6_cut_55 : decode cX6_cut 55 = .ok (.if_icmp .ge 14, 3) := by decide +kernel
theorem dX6_cut_58 : decode cX6_cut 58 = .ok (.aload_n 0, 1) := by decide +kernel
theorem dX6_cut_59 : decode cX6_cut 59 = .ok (.iload_n 3, 1) := by decide +kernel
theorem dX6_cut_60 : decode cX6_cut 60 = .ok (.invokevirtual 52, 3) := by decide +kernel
theorem dX6_cut_63 : decode cX6_cut 63 = .ok (.iinc 3 1, 3) := by decide +kernel
theorem dX6_cut_66 : decode cX6_cut 66 = .ok (.goto (-16), 3) := by decide +kernel
theorem dX6_cut_69 : decode cX6_cut 69 = .ok (.aload_n 0, 1) := by decide +kernel
theorem dX6_cut_70 : decode cX6_cut 70 = .ok (.iload_n 1, 1) := by decide +kernel
theorem dX6_cut_71 : decode cX6_cut 71 = .ok (.putfield 19, 3) := by decide +kernel
theorem dX6_cut_74 : decode cX6_cut 74 = .ok (.aload_n 0, 1) := by decide +kernel
theorem dX6_cut_75 : decode cX6_cut 75 = .ok (.iload_n 2, 1) := by decide +kernel
theorem dX6_cut_76 : decode cX6_cut 76 = .ok (.putfield 23, 3) := by decide +kernel
theorem dX6_cut_79 : decode cX6_cut 79 = .ok (.aload_n 0, 1) := by decide +kernel
theorem dX6_cut_80 : decode cX6_cut 80 = .ok (.aload_n 0, 1) := by decide +kernel
theorem dX6_cut_81 : decode cX6_cut 81 = .ok (.getfield 19, 3) := by decide +kernel
theorem dX6_cut_84 : decode cX6_cut 84 = .ok (.iconst 1, 1) := by decide +kernel
theorem dX6_cut_85 : decode cX6_cut 85 = .ok (.isub, 1) := by decide +kernel
theorem dX6_cut_86 : decode cX6_cut 86 = .ok (.iconst 0, 1) := by decide +kernel
theorem dX6_cut_87 : decode cX6_cut 87 = .ok (.invokevirtual 65, 3) := by decide +kernel
theorem dX6_cut_90 : decode cX6_cut 90 = .ok (.return_, 1) := by decide +kernel
theorem dX6_copyCells_0 : decode cX6_copyCells 0 = .ok (.iconst 0, 1) := by decide +kernel
theorem dX6_copyCells_1 : decode cX6_copyCells 1 = .ok (.istore_n 2, 1) := by decide +kernel
theorem dX6_copyCells_2 : decode cX6_copyCells 2 = .ok (.iload_n 2, 1) := by decide +kernel
theorem dX6_copyCells_3 : decode cX6_copyCells 3 = .ok (.aload_n 0, 1) := by decide +kernel
theorem dX6_copyCells_4 : decode cX6_copyCells 4 = .ok (.getfield 19, 3) := by decide +kernel
theorem dX6_copyCells_7 : decode cX6_copyCells 7 = .ok (.if_icmp .ge 37, 3) := by decide +kernel
theorem dX6_copyCells_10 : decode cX6_copyCells 10 = .ok (.iconst 0, 1) := by decide +kernel
theorem dX6_copyCells_11 : decode cX6_copyCells 11 = .ok (.istore_n 3, 1) := by decide +kernel
theorem dX6_copyCells_12 : decode cX6_copyCells 12 = .ok (.iload_n 3, 1) := by decide +kernel
theorem dX6_copyCells_13 : decode cX6_copyCells 13 = .ok (.aload_n 0, 1) := by decide +kernel
theorem dX6_copyCells_14 : decode cX6_copyCells 14 = .ok (.getfield 23, 3) := by decide +kernel
theorem dX6_copyCells_17 : decode cX6_copyCells 17 = .ok (.if_icmp .ge 21, 3) := by decide +kernel
theorem dX6_copyCells_20 : decode cX6_copyCells 20 = .ok (.aload_n 0, 1) := by decide +kernel
theorem dX6_copyCells_21 : decode cX6_copyCells 21 = .ok (.iload_n 2, 1) := by decide +kernel
theorem dX6_copyCells_22 : decode cX6_copyCells 22 = .ok (.iload_n 3, 1) := by decide +kernel
theorem dX6_copyCells_23 : decode cX6_copyCells 23 = .ok (.aload_n 1, 1) := by decide +kernel
theorem dX6_copyCells_24 : decode cX6_copyCells 24 = .ok (.iload_n 2, 1) := by decide +kernel
theorem dX6_copyCells_25 : decode cX6_copyCells 25 = .ok (.iload_n 3, 1) := by decide +kernel
theorem dX6_copyCells_26 : decode cX6_copyCells 26 = .ok (.invokevirtual 26, 3) := by decide +kernel
theorem dX6_copyCells_29 : decode cX6_copyCells 29 = .ok (.invokevirtual 30, 3) := by decide +kernel
theorem dX6_copyCells_32 : decode cX6_copyCells 32 = .ok (.iinc 3 1, 3) := by decide +kernel
theorem dX6_copyCells_35 : decode cX6_copyCells 35 = .ok (.goto (-23), 3) := by decide +kernel
theorem dX6_copyCells_38 : decode cX6_copyCells 38 = .ok (.iinc 2 1, 3) := by decide +kernel
theorem dX6_copyCells_41 : decode cX6_copyCells 41 = .ok (.goto (-39), 3) := by decide +kernel
theorem dX6_copyCells_44 : decode cX6_copyCells 44 = .ok (.return_, 1) := by decide +kernel
theorem dX7_init_0 : decode cX7_init 0 = .ok (.aload_n 0, 1) := by decide +kernel
theorem dX7_init_1 : decode cX7_init 1 = .ok (.invokespecial 3, 3) := by decide +kernel
theorem dX7_init_4 : decode cX7_init 4 = .ok (.aload_n 0, 1) := by decide +kernel
theorem dX7_init_5 : decode cX7_init 5 = .ok (.new 9, 3) := by decide +kernel
theorem dX7_init_8 : decode cX7_init 8 = .ok (.dup, 1) := by decide +kernel
theorem dX7_init_9 : decode cX7_init 9 = .ok (.bipush 16, 2) := by decide +kernel
theorem dX7_init_11 : decode cX7_init 11 = .ok (.invokespecial 11, 3) := by decide +kernel
theorem dX7_init_14 : decode cX7_init 14 = .ok (.putfield 14, 3) := by decide +kernel
theorem dX7_init_17 : decode cX7_init 17 = .ok (.aload_n 0, 1) := by decide +kernel
theorem dX7_init_18 : decode cX7_init 18 = .ok (.new 9, 3) := by decide +kernel
theorem dX7_init_21 : decode cX7_init 21 = .ok (.dup, 1) := by decide +kernel
theorem dX7_init_22 : decode cX7_init 22 = .ok (.bipush 16, 2) := by decide +kernel
theorem dX7_init_24 : decode cX7_init 24 = .ok (.invokespecial 11, 3) := by decide +kernel
theorem dX7_init_27 : decode cX7_init 27 = .ok (.putfield 20, 3) := by decide +kernel
theorem dX7_init_30 : decode cX7_init 30 = .ok (.aload_n 0, 1) := by decide +kernel
theorem dX7_init_31 : decode cX7_init 31 = .ok (.iconst 4, 1) := by decide +kernel
theorem dX7_init_32 : decode cX7_init 32 = .ok (.newarray .int, 2) := by decide +kernel
theorem dX7_init_34 : decode cX7_init 34 = .ok (.putfield 23, 3) := by decide +kernel
theorem dX7_init_37 : decode cX7_init 37 = .ok (.aload_n 0, 1) := by decide +kernel
theorem dX7_init_38 : decode cX7_init 38 = .ok (.iconst 0, 1) := by decide +kernel
theorem dX7_init_39 : decode cX7_init 39 = .ok (.putfield 27, 3) := by decide +kernel
theorem dX7_init_42 : decode cX7_init 42 = .ok (.return_, 1) := by decide +kernel
theorem dX7_number_0 : decode cX7_number 0 = .ok (.iload_n 1, 1) := by decide +kernel
theorem dX7_number_1 : decode cX7_number 1 = .ok (.ifCond .lt 17, 3) := by decide +kernel
theorem dX7_number_4 : decode cX7_number 4 = .ok (.iload_n 1, 1) := by decide +kernel
theorem dX7_number_5 : decode cX7_number 5 = .ok (.iconst 4, 1) := by decide +kernel
theorem dX7_number_6 : decode cX7_number 6 = .ok (.if_icmp .ge 12, 3) := by decide +kernel
theorem dX7_number_9 : decode cX7_number 9 = .ok (.aload_n 0, 1) := by decide +kernel
theorem dX7_number_10 : decode cX7_number 10 = .ok (.getfield 23, 3) := by decide +kernel
theorem dX7_number_13 : decode cX7_number 13 = .ok (.iload_n 1, 1) := by decide +kernel
theorem dX7_number_14 : decode cX7_number 14 = .ok (.iaload, 1) := by decide +kernel
theorem dX7_number_15 : decode cX7_number 15 = .ok (.goto 4, 3) := by decide +kernel
theorem dX7_number_18 : decode cX7_number 18 = .ok (.iconst 0, 1) := by decide +kernel
theorem dX7_number_19 : decode cX7_number 19 = .ok (.ireturn, 1) := by decide +kernel
theorem dX7_read_0 : decode cX7_read 0 = .ok (.aload_n 0, 1) := by decide +kernel
theorem dX7_read_1 : decode cX7_read 1 = .ok (.getfield 27, 3) := by decide +kernel
theorem dX7_read_4 : decode cX7_read 4 = .ok (.iconst 3, 1) := by decide +kernel
theorem dX7_read_5 : decode cX7_read 5 = .ok (.if_icmp .ne 10, 3) := by decide +kernel
theorem dX7_read_8 : decode cX7_read 8 = .ok (.aload_n 0, 1) := by decide +kernel
theorem dX7_read_9 : decode cX7_read 9 = .ok (.iload_n 1, 1) := by decide +kernel
theorem dX7_read_10 : decode cX7_read 10 = .ok (.invokevirtual 31, 3) := by decide +kernel
theorem dX7_read_13 : decode cX7_read 13 = .ok (.iconst 0, 1) := by decide +kernel
theorem dX7_read_14 : decode cX7_read 14 = .ok (.ireturn, 1) := by decide +kernel
theorem dX7_read_15 : decode cX7_read 15 = .ok (.iload_n 1, 1) := by decide +kernel
theorem dX7_read_16 : decode cX7_read 16 = .ok (.bipush 32, 2) := by decide +kernel
theorem dX7_read_18 : decode cX7_read 18 = .ok (.if_icmp .lt 9, 3) := by decide +kernel
theorem dX7_read_21 : decode cX7_read 21 = .ok (.iload_n 1, 1) := by decide +kernel
theorem dX7_read_22 : decode cX7_read 22 = .ok (.bipush 127, 2) := by decide +kernel
theorem dX7_read_24 : decode cX7_read 24 = .ok (.if_icmp .ne 9, 3) := by decide +kernel
theorem dX7_read_27 : decode cX7_read 27 = .ok (.aload_n 0, 1) := by decide +kernel
theorem dX7_read_28 : decode cX7_read 28 = .ok (.iload_n 1, 1) := by decide +kernel
theorem dX7_read_29 : decode cX7_read 29 = .ok (.invokevirtual 34, 3) := by decide +kernel
theorem dX7_read_32 : decode cX7_read 32 = .ok (.ireturn, 1) := by decide +kernel
theorem dX7_read_33 : decode cX7_read 33 = .ok (.aload_n 0, 1) := by decide +kernel
theorem dX7_read_34 : decode cX7_read 34 = .ok (.getfield 27, 3) := by decide +kernel
theorem dX7_read_37 : decode cX7_read 37 = .ok (.iconst 1, 1) := by decide +kernel
theorem dX7_read_38 : decode cX7_read 38 = .ok (.if_icmp .ne 9, 3) := by decide +kernel
theorem dX7_read_41 : decode cX7_read 41 = .ok (.aload_n 0, 1) := by decide +kernel
theorem dX7_read_42 : decode cX7_read 42 = .ok (.iload_n 1, 1) := by decide +kernel
theorem dX7_read_43 : decode cX7_read 43 = .ok (.invokevirtual 38, 3) := by decide +kernel
theorem dX7_read_46 : decode cX7_read 46 = .ok (.ireturn, 1) := by decide +kernel
theorem dX7_read_47 : decode cX7_read 47 = .ok (.aload_n 0, 1) := by decide +kernel
theorem dX7_read_48 : decode cX7_read 48 = .ok (.getfield 27, 3) := by decide +kernel
theorem dX7_read_51 : decode cX7_read 51 = .ok (.iconst 2, 1) := by decide +kernel
theorem dX7_read_52 : decode cX7_read 52 = .ok (.if_icmp .ne 9, 3) := by decide +kernel
theorem dX7_read_55 : decode cX7_read 55 = .ok (.aload_n 0, 1) := by decide +kernel
theorem dX7_read_56 : decode cX7_read 56 = .ok (.iload_n 1, 1) := by decide +kernel
theorem dX7_read_57 : decode cX7_read 57 = .ok (.invokevirtual 41, 3) := by decide +kernel
theorem dX7_read_60 : decode cX7_read 60 = .ok (.ireturn, 1) := by decide +kernel
theorem dX7_read_61 : decode cX7_read 61 = .ok (.iload_n 1, 1) := by decide +kernel
theorem dX7_read_62 : decode cX7_read 62 = .ok (.bipush 96, 2) := by decide +kernel
theorem dX7_read_64 : decode cX7_read 64 = .ok (.if_icmp .ne 7, 3) := by decide +kernel
theorem dX7_read_67 : decode cX7_read 67 = .ok (.iconst 2, 1) := by decide +kernel
theorem dX7_read_68 : decode cX7_read 68 = .ok (.goto 4, 3) := by decide +kernel
theorem dX7_read_71 : decode cX7_read 71 = .ok (.iconst 1, 1) := by decide +kernel
theorem dX7_read_72 : decode cX7_read 72 = .ok (.ireturn, 1) := by decide +kernel
theorem dX7_readControl_0 : decode cX7_readControl 0 = .ok (.iload_n 1, 1) := by decide +kernel
theorem dX7_readControl_1 : decode cX7_readControl 1 = .ok (.bipush 24, 2) := by decide +kernel
theorem dX7_readControl_3 : decode cX7_readControl 3 = .ok (.if_icmp .ne 10, 3) := by decide +kernel
theorem dX7_readControl_6 : decode cX7_readControl 6 = .ok (.aload_n 0, 1) := by decide +kernel
theorem dX7_readControl_7 : decode cX7_readControl 7 = .ok (.iconst 0, 1) := by decide +kernel
theorem dX7_readControl_8 : decode cX7_readControl 8 = .ok (.putfield 27, 3) := by decide +kernel
theorem dX7_readControl_11 : decode cX7_readControl 11 = .ok (.iconst 0, 1) := by decide +kernel
theorem dX7_readControl_12 : decode cX7_readControl 12 = .ok (.ireturn, 1) := by decide +kernel
theorem dX7_readControl_13 : decode cX7_readControl 13 = .ok (.iload_n 1, 1) := by decide +kernel
theorem dX7_readControl_14 : decode cX7_readControl 14 = .ok (.bipush 27, 2) := by decide +kernel
theorem dX7_readControl_16 : decode cX7_readControl 16 = .ok (.if_icmp .ne 10, 3) := by decide +kernel
theorem dX7_readControl_19 : decode cX7_readControl 19 = .ok (.aload_n 0, 1) := by decide +kernel
theorem dX7_readControl_20 : decode cX7_readControl 20 = .ok (.iconst 1, 1) := by decide +kernel
theorem dX7_readControl_21 : decode cX7_readControl 21 = .ok (.putfield 27, 3) := by decide +kernel
theorem dX7_readControl_24 : decode cX7_readControl 24 = .ok (.iconst 0, 1) := by decide +kernel
theorem dX7_readControl_25 : decode cX7_readControl 25 = .ok (.ireturn, 1) := by decide +kernel
theorem dX7_readControl_26 : decode cX7_readControl 26 = .ok (.iconst 3, 1) := by decide +kernel
theorem dX7_readControl_27 : decode cX7_readControl 27 = .ok (.ireturn, 1) := by decide +kernel
theorem dX7_readEscape_0 : decode cX7_readEscape 0 = .ok (.iload_n 1, 1) := by decide +kernel
theorem dX7_readEscape_1 : decode cX7_readEscape 1 = .ok (.bipush 91, 2) := by decide +kernel
theorem dX7_readEscape_3 : decode cX7_readEscape 3 = .ok (.if_icmp .ne 9, 3) := by decide +kernel
theorem dX7_readEscape_6 : decode cX7_readEscape 6 = .ok (.aload_n 0, 1) := by decide +kernel
theorem dX7_readEscape_7 : decode cX7_readEscape 7 = .ok (.invokevirtual 44, 3) := by decide +kernel
theorem dX7_readEscape_10 : decode cX7_readEscape 10 = .ok (.iconst 0, 1) := by decide +kernel
theorem dX7_readEscape_11 : decode cX7_readEscape 11 = .ok (.ireturn, 1) := by decide +kernel
theorem dX7_readEscape_12 : decode cX7_readEscape 12 = .ok (.iload_n 1, 1) := by decide +kernel
theorem dX7_readEscape_13 : decode cX7_readEscape 13 = .ok (.bipush 93, 2) := by decide +kernel
theorem dX7_readEscape_15 : decode cX7_readEscape 15 = .ok (.if_icmp .ne 17, 3) := by decide +kernel
theorem dX7_readEscape_18 : decode cX7_readEscape 18 = .ok (.aload_n 0, 1) := by decide +kernel
theorem dX7_readEscape_19 : decode cX7_readEscape 19 = .ok (.iconst 3, 1) := by decide +kernel
theorem dX7_readEscape_20 : decode cX7_readEscape 20 = .ok (.putfield 27, 3) := by decide +kernel
theorem dX7_readEscape_23 : decode cX7_readEscape 23 = .ok (.aload_n 0, 1) := by decide +kernel
theorem dX7_readEscape_24 : decode cX7_readEscape 24 = .ok (.getfield 20, 3) := by decide +kernel
theorem dX7_readEscape_27 : decode cX7_readEscape 27 = .ok (.invokevirtual 47, 3) := by decide +kernel
theorem dX7_readEscape_30 : decode cX7_readEscape 30 = .ok (.iconst 0, 1) := by decide +kernel
theorem dX7_readEscape_31 : decode cX7_readEscape 31 = .ok (.ireturn, 1) := by decide +kernel
theorem dX7_readEscape_32 : decode cX7_readEscape 32 = .ok (.aload_n 0, 1) := by decide +kernel
theorem dX7_readEscape_33 : decode cX7_readEscape 33 = .ok (.iconst 0, 1) := by decide +kernel
theorem dX7_readEscape_34 : decode cX7_readEscape 34 = .ok (.putfield 27, 3) := by decide +kernel
theorem dX7_readEscape_37 : decode cX7_readEscape 37 = .ok (.iconst 4, 1) := by decide +kernel
theorem dX7_readEscape_38 : decode cX7_readEscape 38 = .ok (.ireturn, 1) := by decide +kernel
theorem dX7_beginCode_0 : decode cX7_beginCode 0 = .ok (.aload_n 0, 1) := by decide +kernel
theorem dX7_beginCode_1 : decode cX7_beginCode 1 = .ok (.iconst 2, 1) := by decide +kernel
theorem dX7_beginCode_2 : decode cX7_beginCode 2 = .ok (.putfield 27, 3) := by decide +kernel
theorem dX7_beginCode_5 : decode cX7_beginCode 5 = .ok (.aload_n 0, 1) := by decide +kernel
theorem dX7_beginCode_6 : decode cX7_beginCode 6 = .ok (.iconst 1, 1) := by decide +kernel
theorem dX7_beginCode_7 : decode cX7_beginCode 7 = .ok (.putfield 50, 3) := by decide +kernel
theorem dX7_beginCode_10 : decode cX7_beginCode 10 = .ok (.aload_n 0, 1) := by decide +kernel
theorem dX7_beginCode_11 : decode cX7_beginCode 11 = .ok (.iconst 0, 1) := by decide +kernel
theorem dX7_beginCode_12 : decode cX7_beginCode 12 = .ok (.putfield 53, 3) := by decide +kernel
theorem dX7_beginCode_15 : decode cX7_beginCode 15 = .ok (.aload_n 0, 1) := by decide +kernel
theorem dX7_beginCode_16 : decode cX7_beginCode 16 = .ok (.iconst 0, 1) := by decide +kernel
theorem dX7_beginCode_17 : decode cX7_beginCode 17 = .ok (.putfield 57, 3) := by decide +kernel
theorem dX7_beginCode_20 : decode cX7_beginCode 20 = .ok (.aload_n 0, 1) := by decide +kernel
theorem dX7_beginCode_21 : decode cX7_beginCode 21 = .ok (.iconst 0, 1) := by decide +kernel
theorem dX7_beginCode_22 : decode cX7_beginCode 22 = .ok (.putfield 60, 3) := by decide +kernel
theorem dX7_beginCode_25 : decode cX7_beginCode 25 = .ok (.iconst 0, 1) := by decide +kernel
theorem dX7_beginCode_26 : decode cX7_beginCode 26 = .ok (.istore_n 1, 1) := by decide +kernel
theorem dX7_beginCode_27 : decode cX7_beginCode 27 = .ok (.iload_n 1, 1) := by decide +kernel
theorem dX7_beginCode_28 : decode cX7_beginCode 28 = .ok (.iconst 4, 1) := by decide +kernel
theorem dX7_beginCode_29 : decode cX7_beginCode 29 = .ok (.if_icmp .ge 16, 3) := by decide +kernel
theorem dX7_beginCode_32 : decode cX7_beginCode 32 = .ok (.aload_n 0, 1) := by decide +kernel
theorem dX7_beginCode_33 : decode cX7_beginCode 33 = .ok (.getfield 23, 3) := by decide +kernel
theorem dX7_beginCode_36 : decode cX7_beginCode 36 = .ok (.iload_n 1, 1) := by decide +kernel
theorem dX7_beginCode_37 : decode cX7_beginCode 37 = .ok (.iconst 0, 1) := by decide +kernel
theorem dX7_beginCode_38 : decode cX7_beginCode 38 = .ok (.iastore, 1) := by decide +kernel
theorem dX7_beginCode_39 : decode cX7_beginCode 39 = .ok (.iinc 1 1, 3) := by decide +kernel
theorem dX7_beginCode_42 : decode cX7_beginCode 42 = .ok (.goto (-15), 3) := by decide +kernel
theorem dX7_beginCode_45 : decode cX7_beginCode 45 = .ok (.return_, 1) := by decide +kernel
theorem dX7_readCode_0 : decode cX7_readCode 0 = .ok (.iload_n 1, 1) := by decide +kernel
theorem dX7_readCode_1 : decode cX7_readCode 1 = .ok (.bipush 64, 2) := by decide +kernel
theorem dX7_readCode_3 : decode cX7_readCode 3 = .ok (.if_icmp .lt 43, 3) := by decide +kernel
theorem dX7_readCode_6 : decode cX7_readCode 6 = .ok (.aload_n 0, 1) := by decide +kernel
theorem dX7_readCode_7 : decode cX7_readCode 7 = .ok (.iconst 0, 1) := by decide +kernel
theorem dX7_readCode_8 : decode cX7_readCode 8 = .ok (.putfield 27, 3) := by decide +kernel
theorem dX7_readCode_11 : decode cX7_readCode 11 = .ok (.aload_n 0, 1) := by decide +kernel
theorem dX7_readCode_12 : decode cX7_readCode 12 = .ok (.aload_n 0, 1) := by decide +kernel
theorem dX7_readCode_13 : decode cX7_readCode 13 = .ok (.getfield 50, 3) := by decide +kernel
theorem dX7_readCode_16 : decode cX7_readCode 16 = .ok (.iconst 4, 1) := by decide +kernel
theorem dX7_readCode_17 : decode cX7_readCode 17 = .ok (.invokestatic 63, 3) := by decide +kernel
theorem dX7_readCode_20 : decode cX7_readCode 20 = .ok (.putfield 50, 3) := by decide +kernel
theorem dX7_readCode_23 : decode cX7_readCode 23 = .ok (.aload_n 0, 1) := by decide +kernel
theorem dX7_readCode_24 : decode cX7_readCode 24 = .ok (.getfield 57, 3) := by decide +kernel
theorem dX7_readCode_27 : decode cX7_readCode 27 = .ok (.ifCond .eq 5, 3) := by decide +kernel
theorem dX7_readCode_30 : decode cX7_readCode 30 = .ok (.iconst 0, 1) := by decide +kernel
theorem dX7_readCode_31 : decode cX7_readCode 31 = .ok (.ireturn, 1) := by decide +kernel
theorem dX7_readCode_32 : decode cX7_readCode 32 = .ok (.aload_n 0, 1) := by decide +kernel
theorem dX7_readCode_33 : decode cX7_readCode 33 = .ok (.getfield 53, 3) := by decide +kernel
theorem dX7_readCode_36 : decode cX7_readCode 36 = .ok (.ifCond .eq 8, 3) := by decide +kernel
theorem dX7_readCode_39 : decode cX7_readCode 39 = .ok (.bipush 6, 2) := by decide +kernel
theorem dX7_readCode_41 : decode cX7_readCode 41 = .ok (.goto 4, 3) := by decide +kernel
theorem dX7_readCode_44 : decode cX7_readCode 44 = .ok (.iconst 5, 1) := by decide +kernel
theorem dX7_readCode_45 : decode cX7_readCode 45 = .ok (.ireturn, 1) := by decide +kernel
theorem dX7_readCode_46 : decode cX7_readCode 46 = .ok (.iload_n 1, 1) := by decide +kernel
theorem dX7_readCode_47 : decode cX7_readCode 47 = .ok (.bipush 48, 2) := by decide +kernel
theorem dX7_readCode_49 : decode cX7_readCode 49 = .ok (.if_icmp .lt 20, 3) := by decide +kernel
theorem dX7_readCode_52 : decode cX7_readCode 52 = .ok (.iload_n 1, 1) := by decide +kernel
theorem dX7_readCode_53 : decode cX7_readCode 53 = .ok (.bipush 57, 2) := by decide +kernel
theorem dX7_readCode_55 : decode cX7_readCode 55 = .ok (.if_icmp .gt 14, 3) := by decide +kernel
theorem dX7_readCode_58 : decode cX7_readCode 58 = .ok (.aload_n 0, 1) := by decide +kernel
theorem dX7_readCode_59 : decode cX7_readCode 59 = .ok (.iload_n 1, 1) := by decide +kernel
theorem dX7_readCode_60 : decode cX7_readCode 60 = .ok (.bipush 48, 2) := by decide +kernel
theorem dX7_readCode_62 : decode cX7_readCode 62 = .ok (.isub, 1) := by decide +kernel
theorem dX7_readCode_63 : decode cX7_readCode 63 = .ok (.invokevirtual 69, 3) := by decide +kernel
theorem dX7_readCode_66 : decode cX7_readCode 66 = .ok (.goto 52, 3) := by decide +kernel
theorem dX7_readCode_69 : decode cX7_readCode 69 = .ok (.iload_n 1, 1) := by decide +kernel
theorem dX7_readCode_70 : decode cX7_readCode 70 = .ok (.bipush 59, 2) := by decide +kernel
theorem dX7_readCode_72 : decode cX7_readCode 72 = .ok (.if_icmp .ne 20, 3) := by decide +kernel
theorem dX7_readCode_75 : decode cX7_readCode 75 = .ok (.aload_n 0, 1) := by decide +kernel
theorem dX7_readCode_76 : decode cX7_readCode 76 = .ok (.aload_n 0, 1) := by decide +kernel
theorem dX7_readCode_77 : decode cX7_readCode 77 = .ok (.getfield 50, 3) := by decide +kernel
theorem dX7_readCode_80 : decode cX7_readCode 80 = .ok (.iconst 4, 1) := by decide +kernel
theorem dX7_readCode_81 : decode cX7_readCode 81 = .ok (.invokestatic 63, 3) := by decide +kernel
theorem dX7_readCode_84 : decode cX7_readCode 84 = .ok (.iconst 1, 1) := by decide +kernel
theorem dX7_readCode_85 : decode cX7_readCode 85 = .ok (.iadd, 1) := by decide +kernel
theorem dX7_readCode_86 : decode cX7_readCode 86 = .ok (.putfield 50, 3) := by decide +kernel
theorem dX7_readCode_89 : decode cX7_readCode 89 = .ok (.goto 29, 3) := by decide +kernel
theorem dX7_readCode_92 : decode cX7_readCode 92 = .ok (.iload_n 1, 1) := by decide +kernel
theorem dX7_readCode_93 : decode cX7_readCode 93 = .ok (.bipush 63, 2) := by decide +kernel
theorem dX7_readCode_95 : decode cX7_readCode 95 = .ok (.if_icmp .ne 18, 3) := by decide +kernel
theorem dX7_readCode_98 : decode cX7_readCode 98 = .ok (.aload_n 0, 1) := by decide +kernel
theorem dX7_readCode_99 : decode cX7_readCode 99 = .ok (.getfield 60, 3) := by decide +kernel
theorem dX7_readCode_102 : decode cX7_readCode 102 = .ok (.ifCond .ne 11, 3) := by decide +kernel
theorem dX7_readCode_105 : decode cX7_readCode 105 = .ok (.aload_n 0, 1) := by decide +kernel
theorem dX7_readCode_106 : decode cX7_readCode 106 = .ok (.iconst 1, 1) := by decide +kernel
theorem dX7_readCode_107 : decode cX7_readCode 107 = .ok (.putfield 53, 3) := by decide +kernel
theorem dX7_readCode_110 : decode cX7_readCode 110 = .ok (.goto 8, 3) := by decide +kernel
theorem dX7_readCode_113 : decode cX7_readCode 113 = .ok (.aload_n 0, 1) := by decide +kernel
theorem dX7_readCode_114 : decode cX7_readCode 114 = .ok (.iconst 1, 1) := by decide +kernel
theorem dX7_readCode_115 : decode cX7_readCode 115 = .ok (.putfield 57, 3) := by decide +kernel
theorem dX7_readCode_118 : decode cX7_readCode 118 = .ok (.aload_n 0, 1) := by decide +kernel
theorem dX7_readCode_119 : decode cX7_readCode 119 = .ok (.iconst 1, 1) := by decide +kernel
theorem dX7_readCode_120 : decode cX7_readCode 120 = .ok (.putfield 60, 3) := by decide +kernel
theorem dX7_readCode_123 : decode cX7_readCode 123 = .ok (.iconst 0, 1) := by decide +kernel
theorem dX7_readCode_124 : decode cX7_readCode 124 = .ok (.ireturn, 1) := by decide +kernel
theorem dX7_addDigit_0 : decode cX7_addDigit 0 = .ok (.aload_n 0, 1) := by decide +kernel
theorem dX7_addDigit_1 : decode cX7_addDigit 1 = .ok (.getfield 50, 3) := by decide +kernel
theorem dX7_addDigit_4 : decode cX7_addDigit 4 = .ok (.iconst 1, 1) := by decide +kernel
theorem dX7_addDigit_5 : decode cX7_addDigit 5 = .ok (.isub, 1) := by decide +kernel
theorem dX7_addDigit_6 : decode cX7_addDigit 6 = .ok (.istore_n 2, 1) := by decide +kernel
theorem dX7_addDigit_7 : decode cX7_addDigit 7 = .ok (.iload_n 2, 1) := by decide +kernel
theorem dX7_addDigit_8 : decode cX7_addDigit 8 = .ok (.ifCond .lt 31, 3) := by decide +kernel
theorem dX7_addDigit_11 : decode cX7_addDigit 11 = .ok (.iload_n 2, 1) := by decide +kernel
theorem dX7_addDigit_12 : decode cX7_addDigit 12 = .ok (.iconst 4, 1) := by decide +kernel
theorem dX7_addDigit_13 : decode cX7_addDigit 13 = .ok (.if_icmp .ge 26, 3) := by decide +kernel
theorem dX7_addDigit_16 : decode cX7_addDigit 16 = .ok (.aload_n 0, 1) := by decide +kernel
theorem dX7_addDigit_17 : decode cX7_addDigit 17 = .ok (.getfield 23, 3) := by decide +kernel
theorem dX7_addDigit_20 : decode cX7_addDigit 20 = .ok (.iload_n 2, 1) := by decide +kernel
theorem dX7_addDigit_21 : decode cX7_addDigit 21 = .ok (.aload_n 0, 1) := by decide +kernel
theorem dX7_addDigit_22 : decode cX7_addDigit 22 = .ok (.getfield 23, 3) := by decide +kernel
theorem dX7_addDigit_25 : decode cX7_addDigit 25 = .ok (.iload_n 2, 1) := by decide +kernel
theorem dX7_addDigit_26 : decode cX7_addDigit 26 = .ok (.iaload, 1) := by decide +kernel
theorem dX7_addDigit_27 : decode cX7_addDigit 27 = .ok (.bipush 10, 2) := by decide +kernel
theorem dX7_addDigit_29 : decode cX7_addDigit 29 = .ok (.imul, 1) := by decide +kernel
theorem dX7_addDigit_30 : decode cX7_addDigit 30 = .ok (.iload_n 1, 1) := by decide +kernel
theorem dX7_addDigit_31 : decode cX7_addDigit 31 = .ok (.iadd, 1) := by decide +kernel
theorem dX7_addDigit_32 : decode cX7_addDigit 32 = .ok (.sipush 999, 3) := by decide +kernel
theorem dX7_addDigit_35 : decode cX7_addDigit 35 = .ok (.invokestatic 63, 3) := by decide +kernel
theorem dX7_addDigit_38 : decode cX7_addDigit 38 = .ok (.iastore, 1) := by decide +kernel
theorem dX7_addDigit_39 : decode cX7_addDigit 39 = .ok (.return_, 1) := by decide +kernel
theorem dX7_readTitle_0 : decode cX7_readTitle 0 = .ok (.iload_n 1, 1) := by decide +kernel
theorem dX7_readTitle_1 : decode cX7_readTitle 1 = .ok (.bipush 7, 2) := by decide +kernel
theorem dX7_readTitle_3 : decode cX7_readTitle 3 = .ok (.if_icmp .ne 29, 3) := by decide +kernel
theorem dX7_readTitle_6 : decode cX7_readTitle 6 = .ok (.aload_n 0, 1) := by decide +kernel
theorem dX7_readTitle_7 : decode cX7_readTitle 7 = .ok (.iconst 0, 1) := by decide +kernel
theorem dX7_readTitle_8 : decode cX7_readTitle 8 = .ok (.putfield 27, 3) := by decide +kernel
theorem dX7_readTitle_11 : decode cX7_readTitle 11 = .ok (.aload_n 0, 1) := by decide +kernel
theorem dX7_readTitle_12 : decode cX7_readTitle 12 = .ok (.getfield 14, 3) := by decide +kernel
theorem dX7_readTitle_15 : decode cX7_readTitle 15 = .ok (.invokevirtual 47, 3) := by decide +kernel
theorem dX7_readTitle_18 : decode cX7_readTitle 18 = .ok (.aload_n 0, 1) := by decide +kernel
theorem dX7_readTitle_19 : decode cX7_readTitle 19 = .ok (.getfield 14, 3) := by decide +kernel
theorem dX7_readTitle_22 : decode cX7_readTitle 22 = .ok (.aload_n 0, 1) := by decide +kernel
theorem dX7_readTitle_23 : decode cX7_readTitle 23 = .ok (.getfield 20, 3) := by decide +kernel
theorem dX7_readTitle_26 : decode cX7_readTitle 26 = .ok (.invokevirtual 72, 3) := by decide +kernel
theorem dX7_readTitle_29 : decode cX7_readTitle 29 = .ok (.goto 52, 3) := by decide +kernel
theorem dX7_readTitle_32 : decode cX7_readTitle 32 = .ok (.iload_n 1, 1) := by decide +kernel
theorem dX7_readTitle_33 : decode cX7_readTitle 33 = .ok (.bipush 27, 2) := by decide +kernel
theorem dX7_readTitle_35 : decode cX7_readTitle 35 = .ok (.if_icmp .ne 11, 3) := by decide +kernel
theorem dX7_readTitle_38 : decode cX7_readTitle 38 = .ok (.aload_n 0, 1) := by decide +kernel
theorem dX7_readTitle_39 : decode cX7_readTitle 39 = .ok (.iconst 1, 1) := by decide +kernel
theorem dX7_readTitle_40 : decode cX7_readTitle 40 = .ok (.putfield 27, 3) := by decide +kernel
theorem dX7_readTitle_43 : decode cX7_readTitle 43 = .ok (.goto 38, 3) := by decide +kernel
theorem dX7_readTitle_46 : decode cX7_readTitle 46 = .ok (.iload_n 1, 1) := by decide +kernel
theorem dX7_readTitle_47 : decode cX7_readTitle 47 = .ok (.bipush 24, 2) := by decide +kernel
theorem dX7_readTitle_49 : decode cX7_readTitle 49 = .ok (.if_icmp .ne 11, 3) := by decide +kernel
theorem dX7_readTitle_52 : decode cX7_readTitle 52 = .ok (.aload_n 0, 1) := by decide +kernel
theorem dX7_readTitle_53 : decode cX7_readTitle 53 = .ok (.iconst 0, 1) := by decide +kernel
theorem dX7_readTitle_54 : decode cX7_readTitle 54 = .ok (.putfield 27, 3) := by decide +kernel
theorem dX7_readTitle_57 : decode cX7_readTitle 57 = .ok (.goto 24, 3) := by decide +kernel
theorem dX7_readTitle_60 : decode cX7_readTitle 60 = .ok (.iload_n 1, 1) := by decide +kernel
theorem dX7_readTitle_61 : decode cX7_readTitle 61 = .ok (.bipush 32, 2) := by decide +kernel
theorem dX7_readTitle_63 : decode cX7_readTitle 63 = .ok (.if_icmp .lt 18, 3) := by decide +kernel
theorem dX7_readTitle_66 : decode cX7_readTitle 66 = .ok (.iload_n 1, 1) := by decide +kernel
theorem dX7_readTitle_67 : decode cX7_readTitle 67 = .ok (.bipush 127, 2) := by decide +kernel
theorem dX7_readTitle_69 : decode cX7_readTitle 69 = .ok (.if_icmp .ge 12, 3) := by decide +kernel
theorem dX7_readTitle_72 : decode cX7_readTitle 72 = .ok (.aload_n 0, 1) := by decide +kernel
theorem dX7_readTitle_73 : decode cX7_readTitle 73 = .ok (.getfield 20, 3) := by decide +kernel
theorem dX7_readTitle_76 : decode cX7_readTitle 76 = .ok (.iload_n 1, 1) := by decide +kernel
theorem dX7_readTitle_77 : decode cX7_readTitle 77 = .ok (.invokevirtual 76, 3) := by decide +kernel
theorem dX7_readTitle_80 : decode cX7_readTitle 80 = .ok (.pop, 1) := by decide +kernel
theorem dX7_readTitle_81 : decode cX7_readTitle 81 = .ok (.return_, 1) := by decide +kernel
