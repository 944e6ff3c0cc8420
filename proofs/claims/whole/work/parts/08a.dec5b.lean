theorem dX12_meansMore_91 : decode cX12_meansMore 91 = .ok (.iload_n 3, 1) := by decide +kernel
theorem dX12_meansMore_92 : decode cX12_meansMore 92 = .ok (.iload_n 2, 1) := by decide +kernel
theorem dX12_meansMore_93 : decode cX12_meansMore 93 = .ok (.if_icmp .ge 21, 3) := by decide +kernel
theorem dX12_meansMore_96 : decode cX12_meansMore 96 = .ok (.aload_n 0, 1) := by decide +kernel
theorem dX12_meansMore_97 : decode cX12_meansMore 97 = .ok (.aload_n 0, 1) := by decide +kernel
theorem dX12_meansMore_98 : decode cX12_meansMore 98 = .ok (.getfield 116, 3) := by decide +kernel
theorem dX12_meansMore_101 : decode cX12_meansMore 101 = .ok (.aload_n 0, 1) := by decide +kernel
theorem dX12_meansMore_102 : decode cX12_meansMore 102 = .ok (.getfield 30, 3) := by decide +kernel
theorem dX12_meansMore_105 : decode cX12_meansMore 105 = .ok (.invokevirtual 216, 3) := by decide +kernel
theorem dX12_meansMore_108 : decode cX12_meansMore 108 = .ok (.iinc 3 1, 3) := by decide +kernel
theorem dX12_meansMore_111 : decode cX12_meansMore 111 = .ok (.goto (-20), 3) := by decide +kernel
theorem dX12_meansMore_114 : decode cX12_meansMore 114 = .ok (.goto 80, 3) := by decide +kernel
theorem dX12_meansMore_117 : decode cX12_meansMore 117 = .ok (.aload_n 0, 1) := by decide +kernel
theorem dX12_meansMore_118 : decode cX12_meansMore 118 = .ok (.invokevirtual 284, 3) := by decide +kernel
theorem dX12_meansMore_121 : decode cX12_meansMore 121 = .ok (.goto 73, 3) := by decide +kernel
theorem dX12_meansMore_124 : decode cX12_meansMore 124 = .ok (.aload_n 0, 1) := by decide +kernel
theorem dX12_meansMore_125 : decode cX12_meansMore 125 = .ok (.invokevirtual 287, 3) := by decide +kernel
theorem dX12_meansMore_128 : decode cX12_meansMore 128 = .ok (.goto 66, 3) := by decide +kernel
theorem dX12_meansMore_131 : decode cX12_meansMore 131 = .ok (.aload_n 0, 1) := by decide +kernel
theorem dX12_meansMore_132 : decode cX12_meansMore 132 = .ok (.aload_n 0, 1) := by decide +kernel
theorem dX12_meansMore_133 : decode cX12_meansMore 133 = .ok (.getfield 40, 3) := by decide +kernel
theorem dX12_meansMore_136 : decode cX12_meansMore 136 = .ok (.iconst 0, 1) := by decide +kernel
theorem dX12_meansMore_137 : decode cX12_meansMore 137 = .ok (.iaload, 1) := by decide +kernel
theorem dX12_meansMore_138 : decode cX12_meansMore 138 = .ok (.iconst 3, 1) := by decide +kernel
theorem dX12_meansMore_139 : decode cX12_meansMore 139 = .ok (.if_icmp .ne 7, 3) := by decide +kernel
theorem dX12_meansMore_142 : decode cX12_meansMore 142 = .ok (.iconst 0, 1) := by decide +kernel
theorem dX12_meansMore_143 : decode cX12_meansMore 143 = .ok (.goto 32, 3) := by decide +kernel
theorem dX12_meansMore_146 : decode cX12_meansMore 146 = .ok (.aload_n 0, 1) := by decide +kernel
theorem dX12_meansMore_147 : decode cX12_meansMore 147 = .ok (.getfield 40, 3) := by decide +kernel
theorem dX12_meansMore_150 : decode cX12_meansMore 150 = .ok (.iconst 0, 1) := by decide +kernel
theorem dX12_meansMore_151 : decode cX12_meansMore 151 = .ok (.iaload, 1) := by decide +kernel
theorem dX12_meansMore_152 : decode cX12_meansMore 152 = .ok (.ifCond .ne 19, 3) := by decide +kernel
theorem dX12_meansMore_155 : decode cX12_meansMore 155 = .ok (.aload_n 0, 1) := by decide +kernel
theorem dX12_meansMore_156 : decode cX12_meansMore 156 = .ok (.getfield 146, 3) := by decide +kernel
theorem dX12_meansMore_159 : decode cX12_meansMore 159 = .ok (.iconst 1, 1) := by decide +kernel
theorem dX12_meansMore_160 : decode cX12_meansMore 160 = .ok (.aload_n 0, 1) := by decide +kernel
theorem dX12_meansMore_161 : decode cX12_meansMore 161 = .ok (.getfield 123, 3) := by decide +kernel
theorem dX12_meansMore_164 : decode cX12_meansMore 164 = .ok (.ishl, 1) := by decide +kernel
theorem dX12_meansMore_165 : decode cX12_meansMore 165 = .ok (.iconst (-1), 1) := by decide +kernel
theorem dX12_meansMore_166 : decode cX12_meansMore 166 = .ok (.ixor, 1) := by decide +kernel
theorem dX12_meansMore_167 : decode cX12_meansMore 167 = .ok (.iand, 1) := by decide +kernel
theorem dX12_meansMore_168 : decode cX12_meansMore 168 = .ok (.goto 7, 3) := by decide +kernel
theorem dX12_meansMore_171 : decode cX12_meansMore 171 = .ok (.aload_n 0, 1) := by decide +kernel
theorem dX12_meansMore_172 : decode cX12_meansMore 172 = .ok (.getfield 146, 3) := by decide +kernel
theorem dX12_meansMore_175 : decode cX12_meansMore 175 = .ok (.putfield 146, 3) := by decide +kernel
theorem dX12_meansMore_178 : decode cX12_meansMore 178 = .ok (.goto 16, 3) := by decide +kernel
theorem dX12_meansMore_181 : decode cX12_meansMore 181 = .ok (.aload_n 0, 1) := by decide +kernel
theorem dX12_meansMore_182 : decode cX12_meansMore 182 = .ok (.invokevirtual 290, 3) := by decide +kernel
theorem dX12_meansMore_185 : decode cX12_meansMore 185 = .ok (.goto 9, 3) := by decide +kernel
theorem dX12_meansMore_188 : decode cX12_meansMore 188 = .ok (.aload_n 0, 1) := by decide +kernel
theorem dX12_meansMore_189 : decode cX12_meansMore 189 = .ok (.iload_n 1, 1) := by decide +kernel
theorem dX12_meansMore_190 : decode cX12_meansMore 190 = .ok (.iconst 0, 1) := by decide +kernel
theorem dX12_meansMore_191 : decode cX12_meansMore 191 = .ok (.invokevirtual 222, 3) := by decide +kernel
theorem dX12_meansMore_194 : decode cX12_meansMore 194 = .ok (.return_, 1) := by decide +kernel
theorem dX12_puts_0 : decode cX12_puts 0 = .ok (.aload_n 0, 1) := by decide +kernel
theorem dX12_puts_1 : decode cX12_puts 1 = .ok (.getfield 293, 3) := by decide +kernel
theorem dX12_puts_4 : decode cX12_puts 4 = .ok (.ifCond .ne 11, 3) := by decide +kernel
theorem dX12_puts_7 : decode cX12_puts 7 = .ok (.aload_n 0, 1) := by decide +kernel
theorem dX12_puts_8 : decode cX12_puts 8 = .ok (.iload_n 1, 1) := by decide +kernel
theorem dX12_puts_9 : decode cX12_puts 9 = .ok (.invokevirtual 296, 3) := by decide +kernel
theorem dX12_puts_12 : decode cX12_puts 12 = .ok (.goto 32, 3) := by decide +kernel
theorem dX12_puts_15 : decode cX12_puts 15 = .ok (.aload_n 0, 1) := by decide +kernel
theorem dX12_puts_16 : decode cX12_puts 16 = .ok (.getfield 299, 3) := by decide +kernel
theorem dX12_puts_19 : decode cX12_puts 19 = .ok (.bipush 100, 2) := by decide +kernel
theorem dX12_puts_21 : decode cX12_puts 21 = .ok (.if_icmp .ge 23, 3) := by decide +kernel
theorem dX12_puts_24 : decode cX12_puts 24 = .ok (.aload_n 0, 1) := by decide +kernel
theorem dX12_puts_25 : decode cX12_puts 25 = .ok (.getfield 52, 3) := by decide +kernel
theorem dX12_puts_28 : decode cX12_puts 28 = .ok (.aload_n 0, 1) := by decide +kernel
theorem dX12_puts_29 : decode cX12_puts 29 = .ok (.getfield 299, 3) := by decide +kernel
theorem dX12_puts_32 : decode cX12_puts 32 = .ok (.iload_n 1, 1) := by decide +kernel
theorem dX12_puts_33 : decode cX12_puts 33 = .ok (.iastore, 1) := by decide +kernel
theorem dX12_puts_34 : decode cX12_puts 34 = .ok (.aload_n 0, 1) := by decide +kernel
theorem dX12_puts_35 : decode cX12_puts 35 = .ok (.dup, 1) := by decide +kernel
theorem dX12_puts_36 : decode cX12_puts 36 = .ok (.getfield 299, 3) := by decide +kernel
theorem dX12_puts_39 : decode cX12_puts 39 = .ok (.iconst 1, 1) := by decide +kernel
theorem dX12_puts_40 : decode cX12_puts 40 = .ok (.iadd, 1) := by decide +kernel
theorem dX12_puts_41 : decode cX12_puts 41 = .ok (.putfield 299, 3) := by decide +kernel
theorem dX12_puts_44 : decode cX12_puts 44 = .ok (.return_, 1) := by decide +kernel
theorem dX12_write_0 : decode cX12_write 0 = .ok (.aload_n 0, 1) := by decide +kernel
theorem dX12_write_1 : decode cX12_write 1 = .ok (.iload_n 1, 1) := by decide +kernel
theorem dX12_write_2 : decode cX12_write 2 = .ok (.iconst 0, 1) := by decide +kernel
theorem dX12_write_3 : decode cX12_write 3 = .ok (.bipush 127, 2) := by decide +kernel
theorem dX12_write_5 : decode cX12_write 5 = .ok (.invokestatic 83, 3) := by decide +kernel
theorem dX12_write_8 : decode cX12_write 8 = .ok (.ifCond .ne 7, 3) := by decide +kernel
theorem dX12_write_11 : decode cX12_write 11 = .ok (.iconst 1, 1) := by decide +kernel
theorem dX12_write_12 : decode cX12_write 12 = .ok (.goto 24, 3) := by decide +kernel
theorem dX12_write_15 : decode cX12_write 15 = .ok (.aload_n 0, 1) := by decide +kernel
theorem dX12_write_16 : decode cX12_write 16 = .ok (.getfield 293, 3) := by decide +kernel
theorem dX12_write_19 : decode cX12_write 19 = .ok (.ifCond .eq 16, 3) := by decide +kernel
theorem dX12_write_22 : decode cX12_write 22 = .ok (.aload_n 0, 1) := by decide +kernel
theorem dX12_write_23 : decode cX12_write 23 = .ok (.getfield 299, 3) := by decide +kernel
theorem dX12_write_26 : decode cX12_write 26 = .ok (.bipush 100, 2) := by decide +kernel
theorem dX12_write_28 : decode cX12_write 28 = .ok (.if_icmp .ne 7, 3) := by decide +kernel
theorem dX12_write_31 : decode cX12_write 31 = .ok (.iconst 2, 1) := by decide +kernel
theorem dX12_write_32 : decode cX12_write 32 = .ok (.goto 4, 3) := by decide +kernel
theorem dX12_write_35 : decode cX12_write 35 = .ok (.iconst 0, 1) := by decide +kernel
theorem dX12_write_36 : decode cX12_write 36 = .ok (.putfield 80, 3) := by decide +kernel
theorem dX12_write_39 : decode cX12_write 39 = .ok (.aload_n 0, 1) := by decide +kernel
theorem dX12_write_40 : decode cX12_write 40 = .ok (.getfield 80, 3) := by decide +kernel
theorem dX12_write_43 : decode cX12_write 43 = .ok (.ifCond .le 5, 3) := by decide +kernel
theorem dX12_write_46 : decode cX12_write 46 = .ok (.iconst 0, 1) := by decide +kernel
theorem dX12_write_47 : decode cX12_write 47 = .ok (.ireturn, 1) := by decide +kernel
theorem dX12_write_48 : decode cX12_write 48 = .ok (.aload_n 0, 1) := by decide +kernel
theorem dX12_write_49 : decode cX12_write 49 = .ok (.iload_n 1, 1) := by decide +kernel
theorem dX12_write_50 : decode cX12_write 50 = .ok (.invokevirtual 302, 3) := by decide +kernel
theorem dX12_write_53 : decode cX12_write 53 = .ok (.aload_n 0, 1) := by decide +kernel
theorem dX12_write_54 : decode cX12_write 54 = .ok (.getfield 299, 3) := by decide +kernel
theorem dX12_write_57 : decode cX12_write 57 = .ok (.ireturn, 1) := by decide +kernel
theorem dX12_digits_0 : decode cX12_digits 0 = .ok (.iload_n 0, 1) := by decide +kernel
theorem dX12_digits_1 : decode cX12_digits 1 = .ok (.bipush 99, 2) := by decide +kernel
theorem dX12_digits_3 : decode cX12_digits 3 = .ok (.if_icmp .le 7, 3) := by decide +kernel
theorem dX12_digits_6 : decode cX12_digits 6 = .ok (.iconst 3, 1) := by decide +kernel
theorem dX12_digits_7 : decode cX12_digits 7 = .ok (.goto 14, 3) := by decide +kernel
theorem dX12_digits_10 : decode cX12_digits 10 = .ok (.iload_n 0, 1) := by decide +kernel
theorem dX12_digits_11 : decode cX12_digits 11 = .ok (.bipush 9, 2) := by decide +kernel
theorem dX12_digits_13 : decode cX12_digits 13 = .ok (.if_icmp .le 7, 3) := by decide +kernel
theorem dX12_digits_16 : decode cX12_digits 16 = .ok (.iconst 2, 1) := by decide +kernel
theorem dX12_digits_17 : decode cX12_digits 17 = .ok (.goto 4, 3) := by decide +kernel
theorem dX12_digits_20 : decode cX12_digits 20 = .ok (.iconst 1, 1) := by decide +kernel
theorem dX12_digits_21 : decode cX12_digits 21 = .ok (.ireturn, 1) := by decide +kernel
theorem dX12_putsNumber_0 : decode cX12_putsNumber 0 = .ok (.iload_n 1, 1) := by decide +kernel
theorem dX12_putsNumber_1 : decode cX12_putsNumber 1 = .ok (.bipush 99, 2) := by decide +kernel
theorem dX12_putsNumber_3 : decode cX12_putsNumber 3 = .ok (.if_icmp .le 14, 3) := by decide +kernel
theorem dX12_putsNumber_6 : decode cX12_putsNumber 6 = .ok (.aload_n 0, 1) := by decide +kernel
theorem dX12_putsNumber_7 : decode cX12_putsNumber 7 = .ok (.bipush 48, 2) := by decide +kernel
theorem dX12_putsNumber_9 : decode cX12_putsNumber 9 = .ok (.iload_n 1, 1) := by decide +kernel
theorem dX12_putsNumber_10 : decode cX12_putsNumber 10 = .ok (.bipush 100, 2) := by decide +kernel
theorem dX12_putsNumber_12 : decode cX12_putsNumber 12 = .ok (.idiv, 1) := by decide +kernel
theorem dX12_putsNumber_13 : decode cX12_putsNumber 13 = .ok (.iadd, 1) := by decide +kernel
theorem dX12_putsNumber_14 : decode cX12_putsNumber 14 = .ok (.invokevirtual 302, 3) := by decide +kernel
theorem dX12_putsNumber_17 : decode cX12_putsNumber 17 = .ok (.iload_n 1, 1) := by decide +kernel
theorem dX12_putsNumber_18 : decode cX12_putsNumber 18 = .ok (.bipush 9, 2) := by decide +kernel
theorem dX12_putsNumber_20 : decode cX12_putsNumber 20 = .ok (.if_icmp .le 17, 3) := by decide +kernel
theorem dX12_putsNumber_23 : decode cX12_putsNumber 23 = .ok (.aload_n 0, 1) := by decide +kernel
theorem dX12_putsNumber_24 : decode cX12_putsNumber 24 = .ok (.bipush 48, 2) := by decide +kernel
theorem dX12_putsNumber_26 : decode cX12_putsNumber 26 = .ok (.iload_n 1, 1) := by decide +kernel
theorem dX12_putsNumber_27 : decode cX12_putsNumber 27 = .ok (.bipush 10, 2) := by decide +kernel
theorem dX12_putsNumber_29 : decode cX12_putsNumber 29 = .ok (.idiv, 1) := by decide +kernel
theorem dX12_putsNumber_30 : decode cX12_putsNumber 30 = .ok (.bipush 10, 2) := by decide +kernel
theorem dX12_putsNumber_32 : decode cX12_putsNumber 32 = .ok (.irem, 1) := by decide +kernel
theorem dX12_putsNumber_33 : decode cX12_putsNumber 33 = .ok (.iadd, 1) := by decide +kernel
theorem dX12_putsNumber_34 : decode cX12_putsNumber 34 = .ok (.invokevirtual 302, 3) := by decide +kernel
theorem dX12_putsNumber_37 : decode cX12_putsNumber 37 = .ok (.aload_n 0, 1) := by decide +kernel
theorem dX12_putsNumber_38 : decode cX12_putsNumber 38 = .ok (.bipush 48, 2) := by decide +kernel
theorem dX12_putsNumber_40 : decode cX12_putsNumber 40 = .ok (.iload_n 1, 1) := by decide +kernel
theorem dX12_putsNumber_41 : decode cX12_putsNumber 41 = .ok (.bipush 10, 2) := by decide +kernel
theorem dX12_putsNumber_43 : decode cX12_putsNumber 43 = .ok (.irem, 1) := by decide +kernel
theorem dX12_putsNumber_44 : decode cX12_putsNumber 44 = .ok (.iadd, 1) := by decide +kernel
theorem dX12_putsNumber_45 : decode cX12_putsNumber 45 = .ok (.invokevirtual 302, 3) := by decide +kernel
theorem dX12_putsNumber_48 : decode cX12_putsNumber 48 = .ok (.return_, 1) := by decide +kernel
theorem dX12_code_0 : decode cX12_code 0 = .ok (.iconst 3, 1) := by decide +kernel
theorem dX12_code_1 : decode cX12_code 1 = .ok (.iload_n 1, 1) := by decide +kernel
theorem dX12_code_2 : decode cX12_code 2 = .ok (.ifCond .eq 7, 3) := by decide +kernel
theorem dX12_code_5 : decode cX12_code 5 = .ok (.iconst 1, 1) := by decide +kernel
theorem dX12_code_6 : decode cX12_code 6 = .ok (.goto 4, 3) := by decide +kernel
theorem dX12_code_9 : decode cX12_code 9 = .ok (.iconst 0, 1) := by decide +kernel
theorem dX12_code_10 : decode cX12_code 10 = .ok (.iadd, 1) := by decide +kernel
theorem dX12_code_11 : decode cX12_code 11 = .ok (.iload_n 2, 1) := by decide +kernel
theorem dX12_code_12 : decode cX12_code 12 = .ok (.invokestatic 305, 3) := by decide +kernel
theorem dX12_code_15 : decode cX12_code 15 = .ok (.iadd, 1) := by decide +kernel
theorem dX12_code_16 : decode cX12_code 16 = .ok (.iload_n 3, 1) := by decide +kernel
theorem dX12_code_17 : decode cX12_code 17 = .ok (.ifCond .ne 7, 3) := by decide +kernel
theorem dX12_code_20 : decode cX12_code 20 = .ok (.iconst 0, 1) := by decide +kernel
theorem dX12_code_21 : decode cX12_code 21 = .ok (.goto 9, 3) := by decide +kernel
theorem dX12_code_24 : decode cX12_code 24 = .ok (.iconst 1, 1) := by decide +kernel
theorem dX12_code_25 : decode cX12_code 25 = .ok (.iload_n 3, 1) := by decide +kernel
theorem dX12_code_26 : decode cX12_code 26 = .ok (.invokestatic 305, 3) := by decide +kernel
theorem dX12_code_29 : decode cX12_code 29 = .ok (.iadd, 1) := by decide +kernel
theorem dX12_code_30 : decode cX12_code 30 = .ok (.iadd, 1) := by decide +kernel
theorem dX12_code_31 : decode cX12_code 31 = .ok (.istore 5, 2) := by decide +kernel
theorem dX12_code_33 : decode cX12_code 33 = .ok (.aload_n 0, 1) := by decide +kernel
theorem dX12_code_34 : decode cX12_code 34 = .ok (.iload_n 2, 1) := by decide +kernel
theorem dX12_code_35 : decode cX12_code 35 = .ok (.iconst 0, 1) := by decide +kernel
theorem dX12_code_36 : decode cX12_code 36 = .ok (.sipush 999, 3) := by decide +kernel
theorem dX12_code_39 : decode cX12_code 39 = .ok (.invokestatic 83, 3) := by decide +kernel
theorem dX12_code_42 : decode cX12_code 42 = .ok (.ifCond .eq 26, 3) := by decide +kernel
theorem dX12_code_45 : decode cX12_code 45 = .ok (.iload_n 3, 1) := by decide +kernel
theorem dX12_code_46 : decode cX12_code 46 = .ok (.iconst 0, 1) := by decide +kernel
theorem dX12_code_47 : decode cX12_code 47 = .ok (.sipush 999, 3) := by decide +kernel
theorem dX12_code_50 : decode cX12_code 50 = .ok (.invokestatic 83, 3) := by decide +kernel
theorem dX12_code_53 : decode cX12_code 53 = .ok (.ifCond .eq 15, 3) := by decide +kernel
theorem dX12_code_56 : decode cX12_code 56 = .ok (.iload 4, 2) := by decide +kernel
theorem dX12_code_58 : decode cX12_code 58 = .ok (.bipush 64, 2) := by decide +kernel
theorem dX12_code_60 : decode cX12_code 60 = .ok (.bipush 126, 2) := by decide +kernel
theorem dX12_code_62 : decode cX12_code 62 = .ok (.invokestatic 83, 3) := by decide +kernel
theorem dX12_code_65 : decode cX12_code 65 = .ok (.ifCond .ne 7, 3) := by decide +kernel
theorem dX12_code_68 : decode cX12_code 68 = .ok (.iconst 1, 1) := by decide +kernel
theorem dX12_code_69 : decode cX12_code 69 = .ok (.goto 27, 3) := by decide +kernel
theorem dX12_code_72 : decode cX12_code 72 = .ok (.aload_n 0, 1) := by decide +kernel
theorem dX12_code_73 : decode cX12_code 73 = .ok (.getfield 293, 3) := by decide +kernel
theorem dX12_code_76 : decode cX12_code 76 = .ok (.ifCond .eq 19, 3) := by decide +kernel
theorem dX12_code_79 : decode cX12_code 79 = .ok (.aload_n 0, 1) := by decide +kernel
theorem dX12_code_80 : decode cX12_code 80 = .ok (.getfield 299, 3) := by decide +kernel
theorem dX12_code_83 : decode cX12_code 83 = .ok (.iload 5, 2) := by decide +kernel
theorem dX12_code_85 : decode cX12_code 85 = .ok (.iadd, 1) := by decide +kernel
theorem dX12_code_86 : decode cX12_code 86 = .ok (.bipush 100, 2) := by decide +kernel
theorem dX12_code_88 : decode cX12_code 88 = .ok (.if_icmp .le 7, 3) := by decide +kernel
theorem dX12_code_91 : decode cX12_code 91 = .ok (.iconst 2, 1) := by decide +kernel
theorem dX12_code_92 : decode cX12_code 92 = .ok (.goto 4, 3) := by decide +kernel
theorem dX12_code_95 : decode cX12_code 95 = .ok (.iconst 0, 1) := by decide +kernel
theorem dX12_code_96 : decode cX12_code 96 = .ok (.putfield 80, 3) := by decide +kernel
theorem dX12_code_99 : decode cX12_code 99 = .ok (.aload_n 0, 1) := by decide +kernel
theorem dX12_code_100 : decode cX12_code 100 = .ok (.getfield 80, 3) := by decide +kernel
theorem dX12_code_103 : decode cX12_code 103 = .ok (.ifCond .le 5, 3) := by decide +kernel
theorem dX12_code_106 : decode cX12_code 106 = .ok (.iconst 0, 1) := by decide +kernel
theorem dX12_code_107 : decode cX12_code 107 = .ok (.ireturn, 1) := by decide +kernel
theorem dX12_code_108 : decode cX12_code 108 = .ok (.aload_n 0, 1) := by decide +kernel
theorem dX12_code_109 : decode cX12_code 109 = .ok (.bipush 27, 2) := by decide +kernel
theorem dX12_code_111 : decode cX12_code 111 = .ok (.invokevirtual 302, 3) := by decide +kernel
theorem dX12_code_114 : decode cX12_code 114 = .ok (.aload_n 0, 1) := by decide +kernel
theorem dX12_code_115 : decode cX12_code 115 = .ok (.bipush 91, 2) := by decide +kernel
theorem dX12_code_117 : decode cX12_code 117 = .ok (.invokevirtual 302, 3) := by decide +kernel
theorem dX12_code_120 : decode cX12_code 120 = .ok (.iload_n 1, 1) := by decide +kernel
theorem dX12_code_121 : decode cX12_code 121 = .ok (.ifCond .eq 9, 3) := by decide +kernel
theorem dX12_code_124 : decode cX12_code 124 = .ok (.aload_n 0, 1) := by decide +kernel
theorem dX12_code_125 : decode cX12_code 125 = .ok (.bipush 63, 2) := by decide +kernel
theorem dX12_code_127 : decode cX12_code 127 = .ok (.invokevirtual 302, 3) := by decide +kernel
theorem dX12_code_130 : decode cX12_code 130 = .ok (.aload_n 0, 1) := by decide +kernel
theorem dX12_code_131 : decode cX12_code 131 = .ok (.iload_n 2, 1) := by decide +kernel
theorem dX12_code_132 : decode cX12_code 132 = .ok (.invokevirtual 309, 3) := by decide +kernel
theorem dX12_code_135 : decode cX12_code 135 = .ok (.iload_n 3, 1) := by decide +kernel
theorem dX12_code_136 : decode cX12_code 136 = .ok (.ifCond .eq 14, 3) := by decide +kernel
theorem dX12_code_139 : decode cX12_code 139 = .ok (.aload_n 0, 1) := by decide +kernel
theorem dX12_code_140 : decode cX12_code 140 = .ok (.bipush 59, 2) := by decide +kernel
theorem dX12_code_142 : decode cX12_code 142 = .ok (.invokevirtual 302, 3) := by decide +kernel
theorem dX12_code_145 : decode cX12_code 145 = .ok (.aload_n 0, 1) := by decide +kernel
theorem dX12_code_146 : decode cX12_code 146 = .ok (.iload_n 3, 1) := by decide +kernel
theorem dX12_code_147 : decode cX12_code 147 = .ok (.invokevirtual 309, 3) := by decide +kernel
theorem dX12_code_150 : decode cX12_code 150 = .ok (.aload_n 0, 1) := by decide +kernel
theorem dX12_code_151 : decode cX12_code 151 = .ok (.iload 4, 2) := by decide +kernel
theorem dX12_code_153 : decode cX12_code 153 = .ok (.invokevirtual 302, 3) := by decide +kernel
theorem dX12_code_156 : decode cX12_code 156 = .ok (.aload_n 0, 1) := by decide +kernel
theorem dX12_code_157 : decode cX12_code 157 = .ok (.getfield 299, 3) := by decide +kernel
theorem dX12_code_160 : decode cX12_code 160 = .ok (.ireturn, 1) := by decide +kernel
theorem dX12_echo_0 : decode cX12_echo 0 = .ok (.aload_n 0, 1) := by decide +kernel
theorem dX12_echo_1 : decode cX12_echo 1 = .ok (.getfield 49, 3) := by decide +kernel
theorem dX12_echo_4 : decode cX12_echo 4 = .ok (.ifCond .eq 8, 3) := by decide +kernel
theorem dX12_echo_7 : decode cX12_echo 7 = .ok (.aload_n 0, 1) := by decide +kernel
theorem dX12_echo_8 : decode cX12_echo 8 = .ok (.iload_n 1, 1) := by decide +kernel
theorem dX12_echo_9 : decode cX12_echo 9 = .ok (.invokevirtual 302, 3) := by decide +kernel
theorem dX12_echo_12 : decode cX12_echo 12 = .ok (.return_, 1) := by decide +kernel
theorem dX12_takesLast_0 : decode cX12_takesLast 0 = .ok (.aload_n 0, 1) := by decide +kernel
theorem dX12_takesLast_1 : decode cX12_takesLast 1 = .ok (.dup, 1) := by decide +kernel
theorem dX12_takesLast_2 : decode cX12_takesLast 2 = .ok (.getfield 312, 3) := by decide +kernel
theorem dX12_takesLast_5 : decode cX12_takesLast 5 = .ok (.iconst 1, 1) := by decide +kernel
theorem dX12_takesLast_6 : decode cX12_takesLast 6 = .ok (.isub, 1) := by decide +kernel
theorem dX12_takesLast_7 : decode cX12_takesLast 7 = .ok (.putfield 312, 3) := by decide +kernel
theorem dX12_takesLast_10 : decode cX12_takesLast 10 = .ok (.iconst 0, 1) := by decide +kernel
theorem dX12_takesLast_11 : decode cX12_takesLast 11 = .ok (.istore_n 1, 1) := by decide +kernel
theorem dX12_takesLast_12 : decode cX12_takesLast 12 = .ok (.iload_n 1, 1) := by decide +kernel
theorem dX12_takesLast_13 : decode cX12_takesLast 13 = .ok (.aload_n 0, 1) := by decide +kernel
theorem dX12_takesLast_14 : decode cX12_takesLast 14 = .ok (.getfield 55, 3) := by decide +kernel
theorem dX12_takesLast_17 : decode cX12_takesLast 17 = .ok (.aload_n 0, 1) := by decide +kernel
theorem dX12_takesLast_18 : decode cX12_takesLast 18 = .ok (.getfield 312, 3) := by decide +kernel
theorem dX12_takesLast_21 : decode cX12_takesLast 21 = .ok (.iaload, 1) := by decide +kernel
theorem dX12_takesLast_22 : decode cX12_takesLast 22 = .ok (.bipush 32, 2) := by decide +kernel
theorem dX12_takesLast_24 : decode cX12_takesLast 24 = .ok (.if_icmp .ge 7, 3) := by decide +kernel
theorem dX12_takesLast_27 : decode cX12_takesLast 27 = .ok (.iconst 2, 1) := by decide +kernel
theorem dX12_takesLast_28 : decode cX12_takesLast 28 = .ok (.goto 4, 3) := by decide +kernel
theorem dX12_takesLast_31 : decode cX12_takesLast 31 = .ok (.iconst 1, 1) := by decide +kernel
theorem dX12_takesLast_32 : decode cX12_takesLast 32 = .ok (.if_icmp .ge 27, 3) := by decide +kernel
theorem dX12_takesLast_35 : decode cX12_takesLast 35 = .ok (.aload_n 0, 1) := by decide +kernel
theorem dX12_takesLast_36 : decode cX12_takesLast 36 = .ok (.bipush 8, 2) := by decide +kernel
theorem dX12_takesLast_38 : decode cX12_takesLast 38 = .ok (.invokevirtual 315, 3) := by decide +kernel
theorem dX12_takesLast_41 : decode cX12_takesLast 41 = .ok (.aload_n 0, 1) := by decide +kernel
theorem dX12_takesLast_42 : decode cX12_takesLast 42 = .ok (.bipush 32, 2) := by decide +kernel
theorem dX12_takesLast_44 : decode cX12_takesLast 44 = .ok (.invokevirtual 315, 3) := by decide +kernel
theorem dX12_takesLast_47 : decode cX12_takesLast 47 = .ok (.aload_n 0, 1) := by decide +kernel
theorem dX12_takesLast_48 : decode cX12_takesLast 48 = .ok (.bipush 8, 2) := by decide +kernel
theorem dX12_takesLast_50 : decode cX12_takesLast 50 = .ok (.invokevirtual 315, 3) := by decide +kernel
theorem dX12_takesLast_53 : decode cX12_takesLast 53 = .ok (.iinc 1 1, 3) := by decide +kernel
theorem dX12_takesLast_56 : decode cX12_takesLast 56 = .ok (.goto (-44), 3) := by decide +kernel
theorem dX12_takesLast_59 : decode cX12_takesLast 59 = .ok (.return_, 1) := by decide +kernel
theorem dX12_givesLine_0 : decode cX12_givesLine 0 = .ok (.iconst 0, 1) := by decide +kernel
theorem dX12_givesLine_1 : decode cX12_givesLine 1 = .ok (.istore_n 1, 1) := by decide +kernel
theorem dX12_givesLine_2 : decode cX12_givesLine 2 = .ok (.iload_n 1, 1) := by decide +kernel
theorem dX12_givesLine_3 : decode cX12_givesLine 3 = .ok (.aload_n 0, 1) := by decide +kernel
theorem dX12_givesLine_4 : decode cX12_givesLine 4 = .ok (.getfield 312, 3) := by decide +kernel
theorem dX12_givesLine_7 : decode cX12_givesLine 7 = .ok (.if_icmp .ge 19, 3) := by decide +kernel
theorem dX12_givesLine_10 : decode cX12_givesLine 10 = .ok (.aload_n 0, 1) := by decide +kernel
theorem dX12_givesLine_11 : decode cX12_givesLine 11 = .ok (.aload_n 0, 1) := by decide +kernel
theorem dX12_givesLine_12 : decode cX12_givesLine 12 = .ok (.getfield 55, 3) := by decide +kernel
theorem dX12_givesLine_15 : decode cX12_givesLine 15 = .ok (.iload_n 1, 1) := by decide +kernel
theorem dX12_givesLine_16 : decode cX12_givesLine 16 = .ok (.iaload, 1) := by decide +kernel
theorem dX12_givesLine_17 : decode cX12_givesLine 17 = .ok (.invokevirtual 265, 3) := by decide +kernel
theorem dX12_givesLine_20 : decode cX12_givesLine 20 = .ok (.iinc 1 1, 3) := by decide +kernel
theorem dX12_givesLine_23 : decode cX12_givesLine 23 = .ok (.goto (-21), 3) := by decide +kernel
theorem dX12_givesLine_26 : decode cX12_givesLine 26 = .ok (.aload_n 0, 1) := by decide +kernel
theorem dX12_givesLine_27 : decode cX12_givesLine 27 = .ok (.iconst 0, 1) := by decide +kernel
theorem dX12_givesLine_28 : decode cX12_givesLine 28 = .ok (.putfield 312, 3) := by decide +kernel
theorem dX12_givesLine_31 : decode cX12_givesLine 31 = .ok (.return_, 1) := by decide +kernel
theorem dX12_starts_0 : decode cX12_starts 0 = .ok (.aload_n 0, 1) := by decide +kernel
theorem dX12_starts_1 : decode cX12_starts 1 = .ok (.iconst 0, 1) := by decide +kernel
theorem dX12_starts_2 : decode cX12_starts 2 = .ok (.putfield 293, 3) := by decide +kernel
theorem dX12_starts_5 : decode cX12_starts 5 = .ok (.aload_n 0, 1) := by decide +kernel
theorem dX12_starts_6 : decode cX12_starts 6 = .ok (.getfield 299, 3) := by decide +kernel
theorem dX12_starts_9 : decode cX12_starts 9 = .ok (.istore_n 1, 1) := by decide +kernel
theorem dX12_starts_10 : decode cX12_starts 10 = .ok (.aload_n 0, 1) := by decide +kernel
theorem dX12_starts_11 : decode cX12_starts 11 = .ok (.iconst 0, 1) := by decide +kernel
theorem dX12_starts_12 : decode cX12_starts 12 = .ok (.putfield 299, 3) := by decide +kernel
theorem dX12_starts_15 : decode cX12_starts 15 = .ok (.iconst 0, 1) := by decide +kernel
theorem dX12_starts_16 : decode cX12_starts 16 = .ok (.istore_n 2, 1) := by decide +kernel
theorem dX12_starts_17 : decode cX12_starts 17 = .ok (.iload_n 2, 1) := by decide +kernel
theorem dX12_starts_18 : decode cX12_starts 18 = .ok (.iload_n 1, 1) := by decide +kernel
theorem dX12_starts_19 : decode cX12_starts 19 = .ok (.if_icmp .ge 19, 3) := by decide +kernel
theorem dX12_starts_22 : decode cX12_starts 22 = .ok (.aload_n 0, 1) := by decide +kernel
theorem dX12_starts_23 : decode cX12_starts 23 = .ok (.aload_n 0, 1) := by decide +kernel
theorem dX12_starts_24 : decode cX12_starts 24 = .ok (.getfield 52, 3) := by decide +kernel
theorem dX12_starts_27 : decode cX12_starts 27 = .ok (.iload_n 2, 1) := by decide +kernel
theorem dX12_starts_28 : decode cX12_starts 28 = .ok (.iaload, 1) := by decide +kernel
theorem dX12_starts_29 : decode cX12_starts 29 = .ok (.invokevirtual 296, 3) := by decide +kernel
theorem dX12_starts_32 : decode cX12_starts 32 = .ok (.iinc 2 1, 3) := by decide +kernel
theorem dX12_starts_35 : decode cX12_starts 35 = .ok (.goto (-18), 3) := by decide +kernel
theorem dX12_starts_38 : decode cX12_starts 38 = .ok (.return_, 1) := by decide +kernel
theorem dX12_edits_0 : decode cX12_edits 0 = .ok (.iload_n 1, 1) := by decide +kernel
theorem dX12_edits_1 : decode cX12_edits 1 = .ok (.lookupswitch 257 #[(3, 224), (4, 196), (10, 171), (13, 171), (17, 250), (19, 242), (21, 157), (23, 97), (127, 83)], 83) := by decide +kernel
theorem dX12_edits_84 : decode cX12_edits 84 = .ok (.aload_n 0, 1) := by decide +kernel
theorem dX12_edits_85 : decode cX12_edits 85 = .ok (.getfield 312, 3) := by decide +kernel
theorem dX12_edits_88 : decode cX12_edits 88 = .ok (.ifCond .le 175, 3) := by decide +kernel
theorem dX12_edits_91 : decode cX12_edits 91 = .ok (.aload_n 0, 1) := by decide +kernel
theorem dX12_edits_92 : decode cX12_edits 92 = .ok (.invokevirtual 318, 3) := by decide +kernel
theorem dX12_edits_95 : decode cX12_edits 95 = .ok (.goto 168, 3) := by decide +kernel
theorem dX12_edits_98 : decode cX12_edits 98 = .ok (.aload_n 0, 1) := by decide +kernel
theorem dX12_edits_99 : decode cX12_edits 99 = .ok (.getfield 312, 3) := by decide +kernel
theorem dX12_edits_102 : decode cX12_edits 102 = .ok (.ifCond .le 26, 3) := by decide +kernel
theorem dX12_edits_105 : decode cX12_edits 105 = .ok (.aload_n 0, 1) := by decide +kernel
theorem dX12_edits_106 : decode cX12_edits 106 = .ok (.getfield 55, 3) := by decide +kernel
theorem dX12_edits_109 : decode cX12_edits 109 = .ok (.aload_n 0, 1) := by decide +kernel
theorem dX12_edits_110 : decode cX12_edits 110 = .ok (.getfield 312, 3) := by decide +kernel
theorem dX12_edits_113 : decode cX12_edits 113 = .ok (.iconst 1, 1) := by decide +kernel
theorem dX12_edits_114 : decode cX12_edits 114 = .ok (.isub, 1) := by decide +kernel
theorem dX12_edits_115 : decode cX12_edits 115 = .ok (.iaload, 1) := by decide +kernel
theorem dX12_edits_116 : decode cX12_edits 116 = .ok (.bipush 32, 2) := by decide +kernel
theorem dX12_edits_118 : decode cX12_edits 118 = .ok (.if_icmp .ne 10, 3) := by decide +kernel
theorem dX12_edits_121 : decode cX12_edits 121 = .ok (.aload_n 0, 1) := by decide +kernel
theorem dX12_edits_122 : decode cX12_edits 122 = .ok (.invokevirtual 318, 3) := by decide +kernel
theorem dX12_edits_125 : decode cX12_edits 125 = .ok (.goto (-27), 3) := by decide +kernel
theorem dX12_edits_128 : decode cX12_edits 128 = .ok (.aload_n 0, 1) := by decide +kernel
theorem dX12_edits_129 : decode cX12_edits 129 = .ok (.getfield 312, 3) := by decide +kernel
theorem dX12_edits_132 : decode cX12_edits 132 = .ok (.ifCond .le 131, 3) := by decide +kernel
theorem dX12_edits_135 : decode cX12_edits 135 = .ok (.aload_n 0, 1) := by decide +kernel
theorem dX12_edits_136 : decode cX12_edits 136 = .ok (.getfield 55, 3) := by decide +kernel
theorem dX12_edits_139 : decode cX12_edits 139 = .ok (.aload_n 0, 1) := by decide +kernel
theorem dX12_edits_140 : decode cX12_edits 140 = .ok (.getfield 312, 3) := by decide +kernel
theorem dX12_edits_143 : decode cX12_edits 143 = .ok (.iconst 1, 1) := by decide +kernel
theorem dX12_edits_144 : decode cX12_edits 144 = .ok (.isub, 1) := by decide +kernel
theorem dX12_edits_145 : decode cX12_edits 145 = .ok (.iaload, 1) := by decide +kernel
theorem dX12_edits_146 : decode cX12_edits 146 = .ok (.bipush 32, 2) := by decide +kernel
theorem dX12_edits_148 : decode cX12_edits 148 = .ok (.if_icmp .eq 115, 3) := by decide +kernel
theorem dX12_edits_151 : decode cX12_edits 151 = .ok (.aload_n 0, 1) := by decide +kernel
theorem dX12_edits_152 : decode cX12_edits 152 = .ok (.invokevirtual 318, 3) := by decide +kernel
theorem dX12_edits_155 : decode cX12_edits 155 = .ok (.goto (-27), 3) := by decide +kernel
theorem dX12_edits_158 : decode cX12_edits 158 = .ok (.aload_n 0, 1) := by decide +kernel
theorem dX12_edits_159 : decode cX12_edits 159 = .ok (.getfield 312, 3) := by decide +kernel
theorem dX12_edits_162 : decode cX12_edits 162 = .ok (.ifCond .le 101, 3) := by decide +kernel
theorem dX12_edits_165 : decode cX12_edits 165 = .ok (.aload_n 0, 1) := by decide +kernel
theorem dX12_edits_166 : decode cX12_edits 166 = .ok (.invokevirtual 318, 3) := by decide +kernel
theorem dX12_edits_169 : decode cX12_edits 169 = .ok (.goto (-11), 3) := by decide +kernel
theorem dX12_edits_172 : decode cX12_edits 172 = .ok (.aload_n 0, 1) := by decide +kernel
theorem dX12_edits_173 : decode cX12_edits 173 = .ok (.invokevirtual 321, 3) := by decide +kernel
theorem dX12_edits_176 : decode cX12_edits 176 = .ok (.aload_n 0, 1) := by decide +kernel
theorem dX12_edits_177 : decode cX12_edits 177 = .ok (.bipush 10, 2) := by decide +kernel
theorem dX12_edits_179 : decode cX12_edits 179 = .ok (.invokevirtual 265, 3) := by decide +kernel
theorem dX12_edits_182 : decode cX12_edits 182 = .ok (.aload_n 0, 1) := by decide +kernel
theorem dX12_edits_183 : decode cX12_edits 183 = .ok (.bipush 13, 2) := by decide +kernel
theorem dX12_edits_185 : decode cX12_edits 185 = .ok (.invokevirtual 315, 3) := by decide +kernel
theorem dX12_edits_188 : decode cX12_edits 188 = .ok (.aload_n 0, 1) := by decide +kernel
theorem dX12_edits_189 : decode cX12_edits 189 = .ok (.bipush 10, 2) := by decide +kernel
theorem dX12_edits_191 : decode cX12_edits 191 = .ok (.invokevirtual 315, 3) := by decide +kernel
theorem dX12_edits_194 : decode cX12_edits 194 = .ok (.goto 69, 3) := by decide +kernel
theorem dX12_edits_197 : decode cX12_edits 197 = .ok (.aload_n 0, 1) := by decide +kernel
theorem dX12_edits_198 : decode cX12_edits 198 = .ok (.dup, 1) := by decide +kernel
theorem dX12_edits_199 : decode cX12_edits 199 = .ok (.getfield 324, 3) := by decide +kernel
theorem dX12_edits_202 : decode cX12_edits 202 = .ok (.aload_n 0, 1) := by decide +kernel
theorem dX12_edits_203 : decode cX12_edits 203 = .ok (.getfield 312, 3) := by decide +kernel
theorem dX12_edits_206 : decode cX12_edits 206 = .ok (.ifCond .ne 7, 3) := by decide +kernel
theorem dX12_edits_209 : decode cX12_edits 209 = .ok (.iconst 1, 1) := by decide +kernel
theorem dX12_edits_210 : decode cX12_edits 210 = .ok (.goto 4, 3) := by decide +kernel
theorem dX12_edits_213 : decode cX12_edits 213 = .ok (.iconst 0, 1) := by decide +kernel
theorem dX12_edits_214 : decode cX12_edits 214 = .ok (.iadd, 1) := by decide +kernel
theorem dX12_edits_215 : decode cX12_edits 215 = .ok (.putfield 324, 3) := by decide +kernel
theorem dX12_edits_218 : decode cX12_edits 218 = .ok (.aload_n 0, 1) := by decide +kernel
theorem dX12_edits_219 : decode cX12_edits 219 = .ok (.invokevirtual 321, 3) := by decide +kernel
theorem dX12_edits_222 : decode cX12_edits 222 = .ok (.goto 41, 3) := by decide +kernel
theorem dX12_edits_225 : decode cX12_edits 225 = .ok (.aload_n 0, 1) := by decide +kernel
theorem dX12_edits_226 : decode cX12_edits 226 = .ok (.iconst 0, 1) := by decide +kernel
theorem dX12_edits_227 : decode cX12_edits 227 = .ok (.putfield 312, 3) := by decide +kernel
theorem dX12_edits_230 : decode cX12_edits 230 = .ok (.aload_n 0, 1) := by decide +kernel
theorem dX12_edits_231 : decode cX12_edits 231 = .ok (.dup, 1) := by decide +kernel
theorem dX12_edits_232 : decode cX12_edits 232 = .ok (.getfield 327, 3) := by decide +kernel
theorem dX12_edits_235 : decode cX12_edits 235 = .ok (.iconst 1, 1) := by decide +kernel
theorem dX12_edits_236 : decode cX12_edits 236 = .ok (.iadd, 1) := by decide +kernel
theorem dX12_edits_237 : decode cX12_edits 237 = .ok (.putfield 327, 3) := by decide +kernel
theorem dX12_edits_240 : decode cX12_edits 240 = .ok (.goto 23, 3) := by decide +kernel
theorem dX12_edits_243 : decode cX12_edits 243 = .ok (.aload_n 0, 1) := by decide +kernel
theorem dX12_edits_244 : decode cX12_edits 244 = .ok (.iconst 1, 1) := by decide +kernel
theorem dX12_edits_245 : decode cX12_edits 245 = .ok (.putfield 293, 3) := by decide +kernel
theorem dX12_edits_248 : decode cX12_edits 248 = .ok (.goto 15, 3) := by decide +kernel
theorem dX12_edits_251 : decode cX12_edits 251 = .ok (.aload_n 0, 1) := by decide +kernel
theorem dX12_edits_252 : decode cX12_edits 252 = .ok (.invokevirtual 330, 3) := by decide +kernel
theorem dX12_edits_255 : decode cX12_edits 255 = .ok (.goto 8, 3) := by decide +kernel
theorem dX12_edits_258 : decode cX12_edits 258 = .ok (.aload_n 0, 1) := by decide +kernel
theorem dX12_edits_259 : decode cX12_edits 259 = .ok (.iload_n 1, 1) := by decide +kernel
theorem dX12_edits_260 : decode cX12_edits 260 = .ok (.invokevirtual 333, 3) := by decide +kernel
theorem dX12_edits_263 : decode cX12_edits 263 = .ok (.return_, 1) := by decide +kernel
theorem dX12_adds_0 : decode cX12_adds 0 = .ok (.aload_n 0, 1) := by decide +kernel
theorem dX12_adds_1 : decode cX12_adds 1 = .ok (.getfield 312, 3) := by decide +kernel
theorem dX12_adds_4 : decode cX12_adds 4 = .ok (.bipush 30, 2) := by decide +kernel
theorem dX12_adds_6 : decode cX12_adds 6 = .ok (.if_icmp .ne 10, 3) := by decide +kernel
theorem dX12_adds_9 : decode cX12_adds 9 = .ok (.aload_n 0, 1) := by decide +kernel
theorem dX12_adds_10 : decode cX12_adds 10 = .ok (.bipush 7, 2) := by decide +kernel
theorem dX12_adds_12 : decode cX12_adds 12 = .ok (.invokevirtual 315, 3) := by decide +kernel
theorem dX12_adds_15 : decode cX12_adds 15 = .ok (.return_, 1) := by decide +kernel
theorem dX12_adds_16 : decode cX12_adds 16 = .ok (.aload_n 0, 1) := by decide +kernel
theorem dX12_adds_17 : decode cX12_adds 17 = .ok (.getfield 55, 3) := by decide +kernel
theorem dX12_adds_20 : decode cX12_adds 20 = .ok (.aload_n 0, 1) := by decide +kernel
theorem dX12_adds_21 : decode cX12_adds 21 = .ok (.getfield 312, 3) := by decide +kernel
theorem dX12_adds_24 : decode cX12_adds 24 = .ok (.iload_n 1, 1) := by decide +kernel
theorem dX12_adds_25 : decode cX12_adds 25 = .ok (.iastore, 1) := by decide +kernel
theorem dX12_adds_26 : decode cX12_adds 26 = .ok (.aload_n 0, 1) := by decide +kernel
theorem dX12_adds_27 : decode cX12_adds 27 = .ok (.dup, 1) := by decide +kernel
theorem dX12_adds_28 : decode cX12_adds 28 = .ok (.getfield 312, 3) := by decide +kernel
theorem dX12_adds_31 : decode cX12_adds 31 = .ok (.iconst 1, 1) := by decide +kernel
theorem dX12_adds_32 : decode cX12_adds 32 = .ok (.iadd, 1) := by decide +kernel
theorem dX12_adds_33 : decode cX12_adds 33 = .ok (.putfield 312, 3) := by decide +kernel
theorem dX12_adds_36 : decode cX12_adds 36 = .ok (.iload_n 1, 1) := by decide +kernel
theorem dX12_adds_37 : decode cX12_adds 37 = .ok (.bipush 32, 2) := by decide +kernel
theorem dX12_adds_39 : decode cX12_adds 39 = .ok (.if_icmp .ge 9, 3) := by decide +kernel
theorem dX12_adds_42 : decode cX12_adds 42 = .ok (.aload_n 0, 1) := by decide +kernel
theorem dX12_adds_43 : decode cX12_adds 43 = .ok (.bipush 94, 2) := by decide +kernel
theorem dX12_adds_45 : decode cX12_adds 45 = .ok (.invokevirtual 315, 3) := by decide +kernel
theorem dX12_adds_48 : decode cX12_adds 48 = .ok (.aload_n 0, 1) := by decide +kernel
theorem dX12_adds_49 : decode cX12_adds 49 = .ok (.iload_n 1, 1) := by decide +kernel
theorem dX12_adds_50 : decode cX12_adds 50 = .ok (.bipush 32, 2) := by decide +kernel
theorem dX12_adds_52 : decode cX12_adds 52 = .ok (.if_icmp .ge 10, 3) := by decide +kernel
theorem dX12_adds_55 : decode cX12_adds 55 = .ok (.iload_n 1, 1) := by decide +kernel
theorem dX12_adds_56 : decode cX12_adds 56 = .ok (.bipush 64, 2) := by decide +kernel
theorem dX12_adds_58 : decode cX12_adds 58 = .ok (.iadd, 1) := by decide +kernel
theorem dX12_adds_59 : decode cX12_adds 59 = .ok (.goto 4, 3) := by decide +kernel
theorem dX12_adds_62 : decode cX12_adds 62 = .ok (.iload_n 1, 1) := by decide +kernel
theorem dX12_adds_63 : decode cX12_adds 63 = .ok (.invokevirtual 315, 3) := by decide +kernel
theorem dX12_adds_66 : decode cX12_adds 66 = .ok (.return_, 1) := by decide +kernel
theorem dX12_types_0 : decode cX12_types 0 = .ok (.aload_n 0, 1) := by decide +kernel
theorem dX12_types_1 : decode cX12_types 1 = .ok (.dup, 1) := by decide +kernel
theorem dX12_types_2 : decode cX12_types 2 = .ok (.getfield 336, 3) := by decide +kernel
theorem dX12_types_5 : decode cX12_types 5 = .ok (.iconst 1, 1) := by decide +kernel
theorem dX12_types_6 : decode cX12_types 6 = .ok (.iadd, 1) := by decide +kernel
theorem dX12_types_7 : decode cX12_types 7 = .ok (.putfield 336, 3) := by decide +kernel
theorem dX12_types_10 : decode cX12_types 10 = .ok (.aload_n 0, 1) := by decide +kernel
theorem dX12_types_11 : decode cX12_types 11 = .ok (.getfield 339, 3) := by decide +kernel
theorem dX12_types_14 : decode cX12_types 14 = .ok (.ifCond .eq 16, 3) := by decide +kernel
theorem dX12_types_17 : decode cX12_types 17 = .ok (.aload_n 0, 1) := by decide +kernel
theorem dX12_types_18 : decode cX12_types 18 = .ok (.iload_n 1, 1) := by decide +kernel
theorem dX12_types_19 : decode cX12_types 19 = .ok (.invokevirtual 265, 3) := by decide +kernel
theorem dX12_types_22 : decode cX12_types 22 = .ok (.aload_n 0, 1) := by decide +kernel
theorem dX12_types_23 : decode cX12_types 23 = .ok (.iload_n 1, 1) := by decide +kernel
theorem dX12_types_24 : decode cX12_types 24 = .ok (.invokevirtual 315, 3) := by decide +kernel
theorem dX12_types_27 : decode cX12_types 27 = .ok (.goto 8, 3) := by decide +kernel
theorem dX12_types_30 : decode cX12_types 30 = .ok (.aload_n 0, 1) := by decide +kernel
theorem dX12_types_31 : decode cX12_types 31 = .ok (.iload_n 1, 1) := by decide +kernel
theorem dX12_types_32 : decode cX12_types 32 = .ok (.invokevirtual 342, 3) := by decide +kernel
theorem dX12_types_35 : decode cX12_types 35 = .ok (.return_, 1) := by decide +kernel
theorem dX12_type_0 : decode cX12_type 0 = .ok (.aload_n 0, 1) := by decide +kernel
theorem dX12_type_1 : decode cX12_type 1 = .ok (.iload_n 1, 1) := by decide +kernel
theorem dX12_type_2 : decode cX12_type 2 = .ok (.iconst 0, 1) := by decide +kernel
theorem dX12_type_3 : decode cX12_type 3 = .ok (.bipush 127, 2) := by decide +kernel
theorem dX12_type_5 : decode cX12_type 5 = .ok (.invokestatic 83, 3) := by decide +kernel
theorem dX12_type_8 : decode cX12_type 8 = .ok (.ifCond .eq 7, 3) := by decide +kernel
theorem dX12_type_11 : decode cX12_type 11 = .ok (.iconst 0, 1) := by decide +kernel
theorem dX12_type_12 : decode cX12_type 12 = .ok (.goto 4, 3) := by decide +kernel
theorem dX12_type_15 : decode cX12_type 15 = .ok (.iconst 1, 1) := by decide +kernel
theorem dX12_type_16 : decode cX12_type 16 = .ok (.putfield 80, 3) := by decide +kernel
theorem dX12_type_19 : decode cX12_type 19 = .ok (.aload_n 0, 1) := by decide +kernel
theorem dX12_type_20 : decode cX12_type 20 = .ok (.getfield 80, 3) := by decide +kernel
theorem dX12_type_23 : decode cX12_type 23 = .ok (.ifCond .le 5, 3) := by decide +kernel
theorem dX12_type_26 : decode cX12_type 26 = .ok (.iconst 0, 1) := by decide +kernel
theorem dX12_type_27 : decode cX12_type 27 = .ok (.ireturn, 1) := by decide +kernel
theorem dX12_type_28 : decode cX12_type 28 = .ok (.aload_n 0, 1) := by decide +kernel
theorem dX12_type_29 : decode cX12_type 29 = .ok (.iload_n 1, 1) := by decide +kernel
theorem dX12_type_30 : decode cX12_type 30 = .ok (.invokevirtual 345, 3) := by decide +kernel
theorem dX12_type_33 : decode cX12_type 33 = .ok (.aload_n 0, 1) := by decide +kernel
theorem dX12_type_34 : decode cX12_type 34 = .ok (.getfield 339, 3) := by decide +kernel
theorem dX12_type_37 : decode cX12_type 37 = .ok (.ifCond .eq 7, 3) := by decide +kernel
theorem dX12_type_40 : decode cX12_type 40 = .ok (.iconst 0, 1) := by decide +kernel
theorem dX12_type_41 : decode cX12_type 41 = .ok (.goto 7, 3) := by decide +kernel
theorem dX12_type_44 : decode cX12_type 44 = .ok (.aload_n 0, 1) := by decide +kernel
theorem dX12_type_45 : decode cX12_type 45 = .ok (.getfield 312, 3) := by decide +kernel
theorem dX12_type_48 : decode cX12_type 48 = .ok (.ireturn, 1) := by decide +kernel
theorem dX12_letter_0 : decode cX12_letter 0 = .ok (.iload_n 0, 1) := by decide +kernel
theorem dX12_letter_1 : decode cX12_letter 1 = .ok (.iconst 4, 1) := by decide +kernel
theorem dX12_letter_2 : decode cX12_letter 2 = .ok (.if_icmp .ge 10, 3) := by decide +kernel
theorem dX12_letter_5 : decode cX12_letter 5 = .ok (.bipush 65, 2) := by decide +kernel
theorem dX12_letter_7 : decode cX12_letter 7 = .ok (.iload_n 0, 1) := by decide +kernel
theorem dX12_letter_8 : decode cX12_letter 8 = .ok (.iadd, 1) := by decide +kernel
theorem dX12_letter_9 : decode cX12_letter 9 = .ok (.goto 15, 3) := by decide +kernel
theorem dX12_letter_12 : decode cX12_letter 12 = .ok (.iload_n 0, 1) := by decide +kernel
theorem dX12_letter_13 : decode cX12_letter 13 = .ok (.iconst 4, 1) := by decide +kernel
theorem dX12_letter_14 : decode cX12_letter 14 = .ok (.if_icmp .ne 8, 3) := by decide +kernel
theorem dX12_letter_17 : decode cX12_letter 17 = .ok (.bipush 72, 2) := by decide +kernel
theorem dX12_letter_19 : decode cX12_letter 19 = .ok (.goto 5, 3) := by decide +kernel
theorem dX12_letter_22 : decode cX12_letter 22 = .ok (.bipush 70, 2) := by decide +kernel
theorem dX12_letter_24 : decode cX12_letter 24 = .ok (.ireturn, 1) := by decide +kernel
theorem dX12_key_0 : decode cX12_key 0 = .ok (.aload_n 0, 1) := by decide +kernel
theorem dX12_key_1 : decode cX12_key 1 = .ok (.iload_n 1, 1) := by decide +kernel
theorem dX12_key_2 : decode cX12_key 2 = .ok (.iconst 0, 1) := by decide +kernel
theorem dX12_key_3 : decode cX12_key 3 = .ok (.bipush 6, 2) := by decide +kernel
theorem dX12_key_5 : decode cX12_key 5 = .ok (.invokestatic 83, 3) := by decide +kernel
theorem dX12_key_8 : decode cX12_key 8 = .ok (.ifCond .eq 17, 3) := by decide +kernel
theorem dX12_key_11 : decode cX12_key 11 = .ok (.iload_n 2, 1) := by decide +kernel
theorem dX12_key_12 : decode cX12_key 12 = .ok (.iconst 0, 1) := by decide +kernel
theorem dX12_key_13 : decode cX12_key 13 = .ok (.bipush 7, 2) := by decide +kernel
theorem dX12_key_15 : decode cX12_key 15 = .ok (.invokestatic 83, 3) := by decide +kernel
theorem dX12_key_18 : decode cX12_key 18 = .ok (.ifCond .eq 7, 3) := by decide +kernel
theorem dX12_key_21 : decode cX12_key 21 = .ok (.iconst 0, 1) := by decide +kernel
theorem dX12_key_22 : decode cX12_key 22 = .ok (.goto 4, 3) := by decide +kernel
theorem dX12_key_25 : decode cX12_key 25 = .ok (.iconst 1, 1) := by decide +kernel
theorem dX12_key_26 : decode cX12_key 26 = .ok (.putfield 80, 3) := by decide +kernel
theorem dX12_key_29 : decode cX12_key 29 = .ok (.aload_n 0, 1) := by decide +kernel
theorem dX12_key_30 : decode cX12_key 30 = .ok (.getfield 80, 3) := by decide +kernel
theorem dX12_key_33 : decode cX12_key 33 = .ok (.ifCond .le 5, 3) := by decide +kernel
theorem dX12_key_36 : decode cX12_key 36 = .ok (.iconst 0, 1) := by decide +kernel
theorem dX12_key_37 : decode cX12_key 37 = .ok (.ireturn, 1) := by decide +kernel
theorem dX12_key_38 : decode cX12_key 38 = .ok (.aload_n 0, 1) := by decide +kernel
theorem dX12_key_39 : decode cX12_key 39 = .ok (.getfield 176, 3) := by decide +kernel
theorem dX12_key_42 : decode cX12_key 42 = .ok (.ifCond .eq 17, 3) := by decide +kernel
theorem dX12_key_45 : decode cX12_key 45 = .ok (.iload_n 1, 1) := by decide +kernel
theorem dX12_key_46 : decode cX12_key 46 = .ok (.bipush 6, 2) := by decide +kernel
theorem dX12_key_48 : decode cX12_key 48 = .ok (.if_icmp .ge 11, 3) := by decide +kernel
theorem dX12_key_51 : decode cX12_key 51 = .ok (.iload_n 2, 1) := by decide +kernel
theorem dX12_key_52 : decode cX12_key 52 = .ok (.ifCond .ne 7, 3) := by decide +kernel
theorem dX12_key_55 : decode cX12_key 55 = .ok (.iconst 1, 1) := by decide +kernel
theorem dX12_key_56 : decode cX12_key 56 = .ok (.goto 4, 3) := by decide +kernel
theorem dX12_key_59 : decode cX12_key 59 = .ok (.iconst 0, 1) := by decide +kernel
theorem dX12_key_60 : decode cX12_key 60 = .ok (.istore_n 3, 1) := by decide +kernel
theorem dX12_key_61 : decode cX12_key 61 = .ok (.aload_n 0, 1) := by decide +kernel
theorem dX12_key_62 : decode cX12_key 62 = .ok (.iconst 0, 1) := by decide +kernel
theorem dX12_key_63 : decode cX12_key 63 = .ok (.putfield 336, 3) := by decide +kernel
theorem dX12_key_66 : decode cX12_key 66 = .ok (.aload_n 0, 1) := by decide +kernel
theorem dX12_key_67 : decode cX12_key 67 = .ok (.bipush 27, 2) := by decide +kernel
theorem dX12_key_69 : decode cX12_key 69 = .ok (.invokevirtual 345, 3) := by decide +kernel
theorem dX12_key_72 : decode cX12_key 72 = .ok (.aload_n 0, 1) := by decide +kernel
theorem dX12_key_73 : decode cX12_key 73 = .ok (.iload_n 3, 1) := by decide +kernel
theorem dX12_key_74 : decode cX12_key 74 = .ok (.ifCond .eq 8, 3) := by decide +kernel
theorem dX12_key_77 : decode cX12_key 77 = .ok (.bipush 79, 2) := by decide +kernel
theorem dX12_key_79 : decode cX12_key 79 = .ok (.goto 5, 3) := by decide +kernel
theorem dX12_key_82 : decode cX12_key 82 = .ok (.bipush 91, 2) := by decide +kernel
theorem dX12_key_84 : decode cX12_key 84 = .ok (.invokevirtual 345, 3) := by decide +kernel
theorem dX12_key_87 : decode cX12_key 87 = .ok (.iload_n 1, 1) := by decide +kernel
theorem dX12_key_88 : decode cX12_key 88 = .ok (.bipush 6, 2) := by decide +kernel
theorem dX12_key_90 : decode cX12_key 90 = .ok (.if_icmp .ne 12, 3) := by decide +kernel
theorem dX12_key_93 : decode cX12_key 93 = .ok (.aload_n 0, 1) := by decide +kernel
theorem dX12_key_94 : decode cX12_key 94 = .ok (.bipush 51, 2) := by decide +kernel
theorem dX12_key_96 : decode cX12_key 96 = .ok (.invokevirtual 345, 3) := by decide +kernel
theorem dX12_key_99 : decode cX12_key 99 = .ok (.goto 13, 3) := by decide +kernel
theorem dX12_key_102 : decode cX12_key 102 = .ok (.iload_n 2, 1) := by decide +kernel
theorem dX12_key_103 : decode cX12_key 103 = .ok (.ifCond .le 9, 3) := by decide +kernel
theorem dX12_key_106 : decode cX12_key 106 = .ok (.aload_n 0, 1) := by decide +kernel
theorem dX12_key_107 : decode cX12_key 107 = .ok (.bipush 49, 2) := by decide +kernel
theorem dX12_key_109 : decode cX12_key 109 = .ok (.invokevirtual 345, 3) := by decide +kernel
theorem dX12_key_112 : decode cX12_key 112 = .ok (.iload_n 2, 1) := by decide +kernel
theorem dX12_key_113 : decode cX12_key 113 = .ok (.ifCond .le 17, 3) := by decide +kernel
theorem dX12_key_116 : decode cX12_key 116 = .ok (.aload_n 0, 1) := by decide +kernel
theorem dX12_key_117 : decode cX12_key 117 = .ok (.bipush 59, 2) := by decide +kernel
theorem dX12_key_119 : decode cX12_key 119 = .ok (.invokevirtual 345, 3) := by decide +kernel
theorem dX12_key_122 : decode cX12_key 122 = .ok (.aload_n 0, 1) := by decide +kernel
theorem dX12_key_123 : decode cX12_key 123 = .ok (.bipush 49, 2) := by decide +kernel
theorem dX12_key_125 : decode cX12_key 125 = .ok (.iload_n 2, 1) := by decide +kernel
theorem dX12_key_126 : decode cX12_key 126 = .ok (.iadd, 1) := by decide +kernel
theorem dX12_key_127 : decode cX12_key 127 = .ok (.invokevirtual 345, 3) := by decide +kernel
theorem dX12_key_130 : decode cX12_key 130 = .ok (.aload_n 0, 1) := by decide +kernel
theorem dX12_key_131 : decode cX12_key 131 = .ok (.iload_n 1, 1) := by decide +kernel
theorem dX12_key_132 : decode cX12_key 132 = .ok (.bipush 6, 2) := by decide +kernel
theorem dX12_key_134 : decode cX12_key 134 = .ok (.if_icmp .ne 8, 3) := by decide +kernel
theorem dX12_key_137 : decode cX12_key 137 = .ok (.bipush 126, 2) := by decide +kernel
theorem dX12_key_139 : decode cX12_key 139 = .ok (.goto 7, 3) := by decide +kernel
theorem dX12_key_142 : decode cX12_key 142 = .ok (.iload_n 1, 1) := by decide +kernel
theorem dX12_key_143 : decode cX12_key 143 = .ok (.invokestatic 348, 3) := by decide +kernel
theorem dX12_key_146 : decode cX12_key 146 = .ok (.invokevirtual 345, 3) := by decide +kernel
theorem dX12_key_149 : decode cX12_key 149 = .ok (.aload_n 0, 1) := by decide +kernel
theorem dX12_key_150 : decode cX12_key 150 = .ok (.getfield 336, 3) := by decide +kernel
theorem dX12_key_153 : decode cX12_key 153 = .ok (.ireturn, 1) := by decide +kernel
theorem dX12_draft_0 : decode cX12_draft 0 = .ok (.aload_n 0, 1) := by decide +kernel
theorem dX12_draft_1 : decode cX12_draft 1 = .ok (.iload_n 1, 1) := by decide +kernel
theorem dX12_draft_2 : decode cX12_draft 2 = .ok (.iconst 1, 1) := by decide +kernel
theorem dX12_draft_3 : decode cX12_draft 3 = .ok (.bipush 126, 2) := by decide +kernel
theorem dX12_draft_5 : decode cX12_draft 5 = .ok (.invokestatic 83, 3) := by decide +kernel
theorem dX12_draft_8 : decode cX12_draft 8 = .ok (.ifCond .ne 7, 3) := by decide +kernel
theorem dX12_draft_11 : decode cX12_draft 11 = .ok (.iconst 1, 1) := by decide +kernel
theorem dX12_draft_12 : decode cX12_draft 12 = .ok (.goto 17, 3) := by decide +kernel
theorem dX12_draft_15 : decode cX12_draft 15 = .ok (.aload_n 0, 1) := by decide +kernel
theorem dX12_draft_16 : decode cX12_draft 16 = .ok (.getfield 351, 3) := by decide +kernel
theorem dX12_draft_19 : decode cX12_draft 19 = .ok (.bipush 40, 2) := by decide +kernel
theorem dX12_draft_21 : decode cX12_draft 21 = .ok (.if_icmp .ne 7, 3) := by decide +kernel
theorem dX12_draft_24 : decode cX12_draft 24 = .ok (.iconst 2, 1) := by decide +kernel
theorem dX12_draft_25 : decode cX12_draft 25 = .ok (.goto 4, 3) := by decide +kernel
theorem dX12_draft_28 : decode cX12_draft 28 = .ok (.iconst 0, 1) := by decide +kernel
theorem dX12_draft_29 : decode cX12_draft 29 = .ok (.putfield 80, 3) := by decide +kernel
theorem dX12_draft_32 : decode cX12_draft 32 = .ok (.aload_n 0, 1) := by decide +kernel
theorem dX12_draft_33 : decode cX12_draft 33 = .ok (.getfield 80, 3) := by decide +kernel
theorem dX12_draft_36 : decode cX12_draft 36 = .ok (.ifCond .le 5, 3) := by decide +kernel
theorem dX12_draft_39 : decode cX12_draft 39 = .ok (.iconst 0, 1) := by decide +kernel
theorem dX12_draft_40 : decode cX12_draft 40 = .ok (.ireturn, 1) := by decide +kernel
theorem dX12_draft_41 : decode cX12_draft 41 = .ok (.aload_n 0, 1) := by decide +kernel
theorem dX12_draft_42 : decode cX12_draft 42 = .ok (.getfield 61, 3) := by decide +kernel
theorem dX12_draft_45 : decode cX12_draft 45 = .ok (.aload_n 0, 1) := by decide +kernel
theorem dX12_draft_46 : decode cX12_draft 46 = .ok (.getfield 351, 3) := by decide +kernel
theorem dX12_draft_49 : decode cX12_draft 49 = .ok (.iload_n 1, 1) := by decide +kernel
theorem dX12_draft_50 : decode cX12_draft 50 = .ok (.iastore, 1) := by decide +kernel
theorem dX12_draft_51 : decode cX12_draft 51 = .ok (.aload_n 0, 1) := by decide +kernel
theorem dX12_draft_52 : decode cX12_draft 52 = .ok (.dup, 1) := by decide +kernel
theorem dX12_draft_53 : decode cX12_draft 53 = .ok (.getfield 351, 3) := by decide +kernel
theorem dX12_draft_56 : decode cX12_draft 56 = .ok (.iconst 1, 1) := by decide +kernel
theorem dX12_draft_57 : decode cX12_draft 57 = .ok (.iadd, 1) := by decide +kernel
theorem dX12_draft_58 : decode cX12_draft 58 = .ok (.putfield 351, 3) := by decide +kernel
theorem dX12_draft_61 : decode cX12_draft 61 = .ok (.aload_n 0, 1) := by decide +kernel
theorem dX12_draft_62 : decode cX12_draft 62 = .ok (.getfield 351, 3) := by decide +kernel
theorem dX12_draft_65 : decode cX12_draft 65 = .ok (.ireturn, 1) := by decide +kernel
theorem dX12_typesAround_0 : decode cX12_typesAround 0 = .ok (.aload_n 0, 1) := by decide +kernel
theorem dX12_typesAround_1 : decode cX12_typesAround 1 = .ok (.bipush 27, 2) := by decide +kernel
theorem dX12_typesAround_3 : decode cX12_typesAround 3 = .ok (.invokevirtual 345, 3) := by decide +kernel
theorem dX12_typesAround_6 : decode cX12_typesAround 6 = .ok (.aload_n 0, 1) := by decide +kernel
theorem dX12_typesAround_7 : decode cX12_typesAround 7 = .ok (.bipush 91, 2) := by decide +kernel
theorem dX12_typesAround_9 : decode cX12_typesAround 9 = .ok (.invokevirtual 345, 3) := by decide +kernel
theorem dX12_typesAround_12 : decode cX12_typesAround 12 = .ok (.aload_n 0, 1) := by decide +kernel
theorem dX12_typesAround_13 : decode cX12_typesAround 13 = .ok (.bipush 50, 2) := by decide +kernel
theorem dX12_typesAround_15 : decode cX12_typesAround 15 = .ok (.invokevirtual 345, 3) := by decide +kernel
theorem dX12_typesAround_18 : decode cX12_typesAround 18 = .ok (.aload_n 0, 1) := by decide +kernel
theorem dX12_typesAround_19 : decode cX12_typesAround 19 = .ok (.bipush 48, 2) := by decide +kernel
theorem dX12_typesAround_21 : decode cX12_typesAround 21 = .ok (.invokevirtual 345, 3) := by decide +kernel
theorem dX12_typesAround_24 : decode cX12_typesAround 24 = .ok (.aload_n 0, 1) := by decide +kernel
theorem dX12_typesAround_25 : decode cX12_typesAround 25 = .ok (.iload_n 1, 1) := by decide +kernel
theorem dX12_typesAround_26 : decode cX12_typesAround 26 = .ok (.invokevirtual 345, 3) := by decide +kernel
theorem dX12_typesAround_29 : decode cX12_typesAround 29 = .ok (.aload_n 0, 1) := by decide +kernel
theorem dX12_typesAround_30 : decode cX12_typesAround 30 = .ok (.bipush 126, 2) := by decide +kernel
theorem dX12_typesAround_32 : decode cX12_typesAround 32 = .ok (.invokevirtual 345, 3) := by decide +kernel
theorem dX12_typesAround_35 : decode cX12_typesAround 35 = .ok (.return_, 1) := by decide +kernel
theorem dX12_paste_0 : decode cX12_paste 0 = .ok (.aload_n 0, 1) := by decide +kernel
theorem dX12_paste_1 : decode cX12_paste 1 = .ok (.iconst 0, 1) := by decide +kernel
theorem dX12_paste_2 : decode cX12_paste 2 = .ok (.putfield 80, 3) := by decide +kernel
theorem dX12_paste_5 : decode cX12_paste 5 = .ok (.aload_n 0, 1) := by decide +kernel
theorem dX12_paste_6 : decode cX12_paste 6 = .ok (.iconst 0, 1) := by decide +kernel
theorem dX12_paste_7 : decode cX12_paste 7 = .ok (.putfield 336, 3) := by decide +kernel
theorem dX12_paste_10 : decode cX12_paste 10 = .ok (.aload_n 0, 1) := by decide +kernel
theorem dX12_paste_11 : decode cX12_paste 11 = .ok (.getfield 182, 3) := by decide +kernel
theorem dX12_paste_14 : decode cX12_paste 14 = .ok (.istore_n 1, 1) := by decide +kernel
theorem dX12_paste_15 : decode cX12_paste 15 = .ok (.iload_n 1, 1) := by decide +kernel
theorem dX12_paste_16 : decode cX12_paste 16 = .ok (.ifCond .eq 9, 3) := by decide +kernel
theorem dX12_paste_19 : decode cX12_paste 19 = .ok (.aload_n 0, 1) := by decide +kernel
theorem dX12_paste_20 : decode cX12_paste 20 = .ok (.bipush 48, 2) := by decide +kernel
theorem dX12_paste_22 : decode cX12_paste 22 = .ok (.invokevirtual 354, 3) := by decide +kernel
theorem dX12_paste_25 : decode cX12_paste 25 = .ok (.iconst 0, 1) := by decide +kernel
theorem dX12_paste_26 : decode cX12_paste 26 = .ok (.istore_n 2, 1) := by decide +kernel
theorem dX12_paste_27 : decode cX12_paste 27 = .ok (.iload_n 2, 1) := by decide +kernel
theorem dX12_paste_28 : decode cX12_paste 28 = .ok (.aload_n 0, 1) := by decide +kernel
theorem dX12_paste_29 : decode cX12_paste 29 = .ok (.getfield 351, 3) := by decide +kernel
theorem dX12_paste_32 : decode cX12_paste 32 = .ok (.if_icmp .ge 30, 3) := by decide +kernel
theorem dX12_paste_35 : decode cX12_paste 35 = .ok (.aload_n 0, 1) := by decide +kernel
theorem dX12_paste_36 : decode cX12_paste 36 = .ok (.getfield 61, 3) := by decide +kernel
theorem dX12_paste_39 : decode cX12_paste 39 = .ok (.iload_n 2, 1) := by decide +kernel
theorem dX12_paste_40 : decode cX12_paste 40 = .ok (.iaload, 1) := by decide +kernel
theorem dX12_paste_41 : decode cX12_paste 41 = .ok (.bipush 27, 2) := by decide +kernel
theorem dX12_paste_43 : decode cX12_paste 43 = .ok (.if_icmp .eq 13, 3) := by decide +kernel
theorem dX12_paste_46 : decode cX12_paste 46 = .ok (.aload_n 0, 1) := by decide +kernel
theorem dX12_paste_47 : decode cX12_paste 47 = .ok (.aload_n 0, 1) := by decide +kernel
theorem dX12_paste_48 : decode cX12_paste 48 = .ok (.getfield 61, 3) := by decide +kernel
theorem dX12_paste_51 : decode cX12_paste 51 = .ok (.iload_n 2, 1) := by decide +kernel
theorem dX12_paste_52 : decode cX12_paste 52 = .ok (.iaload, 1) := by decide +kernel
theorem dX12_paste_53 : decode cX12_paste 53 = .ok (.invokevirtual 345, 3) := by decide +kernel
theorem dX12_paste_56 : decode cX12_paste 56 = .ok (.iinc 2 1, 3) := by decide +kernel
theorem dX12_paste_59 : decode cX12_paste 59 = .ok (.goto (-32), 3) := by decide +kernel
theorem dX12_paste_62 : decode cX12_paste 62 = .ok (.iload_n 1, 1) := by decide +kernel
theorem dX12_paste_63 : decode cX12_paste 63 = .ok (.ifCond .eq 9, 3) := by decide +kernel
theorem dX12_paste_66 : decode cX12_paste 66 = .ok (.aload_n 0, 1) := by decide +kernel
theorem dX12_paste_67 : decode cX12_paste 67 = .ok (.bipush 49, 2) := by decide +kernel
theorem dX12_paste_69 : decode cX12_paste 69 = .ok (.invokevirtual 354, 3) := by decide +kernel
theorem dX12_paste_72 : decode cX12_paste 72 = .ok (.aload_n 0, 1) := by decide +kernel
theorem dX12_paste_73 : decode cX12_paste 73 = .ok (.iconst 0, 1) := by decide +kernel
theorem dX12_paste_74 : decode cX12_paste 74 = .ok (.putfield 351, 3) := by decide +kernel
theorem dX12_paste_77 : decode cX12_paste 77 = .ok (.aload_n 0, 1) := by decide +kernel
theorem dX12_paste_78 : decode cX12_paste 78 = .ok (.getfield 336, 3) := by decide +kernel
theorem dX12_paste_81 : decode cX12_paste 81 = .ok (.ireturn, 1) := by decide +kernel
theorem dX12_typesNumber_0 : decode cX12_typesNumber 0 = .ok (.iload_n 1, 1) := by decide +kernel
theorem dX12_typesNumber_1 : decode cX12_typesNumber 1 = .ok (.bipush 9, 2) := by decide +kernel
theorem dX12_typesNumber_3 : decode cX12_typesNumber 3 = .ok (.if_icmp .le 14, 3) := by decide +kernel
theorem dX12_typesNumber_6 : decode cX12_typesNumber 6 = .ok (.aload_n 0, 1) := by decide +kernel
theorem dX12_typesNumber_7 : decode cX12_typesNumber 7 = .ok (.bipush 48, 2) := by decide +kernel
theorem dX12_typesNumber_9 : decode cX12_typesNumber 9 = .ok (.iload_n 1, 1) := by decide +kernel
theorem dX12_typesNumber_10 : decode cX12_typesNumber 10 = .ok (.bipush 10, 2) := by decide +kernel
theorem dX12_typesNumber_12 : decode cX12_typesNumber 12 = .ok (.idiv, 1) := by decide +kernel
theorem dX12_typesNumber_13 : decode cX12_typesNumber 13 = .ok (.iadd, 1) := by decide +kernel
theorem dX12_typesNumber_14 : decode cX12_typesNumber 14 = .ok (.invokevirtual 345, 3) := by decide +kernel
theorem dX12_typesNumber_17 : decode cX12_typesNumber 17 = .ok (.aload_n 0, 1) := by decide +kernel
theorem dX12_typesNumber_18 : decode cX12_typesNumber 18 = .ok (.bipush 48, 2) := by decide +kernel
theorem dX12_typesNumber_20 : decode cX12_typesNumber 20 = .ok (.iload_n 1, 1) := by decide +kernel
theorem dX12_typesNumber_21 : decode cX12_typesNumber 21 = .ok (.bipush 10, 2) := by decide +kernel
theorem dX12_typesNumber_23 : decode cX12_typesNumber 23 = .ok (.irem, 1) := by decide +kernel
theorem dX12_typesNumber_24 : decode cX12_typesNumber 24 = .ok (.iadd, 1) := by decide +kernel
theorem dX12_typesNumber_25 : decode cX12_typesNumber 25 = .ok (.invokevirtual 345, 3) := by decide +kernel
theorem dX12_typesNumber_28 : decode cX12_typesNumber 28 = .ok (.return_, 1) := by decide +kernel
theorem dX12_mouse_0 : decode cX12_mouse 0 = .ok (.aload_n 0, 1) := by decide +kernel
theorem dX12_mouse_1 : decode cX12_mouse 1 = .ok (.aload_n 0, 1) := by decide +kernel
theorem dX12_mouse_2 : decode cX12_mouse 2 = .ok (.iload_n 2, 1) := by decide +kernel
theorem dX12_mouse_3 : decode cX12_mouse 3 = .ok (.iload_n 3, 1) := by decide +kernel
theorem dX12_mouse_4 : decode cX12_mouse 4 = .ok (.invokevirtual 357, 3) := by decide +kernel
theorem dX12_mouse_7 : decode cX12_mouse 7 = .ok (.ifCond .ne 7, 3) := by decide +kernel
theorem dX12_mouse_10 : decode cX12_mouse 10 = .ok (.iconst 1, 1) := by decide +kernel
theorem dX12_mouse_11 : decode cX12_mouse 11 = .ok (.goto 17, 3) := by decide +kernel
theorem dX12_mouse_14 : decode cX12_mouse 14 = .ok (.iload_n 1, 1) := by decide +kernel
theorem dX12_mouse_15 : decode cX12_mouse 15 = .ok (.iconst 0, 1) := by decide +kernel
theorem dX12_mouse_16 : decode cX12_mouse 16 = .ok (.iconst 2, 1) := by decide +kernel
theorem dX12_mouse_17 : decode cX12_mouse 17 = .ok (.invokestatic 83, 3) := by decide +kernel
theorem dX12_mouse_20 : decode cX12_mouse 20 = .ok (.ifCond .ne 7, 3) := by decide +kernel
theorem dX12_mouse_23 : decode cX12_mouse 23 = .ok (.iconst 2, 1) := by decide +kernel
theorem dX12_mouse_24 : decode cX12_mouse 24 = .ok (.goto 4, 3) := by decide +kernel
theorem dX12_mouse_27 : decode cX12_mouse 27 = .ok (.iconst 0, 1) := by decide +kernel
theorem dX12_mouse_28 : decode cX12_mouse 28 = .ok (.putfield 80, 3) := by decide +kernel
theorem dX12_mouse_31 : decode cX12_mouse 31 = .ok (.aload_n 0, 1) := by decide +kernel
theorem dX12_mouse_32 : decode cX12_mouse 32 = .ok (.getfield 80, 3) := by decide +kernel
theorem dX12_mouse_35 : decode cX12_mouse 35 = .ok (.ifCond .gt 10, 3) := by decide +kernel
theorem dX12_mouse_38 : decode cX12_mouse 38 = .ok (.aload_n 0, 1) := by decide +kernel
theorem dX12_mouse_39 : decode cX12_mouse 39 = .ok (.getfield 179, 3) := by decide +kernel
theorem dX12_mouse_42 : decode cX12_mouse 42 = .ok (.ifCond .ne 5, 3) := by decide +kernel
theorem dX12_mouse_45 : decode cX12_mouse 45 = .ok (.iconst 0, 1) := by decide +kernel
theorem dX12_mouse_46 : decode cX12_mouse 46 = .ok (.ireturn, 1) := by decide +kernel
theorem dX12_mouse_47 : decode cX12_mouse 47 = .ok (.aload_n 0, 1) := by decide +kernel
theorem dX12_mouse_48 : decode cX12_mouse 48 = .ok (.iconst 0, 1) := by decide +kernel
theorem dX12_mouse_49 : decode cX12_mouse 49 = .ok (.putfield 336, 3) := by decide +kernel
theorem dX12_mouse_52 : decode cX12_mouse 52 = .ok (.aload_n 0, 1) := by decide +kernel
theorem dX12_mouse_53 : decode cX12_mouse 53 = .ok (.bipush 27, 2) := by decide +kernel
theorem dX12_mouse_55 : decode cX12_mouse 55 = .ok (.invokevirtual 345, 3) := by decide +kernel
theorem dX12_mouse_58 : decode cX12_mouse 58 = .ok (.aload_n 0, 1) := by decide +kernel
theorem dX12_mouse_59 : decode cX12_mouse 59 = .ok (.bipush 91, 2) := by decide +kernel
theorem dX12_mouse_61 : decode cX12_mouse 61 = .ok (.invokevirtual 345, 3) := by decide +kernel
theorem dX12_mouse_64 : decode cX12_mouse 64 = .ok (.aload_n 0, 1) := by decide +kernel
theorem dX12_mouse_65 : decode cX12_mouse 65 = .ok (.bipush 60, 2) := by decide +kernel
theorem dX12_mouse_67 : decode cX12_mouse 67 = .ok (.invokevirtual 345, 3) := by decide +kernel
theorem dX12_mouse_70 : decode cX12_mouse 70 = .ok (.aload_n 0, 1) := by decide +kernel
theorem dX12_mouse_71 : decode cX12_mouse 71 = .ok (.bipush 48, 2) := by decide +kernel
theorem dX12_mouse_73 : decode cX12_mouse 73 = .ok (.iload_n 1, 1) := by decide +kernel
theorem dX12_mouse_74 : decode cX12_mouse 74 = .ok (.iadd, 1) := by decide +kernel
theorem dX12_mouse_75 : decode cX12_mouse 75 = .ok (.invokevirtual 345, 3) := by decide +kernel
theorem dX12_mouse_78 : decode cX12_mouse 78 = .ok (.aload_n 0, 1) := by decide +kernel
theorem dX12_mouse_79 : decode cX12_mouse 79 = .ok (.bipush 59, 2) := by decide +kernel
theorem dX12_mouse_81 : decode cX12_mouse 81 = .ok (.invokevirtual 345, 3) := by decide +kernel
theorem dX12_mouse_84 : decode cX12_mouse 84 = .ok (.aload_n 0, 1) := by decide +kernel
theorem dX12_mouse_85 : decode cX12_mouse 85 = .ok (.iload_n 3, 1) := by decide +kernel
theorem dX12_mouse_86 : decode cX12_mouse 86 = .ok (.iconst 1, 1) := by decide +kernel
theorem dX12_mouse_87 : decode cX12_mouse 87 = .ok (.iadd, 1) := by decide +kernel
theorem dX12_mouse_88 : decode cX12_mouse 88 = .ok (.invokevirtual 361, 3) := by decide +kernel
theorem dX12_mouse_91 : decode cX12_mouse 91 = .ok (.aload_n 0, 1) := by decide +kernel
theorem dX12_mouse_92 : decode cX12_mouse 92 = .ok (.bipush 59, 2) := by decide +kernel
theorem dX12_mouse_94 : decode cX12_mouse 94 = .ok (.invokevirtual 345, 3) := by decide +kernel
theorem dX12_mouse_97 : decode cX12_mouse 97 = .ok (.aload_n 0, 1) := by decide +kernel
theorem dX12_mouse_98 : decode cX12_mouse 98 = .ok (.iload_n 2, 1) := by decide +kernel
theorem dX12_mouse_99 : decode cX12_mouse 99 = .ok (.iconst 1, 1) := by decide +kernel
theorem dX12_mouse_100 : decode cX12_mouse 100 = .ok (.iadd, 1) := by decide +kernel
theorem dX12_mouse_101 : decode cX12_mouse 101 = .ok (.invokevirtual 361, 3) := by decide +kernel
theorem dX12_mouse_104 : decode cX12_mouse 104 = .ok (.aload_n 0, 1) := by decide +kernel
theorem dX12_mouse_105 : decode cX12_mouse 105 = .ok (.bipush 77, 2) := by decide +kernel
theorem dX12_mouse_107 : decode cX12_mouse 107 = .ok (.invokevirtual 345, 3) := by decide +kernel
theorem dX12_mouse_110 : decode cX12_mouse 110 = .ok (.aload_n 0, 1) := by decide +kernel
theorem dX12_mouse_111 : decode cX12_mouse 111 = .ok (.getfield 336, 3) := by decide +kernel
theorem dX12_mouse_114 : decode cX12_mouse 114 = .ok (.ireturn, 1) := by decide +kernel
theorem dX12_rule_0 : decode cX12_rule 0 = .ok (.aload_n 0, 1) := by decide +kernel
theorem dX12_rule_1 : decode cX12_rule 1 = .ok (.iconst 0, 1) := by decide +kernel
theorem dX12_rule_2 : decode cX12_rule 2 = .ok (.putfield 80, 3) := by decide +kernel
theorem dX12_rule_5 : decode cX12_rule 5 = .ok (.aload_n 0, 1) := by decide +kernel
theorem dX12_rule_6 : decode cX12_rule 6 = .ok (.getfield 339, 3) := by decide +kernel
theorem dX12_rule_9 : decode cX12_rule 9 = .ok (.istore_n 3, 1) := by decide +kernel
theorem dX12_rule_10 : decode cX12_rule 10 = .ok (.iload_n 1, 1) := by decide +kernel
theorem dX12_rule_11 : decode cX12_rule 11 = .ok (.ifCond .eq 11, 3) := by decide +kernel
theorem dX12_rule_14 : decode cX12_rule 14 = .ok (.iload_n 3, 1) := by decide +kernel
theorem dX12_rule_15 : decode cX12_rule 15 = .ok (.ifCond .ne 7, 3) := by decide +kernel
theorem dX12_rule_18 : decode cX12_rule 18 = .ok (.aload_n 0, 1) := by decide +kernel
theorem dX12_rule_19 : decode cX12_rule 19 = .ok (.invokevirtual 321, 3) := by decide +kernel
theorem dX12_rule_22 : decode cX12_rule 22 = .ok (.aload_n 0, 1) := by decide +kernel
theorem dX12_rule_23 : decode cX12_rule 23 = .ok (.iload_n 1, 1) := by decide +kernel
theorem dX12_rule_24 : decode cX12_rule 24 = .ok (.putfield 339, 3) := by decide +kernel
theorem dX12_rule_27 : decode cX12_rule 27 = .ok (.aload_n 0, 1) := by decide +kernel
theorem dX12_rule_28 : decode cX12_rule 28 = .ok (.iload_n 2, 1) := by decide +kernel
theorem dX12_rule_29 : decode cX12_rule 29 = .ok (.putfield 49, 3) := by decide +kernel
theorem dX12_rule_32 : decode cX12_rule 32 = .ok (.iload_n 3, 1) := by decide +kernel
theorem dX12_rule_33 : decode cX12_rule 33 = .ok (.ireturn, 1) := by decide +kernel
theorem dX12_take_0 : decode cX12_take 0 = .ok (.aload_n 0, 1) := by decide +kernel
theorem dX12_take_1 : decode cX12_take 1 = .ok (.iconst 0, 1) := by decide +kernel
theorem dX12_take_2 : decode cX12_take 2 = .ok (.putfield 80, 3) := by decide +kernel
theorem dX12_take_5 : decode cX12_take 5 = .ok (.aload_n 0, 1) := by decide +kernel
theorem dX12_take_6 : decode cX12_take 6 = .ok (.getfield 262, 3) := by decide +kernel
theorem dX12_take_9 : decode cX12_take 9 = .ok (.ifCond .ne 5, 3) := by decide +kernel
theorem dX12_take_12 : decode cX12_take 12 = .ok (.iconst (-1), 1) := by decide +kernel
theorem dX12_take_13 : decode cX12_take 13 = .ok (.ireturn, 1) := by decide +kernel
theorem dX12_take_14 : decode cX12_take 14 = .ok (.aload_n 0, 1) := by decide +kernel
theorem dX12_take_15 : decode cX12_take 15 = .ok (.getfield 58, 3) := by decide +kernel
theorem dX12_take_18 : decode cX12_take 18 = .ok (.iconst 0, 1) := by decide +kernel
theorem dX12_take_19 : decode cX12_take 19 = .ok (.iaload, 1) := by decide +kernel
theorem dX12_take_20 : decode cX12_take 20 = .ok (.istore_n 1, 1) := by decide +kernel
theorem dX12_take_21 : decode cX12_take 21 = .ok (.aload_n 0, 1) := by decide +kernel
theorem dX12_take_22 : decode cX12_take 22 = .ok (.dup, 1) := by decide +kernel
theorem dX12_take_23 : decode cX12_take 23 = .ok (.getfield 262, 3) := by decide +kernel
theorem dX12_take_26 : decode cX12_take 26 = .ok (.iconst 1, 1) := by decide +kernel
theorem dX12_take_27 : decode cX12_take 27 = .ok (.isub, 1) := by decide +kernel
theorem dX12_take_28 : decode cX12_take 28 = .ok (.putfield 262, 3) := by decide +kernel
theorem dX12_take_31 : decode cX12_take 31 = .ok (.iconst 0, 1) := by decide +kernel
theorem dX12_take_32 : decode cX12_take 32 = .ok (.istore_n 2, 1) := by decide +kernel
theorem dX12_take_33 : decode cX12_take 33 = .ok (.iload_n 2, 1) := by decide +kernel
theorem dX12_take_34 : decode cX12_take 34 = .ok (.aload_n 0, 1) := by decide +kernel
theorem dX12_take_35 : decode cX12_take 35 = .ok (.getfield 262, 3) := by decide +kernel
theorem dX12_take_38 : decode cX12_take 38 = .ok (.if_icmp .ge 23, 3) := by decide +kernel
theorem dX12_take_41 : decode cX12_take 41 = .ok (.aload_n 0, 1) := by decide +kernel
theorem dX12_take_42 : decode cX12_take 42 = .ok (.getfield 58, 3) := by decide +kernel
theorem dX12_take_45 : decode cX12_take 45 = .ok (.iload_n 2, 1) := by decide +kernel
theorem dX12_take_46 : decode cX12_take 46 = .ok (.aload_n 0, 1) := by decide +kernel
theorem dX12_take_47 : decode cX12_take 47 = .ok (.getfield 58, 3) := by decide +kernel
theorem dX12_take_50 : decode cX12_take 50 = .ok (.iload_n 2, 1) := by decide +kernel
theorem dX12_take_51 : decode cX12_take 51 = .ok (.iconst 1, 1) := by decide +kernel
theorem dX12_take_52 : decode cX12_take 52 = .ok (.iadd, 1) := by decide +kernel
theorem dX12_take_53 : decode cX12_take 53 = .ok (.iaload, 1) := by decide +kernel
theorem dX12_take_54 : decode cX12_take 54 = .ok (.iastore, 1) := by decide +kernel
theorem dX12_take_55 : decode cX12_take 55 = .ok (.iinc 2 1, 3) := by decide +kernel
theorem dX12_take_58 : decode cX12_take 58 = .ok (.goto (-25), 3) := by decide +kernel
theorem dX12_take_61 : decode cX12_take 61 = .ok (.iload_n 1, 1) := by decide +kernel
theorem dX12_take_62 : decode cX12_take 62 = .ok (.ireturn, 1) := by decide +kernel
theorem dX12_old_0 : decode cX12_old 0 = .ok (.iload_n 1, 1) := by decide +kernel
theorem dX12_old_1 : decode cX12_old 1 = .ok (.aload_n 0, 1) := by decide +kernel
theorem dX12_old_2 : decode cX12_old 2 = .ok (.getfield 98, 3) := by decide +kernel
theorem dX12_old_5 : decode cX12_old 5 = .ok (.if_icmp .ge 17, 3) := by decide +kernel
theorem dX12_old_8 : decode cX12_old 8 = .ok (.aload_n 0, 1) := by decide +kernel
theorem dX12_old_9 : decode cX12_old 9 = .ok (.getfield 24, 3) := by decide +kernel
theorem dX12_old_12 : decode cX12_old 12 = .ok (.bipush 24, 2) := by decide +kernel
theorem dX12_old_14 : decode cX12_old 14 = .ok (.iload_n 1, 1) := by decide +kernel
theorem dX12_old_15 : decode cX12_old 15 = .ok (.imul, 1) := by decide +kernel
theorem dX12_old_16 : decode cX12_old 16 = .ok (.iload_n 2, 1) := by decide +kernel
theorem dX12_old_17 : decode cX12_old 17 = .ok (.iadd, 1) := by decide +kernel
theorem dX12_old_18 : decode cX12_old 18 = .ok (.iaload, 1) := by decide +kernel
theorem dX12_old_19 : decode cX12_old 19 = .ok (.goto 19, 3) := by decide +kernel
theorem dX12_old_22 : decode cX12_old 22 = .ok (.aload_n 0, 1) := by decide +kernel
theorem dX12_old_23 : decode cX12_old 23 = .ok (.getfield 16, 3) := by decide +kernel
theorem dX12_old_26 : decode cX12_old 26 = .ok (.bipush 24, 2) := by decide +kernel
theorem dX12_old_28 : decode cX12_old 28 = .ok (.iload_n 1, 1) := by decide +kernel
theorem dX12_old_29 : decode cX12_old 29 = .ok (.aload_n 0, 1) := by decide +kernel
theorem dX12_old_30 : decode cX12_old 30 = .ok (.getfield 98, 3) := by decide +kernel
theorem dX12_old_33 : decode cX12_old 33 = .ok (.isub, 1) := by decide +kernel
theorem dX12_old_34 : decode cX12_old 34 = .ok (.imul, 1) := by decide +kernel
theorem dX12_old_35 : decode cX12_old 35 = .ok (.iload_n 2, 1) := by decide +kernel
theorem dX12_old_36 : decode cX12_old 36 = .ok (.iadd, 1) := by decide +kernel
theorem dX12_old_37 : decode cX12_old 37 = .ok (.iaload, 1) := by decide +kernel
theorem dX12_old_38 : decode cX12_old 38 = .ok (.ireturn, 1) := by decide +kernel
theorem dX12_oldGoes_0 : decode cX12_oldGoes 0 = .ok (.iload_n 1, 1) := by decide +kernel
theorem dX12_oldGoes_1 : decode cX12_oldGoes 1 = .ok (.aload_n 0, 1) := by decide +kernel
theorem dX12_oldGoes_2 : decode cX12_oldGoes 2 = .ok (.getfield 98, 3) := by decide +kernel
theorem dX12_oldGoes_5 : decode cX12_oldGoes 5 = .ok (.if_icmp .ge 12, 3) := by decide +kernel
theorem dX12_oldGoes_8 : decode cX12_oldGoes 8 = .ok (.aload_n 0, 1) := by decide +kernel
theorem dX12_oldGoes_9 : decode cX12_oldGoes 9 = .ok (.getfield 27, 3) := by decide +kernel
theorem dX12_oldGoes_12 : decode cX12_oldGoes 12 = .ok (.iload_n 1, 1) := by decide +kernel
theorem dX12_oldGoes_13 : decode cX12_oldGoes 13 = .ok (.baload, 1) := by decide +kernel
theorem dX12_oldGoes_14 : decode cX12_oldGoes 14 = .ok (.goto 14, 3) := by decide +kernel
theorem dX12_oldGoes_17 : decode cX12_oldGoes 17 = .ok (.aload_n 0, 1) := by decide +kernel
theorem dX12_oldGoes_18 : decode cX12_oldGoes 18 = .ok (.getfield 20, 3) := by decide +kernel
theorem dX12_oldGoes_21 : decode cX12_oldGoes 21 = .ok (.iload_n 1, 1) := by decide +kernel
theorem dX12_oldGoes_22 : decode cX12_oldGoes 22 = .ok (.aload_n 0, 1) := by decide +kernel
theorem dX12_oldGoes_23 : decode cX12_oldGoes 23 = .ok (.getfield 98, 3) := by decide +kernel
theorem dX12_oldGoes_26 : decode cX12_oldGoes 26 = .ok (.isub, 1) := by decide +kernel
theorem dX12_oldGoes_27 : decode cX12_oldGoes 27 = .ok (.baload, 1) := by decide +kernel
theorem dX12_oldGoes_28 : decode cX12_oldGoes 28 = .ok (.ireturn, 1) := by decide +kernel
theorem dX12_fullOf_0 : decode cX12_fullOf 0 = .ok (.aload_n 0, 1) := by decide +kernel
theorem dX12_fullOf_1 : decode cX12_fullOf 1 = .ok (.getfield 13, 3) := by decide +kernel
theorem dX12_fullOf_4 : decode cX12_fullOf 4 = .ok (.istore_n 2, 1) := by decide +kernel
theorem dX12_fullOf_5 : decode cX12_fullOf 5 = .ok (.iload_n 2, 1) := by decide +kernel
theorem dX12_fullOf_6 : decode cX12_fullOf 6 = .ok (.ifCond .le 20, 3) := by decide +kernel
theorem dX12_fullOf_9 : decode cX12_fullOf 9 = .ok (.aload_n 0, 1) := by decide +kernel
theorem dX12_fullOf_10 : decode cX12_fullOf 10 = .ok (.iload_n 1, 1) := by decide +kernel
theorem dX12_fullOf_11 : decode cX12_fullOf 11 = .ok (.iload_n 2, 1) := by decide +kernel
theorem dX12_fullOf_12 : decode cX12_fullOf 12 = .ok (.iconst 1, 1) := by decide +kernel
theorem dX12_fullOf_13 : decode cX12_fullOf 13 = .ok (.isub, 1) := by decide +kernel
theorem dX12_fullOf_14 : decode cX12_fullOf 14 = .ok (.invokevirtual 364, 3) := by decide +kernel
theorem dX12_fullOf_17 : decode cX12_fullOf 17 = .ok (.ifCond .ne 9, 3) := by decide +kernel
theorem dX12_fullOf_20 : decode cX12_fullOf 20 = .ok (.iinc 2 (-1), 3) := by decide +kernel
theorem dX12_fullOf_23 : decode cX12_fullOf 23 = .ok (.goto (-18), 3) := by decide +kernel
theorem dX12_fullOf_26 : decode cX12_fullOf 26 = .ok (.iload_n 2, 1) := by decide +kernel
theorem dX12_fullOf_27 : decode cX12_fullOf 27 = .ok (.ireturn, 1) := by decide +kernel
theorem dX12_lays_0 : decode cX12_lays 0 = .ok (.aload_n 0, 1) := by decide +kernel
theorem dX12_lays_1 : decode cX12_lays 1 = .ok (.getfield 98, 3) := by decide +kernel
theorem dX12_lays_4 : decode cX12_lays 4 = .ok (.aload_n 0, 1) := by decide +kernel
theorem dX12_lays_5 : decode cX12_lays 5 = .ok (.getfield 7, 3) := by decide +kernel
theorem dX12_lays_8 : decode cX12_lays 8 = .ok (.iadd, 1) := by decide +kernel
theorem dX12_lays_9 : decode cX12_lays 9 = .ok (.istore 4, 2) := by decide +kernel
theorem dX12_lays_11 : decode cX12_lays 11 = .ok (.iload 4, 2) := by decide +kernel
theorem dX12_lays_13 : decode cX12_lays 13 = .ok (.aload_n 0, 1) := by decide +kernel
theorem dX12_lays_14 : decode cX12_lays 14 = .ok (.getfield 98, 3) := by decide +kernel
theorem dX12_lays_17 : decode cX12_lays 17 = .ok (.iload_n 1, 1) := by decide +kernel
theorem dX12_lays_18 : decode cX12_lays 18 = .ok (.iadd, 1) := by decide +kernel
theorem dX12_lays_19 : decode cX12_lays 19 = .ok (.iconst 1, 1) := by decide +kernel
theorem dX12_lays_20 : decode cX12_lays 20 = .ok (.iadd, 1) := by decide +kernel
theorem dX12_lays_21 : decode cX12_lays 21 = .ok (.if_icmp .le 20, 3) := by decide +kernel
theorem dX12_lays_24 : decode cX12_lays 24 = .ok (.aload_n 0, 1) := by decide +kernel
theorem dX12_lays_25 : decode cX12_lays 25 = .ok (.iload 4, 2) := by decide +kernel
theorem dX12_lays_27 : decode cX12_lays 27 = .ok (.iconst 1, 1) := by decide +kernel
theorem dX12_lays_28 : decode cX12_lays 28 = .ok (.isub, 1) := by decide +kernel
theorem dX12_lays_29 : decode cX12_lays 29 = .ok (.invokevirtual 367, 3) := by decide +kernel
theorem dX12_lays_32 : decode cX12_lays 32 = .ok (.ifCond .ne 9, 3) := by decide +kernel
theorem dX12_lays_35 : decode cX12_lays 35 = .ok (.iinc 4 (-1), 3) := by decide +kernel
theorem dX12_lays_38 : decode cX12_lays 38 = .ok (.goto (-27), 3) := by decide +kernel
theorem dX12_lays_41 : decode cX12_lays 41 = .ok (.iconst (-1), 1) := by decide +kernel
theorem dX12_lays_42 : decode cX12_lays 42 = .ok (.istore 5, 2) := by decide +kernel
theorem dX12_lays_44 : decode cX12_lays 44 = .ok (.iconst 0, 1) := by decide +kernel
theorem dX12_lays_45 : decode cX12_lays 45 = .ok (.istore 6, 2) := by decide +kernel
theorem dX12_lays_47 : decode cX12_lays 47 = .ok (.iconst 0, 1) := by decide +kernel
theorem dX12_lays_48 : decode cX12_lays 48 = .ok (.istore 7, 2) := by decide +kernel
theorem dX12_lays_50 : decode cX12_lays 50 = .ok (.iload 7, 2) := by decide +kernel
theorem dX12_lays_52 : decode cX12_lays 52 = .ok (.iload 4, 2) := by decide +kernel
theorem dX12_lays_54 : decode cX12_lays 54 = .ok (.if_icmp .ge 379, 3) := by decide +kernel
theorem dX12_lays_57 : decode cX12_lays 57 = .ok (.iconst 0, 1) := by decide +kernel
theorem dX12_lays_58 : decode cX12_lays 58 = .ok (.istore 8, 2) := by decide +kernel
theorem dX12_lays_60 : decode cX12_lays 60 = .ok (.iconst 1, 1) := by decide +kernel
theorem dX12_lays_61 : decode cX12_lays 61 = .ok (.istore 9, 2) := by decide +kernel
theorem dX12_lays_63 : decode cX12_lays 63 = .ok (.iconst 0, 1) := by decide +kernel
theorem dX12_lays_64 : decode cX12_lays 64 = .ok (.istore 10, 2) := by decide +kernel
theorem dX12_lays_66 : decode cX12_lays 66 = .ok (.aload_n 0, 1) := by decide +kernel
theorem dX12_lays_67 : decode cX12_lays 67 = .ok (.iload 6, 2) := by decide +kernel
theorem dX12_lays_69 : decode cX12_lays 69 = .ok (.invokevirtual 370, 3) := by decide +kernel
theorem dX12_lays_72 : decode cX12_lays 72 = .ok (.iload 9, 2) := by decide +kernel
theorem dX12_lays_74 : decode cX12_lays 74 = .ok (.ifCond .eq 353, 3) := by decide +kernel
theorem dX12_lays_77 : decode cX12_lays 77 = .ok (.aload_n 0, 1) := by decide +kernel
theorem dX12_lays_78 : decode cX12_lays 78 = .ok (.iload 7, 2) := by decide +kernel
theorem dX12_lays_80 : decode cX12_lays 80 = .ok (.invokevirtual 373, 3) := by decide +kernel
theorem dX12_lays_83 : decode cX12_lays 83 = .ok (.ifCond .eq 16, 3) := by decide +kernel
theorem dX12_lays_86 : decode cX12_lays 86 = .ok (.iload 7, 2) := by decide +kernel
theorem dX12_lays_88 : decode cX12_lays 88 = .ok (.iconst 1, 1) := by decide +kernel
theorem dX12_lays_89 : decode cX12_lays 89 = .ok (.iadd, 1) := by decide +kernel
theorem dX12_lays_90 : decode cX12_lays 90 = .ok (.iload 4, 2) := by decide +kernel
theorem dX12_lays_92 : decode cX12_lays 92 = .ok (.if_icmp .ge 7, 3) := by decide +kernel
theorem dX12_lays_95 : decode cX12_lays 95 = .ok (.iconst 1, 1) := by decide +kernel
theorem dX12_lays_96 : decode cX12_lays 96 = .ok (.goto 4, 3) := by decide +kernel
theorem dX12_lays_99 : decode cX12_lays 99 = .ok (.iconst 0, 1) := by decide +kernel
theorem dX12_lays_100 : decode cX12_lays 100 = .ok (.istore 9, 2) := by decide +kernel
theorem dX12_lays_102 : decode cX12_lays 102 = .ok (.iload 9, 2) := by decide +kernel
theorem dX12_lays_104 : decode cX12_lays 104 = .ok (.ifCond .eq 37, 3) := by decide +kernel
theorem dX12_lays_107 : decode cX12_lays 107 = .ok (.aload_n 0, 1) := by decide +kernel
theorem dX12_lays_108 : decode cX12_lays 108 = .ok (.iload 7, 2) := by decide +kernel
theorem dX12_lays_110 : decode cX12_lays 110 = .ok (.aload_n 0, 1) := by decide +kernel
theorem dX12_lays_111 : decode cX12_lays 111 = .ok (.getfield 13, 3) := by decide +kernel
theorem dX12_lays_114 : decode cX12_lays 114 = .ok (.iconst 1, 1) := by decide +kernel
theorem dX12_lays_115 : decode cX12_lays 115 = .ok (.isub, 1) := by decide +kernel
theorem dX12_lays_116 : decode cX12_lays 116 = .ok (.invokevirtual 364, 3) := by decide +kernel
theorem dX12_lays_119 : decode cX12_lays 119 = .ok (.ifCond .ne 22, 3) := by decide +kernel
theorem dX12_lays_122 : decode cX12_lays 122 = .ok (.aload_n 0, 1) := by decide +kernel
theorem dX12_lays_123 : decode cX12_lays 123 = .ok (.iload 7, 2) := by decide +kernel
theorem dX12_lays_125 : decode cX12_lays 125 = .ok (.iconst 1, 1) := by decide +kernel
theorem dX12_lays_126 : decode cX12_lays 126 = .ok (.iadd, 1) := by decide +kernel
theorem dX12_lays_127 : decode cX12_lays 127 = .ok (.iconst 0, 1) := by decide +kernel
theorem dX12_lays_128 : decode cX12_lays 128 = .ok (.invokevirtual 364, 3) := by decide +kernel
theorem dX12_lays_131 : decode cX12_lays 131 = .ok (.invokestatic 377, 3) := by decide +kernel
theorem dX12_lays_134 : decode cX12_lays 134 = .ok (.ifCond .eq 7, 3) := by decide +kernel
theorem dX12_lays_137 : decode cX12_lays 137 = .ok (.iconst 1, 1) := by decide +kernel
theorem dX12_lays_138 : decode cX12_lays 138 = .ok (.goto 4, 3) := by decide +kernel
theorem dX12_lays_141 : decode cX12_lays 141 = .ok (.iconst 0, 1) := by decide +kernel
theorem dX12_lays_142 : decode cX12_lays 142 = .ok (.istore 11, 2) := by decide +kernel
theorem dX12_lays_144 : decode cX12_lays 144 = .ok (.iload 9, 2) := by decide +kernel
theorem dX12_lays_146 : decode cX12_lays 146 = .ok (.ifCond .eq 24, 3) := by decide +kernel
theorem dX12_lays_149 : decode cX12_lays 149 = .ok (.iload 11, 2) := by decide +kernel
theorem dX12_lays_151 : decode cX12_lays 151 = .ok (.ifCond .eq 12, 3) := by decide +kernel
theorem dX12_lays_154 : decode cX12_lays 154 = .ok (.aload_n 0, 1) := by decide +kernel
theorem dX12_lays_155 : decode cX12_lays 155 = .ok (.getfield 13, 3) := by decide +kernel
theorem dX12_lays_158 : decode cX12_lays 158 = .ok (.iconst 1, 1) := by decide +kernel
theorem dX12_lays_159 : decode cX12_lays 159 = .ok (.isub, 1) := by decide +kernel
theorem dX12_lays_160 : decode cX12_lays 160 = .ok (.goto 16, 3) := by decide +kernel
theorem dX12_lays_163 : decode cX12_lays 163 = .ok (.aload_n 0, 1) := by decide +kernel
theorem dX12_lays_164 : decode cX12_lays 164 = .ok (.getfield 13, 3) := by decide +kernel
theorem dX12_lays_167 : decode cX12_lays 167 = .ok (.goto 9, 3) := by decide +kernel
theorem dX12_lays_170 : decode cX12_lays 170 = .ok (.aload_n 0, 1) := by decide +kernel
theorem dX12_lays_171 : decode cX12_lays 171 = .ok (.iload 7, 2) := by decide +kernel
theorem dX12_lays_173 : decode cX12_lays 173 = .ok (.invokevirtual 367, 3) := by decide +kernel
theorem dX12_lays_176 : decode cX12_lays 176 = .ok (.istore 12, 2) := by decide +kernel
theorem dX12_lays_178 : decode cX12_lays 178 = .ok (.iconst 0, 1) := by decide +kernel
theorem dX12_lays_179 : decode cX12_lays 179 = .ok (.istore 13, 2) := by decide +kernel
theorem dX12_lays_181 : decode cX12_lays 181 = .ok (.iload 13, 2) := by decide +kernel
theorem dX12_lays_183 : decode cX12_lays 183 = .ok (.iload 12, 2) := by decide +kernel
theorem dX12_lays_185 : decode cX12_lays 185 = .ok (.if_icmp .ge 184, 3) := by decide +kernel
theorem dX12_lays_188 : decode cX12_lays 188 = .ok (.aload_n 0, 1) := by decide +kernel
theorem dX12_lays_189 : decode cX12_lays 189 = .ok (.iload 7, 2) := by decide +kernel
theorem dX12_lays_191 : decode cX12_lays 191 = .ok (.iload 13, 2) := by decide +kernel
theorem dX12_lays_193 : decode cX12_lays 193 = .ok (.invokevirtual 364, 3) := by decide +kernel
theorem dX12_lays_196 : decode cX12_lays 196 = .ok (.istore 14, 2) := by decide +kernel
theorem dX12_lays_198 : decode cX12_lays 198 = .ok (.iload 14, 2) := by decide +kernel
theorem dX12_lays_200 : decode cX12_lays 200 = .ok (.invokestatic 377, 3) := by decide +kernel
theorem dX12_lays_203 : decode cX12_lays 203 = .ok (.ifCond .eq 7, 3) := by decide +kernel
theorem dX12_lays_206 : decode cX12_lays 206 = .ok (.iconst 2, 1) := by decide +kernel
theorem dX12_lays_207 : decode cX12_lays 207 = .ok (.goto 4, 3) := by decide +kernel
theorem dX12_lays_210 : decode cX12_lays 210 = .ok (.iconst 1, 1) := by decide +kernel
theorem dX12_lays_211 : decode cX12_lays 211 = .ok (.istore 15, 2) := by decide +kernel
theorem dX12_lays_213 : decode cX12_lays 213 = .ok (.iload 14, 2) := by decide +kernel
theorem dX12_lays_215 : decode cX12_lays 215 = .ok (.bipush (-2), 2) := by decide +kernel
theorem dX12_lays_217 : decode cX12_lays 217 = .ok (.if_icmp .eq 77, 3) := by decide +kernel
theorem dX12_lays_220 : decode cX12_lays 220 = .ok (.iload 8, 2) := by decide +kernel
theorem dX12_lays_222 : decode cX12_lays 222 = .ok (.iload 15, 2) := by decide +kernel
theorem dX12_lays_224 : decode cX12_lays 224 = .ok (.iadd, 1) := by decide +kernel
theorem dX12_lays_225 : decode cX12_lays 225 = .ok (.iload_n 3, 1) := by decide +kernel
theorem dX12_lays_226 : decode cX12_lays 226 = .ok (.if_icmp .le 23, 3) := by decide +kernel
theorem dX12_lays_229 : decode cX12_lays 229 = .ok (.aload_n 0, 1) := by decide +kernel
theorem dX12_lays_230 : decode cX12_lays 230 = .ok (.getfield 73, 3) := by decide +kernel
theorem dX12_lays_233 : decode cX12_lays 233 = .ok (.iload 6, 2) := by decide +kernel
theorem dX12_lays_235 : decode cX12_lays 235 = .ok (.iconst 1, 1) := by decide +kernel
theorem dX12_lays_236 : decode cX12_lays 236 = .ok (.bastore, 1) := by decide +kernel
theorem dX12_lays_237 : decode cX12_lays 237 = .ok (.iinc 6 1, 3) := by decide +kernel
theorem dX12_lays_240 : decode cX12_lays 240 = .ok (.aload_n 0, 1) := by decide +kernel
theorem dX12_lays_241 : decode cX12_lays 241 = .ok (.iload 6, 2) := by decide +kernel
theorem dX12_lays_243 : decode cX12_lays 243 = .ok (.invokevirtual 370, 3) := by decide +kernel
theorem dX12_lays_246 : decode cX12_lays 246 = .ok (.iconst 0, 1) := by decide +kernel
theorem dX12_lays_247 : decode cX12_lays 247 = .ok (.istore 8, 2) := by decide +kernel
theorem dX12_lays_249 : decode cX12_lays 249 = .ok (.aload_n 0, 1) := by decide +kernel
theorem dX12_lays_250 : decode cX12_lays 250 = .ok (.getfield 70, 3) := by decide +kernel
theorem dX12_lays_253 : decode cX12_lays 253 = .ok (.bipush 24, 2) := by decide +kernel
theorem dX12_lays_255 : decode cX12_lays 255 = .ok (.iload 6, 2) := by decide +kernel
theorem dX12_lays_257 : decode cX12_lays 257 = .ok (.imul, 1) := by decide +kernel
theorem dX12_lays_258 : decode cX12_lays 258 = .ok (.iload 8, 2) := by decide +kernel
theorem dX12_lays_260 : decode cX12_lays 260 = .ok (.iadd, 1) := by decide +kernel
theorem dX12_lays_261 : decode cX12_lays 261 = .ok (.iload 14, 2) := by decide +kernel
theorem dX12_lays_263 : decode cX12_lays 263 = .ok (.iastore, 1) := by decide +kernel
theorem dX12_lays_264 : decode cX12_lays 264 = .ok (.iload 15, 2) := by decide +kernel
theorem dX12_lays_266 : decode cX12_lays 266 = .ok (.iconst 2, 1) := by decide +kernel
theorem dX12_lays_267 : decode cX12_lays 267 = .ok (.if_icmp .ne 20, 3) := by decide +kernel
theorem dX12_lays_270 : decode cX12_lays 270 = .ok (.aload_n 0, 1) := by decide +kernel
theorem dX12_lays_271 : decode cX12_lays 271 = .ok (.getfield 70, 3) := by decide +kernel
theorem dX12_lays_274 : decode cX12_lays 274 = .ok (.bipush 24, 2) := by decide +kernel
theorem dX12_lays_276 : decode cX12_lays 276 = .ok (.iload 6, 2) := by decide +kernel
theorem dX12_lays_278 : decode cX12_lays 278 = .ok (.imul, 1) := by decide +kernel
theorem dX12_lays_279 : decode cX12_lays 279 = .ok (.iload 8, 2) := by decide +kernel
theorem dX12_lays_281 : decode cX12_lays 281 = .ok (.iadd, 1) := by decide +kernel
theorem dX12_lays_282 : decode cX12_lays 282 = .ok (.iconst 1, 1) := by decide +kernel
theorem dX12_lays_283 : decode cX12_lays 283 = .ok (.iadd, 1) := by decide +kernel
theorem dX12_lays_284 : decode cX12_lays 284 = .ok (.bipush (-2), 2) := by decide +kernel
theorem dX12_lays_286 : decode cX12_lays 286 = .ok (.iastore, 1) := by decide +kernel
theorem dX12_lays_287 : decode cX12_lays 287 = .ok (.iload 8, 2) := by decide +kernel
theorem dX12_lays_289 : decode cX12_lays 289 = .ok (.iload 15, 2) := by decide +kernel
theorem dX12_lays_291 : decode cX12_lays 291 = .ok (.iadd, 1) := by decide +kernel
theorem dX12_lays_292 : decode cX12_lays 292 = .ok (.istore 8, 2) := by decide +kernel
theorem dX12_lays_294 : decode cX12_lays 294 = .ok (.iload 10, 2) := by decide +kernel
theorem dX12_lays_296 : decode cX12_lays 296 = .ok (.ifCond .ne 20, 3) := by decide +kernel
theorem dX12_lays_299 : decode cX12_lays 299 = .ok (.iload 7, 2) := by decide +kernel
theorem dX12_lays_301 : decode cX12_lays 301 = .ok (.aload_n 0, 1) := by decide +kernel
theorem dX12_lays_302 : decode cX12_lays 302 = .ok (.getfield 98, 3) := by decide +kernel
theorem dX12_lays_305 : decode cX12_lays 305 = .ok (.iload_n 1, 1) := by decide +kernel
theorem dX12_lays_306 : decode cX12_lays 306 = .ok (.iadd, 1) := by decide +kernel
theorem dX12_lays_307 : decode cX12_lays 307 = .ok (.if_icmp .ne 13, 3) := by decide +kernel
theorem dX12_lays_310 : decode cX12_lays 310 = .ok (.iload 13, 2) := by decide +kernel
theorem dX12_lays_312 : decode cX12_lays 312 = .ok (.iload_n 2, 1) := by decide +kernel
theorem dX12_lays_313 : decode cX12_lays 313 = .ok (.if_icmp .ne 7, 3) := by decide +kernel
theorem dX12_lays_316 : decode cX12_lays 316 = .ok (.iconst 1, 1) := by decide +kernel
theorem dX12_lays_317 : decode cX12_lays 317 = .ok (.goto 4, 3) := by decide +kernel
theorem dX12_lays_320 : decode cX12_lays 320 = .ok (.iconst 0, 1) := by decide +kernel
theorem dX12_lays_321 : decode cX12_lays 321 = .ok (.istore 16, 2) := by decide +kernel
theorem dX12_lays_323 : decode cX12_lays 323 = .ok (.iload 16, 2) := by decide +kernel
theorem dX12_lays_325 : decode cX12_lays 325 = .ok (.ifCond .eq 31, 3) := by decide +kernel
theorem dX12_lays_328 : decode cX12_lays 328 = .ok (.bipush 24, 2) := by decide +kernel
theorem dX12_lays_330 : decode cX12_lays 330 = .ok (.iload 6, 2) := by decide +kernel
theorem dX12_lays_332 : decode cX12_lays 332 = .ok (.imul, 1) := by decide +kernel
theorem dX12_lays_333 : decode cX12_lays 333 = .ok (.iload 14, 2) := by decide +kernel
theorem dX12_lays_335 : decode cX12_lays 335 = .ok (.bipush (-2), 2) := by decide +kernel
theorem dX12_lays_337 : decode cX12_lays 337 = .ok (.if_icmp .ne 10, 3) := by decide +kernel
theorem dX12_lays_340 : decode cX12_lays 340 = .ok (.iload 8, 2) := by decide +kernel
theorem dX12_lays_342 : decode cX12_lays 342 = .ok (.iconst 1, 1) := by decide +kernel
theorem dX12_lays_343 : decode cX12_lays 343 = .ok (.isub, 1) := by decide +kernel
theorem dX12_lays_344 : decode cX12_lays 344 = .ok (.goto 8, 3) := by decide +kernel
theorem dX12_lays_347 : decode cX12_lays 347 = .ok (.iload 8, 2) := by decide +kernel
theorem dX12_lays_349 : decode cX12_lays 349 = .ok (.iload 15, 2) := by decide +kernel
theorem dX12_lays_351 : decode cX12_lays 351 = .ok (.isub, 1) := by decide +kernel
theorem dX12_lays_352 : decode cX12_lays 352 = .ok (.iadd, 1) := by decide +kernel
theorem dX12_lays_353 : decode cX12_lays 353 = .ok (.goto 5, 3) := by decide +kernel
theorem dX12_lays_356 : decode cX12_lays 356 = .ok (.iload 5, 2) := by decide +kernel
theorem dX12_lays_358 : decode cX12_lays 358 = .ok (.istore 5, 2) := by decide +kernel
theorem dX12_lays_360 : decode cX12_lays 360 = .ok (.iconst 0, 1) := by decide +kernel
theorem dX12_lays_361 : decode cX12_lays 361 = .ok (.istore 10, 2) := by decide +kernel
theorem dX12_lays_363 : decode cX12_lays 363 = .ok (.iinc 13 1, 3) := by decide +kernel
theorem dX12_lays_366 : decode cX12_lays 366 = .ok (.goto (-185), 3) := by decide +kernel
theorem dX12_lays_369 : decode cX12_lays 369 = .ok (.iload 7, 2) := by decide +kernel
theorem dX12_lays_371 : decode cX12_lays 371 = .ok (.aload_n 0, 1) := by decide +kernel
theorem dX12_lays_372 : decode cX12_lays 372 = .ok (.getfield 98, 3) := by decide +kernel
theorem dX12_lays_375 : decode cX12_lays 375 = .ok (.iload_n 1, 1) := by decide +kernel
theorem dX12_lays_376 : decode cX12_lays 376 = .ok (.iadd, 1) := by decide +kernel
theorem dX12_lays_377 : decode cX12_lays 377 = .ok (.if_icmp .ne 44, 3) := by decide +kernel
theorem dX12_lays_380 : decode cX12_lays 380 = .ok (.iload_n 2, 1) := by decide +kernel
theorem dX12_lays_381 : decode cX12_lays 381 = .ok (.iload 12, 2) := by decide +kernel
theorem dX12_lays_383 : decode cX12_lays 383 = .ok (.if_icmp .lt 38, 3) := by decide +kernel
theorem dX12_lays_386 : decode cX12_lays 386 = .ok (.iload 9, 2) := by decide +kernel
theorem dX12_lays_388 : decode cX12_lays 388 = .ok (.istore 10, 2) := by decide +kernel
theorem dX12_lays_390 : decode cX12_lays 390 = .ok (.iload 9, 2) := by decide +kernel
theorem dX12_lays_392 : decode cX12_lays 392 = .ok (.ifCond .eq 8, 3) := by decide +kernel
theorem dX12_lays_395 : decode cX12_lays 395 = .ok (.iload 5, 2) := by decide +kernel
theorem dX12_lays_397 : decode cX12_lays 397 = .ok (.goto 22, 3) := by decide +kernel
theorem dX12_lays_400 : decode cX12_lays 400 = .ok (.bipush 24, 2) := by decide +kernel
theorem dX12_lays_402 : decode cX12_lays 402 = .ok (.iload 6, 2) := by decide +kernel
theorem dX12_lays_404 : decode cX12_lays 404 = .ok (.imul, 1) := by decide +kernel
theorem dX12_lays_405 : decode cX12_lays 405 = .ok (.iload 8, 2) := by decide +kernel
theorem dX12_lays_407 : decode cX12_lays 407 = .ok (.iload_n 2, 1) := by decide +kernel
theorem dX12_lays_408 : decode cX12_lays 408 = .ok (.iadd, 1) := by decide +kernel
theorem dX12_lays_409 : decode cX12_lays 409 = .ok (.iload 12, 2) := by decide +kernel
theorem dX12_lays_411 : decode cX12_lays 411 = .ok (.isub, 1) := by decide +kernel
theorem dX12_lays_412 : decode cX12_lays 412 = .ok (.iload_n 3, 1) := by decide +kernel
theorem dX12_lays_413 : decode cX12_lays 413 = .ok (.iconst 1, 1) := by decide +kernel
theorem dX12_lays_414 : decode cX12_lays 414 = .ok (.isub, 1) := by decide +kernel
theorem dX12_lays_415 : decode cX12_lays 415 = .ok (.invokestatic 170, 3) := by decide +kernel
theorem dX12_lays_418 : decode cX12_lays 418 = .ok (.iadd, 1) := by decide +kernel
theorem dX12_lays_419 : decode cX12_lays 419 = .ok (.istore 5, 2) := by decide +kernel
theorem dX12_lays_421 : decode cX12_lays 421 = .ok (.iinc 7 1, 3) := by decide +kernel
theorem dX12_lays_424 : decode cX12_lays 424 = .ok (.goto (-352), 3) := by decide +kernel
theorem dX12_lays_427 : decode cX12_lays 427 = .ok (.iinc 6 1, 3) := by decide +kernel
theorem dX12_lays_430 : decode cX12_lays 430 = .ok (.goto (-380), 3) := by decide +kernel
theorem dX12_lays_433 : decode cX12_lays 433 = .ok (.aload_n 0, 1) := by decide +kernel
theorem dX12_lays_434 : decode cX12_lays 434 = .ok (.iload 6, 2) := by decide +kernel
theorem dX12_lays_436 : decode cX12_lays 436 = .ok (.putfield 380, 3) := by decide +kernel
theorem dX12_lays_439 : decode cX12_lays 439 = .ok (.iload 5, 2) := by decide +kernel
theorem dX12_lays_441 : decode cX12_lays 441 = .ok (.ireturn, 1) := by decide +kernel
theorem dX12_emptiesLaid_0 : decode cX12_emptiesLaid 0 = .ok (.iconst 0, 1) := by decide +kernel
theorem dX12_emptiesLaid_1 : decode cX12_emptiesLaid 1 = .ok (.istore_n 2, 1) := by decide +kernel
theorem dX12_emptiesLaid_2 : decode cX12_emptiesLaid 2 = .ok (.iload_n 2, 1) := by decide +kernel
theorem dX12_emptiesLaid_3 : decode cX12_emptiesLaid 3 = .ok (.bipush 24, 2) := by decide +kernel
theorem dX12_emptiesLaid_5 : decode cX12_emptiesLaid 5 = .ok (.if_icmp .ge 21, 3) := by decide +kernel
theorem dX12_emptiesLaid_8 : decode cX12_emptiesLaid 8 = .ok (.aload_n 0, 1) := by decide +kernel
theorem dX12_emptiesLaid_9 : decode cX12_emptiesLaid 9 = .ok (.getfield 70, 3) := by decide +kernel
theorem dX12_emptiesLaid_12 : decode cX12_emptiesLaid 12 = .ok (.bipush 24, 2) := by decide +kernel
theorem dX12_emptiesLaid_14 : decode cX12_emptiesLaid 14 = .ok (.iload_n 1, 1) := by decide +kernel
theorem dX12_emptiesLaid_15 : decode cX12_emptiesLaid 15 = .ok (.imul, 1) := by decide +kernel
theorem dX12_emptiesLaid_16 : decode cX12_emptiesLaid 16 = .ok (.iload_n 2, 1) := by decide +kernel
theorem dX12_emptiesLaid_17 : decode cX12_emptiesLaid 17 = .ok (.iadd, 1) := by decide +kernel
theorem dX12_emptiesLaid_18 : decode cX12_emptiesLaid 18 = .ok (.iconst 0, 1) := by decide +kernel
theorem dX12_emptiesLaid_19 : decode cX12_emptiesLaid 19 = .ok (.iastore, 1) := by decide +kernel
theorem dX12_emptiesLaid_20 : decode cX12_emptiesLaid 20 = .ok (.iinc 2 1, 3) := by decide +kernel
theorem dX12_emptiesLaid_23 : decode cX12_emptiesLaid 23 = .ok (.goto (-21), 3) := by decide +kernel
theorem dX12_emptiesLaid_26 : decode cX12_emptiesLaid 26 = .ok (.aload_n 0, 1) := by decide +kernel
theorem dX12_emptiesLaid_27 : decode cX12_emptiesLaid 27 = .ok (.getfield 73, 3) := by decide +kernel
theorem dX12_emptiesLaid_30 : decode cX12_emptiesLaid 30 = .ok (.iload_n 1, 1) := by decide +kernel
theorem dX12_emptiesLaid_31 : decode cX12_emptiesLaid 31 = .ok (.iconst 0, 1) := by decide +kernel
theorem dX12_emptiesLaid_32 : decode cX12_emptiesLaid 32 = .ok (.bastore, 1) := by decide +kernel
theorem dX12_emptiesLaid_33 : decode cX12_emptiesLaid 33 = .ok (.return_, 1) := by decide +kernel
theorem dX12_cutsOther_0 : decode cX12_cutsOther 0 = .ok (.aload_n 0, 1) := by decide +kernel
theorem dX12_cutsOther_1 : decode cX12_cutsOther 1 = .ok (.getfield 87, 3) := by decide +kernel
theorem dX12_cutsOther_4 : decode cX12_cutsOther 4 = .ok (.istore_n 3, 1) := by decide +kernel
theorem dX12_cutsOther_5 : decode cX12_cutsOther 5 = .ok (.aload_n 0, 1) := by decide +kernel
theorem dX12_cutsOther_6 : decode cX12_cutsOther 6 = .ok (.iconst 1, 1) := by decide +kernel
theorem dX12_cutsOther_7 : decode cX12_cutsOther 7 = .ok (.putfield 87, 3) := by decide +kernel
theorem dX12_cutsOther_10 : decode cX12_cutsOther 10 = .ok (.iconst 0, 1) := by decide +kernel
theorem dX12_cutsOther_11 : decode cX12_cutsOther 11 = .ok (.istore 4, 2) := by decide +kernel
theorem dX12_cutsOther_13 : decode cX12_cutsOther 13 = .ok (.iload 4, 2) := by decide +kernel
theorem dX12_cutsOther_15 : decode cX12_cutsOther 15 = .ok (.bipush 12, 2) := by decide +kernel
theorem dX12_cutsOther_17 : decode cX12_cutsOther 17 = .ok (.if_icmp .ge 127, 3) := by decide +kernel
theorem dX12_cutsOther_20 : decode cX12_cutsOther 20 = .ok (.iload 4, 2) := by decide +kernel
theorem dX12_cutsOther_22 : decode cX12_cutsOther 22 = .ok (.aload_n 0, 1) := by decide +kernel
theorem dX12_cutsOther_23 : decode cX12_cutsOther 23 = .ok (.getfield 7, 3) := by decide +kernel
theorem dX12_cutsOther_26 : decode cX12_cutsOther 26 = .ok (.if_icmp .ge 18, 3) := by decide +kernel
theorem dX12_cutsOther_29 : decode cX12_cutsOther 29 = .ok (.iload_n 2, 1) := by decide +kernel
theorem dX12_cutsOther_30 : decode cX12_cutsOther 30 = .ok (.aload_n 0, 1) := by decide +kernel
theorem dX12_cutsOther_31 : decode cX12_cutsOther 31 = .ok (.getfield 13, 3) := by decide +kernel
theorem dX12_cutsOther_34 : decode cX12_cutsOther 34 = .ok (.if_icmp .ge 10, 3) := by decide +kernel
theorem dX12_cutsOther_37 : decode cX12_cutsOther 37 = .ok (.aload_n 0, 1) := by decide +kernel
theorem dX12_cutsOther_38 : decode cX12_cutsOther 38 = .ok (.iload 4, 2) := by decide +kernel
theorem dX12_cutsOther_40 : decode cX12_cutsOther 40 = .ok (.iload_n 2, 1) := by decide +kernel
theorem dX12_cutsOther_41 : decode cX12_cutsOther 41 = .ok (.invokevirtual 94, 3) := by decide +kernel
theorem dX12_cutsOther_44 : decode cX12_cutsOther 44 = .ok (.iconst 0, 1) := by decide +kernel
theorem dX12_cutsOther_45 : decode cX12_cutsOther 45 = .ok (.istore 5, 2) := by decide +kernel
theorem dX12_cutsOther_47 : decode cX12_cutsOther 47 = .ok (.iload 5, 2) := by decide +kernel
theorem dX12_cutsOther_49 : decode cX12_cutsOther 49 = .ok (.bipush 24, 2) := by decide +kernel
theorem dX12_cutsOther_51 : decode cX12_cutsOther 51 = .ok (.if_icmp .ge 51, 3) := by decide +kernel
theorem dX12_cutsOther_54 : decode cX12_cutsOther 54 = .ok (.aload_n 0, 1) := by decide +kernel
theorem dX12_cutsOther_55 : decode cX12_cutsOther 55 = .ok (.getfield 16, 3) := by decide +kernel
theorem dX12_cutsOther_58 : decode cX12_cutsOther 58 = .ok (.aload_n 0, 1) := by decide +kernel
theorem dX12_cutsOther_59 : decode cX12_cutsOther 59 = .ok (.iload 4, 2) := by decide +kernel
theorem dX12_cutsOther_61 : decode cX12_cutsOther 61 = .ok (.iload 5, 2) := by decide +kernel
theorem dX12_cutsOther_63 : decode cX12_cutsOther 63 = .ok (.invokevirtual 90, 3) := by decide +kernel
theorem dX12_cutsOther_66 : decode cX12_cutsOther 66 = .ok (.iload 4, 2) := by decide +kernel
theorem dX12_cutsOther_68 : decode cX12_cutsOther 68 = .ok (.iload_n 1, 1) := by decide +kernel
theorem dX12_cutsOther_69 : decode cX12_cutsOther 69 = .ok (.if_icmp .ge 25, 3) := by decide +kernel
theorem dX12_cutsOther_72 : decode cX12_cutsOther 72 = .ok (.iload 5, 2) := by decide +kernel
theorem dX12_cutsOther_74 : decode cX12_cutsOther 74 = .ok (.iload_n 2, 1) := by decide +kernel
theorem dX12_cutsOther_75 : decode cX12_cutsOther 75 = .ok (.if_icmp .ge 19, 3) := by decide +kernel
theorem dX12_cutsOther_78 : decode cX12_cutsOther 78 = .ok (.aload_n 0, 1) := by decide +kernel
theorem dX12_cutsOther_79 : decode cX12_cutsOther 79 = .ok (.getfield 16, 3) := by decide +kernel
theorem dX12_cutsOther_82 : decode cX12_cutsOther 82 = .ok (.aload_n 0, 1) := by decide +kernel
theorem dX12_cutsOther_83 : decode cX12_cutsOther 83 = .ok (.iload 4, 2) := by decide +kernel
theorem dX12_cutsOther_85 : decode cX12_cutsOther 85 = .ok (.iload 5, 2) := by decide +kernel
theorem dX12_cutsOther_87 : decode cX12_cutsOther 87 = .ok (.invokevirtual 90, 3) := by decide +kernel
theorem dX12_cutsOther_90 : decode cX12_cutsOther 90 = .ok (.iaload, 1) := by decide +kernel
theorem dX12_cutsOther_91 : decode cX12_cutsOther 91 = .ok (.goto 4, 3) := by decide +kernel
theorem dX12_cutsOther_94 : decode cX12_cutsOther 94 = .ok (.iconst 0, 1) := by decide +kernel
theorem dX12_cutsOther_95 : decode cX12_cutsOther 95 = .ok (.iastore, 1) := by decide +kernel
theorem dX12_cutsOther_96 : decode cX12_cutsOther 96 = .ok (.iinc 5 1, 3) := by decide +kernel
theorem dX12_cutsOther_99 : decode cX12_cutsOther 99 = .ok (.goto (-52), 3) := by decide +kernel
theorem dX12_cutsOther_102 : decode cX12_cutsOther 102 = .ok (.aload_n 0, 1) := by decide +kernel
theorem dX12_cutsOther_103 : decode cX12_cutsOther 103 = .ok (.getfield 20, 3) := by decide +kernel
theorem dX12_cutsOther_106 : decode cX12_cutsOther 106 = .ok (.bipush 12, 2) := by decide +kernel
theorem dX12_cutsOther_108 : decode cX12_cutsOther 108 = .ok (.iload 4, 2) := by decide +kernel
theorem dX12_cutsOther_110 : decode cX12_cutsOther 110 = .ok (.iadd, 1) := by decide +kernel
theorem dX12_cutsOther_111 : decode cX12_cutsOther 111 = .ok (.aload_n 0, 1) := by decide +kernel
theorem dX12_cutsOther_112 : decode cX12_cutsOther 112 = .ok (.getfield 20, 3) := by decide +kernel
theorem dX12_cutsOther_115 : decode cX12_cutsOther 115 = .ok (.bipush 12, 2) := by decide +kernel
theorem dX12_cutsOther_117 : decode cX12_cutsOther 117 = .ok (.iload 4, 2) := by decide +kernel
theorem dX12_cutsOther_119 : decode cX12_cutsOther 119 = .ok (.iadd, 1) := by decide +kernel
theorem dX12_cutsOther_120 : decode cX12_cutsOther 120 = .ok (.baload, 1) := by decide +kernel
theorem dX12_cutsOther_121 : decode cX12_cutsOther 121 = .ok (.ifCond .eq 15, 3) := by decide +kernel
theorem dX12_cutsOther_124 : decode cX12_cutsOther 124 = .ok (.iload 4, 2) := by decide +kernel
theorem dX12_cutsOther_126 : decode cX12_cutsOther 126 = .ok (.iload_n 1, 1) := by decide +kernel
theorem dX12_cutsOther_127 : decode cX12_cutsOther 127 = .ok (.iconst 1, 1) := by decide +kernel
theorem dX12_cutsOther_128 : decode cX12_cutsOther 128 = .ok (.isub, 1) := by decide +kernel
theorem dX12_cutsOther_129 : decode cX12_cutsOther 129 = .ok (.if_icmp .ge 7, 3) := by decide +kernel
theorem dX12_cutsOther_132 : decode cX12_cutsOther 132 = .ok (.iconst 1, 1) := by decide +kernel
theorem dX12_cutsOther_133 : decode cX12_cutsOther 133 = .ok (.goto 4, 3) := by decide +kernel
theorem dX12_cutsOther_136 : decode cX12_cutsOther 136 = .ok (.iconst 0, 1) := by decide +kernel
theorem dX12_cutsOther_137 : decode cX12_cutsOther 137 = .ok (.bastore, 1) := by decide +kernel
theorem dX12_cutsOther_138 : decode cX12_cutsOther 138 = .ok (.iinc 4 1, 3) := by decide +kernel
theorem dX12_cutsOther_141 : decode cX12_cutsOther 141 = .ok (.goto (-128), 3) := by decide +kernel
theorem dX12_cutsOther_144 : decode cX12_cutsOther 144 = .ok (.aload_n 0, 1) := by decide +kernel
theorem dX12_cutsOther_145 : decode cX12_cutsOther 145 = .ok (.iload_n 3, 1) := by decide +kernel
theorem dX12_cutsOther_146 : decode cX12_cutsOther 146 = .ok (.putfield 87, 3) := by decide +kernel
theorem dX12_cutsOther_149 : decode cX12_cutsOther 149 = .ok (.return_, 1) := by decide +kernel
theorem dX12_size_0 : decode cX12_size 0 = .ok (.aload_n 0, 1) := by decide +kernel
theorem dX12_size_1 : decode cX12_size 1 = .ok (.iload_n 1, 1) := by decide +kernel
theorem dX12_size_2 : decode cX12_size 2 = .ok (.iconst 2, 1) := by decide +kernel
theorem dX12_size_3 : decode cX12_size 3 = .ok (.bipush 12, 2) := by decide +kernel
theorem dX12_size_5 : decode cX12_size 5 = .ok (.invokestatic 83, 3) := by decide +kernel
theorem dX12_size_8 : decode cX12_size 8 = .ok (.ifCond .eq 17, 3) := by decide +kernel
theorem dX12_size_11 : decode cX12_size 11 = .ok (.iload_n 2, 1) := by decide +kernel
theorem dX12_size_12 : decode cX12_size 12 = .ok (.iconst 4, 1) := by decide +kernel
theorem dX12_size_13 : decode cX12_size 13 = .ok (.bipush 24, 2) := by decide +kernel
theorem dX12_size_15 : decode cX12_size 15 = .ok (.invokestatic 83, 3) := by decide +kernel
theorem dX12_size_18 : decode cX12_size 18 = .ok (.ifCond .eq 7, 3) := by decide +kernel
theorem dX12_size_21 : decode cX12_size 21 = .ok (.iconst 0, 1) := by decide +kernel
theorem dX12_size_22 : decode cX12_size 22 = .ok (.goto 4, 3) := by decide +kernel
theorem dX12_size_25 : decode cX12_size 25 = .ok (.iconst 1, 1) := by decide +kernel
theorem dX12_size_26 : decode cX12_size 26 = .ok (.putfield 80, 3) := by decide +kernel
theorem dX12_size_29 : decode cX12_size 29 = .ok (.aload_n 0, 1) := by decide +kernel
theorem dX12_size_30 : decode cX12_size 30 = .ok (.getfield 80, 3) := by decide +kernel
theorem dX12_size_33 : decode cX12_size 33 = .ok (.ifCond .le 5, 3) := by decide +kernel
theorem dX12_size_36 : decode cX12_size 36 = .ok (.iconst 0, 1) := by decide +kernel
theorem dX12_size_37 : decode cX12_size 37 = .ok (.ireturn, 1) := by decide +kernel
theorem dX12_size_38 : decode cX12_size 38 = .ok (.aload_n 0, 1) := by decide +kernel
theorem dX12_size_39 : decode cX12_size 39 = .ok (.getfield 87, 3) := by decide +kernel
theorem dX12_size_42 : decode cX12_size 42 = .ok (.ifCond .ne 7, 3) := by decide +kernel
theorem dX12_size_45 : decode cX12_size 45 = .ok (.iconst 1, 1) := by decide +kernel
theorem dX12_size_46 : decode cX12_size 46 = .ok (.goto 4, 3) := by decide +kernel
theorem dX12_size_49 : decode cX12_size 49 = .ok (.iconst 0, 1) := by decide +kernel
theorem dX12_size_50 : decode cX12_size 50 = .ok (.istore_n 3, 1) := by decide +kernel
theorem dX12_size_51 : decode cX12_size 51 = .ok (.iload_n 3, 1) := by decide +kernel
theorem dX12_size_52 : decode cX12_size 52 = .ok (.ifCond .eq 10, 3) := by decide +kernel
theorem dX12_size_55 : decode cX12_size 55 = .ok (.aload_n 0, 1) := by decide +kernel
theorem dX12_size_56 : decode cX12_size 56 = .ok (.getfield 113, 3) := by decide +kernel
theorem dX12_size_59 : decode cX12_size 59 = .ok (.goto 27, 3) := by decide +kernel
theorem dX12_size_62 : decode cX12_size 62 = .ok (.aload_n 0, 1) := by decide +kernel
theorem dX12_size_63 : decode cX12_size 63 = .ok (.getfield 149, 3) := by decide +kernel
theorem dX12_size_66 : decode cX12_size 66 = .ok (.ifCond .eq 19, 3) := by decide +kernel
theorem dX12_size_69 : decode cX12_size 69 = .ok (.aload_n 0, 1) := by decide +kernel
theorem dX12_size_70 : decode cX12_size 70 = .ok (.getfield 152, 3) := by decide +kernel
theorem dX12_size_73 : decode cX12_size 73 = .ok (.aload_n 0, 1) := by decide +kernel
theorem dX12_size_74 : decode cX12_size 74 = .ok (.getfield 7, 3) := by decide +kernel
theorem dX12_size_77 : decode cX12_size 77 = .ok (.iconst 1, 1) := by decide +kernel
theorem dX12_size_78 : decode cX12_size 78 = .ok (.isub, 1) := by decide +kernel
theorem dX12_size_79 : decode cX12_size 79 = .ok (.invokestatic 170, 3) := by decide +kernel
theorem dX12_size_82 : decode cX12_size 82 = .ok (.goto 4, 3) := by decide +kernel
theorem dX12_size_85 : decode cX12_size 85 = .ok (.iconst 0, 1) := by decide +kernel
theorem dX12_size_86 : decode cX12_size 86 = .ok (.istore 4, 2) := by decide +kernel
theorem dX12_size_88 : decode cX12_size 88 = .ok (.iload_n 3, 1) := by decide +kernel
theorem dX12_size_89 : decode cX12_size 89 = .ok (.ifCond .eq 10, 3) := by decide +kernel
theorem dX12_size_92 : decode cX12_size 92 = .ok (.aload_n 0, 1) := by decide +kernel
theorem dX12_size_93 : decode cX12_size 93 = .ok (.getfield 123, 3) := by decide +kernel
theorem dX12_size_96 : decode cX12_size 96 = .ok (.goto 27, 3) := by decide +kernel
theorem dX12_size_99 : decode cX12_size 99 = .ok (.aload_n 0, 1) := by decide +kernel
theorem dX12_size_100 : decode cX12_size 100 = .ok (.getfield 149, 3) := by decide +kernel
theorem dX12_size_103 : decode cX12_size 103 = .ok (.ifCond .eq 19, 3) := by decide +kernel
theorem dX12_size_106 : decode cX12_size 106 = .ok (.aload_n 0, 1) := by decide +kernel
theorem dX12_size_107 : decode cX12_size 107 = .ok (.getfield 155, 3) := by decide +kernel
theorem dX12_size_110 : decode cX12_size 110 = .ok (.aload_n 0, 1) := by decide +kernel
theorem dX12_size_111 : decode cX12_size 111 = .ok (.getfield 13, 3) := by decide +kernel
theorem dX12_size_114 : decode cX12_size 114 = .ok (.iconst 1, 1) := by decide +kernel
theorem dX12_size_115 : decode cX12_size 115 = .ok (.isub, 1) := by decide +kernel
theorem dX12_size_116 : decode cX12_size 116 = .ok (.invokestatic 170, 3) := by decide +kernel
theorem dX12_size_119 : decode cX12_size 119 = .ok (.goto 4, 3) := by decide +kernel
theorem dX12_size_122 : decode cX12_size 122 = .ok (.iconst 0, 1) := by decide +kernel
theorem dX12_size_123 : decode cX12_size 123 = .ok (.istore 5, 2) := by decide +kernel
theorem dX12_size_125 : decode cX12_size 125 = .ok (.aload_n 0, 1) := by decide +kernel
theorem dX12_size_126 : decode cX12_size 126 = .ok (.iload 4, 2) := by decide +kernel
theorem dX12_size_128 : decode cX12_size 128 = .ok (.iload 5, 2) := by decide +kernel
theorem dX12_size_130 : decode cX12_size 130 = .ok (.iload_n 2, 1) := by decide +kernel
theorem dX12_size_131 : decode cX12_size 131 = .ok (.invokevirtual 383, 3) := by decide +kernel
theorem dX12_size_134 : decode cX12_size 134 = .ok (.istore 6, 2) := by decide +kernel
theorem dX12_size_136 : decode cX12_size 136 = .ok (.aload_n 0, 1) := by decide +kernel
theorem dX12_size_137 : decode cX12_size 137 = .ok (.iload_n 1, 1) := by decide +kernel
theorem dX12_size_138 : decode cX12_size 138 = .ok (.iload_n 2, 1) := by decide +kernel
theorem dX12_size_139 : decode cX12_size 139 = .ok (.invokevirtual 387, 3) := by decide +kernel
theorem dX12_size_142 : decode cX12_size 142 = .ok (.aload_n 0, 1) := by decide +kernel
theorem dX12_size_143 : decode cX12_size 143 = .ok (.getfield 380, 3) := by decide +kernel
theorem dX12_size_146 : decode cX12_size 146 = .ok (.iload_n 1, 1) := by decide +kernel
theorem dX12_size_147 : decode cX12_size 147 = .ok (.isub, 1) := by decide +kernel
theorem dX12_size_148 : decode cX12_size 148 = .ok (.ifCond .ge 7, 3) := by decide +kernel
theorem dX12_size_151 : decode cX12_size 151 = .ok (.iconst 0, 1) := by decide +kernel
theorem dX12_size_152 : decode cX12_size 152 = .ok (.goto 9, 3) := by decide +kernel
theorem dX12_size_155 : decode cX12_size 155 = .ok (.aload_n 0, 1) := by decide +kernel
theorem dX12_size_156 : decode cX12_size 156 = .ok (.getfield 380, 3) := by decide +kernel
theorem dX12_size_159 : decode cX12_size 159 = .ok (.iload_n 1, 1) := by decide +kernel
theorem dX12_size_160 : decode cX12_size 160 = .ok (.isub, 1) := by decide +kernel
theorem dX12_size_161 : decode cX12_size 161 = .ok (.istore 7, 2) := by decide +kernel
theorem dX12_size_163 : decode cX12_size 163 = .ok (.iload 7, 2) := by decide +kernel
theorem dX12_size_165 : decode cX12_size 165 = .ok (.iload 6, 2) := by decide +kernel
theorem dX12_size_167 : decode cX12_size 167 = .ok (.bipush 24, 2) := by decide +kernel
theorem dX12_size_169 : decode cX12_size 169 = .ok (.idiv, 1) := by decide +kernel
theorem dX12_size_170 : decode cX12_size 170 = .ok (.invokestatic 170, 3) := by decide +kernel
theorem dX12_size_173 : decode cX12_size 173 = .ok (.istore 7, 2) := by decide +kernel
theorem dX12_size_175 : decode cX12_size 175 = .ok (.aload_n 0, 1) := by decide +kernel
theorem dX12_size_176 : decode cX12_size 176 = .ok (.iload 7, 2) := by decide +kernel
theorem dX12_size_178 : decode cX12_size 178 = .ok (.bipush 40, 2) := by decide +kernel
theorem dX12_size_180 : decode cX12_size 180 = .ok (.invokestatic 170, 3) := by decide +kernel
theorem dX12_size_183 : decode cX12_size 183 = .ok (.putfield 98, 3) := by decide +kernel
theorem dX12_size_186 : decode cX12_size 186 = .ok (.iconst 0, 1) := by decide +kernel
theorem dX12_size_187 : decode cX12_size 187 = .ok (.istore 8, 2) := by decide +kernel
theorem dX12_size_189 : decode cX12_size 189 = .ok (.iload 8, 2) := by decide +kernel
theorem dX12_size_191 : decode cX12_size 191 = .ok (.aload_n 0, 1) := by decide +kernel
theorem dX12_size_192 : decode cX12_size 192 = .ok (.getfield 98, 3) := by decide +kernel
theorem dX12_size_195 : decode cX12_size 195 = .ok (.if_icmp .ge 81, 3) := by decide +kernel
theorem dX12_size_198 : decode cX12_size 198 = .ok (.iconst 0, 1) := by decide +kernel
theorem dX12_size_199 : decode cX12_size 199 = .ok (.istore 9, 2) := by decide +kernel
theorem dX12_size_201 : decode cX12_size 201 = .ok (.iload 9, 2) := by decide +kernel
theorem dX12_size_203 : decode cX12_size 203 = .ok (.bipush 24, 2) := by decide +kernel
theorem dX12_size_205 : decode cX12_size 205 = .ok (.if_icmp .ge 43, 3) := by decide +kernel
theorem dX12_size_208 : decode cX12_size 208 = .ok (.aload_n 0, 1) := by decide +kernel
theorem dX12_size_209 : decode cX12_size 209 = .ok (.getfield 24, 3) := by decide +kernel
theorem dX12_size_212 : decode cX12_size 212 = .ok (.bipush 24, 2) := by decide +kernel
theorem dX12_size_214 : decode cX12_size 214 = .ok (.iload 8, 2) := by decide +kernel
theorem dX12_size_216 : decode cX12_size 216 = .ok (.imul, 1) := by decide +kernel
theorem dX12_size_217 : decode cX12_size 217 = .ok (.iload 9, 2) := by decide +kernel
theorem dX12_size_219 : decode cX12_size 219 = .ok (.iadd, 1) := by decide +kernel
theorem dX12_size_220 : decode cX12_size 220 = .ok (.aload_n 0, 1) := by decide +kernel
theorem dX12_size_221 : decode cX12_size 221 = .ok (.getfield 70, 3) := by decide +kernel
theorem dX12_size_224 : decode cX12_size 224 = .ok (.bipush 24, 2) := by decide +kernel
theorem dX12_size_226 : decode cX12_size 226 = .ok (.iload 7, 2) := by decide +kernel
theorem dX12_size_228 : decode cX12_size 228 = .ok (.aload_n 0, 1) := by decide +kernel
theorem dX12_size_229 : decode cX12_size 229 = .ok (.getfield 98, 3) := by decide +kernel
theorem dX12_size_232 : decode cX12_size 232 = .ok (.isub, 1) := by decide +kernel
theorem dX12_size_233 : decode cX12_size 233 = .ok (.iload 8, 2) := by decide +kernel
theorem dX12_size_235 : decode cX12_size 235 = .ok (.iadd, 1) := by decide +kernel
theorem dX12_size_236 : decode cX12_size 236 = .ok (.imul, 1) := by decide +kernel
theorem dX12_size_237 : decode cX12_size 237 = .ok (.iload 9, 2) := by decide +kernel
theorem dX12_size_239 : decode cX12_size 239 = .ok (.iadd, 1) := by decide +kernel
theorem dX12_size_240 : decode cX12_size 240 = .ok (.iaload, 1) := by decide +kernel
theorem dX12_size_241 : decode cX12_size 241 = .ok (.iastore, 1) := by decide +kernel
theorem dX12_size_242 : decode cX12_size 242 = .ok (.iinc 9 1, 3) := by decide +kernel
theorem dX12_size_245 : decode cX12_size 245 = .ok (.goto (-44), 3) := by decide +kernel
theorem dX12_size_248 : decode cX12_size 248 = .ok (.aload_n 0, 1) := by decide +kernel
theorem dX12_size_249 : decode cX12_size 249 = .ok (.getfield 27, 3) := by decide +kernel
theorem dX12_size_252 : decode cX12_size 252 = .ok (.iload 8, 2) := by decide +kernel
theorem dX12_size_254 : decode cX12_size 254 = .ok (.aload_n 0, 1) := by decide +kernel
theorem dX12_size_255 : decode cX12_size 255 = .ok (.getfield 73, 3) := by decide +kernel
theorem dX12_size_258 : decode cX12_size 258 = .ok (.iload 7, 2) := by decide +kernel
theorem dX12_size_260 : decode cX12_size 260 = .ok (.aload_n 0, 1) := by decide +kernel
theorem dX12_size_261 : decode cX12_size 261 = .ok (.getfield 98, 3) := by decide +kernel
theorem dX12_size_264 : decode cX12_size 264 = .ok (.isub, 1) := by decide +kernel
theorem dX12_size_265 : decode cX12_size 265 = .ok (.iload 8, 2) := by decide +kernel
theorem dX12_size_267 : decode cX12_size 267 = .ok (.iadd, 1) := by decide +kernel
theorem dX12_size_268 : decode cX12_size 268 = .ok (.baload, 1) := by decide +kernel
theorem dX12_size_269 : decode cX12_size 269 = .ok (.bastore, 1) := by decide +kernel
theorem dX12_size_270 : decode cX12_size 270 = .ok (.iinc 8 1, 3) := by decide +kernel
theorem dX12_size_273 : decode cX12_size 273 = .ok (.goto (-84), 3) := by decide +kernel
theorem dX12_size_276 : decode cX12_size 276 = .ok (.iconst 0, 1) := by decide +kernel
theorem dX12_size_277 : decode cX12_size 277 = .ok (.istore 8, 2) := by decide +kernel
theorem dX12_size_279 : decode cX12_size 279 = .ok (.iload 8, 2) := by decide +kernel
theorem dX12_size_281 : decode cX12_size 281 = .ok (.bipush 12, 2) := by decide +kernel
theorem dX12_size_283 : decode cX12_size 283 = .ok (.if_icmp .ge 126, 3) := by decide +kernel
theorem dX12_size_286 : decode cX12_size 286 = .ok (.iload 8, 2) := by decide +kernel
theorem dX12_size_288 : decode cX12_size 288 = .ok (.iload_n 1, 1) := by decide +kernel
theorem dX12_size_289 : decode cX12_size 289 = .ok (.if_icmp .ge 19, 3) := by decide +kernel
theorem dX12_size_292 : decode cX12_size 292 = .ok (.iload 7, 2) := by decide +kernel
theorem dX12_size_294 : decode cX12_size 294 = .ok (.iload 8, 2) := by decide +kernel
theorem dX12_size_296 : decode cX12_size 296 = .ok (.iadd, 1) := by decide +kernel
theorem dX12_size_297 : decode cX12_size 297 = .ok (.aload_n 0, 1) := by decide +kernel
theorem dX12_size_298 : decode cX12_size 298 = .ok (.getfield 380, 3) := by decide +kernel
theorem dX12_size_301 : decode cX12_size 301 = .ok (.if_icmp .ge 7, 3) := by decide +kernel
theorem dX12_size_304 : decode cX12_size 304 = .ok (.iconst 1, 1) := by decide +kernel
theorem dX12_size_305 : decode cX12_size 305 = .ok (.goto 4, 3) := by decide +kernel
theorem dX12_size_308 : decode cX12_size 308 = .ok (.iconst 0, 1) := by decide +kernel
theorem dX12_size_309 : decode cX12_size 309 = .ok (.istore 9, 2) := by decide +kernel
theorem dX12_size_311 : decode cX12_size 311 = .ok (.iconst 0, 1) := by decide +kernel
theorem dX12_size_312 : decode cX12_size 312 = .ok (.istore 10, 2) := by decide +kernel
theorem dX12_size_314 : decode cX12_size 314 = .ok (.iload 10, 2) := by decide +kernel
theorem dX12_size_316 : decode cX12_size 316 = .ok (.bipush 24, 2) := by decide +kernel
theorem dX12_size_318 : decode cX12_size 318 = .ok (.if_icmp .ge 47, 3) := by decide +kernel
theorem dX12_size_321 : decode cX12_size 321 = .ok (.aload_n 0, 1) := by decide +kernel
theorem dX12_size_322 : decode cX12_size 322 = .ok (.getfield 16, 3) := by decide +kernel
theorem dX12_size_325 : decode cX12_size 325 = .ok (.bipush 24, 2) := by decide +kernel
theorem dX12_size_327 : decode cX12_size 327 = .ok (.iload 8, 2) := by decide +kernel
theorem dX12_size_329 : decode cX12_size 329 = .ok (.imul, 1) := by decide +kernel
theorem dX12_size_330 : decode cX12_size 330 = .ok (.iload 10, 2) := by decide +kernel
theorem dX12_size_332 : decode cX12_size 332 = .ok (.iadd, 1) := by decide +kernel
theorem dX12_size_333 : decode cX12_size 333 = .ok (.iload 9, 2) := by decide +kernel
theorem dX12_size_335 : decode cX12_size 335 = .ok (.ifCond .eq 22, 3) := by decide +kernel
theorem dX12_size_338 : decode cX12_size 338 = .ok (.aload_n 0, 1) := by decide +kernel
theorem dX12_size_339 : decode cX12_size 339 = .ok (.getfield 70, 3) := by decide +kernel
theorem dX12_size_342 : decode cX12_size 342 = .ok (.bipush 24, 2) := by decide +kernel
theorem dX12_size_344 : decode cX12_size 344 = .ok (.iload 7, 2) := by decide +kernel
theorem dX12_size_346 : decode cX12_size 346 = .ok (.iload 8, 2) := by decide +kernel
theorem dX12_size_348 : decode cX12_size 348 = .ok (.iadd, 1) := by decide +kernel
theorem dX12_size_349 : decode cX12_size 349 = .ok (.imul, 1) := by decide +kernel
theorem dX12_size_350 : decode cX12_size 350 = .ok (.iload 10, 2) := by decide +kernel
theorem dX12_size_352 : decode cX12_size 352 = .ok (.iadd, 1) := by decide +kernel
theorem dX12_size_353 : decode cX12_size 353 = .ok (.iaload, 1) := by decide +kernel
theorem dX12_size_354 : decode cX12_size 354 = .ok (.goto 4, 3) := by decide +kernel
theorem dX12_size_357 : decode cX12_size 357 = .ok (.iconst 0, 1) := by decide +kernel
theorem dX12_size_358 : decode cX12_size 358 = .ok (.iastore, 1) := by decide +kernel
theorem dX12_size_359 : decode cX12_size 359 = .ok (.iinc 10 1, 3) := by decide +kernel
theorem dX12_size_362 : decode cX12_size 362 = .ok (.goto (-48), 3) := by decide +kernel
theorem dX12_size_365 : decode cX12_size 365 = .ok (.aload_n 0, 1) := by decide +kernel
theorem dX12_size_366 : decode cX12_size 366 = .ok (.getfield 20, 3) := by decide +kernel
theorem dX12_size_369 : decode cX12_size 369 = .ok (.iload 8, 2) := by decide +kernel
theorem dX12_size_371 : decode cX12_size 371 = .ok (.iload 9, 2) := by decide +kernel
theorem dX12_size_373 : decode cX12_size 373 = .ok (.ifCond .eq 28, 3) := by decide +kernel
theorem dX12_size_376 : decode cX12_size 376 = .ok (.iload 8, 2) := by decide +kernel
theorem dX12_size_378 : decode cX12_size 378 = .ok (.iload_n 1, 1) := by decide +kernel
theorem dX12_size_379 : decode cX12_size 379 = .ok (.iconst 1, 1) := by decide +kernel
theorem dX12_size_380 : decode cX12_size 380 = .ok (.isub, 1) := by decide +kernel
theorem dX12_size_381 : decode cX12_size 381 = .ok (.if_icmp .ge 20, 3) := by decide +kernel
theorem dX12_size_384 : decode cX12_size 384 = .ok (.aload_n 0, 1) := by decide +kernel
theorem dX12_size_385 : decode cX12_size 385 = .ok (.getfield 73, 3) := by decide +kernel
theorem dX12_size_388 : decode cX12_size 388 = .ok (.iload 7, 2) := by decide +kernel
theorem dX12_size_390 : decode cX12_size 390 = .ok (.iload 8, 2) := by decide +kernel
theorem dX12_size_392 : decode cX12_size 392 = .ok (.iadd, 1) := by decide +kernel
theorem dX12_size_393 : decode cX12_size 393 = .ok (.baload, 1) := by decide +kernel
theorem dX12_size_394 : decode cX12_size 394 = .ok (.ifCond .eq 7, 3) := by decide +kernel
theorem dX12_size_397 : decode cX12_size 397 = .ok (.iconst 1, 1) := by decide +kernel
theorem dX12_size_398 : decode cX12_size 398 = .ok (.goto 4, 3) := by decide +kernel
theorem dX12_size_401 : decode cX12_size 401 = .ok (.iconst 0, 1) := by decide +kernel
theorem dX12_size_402 : decode cX12_size 402 = .ok (.bastore, 1) := by decide +kernel
theorem dX12_size_403 : decode cX12_size 403 = .ok (.iinc 8 1, 3) := by decide +kernel
theorem dX12_size_406 : decode cX12_size 406 = .ok (.goto (-127), 3) := by decide +kernel
theorem dX12_size_409 : decode cX12_size 409 = .ok (.aload_n 0, 1) := by decide +kernel
theorem dX12_size_410 : decode cX12_size 410 = .ok (.iload_n 3, 1) := by decide +kernel
theorem dX12_size_411 : decode cX12_size 411 = .ok (.ifCond .eq 25, 3) := by decide +kernel
theorem dX12_size_414 : decode cX12_size 414 = .ok (.aload_n 0, 1) := by decide +kernel
theorem dX12_size_415 : decode cX12_size 415 = .ok (.getfield 126, 3) := by decide +kernel
theorem dX12_size_418 : decode cX12_size 418 = .ok (.ifCond .eq 18, 3) := by decide +kernel
theorem dX12_size_421 : decode cX12_size 421 = .ok (.iload 6, 2) := by decide +kernel
theorem dX12_size_423 : decode cX12_size 423 = .ok (.bipush 24, 2) := by decide +kernel
theorem dX12_size_425 : decode cX12_size 425 = .ok (.irem, 1) := by decide +kernel
theorem dX12_size_426 : decode cX12_size 426 = .ok (.iload_n 2, 1) := by decide +kernel
theorem dX12_size_427 : decode cX12_size 427 = .ok (.iconst 1, 1) := by decide +kernel
theorem dX12_size_428 : decode cX12_size 428 = .ok (.isub, 1) := by decide +kernel
theorem dX12_size_429 : decode cX12_size 429 = .ok (.if_icmp .ne 7, 3) := by decide +kernel
theorem dX12_size_432 : decode cX12_size 432 = .ok (.iconst 1, 1) := by decide +kernel
theorem dX12_size_433 : decode cX12_size 433 = .ok (.goto 4, 3) := by decide +kernel
theorem dX12_size_436 : decode cX12_size 436 = .ok (.iconst 0, 1) := by decide +kernel
theorem dX12_size_437 : decode cX12_size 437 = .ok (.putfield 126, 3) := by decide +kernel
theorem dX12_size_440 : decode cX12_size 440 = .ok (.iload_n 3, 1) := by decide +kernel
theorem dX12_size_441 : decode cX12_size 441 = .ok (.ifCond .ne 55, 3) := by decide +kernel
theorem dX12_size_444 : decode cX12_size 444 = .ok (.aload_n 0, 1) := by decide +kernel
theorem dX12_size_445 : decode cX12_size 445 = .ok (.iload 6, 2) := by decide +kernel
theorem dX12_size_447 : decode cX12_size 447 = .ok (.bipush 24, 2) := by decide +kernel
theorem dX12_size_449 : decode cX12_size 449 = .ok (.idiv, 1) := by decide +kernel
theorem dX12_size_450 : decode cX12_size 450 = .ok (.iload 7, 2) := by decide +kernel
theorem dX12_size_452 : decode cX12_size 452 = .ok (.isub, 1) := by decide +kernel
theorem dX12_size_453 : decode cX12_size 453 = .ok (.putfield 152, 3) := by decide +kernel
theorem dX12_size_456 : decode cX12_size 456 = .ok (.aload_n 0, 1) := by decide +kernel
theorem dX12_size_457 : decode cX12_size 457 = .ok (.iload 6, 2) := by decide +kernel
theorem dX12_size_459 : decode cX12_size 459 = .ok (.bipush 24, 2) := by decide +kernel
theorem dX12_size_461 : decode cX12_size 461 = .ok (.irem, 1) := by decide +kernel
theorem dX12_size_462 : decode cX12_size 462 = .ok (.putfield 155, 3) := by decide +kernel
theorem dX12_size_465 : decode cX12_size 465 = .ok (.aload_n 0, 1) := by decide +kernel
theorem dX12_size_466 : decode cX12_size 466 = .ok (.aload_n 0, 1) := by decide +kernel
theorem dX12_size_467 : decode cX12_size 467 = .ok (.getfield 158, 3) := by decide +kernel
theorem dX12_size_470 : decode cX12_size 470 = .ok (.ifCond .eq 17, 3) := by decide +kernel
theorem dX12_size_473 : decode cX12_size 473 = .ok (.aload_n 0, 1) := by decide +kernel
theorem dX12_size_474 : decode cX12_size 474 = .ok (.getfield 155, 3) := by decide +kernel
theorem dX12_size_477 : decode cX12_size 477 = .ok (.iload_n 2, 1) := by decide +kernel
theorem dX12_size_478 : decode cX12_size 478 = .ok (.iconst 1, 1) := by decide +kernel
theorem dX12_size_479 : decode cX12_size 479 = .ok (.isub, 1) := by decide +kernel
theorem dX12_size_480 : decode cX12_size 480 = .ok (.if_icmp .ne 7, 3) := by decide +kernel
theorem dX12_size_483 : decode cX12_size 483 = .ok (.iconst 1, 1) := by decide +kernel
theorem dX12_size_484 : decode cX12_size 484 = .ok (.goto 4, 3) := by decide +kernel
theorem dX12_size_487 : decode cX12_size 487 = .ok (.iconst 0, 1) := by decide +kernel
theorem dX12_size_488 : decode cX12_size 488 = .ok (.putfield 158, 3) := by decide +kernel
theorem dX12_size_491 : decode cX12_size 491 = .ok (.aload_n 0, 1) := by decide +kernel
theorem dX12_size_492 : decode cX12_size 492 = .ok (.iconst 1, 1) := by decide +kernel
theorem dX12_size_493 : decode cX12_size 493 = .ok (.putfield 149, 3) := by decide +kernel
theorem dX12_size_496 : decode cX12_size 496 = .ok (.aload_n 0, 1) := by decide +kernel
theorem dX12_size_497 : decode cX12_size 497 = .ok (.iload_n 3, 1) := by decide +kernel
theorem dX12_size_498 : decode cX12_size 498 = .ok (.ifCond .eq 14, 3) := by decide +kernel
theorem dX12_size_501 : decode cX12_size 501 = .ok (.iload 6, 2) := by decide +kernel
theorem dX12_size_503 : decode cX12_size 503 = .ok (.bipush 24, 2) := by decide +kernel
theorem dX12_size_505 : decode cX12_size 505 = .ok (.idiv, 1) := by decide +kernel
theorem dX12_size_506 : decode cX12_size 506 = .ok (.iload 7, 2) := by decide +kernel
theorem dX12_size_508 : decode cX12_size 508 = .ok (.isub, 1) := by decide +kernel
theorem dX12_size_509 : decode cX12_size 509 = .ok (.goto 13, 3) := by decide +kernel
theorem dX12_size_512 : decode cX12_size 512 = .ok (.aload_n 0, 1) := by decide +kernel
theorem dX12_size_513 : decode cX12_size 513 = .ok (.getfield 113, 3) := by decide +kernel
theorem dX12_size_516 : decode cX12_size 516 = .ok (.iload_n 1, 1) := by decide +kernel
theorem dX12_size_517 : decode cX12_size 517 = .ok (.iconst 1, 1) := by decide +kernel
theorem dX12_size_518 : decode cX12_size 518 = .ok (.isub, 1) := by decide +kernel
theorem dX12_size_519 : decode cX12_size 519 = .ok (.invokestatic 170, 3) := by decide +kernel
theorem dX12_size_522 : decode cX12_size 522 = .ok (.putfield 113, 3) := by decide +kernel
theorem dX12_size_525 : decode cX12_size 525 = .ok (.aload_n 0, 1) := by decide +kernel
theorem dX12_size_526 : decode cX12_size 526 = .ok (.iload_n 3, 1) := by decide +kernel
theorem dX12_size_527 : decode cX12_size 527 = .ok (.ifCond .eq 11, 3) := by decide +kernel
theorem dX12_size_530 : decode cX12_size 530 = .ok (.iload 6, 2) := by decide +kernel
theorem dX12_size_532 : decode cX12_size 532 = .ok (.bipush 24, 2) := by decide +kernel
theorem dX12_size_534 : decode cX12_size 534 = .ok (.irem, 1) := by decide +kernel
theorem dX12_size_535 : decode cX12_size 535 = .ok (.goto 13, 3) := by decide +kernel
theorem dX12_size_538 : decode cX12_size 538 = .ok (.aload_n 0, 1) := by decide +kernel
theorem dX12_size_539 : decode cX12_size 539 = .ok (.getfield 123, 3) := by decide +kernel
theorem dX12_size_542 : decode cX12_size 542 = .ok (.iload_n 2, 1) := by decide +kernel
theorem dX12_size_543 : decode cX12_size 543 = .ok (.iconst 1, 1) := by decide +kernel
theorem dX12_size_544 : decode cX12_size 544 = .ok (.isub, 1) := by decide +kernel
theorem dX12_size_545 : decode cX12_size 545 = .ok (.invokestatic 170, 3) := by decide +kernel
theorem dX12_size_548 : decode cX12_size 548 = .ok (.putfield 123, 3) := by decide +kernel
theorem dX12_size_551 : decode cX12_size 551 = .ok (.aload_n 0, 1) := by decide +kernel
theorem dX12_size_552 : decode cX12_size 552 = .ok (.getfield 13, 3) := by decide +kernel
theorem dX12_size_555 : decode cX12_size 555 = .ok (.istore 8, 2) := by decide +kernel
theorem dX12_size_557 : decode cX12_size 557 = .ok (.aload_n 0, 1) := by decide +kernel
theorem dX12_size_558 : decode cX12_size 558 = .ok (.iload_n 1, 1) := by decide +kernel
theorem dX12_size_559 : decode cX12_size 559 = .ok (.putfield 7, 3) := by decide +kernel
theorem dX12_size_562 : decode cX12_size 562 = .ok (.aload_n 0, 1) := by decide +kernel
theorem dX12_size_563 : decode cX12_size 563 = .ok (.iload_n 2, 1) := by decide +kernel
theorem dX12_size_564 : decode cX12_size 564 = .ok (.putfield 13, 3) := by decide +kernel
theorem dX12_size_567 : decode cX12_size 567 = .ok (.aload_n 0, 1) := by decide +kernel
theorem dX12_size_568 : decode cX12_size 568 = .ok (.iconst 0, 1) := by decide +kernel
theorem dX12_size_569 : decode cX12_size 569 = .ok (.putfield 116, 3) := by decide +kernel
theorem dX12_size_572 : decode cX12_size 572 = .ok (.aload_n 0, 1) := by decide +kernel
theorem dX12_size_573 : decode cX12_size 573 = .ok (.aload_n 0, 1) := by decide +kernel
theorem dX12_size_574 : decode cX12_size 574 = .ok (.getfield 7, 3) := by decide +kernel
theorem dX12_size_577 : decode cX12_size 577 = .ok (.iconst 1, 1) := by decide +kernel
theorem dX12_size_578 : decode cX12_size 578 = .ok (.isub, 1) := by decide +kernel
theorem dX12_size_579 : decode cX12_size 579 = .ok (.putfield 30, 3) := by decide +kernel
theorem dX12_size_582 : decode cX12_size 582 = .ok (.aload_n 0, 1) := by decide +kernel
theorem dX12_size_583 : decode cX12_size 583 = .ok (.dup, 1) := by decide +kernel
theorem dX12_size_584 : decode cX12_size 584 = .ok (.getfield 146, 3) := by decide +kernel
theorem dX12_size_587 : decode cX12_size 587 = .ok (.iconst 1, 1) := by decide +kernel
theorem dX12_size_588 : decode cX12_size 588 = .ok (.aload_n 0, 1) := by decide +kernel
theorem dX12_size_589 : decode cX12_size 589 = .ok (.getfield 13, 3) := by decide +kernel
theorem dX12_size_592 : decode cX12_size 592 = .ok (.ishl, 1) := by decide +kernel
theorem dX12_size_593 : decode cX12_size 593 = .ok (.iconst 1, 1) := by decide +kernel
theorem dX12_size_594 : decode cX12_size 594 = .ok (.isub, 1) := by decide +kernel
theorem dX12_size_595 : decode cX12_size 595 = .ok (.iand, 1) := by decide +kernel
theorem dX12_size_596 : decode cX12_size 596 = .ok (.putfield 146, 3) := by decide +kernel
theorem dX12_size_599 : decode cX12_size 599 = .ok (.aload_n 0, 1) := by decide +kernel
theorem dX12_size_600 : decode cX12_size 600 = .ok (.iload 8, 2) := by decide +kernel
theorem dX12_size_602 : decode cX12_size 602 = .ok (.invokevirtual 76, 3) := by decide +kernel
theorem dX12_size_605 : decode cX12_size 605 = .ok (.iconst 0, 1) := by decide +kernel
theorem dX12_size_606 : decode cX12_size 606 = .ok (.istore 9, 2) := by decide +kernel
theorem dX12_size_608 : decode cX12_size 608 = .ok (.iload 9, 2) := by decide +kernel
theorem dX12_size_610 : decode cX12_size 610 = .ok (.sipush 288, 3) := by decide +kernel
theorem dX12_size_613 : decode cX12_size 613 = .ok (.if_icmp .ge 17, 3) := by decide +kernel
theorem dX12_size_616 : decode cX12_size 616 = .ok (.aload_n 0, 1) := by decide +kernel
theorem dX12_size_617 : decode cX12_size 617 = .ok (.getfield 64, 3) := by decide +kernel
theorem dX12_size_620 : decode cX12_size 620 = .ok (.iload 9, 2) := by decide +kernel
theorem dX12_size_622 : decode cX12_size 622 = .ok (.iconst 0, 1) := by decide +kernel
theorem dX12_size_623 : decode cX12_size 623 = .ok (.iastore, 1) := by decide +kernel
theorem dX12_size_624 : decode cX12_size 624 = .ok (.iinc 9 1, 3) := by decide +kernel
theorem dX12_size_627 : decode cX12_size 627 = .ok (.goto (-19), 3) := by decide +kernel
theorem dX12_size_630 : decode cX12_size 630 = .ok (.aload_n 0, 1) := by decide +kernel
theorem dX12_size_631 : decode cX12_size 631 = .ok (.getfield 98, 3) := by decide +kernel
theorem dX12_size_634 : decode cX12_size 634 = .ok (.ireturn, 1) := by decide +kernel
theorem dX12_wide_0 : decode cX12_wide 0 = .ok (.aload_n 0, 1) := by decide +kernel
theorem dX12_wide_1 : decode cX12_wide 1 = .ok (.getfield 16, 3) := by decide +kernel
theorem dX12_wide_4 : decode cX12_wide 4 = .ok (.aload_n 0, 1) := by decide +kernel
theorem dX12_wide_5 : decode cX12_wide 5 = .ok (.iload_n 1, 1) := by decide +kernel
theorem dX12_wide_6 : decode cX12_wide 6 = .ok (.iload_n 2, 1) := by decide +kernel
theorem dX12_wide_7 : decode cX12_wide 7 = .ok (.invokevirtual 90, 3) := by decide +kernel
theorem dX12_wide_10 : decode cX12_wide 10 = .ok (.iaload, 1) := by decide +kernel
theorem dX12_wide_11 : decode cX12_wide 11 = .ok (.invokestatic 377, 3) := by decide +kernel
theorem dX12_wide_14 : decode cX12_wide 14 = .ok (.ifCond .eq 7, 3) := by decide +kernel
theorem dX12_wide_17 : decode cX12_wide 17 = .ok (.iconst 2, 1) := by decide +kernel
theorem dX12_wide_18 : decode cX12_wide 18 = .ok (.goto 4, 3) := by decide +kernel
theorem dX12_wide_21 : decode cX12_wide 21 = .ok (.iconst 1, 1) := by decide +kernel
theorem dX12_wide_22 : decode cX12_wide 22 = .ok (.ireturn, 1) := by decide +kernel
theorem dX12_isLike_0 : decode cX12_isLike 0 = .ok (.aload_n 0, 1) := by decide +kernel
theorem dX12_isLike_1 : decode cX12_isLike 1 = .ok (.getfield 16, 3) := by decide +kernel
theorem dX12_isLike_4 : decode cX12_isLike 4 = .ok (.aload_n 0, 1) := by decide +kernel
theorem dX12_isLike_5 : decode cX12_isLike 5 = .ok (.iload_n 1, 1) := by decide +kernel
theorem dX12_isLike_6 : decode cX12_isLike 6 = .ok (.iload_n 2, 1) := by decide +kernel
theorem dX12_isLike_7 : decode cX12_isLike 7 = .ok (.invokevirtual 90, 3) := by decide +kernel
theorem dX12_isLike_10 : decode cX12_isLike 10 = .ok (.iaload, 1) := by decide +kernel
theorem dX12_isLike_11 : decode cX12_isLike 11 = .ok (.aload_n 0, 1) := by decide +kernel
theorem dX12_isLike_12 : decode cX12_isLike 12 = .ok (.getfield 64, 3) := by decide +kernel
theorem dX12_isLike_15 : decode cX12_isLike 15 = .ok (.bipush 24, 2) := by decide +kernel
theorem dX12_isLike_17 : decode cX12_isLike 17 = .ok (.iload_n 1, 1) := by decide +kernel
theorem dX12_isLike_18 : decode cX12_isLike 18 = .ok (.imul, 1) := by decide +kernel
theorem dX12_isLike_19 : decode cX12_isLike 19 = .ok (.iload_n 2, 1) := by decide +kernel
theorem dX12_isLike_20 : decode cX12_isLike 20 = .ok (.iadd, 1) := by decide +kernel
theorem dX12_isLike_21 : decode cX12_isLike 21 = .ok (.iaload, 1) := by decide +kernel
theorem dX12_isLike_22 : decode cX12_isLike 22 = .ok (.if_icmp .ne 7, 3) := by decide +kernel
theorem dX12_isLike_25 : decode cX12_isLike 25 = .ok (.iconst 1, 1) := by decide +kernel
theorem dX12_isLike_26 : decode cX12_isLike 26 = .ok (.goto 4, 3) := by decide +kernel
theorem dX12_isLike_29 : decode cX12_isLike 29 = .ok (.iconst 0, 1) := by decide +kernel
theorem dX12_isLike_30 : decode cX12_isLike 30 = .ok (.ireturn, 1) := by decide +kernel
theorem dX12_costOf_0 : decode cX12_costOf 0 = .ok (.iconst 0, 1) := by decide +kernel
theorem dX12_costOf_1 : decode cX12_costOf 1 = .ok (.istore_n 2, 1) := by decide +kernel
theorem dX12_costOf_2 : decode cX12_costOf 2 = .ok (.iconst 1, 1) := by decide +kernel
theorem dX12_costOf_3 : decode cX12_costOf 3 = .ok (.istore_n 3, 1) := by decide +kernel
theorem dX12_costOf_4 : decode cX12_costOf 4 = .ok (.iconst 1, 1) := by decide +kernel
theorem dX12_costOf_5 : decode cX12_costOf 5 = .ok (.istore 4, 2) := by decide +kernel
theorem dX12_costOf_7 : decode cX12_costOf 7 = .ok (.iconst 0, 1) := by decide +kernel
theorem dX12_costOf_8 : decode cX12_costOf 8 = .ok (.istore 5, 2) := by decide +kernel
theorem dX12_costOf_10 : decode cX12_costOf 10 = .ok (.iload 5, 2) := by decide +kernel
theorem dX12_costOf_12 : decode cX12_costOf 12 = .ok (.bipush 16, 2) := by decide +kernel
theorem dX12_costOf_14 : decode cX12_costOf 14 = .ok (.if_icmp .ge 25, 3) := by decide +kernel
theorem dX12_costOf_17 : decode cX12_costOf 17 = .ok (.aload_n 0, 1) := by decide +kernel
theorem dX12_costOf_18 : decode cX12_costOf 18 = .ok (.getfield 67, 3) := by decide +kernel
theorem dX12_costOf_21 : decode cX12_costOf 21 = .ok (.bipush 16, 2) := by decide +kernel
theorem dX12_costOf_23 : decode cX12_costOf 23 = .ok (.aload_n 0, 1) := by decide +kernel
theorem dX12_costOf_24 : decode cX12_costOf 24 = .ok (.getfield 13, 3) := by decide +kernel
theorem dX12_costOf_27 : decode cX12_costOf 27 = .ok (.imul, 1) := by decide +kernel
theorem dX12_costOf_28 : decode cX12_costOf 28 = .ok (.iload 5, 2) := by decide +kernel
theorem dX12_costOf_30 : decode cX12_costOf 30 = .ok (.iadd, 1) := by decide +kernel
theorem dX12_costOf_31 : decode cX12_costOf 31 = .ok (.iconst 0, 1) := by decide +kernel
theorem dX12_costOf_32 : decode cX12_costOf 32 = .ok (.iastore, 1) := by decide +kernel
theorem dX12_costOf_33 : decode cX12_costOf 33 = .ok (.iinc 5 1, 3) := by decide +kernel
theorem dX12_costOf_36 : decode cX12_costOf 36 = .ok (.goto (-26), 3) := by decide +kernel
theorem dX12_costOf_39 : decode cX12_costOf 39 = .ok (.aload_n 0, 1) := by decide +kernel
theorem dX12_costOf_40 : decode cX12_costOf 40 = .ok (.getfield 13, 3) := by decide +kernel
theorem dX12_costOf_43 : decode cX12_costOf 43 = .ok (.iconst 1, 1) := by decide +kernel
theorem dX12_costOf_44 : decode cX12_costOf 44 = .ok (.isub, 1) := by decide +kernel
theorem dX12_costOf_45 : decode cX12_costOf 45 = .ok (.istore 5, 2) := by decide +kernel
theorem dX12_costOf_47 : decode cX12_costOf 47 = .ok (.iload 5, 2) := by decide +kernel
theorem dX12_costOf_49 : decode cX12_costOf 49 = .ok (.ifCond .lt 257, 3) := by decide +kernel
theorem dX12_costOf_52 : decode cX12_costOf 52 = .ok (.aload_n 0, 1) := by decide +kernel
theorem dX12_costOf_53 : decode cX12_costOf 53 = .ok (.getfield 16, 3) := by decide +kernel
theorem dX12_costOf_56 : decode cX12_costOf 56 = .ok (.aload_n 0, 1) := by decide +kernel
theorem dX12_costOf_57 : decode cX12_costOf 57 = .ok (.iload_n 1, 1) := by decide +kernel
theorem dX12_costOf_58 : decode cX12_costOf 58 = .ok (.iload 5, 2) := by decide +kernel
theorem dX12_costOf_60 : decode cX12_costOf 60 = .ok (.invokevirtual 90, 3) := by decide +kernel
theorem dX12_costOf_63 : decode cX12_costOf 63 = .ok (.iaload, 1) := by decide +kernel
theorem dX12_costOf_64 : decode cX12_costOf 64 = .ok (.istore 6, 2) := by decide +kernel
theorem dX12_costOf_66 : decode cX12_costOf 66 = .ok (.iload_n 3, 1) := by decide +kernel
theorem dX12_costOf_67 : decode cX12_costOf 67 = .ok (.ifCond .eq 17, 3) := by decide +kernel
theorem dX12_costOf_70 : decode cX12_costOf 70 = .ok (.aload_n 0, 1) := by decide +kernel
theorem dX12_costOf_71 : decode cX12_costOf 71 = .ok (.iload_n 1, 1) := by decide +kernel
theorem dX12_costOf_72 : decode cX12_costOf 72 = .ok (.iload 5, 2) := by decide +kernel
theorem dX12_costOf_74 : decode cX12_costOf 74 = .ok (.invokevirtual 390, 3) := by decide +kernel
theorem dX12_costOf_77 : decode cX12_costOf 77 = .ok (.ifCond .eq 7, 3) := by decide +kernel
theorem dX12_costOf_80 : decode cX12_costOf 80 = .ok (.iconst 1, 1) := by decide +kernel
theorem dX12_costOf_81 : decode cX12_costOf 81 = .ok (.goto 4, 3) := by decide +kernel
theorem dX12_costOf_84 : decode cX12_costOf 84 = .ok (.iconst 0, 1) := by decide +kernel
theorem dX12_costOf_85 : decode cX12_costOf 85 = .ok (.istore_n 3, 1) := by decide +kernel
theorem dX12_costOf_86 : decode cX12_costOf 86 = .ok (.iload 4, 2) := by decide +kernel
theorem dX12_costOf_88 : decode cX12_costOf 88 = .ok (.ifCond .eq 12, 3) := by decide +kernel
theorem dX12_costOf_91 : decode cX12_costOf 91 = .ok (.iload 6, 2) := by decide +kernel
theorem dX12_costOf_93 : decode cX12_costOf 93 = .ok (.ifCond .ne 7, 3) := by decide +kernel
theorem dX12_costOf_96 : decode cX12_costOf 96 = .ok (.iconst 1, 1) := by decide +kernel
theorem dX12_costOf_97 : decode cX12_costOf 97 = .ok (.goto 4, 3) := by decide +kernel
theorem dX12_costOf_100 : decode cX12_costOf 100 = .ok (.iconst 0, 1) := by decide +kernel
theorem dX12_costOf_101 : decode cX12_costOf 101 = .ok (.istore 4, 2) := by decide +kernel
theorem dX12_costOf_103 : decode cX12_costOf 103 = .ok (.iconst 0, 1) := by decide +kernel
theorem dX12_costOf_104 : decode cX12_costOf 104 = .ok (.istore 7, 2) := by decide +kernel
theorem dX12_costOf_106 : decode cX12_costOf 106 = .ok (.iload 7, 2) := by decide +kernel
theorem dX12_costOf_108 : decode cX12_costOf 108 = .ok (.bipush 16, 2) := by decide +kernel
theorem dX12_costOf_110 : decode cX12_costOf 110 = .ok (.if_icmp .ge 190, 3) := by decide +kernel
theorem dX12_costOf_113 : decode cX12_costOf 113 = .ok (.iload 6, 2) := by decide +kernel
theorem dX12_costOf_115 : decode cX12_costOf 115 = .ok (.bipush (-2), 2) := by decide +kernel
theorem dX12_costOf_117 : decode cX12_costOf 117 = .ok (.if_icmp .eq 183, 3) := by decide +kernel
theorem dX12_costOf_120 : decode cX12_costOf 120 = .ok (.iload 6, 2) := by decide +kernel
theorem dX12_costOf_122 : decode cX12_costOf 122 = .ok (.ldc 145, 2) := by decide +kernel
theorem dX12_costOf_124 : decode cX12_costOf 124 = .ok (.irem, 1) := by decide +kernel
theorem dX12_costOf_125 : decode cX12_costOf 125 = .ok (.sipush 1000, 3) := by decide +kernel
theorem dX12_costOf_128 : decode cX12_costOf 128 = .ok (.idiv, 1) := by decide +kernel
theorem dX12_costOf_129 : decode cX12_costOf 129 = .ok (.istore 8, 2) := by decide +kernel
theorem dX12_costOf_131 : decode cX12_costOf 131 = .ok (.iconst 1, 1) := by decide +kernel
theorem dX12_costOf_132 : decode cX12_costOf 132 = .ok (.iload 6, 2) := by decide +kernel
theorem dX12_costOf_134 : decode cX12_costOf 134 = .ok (.ldc 145, 2) := by decide +kernel
theorem dX12_costOf_136 : decode cX12_costOf 136 = .ok (.idiv, 1) := by decide +kernel
theorem dX12_costOf_137 : decode cX12_costOf 137 = .ok (.iadd, 1) := by decide +kernel
theorem dX12_costOf_138 : decode cX12_costOf 138 = .ok (.iload 8, 2) := by decide +kernel
theorem dX12_costOf_140 : decode cX12_costOf 140 = .ok (.iload 7, 2) := by decide +kernel
theorem dX12_costOf_142 : decode cX12_costOf 142 = .ok (.if_icmp .ne 7, 3) := by decide +kernel
theorem dX12_costOf_145 : decode cX12_costOf 145 = .ok (.iconst 0, 1) := by decide +kernel
theorem dX12_costOf_146 : decode cX12_costOf 146 = .ok (.goto 4, 3) := by decide +kernel
theorem dX12_costOf_149 : decode cX12_costOf 149 = .ok (.iconst 4, 1) := by decide +kernel
theorem dX12_costOf_150 : decode cX12_costOf 150 = .ok (.iadd, 1) := by decide +kernel
theorem dX12_costOf_151 : decode cX12_costOf 151 = .ok (.aload_n 0, 1) := by decide +kernel
theorem dX12_costOf_152 : decode cX12_costOf 152 = .ok (.getfield 67, 3) := by decide +kernel
theorem dX12_costOf_155 : decode cX12_costOf 155 = .ok (.bipush 16, 2) := by decide +kernel
theorem dX12_costOf_157 : decode cX12_costOf 157 = .ok (.iload 5, 2) := by decide +kernel
theorem dX12_costOf_159 : decode cX12_costOf 159 = .ok (.aload_n 0, 1) := by decide +kernel
theorem dX12_costOf_160 : decode cX12_costOf 160 = .ok (.iload_n 1, 1) := by decide +kernel
theorem dX12_costOf_161 : decode cX12_costOf 161 = .ok (.iload 5, 2) := by decide +kernel
theorem dX12_costOf_163 : decode cX12_costOf 163 = .ok (.invokevirtual 393, 3) := by decide +kernel
theorem dX12_costOf_166 : decode cX12_costOf 166 = .ok (.iadd, 1) := by decide +kernel
theorem dX12_costOf_167 : decode cX12_costOf 167 = .ok (.imul, 1) := by decide +kernel
theorem dX12_costOf_168 : decode cX12_costOf 168 = .ok (.iload 8, 2) := by decide +kernel
theorem dX12_costOf_170 : decode cX12_costOf 170 = .ok (.iadd, 1) := by decide +kernel
theorem dX12_costOf_171 : decode cX12_costOf 171 = .ok (.iaload, 1) := by decide +kernel
theorem dX12_costOf_172 : decode cX12_costOf 172 = .ok (.iadd, 1) := by decide +kernel
theorem dX12_costOf_173 : decode cX12_costOf 173 = .ok (.istore 9, 2) := by decide +kernel
theorem dX12_costOf_175 : decode cX12_costOf 175 = .ok (.iload 4, 2) := by decide +kernel
theorem dX12_costOf_177 : decode cX12_costOf 177 = .ok (.ifCond .eq 13, 3) := by decide +kernel
theorem dX12_costOf_180 : decode cX12_costOf 180 = .ok (.iload 9, 2) := by decide +kernel
theorem dX12_costOf_182 : decode cX12_costOf 182 = .ok (.iconst 3, 1) := by decide +kernel
theorem dX12_costOf_183 : decode cX12_costOf 183 = .ok (.if_icmp .le 7, 3) := by decide +kernel
theorem dX12_costOf_186 : decode cX12_costOf 186 = .ok (.iconst 3, 1) := by decide +kernel
theorem dX12_costOf_187 : decode cX12_costOf 187 = .ok (.goto 5, 3) := by decide +kernel
theorem dX12_costOf_190 : decode cX12_costOf 190 = .ok (.iload 9, 2) := by decide +kernel
theorem dX12_costOf_192 : decode cX12_costOf 192 = .ok (.istore 9, 2) := by decide +kernel
theorem dX12_costOf_194 : decode cX12_costOf 194 = .ok (.iload 5, 2) := by decide +kernel
theorem dX12_costOf_196 : decode cX12_costOf 196 = .ok (.istore 10, 2) := by decide +kernel
theorem dX12_costOf_198 : decode cX12_costOf 198 = .ok (.iload 10, 2) := by decide +kernel
theorem dX12_costOf_200 : decode cX12_costOf 200 = .ok (.aload_n 0, 1) := by decide +kernel
theorem dX12_costOf_201 : decode cX12_costOf 201 = .ok (.getfield 13, 3) := by decide +kernel
theorem dX12_costOf_204 : decode cX12_costOf 204 = .ok (.if_icmp .ge 67, 3) := by decide +kernel
theorem dX12_costOf_207 : decode cX12_costOf 207 = .ok (.aload_n 0, 1) := by decide +kernel
theorem dX12_costOf_208 : decode cX12_costOf 208 = .ok (.iload_n 1, 1) := by decide +kernel
theorem dX12_costOf_209 : decode cX12_costOf 209 = .ok (.iload 10, 2) := by decide +kernel
theorem dX12_costOf_211 : decode cX12_costOf 211 = .ok (.invokevirtual 390, 3) := by decide +kernel
theorem dX12_costOf_214 : decode cX12_costOf 214 = .ok (.ifCond .eq 57, 3) := by decide +kernel
theorem dX12_costOf_217 : decode cX12_costOf 217 = .ok (.iinc 10 1, 3) := by decide +kernel
theorem dX12_costOf_220 : decode cX12_costOf 220 = .ok (.iload 10, 2) := by decide +kernel
theorem dX12_costOf_222 : decode cX12_costOf 222 = .ok (.aload_n 0, 1) := by decide +kernel
theorem dX12_costOf_223 : decode cX12_costOf 223 = .ok (.getfield 13, 3) := by decide +kernel
theorem dX12_costOf_226 : decode cX12_costOf 226 = .ok (.if_icmp .ge (-28), 3) := by decide +kernel
theorem dX12_costOf_229 : decode cX12_costOf 229 = .ok (.aload_n 0, 1) := by decide +kernel
theorem dX12_costOf_230 : decode cX12_costOf 230 = .ok (.getfield 16, 3) := by decide +kernel
theorem dX12_costOf_233 : decode cX12_costOf 233 = .ok (.aload_n 0, 1) := by decide +kernel
theorem dX12_costOf_234 : decode cX12_costOf 234 = .ok (.iload_n 1, 1) := by decide +kernel
theorem dX12_costOf_235 : decode cX12_costOf 235 = .ok (.iload 10, 2) := by decide +kernel
theorem dX12_costOf_237 : decode cX12_costOf 237 = .ok (.invokevirtual 90, 3) := by decide +kernel
theorem dX12_costOf_240 : decode cX12_costOf 240 = .ok (.iaload, 1) := by decide +kernel
theorem dX12_costOf_241 : decode cX12_costOf 241 = .ok (.bipush (-2), 2) := by decide +kernel
theorem dX12_costOf_243 : decode cX12_costOf 243 = .ok (.if_icmp .eq (-45), 3) := by decide +kernel
theorem dX12_costOf_246 : decode cX12_costOf 246 = .ok (.iload 9, 2) := by decide +kernel
theorem dX12_costOf_248 : decode cX12_costOf 248 = .ok (.iconst 4, 1) := by decide +kernel
theorem dX12_costOf_249 : decode cX12_costOf 249 = .ok (.aload_n 0, 1) := by decide +kernel
theorem dX12_costOf_250 : decode cX12_costOf 250 = .ok (.getfield 67, 3) := by decide +kernel
theorem dX12_costOf_253 : decode cX12_costOf 253 = .ok (.bipush 16, 2) := by decide +kernel
theorem dX12_costOf_255 : decode cX12_costOf 255 = .ok (.iload 10, 2) := by decide +kernel
theorem dX12_costOf_257 : decode cX12_costOf 257 = .ok (.imul, 1) := by decide +kernel
theorem dX12_costOf_258 : decode cX12_costOf 258 = .ok (.iload 7, 2) := by decide +kernel
theorem dX12_costOf_260 : decode cX12_costOf 260 = .ok (.iadd, 1) := by decide +kernel
theorem dX12_costOf_261 : decode cX12_costOf 261 = .ok (.iaload, 1) := by decide +kernel
theorem dX12_costOf_262 : decode cX12_costOf 262 = .ok (.iadd, 1) := by decide +kernel
theorem dX12_costOf_263 : decode cX12_costOf 263 = .ok (.invokestatic 170, 3) := by decide +kernel
theorem dX12_costOf_266 : decode cX12_costOf 266 = .ok (.istore 9, 2) := by decide +kernel
theorem dX12_costOf_268 : decode cX12_costOf 268 = .ok (.goto (-70), 3) := by decide +kernel
theorem dX12_costOf_271 : decode cX12_costOf 271 = .ok (.aload_n 0, 1) := by decide +kernel
theorem dX12_costOf_272 : decode cX12_costOf 272 = .ok (.getfield 67, 3) := by decide +kernel
theorem dX12_costOf_275 : decode cX12_costOf 275 = .ok (.bipush 16, 2) := by decide +kernel
theorem dX12_costOf_277 : decode cX12_costOf 277 = .ok (.iload 5, 2) := by decide +kernel
theorem dX12_costOf_279 : decode cX12_costOf 279 = .ok (.imul, 1) := by decide +kernel
theorem dX12_costOf_280 : decode cX12_costOf 280 = .ok (.iload 7, 2) := by decide +kernel
theorem dX12_costOf_282 : decode cX12_costOf 282 = .ok (.iadd, 1) := by decide +kernel
theorem dX12_costOf_283 : decode cX12_costOf 283 = .ok (.iload_n 3, 1) := by decide +kernel
theorem dX12_costOf_284 : decode cX12_costOf 284 = .ok (.ifCond .eq 7, 3) := by decide +kernel
theorem dX12_costOf_287 : decode cX12_costOf 287 = .ok (.iconst 0, 1) := by decide +kernel
theorem dX12_costOf_288 : decode cX12_costOf 288 = .ok (.goto 5, 3) := by decide +kernel
theorem dX12_costOf_291 : decode cX12_costOf 291 = .ok (.iload 9, 2) := by decide +kernel
theorem dX12_costOf_293 : decode cX12_costOf 293 = .ok (.iastore, 1) := by decide +kernel
theorem dX12_costOf_294 : decode cX12_costOf 294 = .ok (.iinc 7 1, 3) := by decide +kernel
theorem dX12_costOf_297 : decode cX12_costOf 297 = .ok (.goto (-191), 3) := by decide +kernel
theorem dX12_costOf_300 : decode cX12_costOf 300 = .ok (.iinc 5 (-1), 3) := by decide +kernel
theorem dX12_costOf_303 : decode cX12_costOf 303 = .ok (.goto (-256), 3) := by decide +kernel
theorem dX12_costOf_306 : decode cX12_costOf 306 = .ok (.iload_n 3, 1) := by decide +kernel
theorem dX12_costOf_307 : decode cX12_costOf 307 = .ok (.ifCond .ne 72, 3) := by decide +kernel
theorem dX12_costOf_310 : decode cX12_costOf 310 = .ok (.ldc_w 396, 3) := by decide +kernel
theorem dX12_costOf_313 : decode cX12_costOf 313 = .ok (.istore_n 2, 1) := by decide +kernel
theorem dX12_costOf_314 : decode cX12_costOf 314 = .ok (.iconst 0, 1) := by decide +kernel
theorem dX12_costOf_315 : decode cX12_costOf 315 = .ok (.istore 5, 2) := by decide +kernel
theorem dX12_costOf_317 : decode cX12_costOf 317 = .ok (.iconst 1, 1) := by decide +kernel
theorem dX12_costOf_318 : decode cX12_costOf 318 = .ok (.istore 6, 2) := by decide +kernel
theorem dX12_costOf_320 : decode cX12_costOf 320 = .ok (.iload 6, 2) := by decide +kernel
theorem dX12_costOf_322 : decode cX12_costOf 322 = .ok (.ifCond .eq 57, 3) := by decide +kernel
theorem dX12_costOf_325 : decode cX12_costOf 325 = .ok (.aload_n 0, 1) := by decide +kernel
theorem dX12_costOf_326 : decode cX12_costOf 326 = .ok (.getfield 16, 3) := by decide +kernel
theorem dX12_costOf_329 : decode cX12_costOf 329 = .ok (.aload_n 0, 1) := by decide +kernel
theorem dX12_costOf_330 : decode cX12_costOf 330 = .ok (.iload_n 1, 1) := by decide +kernel
theorem dX12_costOf_331 : decode cX12_costOf 331 = .ok (.iload 5, 2) := by decide +kernel
theorem dX12_costOf_333 : decode cX12_costOf 333 = .ok (.invokevirtual 90, 3) := by decide +kernel
theorem dX12_costOf_336 : decode cX12_costOf 336 = .ok (.iaload, 1) := by decide +kernel
theorem dX12_costOf_337 : decode cX12_costOf 337 = .ok (.bipush (-2), 2) := by decide +kernel
theorem dX12_costOf_339 : decode cX12_costOf 339 = .ok (.if_icmp .ne 7, 3) := by decide +kernel
theorem dX12_costOf_342 : decode cX12_costOf 342 = .ok (.iload_n 2, 1) := by decide +kernel
theorem dX12_costOf_343 : decode cX12_costOf 343 = .ok (.goto 20, 3) := by decide +kernel
theorem dX12_costOf_346 : decode cX12_costOf 346 = .ok (.iload_n 2, 1) := by decide +kernel
theorem dX12_costOf_347 : decode cX12_costOf 347 = .ok (.bipush 6, 2) := by decide +kernel
theorem dX12_costOf_349 : decode cX12_costOf 349 = .ok (.aload_n 0, 1) := by decide +kernel
theorem dX12_costOf_350 : decode cX12_costOf 350 = .ok (.getfield 67, 3) := by decide +kernel
theorem dX12_costOf_353 : decode cX12_costOf 353 = .ok (.bipush 16, 2) := by decide +kernel
theorem dX12_costOf_355 : decode cX12_costOf 355 = .ok (.iload 5, 2) := by decide +kernel
theorem dX12_costOf_357 : decode cX12_costOf 357 = .ok (.imul, 1) := by decide +kernel
theorem dX12_costOf_358 : decode cX12_costOf 358 = .ok (.iaload, 1) := by decide +kernel
theorem dX12_costOf_359 : decode cX12_costOf 359 = .ok (.iadd, 1) := by decide +kernel
theorem dX12_costOf_360 : decode cX12_costOf 360 = .ok (.invokestatic 170, 3) := by decide +kernel
theorem dX12_costOf_363 : decode cX12_costOf 363 = .ok (.istore_n 2, 1) := by decide +kernel
theorem dX12_costOf_364 : decode cX12_costOf 364 = .ok (.aload_n 0, 1) := by decide +kernel
theorem dX12_costOf_365 : decode cX12_costOf 365 = .ok (.iload_n 1, 1) := by decide +kernel
theorem dX12_costOf_366 : decode cX12_costOf 366 = .ok (.iload 5, 2) := by decide +kernel
theorem dX12_costOf_368 : decode cX12_costOf 368 = .ok (.invokevirtual 390, 3) := by decide +kernel
theorem dX12_costOf_371 : decode cX12_costOf 371 = .ok (.istore 6, 2) := by decide +kernel
theorem dX12_costOf_373 : decode cX12_costOf 373 = .ok (.iinc 5 1, 3) := by decide +kernel
theorem dX12_costOf_376 : decode cX12_costOf 376 = .ok (.goto (-56), 3) := by decide +kernel
theorem dX12_costOf_379 : decode cX12_costOf 379 = .ok (.iload_n 2, 1) := by decide +kernel
theorem dX12_costOf_380 : decode cX12_costOf 380 = .ok (.ireturn, 1) := by decide +kernel
theorem dX12_draw_0 : decode cX12_draw 0 = .ok (.aload_n 0, 1) := by decide +kernel
theorem dX12_draw_1 : decode cX12_draw 1 = .ok (.iconst 0, 1) := by decide +kernel
theorem dX12_draw_2 : decode cX12_draw 2 = .ok (.putfield 80, 3) := by decide +kernel
theorem dX12_draw_5 : decode cX12_draw 5 = .ok (.iconst 0, 1) := by decide +kernel
theorem dX12_draw_6 : decode cX12_draw 6 = .ok (.istore_n 1, 1) := by decide +kernel
theorem dX12_draw_7 : decode cX12_draw 7 = .ok (.iconst 0, 1) := by decide +kernel
theorem dX12_draw_8 : decode cX12_draw 8 = .ok (.istore_n 2, 1) := by decide +kernel
theorem dX12_draw_9 : decode cX12_draw 9 = .ok (.iload_n 2, 1) := by decide +kernel
theorem dX12_draw_10 : decode cX12_draw 10 = .ok (.aload_n 0, 1) := by decide +kernel
theorem dX12_draw_11 : decode cX12_draw 11 = .ok (.getfield 7, 3) := by decide +kernel
theorem dX12_draw_14 : decode cX12_draw 14 = .ok (.if_icmp .ge 17, 3) := by decide +kernel
theorem dX12_draw_17 : decode cX12_draw 17 = .ok (.iload_n 1, 1) := by decide +kernel
theorem dX12_draw_18 : decode cX12_draw 18 = .ok (.aload_n 0, 1) := by decide +kernel
theorem dX12_draw_19 : decode cX12_draw 19 = .ok (.iload_n 2, 1) := by decide +kernel
theorem dX12_draw_20 : decode cX12_draw 20 = .ok (.invokevirtual 397, 3) := by decide +kernel
theorem dX12_draw_23 : decode cX12_draw 23 = .ok (.iadd, 1) := by decide +kernel
theorem dX12_draw_24 : decode cX12_draw 24 = .ok (.istore_n 1, 1) := by decide +kernel
theorem dX12_draw_25 : decode cX12_draw 25 = .ok (.iinc 2 1, 3) := by decide +kernel
theorem dX12_draw_28 : decode cX12_draw 28 = .ok (.goto (-19), 3) := by decide +kernel
theorem dX12_draw_31 : decode cX12_draw 31 = .ok (.iconst 0, 1) := by decide +kernel
theorem dX12_draw_32 : decode cX12_draw 32 = .ok (.istore_n 2, 1) := by decide +kernel
theorem dX12_draw_33 : decode cX12_draw 33 = .ok (.iload_n 2, 1) := by decide +kernel
theorem dX12_draw_34 : decode cX12_draw 34 = .ok (.aload_n 0, 1) := by decide +kernel
theorem dX12_draw_35 : decode cX12_draw 35 = .ok (.getfield 7, 3) := by decide +kernel
theorem dX12_draw_38 : decode cX12_draw 38 = .ok (.if_icmp .ge 47, 3) := by decide +kernel
theorem dX12_draw_41 : decode cX12_draw 41 = .ok (.iconst 0, 1) := by decide +kernel
theorem dX12_draw_42 : decode cX12_draw 42 = .ok (.istore_n 3, 1) := by decide +kernel
theorem dX12_draw_43 : decode cX12_draw 43 = .ok (.iload_n 3, 1) := by decide +kernel
theorem dX12_draw_44 : decode cX12_draw 44 = .ok (.aload_n 0, 1) := by decide +kernel
theorem dX12_draw_45 : decode cX12_draw 45 = .ok (.getfield 13, 3) := by decide +kernel
theorem dX12_draw_48 : decode cX12_draw 48 = .ok (.if_icmp .ge 31, 3) := by decide +kernel
theorem dX12_draw_51 : decode cX12_draw 51 = .ok (.aload_n 0, 1) := by decide +kernel
theorem dX12_draw_52 : decode cX12_draw 52 = .ok (.getfield 64, 3) := by decide +kernel
theorem dX12_draw_55 : decode cX12_draw 55 = .ok (.bipush 24, 2) := by decide +kernel
theorem dX12_draw_57 : decode cX12_draw 57 = .ok (.iload_n 2, 1) := by decide +kernel
theorem dX12_draw_58 : decode cX12_draw 58 = .ok (.imul, 1) := by decide +kernel
theorem dX12_draw_59 : decode cX12_draw 59 = .ok (.iload_n 3, 1) := by decide +kernel
theorem dX12_draw_60 : decode cX12_draw 60 = .ok (.iadd, 1) := by decide +kernel
theorem dX12_draw_61 : decode cX12_draw 61 = .ok (.aload_n 0, 1) := by decide +kernel
theorem dX12_draw_62 : decode cX12_draw 62 = .ok (.getfield 16, 3) := by decide +kernel
theorem dX12_draw_65 : decode cX12_draw 65 = .ok (.aload_n 0, 1) := by decide +kernel
theorem dX12_draw_66 : decode cX12_draw 66 = .ok (.iload_n 2, 1) := by decide +kernel
theorem dX12_draw_67 : decode cX12_draw 67 = .ok (.iload_n 3, 1) := by decide +kernel
theorem dX12_draw_68 : decode cX12_draw 68 = .ok (.invokevirtual 90, 3) := by decide +kernel
theorem dX12_draw_71 : decode cX12_draw 71 = .ok (.iaload, 1) := by decide +kernel
theorem dX12_draw_72 : decode cX12_draw 72 = .ok (.iastore, 1) := by decide +kernel
theorem dX12_draw_73 : decode cX12_draw 73 = .ok (.iinc 3 1, 3) := by decide +kernel
theorem dX12_draw_76 : decode cX12_draw 76 = .ok (.goto (-33), 3) := by decide +kernel
theorem dX12_draw_79 : decode cX12_draw 79 = .ok (.iinc 2 1, 3) := by decide +kernel
theorem dX12_draw_82 : decode cX12_draw 82 = .ok (.goto (-49), 3) := by decide +kernel
theorem dX12_draw_85 : decode cX12_draw 85 = .ok (.iload_n 1, 1) := by decide +kernel
theorem dX12_draw_86 : decode cX12_draw 86 = .ok (.ireturn, 1) := by decide +kernel
theorem dX12_isCell_0 : decode cX12_isCell 0 = .ok (.iload_n 1, 1) := by decide +kernel
theorem dX12_isCell_1 : decode cX12_isCell 1 = .ok (.iconst 0, 1) := by decide +kernel
theorem dX12_isCell_2 : decode cX12_isCell 2 = .ok (.aload_n 0, 1) := by decide +kernel
theorem dX12_isCell_3 : decode cX12_isCell 3 = .ok (.getfield 7, 3) := by decide +kernel
theorem dX12_isCell_6 : decode cX12_isCell 6 = .ok (.iconst 1, 1) := by decide +kernel
theorem dX12_isCell_7 : decode cX12_isCell 7 = .ok (.isub, 1) := by decide +kernel
theorem dX12_isCell_8 : decode cX12_isCell 8 = .ok (.invokestatic 83, 3) := by decide +kernel
theorem dX12_isCell_11 : decode cX12_isCell 11 = .ok (.ifCond .eq 21, 3) := by decide +kernel
theorem dX12_isCell_14 : decode cX12_isCell 14 = .ok (.iload_n 2, 1) := by decide +kernel
theorem dX12_isCell_15 : decode cX12_isCell 15 = .ok (.iconst 0, 1) := by decide +kernel
theorem dX12_isCell_16 : decode cX12_isCell 16 = .ok (.aload_n 0, 1) := by decide +kernel
theorem dX12_isCell_17 : decode cX12_isCell 17 = .ok (.getfield 13, 3) := by decide +kernel
theorem dX12_isCell_20 : decode cX12_isCell 20 = .ok (.iconst 1, 1) := by decide +kernel
theorem dX12_isCell_21 : decode cX12_isCell 21 = .ok (.isub, 1) := by decide +kernel
theorem dX12_isCell_22 : decode cX12_isCell 22 = .ok (.invokestatic 83, 3) := by decide +kernel
theorem dX12_isCell_25 : decode cX12_isCell 25 = .ok (.ifCond .eq 7, 3) := by decide +kernel
theorem dX12_isCell_28 : decode cX12_isCell 28 = .ok (.iconst 1, 1) := by decide +kernel
theorem dX12_isCell_29 : decode cX12_isCell 29 = .ok (.goto 4, 3) := by decide +kernel
theorem dX12_isCell_32 : decode cX12_isCell 32 = .ok (.iconst 0, 1) := by decide +kernel
theorem dX12_isCell_33 : decode cX12_isCell 33 = .ok (.ireturn, 1) := by decide +kernel
theorem dX12_cell_0 : decode cX12_cell 0 = .ok (.aload_n 0, 1) := by decide +kernel
theorem dX12_cell_1 : decode cX12_cell 1 = .ok (.aload_n 0, 1) := by decide +kernel
theorem dX12_cell_2 : decode cX12_cell 2 = .ok (.iload_n 1, 1) := by decide +kernel
theorem dX12_cell_3 : decode cX12_cell 3 = .ok (.iload_n 2, 1) := by decide +kernel
theorem dX12_cell_4 : decode cX12_cell 4 = .ok (.invokevirtual 357, 3) := by decide +kernel
theorem dX12_cell_7 : decode cX12_cell 7 = .ok (.ifCond .eq 7, 3) := by decide +kernel
theorem dX12_cell_10 : decode cX12_cell 10 = .ok (.iconst 0, 1) := by decide +kernel
theorem dX12_cell_11 : decode cX12_cell 11 = .ok (.goto 4, 3) := by decide +kernel
theorem dX12_cell_14 : decode cX12_cell 14 = .ok (.iconst 1, 1) := by decide +kernel
theorem dX12_cell_15 : decode cX12_cell 15 = .ok (.putfield 80, 3) := by decide +kernel
theorem dX12_cell_18 : decode cX12_cell 18 = .ok (.aload_n 0, 1) := by decide +kernel
theorem dX12_cell_19 : decode cX12_cell 19 = .ok (.getfield 80, 3) := by decide +kernel
theorem dX12_cell_22 : decode cX12_cell 22 = .ok (.ifCond .le 7, 3) := by decide +kernel
theorem dX12_cell_25 : decode cX12_cell 25 = .ok (.iconst 0, 1) := by decide +kernel
theorem dX12_cell_26 : decode cX12_cell 26 = .ok (.goto 14, 3) := by decide +kernel
theorem dX12_cell_29 : decode cX12_cell 29 = .ok (.aload_n 0, 1) := by decide +kernel
theorem dX12_cell_30 : decode cX12_cell 30 = .ok (.getfield 16, 3) := by decide +kernel
theorem dX12_cell_33 : decode cX12_cell 33 = .ok (.aload_n 0, 1) := by decide +kernel
theorem dX12_cell_34 : decode cX12_cell 34 = .ok (.iload_n 1, 1) := by decide +kernel
theorem dX12_cell_35 : decode cX12_cell 35 = .ok (.iload_n 2, 1) := by decide +kernel
theorem dX12_cell_36 : decode cX12_cell 36 = .ok (.invokevirtual 90, 3) := by decide +kernel
theorem dX12_cell_39 : decode cX12_cell 39 = .ok (.iaload, 1) := by decide +kernel
theorem dX12_cell_40 : decode cX12_cell 40 = .ok (.ireturn, 1) := by decide +kernel
theorem dX12_cellAnew_0 : decode cX12_cellAnew 0 = .ok (.aload_n 0, 1) := by decide +kernel
theorem dX12_cellAnew_1 : decode cX12_cellAnew 1 = .ok (.iload_n 1, 1) := by decide +kernel
theorem dX12_cellAnew_2 : decode cX12_cellAnew 2 = .ok (.iload_n 2, 1) := by decide +kernel
theorem dX12_cellAnew_3 : decode cX12_cellAnew 3 = .ok (.invokevirtual 400, 3) := by decide +kernel
theorem dX12_cellAnew_6 : decode cX12_cellAnew 6 = .ok (.ireturn, 1) := by decide +kernel
theorem dX12_past_0 : decode cX12_past 0 = .ok (.aload_n 0, 1) := by decide +kernel
theorem dX12_past_1 : decode cX12_past 1 = .ok (.iload_n 1, 1) := by decide +kernel
theorem dX12_past_2 : decode cX12_past 2 = .ok (.iconst 0, 1) := by decide +kernel
theorem dX12_past_3 : decode cX12_past 3 = .ok (.aload_n 0, 1) := by decide +kernel
theorem dX12_past_4 : decode cX12_past 4 = .ok (.getfield 98, 3) := by decide +kernel
theorem dX12_past_7 : decode cX12_past 7 = .ok (.iconst 1, 1) := by decide +kernel
theorem dX12_past_8 : decode cX12_past 8 = .ok (.isub, 1) := by decide +kernel
theorem dX12_past_9 : decode cX12_past 9 = .ok (.invokestatic 83, 3) := by decide +kernel
theorem dX12_past_12 : decode cX12_past 12 = .ok (.ifCond .eq 21, 3) := by decide +kernel
theorem dX12_past_15 : decode cX12_past 15 = .ok (.iload_n 2, 1) := by decide +kernel
theorem dX12_past_16 : decode cX12_past 16 = .ok (.iconst 0, 1) := by decide +kernel
theorem dX12_past_17 : decode cX12_past 17 = .ok (.aload_n 0, 1) := by decide +kernel
theorem dX12_past_18 : decode cX12_past 18 = .ok (.getfield 13, 3) := by decide +kernel
theorem dX12_past_21 : decode cX12_past 21 = .ok (.iconst 1, 1) := by decide +kernel
theorem dX12_past_22 : decode cX12_past 22 = .ok (.isub, 1) := by decide +kernel
theorem dX12_past_23 : decode cX12_past 23 = .ok (.invokestatic 83, 3) := by decide +kernel
theorem dX12_past_26 : decode cX12_past 26 = .ok (.ifCond .eq 7, 3) := by decide +kernel
theorem dX12_past_29 : decode cX12_past 29 = .ok (.iconst 0, 1) := by decide +kernel
theorem dX12_past_30 : decode cX12_past 30 = .ok (.goto 4, 3) := by decide +kernel
theorem dX12_past_33 : decode cX12_past 33 = .ok (.iconst 1, 1) := by decide +kernel
theorem dX12_past_34 : decode cX12_past 34 = .ok (.putfield 80, 3) := by decide +kernel
theorem dX12_past_37 : decode cX12_past 37 = .ok (.aload_n 0, 1) := by decide +kernel
theorem dX12_past_38 : decode cX12_past 38 = .ok (.getfield 80, 3) := by decide +kernel
theorem dX12_past_41 : decode cX12_past 41 = .ok (.ifCond .le 7, 3) := by decide +kernel
theorem dX12_past_44 : decode cX12_past 44 = .ok (.iconst 0, 1) := by decide +kernel
theorem dX12_past_45 : decode cX12_past 45 = .ok (.goto 14, 3) := by decide +kernel
theorem dX12_past_48 : decode cX12_past 48 = .ok (.aload_n 0, 1) := by decide +kernel
theorem dX12_past_49 : decode cX12_past 49 = .ok (.getfield 24, 3) := by decide +kernel
theorem dX12_past_52 : decode cX12_past 52 = .ok (.bipush 24, 2) := by decide +kernel
theorem dX12_past_54 : decode cX12_past 54 = .ok (.iload_n 1, 1) := by decide +kernel
theorem dX12_past_55 : decode cX12_past 55 = .ok (.imul, 1) := by decide +kernel
theorem dX12_past_56 : decode cX12_past 56 = .ok (.iload_n 2, 1) := by decide +kernel
theorem dX12_past_57 : decode cX12_past 57 = .ok (.iadd, 1) := by decide +kernel
theorem dX12_past_58 : decode cX12_past 58 = .ok (.iaload, 1) := by decide +kernel
theorem dX12_past_59 : decode cX12_past 59 = .ok (.ireturn, 1) := by decide +kernel
theorem dX12_goesOn_0 : decode cX12_goesOn 0 = .ok (.aload_n 0, 1) := by decide +kernel
theorem dX12_goesOn_1 : decode cX12_goesOn 1 = .ok (.iload_n 1, 1) := by decide +kernel
theorem dX12_goesOn_2 : decode cX12_goesOn 2 = .ok (.aload_n 0, 1) := by decide +kernel
theorem dX12_goesOn_3 : decode cX12_goesOn 3 = .ok (.getfield 98, 3) := by decide +kernel
theorem dX12_goesOn_6 : decode cX12_goesOn 6 = .ok (.ineg, 1) := by decide +kernel
theorem dX12_goesOn_7 : decode cX12_goesOn 7 = .ok (.aload_n 0, 1) := by decide +kernel
theorem dX12_goesOn_8 : decode cX12_goesOn 8 = .ok (.getfield 7, 3) := by decide +kernel
theorem dX12_goesOn_11 : decode cX12_goesOn 11 = .ok (.iconst 1, 1) := by decide +kernel
theorem dX12_goesOn_12 : decode cX12_goesOn 12 = .ok (.isub, 1) := by decide +kernel
theorem dX12_goesOn_13 : decode cX12_goesOn 13 = .ok (.invokestatic 83, 3) := by decide +kernel
theorem dX12_goesOn_16 : decode cX12_goesOn 16 = .ok (.ifCond .eq 7, 3) := by decide +kernel
theorem dX12_goesOn_19 : decode cX12_goesOn 19 = .ok (.iconst 0, 1) := by decide +kernel
theorem dX12_goesOn_20 : decode cX12_goesOn 20 = .ok (.goto 4, 3) := by decide +kernel
theorem dX12_goesOn_23 : decode cX12_goesOn 23 = .ok (.iconst 1, 1) := by decide +kernel
theorem dX12_goesOn_24 : decode cX12_goesOn 24 = .ok (.putfield 80, 3) := by decide +kernel
theorem dX12_goesOn_27 : decode cX12_goesOn 27 = .ok (.aload_n 0, 1) := by decide +kernel
theorem dX12_goesOn_28 : decode cX12_goesOn 28 = .ok (.getfield 80, 3) := by decide +kernel
theorem dX12_goesOn_31 : decode cX12_goesOn 31 = .ok (.ifCond .ne 45, 3) := by decide +kernel
theorem dX12_goesOn_34 : decode cX12_goesOn 34 = .ok (.iload_n 1, 1) := by decide +kernel
theorem dX12_goesOn_35 : decode cX12_goesOn 35 = .ok (.ifCond .ge 20, 3) := by decide +kernel
theorem dX12_goesOn_38 : decode cX12_goesOn 38 = .ok (.aload_n 0, 1) := by decide +kernel
theorem dX12_goesOn_39 : decode cX12_goesOn 39 = .ok (.getfield 27, 3) := by decide +kernel
theorem dX12_goesOn_42 : decode cX12_goesOn 42 = .ok (.aload_n 0, 1) := by decide +kernel
theorem dX12_goesOn_43 : decode cX12_goesOn 43 = .ok (.getfield 98, 3) := by decide +kernel
theorem dX12_goesOn_46 : decode cX12_goesOn 46 = .ok (.iload_n 1, 1) := by decide +kernel
theorem dX12_goesOn_47 : decode cX12_goesOn 47 = .ok (.iadd, 1) := by decide +kernel
theorem dX12_goesOn_48 : decode cX12_goesOn 48 = .ok (.baload, 1) := by decide +kernel
theorem dX12_goesOn_49 : decode cX12_goesOn 49 = .ok (.ifCond .eq 27, 3) := by decide +kernel
theorem dX12_goesOn_52 : decode cX12_goesOn 52 = .ok (.goto 20, 3) := by decide +kernel
theorem dX12_goesOn_55 : decode cX12_goesOn 55 = .ok (.aload_n 0, 1) := by decide +kernel
theorem dX12_goesOn_56 : decode cX12_goesOn 56 = .ok (.getfield 20, 3) := by decide +kernel
theorem dX12_goesOn_59 : decode cX12_goesOn 59 = .ok (.bipush 12, 2) := by decide +kernel
theorem dX12_goesOn_61 : decode cX12_goesOn 61 = .ok (.aload_n 0, 1) := by decide +kernel
theorem dX12_goesOn_62 : decode cX12_goesOn 62 = .ok (.getfield 87, 3) := by decide +kernel
theorem dX12_goesOn_65 : decode cX12_goesOn 65 = .ok (.imul, 1) := by decide +kernel
theorem dX12_goesOn_66 : decode cX12_goesOn 66 = .ok (.iload_n 1, 1) := by decide +kernel
theorem dX12_goesOn_67 : decode cX12_goesOn 67 = .ok (.iadd, 1) := by decide +kernel
theorem dX12_goesOn_68 : decode cX12_goesOn 68 = .ok (.baload, 1) := by decide +kernel
theorem dX12_goesOn_69 : decode cX12_goesOn 69 = .ok (.ifCond .eq 7, 3) := by decide +kernel
theorem dX12_goesOn_72 : decode cX12_goesOn 72 = .ok (.iconst 1, 1) := by decide +kernel
theorem dX12_goesOn_73 : decode cX12_goesOn 73 = .ok (.goto 4, 3) := by decide +kernel
theorem dX12_goesOn_76 : decode cX12_goesOn 76 = .ok (.iconst 0, 1) := by decide +kernel
theorem dX12_goesOn_77 : decode cX12_goesOn 77 = .ok (.ireturn, 1) := by decide +kernel
theorem dX12_title_0 : decode cX12_title 0 = .ok (.aload_n 0, 1) := by decide +kernel
theorem dX12_title_1 : decode cX12_title 1 = .ok (.iload_n 1, 1) := by decide +kernel
theorem dX12_title_2 : decode cX12_title 2 = .ok (.iconst 0, 1) := by decide +kernel
theorem dX12_title_3 : decode cX12_title 3 = .ok (.aload_n 0, 1) := by decide +kernel
theorem dX12_title_4 : decode cX12_title 4 = .ok (.getfield 229, 3) := by decide +kernel
theorem dX12_title_7 : decode cX12_title 7 = .ok (.iconst 1, 1) := by decide +kernel
theorem dX12_title_8 : decode cX12_title 8 = .ok (.isub, 1) := by decide +kernel
theorem dX12_title_9 : decode cX12_title 9 = .ok (.invokestatic 83, 3) := by decide +kernel
theorem dX12_title_12 : decode cX12_title 12 = .ok (.ifCond .eq 7, 3) := by decide +kernel
theorem dX12_title_15 : decode cX12_title 15 = .ok (.iconst 0, 1) := by decide +kernel
theorem dX12_title_16 : decode cX12_title 16 = .ok (.goto 4, 3) := by decide +kernel
theorem dX12_title_19 : decode cX12_title 19 = .ok (.iconst 1, 1) := by decide +kernel
theorem dX12_title_20 : decode cX12_title 20 = .ok (.putfield 80, 3) := by decide +kernel
theorem dX12_title_23 : decode cX12_title 23 = .ok (.aload_n 0, 1) := by decide +kernel
theorem dX12_title_24 : decode cX12_title 24 = .ok (.getfield 80, 3) := by decide +kernel
theorem dX12_title_27 : decode cX12_title 27 = .ok (.ifCond .le 7, 3) := by decide +kernel
theorem dX12_title_30 : decode cX12_title 30 = .ok (.iconst 0, 1) := by decide +kernel
theorem dX12_title_31 : decode cX12_title 31 = .ok (.goto 9, 3) := by decide +kernel
theorem dX12_title_34 : decode cX12_title 34 = .ok (.aload_n 0, 1) := by decide +kernel
theorem dX12_title_35 : decode cX12_title 35 = .ok (.getfield 46, 3) := by decide +kernel
theorem dX12_title_38 : decode cX12_title 38 = .ok (.iload_n 1, 1) := by decide +kernel
theorem dX12_title_39 : decode cX12_title 39 = .ok (.iaload, 1) := by decide +kernel
theorem dX12_title_40 : decode cX12_title 40 = .ok (.ireturn, 1) := by decide +kernel
theorem dX12_least_0 : decode cX12_least 0 = .ok (.aload_n 0, 1) := by decide +kernel
theorem dX12_least_1 : decode cX12_least 1 = .ok (.iload_n 1, 1) := by decide +kernel
theorem dX12_least_2 : decode cX12_least 2 = .ok (.iconst 0, 1) := by decide +kernel
theorem dX12_least_3 : decode cX12_least 3 = .ok (.aload_n 0, 1) := by decide +kernel
theorem dX12_least_4 : decode cX12_least 4 = .ok (.getfield 7, 3) := by decide +kernel
theorem dX12_least_7 : decode cX12_least 7 = .ok (.iconst 1, 1) := by decide +kernel
theorem dX12_least_8 : decode cX12_least 8 = .ok (.isub, 1) := by decide +kernel
theorem dX12_least_9 : decode cX12_least 9 = .ok (.invokestatic 83, 3) := by decide +kernel
theorem dX12_least_12 : decode cX12_least 12 = .ok (.ifCond .eq 7, 3) := by decide +kernel
theorem dX12_least_15 : decode cX12_least 15 = .ok (.iconst 0, 1) := by decide +kernel
theorem dX12_least_16 : decode cX12_least 16 = .ok (.goto 4, 3) := by decide +kernel
theorem dX12_least_19 : decode cX12_least 19 = .ok (.iconst 1, 1) := by decide +kernel
theorem dX12_least_20 : decode cX12_least 20 = .ok (.putfield 80, 3) := by decide +kernel
theorem dX12_least_23 : decode cX12_least 23 = .ok (.aload_n 0, 1) := by decide +kernel
theorem dX12_least_24 : decode cX12_least 24 = .ok (.getfield 80, 3) := by decide +kernel
theorem dX12_least_27 : decode cX12_least 27 = .ok (.ifCond .le 7, 3) := by decide +kernel
theorem dX12_least_30 : decode cX12_least 30 = .ok (.iconst 0, 1) := by decide +kernel
theorem dX12_least_31 : decode cX12_least 31 = .ok (.goto 8, 3) := by decide +kernel
theorem dX12_least_34 : decode cX12_least 34 = .ok (.aload_n 0, 1) := by decide +kernel
theorem dX12_least_35 : decode cX12_least 35 = .ok (.iload_n 1, 1) := by decide +kernel
theorem dX12_least_36 : decode cX12_least 36 = .ok (.invokevirtual 397, 3) := by decide +kernel
theorem dX12_least_39 : decode cX12_least 39 = .ok (.ireturn, 1) := by decide +kernel
theorem dX12_told_0 : decode cX12_told 0 = .ok (.aload_n 0, 1) := by decide +kernel
theorem dX12_told_1 : decode cX12_told 1 = .ok (.iconst 0, 1) := by decide +kernel
theorem dX12_told_2 : decode cX12_told 2 = .ok (.putfield 80, 3) := by decide +kernel
theorem dX12_told_5 : decode cX12_told 5 = .ok (.iload_n 1, 1) := by decide +kernel
theorem dX12_told_6 : decode cX12_told 6 = .ok (.tableswitch 112 0 9 #[54, 59, 64, 77, 82, 87, 92, 97, 102, 107], 54) := by decide +kernel
theorem dX12_told_60 : decode cX12_told 60 = .ok (.aload_n 0, 1) := by decide +kernel
theorem dX12_told_61 : decode cX12_told 61 = .ok (.getfield 113, 3) := by decide +kernel
theorem dX12_told_64 : decode cX12_told 64 = .ok (.ireturn, 1) := by decide +kernel
theorem dX12_told_65 : decode cX12_told 65 = .ok (.aload_n 0, 1) := by decide +kernel
theorem dX12_told_66 : decode cX12_told 66 = .ok (.getfield 123, 3) := by decide +kernel
theorem dX12_told_69 : decode cX12_told 69 = .ok (.ireturn, 1) := by decide +kernel
theorem dX12_told_70 : decode cX12_told 70 = .ok (.aload_n 0, 1) := by decide +kernel
theorem dX12_told_71 : decode cX12_told 71 = .ok (.getfield 126, 3) := by decide +kernel
theorem dX12_told_74 : decode cX12_told 74 = .ok (.ifCond .eq 7, 3) := by decide +kernel
theorem dX12_told_77 : decode cX12_told 77 = .ok (.iconst 1, 1) := by decide +kernel
theorem dX12_told_78 : decode cX12_told 78 = .ok (.goto 4, 3) := by decide +kernel
theorem dX12_told_81 : decode cX12_told 81 = .ok (.iconst 0, 1) := by decide +kernel
theorem dX12_told_82 : decode cX12_told 82 = .ok (.ireturn, 1) := by decide +kernel
theorem dX12_told_83 : decode cX12_told 83 = .ok (.aload_n 0, 1) := by decide +kernel
theorem dX12_told_84 : decode cX12_told 84 = .ok (.getfield 192, 3) := by decide +kernel
theorem dX12_told_87 : decode cX12_told 87 = .ok (.ireturn, 1) := by decide +kernel
theorem dX12_told_88 : decode cX12_told 88 = .ok (.aload_n 0, 1) := by decide +kernel
theorem dX12_told_89 : decode cX12_told 89 = .ok (.getfield 142, 3) := by decide +kernel
theorem dX12_told_92 : decode cX12_told 92 = .ok (.ireturn, 1) := by decide +kernel
theorem dX12_told_93 : decode cX12_told 93 = .ok (.aload_n 0, 1) := by decide +kernel
theorem dX12_told_94 : decode cX12_told 94 = .ok (.getfield 116, 3) := by decide +kernel
theorem dX12_told_97 : decode cX12_told 97 = .ok (.ireturn, 1) := by decide +kernel
theorem dX12_told_98 : decode cX12_told 98 = .ok (.aload_n 0, 1) := by decide +kernel
theorem dX12_told_99 : decode cX12_told 99 = .ok (.getfield 30, 3) := by decide +kernel
theorem dX12_told_102 : decode cX12_told 102 = .ok (.ireturn, 1) := by decide +kernel
theorem dX12_told_103 : decode cX12_told 103 = .ok (.aload_n 0, 1) := by decide +kernel
theorem dX12_told_104 : decode cX12_told 104 = .ok (.getfield 7, 3) := by decide +kernel
theorem dX12_told_107 : decode cX12_told 107 = .ok (.ireturn, 1) := by decide +kernel
theorem dX12_told_108 : decode cX12_told 108 = .ok (.aload_n 0, 1) := by decide +kernel
theorem dX12_told_109 : decode cX12_told 109 = .ok (.getfield 13, 3) := by decide +kernel
theorem dX12_told_112 : decode cX12_told 112 = .ok (.ireturn, 1) := by decide +kernel
theorem dX12_told_113 : decode cX12_told 113 = .ok (.aload_n 0, 1) := by decide +kernel
theorem dX12_told_114 : decode cX12_told 114 = .ok (.getfield 98, 3) := by decide +kernel
theorem dX12_told_117 : decode cX12_told 117 = .ok (.ireturn, 1) := by decide +kernel
theorem dX12_told_118 : decode cX12_told 118 = .ok (.aload_n 0, 1) := by decide +kernel
theorem dX12_told_119 : decode cX12_told 119 = .ok (.iload_n 1, 1) := by decide +kernel
theorem dX12_told_120 : decode cX12_told 120 = .ok (.invokevirtual 403, 3) := by decide +kernel
theorem dX12_told_123 : decode cX12_told 123 = .ok (.ireturn, 1) := by decide +kernel
theorem dX12_toldMore_0 : decode cX12_toldMore 0 = .ok (.iload_n 1, 1) := by decide +kernel
theorem dX12_toldMore_1 : decode cX12_toldMore 1 = .ok (.tableswitch 130 10 20 #[59, 64, 69, 82, 87, 92, 97, 102, 107, 120, 125], 59) := by decide +kernel
theorem dX12_toldMore_60 : decode cX12_toldMore 60 = .ok (.aload_n 0, 1) := by decide +kernel
theorem dX12_toldMore_61 : decode cX12_toldMore 61 = .ok (.getfield 185, 3) := by decide +kernel
theorem dX12_toldMore_64 : decode cX12_toldMore 64 = .ok (.ireturn, 1) := by decide +kernel
theorem dX12_toldMore_65 : decode cX12_toldMore 65 = .ok (.aload_n 0, 1) := by decide +kernel
theorem dX12_toldMore_66 : decode cX12_toldMore 66 = .ok (.getfield 87, 3) := by decide +kernel
theorem dX12_toldMore_69 : decode cX12_toldMore 69 = .ok (.ireturn, 1) := by decide +kernel
theorem dX12_toldMore_70 : decode cX12_toldMore 70 = .ok (.aload_n 0, 1) := by decide +kernel
theorem dX12_toldMore_71 : decode cX12_toldMore 71 = .ok (.getfield 293, 3) := by decide +kernel
theorem dX12_toldMore_74 : decode cX12_toldMore 74 = .ok (.ifCond .eq 7, 3) := by decide +kernel
theorem dX12_toldMore_77 : decode cX12_toldMore 77 = .ok (.iconst 1, 1) := by decide +kernel
theorem dX12_toldMore_78 : decode cX12_toldMore 78 = .ok (.goto 4, 3) := by decide +kernel
theorem dX12_toldMore_81 : decode cX12_toldMore 81 = .ok (.iconst 0, 1) := by decide +kernel
theorem dX12_toldMore_82 : decode cX12_toldMore 82 = .ok (.ireturn, 1) := by decide +kernel
theorem dX12_toldMore_83 : decode cX12_toldMore 83 = .ok (.aload_n 0, 1) := by decide +kernel
theorem dX12_toldMore_84 : decode cX12_toldMore 84 = .ok (.getfield 299, 3) := by decide +kernel
theorem dX12_toldMore_87 : decode cX12_toldMore 87 = .ok (.ireturn, 1) := by decide +kernel
theorem dX12_toldMore_88 : decode cX12_toldMore 88 = .ok (.aload_n 0, 1) := by decide +kernel
theorem dX12_toldMore_89 : decode cX12_toldMore 89 = .ok (.getfield 312, 3) := by decide +kernel
theorem dX12_toldMore_92 : decode cX12_toldMore 92 = .ok (.ireturn, 1) := by decide +kernel
theorem dX12_toldMore_93 : decode cX12_toldMore 93 = .ok (.aload_n 0, 1) := by decide +kernel
theorem dX12_toldMore_94 : decode cX12_toldMore 94 = .ok (.getfield 262, 3) := by decide +kernel
theorem dX12_toldMore_97 : decode cX12_toldMore 97 = .ok (.ireturn, 1) := by decide +kernel
theorem dX12_toldMore_98 : decode cX12_toldMore 98 = .ok (.aload_n 0, 1) := by decide +kernel
theorem dX12_toldMore_99 : decode cX12_toldMore 99 = .ok (.getfield 324, 3) := by decide +kernel
theorem dX12_toldMore_102 : decode cX12_toldMore 102 = .ok (.ireturn, 1) := by decide +kernel
theorem dX12_toldMore_103 : decode cX12_toldMore 103 = .ok (.aload_n 0, 1) := by decide +kernel
theorem dX12_toldMore_104 : decode cX12_toldMore 104 = .ok (.getfield 327, 3) := by decide +kernel
theorem dX12_toldMore_107 : decode cX12_toldMore 107 = .ok (.ireturn, 1) := by decide +kernel
theorem dX12_toldMore_108 : decode cX12_toldMore 108 = .ok (.aload_n 0, 1) := by decide +kernel
theorem dX12_toldMore_109 : decode cX12_toldMore 109 = .ok (.getfield 37, 3) := by decide +kernel
theorem dX12_toldMore_112 : decode cX12_toldMore 112 = .ok (.ifCond .eq 7, 3) := by decide +kernel
theorem dX12_toldMore_115 : decode cX12_toldMore 115 = .ok (.iconst 1, 1) := by decide +kernel
theorem dX12_toldMore_116 : decode cX12_toldMore 116 = .ok (.goto 4, 3) := by decide +kernel
theorem dX12_toldMore_119 : decode cX12_toldMore 119 = .ok (.iconst 0, 1) := by decide +kernel
theorem dX12_toldMore_120 : decode cX12_toldMore 120 = .ok (.ireturn, 1) := by decide +kernel
theorem dX12_toldMore_121 : decode cX12_toldMore 121 = .ok (.aload_n 0, 1) := by decide +kernel
theorem dX12_toldMore_122 : decode cX12_toldMore 122 = .ok (.getfield 229, 3) := by decide +kernel
theorem dX12_toldMore_125 : decode cX12_toldMore 125 = .ok (.ireturn, 1) := by decide +kernel
theorem dX12_toldMore_126 : decode cX12_toldMore 126 = .ok (.aload_n 0, 1) := by decide +kernel
theorem dX12_toldMore_127 : decode cX12_toldMore 127 = .ok (.invokevirtual 188, 3) := by decide +kernel
theorem dX12_toldMore_130 : decode cX12_toldMore 130 = .ok (.ireturn, 1) := by decide +kernel
theorem dX12_toldMore_131 : decode cX12_toldMore 131 = .ok (.aload_n 0, 1) := by decide +kernel
theorem dX12_toldMore_132 : decode cX12_toldMore 132 = .ok (.iconst 1, 1) := by decide +kernel
theorem dX12_toldMore_133 : decode cX12_toldMore 133 = .ok (.putfield 80, 3) := by decide +kernel
theorem dX12_toldMore_136 : decode cX12_toldMore 136 = .ok (.iconst 0, 1) := by decide +kernel
theorem dX12_toldMore_137 : decode cX12_toldMore 137 = .ok (.ireturn, 1) := by decide +kernel
