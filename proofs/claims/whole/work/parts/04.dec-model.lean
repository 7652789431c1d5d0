theorem dX7_init_0 : decode cX7_init 0 = .ok (.aload_n 0, 1) := by decide +kernel
theorem dX7_init_1 : decode cX7_init 1 = .ok (.invokespecial 1, 3) := by decide +kernel
theorem dX7_init_4 : decode cX7_init 4 = .ok (.aload_n 0, 1) := by decide +kernel
theorem dX7_init_5 : decode cX7_init 5 = .ok (.bipush 54, 2) := by decide +kernel
theorem dX7_init_7 : decode cX7_init 7 = .ok (.newarray .int, 2) := by decide +kernel
theorem dX7_init_9 : decode cX7_init 9 = .ok (.putfield 7, 3) := by decide +kernel
theorem dX7_init_12 : decode cX7_init 12 = .ok (.aload_n 0, 1) := by decide +kernel
theorem dX7_init_13 : decode cX7_init 13 = .ok (.bipush 54, 2) := by decide +kernel
theorem dX7_init_15 : decode cX7_init 15 = .ok (.newarray .int, 2) := by decide +kernel
theorem dX7_init_17 : decode cX7_init 17 = .ok (.putfield 13, 3) := by decide +kernel
theorem dX7_init_20 : decode cX7_init 20 = .ok (.aload_n 0, 1) := by decide +kernel
theorem dX7_init_21 : decode cX7_init 21 = .ok (.bipush 76, 2) := by decide +kernel
theorem dX7_init_23 : decode cX7_init 23 = .ok (.newarray .int, 2) := by decide +kernel
theorem dX7_init_25 : decode cX7_init 25 = .ok (.putfield 16, 3) := by decide +kernel
theorem dX7_init_28 : decode cX7_init 28 = .ok (.aload_n 0, 1) := by decide +kernel
theorem dX7_init_29 : decode cX7_init 29 = .ok (.sipush 608, 3) := by decide +kernel
theorem dX7_init_32 : decode cX7_init 32 = .ok (.newarray .int, 2) := by decide +kernel
theorem dX7_init_34 : decode cX7_init 34 = .ok (.putfield 19, 3) := by decide +kernel
theorem dX7_init_37 : decode cX7_init 37 = .ok (.aload_n 0, 1) := by decide +kernel
theorem dX7_init_38 : decode cX7_init 38 = .ok (.sipush 152, 3) := by decide +kernel
theorem dX7_init_41 : decode cX7_init 41 = .ok (.newarray .int, 2) := by decide +kernel
theorem dX7_init_43 : decode cX7_init 43 = .ok (.putfield 22, 3) := by decide +kernel
theorem dX7_init_46 : decode cX7_init 46 = .ok (.aload_n 0, 1) := by decide +kernel
theorem dX7_init_47 : decode cX7_init 47 = .ok (.sipush 200, 3) := by decide +kernel
theorem dX7_init_50 : decode cX7_init 50 = .ok (.newarray .int, 2) := by decide +kernel
theorem dX7_init_52 : decode cX7_init 52 = .ok (.putfield 25, 3) := by decide +kernel
theorem dX7_init_55 : decode cX7_init 55 = .ok (.aload_n 0, 1) := by decide +kernel
theorem dX7_init_56 : decode cX7_init 56 = .ok (.bipush 24, 2) := by decide +kernel
theorem dX7_init_58 : decode cX7_init 58 = .ok (.newarray .int, 2) := by decide +kernel
theorem dX7_init_60 : decode cX7_init 60 = .ok (.putfield 28, 3) := by decide +kernel
theorem dX7_init_63 : decode cX7_init 63 = .ok (.aload_n 0, 1) := by decide +kernel
theorem dX7_init_64 : decode cX7_init 64 = .ok (.iconst 4, 1) := by decide +kernel
theorem dX7_init_65 : decode cX7_init 65 = .ok (.newarray .int, 2) := by decide +kernel
theorem dX7_init_67 : decode cX7_init 67 = .ok (.putfield 31, 3) := by decide +kernel
theorem dX7_init_70 : decode cX7_init 70 = .ok (.aload_n 0, 1) := by decide +kernel
theorem dX7_init_71 : decode cX7_init 71 = .ok (.bipush 76, 2) := by decide +kernel
theorem dX7_init_73 : decode cX7_init 73 = .ok (.newarray .int, 2) := by decide +kernel
theorem dX7_init_75 : decode cX7_init 75 = .ok (.putfield 34, 3) := by decide +kernel
theorem dX7_init_78 : decode cX7_init 78 = .ok (.aload_n 0, 1) := by decide +kernel
theorem dX7_init_79 : decode cX7_init 79 = .ok (.bipush 76, 2) := by decide +kernel
theorem dX7_init_81 : decode cX7_init 81 = .ok (.newarray .int, 2) := by decide +kernel
theorem dX7_init_83 : decode cX7_init 83 = .ok (.putfield 37, 3) := by decide +kernel
theorem dX7_init_86 : decode cX7_init 86 = .ok (.aload_n 0, 1) := by decide +kernel
theorem dX7_init_87 : decode cX7_init 87 = .ok (.bipush 24, 2) := by decide +kernel
theorem dX7_init_89 : decode cX7_init 89 = .ok (.newarray .int, 2) := by decide +kernel
theorem dX7_init_91 : decode cX7_init 91 = .ok (.putfield 40, 3) := by decide +kernel
theorem dX7_init_94 : decode cX7_init 94 = .ok (.aload_n 0, 1) := by decide +kernel
theorem dX7_init_95 : decode cX7_init 95 = .ok (.bipush 24, 2) := by decide +kernel
theorem dX7_init_97 : decode cX7_init 97 = .ok (.newarray .int, 2) := by decide +kernel
theorem dX7_init_99 : decode cX7_init 99 = .ok (.putfield 43, 3) := by decide +kernel
theorem dX7_init_102 : decode cX7_init 102 = .ok (.aload_n 0, 1) := by decide +kernel
theorem dX7_init_103 : decode cX7_init 103 = .ok (.bipush 7, 2) := by decide +kernel
theorem dX7_init_105 : decode cX7_init 105 = .ok (.newarray .int, 2) := by decide +kernel
theorem dX7_init_107 : decode cX7_init 107 = .ok (.putfield 46, 3) := by decide +kernel
theorem dX7_init_110 : decode cX7_init 110 = .ok (.aload_n 0, 1) := by decide +kernel
theorem dX7_init_111 : decode cX7_init 111 = .ok (.invokevirtual 49, 3) := by decide +kernel
theorem dX7_init_114 : decode cX7_init 114 = .ok (.aload_n 0, 1) := by decide +kernel
theorem dX7_init_115 : decode cX7_init 115 = .ok (.iconst 4, 1) := by decide +kernel
theorem dX7_init_116 : decode cX7_init 116 = .ok (.iconst 1, 1) := by decide +kernel
theorem dX7_init_117 : decode cX7_init 117 = .ok (.iconst 0, 1) := by decide +kernel
theorem dX7_init_118 : decode cX7_init 118 = .ok (.invokevirtual 52, 3) := by decide +kernel
theorem dX7_init_121 : decode cX7_init 121 = .ok (.aload_n 0, 1) := by decide +kernel
theorem dX7_init_122 : decode cX7_init 122 = .ok (.iconst 3, 1) := by decide +kernel
theorem dX7_init_123 : decode cX7_init 123 = .ok (.iconst 1, 1) := by decide +kernel
theorem dX7_init_124 : decode cX7_init 124 = .ok (.iconst 2, 1) := by decide +kernel
theorem dX7_init_125 : decode cX7_init 125 = .ok (.invokevirtual 52, 3) := by decide +kernel
theorem dX7_init_128 : decode cX7_init 128 = .ok (.aload_n 0, 1) := by decide +kernel
theorem dX7_init_129 : decode cX7_init 129 = .ok (.iconst 5, 1) := by decide +kernel
theorem dX7_init_130 : decode cX7_init 130 = .ok (.iconst 2, 1) := by decide +kernel
theorem dX7_init_131 : decode cX7_init 131 = .ok (.iconst 0, 1) := by decide +kernel
theorem dX7_init_132 : decode cX7_init 132 = .ok (.invokevirtual 52, 3) := by decide +kernel
theorem dX7_init_135 : decode cX7_init 135 = .ok (.aload_n 0, 1) := by decide +kernel
theorem dX7_init_136 : decode cX7_init 136 = .ok (.iconst 0, 1) := by decide +kernel
theorem dX7_init_137 : decode cX7_init 137 = .ok (.iconst 1, 1) := by decide +kernel
theorem dX7_init_138 : decode cX7_init 138 = .ok (.iconst 1, 1) := by decide +kernel
theorem dX7_init_139 : decode cX7_init 139 = .ok (.iconst 1, 1) := by decide +kernel
theorem dX7_init_140 : decode cX7_init 140 = .ok (.invokevirtual 56, 3) := by decide +kernel
theorem dX7_init_143 : decode cX7_init 143 = .ok (.aload_n 0, 1) := by decide +kernel
theorem dX7_init_144 : decode cX7_init 144 = .ok (.iconst 1, 1) := by decide +kernel
theorem dX7_init_145 : decode cX7_init 145 = .ok (.iconst 2, 1) := by decide +kernel
theorem dX7_init_146 : decode cX7_init 146 = .ok (.iconst 2, 1) := by decide +kernel
theorem dX7_init_147 : decode cX7_init 147 = .ok (.iconst 0, 1) := by decide +kernel
theorem dX7_init_148 : decode cX7_init 148 = .ok (.invokevirtual 56, 3) := by decide +kernel
theorem dX7_init_151 : decode cX7_init 151 = .ok (.aload_n 0, 1) := by decide +kernel
theorem dX7_init_152 : decode cX7_init 152 = .ok (.iconst 2, 1) := by decide +kernel
theorem dX7_init_153 : decode cX7_init 153 = .ok (.invokevirtual 60, 3) := by decide +kernel
theorem dX7_init_156 : decode cX7_init 156 = .ok (.aload_n 0, 1) := by decide +kernel
theorem dX7_init_157 : decode cX7_init 157 = .ok (.iconst 1, 1) := by decide +kernel
theorem dX7_init_158 : decode cX7_init 158 = .ok (.invokevirtual 60, 3) := by decide +kernel
theorem dX7_init_161 : decode cX7_init 161 = .ok (.aload_n 0, 1) := by decide +kernel
theorem dX7_init_162 : decode cX7_init 162 = .ok (.iconst 0, 1) := by decide +kernel
theorem dX7_init_163 : decode cX7_init 163 = .ok (.invokevirtual 60, 3) := by decide +kernel
theorem dX7_init_166 : decode cX7_init 166 = .ok (.aload_n 0, 1) := by decide +kernel
theorem dX7_init_167 : decode cX7_init 167 = .ok (.getfield 13, 3) := by decide +kernel
theorem dX7_init_170 : decode cX7_init 170 = .ok (.iconst 3, 1) := by decide +kernel
theorem dX7_init_171 : decode cX7_init 171 = .ok (.iconst 2, 1) := by decide +kernel
theorem dX7_init_172 : decode cX7_init 172 = .ok (.iastore, 1) := by decide +kernel
theorem dX7_init_173 : decode cX7_init 173 = .ok (.aload_n 0, 1) := by decide +kernel
theorem dX7_init_174 : decode cX7_init 174 = .ok (.getfield 13, 3) := by decide +kernel
theorem dX7_init_177 : decode cX7_init 177 = .ok (.iconst 4, 1) := by decide +kernel
theorem dX7_init_178 : decode cX7_init 178 = .ok (.bipush 50, 2) := by decide +kernel
theorem dX7_init_180 : decode cX7_init 180 = .ok (.iastore, 1) := by decide +kernel
theorem dX7_init_181 : decode cX7_init 181 = .ok (.aload_n 0, 1) := by decide +kernel
theorem dX7_init_182 : decode cX7_init 182 = .ok (.invokevirtual 64, 3) := by decide +kernel
theorem dX7_init_185 : decode cX7_init 185 = .ok (.return_, 1) := by decide +kernel
theorem dX7_in_0 : decode cX7_in 0 = .ok (.lload_n 0, 1) := by decide +kernel
theorem dX7_in_1 : decode cX7_in 1 = .ok (.lload_n 2, 1) := by decide +kernel
theorem dX7_in_2 : decode cX7_in 2 = .ok (.lcmp, 1) := by decide +kernel
theorem dX7_in_3 : decode cX7_in 3 = .ok (.ifCond .lt 14, 3) := by decide +kernel
theorem dX7_in_6 : decode cX7_in 6 = .ok (.lload_n 0, 1) := by decide +kernel
theorem dX7_in_7 : decode cX7_in 7 = .ok (.lload 4, 2) := by decide +kernel
theorem dX7_in_9 : decode cX7_in 9 = .ok (.lcmp, 1) := by decide +kernel
theorem dX7_in_10 : decode cX7_in 10 = .ok (.ifCond .gt 7, 3) := by decide +kernel
theorem dX7_in_13 : decode cX7_in 13 = .ok (.iconst 1, 1) := by decide +kernel
theorem dX7_in_14 : decode cX7_in 14 = .ok (.goto 4, 3) := by decide +kernel
theorem dX7_in_17 : decode cX7_in 17 = .ok (.iconst 0, 1) := by decide +kernel
theorem dX7_in_18 : decode cX7_in 18 = .ok (.ireturn, 1) := by decide +kernel
theorem dX7_isTwo_0 : decode cX7_isTwo 0 = .ok (.iload_n 0, 1) := by decide +kernel
theorem dX7_isTwo_1 : decode cX7_isTwo 1 = .ok (.i2l, 1) := by decide +kernel
theorem dX7_isTwo_2 : decode cX7_isTwo 2 = .ok (.lconst 0, 1) := by decide +kernel
theorem dX7_isTwo_3 : decode cX7_isTwo 3 = .ok (.lconst 1, 1) := by decide +kernel
theorem dX7_isTwo_4 : decode cX7_isTwo 4 = .ok (.invokestatic 67, 3) := by decide +kernel
theorem dX7_isTwo_7 : decode cX7_isTwo 7 = .ok (.ireturn, 1) := by decide +kernel
theorem dX7_has_0 : decode cX7_has 0 = .ok (.iload_n 0, 1) := by decide +kernel
theorem dX7_has_1 : decode cX7_has 1 = .ok (.iload_n 1, 1) := by decide +kernel
theorem dX7_has_2 : decode cX7_has 2 = .ok (.ishr, 1) := by decide +kernel
theorem dX7_has_3 : decode cX7_has 3 = .ok (.iconst 1, 1) := by decide +kernel
theorem dX7_has_4 : decode cX7_has 4 = .ok (.iand, 1) := by decide +kernel
theorem dX7_has_5 : decode cX7_has 5 = .ok (.iconst 1, 1) := by decide +kernel
theorem dX7_has_6 : decode cX7_has 6 = .ok (.if_icmp .ne 7, 3) := by decide +kernel
theorem dX7_has_9 : decode cX7_has 9 = .ok (.iconst 1, 1) := by decide +kernel
theorem dX7_has_10 : decode cX7_has 10 = .ok (.goto 4, 3) := by decide +kernel
theorem dX7_has_13 : decode cX7_has 13 = .ok (.iconst 0, 1) := by decide +kernel
theorem dX7_has_14 : decode cX7_has 14 = .ok (.ireturn, 1) := by decide +kernel
theorem dX7_bits_0 : decode cX7_bits 0 = .ok (.iconst 0, 1) := by decide +kernel
theorem dX7_bits_1 : decode cX7_bits 1 = .ok (.istore_n 1, 1) := by decide +kernel
theorem dX7_bits_2 : decode cX7_bits 2 = .ok (.iload_n 0, 1) := by decide +kernel
theorem dX7_bits_3 : decode cX7_bits 3 = .ok (.istore_n 2, 1) := by decide +kernel
theorem dX7_bits_4 : decode cX7_bits 4 = .ok (.iload_n 2, 1) := by decide +kernel
theorem dX7_bits_5 : decode cX7_bits 5 = .ok (.ifCond .eq 15, 3) := by decide +kernel
theorem dX7_bits_8 : decode cX7_bits 8 = .ok (.iinc 1 1, 3) := by decide +kernel
theorem dX7_bits_11 : decode cX7_bits 11 = .ok (.iload_n 2, 1) := by decide +kernel
theorem dX7_bits_12 : decode cX7_bits 12 = .ok (.iload_n 2, 1) := by decide +kernel
theorem dX7_bits_13 : decode cX7_bits 13 = .ok (.iconst 1, 1) := by decide +kernel
theorem dX7_bits_14 : decode cX7_bits 14 = .ok (.isub, 1) := by decide +kernel
theorem dX7_bits_15 : decode cX7_bits 15 = .ok (.iand, 1) := by decide +kernel
theorem dX7_bits_16 : decode cX7_bits 16 = .ok (.istore_n 2, 1) := by decide +kernel
theorem dX7_bits_17 : decode cX7_bits 17 = .ok (.goto (-13), 3) := by decide +kernel
theorem dX7_bits_20 : decode cX7_bits 20 = .ok (.iload_n 1, 1) := by decide +kernel
theorem dX7_bits_21 : decode cX7_bits 21 = .ok (.ireturn, 1) := by decide +kernel
theorem dX7_write_0 : decode cX7_write 0 = .ok (.iload_n 1, 1) := by decide +kernel
theorem dX7_write_1 : decode cX7_write 1 = .ok (.i2l, 1) := by decide +kernel
theorem dX7_write_2 : decode cX7_write 2 = .ok (.ldc2_w 71, 3) := by decide +kernel
theorem dX7_write_5 : decode cX7_write 5 = .ok (.ldc2_w 73, 3) := by decide +kernel
theorem dX7_write_8 : decode cX7_write 8 = .ok (.invokestatic 67, 3) := by decide +kernel
theorem dX7_write_11 : decode cX7_write 11 = .ok (.ifCond .ne 5, 3) := by decide +kernel
theorem dX7_write_14 : decode cX7_write 14 = .ok (.iconst (-1), 1) := by decide +kernel
theorem dX7_write_15 : decode cX7_write 15 = .ok (.ireturn, 1) := by decide +kernel
theorem dX7_write_16 : decode cX7_write 16 = .ok (.aload_n 0, 1) := by decide +kernel
theorem dX7_write_17 : decode cX7_write 17 = .ok (.getfield 75, 3) := by decide +kernel
theorem dX7_write_20 : decode cX7_write 20 = .ok (.sipush 200, 3) := by decide +kernel
theorem dX7_write_23 : decode cX7_write 23 = .ok (.if_icmp .ne 6, 3) := by decide +kernel
theorem dX7_write_26 : decode cX7_write 26 = .ok (.bipush (-3), 2) := by decide +kernel
theorem dX7_write_28 : decode cX7_write 28 = .ok (.ireturn, 1) := by decide +kernel
theorem dX7_write_29 : decode cX7_write 29 = .ok (.aload_n 0, 1) := by decide +kernel
theorem dX7_write_30 : decode cX7_write 30 = .ok (.getfield 25, 3) := by decide +kernel
theorem dX7_write_33 : decode cX7_write 33 = .ok (.aload_n 0, 1) := by decide +kernel
theorem dX7_write_34 : decode cX7_write 34 = .ok (.getfield 75, 3) := by decide +kernel
theorem dX7_write_37 : decode cX7_write 37 = .ok (.iload_n 1, 1) := by decide +kernel
theorem dX7_write_38 : decode cX7_write 38 = .ok (.iastore, 1) := by decide +kernel
theorem dX7_write_39 : decode cX7_write 39 = .ok (.aload_n 0, 1) := by decide +kernel
theorem dX7_write_40 : decode cX7_write 40 = .ok (.dup, 1) := by decide +kernel
theorem dX7_write_41 : decode cX7_write 41 = .ok (.getfield 75, 3) := by decide +kernel
theorem dX7_write_44 : decode cX7_write 44 = .ok (.iconst 1, 1) := by decide +kernel
theorem dX7_write_45 : decode cX7_write 45 = .ok (.iadd, 1) := by decide +kernel
theorem dX7_write_46 : decode cX7_write 46 = .ok (.putfield 75, 3) := by decide +kernel
theorem dX7_write_49 : decode cX7_write 49 = .ok (.aload_n 0, 1) := by decide +kernel
theorem dX7_write_50 : decode cX7_write 50 = .ok (.getfield 75, 3) := by decide +kernel
theorem dX7_write_53 : decode cX7_write 53 = .ok (.ireturn, 1) := by decide +kernel
theorem dX7_wipe_0 : decode cX7_wipe 0 = .ok (.aload_n 0, 1) := by decide +kernel
theorem dX7_wipe_1 : decode cX7_wipe 1 = .ok (.getfield 75, 3) := by decide +kernel
theorem dX7_wipe_4 : decode cX7_wipe 4 = .ok (.istore_n 1, 1) := by decide +kernel
theorem dX7_wipe_5 : decode cX7_wipe 5 = .ok (.aload_n 0, 1) := by decide +kernel
theorem dX7_wipe_6 : decode cX7_wipe 6 = .ok (.iconst 0, 1) := by decide +kernel
theorem dX7_wipe_7 : decode cX7_wipe 7 = .ok (.putfield 75, 3) := by decide +kernel
theorem dX7_wipe_10 : decode cX7_wipe 10 = .ok (.iload_n 1, 1) := by decide +kernel
theorem dX7_wipe_11 : decode cX7_wipe 11 = .ok (.ireturn, 1) := by decide +kernel
theorem dX7_clean_0 : decode cX7_clean 0 = .ok (.iconst 0, 1) := by decide +kernel
theorem dX7_clean_1 : decode cX7_clean 1 = .ok (.istore_n 1, 1) := by decide +kernel
theorem dX7_clean_2 : decode cX7_clean 2 = .ok (.iload_n 1, 1) := by decide +kernel
theorem dX7_clean_3 : decode cX7_clean 3 = .ok (.bipush 54, 2) := by decide +kernel
theorem dX7_clean_5 : decode cX7_clean 5 = .ok (.if_icmp .ge 16, 3) := by decide +kernel
theorem dX7_clean_8 : decode cX7_clean 8 = .ok (.aload_n 0, 1) := by decide +kernel
theorem dX7_clean_9 : decode cX7_clean 9 = .ok (.getfield 13, 3) := by decide +kernel
theorem dX7_clean_12 : decode cX7_clean 12 = .ok (.iload_n 1, 1) := by decide +kernel
theorem dX7_clean_13 : decode cX7_clean 13 = .ok (.iconst 0, 1) := by decide +kernel
theorem dX7_clean_14 : decode cX7_clean 14 = .ok (.iastore, 1) := by decide +kernel
theorem dX7_clean_15 : decode cX7_clean 15 = .ok (.iinc 1 1, 3) := by decide +kernel
theorem dX7_clean_18 : decode cX7_clean 18 = .ok (.goto (-16), 3) := by decide +kernel
theorem dX7_clean_21 : decode cX7_clean 21 = .ok (.aload_n 0, 1) := by decide +kernel
theorem dX7_clean_22 : decode cX7_clean 22 = .ok (.getfield 13, 3) := by decide +kernel
theorem dX7_clean_25 : decode cX7_clean 25 = .ok (.iconst 3, 1) := by decide +kernel
theorem dX7_clean_26 : decode cX7_clean 26 = .ok (.iconst 1, 1) := by decide +kernel
theorem dX7_clean_27 : decode cX7_clean 27 = .ok (.iastore, 1) := by decide +kernel
theorem dX7_clean_28 : decode cX7_clean 28 = .ok (.aload_n 0, 1) := by decide +kernel
theorem dX7_clean_29 : decode cX7_clean 29 = .ok (.getfield 13, 3) := by decide +kernel
theorem dX7_clean_32 : decode cX7_clean 32 = .ok (.iconst 4, 1) := by decide +kernel
theorem dX7_clean_33 : decode cX7_clean 33 = .ok (.bipush 60, 2) := by decide +kernel
theorem dX7_clean_35 : decode cX7_clean 35 = .ok (.iastore, 1) := by decide +kernel
theorem dX7_clean_36 : decode cX7_clean 36 = .ok (.return_, 1) := by decide +kernel
theorem dX7_comes_0 : decode cX7_comes 0 = .ok (.aload_n 0, 1) := by decide +kernel
theorem dX7_comes_1 : decode cX7_comes 1 = .ok (.getfield 13, 3) := by decide +kernel
theorem dX7_comes_4 : decode cX7_comes 4 = .ok (.iconst 0, 1) := by decide +kernel
theorem dX7_comes_5 : decode cX7_comes 5 = .ok (.iaload, 1) := by decide +kernel
theorem dX7_comes_6 : decode cX7_comes 6 = .ok (.istore 4, 2) := by decide +kernel
theorem dX7_comes_8 : decode cX7_comes 8 = .ok (.aload_n 0, 1) := by decide +kernel
theorem dX7_comes_9 : decode cX7_comes 9 = .ok (.getfield 13, 3) := by decide +kernel
theorem dX7_comes_12 : decode cX7_comes 12 = .ok (.iconst 5, 1) := by decide +kernel
theorem dX7_comes_13 : decode cX7_comes 13 = .ok (.iload 4, 2) := by decide +kernel
theorem dX7_comes_15 : decode cX7_comes 15 = .ok (.iadd, 1) := by decide +kernel
theorem dX7_comes_16 : decode cX7_comes 16 = .ok (.iload_n 1, 1) := by decide +kernel
theorem dX7_comes_17 : decode cX7_comes 17 = .ok (.iastore, 1) := by decide +kernel
theorem dX7_comes_18 : decode cX7_comes 18 = .ok (.aload_n 0, 1) := by decide +kernel
theorem dX7_comes_19 : decode cX7_comes 19 = .ok (.getfield 13, 3) := by decide +kernel
theorem dX7_comes_22 : decode cX7_comes 22 = .ok (.bipush 9, 2) := by decide +kernel
theorem dX7_comes_24 : decode cX7_comes 24 = .ok (.iload 4, 2) := by decide +kernel
theorem dX7_comes_26 : decode cX7_comes 26 = .ok (.iadd, 1) := by decide +kernel
theorem dX7_comes_27 : decode cX7_comes 27 = .ok (.iload_n 2, 1) := by decide +kernel
theorem dX7_comes_28 : decode cX7_comes 28 = .ok (.iastore, 1) := by decide +kernel
theorem dX7_comes_29 : decode cX7_comes 29 = .ok (.aload_n 0, 1) := by decide +kernel
theorem dX7_comes_30 : decode cX7_comes 30 = .ok (.getfield 13, 3) := by decide +kernel
theorem dX7_comes_33 : decode cX7_comes 33 = .ok (.bipush 13, 2) := by decide +kernel
theorem dX7_comes_35 : decode cX7_comes 35 = .ok (.iload 4, 2) := by decide +kernel
theorem dX7_comes_37 : decode cX7_comes 37 = .ok (.iadd, 1) := by decide +kernel
theorem dX7_comes_38 : decode cX7_comes 38 = .ok (.iload_n 3, 1) := by decide +kernel
theorem dX7_comes_39 : decode cX7_comes 39 = .ok (.iastore, 1) := by decide +kernel
theorem dX7_comes_40 : decode cX7_comes 40 = .ok (.aload_n 0, 1) := by decide +kernel
theorem dX7_comes_41 : decode cX7_comes 41 = .ok (.getfield 13, 3) := by decide +kernel
theorem dX7_comes_44 : decode cX7_comes 44 = .ok (.iconst 0, 1) := by decide +kernel
theorem dX7_comes_45 : decode cX7_comes 45 = .ok (.dup2, 1) := by decide +kernel
theorem dX7_comes_46 : decode cX7_comes 46 = .ok (.iaload, 1) := by decide +kernel
theorem dX7_comes_47 : decode cX7_comes 47 = .ok (.iconst 1, 1) := by decide +kernel
theorem dX7_comes_48 : decode cX7_comes 48 = .ok (.iadd, 1) := by decide +kernel
theorem dX7_comes_49 : decode cX7_comes 49 = .ok (.iastore, 1) := by decide +kernel
theorem dX7_comes_50 : decode cX7_comes 50 = .ok (.return_, 1) := by decide +kernel
theorem dX7_pair_0 : decode cX7_pair 0 = .ok (.aload_n 0, 1) := by decide +kernel
theorem dX7_pair_1 : decode cX7_pair 1 = .ok (.getfield 13, 3) := by decide +kernel
theorem dX7_pair_4 : decode cX7_pair 4 = .ok (.iconst 2, 1) := by decide +kernel
theorem dX7_pair_5 : decode cX7_pair 5 = .ok (.iaload, 1) := by decide +kernel
theorem dX7_pair_6 : decode cX7_pair 6 = .ok (.istore 5, 2) := by decide +kernel
theorem dX7_pair_8 : decode cX7_pair 8 = .ok (.aload_n 0, 1) := by decide +kernel
theorem dX7_pair_9 : decode cX7_pair 9 = .ok (.getfield 13, 3) := by decide +kernel
theorem dX7_pair_12 : decode cX7_pair 12 = .ok (.bipush 22, 2) := by decide +kernel
theorem dX7_pair_14 : decode cX7_pair 14 = .ok (.iload 5, 2) := by decide +kernel
theorem dX7_pair_16 : decode cX7_pair 16 = .ok (.iadd, 1) := by decide +kernel
theorem dX7_pair_17 : decode cX7_pair 17 = .ok (.iload_n 1, 1) := by decide +kernel
theorem dX7_pair_18 : decode cX7_pair 18 = .ok (.iastore, 1) := by decide +kernel
theorem dX7_pair_19 : decode cX7_pair 19 = .ok (.aload_n 0, 1) := by decide +kernel
theorem dX7_pair_20 : decode cX7_pair 20 = .ok (.getfield 13, 3) := by decide +kernel
theorem dX7_pair_23 : decode cX7_pair 23 = .ok (.bipush 30, 2) := by decide +kernel
theorem dX7_pair_25 : decode cX7_pair 25 = .ok (.iload 5, 2) := by decide +kernel
theorem dX7_pair_27 : decode cX7_pair 27 = .ok (.iadd, 1) := by decide +kernel
theorem dX7_pair_28 : decode cX7_pair 28 = .ok (.iload_n 2, 1) := by decide +kernel
theorem dX7_pair_29 : decode cX7_pair 29 = .ok (.iastore, 1) := by decide +kernel
theorem dX7_pair_30 : decode cX7_pair 30 = .ok (.aload_n 0, 1) := by decide +kernel
theorem dX7_pair_31 : decode cX7_pair 31 = .ok (.getfield 13, 3) := by decide +kernel
theorem dX7_pair_34 : decode cX7_pair 34 = .ok (.bipush 38, 2) := by decide +kernel
theorem dX7_pair_36 : decode cX7_pair 36 = .ok (.iload 5, 2) := by decide +kernel
theorem dX7_pair_38 : decode cX7_pair 38 = .ok (.iadd, 1) := by decide +kernel
theorem dX7_pair_39 : decode cX7_pair 39 = .ok (.iload_n 3, 1) := by decide +kernel
theorem dX7_pair_40 : decode cX7_pair 40 = .ok (.iastore, 1) := by decide +kernel
theorem dX7_pair_41 : decode cX7_pair 41 = .ok (.aload_n 0, 1) := by decide +kernel
theorem dX7_pair_42 : decode cX7_pair 42 = .ok (.getfield 13, 3) := by decide +kernel
theorem dX7_pair_45 : decode cX7_pair 45 = .ok (.bipush 46, 2) := by decide +kernel
theorem dX7_pair_47 : decode cX7_pair 47 = .ok (.iload 5, 2) := by decide +kernel
theorem dX7_pair_49 : decode cX7_pair 49 = .ok (.iadd, 1) := by decide +kernel
theorem dX7_pair_50 : decode cX7_pair 50 = .ok (.iload 4, 2) := by decide +kernel
theorem dX7_pair_52 : decode cX7_pair 52 = .ok (.iastore, 1) := by decide +kernel
theorem dX7_pair_53 : decode cX7_pair 53 = .ok (.aload_n 0, 1) := by decide +kernel
theorem dX7_pair_54 : decode cX7_pair 54 = .ok (.getfield 13, 3) := by decide +kernel
theorem dX7_pair_57 : decode cX7_pair 57 = .ok (.iconst 2, 1) := by decide +kernel
theorem dX7_pair_58 : decode cX7_pair 58 = .ok (.dup2, 1) := by decide +kernel
theorem dX7_pair_59 : decode cX7_pair 59 = .ok (.iaload, 1) := by decide +kernel
theorem dX7_pair_60 : decode cX7_pair 60 = .ok (.iconst 1, 1) := by decide +kernel
theorem dX7_pair_61 : decode cX7_pair 61 = .ok (.iadd, 1) := by decide +kernel
theorem dX7_pair_62 : decode cX7_pair 62 = .ok (.iastore, 1) := by decide +kernel
theorem dX7_pair_63 : decode cX7_pair 63 = .ok (.return_, 1) := by decide +kernel
theorem dX7_person_0 : decode cX7_person 0 = .ok (.aload_n 0, 1) := by decide +kernel
theorem dX7_person_1 : decode cX7_person 1 = .ok (.getfield 13, 3) := by decide +kernel
theorem dX7_person_4 : decode cX7_person 4 = .ok (.bipush 17, 2) := by decide +kernel
theorem dX7_person_6 : decode cX7_person 6 = .ok (.aload_n 0, 1) := by decide +kernel
theorem dX7_person_7 : decode cX7_person 7 = .ok (.getfield 13, 3) := by decide +kernel
theorem dX7_person_10 : decode cX7_person 10 = .ok (.iconst 1, 1) := by decide +kernel
theorem dX7_person_11 : decode cX7_person 11 = .ok (.iaload, 1) := by decide +kernel
theorem dX7_person_12 : decode cX7_person 12 = .ok (.iadd, 1) := by decide +kernel
theorem dX7_person_13 : decode cX7_person 13 = .ok (.iload_n 1, 1) := by decide +kernel
theorem dX7_person_14 : decode cX7_person 14 = .ok (.iastore, 1) := by decide +kernel
theorem dX7_person_15 : decode cX7_person 15 = .ok (.aload_n 0, 1) := by decide +kernel
theorem dX7_person_16 : decode cX7_person 16 = .ok (.getfield 13, 3) := by decide +kernel
theorem dX7_person_19 : decode cX7_person 19 = .ok (.iconst 1, 1) := by decide +kernel
theorem dX7_person_20 : decode cX7_person 20 = .ok (.dup2, 1) := by decide +kernel
theorem dX7_person_21 : decode cX7_person 21 = .ok (.iaload, 1) := by decide +kernel
theorem dX7_person_22 : decode cX7_person 22 = .ok (.iconst 1, 1) := by decide +kernel
theorem dX7_person_23 : decode cX7_person 23 = .ok (.iadd, 1) := by decide +kernel
theorem dX7_person_24 : decode cX7_person 24 = .ok (.iastore, 1) := by decide +kernel
theorem dX7_person_25 : decode cX7_person 25 = .ok (.return_, 1) := by decide +kernel
theorem dX7_takes_0 : decode cX7_takes 0 = .ok (.iconst 0, 1) := by decide +kernel
theorem dX7_takes_1 : decode cX7_takes 1 = .ok (.istore_n 2, 1) := by decide +kernel
theorem dX7_takes_2 : decode cX7_takes 2 = .ok (.iload_n 2, 1) := by decide +kernel
theorem dX7_takes_3 : decode cX7_takes 3 = .ok (.iload_n 1, 1) := by decide +kernel
theorem dX7_takes_4 : decode cX7_takes 4 = .ok (.if_icmp .ge 172, 3) := by decide +kernel
theorem dX7_takes_7 : decode cX7_takes 7 = .ok (.iconst 0, 1) := by decide +kernel
theorem dX7_takes_8 : decode cX7_takes 8 = .ok (.istore_n 3, 1) := by decide +kernel
theorem dX7_takes_9 : decode cX7_takes 9 = .ok (.iconst 0, 1) := by decide +kernel
theorem dX7_takes_10 : decode cX7_takes 10 = .ok (.istore 4, 2) := by decide +kernel
theorem dX7_takes_12 : decode cX7_takes 12 = .ok (.aload_n 0, 1) := by decide +kernel
theorem dX7_takes_13 : decode cX7_takes 13 = .ok (.getfield 79, 3) := by decide +kernel
theorem dX7_takes_16 : decode cX7_takes 16 = .ok (.aload_n 0, 1) := by decide +kernel
theorem dX7_takes_17 : decode cX7_takes 17 = .ok (.getfield 75, 3) := by decide +kernel
theorem dX7_takes_20 : decode cX7_takes 20 = .ok (.if_icmp .ge 69, 3) := by decide +kernel
theorem dX7_takes_23 : decode cX7_takes 23 = .ok (.aload_n 0, 1) := by decide +kernel
theorem dX7_takes_24 : decode cX7_takes 24 = .ok (.getfield 25, 3) := by decide +kernel
theorem dX7_takes_27 : decode cX7_takes 27 = .ok (.aload_n 0, 1) := by decide +kernel
theorem dX7_takes_28 : decode cX7_takes 28 = .ok (.getfield 79, 3) := by decide +kernel
theorem dX7_takes_31 : decode cX7_takes 31 = .ok (.iaload, 1) := by decide +kernel
theorem dX7_takes_32 : decode cX7_takes 32 = .ok (.i2l, 1) := by decide +kernel
theorem dX7_takes_33 : decode cX7_takes 33 = .ok (.ldc2_w 82, 3) := by decide +kernel
theorem dX7_takes_36 : decode cX7_takes 36 = .ok (.ldc2_w 84, 3) := by decide +kernel
theorem dX7_takes_39 : decode cX7_takes 39 = .ok (.invokestatic 67, 3) := by decide +kernel
theorem dX7_takes_42 : decode cX7_takes 42 = .ok (.ifCond .eq 47, 3) := by decide +kernel
theorem dX7_takes_45 : decode cX7_takes 45 = .ok (.iload 4, 2) := by decide +kernel
theorem dX7_takes_47 : decode cX7_takes 47 = .ok (.iconst 2, 1) := by decide +kernel
theorem dX7_takes_48 : decode cX7_takes 48 = .ok (.if_icmp .ge 23, 3) := by decide +kernel
theorem dX7_takes_51 : decode cX7_takes 51 = .ok (.bipush 10, 2) := by decide +kernel
theorem dX7_takes_53 : decode cX7_takes 53 = .ok (.iload_n 3, 1) := by decide +kernel
theorem dX7_takes_54 : decode cX7_takes 54 = .ok (.imul, 1) := by decide +kernel
theorem dX7_takes_55 : decode cX7_takes 55 = .ok (.aload_n 0, 1) := by decide +kernel
theorem dX7_takes_56 : decode cX7_takes 56 = .ok (.getfield 25, 3) := by decide +kernel
theorem dX7_takes_59 : decode cX7_takes 59 = .ok (.aload_n 0, 1) := by decide +kernel
theorem dX7_takes_60 : decode cX7_takes 60 = .ok (.getfield 79, 3) := by decide +kernel
theorem dX7_takes_63 : decode cX7_takes 63 = .ok (.iaload, 1) := by decide +kernel
theorem dX7_takes_64 : decode cX7_takes 64 = .ok (.iadd, 1) := by decide +kernel
theorem dX7_takes_65 : decode cX7_takes 65 = .ok (.bipush 48, 2) := by decide +kernel
theorem dX7_takes_67 : decode cX7_takes 67 = .ok (.isub, 1) := by decide +kernel
theorem dX7_takes_68 : decode cX7_takes 68 = .ok (.goto 4, 3) := by decide +kernel
theorem dX7_takes_71 : decode cX7_takes 71 = .ok (.iload_n 3, 1) := by decide +kernel
theorem dX7_takes_72 : decode cX7_takes 72 = .ok (.istore_n 3, 1) := by decide +kernel
theorem dX7_takes_73 : decode cX7_takes 73 = .ok (.iinc 4 1, 3) := by decide +kernel
theorem dX7_takes_76 : decode cX7_takes 76 = .ok (.aload_n 0, 1) := by decide +kernel
theorem dX7_takes_77 : decode cX7_takes 77 = .ok (.dup, 1) := by decide +kernel
theorem dX7_takes_78 : decode cX7_takes 78 = .ok (.getfield 79, 3) := by decide +kernel
theorem dX7_takes_81 : decode cX7_takes 81 = .ok (.iconst 1, 1) := by decide +kernel
theorem dX7_takes_82 : decode cX7_takes 82 = .ok (.iadd, 1) := by decide +kernel
theorem dX7_takes_83 : decode cX7_takes 83 = .ok (.putfield 79, 3) := by decide +kernel
theorem dX7_takes_86 : decode cX7_takes 86 = .ok (.goto (-74), 3) := by decide +kernel
theorem dX7_takes_89 : decode cX7_takes 89 = .ok (.aload_n 0, 1) := by decide +kernel
theorem dX7_takes_90 : decode cX7_takes 90 = .ok (.getfield 79, 3) := by decide +kernel
theorem dX7_takes_93 : decode cX7_takes 93 = .ok (.aload_n 0, 1) := by decide +kernel
theorem dX7_takes_94 : decode cX7_takes 94 = .ok (.getfield 75, 3) := by decide +kernel
theorem dX7_takes_97 : decode cX7_takes 97 = .ok (.if_icmp .ge 33, 3) := by decide +kernel
theorem dX7_takes_100 : decode cX7_takes 100 = .ok (.aload_n 0, 1) := by decide +kernel
theorem dX7_takes_101 : decode cX7_takes 101 = .ok (.getfield 25, 3) := by decide +kernel
theorem dX7_takes_104 : decode cX7_takes 104 = .ok (.aload_n 0, 1) := by decide +kernel
theorem dX7_takes_105 : decode cX7_takes 105 = .ok (.getfield 79, 3) := by decide +kernel
theorem dX7_takes_108 : decode cX7_takes 108 = .ok (.iaload, 1) := by decide +kernel
theorem dX7_takes_109 : decode cX7_takes 109 = .ok (.iload_n 2, 1) := by decide +kernel
theorem dX7_takes_110 : decode cX7_takes 110 = .ok (.iload_n 1, 1) := by decide +kernel
theorem dX7_takes_111 : decode cX7_takes 111 = .ok (.iconst 1, 1) := by decide +kernel
theorem dX7_takes_112 : decode cX7_takes 112 = .ok (.isub, 1) := by decide +kernel
theorem dX7_takes_113 : decode cX7_takes 113 = .ok (.if_icmp .ge 8, 3) := by decide +kernel
theorem dX7_takes_116 : decode cX7_takes 116 = .ok (.bipush 44, 2) := by decide +kernel
theorem dX7_takes_118 : decode cX7_takes 118 = .ok (.goto 5, 3) := by decide +kernel
theorem dX7_takes_121 : decode cX7_takes 121 = .ok (.bipush 59, 2) := by decide +kernel
theorem dX7_takes_123 : decode cX7_takes 123 = .ok (.if_icmp .ne 7, 3) := by decide +kernel
theorem dX7_takes_126 : decode cX7_takes 126 = .ok (.iconst 1, 1) := by decide +kernel
theorem dX7_takes_127 : decode cX7_takes 127 = .ok (.goto 4, 3) := by decide +kernel
theorem dX7_takes_130 : decode cX7_takes 130 = .ok (.iconst 0, 1) := by decide +kernel
theorem dX7_takes_131 : decode cX7_takes 131 = .ok (.istore 5, 2) := by decide +kernel
theorem dX7_takes_133 : decode cX7_takes 133 = .ok (.iload 4, 2) := by decide +kernel
theorem dX7_takes_135 : decode cX7_takes 135 = .ok (.i2l, 1) := by decide +kernel
theorem dX7_takes_136 : decode cX7_takes 136 = .ok (.lconst 1, 1) := by decide +kernel
theorem dX7_takes_137 : decode cX7_takes 137 = .ok (.ldc2_w 86, 3) := by decide +kernel
theorem dX7_takes_140 : decode cX7_takes 140 = .ok (.invokestatic 67, 3) := by decide +kernel
theorem dX7_takes_143 : decode cX7_takes 143 = .ok (.ifCond .eq 8, 3) := by decide +kernel
theorem dX7_takes_146 : decode cX7_takes 146 = .ok (.iload 5, 2) := by decide +kernel
theorem dX7_takes_148 : decode cX7_takes 148 = .ok (.ifCond .ne 5, 3) := by decide +kernel
theorem dX7_takes_151 : decode cX7_takes 151 = .ok (.iconst 0, 1) := by decide +kernel
theorem dX7_takes_152 : decode cX7_takes 152 = .ok (.ireturn, 1) := by decide +kernel
theorem dX7_takes_153 : decode cX7_takes 153 = .ok (.aload_n 0, 1) := by decide +kernel
theorem dX7_takes_154 : decode cX7_takes 154 = .ok (.getfield 31, 3) := by decide +kernel
theorem dX7_takes_157 : decode cX7_takes 157 = .ok (.iload_n 2, 1) := by decide +kernel
theorem dX7_takes_158 : decode cX7_takes 158 = .ok (.iload_n 3, 1) := by decide +kernel
theorem dX7_takes_159 : decode cX7_takes 159 = .ok (.iastore, 1) := by decide +kernel
theorem dX7_takes_160 : decode cX7_takes 160 = .ok (.aload_n 0, 1) := by decide +kernel
theorem dX7_takes_161 : decode cX7_takes 161 = .ok (.dup, 1) := by decide +kernel
theorem dX7_takes_162 : decode cX7_takes 162 = .ok (.getfield 79, 3) := by decide +kernel
theorem dX7_takes_165 : decode cX7_takes 165 = .ok (.iconst 1, 1) := by decide +kernel
theorem dX7_takes_166 : decode cX7_takes 166 = .ok (.iadd, 1) := by decide +kernel
theorem dX7_takes_167 : decode cX7_takes 167 = .ok (.putfield 79, 3) := by decide +kernel
theorem dX7_takes_170 : decode cX7_takes 170 = .ok (.iinc 2 1, 3) := by decide +kernel
theorem dX7_takes_173 : decode cX7_takes 173 = .ok (.goto (-171), 3) := by decide +kernel
theorem dX7_takes_176 : decode cX7_takes 176 = .ok (.iconst 1, 1) := by decide +kernel
theorem dX7_takes_177 : decode cX7_takes 177 = .ok (.ireturn, 1) := by decide +kernel
theorem dX7_takesWheel_0 : decode cX7_takesWheel 0 = .ok (.aload_n 0, 1) := by decide +kernel
theorem dX7_takesWheel_1 : decode cX7_takesWheel 1 = .ok (.iconst 3, 1) := by decide +kernel
theorem dX7_takesWheel_2 : decode cX7_takesWheel 2 = .ok (.invokevirtual 88, 3) := by decide +kernel
theorem dX7_takesWheel_5 : decode cX7_takesWheel 5 = .ok (.ifCond .eq 62, 3) := by decide +kernel
theorem dX7_takesWheel_8 : decode cX7_takesWheel 8 = .ok (.aload_n 0, 1) := by decide +kernel
theorem dX7_takesWheel_9 : decode cX7_takesWheel 9 = .ok (.getfield 31, 3) := by decide +kernel
theorem dX7_takesWheel_12 : decode cX7_takesWheel 12 = .ok (.iconst 0, 1) := by decide +kernel
theorem dX7_takesWheel_13 : decode cX7_takesWheel 13 = .ok (.iaload, 1) := by decide +kernel
theorem dX7_takesWheel_14 : decode cX7_takesWheel 14 = .ok (.i2l, 1) := by decide +kernel
theorem dX7_takesWheel_15 : decode cX7_takesWheel 15 = .ok (.ldc2_w 86, 3) := by decide +kernel
theorem dX7_takesWheel_18 : decode cX7_takesWheel 18 = .ok (.ldc2_w 92, 3) := by decide +kernel
theorem dX7_takesWheel_21 : decode cX7_takesWheel 21 = .ok (.invokestatic 67, 3) := by decide +kernel
theorem dX7_takesWheel_24 : decode cX7_takesWheel 24 = .ok (.ifCond .eq 43, 3) := by decide +kernel
theorem dX7_takesWheel_27 : decode cX7_takesWheel 27 = .ok (.aload_n 0, 1) := by decide +kernel
theorem dX7_takesWheel_28 : decode cX7_takesWheel 28 = .ok (.getfield 31, 3) := by decide +kernel
theorem dX7_takesWheel_31 : decode cX7_takesWheel 31 = .ok (.iconst 1, 1) := by decide +kernel
theorem dX7_takesWheel_32 : decode cX7_takesWheel 32 = .ok (.iaload, 1) := by decide +kernel
theorem dX7_takesWheel_33 : decode cX7_takesWheel 33 = .ok (.aload_n 0, 1) := by decide +kernel
theorem dX7_takesWheel_34 : decode cX7_takesWheel 34 = .ok (.getfield 31, 3) := by decide +kernel
theorem dX7_takesWheel_37 : decode cX7_takesWheel 37 = .ok (.iconst 0, 1) := by decide +kernel
theorem dX7_takesWheel_38 : decode cX7_takesWheel 38 = .ok (.iaload, 1) := by decide +kernel
theorem dX7_takesWheel_39 : decode cX7_takesWheel 39 = .ok (.if_icmp .ge 28, 3) := by decide +kernel
theorem dX7_takesWheel_42 : decode cX7_takesWheel 42 = .ok (.aload_n 0, 1) := by decide +kernel
theorem dX7_takesWheel_43 : decode cX7_takesWheel 43 = .ok (.getfield 31, 3) := by decide +kernel
theorem dX7_takesWheel_46 : decode cX7_takesWheel 46 = .ok (.iconst 2, 1) := by decide +kernel
theorem dX7_takesWheel_47 : decode cX7_takesWheel 47 = .ok (.iaload, 1) := by decide +kernel
theorem dX7_takesWheel_48 : decode cX7_takesWheel 48 = .ok (.aload_n 0, 1) := by decide +kernel
theorem dX7_takesWheel_49 : decode cX7_takesWheel 49 = .ok (.getfield 31, 3) := by decide +kernel
theorem dX7_takesWheel_52 : decode cX7_takesWheel 52 = .ok (.iconst 0, 1) := by decide +kernel
theorem dX7_takesWheel_53 : decode cX7_takesWheel 53 = .ok (.iaload, 1) := by decide +kernel
theorem dX7_takesWheel_54 : decode cX7_takesWheel 54 = .ok (.if_icmp .ge 13, 3) := by decide +kernel
theorem dX7_takesWheel_57 : decode cX7_takesWheel 57 = .ok (.aload_n 0, 1) := by decide +kernel
theorem dX7_takesWheel_58 : decode cX7_takesWheel 58 = .ok (.getfield 13, 3) := by decide +kernel
theorem dX7_takesWheel_61 : decode cX7_takesWheel 61 = .ok (.iconst 0, 1) := by decide +kernel
theorem dX7_takesWheel_62 : decode cX7_takesWheel 62 = .ok (.iaload, 1) := by decide +kernel
theorem dX7_takesWheel_63 : decode cX7_takesWheel 63 = .ok (.iconst 4, 1) := by decide +kernel
theorem dX7_takesWheel_64 : decode cX7_takesWheel 64 = .ok (.if_icmp .ne 5, 3) := by decide +kernel
theorem dX7_takesWheel_67 : decode cX7_takesWheel 67 = .ok (.iconst 0, 1) := by decide +kernel
theorem dX7_takesWheel_68 : decode cX7_takesWheel 68 = .ok (.ireturn, 1) := by decide +kernel
theorem dX7_takesWheel_69 : decode cX7_takesWheel 69 = .ok (.aload_n 0, 1) := by decide +kernel
theorem dX7_takesWheel_70 : decode cX7_takesWheel 70 = .ok (.aload_n 0, 1) := by decide +kernel
theorem dX7_takesWheel_71 : decode cX7_takesWheel 71 = .ok (.getfield 31, 3) := by decide +kernel
theorem dX7_takesWheel_74 : decode cX7_takesWheel 74 = .ok (.iconst 0, 1) := by decide +kernel
theorem dX7_takesWheel_75 : decode cX7_takesWheel 75 = .ok (.iaload, 1) := by decide +kernel
theorem dX7_takesWheel_76 : decode cX7_takesWheel 76 = .ok (.aload_n 0, 1) := by decide +kernel
theorem dX7_takesWheel_77 : decode cX7_takesWheel 77 = .ok (.getfield 31, 3) := by decide +kernel
theorem dX7_takesWheel_80 : decode cX7_takesWheel 80 = .ok (.iconst 1, 1) := by decide +kernel
theorem dX7_takesWheel_81 : decode cX7_takesWheel 81 = .ok (.iaload, 1) := by decide +kernel
theorem dX7_takesWheel_82 : decode cX7_takesWheel 82 = .ok (.aload_n 0, 1) := by decide +kernel
theorem dX7_takesWheel_83 : decode cX7_takesWheel 83 = .ok (.getfield 31, 3) := by decide +kernel
theorem dX7_takesWheel_86 : decode cX7_takesWheel 86 = .ok (.iconst 2, 1) := by decide +kernel
theorem dX7_takesWheel_87 : decode cX7_takesWheel 87 = .ok (.iaload, 1) := by decide +kernel
theorem dX7_takesWheel_88 : decode cX7_takesWheel 88 = .ok (.invokevirtual 52, 3) := by decide +kernel
theorem dX7_takesWheel_91 : decode cX7_takesWheel 91 = .ok (.iconst 1, 1) := by decide +kernel
theorem dX7_takesWheel_92 : decode cX7_takesWheel 92 = .ok (.ireturn, 1) := by decide +kernel
theorem dX7_isToldTooth_0 : decode cX7_isToldTooth 0 = .ok (.iload_n 1, 1) := by decide +kernel
theorem dX7_isToldTooth_1 : decode cX7_isToldTooth 1 = .ok (.aload_n 0, 1) := by decide +kernel
theorem dX7_isToldTooth_2 : decode cX7_isToldTooth 2 = .ok (.getfield 13, 3) := by decide +kernel
theorem dX7_isToldTooth_5 : decode cX7_isToldTooth 5 = .ok (.iconst 0, 1) := by decide +kernel
theorem dX7_isToldTooth_6 : decode cX7_isToldTooth 6 = .ok (.iaload, 1) := by decide +kernel
theorem dX7_isToldTooth_7 : decode cX7_isToldTooth 7 = .ok (.if_icmp .ge 19, 3) := by decide +kernel
theorem dX7_isToldTooth_10 : decode cX7_isToldTooth 10 = .ok (.iload_n 2, 1) := by decide +kernel
theorem dX7_isToldTooth_11 : decode cX7_isToldTooth 11 = .ok (.aload_n 0, 1) := by decide +kernel
theorem dX7_isToldTooth_12 : decode cX7_isToldTooth 12 = .ok (.getfield 13, 3) := by decide +kernel
theorem dX7_isToldTooth_15 : decode cX7_isToldTooth 15 = .ok (.iconst 5, 1) := by decide +kernel
theorem dX7_isToldTooth_16 : decode cX7_isToldTooth 16 = .ok (.iload_n 1, 1) := by decide +kernel
theorem dX7_isToldTooth_17 : decode cX7_isToldTooth 17 = .ok (.iadd, 1) := by decide +kernel
theorem dX7_isToldTooth_18 : decode cX7_isToldTooth 18 = .ok (.iaload, 1) := by decide +kernel
theorem dX7_isToldTooth_19 : decode cX7_isToldTooth 19 = .ok (.if_icmp .ge 7, 3) := by decide +kernel
theorem dX7_isToldTooth_22 : decode cX7_isToldTooth 22 = .ok (.iconst 1, 1) := by decide +kernel
theorem dX7_isToldTooth_23 : decode cX7_isToldTooth 23 = .ok (.goto 4, 3) := by decide +kernel
theorem dX7_isToldTooth_26 : decode cX7_isToldTooth 26 = .ok (.iconst 0, 1) := by decide +kernel
theorem dX7_isToldTooth_27 : decode cX7_isToldTooth 27 = .ok (.ireturn, 1) := by decide +kernel
theorem dX7_takesPair_0 : decode cX7_takesPair 0 = .ok (.aload_n 0, 1) := by decide +kernel
theorem dX7_takesPair_1 : decode cX7_takesPair 1 = .ok (.iconst 4, 1) := by decide +kernel
theorem dX7_takesPair_2 : decode cX7_takesPair 2 = .ok (.invokevirtual 88, 3) := by decide +kernel
theorem dX7_takesPair_5 : decode cX7_takesPair 5 = .ok (.ifCond .eq 67, 3) := by decide +kernel
theorem dX7_takesPair_8 : decode cX7_takesPair 8 = .ok (.aload_n 0, 1) := by decide +kernel
theorem dX7_takesPair_9 : decode cX7_takesPair 9 = .ok (.aload_n 0, 1) := by decide +kernel
theorem dX7_takesPair_10 : decode cX7_takesPair 10 = .ok (.getfield 31, 3) := by decide +kernel
theorem dX7_takesPair_13 : decode cX7_takesPair 13 = .ok (.iconst 0, 1) := by decide +kernel
theorem dX7_takesPair_14 : decode cX7_takesPair 14 = .ok (.iaload, 1) := by decide +kernel
theorem dX7_takesPair_15 : decode cX7_takesPair 15 = .ok (.aload_n 0, 1) := by decide +kernel
theorem dX7_takesPair_16 : decode cX7_takesPair 16 = .ok (.getfield 31, 3) := by decide +kernel
theorem dX7_takesPair_19 : decode cX7_takesPair 19 = .ok (.iconst 1, 1) := by decide +kernel
theorem dX7_takesPair_20 : decode cX7_takesPair 20 = .ok (.iaload, 1) := by decide +kernel
theorem dX7_takesPair_21 : decode cX7_takesPair 21 = .ok (.invokevirtual 94, 3) := by decide +kernel
theorem dX7_takesPair_24 : decode cX7_takesPair 24 = .ok (.ifCond .eq 48, 3) := by decide +kernel
theorem dX7_takesPair_27 : decode cX7_takesPair 27 = .ok (.aload_n 0, 1) := by decide +kernel
theorem dX7_takesPair_28 : decode cX7_takesPair 28 = .ok (.aload_n 0, 1) := by decide +kernel
theorem dX7_takesPair_29 : decode cX7_takesPair 29 = .ok (.getfield 31, 3) := by decide +kernel
theorem dX7_takesPair_32 : decode cX7_takesPair 32 = .ok (.iconst 2, 1) := by decide +kernel
theorem dX7_takesPair_33 : decode cX7_takesPair 33 = .ok (.iaload, 1) := by decide +kernel
theorem dX7_takesPair_34 : decode cX7_takesPair 34 = .ok (.aload_n 0, 1) := by decide +kernel
theorem dX7_takesPair_35 : decode cX7_takesPair 35 = .ok (.getfield 31, 3) := by decide +kernel
theorem dX7_takesPair_38 : decode cX7_takesPair 38 = .ok (.iconst 3, 1) := by decide +kernel
theorem dX7_takesPair_39 : decode cX7_takesPair 39 = .ok (.iaload, 1) := by decide +kernel
theorem dX7_takesPair_40 : decode cX7_takesPair 40 = .ok (.invokevirtual 94, 3) := by decide +kernel
theorem dX7_takesPair_43 : decode cX7_takesPair 43 = .ok (.ifCond .eq 29, 3) := by decide +kernel
theorem dX7_takesPair_46 : decode cX7_takesPair 46 = .ok (.aload_n 0, 1) := by decide +kernel
theorem dX7_takesPair_47 : decode cX7_takesPair 47 = .ok (.getfield 31, 3) := by decide +kernel
theorem dX7_takesPair_50 : decode cX7_takesPair 50 = .ok (.iconst 0, 1) := by decide +kernel
theorem dX7_takesPair_51 : decode cX7_takesPair 51 = .ok (.iaload, 1) := by decide +kernel
theorem dX7_takesPair_52 : decode cX7_takesPair 52 = .ok (.aload_n 0, 1) := by decide +kernel
theorem dX7_takesPair_53 : decode cX7_takesPair 53 = .ok (.getfield 31, 3) := by decide +kernel
theorem dX7_takesPair_56 : decode cX7_takesPair 56 = .ok (.iconst 2, 1) := by decide +kernel
theorem dX7_takesPair_57 : decode cX7_takesPair 57 = .ok (.iaload, 1) := by decide +kernel
theorem dX7_takesPair_58 : decode cX7_takesPair 58 = .ok (.if_icmp .eq 14, 3) := by decide +kernel
theorem dX7_takesPair_61 : decode cX7_takesPair 61 = .ok (.aload_n 0, 1) := by decide +kernel
theorem dX7_takesPair_62 : decode cX7_takesPair 62 = .ok (.getfield 13, 3) := by decide +kernel
theorem dX7_takesPair_65 : decode cX7_takesPair 65 = .ok (.iconst 2, 1) := by decide +kernel
theorem dX7_takesPair_66 : decode cX7_takesPair 66 = .ok (.iaload, 1) := by decide +kernel
theorem dX7_takesPair_67 : decode cX7_takesPair 67 = .ok (.bipush 8, 2) := by decide +kernel
theorem dX7_takesPair_69 : decode cX7_takesPair 69 = .ok (.if_icmp .ne 5, 3) := by decide +kernel
theorem dX7_takesPair_72 : decode cX7_takesPair 72 = .ok (.iconst 0, 1) := by decide +kernel
theorem dX7_takesPair_73 : decode cX7_takesPair 73 = .ok (.ireturn, 1) := by decide +kernel
theorem dX7_takesPair_74 : decode cX7_takesPair 74 = .ok (.aload_n 0, 1) := by decide +kernel
theorem dX7_takesPair_75 : decode cX7_takesPair 75 = .ok (.aload_n 0, 1) := by decide +kernel
theorem dX7_takesPair_76 : decode cX7_takesPair 76 = .ok (.getfield 31, 3) := by decide +kernel
theorem dX7_takesPair_79 : decode cX7_takesPair 79 = .ok (.iconst 0, 1) := by decide +kernel
theorem dX7_takesPair_80 : decode cX7_takesPair 80 = .ok (.iaload, 1) := by decide +kernel
theorem dX7_takesPair_81 : decode cX7_takesPair 81 = .ok (.aload_n 0, 1) := by decide +kernel
theorem dX7_takesPair_82 : decode cX7_takesPair 82 = .ok (.getfield 31, 3) := by decide +kernel
theorem dX7_takesPair_85 : decode cX7_takesPair 85 = .ok (.iconst 1, 1) := by decide +kernel
theorem dX7_takesPair_86 : decode cX7_takesPair 86 = .ok (.iaload, 1) := by decide +kernel
theorem dX7_takesPair_87 : decode cX7_takesPair 87 = .ok (.aload_n 0, 1) := by decide +kernel
theorem dX7_takesPair_88 : decode cX7_takesPair 88 = .ok (.getfield 31, 3) := by decide +kernel
theorem dX7_takesPair_91 : decode cX7_takesPair 91 = .ok (.iconst 2, 1) := by decide +kernel
theorem dX7_takesPair_92 : decode cX7_takesPair 92 = .ok (.iaload, 1) := by decide +kernel
theorem dX7_takesPair_93 : decode cX7_takesPair 93 = .ok (.aload_n 0, 1) := by decide +kernel
theorem dX7_takesPair_94 : decode cX7_takesPair 94 = .ok (.getfield 31, 3) := by decide +kernel
theorem dX7_takesPair_97 : decode cX7_takesPair 97 = .ok (.iconst 3, 1) := by decide +kernel
theorem dX7_takesPair_98 : decode cX7_takesPair 98 = .ok (.iaload, 1) := by decide +kernel
theorem dX7_takesPair_99 : decode cX7_takesPair 99 = .ok (.invokevirtual 56, 3) := by decide +kernel
theorem dX7_takesPair_102 : decode cX7_takesPair 102 = .ok (.iconst 1, 1) := by decide +kernel
theorem dX7_takesPair_103 : decode cX7_takesPair 103 = .ok (.ireturn, 1) := by decide +kernel
theorem dX7_takesPerson_0 : decode cX7_takesPerson 0 = .ok (.aload_n 0, 1) := by decide +kernel
theorem dX7_takesPerson_1 : decode cX7_takesPerson 1 = .ok (.iconst 1, 1) := by decide +kernel
theorem dX7_takesPerson_2 : decode cX7_takesPerson 2 = .ok (.invokevirtual 88, 3) := by decide +kernel
theorem dX7_takesPerson_5 : decode cX7_takesPerson 5 = .ok (.ifCond .eq 24, 3) := by decide +kernel
theorem dX7_takesPerson_8 : decode cX7_takesPerson 8 = .ok (.aload_n 0, 1) := by decide +kernel
theorem dX7_takesPerson_9 : decode cX7_takesPerson 9 = .ok (.getfield 31, 3) := by decide +kernel
theorem dX7_takesPerson_12 : decode cX7_takesPerson 12 = .ok (.iconst 0, 1) := by decide +kernel
theorem dX7_takesPerson_13 : decode cX7_takesPerson 13 = .ok (.iaload, 1) := by decide +kernel
theorem dX7_takesPerson_14 : decode cX7_takesPerson 14 = .ok (.bipush 31, 2) := by decide +kernel
theorem dX7_takesPerson_16 : decode cX7_takesPerson 16 = .ok (.if_icmp .gt 13, 3) := by decide +kernel
theorem dX7_takesPerson_19 : decode cX7_takesPerson 19 = .ok (.aload_n 0, 1) := by decide +kernel
theorem dX7_takesPerson_20 : decode cX7_takesPerson 20 = .ok (.getfield 13, 3) := by decide +kernel
theorem dX7_takesPerson_23 : decode cX7_takesPerson 23 = .ok (.iconst 1, 1) := by decide +kernel
theorem dX7_takesPerson_24 : decode cX7_takesPerson 24 = .ok (.iaload, 1) := by decide +kernel
theorem dX7_takesPerson_25 : decode cX7_takesPerson 25 = .ok (.iconst 5, 1) := by decide +kernel
theorem dX7_takesPerson_26 : decode cX7_takesPerson 26 = .ok (.if_icmp .ne 5, 3) := by decide +kernel
theorem dX7_takesPerson_29 : decode cX7_takesPerson 29 = .ok (.iconst 0, 1) := by decide +kernel
theorem dX7_takesPerson_30 : decode cX7_takesPerson 30 = .ok (.ireturn, 1) := by decide +kernel
theorem dX7_takesPerson_31 : decode cX7_takesPerson 31 = .ok (.aload_n 0, 1) := by decide +kernel
theorem dX7_takesPerson_32 : decode cX7_takesPerson 32 = .ok (.aload_n 0, 1) := by decide +kernel
theorem dX7_takesPerson_33 : decode cX7_takesPerson 33 = .ok (.getfield 31, 3) := by decide +kernel
theorem dX7_takesPerson_36 : decode cX7_takesPerson 36 = .ok (.iconst 0, 1) := by decide +kernel
theorem dX7_takesPerson_37 : decode cX7_takesPerson 37 = .ok (.iaload, 1) := by decide +kernel
theorem dX7_takesPerson_38 : decode cX7_takesPerson 38 = .ok (.invokevirtual 60, 3) := by decide +kernel
theorem dX7_takesPerson_41 : decode cX7_takesPerson 41 = .ok (.iconst 1, 1) := by decide +kernel
theorem dX7_takesPerson_42 : decode cX7_takesPerson 42 = .ok (.ireturn, 1) := by decide +kernel
theorem dX7_takesWear_0 : decode cX7_takesWear 0 = .ok (.aload_n 0, 1) := by decide +kernel
theorem dX7_takesWear_1 : decode cX7_takesWear 1 = .ok (.iconst 2, 1) := by decide +kernel
theorem dX7_takesWear_2 : decode cX7_takesWear 2 = .ok (.invokevirtual 88, 3) := by decide +kernel
theorem dX7_takesWear_5 : decode cX7_takesWear 5 = .ok (.ifCond .eq 14, 3) := by decide +kernel
theorem dX7_takesWear_8 : decode cX7_takesWear 8 = .ok (.aload_n 0, 1) := by decide +kernel
theorem dX7_takesWear_9 : decode cX7_takesWear 9 = .ok (.getfield 31, 3) := by decide +kernel
theorem dX7_takesWear_12 : decode cX7_takesWear 12 = .ok (.iconst 0, 1) := by decide +kernel
theorem dX7_takesWear_13 : decode cX7_takesWear 13 = .ok (.iaload, 1) := by decide +kernel
theorem dX7_takesWear_14 : decode cX7_takesWear 14 = .ok (.bipush 9, 2) := by decide +kernel
theorem dX7_takesWear_16 : decode cX7_takesWear 16 = .ok (.if_icmp .le 5, 3) := by decide +kernel
theorem dX7_takesWear_19 : decode cX7_takesWear 19 = .ok (.iconst 0, 1) := by decide +kernel
theorem dX7_takesWear_20 : decode cX7_takesWear 20 = .ok (.ireturn, 1) := by decide +kernel
theorem dX7_takesWear_21 : decode cX7_takesWear 21 = .ok (.aload_n 0, 1) := by decide +kernel
theorem dX7_takesWear_22 : decode cX7_takesWear 22 = .ok (.getfield 13, 3) := by decide +kernel
theorem dX7_takesWear_25 : decode cX7_takesWear 25 = .ok (.iconst 3, 1) := by decide +kernel
theorem dX7_takesWear_26 : decode cX7_takesWear 26 = .ok (.aload_n 0, 1) := by decide +kernel
theorem dX7_takesWear_27 : decode cX7_takesWear 27 = .ok (.getfield 31, 3) := by decide +kernel
theorem dX7_takesWear_30 : decode cX7_takesWear 30 = .ok (.iconst 0, 1) := by decide +kernel
theorem dX7_takesWear_31 : decode cX7_takesWear 31 = .ok (.iaload, 1) := by decide +kernel
theorem dX7_takesWear_32 : decode cX7_takesWear 32 = .ok (.iastore, 1) := by decide +kernel
theorem dX7_takesWear_33 : decode cX7_takesWear 33 = .ok (.aload_n 0, 1) := by decide +kernel
theorem dX7_takesWear_34 : decode cX7_takesWear 34 = .ok (.getfield 13, 3) := by decide +kernel
theorem dX7_takesWear_37 : decode cX7_takesWear 37 = .ok (.iconst 4, 1) := by decide +kernel
theorem dX7_takesWear_38 : decode cX7_takesWear 38 = .ok (.aload_n 0, 1) := by decide +kernel
theorem dX7_takesWear_39 : decode cX7_takesWear 39 = .ok (.getfield 31, 3) := by decide +kernel
theorem dX7_takesWear_42 : decode cX7_takesWear 42 = .ok (.iconst 1, 1) := by decide +kernel
theorem dX7_takesWear_43 : decode cX7_takesWear 43 = .ok (.iaload, 1) := by decide +kernel
theorem dX7_takesWear_44 : decode cX7_takesWear 44 = .ok (.iastore, 1) := by decide +kernel
theorem dX7_takesWear_45 : decode cX7_takesWear 45 = .ok (.iconst 1, 1) := by decide +kernel
theorem dX7_takesWear_46 : decode cX7_takesWear 46 = .ok (.ireturn, 1) := by decide +kernel
theorem dX7_takesItem_0 : decode cX7_takesItem 0 = .ok (.aload_n 0, 1) := by decide +kernel
theorem dX7_takesItem_1 : decode cX7_takesItem 1 = .ok (.getfield 25, 3) := by decide +kernel
theorem dX7_takesItem_4 : decode cX7_takesItem 4 = .ok (.aload_n 0, 1) := by decide +kernel
theorem dX7_takesItem_5 : decode cX7_takesItem 5 = .ok (.getfield 79, 3) := by decide +kernel
theorem dX7_takesItem_8 : decode cX7_takesItem 8 = .ok (.iaload, 1) := by decide +kernel
theorem dX7_takesItem_9 : decode cX7_takesItem 9 = .ok (.istore_n 1, 1) := by decide +kernel
theorem dX7_takesItem_10 : decode cX7_takesItem 10 = .ok (.aload_n 0, 1) := by decide +kernel
theorem dX7_takesItem_11 : decode cX7_takesItem 11 = .ok (.dup, 1) := by decide +kernel
theorem dX7_takesItem_12 : decode cX7_takesItem 12 = .ok (.getfield 79, 3) := by decide +kernel
theorem dX7_takesItem_15 : decode cX7_takesItem 15 = .ok (.iconst 1, 1) := by decide +kernel
theorem dX7_takesItem_16 : decode cX7_takesItem 16 = .ok (.iadd, 1) := by decide +kernel
theorem dX7_takesItem_17 : decode cX7_takesItem 17 = .ok (.putfield 79, 3) := by decide +kernel
theorem dX7_takesItem_20 : decode cX7_takesItem 20 = .ok (.iload_n 1, 1) := by decide +kernel
theorem dX7_takesItem_21 : decode cX7_takesItem 21 = .ok (.tableswitch 75 111 120 #[70, 65, 75, 75, 75, 75, 75, 75, 55, 60], 55) := by decide +kernel
theorem dX7_takesItem_76 : decode cX7_takesItem 76 = .ok (.aload_n 0, 1) := by decide +kernel
theorem dX7_takesItem_77 : decode cX7_takesItem 77 = .ok (.invokevirtual 98, 3) := by decide +kernel
theorem dX7_takesItem_80 : decode cX7_takesItem 80 = .ok (.ireturn, 1) := by decide +kernel
theorem dX7_takesItem_81 : decode cX7_takesItem 81 = .ok (.aload_n 0, 1) := by decide +kernel
theorem dX7_takesItem_82 : decode cX7_takesItem 82 = .ok (.invokevirtual 102, 3) := by decide +kernel
theorem dX7_takesItem_85 : decode cX7_takesItem 85 = .ok (.ireturn, 1) := by decide +kernel
theorem dX7_takesItem_86 : decode cX7_takesItem 86 = .ok (.aload_n 0, 1) := by decide +kernel
theorem dX7_takesItem_87 : decode cX7_takesItem 87 = .ok (.invokevirtual 105, 3) := by decide +kernel
theorem dX7_takesItem_90 : decode cX7_takesItem 90 = .ok (.ireturn, 1) := by decide +kernel
theorem dX7_takesItem_91 : decode cX7_takesItem 91 = .ok (.aload_n 0, 1) := by decide +kernel
theorem dX7_takesItem_92 : decode cX7_takesItem 92 = .ok (.invokevirtual 108, 3) := by decide +kernel
theorem dX7_takesItem_95 : decode cX7_takesItem 95 = .ok (.ireturn, 1) := by decide +kernel
theorem dX7_takesItem_96 : decode cX7_takesItem 96 = .ok (.iconst 0, 1) := by decide +kernel
theorem dX7_takesItem_97 : decode cX7_takesItem 97 = .ok (.ireturn, 1) := by decide +kernel
theorem dX7_fault_0 : decode cX7_fault 0 = .ok (.aload_n 0, 1) := by decide +kernel
theorem dX7_fault_1 : decode cX7_fault 1 = .ok (.invokevirtual 49, 3) := by decide +kernel
theorem dX7_fault_4 : decode cX7_fault 4 = .ok (.aload_n 0, 1) := by decide +kernel
theorem dX7_fault_5 : decode cX7_fault 5 = .ok (.iconst 0, 1) := by decide +kernel
theorem dX7_fault_6 : decode cX7_fault 6 = .ok (.putfield 79, 3) := by decide +kernel
theorem dX7_fault_9 : decode cX7_fault 9 = .ok (.aload_n 0, 1) := by decide +kernel
theorem dX7_fault_10 : decode cX7_fault 10 = .ok (.getfield 79, 3) := by decide +kernel
theorem dX7_fault_13 : decode cX7_fault 13 = .ok (.aload_n 0, 1) := by decide +kernel
theorem dX7_fault_14 : decode cX7_fault 14 = .ok (.getfield 75, 3) := by decide +kernel
theorem dX7_fault_17 : decode cX7_fault 17 = .ok (.if_icmp .ge 20, 3) := by decide +kernel
theorem dX7_fault_20 : decode cX7_fault 20 = .ok (.aload_n 0, 1) := by decide +kernel
theorem dX7_fault_21 : decode cX7_fault 21 = .ok (.getfield 79, 3) := by decide +kernel
theorem dX7_fault_24 : decode cX7_fault 24 = .ok (.istore_n 1, 1) := by decide +kernel
theorem dX7_fault_25 : decode cX7_fault 25 = .ok (.aload_n 0, 1) := by decide +kernel
theorem dX7_fault_26 : decode cX7_fault 26 = .ok (.invokevirtual 111, 3) := by decide +kernel
theorem dX7_fault_29 : decode cX7_fault 29 = .ok (.ifCond .ne 5, 3) := by decide +kernel
theorem dX7_fault_32 : decode cX7_fault 32 = .ok (.iload_n 1, 1) := by decide +kernel
theorem dX7_fault_33 : decode cX7_fault 33 = .ok (.ireturn, 1) := by decide +kernel
theorem dX7_fault_34 : decode cX7_fault 34 = .ok (.goto (-25), 3) := by decide +kernel
theorem dX7_fault_37 : decode cX7_fault 37 = .ok (.bipush (-4), 2) := by decide +kernel
theorem dX7_fault_39 : decode cX7_fault 39 = .ok (.ireturn, 1) := by decide +kernel
theorem dX7_begins_0 : decode cX7_begins 0 = .ok (.iconst 0, 1) := by decide +kernel
theorem dX7_begins_1 : decode cX7_begins 1 = .ok (.istore_n 1, 1) := by decide +kernel
theorem dX7_begins_2 : decode cX7_begins 2 = .ok (.iload_n 1, 1) := by decide +kernel
theorem dX7_begins_3 : decode cX7_begins 3 = .ok (.bipush 54, 2) := by decide +kernel
theorem dX7_begins_5 : decode cX7_begins 5 = .ok (.if_icmp .ge 21, 3) := by decide +kernel
theorem dX7_begins_8 : decode cX7_begins 8 = .ok (.aload_n 0, 1) := by decide +kernel
theorem dX7_begins_9 : decode cX7_begins 9 = .ok (.getfield 7, 3) := by decide +kernel
theorem dX7_begins_12 : decode cX7_begins 12 = .ok (.iload_n 1, 1) := by decide +kernel
theorem dX7_begins_13 : decode cX7_begins 13 = .ok (.aload_n 0, 1) := by decide +kernel
theorem dX7_begins_14 : decode cX7_begins 14 = .ok (.getfield 13, 3) := by decide +kernel
theorem dX7_begins_17 : decode cX7_begins 17 = .ok (.iload_n 1, 1) := by decide +kernel
theorem dX7_begins_18 : decode cX7_begins 18 = .ok (.iaload, 1) := by decide +kernel
theorem dX7_begins_19 : decode cX7_begins 19 = .ok (.iastore, 1) := by decide +kernel
theorem dX7_begins_20 : decode cX7_begins 20 = .ok (.iinc 1 1, 3) := by decide +kernel
theorem dX7_begins_23 : decode cX7_begins 23 = .ok (.goto (-21), 3) := by decide +kernel
theorem dX7_begins_26 : decode cX7_begins 26 = .ok (.iconst 0, 1) := by decide +kernel
theorem dX7_begins_27 : decode cX7_begins 27 = .ok (.istore_n 1, 1) := by decide +kernel
theorem dX7_begins_28 : decode cX7_begins 28 = .ok (.iload_n 1, 1) := by decide +kernel
theorem dX7_begins_29 : decode cX7_begins 29 = .ok (.bipush 76, 2) := by decide +kernel
theorem dX7_begins_31 : decode cX7_begins 31 = .ok (.if_icmp .ge 16, 3) := by decide +kernel
theorem dX7_begins_34 : decode cX7_begins 34 = .ok (.aload_n 0, 1) := by decide +kernel
theorem dX7_begins_35 : decode cX7_begins 35 = .ok (.getfield 16, 3) := by decide +kernel
theorem dX7_begins_38 : decode cX7_begins 38 = .ok (.iload_n 1, 1) := by decide +kernel
theorem dX7_begins_39 : decode cX7_begins 39 = .ok (.iconst 0, 1) := by decide +kernel
theorem dX7_begins_40 : decode cX7_begins 40 = .ok (.iastore, 1) := by decide +kernel
theorem dX7_begins_41 : decode cX7_begins 41 = .ok (.iinc 1 1, 3) := by decide +kernel
theorem dX7_begins_44 : decode cX7_begins 44 = .ok (.goto (-16), 3) := by decide +kernel
theorem dX7_begins_47 : decode cX7_begins 47 = .ok (.iconst 0, 1) := by decide +kernel
theorem dX7_begins_48 : decode cX7_begins 48 = .ok (.istore_n 1, 1) := by decide +kernel
theorem dX7_begins_49 : decode cX7_begins 49 = .ok (.iload_n 1, 1) := by decide +kernel
theorem dX7_begins_50 : decode cX7_begins 50 = .ok (.iconst 4, 1) := by decide +kernel
theorem dX7_begins_51 : decode cX7_begins 51 = .ok (.if_icmp .ge 44, 3) := by decide +kernel
theorem dX7_begins_54 : decode cX7_begins 54 = .ok (.aload_n 0, 1) := by decide +kernel
theorem dX7_begins_55 : decode cX7_begins 55 = .ok (.getfield 16, 3) := by decide +kernel
theorem dX7_begins_58 : decode cX7_begins 58 = .ok (.iconst 4, 1) := by decide +kernel
theorem dX7_begins_59 : decode cX7_begins 59 = .ok (.iload_n 1, 1) := by decide +kernel
theorem dX7_begins_60 : decode cX7_begins 60 = .ok (.iadd, 1) := by decide +kernel
theorem dX7_begins_61 : decode cX7_begins 61 = .ok (.aload_n 0, 1) := by decide +kernel
theorem dX7_begins_62 : decode cX7_begins 62 = .ok (.getfield 7, 3) := by decide +kernel
theorem dX7_begins_65 : decode cX7_begins 65 = .ok (.bipush 9, 2) := by decide +kernel
theorem dX7_begins_67 : decode cX7_begins 67 = .ok (.iload_n 1, 1) := by decide +kernel
theorem dX7_begins_68 : decode cX7_begins 68 = .ok (.iadd, 1) := by decide +kernel
theorem dX7_begins_69 : decode cX7_begins 69 = .ok (.iaload, 1) := by decide +kernel
theorem dX7_begins_70 : decode cX7_begins 70 = .ok (.iastore, 1) := by decide +kernel
theorem dX7_begins_71 : decode cX7_begins 71 = .ok (.aload_n 0, 1) := by decide +kernel
theorem dX7_begins_72 : decode cX7_begins 72 = .ok (.getfield 16, 3) := by decide +kernel
theorem dX7_begins_75 : decode cX7_begins 75 = .ok (.bipush 8, 2) := by decide +kernel
theorem dX7_begins_77 : decode cX7_begins 77 = .ok (.iload_n 1, 1) := by decide +kernel
theorem dX7_begins_78 : decode cX7_begins 78 = .ok (.iadd, 1) := by decide +kernel
theorem dX7_begins_79 : decode cX7_begins 79 = .ok (.aload_n 0, 1) := by decide +kernel
theorem dX7_begins_80 : decode cX7_begins 80 = .ok (.getfield 7, 3) := by decide +kernel
theorem dX7_begins_83 : decode cX7_begins 83 = .ok (.bipush 13, 2) := by decide +kernel
theorem dX7_begins_85 : decode cX7_begins 85 = .ok (.iload_n 1, 1) := by decide +kernel
theorem dX7_begins_86 : decode cX7_begins 86 = .ok (.iadd, 1) := by decide +kernel
theorem dX7_begins_87 : decode cX7_begins 87 = .ok (.iaload, 1) := by decide +kernel
theorem dX7_begins_88 : decode cX7_begins 88 = .ok (.iastore, 1) := by decide +kernel
theorem dX7_begins_89 : decode cX7_begins 89 = .ok (.iinc 1 1, 3) := by decide +kernel
theorem dX7_begins_92 : decode cX7_begins 92 = .ok (.goto (-43), 3) := by decide +kernel
theorem dX7_begins_95 : decode cX7_begins 95 = .ok (.aload_n 0, 1) := by decide +kernel
theorem dX7_begins_96 : decode cX7_begins 96 = .ok (.iconst 0, 1) := by decide +kernel
theorem dX7_begins_97 : decode cX7_begins 97 = .ok (.putfield 114, 3) := by decide +kernel
theorem dX7_begins_100 : decode cX7_begins 100 = .ok (.aload_n 0, 1) := by decide +kernel
theorem dX7_begins_101 : decode cX7_begins 101 = .ok (.iconst 0, 1) := by decide +kernel
theorem dX7_begins_102 : decode cX7_begins 102 = .ok (.putfield 117, 3) := by decide +kernel
theorem dX7_begins_105 : decode cX7_begins 105 = .ok (.aload_n 0, 1) := by decide +kernel
theorem dX7_begins_106 : decode cX7_begins 106 = .ok (.iconst 0, 1) := by decide +kernel
theorem dX7_begins_107 : decode cX7_begins 107 = .ok (.putfield 120, 3) := by decide +kernel
theorem dX7_begins_110 : decode cX7_begins 110 = .ok (.return_, 1) := by decide +kernel
theorem dX7_lay_0 : decode cX7_lay 0 = .ok (.aload_n 0, 1) := by decide +kernel
theorem dX7_lay_1 : decode cX7_lay 1 = .ok (.invokevirtual 123, 3) := by decide +kernel
theorem dX7_lay_4 : decode cX7_lay 4 = .ok (.bipush (-4), 2) := by decide +kernel
theorem dX7_lay_6 : decode cX7_lay 6 = .ok (.if_icmp .ne 12, 3) := by decide +kernel
theorem dX7_lay_9 : decode cX7_lay 9 = .ok (.aload_n 0, 1) := by decide +kernel
theorem dX7_lay_10 : decode cX7_lay 10 = .ok (.getfield 13, 3) := by decide +kernel
theorem dX7_lay_13 : decode cX7_lay 13 = .ok (.iconst 0, 1) := by decide +kernel
theorem dX7_lay_14 : decode cX7_lay 14 = .ok (.iaload, 1) := by decide +kernel
theorem dX7_lay_15 : decode cX7_lay 15 = .ok (.ifCond .ne 6, 3) := by decide +kernel
theorem dX7_lay_18 : decode cX7_lay 18 = .ok (.bipush (-2), 2) := by decide +kernel
theorem dX7_lay_20 : decode cX7_lay 20 = .ok (.ireturn, 1) := by decide +kernel
theorem dX7_lay_21 : decode cX7_lay 21 = .ok (.aload_n 0, 1) := by decide +kernel
theorem dX7_lay_22 : decode cX7_lay 22 = .ok (.invokevirtual 64, 3) := by decide +kernel
theorem dX7_lay_25 : decode cX7_lay 25 = .ok (.aload_n 0, 1) := by decide +kernel
theorem dX7_lay_26 : decode cX7_lay 26 = .ok (.getfield 7, 3) := by decide +kernel
theorem dX7_lay_29 : decode cX7_lay 29 = .ok (.iconst 0, 1) := by decide +kernel
theorem dX7_lay_30 : decode cX7_lay 30 = .ok (.iaload, 1) := by decide +kernel
theorem dX7_lay_31 : decode cX7_lay 31 = .ok (.ireturn, 1) := by decide +kernel
theorem dX7_isWheel_0 : decode cX7_isWheel 0 = .ok (.iload_n 1, 1) := by decide +kernel
theorem dX7_isWheel_1 : decode cX7_isWheel 1 = .ok (.i2l, 1) := by decide +kernel
theorem dX7_isWheel_2 : decode cX7_isWheel 2 = .ok (.lconst 0, 1) := by decide +kernel
theorem dX7_isWheel_3 : decode cX7_isWheel 3 = .ok (.aload_n 0, 1) := by decide +kernel
theorem dX7_isWheel_4 : decode cX7_isWheel 4 = .ok (.getfield 7, 3) := by decide +kernel
theorem dX7_isWheel_7 : decode cX7_isWheel 7 = .ok (.iconst 0, 1) := by decide +kernel
theorem dX7_isWheel_8 : decode cX7_isWheel 8 = .ok (.iaload, 1) := by decide +kernel
theorem dX7_isWheel_9 : decode cX7_isWheel 9 = .ok (.iconst 1, 1) := by decide +kernel
theorem dX7_isWheel_10 : decode cX7_isWheel 10 = .ok (.isub, 1) := by decide +kernel
theorem dX7_isWheel_11 : decode cX7_isWheel 11 = .ok (.i2l, 1) := by decide +kernel
theorem dX7_isWheel_12 : decode cX7_isWheel 12 = .ok (.invokestatic 67, 3) := by decide +kernel
theorem dX7_isWheel_15 : decode cX7_isWheel 15 = .ok (.ireturn, 1) := by decide +kernel
theorem dX7_isTooth_0 : decode cX7_isTooth 0 = .ok (.aload_n 0, 1) := by decide +kernel
theorem dX7_isTooth_1 : decode cX7_isTooth 1 = .ok (.iload_n 1, 1) := by decide +kernel
theorem dX7_isTooth_2 : decode cX7_isTooth 2 = .ok (.invokevirtual 127, 3) := by decide +kernel
theorem dX7_isTooth_5 : decode cX7_isTooth 5 = .ok (.ifCond .eq 27, 3) := by decide +kernel
theorem dX7_isTooth_8 : decode cX7_isTooth 8 = .ok (.iload_n 2, 1) := by decide +kernel
theorem dX7_isTooth_9 : decode cX7_isTooth 9 = .ok (.i2l, 1) := by decide +kernel
theorem dX7_isTooth_10 : decode cX7_isTooth 10 = .ok (.lconst 0, 1) := by decide +kernel
theorem dX7_isTooth_11 : decode cX7_isTooth 11 = .ok (.aload_n 0, 1) := by decide +kernel
theorem dX7_isTooth_12 : decode cX7_isTooth 12 = .ok (.getfield 7, 3) := by decide +kernel
theorem dX7_isTooth_15 : decode cX7_isTooth 15 = .ok (.iconst 5, 1) := by decide +kernel
theorem dX7_isTooth_16 : decode cX7_isTooth 16 = .ok (.iload_n 1, 1) := by decide +kernel
theorem dX7_isTooth_17 : decode cX7_isTooth 17 = .ok (.iadd, 1) := by decide +kernel
theorem dX7_isTooth_18 : decode cX7_isTooth 18 = .ok (.iaload, 1) := by decide +kernel
theorem dX7_isTooth_19 : decode cX7_isTooth 19 = .ok (.iconst 1, 1) := by decide +kernel
theorem dX7_isTooth_20 : decode cX7_isTooth 20 = .ok (.isub, 1) := by decide +kernel
theorem dX7_isTooth_21 : decode cX7_isTooth 21 = .ok (.i2l, 1) := by decide +kernel
theorem dX7_isTooth_22 : decode cX7_isTooth 22 = .ok (.invokestatic 67, 3) := by decide +kernel
theorem dX7_isTooth_25 : decode cX7_isTooth 25 = .ok (.ifCond .eq 7, 3) := by decide +kernel
theorem dX7_isTooth_28 : decode cX7_isTooth 28 = .ok (.iconst 1, 1) := by decide +kernel
theorem dX7_isTooth_29 : decode cX7_isTooth 29 = .ok (.goto 4, 3) := by decide +kernel
theorem dX7_isTooth_32 : decode cX7_isTooth 32 = .ok (.iconst 0, 1) := by decide +kernel
theorem dX7_isTooth_33 : decode cX7_isTooth 33 = .ok (.ireturn, 1) := by decide +kernel
theorem dX7_isPerson_0 : decode cX7_isPerson 0 = .ok (.iload_n 1, 1) := by decide +kernel
theorem dX7_isPerson_1 : decode cX7_isPerson 1 = .ok (.i2l, 1) := by decide +kernel
theorem dX7_isPerson_2 : decode cX7_isPerson 2 = .ok (.lconst 0, 1) := by decide +kernel
theorem dX7_isPerson_3 : decode cX7_isPerson 3 = .ok (.aload_n 0, 1) := by decide +kernel
theorem dX7_isPerson_4 : decode cX7_isPerson 4 = .ok (.getfield 7, 3) := by decide +kernel
theorem dX7_isPerson_7 : decode cX7_isPerson 7 = .ok (.iconst 1, 1) := by decide +kernel
theorem dX7_isPerson_8 : decode cX7_isPerson 8 = .ok (.iaload, 1) := by decide +kernel
theorem dX7_isPerson_9 : decode cX7_isPerson 9 = .ok (.iconst 1, 1) := by decide +kernel
theorem dX7_isPerson_10 : decode cX7_isPerson 10 = .ok (.isub, 1) := by decide +kernel
theorem dX7_isPerson_11 : decode cX7_isPerson 11 = .ok (.i2l, 1) := by decide +kernel
theorem dX7_isPerson_12 : decode cX7_isPerson 12 = .ok (.invokestatic 67, 3) := by decide +kernel
theorem dX7_isPerson_15 : decode cX7_isPerson 15 = .ok (.ireturn, 1) := by decide +kernel
theorem dX7_excuses_0 : decode cX7_excuses 0 = .ok (.iconst 1, 1) := by decide +kernel
theorem dX7_excuses_1 : decode cX7_excuses 1 = .ok (.istore_n 1, 1) := by decide +kernel
theorem dX7_excuses_2 : decode cX7_excuses 2 = .ok (.iconst 0, 1) := by decide +kernel
theorem dX7_excuses_3 : decode cX7_excuses 3 = .ok (.istore_n 2, 1) := by decide +kernel
theorem dX7_excuses_4 : decode cX7_excuses 4 = .ok (.iload_n 2, 1) := by decide +kernel
theorem dX7_excuses_5 : decode cX7_excuses 5 = .ok (.aload_n 0, 1) := by decide +kernel
theorem dX7_excuses_6 : decode cX7_excuses 6 = .ok (.getfield 7, 3) := by decide +kernel
theorem dX7_excuses_9 : decode cX7_excuses 9 = .ok (.iconst 0, 1) := by decide +kernel
theorem dX7_excuses_10 : decode cX7_excuses 10 = .ok (.iaload, 1) := by decide +kernel
theorem dX7_excuses_11 : decode cX7_excuses 11 = .ok (.if_icmp .ge 20, 3) := by decide +kernel
theorem dX7_excuses_14 : decode cX7_excuses 14 = .ok (.iload_n 1, 1) := by decide +kernel
theorem dX7_excuses_15 : decode cX7_excuses 15 = .ok (.aload_n 0, 1) := by decide +kernel
theorem dX7_excuses_16 : decode cX7_excuses 16 = .ok (.getfield 7, 3) := by decide +kernel
theorem dX7_excuses_19 : decode cX7_excuses 19 = .ok (.iconst 5, 1) := by decide +kernel
theorem dX7_excuses_20 : decode cX7_excuses 20 = .ok (.iload_n 2, 1) := by decide +kernel
theorem dX7_excuses_21 : decode cX7_excuses 21 = .ok (.iadd, 1) := by decide +kernel
theorem dX7_excuses_22 : decode cX7_excuses 22 = .ok (.iaload, 1) := by decide +kernel
theorem dX7_excuses_23 : decode cX7_excuses 23 = .ok (.imul, 1) := by decide +kernel
theorem dX7_excuses_24 : decode cX7_excuses 24 = .ok (.istore_n 1, 1) := by decide +kernel
theorem dX7_excuses_25 : decode cX7_excuses 25 = .ok (.iinc 2 1, 3) := by decide +kernel
theorem dX7_excuses_28 : decode cX7_excuses 28 = .ok (.goto (-24), 3) := by decide +kernel
theorem dX7_excuses_31 : decode cX7_excuses 31 = .ok (.iload_n 1, 1) := by decide +kernel
theorem dX7_excuses_32 : decode cX7_excuses 32 = .ok (.ireturn, 1) := by decide +kernel
theorem dX7_isExcuse_0 : decode cX7_isExcuse 0 = .ok (.iload_n 1, 1) := by decide +kernel
theorem dX7_isExcuse_1 : decode cX7_isExcuse 1 = .ok (.i2l, 1) := by decide +kernel
theorem dX7_isExcuse_2 : decode cX7_isExcuse 2 = .ok (.lconst 0, 1) := by decide +kernel
theorem dX7_isExcuse_3 : decode cX7_isExcuse 3 = .ok (.aload_n 0, 1) := by decide +kernel
theorem dX7_isExcuse_4 : decode cX7_isExcuse 4 = .ok (.invokevirtual 130, 3) := by decide +kernel
theorem dX7_isExcuse_7 : decode cX7_isExcuse 7 = .ok (.iconst 1, 1) := by decide +kernel
theorem dX7_isExcuse_8 : decode cX7_isExcuse 8 = .ok (.isub, 1) := by decide +kernel
theorem dX7_isExcuse_9 : decode cX7_isExcuse 9 = .ok (.i2l, 1) := by decide +kernel
theorem dX7_isExcuse_10 : decode cX7_isExcuse 10 = .ok (.invokestatic 67, 3) := by decide +kernel
theorem dX7_isExcuse_13 : decode cX7_isExcuse 13 = .ok (.ireturn, 1) := by decide +kernel
theorem dX7_toothOf_0 : decode cX7_toothOf 0 = .ok (.iload_n 1, 1) := by decide +kernel
theorem dX7_toothOf_1 : decode cX7_toothOf 1 = .ok (.istore_n 3, 1) := by decide +kernel
theorem dX7_toothOf_2 : decode cX7_toothOf 2 = .ok (.iconst 0, 1) := by decide +kernel
theorem dX7_toothOf_3 : decode cX7_toothOf 3 = .ok (.istore 4, 2) := by decide +kernel
theorem dX7_toothOf_5 : decode cX7_toothOf 5 = .ok (.iload 4, 2) := by decide +kernel
theorem dX7_toothOf_7 : decode cX7_toothOf 7 = .ok (.iload_n 2, 1) := by decide +kernel
theorem dX7_toothOf_8 : decode cX7_toothOf 8 = .ok (.if_icmp .ge 21, 3) := by decide +kernel
theorem dX7_toothOf_11 : decode cX7_toothOf 11 = .ok (.iload_n 3, 1) := by decide +kernel
theorem dX7_toothOf_12 : decode cX7_toothOf 12 = .ok (.aload_n 0, 1) := by decide +kernel
theorem dX7_toothOf_13 : decode cX7_toothOf 13 = .ok (.getfield 7, 3) := by decide +kernel
theorem dX7_toothOf_16 : decode cX7_toothOf 16 = .ok (.iconst 5, 1) := by decide +kernel
theorem dX7_toothOf_17 : decode cX7_toothOf 17 = .ok (.iload 4, 2) := by decide +kernel
theorem dX7_toothOf_19 : decode cX7_toothOf 19 = .ok (.iadd, 1) := by decide +kernel
theorem dX7_toothOf_20 : decode cX7_toothOf 20 = .ok (.iaload, 1) := by decide +kernel
theorem dX7_toothOf_21 : decode cX7_toothOf 21 = .ok (.idiv, 1) := by decide +kernel
theorem dX7_toothOf_22 : decode cX7_toothOf 22 = .ok (.istore_n 3, 1) := by decide +kernel
theorem dX7_toothOf_23 : decode cX7_toothOf 23 = .ok (.iinc 4 1, 3) := by decide +kernel
theorem dX7_toothOf_26 : decode cX7_toothOf 26 = .ok (.goto (-21), 3) := by decide +kernel
theorem dX7_toothOf_29 : decode cX7_toothOf 29 = .ok (.iload_n 3, 1) := by decide +kernel
theorem dX7_toothOf_30 : decode cX7_toothOf 30 = .ok (.aload_n 0, 1) := by decide +kernel
theorem dX7_toothOf_31 : decode cX7_toothOf 31 = .ok (.getfield 7, 3) := by decide +kernel
theorem dX7_toothOf_34 : decode cX7_toothOf 34 = .ok (.iconst 5, 1) := by decide +kernel
theorem dX7_toothOf_35 : decode cX7_toothOf 35 = .ok (.iload_n 2, 1) := by decide +kernel
theorem dX7_toothOf_36 : decode cX7_toothOf 36 = .ok (.iadd, 1) := by decide +kernel
theorem dX7_toothOf_37 : decode cX7_toothOf 37 = .ok (.iaload, 1) := by decide +kernel
theorem dX7_toothOf_38 : decode cX7_toothOf 38 = .ok (.irem, 1) := by decide +kernel
theorem dX7_toothOf_39 : decode cX7_toothOf 39 = .ok (.ireturn, 1) := by decide +kernel
theorem dX7_upOn_0 : decode cX7_upOn 0 = .ok (.iconst 0, 1) := by decide +kernel
theorem dX7_upOn_1 : decode cX7_upOn 1 = .ok (.istore_n 2, 1) := by decide +kernel
theorem dX7_upOn_2 : decode cX7_upOn 2 = .ok (.aload_n 0, 1) := by decide +kernel
theorem dX7_upOn_3 : decode cX7_upOn 3 = .ok (.getfield 7, 3) := by decide +kernel
theorem dX7_upOn_6 : decode cX7_upOn 6 = .ok (.iconst 0, 1) := by decide +kernel
theorem dX7_upOn_7 : decode cX7_upOn 7 = .ok (.iaload, 1) := by decide +kernel
theorem dX7_upOn_8 : decode cX7_upOn 8 = .ok (.iconst 1, 1) := by decide +kernel
theorem dX7_upOn_9 : decode cX7_upOn 9 = .ok (.isub, 1) := by decide +kernel
theorem dX7_upOn_10 : decode cX7_upOn 10 = .ok (.istore_n 3, 1) := by decide +kernel
theorem dX7_upOn_11 : decode cX7_upOn 11 = .ok (.iload_n 3, 1) := by decide +kernel
theorem dX7_upOn_12 : decode cX7_upOn 12 = .ok (.ifCond .lt 27, 3) := by decide +kernel
theorem dX7_upOn_15 : decode cX7_upOn 15 = .ok (.iload_n 2, 1) := by decide +kernel
theorem dX7_upOn_16 : decode cX7_upOn 16 = .ok (.aload_n 0, 1) := by decide +kernel
theorem dX7_upOn_17 : decode cX7_upOn 17 = .ok (.getfield 7, 3) := by decide +kernel
theorem dX7_upOn_20 : decode cX7_upOn 20 = .ok (.iconst 5, 1) := by decide +kernel
theorem dX7_upOn_21 : decode cX7_upOn 21 = .ok (.iload_n 3, 1) := by decide +kernel
theorem dX7_upOn_22 : decode cX7_upOn 22 = .ok (.iadd, 1) := by decide +kernel
theorem dX7_upOn_23 : decode cX7_upOn 23 = .ok (.iaload, 1) := by decide +kernel
theorem dX7_upOn_24 : decode cX7_upOn 24 = .ok (.imul, 1) := by decide +kernel
theorem dX7_upOn_25 : decode cX7_upOn 25 = .ok (.aload_n 1, 1) := by decide +kernel
theorem dX7_upOn_26 : decode cX7_upOn 26 = .ok (.bipush 8, 2) := by decide +kernel
theorem dX7_upOn_28 : decode cX7_upOn 28 = .ok (.iload_n 3, 1) := by decide +kernel
theorem dX7_upOn_29 : decode cX7_upOn 29 = .ok (.iadd, 1) := by decide +kernel
theorem dX7_upOn_30 : decode cX7_upOn 30 = .ok (.iaload, 1) := by decide +kernel
theorem dX7_upOn_31 : decode cX7_upOn 31 = .ok (.iadd, 1) := by decide +kernel
theorem dX7_upOn_32 : decode cX7_upOn 32 = .ok (.istore_n 2, 1) := by decide +kernel
theorem dX7_upOn_33 : decode cX7_upOn 33 = .ok (.iinc 3 (-1), 3) := by decide +kernel
theorem dX7_upOn_36 : decode cX7_upOn 36 = .ok (.goto (-25), 3) := by decide +kernel
theorem dX7_upOn_39 : decode cX7_upOn 39 = .ok (.iload_n 2, 1) := by decide +kernel
theorem dX7_upOn_40 : decode cX7_upOn 40 = .ok (.ireturn, 1) := by decide +kernel
theorem dX7_turns_0 : decode cX7_turns 0 = .ok (.iconst 0, 1) := by decide +kernel
theorem dX7_turns_1 : decode cX7_turns 1 = .ok (.istore_n 2, 1) := by decide +kernel
theorem dX7_turns_2 : decode cX7_turns 2 = .ok (.iload_n 2, 1) := by decide +kernel
theorem dX7_turns_3 : decode cX7_turns 3 = .ok (.aload_n 0, 1) := by decide +kernel
theorem dX7_turns_4 : decode cX7_turns 4 = .ok (.getfield 7, 3) := by decide +kernel
theorem dX7_turns_7 : decode cX7_turns 7 = .ok (.iconst 0, 1) := by decide +kernel
theorem dX7_turns_8 : decode cX7_turns 8 = .ok (.iaload, 1) := by decide +kernel
theorem dX7_turns_9 : decode cX7_turns 9 = .ok (.if_icmp .ge 36, 3) := by decide +kernel
theorem dX7_turns_12 : decode cX7_turns 12 = .ok (.aload_n 1, 1) := by decide +kernel
theorem dX7_turns_13 : decode cX7_turns 13 = .ok (.bipush 8, 2) := by decide +kernel
theorem dX7_turns_15 : decode cX7_turns 15 = .ok (.iload_n 2, 1) := by decide +kernel
theorem dX7_turns_16 : decode cX7_turns 16 = .ok (.iadd, 1) := by decide +kernel
theorem dX7_turns_17 : decode cX7_turns 17 = .ok (.aload_n 1, 1) := by decide +kernel
theorem dX7_turns_18 : decode cX7_turns 18 = .ok (.bipush 8, 2) := by decide +kernel
theorem dX7_turns_20 : decode cX7_turns 20 = .ok (.iload_n 2, 1) := by decide +kernel
theorem dX7_turns_21 : decode cX7_turns 21 = .ok (.iadd, 1) := by decide +kernel
theorem dX7_turns_22 : decode cX7_turns 22 = .ok (.iaload, 1) := by decide +kernel
theorem dX7_turns_23 : decode cX7_turns 23 = .ok (.aload_n 1, 1) := by decide +kernel
theorem dX7_turns_24 : decode cX7_turns 24 = .ok (.iconst 4, 1) := by decide +kernel
theorem dX7_turns_25 : decode cX7_turns 25 = .ok (.iload_n 2, 1) := by decide +kernel
theorem dX7_turns_26 : decode cX7_turns 26 = .ok (.iadd, 1) := by decide +kernel
theorem dX7_turns_27 : decode cX7_turns 27 = .ok (.iaload, 1) := by decide +kernel
theorem dX7_turns_28 : decode cX7_turns 28 = .ok (.iadd, 1) := by decide +kernel
theorem dX7_turns_29 : decode cX7_turns 29 = .ok (.aload_n 0, 1) := by decide +kernel
theorem dX7_turns_30 : decode cX7_turns 30 = .ok (.getfield 7, 3) := by decide +kernel
theorem dX7_turns_33 : decode cX7_turns 33 = .ok (.iconst 5, 1) := by decide +kernel
theorem dX7_turns_34 : decode cX7_turns 34 = .ok (.iload_n 2, 1) := by decide +kernel
theorem dX7_turns_35 : decode cX7_turns 35 = .ok (.iadd, 1) := by decide +kernel
theorem dX7_turns_36 : decode cX7_turns 36 = .ok (.iaload, 1) := by decide +kernel
theorem dX7_turns_37 : decode cX7_turns 37 = .ok (.irem, 1) := by decide +kernel
theorem dX7_turns_38 : decode cX7_turns 38 = .ok (.iastore, 1) := by decide +kernel
theorem dX7_turns_39 : decode cX7_turns 39 = .ok (.iinc 2 1, 3) := by decide +kernel
theorem dX7_turns_42 : decode cX7_turns 42 = .ok (.goto (-40), 3) := by decide +kernel
theorem dX7_turns_45 : decode cX7_turns 45 = .ok (.aload_n 1, 1) := by decide +kernel
theorem dX7_turns_46 : decode cX7_turns 46 = .ok (.iconst 1, 1) := by decide +kernel
theorem dX7_turns_47 : decode cX7_turns 47 = .ok (.dup2, 1) := by decide +kernel
theorem dX7_turns_48 : decode cX7_turns 48 = .ok (.iaload, 1) := by decide +kernel
theorem dX7_turns_49 : decode cX7_turns 49 = .ok (.iconst 1, 1) := by decide +kernel
theorem dX7_turns_50 : decode cX7_turns 50 = .ok (.iadd, 1) := by decide +kernel
theorem dX7_turns_51 : decode cX7_turns 51 = .ok (.iastore, 1) := by decide +kernel
theorem dX7_turns_52 : decode cX7_turns 52 = .ok (.return_, 1) := by decide +kernel
theorem dX7_hasSense_0 : decode cX7_hasSense 0 = .ok (.iconst 1, 1) := by decide +kernel
theorem dX7_hasSense_1 : decode cX7_hasSense 1 = .ok (.istore_n 3, 1) := by decide +kernel
theorem dX7_hasSense_2 : decode cX7_hasSense 2 = .ok (.iconst 0, 1) := by decide +kernel
theorem dX7_hasSense_3 : decode cX7_hasSense 3 = .ok (.istore 4, 2) := by decide +kernel
theorem dX7_hasSense_5 : decode cX7_hasSense 5 = .ok (.iload 4, 2) := by decide +kernel
theorem dX7_hasSense_7 : decode cX7_hasSense 7 = .ok (.aload_n 0, 1) := by decide +kernel
theorem dX7_hasSense_8 : decode cX7_hasSense 8 = .ok (.getfield 7, 3) := by decide +kernel
theorem dX7_hasSense_11 : decode cX7_hasSense 11 = .ok (.iconst 0, 1) := by decide +kernel
theorem dX7_hasSense_12 : decode cX7_hasSense 12 = .ok (.iaload, 1) := by decide +kernel
theorem dX7_hasSense_13 : decode cX7_hasSense 13 = .ok (.if_icmp .ge 39, 3) := by decide +kernel
theorem dX7_hasSense_16 : decode cX7_hasSense 16 = .ok (.iload_n 3, 1) := by decide +kernel
theorem dX7_hasSense_17 : decode cX7_hasSense 17 = .ok (.ifCond .eq 27, 3) := by decide +kernel
theorem dX7_hasSense_20 : decode cX7_hasSense 20 = .ok (.aload_n 1, 1) := by decide +kernel
theorem dX7_hasSense_21 : decode cX7_hasSense 21 = .ok (.bipush 12, 2) := by decide +kernel
theorem dX7_hasSense_23 : decode cX7_hasSense 23 = .ok (.iload 4, 2) := by decide +kernel
theorem dX7_hasSense_25 : decode cX7_hasSense 25 = .ok (.iadd, 1) := by decide +kernel
theorem dX7_hasSense_26 : decode cX7_hasSense 26 = .ok (.iaload, 1) := by decide +kernel
theorem dX7_hasSense_27 : decode cX7_hasSense 27 = .ok (.aload_n 0, 1) := by decide +kernel
theorem dX7_hasSense_28 : decode cX7_hasSense 28 = .ok (.iload_n 2, 1) := by decide +kernel
theorem dX7_hasSense_29 : decode cX7_hasSense 29 = .ok (.iload 4, 2) := by decide +kernel
theorem dX7_hasSense_31 : decode cX7_hasSense 31 = .ok (.invokevirtual 133, 3) := by decide +kernel
theorem dX7_hasSense_34 : decode cX7_hasSense 34 = .ok (.invokestatic 137, 3) := by decide +kernel
theorem dX7_hasSense_37 : decode cX7_hasSense 37 = .ok (.ifCond .ne 7, 3) := by decide +kernel
theorem dX7_hasSense_40 : decode cX7_hasSense 40 = .ok (.iconst 1, 1) := by decide +kernel
theorem dX7_hasSense_41 : decode cX7_hasSense 41 = .ok (.goto 4, 3) := by decide +kernel
theorem dX7_hasSense_44 : decode cX7_hasSense 44 = .ok (.iconst 0, 1) := by decide +kernel
theorem dX7_hasSense_45 : decode cX7_hasSense 45 = .ok (.istore_n 3, 1) := by decide +kernel
theorem dX7_hasSense_46 : decode cX7_hasSense 46 = .ok (.iinc 4 1, 3) := by decide +kernel
theorem dX7_hasSense_49 : decode cX7_hasSense 49 = .ok (.goto (-44), 3) := by decide +kernel
theorem dX7_hasSense_52 : decode cX7_hasSense 52 = .ok (.iconst 0, 1) := by decide +kernel
theorem dX7_hasSense_53 : decode cX7_hasSense 53 = .ok (.istore 4, 2) := by decide +kernel
theorem dX7_hasSense_55 : decode cX7_hasSense 55 = .ok (.iload 4, 2) := by decide +kernel
theorem dX7_hasSense_57 : decode cX7_hasSense 57 = .ok (.aload_n 0, 1) := by decide +kernel
theorem dX7_hasSense_58 : decode cX7_hasSense 58 = .ok (.getfield 7, 3) := by decide +kernel
theorem dX7_hasSense_61 : decode cX7_hasSense 61 = .ok (.iconst 2, 1) := by decide +kernel
theorem dX7_hasSense_62 : decode cX7_hasSense 62 = .ok (.iaload, 1) := by decide +kernel
theorem dX7_hasSense_63 : decode cX7_hasSense 63 = .ok (.if_icmp .ge 87, 3) := by decide +kernel
theorem dX7_hasSense_66 : decode cX7_hasSense 66 = .ok (.aload_n 0, 1) := by decide +kernel
theorem dX7_hasSense_67 : decode cX7_hasSense 67 = .ok (.iload_n 2, 1) := by decide +kernel
theorem dX7_hasSense_68 : decode cX7_hasSense 68 = .ok (.aload_n 0, 1) := by decide +kernel
theorem dX7_hasSense_69 : decode cX7_hasSense 69 = .ok (.getfield 7, 3) := by decide +kernel
theorem dX7_hasSense_72 : decode cX7_hasSense 72 = .ok (.bipush 22, 2) := by decide +kernel
theorem dX7_hasSense_74 : decode cX7_hasSense 74 = .ok (.iload 4, 2) := by decide +kernel
theorem dX7_hasSense_76 : decode cX7_hasSense 76 = .ok (.iadd, 1) := by decide +kernel
theorem dX7_hasSense_77 : decode cX7_hasSense 77 = .ok (.iaload, 1) := by decide +kernel
theorem dX7_hasSense_78 : decode cX7_hasSense 78 = .ok (.invokevirtual 133, 3) := by decide +kernel
theorem dX7_hasSense_81 : decode cX7_hasSense 81 = .ok (.aload_n 0, 1) := by decide +kernel
theorem dX7_hasSense_82 : decode cX7_hasSense 82 = .ok (.getfield 7, 3) := by decide +kernel
theorem dX7_hasSense_85 : decode cX7_hasSense 85 = .ok (.bipush 30, 2) := by decide +kernel
theorem dX7_hasSense_87 : decode cX7_hasSense 87 = .ok (.iload 4, 2) := by decide +kernel
theorem dX7_hasSense_89 : decode cX7_hasSense 89 = .ok (.iadd, 1) := by decide +kernel
theorem dX7_hasSense_90 : decode cX7_hasSense 90 = .ok (.iaload, 1) := by decide +kernel
theorem dX7_hasSense_91 : decode cX7_hasSense 91 = .ok (.if_icmp .ne 7, 3) := by decide +kernel
theorem dX7_hasSense_94 : decode cX7_hasSense 94 = .ok (.iconst 1, 1) := by decide +kernel
theorem dX7_hasSense_95 : decode cX7_hasSense 95 = .ok (.goto 4, 3) := by decide +kernel
theorem dX7_hasSense_98 : decode cX7_hasSense 98 = .ok (.iconst 0, 1) := by decide +kernel
theorem dX7_hasSense_99 : decode cX7_hasSense 99 = .ok (.istore 5, 2) := by decide +kernel
theorem dX7_hasSense_101 : decode cX7_hasSense 101 = .ok (.iload_n 3, 1) := by decide +kernel
theorem dX7_hasSense_102 : decode cX7_hasSense 102 = .ok (.ifCond .eq 40, 3) := by decide +kernel
theorem dX7_hasSense_105 : decode cX7_hasSense 105 = .ok (.iload 5, 2) := by decide +kernel
theorem dX7_hasSense_107 : decode cX7_hasSense 107 = .ok (.ifCond .eq 31, 3) := by decide +kernel
theorem dX7_hasSense_110 : decode cX7_hasSense 110 = .ok (.aload_n 0, 1) := by decide +kernel
theorem dX7_hasSense_111 : decode cX7_hasSense 111 = .ok (.iload_n 2, 1) := by decide +kernel
theorem dX7_hasSense_112 : decode cX7_hasSense 112 = .ok (.aload_n 0, 1) := by decide +kernel
theorem dX7_hasSense_113 : decode cX7_hasSense 113 = .ok (.getfield 7, 3) := by decide +kernel
theorem dX7_hasSense_116 : decode cX7_hasSense 116 = .ok (.bipush 38, 2) := by decide +kernel
theorem dX7_hasSense_118 : decode cX7_hasSense 118 = .ok (.iload 4, 2) := by decide +kernel
theorem dX7_hasSense_120 : decode cX7_hasSense 120 = .ok (.iadd, 1) := by decide +kernel
theorem dX7_hasSense_121 : decode cX7_hasSense 121 = .ok (.iaload, 1) := by decide +kernel
theorem dX7_hasSense_122 : decode cX7_hasSense 122 = .ok (.invokevirtual 133, 3) := by decide +kernel
theorem dX7_hasSense_125 : decode cX7_hasSense 125 = .ok (.aload_n 0, 1) := by decide +kernel
theorem dX7_hasSense_126 : decode cX7_hasSense 126 = .ok (.getfield 7, 3) := by decide +kernel
theorem dX7_hasSense_129 : decode cX7_hasSense 129 = .ok (.bipush 46, 2) := by decide +kernel
theorem dX7_hasSense_131 : decode cX7_hasSense 131 = .ok (.iload 4, 2) := by decide +kernel
theorem dX7_hasSense_133 : decode cX7_hasSense 133 = .ok (.iadd, 1) := by decide +kernel
theorem dX7_hasSense_134 : decode cX7_hasSense 134 = .ok (.iaload, 1) := by decide +kernel
theorem dX7_hasSense_135 : decode cX7_hasSense 135 = .ok (.if_icmp .eq 7, 3) := by decide +kernel
theorem dX7_hasSense_138 : decode cX7_hasSense 138 = .ok (.iconst 1, 1) := by decide +kernel
theorem dX7_hasSense_139 : decode cX7_hasSense 139 = .ok (.goto 4, 3) := by decide +kernel
theorem dX7_hasSense_142 : decode cX7_hasSense 142 = .ok (.iconst 0, 1) := by decide +kernel
theorem dX7_hasSense_143 : decode cX7_hasSense 143 = .ok (.istore_n 3, 1) := by decide +kernel
theorem dX7_hasSense_144 : decode cX7_hasSense 144 = .ok (.iinc 4 1, 3) := by decide +kernel
theorem dX7_hasSense_147 : decode cX7_hasSense 147 = .ok (.goto (-92), 3) := by decide +kernel
theorem dX7_hasSense_150 : decode cX7_hasSense 150 = .ok (.iload_n 3, 1) := by decide +kernel
theorem dX7_hasSense_151 : decode cX7_hasSense 151 = .ok (.ireturn, 1) := by decide +kernel
theorem dX7_talksOf_0 : decode cX7_talksOf 0 = .ok (.iconst 0, 1) := by decide +kernel
theorem dX7_talksOf_1 : decode cX7_talksOf 1 = .ok (.istore_n 2, 1) := by decide +kernel
theorem dX7_talksOf_2 : decode cX7_talksOf 2 = .ok (.iconst 0, 1) := by decide +kernel
theorem dX7_talksOf_3 : decode cX7_talksOf 3 = .ok (.istore_n 3, 1) := by decide +kernel
theorem dX7_talksOf_4 : decode cX7_talksOf 4 = .ok (.iload_n 3, 1) := by decide +kernel
theorem dX7_talksOf_5 : decode cX7_talksOf 5 = .ok (.aload_n 0, 1) := by decide +kernel
theorem dX7_talksOf_6 : decode cX7_talksOf 6 = .ok (.getfield 7, 3) := by decide +kernel
theorem dX7_talksOf_9 : decode cX7_talksOf 9 = .ok (.iconst 1, 1) := by decide +kernel
theorem dX7_talksOf_10 : decode cX7_talksOf 10 = .ok (.iaload, 1) := by decide +kernel
theorem dX7_talksOf_11 : decode cX7_talksOf 11 = .ok (.if_icmp .ge 56, 3) := by decide +kernel
theorem dX7_talksOf_14 : decode cX7_talksOf 14 = .ok (.iload_n 2, 1) := by decide +kernel
theorem dX7_talksOf_15 : decode cX7_talksOf 15 = .ok (.iload_n 3, 1) := by decide +kernel
theorem dX7_talksOf_16 : decode cX7_talksOf 16 = .ok (.iload_n 1, 1) := by decide +kernel
theorem dX7_talksOf_17 : decode cX7_talksOf 17 = .ok (.if_icmp .eq 41, 3) := by decide +kernel
theorem dX7_talksOf_20 : decode cX7_talksOf 20 = .ok (.aload_n 0, 1) := by decide +kernel
theorem dX7_talksOf_21 : decode cX7_talksOf 21 = .ok (.getfield 7, 3) := by decide +kernel
theorem dX7_talksOf_24 : decode cX7_talksOf 24 = .ok (.bipush 17, 2) := by decide +kernel
theorem dX7_talksOf_26 : decode cX7_talksOf 26 = .ok (.iload_n 1, 1) := by decide +kernel
theorem dX7_talksOf_27 : decode cX7_talksOf 27 = .ok (.iadd, 1) := by decide +kernel
theorem dX7_talksOf_28 : decode cX7_talksOf 28 = .ok (.iaload, 1) := by decide +kernel
theorem dX7_talksOf_29 : decode cX7_talksOf 29 = .ok (.iload_n 3, 1) := by decide +kernel
theorem dX7_talksOf_30 : decode cX7_talksOf 30 = .ok (.invokestatic 137, 3) := by decide +kernel
theorem dX7_talksOf_33 : decode cX7_talksOf 33 = .ok (.ifCond .ne 19, 3) := by decide +kernel
theorem dX7_talksOf_36 : decode cX7_talksOf 36 = .ok (.aload_n 0, 1) := by decide +kernel
theorem dX7_talksOf_37 : decode cX7_talksOf 37 = .ok (.getfield 7, 3) := by decide +kernel
theorem dX7_talksOf_40 : decode cX7_talksOf 40 = .ok (.bipush 17, 2) := by decide +kernel
theorem dX7_talksOf_42 : decode cX7_talksOf 42 = .ok (.iload_n 3, 1) := by decide +kernel
theorem dX7_talksOf_43 : decode cX7_talksOf 43 = .ok (.iadd, 1) := by decide +kernel
theorem dX7_talksOf_44 : decode cX7_talksOf 44 = .ok (.iaload, 1) := by decide +kernel
theorem dX7_talksOf_45 : decode cX7_talksOf 45 = .ok (.iload_n 1, 1) := by decide +kernel
theorem dX7_talksOf_46 : decode cX7_talksOf 46 = .ok (.invokestatic 137, 3) := by decide +kernel
theorem dX7_talksOf_49 : decode cX7_talksOf 49 = .ok (.ifCond .eq 9, 3) := by decide +kernel
theorem dX7_talksOf_52 : decode cX7_talksOf 52 = .ok (.iconst 1, 1) := by decide +kernel
theorem dX7_talksOf_53 : decode cX7_talksOf 53 = .ok (.iload_n 3, 1) := by decide +kernel
theorem dX7_talksOf_54 : decode cX7_talksOf 54 = .ok (.ishl, 1) := by decide +kernel
theorem dX7_talksOf_55 : decode cX7_talksOf 55 = .ok (.goto 4, 3) := by decide +kernel
theorem dX7_talksOf_58 : decode cX7_talksOf 58 = .ok (.iconst 0, 1) := by decide +kernel
theorem dX7_talksOf_59 : decode cX7_talksOf 59 = .ok (.ior, 1) := by decide +kernel
theorem dX7_talksOf_60 : decode cX7_talksOf 60 = .ok (.istore_n 2, 1) := by decide +kernel
theorem dX7_talksOf_61 : decode cX7_talksOf 61 = .ok (.iinc 3 1, 3) := by decide +kernel
theorem dX7_talksOf_64 : decode cX7_talksOf 64 = .ok (.goto (-60), 3) := by decide +kernel
theorem dX7_talksOf_67 : decode cX7_talksOf 67 = .ok (.iload_n 2, 1) := by decide +kernel
theorem dX7_talksOf_68 : decode cX7_talksOf 68 = .ok (.ireturn, 1) := by decide +kernel
theorem dX7_isStale_0 : decode cX7_isStale 0 = .ok (.aload_n 0, 1) := by decide +kernel
theorem dX7_isStale_1 : decode cX7_isStale 1 = .ok (.iload_n 3, 1) := by decide +kernel
theorem dX7_isStale_2 : decode cX7_isStale 2 = .ok (.invokevirtual 140, 3) := by decide +kernel
theorem dX7_isStale_5 : decode cX7_isStale 5 = .ok (.iconst 1, 1) := by decide +kernel
theorem dX7_isStale_6 : decode cX7_isStale 6 = .ok (.iload_n 3, 1) := by decide +kernel
theorem dX7_isStale_7 : decode cX7_isStale 7 = .ok (.ishl, 1) := by decide +kernel
theorem dX7_isStale_8 : decode cX7_isStale 8 = .ok (.ior, 1) := by decide +kernel
theorem dX7_isStale_9 : decode cX7_isStale 9 = .ok (.istore 4, 2) := by decide +kernel
theorem dX7_isStale_11 : decode cX7_isStale 11 = .ok (.iconst 0, 1) := by decide +kernel
theorem dX7_isStale_12 : decode cX7_isStale 12 = .ok (.istore 5, 2) := by decide +kernel
theorem dX7_isStale_14 : decode cX7_isStale 14 = .ok (.iconst 0, 1) := by decide +kernel
theorem dX7_isStale_15 : decode cX7_isStale 15 = .ok (.istore 6, 2) := by decide +kernel
theorem dX7_isStale_17 : decode cX7_isStale 17 = .ok (.iload 6, 2) := by decide +kernel
theorem dX7_isStale_19 : decode cX7_isStale 19 = .ok (.aload_n 1, 1) := by decide +kernel
theorem dX7_isStale_20 : decode cX7_isStale 20 = .ok (.iconst 2, 1) := by decide +kernel
theorem dX7_isStale_21 : decode cX7_isStale 21 = .ok (.iaload, 1) := by decide +kernel
theorem dX7_isStale_22 : decode cX7_isStale 22 = .ok (.if_icmp .ge 47, 3) := by decide +kernel
theorem dX7_isStale_25 : decode cX7_isStale 25 = .ok (.iload 5, 2) := by decide +kernel
theorem dX7_isStale_27 : decode cX7_isStale 27 = .ok (.ifCond .ne 29, 3) := by decide +kernel
theorem dX7_isStale_30 : decode cX7_isStale 30 = .ok (.aload_n 1, 1) := by decide +kernel
theorem dX7_isStale_31 : decode cX7_isStale 31 = .ok (.bipush 16, 2) := by decide +kernel
theorem dX7_isStale_33 : decode cX7_isStale 33 = .ok (.iload 6, 2) := by decide +kernel
theorem dX7_isStale_35 : decode cX7_isStale 35 = .ok (.iadd, 1) := by decide +kernel
theorem dX7_isStale_36 : decode cX7_isStale 36 = .ok (.iaload, 1) := by decide +kernel
theorem dX7_isStale_37 : decode cX7_isStale 37 = .ok (.iload_n 2, 1) := by decide +kernel
theorem dX7_isStale_38 : decode cX7_isStale 38 = .ok (.if_icmp .ne 22, 3) := by decide +kernel
theorem dX7_isStale_41 : decode cX7_isStale 41 = .ok (.iload 4, 2) := by decide +kernel
theorem dX7_isStale_43 : decode cX7_isStale 43 = .ok (.aload_n 1, 1) := by decide +kernel
theorem dX7_isStale_44 : decode cX7_isStale 44 = .ok (.bipush 40, 2) := by decide +kernel
theorem dX7_isStale_46 : decode cX7_isStale 46 = .ok (.iload 6, 2) := by decide +kernel
theorem dX7_isStale_48 : decode cX7_isStale 48 = .ok (.iadd, 1) := by decide +kernel
theorem dX7_isStale_49 : decode cX7_isStale 49 = .ok (.iaload, 1) := by decide +kernel
theorem dX7_isStale_50 : decode cX7_isStale 50 = .ok (.invokestatic 137, 3) := by decide +kernel
theorem dX7_isStale_53 : decode cX7_isStale 53 = .ok (.ifCond .eq 7, 3) := by decide +kernel
theorem dX7_isStale_56 : decode cX7_isStale 56 = .ok (.iconst 1, 1) := by decide +kernel
theorem dX7_isStale_57 : decode cX7_isStale 57 = .ok (.goto 4, 3) := by decide +kernel
theorem dX7_isStale_60 : decode cX7_isStale 60 = .ok (.iconst 0, 1) := by decide +kernel
theorem dX7_isStale_61 : decode cX7_isStale 61 = .ok (.istore 5, 2) := by decide +kernel
theorem dX7_isStale_63 : decode cX7_isStale 63 = .ok (.iinc 6 1, 3) := by decide +kernel
theorem dX7_isStale_66 : decode cX7_isStale 66 = .ok (.goto (-49), 3) := by decide +kernel
theorem dX7_isStale_69 : decode cX7_isStale 69 = .ok (.iload 5, 2) := by decide +kernel
theorem dX7_isStale_71 : decode cX7_isStale 71 = .ok (.ireturn, 1) := by decide +kernel
theorem dX7_isSeen_0 : decode cX7_isSeen 0 = .ok (.iconst 0, 1) := by decide +kernel
theorem dX7_isSeen_1 : decode cX7_isSeen 1 = .ok (.istore 5, 2) := by decide +kernel
theorem dX7_isSeen_3 : decode cX7_isSeen 3 = .ok (.iconst 0, 1) := by decide +kernel
theorem dX7_isSeen_4 : decode cX7_isSeen 4 = .ok (.istore 6, 2) := by decide +kernel
theorem dX7_isSeen_6 : decode cX7_isSeen 6 = .ok (.iload 6, 2) := by decide +kernel
theorem dX7_isSeen_8 : decode cX7_isSeen 8 = .ok (.aload_n 1, 1) := by decide +kernel
theorem dX7_isSeen_9 : decode cX7_isSeen 9 = .ok (.iconst 2, 1) := by decide +kernel
theorem dX7_isSeen_10 : decode cX7_isSeen 10 = .ok (.iaload, 1) := by decide +kernel
theorem dX7_isSeen_11 : decode cX7_isSeen 11 = .ok (.if_icmp .ge 90, 3) := by decide +kernel
theorem dX7_isSeen_14 : decode cX7_isSeen 14 = .ok (.aload_n 1, 1) := by decide +kernel
theorem dX7_isSeen_15 : decode cX7_isSeen 15 = .ok (.bipush 40, 2) := by decide +kernel
theorem dX7_isSeen_17 : decode cX7_isSeen 17 = .ok (.iload 6, 2) := by decide +kernel
theorem dX7_isSeen_19 : decode cX7_isSeen 19 = .ok (.iadd, 1) := by decide +kernel
theorem dX7_isSeen_20 : decode cX7_isSeen 20 = .ok (.iaload, 1) := by decide +kernel
theorem dX7_isSeen_21 : decode cX7_isSeen 21 = .ok (.iload 4, 2) := by decide +kernel
theorem dX7_isSeen_23 : decode cX7_isSeen 23 = .ok (.if_icmp .ne 31, 3) := by decide +kernel
theorem dX7_isSeen_26 : decode cX7_isSeen 26 = .ok (.aload_n 1, 1) := by decide +kernel
theorem dX7_isSeen_27 : decode cX7_isSeen 27 = .ok (.bipush 52, 2) := by decide +kernel
theorem dX7_isSeen_29 : decode cX7_isSeen 29 = .ok (.iload 6, 2) := by decide +kernel
theorem dX7_isSeen_31 : decode cX7_isSeen 31 = .ok (.iadd, 1) := by decide +kernel
theorem dX7_isSeen_32 : decode cX7_isSeen 32 = .ok (.iaload, 1) := by decide +kernel
theorem dX7_isSeen_33 : decode cX7_isSeen 33 = .ok (.aload_n 1, 1) := by decide +kernel
theorem dX7_isSeen_34 : decode cX7_isSeen 34 = .ok (.iconst 0, 1) := by decide +kernel
theorem dX7_isSeen_35 : decode cX7_isSeen 35 = .ok (.iaload, 1) := by decide +kernel
theorem dX7_isSeen_36 : decode cX7_isSeen 36 = .ok (.if_icmp .ne 18, 3) := by decide +kernel
theorem dX7_isSeen_39 : decode cX7_isSeen 39 = .ok (.aload_n 1, 1) := by decide +kernel
theorem dX7_isSeen_40 : decode cX7_isSeen 40 = .ok (.bipush 28, 2) := by decide +kernel
theorem dX7_isSeen_42 : decode cX7_isSeen 42 = .ok (.iload 6, 2) := by decide +kernel
theorem dX7_isSeen_44 : decode cX7_isSeen 44 = .ok (.iadd, 1) := by decide +kernel
theorem dX7_isSeen_45 : decode cX7_isSeen 45 = .ok (.iaload, 1) := by decide +kernel
theorem dX7_isSeen_46 : decode cX7_isSeen 46 = .ok (.iload_n 3, 1) := by decide +kernel
theorem dX7_isSeen_47 : decode cX7_isSeen 47 = .ok (.if_icmp .eq 7, 3) := by decide +kernel
theorem dX7_isSeen_50 : decode cX7_isSeen 50 = .ok (.iconst 1, 1) := by decide +kernel
theorem dX7_isSeen_51 : decode cX7_isSeen 51 = .ok (.goto 4, 3) := by decide +kernel
theorem dX7_isSeen_54 : decode cX7_isSeen 54 = .ok (.iconst 0, 1) := by decide +kernel
theorem dX7_isSeen_55 : decode cX7_isSeen 55 = .ok (.istore 7, 2) := by decide +kernel
theorem dX7_isSeen_57 : decode cX7_isSeen 57 = .ok (.iload 5, 2) := by decide +kernel
theorem dX7_isSeen_59 : decode cX7_isSeen 59 = .ok (.ifCond .ne 29, 3) := by decide +kernel
theorem dX7_isSeen_62 : decode cX7_isSeen 62 = .ok (.iload 7, 2) := by decide +kernel
theorem dX7_isSeen_64 : decode cX7_isSeen 64 = .ok (.ifCond .eq 28, 3) := by decide +kernel
theorem dX7_isSeen_67 : decode cX7_isSeen 67 = .ok (.aload_n 0, 1) := by decide +kernel
theorem dX7_isSeen_68 : decode cX7_isSeen 68 = .ok (.aload_n 1, 1) := by decide +kernel
theorem dX7_isSeen_69 : decode cX7_isSeen 69 = .ok (.bipush 16, 2) := by decide +kernel
theorem dX7_isSeen_71 : decode cX7_isSeen 71 = .ok (.iload 6, 2) := by decide +kernel
theorem dX7_isSeen_73 : decode cX7_isSeen 73 = .ok (.iadd, 1) := by decide +kernel
theorem dX7_isSeen_74 : decode cX7_isSeen 74 = .ok (.iaload, 1) := by decide +kernel
theorem dX7_isSeen_75 : decode cX7_isSeen 75 = .ok (.iconst 0, 1) := by decide +kernel
theorem dX7_isSeen_76 : decode cX7_isSeen 76 = .ok (.invokevirtual 133, 3) := by decide +kernel
theorem dX7_isSeen_79 : decode cX7_isSeen 79 = .ok (.aload_n 0, 1) := by decide +kernel
theorem dX7_isSeen_80 : decode cX7_isSeen 80 = .ok (.iload_n 2, 1) := by decide +kernel
theorem dX7_isSeen_81 : decode cX7_isSeen 81 = .ok (.iconst 0, 1) := by decide +kernel
theorem dX7_isSeen_82 : decode cX7_isSeen 82 = .ok (.invokevirtual 133, 3) := by decide +kernel
theorem dX7_isSeen_85 : decode cX7_isSeen 85 = .ok (.if_icmp .ne 7, 3) := by decide +kernel
theorem dX7_isSeen_88 : decode cX7_isSeen 88 = .ok (.iconst 1, 1) := by decide +kernel
theorem dX7_isSeen_89 : decode cX7_isSeen 89 = .ok (.goto 4, 3) := by decide +kernel
theorem dX7_isSeen_92 : decode cX7_isSeen 92 = .ok (.iconst 0, 1) := by decide +kernel
theorem dX7_isSeen_93 : decode cX7_isSeen 93 = .ok (.istore 5, 2) := by decide +kernel
theorem dX7_isSeen_95 : decode cX7_isSeen 95 = .ok (.iinc 6 1, 3) := by decide +kernel
theorem dX7_isSeen_98 : decode cX7_isSeen 98 = .ok (.goto (-92), 3) := by decide +kernel
theorem dX7_isSeen_101 : decode cX7_isSeen 101 = .ok (.iload 5, 2) := by decide +kernel
theorem dX7_isSeen_103 : decode cX7_isSeen 103 = .ok (.ireturn, 1) := by decide +kernel
theorem dX7_loses_0 : decode cX7_loses 0 = .ok (.aload_n 0, 1) := by decide +kernel
theorem dX7_loses_1 : decode cX7_loses 1 = .ok (.iconst 3, 1) := by decide +kernel
theorem dX7_loses_2 : decode cX7_loses 2 = .ok (.dup2, 1) := by decide +kernel
theorem dX7_loses_3 : decode cX7_loses 3 = .ok (.iaload, 1) := by decide +kernel
theorem dX7_loses_4 : decode cX7_loses 4 = .ok (.aload_n 0, 1) := by decide +kernel
theorem dX7_loses_5 : decode cX7_loses 5 = .ok (.bipush 64, 2) := by decide +kernel
theorem dX7_loses_7 : decode cX7_loses 7 = .ok (.iaload, 1) := by decide +kernel
theorem dX7_loses_8 : decode cX7_loses 8 = .ok (.isub, 1) := by decide +kernel
theorem dX7_loses_9 : decode cX7_loses 9 = .ok (.iastore, 1) := by decide +kernel
theorem dX7_loses_10 : decode cX7_loses 10 = .ok (.iconst 0, 1) := by decide +kernel
theorem dX7_loses_11 : decode cX7_loses 11 = .ok (.istore_n 1, 1) := by decide +kernel
theorem dX7_loses_12 : decode cX7_loses 12 = .ok (.iload_n 1, 1) := by decide +kernel
theorem dX7_loses_13 : decode cX7_loses 13 = .ok (.bipush 11, 2) := by decide +kernel
theorem dX7_loses_15 : decode cX7_loses 15 = .ok (.if_icmp .ge 46, 3) := by decide +kernel
theorem dX7_loses_18 : decode cX7_loses 18 = .ok (.iconst 0, 1) := by decide +kernel
theorem dX7_loses_19 : decode cX7_loses 19 = .ok (.istore_n 2, 1) := by decide +kernel
theorem dX7_loses_20 : decode cX7_loses 20 = .ok (.iload_n 2, 1) := by decide +kernel
theorem dX7_loses_21 : decode cX7_loses 21 = .ok (.iconst 5, 1) := by decide +kernel
theorem dX7_loses_22 : decode cX7_loses 22 = .ok (.if_icmp .ge 33, 3) := by decide +kernel
theorem dX7_loses_25 : decode cX7_loses 25 = .ok (.aload_n 0, 1) := by decide +kernel
theorem dX7_loses_26 : decode cX7_loses 26 = .ok (.bipush 16, 2) := by decide +kernel
theorem dX7_loses_28 : decode cX7_loses 28 = .ok (.bipush 12, 2) := by decide +kernel
theorem dX7_loses_30 : decode cX7_loses 30 = .ok (.iload_n 2, 1) := by decide +kernel
theorem dX7_loses_31 : decode cX7_loses 31 = .ok (.imul, 1) := by decide +kernel
theorem dX7_loses_32 : decode cX7_loses 32 = .ok (.iadd, 1) := by decide +kernel
theorem dX7_loses_33 : decode cX7_loses 33 = .ok (.iload_n 1, 1) := by decide +kernel
theorem dX7_loses_34 : decode cX7_loses 34 = .ok (.iadd, 1) := by decide +kernel
theorem dX7_loses_35 : decode cX7_loses 35 = .ok (.aload_n 0, 1) := by decide +kernel
theorem dX7_loses_36 : decode cX7_loses 36 = .ok (.bipush 16, 2) := by decide +kernel
theorem dX7_loses_38 : decode cX7_loses 38 = .ok (.bipush 12, 2) := by decide +kernel
theorem dX7_loses_40 : decode cX7_loses 40 = .ok (.iload_n 2, 1) := by decide +kernel
theorem dX7_loses_41 : decode cX7_loses 41 = .ok (.imul, 1) := by decide +kernel
theorem dX7_loses_42 : decode cX7_loses 42 = .ok (.iadd, 1) := by decide +kernel
theorem dX7_loses_43 : decode cX7_loses 43 = .ok (.iload_n 1, 1) := by decide +kernel
theorem dX7_loses_44 : decode cX7_loses 44 = .ok (.iadd, 1) := by decide +kernel
theorem dX7_loses_45 : decode cX7_loses 45 = .ok (.iconst 1, 1) := by decide +kernel
theorem dX7_loses_46 : decode cX7_loses 46 = .ok (.iadd, 1) := by decide +kernel
theorem dX7_loses_47 : decode cX7_loses 47 = .ok (.iaload, 1) := by decide +kernel
theorem dX7_loses_48 : decode cX7_loses 48 = .ok (.iastore, 1) := by decide +kernel
theorem dX7_loses_49 : decode cX7_loses 49 = .ok (.iinc 2 1, 3) := by decide +kernel
theorem dX7_loses_52 : decode cX7_loses 52 = .ok (.goto (-32), 3) := by decide +kernel
theorem dX7_loses_55 : decode cX7_loses 55 = .ok (.iinc 1 1, 3) := by decide +kernel
theorem dX7_loses_58 : decode cX7_loses 58 = .ok (.goto (-46), 3) := by decide +kernel
theorem dX7_loses_61 : decode cX7_loses 61 = .ok (.aload_n 0, 1) := by decide +kernel
theorem dX7_loses_62 : decode cX7_loses 62 = .ok (.iconst 2, 1) := by decide +kernel
theorem dX7_loses_63 : decode cX7_loses 63 = .ok (.dup2, 1) := by decide +kernel
theorem dX7_loses_64 : decode cX7_loses 64 = .ok (.iaload, 1) := by decide +kernel
theorem dX7_loses_65 : decode cX7_loses 65 = .ok (.iconst 1, 1) := by decide +kernel
theorem dX7_loses_66 : decode cX7_loses 66 = .ok (.isub, 1) := by decide +kernel
theorem dX7_loses_67 : decode cX7_loses 67 = .ok (.iastore, 1) := by decide +kernel
theorem dX7_loses_68 : decode cX7_loses 68 = .ok (.return_, 1) := by decide +kernel
theorem dX7_gives_0 : decode cX7_gives 0 = .ok (.iconst 0, 1) := by decide +kernel
theorem dX7_gives_1 : decode cX7_gives 1 = .ok (.istore 4, 2) := by decide +kernel
theorem dX7_gives_3 : decode cX7_gives 3 = .ok (.iload 4, 2) := by decide +kernel
theorem dX7_gives_5 : decode cX7_gives 5 = .ok (.bipush 76, 2) := by decide +kernel
theorem dX7_gives_7 : decode cX7_gives 7 = .ok (.if_icmp .ge 20, 3) := by decide +kernel
theorem dX7_gives_10 : decode cX7_gives 10 = .ok (.aload_n 0, 1) := by decide +kernel
theorem dX7_gives_11 : decode cX7_gives 11 = .ok (.getfield 34, 3) := by decide +kernel
theorem dX7_gives_14 : decode cX7_gives 14 = .ok (.iload 4, 2) := by decide +kernel
theorem dX7_gives_16 : decode cX7_gives 16 = .ok (.aload_n 1, 1) := by decide +kernel
theorem dX7_gives_17 : decode cX7_gives 17 = .ok (.iload 4, 2) := by decide +kernel
theorem dX7_gives_19 : decode cX7_gives 19 = .ok (.iaload, 1) := by decide +kernel
theorem dX7_gives_20 : decode cX7_gives 20 = .ok (.iastore, 1) := by decide +kernel
theorem dX7_gives_21 : decode cX7_gives 21 = .ok (.iinc 4 1, 3) := by decide +kernel
theorem dX7_gives_24 : decode cX7_gives 24 = .ok (.goto (-21), 3) := by decide +kernel
theorem dX7_gives_27 : decode cX7_gives 27 = .ok (.iconst 0, 1) := by decide +kernel
theorem dX7_gives_28 : decode cX7_gives 28 = .ok (.istore 4, 2) := by decide +kernel
theorem dX7_gives_30 : decode cX7_gives 30 = .ok (.iconst 0, 1) := by decide +kernel
theorem dX7_gives_31 : decode cX7_gives 31 = .ok (.istore 5, 2) := by decide +kernel
theorem dX7_gives_33 : decode cX7_gives 33 = .ok (.iload 5, 2) := by decide +kernel
theorem dX7_gives_35 : decode cX7_gives 35 = .ok (.aload_n 0, 1) := by decide +kernel
theorem dX7_gives_36 : decode cX7_gives 36 = .ok (.invokevirtual 130, 3) := by decide +kernel
theorem dX7_gives_39 : decode cX7_gives 39 = .ok (.if_icmp .ge 66, 3) := by decide +kernel
theorem dX7_gives_42 : decode cX7_gives 42 = .ok (.iload 4, 2) := by decide +kernel
theorem dX7_gives_44 : decode cX7_gives 44 = .ok (.ifCond .ne 61, 3) := by decide +kernel
theorem dX7_gives_47 : decode cX7_gives 47 = .ok (.aload_n 0, 1) := by decide +kernel
theorem dX7_gives_48 : decode cX7_gives 48 = .ok (.aload_n 0, 1) := by decide +kernel
theorem dX7_gives_49 : decode cX7_gives 49 = .ok (.getfield 34, 3) := by decide +kernel
theorem dX7_gives_52 : decode cX7_gives 52 = .ok (.invokevirtual 144, 3) := by decide +kernel
theorem dX7_gives_55 : decode cX7_gives 55 = .ok (.aload_n 0, 1) := by decide +kernel
theorem dX7_gives_56 : decode cX7_gives 56 = .ok (.aload_n 0, 1) := by decide +kernel
theorem dX7_gives_57 : decode cX7_gives 57 = .ok (.getfield 34, 3) := by decide +kernel
theorem dX7_gives_60 : decode cX7_gives 60 = .ok (.invokevirtual 148, 3) := by decide +kernel
theorem dX7_gives_63 : decode cX7_gives 63 = .ok (.istore 6, 2) := by decide +kernel
theorem dX7_gives_65 : decode cX7_gives 65 = .ok (.aload_n 0, 1) := by decide +kernel
theorem dX7_gives_66 : decode cX7_gives 66 = .ok (.aload_n 0, 1) := by decide +kernel
theorem dX7_gives_67 : decode cX7_gives 67 = .ok (.getfield 34, 3) := by decide +kernel
theorem dX7_gives_70 : decode cX7_gives 70 = .ok (.iload 6, 2) := by decide +kernel
theorem dX7_gives_72 : decode cX7_gives 72 = .ok (.invokevirtual 152, 3) := by decide +kernel
theorem dX7_gives_75 : decode cX7_gives 75 = .ok (.ifCond .eq 21, 3) := by decide +kernel
theorem dX7_gives_78 : decode cX7_gives 78 = .ok (.aload_n 0, 1) := by decide +kernel
theorem dX7_gives_79 : decode cX7_gives 79 = .ok (.aload_n 0, 1) := by decide +kernel
theorem dX7_gives_80 : decode cX7_gives 80 = .ok (.getfield 34, 3) := by decide +kernel
theorem dX7_gives_83 : decode cX7_gives 83 = .ok (.iload 6, 2) := by decide +kernel
theorem dX7_gives_85 : decode cX7_gives 85 = .ok (.iload_n 3, 1) := by decide +kernel
theorem dX7_gives_86 : decode cX7_gives 86 = .ok (.invokevirtual 156, 3) := by decide +kernel
theorem dX7_gives_89 : decode cX7_gives 89 = .ok (.ifCond .ne 7, 3) := by decide +kernel
theorem dX7_gives_92 : decode cX7_gives 92 = .ok (.iconst 1, 1) := by decide +kernel
theorem dX7_gives_93 : decode cX7_gives 93 = .ok (.goto 4, 3) := by decide +kernel
theorem dX7_gives_96 : decode cX7_gives 96 = .ok (.iconst 0, 1) := by decide +kernel
theorem dX7_gives_97 : decode cX7_gives 97 = .ok (.istore 4, 2) := by decide +kernel
theorem dX7_gives_99 : decode cX7_gives 99 = .ok (.iinc 5 1, 3) := by decide +kernel
theorem dX7_gives_102 : decode cX7_gives 102 = .ok (.goto (-69), 3) := by decide +kernel
theorem dX7_gives_105 : decode cX7_gives 105 = .ok (.iload 4, 2) := by decide +kernel
theorem dX7_gives_107 : decode cX7_gives 107 = .ok (.ifCond .ne 5, 3) := by decide +kernel
theorem dX7_gives_110 : decode cX7_gives 110 = .ok (.iconst 0, 1) := by decide +kernel
theorem dX7_gives_111 : decode cX7_gives 111 = .ok (.ireturn, 1) := by decide +kernel
theorem dX7_gives_112 : decode cX7_gives 112 = .ok (.aload_n 0, 1) := by decide +kernel
theorem dX7_gives_113 : decode cX7_gives 113 = .ok (.aload_n 0, 1) := by decide +kernel
theorem dX7_gives_114 : decode cX7_gives 114 = .ok (.getfield 34, 3) := by decide +kernel
theorem dX7_gives_117 : decode cX7_gives 117 = .ok (.invokevirtual 148, 3) := by decide +kernel
theorem dX7_gives_120 : decode cX7_gives 120 = .ok (.istore 5, 2) := by decide +kernel
theorem dX7_gives_122 : decode cX7_gives 122 = .ok (.aload_n 0, 1) := by decide +kernel
theorem dX7_gives_123 : decode cX7_gives 123 = .ok (.aload_n 0, 1) := by decide +kernel
theorem dX7_gives_124 : decode cX7_gives 124 = .ok (.getfield 34, 3) := by decide +kernel
theorem dX7_gives_127 : decode cX7_gives 127 = .ok (.iload 5, 2) := by decide +kernel
theorem dX7_gives_129 : decode cX7_gives 129 = .ok (.iload_n 2, 1) := by decide +kernel
theorem dX7_gives_130 : decode cX7_gives 130 = .ok (.iload_n 3, 1) := by decide +kernel
theorem dX7_gives_131 : decode cX7_gives 131 = .ok (.invokevirtual 160, 3) := by decide +kernel
theorem dX7_gives_134 : decode cX7_gives 134 = .ok (.istore 6, 2) := by decide +kernel
theorem dX7_gives_136 : decode cX7_gives 136 = .ok (.aload_n 0, 1) := by decide +kernel
theorem dX7_gives_137 : decode cX7_gives 137 = .ok (.getfield 34, 3) := by decide +kernel
theorem dX7_gives_140 : decode cX7_gives 140 = .ok (.iconst 2, 1) := by decide +kernel
theorem dX7_gives_141 : decode cX7_gives 141 = .ok (.iaload, 1) := by decide +kernel
theorem dX7_gives_142 : decode cX7_gives 142 = .ok (.bipush 12, 2) := by decide +kernel
theorem dX7_gives_144 : decode cX7_gives 144 = .ok (.if_icmp .ne 10, 3) := by decide +kernel
theorem dX7_gives_147 : decode cX7_gives 147 = .ok (.aload_n 0, 1) := by decide +kernel
theorem dX7_gives_148 : decode cX7_gives 148 = .ok (.getfield 34, 3) := by decide +kernel
theorem dX7_gives_151 : decode cX7_gives 151 = .ok (.invokestatic 164, 3) := by decide +kernel
theorem dX7_gives_154 : decode cX7_gives 154 = .ok (.aload_n 0, 1) := by decide +kernel
theorem dX7_gives_155 : decode cX7_gives 155 = .ok (.getfield 34, 3) := by decide +kernel
theorem dX7_gives_158 : decode cX7_gives 158 = .ok (.iconst 2, 1) := by decide +kernel
theorem dX7_gives_159 : decode cX7_gives 159 = .ok (.iaload, 1) := by decide +kernel
theorem dX7_gives_160 : decode cX7_gives 160 = .ok (.istore 7, 2) := by decide +kernel
theorem dX7_gives_162 : decode cX7_gives 162 = .ok (.aload_n 0, 1) := by decide +kernel
theorem dX7_gives_163 : decode cX7_gives 163 = .ok (.getfield 34, 3) := by decide +kernel
theorem dX7_gives_166 : decode cX7_gives 166 = .ok (.bipush 16, 2) := by decide +kernel
theorem dX7_gives_168 : decode cX7_gives 168 = .ok (.iload 7, 2) := by decide +kernel
theorem dX7_gives_170 : decode cX7_gives 170 = .ok (.iadd, 1) := by decide +kernel
theorem dX7_gives_171 : decode cX7_gives 171 = .ok (.iload 5, 2) := by decide +kernel
theorem dX7_gives_173 : decode cX7_gives 173 = .ok (.iastore, 1) := by decide +kernel
theorem dX7_gives_174 : decode cX7_gives 174 = .ok (.aload_n 0, 1) := by decide +kernel
theorem dX7_gives_175 : decode cX7_gives 175 = .ok (.getfield 34, 3) := by decide +kernel
theorem dX7_gives_178 : decode cX7_gives 178 = .ok (.bipush 28, 2) := by decide +kernel
theorem dX7_gives_180 : decode cX7_gives 180 = .ok (.iload 7, 2) := by decide +kernel
theorem dX7_gives_182 : decode cX7_gives 182 = .ok (.iadd, 1) := by decide +kernel
theorem dX7_gives_183 : decode cX7_gives 183 = .ok (.iload_n 2, 1) := by decide +kernel
theorem dX7_gives_184 : decode cX7_gives 184 = .ok (.iastore, 1) := by decide +kernel
theorem dX7_gives_185 : decode cX7_gives 185 = .ok (.aload_n 0, 1) := by decide +kernel
theorem dX7_gives_186 : decode cX7_gives 186 = .ok (.getfield 34, 3) := by decide +kernel
theorem dX7_gives_189 : decode cX7_gives 189 = .ok (.bipush 40, 2) := by decide +kernel
theorem dX7_gives_191 : decode cX7_gives 191 = .ok (.iload 7, 2) := by decide +kernel
theorem dX7_gives_193 : decode cX7_gives 193 = .ok (.iadd, 1) := by decide +kernel
theorem dX7_gives_194 : decode cX7_gives 194 = .ok (.iload_n 3, 1) := by decide +kernel
theorem dX7_gives_195 : decode cX7_gives 195 = .ok (.iastore, 1) := by decide +kernel
theorem dX7_gives_196 : decode cX7_gives 196 = .ok (.aload_n 0, 1) := by decide +kernel
theorem dX7_gives_197 : decode cX7_gives 197 = .ok (.getfield 34, 3) := by decide +kernel
theorem dX7_gives_200 : decode cX7_gives 200 = .ok (.bipush 52, 2) := by decide +kernel
theorem dX7_gives_202 : decode cX7_gives 202 = .ok (.iload 7, 2) := by decide +kernel
theorem dX7_gives_204 : decode cX7_gives 204 = .ok (.iadd, 1) := by decide +kernel
theorem dX7_gives_205 : decode cX7_gives 205 = .ok (.aload_n 0, 1) := by decide +kernel
theorem dX7_gives_206 : decode cX7_gives 206 = .ok (.getfield 34, 3) := by decide +kernel
theorem dX7_gives_209 : decode cX7_gives 209 = .ok (.iconst 0, 1) := by decide +kernel
theorem dX7_gives_210 : decode cX7_gives 210 = .ok (.iaload, 1) := by decide +kernel
theorem dX7_gives_211 : decode cX7_gives 211 = .ok (.iastore, 1) := by decide +kernel
theorem dX7_gives_212 : decode cX7_gives 212 = .ok (.aload_n 0, 1) := by decide +kernel
theorem dX7_gives_213 : decode cX7_gives 213 = .ok (.getfield 34, 3) := by decide +kernel
theorem dX7_gives_216 : decode cX7_gives 216 = .ok (.bipush 64, 2) := by decide +kernel
theorem dX7_gives_218 : decode cX7_gives 218 = .ok (.iload 7, 2) := by decide +kernel
theorem dX7_gives_220 : decode cX7_gives 220 = .ok (.iadd, 1) := by decide +kernel
theorem dX7_gives_221 : decode cX7_gives 221 = .ok (.iload 6, 2) := by decide +kernel
theorem dX7_gives_223 : decode cX7_gives 223 = .ok (.ifCond .eq 7, 3) := by decide +kernel
theorem dX7_gives_226 : decode cX7_gives 226 = .ok (.iconst 1, 1) := by decide +kernel
theorem dX7_gives_227 : decode cX7_gives 227 = .ok (.goto 4, 3) := by decide +kernel
theorem dX7_gives_230 : decode cX7_gives 230 = .ok (.iconst 0, 1) := by decide +kernel
theorem dX7_gives_231 : decode cX7_gives 231 = .ok (.iastore, 1) := by decide +kernel
theorem dX7_gives_232 : decode cX7_gives 232 = .ok (.aload_n 0, 1) := by decide +kernel
theorem dX7_gives_233 : decode cX7_gives 233 = .ok (.getfield 34, 3) := by decide +kernel
theorem dX7_gives_236 : decode cX7_gives 236 = .ok (.iconst 3, 1) := by decide +kernel
theorem dX7_gives_237 : decode cX7_gives 237 = .ok (.dup2, 1) := by decide +kernel
theorem dX7_gives_238 : decode cX7_gives 238 = .ok (.iaload, 1) := by decide +kernel
theorem dX7_gives_239 : decode cX7_gives 239 = .ok (.iload 6, 2) := by decide +kernel
theorem dX7_gives_241 : decode cX7_gives 241 = .ok (.ifCond .eq 7, 3) := by decide +kernel
theorem dX7_gives_244 : decode cX7_gives 244 = .ok (.iconst 1, 1) := by decide +kernel
theorem dX7_gives_245 : decode cX7_gives 245 = .ok (.goto 4, 3) := by decide +kernel
theorem dX7_gives_248 : decode cX7_gives 248 = .ok (.iconst 0, 1) := by decide +kernel
theorem dX7_gives_249 : decode cX7_gives 249 = .ok (.iadd, 1) := by decide +kernel
theorem dX7_gives_250 : decode cX7_gives 250 = .ok (.iastore, 1) := by decide +kernel
theorem dX7_gives_251 : decode cX7_gives 251 = .ok (.aload_n 0, 1) := by decide +kernel
theorem dX7_gives_252 : decode cX7_gives 252 = .ok (.getfield 34, 3) := by decide +kernel
theorem dX7_gives_255 : decode cX7_gives 255 = .ok (.iconst 2, 1) := by decide +kernel
theorem dX7_gives_256 : decode cX7_gives 256 = .ok (.dup2, 1) := by decide +kernel
theorem dX7_gives_257 : decode cX7_gives 257 = .ok (.iaload, 1) := by decide +kernel
theorem dX7_gives_258 : decode cX7_gives 258 = .ok (.iconst 1, 1) := by decide +kernel
theorem dX7_gives_259 : decode cX7_gives 259 = .ok (.iadd, 1) := by decide +kernel
theorem dX7_gives_260 : decode cX7_gives 260 = .ok (.iastore, 1) := by decide +kernel
theorem dX7_gives_261 : decode cX7_gives 261 = .ok (.iconst 1, 1) := by decide +kernel
theorem dX7_gives_262 : decode cX7_gives 262 = .ok (.ireturn, 1) := by decide +kernel
theorem dX7_wheel_0 : decode cX7_wheel 0 = .ok (.aload_n 0, 1) := by decide +kernel
theorem dX7_wheel_1 : decode cX7_wheel 1 = .ok (.iload_n 1, 1) := by decide +kernel
theorem dX7_wheel_2 : decode cX7_wheel 2 = .ok (.invokevirtual 127, 3) := by decide +kernel
theorem dX7_wheel_5 : decode cX7_wheel 5 = .ok (.ifCond .eq 15, 3) := by decide +kernel
theorem dX7_wheel_8 : decode cX7_wheel 8 = .ok (.iload_n 2, 1) := by decide +kernel
theorem dX7_wheel_9 : decode cX7_wheel 9 = .ok (.i2l, 1) := by decide +kernel
theorem dX7_wheel_10 : decode cX7_wheel 10 = .ok (.lconst 0, 1) := by decide +kernel
theorem dX7_wheel_11 : decode cX7_wheel 11 = .ok (.ldc2_w 167, 3) := by decide +kernel
theorem dX7_wheel_14 : decode cX7_wheel 14 = .ok (.invokestatic 67, 3) := by decide +kernel
theorem dX7_wheel_17 : decode cX7_wheel 17 = .ok (.ifCond .ne 5, 3) := by decide +kernel
theorem dX7_wheel_20 : decode cX7_wheel 20 = .ok (.iconst (-1), 1) := by decide +kernel
theorem dX7_wheel_21 : decode cX7_wheel 21 = .ok (.ireturn, 1) := by decide +kernel
theorem dX7_wheel_22 : decode cX7_wheel 22 = .ok (.iload_n 2, 1) := by decide +kernel
theorem dX7_wheel_23 : decode cX7_wheel 23 = .ok (.ifCond .ne 14, 3) := by decide +kernel
theorem dX7_wheel_26 : decode cX7_wheel 26 = .ok (.aload_n 0, 1) := by decide +kernel
theorem dX7_wheel_27 : decode cX7_wheel 27 = .ok (.getfield 7, 3) := by decide +kernel
theorem dX7_wheel_30 : decode cX7_wheel 30 = .ok (.iconst 5, 1) := by decide +kernel
theorem dX7_wheel_31 : decode cX7_wheel 31 = .ok (.iload_n 1, 1) := by decide +kernel
theorem dX7_wheel_32 : decode cX7_wheel 32 = .ok (.iadd, 1) := by decide +kernel
theorem dX7_wheel_33 : decode cX7_wheel 33 = .ok (.iaload, 1) := by decide +kernel
theorem dX7_wheel_34 : decode cX7_wheel 34 = .ok (.goto 17, 3) := by decide +kernel
theorem dX7_wheel_37 : decode cX7_wheel 37 = .ok (.aload_n 0, 1) := by decide +kernel
theorem dX7_wheel_38 : decode cX7_wheel 38 = .ok (.getfield 16, 3) := by decide +kernel
theorem dX7_wheel_41 : decode cX7_wheel 41 = .ok (.iconst 4, 1) := by decide +kernel
theorem dX7_wheel_42 : decode cX7_wheel 42 = .ok (.iconst 4, 1) := by decide +kernel
theorem dX7_wheel_43 : decode cX7_wheel 43 = .ok (.iload_n 2, 1) := by decide +kernel
theorem dX7_wheel_44 : decode cX7_wheel 44 = .ok (.iconst 1, 1) := by decide +kernel
theorem dX7_wheel_45 : decode cX7_wheel 45 = .ok (.isub, 1) := by decide +kernel
theorem dX7_wheel_46 : decode cX7_wheel 46 = .ok (.imul, 1) := by decide +kernel
theorem dX7_wheel_47 : decode cX7_wheel 47 = .ok (.iadd, 1) := by decide +kernel
theorem dX7_wheel_48 : decode cX7_wheel 48 = .ok (.iload_n 1, 1) := by decide +kernel
theorem dX7_wheel_49 : decode cX7_wheel 49 = .ok (.iadd, 1) := by decide +kernel
theorem dX7_wheel_50 : decode cX7_wheel 50 = .ok (.iaload, 1) := by decide +kernel
theorem dX7_wheel_51 : decode cX7_wheel 51 = .ok (.ireturn, 1) := by decide +kernel
theorem dX7_talks_0 : decode cX7_talks 0 = .ok (.aload_n 0, 1) := by decide +kernel
theorem dX7_talks_1 : decode cX7_talks 1 = .ok (.iload_n 1, 1) := by decide +kernel
theorem dX7_talks_2 : decode cX7_talks 2 = .ok (.invokevirtual 169, 3) := by decide +kernel
theorem dX7_talks_5 : decode cX7_talks 5 = .ok (.ifCond .eq 11, 3) := by decide +kernel
theorem dX7_talks_8 : decode cX7_talks 8 = .ok (.aload_n 0, 1) := by decide +kernel
theorem dX7_talks_9 : decode cX7_talks 9 = .ok (.iload_n 1, 1) := by decide +kernel
theorem dX7_talks_10 : decode cX7_talks 10 = .ok (.invokevirtual 140, 3) := by decide +kernel
theorem dX7_talks_13 : decode cX7_talks 13 = .ok (.goto 4, 3) := by decide +kernel
theorem dX7_talks_16 : decode cX7_talks 16 = .ok (.iconst (-1), 1) := by decide +kernel
theorem dX7_talks_17 : decode cX7_talks 17 = .ok (.ireturn, 1) := by decide +kernel
theorem dX7_isHeard_0 : decode cX7_isHeard 0 = .ok (.iload_n 1, 1) := by decide +kernel
theorem dX7_isHeard_1 : decode cX7_isHeard 1 = .ok (.i2l, 1) := by decide +kernel
theorem dX7_isHeard_2 : decode cX7_isHeard 2 = .ok (.lconst 0, 1) := by decide +kernel
theorem dX7_isHeard_3 : decode cX7_isHeard 3 = .ok (.aload_n 0, 1) := by decide +kernel
theorem dX7_isHeard_4 : decode cX7_isHeard 4 = .ok (.getfield 16, 3) := by decide +kernel
theorem dX7_isHeard_7 : decode cX7_isHeard 7 = .ok (.iconst 2, 1) := by decide +kernel
theorem dX7_isHeard_8 : decode cX7_isHeard 8 = .ok (.iaload, 1) := by decide +kernel
theorem dX7_isHeard_9 : decode cX7_isHeard 9 = .ok (.iconst 1, 1) := by decide +kernel
theorem dX7_isHeard_10 : decode cX7_isHeard 10 = .ok (.isub, 1) := by decide +kernel
theorem dX7_isHeard_11 : decode cX7_isHeard 11 = .ok (.i2l, 1) := by decide +kernel
theorem dX7_isHeard_12 : decode cX7_isHeard 12 = .ok (.invokestatic 67, 3) := by decide +kernel
theorem dX7_isHeard_15 : decode cX7_isHeard 15 = .ok (.ireturn, 1) := by decide +kernel
theorem dX7_heard_0 : decode cX7_heard 0 = .ok (.aload_n 0, 1) := by decide +kernel
theorem dX7_heard_1 : decode cX7_heard 1 = .ok (.iload_n 1, 1) := by decide +kernel
theorem dX7_heard_2 : decode cX7_heard 2 = .ok (.invokevirtual 172, 3) := by decide +kernel
theorem dX7_heard_5 : decode cX7_heard 5 = .ok (.ifCond .eq 32, 3) := by decide +kernel
theorem dX7_heard_8 : decode cX7_heard 8 = .ok (.iload_n 2, 1) := by decide +kernel
theorem dX7_heard_9 : decode cX7_heard 9 = .ok (.i2l, 1) := by decide +kernel
theorem dX7_heard_10 : decode cX7_heard 10 = .ok (.lconst 0, 1) := by decide +kernel
theorem dX7_heard_11 : decode cX7_heard 11 = .ok (.ldc2_w 175, 3) := by decide +kernel
theorem dX7_heard_14 : decode cX7_heard 14 = .ok (.invokestatic 67, 3) := by decide +kernel
theorem dX7_heard_17 : decode cX7_heard 17 = .ok (.ifCond .eq 20, 3) := by decide +kernel
theorem dX7_heard_20 : decode cX7_heard 20 = .ok (.aload_n 0, 1) := by decide +kernel
theorem dX7_heard_21 : decode cX7_heard 21 = .ok (.getfield 16, 3) := by decide +kernel
theorem dX7_heard_24 : decode cX7_heard 24 = .ok (.bipush 16, 2) := by decide +kernel
theorem dX7_heard_26 : decode cX7_heard 26 = .ok (.bipush 12, 2) := by decide +kernel
theorem dX7_heard_28 : decode cX7_heard 28 = .ok (.iload_n 2, 1) := by decide +kernel
theorem dX7_heard_29 : decode cX7_heard 29 = .ok (.imul, 1) := by decide +kernel
theorem dX7_heard_30 : decode cX7_heard 30 = .ok (.iadd, 1) := by decide +kernel
theorem dX7_heard_31 : decode cX7_heard 31 = .ok (.iload_n 1, 1) := by decide +kernel
theorem dX7_heard_32 : decode cX7_heard 32 = .ok (.iadd, 1) := by decide +kernel
theorem dX7_heard_33 : decode cX7_heard 33 = .ok (.iaload, 1) := by decide +kernel
theorem dX7_heard_34 : decode cX7_heard 34 = .ok (.goto 4, 3) := by decide +kernel
theorem dX7_heard_37 : decode cX7_heard 37 = .ok (.iconst (-1), 1) := by decide +kernel
theorem dX7_heard_38 : decode cX7_heard 38 = .ok (.ireturn, 1) := by decide +kernel
theorem dX7_sense_0 : decode cX7_sense 0 = .ok (.aload_n 0, 1) := by decide +kernel
theorem dX7_sense_1 : decode cX7_sense 1 = .ok (.iload_n 1, 1) := by decide +kernel
theorem dX7_sense_2 : decode cX7_sense 2 = .ok (.invokevirtual 177, 3) := by decide +kernel
theorem dX7_sense_5 : decode cX7_sense 5 = .ok (.ifCond .ne 7, 3) := by decide +kernel
theorem dX7_sense_8 : decode cX7_sense 8 = .ok (.iconst (-1), 1) := by decide +kernel
theorem dX7_sense_9 : decode cX7_sense 9 = .ok (.goto 20, 3) := by decide +kernel
theorem dX7_sense_12 : decode cX7_sense 12 = .ok (.aload_n 0, 1) := by decide +kernel
theorem dX7_sense_13 : decode cX7_sense 13 = .ok (.aload_n 0, 1) := by decide +kernel
theorem dX7_sense_14 : decode cX7_sense 14 = .ok (.getfield 16, 3) := by decide +kernel
theorem dX7_sense_17 : decode cX7_sense 17 = .ok (.iload_n 1, 1) := by decide +kernel
theorem dX7_sense_18 : decode cX7_sense 18 = .ok (.invokevirtual 152, 3) := by decide +kernel
theorem dX7_sense_21 : decode cX7_sense 21 = .ok (.ifCond .eq 7, 3) := by decide +kernel
theorem dX7_sense_24 : decode cX7_sense 24 = .ok (.iconst 1, 1) := by decide +kernel
theorem dX7_sense_25 : decode cX7_sense 25 = .ok (.goto 4, 3) := by decide +kernel
theorem dX7_sense_28 : decode cX7_sense 28 = .ok (.iconst 0, 1) := by decide +kernel
theorem dX7_sense_29 : decode cX7_sense 29 = .ok (.ireturn, 1) := by decide +kernel
theorem dX7_stale_0 : decode cX7_stale 0 = .ok (.aload_n 0, 1) := by decide +kernel
theorem dX7_stale_1 : decode cX7_stale 1 = .ok (.iload_n 1, 1) := by decide +kernel
theorem dX7_stale_2 : decode cX7_stale 2 = .ok (.invokevirtual 177, 3) := by decide +kernel
theorem dX7_stale_5 : decode cX7_stale 5 = .ok (.ifCond .eq 11, 3) := by decide +kernel
theorem dX7_stale_8 : decode cX7_stale 8 = .ok (.aload_n 0, 1) := by decide +kernel
theorem dX7_stale_9 : decode cX7_stale 9 = .ok (.iload_n 2, 1) := by decide +kernel
theorem dX7_stale_10 : decode cX7_stale 10 = .ok (.invokevirtual 169, 3) := by decide +kernel
theorem dX7_stale_13 : decode cX7_stale 13 = .ok (.ifCond .ne 7, 3) := by decide +kernel
theorem dX7_stale_16 : decode cX7_stale 16 = .ok (.iconst (-1), 1) := by decide +kernel
theorem dX7_stale_17 : decode cX7_stale 17 = .ok (.goto 21, 3) := by decide +kernel
theorem dX7_stale_20 : decode cX7_stale 20 = .ok (.aload_n 0, 1) := by decide +kernel
theorem dX7_stale_21 : decode cX7_stale 21 = .ok (.aload_n 0, 1) := by decide +kernel
theorem dX7_stale_22 : decode cX7_stale 22 = .ok (.getfield 16, 3) := by decide +kernel
theorem dX7_stale_25 : decode cX7_stale 25 = .ok (.iload_n 1, 1) := by decide +kernel
theorem dX7_stale_26 : decode cX7_stale 26 = .ok (.iload_n 2, 1) := by decide +kernel
theorem dX7_stale_27 : decode cX7_stale 27 = .ok (.invokevirtual 156, 3) := by decide +kernel
theorem dX7_stale_30 : decode cX7_stale 30 = .ok (.ifCond .eq 7, 3) := by decide +kernel
theorem dX7_stale_33 : decode cX7_stale 33 = .ok (.iconst 1, 1) := by decide +kernel
theorem dX7_stale_34 : decode cX7_stale 34 = .ok (.goto 4, 3) := by decide +kernel
theorem dX7_stale_37 : decode cX7_stale 37 = .ok (.iconst 0, 1) := by decide +kernel
theorem dX7_stale_38 : decode cX7_stale 38 = .ok (.ireturn, 1) := by decide +kernel
theorem dX7_copies_0 : decode cX7_copies 0 = .ok (.iconst 0, 1) := by decide +kernel
theorem dX7_copies_1 : decode cX7_copies 1 = .ok (.istore 4, 2) := by decide +kernel
theorem dX7_copies_3 : decode cX7_copies 3 = .ok (.iload 4, 2) := by decide +kernel
theorem dX7_copies_5 : decode cX7_copies 5 = .ok (.bipush 76, 2) := by decide +kernel
theorem dX7_copies_7 : decode cX7_copies 7 = .ok (.if_icmp .ge 21, 3) := by decide +kernel
theorem dX7_copies_10 : decode cX7_copies 10 = .ok (.aload_n 2, 1) := by decide +kernel
theorem dX7_copies_11 : decode cX7_copies 11 = .ok (.iload_n 3, 1) := by decide +kernel
theorem dX7_copies_12 : decode cX7_copies 12 = .ok (.iload 4, 2) := by decide +kernel
theorem dX7_copies_14 : decode cX7_copies 14 = .ok (.iadd, 1) := by decide +kernel
theorem dX7_copies_15 : decode cX7_copies 15 = .ok (.aload_n 0, 1) := by decide +kernel
theorem dX7_copies_16 : decode cX7_copies 16 = .ok (.iload_n 1, 1) := by decide +kernel
theorem dX7_copies_17 : decode cX7_copies 17 = .ok (.iload 4, 2) := by decide +kernel
theorem dX7_copies_19 : decode cX7_copies 19 = .ok (.iadd, 1) := by decide +kernel
theorem dX7_copies_20 : decode cX7_copies 20 = .ok (.iaload, 1) := by decide +kernel
theorem dX7_copies_21 : decode cX7_copies 21 = .ok (.iastore, 1) := by decide +kernel
theorem dX7_copies_22 : decode cX7_copies 22 = .ok (.iinc 4 1, 3) := by decide +kernel
theorem dX7_copies_25 : decode cX7_copies 25 = .ok (.goto (-22), 3) := by decide +kernel
theorem dX7_copies_28 : decode cX7_copies 28 = .ok (.return_, 1) := by decide +kernel
theorem dX7_remember_0 : decode cX7_remember 0 = .ok (.aload_n 0, 1) := by decide +kernel
theorem dX7_remember_1 : decode cX7_remember 1 = .ok (.getfield 117, 3) := by decide +kernel
theorem dX7_remember_4 : decode cX7_remember 4 = .ok (.bipush 8, 2) := by decide +kernel
theorem dX7_remember_6 : decode cX7_remember 6 = .ok (.if_icmp .ne 43, 3) := by decide +kernel
theorem dX7_remember_9 : decode cX7_remember 9 = .ok (.iconst 0, 1) := by decide +kernel
theorem dX7_remember_10 : decode cX7_remember 10 = .ok (.istore_n 1, 1) := by decide +kernel
theorem dX7_remember_11 : decode cX7_remember 11 = .ok (.iload_n 1, 1) := by decide +kernel
theorem dX7_remember_12 : decode cX7_remember 12 = .ok (.sipush 532, 3) := by decide +kernel
theorem dX7_remember_15 : decode cX7_remember 15 = .ok (.if_icmp .ge 24, 3) := by decide +kernel
theorem dX7_remember_18 : decode cX7_remember 18 = .ok (.aload_n 0, 1) := by decide +kernel
theorem dX7_remember_19 : decode cX7_remember 19 = .ok (.getfield 19, 3) := by decide +kernel
theorem dX7_remember_22 : decode cX7_remember 22 = .ok (.iload_n 1, 1) := by decide +kernel
theorem dX7_remember_23 : decode cX7_remember 23 = .ok (.aload_n 0, 1) := by decide +kernel
theorem dX7_remember_24 : decode cX7_remember 24 = .ok (.getfield 19, 3) := by decide +kernel
theorem dX7_remember_27 : decode cX7_remember 27 = .ok (.iload_n 1, 1) := by decide +kernel
theorem dX7_remember_28 : decode cX7_remember 28 = .ok (.bipush 76, 2) := by decide +kernel
theorem dX7_remember_30 : decode cX7_remember 30 = .ok (.iadd, 1) := by decide +kernel
theorem dX7_remember_31 : decode cX7_remember 31 = .ok (.iaload, 1) := by decide +kernel
theorem dX7_remember_32 : decode cX7_remember 32 = .ok (.iastore, 1) := by decide +kernel
theorem dX7_remember_33 : decode cX7_remember 33 = .ok (.iinc 1 1, 3) := by decide +kernel
theorem dX7_remember_36 : decode cX7_remember 36 = .ok (.goto (-25), 3) := by decide +kernel
theorem dX7_remember_39 : decode cX7_remember 39 = .ok (.aload_n 0, 1) := by decide +kernel
theorem dX7_remember_40 : decode cX7_remember 40 = .ok (.dup, 1) := by decide +kernel
theorem dX7_remember_41 : decode cX7_remember 41 = .ok (.getfield 117, 3) := by decide +kernel
theorem dX7_remember_44 : decode cX7_remember 44 = .ok (.iconst 1, 1) := by decide +kernel
theorem dX7_remember_45 : decode cX7_remember 45 = .ok (.isub, 1) := by decide +kernel
theorem dX7_remember_46 : decode cX7_remember 46 = .ok (.putfield 117, 3) := by decide +kernel
theorem dX7_remember_49 : decode cX7_remember 49 = .ok (.aload_n 0, 1) := by decide +kernel
theorem dX7_remember_50 : decode cX7_remember 50 = .ok (.getfield 16, 3) := by decide +kernel
theorem dX7_remember_53 : decode cX7_remember 53 = .ok (.iconst 0, 1) := by decide +kernel
theorem dX7_remember_54 : decode cX7_remember 54 = .ok (.aload_n 0, 1) := by decide +kernel
theorem dX7_remember_55 : decode cX7_remember 55 = .ok (.getfield 19, 3) := by decide +kernel
theorem dX7_remember_58 : decode cX7_remember 58 = .ok (.bipush 76, 2) := by decide +kernel
theorem dX7_remember_60 : decode cX7_remember 60 = .ok (.aload_n 0, 1) := by decide +kernel
theorem dX7_remember_61 : decode cX7_remember 61 = .ok (.getfield 117, 3) := by decide +kernel
theorem dX7_remember_64 : decode cX7_remember 64 = .ok (.imul, 1) := by decide +kernel
theorem dX7_remember_65 : decode cX7_remember 65 = .ok (.invokestatic 180, 3) := by decide +kernel
theorem dX7_remember_68 : decode cX7_remember 68 = .ok (.aload_n 0, 1) := by decide +kernel
theorem dX7_remember_69 : decode cX7_remember 69 = .ok (.dup, 1) := by decide +kernel
theorem dX7_remember_70 : decode cX7_remember 70 = .ok (.getfield 117, 3) := by decide +kernel
theorem dX7_remember_73 : decode cX7_remember 73 = .ok (.iconst 1, 1) := by decide +kernel
theorem dX7_remember_74 : decode cX7_remember 74 = .ok (.iadd, 1) := by decide +kernel
theorem dX7_remember_75 : decode cX7_remember 75 = .ok (.putfield 117, 3) := by decide +kernel
theorem dX7_remember_78 : decode cX7_remember 78 = .ok (.return_, 1) := by decide +kernel
theorem dX7_crank_0 : decode cX7_crank 0 = .ok (.aload_n 0, 1) := by decide +kernel
theorem dX7_crank_1 : decode cX7_crank 1 = .ok (.invokevirtual 184, 3) := by decide +kernel
theorem dX7_crank_4 : decode cX7_crank 4 = .ok (.aload_n 0, 1) := by decide +kernel
theorem dX7_crank_5 : decode cX7_crank 5 = .ok (.aload_n 0, 1) := by decide +kernel
theorem dX7_crank_6 : decode cX7_crank 6 = .ok (.getfield 16, 3) := by decide +kernel
theorem dX7_crank_9 : decode cX7_crank 9 = .ok (.invokevirtual 144, 3) := by decide +kernel
theorem dX7_crank_12 : decode cX7_crank 12 = .ok (.aload_n 0, 1) := by decide +kernel
theorem dX7_crank_13 : decode cX7_crank 13 = .ok (.aload_n 0, 1) := by decide +kernel
theorem dX7_crank_14 : decode cX7_crank 14 = .ok (.getfield 16, 3) := by decide +kernel
theorem dX7_crank_17 : decode cX7_crank 17 = .ok (.invokevirtual 148, 3) := by decide +kernel
theorem dX7_crank_20 : decode cX7_crank 20 = .ok (.ireturn, 1) := by decide +kernel
theorem dX7_give_0 : decode cX7_give 0 = .ok (.aload_n 0, 1) := by decide +kernel
theorem dX7_give_1 : decode cX7_give 1 = .ok (.iload_n 1, 1) := by decide +kernel
theorem dX7_give_2 : decode cX7_give 2 = .ok (.invokevirtual 169, 3) := by decide +kernel
theorem dX7_give_5 : decode cX7_give 5 = .ok (.ifCond .eq 16, 3) := by decide +kernel
theorem dX7_give_8 : decode cX7_give 8 = .ok (.aload_n 0, 1) := by decide +kernel
theorem dX7_give_9 : decode cX7_give 9 = .ok (.iload_n 2, 1) := by decide +kernel
theorem dX7_give_10 : decode cX7_give 10 = .ok (.invokevirtual 169, 3) := by decide +kernel
theorem dX7_give_13 : decode cX7_give 13 = .ok (.ifCond .eq 8, 3) := by decide +kernel
theorem dX7_give_16 : decode cX7_give 16 = .ok (.iload_n 1, 1) := by decide +kernel
theorem dX7_give_17 : decode cX7_give 17 = .ok (.iload_n 2, 1) := by decide +kernel
theorem dX7_give_18 : decode cX7_give 18 = .ok (.if_icmp .ne 5, 3) := by decide +kernel
theorem dX7_give_21 : decode cX7_give 21 = .ok (.iconst (-1), 1) := by decide +kernel
theorem dX7_give_22 : decode cX7_give 22 = .ok (.ireturn, 1) := by decide +kernel
theorem dX7_give_23 : decode cX7_give 23 = .ok (.aload_n 0, 1) := by decide +kernel
theorem dX7_give_24 : decode cX7_give 24 = .ok (.getfield 16, 3) := by decide +kernel
theorem dX7_give_27 : decode cX7_give 27 = .ok (.iconst 2, 1) := by decide +kernel
theorem dX7_give_28 : decode cX7_give 28 = .ok (.iaload, 1) := by decide +kernel
theorem dX7_give_29 : decode cX7_give 29 = .ok (.bipush 12, 2) := by decide +kernel
theorem dX7_give_31 : decode cX7_give 31 = .ok (.if_icmp .ne 6, 3) := by decide +kernel
theorem dX7_give_34 : decode cX7_give 34 = .ok (.bipush (-3), 2) := by decide +kernel
theorem dX7_give_36 : decode cX7_give 36 = .ok (.ireturn, 1) := by decide +kernel
theorem dX7_give_37 : decode cX7_give 37 = .ok (.aload_n 0, 1) := by decide +kernel
theorem dX7_give_38 : decode cX7_give 38 = .ok (.aload_n 0, 1) := by decide +kernel
theorem dX7_give_39 : decode cX7_give 39 = .ok (.getfield 16, 3) := by decide +kernel
theorem dX7_give_42 : decode cX7_give 42 = .ok (.iload_n 1, 1) := by decide +kernel
theorem dX7_give_43 : decode cX7_give 43 = .ok (.iload_n 2, 1) := by decide +kernel
theorem dX7_give_44 : decode cX7_give 44 = .ok (.invokevirtual 187, 3) := by decide +kernel
theorem dX7_give_47 : decode cX7_give 47 = .ok (.ifCond .ne 6, 3) := by decide +kernel
theorem dX7_give_50 : decode cX7_give 50 = .ok (.bipush (-4), 2) := by decide +kernel
theorem dX7_give_52 : decode cX7_give 52 = .ok (.ireturn, 1) := by decide +kernel
theorem dX7_give_53 : decode cX7_give 53 = .ok (.aload_n 0, 1) := by decide +kernel
theorem dX7_give_54 : decode cX7_give 54 = .ok (.invokevirtual 184, 3) := by decide +kernel
theorem dX7_give_57 : decode cX7_give 57 = .ok (.aload_n 0, 1) := by decide +kernel
theorem dX7_give_58 : decode cX7_give 58 = .ok (.getfield 34, 3) := by decide +kernel
theorem dX7_give_61 : decode cX7_give 61 = .ok (.iconst 0, 1) := by decide +kernel
theorem dX7_give_62 : decode cX7_give 62 = .ok (.aload_n 0, 1) := by decide +kernel
theorem dX7_give_63 : decode cX7_give 63 = .ok (.getfield 16, 3) := by decide +kernel
theorem dX7_give_66 : decode cX7_give 66 = .ok (.iconst 0, 1) := by decide +kernel
theorem dX7_give_67 : decode cX7_give 67 = .ok (.invokestatic 180, 3) := by decide +kernel
theorem dX7_give_70 : decode cX7_give 70 = .ok (.aload_n 0, 1) := by decide +kernel
theorem dX7_give_71 : decode cX7_give 71 = .ok (.aload_n 0, 1) := by decide +kernel
theorem dX7_give_72 : decode cX7_give 72 = .ok (.getfield 16, 3) := by decide +kernel
theorem dX7_give_75 : decode cX7_give 75 = .ok (.invokevirtual 148, 3) := by decide +kernel
theorem dX7_give_78 : decode cX7_give 78 = .ok (.ireturn, 1) := by decide +kernel
theorem dX7_day_0 : decode cX7_day 0 = .ok (.aload_n 0, 1) := by decide +kernel
theorem dX7_day_1 : decode cX7_day 1 = .ok (.invokevirtual 184, 3) := by decide +kernel
theorem dX7_day_4 : decode cX7_day 4 = .ok (.aload_n 0, 1) := by decide +kernel
theorem dX7_day_5 : decode cX7_day 5 = .ok (.getfield 16, 3) := by decide +kernel
theorem dX7_day_8 : decode cX7_day 8 = .ok (.iconst 0, 1) := by decide +kernel
theorem dX7_day_9 : decode cX7_day 9 = .ok (.dup2, 1) := by decide +kernel
theorem dX7_day_10 : decode cX7_day 10 = .ok (.iaload, 1) := by decide +kernel
theorem dX7_day_11 : decode cX7_day 11 = .ok (.iconst 1, 1) := by decide +kernel
theorem dX7_day_12 : decode cX7_day 12 = .ok (.iadd, 1) := by decide +kernel
theorem dX7_day_13 : decode cX7_day 13 = .ok (.iastore, 1) := by decide +kernel
theorem dX7_day_14 : decode cX7_day 14 = .ok (.aload_n 0, 1) := by decide +kernel
theorem dX7_day_15 : decode cX7_day 15 = .ok (.getfield 16, 3) := by decide +kernel
theorem dX7_day_18 : decode cX7_day 18 = .ok (.iconst 0, 1) := by decide +kernel
theorem dX7_day_19 : decode cX7_day 19 = .ok (.iaload, 1) := by decide +kernel
theorem dX7_day_20 : decode cX7_day 20 = .ok (.ireturn, 1) := by decide +kernel
theorem dX7_file_0 : decode cX7_file 0 = .ok (.aload_n 0, 1) := by decide +kernel
theorem dX7_file_1 : decode cX7_file 1 = .ok (.iload_n 1, 1) := by decide +kernel
theorem dX7_file_2 : decode cX7_file 2 = .ok (.iload_n 2, 1) := by decide +kernel
theorem dX7_file_3 : decode cX7_file 3 = .ok (.invokevirtual 190, 3) := by decide +kernel
theorem dX7_file_6 : decode cX7_file 6 = .ok (.ifCond .ne 5, 3) := by decide +kernel
theorem dX7_file_9 : decode cX7_file 9 = .ok (.iconst (-1), 1) := by decide +kernel
theorem dX7_file_10 : decode cX7_file 10 = .ok (.ireturn, 1) := by decide +kernel
theorem dX7_file_11 : decode cX7_file 11 = .ok (.aload_n 0, 1) := by decide +kernel
theorem dX7_file_12 : decode cX7_file 12 = .ok (.getfield 16, 3) := by decide +kernel
theorem dX7_file_15 : decode cX7_file 15 = .ok (.bipush 12, 2) := by decide +kernel
theorem dX7_file_17 : decode cX7_file 17 = .ok (.iload_n 1, 1) := by decide +kernel
theorem dX7_file_18 : decode cX7_file 18 = .ok (.iadd, 1) := by decide +kernel
theorem dX7_file_19 : decode cX7_file 19 = .ok (.iaload, 1) := by decide +kernel
theorem dX7_file_20 : decode cX7_file 20 = .ok (.iload_n 2, 1) := by decide +kernel
theorem dX7_file_21 : decode cX7_file 21 = .ok (.invokestatic 137, 3) := by decide +kernel
theorem dX7_file_24 : decode cX7_file 24 = .ok (.ifCond .eq 6, 3) := by decide +kernel
theorem dX7_file_27 : decode cX7_file 27 = .ok (.bipush (-2), 2) := by decide +kernel
theorem dX7_file_29 : decode cX7_file 29 = .ok (.ireturn, 1) := by decide +kernel
theorem dX7_file_30 : decode cX7_file 30 = .ok (.aload_n 0, 1) := by decide +kernel
theorem dX7_file_31 : decode cX7_file 31 = .ok (.invokevirtual 184, 3) := by decide +kernel
theorem dX7_file_34 : decode cX7_file 34 = .ok (.aload_n 0, 1) := by decide +kernel
theorem dX7_file_35 : decode cX7_file 35 = .ok (.getfield 16, 3) := by decide +kernel
theorem dX7_file_38 : decode cX7_file 38 = .ok (.bipush 12, 2) := by decide +kernel
theorem dX7_file_40 : decode cX7_file 40 = .ok (.iload_n 1, 1) := by decide +kernel
theorem dX7_file_41 : decode cX7_file 41 = .ok (.iadd, 1) := by decide +kernel
theorem dX7_file_42 : decode cX7_file 42 = .ok (.dup2, 1) := by decide +kernel
theorem dX7_file_43 : decode cX7_file 43 = .ok (.iaload, 1) := by decide +kernel
theorem dX7_file_44 : decode cX7_file 44 = .ok (.iconst 1, 1) := by decide +kernel
theorem dX7_file_45 : decode cX7_file 45 = .ok (.iload_n 2, 1) := by decide +kernel
theorem dX7_file_46 : decode cX7_file 46 = .ok (.ishl, 1) := by decide +kernel
theorem dX7_file_47 : decode cX7_file 47 = .ok (.ior, 1) := by decide +kernel
theorem dX7_file_48 : decode cX7_file 48 = .ok (.iastore, 1) := by decide +kernel
theorem dX7_file_49 : decode cX7_file 49 = .ok (.aload_n 0, 1) := by decide +kernel
theorem dX7_file_50 : decode cX7_file 50 = .ok (.getfield 16, 3) := by decide +kernel
theorem dX7_file_53 : decode cX7_file 53 = .ok (.bipush 12, 2) := by decide +kernel
theorem dX7_file_55 : decode cX7_file 55 = .ok (.iload_n 1, 1) := by decide +kernel
theorem dX7_file_56 : decode cX7_file 56 = .ok (.iadd, 1) := by decide +kernel
theorem dX7_file_57 : decode cX7_file 57 = .ok (.iaload, 1) := by decide +kernel
theorem dX7_file_58 : decode cX7_file 58 = .ok (.invokestatic 193, 3) := by decide +kernel
theorem dX7_file_61 : decode cX7_file 61 = .ok (.ireturn, 1) := by decide +kernel
theorem dX7_gear_0 : decode cX7_gear 0 = .ok (.aload_n 0, 1) := by decide +kernel
theorem dX7_gear_1 : decode cX7_gear 1 = .ok (.iload_n 1, 1) := by decide +kernel
theorem dX7_gear_2 : decode cX7_gear 2 = .ok (.iload_n 2, 1) := by decide +kernel
theorem dX7_gear_3 : decode cX7_gear 3 = .ok (.invokevirtual 190, 3) := by decide +kernel
theorem dX7_gear_6 : decode cX7_gear 6 = .ok (.ifCond .ne 5, 3) := by decide +kernel
theorem dX7_gear_9 : decode cX7_gear 9 = .ok (.iconst (-1), 1) := by decide +kernel
theorem dX7_gear_10 : decode cX7_gear 10 = .ok (.ireturn, 1) := by decide +kernel
theorem dX7_gear_11 : decode cX7_gear 11 = .ok (.aload_n 0, 1) := by decide +kernel
theorem dX7_gear_12 : decode cX7_gear 12 = .ok (.invokevirtual 184, 3) := by decide +kernel
theorem dX7_gear_15 : decode cX7_gear 15 = .ok (.aload_n 0, 1) := by decide +kernel
theorem dX7_gear_16 : decode cX7_gear 16 = .ok (.getfield 16, 3) := by decide +kernel
theorem dX7_gear_19 : decode cX7_gear 19 = .ok (.iconst 4, 1) := by decide +kernel
theorem dX7_gear_20 : decode cX7_gear 20 = .ok (.iload_n 1, 1) := by decide +kernel
theorem dX7_gear_21 : decode cX7_gear 21 = .ok (.iadd, 1) := by decide +kernel
theorem dX7_gear_22 : decode cX7_gear 22 = .ok (.iaload, 1) := by decide +kernel
theorem dX7_gear_23 : decode cX7_gear 23 = .ok (.istore_n 3, 1) := by decide +kernel
theorem dX7_gear_24 : decode cX7_gear 24 = .ok (.aload_n 0, 1) := by decide +kernel
theorem dX7_gear_25 : decode cX7_gear 25 = .ok (.getfield 16, 3) := by decide +kernel
theorem dX7_gear_28 : decode cX7_gear 28 = .ok (.iconst 4, 1) := by decide +kernel
theorem dX7_gear_29 : decode cX7_gear 29 = .ok (.iload_n 1, 1) := by decide +kernel
theorem dX7_gear_30 : decode cX7_gear 30 = .ok (.iadd, 1) := by decide +kernel
theorem dX7_gear_31 : decode cX7_gear 31 = .ok (.iload_n 2, 1) := by decide +kernel
theorem dX7_gear_32 : decode cX7_gear 32 = .ok (.iastore, 1) := by decide +kernel
theorem dX7_gear_33 : decode cX7_gear 33 = .ok (.iload_n 3, 1) := by decide +kernel
theorem dX7_gear_34 : decode cX7_gear 34 = .ok (.ireturn, 1) := by decide +kernel
theorem dX7_undo_0 : decode cX7_undo 0 = .ok (.aload_n 0, 1) := by decide +kernel
theorem dX7_undo_1 : decode cX7_undo 1 = .ok (.getfield 117, 3) := by decide +kernel
theorem dX7_undo_4 : decode cX7_undo 4 = .ok (.ifCond .ne 6, 3) := by decide +kernel
theorem dX7_undo_7 : decode cX7_undo 7 = .ok (.bipush (-2), 2) := by decide +kernel
theorem dX7_undo_9 : decode cX7_undo 9 = .ok (.ireturn, 1) := by decide +kernel
theorem dX7_undo_10 : decode cX7_undo 10 = .ok (.aload_n 0, 1) := by decide +kernel
theorem dX7_undo_11 : decode cX7_undo 11 = .ok (.dup, 1) := by decide +kernel
theorem dX7_undo_12 : decode cX7_undo 12 = .ok (.getfield 117, 3) := by decide +kernel
theorem dX7_undo_15 : decode cX7_undo 15 = .ok (.iconst 1, 1) := by decide +kernel
theorem dX7_undo_16 : decode cX7_undo 16 = .ok (.isub, 1) := by decide +kernel
theorem dX7_undo_17 : decode cX7_undo 17 = .ok (.putfield 117, 3) := by decide +kernel
theorem dX7_undo_20 : decode cX7_undo 20 = .ok (.aload_n 0, 1) := by decide +kernel
theorem dX7_undo_21 : decode cX7_undo 21 = .ok (.getfield 19, 3) := by decide +kernel
theorem dX7_undo_24 : decode cX7_undo 24 = .ok (.bipush 76, 2) := by decide +kernel
theorem dX7_undo_26 : decode cX7_undo 26 = .ok (.aload_n 0, 1) := by decide +kernel
theorem dX7_undo_27 : decode cX7_undo 27 = .ok (.getfield 117, 3) := by decide +kernel
theorem dX7_undo_30 : decode cX7_undo 30 = .ok (.imul, 1) := by decide +kernel
theorem dX7_undo_31 : decode cX7_undo 31 = .ok (.aload_n 0, 1) := by decide +kernel
theorem dX7_undo_32 : decode cX7_undo 32 = .ok (.getfield 16, 3) := by decide +kernel
theorem dX7_undo_35 : decode cX7_undo 35 = .ok (.iconst 0, 1) := by decide +kernel
theorem dX7_undo_36 : decode cX7_undo 36 = .ok (.invokestatic 180, 3) := by decide +kernel
theorem dX7_undo_39 : decode cX7_undo 39 = .ok (.aload_n 0, 1) := by decide +kernel
theorem dX7_undo_40 : decode cX7_undo 40 = .ok (.getfield 117, 3) := by decide +kernel
theorem dX7_undo_43 : decode cX7_undo 43 = .ok (.ireturn, 1) := by decide +kernel
theorem dX7_layAside_0 : decode cX7_layAside 0 = .ok (.aload_n 0, 1) := by decide +kernel
theorem dX7_layAside_1 : decode cX7_layAside 1 = .ok (.getfield 16, 3) := by decide +kernel
theorem dX7_layAside_4 : decode cX7_layAside 4 = .ok (.iconst 0, 1) := by decide +kernel
theorem dX7_layAside_5 : decode cX7_layAside 5 = .ok (.aload_n 0, 1) := by decide +kernel
theorem dX7_layAside_6 : decode cX7_layAside 6 = .ok (.getfield 37, 3) := by decide +kernel
theorem dX7_layAside_9 : decode cX7_layAside 9 = .ok (.iconst 0, 1) := by decide +kernel
theorem dX7_layAside_10 : decode cX7_layAside 10 = .ok (.invokestatic 180, 3) := by decide +kernel
theorem dX7_layAside_13 : decode cX7_layAside 13 = .ok (.return_, 1) := by decide +kernel
theorem dX7_up_0 : decode cX7_up 0 = .ok (.iload_n 1, 1) := by decide +kernel
theorem dX7_up_1 : decode cX7_up 1 = .ok (.i2l, 1) := by decide +kernel
theorem dX7_up_2 : decode cX7_up 2 = .ok (.lconst 0, 1) := by decide +kernel
theorem dX7_up_3 : decode cX7_up 3 = .ok (.ldc2_w 196, 3) := by decide +kernel
theorem dX7_up_6 : decode cX7_up 6 = .ok (.invokestatic 67, 3) := by decide +kernel
theorem dX7_up_9 : decode cX7_up 9 = .ok (.ifCond .eq 10, 3) := by decide +kernel
theorem dX7_up_12 : decode cX7_up 12 = .ok (.iload_n 2, 1) := by decide +kernel
theorem dX7_up_13 : decode cX7_up 13 = .ok (.invokestatic 198, 3) := by decide +kernel
theorem dX7_up_16 : decode cX7_up 16 = .ok (.ifCond .ne 5, 3) := by decide +kernel
theorem dX7_up_19 : decode cX7_up 19 = .ok (.iconst (-1), 1) := by decide +kernel
theorem dX7_up_20 : decode cX7_up 20 = .ok (.ireturn, 1) := by decide +kernel
theorem dX7_up_21 : decode cX7_up 21 = .ok (.aload_n 0, 1) := by decide +kernel
theorem dX7_up_22 : decode cX7_up 22 = .ok (.invokevirtual 201, 3) := by decide +kernel
theorem dX7_up_25 : decode cX7_up 25 = .ok (.iconst 0, 1) := by decide +kernel
theorem dX7_up_26 : decode cX7_up 26 = .ok (.istore_n 3, 1) := by decide +kernel
theorem dX7_up_27 : decode cX7_up 27 = .ok (.iload_n 3, 1) := by decide +kernel
theorem dX7_up_28 : decode cX7_up 28 = .ok (.aload_n 0, 1) := by decide +kernel
theorem dX7_up_29 : decode cX7_up 29 = .ok (.getfield 7, 3) := by decide +kernel
theorem dX7_up_32 : decode cX7_up 32 = .ok (.iconst 0, 1) := by decide +kernel
theorem dX7_up_33 : decode cX7_up 33 = .ok (.iaload, 1) := by decide +kernel
theorem dX7_up_34 : decode cX7_up 34 = .ok (.if_icmp .ge 47, 3) := by decide +kernel
theorem dX7_up_37 : decode cX7_up 37 = .ok (.aload_n 0, 1) := by decide +kernel
theorem dX7_up_38 : decode cX7_up 38 = .ok (.getfield 37, 3) := by decide +kernel
theorem dX7_up_41 : decode cX7_up 41 = .ok (.bipush 8, 2) := by decide +kernel
theorem dX7_up_43 : decode cX7_up 43 = .ok (.iload_n 3, 1) := by decide +kernel
theorem dX7_up_44 : decode cX7_up 44 = .ok (.iadd, 1) := by decide +kernel
theorem dX7_up_45 : decode cX7_up 45 = .ok (.aload_n 0, 1) := by decide +kernel
theorem dX7_up_46 : decode cX7_up 46 = .ok (.getfield 16, 3) := by decide +kernel
theorem dX7_up_49 : decode cX7_up 49 = .ok (.bipush 8, 2) := by decide +kernel
theorem dX7_up_51 : decode cX7_up 51 = .ok (.iload_n 3, 1) := by decide +kernel
theorem dX7_up_52 : decode cX7_up 52 = .ok (.iadd, 1) := by decide +kernel
theorem dX7_up_53 : decode cX7_up 53 = .ok (.iaload, 1) := by decide +kernel
theorem dX7_up_54 : decode cX7_up 54 = .ok (.iload_n 1, 1) := by decide +kernel
theorem dX7_up_55 : decode cX7_up 55 = .ok (.aload_n 0, 1) := by decide +kernel
theorem dX7_up_56 : decode cX7_up 56 = .ok (.getfield 16, 3) := by decide +kernel
theorem dX7_up_59 : decode cX7_up 59 = .ok (.iconst 4, 1) := by decide +kernel
theorem dX7_up_60 : decode cX7_up 60 = .ok (.iload_n 3, 1) := by decide +kernel
theorem dX7_up_61 : decode cX7_up 61 = .ok (.iadd, 1) := by decide +kernel
theorem dX7_up_62 : decode cX7_up 62 = .ok (.iaload, 1) := by decide +kernel
theorem dX7_up_63 : decode cX7_up 63 = .ok (.imul, 1) := by decide +kernel
theorem dX7_up_64 : decode cX7_up 64 = .ok (.iadd, 1) := by decide +kernel
theorem dX7_up_65 : decode cX7_up 65 = .ok (.aload_n 0, 1) := by decide +kernel
theorem dX7_up_66 : decode cX7_up 66 = .ok (.getfield 7, 3) := by decide +kernel
theorem dX7_up_69 : decode cX7_up 69 = .ok (.iconst 5, 1) := by decide +kernel
theorem dX7_up_70 : decode cX7_up 70 = .ok (.iload_n 3, 1) := by decide +kernel
theorem dX7_up_71 : decode cX7_up 71 = .ok (.iadd, 1) := by decide +kernel
theorem dX7_up_72 : decode cX7_up 72 = .ok (.iaload, 1) := by decide +kernel
theorem dX7_up_73 : decode cX7_up 73 = .ok (.irem, 1) := by decide +kernel
theorem dX7_up_74 : decode cX7_up 74 = .ok (.iastore, 1) := by decide +kernel
theorem dX7_up_75 : decode cX7_up 75 = .ok (.iinc 3 1, 3) := by decide +kernel
theorem dX7_up_78 : decode cX7_up 78 = .ok (.goto (-51), 3) := by decide +kernel
theorem dX7_up_81 : decode cX7_up 81 = .ok (.aload_n 0, 1) := by decide +kernel
theorem dX7_up_82 : decode cX7_up 82 = .ok (.aload_n 0, 1) := by decide +kernel
theorem dX7_up_83 : decode cX7_up 83 = .ok (.getfield 37, 3) := by decide +kernel
theorem dX7_up_86 : decode cX7_up 86 = .ok (.invokevirtual 148, 3) := by decide +kernel
theorem dX7_up_89 : decode cX7_up 89 = .ok (.istore_n 3, 1) := by decide +kernel
theorem dX7_up_90 : decode cX7_up 90 = .ok (.iload_n 2, 1) := by decide +kernel
theorem dX7_up_91 : decode cX7_up 91 = .ok (.ifCond .ne 7, 3) := by decide +kernel
theorem dX7_up_94 : decode cX7_up 94 = .ok (.iload_n 3, 1) := by decide +kernel
theorem dX7_up_95 : decode cX7_up 95 = .ok (.goto 20, 3) := by decide +kernel
theorem dX7_up_98 : decode cX7_up 98 = .ok (.aload_n 0, 1) := by decide +kernel
theorem dX7_up_99 : decode cX7_up 99 = .ok (.aload_n 0, 1) := by decide +kernel
theorem dX7_up_100 : decode cX7_up 100 = .ok (.getfield 16, 3) := by decide +kernel
theorem dX7_up_103 : decode cX7_up 103 = .ok (.iload_n 3, 1) := by decide +kernel
theorem dX7_up_104 : decode cX7_up 104 = .ok (.invokevirtual 152, 3) := by decide +kernel
theorem dX7_up_107 : decode cX7_up 107 = .ok (.ifCond .eq 7, 3) := by decide +kernel
theorem dX7_up_110 : decode cX7_up 110 = .ok (.iconst 1, 1) := by decide +kernel
theorem dX7_up_111 : decode cX7_up 111 = .ok (.goto 4, 3) := by decide +kernel
theorem dX7_up_114 : decode cX7_up 114 = .ok (.iconst 0, 1) := by decide +kernel
theorem dX7_up_115 : decode cX7_up 115 = .ok (.ireturn, 1) := by decide +kernel
theorem dX7_common_0 : decode cX7_common 0 = .ok (.iload_n 0, 1) := by decide +kernel
theorem dX7_common_1 : decode cX7_common 1 = .ok (.istore_n 2, 1) := by decide +kernel
theorem dX7_common_2 : decode cX7_common 2 = .ok (.iload_n 1, 1) := by decide +kernel
theorem dX7_common_3 : decode cX7_common 3 = .ok (.istore_n 3, 1) := by decide +kernel
theorem dX7_common_4 : decode cX7_common 4 = .ok (.iload_n 3, 1) := by decide +kernel
theorem dX7_common_5 : decode cX7_common 5 = .ok (.ifCond .eq 16, 3) := by decide +kernel
theorem dX7_common_8 : decode cX7_common 8 = .ok (.iload_n 2, 1) := by decide +kernel
theorem dX7_common_9 : decode cX7_common 9 = .ok (.iload_n 3, 1) := by decide +kernel
theorem dX7_common_10 : decode cX7_common 10 = .ok (.irem, 1) := by decide +kernel
theorem dX7_common_11 : decode cX7_common 11 = .ok (.istore 4, 2) := by decide +kernel
theorem dX7_common_13 : decode cX7_common 13 = .ok (.iload_n 3, 1) := by decide +kernel
theorem dX7_common_14 : decode cX7_common 14 = .ok (.istore_n 2, 1) := by decide +kernel
theorem dX7_common_15 : decode cX7_common 15 = .ok (.iload 4, 2) := by decide +kernel
theorem dX7_common_17 : decode cX7_common 17 = .ok (.istore_n 3, 1) := by decide +kernel
theorem dX7_common_18 : decode cX7_common 18 = .ok (.goto (-14), 3) := by decide +kernel
theorem dX7_common_21 : decode cX7_common 21 = .ok (.iload_n 2, 1) := by decide +kernel
theorem dX7_common_22 : decode cX7_common 22 = .ok (.ireturn, 1) := by decide +kernel
theorem dX7_round_0 : decode cX7_round 0 = .ok (.iconst 1, 1) := by decide +kernel
theorem dX7_round_1 : decode cX7_round 1 = .ok (.istore_n 1, 1) := by decide +kernel
theorem dX7_round_2 : decode cX7_round 2 = .ok (.iconst 0, 1) := by decide +kernel
theorem dX7_round_3 : decode cX7_round 3 = .ok (.istore_n 2, 1) := by decide +kernel
theorem dX7_round_4 : decode cX7_round 4 = .ok (.iload_n 2, 1) := by decide +kernel
theorem dX7_round_5 : decode cX7_round 5 = .ok (.aload_n 0, 1) := by decide +kernel
theorem dX7_round_6 : decode cX7_round 6 = .ok (.getfield 7, 3) := by decide +kernel
theorem dX7_round_9 : decode cX7_round 9 = .ok (.iconst 0, 1) := by decide +kernel
theorem dX7_round_10 : decode cX7_round 10 = .ok (.iaload, 1) := by decide +kernel
theorem dX7_round_11 : decode cX7_round 11 = .ok (.if_icmp .ge 48, 3) := by decide +kernel
theorem dX7_round_14 : decode cX7_round 14 = .ok (.aload_n 0, 1) := by decide +kernel
theorem dX7_round_15 : decode cX7_round 15 = .ok (.getfield 7, 3) := by decide +kernel
theorem dX7_round_18 : decode cX7_round 18 = .ok (.iconst 5, 1) := by decide +kernel
theorem dX7_round_19 : decode cX7_round 19 = .ok (.iload_n 2, 1) := by decide +kernel
theorem dX7_round_20 : decode cX7_round 20 = .ok (.iadd, 1) := by decide +kernel
theorem dX7_round_21 : decode cX7_round 21 = .ok (.iaload, 1) := by decide +kernel
theorem dX7_round_22 : decode cX7_round 22 = .ok (.aload_n 0, 1) := by decide +kernel
theorem dX7_round_23 : decode cX7_round 23 = .ok (.getfield 7, 3) := by decide +kernel
theorem dX7_round_26 : decode cX7_round 26 = .ok (.iconst 5, 1) := by decide +kernel
theorem dX7_round_27 : decode cX7_round 27 = .ok (.iload_n 2, 1) := by decide +kernel
theorem dX7_round_28 : decode cX7_round 28 = .ok (.iadd, 1) := by decide +kernel
theorem dX7_round_29 : decode cX7_round 29 = .ok (.iaload, 1) := by decide +kernel
theorem dX7_round_30 : decode cX7_round 30 = .ok (.aload_n 0, 1) := by decide +kernel
theorem dX7_round_31 : decode cX7_round 31 = .ok (.getfield 16, 3) := by decide +kernel
theorem dX7_round_34 : decode cX7_round 34 = .ok (.iconst 4, 1) := by decide +kernel
theorem dX7_round_35 : decode cX7_round 35 = .ok (.iload_n 2, 1) := by decide +kernel
theorem dX7_round_36 : decode cX7_round 36 = .ok (.iadd, 1) := by decide +kernel
theorem dX7_round_37 : decode cX7_round 37 = .ok (.iaload, 1) := by decide +kernel
theorem dX7_round_38 : decode cX7_round 38 = .ok (.invokestatic 204, 3) := by decide +kernel
theorem dX7_round_41 : decode cX7_round 41 = .ok (.idiv, 1) := by decide +kernel
theorem dX7_round_42 : decode cX7_round 42 = .ok (.istore_n 3, 1) := by decide +kernel
theorem dX7_round_43 : decode cX7_round 43 = .ok (.iload_n 1, 1) := by decide +kernel
theorem dX7_round_44 : decode cX7_round 44 = .ok (.iload_n 1, 1) := by decide +kernel
theorem dX7_round_45 : decode cX7_round 45 = .ok (.iload_n 3, 1) := by decide +kernel
theorem dX7_round_46 : decode cX7_round 46 = .ok (.invokestatic 204, 3) := by decide +kernel
theorem dX7_round_49 : decode cX7_round 49 = .ok (.idiv, 1) := by decide +kernel
theorem dX7_round_50 : decode cX7_round 50 = .ok (.iload_n 3, 1) := by decide +kernel
theorem dX7_round_51 : decode cX7_round 51 = .ok (.imul, 1) := by decide +kernel
theorem dX7_round_52 : decode cX7_round 52 = .ok (.istore_n 1, 1) := by decide +kernel
theorem dX7_round_53 : decode cX7_round 53 = .ok (.iinc 2 1, 3) := by decide +kernel
theorem dX7_round_56 : decode cX7_round 56 = .ok (.goto (-52), 3) := by decide +kernel
theorem dX7_round_59 : decode cX7_round 59 = .ok (.iload_n 1, 1) := by decide +kernel
theorem dX7_round_60 : decode cX7_round 60 = .ok (.ireturn, 1) := by decide +kernel
theorem dX7_inRound_0 : decode cX7_inRound 0 = .ok (.aload_n 0, 1) := by decide +kernel
theorem dX7_inRound_1 : decode cX7_inRound 1 = .ok (.invokevirtual 201, 3) := by decide +kernel
theorem dX7_inRound_4 : decode cX7_inRound 4 = .ok (.iconst 0, 1) := by decide +kernel
theorem dX7_inRound_5 : decode cX7_inRound 5 = .ok (.istore_n 2, 1) := by decide +kernel
theorem dX7_inRound_6 : decode cX7_inRound 6 = .ok (.aload_n 0, 1) := by decide +kernel
theorem dX7_inRound_7 : decode cX7_inRound 7 = .ok (.invokevirtual 207, 3) := by decide +kernel
theorem dX7_inRound_10 : decode cX7_inRound 10 = .ok (.istore_n 3, 1) := by decide +kernel
theorem dX7_inRound_11 : decode cX7_inRound 11 = .ok (.iconst 0, 1) := by decide +kernel
theorem dX7_inRound_12 : decode cX7_inRound 12 = .ok (.istore 4, 2) := by decide +kernel
theorem dX7_inRound_14 : decode cX7_inRound 14 = .ok (.iload 4, 2) := by decide +kernel
theorem dX7_inRound_16 : decode cX7_inRound 16 = .ok (.iload_n 3, 1) := by decide +kernel
theorem dX7_inRound_17 : decode cX7_inRound 17 = .ok (.if_icmp .ge 66, 3) := by decide +kernel
theorem dX7_inRound_20 : decode cX7_inRound 20 = .ok (.aload_n 0, 1) := by decide +kernel
theorem dX7_inRound_21 : decode cX7_inRound 21 = .ok (.aload_n 0, 1) := by decide +kernel
theorem dX7_inRound_22 : decode cX7_inRound 22 = .ok (.getfield 37, 3) := by decide +kernel
theorem dX7_inRound_25 : decode cX7_inRound 25 = .ok (.invokevirtual 148, 3) := by decide +kernel
theorem dX7_inRound_28 : decode cX7_inRound 28 = .ok (.istore 5, 2) := by decide +kernel
theorem dX7_inRound_30 : decode cX7_inRound 30 = .ok (.iload_n 2, 1) := by decide +kernel
theorem dX7_inRound_31 : decode cX7_inRound 31 = .ok (.aload_n 0, 1) := by decide +kernel
theorem dX7_inRound_32 : decode cX7_inRound 32 = .ok (.aload_n 0, 1) := by decide +kernel
theorem dX7_inRound_33 : decode cX7_inRound 33 = .ok (.getfield 16, 3) := by decide +kernel
theorem dX7_inRound_36 : decode cX7_inRound 36 = .ok (.iload 5, 2) := by decide +kernel
theorem dX7_inRound_38 : decode cX7_inRound 38 = .ok (.invokevirtual 152, 3) := by decide +kernel
theorem dX7_inRound_41 : decode cX7_inRound 41 = .ok (.ifCond .eq 25, 3) := by decide +kernel
theorem dX7_inRound_44 : decode cX7_inRound 44 = .ok (.iload_n 1, 1) := by decide +kernel
theorem dX7_inRound_45 : decode cX7_inRound 45 = .ok (.ifCond .lt 17, 3) := by decide +kernel
theorem dX7_inRound_48 : decode cX7_inRound 48 = .ok (.aload_n 0, 1) := by decide +kernel
theorem dX7_inRound_49 : decode cX7_inRound 49 = .ok (.aload_n 0, 1) := by decide +kernel
theorem dX7_inRound_50 : decode cX7_inRound 50 = .ok (.getfield 16, 3) := by decide +kernel
theorem dX7_inRound_53 : decode cX7_inRound 53 = .ok (.iload 5, 2) := by decide +kernel
theorem dX7_inRound_55 : decode cX7_inRound 55 = .ok (.iload_n 1, 1) := by decide +kernel
theorem dX7_inRound_56 : decode cX7_inRound 56 = .ok (.invokevirtual 156, 3) := by decide +kernel
theorem dX7_inRound_59 : decode cX7_inRound 59 = .ok (.ifCond .ne 7, 3) := by decide +kernel
theorem dX7_inRound_62 : decode cX7_inRound 62 = .ok (.iconst 1, 1) := by decide +kernel
theorem dX7_inRound_63 : decode cX7_inRound 63 = .ok (.goto 4, 3) := by decide +kernel
theorem dX7_inRound_66 : decode cX7_inRound 66 = .ok (.iconst 0, 1) := by decide +kernel
theorem dX7_inRound_67 : decode cX7_inRound 67 = .ok (.iadd, 1) := by decide +kernel
theorem dX7_inRound_68 : decode cX7_inRound 68 = .ok (.istore_n 2, 1) := by decide +kernel
theorem dX7_inRound_69 : decode cX7_inRound 69 = .ok (.aload_n 0, 1) := by decide +kernel
theorem dX7_inRound_70 : decode cX7_inRound 70 = .ok (.aload_n 0, 1) := by decide +kernel
theorem dX7_inRound_71 : decode cX7_inRound 71 = .ok (.getfield 37, 3) := by decide +kernel
theorem dX7_inRound_74 : decode cX7_inRound 74 = .ok (.invokevirtual 144, 3) := by decide +kernel
theorem dX7_inRound_77 : decode cX7_inRound 77 = .ok (.iinc 4 1, 3) := by decide +kernel
theorem dX7_inRound_80 : decode cX7_inRound 80 = .ok (.goto (-66), 3) := by decide +kernel
theorem dX7_inRound_83 : decode cX7_inRound 83 = .ok (.iload_n 2, 1) := by decide +kernel
theorem dX7_inRound_84 : decode cX7_inRound 84 = .ok (.ireturn, 1) := by decide +kernel
theorem dX7_sensible_0 : decode cX7_sensible 0 = .ok (.iload_n 1, 1) := by decide +kernel
theorem dX7_sensible_1 : decode cX7_sensible 1 = .ok (.invokestatic 198, 3) := by decide +kernel
theorem dX7_sensible_4 : decode cX7_sensible 4 = .ok (.ifCond .ne 5, 3) := by decide +kernel
theorem dX7_sensible_7 : decode cX7_sensible 7 = .ok (.iconst (-1), 1) := by decide +kernel
theorem dX7_sensible_8 : decode cX7_sensible 8 = .ok (.ireturn, 1) := by decide +kernel
theorem dX7_sensible_9 : decode cX7_sensible 9 = .ok (.iload_n 1, 1) := by decide +kernel
theorem dX7_sensible_10 : decode cX7_sensible 10 = .ok (.iconst 1, 1) := by decide +kernel
theorem dX7_sensible_11 : decode cX7_sensible 11 = .ok (.if_icmp .ne 9, 3) := by decide +kernel
theorem dX7_sensible_14 : decode cX7_sensible 14 = .ok (.aload_n 0, 1) := by decide +kernel
theorem dX7_sensible_15 : decode cX7_sensible 15 = .ok (.iconst (-1), 1) := by decide +kernel
theorem dX7_sensible_16 : decode cX7_sensible 16 = .ok (.invokevirtual 210, 3) := by decide +kernel
theorem dX7_sensible_19 : decode cX7_sensible 19 = .ok (.ireturn, 1) := by decide +kernel
theorem dX7_sensible_20 : decode cX7_sensible 20 = .ok (.iconst 0, 1) := by decide +kernel
theorem dX7_sensible_21 : decode cX7_sensible 21 = .ok (.istore_n 2, 1) := by decide +kernel
theorem dX7_sensible_22 : decode cX7_sensible 22 = .ok (.aload_n 0, 1) := by decide +kernel
theorem dX7_sensible_23 : decode cX7_sensible 23 = .ok (.invokevirtual 130, 3) := by decide +kernel
theorem dX7_sensible_26 : decode cX7_sensible 26 = .ok (.istore_n 3, 1) := by decide +kernel
theorem dX7_sensible_27 : decode cX7_sensible 27 = .ok (.iconst 0, 1) := by decide +kernel
theorem dX7_sensible_28 : decode cX7_sensible 28 = .ok (.istore 4, 2) := by decide +kernel
theorem dX7_sensible_30 : decode cX7_sensible 30 = .ok (.iload 4, 2) := by decide +kernel
theorem dX7_sensible_32 : decode cX7_sensible 32 = .ok (.iload_n 3, 1) := by decide +kernel
theorem dX7_sensible_33 : decode cX7_sensible 33 = .ok (.if_icmp .ge 30, 3) := by decide +kernel
theorem dX7_sensible_36 : decode cX7_sensible 36 = .ok (.iload_n 2, 1) := by decide +kernel
theorem dX7_sensible_37 : decode cX7_sensible 37 = .ok (.aload_n 0, 1) := by decide +kernel
theorem dX7_sensible_38 : decode cX7_sensible 38 = .ok (.aload_n 0, 1) := by decide +kernel
theorem dX7_sensible_39 : decode cX7_sensible 39 = .ok (.getfield 16, 3) := by decide +kernel
theorem dX7_sensible_42 : decode cX7_sensible 42 = .ok (.iload 4, 2) := by decide +kernel
theorem dX7_sensible_44 : decode cX7_sensible 44 = .ok (.invokevirtual 152, 3) := by decide +kernel
theorem dX7_sensible_47 : decode cX7_sensible 47 = .ok (.ifCond .eq 7, 3) := by decide +kernel
theorem dX7_sensible_50 : decode cX7_sensible 50 = .ok (.iconst 1, 1) := by decide +kernel
theorem dX7_sensible_51 : decode cX7_sensible 51 = .ok (.goto 4, 3) := by decide +kernel
theorem dX7_sensible_54 : decode cX7_sensible 54 = .ok (.iconst 0, 1) := by decide +kernel
theorem dX7_sensible_55 : decode cX7_sensible 55 = .ok (.iadd, 1) := by decide +kernel
theorem dX7_sensible_56 : decode cX7_sensible 56 = .ok (.istore_n 2, 1) := by decide +kernel
theorem dX7_sensible_57 : decode cX7_sensible 57 = .ok (.iinc 4 1, 3) := by decide +kernel
theorem dX7_sensible_60 : decode cX7_sensible 60 = .ok (.goto (-30), 3) := by decide +kernel
theorem dX7_sensible_63 : decode cX7_sensible 63 = .ok (.iload_n 2, 1) := by decide +kernel
theorem dX7_sensible_64 : decode cX7_sensible 64 = .ok (.ireturn, 1) := by decide +kernel
theorem dX7_longest_0 : decode cX7_longest 0 = .ok (.aload_n 0, 1) := by decide +kernel
theorem dX7_longest_1 : decode cX7_longest 1 = .ok (.iload_n 1, 1) := by decide +kernel
theorem dX7_longest_2 : decode cX7_longest 2 = .ok (.invokevirtual 169, 3) := by decide +kernel
theorem dX7_longest_5 : decode cX7_longest 5 = .ok (.ifCond .eq 11, 3) := by decide +kernel
theorem dX7_longest_8 : decode cX7_longest 8 = .ok (.aload_n 0, 1) := by decide +kernel
theorem dX7_longest_9 : decode cX7_longest 9 = .ok (.iload_n 1, 1) := by decide +kernel
theorem dX7_longest_10 : decode cX7_longest 10 = .ok (.invokevirtual 210, 3) := by decide +kernel
theorem dX7_longest_13 : decode cX7_longest 13 = .ok (.goto 4, 3) := by decide +kernel
theorem dX7_longest_16 : decode cX7_longest 16 = .ok (.iconst (-1), 1) := by decide +kernel
theorem dX7_longest_17 : decode cX7_longest 17 = .ok (.ireturn, 1) := by decide +kernel
theorem dX7_heardBy_0 : decode cX7_heardBy 0 = .ok (.iconst 0, 1) := by decide +kernel
theorem dX7_heardBy_1 : decode cX7_heardBy 1 = .ok (.istore_n 2, 1) := by decide +kernel
theorem dX7_heardBy_2 : decode cX7_heardBy 2 = .ok (.iconst 0, 1) := by decide +kernel
theorem dX7_heardBy_3 : decode cX7_heardBy 3 = .ok (.istore_n 3, 1) := by decide +kernel
theorem dX7_heardBy_4 : decode cX7_heardBy 4 = .ok (.iload_n 3, 1) := by decide +kernel
theorem dX7_heardBy_5 : decode cX7_heardBy 5 = .ok (.aload_n 0, 1) := by decide +kernel
theorem dX7_heardBy_6 : decode cX7_heardBy 6 = .ok (.getfield 16, 3) := by decide +kernel
theorem dX7_heardBy_9 : decode cX7_heardBy 9 = .ok (.iconst 2, 1) := by decide +kernel
theorem dX7_heardBy_10 : decode cX7_heardBy 10 = .ok (.iaload, 1) := by decide +kernel
theorem dX7_heardBy_11 : decode cX7_heardBy 11 = .ok (.if_icmp .ge 32, 3) := by decide +kernel
theorem dX7_heardBy_14 : decode cX7_heardBy 14 = .ok (.iload_n 2, 1) := by decide +kernel
theorem dX7_heardBy_15 : decode cX7_heardBy 15 = .ok (.aload_n 0, 1) := by decide +kernel
theorem dX7_heardBy_16 : decode cX7_heardBy 16 = .ok (.getfield 16, 3) := by decide +kernel
theorem dX7_heardBy_19 : decode cX7_heardBy 19 = .ok (.bipush 40, 2) := by decide +kernel
theorem dX7_heardBy_21 : decode cX7_heardBy 21 = .ok (.iload_n 3, 1) := by decide +kernel
theorem dX7_heardBy_22 : decode cX7_heardBy 22 = .ok (.iadd, 1) := by decide +kernel
theorem dX7_heardBy_23 : decode cX7_heardBy 23 = .ok (.iaload, 1) := by decide +kernel
theorem dX7_heardBy_24 : decode cX7_heardBy 24 = .ok (.iload_n 1, 1) := by decide +kernel
theorem dX7_heardBy_25 : decode cX7_heardBy 25 = .ok (.if_icmp .ne 9, 3) := by decide +kernel
theorem dX7_heardBy_28 : decode cX7_heardBy 28 = .ok (.iconst 1, 1) := by decide +kernel
theorem dX7_heardBy_29 : decode cX7_heardBy 29 = .ok (.iload_n 3, 1) := by decide +kernel
theorem dX7_heardBy_30 : decode cX7_heardBy 30 = .ok (.ishl, 1) := by decide +kernel
theorem dX7_heardBy_31 : decode cX7_heardBy 31 = .ok (.goto 4, 3) := by decide +kernel
theorem dX7_heardBy_34 : decode cX7_heardBy 34 = .ok (.iconst 0, 1) := by decide +kernel
theorem dX7_heardBy_35 : decode cX7_heardBy 35 = .ok (.ior, 1) := by decide +kernel
theorem dX7_heardBy_36 : decode cX7_heardBy 36 = .ok (.istore_n 2, 1) := by decide +kernel
theorem dX7_heardBy_37 : decode cX7_heardBy 37 = .ok (.iinc 3 1, 3) := by decide +kernel
theorem dX7_heardBy_40 : decode cX7_heardBy 40 = .ok (.goto (-36), 3) := by decide +kernel
theorem dX7_heardBy_43 : decode cX7_heardBy 43 = .ok (.iload_n 2, 1) := by decide +kernel
theorem dX7_heardBy_44 : decode cX7_heardBy 44 = .ok (.ireturn, 1) := by decide +kernel
theorem dX7_layTeeth_0 : decode cX7_layTeeth 0 = .ok (.aload_n 0, 1) := by decide +kernel
theorem dX7_layTeeth_1 : decode cX7_layTeeth 1 = .ok (.iconst 0, 1) := by decide +kernel
theorem dX7_layTeeth_2 : decode cX7_layTeeth 2 = .ok (.putfield 213, 3) := by decide +kernel
theorem dX7_layTeeth_5 : decode cX7_layTeeth 5 = .ok (.iconst 0, 1) := by decide +kernel
theorem dX7_layTeeth_6 : decode cX7_layTeeth 6 = .ok (.istore_n 1, 1) := by decide +kernel
theorem dX7_layTeeth_7 : decode cX7_layTeeth 7 = .ok (.iload_n 1, 1) := by decide +kernel
theorem dX7_layTeeth_8 : decode cX7_layTeeth 8 = .ok (.bipush 40, 2) := by decide +kernel
theorem dX7_layTeeth_10 : decode cX7_layTeeth 10 = .ok (.if_icmp .ge 108, 3) := by decide +kernel
theorem dX7_layTeeth_13 : decode cX7_layTeeth 13 = .ok (.aload_n 0, 1) := by decide +kernel
theorem dX7_layTeeth_14 : decode cX7_layTeeth 14 = .ok (.iload_n 1, 1) := by decide +kernel
theorem dX7_layTeeth_15 : decode cX7_layTeeth 15 = .ok (.bipush 10, 2) := by decide +kernel
theorem dX7_layTeeth_17 : decode cX7_layTeeth 17 = .ok (.idiv, 1) := by decide +kernel
theorem dX7_layTeeth_18 : decode cX7_layTeeth 18 = .ok (.iload_n 1, 1) := by decide +kernel
theorem dX7_layTeeth_19 : decode cX7_layTeeth 19 = .ok (.bipush 10, 2) := by decide +kernel
theorem dX7_layTeeth_21 : decode cX7_layTeeth 21 = .ok (.irem, 1) := by decide +kernel
theorem dX7_layTeeth_22 : decode cX7_layTeeth 22 = .ok (.invokevirtual 190, 3) := by decide +kernel
theorem dX7_layTeeth_25 : decode cX7_layTeeth 25 = .ok (.ifCond .eq 87, 3) := by decide +kernel
theorem dX7_layTeeth_28 : decode cX7_layTeeth 28 = .ok (.iconst 0, 1) := by decide +kernel
theorem dX7_layTeeth_29 : decode cX7_layTeeth 29 = .ok (.istore_n 2, 1) := by decide +kernel
theorem dX7_layTeeth_30 : decode cX7_layTeeth 30 = .ok (.iconst 0, 1) := by decide +kernel
theorem dX7_layTeeth_31 : decode cX7_layTeeth 31 = .ok (.istore_n 3, 1) := by decide +kernel
theorem dX7_layTeeth_32 : decode cX7_layTeeth 32 = .ok (.iload_n 3, 1) := by decide +kernel
theorem dX7_layTeeth_33 : decode cX7_layTeeth 33 = .ok (.aload_n 0, 1) := by decide +kernel
theorem dX7_layTeeth_34 : decode cX7_layTeeth 34 = .ok (.getfield 16, 3) := by decide +kernel
theorem dX7_layTeeth_37 : decode cX7_layTeeth 37 = .ok (.iconst 2, 1) := by decide +kernel
theorem dX7_layTeeth_38 : decode cX7_layTeeth 38 = .ok (.iaload, 1) := by decide +kernel
theorem dX7_layTeeth_39 : decode cX7_layTeeth 39 = .ok (.if_icmp .ge 43, 3) := by decide +kernel
theorem dX7_layTeeth_42 : decode cX7_layTeeth 42 = .ok (.iload_n 2, 1) := by decide +kernel
theorem dX7_layTeeth_43 : decode cX7_layTeeth 43 = .ok (.aload_n 0, 1) := by decide +kernel
theorem dX7_layTeeth_44 : decode cX7_layTeeth 44 = .ok (.aload_n 0, 1) := by decide +kernel
theorem dX7_layTeeth_45 : decode cX7_layTeeth 45 = .ok (.getfield 16, 3) := by decide +kernel
theorem dX7_layTeeth_48 : decode cX7_layTeeth 48 = .ok (.bipush 16, 2) := by decide +kernel
theorem dX7_layTeeth_50 : decode cX7_layTeeth 50 = .ok (.iload_n 3, 1) := by decide +kernel
theorem dX7_layTeeth_51 : decode cX7_layTeeth 51 = .ok (.iadd, 1) := by decide +kernel
theorem dX7_layTeeth_52 : decode cX7_layTeeth 52 = .ok (.iaload, 1) := by decide +kernel
theorem dX7_layTeeth_53 : decode cX7_layTeeth 53 = .ok (.iload_n 1, 1) := by decide +kernel
theorem dX7_layTeeth_54 : decode cX7_layTeeth 54 = .ok (.bipush 10, 2) := by decide +kernel
theorem dX7_layTeeth_56 : decode cX7_layTeeth 56 = .ok (.idiv, 1) := by decide +kernel
theorem dX7_layTeeth_57 : decode cX7_layTeeth 57 = .ok (.invokevirtual 133, 3) := by decide +kernel
theorem dX7_layTeeth_60 : decode cX7_layTeeth 60 = .ok (.iload_n 1, 1) := by decide +kernel
theorem dX7_layTeeth_61 : decode cX7_layTeeth 61 = .ok (.bipush 10, 2) := by decide +kernel
theorem dX7_layTeeth_63 : decode cX7_layTeeth 63 = .ok (.irem, 1) := by decide +kernel
theorem dX7_layTeeth_64 : decode cX7_layTeeth 64 = .ok (.if_icmp .ne 9, 3) := by decide +kernel
theorem dX7_layTeeth_67 : decode cX7_layTeeth 67 = .ok (.iconst 1, 1) := by decide +kernel
theorem dX7_layTeeth_68 : decode cX7_layTeeth 68 = .ok (.iload_n 3, 1) := by decide +kernel
theorem dX7_layTeeth_69 : decode cX7_layTeeth 69 = .ok (.ishl, 1) := by decide +kernel
theorem dX7_layTeeth_70 : decode cX7_layTeeth 70 = .ok (.goto 4, 3) := by decide +kernel
theorem dX7_layTeeth_73 : decode cX7_layTeeth 73 = .ok (.iconst 0, 1) := by decide +kernel
theorem dX7_layTeeth_74 : decode cX7_layTeeth 74 = .ok (.ior, 1) := by decide +kernel
theorem dX7_layTeeth_75 : decode cX7_layTeeth 75 = .ok (.istore_n 2, 1) := by decide +kernel
theorem dX7_layTeeth_76 : decode cX7_layTeeth 76 = .ok (.iinc 3 1, 3) := by decide +kernel
theorem dX7_layTeeth_79 : decode cX7_layTeeth 79 = .ok (.goto (-47), 3) := by decide +kernel
theorem dX7_layTeeth_82 : decode cX7_layTeeth 82 = .ok (.aload_n 0, 1) := by decide +kernel
theorem dX7_layTeeth_83 : decode cX7_layTeeth 83 = .ok (.getfield 40, 3) := by decide +kernel
theorem dX7_layTeeth_86 : decode cX7_layTeeth 86 = .ok (.aload_n 0, 1) := by decide +kernel
theorem dX7_layTeeth_87 : decode cX7_layTeeth 87 = .ok (.getfield 213, 3) := by decide +kernel
theorem dX7_layTeeth_90 : decode cX7_layTeeth 90 = .ok (.iload_n 1, 1) := by decide +kernel
theorem dX7_layTeeth_91 : decode cX7_layTeeth 91 = .ok (.iastore, 1) := by decide +kernel
theorem dX7_layTeeth_92 : decode cX7_layTeeth 92 = .ok (.aload_n 0, 1) := by decide +kernel
theorem dX7_layTeeth_93 : decode cX7_layTeeth 93 = .ok (.getfield 43, 3) := by decide +kernel
theorem dX7_layTeeth_96 : decode cX7_layTeeth 96 = .ok (.aload_n 0, 1) := by decide +kernel
theorem dX7_layTeeth_97 : decode cX7_layTeeth 97 = .ok (.getfield 213, 3) := by decide +kernel
theorem dX7_layTeeth_100 : decode cX7_layTeeth 100 = .ok (.iload_n 2, 1) := by decide +kernel
theorem dX7_layTeeth_101 : decode cX7_layTeeth 101 = .ok (.iastore, 1) := by decide +kernel
theorem dX7_layTeeth_102 : decode cX7_layTeeth 102 = .ok (.aload_n 0, 1) := by decide +kernel
theorem dX7_layTeeth_103 : decode cX7_layTeeth 103 = .ok (.dup, 1) := by decide +kernel
theorem dX7_layTeeth_104 : decode cX7_layTeeth 104 = .ok (.getfield 213, 3) := by decide +kernel
theorem dX7_layTeeth_107 : decode cX7_layTeeth 107 = .ok (.iconst 1, 1) := by decide +kernel
theorem dX7_layTeeth_108 : decode cX7_layTeeth 108 = .ok (.iadd, 1) := by decide +kernel
theorem dX7_layTeeth_109 : decode cX7_layTeeth 109 = .ok (.putfield 213, 3) := by decide +kernel
theorem dX7_layTeeth_112 : decode cX7_layTeeth 112 = .ok (.iinc 1 1, 3) := by decide +kernel
theorem dX7_layTeeth_115 : decode cX7_layTeeth 115 = .ok (.goto (-108), 3) := by decide +kernel
theorem dX7_layTeeth_118 : decode cX7_layTeeth 118 = .ok (.return_, 1) := by decide +kernel
theorem dX7_leansOn_0 : decode cX7_leansOn 0 = .ok (.iconst 0, 1) := by decide +kernel
theorem dX7_leansOn_1 : decode cX7_leansOn 1 = .ok (.istore_n 3, 1) := by decide +kernel
theorem dX7_leansOn_2 : decode cX7_leansOn 2 = .ok (.iload_n 3, 1) := by decide +kernel
theorem dX7_leansOn_3 : decode cX7_leansOn 3 = .ok (.iload_n 2, 1) := by decide +kernel
theorem dX7_leansOn_4 : decode cX7_leansOn 4 = .ok (.if_icmp .ge 16, 3) := by decide +kernel
theorem dX7_leansOn_7 : decode cX7_leansOn 7 = .ok (.aload_n 0, 1) := by decide +kernel
theorem dX7_leansOn_8 : decode cX7_leansOn 8 = .ok (.getfield 46, 3) := by decide +kernel
theorem dX7_leansOn_11 : decode cX7_leansOn 11 = .ok (.iload_n 3, 1) := by decide +kernel
theorem dX7_leansOn_12 : decode cX7_leansOn 12 = .ok (.iload_n 3, 1) := by decide +kernel
theorem dX7_leansOn_13 : decode cX7_leansOn 13 = .ok (.iastore, 1) := by decide +kernel
theorem dX7_leansOn_14 : decode cX7_leansOn 14 = .ok (.iinc 3 1, 3) := by decide +kernel
theorem dX7_leansOn_17 : decode cX7_leansOn 17 = .ok (.goto (-15), 3) := by decide +kernel
theorem dX7_leansOn_20 : decode cX7_leansOn 20 = .ok (.iconst 0, 1) := by decide +kernel
theorem dX7_leansOn_21 : decode cX7_leansOn 21 = .ok (.istore_n 3, 1) := by decide +kernel
theorem dX7_leansOn_22 : decode cX7_leansOn 22 = .ok (.iconst 0, 1) := by decide +kernel
theorem dX7_leansOn_23 : decode cX7_leansOn 23 = .ok (.istore 4, 2) := by decide +kernel
theorem dX7_leansOn_25 : decode cX7_leansOn 25 = .ok (.iload 4, 2) := by decide +kernel
theorem dX7_leansOn_27 : decode cX7_leansOn 27 = .ok (.iload_n 2, 1) := by decide +kernel
theorem dX7_leansOn_28 : decode cX7_leansOn 28 = .ok (.if_icmp .ge 24, 3) := by decide +kernel
theorem dX7_leansOn_31 : decode cX7_leansOn 31 = .ok (.iload_n 3, 1) := by decide +kernel
theorem dX7_leansOn_32 : decode cX7_leansOn 32 = .ok (.aload_n 0, 1) := by decide +kernel
theorem dX7_leansOn_33 : decode cX7_leansOn 33 = .ok (.getfield 43, 3) := by decide +kernel
theorem dX7_leansOn_36 : decode cX7_leansOn 36 = .ok (.aload_n 0, 1) := by decide +kernel
theorem dX7_leansOn_37 : decode cX7_leansOn 37 = .ok (.getfield 46, 3) := by decide +kernel
theorem dX7_leansOn_40 : decode cX7_leansOn 40 = .ok (.iload 4, 2) := by decide +kernel
theorem dX7_leansOn_42 : decode cX7_leansOn 42 = .ok (.iaload, 1) := by decide +kernel
theorem dX7_leansOn_43 : decode cX7_leansOn 43 = .ok (.iaload, 1) := by decide +kernel
theorem dX7_leansOn_44 : decode cX7_leansOn 44 = .ok (.ior, 1) := by decide +kernel
theorem dX7_leansOn_45 : decode cX7_leansOn 45 = .ok (.istore_n 3, 1) := by decide +kernel
theorem dX7_leansOn_46 : decode cX7_leansOn 46 = .ok (.iinc 4 1, 3) := by decide +kernel
theorem dX7_leansOn_49 : decode cX7_leansOn 49 = .ok (.goto (-24), 3) := by decide +kernel
theorem dX7_leansOn_52 : decode cX7_leansOn 52 = .ok (.iload_n 1, 1) := by decide +kernel
theorem dX7_leansOn_53 : decode cX7_leansOn 53 = .ok (.iload_n 3, 1) := by decide +kernel
theorem dX7_leansOn_54 : decode cX7_leansOn 54 = .ok (.iconst (-1), 1) := by decide +kernel
theorem dX7_leansOn_55 : decode cX7_leansOn 55 = .ok (.ixor, 1) := by decide +kernel
theorem dX7_leansOn_56 : decode cX7_leansOn 56 = .ok (.iand, 1) := by decide +kernel
theorem dX7_leansOn_57 : decode cX7_leansOn 57 = .ok (.ifCond .ne 5, 3) := by decide +kernel
theorem dX7_leansOn_60 : decode cX7_leansOn 60 = .ok (.iconst 1, 1) := by decide +kernel
theorem dX7_leansOn_61 : decode cX7_leansOn 61 = .ok (.ireturn, 1) := by decide +kernel
theorem dX7_leansOn_62 : decode cX7_leansOn 62 = .ok (.iload_n 2, 1) := by decide +kernel
theorem dX7_leansOn_63 : decode cX7_leansOn 63 = .ok (.iconst 1, 1) := by decide +kernel
theorem dX7_leansOn_64 : decode cX7_leansOn 64 = .ok (.isub, 1) := by decide +kernel
theorem dX7_leansOn_65 : decode cX7_leansOn 65 = .ok (.istore 4, 2) := by decide +kernel
theorem dX7_leansOn_67 : decode cX7_leansOn 67 = .ok (.iload 4, 2) := by decide +kernel
theorem dX7_leansOn_69 : decode cX7_leansOn 69 = .ok (.ifCond .lt 28, 3) := by decide +kernel
theorem dX7_leansOn_72 : decode cX7_leansOn 72 = .ok (.aload_n 0, 1) := by decide +kernel
theorem dX7_leansOn_73 : decode cX7_leansOn 73 = .ok (.getfield 46, 3) := by decide +kernel
theorem dX7_leansOn_76 : decode cX7_leansOn 76 = .ok (.iload 4, 2) := by decide +kernel
theorem dX7_leansOn_78 : decode cX7_leansOn 78 = .ok (.iaload, 1) := by decide +kernel
theorem dX7_leansOn_79 : decode cX7_leansOn 79 = .ok (.aload_n 0, 1) := by decide +kernel
theorem dX7_leansOn_80 : decode cX7_leansOn 80 = .ok (.getfield 213, 3) := by decide +kernel
theorem dX7_leansOn_83 : decode cX7_leansOn 83 = .ok (.iload_n 2, 1) := by decide +kernel
theorem dX7_leansOn_84 : decode cX7_leansOn 84 = .ok (.isub, 1) := by decide +kernel
theorem dX7_leansOn_85 : decode cX7_leansOn 85 = .ok (.iload 4, 2) := by decide +kernel
theorem dX7_leansOn_87 : decode cX7_leansOn 87 = .ok (.iadd, 1) := by decide +kernel
theorem dX7_leansOn_88 : decode cX7_leansOn 88 = .ok (.if_icmp .ne 9, 3) := by decide +kernel
theorem dX7_leansOn_91 : decode cX7_leansOn 91 = .ok (.iinc 4 (-1), 3) := by decide +kernel
theorem dX7_leansOn_94 : decode cX7_leansOn 94 = .ok (.goto (-27), 3) := by decide +kernel
theorem dX7_leansOn_97 : decode cX7_leansOn 97 = .ok (.iload 4, 2) := by decide +kernel
theorem dX7_leansOn_99 : decode cX7_leansOn 99 = .ok (.ifCond .ge 5, 3) := by decide +kernel
theorem dX7_leansOn_102 : decode cX7_leansOn 102 = .ok (.iconst 0, 1) := by decide +kernel
theorem dX7_leansOn_103 : decode cX7_leansOn 103 = .ok (.ireturn, 1) := by decide +kernel
theorem dX7_leansOn_104 : decode cX7_leansOn 104 = .ok (.aload_n 0, 1) := by decide +kernel
theorem dX7_leansOn_105 : decode cX7_leansOn 105 = .ok (.getfield 46, 3) := by decide +kernel
theorem dX7_leansOn_108 : decode cX7_leansOn 108 = .ok (.iload 4, 2) := by decide +kernel
theorem dX7_leansOn_110 : decode cX7_leansOn 110 = .ok (.dup2, 1) := by decide +kernel
theorem dX7_leansOn_111 : decode cX7_leansOn 111 = .ok (.iaload, 1) := by decide +kernel
theorem dX7_leansOn_112 : decode cX7_leansOn 112 = .ok (.iconst 1, 1) := by decide +kernel
theorem dX7_leansOn_113 : decode cX7_leansOn 113 = .ok (.iadd, 1) := by decide +kernel
theorem dX7_leansOn_114 : decode cX7_leansOn 114 = .ok (.iastore, 1) := by decide +kernel
theorem dX7_leansOn_115 : decode cX7_leansOn 115 = .ok (.iload 4, 2) := by decide +kernel
theorem dX7_leansOn_117 : decode cX7_leansOn 117 = .ok (.iconst 1, 1) := by decide +kernel
theorem dX7_leansOn_118 : decode cX7_leansOn 118 = .ok (.iadd, 1) := by decide +kernel
theorem dX7_leansOn_119 : decode cX7_leansOn 119 = .ok (.istore 5, 2) := by decide +kernel
theorem dX7_leansOn_121 : decode cX7_leansOn 121 = .ok (.iload 5, 2) := by decide +kernel
theorem dX7_leansOn_123 : decode cX7_leansOn 123 = .ok (.iload_n 2, 1) := by decide +kernel
theorem dX7_leansOn_124 : decode cX7_leansOn 124 = .ok (.if_icmp .ge 27, 3) := by decide +kernel
theorem dX7_leansOn_127 : decode cX7_leansOn 127 = .ok (.aload_n 0, 1) := by decide +kernel
theorem dX7_leansOn_128 : decode cX7_leansOn 128 = .ok (.getfield 46, 3) := by decide +kernel
theorem dX7_leansOn_131 : decode cX7_leansOn 131 = .ok (.iload 5, 2) := by decide +kernel
theorem dX7_leansOn_133 : decode cX7_leansOn 133 = .ok (.aload_n 0, 1) := by decide +kernel
theorem dX7_leansOn_134 : decode cX7_leansOn 134 = .ok (.getfield 46, 3) := by decide +kernel
theorem dX7_leansOn_137 : decode cX7_leansOn 137 = .ok (.iload 5, 2) := by decide +kernel
theorem dX7_leansOn_139 : decode cX7_leansOn 139 = .ok (.iconst 1, 1) := by decide +kernel
theorem dX7_leansOn_140 : decode cX7_leansOn 140 = .ok (.isub, 1) := by decide +kernel
theorem dX7_leansOn_141 : decode cX7_leansOn 141 = .ok (.iaload, 1) := by decide +kernel
theorem dX7_leansOn_142 : decode cX7_leansOn 142 = .ok (.iconst 1, 1) := by decide +kernel
theorem dX7_leansOn_143 : decode cX7_leansOn 143 = .ok (.iadd, 1) := by decide +kernel
theorem dX7_leansOn_144 : decode cX7_leansOn 144 = .ok (.iastore, 1) := by decide +kernel
theorem dX7_leansOn_145 : decode cX7_leansOn 145 = .ok (.iinc 5 1, 3) := by decide +kernel
theorem dX7_leansOn_148 : decode cX7_leansOn 148 = .ok (.goto (-27), 3) := by decide +kernel
theorem dX7_leansOn_151 : decode cX7_leansOn 151 = .ok (.goto (-131), 3) := by decide +kernel
theorem dX7_teeth_0 : decode cX7_teeth 0 = .ok (.aload_n 0, 1) := by decide +kernel
theorem dX7_teeth_1 : decode cX7_teeth 1 = .ok (.iload_n 1, 1) := by decide +kernel
theorem dX7_teeth_2 : decode cX7_teeth 2 = .ok (.invokevirtual 169, 3) := by decide +kernel
theorem dX7_teeth_5 : decode cX7_teeth 5 = .ok (.ifCond .eq 17, 3) := by decide +kernel
theorem dX7_teeth_8 : decode cX7_teeth 8 = .ok (.iload_n 2, 1) := by decide +kernel
theorem dX7_teeth_9 : decode cX7_teeth 9 = .ok (.i2l, 1) := by decide +kernel
theorem dX7_teeth_10 : decode cX7_teeth 10 = .ok (.ldc2_w 216, 3) := by decide +kernel
theorem dX7_teeth_13 : decode cX7_teeth 13 = .ok (.ldc2_w 218, 3) := by decide +kernel
theorem dX7_teeth_16 : decode cX7_teeth 16 = .ok (.invokestatic 67, 3) := by decide +kernel
theorem dX7_teeth_19 : decode cX7_teeth 19 = .ok (.ifCond .ne 5, 3) := by decide +kernel
theorem dX7_teeth_22 : decode cX7_teeth 22 = .ok (.iconst (-1), 1) := by decide +kernel
theorem dX7_teeth_23 : decode cX7_teeth 23 = .ok (.ireturn, 1) := by decide +kernel
theorem dX7_teeth_24 : decode cX7_teeth 24 = .ok (.aload_n 0, 1) := by decide +kernel
theorem dX7_teeth_25 : decode cX7_teeth 25 = .ok (.iload_n 1, 1) := by decide +kernel
theorem dX7_teeth_26 : decode cX7_teeth 26 = .ok (.invokevirtual 220, 3) := by decide +kernel
theorem dX7_teeth_29 : decode cX7_teeth 29 = .ok (.istore_n 3, 1) := by decide +kernel
theorem dX7_teeth_30 : decode cX7_teeth 30 = .ok (.aload_n 0, 1) := by decide +kernel
theorem dX7_teeth_31 : decode cX7_teeth 31 = .ok (.invokevirtual 223, 3) := by decide +kernel
theorem dX7_teeth_34 : decode cX7_teeth 34 = .ok (.iconst 0, 1) := by decide +kernel
theorem dX7_teeth_35 : decode cX7_teeth 35 = .ok (.istore 4, 2) := by decide +kernel
theorem dX7_teeth_37 : decode cX7_teeth 37 = .ok (.aload_n 0, 1) := by decide +kernel
theorem dX7_teeth_38 : decode cX7_teeth 38 = .ok (.iload_n 3, 1) := by decide +kernel
theorem dX7_teeth_39 : decode cX7_teeth 39 = .ok (.iload 4, 2) := by decide +kernel
theorem dX7_teeth_41 : decode cX7_teeth 41 = .ok (.invokevirtual 226, 3) := by decide +kernel
theorem dX7_teeth_44 : decode cX7_teeth 44 = .ok (.ifCond .ne 9, 3) := by decide +kernel
theorem dX7_teeth_47 : decode cX7_teeth 47 = .ok (.iinc 4 1, 3) := by decide +kernel
theorem dX7_teeth_50 : decode cX7_teeth 50 = .ok (.goto (-13), 3) := by decide +kernel
theorem dX7_teeth_53 : decode cX7_teeth 53 = .ok (.iload_n 2, 1) := by decide +kernel
theorem dX7_teeth_54 : decode cX7_teeth 54 = .ok (.ifCond .ge 8, 3) := by decide +kernel
theorem dX7_teeth_57 : decode cX7_teeth 57 = .ok (.iload 4, 2) := by decide +kernel
theorem dX7_teeth_59 : decode cX7_teeth 59 = .ok (.goto 25, 3) := by decide +kernel
theorem dX7_teeth_62 : decode cX7_teeth 62 = .ok (.iload_n 2, 1) := by decide +kernel
theorem dX7_teeth_63 : decode cX7_teeth 63 = .ok (.iload 4, 2) := by decide +kernel
theorem dX7_teeth_65 : decode cX7_teeth 65 = .ok (.if_icmp .ge 17, 3) := by decide +kernel
theorem dX7_teeth_68 : decode cX7_teeth 68 = .ok (.aload_n 0, 1) := by decide +kernel
theorem dX7_teeth_69 : decode cX7_teeth 69 = .ok (.getfield 40, 3) := by decide +kernel
theorem dX7_teeth_72 : decode cX7_teeth 72 = .ok (.aload_n 0, 1) := by decide +kernel
theorem dX7_teeth_73 : decode cX7_teeth 73 = .ok (.getfield 46, 3) := by decide +kernel
theorem dX7_teeth_76 : decode cX7_teeth 76 = .ok (.iload_n 2, 1) := by decide +kernel
theorem dX7_teeth_77 : decode cX7_teeth 77 = .ok (.iaload, 1) := by decide +kernel
theorem dX7_teeth_78 : decode cX7_teeth 78 = .ok (.iaload, 1) := by decide +kernel
theorem dX7_teeth_79 : decode cX7_teeth 79 = .ok (.goto 5, 3) := by decide +kernel
theorem dX7_teeth_82 : decode cX7_teeth 82 = .ok (.bipush (-4), 2) := by decide +kernel
theorem dX7_teeth_84 : decode cX7_teeth 84 = .ok (.ireturn, 1) := by decide +kernel
theorem dX7_clash_0 : decode cX7_clash 0 = .ok (.aload_n 0, 1) := by decide +kernel
theorem dX7_clash_1 : decode cX7_clash 1 = .ok (.getfield 7, 3) := by decide +kernel
theorem dX7_clash_4 : decode cX7_clash 4 = .ok (.iconst 0, 1) := by decide +kernel
theorem dX7_clash_5 : decode cX7_clash 5 = .ok (.iaload, 1) := by decide +kernel
theorem dX7_clash_6 : decode cX7_clash 6 = .ok (.iconst 1, 1) := by decide +kernel
theorem dX7_clash_7 : decode cX7_clash 7 = .ok (.if_icmp .le 22, 3) := by decide +kernel
theorem dX7_clash_10 : decode cX7_clash 10 = .ok (.aload_n 0, 1) := by decide +kernel
theorem dX7_clash_11 : decode cX7_clash 11 = .ok (.iload_n 1, 1) := by decide +kernel
theorem dX7_clash_12 : decode cX7_clash 12 = .ok (.iconst 0, 1) := by decide +kernel
theorem dX7_clash_13 : decode cX7_clash 13 = .ok (.invokevirtual 133, 3) := by decide +kernel
theorem dX7_clash_16 : decode cX7_clash 16 = .ok (.aload_n 0, 1) := by decide +kernel
theorem dX7_clash_17 : decode cX7_clash 17 = .ok (.iload_n 2, 1) := by decide +kernel
theorem dX7_clash_18 : decode cX7_clash 18 = .ok (.iconst 0, 1) := by decide +kernel
theorem dX7_clash_19 : decode cX7_clash 19 = .ok (.invokevirtual 133, 3) := by decide +kernel
theorem dX7_clash_22 : decode cX7_clash 22 = .ok (.if_icmp .ne 7, 3) := by decide +kernel
theorem dX7_clash_25 : decode cX7_clash 25 = .ok (.iconst 1, 1) := by decide +kernel
theorem dX7_clash_26 : decode cX7_clash 26 = .ok (.goto 4, 3) := by decide +kernel
theorem dX7_clash_29 : decode cX7_clash 29 = .ok (.iconst 0, 1) := by decide +kernel
theorem dX7_clash_30 : decode cX7_clash 30 = .ok (.istore_n 3, 1) := by decide +kernel
theorem dX7_clash_31 : decode cX7_clash 31 = .ok (.iconst 1, 1) := by decide +kernel
theorem dX7_clash_32 : decode cX7_clash 32 = .ok (.istore 4, 2) := by decide +kernel
theorem dX7_clash_34 : decode cX7_clash 34 = .ok (.iload 4, 2) := by decide +kernel
theorem dX7_clash_36 : decode cX7_clash 36 = .ok (.aload_n 0, 1) := by decide +kernel
theorem dX7_clash_37 : decode cX7_clash 37 = .ok (.getfield 7, 3) := by decide +kernel
theorem dX7_clash_40 : decode cX7_clash 40 = .ok (.iconst 0, 1) := by decide +kernel
theorem dX7_clash_41 : decode cX7_clash 41 = .ok (.iaload, 1) := by decide +kernel
theorem dX7_clash_42 : decode cX7_clash 42 = .ok (.if_icmp .ge 36, 3) := by decide +kernel
theorem dX7_clash_45 : decode cX7_clash 45 = .ok (.iload_n 3, 1) := by decide +kernel
theorem dX7_clash_46 : decode cX7_clash 46 = .ok (.ifCond .eq 24, 3) := by decide +kernel
theorem dX7_clash_49 : decode cX7_clash 49 = .ok (.aload_n 0, 1) := by decide +kernel
theorem dX7_clash_50 : decode cX7_clash 50 = .ok (.iload_n 1, 1) := by decide +kernel
theorem dX7_clash_51 : decode cX7_clash 51 = .ok (.iload 4, 2) := by decide +kernel
theorem dX7_clash_53 : decode cX7_clash 53 = .ok (.invokevirtual 133, 3) := by decide +kernel
theorem dX7_clash_56 : decode cX7_clash 56 = .ok (.aload_n 0, 1) := by decide +kernel
theorem dX7_clash_57 : decode cX7_clash 57 = .ok (.iload_n 2, 1) := by decide +kernel
theorem dX7_clash_58 : decode cX7_clash 58 = .ok (.iload 4, 2) := by decide +kernel
theorem dX7_clash_60 : decode cX7_clash 60 = .ok (.invokevirtual 133, 3) := by decide +kernel
theorem dX7_clash_63 : decode cX7_clash 63 = .ok (.if_icmp .eq 7, 3) := by decide +kernel
theorem dX7_clash_66 : decode cX7_clash 66 = .ok (.iconst 1, 1) := by decide +kernel
theorem dX7_clash_67 : decode cX7_clash 67 = .ok (.goto 4, 3) := by decide +kernel
theorem dX7_clash_70 : decode cX7_clash 70 = .ok (.iconst 0, 1) := by decide +kernel
theorem dX7_clash_71 : decode cX7_clash 71 = .ok (.istore_n 3, 1) := by decide +kernel
theorem dX7_clash_72 : decode cX7_clash 72 = .ok (.iinc 4 1, 3) := by decide +kernel
theorem dX7_clash_75 : decode cX7_clash 75 = .ok (.goto (-41), 3) := by decide +kernel
theorem dX7_clash_78 : decode cX7_clash 78 = .ok (.iload_n 3, 1) := by decide +kernel
theorem dX7_clash_79 : decode cX7_clash 79 = .ok (.ireturn, 1) := by decide +kernel
theorem dX7_together_0 : decode cX7_together 0 = .ok (.aload_n 0, 1) := by decide +kernel
theorem dX7_together_1 : decode cX7_together 1 = .ok (.iload_n 1, 1) := by decide +kernel
theorem dX7_together_2 : decode cX7_together 2 = .ok (.invokevirtual 169, 3) := by decide +kernel
theorem dX7_together_5 : decode cX7_together 5 = .ok (.ifCond .ne 5, 3) := by decide +kernel
theorem dX7_together_8 : decode cX7_together 8 = .ok (.iconst (-1), 1) := by decide +kernel
theorem dX7_together_9 : decode cX7_together 9 = .ok (.ireturn, 1) := by decide +kernel
theorem dX7_together_10 : decode cX7_together 10 = .ok (.aload_n 0, 1) := by decide +kernel
theorem dX7_together_11 : decode cX7_together 11 = .ok (.iload_n 1, 1) := by decide +kernel
theorem dX7_together_12 : decode cX7_together 12 = .ok (.invokevirtual 220, 3) := by decide +kernel
theorem dX7_together_15 : decode cX7_together 15 = .ok (.istore_n 2, 1) := by decide +kernel
theorem dX7_together_16 : decode cX7_together 16 = .ok (.iconst 0, 1) := by decide +kernel
theorem dX7_together_17 : decode cX7_together 17 = .ok (.istore_n 3, 1) := by decide +kernel
theorem dX7_together_18 : decode cX7_together 18 = .ok (.iconst 0, 1) := by decide +kernel
theorem dX7_together_19 : decode cX7_together 19 = .ok (.istore 4, 2) := by decide +kernel
theorem dX7_together_21 : decode cX7_together 21 = .ok (.iload 4, 2) := by decide +kernel
theorem dX7_together_23 : decode cX7_together 23 = .ok (.iload_n 2, 1) := by decide +kernel
theorem dX7_together_24 : decode cX7_together 24 = .ok (.if_icmp .gt 156, 3) := by decide +kernel
theorem dX7_together_27 : decode cX7_together 27 = .ok (.iload 4, 2) := by decide +kernel
theorem dX7_together_29 : decode cX7_together 29 = .ok (.iload_n 2, 1) := by decide +kernel
theorem dX7_together_30 : decode cX7_together 30 = .ok (.iconst (-1), 1) := by decide +kernel
theorem dX7_together_31 : decode cX7_together 31 = .ok (.ixor, 1) := by decide +kernel
theorem dX7_together_32 : decode cX7_together 32 = .ok (.iand, 1) := by decide +kernel
theorem dX7_together_33 : decode cX7_together 33 = .ok (.ifCond .ne 16, 3) := by decide +kernel
theorem dX7_together_36 : decode cX7_together 36 = .ok (.iload 4, 2) := by decide +kernel
theorem dX7_together_38 : decode cX7_together 38 = .ok (.invokestatic 193, 3) := by decide +kernel
theorem dX7_together_41 : decode cX7_together 41 = .ok (.iload_n 3, 1) := by decide +kernel
theorem dX7_together_42 : decode cX7_together 42 = .ok (.if_icmp .le 7, 3) := by decide +kernel
theorem dX7_together_45 : decode cX7_together 45 = .ok (.iconst 1, 1) := by decide +kernel
theorem dX7_together_46 : decode cX7_together 46 = .ok (.goto 4, 3) := by decide +kernel
theorem dX7_together_49 : decode cX7_together 49 = .ok (.iconst 0, 1) := by decide +kernel
theorem dX7_together_50 : decode cX7_together 50 = .ok (.istore 5, 2) := by decide +kernel
theorem dX7_together_52 : decode cX7_together 52 = .ok (.iconst 0, 1) := by decide +kernel
theorem dX7_together_53 : decode cX7_together 53 = .ok (.istore 6, 2) := by decide +kernel
theorem dX7_together_55 : decode cX7_together 55 = .ok (.iload 6, 2) := by decide +kernel
theorem dX7_together_57 : decode cX7_together 57 = .ok (.aload_n 0, 1) := by decide +kernel
theorem dX7_together_58 : decode cX7_together 58 = .ok (.getfield 16, 3) := by decide +kernel
theorem dX7_together_61 : decode cX7_together 61 = .ok (.iconst 2, 1) := by decide +kernel
theorem dX7_together_62 : decode cX7_together 62 = .ok (.iaload, 1) := by decide +kernel
theorem dX7_together_63 : decode cX7_together 63 = .ok (.if_icmp .ge 96, 3) := by decide +kernel
theorem dX7_together_66 : decode cX7_together 66 = .ok (.iload 5, 2) := by decide +kernel
theorem dX7_together_68 : decode cX7_together 68 = .ok (.ifCond .eq 91, 3) := by decide +kernel
theorem dX7_together_71 : decode cX7_together 71 = .ok (.iload 6, 2) := by decide +kernel
theorem dX7_together_73 : decode cX7_together 73 = .ok (.iconst 1, 1) := by decide +kernel
theorem dX7_together_74 : decode cX7_together 74 = .ok (.iadd, 1) := by decide +kernel
theorem dX7_together_75 : decode cX7_together 75 = .ok (.istore 7, 2) := by decide +kernel
theorem dX7_together_77 : decode cX7_together 77 = .ok (.iload 7, 2) := by decide +kernel
theorem dX7_together_79 : decode cX7_together 79 = .ok (.aload_n 0, 1) := by decide +kernel
theorem dX7_together_80 : decode cX7_together 80 = .ok (.getfield 16, 3) := by decide +kernel
theorem dX7_together_83 : decode cX7_together 83 = .ok (.iconst 2, 1) := by decide +kernel
theorem dX7_together_84 : decode cX7_together 84 = .ok (.iaload, 1) := by decide +kernel
theorem dX7_together_85 : decode cX7_together 85 = .ok (.if_icmp .ge 68, 3) := by decide +kernel
theorem dX7_together_88 : decode cX7_together 88 = .ok (.iload 5, 2) := by decide +kernel
theorem dX7_together_90 : decode cX7_together 90 = .ok (.ifCond .eq 54, 3) := by decide +kernel
theorem dX7_together_93 : decode cX7_together 93 = .ok (.iload 4, 2) := by decide +kernel
theorem dX7_together_95 : decode cX7_together 95 = .ok (.iload 6, 2) := by decide +kernel
theorem dX7_together_97 : decode cX7_together 97 = .ok (.invokestatic 137, 3) := by decide +kernel
theorem dX7_together_100 : decode cX7_together 100 = .ok (.ifCond .eq 40, 3) := by decide +kernel
theorem dX7_together_103 : decode cX7_together 103 = .ok (.iload 4, 2) := by decide +kernel
theorem dX7_together_105 : decode cX7_together 105 = .ok (.iload 7, 2) := by decide +kernel
theorem dX7_together_107 : decode cX7_together 107 = .ok (.invokestatic 137, 3) := by decide +kernel
theorem dX7_together_110 : decode cX7_together 110 = .ok (.ifCond .eq 30, 3) := by decide +kernel
theorem dX7_together_113 : decode cX7_together 113 = .ok (.aload_n 0, 1) := by decide +kernel
theorem dX7_together_114 : decode cX7_together 114 = .ok (.aload_n 0, 1) := by decide +kernel
theorem dX7_together_115 : decode cX7_together 115 = .ok (.getfield 16, 3) := by decide +kernel
theorem dX7_together_118 : decode cX7_together 118 = .ok (.bipush 16, 2) := by decide +kernel
theorem dX7_together_120 : decode cX7_together 120 = .ok (.iload 6, 2) := by decide +kernel
theorem dX7_together_122 : decode cX7_together 122 = .ok (.iadd, 1) := by decide +kernel
theorem dX7_together_123 : decode cX7_together 123 = .ok (.iaload, 1) := by decide +kernel
theorem dX7_together_124 : decode cX7_together 124 = .ok (.aload_n 0, 1) := by decide +kernel
theorem dX7_together_125 : decode cX7_together 125 = .ok (.getfield 16, 3) := by decide +kernel
theorem dX7_together_128 : decode cX7_together 128 = .ok (.bipush 16, 2) := by decide +kernel
theorem dX7_together_130 : decode cX7_together 130 = .ok (.iload 7, 2) := by decide +kernel
theorem dX7_together_132 : decode cX7_together 132 = .ok (.iadd, 1) := by decide +kernel
theorem dX7_together_133 : decode cX7_together 133 = .ok (.iaload, 1) := by decide +kernel
theorem dX7_together_134 : decode cX7_together 134 = .ok (.invokevirtual 229, 3) := by decide +kernel
theorem dX7_together_137 : decode cX7_together 137 = .ok (.ifCond .ne 7, 3) := by decide +kernel
theorem dX7_together_140 : decode cX7_together 140 = .ok (.iconst 1, 1) := by decide +kernel
theorem dX7_together_141 : decode cX7_together 141 = .ok (.goto 4, 3) := by decide +kernel
theorem dX7_together_144 : decode cX7_together 144 = .ok (.iconst 0, 1) := by decide +kernel
theorem dX7_together_145 : decode cX7_together 145 = .ok (.istore 5, 2) := by decide +kernel
theorem dX7_together_147 : decode cX7_together 147 = .ok (.iinc 7 1, 3) := by decide +kernel
theorem dX7_together_150 : decode cX7_together 150 = .ok (.goto (-73), 3) := by decide +kernel
theorem dX7_together_153 : decode cX7_together 153 = .ok (.iinc 6 1, 3) := by decide +kernel
theorem dX7_together_156 : decode cX7_together 156 = .ok (.goto (-101), 3) := by decide +kernel
theorem dX7_together_159 : decode cX7_together 159 = .ok (.iload 5, 2) := by decide +kernel
theorem dX7_together_161 : decode cX7_together 161 = .ok (.ifCond .eq 11, 3) := by decide +kernel
theorem dX7_together_164 : decode cX7_together 164 = .ok (.iload 4, 2) := by decide +kernel
theorem dX7_together_166 : decode cX7_together 166 = .ok (.invokestatic 193, 3) := by decide +kernel
theorem dX7_together_169 : decode cX7_together 169 = .ok (.goto 4, 3) := by decide +kernel
theorem dX7_together_172 : decode cX7_together 172 = .ok (.iload_n 3, 1) := by decide +kernel
theorem dX7_together_173 : decode cX7_together 173 = .ok (.istore_n 3, 1) := by decide +kernel
theorem dX7_together_174 : decode cX7_together 174 = .ok (.iinc 4 1, 3) := by decide +kernel
theorem dX7_together_177 : decode cX7_together 177 = .ok (.goto (-156), 3) := by decide +kernel
theorem dX7_together_180 : decode cX7_together 180 = .ok (.iload_n 3, 1) := by decide +kernel
theorem dX7_together_181 : decode cX7_together 181 = .ok (.ireturn, 1) := by decide +kernel
theorem dX7_owner_0 : decode cX7_owner 0 = .ok (.aload_n 0, 1) := by decide +kernel
theorem dX7_owner_1 : decode cX7_owner 1 = .ok (.iload_n 1, 1) := by decide +kernel
theorem dX7_owner_2 : decode cX7_owner 2 = .ok (.invokevirtual 172, 3) := by decide +kernel
theorem dX7_owner_5 : decode cX7_owner 5 = .ok (.ifCond .ne 5, 3) := by decide +kernel
theorem dX7_owner_8 : decode cX7_owner 8 = .ok (.iconst (-1), 1) := by decide +kernel
theorem dX7_owner_9 : decode cX7_owner 9 = .ok (.ireturn, 1) := by decide +kernel
theorem dX7_owner_10 : decode cX7_owner 10 = .ok (.iconst 0, 1) := by decide +kernel
theorem dX7_owner_11 : decode cX7_owner 11 = .ok (.istore_n 2, 1) := by decide +kernel
theorem dX7_owner_12 : decode cX7_owner 12 = .ok (.aload_n 0, 1) := by decide +kernel
theorem dX7_owner_13 : decode cX7_owner 13 = .ok (.getfield 16, 3) := by decide +kernel
theorem dX7_owner_16 : decode cX7_owner 16 = .ok (.bipush 16, 2) := by decide +kernel
theorem dX7_owner_18 : decode cX7_owner 18 = .ok (.iload_n 2, 1) := by decide +kernel
theorem dX7_owner_19 : decode cX7_owner 19 = .ok (.iadd, 1) := by decide +kernel
theorem dX7_owner_20 : decode cX7_owner 20 = .ok (.iaload, 1) := by decide +kernel
theorem dX7_owner_21 : decode cX7_owner 21 = .ok (.aload_n 0, 1) := by decide +kernel
theorem dX7_owner_22 : decode cX7_owner 22 = .ok (.getfield 16, 3) := by decide +kernel
theorem dX7_owner_25 : decode cX7_owner 25 = .ok (.bipush 16, 2) := by decide +kernel
theorem dX7_owner_27 : decode cX7_owner 27 = .ok (.iload_n 1, 1) := by decide +kernel
theorem dX7_owner_28 : decode cX7_owner 28 = .ok (.iadd, 1) := by decide +kernel
theorem dX7_owner_29 : decode cX7_owner 29 = .ok (.iaload, 1) := by decide +kernel
theorem dX7_owner_30 : decode cX7_owner 30 = .ok (.if_icmp .eq 9, 3) := by decide +kernel
theorem dX7_owner_33 : decode cX7_owner 33 = .ok (.iinc 2 1, 3) := by decide +kernel
theorem dX7_owner_36 : decode cX7_owner 36 = .ok (.goto (-24), 3) := by decide +kernel
theorem dX7_owner_39 : decode cX7_owner 39 = .ok (.aload_n 0, 1) := by decide +kernel
theorem dX7_owner_40 : decode cX7_owner 40 = .ok (.getfield 16, 3) := by decide +kernel
theorem dX7_owner_43 : decode cX7_owner 43 = .ok (.bipush 28, 2) := by decide +kernel
theorem dX7_owner_45 : decode cX7_owner 45 = .ok (.iload_n 2, 1) := by decide +kernel
theorem dX7_owner_46 : decode cX7_owner 46 = .ok (.iadd, 1) := by decide +kernel
theorem dX7_owner_47 : decode cX7_owner 47 = .ok (.iaload, 1) := by decide +kernel
theorem dX7_owner_48 : decode cX7_owner 48 = .ok (.ireturn, 1) := by decide +kernel
theorem dX7_caught_0 : decode cX7_caught 0 = .ok (.aload_n 0, 1) := by decide +kernel
theorem dX7_caught_1 : decode cX7_caught 1 = .ok (.iload_n 1, 1) := by decide +kernel
theorem dX7_caught_2 : decode cX7_caught 2 = .ok (.invokevirtual 169, 3) := by decide +kernel
theorem dX7_caught_5 : decode cX7_caught 5 = .ok (.ifCond .eq 22, 3) := by decide +kernel
theorem dX7_caught_8 : decode cX7_caught 8 = .ok (.iload_n 2, 1) := by decide +kernel
theorem dX7_caught_9 : decode cX7_caught 9 = .ok (.i2l, 1) := by decide +kernel
theorem dX7_caught_10 : decode cX7_caught 10 = .ok (.lconst 0, 1) := by decide +kernel
theorem dX7_caught_11 : decode cX7_caught 11 = .ok (.ldc2_w 232, 3) := by decide +kernel
theorem dX7_caught_14 : decode cX7_caught 14 = .ok (.invokestatic 67, 3) := by decide +kernel
theorem dX7_caught_17 : decode cX7_caught 17 = .ok (.ifCond .eq 10, 3) := by decide +kernel
theorem dX7_caught_20 : decode cX7_caught 20 = .ok (.iload_n 3, 1) := by decide +kernel
theorem dX7_caught_21 : decode cX7_caught 21 = .ok (.invokestatic 198, 3) := by decide +kernel
theorem dX7_caught_24 : decode cX7_caught 24 = .ok (.ifCond .ne 7, 3) := by decide +kernel
theorem dX7_caught_27 : decode cX7_caught 27 = .ok (.ldc2_w 216, 3) := by decide +kernel
theorem dX7_caught_30 : decode cX7_caught 30 = .ok (.lreturn, 1) := by decide +kernel
theorem dX7_caught_31 : decode cX7_caught 31 = .ok (.lconst 1, 1) := by decide +kernel
theorem dX7_caught_32 : decode cX7_caught 32 = .ok (.lstore 4, 2) := by decide +kernel
theorem dX7_caught_34 : decode cX7_caught 34 = .ok (.lconst 1, 1) := by decide +kernel
theorem dX7_caught_35 : decode cX7_caught 35 = .ok (.lstore 6, 2) := by decide +kernel
theorem dX7_caught_37 : decode cX7_caught 37 = .ok (.iconst 0, 1) := by decide +kernel
theorem dX7_caught_38 : decode cX7_caught 38 = .ok (.istore 8, 2) := by decide +kernel
theorem dX7_caught_40 : decode cX7_caught 40 = .ok (.iload 8, 2) := by decide +kernel
theorem dX7_caught_42 : decode cX7_caught 42 = .ok (.aload_n 0, 1) := by decide +kernel
theorem dX7_caught_43 : decode cX7_caught 43 = .ok (.getfield 16, 3) := by decide +kernel
theorem dX7_caught_46 : decode cX7_caught 46 = .ok (.iconst 2, 1) := by decide +kernel
theorem dX7_caught_47 : decode cX7_caught 47 = .ok (.iaload, 1) := by decide +kernel
theorem dX7_caught_48 : decode cX7_caught 48 = .ok (.if_icmp .ge 160, 3) := by decide +kernel
theorem dX7_caught_51 : decode cX7_caught 51 = .ok (.iconst 0, 1) := by decide +kernel
theorem dX7_caught_52 : decode cX7_caught 52 = .ok (.istore 9, 2) := by decide +kernel
theorem dX7_caught_54 : decode cX7_caught 54 = .ok (.iconst 0, 1) := by decide +kernel
theorem dX7_caught_55 : decode cX7_caught 55 = .ok (.istore 10, 2) := by decide +kernel
theorem dX7_caught_57 : decode cX7_caught 57 = .ok (.iload 10, 2) := by decide +kernel
theorem dX7_caught_59 : decode cX7_caught 59 = .ok (.aload_n 0, 1) := by decide +kernel
theorem dX7_caught_60 : decode cX7_caught 60 = .ok (.getfield 16, 3) := by decide +kernel
theorem dX7_caught_63 : decode cX7_caught 63 = .ok (.iconst 2, 1) := by decide +kernel
theorem dX7_caught_64 : decode cX7_caught 64 = .ok (.iaload, 1) := by decide +kernel
theorem dX7_caught_65 : decode cX7_caught 65 = .ok (.if_icmp .ge 101, 3) := by decide +kernel
theorem dX7_caught_68 : decode cX7_caught 68 = .ok (.iload 10, 2) := by decide +kernel
theorem dX7_caught_70 : decode cX7_caught 70 = .ok (.iload 8, 2) := by decide +kernel
theorem dX7_caught_72 : decode cX7_caught 72 = .ok (.if_icmp .eq 35, 3) := by decide +kernel
theorem dX7_caught_75 : decode cX7_caught 75 = .ok (.aload_n 0, 1) := by decide +kernel
theorem dX7_caught_76 : decode cX7_caught 76 = .ok (.getfield 16, 3) := by decide +kernel
theorem dX7_caught_79 : decode cX7_caught 79 = .ok (.bipush 40, 2) := by decide +kernel
theorem dX7_caught_81 : decode cX7_caught 81 = .ok (.iload 10, 2) := by decide +kernel
theorem dX7_caught_83 : decode cX7_caught 83 = .ok (.iadd, 1) := by decide +kernel
theorem dX7_caught_84 : decode cX7_caught 84 = .ok (.iaload, 1) := by decide +kernel
theorem dX7_caught_85 : decode cX7_caught 85 = .ok (.iload_n 1, 1) := by decide +kernel
theorem dX7_caught_86 : decode cX7_caught 86 = .ok (.if_icmp .ne 21, 3) := by decide +kernel
theorem dX7_caught_89 : decode cX7_caught 89 = .ok (.aload_n 0, 1) := by decide +kernel
theorem dX7_caught_90 : decode cX7_caught 90 = .ok (.getfield 16, 3) := by decide +kernel
theorem dX7_caught_93 : decode cX7_caught 93 = .ok (.bipush 40, 2) := by decide +kernel
theorem dX7_caught_95 : decode cX7_caught 95 = .ok (.iload 8, 2) := by decide +kernel
theorem dX7_caught_97 : decode cX7_caught 97 = .ok (.iadd, 1) := by decide +kernel
theorem dX7_caught_98 : decode cX7_caught 98 = .ok (.iaload, 1) := by decide +kernel
theorem dX7_caught_99 : decode cX7_caught 99 = .ok (.iload_n 1, 1) := by decide +kernel
theorem dX7_caught_100 : decode cX7_caught 100 = .ok (.if_icmp .ne 7, 3) := by decide +kernel
theorem dX7_caught_103 : decode cX7_caught 103 = .ok (.iconst 1, 1) := by decide +kernel
theorem dX7_caught_104 : decode cX7_caught 104 = .ok (.goto 4, 3) := by decide +kernel
theorem dX7_caught_107 : decode cX7_caught 107 = .ok (.iconst 0, 1) := by decide +kernel
theorem dX7_caught_108 : decode cX7_caught 108 = .ok (.istore 11, 2) := by decide +kernel
theorem dX7_caught_110 : decode cX7_caught 110 = .ok (.iload 9, 2) := by decide +kernel
theorem dX7_caught_112 : decode cX7_caught 112 = .ok (.ifCond .ne 41, 3) := by decide +kernel
theorem dX7_caught_115 : decode cX7_caught 115 = .ok (.iload 11, 2) := by decide +kernel
theorem dX7_caught_117 : decode cX7_caught 117 = .ok (.ifCond .eq 40, 3) := by decide +kernel
theorem dX7_caught_120 : decode cX7_caught 120 = .ok (.aload_n 0, 1) := by decide +kernel
theorem dX7_caught_121 : decode cX7_caught 121 = .ok (.aload_n 0, 1) := by decide +kernel
theorem dX7_caught_122 : decode cX7_caught 122 = .ok (.getfield 16, 3) := by decide +kernel
theorem dX7_caught_125 : decode cX7_caught 125 = .ok (.bipush 16, 2) := by decide +kernel
theorem dX7_caught_127 : decode cX7_caught 127 = .ok (.iload 10, 2) := by decide +kernel
theorem dX7_caught_129 : decode cX7_caught 129 = .ok (.iadd, 1) := by decide +kernel
theorem dX7_caught_130 : decode cX7_caught 130 = .ok (.iaload, 1) := by decide +kernel
theorem dX7_caught_131 : decode cX7_caught 131 = .ok (.iconst 0, 1) := by decide +kernel
theorem dX7_caught_132 : decode cX7_caught 132 = .ok (.invokevirtual 133, 3) := by decide +kernel
theorem dX7_caught_135 : decode cX7_caught 135 = .ok (.aload_n 0, 1) := by decide +kernel
theorem dX7_caught_136 : decode cX7_caught 136 = .ok (.aload_n 0, 1) := by decide +kernel
theorem dX7_caught_137 : decode cX7_caught 137 = .ok (.getfield 16, 3) := by decide +kernel
theorem dX7_caught_140 : decode cX7_caught 140 = .ok (.bipush 16, 2) := by decide +kernel
theorem dX7_caught_142 : decode cX7_caught 142 = .ok (.iload 8, 2) := by decide +kernel
theorem dX7_caught_144 : decode cX7_caught 144 = .ok (.iadd, 1) := by decide +kernel
theorem dX7_caught_145 : decode cX7_caught 145 = .ok (.iaload, 1) := by decide +kernel
theorem dX7_caught_146 : decode cX7_caught 146 = .ok (.iconst 0, 1) := by decide +kernel
theorem dX7_caught_147 : decode cX7_caught 147 = .ok (.invokevirtual 133, 3) := by decide +kernel
theorem dX7_caught_150 : decode cX7_caught 150 = .ok (.if_icmp .ne 7, 3) := by decide +kernel
theorem dX7_caught_153 : decode cX7_caught 153 = .ok (.iconst 1, 1) := by decide +kernel
theorem dX7_caught_154 : decode cX7_caught 154 = .ok (.goto 4, 3) := by decide +kernel
theorem dX7_caught_157 : decode cX7_caught 157 = .ok (.iconst 0, 1) := by decide +kernel
theorem dX7_caught_158 : decode cX7_caught 158 = .ok (.istore 9, 2) := by decide +kernel
theorem dX7_caught_160 : decode cX7_caught 160 = .ok (.iinc 10 1, 3) := by decide +kernel
theorem dX7_caught_163 : decode cX7_caught 163 = .ok (.goto (-106), 3) := by decide +kernel
theorem dX7_caught_166 : decode cX7_caught 166 = .ok (.lload 4, 2) := by decide +kernel
theorem dX7_caught_168 : decode cX7_caught 168 = .ok (.iload 9, 2) := by decide +kernel
theorem dX7_caught_170 : decode cX7_caught 170 = .ok (.ifCond .eq 11, 3) := by decide +kernel
theorem dX7_caught_173 : decode cX7_caught 173 = .ok (.bipush 10, 2) := by decide +kernel
theorem dX7_caught_175 : decode cX7_caught 175 = .ok (.iload_n 2, 1) := by decide +kernel
theorem dX7_caught_176 : decode cX7_caught 176 = .ok (.isub, 1) := by decide +kernel
theorem dX7_caught_177 : decode cX7_caught 177 = .ok (.i2l, 1) := by decide +kernel
theorem dX7_caught_178 : decode cX7_caught 178 = .ok (.goto 4, 3) := by decide +kernel
theorem dX7_caught_181 : decode cX7_caught 181 = .ok (.lconst 1, 1) := by decide +kernel
theorem dX7_caught_182 : decode cX7_caught 182 = .ok (.lmul, 1) := by decide +kernel
theorem dX7_caught_183 : decode cX7_caught 183 = .ok (.lstore 4, 2) := by decide +kernel
theorem dX7_caught_185 : decode cX7_caught 185 = .ok (.lload 6, 2) := by decide +kernel
theorem dX7_caught_187 : decode cX7_caught 187 = .ok (.iload 9, 2) := by decide +kernel
theorem dX7_caught_189 : decode cX7_caught 189 = .ok (.ifCond .eq 9, 3) := by decide +kernel
theorem dX7_caught_192 : decode cX7_caught 192 = .ok (.ldc2_w 232, 3) := by decide +kernel
theorem dX7_caught_195 : decode cX7_caught 195 = .ok (.goto 4, 3) := by decide +kernel
theorem dX7_caught_198 : decode cX7_caught 198 = .ok (.lconst 1, 1) := by decide +kernel
theorem dX7_caught_199 : decode cX7_caught 199 = .ok (.lmul, 1) := by decide +kernel
theorem dX7_caught_200 : decode cX7_caught 200 = .ok (.lstore 6, 2) := by decide +kernel
theorem dX7_caught_202 : decode cX7_caught 202 = .ok (.iinc 8 1, 3) := by decide +kernel
theorem dX7_caught_205 : decode cX7_caught 205 = .ok (.goto (-165), 3) := by decide +kernel
theorem dX7_caught_208 : decode cX7_caught 208 = .ok (.lload 4, 2) := by decide +kernel
theorem dX7_caught_210 : decode cX7_caught 210 = .ok (.lstore 8, 2) := by decide +kernel
theorem dX7_caught_212 : decode cX7_caught 212 = .ok (.lload 6, 2) := by decide +kernel
theorem dX7_caught_214 : decode cX7_caught 214 = .ok (.lstore 10, 2) := by decide +kernel
theorem dX7_caught_216 : decode cX7_caught 216 = .ok (.lload 10, 2) := by decide +kernel
theorem dX7_caught_218 : decode cX7_caught 218 = .ok (.lconst 0, 1) := by decide +kernel
theorem dX7_caught_219 : decode cX7_caught 219 = .ok (.lcmp, 1) := by decide +kernel
theorem dX7_caught_220 : decode cX7_caught 220 = .ok (.ifCond .eq 21, 3) := by decide +kernel
theorem dX7_caught_223 : decode cX7_caught 223 = .ok (.lload 8, 2) := by decide +kernel
theorem dX7_caught_225 : decode cX7_caught 225 = .ok (.lload 10, 2) := by decide +kernel
theorem dX7_caught_227 : decode cX7_caught 227 = .ok (.lrem, 1) := by decide +kernel
theorem dX7_caught_228 : decode cX7_caught 228 = .ok (.lstore 12, 2) := by decide +kernel
theorem dX7_caught_230 : decode cX7_caught 230 = .ok (.lload 10, 2) := by decide +kernel
theorem dX7_caught_232 : decode cX7_caught 232 = .ok (.lstore 8, 2) := by decide +kernel
theorem dX7_caught_234 : decode cX7_caught 234 = .ok (.lload 12, 2) := by decide +kernel
theorem dX7_caught_236 : decode cX7_caught 236 = .ok (.lstore 10, 2) := by decide +kernel
theorem dX7_caught_238 : decode cX7_caught 238 = .ok (.goto (-22), 3) := by decide +kernel
theorem dX7_caught_241 : decode cX7_caught 241 = .ok (.iload_n 3, 1) := by decide +kernel
theorem dX7_caught_242 : decode cX7_caught 242 = .ok (.ifCond .ne 11, 3) := by decide +kernel
theorem dX7_caught_245 : decode cX7_caught 245 = .ok (.lload 4, 2) := by decide +kernel
theorem dX7_caught_247 : decode cX7_caught 247 = .ok (.lload 8, 2) := by decide +kernel
theorem dX7_caught_249 : decode cX7_caught 249 = .ok (.ldiv, 1) := by decide +kernel
theorem dX7_caught_250 : decode cX7_caught 250 = .ok (.goto 8, 3) := by decide +kernel
theorem dX7_caught_253 : decode cX7_caught 253 = .ok (.lload 6, 2) := by decide +kernel
theorem dX7_caught_255 : decode cX7_caught 255 = .ok (.lload 8, 2) := by decide +kernel
theorem dX7_caught_257 : decode cX7_caught 257 = .ok (.ldiv, 1) := by decide +kernel
theorem dX7_caught_258 : decode cX7_caught 258 = .ok (.lreturn, 1) := by decide +kernel
theorem dX7_shown_0 : decode cX7_shown 0 = .ok (.aload_n 0, 1) := by decide +kernel
theorem dX7_shown_1 : decode cX7_shown 1 = .ok (.iload_n 1, 1) := by decide +kernel
theorem dX7_shown_2 : decode cX7_shown 2 = .ok (.iload_n 3, 1) := by decide +kernel
theorem dX7_shown_3 : decode cX7_shown 3 = .ok (.invokevirtual 190, 3) := by decide +kernel
theorem dX7_shown_6 : decode cX7_shown 6 = .ok (.ifCond .eq 15, 3) := by decide +kernel
theorem dX7_shown_9 : decode cX7_shown 9 = .ok (.iload_n 2, 1) := by decide +kernel
theorem dX7_shown_10 : decode cX7_shown 10 = .ok (.i2l, 1) := by decide +kernel
theorem dX7_shown_11 : decode cX7_shown 11 = .ok (.lconst 0, 1) := by decide +kernel
theorem dX7_shown_12 : decode cX7_shown 12 = .ok (.ldc2_w 234, 3) := by decide +kernel
theorem dX7_shown_15 : decode cX7_shown 15 = .ok (.invokestatic 67, 3) := by decide +kernel
theorem dX7_shown_18 : decode cX7_shown 18 = .ok (.ifCond .ne 5, 3) := by decide +kernel
theorem dX7_shown_21 : decode cX7_shown 21 = .ok (.iconst (-1), 1) := by decide +kernel
theorem dX7_shown_22 : decode cX7_shown 22 = .ok (.ireturn, 1) := by decide +kernel
theorem dX7_shown_23 : decode cX7_shown 23 = .ok (.aload_n 0, 1) := by decide +kernel
theorem dX7_shown_24 : decode cX7_shown 24 = .ok (.getfield 114, 3) := by decide +kernel
theorem dX7_shown_27 : decode cX7_shown 27 = .ok (.bipush 8, 2) := by decide +kernel
theorem dX7_shown_29 : decode cX7_shown 29 = .ok (.if_icmp .ne 6, 3) := by decide +kernel
theorem dX7_shown_32 : decode cX7_shown 32 = .ok (.bipush (-3), 2) := by decide +kernel
theorem dX7_shown_34 : decode cX7_shown 34 = .ok (.ireturn, 1) := by decide +kernel
theorem dX7_shown_35 : decode cX7_shown 35 = .ok (.aload_n 0, 1) := by decide +kernel
theorem dX7_shown_36 : decode cX7_shown 36 = .ok (.getfield 28, 3) := by decide +kernel
theorem dX7_shown_39 : decode cX7_shown 39 = .ok (.iconst 3, 1) := by decide +kernel
theorem dX7_shown_40 : decode cX7_shown 40 = .ok (.aload_n 0, 1) := by decide +kernel
theorem dX7_shown_41 : decode cX7_shown 41 = .ok (.getfield 114, 3) := by decide +kernel
theorem dX7_shown_44 : decode cX7_shown 44 = .ok (.imul, 1) := by decide +kernel
theorem dX7_shown_45 : decode cX7_shown 45 = .ok (.iload_n 1, 1) := by decide +kernel
theorem dX7_shown_46 : decode cX7_shown 46 = .ok (.iastore, 1) := by decide +kernel
theorem dX7_shown_47 : decode cX7_shown 47 = .ok (.aload_n 0, 1) := by decide +kernel
theorem dX7_shown_48 : decode cX7_shown 48 = .ok (.getfield 28, 3) := by decide +kernel
theorem dX7_shown_51 : decode cX7_shown 51 = .ok (.iconst 3, 1) := by decide +kernel
theorem dX7_shown_52 : decode cX7_shown 52 = .ok (.aload_n 0, 1) := by decide +kernel
theorem dX7_shown_53 : decode cX7_shown 53 = .ok (.getfield 114, 3) := by decide +kernel
theorem dX7_shown_56 : decode cX7_shown 56 = .ok (.imul, 1) := by decide +kernel
theorem dX7_shown_57 : decode cX7_shown 57 = .ok (.iconst 1, 1) := by decide +kernel
theorem dX7_shown_58 : decode cX7_shown 58 = .ok (.iadd, 1) := by decide +kernel
theorem dX7_shown_59 : decode cX7_shown 59 = .ok (.iload_n 2, 1) := by decide +kernel
theorem dX7_shown_60 : decode cX7_shown 60 = .ok (.iastore, 1) := by decide +kernel
theorem dX7_shown_61 : decode cX7_shown 61 = .ok (.aload_n 0, 1) := by decide +kernel
theorem dX7_shown_62 : decode cX7_shown 62 = .ok (.getfield 28, 3) := by decide +kernel
theorem dX7_shown_65 : decode cX7_shown 65 = .ok (.iconst 3, 1) := by decide +kernel
theorem dX7_shown_66 : decode cX7_shown 66 = .ok (.aload_n 0, 1) := by decide +kernel
theorem dX7_shown_67 : decode cX7_shown 67 = .ok (.getfield 114, 3) := by decide +kernel
theorem dX7_shown_70 : decode cX7_shown 70 = .ok (.imul, 1) := by decide +kernel
theorem dX7_shown_71 : decode cX7_shown 71 = .ok (.iconst 2, 1) := by decide +kernel
theorem dX7_shown_72 : decode cX7_shown 72 = .ok (.iadd, 1) := by decide +kernel
theorem dX7_shown_73 : decode cX7_shown 73 = .ok (.iload_n 3, 1) := by decide +kernel
theorem dX7_shown_74 : decode cX7_shown 74 = .ok (.iastore, 1) := by decide +kernel
theorem dX7_shown_75 : decode cX7_shown 75 = .ok (.aload_n 0, 1) := by decide +kernel
theorem dX7_shown_76 : decode cX7_shown 76 = .ok (.dup, 1) := by decide +kernel
theorem dX7_shown_77 : decode cX7_shown 77 = .ok (.getfield 114, 3) := by decide +kernel
theorem dX7_shown_80 : decode cX7_shown 80 = .ok (.iconst 1, 1) := by decide +kernel
theorem dX7_shown_81 : decode cX7_shown 81 = .ok (.iadd, 1) := by decide +kernel
theorem dX7_shown_82 : decode cX7_shown 82 = .ok (.putfield 114, 3) := by decide +kernel
theorem dX7_shown_85 : decode cX7_shown 85 = .ok (.aload_n 0, 1) := by decide +kernel
theorem dX7_shown_86 : decode cX7_shown 86 = .ok (.getfield 114, 3) := by decide +kernel
theorem dX7_shown_89 : decode cX7_shown 89 = .ok (.ireturn, 1) := by decide +kernel
theorem dX7_forget_0 : decode cX7_forget 0 = .ok (.aload_n 0, 1) := by decide +kernel
theorem dX7_forget_1 : decode cX7_forget 1 = .ok (.getfield 114, 3) := by decide +kernel
theorem dX7_forget_4 : decode cX7_forget 4 = .ok (.istore_n 1, 1) := by decide +kernel
theorem dX7_forget_5 : decode cX7_forget 5 = .ok (.aload_n 0, 1) := by decide +kernel
theorem dX7_forget_6 : decode cX7_forget 6 = .ok (.iconst 0, 1) := by decide +kernel
theorem dX7_forget_7 : decode cX7_forget 7 = .ok (.putfield 114, 3) := by decide +kernel
theorem dX7_forget_10 : decode cX7_forget 10 = .ok (.iload_n 1, 1) := by decide +kernel
theorem dX7_forget_11 : decode cX7_forget 11 = .ok (.ireturn, 1) := by decide +kernel
theorem dX7_behind_0 : decode cX7_behind 0 = .ok (.aload_n 0, 1) := by decide +kernel
theorem dX7_behind_1 : decode cX7_behind 1 = .ok (.getfield 7, 3) := by decide +kernel
theorem dX7_behind_4 : decode cX7_behind 4 = .ok (.bipush 13, 2) := by decide +kernel
theorem dX7_behind_6 : decode cX7_behind 6 = .ok (.iload_n 1, 1) := by decide +kernel
theorem dX7_behind_7 : decode cX7_behind 7 = .ok (.iadd, 1) := by decide +kernel
theorem dX7_behind_8 : decode cX7_behind 8 = .ok (.iaload, 1) := by decide +kernel
theorem dX7_behind_9 : decode cX7_behind 9 = .ok (.iload_n 2, 1) := by decide +kernel
theorem dX7_behind_10 : decode cX7_behind 10 = .ok (.iload_n 3, 1) := by decide +kernel
theorem dX7_behind_11 : decode cX7_behind 11 = .ok (.imul, 1) := by decide +kernel
theorem dX7_behind_12 : decode cX7_behind 12 = .ok (.iadd, 1) := by decide +kernel
theorem dX7_behind_13 : decode cX7_behind 13 = .ok (.aload_n 0, 1) := by decide +kernel
theorem dX7_behind_14 : decode cX7_behind 14 = .ok (.getfield 7, 3) := by decide +kernel
theorem dX7_behind_17 : decode cX7_behind 17 = .ok (.iconst 5, 1) := by decide +kernel
theorem dX7_behind_18 : decode cX7_behind 18 = .ok (.iload_n 1, 1) := by decide +kernel
theorem dX7_behind_19 : decode cX7_behind 19 = .ok (.iadd, 1) := by decide +kernel
theorem dX7_behind_20 : decode cX7_behind 20 = .ok (.iaload, 1) := by decide +kernel
theorem dX7_behind_21 : decode cX7_behind 21 = .ok (.irem, 1) := by decide +kernel
theorem dX7_behind_22 : decode cX7_behind 22 = .ok (.ireturn, 1) := by decide +kernel
theorem dX7_gearsOf_0 : decode cX7_gearsOf 0 = .ok (.iconst 0, 1) := by decide +kernel
theorem dX7_gearsOf_1 : decode cX7_gearsOf 1 = .ok (.istore_n 2, 1) := by decide +kernel
theorem dX7_gearsOf_2 : decode cX7_gearsOf 2 = .ok (.iconst 0, 1) := by decide +kernel
theorem dX7_gearsOf_3 : decode cX7_gearsOf 3 = .ok (.istore_n 3, 1) := by decide +kernel
theorem dX7_gearsOf_4 : decode cX7_gearsOf 4 = .ok (.iload_n 3, 1) := by decide +kernel
theorem dX7_gearsOf_5 : decode cX7_gearsOf 5 = .ok (.aload_n 0, 1) := by decide +kernel
theorem dX7_gearsOf_6 : decode cX7_gearsOf 6 = .ok (.getfield 7, 3) := by decide +kernel
theorem dX7_gearsOf_9 : decode cX7_gearsOf 9 = .ok (.iconst 5, 1) := by decide +kernel
theorem dX7_gearsOf_10 : decode cX7_gearsOf 10 = .ok (.iload_n 1, 1) := by decide +kernel
theorem dX7_gearsOf_11 : decode cX7_gearsOf 11 = .ok (.iadd, 1) := by decide +kernel
theorem dX7_gearsOf_12 : decode cX7_gearsOf 12 = .ok (.iaload, 1) := by decide +kernel
theorem dX7_gearsOf_13 : decode cX7_gearsOf 13 = .ok (.if_icmp .ge 101, 3) := by decide +kernel
theorem dX7_gearsOf_16 : decode cX7_gearsOf 16 = .ok (.iconst 1, 1) := by decide +kernel
theorem dX7_gearsOf_17 : decode cX7_gearsOf 17 = .ok (.istore 4, 2) := by decide +kernel
theorem dX7_gearsOf_19 : decode cX7_gearsOf 19 = .ok (.iconst 0, 1) := by decide +kernel
theorem dX7_gearsOf_20 : decode cX7_gearsOf 20 = .ok (.istore 5, 2) := by decide +kernel
theorem dX7_gearsOf_22 : decode cX7_gearsOf 22 = .ok (.iload 5, 2) := by decide +kernel
theorem dX7_gearsOf_24 : decode cX7_gearsOf 24 = .ok (.aload_n 0, 1) := by decide +kernel
theorem dX7_gearsOf_25 : decode cX7_gearsOf 25 = .ok (.getfield 114, 3) := by decide +kernel
theorem dX7_gearsOf_28 : decode cX7_gearsOf 28 = .ok (.if_icmp .ge 65, 3) := by decide +kernel
theorem dX7_gearsOf_31 : decode cX7_gearsOf 31 = .ok (.iload 4, 2) := by decide +kernel
theorem dX7_gearsOf_33 : decode cX7_gearsOf 33 = .ok (.ifCond .eq 51, 3) := by decide +kernel
theorem dX7_gearsOf_36 : decode cX7_gearsOf 36 = .ok (.aload_n 0, 1) := by decide +kernel
theorem dX7_gearsOf_37 : decode cX7_gearsOf 37 = .ok (.getfield 28, 3) := by decide +kernel
theorem dX7_gearsOf_40 : decode cX7_gearsOf 40 = .ok (.iconst 3, 1) := by decide +kernel
theorem dX7_gearsOf_41 : decode cX7_gearsOf 41 = .ok (.iload 5, 2) := by decide +kernel
theorem dX7_gearsOf_43 : decode cX7_gearsOf 43 = .ok (.imul, 1) := by decide +kernel
theorem dX7_gearsOf_44 : decode cX7_gearsOf 44 = .ok (.iaload, 1) := by decide +kernel
theorem dX7_gearsOf_45 : decode cX7_gearsOf 45 = .ok (.iload_n 1, 1) := by decide +kernel
theorem dX7_gearsOf_46 : decode cX7_gearsOf 46 = .ok (.if_icmp .ne 34, 3) := by decide +kernel
theorem dX7_gearsOf_49 : decode cX7_gearsOf 49 = .ok (.aload_n 0, 1) := by decide +kernel
theorem dX7_gearsOf_50 : decode cX7_gearsOf 50 = .ok (.iload_n 1, 1) := by decide +kernel
theorem dX7_gearsOf_51 : decode cX7_gearsOf 51 = .ok (.iload_n 3, 1) := by decide +kernel
theorem dX7_gearsOf_52 : decode cX7_gearsOf 52 = .ok (.aload_n 0, 1) := by decide +kernel
theorem dX7_gearsOf_53 : decode cX7_gearsOf 53 = .ok (.getfield 28, 3) := by decide +kernel
theorem dX7_gearsOf_56 : decode cX7_gearsOf 56 = .ok (.iconst 3, 1) := by decide +kernel
theorem dX7_gearsOf_57 : decode cX7_gearsOf 57 = .ok (.iload 5, 2) := by decide +kernel
theorem dX7_gearsOf_59 : decode cX7_gearsOf 59 = .ok (.imul, 1) := by decide +kernel
theorem dX7_gearsOf_60 : decode cX7_gearsOf 60 = .ok (.iconst 1, 1) := by decide +kernel
theorem dX7_gearsOf_61 : decode cX7_gearsOf 61 = .ok (.iadd, 1) := by decide +kernel
theorem dX7_gearsOf_62 : decode cX7_gearsOf 62 = .ok (.iaload, 1) := by decide +kernel
theorem dX7_gearsOf_63 : decode cX7_gearsOf 63 = .ok (.invokevirtual 236, 3) := by decide +kernel
theorem dX7_gearsOf_66 : decode cX7_gearsOf 66 = .ok (.aload_n 0, 1) := by decide +kernel
theorem dX7_gearsOf_67 : decode cX7_gearsOf 67 = .ok (.getfield 28, 3) := by decide +kernel
theorem dX7_gearsOf_70 : decode cX7_gearsOf 70 = .ok (.iconst 3, 1) := by decide +kernel
theorem dX7_gearsOf_71 : decode cX7_gearsOf 71 = .ok (.iload 5, 2) := by decide +kernel
theorem dX7_gearsOf_73 : decode cX7_gearsOf 73 = .ok (.imul, 1) := by decide +kernel
theorem dX7_gearsOf_74 : decode cX7_gearsOf 74 = .ok (.iconst 2, 1) := by decide +kernel
theorem dX7_gearsOf_75 : decode cX7_gearsOf 75 = .ok (.iadd, 1) := by decide +kernel
theorem dX7_gearsOf_76 : decode cX7_gearsOf 76 = .ok (.iaload, 1) := by decide +kernel
theorem dX7_gearsOf_77 : decode cX7_gearsOf 77 = .ok (.if_icmp .ne 7, 3) := by decide +kernel
theorem dX7_gearsOf_80 : decode cX7_gearsOf 80 = .ok (.iconst 1, 1) := by decide +kernel
theorem dX7_gearsOf_81 : decode cX7_gearsOf 81 = .ok (.goto 4, 3) := by decide +kernel
theorem dX7_gearsOf_84 : decode cX7_gearsOf 84 = .ok (.iconst 0, 1) := by decide +kernel
theorem dX7_gearsOf_85 : decode cX7_gearsOf 85 = .ok (.istore 4, 2) := by decide +kernel
theorem dX7_gearsOf_87 : decode cX7_gearsOf 87 = .ok (.iinc 5 1, 3) := by decide +kernel
theorem dX7_gearsOf_90 : decode cX7_gearsOf 90 = .ok (.goto (-68), 3) := by decide +kernel
theorem dX7_gearsOf_93 : decode cX7_gearsOf 93 = .ok (.iload_n 2, 1) := by decide +kernel
theorem dX7_gearsOf_94 : decode cX7_gearsOf 94 = .ok (.iload 4, 2) := by decide +kernel
theorem dX7_gearsOf_96 : decode cX7_gearsOf 96 = .ok (.ifCond .eq 9, 3) := by decide +kernel
theorem dX7_gearsOf_99 : decode cX7_gearsOf 99 = .ok (.iconst 1, 1) := by decide +kernel
theorem dX7_gearsOf_100 : decode cX7_gearsOf 100 = .ok (.iload_n 3, 1) := by decide +kernel
theorem dX7_gearsOf_101 : decode cX7_gearsOf 101 = .ok (.ishl, 1) := by decide +kernel
theorem dX7_gearsOf_102 : decode cX7_gearsOf 102 = .ok (.goto 4, 3) := by decide +kernel
theorem dX7_gearsOf_105 : decode cX7_gearsOf 105 = .ok (.iconst 0, 1) := by decide +kernel
theorem dX7_gearsOf_106 : decode cX7_gearsOf 106 = .ok (.ior, 1) := by decide +kernel
theorem dX7_gearsOf_107 : decode cX7_gearsOf 107 = .ok (.istore_n 2, 1) := by decide +kernel
theorem dX7_gearsOf_108 : decode cX7_gearsOf 108 = .ok (.iinc 3 1, 3) := by decide +kernel
theorem dX7_gearsOf_111 : decode cX7_gearsOf 111 = .ok (.goto (-107), 3) := by decide +kernel
theorem dX7_gearsOf_114 : decode cX7_gearsOf 114 = .ok (.iload_n 2, 1) := by decide +kernel
theorem dX7_gearsOf_115 : decode cX7_gearsOf 115 = .ok (.ireturn, 1) := by decide +kernel
theorem dX7_gears_0 : decode cX7_gears 0 = .ok (.aload_n 0, 1) := by decide +kernel
theorem dX7_gears_1 : decode cX7_gears 1 = .ok (.iload_n 1, 1) := by decide +kernel
theorem dX7_gears_2 : decode cX7_gears 2 = .ok (.invokevirtual 127, 3) := by decide +kernel
theorem dX7_gears_5 : decode cX7_gears 5 = .ok (.ifCond .eq 11, 3) := by decide +kernel
theorem dX7_gears_8 : decode cX7_gears 8 = .ok (.aload_n 0, 1) := by decide +kernel
theorem dX7_gears_9 : decode cX7_gears 9 = .ok (.iload_n 1, 1) := by decide +kernel
theorem dX7_gears_10 : decode cX7_gears 10 = .ok (.invokevirtual 240, 3) := by decide +kernel
theorem dX7_gears_13 : decode cX7_gears 13 = .ok (.goto 4, 3) := by decide +kernel
theorem dX7_gears_16 : decode cX7_gears 16 = .ok (.iconst (-1), 1) := by decide +kernel
theorem dX7_gears_17 : decode cX7_gears 17 = .ok (.ireturn, 1) := by decide +kernel
theorem dX7_worst_0 : decode cX7_worst 0 = .ok (.iconst 0, 1) := by decide +kernel
theorem dX7_worst_1 : decode cX7_worst 1 = .ok (.istore 4, 2) := by decide +kernel
theorem dX7_worst_3 : decode cX7_worst 3 = .ok (.iconst 0, 1) := by decide +kernel
theorem dX7_worst_4 : decode cX7_worst 4 = .ok (.istore 5, 2) := by decide +kernel
theorem dX7_worst_6 : decode cX7_worst 6 = .ok (.iload 5, 2) := by decide +kernel
theorem dX7_worst_8 : decode cX7_worst 8 = .ok (.aload_n 0, 1) := by decide +kernel
theorem dX7_worst_9 : decode cX7_worst 9 = .ok (.getfield 7, 3) := by decide +kernel
theorem dX7_worst_12 : decode cX7_worst 12 = .ok (.iconst 5, 1) := by decide +kernel
theorem dX7_worst_13 : decode cX7_worst 13 = .ok (.iload_n 1, 1) := by decide +kernel
theorem dX7_worst_14 : decode cX7_worst 14 = .ok (.iadd, 1) := by decide +kernel
theorem dX7_worst_15 : decode cX7_worst 15 = .ok (.iaload, 1) := by decide +kernel
theorem dX7_worst_16 : decode cX7_worst 16 = .ok (.if_icmp .ge 82, 3) := by decide +kernel
theorem dX7_worst_19 : decode cX7_worst 19 = .ok (.iconst 0, 1) := by decide +kernel
theorem dX7_worst_20 : decode cX7_worst 20 = .ok (.istore 6, 2) := by decide +kernel
theorem dX7_worst_22 : decode cX7_worst 22 = .ok (.iconst 0, 1) := by decide +kernel
theorem dX7_worst_23 : decode cX7_worst 23 = .ok (.istore 7, 2) := by decide +kernel
theorem dX7_worst_25 : decode cX7_worst 25 = .ok (.iload 7, 2) := by decide +kernel
theorem dX7_worst_27 : decode cX7_worst 27 = .ok (.aload_n 0, 1) := by decide +kernel
theorem dX7_worst_28 : decode cX7_worst 28 = .ok (.getfield 7, 3) := by decide +kernel
theorem dX7_worst_31 : decode cX7_worst 31 = .ok (.iconst 5, 1) := by decide +kernel
theorem dX7_worst_32 : decode cX7_worst 32 = .ok (.iload_n 1, 1) := by decide +kernel
theorem dX7_worst_33 : decode cX7_worst 33 = .ok (.iadd, 1) := by decide +kernel
theorem dX7_worst_34 : decode cX7_worst 34 = .ok (.iaload, 1) := by decide +kernel
theorem dX7_worst_35 : decode cX7_worst 35 = .ok (.if_icmp .ge 41, 3) := by decide +kernel
theorem dX7_worst_38 : decode cX7_worst 38 = .ok (.iload 6, 2) := by decide +kernel
theorem dX7_worst_40 : decode cX7_worst 40 = .ok (.iload_n 2, 1) := by decide +kernel
theorem dX7_worst_41 : decode cX7_worst 41 = .ok (.iload 7, 2) := by decide +kernel
theorem dX7_worst_43 : decode cX7_worst 43 = .ok (.invokestatic 137, 3) := by decide +kernel
theorem dX7_worst_46 : decode cX7_worst 46 = .ok (.ifCond .eq 20, 3) := by decide +kernel
theorem dX7_worst_49 : decode cX7_worst 49 = .ok (.aload_n 0, 1) := by decide +kernel
theorem dX7_worst_50 : decode cX7_worst 50 = .ok (.iload_n 1, 1) := by decide +kernel
theorem dX7_worst_51 : decode cX7_worst 51 = .ok (.iload 7, 2) := by decide +kernel
theorem dX7_worst_53 : decode cX7_worst 53 = .ok (.iload_n 3, 1) := by decide +kernel
theorem dX7_worst_54 : decode cX7_worst 54 = .ok (.invokevirtual 236, 3) := by decide +kernel
theorem dX7_worst_57 : decode cX7_worst 57 = .ok (.iload 5, 2) := by decide +kernel
theorem dX7_worst_59 : decode cX7_worst 59 = .ok (.if_icmp .ne 7, 3) := by decide +kernel
theorem dX7_worst_62 : decode cX7_worst 62 = .ok (.iconst 1, 1) := by decide +kernel
theorem dX7_worst_63 : decode cX7_worst 63 = .ok (.goto 4, 3) := by decide +kernel
theorem dX7_worst_66 : decode cX7_worst 66 = .ok (.iconst 0, 1) := by decide +kernel
theorem dX7_worst_67 : decode cX7_worst 67 = .ok (.iadd, 1) := by decide +kernel
theorem dX7_worst_68 : decode cX7_worst 68 = .ok (.istore 6, 2) := by decide +kernel
theorem dX7_worst_70 : decode cX7_worst 70 = .ok (.iinc 7 1, 3) := by decide +kernel
theorem dX7_worst_73 : decode cX7_worst 73 = .ok (.goto (-48), 3) := by decide +kernel
theorem dX7_worst_76 : decode cX7_worst 76 = .ok (.iload 6, 2) := by decide +kernel
theorem dX7_worst_78 : decode cX7_worst 78 = .ok (.iload 4, 2) := by decide +kernel
theorem dX7_worst_80 : decode cX7_worst 80 = .ok (.if_icmp .le 8, 3) := by decide +kernel
theorem dX7_worst_83 : decode cX7_worst 83 = .ok (.iload 6, 2) := by decide +kernel
theorem dX7_worst_85 : decode cX7_worst 85 = .ok (.goto 5, 3) := by decide +kernel
theorem dX7_worst_88 : decode cX7_worst 88 = .ok (.iload 4, 2) := by decide +kernel
theorem dX7_worst_90 : decode cX7_worst 90 = .ok (.istore 4, 2) := by decide +kernel
theorem dX7_worst_92 : decode cX7_worst 92 = .ok (.iinc 5 1, 3) := by decide +kernel
theorem dX7_worst_95 : decode cX7_worst 95 = .ok (.goto (-89), 3) := by decide +kernel
theorem dX7_worst_98 : decode cX7_worst 98 = .ok (.iload 4, 2) := by decide +kernel
theorem dX7_worst_100 : decode cX7_worst 100 = .ok (.ireturn, 1) := by decide +kernel
theorem dX7_ask_0 : decode cX7_ask 0 = .ok (.aload_n 0, 1) := by decide +kernel
theorem dX7_ask_1 : decode cX7_ask 1 = .ok (.iload_n 1, 1) := by decide +kernel
theorem dX7_ask_2 : decode cX7_ask 2 = .ok (.invokevirtual 127, 3) := by decide +kernel
theorem dX7_ask_5 : decode cX7_ask 5 = .ok (.ifCond .eq 10, 3) := by decide +kernel
theorem dX7_ask_8 : decode cX7_ask 8 = .ok (.iload_n 2, 1) := by decide +kernel
theorem dX7_ask_9 : decode cX7_ask 9 = .ok (.invokestatic 198, 3) := by decide +kernel
theorem dX7_ask_12 : decode cX7_ask 12 = .ok (.ifCond .ne 5, 3) := by decide +kernel
theorem dX7_ask_15 : decode cX7_ask 15 = .ok (.iconst (-1), 1) := by decide +kernel
theorem dX7_ask_16 : decode cX7_ask 16 = .ok (.ireturn, 1) := by decide +kernel
theorem dX7_ask_17 : decode cX7_ask 17 = .ok (.aload_n 0, 1) := by decide +kernel
theorem dX7_ask_18 : decode cX7_ask 18 = .ok (.iload_n 1, 1) := by decide +kernel
theorem dX7_ask_19 : decode cX7_ask 19 = .ok (.invokevirtual 240, 3) := by decide +kernel
theorem dX7_ask_22 : decode cX7_ask 22 = .ok (.istore_n 3, 1) := by decide +kernel
theorem dX7_ask_23 : decode cX7_ask 23 = .ok (.iload_n 3, 1) := by decide +kernel
theorem dX7_ask_24 : decode cX7_ask 24 = .ok (.ifCond .ne 6, 3) := by decide +kernel
theorem dX7_ask_27 : decode cX7_ask 27 = .ok (.bipush (-4), 2) := by decide +kernel
theorem dX7_ask_29 : decode cX7_ask 29 = .ok (.ireturn, 1) := by decide +kernel
theorem dX7_ask_30 : decode cX7_ask 30 = .ok (.iconst 0, 1) := by decide +kernel
theorem dX7_ask_31 : decode cX7_ask 31 = .ok (.istore 4, 2) := by decide +kernel
theorem dX7_ask_33 : decode cX7_ask 33 = .ok (.ldc 243, 2) := by decide +kernel
theorem dX7_ask_35 : decode cX7_ask 35 = .ok (.istore 5, 2) := by decide +kernel
theorem dX7_ask_37 : decode cX7_ask 37 = .ok (.iconst 1, 1) := by decide +kernel
theorem dX7_ask_38 : decode cX7_ask 38 = .ok (.istore 6, 2) := by decide +kernel
theorem dX7_ask_40 : decode cX7_ask 40 = .ok (.iload 6, 2) := by decide +kernel
theorem dX7_ask_42 : decode cX7_ask 42 = .ok (.bipush 10, 2) := by decide +kernel
theorem dX7_ask_44 : decode cX7_ask 44 = .ok (.if_icmp .ge 51, 3) := by decide +kernel
theorem dX7_ask_47 : decode cX7_ask 47 = .ok (.aload_n 0, 1) := by decide +kernel
theorem dX7_ask_48 : decode cX7_ask 48 = .ok (.iload_n 1, 1) := by decide +kernel
theorem dX7_ask_49 : decode cX7_ask 49 = .ok (.iload_n 3, 1) := by decide +kernel
theorem dX7_ask_50 : decode cX7_ask 50 = .ok (.iload 6, 2) := by decide +kernel
theorem dX7_ask_52 : decode cX7_ask 52 = .ok (.invokevirtual 244, 3) := by decide +kernel
theorem dX7_ask_55 : decode cX7_ask 55 = .ok (.istore 7, 2) := by decide +kernel
theorem dX7_ask_57 : decode cX7_ask 57 = .ok (.iload 7, 2) := by decide +kernel
theorem dX7_ask_59 : decode cX7_ask 59 = .ok (.iload 5, 2) := by decide +kernel
theorem dX7_ask_61 : decode cX7_ask 61 = .ok (.if_icmp .ge 8, 3) := by decide +kernel
theorem dX7_ask_64 : decode cX7_ask 64 = .ok (.iload 6, 2) := by decide +kernel
theorem dX7_ask_66 : decode cX7_ask 66 = .ok (.goto 5, 3) := by decide +kernel
theorem dX7_ask_69 : decode cX7_ask 69 = .ok (.iload 4, 2) := by decide +kernel
theorem dX7_ask_71 : decode cX7_ask 71 = .ok (.istore 4, 2) := by decide +kernel
theorem dX7_ask_73 : decode cX7_ask 73 = .ok (.iload 7, 2) := by decide +kernel
theorem dX7_ask_75 : decode cX7_ask 75 = .ok (.iload 5, 2) := by decide +kernel
theorem dX7_ask_77 : decode cX7_ask 77 = .ok (.if_icmp .ge 8, 3) := by decide +kernel
theorem dX7_ask_80 : decode cX7_ask 80 = .ok (.iload 7, 2) := by decide +kernel
theorem dX7_ask_82 : decode cX7_ask 82 = .ok (.goto 5, 3) := by decide +kernel
theorem dX7_ask_85 : decode cX7_ask 85 = .ok (.iload 5, 2) := by decide +kernel
theorem dX7_ask_87 : decode cX7_ask 87 = .ok (.istore 5, 2) := by decide +kernel
theorem dX7_ask_89 : decode cX7_ask 89 = .ok (.iinc 6 1, 3) := by decide +kernel
theorem dX7_ask_92 : decode cX7_ask 92 = .ok (.goto (-52), 3) := by decide +kernel
theorem dX7_ask_95 : decode cX7_ask 95 = .ok (.iload_n 2, 1) := by decide +kernel
theorem dX7_ask_96 : decode cX7_ask 96 = .ok (.ifCond .ne 8, 3) := by decide +kernel
theorem dX7_ask_99 : decode cX7_ask 99 = .ok (.iload 4, 2) := by decide +kernel
theorem dX7_ask_101 : decode cX7_ask 101 = .ok (.goto 5, 3) := by decide +kernel
theorem dX7_ask_104 : decode cX7_ask 104 = .ok (.iload 5, 2) := by decide +kernel
theorem dX7_ask_106 : decode cX7_ask 106 = .ok (.ireturn, 1) := by decide +kernel
theorem dX7_sell_0 : decode cX7_sell 0 = .ok (.iload_n 1, 1) := by decide +kernel
theorem dX7_sell_1 : decode cX7_sell 1 = .ok (.invokestatic 198, 3) := by decide +kernel
theorem dX7_sell_4 : decode cX7_sell 4 = .ok (.ifCond .ne 5, 3) := by decide +kernel
theorem dX7_sell_7 : decode cX7_sell 7 = .ok (.iconst (-1), 1) := by decide +kernel
theorem dX7_sell_8 : decode cX7_sell 8 = .ok (.ireturn, 1) := by decide +kernel
theorem dX7_sell_9 : decode cX7_sell 9 = .ok (.aload_n 0, 1) := by decide +kernel
theorem dX7_sell_10 : decode cX7_sell 10 = .ok (.invokevirtual 201, 3) := by decide +kernel
theorem dX7_sell_13 : decode cX7_sell 13 = .ok (.iconst 0, 1) := by decide +kernel
theorem dX7_sell_14 : decode cX7_sell 14 = .ok (.istore_n 2, 1) := by decide +kernel
theorem dX7_sell_15 : decode cX7_sell 15 = .ok (.iconst (-1), 1) := by decide +kernel
theorem dX7_sell_16 : decode cX7_sell 16 = .ok (.istore_n 3, 1) := by decide +kernel
theorem dX7_sell_17 : decode cX7_sell 17 = .ok (.iconst 0, 1) := by decide +kernel
theorem dX7_sell_18 : decode cX7_sell 18 = .ok (.istore 4, 2) := by decide +kernel
theorem dX7_sell_20 : decode cX7_sell 20 = .ok (.iconst 0, 1) := by decide +kernel
theorem dX7_sell_21 : decode cX7_sell 21 = .ok (.istore 5, 2) := by decide +kernel
theorem dX7_sell_23 : decode cX7_sell 23 = .ok (.iload 5, 2) := by decide +kernel
theorem dX7_sell_25 : decode cX7_sell 25 = .ok (.bipush 40, 2) := by decide +kernel
theorem dX7_sell_27 : decode cX7_sell 27 = .ok (.if_icmp .gt 116, 3) := by decide +kernel
theorem dX7_sell_30 : decode cX7_sell 30 = .ok (.aload_n 0, 1) := by decide +kernel
theorem dX7_sell_31 : decode cX7_sell 31 = .ok (.getfield 7, 3) := by decide +kernel
theorem dX7_sell_34 : decode cX7_sell 34 = .ok (.iconst 4, 1) := by decide +kernel
theorem dX7_sell_35 : decode cX7_sell 35 = .ok (.iaload, 1) := by decide +kernel
theorem dX7_sell_36 : decode cX7_sell 36 = .ok (.i2l, 1) := by decide +kernel
theorem dX7_sell_37 : decode cX7_sell 37 = .ok (.aload_n 0, 1) := by decide +kernel
theorem dX7_sell_38 : decode cX7_sell 38 = .ok (.getfield 7, 3) := by decide +kernel
theorem dX7_sell_41 : decode cX7_sell 41 = .ok (.iconst 3, 1) := by decide +kernel
theorem dX7_sell_42 : decode cX7_sell 42 = .ok (.iaload, 1) := by decide +kernel
theorem dX7_sell_43 : decode cX7_sell 43 = .ok (.i2l, 1) := by decide +kernel
theorem dX7_sell_44 : decode cX7_sell 44 = .ok (.aload_n 0, 1) := by decide +kernel
theorem dX7_sell_45 : decode cX7_sell 45 = .ok (.getfield 37, 3) := by decide +kernel
theorem dX7_sell_48 : decode cX7_sell 48 = .ok (.iconst 1, 1) := by decide +kernel
theorem dX7_sell_49 : decode cX7_sell 49 = .ok (.iaload, 1) := by decide +kernel
theorem dX7_sell_50 : decode cX7_sell 50 = .ok (.i2l, 1) := by decide +kernel
theorem dX7_sell_51 : decode cX7_sell 51 = .ok (.lmul, 1) := by decide +kernel
theorem dX7_sell_52 : decode cX7_sell 52 = .ok (.lsub, 1) := by decide +kernel
theorem dX7_sell_53 : decode cX7_sell 53 = .ok (.lstore 6, 2) := by decide +kernel
theorem dX7_sell_55 : decode cX7_sell 55 = .ok (.lload 6, 2) := by decide +kernel
theorem dX7_sell_57 : decode cX7_sell 57 = .ok (.lconst 0, 1) := by decide +kernel
theorem dX7_sell_58 : decode cX7_sell 58 = .ok (.lcmp, 1) := by decide +kernel
theorem dX7_sell_59 : decode cX7_sell 59 = .ok (.ifCond .ge 7, 3) := by decide +kernel
theorem dX7_sell_62 : decode cX7_sell 62 = .ok (.iconst 0, 1) := by decide +kernel
theorem dX7_sell_63 : decode cX7_sell 63 = .ok (.goto 6, 3) := by decide +kernel
theorem dX7_sell_66 : decode cX7_sell 66 = .ok (.lload 6, 2) := by decide +kernel
theorem dX7_sell_68 : decode cX7_sell 68 = .ok (.l2i, 1) := by decide +kernel
theorem dX7_sell_69 : decode cX7_sell 69 = .ok (.iload 4, 2) := by decide +kernel
theorem dX7_sell_71 : decode cX7_sell 71 = .ok (.iadd, 1) := by decide +kernel
theorem dX7_sell_72 : decode cX7_sell 72 = .ok (.istore 8, 2) := by decide +kernel
theorem dX7_sell_74 : decode cX7_sell 74 = .ok (.iload 8, 2) := by decide +kernel
theorem dX7_sell_76 : decode cX7_sell 76 = .ok (.iload_n 3, 1) := by decide +kernel
theorem dX7_sell_77 : decode cX7_sell 77 = .ok (.if_icmp .le 8, 3) := by decide +kernel
theorem dX7_sell_80 : decode cX7_sell 80 = .ok (.iload 5, 2) := by decide +kernel
theorem dX7_sell_82 : decode cX7_sell 82 = .ok (.goto 4, 3) := by decide +kernel
theorem dX7_sell_85 : decode cX7_sell 85 = .ok (.iload_n 2, 1) := by decide +kernel
theorem dX7_sell_86 : decode cX7_sell 86 = .ok (.istore_n 2, 1) := by decide +kernel
theorem dX7_sell_87 : decode cX7_sell 87 = .ok (.iload 8, 2) := by decide +kernel
theorem dX7_sell_89 : decode cX7_sell 89 = .ok (.iload_n 3, 1) := by decide +kernel
theorem dX7_sell_90 : decode cX7_sell 90 = .ok (.if_icmp .le 8, 3) := by decide +kernel
theorem dX7_sell_93 : decode cX7_sell 93 = .ok (.iload 8, 2) := by decide +kernel
theorem dX7_sell_95 : decode cX7_sell 95 = .ok (.goto 4, 3) := by decide +kernel
theorem dX7_sell_98 : decode cX7_sell 98 = .ok (.iload_n 3, 1) := by decide +kernel
theorem dX7_sell_99 : decode cX7_sell 99 = .ok (.istore_n 3, 1) := by decide +kernel
theorem dX7_sell_100 : decode cX7_sell 100 = .ok (.aload_n 0, 1) := by decide +kernel
theorem dX7_sell_101 : decode cX7_sell 101 = .ok (.aload_n 0, 1) := by decide +kernel
theorem dX7_sell_102 : decode cX7_sell 102 = .ok (.getfield 37, 3) := by decide +kernel
theorem dX7_sell_105 : decode cX7_sell 105 = .ok (.invokevirtual 144, 3) := by decide +kernel
theorem dX7_sell_108 : decode cX7_sell 108 = .ok (.iload 4, 2) := by decide +kernel
theorem dX7_sell_110 : decode cX7_sell 110 = .ok (.aload_n 0, 1) := by decide +kernel
theorem dX7_sell_111 : decode cX7_sell 111 = .ok (.aload_n 0, 1) := by decide +kernel
theorem dX7_sell_112 : decode cX7_sell 112 = .ok (.getfield 16, 3) := by decide +kernel
theorem dX7_sell_115 : decode cX7_sell 115 = .ok (.aload_n 0, 1) := by decide +kernel
theorem dX7_sell_116 : decode cX7_sell 116 = .ok (.aload_n 0, 1) := by decide +kernel
theorem dX7_sell_117 : decode cX7_sell 117 = .ok (.getfield 37, 3) := by decide +kernel
theorem dX7_sell_120 : decode cX7_sell 120 = .ok (.invokevirtual 148, 3) := by decide +kernel
theorem dX7_sell_123 : decode cX7_sell 123 = .ok (.invokevirtual 152, 3) := by decide +kernel
theorem dX7_sell_126 : decode cX7_sell 126 = .ok (.ifCond .eq 7, 3) := by decide +kernel
theorem dX7_sell_129 : decode cX7_sell 129 = .ok (.iconst 1, 1) := by decide +kernel
theorem dX7_sell_130 : decode cX7_sell 130 = .ok (.goto 4, 3) := by decide +kernel
theorem dX7_sell_133 : decode cX7_sell 133 = .ok (.iconst 0, 1) := by decide +kernel
theorem dX7_sell_134 : decode cX7_sell 134 = .ok (.iadd, 1) := by decide +kernel
theorem dX7_sell_135 : decode cX7_sell 135 = .ok (.istore 4, 2) := by decide +kernel
theorem dX7_sell_137 : decode cX7_sell 137 = .ok (.iinc 5 1, 3) := by decide +kernel
theorem dX7_sell_140 : decode cX7_sell 140 = .ok (.goto (-117), 3) := by decide +kernel
theorem dX7_sell_143 : decode cX7_sell 143 = .ok (.iload_n 1, 1) := by decide +kernel
theorem dX7_sell_144 : decode cX7_sell 144 = .ok (.ifCond .ne 7, 3) := by decide +kernel
theorem dX7_sell_147 : decode cX7_sell 147 = .ok (.iload_n 2, 1) := by decide +kernel
theorem dX7_sell_148 : decode cX7_sell 148 = .ok (.goto 4, 3) := by decide +kernel
theorem dX7_sell_151 : decode cX7_sell 151 = .ok (.iload_n 3, 1) := by decide +kernel
theorem dX7_sell_152 : decode cX7_sell 152 = .ok (.ireturn, 1) := by decide +kernel
theorem dX7_year_0 : decode cX7_year 0 = .ok (.iload_n 1, 1) := by decide +kernel
theorem dX7_year_1 : decode cX7_year 1 = .ok (.i2l, 1) := by decide +kernel
theorem dX7_year_2 : decode cX7_year 2 = .ok (.lconst 0, 1) := by decide +kernel
theorem dX7_year_3 : decode cX7_year 3 = .ok (.ldc2_w 196, 3) := by decide +kernel
theorem dX7_year_6 : decode cX7_year 6 = .ok (.invokestatic 67, 3) := by decide +kernel
theorem dX7_year_9 : decode cX7_year 9 = .ok (.ifCond .eq 22, 3) := by decide +kernel
theorem dX7_year_12 : decode cX7_year 12 = .ok (.iload_n 2, 1) := by decide +kernel
theorem dX7_year_13 : decode cX7_year 13 = .ok (.i2l, 1) := by decide +kernel
theorem dX7_year_14 : decode cX7_year 14 = .ok (.lconst 1, 1) := by decide +kernel
theorem dX7_year_15 : decode cX7_year 15 = .ok (.ldc2_w 247, 3) := by decide +kernel
theorem dX7_year_18 : decode cX7_year 18 = .ok (.invokestatic 67, 3) := by decide +kernel
theorem dX7_year_21 : decode cX7_year 21 = .ok (.ifCond .eq 10, 3) := by decide +kernel
theorem dX7_year_24 : decode cX7_year 24 = .ok (.iload_n 3, 1) := by decide +kernel
theorem dX7_year_25 : decode cX7_year 25 = .ok (.invokestatic 198, 3) := by decide +kernel
theorem dX7_year_28 : decode cX7_year 28 = .ok (.ifCond .ne 5, 3) := by decide +kernel
theorem dX7_year_31 : decode cX7_year 31 = .ok (.iconst (-1), 1) := by decide +kernel
theorem dX7_year_32 : decode cX7_year 32 = .ok (.ireturn, 1) := by decide +kernel
theorem dX7_year_33 : decode cX7_year 33 = .ok (.aload_n 0, 1) := by decide +kernel
theorem dX7_year_34 : decode cX7_year 34 = .ok (.getfield 7, 3) := by decide +kernel
theorem dX7_year_37 : decode cX7_year 37 = .ok (.iconst 1, 1) := by decide +kernel
theorem dX7_year_38 : decode cX7_year 38 = .ok (.iaload, 1) := by decide +kernel
theorem dX7_year_39 : decode cX7_year 39 = .ok (.istore 4, 2) := by decide +kernel
theorem dX7_year_41 : decode cX7_year 41 = .ok (.iload 4, 2) := by decide +kernel
theorem dX7_year_43 : decode cX7_year 43 = .ok (.iconst 2, 1) := by decide +kernel
theorem dX7_year_44 : decode cX7_year 44 = .ok (.if_icmp .ge 6, 3) := by decide +kernel
theorem dX7_year_47 : decode cX7_year 47 = .ok (.bipush (-2), 2) := by decide +kernel
theorem dX7_year_49 : decode cX7_year 49 = .ok (.ireturn, 1) := by decide +kernel
theorem dX7_year_50 : decode cX7_year 50 = .ok (.aload_n 0, 1) := by decide +kernel
theorem dX7_year_51 : decode cX7_year 51 = .ok (.invokevirtual 201, 3) := by decide +kernel
theorem dX7_year_54 : decode cX7_year 54 = .ok (.iconst 0, 1) := by decide +kernel
theorem dX7_year_55 : decode cX7_year 55 = .ok (.istore 5, 2) := by decide +kernel
theorem dX7_year_57 : decode cX7_year 57 = .ok (.iconst 0, 1) := by decide +kernel
theorem dX7_year_58 : decode cX7_year 58 = .ok (.istore 6, 2) := by decide +kernel
theorem dX7_year_60 : decode cX7_year 60 = .ok (.iconst 0, 1) := by decide +kernel
theorem dX7_year_61 : decode cX7_year 61 = .ok (.istore 7, 2) := by decide +kernel
theorem dX7_year_63 : decode cX7_year 63 = .ok (.iload 7, 2) := by decide +kernel
theorem dX7_year_65 : decode cX7_year 65 = .ok (.iload_n 2, 1) := by decide +kernel
theorem dX7_year_66 : decode cX7_year 66 = .ok (.if_icmp .ge 130, 3) := by decide +kernel
theorem dX7_year_69 : decode cX7_year 69 = .ok (.ldc2_w 249, 3) := by decide +kernel
theorem dX7_year_72 : decode cX7_year 72 = .ok (.iload_n 1, 1) := by decide +kernel
theorem dX7_year_73 : decode cX7_year 73 = .ok (.i2l, 1) := by decide +kernel
theorem dX7_year_74 : decode cX7_year 74 = .ok (.lmul, 1) := by decide +kernel
theorem dX7_year_75 : decode cX7_year 75 = .ok (.ldc2_w 251, 3) := by decide +kernel
theorem dX7_year_78 : decode cX7_year 78 = .ok (.iload 7, 2) := by decide +kernel
theorem dX7_year_80 : decode cX7_year 80 = .ok (.i2l, 1) := by decide +kernel
theorem dX7_year_81 : decode cX7_year 81 = .ok (.lmul, 1) := by decide +kernel
theorem dX7_year_82 : decode cX7_year 82 = .ok (.ladd, 1) := by decide +kernel
theorem dX7_year_83 : decode cX7_year 83 = .ok (.lconst 1, 1) := by decide +kernel
theorem dX7_year_84 : decode cX7_year 84 = .ok (.ladd, 1) := by decide +kernel
theorem dX7_year_85 : decode cX7_year 85 = .ok (.lstore 8, 2) := by decide +kernel
theorem dX7_year_87 : decode cX7_year 87 = .ok (.lload 8, 2) := by decide +kernel
theorem dX7_year_89 : decode cX7_year 89 = .ok (.lload 8, 2) := by decide +kernel
theorem dX7_year_91 : decode cX7_year 91 = .ok (.lmul, 1) := by decide +kernel
theorem dX7_year_92 : decode cX7_year 92 = .ok (.ldc2_w 253, 3) := by decide +kernel
theorem dX7_year_95 : decode cX7_year 95 = .ok (.lrem, 1) := by decide +kernel
theorem dX7_year_96 : decode cX7_year 96 = .ok (.l2i, 1) := by decide +kernel
theorem dX7_year_97 : decode cX7_year 97 = .ok (.bipush 8, 2) := by decide +kernel
theorem dX7_year_99 : decode cX7_year 99 = .ok (.idiv, 1) := by decide +kernel
theorem dX7_year_100 : decode cX7_year 100 = .ok (.istore 10, 2) := by decide +kernel
theorem dX7_year_102 : decode cX7_year 102 = .ok (.iload 10, 2) := by decide +kernel
theorem dX7_year_104 : decode cX7_year 104 = .ok (.iload 4, 2) := by decide +kernel
theorem dX7_year_106 : decode cX7_year 106 = .ok (.irem, 1) := by decide +kernel
theorem dX7_year_107 : decode cX7_year 107 = .ok (.istore 11, 2) := by decide +kernel
theorem dX7_year_109 : decode cX7_year 109 = .ok (.aload_n 0, 1) := by decide +kernel
theorem dX7_year_110 : decode cX7_year 110 = .ok (.aload_n 0, 1) := by decide +kernel
theorem dX7_year_111 : decode cX7_year 111 = .ok (.getfield 37, 3) := by decide +kernel
theorem dX7_year_114 : decode cX7_year 114 = .ok (.iload 11, 2) := by decide +kernel
theorem dX7_year_116 : decode cX7_year 116 = .ok (.iload 11, 2) := by decide +kernel
theorem dX7_year_118 : decode cX7_year 118 = .ok (.iconst 1, 1) := by decide +kernel
theorem dX7_year_119 : decode cX7_year 119 = .ok (.iadd, 1) := by decide +kernel
theorem dX7_year_120 : decode cX7_year 120 = .ok (.iload 4, 2) := by decide +kernel
theorem dX7_year_122 : decode cX7_year 122 = .ok (.irem, 1) := by decide +kernel
theorem dX7_year_123 : decode cX7_year 123 = .ok (.invokevirtual 187, 3) := by decide +kernel
theorem dX7_year_126 : decode cX7_year 126 = .ok (.ifCond .eq 40, 3) := by decide +kernel
theorem dX7_year_129 : decode cX7_year 129 = .ok (.aload_n 0, 1) := by decide +kernel
theorem dX7_year_130 : decode cX7_year 130 = .ok (.getfield 34, 3) := by decide +kernel
theorem dX7_year_133 : decode cX7_year 133 = .ok (.iconst 0, 1) := by decide +kernel
theorem dX7_year_134 : decode cX7_year 134 = .ok (.aload_n 0, 1) := by decide +kernel
theorem dX7_year_135 : decode cX7_year 135 = .ok (.getfield 37, 3) := by decide +kernel
theorem dX7_year_138 : decode cX7_year 138 = .ok (.iconst 0, 1) := by decide +kernel
theorem dX7_year_139 : decode cX7_year 139 = .ok (.invokestatic 180, 3) := by decide +kernel
theorem dX7_year_142 : decode cX7_year 142 = .ok (.iinc 5 1, 3) := by decide +kernel
theorem dX7_year_145 : decode cX7_year 145 = .ok (.iload 6, 2) := by decide +kernel
theorem dX7_year_147 : decode cX7_year 147 = .ok (.aload_n 0, 1) := by decide +kernel
theorem dX7_year_148 : decode cX7_year 148 = .ok (.getfield 37, 3) := by decide +kernel
theorem dX7_year_151 : decode cX7_year 151 = .ok (.bipush 64, 2) := by decide +kernel
theorem dX7_year_153 : decode cX7_year 153 = .ok (.aload_n 0, 1) := by decide +kernel
theorem dX7_year_154 : decode cX7_year 154 = .ok (.getfield 37, 3) := by decide +kernel
theorem dX7_year_157 : decode cX7_year 157 = .ok (.iconst 2, 1) := by decide +kernel
theorem dX7_year_158 : decode cX7_year 158 = .ok (.iaload, 1) := by decide +kernel
theorem dX7_year_159 : decode cX7_year 159 = .ok (.iadd, 1) := by decide +kernel
theorem dX7_year_160 : decode cX7_year 160 = .ok (.iconst 1, 1) := by decide +kernel
theorem dX7_year_161 : decode cX7_year 161 = .ok (.isub, 1) := by decide +kernel
theorem dX7_year_162 : decode cX7_year 162 = .ok (.iaload, 1) := by decide +kernel
theorem dX7_year_163 : decode cX7_year 163 = .ok (.iadd, 1) := by decide +kernel
theorem dX7_year_164 : decode cX7_year 164 = .ok (.istore 6, 2) := by decide +kernel
theorem dX7_year_166 : decode cX7_year 166 = .ok (.aload_n 0, 1) := by decide +kernel
theorem dX7_year_167 : decode cX7_year 167 = .ok (.getfield 37, 3) := by decide +kernel
theorem dX7_year_170 : decode cX7_year 170 = .ok (.iconst 0, 1) := by decide +kernel
theorem dX7_year_171 : decode cX7_year 171 = .ok (.dup2, 1) := by decide +kernel
theorem dX7_year_172 : decode cX7_year 172 = .ok (.iaload, 1) := by decide +kernel
theorem dX7_year_173 : decode cX7_year 173 = .ok (.iload 10, 2) := by decide +kernel
theorem dX7_year_175 : decode cX7_year 175 = .ok (.bipush 16, 2) := by decide +kernel
theorem dX7_year_177 : decode cX7_year 177 = .ok (.idiv, 1) := by decide +kernel
theorem dX7_year_178 : decode cX7_year 178 = .ok (.iconst 3, 1) := by decide +kernel
theorem dX7_year_179 : decode cX7_year 179 = .ok (.irem, 1) := by decide +kernel
theorem dX7_year_180 : decode cX7_year 180 = .ok (.ifCond .ne 7, 3) := by decide +kernel
theorem dX7_year_183 : decode cX7_year 183 = .ok (.iconst 1, 1) := by decide +kernel
theorem dX7_year_184 : decode cX7_year 184 = .ok (.goto 4, 3) := by decide +kernel
theorem dX7_year_187 : decode cX7_year 187 = .ok (.iconst 0, 1) := by decide +kernel
theorem dX7_year_188 : decode cX7_year 188 = .ok (.iadd, 1) := by decide +kernel
theorem dX7_year_189 : decode cX7_year 189 = .ok (.iastore, 1) := by decide +kernel
theorem dX7_year_190 : decode cX7_year 190 = .ok (.iinc 7 1, 3) := by decide +kernel
theorem dX7_year_193 : decode cX7_year 193 = .ok (.goto (-130), 3) := by decide +kernel
theorem dX7_year_196 : decode cX7_year 196 = .ok (.iload_n 3, 1) := by decide +kernel
theorem dX7_year_197 : decode cX7_year 197 = .ok (.ifCond .ne 8, 3) := by decide +kernel
theorem dX7_year_200 : decode cX7_year 200 = .ok (.iload 5, 2) := by decide +kernel
theorem dX7_year_202 : decode cX7_year 202 = .ok (.goto 5, 3) := by decide +kernel
theorem dX7_year_205 : decode cX7_year 205 = .ok (.iload 6, 2) := by decide +kernel
theorem dX7_year_207 : decode cX7_year 207 = .ok (.ireturn, 1) := by decide +kernel
theorem dX7_keep_0 : decode cX7_keep 0 = .ok (.aload_n 0, 1) := by decide +kernel
theorem dX7_keep_1 : decode cX7_keep 1 = .ok (.getfield 120, 3) := by decide +kernel
theorem dX7_keep_4 : decode cX7_keep 4 = .ok (.iconst 2, 1) := by decide +kernel
theorem dX7_keep_5 : decode cX7_keep 5 = .ok (.if_icmp .ne 6, 3) := by decide +kernel
theorem dX7_keep_8 : decode cX7_keep 8 = .ok (.bipush (-3), 2) := by decide +kernel
theorem dX7_keep_10 : decode cX7_keep 10 = .ok (.ireturn, 1) := by decide +kernel
theorem dX7_keep_11 : decode cX7_keep 11 = .ok (.aload_n 0, 1) := by decide +kernel
theorem dX7_keep_12 : decode cX7_keep 12 = .ok (.getfield 16, 3) := by decide +kernel
theorem dX7_keep_15 : decode cX7_keep 15 = .ok (.iconst 0, 1) := by decide +kernel
theorem dX7_keep_16 : decode cX7_keep 16 = .ok (.aload_n 0, 1) := by decide +kernel
theorem dX7_keep_17 : decode cX7_keep 17 = .ok (.getfield 22, 3) := by decide +kernel
theorem dX7_keep_20 : decode cX7_keep 20 = .ok (.bipush 76, 2) := by decide +kernel
theorem dX7_keep_22 : decode cX7_keep 22 = .ok (.aload_n 0, 1) := by decide +kernel
theorem dX7_keep_23 : decode cX7_keep 23 = .ok (.getfield 120, 3) := by decide +kernel
theorem dX7_keep_26 : decode cX7_keep 26 = .ok (.imul, 1) := by decide +kernel
theorem dX7_keep_27 : decode cX7_keep 27 = .ok (.invokestatic 180, 3) := by decide +kernel
theorem dX7_keep_30 : decode cX7_keep 30 = .ok (.aload_n 0, 1) := by decide +kernel
theorem dX7_keep_31 : decode cX7_keep 31 = .ok (.dup, 1) := by decide +kernel
theorem dX7_keep_32 : decode cX7_keep 32 = .ok (.getfield 120, 3) := by decide +kernel
theorem dX7_keep_35 : decode cX7_keep 35 = .ok (.iconst 1, 1) := by decide +kernel
theorem dX7_keep_36 : decode cX7_keep 36 = .ok (.iadd, 1) := by decide +kernel
theorem dX7_keep_37 : decode cX7_keep 37 = .ok (.putfield 120, 3) := by decide +kernel
theorem dX7_keep_40 : decode cX7_keep 40 = .ok (.aload_n 0, 1) := by decide +kernel
theorem dX7_keep_41 : decode cX7_keep 41 = .ok (.getfield 120, 3) := by decide +kernel
theorem dX7_keep_44 : decode cX7_keep 44 = .ok (.ireturn, 1) := by decide +kernel
theorem dX7_back_0 : decode cX7_back 0 = .ok (.aload_n 0, 1) := by decide +kernel
theorem dX7_back_1 : decode cX7_back 1 = .ok (.getfield 120, 3) := by decide +kernel
theorem dX7_back_4 : decode cX7_back 4 = .ok (.ifCond .ne 6, 3) := by decide +kernel
theorem dX7_back_7 : decode cX7_back 7 = .ok (.bipush (-2), 2) := by decide +kernel
theorem dX7_back_9 : decode cX7_back 9 = .ok (.ireturn, 1) := by decide +kernel
theorem dX7_back_10 : decode cX7_back 10 = .ok (.aload_n 0, 1) := by decide +kernel
theorem dX7_back_11 : decode cX7_back 11 = .ok (.dup, 1) := by decide +kernel
theorem dX7_back_12 : decode cX7_back 12 = .ok (.getfield 120, 3) := by decide +kernel
theorem dX7_back_15 : decode cX7_back 15 = .ok (.iconst 1, 1) := by decide +kernel
theorem dX7_back_16 : decode cX7_back 16 = .ok (.isub, 1) := by decide +kernel
theorem dX7_back_17 : decode cX7_back 17 = .ok (.putfield 120, 3) := by decide +kernel
theorem dX7_back_20 : decode cX7_back 20 = .ok (.aload_n 0, 1) := by decide +kernel
theorem dX7_back_21 : decode cX7_back 21 = .ok (.getfield 22, 3) := by decide +kernel
theorem dX7_back_24 : decode cX7_back 24 = .ok (.bipush 76, 2) := by decide +kernel
theorem dX7_back_26 : decode cX7_back 26 = .ok (.aload_n 0, 1) := by decide +kernel
theorem dX7_back_27 : decode cX7_back 27 = .ok (.getfield 120, 3) := by decide +kernel
theorem dX7_back_30 : decode cX7_back 30 = .ok (.imul, 1) := by decide +kernel
theorem dX7_back_31 : decode cX7_back 31 = .ok (.aload_n 0, 1) := by decide +kernel
theorem dX7_back_32 : decode cX7_back 32 = .ok (.getfield 16, 3) := by decide +kernel
theorem dX7_back_35 : decode cX7_back 35 = .ok (.iconst 0, 1) := by decide +kernel
theorem dX7_back_36 : decode cX7_back 36 = .ok (.invokestatic 180, 3) := by decide +kernel
theorem dX7_back_39 : decode cX7_back 39 = .ok (.aload_n 0, 1) := by decide +kernel
theorem dX7_back_40 : decode cX7_back 40 = .ok (.iconst 0, 1) := by decide +kernel
theorem dX7_back_41 : decode cX7_back 41 = .ok (.putfield 117, 3) := by decide +kernel
theorem dX7_back_44 : decode cX7_back 44 = .ok (.aload_n 0, 1) := by decide +kernel
theorem dX7_back_45 : decode cX7_back 45 = .ok (.getfield 120, 3) := by decide +kernel
theorem dX7_back_48 : decode cX7_back 48 = .ok (.ireturn, 1) := by decide +kernel
theorem dX7_count_0 : decode cX7_count 0 = .ok (.iload_n 1, 1) := by decide +kernel
theorem dX7_count_1 : decode cX7_count 1 = .ok (.tableswitch 109 0 10 #[59, 66, 73, 78, 78, 78, 78, 89, 94, 99, 104], 59) := by decide +kernel
theorem dX7_count_60 : decode cX7_count 60 = .ok (.aload_n 0, 1) := by decide +kernel
theorem dX7_count_61 : decode cX7_count 61 = .ok (.getfield 7, 3) := by decide +kernel
theorem dX7_count_64 : decode cX7_count 64 = .ok (.iconst 0, 1) := by decide +kernel
theorem dX7_count_65 : decode cX7_count 65 = .ok (.iaload, 1) := by decide +kernel
theorem dX7_count_66 : decode cX7_count 66 = .ok (.ireturn, 1) := by decide +kernel
theorem dX7_count_67 : decode cX7_count 67 = .ok (.aload_n 0, 1) := by decide +kernel
theorem dX7_count_68 : decode cX7_count 68 = .ok (.getfield 7, 3) := by decide +kernel
theorem dX7_count_71 : decode cX7_count 71 = .ok (.iconst 1, 1) := by decide +kernel
theorem dX7_count_72 : decode cX7_count 72 = .ok (.iaload, 1) := by decide +kernel
theorem dX7_count_73 : decode cX7_count 73 = .ok (.ireturn, 1) := by decide +kernel
theorem dX7_count_74 : decode cX7_count 74 = .ok (.aload_n 0, 1) := by decide +kernel
theorem dX7_count_75 : decode cX7_count 75 = .ok (.invokevirtual 130, 3) := by decide +kernel
theorem dX7_count_78 : decode cX7_count 78 = .ok (.ireturn, 1) := by decide +kernel
theorem dX7_count_79 : decode cX7_count 79 = .ok (.aload_n 0, 1) := by decide +kernel
theorem dX7_count_80 : decode cX7_count 80 = .ok (.getfield 16, 3) := by decide +kernel
theorem dX7_count_83 : decode cX7_count 83 = .ok (.iconst 0, 1) := by decide +kernel
theorem dX7_count_84 : decode cX7_count 84 = .ok (.iload_n 1, 1) := by decide +kernel
theorem dX7_count_85 : decode cX7_count 85 = .ok (.iadd, 1) := by decide +kernel
theorem dX7_count_86 : decode cX7_count 86 = .ok (.iconst 3, 1) := by decide +kernel
theorem dX7_count_87 : decode cX7_count 87 = .ok (.isub, 1) := by decide +kernel
theorem dX7_count_88 : decode cX7_count 88 = .ok (.iaload, 1) := by decide +kernel
theorem dX7_count_89 : decode cX7_count 89 = .ok (.ireturn, 1) := by decide +kernel
theorem dX7_count_90 : decode cX7_count 90 = .ok (.aload_n 0, 1) := by decide +kernel
theorem dX7_count_91 : decode cX7_count 91 = .ok (.getfield 114, 3) := by decide +kernel
theorem dX7_count_94 : decode cX7_count 94 = .ok (.ireturn, 1) := by decide +kernel
theorem dX7_count_95 : decode cX7_count 95 = .ok (.aload_n 0, 1) := by decide +kernel
theorem dX7_count_96 : decode cX7_count 96 = .ok (.getfield 117, 3) := by decide +kernel
theorem dX7_count_99 : decode cX7_count 99 = .ok (.ireturn, 1) := by decide +kernel
theorem dX7_count_100 : decode cX7_count 100 = .ok (.aload_n 0, 1) := by decide +kernel
theorem dX7_count_101 : decode cX7_count 101 = .ok (.getfield 120, 3) := by decide +kernel
theorem dX7_count_104 : decode cX7_count 104 = .ok (.ireturn, 1) := by decide +kernel
theorem dX7_count_105 : decode cX7_count 105 = .ok (.aload_n 0, 1) := by decide +kernel
theorem dX7_count_106 : decode cX7_count 106 = .ok (.getfield 75, 3) := by decide +kernel
theorem dX7_count_109 : decode cX7_count 109 = .ok (.ireturn, 1) := by decide +kernel
theorem dX7_count_110 : decode cX7_count 110 = .ok (.iconst (-1), 1) := by decide +kernel
theorem dX7_count_111 : decode cX7_count 111 = .ok (.ireturn, 1) := by decide +kernel
