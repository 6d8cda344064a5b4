theorem dX9_init_0 : decode cX9_init 0 = .ok (.aload_n 0, 1) := by decide +kernel
theorem dX9_init_1 : decode cX9_init 1 = .ok (.invokespecial 1, 3) := by decide +kernel
theorem dX9_init_4 : decode cX9_init 4 = .ok (.aload_n 0, 1) := by decide +kernel
theorem dX9_init_5 : decode cX9_init 5 = .ok (.iconst 2, 1) := by decide +kernel
theorem dX9_init_6 : decode cX9_init 6 = .ok (.newarray .int, 2) := by decide +kernel
theorem dX9_init_8 : decode cX9_init 8 = .ok (.putfield 7, 3) := by decide +kernel
theorem dX9_init_11 : decode cX9_init 11 = .ok (.aload_n 0, 1) := by decide +kernel
theorem dX9_init_12 : decode cX9_init 12 = .ok (.bipush 110, 2) := by decide +kernel
theorem dX9_init_14 : decode cX9_init 14 = .ok (.newarray .int, 2) := by decide +kernel
theorem dX9_init_16 : decode cX9_init 16 = .ok (.putfield 13, 3) := by decide +kernel
theorem dX9_init_19 : decode cX9_init 19 = .ok (.aload_n 0, 1) := by decide +kernel
theorem dX9_init_20 : decode cX9_init 20 = .ok (.bipush 20, 2) := by decide +kernel
theorem dX9_init_22 : decode cX9_init 22 = .ok (.newarray .int, 2) := by decide +kernel
theorem dX9_init_24 : decode cX9_init 24 = .ok (.putfield 16, 3) := by decide +kernel
theorem dX9_init_27 : decode cX9_init 27 = .ok (.aload_n 0, 1) := by decide +kernel
theorem dX9_init_28 : decode cX9_init 28 = .ok (.bipush 9, 2) := by decide +kernel
theorem dX9_init_30 : decode cX9_init 30 = .ok (.newarray .int, 2) := by decide +kernel
theorem dX9_init_32 : decode cX9_init 32 = .ok (.putfield 19, 3) := by decide +kernel
theorem dX9_init_35 : decode cX9_init 35 = .ok (.aload_n 0, 1) := by decide +kernel
theorem dX9_init_36 : decode cX9_init 36 = .ok (.bipush 9, 2) := by decide +kernel
theorem dX9_init_38 : decode cX9_init 38 = .ok (.newarray .int, 2) := by decide +kernel
theorem dX9_init_40 : decode cX9_init 40 = .ok (.putfield 22, 3) := by decide +kernel
theorem dX9_init_43 : decode cX9_init 43 = .ok (.aload_n 0, 1) := by decide +kernel
theorem dX9_init_44 : decode cX9_init 44 = .ok (.bipush 9, 2) := by decide +kernel
theorem dX9_init_46 : decode cX9_init 46 = .ok (.newarray .int, 2) := by decide +kernel
theorem dX9_init_48 : decode cX9_init 48 = .ok (.putfield 25, 3) := by decide +kernel
theorem dX9_init_51 : decode cX9_init 51 = .ok (.aload_n 0, 1) := by decide +kernel
theorem dX9_init_52 : decode cX9_init 52 = .ok (.bipush 9, 2) := by decide +kernel
theorem dX9_init_54 : decode cX9_init 54 = .ok (.newarray .int, 2) := by decide +kernel
theorem dX9_init_56 : decode cX9_init 56 = .ok (.putfield 28, 3) := by decide +kernel
theorem dX9_init_59 : decode cX9_init 59 = .ok (.aload_n 0, 1) := by decide +kernel
theorem dX9_init_60 : decode cX9_init 60 = .ok (.bipush 8, 2) := by decide +kernel
theorem dX9_init_62 : decode cX9_init 62 = .ok (.newarray .int, 2) := by decide +kernel
theorem dX9_init_64 : decode cX9_init 64 = .ok (.putfield 31, 3) := by decide +kernel
theorem dX9_init_67 : decode cX9_init 67 = .ok (.aload_n 0, 1) := by decide +kernel
theorem dX9_init_68 : decode cX9_init 68 = .ok (.bipush 8, 2) := by decide +kernel
theorem dX9_init_70 : decode cX9_init 70 = .ok (.newarray .int, 2) := by decide +kernel
theorem dX9_init_72 : decode cX9_init 72 = .ok (.putfield 34, 3) := by decide +kernel
theorem dX9_init_75 : decode cX9_init 75 = .ok (.aload_n 0, 1) := by decide +kernel
theorem dX9_init_76 : decode cX9_init 76 = .ok (.iconst 4, 1) := by decide +kernel
theorem dX9_init_77 : decode cX9_init 77 = .ok (.newarray .int, 2) := by decide +kernel
theorem dX9_init_79 : decode cX9_init 79 = .ok (.putfield 37, 3) := by decide +kernel
theorem dX9_init_82 : decode cX9_init 82 = .ok (.aload_n 0, 1) := by decide +kernel
theorem dX9_init_83 : decode cX9_init 83 = .ok (.iconst 4, 1) := by decide +kernel
theorem dX9_init_84 : decode cX9_init 84 = .ok (.newarray .int, 2) := by decide +kernel
theorem dX9_init_86 : decode cX9_init 86 = .ok (.putfield 40, 3) := by decide +kernel
theorem dX9_init_89 : decode cX9_init 89 = .ok (.aload_n 0, 1) := by decide +kernel
theorem dX9_init_90 : decode cX9_init 90 = .ok (.bipush 20, 2) := by decide +kernel
theorem dX9_init_92 : decode cX9_init 92 = .ok (.newarray .int, 2) := by decide +kernel
theorem dX9_init_94 : decode cX9_init 94 = .ok (.putfield 43, 3) := by decide +kernel
theorem dX9_init_97 : decode cX9_init 97 = .ok (.aload_n 0, 1) := by decide +kernel
theorem dX9_init_98 : decode cX9_init 98 = .ok (.bipush 8, 2) := by decide +kernel
theorem dX9_init_100 : decode cX9_init 100 = .ok (.newarray .int, 2) := by decide +kernel
theorem dX9_init_102 : decode cX9_init 102 = .ok (.putfield 46, 3) := by decide +kernel
theorem dX9_init_105 : decode cX9_init 105 = .ok (.aload_n 0, 1) := by decide +kernel
theorem dX9_init_106 : decode cX9_init 106 = .ok (.bipush 8, 2) := by decide +kernel
theorem dX9_init_108 : decode cX9_init 108 = .ok (.newarray .int, 2) := by decide +kernel
theorem dX9_init_110 : decode cX9_init 110 = .ok (.putfield 49, 3) := by decide +kernel
theorem dX9_init_113 : decode cX9_init 113 = .ok (.aload_n 0, 1) := by decide +kernel
theorem dX9_init_114 : decode cX9_init 114 = .ok (.bipush 20, 2) := by decide +kernel
theorem dX9_init_116 : decode cX9_init 116 = .ok (.newarray .int, 2) := by decide +kernel
theorem dX9_init_118 : decode cX9_init 118 = .ok (.putfield 52, 3) := by decide +kernel
theorem dX9_init_121 : decode cX9_init 121 = .ok (.aload_n 0, 1) := by decide +kernel
theorem dX9_init_122 : decode cX9_init 122 = .ok (.sipush 160, 3) := by decide +kernel
theorem dX9_init_125 : decode cX9_init 125 = .ok (.newarray .int, 2) := by decide +kernel
theorem dX9_init_127 : decode cX9_init 127 = .ok (.putfield 55, 3) := by decide +kernel
theorem dX9_init_130 : decode cX9_init 130 = .ok (.aload_n 0, 1) := by decide +kernel
theorem dX9_init_131 : decode cX9_init 131 = .ok (.sipush 160, 3) := by decide +kernel
theorem dX9_init_134 : decode cX9_init 134 = .ok (.newarray .int, 2) := by decide +kernel
theorem dX9_init_136 : decode cX9_init 136 = .ok (.putfield 58, 3) := by decide +kernel
theorem dX9_init_139 : decode cX9_init 139 = .ok (.aload_n 0, 1) := by decide +kernel
theorem dX9_init_140 : decode cX9_init 140 = .ok (.bipush 8, 2) := by decide +kernel
theorem dX9_init_142 : decode cX9_init 142 = .ok (.newarray .int, 2) := by decide +kernel
theorem dX9_init_144 : decode cX9_init 144 = .ok (.putfield 61, 3) := by decide +kernel
theorem dX9_init_147 : decode cX9_init 147 = .ok (.aload_n 0, 1) := by decide +kernel
theorem dX9_init_148 : decode cX9_init 148 = .ok (.bipush 8, 2) := by decide +kernel
theorem dX9_init_150 : decode cX9_init 150 = .ok (.newarray .int, 2) := by decide +kernel
theorem dX9_init_152 : decode cX9_init 152 = .ok (.putfield 64, 3) := by decide +kernel
theorem dX9_init_155 : decode cX9_init 155 = .ok (.aload_n 0, 1) := by decide +kernel
theorem dX9_init_156 : decode cX9_init 156 = .ok (.bipush 8, 2) := by decide +kernel
theorem dX9_init_158 : decode cX9_init 158 = .ok (.newarray .int, 2) := by decide +kernel
theorem dX9_init_160 : decode cX9_init 160 = .ok (.putfield 67, 3) := by decide +kernel
theorem dX9_init_163 : decode cX9_init 163 = .ok (.aload_n 0, 1) := by decide +kernel
theorem dX9_init_164 : decode cX9_init 164 = .ok (.sipush 160, 3) := by decide +kernel
theorem dX9_init_167 : decode cX9_init 167 = .ok (.newarray .int, 2) := by decide +kernel
theorem dX9_init_169 : decode cX9_init 169 = .ok (.putfield 70, 3) := by decide +kernel
theorem dX9_init_172 : decode cX9_init 172 = .ok (.aload_n 0, 1) := by decide +kernel
theorem dX9_init_173 : decode cX9_init 173 = .ok (.iconst 4, 1) := by decide +kernel
theorem dX9_init_174 : decode cX9_init 174 = .ok (.newarray .boolean, 2) := by decide +kernel
theorem dX9_init_176 : decode cX9_init 176 = .ok (.putfield 73, 3) := by decide +kernel
theorem dX9_init_179 : decode cX9_init 179 = .ok (.aload_n 0, 1) := by decide +kernel
theorem dX9_init_180 : decode cX9_init 180 = .ok (.iconst 4, 1) := by decide +kernel
theorem dX9_init_181 : decode cX9_init 181 = .ok (.newarray .int, 2) := by decide +kernel
theorem dX9_init_183 : decode cX9_init 183 = .ok (.putfield 77, 3) := by decide +kernel
theorem dX9_init_186 : decode cX9_init 186 = .ok (.aload_n 0, 1) := by decide +kernel
theorem dX9_init_187 : decode cX9_init 187 = .ok (.iconst 4, 1) := by decide +kernel
theorem dX9_init_188 : decode cX9_init 188 = .ok (.newarray .int, 2) := by decide +kernel
theorem dX9_init_190 : decode cX9_init 190 = .ok (.putfield 80, 3) := by decide +kernel
theorem dX9_init_193 : decode cX9_init 193 = .ok (.aload_n 0, 1) := by decide +kernel
theorem dX9_init_194 : decode cX9_init 194 = .ok (.sipush 240, 3) := by decide +kernel
theorem dX9_init_197 : decode cX9_init 197 = .ok (.newarray .int, 2) := by decide +kernel
theorem dX9_init_199 : decode cX9_init 199 = .ok (.putfield 83, 3) := by decide +kernel
theorem dX9_init_202 : decode cX9_init 202 = .ok (.aload_n 0, 1) := by decide +kernel
theorem dX9_init_203 : decode cX9_init 203 = .ok (.bipush 60, 2) := by decide +kernel
theorem dX9_init_205 : decode cX9_init 205 = .ok (.newarray .int, 2) := by decide +kernel
theorem dX9_init_207 : decode cX9_init 207 = .ok (.putfield 86, 3) := by decide +kernel
theorem dX9_init_210 : decode cX9_init 210 = .ok (.aload_n 0, 1) := by decide +kernel
theorem dX9_init_211 : decode cX9_init 211 = .ok (.iconst 3, 1) := by decide +kernel
theorem dX9_init_212 : decode cX9_init 212 = .ok (.putfield 89, 3) := by decide +kernel
theorem dX9_init_215 : decode cX9_init 215 = .ok (.return_, 1) := by decide +kernel
theorem dX9_in_0 : decode cX9_in 0 = .ok (.iload_n 0, 1) := by decide +kernel
theorem dX9_in_1 : decode cX9_in 1 = .ok (.iload_n 1, 1) := by decide +kernel
theorem dX9_in_2 : decode cX9_in 2 = .ok (.if_icmp .lt 12, 3) := by decide +kernel
theorem dX9_in_5 : decode cX9_in 5 = .ok (.iload_n 0, 1) := by decide +kernel
theorem dX9_in_6 : decode cX9_in 6 = .ok (.iload_n 2, 1) := by decide +kernel
theorem dX9_in_7 : decode cX9_in 7 = .ok (.if_icmp .gt 7, 3) := by decide +kernel
theorem dX9_in_10 : decode cX9_in 10 = .ok (.iconst 1, 1) := by decide +kernel
theorem dX9_in_11 : decode cX9_in 11 = .ok (.goto 4, 3) := by decide +kernel
theorem dX9_in_14 : decode cX9_in 14 = .ok (.iconst 0, 1) := by decide +kernel
theorem dX9_in_15 : decode cX9_in 15 = .ok (.ireturn, 1) := by decide +kernel
theorem dX9_isIn_0 : decode cX9_isIn 0 = .ok (.iload_n 0, 1) := by decide +kernel
theorem dX9_isIn_1 : decode cX9_isIn 1 = .ok (.iload_n 1, 1) := by decide +kernel
theorem dX9_isIn_2 : decode cX9_isIn 2 = .ok (.ishr, 1) := by decide +kernel
theorem dX9_isIn_3 : decode cX9_isIn 3 = .ok (.iconst 1, 1) := by decide +kernel
theorem dX9_isIn_4 : decode cX9_isIn 4 = .ok (.iand, 1) := by decide +kernel
theorem dX9_isIn_5 : decode cX9_isIn 5 = .ok (.iconst 1, 1) := by decide +kernel
theorem dX9_isIn_6 : decode cX9_isIn 6 = .ok (.if_icmp .ne 7, 3) := by decide +kernel
theorem dX9_isIn_9 : decode cX9_isIn 9 = .ok (.iconst 1, 1) := by decide +kernel
theorem dX9_isIn_10 : decode cX9_isIn 10 = .ok (.goto 4, 3) := by decide +kernel
theorem dX9_isIn_13 : decode cX9_isIn 13 = .ok (.iconst 0, 1) := by decide +kernel
theorem dX9_isIn_14 : decode cX9_isIn 14 = .ok (.ireturn, 1) := by decide +kernel
theorem dX9_ones_0 : decode cX9_ones 0 = .ok (.iconst 0, 1) := by decide +kernel
theorem dX9_ones_1 : decode cX9_ones 1 = .ok (.istore_n 1, 1) := by decide +kernel
theorem dX9_ones_2 : decode cX9_ones 2 = .ok (.iconst 0, 1) := by decide +kernel
theorem dX9_ones_3 : decode cX9_ones 3 = .ok (.istore_n 2, 1) := by decide +kernel
theorem dX9_ones_4 : decode cX9_ones 4 = .ok (.iload_n 2, 1) := by decide +kernel
theorem dX9_ones_5 : decode cX9_ones 5 = .ok (.bipush 8, 2) := by decide +kernel
theorem dX9_ones_7 : decode cX9_ones 7 = .ok (.if_icmp .ge 17, 3) := by decide +kernel
theorem dX9_ones_10 : decode cX9_ones 10 = .ok (.iload_n 1, 1) := by decide +kernel
theorem dX9_ones_11 : decode cX9_ones 11 = .ok (.iload_n 0, 1) := by decide +kernel
theorem dX9_ones_12 : decode cX9_ones 12 = .ok (.iload_n 2, 1) := by decide +kernel
theorem dX9_ones_13 : decode cX9_ones 13 = .ok (.ishr, 1) := by decide +kernel
theorem dX9_ones_14 : decode cX9_ones 14 = .ok (.iconst 1, 1) := by decide +kernel
theorem dX9_ones_15 : decode cX9_ones 15 = .ok (.iand, 1) := by decide +kernel
theorem dX9_ones_16 : decode cX9_ones 16 = .ok (.iadd, 1) := by decide +kernel
theorem dX9_ones_17 : decode cX9_ones 17 = .ok (.istore_n 1, 1) := by decide +kernel
theorem dX9_ones_18 : decode cX9_ones 18 = .ok (.iinc 2 1, 3) := by decide +kernel
theorem dX9_ones_21 : decode cX9_ones 21 = .ok (.goto (-17), 3) := by decide +kernel
theorem dX9_ones_24 : decode cX9_ones 24 = .ok (.iload_n 1, 1) := by decide +kernel
theorem dX9_ones_25 : decode cX9_ones 25 = .ok (.ireturn, 1) := by decide +kernel
theorem dX9_no_0 : decode cX9_no 0 = .ok (.ldc2_w 93, 3) := by decide +kernel
theorem dX9_no_3 : decode cX9_no 3 = .ok (.iload_n 0, 1) := by decide +kernel
theorem dX9_no_4 : decode cX9_no 4 = .ok (.i2l, 1) := by decide +kernel
theorem dX9_no_5 : decode cX9_no 5 = .ok (.lsub, 1) := by decide +kernel
theorem dX9_no_6 : decode cX9_no 6 = .ok (.lreturn, 1) := by decide +kernel
theorem dX9_lowest_0 : decode cX9_lowest 0 = .ok (.lload_n 0, 1) := by decide +kernel
theorem dX9_lowest_1 : decode cX9_lowest 1 = .ok (.lstore 5, 2) := by decide +kernel
theorem dX9_lowest_3 : decode cX9_lowest 3 = .ok (.lload_n 2, 1) := by decide +kernel
theorem dX9_lowest_4 : decode cX9_lowest 4 = .ok (.lstore 7, 2) := by decide +kernel
theorem dX9_lowest_6 : decode cX9_lowest 6 = .ok (.lload 7, 2) := by decide +kernel
theorem dX9_lowest_8 : decode cX9_lowest 8 = .ok (.lconst 0, 1) := by decide +kernel
theorem dX9_lowest_9 : decode cX9_lowest 9 = .ok (.lcmp, 1) := by decide +kernel
theorem dX9_lowest_10 : decode cX9_lowest 10 = .ok (.ifCond .eq 21, 3) := by decide +kernel
theorem dX9_lowest_13 : decode cX9_lowest 13 = .ok (.lload 5, 2) := by decide +kernel
theorem dX9_lowest_15 : decode cX9_lowest 15 = .ok (.lload 7, 2) := by decide +kernel
theorem dX9_lowest_17 : decode cX9_lowest 17 = .ok (.lrem, 1) := by decide +kernel
theorem dX9_lowest_18 : decode cX9_lowest 18 = .ok (.lstore 9, 2) := by decide +kernel
theorem dX9_lowest_20 : decode cX9_lowest 20 = .ok (.lload 7, 2) := by decide +kernel
theorem dX9_lowest_22 : decode cX9_lowest 22 = .ok (.lstore 5, 2) := by decide +kernel
theorem dX9_lowest_24 : decode cX9_lowest 24 = .ok (.lload 9, 2) := by decide +kernel
theorem dX9_lowest_26 : decode cX9_lowest 26 = .ok (.lstore 7, 2) := by decide +kernel
theorem dX9_lowest_28 : decode cX9_lowest 28 = .ok (.goto (-22), 3) := by decide +kernel
theorem dX9_lowest_31 : decode cX9_lowest 31 = .ok (.iload 4, 2) := by decide +kernel
theorem dX9_lowest_33 : decode cX9_lowest 33 = .ok (.ifCond .ne 10, 3) := by decide +kernel
theorem dX9_lowest_36 : decode cX9_lowest 36 = .ok (.lload_n 0, 1) := by decide +kernel
theorem dX9_lowest_37 : decode cX9_lowest 37 = .ok (.lload 5, 2) := by decide +kernel
theorem dX9_lowest_39 : decode cX9_lowest 39 = .ok (.ldiv, 1) := by decide +kernel
theorem dX9_lowest_40 : decode cX9_lowest 40 = .ok (.goto 7, 3) := by decide +kernel
theorem dX9_lowest_43 : decode cX9_lowest 43 = .ok (.lload_n 2, 1) := by decide +kernel
theorem dX9_lowest_44 : decode cX9_lowest 44 = .ok (.lload 5, 2) := by decide +kernel
theorem dX9_lowest_46 : decode cX9_lowest 46 = .ok (.ldiv, 1) := by decide +kernel
theorem dX9_lowest_47 : decode cX9_lowest 47 = .ok (.lreturn, 1) := by decide +kernel
theorem dX9_isText_0 : decode cX9_isText 0 = .ok (.iload_n 0, 1) := by decide +kernel
theorem dX9_isText_1 : decode cX9_isText 1 = .ok (.iconst 0, 1) := by decide +kernel
theorem dX9_isText_2 : decode cX9_isText 2 = .ok (.iconst 1, 1) := by decide +kernel
theorem dX9_isText_3 : decode cX9_isText 3 = .ok (.invokestatic 95, 3) := by decide +kernel
theorem dX9_isText_6 : decode cX9_isText 6 = .ok (.ireturn, 1) := by decide +kernel
theorem dX9_isDay_0 : decode cX9_isDay 0 = .ok (.iload_n 0, 1) := by decide +kernel
theorem dX9_isDay_1 : decode cX9_isDay 1 = .ok (.iconst 0, 1) := by decide +kernel
theorem dX9_isDay_2 : decode cX9_isDay 2 = .ok (.bipush 19, 2) := by decide +kernel
theorem dX9_isDay_4 : decode cX9_isDay 4 = .ok (.invokestatic 95, 3) := by decide +kernel
theorem dX9_isDay_7 : decode cX9_isDay 7 = .ok (.ireturn, 1) := by decide +kernel
theorem dX9_isCell_0 : decode cX9_isCell 0 = .ok (.iload_n 0, 1) := by decide +kernel
theorem dX9_isCell_1 : decode cX9_isCell 1 = .ok (.iconst 0, 1) := by decide +kernel
theorem dX9_isCell_2 : decode cX9_isCell 2 = .ok (.bipush 35, 2) := by decide +kernel
theorem dX9_isCell_4 : decode cX9_isCell 4 = .ok (.invokestatic 95, 3) := by decide +kernel
theorem dX9_isCell_7 : decode cX9_isCell 7 = .ok (.ireturn, 1) := by decide +kernel
theorem dX9_type_0 : decode cX9_type 0 = .ok (.iload_n 1, 1) := by decide +kernel
theorem dX9_type_1 : decode cX9_type 1 = .ok (.invokestatic 99, 3) := by decide +kernel
theorem dX9_type_4 : decode cX9_type 4 = .ok (.ifCond .eq 14, 3) := by decide +kernel
theorem dX9_type_7 : decode cX9_type 7 = .ok (.iload_n 2, 1) := by decide +kernel
theorem dX9_type_8 : decode cX9_type 8 = .ok (.iconst 0, 1) := by decide +kernel
theorem dX9_type_9 : decode cX9_type 9 = .ok (.sipush 255, 3) := by decide +kernel
theorem dX9_type_12 : decode cX9_type 12 = .ok (.invokestatic 95, 3) := by decide +kernel
theorem dX9_type_15 : decode cX9_type 15 = .ok (.ifCond .ne 6, 3) := by decide +kernel
theorem dX9_type_18 : decode cX9_type 18 = .ok (.bipush (-2), 2) := by decide +kernel
theorem dX9_type_20 : decode cX9_type 20 = .ok (.ireturn, 1) := by decide +kernel
theorem dX9_type_21 : decode cX9_type 21 = .ok (.aload_n 0, 1) := by decide +kernel
theorem dX9_type_22 : decode cX9_type 22 = .ok (.getfield 7, 3) := by decide +kernel
theorem dX9_type_25 : decode cX9_type 25 = .ok (.iload_n 1, 1) := by decide +kernel
theorem dX9_type_26 : decode cX9_type 26 = .ok (.iaload, 1) := by decide +kernel
theorem dX9_type_27 : decode cX9_type 27 = .ok (.iload_n 1, 1) := by decide +kernel
theorem dX9_type_28 : decode cX9_type 28 = .ok (.ifCond .ne 8, 3) := by decide +kernel
theorem dX9_type_31 : decode cX9_type 31 = .ok (.bipush 20, 2) := by decide +kernel
theorem dX9_type_33 : decode cX9_type 33 = .ok (.goto 5, 3) := by decide +kernel
theorem dX9_type_36 : decode cX9_type 36 = .ok (.bipush 55, 2) := by decide +kernel
theorem dX9_type_38 : decode cX9_type 38 = .ok (.if_icmp .ne 6, 3) := by decide +kernel
theorem dX9_type_41 : decode cX9_type 41 = .ok (.bipush (-4), 2) := by decide +kernel
theorem dX9_type_43 : decode cX9_type 43 = .ok (.ireturn, 1) := by decide +kernel
theorem dX9_type_44 : decode cX9_type 44 = .ok (.aload_n 0, 1) := by decide +kernel
theorem dX9_type_45 : decode cX9_type 45 = .ok (.getfield 13, 3) := by decide +kernel
theorem dX9_type_48 : decode cX9_type 48 = .ok (.bipush 55, 2) := by decide +kernel
theorem dX9_type_50 : decode cX9_type 50 = .ok (.iload_n 1, 1) := by decide +kernel
theorem dX9_type_51 : decode cX9_type 51 = .ok (.imul, 1) := by decide +kernel
theorem dX9_type_52 : decode cX9_type 52 = .ok (.aload_n 0, 1) := by decide +kernel
theorem dX9_type_53 : decode cX9_type 53 = .ok (.getfield 7, 3) := by decide +kernel
theorem dX9_type_56 : decode cX9_type 56 = .ok (.iload_n 1, 1) := by decide +kernel
theorem dX9_type_57 : decode cX9_type 57 = .ok (.iaload, 1) := by decide +kernel
theorem dX9_type_58 : decode cX9_type 58 = .ok (.iadd, 1) := by decide +kernel
theorem dX9_type_59 : decode cX9_type 59 = .ok (.iload_n 2, 1) := by decide +kernel
theorem dX9_type_60 : decode cX9_type 60 = .ok (.iastore, 1) := by decide +kernel
theorem dX9_type_61 : decode cX9_type 61 = .ok (.aload_n 0, 1) := by decide +kernel
theorem dX9_type_62 : decode cX9_type 62 = .ok (.getfield 7, 3) := by decide +kernel
theorem dX9_type_65 : decode cX9_type 65 = .ok (.iload_n 1, 1) := by decide +kernel
theorem dX9_type_66 : decode cX9_type 66 = .ok (.dup2, 1) := by decide +kernel
theorem dX9_type_67 : decode cX9_type 67 = .ok (.iaload, 1) := by decide +kernel
theorem dX9_type_68 : decode cX9_type 68 = .ok (.iconst 1, 1) := by decide +kernel
theorem dX9_type_69 : decode cX9_type 69 = .ok (.iadd, 1) := by decide +kernel
theorem dX9_type_70 : decode cX9_type 70 = .ok (.iastore, 1) := by decide +kernel
theorem dX9_type_71 : decode cX9_type 71 = .ok (.aload_n 0, 1) := by decide +kernel
theorem dX9_type_72 : decode cX9_type 72 = .ok (.getfield 7, 3) := by decide +kernel
theorem dX9_type_75 : decode cX9_type 75 = .ok (.iload_n 1, 1) := by decide +kernel
theorem dX9_type_76 : decode cX9_type 76 = .ok (.iaload, 1) := by decide +kernel
theorem dX9_type_77 : decode cX9_type 77 = .ok (.ireturn, 1) := by decide +kernel
theorem dX9_wipe_0 : decode cX9_wipe 0 = .ok (.iload_n 1, 1) := by decide +kernel
theorem dX9_wipe_1 : decode cX9_wipe 1 = .ok (.invokestatic 99, 3) := by decide +kernel
theorem dX9_wipe_4 : decode cX9_wipe 4 = .ok (.ifCond .ne 6, 3) := by decide +kernel
theorem dX9_wipe_7 : decode cX9_wipe 7 = .ok (.bipush (-2), 2) := by decide +kernel
theorem dX9_wipe_9 : decode cX9_wipe 9 = .ok (.ireturn, 1) := by decide +kernel
theorem dX9_wipe_10 : decode cX9_wipe 10 = .ok (.aload_n 0, 1) := by decide +kernel
theorem dX9_wipe_11 : decode cX9_wipe 11 = .ok (.getfield 7, 3) := by decide +kernel
theorem dX9_wipe_14 : decode cX9_wipe 14 = .ok (.iload_n 1, 1) := by decide +kernel
theorem dX9_wipe_15 : decode cX9_wipe 15 = .ok (.iaload, 1) := by decide +kernel
theorem dX9_wipe_16 : decode cX9_wipe 16 = .ok (.istore_n 2, 1) := by decide +kernel
theorem dX9_wipe_17 : decode cX9_wipe 17 = .ok (.aload_n 0, 1) := by decide +kernel
theorem dX9_wipe_18 : decode cX9_wipe 18 = .ok (.getfield 7, 3) := by decide +kernel
theorem dX9_wipe_21 : decode cX9_wipe 21 = .ok (.iload_n 1, 1) := by decide +kernel
theorem dX9_wipe_22 : decode cX9_wipe 22 = .ok (.iconst 0, 1) := by decide +kernel
theorem dX9_wipe_23 : decode cX9_wipe 23 = .ok (.iastore, 1) := by decide +kernel
theorem dX9_wipe_24 : decode cX9_wipe 24 = .ok (.iload_n 2, 1) := by decide +kernel
theorem dX9_wipe_25 : decode cX9_wipe 25 = .ok (.ireturn, 1) := by decide +kernel
theorem dX9_undo_0 : decode cX9_undo 0 = .ok (.iload_n 1, 1) := by decide +kernel
theorem dX9_undo_1 : decode cX9_undo 1 = .ok (.invokestatic 99, 3) := by decide +kernel
theorem dX9_undo_4 : decode cX9_undo 4 = .ok (.ifCond .ne 6, 3) := by decide +kernel
theorem dX9_undo_7 : decode cX9_undo 7 = .ok (.bipush (-2), 2) := by decide +kernel
theorem dX9_undo_9 : decode cX9_undo 9 = .ok (.ireturn, 1) := by decide +kernel
theorem dX9_undo_10 : decode cX9_undo 10 = .ok (.aload_n 0, 1) := by decide +kernel
theorem dX9_undo_11 : decode cX9_undo 11 = .ok (.getfield 7, 3) := by decide +kernel
theorem dX9_undo_14 : decode cX9_undo 14 = .ok (.iload_n 1, 1) := by decide +kernel
theorem dX9_undo_15 : decode cX9_undo 15 = .ok (.iaload, 1) := by decide +kernel
theorem dX9_undo_16 : decode cX9_undo 16 = .ok (.ifCond .ne 6, 3) := by decide +kernel
theorem dX9_undo_19 : decode cX9_undo 19 = .ok (.bipush (-3), 2) := by decide +kernel
theorem dX9_undo_21 : decode cX9_undo 21 = .ok (.ireturn, 1) := by decide +kernel
theorem dX9_undo_22 : decode cX9_undo 22 = .ok (.aload_n 0, 1) := by decide +kernel
theorem dX9_undo_23 : decode cX9_undo 23 = .ok (.getfield 7, 3) := by decide +kernel
theorem dX9_undo_26 : decode cX9_undo 26 = .ok (.iload_n 1, 1) := by decide +kernel
theorem dX9_undo_27 : decode cX9_undo 27 = .ok (.dup2, 1) := by decide +kernel
theorem dX9_undo_28 : decode cX9_undo 28 = .ok (.iaload, 1) := by decide +kernel
theorem dX9_undo_29 : decode cX9_undo 29 = .ok (.iconst 1, 1) := by decide +kernel
theorem dX9_undo_30 : decode cX9_undo 30 = .ok (.isub, 1) := by decide +kernel
theorem dX9_undo_31 : decode cX9_undo 31 = .ok (.iastore, 1) := by decide +kernel
theorem dX9_undo_32 : decode cX9_undo 32 = .ok (.aload_n 0, 1) := by decide +kernel
theorem dX9_undo_33 : decode cX9_undo 33 = .ok (.getfield 7, 3) := by decide +kernel
theorem dX9_undo_36 : decode cX9_undo 36 = .ok (.iload_n 1, 1) := by decide +kernel
theorem dX9_undo_37 : decode cX9_undo 37 = .ok (.iaload, 1) := by decide +kernel
theorem dX9_undo_38 : decode cX9_undo 38 = .ok (.ireturn, 1) := by decide +kernel
theorem dX9_readsDamps_0 : decode cX9_readsDamps 0 = .ok (.aload_n 0, 1) := by decide +kernel
theorem dX9_readsDamps_1 : decode cX9_readsDamps 1 = .ok (.iconst 0, 1) := by decide +kernel
theorem dX9_readsDamps_2 : decode cX9_readsDamps 2 = .ok (.putfield 103, 3) := by decide +kernel
theorem dX9_readsDamps_5 : decode cX9_readsDamps 5 = .ok (.iconst 0, 1) := by decide +kernel
theorem dX9_readsDamps_6 : decode cX9_readsDamps 6 = .ok (.istore_n 1, 1) := by decide +kernel
theorem dX9_readsDamps_7 : decode cX9_readsDamps 7 = .ok (.iload_n 1, 1) := by decide +kernel
theorem dX9_readsDamps_8 : decode cX9_readsDamps 8 = .ok (.bipush 20, 2) := by decide +kernel
theorem dX9_readsDamps_10 : decode cX9_readsDamps 10 = .ok (.if_icmp .ge 16, 3) := by decide +kernel
theorem dX9_readsDamps_13 : decode cX9_readsDamps 13 = .ok (.aload_n 0, 1) := by decide +kernel
theorem dX9_readsDamps_14 : decode cX9_readsDamps 14 = .ok (.getfield 16, 3) := by decide +kernel
theorem dX9_readsDamps_17 : decode cX9_readsDamps 17 = .ok (.iload_n 1, 1) := by decide +kernel
theorem dX9_readsDamps_18 : decode cX9_readsDamps 18 = .ok (.iconst 0, 1) := by decide +kernel
theorem dX9_readsDamps_19 : decode cX9_readsDamps 19 = .ok (.iastore, 1) := by decide +kernel
theorem dX9_readsDamps_20 : decode cX9_readsDamps 20 = .ok (.iinc 1 1, 3) := by decide +kernel
theorem dX9_readsDamps_23 : decode cX9_readsDamps 23 = .ok (.goto (-16), 3) := by decide +kernel
theorem dX9_readsDamps_26 : decode cX9_readsDamps 26 = .ok (.iconst 0, 1) := by decide +kernel
theorem dX9_readsDamps_27 : decode cX9_readsDamps 27 = .ok (.istore_n 1, 1) := by decide +kernel
theorem dX9_readsDamps_28 : decode cX9_readsDamps 28 = .ok (.iload_n 1, 1) := by decide +kernel
theorem dX9_readsDamps_29 : decode cX9_readsDamps 29 = .ok (.aload_n 0, 1) := by decide +kernel
theorem dX9_readsDamps_30 : decode cX9_readsDamps 30 = .ok (.getfield 7, 3) := by decide +kernel
theorem dX9_readsDamps_33 : decode cX9_readsDamps 33 = .ok (.iconst 0, 1) := by decide +kernel
theorem dX9_readsDamps_34 : decode cX9_readsDamps 34 = .ok (.iaload, 1) := by decide +kernel
theorem dX9_readsDamps_35 : decode cX9_readsDamps 35 = .ok (.if_icmp .ge 27, 3) := by decide +kernel
theorem dX9_readsDamps_38 : decode cX9_readsDamps 38 = .ok (.aload_n 0, 1) := by decide +kernel
theorem dX9_readsDamps_39 : decode cX9_readsDamps 39 = .ok (.getfield 13, 3) := by decide +kernel
theorem dX9_readsDamps_42 : decode cX9_readsDamps 42 = .ok (.iload_n 1, 1) := by decide +kernel
theorem dX9_readsDamps_43 : decode cX9_readsDamps 43 = .ok (.iaload, 1) := by decide +kernel
theorem dX9_readsDamps_44 : decode cX9_readsDamps 44 = .ok (.bipush 48, 2) := by decide +kernel
theorem dX9_readsDamps_46 : decode cX9_readsDamps 46 = .ok (.bipush 57, 2) := by decide +kernel
theorem dX9_readsDamps_48 : decode cX9_readsDamps 48 = .ok (.invokestatic 95, 3) := by decide +kernel
theorem dX9_readsDamps_51 : decode cX9_readsDamps 51 = .ok (.ifCond .ne 5, 3) := by decide +kernel
theorem dX9_readsDamps_54 : decode cX9_readsDamps 54 = .ok (.iload_n 1, 1) := by decide +kernel
theorem dX9_readsDamps_55 : decode cX9_readsDamps 55 = .ok (.ireturn, 1) := by decide +kernel
theorem dX9_readsDamps_56 : decode cX9_readsDamps 56 = .ok (.iinc 1 1, 3) := by decide +kernel
theorem dX9_readsDamps_59 : decode cX9_readsDamps 59 = .ok (.goto (-31), 3) := by decide +kernel
theorem dX9_readsDamps_62 : decode cX9_readsDamps 62 = .ok (.iconst 0, 1) := by decide +kernel
theorem dX9_readsDamps_63 : decode cX9_readsDamps 63 = .ok (.istore_n 1, 1) := by decide +kernel
theorem dX9_readsDamps_64 : decode cX9_readsDamps 64 = .ok (.iload_n 1, 1) := by decide +kernel
theorem dX9_readsDamps_65 : decode cX9_readsDamps 65 = .ok (.aload_n 0, 1) := by decide +kernel
theorem dX9_readsDamps_66 : decode cX9_readsDamps 66 = .ok (.getfield 7, 3) := by decide +kernel
theorem dX9_readsDamps_69 : decode cX9_readsDamps 69 = .ok (.iconst 0, 1) := by decide +kernel
theorem dX9_readsDamps_70 : decode cX9_readsDamps 70 = .ok (.iaload, 1) := by decide +kernel
theorem dX9_readsDamps_71 : decode cX9_readsDamps 71 = .ok (.if_icmp .ge 24, 3) := by decide +kernel
theorem dX9_readsDamps_74 : decode cX9_readsDamps 74 = .ok (.aload_n 0, 1) := by decide +kernel
theorem dX9_readsDamps_75 : decode cX9_readsDamps 75 = .ok (.getfield 16, 3) := by decide +kernel
theorem dX9_readsDamps_78 : decode cX9_readsDamps 78 = .ok (.iload_n 1, 1) := by decide +kernel
theorem dX9_readsDamps_79 : decode cX9_readsDamps 79 = .ok (.aload_n 0, 1) := by decide +kernel
theorem dX9_readsDamps_80 : decode cX9_readsDamps 80 = .ok (.getfield 13, 3) := by decide +kernel
theorem dX9_readsDamps_83 : decode cX9_readsDamps 83 = .ok (.iload_n 1, 1) := by decide +kernel
theorem dX9_readsDamps_84 : decode cX9_readsDamps 84 = .ok (.iaload, 1) := by decide +kernel
theorem dX9_readsDamps_85 : decode cX9_readsDamps 85 = .ok (.bipush 48, 2) := by decide +kernel
theorem dX9_readsDamps_87 : decode cX9_readsDamps 87 = .ok (.isub, 1) := by decide +kernel
theorem dX9_readsDamps_88 : decode cX9_readsDamps 88 = .ok (.iastore, 1) := by decide +kernel
theorem dX9_readsDamps_89 : decode cX9_readsDamps 89 = .ok (.iinc 1 1, 3) := by decide +kernel
theorem dX9_readsDamps_92 : decode cX9_readsDamps 92 = .ok (.goto (-28), 3) := by decide +kernel
theorem dX9_readsDamps_95 : decode cX9_readsDamps 95 = .ok (.aload_n 0, 1) := by decide +kernel
theorem dX9_readsDamps_96 : decode cX9_readsDamps 96 = .ok (.aload_n 0, 1) := by decide +kernel
theorem dX9_readsDamps_97 : decode cX9_readsDamps 97 = .ok (.getfield 7, 3) := by decide +kernel
theorem dX9_readsDamps_100 : decode cX9_readsDamps 100 = .ok (.iconst 0, 1) := by decide +kernel
theorem dX9_readsDamps_101 : decode cX9_readsDamps 101 = .ok (.iaload, 1) := by decide +kernel
theorem dX9_readsDamps_102 : decode cX9_readsDamps 102 = .ok (.putfield 103, 3) := by decide +kernel
theorem dX9_readsDamps_105 : decode cX9_readsDamps 105 = .ok (.iconst (-1), 1) := by decide +kernel
theorem dX9_readsDamps_106 : decode cX9_readsDamps 106 = .ok (.ireturn, 1) := by decide +kernel
theorem dX9_byteAt_0 : decode cX9_byteAt 0 = .ok (.iload_n 1, 1) := by decide +kernel
theorem dX9_byteAt_1 : decode cX9_byteAt 1 = .ok (.aload_n 0, 1) := by decide +kernel
theorem dX9_byteAt_2 : decode cX9_byteAt 2 = .ok (.getfield 7, 3) := by decide +kernel
theorem dX9_byteAt_5 : decode cX9_byteAt 5 = .ok (.iconst 1, 1) := by decide +kernel
theorem dX9_byteAt_6 : decode cX9_byteAt 6 = .ok (.iaload, 1) := by decide +kernel
theorem dX9_byteAt_7 : decode cX9_byteAt 7 = .ok (.if_icmp .ge 15, 3) := by decide +kernel
theorem dX9_byteAt_10 : decode cX9_byteAt 10 = .ok (.aload_n 0, 1) := by decide +kernel
theorem dX9_byteAt_11 : decode cX9_byteAt 11 = .ok (.getfield 13, 3) := by decide +kernel
theorem dX9_byteAt_14 : decode cX9_byteAt 14 = .ok (.bipush 55, 2) := by decide +kernel
theorem dX9_byteAt_16 : decode cX9_byteAt 16 = .ok (.iload_n 1, 1) := by decide +kernel
theorem dX9_byteAt_17 : decode cX9_byteAt 17 = .ok (.iadd, 1) := by decide +kernel
theorem dX9_byteAt_18 : decode cX9_byteAt 18 = .ok (.iaload, 1) := by decide +kernel
theorem dX9_byteAt_19 : decode cX9_byteAt 19 = .ok (.goto 4, 3) := by decide +kernel
theorem dX9_byteAt_22 : decode cX9_byteAt 22 = .ok (.iconst (-1), 1) := by decide +kernel
theorem dX9_byteAt_23 : decode cX9_byteAt 23 = .ok (.ireturn, 1) := by decide +kernel
theorem dX9_isWell_0 : decode cX9_isWell 0 = .ok (.aload_n 0, 1) := by decide +kernel
theorem dX9_isWell_1 : decode cX9_isWell 1 = .ok (.iload_n 1, 1) := by decide +kernel
theorem dX9_isWell_2 : decode cX9_isWell 2 = .ok (.iload_n 2, 1) := by decide +kernel
theorem dX9_isWell_3 : decode cX9_isWell 3 = .ok (.iadd, 1) := by decide +kernel
theorem dX9_isWell_4 : decode cX9_isWell 4 = .ok (.invokevirtual 106, 3) := by decide +kernel
theorem dX9_isWell_7 : decode cX9_isWell 7 = .ok (.istore_n 3, 1) := by decide +kernel
theorem dX9_isWell_8 : decode cX9_isWell 8 = .ok (.iload_n 2, 1) := by decide +kernel
theorem dX9_isWell_9 : decode cX9_isWell 9 = .ok (.iconst 4, 1) := by decide +kernel
theorem dX9_isWell_10 : decode cX9_isWell 10 = .ok (.if_icmp .ne 8, 3) := by decide +kernel
theorem dX9_isWell_13 : decode cX9_isWell 13 = .ok (.bipush 97, 2) := by decide +kernel
theorem dX9_isWell_15 : decode cX9_isWell 15 = .ok (.goto 15, 3) := by decide +kernel
theorem dX9_isWell_18 : decode cX9_isWell 18 = .ok (.iload_n 2, 1) := by decide +kernel
theorem dX9_isWell_19 : decode cX9_isWell 19 = .ok (.iconst 5, 1) := by decide +kernel
theorem dX9_isWell_20 : decode cX9_isWell 20 = .ok (.if_icmp .ne 8, 3) := by decide +kernel
theorem dX9_isWell_23 : decode cX9_isWell 23 = .ok (.bipush 49, 2) := by decide +kernel
theorem dX9_isWell_25 : decode cX9_isWell 25 = .ok (.goto 5, 3) := by decide +kernel
theorem dX9_isWell_28 : decode cX9_isWell 28 = .ok (.bipush 48, 2) := by decide +kernel
theorem dX9_isWell_30 : decode cX9_isWell 30 = .ok (.istore 4, 2) := by decide +kernel
theorem dX9_isWell_32 : decode cX9_isWell 32 = .ok (.iload_n 2, 1) := by decide +kernel
theorem dX9_isWell_33 : decode cX9_isWell 33 = .ok (.ifCond .ne 8, 3) := by decide +kernel
theorem dX9_isWell_36 : decode cX9_isWell 36 = .ok (.bipush 49, 2) := by decide +kernel
theorem dX9_isWell_38 : decode cX9_isWell 38 = .ok (.goto 30, 3) := by decide +kernel
theorem dX9_isWell_41 : decode cX9_isWell 41 = .ok (.iload_n 2, 1) := by decide +kernel
theorem dX9_isWell_42 : decode cX9_isWell 42 = .ok (.iconst 1, 1) := by decide +kernel
theorem dX9_isWell_43 : decode cX9_isWell 43 = .ok (.if_icmp .eq 8, 3) := by decide +kernel
theorem dX9_isWell_46 : decode cX9_isWell 46 = .ok (.iload_n 2, 1) := by decide +kernel
theorem dX9_isWell_47 : decode cX9_isWell 47 = .ok (.iconst 5, 1) := by decide +kernel
theorem dX9_isWell_48 : decode cX9_isWell 48 = .ok (.if_icmp .ne 8, 3) := by decide +kernel
theorem dX9_isWell_51 : decode cX9_isWell 51 = .ok (.bipush 57, 2) := by decide +kernel
theorem dX9_isWell_53 : decode cX9_isWell 53 = .ok (.goto 15, 3) := by decide +kernel
theorem dX9_isWell_56 : decode cX9_isWell 56 = .ok (.iload_n 2, 1) := by decide +kernel
theorem dX9_isWell_57 : decode cX9_isWell 57 = .ok (.iconst 4, 1) := by decide +kernel
theorem dX9_isWell_58 : decode cX9_isWell 58 = .ok (.if_icmp .ne 8, 3) := by decide +kernel
theorem dX9_isWell_61 : decode cX9_isWell 61 = .ok (.bipush 102, 2) := by decide +kernel
theorem dX9_isWell_63 : decode cX9_isWell 63 = .ok (.goto 5, 3) := by decide +kernel
theorem dX9_isWell_66 : decode cX9_isWell 66 = .ok (.bipush 53, 2) := by decide +kernel
theorem dX9_isWell_68 : decode cX9_isWell 68 = .ok (.istore 5, 2) := by decide +kernel
theorem dX9_isWell_70 : decode cX9_isWell 70 = .ok (.iload_n 3, 1) := by decide +kernel
theorem dX9_isWell_71 : decode cX9_isWell 71 = .ok (.iload 4, 2) := by decide +kernel
theorem dX9_isWell_73 : decode cX9_isWell 73 = .ok (.iload 5, 2) := by decide +kernel
theorem dX9_isWell_75 : decode cX9_isWell 75 = .ok (.invokestatic 95, 3) := by decide +kernel
theorem dX9_isWell_78 : decode cX9_isWell 78 = .ok (.ireturn, 1) := by decide +kernel
theorem dX9_readsStroke_0 : decode cX9_readsStroke 0 = .ok (.iconst 0, 1) := by decide +kernel
theorem dX9_readsStroke_1 : decode cX9_readsStroke 1 = .ok (.istore_n 3, 1) := by decide +kernel
theorem dX9_readsStroke_2 : decode cX9_readsStroke 2 = .ok (.iload_n 3, 1) := by decide +kernel
theorem dX9_readsStroke_3 : decode cX9_readsStroke 3 = .ok (.bipush 6, 2) := by decide +kernel
theorem dX9_readsStroke_5 : decode cX9_readsStroke 5 = .ok (.if_icmp .ge 18, 3) := by decide +kernel
theorem dX9_readsStroke_8 : decode cX9_readsStroke 8 = .ok (.aload_n 0, 1) := by decide +kernel
theorem dX9_readsStroke_9 : decode cX9_readsStroke 9 = .ok (.iload_n 2, 1) := by decide +kernel
theorem dX9_readsStroke_10 : decode cX9_readsStroke 10 = .ok (.iload_n 3, 1) := by decide +kernel
theorem dX9_readsStroke_11 : decode cX9_readsStroke 11 = .ok (.invokevirtual 110, 3) := by decide +kernel
theorem dX9_readsStroke_14 : decode cX9_readsStroke 14 = .ok (.ifCond .eq 9, 3) := by decide +kernel
theorem dX9_readsStroke_17 : decode cX9_readsStroke 17 = .ok (.iinc 3 1, 3) := by decide +kernel
theorem dX9_readsStroke_20 : decode cX9_readsStroke 20 = .ok (.goto (-18), 3) := by decide +kernel
theorem dX9_readsStroke_23 : decode cX9_readsStroke 23 = .ok (.iload_n 3, 1) := by decide +kernel
theorem dX9_readsStroke_24 : decode cX9_readsStroke 24 = .ok (.bipush 6, 2) := by decide +kernel
theorem dX9_readsStroke_26 : decode cX9_readsStroke 26 = .ok (.if_icmp .ne 93, 3) := by decide +kernel
theorem dX9_readsStroke_29 : decode cX9_readsStroke 29 = .ok (.aload_n 0, 1) := by decide +kernel
theorem dX9_readsStroke_30 : decode cX9_readsStroke 30 = .ok (.getfield 19, 3) := by decide +kernel
theorem dX9_readsStroke_33 : decode cX9_readsStroke 33 = .ok (.iload_n 1, 1) := by decide +kernel
theorem dX9_readsStroke_34 : decode cX9_readsStroke 34 = .ok (.bipush 10, 2) := by decide +kernel
theorem dX9_readsStroke_36 : decode cX9_readsStroke 36 = .ok (.aload_n 0, 1) := by decide +kernel
theorem dX9_readsStroke_37 : decode cX9_readsStroke 37 = .ok (.iload_n 2, 1) := by decide +kernel
theorem dX9_readsStroke_38 : decode cX9_readsStroke 38 = .ok (.invokevirtual 106, 3) := by decide +kernel
theorem dX9_readsStroke_41 : decode cX9_readsStroke 41 = .ok (.bipush 48, 2) := by decide +kernel
theorem dX9_readsStroke_43 : decode cX9_readsStroke 43 = .ok (.isub, 1) := by decide +kernel
theorem dX9_readsStroke_44 : decode cX9_readsStroke 44 = .ok (.imul, 1) := by decide +kernel
theorem dX9_readsStroke_45 : decode cX9_readsStroke 45 = .ok (.aload_n 0, 1) := by decide +kernel
theorem dX9_readsStroke_46 : decode cX9_readsStroke 46 = .ok (.iload_n 2, 1) := by decide +kernel
theorem dX9_readsStroke_47 : decode cX9_readsStroke 47 = .ok (.iconst 1, 1) := by decide +kernel
theorem dX9_readsStroke_48 : decode cX9_readsStroke 48 = .ok (.iadd, 1) := by decide +kernel
theorem dX9_readsStroke_49 : decode cX9_readsStroke 49 = .ok (.invokevirtual 106, 3) := by decide +kernel
theorem dX9_readsStroke_52 : decode cX9_readsStroke 52 = .ok (.iadd, 1) := by decide +kernel
theorem dX9_readsStroke_53 : decode cX9_readsStroke 53 = .ok (.bipush 48, 2) := by decide +kernel
theorem dX9_readsStroke_55 : decode cX9_readsStroke 55 = .ok (.isub, 1) := by decide +kernel
theorem dX9_readsStroke_56 : decode cX9_readsStroke 56 = .ok (.iastore, 1) := by decide +kernel
theorem dX9_readsStroke_57 : decode cX9_readsStroke 57 = .ok (.aload_n 0, 1) := by decide +kernel
theorem dX9_readsStroke_58 : decode cX9_readsStroke 58 = .ok (.getfield 22, 3) := by decide +kernel
theorem dX9_readsStroke_61 : decode cX9_readsStroke 61 = .ok (.iload_n 1, 1) := by decide +kernel
theorem dX9_readsStroke_62 : decode cX9_readsStroke 62 = .ok (.bipush 6, 2) := by decide +kernel
theorem dX9_readsStroke_64 : decode cX9_readsStroke 64 = .ok (.aload_n 0, 1) := by decide +kernel
theorem dX9_readsStroke_65 : decode cX9_readsStroke 65 = .ok (.iload_n 2, 1) := by decide +kernel
theorem dX9_readsStroke_66 : decode cX9_readsStroke 66 = .ok (.iconst 2, 1) := by decide +kernel
theorem dX9_readsStroke_67 : decode cX9_readsStroke 67 = .ok (.iadd, 1) := by decide +kernel
theorem dX9_readsStroke_68 : decode cX9_readsStroke 68 = .ok (.invokevirtual 106, 3) := by decide +kernel
theorem dX9_readsStroke_71 : decode cX9_readsStroke 71 = .ok (.bipush 48, 2) := by decide +kernel
theorem dX9_readsStroke_73 : decode cX9_readsStroke 73 = .ok (.isub, 1) := by decide +kernel
theorem dX9_readsStroke_74 : decode cX9_readsStroke 74 = .ok (.imul, 1) := by decide +kernel
theorem dX9_readsStroke_75 : decode cX9_readsStroke 75 = .ok (.aload_n 0, 1) := by decide +kernel
theorem dX9_readsStroke_76 : decode cX9_readsStroke 76 = .ok (.iload_n 2, 1) := by decide +kernel
theorem dX9_readsStroke_77 : decode cX9_readsStroke 77 = .ok (.iconst 3, 1) := by decide +kernel
theorem dX9_readsStroke_78 : decode cX9_readsStroke 78 = .ok (.iadd, 1) := by decide +kernel
theorem dX9_readsStroke_79 : decode cX9_readsStroke 79 = .ok (.invokevirtual 106, 3) := by decide +kernel
theorem dX9_readsStroke_82 : decode cX9_readsStroke 82 = .ok (.iadd, 1) := by decide +kernel
theorem dX9_readsStroke_83 : decode cX9_readsStroke 83 = .ok (.bipush 48, 2) := by decide +kernel
theorem dX9_readsStroke_85 : decode cX9_readsStroke 85 = .ok (.isub, 1) := by decide +kernel
theorem dX9_readsStroke_86 : decode cX9_readsStroke 86 = .ok (.iastore, 1) := by decide +kernel
theorem dX9_readsStroke_87 : decode cX9_readsStroke 87 = .ok (.aload_n 0, 1) := by decide +kernel
theorem dX9_readsStroke_88 : decode cX9_readsStroke 88 = .ok (.getfield 25, 3) := by decide +kernel
theorem dX9_readsStroke_91 : decode cX9_readsStroke 91 = .ok (.iload_n 1, 1) := by decide +kernel
theorem dX9_readsStroke_92 : decode cX9_readsStroke 92 = .ok (.aload_n 0, 1) := by decide +kernel
theorem dX9_readsStroke_93 : decode cX9_readsStroke 93 = .ok (.iload_n 2, 1) := by decide +kernel
theorem dX9_readsStroke_94 : decode cX9_readsStroke 94 = .ok (.iconst 4, 1) := by decide +kernel
theorem dX9_readsStroke_95 : decode cX9_readsStroke 95 = .ok (.iadd, 1) := by decide +kernel
theorem dX9_readsStroke_96 : decode cX9_readsStroke 96 = .ok (.invokevirtual 106, 3) := by decide +kernel
theorem dX9_readsStroke_99 : decode cX9_readsStroke 99 = .ok (.bipush 97, 2) := by decide +kernel
theorem dX9_readsStroke_101 : decode cX9_readsStroke 101 = .ok (.isub, 1) := by decide +kernel
theorem dX9_readsStroke_102 : decode cX9_readsStroke 102 = .ok (.iastore, 1) := by decide +kernel
theorem dX9_readsStroke_103 : decode cX9_readsStroke 103 = .ok (.aload_n 0, 1) := by decide +kernel
theorem dX9_readsStroke_104 : decode cX9_readsStroke 104 = .ok (.getfield 28, 3) := by decide +kernel
theorem dX9_readsStroke_107 : decode cX9_readsStroke 107 = .ok (.iload_n 1, 1) := by decide +kernel
theorem dX9_readsStroke_108 : decode cX9_readsStroke 108 = .ok (.aload_n 0, 1) := by decide +kernel
theorem dX9_readsStroke_109 : decode cX9_readsStroke 109 = .ok (.iload_n 2, 1) := by decide +kernel
theorem dX9_readsStroke_110 : decode cX9_readsStroke 110 = .ok (.iconst 5, 1) := by decide +kernel
theorem dX9_readsStroke_111 : decode cX9_readsStroke 111 = .ok (.iadd, 1) := by decide +kernel
theorem dX9_readsStroke_112 : decode cX9_readsStroke 112 = .ok (.invokevirtual 106, 3) := by decide +kernel
theorem dX9_readsStroke_115 : decode cX9_readsStroke 115 = .ok (.bipush 48, 2) := by decide +kernel
theorem dX9_readsStroke_117 : decode cX9_readsStroke 117 = .ok (.isub, 1) := by decide +kernel
theorem dX9_readsStroke_118 : decode cX9_readsStroke 118 = .ok (.iastore, 1) := by decide +kernel
theorem dX9_readsStroke_119 : decode cX9_readsStroke 119 = .ok (.iload_n 3, 1) := by decide +kernel
theorem dX9_readsStroke_120 : decode cX9_readsStroke 120 = .ok (.ireturn, 1) := by decide +kernel
theorem dX9_readsStrokes_0 : decode cX9_readsStrokes 0 = .ok (.iconst 0, 1) := by decide +kernel
theorem dX9_readsStrokes_1 : decode cX9_readsStrokes 1 = .ok (.istore_n 1, 1) := by decide +kernel
theorem dX9_readsStrokes_2 : decode cX9_readsStrokes 2 = .ok (.iconst 0, 1) := by decide +kernel
theorem dX9_readsStrokes_3 : decode cX9_readsStrokes 3 = .ok (.istore_n 2, 1) := by decide +kernel
theorem dX9_readsStrokes_4 : decode cX9_readsStrokes 4 = .ok (.aload_n 0, 1) := by decide +kernel
theorem dX9_readsStrokes_5 : decode cX9_readsStrokes 5 = .ok (.iconst 0, 1) := by decide +kernel
theorem dX9_readsStrokes_6 : decode cX9_readsStrokes 6 = .ok (.putfield 114, 3) := by decide +kernel
theorem dX9_readsStrokes_9 : decode cX9_readsStrokes 9 = .ok (.iload_n 2, 1) := by decide +kernel
theorem dX9_readsStrokes_10 : decode cX9_readsStrokes 10 = .ok (.aload_n 0, 1) := by decide +kernel
theorem dX9_readsStrokes_11 : decode cX9_readsStrokes 11 = .ok (.getfield 7, 3) := by decide +kernel
theorem dX9_readsStrokes_14 : decode cX9_readsStrokes 14 = .ok (.iconst 1, 1) := by decide +kernel
theorem dX9_readsStrokes_15 : decode cX9_readsStrokes 15 = .ok (.iaload, 1) := by decide +kernel
theorem dX9_readsStrokes_16 : decode cX9_readsStrokes 16 = .ok (.if_icmp .lt 7, 3) := by decide +kernel
theorem dX9_readsStrokes_19 : decode cX9_readsStrokes 19 = .ok (.iload_n 2, 1) := by decide +kernel
theorem dX9_readsStrokes_20 : decode cX9_readsStrokes 20 = .ok (.ifCond .le 71, 3) := by decide +kernel
theorem dX9_readsStrokes_23 : decode cX9_readsStrokes 23 = .ok (.iload_n 1, 1) := by decide +kernel
theorem dX9_readsStrokes_24 : decode cX9_readsStrokes 24 = .ok (.bipush 8, 2) := by decide +kernel
theorem dX9_readsStrokes_26 : decode cX9_readsStrokes 26 = .ok (.if_icmp .ne 7, 3) := by decide +kernel
theorem dX9_readsStrokes_29 : decode cX9_readsStrokes 29 = .ok (.iconst 0, 1) := by decide +kernel
theorem dX9_readsStrokes_30 : decode cX9_readsStrokes 30 = .ok (.goto 9, 3) := by decide +kernel
theorem dX9_readsStrokes_33 : decode cX9_readsStrokes 33 = .ok (.aload_n 0, 1) := by decide +kernel
theorem dX9_readsStrokes_34 : decode cX9_readsStrokes 34 = .ok (.iload_n 1, 1) := by decide +kernel
theorem dX9_readsStrokes_35 : decode cX9_readsStrokes 35 = .ok (.iload_n 2, 1) := by decide +kernel
theorem dX9_readsStrokes_36 : decode cX9_readsStrokes 36 = .ok (.invokevirtual 117, 3) := by decide +kernel
theorem dX9_readsStrokes_39 : decode cX9_readsStrokes 39 = .ok (.istore_n 3, 1) := by decide +kernel
theorem dX9_readsStrokes_40 : decode cX9_readsStrokes 40 = .ok (.iload_n 3, 1) := by decide +kernel
theorem dX9_readsStrokes_41 : decode cX9_readsStrokes 41 = .ok (.bipush 6, 2) := by decide +kernel
theorem dX9_readsStrokes_43 : decode cX9_readsStrokes 43 = .ok (.if_icmp .ge 7, 3) := by decide +kernel
theorem dX9_readsStrokes_46 : decode cX9_readsStrokes 46 = .ok (.iload_n 2, 1) := by decide +kernel
theorem dX9_readsStrokes_47 : decode cX9_readsStrokes 47 = .ok (.iload_n 3, 1) := by decide +kernel
theorem dX9_readsStrokes_48 : decode cX9_readsStrokes 48 = .ok (.iadd, 1) := by decide +kernel
theorem dX9_readsStrokes_49 : decode cX9_readsStrokes 49 = .ok (.ireturn, 1) := by decide +kernel
theorem dX9_readsStrokes_50 : decode cX9_readsStrokes 50 = .ok (.iinc 1 1, 3) := by decide +kernel
theorem dX9_readsStrokes_53 : decode cX9_readsStrokes 53 = .ok (.iinc 2 6, 3) := by decide +kernel
theorem dX9_readsStrokes_56 : decode cX9_readsStrokes 56 = .ok (.iload_n 2, 1) := by decide +kernel
theorem dX9_readsStrokes_57 : decode cX9_readsStrokes 57 = .ok (.aload_n 0, 1) := by decide +kernel
theorem dX9_readsStrokes_58 : decode cX9_readsStrokes 58 = .ok (.getfield 7, 3) := by decide +kernel
theorem dX9_readsStrokes_61 : decode cX9_readsStrokes 61 = .ok (.iconst 1, 1) := by decide +kernel
theorem dX9_readsStrokes_62 : decode cX9_readsStrokes 62 = .ok (.iaload, 1) := by decide +kernel
theorem dX9_readsStrokes_63 : decode cX9_readsStrokes 63 = .ok (.if_icmp .ne 10, 3) := by decide +kernel
theorem dX9_readsStrokes_66 : decode cX9_readsStrokes 66 = .ok (.aload_n 0, 1) := by decide +kernel
theorem dX9_readsStrokes_67 : decode cX9_readsStrokes 67 = .ok (.iload_n 1, 1) := by decide +kernel
theorem dX9_readsStrokes_68 : decode cX9_readsStrokes 68 = .ok (.putfield 114, 3) := by decide +kernel
theorem dX9_readsStrokes_71 : decode cX9_readsStrokes 71 = .ok (.iconst (-1), 1) := by decide +kernel
theorem dX9_readsStrokes_72 : decode cX9_readsStrokes 72 = .ok (.ireturn, 1) := by decide +kernel
theorem dX9_readsStrokes_73 : decode cX9_readsStrokes 73 = .ok (.aload_n 0, 1) := by decide +kernel
theorem dX9_readsStrokes_74 : decode cX9_readsStrokes 74 = .ok (.iload_n 2, 1) := by decide +kernel
theorem dX9_readsStrokes_75 : decode cX9_readsStrokes 75 = .ok (.invokevirtual 106, 3) := by decide +kernel
theorem dX9_readsStrokes_78 : decode cX9_readsStrokes 78 = .ok (.bipush 59, 2) := by decide +kernel
theorem dX9_readsStrokes_80 : decode cX9_readsStrokes 80 = .ok (.if_icmp .eq 5, 3) := by decide +kernel
theorem dX9_readsStrokes_83 : decode cX9_readsStrokes 83 = .ok (.iload_n 2, 1) := by decide +kernel
theorem dX9_readsStrokes_84 : decode cX9_readsStrokes 84 = .ok (.ireturn, 1) := by decide +kernel
theorem dX9_readsStrokes_85 : decode cX9_readsStrokes 85 = .ok (.iinc 2 1, 3) := by decide +kernel
theorem dX9_readsStrokes_88 : decode cX9_readsStrokes 88 = .ok (.goto (-79), 3) := by decide +kernel
theorem dX9_readsStrokes_91 : decode cX9_readsStrokes 91 = .ok (.iconst (-1), 1) := by decide +kernel
theorem dX9_readsStrokes_92 : decode cX9_readsStrokes 92 = .ok (.ireturn, 1) := by decide +kernel
theorem dX9_faultOf_0 : decode cX9_faultOf 0 = .ok (.aload_n 0, 1) := by decide +kernel
theorem dX9_faultOf_1 : decode cX9_faultOf 1 = .ok (.invokevirtual 121, 3) := by decide +kernel
theorem dX9_faultOf_4 : decode cX9_faultOf 4 = .ok (.istore_n 2, 1) := by decide +kernel
theorem dX9_faultOf_5 : decode cX9_faultOf 5 = .ok (.aload_n 0, 1) := by decide +kernel
theorem dX9_faultOf_6 : decode cX9_faultOf 6 = .ok (.invokevirtual 125, 3) := by decide +kernel
theorem dX9_faultOf_9 : decode cX9_faultOf 9 = .ok (.istore_n 3, 1) := by decide +kernel
theorem dX9_faultOf_10 : decode cX9_faultOf 10 = .ok (.iload_n 1, 1) := by decide +kernel
theorem dX9_faultOf_11 : decode cX9_faultOf 11 = .ok (.ifCond .ne 7, 3) := by decide +kernel
theorem dX9_faultOf_14 : decode cX9_faultOf 14 = .ok (.iload_n 2, 1) := by decide +kernel
theorem dX9_faultOf_15 : decode cX9_faultOf 15 = .ok (.goto 4, 3) := by decide +kernel
theorem dX9_faultOf_18 : decode cX9_faultOf 18 = .ok (.iload_n 3, 1) := by decide +kernel
theorem dX9_faultOf_19 : decode cX9_faultOf 19 = .ok (.ireturn, 1) := by decide +kernel
theorem dX9_reads_0 : decode cX9_reads 0 = .ok (.aload_n 0, 1) := by decide +kernel
theorem dX9_reads_1 : decode cX9_reads 1 = .ok (.iconst 0, 1) := by decide +kernel
theorem dX9_reads_2 : decode cX9_reads 2 = .ok (.invokevirtual 128, 3) := by decide +kernel
theorem dX9_reads_5 : decode cX9_reads 5 = .ok (.istore_n 1, 1) := by decide +kernel
theorem dX9_reads_6 : decode cX9_reads 6 = .ok (.return_, 1) := by decide +kernel
theorem dX9_fault_0 : decode cX9_fault 0 = .ok (.iload_n 1, 1) := by decide +kernel
theorem dX9_fault_1 : decode cX9_fault 1 = .ok (.invokestatic 99, 3) := by decide +kernel
theorem dX9_fault_4 : decode cX9_fault 4 = .ok (.ifCond .eq 11, 3) := by decide +kernel
theorem dX9_fault_7 : decode cX9_fault 7 = .ok (.aload_n 0, 1) := by decide +kernel
theorem dX9_fault_8 : decode cX9_fault 8 = .ok (.iload_n 1, 1) := by decide +kernel
theorem dX9_fault_9 : decode cX9_fault 9 = .ok (.invokevirtual 128, 3) := by decide +kernel
theorem dX9_fault_12 : decode cX9_fault 12 = .ok (.goto 5, 3) := by decide +kernel
theorem dX9_fault_15 : decode cX9_fault 15 = .ok (.bipush (-2), 2) := by decide +kernel
theorem dX9_fault_17 : decode cX9_fault 17 = .ok (.ireturn, 1) := by decide +kernel
theorem dX9_dampOf_0 : decode cX9_dampOf 0 = .ok (.aload_n 0, 1) := by decide +kernel
theorem dX9_dampOf_1 : decode cX9_dampOf 1 = .ok (.invokevirtual 131, 3) := by decide +kernel
theorem dX9_dampOf_4 : decode cX9_dampOf 4 = .ok (.aload_n 0, 1) := by decide +kernel
theorem dX9_dampOf_5 : decode cX9_dampOf 5 = .ok (.getfield 16, 3) := by decide +kernel
theorem dX9_dampOf_8 : decode cX9_dampOf 8 = .ok (.iload_n 1, 1) := by decide +kernel
theorem dX9_dampOf_9 : decode cX9_dampOf 9 = .ok (.iaload, 1) := by decide +kernel
theorem dX9_dampOf_10 : decode cX9_dampOf 10 = .ok (.ireturn, 1) := by decide +kernel
theorem dX9_damp_0 : decode cX9_damp 0 = .ok (.iload_n 1, 1) := by decide +kernel
theorem dX9_damp_1 : decode cX9_damp 1 = .ok (.invokestatic 134, 3) := by decide +kernel
theorem dX9_damp_4 : decode cX9_damp 4 = .ok (.ifCond .eq 11, 3) := by decide +kernel
theorem dX9_damp_7 : decode cX9_damp 7 = .ok (.aload_n 0, 1) := by decide +kernel
theorem dX9_damp_8 : decode cX9_damp 8 = .ok (.iload_n 1, 1) := by decide +kernel
theorem dX9_damp_9 : decode cX9_damp 9 = .ok (.invokevirtual 137, 3) := by decide +kernel
theorem dX9_damp_12 : decode cX9_damp 12 = .ok (.goto 5, 3) := by decide +kernel
theorem dX9_damp_15 : decode cX9_damp 15 = .ok (.bipush (-2), 2) := by decide +kernel
theorem dX9_damp_17 : decode cX9_damp 17 = .ok (.ireturn, 1) := by decide +kernel
theorem dX9_isStroke_0 : decode cX9_isStroke 0 = .ok (.aload_n 0, 1) := by decide +kernel
theorem dX9_isStroke_1 : decode cX9_isStroke 1 = .ok (.invokevirtual 131, 3) := by decide +kernel
theorem dX9_isStroke_4 : decode cX9_isStroke 4 = .ok (.iload_n 1, 1) := by decide +kernel
theorem dX9_isStroke_5 : decode cX9_isStroke 5 = .ok (.iconst 0, 1) := by decide +kernel
theorem dX9_isStroke_6 : decode cX9_isStroke 6 = .ok (.aload_n 0, 1) := by decide +kernel
theorem dX9_isStroke_7 : decode cX9_isStroke 7 = .ok (.getfield 114, 3) := by decide +kernel
theorem dX9_isStroke_10 : decode cX9_isStroke 10 = .ok (.iconst 1, 1) := by decide +kernel
theorem dX9_isStroke_11 : decode cX9_isStroke 11 = .ok (.isub, 1) := by decide +kernel
theorem dX9_isStroke_12 : decode cX9_isStroke 12 = .ok (.invokestatic 95, 3) := by decide +kernel
theorem dX9_isStroke_15 : decode cX9_isStroke 15 = .ok (.ireturn, 1) := by decide +kernel
theorem dX9_strokeOf_0 : decode cX9_strokeOf 0 = .ok (.iload_n 2, 1) := by decide +kernel
theorem dX9_strokeOf_1 : decode cX9_strokeOf 1 = .ok (.ifCond .ne 12, 3) := by decide +kernel
theorem dX9_strokeOf_4 : decode cX9_strokeOf 4 = .ok (.aload_n 0, 1) := by decide +kernel
theorem dX9_strokeOf_5 : decode cX9_strokeOf 5 = .ok (.getfield 19, 3) := by decide +kernel
theorem dX9_strokeOf_8 : decode cX9_strokeOf 8 = .ok (.iload_n 1, 1) := by decide +kernel
theorem dX9_strokeOf_9 : decode cX9_strokeOf 9 = .ok (.iaload, 1) := by decide +kernel
theorem dX9_strokeOf_10 : decode cX9_strokeOf 10 = .ok (.goto 37, 3) := by decide +kernel
theorem dX9_strokeOf_13 : decode cX9_strokeOf 13 = .ok (.iload_n 2, 1) := by decide +kernel
theorem dX9_strokeOf_14 : decode cX9_strokeOf 14 = .ok (.iconst 1, 1) := by decide +kernel
theorem dX9_strokeOf_15 : decode cX9_strokeOf 15 = .ok (.if_icmp .ne 12, 3) := by decide +kernel
theorem dX9_strokeOf_18 : decode cX9_strokeOf 18 = .ok (.aload_n 0, 1) := by decide +kernel
theorem dX9_strokeOf_19 : decode cX9_strokeOf 19 = .ok (.getfield 22, 3) := by decide +kernel
theorem dX9_strokeOf_22 : decode cX9_strokeOf 22 = .ok (.iload_n 1, 1) := by decide +kernel
theorem dX9_strokeOf_23 : decode cX9_strokeOf 23 = .ok (.iaload, 1) := by decide +kernel
theorem dX9_strokeOf_24 : decode cX9_strokeOf 24 = .ok (.goto 23, 3) := by decide +kernel
theorem dX9_strokeOf_27 : decode cX9_strokeOf 27 = .ok (.iload_n 2, 1) := by decide +kernel
theorem dX9_strokeOf_28 : decode cX9_strokeOf 28 = .ok (.iconst 2, 1) := by decide +kernel
theorem dX9_strokeOf_29 : decode cX9_strokeOf 29 = .ok (.if_icmp .ne 12, 3) := by decide +kernel
theorem dX9_strokeOf_32 : decode cX9_strokeOf 32 = .ok (.aload_n 0, 1) := by decide +kernel
theorem dX9_strokeOf_33 : decode cX9_strokeOf 33 = .ok (.getfield 25, 3) := by decide +kernel
theorem dX9_strokeOf_36 : decode cX9_strokeOf 36 = .ok (.iload_n 1, 1) := by decide +kernel
theorem dX9_strokeOf_37 : decode cX9_strokeOf 37 = .ok (.iaload, 1) := by decide +kernel
theorem dX9_strokeOf_38 : decode cX9_strokeOf 38 = .ok (.goto 9, 3) := by decide +kernel
theorem dX9_strokeOf_41 : decode cX9_strokeOf 41 = .ok (.aload_n 0, 1) := by decide +kernel
theorem dX9_strokeOf_42 : decode cX9_strokeOf 42 = .ok (.getfield 28, 3) := by decide +kernel
theorem dX9_strokeOf_45 : decode cX9_strokeOf 45 = .ok (.iload_n 1, 1) := by decide +kernel
theorem dX9_strokeOf_46 : decode cX9_strokeOf 46 = .ok (.iaload, 1) := by decide +kernel
theorem dX9_strokeOf_47 : decode cX9_strokeOf 47 = .ok (.ireturn, 1) := by decide +kernel
theorem dX9_stroke_0 : decode cX9_stroke 0 = .ok (.aload_n 0, 1) := by decide +kernel
theorem dX9_stroke_1 : decode cX9_stroke 1 = .ok (.iload_n 1, 1) := by decide +kernel
theorem dX9_stroke_2 : decode cX9_stroke 2 = .ok (.invokevirtual 140, 3) := by decide +kernel
theorem dX9_stroke_5 : decode cX9_stroke 5 = .ok (.ifCond .eq 21, 3) := by decide +kernel
theorem dX9_stroke_8 : decode cX9_stroke 8 = .ok (.iload_n 2, 1) := by decide +kernel
theorem dX9_stroke_9 : decode cX9_stroke 9 = .ok (.iconst 0, 1) := by decide +kernel
theorem dX9_stroke_10 : decode cX9_stroke 10 = .ok (.iconst 3, 1) := by decide +kernel
theorem dX9_stroke_11 : decode cX9_stroke 11 = .ok (.invokestatic 95, 3) := by decide +kernel
theorem dX9_stroke_14 : decode cX9_stroke 14 = .ok (.ifCond .eq 12, 3) := by decide +kernel
theorem dX9_stroke_17 : decode cX9_stroke 17 = .ok (.aload_n 0, 1) := by decide +kernel
theorem dX9_stroke_18 : decode cX9_stroke 18 = .ok (.iload_n 1, 1) := by decide +kernel
theorem dX9_stroke_19 : decode cX9_stroke 19 = .ok (.iload_n 2, 1) := by decide +kernel
theorem dX9_stroke_20 : decode cX9_stroke 20 = .ok (.invokevirtual 143, 3) := by decide +kernel
theorem dX9_stroke_23 : decode cX9_stroke 23 = .ok (.goto 5, 3) := by decide +kernel
theorem dX9_stroke_26 : decode cX9_stroke 26 = .ok (.bipush (-2), 2) := by decide +kernel
theorem dX9_stroke_28 : decode cX9_stroke 28 = .ok (.ireturn, 1) := by decide +kernel
theorem dX9_fine_0 : decode cX9_fine 0 = .ok (.iload_n 1, 1) := by decide +kernel
theorem dX9_fine_1 : decode cX9_fine 1 = .ok (.iconst 0, 1) := by decide +kernel
theorem dX9_fine_2 : decode cX9_fine 2 = .ok (.bipush 9, 2) := by decide +kernel
theorem dX9_fine_4 : decode cX9_fine 4 = .ok (.invokestatic 95, 3) := by decide +kernel
theorem dX9_fine_7 : decode cX9_fine 7 = .ok (.ifCond .ne 6, 3) := by decide +kernel
theorem dX9_fine_10 : decode cX9_fine 10 = .ok (.bipush (-2), 2) := by decide +kernel
theorem dX9_fine_12 : decode cX9_fine 12 = .ok (.ireturn, 1) := by decide +kernel
theorem dX9_fine_13 : decode cX9_fine 13 = .ok (.aload_n 0, 1) := by decide +kernel
theorem dX9_fine_14 : decode cX9_fine 14 = .ok (.getfield 89, 3) := by decide +kernel
theorem dX9_fine_17 : decode cX9_fine 17 = .ok (.istore_n 2, 1) := by decide +kernel
theorem dX9_fine_18 : decode cX9_fine 18 = .ok (.aload_n 0, 1) := by decide +kernel
theorem dX9_fine_19 : decode cX9_fine 19 = .ok (.iload_n 1, 1) := by decide +kernel
theorem dX9_fine_20 : decode cX9_fine 20 = .ok (.putfield 89, 3) := by decide +kernel
theorem dX9_fine_23 : decode cX9_fine 23 = .ok (.iload_n 2, 1) := by decide +kernel
theorem dX9_fine_24 : decode cX9_fine 24 = .ok (.ireturn, 1) := by decide +kernel
theorem dX9_clean_0 : decode cX9_clean 0 = .ok (.iload_n 1, 1) := by decide +kernel
theorem dX9_clean_1 : decode cX9_clean 1 = .ok (.invokestatic 134, 3) := by decide +kernel
theorem dX9_clean_4 : decode cX9_clean 4 = .ok (.ifCond .eq 12, 3) := by decide +kernel
theorem dX9_clean_7 : decode cX9_clean 7 = .ok (.iload_n 2, 1) := by decide +kernel
theorem dX9_clean_8 : decode cX9_clean 8 = .ok (.iconst 0, 1) := by decide +kernel
theorem dX9_clean_9 : decode cX9_clean 9 = .ok (.iconst 5, 1) := by decide +kernel
theorem dX9_clean_10 : decode cX9_clean 10 = .ok (.invokestatic 95, 3) := by decide +kernel
theorem dX9_clean_13 : decode cX9_clean 13 = .ok (.ifCond .ne 6, 3) := by decide +kernel
theorem dX9_clean_16 : decode cX9_clean 16 = .ok (.bipush (-2), 2) := by decide +kernel
theorem dX9_clean_18 : decode cX9_clean 18 = .ok (.ireturn, 1) := by decide +kernel
theorem dX9_clean_19 : decode cX9_clean 19 = .ok (.aload_n 0, 1) := by decide +kernel
theorem dX9_clean_20 : decode cX9_clean 20 = .ok (.getfield 146, 3) := by decide +kernel
theorem dX9_clean_23 : decode cX9_clean 23 = .ok (.bipush 8, 2) := by decide +kernel
theorem dX9_clean_25 : decode cX9_clean 25 = .ok (.if_icmp .ne 6, 3) := by decide +kernel
theorem dX9_clean_28 : decode cX9_clean 28 = .ok (.bipush (-4), 2) := by decide +kernel
theorem dX9_clean_30 : decode cX9_clean 30 = .ok (.ireturn, 1) := by decide +kernel
theorem dX9_clean_31 : decode cX9_clean 31 = .ok (.aload_n 0, 1) := by decide +kernel
theorem dX9_clean_32 : decode cX9_clean 32 = .ok (.getfield 31, 3) := by decide +kernel
theorem dX9_clean_35 : decode cX9_clean 35 = .ok (.aload_n 0, 1) := by decide +kernel
theorem dX9_clean_36 : decode cX9_clean 36 = .ok (.getfield 146, 3) := by decide +kernel
theorem dX9_clean_39 : decode cX9_clean 39 = .ok (.iload_n 1, 1) := by decide +kernel
theorem dX9_clean_40 : decode cX9_clean 40 = .ok (.iastore, 1) := by decide +kernel
theorem dX9_clean_41 : decode cX9_clean 41 = .ok (.aload_n 0, 1) := by decide +kernel
theorem dX9_clean_42 : decode cX9_clean 42 = .ok (.getfield 34, 3) := by decide +kernel
theorem dX9_clean_45 : decode cX9_clean 45 = .ok (.aload_n 0, 1) := by decide +kernel
theorem dX9_clean_46 : decode cX9_clean 46 = .ok (.getfield 146, 3) := by decide +kernel
theorem dX9_clean_49 : decode cX9_clean 49 = .ok (.iload_n 2, 1) := by decide +kernel
theorem dX9_clean_50 : decode cX9_clean 50 = .ok (.iastore, 1) := by decide +kernel
theorem dX9_clean_51 : decode cX9_clean 51 = .ok (.aload_n 0, 1) := by decide +kernel
theorem dX9_clean_52 : decode cX9_clean 52 = .ok (.dup, 1) := by decide +kernel
theorem dX9_clean_53 : decode cX9_clean 53 = .ok (.getfield 146, 3) := by decide +kernel
theorem dX9_clean_56 : decode cX9_clean 56 = .ok (.iconst 1, 1) := by decide +kernel
theorem dX9_clean_57 : decode cX9_clean 57 = .ok (.iadd, 1) := by decide +kernel
theorem dX9_clean_58 : decode cX9_clean 58 = .ok (.putfield 146, 3) := by decide +kernel
theorem dX9_clean_61 : decode cX9_clean 61 = .ok (.aload_n 0, 1) := by decide +kernel
theorem dX9_clean_62 : decode cX9_clean 62 = .ok (.getfield 146, 3) := by decide +kernel
theorem dX9_clean_65 : decode cX9_clean 65 = .ok (.ireturn, 1) := by decide +kernel
theorem dX9_grease_0 : decode cX9_grease 0 = .ok (.iload_n 1, 1) := by decide +kernel
theorem dX9_grease_1 : decode cX9_grease 1 = .ok (.invokestatic 134, 3) := by decide +kernel
theorem dX9_grease_4 : decode cX9_grease 4 = .ok (.ifCond .eq 12, 3) := by decide +kernel
theorem dX9_grease_7 : decode cX9_grease 7 = .ok (.iload_n 2, 1) := by decide +kernel
theorem dX9_grease_8 : decode cX9_grease 8 = .ok (.iconst 0, 1) := by decide +kernel
theorem dX9_grease_9 : decode cX9_grease 9 = .ok (.iconst 5, 1) := by decide +kernel
theorem dX9_grease_10 : decode cX9_grease 10 = .ok (.invokestatic 95, 3) := by decide +kernel
theorem dX9_grease_13 : decode cX9_grease 13 = .ok (.ifCond .ne 6, 3) := by decide +kernel
theorem dX9_grease_16 : decode cX9_grease 16 = .ok (.bipush (-2), 2) := by decide +kernel
theorem dX9_grease_18 : decode cX9_grease 18 = .ok (.ireturn, 1) := by decide +kernel
theorem dX9_grease_19 : decode cX9_grease 19 = .ok (.aload_n 0, 1) := by decide +kernel
theorem dX9_grease_20 : decode cX9_grease 20 = .ok (.getfield 149, 3) := by decide +kernel
theorem dX9_grease_23 : decode cX9_grease 23 = .ok (.iconst 4, 1) := by decide +kernel
theorem dX9_grease_24 : decode cX9_grease 24 = .ok (.if_icmp .ne 6, 3) := by decide +kernel
theorem dX9_grease_27 : decode cX9_grease 27 = .ok (.bipush (-4), 2) := by decide +kernel
theorem dX9_grease_29 : decode cX9_grease 29 = .ok (.ireturn, 1) := by decide +kernel
theorem dX9_grease_30 : decode cX9_grease 30 = .ok (.aload_n 0, 1) := by decide +kernel
theorem dX9_grease_31 : decode cX9_grease 31 = .ok (.getfield 37, 3) := by decide +kernel
theorem dX9_grease_34 : decode cX9_grease 34 = .ok (.aload_n 0, 1) := by decide +kernel
theorem dX9_grease_35 : decode cX9_grease 35 = .ok (.getfield 149, 3) := by decide +kernel
theorem dX9_grease_38 : decode cX9_grease 38 = .ok (.iload_n 1, 1) := by decide +kernel
theorem dX9_grease_39 : decode cX9_grease 39 = .ok (.iastore, 1) := by decide +kernel
theorem dX9_grease_40 : decode cX9_grease 40 = .ok (.aload_n 0, 1) := by decide +kernel
theorem dX9_grease_41 : decode cX9_grease 41 = .ok (.getfield 40, 3) := by decide +kernel
theorem dX9_grease_44 : decode cX9_grease 44 = .ok (.aload_n 0, 1) := by decide +kernel
theorem dX9_grease_45 : decode cX9_grease 45 = .ok (.getfield 149, 3) := by decide +kernel
theorem dX9_grease_48 : decode cX9_grease 48 = .ok (.iload_n 2, 1) := by decide +kernel
theorem dX9_grease_49 : decode cX9_grease 49 = .ok (.iastore, 1) := by decide +kernel
theorem dX9_grease_50 : decode cX9_grease 50 = .ok (.aload_n 0, 1) := by decide +kernel
theorem dX9_grease_51 : decode cX9_grease 51 = .ok (.dup, 1) := by decide +kernel
theorem dX9_grease_52 : decode cX9_grease 52 = .ok (.getfield 149, 3) := by decide +kernel
theorem dX9_grease_55 : decode cX9_grease 55 = .ok (.iconst 1, 1) := by decide +kernel
theorem dX9_grease_56 : decode cX9_grease 56 = .ok (.iadd, 1) := by decide +kernel
theorem dX9_grease_57 : decode cX9_grease 57 = .ok (.putfield 149, 3) := by decide +kernel
theorem dX9_grease_60 : decode cX9_grease 60 = .ok (.aload_n 0, 1) := by decide +kernel
theorem dX9_grease_61 : decode cX9_grease 61 = .ok (.getfield 149, 3) := by decide +kernel
theorem dX9_grease_64 : decode cX9_grease 64 = .ok (.ireturn, 1) := by decide +kernel
theorem dX9_back_0 : decode cX9_back 0 = .ok (.iload_n 1, 1) := by decide +kernel
theorem dX9_back_1 : decode cX9_back 1 = .ok (.iconst 0, 1) := by decide +kernel
theorem dX9_back_2 : decode cX9_back 2 = .ok (.iconst 1, 1) := by decide +kernel
theorem dX9_back_3 : decode cX9_back 3 = .ok (.invokestatic 95, 3) := by decide +kernel
theorem dX9_back_6 : decode cX9_back 6 = .ok (.ifCond .ne 6, 3) := by decide +kernel
theorem dX9_back_9 : decode cX9_back 9 = .ok (.bipush (-2), 2) := by decide +kernel
theorem dX9_back_11 : decode cX9_back 11 = .ok (.ireturn, 1) := by decide +kernel
theorem dX9_back_12 : decode cX9_back 12 = .ok (.iload_n 1, 1) := by decide +kernel
theorem dX9_back_13 : decode cX9_back 13 = .ok (.ifCond .ne 10, 3) := by decide +kernel
theorem dX9_back_16 : decode cX9_back 16 = .ok (.aload_n 0, 1) := by decide +kernel
theorem dX9_back_17 : decode cX9_back 17 = .ok (.getfield 146, 3) := by decide +kernel
theorem dX9_back_20 : decode cX9_back 20 = .ok (.goto 7, 3) := by decide +kernel
theorem dX9_back_23 : decode cX9_back 23 = .ok (.aload_n 0, 1) := by decide +kernel
theorem dX9_back_24 : decode cX9_back 24 = .ok (.getfield 149, 3) := by decide +kernel
theorem dX9_back_27 : decode cX9_back 27 = .ok (.istore_n 2, 1) := by decide +kernel
theorem dX9_back_28 : decode cX9_back 28 = .ok (.iload_n 2, 1) := by decide +kernel
theorem dX9_back_29 : decode cX9_back 29 = .ok (.ifCond .ne 6, 3) := by decide +kernel
theorem dX9_back_32 : decode cX9_back 32 = .ok (.bipush (-3), 2) := by decide +kernel
theorem dX9_back_34 : decode cX9_back 34 = .ok (.ireturn, 1) := by decide +kernel
theorem dX9_back_35 : decode cX9_back 35 = .ok (.aload_n 0, 1) := by decide +kernel
theorem dX9_back_36 : decode cX9_back 36 = .ok (.dup, 1) := by decide +kernel
theorem dX9_back_37 : decode cX9_back 37 = .ok (.getfield 146, 3) := by decide +kernel
theorem dX9_back_40 : decode cX9_back 40 = .ok (.iload_n 1, 1) := by decide +kernel
theorem dX9_back_41 : decode cX9_back 41 = .ok (.ifCond .ne 7, 3) := by decide +kernel
theorem dX9_back_44 : decode cX9_back 44 = .ok (.iconst 1, 1) := by decide +kernel
theorem dX9_back_45 : decode cX9_back 45 = .ok (.goto 4, 3) := by decide +kernel
theorem dX9_back_48 : decode cX9_back 48 = .ok (.iconst 0, 1) := by decide +kernel
theorem dX9_back_49 : decode cX9_back 49 = .ok (.isub, 1) := by decide +kernel
theorem dX9_back_50 : decode cX9_back 50 = .ok (.putfield 146, 3) := by decide +kernel
theorem dX9_back_53 : decode cX9_back 53 = .ok (.aload_n 0, 1) := by decide +kernel
theorem dX9_back_54 : decode cX9_back 54 = .ok (.dup, 1) := by decide +kernel
theorem dX9_back_55 : decode cX9_back 55 = .ok (.getfield 149, 3) := by decide +kernel
theorem dX9_back_58 : decode cX9_back 58 = .ok (.iload_n 1, 1) := by decide +kernel
theorem dX9_back_59 : decode cX9_back 59 = .ok (.iconst 1, 1) := by decide +kernel
theorem dX9_back_60 : decode cX9_back 60 = .ok (.if_icmp .ne 7, 3) := by decide +kernel
theorem dX9_back_63 : decode cX9_back 63 = .ok (.iconst 1, 1) := by decide +kernel
theorem dX9_back_64 : decode cX9_back 64 = .ok (.goto 4, 3) := by decide +kernel
theorem dX9_back_67 : decode cX9_back 67 = .ok (.iconst 0, 1) := by decide +kernel
theorem dX9_back_68 : decode cX9_back 68 = .ok (.isub, 1) := by decide +kernel
theorem dX9_back_69 : decode cX9_back 69 = .ok (.putfield 149, 3) := by decide +kernel
theorem dX9_back_72 : decode cX9_back 72 = .ok (.iload_n 2, 1) := by decide +kernel
theorem dX9_back_73 : decode cX9_back 73 = .ok (.iconst 1, 1) := by decide +kernel
theorem dX9_back_74 : decode cX9_back 74 = .ok (.isub, 1) := by decide +kernel
theorem dX9_back_75 : decode cX9_back 75 = .ok (.ireturn, 1) := by decide +kernel
theorem dX9_read_0 : decode cX9_read 0 = .ok (.iload_n 1, 1) := by decide +kernel
theorem dX9_read_1 : decode cX9_read 1 = .ok (.invokestatic 152, 3) := by decide +kernel
theorem dX9_read_4 : decode cX9_read 4 = .ok (.ifCond .ne 6, 3) := by decide +kernel
theorem dX9_read_7 : decode cX9_read 7 = .ok (.bipush (-2), 2) := by decide +kernel
theorem dX9_read_9 : decode cX9_read 9 = .ok (.ireturn, 1) := by decide +kernel
theorem dX9_read_10 : decode cX9_read 10 = .ok (.aload_n 0, 1) := by decide +kernel
theorem dX9_read_11 : decode cX9_read 11 = .ok (.getfield 73, 3) := by decide +kernel
theorem dX9_read_14 : decode cX9_read 14 = .ok (.iload_n 1, 1) := by decide +kernel
theorem dX9_read_15 : decode cX9_read 15 = .ok (.baload, 1) := by decide +kernel
theorem dX9_read_16 : decode cX9_read 16 = .ok (.ifCond .ne 9, 3) := by decide +kernel
theorem dX9_read_19 : decode cX9_read 19 = .ok (.aload_n 0, 1) := by decide +kernel
theorem dX9_read_20 : decode cX9_read 20 = .ok (.iconst 1, 1) := by decide +kernel
theorem dX9_read_21 : decode cX9_read 21 = .ok (.invokevirtual 155, 3) := by decide +kernel
theorem dX9_read_24 : decode cX9_read 24 = .ok (.ireturn, 1) := by decide +kernel
theorem dX9_read_25 : decode cX9_read 25 = .ok (.iconst 0, 1) := by decide +kernel
theorem dX9_read_26 : decode cX9_read 26 = .ok (.istore_n 2, 1) := by decide +kernel
theorem dX9_read_27 : decode cX9_read 27 = .ok (.iconst 2, 1) := by decide +kernel
theorem dX9_read_28 : decode cX9_read 28 = .ok (.iload_n 2, 1) := by decide +kernel
theorem dX9_read_29 : decode cX9_read 29 = .ok (.imul, 1) := by decide +kernel
theorem dX9_read_30 : decode cX9_read 30 = .ok (.iconst 1, 1) := by decide +kernel
theorem dX9_read_31 : decode cX9_read 31 = .ok (.iadd, 1) := by decide +kernel
theorem dX9_read_32 : decode cX9_read 32 = .ok (.aload_n 0, 1) := by decide +kernel
theorem dX9_read_33 : decode cX9_read 33 = .ok (.getfield 80, 3) := by decide +kernel
theorem dX9_read_36 : decode cX9_read 36 = .ok (.iload_n 1, 1) := by decide +kernel
theorem dX9_read_37 : decode cX9_read 37 = .ok (.iaload, 1) := by decide +kernel
theorem dX9_read_38 : decode cX9_read 38 = .ok (.if_icmp .ge 44, 3) := by decide +kernel
theorem dX9_read_41 : decode cX9_read 41 = .ok (.aload_n 0, 1) := by decide +kernel
theorem dX9_read_42 : decode cX9_read 42 = .ok (.aload_n 0, 1) := by decide +kernel
theorem dX9_read_43 : decode cX9_read 43 = .ok (.getfield 83, 3) := by decide +kernel
theorem dX9_read_46 : decode cX9_read 46 = .ok (.bipush 60, 2) := by decide +kernel
theorem dX9_read_48 : decode cX9_read 48 = .ok (.iload_n 1, 1) := by decide +kernel
theorem dX9_read_49 : decode cX9_read 49 = .ok (.imul, 1) := by decide +kernel
theorem dX9_read_50 : decode cX9_read 50 = .ok (.iconst 2, 1) := by decide +kernel
theorem dX9_read_51 : decode cX9_read 51 = .ok (.iload_n 2, 1) := by decide +kernel
theorem dX9_read_52 : decode cX9_read 52 = .ok (.imul, 1) := by decide +kernel
theorem dX9_read_53 : decode cX9_read 53 = .ok (.iadd, 1) := by decide +kernel
theorem dX9_read_54 : decode cX9_read 54 = .ok (.iaload, 1) := by decide +kernel
theorem dX9_read_55 : decode cX9_read 55 = .ok (.aload_n 0, 1) := by decide +kernel
theorem dX9_read_56 : decode cX9_read 56 = .ok (.getfield 83, 3) := by decide +kernel
theorem dX9_read_59 : decode cX9_read 59 = .ok (.bipush 60, 2) := by decide +kernel
theorem dX9_read_61 : decode cX9_read 61 = .ok (.iload_n 1, 1) := by decide +kernel
theorem dX9_read_62 : decode cX9_read 62 = .ok (.imul, 1) := by decide +kernel
theorem dX9_read_63 : decode cX9_read 63 = .ok (.iconst 2, 1) := by decide +kernel
theorem dX9_read_64 : decode cX9_read 64 = .ok (.iload_n 2, 1) := by decide +kernel
theorem dX9_read_65 : decode cX9_read 65 = .ok (.imul, 1) := by decide +kernel
theorem dX9_read_66 : decode cX9_read 66 = .ok (.iadd, 1) := by decide +kernel
theorem dX9_read_67 : decode cX9_read 67 = .ok (.iconst 1, 1) := by decide +kernel
theorem dX9_read_68 : decode cX9_read 68 = .ok (.iadd, 1) := by decide +kernel
theorem dX9_read_69 : decode cX9_read 69 = .ok (.iaload, 1) := by decide +kernel
theorem dX9_read_70 : decode cX9_read 70 = .ok (.invokevirtual 158, 3) := by decide +kernel
theorem dX9_read_73 : decode cX9_read 73 = .ok (.ifCond .le 9, 3) := by decide +kernel
theorem dX9_read_76 : decode cX9_read 76 = .ok (.iinc 2 1, 3) := by decide +kernel
theorem dX9_read_79 : decode cX9_read 79 = .ok (.goto (-52), 3) := by decide +kernel
theorem dX9_read_82 : decode cX9_read 82 = .ok (.iload_n 2, 1) := by decide +kernel
theorem dX9_read_83 : decode cX9_read 83 = .ok (.ireturn, 1) := by decide +kernel
theorem dX9_asTold_0 : decode cX9_asTold 0 = .ok (.aload_n 0, 1) := by decide +kernel
theorem dX9_asTold_1 : decode cX9_asTold 1 = .ok (.invokevirtual 131, 3) := by decide +kernel
theorem dX9_asTold_4 : decode cX9_asTold 4 = .ok (.aload_n 0, 1) := by decide +kernel
theorem dX9_asTold_5 : decode cX9_asTold 5 = .ok (.iconst 0, 1) := by decide +kernel
theorem dX9_asTold_6 : decode cX9_asTold 6 = .ok (.putfield 161, 3) := by decide +kernel
theorem dX9_asTold_9 : decode cX9_asTold 9 = .ok (.aload_n 0, 1) := by decide +kernel
theorem dX9_asTold_10 : decode cX9_asTold 10 = .ok (.iconst 0, 1) := by decide +kernel
theorem dX9_asTold_11 : decode cX9_asTold 11 = .ok (.putfield 164, 3) := by decide +kernel
theorem dX9_asTold_14 : decode cX9_asTold 14 = .ok (.iconst 0, 1) := by decide +kernel
theorem dX9_asTold_15 : decode cX9_asTold 15 = .ok (.istore_n 1, 1) := by decide +kernel
theorem dX9_asTold_16 : decode cX9_asTold 16 = .ok (.iload_n 1, 1) := by decide +kernel
theorem dX9_asTold_17 : decode cX9_asTold 17 = .ok (.bipush 20, 2) := by decide +kernel
theorem dX9_asTold_19 : decode cX9_asTold 19 = .ok (.if_icmp .ge 21, 3) := by decide +kernel
theorem dX9_asTold_22 : decode cX9_asTold 22 = .ok (.aload_n 0, 1) := by decide +kernel
theorem dX9_asTold_23 : decode cX9_asTold 23 = .ok (.getfield 43, 3) := by decide +kernel
theorem dX9_asTold_26 : decode cX9_asTold 26 = .ok (.iload_n 1, 1) := by decide +kernel
theorem dX9_asTold_27 : decode cX9_asTold 27 = .ok (.aload_n 0, 1) := by decide +kernel
theorem dX9_asTold_28 : decode cX9_asTold 28 = .ok (.getfield 16, 3) := by decide +kernel
theorem dX9_asTold_31 : decode cX9_asTold 31 = .ok (.iload_n 1, 1) := by decide +kernel
theorem dX9_asTold_32 : decode cX9_asTold 32 = .ok (.iaload, 1) := by decide +kernel
theorem dX9_asTold_33 : decode cX9_asTold 33 = .ok (.iastore, 1) := by decide +kernel
theorem dX9_asTold_34 : decode cX9_asTold 34 = .ok (.iinc 1 1, 3) := by decide +kernel
theorem dX9_asTold_37 : decode cX9_asTold 37 = .ok (.goto (-21), 3) := by decide +kernel
theorem dX9_asTold_40 : decode cX9_asTold 40 = .ok (.return_, 1) := by decide +kernel
theorem dX9_goesIn_0 : decode cX9_goesIn 0 = .ok (.aload_n 0, 1) := by decide +kernel
theorem dX9_goesIn_1 : decode cX9_goesIn 1 = .ok (.getfield 46, 3) := by decide +kernel
theorem dX9_goesIn_4 : decode cX9_goesIn 4 = .ok (.iload_n 1, 1) := by decide +kernel
theorem dX9_goesIn_5 : decode cX9_goesIn 5 = .ok (.iconst 2, 1) := by decide +kernel
theorem dX9_goesIn_6 : decode cX9_goesIn 6 = .ok (.iastore, 1) := by decide +kernel
theorem dX9_goesIn_7 : decode cX9_goesIn 7 = .ok (.aload_n 0, 1) := by decide +kernel
theorem dX9_goesIn_8 : decode cX9_goesIn 8 = .ok (.getfield 49, 3) := by decide +kernel
theorem dX9_goesIn_11 : decode cX9_goesIn 11 = .ok (.iload_n 1, 1) := by decide +kernel
theorem dX9_goesIn_12 : decode cX9_goesIn 12 = .ok (.aload_n 0, 1) := by decide +kernel
theorem dX9_goesIn_13 : decode cX9_goesIn 13 = .ok (.getfield 28, 3) := by decide +kernel
theorem dX9_goesIn_16 : decode cX9_goesIn 16 = .ok (.iload_n 1, 1) := by decide +kernel
theorem dX9_goesIn_17 : decode cX9_goesIn 17 = .ok (.iaload, 1) := by decide +kernel
theorem dX9_goesIn_18 : decode cX9_goesIn 18 = .ok (.iastore, 1) := by decide +kernel
theorem dX9_goesIn_19 : decode cX9_goesIn 19 = .ok (.return_, 1) := by decide +kernel
theorem dX9_isOiled_0 : decode cX9_isOiled 0 = .ok (.aload_n 0, 1) := by decide +kernel
theorem dX9_isOiled_1 : decode cX9_isOiled 1 = .ok (.getfield 164, 3) := by decide +kernel
theorem dX9_isOiled_4 : decode cX9_isOiled 4 = .ok (.iload_n 1, 1) := by decide +kernel
theorem dX9_isOiled_5 : decode cX9_isOiled 5 = .ok (.invokestatic 167, 3) := by decide +kernel
theorem dX9_isOiled_8 : decode cX9_isOiled 8 = .ok (.istore_n 3, 1) := by decide +kernel
theorem dX9_isOiled_9 : decode cX9_isOiled 9 = .ok (.iconst 0, 1) := by decide +kernel
theorem dX9_isOiled_10 : decode cX9_isOiled 10 = .ok (.istore 4, 2) := by decide +kernel
theorem dX9_isOiled_12 : decode cX9_isOiled 12 = .ok (.iload 4, 2) := by decide +kernel
theorem dX9_isOiled_14 : decode cX9_isOiled 14 = .ok (.aload_n 0, 1) := by decide +kernel
theorem dX9_isOiled_15 : decode cX9_isOiled 15 = .ok (.getfield 149, 3) := by decide +kernel
theorem dX9_isOiled_18 : decode cX9_isOiled 18 = .ok (.if_icmp .ge 41, 3) := by decide +kernel
theorem dX9_isOiled_21 : decode cX9_isOiled 21 = .ok (.iload_n 3, 1) := by decide +kernel
theorem dX9_isOiled_22 : decode cX9_isOiled 22 = .ok (.ifCond .ne 25, 3) := by decide +kernel
theorem dX9_isOiled_25 : decode cX9_isOiled 25 = .ok (.aload_n 0, 1) := by decide +kernel
theorem dX9_isOiled_26 : decode cX9_isOiled 26 = .ok (.getfield 40, 3) := by decide +kernel
theorem dX9_isOiled_29 : decode cX9_isOiled 29 = .ok (.iload 4, 2) := by decide +kernel
theorem dX9_isOiled_31 : decode cX9_isOiled 31 = .ok (.iaload, 1) := by decide +kernel
theorem dX9_isOiled_32 : decode cX9_isOiled 32 = .ok (.iload_n 1, 1) := by decide +kernel
theorem dX9_isOiled_33 : decode cX9_isOiled 33 = .ok (.if_icmp .ne 18, 3) := by decide +kernel
theorem dX9_isOiled_36 : decode cX9_isOiled 36 = .ok (.aload_n 0, 1) := by decide +kernel
theorem dX9_isOiled_37 : decode cX9_isOiled 37 = .ok (.getfield 37, 3) := by decide +kernel
theorem dX9_isOiled_40 : decode cX9_isOiled 40 = .ok (.iload 4, 2) := by decide +kernel
theorem dX9_isOiled_42 : decode cX9_isOiled 42 = .ok (.iaload, 1) := by decide +kernel
theorem dX9_isOiled_43 : decode cX9_isOiled 43 = .ok (.iload_n 2, 1) := by decide +kernel
theorem dX9_isOiled_44 : decode cX9_isOiled 44 = .ok (.if_icmp .gt 7, 3) := by decide +kernel
theorem dX9_isOiled_47 : decode cX9_isOiled 47 = .ok (.iconst 1, 1) := by decide +kernel
theorem dX9_isOiled_48 : decode cX9_isOiled 48 = .ok (.goto 4, 3) := by decide +kernel
theorem dX9_isOiled_51 : decode cX9_isOiled 51 = .ok (.iconst 0, 1) := by decide +kernel
theorem dX9_isOiled_52 : decode cX9_isOiled 52 = .ok (.istore_n 3, 1) := by decide +kernel
theorem dX9_isOiled_53 : decode cX9_isOiled 53 = .ok (.iinc 4 1, 3) := by decide +kernel
theorem dX9_isOiled_56 : decode cX9_isOiled 56 = .ok (.goto (-44), 3) := by decide +kernel
theorem dX9_isOiled_59 : decode cX9_isOiled 59 = .ok (.iload_n 3, 1) := by decide +kernel
theorem dX9_isOiled_60 : decode cX9_isOiled 60 = .ok (.ireturn, 1) := by decide +kernel
theorem dX9_isTop_0 : decode cX9_isTop 0 = .ok (.iconst 1, 1) := by decide +kernel
theorem dX9_isTop_1 : decode cX9_isTop 1 = .ok (.istore_n 2, 1) := by decide +kernel
theorem dX9_isTop_2 : decode cX9_isTop 2 = .ok (.iconst 0, 1) := by decide +kernel
theorem dX9_isTop_3 : decode cX9_isTop 3 = .ok (.istore_n 3, 1) := by decide +kernel
theorem dX9_isTop_4 : decode cX9_isTop 4 = .ok (.iload_n 3, 1) := by decide +kernel
theorem dX9_isTop_5 : decode cX9_isTop 5 = .ok (.aload_n 0, 1) := by decide +kernel
theorem dX9_isTop_6 : decode cX9_isTop 6 = .ok (.getfield 114, 3) := by decide +kernel
theorem dX9_isTop_9 : decode cX9_isTop 9 = .ok (.if_icmp .ge 106, 3) := by decide +kernel
theorem dX9_isTop_12 : decode cX9_isTop 12 = .ok (.iload_n 3, 1) := by decide +kernel
theorem dX9_isTop_13 : decode cX9_isTop 13 = .ok (.iload_n 1, 1) := by decide +kernel
theorem dX9_isTop_14 : decode cX9_isTop 14 = .ok (.if_icmp .eq 22, 3) := by decide +kernel
theorem dX9_isTop_17 : decode cX9_isTop 17 = .ok (.aload_n 0, 1) := by decide +kernel
theorem dX9_isTop_18 : decode cX9_isTop 18 = .ok (.getfield 22, 3) := by decide +kernel
theorem dX9_isTop_21 : decode cX9_isTop 21 = .ok (.iload_n 3, 1) := by decide +kernel
theorem dX9_isTop_22 : decode cX9_isTop 22 = .ok (.iaload, 1) := by decide +kernel
theorem dX9_isTop_23 : decode cX9_isTop 23 = .ok (.aload_n 0, 1) := by decide +kernel
theorem dX9_isTop_24 : decode cX9_isTop 24 = .ok (.getfield 22, 3) := by decide +kernel
theorem dX9_isTop_27 : decode cX9_isTop 27 = .ok (.iload_n 1, 1) := by decide +kernel
theorem dX9_isTop_28 : decode cX9_isTop 28 = .ok (.iaload, 1) := by decide +kernel
theorem dX9_isTop_29 : decode cX9_isTop 29 = .ok (.if_icmp .ne 7, 3) := by decide +kernel
theorem dX9_isTop_32 : decode cX9_isTop 32 = .ok (.iconst 1, 1) := by decide +kernel
theorem dX9_isTop_33 : decode cX9_isTop 33 = .ok (.goto 4, 3) := by decide +kernel
theorem dX9_isTop_36 : decode cX9_isTop 36 = .ok (.iconst 0, 1) := by decide +kernel
theorem dX9_isTop_37 : decode cX9_isTop 37 = .ok (.istore 4, 2) := by decide +kernel
theorem dX9_isTop_39 : decode cX9_isTop 39 = .ok (.iload_n 2, 1) := by decide +kernel
theorem dX9_isTop_40 : decode cX9_isTop 40 = .ok (.ifCond .eq 67, 3) := by decide +kernel
theorem dX9_isTop_43 : decode cX9_isTop 43 = .ok (.iload 4, 2) := by decide +kernel
theorem dX9_isTop_45 : decode cX9_isTop 45 = .ok (.ifCond .eq 58, 3) := by decide +kernel
theorem dX9_isTop_48 : decode cX9_isTop 48 = .ok (.aload_n 0, 1) := by decide +kernel
theorem dX9_isTop_49 : decode cX9_isTop 49 = .ok (.getfield 46, 3) := by decide +kernel
theorem dX9_isTop_52 : decode cX9_isTop 52 = .ok (.iload_n 3, 1) := by decide +kernel
theorem dX9_isTop_53 : decode cX9_isTop 53 = .ok (.iaload, 1) := by decide +kernel
theorem dX9_isTop_54 : decode cX9_isTop 54 = .ok (.iconst 1, 1) := by decide +kernel
theorem dX9_isTop_55 : decode cX9_isTop 55 = .ok (.if_icmp .eq 52, 3) := by decide +kernel
theorem dX9_isTop_58 : decode cX9_isTop 58 = .ok (.aload_n 0, 1) := by decide +kernel
theorem dX9_isTop_59 : decode cX9_isTop 59 = .ok (.getfield 46, 3) := by decide +kernel
theorem dX9_isTop_62 : decode cX9_isTop 62 = .ok (.iload_n 3, 1) := by decide +kernel
theorem dX9_isTop_63 : decode cX9_isTop 63 = .ok (.iaload, 1) := by decide +kernel
theorem dX9_isTop_64 : decode cX9_isTop 64 = .ok (.iconst 2, 1) := by decide +kernel
theorem dX9_isTop_65 : decode cX9_isTop 65 = .ok (.if_icmp .ne 38, 3) := by decide +kernel
theorem dX9_isTop_68 : decode cX9_isTop 68 = .ok (.aload_n 0, 1) := by decide +kernel
theorem dX9_isTop_69 : decode cX9_isTop 69 = .ok (.getfield 49, 3) := by decide +kernel
theorem dX9_isTop_72 : decode cX9_isTop 72 = .ok (.iload_n 3, 1) := by decide +kernel
theorem dX9_isTop_73 : decode cX9_isTop 73 = .ok (.iaload, 1) := by decide +kernel
theorem dX9_isTop_74 : decode cX9_isTop 74 = .ok (.aload_n 0, 1) := by decide +kernel
theorem dX9_isTop_75 : decode cX9_isTop 75 = .ok (.getfield 49, 3) := by decide +kernel
theorem dX9_isTop_78 : decode cX9_isTop 78 = .ok (.iload_n 1, 1) := by decide +kernel
theorem dX9_isTop_79 : decode cX9_isTop 79 = .ok (.iaload, 1) := by decide +kernel
theorem dX9_isTop_80 : decode cX9_isTop 80 = .ok (.if_icmp .gt 27, 3) := by decide +kernel
theorem dX9_isTop_83 : decode cX9_isTop 83 = .ok (.aload_n 0, 1) := by decide +kernel
theorem dX9_isTop_84 : decode cX9_isTop 84 = .ok (.getfield 49, 3) := by decide +kernel
theorem dX9_isTop_87 : decode cX9_isTop 87 = .ok (.iload_n 3, 1) := by decide +kernel
theorem dX9_isTop_88 : decode cX9_isTop 88 = .ok (.iaload, 1) := by decide +kernel
theorem dX9_isTop_89 : decode cX9_isTop 89 = .ok (.aload_n 0, 1) := by decide +kernel
theorem dX9_isTop_90 : decode cX9_isTop 90 = .ok (.getfield 49, 3) := by decide +kernel
theorem dX9_isTop_93 : decode cX9_isTop 93 = .ok (.iload_n 1, 1) := by decide +kernel
theorem dX9_isTop_94 : decode cX9_isTop 94 = .ok (.iaload, 1) := by decide +kernel
theorem dX9_isTop_95 : decode cX9_isTop 95 = .ok (.if_icmp .ne 8, 3) := by decide +kernel
theorem dX9_isTop_98 : decode cX9_isTop 98 = .ok (.iload_n 3, 1) := by decide +kernel
theorem dX9_isTop_99 : decode cX9_isTop 99 = .ok (.iload_n 1, 1) := by decide +kernel
theorem dX9_isTop_100 : decode cX9_isTop 100 = .ok (.if_icmp .gt 7, 3) := by decide +kernel
theorem dX9_isTop_103 : decode cX9_isTop 103 = .ok (.iconst 1, 1) := by decide +kernel
theorem dX9_isTop_104 : decode cX9_isTop 104 = .ok (.goto 4, 3) := by decide +kernel
theorem dX9_isTop_107 : decode cX9_isTop 107 = .ok (.iconst 0, 1) := by decide +kernel
theorem dX9_isTop_108 : decode cX9_isTop 108 = .ok (.istore_n 2, 1) := by decide +kernel
theorem dX9_isTop_109 : decode cX9_isTop 109 = .ok (.iinc 3 1, 3) := by decide +kernel
theorem dX9_isTop_112 : decode cX9_isTop 112 = .ok (.goto (-108), 3) := by decide +kernel
theorem dX9_isTop_115 : decode cX9_isTop 115 = .ok (.iload_n 2, 1) := by decide +kernel
theorem dX9_isTop_116 : decode cX9_isTop 116 = .ok (.ireturn, 1) := by decide +kernel
theorem dX9_goesBy_0 : decode cX9_goesBy 0 = .ok (.iconst 0, 1) := by decide +kernel
theorem dX9_goesBy_1 : decode cX9_goesBy 1 = .ok (.istore_n 2, 1) := by decide +kernel
theorem dX9_goesBy_2 : decode cX9_goesBy 2 = .ok (.iload_n 2, 1) := by decide +kernel
theorem dX9_goesBy_3 : decode cX9_goesBy 3 = .ok (.aload_n 0, 1) := by decide +kernel
theorem dX9_goesBy_4 : decode cX9_goesBy 4 = .ok (.getfield 146, 3) := by decide +kernel
theorem dX9_goesBy_7 : decode cX9_goesBy 7 = .ok (.if_icmp .ge 68, 3) := by decide +kernel
theorem dX9_goesBy_10 : decode cX9_goesBy 10 = .ok (.iconst 0, 1) := by decide +kernel
theorem dX9_goesBy_11 : decode cX9_goesBy 11 = .ok (.istore_n 3, 1) := by decide +kernel
theorem dX9_goesBy_12 : decode cX9_goesBy 12 = .ok (.iload_n 3, 1) := by decide +kernel
theorem dX9_goesBy_13 : decode cX9_goesBy 13 = .ok (.aload_n 0, 1) := by decide +kernel
theorem dX9_goesBy_14 : decode cX9_goesBy 14 = .ok (.getfield 114, 3) := by decide +kernel
theorem dX9_goesBy_17 : decode cX9_goesBy 17 = .ok (.if_icmp .ge 52, 3) := by decide +kernel
theorem dX9_goesBy_20 : decode cX9_goesBy 20 = .ok (.aload_n 0, 1) := by decide +kernel
theorem dX9_goesBy_21 : decode cX9_goesBy 21 = .ok (.getfield 31, 3) := by decide +kernel
theorem dX9_goesBy_24 : decode cX9_goesBy 24 = .ok (.iload_n 2, 1) := by decide +kernel
theorem dX9_goesBy_25 : decode cX9_goesBy 25 = .ok (.iaload, 1) := by decide +kernel
theorem dX9_goesBy_26 : decode cX9_goesBy 26 = .ok (.iload_n 1, 1) := by decide +kernel
theorem dX9_goesBy_27 : decode cX9_goesBy 27 = .ok (.if_icmp .ne 36, 3) := by decide +kernel
theorem dX9_goesBy_30 : decode cX9_goesBy 30 = .ok (.aload_n 0, 1) := by decide +kernel
theorem dX9_goesBy_31 : decode cX9_goesBy 31 = .ok (.getfield 46, 3) := by decide +kernel
theorem dX9_goesBy_34 : decode cX9_goesBy 34 = .ok (.iload_n 3, 1) := by decide +kernel
theorem dX9_goesBy_35 : decode cX9_goesBy 35 = .ok (.iaload, 1) := by decide +kernel
theorem dX9_goesBy_36 : decode cX9_goesBy 36 = .ok (.iconst 1, 1) := by decide +kernel
theorem dX9_goesBy_37 : decode cX9_goesBy 37 = .ok (.if_icmp .ne 26, 3) := by decide +kernel
theorem dX9_goesBy_40 : decode cX9_goesBy 40 = .ok (.aload_n 0, 1) := by decide +kernel
theorem dX9_goesBy_41 : decode cX9_goesBy 41 = .ok (.getfield 22, 3) := by decide +kernel
theorem dX9_goesBy_44 : decode cX9_goesBy 44 = .ok (.iload_n 3, 1) := by decide +kernel
theorem dX9_goesBy_45 : decode cX9_goesBy 45 = .ok (.iaload, 1) := by decide +kernel
theorem dX9_goesBy_46 : decode cX9_goesBy 46 = .ok (.bipush 6, 2) := by decide +kernel
theorem dX9_goesBy_48 : decode cX9_goesBy 48 = .ok (.idiv, 1) := by decide +kernel
theorem dX9_goesBy_49 : decode cX9_goesBy 49 = .ok (.aload_n 0, 1) := by decide +kernel
theorem dX9_goesBy_50 : decode cX9_goesBy 50 = .ok (.getfield 34, 3) := by decide +kernel
theorem dX9_goesBy_53 : decode cX9_goesBy 53 = .ok (.iload_n 2, 1) := by decide +kernel
theorem dX9_goesBy_54 : decode cX9_goesBy 54 = .ok (.iaload, 1) := by decide +kernel
theorem dX9_goesBy_55 : decode cX9_goesBy 55 = .ok (.if_icmp .ne 8, 3) := by decide +kernel
theorem dX9_goesBy_58 : decode cX9_goesBy 58 = .ok (.aload_n 0, 1) := by decide +kernel
theorem dX9_goesBy_59 : decode cX9_goesBy 59 = .ok (.iload_n 3, 1) := by decide +kernel
theorem dX9_goesBy_60 : decode cX9_goesBy 60 = .ok (.invokevirtual 170, 3) := by decide +kernel
theorem dX9_goesBy_63 : decode cX9_goesBy 63 = .ok (.iinc 3 1, 3) := by decide +kernel
theorem dX9_goesBy_66 : decode cX9_goesBy 66 = .ok (.goto (-54), 3) := by decide +kernel
theorem dX9_goesBy_69 : decode cX9_goesBy 69 = .ok (.iinc 2 1, 3) := by decide +kernel
theorem dX9_goesBy_72 : decode cX9_goesBy 72 = .ok (.goto (-70), 3) := by decide +kernel
theorem dX9_goesBy_75 : decode cX9_goesBy 75 = .ok (.iconst 0, 1) := by decide +kernel
theorem dX9_goesBy_76 : decode cX9_goesBy 76 = .ok (.istore_n 2, 1) := by decide +kernel
theorem dX9_goesBy_77 : decode cX9_goesBy 77 = .ok (.iload_n 2, 1) := by decide +kernel
theorem dX9_goesBy_78 : decode cX9_goesBy 78 = .ok (.aload_n 0, 1) := by decide +kernel
theorem dX9_goesBy_79 : decode cX9_goesBy 79 = .ok (.getfield 114, 3) := by decide +kernel
theorem dX9_goesBy_82 : decode cX9_goesBy 82 = .ok (.if_icmp .ge 83, 3) := by decide +kernel
theorem dX9_goesBy_85 : decode cX9_goesBy 85 = .ok (.aload_n 0, 1) := by decide +kernel
theorem dX9_goesBy_86 : decode cX9_goesBy 86 = .ok (.getfield 19, 3) := by decide +kernel
theorem dX9_goesBy_89 : decode cX9_goesBy 89 = .ok (.iload_n 2, 1) := by decide +kernel
theorem dX9_goesBy_90 : decode cX9_goesBy 90 = .ok (.iaload, 1) := by decide +kernel
theorem dX9_goesBy_91 : decode cX9_goesBy 91 = .ok (.iload_n 1, 1) := by decide +kernel
theorem dX9_goesBy_92 : decode cX9_goesBy 92 = .ok (.if_icmp .ne 67, 3) := by decide +kernel
theorem dX9_goesBy_95 : decode cX9_goesBy 95 = .ok (.aload_n 0, 1) := by decide +kernel
theorem dX9_goesBy_96 : decode cX9_goesBy 96 = .ok (.getfield 161, 3) := by decide +kernel
theorem dX9_goesBy_99 : decode cX9_goesBy 99 = .ok (.iload_n 2, 1) := by decide +kernel
theorem dX9_goesBy_100 : decode cX9_goesBy 100 = .ok (.invokestatic 167, 3) := by decide +kernel
theorem dX9_goesBy_103 : decode cX9_goesBy 103 = .ok (.ifCond .ne 56, 3) := by decide +kernel
theorem dX9_goesBy_106 : decode cX9_goesBy 106 = .ok (.iconst 0, 1) := by decide +kernel
theorem dX9_goesBy_107 : decode cX9_goesBy 107 = .ok (.istore_n 3, 1) := by decide +kernel
theorem dX9_goesBy_108 : decode cX9_goesBy 108 = .ok (.iload_n 3, 1) := by decide +kernel
theorem dX9_goesBy_109 : decode cX9_goesBy 109 = .ok (.aload_n 0, 1) := by decide +kernel
theorem dX9_goesBy_110 : decode cX9_goesBy 110 = .ok (.getfield 114, 3) := by decide +kernel
theorem dX9_goesBy_113 : decode cX9_goesBy 113 = .ok (.if_icmp .ge 39, 3) := by decide +kernel
theorem dX9_goesBy_116 : decode cX9_goesBy 116 = .ok (.aload_n 0, 1) := by decide +kernel
theorem dX9_goesBy_117 : decode cX9_goesBy 117 = .ok (.getfield 46, 3) := by decide +kernel
theorem dX9_goesBy_120 : decode cX9_goesBy 120 = .ok (.iload_n 3, 1) := by decide +kernel
theorem dX9_goesBy_121 : decode cX9_goesBy 121 = .ok (.iaload, 1) := by decide +kernel
theorem dX9_goesBy_122 : decode cX9_goesBy 122 = .ok (.iconst 1, 1) := by decide +kernel
theorem dX9_goesBy_123 : decode cX9_goesBy 123 = .ok (.if_icmp .ne 23, 3) := by decide +kernel
theorem dX9_goesBy_126 : decode cX9_goesBy 126 = .ok (.aload_n 0, 1) := by decide +kernel
theorem dX9_goesBy_127 : decode cX9_goesBy 127 = .ok (.getfield 22, 3) := by decide +kernel
theorem dX9_goesBy_130 : decode cX9_goesBy 130 = .ok (.iload_n 3, 1) := by decide +kernel
theorem dX9_goesBy_131 : decode cX9_goesBy 131 = .ok (.iaload, 1) := by decide +kernel
theorem dX9_goesBy_132 : decode cX9_goesBy 132 = .ok (.aload_n 0, 1) := by decide +kernel
theorem dX9_goesBy_133 : decode cX9_goesBy 133 = .ok (.getfield 22, 3) := by decide +kernel
theorem dX9_goesBy_136 : decode cX9_goesBy 136 = .ok (.iload_n 2, 1) := by decide +kernel
theorem dX9_goesBy_137 : decode cX9_goesBy 137 = .ok (.iaload, 1) := by decide +kernel
theorem dX9_goesBy_138 : decode cX9_goesBy 138 = .ok (.if_icmp .ne 8, 3) := by decide +kernel
theorem dX9_goesBy_141 : decode cX9_goesBy 141 = .ok (.aload_n 0, 1) := by decide +kernel
theorem dX9_goesBy_142 : decode cX9_goesBy 142 = .ok (.iload_n 3, 1) := by decide +kernel
theorem dX9_goesBy_143 : decode cX9_goesBy 143 = .ok (.invokevirtual 170, 3) := by decide +kernel
theorem dX9_goesBy_146 : decode cX9_goesBy 146 = .ok (.iinc 3 1, 3) := by decide +kernel
theorem dX9_goesBy_149 : decode cX9_goesBy 149 = .ok (.goto (-41), 3) := by decide +kernel
theorem dX9_goesBy_152 : decode cX9_goesBy 152 = .ok (.aload_n 0, 1) := by decide +kernel
theorem dX9_goesBy_153 : decode cX9_goesBy 153 = .ok (.getfield 46, 3) := by decide +kernel
theorem dX9_goesBy_156 : decode cX9_goesBy 156 = .ok (.iload_n 2, 1) := by decide +kernel
theorem dX9_goesBy_157 : decode cX9_goesBy 157 = .ok (.iconst 1, 1) := by decide +kernel
theorem dX9_goesBy_158 : decode cX9_goesBy 158 = .ok (.iastore, 1) := by decide +kernel
theorem dX9_goesBy_159 : decode cX9_goesBy 159 = .ok (.iinc 2 1, 3) := by decide +kernel
theorem dX9_goesBy_162 : decode cX9_goesBy 162 = .ok (.goto (-85), 3) := by decide +kernel
theorem dX9_goesBy_165 : decode cX9_goesBy 165 = .ok (.aload_n 0, 1) := by decide +kernel
theorem dX9_goesBy_166 : decode cX9_goesBy 166 = .ok (.iconst 0, 1) := by decide +kernel
theorem dX9_goesBy_167 : decode cX9_goesBy 167 = .ok (.putfield 174, 3) := by decide +kernel
theorem dX9_goesBy_170 : decode cX9_goesBy 170 = .ok (.iconst 0, 1) := by decide +kernel
theorem dX9_goesBy_171 : decode cX9_goesBy 171 = .ok (.istore_n 2, 1) := by decide +kernel
theorem dX9_goesBy_172 : decode cX9_goesBy 172 = .ok (.iload_n 2, 1) := by decide +kernel
theorem dX9_goesBy_173 : decode cX9_goesBy 173 = .ok (.aload_n 0, 1) := by decide +kernel
theorem dX9_goesBy_174 : decode cX9_goesBy 174 = .ok (.getfield 114, 3) := by decide +kernel
theorem dX9_goesBy_177 : decode cX9_goesBy 177 = .ok (.if_icmp .ge 88, 3) := by decide +kernel
theorem dX9_goesBy_180 : decode cX9_goesBy 180 = .ok (.aload_n 0, 1) := by decide +kernel
theorem dX9_goesBy_181 : decode cX9_goesBy 181 = .ok (.getfield 46, 3) := by decide +kernel
theorem dX9_goesBy_184 : decode cX9_goesBy 184 = .ok (.iload_n 2, 1) := by decide +kernel
theorem dX9_goesBy_185 : decode cX9_goesBy 185 = .ok (.iaload, 1) := by decide +kernel
theorem dX9_goesBy_186 : decode cX9_goesBy 186 = .ok (.iconst 2, 1) := by decide +kernel
theorem dX9_goesBy_187 : decode cX9_goesBy 187 = .ok (.if_icmp .ne 50, 3) := by decide +kernel
theorem dX9_goesBy_190 : decode cX9_goesBy 190 = .ok (.aload_n 0, 1) := by decide +kernel
theorem dX9_goesBy_191 : decode cX9_goesBy 191 = .ok (.getfield 49, 3) := by decide +kernel
theorem dX9_goesBy_194 : decode cX9_goesBy 194 = .ok (.iload_n 2, 1) := by decide +kernel
theorem dX9_goesBy_195 : decode cX9_goesBy 195 = .ok (.iaload, 1) := by decide +kernel
theorem dX9_goesBy_196 : decode cX9_goesBy 196 = .ok (.aload_n 0, 1) := by decide +kernel
theorem dX9_goesBy_197 : decode cX9_goesBy 197 = .ok (.getfield 43, 3) := by decide +kernel
theorem dX9_goesBy_200 : decode cX9_goesBy 200 = .ok (.iload_n 1, 1) := by decide +kernel
theorem dX9_goesBy_201 : decode cX9_goesBy 201 = .ok (.iaload, 1) := by decide +kernel
theorem dX9_goesBy_202 : decode cX9_goesBy 202 = .ok (.iadd, 1) := by decide +kernel
theorem dX9_goesBy_203 : decode cX9_goesBy 203 = .ok (.bipush 10, 2) := by decide +kernel
theorem dX9_goesBy_205 : decode cX9_goesBy 205 = .ok (.if_icmp .lt 32, 3) := by decide +kernel
theorem dX9_goesBy_208 : decode cX9_goesBy 208 = .ok (.aload_n 0, 1) := by decide +kernel
theorem dX9_goesBy_209 : decode cX9_goesBy 209 = .ok (.aload_n 0, 1) := by decide +kernel
theorem dX9_goesBy_210 : decode cX9_goesBy 210 = .ok (.getfield 22, 3) := by decide +kernel
theorem dX9_goesBy_213 : decode cX9_goesBy 213 = .ok (.iload_n 2, 1) := by decide +kernel
theorem dX9_goesBy_214 : decode cX9_goesBy 214 = .ok (.iaload, 1) := by decide +kernel
theorem dX9_goesBy_215 : decode cX9_goesBy 215 = .ok (.bipush 6, 2) := by decide +kernel
theorem dX9_goesBy_217 : decode cX9_goesBy 217 = .ok (.idiv, 1) := by decide +kernel
theorem dX9_goesBy_218 : decode cX9_goesBy 218 = .ok (.iload_n 1, 1) := by decide +kernel
theorem dX9_goesBy_219 : decode cX9_goesBy 219 = .ok (.invokevirtual 177, 3) := by decide +kernel
theorem dX9_goesBy_222 : decode cX9_goesBy 222 = .ok (.ifCond .ne 15, 3) := by decide +kernel
theorem dX9_goesBy_225 : decode cX9_goesBy 225 = .ok (.aload_n 0, 1) := by decide +kernel
theorem dX9_goesBy_226 : decode cX9_goesBy 226 = .ok (.iload_n 2, 1) := by decide +kernel
theorem dX9_goesBy_227 : decode cX9_goesBy 227 = .ok (.invokevirtual 180, 3) := by decide +kernel
theorem dX9_goesBy_230 : decode cX9_goesBy 230 = .ok (.ifCond .eq 7, 3) := by decide +kernel
theorem dX9_goesBy_233 : decode cX9_goesBy 233 = .ok (.iconst 1, 1) := by decide +kernel
theorem dX9_goesBy_234 : decode cX9_goesBy 234 = .ok (.goto 4, 3) := by decide +kernel
theorem dX9_goesBy_237 : decode cX9_goesBy 237 = .ok (.iconst 0, 1) := by decide +kernel
theorem dX9_goesBy_238 : decode cX9_goesBy 238 = .ok (.istore_n 3, 1) := by decide +kernel
theorem dX9_goesBy_239 : decode cX9_goesBy 239 = .ok (.aload_n 0, 1) := by decide +kernel
theorem dX9_goesBy_240 : decode cX9_goesBy 240 = .ok (.dup, 1) := by decide +kernel
theorem dX9_goesBy_241 : decode cX9_goesBy 241 = .ok (.getfield 174, 3) := by decide +kernel
theorem dX9_goesBy_244 : decode cX9_goesBy 244 = .ok (.iload_n 3, 1) := by decide +kernel
theorem dX9_goesBy_245 : decode cX9_goesBy 245 = .ok (.ifCond .eq 9, 3) := by decide +kernel
theorem dX9_goesBy_248 : decode cX9_goesBy 248 = .ok (.iconst 1, 1) := by decide +kernel
theorem dX9_goesBy_249 : decode cX9_goesBy 249 = .ok (.iload_n 2, 1) := by decide +kernel
theorem dX9_goesBy_250 : decode cX9_goesBy 250 = .ok (.ishl, 1) := by decide +kernel
theorem dX9_goesBy_251 : decode cX9_goesBy 251 = .ok (.goto 4, 3) := by decide +kernel
theorem dX9_goesBy_254 : decode cX9_goesBy 254 = .ok (.iconst 0, 1) := by decide +kernel
theorem dX9_goesBy_255 : decode cX9_goesBy 255 = .ok (.ior, 1) := by decide +kernel
theorem dX9_goesBy_256 : decode cX9_goesBy 256 = .ok (.putfield 174, 3) := by decide +kernel
theorem dX9_goesBy_259 : decode cX9_goesBy 259 = .ok (.iinc 2 1, 3) := by decide +kernel
theorem dX9_goesBy_262 : decode cX9_goesBy 262 = .ok (.goto (-90), 3) := by decide +kernel
theorem dX9_goesBy_265 : decode cX9_goesBy 265 = .ok (.aload_n 0, 1) := by decide +kernel
theorem dX9_goesBy_266 : decode cX9_goesBy 266 = .ok (.getfield 52, 3) := by decide +kernel
theorem dX9_goesBy_269 : decode cX9_goesBy 269 = .ok (.iload_n 1, 1) := by decide +kernel
theorem dX9_goesBy_270 : decode cX9_goesBy 270 = .ok (.aload_n 0, 1) := by decide +kernel
theorem dX9_goesBy_271 : decode cX9_goesBy 271 = .ok (.getfield 174, 3) := by decide +kernel
theorem dX9_goesBy_274 : decode cX9_goesBy 274 = .ok (.iastore, 1) := by decide +kernel
theorem dX9_goesBy_275 : decode cX9_goesBy 275 = .ok (.iconst 0, 1) := by decide +kernel
theorem dX9_goesBy_276 : decode cX9_goesBy 276 = .ok (.istore_n 2, 1) := by decide +kernel
theorem dX9_goesBy_277 : decode cX9_goesBy 277 = .ok (.iload_n 2, 1) := by decide +kernel
theorem dX9_goesBy_278 : decode cX9_goesBy 278 = .ok (.aload_n 0, 1) := by decide +kernel
theorem dX9_goesBy_279 : decode cX9_goesBy 279 = .ok (.getfield 114, 3) := by decide +kernel
theorem dX9_goesBy_282 : decode cX9_goesBy 282 = .ok (.if_icmp .ge 150, 3) := by decide +kernel
theorem dX9_goesBy_285 : decode cX9_goesBy 285 = .ok (.aload_n 0, 1) := by decide +kernel
theorem dX9_goesBy_286 : decode cX9_goesBy 286 = .ok (.getfield 46, 3) := by decide +kernel
theorem dX9_goesBy_289 : decode cX9_goesBy 289 = .ok (.iload_n 2, 1) := by decide +kernel
theorem dX9_goesBy_290 : decode cX9_goesBy 290 = .ok (.iaload, 1) := by decide +kernel
theorem dX9_goesBy_291 : decode cX9_goesBy 291 = .ok (.iconst 2, 1) := by decide +kernel
theorem dX9_goesBy_292 : decode cX9_goesBy 292 = .ok (.if_icmp .ne 71, 3) := by decide +kernel
theorem dX9_goesBy_295 : decode cX9_goesBy 295 = .ok (.aload_n 0, 1) := by decide +kernel
theorem dX9_goesBy_296 : decode cX9_goesBy 296 = .ok (.getfield 174, 3) := by decide +kernel
theorem dX9_goesBy_299 : decode cX9_goesBy 299 = .ok (.iload_n 2, 1) := by decide +kernel
theorem dX9_goesBy_300 : decode cX9_goesBy 300 = .ok (.invokestatic 167, 3) := by decide +kernel
theorem dX9_goesBy_303 : decode cX9_goesBy 303 = .ok (.ifCond .eq 22, 3) := by decide +kernel
theorem dX9_goesBy_306 : decode cX9_goesBy 306 = .ok (.aload_n 0, 1) := by decide +kernel
theorem dX9_goesBy_307 : decode cX9_goesBy 307 = .ok (.getfield 49, 3) := by decide +kernel
theorem dX9_goesBy_310 : decode cX9_goesBy 310 = .ok (.iload_n 2, 1) := by decide +kernel
theorem dX9_goesBy_311 : decode cX9_goesBy 311 = .ok (.iaload, 1) := by decide +kernel
theorem dX9_goesBy_312 : decode cX9_goesBy 312 = .ok (.bipush 9, 2) := by decide +kernel
theorem dX9_goesBy_314 : decode cX9_goesBy 314 = .ok (.if_icmp .ge 7, 3) := by decide +kernel
theorem dX9_goesBy_317 : decode cX9_goesBy 317 = .ok (.iconst 1, 1) := by decide +kernel
theorem dX9_goesBy_318 : decode cX9_goesBy 318 = .ok (.goto 34, 3) := by decide +kernel
theorem dX9_goesBy_321 : decode cX9_goesBy 321 = .ok (.iconst 0, 1) := by decide +kernel
theorem dX9_goesBy_322 : decode cX9_goesBy 322 = .ok (.goto 30, 3) := by decide +kernel
theorem dX9_goesBy_325 : decode cX9_goesBy 325 = .ok (.aload_n 0, 1) := by decide +kernel
theorem dX9_goesBy_326 : decode cX9_goesBy 326 = .ok (.getfield 43, 3) := by decide +kernel
theorem dX9_goesBy_329 : decode cX9_goesBy 329 = .ok (.iload_n 1, 1) := by decide +kernel
theorem dX9_goesBy_330 : decode cX9_goesBy 330 = .ok (.iaload, 1) := by decide +kernel
theorem dX9_goesBy_331 : decode cX9_goesBy 331 = .ok (.aload_n 0, 1) := by decide +kernel
theorem dX9_goesBy_332 : decode cX9_goesBy 332 = .ok (.getfield 89, 3) := by decide +kernel
theorem dX9_goesBy_335 : decode cX9_goesBy 335 = .ok (.if_icmp .ge 16, 3) := by decide +kernel
theorem dX9_goesBy_338 : decode cX9_goesBy 338 = .ok (.aload_n 0, 1) := by decide +kernel
theorem dX9_goesBy_339 : decode cX9_goesBy 339 = .ok (.getfield 49, 3) := by decide +kernel
theorem dX9_goesBy_342 : decode cX9_goesBy 342 = .ok (.iload_n 2, 1) := by decide +kernel
theorem dX9_goesBy_343 : decode cX9_goesBy 343 = .ok (.iaload, 1) := by decide +kernel
theorem dX9_goesBy_344 : decode cX9_goesBy 344 = .ok (.ifCond .le 7, 3) := by decide +kernel
theorem dX9_goesBy_347 : decode cX9_goesBy 347 = .ok (.iconst (-1), 1) := by decide +kernel
theorem dX9_goesBy_348 : decode cX9_goesBy 348 = .ok (.goto 4, 3) := by decide +kernel
theorem dX9_goesBy_351 : decode cX9_goesBy 351 = .ok (.iconst 0, 1) := by decide +kernel
theorem dX9_goesBy_352 : decode cX9_goesBy 352 = .ok (.istore_n 3, 1) := by decide +kernel
theorem dX9_goesBy_353 : decode cX9_goesBy 353 = .ok (.aload_n 0, 1) := by decide +kernel
theorem dX9_goesBy_354 : decode cX9_goesBy 354 = .ok (.getfield 49, 3) := by decide +kernel
theorem dX9_goesBy_357 : decode cX9_goesBy 357 = .ok (.iload_n 2, 1) := by decide +kernel
theorem dX9_goesBy_358 : decode cX9_goesBy 358 = .ok (.dup2, 1) := by decide +kernel
theorem dX9_goesBy_359 : decode cX9_goesBy 359 = .ok (.iaload, 1) := by decide +kernel
theorem dX9_goesBy_360 : decode cX9_goesBy 360 = .ok (.iload_n 3, 1) := by decide +kernel
theorem dX9_goesBy_361 : decode cX9_goesBy 361 = .ok (.iadd, 1) := by decide +kernel
theorem dX9_goesBy_362 : decode cX9_goesBy 362 = .ok (.iastore, 1) := by decide +kernel
theorem dX9_goesBy_363 : decode cX9_goesBy 363 = .ok (.aload_n 0, 1) := by decide +kernel
theorem dX9_goesBy_364 : decode cX9_goesBy 364 = .ok (.getfield 55, 3) := by decide +kernel
theorem dX9_goesBy_367 : decode cX9_goesBy 367 = .ok (.bipush 8, 2) := by decide +kernel
theorem dX9_goesBy_369 : decode cX9_goesBy 369 = .ok (.iload_n 1, 1) := by decide +kernel
theorem dX9_goesBy_370 : decode cX9_goesBy 370 = .ok (.imul, 1) := by decide +kernel
theorem dX9_goesBy_371 : decode cX9_goesBy 371 = .ok (.iload_n 2, 1) := by decide +kernel
theorem dX9_goesBy_372 : decode cX9_goesBy 372 = .ok (.iadd, 1) := by decide +kernel
theorem dX9_goesBy_373 : decode cX9_goesBy 373 = .ok (.aload_n 0, 1) := by decide +kernel
theorem dX9_goesBy_374 : decode cX9_goesBy 374 = .ok (.getfield 174, 3) := by decide +kernel
theorem dX9_goesBy_377 : decode cX9_goesBy 377 = .ok (.iload_n 2, 1) := by decide +kernel
theorem dX9_goesBy_378 : decode cX9_goesBy 378 = .ok (.invokestatic 167, 3) := by decide +kernel
theorem dX9_goesBy_381 : decode cX9_goesBy 381 = .ok (.ifCond .eq 7, 3) := by decide +kernel
theorem dX9_goesBy_384 : decode cX9_goesBy 384 = .ok (.iconst 3, 1) := by decide +kernel
theorem dX9_goesBy_385 : decode cX9_goesBy 385 = .ok (.goto 9, 3) := by decide +kernel
theorem dX9_goesBy_388 : decode cX9_goesBy 388 = .ok (.aload_n 0, 1) := by decide +kernel
theorem dX9_goesBy_389 : decode cX9_goesBy 389 = .ok (.getfield 46, 3) := by decide +kernel
theorem dX9_goesBy_392 : decode cX9_goesBy 392 = .ok (.iload_n 2, 1) := by decide +kernel
theorem dX9_goesBy_393 : decode cX9_goesBy 393 = .ok (.iaload, 1) := by decide +kernel
theorem dX9_goesBy_394 : decode cX9_goesBy 394 = .ok (.iastore, 1) := by decide +kernel
theorem dX9_goesBy_395 : decode cX9_goesBy 395 = .ok (.aload_n 0, 1) := by decide +kernel
theorem dX9_goesBy_396 : decode cX9_goesBy 396 = .ok (.getfield 58, 3) := by decide +kernel
theorem dX9_goesBy_399 : decode cX9_goesBy 399 = .ok (.bipush 8, 2) := by decide +kernel
theorem dX9_goesBy_401 : decode cX9_goesBy 401 = .ok (.iload_n 1, 1) := by decide +kernel
theorem dX9_goesBy_402 : decode cX9_goesBy 402 = .ok (.imul, 1) := by decide +kernel
theorem dX9_goesBy_403 : decode cX9_goesBy 403 = .ok (.iload_n 2, 1) := by decide +kernel
theorem dX9_goesBy_404 : decode cX9_goesBy 404 = .ok (.iadd, 1) := by decide +kernel
theorem dX9_goesBy_405 : decode cX9_goesBy 405 = .ok (.aload_n 0, 1) := by decide +kernel
theorem dX9_goesBy_406 : decode cX9_goesBy 406 = .ok (.getfield 46, 3) := by decide +kernel
theorem dX9_goesBy_409 : decode cX9_goesBy 409 = .ok (.iload_n 2, 1) := by decide +kernel
theorem dX9_goesBy_410 : decode cX9_goesBy 410 = .ok (.iaload, 1) := by decide +kernel
theorem dX9_goesBy_411 : decode cX9_goesBy 411 = .ok (.iconst 2, 1) := by decide +kernel
theorem dX9_goesBy_412 : decode cX9_goesBy 412 = .ok (.if_icmp .ne 12, 3) := by decide +kernel
theorem dX9_goesBy_415 : decode cX9_goesBy 415 = .ok (.aload_n 0, 1) := by decide +kernel
theorem dX9_goesBy_416 : decode cX9_goesBy 416 = .ok (.getfield 49, 3) := by decide +kernel
theorem dX9_goesBy_419 : decode cX9_goesBy 419 = .ok (.iload_n 2, 1) := by decide +kernel
theorem dX9_goesBy_420 : decode cX9_goesBy 420 = .ok (.iaload, 1) := by decide +kernel
theorem dX9_goesBy_421 : decode cX9_goesBy 421 = .ok (.goto 4, 3) := by decide +kernel
theorem dX9_goesBy_424 : decode cX9_goesBy 424 = .ok (.iconst (-1), 1) := by decide +kernel
theorem dX9_goesBy_425 : decode cX9_goesBy 425 = .ok (.iastore, 1) := by decide +kernel
theorem dX9_goesBy_426 : decode cX9_goesBy 426 = .ok (.iinc 2 1, 3) := by decide +kernel
theorem dX9_goesBy_429 : decode cX9_goesBy 429 = .ok (.goto (-152), 3) := by decide +kernel
theorem dX9_goesBy_432 : decode cX9_goesBy 432 = .ok (.return_, 1) := by decide +kernel
theorem dX9_runs_0 : decode cX9_runs 0 = .ok (.iconst 0, 1) := by decide +kernel
theorem dX9_runs_1 : decode cX9_runs 1 = .ok (.istore_n 1, 1) := by decide +kernel
theorem dX9_runs_2 : decode cX9_runs 2 = .ok (.iload_n 1, 1) := by decide +kernel
theorem dX9_runs_3 : decode cX9_runs 3 = .ok (.bipush 8, 2) := by decide +kernel
theorem dX9_runs_5 : decode cX9_runs 5 = .ok (.if_icmp .ge 23, 3) := by decide +kernel
theorem dX9_runs_8 : decode cX9_runs 8 = .ok (.aload_n 0, 1) := by decide +kernel
theorem dX9_runs_9 : decode cX9_runs 9 = .ok (.getfield 46, 3) := by decide +kernel
theorem dX9_runs_12 : decode cX9_runs 12 = .ok (.iload_n 1, 1) := by decide +kernel
theorem dX9_runs_13 : decode cX9_runs 13 = .ok (.iconst 0, 1) := by decide +kernel
theorem dX9_runs_14 : decode cX9_runs 14 = .ok (.iastore, 1) := by decide +kernel
theorem dX9_runs_15 : decode cX9_runs 15 = .ok (.aload_n 0, 1) := by decide +kernel
theorem dX9_runs_16 : decode cX9_runs 16 = .ok (.getfield 49, 3) := by decide +kernel
theorem dX9_runs_19 : decode cX9_runs 19 = .ok (.iload_n 1, 1) := by decide +kernel
theorem dX9_runs_20 : decode cX9_runs 20 = .ok (.iconst 0, 1) := by decide +kernel
theorem dX9_runs_21 : decode cX9_runs 21 = .ok (.iastore, 1) := by decide +kernel
theorem dX9_runs_22 : decode cX9_runs 22 = .ok (.iinc 1 1, 3) := by decide +kernel
theorem dX9_runs_25 : decode cX9_runs 25 = .ok (.goto (-23), 3) := by decide +kernel
theorem dX9_runs_28 : decode cX9_runs 28 = .ok (.iconst 0, 1) := by decide +kernel
theorem dX9_runs_29 : decode cX9_runs 29 = .ok (.istore_n 1, 1) := by decide +kernel
theorem dX9_runs_30 : decode cX9_runs 30 = .ok (.iload_n 1, 1) := by decide +kernel
theorem dX9_runs_31 : decode cX9_runs 31 = .ok (.bipush 20, 2) := by decide +kernel
theorem dX9_runs_33 : decode cX9_runs 33 = .ok (.if_icmp .ge 14, 3) := by decide +kernel
theorem dX9_runs_36 : decode cX9_runs 36 = .ok (.aload_n 0, 1) := by decide +kernel
theorem dX9_runs_37 : decode cX9_runs 37 = .ok (.iload_n 1, 1) := by decide +kernel
theorem dX9_runs_38 : decode cX9_runs 38 = .ok (.invokevirtual 183, 3) := by decide +kernel
theorem dX9_runs_41 : decode cX9_runs 41 = .ok (.iinc 1 1, 3) := by decide +kernel
theorem dX9_runs_44 : decode cX9_runs 44 = .ok (.goto (-14), 3) := by decide +kernel
theorem dX9_runs_47 : decode cX9_runs 47 = .ok (.return_, 1) := by decide +kernel
theorem dX9_runsTold_0 : decode cX9_runsTold 0 = .ok (.aload_n 0, 1) := by decide +kernel
theorem dX9_runsTold_1 : decode cX9_runsTold 1 = .ok (.invokevirtual 186, 3) := by decide +kernel
theorem dX9_runsTold_4 : decode cX9_runsTold 4 = .ok (.aload_n 0, 1) := by decide +kernel
theorem dX9_runsTold_5 : decode cX9_runsTold 5 = .ok (.invokevirtual 189, 3) := by decide +kernel
theorem dX9_runsTold_8 : decode cX9_runsTold 8 = .ok (.return_, 1) := by decide +kernel
theorem dX9_standsNow_0 : decode cX9_standsNow 0 = .ok (.iconst (-1), 1) := by decide +kernel
theorem dX9_standsNow_1 : decode cX9_standsNow 1 = .ok (.istore_n 3, 1) := by decide +kernel
theorem dX9_standsNow_2 : decode cX9_standsNow 2 = .ok (.iconst 0, 1) := by decide +kernel
theorem dX9_standsNow_3 : decode cX9_standsNow 3 = .ok (.istore 4, 2) := by decide +kernel
theorem dX9_standsNow_5 : decode cX9_standsNow 5 = .ok (.iload 4, 2) := by decide +kernel
theorem dX9_standsNow_7 : decode cX9_standsNow 7 = .ok (.aload_n 0, 1) := by decide +kernel
theorem dX9_standsNow_8 : decode cX9_standsNow 8 = .ok (.getfield 114, 3) := by decide +kernel
theorem dX9_standsNow_11 : decode cX9_standsNow 11 = .ok (.if_icmp .ge 75, 3) := by decide +kernel
theorem dX9_standsNow_14 : decode cX9_standsNow 14 = .ok (.aload_n 0, 1) := by decide +kernel
theorem dX9_standsNow_15 : decode cX9_standsNow 15 = .ok (.getfield 55, 3) := by decide +kernel
theorem dX9_standsNow_18 : decode cX9_standsNow 18 = .ok (.bipush 8, 2) := by decide +kernel
theorem dX9_standsNow_20 : decode cX9_standsNow 20 = .ok (.iload_n 1, 1) := by decide +kernel
theorem dX9_standsNow_21 : decode cX9_standsNow 21 = .ok (.imul, 1) := by decide +kernel
theorem dX9_standsNow_22 : decode cX9_standsNow 22 = .ok (.iload 4, 2) := by decide +kernel
theorem dX9_standsNow_24 : decode cX9_standsNow 24 = .ok (.iadd, 1) := by decide +kernel
theorem dX9_standsNow_25 : decode cX9_standsNow 25 = .ok (.iaload, 1) := by decide +kernel
theorem dX9_standsNow_26 : decode cX9_standsNow 26 = .ok (.istore 5, 2) := by decide +kernel
theorem dX9_standsNow_28 : decode cX9_standsNow 28 = .ok (.aload_n 0, 1) := by decide +kernel
theorem dX9_standsNow_29 : decode cX9_standsNow 29 = .ok (.getfield 22, 3) := by decide +kernel
theorem dX9_standsNow_32 : decode cX9_standsNow 32 = .ok (.iload 4, 2) := by decide +kernel
theorem dX9_standsNow_34 : decode cX9_standsNow 34 = .ok (.iaload, 1) := by decide +kernel
theorem dX9_standsNow_35 : decode cX9_standsNow 35 = .ok (.iload_n 2, 1) := by decide +kernel
theorem dX9_standsNow_36 : decode cX9_standsNow 36 = .ok (.if_icmp .eq 7, 3) := by decide +kernel
theorem dX9_standsNow_39 : decode cX9_standsNow 39 = .ok (.iload_n 3, 1) := by decide +kernel
theorem dX9_standsNow_40 : decode cX9_standsNow 40 = .ok (.goto 39, 3) := by decide +kernel
theorem dX9_standsNow_43 : decode cX9_standsNow 43 = .ok (.iload 5, 2) := by decide +kernel
theorem dX9_standsNow_45 : decode cX9_standsNow 45 = .ok (.iconst 1, 1) := by decide +kernel
theorem dX9_standsNow_46 : decode cX9_standsNow 46 = .ok (.if_icmp .ne 13, 3) := by decide +kernel
theorem dX9_standsNow_49 : decode cX9_standsNow 49 = .ok (.aload_n 0, 1) := by decide +kernel
theorem dX9_standsNow_50 : decode cX9_standsNow 50 = .ok (.getfield 25, 3) := by decide +kernel
theorem dX9_standsNow_53 : decode cX9_standsNow 53 = .ok (.iload 4, 2) := by decide +kernel
theorem dX9_standsNow_55 : decode cX9_standsNow 55 = .ok (.iaload, 1) := by decide +kernel
theorem dX9_standsNow_56 : decode cX9_standsNow 56 = .ok (.goto 23, 3) := by decide +kernel
theorem dX9_standsNow_59 : decode cX9_standsNow 59 = .ok (.iload 5, 2) := by decide +kernel
theorem dX9_standsNow_61 : decode cX9_standsNow 61 = .ok (.iconst 3, 1) := by decide +kernel
theorem dX9_standsNow_62 : decode cX9_standsNow 62 = .ok (.if_icmp .ne 16, 3) := by decide +kernel
theorem dX9_standsNow_65 : decode cX9_standsNow 65 = .ok (.bipush 6, 2) := by decide +kernel
theorem dX9_standsNow_67 : decode cX9_standsNow 67 = .ok (.aload_n 0, 1) := by decide +kernel
theorem dX9_standsNow_68 : decode cX9_standsNow 68 = .ok (.getfield 25, 3) := by decide +kernel
theorem dX9_standsNow_71 : decode cX9_standsNow 71 = .ok (.iload 4, 2) := by decide +kernel
theorem dX9_standsNow_73 : decode cX9_standsNow 73 = .ok (.iaload, 1) := by decide +kernel
theorem dX9_standsNow_74 : decode cX9_standsNow 74 = .ok (.iadd, 1) := by decide +kernel
theorem dX9_standsNow_75 : decode cX9_standsNow 75 = .ok (.goto 4, 3) := by decide +kernel
theorem dX9_standsNow_78 : decode cX9_standsNow 78 = .ok (.iload_n 3, 1) := by decide +kernel
theorem dX9_standsNow_79 : decode cX9_standsNow 79 = .ok (.istore_n 3, 1) := by decide +kernel
theorem dX9_standsNow_80 : decode cX9_standsNow 80 = .ok (.iinc 4 1, 3) := by decide +kernel
theorem dX9_standsNow_83 : decode cX9_standsNow 83 = .ok (.goto (-78), 3) := by decide +kernel
theorem dX9_standsNow_86 : decode cX9_standsNow 86 = .ok (.iload_n 3, 1) := by decide +kernel
theorem dX9_standsNow_87 : decode cX9_standsNow 87 = .ok (.ireturn, 1) := by decide +kernel
theorem dX9_standsOf_0 : decode cX9_standsOf 0 = .ok (.aload_n 0, 1) := by decide +kernel
theorem dX9_standsOf_1 : decode cX9_standsOf 1 = .ok (.invokevirtual 192, 3) := by decide +kernel
theorem dX9_standsOf_4 : decode cX9_standsOf 4 = .ok (.aload_n 0, 1) := by decide +kernel
theorem dX9_standsOf_5 : decode cX9_standsOf 5 = .ok (.iload_n 1, 1) := by decide +kernel
theorem dX9_standsOf_6 : decode cX9_standsOf 6 = .ok (.iload_n 2, 1) := by decide +kernel
theorem dX9_standsOf_7 : decode cX9_standsOf 7 = .ok (.invokevirtual 195, 3) := by decide +kernel
theorem dX9_standsOf_10 : decode cX9_standsOf 10 = .ok (.ireturn, 1) := by decide +kernel
theorem dX9_stands_0 : decode cX9_stands 0 = .ok (.iload_n 1, 1) := by decide +kernel
theorem dX9_stands_1 : decode cX9_stands 1 = .ok (.invokestatic 134, 3) := by decide +kernel
theorem dX9_stands_4 : decode cX9_stands 4 = .ok (.ifCond .eq 19, 3) := by decide +kernel
theorem dX9_stands_7 : decode cX9_stands 7 = .ok (.iload_n 2, 1) := by decide +kernel
theorem dX9_stands_8 : decode cX9_stands 8 = .ok (.invokestatic 198, 3) := by decide +kernel
theorem dX9_stands_11 : decode cX9_stands 11 = .ok (.ifCond .eq 12, 3) := by decide +kernel
theorem dX9_stands_14 : decode cX9_stands 14 = .ok (.aload_n 0, 1) := by decide +kernel
theorem dX9_stands_15 : decode cX9_stands 15 = .ok (.iload_n 1, 1) := by decide +kernel
theorem dX9_stands_16 : decode cX9_stands 16 = .ok (.iload_n 2, 1) := by decide +kernel
theorem dX9_stands_17 : decode cX9_stands 17 = .ok (.invokevirtual 201, 3) := by decide +kernel
theorem dX9_stands_20 : decode cX9_stands 20 = .ok (.goto 5, 3) := by decide +kernel
theorem dX9_stands_23 : decode cX9_stands 23 = .ok (.bipush (-2), 2) := by decide +kernel
theorem dX9_stands_25 : decode cX9_stands 25 = .ok (.ireturn, 1) := by decide +kernel
theorem dX9_stateOf_0 : decode cX9_stateOf 0 = .ok (.aload_n 0, 1) := by decide +kernel
theorem dX9_stateOf_1 : decode cX9_stateOf 1 = .ok (.invokevirtual 192, 3) := by decide +kernel
theorem dX9_stateOf_4 : decode cX9_stateOf 4 = .ok (.iload_n 3, 1) := by decide +kernel
theorem dX9_stateOf_5 : decode cX9_stateOf 5 = .ok (.ifCond .ne 17, 3) := by decide +kernel
theorem dX9_stateOf_8 : decode cX9_stateOf 8 = .ok (.aload_n 0, 1) := by decide +kernel
theorem dX9_stateOf_9 : decode cX9_stateOf 9 = .ok (.getfield 55, 3) := by decide +kernel
theorem dX9_stateOf_12 : decode cX9_stateOf 12 = .ok (.bipush 8, 2) := by decide +kernel
theorem dX9_stateOf_14 : decode cX9_stateOf 14 = .ok (.iload_n 1, 1) := by decide +kernel
theorem dX9_stateOf_15 : decode cX9_stateOf 15 = .ok (.imul, 1) := by decide +kernel
theorem dX9_stateOf_16 : decode cX9_stateOf 16 = .ok (.iload_n 2, 1) := by decide +kernel
theorem dX9_stateOf_17 : decode cX9_stateOf 17 = .ok (.iadd, 1) := by decide +kernel
theorem dX9_stateOf_18 : decode cX9_stateOf 18 = .ok (.iaload, 1) := by decide +kernel
theorem dX9_stateOf_19 : decode cX9_stateOf 19 = .ok (.goto 14, 3) := by decide +kernel
theorem dX9_stateOf_22 : decode cX9_stateOf 22 = .ok (.aload_n 0, 1) := by decide +kernel
theorem dX9_stateOf_23 : decode cX9_stateOf 23 = .ok (.getfield 58, 3) := by decide +kernel
theorem dX9_stateOf_26 : decode cX9_stateOf 26 = .ok (.bipush 8, 2) := by decide +kernel
theorem dX9_stateOf_28 : decode cX9_stateOf 28 = .ok (.iload_n 1, 1) := by decide +kernel
theorem dX9_stateOf_29 : decode cX9_stateOf 29 = .ok (.imul, 1) := by decide +kernel
theorem dX9_stateOf_30 : decode cX9_stateOf 30 = .ok (.iload_n 2, 1) := by decide +kernel
theorem dX9_stateOf_31 : decode cX9_stateOf 31 = .ok (.iadd, 1) := by decide +kernel
theorem dX9_stateOf_32 : decode cX9_stateOf 32 = .ok (.iaload, 1) := by decide +kernel
theorem dX9_stateOf_33 : decode cX9_stateOf 33 = .ok (.ireturn, 1) := by decide +kernel
theorem dX9_state_0 : decode cX9_state 0 = .ok (.iload_n 1, 1) := by decide +kernel
theorem dX9_state_1 : decode cX9_state 1 = .ok (.invokestatic 134, 3) := by decide +kernel
theorem dX9_state_4 : decode cX9_state 4 = .ok (.ifCond .eq 30, 3) := by decide +kernel
theorem dX9_state_7 : decode cX9_state 7 = .ok (.aload_n 0, 1) := by decide +kernel
theorem dX9_state_8 : decode cX9_state 8 = .ok (.iload_n 2, 1) := by decide +kernel
theorem dX9_state_9 : decode cX9_state 9 = .ok (.invokevirtual 140, 3) := by decide +kernel
theorem dX9_state_12 : decode cX9_state 12 = .ok (.ifCond .eq 22, 3) := by decide +kernel
theorem dX9_state_15 : decode cX9_state 15 = .ok (.iload_n 3, 1) := by decide +kernel
theorem dX9_state_16 : decode cX9_state 16 = .ok (.iconst 0, 1) := by decide +kernel
theorem dX9_state_17 : decode cX9_state 17 = .ok (.iconst 1, 1) := by decide +kernel
theorem dX9_state_18 : decode cX9_state 18 = .ok (.invokestatic 95, 3) := by decide +kernel
theorem dX9_state_21 : decode cX9_state 21 = .ok (.ifCond .eq 13, 3) := by decide +kernel
theorem dX9_state_24 : decode cX9_state 24 = .ok (.aload_n 0, 1) := by decide +kernel
theorem dX9_state_25 : decode cX9_state 25 = .ok (.iload_n 1, 1) := by decide +kernel
theorem dX9_state_26 : decode cX9_state 26 = .ok (.iload_n 2, 1) := by decide +kernel
theorem dX9_state_27 : decode cX9_state 27 = .ok (.iload_n 3, 1) := by decide +kernel
theorem dX9_state_28 : decode cX9_state 28 = .ok (.invokevirtual 204, 3) := by decide +kernel
theorem dX9_state_31 : decode cX9_state 31 = .ok (.goto 5, 3) := by decide +kernel
theorem dX9_state_34 : decode cX9_state 34 = .ok (.bipush (-2), 2) := by decide +kernel
theorem dX9_state_36 : decode cX9_state 36 = .ok (.ireturn, 1) := by decide +kernel
theorem dX9_upsOf_0 : decode cX9_upsOf 0 = .ok (.iconst 0, 1) := by decide +kernel
theorem dX9_upsOf_1 : decode cX9_upsOf 1 = .ok (.istore_n 2, 1) := by decide +kernel
theorem dX9_upsOf_2 : decode cX9_upsOf 2 = .ok (.iconst 0, 1) := by decide +kernel
theorem dX9_upsOf_3 : decode cX9_upsOf 3 = .ok (.istore_n 3, 1) := by decide +kernel
theorem dX9_upsOf_4 : decode cX9_upsOf 4 = .ok (.iload_n 3, 1) := by decide +kernel
theorem dX9_upsOf_5 : decode cX9_upsOf 5 = .ok (.bipush 20, 2) := by decide +kernel
theorem dX9_upsOf_7 : decode cX9_upsOf 7 = .ok (.if_icmp .ge 22, 3) := by decide +kernel
theorem dX9_upsOf_10 : decode cX9_upsOf 10 = .ok (.iload_n 2, 1) := by decide +kernel
theorem dX9_upsOf_11 : decode cX9_upsOf 11 = .ok (.aload_n 0, 1) := by decide +kernel
theorem dX9_upsOf_12 : decode cX9_upsOf 12 = .ok (.getfield 52, 3) := by decide +kernel
theorem dX9_upsOf_15 : decode cX9_upsOf 15 = .ok (.iload_n 3, 1) := by decide +kernel
theorem dX9_upsOf_16 : decode cX9_upsOf 16 = .ok (.iaload, 1) := by decide +kernel
theorem dX9_upsOf_17 : decode cX9_upsOf 17 = .ok (.iload_n 1, 1) := by decide +kernel
theorem dX9_upsOf_18 : decode cX9_upsOf 18 = .ok (.ishr, 1) := by decide +kernel
theorem dX9_upsOf_19 : decode cX9_upsOf 19 = .ok (.iconst 1, 1) := by decide +kernel
theorem dX9_upsOf_20 : decode cX9_upsOf 20 = .ok (.iand, 1) := by decide +kernel
theorem dX9_upsOf_21 : decode cX9_upsOf 21 = .ok (.iadd, 1) := by decide +kernel
theorem dX9_upsOf_22 : decode cX9_upsOf 22 = .ok (.istore_n 2, 1) := by decide +kernel
theorem dX9_upsOf_23 : decode cX9_upsOf 23 = .ok (.iinc 3 1, 3) := by decide +kernel
theorem dX9_upsOf_26 : decode cX9_upsOf 26 = .ok (.goto (-22), 3) := by decide +kernel
theorem dX9_upsOf_29 : decode cX9_upsOf 29 = .ok (.iload_n 2, 1) := by decide +kernel
theorem dX9_upsOf_30 : decode cX9_upsOf 30 = .ok (.ireturn, 1) := by decide +kernel
theorem dX9_upOf_0 : decode cX9_upOf 0 = .ok (.aload_n 0, 1) := by decide +kernel
theorem dX9_upOf_1 : decode cX9_upOf 1 = .ok (.invokevirtual 192, 3) := by decide +kernel
theorem dX9_upOf_4 : decode cX9_upOf 4 = .ok (.aload_n 0, 1) := by decide +kernel
theorem dX9_upOf_5 : decode cX9_upOf 5 = .ok (.iload_n 1, 1) := by decide +kernel
theorem dX9_upOf_6 : decode cX9_upOf 6 = .ok (.invokevirtual 208, 3) := by decide +kernel
theorem dX9_upOf_9 : decode cX9_upOf 9 = .ok (.ireturn, 1) := by decide +kernel
theorem dX9_up_0 : decode cX9_up 0 = .ok (.aload_n 0, 1) := by decide +kernel
theorem dX9_up_1 : decode cX9_up 1 = .ok (.iload_n 1, 1) := by decide +kernel
theorem dX9_up_2 : decode cX9_up 2 = .ok (.invokevirtual 140, 3) := by decide +kernel
theorem dX9_up_5 : decode cX9_up 5 = .ok (.ifCond .eq 11, 3) := by decide +kernel
theorem dX9_up_8 : decode cX9_up 8 = .ok (.aload_n 0, 1) := by decide +kernel
theorem dX9_up_9 : decode cX9_up 9 = .ok (.iload_n 1, 1) := by decide +kernel
theorem dX9_up_10 : decode cX9_up 10 = .ok (.invokevirtual 211, 3) := by decide +kernel
theorem dX9_up_13 : decode cX9_up 13 = .ok (.goto 5, 3) := by decide +kernel
theorem dX9_up_16 : decode cX9_up 16 = .ok (.bipush (-2), 2) := by decide +kernel
theorem dX9_up_18 : decode cX9_up 18 = .ok (.ireturn, 1) := by decide +kernel
theorem dX9_throughOf_0 : decode cX9_throughOf 0 = .ok (.aload_n 0, 1) := by decide +kernel
theorem dX9_throughOf_1 : decode cX9_throughOf 1 = .ok (.invokevirtual 192, 3) := by decide +kernel
theorem dX9_throughOf_4 : decode cX9_throughOf 4 = .ok (.aload_n 0, 1) := by decide +kernel
theorem dX9_throughOf_5 : decode cX9_throughOf 5 = .ok (.getfield 52, 3) := by decide +kernel
theorem dX9_throughOf_8 : decode cX9_throughOf 8 = .ok (.iload_n 1, 1) := by decide +kernel
theorem dX9_throughOf_9 : decode cX9_throughOf 9 = .ok (.iaload, 1) := by decide +kernel
theorem dX9_throughOf_10 : decode cX9_throughOf 10 = .ok (.invokestatic 214, 3) := by decide +kernel
theorem dX9_throughOf_13 : decode cX9_throughOf 13 = .ok (.ireturn, 1) := by decide +kernel
theorem dX9_through_0 : decode cX9_through 0 = .ok (.iload_n 1, 1) := by decide +kernel
theorem dX9_through_1 : decode cX9_through 1 = .ok (.invokestatic 134, 3) := by decide +kernel
theorem dX9_through_4 : decode cX9_through 4 = .ok (.ifCond .eq 11, 3) := by decide +kernel
theorem dX9_through_7 : decode cX9_through 7 = .ok (.aload_n 0, 1) := by decide +kernel
theorem dX9_through_8 : decode cX9_through 8 = .ok (.iload_n 1, 1) := by decide +kernel
theorem dX9_through_9 : decode cX9_through 9 = .ok (.invokevirtual 217, 3) := by decide +kernel
theorem dX9_through_12 : decode cX9_through 12 = .ok (.goto 5, 3) := by decide +kernel
theorem dX9_through_15 : decode cX9_through 15 = .ok (.bipush (-2), 2) := by decide +kernel
theorem dX9_through_17 : decode cX9_through 17 = .ok (.ireturn, 1) := by decide +kernel
theorem dX9_isMisread_0 : decode cX9_isMisread 0 = .ok (.iconst 0, 1) := by decide +kernel
theorem dX9_isMisread_1 : decode cX9_isMisread 1 = .ok (.istore_n 3, 1) := by decide +kernel
theorem dX9_isMisread_2 : decode cX9_isMisread 2 = .ok (.iconst 0, 1) := by decide +kernel
theorem dX9_isMisread_3 : decode cX9_isMisread 3 = .ok (.istore 4, 2) := by decide +kernel
theorem dX9_isMisread_5 : decode cX9_isMisread 5 = .ok (.iconst 0, 1) := by decide +kernel
theorem dX9_isMisread_6 : decode cX9_isMisread 6 = .ok (.istore 5, 2) := by decide +kernel
theorem dX9_isMisread_8 : decode cX9_isMisread 8 = .ok (.iload 5, 2) := by decide +kernel
theorem dX9_isMisread_10 : decode cX9_isMisread 10 = .ok (.aload_n 0, 1) := by decide +kernel
theorem dX9_isMisread_11 : decode cX9_isMisread 11 = .ok (.getfield 114, 3) := by decide +kernel
theorem dX9_isMisread_14 : decode cX9_isMisread 14 = .ok (.if_icmp .ge 91, 3) := by decide +kernel
theorem dX9_isMisread_17 : decode cX9_isMisread 17 = .ok (.iload_n 3, 1) := by decide +kernel
theorem dX9_isMisread_18 : decode cX9_isMisread 18 = .ok (.ifCond .ne 33, 3) := by decide +kernel
theorem dX9_isMisread_21 : decode cX9_isMisread 21 = .ok (.aload_n 0, 1) := by decide +kernel
theorem dX9_isMisread_22 : decode cX9_isMisread 22 = .ok (.getfield 22, 3) := by decide +kernel
theorem dX9_isMisread_25 : decode cX9_isMisread 25 = .ok (.iload 5, 2) := by decide +kernel
theorem dX9_isMisread_27 : decode cX9_isMisread 27 = .ok (.iaload, 1) := by decide +kernel
theorem dX9_isMisread_28 : decode cX9_isMisread 28 = .ok (.bipush 6, 2) := by decide +kernel
theorem dX9_isMisread_30 : decode cX9_isMisread 30 = .ok (.idiv, 1) := by decide +kernel
theorem dX9_isMisread_31 : decode cX9_isMisread 31 = .ok (.iload_n 2, 1) := by decide +kernel
theorem dX9_isMisread_32 : decode cX9_isMisread 32 = .ok (.if_icmp .ne 23, 3) := by decide +kernel
theorem dX9_isMisread_35 : decode cX9_isMisread 35 = .ok (.aload_n 0, 1) := by decide +kernel
theorem dX9_isMisread_36 : decode cX9_isMisread 36 = .ok (.getfield 55, 3) := by decide +kernel
theorem dX9_isMisread_39 : decode cX9_isMisread 39 = .ok (.bipush 8, 2) := by decide +kernel
theorem dX9_isMisread_41 : decode cX9_isMisread 41 = .ok (.iload_n 1, 1) := by decide +kernel
theorem dX9_isMisread_42 : decode cX9_isMisread 42 = .ok (.imul, 1) := by decide +kernel
theorem dX9_isMisread_43 : decode cX9_isMisread 43 = .ok (.iload 5, 2) := by decide +kernel
theorem dX9_isMisread_45 : decode cX9_isMisread 45 = .ok (.iadd, 1) := by decide +kernel
theorem dX9_isMisread_46 : decode cX9_isMisread 46 = .ok (.iaload, 1) := by decide +kernel
theorem dX9_isMisread_47 : decode cX9_isMisread 47 = .ok (.iconst 3, 1) := by decide +kernel
theorem dX9_isMisread_48 : decode cX9_isMisread 48 = .ok (.if_icmp .ne 7, 3) := by decide +kernel
theorem dX9_isMisread_51 : decode cX9_isMisread 51 = .ok (.iconst 1, 1) := by decide +kernel
theorem dX9_isMisread_52 : decode cX9_isMisread 52 = .ok (.goto 4, 3) := by decide +kernel
theorem dX9_isMisread_55 : decode cX9_isMisread 55 = .ok (.iconst 0, 1) := by decide +kernel
theorem dX9_isMisread_56 : decode cX9_isMisread 56 = .ok (.istore_n 3, 1) := by decide +kernel
theorem dX9_isMisread_57 : decode cX9_isMisread 57 = .ok (.iload 4, 2) := by decide +kernel
theorem dX9_isMisread_59 : decode cX9_isMisread 59 = .ok (.ifCond .ne 33, 3) := by decide +kernel
theorem dX9_isMisread_62 : decode cX9_isMisread 62 = .ok (.aload_n 0, 1) := by decide +kernel
theorem dX9_isMisread_63 : decode cX9_isMisread 63 = .ok (.getfield 22, 3) := by decide +kernel
theorem dX9_isMisread_66 : decode cX9_isMisread 66 = .ok (.iload 5, 2) := by decide +kernel
theorem dX9_isMisread_68 : decode cX9_isMisread 68 = .ok (.iaload, 1) := by decide +kernel
theorem dX9_isMisread_69 : decode cX9_isMisread 69 = .ok (.bipush 6, 2) := by decide +kernel
theorem dX9_isMisread_71 : decode cX9_isMisread 71 = .ok (.idiv, 1) := by decide +kernel
theorem dX9_isMisread_72 : decode cX9_isMisread 72 = .ok (.iload_n 2, 1) := by decide +kernel
theorem dX9_isMisread_73 : decode cX9_isMisread 73 = .ok (.if_icmp .ne 23, 3) := by decide +kernel
theorem dX9_isMisread_76 : decode cX9_isMisread 76 = .ok (.aload_n 0, 1) := by decide +kernel
theorem dX9_isMisread_77 : decode cX9_isMisread 77 = .ok (.getfield 55, 3) := by decide +kernel
theorem dX9_isMisread_80 : decode cX9_isMisread 80 = .ok (.bipush 8, 2) := by decide +kernel
theorem dX9_isMisread_82 : decode cX9_isMisread 82 = .ok (.iload_n 1, 1) := by decide +kernel
theorem dX9_isMisread_83 : decode cX9_isMisread 83 = .ok (.imul, 1) := by decide +kernel
theorem dX9_isMisread_84 : decode cX9_isMisread 84 = .ok (.iload 5, 2) := by decide +kernel
theorem dX9_isMisread_86 : decode cX9_isMisread 86 = .ok (.iadd, 1) := by decide +kernel
theorem dX9_isMisread_87 : decode cX9_isMisread 87 = .ok (.iaload, 1) := by decide +kernel
theorem dX9_isMisread_88 : decode cX9_isMisread 88 = .ok (.iconst 1, 1) := by decide +kernel
theorem dX9_isMisread_89 : decode cX9_isMisread 89 = .ok (.if_icmp .ne 7, 3) := by decide +kernel
theorem dX9_isMisread_92 : decode cX9_isMisread 92 = .ok (.iconst 1, 1) := by decide +kernel
theorem dX9_isMisread_93 : decode cX9_isMisread 93 = .ok (.goto 4, 3) := by decide +kernel
theorem dX9_isMisread_96 : decode cX9_isMisread 96 = .ok (.iconst 0, 1) := by decide +kernel
theorem dX9_isMisread_97 : decode cX9_isMisread 97 = .ok (.istore 4, 2) := by decide +kernel
theorem dX9_isMisread_99 : decode cX9_isMisread 99 = .ok (.iinc 5 1, 3) := by decide +kernel
theorem dX9_isMisread_102 : decode cX9_isMisread 102 = .ok (.goto (-94), 3) := by decide +kernel
theorem dX9_isMisread_105 : decode cX9_isMisread 105 = .ok (.iload_n 3, 1) := by decide +kernel
theorem dX9_isMisread_106 : decode cX9_isMisread 106 = .ok (.ifCond .eq 12, 3) := by decide +kernel
theorem dX9_isMisread_109 : decode cX9_isMisread 109 = .ok (.iload 4, 2) := by decide +kernel
theorem dX9_isMisread_111 : decode cX9_isMisread 111 = .ok (.ifCond .eq 7, 3) := by decide +kernel
theorem dX9_isMisread_114 : decode cX9_isMisread 114 = .ok (.iconst 1, 1) := by decide +kernel
theorem dX9_isMisread_115 : decode cX9_isMisread 115 = .ok (.goto 4, 3) := by decide +kernel
theorem dX9_isMisread_118 : decode cX9_isMisread 118 = .ok (.iconst 0, 1) := by decide +kernel
theorem dX9_isMisread_119 : decode cX9_isMisread 119 = .ok (.ireturn, 1) := by decide +kernel
theorem dX9_misreadOf_0 : decode cX9_misreadOf 0 = .ok (.aload_n 0, 1) := by decide +kernel
theorem dX9_misreadOf_1 : decode cX9_misreadOf 1 = .ok (.invokevirtual 192, 3) := by decide +kernel
theorem dX9_misreadOf_4 : decode cX9_misreadOf 4 = .ok (.iconst 0, 1) := by decide +kernel
theorem dX9_misreadOf_5 : decode cX9_misreadOf 5 = .ok (.istore_n 2, 1) := by decide +kernel
theorem dX9_misreadOf_6 : decode cX9_misreadOf 6 = .ok (.iload_n 2, 1) := by decide +kernel
theorem dX9_misreadOf_7 : decode cX9_misreadOf 7 = .ok (.bipush 20, 2) := by decide +kernel
theorem dX9_misreadOf_9 : decode cX9_misreadOf 9 = .ok (.if_icmp .ge 42, 3) := by decide +kernel
theorem dX9_misreadOf_12 : decode cX9_misreadOf 12 = .ok (.iconst 0, 1) := by decide +kernel
theorem dX9_misreadOf_13 : decode cX9_misreadOf 13 = .ok (.istore_n 3, 1) := by decide +kernel
theorem dX9_misreadOf_14 : decode cX9_misreadOf 14 = .ok (.iload_n 3, 1) := by decide +kernel
theorem dX9_misreadOf_15 : decode cX9_misreadOf 15 = .ok (.bipush 6, 2) := by decide +kernel
theorem dX9_misreadOf_17 : decode cX9_misreadOf 17 = .ok (.if_icmp .ge 28, 3) := by decide +kernel
theorem dX9_misreadOf_20 : decode cX9_misreadOf 20 = .ok (.aload_n 0, 1) := by decide +kernel
theorem dX9_misreadOf_21 : decode cX9_misreadOf 21 = .ok (.iload_n 2, 1) := by decide +kernel
theorem dX9_misreadOf_22 : decode cX9_misreadOf 22 = .ok (.iload_n 3, 1) := by decide +kernel
theorem dX9_misreadOf_23 : decode cX9_misreadOf 23 = .ok (.invokevirtual 220, 3) := by decide +kernel
theorem dX9_misreadOf_26 : decode cX9_misreadOf 26 = .ok (.ifCond .eq 13, 3) := by decide +kernel
theorem dX9_misreadOf_29 : decode cX9_misreadOf 29 = .ok (.iload_n 1, 1) := by decide +kernel
theorem dX9_misreadOf_30 : decode cX9_misreadOf 30 = .ok (.ifCond .ne 7, 3) := by decide +kernel
theorem dX9_misreadOf_33 : decode cX9_misreadOf 33 = .ok (.iload_n 2, 1) := by decide +kernel
theorem dX9_misreadOf_34 : decode cX9_misreadOf 34 = .ok (.goto 4, 3) := by decide +kernel
theorem dX9_misreadOf_37 : decode cX9_misreadOf 37 = .ok (.iload_n 3, 1) := by decide +kernel
theorem dX9_misreadOf_38 : decode cX9_misreadOf 38 = .ok (.ireturn, 1) := by decide +kernel
theorem dX9_misreadOf_39 : decode cX9_misreadOf 39 = .ok (.iinc 3 1, 3) := by decide +kernel
theorem dX9_misreadOf_42 : decode cX9_misreadOf 42 = .ok (.goto (-28), 3) := by decide +kernel
theorem dX9_misreadOf_45 : decode cX9_misreadOf 45 = .ok (.iinc 2 1, 3) := by decide +kernel
theorem dX9_misreadOf_48 : decode cX9_misreadOf 48 = .ok (.goto (-42), 3) := by decide +kernel
theorem dX9_misreadOf_51 : decode cX9_misreadOf 51 = .ok (.iconst (-1), 1) := by decide +kernel
theorem dX9_misreadOf_52 : decode cX9_misreadOf 52 = .ok (.ireturn, 1) := by decide +kernel
theorem dX9_misread_0 : decode cX9_misread 0 = .ok (.iload_n 1, 1) := by decide +kernel
theorem dX9_misread_1 : decode cX9_misread 1 = .ok (.iconst 0, 1) := by decide +kernel
theorem dX9_misread_2 : decode cX9_misread 2 = .ok (.iconst 1, 1) := by decide +kernel
theorem dX9_misread_3 : decode cX9_misread 3 = .ok (.invokestatic 95, 3) := by decide +kernel
theorem dX9_misread_6 : decode cX9_misread 6 = .ok (.ifCond .eq 11, 3) := by decide +kernel
theorem dX9_misread_9 : decode cX9_misread 9 = .ok (.aload_n 0, 1) := by decide +kernel
theorem dX9_misread_10 : decode cX9_misread 10 = .ok (.iload_n 1, 1) := by decide +kernel
theorem dX9_misread_11 : decode cX9_misread 11 = .ok (.invokevirtual 223, 3) := by decide +kernel
theorem dX9_misread_14 : decode cX9_misread 14 = .ok (.goto 5, 3) := by decide +kernel
theorem dX9_misread_17 : decode cX9_misread 17 = .ok (.bipush (-2), 2) := by decide +kernel
theorem dX9_misread_19 : decode cX9_misread 19 = .ok (.ireturn, 1) := by decide +kernel
theorem dX9_mostNow_0 : decode cX9_mostNow 0 = .ok (.aload_n 0, 1) := by decide +kernel
theorem dX9_mostNow_1 : decode cX9_mostNow 1 = .ok (.invokevirtual 192, 3) := by decide +kernel
theorem dX9_mostNow_4 : decode cX9_mostNow 4 = .ok (.iconst (-1), 1) := by decide +kernel
theorem dX9_mostNow_5 : decode cX9_mostNow 5 = .ok (.istore_n 1, 1) := by decide +kernel
theorem dX9_mostNow_6 : decode cX9_mostNow 6 = .ok (.iconst 0, 1) := by decide +kernel
theorem dX9_mostNow_7 : decode cX9_mostNow 7 = .ok (.istore_n 2, 1) := by decide +kernel
theorem dX9_mostNow_8 : decode cX9_mostNow 8 = .ok (.iload_n 2, 1) := by decide +kernel
theorem dX9_mostNow_9 : decode cX9_mostNow 9 = .ok (.aload_n 0, 1) := by decide +kernel
theorem dX9_mostNow_10 : decode cX9_mostNow 10 = .ok (.getfield 114, 3) := by decide +kernel
theorem dX9_mostNow_13 : decode cX9_mostNow 13 = .ok (.if_icmp .ge 33, 3) := by decide +kernel
theorem dX9_mostNow_16 : decode cX9_mostNow 16 = .ok (.iload_n 1, 1) := by decide +kernel
theorem dX9_mostNow_17 : decode cX9_mostNow 17 = .ok (.iconst (-1), 1) := by decide +kernel
theorem dX9_mostNow_18 : decode cX9_mostNow 18 = .ok (.if_icmp .eq 16, 3) := by decide +kernel
theorem dX9_mostNow_21 : decode cX9_mostNow 21 = .ok (.aload_n 0, 1) := by decide +kernel
theorem dX9_mostNow_22 : decode cX9_mostNow 22 = .ok (.iload_n 2, 1) := by decide +kernel
theorem dX9_mostNow_23 : decode cX9_mostNow 23 = .ok (.invokevirtual 208, 3) := by decide +kernel
theorem dX9_mostNow_26 : decode cX9_mostNow 26 = .ok (.aload_n 0, 1) := by decide +kernel
theorem dX9_mostNow_27 : decode cX9_mostNow 27 = .ok (.iload_n 1, 1) := by decide +kernel
theorem dX9_mostNow_28 : decode cX9_mostNow 28 = .ok (.invokevirtual 208, 3) := by decide +kernel
theorem dX9_mostNow_31 : decode cX9_mostNow 31 = .ok (.if_icmp .le 7, 3) := by decide +kernel
theorem dX9_mostNow_34 : decode cX9_mostNow 34 = .ok (.iload_n 2, 1) := by decide +kernel
theorem dX9_mostNow_35 : decode cX9_mostNow 35 = .ok (.goto 4, 3) := by decide +kernel
theorem dX9_mostNow_38 : decode cX9_mostNow 38 = .ok (.iload_n 1, 1) := by decide +kernel
theorem dX9_mostNow_39 : decode cX9_mostNow 39 = .ok (.istore_n 1, 1) := by decide +kernel
theorem dX9_mostNow_40 : decode cX9_mostNow 40 = .ok (.iinc 2 1, 3) := by decide +kernel
theorem dX9_mostNow_43 : decode cX9_mostNow 43 = .ok (.goto (-35), 3) := by decide +kernel
theorem dX9_mostNow_46 : decode cX9_mostNow 46 = .ok (.iload_n 1, 1) := by decide +kernel
theorem dX9_mostNow_47 : decode cX9_mostNow 47 = .ok (.ireturn, 1) := by decide +kernel
theorem dX9_most_0 : decode cX9_most 0 = .ok (.aload_n 0, 1) := by decide +kernel
theorem dX9_most_1 : decode cX9_most 1 = .ok (.invokevirtual 226, 3) := by decide +kernel
theorem dX9_most_4 : decode cX9_most 4 = .ok (.ireturn, 1) := by decide +kernel
theorem dX9_deepOf_0 : decode cX9_deepOf 0 = .ok (.aload_n 0, 1) := by decide +kernel
theorem dX9_deepOf_1 : decode cX9_deepOf 1 = .ok (.invokevirtual 192, 3) := by decide +kernel
theorem dX9_deepOf_4 : decode cX9_deepOf 4 = .ok (.iconst (-1), 1) := by decide +kernel
theorem dX9_deepOf_5 : decode cX9_deepOf 5 = .ok (.istore_n 2, 1) := by decide +kernel
theorem dX9_deepOf_6 : decode cX9_deepOf 6 = .ok (.iconst 0, 1) := by decide +kernel
theorem dX9_deepOf_7 : decode cX9_deepOf 7 = .ok (.istore_n 3, 1) := by decide +kernel
theorem dX9_deepOf_8 : decode cX9_deepOf 8 = .ok (.iconst 0, 1) := by decide +kernel
theorem dX9_deepOf_9 : decode cX9_deepOf 9 = .ok (.istore 4, 2) := by decide +kernel
theorem dX9_deepOf_11 : decode cX9_deepOf 11 = .ok (.iload 4, 2) := by decide +kernel
theorem dX9_deepOf_13 : decode cX9_deepOf 13 = .ok (.bipush 36, 2) := by decide +kernel
theorem dX9_deepOf_15 : decode cX9_deepOf 15 = .ok (.if_icmp .ge 94, 3) := by decide +kernel
theorem dX9_deepOf_18 : decode cX9_deepOf 18 = .ok (.iconst 0, 1) := by decide +kernel
theorem dX9_deepOf_19 : decode cX9_deepOf 19 = .ok (.istore 5, 2) := by decide +kernel
theorem dX9_deepOf_21 : decode cX9_deepOf 21 = .ok (.iconst 0, 1) := by decide +kernel
theorem dX9_deepOf_22 : decode cX9_deepOf 22 = .ok (.istore 6, 2) := by decide +kernel
theorem dX9_deepOf_24 : decode cX9_deepOf 24 = .ok (.iload 6, 2) := by decide +kernel
theorem dX9_deepOf_26 : decode cX9_deepOf 26 = .ok (.aload_n 0, 1) := by decide +kernel
theorem dX9_deepOf_27 : decode cX9_deepOf 27 = .ok (.getfield 114, 3) := by decide +kernel
theorem dX9_deepOf_30 : decode cX9_deepOf 30 = .ok (.if_icmp .ge 47, 3) := by decide +kernel
theorem dX9_deepOf_33 : decode cX9_deepOf 33 = .ok (.iload 5, 2) := by decide +kernel
theorem dX9_deepOf_35 : decode cX9_deepOf 35 = .ok (.aload_n 0, 1) := by decide +kernel
theorem dX9_deepOf_36 : decode cX9_deepOf 36 = .ok (.getfield 22, 3) := by decide +kernel
theorem dX9_deepOf_39 : decode cX9_deepOf 39 = .ok (.iload 6, 2) := by decide +kernel
theorem dX9_deepOf_41 : decode cX9_deepOf 41 = .ok (.iaload, 1) := by decide +kernel
theorem dX9_deepOf_42 : decode cX9_deepOf 42 = .ok (.iload 4, 2) := by decide +kernel
theorem dX9_deepOf_44 : decode cX9_deepOf 44 = .ok (.if_icmp .ne 23, 3) := by decide +kernel
theorem dX9_deepOf_47 : decode cX9_deepOf 47 = .ok (.aload_n 0, 1) := by decide +kernel
theorem dX9_deepOf_48 : decode cX9_deepOf 48 = .ok (.getfield 55, 3) := by decide +kernel
theorem dX9_deepOf_51 : decode cX9_deepOf 51 = .ok (.bipush 8, 2) := by decide +kernel
theorem dX9_deepOf_53 : decode cX9_deepOf 53 = .ok (.iload_n 1, 1) := by decide +kernel
theorem dX9_deepOf_54 : decode cX9_deepOf 54 = .ok (.imul, 1) := by decide +kernel
theorem dX9_deepOf_55 : decode cX9_deepOf 55 = .ok (.iload 6, 2) := by decide +kernel
theorem dX9_deepOf_57 : decode cX9_deepOf 57 = .ok (.iadd, 1) := by decide +kernel
theorem dX9_deepOf_58 : decode cX9_deepOf 58 = .ok (.iaload, 1) := by decide +kernel
theorem dX9_deepOf_59 : decode cX9_deepOf 59 = .ok (.iconst 1, 1) := by decide +kernel
theorem dX9_deepOf_60 : decode cX9_deepOf 60 = .ok (.if_icmp .le 7, 3) := by decide +kernel
theorem dX9_deepOf_63 : decode cX9_deepOf 63 = .ok (.iconst 1, 1) := by decide +kernel
theorem dX9_deepOf_64 : decode cX9_deepOf 64 = .ok (.goto 4, 3) := by decide +kernel
theorem dX9_deepOf_67 : decode cX9_deepOf 67 = .ok (.iconst 0, 1) := by decide +kernel
theorem dX9_deepOf_68 : decode cX9_deepOf 68 = .ok (.iadd, 1) := by decide +kernel
theorem dX9_deepOf_69 : decode cX9_deepOf 69 = .ok (.istore 5, 2) := by decide +kernel
theorem dX9_deepOf_71 : decode cX9_deepOf 71 = .ok (.iinc 6 1, 3) := by decide +kernel
theorem dX9_deepOf_74 : decode cX9_deepOf 74 = .ok (.goto (-50), 3) := by decide +kernel
theorem dX9_deepOf_77 : decode cX9_deepOf 77 = .ok (.iload 5, 2) := by decide +kernel
theorem dX9_deepOf_79 : decode cX9_deepOf 79 = .ok (.iload_n 3, 1) := by decide +kernel
theorem dX9_deepOf_80 : decode cX9_deepOf 80 = .ok (.if_icmp .le 8, 3) := by decide +kernel
theorem dX9_deepOf_83 : decode cX9_deepOf 83 = .ok (.iload 4, 2) := by decide +kernel
theorem dX9_deepOf_85 : decode cX9_deepOf 85 = .ok (.goto 4, 3) := by decide +kernel
theorem dX9_deepOf_88 : decode cX9_deepOf 88 = .ok (.iload_n 2, 1) := by decide +kernel
theorem dX9_deepOf_89 : decode cX9_deepOf 89 = .ok (.istore_n 2, 1) := by decide +kernel
theorem dX9_deepOf_90 : decode cX9_deepOf 90 = .ok (.iload 5, 2) := by decide +kernel
theorem dX9_deepOf_92 : decode cX9_deepOf 92 = .ok (.iload_n 3, 1) := by decide +kernel
theorem dX9_deepOf_93 : decode cX9_deepOf 93 = .ok (.if_icmp .le 8, 3) := by decide +kernel
theorem dX9_deepOf_96 : decode cX9_deepOf 96 = .ok (.iload 5, 2) := by decide +kernel
theorem dX9_deepOf_98 : decode cX9_deepOf 98 = .ok (.goto 4, 3) := by decide +kernel
theorem dX9_deepOf_101 : decode cX9_deepOf 101 = .ok (.iload_n 3, 1) := by decide +kernel
theorem dX9_deepOf_102 : decode cX9_deepOf 102 = .ok (.istore_n 3, 1) := by decide +kernel
theorem dX9_deepOf_103 : decode cX9_deepOf 103 = .ok (.iinc 4 1, 3) := by decide +kernel
theorem dX9_deepOf_106 : decode cX9_deepOf 106 = .ok (.goto (-95), 3) := by decide +kernel
theorem dX9_deepOf_109 : decode cX9_deepOf 109 = .ok (.iload_n 2, 1) := by decide +kernel
theorem dX9_deepOf_110 : decode cX9_deepOf 110 = .ok (.ireturn, 1) := by decide +kernel
theorem dX9_deep_0 : decode cX9_deep 0 = .ok (.iload_n 1, 1) := by decide +kernel
theorem dX9_deep_1 : decode cX9_deep 1 = .ok (.invokestatic 134, 3) := by decide +kernel
theorem dX9_deep_4 : decode cX9_deep 4 = .ok (.ifCond .eq 11, 3) := by decide +kernel
theorem dX9_deep_7 : decode cX9_deep 7 = .ok (.aload_n 0, 1) := by decide +kernel
theorem dX9_deep_8 : decode cX9_deep 8 = .ok (.iload_n 1, 1) := by decide +kernel
theorem dX9_deep_9 : decode cX9_deep 9 = .ok (.invokevirtual 229, 3) := by decide +kernel
theorem dX9_deep_12 : decode cX9_deep 12 = .ok (.goto 5, 3) := by decide +kernel
theorem dX9_deep_15 : decode cX9_deep 15 = .ok (.bipush (-2), 2) := by decide +kernel
theorem dX9_deep_17 : decode cX9_deep 17 = .ok (.ireturn, 1) := by decide +kernel
theorem dX9_allUp_0 : decode cX9_allUp 0 = .ok (.iconst 0, 1) := by decide +kernel
theorem dX9_allUp_1 : decode cX9_allUp 1 = .ok (.istore_n 1, 1) := by decide +kernel
theorem dX9_allUp_2 : decode cX9_allUp 2 = .ok (.iconst 0, 1) := by decide +kernel
theorem dX9_allUp_3 : decode cX9_allUp 3 = .ok (.istore_n 2, 1) := by decide +kernel
theorem dX9_allUp_4 : decode cX9_allUp 4 = .ok (.iload_n 2, 1) := by decide +kernel
theorem dX9_allUp_5 : decode cX9_allUp 5 = .ok (.bipush 20, 2) := by decide +kernel
theorem dX9_allUp_7 : decode cX9_allUp 7 = .ok (.if_icmp .ge 21, 3) := by decide +kernel
theorem dX9_allUp_10 : decode cX9_allUp 10 = .ok (.iload_n 1, 1) := by decide +kernel
theorem dX9_allUp_11 : decode cX9_allUp 11 = .ok (.aload_n 0, 1) := by decide +kernel
theorem dX9_allUp_12 : decode cX9_allUp 12 = .ok (.getfield 52, 3) := by decide +kernel
theorem dX9_allUp_15 : decode cX9_allUp 15 = .ok (.iload_n 2, 1) := by decide +kernel
theorem dX9_allUp_16 : decode cX9_allUp 16 = .ok (.iaload, 1) := by decide +kernel
theorem dX9_allUp_17 : decode cX9_allUp 17 = .ok (.invokestatic 214, 3) := by decide +kernel
theorem dX9_allUp_20 : decode cX9_allUp 20 = .ok (.iadd, 1) := by decide +kernel
theorem dX9_allUp_21 : decode cX9_allUp 21 = .ok (.istore_n 1, 1) := by decide +kernel
theorem dX9_allUp_22 : decode cX9_allUp 22 = .ok (.iinc 2 1, 3) := by decide +kernel
theorem dX9_allUp_25 : decode cX9_allUp 25 = .ok (.goto (-21), 3) := by decide +kernel
theorem dX9_allUp_28 : decode cX9_allUp 28 = .ok (.iload_n 1, 1) := by decide +kernel
theorem dX9_allUp_29 : decode cX9_allUp 29 = .ok (.ireturn, 1) := by decide +kernel
theorem dX9_oilOf_0 : decode cX9_oilOf 0 = .ok (.aload_n 0, 1) := by decide +kernel
theorem dX9_oilOf_1 : decode cX9_oilOf 1 = .ok (.invokevirtual 186, 3) := by decide +kernel
theorem dX9_oilOf_4 : decode cX9_oilOf 4 = .ok (.iconst (-1), 1) := by decide +kernel
theorem dX9_oilOf_5 : decode cX9_oilOf 5 = .ok (.istore_n 2, 1) := by decide +kernel
theorem dX9_oilOf_6 : decode cX9_oilOf 6 = .ok (.iconst 0, 1) := by decide +kernel
theorem dX9_oilOf_7 : decode cX9_oilOf 7 = .ok (.istore_n 3, 1) := by decide +kernel
theorem dX9_oilOf_8 : decode cX9_oilOf 8 = .ok (.iload_n 3, 1) := by decide +kernel
theorem dX9_oilOf_9 : decode cX9_oilOf 9 = .ok (.bipush 64, 2) := by decide +kernel
theorem dX9_oilOf_11 : decode cX9_oilOf 11 = .ok (.if_icmp .ge 55, 3) := by decide +kernel
theorem dX9_oilOf_14 : decode cX9_oilOf 14 = .ok (.iload_n 3, 1) := by decide +kernel
theorem dX9_oilOf_15 : decode cX9_oilOf 15 = .ok (.invokestatic 214, 3) := by decide +kernel
theorem dX9_oilOf_18 : decode cX9_oilOf 18 = .ok (.iconst 4, 1) := by decide +kernel
theorem dX9_oilOf_19 : decode cX9_oilOf 19 = .ok (.if_icmp .ge 41, 3) := by decide +kernel
theorem dX9_oilOf_22 : decode cX9_oilOf 22 = .ok (.iload_n 2, 1) := by decide +kernel
theorem dX9_oilOf_23 : decode cX9_oilOf 23 = .ok (.iconst (-1), 1) := by decide +kernel
theorem dX9_oilOf_24 : decode cX9_oilOf 24 = .ok (.if_icmp .eq 14, 3) := by decide +kernel
theorem dX9_oilOf_27 : decode cX9_oilOf 27 = .ok (.iload_n 3, 1) := by decide +kernel
theorem dX9_oilOf_28 : decode cX9_oilOf 28 = .ok (.invokestatic 214, 3) := by decide +kernel
theorem dX9_oilOf_31 : decode cX9_oilOf 31 = .ok (.iload_n 2, 1) := by decide +kernel
theorem dX9_oilOf_32 : decode cX9_oilOf 32 = .ok (.invokestatic 214, 3) := by decide +kernel
theorem dX9_oilOf_35 : decode cX9_oilOf 35 = .ok (.if_icmp .ge 25, 3) := by decide +kernel
theorem dX9_oilOf_38 : decode cX9_oilOf 38 = .ok (.aload_n 0, 1) := by decide +kernel
theorem dX9_oilOf_39 : decode cX9_oilOf 39 = .ok (.iload_n 3, 1) := by decide +kernel
theorem dX9_oilOf_40 : decode cX9_oilOf 40 = .ok (.putfield 164, 3) := by decide +kernel
theorem dX9_oilOf_43 : decode cX9_oilOf 43 = .ok (.aload_n 0, 1) := by decide +kernel
theorem dX9_oilOf_44 : decode cX9_oilOf 44 = .ok (.invokevirtual 189, 3) := by decide +kernel
theorem dX9_oilOf_47 : decode cX9_oilOf 47 = .ok (.aload_n 0, 1) := by decide +kernel
theorem dX9_oilOf_48 : decode cX9_oilOf 48 = .ok (.invokevirtual 232, 3) := by decide +kernel
theorem dX9_oilOf_51 : decode cX9_oilOf 51 = .ok (.ifCond .ne 7, 3) := by decide +kernel
theorem dX9_oilOf_54 : decode cX9_oilOf 54 = .ok (.iload_n 3, 1) := by decide +kernel
theorem dX9_oilOf_55 : decode cX9_oilOf 55 = .ok (.goto 4, 3) := by decide +kernel
theorem dX9_oilOf_58 : decode cX9_oilOf 58 = .ok (.iload_n 2, 1) := by decide +kernel
theorem dX9_oilOf_59 : decode cX9_oilOf 59 = .ok (.istore_n 2, 1) := by decide +kernel
theorem dX9_oilOf_60 : decode cX9_oilOf 60 = .ok (.iinc 3 1, 3) := by decide +kernel
theorem dX9_oilOf_63 : decode cX9_oilOf 63 = .ok (.goto (-55), 3) := by decide +kernel
theorem dX9_oilOf_66 : decode cX9_oilOf 66 = .ok (.iload_n 2, 1) := by decide +kernel
theorem dX9_oilOf_67 : decode cX9_oilOf 67 = .ok (.iconst (-1), 1) := by decide +kernel
theorem dX9_oilOf_68 : decode cX9_oilOf 68 = .ok (.if_icmp .eq 8, 3) := by decide +kernel
theorem dX9_oilOf_71 : decode cX9_oilOf 71 = .ok (.iload_n 1, 1) := by decide +kernel
theorem dX9_oilOf_72 : decode cX9_oilOf 72 = .ok (.iconst 1, 1) := by decide +kernel
theorem dX9_oilOf_73 : decode cX9_oilOf 73 = .ok (.if_icmp .ne 7, 3) := by decide +kernel
theorem dX9_oilOf_76 : decode cX9_oilOf 76 = .ok (.iload_n 2, 1) := by decide +kernel
theorem dX9_oilOf_77 : decode cX9_oilOf 77 = .ok (.goto 7, 3) := by decide +kernel
theorem dX9_oilOf_80 : decode cX9_oilOf 80 = .ok (.iload_n 2, 1) := by decide +kernel
theorem dX9_oilOf_81 : decode cX9_oilOf 81 = .ok (.invokestatic 214, 3) := by decide +kernel
theorem dX9_oilOf_84 : decode cX9_oilOf 84 = .ok (.ireturn, 1) := by decide +kernel
theorem dX9_oil_0 : decode cX9_oil 0 = .ok (.iload_n 1, 1) := by decide +kernel
theorem dX9_oil_1 : decode cX9_oil 1 = .ok (.iconst 0, 1) := by decide +kernel
theorem dX9_oil_2 : decode cX9_oil 2 = .ok (.iconst 1, 1) := by decide +kernel
theorem dX9_oil_3 : decode cX9_oil 3 = .ok (.invokestatic 95, 3) := by decide +kernel
theorem dX9_oil_6 : decode cX9_oil 6 = .ok (.ifCond .eq 11, 3) := by decide +kernel
theorem dX9_oil_9 : decode cX9_oil 9 = .ok (.aload_n 0, 1) := by decide +kernel
theorem dX9_oil_10 : decode cX9_oil 10 = .ok (.iload_n 1, 1) := by decide +kernel
theorem dX9_oil_11 : decode cX9_oil 11 = .ok (.invokevirtual 235, 3) := by decide +kernel
theorem dX9_oil_14 : decode cX9_oil 14 = .ok (.goto 5, 3) := by decide +kernel
theorem dX9_oil_17 : decode cX9_oil 17 = .ok (.bipush (-2), 2) := by decide +kernel
theorem dX9_oil_19 : decode cX9_oil 19 = .ok (.ireturn, 1) := by decide +kernel
theorem dX9_whenOf_0 : decode cX9_whenOf 0 = .ok (.aload_n 0, 1) := by decide +kernel
theorem dX9_whenOf_1 : decode cX9_whenOf 1 = .ok (.invokevirtual 186, 3) := by decide +kernel
theorem dX9_whenOf_4 : decode cX9_whenOf 4 = .ok (.aload_n 0, 1) := by decide +kernel
theorem dX9_whenOf_5 : decode cX9_whenOf 5 = .ok (.getfield 19, 3) := by decide +kernel
theorem dX9_whenOf_8 : decode cX9_whenOf 8 = .ok (.iload_n 1, 1) := by decide +kernel
theorem dX9_whenOf_9 : decode cX9_whenOf 9 = .ok (.iaload, 1) := by decide +kernel
theorem dX9_whenOf_10 : decode cX9_whenOf 10 = .ok (.istore_n 3, 1) := by decide +kernel
theorem dX9_whenOf_11 : decode cX9_whenOf 11 = .ok (.iconst (-1), 1) := by decide +kernel
theorem dX9_whenOf_12 : decode cX9_whenOf 12 = .ok (.istore 4, 2) := by decide +kernel
theorem dX9_whenOf_14 : decode cX9_whenOf 14 = .ok (.iconst 0, 1) := by decide +kernel
theorem dX9_whenOf_15 : decode cX9_whenOf 15 = .ok (.istore 5, 2) := by decide +kernel
theorem dX9_whenOf_17 : decode cX9_whenOf 17 = .ok (.iconst 0, 1) := by decide +kernel
theorem dX9_whenOf_18 : decode cX9_whenOf 18 = .ok (.istore 6, 2) := by decide +kernel
theorem dX9_whenOf_20 : decode cX9_whenOf 20 = .ok (.iload 6, 2) := by decide +kernel
theorem dX9_whenOf_22 : decode cX9_whenOf 22 = .ok (.bipush 20, 2) := by decide +kernel
theorem dX9_whenOf_24 : decode cX9_whenOf 24 = .ok (.if_icmp .ge 73, 3) := by decide +kernel
theorem dX9_whenOf_27 : decode cX9_whenOf 27 = .ok (.aload_n 0, 1) := by decide +kernel
theorem dX9_whenOf_28 : decode cX9_whenOf 28 = .ok (.getfield 19, 3) := by decide +kernel
theorem dX9_whenOf_31 : decode cX9_whenOf 31 = .ok (.iload_n 1, 1) := by decide +kernel
theorem dX9_whenOf_32 : decode cX9_whenOf 32 = .ok (.iload 6, 2) := by decide +kernel
theorem dX9_whenOf_34 : decode cX9_whenOf 34 = .ok (.iastore, 1) := by decide +kernel
theorem dX9_whenOf_35 : decode cX9_whenOf 35 = .ok (.aload_n 0, 1) := by decide +kernel
theorem dX9_whenOf_36 : decode cX9_whenOf 36 = .ok (.invokevirtual 189, 3) := by decide +kernel
theorem dX9_whenOf_39 : decode cX9_whenOf 39 = .ok (.iload 4, 2) := by decide +kernel
theorem dX9_whenOf_41 : decode cX9_whenOf 41 = .ok (.iconst (-1), 1) := by decide +kernel
theorem dX9_whenOf_42 : decode cX9_whenOf 42 = .ok (.if_icmp .eq 12, 3) := by decide +kernel
theorem dX9_whenOf_45 : decode cX9_whenOf 45 = .ok (.aload_n 0, 1) := by decide +kernel
theorem dX9_whenOf_46 : decode cX9_whenOf 46 = .ok (.invokevirtual 232, 3) := by decide +kernel
theorem dX9_whenOf_49 : decode cX9_whenOf 49 = .ok (.iload 5, 2) := by decide +kernel
theorem dX9_whenOf_51 : decode cX9_whenOf 51 = .ok (.if_icmp .ge 7, 3) := by decide +kernel
theorem dX9_whenOf_54 : decode cX9_whenOf 54 = .ok (.iconst 1, 1) := by decide +kernel
theorem dX9_whenOf_55 : decode cX9_whenOf 55 = .ok (.goto 4, 3) := by decide +kernel
theorem dX9_whenOf_58 : decode cX9_whenOf 58 = .ok (.iconst 0, 1) := by decide +kernel
theorem dX9_whenOf_59 : decode cX9_whenOf 59 = .ok (.istore 7, 2) := by decide +kernel
theorem dX9_whenOf_61 : decode cX9_whenOf 61 = .ok (.iload 7, 2) := by decide +kernel
theorem dX9_whenOf_63 : decode cX9_whenOf 63 = .ok (.ifCond .eq 8, 3) := by decide +kernel
theorem dX9_whenOf_66 : decode cX9_whenOf 66 = .ok (.iload 6, 2) := by decide +kernel
theorem dX9_whenOf_68 : decode cX9_whenOf 68 = .ok (.goto 5, 3) := by decide +kernel
theorem dX9_whenOf_71 : decode cX9_whenOf 71 = .ok (.iload 4, 2) := by decide +kernel
theorem dX9_whenOf_73 : decode cX9_whenOf 73 = .ok (.istore 4, 2) := by decide +kernel
theorem dX9_whenOf_75 : decode cX9_whenOf 75 = .ok (.iload 7, 2) := by decide +kernel
theorem dX9_whenOf_77 : decode cX9_whenOf 77 = .ok (.ifCond .eq 10, 3) := by decide +kernel
theorem dX9_whenOf_80 : decode cX9_whenOf 80 = .ok (.aload_n 0, 1) := by decide +kernel
theorem dX9_whenOf_81 : decode cX9_whenOf 81 = .ok (.invokevirtual 232, 3) := by decide +kernel
theorem dX9_whenOf_84 : decode cX9_whenOf 84 = .ok (.goto 5, 3) := by decide +kernel
theorem dX9_whenOf_87 : decode cX9_whenOf 87 = .ok (.iload 5, 2) := by decide +kernel
theorem dX9_whenOf_89 : decode cX9_whenOf 89 = .ok (.istore 5, 2) := by decide +kernel
theorem dX9_whenOf_91 : decode cX9_whenOf 91 = .ok (.iinc 6 1, 3) := by decide +kernel
theorem dX9_whenOf_94 : decode cX9_whenOf 94 = .ok (.goto (-74), 3) := by decide +kernel
theorem dX9_whenOf_97 : decode cX9_whenOf 97 = .ok (.aload_n 0, 1) := by decide +kernel
theorem dX9_whenOf_98 : decode cX9_whenOf 98 = .ok (.getfield 19, 3) := by decide +kernel
theorem dX9_whenOf_101 : decode cX9_whenOf 101 = .ok (.iload_n 1, 1) := by decide +kernel
theorem dX9_whenOf_102 : decode cX9_whenOf 102 = .ok (.iload_n 3, 1) := by decide +kernel
theorem dX9_whenOf_103 : decode cX9_whenOf 103 = .ok (.iastore, 1) := by decide +kernel
theorem dX9_whenOf_104 : decode cX9_whenOf 104 = .ok (.iload_n 2, 1) := by decide +kernel
theorem dX9_whenOf_105 : decode cX9_whenOf 105 = .ok (.ifCond .ne 8, 3) := by decide +kernel
theorem dX9_whenOf_108 : decode cX9_whenOf 108 = .ok (.iload 4, 2) := by decide +kernel
theorem dX9_whenOf_110 : decode cX9_whenOf 110 = .ok (.goto 5, 3) := by decide +kernel
theorem dX9_whenOf_113 : decode cX9_whenOf 113 = .ok (.iload 5, 2) := by decide +kernel
theorem dX9_whenOf_115 : decode cX9_whenOf 115 = .ok (.ireturn, 1) := by decide +kernel
theorem dX9_when_0 : decode cX9_when 0 = .ok (.aload_n 0, 1) := by decide +kernel
theorem dX9_when_1 : decode cX9_when 1 = .ok (.iload_n 1, 1) := by decide +kernel
theorem dX9_when_2 : decode cX9_when 2 = .ok (.invokevirtual 140, 3) := by decide +kernel
theorem dX9_when_5 : decode cX9_when 5 = .ok (.ifCond .eq 21, 3) := by decide +kernel
theorem dX9_when_8 : decode cX9_when 8 = .ok (.iload_n 2, 1) := by decide +kernel
theorem dX9_when_9 : decode cX9_when 9 = .ok (.iconst 0, 1) := by decide +kernel
theorem dX9_when_10 : decode cX9_when 10 = .ok (.iconst 1, 1) := by decide +kernel
theorem dX9_when_11 : decode cX9_when 11 = .ok (.invokestatic 95, 3) := by decide +kernel
theorem dX9_when_14 : decode cX9_when 14 = .ok (.ifCond .eq 12, 3) := by decide +kernel
theorem dX9_when_17 : decode cX9_when 17 = .ok (.aload_n 0, 1) := by decide +kernel
theorem dX9_when_18 : decode cX9_when 18 = .ok (.iload_n 1, 1) := by decide +kernel
theorem dX9_when_19 : decode cX9_when 19 = .ok (.iload_n 2, 1) := by decide +kernel
theorem dX9_when_20 : decode cX9_when 20 = .ok (.invokevirtual 238, 3) := by decide +kernel
theorem dX9_when_23 : decode cX9_when 23 = .ok (.goto 5, 3) := by decide +kernel
theorem dX9_when_26 : decode cX9_when 26 = .ok (.bipush (-2), 2) := by decide +kernel
theorem dX9_when_28 : decode cX9_when 28 = .ok (.ireturn, 1) := by decide +kernel
theorem dX9_placeOf_0 : decode cX9_placeOf 0 = .ok (.aload_n 0, 1) := by decide +kernel
theorem dX9_placeOf_1 : decode cX9_placeOf 1 = .ok (.invokevirtual 186, 3) := by decide +kernel
theorem dX9_placeOf_4 : decode cX9_placeOf 4 = .ok (.aload_n 0, 1) := by decide +kernel
theorem dX9_placeOf_5 : decode cX9_placeOf 5 = .ok (.getfield 22, 3) := by decide +kernel
theorem dX9_placeOf_8 : decode cX9_placeOf 8 = .ok (.iload_n 1, 1) := by decide +kernel
theorem dX9_placeOf_9 : decode cX9_placeOf 9 = .ok (.iaload, 1) := by decide +kernel
theorem dX9_placeOf_10 : decode cX9_placeOf 10 = .ok (.istore_n 3, 1) := by decide +kernel
theorem dX9_placeOf_11 : decode cX9_placeOf 11 = .ok (.iconst (-1), 1) := by decide +kernel
theorem dX9_placeOf_12 : decode cX9_placeOf 12 = .ok (.istore 4, 2) := by decide +kernel
theorem dX9_placeOf_14 : decode cX9_placeOf 14 = .ok (.iconst 0, 1) := by decide +kernel
theorem dX9_placeOf_15 : decode cX9_placeOf 15 = .ok (.istore 5, 2) := by decide +kernel
theorem dX9_placeOf_17 : decode cX9_placeOf 17 = .ok (.iconst 0, 1) := by decide +kernel
theorem dX9_placeOf_18 : decode cX9_placeOf 18 = .ok (.istore 6, 2) := by decide +kernel
theorem dX9_placeOf_20 : decode cX9_placeOf 20 = .ok (.iload 6, 2) := by decide +kernel
theorem dX9_placeOf_22 : decode cX9_placeOf 22 = .ok (.bipush 36, 2) := by decide +kernel
theorem dX9_placeOf_24 : decode cX9_placeOf 24 = .ok (.if_icmp .ge 73, 3) := by decide +kernel
theorem dX9_placeOf_27 : decode cX9_placeOf 27 = .ok (.aload_n 0, 1) := by decide +kernel
theorem dX9_placeOf_28 : decode cX9_placeOf 28 = .ok (.getfield 22, 3) := by decide +kernel
theorem dX9_placeOf_31 : decode cX9_placeOf 31 = .ok (.iload_n 1, 1) := by decide +kernel
theorem dX9_placeOf_32 : decode cX9_placeOf 32 = .ok (.iload 6, 2) := by decide +kernel
theorem dX9_placeOf_34 : decode cX9_placeOf 34 = .ok (.iastore, 1) := by decide +kernel
theorem dX9_placeOf_35 : decode cX9_placeOf 35 = .ok (.aload_n 0, 1) := by decide +kernel
theorem dX9_placeOf_36 : decode cX9_placeOf 36 = .ok (.invokevirtual 189, 3) := by decide +kernel
theorem dX9_placeOf_39 : decode cX9_placeOf 39 = .ok (.iload 4, 2) := by decide +kernel
theorem dX9_placeOf_41 : decode cX9_placeOf 41 = .ok (.iconst (-1), 1) := by decide +kernel
theorem dX9_placeOf_42 : decode cX9_placeOf 42 = .ok (.if_icmp .eq 12, 3) := by decide +kernel
theorem dX9_placeOf_45 : decode cX9_placeOf 45 = .ok (.aload_n 0, 1) := by decide +kernel
theorem dX9_placeOf_46 : decode cX9_placeOf 46 = .ok (.invokevirtual 232, 3) := by decide +kernel
theorem dX9_placeOf_49 : decode cX9_placeOf 49 = .ok (.iload 5, 2) := by decide +kernel
theorem dX9_placeOf_51 : decode cX9_placeOf 51 = .ok (.if_icmp .ge 7, 3) := by decide +kernel
theorem dX9_placeOf_54 : decode cX9_placeOf 54 = .ok (.iconst 1, 1) := by decide +kernel
theorem dX9_placeOf_55 : decode cX9_placeOf 55 = .ok (.goto 4, 3) := by decide +kernel
theorem dX9_placeOf_58 : decode cX9_placeOf 58 = .ok (.iconst 0, 1) := by decide +kernel
theorem dX9_placeOf_59 : decode cX9_placeOf 59 = .ok (.istore 7, 2) := by decide +kernel
theorem dX9_placeOf_61 : decode cX9_placeOf 61 = .ok (.iload 7, 2) := by decide +kernel
theorem dX9_placeOf_63 : decode cX9_placeOf 63 = .ok (.ifCond .eq 8, 3) := by decide +kernel
theorem dX9_placeOf_66 : decode cX9_placeOf 66 = .ok (.iload 6, 2) := by decide +kernel
theorem dX9_placeOf_68 : decode cX9_placeOf 68 = .ok (.goto 5, 3) := by decide +kernel
theorem dX9_placeOf_71 : decode cX9_placeOf 71 = .ok (.iload 4, 2) := by decide +kernel
theorem dX9_placeOf_73 : decode cX9_placeOf 73 = .ok (.istore 4, 2) := by decide +kernel
theorem dX9_placeOf_75 : decode cX9_placeOf 75 = .ok (.iload 7, 2) := by decide +kernel
theorem dX9_placeOf_77 : decode cX9_placeOf 77 = .ok (.ifCond .eq 10, 3) := by decide +kernel
theorem dX9_placeOf_80 : decode cX9_placeOf 80 = .ok (.aload_n 0, 1) := by decide +kernel
theorem dX9_placeOf_81 : decode cX9_placeOf 81 = .ok (.invokevirtual 232, 3) := by decide +kernel
theorem dX9_placeOf_84 : decode cX9_placeOf 84 = .ok (.goto 5, 3) := by decide +kernel
theorem dX9_placeOf_87 : decode cX9_placeOf 87 = .ok (.iload 5, 2) := by decide +kernel
theorem dX9_placeOf_89 : decode cX9_placeOf 89 = .ok (.istore 5, 2) := by decide +kernel
theorem dX9_placeOf_91 : decode cX9_placeOf 91 = .ok (.iinc 6 1, 3) := by decide +kernel
theorem dX9_placeOf_94 : decode cX9_placeOf 94 = .ok (.goto (-74), 3) := by decide +kernel
theorem dX9_placeOf_97 : decode cX9_placeOf 97 = .ok (.aload_n 0, 1) := by decide +kernel
theorem dX9_placeOf_98 : decode cX9_placeOf 98 = .ok (.getfield 22, 3) := by decide +kernel
theorem dX9_placeOf_101 : decode cX9_placeOf 101 = .ok (.iload_n 1, 1) := by decide +kernel
theorem dX9_placeOf_102 : decode cX9_placeOf 102 = .ok (.iload_n 3, 1) := by decide +kernel
theorem dX9_placeOf_103 : decode cX9_placeOf 103 = .ok (.iastore, 1) := by decide +kernel
theorem dX9_placeOf_104 : decode cX9_placeOf 104 = .ok (.iload_n 2, 1) := by decide +kernel
theorem dX9_placeOf_105 : decode cX9_placeOf 105 = .ok (.ifCond .ne 8, 3) := by decide +kernel
theorem dX9_placeOf_108 : decode cX9_placeOf 108 = .ok (.iload 4, 2) := by decide +kernel
theorem dX9_placeOf_110 : decode cX9_placeOf 110 = .ok (.goto 5, 3) := by decide +kernel
theorem dX9_placeOf_113 : decode cX9_placeOf 113 = .ok (.iload 5, 2) := by decide +kernel
theorem dX9_placeOf_115 : decode cX9_placeOf 115 = .ok (.ireturn, 1) := by decide +kernel
theorem dX9_place_0 : decode cX9_place 0 = .ok (.aload_n 0, 1) := by decide +kernel
theorem dX9_place_1 : decode cX9_place 1 = .ok (.iload_n 1, 1) := by decide +kernel
theorem dX9_place_2 : decode cX9_place 2 = .ok (.invokevirtual 140, 3) := by decide +kernel
theorem dX9_place_5 : decode cX9_place 5 = .ok (.ifCond .eq 21, 3) := by decide +kernel
theorem dX9_place_8 : decode cX9_place 8 = .ok (.iload_n 2, 1) := by decide +kernel
theorem dX9_place_9 : decode cX9_place 9 = .ok (.iconst 0, 1) := by decide +kernel
theorem dX9_place_10 : decode cX9_place 10 = .ok (.iconst 1, 1) := by decide +kernel
theorem dX9_place_11 : decode cX9_place 11 = .ok (.invokestatic 95, 3) := by decide +kernel
theorem dX9_place_14 : decode cX9_place 14 = .ok (.ifCond .eq 12, 3) := by decide +kernel
theorem dX9_place_17 : decode cX9_place 17 = .ok (.aload_n 0, 1) := by decide +kernel
theorem dX9_place_18 : decode cX9_place 18 = .ok (.iload_n 1, 1) := by decide +kernel
theorem dX9_place_19 : decode cX9_place 19 = .ok (.iload_n 2, 1) := by decide +kernel
theorem dX9_place_20 : decode cX9_place 20 = .ok (.invokevirtual 241, 3) := by decide +kernel
theorem dX9_place_23 : decode cX9_place 23 = .ok (.goto 5, 3) := by decide +kernel
theorem dX9_place_26 : decode cX9_place 26 = .ok (.bipush (-2), 2) := by decide +kernel
theorem dX9_place_28 : decode cX9_place 28 = .ok (.ireturn, 1) := by decide +kernel
theorem dX9_dryOf_0 : decode cX9_dryOf 0 = .ok (.aload_n 0, 1) := by decide +kernel
theorem dX9_dryOf_1 : decode cX9_dryOf 1 = .ok (.invokevirtual 186, 3) := by decide +kernel
theorem dX9_dryOf_4 : decode cX9_dryOf 4 = .ok (.iconst (-1), 1) := by decide +kernel
theorem dX9_dryOf_5 : decode cX9_dryOf 5 = .ok (.istore_n 2, 1) := by decide +kernel
theorem dX9_dryOf_6 : decode cX9_dryOf 6 = .ok (.iconst 0, 1) := by decide +kernel
theorem dX9_dryOf_7 : decode cX9_dryOf 7 = .ok (.istore_n 3, 1) := by decide +kernel
theorem dX9_dryOf_8 : decode cX9_dryOf 8 = .ok (.iconst 0, 1) := by decide +kernel
theorem dX9_dryOf_9 : decode cX9_dryOf 9 = .ok (.istore 4, 2) := by decide +kernel
theorem dX9_dryOf_11 : decode cX9_dryOf 11 = .ok (.iload 4, 2) := by decide +kernel
theorem dX9_dryOf_13 : decode cX9_dryOf 13 = .ok (.bipush 20, 2) := by decide +kernel
theorem dX9_dryOf_15 : decode cX9_dryOf 15 = .ok (.if_icmp .ge 85, 3) := by decide +kernel
theorem dX9_dryOf_18 : decode cX9_dryOf 18 = .ok (.aload_n 0, 1) := by decide +kernel
theorem dX9_dryOf_19 : decode cX9_dryOf 19 = .ok (.getfield 43, 3) := by decide +kernel
theorem dX9_dryOf_22 : decode cX9_dryOf 22 = .ok (.iload 4, 2) := by decide +kernel
theorem dX9_dryOf_24 : decode cX9_dryOf 24 = .ok (.iaload, 1) := by decide +kernel
theorem dX9_dryOf_25 : decode cX9_dryOf 25 = .ok (.istore 5, 2) := by decide +kernel
theorem dX9_dryOf_27 : decode cX9_dryOf 27 = .ok (.aload_n 0, 1) := by decide +kernel
theorem dX9_dryOf_28 : decode cX9_dryOf 28 = .ok (.getfield 43, 3) := by decide +kernel
theorem dX9_dryOf_31 : decode cX9_dryOf 31 = .ok (.iload 4, 2) := by decide +kernel
theorem dX9_dryOf_33 : decode cX9_dryOf 33 = .ok (.iconst 0, 1) := by decide +kernel
theorem dX9_dryOf_34 : decode cX9_dryOf 34 = .ok (.iastore, 1) := by decide +kernel
theorem dX9_dryOf_35 : decode cX9_dryOf 35 = .ok (.aload_n 0, 1) := by decide +kernel
theorem dX9_dryOf_36 : decode cX9_dryOf 36 = .ok (.invokevirtual 189, 3) := by decide +kernel
theorem dX9_dryOf_39 : decode cX9_dryOf 39 = .ok (.aload_n 0, 1) := by decide +kernel
theorem dX9_dryOf_40 : decode cX9_dryOf 40 = .ok (.getfield 43, 3) := by decide +kernel
theorem dX9_dryOf_43 : decode cX9_dryOf 43 = .ok (.iload 4, 2) := by decide +kernel
theorem dX9_dryOf_45 : decode cX9_dryOf 45 = .ok (.iload 5, 2) := by decide +kernel
theorem dX9_dryOf_47 : decode cX9_dryOf 47 = .ok (.iastore, 1) := by decide +kernel
theorem dX9_dryOf_48 : decode cX9_dryOf 48 = .ok (.iload_n 2, 1) := by decide +kernel
theorem dX9_dryOf_49 : decode cX9_dryOf 49 = .ok (.iconst (-1), 1) := by decide +kernel
theorem dX9_dryOf_50 : decode cX9_dryOf 50 = .ok (.if_icmp .eq 11, 3) := by decide +kernel
theorem dX9_dryOf_53 : decode cX9_dryOf 53 = .ok (.aload_n 0, 1) := by decide +kernel
theorem dX9_dryOf_54 : decode cX9_dryOf 54 = .ok (.invokevirtual 232, 3) := by decide +kernel
theorem dX9_dryOf_57 : decode cX9_dryOf 57 = .ok (.iload_n 3, 1) := by decide +kernel
theorem dX9_dryOf_58 : decode cX9_dryOf 58 = .ok (.if_icmp .ge 7, 3) := by decide +kernel
theorem dX9_dryOf_61 : decode cX9_dryOf 61 = .ok (.iconst 1, 1) := by decide +kernel
theorem dX9_dryOf_62 : decode cX9_dryOf 62 = .ok (.goto 4, 3) := by decide +kernel
theorem dX9_dryOf_65 : decode cX9_dryOf 65 = .ok (.iconst 0, 1) := by decide +kernel
theorem dX9_dryOf_66 : decode cX9_dryOf 66 = .ok (.istore 6, 2) := by decide +kernel
theorem dX9_dryOf_68 : decode cX9_dryOf 68 = .ok (.iload 6, 2) := by decide +kernel
theorem dX9_dryOf_70 : decode cX9_dryOf 70 = .ok (.ifCond .eq 8, 3) := by decide +kernel
theorem dX9_dryOf_73 : decode cX9_dryOf 73 = .ok (.iload 4, 2) := by decide +kernel
theorem dX9_dryOf_75 : decode cX9_dryOf 75 = .ok (.goto 4, 3) := by decide +kernel
theorem dX9_dryOf_78 : decode cX9_dryOf 78 = .ok (.iload_n 2, 1) := by decide +kernel
theorem dX9_dryOf_79 : decode cX9_dryOf 79 = .ok (.istore_n 2, 1) := by decide +kernel
theorem dX9_dryOf_80 : decode cX9_dryOf 80 = .ok (.iload 6, 2) := by decide +kernel
theorem dX9_dryOf_82 : decode cX9_dryOf 82 = .ok (.ifCond .eq 10, 3) := by decide +kernel
theorem dX9_dryOf_85 : decode cX9_dryOf 85 = .ok (.aload_n 0, 1) := by decide +kernel
theorem dX9_dryOf_86 : decode cX9_dryOf 86 = .ok (.invokevirtual 232, 3) := by decide +kernel
theorem dX9_dryOf_89 : decode cX9_dryOf 89 = .ok (.goto 4, 3) := by decide +kernel
theorem dX9_dryOf_92 : decode cX9_dryOf 92 = .ok (.iload_n 3, 1) := by decide +kernel
theorem dX9_dryOf_93 : decode cX9_dryOf 93 = .ok (.istore_n 3, 1) := by decide +kernel
theorem dX9_dryOf_94 : decode cX9_dryOf 94 = .ok (.iinc 4 1, 3) := by decide +kernel
theorem dX9_dryOf_97 : decode cX9_dryOf 97 = .ok (.goto (-86), 3) := by decide +kernel
theorem dX9_dryOf_100 : decode cX9_dryOf 100 = .ok (.iload_n 1, 1) := by decide +kernel
theorem dX9_dryOf_101 : decode cX9_dryOf 101 = .ok (.ifCond .ne 7, 3) := by decide +kernel
theorem dX9_dryOf_104 : decode cX9_dryOf 104 = .ok (.iload_n 2, 1) := by decide +kernel
theorem dX9_dryOf_105 : decode cX9_dryOf 105 = .ok (.goto 4, 3) := by decide +kernel
theorem dX9_dryOf_108 : decode cX9_dryOf 108 = .ok (.iload_n 3, 1) := by decide +kernel
theorem dX9_dryOf_109 : decode cX9_dryOf 109 = .ok (.ireturn, 1) := by decide +kernel
theorem dX9_dry_0 : decode cX9_dry 0 = .ok (.iload_n 1, 1) := by decide +kernel
theorem dX9_dry_1 : decode cX9_dry 1 = .ok (.iconst 0, 1) := by decide +kernel
theorem dX9_dry_2 : decode cX9_dry 2 = .ok (.iconst 1, 1) := by decide +kernel
theorem dX9_dry_3 : decode cX9_dry 3 = .ok (.invokestatic 95, 3) := by decide +kernel
theorem dX9_dry_6 : decode cX9_dry 6 = .ok (.ifCond .eq 11, 3) := by decide +kernel
theorem dX9_dry_9 : decode cX9_dry 9 = .ok (.aload_n 0, 1) := by decide +kernel
theorem dX9_dry_10 : decode cX9_dry 10 = .ok (.iload_n 1, 1) := by decide +kernel
theorem dX9_dry_11 : decode cX9_dry 11 = .ok (.invokevirtual 244, 3) := by decide +kernel
theorem dX9_dry_14 : decode cX9_dry 14 = .ok (.goto 5, 3) := by decide +kernel
theorem dX9_dry_17 : decode cX9_dry 17 = .ok (.bipush (-2), 2) := by decide +kernel
theorem dX9_dry_19 : decode cX9_dry 19 = .ok (.ireturn, 1) := by decide +kernel
theorem dX9_seen_0 : decode cX9_seen 0 = .ok (.iload_n 1, 1) := by decide +kernel
theorem dX9_seen_1 : decode cX9_seen 1 = .ok (.invokestatic 134, 3) := by decide +kernel
theorem dX9_seen_4 : decode cX9_seen 4 = .ok (.ifCond .eq 20, 3) := by decide +kernel
theorem dX9_seen_7 : decode cX9_seen 7 = .ok (.iload_n 2, 1) := by decide +kernel
theorem dX9_seen_8 : decode cX9_seen 8 = .ok (.invokestatic 198, 3) := by decide +kernel
theorem dX9_seen_11 : decode cX9_seen 11 = .ok (.ifCond .eq 13, 3) := by decide +kernel
theorem dX9_seen_14 : decode cX9_seen 14 = .ok (.iload_n 3, 1) := by decide +kernel
theorem dX9_seen_15 : decode cX9_seen 15 = .ok (.iconst 0, 1) := by decide +kernel
theorem dX9_seen_16 : decode cX9_seen 16 = .ok (.bipush 6, 2) := by decide +kernel
theorem dX9_seen_18 : decode cX9_seen 18 = .ok (.invokestatic 95, 3) := by decide +kernel
theorem dX9_seen_21 : decode cX9_seen 21 = .ok (.ifCond .ne 6, 3) := by decide +kernel
theorem dX9_seen_24 : decode cX9_seen 24 = .ok (.bipush (-2), 2) := by decide +kernel
theorem dX9_seen_26 : decode cX9_seen 26 = .ok (.ireturn, 1) := by decide +kernel
theorem dX9_seen_27 : decode cX9_seen 27 = .ok (.aload_n 0, 1) := by decide +kernel
theorem dX9_seen_28 : decode cX9_seen 28 = .ok (.getfield 247, 3) := by decide +kernel
theorem dX9_seen_31 : decode cX9_seen 31 = .ok (.bipush 8, 2) := by decide +kernel
theorem dX9_seen_33 : decode cX9_seen 33 = .ok (.if_icmp .ne 6, 3) := by decide +kernel
theorem dX9_seen_36 : decode cX9_seen 36 = .ok (.bipush (-4), 2) := by decide +kernel
theorem dX9_seen_38 : decode cX9_seen 38 = .ok (.ireturn, 1) := by decide +kernel
theorem dX9_seen_39 : decode cX9_seen 39 = .ok (.aload_n 0, 1) := by decide +kernel
theorem dX9_seen_40 : decode cX9_seen 40 = .ok (.getfield 61, 3) := by decide +kernel
theorem dX9_seen_43 : decode cX9_seen 43 = .ok (.aload_n 0, 1) := by decide +kernel
theorem dX9_seen_44 : decode cX9_seen 44 = .ok (.getfield 247, 3) := by decide +kernel
theorem dX9_seen_47 : decode cX9_seen 47 = .ok (.iload_n 1, 1) := by decide +kernel
theorem dX9_seen_48 : decode cX9_seen 48 = .ok (.iastore, 1) := by decide +kernel
theorem dX9_seen_49 : decode cX9_seen 49 = .ok (.aload_n 0, 1) := by decide +kernel
theorem dX9_seen_50 : decode cX9_seen 50 = .ok (.getfield 64, 3) := by decide +kernel
theorem dX9_seen_53 : decode cX9_seen 53 = .ok (.aload_n 0, 1) := by decide +kernel
theorem dX9_seen_54 : decode cX9_seen 54 = .ok (.getfield 247, 3) := by decide +kernel
theorem dX9_seen_57 : decode cX9_seen 57 = .ok (.iload_n 2, 1) := by decide +kernel
theorem dX9_seen_58 : decode cX9_seen 58 = .ok (.iastore, 1) := by decide +kernel
theorem dX9_seen_59 : decode cX9_seen 59 = .ok (.aload_n 0, 1) := by decide +kernel
theorem dX9_seen_60 : decode cX9_seen 60 = .ok (.getfield 67, 3) := by decide +kernel
theorem dX9_seen_63 : decode cX9_seen 63 = .ok (.aload_n 0, 1) := by decide +kernel
theorem dX9_seen_64 : decode cX9_seen 64 = .ok (.getfield 247, 3) := by decide +kernel
theorem dX9_seen_67 : decode cX9_seen 67 = .ok (.iload_n 3, 1) := by decide +kernel
theorem dX9_seen_68 : decode cX9_seen 68 = .ok (.iastore, 1) := by decide +kernel
theorem dX9_seen_69 : decode cX9_seen 69 = .ok (.aload_n 0, 1) := by decide +kernel
theorem dX9_seen_70 : decode cX9_seen 70 = .ok (.dup, 1) := by decide +kernel
theorem dX9_seen_71 : decode cX9_seen 71 = .ok (.getfield 247, 3) := by decide +kernel
theorem dX9_seen_74 : decode cX9_seen 74 = .ok (.iconst 1, 1) := by decide +kernel
theorem dX9_seen_75 : decode cX9_seen 75 = .ok (.iadd, 1) := by decide +kernel
theorem dX9_seen_76 : decode cX9_seen 76 = .ok (.putfield 247, 3) := by decide +kernel
theorem dX9_seen_79 : decode cX9_seen 79 = .ok (.aload_n 0, 1) := by decide +kernel
theorem dX9_seen_80 : decode cX9_seen 80 = .ok (.getfield 247, 3) := by decide +kernel
theorem dX9_seen_83 : decode cX9_seen 83 = .ok (.ireturn, 1) := by decide +kernel
theorem dX9_forget_0 : decode cX9_forget 0 = .ok (.aload_n 0, 1) := by decide +kernel
theorem dX9_forget_1 : decode cX9_forget 1 = .ok (.getfield 247, 3) := by decide +kernel
theorem dX9_forget_4 : decode cX9_forget 4 = .ok (.istore_n 1, 1) := by decide +kernel
theorem dX9_forget_5 : decode cX9_forget 5 = .ok (.aload_n 0, 1) := by decide +kernel
theorem dX9_forget_6 : decode cX9_forget 6 = .ok (.iconst 0, 1) := by decide +kernel
theorem dX9_forget_7 : decode cX9_forget 7 = .ok (.putfield 247, 3) := by decide +kernel
theorem dX9_forget_10 : decode cX9_forget 10 = .ok (.iload_n 1, 1) := by decide +kernel
theorem dX9_forget_11 : decode cX9_forget 11 = .ok (.ireturn, 1) := by decide +kernel
theorem dX9_isSeen_0 : decode cX9_isSeen 0 = .ok (.aload_n 0, 1) := by decide +kernel
theorem dX9_isSeen_1 : decode cX9_isSeen 1 = .ok (.invokevirtual 189, 3) := by decide +kernel
theorem dX9_isSeen_4 : decode cX9_isSeen 4 = .ok (.iconst 1, 1) := by decide +kernel
theorem dX9_isSeen_5 : decode cX9_isSeen 5 = .ok (.istore_n 1, 1) := by decide +kernel
theorem dX9_isSeen_6 : decode cX9_isSeen 6 = .ok (.iconst 0, 1) := by decide +kernel
theorem dX9_isSeen_7 : decode cX9_isSeen 7 = .ok (.istore_n 2, 1) := by decide +kernel
theorem dX9_isSeen_8 : decode cX9_isSeen 8 = .ok (.iload_n 2, 1) := by decide +kernel
theorem dX9_isSeen_9 : decode cX9_isSeen 9 = .ok (.aload_n 0, 1) := by decide +kernel
theorem dX9_isSeen_10 : decode cX9_isSeen 10 = .ok (.getfield 247, 3) := by decide +kernel
theorem dX9_isSeen_13 : decode cX9_isSeen 13 = .ok (.if_icmp .ge 59, 3) := by decide +kernel
theorem dX9_isSeen_16 : decode cX9_isSeen 16 = .ok (.iload_n 1, 1) := by decide +kernel
theorem dX9_isSeen_17 : decode cX9_isSeen 17 = .ok (.ifCond .eq 55, 3) := by decide +kernel
theorem dX9_isSeen_20 : decode cX9_isSeen 20 = .ok (.aload_n 0, 1) := by decide +kernel
theorem dX9_isSeen_21 : decode cX9_isSeen 21 = .ok (.aload_n 0, 1) := by decide +kernel
theorem dX9_isSeen_22 : decode cX9_isSeen 22 = .ok (.getfield 61, 3) := by decide +kernel
theorem dX9_isSeen_25 : decode cX9_isSeen 25 = .ok (.iload_n 2, 1) := by decide +kernel
theorem dX9_isSeen_26 : decode cX9_isSeen 26 = .ok (.iaload, 1) := by decide +kernel
theorem dX9_isSeen_27 : decode cX9_isSeen 27 = .ok (.aload_n 0, 1) := by decide +kernel
theorem dX9_isSeen_28 : decode cX9_isSeen 28 = .ok (.getfield 64, 3) := by decide +kernel
theorem dX9_isSeen_31 : decode cX9_isSeen 31 = .ok (.iload_n 2, 1) := by decide +kernel
theorem dX9_isSeen_32 : decode cX9_isSeen 32 = .ok (.iaload, 1) := by decide +kernel
theorem dX9_isSeen_33 : decode cX9_isSeen 33 = .ok (.invokevirtual 195, 3) := by decide +kernel
theorem dX9_isSeen_36 : decode cX9_isSeen 36 = .ok (.istore_n 3, 1) := by decide +kernel
theorem dX9_isSeen_37 : decode cX9_isSeen 37 = .ok (.iload_n 3, 1) := by decide +kernel
theorem dX9_isSeen_38 : decode cX9_isSeen 38 = .ok (.iconst 5, 1) := by decide +kernel
theorem dX9_isSeen_39 : decode cX9_isSeen 39 = .ok (.if_icmp .le 10, 3) := by decide +kernel
theorem dX9_isSeen_42 : decode cX9_isSeen 42 = .ok (.iload_n 3, 1) := by decide +kernel
theorem dX9_isSeen_43 : decode cX9_isSeen 43 = .ok (.bipush 6, 2) := by decide +kernel
theorem dX9_isSeen_45 : decode cX9_isSeen 45 = .ok (.isub, 1) := by decide +kernel
theorem dX9_isSeen_46 : decode cX9_isSeen 46 = .ok (.goto 5, 3) := by decide +kernel
theorem dX9_isSeen_49 : decode cX9_isSeen 49 = .ok (.bipush 6, 2) := by decide +kernel
theorem dX9_isSeen_51 : decode cX9_isSeen 51 = .ok (.aload_n 0, 1) := by decide +kernel
theorem dX9_isSeen_52 : decode cX9_isSeen 52 = .ok (.getfield 67, 3) := by decide +kernel
theorem dX9_isSeen_55 : decode cX9_isSeen 55 = .ok (.iload_n 2, 1) := by decide +kernel
theorem dX9_isSeen_56 : decode cX9_isSeen 56 = .ok (.iaload, 1) := by decide +kernel
theorem dX9_isSeen_57 : decode cX9_isSeen 57 = .ok (.if_icmp .ne 7, 3) := by decide +kernel
theorem dX9_isSeen_60 : decode cX9_isSeen 60 = .ok (.iconst 1, 1) := by decide +kernel
theorem dX9_isSeen_61 : decode cX9_isSeen 61 = .ok (.goto 4, 3) := by decide +kernel
theorem dX9_isSeen_64 : decode cX9_isSeen 64 = .ok (.iconst 0, 1) := by decide +kernel
theorem dX9_isSeen_65 : decode cX9_isSeen 65 = .ok (.istore_n 1, 1) := by decide +kernel
theorem dX9_isSeen_66 : decode cX9_isSeen 66 = .ok (.iinc 2 1, 3) := by decide +kernel
theorem dX9_isSeen_69 : decode cX9_isSeen 69 = .ok (.goto (-61), 3) := by decide +kernel
theorem dX9_isSeen_72 : decode cX9_isSeen 72 = .ok (.iload_n 1, 1) := by decide +kernel
theorem dX9_isSeen_73 : decode cX9_isSeen 73 = .ok (.ireturn, 1) := by decide +kernel
theorem dX9_neverNow_0 : decode cX9_neverNow 0 = .ok (.aload_n 0, 1) := by decide +kernel
theorem dX9_neverNow_1 : decode cX9_neverNow 1 = .ok (.invokevirtual 186, 3) := by decide +kernel
theorem dX9_neverNow_4 : decode cX9_neverNow 4 = .ok (.iconst 0, 1) := by decide +kernel
theorem dX9_neverNow_5 : decode cX9_neverNow 5 = .ok (.istore_n 1, 1) := by decide +kernel
theorem dX9_neverNow_6 : decode cX9_neverNow 6 = .ok (.iconst 0, 1) := by decide +kernel
theorem dX9_neverNow_7 : decode cX9_neverNow 7 = .ok (.istore_n 2, 1) := by decide +kernel
theorem dX9_neverNow_8 : decode cX9_neverNow 8 = .ok (.iload_n 2, 1) := by decide +kernel
theorem dX9_neverNow_9 : decode cX9_neverNow 9 = .ok (.aload_n 0, 1) := by decide +kernel
theorem dX9_neverNow_10 : decode cX9_neverNow 10 = .ok (.getfield 114, 3) := by decide +kernel
theorem dX9_neverNow_13 : decode cX9_neverNow 13 = .ok (.if_icmp .ge 33, 3) := by decide +kernel
theorem dX9_neverNow_16 : decode cX9_neverNow 16 = .ok (.aload_n 0, 1) := by decide +kernel
theorem dX9_neverNow_17 : decode cX9_neverNow 17 = .ok (.iconst 1, 1) := by decide +kernel
theorem dX9_neverNow_18 : decode cX9_neverNow 18 = .ok (.iload_n 2, 1) := by decide +kernel
theorem dX9_neverNow_19 : decode cX9_neverNow 19 = .ok (.ishl, 1) := by decide +kernel
theorem dX9_neverNow_20 : decode cX9_neverNow 20 = .ok (.putfield 161, 3) := by decide +kernel
theorem dX9_neverNow_23 : decode cX9_neverNow 23 = .ok (.iload_n 1, 1) := by decide +kernel
theorem dX9_neverNow_24 : decode cX9_neverNow 24 = .ok (.aload_n 0, 1) := by decide +kernel
theorem dX9_neverNow_25 : decode cX9_neverNow 25 = .ok (.invokevirtual 250, 3) := by decide +kernel
theorem dX9_neverNow_28 : decode cX9_neverNow 28 = .ok (.ifCond .eq 9, 3) := by decide +kernel
theorem dX9_neverNow_31 : decode cX9_neverNow 31 = .ok (.iconst 1, 1) := by decide +kernel
theorem dX9_neverNow_32 : decode cX9_neverNow 32 = .ok (.iload_n 2, 1) := by decide +kernel
theorem dX9_neverNow_33 : decode cX9_neverNow 33 = .ok (.ishl, 1) := by decide +kernel
theorem dX9_neverNow_34 : decode cX9_neverNow 34 = .ok (.goto 4, 3) := by decide +kernel
theorem dX9_neverNow_37 : decode cX9_neverNow 37 = .ok (.iconst 0, 1) := by decide +kernel
theorem dX9_neverNow_38 : decode cX9_neverNow 38 = .ok (.ior, 1) := by decide +kernel
theorem dX9_neverNow_39 : decode cX9_neverNow 39 = .ok (.istore_n 1, 1) := by decide +kernel
theorem dX9_neverNow_40 : decode cX9_neverNow 40 = .ok (.iinc 2 1, 3) := by decide +kernel
theorem dX9_neverNow_43 : decode cX9_neverNow 43 = .ok (.goto (-35), 3) := by decide +kernel
theorem dX9_neverNow_46 : decode cX9_neverNow 46 = .ok (.iload_n 1, 1) := by decide +kernel
theorem dX9_neverNow_47 : decode cX9_neverNow 47 = .ok (.ireturn, 1) := by decide +kernel
theorem dX9_never_0 : decode cX9_never 0 = .ok (.aload_n 0, 1) := by decide +kernel
theorem dX9_never_1 : decode cX9_never 1 = .ok (.invokevirtual 254, 3) := by decide +kernel
theorem dX9_never_4 : decode cX9_never 4 = .ok (.ireturn, 1) := by decide +kernel
theorem dX9_signOf_0 : decode cX9_signOf 0 = .ok (.aload_n 0, 1) := by decide +kernel
theorem dX9_signOf_1 : decode cX9_signOf 1 = .ok (.invokevirtual 186, 3) := by decide +kernel
theorem dX9_signOf_4 : decode cX9_signOf 4 = .ok (.aload_n 0, 1) := by decide +kernel
theorem dX9_signOf_5 : decode cX9_signOf 5 = .ok (.getfield 25, 3) := by decide +kernel
theorem dX9_signOf_8 : decode cX9_signOf 8 = .ok (.iload_n 1, 1) := by decide +kernel
theorem dX9_signOf_9 : decode cX9_signOf 9 = .ok (.iaload, 1) := by decide +kernel
theorem dX9_signOf_10 : decode cX9_signOf 10 = .ok (.istore_n 2, 1) := by decide +kernel
theorem dX9_signOf_11 : decode cX9_signOf 11 = .ok (.iconst 0, 1) := by decide +kernel
theorem dX9_signOf_12 : decode cX9_signOf 12 = .ok (.istore_n 3, 1) := by decide +kernel
theorem dX9_signOf_13 : decode cX9_signOf 13 = .ok (.iconst 0, 1) := by decide +kernel
theorem dX9_signOf_14 : decode cX9_signOf 14 = .ok (.istore 4, 2) := by decide +kernel
theorem dX9_signOf_16 : decode cX9_signOf 16 = .ok (.iload 4, 2) := by decide +kernel
theorem dX9_signOf_18 : decode cX9_signOf 18 = .ok (.bipush 6, 2) := by decide +kernel
theorem dX9_signOf_20 : decode cX9_signOf 20 = .ok (.if_icmp .ge 35, 3) := by decide +kernel
theorem dX9_signOf_23 : decode cX9_signOf 23 = .ok (.aload_n 0, 1) := by decide +kernel
theorem dX9_signOf_24 : decode cX9_signOf 24 = .ok (.getfield 25, 3) := by decide +kernel
theorem dX9_signOf_27 : decode cX9_signOf 27 = .ok (.iload_n 1, 1) := by decide +kernel
theorem dX9_signOf_28 : decode cX9_signOf 28 = .ok (.iload 4, 2) := by decide +kernel
theorem dX9_signOf_30 : decode cX9_signOf 30 = .ok (.iastore, 1) := by decide +kernel
theorem dX9_signOf_31 : decode cX9_signOf 31 = .ok (.iload_n 3, 1) := by decide +kernel
theorem dX9_signOf_32 : decode cX9_signOf 32 = .ok (.aload_n 0, 1) := by decide +kernel
theorem dX9_signOf_33 : decode cX9_signOf 33 = .ok (.invokevirtual 250, 3) := by decide +kernel
theorem dX9_signOf_36 : decode cX9_signOf 36 = .ok (.ifCond .eq 10, 3) := by decide +kernel
theorem dX9_signOf_39 : decode cX9_signOf 39 = .ok (.iconst 1, 1) := by decide +kernel
theorem dX9_signOf_40 : decode cX9_signOf 40 = .ok (.iload 4, 2) := by decide +kernel
theorem dX9_signOf_42 : decode cX9_signOf 42 = .ok (.ishl, 1) := by decide +kernel
theorem dX9_signOf_43 : decode cX9_signOf 43 = .ok (.goto 4, 3) := by decide +kernel
theorem dX9_signOf_46 : decode cX9_signOf 46 = .ok (.iconst 0, 1) := by decide +kernel
theorem dX9_signOf_47 : decode cX9_signOf 47 = .ok (.ior, 1) := by decide +kernel
theorem dX9_signOf_48 : decode cX9_signOf 48 = .ok (.istore_n 3, 1) := by decide +kernel
theorem dX9_signOf_49 : decode cX9_signOf 49 = .ok (.iinc 4 1, 3) := by decide +kernel
theorem dX9_signOf_52 : decode cX9_signOf 52 = .ok (.goto (-36), 3) := by decide +kernel
theorem dX9_signOf_55 : decode cX9_signOf 55 = .ok (.aload_n 0, 1) := by decide +kernel
theorem dX9_signOf_56 : decode cX9_signOf 56 = .ok (.getfield 25, 3) := by decide +kernel
theorem dX9_signOf_59 : decode cX9_signOf 59 = .ok (.iload_n 1, 1) := by decide +kernel
theorem dX9_signOf_60 : decode cX9_signOf 60 = .ok (.iload_n 2, 1) := by decide +kernel
theorem dX9_signOf_61 : decode cX9_signOf 61 = .ok (.iastore, 1) := by decide +kernel
theorem dX9_signOf_62 : decode cX9_signOf 62 = .ok (.iload_n 3, 1) := by decide +kernel
theorem dX9_signOf_63 : decode cX9_signOf 63 = .ok (.ireturn, 1) := by decide +kernel
theorem dX9_sign_0 : decode cX9_sign 0 = .ok (.aload_n 0, 1) := by decide +kernel
theorem dX9_sign_1 : decode cX9_sign 1 = .ok (.iload_n 1, 1) := by decide +kernel
theorem dX9_sign_2 : decode cX9_sign 2 = .ok (.invokevirtual 140, 3) := by decide +kernel
theorem dX9_sign_5 : decode cX9_sign 5 = .ok (.ifCond .eq 11, 3) := by decide +kernel
theorem dX9_sign_8 : decode cX9_sign 8 = .ok (.aload_n 0, 1) := by decide +kernel
theorem dX9_sign_9 : decode cX9_sign 9 = .ok (.iload_n 1, 1) := by decide +kernel
theorem dX9_sign_10 : decode cX9_sign 10 = .ok (.invokevirtual 257, 3) := by decide +kernel
theorem dX9_sign_13 : decode cX9_sign 13 = .ok (.goto 5, 3) := by decide +kernel
theorem dX9_sign_16 : decode cX9_sign 16 = .ok (.bipush (-2), 2) := by decide +kernel
theorem dX9_sign_18 : decode cX9_sign 18 = .ok (.ireturn, 1) := by decide +kernel
theorem dX9_chalkOf_0 : decode cX9_chalkOf 0 = .ok (.aload_n 0, 1) := by decide +kernel
theorem dX9_chalkOf_1 : decode cX9_chalkOf 1 = .ok (.invokevirtual 186, 3) := by decide +kernel
theorem dX9_chalkOf_4 : decode cX9_chalkOf 4 = .ok (.aload_n 0, 1) := by decide +kernel
theorem dX9_chalkOf_5 : decode cX9_chalkOf 5 = .ok (.getfield 28, 3) := by decide +kernel
theorem dX9_chalkOf_8 : decode cX9_chalkOf 8 = .ok (.iload_n 1, 1) := by decide +kernel
theorem dX9_chalkOf_9 : decode cX9_chalkOf 9 = .ok (.iaload, 1) := by decide +kernel
theorem dX9_chalkOf_10 : decode cX9_chalkOf 10 = .ok (.istore_n 2, 1) := by decide +kernel
theorem dX9_chalkOf_11 : decode cX9_chalkOf 11 = .ok (.iconst 0, 1) := by decide +kernel
theorem dX9_chalkOf_12 : decode cX9_chalkOf 12 = .ok (.istore_n 3, 1) := by decide +kernel
theorem dX9_chalkOf_13 : decode cX9_chalkOf 13 = .ok (.iconst 1, 1) := by decide +kernel
theorem dX9_chalkOf_14 : decode cX9_chalkOf 14 = .ok (.istore 4, 2) := by decide +kernel
theorem dX9_chalkOf_16 : decode cX9_chalkOf 16 = .ok (.iload 4, 2) := by decide +kernel
theorem dX9_chalkOf_18 : decode cX9_chalkOf 18 = .ok (.bipush 10, 2) := by decide +kernel
theorem dX9_chalkOf_20 : decode cX9_chalkOf 20 = .ok (.if_icmp .ge 35, 3) := by decide +kernel
theorem dX9_chalkOf_23 : decode cX9_chalkOf 23 = .ok (.aload_n 0, 1) := by decide +kernel
theorem dX9_chalkOf_24 : decode cX9_chalkOf 24 = .ok (.getfield 28, 3) := by decide +kernel
theorem dX9_chalkOf_27 : decode cX9_chalkOf 27 = .ok (.iload_n 1, 1) := by decide +kernel
theorem dX9_chalkOf_28 : decode cX9_chalkOf 28 = .ok (.iload 4, 2) := by decide +kernel
theorem dX9_chalkOf_30 : decode cX9_chalkOf 30 = .ok (.iastore, 1) := by decide +kernel
theorem dX9_chalkOf_31 : decode cX9_chalkOf 31 = .ok (.iload_n 3, 1) := by decide +kernel
theorem dX9_chalkOf_32 : decode cX9_chalkOf 32 = .ok (.aload_n 0, 1) := by decide +kernel
theorem dX9_chalkOf_33 : decode cX9_chalkOf 33 = .ok (.invokevirtual 250, 3) := by decide +kernel
theorem dX9_chalkOf_36 : decode cX9_chalkOf 36 = .ok (.ifCond .eq 10, 3) := by decide +kernel
theorem dX9_chalkOf_39 : decode cX9_chalkOf 39 = .ok (.iconst 1, 1) := by decide +kernel
theorem dX9_chalkOf_40 : decode cX9_chalkOf 40 = .ok (.iload 4, 2) := by decide +kernel
theorem dX9_chalkOf_42 : decode cX9_chalkOf 42 = .ok (.ishl, 1) := by decide +kernel
theorem dX9_chalkOf_43 : decode cX9_chalkOf 43 = .ok (.goto 4, 3) := by decide +kernel
theorem dX9_chalkOf_46 : decode cX9_chalkOf 46 = .ok (.iconst 0, 1) := by decide +kernel
theorem dX9_chalkOf_47 : decode cX9_chalkOf 47 = .ok (.ior, 1) := by decide +kernel
theorem dX9_chalkOf_48 : decode cX9_chalkOf 48 = .ok (.istore_n 3, 1) := by decide +kernel
theorem dX9_chalkOf_49 : decode cX9_chalkOf 49 = .ok (.iinc 4 1, 3) := by decide +kernel
theorem dX9_chalkOf_52 : decode cX9_chalkOf 52 = .ok (.goto (-36), 3) := by decide +kernel
theorem dX9_chalkOf_55 : decode cX9_chalkOf 55 = .ok (.aload_n 0, 1) := by decide +kernel
theorem dX9_chalkOf_56 : decode cX9_chalkOf 56 = .ok (.getfield 28, 3) := by decide +kernel
theorem dX9_chalkOf_59 : decode cX9_chalkOf 59 = .ok (.iload_n 1, 1) := by decide +kernel
theorem dX9_chalkOf_60 : decode cX9_chalkOf 60 = .ok (.iload_n 2, 1) := by decide +kernel
theorem dX9_chalkOf_61 : decode cX9_chalkOf 61 = .ok (.iastore, 1) := by decide +kernel
theorem dX9_chalkOf_62 : decode cX9_chalkOf 62 = .ok (.iload_n 3, 1) := by decide +kernel
theorem dX9_chalkOf_63 : decode cX9_chalkOf 63 = .ok (.ireturn, 1) := by decide +kernel
theorem dX9_chalk_0 : decode cX9_chalk 0 = .ok (.aload_n 0, 1) := by decide +kernel
theorem dX9_chalk_1 : decode cX9_chalk 1 = .ok (.iload_n 1, 1) := by decide +kernel
theorem dX9_chalk_2 : decode cX9_chalk 2 = .ok (.invokevirtual 140, 3) := by decide +kernel
theorem dX9_chalk_5 : decode cX9_chalk 5 = .ok (.ifCond .eq 11, 3) := by decide +kernel
theorem dX9_chalk_8 : decode cX9_chalk 8 = .ok (.aload_n 0, 1) := by decide +kernel
theorem dX9_chalk_9 : decode cX9_chalk 9 = .ok (.iload_n 1, 1) := by decide +kernel
theorem dX9_chalk_10 : decode cX9_chalk 10 = .ok (.invokevirtual 260, 3) := by decide +kernel
theorem dX9_chalk_13 : decode cX9_chalk 13 = .ok (.goto 5, 3) := by decide +kernel
theorem dX9_chalk_16 : decode cX9_chalk 16 = .ok (.bipush (-2), 2) := by decide +kernel
theorem dX9_chalk_18 : decode cX9_chalk 18 = .ok (.ireturn, 1) := by decide +kernel
theorem dX9_askOf_0 : decode cX9_askOf 0 = .ok (.aload_n 0, 1) := by decide +kernel
theorem dX9_askOf_1 : decode cX9_askOf 1 = .ok (.invokevirtual 254, 3) := by decide +kernel
theorem dX9_askOf_4 : decode cX9_askOf 4 = .ok (.istore_n 2, 1) := by decide +kernel
theorem dX9_askOf_5 : decode cX9_askOf 5 = .ok (.iconst 0, 1) := by decide +kernel
theorem dX9_askOf_6 : decode cX9_askOf 6 = .ok (.istore_n 3, 1) := by decide +kernel
theorem dX9_askOf_7 : decode cX9_askOf 7 = .ok (.iload_n 3, 1) := by decide +kernel
theorem dX9_askOf_8 : decode cX9_askOf 8 = .ok (.aload_n 0, 1) := by decide +kernel
theorem dX9_askOf_9 : decode cX9_askOf 9 = .ok (.getfield 114, 3) := by decide +kernel
theorem dX9_askOf_12 : decode cX9_askOf 12 = .ok (.if_icmp .ge 55, 3) := by decide +kernel
theorem dX9_askOf_15 : decode cX9_askOf 15 = .ok (.aload_n 0, 1) := by decide +kernel
theorem dX9_askOf_16 : decode cX9_askOf 16 = .ok (.iconst 1, 1) := by decide +kernel
theorem dX9_askOf_17 : decode cX9_askOf 17 = .ok (.iload_n 3, 1) := by decide +kernel
theorem dX9_askOf_18 : decode cX9_askOf 18 = .ok (.ishl, 1) := by decide +kernel
theorem dX9_askOf_19 : decode cX9_askOf 19 = .ok (.putfield 161, 3) := by decide +kernel
theorem dX9_askOf_22 : decode cX9_askOf 22 = .ok (.aload_n 0, 1) := by decide +kernel
theorem dX9_askOf_23 : decode cX9_askOf 23 = .ok (.invokevirtual 189, 3) := by decide +kernel
theorem dX9_askOf_26 : decode cX9_askOf 26 = .ok (.iconst 0, 1) := by decide +kernel
theorem dX9_askOf_27 : decode cX9_askOf 27 = .ok (.istore 4, 2) := by decide +kernel
theorem dX9_askOf_29 : decode cX9_askOf 29 = .ok (.iload 4, 2) := by decide +kernel
theorem dX9_askOf_31 : decode cX9_askOf 31 = .ok (.bipush 20, 2) := by decide +kernel
theorem dX9_askOf_33 : decode cX9_askOf 33 = .ok (.if_icmp .ge 28, 3) := by decide +kernel
theorem dX9_askOf_36 : decode cX9_askOf 36 = .ok (.aload_n 0, 1) := by decide +kernel
theorem dX9_askOf_37 : decode cX9_askOf 37 = .ok (.getfield 70, 3) := by decide +kernel
theorem dX9_askOf_40 : decode cX9_askOf 40 = .ok (.bipush 20, 2) := by decide +kernel
theorem dX9_askOf_42 : decode cX9_askOf 42 = .ok (.iload_n 3, 1) := by decide +kernel
theorem dX9_askOf_43 : decode cX9_askOf 43 = .ok (.imul, 1) := by decide +kernel
theorem dX9_askOf_44 : decode cX9_askOf 44 = .ok (.iload 4, 2) := by decide +kernel
theorem dX9_askOf_46 : decode cX9_askOf 46 = .ok (.iadd, 1) := by decide +kernel
theorem dX9_askOf_47 : decode cX9_askOf 47 = .ok (.aload_n 0, 1) := by decide +kernel
theorem dX9_askOf_48 : decode cX9_askOf 48 = .ok (.iload 4, 2) := by decide +kernel
theorem dX9_askOf_50 : decode cX9_askOf 50 = .ok (.iload_n 1, 1) := by decide +kernel
theorem dX9_askOf_51 : decode cX9_askOf 51 = .ok (.invokevirtual 195, 3) := by decide +kernel
theorem dX9_askOf_54 : decode cX9_askOf 54 = .ok (.iastore, 1) := by decide +kernel
theorem dX9_askOf_55 : decode cX9_askOf 55 = .ok (.iinc 4 1, 3) := by decide +kernel
theorem dX9_askOf_58 : decode cX9_askOf 58 = .ok (.goto (-29), 3) := by decide +kernel
theorem dX9_askOf_61 : decode cX9_askOf 61 = .ok (.iinc 3 1, 3) := by decide +kernel
theorem dX9_askOf_64 : decode cX9_askOf 64 = .ok (.goto (-57), 3) := by decide +kernel
theorem dX9_askOf_67 : decode cX9_askOf 67 = .ok (.iconst (-1), 1) := by decide +kernel
theorem dX9_askOf_68 : decode cX9_askOf 68 = .ok (.istore_n 3, 1) := by decide +kernel
theorem dX9_askOf_69 : decode cX9_askOf 69 = .ok (.iconst 0, 1) := by decide +kernel
theorem dX9_askOf_70 : decode cX9_askOf 70 = .ok (.istore 4, 2) := by decide +kernel
theorem dX9_askOf_72 : decode cX9_askOf 72 = .ok (.iconst 0, 1) := by decide +kernel
theorem dX9_askOf_73 : decode cX9_askOf 73 = .ok (.istore 5, 2) := by decide +kernel
theorem dX9_askOf_75 : decode cX9_askOf 75 = .ok (.iload 5, 2) := by decide +kernel
theorem dX9_askOf_77 : decode cX9_askOf 77 = .ok (.bipush 20, 2) := by decide +kernel
theorem dX9_askOf_79 : decode cX9_askOf 79 = .ok (.if_icmp .ge 169, 3) := by decide +kernel
theorem dX9_askOf_82 : decode cX9_askOf 82 = .ok (.iconst 0, 1) := by decide +kernel
theorem dX9_askOf_83 : decode cX9_askOf 83 = .ok (.istore 6, 2) := by decide +kernel
theorem dX9_askOf_85 : decode cX9_askOf 85 = .ok (.iconst 0, 1) := by decide +kernel
theorem dX9_askOf_86 : decode cX9_askOf 86 = .ok (.istore 7, 2) := by decide +kernel
theorem dX9_askOf_88 : decode cX9_askOf 88 = .ok (.iload 7, 2) := by decide +kernel
theorem dX9_askOf_90 : decode cX9_askOf 90 = .ok (.aload_n 0, 1) := by decide +kernel
theorem dX9_askOf_91 : decode cX9_askOf 91 = .ok (.getfield 114, 3) := by decide +kernel
theorem dX9_askOf_94 : decode cX9_askOf 94 = .ok (.if_icmp .ge 103, 3) := by decide +kernel
theorem dX9_askOf_97 : decode cX9_askOf 97 = .ok (.iconst 0, 1) := by decide +kernel
theorem dX9_askOf_98 : decode cX9_askOf 98 = .ok (.istore 8, 2) := by decide +kernel
theorem dX9_askOf_100 : decode cX9_askOf 100 = .ok (.iconst 0, 1) := by decide +kernel
theorem dX9_askOf_101 : decode cX9_askOf 101 = .ok (.istore 9, 2) := by decide +kernel
theorem dX9_askOf_103 : decode cX9_askOf 103 = .ok (.iload 9, 2) := by decide +kernel
theorem dX9_askOf_105 : decode cX9_askOf 105 = .ok (.aload_n 0, 1) := by decide +kernel
theorem dX9_askOf_106 : decode cX9_askOf 106 = .ok (.getfield 114, 3) := by decide +kernel
theorem dX9_askOf_109 : decode cX9_askOf 109 = .ok (.if_icmp .ge 66, 3) := by decide +kernel
theorem dX9_askOf_112 : decode cX9_askOf 112 = .ok (.iload 8, 2) := by decide +kernel
theorem dX9_askOf_114 : decode cX9_askOf 114 = .ok (.iload_n 2, 1) := by decide +kernel
theorem dX9_askOf_115 : decode cX9_askOf 115 = .ok (.iload 7, 2) := by decide +kernel
theorem dX9_askOf_117 : decode cX9_askOf 117 = .ok (.invokestatic 167, 3) := by decide +kernel
theorem dX9_askOf_120 : decode cX9_askOf 120 = .ok (.ifCond .eq 45, 3) := by decide +kernel
theorem dX9_askOf_123 : decode cX9_askOf 123 = .ok (.iload_n 2, 1) := by decide +kernel
theorem dX9_askOf_124 : decode cX9_askOf 124 = .ok (.iload 9, 2) := by decide +kernel
theorem dX9_askOf_126 : decode cX9_askOf 126 = .ok (.invokestatic 167, 3) := by decide +kernel
theorem dX9_askOf_129 : decode cX9_askOf 129 = .ok (.ifCond .eq 36, 3) := by decide +kernel
theorem dX9_askOf_132 : decode cX9_askOf 132 = .ok (.aload_n 0, 1) := by decide +kernel
theorem dX9_askOf_133 : decode cX9_askOf 133 = .ok (.getfield 70, 3) := by decide +kernel
theorem dX9_askOf_136 : decode cX9_askOf 136 = .ok (.bipush 20, 2) := by decide +kernel
theorem dX9_askOf_138 : decode cX9_askOf 138 = .ok (.iload 7, 2) := by decide +kernel
theorem dX9_askOf_140 : decode cX9_askOf 140 = .ok (.imul, 1) := by decide +kernel
theorem dX9_askOf_141 : decode cX9_askOf 141 = .ok (.iload 5, 2) := by decide +kernel
theorem dX9_askOf_143 : decode cX9_askOf 143 = .ok (.iadd, 1) := by decide +kernel
theorem dX9_askOf_144 : decode cX9_askOf 144 = .ok (.iaload, 1) := by decide +kernel
theorem dX9_askOf_145 : decode cX9_askOf 145 = .ok (.aload_n 0, 1) := by decide +kernel
theorem dX9_askOf_146 : decode cX9_askOf 146 = .ok (.getfield 70, 3) := by decide +kernel
theorem dX9_askOf_149 : decode cX9_askOf 149 = .ok (.bipush 20, 2) := by decide +kernel
theorem dX9_askOf_151 : decode cX9_askOf 151 = .ok (.iload 9, 2) := by decide +kernel
theorem dX9_askOf_153 : decode cX9_askOf 153 = .ok (.imul, 1) := by decide +kernel
theorem dX9_askOf_154 : decode cX9_askOf 154 = .ok (.iload 5, 2) := by decide +kernel
theorem dX9_askOf_156 : decode cX9_askOf 156 = .ok (.iadd, 1) := by decide +kernel
theorem dX9_askOf_157 : decode cX9_askOf 157 = .ok (.iaload, 1) := by decide +kernel
theorem dX9_askOf_158 : decode cX9_askOf 158 = .ok (.if_icmp .ne 7, 3) := by decide +kernel
theorem dX9_askOf_161 : decode cX9_askOf 161 = .ok (.iconst 1, 1) := by decide +kernel
theorem dX9_askOf_162 : decode cX9_askOf 162 = .ok (.goto 4, 3) := by decide +kernel
theorem dX9_askOf_165 : decode cX9_askOf 165 = .ok (.iconst 0, 1) := by decide +kernel
theorem dX9_askOf_166 : decode cX9_askOf 166 = .ok (.iadd, 1) := by decide +kernel
theorem dX9_askOf_167 : decode cX9_askOf 167 = .ok (.istore 8, 2) := by decide +kernel
theorem dX9_askOf_169 : decode cX9_askOf 169 = .ok (.iinc 9 1, 3) := by decide +kernel
theorem dX9_askOf_172 : decode cX9_askOf 172 = .ok (.goto (-69), 3) := by decide +kernel
theorem dX9_askOf_175 : decode cX9_askOf 175 = .ok (.iload 8, 2) := by decide +kernel
theorem dX9_askOf_177 : decode cX9_askOf 177 = .ok (.iload 6, 2) := by decide +kernel
theorem dX9_askOf_179 : decode cX9_askOf 179 = .ok (.if_icmp .le 8, 3) := by decide +kernel
theorem dX9_askOf_182 : decode cX9_askOf 182 = .ok (.iload 8, 2) := by decide +kernel
theorem dX9_askOf_184 : decode cX9_askOf 184 = .ok (.goto 5, 3) := by decide +kernel
theorem dX9_askOf_187 : decode cX9_askOf 187 = .ok (.iload 6, 2) := by decide +kernel
theorem dX9_askOf_189 : decode cX9_askOf 189 = .ok (.istore 6, 2) := by decide +kernel
theorem dX9_askOf_191 : decode cX9_askOf 191 = .ok (.iinc 7 1, 3) := by decide +kernel
theorem dX9_askOf_194 : decode cX9_askOf 194 = .ok (.goto (-106), 3) := by decide +kernel
theorem dX9_askOf_197 : decode cX9_askOf 197 = .ok (.iload_n 3, 1) := by decide +kernel
theorem dX9_askOf_198 : decode cX9_askOf 198 = .ok (.iconst (-1), 1) := by decide +kernel
theorem dX9_askOf_199 : decode cX9_askOf 199 = .ok (.if_icmp .eq 10, 3) := by decide +kernel
theorem dX9_askOf_202 : decode cX9_askOf 202 = .ok (.iload 6, 2) := by decide +kernel
theorem dX9_askOf_204 : decode cX9_askOf 204 = .ok (.iload 4, 2) := by decide +kernel
theorem dX9_askOf_206 : decode cX9_askOf 206 = .ok (.if_icmp .ge 7, 3) := by decide +kernel
theorem dX9_askOf_209 : decode cX9_askOf 209 = .ok (.iconst 1, 1) := by decide +kernel
theorem dX9_askOf_210 : decode cX9_askOf 210 = .ok (.goto 4, 3) := by decide +kernel
theorem dX9_askOf_213 : decode cX9_askOf 213 = .ok (.iconst 0, 1) := by decide +kernel
theorem dX9_askOf_214 : decode cX9_askOf 214 = .ok (.istore 7, 2) := by decide +kernel
theorem dX9_askOf_216 : decode cX9_askOf 216 = .ok (.iload 7, 2) := by decide +kernel
theorem dX9_askOf_218 : decode cX9_askOf 218 = .ok (.ifCond .eq 8, 3) := by decide +kernel
theorem dX9_askOf_221 : decode cX9_askOf 221 = .ok (.iload 5, 2) := by decide +kernel
theorem dX9_askOf_223 : decode cX9_askOf 223 = .ok (.goto 4, 3) := by decide +kernel
theorem dX9_askOf_226 : decode cX9_askOf 226 = .ok (.iload_n 3, 1) := by decide +kernel
theorem dX9_askOf_227 : decode cX9_askOf 227 = .ok (.istore_n 3, 1) := by decide +kernel
theorem dX9_askOf_228 : decode cX9_askOf 228 = .ok (.iload 7, 2) := by decide +kernel
theorem dX9_askOf_230 : decode cX9_askOf 230 = .ok (.ifCond .eq 8, 3) := by decide +kernel
theorem dX9_askOf_233 : decode cX9_askOf 233 = .ok (.iload 6, 2) := by decide +kernel
theorem dX9_askOf_235 : decode cX9_askOf 235 = .ok (.goto 5, 3) := by decide +kernel
theorem dX9_askOf_238 : decode cX9_askOf 238 = .ok (.iload 4, 2) := by decide +kernel
theorem dX9_askOf_240 : decode cX9_askOf 240 = .ok (.istore 4, 2) := by decide +kernel
theorem dX9_askOf_242 : decode cX9_askOf 242 = .ok (.iinc 5 1, 3) := by decide +kernel
theorem dX9_askOf_245 : decode cX9_askOf 245 = .ok (.goto (-170), 3) := by decide +kernel
theorem dX9_askOf_248 : decode cX9_askOf 248 = .ok (.iload_n 3, 1) := by decide +kernel
theorem dX9_askOf_249 : decode cX9_askOf 249 = .ok (.ireturn, 1) := by decide +kernel
theorem dX9_ask_0 : decode cX9_ask 0 = .ok (.iload_n 1, 1) := by decide +kernel
theorem dX9_ask_1 : decode cX9_ask 1 = .ok (.invokestatic 198, 3) := by decide +kernel
theorem dX9_ask_4 : decode cX9_ask 4 = .ok (.ifCond .eq 11, 3) := by decide +kernel
theorem dX9_ask_7 : decode cX9_ask 7 = .ok (.aload_n 0, 1) := by decide +kernel
theorem dX9_ask_8 : decode cX9_ask 8 = .ok (.iload_n 1, 1) := by decide +kernel
theorem dX9_ask_9 : decode cX9_ask 9 = .ok (.invokevirtual 263, 3) := by decide +kernel
theorem dX9_ask_12 : decode cX9_ask 12 = .ok (.goto 5, 3) := by decide +kernel
theorem dX9_ask_15 : decode cX9_ask 15 = .ok (.bipush (-2), 2) := by decide +kernel
theorem dX9_ask_17 : decode cX9_ask 17 = .ok (.ireturn, 1) := by decide +kernel
theorem dX9_drynessOf_0 : decode cX9_drynessOf 0 = .ok (.aload_n 0, 1) := by decide +kernel
theorem dX9_drynessOf_1 : decode cX9_drynessOf 1 = .ok (.invokevirtual 186, 3) := by decide +kernel
theorem dX9_drynessOf_4 : decode cX9_drynessOf 4 = .ok (.lconst 0, 1) := by decide +kernel
theorem dX9_drynessOf_5 : decode cX9_drynessOf 5 = .ok (.lstore 5, 2) := by decide +kernel
theorem dX9_drynessOf_7 : decode cX9_drynessOf 7 = .ok (.iconst 0, 1) := by decide +kernel
theorem dX9_drynessOf_8 : decode cX9_drynessOf 8 = .ok (.istore 7, 2) := by decide +kernel
theorem dX9_drynessOf_10 : decode cX9_drynessOf 10 = .ok (.iload 7, 2) := by decide +kernel
theorem dX9_drynessOf_12 : decode cX9_drynessOf 12 = .ok (.iconst 1, 1) := by decide +kernel
theorem dX9_drynessOf_13 : decode cX9_drynessOf 13 = .ok (.iload_n 2, 1) := by decide +kernel
theorem dX9_drynessOf_14 : decode cX9_drynessOf 14 = .ok (.iconst 1, 1) := by decide +kernel
theorem dX9_drynessOf_15 : decode cX9_drynessOf 15 = .ok (.iadd, 1) := by decide +kernel
theorem dX9_drynessOf_16 : decode cX9_drynessOf 16 = .ok (.ishl, 1) := by decide +kernel
theorem dX9_drynessOf_17 : decode cX9_drynessOf 17 = .ok (.if_icmp .ge 111, 3) := by decide +kernel
theorem dX9_drynessOf_20 : decode cX9_drynessOf 20 = .ok (.lconst 1, 1) := by decide +kernel
theorem dX9_drynessOf_21 : decode cX9_drynessOf 21 = .ok (.lstore 8, 2) := by decide +kernel
theorem dX9_drynessOf_23 : decode cX9_drynessOf 23 = .ok (.iconst 0, 1) := by decide +kernel
theorem dX9_drynessOf_24 : decode cX9_drynessOf 24 = .ok (.istore 10, 2) := by decide +kernel
theorem dX9_drynessOf_26 : decode cX9_drynessOf 26 = .ok (.iload 10, 2) := by decide +kernel
theorem dX9_drynessOf_28 : decode cX9_drynessOf 28 = .ok (.iload_n 2, 1) := by decide +kernel
theorem dX9_drynessOf_29 : decode cX9_drynessOf 29 = .ok (.if_icmp .gt 62, 3) := by decide +kernel
theorem dX9_drynessOf_32 : decode cX9_drynessOf 32 = .ok (.lload 8, 2) := by decide +kernel
theorem dX9_drynessOf_34 : decode cX9_drynessOf 34 = .ok (.iload 7, 2) := by decide +kernel
theorem dX9_drynessOf_36 : decode cX9_drynessOf 36 = .ok (.iload 10, 2) := by decide +kernel
theorem dX9_drynessOf_38 : decode cX9_drynessOf 38 = .ok (.invokestatic 167, 3) := by decide +kernel
theorem dX9_drynessOf_41 : decode cX9_drynessOf 41 = .ok (.ifCond .eq 8, 3) := by decide +kernel
theorem dX9_drynessOf_44 : decode cX9_drynessOf 44 = .ok (.iload_n 1, 1) := by decide +kernel
theorem dX9_drynessOf_45 : decode cX9_drynessOf 45 = .ok (.i2l, 1) := by decide +kernel
theorem dX9_drynessOf_46 : decode cX9_drynessOf 46 = .ok (.goto 8, 3) := by decide +kernel
theorem dX9_drynessOf_49 : decode cX9_drynessOf 49 = .ok (.bipush 16, 2) := by decide +kernel
theorem dX9_drynessOf_51 : decode cX9_drynessOf 51 = .ok (.iload_n 1, 1) := by decide +kernel
theorem dX9_drynessOf_52 : decode cX9_drynessOf 52 = .ok (.isub, 1) := by decide +kernel
theorem dX9_drynessOf_53 : decode cX9_drynessOf 53 = .ok (.i2l, 1) := by decide +kernel
theorem dX9_drynessOf_54 : decode cX9_drynessOf 54 = .ok (.lmul, 1) := by decide +kernel
theorem dX9_drynessOf_55 : decode cX9_drynessOf 55 = .ok (.lstore 8, 2) := by decide +kernel
theorem dX9_drynessOf_57 : decode cX9_drynessOf 57 = .ok (.aload_n 0, 1) := by decide +kernel
theorem dX9_drynessOf_58 : decode cX9_drynessOf 58 = .ok (.getfield 43, 3) := by decide +kernel
theorem dX9_drynessOf_61 : decode cX9_drynessOf 61 = .ok (.iload 10, 2) := by decide +kernel
theorem dX9_drynessOf_63 : decode cX9_drynessOf 63 = .ok (.iload 7, 2) := by decide +kernel
theorem dX9_drynessOf_65 : decode cX9_drynessOf 65 = .ok (.iload 10, 2) := by decide +kernel
theorem dX9_drynessOf_67 : decode cX9_drynessOf 67 = .ok (.invokestatic 167, 3) := by decide +kernel
theorem dX9_drynessOf_70 : decode cX9_drynessOf 70 = .ok (.ifCond .eq 7, 3) := by decide +kernel
theorem dX9_drynessOf_73 : decode cX9_drynessOf 73 = .ok (.iconst 0, 1) := by decide +kernel
theorem dX9_drynessOf_74 : decode cX9_drynessOf 74 = .ok (.goto 10, 3) := by decide +kernel
theorem dX9_drynessOf_77 : decode cX9_drynessOf 77 = .ok (.aload_n 0, 1) := by decide +kernel
theorem dX9_drynessOf_78 : decode cX9_drynessOf 78 = .ok (.getfield 16, 3) := by decide +kernel
theorem dX9_drynessOf_81 : decode cX9_drynessOf 81 = .ok (.iload 10, 2) := by decide +kernel
theorem dX9_drynessOf_83 : decode cX9_drynessOf 83 = .ok (.iaload, 1) := by decide +kernel
theorem dX9_drynessOf_84 : decode cX9_drynessOf 84 = .ok (.iastore, 1) := by decide +kernel
theorem dX9_drynessOf_85 : decode cX9_drynessOf 85 = .ok (.iinc 10 1, 3) := by decide +kernel
theorem dX9_drynessOf_88 : decode cX9_drynessOf 88 = .ok (.goto (-62), 3) := by decide +kernel
theorem dX9_drynessOf_91 : decode cX9_drynessOf 91 = .ok (.lload 8, 2) := by decide +kernel
theorem dX9_drynessOf_93 : decode cX9_drynessOf 93 = .ok (.lconst 0, 1) := by decide +kernel
theorem dX9_drynessOf_94 : decode cX9_drynessOf 94 = .ok (.lcmp, 1) := by decide +kernel
theorem dX9_drynessOf_95 : decode cX9_drynessOf 95 = .ok (.ifCond .le 27, 3) := by decide +kernel
theorem dX9_drynessOf_98 : decode cX9_drynessOf 98 = .ok (.aload_n 0, 1) := by decide +kernel
theorem dX9_drynessOf_99 : decode cX9_drynessOf 99 = .ok (.invokevirtual 189, 3) := by decide +kernel
theorem dX9_drynessOf_102 : decode cX9_drynessOf 102 = .ok (.lload 5, 2) := by decide +kernel
theorem dX9_drynessOf_104 : decode cX9_drynessOf 104 = .ok (.aload_n 0, 1) := by decide +kernel
theorem dX9_drynessOf_105 : decode cX9_drynessOf 105 = .ok (.getfield 52, 3) := by decide +kernel
theorem dX9_drynessOf_108 : decode cX9_drynessOf 108 = .ok (.iload_n 3, 1) := by decide +kernel
theorem dX9_drynessOf_109 : decode cX9_drynessOf 109 = .ok (.iaload, 1) := by decide +kernel
theorem dX9_drynessOf_110 : decode cX9_drynessOf 110 = .ok (.ifCond .ne 8, 3) := by decide +kernel
theorem dX9_drynessOf_113 : decode cX9_drynessOf 113 = .ok (.lload 8, 2) := by decide +kernel
theorem dX9_drynessOf_115 : decode cX9_drynessOf 115 = .ok (.goto 4, 3) := by decide +kernel
theorem dX9_drynessOf_118 : decode cX9_drynessOf 118 = .ok (.lconst 0, 1) := by decide +kernel
theorem dX9_drynessOf_119 : decode cX9_drynessOf 119 = .ok (.ladd, 1) := by decide +kernel
theorem dX9_drynessOf_120 : decode cX9_drynessOf 120 = .ok (.lstore 5, 2) := by decide +kernel
theorem dX9_drynessOf_122 : decode cX9_drynessOf 122 = .ok (.iinc 7 1, 3) := by decide +kernel
theorem dX9_drynessOf_125 : decode cX9_drynessOf 125 = .ok (.goto (-115), 3) := by decide +kernel
theorem dX9_drynessOf_128 : decode cX9_drynessOf 128 = .ok (.lload 5, 2) := by decide +kernel
theorem dX9_drynessOf_130 : decode cX9_drynessOf 130 = .ok (.lconst 1, 1) := by decide +kernel
theorem dX9_drynessOf_131 : decode cX9_drynessOf 131 = .ok (.iconst 4, 1) := by decide +kernel
theorem dX9_drynessOf_132 : decode cX9_drynessOf 132 = .ok (.iload_n 2, 1) := by decide +kernel
theorem dX9_drynessOf_133 : decode cX9_drynessOf 133 = .ok (.iconst 1, 1) := by decide +kernel
theorem dX9_drynessOf_134 : decode cX9_drynessOf 134 = .ok (.iadd, 1) := by decide +kernel
theorem dX9_drynessOf_135 : decode cX9_drynessOf 135 = .ok (.imul, 1) := by decide +kernel
theorem dX9_drynessOf_136 : decode cX9_drynessOf 136 = .ok (.lshl, 1) := by decide +kernel
theorem dX9_drynessOf_137 : decode cX9_drynessOf 137 = .ok (.iload 4, 2) := by decide +kernel
theorem dX9_drynessOf_139 : decode cX9_drynessOf 139 = .ok (.invokestatic 266, 3) := by decide +kernel
theorem dX9_drynessOf_142 : decode cX9_drynessOf 142 = .ok (.lreturn, 1) := by decide +kernel
theorem dX9_dryness_0 : decode cX9_dryness 0 = .ok (.iload_n 1, 1) := by decide +kernel
theorem dX9_dryness_1 : decode cX9_dryness 1 = .ok (.iconst 0, 1) := by decide +kernel
theorem dX9_dryness_2 : decode cX9_dryness 2 = .ok (.bipush 16, 2) := by decide +kernel
theorem dX9_dryness_4 : decode cX9_dryness 4 = .ok (.invokestatic 95, 3) := by decide +kernel
theorem dX9_dryness_7 : decode cX9_dryness 7 = .ok (.ifCond .eq 42, 3) := by decide +kernel
theorem dX9_dryness_10 : decode cX9_dryness 10 = .ok (.iload_n 2, 1) := by decide +kernel
theorem dX9_dryness_11 : decode cX9_dryness 11 = .ok (.iconst 0, 1) := by decide +kernel
theorem dX9_dryness_12 : decode cX9_dryness 12 = .ok (.bipush 9, 2) := by decide +kernel
theorem dX9_dryness_14 : decode cX9_dryness 14 = .ok (.invokestatic 95, 3) := by decide +kernel
theorem dX9_dryness_17 : decode cX9_dryness 17 = .ok (.ifCond .eq 32, 3) := by decide +kernel
theorem dX9_dryness_20 : decode cX9_dryness 20 = .ok (.iload_n 3, 1) := by decide +kernel
theorem dX9_dryness_21 : decode cX9_dryness 21 = .ok (.invokestatic 134, 3) := by decide +kernel
theorem dX9_dryness_24 : decode cX9_dryness 24 = .ok (.ifCond .eq 25, 3) := by decide +kernel
theorem dX9_dryness_27 : decode cX9_dryness 27 = .ok (.iload 4, 2) := by decide +kernel
theorem dX9_dryness_29 : decode cX9_dryness 29 = .ok (.iconst 0, 1) := by decide +kernel
theorem dX9_dryness_30 : decode cX9_dryness 30 = .ok (.iconst 1, 1) := by decide +kernel
theorem dX9_dryness_31 : decode cX9_dryness 31 = .ok (.invokestatic 95, 3) := by decide +kernel
theorem dX9_dryness_34 : decode cX9_dryness 34 = .ok (.ifCond .eq 15, 3) := by decide +kernel
theorem dX9_dryness_37 : decode cX9_dryness 37 = .ok (.aload_n 0, 1) := by decide +kernel
theorem dX9_dryness_38 : decode cX9_dryness 38 = .ok (.iload_n 1, 1) := by decide +kernel
theorem dX9_dryness_39 : decode cX9_dryness 39 = .ok (.iload_n 2, 1) := by decide +kernel
theorem dX9_dryness_40 : decode cX9_dryness 40 = .ok (.iload_n 3, 1) := by decide +kernel
theorem dX9_dryness_41 : decode cX9_dryness 41 = .ok (.iload 4, 2) := by decide +kernel
theorem dX9_dryness_43 : decode cX9_dryness 43 = .ok (.invokevirtual 270, 3) := by decide +kernel
theorem dX9_dryness_46 : decode cX9_dryness 46 = .ok (.goto 8, 3) := by decide +kernel
theorem dX9_dryness_49 : decode cX9_dryness 49 = .ok (.bipush (-2), 2) := by decide +kernel
theorem dX9_dryness_51 : decode cX9_dryness 51 = .ok (.invokestatic 274, 3) := by decide +kernel
theorem dX9_dryness_54 : decode cX9_dryness 54 = .ok (.lreturn, 1) := by decide +kernel
theorem dX9_weatherOf_0 : decode cX9_weatherOf 0 = .ok (.aload_n 0, 1) := by decide +kernel
theorem dX9_weatherOf_1 : decode cX9_weatherOf 1 = .ok (.invokevirtual 186, 3) := by decide +kernel
theorem dX9_weatherOf_4 : decode cX9_weatherOf 4 = .ok (.iload_n 1, 1) := by decide +kernel
theorem dX9_weatherOf_5 : decode cX9_weatherOf 5 = .ok (.istore 4, 2) := by decide +kernel
theorem dX9_weatherOf_7 : decode cX9_weatherOf 7 = .ok (.iconst 0, 1) := by decide +kernel
theorem dX9_weatherOf_8 : decode cX9_weatherOf 8 = .ok (.istore 5, 2) := by decide +kernel
theorem dX9_weatherOf_10 : decode cX9_weatherOf 10 = .ok (.iconst 0, 1) := by decide +kernel
theorem dX9_weatherOf_11 : decode cX9_weatherOf 11 = .ok (.istore 6, 2) := by decide +kernel
theorem dX9_weatherOf_13 : decode cX9_weatherOf 13 = .ok (.iload 6, 2) := by decide +kernel
theorem dX9_weatherOf_15 : decode cX9_weatherOf 15 = .ok (.bipush 20, 2) := by decide +kernel
theorem dX9_weatherOf_17 : decode cX9_weatherOf 17 = .ok (.if_icmp .ge 57, 3) := by decide +kernel
theorem dX9_weatherOf_20 : decode cX9_weatherOf 20 = .ok (.iload 6, 2) := by decide +kernel
theorem dX9_weatherOf_22 : decode cX9_weatherOf 22 = .ok (.iload_n 2, 1) := by decide +kernel
theorem dX9_weatherOf_23 : decode cX9_weatherOf 23 = .ok (.if_icmp .ge 16, 3) := by decide +kernel
theorem dX9_weatherOf_26 : decode cX9_weatherOf 26 = .ok (.ldc_w 278, 3) := by decide +kernel
theorem dX9_weatherOf_29 : decode cX9_weatherOf 29 = .ok (.iload 4, 2) := by decide +kernel
theorem dX9_weatherOf_31 : decode cX9_weatherOf 31 = .ok (.imul, 1) := by decide +kernel
theorem dX9_weatherOf_32 : decode cX9_weatherOf 32 = .ok (.sipush 12345, 3) := by decide +kernel
theorem dX9_weatherOf_35 : decode cX9_weatherOf 35 = .ok (.iadd, 1) := by decide +kernel
theorem dX9_weatherOf_36 : decode cX9_weatherOf 36 = .ok (.goto 5, 3) := by decide +kernel
theorem dX9_weatherOf_39 : decode cX9_weatherOf 39 = .ok (.iload 4, 2) := by decide +kernel
theorem dX9_weatherOf_41 : decode cX9_weatherOf 41 = .ok (.istore 4, 2) := by decide +kernel
theorem dX9_weatherOf_43 : decode cX9_weatherOf 43 = .ok (.aload_n 0, 1) := by decide +kernel
theorem dX9_weatherOf_44 : decode cX9_weatherOf 44 = .ok (.getfield 43, 3) := by decide +kernel
theorem dX9_weatherOf_47 : decode cX9_weatherOf 47 = .ok (.iload 6, 2) := by decide +kernel
theorem dX9_weatherOf_49 : decode cX9_weatherOf 49 = .ok (.iload 6, 2) := by decide +kernel
theorem dX9_weatherOf_51 : decode cX9_weatherOf 51 = .ok (.iload_n 2, 1) := by decide +kernel
theorem dX9_weatherOf_52 : decode cX9_weatherOf 52 = .ok (.if_icmp .ge 14, 3) := by decide +kernel
theorem dX9_weatherOf_55 : decode cX9_weatherOf 55 = .ok (.iload 4, 2) := by decide +kernel
theorem dX9_weatherOf_57 : decode cX9_weatherOf 57 = .ok (.bipush 16, 2) := by decide +kernel
theorem dX9_weatherOf_59 : decode cX9_weatherOf 59 = .ok (.iushr, 1) := by decide +kernel
theorem dX9_weatherOf_60 : decode cX9_weatherOf 60 = .ok (.bipush 10, 2) := by decide +kernel
theorem dX9_weatherOf_62 : decode cX9_weatherOf 62 = .ok (.irem, 1) := by decide +kernel
theorem dX9_weatherOf_63 : decode cX9_weatherOf 63 = .ok (.goto 4, 3) := by decide +kernel
theorem dX9_weatherOf_66 : decode cX9_weatherOf 66 = .ok (.iconst 0, 1) := by decide +kernel
theorem dX9_weatherOf_67 : decode cX9_weatherOf 67 = .ok (.iastore, 1) := by decide +kernel
theorem dX9_weatherOf_68 : decode cX9_weatherOf 68 = .ok (.iinc 6 1, 3) := by decide +kernel
theorem dX9_weatherOf_71 : decode cX9_weatherOf 71 = .ok (.goto (-58), 3) := by decide +kernel
theorem dX9_weatherOf_74 : decode cX9_weatherOf 74 = .ok (.aload_n 0, 1) := by decide +kernel
theorem dX9_weatherOf_75 : decode cX9_weatherOf 75 = .ok (.invokevirtual 189, 3) := by decide +kernel
theorem dX9_weatherOf_78 : decode cX9_weatherOf 78 = .ok (.iconst 0, 1) := by decide +kernel
theorem dX9_weatherOf_79 : decode cX9_weatherOf 79 = .ok (.istore 6, 2) := by decide +kernel
theorem dX9_weatherOf_81 : decode cX9_weatherOf 81 = .ok (.iload 6, 2) := by decide +kernel
theorem dX9_weatherOf_83 : decode cX9_weatherOf 83 = .ok (.bipush 20, 2) := by decide +kernel
theorem dX9_weatherOf_85 : decode cX9_weatherOf 85 = .ok (.if_icmp .ge 29, 3) := by decide +kernel
theorem dX9_weatherOf_88 : decode cX9_weatherOf 88 = .ok (.iload 5, 2) := by decide +kernel
theorem dX9_weatherOf_90 : decode cX9_weatherOf 90 = .ok (.aload_n 0, 1) := by decide +kernel
theorem dX9_weatherOf_91 : decode cX9_weatherOf 91 = .ok (.getfield 52, 3) := by decide +kernel
theorem dX9_weatherOf_94 : decode cX9_weatherOf 94 = .ok (.iload 6, 2) := by decide +kernel
theorem dX9_weatherOf_96 : decode cX9_weatherOf 96 = .ok (.iaload, 1) := by decide +kernel
theorem dX9_weatherOf_97 : decode cX9_weatherOf 97 = .ok (.ifCond .eq 7, 3) := by decide +kernel
theorem dX9_weatherOf_100 : decode cX9_weatherOf 100 = .ok (.iconst 1, 1) := by decide +kernel
theorem dX9_weatherOf_101 : decode cX9_weatherOf 101 = .ok (.goto 4, 3) := by decide +kernel
theorem dX9_weatherOf_104 : decode cX9_weatherOf 104 = .ok (.iconst 0, 1) := by decide +kernel
theorem dX9_weatherOf_105 : decode cX9_weatherOf 105 = .ok (.iadd, 1) := by decide +kernel
theorem dX9_weatherOf_106 : decode cX9_weatherOf 106 = .ok (.istore 5, 2) := by decide +kernel
theorem dX9_weatherOf_108 : decode cX9_weatherOf 108 = .ok (.iinc 6 1, 3) := by decide +kernel
theorem dX9_weatherOf_111 : decode cX9_weatherOf 111 = .ok (.goto (-30), 3) := by decide +kernel
theorem dX9_weatherOf_114 : decode cX9_weatherOf 114 = .ok (.iload_n 3, 1) := by decide +kernel
theorem dX9_weatherOf_115 : decode cX9_weatherOf 115 = .ok (.ifCond .ne 10, 3) := by decide +kernel
theorem dX9_weatherOf_118 : decode cX9_weatherOf 118 = .ok (.aload_n 0, 1) := by decide +kernel
theorem dX9_weatherOf_119 : decode cX9_weatherOf 119 = .ok (.invokevirtual 232, 3) := by decide +kernel
theorem dX9_weatherOf_122 : decode cX9_weatherOf 122 = .ok (.goto 5, 3) := by decide +kernel
theorem dX9_weatherOf_125 : decode cX9_weatherOf 125 = .ok (.iload 5, 2) := by decide +kernel
theorem dX9_weatherOf_127 : decode cX9_weatherOf 127 = .ok (.ireturn, 1) := by decide +kernel
theorem dX9_weather_0 : decode cX9_weather 0 = .ok (.iload_n 2, 1) := by decide +kernel
theorem dX9_weather_1 : decode cX9_weather 1 = .ok (.iconst 1, 1) := by decide +kernel
theorem dX9_weather_2 : decode cX9_weather 2 = .ok (.bipush 20, 2) := by decide +kernel
theorem dX9_weather_4 : decode cX9_weather 4 = .ok (.invokestatic 95, 3) := by decide +kernel
theorem dX9_weather_7 : decode cX9_weather 7 = .ok (.ifCond .eq 22, 3) := by decide +kernel
theorem dX9_weather_10 : decode cX9_weather 10 = .ok (.iload_n 3, 1) := by decide +kernel
theorem dX9_weather_11 : decode cX9_weather 11 = .ok (.iconst 0, 1) := by decide +kernel
theorem dX9_weather_12 : decode cX9_weather 12 = .ok (.iconst 1, 1) := by decide +kernel
theorem dX9_weather_13 : decode cX9_weather 13 = .ok (.invokestatic 95, 3) := by decide +kernel
theorem dX9_weather_16 : decode cX9_weather 16 = .ok (.ifCond .eq 13, 3) := by decide +kernel
theorem dX9_weather_19 : decode cX9_weather 19 = .ok (.aload_n 0, 1) := by decide +kernel
theorem dX9_weather_20 : decode cX9_weather 20 = .ok (.iload_n 1, 1) := by decide +kernel
theorem dX9_weather_21 : decode cX9_weather 21 = .ok (.iload_n 2, 1) := by decide +kernel
theorem dX9_weather_22 : decode cX9_weather 22 = .ok (.iload_n 3, 1) := by decide +kernel
theorem dX9_weather_23 : decode cX9_weather 23 = .ok (.invokevirtual 279, 3) := by decide +kernel
theorem dX9_weather_26 : decode cX9_weather 26 = .ok (.goto 5, 3) := by decide +kernel
theorem dX9_weather_29 : decode cX9_weather 29 = .ok (.bipush (-2), 2) := by decide +kernel
theorem dX9_weather_31 : decode cX9_weather 31 = .ok (.ireturn, 1) := by decide +kernel
theorem dX9_meets_0 : decode cX9_meets 0 = .ok (.aload_n 0, 1) := by decide +kernel
theorem dX9_meets_1 : decode cX9_meets 1 = .ok (.iload_n 1, 1) := by decide +kernel
theorem dX9_meets_2 : decode cX9_meets 2 = .ok (.putfield 282, 3) := by decide +kernel
theorem dX9_meets_5 : decode cX9_meets 5 = .ok (.bipush (-10), 2) := by decide +kernel
theorem dX9_meets_7 : decode cX9_meets 7 = .ok (.iload_n 1, 1) := by decide +kernel
theorem dX9_meets_8 : decode cX9_meets 8 = .ok (.isub, 1) := by decide +kernel
theorem dX9_meets_9 : decode cX9_meets 9 = .ok (.ireturn, 1) := by decide +kernel
theorem dX9_isSheet_0 : decode cX9_isSheet 0 = .ok (.iload_n 0, 1) := by decide +kernel
theorem dX9_isSheet_1 : decode cX9_isSheet 1 = .ok (.iconst 0, 1) := by decide +kernel
theorem dX9_isSheet_2 : decode cX9_isSheet 2 = .ok (.iconst 3, 1) := by decide +kernel
theorem dX9_isSheet_3 : decode cX9_isSheet 3 = .ok (.invokestatic 95, 3) := by decide +kernel
theorem dX9_isSheet_6 : decode cX9_isSheet 6 = .ok (.ireturn, 1) := by decide +kernel
theorem dX9_sheet_0 : decode cX9_sheet 0 = .ok (.iload_n 1, 1) := by decide +kernel
theorem dX9_sheet_1 : decode cX9_sheet 1 = .ok (.invokestatic 152, 3) := by decide +kernel
theorem dX9_sheet_4 : decode cX9_sheet 4 = .ok (.ifCond .eq 18, 3) := by decide +kernel
theorem dX9_sheet_7 : decode cX9_sheet 7 = .ok (.iload_n 2, 1) := by decide +kernel
theorem dX9_sheet_8 : decode cX9_sheet 8 = .ok (.iconst 0, 1) := by decide +kernel
theorem dX9_sheet_9 : decode cX9_sheet 9 = .ok (.iconst 2, 1) := by decide +kernel
theorem dX9_sheet_10 : decode cX9_sheet 10 = .ok (.invokestatic 95, 3) := by decide +kernel
theorem dX9_sheet_13 : decode cX9_sheet 13 = .ok (.ifCond .eq 9, 3) := by decide +kernel
theorem dX9_sheet_16 : decode cX9_sheet 16 = .ok (.iload_n 3, 1) := by decide +kernel
theorem dX9_sheet_17 : decode cX9_sheet 17 = .ok (.bipush 60, 2) := by decide +kernel
theorem dX9_sheet_19 : decode cX9_sheet 19 = .ok (.if_icmp .le 6, 3) := by decide +kernel
theorem dX9_sheet_22 : decode cX9_sheet 22 = .ok (.bipush (-2), 2) := by decide +kernel
theorem dX9_sheet_24 : decode cX9_sheet 24 = .ok (.ireturn, 1) := by decide +kernel
theorem dX9_sheet_25 : decode cX9_sheet 25 = .ok (.iload_n 3, 1) := by decide +kernel
theorem dX9_sheet_26 : decode cX9_sheet 26 = .ok (.ifCond .ge 9, 3) := by decide +kernel
theorem dX9_sheet_29 : decode cX9_sheet 29 = .ok (.aload_n 0, 1) := by decide +kernel
theorem dX9_sheet_30 : decode cX9_sheet 30 = .ok (.iconst 5, 1) := by decide +kernel
theorem dX9_sheet_31 : decode cX9_sheet 31 = .ok (.invokevirtual 155, 3) := by decide +kernel
theorem dX9_sheet_34 : decode cX9_sheet 34 = .ok (.ireturn, 1) := by decide +kernel
theorem dX9_sheet_35 : decode cX9_sheet 35 = .ok (.aload_n 0, 1) := by decide +kernel
theorem dX9_sheet_36 : decode cX9_sheet 36 = .ok (.getfield 73, 3) := by decide +kernel
theorem dX9_sheet_39 : decode cX9_sheet 39 = .ok (.iload_n 1, 1) := by decide +kernel
theorem dX9_sheet_40 : decode cX9_sheet 40 = .ok (.iconst 1, 1) := by decide +kernel
theorem dX9_sheet_41 : decode cX9_sheet 41 = .ok (.bastore, 1) := by decide +kernel
theorem dX9_sheet_42 : decode cX9_sheet 42 = .ok (.aload_n 0, 1) := by decide +kernel
theorem dX9_sheet_43 : decode cX9_sheet 43 = .ok (.getfield 77, 3) := by decide +kernel
theorem dX9_sheet_46 : decode cX9_sheet 46 = .ok (.iload_n 1, 1) := by decide +kernel
theorem dX9_sheet_47 : decode cX9_sheet 47 = .ok (.iload_n 2, 1) := by decide +kernel
theorem dX9_sheet_48 : decode cX9_sheet 48 = .ok (.iastore, 1) := by decide +kernel
theorem dX9_sheet_49 : decode cX9_sheet 49 = .ok (.aload_n 0, 1) := by decide +kernel
theorem dX9_sheet_50 : decode cX9_sheet 50 = .ok (.getfield 80, 3) := by decide +kernel
theorem dX9_sheet_53 : decode cX9_sheet 53 = .ok (.iload_n 1, 1) := by decide +kernel
theorem dX9_sheet_54 : decode cX9_sheet 54 = .ok (.iload_n 3, 1) := by decide +kernel
theorem dX9_sheet_55 : decode cX9_sheet 55 = .ok (.iastore, 1) := by decide +kernel
theorem dX9_sheet_56 : decode cX9_sheet 56 = .ok (.iconst 0, 1) := by decide +kernel
theorem dX9_sheet_57 : decode cX9_sheet 57 = .ok (.istore 4, 2) := by decide +kernel
theorem dX9_sheet_59 : decode cX9_sheet 59 = .ok (.iload 4, 2) := by decide +kernel
theorem dX9_sheet_61 : decode cX9_sheet 61 = .ok (.bipush 60, 2) := by decide +kernel
theorem dX9_sheet_63 : decode cX9_sheet 63 = .ok (.if_icmp .ge 22, 3) := by decide +kernel
theorem dX9_sheet_66 : decode cX9_sheet 66 = .ok (.aload_n 0, 1) := by decide +kernel
theorem dX9_sheet_67 : decode cX9_sheet 67 = .ok (.getfield 83, 3) := by decide +kernel
theorem dX9_sheet_70 : decode cX9_sheet 70 = .ok (.bipush 60, 2) := by decide +kernel
theorem dX9_sheet_72 : decode cX9_sheet 72 = .ok (.iload_n 1, 1) := by decide +kernel
theorem dX9_sheet_73 : decode cX9_sheet 73 = .ok (.imul, 1) := by decide +kernel
theorem dX9_sheet_74 : decode cX9_sheet 74 = .ok (.iload 4, 2) := by decide +kernel
theorem dX9_sheet_76 : decode cX9_sheet 76 = .ok (.iadd, 1) := by decide +kernel
theorem dX9_sheet_77 : decode cX9_sheet 77 = .ok (.iconst 0, 1) := by decide +kernel
theorem dX9_sheet_78 : decode cX9_sheet 78 = .ok (.iastore, 1) := by decide +kernel
theorem dX9_sheet_79 : decode cX9_sheet 79 = .ok (.iinc 4 1, 3) := by decide +kernel
theorem dX9_sheet_82 : decode cX9_sheet 82 = .ok (.goto (-23), 3) := by decide +kernel
theorem dX9_sheet_85 : decode cX9_sheet 85 = .ok (.iload_n 3, 1) := by decide +kernel
theorem dX9_sheet_86 : decode cX9_sheet 86 = .ok (.ireturn, 1) := by decide +kernel
theorem dX9_lose_0 : decode cX9_lose 0 = .ok (.iload_n 1, 1) := by decide +kernel
theorem dX9_lose_1 : decode cX9_lose 1 = .ok (.invokestatic 152, 3) := by decide +kernel
theorem dX9_lose_4 : decode cX9_lose 4 = .ok (.ifCond .ne 6, 3) := by decide +kernel
theorem dX9_lose_7 : decode cX9_lose 7 = .ok (.bipush (-2), 2) := by decide +kernel
theorem dX9_lose_9 : decode cX9_lose 9 = .ok (.ireturn, 1) := by decide +kernel
theorem dX9_lose_10 : decode cX9_lose 10 = .ok (.aload_n 0, 1) := by decide +kernel
theorem dX9_lose_11 : decode cX9_lose 11 = .ok (.getfield 73, 3) := by decide +kernel
theorem dX9_lose_14 : decode cX9_lose 14 = .ok (.iload_n 1, 1) := by decide +kernel
theorem dX9_lose_15 : decode cX9_lose 15 = .ok (.baload, 1) := by decide +kernel
theorem dX9_lose_16 : decode cX9_lose 16 = .ok (.ifCond .ne 9, 3) := by decide +kernel
theorem dX9_lose_19 : decode cX9_lose 19 = .ok (.aload_n 0, 1) := by decide +kernel
theorem dX9_lose_20 : decode cX9_lose 20 = .ok (.iconst 1, 1) := by decide +kernel
theorem dX9_lose_21 : decode cX9_lose 21 = .ok (.invokevirtual 155, 3) := by decide +kernel
theorem dX9_lose_24 : decode cX9_lose 24 = .ok (.ireturn, 1) := by decide +kernel
theorem dX9_lose_25 : decode cX9_lose 25 = .ok (.aload_n 0, 1) := by decide +kernel
theorem dX9_lose_26 : decode cX9_lose 26 = .ok (.getfield 73, 3) := by decide +kernel
theorem dX9_lose_29 : decode cX9_lose 29 = .ok (.iload_n 1, 1) := by decide +kernel
theorem dX9_lose_30 : decode cX9_lose 30 = .ok (.iconst 0, 1) := by decide +kernel
theorem dX9_lose_31 : decode cX9_lose 31 = .ok (.bastore, 1) := by decide +kernel
theorem dX9_lose_32 : decode cX9_lose 32 = .ok (.aload_n 0, 1) := by decide +kernel
theorem dX9_lose_33 : decode cX9_lose 33 = .ok (.getfield 80, 3) := by decide +kernel
theorem dX9_lose_36 : decode cX9_lose 36 = .ok (.iload_n 1, 1) := by decide +kernel
theorem dX9_lose_37 : decode cX9_lose 37 = .ok (.iaload, 1) := by decide +kernel
theorem dX9_lose_38 : decode cX9_lose 38 = .ok (.ireturn, 1) := by decide +kernel
theorem dX9_lacks_0 : decode cX9_lacks 0 = .ok (.aload_n 0, 1) := by decide +kernel
theorem dX9_lacks_1 : decode cX9_lacks 1 = .ok (.getfield 73, 3) := by decide +kernel
theorem dX9_lacks_4 : decode cX9_lacks 4 = .ok (.iload_n 1, 1) := by decide +kernel
theorem dX9_lacks_5 : decode cX9_lacks 5 = .ok (.baload, 1) := by decide +kernel
theorem dX9_lacks_6 : decode cX9_lacks 6 = .ok (.ifCond .ne 7, 3) := by decide +kernel
theorem dX9_lacks_9 : decode cX9_lacks 9 = .ok (.iconst 1, 1) := by decide +kernel
theorem dX9_lacks_10 : decode cX9_lacks 10 = .ok (.goto 38, 3) := by decide +kernel
theorem dX9_lacks_13 : decode cX9_lacks 13 = .ok (.aload_n 0, 1) := by decide +kernel
theorem dX9_lacks_14 : decode cX9_lacks 14 = .ok (.getfield 77, 3) := by decide +kernel
theorem dX9_lacks_17 : decode cX9_lacks 17 = .ok (.iload_n 1, 1) := by decide +kernel
theorem dX9_lacks_18 : decode cX9_lacks 18 = .ok (.iaload, 1) := by decide +kernel
theorem dX9_lacks_19 : decode cX9_lacks 19 = .ok (.iload_n 2, 1) := by decide +kernel
theorem dX9_lacks_20 : decode cX9_lacks 20 = .ok (.if_icmp .eq 7, 3) := by decide +kernel
theorem dX9_lacks_23 : decode cX9_lacks 23 = .ok (.iconst 3, 1) := by decide +kernel
theorem dX9_lacks_24 : decode cX9_lacks 24 = .ok (.goto 24, 3) := by decide +kernel
theorem dX9_lacks_27 : decode cX9_lacks 27 = .ok (.iload_n 3, 1) := by decide +kernel
theorem dX9_lacks_28 : decode cX9_lacks 28 = .ok (.iconst 0, 1) := by decide +kernel
theorem dX9_lacks_29 : decode cX9_lacks 29 = .ok (.aload_n 0, 1) := by decide +kernel
theorem dX9_lacks_30 : decode cX9_lacks 30 = .ok (.getfield 80, 3) := by decide +kernel
theorem dX9_lacks_33 : decode cX9_lacks 33 = .ok (.iload_n 1, 1) := by decide +kernel
theorem dX9_lacks_34 : decode cX9_lacks 34 = .ok (.iaload, 1) := by decide +kernel
theorem dX9_lacks_35 : decode cX9_lacks 35 = .ok (.iconst 1, 1) := by decide +kernel
theorem dX9_lacks_36 : decode cX9_lacks 36 = .ok (.isub, 1) := by decide +kernel
theorem dX9_lacks_37 : decode cX9_lacks 37 = .ok (.invokestatic 95, 3) := by decide +kernel
theorem dX9_lacks_40 : decode cX9_lacks 40 = .ok (.ifCond .eq 7, 3) := by decide +kernel
theorem dX9_lacks_43 : decode cX9_lacks 43 = .ok (.iconst 0, 1) := by decide +kernel
theorem dX9_lacks_44 : decode cX9_lacks 44 = .ok (.goto 4, 3) := by decide +kernel
theorem dX9_lacks_47 : decode cX9_lacks 47 = .ok (.iconst 2, 1) := by decide +kernel
theorem dX9_lacks_48 : decode cX9_lacks 48 = .ok (.ireturn, 1) := by decide +kernel
theorem dX9_keep_0 : decode cX9_keep 0 = .ok (.aload_n 0, 1) := by decide +kernel
theorem dX9_keep_1 : decode cX9_keep 1 = .ok (.getfield 83, 3) := by decide +kernel
theorem dX9_keep_4 : decode cX9_keep 4 = .ok (.bipush 60, 2) := by decide +kernel
theorem dX9_keep_6 : decode cX9_keep 6 = .ok (.iload_n 1, 1) := by decide +kernel
theorem dX9_keep_7 : decode cX9_keep 7 = .ok (.imul, 1) := by decide +kernel
theorem dX9_keep_8 : decode cX9_keep 8 = .ok (.iload_n 2, 1) := by decide +kernel
theorem dX9_keep_9 : decode cX9_keep 9 = .ok (.iadd, 1) := by decide +kernel
theorem dX9_keep_10 : decode cX9_keep 10 = .ok (.aload_n 0, 1) := by decide +kernel
theorem dX9_keep_11 : decode cX9_keep 11 = .ok (.getfield 77, 3) := by decide +kernel
theorem dX9_keep_14 : decode cX9_keep 14 = .ok (.iload_n 1, 1) := by decide +kernel
theorem dX9_keep_15 : decode cX9_keep 15 = .ok (.iaload, 1) := by decide +kernel
theorem dX9_keep_16 : decode cX9_keep 16 = .ok (.ifCond .ne 8, 3) := by decide +kernel
theorem dX9_keep_19 : decode cX9_keep 19 = .ok (.iload_n 3, 1) := by decide +kernel
theorem dX9_keep_20 : decode cX9_keep 20 = .ok (.i2b, 1) := by decide +kernel
theorem dX9_keep_21 : decode cX9_keep 21 = .ok (.goto 19, 3) := by decide +kernel
theorem dX9_keep_24 : decode cX9_keep 24 = .ok (.aload_n 0, 1) := by decide +kernel
theorem dX9_keep_25 : decode cX9_keep 25 = .ok (.getfield 77, 3) := by decide +kernel
theorem dX9_keep_28 : decode cX9_keep 28 = .ok (.iload_n 1, 1) := by decide +kernel
theorem dX9_keep_29 : decode cX9_keep 29 = .ok (.iaload, 1) := by decide +kernel
theorem dX9_keep_30 : decode cX9_keep 30 = .ok (.iconst 1, 1) := by decide +kernel
theorem dX9_keep_31 : decode cX9_keep 31 = .ok (.if_icmp .ne 8, 3) := by decide +kernel
theorem dX9_keep_34 : decode cX9_keep 34 = .ok (.iload_n 3, 1) := by decide +kernel
theorem dX9_keep_35 : decode cX9_keep 35 = .ok (.i2s, 1) := by decide +kernel
theorem dX9_keep_36 : decode cX9_keep 36 = .ok (.goto 4, 3) := by decide +kernel
theorem dX9_keep_39 : decode cX9_keep 39 = .ok (.iload_n 3, 1) := by decide +kernel
theorem dX9_keep_40 : decode cX9_keep 40 = .ok (.iastore, 1) := by decide +kernel
theorem dX9_keep_41 : decode cX9_keep 41 = .ok (.return_, 1) := by decide +kernel
theorem dX9_put_0 : decode cX9_put 0 = .ok (.iload_n 1, 1) := by decide +kernel
theorem dX9_put_1 : decode cX9_put 1 = .ok (.invokestatic 152, 3) := by decide +kernel
theorem dX9_put_4 : decode cX9_put 4 = .ok (.ifCond .eq 12, 3) := by decide +kernel
theorem dX9_put_7 : decode cX9_put 7 = .ok (.iload_n 2, 1) := by decide +kernel
theorem dX9_put_8 : decode cX9_put 8 = .ok (.iconst 0, 1) := by decide +kernel
theorem dX9_put_9 : decode cX9_put 9 = .ok (.iconst 2, 1) := by decide +kernel
theorem dX9_put_10 : decode cX9_put 10 = .ok (.invokestatic 95, 3) := by decide +kernel
theorem dX9_put_13 : decode cX9_put 13 = .ok (.ifCond .ne 6, 3) := by decide +kernel
theorem dX9_put_16 : decode cX9_put 16 = .ok (.bipush (-2), 2) := by decide +kernel
theorem dX9_put_18 : decode cX9_put 18 = .ok (.ireturn, 1) := by decide +kernel
theorem dX9_put_19 : decode cX9_put 19 = .ok (.aload_n 0, 1) := by decide +kernel
theorem dX9_put_20 : decode cX9_put 20 = .ok (.iload_n 1, 1) := by decide +kernel
theorem dX9_put_21 : decode cX9_put 21 = .ok (.iload_n 2, 1) := by decide +kernel
theorem dX9_put_22 : decode cX9_put 22 = .ok (.iload_n 3, 1) := by decide +kernel
theorem dX9_put_23 : decode cX9_put 23 = .ok (.invokevirtual 285, 3) := by decide +kernel
theorem dX9_put_26 : decode cX9_put 26 = .ok (.istore 5, 2) := by decide +kernel
theorem dX9_put_28 : decode cX9_put 28 = .ok (.iload 5, 2) := by decide +kernel
theorem dX9_put_30 : decode cX9_put 30 = .ok (.ifCond .le 10, 3) := by decide +kernel
theorem dX9_put_33 : decode cX9_put 33 = .ok (.aload_n 0, 1) := by decide +kernel
theorem dX9_put_34 : decode cX9_put 34 = .ok (.iload 5, 2) := by decide +kernel
theorem dX9_put_36 : decode cX9_put 36 = .ok (.invokevirtual 155, 3) := by decide +kernel
theorem dX9_put_39 : decode cX9_put 39 = .ok (.ireturn, 1) := by decide +kernel
theorem dX9_put_40 : decode cX9_put 40 = .ok (.aload_n 0, 1) := by decide +kernel
theorem dX9_put_41 : decode cX9_put 41 = .ok (.iload_n 1, 1) := by decide +kernel
theorem dX9_put_42 : decode cX9_put 42 = .ok (.iload_n 3, 1) := by decide +kernel
theorem dX9_put_43 : decode cX9_put 43 = .ok (.iload 4, 2) := by decide +kernel
theorem dX9_put_45 : decode cX9_put 45 = .ok (.invokevirtual 288, 3) := by decide +kernel
theorem dX9_put_48 : decode cX9_put 48 = .ok (.iconst 1, 1) := by decide +kernel
theorem dX9_put_49 : decode cX9_put 49 = .ok (.ireturn, 1) := by decide +kernel
theorem dX9_get_0 : decode cX9_get 0 = .ok (.iload_n 1, 1) := by decide +kernel
theorem dX9_get_1 : decode cX9_get 1 = .ok (.invokestatic 152, 3) := by decide +kernel
theorem dX9_get_4 : decode cX9_get 4 = .ok (.ifCond .eq 12, 3) := by decide +kernel
theorem dX9_get_7 : decode cX9_get 7 = .ok (.iload_n 2, 1) := by decide +kernel
theorem dX9_get_8 : decode cX9_get 8 = .ok (.iconst 0, 1) := by decide +kernel
theorem dX9_get_9 : decode cX9_get 9 = .ok (.iconst 2, 1) := by decide +kernel
theorem dX9_get_10 : decode cX9_get 10 = .ok (.invokestatic 95, 3) := by decide +kernel
theorem dX9_get_13 : decode cX9_get 13 = .ok (.ifCond .ne 7, 3) := by decide +kernel
theorem dX9_get_16 : decode cX9_get 16 = .ok (.ldc_w 292, 3) := by decide +kernel
theorem dX9_get_19 : decode cX9_get 19 = .ok (.ireturn, 1) := by decide +kernel
theorem dX9_get_20 : decode cX9_get 20 = .ok (.aload_n 0, 1) := by decide +kernel
theorem dX9_get_21 : decode cX9_get 21 = .ok (.iload_n 1, 1) := by decide +kernel
theorem dX9_get_22 : decode cX9_get 22 = .ok (.iload_n 2, 1) := by decide +kernel
theorem dX9_get_23 : decode cX9_get 23 = .ok (.iload_n 3, 1) := by decide +kernel
theorem dX9_get_24 : decode cX9_get 24 = .ok (.invokevirtual 285, 3) := by decide +kernel
theorem dX9_get_27 : decode cX9_get 27 = .ok (.istore 4, 2) := by decide +kernel
theorem dX9_get_29 : decode cX9_get 29 = .ok (.iload 4, 2) := by decide +kernel
theorem dX9_get_31 : decode cX9_get 31 = .ok (.ifCond .le 13, 3) := by decide +kernel
theorem dX9_get_34 : decode cX9_get 34 = .ok (.aload_n 0, 1) := by decide +kernel
theorem dX9_get_35 : decode cX9_get 35 = .ok (.iload 4, 2) := by decide +kernel
theorem dX9_get_37 : decode cX9_get 37 = .ok (.putfield 282, 3) := by decide +kernel
theorem dX9_get_40 : decode cX9_get 40 = .ok (.ldc_w 292, 3) := by decide +kernel
theorem dX9_get_43 : decode cX9_get 43 = .ok (.ireturn, 1) := by decide +kernel
theorem dX9_get_44 : decode cX9_get 44 = .ok (.aload_n 0, 1) := by decide +kernel
theorem dX9_get_45 : decode cX9_get 45 = .ok (.getfield 83, 3) := by decide +kernel
theorem dX9_get_48 : decode cX9_get 48 = .ok (.bipush 60, 2) := by decide +kernel
theorem dX9_get_50 : decode cX9_get 50 = .ok (.iload_n 1, 1) := by decide +kernel
theorem dX9_get_51 : decode cX9_get 51 = .ok (.imul, 1) := by decide +kernel
theorem dX9_get_52 : decode cX9_get 52 = .ok (.iload_n 3, 1) := by decide +kernel
theorem dX9_get_53 : decode cX9_get 53 = .ok (.iadd, 1) := by decide +kernel
theorem dX9_get_54 : decode cX9_get 54 = .ok (.iaload, 1) := by decide +kernel
theorem dX9_get_55 : decode cX9_get 55 = .ok (.ireturn, 1) := by decide +kernel
theorem dX9_copy_0 : decode cX9_copy 0 = .ok (.iload_n 1, 1) := by decide +kernel
theorem dX9_copy_1 : decode cX9_copy 1 = .ok (.invokestatic 152, 3) := by decide +kernel
theorem dX9_copy_4 : decode cX9_copy 4 = .ok (.ifCond .eq 10, 3) := by decide +kernel
theorem dX9_copy_7 : decode cX9_copy 7 = .ok (.iload_n 3, 1) := by decide +kernel
theorem dX9_copy_8 : decode cX9_copy 8 = .ok (.invokestatic 152, 3) := by decide +kernel
theorem dX9_copy_11 : decode cX9_copy 11 = .ok (.ifCond .ne 6, 3) := by decide +kernel
theorem dX9_copy_14 : decode cX9_copy 14 = .ok (.bipush (-2), 2) := by decide +kernel
theorem dX9_copy_16 : decode cX9_copy 16 = .ok (.ireturn, 1) := by decide +kernel
theorem dX9_copy_17 : decode cX9_copy 17 = .ok (.aload_n 0, 1) := by decide +kernel
theorem dX9_copy_18 : decode cX9_copy 18 = .ok (.getfield 73, 3) := by decide +kernel
theorem dX9_copy_21 : decode cX9_copy 21 = .ok (.iload_n 1, 1) := by decide +kernel
theorem dX9_copy_22 : decode cX9_copy 22 = .ok (.baload, 1) := by decide +kernel
theorem dX9_copy_23 : decode cX9_copy 23 = .ok (.ifCond .eq 12, 3) := by decide +kernel
theorem dX9_copy_26 : decode cX9_copy 26 = .ok (.aload_n 0, 1) := by decide +kernel
theorem dX9_copy_27 : decode cX9_copy 27 = .ok (.getfield 73, 3) := by decide +kernel
theorem dX9_copy_30 : decode cX9_copy 30 = .ok (.iload_n 3, 1) := by decide +kernel
theorem dX9_copy_31 : decode cX9_copy 31 = .ok (.baload, 1) := by decide +kernel
theorem dX9_copy_32 : decode cX9_copy 32 = .ok (.ifCond .ne 9, 3) := by decide +kernel
theorem dX9_copy_35 : decode cX9_copy 35 = .ok (.aload_n 0, 1) := by decide +kernel
theorem dX9_copy_36 : decode cX9_copy 36 = .ok (.iconst 1, 1) := by decide +kernel
theorem dX9_copy_37 : decode cX9_copy 37 = .ok (.invokevirtual 155, 3) := by decide +kernel
theorem dX9_copy_40 : decode cX9_copy 40 = .ok (.ireturn, 1) := by decide +kernel
theorem dX9_copy_41 : decode cX9_copy 41 = .ok (.aload_n 0, 1) := by decide +kernel
theorem dX9_copy_42 : decode cX9_copy 42 = .ok (.getfield 77, 3) := by decide +kernel
theorem dX9_copy_45 : decode cX9_copy 45 = .ok (.iload_n 1, 1) := by decide +kernel
theorem dX9_copy_46 : decode cX9_copy 46 = .ok (.iaload, 1) := by decide +kernel
theorem dX9_copy_47 : decode cX9_copy 47 = .ok (.aload_n 0, 1) := by decide +kernel
theorem dX9_copy_48 : decode cX9_copy 48 = .ok (.getfield 77, 3) := by decide +kernel
theorem dX9_copy_51 : decode cX9_copy 51 = .ok (.iload_n 3, 1) := by decide +kernel
theorem dX9_copy_52 : decode cX9_copy 52 = .ok (.iaload, 1) := by decide +kernel
theorem dX9_copy_53 : decode cX9_copy 53 = .ok (.if_icmp .eq 9, 3) := by decide +kernel
theorem dX9_copy_56 : decode cX9_copy 56 = .ok (.aload_n 0, 1) := by decide +kernel
theorem dX9_copy_57 : decode cX9_copy 57 = .ok (.iconst 4, 1) := by decide +kernel
theorem dX9_copy_58 : decode cX9_copy 58 = .ok (.invokevirtual 155, 3) := by decide +kernel
theorem dX9_copy_61 : decode cX9_copy 61 = .ok (.ireturn, 1) := by decide +kernel
theorem dX9_copy_62 : decode cX9_copy 62 = .ok (.iload_n 2, 1) := by decide +kernel
theorem dX9_copy_63 : decode cX9_copy 63 = .ok (.ifCond .lt 48, 3) := by decide +kernel
theorem dX9_copy_66 : decode cX9_copy 66 = .ok (.iload 4, 2) := by decide +kernel
theorem dX9_copy_68 : decode cX9_copy 68 = .ok (.ifCond .lt 43, 3) := by decide +kernel
theorem dX9_copy_71 : decode cX9_copy 71 = .ok (.iload 5, 2) := by decide +kernel
theorem dX9_copy_73 : decode cX9_copy 73 = .ok (.ifCond .lt 38, 3) := by decide +kernel
theorem dX9_copy_76 : decode cX9_copy 76 = .ok (.iload_n 2, 1) := by decide +kernel
theorem dX9_copy_77 : decode cX9_copy 77 = .ok (.i2l, 1) := by decide +kernel
theorem dX9_copy_78 : decode cX9_copy 78 = .ok (.iload 5, 2) := by decide +kernel
theorem dX9_copy_80 : decode cX9_copy 80 = .ok (.i2l, 1) := by decide +kernel
theorem dX9_copy_81 : decode cX9_copy 81 = .ok (.ladd, 1) := by decide +kernel
theorem dX9_copy_82 : decode cX9_copy 82 = .ok (.aload_n 0, 1) := by decide +kernel
theorem dX9_copy_83 : decode cX9_copy 83 = .ok (.getfield 80, 3) := by decide +kernel
theorem dX9_copy_86 : decode cX9_copy 86 = .ok (.iload_n 1, 1) := by decide +kernel
theorem dX9_copy_87 : decode cX9_copy 87 = .ok (.iaload, 1) := by decide +kernel
theorem dX9_copy_88 : decode cX9_copy 88 = .ok (.i2l, 1) := by decide +kernel
theorem dX9_copy_89 : decode cX9_copy 89 = .ok (.lcmp, 1) := by decide +kernel
theorem dX9_copy_90 : decode cX9_copy 90 = .ok (.ifCond .gt 21, 3) := by decide +kernel
theorem dX9_copy_93 : decode cX9_copy 93 = .ok (.iload 4, 2) := by decide +kernel
theorem dX9_copy_95 : decode cX9_copy 95 = .ok (.i2l, 1) := by decide +kernel
theorem dX9_copy_96 : decode cX9_copy 96 = .ok (.iload 5, 2) := by decide +kernel
theorem dX9_copy_98 : decode cX9_copy 98 = .ok (.i2l, 1) := by decide +kernel
theorem dX9_copy_99 : decode cX9_copy 99 = .ok (.ladd, 1) := by decide +kernel
theorem dX9_copy_100 : decode cX9_copy 100 = .ok (.aload_n 0, 1) := by decide +kernel
theorem dX9_copy_101 : decode cX9_copy 101 = .ok (.getfield 80, 3) := by decide +kernel
theorem dX9_copy_104 : decode cX9_copy 104 = .ok (.iload_n 3, 1) := by decide +kernel
theorem dX9_copy_105 : decode cX9_copy 105 = .ok (.iaload, 1) := by decide +kernel
theorem dX9_copy_106 : decode cX9_copy 106 = .ok (.i2l, 1) := by decide +kernel
theorem dX9_copy_107 : decode cX9_copy 107 = .ok (.lcmp, 1) := by decide +kernel
theorem dX9_copy_108 : decode cX9_copy 108 = .ok (.ifCond .le 9, 3) := by decide +kernel
theorem dX9_copy_111 : decode cX9_copy 111 = .ok (.aload_n 0, 1) := by decide +kernel
theorem dX9_copy_112 : decode cX9_copy 112 = .ok (.iconst 2, 1) := by decide +kernel
theorem dX9_copy_113 : decode cX9_copy 113 = .ok (.invokevirtual 155, 3) := by decide +kernel
theorem dX9_copy_116 : decode cX9_copy 116 = .ok (.ireturn, 1) := by decide +kernel
theorem dX9_copy_117 : decode cX9_copy 117 = .ok (.iconst 0, 1) := by decide +kernel
theorem dX9_copy_118 : decode cX9_copy 118 = .ok (.istore 6, 2) := by decide +kernel
theorem dX9_copy_120 : decode cX9_copy 120 = .ok (.iload 6, 2) := by decide +kernel
theorem dX9_copy_122 : decode cX9_copy 122 = .ok (.iload 5, 2) := by decide +kernel
theorem dX9_copy_124 : decode cX9_copy 124 = .ok (.if_icmp .ge 30, 3) := by decide +kernel
theorem dX9_copy_127 : decode cX9_copy 127 = .ok (.aload_n 0, 1) := by decide +kernel
theorem dX9_copy_128 : decode cX9_copy 128 = .ok (.getfield 86, 3) := by decide +kernel
theorem dX9_copy_131 : decode cX9_copy 131 = .ok (.iload 6, 2) := by decide +kernel
theorem dX9_copy_133 : decode cX9_copy 133 = .ok (.aload_n 0, 1) := by decide +kernel
theorem dX9_copy_134 : decode cX9_copy 134 = .ok (.getfield 83, 3) := by decide +kernel
theorem dX9_copy_137 : decode cX9_copy 137 = .ok (.bipush 60, 2) := by decide +kernel
theorem dX9_copy_139 : decode cX9_copy 139 = .ok (.iload_n 1, 1) := by decide +kernel
theorem dX9_copy_140 : decode cX9_copy 140 = .ok (.imul, 1) := by decide +kernel
theorem dX9_copy_141 : decode cX9_copy 141 = .ok (.iload_n 2, 1) := by decide +kernel
theorem dX9_copy_142 : decode cX9_copy 142 = .ok (.iadd, 1) := by decide +kernel
theorem dX9_copy_143 : decode cX9_copy 143 = .ok (.iload 6, 2) := by decide +kernel
theorem dX9_copy_145 : decode cX9_copy 145 = .ok (.iadd, 1) := by decide +kernel
theorem dX9_copy_146 : decode cX9_copy 146 = .ok (.iaload, 1) := by decide +kernel
theorem dX9_copy_147 : decode cX9_copy 147 = .ok (.iastore, 1) := by decide +kernel
theorem dX9_copy_148 : decode cX9_copy 148 = .ok (.iinc 6 1, 3) := by decide +kernel
theorem dX9_copy_151 : decode cX9_copy 151 = .ok (.goto (-31), 3) := by decide +kernel
theorem dX9_copy_154 : decode cX9_copy 154 = .ok (.iconst 0, 1) := by decide +kernel
theorem dX9_copy_155 : decode cX9_copy 155 = .ok (.istore 6, 2) := by decide +kernel
theorem dX9_copy_157 : decode cX9_copy 157 = .ok (.iload 6, 2) := by decide +kernel
theorem dX9_copy_159 : decode cX9_copy 159 = .ok (.iload 5, 2) := by decide +kernel
theorem dX9_copy_161 : decode cX9_copy 161 = .ok (.if_icmp .ge 31, 3) := by decide +kernel
theorem dX9_copy_164 : decode cX9_copy 164 = .ok (.aload_n 0, 1) := by decide +kernel
theorem dX9_copy_165 : decode cX9_copy 165 = .ok (.getfield 83, 3) := by decide +kernel
theorem dX9_copy_168 : decode cX9_copy 168 = .ok (.bipush 60, 2) := by decide +kernel
theorem dX9_copy_170 : decode cX9_copy 170 = .ok (.iload_n 3, 1) := by decide +kernel
theorem dX9_copy_171 : decode cX9_copy 171 = .ok (.imul, 1) := by decide +kernel
theorem dX9_copy_172 : decode cX9_copy 172 = .ok (.iload 4, 2) := by decide +kernel
theorem dX9_copy_174 : decode cX9_copy 174 = .ok (.iadd, 1) := by decide +kernel
theorem dX9_copy_175 : decode cX9_copy 175 = .ok (.iload 6, 2) := by decide +kernel
theorem dX9_copy_177 : decode cX9_copy 177 = .ok (.iadd, 1) := by decide +kernel
theorem dX9_copy_178 : decode cX9_copy 178 = .ok (.aload_n 0, 1) := by decide +kernel
theorem dX9_copy_179 : decode cX9_copy 179 = .ok (.getfield 86, 3) := by decide +kernel
theorem dX9_copy_182 : decode cX9_copy 182 = .ok (.iload 6, 2) := by decide +kernel
theorem dX9_copy_184 : decode cX9_copy 184 = .ok (.iaload, 1) := by decide +kernel
theorem dX9_copy_185 : decode cX9_copy 185 = .ok (.iastore, 1) := by decide +kernel
theorem dX9_copy_186 : decode cX9_copy 186 = .ok (.iinc 6 1, 3) := by decide +kernel
theorem dX9_copy_189 : decode cX9_copy 189 = .ok (.goto (-32), 3) := by decide +kernel
theorem dX9_copy_192 : decode cX9_copy 192 = .ok (.iconst 1, 1) := by decide +kernel
theorem dX9_copy_193 : decode cX9_copy 193 = .ok (.ireturn, 1) := by decide +kernel
theorem dX9_write_0 : decode cX9_write 0 = .ok (.iload_n 1, 1) := by decide +kernel
theorem dX9_write_1 : decode cX9_write 1 = .ok (.invokestatic 134, 3) := by decide +kernel
theorem dX9_write_4 : decode cX9_write 4 = .ok (.ifCond .eq 10, 3) := by decide +kernel
theorem dX9_write_7 : decode cX9_write 7 = .ok (.iload_n 2, 1) := by decide +kernel
theorem dX9_write_8 : decode cX9_write 8 = .ok (.invokestatic 152, 3) := by decide +kernel
theorem dX9_write_11 : decode cX9_write 11 = .ok (.ifCond .ne 6, 3) := by decide +kernel
theorem dX9_write_14 : decode cX9_write 14 = .ok (.bipush (-2), 2) := by decide +kernel
theorem dX9_write_16 : decode cX9_write 16 = .ok (.ireturn, 1) := by decide +kernel
theorem dX9_write_17 : decode cX9_write 17 = .ok (.aload_n 0, 1) := by decide +kernel
theorem dX9_write_18 : decode cX9_write 18 = .ok (.getfield 73, 3) := by decide +kernel
theorem dX9_write_21 : decode cX9_write 21 = .ok (.iload_n 2, 1) := by decide +kernel
theorem dX9_write_22 : decode cX9_write 22 = .ok (.baload, 1) := by decide +kernel
theorem dX9_write_23 : decode cX9_write 23 = .ok (.ifCond .ne 9, 3) := by decide +kernel
theorem dX9_write_26 : decode cX9_write 26 = .ok (.aload_n 0, 1) := by decide +kernel
theorem dX9_write_27 : decode cX9_write 27 = .ok (.iconst 1, 1) := by decide +kernel
theorem dX9_write_28 : decode cX9_write 28 = .ok (.invokevirtual 155, 3) := by decide +kernel
theorem dX9_write_31 : decode cX9_write 31 = .ok (.ireturn, 1) := by decide +kernel
theorem dX9_write_32 : decode cX9_write 32 = .ok (.aload_n 0, 1) := by decide +kernel
theorem dX9_write_33 : decode cX9_write 33 = .ok (.invokevirtual 192, 3) := by decide +kernel
theorem dX9_write_36 : decode cX9_write 36 = .ok (.iconst 0, 1) := by decide +kernel
theorem dX9_write_37 : decode cX9_write 37 = .ok (.istore_n 3, 1) := by decide +kernel
theorem dX9_write_38 : decode cX9_write 38 = .ok (.iload_n 3, 1) := by decide +kernel
theorem dX9_write_39 : decode cX9_write 39 = .ok (.aload_n 0, 1) := by decide +kernel
theorem dX9_write_40 : decode cX9_write 40 = .ok (.getfield 80, 3) := by decide +kernel
theorem dX9_write_43 : decode cX9_write 43 = .ok (.iload_n 2, 1) := by decide +kernel
theorem dX9_write_44 : decode cX9_write 44 = .ok (.iaload, 1) := by decide +kernel
theorem dX9_write_45 : decode cX9_write 45 = .ok (.if_icmp .ge 27, 3) := by decide +kernel
theorem dX9_write_48 : decode cX9_write 48 = .ok (.iload_n 3, 1) := by decide +kernel
theorem dX9_write_49 : decode cX9_write 49 = .ok (.bipush 36, 2) := by decide +kernel
theorem dX9_write_51 : decode cX9_write 51 = .ok (.if_icmp .ge 21, 3) := by decide +kernel
theorem dX9_write_54 : decode cX9_write 54 = .ok (.aload_n 0, 1) := by decide +kernel
theorem dX9_write_55 : decode cX9_write 55 = .ok (.iload_n 2, 1) := by decide +kernel
theorem dX9_write_56 : decode cX9_write 56 = .ok (.iload_n 3, 1) := by decide +kernel
theorem dX9_write_57 : decode cX9_write 57 = .ok (.aload_n 0, 1) := by decide +kernel
theorem dX9_write_58 : decode cX9_write 58 = .ok (.iload_n 1, 1) := by decide +kernel
theorem dX9_write_59 : decode cX9_write 59 = .ok (.iload_n 3, 1) := by decide +kernel
theorem dX9_write_60 : decode cX9_write 60 = .ok (.invokevirtual 195, 3) := by decide +kernel
theorem dX9_write_63 : decode cX9_write 63 = .ok (.invokevirtual 288, 3) := by decide +kernel
theorem dX9_write_66 : decode cX9_write 66 = .ok (.iinc 3 1, 3) := by decide +kernel
theorem dX9_write_69 : decode cX9_write 69 = .ok (.goto (-31), 3) := by decide +kernel
theorem dX9_write_72 : decode cX9_write 72 = .ok (.iload_n 3, 1) := by decide +kernel
theorem dX9_write_73 : decode cX9_write 73 = .ok (.ireturn, 1) := by decide +kernel
theorem dX9_sumOf_0 : decode cX9_sumOf 0 = .ok (.aload_n 0, 1) := by decide +kernel
theorem dX9_sumOf_1 : decode cX9_sumOf 1 = .ok (.invokevirtual 192, 3) := by decide +kernel
theorem dX9_sumOf_4 : decode cX9_sumOf 4 = .ok (.iload_n 1, 1) := by decide +kernel
theorem dX9_sumOf_5 : decode cX9_sumOf 5 = .ok (.ifCond .ne 10, 3) := by decide +kernel
theorem dX9_sumOf_8 : decode cX9_sumOf 8 = .ok (.aload_n 0, 1) := by decide +kernel
theorem dX9_sumOf_9 : decode cX9_sumOf 9 = .ok (.getfield 103, 3) := by decide +kernel
theorem dX9_sumOf_12 : decode cX9_sumOf 12 = .ok (.goto 19, 3) := by decide +kernel
theorem dX9_sumOf_15 : decode cX9_sumOf 15 = .ok (.iload_n 1, 1) := by decide +kernel
theorem dX9_sumOf_16 : decode cX9_sumOf 16 = .ok (.iconst 1, 1) := by decide +kernel
theorem dX9_sumOf_17 : decode cX9_sumOf 17 = .ok (.if_icmp .ne 10, 3) := by decide +kernel
theorem dX9_sumOf_20 : decode cX9_sumOf 20 = .ok (.aload_n 0, 1) := by decide +kernel
theorem dX9_sumOf_21 : decode cX9_sumOf 21 = .ok (.getfield 114, 3) := by decide +kernel
theorem dX9_sumOf_24 : decode cX9_sumOf 24 = .ok (.goto 7, 3) := by decide +kernel
theorem dX9_sumOf_27 : decode cX9_sumOf 27 = .ok (.aload_n 0, 1) := by decide +kernel
theorem dX9_sumOf_28 : decode cX9_sumOf 28 = .ok (.invokevirtual 232, 3) := by decide +kernel
theorem dX9_sumOf_31 : decode cX9_sumOf 31 = .ok (.ireturn, 1) := by decide +kernel
theorem dX9_count_0 : decode cX9_count 0 = .ok (.iload_n 1, 1) := by decide +kernel
theorem dX9_count_1 : decode cX9_count 1 = .ok (.tableswitch 86 0 8 #[51, 51, 57, 57, 66, 71, 51, 76, 81], 51) := by decide +kernel
theorem dX9_count_52 : decode cX9_count 52 = .ok (.aload_n 0, 1) := by decide +kernel
theorem dX9_count_53 : decode cX9_count 53 = .ok (.iload_n 1, 1) := by decide +kernel
theorem dX9_count_54 : decode cX9_count 54 = .ok (.invokevirtual 293, 3) := by decide +kernel
theorem dX9_count_57 : decode cX9_count 57 = .ok (.ireturn, 1) := by decide +kernel
theorem dX9_count_58 : decode cX9_count 58 = .ok (.aload_n 0, 1) := by decide +kernel
theorem dX9_count_59 : decode cX9_count 59 = .ok (.getfield 7, 3) := by decide +kernel
theorem dX9_count_62 : decode cX9_count 62 = .ok (.iload_n 1, 1) := by decide +kernel
theorem dX9_count_63 : decode cX9_count 63 = .ok (.iconst 2, 1) := by decide +kernel
theorem dX9_count_64 : decode cX9_count 64 = .ok (.isub, 1) := by decide +kernel
theorem dX9_count_65 : decode cX9_count 65 = .ok (.iaload, 1) := by decide +kernel
theorem dX9_count_66 : decode cX9_count 66 = .ok (.ireturn, 1) := by decide +kernel
theorem dX9_count_67 : decode cX9_count 67 = .ok (.aload_n 0, 1) := by decide +kernel
theorem dX9_count_68 : decode cX9_count 68 = .ok (.getfield 146, 3) := by decide +kernel
theorem dX9_count_71 : decode cX9_count 71 = .ok (.ireturn, 1) := by decide +kernel
theorem dX9_count_72 : decode cX9_count 72 = .ok (.aload_n 0, 1) := by decide +kernel
theorem dX9_count_73 : decode cX9_count 73 = .ok (.getfield 149, 3) := by decide +kernel
theorem dX9_count_76 : decode cX9_count 76 = .ok (.ireturn, 1) := by decide +kernel
theorem dX9_count_77 : decode cX9_count 77 = .ok (.aload_n 0, 1) := by decide +kernel
theorem dX9_count_78 : decode cX9_count 78 = .ok (.getfield 247, 3) := by decide +kernel
theorem dX9_count_81 : decode cX9_count 81 = .ok (.ireturn, 1) := by decide +kernel
theorem dX9_count_82 : decode cX9_count 82 = .ok (.aload_n 0, 1) := by decide +kernel
theorem dX9_count_83 : decode cX9_count 83 = .ok (.getfield 282, 3) := by decide +kernel
theorem dX9_count_86 : decode cX9_count 86 = .ok (.ireturn, 1) := by decide +kernel
theorem dX9_count_87 : decode cX9_count 87 = .ok (.bipush (-2), 2) := by decide +kernel
theorem dX9_count_89 : decode cX9_count 89 = .ok (.ireturn, 1) := by decide +kernel
theorem dX9_dayDigest_0 : decode cX9_dayDigest 0 = .ok (.ldc2_w 296, 3) := by decide +kernel
theorem dX9_dayDigest_3 : decode cX9_dayDigest 3 = .ok (.lload_n 1, 1) := by decide +kernel
theorem dX9_dayDigest_4 : decode cX9_dayDigest 4 = .ok (.lmul, 1) := by decide +kernel
theorem dX9_dayDigest_5 : decode cX9_dayDigest 5 = .ok (.aload_n 0, 1) := by decide +kernel
theorem dX9_dayDigest_6 : decode cX9_dayDigest 6 = .ok (.iload_n 3, 1) := by decide +kernel
theorem dX9_dayDigest_7 : decode cX9_dayDigest 7 = .ok (.invokevirtual 137, 3) := by decide +kernel
theorem dX9_dayDigest_10 : decode cX9_dayDigest 10 = .ok (.i2l, 1) := by decide +kernel
theorem dX9_dayDigest_11 : decode cX9_dayDigest 11 = .ok (.ladd, 1) := by decide +kernel
theorem dX9_dayDigest_12 : decode cX9_dayDigest 12 = .ok (.lstore 4, 2) := by decide +kernel
theorem dX9_dayDigest_14 : decode cX9_dayDigest 14 = .ok (.ldc2_w 296, 3) := by decide +kernel
theorem dX9_dayDigest_17 : decode cX9_dayDigest 17 = .ok (.lload 4, 2) := by decide +kernel
theorem dX9_dayDigest_19 : decode cX9_dayDigest 19 = .ok (.lmul, 1) := by decide +kernel
theorem dX9_dayDigest_20 : decode cX9_dayDigest 20 = .ok (.aload_n 0, 1) := by decide +kernel
theorem dX9_dayDigest_21 : decode cX9_dayDigest 21 = .ok (.iload_n 3, 1) := by decide +kernel
theorem dX9_dayDigest_22 : decode cX9_dayDigest 22 = .ok (.invokevirtual 217, 3) := by decide +kernel
theorem dX9_dayDigest_25 : decode cX9_dayDigest 25 = .ok (.i2l, 1) := by decide +kernel
theorem dX9_dayDigest_26 : decode cX9_dayDigest 26 = .ok (.ladd, 1) := by decide +kernel
theorem dX9_dayDigest_27 : decode cX9_dayDigest 27 = .ok (.lstore 4, 2) := by decide +kernel
theorem dX9_dayDigest_29 : decode cX9_dayDigest 29 = .ok (.ldc2_w 296, 3) := by decide +kernel
theorem dX9_dayDigest_32 : decode cX9_dayDigest 32 = .ok (.lload 4, 2) := by decide +kernel
theorem dX9_dayDigest_34 : decode cX9_dayDigest 34 = .ok (.lmul, 1) := by decide +kernel
theorem dX9_dayDigest_35 : decode cX9_dayDigest 35 = .ok (.aload_n 0, 1) := by decide +kernel
theorem dX9_dayDigest_36 : decode cX9_dayDigest 36 = .ok (.iload_n 3, 1) := by decide +kernel
theorem dX9_dayDigest_37 : decode cX9_dayDigest 37 = .ok (.invokevirtual 229, 3) := by decide +kernel
theorem dX9_dayDigest_40 : decode cX9_dayDigest 40 = .ok (.i2l, 1) := by decide +kernel
theorem dX9_dayDigest_41 : decode cX9_dayDigest 41 = .ok (.ladd, 1) := by decide +kernel
theorem dX9_dayDigest_42 : decode cX9_dayDigest 42 = .ok (.lstore 4, 2) := by decide +kernel
theorem dX9_dayDigest_44 : decode cX9_dayDigest 44 = .ok (.iconst 0, 1) := by decide +kernel
theorem dX9_dayDigest_45 : decode cX9_dayDigest 45 = .ok (.istore 6, 2) := by decide +kernel
theorem dX9_dayDigest_47 : decode cX9_dayDigest 47 = .ok (.iload 6, 2) := by decide +kernel
theorem dX9_dayDigest_49 : decode cX9_dayDigest 49 = .ok (.bipush 36, 2) := by decide +kernel
theorem dX9_dayDigest_51 : decode cX9_dayDigest 51 = .ok (.if_icmp .ge 26, 3) := by decide +kernel
theorem dX9_dayDigest_54 : decode cX9_dayDigest 54 = .ok (.ldc2_w 296, 3) := by decide +kernel
theorem dX9_dayDigest_57 : decode cX9_dayDigest 57 = .ok (.lload 4, 2) := by decide +kernel
theorem dX9_dayDigest_59 : decode cX9_dayDigest 59 = .ok (.lmul, 1) := by decide +kernel
theorem dX9_dayDigest_60 : decode cX9_dayDigest 60 = .ok (.aload_n 0, 1) := by decide +kernel
theorem dX9_dayDigest_61 : decode cX9_dayDigest 61 = .ok (.iload_n 3, 1) := by decide +kernel
theorem dX9_dayDigest_62 : decode cX9_dayDigest 62 = .ok (.iload 6, 2) := by decide +kernel
theorem dX9_dayDigest_64 : decode cX9_dayDigest 64 = .ok (.invokevirtual 201, 3) := by decide +kernel
theorem dX9_dayDigest_67 : decode cX9_dayDigest 67 = .ok (.i2l, 1) := by decide +kernel
theorem dX9_dayDigest_68 : decode cX9_dayDigest 68 = .ok (.ladd, 1) := by decide +kernel
theorem dX9_dayDigest_69 : decode cX9_dayDigest 69 = .ok (.lstore 4, 2) := by decide +kernel
theorem dX9_dayDigest_71 : decode cX9_dayDigest 71 = .ok (.iinc 6 1, 3) := by decide +kernel
theorem dX9_dayDigest_74 : decode cX9_dayDigest 74 = .ok (.goto (-27), 3) := by decide +kernel
theorem dX9_dayDigest_77 : decode cX9_dayDigest 77 = .ok (.lload 4, 2) := by decide +kernel
theorem dX9_dayDigest_79 : decode cX9_dayDigest 79 = .ok (.lreturn, 1) := by decide +kernel
theorem dX9_strokeDigest_0 : decode cX9_strokeDigest 0 = .ok (.lload_n 1, 1) := by decide +kernel
theorem dX9_strokeDigest_1 : decode cX9_strokeDigest 1 = .ok (.lstore 4, 2) := by decide +kernel
theorem dX9_strokeDigest_3 : decode cX9_strokeDigest 3 = .ok (.iconst 0, 1) := by decide +kernel
theorem dX9_strokeDigest_4 : decode cX9_strokeDigest 4 = .ok (.istore 6, 2) := by decide +kernel
theorem dX9_strokeDigest_6 : decode cX9_strokeDigest 6 = .ok (.iload 6, 2) := by decide +kernel
theorem dX9_strokeDigest_8 : decode cX9_strokeDigest 8 = .ok (.iconst 4, 1) := by decide +kernel
theorem dX9_strokeDigest_9 : decode cX9_strokeDigest 9 = .ok (.if_icmp .ge 26, 3) := by decide +kernel
theorem dX9_strokeDigest_12 : decode cX9_strokeDigest 12 = .ok (.ldc2_w 296, 3) := by decide +kernel
theorem dX9_strokeDigest_15 : decode cX9_strokeDigest 15 = .ok (.lload 4, 2) := by decide +kernel
theorem dX9_strokeDigest_17 : decode cX9_strokeDigest 17 = .ok (.lmul, 1) := by decide +kernel
theorem dX9_strokeDigest_18 : decode cX9_strokeDigest 18 = .ok (.aload_n 0, 1) := by decide +kernel
theorem dX9_strokeDigest_19 : decode cX9_strokeDigest 19 = .ok (.iload_n 3, 1) := by decide +kernel
theorem dX9_strokeDigest_20 : decode cX9_strokeDigest 20 = .ok (.iload 6, 2) := by decide +kernel
theorem dX9_strokeDigest_22 : decode cX9_strokeDigest 22 = .ok (.invokevirtual 143, 3) := by decide +kernel
theorem dX9_strokeDigest_25 : decode cX9_strokeDigest 25 = .ok (.i2l, 1) := by decide +kernel
theorem dX9_strokeDigest_26 : decode cX9_strokeDigest 26 = .ok (.ladd, 1) := by decide +kernel
theorem dX9_strokeDigest_27 : decode cX9_strokeDigest 27 = .ok (.lstore 4, 2) := by decide +kernel
theorem dX9_strokeDigest_29 : decode cX9_strokeDigest 29 = .ok (.iinc 6 1, 3) := by decide +kernel
theorem dX9_strokeDigest_32 : decode cX9_strokeDigest 32 = .ok (.goto (-26), 3) := by decide +kernel
theorem dX9_strokeDigest_35 : decode cX9_strokeDigest 35 = .ok (.ldc2_w 296, 3) := by decide +kernel
theorem dX9_strokeDigest_38 : decode cX9_strokeDigest 38 = .ok (.lload 4, 2) := by decide +kernel
theorem dX9_strokeDigest_40 : decode cX9_strokeDigest 40 = .ok (.lmul, 1) := by decide +kernel
theorem dX9_strokeDigest_41 : decode cX9_strokeDigest 41 = .ok (.aload_n 0, 1) := by decide +kernel
theorem dX9_strokeDigest_42 : decode cX9_strokeDigest 42 = .ok (.bipush 9, 2) := by decide +kernel
theorem dX9_strokeDigest_44 : decode cX9_strokeDigest 44 = .ok (.iload_n 3, 1) := by decide +kernel
theorem dX9_strokeDigest_45 : decode cX9_strokeDigest 45 = .ok (.iconst 0, 1) := by decide +kernel
theorem dX9_strokeDigest_46 : decode cX9_strokeDigest 46 = .ok (.invokevirtual 204, 3) := by decide +kernel
theorem dX9_strokeDigest_49 : decode cX9_strokeDigest 49 = .ok (.i2l, 1) := by decide +kernel
theorem dX9_strokeDigest_50 : decode cX9_strokeDigest 50 = .ok (.ladd, 1) := by decide +kernel
theorem dX9_strokeDigest_51 : decode cX9_strokeDigest 51 = .ok (.lstore 4, 2) := by decide +kernel
theorem dX9_strokeDigest_53 : decode cX9_strokeDigest 53 = .ok (.ldc2_w 296, 3) := by decide +kernel
theorem dX9_strokeDigest_56 : decode cX9_strokeDigest 56 = .ok (.lload 4, 2) := by decide +kernel
theorem dX9_strokeDigest_58 : decode cX9_strokeDigest 58 = .ok (.lmul, 1) := by decide +kernel
theorem dX9_strokeDigest_59 : decode cX9_strokeDigest 59 = .ok (.aload_n 0, 1) := by decide +kernel
theorem dX9_strokeDigest_60 : decode cX9_strokeDigest 60 = .ok (.bipush 9, 2) := by decide +kernel
theorem dX9_strokeDigest_62 : decode cX9_strokeDigest 62 = .ok (.iload_n 3, 1) := by decide +kernel
theorem dX9_strokeDigest_63 : decode cX9_strokeDigest 63 = .ok (.iconst 1, 1) := by decide +kernel
theorem dX9_strokeDigest_64 : decode cX9_strokeDigest 64 = .ok (.invokevirtual 204, 3) := by decide +kernel
theorem dX9_strokeDigest_67 : decode cX9_strokeDigest 67 = .ok (.i2l, 1) := by decide +kernel
theorem dX9_strokeDigest_68 : decode cX9_strokeDigest 68 = .ok (.ladd, 1) := by decide +kernel
theorem dX9_strokeDigest_69 : decode cX9_strokeDigest 69 = .ok (.lstore 4, 2) := by decide +kernel
theorem dX9_strokeDigest_71 : decode cX9_strokeDigest 71 = .ok (.ldc2_w 296, 3) := by decide +kernel
theorem dX9_strokeDigest_74 : decode cX9_strokeDigest 74 = .ok (.lload 4, 2) := by decide +kernel
theorem dX9_strokeDigest_76 : decode cX9_strokeDigest 76 = .ok (.lmul, 1) := by decide +kernel
theorem dX9_strokeDigest_77 : decode cX9_strokeDigest 77 = .ok (.aload_n 0, 1) := by decide +kernel
theorem dX9_strokeDigest_78 : decode cX9_strokeDigest 78 = .ok (.bipush 19, 2) := by decide +kernel
theorem dX9_strokeDigest_80 : decode cX9_strokeDigest 80 = .ok (.iload_n 3, 1) := by decide +kernel
theorem dX9_strokeDigest_81 : decode cX9_strokeDigest 81 = .ok (.iconst 0, 1) := by decide +kernel
theorem dX9_strokeDigest_82 : decode cX9_strokeDigest 82 = .ok (.invokevirtual 204, 3) := by decide +kernel
theorem dX9_strokeDigest_85 : decode cX9_strokeDigest 85 = .ok (.i2l, 1) := by decide +kernel
theorem dX9_strokeDigest_86 : decode cX9_strokeDigest 86 = .ok (.ladd, 1) := by decide +kernel
theorem dX9_strokeDigest_87 : decode cX9_strokeDigest 87 = .ok (.lstore 4, 2) := by decide +kernel
theorem dX9_strokeDigest_89 : decode cX9_strokeDigest 89 = .ok (.ldc2_w 296, 3) := by decide +kernel
theorem dX9_strokeDigest_92 : decode cX9_strokeDigest 92 = .ok (.lload 4, 2) := by decide +kernel
theorem dX9_strokeDigest_94 : decode cX9_strokeDigest 94 = .ok (.lmul, 1) := by decide +kernel
theorem dX9_strokeDigest_95 : decode cX9_strokeDigest 95 = .ok (.aload_n 0, 1) := by decide +kernel
theorem dX9_strokeDigest_96 : decode cX9_strokeDigest 96 = .ok (.bipush 19, 2) := by decide +kernel
theorem dX9_strokeDigest_98 : decode cX9_strokeDigest 98 = .ok (.iload_n 3, 1) := by decide +kernel
theorem dX9_strokeDigest_99 : decode cX9_strokeDigest 99 = .ok (.iconst 1, 1) := by decide +kernel
theorem dX9_strokeDigest_100 : decode cX9_strokeDigest 100 = .ok (.invokevirtual 204, 3) := by decide +kernel
theorem dX9_strokeDigest_103 : decode cX9_strokeDigest 103 = .ok (.i2l, 1) := by decide +kernel
theorem dX9_strokeDigest_104 : decode cX9_strokeDigest 104 = .ok (.ladd, 1) := by decide +kernel
theorem dX9_strokeDigest_105 : decode cX9_strokeDigest 105 = .ok (.lstore 4, 2) := by decide +kernel
theorem dX9_strokeDigest_107 : decode cX9_strokeDigest 107 = .ok (.ldc2_w 296, 3) := by decide +kernel
theorem dX9_strokeDigest_110 : decode cX9_strokeDigest 110 = .ok (.lload 4, 2) := by decide +kernel
theorem dX9_strokeDigest_112 : decode cX9_strokeDigest 112 = .ok (.lmul, 1) := by decide +kernel
theorem dX9_strokeDigest_113 : decode cX9_strokeDigest 113 = .ok (.aload_n 0, 1) := by decide +kernel
theorem dX9_strokeDigest_114 : decode cX9_strokeDigest 114 = .ok (.iload_n 3, 1) := by decide +kernel
theorem dX9_strokeDigest_115 : decode cX9_strokeDigest 115 = .ok (.invokevirtual 211, 3) := by decide +kernel
theorem dX9_strokeDigest_118 : decode cX9_strokeDigest 118 = .ok (.i2l, 1) := by decide +kernel
theorem dX9_strokeDigest_119 : decode cX9_strokeDigest 119 = .ok (.ladd, 1) := by decide +kernel
theorem dX9_strokeDigest_120 : decode cX9_strokeDigest 120 = .ok (.lstore 4, 2) := by decide +kernel
theorem dX9_strokeDigest_122 : decode cX9_strokeDigest 122 = .ok (.ldc2_w 296, 3) := by decide +kernel
theorem dX9_strokeDigest_125 : decode cX9_strokeDigest 125 = .ok (.lload 4, 2) := by decide +kernel
theorem dX9_strokeDigest_127 : decode cX9_strokeDigest 127 = .ok (.lmul, 1) := by decide +kernel
theorem dX9_strokeDigest_128 : decode cX9_strokeDigest 128 = .ok (.aload_n 0, 1) := by decide +kernel
theorem dX9_strokeDigest_129 : decode cX9_strokeDigest 129 = .ok (.iload_n 3, 1) := by decide +kernel
theorem dX9_strokeDigest_130 : decode cX9_strokeDigest 130 = .ok (.iconst 0, 1) := by decide +kernel
theorem dX9_strokeDigest_131 : decode cX9_strokeDigest 131 = .ok (.invokevirtual 238, 3) := by decide +kernel
theorem dX9_strokeDigest_134 : decode cX9_strokeDigest 134 = .ok (.i2l, 1) := by decide +kernel
theorem dX9_strokeDigest_135 : decode cX9_strokeDigest 135 = .ok (.ladd, 1) := by decide +kernel
theorem dX9_strokeDigest_136 : decode cX9_strokeDigest 136 = .ok (.lstore 4, 2) := by decide +kernel
theorem dX9_strokeDigest_138 : decode cX9_strokeDigest 138 = .ok (.ldc2_w 296, 3) := by decide +kernel
theorem dX9_strokeDigest_141 : decode cX9_strokeDigest 141 = .ok (.lload 4, 2) := by decide +kernel
theorem dX9_strokeDigest_143 : decode cX9_strokeDigest 143 = .ok (.lmul, 1) := by decide +kernel
theorem dX9_strokeDigest_144 : decode cX9_strokeDigest 144 = .ok (.aload_n 0, 1) := by decide +kernel
theorem dX9_strokeDigest_145 : decode cX9_strokeDigest 145 = .ok (.iload_n 3, 1) := by decide +kernel
theorem dX9_strokeDigest_146 : decode cX9_strokeDigest 146 = .ok (.iconst 1, 1) := by decide +kernel
theorem dX9_strokeDigest_147 : decode cX9_strokeDigest 147 = .ok (.invokevirtual 238, 3) := by decide +kernel
theorem dX9_strokeDigest_150 : decode cX9_strokeDigest 150 = .ok (.i2l, 1) := by decide +kernel
theorem dX9_strokeDigest_151 : decode cX9_strokeDigest 151 = .ok (.ladd, 1) := by decide +kernel
theorem dX9_strokeDigest_152 : decode cX9_strokeDigest 152 = .ok (.lstore 4, 2) := by decide +kernel
theorem dX9_strokeDigest_154 : decode cX9_strokeDigest 154 = .ok (.ldc2_w 296, 3) := by decide +kernel
theorem dX9_strokeDigest_157 : decode cX9_strokeDigest 157 = .ok (.lload 4, 2) := by decide +kernel
theorem dX9_strokeDigest_159 : decode cX9_strokeDigest 159 = .ok (.lmul, 1) := by decide +kernel
theorem dX9_strokeDigest_160 : decode cX9_strokeDigest 160 = .ok (.aload_n 0, 1) := by decide +kernel
theorem dX9_strokeDigest_161 : decode cX9_strokeDigest 161 = .ok (.iload_n 3, 1) := by decide +kernel
theorem dX9_strokeDigest_162 : decode cX9_strokeDigest 162 = .ok (.iconst 0, 1) := by decide +kernel
theorem dX9_strokeDigest_163 : decode cX9_strokeDigest 163 = .ok (.invokevirtual 241, 3) := by decide +kernel
theorem dX9_strokeDigest_166 : decode cX9_strokeDigest 166 = .ok (.i2l, 1) := by decide +kernel
theorem dX9_strokeDigest_167 : decode cX9_strokeDigest 167 = .ok (.ladd, 1) := by decide +kernel
theorem dX9_strokeDigest_168 : decode cX9_strokeDigest 168 = .ok (.lstore 4, 2) := by decide +kernel
theorem dX9_strokeDigest_170 : decode cX9_strokeDigest 170 = .ok (.ldc2_w 296, 3) := by decide +kernel
theorem dX9_strokeDigest_173 : decode cX9_strokeDigest 173 = .ok (.lload 4, 2) := by decide +kernel
theorem dX9_strokeDigest_175 : decode cX9_strokeDigest 175 = .ok (.lmul, 1) := by decide +kernel
theorem dX9_strokeDigest_176 : decode cX9_strokeDigest 176 = .ok (.aload_n 0, 1) := by decide +kernel
theorem dX9_strokeDigest_177 : decode cX9_strokeDigest 177 = .ok (.iload_n 3, 1) := by decide +kernel
theorem dX9_strokeDigest_178 : decode cX9_strokeDigest 178 = .ok (.iconst 1, 1) := by decide +kernel
theorem dX9_strokeDigest_179 : decode cX9_strokeDigest 179 = .ok (.invokevirtual 241, 3) := by decide +kernel
theorem dX9_strokeDigest_182 : decode cX9_strokeDigest 182 = .ok (.i2l, 1) := by decide +kernel
theorem dX9_strokeDigest_183 : decode cX9_strokeDigest 183 = .ok (.ladd, 1) := by decide +kernel
theorem dX9_strokeDigest_184 : decode cX9_strokeDigest 184 = .ok (.lstore 4, 2) := by decide +kernel
theorem dX9_strokeDigest_186 : decode cX9_strokeDigest 186 = .ok (.ldc2_w 296, 3) := by decide +kernel
theorem dX9_strokeDigest_189 : decode cX9_strokeDigest 189 = .ok (.lload 4, 2) := by decide +kernel
theorem dX9_strokeDigest_191 : decode cX9_strokeDigest 191 = .ok (.lmul, 1) := by decide +kernel
theorem dX9_strokeDigest_192 : decode cX9_strokeDigest 192 = .ok (.aload_n 0, 1) := by decide +kernel
theorem dX9_strokeDigest_193 : decode cX9_strokeDigest 193 = .ok (.iload_n 3, 1) := by decide +kernel
theorem dX9_strokeDigest_194 : decode cX9_strokeDigest 194 = .ok (.invokevirtual 257, 3) := by decide +kernel
theorem dX9_strokeDigest_197 : decode cX9_strokeDigest 197 = .ok (.i2l, 1) := by decide +kernel
theorem dX9_strokeDigest_198 : decode cX9_strokeDigest 198 = .ok (.ladd, 1) := by decide +kernel
theorem dX9_strokeDigest_199 : decode cX9_strokeDigest 199 = .ok (.lstore 4, 2) := by decide +kernel
theorem dX9_strokeDigest_201 : decode cX9_strokeDigest 201 = .ok (.ldc2_w 296, 3) := by decide +kernel
theorem dX9_strokeDigest_204 : decode cX9_strokeDigest 204 = .ok (.lload 4, 2) := by decide +kernel
theorem dX9_strokeDigest_206 : decode cX9_strokeDigest 206 = .ok (.lmul, 1) := by decide +kernel
theorem dX9_strokeDigest_207 : decode cX9_strokeDigest 207 = .ok (.aload_n 0, 1) := by decide +kernel
theorem dX9_strokeDigest_208 : decode cX9_strokeDigest 208 = .ok (.iload_n 3, 1) := by decide +kernel
theorem dX9_strokeDigest_209 : decode cX9_strokeDigest 209 = .ok (.invokevirtual 260, 3) := by decide +kernel
theorem dX9_strokeDigest_212 : decode cX9_strokeDigest 212 = .ok (.i2l, 1) := by decide +kernel
theorem dX9_strokeDigest_213 : decode cX9_strokeDigest 213 = .ok (.ladd, 1) := by decide +kernel
theorem dX9_strokeDigest_214 : decode cX9_strokeDigest 214 = .ok (.lreturn, 1) := by decide +kernel
theorem dX9_digest_0 : decode cX9_digest 0 = .ok (.ldc2_w 298, 3) := by decide +kernel
theorem dX9_digest_3 : decode cX9_digest 3 = .ok (.lstore_n 1, 1) := by decide +kernel
theorem dX9_digest_4 : decode cX9_digest 4 = .ok (.iconst 0, 1) := by decide +kernel
theorem dX9_digest_5 : decode cX9_digest 5 = .ok (.istore_n 3, 1) := by decide +kernel
theorem dX9_digest_6 : decode cX9_digest 6 = .ok (.iload_n 3, 1) := by decide +kernel
theorem dX9_digest_7 : decode cX9_digest 7 = .ok (.bipush 8, 2) := by decide +kernel
theorem dX9_digest_9 : decode cX9_digest 9 = .ok (.if_icmp .ge 22, 3) := by decide +kernel
theorem dX9_digest_12 : decode cX9_digest 12 = .ok (.ldc2_w 296, 3) := by decide +kernel
theorem dX9_digest_15 : decode cX9_digest 15 = .ok (.lload_n 1, 1) := by decide +kernel
theorem dX9_digest_16 : decode cX9_digest 16 = .ok (.lmul, 1) := by decide +kernel
theorem dX9_digest_17 : decode cX9_digest 17 = .ok (.aload_n 0, 1) := by decide +kernel
theorem dX9_digest_18 : decode cX9_digest 18 = .ok (.iload_n 3, 1) := by decide +kernel
theorem dX9_digest_19 : decode cX9_digest 19 = .ok (.invokevirtual 300, 3) := by decide +kernel
theorem dX9_digest_22 : decode cX9_digest 22 = .ok (.i2l, 1) := by decide +kernel
theorem dX9_digest_23 : decode cX9_digest 23 = .ok (.ladd, 1) := by decide +kernel
theorem dX9_digest_24 : decode cX9_digest 24 = .ok (.lstore_n 1, 1) := by decide +kernel
theorem dX9_digest_25 : decode cX9_digest 25 = .ok (.iinc 3 1, 3) := by decide +kernel
theorem dX9_digest_28 : decode cX9_digest 28 = .ok (.goto (-22), 3) := by decide +kernel
theorem dX9_digest_31 : decode cX9_digest 31 = .ok (.ldc2_w 296, 3) := by decide +kernel
theorem dX9_digest_34 : decode cX9_digest 34 = .ok (.lload_n 1, 1) := by decide +kernel
theorem dX9_digest_35 : decode cX9_digest 35 = .ok (.lmul, 1) := by decide +kernel
theorem dX9_digest_36 : decode cX9_digest 36 = .ok (.aload_n 0, 1) := by decide +kernel
theorem dX9_digest_37 : decode cX9_digest 37 = .ok (.iconst 0, 1) := by decide +kernel
theorem dX9_digest_38 : decode cX9_digest 38 = .ok (.invokevirtual 128, 3) := by decide +kernel
theorem dX9_digest_41 : decode cX9_digest 41 = .ok (.i2l, 1) := by decide +kernel
theorem dX9_digest_42 : decode cX9_digest 42 = .ok (.ladd, 1) := by decide +kernel
theorem dX9_digest_43 : decode cX9_digest 43 = .ok (.lstore_n 1, 1) := by decide +kernel
theorem dX9_digest_44 : decode cX9_digest 44 = .ok (.ldc2_w 296, 3) := by decide +kernel
theorem dX9_digest_47 : decode cX9_digest 47 = .ok (.lload_n 1, 1) := by decide +kernel
theorem dX9_digest_48 : decode cX9_digest 48 = .ok (.lmul, 1) := by decide +kernel
theorem dX9_digest_49 : decode cX9_digest 49 = .ok (.aload_n 0, 1) := by decide +kernel
theorem dX9_digest_50 : decode cX9_digest 50 = .ok (.iconst 1, 1) := by decide +kernel
theorem dX9_digest_51 : decode cX9_digest 51 = .ok (.invokevirtual 128, 3) := by decide +kernel
theorem dX9_digest_54 : decode cX9_digest 54 = .ok (.i2l, 1) := by decide +kernel
theorem dX9_digest_55 : decode cX9_digest 55 = .ok (.ladd, 1) := by decide +kernel
theorem dX9_digest_56 : decode cX9_digest 56 = .ok (.lstore_n 1, 1) := by decide +kernel
theorem dX9_digest_57 : decode cX9_digest 57 = .ok (.aload_n 0, 1) := by decide +kernel
theorem dX9_digest_58 : decode cX9_digest 58 = .ok (.lload_n 1, 1) := by decide +kernel
theorem dX9_digest_59 : decode cX9_digest 59 = .ok (.iconst 0, 1) := by decide +kernel
theorem dX9_digest_60 : decode cX9_digest 60 = .ok (.invokevirtual 303, 3) := by decide +kernel
theorem dX9_digest_63 : decode cX9_digest 63 = .ok (.lstore_n 1, 1) := by decide +kernel
theorem dX9_digest_64 : decode cX9_digest 64 = .ok (.aload_n 0, 1) := by decide +kernel
theorem dX9_digest_65 : decode cX9_digest 65 = .ok (.lload_n 1, 1) := by decide +kernel
theorem dX9_digest_66 : decode cX9_digest 66 = .ok (.iconst 4, 1) := by decide +kernel
theorem dX9_digest_67 : decode cX9_digest 67 = .ok (.invokevirtual 303, 3) := by decide +kernel
theorem dX9_digest_70 : decode cX9_digest 70 = .ok (.lstore_n 1, 1) := by decide +kernel
theorem dX9_digest_71 : decode cX9_digest 71 = .ok (.aload_n 0, 1) := by decide +kernel
theorem dX9_digest_72 : decode cX9_digest 72 = .ok (.lload_n 1, 1) := by decide +kernel
theorem dX9_digest_73 : decode cX9_digest 73 = .ok (.bipush 9, 2) := by decide +kernel
theorem dX9_digest_75 : decode cX9_digest 75 = .ok (.invokevirtual 303, 3) := by decide +kernel
theorem dX9_digest_78 : decode cX9_digest 78 = .ok (.lstore_n 1, 1) := by decide +kernel
theorem dX9_digest_79 : decode cX9_digest 79 = .ok (.aload_n 0, 1) := by decide +kernel
theorem dX9_digest_80 : decode cX9_digest 80 = .ok (.lload_n 1, 1) := by decide +kernel
theorem dX9_digest_81 : decode cX9_digest 81 = .ok (.bipush 19, 2) := by decide +kernel
theorem dX9_digest_83 : decode cX9_digest 83 = .ok (.invokevirtual 303, 3) := by decide +kernel
theorem dX9_digest_86 : decode cX9_digest 86 = .ok (.lstore_n 1, 1) := by decide +kernel
theorem dX9_digest_87 : decode cX9_digest 87 = .ok (.iconst 0, 1) := by decide +kernel
theorem dX9_digest_88 : decode cX9_digest 88 = .ok (.istore_n 3, 1) := by decide +kernel
theorem dX9_digest_89 : decode cX9_digest 89 = .ok (.iload_n 3, 1) := by decide +kernel
theorem dX9_digest_90 : decode cX9_digest 90 = .ok (.aload_n 0, 1) := by decide +kernel
theorem dX9_digest_91 : decode cX9_digest 91 = .ok (.getfield 114, 3) := by decide +kernel
theorem dX9_digest_94 : decode cX9_digest 94 = .ok (.if_icmp .ge 16, 3) := by decide +kernel
theorem dX9_digest_97 : decode cX9_digest 97 = .ok (.aload_n 0, 1) := by decide +kernel
theorem dX9_digest_98 : decode cX9_digest 98 = .ok (.lload_n 1, 1) := by decide +kernel
theorem dX9_digest_99 : decode cX9_digest 99 = .ok (.iload_n 3, 1) := by decide +kernel
theorem dX9_digest_100 : decode cX9_digest 100 = .ok (.invokevirtual 307, 3) := by decide +kernel
theorem dX9_digest_103 : decode cX9_digest 103 = .ok (.lstore_n 1, 1) := by decide +kernel
theorem dX9_digest_104 : decode cX9_digest 104 = .ok (.iinc 3 1, 3) := by decide +kernel
theorem dX9_digest_107 : decode cX9_digest 107 = .ok (.goto (-18), 3) := by decide +kernel
theorem dX9_digest_110 : decode cX9_digest 110 = .ok (.ldc2_w 296, 3) := by decide +kernel
theorem dX9_digest_113 : decode cX9_digest 113 = .ok (.lload_n 1, 1) := by decide +kernel
theorem dX9_digest_114 : decode cX9_digest 114 = .ok (.lmul, 1) := by decide +kernel
theorem dX9_digest_115 : decode cX9_digest 115 = .ok (.aload_n 0, 1) := by decide +kernel
theorem dX9_digest_116 : decode cX9_digest 116 = .ok (.iconst 0, 1) := by decide +kernel
theorem dX9_digest_117 : decode cX9_digest 117 = .ok (.invokevirtual 223, 3) := by decide +kernel
theorem dX9_digest_120 : decode cX9_digest 120 = .ok (.i2l, 1) := by decide +kernel
theorem dX9_digest_121 : decode cX9_digest 121 = .ok (.ladd, 1) := by decide +kernel
theorem dX9_digest_122 : decode cX9_digest 122 = .ok (.lstore_n 1, 1) := by decide +kernel
theorem dX9_digest_123 : decode cX9_digest 123 = .ok (.ldc2_w 296, 3) := by decide +kernel
theorem dX9_digest_126 : decode cX9_digest 126 = .ok (.lload_n 1, 1) := by decide +kernel
theorem dX9_digest_127 : decode cX9_digest 127 = .ok (.lmul, 1) := by decide +kernel
theorem dX9_digest_128 : decode cX9_digest 128 = .ok (.aload_n 0, 1) := by decide +kernel
theorem dX9_digest_129 : decode cX9_digest 129 = .ok (.iconst 1, 1) := by decide +kernel
theorem dX9_digest_130 : decode cX9_digest 130 = .ok (.invokevirtual 223, 3) := by decide +kernel
theorem dX9_digest_133 : decode cX9_digest 133 = .ok (.i2l, 1) := by decide +kernel
theorem dX9_digest_134 : decode cX9_digest 134 = .ok (.ladd, 1) := by decide +kernel
theorem dX9_digest_135 : decode cX9_digest 135 = .ok (.lstore_n 1, 1) := by decide +kernel
theorem dX9_digest_136 : decode cX9_digest 136 = .ok (.ldc2_w 296, 3) := by decide +kernel
theorem dX9_digest_139 : decode cX9_digest 139 = .ok (.lload_n 1, 1) := by decide +kernel
theorem dX9_digest_140 : decode cX9_digest 140 = .ok (.lmul, 1) := by decide +kernel
theorem dX9_digest_141 : decode cX9_digest 141 = .ok (.aload_n 0, 1) := by decide +kernel
theorem dX9_digest_142 : decode cX9_digest 142 = .ok (.invokevirtual 226, 3) := by decide +kernel
theorem dX9_digest_145 : decode cX9_digest 145 = .ok (.i2l, 1) := by decide +kernel
theorem dX9_digest_146 : decode cX9_digest 146 = .ok (.ladd, 1) := by decide +kernel
theorem dX9_digest_147 : decode cX9_digest 147 = .ok (.lstore_n 1, 1) := by decide +kernel
theorem dX9_digest_148 : decode cX9_digest 148 = .ok (.ldc2_w 296, 3) := by decide +kernel
theorem dX9_digest_151 : decode cX9_digest 151 = .ok (.lload_n 1, 1) := by decide +kernel
theorem dX9_digest_152 : decode cX9_digest 152 = .ok (.lmul, 1) := by decide +kernel
theorem dX9_digest_153 : decode cX9_digest 153 = .ok (.aload_n 0, 1) := by decide +kernel
theorem dX9_digest_154 : decode cX9_digest 154 = .ok (.iconst 0, 1) := by decide +kernel
theorem dX9_digest_155 : decode cX9_digest 155 = .ok (.invokevirtual 235, 3) := by decide +kernel
theorem dX9_digest_158 : decode cX9_digest 158 = .ok (.i2l, 1) := by decide +kernel
theorem dX9_digest_159 : decode cX9_digest 159 = .ok (.ladd, 1) := by decide +kernel
theorem dX9_digest_160 : decode cX9_digest 160 = .ok (.lstore_n 1, 1) := by decide +kernel
theorem dX9_digest_161 : decode cX9_digest 161 = .ok (.ldc2_w 296, 3) := by decide +kernel
theorem dX9_digest_164 : decode cX9_digest 164 = .ok (.lload_n 1, 1) := by decide +kernel
theorem dX9_digest_165 : decode cX9_digest 165 = .ok (.lmul, 1) := by decide +kernel
theorem dX9_digest_166 : decode cX9_digest 166 = .ok (.aload_n 0, 1) := by decide +kernel
theorem dX9_digest_167 : decode cX9_digest 167 = .ok (.iconst 1, 1) := by decide +kernel
theorem dX9_digest_168 : decode cX9_digest 168 = .ok (.invokevirtual 235, 3) := by decide +kernel
theorem dX9_digest_171 : decode cX9_digest 171 = .ok (.i2l, 1) := by decide +kernel
theorem dX9_digest_172 : decode cX9_digest 172 = .ok (.ladd, 1) := by decide +kernel
theorem dX9_digest_173 : decode cX9_digest 173 = .ok (.lstore_n 1, 1) := by decide +kernel
theorem dX9_digest_174 : decode cX9_digest 174 = .ok (.ldc2_w 296, 3) := by decide +kernel
theorem dX9_digest_177 : decode cX9_digest 177 = .ok (.lload_n 1, 1) := by decide +kernel
theorem dX9_digest_178 : decode cX9_digest 178 = .ok (.lmul, 1) := by decide +kernel
theorem dX9_digest_179 : decode cX9_digest 179 = .ok (.aload_n 0, 1) := by decide +kernel
theorem dX9_digest_180 : decode cX9_digest 180 = .ok (.iconst 0, 1) := by decide +kernel
theorem dX9_digest_181 : decode cX9_digest 181 = .ok (.invokevirtual 244, 3) := by decide +kernel
theorem dX9_digest_184 : decode cX9_digest 184 = .ok (.i2l, 1) := by decide +kernel
theorem dX9_digest_185 : decode cX9_digest 185 = .ok (.ladd, 1) := by decide +kernel
theorem dX9_digest_186 : decode cX9_digest 186 = .ok (.lstore_n 1, 1) := by decide +kernel
theorem dX9_digest_187 : decode cX9_digest 187 = .ok (.ldc2_w 296, 3) := by decide +kernel
theorem dX9_digest_190 : decode cX9_digest 190 = .ok (.lload_n 1, 1) := by decide +kernel
theorem dX9_digest_191 : decode cX9_digest 191 = .ok (.lmul, 1) := by decide +kernel
theorem dX9_digest_192 : decode cX9_digest 192 = .ok (.aload_n 0, 1) := by decide +kernel
theorem dX9_digest_193 : decode cX9_digest 193 = .ok (.iconst 1, 1) := by decide +kernel
theorem dX9_digest_194 : decode cX9_digest 194 = .ok (.invokevirtual 244, 3) := by decide +kernel
theorem dX9_digest_197 : decode cX9_digest 197 = .ok (.i2l, 1) := by decide +kernel
theorem dX9_digest_198 : decode cX9_digest 198 = .ok (.ladd, 1) := by decide +kernel
theorem dX9_digest_199 : decode cX9_digest 199 = .ok (.lstore_n 1, 1) := by decide +kernel
theorem dX9_digest_200 : decode cX9_digest 200 = .ok (.ldc2_w 296, 3) := by decide +kernel
theorem dX9_digest_203 : decode cX9_digest 203 = .ok (.lload_n 1, 1) := by decide +kernel
theorem dX9_digest_204 : decode cX9_digest 204 = .ok (.lmul, 1) := by decide +kernel
theorem dX9_digest_205 : decode cX9_digest 205 = .ok (.aload_n 0, 1) := by decide +kernel
theorem dX9_digest_206 : decode cX9_digest 206 = .ok (.invokevirtual 254, 3) := by decide +kernel
theorem dX9_digest_209 : decode cX9_digest 209 = .ok (.i2l, 1) := by decide +kernel
theorem dX9_digest_210 : decode cX9_digest 210 = .ok (.ladd, 1) := by decide +kernel
theorem dX9_digest_211 : decode cX9_digest 211 = .ok (.lstore_n 1, 1) := by decide +kernel
theorem dX9_digest_212 : decode cX9_digest 212 = .ok (.ldc2_w 296, 3) := by decide +kernel
theorem dX9_digest_215 : decode cX9_digest 215 = .ok (.lload_n 1, 1) := by decide +kernel
theorem dX9_digest_216 : decode cX9_digest 216 = .ok (.lmul, 1) := by decide +kernel
theorem dX9_digest_217 : decode cX9_digest 217 = .ok (.aload_n 0, 1) := by decide +kernel
theorem dX9_digest_218 : decode cX9_digest 218 = .ok (.iconst 0, 1) := by decide +kernel
theorem dX9_digest_219 : decode cX9_digest 219 = .ok (.invokevirtual 263, 3) := by decide +kernel
theorem dX9_digest_222 : decode cX9_digest 222 = .ok (.i2l, 1) := by decide +kernel
theorem dX9_digest_223 : decode cX9_digest 223 = .ok (.ladd, 1) := by decide +kernel
theorem dX9_digest_224 : decode cX9_digest 224 = .ok (.lstore_n 1, 1) := by decide +kernel
theorem dX9_digest_225 : decode cX9_digest 225 = .ok (.ldc2_w 296, 3) := by decide +kernel
theorem dX9_digest_228 : decode cX9_digest 228 = .ok (.lload_n 1, 1) := by decide +kernel
theorem dX9_digest_229 : decode cX9_digest 229 = .ok (.lmul, 1) := by decide +kernel
theorem dX9_digest_230 : decode cX9_digest 230 = .ok (.aload_n 0, 1) := by decide +kernel
theorem dX9_digest_231 : decode cX9_digest 231 = .ok (.bipush 7, 2) := by decide +kernel
theorem dX9_digest_233 : decode cX9_digest 233 = .ok (.invokevirtual 263, 3) := by decide +kernel
theorem dX9_digest_236 : decode cX9_digest 236 = .ok (.i2l, 1) := by decide +kernel
theorem dX9_digest_237 : decode cX9_digest 237 = .ok (.ladd, 1) := by decide +kernel
theorem dX9_digest_238 : decode cX9_digest 238 = .ok (.lstore_n 1, 1) := by decide +kernel
theorem dX9_digest_239 : decode cX9_digest 239 = .ok (.ldc2_w 296, 3) := by decide +kernel
theorem dX9_digest_242 : decode cX9_digest 242 = .ok (.lload_n 1, 1) := by decide +kernel
theorem dX9_digest_243 : decode cX9_digest 243 = .ok (.lmul, 1) := by decide +kernel
theorem dX9_digest_244 : decode cX9_digest 244 = .ok (.aload_n 0, 1) := by decide +kernel
theorem dX9_digest_245 : decode cX9_digest 245 = .ok (.iconst 5, 1) := by decide +kernel
theorem dX9_digest_246 : decode cX9_digest 246 = .ok (.bipush 7, 2) := by decide +kernel
theorem dX9_digest_248 : decode cX9_digest 248 = .ok (.bipush 9, 2) := by decide +kernel
theorem dX9_digest_250 : decode cX9_digest 250 = .ok (.iconst 0, 1) := by decide +kernel
theorem dX9_digest_251 : decode cX9_digest 251 = .ok (.invokevirtual 270, 3) := by decide +kernel
theorem dX9_digest_254 : decode cX9_digest 254 = .ok (.ladd, 1) := by decide +kernel
theorem dX9_digest_255 : decode cX9_digest 255 = .ok (.lstore_n 1, 1) := by decide +kernel
theorem dX9_digest_256 : decode cX9_digest 256 = .ok (.ldc2_w 296, 3) := by decide +kernel
theorem dX9_digest_259 : decode cX9_digest 259 = .ok (.lload_n 1, 1) := by decide +kernel
theorem dX9_digest_260 : decode cX9_digest 260 = .ok (.lmul, 1) := by decide +kernel
theorem dX9_digest_261 : decode cX9_digest 261 = .ok (.aload_n 0, 1) := by decide +kernel
theorem dX9_digest_262 : decode cX9_digest 262 = .ok (.iconst 5, 1) := by decide +kernel
theorem dX9_digest_263 : decode cX9_digest 263 = .ok (.bipush 7, 2) := by decide +kernel
theorem dX9_digest_265 : decode cX9_digest 265 = .ok (.bipush 9, 2) := by decide +kernel
theorem dX9_digest_267 : decode cX9_digest 267 = .ok (.iconst 1, 1) := by decide +kernel
theorem dX9_digest_268 : decode cX9_digest 268 = .ok (.invokevirtual 270, 3) := by decide +kernel
theorem dX9_digest_271 : decode cX9_digest 271 = .ok (.ladd, 1) := by decide +kernel
theorem dX9_digest_272 : decode cX9_digest 272 = .ok (.lstore_n 1, 1) := by decide +kernel
theorem dX9_digest_273 : decode cX9_digest 273 = .ok (.ldc2_w 296, 3) := by decide +kernel
theorem dX9_digest_276 : decode cX9_digest 276 = .ok (.lload_n 1, 1) := by decide +kernel
theorem dX9_digest_277 : decode cX9_digest 277 = .ok (.lmul, 1) := by decide +kernel
theorem dX9_digest_278 : decode cX9_digest 278 = .ok (.aload_n 0, 1) := by decide +kernel
theorem dX9_digest_279 : decode cX9_digest 279 = .ok (.bipush 7, 2) := by decide +kernel
theorem dX9_digest_281 : decode cX9_digest 281 = .ok (.bipush 15, 2) := by decide +kernel
theorem dX9_digest_283 : decode cX9_digest 283 = .ok (.iconst 0, 1) := by decide +kernel
theorem dX9_digest_284 : decode cX9_digest 284 = .ok (.invokevirtual 279, 3) := by decide +kernel
theorem dX9_digest_287 : decode cX9_digest 287 = .ok (.i2l, 1) := by decide +kernel
theorem dX9_digest_288 : decode cX9_digest 288 = .ok (.ladd, 1) := by decide +kernel
theorem dX9_digest_289 : decode cX9_digest 289 = .ok (.lstore_n 1, 1) := by decide +kernel
theorem dX9_digest_290 : decode cX9_digest 290 = .ok (.ldc2_w 296, 3) := by decide +kernel
theorem dX9_digest_293 : decode cX9_digest 293 = .ok (.lload_n 1, 1) := by decide +kernel
theorem dX9_digest_294 : decode cX9_digest 294 = .ok (.lmul, 1) := by decide +kernel
theorem dX9_digest_295 : decode cX9_digest 295 = .ok (.aload_n 0, 1) := by decide +kernel
theorem dX9_digest_296 : decode cX9_digest 296 = .ok (.bipush 7, 2) := by decide +kernel
theorem dX9_digest_298 : decode cX9_digest 298 = .ok (.bipush 15, 2) := by decide +kernel
theorem dX9_digest_300 : decode cX9_digest 300 = .ok (.iconst 1, 1) := by decide +kernel
theorem dX9_digest_301 : decode cX9_digest 301 = .ok (.invokevirtual 279, 3) := by decide +kernel
theorem dX9_digest_304 : decode cX9_digest 304 = .ok (.i2l, 1) := by decide +kernel
theorem dX9_digest_305 : decode cX9_digest 305 = .ok (.ladd, 1) := by decide +kernel
theorem dX9_digest_306 : decode cX9_digest 306 = .ok (.lreturn, 1) := by decide +kernel
