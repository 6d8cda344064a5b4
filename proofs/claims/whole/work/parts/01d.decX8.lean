theorem dX8_init_0 : decode cX8_init 0 = .ok (.aload_n 0, 1) := by decide +kernel
theorem dX8_init_1 : decode cX8_init 1 = .ok (.invokespecial 1, 3) := by decide +kernel
theorem dX8_init_4 : decode cX8_init 4 = .ok (.aload_n 0, 1) := by decide +kernel
theorem dX8_init_5 : decode cX8_init 5 = .ok (.new 7, 3) := by decide +kernel
theorem dX8_init_8 : decode cX8_init 8 = .ok (.dup, 1) := by decide +kernel
theorem dX8_init_9 : decode cX8_init 9 = .ok (.bipush 20, 2) := by decide +kernel
theorem dX8_init_11 : decode cX8_init 11 = .ok (.invokespecial 11, 3) := by decide +kernel
theorem dX8_init_14 : decode cX8_init 14 = .ok (.putfield 14, 3) := by decide +kernel
theorem dX8_init_17 : decode cX8_init 17 = .ok (.aload_n 0, 1) := by decide +kernel
theorem dX8_init_18 : decode cX8_init 18 = .ok (.new 7, 3) := by decide +kernel
theorem dX8_init_21 : decode cX8_init 21 = .ok (.dup, 1) := by decide +kernel
theorem dX8_init_22 : decode cX8_init 22 = .ok (.bipush 55, 2) := by decide +kernel
theorem dX8_init_24 : decode cX8_init 24 = .ok (.invokespecial 11, 3) := by decide +kernel
theorem dX8_init_27 : decode cX8_init 27 = .ok (.putfield 18, 3) := by decide +kernel
theorem dX8_init_30 : decode cX8_init 30 = .ok (.aload_n 0, 1) := by decide +kernel
theorem dX8_init_31 : decode cX8_init 31 = .ok (.bipush 20, 2) := by decide +kernel
theorem dX8_init_33 : decode cX8_init 33 = .ok (.newarray .int, 2) := by decide +kernel
theorem dX8_init_35 : decode cX8_init 35 = .ok (.putfield 21, 3) := by decide +kernel
theorem dX8_init_38 : decode cX8_init 38 = .ok (.aload_n 0, 1) := by decide +kernel
theorem dX8_init_39 : decode cX8_init 39 = .ok (.bipush 20, 2) := by decide +kernel
theorem dX8_init_41 : decode cX8_init 41 = .ok (.newarray .int, 2) := by decide +kernel
theorem dX8_init_43 : decode cX8_init 43 = .ok (.putfield 25, 3) := by decide +kernel
theorem dX8_init_46 : decode cX8_init 46 = .ok (.aload_n 0, 1) := by decide +kernel
theorem dX8_init_47 : decode cX8_init 47 = .ok (.new 28, 3) := by decide +kernel
theorem dX8_init_50 : decode cX8_init 50 = .ok (.dup, 1) := by decide +kernel
theorem dX8_init_51 : decode cX8_init 51 = .ok (.invokespecial 30, 3) := by decide +kernel
theorem dX8_init_54 : decode cX8_init 54 = .ok (.putfield 31, 3) := by decide +kernel
theorem dX8_init_57 : decode cX8_init 57 = .ok (.aload_n 0, 1) := by decide +kernel
theorem dX8_init_58 : decode cX8_init 58 = .ok (.new 35, 3) := by decide +kernel
theorem dX8_init_61 : decode cX8_init 61 = .ok (.dup, 1) := by decide +kernel
theorem dX8_init_62 : decode cX8_init 62 = .ok (.invokespecial 37, 3) := by decide +kernel
theorem dX8_init_65 : decode cX8_init 65 = .ok (.putfield 38, 3) := by decide +kernel
theorem dX8_init_68 : decode cX8_init 68 = .ok (.aload_n 0, 1) := by decide +kernel
theorem dX8_init_69 : decode cX8_init 69 = .ok (.new 42, 3) := by decide +kernel
theorem dX8_init_72 : decode cX8_init 72 = .ok (.dup, 1) := by decide +kernel
theorem dX8_init_73 : decode cX8_init 73 = .ok (.invokespecial 44, 3) := by decide +kernel
theorem dX8_init_76 : decode cX8_init 76 = .ok (.putfield 45, 3) := by decide +kernel
theorem dX8_init_79 : decode cX8_init 79 = .ok (.aload_n 0, 1) := by decide +kernel
theorem dX8_init_80 : decode cX8_init 80 = .ok (.new 35, 3) := by decide +kernel
theorem dX8_init_83 : decode cX8_init 83 = .ok (.dup, 1) := by decide +kernel
theorem dX8_init_84 : decode cX8_init 84 = .ok (.invokespecial 37, 3) := by decide +kernel
theorem dX8_init_87 : decode cX8_init 87 = .ok (.putfield 49, 3) := by decide +kernel
theorem dX8_init_90 : decode cX8_init 90 = .ok (.aload_n 0, 1) := by decide +kernel
theorem dX8_init_91 : decode cX8_init 91 = .ok (.new 42, 3) := by decide +kernel
theorem dX8_init_94 : decode cX8_init 94 = .ok (.dup, 1) := by decide +kernel
theorem dX8_init_95 : decode cX8_init 95 = .ok (.invokespecial 44, 3) := by decide +kernel
theorem dX8_init_98 : decode cX8_init 98 = .ok (.putfield 52, 3) := by decide +kernel
theorem dX8_init_101 : decode cX8_init 101 = .ok (.aload_n 0, 1) := by decide +kernel
theorem dX8_init_102 : decode cX8_init 102 = .ok (.new 55, 3) := by decide +kernel
theorem dX8_init_105 : decode cX8_init 105 = .ok (.dup, 1) := by decide +kernel
theorem dX8_init_106 : decode cX8_init 106 = .ok (.invokespecial 57, 3) := by decide +kernel
theorem dX8_init_109 : decode cX8_init 109 = .ok (.putfield 58, 3) := by decide +kernel
theorem dX8_init_112 : decode cX8_init 112 = .ok (.aload_n 0, 1) := by decide +kernel
theorem dX8_init_113 : decode cX8_init 113 = .ok (.new 62, 3) := by decide +kernel
theorem dX8_init_116 : decode cX8_init 116 = .ok (.dup, 1) := by decide +kernel
theorem dX8_init_117 : decode cX8_init 117 = .ok (.invokespecial 64, 3) := by decide +kernel
theorem dX8_init_120 : decode cX8_init 120 = .ok (.putfield 65, 3) := by decide +kernel
theorem dX8_init_123 : decode cX8_init 123 = .ok (.aload_n 0, 1) := by decide +kernel
theorem dX8_init_124 : decode cX8_init 124 = .ok (.new 69, 3) := by decide +kernel
theorem dX8_init_127 : decode cX8_init 127 = .ok (.dup, 1) := by decide +kernel
theorem dX8_init_128 : decode cX8_init 128 = .ok (.invokespecial 71, 3) := by decide +kernel
theorem dX8_init_131 : decode cX8_init 131 = .ok (.putfield 72, 3) := by decide +kernel
theorem dX8_init_134 : decode cX8_init 134 = .ok (.aload_n 0, 1) := by decide +kernel
theorem dX8_init_135 : decode cX8_init 135 = .ok (.iconst 4, 1) := by decide +kernel
theorem dX8_init_136 : decode cX8_init 136 = .ok (.anewarray 76, 3) := by decide +kernel
theorem dX8_init_139 : decode cX8_init 139 = .ok (.putfield 78, 3) := by decide +kernel
theorem dX8_init_142 : decode cX8_init 142 = .ok (.aload_n 0, 1) := by decide +kernel
theorem dX8_init_143 : decode cX8_init 143 = .ok (.sipush 160, 3) := by decide +kernel
theorem dX8_init_146 : decode cX8_init 146 = .ok (.newarray .int, 2) := by decide +kernel
theorem dX8_init_148 : decode cX8_init 148 = .ok (.putfield 82, 3) := by decide +kernel
theorem dX8_init_151 : decode cX8_init 151 = .ok (.aload_n 0, 1) := by decide +kernel
theorem dX8_init_152 : decode cX8_init 152 = .ok (.iconst 0, 1) := by decide +kernel
theorem dX8_init_153 : decode cX8_init 153 = .ok (.putfield 85, 3) := by decide +kernel
theorem dX8_init_156 : decode cX8_init 156 = .ok (.aload_n 0, 1) := by decide +kernel
theorem dX8_init_157 : decode cX8_init 157 = .ok (.iconst 3, 1) := by decide +kernel
theorem dX8_init_158 : decode cX8_init 158 = .ok (.putfield 89, 3) := by decide +kernel
theorem dX8_init_161 : decode cX8_init 161 = .ok (.aload_n 0, 1) := by decide +kernel
theorem dX8_init_162 : decode cX8_init 162 = .ok (.iconst 0, 1) := by decide +kernel
theorem dX8_init_163 : decode cX8_init 163 = .ok (.putfield 92, 3) := by decide +kernel
theorem dX8_init_166 : decode cX8_init 166 = .ok (.aload_n 0, 1) := by decide +kernel
theorem dX8_init_167 : decode cX8_init 167 = .ok (.iconst 1, 1) := by decide +kernel
theorem dX8_init_168 : decode cX8_init 168 = .ok (.putfield 95, 3) := by decide +kernel
theorem dX8_init_171 : decode cX8_init 171 = .ok (.iconst 0, 1) := by decide +kernel
theorem dX8_init_172 : decode cX8_init 172 = .ok (.istore_n 1, 1) := by decide +kernel
theorem dX8_init_173 : decode cX8_init 173 = .ok (.iload_n 1, 1) := by decide +kernel
theorem dX8_init_174 : decode cX8_init 174 = .ok (.iconst 4, 1) := by decide +kernel
theorem dX8_init_175 : decode cX8_init 175 = .ok (.if_icmp .ge 22, 3) := by decide +kernel
theorem dX8_init_178 : decode cX8_init 178 = .ok (.aload_n 0, 1) := by decide +kernel
theorem dX8_init_179 : decode cX8_init 179 = .ok (.getfield 78, 3) := by decide +kernel
theorem dX8_init_182 : decode cX8_init 182 = .ok (.iload_n 1, 1) := by decide +kernel
theorem dX8_init_183 : decode cX8_init 183 = .ok (.new 76, 3) := by decide +kernel
theorem dX8_init_186 : decode cX8_init 186 = .ok (.dup, 1) := by decide +kernel
theorem dX8_init_187 : decode cX8_init 187 = .ok (.invokespecial 99, 3) := by decide +kernel
theorem dX8_init_190 : decode cX8_init 190 = .ok (.aastore, 1) := by decide +kernel
theorem dX8_init_191 : decode cX8_init 191 = .ok (.iinc 1 1, 3) := by decide +kernel
theorem dX8_init_194 : decode cX8_init 194 = .ok (.goto (-21), 3) := by decide +kernel
theorem dX8_init_197 : decode cX8_init 197 = .ok (.return_, 1) := by decide +kernel
theorem dX8_type_0 : decode cX8_type 0 = .ok (.iload_n 1, 1) := by decide +kernel
theorem dX8_type_1 : decode cX8_type 1 = .ok (.invokestatic 100, 3) := by decide +kernel
theorem dX8_type_4 : decode cX8_type 4 = .ok (.ifCond .eq 14, 3) := by decide +kernel
theorem dX8_type_7 : decode cX8_type 7 = .ok (.iload_n 2, 1) := by decide +kernel
theorem dX8_type_8 : decode cX8_type 8 = .ok (.ifCond .lt 10, 3) := by decide +kernel
theorem dX8_type_11 : decode cX8_type 11 = .ok (.iload_n 2, 1) := by decide +kernel
theorem dX8_type_12 : decode cX8_type 12 = .ok (.sipush 255, 3) := by decide +kernel
theorem dX8_type_15 : decode cX8_type 15 = .ok (.if_icmp .le 6, 3) := by decide +kernel
theorem dX8_type_18 : decode cX8_type 18 = .ok (.bipush (-2), 2) := by decide +kernel
theorem dX8_type_20 : decode cX8_type 20 = .ok (.ireturn, 1) := by decide +kernel
theorem dX8_type_21 : decode cX8_type 21 = .ok (.aload_n 0, 1) := by decide +kernel
theorem dX8_type_22 : decode cX8_type 22 = .ok (.iload_n 1, 1) := by decide +kernel
theorem dX8_type_23 : decode cX8_type 23 = .ok (.invokevirtual 104, 3) := by decide +kernel
theorem dX8_type_26 : decode cX8_type 26 = .ok (.astore_n 3, 1) := by decide +kernel
theorem dX8_type_27 : decode cX8_type 27 = .ok (.aload_n 3, 1) := by decide +kernel
theorem dX8_type_28 : decode cX8_type 28 = .ok (.iload_n 2, 1) := by decide +kernel
theorem dX8_type_29 : decode cX8_type 29 = .ok (.invokevirtual 108, 3) := by decide +kernel
theorem dX8_type_32 : decode cX8_type 32 = .ok (.ifCond .ne 6, 3) := by decide +kernel
theorem dX8_type_35 : decode cX8_type 35 = .ok (.bipush (-4), 2) := by decide +kernel
theorem dX8_type_37 : decode cX8_type 37 = .ok (.ireturn, 1) := by decide +kernel
theorem dX8_type_38 : decode cX8_type 38 = .ok (.aload_n 0, 1) := by decide +kernel
theorem dX8_type_39 : decode cX8_type 39 = .ok (.iconst 1, 1) := by decide +kernel
theorem dX8_type_40 : decode cX8_type 40 = .ok (.putfield 95, 3) := by decide +kernel
theorem dX8_type_43 : decode cX8_type 43 = .ok (.aload_n 3, 1) := by decide +kernel
theorem dX8_type_44 : decode cX8_type 44 = .ok (.getfield 111, 3) := by decide +kernel
theorem dX8_type_47 : decode cX8_type 47 = .ok (.ireturn, 1) := by decide +kernel
theorem dX8_wipe_0 : decode cX8_wipe 0 = .ok (.iload_n 1, 1) := by decide +kernel
theorem dX8_wipe_1 : decode cX8_wipe 1 = .ok (.invokestatic 100, 3) := by decide +kernel
theorem dX8_wipe_4 : decode cX8_wipe 4 = .ok (.ifCond .ne 6, 3) := by decide +kernel
theorem dX8_wipe_7 : decode cX8_wipe 7 = .ok (.bipush (-2), 2) := by decide +kernel
theorem dX8_wipe_9 : decode cX8_wipe 9 = .ok (.ireturn, 1) := by decide +kernel
theorem dX8_wipe_10 : decode cX8_wipe 10 = .ok (.aload_n 0, 1) := by decide +kernel
theorem dX8_wipe_11 : decode cX8_wipe 11 = .ok (.iload_n 1, 1) := by decide +kernel
theorem dX8_wipe_12 : decode cX8_wipe 12 = .ok (.invokevirtual 104, 3) := by decide +kernel
theorem dX8_wipe_15 : decode cX8_wipe 15 = .ok (.astore_n 2, 1) := by decide +kernel
theorem dX8_wipe_16 : decode cX8_wipe 16 = .ok (.aload_n 2, 1) := by decide +kernel
theorem dX8_wipe_17 : decode cX8_wipe 17 = .ok (.getfield 111, 3) := by decide +kernel
theorem dX8_wipe_20 : decode cX8_wipe 20 = .ok (.istore_n 3, 1) := by decide +kernel
theorem dX8_wipe_21 : decode cX8_wipe 21 = .ok (.aload_n 2, 1) := by decide +kernel
theorem dX8_wipe_22 : decode cX8_wipe 22 = .ok (.iconst 0, 1) := by decide +kernel
theorem dX8_wipe_23 : decode cX8_wipe 23 = .ok (.putfield 111, 3) := by decide +kernel
theorem dX8_wipe_26 : decode cX8_wipe 26 = .ok (.aload_n 0, 1) := by decide +kernel
theorem dX8_wipe_27 : decode cX8_wipe 27 = .ok (.iconst 1, 1) := by decide +kernel
theorem dX8_wipe_28 : decode cX8_wipe 28 = .ok (.putfield 95, 3) := by decide +kernel
theorem dX8_wipe_31 : decode cX8_wipe 31 = .ok (.iload_n 3, 1) := by decide +kernel
theorem dX8_wipe_32 : decode cX8_wipe 32 = .ok (.ireturn, 1) := by decide +kernel
theorem dX8_undo_0 : decode cX8_undo 0 = .ok (.iload_n 1, 1) := by decide +kernel
theorem dX8_undo_1 : decode cX8_undo 1 = .ok (.invokestatic 100, 3) := by decide +kernel
theorem dX8_undo_4 : decode cX8_undo 4 = .ok (.ifCond .ne 6, 3) := by decide +kernel
theorem dX8_undo_7 : decode cX8_undo 7 = .ok (.bipush (-2), 2) := by decide +kernel
theorem dX8_undo_9 : decode cX8_undo 9 = .ok (.ireturn, 1) := by decide +kernel
theorem dX8_undo_10 : decode cX8_undo 10 = .ok (.aload_n 0, 1) := by decide +kernel
theorem dX8_undo_11 : decode cX8_undo 11 = .ok (.iload_n 1, 1) := by decide +kernel
theorem dX8_undo_12 : decode cX8_undo 12 = .ok (.invokevirtual 104, 3) := by decide +kernel
theorem dX8_undo_15 : decode cX8_undo 15 = .ok (.astore_n 2, 1) := by decide +kernel
theorem dX8_undo_16 : decode cX8_undo 16 = .ok (.aload_n 2, 1) := by decide +kernel
theorem dX8_undo_17 : decode cX8_undo 17 = .ok (.getfield 111, 3) := by decide +kernel
theorem dX8_undo_20 : decode cX8_undo 20 = .ok (.ifCond .ne 6, 3) := by decide +kernel
theorem dX8_undo_23 : decode cX8_undo 23 = .ok (.bipush (-3), 2) := by decide +kernel
theorem dX8_undo_25 : decode cX8_undo 25 = .ok (.ireturn, 1) := by decide +kernel
theorem dX8_undo_26 : decode cX8_undo 26 = .ok (.aload_n 2, 1) := by decide +kernel
theorem dX8_undo_27 : decode cX8_undo 27 = .ok (.dup, 1) := by decide +kernel
theorem dX8_undo_28 : decode cX8_undo 28 = .ok (.getfield 111, 3) := by decide +kernel
theorem dX8_undo_31 : decode cX8_undo 31 = .ok (.iconst 1, 1) := by decide +kernel
theorem dX8_undo_32 : decode cX8_undo 32 = .ok (.isub, 1) := by decide +kernel
theorem dX8_undo_33 : decode cX8_undo 33 = .ok (.putfield 111, 3) := by decide +kernel
theorem dX8_undo_36 : decode cX8_undo 36 = .ok (.aload_n 0, 1) := by decide +kernel
theorem dX8_undo_37 : decode cX8_undo 37 = .ok (.iconst 1, 1) := by decide +kernel
theorem dX8_undo_38 : decode cX8_undo 38 = .ok (.putfield 95, 3) := by decide +kernel
theorem dX8_undo_41 : decode cX8_undo 41 = .ok (.aload_n 2, 1) := by decide +kernel
theorem dX8_undo_42 : decode cX8_undo 42 = .ok (.getfield 111, 3) := by decide +kernel
theorem dX8_undo_45 : decode cX8_undo 45 = .ok (.ireturn, 1) := by decide +kernel
theorem dX8_fault_0 : decode cX8_fault 0 = .ok (.iload_n 1, 1) := by decide +kernel
theorem dX8_fault_1 : decode cX8_fault 1 = .ok (.invokestatic 100, 3) := by decide +kernel
theorem dX8_fault_4 : decode cX8_fault 4 = .ok (.ifCond .ne 6, 3) := by decide +kernel
theorem dX8_fault_7 : decode cX8_fault 7 = .ok (.bipush (-2), 2) := by decide +kernel
theorem dX8_fault_9 : decode cX8_fault 9 = .ok (.ireturn, 1) := by decide +kernel
theorem dX8_fault_10 : decode cX8_fault 10 = .ok (.iload_n 1, 1) := by decide +kernel
theorem dX8_fault_11 : decode cX8_fault 11 = .ok (.ifCond .ne 10, 3) := by decide +kernel
theorem dX8_fault_14 : decode cX8_fault 14 = .ok (.aload_n 0, 1) := by decide +kernel
theorem dX8_fault_15 : decode cX8_fault 15 = .ok (.invokevirtual 114, 3) := by decide +kernel
theorem dX8_fault_18 : decode cX8_fault 18 = .ok (.goto 7, 3) := by decide +kernel
theorem dX8_fault_21 : decode cX8_fault 21 = .ok (.aload_n 0, 1) := by decide +kernel
theorem dX8_fault_22 : decode cX8_fault 22 = .ok (.invokevirtual 118, 3) := by decide +kernel
theorem dX8_fault_25 : decode cX8_fault 25 = .ok (.ireturn, 1) := by decide +kernel
theorem dX8_damp_0 : decode cX8_damp 0 = .ok (.iload_n 1, 1) := by decide +kernel
theorem dX8_damp_1 : decode cX8_damp 1 = .ok (.invokestatic 121, 3) := by decide +kernel
theorem dX8_damp_4 : decode cX8_damp 4 = .ok (.ifCond .ne 6, 3) := by decide +kernel
theorem dX8_damp_7 : decode cX8_damp 7 = .ok (.bipush (-2), 2) := by decide +kernel
theorem dX8_damp_9 : decode cX8_damp 9 = .ok (.ireturn, 1) := by decide +kernel
theorem dX8_damp_10 : decode cX8_damp 10 = .ok (.aload_n 0, 1) := by decide +kernel
theorem dX8_damp_11 : decode cX8_damp 11 = .ok (.invokevirtual 124, 3) := by decide +kernel
theorem dX8_damp_14 : decode cX8_damp 14 = .ok (.aload_n 0, 1) := by decide +kernel
theorem dX8_damp_15 : decode cX8_damp 15 = .ok (.getfield 21, 3) := by decide +kernel
theorem dX8_damp_18 : decode cX8_damp 18 = .ok (.iload_n 1, 1) := by decide +kernel
theorem dX8_damp_19 : decode cX8_damp 19 = .ok (.iaload, 1) := by decide +kernel
theorem dX8_damp_20 : decode cX8_damp 20 = .ok (.ireturn, 1) := by decide +kernel
theorem dX8_stroke_0 : decode cX8_stroke 0 = .ok (.aload_n 0, 1) := by decide +kernel
theorem dX8_stroke_1 : decode cX8_stroke 1 = .ok (.invokevirtual 124, 3) := by decide +kernel
theorem dX8_stroke_4 : decode cX8_stroke 4 = .ok (.aload_n 0, 1) := by decide +kernel
theorem dX8_stroke_5 : decode cX8_stroke 5 = .ok (.iload_n 1, 1) := by decide +kernel
theorem dX8_stroke_6 : decode cX8_stroke 6 = .ok (.invokevirtual 127, 3) := by decide +kernel
theorem dX8_stroke_9 : decode cX8_stroke 9 = .ok (.ifCond .eq 12, 3) := by decide +kernel
theorem dX8_stroke_12 : decode cX8_stroke 12 = .ok (.iload_n 2, 1) := by decide +kernel
theorem dX8_stroke_13 : decode cX8_stroke 13 = .ok (.ifCond .lt 8, 3) := by decide +kernel
theorem dX8_stroke_16 : decode cX8_stroke 16 = .ok (.iload_n 2, 1) := by decide +kernel
theorem dX8_stroke_17 : decode cX8_stroke 17 = .ok (.iconst 3, 1) := by decide +kernel
theorem dX8_stroke_18 : decode cX8_stroke 18 = .ok (.if_icmp .le 6, 3) := by decide +kernel
theorem dX8_stroke_21 : decode cX8_stroke 21 = .ok (.bipush (-2), 2) := by decide +kernel
theorem dX8_stroke_23 : decode cX8_stroke 23 = .ok (.ireturn, 1) := by decide +kernel
theorem dX8_stroke_24 : decode cX8_stroke 24 = .ok (.iload_n 2, 1) := by decide +kernel
theorem dX8_stroke_25 : decode cX8_stroke 25 = .ok (.tableswitch 57 0 2 #[27, 37, 47], 27) := by decide +kernel
theorem dX8_stroke_52 : decode cX8_stroke 52 = .ok (.aload_n 0, 1) := by decide +kernel
theorem dX8_stroke_53 : decode cX8_stroke 53 = .ok (.getfield 38, 3) := by decide +kernel
theorem dX8_stroke_56 : decode cX8_stroke 56 = .ok (.getfield 130, 3) := by decide +kernel
theorem dX8_stroke_59 : decode cX8_stroke 59 = .ok (.iload_n 1, 1) := by decide +kernel
theorem dX8_stroke_60 : decode cX8_stroke 60 = .ok (.iaload, 1) := by decide +kernel
theorem dX8_stroke_61 : decode cX8_stroke 61 = .ok (.ireturn, 1) := by decide +kernel
theorem dX8_stroke_62 : decode cX8_stroke 62 = .ok (.aload_n 0, 1) := by decide +kernel
theorem dX8_stroke_63 : decode cX8_stroke 63 = .ok (.getfield 38, 3) := by decide +kernel
theorem dX8_stroke_66 : decode cX8_stroke 66 = .ok (.getfield 133, 3) := by decide +kernel
theorem dX8_stroke_69 : decode cX8_stroke 69 = .ok (.iload_n 1, 1) := by decide +kernel
theorem dX8_stroke_70 : decode cX8_stroke 70 = .ok (.iaload, 1) := by decide +kernel
theorem dX8_stroke_71 : decode cX8_stroke 71 = .ok (.ireturn, 1) := by decide +kernel
theorem dX8_stroke_72 : decode cX8_stroke 72 = .ok (.aload_n 0, 1) := by decide +kernel
theorem dX8_stroke_73 : decode cX8_stroke 73 = .ok (.getfield 38, 3) := by decide +kernel
theorem dX8_stroke_76 : decode cX8_stroke 76 = .ok (.getfield 136, 3) := by decide +kernel
theorem dX8_stroke_79 : decode cX8_stroke 79 = .ok (.iload_n 1, 1) := by decide +kernel
theorem dX8_stroke_80 : decode cX8_stroke 80 = .ok (.iaload, 1) := by decide +kernel
theorem dX8_stroke_81 : decode cX8_stroke 81 = .ok (.ireturn, 1) := by decide +kernel
theorem dX8_stroke_82 : decode cX8_stroke 82 = .ok (.aload_n 0, 1) := by decide +kernel
theorem dX8_stroke_83 : decode cX8_stroke 83 = .ok (.getfield 38, 3) := by decide +kernel
theorem dX8_stroke_86 : decode cX8_stroke 86 = .ok (.getfield 139, 3) := by decide +kernel
theorem dX8_stroke_89 : decode cX8_stroke 89 = .ok (.iload_n 1, 1) := by decide +kernel
theorem dX8_stroke_90 : decode cX8_stroke 90 = .ok (.iaload, 1) := by decide +kernel
theorem dX8_stroke_91 : decode cX8_stroke 91 = .ok (.ireturn, 1) := by decide +kernel
theorem dX8_fine_0 : decode cX8_fine 0 = .ok (.iload_n 1, 1) := by decide +kernel
theorem dX8_fine_1 : decode cX8_fine 1 = .ok (.ifCond .lt 9, 3) := by decide +kernel
theorem dX8_fine_4 : decode cX8_fine 4 = .ok (.iload_n 1, 1) := by decide +kernel
theorem dX8_fine_5 : decode cX8_fine 5 = .ok (.bipush 9, 2) := by decide +kernel
theorem dX8_fine_7 : decode cX8_fine 7 = .ok (.if_icmp .le 6, 3) := by decide +kernel
theorem dX8_fine_10 : decode cX8_fine 10 = .ok (.bipush (-2), 2) := by decide +kernel
theorem dX8_fine_12 : decode cX8_fine 12 = .ok (.ireturn, 1) := by decide +kernel
theorem dX8_fine_13 : decode cX8_fine 13 = .ok (.aload_n 0, 1) := by decide +kernel
theorem dX8_fine_14 : decode cX8_fine 14 = .ok (.getfield 89, 3) := by decide +kernel
theorem dX8_fine_17 : decode cX8_fine 17 = .ok (.istore_n 2, 1) := by decide +kernel
theorem dX8_fine_18 : decode cX8_fine 18 = .ok (.aload_n 0, 1) := by decide +kernel
theorem dX8_fine_19 : decode cX8_fine 19 = .ok (.iload_n 1, 1) := by decide +kernel
theorem dX8_fine_20 : decode cX8_fine 20 = .ok (.putfield 89, 3) := by decide +kernel
theorem dX8_fine_23 : decode cX8_fine 23 = .ok (.aload_n 0, 1) := by decide +kernel
theorem dX8_fine_24 : decode cX8_fine 24 = .ok (.iconst 1, 1) := by decide +kernel
theorem dX8_fine_25 : decode cX8_fine 25 = .ok (.putfield 95, 3) := by decide +kernel
theorem dX8_fine_28 : decode cX8_fine 28 = .ok (.iload_n 2, 1) := by decide +kernel
theorem dX8_fine_29 : decode cX8_fine 29 = .ok (.ireturn, 1) := by decide +kernel
theorem dX8_clean_0 : decode cX8_clean 0 = .ok (.iload_n 1, 1) := by decide +kernel
theorem dX8_clean_1 : decode cX8_clean 1 = .ok (.invokestatic 121, 3) := by decide +kernel
theorem dX8_clean_4 : decode cX8_clean 4 = .ok (.ifCond .eq 10, 3) := by decide +kernel
theorem dX8_clean_7 : decode cX8_clean 7 = .ok (.iload_n 2, 1) := by decide +kernel
theorem dX8_clean_8 : decode cX8_clean 8 = .ok (.invokestatic 142, 3) := by decide +kernel
theorem dX8_clean_11 : decode cX8_clean 11 = .ok (.ifCond .ne 6, 3) := by decide +kernel
theorem dX8_clean_14 : decode cX8_clean 14 = .ok (.bipush (-2), 2) := by decide +kernel
theorem dX8_clean_16 : decode cX8_clean 16 = .ok (.ireturn, 1) := by decide +kernel
theorem dX8_clean_17 : decode cX8_clean 17 = .ok (.aload_n 0, 1) := by decide +kernel
theorem dX8_clean_18 : decode cX8_clean 18 = .ok (.getfield 31, 3) := by decide +kernel
theorem dX8_clean_21 : decode cX8_clean 21 = .ok (.iload_n 1, 1) := by decide +kernel
theorem dX8_clean_22 : decode cX8_clean 22 = .ok (.iload_n 2, 1) := by decide +kernel
theorem dX8_clean_23 : decode cX8_clean 23 = .ok (.invokevirtual 145, 3) := by decide +kernel
theorem dX8_clean_26 : decode cX8_clean 26 = .ok (.ifCond .ne 6, 3) := by decide +kernel
theorem dX8_clean_29 : decode cX8_clean 29 = .ok (.bipush (-4), 2) := by decide +kernel
theorem dX8_clean_31 : decode cX8_clean 31 = .ok (.ireturn, 1) := by decide +kernel
theorem dX8_clean_32 : decode cX8_clean 32 = .ok (.aload_n 0, 1) := by decide +kernel
theorem dX8_clean_33 : decode cX8_clean 33 = .ok (.iconst 1, 1) := by decide +kernel
theorem dX8_clean_34 : decode cX8_clean 34 = .ok (.putfield 95, 3) := by decide +kernel
theorem dX8_clean_37 : decode cX8_clean 37 = .ok (.aload_n 0, 1) := by decide +kernel
theorem dX8_clean_38 : decode cX8_clean 38 = .ok (.getfield 31, 3) := by decide +kernel
theorem dX8_clean_41 : decode cX8_clean 41 = .ok (.getfield 149, 3) := by decide +kernel
theorem dX8_clean_44 : decode cX8_clean 44 = .ok (.ireturn, 1) := by decide +kernel
theorem dX8_grease_0 : decode cX8_grease 0 = .ok (.iload_n 1, 1) := by decide +kernel
theorem dX8_grease_1 : decode cX8_grease 1 = .ok (.invokestatic 121, 3) := by decide +kernel
theorem dX8_grease_4 : decode cX8_grease 4 = .ok (.ifCond .eq 10, 3) := by decide +kernel
theorem dX8_grease_7 : decode cX8_grease 7 = .ok (.iload_n 2, 1) := by decide +kernel
theorem dX8_grease_8 : decode cX8_grease 8 = .ok (.invokestatic 142, 3) := by decide +kernel
theorem dX8_grease_11 : decode cX8_grease 11 = .ok (.ifCond .ne 6, 3) := by decide +kernel
theorem dX8_grease_14 : decode cX8_grease 14 = .ok (.bipush (-2), 2) := by decide +kernel
theorem dX8_grease_16 : decode cX8_grease 16 = .ok (.ireturn, 1) := by decide +kernel
theorem dX8_grease_17 : decode cX8_grease 17 = .ok (.aload_n 0, 1) := by decide +kernel
theorem dX8_grease_18 : decode cX8_grease 18 = .ok (.getfield 31, 3) := by decide +kernel
theorem dX8_grease_21 : decode cX8_grease 21 = .ok (.iload_n 1, 1) := by decide +kernel
theorem dX8_grease_22 : decode cX8_grease 22 = .ok (.iload_n 2, 1) := by decide +kernel
theorem dX8_grease_23 : decode cX8_grease 23 = .ok (.invokevirtual 152, 3) := by decide +kernel
theorem dX8_grease_26 : decode cX8_grease 26 = .ok (.ifCond .ne 6, 3) := by decide +kernel
theorem dX8_grease_29 : decode cX8_grease 29 = .ok (.bipush (-4), 2) := by decide +kernel
theorem dX8_grease_31 : decode cX8_grease 31 = .ok (.ireturn, 1) := by decide +kernel
theorem dX8_grease_32 : decode cX8_grease 32 = .ok (.aload_n 0, 1) := by decide +kernel
theorem dX8_grease_33 : decode cX8_grease 33 = .ok (.iconst 1, 1) := by decide +kernel
theorem dX8_grease_34 : decode cX8_grease 34 = .ok (.putfield 95, 3) := by decide +kernel
theorem dX8_grease_37 : decode cX8_grease 37 = .ok (.aload_n 0, 1) := by decide +kernel
theorem dX8_grease_38 : decode cX8_grease 38 = .ok (.getfield 31, 3) := by decide +kernel
theorem dX8_grease_41 : decode cX8_grease 41 = .ok (.getfield 155, 3) := by decide +kernel
theorem dX8_grease_44 : decode cX8_grease 44 = .ok (.ireturn, 1) := by decide +kernel
theorem dX8_back_0 : decode cX8_back 0 = .ok (.iload_n 1, 1) := by decide +kernel
theorem dX8_back_1 : decode cX8_back 1 = .ok (.invokestatic 158, 3) := by decide +kernel
theorem dX8_back_4 : decode cX8_back 4 = .ok (.ifCond .ne 6, 3) := by decide +kernel
theorem dX8_back_7 : decode cX8_back 7 = .ok (.bipush (-2), 2) := by decide +kernel
theorem dX8_back_9 : decode cX8_back 9 = .ok (.ireturn, 1) := by decide +kernel
theorem dX8_back_10 : decode cX8_back 10 = .ok (.iload_n 1, 1) := by decide +kernel
theorem dX8_back_11 : decode cX8_back 11 = .ok (.ifCond .ne 13, 3) := by decide +kernel
theorem dX8_back_14 : decode cX8_back 14 = .ok (.aload_n 0, 1) := by decide +kernel
theorem dX8_back_15 : decode cX8_back 15 = .ok (.getfield 31, 3) := by decide +kernel
theorem dX8_back_18 : decode cX8_back 18 = .ok (.getfield 149, 3) := by decide +kernel
theorem dX8_back_21 : decode cX8_back 21 = .ok (.goto 10, 3) := by decide +kernel
theorem dX8_back_24 : decode cX8_back 24 = .ok (.aload_n 0, 1) := by decide +kernel
theorem dX8_back_25 : decode cX8_back 25 = .ok (.getfield 31, 3) := by decide +kernel
theorem dX8_back_28 : decode cX8_back 28 = .ok (.getfield 155, 3) := by decide +kernel
theorem dX8_back_31 : decode cX8_back 31 = .ok (.iconst 1, 1) := by decide +kernel
theorem dX8_back_32 : decode cX8_back 32 = .ok (.isub, 1) := by decide +kernel
theorem dX8_back_33 : decode cX8_back 33 = .ok (.istore_n 2, 1) := by decide +kernel
theorem dX8_back_34 : decode cX8_back 34 = .ok (.iload_n 2, 1) := by decide +kernel
theorem dX8_back_35 : decode cX8_back 35 = .ok (.ifCond .ge 6, 3) := by decide +kernel
theorem dX8_back_38 : decode cX8_back 38 = .ok (.bipush (-3), 2) := by decide +kernel
theorem dX8_back_40 : decode cX8_back 40 = .ok (.ireturn, 1) := by decide +kernel
theorem dX8_back_41 : decode cX8_back 41 = .ok (.iload_n 1, 1) := by decide +kernel
theorem dX8_back_42 : decode cX8_back 42 = .ok (.ifCond .ne 14, 3) := by decide +kernel
theorem dX8_back_45 : decode cX8_back 45 = .ok (.aload_n 0, 1) := by decide +kernel
theorem dX8_back_46 : decode cX8_back 46 = .ok (.getfield 31, 3) := by decide +kernel
theorem dX8_back_49 : decode cX8_back 49 = .ok (.iload_n 2, 1) := by decide +kernel
theorem dX8_back_50 : decode cX8_back 50 = .ok (.putfield 149, 3) := by decide +kernel
theorem dX8_back_53 : decode cX8_back 53 = .ok (.goto 11, 3) := by decide +kernel
theorem dX8_back_56 : decode cX8_back 56 = .ok (.aload_n 0, 1) := by decide +kernel
theorem dX8_back_57 : decode cX8_back 57 = .ok (.getfield 31, 3) := by decide +kernel
theorem dX8_back_60 : decode cX8_back 60 = .ok (.iload_n 2, 1) := by decide +kernel
theorem dX8_back_61 : decode cX8_back 61 = .ok (.putfield 155, 3) := by decide +kernel
theorem dX8_back_64 : decode cX8_back 64 = .ok (.aload_n 0, 1) := by decide +kernel
theorem dX8_back_65 : decode cX8_back 65 = .ok (.iconst 1, 1) := by decide +kernel
theorem dX8_back_66 : decode cX8_back 66 = .ok (.putfield 95, 3) := by decide +kernel
theorem dX8_back_69 : decode cX8_back 69 = .ok (.iload_n 2, 1) := by decide +kernel
theorem dX8_back_70 : decode cX8_back 70 = .ok (.ireturn, 1) := by decide +kernel
theorem dX8_read_0 : decode cX8_read 0 = .ok (.iload_n 1, 1) := by decide +kernel
theorem dX8_read_1 : decode cX8_read 1 = .ok (.invokestatic 161, 3) := by decide +kernel
theorem dX8_read_4 : decode cX8_read 4 = .ok (.ifCond .ne 6, 3) := by decide +kernel
theorem dX8_read_7 : decode cX8_read 7 = .ok (.bipush (-2), 2) := by decide +kernel
theorem dX8_read_9 : decode cX8_read 9 = .ok (.ireturn, 1) := by decide +kernel
theorem dX8_read_10 : decode cX8_read 10 = .ok (.aload_n 0, 1) := by decide +kernel
theorem dX8_read_11 : decode cX8_read 11 = .ok (.getfield 78, 3) := by decide +kernel
theorem dX8_read_14 : decode cX8_read 14 = .ok (.iload_n 1, 1) := by decide +kernel
theorem dX8_read_15 : decode cX8_read 15 = .ok (.aaload, 1) := by decide +kernel
theorem dX8_read_16 : decode cX8_read 16 = .ok (.astore_n 2, 1) := by decide +kernel
theorem dX8_read_17 : decode cX8_read 17 = .ok (.aload_n 2, 1) := by decide +kernel
theorem dX8_read_18 : decode cX8_read 18 = .ok (.getfield 164, 3) := by decide +kernel
theorem dX8_read_21 : decode cX8_read 21 = .ok (.ifCond .eq 9, 3) := by decide +kernel
theorem dX8_read_24 : decode cX8_read 24 = .ok (.aload_n 0, 1) := by decide +kernel
theorem dX8_read_25 : decode cX8_read 25 = .ok (.iconst 1, 1) := by decide +kernel
theorem dX8_read_26 : decode cX8_read 26 = .ok (.invokevirtual 167, 3) := by decide +kernel
theorem dX8_read_29 : decode cX8_read 29 = .ok (.ireturn, 1) := by decide +kernel
theorem dX8_read_30 : decode cX8_read 30 = .ok (.iconst 0, 1) := by decide +kernel
theorem dX8_read_31 : decode cX8_read 31 = .ok (.istore_n 3, 1) := by decide +kernel
theorem dX8_read_32 : decode cX8_read 32 = .ok (.iconst 0, 1) := by decide +kernel
theorem dX8_read_33 : decode cX8_read 33 = .ok (.istore 4, 2) := by decide +kernel
theorem dX8_read_35 : decode cX8_read 35 = .ok (.iload 4, 2) := by decide +kernel
theorem dX8_read_37 : decode cX8_read 37 = .ok (.iconst 1, 1) := by decide +kernel
theorem dX8_read_38 : decode cX8_read 38 = .ok (.iadd, 1) := by decide +kernel
theorem dX8_read_39 : decode cX8_read 39 = .ok (.aload_n 2, 1) := by decide +kernel
theorem dX8_read_40 : decode cX8_read 40 = .ok (.getfield 171, 3) := by decide +kernel
theorem dX8_read_43 : decode cX8_read 43 = .ok (.if_icmp .ge 38, 3) := by decide +kernel
theorem dX8_read_46 : decode cX8_read 46 = .ok (.aload_n 0, 1) := by decide +kernel
theorem dX8_read_47 : decode cX8_read 47 = .ok (.aload_n 2, 1) := by decide +kernel
theorem dX8_read_48 : decode cX8_read 48 = .ok (.getfield 172, 3) := by decide +kernel
theorem dX8_read_51 : decode cX8_read 51 = .ok (.iload 4, 2) := by decide +kernel
theorem dX8_read_53 : decode cX8_read 53 = .ok (.iaload, 1) := by decide +kernel
theorem dX8_read_54 : decode cX8_read 54 = .ok (.aload_n 2, 1) := by decide +kernel
theorem dX8_read_55 : decode cX8_read 55 = .ok (.getfield 172, 3) := by decide +kernel
theorem dX8_read_58 : decode cX8_read 58 = .ok (.iload 4, 2) := by decide +kernel
theorem dX8_read_60 : decode cX8_read 60 = .ok (.iconst 1, 1) := by decide +kernel
theorem dX8_read_61 : decode cX8_read 61 = .ok (.iadd, 1) := by decide +kernel
theorem dX8_read_62 : decode cX8_read 62 = .ok (.iaload, 1) := by decide +kernel
theorem dX8_read_63 : decode cX8_read 63 = .ok (.invokevirtual 175, 3) := by decide +kernel
theorem dX8_read_66 : decode cX8_read 66 = .ok (.ifCond .ge 6, 3) := by decide +kernel
theorem dX8_read_69 : decode cX8_read 69 = .ok (.goto 12, 3) := by decide +kernel
theorem dX8_read_72 : decode cX8_read 72 = .ok (.iinc 3 1, 3) := by decide +kernel
theorem dX8_read_75 : decode cX8_read 75 = .ok (.iinc 4 2, 3) := by decide +kernel
theorem dX8_read_78 : decode cX8_read 78 = .ok (.goto (-43), 3) := by decide +kernel
theorem dX8_read_81 : decode cX8_read 81 = .ok (.iload_n 3, 1) := by decide +kernel
theorem dX8_read_82 : decode cX8_read 82 = .ok (.ireturn, 1) := by decide +kernel
theorem dX8_stands_0 : decode cX8_stands 0 = .ok (.iload_n 1, 1) := by decide +kernel
theorem dX8_stands_1 : decode cX8_stands 1 = .ok (.invokestatic 121, 3) := by decide +kernel
theorem dX8_stands_4 : decode cX8_stands 4 = .ok (.ifCond .eq 10, 3) := by decide +kernel
theorem dX8_stands_7 : decode cX8_stands 7 = .ok (.iload_n 2, 1) := by decide +kernel
theorem dX8_stands_8 : decode cX8_stands 8 = .ok (.invokestatic 179, 3) := by decide +kernel
theorem dX8_stands_11 : decode cX8_stands 11 = .ok (.ifCond .ne 6, 3) := by decide +kernel
theorem dX8_stands_14 : decode cX8_stands 14 = .ok (.bipush (-2), 2) := by decide +kernel
theorem dX8_stands_16 : decode cX8_stands 16 = .ok (.ireturn, 1) := by decide +kernel
theorem dX8_stands_17 : decode cX8_stands 17 = .ok (.aload_n 0, 1) := by decide +kernel
theorem dX8_stands_18 : decode cX8_stands 18 = .ok (.invokevirtual 124, 3) := by decide +kernel
theorem dX8_stands_21 : decode cX8_stands 21 = .ok (.aload_n 0, 1) := by decide +kernel
theorem dX8_stands_22 : decode cX8_stands 22 = .ok (.getfield 38, 3) := by decide +kernel
theorem dX8_stands_25 : decode cX8_stands 25 = .ok (.iload_n 1, 1) := by decide +kernel
theorem dX8_stands_26 : decode cX8_stands 26 = .ok (.iload_n 2, 1) := by decide +kernel
theorem dX8_stands_27 : decode cX8_stands 27 = .ok (.aload_n 0, 1) := by decide +kernel
theorem dX8_stands_28 : decode cX8_stands 28 = .ok (.getfield 45, 3) := by decide +kernel
theorem dX8_stands_31 : decode cX8_stands 31 = .ok (.getfield 182, 3) := by decide +kernel
theorem dX8_stands_34 : decode cX8_stands 34 = .ok (.iload_n 1, 1) := by decide +kernel
theorem dX8_stands_35 : decode cX8_stands 35 = .ok (.iaload, 1) := by decide +kernel
theorem dX8_stands_36 : decode cX8_stands 36 = .ok (.invokevirtual 185, 3) := by decide +kernel
theorem dX8_stands_39 : decode cX8_stands 39 = .ok (.ireturn, 1) := by decide +kernel
theorem dX8_state_0 : decode cX8_state 0 = .ok (.aload_n 0, 1) := by decide +kernel
theorem dX8_state_1 : decode cX8_state 1 = .ok (.invokevirtual 124, 3) := by decide +kernel
theorem dX8_state_4 : decode cX8_state 4 = .ok (.iload_n 1, 1) := by decide +kernel
theorem dX8_state_5 : decode cX8_state 5 = .ok (.invokestatic 121, 3) := by decide +kernel
theorem dX8_state_8 : decode cX8_state 8 = .ok (.ifCond .eq 18, 3) := by decide +kernel
theorem dX8_state_11 : decode cX8_state 11 = .ok (.aload_n 0, 1) := by decide +kernel
theorem dX8_state_12 : decode cX8_state 12 = .ok (.iload_n 2, 1) := by decide +kernel
theorem dX8_state_13 : decode cX8_state 13 = .ok (.invokevirtual 127, 3) := by decide +kernel
theorem dX8_state_16 : decode cX8_state 16 = .ok (.ifCond .eq 10, 3) := by decide +kernel
theorem dX8_state_19 : decode cX8_state 19 = .ok (.iload_n 3, 1) := by decide +kernel
theorem dX8_state_20 : decode cX8_state 20 = .ok (.invokestatic 158, 3) := by decide +kernel
theorem dX8_state_23 : decode cX8_state 23 = .ok (.ifCond .ne 6, 3) := by decide +kernel
theorem dX8_state_26 : decode cX8_state 26 = .ok (.bipush (-2), 2) := by decide +kernel
theorem dX8_state_28 : decode cX8_state 28 = .ok (.ireturn, 1) := by decide +kernel
theorem dX8_state_29 : decode cX8_state 29 = .ok (.aload_n 0, 1) := by decide +kernel
theorem dX8_state_30 : decode cX8_state 30 = .ok (.getfield 38, 3) := by decide +kernel
theorem dX8_state_33 : decode cX8_state 33 = .ok (.getfield 189, 3) := by decide +kernel
theorem dX8_state_36 : decode cX8_state 36 = .ok (.iload_n 1, 1) := by decide +kernel
theorem dX8_state_37 : decode cX8_state 37 = .ok (.iaload, 1) := by decide +kernel
theorem dX8_state_38 : decode cX8_state 38 = .ok (.iload_n 2, 1) := by decide +kernel
theorem dX8_state_39 : decode cX8_state 39 = .ok (.invokestatic 192, 3) := by decide +kernel
theorem dX8_state_42 : decode cX8_state 42 = .ok (.istore 4, 2) := by decide +kernel
theorem dX8_state_44 : decode cX8_state 44 = .ok (.iload_n 3, 1) := by decide +kernel
theorem dX8_state_45 : decode cX8_state 45 = .ok (.iconst 1, 1) := by decide +kernel
theorem dX8_state_46 : decode cX8_state 46 = .ok (.if_icmp .ne 26, 3) := by decide +kernel
theorem dX8_state_49 : decode cX8_state 49 = .ok (.iload 4, 2) := by decide +kernel
theorem dX8_state_51 : decode cX8_state 51 = .ok (.ifCond .eq 19, 3) := by decide +kernel
theorem dX8_state_54 : decode cX8_state 54 = .ok (.aload_n 0, 1) := by decide +kernel
theorem dX8_state_55 : decode cX8_state 55 = .ok (.getfield 45, 3) := by decide +kernel
theorem dX8_state_58 : decode cX8_state 58 = .ok (.getfield 195, 3) := by decide +kernel
theorem dX8_state_61 : decode cX8_state 61 = .ok (.iload_n 1, 1) := by decide +kernel
theorem dX8_state_62 : decode cX8_state 62 = .ok (.iaload, 1) := by decide +kernel
theorem dX8_state_63 : decode cX8_state 63 = .ok (.iload_n 2, 1) := by decide +kernel
theorem dX8_state_64 : decode cX8_state 64 = .ok (.invokestatic 198, 3) := by decide +kernel
theorem dX8_state_67 : decode cX8_state 67 = .ok (.goto 4, 3) := by decide +kernel
theorem dX8_state_70 : decode cX8_state 70 = .ok (.iconst (-1), 1) := by decide +kernel
theorem dX8_state_71 : decode cX8_state 71 = .ok (.ireturn, 1) := by decide +kernel
theorem dX8_state_72 : decode cX8_state 72 = .ok (.iload 4, 2) := by decide +kernel
theorem dX8_state_74 : decode cX8_state 74 = .ok (.ifCond .eq 25, 3) := by decide +kernel
theorem dX8_state_77 : decode cX8_state 77 = .ok (.aload_n 0, 1) := by decide +kernel
theorem dX8_state_78 : decode cX8_state 78 = .ok (.getfield 45, 3) := by decide +kernel
theorem dX8_state_81 : decode cX8_state 81 = .ok (.getfield 182, 3) := by decide +kernel
theorem dX8_state_84 : decode cX8_state 84 = .ok (.iload_n 1, 1) := by decide +kernel
theorem dX8_state_85 : decode cX8_state 85 = .ok (.iaload, 1) := by decide +kernel
theorem dX8_state_86 : decode cX8_state 86 = .ok (.iload_n 2, 1) := by decide +kernel
theorem dX8_state_87 : decode cX8_state 87 = .ok (.invokestatic 192, 3) := by decide +kernel
theorem dX8_state_90 : decode cX8_state 90 = .ok (.ifCond .eq 7, 3) := by decide +kernel
theorem dX8_state_93 : decode cX8_state 93 = .ok (.iconst 3, 1) := by decide +kernel
theorem dX8_state_94 : decode cX8_state 94 = .ok (.goto 4, 3) := by decide +kernel
theorem dX8_state_97 : decode cX8_state 97 = .ok (.iconst 2, 1) := by decide +kernel
theorem dX8_state_98 : decode cX8_state 98 = .ok (.ireturn, 1) := by decide +kernel
theorem dX8_state_99 : decode cX8_state 99 = .ok (.aload_n 0, 1) := by decide +kernel
theorem dX8_state_100 : decode cX8_state 100 = .ok (.getfield 38, 3) := by decide +kernel
theorem dX8_state_103 : decode cX8_state 103 = .ok (.getfield 201, 3) := by decide +kernel
theorem dX8_state_106 : decode cX8_state 106 = .ok (.iload_n 1, 1) := by decide +kernel
theorem dX8_state_107 : decode cX8_state 107 = .ok (.iaload, 1) := by decide +kernel
theorem dX8_state_108 : decode cX8_state 108 = .ok (.iload_n 2, 1) := by decide +kernel
theorem dX8_state_109 : decode cX8_state 109 = .ok (.invokestatic 192, 3) := by decide +kernel
theorem dX8_state_112 : decode cX8_state 112 = .ok (.ifCond .eq 7, 3) := by decide +kernel
theorem dX8_state_115 : decode cX8_state 115 = .ok (.iconst 1, 1) := by decide +kernel
theorem dX8_state_116 : decode cX8_state 116 = .ok (.goto 4, 3) := by decide +kernel
theorem dX8_state_119 : decode cX8_state 119 = .ok (.iconst 0, 1) := by decide +kernel
theorem dX8_state_120 : decode cX8_state 120 = .ok (.ireturn, 1) := by decide +kernel
theorem dX8_up_0 : decode cX8_up 0 = .ok (.aload_n 0, 1) := by decide +kernel
theorem dX8_up_1 : decode cX8_up 1 = .ok (.invokevirtual 124, 3) := by decide +kernel
theorem dX8_up_4 : decode cX8_up 4 = .ok (.aload_n 0, 1) := by decide +kernel
theorem dX8_up_5 : decode cX8_up 5 = .ok (.iload_n 1, 1) := by decide +kernel
theorem dX8_up_6 : decode cX8_up 6 = .ok (.invokevirtual 127, 3) := by decide +kernel
theorem dX8_up_9 : decode cX8_up 9 = .ok (.ifCond .eq 17, 3) := by decide +kernel
theorem dX8_up_12 : decode cX8_up 12 = .ok (.aload_n 0, 1) := by decide +kernel
theorem dX8_up_13 : decode cX8_up 13 = .ok (.getfield 45, 3) := by decide +kernel
theorem dX8_up_16 : decode cX8_up 16 = .ok (.iload_n 1, 1) := by decide +kernel
theorem dX8_up_17 : decode cX8_up 17 = .ok (.invokestatic 204, 3) := by decide +kernel
theorem dX8_up_20 : decode cX8_up 20 = .ok (.invokevirtual 207, 3) := by decide +kernel
theorem dX8_up_23 : decode cX8_up 23 = .ok (.goto 5, 3) := by decide +kernel
theorem dX8_up_26 : decode cX8_up 26 = .ok (.bipush (-2), 2) := by decide +kernel
theorem dX8_up_28 : decode cX8_up 28 = .ok (.ireturn, 1) := by decide +kernel
theorem dX8_through_0 : decode cX8_through 0 = .ok (.iload_n 1, 1) := by decide +kernel
theorem dX8_through_1 : decode cX8_through 1 = .ok (.invokestatic 121, 3) := by decide +kernel
theorem dX8_through_4 : decode cX8_through 4 = .ok (.ifCond .ne 6, 3) := by decide +kernel
theorem dX8_through_7 : decode cX8_through 7 = .ok (.bipush (-2), 2) := by decide +kernel
theorem dX8_through_9 : decode cX8_through 9 = .ok (.ireturn, 1) := by decide +kernel
theorem dX8_through_10 : decode cX8_through 10 = .ok (.aload_n 0, 1) := by decide +kernel
theorem dX8_through_11 : decode cX8_through 11 = .ok (.invokevirtual 124, 3) := by decide +kernel
theorem dX8_through_14 : decode cX8_through 14 = .ok (.aload_n 0, 1) := by decide +kernel
theorem dX8_through_15 : decode cX8_through 15 = .ok (.getfield 45, 3) := by decide +kernel
theorem dX8_through_18 : decode cX8_through 18 = .ok (.getfield 182, 3) := by decide +kernel
theorem dX8_through_21 : decode cX8_through 21 = .ok (.iload_n 1, 1) := by decide +kernel
theorem dX8_through_22 : decode cX8_through 22 = .ok (.iaload, 1) := by decide +kernel
theorem dX8_through_23 : decode cX8_through 23 = .ok (.invokestatic 210, 3) := by decide +kernel
theorem dX8_through_26 : decode cX8_through 26 = .ok (.ireturn, 1) := by decide +kernel
theorem dX8_misread_0 : decode cX8_misread 0 = .ok (.iload_n 1, 1) := by decide +kernel
theorem dX8_misread_1 : decode cX8_misread 1 = .ok (.invokestatic 158, 3) := by decide +kernel
theorem dX8_misread_4 : decode cX8_misread 4 = .ok (.ifCond .ne 6, 3) := by decide +kernel
theorem dX8_misread_7 : decode cX8_misread 7 = .ok (.bipush (-2), 2) := by decide +kernel
theorem dX8_misread_9 : decode cX8_misread 9 = .ok (.ireturn, 1) := by decide +kernel
theorem dX8_misread_10 : decode cX8_misread 10 = .ok (.aload_n 0, 1) := by decide +kernel
theorem dX8_misread_11 : decode cX8_misread 11 = .ok (.invokevirtual 124, 3) := by decide +kernel
theorem dX8_misread_14 : decode cX8_misread 14 = .ok (.iconst 0, 1) := by decide +kernel
theorem dX8_misread_15 : decode cX8_misread 15 = .ok (.istore_n 2, 1) := by decide +kernel
theorem dX8_misread_16 : decode cX8_misread 16 = .ok (.iload_n 2, 1) := by decide +kernel
theorem dX8_misread_17 : decode cX8_misread 17 = .ok (.bipush 20, 2) := by decide +kernel
theorem dX8_misread_19 : decode cX8_misread 19 = .ok (.if_icmp .ge 60, 3) := by decide +kernel
theorem dX8_misread_22 : decode cX8_misread 22 = .ok (.aload_n 0, 1) := by decide +kernel
theorem dX8_misread_23 : decode cX8_misread 23 = .ok (.getfield 38, 3) := by decide +kernel
theorem dX8_misread_26 : decode cX8_misread 26 = .ok (.aload_n 0, 1) := by decide +kernel
theorem dX8_misread_27 : decode cX8_misread 27 = .ok (.getfield 45, 3) := by decide +kernel
theorem dX8_misread_30 : decode cX8_misread 30 = .ok (.getfield 182, 3) := by decide +kernel
theorem dX8_misread_33 : decode cX8_misread 33 = .ok (.iload_n 2, 1) := by decide +kernel
theorem dX8_misread_34 : decode cX8_misread 34 = .ok (.iaload, 1) := by decide +kernel
theorem dX8_misread_35 : decode cX8_misread 35 = .ok (.invokevirtual 215, 3) := by decide +kernel
theorem dX8_misread_38 : decode cX8_misread 38 = .ok (.aload_n 0, 1) := by decide +kernel
theorem dX8_misread_39 : decode cX8_misread 39 = .ok (.getfield 38, 3) := by decide +kernel
theorem dX8_misread_42 : decode cX8_misread 42 = .ok (.aload_n 0, 1) := by decide +kernel
theorem dX8_misread_43 : decode cX8_misread 43 = .ok (.getfield 38, 3) := by decide +kernel
theorem dX8_misread_46 : decode cX8_misread 46 = .ok (.getfield 201, 3) := by decide +kernel
theorem dX8_misread_49 : decode cX8_misread 49 = .ok (.iload_n 2, 1) := by decide +kernel
theorem dX8_misread_50 : decode cX8_misread 50 = .ok (.iaload, 1) := by decide +kernel
theorem dX8_misread_51 : decode cX8_misread 51 = .ok (.invokevirtual 215, 3) := by decide +kernel
theorem dX8_misread_54 : decode cX8_misread 54 = .ok (.iand, 1) := by decide +kernel
theorem dX8_misread_55 : decode cX8_misread 55 = .ok (.istore_n 3, 1) := by decide +kernel
theorem dX8_misread_56 : decode cX8_misread 56 = .ok (.iload_n 3, 1) := by decide +kernel
theorem dX8_misread_57 : decode cX8_misread 57 = .ok (.ifCond .eq 16, 3) := by decide +kernel
theorem dX8_misread_60 : decode cX8_misread 60 = .ok (.iload_n 1, 1) := by decide +kernel
theorem dX8_misread_61 : decode cX8_misread 61 = .ok (.ifCond .ne 7, 3) := by decide +kernel
theorem dX8_misread_64 : decode cX8_misread 64 = .ok (.iload_n 2, 1) := by decide +kernel
theorem dX8_misread_65 : decode cX8_misread 65 = .ok (.goto 7, 3) := by decide +kernel
theorem dX8_misread_68 : decode cX8_misread 68 = .ok (.iload_n 3, 1) := by decide +kernel
theorem dX8_misread_69 : decode cX8_misread 69 = .ok (.invokestatic 218, 3) := by decide +kernel
theorem dX8_misread_72 : decode cX8_misread 72 = .ok (.ireturn, 1) := by decide +kernel
theorem dX8_misread_73 : decode cX8_misread 73 = .ok (.iinc 2 1, 3) := by decide +kernel
theorem dX8_misread_76 : decode cX8_misread 76 = .ok (.goto (-60), 3) := by decide +kernel
theorem dX8_misread_79 : decode cX8_misread 79 = .ok (.iconst (-1), 1) := by decide +kernel
theorem dX8_misread_80 : decode cX8_misread 80 = .ok (.ireturn, 1) := by decide +kernel
theorem dX8_most_0 : decode cX8_most 0 = .ok (.aload_n 0, 1) := by decide +kernel
theorem dX8_most_1 : decode cX8_most 1 = .ok (.invokevirtual 124, 3) := by decide +kernel
theorem dX8_most_4 : decode cX8_most 4 = .ok (.iconst (-1), 1) := by decide +kernel
theorem dX8_most_5 : decode cX8_most 5 = .ok (.istore_n 1, 1) := by decide +kernel
theorem dX8_most_6 : decode cX8_most 6 = .ok (.iconst (-1), 1) := by decide +kernel
theorem dX8_most_7 : decode cX8_most 7 = .ok (.istore_n 2, 1) := by decide +kernel
theorem dX8_most_8 : decode cX8_most 8 = .ok (.iconst 0, 1) := by decide +kernel
theorem dX8_most_9 : decode cX8_most 9 = .ok (.istore_n 3, 1) := by decide +kernel
theorem dX8_most_10 : decode cX8_most 10 = .ok (.iload_n 3, 1) := by decide +kernel
theorem dX8_most_11 : decode cX8_most 11 = .ok (.aload_n 0, 1) := by decide +kernel
theorem dX8_most_12 : decode cX8_most 12 = .ok (.getfield 38, 3) := by decide +kernel
theorem dX8_most_15 : decode cX8_most 15 = .ok (.getfield 221, 3) := by decide +kernel
theorem dX8_most_18 : decode cX8_most 18 = .ok (.if_icmp .ge 33, 3) := by decide +kernel
theorem dX8_most_21 : decode cX8_most 21 = .ok (.aload_n 0, 1) := by decide +kernel
theorem dX8_most_22 : decode cX8_most 22 = .ok (.getfield 45, 3) := by decide +kernel
theorem dX8_most_25 : decode cX8_most 25 = .ok (.iload_n 3, 1) := by decide +kernel
theorem dX8_most_26 : decode cX8_most 26 = .ok (.invokestatic 204, 3) := by decide +kernel
theorem dX8_most_29 : decode cX8_most 29 = .ok (.invokevirtual 207, 3) := by decide +kernel
theorem dX8_most_32 : decode cX8_most 32 = .ok (.istore 4, 2) := by decide +kernel
theorem dX8_most_34 : decode cX8_most 34 = .ok (.iload 4, 2) := by decide +kernel
theorem dX8_most_36 : decode cX8_most 36 = .ok (.iload_n 2, 1) := by decide +kernel
theorem dX8_most_37 : decode cX8_most 37 = .ok (.if_icmp .le 8, 3) := by decide +kernel
theorem dX8_most_40 : decode cX8_most 40 = .ok (.iload_n 3, 1) := by decide +kernel
theorem dX8_most_41 : decode cX8_most 41 = .ok (.istore_n 1, 1) := by decide +kernel
theorem dX8_most_42 : decode cX8_most 42 = .ok (.iload 4, 2) := by decide +kernel
theorem dX8_most_44 : decode cX8_most 44 = .ok (.istore_n 2, 1) := by decide +kernel
theorem dX8_most_45 : decode cX8_most 45 = .ok (.iinc 3 1, 3) := by decide +kernel
theorem dX8_most_48 : decode cX8_most 48 = .ok (.goto (-38), 3) := by decide +kernel
theorem dX8_most_51 : decode cX8_most 51 = .ok (.iload_n 1, 1) := by decide +kernel
theorem dX8_most_52 : decode cX8_most 52 = .ok (.ireturn, 1) := by decide +kernel
theorem dX8_deep_0 : decode cX8_deep 0 = .ok (.iload_n 1, 1) := by decide +kernel
theorem dX8_deep_1 : decode cX8_deep 1 = .ok (.invokestatic 121, 3) := by decide +kernel
theorem dX8_deep_4 : decode cX8_deep 4 = .ok (.ifCond .ne 6, 3) := by decide +kernel
theorem dX8_deep_7 : decode cX8_deep 7 = .ok (.bipush (-2), 2) := by decide +kernel
theorem dX8_deep_9 : decode cX8_deep 9 = .ok (.ireturn, 1) := by decide +kernel
theorem dX8_deep_10 : decode cX8_deep 10 = .ok (.aload_n 0, 1) := by decide +kernel
theorem dX8_deep_11 : decode cX8_deep 11 = .ok (.invokevirtual 124, 3) := by decide +kernel
theorem dX8_deep_14 : decode cX8_deep 14 = .ok (.aload_n 0, 1) := by decide +kernel
theorem dX8_deep_15 : decode cX8_deep 15 = .ok (.getfield 38, 3) := by decide +kernel
theorem dX8_deep_18 : decode cX8_deep 18 = .ok (.aload_n 0, 1) := by decide +kernel
theorem dX8_deep_19 : decode cX8_deep 19 = .ok (.getfield 38, 3) := by decide +kernel
theorem dX8_deep_22 : decode cX8_deep 22 = .ok (.getfield 189, 3) := by decide +kernel
theorem dX8_deep_25 : decode cX8_deep 25 = .ok (.iload_n 1, 1) := by decide +kernel
theorem dX8_deep_26 : decode cX8_deep 26 = .ok (.iaload, 1) := by decide +kernel
theorem dX8_deep_27 : decode cX8_deep 27 = .ok (.invokevirtual 224, 3) := by decide +kernel
theorem dX8_deep_30 : decode cX8_deep 30 = .ok (.ireturn, 1) := by decide +kernel
theorem dX8_oil_0 : decode cX8_oil 0 = .ok (.iload_n 1, 1) := by decide +kernel
theorem dX8_oil_1 : decode cX8_oil 1 = .ok (.invokestatic 158, 3) := by decide +kernel
theorem dX8_oil_4 : decode cX8_oil 4 = .ok (.ifCond .ne 6, 3) := by decide +kernel
theorem dX8_oil_7 : decode cX8_oil 7 = .ok (.bipush (-2), 2) := by decide +kernel
theorem dX8_oil_9 : decode cX8_oil 9 = .ok (.ireturn, 1) := by decide +kernel
theorem dX8_oil_10 : decode cX8_oil 10 = .ok (.aload_n 0, 1) := by decide +kernel
theorem dX8_oil_11 : decode cX8_oil 11 = .ok (.invokevirtual 124, 3) := by decide +kernel
theorem dX8_oil_14 : decode cX8_oil 14 = .ok (.iconst 0, 1) := by decide +kernel
theorem dX8_oil_15 : decode cX8_oil 15 = .ok (.istore_n 2, 1) := by decide +kernel
theorem dX8_oil_16 : decode cX8_oil 16 = .ok (.iconst 0, 1) := by decide +kernel
theorem dX8_oil_17 : decode cX8_oil 17 = .ok (.istore_n 3, 1) := by decide +kernel
theorem dX8_oil_18 : decode cX8_oil 18 = .ok (.iload_n 3, 1) := by decide +kernel
theorem dX8_oil_19 : decode cX8_oil 19 = .ok (.bipush 20, 2) := by decide +kernel
theorem dX8_oil_21 : decode cX8_oil 21 = .ok (.if_icmp .ge 28, 3) := by decide +kernel
theorem dX8_oil_24 : decode cX8_oil 24 = .ok (.iload_n 2, 1) := by decide +kernel
theorem dX8_oil_25 : decode cX8_oil 25 = .ok (.aload_n 0, 1) := by decide +kernel
theorem dX8_oil_26 : decode cX8_oil 26 = .ok (.getfield 38, 3) := by decide +kernel
theorem dX8_oil_29 : decode cX8_oil 29 = .ok (.aload_n 0, 1) := by decide +kernel
theorem dX8_oil_30 : decode cX8_oil 30 = .ok (.getfield 45, 3) := by decide +kernel
theorem dX8_oil_33 : decode cX8_oil 33 = .ok (.getfield 182, 3) := by decide +kernel
theorem dX8_oil_36 : decode cX8_oil 36 = .ok (.iload_n 3, 1) := by decide +kernel
theorem dX8_oil_37 : decode cX8_oil 37 = .ok (.iaload, 1) := by decide +kernel
theorem dX8_oil_38 : decode cX8_oil 38 = .ok (.invokevirtual 215, 3) := by decide +kernel
theorem dX8_oil_41 : decode cX8_oil 41 = .ok (.ior, 1) := by decide +kernel
theorem dX8_oil_42 : decode cX8_oil 42 = .ok (.istore_n 2, 1) := by decide +kernel
theorem dX8_oil_43 : decode cX8_oil 43 = .ok (.iinc 3 1, 3) := by decide +kernel
theorem dX8_oil_46 : decode cX8_oil 46 = .ok (.goto (-28), 3) := by decide +kernel
theorem dX8_oil_49 : decode cX8_oil 49 = .ok (.iload_n 2, 1) := by decide +kernel
theorem dX8_oil_50 : decode cX8_oil 50 = .ok (.invokestatic 210, 3) := by decide +kernel
theorem dX8_oil_53 : decode cX8_oil 53 = .ok (.istore_n 3, 1) := by decide +kernel
theorem dX8_oil_54 : decode cX8_oil 54 = .ok (.iload_n 3, 1) := by decide +kernel
theorem dX8_oil_55 : decode cX8_oil 55 = .ok (.iconst 3, 1) := by decide +kernel
theorem dX8_oil_56 : decode cX8_oil 56 = .ok (.if_icmp .le 5, 3) := by decide +kernel
theorem dX8_oil_59 : decode cX8_oil 59 = .ok (.iconst (-1), 1) := by decide +kernel
theorem dX8_oil_60 : decode cX8_oil 60 = .ok (.ireturn, 1) := by decide +kernel
theorem dX8_oil_61 : decode cX8_oil 61 = .ok (.iload_n 1, 1) := by decide +kernel
theorem dX8_oil_62 : decode cX8_oil 62 = .ok (.ifCond .ne 7, 3) := by decide +kernel
theorem dX8_oil_65 : decode cX8_oil 65 = .ok (.iload_n 3, 1) := by decide +kernel
theorem dX8_oil_66 : decode cX8_oil 66 = .ok (.goto 4, 3) := by decide +kernel
theorem dX8_oil_69 : decode cX8_oil 69 = .ok (.iload_n 2, 1) := by decide +kernel
theorem dX8_oil_70 : decode cX8_oil 70 = .ok (.ireturn, 1) := by decide +kernel
theorem dX8_when_0 : decode cX8_when 0 = .ok (.aload_n 0, 1) := by decide +kernel
theorem dX8_when_1 : decode cX8_when 1 = .ok (.invokevirtual 124, 3) := by decide +kernel
theorem dX8_when_4 : decode cX8_when 4 = .ok (.aload_n 0, 1) := by decide +kernel
theorem dX8_when_5 : decode cX8_when 5 = .ok (.iload_n 1, 1) := by decide +kernel
theorem dX8_when_6 : decode cX8_when 6 = .ok (.invokevirtual 127, 3) := by decide +kernel
theorem dX8_when_9 : decode cX8_when 9 = .ok (.ifCond .eq 10, 3) := by decide +kernel
theorem dX8_when_12 : decode cX8_when 12 = .ok (.iload_n 2, 1) := by decide +kernel
theorem dX8_when_13 : decode cX8_when 13 = .ok (.invokestatic 158, 3) := by decide +kernel
theorem dX8_when_16 : decode cX8_when 16 = .ok (.ifCond .ne 6, 3) := by decide +kernel
theorem dX8_when_19 : decode cX8_when 19 = .ok (.bipush (-2), 2) := by decide +kernel
theorem dX8_when_21 : decode cX8_when 21 = .ok (.ireturn, 1) := by decide +kernel
theorem dX8_when_22 : decode cX8_when 22 = .ok (.aload_n 0, 1) := by decide +kernel
theorem dX8_when_23 : decode cX8_when 23 = .ok (.iload_n 1, 1) := by decide +kernel
theorem dX8_when_24 : decode cX8_when 24 = .ok (.invokevirtual 227, 3) := by decide +kernel
theorem dX8_when_27 : decode cX8_when 27 = .ok (.aload_n 0, 1) := by decide +kernel
theorem dX8_when_28 : decode cX8_when 28 = .ok (.getfield 65, 3) := by decide +kernel
theorem dX8_when_31 : decode cX8_when 31 = .ok (.iload_n 2, 1) := by decide +kernel
theorem dX8_when_32 : decode cX8_when 32 = .ok (.invokevirtual 230, 3) := by decide +kernel
theorem dX8_when_35 : decode cX8_when 35 = .ok (.ireturn, 1) := by decide +kernel
theorem dX8_place_0 : decode cX8_place 0 = .ok (.aload_n 0, 1) := by decide +kernel
theorem dX8_place_1 : decode cX8_place 1 = .ok (.invokevirtual 124, 3) := by decide +kernel
theorem dX8_place_4 : decode cX8_place 4 = .ok (.aload_n 0, 1) := by decide +kernel
theorem dX8_place_5 : decode cX8_place 5 = .ok (.iload_n 1, 1) := by decide +kernel
theorem dX8_place_6 : decode cX8_place 6 = .ok (.invokevirtual 127, 3) := by decide +kernel
theorem dX8_place_9 : decode cX8_place 9 = .ok (.ifCond .eq 10, 3) := by decide +kernel
theorem dX8_place_12 : decode cX8_place 12 = .ok (.iload_n 2, 1) := by decide +kernel
theorem dX8_place_13 : decode cX8_place 13 = .ok (.invokestatic 158, 3) := by decide +kernel
theorem dX8_place_16 : decode cX8_place 16 = .ok (.ifCond .ne 6, 3) := by decide +kernel
theorem dX8_place_19 : decode cX8_place 19 = .ok (.bipush (-2), 2) := by decide +kernel
theorem dX8_place_21 : decode cX8_place 21 = .ok (.ireturn, 1) := by decide +kernel
theorem dX8_place_22 : decode cX8_place 22 = .ok (.aload_n 0, 1) := by decide +kernel
theorem dX8_place_23 : decode cX8_place 23 = .ok (.iload_n 1, 1) := by decide +kernel
theorem dX8_place_24 : decode cX8_place 24 = .ok (.invokevirtual 233, 3) := by decide +kernel
theorem dX8_place_27 : decode cX8_place 27 = .ok (.aload_n 0, 1) := by decide +kernel
theorem dX8_place_28 : decode cX8_place 28 = .ok (.getfield 65, 3) := by decide +kernel
theorem dX8_place_31 : decode cX8_place 31 = .ok (.iload_n 2, 1) := by decide +kernel
theorem dX8_place_32 : decode cX8_place 32 = .ok (.invokevirtual 230, 3) := by decide +kernel
theorem dX8_place_35 : decode cX8_place 35 = .ok (.ireturn, 1) := by decide +kernel
theorem dX8_dry_0 : decode cX8_dry 0 = .ok (.iload_n 1, 1) := by decide +kernel
theorem dX8_dry_1 : decode cX8_dry 1 = .ok (.invokestatic 158, 3) := by decide +kernel
theorem dX8_dry_4 : decode cX8_dry 4 = .ok (.ifCond .ne 6, 3) := by decide +kernel
theorem dX8_dry_7 : decode cX8_dry 7 = .ok (.bipush (-2), 2) := by decide +kernel
theorem dX8_dry_9 : decode cX8_dry 9 = .ok (.ireturn, 1) := by decide +kernel
theorem dX8_dry_10 : decode cX8_dry 10 = .ok (.aload_n 0, 1) := by decide +kernel
theorem dX8_dry_11 : decode cX8_dry 11 = .ok (.invokevirtual 124, 3) := by decide +kernel
theorem dX8_dry_14 : decode cX8_dry 14 = .ok (.aload_n 0, 1) := by decide +kernel
theorem dX8_dry_15 : decode cX8_dry 15 = .ok (.invokevirtual 236, 3) := by decide +kernel
theorem dX8_dry_18 : decode cX8_dry 18 = .ok (.aload_n 0, 1) := by decide +kernel
theorem dX8_dry_19 : decode cX8_dry 19 = .ok (.getfield 65, 3) := by decide +kernel
theorem dX8_dry_22 : decode cX8_dry 22 = .ok (.iload_n 1, 1) := by decide +kernel
theorem dX8_dry_23 : decode cX8_dry 23 = .ok (.invokevirtual 230, 3) := by decide +kernel
theorem dX8_dry_26 : decode cX8_dry 26 = .ok (.ireturn, 1) := by decide +kernel
theorem dX8_seen_0 : decode cX8_seen 0 = .ok (.iload_n 1, 1) := by decide +kernel
theorem dX8_seen_1 : decode cX8_seen 1 = .ok (.invokestatic 121, 3) := by decide +kernel
theorem dX8_seen_4 : decode cX8_seen 4 = .ok (.ifCond .eq 20, 3) := by decide +kernel
theorem dX8_seen_7 : decode cX8_seen 7 = .ok (.iload_n 2, 1) := by decide +kernel
theorem dX8_seen_8 : decode cX8_seen 8 = .ok (.invokestatic 179, 3) := by decide +kernel
theorem dX8_seen_11 : decode cX8_seen 11 = .ok (.ifCond .eq 13, 3) := by decide +kernel
theorem dX8_seen_14 : decode cX8_seen 14 = .ok (.iload_n 3, 1) := by decide +kernel
theorem dX8_seen_15 : decode cX8_seen 15 = .ok (.ifCond .lt 9, 3) := by decide +kernel
theorem dX8_seen_18 : decode cX8_seen 18 = .ok (.iload_n 3, 1) := by decide +kernel
theorem dX8_seen_19 : decode cX8_seen 19 = .ok (.bipush 6, 2) := by decide +kernel
theorem dX8_seen_21 : decode cX8_seen 21 = .ok (.if_icmp .le 6, 3) := by decide +kernel
theorem dX8_seen_24 : decode cX8_seen 24 = .ok (.bipush (-2), 2) := by decide +kernel
theorem dX8_seen_26 : decode cX8_seen 26 = .ok (.ireturn, 1) := by decide +kernel
theorem dX8_seen_27 : decode cX8_seen 27 = .ok (.aload_n 0, 1) := by decide +kernel
theorem dX8_seen_28 : decode cX8_seen 28 = .ok (.getfield 58, 3) := by decide +kernel
theorem dX8_seen_31 : decode cX8_seen 31 = .ok (.iload_n 1, 1) := by decide +kernel
theorem dX8_seen_32 : decode cX8_seen 32 = .ok (.iload_n 2, 1) := by decide +kernel
theorem dX8_seen_33 : decode cX8_seen 33 = .ok (.iload_n 3, 1) := by decide +kernel
theorem dX8_seen_34 : decode cX8_seen 34 = .ok (.invokevirtual 239, 3) := by decide +kernel
theorem dX8_seen_37 : decode cX8_seen 37 = .ok (.ifCond .eq 13, 3) := by decide +kernel
theorem dX8_seen_40 : decode cX8_seen 40 = .ok (.aload_n 0, 1) := by decide +kernel
theorem dX8_seen_41 : decode cX8_seen 41 = .ok (.getfield 58, 3) := by decide +kernel
theorem dX8_seen_44 : decode cX8_seen 44 = .ok (.getfield 242, 3) := by decide +kernel
theorem dX8_seen_47 : decode cX8_seen 47 = .ok (.goto 5, 3) := by decide +kernel
theorem dX8_seen_50 : decode cX8_seen 50 = .ok (.bipush (-4), 2) := by decide +kernel
theorem dX8_seen_52 : decode cX8_seen 52 = .ok (.ireturn, 1) := by decide +kernel
theorem dX8_forget_0 : decode cX8_forget 0 = .ok (.aload_n 0, 1) := by decide +kernel
theorem dX8_forget_1 : decode cX8_forget 1 = .ok (.getfield 58, 3) := by decide +kernel
theorem dX8_forget_4 : decode cX8_forget 4 = .ok (.getfield 242, 3) := by decide +kernel
theorem dX8_forget_7 : decode cX8_forget 7 = .ok (.istore_n 1, 1) := by decide +kernel
theorem dX8_forget_8 : decode cX8_forget 8 = .ok (.aload_n 0, 1) := by decide +kernel
theorem dX8_forget_9 : decode cX8_forget 9 = .ok (.getfield 58, 3) := by decide +kernel
theorem dX8_forget_12 : decode cX8_forget 12 = .ok (.iconst 0, 1) := by decide +kernel
theorem dX8_forget_13 : decode cX8_forget 13 = .ok (.putfield 242, 3) := by decide +kernel
theorem dX8_forget_16 : decode cX8_forget 16 = .ok (.iload_n 1, 1) := by decide +kernel
theorem dX8_forget_17 : decode cX8_forget 17 = .ok (.ireturn, 1) := by decide +kernel
theorem dX8_never_0 : decode cX8_never 0 = .ok (.aload_n 0, 1) := by decide +kernel
theorem dX8_never_1 : decode cX8_never 1 = .ok (.invokevirtual 124, 3) := by decide +kernel
theorem dX8_never_4 : decode cX8_never 4 = .ok (.iconst 0, 1) := by decide +kernel
theorem dX8_never_5 : decode cX8_never 5 = .ok (.istore_n 1, 1) := by decide +kernel
theorem dX8_never_6 : decode cX8_never 6 = .ok (.iconst 0, 1) := by decide +kernel
theorem dX8_never_7 : decode cX8_never 7 = .ok (.istore_n 2, 1) := by decide +kernel
theorem dX8_never_8 : decode cX8_never 8 = .ok (.iload_n 2, 1) := by decide +kernel
theorem dX8_never_9 : decode cX8_never 9 = .ok (.aload_n 0, 1) := by decide +kernel
theorem dX8_never_10 : decode cX8_never 10 = .ok (.getfield 38, 3) := by decide +kernel
theorem dX8_never_13 : decode cX8_never 13 = .ok (.getfield 221, 3) := by decide +kernel
theorem dX8_never_16 : decode cX8_never 16 = .ok (.if_icmp .ge 44, 3) := by decide +kernel
theorem dX8_never_19 : decode cX8_never 19 = .ok (.aload_n 0, 1) := by decide +kernel
theorem dX8_never_20 : decode cX8_never 20 = .ok (.iload_n 2, 1) := by decide +kernel
theorem dX8_never_21 : decode cX8_never 21 = .ok (.invokevirtual 243, 3) := by decide +kernel
theorem dX8_never_24 : decode cX8_never 24 = .ok (.aload_n 0, 1) := by decide +kernel
theorem dX8_never_25 : decode cX8_never 25 = .ok (.aload_n 0, 1) := by decide +kernel
theorem dX8_never_26 : decode cX8_never 26 = .ok (.getfield 49, 3) := by decide +kernel
theorem dX8_never_29 : decode cX8_never 29 = .ok (.aload_n 0, 1) := by decide +kernel
theorem dX8_never_30 : decode cX8_never 30 = .ok (.getfield 52, 3) := by decide +kernel
theorem dX8_never_33 : decode cX8_never 33 = .ok (.aload_n 0, 1) := by decide +kernel
theorem dX8_never_34 : decode cX8_never 34 = .ok (.getfield 38, 3) := by decide +kernel
theorem dX8_never_37 : decode cX8_never 37 = .ok (.getfield 133, 3) := by decide +kernel
theorem dX8_never_40 : decode cX8_never 40 = .ok (.iload_n 2, 1) := by decide +kernel
theorem dX8_never_41 : decode cX8_never 41 = .ok (.iaload, 1) := by decide +kernel
theorem dX8_never_42 : decode cX8_never 42 = .ok (.invokevirtual 246, 3) := by decide +kernel
theorem dX8_never_45 : decode cX8_never 45 = .ok (.ifCond .eq 9, 3) := by decide +kernel
theorem dX8_never_48 : decode cX8_never 48 = .ok (.iload_n 1, 1) := by decide +kernel
theorem dX8_never_49 : decode cX8_never 49 = .ok (.iconst 1, 1) := by decide +kernel
theorem dX8_never_50 : decode cX8_never 50 = .ok (.iload_n 2, 1) := by decide +kernel
theorem dX8_never_51 : decode cX8_never 51 = .ok (.ishl, 1) := by decide +kernel
theorem dX8_never_52 : decode cX8_never 52 = .ok (.ior, 1) := by decide +kernel
theorem dX8_never_53 : decode cX8_never 53 = .ok (.istore_n 1, 1) := by decide +kernel
theorem dX8_never_54 : decode cX8_never 54 = .ok (.iinc 2 1, 3) := by decide +kernel
theorem dX8_never_57 : decode cX8_never 57 = .ok (.goto (-49), 3) := by decide +kernel
theorem dX8_never_60 : decode cX8_never 60 = .ok (.iload_n 1, 1) := by decide +kernel
theorem dX8_never_61 : decode cX8_never 61 = .ok (.ireturn, 1) := by decide +kernel
theorem dX8_sign_0 : decode cX8_sign 0 = .ok (.aload_n 0, 1) := by decide +kernel
theorem dX8_sign_1 : decode cX8_sign 1 = .ok (.invokevirtual 124, 3) := by decide +kernel
theorem dX8_sign_4 : decode cX8_sign 4 = .ok (.aload_n 0, 1) := by decide +kernel
theorem dX8_sign_5 : decode cX8_sign 5 = .ok (.iload_n 1, 1) := by decide +kernel
theorem dX8_sign_6 : decode cX8_sign 6 = .ok (.invokevirtual 127, 3) := by decide +kernel
theorem dX8_sign_9 : decode cX8_sign 9 = .ok (.ifCond .ne 6, 3) := by decide +kernel
theorem dX8_sign_12 : decode cX8_sign 12 = .ok (.bipush (-2), 2) := by decide +kernel
theorem dX8_sign_14 : decode cX8_sign 14 = .ok (.ireturn, 1) := by decide +kernel
theorem dX8_sign_15 : decode cX8_sign 15 = .ok (.aload_n 0, 1) := by decide +kernel
theorem dX8_sign_16 : decode cX8_sign 16 = .ok (.getfield 49, 3) := by decide +kernel
theorem dX8_sign_19 : decode cX8_sign 19 = .ok (.aload_n 0, 1) := by decide +kernel
theorem dX8_sign_20 : decode cX8_sign 20 = .ok (.getfield 38, 3) := by decide +kernel
theorem dX8_sign_23 : decode cX8_sign 23 = .ok (.invokevirtual 250, 3) := by decide +kernel
theorem dX8_sign_26 : decode cX8_sign 26 = .ok (.iconst 0, 1) := by decide +kernel
theorem dX8_sign_27 : decode cX8_sign 27 = .ok (.istore_n 2, 1) := by decide +kernel
theorem dX8_sign_28 : decode cX8_sign 28 = .ok (.iconst 0, 1) := by decide +kernel
theorem dX8_sign_29 : decode cX8_sign 29 = .ok (.istore_n 3, 1) := by decide +kernel
theorem dX8_sign_30 : decode cX8_sign 30 = .ok (.iload_n 3, 1) := by decide +kernel
theorem dX8_sign_31 : decode cX8_sign 31 = .ok (.bipush 6, 2) := by decide +kernel
theorem dX8_sign_33 : decode cX8_sign 33 = .ok (.if_icmp .ge 49, 3) := by decide +kernel
theorem dX8_sign_36 : decode cX8_sign 36 = .ok (.aload_n 0, 1) := by decide +kernel
theorem dX8_sign_37 : decode cX8_sign 37 = .ok (.getfield 49, 3) := by decide +kernel
theorem dX8_sign_40 : decode cX8_sign 40 = .ok (.getfield 136, 3) := by decide +kernel
theorem dX8_sign_43 : decode cX8_sign 43 = .ok (.iload_n 1, 1) := by decide +kernel
theorem dX8_sign_44 : decode cX8_sign 44 = .ok (.iload_n 3, 1) := by decide +kernel
theorem dX8_sign_45 : decode cX8_sign 45 = .ok (.iastore, 1) := by decide +kernel
theorem dX8_sign_46 : decode cX8_sign 46 = .ok (.aload_n 0, 1) := by decide +kernel
theorem dX8_sign_47 : decode cX8_sign 47 = .ok (.aload_n 0, 1) := by decide +kernel
theorem dX8_sign_48 : decode cX8_sign 48 = .ok (.getfield 49, 3) := by decide +kernel
theorem dX8_sign_51 : decode cX8_sign 51 = .ok (.aload_n 0, 1) := by decide +kernel
theorem dX8_sign_52 : decode cX8_sign 52 = .ok (.getfield 45, 3) := by decide +kernel
theorem dX8_sign_55 : decode cX8_sign 55 = .ok (.aload_n 0, 1) := by decide +kernel
theorem dX8_sign_56 : decode cX8_sign 56 = .ok (.getfield 38, 3) := by decide +kernel
theorem dX8_sign_59 : decode cX8_sign 59 = .ok (.getfield 133, 3) := by decide +kernel
theorem dX8_sign_62 : decode cX8_sign 62 = .ok (.iload_n 1, 1) := by decide +kernel
theorem dX8_sign_63 : decode cX8_sign 63 = .ok (.iaload, 1) := by decide +kernel
theorem dX8_sign_64 : decode cX8_sign 64 = .ok (.invokevirtual 246, 3) := by decide +kernel
theorem dX8_sign_67 : decode cX8_sign 67 = .ok (.ifCond .eq 9, 3) := by decide +kernel
theorem dX8_sign_70 : decode cX8_sign 70 = .ok (.iload_n 2, 1) := by decide +kernel
theorem dX8_sign_71 : decode cX8_sign 71 = .ok (.iconst 1, 1) := by decide +kernel
theorem dX8_sign_72 : decode cX8_sign 72 = .ok (.iload_n 3, 1) := by decide +kernel
theorem dX8_sign_73 : decode cX8_sign 73 = .ok (.ishl, 1) := by decide +kernel
theorem dX8_sign_74 : decode cX8_sign 74 = .ok (.ior, 1) := by decide +kernel
theorem dX8_sign_75 : decode cX8_sign 75 = .ok (.istore_n 2, 1) := by decide +kernel
theorem dX8_sign_76 : decode cX8_sign 76 = .ok (.iinc 3 1, 3) := by decide +kernel
theorem dX8_sign_79 : decode cX8_sign 79 = .ok (.goto (-49), 3) := by decide +kernel
theorem dX8_sign_82 : decode cX8_sign 82 = .ok (.iload_n 2, 1) := by decide +kernel
theorem dX8_sign_83 : decode cX8_sign 83 = .ok (.ireturn, 1) := by decide +kernel
theorem dX8_chalk_0 : decode cX8_chalk 0 = .ok (.aload_n 0, 1) := by decide +kernel
theorem dX8_chalk_1 : decode cX8_chalk 1 = .ok (.invokevirtual 124, 3) := by decide +kernel
theorem dX8_chalk_4 : decode cX8_chalk 4 = .ok (.aload_n 0, 1) := by decide +kernel
theorem dX8_chalk_5 : decode cX8_chalk 5 = .ok (.iload_n 1, 1) := by decide +kernel
theorem dX8_chalk_6 : decode cX8_chalk 6 = .ok (.invokevirtual 127, 3) := by decide +kernel
theorem dX8_chalk_9 : decode cX8_chalk 9 = .ok (.ifCond .ne 6, 3) := by decide +kernel
theorem dX8_chalk_12 : decode cX8_chalk 12 = .ok (.bipush (-2), 2) := by decide +kernel
theorem dX8_chalk_14 : decode cX8_chalk 14 = .ok (.ireturn, 1) := by decide +kernel
theorem dX8_chalk_15 : decode cX8_chalk 15 = .ok (.aload_n 0, 1) := by decide +kernel
theorem dX8_chalk_16 : decode cX8_chalk 16 = .ok (.getfield 38, 3) := by decide +kernel
theorem dX8_chalk_19 : decode cX8_chalk 19 = .ok (.getfield 133, 3) := by decide +kernel
theorem dX8_chalk_22 : decode cX8_chalk 22 = .ok (.iload_n 1, 1) := by decide +kernel
theorem dX8_chalk_23 : decode cX8_chalk 23 = .ok (.iaload, 1) := by decide +kernel
theorem dX8_chalk_24 : decode cX8_chalk 24 = .ok (.istore_n 2, 1) := by decide +kernel
theorem dX8_chalk_25 : decode cX8_chalk 25 = .ok (.aload_n 0, 1) := by decide +kernel
theorem dX8_chalk_26 : decode cX8_chalk 26 = .ok (.getfield 49, 3) := by decide +kernel
theorem dX8_chalk_29 : decode cX8_chalk 29 = .ok (.aload_n 0, 1) := by decide +kernel
theorem dX8_chalk_30 : decode cX8_chalk 30 = .ok (.getfield 38, 3) := by decide +kernel
theorem dX8_chalk_33 : decode cX8_chalk 33 = .ok (.invokevirtual 250, 3) := by decide +kernel
theorem dX8_chalk_36 : decode cX8_chalk 36 = .ok (.aload_n 0, 1) := by decide +kernel
theorem dX8_chalk_37 : decode cX8_chalk 37 = .ok (.getfield 49, 3) := by decide +kernel
theorem dX8_chalk_40 : decode cX8_chalk 40 = .ok (.aload_n 0, 1) := by decide +kernel
theorem dX8_chalk_41 : decode cX8_chalk 41 = .ok (.getfield 49, 3) := by decide +kernel
theorem dX8_chalk_44 : decode cX8_chalk 44 = .ok (.iload_n 2, 1) := by decide +kernel
theorem dX8_chalk_45 : decode cX8_chalk 45 = .ok (.invokevirtual 254, 3) := by decide +kernel
theorem dX8_chalk_48 : decode cX8_chalk 48 = .ok (.aload_n 0, 1) := by decide +kernel
theorem dX8_chalk_49 : decode cX8_chalk 49 = .ok (.getfield 31, 3) := by decide +kernel
theorem dX8_chalk_52 : decode cX8_chalk 52 = .ok (.invokevirtual 257, 3) := by decide +kernel
theorem dX8_chalk_55 : decode cX8_chalk 55 = .ok (.iconst 0, 1) := by decide +kernel
theorem dX8_chalk_56 : decode cX8_chalk 56 = .ok (.istore_n 3, 1) := by decide +kernel
theorem dX8_chalk_57 : decode cX8_chalk 57 = .ok (.iconst 1, 1) := by decide +kernel
theorem dX8_chalk_58 : decode cX8_chalk 58 = .ok (.istore 4, 2) := by decide +kernel
theorem dX8_chalk_60 : decode cX8_chalk 60 = .ok (.iload 4, 2) := by decide +kernel
theorem dX8_chalk_62 : decode cX8_chalk 62 = .ok (.bipush 9, 2) := by decide +kernel
theorem dX8_chalk_64 : decode cX8_chalk 64 = .ok (.if_icmp .gt 62, 3) := by decide +kernel
theorem dX8_chalk_67 : decode cX8_chalk 67 = .ok (.aload_n 0, 1) := by decide +kernel
theorem dX8_chalk_68 : decode cX8_chalk 68 = .ok (.getfield 49, 3) := by decide +kernel
theorem dX8_chalk_71 : decode cX8_chalk 71 = .ok (.getfield 139, 3) := by decide +kernel
theorem dX8_chalk_74 : decode cX8_chalk 74 = .ok (.iload_n 1, 1) := by decide +kernel
theorem dX8_chalk_75 : decode cX8_chalk 75 = .ok (.iload 4, 2) := by decide +kernel
theorem dX8_chalk_77 : decode cX8_chalk 77 = .ok (.iastore, 1) := by decide +kernel
theorem dX8_chalk_78 : decode cX8_chalk 78 = .ok (.aload_n 0, 1) := by decide +kernel
theorem dX8_chalk_79 : decode cX8_chalk 79 = .ok (.getfield 52, 3) := by decide +kernel
theorem dX8_chalk_82 : decode cX8_chalk 82 = .ok (.aload_n 0, 1) := by decide +kernel
theorem dX8_chalk_83 : decode cX8_chalk 83 = .ok (.getfield 49, 3) := by decide +kernel
theorem dX8_chalk_86 : decode cX8_chalk 86 = .ok (.aload_n 0, 1) := by decide +kernel
theorem dX8_chalk_87 : decode cX8_chalk 87 = .ok (.getfield 21, 3) := by decide +kernel
theorem dX8_chalk_90 : decode cX8_chalk 90 = .ok (.aload_n 0, 1) := by decide +kernel
theorem dX8_chalk_91 : decode cX8_chalk 91 = .ok (.getfield 89, 3) := by decide +kernel
theorem dX8_chalk_94 : decode cX8_chalk 94 = .ok (.invokevirtual 261, 3) := by decide +kernel
theorem dX8_chalk_97 : decode cX8_chalk 97 = .ok (.aload_n 0, 1) := by decide +kernel
theorem dX8_chalk_98 : decode cX8_chalk 98 = .ok (.aload_n 0, 1) := by decide +kernel
theorem dX8_chalk_99 : decode cX8_chalk 99 = .ok (.getfield 49, 3) := by decide +kernel
theorem dX8_chalk_102 : decode cX8_chalk 102 = .ok (.aload_n 0, 1) := by decide +kernel
theorem dX8_chalk_103 : decode cX8_chalk 103 = .ok (.getfield 52, 3) := by decide +kernel
theorem dX8_chalk_106 : decode cX8_chalk 106 = .ok (.iload_n 2, 1) := by decide +kernel
theorem dX8_chalk_107 : decode cX8_chalk 107 = .ok (.invokevirtual 246, 3) := by decide +kernel
theorem dX8_chalk_110 : decode cX8_chalk 110 = .ok (.ifCond .eq 10, 3) := by decide +kernel
theorem dX8_chalk_113 : decode cX8_chalk 113 = .ok (.iload_n 3, 1) := by decide +kernel
theorem dX8_chalk_114 : decode cX8_chalk 114 = .ok (.iconst 1, 1) := by decide +kernel
theorem dX8_chalk_115 : decode cX8_chalk 115 = .ok (.iload 4, 2) := by decide +kernel
theorem dX8_chalk_117 : decode cX8_chalk 117 = .ok (.ishl, 1) := by decide +kernel
theorem dX8_chalk_118 : decode cX8_chalk 118 = .ok (.ior, 1) := by decide +kernel
theorem dX8_chalk_119 : decode cX8_chalk 119 = .ok (.istore_n 3, 1) := by decide +kernel
theorem dX8_chalk_120 : decode cX8_chalk 120 = .ok (.iinc 4 1, 3) := by decide +kernel
theorem dX8_chalk_123 : decode cX8_chalk 123 = .ok (.goto (-63), 3) := by decide +kernel
theorem dX8_chalk_126 : decode cX8_chalk 126 = .ok (.iload_n 3, 1) := by decide +kernel
theorem dX8_chalk_127 : decode cX8_chalk 127 = .ok (.ireturn, 1) := by decide +kernel
theorem dX8_ask_0 : decode cX8_ask 0 = .ok (.iload_n 1, 1) := by decide +kernel
theorem dX8_ask_1 : decode cX8_ask 1 = .ok (.invokestatic 179, 3) := by decide +kernel
theorem dX8_ask_4 : decode cX8_ask 4 = .ok (.ifCond .ne 6, 3) := by decide +kernel
theorem dX8_ask_7 : decode cX8_ask 7 = .ok (.bipush (-2), 2) := by decide +kernel
theorem dX8_ask_9 : decode cX8_ask 9 = .ok (.ireturn, 1) := by decide +kernel
theorem dX8_ask_10 : decode cX8_ask 10 = .ok (.aload_n 0, 1) := by decide +kernel
theorem dX8_ask_11 : decode cX8_ask 11 = .ok (.invokevirtual 265, 3) := by decide +kernel
theorem dX8_ask_14 : decode cX8_ask 14 = .ok (.istore_n 2, 1) := by decide +kernel
theorem dX8_ask_15 : decode cX8_ask 15 = .ok (.aload_n 0, 1) := by decide +kernel
theorem dX8_ask_16 : decode cX8_ask 16 = .ok (.iload_n 2, 1) := by decide +kernel
theorem dX8_ask_17 : decode cX8_ask 17 = .ok (.iload_n 1, 1) := by decide +kernel
theorem dX8_ask_18 : decode cX8_ask 18 = .ok (.invokevirtual 268, 3) := by decide +kernel
theorem dX8_ask_21 : decode cX8_ask 21 = .ok (.aload_n 0, 1) := by decide +kernel
theorem dX8_ask_22 : decode cX8_ask 22 = .ok (.getfield 65, 3) := by decide +kernel
theorem dX8_ask_25 : decode cX8_ask 25 = .ok (.invokevirtual 272, 3) := by decide +kernel
theorem dX8_ask_28 : decode cX8_ask 28 = .ok (.iconst 0, 1) := by decide +kernel
theorem dX8_ask_29 : decode cX8_ask 29 = .ok (.istore_n 3, 1) := by decide +kernel
theorem dX8_ask_30 : decode cX8_ask 30 = .ok (.iload_n 3, 1) := by decide +kernel
theorem dX8_ask_31 : decode cX8_ask 31 = .ok (.bipush 20, 2) := by decide +kernel
theorem dX8_ask_33 : decode cX8_ask 33 = .ok (.if_icmp .ge 23, 3) := by decide +kernel
theorem dX8_ask_36 : decode cX8_ask 36 = .ok (.aload_n 0, 1) := by decide +kernel
theorem dX8_ask_37 : decode cX8_ask 37 = .ok (.getfield 65, 3) := by decide +kernel
theorem dX8_ask_40 : decode cX8_ask 40 = .ok (.iload_n 3, 1) := by decide +kernel
theorem dX8_ask_41 : decode cX8_ask 41 = .ok (.aload_n 0, 1) := by decide +kernel
theorem dX8_ask_42 : decode cX8_ask 42 = .ok (.iload_n 2, 1) := by decide +kernel
theorem dX8_ask_43 : decode cX8_ask 43 = .ok (.iload_n 3, 1) := by decide +kernel
theorem dX8_ask_44 : decode cX8_ask 44 = .ok (.invokevirtual 275, 3) := by decide +kernel
theorem dX8_ask_47 : decode cX8_ask 47 = .ok (.invokevirtual 278, 3) := by decide +kernel
theorem dX8_ask_50 : decode cX8_ask 50 = .ok (.iinc 3 1, 3) := by decide +kernel
theorem dX8_ask_53 : decode cX8_ask 53 = .ok (.goto (-23), 3) := by decide +kernel
theorem dX8_ask_56 : decode cX8_ask 56 = .ok (.aload_n 0, 1) := by decide +kernel
theorem dX8_ask_57 : decode cX8_ask 57 = .ok (.getfield 65, 3) := by decide +kernel
theorem dX8_ask_60 : decode cX8_ask 60 = .ok (.getfield 281, 3) := by decide +kernel
theorem dX8_ask_63 : decode cX8_ask 63 = .ok (.ireturn, 1) := by decide +kernel
theorem dX8_dryness_0 : decode cX8_dryness 0 = .ok (.iload_n 1, 1) := by decide +kernel
theorem dX8_dryness_1 : decode cX8_dryness 1 = .ok (.ifCond .lt 34, 3) := by decide +kernel
theorem dX8_dryness_4 : decode cX8_dryness 4 = .ok (.iload_n 1, 1) := by decide +kernel
theorem dX8_dryness_5 : decode cX8_dryness 5 = .ok (.bipush 16, 2) := by decide +kernel
theorem dX8_dryness_7 : decode cX8_dryness 7 = .ok (.if_icmp .gt 28, 3) := by decide +kernel
theorem dX8_dryness_10 : decode cX8_dryness 10 = .ok (.iload_n 2, 1) := by decide +kernel
theorem dX8_dryness_11 : decode cX8_dryness 11 = .ok (.ifCond .lt 24, 3) := by decide +kernel
theorem dX8_dryness_14 : decode cX8_dryness 14 = .ok (.iload_n 2, 1) := by decide +kernel
theorem dX8_dryness_15 : decode cX8_dryness 15 = .ok (.bipush 9, 2) := by decide +kernel
theorem dX8_dryness_17 : decode cX8_dryness 17 = .ok (.if_icmp .gt 18, 3) := by decide +kernel
theorem dX8_dryness_20 : decode cX8_dryness 20 = .ok (.iload_n 3, 1) := by decide +kernel
theorem dX8_dryness_21 : decode cX8_dryness 21 = .ok (.invokestatic 121, 3) := by decide +kernel
theorem dX8_dryness_24 : decode cX8_dryness 24 = .ok (.ifCond .eq 11, 3) := by decide +kernel
theorem dX8_dryness_27 : decode cX8_dryness 27 = .ok (.iload 4, 2) := by decide +kernel
theorem dX8_dryness_29 : decode cX8_dryness 29 = .ok (.invokestatic 158, 3) := by decide +kernel
theorem dX8_dryness_32 : decode cX8_dryness 32 = .ok (.ifCond .ne 7, 3) := by decide +kernel
theorem dX8_dryness_35 : decode cX8_dryness 35 = .ok (.ldc2_w 286, 3) := by decide +kernel
theorem dX8_dryness_38 : decode cX8_dryness 38 = .ok (.lreturn, 1) := by decide +kernel
theorem dX8_dryness_39 : decode cX8_dryness 39 = .ok (.aload_n 0, 1) := by decide +kernel
theorem dX8_dryness_40 : decode cX8_dryness 40 = .ok (.invokevirtual 124, 3) := by decide +kernel
theorem dX8_dryness_43 : decode cX8_dryness 43 = .ok (.aload_n 0, 1) := by decide +kernel
theorem dX8_dryness_44 : decode cX8_dryness 44 = .ok (.iload_n 1, 1) := by decide +kernel
theorem dX8_dryness_45 : decode cX8_dryness 45 = .ok (.iload_n 2, 1) := by decide +kernel
theorem dX8_dryness_46 : decode cX8_dryness 46 = .ok (.iload_n 3, 1) := by decide +kernel
theorem dX8_dryness_47 : decode cX8_dryness 47 = .ok (.invokevirtual 288, 3) := by decide +kernel
theorem dX8_dryness_50 : decode cX8_dryness 50 = .ok (.iload 4, 2) := by decide +kernel
theorem dX8_dryness_52 : decode cX8_dryness 52 = .ok (.ifCond .ne 13, 3) := by decide +kernel
theorem dX8_dryness_55 : decode cX8_dryness 55 = .ok (.aload_n 0, 1) := by decide +kernel
theorem dX8_dryness_56 : decode cX8_dryness 56 = .ok (.getfield 72, 3) := by decide +kernel
theorem dX8_dryness_59 : decode cX8_dryness 59 = .ok (.getfield 292, 3) := by decide +kernel
theorem dX8_dryness_62 : decode cX8_dryness 62 = .ok (.goto 10, 3) := by decide +kernel
theorem dX8_dryness_65 : decode cX8_dryness 65 = .ok (.aload_n 0, 1) := by decide +kernel
theorem dX8_dryness_66 : decode cX8_dryness 66 = .ok (.getfield 72, 3) := by decide +kernel
theorem dX8_dryness_69 : decode cX8_dryness 69 = .ok (.getfield 296, 3) := by decide +kernel
theorem dX8_dryness_72 : decode cX8_dryness 72 = .ok (.lreturn, 1) := by decide +kernel
theorem dX8_weather_0 : decode cX8_weather 0 = .ok (.iload_n 2, 1) := by decide +kernel
theorem dX8_weather_1 : decode cX8_weather 1 = .ok (.iconst 1, 1) := by decide +kernel
theorem dX8_weather_2 : decode cX8_weather 2 = .ok (.if_icmp .lt 16, 3) := by decide +kernel
theorem dX8_weather_5 : decode cX8_weather 5 = .ok (.iload_n 2, 1) := by decide +kernel
theorem dX8_weather_6 : decode cX8_weather 6 = .ok (.bipush 20, 2) := by decide +kernel
theorem dX8_weather_8 : decode cX8_weather 8 = .ok (.if_icmp .gt 10, 3) := by decide +kernel
theorem dX8_weather_11 : decode cX8_weather 11 = .ok (.iload_n 3, 1) := by decide +kernel
theorem dX8_weather_12 : decode cX8_weather 12 = .ok (.invokestatic 158, 3) := by decide +kernel
theorem dX8_weather_15 : decode cX8_weather 15 = .ok (.ifCond .ne 6, 3) := by decide +kernel
theorem dX8_weather_18 : decode cX8_weather 18 = .ok (.bipush (-2), 2) := by decide +kernel
theorem dX8_weather_20 : decode cX8_weather 20 = .ok (.ireturn, 1) := by decide +kernel
theorem dX8_weather_21 : decode cX8_weather 21 = .ok (.aload_n 0, 1) := by decide +kernel
theorem dX8_weather_22 : decode cX8_weather 22 = .ok (.invokevirtual 124, 3) := by decide +kernel
theorem dX8_weather_25 : decode cX8_weather 25 = .ok (.iload_n 1, 1) := by decide +kernel
theorem dX8_weather_26 : decode cX8_weather 26 = .ok (.istore 4, 2) := by decide +kernel
theorem dX8_weather_28 : decode cX8_weather 28 = .ok (.iconst 0, 1) := by decide +kernel
theorem dX8_weather_29 : decode cX8_weather 29 = .ok (.istore 5, 2) := by decide +kernel
theorem dX8_weather_31 : decode cX8_weather 31 = .ok (.iload 5, 2) := by decide +kernel
theorem dX8_weather_33 : decode cX8_weather 33 = .ok (.bipush 20, 2) := by decide +kernel
theorem dX8_weather_35 : decode cX8_weather 35 = .ok (.if_icmp .ge 46, 3) := by decide +kernel
theorem dX8_weather_38 : decode cX8_weather 38 = .ok (.ldc_w 299, 3) := by decide +kernel
theorem dX8_weather_41 : decode cX8_weather 41 = .ok (.iload 4, 2) := by decide +kernel
theorem dX8_weather_43 : decode cX8_weather 43 = .ok (.imul, 1) := by decide +kernel
theorem dX8_weather_44 : decode cX8_weather 44 = .ok (.sipush 12345, 3) := by decide +kernel
theorem dX8_weather_47 : decode cX8_weather 47 = .ok (.iadd, 1) := by decide +kernel
theorem dX8_weather_48 : decode cX8_weather 48 = .ok (.istore 4, 2) := by decide +kernel
theorem dX8_weather_50 : decode cX8_weather 50 = .ok (.aload_n 0, 1) := by decide +kernel
theorem dX8_weather_51 : decode cX8_weather 51 = .ok (.getfield 25, 3) := by decide +kernel
theorem dX8_weather_54 : decode cX8_weather 54 = .ok (.iload 5, 2) := by decide +kernel
theorem dX8_weather_56 : decode cX8_weather 56 = .ok (.iload 5, 2) := by decide +kernel
theorem dX8_weather_58 : decode cX8_weather 58 = .ok (.iload_n 2, 1) := by decide +kernel
theorem dX8_weather_59 : decode cX8_weather 59 = .ok (.if_icmp .ge 14, 3) := by decide +kernel
theorem dX8_weather_62 : decode cX8_weather 62 = .ok (.iload 4, 2) := by decide +kernel
theorem dX8_weather_64 : decode cX8_weather 64 = .ok (.bipush 16, 2) := by decide +kernel
theorem dX8_weather_66 : decode cX8_weather 66 = .ok (.iushr, 1) := by decide +kernel
theorem dX8_weather_67 : decode cX8_weather 67 = .ok (.bipush 10, 2) := by decide +kernel
theorem dX8_weather_69 : decode cX8_weather 69 = .ok (.irem, 1) := by decide +kernel
theorem dX8_weather_70 : decode cX8_weather 70 = .ok (.goto 4, 3) := by decide +kernel
theorem dX8_weather_73 : decode cX8_weather 73 = .ok (.iconst 0, 1) := by decide +kernel
theorem dX8_weather_74 : decode cX8_weather 74 = .ok (.iastore, 1) := by decide +kernel
theorem dX8_weather_75 : decode cX8_weather 75 = .ok (.iinc 5 1, 3) := by decide +kernel
theorem dX8_weather_78 : decode cX8_weather 78 = .ok (.goto (-47), 3) := by decide +kernel
theorem dX8_weather_81 : decode cX8_weather 81 = .ok (.aload_n 0, 1) := by decide +kernel
theorem dX8_weather_82 : decode cX8_weather 82 = .ok (.getfield 52, 3) := by decide +kernel
theorem dX8_weather_85 : decode cX8_weather 85 = .ok (.aload_n 0, 1) := by decide +kernel
theorem dX8_weather_86 : decode cX8_weather 86 = .ok (.getfield 38, 3) := by decide +kernel
theorem dX8_weather_89 : decode cX8_weather 89 = .ok (.aload_n 0, 1) := by decide +kernel
theorem dX8_weather_90 : decode cX8_weather 90 = .ok (.getfield 25, 3) := by decide +kernel
theorem dX8_weather_93 : decode cX8_weather 93 = .ok (.aload_n 0, 1) := by decide +kernel
theorem dX8_weather_94 : decode cX8_weather 94 = .ok (.getfield 89, 3) := by decide +kernel
theorem dX8_weather_97 : decode cX8_weather 97 = .ok (.invokevirtual 261, 3) := by decide +kernel
theorem dX8_weather_100 : decode cX8_weather 100 = .ok (.iload_n 3, 1) := by decide +kernel
theorem dX8_weather_101 : decode cX8_weather 101 = .ok (.ifCond .ne 13, 3) := by decide +kernel
theorem dX8_weather_104 : decode cX8_weather 104 = .ok (.aload_n 0, 1) := by decide +kernel
theorem dX8_weather_105 : decode cX8_weather 105 = .ok (.getfield 52, 3) := by decide +kernel
theorem dX8_weather_108 : decode cX8_weather 108 = .ok (.invokevirtual 300, 3) := by decide +kernel
theorem dX8_weather_111 : decode cX8_weather 111 = .ok (.goto 10, 3) := by decide +kernel
theorem dX8_weather_114 : decode cX8_weather 114 = .ok (.aload_n 0, 1) := by decide +kernel
theorem dX8_weather_115 : decode cX8_weather 115 = .ok (.getfield 52, 3) := by decide +kernel
theorem dX8_weather_118 : decode cX8_weather 118 = .ok (.invokevirtual 303, 3) := by decide +kernel
theorem dX8_weather_121 : decode cX8_weather 121 = .ok (.ireturn, 1) := by decide +kernel
theorem dX8_sheet_0 : decode cX8_sheet 0 = .ok (.iload_n 1, 1) := by decide +kernel
theorem dX8_sheet_1 : decode cX8_sheet 1 = .ok (.invokestatic 161, 3) := by decide +kernel
theorem dX8_sheet_4 : decode cX8_sheet 4 = .ok (.ifCond .eq 16, 3) := by decide +kernel
theorem dX8_sheet_7 : decode cX8_sheet 7 = .ok (.iload_n 2, 1) := by decide +kernel
theorem dX8_sheet_8 : decode cX8_sheet 8 = .ok (.invokestatic 306, 3) := by decide +kernel
theorem dX8_sheet_11 : decode cX8_sheet 11 = .ok (.ifCond .eq 9, 3) := by decide +kernel
theorem dX8_sheet_14 : decode cX8_sheet 14 = .ok (.iload_n 3, 1) := by decide +kernel
theorem dX8_sheet_15 : decode cX8_sheet 15 = .ok (.bipush 60, 2) := by decide +kernel
theorem dX8_sheet_17 : decode cX8_sheet 17 = .ok (.if_icmp .le 6, 3) := by decide +kernel
theorem dX8_sheet_20 : decode cX8_sheet 20 = .ok (.bipush (-2), 2) := by decide +kernel
theorem dX8_sheet_22 : decode cX8_sheet 22 = .ok (.ireturn, 1) := by decide +kernel
theorem dX8_sheet_23 : decode cX8_sheet 23 = .ok (.iload_n 3, 1) := by decide +kernel
theorem dX8_sheet_24 : decode cX8_sheet 24 = .ok (.ifCond .ge 9, 3) := by decide +kernel
theorem dX8_sheet_27 : decode cX8_sheet 27 = .ok (.aload_n 0, 1) := by decide +kernel
theorem dX8_sheet_28 : decode cX8_sheet 28 = .ok (.iconst 5, 1) := by decide +kernel
theorem dX8_sheet_29 : decode cX8_sheet 29 = .ok (.invokevirtual 167, 3) := by decide +kernel
theorem dX8_sheet_32 : decode cX8_sheet 32 = .ok (.ireturn, 1) := by decide +kernel
theorem dX8_sheet_33 : decode cX8_sheet 33 = .ok (.aload_n 0, 1) := by decide +kernel
theorem dX8_sheet_34 : decode cX8_sheet 34 = .ok (.getfield 78, 3) := by decide +kernel
theorem dX8_sheet_37 : decode cX8_sheet 37 = .ok (.iload_n 1, 1) := by decide +kernel
theorem dX8_sheet_38 : decode cX8_sheet 38 = .ok (.aaload, 1) := by decide +kernel
theorem dX8_sheet_39 : decode cX8_sheet 39 = .ok (.iload_n 2, 1) := by decide +kernel
theorem dX8_sheet_40 : decode cX8_sheet 40 = .ok (.iload_n 3, 1) := by decide +kernel
theorem dX8_sheet_41 : decode cX8_sheet 41 = .ok (.invokevirtual 309, 3) := by decide +kernel
theorem dX8_sheet_44 : decode cX8_sheet 44 = .ok (.iload_n 3, 1) := by decide +kernel
theorem dX8_sheet_45 : decode cX8_sheet 45 = .ok (.ireturn, 1) := by decide +kernel
theorem dX8_lose_0 : decode cX8_lose 0 = .ok (.iload_n 1, 1) := by decide +kernel
theorem dX8_lose_1 : decode cX8_lose 1 = .ok (.invokestatic 161, 3) := by decide +kernel
theorem dX8_lose_4 : decode cX8_lose 4 = .ok (.ifCond .ne 6, 3) := by decide +kernel
theorem dX8_lose_7 : decode cX8_lose 7 = .ok (.bipush (-2), 2) := by decide +kernel
theorem dX8_lose_9 : decode cX8_lose 9 = .ok (.ireturn, 1) := by decide +kernel
theorem dX8_lose_10 : decode cX8_lose 10 = .ok (.aload_n 0, 1) := by decide +kernel
theorem dX8_lose_11 : decode cX8_lose 11 = .ok (.getfield 78, 3) := by decide +kernel
theorem dX8_lose_14 : decode cX8_lose 14 = .ok (.iload_n 1, 1) := by decide +kernel
theorem dX8_lose_15 : decode cX8_lose 15 = .ok (.aaload, 1) := by decide +kernel
theorem dX8_lose_16 : decode cX8_lose 16 = .ok (.getfield 164, 3) := by decide +kernel
theorem dX8_lose_19 : decode cX8_lose 19 = .ok (.ifCond .eq 9, 3) := by decide +kernel
theorem dX8_lose_22 : decode cX8_lose 22 = .ok (.aload_n 0, 1) := by decide +kernel
theorem dX8_lose_23 : decode cX8_lose 23 = .ok (.iconst 1, 1) := by decide +kernel
theorem dX8_lose_24 : decode cX8_lose 24 = .ok (.invokevirtual 167, 3) := by decide +kernel
theorem dX8_lose_27 : decode cX8_lose 27 = .ok (.ireturn, 1) := by decide +kernel
theorem dX8_lose_28 : decode cX8_lose 28 = .ok (.aload_n 0, 1) := by decide +kernel
theorem dX8_lose_29 : decode cX8_lose 29 = .ok (.getfield 78, 3) := by decide +kernel
theorem dX8_lose_32 : decode cX8_lose 32 = .ok (.iload_n 1, 1) := by decide +kernel
theorem dX8_lose_33 : decode cX8_lose 33 = .ok (.aaload, 1) := by decide +kernel
theorem dX8_lose_34 : decode cX8_lose 34 = .ok (.iconst 1, 1) := by decide +kernel
theorem dX8_lose_35 : decode cX8_lose 35 = .ok (.putfield 164, 3) := by decide +kernel
theorem dX8_lose_38 : decode cX8_lose 38 = .ok (.aload_n 0, 1) := by decide +kernel
theorem dX8_lose_39 : decode cX8_lose 39 = .ok (.getfield 78, 3) := by decide +kernel
theorem dX8_lose_42 : decode cX8_lose 42 = .ok (.iload_n 1, 1) := by decide +kernel
theorem dX8_lose_43 : decode cX8_lose 43 = .ok (.aaload, 1) := by decide +kernel
theorem dX8_lose_44 : decode cX8_lose 44 = .ok (.getfield 171, 3) := by decide +kernel
theorem dX8_lose_47 : decode cX8_lose 47 = .ok (.ireturn, 1) := by decide +kernel
theorem dX8_put_0 : decode cX8_put 0 = .ok (.iload_n 1, 1) := by decide +kernel
theorem dX8_put_1 : decode cX8_put 1 = .ok (.invokestatic 161, 3) := by decide +kernel
theorem dX8_put_4 : decode cX8_put 4 = .ok (.ifCond .eq 10, 3) := by decide +kernel
theorem dX8_put_7 : decode cX8_put 7 = .ok (.iload_n 2, 1) := by decide +kernel
theorem dX8_put_8 : decode cX8_put 8 = .ok (.invokestatic 306, 3) := by decide +kernel
theorem dX8_put_11 : decode cX8_put 11 = .ok (.ifCond .ne 6, 3) := by decide +kernel
theorem dX8_put_14 : decode cX8_put 14 = .ok (.bipush (-2), 2) := by decide +kernel
theorem dX8_put_16 : decode cX8_put 16 = .ok (.ireturn, 1) := by decide +kernel
theorem dX8_put_17 : decode cX8_put 17 = .ok (.aload_n 0, 1) := by decide +kernel
theorem dX8_put_18 : decode cX8_put 18 = .ok (.getfield 78, 3) := by decide +kernel
theorem dX8_put_21 : decode cX8_put 21 = .ok (.iload_n 1, 1) := by decide +kernel
theorem dX8_put_22 : decode cX8_put 22 = .ok (.aaload, 1) := by decide +kernel
theorem dX8_put_23 : decode cX8_put 23 = .ok (.iload_n 2, 1) := by decide +kernel
theorem dX8_put_24 : decode cX8_put 24 = .ok (.iload_n 3, 1) := by decide +kernel
theorem dX8_put_25 : decode cX8_put 25 = .ok (.invokevirtual 312, 3) := by decide +kernel
theorem dX8_put_28 : decode cX8_put 28 = .ok (.istore 5, 2) := by decide +kernel
theorem dX8_put_30 : decode cX8_put 30 = .ok (.iload 5, 2) := by decide +kernel
theorem dX8_put_32 : decode cX8_put 32 = .ok (.ifCond .eq 10, 3) := by decide +kernel
theorem dX8_put_35 : decode cX8_put 35 = .ok (.aload_n 0, 1) := by decide +kernel
theorem dX8_put_36 : decode cX8_put 36 = .ok (.iload 5, 2) := by decide +kernel
theorem dX8_put_38 : decode cX8_put 38 = .ok (.invokevirtual 167, 3) := by decide +kernel
theorem dX8_put_41 : decode cX8_put 41 = .ok (.ireturn, 1) := by decide +kernel
theorem dX8_put_42 : decode cX8_put 42 = .ok (.aload_n 0, 1) := by decide +kernel
theorem dX8_put_43 : decode cX8_put 43 = .ok (.getfield 78, 3) := by decide +kernel
theorem dX8_put_46 : decode cX8_put 46 = .ok (.iload_n 1, 1) := by decide +kernel
theorem dX8_put_47 : decode cX8_put 47 = .ok (.aaload, 1) := by decide +kernel
theorem dX8_put_48 : decode cX8_put 48 = .ok (.getfield 172, 3) := by decide +kernel
theorem dX8_put_51 : decode cX8_put 51 = .ok (.iload_n 3, 1) := by decide +kernel
theorem dX8_put_52 : decode cX8_put 52 = .ok (.iload_n 2, 1) := by decide +kernel
theorem dX8_put_53 : decode cX8_put 53 = .ok (.iload 4, 2) := by decide +kernel
theorem dX8_put_55 : decode cX8_put 55 = .ok (.invokestatic 315, 3) := by decide +kernel
theorem dX8_put_58 : decode cX8_put 58 = .ok (.iastore, 1) := by decide +kernel
theorem dX8_put_59 : decode cX8_put 59 = .ok (.iconst 1, 1) := by decide +kernel
theorem dX8_put_60 : decode cX8_put 60 = .ok (.ireturn, 1) := by decide +kernel
theorem dX8_get_0 : decode cX8_get 0 = .ok (.iload_n 1, 1) := by decide +kernel
theorem dX8_get_1 : decode cX8_get 1 = .ok (.invokestatic 161, 3) := by decide +kernel
theorem dX8_get_4 : decode cX8_get 4 = .ok (.ifCond .eq 10, 3) := by decide +kernel
theorem dX8_get_7 : decode cX8_get 7 = .ok (.iload_n 2, 1) := by decide +kernel
theorem dX8_get_8 : decode cX8_get 8 = .ok (.invokestatic 306, 3) := by decide +kernel
theorem dX8_get_11 : decode cX8_get 11 = .ok (.ifCond .ne 7, 3) := by decide +kernel
theorem dX8_get_14 : decode cX8_get 14 = .ok (.ldc_w 318, 3) := by decide +kernel
theorem dX8_get_17 : decode cX8_get 17 = .ok (.ireturn, 1) := by decide +kernel
theorem dX8_get_18 : decode cX8_get 18 = .ok (.aload_n 0, 1) := by decide +kernel
theorem dX8_get_19 : decode cX8_get 19 = .ok (.getfield 78, 3) := by decide +kernel
theorem dX8_get_22 : decode cX8_get 22 = .ok (.iload_n 1, 1) := by decide +kernel
theorem dX8_get_23 : decode cX8_get 23 = .ok (.aaload, 1) := by decide +kernel
theorem dX8_get_24 : decode cX8_get 24 = .ok (.iload_n 2, 1) := by decide +kernel
theorem dX8_get_25 : decode cX8_get 25 = .ok (.iload_n 3, 1) := by decide +kernel
theorem dX8_get_26 : decode cX8_get 26 = .ok (.invokevirtual 312, 3) := by decide +kernel
theorem dX8_get_29 : decode cX8_get 29 = .ok (.istore 4, 2) := by decide +kernel
theorem dX8_get_31 : decode cX8_get 31 = .ok (.iload 4, 2) := by decide +kernel
theorem dX8_get_33 : decode cX8_get 33 = .ok (.ifCond .eq 14, 3) := by decide +kernel
theorem dX8_get_36 : decode cX8_get 36 = .ok (.aload_n 0, 1) := by decide +kernel
theorem dX8_get_37 : decode cX8_get 37 = .ok (.iload 4, 2) := by decide +kernel
theorem dX8_get_39 : decode cX8_get 39 = .ok (.invokevirtual 167, 3) := by decide +kernel
theorem dX8_get_42 : decode cX8_get 42 = .ok (.pop, 1) := by decide +kernel
theorem dX8_get_43 : decode cX8_get 43 = .ok (.ldc_w 318, 3) := by decide +kernel
theorem dX8_get_46 : decode cX8_get 46 = .ok (.ireturn, 1) := by decide +kernel
theorem dX8_get_47 : decode cX8_get 47 = .ok (.aload_n 0, 1) := by decide +kernel
theorem dX8_get_48 : decode cX8_get 48 = .ok (.getfield 78, 3) := by decide +kernel
theorem dX8_get_51 : decode cX8_get 51 = .ok (.iload_n 1, 1) := by decide +kernel
theorem dX8_get_52 : decode cX8_get 52 = .ok (.aaload, 1) := by decide +kernel
theorem dX8_get_53 : decode cX8_get 53 = .ok (.getfield 172, 3) := by decide +kernel
theorem dX8_get_56 : decode cX8_get 56 = .ok (.iload_n 3, 1) := by decide +kernel
theorem dX8_get_57 : decode cX8_get 57 = .ok (.iaload, 1) := by decide +kernel
theorem dX8_get_58 : decode cX8_get 58 = .ok (.ireturn, 1) := by decide +kernel
theorem dX8_copy_0 : decode cX8_copy 0 = .ok (.iload_n 1, 1) := by decide +kernel
theorem dX8_copy_1 : decode cX8_copy 1 = .ok (.invokestatic 161, 3) := by decide +kernel
theorem dX8_copy_4 : decode cX8_copy 4 = .ok (.ifCond .eq 10, 3) := by decide +kernel
theorem dX8_copy_7 : decode cX8_copy 7 = .ok (.iload_n 3, 1) := by decide +kernel
theorem dX8_copy_8 : decode cX8_copy 8 = .ok (.invokestatic 161, 3) := by decide +kernel
theorem dX8_copy_11 : decode cX8_copy 11 = .ok (.ifCond .ne 6, 3) := by decide +kernel
theorem dX8_copy_14 : decode cX8_copy 14 = .ok (.bipush (-2), 2) := by decide +kernel
theorem dX8_copy_16 : decode cX8_copy 16 = .ok (.ireturn, 1) := by decide +kernel
theorem dX8_copy_17 : decode cX8_copy 17 = .ok (.aload_n 0, 1) := by decide +kernel
theorem dX8_copy_18 : decode cX8_copy 18 = .ok (.getfield 78, 3) := by decide +kernel
theorem dX8_copy_21 : decode cX8_copy 21 = .ok (.iload_n 1, 1) := by decide +kernel
theorem dX8_copy_22 : decode cX8_copy 22 = .ok (.aaload, 1) := by decide +kernel
theorem dX8_copy_23 : decode cX8_copy 23 = .ok (.astore 6, 2) := by decide +kernel
theorem dX8_copy_25 : decode cX8_copy 25 = .ok (.aload_n 0, 1) := by decide +kernel
theorem dX8_copy_26 : decode cX8_copy 26 = .ok (.getfield 78, 3) := by decide +kernel
theorem dX8_copy_29 : decode cX8_copy 29 = .ok (.iload_n 3, 1) := by decide +kernel
theorem dX8_copy_30 : decode cX8_copy 30 = .ok (.aaload, 1) := by decide +kernel
theorem dX8_copy_31 : decode cX8_copy 31 = .ok (.astore 7, 2) := by decide +kernel
theorem dX8_copy_33 : decode cX8_copy 33 = .ok (.aload 6, 2) := by decide +kernel
theorem dX8_copy_35 : decode cX8_copy 35 = .ok (.getfield 164, 3) := by decide +kernel
theorem dX8_copy_38 : decode cX8_copy 38 = .ok (.ifCond .ne 11, 3) := by decide +kernel
theorem dX8_copy_41 : decode cX8_copy 41 = .ok (.aload 7, 2) := by decide +kernel
theorem dX8_copy_43 : decode cX8_copy 43 = .ok (.getfield 164, 3) := by decide +kernel
theorem dX8_copy_46 : decode cX8_copy 46 = .ok (.ifCond .eq 9, 3) := by decide +kernel
theorem dX8_copy_49 : decode cX8_copy 49 = .ok (.aload_n 0, 1) := by decide +kernel
theorem dX8_copy_50 : decode cX8_copy 50 = .ok (.iconst 1, 1) := by decide +kernel
theorem dX8_copy_51 : decode cX8_copy 51 = .ok (.invokevirtual 167, 3) := by decide +kernel
theorem dX8_copy_54 : decode cX8_copy 54 = .ok (.ireturn, 1) := by decide +kernel
theorem dX8_copy_55 : decode cX8_copy 55 = .ok (.aload 6, 2) := by decide +kernel
theorem dX8_copy_57 : decode cX8_copy 57 = .ok (.getfield 319, 3) := by decide +kernel
theorem dX8_copy_60 : decode cX8_copy 60 = .ok (.aload 7, 2) := by decide +kernel
theorem dX8_copy_62 : decode cX8_copy 62 = .ok (.getfield 319, 3) := by decide +kernel
theorem dX8_copy_65 : decode cX8_copy 65 = .ok (.if_icmp .eq 9, 3) := by decide +kernel
theorem dX8_copy_68 : decode cX8_copy 68 = .ok (.aload_n 0, 1) := by decide +kernel
theorem dX8_copy_69 : decode cX8_copy 69 = .ok (.iconst 4, 1) := by decide +kernel
theorem dX8_copy_70 : decode cX8_copy 70 = .ok (.invokevirtual 167, 3) := by decide +kernel
theorem dX8_copy_73 : decode cX8_copy 73 = .ok (.ireturn, 1) := by decide +kernel
theorem dX8_copy_74 : decode cX8_copy 74 = .ok (.aload 6, 2) := by decide +kernel
theorem dX8_copy_76 : decode cX8_copy 76 = .ok (.iload_n 2, 1) := by decide +kernel
theorem dX8_copy_77 : decode cX8_copy 77 = .ok (.iload 5, 2) := by decide +kernel
theorem dX8_copy_79 : decode cX8_copy 79 = .ok (.invokevirtual 322, 3) := by decide +kernel
theorem dX8_copy_82 : decode cX8_copy 82 = .ok (.ifCond .eq 15, 3) := by decide +kernel
theorem dX8_copy_85 : decode cX8_copy 85 = .ok (.aload 7, 2) := by decide +kernel
theorem dX8_copy_87 : decode cX8_copy 87 = .ok (.iload 4, 2) := by decide +kernel
theorem dX8_copy_89 : decode cX8_copy 89 = .ok (.iload 5, 2) := by decide +kernel
theorem dX8_copy_91 : decode cX8_copy 91 = .ok (.invokevirtual 322, 3) := by decide +kernel
theorem dX8_copy_94 : decode cX8_copy 94 = .ok (.ifCond .ne 9, 3) := by decide +kernel
theorem dX8_copy_97 : decode cX8_copy 97 = .ok (.aload_n 0, 1) := by decide +kernel
theorem dX8_copy_98 : decode cX8_copy 98 = .ok (.iconst 2, 1) := by decide +kernel
theorem dX8_copy_99 : decode cX8_copy 99 = .ok (.invokevirtual 167, 3) := by decide +kernel
theorem dX8_copy_102 : decode cX8_copy 102 = .ok (.ireturn, 1) := by decide +kernel
theorem dX8_copy_103 : decode cX8_copy 103 = .ok (.aload 6, 2) := by decide +kernel
theorem dX8_copy_105 : decode cX8_copy 105 = .ok (.getfield 172, 3) := by decide +kernel
theorem dX8_copy_108 : decode cX8_copy 108 = .ok (.iload_n 2, 1) := by decide +kernel
theorem dX8_copy_109 : decode cX8_copy 109 = .ok (.aload 7, 2) := by decide +kernel
theorem dX8_copy_111 : decode cX8_copy 111 = .ok (.getfield 172, 3) := by decide +kernel
theorem dX8_copy_114 : decode cX8_copy 114 = .ok (.iload 4, 2) := by decide +kernel
theorem dX8_copy_116 : decode cX8_copy 116 = .ok (.iload 5, 2) := by decide +kernel
theorem dX8_copy_118 : decode cX8_copy 118 = .ok (.invokestatic 325, 3) := by decide +kernel
theorem dX8_copy_121 : decode cX8_copy 121 = .ok (.iconst 1, 1) := by decide +kernel
theorem dX8_copy_122 : decode cX8_copy 122 = .ok (.ireturn, 1) := by decide +kernel
theorem dX8_write_0 : decode cX8_write 0 = .ok (.iload_n 1, 1) := by decide +kernel
theorem dX8_write_1 : decode cX8_write 1 = .ok (.invokestatic 121, 3) := by decide +kernel
theorem dX8_write_4 : decode cX8_write 4 = .ok (.ifCond .eq 10, 3) := by decide +kernel
theorem dX8_write_7 : decode cX8_write 7 = .ok (.iload_n 2, 1) := by decide +kernel
theorem dX8_write_8 : decode cX8_write 8 = .ok (.invokestatic 161, 3) := by decide +kernel
theorem dX8_write_11 : decode cX8_write 11 = .ok (.ifCond .ne 6, 3) := by decide +kernel
theorem dX8_write_14 : decode cX8_write 14 = .ok (.bipush (-2), 2) := by decide +kernel
theorem dX8_write_16 : decode cX8_write 16 = .ok (.ireturn, 1) := by decide +kernel
theorem dX8_write_17 : decode cX8_write 17 = .ok (.aload_n 0, 1) := by decide +kernel
theorem dX8_write_18 : decode cX8_write 18 = .ok (.getfield 78, 3) := by decide +kernel
theorem dX8_write_21 : decode cX8_write 21 = .ok (.iload_n 2, 1) := by decide +kernel
theorem dX8_write_22 : decode cX8_write 22 = .ok (.aaload, 1) := by decide +kernel
theorem dX8_write_23 : decode cX8_write 23 = .ok (.astore_n 3, 1) := by decide +kernel
theorem dX8_write_24 : decode cX8_write 24 = .ok (.aload_n 3, 1) := by decide +kernel
theorem dX8_write_25 : decode cX8_write 25 = .ok (.getfield 164, 3) := by decide +kernel
theorem dX8_write_28 : decode cX8_write 28 = .ok (.ifCond .eq 9, 3) := by decide +kernel
theorem dX8_write_31 : decode cX8_write 31 = .ok (.aload_n 0, 1) := by decide +kernel
theorem dX8_write_32 : decode cX8_write 32 = .ok (.iconst 1, 1) := by decide +kernel
theorem dX8_write_33 : decode cX8_write 33 = .ok (.invokevirtual 167, 3) := by decide +kernel
theorem dX8_write_36 : decode cX8_write 36 = .ok (.ireturn, 1) := by decide +kernel
theorem dX8_write_37 : decode cX8_write 37 = .ok (.aload_n 3, 1) := by decide +kernel
theorem dX8_write_38 : decode cX8_write 38 = .ok (.getfield 171, 3) := by decide +kernel
theorem dX8_write_41 : decode cX8_write 41 = .ok (.bipush 36, 2) := by decide +kernel
theorem dX8_write_43 : decode cX8_write 43 = .ok (.invokestatic 331, 3) := by decide +kernel
theorem dX8_write_46 : decode cX8_write 46 = .ok (.istore 4, 2) := by decide +kernel
theorem dX8_write_48 : decode cX8_write 48 = .ok (.iconst 0, 1) := by decide +kernel
theorem dX8_write_49 : decode cX8_write 49 = .ok (.istore 5, 2) := by decide +kernel
theorem dX8_write_51 : decode cX8_write 51 = .ok (.iload 5, 2) := by decide +kernel
theorem dX8_write_53 : decode cX8_write 53 = .ok (.iload 4, 2) := by decide +kernel
theorem dX8_write_55 : decode cX8_write 55 = .ok (.if_icmp .ge 23, 3) := by decide +kernel
theorem dX8_write_58 : decode cX8_write 58 = .ok (.aload_n 3, 1) := by decide +kernel
theorem dX8_write_59 : decode cX8_write 59 = .ok (.getfield 172, 3) := by decide +kernel
theorem dX8_write_62 : decode cX8_write 62 = .ok (.iload 5, 2) := by decide +kernel
theorem dX8_write_64 : decode cX8_write 64 = .ok (.aload_n 0, 1) := by decide +kernel
theorem dX8_write_65 : decode cX8_write 65 = .ok (.iload_n 1, 1) := by decide +kernel
theorem dX8_write_66 : decode cX8_write 66 = .ok (.iload 5, 2) := by decide +kernel
theorem dX8_write_68 : decode cX8_write 68 = .ok (.invokevirtual 336, 3) := by decide +kernel
theorem dX8_write_71 : decode cX8_write 71 = .ok (.iastore, 1) := by decide +kernel
theorem dX8_write_72 : decode cX8_write 72 = .ok (.iinc 5 1, 3) := by decide +kernel
theorem dX8_write_75 : decode cX8_write 75 = .ok (.goto (-24), 3) := by decide +kernel
theorem dX8_write_78 : decode cX8_write 78 = .ok (.iload 4, 2) := by decide +kernel
theorem dX8_write_80 : decode cX8_write 80 = .ok (.ireturn, 1) := by decide +kernel
theorem dX8_count_0 : decode cX8_count 0 = .ok (.aload_n 0, 1) := by decide +kernel
theorem dX8_count_1 : decode cX8_count 1 = .ok (.invokevirtual 124, 3) := by decide +kernel
theorem dX8_count_4 : decode cX8_count 4 = .ok (.iload_n 1, 1) := by decide +kernel
theorem dX8_count_5 : decode cX8_count 5 = .ok (.tableswitch 117 0 8 #[51, 56, 64, 72, 80, 88, 96, 104, 112], 51) := by decide +kernel
theorem dX8_count_56 : decode cX8_count 56 = .ok (.aload_n 0, 1) := by decide +kernel
theorem dX8_count_57 : decode cX8_count 57 = .ok (.getfield 85, 3) := by decide +kernel
theorem dX8_count_60 : decode cX8_count 60 = .ok (.ireturn, 1) := by decide +kernel
theorem dX8_count_61 : decode cX8_count 61 = .ok (.aload_n 0, 1) := by decide +kernel
theorem dX8_count_62 : decode cX8_count 62 = .ok (.getfield 38, 3) := by decide +kernel
theorem dX8_count_65 : decode cX8_count 65 = .ok (.getfield 221, 3) := by decide +kernel
theorem dX8_count_68 : decode cX8_count 68 = .ok (.ireturn, 1) := by decide +kernel
theorem dX8_count_69 : decode cX8_count 69 = .ok (.aload_n 0, 1) := by decide +kernel
theorem dX8_count_70 : decode cX8_count 70 = .ok (.getfield 14, 3) := by decide +kernel
theorem dX8_count_73 : decode cX8_count 73 = .ok (.getfield 111, 3) := by decide +kernel
theorem dX8_count_76 : decode cX8_count 76 = .ok (.ireturn, 1) := by decide +kernel
theorem dX8_count_77 : decode cX8_count 77 = .ok (.aload_n 0, 1) := by decide +kernel
theorem dX8_count_78 : decode cX8_count 78 = .ok (.getfield 18, 3) := by decide +kernel
theorem dX8_count_81 : decode cX8_count 81 = .ok (.getfield 111, 3) := by decide +kernel
theorem dX8_count_84 : decode cX8_count 84 = .ok (.ireturn, 1) := by decide +kernel
theorem dX8_count_85 : decode cX8_count 85 = .ok (.aload_n 0, 1) := by decide +kernel
theorem dX8_count_86 : decode cX8_count 86 = .ok (.getfield 31, 3) := by decide +kernel
theorem dX8_count_89 : decode cX8_count 89 = .ok (.getfield 149, 3) := by decide +kernel
theorem dX8_count_92 : decode cX8_count 92 = .ok (.ireturn, 1) := by decide +kernel
theorem dX8_count_93 : decode cX8_count 93 = .ok (.aload_n 0, 1) := by decide +kernel
theorem dX8_count_94 : decode cX8_count 94 = .ok (.getfield 31, 3) := by decide +kernel
theorem dX8_count_97 : decode cX8_count 97 = .ok (.getfield 155, 3) := by decide +kernel
theorem dX8_count_100 : decode cX8_count 100 = .ok (.ireturn, 1) := by decide +kernel
theorem dX8_count_101 : decode cX8_count 101 = .ok (.aload_n 0, 1) := by decide +kernel
theorem dX8_count_102 : decode cX8_count 102 = .ok (.getfield 45, 3) := by decide +kernel
theorem dX8_count_105 : decode cX8_count 105 = .ok (.invokevirtual 300, 3) := by decide +kernel
theorem dX8_count_108 : decode cX8_count 108 = .ok (.ireturn, 1) := by decide +kernel
theorem dX8_count_109 : decode cX8_count 109 = .ok (.aload_n 0, 1) := by decide +kernel
theorem dX8_count_110 : decode cX8_count 110 = .ok (.getfield 58, 3) := by decide +kernel
theorem dX8_count_113 : decode cX8_count 113 = .ok (.getfield 242, 3) := by decide +kernel
theorem dX8_count_116 : decode cX8_count 116 = .ok (.ireturn, 1) := by decide +kernel
theorem dX8_count_117 : decode cX8_count 117 = .ok (.aload_n 0, 1) := by decide +kernel
theorem dX8_count_118 : decode cX8_count 118 = .ok (.getfield 92, 3) := by decide +kernel
theorem dX8_count_121 : decode cX8_count 121 = .ok (.ireturn, 1) := by decide +kernel
theorem dX8_count_122 : decode cX8_count 122 = .ok (.bipush (-2), 2) := by decide +kernel
theorem dX8_count_124 : decode cX8_count 124 = .ok (.ireturn, 1) := by decide +kernel
theorem dX8_digest_0 : decode cX8_digest 0 = .ok (.ldc2_w 339, 3) := by decide +kernel
theorem dX8_digest_3 : decode cX8_digest 3 = .ok (.lstore_n 1, 1) := by decide +kernel
theorem dX8_digest_4 : decode cX8_digest 4 = .ok (.iconst 0, 1) := by decide +kernel
theorem dX8_digest_5 : decode cX8_digest 5 = .ok (.istore_n 3, 1) := by decide +kernel
theorem dX8_digest_6 : decode cX8_digest 6 = .ok (.iload_n 3, 1) := by decide +kernel
theorem dX8_digest_7 : decode cX8_digest 7 = .ok (.bipush 7, 2) := by decide +kernel
theorem dX8_digest_9 : decode cX8_digest 9 = .ok (.if_icmp .gt 22, 3) := by decide +kernel
theorem dX8_digest_12 : decode cX8_digest 12 = .ok (.ldc2_w 341, 3) := by decide +kernel
theorem dX8_digest_15 : decode cX8_digest 15 = .ok (.lload_n 1, 1) := by decide +kernel
theorem dX8_digest_16 : decode cX8_digest 16 = .ok (.lmul, 1) := by decide +kernel
theorem dX8_digest_17 : decode cX8_digest 17 = .ok (.aload_n 0, 1) := by decide +kernel
theorem dX8_digest_18 : decode cX8_digest 18 = .ok (.iload_n 3, 1) := by decide +kernel
theorem dX8_digest_19 : decode cX8_digest 19 = .ok (.invokevirtual 343, 3) := by decide +kernel
theorem dX8_digest_22 : decode cX8_digest 22 = .ok (.i2l, 1) := by decide +kernel
theorem dX8_digest_23 : decode cX8_digest 23 = .ok (.ladd, 1) := by decide +kernel
theorem dX8_digest_24 : decode cX8_digest 24 = .ok (.lstore_n 1, 1) := by decide +kernel
theorem dX8_digest_25 : decode cX8_digest 25 = .ok (.iinc 3 1, 3) := by decide +kernel
theorem dX8_digest_28 : decode cX8_digest 28 = .ok (.goto (-22), 3) := by decide +kernel
theorem dX8_digest_31 : decode cX8_digest 31 = .ok (.ldc2_w 341, 3) := by decide +kernel
theorem dX8_digest_34 : decode cX8_digest 34 = .ok (.lload_n 1, 1) := by decide +kernel
theorem dX8_digest_35 : decode cX8_digest 35 = .ok (.lmul, 1) := by decide +kernel
theorem dX8_digest_36 : decode cX8_digest 36 = .ok (.aload_n 0, 1) := by decide +kernel
theorem dX8_digest_37 : decode cX8_digest 37 = .ok (.iconst 0, 1) := by decide +kernel
theorem dX8_digest_38 : decode cX8_digest 38 = .ok (.invokevirtual 346, 3) := by decide +kernel
theorem dX8_digest_41 : decode cX8_digest 41 = .ok (.i2l, 1) := by decide +kernel
theorem dX8_digest_42 : decode cX8_digest 42 = .ok (.ladd, 1) := by decide +kernel
theorem dX8_digest_43 : decode cX8_digest 43 = .ok (.lstore_n 1, 1) := by decide +kernel
theorem dX8_digest_44 : decode cX8_digest 44 = .ok (.ldc2_w 341, 3) := by decide +kernel
theorem dX8_digest_47 : decode cX8_digest 47 = .ok (.lload_n 1, 1) := by decide +kernel
theorem dX8_digest_48 : decode cX8_digest 48 = .ok (.lmul, 1) := by decide +kernel
theorem dX8_digest_49 : decode cX8_digest 49 = .ok (.aload_n 0, 1) := by decide +kernel
theorem dX8_digest_50 : decode cX8_digest 50 = .ok (.iconst 1, 1) := by decide +kernel
theorem dX8_digest_51 : decode cX8_digest 51 = .ok (.invokevirtual 346, 3) := by decide +kernel
theorem dX8_digest_54 : decode cX8_digest 54 = .ok (.i2l, 1) := by decide +kernel
theorem dX8_digest_55 : decode cX8_digest 55 = .ok (.ladd, 1) := by decide +kernel
theorem dX8_digest_56 : decode cX8_digest 56 = .ok (.lstore_n 1, 1) := by decide +kernel
theorem dX8_digest_57 : decode cX8_digest 57 = .ok (.aload_n 0, 1) := by decide +kernel
theorem dX8_digest_58 : decode cX8_digest 58 = .ok (.lload_n 1, 1) := by decide +kernel
theorem dX8_digest_59 : decode cX8_digest 59 = .ok (.iconst 0, 1) := by decide +kernel
theorem dX8_digest_60 : decode cX8_digest 60 = .ok (.invokevirtual 349, 3) := by decide +kernel
theorem dX8_digest_63 : decode cX8_digest 63 = .ok (.lstore_n 1, 1) := by decide +kernel
theorem dX8_digest_64 : decode cX8_digest 64 = .ok (.aload_n 0, 1) := by decide +kernel
theorem dX8_digest_65 : decode cX8_digest 65 = .ok (.lload_n 1, 1) := by decide +kernel
theorem dX8_digest_66 : decode cX8_digest 66 = .ok (.iconst 4, 1) := by decide +kernel
theorem dX8_digest_67 : decode cX8_digest 67 = .ok (.invokevirtual 349, 3) := by decide +kernel
theorem dX8_digest_70 : decode cX8_digest 70 = .ok (.lstore_n 1, 1) := by decide +kernel
theorem dX8_digest_71 : decode cX8_digest 71 = .ok (.aload_n 0, 1) := by decide +kernel
theorem dX8_digest_72 : decode cX8_digest 72 = .ok (.lload_n 1, 1) := by decide +kernel
theorem dX8_digest_73 : decode cX8_digest 73 = .ok (.bipush 9, 2) := by decide +kernel
theorem dX8_digest_75 : decode cX8_digest 75 = .ok (.invokevirtual 349, 3) := by decide +kernel
theorem dX8_digest_78 : decode cX8_digest 78 = .ok (.lstore_n 1, 1) := by decide +kernel
theorem dX8_digest_79 : decode cX8_digest 79 = .ok (.aload_n 0, 1) := by decide +kernel
theorem dX8_digest_80 : decode cX8_digest 80 = .ok (.lload_n 1, 1) := by decide +kernel
theorem dX8_digest_81 : decode cX8_digest 81 = .ok (.bipush 19, 2) := by decide +kernel
theorem dX8_digest_83 : decode cX8_digest 83 = .ok (.invokevirtual 349, 3) := by decide +kernel
theorem dX8_digest_86 : decode cX8_digest 86 = .ok (.lstore_n 1, 1) := by decide +kernel
theorem dX8_digest_87 : decode cX8_digest 87 = .ok (.iconst 0, 1) := by decide +kernel
theorem dX8_digest_88 : decode cX8_digest 88 = .ok (.istore_n 3, 1) := by decide +kernel
theorem dX8_digest_89 : decode cX8_digest 89 = .ok (.iload_n 3, 1) := by decide +kernel
theorem dX8_digest_90 : decode cX8_digest 90 = .ok (.aload_n 0, 1) := by decide +kernel
theorem dX8_digest_91 : decode cX8_digest 91 = .ok (.getfield 38, 3) := by decide +kernel
theorem dX8_digest_94 : decode cX8_digest 94 = .ok (.getfield 221, 3) := by decide +kernel
theorem dX8_digest_97 : decode cX8_digest 97 = .ok (.if_icmp .ge 64, 3) := by decide +kernel
theorem dX8_digest_100 : decode cX8_digest 100 = .ok (.aload_n 0, 1) := by decide +kernel
theorem dX8_digest_101 : decode cX8_digest 101 = .ok (.lload_n 1, 1) := by decide +kernel
theorem dX8_digest_102 : decode cX8_digest 102 = .ok (.iload_n 3, 1) := by decide +kernel
theorem dX8_digest_103 : decode cX8_digest 103 = .ok (.invokevirtual 353, 3) := by decide +kernel
theorem dX8_digest_106 : decode cX8_digest 106 = .ok (.lstore_n 1, 1) := by decide +kernel
theorem dX8_digest_107 : decode cX8_digest 107 = .ok (.aload_n 0, 1) := by decide +kernel
theorem dX8_digest_108 : decode cX8_digest 108 = .ok (.iload_n 3, 1) := by decide +kernel
theorem dX8_digest_109 : decode cX8_digest 109 = .ok (.invokevirtual 227, 3) := by decide +kernel
theorem dX8_digest_112 : decode cX8_digest 112 = .ok (.aload_n 0, 1) := by decide +kernel
theorem dX8_digest_113 : decode cX8_digest 113 = .ok (.lload_n 1, 1) := by decide +kernel
theorem dX8_digest_114 : decode cX8_digest 114 = .ok (.invokevirtual 356, 3) := by decide +kernel
theorem dX8_digest_117 : decode cX8_digest 117 = .ok (.lstore_n 1, 1) := by decide +kernel
theorem dX8_digest_118 : decode cX8_digest 118 = .ok (.aload_n 0, 1) := by decide +kernel
theorem dX8_digest_119 : decode cX8_digest 119 = .ok (.iload_n 3, 1) := by decide +kernel
theorem dX8_digest_120 : decode cX8_digest 120 = .ok (.invokevirtual 233, 3) := by decide +kernel
theorem dX8_digest_123 : decode cX8_digest 123 = .ok (.aload_n 0, 1) := by decide +kernel
theorem dX8_digest_124 : decode cX8_digest 124 = .ok (.lload_n 1, 1) := by decide +kernel
theorem dX8_digest_125 : decode cX8_digest 125 = .ok (.invokevirtual 356, 3) := by decide +kernel
theorem dX8_digest_128 : decode cX8_digest 128 = .ok (.lstore_n 1, 1) := by decide +kernel
theorem dX8_digest_129 : decode cX8_digest 129 = .ok (.ldc2_w 341, 3) := by decide +kernel
theorem dX8_digest_132 : decode cX8_digest 132 = .ok (.lload_n 1, 1) := by decide +kernel
theorem dX8_digest_133 : decode cX8_digest 133 = .ok (.lmul, 1) := by decide +kernel
theorem dX8_digest_134 : decode cX8_digest 134 = .ok (.aload_n 0, 1) := by decide +kernel
theorem dX8_digest_135 : decode cX8_digest 135 = .ok (.iload_n 3, 1) := by decide +kernel
theorem dX8_digest_136 : decode cX8_digest 136 = .ok (.invokevirtual 360, 3) := by decide +kernel
theorem dX8_digest_139 : decode cX8_digest 139 = .ok (.i2l, 1) := by decide +kernel
theorem dX8_digest_140 : decode cX8_digest 140 = .ok (.ladd, 1) := by decide +kernel
theorem dX8_digest_141 : decode cX8_digest 141 = .ok (.lstore_n 1, 1) := by decide +kernel
theorem dX8_digest_142 : decode cX8_digest 142 = .ok (.ldc2_w 341, 3) := by decide +kernel
theorem dX8_digest_145 : decode cX8_digest 145 = .ok (.lload_n 1, 1) := by decide +kernel
theorem dX8_digest_146 : decode cX8_digest 146 = .ok (.lmul, 1) := by decide +kernel
theorem dX8_digest_147 : decode cX8_digest 147 = .ok (.aload_n 0, 1) := by decide +kernel
theorem dX8_digest_148 : decode cX8_digest 148 = .ok (.iload_n 3, 1) := by decide +kernel
theorem dX8_digest_149 : decode cX8_digest 149 = .ok (.invokevirtual 363, 3) := by decide +kernel
theorem dX8_digest_152 : decode cX8_digest 152 = .ok (.i2l, 1) := by decide +kernel
theorem dX8_digest_153 : decode cX8_digest 153 = .ok (.ladd, 1) := by decide +kernel
theorem dX8_digest_154 : decode cX8_digest 154 = .ok (.lstore_n 1, 1) := by decide +kernel
theorem dX8_digest_155 : decode cX8_digest 155 = .ok (.iinc 3 1, 3) := by decide +kernel
theorem dX8_digest_158 : decode cX8_digest 158 = .ok (.goto (-69), 3) := by decide +kernel
theorem dX8_digest_161 : decode cX8_digest 161 = .ok (.ldc2_w 341, 3) := by decide +kernel
theorem dX8_digest_164 : decode cX8_digest 164 = .ok (.lload_n 1, 1) := by decide +kernel
theorem dX8_digest_165 : decode cX8_digest 165 = .ok (.lmul, 1) := by decide +kernel
theorem dX8_digest_166 : decode cX8_digest 166 = .ok (.aload_n 0, 1) := by decide +kernel
theorem dX8_digest_167 : decode cX8_digest 167 = .ok (.iconst 0, 1) := by decide +kernel
theorem dX8_digest_168 : decode cX8_digest 168 = .ok (.invokevirtual 366, 3) := by decide +kernel
theorem dX8_digest_171 : decode cX8_digest 171 = .ok (.i2l, 1) := by decide +kernel
theorem dX8_digest_172 : decode cX8_digest 172 = .ok (.ladd, 1) := by decide +kernel
theorem dX8_digest_173 : decode cX8_digest 173 = .ok (.lstore_n 1, 1) := by decide +kernel
theorem dX8_digest_174 : decode cX8_digest 174 = .ok (.ldc2_w 341, 3) := by decide +kernel
theorem dX8_digest_177 : decode cX8_digest 177 = .ok (.lload_n 1, 1) := by decide +kernel
theorem dX8_digest_178 : decode cX8_digest 178 = .ok (.lmul, 1) := by decide +kernel
theorem dX8_digest_179 : decode cX8_digest 179 = .ok (.aload_n 0, 1) := by decide +kernel
theorem dX8_digest_180 : decode cX8_digest 180 = .ok (.iconst 1, 1) := by decide +kernel
theorem dX8_digest_181 : decode cX8_digest 181 = .ok (.invokevirtual 366, 3) := by decide +kernel
theorem dX8_digest_184 : decode cX8_digest 184 = .ok (.i2l, 1) := by decide +kernel
theorem dX8_digest_185 : decode cX8_digest 185 = .ok (.ladd, 1) := by decide +kernel
theorem dX8_digest_186 : decode cX8_digest 186 = .ok (.lstore_n 1, 1) := by decide +kernel
theorem dX8_digest_187 : decode cX8_digest 187 = .ok (.ldc2_w 341, 3) := by decide +kernel
theorem dX8_digest_190 : decode cX8_digest 190 = .ok (.lload_n 1, 1) := by decide +kernel
theorem dX8_digest_191 : decode cX8_digest 191 = .ok (.lmul, 1) := by decide +kernel
theorem dX8_digest_192 : decode cX8_digest 192 = .ok (.aload_n 0, 1) := by decide +kernel
theorem dX8_digest_193 : decode cX8_digest 193 = .ok (.invokevirtual 369, 3) := by decide +kernel
theorem dX8_digest_196 : decode cX8_digest 196 = .ok (.i2l, 1) := by decide +kernel
theorem dX8_digest_197 : decode cX8_digest 197 = .ok (.ladd, 1) := by decide +kernel
theorem dX8_digest_198 : decode cX8_digest 198 = .ok (.lstore_n 1, 1) := by decide +kernel
theorem dX8_digest_199 : decode cX8_digest 199 = .ok (.ldc2_w 341, 3) := by decide +kernel
theorem dX8_digest_202 : decode cX8_digest 202 = .ok (.lload_n 1, 1) := by decide +kernel
theorem dX8_digest_203 : decode cX8_digest 203 = .ok (.lmul, 1) := by decide +kernel
theorem dX8_digest_204 : decode cX8_digest 204 = .ok (.aload_n 0, 1) := by decide +kernel
theorem dX8_digest_205 : decode cX8_digest 205 = .ok (.iconst 0, 1) := by decide +kernel
theorem dX8_digest_206 : decode cX8_digest 206 = .ok (.invokevirtual 372, 3) := by decide +kernel
theorem dX8_digest_209 : decode cX8_digest 209 = .ok (.i2l, 1) := by decide +kernel
theorem dX8_digest_210 : decode cX8_digest 210 = .ok (.ladd, 1) := by decide +kernel
theorem dX8_digest_211 : decode cX8_digest 211 = .ok (.lstore_n 1, 1) := by decide +kernel
theorem dX8_digest_212 : decode cX8_digest 212 = .ok (.ldc2_w 341, 3) := by decide +kernel
theorem dX8_digest_215 : decode cX8_digest 215 = .ok (.lload_n 1, 1) := by decide +kernel
theorem dX8_digest_216 : decode cX8_digest 216 = .ok (.lmul, 1) := by decide +kernel
theorem dX8_digest_217 : decode cX8_digest 217 = .ok (.aload_n 0, 1) := by decide +kernel
theorem dX8_digest_218 : decode cX8_digest 218 = .ok (.iconst 1, 1) := by decide +kernel
theorem dX8_digest_219 : decode cX8_digest 219 = .ok (.invokevirtual 372, 3) := by decide +kernel
theorem dX8_digest_222 : decode cX8_digest 222 = .ok (.i2l, 1) := by decide +kernel
theorem dX8_digest_223 : decode cX8_digest 223 = .ok (.ladd, 1) := by decide +kernel
theorem dX8_digest_224 : decode cX8_digest 224 = .ok (.lstore_n 1, 1) := by decide +kernel
theorem dX8_digest_225 : decode cX8_digest 225 = .ok (.aload_n 0, 1) := by decide +kernel
theorem dX8_digest_226 : decode cX8_digest 226 = .ok (.invokevirtual 236, 3) := by decide +kernel
theorem dX8_digest_229 : decode cX8_digest 229 = .ok (.aload_n 0, 1) := by decide +kernel
theorem dX8_digest_230 : decode cX8_digest 230 = .ok (.lload_n 1, 1) := by decide +kernel
theorem dX8_digest_231 : decode cX8_digest 231 = .ok (.invokevirtual 356, 3) := by decide +kernel
theorem dX8_digest_234 : decode cX8_digest 234 = .ok (.lstore_n 1, 1) := by decide +kernel
theorem dX8_digest_235 : decode cX8_digest 235 = .ok (.ldc2_w 341, 3) := by decide +kernel
theorem dX8_digest_238 : decode cX8_digest 238 = .ok (.lload_n 1, 1) := by decide +kernel
theorem dX8_digest_239 : decode cX8_digest 239 = .ok (.lmul, 1) := by decide +kernel
theorem dX8_digest_240 : decode cX8_digest 240 = .ok (.aload_n 0, 1) := by decide +kernel
theorem dX8_digest_241 : decode cX8_digest 241 = .ok (.invokevirtual 265, 3) := by decide +kernel
theorem dX8_digest_244 : decode cX8_digest 244 = .ok (.i2l, 1) := by decide +kernel
theorem dX8_digest_245 : decode cX8_digest 245 = .ok (.ladd, 1) := by decide +kernel
theorem dX8_digest_246 : decode cX8_digest 246 = .ok (.lstore_n 1, 1) := by decide +kernel
theorem dX8_digest_247 : decode cX8_digest 247 = .ok (.ldc2_w 341, 3) := by decide +kernel
theorem dX8_digest_250 : decode cX8_digest 250 = .ok (.lload_n 1, 1) := by decide +kernel
theorem dX8_digest_251 : decode cX8_digest 251 = .ok (.lmul, 1) := by decide +kernel
theorem dX8_digest_252 : decode cX8_digest 252 = .ok (.aload_n 0, 1) := by decide +kernel
theorem dX8_digest_253 : decode cX8_digest 253 = .ok (.iconst 0, 1) := by decide +kernel
theorem dX8_digest_254 : decode cX8_digest 254 = .ok (.invokevirtual 375, 3) := by decide +kernel
theorem dX8_digest_257 : decode cX8_digest 257 = .ok (.i2l, 1) := by decide +kernel
theorem dX8_digest_258 : decode cX8_digest 258 = .ok (.ladd, 1) := by decide +kernel
theorem dX8_digest_259 : decode cX8_digest 259 = .ok (.lstore_n 1, 1) := by decide +kernel
theorem dX8_digest_260 : decode cX8_digest 260 = .ok (.ldc2_w 341, 3) := by decide +kernel
theorem dX8_digest_263 : decode cX8_digest 263 = .ok (.lload_n 1, 1) := by decide +kernel
theorem dX8_digest_264 : decode cX8_digest 264 = .ok (.lmul, 1) := by decide +kernel
theorem dX8_digest_265 : decode cX8_digest 265 = .ok (.aload_n 0, 1) := by decide +kernel
theorem dX8_digest_266 : decode cX8_digest 266 = .ok (.bipush 7, 2) := by decide +kernel
theorem dX8_digest_268 : decode cX8_digest 268 = .ok (.invokevirtual 375, 3) := by decide +kernel
theorem dX8_digest_271 : decode cX8_digest 271 = .ok (.i2l, 1) := by decide +kernel
theorem dX8_digest_272 : decode cX8_digest 272 = .ok (.ladd, 1) := by decide +kernel
theorem dX8_digest_273 : decode cX8_digest 273 = .ok (.lstore_n 1, 1) := by decide +kernel
theorem dX8_digest_274 : decode cX8_digest 274 = .ok (.aload_n 0, 1) := by decide +kernel
theorem dX8_digest_275 : decode cX8_digest 275 = .ok (.iconst 5, 1) := by decide +kernel
theorem dX8_digest_276 : decode cX8_digest 276 = .ok (.bipush 7, 2) := by decide +kernel
theorem dX8_digest_278 : decode cX8_digest 278 = .ok (.bipush 9, 2) := by decide +kernel
theorem dX8_digest_280 : decode cX8_digest 280 = .ok (.invokevirtual 288, 3) := by decide +kernel
theorem dX8_digest_283 : decode cX8_digest 283 = .ok (.ldc2_w 341, 3) := by decide +kernel
theorem dX8_digest_286 : decode cX8_digest 286 = .ok (.lload_n 1, 1) := by decide +kernel
theorem dX8_digest_287 : decode cX8_digest 287 = .ok (.lmul, 1) := by decide +kernel
theorem dX8_digest_288 : decode cX8_digest 288 = .ok (.aload_n 0, 1) := by decide +kernel
theorem dX8_digest_289 : decode cX8_digest 289 = .ok (.getfield 72, 3) := by decide +kernel
theorem dX8_digest_292 : decode cX8_digest 292 = .ok (.getfield 292, 3) := by decide +kernel
theorem dX8_digest_295 : decode cX8_digest 295 = .ok (.ladd, 1) := by decide +kernel
theorem dX8_digest_296 : decode cX8_digest 296 = .ok (.lstore_n 1, 1) := by decide +kernel
theorem dX8_digest_297 : decode cX8_digest 297 = .ok (.ldc2_w 341, 3) := by decide +kernel
theorem dX8_digest_300 : decode cX8_digest 300 = .ok (.lload_n 1, 1) := by decide +kernel
theorem dX8_digest_301 : decode cX8_digest 301 = .ok (.lmul, 1) := by decide +kernel
theorem dX8_digest_302 : decode cX8_digest 302 = .ok (.aload_n 0, 1) := by decide +kernel
theorem dX8_digest_303 : decode cX8_digest 303 = .ok (.getfield 72, 3) := by decide +kernel
theorem dX8_digest_306 : decode cX8_digest 306 = .ok (.getfield 296, 3) := by decide +kernel
theorem dX8_digest_309 : decode cX8_digest 309 = .ok (.ladd, 1) := by decide +kernel
theorem dX8_digest_310 : decode cX8_digest 310 = .ok (.lstore_n 1, 1) := by decide +kernel
theorem dX8_digest_311 : decode cX8_digest 311 = .ok (.ldc2_w 341, 3) := by decide +kernel
theorem dX8_digest_314 : decode cX8_digest 314 = .ok (.lload_n 1, 1) := by decide +kernel
theorem dX8_digest_315 : decode cX8_digest 315 = .ok (.lmul, 1) := by decide +kernel
theorem dX8_digest_316 : decode cX8_digest 316 = .ok (.aload_n 0, 1) := by decide +kernel
theorem dX8_digest_317 : decode cX8_digest 317 = .ok (.bipush 7, 2) := by decide +kernel
theorem dX8_digest_319 : decode cX8_digest 319 = .ok (.bipush 15, 2) := by decide +kernel
theorem dX8_digest_321 : decode cX8_digest 321 = .ok (.iconst 0, 1) := by decide +kernel
theorem dX8_digest_322 : decode cX8_digest 322 = .ok (.invokevirtual 378, 3) := by decide +kernel
theorem dX8_digest_325 : decode cX8_digest 325 = .ok (.i2l, 1) := by decide +kernel
theorem dX8_digest_326 : decode cX8_digest 326 = .ok (.ladd, 1) := by decide +kernel
theorem dX8_digest_327 : decode cX8_digest 327 = .ok (.lstore_n 1, 1) := by decide +kernel
theorem dX8_digest_328 : decode cX8_digest 328 = .ok (.ldc2_w 341, 3) := by decide +kernel
theorem dX8_digest_331 : decode cX8_digest 331 = .ok (.lload_n 1, 1) := by decide +kernel
theorem dX8_digest_332 : decode cX8_digest 332 = .ok (.lmul, 1) := by decide +kernel
theorem dX8_digest_333 : decode cX8_digest 333 = .ok (.aload_n 0, 1) := by decide +kernel
theorem dX8_digest_334 : decode cX8_digest 334 = .ok (.bipush 7, 2) := by decide +kernel
theorem dX8_digest_336 : decode cX8_digest 336 = .ok (.bipush 15, 2) := by decide +kernel
theorem dX8_digest_338 : decode cX8_digest 338 = .ok (.iconst 1, 1) := by decide +kernel
theorem dX8_digest_339 : decode cX8_digest 339 = .ok (.invokevirtual 378, 3) := by decide +kernel
theorem dX8_digest_342 : decode cX8_digest 342 = .ok (.i2l, 1) := by decide +kernel
theorem dX8_digest_343 : decode cX8_digest 343 = .ok (.ladd, 1) := by decide +kernel
theorem dX8_digest_344 : decode cX8_digest 344 = .ok (.lreturn, 1) := by decide +kernel
theorem dX8_withDay_0 : decode cX8_withDay 0 = .ok (.ldc2_w 341, 3) := by decide +kernel
theorem dX8_withDay_3 : decode cX8_withDay 3 = .ok (.lload_n 1, 1) := by decide +kernel
theorem dX8_withDay_4 : decode cX8_withDay 4 = .ok (.lmul, 1) := by decide +kernel
theorem dX8_withDay_5 : decode cX8_withDay 5 = .ok (.aload_n 0, 1) := by decide +kernel
theorem dX8_withDay_6 : decode cX8_withDay 6 = .ok (.iload_n 3, 1) := by decide +kernel
theorem dX8_withDay_7 : decode cX8_withDay 7 = .ok (.invokevirtual 381, 3) := by decide +kernel
theorem dX8_withDay_10 : decode cX8_withDay 10 = .ok (.i2l, 1) := by decide +kernel
theorem dX8_withDay_11 : decode cX8_withDay 11 = .ok (.ladd, 1) := by decide +kernel
theorem dX8_withDay_12 : decode cX8_withDay 12 = .ok (.lstore 4, 2) := by decide +kernel
theorem dX8_withDay_14 : decode cX8_withDay 14 = .ok (.ldc2_w 341, 3) := by decide +kernel
theorem dX8_withDay_17 : decode cX8_withDay 17 = .ok (.lload 4, 2) := by decide +kernel
theorem dX8_withDay_19 : decode cX8_withDay 19 = .ok (.lmul, 1) := by decide +kernel
theorem dX8_withDay_20 : decode cX8_withDay 20 = .ok (.aload_n 0, 1) := by decide +kernel
theorem dX8_withDay_21 : decode cX8_withDay 21 = .ok (.iload_n 3, 1) := by decide +kernel
theorem dX8_withDay_22 : decode cX8_withDay 22 = .ok (.invokevirtual 384, 3) := by decide +kernel
theorem dX8_withDay_25 : decode cX8_withDay 25 = .ok (.i2l, 1) := by decide +kernel
theorem dX8_withDay_26 : decode cX8_withDay 26 = .ok (.ladd, 1) := by decide +kernel
theorem dX8_withDay_27 : decode cX8_withDay 27 = .ok (.lstore 4, 2) := by decide +kernel
theorem dX8_withDay_29 : decode cX8_withDay 29 = .ok (.ldc2_w 341, 3) := by decide +kernel
theorem dX8_withDay_32 : decode cX8_withDay 32 = .ok (.lload 4, 2) := by decide +kernel
theorem dX8_withDay_34 : decode cX8_withDay 34 = .ok (.lmul, 1) := by decide +kernel
theorem dX8_withDay_35 : decode cX8_withDay 35 = .ok (.aload_n 0, 1) := by decide +kernel
theorem dX8_withDay_36 : decode cX8_withDay 36 = .ok (.iload_n 3, 1) := by decide +kernel
theorem dX8_withDay_37 : decode cX8_withDay 37 = .ok (.invokevirtual 387, 3) := by decide +kernel
theorem dX8_withDay_40 : decode cX8_withDay 40 = .ok (.i2l, 1) := by decide +kernel
theorem dX8_withDay_41 : decode cX8_withDay 41 = .ok (.ladd, 1) := by decide +kernel
theorem dX8_withDay_42 : decode cX8_withDay 42 = .ok (.lstore 4, 2) := by decide +kernel
theorem dX8_withDay_44 : decode cX8_withDay 44 = .ok (.iconst 0, 1) := by decide +kernel
theorem dX8_withDay_45 : decode cX8_withDay 45 = .ok (.istore 6, 2) := by decide +kernel
theorem dX8_withDay_47 : decode cX8_withDay 47 = .ok (.iload 6, 2) := by decide +kernel
theorem dX8_withDay_49 : decode cX8_withDay 49 = .ok (.bipush 36, 2) := by decide +kernel
theorem dX8_withDay_51 : decode cX8_withDay 51 = .ok (.if_icmp .ge 26, 3) := by decide +kernel
theorem dX8_withDay_54 : decode cX8_withDay 54 = .ok (.ldc2_w 341, 3) := by decide +kernel
theorem dX8_withDay_57 : decode cX8_withDay 57 = .ok (.lload 4, 2) := by decide +kernel
theorem dX8_withDay_59 : decode cX8_withDay 59 = .ok (.lmul, 1) := by decide +kernel
theorem dX8_withDay_60 : decode cX8_withDay 60 = .ok (.aload_n 0, 1) := by decide +kernel
theorem dX8_withDay_61 : decode cX8_withDay 61 = .ok (.iload_n 3, 1) := by decide +kernel
theorem dX8_withDay_62 : decode cX8_withDay 62 = .ok (.iload 6, 2) := by decide +kernel
theorem dX8_withDay_64 : decode cX8_withDay 64 = .ok (.invokevirtual 336, 3) := by decide +kernel
theorem dX8_withDay_67 : decode cX8_withDay 67 = .ok (.i2l, 1) := by decide +kernel
theorem dX8_withDay_68 : decode cX8_withDay 68 = .ok (.ladd, 1) := by decide +kernel
theorem dX8_withDay_69 : decode cX8_withDay 69 = .ok (.lstore 4, 2) := by decide +kernel
theorem dX8_withDay_71 : decode cX8_withDay 71 = .ok (.iinc 6 1, 3) := by decide +kernel
theorem dX8_withDay_74 : decode cX8_withDay 74 = .ok (.goto (-27), 3) := by decide +kernel
theorem dX8_withDay_77 : decode cX8_withDay 77 = .ok (.lload 4, 2) := by decide +kernel
theorem dX8_withDay_79 : decode cX8_withDay 79 = .ok (.lreturn, 1) := by decide +kernel
theorem dX8_withStroke_0 : decode cX8_withStroke 0 = .ok (.lload_n 1, 1) := by decide +kernel
theorem dX8_withStroke_1 : decode cX8_withStroke 1 = .ok (.lstore 4, 2) := by decide +kernel
theorem dX8_withStroke_3 : decode cX8_withStroke 3 = .ok (.iconst 0, 1) := by decide +kernel
theorem dX8_withStroke_4 : decode cX8_withStroke 4 = .ok (.istore 6, 2) := by decide +kernel
theorem dX8_withStroke_6 : decode cX8_withStroke 6 = .ok (.iload 6, 2) := by decide +kernel
theorem dX8_withStroke_8 : decode cX8_withStroke 8 = .ok (.iconst 3, 1) := by decide +kernel
theorem dX8_withStroke_9 : decode cX8_withStroke 9 = .ok (.if_icmp .gt 26, 3) := by decide +kernel
theorem dX8_withStroke_12 : decode cX8_withStroke 12 = .ok (.ldc2_w 341, 3) := by decide +kernel
theorem dX8_withStroke_15 : decode cX8_withStroke 15 = .ok (.lload 4, 2) := by decide +kernel
theorem dX8_withStroke_17 : decode cX8_withStroke 17 = .ok (.lmul, 1) := by decide +kernel
theorem dX8_withStroke_18 : decode cX8_withStroke 18 = .ok (.aload_n 0, 1) := by decide +kernel
theorem dX8_withStroke_19 : decode cX8_withStroke 19 = .ok (.iload_n 3, 1) := by decide +kernel
theorem dX8_withStroke_20 : decode cX8_withStroke 20 = .ok (.iload 6, 2) := by decide +kernel
theorem dX8_withStroke_22 : decode cX8_withStroke 22 = .ok (.invokevirtual 390, 3) := by decide +kernel
theorem dX8_withStroke_25 : decode cX8_withStroke 25 = .ok (.i2l, 1) := by decide +kernel
theorem dX8_withStroke_26 : decode cX8_withStroke 26 = .ok (.ladd, 1) := by decide +kernel
theorem dX8_withStroke_27 : decode cX8_withStroke 27 = .ok (.lstore 4, 2) := by decide +kernel
theorem dX8_withStroke_29 : decode cX8_withStroke 29 = .ok (.iinc 6 1, 3) := by decide +kernel
theorem dX8_withStroke_32 : decode cX8_withStroke 32 = .ok (.goto (-26), 3) := by decide +kernel
theorem dX8_withStroke_35 : decode cX8_withStroke 35 = .ok (.ldc2_w 341, 3) := by decide +kernel
theorem dX8_withStroke_38 : decode cX8_withStroke 38 = .ok (.lload 4, 2) := by decide +kernel
theorem dX8_withStroke_40 : decode cX8_withStroke 40 = .ok (.lmul, 1) := by decide +kernel
theorem dX8_withStroke_41 : decode cX8_withStroke 41 = .ok (.aload_n 0, 1) := by decide +kernel
theorem dX8_withStroke_42 : decode cX8_withStroke 42 = .ok (.bipush 9, 2) := by decide +kernel
theorem dX8_withStroke_44 : decode cX8_withStroke 44 = .ok (.iload_n 3, 1) := by decide +kernel
theorem dX8_withStroke_45 : decode cX8_withStroke 45 = .ok (.iconst 0, 1) := by decide +kernel
theorem dX8_withStroke_46 : decode cX8_withStroke 46 = .ok (.invokevirtual 393, 3) := by decide +kernel
theorem dX8_withStroke_49 : decode cX8_withStroke 49 = .ok (.i2l, 1) := by decide +kernel
theorem dX8_withStroke_50 : decode cX8_withStroke 50 = .ok (.ladd, 1) := by decide +kernel
theorem dX8_withStroke_51 : decode cX8_withStroke 51 = .ok (.lstore 4, 2) := by decide +kernel
theorem dX8_withStroke_53 : decode cX8_withStroke 53 = .ok (.ldc2_w 341, 3) := by decide +kernel
theorem dX8_withStroke_56 : decode cX8_withStroke 56 = .ok (.lload 4, 2) := by decide +kernel
theorem dX8_withStroke_58 : decode cX8_withStroke 58 = .ok (.lmul, 1) := by decide +kernel
theorem dX8_withStroke_59 : decode cX8_withStroke 59 = .ok (.aload_n 0, 1) := by decide +kernel
theorem dX8_withStroke_60 : decode cX8_withStroke 60 = .ok (.bipush 9, 2) := by decide +kernel
theorem dX8_withStroke_62 : decode cX8_withStroke 62 = .ok (.iload_n 3, 1) := by decide +kernel
theorem dX8_withStroke_63 : decode cX8_withStroke 63 = .ok (.iconst 1, 1) := by decide +kernel
theorem dX8_withStroke_64 : decode cX8_withStroke 64 = .ok (.invokevirtual 393, 3) := by decide +kernel
theorem dX8_withStroke_67 : decode cX8_withStroke 67 = .ok (.i2l, 1) := by decide +kernel
theorem dX8_withStroke_68 : decode cX8_withStroke 68 = .ok (.ladd, 1) := by decide +kernel
theorem dX8_withStroke_69 : decode cX8_withStroke 69 = .ok (.lstore 4, 2) := by decide +kernel
theorem dX8_withStroke_71 : decode cX8_withStroke 71 = .ok (.ldc2_w 341, 3) := by decide +kernel
theorem dX8_withStroke_74 : decode cX8_withStroke 74 = .ok (.lload 4, 2) := by decide +kernel
theorem dX8_withStroke_76 : decode cX8_withStroke 76 = .ok (.lmul, 1) := by decide +kernel
theorem dX8_withStroke_77 : decode cX8_withStroke 77 = .ok (.aload_n 0, 1) := by decide +kernel
theorem dX8_withStroke_78 : decode cX8_withStroke 78 = .ok (.bipush 19, 2) := by decide +kernel
theorem dX8_withStroke_80 : decode cX8_withStroke 80 = .ok (.iload_n 3, 1) := by decide +kernel
theorem dX8_withStroke_81 : decode cX8_withStroke 81 = .ok (.iconst 0, 1) := by decide +kernel
theorem dX8_withStroke_82 : decode cX8_withStroke 82 = .ok (.invokevirtual 393, 3) := by decide +kernel
theorem dX8_withStroke_85 : decode cX8_withStroke 85 = .ok (.i2l, 1) := by decide +kernel
theorem dX8_withStroke_86 : decode cX8_withStroke 86 = .ok (.ladd, 1) := by decide +kernel
theorem dX8_withStroke_87 : decode cX8_withStroke 87 = .ok (.lstore 4, 2) := by decide +kernel
theorem dX8_withStroke_89 : decode cX8_withStroke 89 = .ok (.ldc2_w 341, 3) := by decide +kernel
theorem dX8_withStroke_92 : decode cX8_withStroke 92 = .ok (.lload 4, 2) := by decide +kernel
theorem dX8_withStroke_94 : decode cX8_withStroke 94 = .ok (.lmul, 1) := by decide +kernel
theorem dX8_withStroke_95 : decode cX8_withStroke 95 = .ok (.aload_n 0, 1) := by decide +kernel
theorem dX8_withStroke_96 : decode cX8_withStroke 96 = .ok (.bipush 19, 2) := by decide +kernel
theorem dX8_withStroke_98 : decode cX8_withStroke 98 = .ok (.iload_n 3, 1) := by decide +kernel
theorem dX8_withStroke_99 : decode cX8_withStroke 99 = .ok (.iconst 1, 1) := by decide +kernel
theorem dX8_withStroke_100 : decode cX8_withStroke 100 = .ok (.invokevirtual 393, 3) := by decide +kernel
theorem dX8_withStroke_103 : decode cX8_withStroke 103 = .ok (.i2l, 1) := by decide +kernel
theorem dX8_withStroke_104 : decode cX8_withStroke 104 = .ok (.ladd, 1) := by decide +kernel
theorem dX8_withStroke_105 : decode cX8_withStroke 105 = .ok (.lstore 4, 2) := by decide +kernel
theorem dX8_withStroke_107 : decode cX8_withStroke 107 = .ok (.ldc2_w 341, 3) := by decide +kernel
theorem dX8_withStroke_110 : decode cX8_withStroke 110 = .ok (.lload 4, 2) := by decide +kernel
theorem dX8_withStroke_112 : decode cX8_withStroke 112 = .ok (.lmul, 1) := by decide +kernel
theorem dX8_withStroke_113 : decode cX8_withStroke 113 = .ok (.aload_n 0, 1) := by decide +kernel
theorem dX8_withStroke_114 : decode cX8_withStroke 114 = .ok (.iload_n 3, 1) := by decide +kernel
theorem dX8_withStroke_115 : decode cX8_withStroke 115 = .ok (.invokevirtual 396, 3) := by decide +kernel
theorem dX8_withStroke_118 : decode cX8_withStroke 118 = .ok (.i2l, 1) := by decide +kernel
theorem dX8_withStroke_119 : decode cX8_withStroke 119 = .ok (.ladd, 1) := by decide +kernel
theorem dX8_withStroke_120 : decode cX8_withStroke 120 = .ok (.lreturn, 1) := by decide +kernel
theorem dX8_withFewest_0 : decode cX8_withFewest 0 = .ok (.ldc2_w 341, 3) := by decide +kernel
theorem dX8_withFewest_3 : decode cX8_withFewest 3 = .ok (.ldc2_w 341, 3) := by decide +kernel
theorem dX8_withFewest_6 : decode cX8_withFewest 6 = .ok (.lload_n 1, 1) := by decide +kernel
theorem dX8_withFewest_7 : decode cX8_withFewest 7 = .ok (.lmul, 1) := by decide +kernel
theorem dX8_withFewest_8 : decode cX8_withFewest 8 = .ok (.aload_n 0, 1) := by decide +kernel
theorem dX8_withFewest_9 : decode cX8_withFewest 9 = .ok (.getfield 65, 3) := by decide +kernel
theorem dX8_withFewest_12 : decode cX8_withFewest 12 = .ok (.getfield 281, 3) := by decide +kernel
theorem dX8_withFewest_15 : decode cX8_withFewest 15 = .ok (.i2l, 1) := by decide +kernel
theorem dX8_withFewest_16 : decode cX8_withFewest 16 = .ok (.ladd, 1) := by decide +kernel
theorem dX8_withFewest_17 : decode cX8_withFewest 17 = .ok (.lmul, 1) := by decide +kernel
theorem dX8_withFewest_18 : decode cX8_withFewest 18 = .ok (.aload_n 0, 1) := by decide +kernel
theorem dX8_withFewest_19 : decode cX8_withFewest 19 = .ok (.getfield 65, 3) := by decide +kernel
theorem dX8_withFewest_22 : decode cX8_withFewest 22 = .ok (.getfield 399, 3) := by decide +kernel
theorem dX8_withFewest_25 : decode cX8_withFewest 25 = .ok (.i2l, 1) := by decide +kernel
theorem dX8_withFewest_26 : decode cX8_withFewest 26 = .ok (.ladd, 1) := by decide +kernel
theorem dX8_withFewest_27 : decode cX8_withFewest 27 = .ok (.lreturn, 1) := by decide +kernel
theorem dX8_isText_0 : decode cX8_isText 0 = .ok (.iload_n 0, 1) := by decide +kernel
theorem dX8_isText_1 : decode cX8_isText 1 = .ok (.ifCond .eq 8, 3) := by decide +kernel
theorem dX8_isText_4 : decode cX8_isText 4 = .ok (.iload_n 0, 1) := by decide +kernel
theorem dX8_isText_5 : decode cX8_isText 5 = .ok (.iconst 1, 1) := by decide +kernel
theorem dX8_isText_6 : decode cX8_isText 6 = .ok (.if_icmp .ne 7, 3) := by decide +kernel
theorem dX8_isText_9 : decode cX8_isText 9 = .ok (.iconst 1, 1) := by decide +kernel
theorem dX8_isText_10 : decode cX8_isText 10 = .ok (.goto 4, 3) := by decide +kernel
theorem dX8_isText_13 : decode cX8_isText 13 = .ok (.iconst 0, 1) := by decide +kernel
theorem dX8_isText_14 : decode cX8_isText 14 = .ok (.ireturn, 1) := by decide +kernel
theorem dX8_isEither_0 : decode cX8_isEither 0 = .ok (.iload_n 0, 1) := by decide +kernel
theorem dX8_isEither_1 : decode cX8_isEither 1 = .ok (.ifCond .eq 8, 3) := by decide +kernel
theorem dX8_isEither_4 : decode cX8_isEither 4 = .ok (.iload_n 0, 1) := by decide +kernel
theorem dX8_isEither_5 : decode cX8_isEither 5 = .ok (.iconst 1, 1) := by decide +kernel
theorem dX8_isEither_6 : decode cX8_isEither 6 = .ok (.if_icmp .ne 7, 3) := by decide +kernel
theorem dX8_isEither_9 : decode cX8_isEither 9 = .ok (.iconst 1, 1) := by decide +kernel
theorem dX8_isEither_10 : decode cX8_isEither 10 = .ok (.goto 4, 3) := by decide +kernel
theorem dX8_isEither_13 : decode cX8_isEither 13 = .ok (.iconst 0, 1) := by decide +kernel
theorem dX8_isEither_14 : decode cX8_isEither 14 = .ok (.ireturn, 1) := by decide +kernel
theorem dX8_isDay_0 : decode cX8_isDay 0 = .ok (.iload_n 0, 1) := by decide +kernel
theorem dX8_isDay_1 : decode cX8_isDay 1 = .ok (.ifCond .lt 13, 3) := by decide +kernel
theorem dX8_isDay_4 : decode cX8_isDay 4 = .ok (.iload_n 0, 1) := by decide +kernel
theorem dX8_isDay_5 : decode cX8_isDay 5 = .ok (.bipush 20, 2) := by decide +kernel
theorem dX8_isDay_7 : decode cX8_isDay 7 = .ok (.if_icmp .ge 7, 3) := by decide +kernel
theorem dX8_isDay_10 : decode cX8_isDay 10 = .ok (.iconst 1, 1) := by decide +kernel
theorem dX8_isDay_11 : decode cX8_isDay 11 = .ok (.goto 4, 3) := by decide +kernel
theorem dX8_isDay_14 : decode cX8_isDay 14 = .ok (.iconst 0, 1) := by decide +kernel
theorem dX8_isDay_15 : decode cX8_isDay 15 = .ok (.ireturn, 1) := by decide +kernel
theorem dX8_isLine_0 : decode cX8_isLine 0 = .ok (.iload_n 0, 1) := by decide +kernel
theorem dX8_isLine_1 : decode cX8_isLine 1 = .ok (.ifCond .lt 13, 3) := by decide +kernel
theorem dX8_isLine_4 : decode cX8_isLine 4 = .ok (.iload_n 0, 1) := by decide +kernel
theorem dX8_isLine_5 : decode cX8_isLine 5 = .ok (.bipush 6, 2) := by decide +kernel
theorem dX8_isLine_7 : decode cX8_isLine 7 = .ok (.if_icmp .ge 7, 3) := by decide +kernel
theorem dX8_isLine_10 : decode cX8_isLine 10 = .ok (.iconst 1, 1) := by decide +kernel
theorem dX8_isLine_11 : decode cX8_isLine 11 = .ok (.goto 4, 3) := by decide +kernel
theorem dX8_isLine_14 : decode cX8_isLine 14 = .ok (.iconst 0, 1) := by decide +kernel
theorem dX8_isLine_15 : decode cX8_isLine 15 = .ok (.ireturn, 1) := by decide +kernel
theorem dX8_isCell_0 : decode cX8_isCell 0 = .ok (.iload_n 0, 1) := by decide +kernel
theorem dX8_isCell_1 : decode cX8_isCell 1 = .ok (.ifCond .lt 13, 3) := by decide +kernel
theorem dX8_isCell_4 : decode cX8_isCell 4 = .ok (.iload_n 0, 1) := by decide +kernel
theorem dX8_isCell_5 : decode cX8_isCell 5 = .ok (.bipush 36, 2) := by decide +kernel
theorem dX8_isCell_7 : decode cX8_isCell 7 = .ok (.if_icmp .ge 7, 3) := by decide +kernel
theorem dX8_isCell_10 : decode cX8_isCell 10 = .ok (.iconst 1, 1) := by decide +kernel
theorem dX8_isCell_11 : decode cX8_isCell 11 = .ok (.goto 4, 3) := by decide +kernel
theorem dX8_isCell_14 : decode cX8_isCell 14 = .ok (.iconst 0, 1) := by decide +kernel
theorem dX8_isCell_15 : decode cX8_isCell 15 = .ok (.ireturn, 1) := by decide +kernel
theorem dX8_isSheet_0 : decode cX8_isSheet 0 = .ok (.iload_n 0, 1) := by decide +kernel
theorem dX8_isSheet_1 : decode cX8_isSheet 1 = .ok (.ifCond .lt 12, 3) := by decide +kernel
theorem dX8_isSheet_4 : decode cX8_isSheet 4 = .ok (.iload_n 0, 1) := by decide +kernel
theorem dX8_isSheet_5 : decode cX8_isSheet 5 = .ok (.iconst 4, 1) := by decide +kernel
theorem dX8_isSheet_6 : decode cX8_isSheet 6 = .ok (.if_icmp .ge 7, 3) := by decide +kernel
theorem dX8_isSheet_9 : decode cX8_isSheet 9 = .ok (.iconst 1, 1) := by decide +kernel
theorem dX8_isSheet_10 : decode cX8_isSheet 10 = .ok (.goto 4, 3) := by decide +kernel
theorem dX8_isSheet_13 : decode cX8_isSheet 13 = .ok (.iconst 0, 1) := by decide +kernel
theorem dX8_isSheet_14 : decode cX8_isSheet 14 = .ok (.ireturn, 1) := by decide +kernel
theorem dX8_isForm_0 : decode cX8_isForm 0 = .ok (.iload_n 0, 1) := by decide +kernel
theorem dX8_isForm_1 : decode cX8_isForm 1 = .ok (.ifCond .lt 12, 3) := by decide +kernel
theorem dX8_isForm_4 : decode cX8_isForm 4 = .ok (.iload_n 0, 1) := by decide +kernel
theorem dX8_isForm_5 : decode cX8_isForm 5 = .ok (.iconst 2, 1) := by decide +kernel
theorem dX8_isForm_6 : decode cX8_isForm 6 = .ok (.if_icmp .gt 7, 3) := by decide +kernel
theorem dX8_isForm_9 : decode cX8_isForm 9 = .ok (.iconst 1, 1) := by decide +kernel
theorem dX8_isForm_10 : decode cX8_isForm 10 = .ok (.goto 4, 3) := by decide +kernel
theorem dX8_isForm_13 : decode cX8_isForm 13 = .ok (.iconst 0, 1) := by decide +kernel
theorem dX8_isForm_14 : decode cX8_isForm 14 = .ok (.ireturn, 1) := by decide +kernel
theorem dX8_isStroke_0 : decode cX8_isStroke 0 = .ok (.iload_n 1, 1) := by decide +kernel
theorem dX8_isStroke_1 : decode cX8_isStroke 1 = .ok (.ifCond .lt 18, 3) := by decide +kernel
theorem dX8_isStroke_4 : decode cX8_isStroke 4 = .ok (.iload_n 1, 1) := by decide +kernel
theorem dX8_isStroke_5 : decode cX8_isStroke 5 = .ok (.aload_n 0, 1) := by decide +kernel
theorem dX8_isStroke_6 : decode cX8_isStroke 6 = .ok (.getfield 38, 3) := by decide +kernel
theorem dX8_isStroke_9 : decode cX8_isStroke 9 = .ok (.getfield 221, 3) := by decide +kernel
theorem dX8_isStroke_12 : decode cX8_isStroke 12 = .ok (.if_icmp .ge 7, 3) := by decide +kernel
theorem dX8_isStroke_15 : decode cX8_isStroke 15 = .ok (.iconst 1, 1) := by decide +kernel
theorem dX8_isStroke_16 : decode cX8_isStroke 16 = .ok (.goto 4, 3) := by decide +kernel
theorem dX8_isStroke_19 : decode cX8_isStroke 19 = .ok (.iconst 0, 1) := by decide +kernel
theorem dX8_isStroke_20 : decode cX8_isStroke 20 = .ok (.ireturn, 1) := by decide +kernel
theorem dX8_only_0 : decode cX8_only 0 = .ok (.iconst 1, 1) := by decide +kernel
theorem dX8_only_1 : decode cX8_only 1 = .ok (.iconst 4, 1) := by decide +kernel
theorem dX8_only_2 : decode cX8_only 2 = .ok (.iload_n 0, 1) := by decide +kernel
theorem dX8_only_3 : decode cX8_only 3 = .ok (.imul, 1) := by decide +kernel
theorem dX8_only_4 : decode cX8_only 4 = .ok (.ishl, 1) := by decide +kernel
theorem dX8_only_5 : decode cX8_only 5 = .ok (.ireturn, 1) := by decide +kernel
theorem dX8_has_0 : decode cX8_has 0 = .ok (.iload_n 0, 1) := by decide +kernel
theorem dX8_has_1 : decode cX8_has 1 = .ok (.iconst 4, 1) := by decide +kernel
theorem dX8_has_2 : decode cX8_has 2 = .ok (.iload_n 1, 1) := by decide +kernel
theorem dX8_has_3 : decode cX8_has 3 = .ok (.imul, 1) := by decide +kernel
theorem dX8_has_4 : decode cX8_has 4 = .ok (.iushr, 1) := by decide +kernel
theorem dX8_has_5 : decode cX8_has 5 = .ok (.iconst 1, 1) := by decide +kernel
theorem dX8_has_6 : decode cX8_has 6 = .ok (.iand, 1) := by decide +kernel
theorem dX8_has_7 : decode cX8_has 7 = .ok (.ifCond .eq 7, 3) := by decide +kernel
theorem dX8_has_10 : decode cX8_has 10 = .ok (.iconst 1, 1) := by decide +kernel
theorem dX8_has_11 : decode cX8_has 11 = .ok (.goto 4, 3) := by decide +kernel
theorem dX8_has_14 : decode cX8_has 14 = .ok (.iconst 0, 1) := by decide +kernel
theorem dX8_has_15 : decode cX8_has 15 = .ok (.ireturn, 1) := by decide +kernel
theorem dX8_strengthIn_0 : decode cX8_strengthIn 0 = .ok (.iload_n 0, 1) := by decide +kernel
theorem dX8_strengthIn_1 : decode cX8_strengthIn 1 = .ok (.iconst 4, 1) := by decide +kernel
theorem dX8_strengthIn_2 : decode cX8_strengthIn 2 = .ok (.iload_n 1, 1) := by decide +kernel
theorem dX8_strengthIn_3 : decode cX8_strengthIn 3 = .ok (.imul, 1) := by decide +kernel
theorem dX8_strengthIn_4 : decode cX8_strengthIn 4 = .ok (.iushr, 1) := by decide +kernel
theorem dX8_strengthIn_5 : decode cX8_strengthIn 5 = .ok (.bipush 15, 2) := by decide +kernel
theorem dX8_strengthIn_7 : decode cX8_strengthIn 7 = .ok (.iand, 1) := by decide +kernel
theorem dX8_strengthIn_8 : decode cX8_strengthIn 8 = .ok (.ireturn, 1) := by decide +kernel
theorem dX8_hasBit_0 : decode cX8_hasBit 0 = .ok (.iload_n 0, 1) := by decide +kernel
theorem dX8_hasBit_1 : decode cX8_hasBit 1 = .ok (.iload_n 1, 1) := by decide +kernel
theorem dX8_hasBit_2 : decode cX8_hasBit 2 = .ok (.ishr, 1) := by decide +kernel
theorem dX8_hasBit_3 : decode cX8_hasBit 3 = .ok (.iconst 1, 1) := by decide +kernel
theorem dX8_hasBit_4 : decode cX8_hasBit 4 = .ok (.iand, 1) := by decide +kernel
theorem dX8_hasBit_5 : decode cX8_hasBit 5 = .ok (.ifCond .eq 7, 3) := by decide +kernel
theorem dX8_hasBit_8 : decode cX8_hasBit 8 = .ok (.iconst 1, 1) := by decide +kernel
theorem dX8_hasBit_9 : decode cX8_hasBit 9 = .ok (.goto 4, 3) := by decide +kernel
theorem dX8_hasBit_12 : decode cX8_hasBit 12 = .ok (.iconst 0, 1) := by decide +kernel
theorem dX8_hasBit_13 : decode cX8_hasBit 13 = .ok (.ireturn, 1) := by decide +kernel
theorem dX8_leastLine_0 : decode cX8_leastLine 0 = .ok (.iconst 0, 1) := by decide +kernel
theorem dX8_leastLine_1 : decode cX8_leastLine 1 = .ok (.istore_n 1, 1) := by decide +kernel
theorem dX8_leastLine_2 : decode cX8_leastLine 2 = .ok (.iload_n 1, 1) := by decide +kernel
theorem dX8_leastLine_3 : decode cX8_leastLine 3 = .ok (.bipush 6, 2) := by decide +kernel
theorem dX8_leastLine_5 : decode cX8_leastLine 5 = .ok (.if_icmp .ge 19, 3) := by decide +kernel
theorem dX8_leastLine_8 : decode cX8_leastLine 8 = .ok (.iload_n 0, 1) := by decide +kernel
theorem dX8_leastLine_9 : decode cX8_leastLine 9 = .ok (.iload_n 1, 1) := by decide +kernel
theorem dX8_leastLine_10 : decode cX8_leastLine 10 = .ok (.invokestatic 402, 3) := by decide +kernel
theorem dX8_leastLine_13 : decode cX8_leastLine 13 = .ok (.ifCond .eq 5, 3) := by decide +kernel
theorem dX8_leastLine_16 : decode cX8_leastLine 16 = .ok (.iload_n 1, 1) := by decide +kernel
theorem dX8_leastLine_17 : decode cX8_leastLine 17 = .ok (.ireturn, 1) := by decide +kernel
theorem dX8_leastLine_18 : decode cX8_leastLine 18 = .ok (.iinc 1 1, 3) := by decide +kernel
theorem dX8_leastLine_21 : decode cX8_leastLine 21 = .ok (.goto (-19), 3) := by decide +kernel
theorem dX8_leastLine_24 : decode cX8_leastLine 24 = .ok (.iconst (-1), 1) := by decide +kernel
theorem dX8_leastLine_25 : decode cX8_leastLine 25 = .ok (.ireturn, 1) := by decide +kernel
theorem dX8_lowestBits_0 : decode cX8_lowestBits 0 = .ok (.iload_n 0, 1) := by decide +kernel
theorem dX8_lowestBits_1 : decode cX8_lowestBits 1 = .ok (.lookupswitch 33 #[(0, 27), (1, 30)], 27) := by decide +kernel
theorem dX8_lowestBits_28 : decode cX8_lowestBits 28 = .ok (.iload_n 1, 1) := by decide +kernel
theorem dX8_lowestBits_29 : decode cX8_lowestBits 29 = .ok (.i2b, 1) := by decide +kernel
theorem dX8_lowestBits_30 : decode cX8_lowestBits 30 = .ok (.ireturn, 1) := by decide +kernel
theorem dX8_lowestBits_31 : decode cX8_lowestBits 31 = .ok (.iload_n 1, 1) := by decide +kernel
theorem dX8_lowestBits_32 : decode cX8_lowestBits 32 = .ok (.i2s, 1) := by decide +kernel
theorem dX8_lowestBits_33 : decode cX8_lowestBits 33 = .ok (.ireturn, 1) := by decide +kernel
theorem dX8_lowestBits_34 : decode cX8_lowestBits 34 = .ok (.iload_n 1, 1) := by decide +kernel
theorem dX8_lowestBits_35 : decode cX8_lowestBits 35 = .ok (.ireturn, 1) := by decide +kernel
theorem dX8_found_0 : decode cX8_found 0 = .ok (.aload_n 0, 1) := by decide +kernel
theorem dX8_found_1 : decode cX8_found 1 = .ok (.iload_n 1, 1) := by decide +kernel
theorem dX8_found_2 : decode cX8_found 2 = .ok (.putfield 92, 3) := by decide +kernel
theorem dX8_found_5 : decode cX8_found 5 = .ok (.bipush (-10), 2) := by decide +kernel
theorem dX8_found_7 : decode cX8_found 7 = .ok (.iload_n 1, 1) := by decide +kernel
theorem dX8_found_8 : decode cX8_found 8 = .ok (.isub, 1) := by decide +kernel
theorem dX8_found_9 : decode cX8_found 9 = .ok (.ireturn, 1) := by decide +kernel
theorem dX8_textOf_0 : decode cX8_textOf 0 = .ok (.iload_n 1, 1) := by decide +kernel
theorem dX8_textOf_1 : decode cX8_textOf 1 = .ok (.ifCond .ne 10, 3) := by decide +kernel
theorem dX8_textOf_4 : decode cX8_textOf 4 = .ok (.aload_n 0, 1) := by decide +kernel
theorem dX8_textOf_5 : decode cX8_textOf 5 = .ok (.getfield 14, 3) := by decide +kernel
theorem dX8_textOf_8 : decode cX8_textOf 8 = .ok (.goto 7, 3) := by decide +kernel
theorem dX8_textOf_11 : decode cX8_textOf 11 = .ok (.aload_n 0, 1) := by decide +kernel
theorem dX8_textOf_12 : decode cX8_textOf 12 = .ok (.getfield 18, 3) := by decide +kernel
theorem dX8_textOf_15 : decode cX8_textOf 15 = .ok (.areturn, 1) := by decide +kernel
theorem dX8_faultOfDamps_0 : decode cX8_faultOfDamps 0 = .ok (.iconst 0, 1) := by decide +kernel
theorem dX8_faultOfDamps_1 : decode cX8_faultOfDamps 1 = .ok (.istore_n 1, 1) := by decide +kernel
theorem dX8_faultOfDamps_2 : decode cX8_faultOfDamps 2 = .ok (.iload_n 1, 1) := by decide +kernel
theorem dX8_faultOfDamps_3 : decode cX8_faultOfDamps 3 = .ok (.aload_n 0, 1) := by decide +kernel
theorem dX8_faultOfDamps_4 : decode cX8_faultOfDamps 4 = .ok (.getfield 14, 3) := by decide +kernel
theorem dX8_faultOfDamps_7 : decode cX8_faultOfDamps 7 = .ok (.getfield 111, 3) := by decide +kernel
theorem dX8_faultOfDamps_10 : decode cX8_faultOfDamps 10 = .ok (.if_icmp .ge 29, 3) := by decide +kernel
theorem dX8_faultOfDamps_13 : decode cX8_faultOfDamps 13 = .ok (.aload_n 0, 1) := by decide +kernel
theorem dX8_faultOfDamps_14 : decode cX8_faultOfDamps 14 = .ok (.getfield 14, 3) := by decide +kernel
theorem dX8_faultOfDamps_17 : decode cX8_faultOfDamps 17 = .ok (.iload_n 1, 1) := by decide +kernel
theorem dX8_faultOfDamps_18 : decode cX8_faultOfDamps 18 = .ok (.invokevirtual 405, 3) := by decide +kernel
theorem dX8_faultOfDamps_21 : decode cX8_faultOfDamps 21 = .ok (.bipush 48, 2) := by decide +kernel
theorem dX8_faultOfDamps_23 : decode cX8_faultOfDamps 23 = .ok (.bipush 57, 2) := by decide +kernel
theorem dX8_faultOfDamps_25 : decode cX8_faultOfDamps 25 = .ok (.invokestatic 408, 3) := by decide +kernel
theorem dX8_faultOfDamps_28 : decode cX8_faultOfDamps 28 = .ok (.ifCond .ne 5, 3) := by decide +kernel
theorem dX8_faultOfDamps_31 : decode cX8_faultOfDamps 31 = .ok (.iload_n 1, 1) := by decide +kernel
theorem dX8_faultOfDamps_32 : decode cX8_faultOfDamps 32 = .ok (.ireturn, 1) := by decide +kernel
theorem dX8_faultOfDamps_33 : decode cX8_faultOfDamps 33 = .ok (.iinc 1 1, 3) := by decide +kernel
theorem dX8_faultOfDamps_36 : decode cX8_faultOfDamps 36 = .ok (.goto (-34), 3) := by decide +kernel
theorem dX8_faultOfDamps_39 : decode cX8_faultOfDamps 39 = .ok (.iconst (-1), 1) := by decide +kernel
theorem dX8_faultOfDamps_40 : decode cX8_faultOfDamps 40 = .ok (.ireturn, 1) := by decide +kernel
theorem dX8_faultOfStrokes_0 : decode cX8_faultOfStrokes 0 = .ok (.aload_n 0, 1) := by decide +kernel
theorem dX8_faultOfStrokes_1 : decode cX8_faultOfStrokes 1 = .ok (.getfield 18, 3) := by decide +kernel
theorem dX8_faultOfStrokes_4 : decode cX8_faultOfStrokes 4 = .ok (.getfield 111, 3) := by decide +kernel
theorem dX8_faultOfStrokes_7 : decode cX8_faultOfStrokes 7 = .ok (.istore_n 1, 1) := by decide +kernel
theorem dX8_faultOfStrokes_8 : decode cX8_faultOfStrokes 8 = .ok (.iconst 0, 1) := by decide +kernel
theorem dX8_faultOfStrokes_9 : decode cX8_faultOfStrokes 9 = .ok (.istore_n 2, 1) := by decide +kernel
theorem dX8_faultOfStrokes_10 : decode cX8_faultOfStrokes 10 = .ok (.iload_n 2, 1) := by decide +kernel
theorem dX8_faultOfStrokes_11 : decode cX8_faultOfStrokes 11 = .ok (.iload_n 1, 1) := by decide +kernel
theorem dX8_faultOfStrokes_12 : decode cX8_faultOfStrokes 12 = .ok (.if_icmp .ge 29, 3) := by decide +kernel
theorem dX8_faultOfStrokes_15 : decode cX8_faultOfStrokes 15 = .ok (.iload_n 2, 1) := by decide +kernel
theorem dX8_faultOfStrokes_16 : decode cX8_faultOfStrokes 16 = .ok (.bipush 7, 2) := by decide +kernel
theorem dX8_faultOfStrokes_18 : decode cX8_faultOfStrokes 18 = .ok (.irem, 1) := by decide +kernel
theorem dX8_faultOfStrokes_19 : decode cX8_faultOfStrokes 19 = .ok (.aload_n 0, 1) := by decide +kernel
theorem dX8_faultOfStrokes_20 : decode cX8_faultOfStrokes 20 = .ok (.getfield 18, 3) := by decide +kernel
theorem dX8_faultOfStrokes_23 : decode cX8_faultOfStrokes 23 = .ok (.iload_n 2, 1) := by decide +kernel
theorem dX8_faultOfStrokes_24 : decode cX8_faultOfStrokes 24 = .ok (.invokevirtual 405, 3) := by decide +kernel
theorem dX8_faultOfStrokes_27 : decode cX8_faultOfStrokes 27 = .ok (.invokestatic 411, 3) := by decide +kernel
theorem dX8_faultOfStrokes_30 : decode cX8_faultOfStrokes 30 = .ok (.ifCond .ne 5, 3) := by decide +kernel
theorem dX8_faultOfStrokes_33 : decode cX8_faultOfStrokes 33 = .ok (.iload_n 2, 1) := by decide +kernel
theorem dX8_faultOfStrokes_34 : decode cX8_faultOfStrokes 34 = .ok (.ireturn, 1) := by decide +kernel
theorem dX8_faultOfStrokes_35 : decode cX8_faultOfStrokes 35 = .ok (.iinc 2 1, 3) := by decide +kernel
theorem dX8_faultOfStrokes_38 : decode cX8_faultOfStrokes 38 = .ok (.goto (-28), 3) := by decide +kernel
theorem dX8_faultOfStrokes_41 : decode cX8_faultOfStrokes 41 = .ok (.iload_n 1, 1) := by decide +kernel
theorem dX8_faultOfStrokes_42 : decode cX8_faultOfStrokes 42 = .ok (.ifCond .eq 12, 3) := by decide +kernel
theorem dX8_faultOfStrokes_45 : decode cX8_faultOfStrokes 45 = .ok (.iload_n 1, 1) := by decide +kernel
theorem dX8_faultOfStrokes_46 : decode cX8_faultOfStrokes 46 = .ok (.bipush 7, 2) := by decide +kernel
theorem dX8_faultOfStrokes_48 : decode cX8_faultOfStrokes 48 = .ok (.irem, 1) := by decide +kernel
theorem dX8_faultOfStrokes_49 : decode cX8_faultOfStrokes 49 = .ok (.bipush 6, 2) := by decide +kernel
theorem dX8_faultOfStrokes_51 : decode cX8_faultOfStrokes 51 = .ok (.if_icmp .ne 7, 3) := by decide +kernel
theorem dX8_faultOfStrokes_54 : decode cX8_faultOfStrokes 54 = .ok (.iconst (-1), 1) := by decide +kernel
theorem dX8_faultOfStrokes_55 : decode cX8_faultOfStrokes 55 = .ok (.goto 4, 3) := by decide +kernel
theorem dX8_faultOfStrokes_58 : decode cX8_faultOfStrokes 58 = .ok (.iload_n 1, 1) := by decide +kernel
theorem dX8_faultOfStrokes_59 : decode cX8_faultOfStrokes 59 = .ok (.ireturn, 1) := by decide +kernel
theorem dX8_fitsStroke_0 : decode cX8_fitsStroke 0 = .ok (.iload_n 0, 1) := by decide +kernel
theorem dX8_fitsStroke_1 : decode cX8_fitsStroke 1 = .ok (.tableswitch 84 0 5 #[39, 48, 57, 57, 66, 75], 39) := by decide +kernel
theorem dX8_fitsStroke_40 : decode cX8_fitsStroke 40 = .ok (.iload_n 1, 1) := by decide +kernel
theorem dX8_fitsStroke_41 : decode cX8_fitsStroke 41 = .ok (.bipush 48, 2) := by decide +kernel
theorem dX8_fitsStroke_43 : decode cX8_fitsStroke 43 = .ok (.bipush 49, 2) := by decide +kernel
theorem dX8_fitsStroke_45 : decode cX8_fitsStroke 45 = .ok (.invokestatic 408, 3) := by decide +kernel
theorem dX8_fitsStroke_48 : decode cX8_fitsStroke 48 = .ok (.ireturn, 1) := by decide +kernel
theorem dX8_fitsStroke_49 : decode cX8_fitsStroke 49 = .ok (.iload_n 1, 1) := by decide +kernel
theorem dX8_fitsStroke_50 : decode cX8_fitsStroke 50 = .ok (.bipush 48, 2) := by decide +kernel
theorem dX8_fitsStroke_52 : decode cX8_fitsStroke 52 = .ok (.bipush 57, 2) := by decide +kernel
theorem dX8_fitsStroke_54 : decode cX8_fitsStroke 54 = .ok (.invokestatic 408, 3) := by decide +kernel
theorem dX8_fitsStroke_57 : decode cX8_fitsStroke 57 = .ok (.ireturn, 1) := by decide +kernel
theorem dX8_fitsStroke_58 : decode cX8_fitsStroke 58 = .ok (.iload_n 1, 1) := by decide +kernel
theorem dX8_fitsStroke_59 : decode cX8_fitsStroke 59 = .ok (.bipush 48, 2) := by decide +kernel
theorem dX8_fitsStroke_61 : decode cX8_fitsStroke 61 = .ok (.bipush 53, 2) := by decide +kernel
theorem dX8_fitsStroke_63 : decode cX8_fitsStroke 63 = .ok (.invokestatic 408, 3) := by decide +kernel
theorem dX8_fitsStroke_66 : decode cX8_fitsStroke 66 = .ok (.ireturn, 1) := by decide +kernel
theorem dX8_fitsStroke_67 : decode cX8_fitsStroke 67 = .ok (.iload_n 1, 1) := by decide +kernel
theorem dX8_fitsStroke_68 : decode cX8_fitsStroke 68 = .ok (.bipush 97, 2) := by decide +kernel
theorem dX8_fitsStroke_70 : decode cX8_fitsStroke 70 = .ok (.bipush 102, 2) := by decide +kernel
theorem dX8_fitsStroke_72 : decode cX8_fitsStroke 72 = .ok (.invokestatic 408, 3) := by decide +kernel
theorem dX8_fitsStroke_75 : decode cX8_fitsStroke 75 = .ok (.ireturn, 1) := by decide +kernel
theorem dX8_fitsStroke_76 : decode cX8_fitsStroke 76 = .ok (.iload_n 1, 1) := by decide +kernel
theorem dX8_fitsStroke_77 : decode cX8_fitsStroke 77 = .ok (.bipush 49, 2) := by decide +kernel
theorem dX8_fitsStroke_79 : decode cX8_fitsStroke 79 = .ok (.bipush 57, 2) := by decide +kernel
theorem dX8_fitsStroke_81 : decode cX8_fitsStroke 81 = .ok (.invokestatic 408, 3) := by decide +kernel
theorem dX8_fitsStroke_84 : decode cX8_fitsStroke 84 = .ok (.ireturn, 1) := by decide +kernel
theorem dX8_fitsStroke_85 : decode cX8_fitsStroke 85 = .ok (.iload_n 1, 1) := by decide +kernel
theorem dX8_fitsStroke_86 : decode cX8_fitsStroke 86 = .ok (.bipush 59, 2) := by decide +kernel
theorem dX8_fitsStroke_88 : decode cX8_fitsStroke 88 = .ok (.if_icmp .ne 7, 3) := by decide +kernel
theorem dX8_fitsStroke_91 : decode cX8_fitsStroke 91 = .ok (.iconst 1, 1) := by decide +kernel
theorem dX8_fitsStroke_92 : decode cX8_fitsStroke 92 = .ok (.goto 4, 3) := by decide +kernel
theorem dX8_fitsStroke_95 : decode cX8_fitsStroke 95 = .ok (.iconst 0, 1) := by decide +kernel
theorem dX8_fitsStroke_96 : decode cX8_fitsStroke 96 = .ok (.ireturn, 1) := by decide +kernel
theorem dX8_isWithin_0 : decode cX8_isWithin 0 = .ok (.iload_n 0, 1) := by decide +kernel
theorem dX8_isWithin_1 : decode cX8_isWithin 1 = .ok (.iload_n 1, 1) := by decide +kernel
theorem dX8_isWithin_2 : decode cX8_isWithin 2 = .ok (.if_icmp .lt 12, 3) := by decide +kernel
theorem dX8_isWithin_5 : decode cX8_isWithin 5 = .ok (.iload_n 0, 1) := by decide +kernel
theorem dX8_isWithin_6 : decode cX8_isWithin 6 = .ok (.iload_n 2, 1) := by decide +kernel
theorem dX8_isWithin_7 : decode cX8_isWithin 7 = .ok (.if_icmp .gt 7, 3) := by decide +kernel
theorem dX8_isWithin_10 : decode cX8_isWithin 10 = .ok (.iconst 1, 1) := by decide +kernel
theorem dX8_isWithin_11 : decode cX8_isWithin 11 = .ok (.goto 4, 3) := by decide +kernel
theorem dX8_isWithin_14 : decode cX8_isWithin 14 = .ok (.iconst 0, 1) := by decide +kernel
theorem dX8_isWithin_15 : decode cX8_isWithin 15 = .ok (.ireturn, 1) := by decide +kernel
theorem dX8_bringUpToDate_0 : decode cX8_bringUpToDate 0 = .ok (.aload_n 0, 1) := by decide +kernel
theorem dX8_bringUpToDate_1 : decode cX8_bringUpToDate 1 = .ok (.getfield 95, 3) := by decide +kernel
theorem dX8_bringUpToDate_4 : decode cX8_bringUpToDate 4 = .ok (.ifCond .ne 4, 3) := by decide +kernel
theorem dX8_bringUpToDate_7 : decode cX8_bringUpToDate 7 = .ok (.return_, 1) := by decide +kernel
theorem dX8_bringUpToDate_8 : decode cX8_bringUpToDate 8 = .ok (.aload_n 0, 1) := by decide +kernel
theorem dX8_bringUpToDate_9 : decode cX8_bringUpToDate 9 = .ok (.invokevirtual 414, 3) := by decide +kernel
theorem dX8_bringUpToDate_12 : decode cX8_bringUpToDate 12 = .ok (.aload_n 0, 1) := by decide +kernel
theorem dX8_bringUpToDate_13 : decode cX8_bringUpToDate 13 = .ok (.invokevirtual 417, 3) := by decide +kernel
theorem dX8_bringUpToDate_16 : decode cX8_bringUpToDate 16 = .ok (.aload_n 0, 1) := by decide +kernel
theorem dX8_bringUpToDate_17 : decode cX8_bringUpToDate 17 = .ok (.getfield 38, 3) := by decide +kernel
theorem dX8_bringUpToDate_20 : decode cX8_bringUpToDate 20 = .ok (.aload_n 0, 1) := by decide +kernel
theorem dX8_bringUpToDate_21 : decode cX8_bringUpToDate 21 = .ok (.getfield 38, 3) := by decide +kernel
theorem dX8_bringUpToDate_24 : decode cX8_bringUpToDate 24 = .ok (.invokevirtual 420, 3) := by decide +kernel
theorem dX8_bringUpToDate_27 : decode cX8_bringUpToDate 27 = .ok (.aload_n 0, 1) := by decide +kernel
theorem dX8_bringUpToDate_28 : decode cX8_bringUpToDate 28 = .ok (.getfield 31, 3) := by decide +kernel
theorem dX8_bringUpToDate_31 : decode cX8_bringUpToDate 31 = .ok (.invokevirtual 257, 3) := by decide +kernel
theorem dX8_bringUpToDate_34 : decode cX8_bringUpToDate 34 = .ok (.aload_n 0, 1) := by decide +kernel
theorem dX8_bringUpToDate_35 : decode cX8_bringUpToDate 35 = .ok (.getfield 45, 3) := by decide +kernel
theorem dX8_bringUpToDate_38 : decode cX8_bringUpToDate 38 = .ok (.aload_n 0, 1) := by decide +kernel
theorem dX8_bringUpToDate_39 : decode cX8_bringUpToDate 39 = .ok (.getfield 38, 3) := by decide +kernel
theorem dX8_bringUpToDate_42 : decode cX8_bringUpToDate 42 = .ok (.aload_n 0, 1) := by decide +kernel
theorem dX8_bringUpToDate_43 : decode cX8_bringUpToDate 43 = .ok (.getfield 21, 3) := by decide +kernel
theorem dX8_bringUpToDate_46 : decode cX8_bringUpToDate 46 = .ok (.aload_n 0, 1) := by decide +kernel
theorem dX8_bringUpToDate_47 : decode cX8_bringUpToDate 47 = .ok (.getfield 89, 3) := by decide +kernel
theorem dX8_bringUpToDate_50 : decode cX8_bringUpToDate 50 = .ok (.invokevirtual 261, 3) := by decide +kernel
theorem dX8_bringUpToDate_53 : decode cX8_bringUpToDate 53 = .ok (.aload_n 0, 1) := by decide +kernel
theorem dX8_bringUpToDate_54 : decode cX8_bringUpToDate 54 = .ok (.iconst 0, 1) := by decide +kernel
theorem dX8_bringUpToDate_55 : decode cX8_bringUpToDate 55 = .ok (.putfield 95, 3) := by decide +kernel
theorem dX8_bringUpToDate_58 : decode cX8_bringUpToDate 58 = .ok (.return_, 1) := by decide +kernel
theorem dX8_parseDamps_0 : decode cX8_parseDamps 0 = .ok (.aload_n 0, 1) := by decide +kernel
theorem dX8_parseDamps_1 : decode cX8_parseDamps 1 = .ok (.aload_n 0, 1) := by decide +kernel
theorem dX8_parseDamps_2 : decode cX8_parseDamps 2 = .ok (.invokevirtual 114, 3) := by decide +kernel
theorem dX8_parseDamps_5 : decode cX8_parseDamps 5 = .ok (.iconst (-1), 1) := by decide +kernel
theorem dX8_parseDamps_6 : decode cX8_parseDamps 6 = .ok (.if_icmp .ne 18, 3) := by decide +kernel
theorem dX8_parseDamps_9 : decode cX8_parseDamps 9 = .ok (.aload_n 0, 1) := by decide +kernel
theorem dX8_parseDamps_10 : decode cX8_parseDamps 10 = .ok (.getfield 14, 3) := by decide +kernel
theorem dX8_parseDamps_13 : decode cX8_parseDamps 13 = .ok (.getfield 111, 3) := by decide +kernel
theorem dX8_parseDamps_16 : decode cX8_parseDamps 16 = .ok (.bipush 20, 2) := by decide +kernel
theorem dX8_parseDamps_18 : decode cX8_parseDamps 18 = .ok (.invokestatic 331, 3) := by decide +kernel
theorem dX8_parseDamps_21 : decode cX8_parseDamps 21 = .ok (.goto 4, 3) := by decide +kernel
theorem dX8_parseDamps_24 : decode cX8_parseDamps 24 = .ok (.iconst 0, 1) := by decide +kernel
theorem dX8_parseDamps_25 : decode cX8_parseDamps 25 = .ok (.putfield 85, 3) := by decide +kernel
theorem dX8_parseDamps_28 : decode cX8_parseDamps 28 = .ok (.iconst 0, 1) := by decide +kernel
theorem dX8_parseDamps_29 : decode cX8_parseDamps 29 = .ok (.istore_n 1, 1) := by decide +kernel
theorem dX8_parseDamps_30 : decode cX8_parseDamps 30 = .ok (.iload_n 1, 1) := by decide +kernel
theorem dX8_parseDamps_31 : decode cX8_parseDamps 31 = .ok (.bipush 20, 2) := by decide +kernel
theorem dX8_parseDamps_33 : decode cX8_parseDamps 33 = .ok (.if_icmp .ge 38, 3) := by decide +kernel
theorem dX8_parseDamps_36 : decode cX8_parseDamps 36 = .ok (.aload_n 0, 1) := by decide +kernel
theorem dX8_parseDamps_37 : decode cX8_parseDamps 37 = .ok (.getfield 21, 3) := by decide +kernel
theorem dX8_parseDamps_40 : decode cX8_parseDamps 40 = .ok (.iload_n 1, 1) := by decide +kernel
theorem dX8_parseDamps_41 : decode cX8_parseDamps 41 = .ok (.iload_n 1, 1) := by decide +kernel
theorem dX8_parseDamps_42 : decode cX8_parseDamps 42 = .ok (.aload_n 0, 1) := by decide +kernel
theorem dX8_parseDamps_43 : decode cX8_parseDamps 43 = .ok (.getfield 85, 3) := by decide +kernel
theorem dX8_parseDamps_46 : decode cX8_parseDamps 46 = .ok (.if_icmp .ge 17, 3) := by decide +kernel
theorem dX8_parseDamps_49 : decode cX8_parseDamps 49 = .ok (.aload_n 0, 1) := by decide +kernel
theorem dX8_parseDamps_50 : decode cX8_parseDamps 50 = .ok (.getfield 14, 3) := by decide +kernel
theorem dX8_parseDamps_53 : decode cX8_parseDamps 53 = .ok (.iload_n 1, 1) := by decide +kernel
theorem dX8_parseDamps_54 : decode cX8_parseDamps 54 = .ok (.invokevirtual 405, 3) := by decide +kernel
theorem dX8_parseDamps_57 : decode cX8_parseDamps 57 = .ok (.bipush 48, 2) := by decide +kernel
theorem dX8_parseDamps_59 : decode cX8_parseDamps 59 = .ok (.isub, 1) := by decide +kernel
theorem dX8_parseDamps_60 : decode cX8_parseDamps 60 = .ok (.goto 4, 3) := by decide +kernel
theorem dX8_parseDamps_63 : decode cX8_parseDamps 63 = .ok (.iconst 0, 1) := by decide +kernel
theorem dX8_parseDamps_64 : decode cX8_parseDamps 64 = .ok (.iastore, 1) := by decide +kernel
theorem dX8_parseDamps_65 : decode cX8_parseDamps 65 = .ok (.iinc 1 1, 3) := by decide +kernel
theorem dX8_parseDamps_68 : decode cX8_parseDamps 68 = .ok (.goto (-38), 3) := by decide +kernel
theorem dX8_parseDamps_71 : decode cX8_parseDamps 71 = .ok (.return_, 1) := by decide +kernel
theorem dX8_parseStrokes_0 : decode cX8_parseStrokes 0 = .ok (.aload_n 0, 1) := by decide +kernel
theorem dX8_parseStrokes_1 : decode cX8_parseStrokes 1 = .ok (.getfield 38, 3) := by decide +kernel
theorem dX8_parseStrokes_4 : decode cX8_parseStrokes 4 = .ok (.iconst 0, 1) := by decide +kernel
theorem dX8_parseStrokes_5 : decode cX8_parseStrokes 5 = .ok (.putfield 221, 3) := by decide +kernel
theorem dX8_parseStrokes_8 : decode cX8_parseStrokes 8 = .ok (.aload_n 0, 1) := by decide +kernel
theorem dX8_parseStrokes_9 : decode cX8_parseStrokes 9 = .ok (.invokevirtual 118, 3) := by decide +kernel
theorem dX8_parseStrokes_12 : decode cX8_parseStrokes 12 = .ok (.iconst (-1), 1) := by decide +kernel
theorem dX8_parseStrokes_13 : decode cX8_parseStrokes 13 = .ok (.if_icmp .eq 4, 3) := by decide +kernel
theorem dX8_parseStrokes_16 : decode cX8_parseStrokes 16 = .ok (.return_, 1) := by decide +kernel
theorem dX8_parseStrokes_17 : decode cX8_parseStrokes 17 = .ok (.iconst 0, 1) := by decide +kernel
theorem dX8_parseStrokes_18 : decode cX8_parseStrokes 18 = .ok (.istore_n 1, 1) := by decide +kernel
theorem dX8_parseStrokes_19 : decode cX8_parseStrokes 19 = .ok (.iload_n 1, 1) := by decide +kernel
theorem dX8_parseStrokes_20 : decode cX8_parseStrokes 20 = .ok (.aload_n 0, 1) := by decide +kernel
theorem dX8_parseStrokes_21 : decode cX8_parseStrokes 21 = .ok (.getfield 18, 3) := by decide +kernel
theorem dX8_parseStrokes_24 : decode cX8_parseStrokes 24 = .ok (.getfield 111, 3) := by decide +kernel
theorem dX8_parseStrokes_27 : decode cX8_parseStrokes 27 = .ok (.if_icmp .ge 162, 3) := by decide +kernel
theorem dX8_parseStrokes_30 : decode cX8_parseStrokes 30 = .ok (.aload_n 0, 1) := by decide +kernel
theorem dX8_parseStrokes_31 : decode cX8_parseStrokes 31 = .ok (.getfield 38, 3) := by decide +kernel
theorem dX8_parseStrokes_34 : decode cX8_parseStrokes 34 = .ok (.getfield 221, 3) := by decide +kernel
theorem dX8_parseStrokes_37 : decode cX8_parseStrokes 37 = .ok (.bipush 8, 2) := by decide +kernel
theorem dX8_parseStrokes_39 : decode cX8_parseStrokes 39 = .ok (.if_icmp .ge 150, 3) := by decide +kernel
theorem dX8_parseStrokes_42 : decode cX8_parseStrokes 42 = .ok (.aload_n 0, 1) := by decide +kernel
theorem dX8_parseStrokes_43 : decode cX8_parseStrokes 43 = .ok (.getfield 38, 3) := by decide +kernel
theorem dX8_parseStrokes_46 : decode cX8_parseStrokes 46 = .ok (.getfield 221, 3) := by decide +kernel
theorem dX8_parseStrokes_49 : decode cX8_parseStrokes 49 = .ok (.istore_n 2, 1) := by decide +kernel
theorem dX8_parseStrokes_50 : decode cX8_parseStrokes 50 = .ok (.aload_n 0, 1) := by decide +kernel
theorem dX8_parseStrokes_51 : decode cX8_parseStrokes 51 = .ok (.getfield 38, 3) := by decide +kernel
theorem dX8_parseStrokes_54 : decode cX8_parseStrokes 54 = .ok (.getfield 130, 3) := by decide +kernel
theorem dX8_parseStrokes_57 : decode cX8_parseStrokes 57 = .ok (.iload_n 2, 1) := by decide +kernel
theorem dX8_parseStrokes_58 : decode cX8_parseStrokes 58 = .ok (.bipush 10, 2) := by decide +kernel
theorem dX8_parseStrokes_60 : decode cX8_parseStrokes 60 = .ok (.aload_n 0, 1) := by decide +kernel
theorem dX8_parseStrokes_61 : decode cX8_parseStrokes 61 = .ok (.getfield 18, 3) := by decide +kernel
theorem dX8_parseStrokes_64 : decode cX8_parseStrokes 64 = .ok (.iload_n 1, 1) := by decide +kernel
theorem dX8_parseStrokes_65 : decode cX8_parseStrokes 65 = .ok (.invokevirtual 405, 3) := by decide +kernel
theorem dX8_parseStrokes_68 : decode cX8_parseStrokes 68 = .ok (.bipush 48, 2) := by decide +kernel
theorem dX8_parseStrokes_70 : decode cX8_parseStrokes 70 = .ok (.isub, 1) := by decide +kernel
theorem dX8_parseStrokes_71 : decode cX8_parseStrokes 71 = .ok (.imul, 1) := by decide +kernel
theorem dX8_parseStrokes_72 : decode cX8_parseStrokes 72 = .ok (.aload_n 0, 1) := by decide +kernel
theorem dX8_parseStrokes_73 : decode cX8_parseStrokes 73 = .ok (.getfield 18, 3) := by decide +kernel
theorem dX8_parseStrokes_76 : decode cX8_parseStrokes 76 = .ok (.iload_n 1, 1) := by decide +kernel
theorem dX8_parseStrokes_77 : decode cX8_parseStrokes 77 = .ok (.iconst 1, 1) := by decide +kernel
theorem dX8_parseStrokes_78 : decode cX8_parseStrokes 78 = .ok (.iadd, 1) := by decide +kernel
theorem dX8_parseStrokes_79 : decode cX8_parseStrokes 79 = .ok (.invokevirtual 405, 3) := by decide +kernel
theorem dX8_parseStrokes_82 : decode cX8_parseStrokes 82 = .ok (.iadd, 1) := by decide +kernel
theorem dX8_parseStrokes_83 : decode cX8_parseStrokes 83 = .ok (.bipush 48, 2) := by decide +kernel
theorem dX8_parseStrokes_85 : decode cX8_parseStrokes 85 = .ok (.isub, 1) := by decide +kernel
theorem dX8_parseStrokes_86 : decode cX8_parseStrokes 86 = .ok (.iastore, 1) := by decide +kernel
theorem dX8_parseStrokes_87 : decode cX8_parseStrokes 87 = .ok (.aload_n 0, 1) := by decide +kernel
theorem dX8_parseStrokes_88 : decode cX8_parseStrokes 88 = .ok (.getfield 38, 3) := by decide +kernel
theorem dX8_parseStrokes_91 : decode cX8_parseStrokes 91 = .ok (.getfield 133, 3) := by decide +kernel
theorem dX8_parseStrokes_94 : decode cX8_parseStrokes 94 = .ok (.iload_n 2, 1) := by decide +kernel
theorem dX8_parseStrokes_95 : decode cX8_parseStrokes 95 = .ok (.bipush 6, 2) := by decide +kernel
theorem dX8_parseStrokes_97 : decode cX8_parseStrokes 97 = .ok (.aload_n 0, 1) := by decide +kernel
theorem dX8_parseStrokes_98 : decode cX8_parseStrokes 98 = .ok (.getfield 18, 3) := by decide +kernel
theorem dX8_parseStrokes_101 : decode cX8_parseStrokes 101 = .ok (.iload_n 1, 1) := by decide +kernel
theorem dX8_parseStrokes_102 : decode cX8_parseStrokes 102 = .ok (.iconst 2, 1) := by decide +kernel
theorem dX8_parseStrokes_103 : decode cX8_parseStrokes 103 = .ok (.iadd, 1) := by decide +kernel
theorem dX8_parseStrokes_104 : decode cX8_parseStrokes 104 = .ok (.invokevirtual 405, 3) := by decide +kernel
theorem dX8_parseStrokes_107 : decode cX8_parseStrokes 107 = .ok (.bipush 48, 2) := by decide +kernel
theorem dX8_parseStrokes_109 : decode cX8_parseStrokes 109 = .ok (.isub, 1) := by decide +kernel
theorem dX8_parseStrokes_110 : decode cX8_parseStrokes 110 = .ok (.imul, 1) := by decide +kernel
theorem dX8_parseStrokes_111 : decode cX8_parseStrokes 111 = .ok (.aload_n 0, 1) := by decide +kernel
theorem dX8_parseStrokes_112 : decode cX8_parseStrokes 112 = .ok (.getfield 18, 3) := by decide +kernel
theorem dX8_parseStrokes_115 : decode cX8_parseStrokes 115 = .ok (.iload_n 1, 1) := by decide +kernel
theorem dX8_parseStrokes_116 : decode cX8_parseStrokes 116 = .ok (.iconst 3, 1) := by decide +kernel
theorem dX8_parseStrokes_117 : decode cX8_parseStrokes 117 = .ok (.iadd, 1) := by decide +kernel
theorem dX8_parseStrokes_118 : decode cX8_parseStrokes 118 = .ok (.invokevirtual 405, 3) := by decide +kernel
theorem dX8_parseStrokes_121 : decode cX8_parseStrokes 121 = .ok (.iadd, 1) := by decide +kernel
theorem dX8_parseStrokes_122 : decode cX8_parseStrokes 122 = .ok (.bipush 48, 2) := by decide +kernel
theorem dX8_parseStrokes_124 : decode cX8_parseStrokes 124 = .ok (.isub, 1) := by decide +kernel
theorem dX8_parseStrokes_125 : decode cX8_parseStrokes 125 = .ok (.iastore, 1) := by decide +kernel
theorem dX8_parseStrokes_126 : decode cX8_parseStrokes 126 = .ok (.aload_n 0, 1) := by decide +kernel
theorem dX8_parseStrokes_127 : decode cX8_parseStrokes 127 = .ok (.getfield 38, 3) := by decide +kernel
theorem dX8_parseStrokes_130 : decode cX8_parseStrokes 130 = .ok (.getfield 136, 3) := by decide +kernel
theorem dX8_parseStrokes_133 : decode cX8_parseStrokes 133 = .ok (.iload_n 2, 1) := by decide +kernel
theorem dX8_parseStrokes_134 : decode cX8_parseStrokes 134 = .ok (.aload_n 0, 1) := by decide +kernel
theorem dX8_parseStrokes_135 : decode cX8_parseStrokes 135 = .ok (.getfield 18, 3) := by decide +kernel
theorem dX8_parseStrokes_138 : decode cX8_parseStrokes 138 = .ok (.iload_n 1, 1) := by decide +kernel
theorem dX8_parseStrokes_139 : decode cX8_parseStrokes 139 = .ok (.iconst 4, 1) := by decide +kernel
theorem dX8_parseStrokes_140 : decode cX8_parseStrokes 140 = .ok (.iadd, 1) := by decide +kernel
theorem dX8_parseStrokes_141 : decode cX8_parseStrokes 141 = .ok (.invokevirtual 405, 3) := by decide +kernel
theorem dX8_parseStrokes_144 : decode cX8_parseStrokes 144 = .ok (.bipush 97, 2) := by decide +kernel
theorem dX8_parseStrokes_146 : decode cX8_parseStrokes 146 = .ok (.isub, 1) := by decide +kernel
theorem dX8_parseStrokes_147 : decode cX8_parseStrokes 147 = .ok (.iastore, 1) := by decide +kernel
theorem dX8_parseStrokes_148 : decode cX8_parseStrokes 148 = .ok (.aload_n 0, 1) := by decide +kernel
theorem dX8_parseStrokes_149 : decode cX8_parseStrokes 149 = .ok (.getfield 38, 3) := by decide +kernel
theorem dX8_parseStrokes_152 : decode cX8_parseStrokes 152 = .ok (.getfield 139, 3) := by decide +kernel
theorem dX8_parseStrokes_155 : decode cX8_parseStrokes 155 = .ok (.iload_n 2, 1) := by decide +kernel
theorem dX8_parseStrokes_156 : decode cX8_parseStrokes 156 = .ok (.aload_n 0, 1) := by decide +kernel
theorem dX8_parseStrokes_157 : decode cX8_parseStrokes 157 = .ok (.getfield 18, 3) := by decide +kernel
theorem dX8_parseStrokes_160 : decode cX8_parseStrokes 160 = .ok (.iload_n 1, 1) := by decide +kernel
theorem dX8_parseStrokes_161 : decode cX8_parseStrokes 161 = .ok (.iconst 5, 1) := by decide +kernel
theorem dX8_parseStrokes_162 : decode cX8_parseStrokes 162 = .ok (.iadd, 1) := by decide +kernel
theorem dX8_parseStrokes_163 : decode cX8_parseStrokes 163 = .ok (.invokevirtual 405, 3) := by decide +kernel
theorem dX8_parseStrokes_166 : decode cX8_parseStrokes 166 = .ok (.bipush 48, 2) := by decide +kernel
theorem dX8_parseStrokes_168 : decode cX8_parseStrokes 168 = .ok (.isub, 1) := by decide +kernel
theorem dX8_parseStrokes_169 : decode cX8_parseStrokes 169 = .ok (.iastore, 1) := by decide +kernel
theorem dX8_parseStrokes_170 : decode cX8_parseStrokes 170 = .ok (.aload_n 0, 1) := by decide +kernel
theorem dX8_parseStrokes_171 : decode cX8_parseStrokes 171 = .ok (.getfield 38, 3) := by decide +kernel
theorem dX8_parseStrokes_174 : decode cX8_parseStrokes 174 = .ok (.dup, 1) := by decide +kernel
theorem dX8_parseStrokes_175 : decode cX8_parseStrokes 175 = .ok (.getfield 221, 3) := by decide +kernel
theorem dX8_parseStrokes_178 : decode cX8_parseStrokes 178 = .ok (.iconst 1, 1) := by decide +kernel
theorem dX8_parseStrokes_179 : decode cX8_parseStrokes 179 = .ok (.iadd, 1) := by decide +kernel
theorem dX8_parseStrokes_180 : decode cX8_parseStrokes 180 = .ok (.putfield 221, 3) := by decide +kernel
theorem dX8_parseStrokes_183 : decode cX8_parseStrokes 183 = .ok (.iinc 1 7, 3) := by decide +kernel
theorem dX8_parseStrokes_186 : decode cX8_parseStrokes 186 = .ok (.goto (-167), 3) := by decide +kernel
theorem dX8_parseStrokes_189 : decode cX8_parseStrokes 189 = .ok (.return_, 1) := by decide +kernel
theorem dX8_seekDay_0 : decode cX8_seekDay 0 = .ok (.aload_n 0, 1) := by decide +kernel
theorem dX8_seekDay_1 : decode cX8_seekDay 1 = .ok (.getfield 38, 3) := by decide +kernel
theorem dX8_seekDay_4 : decode cX8_seekDay 4 = .ok (.getfield 133, 3) := by decide +kernel
theorem dX8_seekDay_7 : decode cX8_seekDay 7 = .ok (.iload_n 1, 1) := by decide +kernel
theorem dX8_seekDay_8 : decode cX8_seekDay 8 = .ok (.iaload, 1) := by decide +kernel
theorem dX8_seekDay_9 : decode cX8_seekDay 9 = .ok (.istore_n 2, 1) := by decide +kernel
theorem dX8_seekDay_10 : decode cX8_seekDay 10 = .ok (.aload_n 0, 1) := by decide +kernel
theorem dX8_seekDay_11 : decode cX8_seekDay 11 = .ok (.getfield 38, 3) := by decide +kernel
theorem dX8_seekDay_14 : decode cX8_seekDay 14 = .ok (.iload_n 2, 1) := by decide +kernel
theorem dX8_seekDay_15 : decode cX8_seekDay 15 = .ok (.invokevirtual 254, 3) := by decide +kernel
theorem dX8_seekDay_18 : decode cX8_seekDay 18 = .ok (.istore_n 3, 1) := by decide +kernel
theorem dX8_seekDay_19 : decode cX8_seekDay 19 = .ok (.aload_n 0, 1) := by decide +kernel
theorem dX8_seekDay_20 : decode cX8_seekDay 20 = .ok (.getfield 45, 3) := by decide +kernel
theorem dX8_seekDay_23 : decode cX8_seekDay 23 = .ok (.iload_n 3, 1) := by decide +kernel
theorem dX8_seekDay_24 : decode cX8_seekDay 24 = .ok (.iconst (-1), 1) := by decide +kernel
theorem dX8_seekDay_25 : decode cX8_seekDay 25 = .ok (.ixor, 1) := by decide +kernel
theorem dX8_seekDay_26 : decode cX8_seekDay 26 = .ok (.invokevirtual 207, 3) := by decide +kernel
theorem dX8_seekDay_29 : decode cX8_seekDay 29 = .ok (.istore 4, 2) := by decide +kernel
theorem dX8_seekDay_31 : decode cX8_seekDay 31 = .ok (.aload_n 0, 1) := by decide +kernel
theorem dX8_seekDay_32 : decode cX8_seekDay 32 = .ok (.getfield 49, 3) := by decide +kernel
theorem dX8_seekDay_35 : decode cX8_seekDay 35 = .ok (.aload_n 0, 1) := by decide +kernel
theorem dX8_seekDay_36 : decode cX8_seekDay 36 = .ok (.getfield 38, 3) := by decide +kernel
theorem dX8_seekDay_39 : decode cX8_seekDay 39 = .ok (.invokevirtual 250, 3) := by decide +kernel
theorem dX8_seekDay_42 : decode cX8_seekDay 42 = .ok (.aload_n 0, 1) := by decide +kernel
theorem dX8_seekDay_43 : decode cX8_seekDay 43 = .ok (.getfield 65, 3) := by decide +kernel
theorem dX8_seekDay_46 : decode cX8_seekDay 46 = .ok (.invokevirtual 272, 3) := by decide +kernel
theorem dX8_seekDay_49 : decode cX8_seekDay 49 = .ok (.iconst 0, 1) := by decide +kernel
theorem dX8_seekDay_50 : decode cX8_seekDay 50 = .ok (.istore 5, 2) := by decide +kernel
theorem dX8_seekDay_52 : decode cX8_seekDay 52 = .ok (.iload 5, 2) := by decide +kernel
theorem dX8_seekDay_54 : decode cX8_seekDay 54 = .ok (.bipush 20, 2) := by decide +kernel
theorem dX8_seekDay_56 : decode cX8_seekDay 56 = .ok (.if_icmp .ge 37, 3) := by decide +kernel
theorem dX8_seekDay_59 : decode cX8_seekDay 59 = .ok (.aload_n 0, 1) := by decide +kernel
theorem dX8_seekDay_60 : decode cX8_seekDay 60 = .ok (.getfield 49, 3) := by decide +kernel
theorem dX8_seekDay_63 : decode cX8_seekDay 63 = .ok (.getfield 130, 3) := by decide +kernel
theorem dX8_seekDay_66 : decode cX8_seekDay 66 = .ok (.iload_n 1, 1) := by decide +kernel
theorem dX8_seekDay_67 : decode cX8_seekDay 67 = .ok (.iload 5, 2) := by decide +kernel
theorem dX8_seekDay_69 : decode cX8_seekDay 69 = .ok (.iastore, 1) := by decide +kernel
theorem dX8_seekDay_70 : decode cX8_seekDay 70 = .ok (.aload_n 0, 1) := by decide +kernel
theorem dX8_seekDay_71 : decode cX8_seekDay 71 = .ok (.getfield 65, 3) := by decide +kernel
theorem dX8_seekDay_74 : decode cX8_seekDay 74 = .ok (.iload 5, 2) := by decide +kernel
theorem dX8_seekDay_76 : decode cX8_seekDay 76 = .ok (.iload 4, 2) := by decide +kernel
theorem dX8_seekDay_78 : decode cX8_seekDay 78 = .ok (.aload_n 0, 1) := by decide +kernel
theorem dX8_seekDay_79 : decode cX8_seekDay 79 = .ok (.iload_n 3, 1) := by decide +kernel
theorem dX8_seekDay_80 : decode cX8_seekDay 80 = .ok (.invokevirtual 423, 3) := by decide +kernel
theorem dX8_seekDay_83 : decode cX8_seekDay 83 = .ok (.iadd, 1) := by decide +kernel
theorem dX8_seekDay_84 : decode cX8_seekDay 84 = .ok (.invokevirtual 278, 3) := by decide +kernel
theorem dX8_seekDay_87 : decode cX8_seekDay 87 = .ok (.iinc 5 1, 3) := by decide +kernel
theorem dX8_seekDay_90 : decode cX8_seekDay 90 = .ok (.goto (-38), 3) := by decide +kernel
theorem dX8_seekDay_93 : decode cX8_seekDay 93 = .ok (.return_, 1) := by decide +kernel
theorem dX8_seekCell_0 : decode cX8_seekCell 0 = .ok (.aload_n 0, 1) := by decide +kernel
theorem dX8_seekCell_1 : decode cX8_seekCell 1 = .ok (.getfield 38, 3) := by decide +kernel
theorem dX8_seekCell_4 : decode cX8_seekCell 4 = .ok (.getfield 133, 3) := by decide +kernel
theorem dX8_seekCell_7 : decode cX8_seekCell 7 = .ok (.iload_n 1, 1) := by decide +kernel
theorem dX8_seekCell_8 : decode cX8_seekCell 8 = .ok (.iaload, 1) := by decide +kernel
theorem dX8_seekCell_9 : decode cX8_seekCell 9 = .ok (.istore_n 2, 1) := by decide +kernel
theorem dX8_seekCell_10 : decode cX8_seekCell 10 = .ok (.aload_n 0, 1) := by decide +kernel
theorem dX8_seekCell_11 : decode cX8_seekCell 11 = .ok (.getfield 38, 3) := by decide +kernel
theorem dX8_seekCell_14 : decode cX8_seekCell 14 = .ok (.iload_n 2, 1) := by decide +kernel
theorem dX8_seekCell_15 : decode cX8_seekCell 15 = .ok (.invokevirtual 254, 3) := by decide +kernel
theorem dX8_seekCell_18 : decode cX8_seekCell 18 = .ok (.istore_n 3, 1) := by decide +kernel
theorem dX8_seekCell_19 : decode cX8_seekCell 19 = .ok (.aload_n 0, 1) := by decide +kernel
theorem dX8_seekCell_20 : decode cX8_seekCell 20 = .ok (.getfield 49, 3) := by decide +kernel
theorem dX8_seekCell_23 : decode cX8_seekCell 23 = .ok (.aload_n 0, 1) := by decide +kernel
theorem dX8_seekCell_24 : decode cX8_seekCell 24 = .ok (.getfield 38, 3) := by decide +kernel
theorem dX8_seekCell_27 : decode cX8_seekCell 27 = .ok (.invokevirtual 250, 3) := by decide +kernel
theorem dX8_seekCell_30 : decode cX8_seekCell 30 = .ok (.aload_n 0, 1) := by decide +kernel
theorem dX8_seekCell_31 : decode cX8_seekCell 31 = .ok (.iload_n 3, 1) := by decide +kernel
theorem dX8_seekCell_32 : decode cX8_seekCell 32 = .ok (.iload_n 1, 1) := by decide +kernel
theorem dX8_seekCell_33 : decode cX8_seekCell 33 = .ok (.invokestatic 204, 3) := by decide +kernel
theorem dX8_seekCell_36 : decode cX8_seekCell 36 = .ok (.iconst (-1), 1) := by decide +kernel
theorem dX8_seekCell_37 : decode cX8_seekCell 37 = .ok (.ixor, 1) := by decide +kernel
theorem dX8_seekCell_38 : decode cX8_seekCell 38 = .ok (.iand, 1) := by decide +kernel
theorem dX8_seekCell_39 : decode cX8_seekCell 39 = .ok (.invokevirtual 423, 3) := by decide +kernel
theorem dX8_seekCell_42 : decode cX8_seekCell 42 = .ok (.istore 4, 2) := by decide +kernel
theorem dX8_seekCell_44 : decode cX8_seekCell 44 = .ok (.iconst (-1), 1) := by decide +kernel
theorem dX8_seekCell_45 : decode cX8_seekCell 45 = .ok (.istore 5, 2) := by decide +kernel
theorem dX8_seekCell_47 : decode cX8_seekCell 47 = .ok (.aload_n 0, 1) := by decide +kernel
theorem dX8_seekCell_48 : decode cX8_seekCell 48 = .ok (.getfield 65, 3) := by decide +kernel
theorem dX8_seekCell_51 : decode cX8_seekCell 51 = .ok (.invokevirtual 272, 3) := by decide +kernel
theorem dX8_seekCell_54 : decode cX8_seekCell 54 = .ok (.iconst 0, 1) := by decide +kernel
theorem dX8_seekCell_55 : decode cX8_seekCell 55 = .ok (.istore 6, 2) := by decide +kernel
theorem dX8_seekCell_57 : decode cX8_seekCell 57 = .ok (.iload 6, 2) := by decide +kernel
theorem dX8_seekCell_59 : decode cX8_seekCell 59 = .ok (.bipush 36, 2) := by decide +kernel
theorem dX8_seekCell_61 : decode cX8_seekCell 61 = .ok (.if_icmp .ge 136, 3) := by decide +kernel
theorem dX8_seekCell_64 : decode cX8_seekCell 64 = .ok (.aload_n 0, 1) := by decide +kernel
theorem dX8_seekCell_65 : decode cX8_seekCell 65 = .ok (.getfield 38, 3) := by decide +kernel
theorem dX8_seekCell_68 : decode cX8_seekCell 68 = .ok (.iload 6, 2) := by decide +kernel
theorem dX8_seekCell_70 : decode cX8_seekCell 70 = .ok (.invokevirtual 254, 3) := by decide +kernel
theorem dX8_seekCell_73 : decode cX8_seekCell 73 = .ok (.istore 7, 2) := by decide +kernel
theorem dX8_seekCell_75 : decode cX8_seekCell 75 = .ok (.iload 7, 2) := by decide +kernel
theorem dX8_seekCell_77 : decode cX8_seekCell 77 = .ok (.iload_n 1, 1) := by decide +kernel
theorem dX8_seekCell_78 : decode cX8_seekCell 78 = .ok (.invokestatic 204, 3) := by decide +kernel
theorem dX8_seekCell_81 : decode cX8_seekCell 81 = .ok (.iconst (-1), 1) := by decide +kernel
theorem dX8_seekCell_82 : decode cX8_seekCell 82 = .ok (.ixor, 1) := by decide +kernel
theorem dX8_seekCell_83 : decode cX8_seekCell 83 = .ok (.iand, 1) := by decide +kernel
theorem dX8_seekCell_84 : decode cX8_seekCell 84 = .ok (.ifCond .ne 7, 3) := by decide +kernel
theorem dX8_seekCell_87 : decode cX8_seekCell 87 = .ok (.iconst 1, 1) := by decide +kernel
theorem dX8_seekCell_88 : decode cX8_seekCell 88 = .ok (.goto 4, 3) := by decide +kernel
theorem dX8_seekCell_91 : decode cX8_seekCell 91 = .ok (.iconst 0, 1) := by decide +kernel
theorem dX8_seekCell_92 : decode cX8_seekCell 92 = .ok (.istore 8, 2) := by decide +kernel
theorem dX8_seekCell_94 : decode cX8_seekCell 94 = .ok (.iload 8, 2) := by decide +kernel
theorem dX8_seekCell_96 : decode cX8_seekCell 96 = .ok (.ifCond .eq 16, 3) := by decide +kernel
theorem dX8_seekCell_99 : decode cX8_seekCell 99 = .ok (.iload 5, 2) := by decide +kernel
theorem dX8_seekCell_101 : decode cX8_seekCell 101 = .ok (.iload 6, 2) := by decide +kernel
theorem dX8_seekCell_103 : decode cX8_seekCell 103 = .ok (.bipush 6, 2) := by decide +kernel
theorem dX8_seekCell_105 : decode cX8_seekCell 105 = .ok (.idiv, 1) := by decide +kernel
theorem dX8_seekCell_106 : decode cX8_seekCell 106 = .ok (.if_icmp .ne 6, 3) := by decide +kernel
theorem dX8_seekCell_109 : decode cX8_seekCell 109 = .ok (.goto 82, 3) := by decide +kernel
theorem dX8_seekCell_112 : decode cX8_seekCell 112 = .ok (.iload 8, 2) := by decide +kernel
theorem dX8_seekCell_114 : decode cX8_seekCell 114 = .ok (.ifCond .eq 11, 3) := by decide +kernel
theorem dX8_seekCell_117 : decode cX8_seekCell 117 = .ok (.iload 6, 2) := by decide +kernel
theorem dX8_seekCell_119 : decode cX8_seekCell 119 = .ok (.bipush 6, 2) := by decide +kernel
theorem dX8_seekCell_121 : decode cX8_seekCell 121 = .ok (.idiv, 1) := by decide +kernel
theorem dX8_seekCell_122 : decode cX8_seekCell 122 = .ok (.goto 5, 3) := by decide +kernel
theorem dX8_seekCell_125 : decode cX8_seekCell 125 = .ok (.iload 5, 2) := by decide +kernel
theorem dX8_seekCell_127 : decode cX8_seekCell 127 = .ok (.istore 5, 2) := by decide +kernel
theorem dX8_seekCell_129 : decode cX8_seekCell 129 = .ok (.aload_n 0, 1) := by decide +kernel
theorem dX8_seekCell_130 : decode cX8_seekCell 130 = .ok (.getfield 49, 3) := by decide +kernel
theorem dX8_seekCell_133 : decode cX8_seekCell 133 = .ok (.getfield 133, 3) := by decide +kernel
theorem dX8_seekCell_136 : decode cX8_seekCell 136 = .ok (.iload_n 1, 1) := by decide +kernel
theorem dX8_seekCell_137 : decode cX8_seekCell 137 = .ok (.iload 6, 2) := by decide +kernel
theorem dX8_seekCell_139 : decode cX8_seekCell 139 = .ok (.iastore, 1) := by decide +kernel
theorem dX8_seekCell_140 : decode cX8_seekCell 140 = .ok (.aload_n 0, 1) := by decide +kernel
theorem dX8_seekCell_141 : decode cX8_seekCell 141 = .ok (.getfield 45, 3) := by decide +kernel
theorem dX8_seekCell_144 : decode cX8_seekCell 144 = .ok (.iload_n 3, 1) := by decide +kernel
theorem dX8_seekCell_145 : decode cX8_seekCell 145 = .ok (.iload 7, 2) := by decide +kernel
theorem dX8_seekCell_147 : decode cX8_seekCell 147 = .ok (.ior, 1) := by decide +kernel
theorem dX8_seekCell_148 : decode cX8_seekCell 148 = .ok (.iconst (-1), 1) := by decide +kernel
theorem dX8_seekCell_149 : decode cX8_seekCell 149 = .ok (.ixor, 1) := by decide +kernel
theorem dX8_seekCell_150 : decode cX8_seekCell 150 = .ok (.invokevirtual 207, 3) := by decide +kernel
theorem dX8_seekCell_153 : decode cX8_seekCell 153 = .ok (.iload 6, 2) := by decide +kernel
theorem dX8_seekCell_155 : decode cX8_seekCell 155 = .ok (.iload_n 2, 1) := by decide +kernel
theorem dX8_seekCell_156 : decode cX8_seekCell 156 = .ok (.if_icmp .ne 7, 3) := by decide +kernel
theorem dX8_seekCell_159 : decode cX8_seekCell 159 = .ok (.iconst 0, 1) := by decide +kernel
theorem dX8_seekCell_160 : decode cX8_seekCell 160 = .ok (.goto 5, 3) := by decide +kernel
theorem dX8_seekCell_163 : decode cX8_seekCell 163 = .ok (.iload 4, 2) := by decide +kernel
theorem dX8_seekCell_165 : decode cX8_seekCell 165 = .ok (.iadd, 1) := by decide +kernel
theorem dX8_seekCell_166 : decode cX8_seekCell 166 = .ok (.istore 9, 2) := by decide +kernel
theorem dX8_seekCell_168 : decode cX8_seekCell 168 = .ok (.aload_n 0, 1) := by decide +kernel
theorem dX8_seekCell_169 : decode cX8_seekCell 169 = .ok (.getfield 65, 3) := by decide +kernel
theorem dX8_seekCell_172 : decode cX8_seekCell 172 = .ok (.iload 6, 2) := by decide +kernel
theorem dX8_seekCell_174 : decode cX8_seekCell 174 = .ok (.iload 9, 2) := by decide +kernel
theorem dX8_seekCell_176 : decode cX8_seekCell 176 = .ok (.aload_n 0, 1) := by decide +kernel
theorem dX8_seekCell_177 : decode cX8_seekCell 177 = .ok (.iload 7, 2) := by decide +kernel
theorem dX8_seekCell_179 : decode cX8_seekCell 179 = .ok (.iload_n 1, 1) := by decide +kernel
theorem dX8_seekCell_180 : decode cX8_seekCell 180 = .ok (.invokestatic 204, 3) := by decide +kernel
theorem dX8_seekCell_183 : decode cX8_seekCell 183 = .ok (.ior, 1) := by decide +kernel
theorem dX8_seekCell_184 : decode cX8_seekCell 184 = .ok (.invokevirtual 423, 3) := by decide +kernel
theorem dX8_seekCell_187 : decode cX8_seekCell 187 = .ok (.iadd, 1) := by decide +kernel
theorem dX8_seekCell_188 : decode cX8_seekCell 188 = .ok (.invokevirtual 278, 3) := by decide +kernel
theorem dX8_seekCell_191 : decode cX8_seekCell 191 = .ok (.iinc 6 1, 3) := by decide +kernel
theorem dX8_seekCell_194 : decode cX8_seekCell 194 = .ok (.goto (-137), 3) := by decide +kernel
theorem dX8_seekCell_197 : decode cX8_seekCell 197 = .ok (.return_, 1) := by decide +kernel
theorem dX8_seekDryDay_0 : decode cX8_seekDryDay 0 = .ok (.aload_n 0, 1) := by decide +kernel
theorem dX8_seekDryDay_1 : decode cX8_seekDryDay 1 = .ok (.getfield 21, 3) := by decide +kernel
theorem dX8_seekDryDay_4 : decode cX8_seekDryDay 4 = .ok (.iconst 0, 1) := by decide +kernel
theorem dX8_seekDryDay_5 : decode cX8_seekDryDay 5 = .ok (.aload_n 0, 1) := by decide +kernel
theorem dX8_seekDryDay_6 : decode cX8_seekDryDay 6 = .ok (.getfield 25, 3) := by decide +kernel
theorem dX8_seekDryDay_9 : decode cX8_seekDryDay 9 = .ok (.iconst 0, 1) := by decide +kernel
theorem dX8_seekDryDay_10 : decode cX8_seekDryDay 10 = .ok (.bipush 20, 2) := by decide +kernel
theorem dX8_seekDryDay_12 : decode cX8_seekDryDay 12 = .ok (.invokestatic 325, 3) := by decide +kernel
theorem dX8_seekDryDay_15 : decode cX8_seekDryDay 15 = .ok (.aload_n 0, 1) := by decide +kernel
theorem dX8_seekDryDay_16 : decode cX8_seekDryDay 16 = .ok (.getfield 65, 3) := by decide +kernel
theorem dX8_seekDryDay_19 : decode cX8_seekDryDay 19 = .ok (.invokevirtual 272, 3) := by decide +kernel
theorem dX8_seekDryDay_22 : decode cX8_seekDryDay 22 = .ok (.iconst 0, 1) := by decide +kernel
theorem dX8_seekDryDay_23 : decode cX8_seekDryDay 23 = .ok (.istore_n 1, 1) := by decide +kernel
theorem dX8_seekDryDay_24 : decode cX8_seekDryDay 24 = .ok (.iload_n 1, 1) := by decide +kernel
theorem dX8_seekDryDay_25 : decode cX8_seekDryDay 25 = .ok (.bipush 20, 2) := by decide +kernel
theorem dX8_seekDryDay_27 : decode cX8_seekDryDay 27 = .ok (.if_icmp .ge 62, 3) := by decide +kernel
theorem dX8_seekDryDay_30 : decode cX8_seekDryDay 30 = .ok (.aload_n 0, 1) := by decide +kernel
theorem dX8_seekDryDay_31 : decode cX8_seekDryDay 31 = .ok (.getfield 25, 3) := by decide +kernel
theorem dX8_seekDryDay_34 : decode cX8_seekDryDay 34 = .ok (.iload_n 1, 1) := by decide +kernel
theorem dX8_seekDryDay_35 : decode cX8_seekDryDay 35 = .ok (.iconst 0, 1) := by decide +kernel
theorem dX8_seekDryDay_36 : decode cX8_seekDryDay 36 = .ok (.iastore, 1) := by decide +kernel
theorem dX8_seekDryDay_37 : decode cX8_seekDryDay 37 = .ok (.aload_n 0, 1) := by decide +kernel
theorem dX8_seekDryDay_38 : decode cX8_seekDryDay 38 = .ok (.getfield 52, 3) := by decide +kernel
theorem dX8_seekDryDay_41 : decode cX8_seekDryDay 41 = .ok (.aload_n 0, 1) := by decide +kernel
theorem dX8_seekDryDay_42 : decode cX8_seekDryDay 42 = .ok (.getfield 38, 3) := by decide +kernel
theorem dX8_seekDryDay_45 : decode cX8_seekDryDay 45 = .ok (.aload_n 0, 1) := by decide +kernel
theorem dX8_seekDryDay_46 : decode cX8_seekDryDay 46 = .ok (.getfield 25, 3) := by decide +kernel
theorem dX8_seekDryDay_49 : decode cX8_seekDryDay 49 = .ok (.aload_n 0, 1) := by decide +kernel
theorem dX8_seekDryDay_50 : decode cX8_seekDryDay 50 = .ok (.getfield 89, 3) := by decide +kernel
theorem dX8_seekDryDay_53 : decode cX8_seekDryDay 53 = .ok (.invokevirtual 261, 3) := by decide +kernel
theorem dX8_seekDryDay_56 : decode cX8_seekDryDay 56 = .ok (.aload_n 0, 1) := by decide +kernel
theorem dX8_seekDryDay_57 : decode cX8_seekDryDay 57 = .ok (.getfield 65, 3) := by decide +kernel
theorem dX8_seekDryDay_60 : decode cX8_seekDryDay 60 = .ok (.iload_n 1, 1) := by decide +kernel
theorem dX8_seekDryDay_61 : decode cX8_seekDryDay 61 = .ok (.aload_n 0, 1) := by decide +kernel
theorem dX8_seekDryDay_62 : decode cX8_seekDryDay 62 = .ok (.getfield 52, 3) := by decide +kernel
theorem dX8_seekDryDay_65 : decode cX8_seekDryDay 65 = .ok (.invokevirtual 300, 3) := by decide +kernel
theorem dX8_seekDryDay_68 : decode cX8_seekDryDay 68 = .ok (.invokevirtual 278, 3) := by decide +kernel
theorem dX8_seekDryDay_71 : decode cX8_seekDryDay 71 = .ok (.aload_n 0, 1) := by decide +kernel
theorem dX8_seekDryDay_72 : decode cX8_seekDryDay 72 = .ok (.getfield 25, 3) := by decide +kernel
theorem dX8_seekDryDay_75 : decode cX8_seekDryDay 75 = .ok (.iload_n 1, 1) := by decide +kernel
theorem dX8_seekDryDay_76 : decode cX8_seekDryDay 76 = .ok (.aload_n 0, 1) := by decide +kernel
theorem dX8_seekDryDay_77 : decode cX8_seekDryDay 77 = .ok (.getfield 21, 3) := by decide +kernel
theorem dX8_seekDryDay_80 : decode cX8_seekDryDay 80 = .ok (.iload_n 1, 1) := by decide +kernel
theorem dX8_seekDryDay_81 : decode cX8_seekDryDay 81 = .ok (.iaload, 1) := by decide +kernel
theorem dX8_seekDryDay_82 : decode cX8_seekDryDay 82 = .ok (.iastore, 1) := by decide +kernel
theorem dX8_seekDryDay_83 : decode cX8_seekDryDay 83 = .ok (.iinc 1 1, 3) := by decide +kernel
theorem dX8_seekDryDay_86 : decode cX8_seekDryDay 86 = .ok (.goto (-62), 3) := by decide +kernel
theorem dX8_seekDryDay_89 : decode cX8_seekDryDay 89 = .ok (.return_, 1) := by decide +kernel
theorem dX8_upsInTrial_0 : decode cX8_upsInTrial 0 = .ok (.aload_n 0, 1) := by decide +kernel
theorem dX8_upsInTrial_1 : decode cX8_upsInTrial 1 = .ok (.getfield 49, 3) := by decide +kernel
theorem dX8_upsInTrial_4 : decode cX8_upsInTrial 4 = .ok (.iload_n 1, 1) := by decide +kernel
theorem dX8_upsInTrial_5 : decode cX8_upsInTrial 5 = .ok (.aload_n 0, 1) := by decide +kernel
theorem dX8_upsInTrial_6 : decode cX8_upsInTrial 6 = .ok (.getfield 31, 3) := by decide +kernel
theorem dX8_upsInTrial_9 : decode cX8_upsInTrial 9 = .ok (.invokevirtual 257, 3) := by decide +kernel
theorem dX8_upsInTrial_12 : decode cX8_upsInTrial 12 = .ok (.aload_n 0, 1) := by decide +kernel
theorem dX8_upsInTrial_13 : decode cX8_upsInTrial 13 = .ok (.getfield 52, 3) := by decide +kernel
theorem dX8_upsInTrial_16 : decode cX8_upsInTrial 16 = .ok (.aload_n 0, 1) := by decide +kernel
theorem dX8_upsInTrial_17 : decode cX8_upsInTrial 17 = .ok (.getfield 49, 3) := by decide +kernel
theorem dX8_upsInTrial_20 : decode cX8_upsInTrial 20 = .ok (.aload_n 0, 1) := by decide +kernel
theorem dX8_upsInTrial_21 : decode cX8_upsInTrial 21 = .ok (.getfield 21, 3) := by decide +kernel
theorem dX8_upsInTrial_24 : decode cX8_upsInTrial 24 = .ok (.aload_n 0, 1) := by decide +kernel
theorem dX8_upsInTrial_25 : decode cX8_upsInTrial 25 = .ok (.getfield 89, 3) := by decide +kernel
theorem dX8_upsInTrial_28 : decode cX8_upsInTrial 28 = .ok (.invokevirtual 261, 3) := by decide +kernel
theorem dX8_upsInTrial_31 : decode cX8_upsInTrial 31 = .ok (.aload_n 0, 1) := by decide +kernel
theorem dX8_upsInTrial_32 : decode cX8_upsInTrial 32 = .ok (.getfield 52, 3) := by decide +kernel
theorem dX8_upsInTrial_35 : decode cX8_upsInTrial 35 = .ok (.invokevirtual 300, 3) := by decide +kernel
theorem dX8_upsInTrial_38 : decode cX8_upsInTrial 38 = .ok (.ireturn, 1) := by decide +kernel
theorem dX8_tryWithout_0 : decode cX8_tryWithout 0 = .ok (.aload_n 0, 1) := by decide +kernel
theorem dX8_tryWithout_1 : decode cX8_tryWithout 1 = .ok (.getfield 49, 3) := by decide +kernel
theorem dX8_tryWithout_4 : decode cX8_tryWithout 4 = .ok (.aload_n 0, 1) := by decide +kernel
theorem dX8_tryWithout_5 : decode cX8_tryWithout 5 = .ok (.getfield 38, 3) := by decide +kernel
theorem dX8_tryWithout_8 : decode cX8_tryWithout 8 = .ok (.invokevirtual 250, 3) := by decide +kernel
theorem dX8_tryWithout_11 : decode cX8_tryWithout 11 = .ok (.aload_n 0, 1) := by decide +kernel
theorem dX8_tryWithout_12 : decode cX8_tryWithout 12 = .ok (.getfield 49, 3) := by decide +kernel
theorem dX8_tryWithout_15 : decode cX8_tryWithout 15 = .ok (.aload_n 0, 1) := by decide +kernel
theorem dX8_tryWithout_16 : decode cX8_tryWithout 16 = .ok (.getfield 38, 3) := by decide +kernel
theorem dX8_tryWithout_19 : decode cX8_tryWithout 19 = .ok (.aload_n 0, 1) := by decide +kernel
theorem dX8_tryWithout_20 : decode cX8_tryWithout 20 = .ok (.getfield 38, 3) := by decide +kernel
theorem dX8_tryWithout_23 : decode cX8_tryWithout 23 = .ok (.getfield 133, 3) := by decide +kernel
theorem dX8_tryWithout_26 : decode cX8_tryWithout 26 = .ok (.iload_n 1, 1) := by decide +kernel
theorem dX8_tryWithout_27 : decode cX8_tryWithout 27 = .ok (.iaload, 1) := by decide +kernel
theorem dX8_tryWithout_28 : decode cX8_tryWithout 28 = .ok (.invokevirtual 254, 3) := by decide +kernel
theorem dX8_tryWithout_31 : decode cX8_tryWithout 31 = .ok (.iload_n 1, 1) := by decide +kernel
theorem dX8_tryWithout_32 : decode cX8_tryWithout 32 = .ok (.invokestatic 204, 3) := by decide +kernel
theorem dX8_tryWithout_35 : decode cX8_tryWithout 35 = .ok (.iconst (-1), 1) := by decide +kernel
theorem dX8_tryWithout_36 : decode cX8_tryWithout 36 = .ok (.ixor, 1) := by decide +kernel
theorem dX8_tryWithout_37 : decode cX8_tryWithout 37 = .ok (.iand, 1) := by decide +kernel
theorem dX8_tryWithout_38 : decode cX8_tryWithout 38 = .ok (.aload_n 0, 1) := by decide +kernel
theorem dX8_tryWithout_39 : decode cX8_tryWithout 39 = .ok (.getfield 31, 3) := by decide +kernel
theorem dX8_tryWithout_42 : decode cX8_tryWithout 42 = .ok (.invokevirtual 257, 3) := by decide +kernel
theorem dX8_tryWithout_45 : decode cX8_tryWithout 45 = .ok (.aload_n 0, 1) := by decide +kernel
theorem dX8_tryWithout_46 : decode cX8_tryWithout 46 = .ok (.getfield 52, 3) := by decide +kernel
theorem dX8_tryWithout_49 : decode cX8_tryWithout 49 = .ok (.aload_n 0, 1) := by decide +kernel
theorem dX8_tryWithout_50 : decode cX8_tryWithout 50 = .ok (.getfield 49, 3) := by decide +kernel
theorem dX8_tryWithout_53 : decode cX8_tryWithout 53 = .ok (.aload_n 0, 1) := by decide +kernel
theorem dX8_tryWithout_54 : decode cX8_tryWithout 54 = .ok (.getfield 21, 3) := by decide +kernel
theorem dX8_tryWithout_57 : decode cX8_tryWithout 57 = .ok (.aload_n 0, 1) := by decide +kernel
theorem dX8_tryWithout_58 : decode cX8_tryWithout 58 = .ok (.getfield 89, 3) := by decide +kernel
theorem dX8_tryWithout_61 : decode cX8_tryWithout 61 = .ok (.invokevirtual 261, 3) := by decide +kernel
theorem dX8_tryWithout_64 : decode cX8_tryWithout 64 = .ok (.return_, 1) := by decide +kernel
theorem dX8_agrees_0 : decode cX8_agrees 0 = .ok (.iconst 0, 1) := by decide +kernel
theorem dX8_agrees_1 : decode cX8_agrees 1 = .ok (.istore 4, 2) := by decide +kernel
theorem dX8_agrees_3 : decode cX8_agrees 3 = .ok (.iload 4, 2) := by decide +kernel
theorem dX8_agrees_5 : decode cX8_agrees 5 = .ok (.aload_n 0, 1) := by decide +kernel
theorem dX8_agrees_6 : decode cX8_agrees 6 = .ok (.getfield 58, 3) := by decide +kernel
theorem dX8_agrees_9 : decode cX8_agrees 9 = .ok (.getfield 242, 3) := by decide +kernel
theorem dX8_agrees_12 : decode cX8_agrees 12 = .ok (.if_icmp .ge 93, 3) := by decide +kernel
theorem dX8_agrees_15 : decode cX8_agrees 15 = .ok (.aload_n 0, 1) := by decide +kernel
theorem dX8_agrees_16 : decode cX8_agrees 16 = .ok (.getfield 58, 3) := by decide +kernel
theorem dX8_agrees_19 : decode cX8_agrees 19 = .ok (.getfield 426, 3) := by decide +kernel
theorem dX8_agrees_22 : decode cX8_agrees 22 = .ok (.iload 4, 2) := by decide +kernel
theorem dX8_agrees_24 : decode cX8_agrees 24 = .ok (.iaload, 1) := by decide +kernel
theorem dX8_agrees_25 : decode cX8_agrees 25 = .ok (.istore 5, 2) := by decide +kernel
theorem dX8_agrees_27 : decode cX8_agrees 27 = .ok (.aload_n 0, 1) := by decide +kernel
theorem dX8_agrees_28 : decode cX8_agrees 28 = .ok (.getfield 58, 3) := by decide +kernel
theorem dX8_agrees_31 : decode cX8_agrees 31 = .ok (.getfield 427, 3) := by decide +kernel
theorem dX8_agrees_34 : decode cX8_agrees 34 = .ok (.iload 4, 2) := by decide +kernel
theorem dX8_agrees_36 : decode cX8_agrees 36 = .ok (.iaload, 1) := by decide +kernel
theorem dX8_agrees_37 : decode cX8_agrees 37 = .ok (.istore 6, 2) := by decide +kernel
theorem dX8_agrees_39 : decode cX8_agrees 39 = .ok (.iload 6, 2) := by decide +kernel
theorem dX8_agrees_41 : decode cX8_agrees 41 = .ok (.iload_n 3, 1) := by decide +kernel
theorem dX8_agrees_42 : decode cX8_agrees 42 = .ok (.if_icmp .ne 19, 3) := by decide +kernel
theorem dX8_agrees_45 : decode cX8_agrees 45 = .ok (.aload_n 1, 1) := by decide +kernel
theorem dX8_agrees_46 : decode cX8_agrees 46 = .ok (.iload 6, 2) := by decide +kernel
theorem dX8_agrees_48 : decode cX8_agrees 48 = .ok (.aload_n 2, 1) := by decide +kernel
theorem dX8_agrees_49 : decode cX8_agrees 49 = .ok (.getfield 182, 3) := by decide +kernel
theorem dX8_agrees_52 : decode cX8_agrees 52 = .ok (.iload 5, 2) := by decide +kernel
theorem dX8_agrees_54 : decode cX8_agrees 54 = .ok (.iaload, 1) := by decide +kernel
theorem dX8_agrees_55 : decode cX8_agrees 55 = .ok (.invokevirtual 428, 3) := by decide +kernel
theorem dX8_agrees_58 : decode cX8_agrees 58 = .ok (.goto 22, 3) := by decide +kernel
theorem dX8_agrees_61 : decode cX8_agrees 61 = .ok (.aload_n 0, 1) := by decide +kernel
theorem dX8_agrees_62 : decode cX8_agrees 62 = .ok (.getfield 38, 3) := by decide +kernel
theorem dX8_agrees_65 : decode cX8_agrees 65 = .ok (.iload 6, 2) := by decide +kernel
theorem dX8_agrees_67 : decode cX8_agrees 67 = .ok (.aload_n 0, 1) := by decide +kernel
theorem dX8_agrees_68 : decode cX8_agrees 68 = .ok (.getfield 45, 3) := by decide +kernel
theorem dX8_agrees_71 : decode cX8_agrees 71 = .ok (.getfield 182, 3) := by decide +kernel
theorem dX8_agrees_74 : decode cX8_agrees 74 = .ok (.iload 5, 2) := by decide +kernel
theorem dX8_agrees_76 : decode cX8_agrees 76 = .ok (.iaload, 1) := by decide +kernel
theorem dX8_agrees_77 : decode cX8_agrees 77 = .ok (.invokevirtual 428, 3) := by decide +kernel
theorem dX8_agrees_80 : decode cX8_agrees 80 = .ok (.istore 7, 2) := by decide +kernel
theorem dX8_agrees_82 : decode cX8_agrees 82 = .ok (.iload 7, 2) := by decide +kernel
theorem dX8_agrees_84 : decode cX8_agrees 84 = .ok (.aload_n 0, 1) := by decide +kernel
theorem dX8_agrees_85 : decode cX8_agrees 85 = .ok (.getfield 58, 3) := by decide +kernel
theorem dX8_agrees_88 : decode cX8_agrees 88 = .ok (.getfield 431, 3) := by decide +kernel
theorem dX8_agrees_91 : decode cX8_agrees 91 = .ok (.iload 4, 2) := by decide +kernel
theorem dX8_agrees_93 : decode cX8_agrees 93 = .ok (.iaload, 1) := by decide +kernel
theorem dX8_agrees_94 : decode cX8_agrees 94 = .ok (.if_icmp .eq 5, 3) := by decide +kernel
theorem dX8_agrees_97 : decode cX8_agrees 97 = .ok (.iconst 0, 1) := by decide +kernel
theorem dX8_agrees_98 : decode cX8_agrees 98 = .ok (.ireturn, 1) := by decide +kernel
theorem dX8_agrees_99 : decode cX8_agrees 99 = .ok (.iinc 4 1, 3) := by decide +kernel
theorem dX8_agrees_102 : decode cX8_agrees 102 = .ok (.goto (-99), 3) := by decide +kernel
theorem dX8_agrees_105 : decode cX8_agrees 105 = .ok (.iconst 1, 1) := by decide +kernel
theorem dX8_agrees_106 : decode cX8_agrees 106 = .ok (.ireturn, 1) := by decide +kernel
theorem dX8_viewWithoutEach_0 : decode cX8_viewWithoutEach 0 = .ok (.iconst 0, 1) := by decide +kernel
theorem dX8_viewWithoutEach_1 : decode cX8_viewWithoutEach 1 = .ok (.istore_n 3, 1) := by decide +kernel
theorem dX8_viewWithoutEach_2 : decode cX8_viewWithoutEach 2 = .ok (.iload_n 3, 1) := by decide +kernel
theorem dX8_viewWithoutEach_3 : decode cX8_viewWithoutEach 3 = .ok (.aload_n 0, 1) := by decide +kernel
theorem dX8_viewWithoutEach_4 : decode cX8_viewWithoutEach 4 = .ok (.getfield 38, 3) := by decide +kernel
theorem dX8_viewWithoutEach_7 : decode cX8_viewWithoutEach 7 = .ok (.getfield 221, 3) := by decide +kernel
theorem dX8_viewWithoutEach_10 : decode cX8_viewWithoutEach 10 = .ok (.if_icmp .ge 126, 3) := by decide +kernel
theorem dX8_viewWithoutEach_13 : decode cX8_viewWithoutEach 13 = .ok (.iload_n 1, 1) := by decide +kernel
theorem dX8_viewWithoutEach_14 : decode cX8_viewWithoutEach 14 = .ok (.iload_n 3, 1) := by decide +kernel
theorem dX8_viewWithoutEach_15 : decode cX8_viewWithoutEach 15 = .ok (.invokestatic 402, 3) := by decide +kernel
theorem dX8_viewWithoutEach_18 : decode cX8_viewWithoutEach 18 = .ok (.ifCond .ne 6, 3) := by decide +kernel
theorem dX8_viewWithoutEach_21 : decode cX8_viewWithoutEach 21 = .ok (.goto 109, 3) := by decide +kernel
theorem dX8_viewWithoutEach_24 : decode cX8_viewWithoutEach 24 = .ok (.aload_n 0, 1) := by decide +kernel
theorem dX8_viewWithoutEach_25 : decode cX8_viewWithoutEach 25 = .ok (.getfield 38, 3) := by decide +kernel
theorem dX8_viewWithoutEach_28 : decode cX8_viewWithoutEach 28 = .ok (.getfield 133, 3) := by decide +kernel
theorem dX8_viewWithoutEach_31 : decode cX8_viewWithoutEach 31 = .ok (.iload_n 3, 1) := by decide +kernel
theorem dX8_viewWithoutEach_32 : decode cX8_viewWithoutEach 32 = .ok (.iaload, 1) := by decide +kernel
theorem dX8_viewWithoutEach_33 : decode cX8_viewWithoutEach 33 = .ok (.iload_n 2, 1) := by decide +kernel
theorem dX8_viewWithoutEach_34 : decode cX8_viewWithoutEach 34 = .ok (.if_icmp .ne 7, 3) := by decide +kernel
theorem dX8_viewWithoutEach_37 : decode cX8_viewWithoutEach 37 = .ok (.iconst 1, 1) := by decide +kernel
theorem dX8_viewWithoutEach_38 : decode cX8_viewWithoutEach 38 = .ok (.goto 4, 3) := by decide +kernel
theorem dX8_viewWithoutEach_41 : decode cX8_viewWithoutEach 41 = .ok (.iconst 0, 1) := by decide +kernel
theorem dX8_viewWithoutEach_42 : decode cX8_viewWithoutEach 42 = .ok (.istore 4, 2) := by decide +kernel
theorem dX8_viewWithoutEach_44 : decode cX8_viewWithoutEach 44 = .ok (.iload 4, 2) := by decide +kernel
theorem dX8_viewWithoutEach_46 : decode cX8_viewWithoutEach 46 = .ok (.ifCond .eq 8, 3) := by decide +kernel
theorem dX8_viewWithoutEach_49 : decode cX8_viewWithoutEach 49 = .ok (.aload_n 0, 1) := by decide +kernel
theorem dX8_viewWithoutEach_50 : decode cX8_viewWithoutEach 50 = .ok (.iload_n 3, 1) := by decide +kernel
theorem dX8_viewWithoutEach_51 : decode cX8_viewWithoutEach 51 = .ok (.invokevirtual 243, 3) := by decide +kernel
theorem dX8_viewWithoutEach_54 : decode cX8_viewWithoutEach 54 = .ok (.iconst 0, 1) := by decide +kernel
theorem dX8_viewWithoutEach_55 : decode cX8_viewWithoutEach 55 = .ok (.istore 5, 2) := by decide +kernel
theorem dX8_viewWithoutEach_57 : decode cX8_viewWithoutEach 57 = .ok (.iload 5, 2) := by decide +kernel
theorem dX8_viewWithoutEach_59 : decode cX8_viewWithoutEach 59 = .ok (.bipush 20, 2) := by decide +kernel
theorem dX8_viewWithoutEach_61 : decode cX8_viewWithoutEach 61 = .ok (.if_icmp .ge 69, 3) := by decide +kernel
theorem dX8_viewWithoutEach_64 : decode cX8_viewWithoutEach 64 = .ok (.aload_n 0, 1) := by decide +kernel
theorem dX8_viewWithoutEach_65 : decode cX8_viewWithoutEach 65 = .ok (.getfield 82, 3) := by decide +kernel
theorem dX8_viewWithoutEach_68 : decode cX8_viewWithoutEach 68 = .ok (.iload_n 3, 1) := by decide +kernel
theorem dX8_viewWithoutEach_69 : decode cX8_viewWithoutEach 69 = .ok (.bipush 20, 2) := by decide +kernel
theorem dX8_viewWithoutEach_71 : decode cX8_viewWithoutEach 71 = .ok (.imul, 1) := by decide +kernel
theorem dX8_viewWithoutEach_72 : decode cX8_viewWithoutEach 72 = .ok (.iload 5, 2) := by decide +kernel
theorem dX8_viewWithoutEach_74 : decode cX8_viewWithoutEach 74 = .ok (.iadd, 1) := by decide +kernel
theorem dX8_viewWithoutEach_75 : decode cX8_viewWithoutEach 75 = .ok (.iload 4, 2) := by decide +kernel
theorem dX8_viewWithoutEach_77 : decode cX8_viewWithoutEach 77 = .ok (.ifCond .eq 26, 3) := by decide +kernel
theorem dX8_viewWithoutEach_80 : decode cX8_viewWithoutEach 80 = .ok (.aload_n 0, 1) := by decide +kernel
theorem dX8_viewWithoutEach_81 : decode cX8_viewWithoutEach 81 = .ok (.getfield 49, 3) := by decide +kernel
theorem dX8_viewWithoutEach_84 : decode cX8_viewWithoutEach 84 = .ok (.iload 5, 2) := by decide +kernel
theorem dX8_viewWithoutEach_86 : decode cX8_viewWithoutEach 86 = .ok (.iload_n 2, 1) := by decide +kernel
theorem dX8_viewWithoutEach_87 : decode cX8_viewWithoutEach 87 = .ok (.aload_n 0, 1) := by decide +kernel
theorem dX8_viewWithoutEach_88 : decode cX8_viewWithoutEach 88 = .ok (.getfield 52, 3) := by decide +kernel
theorem dX8_viewWithoutEach_91 : decode cX8_viewWithoutEach 91 = .ok (.getfield 182, 3) := by decide +kernel
theorem dX8_viewWithoutEach_94 : decode cX8_viewWithoutEach 94 = .ok (.iload 5, 2) := by decide +kernel
theorem dX8_viewWithoutEach_96 : decode cX8_viewWithoutEach 96 = .ok (.iaload, 1) := by decide +kernel
theorem dX8_viewWithoutEach_97 : decode cX8_viewWithoutEach 97 = .ok (.invokevirtual 185, 3) := by decide +kernel
theorem dX8_viewWithoutEach_100 : decode cX8_viewWithoutEach 100 = .ok (.goto 23, 3) := by decide +kernel
theorem dX8_viewWithoutEach_103 : decode cX8_viewWithoutEach 103 = .ok (.aload_n 0, 1) := by decide +kernel
theorem dX8_viewWithoutEach_104 : decode cX8_viewWithoutEach 104 = .ok (.getfield 38, 3) := by decide +kernel
theorem dX8_viewWithoutEach_107 : decode cX8_viewWithoutEach 107 = .ok (.iload 5, 2) := by decide +kernel
theorem dX8_viewWithoutEach_109 : decode cX8_viewWithoutEach 109 = .ok (.iload_n 2, 1) := by decide +kernel
theorem dX8_viewWithoutEach_110 : decode cX8_viewWithoutEach 110 = .ok (.aload_n 0, 1) := by decide +kernel
theorem dX8_viewWithoutEach_111 : decode cX8_viewWithoutEach 111 = .ok (.getfield 45, 3) := by decide +kernel
theorem dX8_viewWithoutEach_114 : decode cX8_viewWithoutEach 114 = .ok (.getfield 182, 3) := by decide +kernel
theorem dX8_viewWithoutEach_117 : decode cX8_viewWithoutEach 117 = .ok (.iload 5, 2) := by decide +kernel
theorem dX8_viewWithoutEach_119 : decode cX8_viewWithoutEach 119 = .ok (.iaload, 1) := by decide +kernel
theorem dX8_viewWithoutEach_120 : decode cX8_viewWithoutEach 120 = .ok (.invokevirtual 185, 3) := by decide +kernel
theorem dX8_viewWithoutEach_123 : decode cX8_viewWithoutEach 123 = .ok (.iastore, 1) := by decide +kernel
theorem dX8_viewWithoutEach_124 : decode cX8_viewWithoutEach 124 = .ok (.iinc 5 1, 3) := by decide +kernel
theorem dX8_viewWithoutEach_127 : decode cX8_viewWithoutEach 127 = .ok (.goto (-70), 3) := by decide +kernel
theorem dX8_viewWithoutEach_130 : decode cX8_viewWithoutEach 130 = .ok (.iinc 3 1, 3) := by decide +kernel
theorem dX8_viewWithoutEach_133 : decode cX8_viewWithoutEach 133 = .ok (.goto (-131), 3) := by decide +kernel
theorem dX8_viewWithoutEach_136 : decode cX8_viewWithoutEach 136 = .ok (.return_, 1) := by decide +kernel
theorem dX8_mostAlike_0 : decode cX8_mostAlike 0 = .ok (.iconst 0, 1) := by decide +kernel
theorem dX8_mostAlike_1 : decode cX8_mostAlike 1 = .ok (.istore_n 3, 1) := by decide +kernel
theorem dX8_mostAlike_2 : decode cX8_mostAlike 2 = .ok (.iconst 0, 1) := by decide +kernel
theorem dX8_mostAlike_3 : decode cX8_mostAlike 3 = .ok (.istore 4, 2) := by decide +kernel
theorem dX8_mostAlike_5 : decode cX8_mostAlike 5 = .ok (.iload 4, 2) := by decide +kernel
theorem dX8_mostAlike_7 : decode cX8_mostAlike 7 = .ok (.aload_n 0, 1) := by decide +kernel
theorem dX8_mostAlike_8 : decode cX8_mostAlike 8 = .ok (.getfield 38, 3) := by decide +kernel
theorem dX8_mostAlike_11 : decode cX8_mostAlike 11 = .ok (.getfield 221, 3) := by decide +kernel
theorem dX8_mostAlike_14 : decode cX8_mostAlike 14 = .ok (.if_icmp .ge 88, 3) := by decide +kernel
theorem dX8_mostAlike_17 : decode cX8_mostAlike 17 = .ok (.iconst 0, 1) := by decide +kernel
theorem dX8_mostAlike_18 : decode cX8_mostAlike 18 = .ok (.istore 5, 2) := by decide +kernel
theorem dX8_mostAlike_20 : decode cX8_mostAlike 20 = .ok (.iconst 0, 1) := by decide +kernel
theorem dX8_mostAlike_21 : decode cX8_mostAlike 21 = .ok (.istore 6, 2) := by decide +kernel
theorem dX8_mostAlike_23 : decode cX8_mostAlike 23 = .ok (.iload 6, 2) := by decide +kernel
theorem dX8_mostAlike_25 : decode cX8_mostAlike 25 = .ok (.aload_n 0, 1) := by decide +kernel
theorem dX8_mostAlike_26 : decode cX8_mostAlike 26 = .ok (.getfield 38, 3) := by decide +kernel
theorem dX8_mostAlike_29 : decode cX8_mostAlike 29 = .ok (.getfield 221, 3) := by decide +kernel
theorem dX8_mostAlike_32 : decode cX8_mostAlike 32 = .ok (.if_icmp .ge 57, 3) := by decide +kernel
theorem dX8_mostAlike_35 : decode cX8_mostAlike 35 = .ok (.iload_n 1, 1) := by decide +kernel
theorem dX8_mostAlike_36 : decode cX8_mostAlike 36 = .ok (.iload 4, 2) := by decide +kernel
theorem dX8_mostAlike_38 : decode cX8_mostAlike 38 = .ok (.invokestatic 402, 3) := by decide +kernel
theorem dX8_mostAlike_41 : decode cX8_mostAlike 41 = .ok (.ifCond .eq 48, 3) := by decide +kernel
theorem dX8_mostAlike_44 : decode cX8_mostAlike 44 = .ok (.iload_n 1, 1) := by decide +kernel
theorem dX8_mostAlike_45 : decode cX8_mostAlike 45 = .ok (.iload 6, 2) := by decide +kernel
theorem dX8_mostAlike_47 : decode cX8_mostAlike 47 = .ok (.invokestatic 402, 3) := by decide +kernel
theorem dX8_mostAlike_50 : decode cX8_mostAlike 50 = .ok (.ifCond .eq 33, 3) := by decide +kernel
theorem dX8_mostAlike_53 : decode cX8_mostAlike 53 = .ok (.aload_n 0, 1) := by decide +kernel
theorem dX8_mostAlike_54 : decode cX8_mostAlike 54 = .ok (.getfield 82, 3) := by decide +kernel
theorem dX8_mostAlike_57 : decode cX8_mostAlike 57 = .ok (.iload 6, 2) := by decide +kernel
theorem dX8_mostAlike_59 : decode cX8_mostAlike 59 = .ok (.bipush 20, 2) := by decide +kernel
theorem dX8_mostAlike_61 : decode cX8_mostAlike 61 = .ok (.imul, 1) := by decide +kernel
theorem dX8_mostAlike_62 : decode cX8_mostAlike 62 = .ok (.iload_n 2, 1) := by decide +kernel
theorem dX8_mostAlike_63 : decode cX8_mostAlike 63 = .ok (.iadd, 1) := by decide +kernel
theorem dX8_mostAlike_64 : decode cX8_mostAlike 64 = .ok (.iaload, 1) := by decide +kernel
theorem dX8_mostAlike_65 : decode cX8_mostAlike 65 = .ok (.aload_n 0, 1) := by decide +kernel
theorem dX8_mostAlike_66 : decode cX8_mostAlike 66 = .ok (.getfield 82, 3) := by decide +kernel
theorem dX8_mostAlike_69 : decode cX8_mostAlike 69 = .ok (.iload 4, 2) := by decide +kernel
theorem dX8_mostAlike_71 : decode cX8_mostAlike 71 = .ok (.bipush 20, 2) := by decide +kernel
theorem dX8_mostAlike_73 : decode cX8_mostAlike 73 = .ok (.imul, 1) := by decide +kernel
theorem dX8_mostAlike_74 : decode cX8_mostAlike 74 = .ok (.iload_n 2, 1) := by decide +kernel
theorem dX8_mostAlike_75 : decode cX8_mostAlike 75 = .ok (.iadd, 1) := by decide +kernel
theorem dX8_mostAlike_76 : decode cX8_mostAlike 76 = .ok (.iaload, 1) := by decide +kernel
theorem dX8_mostAlike_77 : decode cX8_mostAlike 77 = .ok (.if_icmp .ne 6, 3) := by decide +kernel
theorem dX8_mostAlike_80 : decode cX8_mostAlike 80 = .ok (.iinc 5 1, 3) := by decide +kernel
theorem dX8_mostAlike_83 : decode cX8_mostAlike 83 = .ok (.iinc 6 1, 3) := by decide +kernel
theorem dX8_mostAlike_86 : decode cX8_mostAlike 86 = .ok (.goto (-63), 3) := by decide +kernel
theorem dX8_mostAlike_89 : decode cX8_mostAlike 89 = .ok (.iload_n 3, 1) := by decide +kernel
theorem dX8_mostAlike_90 : decode cX8_mostAlike 90 = .ok (.iload 5, 2) := by decide +kernel
theorem dX8_mostAlike_92 : decode cX8_mostAlike 92 = .ok (.invokestatic 432, 3) := by decide +kernel
theorem dX8_mostAlike_95 : decode cX8_mostAlike 95 = .ok (.istore_n 3, 1) := by decide +kernel
theorem dX8_mostAlike_96 : decode cX8_mostAlike 96 = .ok (.iinc 4 1, 3) := by decide +kernel
theorem dX8_mostAlike_99 : decode cX8_mostAlike 99 = .ok (.goto (-94), 3) := by decide +kernel
theorem dX8_mostAlike_102 : decode cX8_mostAlike 102 = .ok (.iload_n 3, 1) := by decide +kernel
theorem dX8_mostAlike_103 : decode cX8_mostAlike 103 = .ok (.ireturn, 1) := by decide +kernel
theorem dX8_reckonChance_0 : decode cX8_reckonChance 0 = .ok (.aload_n 0, 1) := by decide +kernel
theorem dX8_reckonChance_1 : decode cX8_reckonChance 1 = .ok (.getfield 21, 3) := by decide +kernel
theorem dX8_reckonChance_4 : decode cX8_reckonChance 4 = .ok (.iload_n 3, 1) := by decide +kernel
theorem dX8_reckonChance_5 : decode cX8_reckonChance 5 = .ok (.iaload, 1) := by decide +kernel
theorem dX8_reckonChance_6 : decode cX8_reckonChance 6 = .ok (.ifCond .ne 7, 3) := by decide +kernel
theorem dX8_reckonChance_9 : decode cX8_reckonChance 9 = .ok (.iconst 0, 1) := by decide +kernel
theorem dX8_reckonChance_10 : decode cX8_reckonChance 10 = .ok (.goto 19, 3) := by decide +kernel
theorem dX8_reckonChance_13 : decode cX8_reckonChance 13 = .ok (.aload_n 0, 1) := by decide +kernel
theorem dX8_reckonChance_14 : decode cX8_reckonChance 14 = .ok (.getfield 38, 3) := by decide +kernel
theorem dX8_reckonChance_17 : decode cX8_reckonChance 17 = .ok (.aload_n 0, 1) := by decide +kernel
theorem dX8_reckonChance_18 : decode cX8_reckonChance 18 = .ok (.getfield 38, 3) := by decide +kernel
theorem dX8_reckonChance_21 : decode cX8_reckonChance 21 = .ok (.getfield 435, 3) := by decide +kernel
theorem dX8_reckonChance_24 : decode cX8_reckonChance 24 = .ok (.iload_n 3, 1) := by decide +kernel
theorem dX8_reckonChance_25 : decode cX8_reckonChance 25 = .ok (.iaload, 1) := by decide +kernel
theorem dX8_reckonChance_26 : decode cX8_reckonChance 26 = .ok (.invokevirtual 438, 3) := by decide +kernel
theorem dX8_reckonChance_29 : decode cX8_reckonChance 29 = .ok (.istore 4, 2) := by decide +kernel
theorem dX8_reckonChance_31 : decode cX8_reckonChance 31 = .ok (.aload_n 0, 1) := by decide +kernel
theorem dX8_reckonChance_32 : decode cX8_reckonChance 32 = .ok (.getfield 49, 3) := by decide +kernel
theorem dX8_reckonChance_35 : decode cX8_reckonChance 35 = .ok (.aload_n 0, 1) := by decide +kernel
theorem dX8_reckonChance_36 : decode cX8_reckonChance 36 = .ok (.getfield 38, 3) := by decide +kernel
theorem dX8_reckonChance_39 : decode cX8_reckonChance 39 = .ok (.invokevirtual 250, 3) := by decide +kernel
theorem dX8_reckonChance_42 : decode cX8_reckonChance 42 = .ok (.aload_n 0, 1) := by decide +kernel
theorem dX8_reckonChance_43 : decode cX8_reckonChance 43 = .ok (.getfield 49, 3) := by decide +kernel
theorem dX8_reckonChance_46 : decode cX8_reckonChance 46 = .ok (.iload 4, 2) := by decide +kernel
theorem dX8_reckonChance_48 : decode cX8_reckonChance 48 = .ok (.aload_n 0, 1) := by decide +kernel
theorem dX8_reckonChance_49 : decode cX8_reckonChance 49 = .ok (.getfield 31, 3) := by decide +kernel
theorem dX8_reckonChance_52 : decode cX8_reckonChance 52 = .ok (.invokevirtual 257, 3) := by decide +kernel
theorem dX8_reckonChance_55 : decode cX8_reckonChance 55 = .ok (.aload_n 0, 1) := by decide +kernel
theorem dX8_reckonChance_56 : decode cX8_reckonChance 56 = .ok (.getfield 72, 3) := by decide +kernel
theorem dX8_reckonChance_59 : decode cX8_reckonChance 59 = .ok (.iload_n 1, 1) := by decide +kernel
theorem dX8_reckonChance_60 : decode cX8_reckonChance 60 = .ok (.putfield 441, 3) := by decide +kernel
theorem dX8_reckonChance_63 : decode cX8_reckonChance 63 = .ok (.aload_n 0, 1) := by decide +kernel
theorem dX8_reckonChance_64 : decode cX8_reckonChance 64 = .ok (.getfield 72, 3) := by decide +kernel
theorem dX8_reckonChance_67 : decode cX8_reckonChance 67 = .ok (.iload_n 2, 1) := by decide +kernel
theorem dX8_reckonChance_68 : decode cX8_reckonChance 68 = .ok (.iload_n 3, 1) := by decide +kernel
theorem dX8_reckonChance_69 : decode cX8_reckonChance 69 = .ok (.invokestatic 331, 3) := by decide +kernel
theorem dX8_reckonChance_72 : decode cX8_reckonChance 72 = .ok (.putfield 444, 3) := by decide +kernel
theorem dX8_reckonChance_75 : decode cX8_reckonChance 75 = .ok (.aload_n 0, 1) := by decide +kernel
theorem dX8_reckonChance_76 : decode cX8_reckonChance 76 = .ok (.getfield 72, 3) := by decide +kernel
theorem dX8_reckonChance_79 : decode cX8_reckonChance 79 = .ok (.iload_n 3, 1) := by decide +kernel
theorem dX8_reckonChance_80 : decode cX8_reckonChance 80 = .ok (.putfield 447, 3) := by decide +kernel
theorem dX8_reckonChance_83 : decode cX8_reckonChance 83 = .ok (.aload_n 0, 1) := by decide +kernel
theorem dX8_reckonChance_84 : decode cX8_reckonChance 84 = .ok (.getfield 72, 3) := by decide +kernel
theorem dX8_reckonChance_87 : decode cX8_reckonChance 87 = .ok (.aload_n 0, 1) := by decide +kernel
theorem dX8_reckonChance_88 : decode cX8_reckonChance 88 = .ok (.getfield 89, 3) := by decide +kernel
theorem dX8_reckonChance_91 : decode cX8_reckonChance 91 = .ok (.putfield 450, 3) := by decide +kernel
theorem dX8_reckonChance_94 : decode cX8_reckonChance 94 = .ok (.aload_n 0, 1) := by decide +kernel
theorem dX8_reckonChance_95 : decode cX8_reckonChance 95 = .ok (.getfield 72, 3) := by decide +kernel
theorem dX8_reckonChance_98 : decode cX8_reckonChance 98 = .ok (.aload_n 0, 1) := by decide +kernel
theorem dX8_reckonChance_99 : decode cX8_reckonChance 99 = .ok (.getfield 49, 3) := by decide +kernel
theorem dX8_reckonChance_102 : decode cX8_reckonChance 102 = .ok (.aload_n 0, 1) := by decide +kernel
theorem dX8_reckonChance_103 : decode cX8_reckonChance 103 = .ok (.getfield 21, 3) := by decide +kernel
theorem dX8_reckonChance_106 : decode cX8_reckonChance 106 = .ok (.iconst 0, 1) := by decide +kernel
theorem dX8_reckonChance_107 : decode cX8_reckonChance 107 = .ok (.aload_n 0, 1) := by decide +kernel
theorem dX8_reckonChance_108 : decode cX8_reckonChance 108 = .ok (.getfield 49, 3) := by decide +kernel
theorem dX8_reckonChance_111 : decode cX8_reckonChance 111 = .ok (.invokevirtual 451, 3) := by decide +kernel
theorem dX8_reckonChance_114 : decode cX8_reckonChance 114 = .ok (.invokestatic 454, 3) := by decide +kernel
theorem dX8_reckonChance_117 : decode cX8_reckonChance 117 = .ok (.lstore 5, 2) := by decide +kernel
theorem dX8_reckonChance_119 : decode cX8_reckonChance 119 = .ok (.aload_n 0, 1) := by decide +kernel
theorem dX8_reckonChance_120 : decode cX8_reckonChance 120 = .ok (.getfield 72, 3) := by decide +kernel
theorem dX8_reckonChance_123 : decode cX8_reckonChance 123 = .ok (.lload 5, 2) := by decide +kernel
theorem dX8_reckonChance_125 : decode cX8_reckonChance 125 = .ok (.iconst 4, 1) := by decide +kernel
theorem dX8_reckonChance_126 : decode cX8_reckonChance 126 = .ok (.aload_n 0, 1) := by decide +kernel
theorem dX8_reckonChance_127 : decode cX8_reckonChance 127 = .ok (.getfield 72, 3) := by decide +kernel
theorem dX8_reckonChance_130 : decode cX8_reckonChance 130 = .ok (.getfield 444, 3) := by decide +kernel
theorem dX8_reckonChance_133 : decode cX8_reckonChance 133 = .ok (.iconst 1, 1) := by decide +kernel
theorem dX8_reckonChance_134 : decode cX8_reckonChance 134 = .ok (.iadd, 1) := by decide +kernel
theorem dX8_reckonChance_135 : decode cX8_reckonChance 135 = .ok (.imul, 1) := by decide +kernel
theorem dX8_reckonChance_136 : decode cX8_reckonChance 136 = .ok (.invokevirtual 458, 3) := by decide +kernel
theorem dX8_reckonChance_139 : decode cX8_reckonChance 139 = .ok (.return_, 1) := by decide +kernel
theorem dX8_stillFrom_0 : decode cX8_stillFrom 0 = .ok (.aload_n 0, 1) := by decide +kernel
theorem dX8_stillFrom_1 : decode cX8_stillFrom 1 = .ok (.getfield 441, 3) := by decide +kernel
theorem dX8_stillFrom_4 : decode cX8_stillFrom 4 = .ok (.istore 5, 2) := by decide +kernel
theorem dX8_stillFrom_6 : decode cX8_stillFrom 6 = .ok (.aload_n 1, 1) := by decide +kernel
theorem dX8_stillFrom_7 : decode cX8_stillFrom 7 = .ok (.iload_n 3, 1) := by decide +kernel
theorem dX8_stillFrom_8 : decode cX8_stillFrom 8 = .ok (.aload_n 2, 1) := by decide +kernel
theorem dX8_stillFrom_9 : decode cX8_stillFrom 9 = .ok (.iload_n 3, 1) := by decide +kernel
theorem dX8_stillFrom_10 : decode cX8_stillFrom 10 = .ok (.iaload, 1) := by decide +kernel
theorem dX8_stillFrom_11 : decode cX8_stillFrom 11 = .ok (.iload 4, 2) := by decide +kernel
theorem dX8_stillFrom_13 : decode cX8_stillFrom 13 = .ok (.invokevirtual 462, 3) := by decide +kernel
theorem dX8_stillFrom_16 : decode cX8_stillFrom 16 = .ok (.istore 6, 2) := by decide +kernel
theorem dX8_stillFrom_18 : decode cX8_stillFrom 18 = .ok (.iload_n 3, 1) := by decide +kernel
theorem dX8_stillFrom_19 : decode cX8_stillFrom 19 = .ok (.aload_n 0, 1) := by decide +kernel
theorem dX8_stillFrom_20 : decode cX8_stillFrom 20 = .ok (.getfield 447, 3) := by decide +kernel
theorem dX8_stillFrom_23 : decode cX8_stillFrom 23 = .ok (.if_icmp .lt 42, 3) := by decide +kernel
theorem dX8_stillFrom_26 : decode cX8_stillFrom 26 = .ok (.iload 6, 2) := by decide +kernel
theorem dX8_stillFrom_28 : decode cX8_stillFrom 28 = .ok (.ifCond .ne 7, 3) := by decide +kernel
theorem dX8_stillFrom_31 : decode cX8_stillFrom 31 = .ok (.lconst 1, 1) := by decide +kernel
theorem dX8_stillFrom_32 : decode cX8_stillFrom 32 = .ok (.goto 4, 3) := by decide +kernel
theorem dX8_stillFrom_35 : decode cX8_stillFrom 35 = .ok (.lconst 0, 1) := by decide +kernel
theorem dX8_stillFrom_36 : decode cX8_stillFrom 36 = .ok (.lstore 7, 2) := by decide +kernel
theorem dX8_stillFrom_38 : decode cX8_stillFrom 38 = .ok (.iload_n 3, 1) := by decide +kernel
theorem dX8_stillFrom_39 : decode cX8_stillFrom 39 = .ok (.aload_n 0, 1) := by decide +kernel
theorem dX8_stillFrom_40 : decode cX8_stillFrom 40 = .ok (.getfield 444, 3) := by decide +kernel
theorem dX8_stillFrom_43 : decode cX8_stillFrom 43 = .ok (.if_icmp .gt 19, 3) := by decide +kernel
theorem dX8_stillFrom_46 : decode cX8_stillFrom 46 = .ok (.iload 5, 2) := by decide +kernel
theorem dX8_stillFrom_48 : decode cX8_stillFrom 48 = .ok (.i2l, 1) := by decide +kernel
theorem dX8_stillFrom_49 : decode cX8_stillFrom 49 = .ok (.bipush 16, 2) := by decide +kernel
theorem dX8_stillFrom_51 : decode cX8_stillFrom 51 = .ok (.iload 5, 2) := by decide +kernel
theorem dX8_stillFrom_53 : decode cX8_stillFrom 53 = .ok (.isub, 1) := by decide +kernel
theorem dX8_stillFrom_54 : decode cX8_stillFrom 54 = .ok (.i2l, 1) := by decide +kernel
theorem dX8_stillFrom_55 : decode cX8_stillFrom 55 = .ok (.lload 7, 2) := by decide +kernel
theorem dX8_stillFrom_57 : decode cX8_stillFrom 57 = .ok (.lmul, 1) := by decide +kernel
theorem dX8_stillFrom_58 : decode cX8_stillFrom 58 = .ok (.ladd, 1) := by decide +kernel
theorem dX8_stillFrom_59 : decode cX8_stillFrom 59 = .ok (.goto 5, 3) := by decide +kernel
theorem dX8_stillFrom_62 : decode cX8_stillFrom 62 = .ok (.lload 7, 2) := by decide +kernel
theorem dX8_stillFrom_64 : decode cX8_stillFrom 64 = .ok (.lreturn, 1) := by decide +kernel
theorem dX8_stillFrom_65 : decode cX8_stillFrom 65 = .ok (.aload_n 1, 1) := by decide +kernel
theorem dX8_stillFrom_66 : decode cX8_stillFrom 66 = .ok (.iload_n 3, 1) := by decide +kernel
theorem dX8_stillFrom_67 : decode cX8_stillFrom 67 = .ok (.iload 6, 2) := by decide +kernel
theorem dX8_stillFrom_69 : decode cX8_stillFrom 69 = .ok (.iload 4, 2) := by decide +kernel
theorem dX8_stillFrom_71 : decode cX8_stillFrom 71 = .ok (.aload_n 2, 1) := by decide +kernel
theorem dX8_stillFrom_72 : decode cX8_stillFrom 72 = .ok (.iload_n 3, 1) := by decide +kernel
theorem dX8_stillFrom_73 : decode cX8_stillFrom 73 = .ok (.iaload, 1) := by decide +kernel
theorem dX8_stillFrom_74 : decode cX8_stillFrom 74 = .ok (.aload_n 0, 1) := by decide +kernel
theorem dX8_stillFrom_75 : decode cX8_stillFrom 75 = .ok (.getfield 450, 3) := by decide +kernel
theorem dX8_stillFrom_78 : decode cX8_stillFrom 78 = .ok (.if_icmp .ge 7, 3) := by decide +kernel
theorem dX8_stillFrom_81 : decode cX8_stillFrom 81 = .ok (.iconst 1, 1) := by decide +kernel
theorem dX8_stillFrom_82 : decode cX8_stillFrom 82 = .ok (.goto 4, 3) := by decide +kernel
theorem dX8_stillFrom_85 : decode cX8_stillFrom 85 = .ok (.iconst 0, 1) := by decide +kernel
theorem dX8_stillFrom_86 : decode cX8_stillFrom 86 = .ok (.invokevirtual 465, 3) := by decide +kernel
theorem dX8_stillFrom_89 : decode cX8_stillFrom 89 = .ok (.istore 7, 2) := by decide +kernel
theorem dX8_stillFrom_91 : decode cX8_stillFrom 91 = .ok (.iload_n 3, 1) := by decide +kernel
theorem dX8_stillFrom_92 : decode cX8_stillFrom 92 = .ok (.aload_n 0, 1) := by decide +kernel
theorem dX8_stillFrom_93 : decode cX8_stillFrom 93 = .ok (.getfield 444, 3) := by decide +kernel
theorem dX8_stillFrom_96 : decode cX8_stillFrom 96 = .ok (.if_icmp .le 15, 3) := by decide +kernel
theorem dX8_stillFrom_99 : decode cX8_stillFrom 99 = .ok (.aload_n 0, 1) := by decide +kernel
theorem dX8_stillFrom_100 : decode cX8_stillFrom 100 = .ok (.aload_n 1, 1) := by decide +kernel
theorem dX8_stillFrom_101 : decode cX8_stillFrom 101 = .ok (.aload_n 2, 1) := by decide +kernel
theorem dX8_stillFrom_102 : decode cX8_stillFrom 102 = .ok (.iload_n 3, 1) := by decide +kernel
theorem dX8_stillFrom_103 : decode cX8_stillFrom 103 = .ok (.iconst 1, 1) := by decide +kernel
theorem dX8_stillFrom_104 : decode cX8_stillFrom 104 = .ok (.iadd, 1) := by decide +kernel
theorem dX8_stillFrom_105 : decode cX8_stillFrom 105 = .ok (.iload 7, 2) := by decide +kernel
theorem dX8_stillFrom_107 : decode cX8_stillFrom 107 = .ok (.invokestatic 454, 3) := by decide +kernel
theorem dX8_stillFrom_110 : decode cX8_stillFrom 110 = .ok (.lreturn, 1) := by decide +kernel
theorem dX8_stillFrom_111 : decode cX8_stillFrom 111 = .ok (.aload_n 1, 1) := by decide +kernel
theorem dX8_stillFrom_112 : decode cX8_stillFrom 112 = .ok (.iload_n 3, 1) := by decide +kernel
theorem dX8_stillFrom_113 : decode cX8_stillFrom 113 = .ok (.iconst 0, 1) := by decide +kernel
theorem dX8_stillFrom_114 : decode cX8_stillFrom 114 = .ok (.iload 4, 2) := by decide +kernel
theorem dX8_stillFrom_116 : decode cX8_stillFrom 116 = .ok (.iconst 0, 1) := by decide +kernel
theorem dX8_stillFrom_117 : decode cX8_stillFrom 117 = .ok (.aload_n 0, 1) := by decide +kernel
theorem dX8_stillFrom_118 : decode cX8_stillFrom 118 = .ok (.getfield 450, 3) := by decide +kernel
theorem dX8_stillFrom_121 : decode cX8_stillFrom 121 = .ok (.if_icmp .ge 7, 3) := by decide +kernel
theorem dX8_stillFrom_124 : decode cX8_stillFrom 124 = .ok (.iconst 1, 1) := by decide +kernel
theorem dX8_stillFrom_125 : decode cX8_stillFrom 125 = .ok (.goto 4, 3) := by decide +kernel
theorem dX8_stillFrom_128 : decode cX8_stillFrom 128 = .ok (.iconst 0, 1) := by decide +kernel
theorem dX8_stillFrom_129 : decode cX8_stillFrom 129 = .ok (.invokevirtual 465, 3) := by decide +kernel
theorem dX8_stillFrom_132 : decode cX8_stillFrom 132 = .ok (.istore 8, 2) := by decide +kernel
theorem dX8_stillFrom_134 : decode cX8_stillFrom 134 = .ok (.iload 8, 2) := by decide +kernel
theorem dX8_stillFrom_136 : decode cX8_stillFrom 136 = .ok (.iload 7, 2) := by decide +kernel
theorem dX8_stillFrom_138 : decode cX8_stillFrom 138 = .ok (.if_icmp .ne 19, 3) := by decide +kernel
theorem dX8_stillFrom_141 : decode cX8_stillFrom 141 = .ok (.ldc2_w 469, 3) := by decide +kernel
theorem dX8_stillFrom_144 : decode cX8_stillFrom 144 = .ok (.aload_n 0, 1) := by decide +kernel
theorem dX8_stillFrom_145 : decode cX8_stillFrom 145 = .ok (.aload_n 1, 1) := by decide +kernel
theorem dX8_stillFrom_146 : decode cX8_stillFrom 146 = .ok (.aload_n 2, 1) := by decide +kernel
theorem dX8_stillFrom_147 : decode cX8_stillFrom 147 = .ok (.iload_n 3, 1) := by decide +kernel
theorem dX8_stillFrom_148 : decode cX8_stillFrom 148 = .ok (.iconst 1, 1) := by decide +kernel
theorem dX8_stillFrom_149 : decode cX8_stillFrom 149 = .ok (.iadd, 1) := by decide +kernel
theorem dX8_stillFrom_150 : decode cX8_stillFrom 150 = .ok (.iload 7, 2) := by decide +kernel
theorem dX8_stillFrom_152 : decode cX8_stillFrom 152 = .ok (.invokestatic 454, 3) := by decide +kernel
theorem dX8_stillFrom_155 : decode cX8_stillFrom 155 = .ok (.lmul, 1) := by decide +kernel
theorem dX8_stillFrom_156 : decode cX8_stillFrom 156 = .ok (.lreturn, 1) := by decide +kernel
theorem dX8_stillFrom_157 : decode cX8_stillFrom 157 = .ok (.iload 5, 2) := by decide +kernel
theorem dX8_stillFrom_159 : decode cX8_stillFrom 159 = .ok (.ifCond .ne 7, 3) := by decide +kernel
theorem dX8_stillFrom_162 : decode cX8_stillFrom 162 = .ok (.lconst 0, 1) := by decide +kernel
theorem dX8_stillFrom_163 : decode cX8_stillFrom 163 = .ok (.goto 18, 3) := by decide +kernel
theorem dX8_stillFrom_166 : decode cX8_stillFrom 166 = .ok (.iload 5, 2) := by decide +kernel
theorem dX8_stillFrom_168 : decode cX8_stillFrom 168 = .ok (.i2l, 1) := by decide +kernel
theorem dX8_stillFrom_169 : decode cX8_stillFrom 169 = .ok (.aload_n 0, 1) := by decide +kernel
theorem dX8_stillFrom_170 : decode cX8_stillFrom 170 = .ok (.aload_n 1, 1) := by decide +kernel
theorem dX8_stillFrom_171 : decode cX8_stillFrom 171 = .ok (.aload_n 2, 1) := by decide +kernel
theorem dX8_stillFrom_172 : decode cX8_stillFrom 172 = .ok (.iload_n 3, 1) := by decide +kernel
theorem dX8_stillFrom_173 : decode cX8_stillFrom 173 = .ok (.iconst 1, 1) := by decide +kernel
theorem dX8_stillFrom_174 : decode cX8_stillFrom 174 = .ok (.iadd, 1) := by decide +kernel
theorem dX8_stillFrom_175 : decode cX8_stillFrom 175 = .ok (.iload 8, 2) := by decide +kernel
theorem dX8_stillFrom_177 : decode cX8_stillFrom 177 = .ok (.invokestatic 454, 3) := by decide +kernel
theorem dX8_stillFrom_180 : decode cX8_stillFrom 180 = .ok (.lmul, 1) := by decide +kernel
theorem dX8_stillFrom_181 : decode cX8_stillFrom 181 = .ok (.lstore 9, 2) := by decide +kernel
theorem dX8_stillFrom_183 : decode cX8_stillFrom 183 = .ok (.iload 5, 2) := by decide +kernel
theorem dX8_stillFrom_185 : decode cX8_stillFrom 185 = .ok (.bipush 16, 2) := by decide +kernel
theorem dX8_stillFrom_187 : decode cX8_stillFrom 187 = .ok (.if_icmp .ne 7, 3) := by decide +kernel
theorem dX8_stillFrom_190 : decode cX8_stillFrom 190 = .ok (.lconst 0, 1) := by decide +kernel
theorem dX8_stillFrom_191 : decode cX8_stillFrom 191 = .ok (.goto 21, 3) := by decide +kernel
theorem dX8_stillFrom_194 : decode cX8_stillFrom 194 = .ok (.bipush 16, 2) := by decide +kernel
theorem dX8_stillFrom_196 : decode cX8_stillFrom 196 = .ok (.iload 5, 2) := by decide +kernel
theorem dX8_stillFrom_198 : decode cX8_stillFrom 198 = .ok (.isub, 1) := by decide +kernel
theorem dX8_stillFrom_199 : decode cX8_stillFrom 199 = .ok (.i2l, 1) := by decide +kernel
theorem dX8_stillFrom_200 : decode cX8_stillFrom 200 = .ok (.aload_n 0, 1) := by decide +kernel
theorem dX8_stillFrom_201 : decode cX8_stillFrom 201 = .ok (.aload_n 1, 1) := by decide +kernel
theorem dX8_stillFrom_202 : decode cX8_stillFrom 202 = .ok (.aload_n 2, 1) := by decide +kernel
theorem dX8_stillFrom_203 : decode cX8_stillFrom 203 = .ok (.iload_n 3, 1) := by decide +kernel
theorem dX8_stillFrom_204 : decode cX8_stillFrom 204 = .ok (.iconst 1, 1) := by decide +kernel
theorem dX8_stillFrom_205 : decode cX8_stillFrom 205 = .ok (.iadd, 1) := by decide +kernel
theorem dX8_stillFrom_206 : decode cX8_stillFrom 206 = .ok (.iload 7, 2) := by decide +kernel
theorem dX8_stillFrom_208 : decode cX8_stillFrom 208 = .ok (.invokestatic 454, 3) := by decide +kernel
theorem dX8_stillFrom_211 : decode cX8_stillFrom 211 = .ok (.lmul, 1) := by decide +kernel
theorem dX8_stillFrom_212 : decode cX8_stillFrom 212 = .ok (.lstore 11, 2) := by decide +kernel
theorem dX8_stillFrom_214 : decode cX8_stillFrom 214 = .ok (.lload 9, 2) := by decide +kernel
theorem dX8_stillFrom_216 : decode cX8_stillFrom 216 = .ok (.lload 11, 2) := by decide +kernel
theorem dX8_stillFrom_218 : decode cX8_stillFrom 218 = .ok (.ladd, 1) := by decide +kernel
theorem dX8_stillFrom_219 : decode cX8_stillFrom 219 = .ok (.lreturn, 1) := by decide +kernel
