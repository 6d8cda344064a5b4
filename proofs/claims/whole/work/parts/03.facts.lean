theorem ci_m1 : Int32.ofInt (-1) = (-1 : Int32) := by decide
theorem ci_0 : Int32.ofInt (0) = (0 : Int32) := by decide
theorem ci_1 : Int32.ofInt (1) = (1 : Int32) := by decide
theorem ci_2 : Int32.ofInt (2) = (2 : Int32) := by decide
theorem ci_3 : Int32.ofInt (3) = (3 : Int32) := by decide
theorem ci_4 : Int32.ofInt (4) = (4 : Int32) := by decide
theorem ci_5 : Int32.ofInt (5) = (5 : Int32) := by decide
theorem cb_m10 : (Int8.ofInt (-10)).toInt32 = (-10 : Int32) := by decide
theorem cb_m4 : (Int8.ofInt (-4)).toInt32 = (-4 : Int32) := by decide
theorem cb_m3 : (Int8.ofInt (-3)).toInt32 = (-3 : Int32) := by decide
theorem cb_m2 : (Int8.ofInt (-2)).toInt32 = (-2 : Int32) := by decide
theorem cb_6 : (Int8.ofInt (6)).toInt32 = (6 : Int32) := by decide
theorem cb_7 : (Int8.ofInt (7)).toInt32 = (7 : Int32) := by decide
theorem cb_8 : (Int8.ofInt (8)).toInt32 = (8 : Int32) := by decide
theorem cb_9 : (Int8.ofInt (9)).toInt32 = (9 : Int32) := by decide
theorem cb_10 : (Int8.ofInt (10)).toInt32 = (10 : Int32) := by decide
theorem cb_15 : (Int8.ofInt (15)).toInt32 = (15 : Int32) := by decide
theorem cb_16 : (Int8.ofInt (16)).toInt32 = (16 : Int32) := by decide
theorem cb_19 : (Int8.ofInt (19)).toInt32 = (19 : Int32) := by decide
theorem cb_20 : (Int8.ofInt (20)).toInt32 = (20 : Int32) := by decide
theorem cb_35 : (Int8.ofInt (35)).toInt32 = (35 : Int32) := by decide
theorem cb_36 : (Int8.ofInt (36)).toInt32 = (36 : Int32) := by decide
theorem cb_48 : (Int8.ofInt (48)).toInt32 = (48 : Int32) := by decide
theorem cb_49 : (Int8.ofInt (49)).toInt32 = (49 : Int32) := by decide
theorem cb_53 : (Int8.ofInt (53)).toInt32 = (53 : Int32) := by decide
theorem cb_55 : (Int8.ofInt (55)).toInt32 = (55 : Int32) := by decide
theorem cb_57 : (Int8.ofInt (57)).toInt32 = (57 : Int32) := by decide
theorem cb_59 : (Int8.ofInt (59)).toInt32 = (59 : Int32) := by decide
theorem cb_60 : (Int8.ofInt (60)).toInt32 = (60 : Int32) := by decide
theorem cb_63 : (Int8.ofInt (63)).toInt32 = (63 : Int32) := by decide
theorem cb_64 : (Int8.ofInt (64)).toInt32 = (64 : Int32) := by decide
theorem cb_97 : (Int8.ofInt (97)).toInt32 = (97 : Int32) := by decide
theorem cb_102 : (Int8.ofInt (102)).toInt32 = (102 : Int32) := by decide
theorem cs_255 : (Int16.ofInt (255)).toInt32 = (255 : Int32) := by decide
theorem cs_12345 : (Int16.ofInt (12345)).toInt32 = (12345 : Int32) := by decide
theorem ii_1 (u : Int32) : u + Int32.ofInt (1) = u + (1 : Int32) := by rw [show Int32.ofInt (1) = (1 : Int32) from by decide]
theorem ii_2 (u : Int32) : u + Int32.ofInt (2) = u + (2 : Int32) := by rw [show Int32.ofInt (2) = (2 : Int32) from by decide]
theorem ii_6 (u : Int32) : u + Int32.ofInt (6) = u + (6 : Int32) := by rw [show Int32.ofInt (6) = (6 : Int32) from by decide]
theorem ii_7 (u : Int32) : u + Int32.ofInt (7) = u + (7 : Int32) := by rw [show Int32.ofInt (7) = (7 : Int32) from by decide]
theorem conJ6_265 : Cond.constant RJ6 265 (1431655765 : Int32) ∈ tbG := tb_in (List.mem_of_getElem? (i := 551) (by decide +kernel)) rfl
theorem conJ6_266 : Cond.constant RJ6 266 (858993459 : Int32) ∈ tbG := tb_in (List.mem_of_getElem? (i := 552) (by decide +kernel)) rfl
theorem conJ6_267 : Cond.constant RJ6 267 (252645135 : Int32) ∈ tbG := tb_in (List.mem_of_getElem? (i := 553) (by decide +kernel)) rfl
theorem conX4_17 : Cond.constant RX4 17 (2147483647 : Int32) ∈ tbG := tb_in (List.mem_of_getElem? (i := 222) (by decide +kernel)) rfl
theorem conX8_299 : Cond.constant RX8 299 (1103515245 : Int32) ∈ tbG := tb_in (List.mem_of_getElem? (i := 722) (by decide +kernel)) rfl
theorem conX8_318 : Cond.constant RX8 318 (-2147483648 : Int32) ∈ tbG := tb_in (List.mem_of_getElem? (i := 758) (by decide +kernel)) rfl
theorem conX9_278 : Cond.constant RX9 278 (1103515245 : Int32) ∈ tbG := tb_in (List.mem_of_getElem? (i := 1234) (by decide +kernel)) rfl
theorem conX9_292 : Cond.constant RX9 292 (-2147483648 : Int32) ∈ tbG := tb_in (List.mem_of_getElem? (i := 1259) (by decide +kernel)) rfl
theorem conX8_286 : Cond.constantLong RX8 286 (-9223372036854775806 : Int64) ∈ tbG := tb_in (List.mem_of_getElem? (i := 698) (by decide +kernel)) rfl
theorem conX8_339 : Cond.constantLong RX8 339 (17 : Int64) ∈ tbG := tb_in (List.mem_of_getElem? (i := 780) (by decide +kernel)) rfl
theorem conX8_341 : Cond.constantLong RX8 341 (31 : Int64) ∈ tbG := tb_in (List.mem_of_getElem? (i := 781) (by decide +kernel)) rfl
theorem conX8_469 : Cond.constantLong RX8 469 (16 : Int64) ∈ tbG := tb_in (List.mem_of_getElem? (i := 713) (by decide +kernel)) rfl
theorem conX9_93 : Cond.constantLong RX9 93 (-9223372036854775808 : Int64) ∈ tbG := tb_in (List.mem_of_getElem? (i := 1225) (by decide +kernel)) rfl
theorem conX9_296 : Cond.constantLong RX9 296 (31 : Int64) ∈ tbG := tb_in (List.mem_of_getElem? (i := 1281) (by decide +kernel)) rfl
theorem conX9_298 : Cond.constantLong RX9 298 (17 : Int64) ∈ tbG := tb_in (List.mem_of_getElem? (i := 1280) (by decide +kernel)) rfl
theorem flX0_9 : FL RX0 9 0 0 := ⟨_, _, _, rfl, by decide, igX0, Or.inl (tb_in (List.mem_of_getElem? (i := 142) (by decide +kernel)) rfl)⟩
theorem flX0_15 : FL RX0 15 0 1 := ⟨_, _, _, rfl, by decide, igX0, Or.inl (tb_in (List.mem_of_getElem? (i := 144) (by decide +kernel)) rfl)⟩
theorem flX0_19 : FL RX0 19 0 2 := ⟨_, _, _, rfl, by decide, igX0, Or.inl (tb_in (List.mem_of_getElem? (i := 146) (by decide +kernel)) rfl)⟩
theorem flX0_22 : FL RX0 22 0 3 := ⟨_, _, _, rfl, by decide, igX0, Or.inl (tb_in (List.mem_of_getElem? (i := 148) (by decide +kernel)) rfl)⟩
theorem flX0_25 : FL RX0 25 0 4 := ⟨_, _, _, rfl, by decide, igX0, Or.inl (tb_in (List.mem_of_getElem? (i := 150) (by decide +kernel)) rfl)⟩
theorem flX0_28 : FL RX0 28 0 5 := ⟨_, _, _, rfl, by decide, igX0, Or.inl (tb_in (List.mem_of_getElem? (i := 152) (by decide +kernel)) rfl)⟩
theorem flX0_31 : FL RX0 31 0 6 := ⟨_, _, _, rfl, by decide, igX0, Or.inl (tb_in (List.mem_of_getElem? (i := 153) (by decide +kernel)) rfl)⟩
theorem flX0_34 : FL RX0 34 0 7 := ⟨_, _, _, rfl, by decide, igX0, Or.inl (tb_in (List.mem_of_getElem? (i := 155) (by decide +kernel)) rfl)⟩
theorem flX0_37 : FL RX0 37 0 8 := ⟨_, _, _, rfl, by decide, igX0, Or.inl (tb_in (List.mem_of_getElem? (i := 157) (by decide +kernel)) rfl)⟩
theorem flX1_9 : FL RX1 9 1 0 := ⟨_, _, _, rfl, by decide, igX1, Or.inl (tb_in (List.mem_of_getElem? (i := 115) (by decide +kernel)) rfl)⟩
theorem flX1_15 : FL RX1 15 1 1 := ⟨_, _, _, rfl, by decide, igX1, Or.inl (tb_in (List.mem_of_getElem? (i := 116) (by decide +kernel)) rfl)⟩
theorem flX1_18 : FL RX1 18 1 2 := ⟨_, _, _, rfl, by decide, igX1, Or.inl (tb_in (List.mem_of_getElem? (i := 117) (by decide +kernel)) rfl)⟩
theorem flX1_21 : FL RX1 21 1 3 := ⟨_, _, _, rfl, by decide, igX1, Or.inl (tb_in (List.mem_of_getElem? (i := 118) (by decide +kernel)) rfl)⟩
theorem flX1_24 : FL RX1 24 1 4 := ⟨_, _, _, rfl, by decide, igX1, Or.inl (tb_in (List.mem_of_getElem? (i := 119) (by decide +kernel)) rfl)⟩
theorem flX1_28 : FL RX1 28 1 5 := ⟨_, _, _, rfl, by decide, igX1, Or.inl (tb_in (List.mem_of_getElem? (i := 121) (by decide +kernel)) rfl)⟩
theorem flX2_22 : FL RX2 22 2 4 := ⟨_, _, _, rfl, by decide, igX2, Or.inl (tb_in (List.mem_of_getElem? (i := 246) (by decide +kernel)) rfl)⟩
theorem flX2_26 : FL RX2 26 2 5 := ⟨_, _, _, rfl, by decide, igX2, Or.inl (tb_in (List.mem_of_getElem? (i := 248) (by decide +kernel)) rfl)⟩
theorem flX3_9 : FL RX3 9 3 0 := ⟨_, _, _, rfl, by decide, igX3, Or.inl (tb_in (List.mem_of_getElem? (i := 184) (by decide +kernel)) rfl)⟩
theorem flX3_15 : FL RX3 15 3 1 := ⟨_, _, _, rfl, by decide, igX3, Or.inl (tb_in (List.mem_of_getElem? (i := 186) (by decide +kernel)) rfl)⟩
theorem flX4_9 : FL RX4 9 4 0 := ⟨_, _, _, rfl, by decide, igX4, Or.inl (tb_in (List.mem_of_getElem? (i := 223) (by decide +kernel)) rfl)⟩
theorem flX4_18 : FL RX4 18 4 1 := ⟨_, _, _, rfl, by decide, igX4, Or.inl (tb_in (List.mem_of_getElem? (i := 225) (by decide +kernel)) rfl)⟩
theorem flX5_9 : FL RX5 9 5 0 := ⟨_, _, _, rfl, by decide, igX5, Or.inl (tb_in (List.mem_of_getElem? (i := 270) (by decide +kernel)) rfl)⟩
theorem flX5_15 : FL RX5 15 5 1 := ⟨_, _, _, rfl, by decide, igX5, Or.inl (tb_in (List.mem_of_getElem? (i := 272) (by decide +kernel)) rfl)⟩
theorem flX5_19 : FL RX5 19 5 2 := ⟨_, _, _, rfl, by decide, igX5, Or.inl (tb_in (List.mem_of_getElem? (i := 274) (by decide +kernel)) rfl)⟩
theorem flX5_23 : FL RX5 23 5 3 := ⟨_, _, _, rfl, by decide, igX5, Or.inl (tb_in (List.mem_of_getElem? (i := 276) (by decide +kernel)) rfl)⟩
theorem flX6_9 : FL RX6 9 6 0 := ⟨_, _, _, rfl, by decide, igX6, Or.inl (tb_in (List.mem_of_getElem? (i := 199) (by decide +kernel)) rfl)⟩
theorem flX6_15 : FL RX6 15 6 1 := ⟨_, _, _, rfl, by decide, igX6, Or.inl (tb_in (List.mem_of_getElem? (i := 201) (by decide +kernel)) rfl)⟩
theorem flX6_18 : FL RX6 18 6 2 := ⟨_, _, _, rfl, by decide, igX6, Or.inl (tb_in (List.mem_of_getElem? (i := 203) (by decide +kernel)) rfl)⟩
theorem flX6_21 : FL RX6 21 6 3 := ⟨_, _, _, rfl, by decide, igX6, Or.inl (tb_in (List.mem_of_getElem? (i := 205) (by decide +kernel)) rfl)⟩
theorem flX7_9 : FL RX7 9 7 1 := ⟨_, _, _, rfl, by decide, igX7, Or.inl (tb_in (List.mem_of_getElem? (i := 101) (by decide +kernel)) rfl)⟩
theorem flX7_21 : FL RX7 21 7 0 := ⟨_, _, _, rfl, by decide, igX7, Or.inl (tb_in (List.mem_of_getElem? (i := 100) (by decide +kernel)) rfl)⟩
theorem flX8_14 : FL RX8 14 8 0 := ⟨_, _, _, rfl, by decide, igX8, Or.inl (tb_in (List.mem_of_getElem? (i := 287) (by decide +kernel)) rfl)⟩
theorem flX8_18 : FL RX8 18 8 1 := ⟨_, _, _, rfl, by decide, igX8, Or.inl (tb_in (List.mem_of_getElem? (i := 288) (by decide +kernel)) rfl)⟩
theorem flX8_21 : FL RX8 21 8 2 := ⟨_, _, _, rfl, by decide, igX8, Or.inl (tb_in (List.mem_of_getElem? (i := 289) (by decide +kernel)) rfl)⟩
theorem flX8_25 : FL RX8 25 8 3 := ⟨_, _, _, rfl, by decide, igX8, Or.inl (tb_in (List.mem_of_getElem? (i := 290) (by decide +kernel)) rfl)⟩
theorem flX8_31 : FL RX8 31 8 4 := ⟨_, _, _, rfl, by decide, igX8, Or.inl (tb_in (List.mem_of_getElem? (i := 291) (by decide +kernel)) rfl)⟩
theorem flX8_38 : FL RX8 38 8 5 := ⟨_, _, _, rfl, by decide, igX8, Or.inl (tb_in (List.mem_of_getElem? (i := 292) (by decide +kernel)) rfl)⟩
theorem flX8_45 : FL RX8 45 8 6 := ⟨_, _, _, rfl, by decide, igX8, Or.inl (tb_in (List.mem_of_getElem? (i := 293) (by decide +kernel)) rfl)⟩
theorem flX8_49 : FL RX8 49 8 7 := ⟨_, _, _, rfl, by decide, igX8, Or.inl (tb_in (List.mem_of_getElem? (i := 294) (by decide +kernel)) rfl)⟩
theorem flX8_52 : FL RX8 52 8 8 := ⟨_, _, _, rfl, by decide, igX8, Or.inl (tb_in (List.mem_of_getElem? (i := 295) (by decide +kernel)) rfl)⟩
theorem flX8_58 : FL RX8 58 8 9 := ⟨_, _, _, rfl, by decide, igX8, Or.inl (tb_in (List.mem_of_getElem? (i := 296) (by decide +kernel)) rfl)⟩
theorem flX8_65 : FL RX8 65 8 10 := ⟨_, _, _, rfl, by decide, igX8, Or.inl (tb_in (List.mem_of_getElem? (i := 297) (by decide +kernel)) rfl)⟩
theorem flX8_72 : FL RX8 72 8 11 := ⟨_, _, _, rfl, by decide, igX8, Or.inl (tb_in (List.mem_of_getElem? (i := 298) (by decide +kernel)) rfl)⟩
theorem flX8_78 : FL RX8 78 8 12 := ⟨_, _, _, rfl, by decide, igX8, Or.inl (tb_in (List.mem_of_getElem? (i := 299) (by decide +kernel)) rfl)⟩
theorem flX8_82 : FL RX8 82 8 13 := ⟨_, _, _, rfl, by decide, igX8, Or.inl (tb_in (List.mem_of_getElem? (i := 300) (by decide +kernel)) rfl)⟩
theorem flX8_85 : FL RX8 85 8 14 := ⟨_, _, _, rfl, by decide, igX8, Or.inl (tb_in (List.mem_of_getElem? (i := 301) (by decide +kernel)) rfl)⟩
theorem flX8_89 : FL RX8 89 8 15 := ⟨_, _, _, rfl, by decide, igX8, Or.inl (tb_in (List.mem_of_getElem? (i := 302) (by decide +kernel)) rfl)⟩
theorem flX8_92 : FL RX8 92 8 16 := ⟨_, _, _, rfl, by decide, igX8, Or.inl (tb_in (List.mem_of_getElem? (i := 303) (by decide +kernel)) rfl)⟩
theorem flX8_95 : FL RX8 95 8 17 := ⟨_, _, _, rfl, by decide, igX8, Or.inl (tb_in (List.mem_of_getElem? (i := 304) (by decide +kernel)) rfl)⟩
theorem flX8_111 : FL RX8 111 7 1 := ⟨_, _, _, rfl, by decide, igX7, Or.inr ⟨"BoardRemembers", ns_in (List.mem_of_getElem? (i := 102) (by decide +kernel)) rfl⟩⟩
theorem flX8_130 : FL RX8 130 0 1 := ⟨_, _, _, rfl, by decide, igX0, Or.inr ⟨"BoardRemembers", ns_in (List.mem_of_getElem? (i := 145) (by decide +kernel)) rfl⟩⟩
theorem flX8_133 : FL RX8 133 0 2 := ⟨_, _, _, rfl, by decide, igX0, Or.inr ⟨"BoardRemembers", ns_in (List.mem_of_getElem? (i := 147) (by decide +kernel)) rfl⟩⟩
theorem flX8_136 : FL RX8 136 0 3 := ⟨_, _, _, rfl, by decide, igX0, Or.inr ⟨"BoardRemembers", ns_in (List.mem_of_getElem? (i := 149) (by decide +kernel)) rfl⟩⟩
theorem flX8_139 : FL RX8 139 0 4 := ⟨_, _, _, rfl, by decide, igX0, Or.inr ⟨"BoardRemembers", ns_in (List.mem_of_getElem? (i := 151) (by decide +kernel)) rfl⟩⟩
theorem flX8_149 : FL RX8 149 1 4 := ⟨_, _, _, rfl, by decide, igX1, Or.inr ⟨"BoardRemembers", ns_in (List.mem_of_getElem? (i := 120) (by decide +kernel)) rfl⟩⟩
theorem flX8_155 : FL RX8 155 1 5 := ⟨_, _, _, rfl, by decide, igX1, Or.inr ⟨"BoardRemembers", ns_in (List.mem_of_getElem? (i := 122) (by decide +kernel)) rfl⟩⟩
theorem flX8_164 : FL RX8 164 5 1 := ⟨_, _, _, rfl, by decide, igX5, Or.inr ⟨"BoardRemembers", ns_in (List.mem_of_getElem? (i := 273) (by decide +kernel)) rfl⟩⟩
theorem flX8_171 : FL RX8 171 5 3 := ⟨_, _, _, rfl, by decide, igX5, Or.inr ⟨"BoardRemembers", ns_in (List.mem_of_getElem? (i := 277) (by decide +kernel)) rfl⟩⟩
theorem flX8_172 : FL RX8 172 5 0 := ⟨_, _, _, rfl, by decide, igX5, Or.inr ⟨"BoardRemembers", ns_in (List.mem_of_getElem? (i := 271) (by decide +kernel)) rfl⟩⟩
theorem flX8_182 : FL RX8 182 3 0 := ⟨_, _, _, rfl, by decide, igX3, Or.inr ⟨"BoardRemembers", ns_in (List.mem_of_getElem? (i := 185) (by decide +kernel)) rfl⟩⟩
theorem flX8_189 : FL RX8 189 0 7 := ⟨_, _, _, rfl, by decide, igX0, Or.inr ⟨"BoardRemembers", ns_in (List.mem_of_getElem? (i := 156) (by decide +kernel)) rfl⟩⟩
theorem flX8_195 : FL RX8 195 3 1 := ⟨_, _, _, rfl, by decide, igX3, Or.inr ⟨"BoardRemembers", ns_in (List.mem_of_getElem? (i := 187) (by decide +kernel)) rfl⟩⟩
theorem flX8_201 : FL RX8 201 0 6 := ⟨_, _, _, rfl, by decide, igX0, Or.inr ⟨"BoardRemembers", ns_in (List.mem_of_getElem? (i := 154) (by decide +kernel)) rfl⟩⟩
theorem flX8_221 : FL RX8 221 0 0 := ⟨_, _, _, rfl, by decide, igX0, Or.inr ⟨"BoardRemembers", ns_in (List.mem_of_getElem? (i := 143) (by decide +kernel)) rfl⟩⟩
theorem flX8_242 : FL RX8 242 6 3 := ⟨_, _, _, rfl, by decide, igX6, Or.inr ⟨"BoardRemembers", ns_in (List.mem_of_getElem? (i := 206) (by decide +kernel)) rfl⟩⟩
theorem flX8_281 : FL RX8 281 4 0 := ⟨_, _, _, rfl, by decide, igX4, Or.inr ⟨"BoardRemembers", ns_in (List.mem_of_getElem? (i := 224) (by decide +kernel)) rfl⟩⟩
theorem flX8_292 : FL RX8 292 2 4 := ⟨_, _, _, rfl, by decide, igX2, Or.inr ⟨"BoardRemembers", ns_in (List.mem_of_getElem? (i := 247) (by decide +kernel)) rfl⟩⟩
theorem flX8_296 : FL RX8 296 2 5 := ⟨_, _, _, rfl, by decide, igX2, Or.inr ⟨"BoardRemembers", ns_in (List.mem_of_getElem? (i := 249) (by decide +kernel)) rfl⟩⟩
theorem flX8_319 : FL RX8 319 5 2 := ⟨_, _, _, rfl, by decide, igX5, Or.inr ⟨"BoardRemembers", ns_in (List.mem_of_getElem? (i := 275) (by decide +kernel)) rfl⟩⟩
theorem flX8_399 : FL RX8 399 4 1 := ⟨_, _, _, rfl, by decide, igX4, Or.inr ⟨"BoardRemembers", ns_in (List.mem_of_getElem? (i := 226) (by decide +kernel)) rfl⟩⟩
theorem flX8_426 : FL RX8 426 6 0 := ⟨_, _, _, rfl, by decide, igX6, Or.inr ⟨"BoardRemembers", ns_in (List.mem_of_getElem? (i := 200) (by decide +kernel)) rfl⟩⟩
theorem flX8_427 : FL RX8 427 6 1 := ⟨_, _, _, rfl, by decide, igX6, Or.inr ⟨"BoardRemembers", ns_in (List.mem_of_getElem? (i := 202) (by decide +kernel)) rfl⟩⟩
theorem flX8_431 : FL RX8 431 6 2 := ⟨_, _, _, rfl, by decide, igX6, Or.inr ⟨"BoardRemembers", ns_in (List.mem_of_getElem? (i := 204) (by decide +kernel)) rfl⟩⟩
theorem flX8_435 : FL RX8 435 0 8 := ⟨_, _, _, rfl, by decide, igX0, Or.inr ⟨"BoardRemembers", ns_in (List.mem_of_getElem? (i := 158) (by decide +kernel)) rfl⟩⟩
theorem flX8_441 : FL RX8 441 2 0 := ⟨_, _, _, rfl, by decide, igX2, Or.inr ⟨"BoardRemembers", ns_in (List.mem_of_getElem? (i := 239) (by decide +kernel)) rfl⟩⟩
theorem flX8_444 : FL RX8 444 2 1 := ⟨_, _, _, rfl, by decide, igX2, Or.inr ⟨"BoardRemembers", ns_in (List.mem_of_getElem? (i := 241) (by decide +kernel)) rfl⟩⟩
theorem flX8_447 : FL RX8 447 2 2 := ⟨_, _, _, rfl, by decide, igX2, Or.inr ⟨"BoardRemembers", ns_in (List.mem_of_getElem? (i := 243) (by decide +kernel)) rfl⟩⟩
theorem flX8_450 : FL RX8 450 2 3 := ⟨_, _, _, rfl, by decide, igX2, Or.inr ⟨"BoardRemembers", ns_in (List.mem_of_getElem? (i := 245) (by decide +kernel)) rfl⟩⟩
theorem flX9_7 : FL RX9 7 9 0 := ⟨_, _, _, rfl, by decide, igX9, Or.inl (tb_in (List.mem_of_getElem? (i := 815) (by decide +kernel)) rfl)⟩
theorem flX9_13 : FL RX9 13 9 1 := ⟨_, _, _, rfl, by decide, igX9, Or.inl (tb_in (List.mem_of_getElem? (i := 816) (by decide +kernel)) rfl)⟩
theorem flX9_16 : FL RX9 16 9 3 := ⟨_, _, _, rfl, by decide, igX9, Or.inl (tb_in (List.mem_of_getElem? (i := 818) (by decide +kernel)) rfl)⟩
theorem flX9_19 : FL RX9 19 9 5 := ⟨_, _, _, rfl, by decide, igX9, Or.inl (tb_in (List.mem_of_getElem? (i := 820) (by decide +kernel)) rfl)⟩
theorem flX9_22 : FL RX9 22 9 6 := ⟨_, _, _, rfl, by decide, igX9, Or.inl (tb_in (List.mem_of_getElem? (i := 821) (by decide +kernel)) rfl)⟩
theorem flX9_25 : FL RX9 25 9 7 := ⟨_, _, _, rfl, by decide, igX9, Or.inl (tb_in (List.mem_of_getElem? (i := 822) (by decide +kernel)) rfl)⟩
theorem flX9_28 : FL RX9 28 9 8 := ⟨_, _, _, rfl, by decide, igX9, Or.inl (tb_in (List.mem_of_getElem? (i := 823) (by decide +kernel)) rfl)⟩
theorem flX9_31 : FL RX9 31 9 11 := ⟨_, _, _, rfl, by decide, igX9, Or.inl (tb_in (List.mem_of_getElem? (i := 826) (by decide +kernel)) rfl)⟩
theorem flX9_34 : FL RX9 34 9 12 := ⟨_, _, _, rfl, by decide, igX9, Or.inl (tb_in (List.mem_of_getElem? (i := 827) (by decide +kernel)) rfl)⟩
theorem flX9_37 : FL RX9 37 9 14 := ⟨_, _, _, rfl, by decide, igX9, Or.inl (tb_in (List.mem_of_getElem? (i := 829) (by decide +kernel)) rfl)⟩
theorem flX9_40 : FL RX9 40 9 15 := ⟨_, _, _, rfl, by decide, igX9, Or.inl (tb_in (List.mem_of_getElem? (i := 830) (by decide +kernel)) rfl)⟩
theorem flX9_43 : FL RX9 43 9 16 := ⟨_, _, _, rfl, by decide, igX9, Or.inl (tb_in (List.mem_of_getElem? (i := 831) (by decide +kernel)) rfl)⟩
theorem flX9_46 : FL RX9 46 9 19 := ⟨_, _, _, rfl, by decide, igX9, Or.inl (tb_in (List.mem_of_getElem? (i := 834) (by decide +kernel)) rfl)⟩
theorem flX9_49 : FL RX9 49 9 20 := ⟨_, _, _, rfl, by decide, igX9, Or.inl (tb_in (List.mem_of_getElem? (i := 835) (by decide +kernel)) rfl)⟩
theorem flX9_52 : FL RX9 52 9 22 := ⟨_, _, _, rfl, by decide, igX9, Or.inl (tb_in (List.mem_of_getElem? (i := 837) (by decide +kernel)) rfl)⟩
theorem flX9_55 : FL RX9 55 9 23 := ⟨_, _, _, rfl, by decide, igX9, Or.inl (tb_in (List.mem_of_getElem? (i := 838) (by decide +kernel)) rfl)⟩
theorem flX9_58 : FL RX9 58 9 24 := ⟨_, _, _, rfl, by decide, igX9, Or.inl (tb_in (List.mem_of_getElem? (i := 839) (by decide +kernel)) rfl)⟩
theorem flX9_61 : FL RX9 61 9 26 := ⟨_, _, _, rfl, by decide, igX9, Or.inl (tb_in (List.mem_of_getElem? (i := 841) (by decide +kernel)) rfl)⟩
theorem flX9_64 : FL RX9 64 9 27 := ⟨_, _, _, rfl, by decide, igX9, Or.inl (tb_in (List.mem_of_getElem? (i := 842) (by decide +kernel)) rfl)⟩
theorem flX9_67 : FL RX9 67 9 28 := ⟨_, _, _, rfl, by decide, igX9, Or.inl (tb_in (List.mem_of_getElem? (i := 843) (by decide +kernel)) rfl)⟩
theorem flX9_70 : FL RX9 70 9 29 := ⟨_, _, _, rfl, by decide, igX9, Or.inl (tb_in (List.mem_of_getElem? (i := 844) (by decide +kernel)) rfl)⟩
theorem flX9_73 : FL RX9 73 9 30 := ⟨_, _, _, rfl, by decide, igX9, Or.inl (tb_in (List.mem_of_getElem? (i := 845) (by decide +kernel)) rfl)⟩
theorem flX9_77 : FL RX9 77 9 31 := ⟨_, _, _, rfl, by decide, igX9, Or.inl (tb_in (List.mem_of_getElem? (i := 846) (by decide +kernel)) rfl)⟩
theorem flX9_80 : FL RX9 80 9 32 := ⟨_, _, _, rfl, by decide, igX9, Or.inl (tb_in (List.mem_of_getElem? (i := 847) (by decide +kernel)) rfl)⟩
theorem flX9_83 : FL RX9 83 9 33 := ⟨_, _, _, rfl, by decide, igX9, Or.inl (tb_in (List.mem_of_getElem? (i := 848) (by decide +kernel)) rfl)⟩
theorem flX9_86 : FL RX9 86 9 34 := ⟨_, _, _, rfl, by decide, igX9, Or.inl (tb_in (List.mem_of_getElem? (i := 849) (by decide +kernel)) rfl)⟩
theorem flX9_89 : FL RX9 89 9 9 := ⟨_, _, _, rfl, by decide, igX9, Or.inl (tb_in (List.mem_of_getElem? (i := 824) (by decide +kernel)) rfl)⟩
theorem flX9_103 : FL RX9 103 9 2 := ⟨_, _, _, rfl, by decide, igX9, Or.inl (tb_in (List.mem_of_getElem? (i := 817) (by decide +kernel)) rfl)⟩
theorem flX9_114 : FL RX9 114 9 4 := ⟨_, _, _, rfl, by decide, igX9, Or.inl (tb_in (List.mem_of_getElem? (i := 819) (by decide +kernel)) rfl)⟩
theorem flX9_146 : FL RX9 146 9 10 := ⟨_, _, _, rfl, by decide, igX9, Or.inl (tb_in (List.mem_of_getElem? (i := 825) (by decide +kernel)) rfl)⟩
theorem flX9_149 : FL RX9 149 9 13 := ⟨_, _, _, rfl, by decide, igX9, Or.inl (tb_in (List.mem_of_getElem? (i := 828) (by decide +kernel)) rfl)⟩
theorem flX9_161 : FL RX9 161 9 17 := ⟨_, _, _, rfl, by decide, igX9, Or.inl (tb_in (List.mem_of_getElem? (i := 832) (by decide +kernel)) rfl)⟩
theorem flX9_164 : FL RX9 164 9 18 := ⟨_, _, _, rfl, by decide, igX9, Or.inl (tb_in (List.mem_of_getElem? (i := 833) (by decide +kernel)) rfl)⟩
theorem flX9_174 : FL RX9 174 9 21 := ⟨_, _, _, rfl, by decide, igX9, Or.inl (tb_in (List.mem_of_getElem? (i := 836) (by decide +kernel)) rfl)⟩
theorem flX9_247 : FL RX9 247 9 25 := ⟨_, _, _, rfl, by decide, igX9, Or.inl (tb_in (List.mem_of_getElem? (i := 840) (by decide +kernel)) rfl)⟩
theorem flX9_282 : FL RX9 282 9 35 := ⟨_, _, _, rfl, by decide, igX9, Or.inl (tb_in (List.mem_of_getElem? (i := 850) (by decide +kernel)) rfl)⟩
theorem fp_0_0 : FP 0 0 .int := ⟨_, _, _, tyX0, rfl, tyX0_ok, nmX0, rfl, by decide +kernel⟩
theorem fp_1_4 : FP 1 4 .int := ⟨_, _, _, tyX1, rfl, tyX1_ok, nmX1, rfl, by decide +kernel⟩
theorem fp_1_5 : FP 1 5 .int := ⟨_, _, _, tyX1, rfl, tyX1_ok, nmX1, rfl, by decide +kernel⟩
theorem fp_2_0 : FP 2 0 .int := ⟨_, _, _, tyX2, rfl, tyX2_ok, nmX2, rfl, by decide +kernel⟩
theorem fp_2_1 : FP 2 1 .int := ⟨_, _, _, tyX2, rfl, tyX2_ok, nmX2, rfl, by decide +kernel⟩
theorem fp_2_2 : FP 2 2 .int := ⟨_, _, _, tyX2, rfl, tyX2_ok, nmX2, rfl, by decide +kernel⟩
theorem fp_2_3 : FP 2 3 .int := ⟨_, _, _, tyX2, rfl, tyX2_ok, nmX2, rfl, by decide +kernel⟩
theorem fp_2_4 : FP 2 4 .long := ⟨_, _, _, tyX2, rfl, tyX2_ok, nmX2, rfl, by decide +kernel⟩
theorem fp_2_5 : FP 2 5 .long := ⟨_, _, _, tyX2, rfl, tyX2_ok, nmX2, rfl, by decide +kernel⟩
theorem fp_4_0 : FP 4 0 .int := ⟨_, _, _, tyX4, rfl, tyX4_ok, nmX4, rfl, by decide +kernel⟩
theorem fp_4_1 : FP 4 1 .int := ⟨_, _, _, tyX4, rfl, tyX4_ok, nmX4, rfl, by decide +kernel⟩
theorem fp_5_1 : FP 5 1 .boolean := ⟨_, _, _, tyX5, rfl, tyX5_ok, nmX5, rfl, by decide +kernel⟩
theorem fp_5_2 : FP 5 2 .int := ⟨_, _, _, tyX5, rfl, tyX5_ok, nmX5, rfl, by decide +kernel⟩
theorem fp_5_3 : FP 5 3 .int := ⟨_, _, _, tyX5, rfl, tyX5_ok, nmX5, rfl, by decide +kernel⟩
theorem fp_6_3 : FP 6 3 .int := ⟨_, _, _, tyX6, rfl, tyX6_ok, nmX6, rfl, by decide +kernel⟩
theorem fp_7_1 : FP 7 1 .int := ⟨_, _, _, tyX7, rfl, tyX7_ok, nmX7, rfl, by decide +kernel⟩
theorem fp_8_14 : FP 8 14 .int := ⟨_, _, _, tyX8, rfl, tyX8_ok, nmX8, rfl, by decide +kernel⟩
theorem fp_8_15 : FP 8 15 .int := ⟨_, _, _, tyX8, rfl, tyX8_ok, nmX8, rfl, by decide +kernel⟩
theorem fp_8_16 : FP 8 16 .int := ⟨_, _, _, tyX8, rfl, tyX8_ok, nmX8, rfl, by decide +kernel⟩
theorem fp_8_17 : FP 8 17 .boolean := ⟨_, _, _, tyX8, rfl, tyX8_ok, nmX8, rfl, by decide +kernel⟩
theorem fp_9_2 : FP 9 2 .int := ⟨_, _, _, tyX9, rfl, tyX9_ok, nmX9, rfl, by decide +kernel⟩
theorem fp_9_4 : FP 9 4 .int := ⟨_, _, _, tyX9, rfl, tyX9_ok, nmX9, rfl, by decide +kernel⟩
theorem fp_9_9 : FP 9 9 .int := ⟨_, _, _, tyX9, rfl, tyX9_ok, nmX9, rfl, by decide +kernel⟩
theorem fp_9_10 : FP 9 10 .int := ⟨_, _, _, tyX9, rfl, tyX9_ok, nmX9, rfl, by decide +kernel⟩
theorem fp_9_13 : FP 9 13 .int := ⟨_, _, _, tyX9, rfl, tyX9_ok, nmX9, rfl, by decide +kernel⟩
theorem fp_9_17 : FP 9 17 .int := ⟨_, _, _, tyX9, rfl, tyX9_ok, nmX9, rfl, by decide +kernel⟩
theorem fp_9_18 : FP 9 18 .int := ⟨_, _, _, tyX9, rfl, tyX9_ok, nmX9, rfl, by decide +kernel⟩
theorem fp_9_21 : FP 9 21 .int := ⟨_, _, _, tyX9, rfl, tyX9_ok, nmX9, rfl, by decide +kernel⟩
theorem fp_9_25 : FP 9 25 .int := ⟨_, _, _, tyX9, rfl, tyX9_ok, nmX9, rfl, by decide +kernel⟩
theorem fp_9_35 : FP 9 35 .int := ⟨_, _, _, tyX9, rfl, tyX9_ok, nmX9, rfl, by decide +kernel⟩
theorem mfJ6_bitCount_0f7a4 : MF yJ6_bitCount_0f7a4 cJ6_bitCount_0f7a4 1 (some .int) 1 := ⟨tb_in (List.mem_of_getElem? (i := 550) (by decide +kernel)) rfl, tb_in (List.mem_of_getElem? (i := 81) (by decide +kernel)) rfl, by decide +kernel, by decide⟩
theorem mfX0_deepestCell : MF yX0_deepestCell cX0_deepestCell 6 (some .int) 1 := ⟨tb_in (List.mem_of_getElem? (i := 584) (by decide +kernel)) rfl, tb_in (List.mem_of_getElem? (i := 74) (by decide +kernel)) rfl, by decide +kernel, by decide⟩
theorem mfX0_everyone : MF yX0_everyone cX0_everyone 3 (some .int) 0 := ⟨tb_in (List.mem_of_getElem? (i := 412) (by decide +kernel)) rfl, tb_in (List.mem_of_getElem? (i := 74) (by decide +kernel)) rfl, by decide +kernel, by decide⟩
theorem mfX0_freshStrengths : MF yX0_freshStrengths cX0_freshStrengths 3 (some .int) 0 := ⟨tb_in (List.mem_of_getElem? (i := 456) (by decide +kernel)) rfl, tb_in (List.mem_of_getElem? (i := 74) (by decide +kernel)) rfl, by decide +kernel, by decide⟩
theorem mfX0_goesIn : MF yX0_goesIn cX0_goesIn 6 (some .int) 2 := ⟨tb_in (List.mem_of_getElem? (i := 430) (by decide +kernel)) rfl, tb_in (List.mem_of_getElem? (i := 74) (by decide +kernel)) rfl, by decide +kernel, by decide⟩
theorem mfX0_linesOf : MF yX0_linesOf cX0_linesOf 4 (some .int) 1 := ⟨tb_in (List.mem_of_getElem? (i := 566) (by decide +kernel)) rfl, tb_in (List.mem_of_getElem? (i := 74) (by decide +kernel)) rfl, by decide +kernel, by decide⟩
theorem mfX0_onCell : MF yX0_onCell cX0_onCell 4 (some .int) 1 := ⟨tb_in (List.mem_of_getElem? (i := 426) (by decide +kernel)) rfl, tb_in (List.mem_of_getElem? (i := 74) (by decide +kernel)) rfl, by decide +kernel, by decide⟩
theorem mfX0_risenOn : MF yX0_risenOn cX0_risenOn 9 (some .int) 3 := ⟨tb_in (List.mem_of_getElem? (i := 460) (by decide +kernel)) rfl, tb_in (List.mem_of_getElem? (i := 74) (by decide +kernel)) rfl, by decide +kernel, by decide⟩
theorem mfX0_settle : MF yX0_settle cX0_settle 4 none 2 := ⟨tb_in (List.mem_of_getElem? (i := 419) (by decide +kernel)) rfl, tb_in (List.mem_of_getElem? (i := 74) (by decide +kernel)) rfl, by decide +kernel, by decide⟩
theorem mfX0_settleAble : MF yX0_settleAble cX0_settleAble 6 none 2 := ⟨tb_in (List.mem_of_getElem? (i := 448) (by decide +kernel)) rfl, tb_in (List.mem_of_getElem? (i := 74) (by decide +kernel)) rfl, by decide +kernel, by decide⟩
theorem mfX0_settleStroke : MF yX0_settleStroke cX0_settleStroke 5 none 2 := ⟨tb_in (List.mem_of_getElem? (i := 439) (by decide +kernel)) rfl, tb_in (List.mem_of_getElem? (i := 74) (by decide +kernel)) rfl, by decide +kernel, by decide⟩
theorem mfX0_shownOn : MF yX0_shownOn cX0_shownOn 5 (some .int) 3 := ⟨tb_in (List.mem_of_getElem? (i := 532) (by decide +kernel)) rfl, tb_in (List.mem_of_getElem? (i := 74) (by decide +kernel)) rfl, by decide +kernel, by decide⟩
theorem mfX0_signRisen : MF yX0_signRisen cX0_signRisen 4 (some .int) 2 := ⟨tb_in (List.mem_of_getElem? (i := 671) (by decide +kernel)) rfl, tb_in (List.mem_of_getElem? (i := 74) (by decide +kernel)) rfl, by decide +kernel, by decide⟩
theorem mfX0_strongest : MF yX0_strongest cX0_strongest 7 (some .int) 2 := ⟨tb_in (List.mem_of_getElem? (i := 464) (by decide +kernel)) rfl, tb_in (List.mem_of_getElem? (i := 74) (by decide +kernel)) rfl, by decide +kernel, by decide⟩
theorem mfX0_takeStrokes : MF yX0_takeStrokes cX0_takeStrokes 2 none 1 := ⟨tb_in (List.mem_of_getElem? (i := 602) (by decide +kernel)) rfl, tb_in (List.mem_of_getElem? (i := 74) (by decide +kernel)) rfl, by decide +kernel, by decide⟩
theorem mfX0_weathered : MF yX0_weathered cX0_weathered 8 (some .int) 4 := ⟨tb_in (List.mem_of_getElem? (i := 471) (by decide +kernel)) rfl, tb_in (List.mem_of_getElem? (i := 74) (by decide +kernel)) rfl, by decide +kernel, by decide⟩
theorem mfX0_withMates : MF yX0_withMates cX0_withMates 4 (some .int) 1 := ⟨tb_in (List.mem_of_getElem? (i := 706) (by decide +kernel)) rfl, tb_in (List.mem_of_getElem? (i := 74) (by decide +kernel)) rfl, by decide +kernel, by decide⟩
theorem mfX1_addOil : MF yX1_addOil cX1_addOil 3 (some .boolean) 2 := ⟨tb_in (List.mem_of_getElem? (i := 502) (by decide +kernel)) rfl, tb_in (List.mem_of_getElem? (i := 73) (by decide +kernel)) rfl, by decide +kernel, by decide⟩
theorem mfX1_addWipe : MF yX1_addWipe cX1_addWipe 3 (some .boolean) 2 := ⟨tb_in (List.mem_of_getElem? (i := 494) (by decide +kernel)) rfl, tb_in (List.mem_of_getElem? (i := 73) (by decide +kernel)) rfl, by decide +kernel, by decide⟩
theorem mfX1_oiledFrom : MF yX1_oiledFrom cX1_oiledFrom 4 (some .int) 1 := ⟨tb_in (List.mem_of_getElem? (i := 444) (by decide +kernel)) rfl, tb_in (List.mem_of_getElem? (i := 73) (by decide +kernel)) rfl, by decide +kernel, by decide⟩
theorem mfX1_wipedBehind : MF yX1_wipedBehind cX1_wipedBehind 5 (some .int) 2 := ⟨tb_in (List.mem_of_getElem? (i := 434) (by decide +kernel)) rfl, tb_in (List.mem_of_getElem? (i := 73) (by decide +kernel)) rfl, by decide +kernel, by decide⟩
theorem mfX2_reduce : MF yX2_reduce cX2_reduce 7 none 2 := ⟨tb_in (List.mem_of_getElem? (i := 717) (by decide +kernel)) rfl, tb_in (List.mem_of_getElem? (i := 78) (by decide +kernel)) rfl, by decide +kernel, by decide⟩
theorem mfX3_daysWithSome : MF yX3_daysWithSome cX3_daysWithSome 3 (some .int) 0 := ⟨tb_in (List.mem_of_getElem? (i := 726) (by decide +kernel)) rfl, tb_in (List.mem_of_getElem? (i := 75) (by decide +kernel)) rfl, by decide +kernel, by decide⟩
theorem mfX3_follow : MF yX3_follow cX3_follow 6 none 3 := ⟨tb_in (List.mem_of_getElem? (i := 452) (by decide +kernel)) rfl, tb_in (List.mem_of_getElem? (i := 75) (by decide +kernel)) rfl, by decide +kernel, by decide⟩
theorem mfX3_total : MF yX3_total cX3_total 1 (some .int) 0 := ⟨tb_in (List.mem_of_getElem? (i := 617) (by decide +kernel)) rfl, tb_in (List.mem_of_getElem? (i := 75) (by decide +kernel)) rfl, by decide +kernel, by decide⟩
theorem mfX3_upsOf : MF yX3_upsOf cX3_upsOf 4 (some .int) 1 := ⟨tb_in (List.mem_of_getElem? (i := 547) (by decide +kernel)) rfl, tb_in (List.mem_of_getElem? (i := 75) (by decide +kernel)) rfl, by decide +kernel, by decide⟩
theorem mfX4_begin : MF yX4_begin cX4_begin 1 none 0 := ⟨tb_in (List.mem_of_getElem? (i := 609) (by decide +kernel)) rfl, tb_in (List.mem_of_getElem? (i := 77) (by decide +kernel)) rfl, by decide +kernel, by decide⟩
theorem mfX4_offer : MF yX4_offer cX4_offer 3 none 2 := ⟨tb_in (List.mem_of_getElem? (i := 622) (by decide +kernel)) rfl, tb_in (List.mem_of_getElem? (i := 77) (by decide +kernel)) rfl, by decide +kernel, by decide⟩
theorem mfX4_tell : MF yX4_tell cX4_tell 2 (some .int) 1 := ⟨tb_in (List.mem_of_getElem? (i := 626) (by decide +kernel)) rfl, tb_in (List.mem_of_getElem? (i := 77) (by decide +kernel)) rfl, by decide +kernel, by decide⟩
theorem mfX5_findingAt : MF yX5_findingAt cX5_findingAt 3 (some .int) 2 := ⟨tb_in (List.mem_of_getElem? (i := 750) (by decide +kernel)) rfl, tb_in (List.mem_of_getElem? (i := 79) (by decide +kernel)) rfl, by decide +kernel, by decide⟩
theorem mfX5_holds : MF yX5_holds cX5_holds 3 (some .boolean) 2 := ⟨tb_in (List.mem_of_getElem? (i := 766) (by decide +kernel)) rfl, tb_in (List.mem_of_getElem? (i := 79) (by decide +kernel)) rfl, by decide +kernel, by decide⟩
theorem mfX5_renew : MF yX5_renew cX5_renew 4 none 2 := ⟨tb_in (List.mem_of_getElem? (i := 737) (by decide +kernel)) rfl, tb_in (List.mem_of_getElem? (i := 79) (by decide +kernel)) rfl, by decide +kernel, by decide⟩
theorem mfX6_add : MF yX6_add cX6_add 4 (some .boolean) 3 := ⟨tb_in (List.mem_of_getElem? (i := 651) (by decide +kernel)) rfl, tb_in (List.mem_of_getElem? (i := 76) (by decide +kernel)) rfl, by decide +kernel, by decide⟩
theorem mfX7_add : MF yX7_add cX7_add 2 (some .boolean) 1 := ⟨tb_in (List.mem_of_getElem? (i := 356) (by decide +kernel)) rfl, tb_in (List.mem_of_getElem? (i := 71) (by decide +kernel)) rfl, by decide +kernel, by decide⟩
theorem mfX7_at : MF yX7_at cX7_at 2 (some .int) 1 := ⟨tb_in (List.mem_of_getElem? (i := 376) (by decide +kernel)) rfl, tb_in (List.mem_of_getElem? (i := 71) (by decide +kernel)) rfl, by decide +kernel, by decide⟩
theorem mfX8_agrees : MF yX8_agrees cX8_agrees 8 (some .boolean) 3 := ⟨tb_in (List.mem_of_getElem? (i := 667) (by decide +kernel)) rfl, tb_in (List.mem_of_getElem? (i := 70) (by decide +kernel)) rfl, by decide +kernel, by decide⟩
theorem mfX8_ask : MF yX8_ask cX8_ask 4 (some .int) 1 := ⟨tb_in (List.mem_of_getElem? (i := 683) (by decide +kernel)) rfl, tb_in (List.mem_of_getElem? (i := 70) (by decide +kernel)) rfl, by decide +kernel, by decide⟩
theorem mfX8_bringUpToDate : MF yX8_bringUpToDate cX8_bringUpToDate 1 none 0 := ⟨tb_in (List.mem_of_getElem? (i := 397) (by decide +kernel)) rfl, tb_in (List.mem_of_getElem? (i := 70) (by decide +kernel)) rfl, by decide +kernel, by decide⟩
theorem mfX8_chalk : MF yX8_chalk cX8_chalk 5 (some .int) 1 := ⟨tb_in (List.mem_of_getElem? (i := 679) (by decide +kernel)) rfl, tb_in (List.mem_of_getElem? (i := 70) (by decide +kernel)) rfl, by decide +kernel, by decide⟩
theorem mfX8_clean : MF yX8_clean cX8_clean 3 (some .int) 2 := ⟨tb_in (List.mem_of_getElem? (i := 487) (by decide +kernel)) rfl, tb_in (List.mem_of_getElem? (i := 70) (by decide +kernel)) rfl, by decide +kernel, by decide⟩
theorem mfX8_count : MF yX8_count cX8_count 2 (some .int) 1 := ⟨tb_in (List.mem_of_getElem? (i := 775) (by decide +kernel)) rfl, tb_in (List.mem_of_getElem? (i := 70) (by decide +kernel)) rfl, by decide +kernel, by decide⟩
theorem mfX8_damp : MF yX8_damp cX8_damp 2 (some .int) 1 := ⟨tb_in (List.mem_of_getElem? (i := 390) (by decide +kernel)) rfl, tb_in (List.mem_of_getElem? (i := 70) (by decide +kernel)) rfl, by decide +kernel, by decide⟩
theorem mfX8_deep : MF yX8_deep cX8_deep 2 (some .int) 1 := ⟨tb_in (List.mem_of_getElem? (i := 580) (by decide +kernel)) rfl, tb_in (List.mem_of_getElem? (i := 70) (by decide +kernel)) rfl, by decide +kernel, by decide⟩
theorem mfX8_fault : MF yX8_fault cX8_fault 2 (some .int) 1 := ⟨tb_in (List.mem_of_getElem? (i := 368) (by decide +kernel)) rfl, tb_in (List.mem_of_getElem? (i := 70) (by decide +kernel)) rfl, by decide +kernel, by decide⟩
theorem mfX8_faultOfDamps : MF yX8_faultOfDamps cX8_faultOfDamps 2 (some .int) 0 := ⟨tb_in (List.mem_of_getElem? (i := 372) (by decide +kernel)) rfl, tb_in (List.mem_of_getElem? (i := 70) (by decide +kernel)) rfl, by decide +kernel, by decide⟩
theorem mfX8_faultOfStrokes : MF yX8_faultOfStrokes cX8_faultOfStrokes 3 (some .int) 0 := ⟨tb_in (List.mem_of_getElem? (i := 383) (by decide +kernel)) rfl, tb_in (List.mem_of_getElem? (i := 70) (by decide +kernel)) rfl, by decide +kernel, by decide⟩
theorem mfX8_fitsStroke : MF yX8_fitsStroke cX8_fitsStroke 2 (some .boolean) 2 := ⟨tb_in (List.mem_of_getElem? (i := 386) (by decide +kernel)) rfl, tb_in (List.mem_of_getElem? (i := 70) (by decide +kernel)) rfl, by decide +kernel, by decide⟩
theorem mfX8_found : MF yX8_found cX8_found 2 (some .int) 1 := ⟨tb_in (List.mem_of_getElem? (i := 520) (by decide +kernel)) rfl, tb_in (List.mem_of_getElem? (i := 70) (by decide +kernel)) rfl, by decide +kernel, by decide⟩
theorem mfX8_has : MF yX8_has cX8_has 2 (some .boolean) 2 := ⟨tb_in (List.mem_of_getElem? (i := 422) (by decide +kernel)) rfl, tb_in (List.mem_of_getElem? (i := 70) (by decide +kernel)) rfl, by decide +kernel, by decide⟩
theorem mfX8_hasBit : MF yX8_hasBit cX8_hasBit 2 (some .boolean) 2 := ⟨tb_in (List.mem_of_getElem? (i := 572) (by decide +kernel)) rfl, tb_in (List.mem_of_getElem? (i := 70) (by decide +kernel)) rfl, by decide +kernel, by decide⟩
theorem mfX8_isCell : MF yX8_isCell cX8_isCell 1 (some .boolean) 1 := ⟨tb_in (List.mem_of_getElem? (i := 528) (by decide +kernel)) rfl, tb_in (List.mem_of_getElem? (i := 70) (by decide +kernel)) rfl, by decide +kernel, by decide⟩
theorem mfX8_isDay : MF yX8_isDay cX8_isDay 1 (some .boolean) 1 := ⟨tb_in (List.mem_of_getElem? (i := 393) (by decide +kernel)) rfl, tb_in (List.mem_of_getElem? (i := 70) (by decide +kernel)) rfl, by decide +kernel, by decide⟩
theorem mfX8_isEither : MF yX8_isEither cX8_isEither 1 (some .boolean) 1 := ⟨tb_in (List.mem_of_getElem? (i := 509) (by decide +kernel)) rfl, tb_in (List.mem_of_getElem? (i := 70) (by decide +kernel)) rfl, by decide +kernel, by decide⟩
theorem mfX8_isForm : MF yX8_isForm cX8_isForm 1 (some .boolean) 1 := ⟨tb_in (List.mem_of_getElem? (i := 733) (by decide +kernel)) rfl, tb_in (List.mem_of_getElem? (i := 70) (by decide +kernel)) rfl, by decide +kernel, by decide⟩
theorem mfX8_isLine : MF yX8_isLine cX8_isLine 1 (some .boolean) 1 := ⟨tb_in (List.mem_of_getElem? (i := 490) (by decide +kernel)) rfl, tb_in (List.mem_of_getElem? (i := 70) (by decide +kernel)) rfl, by decide +kernel, by decide⟩
theorem mfX8_isSheet : MF yX8_isSheet cX8_isSheet 1 (some .boolean) 1 := ⟨tb_in (List.mem_of_getElem? (i := 516) (by decide +kernel)) rfl, tb_in (List.mem_of_getElem? (i := 70) (by decide +kernel)) rfl, by decide +kernel, by decide⟩
theorem mfX8_isStroke : MF yX8_isStroke cX8_isStroke 2 (some .boolean) 1 := ⟨tb_in (List.mem_of_getElem? (i := 479) (by decide +kernel)) rfl, tb_in (List.mem_of_getElem? (i := 70) (by decide +kernel)) rfl, by decide +kernel, by decide⟩
theorem mfX8_isText : MF yX8_isText cX8_isText 1 (some .boolean) 1 := ⟨tb_in (List.mem_of_getElem? (i := 348) (by decide +kernel)) rfl, tb_in (List.mem_of_getElem? (i := 70) (by decide +kernel)) rfl, by decide +kernel, by decide⟩
theorem mfX8_isWithin : MF yX8_isWithin cX8_isWithin 3 (some .boolean) 3 := ⟨tb_in (List.mem_of_getElem? (i := 379) (by decide +kernel)) rfl, tb_in (List.mem_of_getElem? (i := 70) (by decide +kernel)) rfl, by decide +kernel, by decide⟩
theorem mfX8_leastLine : MF yX8_leastLine cX8_leastLine 2 (some .int) 1 := ⟨tb_in (List.mem_of_getElem? (i := 569) (by decide +kernel)) rfl, tb_in (List.mem_of_getElem? (i := 70) (by decide +kernel)) rfl, by decide +kernel, by decide⟩
theorem mfX8_lowestBits : MF yX8_lowestBits cX8_lowestBits 2 (some .int) 2 := ⟨tb_in (List.mem_of_getElem? (i := 753) (by decide +kernel)) rfl, tb_in (List.mem_of_getElem? (i := 70) (by decide +kernel)) rfl, by decide +kernel, by decide⟩
theorem mfX8_misread : MF yX8_misread cX8_misread 4 (some .int) 1 := ⟨tb_in (List.mem_of_getElem? (i := 562) (by decide +kernel)) rfl, tb_in (List.mem_of_getElem? (i := 70) (by decide +kernel)) rfl, by decide +kernel, by decide⟩
theorem mfX8_most : MF yX8_most cX8_most 5 (some .int) 0 := ⟨tb_in (List.mem_of_getElem? (i := 576) (by decide +kernel)) rfl, tb_in (List.mem_of_getElem? (i := 70) (by decide +kernel)) rfl, by decide +kernel, by decide⟩
theorem mfX8_mostAlike : MF yX8_mostAlike cX8_mostAlike 7 (some .int) 2 := ⟨tb_in (List.mem_of_getElem? (i := 692) (by decide +kernel)) rfl, tb_in (List.mem_of_getElem? (i := 70) (by decide +kernel)) rfl, by decide +kernel, by decide⟩
theorem mfX8_never : MF yX8_never cX8_never 3 (some .int) 0 := ⟨tb_in (List.mem_of_getElem? (i := 659) (by decide +kernel)) rfl, tb_in (List.mem_of_getElem? (i := 70) (by decide +kernel)) rfl, by decide +kernel, by decide⟩
theorem mfX8_oil : MF yX8_oil cX8_oil 4 (some .int) 1 := ⟨tb_in (List.mem_of_getElem? (i := 589) (by decide +kernel)) rfl, tb_in (List.mem_of_getElem? (i := 70) (by decide +kernel)) rfl, by decide +kernel, by decide⟩
theorem mfX8_only : MF yX8_only cX8_only 1 (some .int) 1 := ⟨tb_in (List.mem_of_getElem? (i := 415) (by decide +kernel)) rfl, tb_in (List.mem_of_getElem? (i := 70) (by decide +kernel)) rfl, by decide +kernel, by decide⟩
theorem mfX8_parseDamps : MF yX8_parseDamps cX8_parseDamps 2 none 0 := ⟨tb_in (List.mem_of_getElem? (i := 401) (by decide +kernel)) rfl, tb_in (List.mem_of_getElem? (i := 70) (by decide +kernel)) rfl, by decide +kernel, by decide⟩
theorem mfX8_parseStrokes : MF yX8_parseStrokes cX8_parseStrokes 3 none 0 := ⟨tb_in (List.mem_of_getElem? (i := 408) (by decide +kernel)) rfl, tb_in (List.mem_of_getElem? (i := 70) (by decide +kernel)) rfl, by decide +kernel, by decide⟩
theorem mfX8_reckonChance : MF yX8_reckonChance cX8_reckonChance 7 none 3 := ⟨tb_in (List.mem_of_getElem? (i := 702) (by decide +kernel)) rfl, tb_in (List.mem_of_getElem? (i := 70) (by decide +kernel)) rfl, by decide +kernel, by decide⟩
theorem mfX8_seekCell : MF yX8_seekCell cX8_seekCell 10 none 1 := ⟨tb_in (List.mem_of_getElem? (i := 634) (by decide +kernel)) rfl, tb_in (List.mem_of_getElem? (i := 70) (by decide +kernel)) rfl, by decide +kernel, by decide⟩
theorem mfX8_seekDay : MF yX8_seekDay cX8_seekDay 6 none 1 := ⟨tb_in (List.mem_of_getElem? (i := 597) (by decide +kernel)) rfl, tb_in (List.mem_of_getElem? (i := 70) (by decide +kernel)) rfl, by decide +kernel, by decide⟩
theorem mfX8_seekDryDay : MF yX8_seekDryDay cX8_seekDryDay 2 none 0 := ⟨tb_in (List.mem_of_getElem? (i := 642) (by decide +kernel)) rfl, tb_in (List.mem_of_getElem? (i := 70) (by decide +kernel)) rfl, by decide +kernel, by decide⟩
theorem mfX8_sign : MF yX8_sign cX8_sign 4 (some .int) 1 := ⟨tb_in (List.mem_of_getElem? (i := 675) (by decide +kernel)) rfl, tb_in (List.mem_of_getElem? (i := 70) (by decide +kernel)) rfl, by decide +kernel, by decide⟩
theorem mfX8_stands : MF yX8_stands cX8_stands 3 (some .int) 2 := ⟨tb_in (List.mem_of_getElem? (i := 525) (by decide +kernel)) rfl, tb_in (List.mem_of_getElem? (i := 70) (by decide +kernel)) rfl, by decide +kernel, by decide⟩
theorem mfX8_state : MF yX8_state cX8_state 5 (some .int) 3 := ⟨tb_in (List.mem_of_getElem? (i := 536) (by decide +kernel)) rfl, tb_in (List.mem_of_getElem? (i := 70) (by decide +kernel)) rfl, by decide +kernel, by decide⟩
theorem mfX8_stillFrom : MF yX8_stillFrom cX8_stillFrom 13 (some .long) 5 := ⟨tb_in (List.mem_of_getElem? (i := 710) (by decide +kernel)) rfl, tb_in (List.mem_of_getElem? (i := 70) (by decide +kernel)) rfl, by decide +kernel, by decide⟩
theorem mfX8_strengthIn : MF yX8_strengthIn cX8_strengthIn 2 (some .int) 2 := ⟨tb_in (List.mem_of_getElem? (i := 467) (by decide +kernel)) rfl, tb_in (List.mem_of_getElem? (i := 70) (by decide +kernel)) rfl, by decide +kernel, by decide⟩
theorem mfX8_stroke : MF yX8_stroke cX8_stroke 3 (some .int) 2 := ⟨tb_in (List.mem_of_getElem? (i := 475) (by decide +kernel)) rfl, tb_in (List.mem_of_getElem? (i := 70) (by decide +kernel)) rfl, by decide +kernel, by decide⟩
theorem mfX8_textOf : MF yX8_textOf cX8_textOf 2 (some (.object "BoardRemembers$Text")) 1 := ⟨tb_in (List.mem_of_getElem? (i := 352) (by decide +kernel)) rfl, tb_in (List.mem_of_getElem? (i := 70) (by decide +kernel)) rfl, by decide +kernel, by decide⟩
theorem mfX8_through : MF yX8_through cX8_through 2 (some .int) 1 := ⟨tb_in (List.mem_of_getElem? (i := 557) (by decide +kernel)) rfl, tb_in (List.mem_of_getElem? (i := 70) (by decide +kernel)) rfl, by decide +kernel, by decide⟩
theorem mfX8_tryWithout : MF yX8_tryWithout cX8_tryWithout 2 none 1 := ⟨tb_in (List.mem_of_getElem? (i := 663) (by decide +kernel)) rfl, tb_in (List.mem_of_getElem? (i := 70) (by decide +kernel)) rfl, by decide +kernel, by decide⟩
theorem mfX8_up : MF yX8_up cX8_up 2 (some .int) 1 := ⟨tb_in (List.mem_of_getElem? (i := 542) (by decide +kernel)) rfl, tb_in (List.mem_of_getElem? (i := 70) (by decide +kernel)) rfl, by decide +kernel, by decide⟩
theorem mfX8_upsInTrial : MF yX8_upsInTrial cX8_upsInTrial 2 (some .int) 1 := ⟨tb_in (List.mem_of_getElem? (i := 613) (by decide +kernel)) rfl, tb_in (List.mem_of_getElem? (i := 70) (by decide +kernel)) rfl, by decide +kernel, by decide⟩
theorem mfX8_viewWithoutEach : MF yX8_viewWithoutEach cX8_viewWithoutEach 6 none 2 := ⟨tb_in (List.mem_of_getElem? (i := 688) (by decide +kernel)) rfl, tb_in (List.mem_of_getElem? (i := 70) (by decide +kernel)) rfl, by decide +kernel, by decide⟩
theorem mfX8_weather : MF yX8_weather cX8_weather 6 (some .int) 3 := ⟨tb_in (List.mem_of_getElem? (i := 721) (by decide +kernel)) rfl, tb_in (List.mem_of_getElem? (i := 70) (by decide +kernel)) rfl, by decide +kernel, by decide⟩
theorem mfX8_withDay : MF yX8_withDay cX8_withDay 7 (some .long) 2 := ⟨tb_in (List.mem_of_getElem? (i := 787) (by decide +kernel)) rfl, tb_in (List.mem_of_getElem? (i := 70) (by decide +kernel)) rfl, by decide +kernel, by decide⟩
theorem mfX8_withFewest : MF yX8_withFewest cX8_withFewest 3 (some .long) 1 := ⟨tb_in (List.mem_of_getElem? (i := 801) (by decide +kernel)) rfl, tb_in (List.mem_of_getElem? (i := 70) (by decide +kernel)) rfl, by decide +kernel, by decide⟩
theorem mfX8_withStroke : MF yX8_withStroke cX8_withStroke 7 (some .long) 2 := ⟨tb_in (List.mem_of_getElem? (i := 794) (by decide +kernel)) rfl, tb_in (List.mem_of_getElem? (i := 70) (by decide +kernel)) rfl, by decide +kernel, by decide⟩
theorem mfX9_allUp : MF yX9_allUp cX9_allUp 3 (some .int) 0 := ⟨tb_in (List.mem_of_getElem? (i := 1142) (by decide +kernel)) rfl, tb_in (List.mem_of_getElem? (i := 80) (by decide +kernel)) rfl, by decide +kernel, by decide⟩
theorem mfX9_asTold : MF yX9_asTold cX9_asTold 2 none 0 := ⟨tb_in (List.mem_of_getElem? (i := 1044) (by decide +kernel)) rfl, tb_in (List.mem_of_getElem? (i := 80) (by decide +kernel)) rfl, by decide +kernel, by decide⟩
theorem mfX9_askOf : MF yX9_askOf cX9_askOf 10 (some .int) 1 := ⟨tb_in (List.mem_of_getElem? (i := 1210) (by decide +kernel)) rfl, tb_in (List.mem_of_getElem? (i := 80) (by decide +kernel)) rfl, by decide +kernel, by decide⟩
theorem mfX9_byteAt : MF yX9_byteAt cX9_byteAt 2 (some .int) 1 := ⟨tb_in (List.mem_of_getElem? (i := 970) (by decide +kernel)) rfl, tb_in (List.mem_of_getElem? (i := 80) (by decide +kernel)) rfl, by decide +kernel, by decide⟩
theorem mfX9_chalkOf : MF yX9_chalkOf cX9_chalkOf 5 (some .int) 1 := ⟨tb_in (List.mem_of_getElem? (i := 1202) (by decide +kernel)) rfl, tb_in (List.mem_of_getElem? (i := 80) (by decide +kernel)) rfl, by decide +kernel, by decide⟩
theorem mfX9_clean : MF yX9_clean cX9_clean 3 (some .int) 2 := ⟨tb_in (List.mem_of_getElem? (i := 1005) (by decide +kernel)) rfl, tb_in (List.mem_of_getElem? (i := 80) (by decide +kernel)) rfl, by decide +kernel, by decide⟩
theorem mfX9_count : MF yX9_count cX9_count 2 (some .int) 1 := ⟨tb_in (List.mem_of_getElem? (i := 1271) (by decide +kernel)) rfl, tb_in (List.mem_of_getElem? (i := 80) (by decide +kernel)) rfl, by decide +kernel, by decide⟩
theorem mfX9_dampOf : MF yX9_dampOf cX9_dampOf 2 (some .int) 1 := ⟨tb_in (List.mem_of_getElem? (i := 981) (by decide +kernel)) rfl, tb_in (List.mem_of_getElem? (i := 80) (by decide +kernel)) rfl, by decide +kernel, by decide⟩
theorem mfX9_dayDigest : MF yX9_dayDigest cX9_dayDigest 7 (some .long) 2 := ⟨tb_in (List.mem_of_getElem? (i := 1286) (by decide +kernel)) rfl, tb_in (List.mem_of_getElem? (i := 80) (by decide +kernel)) rfl, by decide +kernel, by decide⟩
theorem mfX9_deepOf : MF yX9_deepOf cX9_deepOf 7 (some .int) 1 := ⟨tb_in (List.mem_of_getElem? (i := 1130) (by decide +kernel)) rfl, tb_in (List.mem_of_getElem? (i := 80) (by decide +kernel)) rfl, by decide +kernel, by decide⟩
theorem mfX9_dryOf : MF yX9_dryOf cX9_dryOf 7 (some .int) 1 := ⟨tb_in (List.mem_of_getElem? (i := 1166) (by decide +kernel)) rfl, tb_in (List.mem_of_getElem? (i := 80) (by decide +kernel)) rfl, by decide +kernel, by decide⟩
theorem mfX9_drynessOf : MF yX9_drynessOf cX9_drynessOf 11 (some .long) 4 := ⟨tb_in (List.mem_of_getElem? (i := 1218) (by decide +kernel)) rfl, tb_in (List.mem_of_getElem? (i := 80) (by decide +kernel)) rfl, by decide +kernel, by decide⟩
theorem mfX9_faultOf : MF yX9_faultOf cX9_faultOf 4 (some .int) 1 := ⟨tb_in (List.mem_of_getElem? (i := 950) (by decide +kernel)) rfl, tb_in (List.mem_of_getElem? (i := 80) (by decide +kernel)) rfl, by decide +kernel, by decide⟩
theorem mfX9_goesBy : MF yX9_goesBy cX9_goesBy 4 none 1 := ⟨tb_in (List.mem_of_getElem? (i := 1052) (by decide +kernel)) rfl, tb_in (List.mem_of_getElem? (i := 80) (by decide +kernel)) rfl, by decide +kernel, by decide⟩
theorem mfX9_goesIn : MF yX9_goesIn cX9_goesIn 2 none 1 := ⟨tb_in (List.mem_of_getElem? (i := 1056) (by decide +kernel)) rfl, tb_in (List.mem_of_getElem? (i := 80) (by decide +kernel)) rfl, by decide +kernel, by decide⟩
theorem mfX9_in : MF yX9_in cX9_in 3 (some .boolean) 3 := ⟨tb_in (List.mem_of_getElem? (i := 934) (by decide +kernel)) rfl, tb_in (List.mem_of_getElem? (i := 80) (by decide +kernel)) rfl, by decide +kernel, by decide⟩
theorem mfX9_isCell : MF yX9_isCell cX9_isCell 1 (some .boolean) 1 := ⟨tb_in (List.mem_of_getElem? (i := 1032) (by decide +kernel)) rfl, tb_in (List.mem_of_getElem? (i := 80) (by decide +kernel)) rfl, by decide +kernel, by decide⟩
theorem mfX9_isDay : MF yX9_isDay cX9_isDay 1 (some .boolean) 1 := ⟨tb_in (List.mem_of_getElem? (i := 977) (by decide +kernel)) rfl, tb_in (List.mem_of_getElem? (i := 80) (by decide +kernel)) rfl, by decide +kernel, by decide⟩
theorem mfX9_isIn : MF yX9_isIn cX9_isIn 2 (some .boolean) 2 := ⟨tb_in (List.mem_of_getElem? (i := 1059) (by decide +kernel)) rfl, tb_in (List.mem_of_getElem? (i := 80) (by decide +kernel)) rfl, by decide +kernel, by decide⟩
theorem mfX9_isMisread : MF yX9_isMisread cX9_isMisread 6 (some .boolean) 2 := ⟨tb_in (List.mem_of_getElem? (i := 1114) (by decide +kernel)) rfl, tb_in (List.mem_of_getElem? (i := 80) (by decide +kernel)) rfl, by decide +kernel, by decide⟩
theorem mfX9_isOiled : MF yX9_isOiled cX9_isOiled 5 (some .boolean) 2 := ⟨tb_in (List.mem_of_getElem? (i := 1063) (by decide +kernel)) rfl, tb_in (List.mem_of_getElem? (i := 80) (by decide +kernel)) rfl, by decide +kernel, by decide⟩
theorem mfX9_isSeen : MF yX9_isSeen cX9_isSeen 4 (some .boolean) 0 := ⟨tb_in (List.mem_of_getElem? (i := 1186) (by decide +kernel)) rfl, tb_in (List.mem_of_getElem? (i := 80) (by decide +kernel)) rfl, by decide +kernel, by decide⟩
theorem mfX9_isSheet : MF yX9_isSheet cX9_isSheet 1 (some .boolean) 1 := ⟨tb_in (List.mem_of_getElem? (i := 1020) (by decide +kernel)) rfl, tb_in (List.mem_of_getElem? (i := 80) (by decide +kernel)) rfl, by decide +kernel, by decide⟩
theorem mfX9_isStroke : MF yX9_isStroke cX9_isStroke 2 (some .boolean) 1 := ⟨tb_in (List.mem_of_getElem? (i := 993) (by decide +kernel)) rfl, tb_in (List.mem_of_getElem? (i := 80) (by decide +kernel)) rfl, by decide +kernel, by decide⟩
theorem mfX9_isText : MF yX9_isText cX9_isText 1 (some .boolean) 1 := ⟨tb_in (List.mem_of_getElem? (i := 931) (by decide +kernel)) rfl, tb_in (List.mem_of_getElem? (i := 80) (by decide +kernel)) rfl, by decide +kernel, by decide⟩
theorem mfX9_isTop : MF yX9_isTop cX9_isTop 5 (some .boolean) 1 := ⟨tb_in (List.mem_of_getElem? (i := 1067) (by decide +kernel)) rfl, tb_in (List.mem_of_getElem? (i := 80) (by decide +kernel)) rfl, by decide +kernel, by decide⟩
theorem mfX9_isWell : MF yX9_isWell cX9_isWell 6 (some .boolean) 2 := ⟨tb_in (List.mem_of_getElem? (i := 966) (by decide +kernel)) rfl, tb_in (List.mem_of_getElem? (i := 80) (by decide +kernel)) rfl, by decide +kernel, by decide⟩
theorem mfX9_keep : MF yX9_keep cX9_keep 4 none 3 := ⟨tb_in (List.mem_of_getElem? (i := 1254) (by decide +kernel)) rfl, tb_in (List.mem_of_getElem? (i := 80) (by decide +kernel)) rfl, by decide +kernel, by decide⟩
theorem mfX9_lacks : MF yX9_lacks cX9_lacks 4 (some .int) 3 := ⟨tb_in (List.mem_of_getElem? (i := 1250) (by decide +kernel)) rfl, tb_in (List.mem_of_getElem? (i := 80) (by decide +kernel)) rfl, by decide +kernel, by decide⟩
theorem mfX9_lowest : MF yX9_lowest cX9_lowest 11 (some .long) 3 := ⟨tb_in (List.mem_of_getElem? (i := 1221) (by decide +kernel)) rfl, tb_in (List.mem_of_getElem? (i := 80) (by decide +kernel)) rfl, by decide +kernel, by decide⟩
theorem mfX9_meets : MF yX9_meets cX9_meets 2 (some .int) 1 := ⟨tb_in (List.mem_of_getElem? (i := 1024) (by decide +kernel)) rfl, tb_in (List.mem_of_getElem? (i := 80) (by decide +kernel)) rfl, by decide +kernel, by decide⟩
theorem mfX9_misreadOf : MF yX9_misreadOf cX9_misreadOf 4 (some .int) 1 := ⟨tb_in (List.mem_of_getElem? (i := 1110) (by decide +kernel)) rfl, tb_in (List.mem_of_getElem? (i := 80) (by decide +kernel)) rfl, by decide +kernel, by decide⟩
theorem mfX9_mostNow : MF yX9_mostNow cX9_mostNow 3 (some .int) 0 := ⟨tb_in (List.mem_of_getElem? (i := 1122) (by decide +kernel)) rfl, tb_in (List.mem_of_getElem? (i := 80) (by decide +kernel)) rfl, by decide +kernel, by decide⟩
theorem mfX9_neverNow : MF yX9_neverNow cX9_neverNow 3 (some .int) 0 := ⟨tb_in (List.mem_of_getElem? (i := 1182) (by decide +kernel)) rfl, tb_in (List.mem_of_getElem? (i := 80) (by decide +kernel)) rfl, by decide +kernel, by decide⟩
theorem mfX9_no : MF yX9_no cX9_no 1 (some .long) 1 := ⟨tb_in (List.mem_of_getElem? (i := 1224) (by decide +kernel)) rfl, tb_in (List.mem_of_getElem? (i := 80) (by decide +kernel)) rfl, by decide +kernel, by decide⟩
theorem mfX9_oilOf : MF yX9_oilOf cX9_oilOf 4 (some .int) 1 := ⟨tb_in (List.mem_of_getElem? (i := 1138) (by decide +kernel)) rfl, tb_in (List.mem_of_getElem? (i := 80) (by decide +kernel)) rfl, by decide +kernel, by decide⟩
theorem mfX9_ones : MF yX9_ones cX9_ones 3 (some .int) 1 := ⟨tb_in (List.mem_of_getElem? (i := 1102) (by decide +kernel)) rfl, tb_in (List.mem_of_getElem? (i := 80) (by decide +kernel)) rfl, by decide +kernel, by decide⟩
theorem mfX9_placeOf : MF yX9_placeOf cX9_placeOf 8 (some .int) 2 := ⟨tb_in (List.mem_of_getElem? (i := 1158) (by decide +kernel)) rfl, tb_in (List.mem_of_getElem? (i := 80) (by decide +kernel)) rfl, by decide +kernel, by decide⟩
theorem mfX9_reads : MF yX9_reads cX9_reads 2 none 0 := ⟨tb_in (List.mem_of_getElem? (i := 985) (by decide +kernel)) rfl, tb_in (List.mem_of_getElem? (i := 80) (by decide +kernel)) rfl, by decide +kernel, by decide⟩
theorem mfX9_readsDamps : MF yX9_readsDamps cX9_readsDamps 2 (some .int) 0 := ⟨tb_in (List.mem_of_getElem? (i := 954) (by decide +kernel)) rfl, tb_in (List.mem_of_getElem? (i := 80) (by decide +kernel)) rfl, by decide +kernel, by decide⟩
theorem mfX9_readsStroke : MF yX9_readsStroke cX9_readsStroke 4 (some .int) 2 := ⟨tb_in (List.mem_of_getElem? (i := 962) (by decide +kernel)) rfl, tb_in (List.mem_of_getElem? (i := 80) (by decide +kernel)) rfl, by decide +kernel, by decide⟩
theorem mfX9_readsStrokes : MF yX9_readsStrokes cX9_readsStrokes 4 (some .int) 0 := ⟨tb_in (List.mem_of_getElem? (i := 958) (by decide +kernel)) rfl, tb_in (List.mem_of_getElem? (i := 80) (by decide +kernel)) rfl, by decide +kernel, by decide⟩
theorem mfX9_runs : MF yX9_runs cX9_runs 2 none 0 := ⟨tb_in (List.mem_of_getElem? (i := 1048) (by decide +kernel)) rfl, tb_in (List.mem_of_getElem? (i := 80) (by decide +kernel)) rfl, by decide +kernel, by decide⟩
theorem mfX9_runsTold : MF yX9_runsTold cX9_runsTold 1 none 0 := ⟨tb_in (List.mem_of_getElem? (i := 1040) (by decide +kernel)) rfl, tb_in (List.mem_of_getElem? (i := 80) (by decide +kernel)) rfl, by decide +kernel, by decide⟩
theorem mfX9_signOf : MF yX9_signOf cX9_signOf 5 (some .int) 1 := ⟨tb_in (List.mem_of_getElem? (i := 1194) (by decide +kernel)) rfl, tb_in (List.mem_of_getElem? (i := 80) (by decide +kernel)) rfl, by decide +kernel, by decide⟩
theorem mfX9_standsNow : MF yX9_standsNow cX9_standsNow 6 (some .int) 2 := ⟨tb_in (List.mem_of_getElem? (i := 1071) (by decide +kernel)) rfl, tb_in (List.mem_of_getElem? (i := 80) (by decide +kernel)) rfl, by decide +kernel, by decide⟩
theorem mfX9_standsOf : MF yX9_standsOf cX9_standsOf 3 (some .int) 2 := ⟨tb_in (List.mem_of_getElem? (i := 1036) (by decide +kernel)) rfl, tb_in (List.mem_of_getElem? (i := 80) (by decide +kernel)) rfl, by decide +kernel, by decide⟩
theorem mfX9_stateOf : MF yX9_stateOf cX9_stateOf 4 (some .int) 3 := ⟨tb_in (List.mem_of_getElem? (i := 1079) (by decide +kernel)) rfl, tb_in (List.mem_of_getElem? (i := 80) (by decide +kernel)) rfl, by decide +kernel, by decide⟩
theorem mfX9_strokeDigest : MF yX9_strokeDigest cX9_strokeDigest 7 (some .long) 2 := ⟨tb_in (List.mem_of_getElem? (i := 1290) (by decide +kernel)) rfl, tb_in (List.mem_of_getElem? (i := 80) (by decide +kernel)) rfl, by decide +kernel, by decide⟩
theorem mfX9_strokeOf : MF yX9_strokeOf cX9_strokeOf 3 (some .int) 2 := ⟨tb_in (List.mem_of_getElem? (i := 997) (by decide +kernel)) rfl, tb_in (List.mem_of_getElem? (i := 80) (by decide +kernel)) rfl, by decide +kernel, by decide⟩
theorem mfX9_sumOf : MF yX9_sumOf cX9_sumOf 2 (some .int) 1 := ⟨tb_in (List.mem_of_getElem? (i := 1275) (by decide +kernel)) rfl, tb_in (List.mem_of_getElem? (i := 80) (by decide +kernel)) rfl, by decide +kernel, by decide⟩
theorem mfX9_throughOf : MF yX9_throughOf cX9_throughOf 2 (some .int) 1 := ⟨tb_in (List.mem_of_getElem? (i := 1099) (by decide +kernel)) rfl, tb_in (List.mem_of_getElem? (i := 80) (by decide +kernel)) rfl, by decide +kernel, by decide⟩
theorem mfX9_upOf : MF yX9_upOf cX9_upOf 2 (some .int) 1 := ⟨tb_in (List.mem_of_getElem? (i := 1087) (by decide +kernel)) rfl, tb_in (List.mem_of_getElem? (i := 80) (by decide +kernel)) rfl, by decide +kernel, by decide⟩
theorem mfX9_upsOf : MF yX9_upsOf cX9_upsOf 4 (some .int) 1 := ⟨tb_in (List.mem_of_getElem? (i := 1091) (by decide +kernel)) rfl, tb_in (List.mem_of_getElem? (i := 80) (by decide +kernel)) rfl, by decide +kernel, by decide⟩
theorem mfX9_weatherOf : MF yX9_weatherOf cX9_weatherOf 7 (some .int) 3 := ⟨tb_in (List.mem_of_getElem? (i := 1233) (by decide +kernel)) rfl, tb_in (List.mem_of_getElem? (i := 80) (by decide +kernel)) rfl, by decide +kernel, by decide⟩
theorem mfX9_whenOf : MF yX9_whenOf cX9_whenOf 8 (some .int) 2 := ⟨tb_in (List.mem_of_getElem? (i := 1150) (by decide +kernel)) rfl, tb_in (List.mem_of_getElem? (i := 80) (by decide +kernel)) rfl, by decide +kernel, by decide⟩
theorem miX0_deepestCell : Cond.instanceMethod yX0_deepestCell ∈ tbG ∧ Cond.selects yX0_deepestCell.cls yX0_deepestCell yX0_deepestCell ∈ tbG := ⟨tb_in (List.mem_of_getElem? (i := 582) (by decide +kernel)) rfl, tb_in (List.mem_of_getElem? (i := 583) (by decide +kernel)) rfl⟩
theorem miX0_everyone : Cond.instanceMethod yX0_everyone ∈ tbG ∧ Cond.selects yX0_everyone.cls yX0_everyone yX0_everyone ∈ tbG := ⟨tb_in (List.mem_of_getElem? (i := 410) (by decide +kernel)) rfl, tb_in (List.mem_of_getElem? (i := 411) (by decide +kernel)) rfl⟩
theorem miX0_freshStrengths : Cond.instanceMethod yX0_freshStrengths ∈ tbG ∧ Cond.selects yX0_freshStrengths.cls yX0_freshStrengths yX0_freshStrengths ∈ tbG := ⟨tb_in (List.mem_of_getElem? (i := 454) (by decide +kernel)) rfl, tb_in (List.mem_of_getElem? (i := 455) (by decide +kernel)) rfl⟩
theorem miX0_goesIn : Cond.instanceMethod yX0_goesIn ∈ tbG ∧ Cond.selects yX0_goesIn.cls yX0_goesIn yX0_goesIn ∈ tbG := ⟨tb_in (List.mem_of_getElem? (i := 429) (by decide +kernel)) rfl, tb_in (List.mem_of_getElem? (i := 6) (by decide +kernel)) rfl⟩
theorem miX0_linesOf : Cond.instanceMethod yX0_linesOf ∈ tbG ∧ Cond.selects yX0_linesOf.cls yX0_linesOf yX0_linesOf ∈ tbG := ⟨tb_in (List.mem_of_getElem? (i := 564) (by decide +kernel)) rfl, tb_in (List.mem_of_getElem? (i := 565) (by decide +kernel)) rfl⟩
theorem miX0_onCell : Cond.instanceMethod yX0_onCell ∈ tbG ∧ Cond.selects yX0_onCell.cls yX0_onCell yX0_onCell ∈ tbG := ⟨tb_in (List.mem_of_getElem? (i := 424) (by decide +kernel)) rfl, tb_in (List.mem_of_getElem? (i := 425) (by decide +kernel)) rfl⟩
theorem miX0_risenOn : Cond.instanceMethod yX0_risenOn ∈ tbG ∧ Cond.selects yX0_risenOn.cls yX0_risenOn yX0_risenOn ∈ tbG := ⟨tb_in (List.mem_of_getElem? (i := 458) (by decide +kernel)) rfl, tb_in (List.mem_of_getElem? (i := 459) (by decide +kernel)) rfl⟩
theorem miX0_settle : Cond.instanceMethod yX0_settle ∈ tbG ∧ Cond.selects yX0_settle.cls yX0_settle yX0_settle ∈ tbG := ⟨tb_in (List.mem_of_getElem? (i := 417) (by decide +kernel)) rfl, tb_in (List.mem_of_getElem? (i := 418) (by decide +kernel)) rfl⟩
theorem miX0_settleAble : Cond.instanceMethod yX0_settleAble ∈ tbG ∧ Cond.selects yX0_settleAble.cls yX0_settleAble yX0_settleAble ∈ tbG := ⟨tb_in (List.mem_of_getElem? (i := 447) (by decide +kernel)) rfl, tb_in (List.mem_of_getElem? (i := 8) (by decide +kernel)) rfl⟩
theorem miX0_settleStroke : Cond.instanceMethod yX0_settleStroke ∈ tbG ∧ Cond.selects yX0_settleStroke.cls yX0_settleStroke yX0_settleStroke ∈ tbG := ⟨tb_in (List.mem_of_getElem? (i := 438) (by decide +kernel)) rfl, tb_in (List.mem_of_getElem? (i := 7) (by decide +kernel)) rfl⟩
theorem miX0_shownOn : Cond.instanceMethod yX0_shownOn ∈ tbG ∧ Cond.selects yX0_shownOn.cls yX0_shownOn yX0_shownOn ∈ tbG := ⟨tb_in (List.mem_of_getElem? (i := 530) (by decide +kernel)) rfl, tb_in (List.mem_of_getElem? (i := 531) (by decide +kernel)) rfl⟩
theorem miX0_signRisen : Cond.instanceMethod yX0_signRisen ∈ tbG ∧ Cond.selects yX0_signRisen.cls yX0_signRisen yX0_signRisen ∈ tbG := ⟨tb_in (List.mem_of_getElem? (i := 669) (by decide +kernel)) rfl, tb_in (List.mem_of_getElem? (i := 670) (by decide +kernel)) rfl⟩
theorem miX0_strongest : Cond.instanceMethod yX0_strongest ∈ tbG ∧ Cond.selects yX0_strongest.cls yX0_strongest yX0_strongest ∈ tbG := ⟨tb_in (List.mem_of_getElem? (i := 463) (by decide +kernel)) rfl, tb_in (List.mem_of_getElem? (i := 9) (by decide +kernel)) rfl⟩
theorem miX0_takeStrokes : Cond.instanceMethod yX0_takeStrokes ∈ tbG ∧ Cond.selects yX0_takeStrokes.cls yX0_takeStrokes yX0_takeStrokes ∈ tbG := ⟨tb_in (List.mem_of_getElem? (i := 600) (by decide +kernel)) rfl, tb_in (List.mem_of_getElem? (i := 601) (by decide +kernel)) rfl⟩
theorem miX0_weathered : Cond.instanceMethod yX0_weathered ∈ tbG ∧ Cond.selects yX0_weathered.cls yX0_weathered yX0_weathered ∈ tbG := ⟨tb_in (List.mem_of_getElem? (i := 469) (by decide +kernel)) rfl, tb_in (List.mem_of_getElem? (i := 470) (by decide +kernel)) rfl⟩
theorem miX0_withMates : Cond.instanceMethod yX0_withMates ∈ tbG ∧ Cond.selects yX0_withMates.cls yX0_withMates yX0_withMates ∈ tbG := ⟨tb_in (List.mem_of_getElem? (i := 704) (by decide +kernel)) rfl, tb_in (List.mem_of_getElem? (i := 705) (by decide +kernel)) rfl⟩
theorem miX1_addOil : Cond.instanceMethod yX1_addOil ∈ tbG ∧ Cond.selects yX1_addOil.cls yX1_addOil yX1_addOil ∈ tbG := ⟨tb_in (List.mem_of_getElem? (i := 500) (by decide +kernel)) rfl, tb_in (List.mem_of_getElem? (i := 501) (by decide +kernel)) rfl⟩
theorem miX1_addWipe : Cond.instanceMethod yX1_addWipe ∈ tbG ∧ Cond.selects yX1_addWipe.cls yX1_addWipe yX1_addWipe ∈ tbG := ⟨tb_in (List.mem_of_getElem? (i := 492) (by decide +kernel)) rfl, tb_in (List.mem_of_getElem? (i := 493) (by decide +kernel)) rfl⟩
theorem miX1_oiledFrom : Cond.instanceMethod yX1_oiledFrom ∈ tbG ∧ Cond.selects yX1_oiledFrom.cls yX1_oiledFrom yX1_oiledFrom ∈ tbG := ⟨tb_in (List.mem_of_getElem? (i := 442) (by decide +kernel)) rfl, tb_in (List.mem_of_getElem? (i := 443) (by decide +kernel)) rfl⟩
theorem miX1_wipedBehind : Cond.instanceMethod yX1_wipedBehind ∈ tbG ∧ Cond.selects yX1_wipedBehind.cls yX1_wipedBehind yX1_wipedBehind ∈ tbG := ⟨tb_in (List.mem_of_getElem? (i := 432) (by decide +kernel)) rfl, tb_in (List.mem_of_getElem? (i := 433) (by decide +kernel)) rfl⟩
theorem miX2_reduce : Cond.instanceMethod yX2_reduce ∈ tbG ∧ Cond.selects yX2_reduce.cls yX2_reduce yX2_reduce ∈ tbG := ⟨tb_in (List.mem_of_getElem? (i := 715) (by decide +kernel)) rfl, tb_in (List.mem_of_getElem? (i := 716) (by decide +kernel)) rfl⟩
theorem miX3_daysWithSome : Cond.instanceMethod yX3_daysWithSome ∈ tbG ∧ Cond.selects yX3_daysWithSome.cls yX3_daysWithSome yX3_daysWithSome ∈ tbG := ⟨tb_in (List.mem_of_getElem? (i := 724) (by decide +kernel)) rfl, tb_in (List.mem_of_getElem? (i := 725) (by decide +kernel)) rfl⟩
theorem miX3_follow : Cond.instanceMethod yX3_follow ∈ tbG ∧ Cond.selects yX3_follow.cls yX3_follow yX3_follow ∈ tbG := ⟨tb_in (List.mem_of_getElem? (i := 450) (by decide +kernel)) rfl, tb_in (List.mem_of_getElem? (i := 451) (by decide +kernel)) rfl⟩
theorem miX3_total : Cond.instanceMethod yX3_total ∈ tbG ∧ Cond.selects yX3_total.cls yX3_total yX3_total ∈ tbG := ⟨tb_in (List.mem_of_getElem? (i := 615) (by decide +kernel)) rfl, tb_in (List.mem_of_getElem? (i := 616) (by decide +kernel)) rfl⟩
theorem miX3_upsOf : Cond.instanceMethod yX3_upsOf ∈ tbG ∧ Cond.selects yX3_upsOf.cls yX3_upsOf yX3_upsOf ∈ tbG := ⟨tb_in (List.mem_of_getElem? (i := 545) (by decide +kernel)) rfl, tb_in (List.mem_of_getElem? (i := 546) (by decide +kernel)) rfl⟩
theorem miX4_begin : Cond.instanceMethod yX4_begin ∈ tbG ∧ Cond.selects yX4_begin.cls yX4_begin yX4_begin ∈ tbG := ⟨tb_in (List.mem_of_getElem? (i := 607) (by decide +kernel)) rfl, tb_in (List.mem_of_getElem? (i := 608) (by decide +kernel)) rfl⟩
theorem miX4_offer : Cond.instanceMethod yX4_offer ∈ tbG ∧ Cond.selects yX4_offer.cls yX4_offer yX4_offer ∈ tbG := ⟨tb_in (List.mem_of_getElem? (i := 620) (by decide +kernel)) rfl, tb_in (List.mem_of_getElem? (i := 621) (by decide +kernel)) rfl⟩
theorem miX4_tell : Cond.instanceMethod yX4_tell ∈ tbG ∧ Cond.selects yX4_tell.cls yX4_tell yX4_tell ∈ tbG := ⟨tb_in (List.mem_of_getElem? (i := 624) (by decide +kernel)) rfl, tb_in (List.mem_of_getElem? (i := 625) (by decide +kernel)) rfl⟩
theorem miX5_findingAt : Cond.instanceMethod yX5_findingAt ∈ tbG ∧ Cond.selects yX5_findingAt.cls yX5_findingAt yX5_findingAt ∈ tbG := ⟨tb_in (List.mem_of_getElem? (i := 748) (by decide +kernel)) rfl, tb_in (List.mem_of_getElem? (i := 749) (by decide +kernel)) rfl⟩
theorem miX5_holds : Cond.instanceMethod yX5_holds ∈ tbG ∧ Cond.selects yX5_holds.cls yX5_holds yX5_holds ∈ tbG := ⟨tb_in (List.mem_of_getElem? (i := 764) (by decide +kernel)) rfl, tb_in (List.mem_of_getElem? (i := 765) (by decide +kernel)) rfl⟩
theorem miX5_renew : Cond.instanceMethod yX5_renew ∈ tbG ∧ Cond.selects yX5_renew.cls yX5_renew yX5_renew ∈ tbG := ⟨tb_in (List.mem_of_getElem? (i := 735) (by decide +kernel)) rfl, tb_in (List.mem_of_getElem? (i := 736) (by decide +kernel)) rfl⟩
theorem miX6_add : Cond.instanceMethod yX6_add ∈ tbG ∧ Cond.selects yX6_add.cls yX6_add yX6_add ∈ tbG := ⟨tb_in (List.mem_of_getElem? (i := 649) (by decide +kernel)) rfl, tb_in (List.mem_of_getElem? (i := 650) (by decide +kernel)) rfl⟩
theorem miX7_add : Cond.instanceMethod yX7_add ∈ tbG ∧ Cond.selects yX7_add.cls yX7_add yX7_add ∈ tbG := ⟨tb_in (List.mem_of_getElem? (i := 354) (by decide +kernel)) rfl, tb_in (List.mem_of_getElem? (i := 355) (by decide +kernel)) rfl⟩
theorem miX7_at : Cond.instanceMethod yX7_at ∈ tbG ∧ Cond.selects yX7_at.cls yX7_at yX7_at ∈ tbG := ⟨tb_in (List.mem_of_getElem? (i := 374) (by decide +kernel)) rfl, tb_in (List.mem_of_getElem? (i := 375) (by decide +kernel)) rfl⟩
theorem miX8_agrees : Cond.instanceMethod yX8_agrees ∈ tbG ∧ Cond.selects yX8_agrees.cls yX8_agrees yX8_agrees ∈ tbG := ⟨tb_in (List.mem_of_getElem? (i := 666) (by decide +kernel)) rfl, tb_in (List.mem_of_getElem? (i := 17) (by decide +kernel)) rfl⟩
theorem miX8_ask : Cond.instanceMethod yX8_ask ∈ tbG ∧ Cond.selects yX8_ask.cls yX8_ask yX8_ask ∈ tbG := ⟨tb_in (List.mem_of_getElem? (i := 681) (by decide +kernel)) rfl, tb_in (List.mem_of_getElem? (i := 682) (by decide +kernel)) rfl⟩
theorem miX8_bringUpToDate : Cond.instanceMethod yX8_bringUpToDate ∈ tbG ∧ Cond.selects yX8_bringUpToDate.cls yX8_bringUpToDate yX8_bringUpToDate ∈ tbG := ⟨tb_in (List.mem_of_getElem? (i := 396) (by decide +kernel)) rfl, tb_in (List.mem_of_getElem? (i := 3) (by decide +kernel)) rfl⟩
theorem miX8_chalk : Cond.instanceMethod yX8_chalk ∈ tbG ∧ Cond.selects yX8_chalk.cls yX8_chalk yX8_chalk ∈ tbG := ⟨tb_in (List.mem_of_getElem? (i := 677) (by decide +kernel)) rfl, tb_in (List.mem_of_getElem? (i := 678) (by decide +kernel)) rfl⟩
theorem miX8_clean : Cond.instanceMethod yX8_clean ∈ tbG ∧ Cond.selects yX8_clean.cls yX8_clean yX8_clean ∈ tbG := ⟨tb_in (List.mem_of_getElem? (i := 485) (by decide +kernel)) rfl, tb_in (List.mem_of_getElem? (i := 486) (by decide +kernel)) rfl⟩
theorem miX8_count : Cond.instanceMethod yX8_count ∈ tbG ∧ Cond.selects yX8_count.cls yX8_count yX8_count ∈ tbG := ⟨tb_in (List.mem_of_getElem? (i := 773) (by decide +kernel)) rfl, tb_in (List.mem_of_getElem? (i := 774) (by decide +kernel)) rfl⟩
theorem miX8_damp : Cond.instanceMethod yX8_damp ∈ tbG ∧ Cond.selects yX8_damp.cls yX8_damp yX8_damp ∈ tbG := ⟨tb_in (List.mem_of_getElem? (i := 388) (by decide +kernel)) rfl, tb_in (List.mem_of_getElem? (i := 389) (by decide +kernel)) rfl⟩
theorem miX8_deep : Cond.instanceMethod yX8_deep ∈ tbG ∧ Cond.selects yX8_deep.cls yX8_deep yX8_deep ∈ tbG := ⟨tb_in (List.mem_of_getElem? (i := 578) (by decide +kernel)) rfl, tb_in (List.mem_of_getElem? (i := 579) (by decide +kernel)) rfl⟩
theorem miX8_fault : Cond.instanceMethod yX8_fault ∈ tbG ∧ Cond.selects yX8_fault.cls yX8_fault yX8_fault ∈ tbG := ⟨tb_in (List.mem_of_getElem? (i := 366) (by decide +kernel)) rfl, tb_in (List.mem_of_getElem? (i := 367) (by decide +kernel)) rfl⟩
theorem miX8_faultOfDamps : Cond.instanceMethod yX8_faultOfDamps ∈ tbG ∧ Cond.selects yX8_faultOfDamps.cls yX8_faultOfDamps yX8_faultOfDamps ∈ tbG := ⟨tb_in (List.mem_of_getElem? (i := 371) (by decide +kernel)) rfl, tb_in (List.mem_of_getElem? (i := 1) (by decide +kernel)) rfl⟩
theorem miX8_faultOfStrokes : Cond.instanceMethod yX8_faultOfStrokes ∈ tbG ∧ Cond.selects yX8_faultOfStrokes.cls yX8_faultOfStrokes yX8_faultOfStrokes ∈ tbG := ⟨tb_in (List.mem_of_getElem? (i := 382) (by decide +kernel)) rfl, tb_in (List.mem_of_getElem? (i := 2) (by decide +kernel)) rfl⟩
theorem miX8_found : Cond.instanceMethod yX8_found ∈ tbG ∧ Cond.selects yX8_found.cls yX8_found yX8_found ∈ tbG := ⟨tb_in (List.mem_of_getElem? (i := 519) (by decide +kernel)) rfl, tb_in (List.mem_of_getElem? (i := 11) (by decide +kernel)) rfl⟩
theorem miX8_isStroke : Cond.instanceMethod yX8_isStroke ∈ tbG ∧ Cond.selects yX8_isStroke.cls yX8_isStroke yX8_isStroke ∈ tbG := ⟨tb_in (List.mem_of_getElem? (i := 478) (by decide +kernel)) rfl, tb_in (List.mem_of_getElem? (i := 10) (by decide +kernel)) rfl⟩
theorem miX8_misread : Cond.instanceMethod yX8_misread ∈ tbG ∧ Cond.selects yX8_misread.cls yX8_misread yX8_misread ∈ tbG := ⟨tb_in (List.mem_of_getElem? (i := 560) (by decide +kernel)) rfl, tb_in (List.mem_of_getElem? (i := 561) (by decide +kernel)) rfl⟩
theorem miX8_most : Cond.instanceMethod yX8_most ∈ tbG ∧ Cond.selects yX8_most.cls yX8_most yX8_most ∈ tbG := ⟨tb_in (List.mem_of_getElem? (i := 574) (by decide +kernel)) rfl, tb_in (List.mem_of_getElem? (i := 575) (by decide +kernel)) rfl⟩
theorem miX8_mostAlike : Cond.instanceMethod yX8_mostAlike ∈ tbG ∧ Cond.selects yX8_mostAlike.cls yX8_mostAlike yX8_mostAlike ∈ tbG := ⟨tb_in (List.mem_of_getElem? (i := 691) (by decide +kernel)) rfl, tb_in (List.mem_of_getElem? (i := 19) (by decide +kernel)) rfl⟩
theorem miX8_never : Cond.instanceMethod yX8_never ∈ tbG ∧ Cond.selects yX8_never.cls yX8_never yX8_never ∈ tbG := ⟨tb_in (List.mem_of_getElem? (i := 657) (by decide +kernel)) rfl, tb_in (List.mem_of_getElem? (i := 658) (by decide +kernel)) rfl⟩
theorem miX8_oil : Cond.instanceMethod yX8_oil ∈ tbG ∧ Cond.selects yX8_oil.cls yX8_oil yX8_oil ∈ tbG := ⟨tb_in (List.mem_of_getElem? (i := 587) (by decide +kernel)) rfl, tb_in (List.mem_of_getElem? (i := 588) (by decide +kernel)) rfl⟩
theorem miX8_parseDamps : Cond.instanceMethod yX8_parseDamps ∈ tbG ∧ Cond.selects yX8_parseDamps.cls yX8_parseDamps yX8_parseDamps ∈ tbG := ⟨tb_in (List.mem_of_getElem? (i := 400) (by decide +kernel)) rfl, tb_in (List.mem_of_getElem? (i := 4) (by decide +kernel)) rfl⟩
theorem miX8_parseStrokes : Cond.instanceMethod yX8_parseStrokes ∈ tbG ∧ Cond.selects yX8_parseStrokes.cls yX8_parseStrokes yX8_parseStrokes ∈ tbG := ⟨tb_in (List.mem_of_getElem? (i := 407) (by decide +kernel)) rfl, tb_in (List.mem_of_getElem? (i := 5) (by decide +kernel)) rfl⟩
theorem miX8_reckonChance : Cond.instanceMethod yX8_reckonChance ∈ tbG ∧ Cond.selects yX8_reckonChance.cls yX8_reckonChance yX8_reckonChance ∈ tbG := ⟨tb_in (List.mem_of_getElem? (i := 701) (by decide +kernel)) rfl, tb_in (List.mem_of_getElem? (i := 20) (by decide +kernel)) rfl⟩
theorem miX8_seekCell : Cond.instanceMethod yX8_seekCell ∈ tbG ∧ Cond.selects yX8_seekCell.cls yX8_seekCell yX8_seekCell ∈ tbG := ⟨tb_in (List.mem_of_getElem? (i := 633) (by decide +kernel)) rfl, tb_in (List.mem_of_getElem? (i := 14) (by decide +kernel)) rfl⟩
theorem miX8_seekDay : Cond.instanceMethod yX8_seekDay ∈ tbG ∧ Cond.selects yX8_seekDay.cls yX8_seekDay yX8_seekDay ∈ tbG := ⟨tb_in (List.mem_of_getElem? (i := 596) (by decide +kernel)) rfl, tb_in (List.mem_of_getElem? (i := 12) (by decide +kernel)) rfl⟩
theorem miX8_seekDryDay : Cond.instanceMethod yX8_seekDryDay ∈ tbG ∧ Cond.selects yX8_seekDryDay.cls yX8_seekDryDay yX8_seekDryDay ∈ tbG := ⟨tb_in (List.mem_of_getElem? (i := 641) (by decide +kernel)) rfl, tb_in (List.mem_of_getElem? (i := 15) (by decide +kernel)) rfl⟩
theorem miX8_sign : Cond.instanceMethod yX8_sign ∈ tbG ∧ Cond.selects yX8_sign.cls yX8_sign yX8_sign ∈ tbG := ⟨tb_in (List.mem_of_getElem? (i := 673) (by decide +kernel)) rfl, tb_in (List.mem_of_getElem? (i := 674) (by decide +kernel)) rfl⟩
theorem miX8_stands : Cond.instanceMethod yX8_stands ∈ tbG ∧ Cond.selects yX8_stands.cls yX8_stands yX8_stands ∈ tbG := ⟨tb_in (List.mem_of_getElem? (i := 523) (by decide +kernel)) rfl, tb_in (List.mem_of_getElem? (i := 524) (by decide +kernel)) rfl⟩
theorem miX8_state : Cond.instanceMethod yX8_state ∈ tbG ∧ Cond.selects yX8_state.cls yX8_state yX8_state ∈ tbG := ⟨tb_in (List.mem_of_getElem? (i := 534) (by decide +kernel)) rfl, tb_in (List.mem_of_getElem? (i := 535) (by decide +kernel)) rfl⟩
theorem miX8_stroke : Cond.instanceMethod yX8_stroke ∈ tbG ∧ Cond.selects yX8_stroke.cls yX8_stroke yX8_stroke ∈ tbG := ⟨tb_in (List.mem_of_getElem? (i := 473) (by decide +kernel)) rfl, tb_in (List.mem_of_getElem? (i := 474) (by decide +kernel)) rfl⟩
theorem miX8_textOf : Cond.instanceMethod yX8_textOf ∈ tbG ∧ Cond.selects yX8_textOf.cls yX8_textOf yX8_textOf ∈ tbG := ⟨tb_in (List.mem_of_getElem? (i := 351) (by decide +kernel)) rfl, tb_in (List.mem_of_getElem? (i := 0) (by decide +kernel)) rfl⟩
theorem miX8_through : Cond.instanceMethod yX8_through ∈ tbG ∧ Cond.selects yX8_through.cls yX8_through yX8_through ∈ tbG := ⟨tb_in (List.mem_of_getElem? (i := 555) (by decide +kernel)) rfl, tb_in (List.mem_of_getElem? (i := 556) (by decide +kernel)) rfl⟩
theorem miX8_tryWithout : Cond.instanceMethod yX8_tryWithout ∈ tbG ∧ Cond.selects yX8_tryWithout.cls yX8_tryWithout yX8_tryWithout ∈ tbG := ⟨tb_in (List.mem_of_getElem? (i := 662) (by decide +kernel)) rfl, tb_in (List.mem_of_getElem? (i := 16) (by decide +kernel)) rfl⟩
theorem miX8_up : Cond.instanceMethod yX8_up ∈ tbG ∧ Cond.selects yX8_up.cls yX8_up yX8_up ∈ tbG := ⟨tb_in (List.mem_of_getElem? (i := 540) (by decide +kernel)) rfl, tb_in (List.mem_of_getElem? (i := 541) (by decide +kernel)) rfl⟩
theorem miX8_upsInTrial : Cond.instanceMethod yX8_upsInTrial ∈ tbG ∧ Cond.selects yX8_upsInTrial.cls yX8_upsInTrial yX8_upsInTrial ∈ tbG := ⟨tb_in (List.mem_of_getElem? (i := 612) (by decide +kernel)) rfl, tb_in (List.mem_of_getElem? (i := 13) (by decide +kernel)) rfl⟩
theorem miX8_viewWithoutEach : Cond.instanceMethod yX8_viewWithoutEach ∈ tbG ∧ Cond.selects yX8_viewWithoutEach.cls yX8_viewWithoutEach yX8_viewWithoutEach ∈ tbG := ⟨tb_in (List.mem_of_getElem? (i := 687) (by decide +kernel)) rfl, tb_in (List.mem_of_getElem? (i := 18) (by decide +kernel)) rfl⟩
theorem miX8_weather : Cond.instanceMethod yX8_weather ∈ tbG ∧ Cond.selects yX8_weather.cls yX8_weather yX8_weather ∈ tbG := ⟨tb_in (List.mem_of_getElem? (i := 719) (by decide +kernel)) rfl, tb_in (List.mem_of_getElem? (i := 720) (by decide +kernel)) rfl⟩
theorem miX8_withDay : Cond.instanceMethod yX8_withDay ∈ tbG ∧ Cond.selects yX8_withDay.cls yX8_withDay yX8_withDay ∈ tbG := ⟨tb_in (List.mem_of_getElem? (i := 786) (by decide +kernel)) rfl, tb_in (List.mem_of_getElem? (i := 21) (by decide +kernel)) rfl⟩
theorem miX8_withFewest : Cond.instanceMethod yX8_withFewest ∈ tbG ∧ Cond.selects yX8_withFewest.cls yX8_withFewest yX8_withFewest ∈ tbG := ⟨tb_in (List.mem_of_getElem? (i := 800) (by decide +kernel)) rfl, tb_in (List.mem_of_getElem? (i := 23) (by decide +kernel)) rfl⟩
theorem miX8_withStroke : Cond.instanceMethod yX8_withStroke ∈ tbG ∧ Cond.selects yX8_withStroke.cls yX8_withStroke yX8_withStroke ∈ tbG := ⟨tb_in (List.mem_of_getElem? (i := 793) (by decide +kernel)) rfl, tb_in (List.mem_of_getElem? (i := 22) (by decide +kernel)) rfl⟩
theorem miX9_allUp : Cond.instanceMethod yX9_allUp ∈ tbG ∧ Cond.selects yX9_allUp.cls yX9_allUp yX9_allUp ∈ tbG := ⟨tb_in (List.mem_of_getElem? (i := 1141) (by decide +kernel)) rfl, tb_in (List.mem_of_getElem? (i := 53) (by decide +kernel)) rfl⟩
theorem miX9_asTold : Cond.instanceMethod yX9_asTold ∈ tbG ∧ Cond.selects yX9_asTold.cls yX9_asTold yX9_asTold ∈ tbG := ⟨tb_in (List.mem_of_getElem? (i := 1043) (by decide +kernel)) rfl, tb_in (List.mem_of_getElem? (i := 37) (by decide +kernel)) rfl⟩
theorem miX9_askOf : Cond.instanceMethod yX9_askOf ∈ tbG ∧ Cond.selects yX9_askOf.cls yX9_askOf yX9_askOf ∈ tbG := ⟨tb_in (List.mem_of_getElem? (i := 1209) (by decide +kernel)) rfl, tb_in (List.mem_of_getElem? (i := 61) (by decide +kernel)) rfl⟩
theorem miX9_byteAt : Cond.instanceMethod yX9_byteAt ∈ tbG ∧ Cond.selects yX9_byteAt.cls yX9_byteAt yX9_byteAt ∈ tbG := ⟨tb_in (List.mem_of_getElem? (i := 969) (by decide +kernel)) rfl, tb_in (List.mem_of_getElem? (i := 29) (by decide +kernel)) rfl⟩
theorem miX9_chalkOf : Cond.instanceMethod yX9_chalkOf ∈ tbG ∧ Cond.selects yX9_chalkOf.cls yX9_chalkOf yX9_chalkOf ∈ tbG := ⟨tb_in (List.mem_of_getElem? (i := 1201) (by decide +kernel)) rfl, tb_in (List.mem_of_getElem? (i := 60) (by decide +kernel)) rfl⟩
theorem miX9_clean : Cond.instanceMethod yX9_clean ∈ tbG ∧ Cond.selects yX9_clean.cls yX9_clean yX9_clean ∈ tbG := ⟨tb_in (List.mem_of_getElem? (i := 1003) (by decide +kernel)) rfl, tb_in (List.mem_of_getElem? (i := 1004) (by decide +kernel)) rfl⟩
theorem miX9_count : Cond.instanceMethod yX9_count ∈ tbG ∧ Cond.selects yX9_count.cls yX9_count yX9_count ∈ tbG := ⟨tb_in (List.mem_of_getElem? (i := 1269) (by decide +kernel)) rfl, tb_in (List.mem_of_getElem? (i := 1270) (by decide +kernel)) rfl⟩
theorem miX9_dampOf : Cond.instanceMethod yX9_dampOf ∈ tbG ∧ Cond.selects yX9_dampOf.cls yX9_dampOf yX9_dampOf ∈ tbG := ⟨tb_in (List.mem_of_getElem? (i := 980) (by decide +kernel)) rfl, tb_in (List.mem_of_getElem? (i := 30) (by decide +kernel)) rfl⟩
theorem miX9_dayDigest : Cond.instanceMethod yX9_dayDigest ∈ tbG ∧ Cond.selects yX9_dayDigest.cls yX9_dayDigest yX9_dayDigest ∈ tbG := ⟨tb_in (List.mem_of_getElem? (i := 1285) (by decide +kernel)) rfl, tb_in (List.mem_of_getElem? (i := 67) (by decide +kernel)) rfl⟩
theorem miX9_deepOf : Cond.instanceMethod yX9_deepOf ∈ tbG ∧ Cond.selects yX9_deepOf.cls yX9_deepOf yX9_deepOf ∈ tbG := ⟨tb_in (List.mem_of_getElem? (i := 1129) (by decide +kernel)) rfl, tb_in (List.mem_of_getElem? (i := 51) (by decide +kernel)) rfl⟩
theorem miX9_dryOf : Cond.instanceMethod yX9_dryOf ∈ tbG ∧ Cond.selects yX9_dryOf.cls yX9_dryOf yX9_dryOf ∈ tbG := ⟨tb_in (List.mem_of_getElem? (i := 1165) (by decide +kernel)) rfl, tb_in (List.mem_of_getElem? (i := 56) (by decide +kernel)) rfl⟩
theorem miX9_drynessOf : Cond.instanceMethod yX9_drynessOf ∈ tbG ∧ Cond.selects yX9_drynessOf.cls yX9_drynessOf yX9_drynessOf ∈ tbG := ⟨tb_in (List.mem_of_getElem? (i := 1217) (by decide +kernel)) rfl, tb_in (List.mem_of_getElem? (i := 62) (by decide +kernel)) rfl⟩
theorem miX9_faultOf : Cond.instanceMethod yX9_faultOf ∈ tbG ∧ Cond.selects yX9_faultOf.cls yX9_faultOf yX9_faultOf ∈ tbG := ⟨tb_in (List.mem_of_getElem? (i := 949) (by decide +kernel)) rfl, tb_in (List.mem_of_getElem? (i := 24) (by decide +kernel)) rfl⟩
theorem miX9_goesBy : Cond.instanceMethod yX9_goesBy ∈ tbG ∧ Cond.selects yX9_goesBy.cls yX9_goesBy yX9_goesBy ∈ tbG := ⟨tb_in (List.mem_of_getElem? (i := 1051) (by decide +kernel)) rfl, tb_in (List.mem_of_getElem? (i := 39) (by decide +kernel)) rfl⟩
theorem miX9_goesIn : Cond.instanceMethod yX9_goesIn ∈ tbG ∧ Cond.selects yX9_goesIn.cls yX9_goesIn yX9_goesIn ∈ tbG := ⟨tb_in (List.mem_of_getElem? (i := 1055) (by decide +kernel)) rfl, tb_in (List.mem_of_getElem? (i := 40) (by decide +kernel)) rfl⟩
theorem miX9_isMisread : Cond.instanceMethod yX9_isMisread ∈ tbG ∧ Cond.selects yX9_isMisread.cls yX9_isMisread yX9_isMisread ∈ tbG := ⟨tb_in (List.mem_of_getElem? (i := 1113) (by decide +kernel)) rfl, tb_in (List.mem_of_getElem? (i := 49) (by decide +kernel)) rfl⟩
theorem miX9_isOiled : Cond.instanceMethod yX9_isOiled ∈ tbG ∧ Cond.selects yX9_isOiled.cls yX9_isOiled yX9_isOiled ∈ tbG := ⟨tb_in (List.mem_of_getElem? (i := 1062) (by decide +kernel)) rfl, tb_in (List.mem_of_getElem? (i := 41) (by decide +kernel)) rfl⟩
theorem miX9_isSeen : Cond.instanceMethod yX9_isSeen ∈ tbG ∧ Cond.selects yX9_isSeen.cls yX9_isSeen yX9_isSeen ∈ tbG := ⟨tb_in (List.mem_of_getElem? (i := 1185) (by decide +kernel)) rfl, tb_in (List.mem_of_getElem? (i := 58) (by decide +kernel)) rfl⟩
theorem miX9_isStroke : Cond.instanceMethod yX9_isStroke ∈ tbG ∧ Cond.selects yX9_isStroke.cls yX9_isStroke yX9_isStroke ∈ tbG := ⟨tb_in (List.mem_of_getElem? (i := 992) (by decide +kernel)) rfl, tb_in (List.mem_of_getElem? (i := 32) (by decide +kernel)) rfl⟩
theorem miX9_isTop : Cond.instanceMethod yX9_isTop ∈ tbG ∧ Cond.selects yX9_isTop.cls yX9_isTop yX9_isTop ∈ tbG := ⟨tb_in (List.mem_of_getElem? (i := 1066) (by decide +kernel)) rfl, tb_in (List.mem_of_getElem? (i := 42) (by decide +kernel)) rfl⟩
theorem miX9_isWell : Cond.instanceMethod yX9_isWell ∈ tbG ∧ Cond.selects yX9_isWell.cls yX9_isWell yX9_isWell ∈ tbG := ⟨tb_in (List.mem_of_getElem? (i := 965) (by decide +kernel)) rfl, tb_in (List.mem_of_getElem? (i := 28) (by decide +kernel)) rfl⟩
theorem miX9_keep : Cond.instanceMethod yX9_keep ∈ tbG ∧ Cond.selects yX9_keep.cls yX9_keep yX9_keep ∈ tbG := ⟨tb_in (List.mem_of_getElem? (i := 1253) (by decide +kernel)) rfl, tb_in (List.mem_of_getElem? (i := 65) (by decide +kernel)) rfl⟩
theorem miX9_lacks : Cond.instanceMethod yX9_lacks ∈ tbG ∧ Cond.selects yX9_lacks.cls yX9_lacks yX9_lacks ∈ tbG := ⟨tb_in (List.mem_of_getElem? (i := 1249) (by decide +kernel)) rfl, tb_in (List.mem_of_getElem? (i := 64) (by decide +kernel)) rfl⟩
theorem miX9_meets : Cond.instanceMethod yX9_meets ∈ tbG ∧ Cond.selects yX9_meets.cls yX9_meets yX9_meets ∈ tbG := ⟨tb_in (List.mem_of_getElem? (i := 1023) (by decide +kernel)) rfl, tb_in (List.mem_of_getElem? (i := 34) (by decide +kernel)) rfl⟩
theorem miX9_misreadOf : Cond.instanceMethod yX9_misreadOf ∈ tbG ∧ Cond.selects yX9_misreadOf.cls yX9_misreadOf yX9_misreadOf ∈ tbG := ⟨tb_in (List.mem_of_getElem? (i := 1109) (by decide +kernel)) rfl, tb_in (List.mem_of_getElem? (i := 48) (by decide +kernel)) rfl⟩
theorem miX9_mostNow : Cond.instanceMethod yX9_mostNow ∈ tbG ∧ Cond.selects yX9_mostNow.cls yX9_mostNow yX9_mostNow ∈ tbG := ⟨tb_in (List.mem_of_getElem? (i := 1121) (by decide +kernel)) rfl, tb_in (List.mem_of_getElem? (i := 50) (by decide +kernel)) rfl⟩
theorem miX9_neverNow : Cond.instanceMethod yX9_neverNow ∈ tbG ∧ Cond.selects yX9_neverNow.cls yX9_neverNow yX9_neverNow ∈ tbG := ⟨tb_in (List.mem_of_getElem? (i := 1181) (by decide +kernel)) rfl, tb_in (List.mem_of_getElem? (i := 57) (by decide +kernel)) rfl⟩
theorem miX9_oilOf : Cond.instanceMethod yX9_oilOf ∈ tbG ∧ Cond.selects yX9_oilOf.cls yX9_oilOf yX9_oilOf ∈ tbG := ⟨tb_in (List.mem_of_getElem? (i := 1137) (by decide +kernel)) rfl, tb_in (List.mem_of_getElem? (i := 52) (by decide +kernel)) rfl⟩
theorem miX9_placeOf : Cond.instanceMethod yX9_placeOf ∈ tbG ∧ Cond.selects yX9_placeOf.cls yX9_placeOf yX9_placeOf ∈ tbG := ⟨tb_in (List.mem_of_getElem? (i := 1157) (by decide +kernel)) rfl, tb_in (List.mem_of_getElem? (i := 55) (by decide +kernel)) rfl⟩
theorem miX9_reads : Cond.instanceMethod yX9_reads ∈ tbG ∧ Cond.selects yX9_reads.cls yX9_reads yX9_reads ∈ tbG := ⟨tb_in (List.mem_of_getElem? (i := 984) (by decide +kernel)) rfl, tb_in (List.mem_of_getElem? (i := 31) (by decide +kernel)) rfl⟩
theorem miX9_readsDamps : Cond.instanceMethod yX9_readsDamps ∈ tbG ∧ Cond.selects yX9_readsDamps.cls yX9_readsDamps yX9_readsDamps ∈ tbG := ⟨tb_in (List.mem_of_getElem? (i := 953) (by decide +kernel)) rfl, tb_in (List.mem_of_getElem? (i := 25) (by decide +kernel)) rfl⟩
theorem miX9_readsStroke : Cond.instanceMethod yX9_readsStroke ∈ tbG ∧ Cond.selects yX9_readsStroke.cls yX9_readsStroke yX9_readsStroke ∈ tbG := ⟨tb_in (List.mem_of_getElem? (i := 961) (by decide +kernel)) rfl, tb_in (List.mem_of_getElem? (i := 27) (by decide +kernel)) rfl⟩
theorem miX9_readsStrokes : Cond.instanceMethod yX9_readsStrokes ∈ tbG ∧ Cond.selects yX9_readsStrokes.cls yX9_readsStrokes yX9_readsStrokes ∈ tbG := ⟨tb_in (List.mem_of_getElem? (i := 957) (by decide +kernel)) rfl, tb_in (List.mem_of_getElem? (i := 26) (by decide +kernel)) rfl⟩
theorem miX9_runs : Cond.instanceMethod yX9_runs ∈ tbG ∧ Cond.selects yX9_runs.cls yX9_runs yX9_runs ∈ tbG := ⟨tb_in (List.mem_of_getElem? (i := 1047) (by decide +kernel)) rfl, tb_in (List.mem_of_getElem? (i := 38) (by decide +kernel)) rfl⟩
theorem miX9_runsTold : Cond.instanceMethod yX9_runsTold ∈ tbG ∧ Cond.selects yX9_runsTold.cls yX9_runsTold yX9_runsTold ∈ tbG := ⟨tb_in (List.mem_of_getElem? (i := 1039) (by decide +kernel)) rfl, tb_in (List.mem_of_getElem? (i := 36) (by decide +kernel)) rfl⟩
theorem miX9_signOf : Cond.instanceMethod yX9_signOf ∈ tbG ∧ Cond.selects yX9_signOf.cls yX9_signOf yX9_signOf ∈ tbG := ⟨tb_in (List.mem_of_getElem? (i := 1193) (by decide +kernel)) rfl, tb_in (List.mem_of_getElem? (i := 59) (by decide +kernel)) rfl⟩
theorem miX9_standsNow : Cond.instanceMethod yX9_standsNow ∈ tbG ∧ Cond.selects yX9_standsNow.cls yX9_standsNow yX9_standsNow ∈ tbG := ⟨tb_in (List.mem_of_getElem? (i := 1070) (by decide +kernel)) rfl, tb_in (List.mem_of_getElem? (i := 43) (by decide +kernel)) rfl⟩
theorem miX9_standsOf : Cond.instanceMethod yX9_standsOf ∈ tbG ∧ Cond.selects yX9_standsOf.cls yX9_standsOf yX9_standsOf ∈ tbG := ⟨tb_in (List.mem_of_getElem? (i := 1035) (by decide +kernel)) rfl, tb_in (List.mem_of_getElem? (i := 35) (by decide +kernel)) rfl⟩
theorem miX9_stateOf : Cond.instanceMethod yX9_stateOf ∈ tbG ∧ Cond.selects yX9_stateOf.cls yX9_stateOf yX9_stateOf ∈ tbG := ⟨tb_in (List.mem_of_getElem? (i := 1078) (by decide +kernel)) rfl, tb_in (List.mem_of_getElem? (i := 44) (by decide +kernel)) rfl⟩
theorem miX9_strokeDigest : Cond.instanceMethod yX9_strokeDigest ∈ tbG ∧ Cond.selects yX9_strokeDigest.cls yX9_strokeDigest yX9_strokeDigest ∈ tbG := ⟨tb_in (List.mem_of_getElem? (i := 1289) (by decide +kernel)) rfl, tb_in (List.mem_of_getElem? (i := 68) (by decide +kernel)) rfl⟩
theorem miX9_strokeOf : Cond.instanceMethod yX9_strokeOf ∈ tbG ∧ Cond.selects yX9_strokeOf.cls yX9_strokeOf yX9_strokeOf ∈ tbG := ⟨tb_in (List.mem_of_getElem? (i := 996) (by decide +kernel)) rfl, tb_in (List.mem_of_getElem? (i := 33) (by decide +kernel)) rfl⟩
theorem miX9_sumOf : Cond.instanceMethod yX9_sumOf ∈ tbG ∧ Cond.selects yX9_sumOf.cls yX9_sumOf yX9_sumOf ∈ tbG := ⟨tb_in (List.mem_of_getElem? (i := 1274) (by decide +kernel)) rfl, tb_in (List.mem_of_getElem? (i := 66) (by decide +kernel)) rfl⟩
theorem miX9_throughOf : Cond.instanceMethod yX9_throughOf ∈ tbG ∧ Cond.selects yX9_throughOf.cls yX9_throughOf yX9_throughOf ∈ tbG := ⟨tb_in (List.mem_of_getElem? (i := 1098) (by decide +kernel)) rfl, tb_in (List.mem_of_getElem? (i := 47) (by decide +kernel)) rfl⟩
theorem miX9_upOf : Cond.instanceMethod yX9_upOf ∈ tbG ∧ Cond.selects yX9_upOf.cls yX9_upOf yX9_upOf ∈ tbG := ⟨tb_in (List.mem_of_getElem? (i := 1086) (by decide +kernel)) rfl, tb_in (List.mem_of_getElem? (i := 45) (by decide +kernel)) rfl⟩
theorem miX9_upsOf : Cond.instanceMethod yX9_upsOf ∈ tbG ∧ Cond.selects yX9_upsOf.cls yX9_upsOf yX9_upsOf ∈ tbG := ⟨tb_in (List.mem_of_getElem? (i := 1090) (by decide +kernel)) rfl, tb_in (List.mem_of_getElem? (i := 46) (by decide +kernel)) rfl⟩
theorem miX9_weatherOf : Cond.instanceMethod yX9_weatherOf ∈ tbG ∧ Cond.selects yX9_weatherOf.cls yX9_weatherOf yX9_weatherOf ∈ tbG := ⟨tb_in (List.mem_of_getElem? (i := 1232) (by decide +kernel)) rfl, tb_in (List.mem_of_getElem? (i := 63) (by decide +kernel)) rfl⟩
theorem miX9_whenOf : Cond.instanceMethod yX9_whenOf ∈ tbG ∧ Cond.selects yX9_whenOf.cls yX9_whenOf yX9_whenOf ∈ tbG := ⟨tb_in (List.mem_of_getElem? (i := 1149) (by decide +kernel)) rfl, tb_in (List.mem_of_getElem? (i := 54) (by decide +kernel)) rfl⟩
theorem msJ6_bitCount_0f7a4 : Cond.static yJ6_bitCount_0f7a4 ∈ tbG := tb_in (List.mem_of_getElem? (i := 549) (by decide +kernel)) rfl
theorem msX8_fitsStroke : Cond.static yX8_fitsStroke ∈ tbG := tb_in (List.mem_of_getElem? (i := 385) (by decide +kernel)) rfl
theorem msX8_has : Cond.static yX8_has ∈ tbG := tb_in (List.mem_of_getElem? (i := 421) (by decide +kernel)) rfl
theorem msX8_hasBit : Cond.static yX8_hasBit ∈ tbG := tb_in (List.mem_of_getElem? (i := 571) (by decide +kernel)) rfl
theorem msX8_isCell : Cond.static yX8_isCell ∈ tbG := tb_in (List.mem_of_getElem? (i := 527) (by decide +kernel)) rfl
theorem msX8_isDay : Cond.static yX8_isDay ∈ tbG := tb_in (List.mem_of_getElem? (i := 392) (by decide +kernel)) rfl
theorem msX8_isEither : Cond.static yX8_isEither ∈ tbG := tb_in (List.mem_of_getElem? (i := 508) (by decide +kernel)) rfl
theorem msX8_isForm : Cond.static yX8_isForm ∈ tbG := tb_in (List.mem_of_getElem? (i := 732) (by decide +kernel)) rfl
theorem msX8_isLine : Cond.static yX8_isLine ∈ tbG := tb_in (List.mem_of_getElem? (i := 489) (by decide +kernel)) rfl
theorem msX8_isSheet : Cond.static yX8_isSheet ∈ tbG := tb_in (List.mem_of_getElem? (i := 515) (by decide +kernel)) rfl
theorem msX8_isText : Cond.static yX8_isText ∈ tbG := tb_in (List.mem_of_getElem? (i := 347) (by decide +kernel)) rfl
theorem msX8_isWithin : Cond.static yX8_isWithin ∈ tbG := tb_in (List.mem_of_getElem? (i := 378) (by decide +kernel)) rfl
theorem msX8_leastLine : Cond.static yX8_leastLine ∈ tbG := tb_in (List.mem_of_getElem? (i := 568) (by decide +kernel)) rfl
theorem msX8_lowestBits : Cond.static yX8_lowestBits ∈ tbG := tb_in (List.mem_of_getElem? (i := 752) (by decide +kernel)) rfl
theorem msX8_only : Cond.static yX8_only ∈ tbG := tb_in (List.mem_of_getElem? (i := 414) (by decide +kernel)) rfl
theorem msX8_stillFrom : Cond.static yX8_stillFrom ∈ tbG := tb_in (List.mem_of_getElem? (i := 709) (by decide +kernel)) rfl
theorem msX8_strengthIn : Cond.static yX8_strengthIn ∈ tbG := tb_in (List.mem_of_getElem? (i := 466) (by decide +kernel)) rfl
theorem msX9_in : Cond.static yX9_in ∈ tbG := tb_in (List.mem_of_getElem? (i := 933) (by decide +kernel)) rfl
theorem msX9_isCell : Cond.static yX9_isCell ∈ tbG := tb_in (List.mem_of_getElem? (i := 1031) (by decide +kernel)) rfl
theorem msX9_isDay : Cond.static yX9_isDay ∈ tbG := tb_in (List.mem_of_getElem? (i := 976) (by decide +kernel)) rfl
theorem msX9_isIn : Cond.static yX9_isIn ∈ tbG := tb_in (List.mem_of_getElem? (i := 1058) (by decide +kernel)) rfl
theorem msX9_isSheet : Cond.static yX9_isSheet ∈ tbG := tb_in (List.mem_of_getElem? (i := 1019) (by decide +kernel)) rfl
theorem msX9_isText : Cond.static yX9_isText ∈ tbG := tb_in (List.mem_of_getElem? (i := 930) (by decide +kernel)) rfl
theorem msX9_lowest : Cond.static yX9_lowest ∈ tbG := tb_in (List.mem_of_getElem? (i := 1220) (by decide +kernel)) rfl
theorem msX9_no : Cond.static yX9_no ∈ tbG := tb_in (List.mem_of_getElem? (i := 1223) (by decide +kernel)) rfl
theorem msX9_ones : Cond.static yX9_ones ∈ tbG := tb_in (List.mem_of_getElem? (i := 1101) (by decide +kernel)) rfl
theorem lkX0_40 : Cond.methodLink RX0 40 arraycopyName ∈ tbG := tb_in (List.mem_of_getElem? (i := 603) (by decide +kernel)) rfl
theorem lkX0_46 : Cond.methodLink RX0 46 yX8_only ∈ tbG ∨ ∃ host, Cond.methodLinkNest RX0 46 yX8_only host ∈ nsL := Or.inr ⟨"BoardRemembers", ns_in (List.mem_of_getElem? (i := 413) (by decide +kernel)) rfl⟩
theorem lkX0_50 : Cond.methodLink RX0 50 yX8_has ∈ tbG ∨ ∃ host, Cond.methodLinkNest RX0 50 yX8_has host ∈ nsL := Or.inr ⟨"BoardRemembers", ns_in (List.mem_of_getElem? (i := 420) (by decide +kernel)) rfl⟩
theorem lkX0_54 : Cond.methodLink RX0 54 yX0_onCell ∈ tbG := tb_in (List.mem_of_getElem? (i := 423) (by decide +kernel)) rfl
theorem lkX0_57 : Cond.methodLink RX0 57 yX0_goesIn ∈ tbG := tb_in (List.mem_of_getElem? (i := 427) (by decide +kernel)) rfl
theorem lkX0_61 : Cond.methodLink RX0 61 yX0_settleStroke ∈ tbG := tb_in (List.mem_of_getElem? (i := 436) (by decide +kernel)) rfl
theorem lkX0_65 : Cond.methodLink RX0 65 yX1_oiledFrom ∈ tbG := tb_in (List.mem_of_getElem? (i := 441) (by decide +kernel)) rfl
theorem lkX0_70 : Cond.methodLink RX0 70 yX0_settleAble ∈ tbG := tb_in (List.mem_of_getElem? (i := 445) (by decide +kernel)) rfl
theorem lkX0_73 : Cond.methodLink RX0 73 yX1_wipedBehind ∈ tbG := tb_in (List.mem_of_getElem? (i := 431) (by decide +kernel)) rfl
theorem lkX0_77 : Cond.methodLink RX0 77 Lib.Math.min.name ∈ tbG := tb_in (List.mem_of_getElem? (i := 435) (by decide +kernel)) rfl
theorem lkX0_82 : Cond.methodLink RX0 82 Lib.Math.max.name ∈ tbG := tb_in (List.mem_of_getElem? (i := 440) (by decide +kernel)) rfl
theorem lkX0_85 : Cond.methodLink RX0 85 yX0_strongest ∈ tbG := tb_in (List.mem_of_getElem? (i := 461) (by decide +kernel)) rfl
theorem lkX0_88 : Cond.methodLink RX0 88 yX8_strengthIn ∈ tbG ∨ ∃ host, Cond.methodLinkNest RX0 88 yX8_strengthIn host ∈ nsL := Or.inr ⟨"BoardRemembers", ns_in (List.mem_of_getElem? (i := 465) (by decide +kernel)) rfl⟩
theorem lkX0_91 : Cond.methodLink RX0 91 yJ6_bitCount_0f7a4 ∈ tbG ∨ ∃ host, Cond.methodLinkNest RX0 91 yJ6_bitCount_0f7a4 host ∈ nsL := Or.inl (tb_in (List.mem_of_getElem? (i := 585) (by decide +kernel)) rfl)
theorem lkX3_18 : Cond.methodLink RX3 18 yX0_freshStrengths ∈ tbG := tb_in (List.mem_of_getElem? (i := 453) (by decide +kernel)) rfl
theorem lkX3_24 : Cond.methodLink RX3 24 yX0_risenOn ∈ tbG := tb_in (List.mem_of_getElem? (i := 457) (by decide +kernel)) rfl
theorem lkX3_28 : Cond.methodLink RX3 28 yX0_weathered ∈ tbG := tb_in (List.mem_of_getElem? (i := 468) (by decide +kernel)) rfl
theorem lkX3_32 : Cond.methodLink RX3 32 yJ6_bitCount_0f7a4 ∈ tbG ∨ ∃ host, Cond.methodLinkNest RX3 32 yJ6_bitCount_0f7a4 host ∈ nsL := Or.inl (tb_in (List.mem_of_getElem? (i := 548) (by decide +kernel)) rfl)
theorem lkX3_38 : Cond.methodLink RX3 38 yX3_upsOf ∈ tbG := tb_in (List.mem_of_getElem? (i := 618) (by decide +kernel)) rfl
theorem lkX5_26 : Cond.methodLink RX5 26 Lib.Math.min.name ∈ tbG := tb_in (List.mem_of_getElem? (i := 738) (by decide +kernel)) rfl
theorem lkX8_100 : Cond.methodLink RX8 100 yX8_isText ∈ tbG ∨ ∃ host, Cond.methodLinkNest RX8 100 yX8_isText host ∈ nsL := Or.inl (tb_in (List.mem_of_getElem? (i := 346) (by decide +kernel)) rfl)
theorem lkX8_104 : Cond.methodLink RX8 104 yX8_textOf ∈ tbG := tb_in (List.mem_of_getElem? (i := 349) (by decide +kernel)) rfl
theorem lkX8_108 : Cond.methodLink RX8 108 yX7_add ∈ tbG := tb_in (List.mem_of_getElem? (i := 353) (by decide +kernel)) rfl
theorem lkX8_114 : Cond.methodLink RX8 114 yX8_faultOfDamps ∈ tbG := tb_in (List.mem_of_getElem? (i := 369) (by decide +kernel)) rfl
theorem lkX8_118 : Cond.methodLink RX8 118 yX8_faultOfStrokes ∈ tbG := tb_in (List.mem_of_getElem? (i := 380) (by decide +kernel)) rfl
theorem lkX8_121 : Cond.methodLink RX8 121 yX8_isDay ∈ tbG ∨ ∃ host, Cond.methodLinkNest RX8 121 yX8_isDay host ∈ nsL := Or.inl (tb_in (List.mem_of_getElem? (i := 391) (by decide +kernel)) rfl)
theorem lkX8_124 : Cond.methodLink RX8 124 yX8_bringUpToDate ∈ tbG := tb_in (List.mem_of_getElem? (i := 394) (by decide +kernel)) rfl
theorem lkX8_127 : Cond.methodLink RX8 127 yX8_isStroke ∈ tbG := tb_in (List.mem_of_getElem? (i := 476) (by decide +kernel)) rfl
theorem lkX8_142 : Cond.methodLink RX8 142 yX8_isLine ∈ tbG ∨ ∃ host, Cond.methodLinkNest RX8 142 yX8_isLine host ∈ nsL := Or.inl (tb_in (List.mem_of_getElem? (i := 488) (by decide +kernel)) rfl)
theorem lkX8_145 : Cond.methodLink RX8 145 yX1_addWipe ∈ tbG := tb_in (List.mem_of_getElem? (i := 491) (by decide +kernel)) rfl
theorem lkX8_152 : Cond.methodLink RX8 152 yX1_addOil ∈ tbG := tb_in (List.mem_of_getElem? (i := 499) (by decide +kernel)) rfl
theorem lkX8_158 : Cond.methodLink RX8 158 yX8_isEither ∈ tbG ∨ ∃ host, Cond.methodLinkNest RX8 158 yX8_isEither host ∈ nsL := Or.inl (tb_in (List.mem_of_getElem? (i := 507) (by decide +kernel)) rfl)
theorem lkX8_161 : Cond.methodLink RX8 161 yX8_isSheet ∈ tbG ∨ ∃ host, Cond.methodLinkNest RX8 161 yX8_isSheet host ∈ nsL := Or.inl (tb_in (List.mem_of_getElem? (i := 514) (by decide +kernel)) rfl)
theorem lkX8_167 : Cond.methodLink RX8 167 yX8_found ∈ tbG := tb_in (List.mem_of_getElem? (i := 517) (by decide +kernel)) rfl
theorem lkX8_175 : Cond.methodLink RX8 175 yX8_clean ∈ tbG := tb_in (List.mem_of_getElem? (i := 521) (by decide +kernel)) rfl
theorem lkX8_179 : Cond.methodLink RX8 179 yX8_isCell ∈ tbG ∨ ∃ host, Cond.methodLinkNest RX8 179 yX8_isCell host ∈ nsL := Or.inl (tb_in (List.mem_of_getElem? (i := 526) (by decide +kernel)) rfl)
theorem lkX8_185 : Cond.methodLink RX8 185 yX0_shownOn ∈ tbG := tb_in (List.mem_of_getElem? (i := 529) (by decide +kernel)) rfl
theorem lkX8_192 : Cond.methodLink RX8 192 yX8_has ∈ tbG ∨ ∃ host, Cond.methodLinkNest RX8 192 yX8_has host ∈ nsL := Or.inl (tb_in (List.mem_of_getElem? (i := 537) (by decide +kernel)) rfl)
theorem lkX8_198 : Cond.methodLink RX8 198 yX8_strengthIn ∈ tbG ∨ ∃ host, Cond.methodLinkNest RX8 198 yX8_strengthIn host ∈ nsL := Or.inl (tb_in (List.mem_of_getElem? (i := 538) (by decide +kernel)) rfl)
theorem lkX8_204 : Cond.methodLink RX8 204 yX8_only ∈ tbG ∨ ∃ host, Cond.methodLinkNest RX8 204 yX8_only host ∈ nsL := Or.inl (tb_in (List.mem_of_getElem? (i := 543) (by decide +kernel)) rfl)
theorem lkX8_207 : Cond.methodLink RX8 207 yX3_upsOf ∈ tbG := tb_in (List.mem_of_getElem? (i := 544) (by decide +kernel)) rfl
theorem lkX8_210 : Cond.methodLink RX8 210 yJ6_bitCount_0f7a4 ∈ tbG ∨ ∃ host, Cond.methodLinkNest RX8 210 yJ6_bitCount_0f7a4 host ∈ nsL := Or.inl (tb_in (List.mem_of_getElem? (i := 558) (by decide +kernel)) rfl)
theorem lkX8_215 : Cond.methodLink RX8 215 yX0_linesOf ∈ tbG := tb_in (List.mem_of_getElem? (i := 563) (by decide +kernel)) rfl
theorem lkX8_218 : Cond.methodLink RX8 218 yX8_leastLine ∈ tbG ∨ ∃ host, Cond.methodLinkNest RX8 218 yX8_leastLine host ∈ nsL := Or.inl (tb_in (List.mem_of_getElem? (i := 567) (by decide +kernel)) rfl)
theorem lkX8_224 : Cond.methodLink RX8 224 yX0_deepestCell ∈ tbG := tb_in (List.mem_of_getElem? (i := 581) (by decide +kernel)) rfl
theorem lkX8_227 : Cond.methodLink RX8 227 yX8_seekDay ∈ tbG := tb_in (List.mem_of_getElem? (i := 594) (by decide +kernel)) rfl
theorem lkX8_230 : Cond.methodLink RX8 230 yX4_tell ∈ tbG := tb_in (List.mem_of_getElem? (i := 623) (by decide +kernel)) rfl
theorem lkX8_233 : Cond.methodLink RX8 233 yX8_seekCell ∈ tbG := tb_in (List.mem_of_getElem? (i := 631) (by decide +kernel)) rfl
theorem lkX8_236 : Cond.methodLink RX8 236 yX8_seekDryDay ∈ tbG := tb_in (List.mem_of_getElem? (i := 639) (by decide +kernel)) rfl
theorem lkX8_239 : Cond.methodLink RX8 239 yX6_add ∈ tbG := tb_in (List.mem_of_getElem? (i := 648) (by decide +kernel)) rfl
theorem lkX8_243 : Cond.methodLink RX8 243 yX8_tryWithout ∈ tbG := tb_in (List.mem_of_getElem? (i := 660) (by decide +kernel)) rfl
theorem lkX8_246 : Cond.methodLink RX8 246 yX8_agrees ∈ tbG := tb_in (List.mem_of_getElem? (i := 664) (by decide +kernel)) rfl
theorem lkX8_250 : Cond.methodLink RX8 250 yX0_takeStrokes ∈ tbG := tb_in (List.mem_of_getElem? (i := 599) (by decide +kernel)) rfl
theorem lkX8_254 : Cond.methodLink RX8 254 yX0_onCell ∈ tbG := tb_in (List.mem_of_getElem? (i := 598) (by decide +kernel)) rfl
theorem lkX8_257 : Cond.methodLink RX8 257 yX0_settle ∈ tbG := tb_in (List.mem_of_getElem? (i := 416) (by decide +kernel)) rfl
theorem lkX8_261 : Cond.methodLink RX8 261 yX3_follow ∈ tbG := tb_in (List.mem_of_getElem? (i := 449) (by decide +kernel)) rfl
theorem lkX8_265 : Cond.methodLink RX8 265 yX8_never ∈ tbG := tb_in (List.mem_of_getElem? (i := 684) (by decide +kernel)) rfl
theorem lkX8_268 : Cond.methodLink RX8 268 yX8_viewWithoutEach ∈ tbG := tb_in (List.mem_of_getElem? (i := 685) (by decide +kernel)) rfl
theorem lkX8_272 : Cond.methodLink RX8 272 yX4_begin ∈ tbG := tb_in (List.mem_of_getElem? (i := 606) (by decide +kernel)) rfl
theorem lkX8_275 : Cond.methodLink RX8 275 yX8_mostAlike ∈ tbG := tb_in (List.mem_of_getElem? (i := 689) (by decide +kernel)) rfl
theorem lkX8_278 : Cond.methodLink RX8 278 yX4_offer ∈ tbG := tb_in (List.mem_of_getElem? (i := 619) (by decide +kernel)) rfl
theorem lkX8_288 : Cond.methodLink RX8 288 yX8_reckonChance ∈ tbG := tb_in (List.mem_of_getElem? (i := 699) (by decide +kernel)) rfl
theorem lkX8_300 : Cond.methodLink RX8 300 yX3_total ∈ tbG := tb_in (List.mem_of_getElem? (i := 614) (by decide +kernel)) rfl
theorem lkX8_303 : Cond.methodLink RX8 303 yX3_daysWithSome ∈ tbG := tb_in (List.mem_of_getElem? (i := 723) (by decide +kernel)) rfl
theorem lkX8_306 : Cond.methodLink RX8 306 yX8_isForm ∈ tbG ∨ ∃ host, Cond.methodLinkNest RX8 306 yX8_isForm host ∈ nsL := Or.inl (tb_in (List.mem_of_getElem? (i := 731) (by decide +kernel)) rfl)
theorem lkX8_309 : Cond.methodLink RX8 309 yX5_renew ∈ tbG := tb_in (List.mem_of_getElem? (i := 734) (by decide +kernel)) rfl
theorem lkX8_312 : Cond.methodLink RX8 312 yX5_findingAt ∈ tbG := tb_in (List.mem_of_getElem? (i := 747) (by decide +kernel)) rfl
theorem lkX8_315 : Cond.methodLink RX8 315 yX8_lowestBits ∈ tbG ∨ ∃ host, Cond.methodLinkNest RX8 315 yX8_lowestBits host ∈ nsL := Or.inl (tb_in (List.mem_of_getElem? (i := 751) (by decide +kernel)) rfl)
theorem lkX8_322 : Cond.methodLink RX8 322 yX5_holds ∈ tbG := tb_in (List.mem_of_getElem? (i := 763) (by decide +kernel)) rfl
theorem lkX8_325 : Cond.methodLink RX8 325 arraycopyName ∈ tbG := tb_in (List.mem_of_getElem? (i := 643) (by decide +kernel)) rfl
theorem lkX8_331 : Cond.methodLink RX8 331 Lib.Math.min.name ∈ tbG := tb_in (List.mem_of_getElem? (i := 402) (by decide +kernel)) rfl
theorem lkX8_336 : Cond.methodLink RX8 336 yX8_stands ∈ tbG := tb_in (List.mem_of_getElem? (i := 771) (by decide +kernel)) rfl
theorem lkX8_343 : Cond.methodLink RX8 343 yX8_count ∈ tbG := tb_in (List.mem_of_getElem? (i := 782) (by decide +kernel)) rfl
theorem lkX8_346 : Cond.methodLink RX8 346 yX8_fault ∈ tbG := tb_in (List.mem_of_getElem? (i := 783) (by decide +kernel)) rfl
theorem lkX8_349 : Cond.methodLink RX8 349 yX8_withDay ∈ tbG := tb_in (List.mem_of_getElem? (i := 784) (by decide +kernel)) rfl
theorem lkX8_353 : Cond.methodLink RX8 353 yX8_withStroke ∈ tbG := tb_in (List.mem_of_getElem? (i := 791) (by decide +kernel)) rfl
theorem lkX8_356 : Cond.methodLink RX8 356 yX8_withFewest ∈ tbG := tb_in (List.mem_of_getElem? (i := 798) (by decide +kernel)) rfl
theorem lkX8_360 : Cond.methodLink RX8 360 yX8_sign ∈ tbG := tb_in (List.mem_of_getElem? (i := 802) (by decide +kernel)) rfl
theorem lkX8_363 : Cond.methodLink RX8 363 yX8_chalk ∈ tbG := tb_in (List.mem_of_getElem? (i := 803) (by decide +kernel)) rfl
theorem lkX8_366 : Cond.methodLink RX8 366 yX8_misread ∈ tbG := tb_in (List.mem_of_getElem? (i := 804) (by decide +kernel)) rfl
theorem lkX8_369 : Cond.methodLink RX8 369 yX8_most ∈ tbG := tb_in (List.mem_of_getElem? (i := 805) (by decide +kernel)) rfl
theorem lkX8_372 : Cond.methodLink RX8 372 yX8_oil ∈ tbG := tb_in (List.mem_of_getElem? (i := 806) (by decide +kernel)) rfl
theorem lkX8_375 : Cond.methodLink RX8 375 yX8_ask ∈ tbG := tb_in (List.mem_of_getElem? (i := 807) (by decide +kernel)) rfl
theorem lkX8_378 : Cond.methodLink RX8 378 yX8_weather ∈ tbG := tb_in (List.mem_of_getElem? (i := 808) (by decide +kernel)) rfl
theorem lkX8_381 : Cond.methodLink RX8 381 yX8_damp ∈ tbG := tb_in (List.mem_of_getElem? (i := 788) (by decide +kernel)) rfl
theorem lkX8_384 : Cond.methodLink RX8 384 yX8_through ∈ tbG := tb_in (List.mem_of_getElem? (i := 789) (by decide +kernel)) rfl
theorem lkX8_387 : Cond.methodLink RX8 387 yX8_deep ∈ tbG := tb_in (List.mem_of_getElem? (i := 790) (by decide +kernel)) rfl
theorem lkX8_390 : Cond.methodLink RX8 390 yX8_stroke ∈ tbG := tb_in (List.mem_of_getElem? (i := 795) (by decide +kernel)) rfl
theorem lkX8_393 : Cond.methodLink RX8 393 yX8_state ∈ tbG := tb_in (List.mem_of_getElem? (i := 796) (by decide +kernel)) rfl
theorem lkX8_396 : Cond.methodLink RX8 396 yX8_up ∈ tbG := tb_in (List.mem_of_getElem? (i := 797) (by decide +kernel)) rfl
theorem lkX8_402 : Cond.methodLink RX8 402 yX8_hasBit ∈ tbG ∨ ∃ host, Cond.methodLinkNest RX8 402 yX8_hasBit host ∈ nsL := Or.inl (tb_in (List.mem_of_getElem? (i := 570) (by decide +kernel)) rfl)
theorem lkX8_405 : Cond.methodLink RX8 405 yX7_at ∈ tbG := tb_in (List.mem_of_getElem? (i := 373) (by decide +kernel)) rfl
theorem lkX8_408 : Cond.methodLink RX8 408 yX8_isWithin ∈ tbG ∨ ∃ host, Cond.methodLinkNest RX8 408 yX8_isWithin host ∈ nsL := Or.inl (tb_in (List.mem_of_getElem? (i := 377) (by decide +kernel)) rfl)
theorem lkX8_411 : Cond.methodLink RX8 411 yX8_fitsStroke ∈ tbG ∨ ∃ host, Cond.methodLinkNest RX8 411 yX8_fitsStroke host ∈ nsL := Or.inl (tb_in (List.mem_of_getElem? (i := 384) (by decide +kernel)) rfl)
theorem lkX8_414 : Cond.methodLink RX8 414 yX8_parseDamps ∈ tbG := tb_in (List.mem_of_getElem? (i := 398) (by decide +kernel)) rfl
theorem lkX8_417 : Cond.methodLink RX8 417 yX8_parseStrokes ∈ tbG := tb_in (List.mem_of_getElem? (i := 405) (by decide +kernel)) rfl
theorem lkX8_420 : Cond.methodLink RX8 420 yX0_everyone ∈ tbG := tb_in (List.mem_of_getElem? (i := 409) (by decide +kernel)) rfl
theorem lkX8_423 : Cond.methodLink RX8 423 yX8_upsInTrial ∈ tbG := tb_in (List.mem_of_getElem? (i := 610) (by decide +kernel)) rfl
theorem lkX8_428 : Cond.methodLink RX8 428 yX0_signRisen ∈ tbG := tb_in (List.mem_of_getElem? (i := 668) (by decide +kernel)) rfl
theorem lkX8_432 : Cond.methodLink RX8 432 Lib.Math.max.name ∈ tbG := tb_in (List.mem_of_getElem? (i := 693) (by decide +kernel)) rfl
theorem lkX8_438 : Cond.methodLink RX8 438 yX0_withMates ∈ tbG := tb_in (List.mem_of_getElem? (i := 703) (by decide +kernel)) rfl
theorem lkX8_451 : Cond.methodLink RX8 451 yX0_freshStrengths ∈ tbG := tb_in (List.mem_of_getElem? (i := 707) (by decide +kernel)) rfl
theorem lkX8_454 : Cond.methodLink RX8 454 yX8_stillFrom ∈ tbG ∨ ∃ host, Cond.methodLinkNest RX8 454 yX8_stillFrom host ∈ nsL := Or.inl (tb_in (List.mem_of_getElem? (i := 708) (by decide +kernel)) rfl)
theorem lkX8_458 : Cond.methodLink RX8 458 yX2_reduce ∈ tbG := tb_in (List.mem_of_getElem? (i := 714) (by decide +kernel)) rfl
theorem lkX8_462 : Cond.methodLink RX8 462 yX0_risenOn ∈ tbG := tb_in (List.mem_of_getElem? (i := 711) (by decide +kernel)) rfl
theorem lkX8_465 : Cond.methodLink RX8 465 yX0_weathered ∈ tbG := tb_in (List.mem_of_getElem? (i := 712) (by decide +kernel)) rfl
theorem lkX9_95 : Cond.methodLink RX9 95 yX9_in ∈ tbG ∨ ∃ host, Cond.methodLinkNest RX9 95 yX9_in host ∈ nsL := Or.inl (tb_in (List.mem_of_getElem? (i := 932) (by decide +kernel)) rfl)
theorem lkX9_99 : Cond.methodLink RX9 99 yX9_isText ∈ tbG ∨ ∃ host, Cond.methodLinkNest RX9 99 yX9_isText host ∈ nsL := Or.inl (tb_in (List.mem_of_getElem? (i := 929) (by decide +kernel)) rfl)
theorem lkX9_106 : Cond.methodLink RX9 106 yX9_byteAt ∈ tbG := tb_in (List.mem_of_getElem? (i := 967) (by decide +kernel)) rfl
theorem lkX9_110 : Cond.methodLink RX9 110 yX9_isWell ∈ tbG := tb_in (List.mem_of_getElem? (i := 963) (by decide +kernel)) rfl
theorem lkX9_117 : Cond.methodLink RX9 117 yX9_readsStroke ∈ tbG := tb_in (List.mem_of_getElem? (i := 959) (by decide +kernel)) rfl
theorem lkX9_121 : Cond.methodLink RX9 121 yX9_readsDamps ∈ tbG := tb_in (List.mem_of_getElem? (i := 951) (by decide +kernel)) rfl
theorem lkX9_125 : Cond.methodLink RX9 125 yX9_readsStrokes ∈ tbG := tb_in (List.mem_of_getElem? (i := 955) (by decide +kernel)) rfl
theorem lkX9_128 : Cond.methodLink RX9 128 yX9_faultOf ∈ tbG := tb_in (List.mem_of_getElem? (i := 947) (by decide +kernel)) rfl
theorem lkX9_131 : Cond.methodLink RX9 131 yX9_reads ∈ tbG := tb_in (List.mem_of_getElem? (i := 982) (by decide +kernel)) rfl
theorem lkX9_134 : Cond.methodLink RX9 134 yX9_isDay ∈ tbG ∨ ∃ host, Cond.methodLinkNest RX9 134 yX9_isDay host ∈ nsL := Or.inl (tb_in (List.mem_of_getElem? (i := 975) (by decide +kernel)) rfl)
theorem lkX9_137 : Cond.methodLink RX9 137 yX9_dampOf ∈ tbG := tb_in (List.mem_of_getElem? (i := 978) (by decide +kernel)) rfl
theorem lkX9_140 : Cond.methodLink RX9 140 yX9_isStroke ∈ tbG := tb_in (List.mem_of_getElem? (i := 990) (by decide +kernel)) rfl
theorem lkX9_143 : Cond.methodLink RX9 143 yX9_strokeOf ∈ tbG := tb_in (List.mem_of_getElem? (i := 994) (by decide +kernel)) rfl
theorem lkX9_152 : Cond.methodLink RX9 152 yX9_isSheet ∈ tbG ∨ ∃ host, Cond.methodLinkNest RX9 152 yX9_isSheet host ∈ nsL := Or.inl (tb_in (List.mem_of_getElem? (i := 1018) (by decide +kernel)) rfl)
theorem lkX9_155 : Cond.methodLink RX9 155 yX9_meets ∈ tbG := tb_in (List.mem_of_getElem? (i := 1021) (by decide +kernel)) rfl
theorem lkX9_158 : Cond.methodLink RX9 158 yX9_clean ∈ tbG := tb_in (List.mem_of_getElem? (i := 1025) (by decide +kernel)) rfl
theorem lkX9_167 : Cond.methodLink RX9 167 yX9_isIn ∈ tbG ∨ ∃ host, Cond.methodLinkNest RX9 167 yX9_isIn host ∈ nsL := Or.inl (tb_in (List.mem_of_getElem? (i := 1057) (by decide +kernel)) rfl)
theorem lkX9_170 : Cond.methodLink RX9 170 yX9_goesIn ∈ tbG := tb_in (List.mem_of_getElem? (i := 1053) (by decide +kernel)) rfl
theorem lkX9_177 : Cond.methodLink RX9 177 yX9_isOiled ∈ tbG := tb_in (List.mem_of_getElem? (i := 1060) (by decide +kernel)) rfl
theorem lkX9_180 : Cond.methodLink RX9 180 yX9_isTop ∈ tbG := tb_in (List.mem_of_getElem? (i := 1064) (by decide +kernel)) rfl
theorem lkX9_183 : Cond.methodLink RX9 183 yX9_goesBy ∈ tbG := tb_in (List.mem_of_getElem? (i := 1049) (by decide +kernel)) rfl
theorem lkX9_186 : Cond.methodLink RX9 186 yX9_asTold ∈ tbG := tb_in (List.mem_of_getElem? (i := 1041) (by decide +kernel)) rfl
theorem lkX9_189 : Cond.methodLink RX9 189 yX9_runs ∈ tbG := tb_in (List.mem_of_getElem? (i := 1045) (by decide +kernel)) rfl
theorem lkX9_192 : Cond.methodLink RX9 192 yX9_runsTold ∈ tbG := tb_in (List.mem_of_getElem? (i := 1037) (by decide +kernel)) rfl
theorem lkX9_195 : Cond.methodLink RX9 195 yX9_standsNow ∈ tbG := tb_in (List.mem_of_getElem? (i := 1068) (by decide +kernel)) rfl
theorem lkX9_198 : Cond.methodLink RX9 198 yX9_isCell ∈ tbG ∨ ∃ host, Cond.methodLinkNest RX9 198 yX9_isCell host ∈ nsL := Or.inl (tb_in (List.mem_of_getElem? (i := 1030) (by decide +kernel)) rfl)
theorem lkX9_201 : Cond.methodLink RX9 201 yX9_standsOf ∈ tbG := tb_in (List.mem_of_getElem? (i := 1033) (by decide +kernel)) rfl
theorem lkX9_204 : Cond.methodLink RX9 204 yX9_stateOf ∈ tbG := tb_in (List.mem_of_getElem? (i := 1076) (by decide +kernel)) rfl
theorem lkX9_208 : Cond.methodLink RX9 208 yX9_upsOf ∈ tbG := tb_in (List.mem_of_getElem? (i := 1088) (by decide +kernel)) rfl
theorem lkX9_211 : Cond.methodLink RX9 211 yX9_upOf ∈ tbG := tb_in (List.mem_of_getElem? (i := 1084) (by decide +kernel)) rfl
theorem lkX9_214 : Cond.methodLink RX9 214 yX9_ones ∈ tbG ∨ ∃ host, Cond.methodLinkNest RX9 214 yX9_ones host ∈ nsL := Or.inl (tb_in (List.mem_of_getElem? (i := 1100) (by decide +kernel)) rfl)
theorem lkX9_217 : Cond.methodLink RX9 217 yX9_throughOf ∈ tbG := tb_in (List.mem_of_getElem? (i := 1096) (by decide +kernel)) rfl
theorem lkX9_220 : Cond.methodLink RX9 220 yX9_isMisread ∈ tbG := tb_in (List.mem_of_getElem? (i := 1111) (by decide +kernel)) rfl
theorem lkX9_223 : Cond.methodLink RX9 223 yX9_misreadOf ∈ tbG := tb_in (List.mem_of_getElem? (i := 1107) (by decide +kernel)) rfl
theorem lkX9_226 : Cond.methodLink RX9 226 yX9_mostNow ∈ tbG := tb_in (List.mem_of_getElem? (i := 1119) (by decide +kernel)) rfl
theorem lkX9_229 : Cond.methodLink RX9 229 yX9_deepOf ∈ tbG := tb_in (List.mem_of_getElem? (i := 1127) (by decide +kernel)) rfl
theorem lkX9_232 : Cond.methodLink RX9 232 yX9_allUp ∈ tbG := tb_in (List.mem_of_getElem? (i := 1139) (by decide +kernel)) rfl
theorem lkX9_235 : Cond.methodLink RX9 235 yX9_oilOf ∈ tbG := tb_in (List.mem_of_getElem? (i := 1135) (by decide +kernel)) rfl
theorem lkX9_238 : Cond.methodLink RX9 238 yX9_whenOf ∈ tbG := tb_in (List.mem_of_getElem? (i := 1147) (by decide +kernel)) rfl
theorem lkX9_241 : Cond.methodLink RX9 241 yX9_placeOf ∈ tbG := tb_in (List.mem_of_getElem? (i := 1155) (by decide +kernel)) rfl
theorem lkX9_244 : Cond.methodLink RX9 244 yX9_dryOf ∈ tbG := tb_in (List.mem_of_getElem? (i := 1163) (by decide +kernel)) rfl
theorem lkX9_250 : Cond.methodLink RX9 250 yX9_isSeen ∈ tbG := tb_in (List.mem_of_getElem? (i := 1183) (by decide +kernel)) rfl
theorem lkX9_254 : Cond.methodLink RX9 254 yX9_neverNow ∈ tbG := tb_in (List.mem_of_getElem? (i := 1179) (by decide +kernel)) rfl
theorem lkX9_257 : Cond.methodLink RX9 257 yX9_signOf ∈ tbG := tb_in (List.mem_of_getElem? (i := 1191) (by decide +kernel)) rfl
theorem lkX9_260 : Cond.methodLink RX9 260 yX9_chalkOf ∈ tbG := tb_in (List.mem_of_getElem? (i := 1199) (by decide +kernel)) rfl
theorem lkX9_263 : Cond.methodLink RX9 263 yX9_askOf ∈ tbG := tb_in (List.mem_of_getElem? (i := 1207) (by decide +kernel)) rfl
theorem lkX9_266 : Cond.methodLink RX9 266 yX9_lowest ∈ tbG ∨ ∃ host, Cond.methodLinkNest RX9 266 yX9_lowest host ∈ nsL := Or.inl (tb_in (List.mem_of_getElem? (i := 1219) (by decide +kernel)) rfl)
theorem lkX9_270 : Cond.methodLink RX9 270 yX9_drynessOf ∈ tbG := tb_in (List.mem_of_getElem? (i := 1215) (by decide +kernel)) rfl
theorem lkX9_274 : Cond.methodLink RX9 274 yX9_no ∈ tbG ∨ ∃ host, Cond.methodLinkNest RX9 274 yX9_no host ∈ nsL := Or.inl (tb_in (List.mem_of_getElem? (i := 1222) (by decide +kernel)) rfl)
theorem lkX9_279 : Cond.methodLink RX9 279 yX9_weatherOf ∈ tbG := tb_in (List.mem_of_getElem? (i := 1230) (by decide +kernel)) rfl
theorem lkX9_285 : Cond.methodLink RX9 285 yX9_lacks ∈ tbG := tb_in (List.mem_of_getElem? (i := 1247) (by decide +kernel)) rfl
theorem lkX9_288 : Cond.methodLink RX9 288 yX9_keep ∈ tbG := tb_in (List.mem_of_getElem? (i := 1251) (by decide +kernel)) rfl
theorem lkX9_293 : Cond.methodLink RX9 293 yX9_sumOf ∈ tbG := tb_in (List.mem_of_getElem? (i := 1272) (by decide +kernel)) rfl
theorem lkX9_300 : Cond.methodLink RX9 300 yX9_count ∈ tbG := tb_in (List.mem_of_getElem? (i := 1282) (by decide +kernel)) rfl
theorem lkX9_303 : Cond.methodLink RX9 303 yX9_dayDigest ∈ tbG := tb_in (List.mem_of_getElem? (i := 1283) (by decide +kernel)) rfl
theorem lkX9_307 : Cond.methodLink RX9 307 yX9_strokeDigest ∈ tbG := tb_in (List.mem_of_getElem? (i := 1287) (by decide +kernel)) rfl
theorem ac_nat : Cond.native arraycopyName ∈ tbG := tb_in (by decide +kernel) rfl
theorem ac_stat : Cond.static arraycopyName ∈ tbG := tb_in (by decide +kernel) rfl
theorem ac_ini : Cond.initialized "java/lang/System" ∈ tbG := tb_in (by decide +kernel) rfl
