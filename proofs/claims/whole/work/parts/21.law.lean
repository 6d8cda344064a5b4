theorem lkL_13 : Cond.methodLink R_law 13 yX8_type ∈ tbG := tb_in (List.mem_of_getElem? (i := 342) (by decide +kernel)) rfl
theorem mfLX8_type : MF yX8_type cX8_type 4 (some .int) 2 := ⟨tb_in (List.mem_of_getElem? (i := 345) (by decide +kernel)) rfl, tb_in (List.mem_of_getElem? (i := 70) (by decide +kernel)) rfl, by decide +kernel, by decide⟩
theorem miLX8_type : Cond.instanceMethod yX8_type ∈ tbG ∧ Cond.selects yX8_type.cls yX8_type yX8_type ∈ tbG := ⟨tb_in (List.mem_of_getElem? (i := 343) (by decide +kernel)) rfl, tb_in (List.mem_of_getElem? (i := 344) (by decide +kernel)) rfl⟩
theorem lkL_17 : Cond.methodLink R_law 17 yX9_type ∈ tbG := tb_in (List.mem_of_getElem? (i := 925) (by decide +kernel)) rfl
theorem mfLX9_type : MF yX9_type cX9_type 3 (some .int) 2 := ⟨tb_in (List.mem_of_getElem? (i := 928) (by decide +kernel)) rfl, tb_in (List.mem_of_getElem? (i := 80) (by decide +kernel)) rfl, by decide +kernel, by decide⟩
theorem miLX9_type : Cond.instanceMethod yX9_type ∈ tbG ∧ Cond.selects yX9_type.cls yX9_type yX9_type ∈ tbG := ⟨tb_in (List.mem_of_getElem? (i := 926) (by decide +kernel)) rfl, tb_in (List.mem_of_getElem? (i := 927) (by decide +kernel)) rfl⟩
theorem lkL_18 : Cond.methodLink R_law 18 yX8_wipe ∈ tbG := tb_in (List.mem_of_getElem? (i := 357) (by decide +kernel)) rfl
theorem mfLX8_wipe : MF yX8_wipe cX8_wipe 4 (some .int) 1 := ⟨tb_in (List.mem_of_getElem? (i := 360) (by decide +kernel)) rfl, tb_in (List.mem_of_getElem? (i := 70) (by decide +kernel)) rfl, by decide +kernel, by decide⟩
theorem miLX8_wipe : Cond.instanceMethod yX8_wipe ∈ tbG ∧ Cond.selects yX8_wipe.cls yX8_wipe yX8_wipe ∈ tbG := ⟨tb_in (List.mem_of_getElem? (i := 358) (by decide +kernel)) rfl, tb_in (List.mem_of_getElem? (i := 359) (by decide +kernel)) rfl⟩
theorem lkL_22 : Cond.methodLink R_law 22 yX9_wipe ∈ tbG := tb_in (List.mem_of_getElem? (i := 935) (by decide +kernel)) rfl
theorem mfLX9_wipe : MF yX9_wipe cX9_wipe 3 (some .int) 1 := ⟨tb_in (List.mem_of_getElem? (i := 938) (by decide +kernel)) rfl, tb_in (List.mem_of_getElem? (i := 80) (by decide +kernel)) rfl, by decide +kernel, by decide⟩
theorem miLX9_wipe : Cond.instanceMethod yX9_wipe ∈ tbG ∧ Cond.selects yX9_wipe.cls yX9_wipe yX9_wipe ∈ tbG := ⟨tb_in (List.mem_of_getElem? (i := 936) (by decide +kernel)) rfl, tb_in (List.mem_of_getElem? (i := 937) (by decide +kernel)) rfl⟩
theorem lkL_23 : Cond.methodLink R_law 23 yX8_undo ∈ tbG := tb_in (List.mem_of_getElem? (i := 361) (by decide +kernel)) rfl
theorem mfLX8_undo : MF yX8_undo cX8_undo 3 (some .int) 1 := ⟨tb_in (List.mem_of_getElem? (i := 364) (by decide +kernel)) rfl, tb_in (List.mem_of_getElem? (i := 70) (by decide +kernel)) rfl, by decide +kernel, by decide⟩
theorem miLX8_undo : Cond.instanceMethod yX8_undo ∈ tbG ∧ Cond.selects yX8_undo.cls yX8_undo yX8_undo ∈ tbG := ⟨tb_in (List.mem_of_getElem? (i := 362) (by decide +kernel)) rfl, tb_in (List.mem_of_getElem? (i := 363) (by decide +kernel)) rfl⟩
theorem lkL_26 : Cond.methodLink R_law 26 yX9_undo ∈ tbG := tb_in (List.mem_of_getElem? (i := 939) (by decide +kernel)) rfl
theorem mfLX9_undo : MF yX9_undo cX9_undo 2 (some .int) 1 := ⟨tb_in (List.mem_of_getElem? (i := 942) (by decide +kernel)) rfl, tb_in (List.mem_of_getElem? (i := 80) (by decide +kernel)) rfl, by decide +kernel, by decide⟩
theorem miLX9_undo : Cond.instanceMethod yX9_undo ∈ tbG ∧ Cond.selects yX9_undo.cls yX9_undo yX9_undo ∈ tbG := ⟨tb_in (List.mem_of_getElem? (i := 940) (by decide +kernel)) rfl, tb_in (List.mem_of_getElem? (i := 941) (by decide +kernel)) rfl⟩
theorem lkL_27 : Cond.methodLink R_law 27 yX8_fault ∈ tbG := tb_in (List.mem_of_getElem? (i := 365) (by decide +kernel)) rfl
theorem mfLX8_fault : MF yX8_fault cX8_fault 2 (some .int) 1 := ⟨tb_in (List.mem_of_getElem? (i := 368) (by decide +kernel)) rfl, tb_in (List.mem_of_getElem? (i := 70) (by decide +kernel)) rfl, by decide +kernel, by decide⟩
theorem miLX8_fault : Cond.instanceMethod yX8_fault ∈ tbG ∧ Cond.selects yX8_fault.cls yX8_fault yX8_fault ∈ tbG := ⟨tb_in (List.mem_of_getElem? (i := 366) (by decide +kernel)) rfl, tb_in (List.mem_of_getElem? (i := 367) (by decide +kernel)) rfl⟩
theorem lkL_30 : Cond.methodLink R_law 30 yX9_fault ∈ tbG := tb_in (List.mem_of_getElem? (i := 943) (by decide +kernel)) rfl
theorem mfLX9_fault : MF yX9_fault cX9_fault 2 (some .int) 1 := ⟨tb_in (List.mem_of_getElem? (i := 946) (by decide +kernel)) rfl, tb_in (List.mem_of_getElem? (i := 80) (by decide +kernel)) rfl, by decide +kernel, by decide⟩
theorem miLX9_fault : Cond.instanceMethod yX9_fault ∈ tbG ∧ Cond.selects yX9_fault.cls yX9_fault yX9_fault ∈ tbG := ⟨tb_in (List.mem_of_getElem? (i := 944) (by decide +kernel)) rfl, tb_in (List.mem_of_getElem? (i := 945) (by decide +kernel)) rfl⟩
theorem lkL_31 : Cond.methodLink R_law 31 yX8_damp ∈ tbG := tb_in (List.mem_of_getElem? (i := 387) (by decide +kernel)) rfl
theorem mfLX8_damp : MF yX8_damp cX8_damp 2 (some .int) 1 := ⟨tb_in (List.mem_of_getElem? (i := 390) (by decide +kernel)) rfl, tb_in (List.mem_of_getElem? (i := 70) (by decide +kernel)) rfl, by decide +kernel, by decide⟩
theorem miLX8_damp : Cond.instanceMethod yX8_damp ∈ tbG ∧ Cond.selects yX8_damp.cls yX8_damp yX8_damp ∈ tbG := ⟨tb_in (List.mem_of_getElem? (i := 388) (by decide +kernel)) rfl, tb_in (List.mem_of_getElem? (i := 389) (by decide +kernel)) rfl⟩
theorem lkL_34 : Cond.methodLink R_law 34 yX9_damp ∈ tbG := tb_in (List.mem_of_getElem? (i := 971) (by decide +kernel)) rfl
theorem mfLX9_damp : MF yX9_damp cX9_damp 2 (some .int) 1 := ⟨tb_in (List.mem_of_getElem? (i := 974) (by decide +kernel)) rfl, tb_in (List.mem_of_getElem? (i := 80) (by decide +kernel)) rfl, by decide +kernel, by decide⟩
theorem miLX9_damp : Cond.instanceMethod yX9_damp ∈ tbG ∧ Cond.selects yX9_damp.cls yX9_damp yX9_damp ∈ tbG := ⟨tb_in (List.mem_of_getElem? (i := 972) (by decide +kernel)) rfl, tb_in (List.mem_of_getElem? (i := 973) (by decide +kernel)) rfl⟩
theorem lkL_35 : Cond.methodLink R_law 35 yX8_stroke ∈ tbG := tb_in (List.mem_of_getElem? (i := 472) (by decide +kernel)) rfl
theorem mfLX8_stroke : MF yX8_stroke cX8_stroke 3 (some .int) 2 := ⟨tb_in (List.mem_of_getElem? (i := 475) (by decide +kernel)) rfl, tb_in (List.mem_of_getElem? (i := 70) (by decide +kernel)) rfl, by decide +kernel, by decide⟩
theorem miLX8_stroke : Cond.instanceMethod yX8_stroke ∈ tbG ∧ Cond.selects yX8_stroke.cls yX8_stroke yX8_stroke ∈ tbG := ⟨tb_in (List.mem_of_getElem? (i := 473) (by decide +kernel)) rfl, tb_in (List.mem_of_getElem? (i := 474) (by decide +kernel)) rfl⟩
theorem lkL_38 : Cond.methodLink R_law 38 yX9_stroke ∈ tbG := tb_in (List.mem_of_getElem? (i := 986) (by decide +kernel)) rfl
theorem mfLX9_stroke : MF yX9_stroke cX9_stroke 3 (some .int) 2 := ⟨tb_in (List.mem_of_getElem? (i := 989) (by decide +kernel)) rfl, tb_in (List.mem_of_getElem? (i := 80) (by decide +kernel)) rfl, by decide +kernel, by decide⟩
theorem miLX9_stroke : Cond.instanceMethod yX9_stroke ∈ tbG ∧ Cond.selects yX9_stroke.cls yX9_stroke yX9_stroke ∈ tbG := ⟨tb_in (List.mem_of_getElem? (i := 987) (by decide +kernel)) rfl, tb_in (List.mem_of_getElem? (i := 988) (by decide +kernel)) rfl⟩
theorem lkL_39 : Cond.methodLink R_law 39 yX8_fine ∈ tbG := tb_in (List.mem_of_getElem? (i := 480) (by decide +kernel)) rfl
theorem mfLX8_fine : MF yX8_fine cX8_fine 3 (some .int) 1 := ⟨tb_in (List.mem_of_getElem? (i := 483) (by decide +kernel)) rfl, tb_in (List.mem_of_getElem? (i := 70) (by decide +kernel)) rfl, by decide +kernel, by decide⟩
theorem miLX8_fine : Cond.instanceMethod yX8_fine ∈ tbG ∧ Cond.selects yX8_fine.cls yX8_fine yX8_fine ∈ tbG := ⟨tb_in (List.mem_of_getElem? (i := 481) (by decide +kernel)) rfl, tb_in (List.mem_of_getElem? (i := 482) (by decide +kernel)) rfl⟩
theorem lkL_42 : Cond.methodLink R_law 42 yX9_fine ∈ tbG := tb_in (List.mem_of_getElem? (i := 998) (by decide +kernel)) rfl
theorem mfLX9_fine : MF yX9_fine cX9_fine 3 (some .int) 1 := ⟨tb_in (List.mem_of_getElem? (i := 1001) (by decide +kernel)) rfl, tb_in (List.mem_of_getElem? (i := 80) (by decide +kernel)) rfl, by decide +kernel, by decide⟩
theorem miLX9_fine : Cond.instanceMethod yX9_fine ∈ tbG ∧ Cond.selects yX9_fine.cls yX9_fine yX9_fine ∈ tbG := ⟨tb_in (List.mem_of_getElem? (i := 999) (by decide +kernel)) rfl, tb_in (List.mem_of_getElem? (i := 1000) (by decide +kernel)) rfl⟩
theorem lkL_43 : Cond.methodLink R_law 43 yX8_clean ∈ tbG := tb_in (List.mem_of_getElem? (i := 484) (by decide +kernel)) rfl
theorem mfLX8_clean : MF yX8_clean cX8_clean 3 (some .int) 2 := ⟨tb_in (List.mem_of_getElem? (i := 487) (by decide +kernel)) rfl, tb_in (List.mem_of_getElem? (i := 70) (by decide +kernel)) rfl, by decide +kernel, by decide⟩
theorem miLX8_clean : Cond.instanceMethod yX8_clean ∈ tbG ∧ Cond.selects yX8_clean.cls yX8_clean yX8_clean ∈ tbG := ⟨tb_in (List.mem_of_getElem? (i := 485) (by decide +kernel)) rfl, tb_in (List.mem_of_getElem? (i := 486) (by decide +kernel)) rfl⟩
theorem lkL_46 : Cond.methodLink R_law 46 yX9_clean ∈ tbG := tb_in (List.mem_of_getElem? (i := 1002) (by decide +kernel)) rfl
theorem mfLX9_clean : MF yX9_clean cX9_clean 3 (some .int) 2 := ⟨tb_in (List.mem_of_getElem? (i := 1005) (by decide +kernel)) rfl, tb_in (List.mem_of_getElem? (i := 80) (by decide +kernel)) rfl, by decide +kernel, by decide⟩
theorem miLX9_clean : Cond.instanceMethod yX9_clean ∈ tbG ∧ Cond.selects yX9_clean.cls yX9_clean yX9_clean ∈ tbG := ⟨tb_in (List.mem_of_getElem? (i := 1003) (by decide +kernel)) rfl, tb_in (List.mem_of_getElem? (i := 1004) (by decide +kernel)) rfl⟩
theorem lkL_47 : Cond.methodLink R_law 47 yX8_grease ∈ tbG := tb_in (List.mem_of_getElem? (i := 495) (by decide +kernel)) rfl
theorem mfLX8_grease : MF yX8_grease cX8_grease 3 (some .int) 2 := ⟨tb_in (List.mem_of_getElem? (i := 498) (by decide +kernel)) rfl, tb_in (List.mem_of_getElem? (i := 70) (by decide +kernel)) rfl, by decide +kernel, by decide⟩
theorem miLX8_grease : Cond.instanceMethod yX8_grease ∈ tbG ∧ Cond.selects yX8_grease.cls yX8_grease yX8_grease ∈ tbG := ⟨tb_in (List.mem_of_getElem? (i := 496) (by decide +kernel)) rfl, tb_in (List.mem_of_getElem? (i := 497) (by decide +kernel)) rfl⟩
theorem lkL_50 : Cond.methodLink R_law 50 yX9_grease ∈ tbG := tb_in (List.mem_of_getElem? (i := 1006) (by decide +kernel)) rfl
theorem mfLX9_grease : MF yX9_grease cX9_grease 3 (some .int) 2 := ⟨tb_in (List.mem_of_getElem? (i := 1009) (by decide +kernel)) rfl, tb_in (List.mem_of_getElem? (i := 80) (by decide +kernel)) rfl, by decide +kernel, by decide⟩
theorem miLX9_grease : Cond.instanceMethod yX9_grease ∈ tbG ∧ Cond.selects yX9_grease.cls yX9_grease yX9_grease ∈ tbG := ⟨tb_in (List.mem_of_getElem? (i := 1007) (by decide +kernel)) rfl, tb_in (List.mem_of_getElem? (i := 1008) (by decide +kernel)) rfl⟩
theorem lkL_51 : Cond.methodLink R_law 51 yX8_back ∈ tbG := tb_in (List.mem_of_getElem? (i := 503) (by decide +kernel)) rfl
theorem mfLX8_back : MF yX8_back cX8_back 3 (some .int) 1 := ⟨tb_in (List.mem_of_getElem? (i := 506) (by decide +kernel)) rfl, tb_in (List.mem_of_getElem? (i := 70) (by decide +kernel)) rfl, by decide +kernel, by decide⟩
theorem miLX8_back : Cond.instanceMethod yX8_back ∈ tbG ∧ Cond.selects yX8_back.cls yX8_back yX8_back ∈ tbG := ⟨tb_in (List.mem_of_getElem? (i := 504) (by decide +kernel)) rfl, tb_in (List.mem_of_getElem? (i := 505) (by decide +kernel)) rfl⟩
theorem lkL_54 : Cond.methodLink R_law 54 yX9_back ∈ tbG := tb_in (List.mem_of_getElem? (i := 1010) (by decide +kernel)) rfl
theorem mfLX9_back : MF yX9_back cX9_back 3 (some .int) 1 := ⟨tb_in (List.mem_of_getElem? (i := 1013) (by decide +kernel)) rfl, tb_in (List.mem_of_getElem? (i := 80) (by decide +kernel)) rfl, by decide +kernel, by decide⟩
theorem miLX9_back : Cond.instanceMethod yX9_back ∈ tbG ∧ Cond.selects yX9_back.cls yX9_back yX9_back ∈ tbG := ⟨tb_in (List.mem_of_getElem? (i := 1011) (by decide +kernel)) rfl, tb_in (List.mem_of_getElem? (i := 1012) (by decide +kernel)) rfl⟩
theorem lkL_55 : Cond.methodLink R_law 55 yX8_read ∈ tbG := tb_in (List.mem_of_getElem? (i := 510) (by decide +kernel)) rfl
theorem mfLX8_read : MF yX8_read cX8_read 5 (some .int) 1 := ⟨tb_in (List.mem_of_getElem? (i := 513) (by decide +kernel)) rfl, tb_in (List.mem_of_getElem? (i := 70) (by decide +kernel)) rfl, by decide +kernel, by decide⟩
theorem miLX8_read : Cond.instanceMethod yX8_read ∈ tbG ∧ Cond.selects yX8_read.cls yX8_read yX8_read ∈ tbG := ⟨tb_in (List.mem_of_getElem? (i := 511) (by decide +kernel)) rfl, tb_in (List.mem_of_getElem? (i := 512) (by decide +kernel)) rfl⟩
theorem lkL_58 : Cond.methodLink R_law 58 yX9_read ∈ tbG := tb_in (List.mem_of_getElem? (i := 1014) (by decide +kernel)) rfl
theorem mfLX9_read : MF yX9_read cX9_read 3 (some .int) 1 := ⟨tb_in (List.mem_of_getElem? (i := 1017) (by decide +kernel)) rfl, tb_in (List.mem_of_getElem? (i := 80) (by decide +kernel)) rfl, by decide +kernel, by decide⟩
theorem miLX9_read : Cond.instanceMethod yX9_read ∈ tbG ∧ Cond.selects yX9_read.cls yX9_read yX9_read ∈ tbG := ⟨tb_in (List.mem_of_getElem? (i := 1015) (by decide +kernel)) rfl, tb_in (List.mem_of_getElem? (i := 1016) (by decide +kernel)) rfl⟩
theorem lkL_59 : Cond.methodLink R_law 59 yX8_stands ∈ tbG := tb_in (List.mem_of_getElem? (i := 522) (by decide +kernel)) rfl
theorem mfLX8_stands : MF yX8_stands cX8_stands 3 (some .int) 2 := ⟨tb_in (List.mem_of_getElem? (i := 525) (by decide +kernel)) rfl, tb_in (List.mem_of_getElem? (i := 70) (by decide +kernel)) rfl, by decide +kernel, by decide⟩
theorem miLX8_stands : Cond.instanceMethod yX8_stands ∈ tbG ∧ Cond.selects yX8_stands.cls yX8_stands yX8_stands ∈ tbG := ⟨tb_in (List.mem_of_getElem? (i := 523) (by decide +kernel)) rfl, tb_in (List.mem_of_getElem? (i := 524) (by decide +kernel)) rfl⟩
theorem lkL_62 : Cond.methodLink R_law 62 yX9_stands ∈ tbG := tb_in (List.mem_of_getElem? (i := 1026) (by decide +kernel)) rfl
theorem mfLX9_stands : MF yX9_stands cX9_stands 3 (some .int) 2 := ⟨tb_in (List.mem_of_getElem? (i := 1029) (by decide +kernel)) rfl, tb_in (List.mem_of_getElem? (i := 80) (by decide +kernel)) rfl, by decide +kernel, by decide⟩
theorem miLX9_stands : Cond.instanceMethod yX9_stands ∈ tbG ∧ Cond.selects yX9_stands.cls yX9_stands yX9_stands ∈ tbG := ⟨tb_in (List.mem_of_getElem? (i := 1027) (by decide +kernel)) rfl, tb_in (List.mem_of_getElem? (i := 1028) (by decide +kernel)) rfl⟩
theorem lkL_63 : Cond.methodLink R_law 63 yX8_state ∈ tbG := tb_in (List.mem_of_getElem? (i := 533) (by decide +kernel)) rfl
theorem mfLX8_state : MF yX8_state cX8_state 5 (some .int) 3 := ⟨tb_in (List.mem_of_getElem? (i := 536) (by decide +kernel)) rfl, tb_in (List.mem_of_getElem? (i := 70) (by decide +kernel)) rfl, by decide +kernel, by decide⟩
theorem miLX8_state : Cond.instanceMethod yX8_state ∈ tbG ∧ Cond.selects yX8_state.cls yX8_state yX8_state ∈ tbG := ⟨tb_in (List.mem_of_getElem? (i := 534) (by decide +kernel)) rfl, tb_in (List.mem_of_getElem? (i := 535) (by decide +kernel)) rfl⟩
theorem lkL_67 : Cond.methodLink R_law 67 yX9_state ∈ tbG := tb_in (List.mem_of_getElem? (i := 1072) (by decide +kernel)) rfl
theorem mfLX9_state : MF yX9_state cX9_state 4 (some .int) 3 := ⟨tb_in (List.mem_of_getElem? (i := 1075) (by decide +kernel)) rfl, tb_in (List.mem_of_getElem? (i := 80) (by decide +kernel)) rfl, by decide +kernel, by decide⟩
theorem miLX9_state : Cond.instanceMethod yX9_state ∈ tbG ∧ Cond.selects yX9_state.cls yX9_state yX9_state ∈ tbG := ⟨tb_in (List.mem_of_getElem? (i := 1073) (by decide +kernel)) rfl, tb_in (List.mem_of_getElem? (i := 1074) (by decide +kernel)) rfl⟩
theorem lkL_68 : Cond.methodLink R_law 68 yX8_up ∈ tbG := tb_in (List.mem_of_getElem? (i := 539) (by decide +kernel)) rfl
theorem mfLX8_up : MF yX8_up cX8_up 2 (some .int) 1 := ⟨tb_in (List.mem_of_getElem? (i := 542) (by decide +kernel)) rfl, tb_in (List.mem_of_getElem? (i := 70) (by decide +kernel)) rfl, by decide +kernel, by decide⟩
theorem miLX8_up : Cond.instanceMethod yX8_up ∈ tbG ∧ Cond.selects yX8_up.cls yX8_up yX8_up ∈ tbG := ⟨tb_in (List.mem_of_getElem? (i := 540) (by decide +kernel)) rfl, tb_in (List.mem_of_getElem? (i := 541) (by decide +kernel)) rfl⟩
theorem lkL_71 : Cond.methodLink R_law 71 yX9_up ∈ tbG := tb_in (List.mem_of_getElem? (i := 1080) (by decide +kernel)) rfl
theorem mfLX9_up : MF yX9_up cX9_up 2 (some .int) 1 := ⟨tb_in (List.mem_of_getElem? (i := 1083) (by decide +kernel)) rfl, tb_in (List.mem_of_getElem? (i := 80) (by decide +kernel)) rfl, by decide +kernel, by decide⟩
theorem miLX9_up : Cond.instanceMethod yX9_up ∈ tbG ∧ Cond.selects yX9_up.cls yX9_up yX9_up ∈ tbG := ⟨tb_in (List.mem_of_getElem? (i := 1081) (by decide +kernel)) rfl, tb_in (List.mem_of_getElem? (i := 1082) (by decide +kernel)) rfl⟩
theorem lkL_72 : Cond.methodLink R_law 72 yX8_through ∈ tbG := tb_in (List.mem_of_getElem? (i := 554) (by decide +kernel)) rfl
theorem mfLX8_through : MF yX8_through cX8_through 2 (some .int) 1 := ⟨tb_in (List.mem_of_getElem? (i := 557) (by decide +kernel)) rfl, tb_in (List.mem_of_getElem? (i := 70) (by decide +kernel)) rfl, by decide +kernel, by decide⟩
theorem miLX8_through : Cond.instanceMethod yX8_through ∈ tbG ∧ Cond.selects yX8_through.cls yX8_through yX8_through ∈ tbG := ⟨tb_in (List.mem_of_getElem? (i := 555) (by decide +kernel)) rfl, tb_in (List.mem_of_getElem? (i := 556) (by decide +kernel)) rfl⟩
theorem lkL_75 : Cond.methodLink R_law 75 yX9_through ∈ tbG := tb_in (List.mem_of_getElem? (i := 1092) (by decide +kernel)) rfl
theorem mfLX9_through : MF yX9_through cX9_through 2 (some .int) 1 := ⟨tb_in (List.mem_of_getElem? (i := 1095) (by decide +kernel)) rfl, tb_in (List.mem_of_getElem? (i := 80) (by decide +kernel)) rfl, by decide +kernel, by decide⟩
theorem miLX9_through : Cond.instanceMethod yX9_through ∈ tbG ∧ Cond.selects yX9_through.cls yX9_through yX9_through ∈ tbG := ⟨tb_in (List.mem_of_getElem? (i := 1093) (by decide +kernel)) rfl, tb_in (List.mem_of_getElem? (i := 1094) (by decide +kernel)) rfl⟩
theorem lkL_76 : Cond.methodLink R_law 76 yX8_misread ∈ tbG := tb_in (List.mem_of_getElem? (i := 559) (by decide +kernel)) rfl
theorem mfLX8_misread : MF yX8_misread cX8_misread 4 (some .int) 1 := ⟨tb_in (List.mem_of_getElem? (i := 562) (by decide +kernel)) rfl, tb_in (List.mem_of_getElem? (i := 70) (by decide +kernel)) rfl, by decide +kernel, by decide⟩
theorem miLX8_misread : Cond.instanceMethod yX8_misread ∈ tbG ∧ Cond.selects yX8_misread.cls yX8_misread yX8_misread ∈ tbG := ⟨tb_in (List.mem_of_getElem? (i := 560) (by decide +kernel)) rfl, tb_in (List.mem_of_getElem? (i := 561) (by decide +kernel)) rfl⟩
theorem lkL_79 : Cond.methodLink R_law 79 yX9_misread ∈ tbG := tb_in (List.mem_of_getElem? (i := 1103) (by decide +kernel)) rfl
theorem mfLX9_misread : MF yX9_misread cX9_misread 2 (some .int) 1 := ⟨tb_in (List.mem_of_getElem? (i := 1106) (by decide +kernel)) rfl, tb_in (List.mem_of_getElem? (i := 80) (by decide +kernel)) rfl, by decide +kernel, by decide⟩
theorem miLX9_misread : Cond.instanceMethod yX9_misread ∈ tbG ∧ Cond.selects yX9_misread.cls yX9_misread yX9_misread ∈ tbG := ⟨tb_in (List.mem_of_getElem? (i := 1104) (by decide +kernel)) rfl, tb_in (List.mem_of_getElem? (i := 1105) (by decide +kernel)) rfl⟩
theorem lkL_80 : Cond.methodLink R_law 80 yX8_most ∈ tbG := tb_in (List.mem_of_getElem? (i := 573) (by decide +kernel)) rfl
theorem mfLX8_most : MF yX8_most cX8_most 5 (some .int) 0 := ⟨tb_in (List.mem_of_getElem? (i := 576) (by decide +kernel)) rfl, tb_in (List.mem_of_getElem? (i := 70) (by decide +kernel)) rfl, by decide +kernel, by decide⟩
theorem miLX8_most : Cond.instanceMethod yX8_most ∈ tbG ∧ Cond.selects yX8_most.cls yX8_most yX8_most ∈ tbG := ⟨tb_in (List.mem_of_getElem? (i := 574) (by decide +kernel)) rfl, tb_in (List.mem_of_getElem? (i := 575) (by decide +kernel)) rfl⟩
theorem lkL_84 : Cond.methodLink R_law 84 yX9_most ∈ tbG := tb_in (List.mem_of_getElem? (i := 1115) (by decide +kernel)) rfl
theorem mfLX9_most : MF yX9_most cX9_most 1 (some .int) 0 := ⟨tb_in (List.mem_of_getElem? (i := 1118) (by decide +kernel)) rfl, tb_in (List.mem_of_getElem? (i := 80) (by decide +kernel)) rfl, by decide +kernel, by decide⟩
theorem miLX9_most : Cond.instanceMethod yX9_most ∈ tbG ∧ Cond.selects yX9_most.cls yX9_most yX9_most ∈ tbG := ⟨tb_in (List.mem_of_getElem? (i := 1116) (by decide +kernel)) rfl, tb_in (List.mem_of_getElem? (i := 1117) (by decide +kernel)) rfl⟩
theorem lkL_85 : Cond.methodLink R_law 85 yX8_deep ∈ tbG := tb_in (List.mem_of_getElem? (i := 577) (by decide +kernel)) rfl
theorem mfLX8_deep : MF yX8_deep cX8_deep 2 (some .int) 1 := ⟨tb_in (List.mem_of_getElem? (i := 580) (by decide +kernel)) rfl, tb_in (List.mem_of_getElem? (i := 70) (by decide +kernel)) rfl, by decide +kernel, by decide⟩
theorem miLX8_deep : Cond.instanceMethod yX8_deep ∈ tbG ∧ Cond.selects yX8_deep.cls yX8_deep yX8_deep ∈ tbG := ⟨tb_in (List.mem_of_getElem? (i := 578) (by decide +kernel)) rfl, tb_in (List.mem_of_getElem? (i := 579) (by decide +kernel)) rfl⟩
theorem lkL_88 : Cond.methodLink R_law 88 yX9_deep ∈ tbG := tb_in (List.mem_of_getElem? (i := 1123) (by decide +kernel)) rfl
theorem mfLX9_deep : MF yX9_deep cX9_deep 2 (some .int) 1 := ⟨tb_in (List.mem_of_getElem? (i := 1126) (by decide +kernel)) rfl, tb_in (List.mem_of_getElem? (i := 80) (by decide +kernel)) rfl, by decide +kernel, by decide⟩
theorem miLX9_deep : Cond.instanceMethod yX9_deep ∈ tbG ∧ Cond.selects yX9_deep.cls yX9_deep yX9_deep ∈ tbG := ⟨tb_in (List.mem_of_getElem? (i := 1124) (by decide +kernel)) rfl, tb_in (List.mem_of_getElem? (i := 1125) (by decide +kernel)) rfl⟩
theorem lkL_89 : Cond.methodLink R_law 89 yX8_oil ∈ tbG := tb_in (List.mem_of_getElem? (i := 586) (by decide +kernel)) rfl
theorem mfLX8_oil : MF yX8_oil cX8_oil 4 (some .int) 1 := ⟨tb_in (List.mem_of_getElem? (i := 589) (by decide +kernel)) rfl, tb_in (List.mem_of_getElem? (i := 70) (by decide +kernel)) rfl, by decide +kernel, by decide⟩
theorem miLX8_oil : Cond.instanceMethod yX8_oil ∈ tbG ∧ Cond.selects yX8_oil.cls yX8_oil yX8_oil ∈ tbG := ⟨tb_in (List.mem_of_getElem? (i := 587) (by decide +kernel)) rfl, tb_in (List.mem_of_getElem? (i := 588) (by decide +kernel)) rfl⟩
theorem lkL_92 : Cond.methodLink R_law 92 yX9_oil ∈ tbG := tb_in (List.mem_of_getElem? (i := 1131) (by decide +kernel)) rfl
theorem mfLX9_oil : MF yX9_oil cX9_oil 2 (some .int) 1 := ⟨tb_in (List.mem_of_getElem? (i := 1134) (by decide +kernel)) rfl, tb_in (List.mem_of_getElem? (i := 80) (by decide +kernel)) rfl, by decide +kernel, by decide⟩
theorem miLX9_oil : Cond.instanceMethod yX9_oil ∈ tbG ∧ Cond.selects yX9_oil.cls yX9_oil yX9_oil ∈ tbG := ⟨tb_in (List.mem_of_getElem? (i := 1132) (by decide +kernel)) rfl, tb_in (List.mem_of_getElem? (i := 1133) (by decide +kernel)) rfl⟩
theorem lkL_93 : Cond.methodLink R_law 93 yX8_when ∈ tbG := tb_in (List.mem_of_getElem? (i := 590) (by decide +kernel)) rfl
theorem mfLX8_when : MF yX8_when cX8_when 3 (some .int) 2 := ⟨tb_in (List.mem_of_getElem? (i := 593) (by decide +kernel)) rfl, tb_in (List.mem_of_getElem? (i := 70) (by decide +kernel)) rfl, by decide +kernel, by decide⟩
theorem miLX8_when : Cond.instanceMethod yX8_when ∈ tbG ∧ Cond.selects yX8_when.cls yX8_when yX8_when ∈ tbG := ⟨tb_in (List.mem_of_getElem? (i := 591) (by decide +kernel)) rfl, tb_in (List.mem_of_getElem? (i := 592) (by decide +kernel)) rfl⟩
theorem lkL_96 : Cond.methodLink R_law 96 yX9_when ∈ tbG := tb_in (List.mem_of_getElem? (i := 1143) (by decide +kernel)) rfl
theorem mfLX9_when : MF yX9_when cX9_when 3 (some .int) 2 := ⟨tb_in (List.mem_of_getElem? (i := 1146) (by decide +kernel)) rfl, tb_in (List.mem_of_getElem? (i := 80) (by decide +kernel)) rfl, by decide +kernel, by decide⟩
theorem miLX9_when : Cond.instanceMethod yX9_when ∈ tbG ∧ Cond.selects yX9_when.cls yX9_when yX9_when ∈ tbG := ⟨tb_in (List.mem_of_getElem? (i := 1144) (by decide +kernel)) rfl, tb_in (List.mem_of_getElem? (i := 1145) (by decide +kernel)) rfl⟩
theorem lkL_97 : Cond.methodLink R_law 97 yX8_place ∈ tbG := tb_in (List.mem_of_getElem? (i := 627) (by decide +kernel)) rfl
theorem mfLX8_place : MF yX8_place cX8_place 3 (some .int) 2 := ⟨tb_in (List.mem_of_getElem? (i := 630) (by decide +kernel)) rfl, tb_in (List.mem_of_getElem? (i := 70) (by decide +kernel)) rfl, by decide +kernel, by decide⟩
theorem miLX8_place : Cond.instanceMethod yX8_place ∈ tbG ∧ Cond.selects yX8_place.cls yX8_place yX8_place ∈ tbG := ⟨tb_in (List.mem_of_getElem? (i := 628) (by decide +kernel)) rfl, tb_in (List.mem_of_getElem? (i := 629) (by decide +kernel)) rfl⟩
theorem lkL_100 : Cond.methodLink R_law 100 yX9_place ∈ tbG := tb_in (List.mem_of_getElem? (i := 1151) (by decide +kernel)) rfl
theorem mfLX9_place : MF yX9_place cX9_place 3 (some .int) 2 := ⟨tb_in (List.mem_of_getElem? (i := 1154) (by decide +kernel)) rfl, tb_in (List.mem_of_getElem? (i := 80) (by decide +kernel)) rfl, by decide +kernel, by decide⟩
theorem miLX9_place : Cond.instanceMethod yX9_place ∈ tbG ∧ Cond.selects yX9_place.cls yX9_place yX9_place ∈ tbG := ⟨tb_in (List.mem_of_getElem? (i := 1152) (by decide +kernel)) rfl, tb_in (List.mem_of_getElem? (i := 1153) (by decide +kernel)) rfl⟩
theorem lkL_101 : Cond.methodLink R_law 101 yX8_dry ∈ tbG := tb_in (List.mem_of_getElem? (i := 635) (by decide +kernel)) rfl
theorem mfLX8_dry : MF yX8_dry cX8_dry 2 (some .int) 1 := ⟨tb_in (List.mem_of_getElem? (i := 638) (by decide +kernel)) rfl, tb_in (List.mem_of_getElem? (i := 70) (by decide +kernel)) rfl, by decide +kernel, by decide⟩
theorem miLX8_dry : Cond.instanceMethod yX8_dry ∈ tbG ∧ Cond.selects yX8_dry.cls yX8_dry yX8_dry ∈ tbG := ⟨tb_in (List.mem_of_getElem? (i := 636) (by decide +kernel)) rfl, tb_in (List.mem_of_getElem? (i := 637) (by decide +kernel)) rfl⟩
theorem lkL_104 : Cond.methodLink R_law 104 yX9_dry ∈ tbG := tb_in (List.mem_of_getElem? (i := 1159) (by decide +kernel)) rfl
theorem mfLX9_dry : MF yX9_dry cX9_dry 2 (some .int) 1 := ⟨tb_in (List.mem_of_getElem? (i := 1162) (by decide +kernel)) rfl, tb_in (List.mem_of_getElem? (i := 80) (by decide +kernel)) rfl, by decide +kernel, by decide⟩
theorem miLX9_dry : Cond.instanceMethod yX9_dry ∈ tbG ∧ Cond.selects yX9_dry.cls yX9_dry yX9_dry ∈ tbG := ⟨tb_in (List.mem_of_getElem? (i := 1160) (by decide +kernel)) rfl, tb_in (List.mem_of_getElem? (i := 1161) (by decide +kernel)) rfl⟩
theorem lkL_105 : Cond.methodLink R_law 105 yX8_seen ∈ tbG := tb_in (List.mem_of_getElem? (i := 644) (by decide +kernel)) rfl
theorem mfLX8_seen : MF yX8_seen cX8_seen 4 (some .int) 3 := ⟨tb_in (List.mem_of_getElem? (i := 647) (by decide +kernel)) rfl, tb_in (List.mem_of_getElem? (i := 70) (by decide +kernel)) rfl, by decide +kernel, by decide⟩
theorem miLX8_seen : Cond.instanceMethod yX8_seen ∈ tbG ∧ Cond.selects yX8_seen.cls yX8_seen yX8_seen ∈ tbG := ⟨tb_in (List.mem_of_getElem? (i := 645) (by decide +kernel)) rfl, tb_in (List.mem_of_getElem? (i := 646) (by decide +kernel)) rfl⟩
theorem lkL_108 : Cond.methodLink R_law 108 yX9_seen ∈ tbG := tb_in (List.mem_of_getElem? (i := 1167) (by decide +kernel)) rfl
theorem mfLX9_seen : MF yX9_seen cX9_seen 4 (some .int) 3 := ⟨tb_in (List.mem_of_getElem? (i := 1170) (by decide +kernel)) rfl, tb_in (List.mem_of_getElem? (i := 80) (by decide +kernel)) rfl, by decide +kernel, by decide⟩
theorem miLX9_seen : Cond.instanceMethod yX9_seen ∈ tbG ∧ Cond.selects yX9_seen.cls yX9_seen yX9_seen ∈ tbG := ⟨tb_in (List.mem_of_getElem? (i := 1168) (by decide +kernel)) rfl, tb_in (List.mem_of_getElem? (i := 1169) (by decide +kernel)) rfl⟩
theorem lkL_109 : Cond.methodLink R_law 109 yX8_forget ∈ tbG := tb_in (List.mem_of_getElem? (i := 652) (by decide +kernel)) rfl
theorem mfLX8_forget : MF yX8_forget cX8_forget 2 (some .int) 0 := ⟨tb_in (List.mem_of_getElem? (i := 655) (by decide +kernel)) rfl, tb_in (List.mem_of_getElem? (i := 70) (by decide +kernel)) rfl, by decide +kernel, by decide⟩
theorem miLX8_forget : Cond.instanceMethod yX8_forget ∈ tbG ∧ Cond.selects yX8_forget.cls yX8_forget yX8_forget ∈ tbG := ⟨tb_in (List.mem_of_getElem? (i := 653) (by decide +kernel)) rfl, tb_in (List.mem_of_getElem? (i := 654) (by decide +kernel)) rfl⟩
theorem lkL_112 : Cond.methodLink R_law 112 yX9_forget ∈ tbG := tb_in (List.mem_of_getElem? (i := 1171) (by decide +kernel)) rfl
theorem mfLX9_forget : MF yX9_forget cX9_forget 2 (some .int) 0 := ⟨tb_in (List.mem_of_getElem? (i := 1174) (by decide +kernel)) rfl, tb_in (List.mem_of_getElem? (i := 80) (by decide +kernel)) rfl, by decide +kernel, by decide⟩
theorem miLX9_forget : Cond.instanceMethod yX9_forget ∈ tbG ∧ Cond.selects yX9_forget.cls yX9_forget yX9_forget ∈ tbG := ⟨tb_in (List.mem_of_getElem? (i := 1172) (by decide +kernel)) rfl, tb_in (List.mem_of_getElem? (i := 1173) (by decide +kernel)) rfl⟩
theorem lkL_113 : Cond.methodLink R_law 113 yX8_never ∈ tbG := tb_in (List.mem_of_getElem? (i := 656) (by decide +kernel)) rfl
theorem mfLX8_never : MF yX8_never cX8_never 3 (some .int) 0 := ⟨tb_in (List.mem_of_getElem? (i := 659) (by decide +kernel)) rfl, tb_in (List.mem_of_getElem? (i := 70) (by decide +kernel)) rfl, by decide +kernel, by decide⟩
theorem miLX8_never : Cond.instanceMethod yX8_never ∈ tbG ∧ Cond.selects yX8_never.cls yX8_never yX8_never ∈ tbG := ⟨tb_in (List.mem_of_getElem? (i := 657) (by decide +kernel)) rfl, tb_in (List.mem_of_getElem? (i := 658) (by decide +kernel)) rfl⟩
theorem lkL_116 : Cond.methodLink R_law 116 yX9_never ∈ tbG := tb_in (List.mem_of_getElem? (i := 1175) (by decide +kernel)) rfl
theorem mfLX9_never : MF yX9_never cX9_never 1 (some .int) 0 := ⟨tb_in (List.mem_of_getElem? (i := 1178) (by decide +kernel)) rfl, tb_in (List.mem_of_getElem? (i := 80) (by decide +kernel)) rfl, by decide +kernel, by decide⟩
theorem miLX9_never : Cond.instanceMethod yX9_never ∈ tbG ∧ Cond.selects yX9_never.cls yX9_never yX9_never ∈ tbG := ⟨tb_in (List.mem_of_getElem? (i := 1176) (by decide +kernel)) rfl, tb_in (List.mem_of_getElem? (i := 1177) (by decide +kernel)) rfl⟩
theorem lkL_117 : Cond.methodLink R_law 117 yX8_sign ∈ tbG := tb_in (List.mem_of_getElem? (i := 672) (by decide +kernel)) rfl
theorem mfLX8_sign : MF yX8_sign cX8_sign 4 (some .int) 1 := ⟨tb_in (List.mem_of_getElem? (i := 675) (by decide +kernel)) rfl, tb_in (List.mem_of_getElem? (i := 70) (by decide +kernel)) rfl, by decide +kernel, by decide⟩
theorem miLX8_sign : Cond.instanceMethod yX8_sign ∈ tbG ∧ Cond.selects yX8_sign.cls yX8_sign yX8_sign ∈ tbG := ⟨tb_in (List.mem_of_getElem? (i := 673) (by decide +kernel)) rfl, tb_in (List.mem_of_getElem? (i := 674) (by decide +kernel)) rfl⟩
theorem lkL_120 : Cond.methodLink R_law 120 yX9_sign ∈ tbG := tb_in (List.mem_of_getElem? (i := 1187) (by decide +kernel)) rfl
theorem mfLX9_sign : MF yX9_sign cX9_sign 2 (some .int) 1 := ⟨tb_in (List.mem_of_getElem? (i := 1190) (by decide +kernel)) rfl, tb_in (List.mem_of_getElem? (i := 80) (by decide +kernel)) rfl, by decide +kernel, by decide⟩
theorem miLX9_sign : Cond.instanceMethod yX9_sign ∈ tbG ∧ Cond.selects yX9_sign.cls yX9_sign yX9_sign ∈ tbG := ⟨tb_in (List.mem_of_getElem? (i := 1188) (by decide +kernel)) rfl, tb_in (List.mem_of_getElem? (i := 1189) (by decide +kernel)) rfl⟩
theorem lkL_121 : Cond.methodLink R_law 121 yX8_chalk ∈ tbG := tb_in (List.mem_of_getElem? (i := 676) (by decide +kernel)) rfl
theorem mfLX8_chalk : MF yX8_chalk cX8_chalk 5 (some .int) 1 := ⟨tb_in (List.mem_of_getElem? (i := 679) (by decide +kernel)) rfl, tb_in (List.mem_of_getElem? (i := 70) (by decide +kernel)) rfl, by decide +kernel, by decide⟩
theorem miLX8_chalk : Cond.instanceMethod yX8_chalk ∈ tbG ∧ Cond.selects yX8_chalk.cls yX8_chalk yX8_chalk ∈ tbG := ⟨tb_in (List.mem_of_getElem? (i := 677) (by decide +kernel)) rfl, tb_in (List.mem_of_getElem? (i := 678) (by decide +kernel)) rfl⟩
theorem lkL_124 : Cond.methodLink R_law 124 yX9_chalk ∈ tbG := tb_in (List.mem_of_getElem? (i := 1195) (by decide +kernel)) rfl
theorem mfLX9_chalk : MF yX9_chalk cX9_chalk 2 (some .int) 1 := ⟨tb_in (List.mem_of_getElem? (i := 1198) (by decide +kernel)) rfl, tb_in (List.mem_of_getElem? (i := 80) (by decide +kernel)) rfl, by decide +kernel, by decide⟩
theorem miLX9_chalk : Cond.instanceMethod yX9_chalk ∈ tbG ∧ Cond.selects yX9_chalk.cls yX9_chalk yX9_chalk ∈ tbG := ⟨tb_in (List.mem_of_getElem? (i := 1196) (by decide +kernel)) rfl, tb_in (List.mem_of_getElem? (i := 1197) (by decide +kernel)) rfl⟩
theorem lkL_125 : Cond.methodLink R_law 125 yX8_ask ∈ tbG := tb_in (List.mem_of_getElem? (i := 680) (by decide +kernel)) rfl
theorem mfLX8_ask : MF yX8_ask cX8_ask 4 (some .int) 1 := ⟨tb_in (List.mem_of_getElem? (i := 683) (by decide +kernel)) rfl, tb_in (List.mem_of_getElem? (i := 70) (by decide +kernel)) rfl, by decide +kernel, by decide⟩
theorem miLX8_ask : Cond.instanceMethod yX8_ask ∈ tbG ∧ Cond.selects yX8_ask.cls yX8_ask yX8_ask ∈ tbG := ⟨tb_in (List.mem_of_getElem? (i := 681) (by decide +kernel)) rfl, tb_in (List.mem_of_getElem? (i := 682) (by decide +kernel)) rfl⟩
theorem lkL_128 : Cond.methodLink R_law 128 yX9_ask ∈ tbG := tb_in (List.mem_of_getElem? (i := 1203) (by decide +kernel)) rfl
theorem mfLX9_ask : MF yX9_ask cX9_ask 2 (some .int) 1 := ⟨tb_in (List.mem_of_getElem? (i := 1206) (by decide +kernel)) rfl, tb_in (List.mem_of_getElem? (i := 80) (by decide +kernel)) rfl, by decide +kernel, by decide⟩
theorem miLX9_ask : Cond.instanceMethod yX9_ask ∈ tbG ∧ Cond.selects yX9_ask.cls yX9_ask yX9_ask ∈ tbG := ⟨tb_in (List.mem_of_getElem? (i := 1204) (by decide +kernel)) rfl, tb_in (List.mem_of_getElem? (i := 1205) (by decide +kernel)) rfl⟩
theorem lkL_129 : Cond.methodLink R_law 129 yX8_dryness ∈ tbG := tb_in (List.mem_of_getElem? (i := 694) (by decide +kernel)) rfl
theorem mfLX8_dryness : MF yX8_dryness cX8_dryness 5 (some .long) 4 := ⟨tb_in (List.mem_of_getElem? (i := 697) (by decide +kernel)) rfl, tb_in (List.mem_of_getElem? (i := 70) (by decide +kernel)) rfl, by decide +kernel, by decide⟩
theorem miLX8_dryness : Cond.instanceMethod yX8_dryness ∈ tbG ∧ Cond.selects yX8_dryness.cls yX8_dryness yX8_dryness ∈ tbG := ⟨tb_in (List.mem_of_getElem? (i := 695) (by decide +kernel)) rfl, tb_in (List.mem_of_getElem? (i := 696) (by decide +kernel)) rfl⟩
theorem lkL_133 : Cond.methodLink R_law 133 yX9_dryness ∈ tbG := tb_in (List.mem_of_getElem? (i := 1211) (by decide +kernel)) rfl
theorem mfLX9_dryness : MF yX9_dryness cX9_dryness 5 (some .long) 4 := ⟨tb_in (List.mem_of_getElem? (i := 1214) (by decide +kernel)) rfl, tb_in (List.mem_of_getElem? (i := 80) (by decide +kernel)) rfl, by decide +kernel, by decide⟩
theorem miLX9_dryness : Cond.instanceMethod yX9_dryness ∈ tbG ∧ Cond.selects yX9_dryness.cls yX9_dryness yX9_dryness ∈ tbG := ⟨tb_in (List.mem_of_getElem? (i := 1212) (by decide +kernel)) rfl, tb_in (List.mem_of_getElem? (i := 1213) (by decide +kernel)) rfl⟩
theorem lkL_134 : Cond.methodLink R_law 134 yX8_weather ∈ tbG := tb_in (List.mem_of_getElem? (i := 718) (by decide +kernel)) rfl
theorem mfLX8_weather : MF yX8_weather cX8_weather 6 (some .int) 3 := ⟨tb_in (List.mem_of_getElem? (i := 721) (by decide +kernel)) rfl, tb_in (List.mem_of_getElem? (i := 70) (by decide +kernel)) rfl, by decide +kernel, by decide⟩
theorem miLX8_weather : Cond.instanceMethod yX8_weather ∈ tbG ∧ Cond.selects yX8_weather.cls yX8_weather yX8_weather ∈ tbG := ⟨tb_in (List.mem_of_getElem? (i := 719) (by decide +kernel)) rfl, tb_in (List.mem_of_getElem? (i := 720) (by decide +kernel)) rfl⟩
theorem lkL_137 : Cond.methodLink R_law 137 yX9_weather ∈ tbG := tb_in (List.mem_of_getElem? (i := 1226) (by decide +kernel)) rfl
theorem mfLX9_weather : MF yX9_weather cX9_weather 4 (some .int) 3 := ⟨tb_in (List.mem_of_getElem? (i := 1229) (by decide +kernel)) rfl, tb_in (List.mem_of_getElem? (i := 80) (by decide +kernel)) rfl, by decide +kernel, by decide⟩
theorem miLX9_weather : Cond.instanceMethod yX9_weather ∈ tbG ∧ Cond.selects yX9_weather.cls yX9_weather yX9_weather ∈ tbG := ⟨tb_in (List.mem_of_getElem? (i := 1227) (by decide +kernel)) rfl, tb_in (List.mem_of_getElem? (i := 1228) (by decide +kernel)) rfl⟩
theorem lkL_138 : Cond.methodLink R_law 138 yX8_sheet ∈ tbG := tb_in (List.mem_of_getElem? (i := 727) (by decide +kernel)) rfl
theorem mfLX8_sheet : MF yX8_sheet cX8_sheet 4 (some .int) 3 := ⟨tb_in (List.mem_of_getElem? (i := 730) (by decide +kernel)) rfl, tb_in (List.mem_of_getElem? (i := 70) (by decide +kernel)) rfl, by decide +kernel, by decide⟩
theorem miLX8_sheet : Cond.instanceMethod yX8_sheet ∈ tbG ∧ Cond.selects yX8_sheet.cls yX8_sheet yX8_sheet ∈ tbG := ⟨tb_in (List.mem_of_getElem? (i := 728) (by decide +kernel)) rfl, tb_in (List.mem_of_getElem? (i := 729) (by decide +kernel)) rfl⟩
theorem lkL_141 : Cond.methodLink R_law 141 yX9_sheet ∈ tbG := tb_in (List.mem_of_getElem? (i := 1235) (by decide +kernel)) rfl
theorem mfLX9_sheet : MF yX9_sheet cX9_sheet 5 (some .int) 3 := ⟨tb_in (List.mem_of_getElem? (i := 1238) (by decide +kernel)) rfl, tb_in (List.mem_of_getElem? (i := 80) (by decide +kernel)) rfl, by decide +kernel, by decide⟩
theorem miLX9_sheet : Cond.instanceMethod yX9_sheet ∈ tbG ∧ Cond.selects yX9_sheet.cls yX9_sheet yX9_sheet ∈ tbG := ⟨tb_in (List.mem_of_getElem? (i := 1236) (by decide +kernel)) rfl, tb_in (List.mem_of_getElem? (i := 1237) (by decide +kernel)) rfl⟩
theorem lkL_142 : Cond.methodLink R_law 142 yX8_lose ∈ tbG := tb_in (List.mem_of_getElem? (i := 739) (by decide +kernel)) rfl
theorem mfLX8_lose : MF yX8_lose cX8_lose 2 (some .int) 1 := ⟨tb_in (List.mem_of_getElem? (i := 742) (by decide +kernel)) rfl, tb_in (List.mem_of_getElem? (i := 70) (by decide +kernel)) rfl, by decide +kernel, by decide⟩
theorem miLX8_lose : Cond.instanceMethod yX8_lose ∈ tbG ∧ Cond.selects yX8_lose.cls yX8_lose yX8_lose ∈ tbG := ⟨tb_in (List.mem_of_getElem? (i := 740) (by decide +kernel)) rfl, tb_in (List.mem_of_getElem? (i := 741) (by decide +kernel)) rfl⟩
theorem lkL_145 : Cond.methodLink R_law 145 yX9_lose ∈ tbG := tb_in (List.mem_of_getElem? (i := 1239) (by decide +kernel)) rfl
theorem mfLX9_lose : MF yX9_lose cX9_lose 2 (some .int) 1 := ⟨tb_in (List.mem_of_getElem? (i := 1242) (by decide +kernel)) rfl, tb_in (List.mem_of_getElem? (i := 80) (by decide +kernel)) rfl, by decide +kernel, by decide⟩
theorem miLX9_lose : Cond.instanceMethod yX9_lose ∈ tbG ∧ Cond.selects yX9_lose.cls yX9_lose yX9_lose ∈ tbG := ⟨tb_in (List.mem_of_getElem? (i := 1240) (by decide +kernel)) rfl, tb_in (List.mem_of_getElem? (i := 1241) (by decide +kernel)) rfl⟩
theorem lkL_146 : Cond.methodLink R_law 146 yX8_put ∈ tbG := tb_in (List.mem_of_getElem? (i := 743) (by decide +kernel)) rfl
theorem mfLX8_put : MF yX8_put cX8_put 6 (some .int) 4 := ⟨tb_in (List.mem_of_getElem? (i := 746) (by decide +kernel)) rfl, tb_in (List.mem_of_getElem? (i := 70) (by decide +kernel)) rfl, by decide +kernel, by decide⟩
theorem miLX8_put : Cond.instanceMethod yX8_put ∈ tbG ∧ Cond.selects yX8_put.cls yX8_put yX8_put ∈ tbG := ⟨tb_in (List.mem_of_getElem? (i := 744) (by decide +kernel)) rfl, tb_in (List.mem_of_getElem? (i := 745) (by decide +kernel)) rfl⟩
theorem lkL_150 : Cond.methodLink R_law 150 yX9_put ∈ tbG := tb_in (List.mem_of_getElem? (i := 1243) (by decide +kernel)) rfl
theorem mfLX9_put : MF yX9_put cX9_put 6 (some .int) 4 := ⟨tb_in (List.mem_of_getElem? (i := 1246) (by decide +kernel)) rfl, tb_in (List.mem_of_getElem? (i := 80) (by decide +kernel)) rfl, by decide +kernel, by decide⟩
theorem miLX9_put : Cond.instanceMethod yX9_put ∈ tbG ∧ Cond.selects yX9_put.cls yX9_put yX9_put ∈ tbG := ⟨tb_in (List.mem_of_getElem? (i := 1244) (by decide +kernel)) rfl, tb_in (List.mem_of_getElem? (i := 1245) (by decide +kernel)) rfl⟩
theorem lkL_151 : Cond.methodLink R_law 151 yX8_get ∈ tbG := tb_in (List.mem_of_getElem? (i := 754) (by decide +kernel)) rfl
theorem mfLX8_get : MF yX8_get cX8_get 5 (some .int) 3 := ⟨tb_in (List.mem_of_getElem? (i := 757) (by decide +kernel)) rfl, tb_in (List.mem_of_getElem? (i := 70) (by decide +kernel)) rfl, by decide +kernel, by decide⟩
theorem miLX8_get : Cond.instanceMethod yX8_get ∈ tbG ∧ Cond.selects yX8_get.cls yX8_get yX8_get ∈ tbG := ⟨tb_in (List.mem_of_getElem? (i := 755) (by decide +kernel)) rfl, tb_in (List.mem_of_getElem? (i := 756) (by decide +kernel)) rfl⟩
theorem lkL_154 : Cond.methodLink R_law 154 yX9_get ∈ tbG := tb_in (List.mem_of_getElem? (i := 1255) (by decide +kernel)) rfl
theorem mfLX9_get : MF yX9_get cX9_get 5 (some .int) 3 := ⟨tb_in (List.mem_of_getElem? (i := 1258) (by decide +kernel)) rfl, tb_in (List.mem_of_getElem? (i := 80) (by decide +kernel)) rfl, by decide +kernel, by decide⟩
theorem miLX9_get : Cond.instanceMethod yX9_get ∈ tbG ∧ Cond.selects yX9_get.cls yX9_get yX9_get ∈ tbG := ⟨tb_in (List.mem_of_getElem? (i := 1256) (by decide +kernel)) rfl, tb_in (List.mem_of_getElem? (i := 1257) (by decide +kernel)) rfl⟩
theorem lkL_155 : Cond.methodLink R_law 155 yX8_copy ∈ tbG := tb_in (List.mem_of_getElem? (i := 759) (by decide +kernel)) rfl
theorem mfLX8_copy : MF yX8_copy cX8_copy 8 (some .int) 5 := ⟨tb_in (List.mem_of_getElem? (i := 762) (by decide +kernel)) rfl, tb_in (List.mem_of_getElem? (i := 70) (by decide +kernel)) rfl, by decide +kernel, by decide⟩
theorem miLX8_copy : Cond.instanceMethod yX8_copy ∈ tbG ∧ Cond.selects yX8_copy.cls yX8_copy yX8_copy ∈ tbG := ⟨tb_in (List.mem_of_getElem? (i := 760) (by decide +kernel)) rfl, tb_in (List.mem_of_getElem? (i := 761) (by decide +kernel)) rfl⟩
theorem lkL_159 : Cond.methodLink R_law 159 yX9_copy ∈ tbG := tb_in (List.mem_of_getElem? (i := 1260) (by decide +kernel)) rfl
theorem mfLX9_copy : MF yX9_copy cX9_copy 7 (some .int) 5 := ⟨tb_in (List.mem_of_getElem? (i := 1263) (by decide +kernel)) rfl, tb_in (List.mem_of_getElem? (i := 80) (by decide +kernel)) rfl, by decide +kernel, by decide⟩
theorem miLX9_copy : Cond.instanceMethod yX9_copy ∈ tbG ∧ Cond.selects yX9_copy.cls yX9_copy yX9_copy ∈ tbG := ⟨tb_in (List.mem_of_getElem? (i := 1261) (by decide +kernel)) rfl, tb_in (List.mem_of_getElem? (i := 1262) (by decide +kernel)) rfl⟩
theorem lkL_160 : Cond.methodLink R_law 160 yX8_write ∈ tbG := tb_in (List.mem_of_getElem? (i := 767) (by decide +kernel)) rfl
theorem mfLX8_write : MF yX8_write cX8_write 6 (some .int) 2 := ⟨tb_in (List.mem_of_getElem? (i := 770) (by decide +kernel)) rfl, tb_in (List.mem_of_getElem? (i := 70) (by decide +kernel)) rfl, by decide +kernel, by decide⟩
theorem miLX8_write : Cond.instanceMethod yX8_write ∈ tbG ∧ Cond.selects yX8_write.cls yX8_write yX8_write ∈ tbG := ⟨tb_in (List.mem_of_getElem? (i := 768) (by decide +kernel)) rfl, tb_in (List.mem_of_getElem? (i := 769) (by decide +kernel)) rfl⟩
theorem lkL_163 : Cond.methodLink R_law 163 yX9_write ∈ tbG := tb_in (List.mem_of_getElem? (i := 1264) (by decide +kernel)) rfl
theorem mfLX9_write : MF yX9_write cX9_write 4 (some .int) 2 := ⟨tb_in (List.mem_of_getElem? (i := 1267) (by decide +kernel)) rfl, tb_in (List.mem_of_getElem? (i := 80) (by decide +kernel)) rfl, by decide +kernel, by decide⟩
theorem miLX9_write : Cond.instanceMethod yX9_write ∈ tbG ∧ Cond.selects yX9_write.cls yX9_write yX9_write ∈ tbG := ⟨tb_in (List.mem_of_getElem? (i := 1265) (by decide +kernel)) rfl, tb_in (List.mem_of_getElem? (i := 1266) (by decide +kernel)) rfl⟩
theorem lkL_164 : Cond.methodLink R_law 164 yX8_count ∈ tbG := tb_in (List.mem_of_getElem? (i := 772) (by decide +kernel)) rfl
theorem mfLX8_count : MF yX8_count cX8_count 2 (some .int) 1 := ⟨tb_in (List.mem_of_getElem? (i := 775) (by decide +kernel)) rfl, tb_in (List.mem_of_getElem? (i := 70) (by decide +kernel)) rfl, by decide +kernel, by decide⟩
theorem miLX8_count : Cond.instanceMethod yX8_count ∈ tbG ∧ Cond.selects yX8_count.cls yX8_count yX8_count ∈ tbG := ⟨tb_in (List.mem_of_getElem? (i := 773) (by decide +kernel)) rfl, tb_in (List.mem_of_getElem? (i := 774) (by decide +kernel)) rfl⟩
theorem lkL_167 : Cond.methodLink R_law 167 yX9_count ∈ tbG := tb_in (List.mem_of_getElem? (i := 1268) (by decide +kernel)) rfl
theorem mfLX9_count : MF yX9_count cX9_count 2 (some .int) 1 := ⟨tb_in (List.mem_of_getElem? (i := 1271) (by decide +kernel)) rfl, tb_in (List.mem_of_getElem? (i := 80) (by decide +kernel)) rfl, by decide +kernel, by decide⟩
theorem miLX9_count : Cond.instanceMethod yX9_count ∈ tbG ∧ Cond.selects yX9_count.cls yX9_count yX9_count ∈ tbG := ⟨tb_in (List.mem_of_getElem? (i := 1269) (by decide +kernel)) rfl, tb_in (List.mem_of_getElem? (i := 1270) (by decide +kernel)) rfl⟩
theorem lkL_168 : Cond.methodLink R_law 168 yX8_digest ∈ tbG := tb_in (List.mem_of_getElem? (i := 776) (by decide +kernel)) rfl
theorem mfLX8_digest : MF yX8_digest cX8_digest 4 (some .long) 0 := ⟨tb_in (List.mem_of_getElem? (i := 779) (by decide +kernel)) rfl, tb_in (List.mem_of_getElem? (i := 70) (by decide +kernel)) rfl, by decide +kernel, by decide⟩
theorem miLX8_digest : Cond.instanceMethod yX8_digest ∈ tbG ∧ Cond.selects yX8_digest.cls yX8_digest yX8_digest ∈ tbG := ⟨tb_in (List.mem_of_getElem? (i := 777) (by decide +kernel)) rfl, tb_in (List.mem_of_getElem? (i := 778) (by decide +kernel)) rfl⟩
theorem lkL_172 : Cond.methodLink R_law 172 yX9_digest ∈ tbG := tb_in (List.mem_of_getElem? (i := 1276) (by decide +kernel)) rfl
theorem mfLX9_digest : MF yX9_digest cX9_digest 4 (some .long) 0 := ⟨tb_in (List.mem_of_getElem? (i := 1279) (by decide +kernel)) rfl, tb_in (List.mem_of_getElem? (i := 80) (by decide +kernel)) rfl, by decide +kernel, by decide⟩
theorem miLX9_digest : Cond.instanceMethod yX9_digest ∈ tbG ∧ Cond.selects yX9_digest.cls yX9_digest yX9_digest ∈ tbG := ⟨tb_in (List.mem_of_getElem? (i := 1277) (by decide +kernel)) rfl, tb_in (List.mem_of_getElem? (i := 1278) (by decide +kernel)) rfl⟩
def stp_type (Inv : Sg → Sg → Prop) : Prop := ∀ (Sc Sm : Sg) (x1 x2 : Int32), Inv Sc Sm → ∃ (r : Int32) (Sc2 Sm2 : Sg), fX8_type x1 x2 Sc = some (r, Sc2) ∧ fX9_type x1 x2 Sm = some (r, Sm2) ∧ Inv Sc2 Sm2
def stp_wipe (Inv : Sg → Sg → Prop) : Prop := ∀ (Sc Sm : Sg) (x1 : Int32), Inv Sc Sm → ∃ (r : Int32) (Sc2 Sm2 : Sg), fX8_wipe x1 Sc = some (r, Sc2) ∧ fX9_wipe x1 Sm = some (r, Sm2) ∧ Inv Sc2 Sm2
def stp_undo (Inv : Sg → Sg → Prop) : Prop := ∀ (Sc Sm : Sg) (x1 : Int32), Inv Sc Sm → ∃ (r : Int32) (Sc2 Sm2 : Sg), fX8_undo x1 Sc = some (r, Sc2) ∧ fX9_undo x1 Sm = some (r, Sm2) ∧ Inv Sc2 Sm2
def stp_fault (Inv : Sg → Sg → Prop) : Prop := ∀ (Sc Sm : Sg) (x1 : Int32), Inv Sc Sm → ∃ (r : Int32) (Sc2 Sm2 : Sg), fX8_fault x1 Sc = some (r, Sc2) ∧ fX9_fault x1 Sm = some (r, Sm2) ∧ Inv Sc2 Sm2
def stp_damp (Inv : Sg → Sg → Prop) : Prop := ∀ (Sc Sm : Sg) (x1 : Int32), Inv Sc Sm → ∃ (r : Int32) (Sc2 Sm2 : Sg), fX8_damp x1 Sc = some (r, Sc2) ∧ fX9_damp x1 Sm = some (r, Sm2) ∧ Inv Sc2 Sm2
def stp_stroke (Inv : Sg → Sg → Prop) : Prop := ∀ (Sc Sm : Sg) (x1 x2 : Int32), Inv Sc Sm → ∃ (r : Int32) (Sc2 Sm2 : Sg), fX8_stroke x1 x2 Sc = some (r, Sc2) ∧ fX9_stroke x1 x2 Sm = some (r, Sm2) ∧ Inv Sc2 Sm2
def stp_fine (Inv : Sg → Sg → Prop) : Prop := ∀ (Sc Sm : Sg) (x1 : Int32), Inv Sc Sm → ∃ (r : Int32) (Sc2 Sm2 : Sg), fX8_fine x1 Sc = some (r, Sc2) ∧ fX9_fine x1 Sm = some (r, Sm2) ∧ Inv Sc2 Sm2
def stp_clean (Inv : Sg → Sg → Prop) : Prop := ∀ (Sc Sm : Sg) (x1 x2 : Int32), Inv Sc Sm → ∃ (r : Int32) (Sc2 Sm2 : Sg), fX8_clean x1 x2 Sc = some (r, Sc2) ∧ fX9_clean x1 x2 Sm = some (r, Sm2) ∧ Inv Sc2 Sm2
def stp_grease (Inv : Sg → Sg → Prop) : Prop := ∀ (Sc Sm : Sg) (x1 x2 : Int32), Inv Sc Sm → ∃ (r : Int32) (Sc2 Sm2 : Sg), fX8_grease x1 x2 Sc = some (r, Sc2) ∧ fX9_grease x1 x2 Sm = some (r, Sm2) ∧ Inv Sc2 Sm2
def stp_back (Inv : Sg → Sg → Prop) : Prop := ∀ (Sc Sm : Sg) (x1 : Int32), Inv Sc Sm → ∃ (r : Int32) (Sc2 Sm2 : Sg), fX8_back x1 Sc = some (r, Sc2) ∧ fX9_back x1 Sm = some (r, Sm2) ∧ Inv Sc2 Sm2
def stp_read (Inv : Sg → Sg → Prop) : Prop := ∀ (Sc Sm : Sg) (x1 : Int32), Inv Sc Sm → ∃ (r : Int32) (Sc2 Sm2 : Sg), fX8_read x1 Sc = some (r, Sc2) ∧ fX9_read x1 Sm = some (r, Sm2) ∧ Inv Sc2 Sm2
def stp_stands (Inv : Sg → Sg → Prop) : Prop := ∀ (Sc Sm : Sg) (x1 x2 : Int32), Inv Sc Sm → ∃ (r : Int32) (Sc2 Sm2 : Sg), fX8_stands x1 x2 Sc = some (r, Sc2) ∧ fX9_stands x1 x2 Sm = some (r, Sm2) ∧ Inv Sc2 Sm2
def stp_state (Inv : Sg → Sg → Prop) : Prop := ∀ (Sc Sm : Sg) (x1 x2 x3 : Int32), Inv Sc Sm → ∃ (r : Int32) (Sc2 Sm2 : Sg), fX8_state x1 x2 x3 Sc = some (r, Sc2) ∧ fX9_state x1 x2 x3 Sm = some (r, Sm2) ∧ Inv Sc2 Sm2
def stp_up (Inv : Sg → Sg → Prop) : Prop := ∀ (Sc Sm : Sg) (x1 : Int32), Inv Sc Sm → ∃ (r : Int32) (Sc2 Sm2 : Sg), fX8_up x1 Sc = some (r, Sc2) ∧ fX9_up x1 Sm = some (r, Sm2) ∧ Inv Sc2 Sm2
def stp_through (Inv : Sg → Sg → Prop) : Prop := ∀ (Sc Sm : Sg) (x1 : Int32), Inv Sc Sm → ∃ (r : Int32) (Sc2 Sm2 : Sg), fX8_through x1 Sc = some (r, Sc2) ∧ fX9_through x1 Sm = some (r, Sm2) ∧ Inv Sc2 Sm2
def stp_misread (Inv : Sg → Sg → Prop) : Prop := ∀ (Sc Sm : Sg) (x1 : Int32), Inv Sc Sm → ∃ (r : Int32) (Sc2 Sm2 : Sg), fX8_misread x1 Sc = some (r, Sc2) ∧ fX9_misread x1 Sm = some (r, Sm2) ∧ Inv Sc2 Sm2
def stp_most (Inv : Sg → Sg → Prop) : Prop := ∀ (Sc Sm : Sg), Inv Sc Sm → ∃ (r : Int32) (Sc2 Sm2 : Sg), fX8_most Sc = some (r, Sc2) ∧ fX9_most Sm = some (r, Sm2) ∧ Inv Sc2 Sm2
def stp_deep (Inv : Sg → Sg → Prop) : Prop := ∀ (Sc Sm : Sg) (x1 : Int32), Inv Sc Sm → ∃ (r : Int32) (Sc2 Sm2 : Sg), fX8_deep x1 Sc = some (r, Sc2) ∧ fX9_deep x1 Sm = some (r, Sm2) ∧ Inv Sc2 Sm2
def stp_oil (Inv : Sg → Sg → Prop) : Prop := ∀ (Sc Sm : Sg) (x1 : Int32), Inv Sc Sm → ∃ (r : Int32) (Sc2 Sm2 : Sg), fX8_oil x1 Sc = some (r, Sc2) ∧ fX9_oil x1 Sm = some (r, Sm2) ∧ Inv Sc2 Sm2
def stp_when (Inv : Sg → Sg → Prop) : Prop := ∀ (Sc Sm : Sg) (x1 x2 : Int32), Inv Sc Sm → ∃ (r : Int32) (Sc2 Sm2 : Sg), fX8_when x1 x2 Sc = some (r, Sc2) ∧ fX9_when x1 x2 Sm = some (r, Sm2) ∧ Inv Sc2 Sm2
def stp_place (Inv : Sg → Sg → Prop) : Prop := ∀ (Sc Sm : Sg) (x1 x2 : Int32), Inv Sc Sm → ∃ (r : Int32) (Sc2 Sm2 : Sg), fX8_place x1 x2 Sc = some (r, Sc2) ∧ fX9_place x1 x2 Sm = some (r, Sm2) ∧ Inv Sc2 Sm2
def stp_dry (Inv : Sg → Sg → Prop) : Prop := ∀ (Sc Sm : Sg) (x1 : Int32), Inv Sc Sm → ∃ (r : Int32) (Sc2 Sm2 : Sg), fX8_dry x1 Sc = some (r, Sc2) ∧ fX9_dry x1 Sm = some (r, Sm2) ∧ Inv Sc2 Sm2
def stp_seen (Inv : Sg → Sg → Prop) : Prop := ∀ (Sc Sm : Sg) (x1 x2 x3 : Int32), Inv Sc Sm → ∃ (r : Int32) (Sc2 Sm2 : Sg), fX8_seen x1 x2 x3 Sc = some (r, Sc2) ∧ fX9_seen x1 x2 x3 Sm = some (r, Sm2) ∧ Inv Sc2 Sm2
def stp_forget (Inv : Sg → Sg → Prop) : Prop := ∀ (Sc Sm : Sg), Inv Sc Sm → ∃ (r : Int32) (Sc2 Sm2 : Sg), fX8_forget Sc = some (r, Sc2) ∧ fX9_forget Sm = some (r, Sm2) ∧ Inv Sc2 Sm2
def stp_never (Inv : Sg → Sg → Prop) : Prop := ∀ (Sc Sm : Sg), Inv Sc Sm → ∃ (r : Int32) (Sc2 Sm2 : Sg), fX8_never Sc = some (r, Sc2) ∧ fX9_never Sm = some (r, Sm2) ∧ Inv Sc2 Sm2
def stp_sign (Inv : Sg → Sg → Prop) : Prop := ∀ (Sc Sm : Sg) (x1 : Int32), Inv Sc Sm → ∃ (r : Int32) (Sc2 Sm2 : Sg), fX8_sign x1 Sc = some (r, Sc2) ∧ fX9_sign x1 Sm = some (r, Sm2) ∧ Inv Sc2 Sm2
def stp_chalk (Inv : Sg → Sg → Prop) : Prop := ∀ (Sc Sm : Sg) (x1 : Int32), Inv Sc Sm → ∃ (r : Int32) (Sc2 Sm2 : Sg), fX8_chalk x1 Sc = some (r, Sc2) ∧ fX9_chalk x1 Sm = some (r, Sm2) ∧ Inv Sc2 Sm2
def stp_ask (Inv : Sg → Sg → Prop) : Prop := ∀ (Sc Sm : Sg) (x1 : Int32), Inv Sc Sm → ∃ (r : Int32) (Sc2 Sm2 : Sg), fX8_ask x1 Sc = some (r, Sc2) ∧ fX9_ask x1 Sm = some (r, Sm2) ∧ Inv Sc2 Sm2
def stp_dryness (Inv : Sg → Sg → Prop) : Prop := ∀ (Sc Sm : Sg) (x1 x2 x3 x4 : Int32), Inv Sc Sm → ∃ (r : Int64) (Sc2 Sm2 : Sg), fX8_dryness x1 x2 x3 x4 Sc = some (r, Sc2) ∧ fX9_dryness x1 x2 x3 x4 Sm = some (r, Sm2) ∧ Inv Sc2 Sm2
def stp_weather (Inv : Sg → Sg → Prop) : Prop := ∀ (Sc Sm : Sg) (x1 x2 x3 : Int32), Inv Sc Sm → ∃ (r : Int32) (Sc2 Sm2 : Sg), fX8_weather x1 x2 x3 Sc = some (r, Sc2) ∧ fX9_weather x1 x2 x3 Sm = some (r, Sm2) ∧ Inv Sc2 Sm2
def stp_sheet (Inv : Sg → Sg → Prop) : Prop := ∀ (Sc Sm : Sg) (x1 x2 x3 : Int32), Inv Sc Sm → ∃ (r : Int32) (Sc2 Sm2 : Sg), fX8_sheet x1 x2 x3 Sc = some (r, Sc2) ∧ fX9_sheet x1 x2 x3 Sm = some (r, Sm2) ∧ Inv Sc2 Sm2
def stp_lose (Inv : Sg → Sg → Prop) : Prop := ∀ (Sc Sm : Sg) (x1 : Int32), Inv Sc Sm → ∃ (r : Int32) (Sc2 Sm2 : Sg), fX8_lose x1 Sc = some (r, Sc2) ∧ fX9_lose x1 Sm = some (r, Sm2) ∧ Inv Sc2 Sm2
def stp_put (Inv : Sg → Sg → Prop) : Prop := ∀ (Sc Sm : Sg) (x1 x2 x3 x4 : Int32), Inv Sc Sm → ∃ (r : Int32) (Sc2 Sm2 : Sg), fX8_put x1 x2 x3 x4 Sc = some (r, Sc2) ∧ fX9_put x1 x2 x3 x4 Sm = some (r, Sm2) ∧ Inv Sc2 Sm2
def stp_get (Inv : Sg → Sg → Prop) : Prop := ∀ (Sc Sm : Sg) (x1 x2 x3 : Int32), Inv Sc Sm → ∃ (r : Int32) (Sc2 Sm2 : Sg), fX8_get x1 x2 x3 Sc = some (r, Sc2) ∧ fX9_get x1 x2 x3 Sm = some (r, Sm2) ∧ Inv Sc2 Sm2
def stp_copy (Inv : Sg → Sg → Prop) : Prop := ∀ (Sc Sm : Sg) (x1 x2 x3 x4 x5 : Int32), Inv Sc Sm → ∃ (r : Int32) (Sc2 Sm2 : Sg), fX8_copy x1 x2 x3 x4 x5 Sc = some (r, Sc2) ∧ fX9_copy x1 x2 x3 x4 x5 Sm = some (r, Sm2) ∧ Inv Sc2 Sm2
def stp_write (Inv : Sg → Sg → Prop) : Prop := ∀ (Sc Sm : Sg) (x1 x2 : Int32), Inv Sc Sm → ∃ (r : Int32) (Sc2 Sm2 : Sg), fX8_write x1 x2 Sc = some (r, Sc2) ∧ fX9_write x1 x2 Sm = some (r, Sm2) ∧ Inv Sc2 Sm2
def stp_count (Inv : Sg → Sg → Prop) : Prop := ∀ (Sc Sm : Sg) (x1 : Int32), Inv Sc Sm → ∃ (r : Int32) (Sc2 Sm2 : Sg), fX8_count x1 Sc = some (r, Sc2) ∧ fX9_count x1 Sm = some (r, Sm2) ∧ Inv Sc2 Sm2
def stp_digest (Inv : Sg → Sg → Prop) : Prop := ∀ (Sc Sm : Sg), Inv Sc Sm → ∃ (r : Int64) (Sc2 Sm2 : Sg), fX8_digest Sc = some (r, Sc2) ∧ fX9_digest Sm = some (r, Sm2) ∧ Inv Sc2 Sm2
def stp_all (Inv : Sg → Sg → Prop) : Prop := stp_type Inv ∧ stp_wipe Inv ∧ stp_undo Inv ∧ stp_fault Inv ∧ stp_damp Inv ∧ stp_stroke Inv ∧ stp_fine Inv ∧ stp_clean Inv ∧ stp_grease Inv ∧ stp_back Inv ∧ stp_read Inv ∧ stp_stands Inv ∧ stp_state Inv ∧ stp_up Inv ∧ stp_through Inv ∧ stp_misread Inv ∧ stp_most Inv ∧ stp_deep Inv ∧ stp_oil Inv ∧ stp_when Inv ∧ stp_place Inv ∧ stp_dry Inv ∧ stp_seen Inv ∧ stp_forget Inv ∧ stp_never Inv ∧ stp_sign Inv ∧ stp_chalk Inv ∧ stp_ask Inv ∧ stp_dryness Inv ∧ stp_weather Inv ∧ stp_sheet Inv ∧ stp_lose Inv ∧ stp_put Inv ∧ stp_get Inv ∧ stp_copy Inv ∧ stp_write Inv ∧ stp_count Inv ∧ stp_digest Inv
set_option maxHeartbeats 4000000 in
set_option maxRecDepth 100000 in
theorem lc_type {Inv : Sg → Sg → Prop} {Gc Gm : Gd} {Z : Mc} {b n nc ns : Nat} {xs : Nat → Int32} (X : Lx Gc Gm Z b n xs nc ns) (hn : n ≤ 384) (hstep : stp_type Inv) (i : Nat) (hi : i + 6 ≤ n) {Sc Sm : Sg} (hI : Inv Sc Sm) (k : ∀ Sc2 Sm2, Inv Sc2 Sm2 → Lw Gc Gm Z b nc ns 1316 [(0, .ref b), (1, .ref (Gc.2.1 0)), (2, .ref (Gm.2.1 0)), (3, .int (nI i))] [] Sc2 Sm2) : Lw Gc Gm Z b nc ns 200 [(0, .ref b), (1, .ref (Gc.2.1 0)), (2, .ref (Gm.2.1 0)), (3, .int (nI i))] [] Sc Sm := by
  obtain ⟨r, Sc2, Sm2, h1, h2, h3⟩ := hstep Sc Sm (xs (i + 1)) (xs (i + 2)) hI
  refine l_aload_n 201 X 1 dL_law_200 rfl rfl rfl ?_
  refine l_arg X i 1 (by omega) hn (by decide) rfl dL_law_201 dL_law_202 dL_law_203 dL_law_204 dL_law_205 ?_
  refine l_arg X i 2 (by omega) hn (by decide) rfl dL_law_206 dL_law_207 dL_law_208 dL_law_209 dL_law_210 ?_
  refine l_cC (As := [.int (xs (i + 1)), .int (xs (i + 2))]) (rest := []) X (tX8_type Gc _ 0 _ _ _) h1 mfLX8_type miLX8_type lkL_13 rfl (by decide) (Nat.le_of_ble_eq_true rfl) dL_law_211 ?_
  refine l_aload_n 215 X 2 dL_law_214 rfl rfl rfl ?_
  refine l_arg X i 1 (by omega) hn (by decide) rfl dL_law_215 dL_law_216 dL_law_217 dL_law_218 dL_law_219 ?_
  refine l_arg X i 2 (by omega) hn (by decide) rfl dL_law_220 dL_law_221 dL_law_222 dL_law_223 dL_law_224 ?_
  refine l_cM (As := [.int (xs (i + 1)), .int (xs (i + 2))]) (rest := [.int r]) X (tX9_type Gm _ 0 _ _ _) h2 mfLX9_type miLX9_type lkL_17 rfl (by decide) (Nat.le_of_ble_eq_true rfl) dL_law_225 ?_
  refine l_eqi 1316 X dL_law_228 (by decide) ?_
  exact k Sc2 Sm2 h3
set_option maxHeartbeats 4000000 in
set_option maxRecDepth 100000 in
theorem lc_wipe {Inv : Sg → Sg → Prop} {Gc Gm : Gd} {Z : Mc} {b n nc ns : Nat} {xs : Nat → Int32} (X : Lx Gc Gm Z b n xs nc ns) (hn : n ≤ 384) (hstep : stp_wipe Inv) (i : Nat) (hi : i + 6 ≤ n) {Sc Sm : Sg} (hI : Inv Sc Sm) (k : ∀ Sc2 Sm2, Inv Sc2 Sm2 → Lw Gc Gm Z b nc ns 1316 [(0, .ref b), (1, .ref (Gc.2.1 0)), (2, .ref (Gm.2.1 0)), (3, .int (nI i))] [] Sc2 Sm2) : Lw Gc Gm Z b nc ns 233 [(0, .ref b), (1, .ref (Gc.2.1 0)), (2, .ref (Gm.2.1 0)), (3, .int (nI i))] [] Sc Sm := by
  obtain ⟨r, Sc2, Sm2, h1, h2, h3⟩ := hstep Sc Sm (xs (i + 1)) hI
  refine l_aload_n 234 X 1 dL_law_233 rfl rfl rfl ?_
  refine l_arg X i 1 (by omega) hn (by decide) rfl dL_law_234 dL_law_235 dL_law_236 dL_law_237 dL_law_238 ?_
  refine l_cC (As := [.int (xs (i + 1))]) (rest := []) X (tX8_wipe Gc _ 0 _ _) h1 mfLX8_wipe miLX8_wipe lkL_18 rfl (by decide) (Nat.le_of_ble_eq_true rfl) dL_law_239 ?_
  refine l_aload_n 243 X 2 dL_law_242 rfl rfl rfl ?_
  refine l_arg X i 1 (by omega) hn (by decide) rfl dL_law_243 dL_law_244 dL_law_245 dL_law_246 dL_law_247 ?_
  refine l_cM (As := [.int (xs (i + 1))]) (rest := [.int r]) X (tX9_wipe Gm _ 0 _ _) h2 mfLX9_wipe miLX9_wipe lkL_22 rfl (by decide) (Nat.le_of_ble_eq_true rfl) dL_law_248 ?_
  refine l_eqi 1316 X dL_law_251 (by decide) ?_
  exact k Sc2 Sm2 h3
set_option maxHeartbeats 4000000 in
set_option maxRecDepth 100000 in
theorem lc_undo {Inv : Sg → Sg → Prop} {Gc Gm : Gd} {Z : Mc} {b n nc ns : Nat} {xs : Nat → Int32} (X : Lx Gc Gm Z b n xs nc ns) (hn : n ≤ 384) (hstep : stp_undo Inv) (i : Nat) (hi : i + 6 ≤ n) {Sc Sm : Sg} (hI : Inv Sc Sm) (k : ∀ Sc2 Sm2, Inv Sc2 Sm2 → Lw Gc Gm Z b nc ns 1316 [(0, .ref b), (1, .ref (Gc.2.1 0)), (2, .ref (Gm.2.1 0)), (3, .int (nI i))] [] Sc2 Sm2) : Lw Gc Gm Z b nc ns 256 [(0, .ref b), (1, .ref (Gc.2.1 0)), (2, .ref (Gm.2.1 0)), (3, .int (nI i))] [] Sc Sm := by
  obtain ⟨r, Sc2, Sm2, h1, h2, h3⟩ := hstep Sc Sm (xs (i + 1)) hI
  refine l_aload_n 257 X 1 dL_law_256 rfl rfl rfl ?_
  refine l_arg X i 1 (by omega) hn (by decide) rfl dL_law_257 dL_law_258 dL_law_259 dL_law_260 dL_law_261 ?_
  refine l_cC (As := [.int (xs (i + 1))]) (rest := []) X (tX8_undo Gc _ 0 _ _) h1 mfLX8_undo miLX8_undo lkL_23 rfl (by decide) (Nat.le_of_ble_eq_true rfl) dL_law_262 ?_
  refine l_aload_n 266 X 2 dL_law_265 rfl rfl rfl ?_
  refine l_arg X i 1 (by omega) hn (by decide) rfl dL_law_266 dL_law_267 dL_law_268 dL_law_269 dL_law_270 ?_
  refine l_cM (As := [.int (xs (i + 1))]) (rest := [.int r]) X (tX9_undo Gm _ 0 _ _) h2 mfLX9_undo miLX9_undo lkL_26 rfl (by decide) (Nat.le_of_ble_eq_true rfl) dL_law_271 ?_
  refine l_eqi 1316 X dL_law_274 (by decide) ?_
  exact k Sc2 Sm2 h3
set_option maxHeartbeats 4000000 in
set_option maxRecDepth 100000 in
theorem lc_fault {Inv : Sg → Sg → Prop} {Gc Gm : Gd} {Z : Mc} {b n nc ns : Nat} {xs : Nat → Int32} (X : Lx Gc Gm Z b n xs nc ns) (hn : n ≤ 384) (hstep : stp_fault Inv) (i : Nat) (hi : i + 6 ≤ n) {Sc Sm : Sg} (hI : Inv Sc Sm) (k : ∀ Sc2 Sm2, Inv Sc2 Sm2 → Lw Gc Gm Z b nc ns 1316 [(0, .ref b), (1, .ref (Gc.2.1 0)), (2, .ref (Gm.2.1 0)), (3, .int (nI i))] [] Sc2 Sm2) : Lw Gc Gm Z b nc ns 279 [(0, .ref b), (1, .ref (Gc.2.1 0)), (2, .ref (Gm.2.1 0)), (3, .int (nI i))] [] Sc Sm := by
  obtain ⟨r, Sc2, Sm2, h1, h2, h3⟩ := hstep Sc Sm (xs (i + 1)) hI
  refine l_aload_n 280 X 1 dL_law_279 rfl rfl rfl ?_
  refine l_arg X i 1 (by omega) hn (by decide) rfl dL_law_280 dL_law_281 dL_law_282 dL_law_283 dL_law_284 ?_
  refine l_cC (As := [.int (xs (i + 1))]) (rest := []) X (tX8_fault Gc _ 0 _ _) h1 mfLX8_fault miLX8_fault lkL_27 rfl (by decide) (Nat.le_of_ble_eq_true rfl) dL_law_285 ?_
  refine l_aload_n 289 X 2 dL_law_288 rfl rfl rfl ?_
  refine l_arg X i 1 (by omega) hn (by decide) rfl dL_law_289 dL_law_290 dL_law_291 dL_law_292 dL_law_293 ?_
  refine l_cM (As := [.int (xs (i + 1))]) (rest := [.int r]) X (tX9_fault Gm _ 0 _ _) h2 mfLX9_fault miLX9_fault lkL_30 rfl (by decide) (Nat.le_of_ble_eq_true rfl) dL_law_294 ?_
  refine l_eqi 1316 X dL_law_297 (by decide) ?_
  exact k Sc2 Sm2 h3
set_option maxHeartbeats 4000000 in
set_option maxRecDepth 100000 in
theorem lc_damp {Inv : Sg → Sg → Prop} {Gc Gm : Gd} {Z : Mc} {b n nc ns : Nat} {xs : Nat → Int32} (X : Lx Gc Gm Z b n xs nc ns) (hn : n ≤ 384) (hstep : stp_damp Inv) (i : Nat) (hi : i + 6 ≤ n) {Sc Sm : Sg} (hI : Inv Sc Sm) (k : ∀ Sc2 Sm2, Inv Sc2 Sm2 → Lw Gc Gm Z b nc ns 1316 [(0, .ref b), (1, .ref (Gc.2.1 0)), (2, .ref (Gm.2.1 0)), (3, .int (nI i))] [] Sc2 Sm2) : Lw Gc Gm Z b nc ns 302 [(0, .ref b), (1, .ref (Gc.2.1 0)), (2, .ref (Gm.2.1 0)), (3, .int (nI i))] [] Sc Sm := by
  obtain ⟨r, Sc2, Sm2, h1, h2, h3⟩ := hstep Sc Sm (xs (i + 1)) hI
  refine l_aload_n 303 X 1 dL_law_302 rfl rfl rfl ?_
  refine l_arg X i 1 (by omega) hn (by decide) rfl dL_law_303 dL_law_304 dL_law_305 dL_law_306 dL_law_307 ?_
  refine l_cC (As := [.int (xs (i + 1))]) (rest := []) X (tX8_damp Gc _ 0 _ _) h1 mfLX8_damp miLX8_damp lkL_31 rfl (by decide) (Nat.le_of_ble_eq_true rfl) dL_law_308 ?_
  refine l_aload_n 312 X 2 dL_law_311 rfl rfl rfl ?_
  refine l_arg X i 1 (by omega) hn (by decide) rfl dL_law_312 dL_law_313 dL_law_314 dL_law_315 dL_law_316 ?_
  refine l_cM (As := [.int (xs (i + 1))]) (rest := [.int r]) X (tX9_damp Gm _ 0 _ _) h2 mfLX9_damp miLX9_damp lkL_34 rfl (by decide) (Nat.le_of_ble_eq_true rfl) dL_law_317 ?_
  refine l_eqi 1316 X dL_law_320 (by decide) ?_
  exact k Sc2 Sm2 h3
set_option maxHeartbeats 4000000 in
set_option maxRecDepth 100000 in
theorem lc_stroke {Inv : Sg → Sg → Prop} {Gc Gm : Gd} {Z : Mc} {b n nc ns : Nat} {xs : Nat → Int32} (X : Lx Gc Gm Z b n xs nc ns) (hn : n ≤ 384) (hstep : stp_stroke Inv) (i : Nat) (hi : i + 6 ≤ n) {Sc Sm : Sg} (hI : Inv Sc Sm) (k : ∀ Sc2 Sm2, Inv Sc2 Sm2 → Lw Gc Gm Z b nc ns 1316 [(0, .ref b), (1, .ref (Gc.2.1 0)), (2, .ref (Gm.2.1 0)), (3, .int (nI i))] [] Sc2 Sm2) : Lw Gc Gm Z b nc ns 325 [(0, .ref b), (1, .ref (Gc.2.1 0)), (2, .ref (Gm.2.1 0)), (3, .int (nI i))] [] Sc Sm := by
  obtain ⟨r, Sc2, Sm2, h1, h2, h3⟩ := hstep Sc Sm (xs (i + 1)) (xs (i + 2)) hI
  refine l_aload_n 326 X 1 dL_law_325 rfl rfl rfl ?_
  refine l_arg X i 1 (by omega) hn (by decide) rfl dL_law_326 dL_law_327 dL_law_328 dL_law_329 dL_law_330 ?_
  refine l_arg X i 2 (by omega) hn (by decide) rfl dL_law_331 dL_law_332 dL_law_333 dL_law_334 dL_law_335 ?_
  refine l_cC (As := [.int (xs (i + 1)), .int (xs (i + 2))]) (rest := []) X (tX8_stroke Gc _ 0 _ _ _) h1 mfLX8_stroke miLX8_stroke lkL_35 rfl (by decide) (Nat.le_of_ble_eq_true rfl) dL_law_336 ?_
  refine l_aload_n 340 X 2 dL_law_339 rfl rfl rfl ?_
  refine l_arg X i 1 (by omega) hn (by decide) rfl dL_law_340 dL_law_341 dL_law_342 dL_law_343 dL_law_344 ?_
  refine l_arg X i 2 (by omega) hn (by decide) rfl dL_law_345 dL_law_346 dL_law_347 dL_law_348 dL_law_349 ?_
  refine l_cM (As := [.int (xs (i + 1)), .int (xs (i + 2))]) (rest := [.int r]) X (tX9_stroke Gm _ 0 _ _ _) h2 mfLX9_stroke miLX9_stroke lkL_38 rfl (by decide) (Nat.le_of_ble_eq_true rfl) dL_law_350 ?_
  refine l_eqi 1316 X dL_law_353 (by decide) ?_
  exact k Sc2 Sm2 h3
set_option maxHeartbeats 4000000 in
set_option maxRecDepth 100000 in
theorem lc_fine {Inv : Sg → Sg → Prop} {Gc Gm : Gd} {Z : Mc} {b n nc ns : Nat} {xs : Nat → Int32} (X : Lx Gc Gm Z b n xs nc ns) (hn : n ≤ 384) (hstep : stp_fine Inv) (i : Nat) (hi : i + 6 ≤ n) {Sc Sm : Sg} (hI : Inv Sc Sm) (k : ∀ Sc2 Sm2, Inv Sc2 Sm2 → Lw Gc Gm Z b nc ns 1316 [(0, .ref b), (1, .ref (Gc.2.1 0)), (2, .ref (Gm.2.1 0)), (3, .int (nI i))] [] Sc2 Sm2) : Lw Gc Gm Z b nc ns 358 [(0, .ref b), (1, .ref (Gc.2.1 0)), (2, .ref (Gm.2.1 0)), (3, .int (nI i))] [] Sc Sm := by
  obtain ⟨r, Sc2, Sm2, h1, h2, h3⟩ := hstep Sc Sm (xs (i + 1)) hI
  refine l_aload_n 359 X 1 dL_law_358 rfl rfl rfl ?_
  refine l_arg X i 1 (by omega) hn (by decide) rfl dL_law_359 dL_law_360 dL_law_361 dL_law_362 dL_law_363 ?_
  refine l_cC (As := [.int (xs (i + 1))]) (rest := []) X (tX8_fine Gc _ 0 _ _) h1 mfLX8_fine miLX8_fine lkL_39 rfl (by decide) (Nat.le_of_ble_eq_true rfl) dL_law_364 ?_
  refine l_aload_n 368 X 2 dL_law_367 rfl rfl rfl ?_
  refine l_arg X i 1 (by omega) hn (by decide) rfl dL_law_368 dL_law_369 dL_law_370 dL_law_371 dL_law_372 ?_
  refine l_cM (As := [.int (xs (i + 1))]) (rest := [.int r]) X (tX9_fine Gm _ 0 _ _) h2 mfLX9_fine miLX9_fine lkL_42 rfl (by decide) (Nat.le_of_ble_eq_true rfl) dL_law_373 ?_
  refine l_eqi 1316 X dL_law_376 (by decide) ?_
  exact k Sc2 Sm2 h3
set_option maxHeartbeats 4000000 in
set_option maxRecDepth 100000 in
theorem lc_clean {Inv : Sg → Sg → Prop} {Gc Gm : Gd} {Z : Mc} {b n nc ns : Nat} {xs : Nat → Int32} (X : Lx Gc Gm Z b n xs nc ns) (hn : n ≤ 384) (hstep : stp_clean Inv) (i : Nat) (hi : i + 6 ≤ n) {Sc Sm : Sg} (hI : Inv Sc Sm) (k : ∀ Sc2 Sm2, Inv Sc2 Sm2 → Lw Gc Gm Z b nc ns 1316 [(0, .ref b), (1, .ref (Gc.2.1 0)), (2, .ref (Gm.2.1 0)), (3, .int (nI i))] [] Sc2 Sm2) : Lw Gc Gm Z b nc ns 381 [(0, .ref b), (1, .ref (Gc.2.1 0)), (2, .ref (Gm.2.1 0)), (3, .int (nI i))] [] Sc Sm := by
  obtain ⟨r, Sc2, Sm2, h1, h2, h3⟩ := hstep Sc Sm (xs (i + 1)) (xs (i + 2)) hI
  refine l_aload_n 382 X 1 dL_law_381 rfl rfl rfl ?_
  refine l_arg X i 1 (by omega) hn (by decide) rfl dL_law_382 dL_law_383 dL_law_384 dL_law_385 dL_law_386 ?_
  refine l_arg X i 2 (by omega) hn (by decide) rfl dL_law_387 dL_law_388 dL_law_389 dL_law_390 dL_law_391 ?_
  refine l_cC (As := [.int (xs (i + 1)), .int (xs (i + 2))]) (rest := []) X (tX8_clean Gc _ 0 _ _ _) h1 mfLX8_clean miLX8_clean lkL_43 rfl (by decide) (Nat.le_of_ble_eq_true rfl) dL_law_392 ?_
  refine l_aload_n 396 X 2 dL_law_395 rfl rfl rfl ?_
  refine l_arg X i 1 (by omega) hn (by decide) rfl dL_law_396 dL_law_397 dL_law_398 dL_law_399 dL_law_400 ?_
  refine l_arg X i 2 (by omega) hn (by decide) rfl dL_law_401 dL_law_402 dL_law_403 dL_law_404 dL_law_405 ?_
  refine l_cM (As := [.int (xs (i + 1)), .int (xs (i + 2))]) (rest := [.int r]) X (tX9_clean Gm _ 0 _ _ _) h2 mfLX9_clean miLX9_clean lkL_46 rfl (by decide) (Nat.le_of_ble_eq_true rfl) dL_law_406 ?_
  refine l_eqi 1316 X dL_law_409 (by decide) ?_
  exact k Sc2 Sm2 h3
set_option maxHeartbeats 4000000 in
set_option maxRecDepth 100000 in
theorem lc_grease {Inv : Sg → Sg → Prop} {Gc Gm : Gd} {Z : Mc} {b n nc ns : Nat} {xs : Nat → Int32} (X : Lx Gc Gm Z b n xs nc ns) (hn : n ≤ 384) (hstep : stp_grease Inv) (i : Nat) (hi : i + 6 ≤ n) {Sc Sm : Sg} (hI : Inv Sc Sm) (k : ∀ Sc2 Sm2, Inv Sc2 Sm2 → Lw Gc Gm Z b nc ns 1316 [(0, .ref b), (1, .ref (Gc.2.1 0)), (2, .ref (Gm.2.1 0)), (3, .int (nI i))] [] Sc2 Sm2) : Lw Gc Gm Z b nc ns 414 [(0, .ref b), (1, .ref (Gc.2.1 0)), (2, .ref (Gm.2.1 0)), (3, .int (nI i))] [] Sc Sm := by
  obtain ⟨r, Sc2, Sm2, h1, h2, h3⟩ := hstep Sc Sm (xs (i + 1)) (xs (i + 2)) hI
  refine l_aload_n 415 X 1 dL_law_414 rfl rfl rfl ?_
  refine l_arg X i 1 (by omega) hn (by decide) rfl dL_law_415 dL_law_416 dL_law_417 dL_law_418 dL_law_419 ?_
  refine l_arg X i 2 (by omega) hn (by decide) rfl dL_law_420 dL_law_421 dL_law_422 dL_law_423 dL_law_424 ?_
  refine l_cC (As := [.int (xs (i + 1)), .int (xs (i + 2))]) (rest := []) X (tX8_grease Gc _ 0 _ _ _) h1 mfLX8_grease miLX8_grease lkL_47 rfl (by decide) (Nat.le_of_ble_eq_true rfl) dL_law_425 ?_
  refine l_aload_n 429 X 2 dL_law_428 rfl rfl rfl ?_
  refine l_arg X i 1 (by omega) hn (by decide) rfl dL_law_429 dL_law_430 dL_law_431 dL_law_432 dL_law_433 ?_
  refine l_arg X i 2 (by omega) hn (by decide) rfl dL_law_434 dL_law_435 dL_law_436 dL_law_437 dL_law_438 ?_
  refine l_cM (As := [.int (xs (i + 1)), .int (xs (i + 2))]) (rest := [.int r]) X (tX9_grease Gm _ 0 _ _ _) h2 mfLX9_grease miLX9_grease lkL_50 rfl (by decide) (Nat.le_of_ble_eq_true rfl) dL_law_439 ?_
  refine l_eqi 1316 X dL_law_442 (by decide) ?_
  exact k Sc2 Sm2 h3
set_option maxHeartbeats 4000000 in
set_option maxRecDepth 100000 in
theorem lc_back {Inv : Sg → Sg → Prop} {Gc Gm : Gd} {Z : Mc} {b n nc ns : Nat} {xs : Nat → Int32} (X : Lx Gc Gm Z b n xs nc ns) (hn : n ≤ 384) (hstep : stp_back Inv) (i : Nat) (hi : i + 6 ≤ n) {Sc Sm : Sg} (hI : Inv Sc Sm) (k : ∀ Sc2 Sm2, Inv Sc2 Sm2 → Lw Gc Gm Z b nc ns 1316 [(0, .ref b), (1, .ref (Gc.2.1 0)), (2, .ref (Gm.2.1 0)), (3, .int (nI i))] [] Sc2 Sm2) : Lw Gc Gm Z b nc ns 447 [(0, .ref b), (1, .ref (Gc.2.1 0)), (2, .ref (Gm.2.1 0)), (3, .int (nI i))] [] Sc Sm := by
  obtain ⟨r, Sc2, Sm2, h1, h2, h3⟩ := hstep Sc Sm (xs (i + 1)) hI
  refine l_aload_n 448 X 1 dL_law_447 rfl rfl rfl ?_
  refine l_arg X i 1 (by omega) hn (by decide) rfl dL_law_448 dL_law_449 dL_law_450 dL_law_451 dL_law_452 ?_
  refine l_cC (As := [.int (xs (i + 1))]) (rest := []) X (tX8_back Gc _ 0 _ _) h1 mfLX8_back miLX8_back lkL_51 rfl (by decide) (Nat.le_of_ble_eq_true rfl) dL_law_453 ?_
  refine l_aload_n 457 X 2 dL_law_456 rfl rfl rfl ?_
  refine l_arg X i 1 (by omega) hn (by decide) rfl dL_law_457 dL_law_458 dL_law_459 dL_law_460 dL_law_461 ?_
  refine l_cM (As := [.int (xs (i + 1))]) (rest := [.int r]) X (tX9_back Gm _ 0 _ _) h2 mfLX9_back miLX9_back lkL_54 rfl (by decide) (Nat.le_of_ble_eq_true rfl) dL_law_462 ?_
  refine l_eqi 1316 X dL_law_465 (by decide) ?_
  exact k Sc2 Sm2 h3
set_option maxHeartbeats 4000000 in
set_option maxRecDepth 100000 in
theorem lc_read {Inv : Sg → Sg → Prop} {Gc Gm : Gd} {Z : Mc} {b n nc ns : Nat} {xs : Nat → Int32} (X : Lx Gc Gm Z b n xs nc ns) (hn : n ≤ 384) (hstep : stp_read Inv) (i : Nat) (hi : i + 6 ≤ n) {Sc Sm : Sg} (hI : Inv Sc Sm) (k : ∀ Sc2 Sm2, Inv Sc2 Sm2 → Lw Gc Gm Z b nc ns 1316 [(0, .ref b), (1, .ref (Gc.2.1 0)), (2, .ref (Gm.2.1 0)), (3, .int (nI i))] [] Sc2 Sm2) : Lw Gc Gm Z b nc ns 470 [(0, .ref b), (1, .ref (Gc.2.1 0)), (2, .ref (Gm.2.1 0)), (3, .int (nI i))] [] Sc Sm := by
  obtain ⟨r, Sc2, Sm2, h1, h2, h3⟩ := hstep Sc Sm (xs (i + 1)) hI
  refine l_aload_n 471 X 1 dL_law_470 rfl rfl rfl ?_
  refine l_arg X i 1 (by omega) hn (by decide) rfl dL_law_471 dL_law_472 dL_law_473 dL_law_474 dL_law_475 ?_
  refine l_cC (As := [.int (xs (i + 1))]) (rest := []) X (tX8_read Gc _ 0 _ _) h1 mfLX8_read miLX8_read lkL_55 rfl (by decide) (Nat.le_of_ble_eq_true rfl) dL_law_476 ?_
  refine l_aload_n 480 X 2 dL_law_479 rfl rfl rfl ?_
  refine l_arg X i 1 (by omega) hn (by decide) rfl dL_law_480 dL_law_481 dL_law_482 dL_law_483 dL_law_484 ?_
  refine l_cM (As := [.int (xs (i + 1))]) (rest := [.int r]) X (tX9_read Gm _ 0 _ _) h2 mfLX9_read miLX9_read lkL_58 rfl (by decide) (Nat.le_of_ble_eq_true rfl) dL_law_485 ?_
  refine l_eqi 1316 X dL_law_488 (by decide) ?_
  exact k Sc2 Sm2 h3
set_option maxHeartbeats 4000000 in
set_option maxRecDepth 100000 in
theorem lc_stands {Inv : Sg → Sg → Prop} {Gc Gm : Gd} {Z : Mc} {b n nc ns : Nat} {xs : Nat → Int32} (X : Lx Gc Gm Z b n xs nc ns) (hn : n ≤ 384) (hstep : stp_stands Inv) (i : Nat) (hi : i + 6 ≤ n) {Sc Sm : Sg} (hI : Inv Sc Sm) (k : ∀ Sc2 Sm2, Inv Sc2 Sm2 → Lw Gc Gm Z b nc ns 1316 [(0, .ref b), (1, .ref (Gc.2.1 0)), (2, .ref (Gm.2.1 0)), (3, .int (nI i))] [] Sc2 Sm2) : Lw Gc Gm Z b nc ns 493 [(0, .ref b), (1, .ref (Gc.2.1 0)), (2, .ref (Gm.2.1 0)), (3, .int (nI i))] [] Sc Sm := by
  obtain ⟨r, Sc2, Sm2, h1, h2, h3⟩ := hstep Sc Sm (xs (i + 1)) (xs (i + 2)) hI
  refine l_aload_n 494 X 1 dL_law_493 rfl rfl rfl ?_
  refine l_arg X i 1 (by omega) hn (by decide) rfl dL_law_494 dL_law_495 dL_law_496 dL_law_497 dL_law_498 ?_
  refine l_arg X i 2 (by omega) hn (by decide) rfl dL_law_499 dL_law_500 dL_law_501 dL_law_502 dL_law_503 ?_
  refine l_cC (As := [.int (xs (i + 1)), .int (xs (i + 2))]) (rest := []) X (tX8_stands Gc _ 0 _ _ _) h1 mfLX8_stands miLX8_stands lkL_59 rfl (by decide) (Nat.le_of_ble_eq_true rfl) dL_law_504 ?_
  refine l_aload_n 508 X 2 dL_law_507 rfl rfl rfl ?_
  refine l_arg X i 1 (by omega) hn (by decide) rfl dL_law_508 dL_law_509 dL_law_510 dL_law_511 dL_law_512 ?_
  refine l_arg X i 2 (by omega) hn (by decide) rfl dL_law_513 dL_law_514 dL_law_515 dL_law_516 dL_law_517 ?_
  refine l_cM (As := [.int (xs (i + 1)), .int (xs (i + 2))]) (rest := [.int r]) X (tX9_stands Gm _ 0 _ _ _) h2 mfLX9_stands miLX9_stands lkL_62 rfl (by decide) (Nat.le_of_ble_eq_true rfl) dL_law_518 ?_
  refine l_eqi 1316 X dL_law_521 (by decide) ?_
  exact k Sc2 Sm2 h3
set_option maxHeartbeats 4000000 in
set_option maxRecDepth 100000 in
theorem lc_state {Inv : Sg → Sg → Prop} {Gc Gm : Gd} {Z : Mc} {b n nc ns : Nat} {xs : Nat → Int32} (X : Lx Gc Gm Z b n xs nc ns) (hn : n ≤ 384) (hstep : stp_state Inv) (i : Nat) (hi : i + 6 ≤ n) {Sc Sm : Sg} (hI : Inv Sc Sm) (k : ∀ Sc2 Sm2, Inv Sc2 Sm2 → Lw Gc Gm Z b nc ns 1316 [(0, .ref b), (1, .ref (Gc.2.1 0)), (2, .ref (Gm.2.1 0)), (3, .int (nI i))] [] Sc2 Sm2) : Lw Gc Gm Z b nc ns 526 [(0, .ref b), (1, .ref (Gc.2.1 0)), (2, .ref (Gm.2.1 0)), (3, .int (nI i))] [] Sc Sm := by
  obtain ⟨r, Sc2, Sm2, h1, h2, h3⟩ := hstep Sc Sm (xs (i + 1)) (xs (i + 2)) (xs (i + 3)) hI
  refine l_aload_n 527 X 1 dL_law_526 rfl rfl rfl ?_
  refine l_arg X i 1 (by omega) hn (by decide) rfl dL_law_527 dL_law_528 dL_law_529 dL_law_530 dL_law_531 ?_
  refine l_arg X i 2 (by omega) hn (by decide) rfl dL_law_532 dL_law_533 dL_law_534 dL_law_535 dL_law_536 ?_
  refine l_arg X i 3 (by omega) hn (by decide) rfl dL_law_537 dL_law_538 dL_law_539 dL_law_540 dL_law_541 ?_
  refine l_cC (As := [.int (xs (i + 1)), .int (xs (i + 2)), .int (xs (i + 3))]) (rest := []) X (tX8_state Gc _ 0 _ _ _ _) h1 mfLX8_state miLX8_state lkL_63 rfl (by decide) (Nat.le_of_ble_eq_true rfl) dL_law_542 ?_
  refine l_aload_n 546 X 2 dL_law_545 rfl rfl rfl ?_
  refine l_arg X i 1 (by omega) hn (by decide) rfl dL_law_546 dL_law_547 dL_law_548 dL_law_549 dL_law_550 ?_
  refine l_arg X i 2 (by omega) hn (by decide) rfl dL_law_551 dL_law_552 dL_law_553 dL_law_554 dL_law_555 ?_
  refine l_arg X i 3 (by omega) hn (by decide) rfl dL_law_556 dL_law_557 dL_law_558 dL_law_559 dL_law_560 ?_
  refine l_cM (As := [.int (xs (i + 1)), .int (xs (i + 2)), .int (xs (i + 3))]) (rest := [.int r]) X (tX9_state Gm _ 0 _ _ _ _) h2 mfLX9_state miLX9_state lkL_67 rfl (by decide) (Nat.le_of_ble_eq_true rfl) dL_law_561 ?_
  refine l_eqi 1316 X dL_law_564 (by decide) ?_
  exact k Sc2 Sm2 h3
set_option maxHeartbeats 4000000 in
set_option maxRecDepth 100000 in
theorem lc_up {Inv : Sg → Sg → Prop} {Gc Gm : Gd} {Z : Mc} {b n nc ns : Nat} {xs : Nat → Int32} (X : Lx Gc Gm Z b n xs nc ns) (hn : n ≤ 384) (hstep : stp_up Inv) (i : Nat) (hi : i + 6 ≤ n) {Sc Sm : Sg} (hI : Inv Sc Sm) (k : ∀ Sc2 Sm2, Inv Sc2 Sm2 → Lw Gc Gm Z b nc ns 1316 [(0, .ref b), (1, .ref (Gc.2.1 0)), (2, .ref (Gm.2.1 0)), (3, .int (nI i))] [] Sc2 Sm2) : Lw Gc Gm Z b nc ns 569 [(0, .ref b), (1, .ref (Gc.2.1 0)), (2, .ref (Gm.2.1 0)), (3, .int (nI i))] [] Sc Sm := by
  obtain ⟨r, Sc2, Sm2, h1, h2, h3⟩ := hstep Sc Sm (xs (i + 1)) hI
  refine l_aload_n 570 X 1 dL_law_569 rfl rfl rfl ?_
  refine l_arg X i 1 (by omega) hn (by decide) rfl dL_law_570 dL_law_571 dL_law_572 dL_law_573 dL_law_574 ?_
  refine l_cC (As := [.int (xs (i + 1))]) (rest := []) X (tX8_up Gc _ 0 _ _) h1 mfLX8_up miLX8_up lkL_68 rfl (by decide) (Nat.le_of_ble_eq_true rfl) dL_law_575 ?_
  refine l_aload_n 579 X 2 dL_law_578 rfl rfl rfl ?_
  refine l_arg X i 1 (by omega) hn (by decide) rfl dL_law_579 dL_law_580 dL_law_581 dL_law_582 dL_law_583 ?_
  refine l_cM (As := [.int (xs (i + 1))]) (rest := [.int r]) X (tX9_up Gm _ 0 _ _) h2 mfLX9_up miLX9_up lkL_71 rfl (by decide) (Nat.le_of_ble_eq_true rfl) dL_law_584 ?_
  refine l_eqi 1316 X dL_law_587 (by decide) ?_
  exact k Sc2 Sm2 h3
set_option maxHeartbeats 4000000 in
set_option maxRecDepth 100000 in
theorem lc_through {Inv : Sg → Sg → Prop} {Gc Gm : Gd} {Z : Mc} {b n nc ns : Nat} {xs : Nat → Int32} (X : Lx Gc Gm Z b n xs nc ns) (hn : n ≤ 384) (hstep : stp_through Inv) (i : Nat) (hi : i + 6 ≤ n) {Sc Sm : Sg} (hI : Inv Sc Sm) (k : ∀ Sc2 Sm2, Inv Sc2 Sm2 → Lw Gc Gm Z b nc ns 1316 [(0, .ref b), (1, .ref (Gc.2.1 0)), (2, .ref (Gm.2.1 0)), (3, .int (nI i))] [] Sc2 Sm2) : Lw Gc Gm Z b nc ns 592 [(0, .ref b), (1, .ref (Gc.2.1 0)), (2, .ref (Gm.2.1 0)), (3, .int (nI i))] [] Sc Sm := by
  obtain ⟨r, Sc2, Sm2, h1, h2, h3⟩ := hstep Sc Sm (xs (i + 1)) hI
  refine l_aload_n 593 X 1 dL_law_592 rfl rfl rfl ?_
  refine l_arg X i 1 (by omega) hn (by decide) rfl dL_law_593 dL_law_594 dL_law_595 dL_law_596 dL_law_597 ?_
  refine l_cC (As := [.int (xs (i + 1))]) (rest := []) X (tX8_through Gc _ 0 _ _) h1 mfLX8_through miLX8_through lkL_72 rfl (by decide) (Nat.le_of_ble_eq_true rfl) dL_law_598 ?_
  refine l_aload_n 602 X 2 dL_law_601 rfl rfl rfl ?_
  refine l_arg X i 1 (by omega) hn (by decide) rfl dL_law_602 dL_law_603 dL_law_604 dL_law_605 dL_law_606 ?_
  refine l_cM (As := [.int (xs (i + 1))]) (rest := [.int r]) X (tX9_through Gm _ 0 _ _) h2 mfLX9_through miLX9_through lkL_75 rfl (by decide) (Nat.le_of_ble_eq_true rfl) dL_law_607 ?_
  refine l_eqi 1316 X dL_law_610 (by decide) ?_
  exact k Sc2 Sm2 h3
set_option maxHeartbeats 4000000 in
set_option maxRecDepth 100000 in
theorem lc_misread {Inv : Sg → Sg → Prop} {Gc Gm : Gd} {Z : Mc} {b n nc ns : Nat} {xs : Nat → Int32} (X : Lx Gc Gm Z b n xs nc ns) (hn : n ≤ 384) (hstep : stp_misread Inv) (i : Nat) (hi : i + 6 ≤ n) {Sc Sm : Sg} (hI : Inv Sc Sm) (k : ∀ Sc2 Sm2, Inv Sc2 Sm2 → Lw Gc Gm Z b nc ns 1316 [(0, .ref b), (1, .ref (Gc.2.1 0)), (2, .ref (Gm.2.1 0)), (3, .int (nI i))] [] Sc2 Sm2) : Lw Gc Gm Z b nc ns 615 [(0, .ref b), (1, .ref (Gc.2.1 0)), (2, .ref (Gm.2.1 0)), (3, .int (nI i))] [] Sc Sm := by
  obtain ⟨r, Sc2, Sm2, h1, h2, h3⟩ := hstep Sc Sm (xs (i + 1)) hI
  refine l_aload_n 616 X 1 dL_law_615 rfl rfl rfl ?_
  refine l_arg X i 1 (by omega) hn (by decide) rfl dL_law_616 dL_law_617 dL_law_618 dL_law_619 dL_law_620 ?_
  refine l_cC (As := [.int (xs (i + 1))]) (rest := []) X (tX8_misread Gc _ 0 _ _) h1 mfLX8_misread miLX8_misread lkL_76 rfl (by decide) (Nat.le_of_ble_eq_true rfl) dL_law_621 ?_
  refine l_aload_n 625 X 2 dL_law_624 rfl rfl rfl ?_
  refine l_arg X i 1 (by omega) hn (by decide) rfl dL_law_625 dL_law_626 dL_law_627 dL_law_628 dL_law_629 ?_
  refine l_cM (As := [.int (xs (i + 1))]) (rest := [.int r]) X (tX9_misread Gm _ 0 _ _) h2 mfLX9_misread miLX9_misread lkL_79 rfl (by decide) (Nat.le_of_ble_eq_true rfl) dL_law_630 ?_
  refine l_eqi 1316 X dL_law_633 (by decide) ?_
  exact k Sc2 Sm2 h3
set_option maxHeartbeats 4000000 in
set_option maxRecDepth 100000 in
theorem lc_most {Inv : Sg → Sg → Prop} {Gc Gm : Gd} {Z : Mc} {b n nc ns : Nat} {xs : Nat → Int32} (X : Lx Gc Gm Z b n xs nc ns) (hn : n ≤ 384) (hstep : stp_most Inv) (i : Nat) (hi : i + 6 ≤ n) {Sc Sm : Sg} (hI : Inv Sc Sm) (k : ∀ Sc2 Sm2, Inv Sc2 Sm2 → Lw Gc Gm Z b nc ns 1316 [(0, .ref b), (1, .ref (Gc.2.1 0)), (2, .ref (Gm.2.1 0)), (3, .int (nI i))] [] Sc2 Sm2) : Lw Gc Gm Z b nc ns 638 [(0, .ref b), (1, .ref (Gc.2.1 0)), (2, .ref (Gm.2.1 0)), (3, .int (nI i))] [] Sc Sm := by
  obtain ⟨r, Sc2, Sm2, h1, h2, h3⟩ := hstep Sc Sm  hI
  refine l_aload_n 639 X 1 dL_law_638 rfl rfl rfl ?_
  refine l_cC (As := []) (rest := []) X (tX8_most Gc _ 0  _) h1 mfLX8_most miLX8_most lkL_80 rfl (by decide) (Nat.le_of_ble_eq_true rfl) dL_law_639 ?_
  refine l_aload_n 643 X 2 dL_law_642 rfl rfl rfl ?_
  refine l_cM (As := []) (rest := [.int r]) X (tX9_most Gm _ 0  _) h2 mfLX9_most miLX9_most lkL_84 rfl (by decide) (Nat.le_of_ble_eq_true rfl) dL_law_643 ?_
  refine l_eqi 1316 X dL_law_646 (by decide) ?_
  exact k Sc2 Sm2 h3
set_option maxHeartbeats 4000000 in
set_option maxRecDepth 100000 in
theorem lc_deep {Inv : Sg → Sg → Prop} {Gc Gm : Gd} {Z : Mc} {b n nc ns : Nat} {xs : Nat → Int32} (X : Lx Gc Gm Z b n xs nc ns) (hn : n ≤ 384) (hstep : stp_deep Inv) (i : Nat) (hi : i + 6 ≤ n) {Sc Sm : Sg} (hI : Inv Sc Sm) (k : ∀ Sc2 Sm2, Inv Sc2 Sm2 → Lw Gc Gm Z b nc ns 1316 [(0, .ref b), (1, .ref (Gc.2.1 0)), (2, .ref (Gm.2.1 0)), (3, .int (nI i))] [] Sc2 Sm2) : Lw Gc Gm Z b nc ns 651 [(0, .ref b), (1, .ref (Gc.2.1 0)), (2, .ref (Gm.2.1 0)), (3, .int (nI i))] [] Sc Sm := by
  obtain ⟨r, Sc2, Sm2, h1, h2, h3⟩ := hstep Sc Sm (xs (i + 1)) hI
  refine l_aload_n 652 X 1 dL_law_651 rfl rfl rfl ?_
  refine l_arg X i 1 (by omega) hn (by decide) rfl dL_law_652 dL_law_653 dL_law_654 dL_law_655 dL_law_656 ?_
  refine l_cC (As := [.int (xs (i + 1))]) (rest := []) X (tX8_deep Gc _ 0 _ _) h1 mfLX8_deep miLX8_deep lkL_85 rfl (by decide) (Nat.le_of_ble_eq_true rfl) dL_law_657 ?_
  refine l_aload_n 661 X 2 dL_law_660 rfl rfl rfl ?_
  refine l_arg X i 1 (by omega) hn (by decide) rfl dL_law_661 dL_law_662 dL_law_663 dL_law_664 dL_law_665 ?_
  refine l_cM (As := [.int (xs (i + 1))]) (rest := [.int r]) X (tX9_deep Gm _ 0 _ _) h2 mfLX9_deep miLX9_deep lkL_88 rfl (by decide) (Nat.le_of_ble_eq_true rfl) dL_law_666 ?_
  refine l_eqi 1316 X dL_law_669 (by decide) ?_
  exact k Sc2 Sm2 h3
set_option maxHeartbeats 4000000 in
set_option maxRecDepth 100000 in
theorem lc_oil {Inv : Sg → Sg → Prop} {Gc Gm : Gd} {Z : Mc} {b n nc ns : Nat} {xs : Nat → Int32} (X : Lx Gc Gm Z b n xs nc ns) (hn : n ≤ 384) (hstep : stp_oil Inv) (i : Nat) (hi : i + 6 ≤ n) {Sc Sm : Sg} (hI : Inv Sc Sm) (k : ∀ Sc2 Sm2, Inv Sc2 Sm2 → Lw Gc Gm Z b nc ns 1316 [(0, .ref b), (1, .ref (Gc.2.1 0)), (2, .ref (Gm.2.1 0)), (3, .int (nI i))] [] Sc2 Sm2) : Lw Gc Gm Z b nc ns 674 [(0, .ref b), (1, .ref (Gc.2.1 0)), (2, .ref (Gm.2.1 0)), (3, .int (nI i))] [] Sc Sm := by
  obtain ⟨r, Sc2, Sm2, h1, h2, h3⟩ := hstep Sc Sm (xs (i + 1)) hI
  refine l_aload_n 675 X 1 dL_law_674 rfl rfl rfl ?_
  refine l_arg X i 1 (by omega) hn (by decide) rfl dL_law_675 dL_law_676 dL_law_677 dL_law_678 dL_law_679 ?_
  refine l_cC (As := [.int (xs (i + 1))]) (rest := []) X (tX8_oil Gc _ 0 _ _) h1 mfLX8_oil miLX8_oil lkL_89 rfl (by decide) (Nat.le_of_ble_eq_true rfl) dL_law_680 ?_
  refine l_aload_n 684 X 2 dL_law_683 rfl rfl rfl ?_
  refine l_arg X i 1 (by omega) hn (by decide) rfl dL_law_684 dL_law_685 dL_law_686 dL_law_687 dL_law_688 ?_
  refine l_cM (As := [.int (xs (i + 1))]) (rest := [.int r]) X (tX9_oil Gm _ 0 _ _) h2 mfLX9_oil miLX9_oil lkL_92 rfl (by decide) (Nat.le_of_ble_eq_true rfl) dL_law_689 ?_
  refine l_eqi 1316 X dL_law_692 (by decide) ?_
  exact k Sc2 Sm2 h3
set_option maxHeartbeats 4000000 in
set_option maxRecDepth 100000 in
theorem lc_when {Inv : Sg → Sg → Prop} {Gc Gm : Gd} {Z : Mc} {b n nc ns : Nat} {xs : Nat → Int32} (X : Lx Gc Gm Z b n xs nc ns) (hn : n ≤ 384) (hstep : stp_when Inv) (i : Nat) (hi : i + 6 ≤ n) {Sc Sm : Sg} (hI : Inv Sc Sm) (k : ∀ Sc2 Sm2, Inv Sc2 Sm2 → Lw Gc Gm Z b nc ns 1316 [(0, .ref b), (1, .ref (Gc.2.1 0)), (2, .ref (Gm.2.1 0)), (3, .int (nI i))] [] Sc2 Sm2) : Lw Gc Gm Z b nc ns 697 [(0, .ref b), (1, .ref (Gc.2.1 0)), (2, .ref (Gm.2.1 0)), (3, .int (nI i))] [] Sc Sm := by
  obtain ⟨r, Sc2, Sm2, h1, h2, h3⟩ := hstep Sc Sm (xs (i + 1)) (xs (i + 2)) hI
  refine l_aload_n 698 X 1 dL_law_697 rfl rfl rfl ?_
  refine l_arg X i 1 (by omega) hn (by decide) rfl dL_law_698 dL_law_699 dL_law_700 dL_law_701 dL_law_702 ?_
  refine l_arg X i 2 (by omega) hn (by decide) rfl dL_law_703 dL_law_704 dL_law_705 dL_law_706 dL_law_707 ?_
  refine l_cC (As := [.int (xs (i + 1)), .int (xs (i + 2))]) (rest := []) X (tX8_when Gc _ 0 _ _ _) h1 mfLX8_when miLX8_when lkL_93 rfl (by decide) (Nat.le_of_ble_eq_true rfl) dL_law_708 ?_
  refine l_aload_n 712 X 2 dL_law_711 rfl rfl rfl ?_
  refine l_arg X i 1 (by omega) hn (by decide) rfl dL_law_712 dL_law_713 dL_law_714 dL_law_715 dL_law_716 ?_
  refine l_arg X i 2 (by omega) hn (by decide) rfl dL_law_717 dL_law_718 dL_law_719 dL_law_720 dL_law_721 ?_
  refine l_cM (As := [.int (xs (i + 1)), .int (xs (i + 2))]) (rest := [.int r]) X (tX9_when Gm _ 0 _ _ _) h2 mfLX9_when miLX9_when lkL_96 rfl (by decide) (Nat.le_of_ble_eq_true rfl) dL_law_722 ?_
  refine l_eqi 1316 X dL_law_725 (by decide) ?_
  exact k Sc2 Sm2 h3
set_option maxHeartbeats 4000000 in
set_option maxRecDepth 100000 in
theorem lc_place {Inv : Sg → Sg → Prop} {Gc Gm : Gd} {Z : Mc} {b n nc ns : Nat} {xs : Nat → Int32} (X : Lx Gc Gm Z b n xs nc ns) (hn : n ≤ 384) (hstep : stp_place Inv) (i : Nat) (hi : i + 6 ≤ n) {Sc Sm : Sg} (hI : Inv Sc Sm) (k : ∀ Sc2 Sm2, Inv Sc2 Sm2 → Lw Gc Gm Z b nc ns 1316 [(0, .ref b), (1, .ref (Gc.2.1 0)), (2, .ref (Gm.2.1 0)), (3, .int (nI i))] [] Sc2 Sm2) : Lw Gc Gm Z b nc ns 730 [(0, .ref b), (1, .ref (Gc.2.1 0)), (2, .ref (Gm.2.1 0)), (3, .int (nI i))] [] Sc Sm := by
  obtain ⟨r, Sc2, Sm2, h1, h2, h3⟩ := hstep Sc Sm (xs (i + 1)) (xs (i + 2)) hI
  refine l_aload_n 731 X 1 dL_law_730 rfl rfl rfl ?_
  refine l_arg X i 1 (by omega) hn (by decide) rfl dL_law_731 dL_law_732 dL_law_733 dL_law_734 dL_law_735 ?_
  refine l_arg X i 2 (by omega) hn (by decide) rfl dL_law_736 dL_law_737 dL_law_738 dL_law_739 dL_law_740 ?_
  refine l_cC (As := [.int (xs (i + 1)), .int (xs (i + 2))]) (rest := []) X (tX8_place Gc _ 0 _ _ _) h1 mfLX8_place miLX8_place lkL_97 rfl (by decide) (Nat.le_of_ble_eq_true rfl) dL_law_741 ?_
  refine l_aload_n 745 X 2 dL_law_744 rfl rfl rfl ?_
  refine l_arg X i 1 (by omega) hn (by decide) rfl dL_law_745 dL_law_746 dL_law_747 dL_law_748 dL_law_749 ?_
  refine l_arg X i 2 (by omega) hn (by decide) rfl dL_law_750 dL_law_751 dL_law_752 dL_law_753 dL_law_754 ?_
  refine l_cM (As := [.int (xs (i + 1)), .int (xs (i + 2))]) (rest := [.int r]) X (tX9_place Gm _ 0 _ _ _) h2 mfLX9_place miLX9_place lkL_100 rfl (by decide) (Nat.le_of_ble_eq_true rfl) dL_law_755 ?_
  refine l_eqi 1316 X dL_law_758 (by decide) ?_
  exact k Sc2 Sm2 h3
set_option maxHeartbeats 4000000 in
set_option maxRecDepth 100000 in
theorem lc_dry {Inv : Sg → Sg → Prop} {Gc Gm : Gd} {Z : Mc} {b n nc ns : Nat} {xs : Nat → Int32} (X : Lx Gc Gm Z b n xs nc ns) (hn : n ≤ 384) (hstep : stp_dry Inv) (i : Nat) (hi : i + 6 ≤ n) {Sc Sm : Sg} (hI : Inv Sc Sm) (k : ∀ Sc2 Sm2, Inv Sc2 Sm2 → Lw Gc Gm Z b nc ns 1316 [(0, .ref b), (1, .ref (Gc.2.1 0)), (2, .ref (Gm.2.1 0)), (3, .int (nI i))] [] Sc2 Sm2) : Lw Gc Gm Z b nc ns 763 [(0, .ref b), (1, .ref (Gc.2.1 0)), (2, .ref (Gm.2.1 0)), (3, .int (nI i))] [] Sc Sm := by
  obtain ⟨r, Sc2, Sm2, h1, h2, h3⟩ := hstep Sc Sm (xs (i + 1)) hI
  refine l_aload_n 764 X 1 dL_law_763 rfl rfl rfl ?_
  refine l_arg X i 1 (by omega) hn (by decide) rfl dL_law_764 dL_law_765 dL_law_766 dL_law_767 dL_law_768 ?_
  refine l_cC (As := [.int (xs (i + 1))]) (rest := []) X (tX8_dry Gc _ 0 _ _) h1 mfLX8_dry miLX8_dry lkL_101 rfl (by decide) (Nat.le_of_ble_eq_true rfl) dL_law_769 ?_
  refine l_aload_n 773 X 2 dL_law_772 rfl rfl rfl ?_
  refine l_arg X i 1 (by omega) hn (by decide) rfl dL_law_773 dL_law_774 dL_law_775 dL_law_776 dL_law_777 ?_
  refine l_cM (As := [.int (xs (i + 1))]) (rest := [.int r]) X (tX9_dry Gm _ 0 _ _) h2 mfLX9_dry miLX9_dry lkL_104 rfl (by decide) (Nat.le_of_ble_eq_true rfl) dL_law_778 ?_
  refine l_eqi 1316 X dL_law_781 (by decide) ?_
  exact k Sc2 Sm2 h3
set_option maxHeartbeats 4000000 in
set_option maxRecDepth 100000 in
theorem lc_seen {Inv : Sg → Sg → Prop} {Gc Gm : Gd} {Z : Mc} {b n nc ns : Nat} {xs : Nat → Int32} (X : Lx Gc Gm Z b n xs nc ns) (hn : n ≤ 384) (hstep : stp_seen Inv) (i : Nat) (hi : i + 6 ≤ n) {Sc Sm : Sg} (hI : Inv Sc Sm) (k : ∀ Sc2 Sm2, Inv Sc2 Sm2 → Lw Gc Gm Z b nc ns 1316 [(0, .ref b), (1, .ref (Gc.2.1 0)), (2, .ref (Gm.2.1 0)), (3, .int (nI i))] [] Sc2 Sm2) : Lw Gc Gm Z b nc ns 786 [(0, .ref b), (1, .ref (Gc.2.1 0)), (2, .ref (Gm.2.1 0)), (3, .int (nI i))] [] Sc Sm := by
  obtain ⟨r, Sc2, Sm2, h1, h2, h3⟩ := hstep Sc Sm (xs (i + 1)) (xs (i + 2)) (xs (i + 3)) hI
  refine l_aload_n 787 X 1 dL_law_786 rfl rfl rfl ?_
  refine l_arg X i 1 (by omega) hn (by decide) rfl dL_law_787 dL_law_788 dL_law_789 dL_law_790 dL_law_791 ?_
  refine l_arg X i 2 (by omega) hn (by decide) rfl dL_law_792 dL_law_793 dL_law_794 dL_law_795 dL_law_796 ?_
  refine l_arg X i 3 (by omega) hn (by decide) rfl dL_law_797 dL_law_798 dL_law_799 dL_law_800 dL_law_801 ?_
  refine l_cC (As := [.int (xs (i + 1)), .int (xs (i + 2)), .int (xs (i + 3))]) (rest := []) X (tX8_seen Gc _ 0 _ _ _ _) h1 mfLX8_seen miLX8_seen lkL_105 rfl (by decide) (Nat.le_of_ble_eq_true rfl) dL_law_802 ?_
  refine l_aload_n 806 X 2 dL_law_805 rfl rfl rfl ?_
  refine l_arg X i 1 (by omega) hn (by decide) rfl dL_law_806 dL_law_807 dL_law_808 dL_law_809 dL_law_810 ?_
  refine l_arg X i 2 (by omega) hn (by decide) rfl dL_law_811 dL_law_812 dL_law_813 dL_law_814 dL_law_815 ?_
  refine l_arg X i 3 (by omega) hn (by decide) rfl dL_law_816 dL_law_817 dL_law_818 dL_law_819 dL_law_820 ?_
  refine l_cM (As := [.int (xs (i + 1)), .int (xs (i + 2)), .int (xs (i + 3))]) (rest := [.int r]) X (tX9_seen Gm _ 0 _ _ _ _) h2 mfLX9_seen miLX9_seen lkL_108 rfl (by decide) (Nat.le_of_ble_eq_true rfl) dL_law_821 ?_
  refine l_eqi 1316 X dL_law_824 (by decide) ?_
  exact k Sc2 Sm2 h3
set_option maxHeartbeats 4000000 in
set_option maxRecDepth 100000 in
theorem lc_forget {Inv : Sg → Sg → Prop} {Gc Gm : Gd} {Z : Mc} {b n nc ns : Nat} {xs : Nat → Int32} (X : Lx Gc Gm Z b n xs nc ns) (hn : n ≤ 384) (hstep : stp_forget Inv) (i : Nat) (hi : i + 6 ≤ n) {Sc Sm : Sg} (hI : Inv Sc Sm) (k : ∀ Sc2 Sm2, Inv Sc2 Sm2 → Lw Gc Gm Z b nc ns 1316 [(0, .ref b), (1, .ref (Gc.2.1 0)), (2, .ref (Gm.2.1 0)), (3, .int (nI i))] [] Sc2 Sm2) : Lw Gc Gm Z b nc ns 829 [(0, .ref b), (1, .ref (Gc.2.1 0)), (2, .ref (Gm.2.1 0)), (3, .int (nI i))] [] Sc Sm := by
  obtain ⟨r, Sc2, Sm2, h1, h2, h3⟩ := hstep Sc Sm  hI
  refine l_aload_n 830 X 1 dL_law_829 rfl rfl rfl ?_
  refine l_cC (As := []) (rest := []) X (tX8_forget Gc _ 0  _) h1 mfLX8_forget miLX8_forget lkL_109 rfl (by decide) (Nat.le_of_ble_eq_true rfl) dL_law_830 ?_
  refine l_aload_n 834 X 2 dL_law_833 rfl rfl rfl ?_
  refine l_cM (As := []) (rest := [.int r]) X (tX9_forget Gm _ 0  _) h2 mfLX9_forget miLX9_forget lkL_112 rfl (by decide) (Nat.le_of_ble_eq_true rfl) dL_law_834 ?_
  refine l_eqi 1316 X dL_law_837 (by decide) ?_
  exact k Sc2 Sm2 h3
set_option maxHeartbeats 4000000 in
set_option maxRecDepth 100000 in
theorem lc_never {Inv : Sg → Sg → Prop} {Gc Gm : Gd} {Z : Mc} {b n nc ns : Nat} {xs : Nat → Int32} (X : Lx Gc Gm Z b n xs nc ns) (hn : n ≤ 384) (hstep : stp_never Inv) (i : Nat) (hi : i + 6 ≤ n) {Sc Sm : Sg} (hI : Inv Sc Sm) (k : ∀ Sc2 Sm2, Inv Sc2 Sm2 → Lw Gc Gm Z b nc ns 1316 [(0, .ref b), (1, .ref (Gc.2.1 0)), (2, .ref (Gm.2.1 0)), (3, .int (nI i))] [] Sc2 Sm2) : Lw Gc Gm Z b nc ns 842 [(0, .ref b), (1, .ref (Gc.2.1 0)), (2, .ref (Gm.2.1 0)), (3, .int (nI i))] [] Sc Sm := by
  obtain ⟨r, Sc2, Sm2, h1, h2, h3⟩ := hstep Sc Sm  hI
  refine l_aload_n 843 X 1 dL_law_842 rfl rfl rfl ?_
  refine l_cC (As := []) (rest := []) X (tX8_never Gc _ 0  _) h1 mfLX8_never miLX8_never lkL_113 rfl (by decide) (Nat.le_of_ble_eq_true rfl) dL_law_843 ?_
  refine l_aload_n 847 X 2 dL_law_846 rfl rfl rfl ?_
  refine l_cM (As := []) (rest := [.int r]) X (tX9_never Gm _ 0  _) h2 mfLX9_never miLX9_never lkL_116 rfl (by decide) (Nat.le_of_ble_eq_true rfl) dL_law_847 ?_
  refine l_eqi 1316 X dL_law_850 (by decide) ?_
  exact k Sc2 Sm2 h3
set_option maxHeartbeats 4000000 in
set_option maxRecDepth 100000 in
theorem lc_sign {Inv : Sg → Sg → Prop} {Gc Gm : Gd} {Z : Mc} {b n nc ns : Nat} {xs : Nat → Int32} (X : Lx Gc Gm Z b n xs nc ns) (hn : n ≤ 384) (hstep : stp_sign Inv) (i : Nat) (hi : i + 6 ≤ n) {Sc Sm : Sg} (hI : Inv Sc Sm) (k : ∀ Sc2 Sm2, Inv Sc2 Sm2 → Lw Gc Gm Z b nc ns 1316 [(0, .ref b), (1, .ref (Gc.2.1 0)), (2, .ref (Gm.2.1 0)), (3, .int (nI i))] [] Sc2 Sm2) : Lw Gc Gm Z b nc ns 855 [(0, .ref b), (1, .ref (Gc.2.1 0)), (2, .ref (Gm.2.1 0)), (3, .int (nI i))] [] Sc Sm := by
  obtain ⟨r, Sc2, Sm2, h1, h2, h3⟩ := hstep Sc Sm (xs (i + 1)) hI
  refine l_aload_n 856 X 1 dL_law_855 rfl rfl rfl ?_
  refine l_arg X i 1 (by omega) hn (by decide) rfl dL_law_856 dL_law_857 dL_law_858 dL_law_859 dL_law_860 ?_
  refine l_cC (As := [.int (xs (i + 1))]) (rest := []) X (tX8_sign Gc _ 0 _ _) h1 mfLX8_sign miLX8_sign lkL_117 rfl (by decide) (Nat.le_of_ble_eq_true rfl) dL_law_861 ?_
  refine l_aload_n 865 X 2 dL_law_864 rfl rfl rfl ?_
  refine l_arg X i 1 (by omega) hn (by decide) rfl dL_law_865 dL_law_866 dL_law_867 dL_law_868 dL_law_869 ?_
  refine l_cM (As := [.int (xs (i + 1))]) (rest := [.int r]) X (tX9_sign Gm _ 0 _ _) h2 mfLX9_sign miLX9_sign lkL_120 rfl (by decide) (Nat.le_of_ble_eq_true rfl) dL_law_870 ?_
  refine l_eqi 1316 X dL_law_873 (by decide) ?_
  exact k Sc2 Sm2 h3
set_option maxHeartbeats 4000000 in
set_option maxRecDepth 100000 in
theorem lc_chalk {Inv : Sg → Sg → Prop} {Gc Gm : Gd} {Z : Mc} {b n nc ns : Nat} {xs : Nat → Int32} (X : Lx Gc Gm Z b n xs nc ns) (hn : n ≤ 384) (hstep : stp_chalk Inv) (i : Nat) (hi : i + 6 ≤ n) {Sc Sm : Sg} (hI : Inv Sc Sm) (k : ∀ Sc2 Sm2, Inv Sc2 Sm2 → Lw Gc Gm Z b nc ns 1316 [(0, .ref b), (1, .ref (Gc.2.1 0)), (2, .ref (Gm.2.1 0)), (3, .int (nI i))] [] Sc2 Sm2) : Lw Gc Gm Z b nc ns 878 [(0, .ref b), (1, .ref (Gc.2.1 0)), (2, .ref (Gm.2.1 0)), (3, .int (nI i))] [] Sc Sm := by
  obtain ⟨r, Sc2, Sm2, h1, h2, h3⟩ := hstep Sc Sm (xs (i + 1)) hI
  refine l_aload_n 879 X 1 dL_law_878 rfl rfl rfl ?_
  refine l_arg X i 1 (by omega) hn (by decide) rfl dL_law_879 dL_law_880 dL_law_881 dL_law_882 dL_law_883 ?_
  refine l_cC (As := [.int (xs (i + 1))]) (rest := []) X (tX8_chalk Gc _ 0 _ _) h1 mfLX8_chalk miLX8_chalk lkL_121 rfl (by decide) (Nat.le_of_ble_eq_true rfl) dL_law_884 ?_
  refine l_aload_n 888 X 2 dL_law_887 rfl rfl rfl ?_
  refine l_arg X i 1 (by omega) hn (by decide) rfl dL_law_888 dL_law_889 dL_law_890 dL_law_891 dL_law_892 ?_
  refine l_cM (As := [.int (xs (i + 1))]) (rest := [.int r]) X (tX9_chalk Gm _ 0 _ _) h2 mfLX9_chalk miLX9_chalk lkL_124 rfl (by decide) (Nat.le_of_ble_eq_true rfl) dL_law_893 ?_
  refine l_eqi 1316 X dL_law_896 (by decide) ?_
  exact k Sc2 Sm2 h3
set_option maxHeartbeats 4000000 in
set_option maxRecDepth 100000 in
theorem lc_ask {Inv : Sg → Sg → Prop} {Gc Gm : Gd} {Z : Mc} {b n nc ns : Nat} {xs : Nat → Int32} (X : Lx Gc Gm Z b n xs nc ns) (hn : n ≤ 384) (hstep : stp_ask Inv) (i : Nat) (hi : i + 6 ≤ n) {Sc Sm : Sg} (hI : Inv Sc Sm) (k : ∀ Sc2 Sm2, Inv Sc2 Sm2 → Lw Gc Gm Z b nc ns 1316 [(0, .ref b), (1, .ref (Gc.2.1 0)), (2, .ref (Gm.2.1 0)), (3, .int (nI i))] [] Sc2 Sm2) : Lw Gc Gm Z b nc ns 901 [(0, .ref b), (1, .ref (Gc.2.1 0)), (2, .ref (Gm.2.1 0)), (3, .int (nI i))] [] Sc Sm := by
  obtain ⟨r, Sc2, Sm2, h1, h2, h3⟩ := hstep Sc Sm (xs (i + 1)) hI
  refine l_aload_n 902 X 1 dL_law_901 rfl rfl rfl ?_
  refine l_arg X i 1 (by omega) hn (by decide) rfl dL_law_902 dL_law_903 dL_law_904 dL_law_905 dL_law_906 ?_
  refine l_cC (As := [.int (xs (i + 1))]) (rest := []) X (tX8_ask Gc _ 0 _ _) h1 mfLX8_ask miLX8_ask lkL_125 rfl (by decide) (Nat.le_of_ble_eq_true rfl) dL_law_907 ?_
  refine l_aload_n 911 X 2 dL_law_910 rfl rfl rfl ?_
  refine l_arg X i 1 (by omega) hn (by decide) rfl dL_law_911 dL_law_912 dL_law_913 dL_law_914 dL_law_915 ?_
  refine l_cM (As := [.int (xs (i + 1))]) (rest := [.int r]) X (tX9_ask Gm _ 0 _ _) h2 mfLX9_ask miLX9_ask lkL_128 rfl (by decide) (Nat.le_of_ble_eq_true rfl) dL_law_916 ?_
  refine l_eqi 1316 X dL_law_919 (by decide) ?_
  exact k Sc2 Sm2 h3
set_option maxHeartbeats 4000000 in
set_option maxRecDepth 100000 in
theorem lc_dryness {Inv : Sg → Sg → Prop} {Gc Gm : Gd} {Z : Mc} {b n nc ns : Nat} {xs : Nat → Int32} (X : Lx Gc Gm Z b n xs nc ns) (hn : n ≤ 384) (hstep : stp_dryness Inv) (i : Nat) (hi : i + 6 ≤ n) {Sc Sm : Sg} (hI : Inv Sc Sm) (k : ∀ Sc2 Sm2, Inv Sc2 Sm2 → Lw Gc Gm Z b nc ns 1316 [(0, .ref b), (1, .ref (Gc.2.1 0)), (2, .ref (Gm.2.1 0)), (3, .int (nI i))] [] Sc2 Sm2) : Lw Gc Gm Z b nc ns 924 [(0, .ref b), (1, .ref (Gc.2.1 0)), (2, .ref (Gm.2.1 0)), (3, .int (nI i))] [] Sc Sm := by
  obtain ⟨r, Sc2, Sm2, h1, h2, h3⟩ := hstep Sc Sm (xs (i + 1)) (xs (i + 2)) (xs (i + 3)) (xs (i + 4)) hI
  refine l_aload_n 925 X 1 dL_law_924 rfl rfl rfl ?_
  refine l_arg X i 1 (by omega) hn (by decide) rfl dL_law_925 dL_law_926 dL_law_927 dL_law_928 dL_law_929 ?_
  refine l_arg X i 2 (by omega) hn (by decide) rfl dL_law_930 dL_law_931 dL_law_932 dL_law_933 dL_law_934 ?_
  refine l_arg X i 3 (by omega) hn (by decide) rfl dL_law_935 dL_law_936 dL_law_937 dL_law_938 dL_law_939 ?_
  refine l_arg X i 4 (by omega) hn (by decide) rfl dL_law_940 dL_law_941 dL_law_942 dL_law_943 dL_law_944 ?_
  refine l_cC (As := [.int (xs (i + 1)), .int (xs (i + 2)), .int (xs (i + 3)), .int (xs (i + 4))]) (rest := []) X (tX8_dryness Gc _ 0 _ _ _ _ _) h1 mfLX8_dryness miLX8_dryness lkL_129 rfl (by decide) (Nat.le_of_ble_eq_true rfl) dL_law_945 ?_
  refine l_aload_n 949 X 2 dL_law_948 rfl rfl rfl ?_
  refine l_arg X i 1 (by omega) hn (by decide) rfl dL_law_949 dL_law_950 dL_law_951 dL_law_952 dL_law_953 ?_
  refine l_arg X i 2 (by omega) hn (by decide) rfl dL_law_954 dL_law_955 dL_law_956 dL_law_957 dL_law_958 ?_
  refine l_arg X i 3 (by omega) hn (by decide) rfl dL_law_959 dL_law_960 dL_law_961 dL_law_962 dL_law_963 ?_
  refine l_arg X i 4 (by omega) hn (by decide) rfl dL_law_964 dL_law_965 dL_law_966 dL_law_967 dL_law_968 ?_
  refine l_cM (As := [.int (xs (i + 1)), .int (xs (i + 2)), .int (xs (i + 3)), .int (xs (i + 4))]) (rest := [.long r]) X (tX9_dryness Gm _ 0 _ _ _ _ _) h2 mfLX9_dryness miLX9_dryness lkL_133 rfl (by decide) (Nat.le_of_ble_eq_true rfl) dL_law_969 ?_
  refine l_lcmp 973 X dL_law_972 rfl ?_
  refine l_eqz 1316 X dL_law_973 (by decide) (by simp [lg_cmp]) ?_
  exact k Sc2 Sm2 h3
set_option maxHeartbeats 4000000 in
set_option maxRecDepth 100000 in
theorem lc_weather {Inv : Sg → Sg → Prop} {Gc Gm : Gd} {Z : Mc} {b n nc ns : Nat} {xs : Nat → Int32} (X : Lx Gc Gm Z b n xs nc ns) (hn : n ≤ 384) (hstep : stp_weather Inv) (i : Nat) (hi : i + 6 ≤ n) {Sc Sm : Sg} (hI : Inv Sc Sm) (k : ∀ Sc2 Sm2, Inv Sc2 Sm2 → Lw Gc Gm Z b nc ns 1316 [(0, .ref b), (1, .ref (Gc.2.1 0)), (2, .ref (Gm.2.1 0)), (3, .int (nI i))] [] Sc2 Sm2) : Lw Gc Gm Z b nc ns 978 [(0, .ref b), (1, .ref (Gc.2.1 0)), (2, .ref (Gm.2.1 0)), (3, .int (nI i))] [] Sc Sm := by
  obtain ⟨r, Sc2, Sm2, h1, h2, h3⟩ := hstep Sc Sm (xs (i + 1)) (xs (i + 2)) (xs (i + 3)) hI
  refine l_aload_n 979 X 1 dL_law_978 rfl rfl rfl ?_
  refine l_arg X i 1 (by omega) hn (by decide) rfl dL_law_979 dL_law_980 dL_law_981 dL_law_982 dL_law_983 ?_
  refine l_arg X i 2 (by omega) hn (by decide) rfl dL_law_984 dL_law_985 dL_law_986 dL_law_987 dL_law_988 ?_
  refine l_arg X i 3 (by omega) hn (by decide) rfl dL_law_989 dL_law_990 dL_law_991 dL_law_992 dL_law_993 ?_
  refine l_cC (As := [.int (xs (i + 1)), .int (xs (i + 2)), .int (xs (i + 3))]) (rest := []) X (tX8_weather Gc _ 0 _ _ _ _) h1 mfLX8_weather miLX8_weather lkL_134 rfl (by decide) (Nat.le_of_ble_eq_true rfl) dL_law_994 ?_
  refine l_aload_n 998 X 2 dL_law_997 rfl rfl rfl ?_
  refine l_arg X i 1 (by omega) hn (by decide) rfl dL_law_998 dL_law_999 dL_law_1000 dL_law_1001 dL_law_1002 ?_
  refine l_arg X i 2 (by omega) hn (by decide) rfl dL_law_1003 dL_law_1004 dL_law_1005 dL_law_1006 dL_law_1007 ?_
  refine l_arg X i 3 (by omega) hn (by decide) rfl dL_law_1008 dL_law_1009 dL_law_1010 dL_law_1011 dL_law_1012 ?_
  refine l_cM (As := [.int (xs (i + 1)), .int (xs (i + 2)), .int (xs (i + 3))]) (rest := [.int r]) X (tX9_weather Gm _ 0 _ _ _ _) h2 mfLX9_weather miLX9_weather lkL_137 rfl (by decide) (Nat.le_of_ble_eq_true rfl) dL_law_1013 ?_
  refine l_eqi 1316 X dL_law_1016 (by decide) ?_
  exact k Sc2 Sm2 h3
set_option maxHeartbeats 4000000 in
set_option maxRecDepth 100000 in
theorem lc_sheet {Inv : Sg → Sg → Prop} {Gc Gm : Gd} {Z : Mc} {b n nc ns : Nat} {xs : Nat → Int32} (X : Lx Gc Gm Z b n xs nc ns) (hn : n ≤ 384) (hstep : stp_sheet Inv) (i : Nat) (hi : i + 6 ≤ n) {Sc Sm : Sg} (hI : Inv Sc Sm) (k : ∀ Sc2 Sm2, Inv Sc2 Sm2 → Lw Gc Gm Z b nc ns 1316 [(0, .ref b), (1, .ref (Gc.2.1 0)), (2, .ref (Gm.2.1 0)), (3, .int (nI i))] [] Sc2 Sm2) : Lw Gc Gm Z b nc ns 1021 [(0, .ref b), (1, .ref (Gc.2.1 0)), (2, .ref (Gm.2.1 0)), (3, .int (nI i))] [] Sc Sm := by
  obtain ⟨r, Sc2, Sm2, h1, h2, h3⟩ := hstep Sc Sm (xs (i + 1)) (xs (i + 2)) (xs (i + 3)) hI
  refine l_aload_n 1022 X 1 dL_law_1021 rfl rfl rfl ?_
  refine l_arg X i 1 (by omega) hn (by decide) rfl dL_law_1022 dL_law_1023 dL_law_1024 dL_law_1025 dL_law_1026 ?_
  refine l_arg X i 2 (by omega) hn (by decide) rfl dL_law_1027 dL_law_1028 dL_law_1029 dL_law_1030 dL_law_1031 ?_
  refine l_arg X i 3 (by omega) hn (by decide) rfl dL_law_1032 dL_law_1033 dL_law_1034 dL_law_1035 dL_law_1036 ?_
  refine l_cC (As := [.int (xs (i + 1)), .int (xs (i + 2)), .int (xs (i + 3))]) (rest := []) X (tX8_sheet Gc _ 0 _ _ _ _) h1 mfLX8_sheet miLX8_sheet lkL_138 rfl (by decide) (Nat.le_of_ble_eq_true rfl) dL_law_1037 ?_
  refine l_aload_n 1041 X 2 dL_law_1040 rfl rfl rfl ?_
  refine l_arg X i 1 (by omega) hn (by decide) rfl dL_law_1041 dL_law_1042 dL_law_1043 dL_law_1044 dL_law_1045 ?_
  refine l_arg X i 2 (by omega) hn (by decide) rfl dL_law_1046 dL_law_1047 dL_law_1048 dL_law_1049 dL_law_1050 ?_
  refine l_arg X i 3 (by omega) hn (by decide) rfl dL_law_1051 dL_law_1052 dL_law_1053 dL_law_1054 dL_law_1055 ?_
  refine l_cM (As := [.int (xs (i + 1)), .int (xs (i + 2)), .int (xs (i + 3))]) (rest := [.int r]) X (tX9_sheet Gm _ 0 _ _ _ _) h2 mfLX9_sheet miLX9_sheet lkL_141 rfl (by decide) (Nat.le_of_ble_eq_true rfl) dL_law_1056 ?_
  refine l_eqi 1316 X dL_law_1059 (by decide) ?_
  exact k Sc2 Sm2 h3
set_option maxHeartbeats 4000000 in
set_option maxRecDepth 100000 in
theorem lc_lose {Inv : Sg → Sg → Prop} {Gc Gm : Gd} {Z : Mc} {b n nc ns : Nat} {xs : Nat → Int32} (X : Lx Gc Gm Z b n xs nc ns) (hn : n ≤ 384) (hstep : stp_lose Inv) (i : Nat) (hi : i + 6 ≤ n) {Sc Sm : Sg} (hI : Inv Sc Sm) (k : ∀ Sc2 Sm2, Inv Sc2 Sm2 → Lw Gc Gm Z b nc ns 1316 [(0, .ref b), (1, .ref (Gc.2.1 0)), (2, .ref (Gm.2.1 0)), (3, .int (nI i))] [] Sc2 Sm2) : Lw Gc Gm Z b nc ns 1064 [(0, .ref b), (1, .ref (Gc.2.1 0)), (2, .ref (Gm.2.1 0)), (3, .int (nI i))] [] Sc Sm := by
  obtain ⟨r, Sc2, Sm2, h1, h2, h3⟩ := hstep Sc Sm (xs (i + 1)) hI
  refine l_aload_n 1065 X 1 dL_law_1064 rfl rfl rfl ?_
  refine l_arg X i 1 (by omega) hn (by decide) rfl dL_law_1065 dL_law_1066 dL_law_1067 dL_law_1068 dL_law_1069 ?_
  refine l_cC (As := [.int (xs (i + 1))]) (rest := []) X (tX8_lose Gc _ 0 _ _) h1 mfLX8_lose miLX8_lose lkL_142 rfl (by decide) (Nat.le_of_ble_eq_true rfl) dL_law_1070 ?_
  refine l_aload_n 1074 X 2 dL_law_1073 rfl rfl rfl ?_
  refine l_arg X i 1 (by omega) hn (by decide) rfl dL_law_1074 dL_law_1075 dL_law_1076 dL_law_1077 dL_law_1078 ?_
  refine l_cM (As := [.int (xs (i + 1))]) (rest := [.int r]) X (tX9_lose Gm _ 0 _ _) h2 mfLX9_lose miLX9_lose lkL_145 rfl (by decide) (Nat.le_of_ble_eq_true rfl) dL_law_1079 ?_
  refine l_eqi 1316 X dL_law_1082 (by decide) ?_
  exact k Sc2 Sm2 h3
set_option maxHeartbeats 4000000 in
set_option maxRecDepth 100000 in
theorem lc_put {Inv : Sg → Sg → Prop} {Gc Gm : Gd} {Z : Mc} {b n nc ns : Nat} {xs : Nat → Int32} (X : Lx Gc Gm Z b n xs nc ns) (hn : n ≤ 384) (hstep : stp_put Inv) (i : Nat) (hi : i + 6 ≤ n) {Sc Sm : Sg} (hI : Inv Sc Sm) (k : ∀ Sc2 Sm2, Inv Sc2 Sm2 → Lw Gc Gm Z b nc ns 1316 [(0, .ref b), (1, .ref (Gc.2.1 0)), (2, .ref (Gm.2.1 0)), (3, .int (nI i))] [] Sc2 Sm2) : Lw Gc Gm Z b nc ns 1087 [(0, .ref b), (1, .ref (Gc.2.1 0)), (2, .ref (Gm.2.1 0)), (3, .int (nI i))] [] Sc Sm := by
  obtain ⟨r, Sc2, Sm2, h1, h2, h3⟩ := hstep Sc Sm (xs (i + 1)) (xs (i + 2)) (xs (i + 3)) (xs (i + 4)) hI
  refine l_aload_n 1088 X 1 dL_law_1087 rfl rfl rfl ?_
  refine l_arg X i 1 (by omega) hn (by decide) rfl dL_law_1088 dL_law_1089 dL_law_1090 dL_law_1091 dL_law_1092 ?_
  refine l_arg X i 2 (by omega) hn (by decide) rfl dL_law_1093 dL_law_1094 dL_law_1095 dL_law_1096 dL_law_1097 ?_
  refine l_arg X i 3 (by omega) hn (by decide) rfl dL_law_1098 dL_law_1099 dL_law_1100 dL_law_1101 dL_law_1102 ?_
  refine l_arg X i 4 (by omega) hn (by decide) rfl dL_law_1103 dL_law_1104 dL_law_1105 dL_law_1106 dL_law_1107 ?_
  refine l_cC (As := [.int (xs (i + 1)), .int (xs (i + 2)), .int (xs (i + 3)), .int (xs (i + 4))]) (rest := []) X (tX8_put Gc _ 0 _ _ _ _ _) h1 mfLX8_put miLX8_put lkL_146 rfl (by decide) (Nat.le_of_ble_eq_true rfl) dL_law_1108 ?_
  refine l_aload_n 1112 X 2 dL_law_1111 rfl rfl rfl ?_
  refine l_arg X i 1 (by omega) hn (by decide) rfl dL_law_1112 dL_law_1113 dL_law_1114 dL_law_1115 dL_law_1116 ?_
  refine l_arg X i 2 (by omega) hn (by decide) rfl dL_law_1117 dL_law_1118 dL_law_1119 dL_law_1120 dL_law_1121 ?_
  refine l_arg X i 3 (by omega) hn (by decide) rfl dL_law_1122 dL_law_1123 dL_law_1124 dL_law_1125 dL_law_1126 ?_
  refine l_arg X i 4 (by omega) hn (by decide) rfl dL_law_1127 dL_law_1128 dL_law_1129 dL_law_1130 dL_law_1131 ?_
  refine l_cM (As := [.int (xs (i + 1)), .int (xs (i + 2)), .int (xs (i + 3)), .int (xs (i + 4))]) (rest := [.int r]) X (tX9_put Gm _ 0 _ _ _ _ _) h2 mfLX9_put miLX9_put lkL_150 rfl (by decide) (Nat.le_of_ble_eq_true rfl) dL_law_1132 ?_
  refine l_eqi 1316 X dL_law_1135 (by decide) ?_
  exact k Sc2 Sm2 h3
set_option maxHeartbeats 4000000 in
set_option maxRecDepth 100000 in
theorem lc_get {Inv : Sg → Sg → Prop} {Gc Gm : Gd} {Z : Mc} {b n nc ns : Nat} {xs : Nat → Int32} (X : Lx Gc Gm Z b n xs nc ns) (hn : n ≤ 384) (hstep : stp_get Inv) (i : Nat) (hi : i + 6 ≤ n) {Sc Sm : Sg} (hI : Inv Sc Sm) (k : ∀ Sc2 Sm2, Inv Sc2 Sm2 → Lw Gc Gm Z b nc ns 1316 [(0, .ref b), (1, .ref (Gc.2.1 0)), (2, .ref (Gm.2.1 0)), (3, .int (nI i))] [] Sc2 Sm2) : Lw Gc Gm Z b nc ns 1140 [(0, .ref b), (1, .ref (Gc.2.1 0)), (2, .ref (Gm.2.1 0)), (3, .int (nI i))] [] Sc Sm := by
  obtain ⟨r, Sc2, Sm2, h1, h2, h3⟩ := hstep Sc Sm (xs (i + 1)) (xs (i + 2)) (xs (i + 3)) hI
  refine l_aload_n 1141 X 1 dL_law_1140 rfl rfl rfl ?_
  refine l_arg X i 1 (by omega) hn (by decide) rfl dL_law_1141 dL_law_1142 dL_law_1143 dL_law_1144 dL_law_1145 ?_
  refine l_arg X i 2 (by omega) hn (by decide) rfl dL_law_1146 dL_law_1147 dL_law_1148 dL_law_1149 dL_law_1150 ?_
  refine l_arg X i 3 (by omega) hn (by decide) rfl dL_law_1151 dL_law_1152 dL_law_1153 dL_law_1154 dL_law_1155 ?_
  refine l_cC (As := [.int (xs (i + 1)), .int (xs (i + 2)), .int (xs (i + 3))]) (rest := []) X (tX8_get Gc _ 0 _ _ _ _) h1 mfLX8_get miLX8_get lkL_151 rfl (by decide) (Nat.le_of_ble_eq_true rfl) dL_law_1156 ?_
  refine l_aload_n 1160 X 2 dL_law_1159 rfl rfl rfl ?_
  refine l_arg X i 1 (by omega) hn (by decide) rfl dL_law_1160 dL_law_1161 dL_law_1162 dL_law_1163 dL_law_1164 ?_
  refine l_arg X i 2 (by omega) hn (by decide) rfl dL_law_1165 dL_law_1166 dL_law_1167 dL_law_1168 dL_law_1169 ?_
  refine l_arg X i 3 (by omega) hn (by decide) rfl dL_law_1170 dL_law_1171 dL_law_1172 dL_law_1173 dL_law_1174 ?_
  refine l_cM (As := [.int (xs (i + 1)), .int (xs (i + 2)), .int (xs (i + 3))]) (rest := [.int r]) X (tX9_get Gm _ 0 _ _ _ _) h2 mfLX9_get miLX9_get lkL_154 rfl (by decide) (Nat.le_of_ble_eq_true rfl) dL_law_1175 ?_
  refine l_eqi 1316 X dL_law_1178 (by decide) ?_
  exact k Sc2 Sm2 h3
set_option maxHeartbeats 4000000 in
set_option maxRecDepth 100000 in
theorem lc_copy {Inv : Sg → Sg → Prop} {Gc Gm : Gd} {Z : Mc} {b n nc ns : Nat} {xs : Nat → Int32} (X : Lx Gc Gm Z b n xs nc ns) (hn : n ≤ 384) (hstep : stp_copy Inv) (i : Nat) (hi : i + 6 ≤ n) {Sc Sm : Sg} (hI : Inv Sc Sm) (k : ∀ Sc2 Sm2, Inv Sc2 Sm2 → Lw Gc Gm Z b nc ns 1316 [(0, .ref b), (1, .ref (Gc.2.1 0)), (2, .ref (Gm.2.1 0)), (3, .int (nI i))] [] Sc2 Sm2) : Lw Gc Gm Z b nc ns 1183 [(0, .ref b), (1, .ref (Gc.2.1 0)), (2, .ref (Gm.2.1 0)), (3, .int (nI i))] [] Sc Sm := by
  obtain ⟨r, Sc2, Sm2, h1, h2, h3⟩ := hstep Sc Sm (xs (i + 1)) (xs (i + 2)) (xs (i + 3)) (xs (i + 4)) (xs (i + 5)) hI
  refine l_aload_n 1184 X 1 dL_law_1183 rfl rfl rfl ?_
  refine l_arg X i 1 (by omega) hn (by decide) rfl dL_law_1184 dL_law_1185 dL_law_1186 dL_law_1187 dL_law_1188 ?_
  refine l_arg X i 2 (by omega) hn (by decide) rfl dL_law_1189 dL_law_1190 dL_law_1191 dL_law_1192 dL_law_1193 ?_
  refine l_arg X i 3 (by omega) hn (by decide) rfl dL_law_1194 dL_law_1195 dL_law_1196 dL_law_1197 dL_law_1198 ?_
  refine l_arg X i 4 (by omega) hn (by decide) rfl dL_law_1199 dL_law_1200 dL_law_1201 dL_law_1202 dL_law_1203 ?_
  refine l_arg X i 5 (by omega) hn (by decide) rfl dL_law_1204 dL_law_1205 dL_law_1206 dL_law_1207 dL_law_1208 ?_
  refine l_cC (As := [.int (xs (i + 1)), .int (xs (i + 2)), .int (xs (i + 3)), .int (xs (i + 4)), .int (xs (i + 5))]) (rest := []) X (tX8_copy Gc _ 0 _ _ _ _ _ _) h1 mfLX8_copy miLX8_copy lkL_155 rfl (by decide) (Nat.le_of_ble_eq_true rfl) dL_law_1209 ?_
  refine l_aload_n 1213 X 2 dL_law_1212 rfl rfl rfl ?_
  refine l_arg X i 1 (by omega) hn (by decide) rfl dL_law_1213 dL_law_1214 dL_law_1215 dL_law_1216 dL_law_1217 ?_
  refine l_arg X i 2 (by omega) hn (by decide) rfl dL_law_1218 dL_law_1219 dL_law_1220 dL_law_1221 dL_law_1222 ?_
  refine l_arg X i 3 (by omega) hn (by decide) rfl dL_law_1223 dL_law_1224 dL_law_1225 dL_law_1226 dL_law_1227 ?_
  refine l_arg X i 4 (by omega) hn (by decide) rfl dL_law_1228 dL_law_1229 dL_law_1230 dL_law_1231 dL_law_1232 ?_
  refine l_arg X i 5 (by omega) hn (by decide) rfl dL_law_1233 dL_law_1234 dL_law_1235 dL_law_1236 dL_law_1237 ?_
  refine l_cM (As := [.int (xs (i + 1)), .int (xs (i + 2)), .int (xs (i + 3)), .int (xs (i + 4)), .int (xs (i + 5))]) (rest := [.int r]) X (tX9_copy Gm _ 0 _ _ _ _ _ _) h2 mfLX9_copy miLX9_copy lkL_159 rfl (by decide) (Nat.le_of_ble_eq_true rfl) dL_law_1238 ?_
  refine l_eqi 1316 X dL_law_1241 (by decide) ?_
  exact k Sc2 Sm2 h3
set_option maxHeartbeats 4000000 in
set_option maxRecDepth 100000 in
theorem lc_write {Inv : Sg → Sg → Prop} {Gc Gm : Gd} {Z : Mc} {b n nc ns : Nat} {xs : Nat → Int32} (X : Lx Gc Gm Z b n xs nc ns) (hn : n ≤ 384) (hstep : stp_write Inv) (i : Nat) (hi : i + 6 ≤ n) {Sc Sm : Sg} (hI : Inv Sc Sm) (k : ∀ Sc2 Sm2, Inv Sc2 Sm2 → Lw Gc Gm Z b nc ns 1316 [(0, .ref b), (1, .ref (Gc.2.1 0)), (2, .ref (Gm.2.1 0)), (3, .int (nI i))] [] Sc2 Sm2) : Lw Gc Gm Z b nc ns 1246 [(0, .ref b), (1, .ref (Gc.2.1 0)), (2, .ref (Gm.2.1 0)), (3, .int (nI i))] [] Sc Sm := by
  obtain ⟨r, Sc2, Sm2, h1, h2, h3⟩ := hstep Sc Sm (xs (i + 1)) (xs (i + 2)) hI
  refine l_aload_n 1247 X 1 dL_law_1246 rfl rfl rfl ?_
  refine l_arg X i 1 (by omega) hn (by decide) rfl dL_law_1247 dL_law_1248 dL_law_1249 dL_law_1250 dL_law_1251 ?_
  refine l_arg X i 2 (by omega) hn (by decide) rfl dL_law_1252 dL_law_1253 dL_law_1254 dL_law_1255 dL_law_1256 ?_
  refine l_cC (As := [.int (xs (i + 1)), .int (xs (i + 2))]) (rest := []) X (tX8_write Gc _ 0 _ _ _) h1 mfLX8_write miLX8_write lkL_160 rfl (by decide) (Nat.le_of_ble_eq_true rfl) dL_law_1257 ?_
  refine l_aload_n 1261 X 2 dL_law_1260 rfl rfl rfl ?_
  refine l_arg X i 1 (by omega) hn (by decide) rfl dL_law_1261 dL_law_1262 dL_law_1263 dL_law_1264 dL_law_1265 ?_
  refine l_arg X i 2 (by omega) hn (by decide) rfl dL_law_1266 dL_law_1267 dL_law_1268 dL_law_1269 dL_law_1270 ?_
  refine l_cM (As := [.int (xs (i + 1)), .int (xs (i + 2))]) (rest := [.int r]) X (tX9_write Gm _ 0 _ _ _) h2 mfLX9_write miLX9_write lkL_163 rfl (by decide) (Nat.le_of_ble_eq_true rfl) dL_law_1271 ?_
  refine l_eqi 1316 X dL_law_1274 (by decide) ?_
  exact k Sc2 Sm2 h3
set_option maxHeartbeats 4000000 in
set_option maxRecDepth 100000 in
theorem lc_count {Inv : Sg → Sg → Prop} {Gc Gm : Gd} {Z : Mc} {b n nc ns : Nat} {xs : Nat → Int32} (X : Lx Gc Gm Z b n xs nc ns) (hn : n ≤ 384) (hstep : stp_count Inv) (i : Nat) (hi : i + 6 ≤ n) {Sc Sm : Sg} (hI : Inv Sc Sm) (k : ∀ Sc2 Sm2, Inv Sc2 Sm2 → Lw Gc Gm Z b nc ns 1316 [(0, .ref b), (1, .ref (Gc.2.1 0)), (2, .ref (Gm.2.1 0)), (3, .int (nI i))] [] Sc2 Sm2) : Lw Gc Gm Z b nc ns 1279 [(0, .ref b), (1, .ref (Gc.2.1 0)), (2, .ref (Gm.2.1 0)), (3, .int (nI i))] [] Sc Sm := by
  obtain ⟨r, Sc2, Sm2, h1, h2, h3⟩ := hstep Sc Sm (xs (i + 1)) hI
  refine l_aload_n 1280 X 1 dL_law_1279 rfl rfl rfl ?_
  refine l_arg X i 1 (by omega) hn (by decide) rfl dL_law_1280 dL_law_1281 dL_law_1282 dL_law_1283 dL_law_1284 ?_
  refine l_cC (As := [.int (xs (i + 1))]) (rest := []) X (tX8_count Gc _ 0 _ _) h1 mfLX8_count miLX8_count lkL_164 rfl (by decide) (Nat.le_of_ble_eq_true rfl) dL_law_1285 ?_
  refine l_aload_n 1289 X 2 dL_law_1288 rfl rfl rfl ?_
  refine l_arg X i 1 (by omega) hn (by decide) rfl dL_law_1289 dL_law_1290 dL_law_1291 dL_law_1292 dL_law_1293 ?_
  refine l_cM (As := [.int (xs (i + 1))]) (rest := [.int r]) X (tX9_count Gm _ 0 _ _) h2 mfLX9_count miLX9_count lkL_167 rfl (by decide) (Nat.le_of_ble_eq_true rfl) dL_law_1294 ?_
  refine l_eqi 1316 X dL_law_1297 (by decide) ?_
  exact k Sc2 Sm2 h3
set_option maxHeartbeats 4000000 in
set_option maxRecDepth 100000 in
theorem lc_digest {Inv : Sg → Sg → Prop} {Gc Gm : Gd} {Z : Mc} {b n nc ns : Nat} {xs : Nat → Int32} (X : Lx Gc Gm Z b n xs nc ns) (hn : n ≤ 384) (hstep : stp_digest Inv) (i : Nat) (hi : i + 6 ≤ n) {Sc Sm : Sg} (hI : Inv Sc Sm) (k : ∀ Sc2 Sm2, Inv Sc2 Sm2 → Lw Gc Gm Z b nc ns 1316 [(0, .ref b), (1, .ref (Gc.2.1 0)), (2, .ref (Gm.2.1 0)), (3, .int (nI i))] [] Sc2 Sm2) : Lw Gc Gm Z b nc ns 1302 [(0, .ref b), (1, .ref (Gc.2.1 0)), (2, .ref (Gm.2.1 0)), (3, .int (nI i))] [] Sc Sm := by
  obtain ⟨r, Sc2, Sm2, h1, h2, h3⟩ := hstep Sc Sm  hI
  refine l_aload_n 1303 X 1 dL_law_1302 rfl rfl rfl ?_
  refine l_cC (As := []) (rest := []) X (tX8_digest Gc _ 0  _) h1 mfLX8_digest miLX8_digest lkL_168 rfl (by decide) (Nat.le_of_ble_eq_true rfl) dL_law_1303 ?_
  refine l_aload_n 1307 X 2 dL_law_1306 rfl rfl rfl ?_
  refine l_cM (As := []) (rest := [.long r]) X (tX9_digest Gm _ 0  _) h2 mfLX9_digest miLX9_digest lkL_172 rfl (by decide) (Nat.le_of_ble_eq_true rfl) dL_law_1307 ?_
  refine l_lcmp 1311 X dL_law_1310 rfl ?_
  refine l_eqz 1316 X dL_law_1311 (by decide) (by simp [lg_cmp]) ?_
  exact k Sc2 Sm2 h3
set_option maxHeartbeats 4000000 in
set_option maxRecDepth 100000 in
/-- the law's loop: at its head, with i ints read -/
theorem law_loop {Inv : Sg → Sg → Prop} {Gc Gm : Gd} {Z : Mc} {b n nc ns : Nat} {xs : Nat → Int32} (X : Lx Gc Gm Z b n xs nc ns) (hn : n ≤ 384) (hall : stp_all Inv) : ∀ (f i : Nat) (Sc Sm : Sg), n + 7 ≤ i + f → i ≤ n → Inv Sc Sm → Lw Gc Gm Z b nc ns 18 [(0, .ref b), (1, .ref (Gc.2.1 0)), (2, .ref (Gm.2.1 0)), (3, .int (nI i))] [] Sc Sm := by
  intro f
  induction f with
  | zero =>
    intro i Sc Sm h1 h2
    omega
  | succ f ih =>
    intro i Sc Sm h1 h2 hI
    refine l_iload_n 19 X 3 dL_law_18 rfl rfl rfl ?_
    refine l_aload_n 20 X 0 dL_law_19 rfl rfl rfl ?_
    refine l_slen 21 X dL_law_20 rfl ?_
    refine l_bipush 23 X dL_law_21 rfl cb_6 ?_
    refine l_isub 24 X dL_law_23 rfl ?_
    have hcond : Int32.ofNat n - 6 < nI i ↔ n < i + 6 := by
      have e1 : (Int32.ofNat n - 6 : Int32).toInt = (n : Int) - 6 := by
        have := pk_sub_toInt (a := n) (b := 6) (by omega) (by omega)
        exact this
      rw [Int32.lt_iff_toInt_lt, e1, nI_toInt (by omega)]
      omega
    refine l_gt 1322 27 X dL_law_24 (by decide) rfl (fun _ => ?_) (fun hc => ?_)
    · refine l_iconst 1323 X dL_law_1322 rfl ci_1 ?_
      exact l_ret X dL_law_1323
    · have hi : i + 6 ≤ n := by
        have := mt hcond.mpr hc
        omega
      have k : ∀ Sc2 Sm2, Inv Sc2 Sm2 → Lw Gc Gm Z b nc ns 1316 [(0, .ref b), (1, .ref (Gc.2.1 0)), (2, .ref (Gm.2.1 0)), (3, .int (nI i))] [] Sc2 Sm2 := by
        intro Sc2 Sm2 hI2
        refine l_iinc 1319 X 3 [(3, _), (0, _), (1, _), (2, _)] dL_law_1316 rfl rfl (v := nI (i + 6)) ?_ (by decide) rfl ?_
        · rw [show Int32.ofInt 6 = nI 6 from by decide, nI_add]
        refine l_goto 18 X dL_law_1319 (by decide) ?_
        exact l_sub [1, 2, 3, 0] rfl (ih (i + 6) Sc2 Sm2 (by omega) hi hI2)
      refine l_aload_n 28 X 0 dL_law_27 rfl rfl rfl ?_
      refine l_iload_n 29 X 3 dL_law_28 rfl rfl rfl ?_
      refine l_sld 30 X (vp_in_nI (by omega) (by omega)) dL_law_29 rfl ?_
      refine l_bipush 32 X dL_law_30 rfl cb_63 ?_
      refine l_iand 33 X dL_law_32 rfl ?_
      obtain ⟨s0, s1, s2, s3, s4, s5, s6, s7, s8, s9, s10, s11, s12, s13, s14, s15, s16, s17, s18, s19, s20, s21, s22, s23, s24, s25, s26, s27, s28, s29, s30, s31, s32, s33, s34, s35, s36, s37⟩ := hall
      generalize (xs (nI i).toNatClampNeg &&& 63) = u
      by_cases e0 : u = (0 : Int32)
      · exact l_tin 200 X (0 : Int32) e0 dL_law_33 (by decide) (by decide) rfl (by decide) (lc_type X hn s0 i hi hI k)
      by_cases e1 : u = (1 : Int32)
      · exact l_tin 233 X (1 : Int32) e1 dL_law_33 (by decide) (by decide) rfl (by decide) (lc_wipe X hn s1 i hi hI k)
      by_cases e2 : u = (2 : Int32)
      · exact l_tin 256 X (2 : Int32) e2 dL_law_33 (by decide) (by decide) rfl (by decide) (lc_undo X hn s2 i hi hI k)
      by_cases e3 : u = (3 : Int32)
      · exact l_tin 279 X (3 : Int32) e3 dL_law_33 (by decide) (by decide) rfl (by decide) (lc_fault X hn s3 i hi hI k)
      by_cases e4 : u = (4 : Int32)
      · exact l_tin 302 X (4 : Int32) e4 dL_law_33 (by decide) (by decide) rfl (by decide) (lc_damp X hn s4 i hi hI k)
      by_cases e5 : u = (5 : Int32)
      · exact l_tin 325 X (5 : Int32) e5 dL_law_33 (by decide) (by decide) rfl (by decide) (lc_stroke X hn s5 i hi hI k)
      by_cases e6 : u = (6 : Int32)
      · exact l_tin 358 X (6 : Int32) e6 dL_law_33 (by decide) (by decide) rfl (by decide) (lc_fine X hn s6 i hi hI k)
      by_cases e7 : u = (7 : Int32)
      · exact l_tin 381 X (7 : Int32) e7 dL_law_33 (by decide) (by decide) rfl (by decide) (lc_clean X hn s7 i hi hI k)
      by_cases e8 : u = (8 : Int32)
      · exact l_tin 414 X (8 : Int32) e8 dL_law_33 (by decide) (by decide) rfl (by decide) (lc_grease X hn s8 i hi hI k)
      by_cases e9 : u = (9 : Int32)
      · exact l_tin 447 X (9 : Int32) e9 dL_law_33 (by decide) (by decide) rfl (by decide) (lc_back X hn s9 i hi hI k)
      by_cases e10 : u = (10 : Int32)
      · exact l_tin 470 X (10 : Int32) e10 dL_law_33 (by decide) (by decide) rfl (by decide) (lc_read X hn s10 i hi hI k)
      by_cases e11 : u = (11 : Int32)
      · exact l_tin 493 X (11 : Int32) e11 dL_law_33 (by decide) (by decide) rfl (by decide) (lc_stands X hn s11 i hi hI k)
      by_cases e12 : u = (12 : Int32)
      · exact l_tin 526 X (12 : Int32) e12 dL_law_33 (by decide) (by decide) rfl (by decide) (lc_state X hn s12 i hi hI k)
      by_cases e13 : u = (13 : Int32)
      · exact l_tin 569 X (13 : Int32) e13 dL_law_33 (by decide) (by decide) rfl (by decide) (lc_up X hn s13 i hi hI k)
      by_cases e14 : u = (14 : Int32)
      · exact l_tin 592 X (14 : Int32) e14 dL_law_33 (by decide) (by decide) rfl (by decide) (lc_through X hn s14 i hi hI k)
      by_cases e15 : u = (15 : Int32)
      · exact l_tin 615 X (15 : Int32) e15 dL_law_33 (by decide) (by decide) rfl (by decide) (lc_misread X hn s15 i hi hI k)
      by_cases e16 : u = (16 : Int32)
      · exact l_tin 638 X (16 : Int32) e16 dL_law_33 (by decide) (by decide) rfl (by decide) (lc_most X hn s16 i hi hI k)
      by_cases e17 : u = (17 : Int32)
      · exact l_tin 651 X (17 : Int32) e17 dL_law_33 (by decide) (by decide) rfl (by decide) (lc_deep X hn s17 i hi hI k)
      by_cases e18 : u = (18 : Int32)
      · exact l_tin 674 X (18 : Int32) e18 dL_law_33 (by decide) (by decide) rfl (by decide) (lc_oil X hn s18 i hi hI k)
      by_cases e19 : u = (19 : Int32)
      · exact l_tin 697 X (19 : Int32) e19 dL_law_33 (by decide) (by decide) rfl (by decide) (lc_when X hn s19 i hi hI k)
      by_cases e20 : u = (20 : Int32)
      · exact l_tin 730 X (20 : Int32) e20 dL_law_33 (by decide) (by decide) rfl (by decide) (lc_place X hn s20 i hi hI k)
      by_cases e21 : u = (21 : Int32)
      · exact l_tin 763 X (21 : Int32) e21 dL_law_33 (by decide) (by decide) rfl (by decide) (lc_dry X hn s21 i hi hI k)
      by_cases e22 : u = (22 : Int32)
      · exact l_tin 786 X (22 : Int32) e22 dL_law_33 (by decide) (by decide) rfl (by decide) (lc_seen X hn s22 i hi hI k)
      by_cases e23 : u = (23 : Int32)
      · exact l_tin 829 X (23 : Int32) e23 dL_law_33 (by decide) (by decide) rfl (by decide) (lc_forget X hn s23 i hi hI k)
      by_cases e24 : u = (24 : Int32)
      · exact l_tin 842 X (24 : Int32) e24 dL_law_33 (by decide) (by decide) rfl (by decide) (lc_never X hn s24 i hi hI k)
      by_cases e25 : u = (25 : Int32)
      · exact l_tin 855 X (25 : Int32) e25 dL_law_33 (by decide) (by decide) rfl (by decide) (lc_sign X hn s25 i hi hI k)
      by_cases e26 : u = (26 : Int32)
      · exact l_tin 878 X (26 : Int32) e26 dL_law_33 (by decide) (by decide) rfl (by decide) (lc_chalk X hn s26 i hi hI k)
      by_cases e27 : u = (27 : Int32)
      · exact l_tin 901 X (27 : Int32) e27 dL_law_33 (by decide) (by decide) rfl (by decide) (lc_ask X hn s27 i hi hI k)
      by_cases e28 : u = (28 : Int32)
      · exact l_tin 924 X (28 : Int32) e28 dL_law_33 (by decide) (by decide) rfl (by decide) (lc_dryness X hn s28 i hi hI k)
      by_cases e29 : u = (29 : Int32)
      · exact l_tin 978 X (29 : Int32) e29 dL_law_33 (by decide) (by decide) rfl (by decide) (lc_weather X hn s29 i hi hI k)
      by_cases e30 : u = (30 : Int32)
      · exact l_tin 1021 X (30 : Int32) e30 dL_law_33 (by decide) (by decide) rfl (by decide) (lc_sheet X hn s30 i hi hI k)
      by_cases e31 : u = (31 : Int32)
      · exact l_tin 1064 X (31 : Int32) e31 dL_law_33 (by decide) (by decide) rfl (by decide) (lc_lose X hn s31 i hi hI k)
      by_cases e32 : u = (32 : Int32)
      · exact l_tin 1087 X (32 : Int32) e32 dL_law_33 (by decide) (by decide) rfl (by decide) (lc_put X hn s32 i hi hI k)
      by_cases e33 : u = (33 : Int32)
      · exact l_tin 1140 X (33 : Int32) e33 dL_law_33 (by decide) (by decide) rfl (by decide) (lc_get X hn s33 i hi hI k)
      by_cases e34 : u = (34 : Int32)
      · exact l_tin 1183 X (34 : Int32) e34 dL_law_33 (by decide) (by decide) rfl (by decide) (lc_copy X hn s34 i hi hI k)
      by_cases e35 : u = (35 : Int32)
      · exact l_tin 1246 X (35 : Int32) e35 dL_law_33 (by decide) (by decide) rfl (by decide) (lc_write X hn s35 i hi hI k)
      by_cases e36 : u = (36 : Int32)
      · exact l_tin 1279 X (36 : Int32) e36 dL_law_33 (by decide) (by decide) rfl (by decide) (lc_count X hn s36 i hi hI k)
      by_cases e37 : u = (37 : Int32)
      · exact l_tin 1302 X (37 : Int32) e37 dL_law_33 (by decide) (by decide) rfl (by decide) (lc_digest X hn s37 i hi hI k)
      refine l_tout 1316 X dL_law_33 (sw_out (fun j hj => ?_)) (by decide) (k Sc Sm hI)
      have hj2 : j = 0 ∨ j = 1 ∨ j = 2 ∨ j = 3 ∨ j = 4 ∨ j = 5 ∨ j = 6 ∨ j = 7 ∨ j = 8 ∨ j = 9 ∨ j = 10 ∨ j = 11 ∨ j = 12 ∨ j = 13 ∨ j = 14 ∨ j = 15 ∨ j = 16 ∨ j = 17 ∨ j = 18 ∨ j = 19 ∨ j = 20 ∨ j = 21 ∨ j = 22 ∨ j = 23 ∨ j = 24 ∨ j = 25 ∨ j = 26 ∨ j = 27 ∨ j = 28 ∨ j = 29 ∨ j = 30 ∨ j = 31 ∨ j = 32 ∨ j = 33 ∨ j = 34 ∨ j = 35 ∨ j = 36 ∨ j = 37 := by omega
      rcases hj2 with rfl | rfl | rfl | rfl | rfl | rfl | rfl | rfl | rfl | rfl | rfl | rfl | rfl | rfl | rfl | rfl | rfl | rfl | rfl | rfl | rfl | rfl | rfl | rfl | rfl | rfl | rfl | rfl | rfl | rfl | rfl | rfl | rfl | rfl | rfl | rfl | rfl | rfl
      · exact fun hq => e0 (Int32.toInt_inj.mp (by rw [hq]; rfl))
      · exact fun hq => e1 (Int32.toInt_inj.mp (by rw [hq]; rfl))
      · exact fun hq => e2 (Int32.toInt_inj.mp (by rw [hq]; rfl))
      · exact fun hq => e3 (Int32.toInt_inj.mp (by rw [hq]; rfl))
      · exact fun hq => e4 (Int32.toInt_inj.mp (by rw [hq]; rfl))
      · exact fun hq => e5 (Int32.toInt_inj.mp (by rw [hq]; rfl))
      · exact fun hq => e6 (Int32.toInt_inj.mp (by rw [hq]; rfl))
      · exact fun hq => e7 (Int32.toInt_inj.mp (by rw [hq]; rfl))
      · exact fun hq => e8 (Int32.toInt_inj.mp (by rw [hq]; rfl))
      · exact fun hq => e9 (Int32.toInt_inj.mp (by rw [hq]; rfl))
      · exact fun hq => e10 (Int32.toInt_inj.mp (by rw [hq]; rfl))
      · exact fun hq => e11 (Int32.toInt_inj.mp (by rw [hq]; rfl))
      · exact fun hq => e12 (Int32.toInt_inj.mp (by rw [hq]; rfl))
      · exact fun hq => e13 (Int32.toInt_inj.mp (by rw [hq]; rfl))
      · exact fun hq => e14 (Int32.toInt_inj.mp (by rw [hq]; rfl))
      · exact fun hq => e15 (Int32.toInt_inj.mp (by rw [hq]; rfl))
      · exact fun hq => e16 (Int32.toInt_inj.mp (by rw [hq]; rfl))
      · exact fun hq => e17 (Int32.toInt_inj.mp (by rw [hq]; rfl))
      · exact fun hq => e18 (Int32.toInt_inj.mp (by rw [hq]; rfl))
      · exact fun hq => e19 (Int32.toInt_inj.mp (by rw [hq]; rfl))
      · exact fun hq => e20 (Int32.toInt_inj.mp (by rw [hq]; rfl))
      · exact fun hq => e21 (Int32.toInt_inj.mp (by rw [hq]; rfl))
      · exact fun hq => e22 (Int32.toInt_inj.mp (by rw [hq]; rfl))
      · exact fun hq => e23 (Int32.toInt_inj.mp (by rw [hq]; rfl))
      · exact fun hq => e24 (Int32.toInt_inj.mp (by rw [hq]; rfl))
      · exact fun hq => e25 (Int32.toInt_inj.mp (by rw [hq]; rfl))
      · exact fun hq => e26 (Int32.toInt_inj.mp (by rw [hq]; rfl))
      · exact fun hq => e27 (Int32.toInt_inj.mp (by rw [hq]; rfl))
      · exact fun hq => e28 (Int32.toInt_inj.mp (by rw [hq]; rfl))
      · exact fun hq => e29 (Int32.toInt_inj.mp (by rw [hq]; rfl))
      · exact fun hq => e30 (Int32.toInt_inj.mp (by rw [hq]; rfl))
      · exact fun hq => e31 (Int32.toInt_inj.mp (by rw [hq]; rfl))
      · exact fun hq => e32 (Int32.toInt_inj.mp (by rw [hq]; rfl))
      · exact fun hq => e33 (Int32.toInt_inj.mp (by rw [hq]; rfl))
      · exact fun hq => e34 (Int32.toInt_inj.mp (by rw [hq]; rfl))
      · exact fun hq => e35 (Int32.toInt_inj.mp (by rw [hq]; rfl))
      · exact fun hq => e36 (Int32.toInt_inj.mp (by rw [hq]; rfl))
      · exact fun hq => e37 (Int32.toInt_inj.mp (by rw [hq]; rfl))
