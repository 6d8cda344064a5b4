theorem dX0_init_0 : decode cX0_init 0 = .ok (.aload_n 0, 1) := by decide +kernel
theorem dX0_init_1 : decode cX0_init 1 = .ok (.invokespecial 3, 3) := by decide +kernel
theorem dX0_init_4 : decode cX0_init 4 = .ok (.aload_n 0, 1) := by decide +kernel
theorem dX0_init_5 : decode cX0_init 5 = .ok (.iconst 0, 1) := by decide +kernel
theorem dX0_init_6 : decode cX0_init 6 = .ok (.putfield 9, 3) := by decide +kernel
theorem dX0_init_9 : decode cX0_init 9 = .ok (.aload_n 0, 1) := by decide +kernel
theorem dX0_init_10 : decode cX0_init 10 = .ok (.bipush 8, 2) := by decide +kernel
theorem dX0_init_12 : decode cX0_init 12 = .ok (.newarray .int, 2) := by decide +kernel
theorem dX0_init_14 : decode cX0_init 14 = .ok (.putfield 15, 3) := by decide +kernel
theorem dX0_init_17 : decode cX0_init 17 = .ok (.aload_n 0, 1) := by decide +kernel
theorem dX0_init_18 : decode cX0_init 18 = .ok (.bipush 8, 2) := by decide +kernel
theorem dX0_init_20 : decode cX0_init 20 = .ok (.newarray .int, 2) := by decide +kernel
theorem dX0_init_22 : decode cX0_init 22 = .ok (.putfield 19, 3) := by decide +kernel
theorem dX0_init_25 : decode cX0_init 25 = .ok (.aload_n 0, 1) := by decide +kernel
theorem dX0_init_26 : decode cX0_init 26 = .ok (.bipush 8, 2) := by decide +kernel
theorem dX0_init_28 : decode cX0_init 28 = .ok (.newarray .int, 2) := by decide +kernel
theorem dX0_init_30 : decode cX0_init 30 = .ok (.putfield 22, 3) := by decide +kernel
theorem dX0_init_33 : decode cX0_init 33 = .ok (.aload_n 0, 1) := by decide +kernel
theorem dX0_init_34 : decode cX0_init 34 = .ok (.bipush 8, 2) := by decide +kernel
theorem dX0_init_36 : decode cX0_init 36 = .ok (.newarray .int, 2) := by decide +kernel
theorem dX0_init_38 : decode cX0_init 38 = .ok (.putfield 25, 3) := by decide +kernel
theorem dX0_init_41 : decode cX0_init 41 = .ok (.aload_n 0, 1) := by decide +kernel
theorem dX0_init_42 : decode cX0_init 42 = .ok (.bipush 8, 2) := by decide +kernel
theorem dX0_init_44 : decode cX0_init 44 = .ok (.newarray .int, 2) := by decide +kernel
theorem dX0_init_46 : decode cX0_init 46 = .ok (.putfield 28, 3) := by decide +kernel
theorem dX0_init_49 : decode cX0_init 49 = .ok (.aload_n 0, 1) := by decide +kernel
theorem dX0_init_50 : decode cX0_init 50 = .ok (.bipush 20, 2) := by decide +kernel
theorem dX0_init_52 : decode cX0_init 52 = .ok (.newarray .int, 2) := by decide +kernel
theorem dX0_init_54 : decode cX0_init 54 = .ok (.putfield 31, 3) := by decide +kernel
theorem dX0_init_57 : decode cX0_init 57 = .ok (.aload_n 0, 1) := by decide +kernel
theorem dX0_init_58 : decode cX0_init 58 = .ok (.bipush 20, 2) := by decide +kernel
theorem dX0_init_60 : decode cX0_init 60 = .ok (.newarray .int, 2) := by decide +kernel
theorem dX0_init_62 : decode cX0_init 62 = .ok (.putfield 34, 3) := by decide +kernel
theorem dX0_init_65 : decode cX0_init 65 = .ok (.aload_n 0, 1) := by decide +kernel
theorem dX0_init_66 : decode cX0_init 66 = .ok (.bipush 20, 2) := by decide +kernel
theorem dX0_init_68 : decode cX0_init 68 = .ok (.newarray .int, 2) := by decide +kernel
theorem dX0_init_70 : decode cX0_init 70 = .ok (.putfield 37, 3) := by decide +kernel
theorem dX0_init_73 : decode cX0_init 73 = .ok (.return_, 1) := by decide +kernel
theorem dX0_takeStrokes_0 : decode cX0_takeStrokes 0 = .ok (.aload_n 0, 1) := by decide +kernel
theorem dX0_takeStrokes_1 : decode cX0_takeStrokes 1 = .ok (.aload_n 1, 1) := by decide +kernel
theorem dX0_takeStrokes_2 : decode cX0_takeStrokes 2 = .ok (.getfield 9, 3) := by decide +kernel
theorem dX0_takeStrokes_5 : decode cX0_takeStrokes 5 = .ok (.putfield 9, 3) := by decide +kernel
theorem dX0_takeStrokes_8 : decode cX0_takeStrokes 8 = .ok (.aload_n 1, 1) := by decide +kernel
theorem dX0_takeStrokes_9 : decode cX0_takeStrokes 9 = .ok (.getfield 15, 3) := by decide +kernel
theorem dX0_takeStrokes_12 : decode cX0_takeStrokes 12 = .ok (.iconst 0, 1) := by decide +kernel
theorem dX0_takeStrokes_13 : decode cX0_takeStrokes 13 = .ok (.aload_n 0, 1) := by decide +kernel
theorem dX0_takeStrokes_14 : decode cX0_takeStrokes 14 = .ok (.getfield 15, 3) := by decide +kernel
theorem dX0_takeStrokes_17 : decode cX0_takeStrokes 17 = .ok (.iconst 0, 1) := by decide +kernel
theorem dX0_takeStrokes_18 : decode cX0_takeStrokes 18 = .ok (.bipush 8, 2) := by decide +kernel
theorem dX0_takeStrokes_20 : decode cX0_takeStrokes 20 = .ok (.invokestatic 40, 3) := by decide +kernel
theorem dX0_takeStrokes_23 : decode cX0_takeStrokes 23 = .ok (.aload_n 1, 1) := by decide +kernel
theorem dX0_takeStrokes_24 : decode cX0_takeStrokes 24 = .ok (.getfield 19, 3) := by decide +kernel
theorem dX0_takeStrokes_27 : decode cX0_takeStrokes 27 = .ok (.iconst 0, 1) := by decide +kernel
theorem dX0_takeStrokes_28 : decode cX0_takeStrokes 28 = .ok (.aload_n 0, 1) := by decide +kernel
theorem dX0_takeStrokes_29 : decode cX0_takeStrokes 29 = .ok (.getfield 19, 3) := by decide +kernel
theorem dX0_takeStrokes_32 : decode cX0_takeStrokes 32 = .ok (.iconst 0, 1) := by decide +kernel
theorem dX0_takeStrokes_33 : decode cX0_takeStrokes 33 = .ok (.bipush 8, 2) := by decide +kernel
theorem dX0_takeStrokes_35 : decode cX0_takeStrokes 35 = .ok (.invokestatic 40, 3) := by decide +kernel
theorem dX0_takeStrokes_38 : decode cX0_takeStrokes 38 = .ok (.aload_n 1, 1) := by decide +kernel
theorem dX0_takeStrokes_39 : decode cX0_takeStrokes 39 = .ok (.getfield 22, 3) := by decide +kernel
theorem dX0_takeStrokes_42 : decode cX0_takeStrokes 42 = .ok (.iconst 0, 1) := by decide +kernel
theorem dX0_takeStrokes_43 : decode cX0_takeStrokes 43 = .ok (.aload_n 0, 1) := by decide +kernel
theorem dX0_takeStrokes_44 : decode cX0_takeStrokes 44 = .ok (.getfield 22, 3) := by decide +kernel
theorem dX0_takeStrokes_47 : decode cX0_takeStrokes 47 = .ok (.iconst 0, 1) := by decide +kernel
theorem dX0_takeStrokes_48 : decode cX0_takeStrokes 48 = .ok (.bipush 8, 2) := by decide +kernel
theorem dX0_takeStrokes_50 : decode cX0_takeStrokes 50 = .ok (.invokestatic 40, 3) := by decide +kernel
theorem dX0_takeStrokes_53 : decode cX0_takeStrokes 53 = .ok (.aload_n 1, 1) := by decide +kernel
theorem dX0_takeStrokes_54 : decode cX0_takeStrokes 54 = .ok (.getfield 25, 3) := by decide +kernel
theorem dX0_takeStrokes_57 : decode cX0_takeStrokes 57 = .ok (.iconst 0, 1) := by decide +kernel
theorem dX0_takeStrokes_58 : decode cX0_takeStrokes 58 = .ok (.aload_n 0, 1) := by decide +kernel
theorem dX0_takeStrokes_59 : decode cX0_takeStrokes 59 = .ok (.getfield 25, 3) := by decide +kernel
theorem dX0_takeStrokes_62 : decode cX0_takeStrokes 62 = .ok (.iconst 0, 1) := by decide +kernel
theorem dX0_takeStrokes_63 : decode cX0_takeStrokes 63 = .ok (.bipush 8, 2) := by decide +kernel
theorem dX0_takeStrokes_65 : decode cX0_takeStrokes 65 = .ok (.invokestatic 40, 3) := by decide +kernel
theorem dX0_takeStrokes_68 : decode cX0_takeStrokes 68 = .ok (.return_, 1) := by decide +kernel
theorem dX0_everyone_0 : decode cX0_everyone 0 = .ok (.iconst 0, 1) := by decide +kernel
theorem dX0_everyone_1 : decode cX0_everyone 1 = .ok (.istore_n 1, 1) := by decide +kernel
theorem dX0_everyone_2 : decode cX0_everyone 2 = .ok (.iconst 0, 1) := by decide +kernel
theorem dX0_everyone_3 : decode cX0_everyone 3 = .ok (.istore_n 2, 1) := by decide +kernel
theorem dX0_everyone_4 : decode cX0_everyone 4 = .ok (.iload_n 2, 1) := by decide +kernel
theorem dX0_everyone_5 : decode cX0_everyone 5 = .ok (.aload_n 0, 1) := by decide +kernel
theorem dX0_everyone_6 : decode cX0_everyone 6 = .ok (.getfield 9, 3) := by decide +kernel
theorem dX0_everyone_9 : decode cX0_everyone 9 = .ok (.if_icmp .ge 16, 3) := by decide +kernel
theorem dX0_everyone_12 : decode cX0_everyone 12 = .ok (.iload_n 1, 1) := by decide +kernel
theorem dX0_everyone_13 : decode cX0_everyone 13 = .ok (.iload_n 2, 1) := by decide +kernel
theorem dX0_everyone_14 : decode cX0_everyone 14 = .ok (.invokestatic 46, 3) := by decide +kernel
theorem dX0_everyone_17 : decode cX0_everyone 17 = .ok (.ior, 1) := by decide +kernel
theorem dX0_everyone_18 : decode cX0_everyone 18 = .ok (.istore_n 1, 1) := by decide +kernel
theorem dX0_everyone_19 : decode cX0_everyone 19 = .ok (.iinc 2 1, 3) := by decide +kernel
theorem dX0_everyone_22 : decode cX0_everyone 22 = .ok (.goto (-18), 3) := by decide +kernel
theorem dX0_everyone_25 : decode cX0_everyone 25 = .ok (.iload_n 1, 1) := by decide +kernel
theorem dX0_everyone_26 : decode cX0_everyone 26 = .ok (.ireturn, 1) := by decide +kernel
theorem dX0_onCell_0 : decode cX0_onCell 0 = .ok (.iconst 0, 1) := by decide +kernel
theorem dX0_onCell_1 : decode cX0_onCell 1 = .ok (.istore_n 2, 1) := by decide +kernel
theorem dX0_onCell_2 : decode cX0_onCell 2 = .ok (.iconst 0, 1) := by decide +kernel
theorem dX0_onCell_3 : decode cX0_onCell 3 = .ok (.istore_n 3, 1) := by decide +kernel
theorem dX0_onCell_4 : decode cX0_onCell 4 = .ok (.iload_n 3, 1) := by decide +kernel
theorem dX0_onCell_5 : decode cX0_onCell 5 = .ok (.aload_n 0, 1) := by decide +kernel
theorem dX0_onCell_6 : decode cX0_onCell 6 = .ok (.getfield 9, 3) := by decide +kernel
theorem dX0_onCell_9 : decode cX0_onCell 9 = .ok (.if_icmp .ge 26, 3) := by decide +kernel
theorem dX0_onCell_12 : decode cX0_onCell 12 = .ok (.aload_n 0, 1) := by decide +kernel
theorem dX0_onCell_13 : decode cX0_onCell 13 = .ok (.getfield 19, 3) := by decide +kernel
theorem dX0_onCell_16 : decode cX0_onCell 16 = .ok (.iload_n 3, 1) := by decide +kernel
theorem dX0_onCell_17 : decode cX0_onCell 17 = .ok (.iaload, 1) := by decide +kernel
theorem dX0_onCell_18 : decode cX0_onCell 18 = .ok (.iload_n 1, 1) := by decide +kernel
theorem dX0_onCell_19 : decode cX0_onCell 19 = .ok (.if_icmp .ne 10, 3) := by decide +kernel
theorem dX0_onCell_22 : decode cX0_onCell 22 = .ok (.iload_n 2, 1) := by decide +kernel
theorem dX0_onCell_23 : decode cX0_onCell 23 = .ok (.iload_n 3, 1) := by decide +kernel
theorem dX0_onCell_24 : decode cX0_onCell 24 = .ok (.invokestatic 46, 3) := by decide +kernel
theorem dX0_onCell_27 : decode cX0_onCell 27 = .ok (.ior, 1) := by decide +kernel
theorem dX0_onCell_28 : decode cX0_onCell 28 = .ok (.istore_n 2, 1) := by decide +kernel
theorem dX0_onCell_29 : decode cX0_onCell 29 = .ok (.iinc 3 1, 3) := by decide +kernel
theorem dX0_onCell_32 : decode cX0_onCell 32 = .ok (.goto (-28), 3) := by decide +kernel
theorem dX0_onCell_35 : decode cX0_onCell 35 = .ok (.iload_n 2, 1) := by decide +kernel
theorem dX0_onCell_36 : decode cX0_onCell 36 = .ok (.ireturn, 1) := by decide +kernel
theorem dX0_withMates_0 : decode cX0_withMates 0 = .ok (.iconst 0, 1) := by decide +kernel
theorem dX0_withMates_1 : decode cX0_withMates 1 = .ok (.istore_n 2, 1) := by decide +kernel
theorem dX0_withMates_2 : decode cX0_withMates 2 = .ok (.iconst 0, 1) := by decide +kernel
theorem dX0_withMates_3 : decode cX0_withMates 3 = .ok (.istore_n 3, 1) := by decide +kernel
theorem dX0_withMates_4 : decode cX0_withMates 4 = .ok (.iload_n 3, 1) := by decide +kernel
theorem dX0_withMates_5 : decode cX0_withMates 5 = .ok (.aload_n 0, 1) := by decide +kernel
theorem dX0_withMates_6 : decode cX0_withMates 6 = .ok (.getfield 9, 3) := by decide +kernel
theorem dX0_withMates_9 : decode cX0_withMates 9 = .ok (.if_icmp .ge 26, 3) := by decide +kernel
theorem dX0_withMates_12 : decode cX0_withMates 12 = .ok (.iload_n 1, 1) := by decide +kernel
theorem dX0_withMates_13 : decode cX0_withMates 13 = .ok (.iload_n 3, 1) := by decide +kernel
theorem dX0_withMates_14 : decode cX0_withMates 14 = .ok (.invokestatic 50, 3) := by decide +kernel
theorem dX0_withMates_17 : decode cX0_withMates 17 = .ok (.ifCond .eq 12, 3) := by decide +kernel
theorem dX0_withMates_20 : decode cX0_withMates 20 = .ok (.iload_n 2, 1) := by decide +kernel
theorem dX0_withMates_21 : decode cX0_withMates 21 = .ok (.aload_n 0, 1) := by decide +kernel
theorem dX0_withMates_22 : decode cX0_withMates 22 = .ok (.getfield 28, 3) := by decide +kernel
theorem dX0_withMates_25 : decode cX0_withMates 25 = .ok (.iload_n 3, 1) := by decide +kernel
theorem dX0_withMates_26 : decode cX0_withMates 26 = .ok (.iaload, 1) := by decide +kernel
theorem dX0_withMates_27 : decode cX0_withMates 27 = .ok (.ior, 1) := by decide +kernel
theorem dX0_withMates_28 : decode cX0_withMates 28 = .ok (.istore_n 2, 1) := by decide +kernel
theorem dX0_withMates_29 : decode cX0_withMates 29 = .ok (.iinc 3 1, 3) := by decide +kernel
theorem dX0_withMates_32 : decode cX0_withMates 32 = .ok (.goto (-28), 3) := by decide +kernel
theorem dX0_withMates_35 : decode cX0_withMates 35 = .ok (.iload_n 2, 1) := by decide +kernel
theorem dX0_withMates_36 : decode cX0_withMates 36 = .ok (.ireturn, 1) := by decide +kernel
theorem dX0_settle_0 : decode cX0_settle 0 = .ok (.iconst 0, 1) := by decide +kernel
theorem dX0_settle_1 : decode cX0_settle 1 = .ok (.istore_n 3, 1) := by decide +kernel
theorem dX0_settle_2 : decode cX0_settle 2 = .ok (.iload_n 3, 1) := by decide +kernel
theorem dX0_settle_3 : decode cX0_settle 3 = .ok (.bipush 20, 2) := by decide +kernel
theorem dX0_settle_5 : decode cX0_settle 5 = .ok (.if_icmp .ge 30, 3) := by decide +kernel
theorem dX0_settle_8 : decode cX0_settle 8 = .ok (.aload_n 0, 1) := by decide +kernel
theorem dX0_settle_9 : decode cX0_settle 9 = .ok (.getfield 31, 3) := by decide +kernel
theorem dX0_settle_12 : decode cX0_settle 12 = .ok (.iload_n 3, 1) := by decide +kernel
theorem dX0_settle_13 : decode cX0_settle 13 = .ok (.iconst 0, 1) := by decide +kernel
theorem dX0_settle_14 : decode cX0_settle 14 = .ok (.iastore, 1) := by decide +kernel
theorem dX0_settle_15 : decode cX0_settle 15 = .ok (.aload_n 0, 1) := by decide +kernel
theorem dX0_settle_16 : decode cX0_settle 16 = .ok (.getfield 34, 3) := by decide +kernel
theorem dX0_settle_19 : decode cX0_settle 19 = .ok (.iload_n 3, 1) := by decide +kernel
theorem dX0_settle_20 : decode cX0_settle 20 = .ok (.iconst 0, 1) := by decide +kernel
theorem dX0_settle_21 : decode cX0_settle 21 = .ok (.iastore, 1) := by decide +kernel
theorem dX0_settle_22 : decode cX0_settle 22 = .ok (.aload_n 0, 1) := by decide +kernel
theorem dX0_settle_23 : decode cX0_settle 23 = .ok (.getfield 37, 3) := by decide +kernel
theorem dX0_settle_26 : decode cX0_settle 26 = .ok (.iload_n 3, 1) := by decide +kernel
theorem dX0_settle_27 : decode cX0_settle 27 = .ok (.iconst 0, 1) := by decide +kernel
theorem dX0_settle_28 : decode cX0_settle 28 = .ok (.iastore, 1) := by decide +kernel
theorem dX0_settle_29 : decode cX0_settle 29 = .ok (.iinc 3 1, 3) := by decide +kernel
theorem dX0_settle_32 : decode cX0_settle 32 = .ok (.goto (-30), 3) := by decide +kernel
theorem dX0_settle_35 : decode cX0_settle 35 = .ok (.iconst 0, 1) := by decide +kernel
theorem dX0_settle_36 : decode cX0_settle 36 = .ok (.istore_n 3, 1) := by decide +kernel
theorem dX0_settle_37 : decode cX0_settle 37 = .ok (.iload_n 3, 1) := by decide +kernel
theorem dX0_settle_38 : decode cX0_settle 38 = .ok (.aload_n 0, 1) := by decide +kernel
theorem dX0_settle_39 : decode cX0_settle 39 = .ok (.getfield 9, 3) := by decide +kernel
theorem dX0_settle_42 : decode cX0_settle 42 = .ok (.if_icmp .ge 46, 3) := by decide +kernel
theorem dX0_settle_45 : decode cX0_settle 45 = .ok (.iload_n 1, 1) := by decide +kernel
theorem dX0_settle_46 : decode cX0_settle 46 = .ok (.iload_n 3, 1) := by decide +kernel
theorem dX0_settle_47 : decode cX0_settle 47 = .ok (.invokestatic 50, 3) := by decide +kernel
theorem dX0_settle_50 : decode cX0_settle 50 = .ok (.ifCond .eq 32, 3) := by decide +kernel
theorem dX0_settle_53 : decode cX0_settle 53 = .ok (.aload_n 0, 1) := by decide +kernel
theorem dX0_settle_54 : decode cX0_settle 54 = .ok (.getfield 28, 3) := by decide +kernel
theorem dX0_settle_57 : decode cX0_settle 57 = .ok (.iload_n 3, 1) := by decide +kernel
theorem dX0_settle_58 : decode cX0_settle 58 = .ok (.aload_n 0, 1) := by decide +kernel
theorem dX0_settle_59 : decode cX0_settle 59 = .ok (.aload_n 0, 1) := by decide +kernel
theorem dX0_settle_60 : decode cX0_settle 60 = .ok (.getfield 19, 3) := by decide +kernel
theorem dX0_settle_63 : decode cX0_settle 63 = .ok (.iload_n 3, 1) := by decide +kernel
theorem dX0_settle_64 : decode cX0_settle 64 = .ok (.iaload, 1) := by decide +kernel
theorem dX0_settle_65 : decode cX0_settle 65 = .ok (.invokevirtual 54, 3) := by decide +kernel
theorem dX0_settle_68 : decode cX0_settle 68 = .ok (.iload_n 1, 1) := by decide +kernel
theorem dX0_settle_69 : decode cX0_settle 69 = .ok (.iand, 1) := by decide +kernel
theorem dX0_settle_70 : decode cX0_settle 70 = .ok (.iastore, 1) := by decide +kernel
theorem dX0_settle_71 : decode cX0_settle 71 = .ok (.aload_n 0, 1) := by decide +kernel
theorem dX0_settle_72 : decode cX0_settle 72 = .ok (.iload_n 3, 1) := by decide +kernel
theorem dX0_settle_73 : decode cX0_settle 73 = .ok (.aload_n 0, 1) := by decide +kernel
theorem dX0_settle_74 : decode cX0_settle 74 = .ok (.iload_n 3, 1) := by decide +kernel
theorem dX0_settle_75 : decode cX0_settle 75 = .ok (.aload_n 2, 1) := by decide +kernel
theorem dX0_settle_76 : decode cX0_settle 76 = .ok (.invokevirtual 57, 3) := by decide +kernel
theorem dX0_settle_79 : decode cX0_settle 79 = .ok (.invokevirtual 61, 3) := by decide +kernel
theorem dX0_settle_82 : decode cX0_settle 82 = .ok (.iinc 3 1, 3) := by decide +kernel
theorem dX0_settle_85 : decode cX0_settle 85 = .ok (.goto (-48), 3) := by decide +kernel
theorem dX0_settle_88 : decode cX0_settle 88 = .ok (.iconst 0, 1) := by decide +kernel
theorem dX0_settle_89 : decode cX0_settle 89 = .ok (.istore_n 3, 1) := by decide +kernel
theorem dX0_settle_90 : decode cX0_settle 90 = .ok (.iload_n 3, 1) := by decide +kernel
theorem dX0_settle_91 : decode cX0_settle 91 = .ok (.aload_n 0, 1) := by decide +kernel
theorem dX0_settle_92 : decode cX0_settle 92 = .ok (.getfield 9, 3) := by decide +kernel
theorem dX0_settle_95 : decode cX0_settle 95 = .ok (.if_icmp .ge 35, 3) := by decide +kernel
theorem dX0_settle_98 : decode cX0_settle 98 = .ok (.iload_n 1, 1) := by decide +kernel
theorem dX0_settle_99 : decode cX0_settle 99 = .ok (.iload_n 3, 1) := by decide +kernel
theorem dX0_settle_100 : decode cX0_settle 100 = .ok (.invokestatic 50, 3) := by decide +kernel
theorem dX0_settle_103 : decode cX0_settle 103 = .ok (.ifCond .eq 21, 3) := by decide +kernel
theorem dX0_settle_106 : decode cX0_settle 106 = .ok (.aload_n 0, 1) := by decide +kernel
theorem dX0_settle_107 : decode cX0_settle 107 = .ok (.iload_n 3, 1) := by decide +kernel
theorem dX0_settle_108 : decode cX0_settle 108 = .ok (.aload_n 2, 1) := by decide +kernel
theorem dX0_settle_109 : decode cX0_settle 109 = .ok (.aload_n 0, 1) := by decide +kernel
theorem dX0_settle_110 : decode cX0_settle 110 = .ok (.getfield 19, 3) := by decide +kernel
theorem dX0_settle_113 : decode cX0_settle 113 = .ok (.iload_n 3, 1) := by decide +kernel
theorem dX0_settle_114 : decode cX0_settle 114 = .ok (.iaload, 1) := by decide +kernel
theorem dX0_settle_115 : decode cX0_settle 115 = .ok (.bipush 6, 2) := by decide +kernel
theorem dX0_settle_117 : decode cX0_settle 117 = .ok (.idiv, 1) := by decide +kernel
theorem dX0_settle_118 : decode cX0_settle 118 = .ok (.invokevirtual 65, 3) := by decide +kernel
theorem dX0_settle_121 : decode cX0_settle 121 = .ok (.invokevirtual 70, 3) := by decide +kernel
theorem dX0_settle_124 : decode cX0_settle 124 = .ok (.iinc 3 1, 3) := by decide +kernel
theorem dX0_settle_127 : decode cX0_settle 127 = .ok (.goto (-37), 3) := by decide +kernel
theorem dX0_settle_130 : decode cX0_settle 130 = .ok (.return_, 1) := by decide +kernel
theorem dX0_goesIn_0 : decode cX0_goesIn 0 = .ok (.aload_n 2, 1) := by decide +kernel
theorem dX0_goesIn_1 : decode cX0_goesIn 1 = .ok (.aload_n 0, 1) := by decide +kernel
theorem dX0_goesIn_2 : decode cX0_goesIn 2 = .ok (.getfield 15, 3) := by decide +kernel
theorem dX0_goesIn_5 : decode cX0_goesIn 5 = .ok (.iload_n 1, 1) := by decide +kernel
theorem dX0_goesIn_6 : decode cX0_goesIn 6 = .ok (.iaload, 1) := by decide +kernel
theorem dX0_goesIn_7 : decode cX0_goesIn 7 = .ok (.aload_n 0, 1) := by decide +kernel
theorem dX0_goesIn_8 : decode cX0_goesIn 8 = .ok (.getfield 19, 3) := by decide +kernel
theorem dX0_goesIn_11 : decode cX0_goesIn 11 = .ok (.iload_n 1, 1) := by decide +kernel
theorem dX0_goesIn_12 : decode cX0_goesIn 12 = .ok (.iaload, 1) := by decide +kernel
theorem dX0_goesIn_13 : decode cX0_goesIn 13 = .ok (.bipush 6, 2) := by decide +kernel
theorem dX0_goesIn_15 : decode cX0_goesIn 15 = .ok (.idiv, 1) := by decide +kernel
theorem dX0_goesIn_16 : decode cX0_goesIn 16 = .ok (.invokevirtual 73, 3) := by decide +kernel
theorem dX0_goesIn_19 : decode cX0_goesIn 19 = .ok (.istore_n 3, 1) := by decide +kernel
theorem dX0_goesIn_20 : decode cX0_goesIn 20 = .ok (.iconst 0, 1) := by decide +kernel
theorem dX0_goesIn_21 : decode cX0_goesIn 21 = .ok (.istore 4, 2) := by decide +kernel
theorem dX0_goesIn_23 : decode cX0_goesIn 23 = .ok (.iload 4, 2) := by decide +kernel
theorem dX0_goesIn_25 : decode cX0_goesIn 25 = .ok (.aload_n 0, 1) := by decide +kernel
theorem dX0_goesIn_26 : decode cX0_goesIn 26 = .ok (.getfield 9, 3) := by decide +kernel
theorem dX0_goesIn_29 : decode cX0_goesIn 29 = .ok (.if_icmp .ge 85, 3) := by decide +kernel
theorem dX0_goesIn_32 : decode cX0_goesIn 32 = .ok (.aload_n 0, 1) := by decide +kernel
theorem dX0_goesIn_33 : decode cX0_goesIn 33 = .ok (.getfield 15, 3) := by decide +kernel
theorem dX0_goesIn_36 : decode cX0_goesIn 36 = .ok (.iload 4, 2) := by decide +kernel
theorem dX0_goesIn_38 : decode cX0_goesIn 38 = .ok (.iaload, 1) := by decide +kernel
theorem dX0_goesIn_39 : decode cX0_goesIn 39 = .ok (.aload_n 0, 1) := by decide +kernel
theorem dX0_goesIn_40 : decode cX0_goesIn 40 = .ok (.getfield 15, 3) := by decide +kernel
theorem dX0_goesIn_43 : decode cX0_goesIn 43 = .ok (.iload_n 1, 1) := by decide +kernel
theorem dX0_goesIn_44 : decode cX0_goesIn 44 = .ok (.iaload, 1) := by decide +kernel
theorem dX0_goesIn_45 : decode cX0_goesIn 45 = .ok (.if_icmp .gt 25, 3) := by decide +kernel
theorem dX0_goesIn_48 : decode cX0_goesIn 48 = .ok (.aload_n 0, 1) := by decide +kernel
theorem dX0_goesIn_49 : decode cX0_goesIn 49 = .ok (.getfield 15, 3) := by decide +kernel
theorem dX0_goesIn_52 : decode cX0_goesIn 52 = .ok (.iload 4, 2) := by decide +kernel
theorem dX0_goesIn_54 : decode cX0_goesIn 54 = .ok (.iaload, 1) := by decide +kernel
theorem dX0_goesIn_55 : decode cX0_goesIn 55 = .ok (.aload_n 0, 1) := by decide +kernel
theorem dX0_goesIn_56 : decode cX0_goesIn 56 = .ok (.getfield 15, 3) := by decide +kernel
theorem dX0_goesIn_59 : decode cX0_goesIn 59 = .ok (.iload_n 1, 1) := by decide +kernel
theorem dX0_goesIn_60 : decode cX0_goesIn 60 = .ok (.iaload, 1) := by decide +kernel
theorem dX0_goesIn_61 : decode cX0_goesIn 61 = .ok (.if_icmp .ne 13, 3) := by decide +kernel
theorem dX0_goesIn_64 : decode cX0_goesIn 64 = .ok (.iload 4, 2) := by decide +kernel
theorem dX0_goesIn_66 : decode cX0_goesIn 66 = .ok (.iload_n 1, 1) := by decide +kernel
theorem dX0_goesIn_67 : decode cX0_goesIn 67 = .ok (.if_icmp .le 7, 3) := by decide +kernel
theorem dX0_goesIn_70 : decode cX0_goesIn 70 = .ok (.iconst 1, 1) := by decide +kernel
theorem dX0_goesIn_71 : decode cX0_goesIn 71 = .ok (.goto 4, 3) := by decide +kernel
theorem dX0_goesIn_74 : decode cX0_goesIn 74 = .ok (.iconst 0, 1) := by decide +kernel
theorem dX0_goesIn_75 : decode cX0_goesIn 75 = .ok (.istore 5, 2) := by decide +kernel
theorem dX0_goesIn_77 : decode cX0_goesIn 77 = .ok (.iload 5, 2) := by decide +kernel
theorem dX0_goesIn_79 : decode cX0_goesIn 79 = .ok (.ifCond .eq 29, 3) := by decide +kernel
theorem dX0_goesIn_82 : decode cX0_goesIn 82 = .ok (.aload_n 0, 1) := by decide +kernel
theorem dX0_goesIn_83 : decode cX0_goesIn 83 = .ok (.getfield 28, 3) := by decide +kernel
theorem dX0_goesIn_86 : decode cX0_goesIn 86 = .ok (.iload_n 1, 1) := by decide +kernel
theorem dX0_goesIn_87 : decode cX0_goesIn 87 = .ok (.iaload, 1) := by decide +kernel
theorem dX0_goesIn_88 : decode cX0_goesIn 88 = .ok (.iload 4, 2) := by decide +kernel
theorem dX0_goesIn_90 : decode cX0_goesIn 90 = .ok (.invokestatic 50, 3) := by decide +kernel
theorem dX0_goesIn_93 : decode cX0_goesIn 93 = .ok (.ifCond .eq 15, 3) := by decide +kernel
theorem dX0_goesIn_96 : decode cX0_goesIn 96 = .ok (.iload_n 3, 1) := by decide +kernel
theorem dX0_goesIn_97 : decode cX0_goesIn 97 = .ok (.aload_n 0, 1) := by decide +kernel
theorem dX0_goesIn_98 : decode cX0_goesIn 98 = .ok (.getfield 15, 3) := by decide +kernel
theorem dX0_goesIn_101 : decode cX0_goesIn 101 = .ok (.iload 4, 2) := by decide +kernel
theorem dX0_goesIn_103 : decode cX0_goesIn 103 = .ok (.iaload, 1) := by decide +kernel
theorem dX0_goesIn_104 : decode cX0_goesIn 104 = .ok (.invokestatic 77, 3) := by decide +kernel
theorem dX0_goesIn_107 : decode cX0_goesIn 107 = .ok (.istore_n 3, 1) := by decide +kernel
theorem dX0_goesIn_108 : decode cX0_goesIn 108 = .ok (.iinc 4 1, 3) := by decide +kernel
theorem dX0_goesIn_111 : decode cX0_goesIn 111 = .ok (.goto (-88), 3) := by decide +kernel
theorem dX0_goesIn_114 : decode cX0_goesIn 114 = .ok (.iload_n 3, 1) := by decide +kernel
theorem dX0_goesIn_115 : decode cX0_goesIn 115 = .ok (.ireturn, 1) := by decide +kernel
theorem dX0_settleStroke_0 : decode cX0_settleStroke 0 = .ok (.iload_n 1, 1) := by decide +kernel
theorem dX0_settleStroke_1 : decode cX0_settleStroke 1 = .ok (.invokestatic 46, 3) := by decide +kernel
theorem dX0_settleStroke_4 : decode cX0_settleStroke 4 = .ok (.istore_n 3, 1) := by decide +kernel
theorem dX0_settleStroke_5 : decode cX0_settleStroke 5 = .ok (.iconst 0, 1) := by decide +kernel
theorem dX0_settleStroke_6 : decode cX0_settleStroke 6 = .ok (.aload_n 0, 1) := by decide +kernel
theorem dX0_settleStroke_7 : decode cX0_settleStroke 7 = .ok (.getfield 15, 3) := by decide +kernel
theorem dX0_settleStroke_10 : decode cX0_settleStroke 10 = .ok (.iload_n 1, 1) := by decide +kernel
theorem dX0_settleStroke_11 : decode cX0_settleStroke 11 = .ok (.iaload, 1) := by decide +kernel
theorem dX0_settleStroke_12 : decode cX0_settleStroke 12 = .ok (.invokestatic 82, 3) := by decide +kernel
theorem dX0_settleStroke_15 : decode cX0_settleStroke 15 = .ok (.istore 4, 2) := by decide +kernel
theorem dX0_settleStroke_17 : decode cX0_settleStroke 17 = .ok (.iload 4, 2) := by decide +kernel
theorem dX0_settleStroke_19 : decode cX0_settleStroke 19 = .ok (.bipush 20, 2) := by decide +kernel
theorem dX0_settleStroke_21 : decode cX0_settleStroke 21 = .ok (.if_icmp .ge 40, 3) := by decide +kernel
theorem dX0_settleStroke_24 : decode cX0_settleStroke 24 = .ok (.iload 4, 2) := by decide +kernel
theorem dX0_settleStroke_26 : decode cX0_settleStroke 26 = .ok (.iload_n 2, 1) := by decide +kernel
theorem dX0_settleStroke_27 : decode cX0_settleStroke 27 = .ok (.if_icmp .ge 17, 3) := by decide +kernel
theorem dX0_settleStroke_30 : decode cX0_settleStroke 30 = .ok (.aload_n 0, 1) := by decide +kernel
theorem dX0_settleStroke_31 : decode cX0_settleStroke 31 = .ok (.getfield 31, 3) := by decide +kernel
theorem dX0_settleStroke_34 : decode cX0_settleStroke 34 = .ok (.iload 4, 2) := by decide +kernel
theorem dX0_settleStroke_36 : decode cX0_settleStroke 36 = .ok (.dup2, 1) := by decide +kernel
theorem dX0_settleStroke_37 : decode cX0_settleStroke 37 = .ok (.iaload, 1) := by decide +kernel
theorem dX0_settleStroke_38 : decode cX0_settleStroke 38 = .ok (.iload_n 3, 1) := by decide +kernel
theorem dX0_settleStroke_39 : decode cX0_settleStroke 39 = .ok (.ior, 1) := by decide +kernel
theorem dX0_settleStroke_40 : decode cX0_settleStroke 40 = .ok (.iastore, 1) := by decide +kernel
theorem dX0_settleStroke_41 : decode cX0_settleStroke 41 = .ok (.goto 14, 3) := by decide +kernel
theorem dX0_settleStroke_44 : decode cX0_settleStroke 44 = .ok (.aload_n 0, 1) := by decide +kernel
theorem dX0_settleStroke_45 : decode cX0_settleStroke 45 = .ok (.getfield 34, 3) := by decide +kernel
theorem dX0_settleStroke_48 : decode cX0_settleStroke 48 = .ok (.iload 4, 2) := by decide +kernel
theorem dX0_settleStroke_50 : decode cX0_settleStroke 50 = .ok (.dup2, 1) := by decide +kernel
theorem dX0_settleStroke_51 : decode cX0_settleStroke 51 = .ok (.iaload, 1) := by decide +kernel
theorem dX0_settleStroke_52 : decode cX0_settleStroke 52 = .ok (.iload_n 3, 1) := by decide +kernel
theorem dX0_settleStroke_53 : decode cX0_settleStroke 53 = .ok (.ior, 1) := by decide +kernel
theorem dX0_settleStroke_54 : decode cX0_settleStroke 54 = .ok (.iastore, 1) := by decide +kernel
theorem dX0_settleStroke_55 : decode cX0_settleStroke 55 = .ok (.iinc 4 1, 3) := by decide +kernel
theorem dX0_settleStroke_58 : decode cX0_settleStroke 58 = .ok (.goto (-41), 3) := by decide +kernel
theorem dX0_settleStroke_61 : decode cX0_settleStroke 61 = .ok (.return_, 1) := by decide +kernel
theorem dX0_settleAble_0 : decode cX0_settleAble 0 = .ok (.iload_n 1, 1) := by decide +kernel
theorem dX0_settleAble_1 : decode cX0_settleAble 1 = .ok (.invokestatic 46, 3) := by decide +kernel
theorem dX0_settleAble_4 : decode cX0_settleAble 4 = .ok (.istore_n 3, 1) := by decide +kernel
theorem dX0_settleAble_5 : decode cX0_settleAble 5 = .ok (.aload_n 0, 1) := by decide +kernel
theorem dX0_settleAble_6 : decode cX0_settleAble 6 = .ok (.getfield 28, 3) := by decide +kernel
theorem dX0_settleAble_9 : decode cX0_settleAble 9 = .ok (.iload_n 1, 1) := by decide +kernel
theorem dX0_settleAble_10 : decode cX0_settleAble 10 = .ok (.iaload, 1) := by decide +kernel
theorem dX0_settleAble_11 : decode cX0_settleAble 11 = .ok (.istore 4, 2) := by decide +kernel
theorem dX0_settleAble_13 : decode cX0_settleAble 13 = .ok (.iconst 0, 1) := by decide +kernel
theorem dX0_settleAble_14 : decode cX0_settleAble 14 = .ok (.istore 5, 2) := by decide +kernel
theorem dX0_settleAble_16 : decode cX0_settleAble 16 = .ok (.iload 5, 2) := by decide +kernel
theorem dX0_settleAble_18 : decode cX0_settleAble 18 = .ok (.bipush 20, 2) := by decide +kernel
theorem dX0_settleAble_20 : decode cX0_settleAble 20 = .ok (.if_icmp .ge 47, 3) := by decide +kernel
theorem dX0_settleAble_23 : decode cX0_settleAble 23 = .ok (.iload 5, 2) := by decide +kernel
theorem dX0_settleAble_25 : decode cX0_settleAble 25 = .ok (.iload_n 2, 1) := by decide +kernel
theorem dX0_settleAble_26 : decode cX0_settleAble 26 = .ok (.if_icmp .ge 41, 3) := by decide +kernel
theorem dX0_settleAble_29 : decode cX0_settleAble 29 = .ok (.aload_n 0, 1) := by decide +kernel
theorem dX0_settleAble_30 : decode cX0_settleAble 30 = .ok (.getfield 31, 3) := by decide +kernel
theorem dX0_settleAble_33 : decode cX0_settleAble 33 = .ok (.iload 5, 2) := by decide +kernel
theorem dX0_settleAble_35 : decode cX0_settleAble 35 = .ok (.iaload, 1) := by decide +kernel
theorem dX0_settleAble_36 : decode cX0_settleAble 36 = .ok (.iload 4, 2) := by decide +kernel
theorem dX0_settleAble_38 : decode cX0_settleAble 38 = .ok (.iand, 1) := by decide +kernel
theorem dX0_settleAble_39 : decode cX0_settleAble 39 = .ok (.ifCond .ne 22, 3) := by decide +kernel
theorem dX0_settleAble_42 : decode cX0_settleAble 42 = .ok (.aload_n 0, 1) := by decide +kernel
theorem dX0_settleAble_43 : decode cX0_settleAble 43 = .ok (.getfield 37, 3) := by decide +kernel
theorem dX0_settleAble_46 : decode cX0_settleAble 46 = .ok (.iload 5, 2) := by decide +kernel
theorem dX0_settleAble_48 : decode cX0_settleAble 48 = .ok (.dup2, 1) := by decide +kernel
theorem dX0_settleAble_49 : decode cX0_settleAble 49 = .ok (.iaload, 1) := by decide +kernel
theorem dX0_settleAble_50 : decode cX0_settleAble 50 = .ok (.aload_n 0, 1) := by decide +kernel
theorem dX0_settleAble_51 : decode cX0_settleAble 51 = .ok (.getfield 34, 3) := by decide +kernel
theorem dX0_settleAble_54 : decode cX0_settleAble 54 = .ok (.iload 5, 2) := by decide +kernel
theorem dX0_settleAble_56 : decode cX0_settleAble 56 = .ok (.iaload, 1) := by decide +kernel
theorem dX0_settleAble_57 : decode cX0_settleAble 57 = .ok (.iload_n 3, 1) := by decide +kernel
theorem dX0_settleAble_58 : decode cX0_settleAble 58 = .ok (.iand, 1) := by decide +kernel
theorem dX0_settleAble_59 : decode cX0_settleAble 59 = .ok (.ior, 1) := by decide +kernel
theorem dX0_settleAble_60 : decode cX0_settleAble 60 = .ok (.iastore, 1) := by decide +kernel
theorem dX0_settleAble_61 : decode cX0_settleAble 61 = .ok (.iinc 5 1, 3) := by decide +kernel
theorem dX0_settleAble_64 : decode cX0_settleAble 64 = .ok (.goto (-48), 3) := by decide +kernel
theorem dX0_settleAble_67 : decode cX0_settleAble 67 = .ok (.return_, 1) := by decide +kernel
theorem dX0_freshStrengths_0 : decode cX0_freshStrengths 0 = .ok (.iconst 0, 1) := by decide +kernel
theorem dX0_freshStrengths_1 : decode cX0_freshStrengths 1 = .ok (.istore_n 1, 1) := by decide +kernel
theorem dX0_freshStrengths_2 : decode cX0_freshStrengths 2 = .ok (.iconst 0, 1) := by decide +kernel
theorem dX0_freshStrengths_3 : decode cX0_freshStrengths 3 = .ok (.istore_n 2, 1) := by decide +kernel
theorem dX0_freshStrengths_4 : decode cX0_freshStrengths 4 = .ok (.iload_n 2, 1) := by decide +kernel
theorem dX0_freshStrengths_5 : decode cX0_freshStrengths 5 = .ok (.aload_n 0, 1) := by decide +kernel
theorem dX0_freshStrengths_6 : decode cX0_freshStrengths 6 = .ok (.getfield 9, 3) := by decide +kernel
theorem dX0_freshStrengths_9 : decode cX0_freshStrengths 9 = .ok (.if_icmp .ge 22, 3) := by decide +kernel
theorem dX0_freshStrengths_12 : decode cX0_freshStrengths 12 = .ok (.iload_n 1, 1) := by decide +kernel
theorem dX0_freshStrengths_13 : decode cX0_freshStrengths 13 = .ok (.aload_n 0, 1) := by decide +kernel
theorem dX0_freshStrengths_14 : decode cX0_freshStrengths 14 = .ok (.getfield 25, 3) := by decide +kernel
theorem dX0_freshStrengths_17 : decode cX0_freshStrengths 17 = .ok (.iload_n 2, 1) := by decide +kernel
theorem dX0_freshStrengths_18 : decode cX0_freshStrengths 18 = .ok (.iaload, 1) := by decide +kernel
theorem dX0_freshStrengths_19 : decode cX0_freshStrengths 19 = .ok (.iconst 4, 1) := by decide +kernel
theorem dX0_freshStrengths_20 : decode cX0_freshStrengths 20 = .ok (.iload_n 2, 1) := by decide +kernel
theorem dX0_freshStrengths_21 : decode cX0_freshStrengths 21 = .ok (.imul, 1) := by decide +kernel
theorem dX0_freshStrengths_22 : decode cX0_freshStrengths 22 = .ok (.ishl, 1) := by decide +kernel
theorem dX0_freshStrengths_23 : decode cX0_freshStrengths 23 = .ok (.ior, 1) := by decide +kernel
theorem dX0_freshStrengths_24 : decode cX0_freshStrengths 24 = .ok (.istore_n 1, 1) := by decide +kernel
theorem dX0_freshStrengths_25 : decode cX0_freshStrengths 25 = .ok (.iinc 2 1, 3) := by decide +kernel
theorem dX0_freshStrengths_28 : decode cX0_freshStrengths 28 = .ok (.goto (-24), 3) := by decide +kernel
theorem dX0_freshStrengths_31 : decode cX0_freshStrengths 31 = .ok (.iload_n 1, 1) := by decide +kernel
theorem dX0_freshStrengths_32 : decode cX0_freshStrengths 32 = .ok (.ireturn, 1) := by decide +kernel
theorem dX0_risenOn_0 : decode cX0_risenOn 0 = .ok (.iload_n 2, 1) := by decide +kernel
theorem dX0_risenOn_1 : decode cX0_risenOn 1 = .ok (.ifCond .le 12, 3) := by decide +kernel
theorem dX0_risenOn_4 : decode cX0_risenOn 4 = .ok (.aload_n 0, 1) := by decide +kernel
theorem dX0_risenOn_5 : decode cX0_risenOn 5 = .ok (.getfield 37, 3) := by decide +kernel
theorem dX0_risenOn_8 : decode cX0_risenOn 8 = .ok (.iload_n 1, 1) := by decide +kernel
theorem dX0_risenOn_9 : decode cX0_risenOn 9 = .ok (.iaload, 1) := by decide +kernel
theorem dX0_risenOn_10 : decode cX0_risenOn 10 = .ok (.goto 4, 3) := by decide +kernel
theorem dX0_risenOn_13 : decode cX0_risenOn 13 = .ok (.iconst 0, 1) := by decide +kernel
theorem dX0_risenOn_14 : decode cX0_risenOn 14 = .ok (.istore 4, 2) := by decide +kernel
theorem dX0_risenOn_16 : decode cX0_risenOn 16 = .ok (.iconst 0, 1) := by decide +kernel
theorem dX0_risenOn_17 : decode cX0_risenOn 17 = .ok (.istore 5, 2) := by decide +kernel
theorem dX0_risenOn_19 : decode cX0_risenOn 19 = .ok (.iconst 0, 1) := by decide +kernel
theorem dX0_risenOn_20 : decode cX0_risenOn 20 = .ok (.istore 6, 2) := by decide +kernel
theorem dX0_risenOn_22 : decode cX0_risenOn 22 = .ok (.iload 6, 2) := by decide +kernel
theorem dX0_risenOn_24 : decode cX0_risenOn 24 = .ok (.aload_n 0, 1) := by decide +kernel
theorem dX0_risenOn_25 : decode cX0_risenOn 25 = .ok (.getfield 9, 3) := by decide +kernel
theorem dX0_risenOn_28 : decode cX0_risenOn 28 = .ok (.if_icmp .ge 92, 3) := by decide +kernel
theorem dX0_risenOn_31 : decode cX0_risenOn 31 = .ok (.iload 4, 2) := by decide +kernel
theorem dX0_risenOn_33 : decode cX0_risenOn 33 = .ok (.ifCond .eq 87, 3) := by decide +kernel
theorem dX0_risenOn_36 : decode cX0_risenOn 36 = .ok (.iload 4, 2) := by decide +kernel
theorem dX0_risenOn_38 : decode cX0_risenOn 38 = .ok (.iload 6, 2) := by decide +kernel
theorem dX0_risenOn_40 : decode cX0_risenOn 40 = .ok (.invokestatic 50, 3) := by decide +kernel
theorem dX0_risenOn_43 : decode cX0_risenOn 43 = .ok (.ifCond .eq 71, 3) := by decide +kernel
theorem dX0_risenOn_46 : decode cX0_risenOn 46 = .ok (.iload 4, 2) := by decide +kernel
theorem dX0_risenOn_48 : decode cX0_risenOn 48 = .ok (.aload_n 0, 1) := by decide +kernel
theorem dX0_risenOn_49 : decode cX0_risenOn 49 = .ok (.getfield 28, 3) := by decide +kernel
theorem dX0_risenOn_52 : decode cX0_risenOn 52 = .ok (.iload 6, 2) := by decide +kernel
theorem dX0_risenOn_54 : decode cX0_risenOn 54 = .ok (.iaload, 1) := by decide +kernel
theorem dX0_risenOn_55 : decode cX0_risenOn 55 = .ok (.iand, 1) := by decide +kernel
theorem dX0_risenOn_56 : decode cX0_risenOn 56 = .ok (.istore 7, 2) := by decide +kernel
theorem dX0_risenOn_58 : decode cX0_risenOn 58 = .ok (.iload 7, 2) := by decide +kernel
theorem dX0_risenOn_60 : decode cX0_risenOn 60 = .ok (.iload 6, 2) := by decide +kernel
theorem dX0_risenOn_62 : decode cX0_risenOn 62 = .ok (.invokestatic 46, 3) := by decide +kernel
theorem dX0_risenOn_65 : decode cX0_risenOn 65 = .ok (.if_icmp .ne 8, 3) := by decide +kernel
theorem dX0_risenOn_68 : decode cX0_risenOn 68 = .ok (.iload 6, 2) := by decide +kernel
theorem dX0_risenOn_70 : decode cX0_risenOn 70 = .ok (.goto 10, 3) := by decide +kernel
theorem dX0_risenOn_73 : decode cX0_risenOn 73 = .ok (.aload_n 0, 1) := by decide +kernel
theorem dX0_risenOn_74 : decode cX0_risenOn 74 = .ok (.iload 7, 2) := by decide +kernel
theorem dX0_risenOn_76 : decode cX0_risenOn 76 = .ok (.iload_n 3, 1) := by decide +kernel
theorem dX0_risenOn_77 : decode cX0_risenOn 77 = .ok (.invokevirtual 85, 3) := by decide +kernel
theorem dX0_risenOn_80 : decode cX0_risenOn 80 = .ok (.istore 8, 2) := by decide +kernel
theorem dX0_risenOn_82 : decode cX0_risenOn 82 = .ok (.iload_n 3, 1) := by decide +kernel
theorem dX0_risenOn_83 : decode cX0_risenOn 83 = .ok (.iload 8, 2) := by decide +kernel
theorem dX0_risenOn_85 : decode cX0_risenOn 85 = .ok (.invokestatic 88, 3) := by decide +kernel
theorem dX0_risenOn_88 : decode cX0_risenOn 88 = .ok (.iload_n 2, 1) := by decide +kernel
theorem dX0_risenOn_89 : decode cX0_risenOn 89 = .ok (.iadd, 1) := by decide +kernel
theorem dX0_risenOn_90 : decode cX0_risenOn 90 = .ok (.bipush 10, 2) := by decide +kernel
theorem dX0_risenOn_92 : decode cX0_risenOn 92 = .ok (.if_icmp .lt 13, 3) := by decide +kernel
theorem dX0_risenOn_95 : decode cX0_risenOn 95 = .ok (.iload 5, 2) := by decide +kernel
theorem dX0_risenOn_97 : decode cX0_risenOn 97 = .ok (.iload 8, 2) := by decide +kernel
theorem dX0_risenOn_99 : decode cX0_risenOn 99 = .ok (.invokestatic 46, 3) := by decide +kernel
theorem dX0_risenOn_102 : decode cX0_risenOn 102 = .ok (.ior, 1) := by decide +kernel
theorem dX0_risenOn_103 : decode cX0_risenOn 103 = .ok (.istore 5, 2) := by decide +kernel
theorem dX0_risenOn_105 : decode cX0_risenOn 105 = .ok (.iload 4, 2) := by decide +kernel
theorem dX0_risenOn_107 : decode cX0_risenOn 107 = .ok (.iload 7, 2) := by decide +kernel
theorem dX0_risenOn_109 : decode cX0_risenOn 109 = .ok (.iconst (-1), 1) := by decide +kernel
theorem dX0_risenOn_110 : decode cX0_risenOn 110 = .ok (.ixor, 1) := by decide +kernel
theorem dX0_risenOn_111 : decode cX0_risenOn 111 = .ok (.iand, 1) := by decide +kernel
theorem dX0_risenOn_112 : decode cX0_risenOn 112 = .ok (.istore 4, 2) := by decide +kernel
theorem dX0_risenOn_114 : decode cX0_risenOn 114 = .ok (.iinc 6 1, 3) := by decide +kernel
theorem dX0_risenOn_117 : decode cX0_risenOn 117 = .ok (.goto (-95), 3) := by decide +kernel
theorem dX0_risenOn_120 : decode cX0_risenOn 120 = .ok (.iload 5, 2) := by decide +kernel
theorem dX0_risenOn_122 : decode cX0_risenOn 122 = .ok (.ireturn, 1) := by decide +kernel
theorem dX0_strongest_0 : decode cX0_strongest 0 = .ok (.iconst 0, 1) := by decide +kernel
theorem dX0_strongest_1 : decode cX0_strongest 1 = .ok (.istore_n 3, 1) := by decide +kernel
theorem dX0_strongest_2 : decode cX0_strongest 2 = .ok (.iconst (-1), 1) := by decide +kernel
theorem dX0_strongest_3 : decode cX0_strongest 3 = .ok (.istore 4, 2) := by decide +kernel
theorem dX0_strongest_5 : decode cX0_strongest 5 = .ok (.iconst 0, 1) := by decide +kernel
theorem dX0_strongest_6 : decode cX0_strongest 6 = .ok (.istore 5, 2) := by decide +kernel
theorem dX0_strongest_8 : decode cX0_strongest 8 = .ok (.iload 5, 2) := by decide +kernel
theorem dX0_strongest_10 : decode cX0_strongest 10 = .ok (.aload_n 0, 1) := by decide +kernel
theorem dX0_strongest_11 : decode cX0_strongest 11 = .ok (.getfield 9, 3) := by decide +kernel
theorem dX0_strongest_14 : decode cX0_strongest 14 = .ok (.if_icmp .ge 45, 3) := by decide +kernel
theorem dX0_strongest_17 : decode cX0_strongest 17 = .ok (.iload_n 2, 1) := by decide +kernel
theorem dX0_strongest_18 : decode cX0_strongest 18 = .ok (.iconst 4, 1) := by decide +kernel
theorem dX0_strongest_19 : decode cX0_strongest 19 = .ok (.iload 5, 2) := by decide +kernel
theorem dX0_strongest_21 : decode cX0_strongest 21 = .ok (.imul, 1) := by decide +kernel
theorem dX0_strongest_22 : decode cX0_strongest 22 = .ok (.iushr, 1) := by decide +kernel
theorem dX0_strongest_23 : decode cX0_strongest 23 = .ok (.bipush 15, 2) := by decide +kernel
theorem dX0_strongest_25 : decode cX0_strongest 25 = .ok (.iand, 1) := by decide +kernel
theorem dX0_strongest_26 : decode cX0_strongest 26 = .ok (.istore 6, 2) := by decide +kernel
theorem dX0_strongest_28 : decode cX0_strongest 28 = .ok (.iload_n 1, 1) := by decide +kernel
theorem dX0_strongest_29 : decode cX0_strongest 29 = .ok (.iconst 4, 1) := by decide +kernel
theorem dX0_strongest_30 : decode cX0_strongest 30 = .ok (.iload 5, 2) := by decide +kernel
theorem dX0_strongest_32 : decode cX0_strongest 32 = .ok (.imul, 1) := by decide +kernel
theorem dX0_strongest_33 : decode cX0_strongest 33 = .ok (.iushr, 1) := by decide +kernel
theorem dX0_strongest_34 : decode cX0_strongest 34 = .ok (.iconst 1, 1) := by decide +kernel
theorem dX0_strongest_35 : decode cX0_strongest 35 = .ok (.iand, 1) := by decide +kernel
theorem dX0_strongest_36 : decode cX0_strongest 36 = .ok (.ifCond .eq 17, 3) := by decide +kernel
theorem dX0_strongest_39 : decode cX0_strongest 39 = .ok (.iload 6, 2) := by decide +kernel
theorem dX0_strongest_41 : decode cX0_strongest 41 = .ok (.iload 4, 2) := by decide +kernel
theorem dX0_strongest_43 : decode cX0_strongest 43 = .ok (.if_icmp .lt 10, 3) := by decide +kernel
theorem dX0_strongest_46 : decode cX0_strongest 46 = .ok (.iload 5, 2) := by decide +kernel
theorem dX0_strongest_48 : decode cX0_strongest 48 = .ok (.istore_n 3, 1) := by decide +kernel
theorem dX0_strongest_49 : decode cX0_strongest 49 = .ok (.iload 6, 2) := by decide +kernel
theorem dX0_strongest_51 : decode cX0_strongest 51 = .ok (.istore 4, 2) := by decide +kernel
theorem dX0_strongest_53 : decode cX0_strongest 53 = .ok (.iinc 5 1, 3) := by decide +kernel
theorem dX0_strongest_56 : decode cX0_strongest 56 = .ok (.goto (-48), 3) := by decide +kernel
theorem dX0_strongest_59 : decode cX0_strongest 59 = .ok (.iload_n 3, 1) := by decide +kernel
theorem dX0_strongest_60 : decode cX0_strongest 60 = .ok (.ireturn, 1) := by decide +kernel
theorem dX0_weathered_0 : decode cX0_weathered 0 = .ok (.iload_n 3, 1) := by decide +kernel
theorem dX0_weathered_1 : decode cX0_weathered 1 = .ok (.iload_n 3, 1) := by decide +kernel
theorem dX0_weathered_2 : decode cX0_weathered 2 = .ok (.iconst 3, 1) := by decide +kernel
theorem dX0_weathered_3 : decode cX0_weathered 3 = .ok (.iushr, 1) := by decide +kernel
theorem dX0_weathered_4 : decode cX0_weathered 4 = .ok (.iand, 1) := by decide +kernel
theorem dX0_weathered_5 : decode cX0_weathered 5 = .ok (.istore 5, 2) := by decide +kernel
theorem dX0_weathered_7 : decode cX0_weathered 7 = .ok (.iload_n 3, 1) := by decide +kernel
theorem dX0_weathered_8 : decode cX0_weathered 8 = .ok (.iload_n 3, 1) := by decide +kernel
theorem dX0_weathered_9 : decode cX0_weathered 9 = .ok (.iconst 1, 1) := by decide +kernel
theorem dX0_weathered_10 : decode cX0_weathered 10 = .ok (.iushr, 1) := by decide +kernel
theorem dX0_weathered_11 : decode cX0_weathered 11 = .ok (.ior, 1) := by decide +kernel
theorem dX0_weathered_12 : decode cX0_weathered 12 = .ok (.iload_n 3, 1) := by decide +kernel
theorem dX0_weathered_13 : decode cX0_weathered 13 = .ok (.iconst 2, 1) := by decide +kernel
theorem dX0_weathered_14 : decode cX0_weathered 14 = .ok (.iushr, 1) := by decide +kernel
theorem dX0_weathered_15 : decode cX0_weathered 15 = .ok (.ior, 1) := by decide +kernel
theorem dX0_weathered_16 : decode cX0_weathered 16 = .ok (.iload_n 3, 1) := by decide +kernel
theorem dX0_weathered_17 : decode cX0_weathered 17 = .ok (.iconst 3, 1) := by decide +kernel
theorem dX0_weathered_18 : decode cX0_weathered 18 = .ok (.iushr, 1) := by decide +kernel
theorem dX0_weathered_19 : decode cX0_weathered 19 = .ok (.ior, 1) := by decide +kernel
theorem dX0_weathered_20 : decode cX0_weathered 20 = .ok (.istore 6, 2) := by decide +kernel
theorem dX0_weathered_22 : decode cX0_weathered 22 = .ok (.iload 4, 2) := by decide +kernel
theorem dX0_weathered_24 : decode cX0_weathered 24 = .ok (.ifCond .eq 16, 3) := by decide +kernel
theorem dX0_weathered_27 : decode cX0_weathered 27 = .ok (.aload_n 0, 1) := by decide +kernel
theorem dX0_weathered_28 : decode cX0_weathered 28 = .ok (.getfield 34, 3) := by decide +kernel
theorem dX0_weathered_31 : decode cX0_weathered 31 = .ok (.iload_n 1, 1) := by decide +kernel
theorem dX0_weathered_32 : decode cX0_weathered 32 = .ok (.iaload, 1) := by decide +kernel
theorem dX0_weathered_33 : decode cX0_weathered 33 = .ok (.iload_n 2, 1) := by decide +kernel
theorem dX0_weathered_34 : decode cX0_weathered 34 = .ok (.iconst (-1), 1) := by decide +kernel
theorem dX0_weathered_35 : decode cX0_weathered 35 = .ok (.ixor, 1) := by decide +kernel
theorem dX0_weathered_36 : decode cX0_weathered 36 = .ok (.iand, 1) := by decide +kernel
theorem dX0_weathered_37 : decode cX0_weathered 37 = .ok (.goto 4, 3) := by decide +kernel
theorem dX0_weathered_40 : decode cX0_weathered 40 = .ok (.iconst 0, 1) := by decide +kernel
theorem dX0_weathered_41 : decode cX0_weathered 41 = .ok (.istore 7, 2) := by decide +kernel
theorem dX0_weathered_43 : decode cX0_weathered 43 = .ok (.iload_n 3, 1) := by decide +kernel
theorem dX0_weathered_44 : decode cX0_weathered 44 = .ok (.iload_n 2, 1) := by decide +kernel
theorem dX0_weathered_45 : decode cX0_weathered 45 = .ok (.iload 5, 2) := by decide +kernel
theorem dX0_weathered_47 : decode cX0_weathered 47 = .ok (.iconst (-1), 1) := by decide +kernel
theorem dX0_weathered_48 : decode cX0_weathered 48 = .ok (.ixor, 1) := by decide +kernel
theorem dX0_weathered_49 : decode cX0_weathered 49 = .ok (.iand, 1) := by decide +kernel
theorem dX0_weathered_50 : decode cX0_weathered 50 = .ok (.iadd, 1) := by decide +kernel
theorem dX0_weathered_51 : decode cX0_weathered 51 = .ok (.iload 7, 2) := by decide +kernel
theorem dX0_weathered_53 : decode cX0_weathered 53 = .ok (.iload 6, 2) := by decide +kernel
theorem dX0_weathered_55 : decode cX0_weathered 55 = .ok (.iand, 1) := by decide +kernel
theorem dX0_weathered_56 : decode cX0_weathered 56 = .ok (.isub, 1) := by decide +kernel
theorem dX0_weathered_57 : decode cX0_weathered 57 = .ok (.ireturn, 1) := by decide +kernel
theorem dX0_shownOn_0 : decode cX0_shownOn 0 = .ok (.iconst 0, 1) := by decide +kernel
theorem dX0_shownOn_1 : decode cX0_shownOn 1 = .ok (.istore 4, 2) := by decide +kernel
theorem dX0_shownOn_3 : decode cX0_shownOn 3 = .ok (.iload 4, 2) := by decide +kernel
theorem dX0_shownOn_5 : decode cX0_shownOn 5 = .ok (.aload_n 0, 1) := by decide +kernel
theorem dX0_shownOn_6 : decode cX0_shownOn 6 = .ok (.getfield 9, 3) := by decide +kernel
theorem dX0_shownOn_9 : decode cX0_shownOn 9 = .ok (.if_icmp .ge 62, 3) := by decide +kernel
theorem dX0_shownOn_12 : decode cX0_shownOn 12 = .ok (.aload_n 0, 1) := by decide +kernel
theorem dX0_shownOn_13 : decode cX0_shownOn 13 = .ok (.getfield 19, 3) := by decide +kernel
theorem dX0_shownOn_16 : decode cX0_shownOn 16 = .ok (.iload 4, 2) := by decide +kernel
theorem dX0_shownOn_18 : decode cX0_shownOn 18 = .ok (.iaload, 1) := by decide +kernel
theorem dX0_shownOn_19 : decode cX0_shownOn 19 = .ok (.iload_n 2, 1) := by decide +kernel
theorem dX0_shownOn_20 : decode cX0_shownOn 20 = .ok (.if_icmp .ne 45, 3) := by decide +kernel
theorem dX0_shownOn_23 : decode cX0_shownOn 23 = .ok (.aload_n 0, 1) := by decide +kernel
theorem dX0_shownOn_24 : decode cX0_shownOn 24 = .ok (.getfield 31, 3) := by decide +kernel
theorem dX0_shownOn_27 : decode cX0_shownOn 27 = .ok (.iload_n 1, 1) := by decide +kernel
theorem dX0_shownOn_28 : decode cX0_shownOn 28 = .ok (.iaload, 1) := by decide +kernel
theorem dX0_shownOn_29 : decode cX0_shownOn 29 = .ok (.iload 4, 2) := by decide +kernel
theorem dX0_shownOn_31 : decode cX0_shownOn 31 = .ok (.invokestatic 50, 3) := by decide +kernel
theorem dX0_shownOn_34 : decode cX0_shownOn 34 = .ok (.ifCond .eq 11, 3) := by decide +kernel
theorem dX0_shownOn_37 : decode cX0_shownOn 37 = .ok (.aload_n 0, 1) := by decide +kernel
theorem dX0_shownOn_38 : decode cX0_shownOn 38 = .ok (.getfield 22, 3) := by decide +kernel
theorem dX0_shownOn_41 : decode cX0_shownOn 41 = .ok (.iload 4, 2) := by decide +kernel
theorem dX0_shownOn_43 : decode cX0_shownOn 43 = .ok (.iaload, 1) := by decide +kernel
theorem dX0_shownOn_44 : decode cX0_shownOn 44 = .ok (.ireturn, 1) := by decide +kernel
theorem dX0_shownOn_45 : decode cX0_shownOn 45 = .ok (.iload_n 3, 1) := by decide +kernel
theorem dX0_shownOn_46 : decode cX0_shownOn 46 = .ok (.iload 4, 2) := by decide +kernel
theorem dX0_shownOn_48 : decode cX0_shownOn 48 = .ok (.invokestatic 50, 3) := by decide +kernel
theorem dX0_shownOn_51 : decode cX0_shownOn 51 = .ok (.ifCond .eq 14, 3) := by decide +kernel
theorem dX0_shownOn_54 : decode cX0_shownOn 54 = .ok (.bipush 6, 2) := by decide +kernel
theorem dX0_shownOn_56 : decode cX0_shownOn 56 = .ok (.aload_n 0, 1) := by decide +kernel
theorem dX0_shownOn_57 : decode cX0_shownOn 57 = .ok (.getfield 22, 3) := by decide +kernel
theorem dX0_shownOn_60 : decode cX0_shownOn 60 = .ok (.iload 4, 2) := by decide +kernel
theorem dX0_shownOn_62 : decode cX0_shownOn 62 = .ok (.iaload, 1) := by decide +kernel
theorem dX0_shownOn_63 : decode cX0_shownOn 63 = .ok (.iadd, 1) := by decide +kernel
theorem dX0_shownOn_64 : decode cX0_shownOn 64 = .ok (.ireturn, 1) := by decide +kernel
theorem dX0_shownOn_65 : decode cX0_shownOn 65 = .ok (.iinc 4 1, 3) := by decide +kernel
theorem dX0_shownOn_68 : decode cX0_shownOn 68 = .ok (.goto (-65), 3) := by decide +kernel
theorem dX0_shownOn_71 : decode cX0_shownOn 71 = .ok (.iconst (-1), 1) := by decide +kernel
theorem dX0_shownOn_72 : decode cX0_shownOn 72 = .ok (.ireturn, 1) := by decide +kernel
theorem dX0_signRisen_0 : decode cX0_signRisen 0 = .ok (.iconst 0, 1) := by decide +kernel
theorem dX0_signRisen_1 : decode cX0_signRisen 1 = .ok (.istore_n 3, 1) := by decide +kernel
theorem dX0_signRisen_2 : decode cX0_signRisen 2 = .ok (.iload_n 3, 1) := by decide +kernel
theorem dX0_signRisen_3 : decode cX0_signRisen 3 = .ok (.aload_n 0, 1) := by decide +kernel
theorem dX0_signRisen_4 : decode cX0_signRisen 4 = .ok (.getfield 9, 3) := by decide +kernel
theorem dX0_signRisen_7 : decode cX0_signRisen 7 = .ok (.if_icmp .ge 34, 3) := by decide +kernel
theorem dX0_signRisen_10 : decode cX0_signRisen 10 = .ok (.aload_n 0, 1) := by decide +kernel
theorem dX0_signRisen_11 : decode cX0_signRisen 11 = .ok (.getfield 19, 3) := by decide +kernel
theorem dX0_signRisen_14 : decode cX0_signRisen 14 = .ok (.iload_n 3, 1) := by decide +kernel
theorem dX0_signRisen_15 : decode cX0_signRisen 15 = .ok (.iaload, 1) := by decide +kernel
theorem dX0_signRisen_16 : decode cX0_signRisen 16 = .ok (.iload_n 1, 1) := by decide +kernel
theorem dX0_signRisen_17 : decode cX0_signRisen 17 = .ok (.if_icmp .ne 18, 3) := by decide +kernel
theorem dX0_signRisen_20 : decode cX0_signRisen 20 = .ok (.iload_n 2, 1) := by decide +kernel
theorem dX0_signRisen_21 : decode cX0_signRisen 21 = .ok (.iload_n 3, 1) := by decide +kernel
theorem dX0_signRisen_22 : decode cX0_signRisen 22 = .ok (.invokestatic 50, 3) := by decide +kernel
theorem dX0_signRisen_25 : decode cX0_signRisen 25 = .ok (.ifCond .eq 10, 3) := by decide +kernel
theorem dX0_signRisen_28 : decode cX0_signRisen 28 = .ok (.aload_n 0, 1) := by decide +kernel
theorem dX0_signRisen_29 : decode cX0_signRisen 29 = .ok (.getfield 22, 3) := by decide +kernel
theorem dX0_signRisen_32 : decode cX0_signRisen 32 = .ok (.iload_n 3, 1) := by decide +kernel
theorem dX0_signRisen_33 : decode cX0_signRisen 33 = .ok (.iaload, 1) := by decide +kernel
theorem dX0_signRisen_34 : decode cX0_signRisen 34 = .ok (.ireturn, 1) := by decide +kernel
theorem dX0_signRisen_35 : decode cX0_signRisen 35 = .ok (.iinc 3 1, 3) := by decide +kernel
theorem dX0_signRisen_38 : decode cX0_signRisen 38 = .ok (.goto (-36), 3) := by decide +kernel
theorem dX0_signRisen_41 : decode cX0_signRisen 41 = .ok (.bipush 6, 2) := by decide +kernel
theorem dX0_signRisen_43 : decode cX0_signRisen 43 = .ok (.ireturn, 1) := by decide +kernel
theorem dX0_linesOf_0 : decode cX0_linesOf 0 = .ok (.iconst 0, 1) := by decide +kernel
theorem dX0_linesOf_1 : decode cX0_linesOf 1 = .ok (.istore_n 2, 1) := by decide +kernel
theorem dX0_linesOf_2 : decode cX0_linesOf 2 = .ok (.iconst 0, 1) := by decide +kernel
theorem dX0_linesOf_3 : decode cX0_linesOf 3 = .ok (.istore_n 3, 1) := by decide +kernel
theorem dX0_linesOf_4 : decode cX0_linesOf 4 = .ok (.iload_n 3, 1) := by decide +kernel
theorem dX0_linesOf_5 : decode cX0_linesOf 5 = .ok (.aload_n 0, 1) := by decide +kernel
theorem dX0_linesOf_6 : decode cX0_linesOf 6 = .ok (.getfield 9, 3) := by decide +kernel
theorem dX0_linesOf_9 : decode cX0_linesOf 9 = .ok (.if_icmp .ge 31, 3) := by decide +kernel
theorem dX0_linesOf_12 : decode cX0_linesOf 12 = .ok (.iload_n 1, 1) := by decide +kernel
theorem dX0_linesOf_13 : decode cX0_linesOf 13 = .ok (.iload_n 3, 1) := by decide +kernel
theorem dX0_linesOf_14 : decode cX0_linesOf 14 = .ok (.invokestatic 50, 3) := by decide +kernel
theorem dX0_linesOf_17 : decode cX0_linesOf 17 = .ok (.ifCond .eq 17, 3) := by decide +kernel
theorem dX0_linesOf_20 : decode cX0_linesOf 20 = .ok (.iload_n 2, 1) := by decide +kernel
theorem dX0_linesOf_21 : decode cX0_linesOf 21 = .ok (.iconst 1, 1) := by decide +kernel
theorem dX0_linesOf_22 : decode cX0_linesOf 22 = .ok (.aload_n 0, 1) := by decide +kernel
theorem dX0_linesOf_23 : decode cX0_linesOf 23 = .ok (.getfield 19, 3) := by decide +kernel
theorem dX0_linesOf_26 : decode cX0_linesOf 26 = .ok (.iload_n 3, 1) := by decide +kernel
theorem dX0_linesOf_27 : decode cX0_linesOf 27 = .ok (.iaload, 1) := by decide +kernel
theorem dX0_linesOf_28 : decode cX0_linesOf 28 = .ok (.bipush 6, 2) := by decide +kernel
theorem dX0_linesOf_30 : decode cX0_linesOf 30 = .ok (.idiv, 1) := by decide +kernel
theorem dX0_linesOf_31 : decode cX0_linesOf 31 = .ok (.ishl, 1) := by decide +kernel
theorem dX0_linesOf_32 : decode cX0_linesOf 32 = .ok (.ior, 1) := by decide +kernel
theorem dX0_linesOf_33 : decode cX0_linesOf 33 = .ok (.istore_n 2, 1) := by decide +kernel
theorem dX0_linesOf_34 : decode cX0_linesOf 34 = .ok (.iinc 3 1, 3) := by decide +kernel
theorem dX0_linesOf_37 : decode cX0_linesOf 37 = .ok (.goto (-33), 3) := by decide +kernel
theorem dX0_linesOf_40 : decode cX0_linesOf 40 = .ok (.iload_n 2, 1) := by decide +kernel
theorem dX0_linesOf_41 : decode cX0_linesOf 41 = .ok (.ireturn, 1) := by decide +kernel
theorem dX0_deepestCell_0 : decode cX0_deepestCell 0 = .ok (.iconst (-1), 1) := by decide +kernel
theorem dX0_deepestCell_1 : decode cX0_deepestCell 1 = .ok (.istore_n 2, 1) := by decide +kernel
theorem dX0_deepestCell_2 : decode cX0_deepestCell 2 = .ok (.iconst 0, 1) := by decide +kernel
theorem dX0_deepestCell_3 : decode cX0_deepestCell 3 = .ok (.istore_n 3, 1) := by decide +kernel
theorem dX0_deepestCell_4 : decode cX0_deepestCell 4 = .ok (.iconst 0, 1) := by decide +kernel
theorem dX0_deepestCell_5 : decode cX0_deepestCell 5 = .ok (.istore 4, 2) := by decide +kernel
theorem dX0_deepestCell_7 : decode cX0_deepestCell 7 = .ok (.iload 4, 2) := by decide +kernel
theorem dX0_deepestCell_9 : decode cX0_deepestCell 9 = .ok (.aload_n 0, 1) := by decide +kernel
theorem dX0_deepestCell_10 : decode cX0_deepestCell 10 = .ok (.getfield 9, 3) := by decide +kernel
theorem dX0_deepestCell_13 : decode cX0_deepestCell 13 = .ok (.if_icmp .ge 66, 3) := by decide +kernel
theorem dX0_deepestCell_16 : decode cX0_deepestCell 16 = .ok (.iload_n 1, 1) := by decide +kernel
theorem dX0_deepestCell_17 : decode cX0_deepestCell 17 = .ok (.iload 4, 2) := by decide +kernel
theorem dX0_deepestCell_19 : decode cX0_deepestCell 19 = .ok (.invokestatic 50, 3) := by decide +kernel
theorem dX0_deepestCell_22 : decode cX0_deepestCell 22 = .ok (.ifCond .eq 51, 3) := by decide +kernel
theorem dX0_deepestCell_25 : decode cX0_deepestCell 25 = .ok (.iload_n 1, 1) := by decide +kernel
theorem dX0_deepestCell_26 : decode cX0_deepestCell 26 = .ok (.aload_n 0, 1) := by decide +kernel
theorem dX0_deepestCell_27 : decode cX0_deepestCell 27 = .ok (.getfield 28, 3) := by decide +kernel
theorem dX0_deepestCell_30 : decode cX0_deepestCell 30 = .ok (.iload 4, 2) := by decide +kernel
theorem dX0_deepestCell_32 : decode cX0_deepestCell 32 = .ok (.iaload, 1) := by decide +kernel
theorem dX0_deepestCell_33 : decode cX0_deepestCell 33 = .ok (.iand, 1) := by decide +kernel
theorem dX0_deepestCell_34 : decode cX0_deepestCell 34 = .ok (.invokestatic 91, 3) := by decide +kernel
theorem dX0_deepestCell_37 : decode cX0_deepestCell 37 = .ok (.istore 5, 2) := by decide +kernel
theorem dX0_deepestCell_39 : decode cX0_deepestCell 39 = .ok (.iload 5, 2) := by decide +kernel
theorem dX0_deepestCell_41 : decode cX0_deepestCell 41 = .ok (.iload_n 3, 1) := by decide +kernel
theorem dX0_deepestCell_42 : decode cX0_deepestCell 42 = .ok (.if_icmp .gt 20, 3) := by decide +kernel
theorem dX0_deepestCell_45 : decode cX0_deepestCell 45 = .ok (.iload 5, 2) := by decide +kernel
theorem dX0_deepestCell_47 : decode cX0_deepestCell 47 = .ok (.iload_n 3, 1) := by decide +kernel
theorem dX0_deepestCell_48 : decode cX0_deepestCell 48 = .ok (.if_icmp .ne 25, 3) := by decide +kernel
theorem dX0_deepestCell_51 : decode cX0_deepestCell 51 = .ok (.aload_n 0, 1) := by decide +kernel
theorem dX0_deepestCell_52 : decode cX0_deepestCell 52 = .ok (.getfield 19, 3) := by decide +kernel
theorem dX0_deepestCell_55 : decode cX0_deepestCell 55 = .ok (.iload 4, 2) := by decide +kernel
theorem dX0_deepestCell_57 : decode cX0_deepestCell 57 = .ok (.iaload, 1) := by decide +kernel
theorem dX0_deepestCell_58 : decode cX0_deepestCell 58 = .ok (.iload_n 2, 1) := by decide +kernel
theorem dX0_deepestCell_59 : decode cX0_deepestCell 59 = .ok (.if_icmp .ge 14, 3) := by decide +kernel
theorem dX0_deepestCell_62 : decode cX0_deepestCell 62 = .ok (.aload_n 0, 1) := by decide +kernel
theorem dX0_deepestCell_63 : decode cX0_deepestCell 63 = .ok (.getfield 19, 3) := by decide +kernel
theorem dX0_deepestCell_66 : decode cX0_deepestCell 66 = .ok (.iload 4, 2) := by decide +kernel
theorem dX0_deepestCell_68 : decode cX0_deepestCell 68 = .ok (.iaload, 1) := by decide +kernel
theorem dX0_deepestCell_69 : decode cX0_deepestCell 69 = .ok (.istore_n 2, 1) := by decide +kernel
theorem dX0_deepestCell_70 : decode cX0_deepestCell 70 = .ok (.iload 5, 2) := by decide +kernel
theorem dX0_deepestCell_72 : decode cX0_deepestCell 72 = .ok (.istore_n 3, 1) := by decide +kernel
theorem dX0_deepestCell_73 : decode cX0_deepestCell 73 = .ok (.iinc 4 1, 3) := by decide +kernel
theorem dX0_deepestCell_76 : decode cX0_deepestCell 76 = .ok (.goto (-69), 3) := by decide +kernel
theorem dX0_deepestCell_79 : decode cX0_deepestCell 79 = .ok (.iload_n 2, 1) := by decide +kernel
theorem dX0_deepestCell_80 : decode cX0_deepestCell 80 = .ok (.ireturn, 1) := by decide +kernel
theorem dX1_init_0 : decode cX1_init 0 = .ok (.aload_n 0, 1) := by decide +kernel
theorem dX1_init_1 : decode cX1_init 1 = .ok (.invokespecial 3, 3) := by decide +kernel
theorem dX1_init_4 : decode cX1_init 4 = .ok (.aload_n 0, 1) := by decide +kernel
theorem dX1_init_5 : decode cX1_init 5 = .ok (.bipush 8, 2) := by decide +kernel
theorem dX1_init_7 : decode cX1_init 7 = .ok (.newarray .int, 2) := by decide +kernel
theorem dX1_init_9 : decode cX1_init 9 = .ok (.putfield 9, 3) := by decide +kernel
theorem dX1_init_12 : decode cX1_init 12 = .ok (.aload_n 0, 1) := by decide +kernel
theorem dX1_init_13 : decode cX1_init 13 = .ok (.bipush 8, 2) := by decide +kernel
theorem dX1_init_15 : decode cX1_init 15 = .ok (.newarray .int, 2) := by decide +kernel
theorem dX1_init_17 : decode cX1_init 17 = .ok (.putfield 15, 3) := by decide +kernel
theorem dX1_init_20 : decode cX1_init 20 = .ok (.aload_n 0, 1) := by decide +kernel
theorem dX1_init_21 : decode cX1_init 21 = .ok (.iconst 4, 1) := by decide +kernel
theorem dX1_init_22 : decode cX1_init 22 = .ok (.newarray .int, 2) := by decide +kernel
theorem dX1_init_24 : decode cX1_init 24 = .ok (.putfield 18, 3) := by decide +kernel
theorem dX1_init_27 : decode cX1_init 27 = .ok (.aload_n 0, 1) := by decide +kernel
theorem dX1_init_28 : decode cX1_init 28 = .ok (.iconst 4, 1) := by decide +kernel
theorem dX1_init_29 : decode cX1_init 29 = .ok (.newarray .int, 2) := by decide +kernel
theorem dX1_init_31 : decode cX1_init 31 = .ok (.putfield 21, 3) := by decide +kernel
theorem dX1_init_34 : decode cX1_init 34 = .ok (.aload_n 0, 1) := by decide +kernel
theorem dX1_init_35 : decode cX1_init 35 = .ok (.iconst 0, 1) := by decide +kernel
theorem dX1_init_36 : decode cX1_init 36 = .ok (.putfield 24, 3) := by decide +kernel
theorem dX1_init_39 : decode cX1_init 39 = .ok (.aload_n 0, 1) := by decide +kernel
theorem dX1_init_40 : decode cX1_init 40 = .ok (.iconst 0, 1) := by decide +kernel
theorem dX1_init_41 : decode cX1_init 41 = .ok (.putfield 28, 3) := by decide +kernel
theorem dX1_init_44 : decode cX1_init 44 = .ok (.return_, 1) := by decide +kernel
theorem dX1_addWipe_0 : decode cX1_addWipe 0 = .ok (.aload_n 0, 1) := by decide +kernel
theorem dX1_addWipe_1 : decode cX1_addWipe 1 = .ok (.getfield 24, 3) := by decide +kernel
theorem dX1_addWipe_4 : decode cX1_addWipe 4 = .ok (.bipush 8, 2) := by decide +kernel
theorem dX1_addWipe_6 : decode cX1_addWipe 6 = .ok (.if_icmp .lt 5, 3) := by decide +kernel
theorem dX1_addWipe_9 : decode cX1_addWipe 9 = .ok (.iconst 0, 1) := by decide +kernel
theorem dX1_addWipe_10 : decode cX1_addWipe 10 = .ok (.ireturn, 1) := by decide +kernel
theorem dX1_addWipe_11 : decode cX1_addWipe 11 = .ok (.aload_n 0, 1) := by decide +kernel
theorem dX1_addWipe_12 : decode cX1_addWipe 12 = .ok (.getfield 9, 3) := by decide +kernel
theorem dX1_addWipe_15 : decode cX1_addWipe 15 = .ok (.aload_n 0, 1) := by decide +kernel
theorem dX1_addWipe_16 : decode cX1_addWipe 16 = .ok (.getfield 24, 3) := by decide +kernel
theorem dX1_addWipe_19 : decode cX1_addWipe 19 = .ok (.iload_n 1, 1) := by decide +kernel
theorem dX1_addWipe_20 : decode cX1_addWipe 20 = .ok (.iastore, 1) := by decide +kernel
theorem dX1_addWipe_21 : decode cX1_addWipe 21 = .ok (.aload_n 0, 1) := by decide +kernel
theorem dX1_addWipe_22 : decode cX1_addWipe 22 = .ok (.getfield 15, 3) := by decide +kernel
theorem dX1_addWipe_25 : decode cX1_addWipe 25 = .ok (.aload_n 0, 1) := by decide +kernel
theorem dX1_addWipe_26 : decode cX1_addWipe 26 = .ok (.getfield 24, 3) := by decide +kernel
theorem dX1_addWipe_29 : decode cX1_addWipe 29 = .ok (.iload_n 2, 1) := by decide +kernel
theorem dX1_addWipe_30 : decode cX1_addWipe 30 = .ok (.iastore, 1) := by decide +kernel
theorem dX1_addWipe_31 : decode cX1_addWipe 31 = .ok (.aload_n 0, 1) := by decide +kernel
theorem dX1_addWipe_32 : decode cX1_addWipe 32 = .ok (.dup, 1) := by decide +kernel
theorem dX1_addWipe_33 : decode cX1_addWipe 33 = .ok (.getfield 24, 3) := by decide +kernel
theorem dX1_addWipe_36 : decode cX1_addWipe 36 = .ok (.iconst 1, 1) := by decide +kernel
theorem dX1_addWipe_37 : decode cX1_addWipe 37 = .ok (.iadd, 1) := by decide +kernel
theorem dX1_addWipe_38 : decode cX1_addWipe 38 = .ok (.putfield 24, 3) := by decide +kernel
theorem dX1_addWipe_41 : decode cX1_addWipe 41 = .ok (.iconst 1, 1) := by decide +kernel
theorem dX1_addWipe_42 : decode cX1_addWipe 42 = .ok (.ireturn, 1) := by decide +kernel
theorem dX1_addOil_0 : decode cX1_addOil 0 = .ok (.aload_n 0, 1) := by decide +kernel
theorem dX1_addOil_1 : decode cX1_addOil 1 = .ok (.getfield 28, 3) := by decide +kernel
theorem dX1_addOil_4 : decode cX1_addOil 4 = .ok (.iconst 4, 1) := by decide +kernel
theorem dX1_addOil_5 : decode cX1_addOil 5 = .ok (.if_icmp .lt 5, 3) := by decide +kernel
theorem dX1_addOil_8 : decode cX1_addOil 8 = .ok (.iconst 0, 1) := by decide +kernel
theorem dX1_addOil_9 : decode cX1_addOil 9 = .ok (.ireturn, 1) := by decide +kernel
theorem dX1_addOil_10 : decode cX1_addOil 10 = .ok (.aload_n 0, 1) := by decide +kernel
theorem dX1_addOil_11 : decode cX1_addOil 11 = .ok (.getfield 18, 3) := by decide +kernel
theorem dX1_addOil_14 : decode cX1_addOil 14 = .ok (.aload_n 0, 1) := by decide +kernel
theorem dX1_addOil_15 : decode cX1_addOil 15 = .ok (.getfield 28, 3) := by decide +kernel
theorem dX1_addOil_18 : decode cX1_addOil 18 = .ok (.iload_n 1, 1) := by decide +kernel
theorem dX1_addOil_19 : decode cX1_addOil 19 = .ok (.iastore, 1) := by decide +kernel
theorem dX1_addOil_20 : decode cX1_addOil 20 = .ok (.aload_n 0, 1) := by decide +kernel
theorem dX1_addOil_21 : decode cX1_addOil 21 = .ok (.getfield 21, 3) := by decide +kernel
theorem dX1_addOil_24 : decode cX1_addOil 24 = .ok (.aload_n 0, 1) := by decide +kernel
theorem dX1_addOil_25 : decode cX1_addOil 25 = .ok (.getfield 28, 3) := by decide +kernel
theorem dX1_addOil_28 : decode cX1_addOil 28 = .ok (.iload_n 2, 1) := by decide +kernel
theorem dX1_addOil_29 : decode cX1_addOil 29 = .ok (.iastore, 1) := by decide +kernel
theorem dX1_addOil_30 : decode cX1_addOil 30 = .ok (.aload_n 0, 1) := by decide +kernel
theorem dX1_addOil_31 : decode cX1_addOil 31 = .ok (.dup, 1) := by decide +kernel
theorem dX1_addOil_32 : decode cX1_addOil 32 = .ok (.getfield 28, 3) := by decide +kernel
theorem dX1_addOil_35 : decode cX1_addOil 35 = .ok (.iconst 1, 1) := by decide +kernel
theorem dX1_addOil_36 : decode cX1_addOil 36 = .ok (.iadd, 1) := by decide +kernel
theorem dX1_addOil_37 : decode cX1_addOil 37 = .ok (.putfield 28, 3) := by decide +kernel
theorem dX1_addOil_40 : decode cX1_addOil 40 = .ok (.iconst 1, 1) := by decide +kernel
theorem dX1_addOil_41 : decode cX1_addOil 41 = .ok (.ireturn, 1) := by decide +kernel
theorem dX1_wipedBehind_0 : decode cX1_wipedBehind 0 = .ok (.bipush 20, 2) := by decide +kernel
theorem dX1_wipedBehind_2 : decode cX1_wipedBehind 2 = .ok (.istore_n 3, 1) := by decide +kernel
theorem dX1_wipedBehind_3 : decode cX1_wipedBehind 3 = .ok (.iconst 0, 1) := by decide +kernel
theorem dX1_wipedBehind_4 : decode cX1_wipedBehind 4 = .ok (.istore 4, 2) := by decide +kernel
theorem dX1_wipedBehind_6 : decode cX1_wipedBehind 6 = .ok (.iload 4, 2) := by decide +kernel
theorem dX1_wipedBehind_8 : decode cX1_wipedBehind 8 = .ok (.aload_n 0, 1) := by decide +kernel
theorem dX1_wipedBehind_9 : decode cX1_wipedBehind 9 = .ok (.getfield 24, 3) := by decide +kernel
theorem dX1_wipedBehind_12 : decode cX1_wipedBehind 12 = .ok (.if_icmp .ge 50, 3) := by decide +kernel
theorem dX1_wipedBehind_15 : decode cX1_wipedBehind 15 = .ok (.aload_n 0, 1) := by decide +kernel
theorem dX1_wipedBehind_16 : decode cX1_wipedBehind 16 = .ok (.getfield 15, 3) := by decide +kernel
theorem dX1_wipedBehind_19 : decode cX1_wipedBehind 19 = .ok (.iload 4, 2) := by decide +kernel
theorem dX1_wipedBehind_21 : decode cX1_wipedBehind 21 = .ok (.iaload, 1) := by decide +kernel
theorem dX1_wipedBehind_22 : decode cX1_wipedBehind 22 = .ok (.iload_n 2, 1) := by decide +kernel
theorem dX1_wipedBehind_23 : decode cX1_wipedBehind 23 = .ok (.if_icmp .ne 33, 3) := by decide +kernel
theorem dX1_wipedBehind_26 : decode cX1_wipedBehind 26 = .ok (.aload_n 0, 1) := by decide +kernel
theorem dX1_wipedBehind_27 : decode cX1_wipedBehind 27 = .ok (.getfield 9, 3) := by decide +kernel
theorem dX1_wipedBehind_30 : decode cX1_wipedBehind 30 = .ok (.iload 4, 2) := by decide +kernel
theorem dX1_wipedBehind_32 : decode cX1_wipedBehind 32 = .ok (.iaload, 1) := by decide +kernel
theorem dX1_wipedBehind_33 : decode cX1_wipedBehind 33 = .ok (.iload_n 1, 1) := by decide +kernel
theorem dX1_wipedBehind_34 : decode cX1_wipedBehind 34 = .ok (.if_icmp .le 22, 3) := by decide +kernel
theorem dX1_wipedBehind_37 : decode cX1_wipedBehind 37 = .ok (.aload_n 0, 1) := by decide +kernel
theorem dX1_wipedBehind_38 : decode cX1_wipedBehind 38 = .ok (.getfield 9, 3) := by decide +kernel
theorem dX1_wipedBehind_41 : decode cX1_wipedBehind 41 = .ok (.iload 4, 2) := by decide +kernel
theorem dX1_wipedBehind_43 : decode cX1_wipedBehind 43 = .ok (.iaload, 1) := by decide +kernel
theorem dX1_wipedBehind_44 : decode cX1_wipedBehind 44 = .ok (.iload_n 3, 1) := by decide +kernel
theorem dX1_wipedBehind_45 : decode cX1_wipedBehind 45 = .ok (.if_icmp .ge 11, 3) := by decide +kernel
theorem dX1_wipedBehind_48 : decode cX1_wipedBehind 48 = .ok (.aload_n 0, 1) := by decide +kernel
theorem dX1_wipedBehind_49 : decode cX1_wipedBehind 49 = .ok (.getfield 9, 3) := by decide +kernel
theorem dX1_wipedBehind_52 : decode cX1_wipedBehind 52 = .ok (.iload 4, 2) := by decide +kernel
theorem dX1_wipedBehind_54 : decode cX1_wipedBehind 54 = .ok (.iaload, 1) := by decide +kernel
theorem dX1_wipedBehind_55 : decode cX1_wipedBehind 55 = .ok (.istore_n 3, 1) := by decide +kernel
theorem dX1_wipedBehind_56 : decode cX1_wipedBehind 56 = .ok (.iinc 4 1, 3) := by decide +kernel
theorem dX1_wipedBehind_59 : decode cX1_wipedBehind 59 = .ok (.goto (-53), 3) := by decide +kernel
theorem dX1_wipedBehind_62 : decode cX1_wipedBehind 62 = .ok (.iload_n 3, 1) := by decide +kernel
theorem dX1_wipedBehind_63 : decode cX1_wipedBehind 63 = .ok (.ireturn, 1) := by decide +kernel
theorem dX1_oiledFrom_0 : decode cX1_oiledFrom 0 = .ok (.bipush 20, 2) := by decide +kernel
theorem dX1_oiledFrom_2 : decode cX1_oiledFrom 2 = .ok (.istore_n 2, 1) := by decide +kernel
theorem dX1_oiledFrom_3 : decode cX1_oiledFrom 3 = .ok (.iconst 0, 1) := by decide +kernel
theorem dX1_oiledFrom_4 : decode cX1_oiledFrom 4 = .ok (.istore_n 3, 1) := by decide +kernel
theorem dX1_oiledFrom_5 : decode cX1_oiledFrom 5 = .ok (.iload_n 3, 1) := by decide +kernel
theorem dX1_oiledFrom_6 : decode cX1_oiledFrom 6 = .ok (.aload_n 0, 1) := by decide +kernel
theorem dX1_oiledFrom_7 : decode cX1_oiledFrom 7 = .ok (.getfield 28, 3) := by decide +kernel
theorem dX1_oiledFrom_10 : decode cX1_oiledFrom 10 = .ok (.if_icmp .ge 36, 3) := by decide +kernel
theorem dX1_oiledFrom_13 : decode cX1_oiledFrom 13 = .ok (.aload_n 0, 1) := by decide +kernel
theorem dX1_oiledFrom_14 : decode cX1_oiledFrom 14 = .ok (.getfield 21, 3) := by decide +kernel
theorem dX1_oiledFrom_17 : decode cX1_oiledFrom 17 = .ok (.iload_n 3, 1) := by decide +kernel
theorem dX1_oiledFrom_18 : decode cX1_oiledFrom 18 = .ok (.iaload, 1) := by decide +kernel
theorem dX1_oiledFrom_19 : decode cX1_oiledFrom 19 = .ok (.iload_n 1, 1) := by decide +kernel
theorem dX1_oiledFrom_20 : decode cX1_oiledFrom 20 = .ok (.if_icmp .ne 20, 3) := by decide +kernel
theorem dX1_oiledFrom_23 : decode cX1_oiledFrom 23 = .ok (.aload_n 0, 1) := by decide +kernel
theorem dX1_oiledFrom_24 : decode cX1_oiledFrom 24 = .ok (.getfield 18, 3) := by decide +kernel
theorem dX1_oiledFrom_27 : decode cX1_oiledFrom 27 = .ok (.iload_n 3, 1) := by decide +kernel
theorem dX1_oiledFrom_28 : decode cX1_oiledFrom 28 = .ok (.iaload, 1) := by decide +kernel
theorem dX1_oiledFrom_29 : decode cX1_oiledFrom 29 = .ok (.iload_n 2, 1) := by decide +kernel
theorem dX1_oiledFrom_30 : decode cX1_oiledFrom 30 = .ok (.if_icmp .ge 10, 3) := by decide +kernel
theorem dX1_oiledFrom_33 : decode cX1_oiledFrom 33 = .ok (.aload_n 0, 1) := by decide +kernel
theorem dX1_oiledFrom_34 : decode cX1_oiledFrom 34 = .ok (.getfield 18, 3) := by decide +kernel
theorem dX1_oiledFrom_37 : decode cX1_oiledFrom 37 = .ok (.iload_n 3, 1) := by decide +kernel
theorem dX1_oiledFrom_38 : decode cX1_oiledFrom 38 = .ok (.iaload, 1) := by decide +kernel
theorem dX1_oiledFrom_39 : decode cX1_oiledFrom 39 = .ok (.istore_n 2, 1) := by decide +kernel
theorem dX1_oiledFrom_40 : decode cX1_oiledFrom 40 = .ok (.iinc 3 1, 3) := by decide +kernel
theorem dX1_oiledFrom_43 : decode cX1_oiledFrom 43 = .ok (.goto (-38), 3) := by decide +kernel
theorem dX1_oiledFrom_46 : decode cX1_oiledFrom 46 = .ok (.iload_n 2, 1) := by decide +kernel
theorem dX1_oiledFrom_47 : decode cX1_oiledFrom 47 = .ok (.ireturn, 1) := by decide +kernel
theorem dX2_init_0 : decode cX2_init 0 = .ok (.aload_n 0, 1) := by decide +kernel
theorem dX2_init_1 : decode cX2_init 1 = .ok (.invokespecial 1, 3) := by decide +kernel
theorem dX2_init_4 : decode cX2_init 4 = .ok (.aload_n 0, 1) := by decide +kernel
theorem dX2_init_5 : decode cX2_init 5 = .ok (.iconst 0, 1) := by decide +kernel
theorem dX2_init_6 : decode cX2_init 6 = .ok (.putfield 7, 3) := by decide +kernel
theorem dX2_init_9 : decode cX2_init 9 = .ok (.aload_n 0, 1) := by decide +kernel
theorem dX2_init_10 : decode cX2_init 10 = .ok (.iconst 0, 1) := by decide +kernel
theorem dX2_init_11 : decode cX2_init 11 = .ok (.putfield 13, 3) := by decide +kernel
theorem dX2_init_14 : decode cX2_init 14 = .ok (.aload_n 0, 1) := by decide +kernel
theorem dX2_init_15 : decode cX2_init 15 = .ok (.iconst 0, 1) := by decide +kernel
theorem dX2_init_16 : decode cX2_init 16 = .ok (.putfield 16, 3) := by decide +kernel
theorem dX2_init_19 : decode cX2_init 19 = .ok (.aload_n 0, 1) := by decide +kernel
theorem dX2_init_20 : decode cX2_init 20 = .ok (.iconst 0, 1) := by decide +kernel
theorem dX2_init_21 : decode cX2_init 21 = .ok (.putfield 19, 3) := by decide +kernel
theorem dX2_init_24 : decode cX2_init 24 = .ok (.aload_n 0, 1) := by decide +kernel
theorem dX2_init_25 : decode cX2_init 25 = .ok (.lconst 0, 1) := by decide +kernel
theorem dX2_init_26 : decode cX2_init 26 = .ok (.putfield 22, 3) := by decide +kernel
theorem dX2_init_29 : decode cX2_init 29 = .ok (.aload_n 0, 1) := by decide +kernel
theorem dX2_init_30 : decode cX2_init 30 = .ok (.lconst 1, 1) := by decide +kernel
theorem dX2_init_31 : decode cX2_init 31 = .ok (.putfield 26, 3) := by decide +kernel
theorem dX2_init_34 : decode cX2_init 34 = .ok (.return_, 1) := by decide +kernel
theorem dX2_reduce_0 : decode cX2_reduce 0 = .ok (.lload_n 1, 1) := by decide +kernel
theorem dX2_reduce_1 : decode cX2_reduce 1 = .ok (.lstore 4, 2) := by decide +kernel
theorem dX2_reduce_3 : decode cX2_reduce 3 = .ok (.iconst 0, 1) := by decide +kernel
theorem dX2_reduce_4 : decode cX2_reduce 4 = .ok (.istore 6, 2) := by decide +kernel
theorem dX2_reduce_6 : decode cX2_reduce 6 = .ok (.iload 6, 2) := by decide +kernel
theorem dX2_reduce_8 : decode cX2_reduce 8 = .ok (.iload_n 3, 1) := by decide +kernel
theorem dX2_reduce_9 : decode cX2_reduce 9 = .ok (.if_icmp .ge 24, 3) := by decide +kernel
theorem dX2_reduce_12 : decode cX2_reduce 12 = .ok (.lload 4, 2) := by decide +kernel
theorem dX2_reduce_14 : decode cX2_reduce 14 = .ok (.lconst 1, 1) := by decide +kernel
theorem dX2_reduce_15 : decode cX2_reduce 15 = .ok (.land, 1) := by decide +kernel
theorem dX2_reduce_16 : decode cX2_reduce 16 = .ok (.lconst 0, 1) := by decide +kernel
theorem dX2_reduce_17 : decode cX2_reduce 17 = .ok (.lcmp, 1) := by decide +kernel
theorem dX2_reduce_18 : decode cX2_reduce 18 = .ok (.ifCond .ne 15, 3) := by decide +kernel
theorem dX2_reduce_21 : decode cX2_reduce 21 = .ok (.lload 4, 2) := by decide +kernel
theorem dX2_reduce_23 : decode cX2_reduce 23 = .ok (.iconst 1, 1) := by decide +kernel
theorem dX2_reduce_24 : decode cX2_reduce 24 = .ok (.lshr, 1) := by decide +kernel
theorem dX2_reduce_25 : decode cX2_reduce 25 = .ok (.lstore 4, 2) := by decide +kernel
theorem dX2_reduce_27 : decode cX2_reduce 27 = .ok (.iinc 6 1, 3) := by decide +kernel
theorem dX2_reduce_30 : decode cX2_reduce 30 = .ok (.goto (-24), 3) := by decide +kernel
theorem dX2_reduce_33 : decode cX2_reduce 33 = .ok (.aload_n 0, 1) := by decide +kernel
theorem dX2_reduce_34 : decode cX2_reduce 34 = .ok (.lload 4, 2) := by decide +kernel
theorem dX2_reduce_36 : decode cX2_reduce 36 = .ok (.putfield 22, 3) := by decide +kernel
theorem dX2_reduce_39 : decode cX2_reduce 39 = .ok (.aload_n 0, 1) := by decide +kernel
theorem dX2_reduce_40 : decode cX2_reduce 40 = .ok (.lconst 1, 1) := by decide +kernel
theorem dX2_reduce_41 : decode cX2_reduce 41 = .ok (.iload_n 3, 1) := by decide +kernel
theorem dX2_reduce_42 : decode cX2_reduce 42 = .ok (.iload 6, 2) := by decide +kernel
theorem dX2_reduce_44 : decode cX2_reduce 44 = .ok (.isub, 1) := by decide +kernel
theorem dX2_reduce_45 : decode cX2_reduce 45 = .ok (.lshl, 1) := by decide +kernel
theorem dX2_reduce_46 : decode cX2_reduce 46 = .ok (.putfield 26, 3) := by decide +kernel
theorem dX2_reduce_49 : decode cX2_reduce 49 = .ok (.return_, 1) := by decide +kernel
theorem dX3_init_0 : decode cX3_init 0 = .ok (.aload_n 0, 1) := by decide +kernel
theorem dX3_init_1 : decode cX3_init 1 = .ok (.invokespecial 3, 3) := by decide +kernel
theorem dX3_init_4 : decode cX3_init 4 = .ok (.aload_n 0, 1) := by decide +kernel
theorem dX3_init_5 : decode cX3_init 5 = .ok (.bipush 20, 2) := by decide +kernel
theorem dX3_init_7 : decode cX3_init 7 = .ok (.newarray .int, 2) := by decide +kernel
theorem dX3_init_9 : decode cX3_init 9 = .ok (.putfield 9, 3) := by decide +kernel
theorem dX3_init_12 : decode cX3_init 12 = .ok (.aload_n 0, 1) := by decide +kernel
theorem dX3_init_13 : decode cX3_init 13 = .ok (.bipush 20, 2) := by decide +kernel
theorem dX3_init_15 : decode cX3_init 15 = .ok (.newarray .int, 2) := by decide +kernel
theorem dX3_init_17 : decode cX3_init 17 = .ok (.putfield 15, 3) := by decide +kernel
theorem dX3_init_20 : decode cX3_init 20 = .ok (.return_, 1) := by decide +kernel
theorem dX3_follow_0 : decode cX3_follow 0 = .ok (.aload_n 1, 1) := by decide +kernel
theorem dX3_follow_1 : decode cX3_follow 1 = .ok (.invokevirtual 18, 3) := by decide +kernel
theorem dX3_follow_4 : decode cX3_follow 4 = .ok (.istore 4, 2) := by decide +kernel
theorem dX3_follow_6 : decode cX3_follow 6 = .ok (.iconst 0, 1) := by decide +kernel
theorem dX3_follow_7 : decode cX3_follow 7 = .ok (.istore 5, 2) := by decide +kernel
theorem dX3_follow_9 : decode cX3_follow 9 = .ok (.iload 5, 2) := by decide +kernel
theorem dX3_follow_11 : decode cX3_follow 11 = .ok (.bipush 20, 2) := by decide +kernel
theorem dX3_follow_13 : decode cX3_follow 13 = .ok (.if_icmp .ge 74, 3) := by decide +kernel
theorem dX3_follow_16 : decode cX3_follow 16 = .ok (.iload 5, 2) := by decide +kernel
theorem dX3_follow_18 : decode cX3_follow 18 = .ok (.aload_n 2, 1) := by decide +kernel
theorem dX3_follow_19 : decode cX3_follow 19 = .ok (.arraylength, 1) := by decide +kernel
theorem dX3_follow_20 : decode cX3_follow 20 = .ok (.if_icmp .ge 67, 3) := by decide +kernel
theorem dX3_follow_23 : decode cX3_follow 23 = .ok (.aload_n 0, 1) := by decide +kernel
theorem dX3_follow_24 : decode cX3_follow 24 = .ok (.getfield 9, 3) := by decide +kernel
theorem dX3_follow_27 : decode cX3_follow 27 = .ok (.iload 5, 2) := by decide +kernel
theorem dX3_follow_29 : decode cX3_follow 29 = .ok (.aload_n 1, 1) := by decide +kernel
theorem dX3_follow_30 : decode cX3_follow 30 = .ok (.iload 5, 2) := by decide +kernel
theorem dX3_follow_32 : decode cX3_follow 32 = .ok (.aload_n 2, 1) := by decide +kernel
theorem dX3_follow_33 : decode cX3_follow 33 = .ok (.iload 5, 2) := by decide +kernel
theorem dX3_follow_35 : decode cX3_follow 35 = .ok (.iaload, 1) := by decide +kernel
theorem dX3_follow_36 : decode cX3_follow 36 = .ok (.iload 4, 2) := by decide +kernel
theorem dX3_follow_38 : decode cX3_follow 38 = .ok (.invokevirtual 24, 3) := by decide +kernel
theorem dX3_follow_41 : decode cX3_follow 41 = .ok (.iastore, 1) := by decide +kernel
theorem dX3_follow_42 : decode cX3_follow 42 = .ok (.aload_n 1, 1) := by decide +kernel
theorem dX3_follow_43 : decode cX3_follow 43 = .ok (.iload 5, 2) := by decide +kernel
theorem dX3_follow_45 : decode cX3_follow 45 = .ok (.aload_n 0, 1) := by decide +kernel
theorem dX3_follow_46 : decode cX3_follow 46 = .ok (.getfield 9, 3) := by decide +kernel
theorem dX3_follow_49 : decode cX3_follow 49 = .ok (.iload 5, 2) := by decide +kernel
theorem dX3_follow_51 : decode cX3_follow 51 = .ok (.iaload, 1) := by decide +kernel
theorem dX3_follow_52 : decode cX3_follow 52 = .ok (.iload 4, 2) := by decide +kernel
theorem dX3_follow_54 : decode cX3_follow 54 = .ok (.aload_n 2, 1) := by decide +kernel
theorem dX3_follow_55 : decode cX3_follow 55 = .ok (.iload 5, 2) := by decide +kernel
theorem dX3_follow_57 : decode cX3_follow 57 = .ok (.iaload, 1) := by decide +kernel
theorem dX3_follow_58 : decode cX3_follow 58 = .ok (.iload_n 3, 1) := by decide +kernel
theorem dX3_follow_59 : decode cX3_follow 59 = .ok (.if_icmp .ge 7, 3) := by decide +kernel
theorem dX3_follow_62 : decode cX3_follow 62 = .ok (.iconst 1, 1) := by decide +kernel
theorem dX3_follow_63 : decode cX3_follow 63 = .ok (.goto 4, 3) := by decide +kernel
theorem dX3_follow_66 : decode cX3_follow 66 = .ok (.iconst 0, 1) := by decide +kernel
theorem dX3_follow_67 : decode cX3_follow 67 = .ok (.invokevirtual 28, 3) := by decide +kernel
theorem dX3_follow_70 : decode cX3_follow 70 = .ok (.istore 4, 2) := by decide +kernel
theorem dX3_follow_72 : decode cX3_follow 72 = .ok (.aload_n 0, 1) := by decide +kernel
theorem dX3_follow_73 : decode cX3_follow 73 = .ok (.getfield 15, 3) := by decide +kernel
theorem dX3_follow_76 : decode cX3_follow 76 = .ok (.iload 5, 2) := by decide +kernel
theorem dX3_follow_78 : decode cX3_follow 78 = .ok (.iload 4, 2) := by decide +kernel
theorem dX3_follow_80 : decode cX3_follow 80 = .ok (.iastore, 1) := by decide +kernel
theorem dX3_follow_81 : decode cX3_follow 81 = .ok (.iinc 5 1, 3) := by decide +kernel
theorem dX3_follow_84 : decode cX3_follow 84 = .ok (.goto (-75), 3) := by decide +kernel
theorem dX3_follow_87 : decode cX3_follow 87 = .ok (.return_, 1) := by decide +kernel
theorem dX3_upsOf_0 : decode cX3_upsOf 0 = .ok (.iconst 0, 1) := by decide +kernel
theorem dX3_upsOf_1 : decode cX3_upsOf 1 = .ok (.istore_n 2, 1) := by decide +kernel
theorem dX3_upsOf_2 : decode cX3_upsOf 2 = .ok (.iconst 0, 1) := by decide +kernel
theorem dX3_upsOf_3 : decode cX3_upsOf 3 = .ok (.istore_n 3, 1) := by decide +kernel
theorem dX3_upsOf_4 : decode cX3_upsOf 4 = .ok (.iload_n 3, 1) := by decide +kernel
theorem dX3_upsOf_5 : decode cX3_upsOf 5 = .ok (.bipush 20, 2) := by decide +kernel
theorem dX3_upsOf_7 : decode cX3_upsOf 7 = .ok (.if_icmp .ge 23, 3) := by decide +kernel
theorem dX3_upsOf_10 : decode cX3_upsOf 10 = .ok (.iload_n 2, 1) := by decide +kernel
theorem dX3_upsOf_11 : decode cX3_upsOf 11 = .ok (.aload_n 0, 1) := by decide +kernel
theorem dX3_upsOf_12 : decode cX3_upsOf 12 = .ok (.getfield 9, 3) := by decide +kernel
theorem dX3_upsOf_15 : decode cX3_upsOf 15 = .ok (.iload_n 3, 1) := by decide +kernel
theorem dX3_upsOf_16 : decode cX3_upsOf 16 = .ok (.iaload, 1) := by decide +kernel
theorem dX3_upsOf_17 : decode cX3_upsOf 17 = .ok (.iload_n 1, 1) := by decide +kernel
theorem dX3_upsOf_18 : decode cX3_upsOf 18 = .ok (.iand, 1) := by decide +kernel
theorem dX3_upsOf_19 : decode cX3_upsOf 19 = .ok (.invokestatic 32, 3) := by decide +kernel
theorem dX3_upsOf_22 : decode cX3_upsOf 22 = .ok (.iadd, 1) := by decide +kernel
theorem dX3_upsOf_23 : decode cX3_upsOf 23 = .ok (.istore_n 2, 1) := by decide +kernel
theorem dX3_upsOf_24 : decode cX3_upsOf 24 = .ok (.iinc 3 1, 3) := by decide +kernel
theorem dX3_upsOf_27 : decode cX3_upsOf 27 = .ok (.goto (-23), 3) := by decide +kernel
theorem dX3_upsOf_30 : decode cX3_upsOf 30 = .ok (.iload_n 2, 1) := by decide +kernel
theorem dX3_upsOf_31 : decode cX3_upsOf 31 = .ok (.ireturn, 1) := by decide +kernel
theorem dX3_total_0 : decode cX3_total 0 = .ok (.aload_n 0, 1) := by decide +kernel
theorem dX3_total_1 : decode cX3_total 1 = .ok (.iconst (-1), 1) := by decide +kernel
theorem dX3_total_2 : decode cX3_total 2 = .ok (.invokevirtual 38, 3) := by decide +kernel
theorem dX3_total_5 : decode cX3_total 5 = .ok (.ireturn, 1) := by decide +kernel
theorem dX3_daysWithSome_0 : decode cX3_daysWithSome 0 = .ok (.iconst 0, 1) := by decide +kernel
theorem dX3_daysWithSome_1 : decode cX3_daysWithSome 1 = .ok (.istore_n 1, 1) := by decide +kernel
theorem dX3_daysWithSome_2 : decode cX3_daysWithSome 2 = .ok (.iconst 0, 1) := by decide +kernel
theorem dX3_daysWithSome_3 : decode cX3_daysWithSome 3 = .ok (.istore_n 2, 1) := by decide +kernel
theorem dX3_daysWithSome_4 : decode cX3_daysWithSome 4 = .ok (.iload_n 2, 1) := by decide +kernel
theorem dX3_daysWithSome_5 : decode cX3_daysWithSome 5 = .ok (.bipush 20, 2) := by decide +kernel
theorem dX3_daysWithSome_7 : decode cX3_daysWithSome 7 = .ok (.if_icmp .ge 21, 3) := by decide +kernel
theorem dX3_daysWithSome_10 : decode cX3_daysWithSome 10 = .ok (.aload_n 0, 1) := by decide +kernel
theorem dX3_daysWithSome_11 : decode cX3_daysWithSome 11 = .ok (.getfield 9, 3) := by decide +kernel
theorem dX3_daysWithSome_14 : decode cX3_daysWithSome 14 = .ok (.iload_n 2, 1) := by decide +kernel
theorem dX3_daysWithSome_15 : decode cX3_daysWithSome 15 = .ok (.iaload, 1) := by decide +kernel
theorem dX3_daysWithSome_16 : decode cX3_daysWithSome 16 = .ok (.ifCond .eq 6, 3) := by decide +kernel
theorem dX3_daysWithSome_19 : decode cX3_daysWithSome 19 = .ok (.iinc 1 1, 3) := by decide +kernel
theorem dX3_daysWithSome_22 : decode cX3_daysWithSome 22 = .ok (.iinc 2 1, 3) := by decide +kernel
theorem dX3_daysWithSome_25 : decode cX3_daysWithSome 25 = .ok (.goto (-21), 3) := by decide +kernel
theorem dX3_daysWithSome_28 : decode cX3_daysWithSome 28 = .ok (.iload_n 1, 1) := by decide +kernel
theorem dX3_daysWithSome_29 : decode cX3_daysWithSome 29 = .ok (.ireturn, 1) := by decide +kernel
theorem dX4_init_0 : decode cX4_init 0 = .ok (.aload_n 0, 1) := by decide +kernel
theorem dX4_init_1 : decode cX4_init 1 = .ok (.invokespecial 3, 3) := by decide +kernel
theorem dX4_init_4 : decode cX4_init 4 = .ok (.aload_n 0, 1) := by decide +kernel
theorem dX4_init_5 : decode cX4_init 5 = .ok (.iconst (-1), 1) := by decide +kernel
theorem dX4_init_6 : decode cX4_init 6 = .ok (.putfield 9, 3) := by decide +kernel
theorem dX4_init_9 : decode cX4_init 9 = .ok (.aload_n 0, 1) := by decide +kernel
theorem dX4_init_10 : decode cX4_init 10 = .ok (.ldc 17, 2) := by decide +kernel
theorem dX4_init_12 : decode cX4_init 12 = .ok (.putfield 18, 3) := by decide +kernel
theorem dX4_init_15 : decode cX4_init 15 = .ok (.return_, 1) := by decide +kernel
theorem dX4_begin_0 : decode cX4_begin 0 = .ok (.aload_n 0, 1) := by decide +kernel
theorem dX4_begin_1 : decode cX4_begin 1 = .ok (.iconst (-1), 1) := by decide +kernel
theorem dX4_begin_2 : decode cX4_begin 2 = .ok (.putfield 9, 3) := by decide +kernel
theorem dX4_begin_5 : decode cX4_begin 5 = .ok (.aload_n 0, 1) := by decide +kernel
theorem dX4_begin_6 : decode cX4_begin 6 = .ok (.ldc 17, 2) := by decide +kernel
theorem dX4_begin_8 : decode cX4_begin 8 = .ok (.putfield 18, 3) := by decide +kernel
theorem dX4_begin_11 : decode cX4_begin 11 = .ok (.return_, 1) := by decide +kernel
theorem dX4_offer_0 : decode cX4_offer 0 = .ok (.iload_n 2, 1) := by decide +kernel
theorem dX4_offer_1 : decode cX4_offer 1 = .ok (.aload_n 0, 1) := by decide +kernel
theorem dX4_offer_2 : decode cX4_offer 2 = .ok (.getfield 18, 3) := by decide +kernel
theorem dX4_offer_5 : decode cX4_offer 5 = .ok (.if_icmp .ge 13, 3) := by decide +kernel
theorem dX4_offer_8 : decode cX4_offer 8 = .ok (.aload_n 0, 1) := by decide +kernel
theorem dX4_offer_9 : decode cX4_offer 9 = .ok (.iload_n 1, 1) := by decide +kernel
theorem dX4_offer_10 : decode cX4_offer 10 = .ok (.putfield 9, 3) := by decide +kernel
theorem dX4_offer_13 : decode cX4_offer 13 = .ok (.aload_n 0, 1) := by decide +kernel
theorem dX4_offer_14 : decode cX4_offer 14 = .ok (.iload_n 2, 1) := by decide +kernel
theorem dX4_offer_15 : decode cX4_offer 15 = .ok (.putfield 18, 3) := by decide +kernel
theorem dX4_offer_18 : decode cX4_offer 18 = .ok (.return_, 1) := by decide +kernel
theorem dX4_tell_0 : decode cX4_tell 0 = .ok (.iload_n 1, 1) := by decide +kernel
theorem dX4_tell_1 : decode cX4_tell 1 = .ok (.ifCond .ne 10, 3) := by decide +kernel
theorem dX4_tell_4 : decode cX4_tell 4 = .ok (.aload_n 0, 1) := by decide +kernel
theorem dX4_tell_5 : decode cX4_tell 5 = .ok (.getfield 9, 3) := by decide +kernel
theorem dX4_tell_8 : decode cX4_tell 8 = .ok (.goto 7, 3) := by decide +kernel
theorem dX4_tell_11 : decode cX4_tell 11 = .ok (.aload_n 0, 1) := by decide +kernel
theorem dX4_tell_12 : decode cX4_tell 12 = .ok (.getfield 18, 3) := by decide +kernel
theorem dX4_tell_15 : decode cX4_tell 15 = .ok (.ireturn, 1) := by decide +kernel
theorem dX5_init_0 : decode cX5_init 0 = .ok (.aload_n 0, 1) := by decide +kernel
theorem dX5_init_1 : decode cX5_init 1 = .ok (.invokespecial 3, 3) := by decide +kernel
theorem dX5_init_4 : decode cX5_init 4 = .ok (.aload_n 0, 1) := by decide +kernel
theorem dX5_init_5 : decode cX5_init 5 = .ok (.bipush 60, 2) := by decide +kernel
theorem dX5_init_7 : decode cX5_init 7 = .ok (.newarray .int, 2) := by decide +kernel
theorem dX5_init_9 : decode cX5_init 9 = .ok (.putfield 9, 3) := by decide +kernel
theorem dX5_init_12 : decode cX5_init 12 = .ok (.aload_n 0, 1) := by decide +kernel
theorem dX5_init_13 : decode cX5_init 13 = .ok (.iconst 1, 1) := by decide +kernel
theorem dX5_init_14 : decode cX5_init 14 = .ok (.putfield 15, 3) := by decide +kernel
theorem dX5_init_17 : decode cX5_init 17 = .ok (.aload_n 0, 1) := by decide +kernel
theorem dX5_init_18 : decode cX5_init 18 = .ok (.iconst 0, 1) := by decide +kernel
theorem dX5_init_19 : decode cX5_init 19 = .ok (.putfield 19, 3) := by decide +kernel
theorem dX5_init_22 : decode cX5_init 22 = .ok (.aload_n 0, 1) := by decide +kernel
theorem dX5_init_23 : decode cX5_init 23 = .ok (.iconst 0, 1) := by decide +kernel
theorem dX5_init_24 : decode cX5_init 24 = .ok (.putfield 23, 3) := by decide +kernel
theorem dX5_init_27 : decode cX5_init 27 = .ok (.return_, 1) := by decide +kernel
theorem dX5_renew_0 : decode cX5_renew 0 = .ok (.aload_n 0, 1) := by decide +kernel
theorem dX5_renew_1 : decode cX5_renew 1 = .ok (.iconst 0, 1) := by decide +kernel
theorem dX5_renew_2 : decode cX5_renew 2 = .ok (.putfield 15, 3) := by decide +kernel
theorem dX5_renew_5 : decode cX5_renew 5 = .ok (.aload_n 0, 1) := by decide +kernel
theorem dX5_renew_6 : decode cX5_renew 6 = .ok (.iload_n 1, 1) := by decide +kernel
theorem dX5_renew_7 : decode cX5_renew 7 = .ok (.putfield 19, 3) := by decide +kernel
theorem dX5_renew_10 : decode cX5_renew 10 = .ok (.aload_n 0, 1) := by decide +kernel
theorem dX5_renew_11 : decode cX5_renew 11 = .ok (.iload_n 2, 1) := by decide +kernel
theorem dX5_renew_12 : decode cX5_renew 12 = .ok (.bipush 60, 2) := by decide +kernel
theorem dX5_renew_14 : decode cX5_renew 14 = .ok (.invokestatic 26, 3) := by decide +kernel
theorem dX5_renew_17 : decode cX5_renew 17 = .ok (.putfield 23, 3) := by decide +kernel
theorem dX5_renew_20 : decode cX5_renew 20 = .ok (.iconst 0, 1) := by decide +kernel
theorem dX5_renew_21 : decode cX5_renew 21 = .ok (.istore_n 3, 1) := by decide +kernel
theorem dX5_renew_22 : decode cX5_renew 22 = .ok (.iload_n 3, 1) := by decide +kernel
theorem dX5_renew_23 : decode cX5_renew 23 = .ok (.bipush 60, 2) := by decide +kernel
theorem dX5_renew_25 : decode cX5_renew 25 = .ok (.if_icmp .ge 16, 3) := by decide +kernel
theorem dX5_renew_28 : decode cX5_renew 28 = .ok (.aload_n 0, 1) := by decide +kernel
theorem dX5_renew_29 : decode cX5_renew 29 = .ok (.getfield 9, 3) := by decide +kernel
theorem dX5_renew_32 : decode cX5_renew 32 = .ok (.iload_n 3, 1) := by decide +kernel
theorem dX5_renew_33 : decode cX5_renew 33 = .ok (.iconst 0, 1) := by decide +kernel
theorem dX5_renew_34 : decode cX5_renew 34 = .ok (.iastore, 1) := by decide +kernel
theorem dX5_renew_35 : decode cX5_renew 35 = .ok (.iinc 3 1, 3) := by decide +kernel
theorem dX5_renew_38 : decode cX5_renew 38 = .ok (.goto (-16), 3) := by decide +kernel
theorem dX5_renew_41 : decode cX5_renew 41 = .ok (.return_, 1) := by decide +kernel
theorem dX5_findingAt_0 : decode cX5_findingAt 0 = .ok (.aload_n 0, 1) := by decide +kernel
theorem dX5_findingAt_1 : decode cX5_findingAt 1 = .ok (.getfield 15, 3) := by decide +kernel
theorem dX5_findingAt_4 : decode cX5_findingAt 4 = .ok (.ifCond .eq 5, 3) := by decide +kernel
theorem dX5_findingAt_7 : decode cX5_findingAt 7 = .ok (.iconst 1, 1) := by decide +kernel
theorem dX5_findingAt_8 : decode cX5_findingAt 8 = .ok (.ireturn, 1) := by decide +kernel
theorem dX5_findingAt_9 : decode cX5_findingAt 9 = .ok (.aload_n 0, 1) := by decide +kernel
theorem dX5_findingAt_10 : decode cX5_findingAt 10 = .ok (.getfield 19, 3) := by decide +kernel
theorem dX5_findingAt_13 : decode cX5_findingAt 13 = .ok (.iload_n 1, 1) := by decide +kernel
theorem dX5_findingAt_14 : decode cX5_findingAt 14 = .ok (.if_icmp .eq 5, 3) := by decide +kernel
theorem dX5_findingAt_17 : decode cX5_findingAt 17 = .ok (.iconst 3, 1) := by decide +kernel
theorem dX5_findingAt_18 : decode cX5_findingAt 18 = .ok (.ireturn, 1) := by decide +kernel
theorem dX5_findingAt_19 : decode cX5_findingAt 19 = .ok (.iload_n 2, 1) := by decide +kernel
theorem dX5_findingAt_20 : decode cX5_findingAt 20 = .ok (.ifCond .lt 15, 3) := by decide +kernel
theorem dX5_findingAt_23 : decode cX5_findingAt 23 = .ok (.iload_n 2, 1) := by decide +kernel
theorem dX5_findingAt_24 : decode cX5_findingAt 24 = .ok (.aload_n 0, 1) := by decide +kernel
theorem dX5_findingAt_25 : decode cX5_findingAt 25 = .ok (.getfield 23, 3) := by decide +kernel
theorem dX5_findingAt_28 : decode cX5_findingAt 28 = .ok (.if_icmp .ge 7, 3) := by decide +kernel
theorem dX5_findingAt_31 : decode cX5_findingAt 31 = .ok (.iconst 0, 1) := by decide +kernel
theorem dX5_findingAt_32 : decode cX5_findingAt 32 = .ok (.goto 4, 3) := by decide +kernel
theorem dX5_findingAt_35 : decode cX5_findingAt 35 = .ok (.iconst 2, 1) := by decide +kernel
theorem dX5_findingAt_36 : decode cX5_findingAt 36 = .ok (.ireturn, 1) := by decide +kernel
theorem dX5_holds_0 : decode cX5_holds 0 = .ok (.iload_n 1, 1) := by decide +kernel
theorem dX5_holds_1 : decode cX5_holds 1 = .ok (.ifCond .lt 29, 3) := by decide +kernel
theorem dX5_holds_4 : decode cX5_holds 4 = .ok (.iload_n 2, 1) := by decide +kernel
theorem dX5_holds_5 : decode cX5_holds 5 = .ok (.ifCond .lt 25, 3) := by decide +kernel
theorem dX5_holds_8 : decode cX5_holds 8 = .ok (.iload_n 1, 1) := by decide +kernel
theorem dX5_holds_9 : decode cX5_holds 9 = .ok (.aload_n 0, 1) := by decide +kernel
theorem dX5_holds_10 : decode cX5_holds 10 = .ok (.getfield 23, 3) := by decide +kernel
theorem dX5_holds_13 : decode cX5_holds 13 = .ok (.if_icmp .gt 17, 3) := by decide +kernel
theorem dX5_holds_16 : decode cX5_holds 16 = .ok (.iload_n 2, 1) := by decide +kernel
theorem dX5_holds_17 : decode cX5_holds 17 = .ok (.aload_n 0, 1) := by decide +kernel
theorem dX5_holds_18 : decode cX5_holds 18 = .ok (.getfield 23, 3) := by decide +kernel
theorem dX5_holds_21 : decode cX5_holds 21 = .ok (.iload_n 1, 1) := by decide +kernel
theorem dX5_holds_22 : decode cX5_holds 22 = .ok (.isub, 1) := by decide +kernel
theorem dX5_holds_23 : decode cX5_holds 23 = .ok (.if_icmp .gt 7, 3) := by decide +kernel
theorem dX5_holds_26 : decode cX5_holds 26 = .ok (.iconst 1, 1) := by decide +kernel
theorem dX5_holds_27 : decode cX5_holds 27 = .ok (.goto 4, 3) := by decide +kernel
theorem dX5_holds_30 : decode cX5_holds 30 = .ok (.iconst 0, 1) := by decide +kernel
theorem dX5_holds_31 : decode cX5_holds 31 = .ok (.ireturn, 1) := by decide +kernel
theorem dX6_init_0 : decode cX6_init 0 = .ok (.aload_n 0, 1) := by decide +kernel
theorem dX6_init_1 : decode cX6_init 1 = .ok (.invokespecial 3, 3) := by decide +kernel
theorem dX6_init_4 : decode cX6_init 4 = .ok (.aload_n 0, 1) := by decide +kernel
theorem dX6_init_5 : decode cX6_init 5 = .ok (.bipush 8, 2) := by decide +kernel
theorem dX6_init_7 : decode cX6_init 7 = .ok (.newarray .int, 2) := by decide +kernel
theorem dX6_init_9 : decode cX6_init 9 = .ok (.putfield 9, 3) := by decide +kernel
theorem dX6_init_12 : decode cX6_init 12 = .ok (.aload_n 0, 1) := by decide +kernel
theorem dX6_init_13 : decode cX6_init 13 = .ok (.bipush 8, 2) := by decide +kernel
theorem dX6_init_15 : decode cX6_init 15 = .ok (.newarray .int, 2) := by decide +kernel
theorem dX6_init_17 : decode cX6_init 17 = .ok (.putfield 15, 3) := by decide +kernel
theorem dX6_init_20 : decode cX6_init 20 = .ok (.aload_n 0, 1) := by decide +kernel
theorem dX6_init_21 : decode cX6_init 21 = .ok (.bipush 8, 2) := by decide +kernel
theorem dX6_init_23 : decode cX6_init 23 = .ok (.newarray .int, 2) := by decide +kernel
theorem dX6_init_25 : decode cX6_init 25 = .ok (.putfield 18, 3) := by decide +kernel
theorem dX6_init_28 : decode cX6_init 28 = .ok (.aload_n 0, 1) := by decide +kernel
theorem dX6_init_29 : decode cX6_init 29 = .ok (.iconst 0, 1) := by decide +kernel
theorem dX6_init_30 : decode cX6_init 30 = .ok (.putfield 21, 3) := by decide +kernel
theorem dX6_init_33 : decode cX6_init 33 = .ok (.return_, 1) := by decide +kernel
theorem dX6_add_0 : decode cX6_add 0 = .ok (.aload_n 0, 1) := by decide +kernel
theorem dX6_add_1 : decode cX6_add 1 = .ok (.getfield 21, 3) := by decide +kernel
theorem dX6_add_4 : decode cX6_add 4 = .ok (.bipush 8, 2) := by decide +kernel
theorem dX6_add_6 : decode cX6_add 6 = .ok (.if_icmp .lt 5, 3) := by decide +kernel
theorem dX6_add_9 : decode cX6_add 9 = .ok (.iconst 0, 1) := by decide +kernel
theorem dX6_add_10 : decode cX6_add 10 = .ok (.ireturn, 1) := by decide +kernel
theorem dX6_add_11 : decode cX6_add 11 = .ok (.aload_n 0, 1) := by decide +kernel
theorem dX6_add_12 : decode cX6_add 12 = .ok (.getfield 9, 3) := by decide +kernel
theorem dX6_add_15 : decode cX6_add 15 = .ok (.aload_n 0, 1) := by decide +kernel
theorem dX6_add_16 : decode cX6_add 16 = .ok (.getfield 21, 3) := by decide +kernel
theorem dX6_add_19 : decode cX6_add 19 = .ok (.iload_n 1, 1) := by decide +kernel
theorem dX6_add_20 : decode cX6_add 20 = .ok (.iastore, 1) := by decide +kernel
theorem dX6_add_21 : decode cX6_add 21 = .ok (.aload_n 0, 1) := by decide +kernel
theorem dX6_add_22 : decode cX6_add 22 = .ok (.getfield 15, 3) := by decide +kernel
theorem dX6_add_25 : decode cX6_add 25 = .ok (.aload_n 0, 1) := by decide +kernel
theorem dX6_add_26 : decode cX6_add 26 = .ok (.getfield 21, 3) := by decide +kernel
theorem dX6_add_29 : decode cX6_add 29 = .ok (.iload_n 2, 1) := by decide +kernel
theorem dX6_add_30 : decode cX6_add 30 = .ok (.iastore, 1) := by decide +kernel
theorem dX6_add_31 : decode cX6_add 31 = .ok (.aload_n 0, 1) := by decide +kernel
theorem dX6_add_32 : decode cX6_add 32 = .ok (.getfield 18, 3) := by decide +kernel
theorem dX6_add_35 : decode cX6_add 35 = .ok (.aload_n 0, 1) := by decide +kernel
theorem dX6_add_36 : decode cX6_add 36 = .ok (.getfield 21, 3) := by decide +kernel
theorem dX6_add_39 : decode cX6_add 39 = .ok (.iload_n 3, 1) := by decide +kernel
theorem dX6_add_40 : decode cX6_add 40 = .ok (.iastore, 1) := by decide +kernel
theorem dX6_add_41 : decode cX6_add 41 = .ok (.aload_n 0, 1) := by decide +kernel
theorem dX6_add_42 : decode cX6_add 42 = .ok (.dup, 1) := by decide +kernel
theorem dX6_add_43 : decode cX6_add 43 = .ok (.getfield 21, 3) := by decide +kernel
theorem dX6_add_46 : decode cX6_add 46 = .ok (.iconst 1, 1) := by decide +kernel
theorem dX6_add_47 : decode cX6_add 47 = .ok (.iadd, 1) := by decide +kernel
theorem dX6_add_48 : decode cX6_add 48 = .ok (.putfield 21, 3) := by decide +kernel
theorem dX6_add_51 : decode cX6_add 51 = .ok (.iconst 1, 1) := by decide +kernel
theorem dX6_add_52 : decode cX6_add 52 = .ok (.ireturn, 1) := by decide +kernel
theorem dX7_init_0 : decode cX7_init 0 = .ok (.aload_n 0, 1) := by decide +kernel
theorem dX7_init_1 : decode cX7_init 1 = .ok (.invokespecial 3, 3) := by decide +kernel
theorem dX7_init_4 : decode cX7_init 4 = .ok (.aload_n 0, 1) := by decide +kernel
theorem dX7_init_5 : decode cX7_init 5 = .ok (.iconst 0, 1) := by decide +kernel
theorem dX7_init_6 : decode cX7_init 6 = .ok (.putfield 9, 3) := by decide +kernel
theorem dX7_init_9 : decode cX7_init 9 = .ok (.aload_n 0, 1) := by decide +kernel
theorem dX7_init_10 : decode cX7_init 10 = .ok (.iconst 0, 1) := by decide +kernel
theorem dX7_init_11 : decode cX7_init 11 = .ok (.iload_n 1, 1) := by decide +kernel
theorem dX7_init_12 : decode cX7_init 12 = .ok (.invokestatic 15, 3) := by decide +kernel
theorem dX7_init_15 : decode cX7_init 15 = .ok (.newarray .int, 2) := by decide +kernel
theorem dX7_init_17 : decode cX7_init 17 = .ok (.putfield 21, 3) := by decide +kernel
theorem dX7_init_20 : decode cX7_init 20 = .ok (.return_, 1) := by decide +kernel
theorem dX7_add_0 : decode cX7_add 0 = .ok (.aload_n 0, 1) := by decide +kernel
theorem dX7_add_1 : decode cX7_add 1 = .ok (.getfield 9, 3) := by decide +kernel
theorem dX7_add_4 : decode cX7_add 4 = .ok (.aload_n 0, 1) := by decide +kernel
theorem dX7_add_5 : decode cX7_add 5 = .ok (.getfield 21, 3) := by decide +kernel
theorem dX7_add_8 : decode cX7_add 8 = .ok (.arraylength, 1) := by decide +kernel
theorem dX7_add_9 : decode cX7_add 9 = .ok (.if_icmp .lt 5, 3) := by decide +kernel
theorem dX7_add_12 : decode cX7_add 12 = .ok (.iconst 0, 1) := by decide +kernel
theorem dX7_add_13 : decode cX7_add 13 = .ok (.ireturn, 1) := by decide +kernel
theorem dX7_add_14 : decode cX7_add 14 = .ok (.aload_n 0, 1) := by decide +kernel
theorem dX7_add_15 : decode cX7_add 15 = .ok (.getfield 21, 3) := by decide +kernel
theorem dX7_add_18 : decode cX7_add 18 = .ok (.aload_n 0, 1) := by decide +kernel
theorem dX7_add_19 : decode cX7_add 19 = .ok (.getfield 9, 3) := by decide +kernel
theorem dX7_add_22 : decode cX7_add 22 = .ok (.iload_n 1, 1) := by decide +kernel
theorem dX7_add_23 : decode cX7_add 23 = .ok (.iastore, 1) := by decide +kernel
theorem dX7_add_24 : decode cX7_add 24 = .ok (.aload_n 0, 1) := by decide +kernel
theorem dX7_add_25 : decode cX7_add 25 = .ok (.dup, 1) := by decide +kernel
theorem dX7_add_26 : decode cX7_add 26 = .ok (.getfield 9, 3) := by decide +kernel
theorem dX7_add_29 : decode cX7_add 29 = .ok (.iconst 1, 1) := by decide +kernel
theorem dX7_add_30 : decode cX7_add 30 = .ok (.iadd, 1) := by decide +kernel
theorem dX7_add_31 : decode cX7_add 31 = .ok (.putfield 9, 3) := by decide +kernel
theorem dX7_add_34 : decode cX7_add 34 = .ok (.iconst 1, 1) := by decide +kernel
theorem dX7_add_35 : decode cX7_add 35 = .ok (.ireturn, 1) := by decide +kernel
theorem dX7_at_0 : decode cX7_at 0 = .ok (.iload_n 1, 1) := by decide +kernel
theorem dX7_at_1 : decode cX7_at 1 = .ok (.ifCond .lt 20, 3) := by decide +kernel
theorem dX7_at_4 : decode cX7_at 4 = .ok (.iload_n 1, 1) := by decide +kernel
theorem dX7_at_5 : decode cX7_at 5 = .ok (.aload_n 0, 1) := by decide +kernel
theorem dX7_at_6 : decode cX7_at 6 = .ok (.getfield 9, 3) := by decide +kernel
theorem dX7_at_9 : decode cX7_at 9 = .ok (.if_icmp .ge 12, 3) := by decide +kernel
theorem dX7_at_12 : decode cX7_at 12 = .ok (.aload_n 0, 1) := by decide +kernel
theorem dX7_at_13 : decode cX7_at 13 = .ok (.getfield 21, 3) := by decide +kernel
theorem dX7_at_16 : decode cX7_at 16 = .ok (.iload_n 1, 1) := by decide +kernel
theorem dX7_at_17 : decode cX7_at 17 = .ok (.iaload, 1) := by decide +kernel
theorem dX7_at_18 : decode cX7_at 18 = .ok (.goto 4, 3) := by decide +kernel
theorem dX7_at_21 : decode cX7_at 21 = .ok (.iconst (-1), 1) := by decide +kernel
theorem dX7_at_22 : decode cX7_at 22 = .ok (.ireturn, 1) := by decide +kernel
theorem dJ6_bitCount_0f7a4_0 : decode cJ6_bitCount_0f7a4 0 = .ok (.iload_n 0, 1) := by decide +kernel
theorem dJ6_bitCount_0f7a4_1 : decode cJ6_bitCount_0f7a4 1 = .ok (.iload_n 0, 1) := by decide +kernel
theorem dJ6_bitCount_0f7a4_2 : decode cJ6_bitCount_0f7a4 2 = .ok (.iconst 1, 1) := by decide +kernel
theorem dJ6_bitCount_0f7a4_3 : decode cJ6_bitCount_0f7a4 3 = .ok (.iushr, 1) := by decide +kernel
theorem dJ6_bitCount_0f7a4_4 : decode cJ6_bitCount_0f7a4 4 = .ok (.ldc_w 265, 3) := by decide +kernel
theorem dJ6_bitCount_0f7a4_7 : decode cJ6_bitCount_0f7a4 7 = .ok (.iand, 1) := by decide +kernel
theorem dJ6_bitCount_0f7a4_8 : decode cJ6_bitCount_0f7a4 8 = .ok (.isub, 1) := by decide +kernel
theorem dJ6_bitCount_0f7a4_9 : decode cJ6_bitCount_0f7a4 9 = .ok (.istore_n 0, 1) := by decide +kernel
theorem dJ6_bitCount_0f7a4_10 : decode cJ6_bitCount_0f7a4 10 = .ok (.iload_n 0, 1) := by decide +kernel
theorem dJ6_bitCount_0f7a4_11 : decode cJ6_bitCount_0f7a4 11 = .ok (.ldc_w 266, 3) := by decide +kernel
theorem dJ6_bitCount_0f7a4_14 : decode cJ6_bitCount_0f7a4 14 = .ok (.iand, 1) := by decide +kernel
theorem dJ6_bitCount_0f7a4_15 : decode cJ6_bitCount_0f7a4 15 = .ok (.iload_n 0, 1) := by decide +kernel
theorem dJ6_bitCount_0f7a4_16 : decode cJ6_bitCount_0f7a4 16 = .ok (.iconst 2, 1) := by decide +kernel
theorem dJ6_bitCount_0f7a4_17 : decode cJ6_bitCount_0f7a4 17 = .ok (.iushr, 1) := by decide +kernel
theorem dJ6_bitCount_0f7a4_18 : decode cJ6_bitCount_0f7a4 18 = .ok (.ldc_w 266, 3) := by decide +kernel
theorem dJ6_bitCount_0f7a4_21 : decode cJ6_bitCount_0f7a4 21 = .ok (.iand, 1) := by decide +kernel
theorem dJ6_bitCount_0f7a4_22 : decode cJ6_bitCount_0f7a4 22 = .ok (.iadd, 1) := by decide +kernel
theorem dJ6_bitCount_0f7a4_23 : decode cJ6_bitCount_0f7a4 23 = .ok (.istore_n 0, 1) := by decide +kernel
theorem dJ6_bitCount_0f7a4_24 : decode cJ6_bitCount_0f7a4 24 = .ok (.iload_n 0, 1) := by decide +kernel
theorem dJ6_bitCount_0f7a4_25 : decode cJ6_bitCount_0f7a4 25 = .ok (.iload_n 0, 1) := by decide +kernel
theorem dJ6_bitCount_0f7a4_26 : decode cJ6_bitCount_0f7a4 26 = .ok (.iconst 4, 1) := by decide +kernel
theorem dJ6_bitCount_0f7a4_27 : decode cJ6_bitCount_0f7a4 27 = .ok (.iushr, 1) := by decide +kernel
theorem dJ6_bitCount_0f7a4_28 : decode cJ6_bitCount_0f7a4 28 = .ok (.iadd, 1) := by decide +kernel
theorem dJ6_bitCount_0f7a4_29 : decode cJ6_bitCount_0f7a4 29 = .ok (.ldc_w 267, 3) := by decide +kernel
theorem dJ6_bitCount_0f7a4_32 : decode cJ6_bitCount_0f7a4 32 = .ok (.iand, 1) := by decide +kernel
theorem dJ6_bitCount_0f7a4_33 : decode cJ6_bitCount_0f7a4 33 = .ok (.istore_n 0, 1) := by decide +kernel
theorem dJ6_bitCount_0f7a4_34 : decode cJ6_bitCount_0f7a4 34 = .ok (.iload_n 0, 1) := by decide +kernel
theorem dJ6_bitCount_0f7a4_35 : decode cJ6_bitCount_0f7a4 35 = .ok (.iload_n 0, 1) := by decide +kernel
theorem dJ6_bitCount_0f7a4_36 : decode cJ6_bitCount_0f7a4 36 = .ok (.bipush 8, 2) := by decide +kernel
theorem dJ6_bitCount_0f7a4_38 : decode cJ6_bitCount_0f7a4 38 = .ok (.iushr, 1) := by decide +kernel
theorem dJ6_bitCount_0f7a4_39 : decode cJ6_bitCount_0f7a4 39 = .ok (.iadd, 1) := by decide +kernel
theorem dJ6_bitCount_0f7a4_40 : decode cJ6_bitCount_0f7a4 40 = .ok (.istore_n 0, 1) := by decide +kernel
theorem dJ6_bitCount_0f7a4_41 : decode cJ6_bitCount_0f7a4 41 = .ok (.iload_n 0, 1) := by decide +kernel
theorem dJ6_bitCount_0f7a4_42 : decode cJ6_bitCount_0f7a4 42 = .ok (.iload_n 0, 1) := by decide +kernel
theorem dJ6_bitCount_0f7a4_43 : decode cJ6_bitCount_0f7a4 43 = .ok (.bipush 16, 2) := by decide +kernel
theorem dJ6_bitCount_0f7a4_45 : decode cJ6_bitCount_0f7a4 45 = .ok (.iushr, 1) := by decide +kernel
theorem dJ6_bitCount_0f7a4_46 : decode cJ6_bitCount_0f7a4 46 = .ok (.iadd, 1) := by decide +kernel
theorem dJ6_bitCount_0f7a4_47 : decode cJ6_bitCount_0f7a4 47 = .ok (.istore_n 0, 1) := by decide +kernel
theorem dJ6_bitCount_0f7a4_48 : decode cJ6_bitCount_0f7a4 48 = .ok (.iload_n 0, 1) := by decide +kernel
theorem dJ6_bitCount_0f7a4_49 : decode cJ6_bitCount_0f7a4 49 = .ok (.bipush 63, 2) := by decide +kernel
theorem dJ6_bitCount_0f7a4_51 : decode cJ6_bitCount_0f7a4 51 = .ok (.iand, 1) := by decide +kernel
theorem dJ6_bitCount_0f7a4_52 : decode cJ6_bitCount_0f7a4 52 = .ok (.ireturn, 1) := by decide +kernel
theorem dJ9_max_7cf53_0 : decode cJ9_max_7cf53 0 = .ok (.iload_n 0, 1) := by decide +kernel
theorem dJ9_max_7cf53_1 : decode cJ9_max_7cf53 1 = .ok (.iload_n 1, 1) := by decide +kernel
theorem dJ9_max_7cf53_2 : decode cJ9_max_7cf53 2 = .ok (.if_icmp .lt 7, 3) := by decide +kernel
theorem dJ9_max_7cf53_5 : decode cJ9_max_7cf53 5 = .ok (.iload_n 0, 1) := by decide +kernel
theorem dJ9_max_7cf53_6 : decode cJ9_max_7cf53 6 = .ok (.goto 4, 3) := by decide +kernel
theorem dJ9_max_7cf53_9 : decode cJ9_max_7cf53 9 = .ok (.iload_n 1, 1) := by decide +kernel
theorem dJ9_max_7cf53_10 : decode cJ9_max_7cf53 10 = .ok (.ireturn, 1) := by decide +kernel
theorem dJ9_min_7cf53_0 : decode cJ9_min_7cf53 0 = .ok (.iload_n 0, 1) := by decide +kernel
theorem dJ9_min_7cf53_1 : decode cJ9_min_7cf53 1 = .ok (.iload_n 1, 1) := by decide +kernel
theorem dJ9_min_7cf53_2 : decode cJ9_min_7cf53 2 = .ok (.if_icmp .gt 7, 3) := by decide +kernel
theorem dJ9_min_7cf53_5 : decode cJ9_min_7cf53 5 = .ok (.iload_n 0, 1) := by decide +kernel
theorem dJ9_min_7cf53_6 : decode cJ9_min_7cf53 6 = .ok (.goto 4, 3) := by decide +kernel
theorem dJ9_min_7cf53_9 : decode cJ9_min_7cf53 9 = .ok (.iload_n 1, 1) := by decide +kernel
theorem dJ9_min_7cf53_10 : decode cJ9_min_7cf53 10 = .ok (.ireturn, 1) := by decide +kernel
