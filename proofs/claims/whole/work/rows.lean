section
-- ===== PART A: goes FIRST, ahead of the names: the tables' words, and 'selects' of the private methods out of them =====
/-- a private method of a class that the tables say can be made, by its rows of tables_1 -/
def lw_okq (q : MethodName × Nat) : Prop := (q.1.cls ≠ "java/lang/invoke/MethodHandle" ∧ q.1.cls ≠ "java/lang/invoke/VarHandle") ∧ Cond.instantiable q.1.cls q.2 ∈ tables_1 ∧ Cond.privateMethod q.1 ∈ tables_1 ∧ Cond.instanceMethod q.1 ∈ tables_1
theorem lw_p0 : lw_okq (⟨"BoardRemembers", "textOf", "(I)LBoardRemembers$Text;"⟩, 18) := ⟨⟨by decide +kernel, by decide +kernel⟩, List.mem_of_getElem? (i := 15) (by decide +kernel), List.mem_of_getElem? (i := 281) (by decide +kernel), List.mem_of_getElem? (i := 282) (by decide +kernel)⟩
theorem lw_p1 : lw_okq (⟨"BoardRemembers", "faultOfDamps", "()I"⟩, 18) := ⟨⟨by decide +kernel, by decide +kernel⟩, List.mem_of_getElem? (i := 15) (by decide +kernel), List.mem_of_getElem? (i := 301) (by decide +kernel), List.mem_of_getElem? (i := 302) (by decide +kernel)⟩
theorem lw_p2 : lw_okq (⟨"BoardRemembers", "faultOfStrokes", "()I"⟩, 18) := ⟨⟨by decide +kernel, by decide +kernel⟩, List.mem_of_getElem? (i := 15) (by decide +kernel), List.mem_of_getElem? (i := 312) (by decide +kernel), List.mem_of_getElem? (i := 313) (by decide +kernel)⟩
theorem lw_p3 : lw_okq (⟨"BoardRemembers", "bringUpToDate", "()V"⟩, 18) := ⟨⟨by decide +kernel, by decide +kernel⟩, List.mem_of_getElem? (i := 15) (by decide +kernel), List.mem_of_getElem? (i := 326) (by decide +kernel), List.mem_of_getElem? (i := 327) (by decide +kernel)⟩
theorem lw_p4 : lw_okq (⟨"BoardRemembers", "parseDamps", "()V"⟩, 18) := ⟨⟨by decide +kernel, by decide +kernel⟩, List.mem_of_getElem? (i := 15) (by decide +kernel), List.mem_of_getElem? (i := 330) (by decide +kernel), List.mem_of_getElem? (i := 331) (by decide +kernel)⟩
theorem lw_p5 : lw_okq (⟨"BoardRemembers", "parseStrokes", "()V"⟩, 18) := ⟨⟨by decide +kernel, by decide +kernel⟩, List.mem_of_getElem? (i := 15) (by decide +kernel), List.mem_of_getElem? (i := 337) (by decide +kernel), List.mem_of_getElem? (i := 338) (by decide +kernel)⟩
theorem lw_p6 : lw_okq (⟨"BoardRemembers$Board", "goesIn", "(ILBoardRemembers$Care;)I"⟩, 9) := ⟨⟨by decide +kernel, by decide +kernel⟩, List.mem_of_getElem? (i := 68) (by decide +kernel), List.mem_of_getElem? (i := 359) (by decide +kernel), List.mem_of_getElem? (i := 360) (by decide +kernel)⟩
theorem lw_p7 : lw_okq (⟨"BoardRemembers$Board", "settleStroke", "(II)V"⟩, 9) := ⟨⟨by decide +kernel, by decide +kernel⟩, List.mem_of_getElem? (i := 68) (by decide +kernel), List.mem_of_getElem? (i := 368) (by decide +kernel), List.mem_of_getElem? (i := 369) (by decide +kernel)⟩
theorem lw_p8 : lw_okq (⟨"BoardRemembers$Board", "settleAble", "(II)V"⟩, 9) := ⟨⟨by decide +kernel, by decide +kernel⟩, List.mem_of_getElem? (i := 68) (by decide +kernel), List.mem_of_getElem? (i := 377) (by decide +kernel), List.mem_of_getElem? (i := 378) (by decide +kernel)⟩
theorem lw_p9 : lw_okq (⟨"BoardRemembers$Board", "strongest", "(II)I"⟩, 9) := ⟨⟨by decide +kernel, by decide +kernel⟩, List.mem_of_getElem? (i := 68) (by decide +kernel), List.mem_of_getElem? (i := 393) (by decide +kernel), List.mem_of_getElem? (i := 394) (by decide +kernel)⟩
theorem lw_p10 : lw_okq (⟨"BoardRemembers", "isStroke", "(I)Z"⟩, 18) := ⟨⟨by decide +kernel, by decide +kernel⟩, List.mem_of_getElem? (i := 15) (by decide +kernel), List.mem_of_getElem? (i := 408) (by decide +kernel), List.mem_of_getElem? (i := 409) (by decide +kernel)⟩
theorem lw_p11 : lw_okq (⟨"BoardRemembers", "found", "(I)I"⟩, 18) := ⟨⟨by decide +kernel, by decide +kernel⟩, List.mem_of_getElem? (i := 15) (by decide +kernel), List.mem_of_getElem? (i := 449) (by decide +kernel), List.mem_of_getElem? (i := 450) (by decide +kernel)⟩
theorem lw_p12 : lw_okq (⟨"BoardRemembers", "seekDay", "(I)V"⟩, 18) := ⟨⟨by decide +kernel, by decide +kernel⟩, List.mem_of_getElem? (i := 15) (by decide +kernel), List.mem_of_getElem? (i := 526) (by decide +kernel), List.mem_of_getElem? (i := 527) (by decide +kernel)⟩
theorem lw_p13 : lw_okq (⟨"BoardRemembers", "upsInTrial", "(I)I"⟩, 18) := ⟨⟨by decide +kernel, by decide +kernel⟩, List.mem_of_getElem? (i := 15) (by decide +kernel), List.mem_of_getElem? (i := 542) (by decide +kernel), List.mem_of_getElem? (i := 543) (by decide +kernel)⟩
theorem lw_p14 : lw_okq (⟨"BoardRemembers", "seekCell", "(I)V"⟩, 18) := ⟨⟨by decide +kernel, by decide +kernel⟩, List.mem_of_getElem? (i := 15) (by decide +kernel), List.mem_of_getElem? (i := 563) (by decide +kernel), List.mem_of_getElem? (i := 564) (by decide +kernel)⟩
theorem lw_p15 : lw_okq (⟨"BoardRemembers", "seekDryDay", "()V"⟩, 18) := ⟨⟨by decide +kernel, by decide +kernel⟩, List.mem_of_getElem? (i := 15) (by decide +kernel), List.mem_of_getElem? (i := 571) (by decide +kernel), List.mem_of_getElem? (i := 572) (by decide +kernel)⟩
def lw_privs_1 : List (MethodName × Nat) := [(⟨"BoardRemembers", "textOf", "(I)LBoardRemembers$Text;"⟩, 18), (⟨"BoardRemembers", "faultOfDamps", "()I"⟩, 18), (⟨"BoardRemembers", "faultOfStrokes", "()I"⟩, 18), (⟨"BoardRemembers", "bringUpToDate", "()V"⟩, 18), (⟨"BoardRemembers", "parseDamps", "()V"⟩, 18), (⟨"BoardRemembers", "parseStrokes", "()V"⟩, 18), (⟨"BoardRemembers$Board", "goesIn", "(ILBoardRemembers$Care;)I"⟩, 9), (⟨"BoardRemembers$Board", "settleStroke", "(II)V"⟩, 9), (⟨"BoardRemembers$Board", "settleAble", "(II)V"⟩, 9), (⟨"BoardRemembers$Board", "strongest", "(II)I"⟩, 9), (⟨"BoardRemembers", "isStroke", "(I)Z"⟩, 18), (⟨"BoardRemembers", "found", "(I)I"⟩, 18), (⟨"BoardRemembers", "seekDay", "(I)V"⟩, 18), (⟨"BoardRemembers", "upsInTrial", "(I)I"⟩, 18), (⟨"BoardRemembers", "seekCell", "(I)V"⟩, 18), (⟨"BoardRemembers", "seekDryDay", "()V"⟩, 18)]
theorem lw_r1 : ∀ q ∈ lw_privs_1, lw_okq q := List.forall_mem_cons.mpr ⟨lw_p0, List.forall_mem_cons.mpr ⟨lw_p1, List.forall_mem_cons.mpr ⟨lw_p2, List.forall_mem_cons.mpr ⟨lw_p3, List.forall_mem_cons.mpr ⟨lw_p4, List.forall_mem_cons.mpr ⟨lw_p5, List.forall_mem_cons.mpr ⟨lw_p6, List.forall_mem_cons.mpr ⟨lw_p7, List.forall_mem_cons.mpr ⟨lw_p8, List.forall_mem_cons.mpr ⟨lw_p9, List.forall_mem_cons.mpr ⟨lw_p10, List.forall_mem_cons.mpr ⟨lw_p11, List.forall_mem_cons.mpr ⟨lw_p12, List.forall_mem_cons.mpr ⟨lw_p13, List.forall_mem_cons.mpr ⟨lw_p14, List.forall_mem_cons.mpr ⟨lw_p15, fun _ h => absurd h List.not_mem_nil⟩⟩⟩⟩⟩⟩⟩⟩⟩⟩⟩⟩⟩⟩⟩⟩
theorem lw_p16 : lw_okq (⟨"BoardRemembers", "tryWithout", "(I)V"⟩, 18) := ⟨⟨by decide +kernel, by decide +kernel⟩, List.mem_of_getElem? (i := 15) (by decide +kernel), List.mem_of_getElem? (i := 592) (by decide +kernel), List.mem_of_getElem? (i := 593) (by decide +kernel)⟩
theorem lw_p17 : lw_okq (⟨"BoardRemembers", "agrees", "(LBoardRemembers$Board;LBoardRemembers$Course;I)Z"⟩, 18) := ⟨⟨by decide +kernel, by decide +kernel⟩, List.mem_of_getElem? (i := 15) (by decide +kernel), List.mem_of_getElem? (i := 596) (by decide +kernel), List.mem_of_getElem? (i := 597) (by decide +kernel)⟩
theorem lw_p18 : lw_okq (⟨"BoardRemembers", "viewWithoutEach", "(II)V"⟩, 18) := ⟨⟨by decide +kernel, by decide +kernel⟩, List.mem_of_getElem? (i := 15) (by decide +kernel), List.mem_of_getElem? (i := 617) (by decide +kernel), List.mem_of_getElem? (i := 618) (by decide +kernel)⟩
theorem lw_p19 : lw_okq (⟨"BoardRemembers", "mostAlike", "(II)I"⟩, 18) := ⟨⟨by decide +kernel, by decide +kernel⟩, List.mem_of_getElem? (i := 15) (by decide +kernel), List.mem_of_getElem? (i := 621) (by decide +kernel), List.mem_of_getElem? (i := 622) (by decide +kernel)⟩
theorem lw_p20 : lw_okq (⟨"BoardRemembers", "reckonChance", "(III)V"⟩, 18) := ⟨⟨by decide +kernel, by decide +kernel⟩, List.mem_of_getElem? (i := 15) (by decide +kernel), List.mem_of_getElem? (i := 631) (by decide +kernel), List.mem_of_getElem? (i := 632) (by decide +kernel)⟩
theorem lw_p21 : lw_okq (⟨"BoardRemembers", "withDay", "(JI)J"⟩, 18) := ⟨⟨by decide +kernel, by decide +kernel⟩, List.mem_of_getElem? (i := 15) (by decide +kernel), List.mem_of_getElem? (i := 716) (by decide +kernel), List.mem_of_getElem? (i := 717) (by decide +kernel)⟩
theorem lw_p22 : lw_okq (⟨"BoardRemembers", "withStroke", "(JI)J"⟩, 18) := ⟨⟨by decide +kernel, by decide +kernel⟩, List.mem_of_getElem? (i := 15) (by decide +kernel), List.mem_of_getElem? (i := 723) (by decide +kernel), List.mem_of_getElem? (i := 724) (by decide +kernel)⟩
theorem lw_p23 : lw_okq (⟨"BoardRemembers", "withFewest", "(J)J"⟩, 18) := ⟨⟨by decide +kernel, by decide +kernel⟩, List.mem_of_getElem? (i := 15) (by decide +kernel), List.mem_of_getElem? (i := 730) (by decide +kernel), List.mem_of_getElem? (i := 731) (by decide +kernel)⟩
theorem lw_p24 : lw_okq (⟨"BoardRemembersModel", "faultOf", "(I)I"⟩, 36) := ⟨⟨by decide +kernel, by decide +kernel⟩, List.mem_of_getElem? (i := 741) (by decide +kernel), List.mem_of_getElem? (i := 879) (by decide +kernel), List.mem_of_getElem? (i := 880) (by decide +kernel)⟩
theorem lw_p25 : lw_okq (⟨"BoardRemembersModel", "readsDamps", "()I"⟩, 36) := ⟨⟨by decide +kernel, by decide +kernel⟩, List.mem_of_getElem? (i := 741) (by decide +kernel), List.mem_of_getElem? (i := 883) (by decide +kernel), List.mem_of_getElem? (i := 884) (by decide +kernel)⟩
theorem lw_p26 : lw_okq (⟨"BoardRemembersModel", "readsStrokes", "()I"⟩, 36) := ⟨⟨by decide +kernel, by decide +kernel⟩, List.mem_of_getElem? (i := 741) (by decide +kernel), List.mem_of_getElem? (i := 887) (by decide +kernel), List.mem_of_getElem? (i := 888) (by decide +kernel)⟩
theorem lw_p27 : lw_okq (⟨"BoardRemembersModel", "readsStroke", "(II)I"⟩, 36) := ⟨⟨by decide +kernel, by decide +kernel⟩, List.mem_of_getElem? (i := 741) (by decide +kernel), List.mem_of_getElem? (i := 891) (by decide +kernel), List.mem_of_getElem? (i := 892) (by decide +kernel)⟩
theorem lw_p28 : lw_okq (⟨"BoardRemembersModel", "isWell", "(II)Z"⟩, 36) := ⟨⟨by decide +kernel, by decide +kernel⟩, List.mem_of_getElem? (i := 741) (by decide +kernel), List.mem_of_getElem? (i := 895) (by decide +kernel), List.mem_of_getElem? (i := 896) (by decide +kernel)⟩
theorem lw_p29 : lw_okq (⟨"BoardRemembersModel", "byteAt", "(I)I"⟩, 36) := ⟨⟨by decide +kernel, by decide +kernel⟩, List.mem_of_getElem? (i := 741) (by decide +kernel), List.mem_of_getElem? (i := 899) (by decide +kernel), List.mem_of_getElem? (i := 900) (by decide +kernel)⟩
theorem lw_p30 : lw_okq (⟨"BoardRemembersModel", "dampOf", "(I)I"⟩, 36) := ⟨⟨by decide +kernel, by decide +kernel⟩, List.mem_of_getElem? (i := 741) (by decide +kernel), List.mem_of_getElem? (i := 910) (by decide +kernel), List.mem_of_getElem? (i := 911) (by decide +kernel)⟩
theorem lw_p31 : lw_okq (⟨"BoardRemembersModel", "reads", "()V"⟩, 36) := ⟨⟨by decide +kernel, by decide +kernel⟩, List.mem_of_getElem? (i := 741) (by decide +kernel), List.mem_of_getElem? (i := 914) (by decide +kernel), List.mem_of_getElem? (i := 915) (by decide +kernel)⟩
def lw_privs_2 : List (MethodName × Nat) := [(⟨"BoardRemembers", "tryWithout", "(I)V"⟩, 18), (⟨"BoardRemembers", "agrees", "(LBoardRemembers$Board;LBoardRemembers$Course;I)Z"⟩, 18), (⟨"BoardRemembers", "viewWithoutEach", "(II)V"⟩, 18), (⟨"BoardRemembers", "mostAlike", "(II)I"⟩, 18), (⟨"BoardRemembers", "reckonChance", "(III)V"⟩, 18), (⟨"BoardRemembers", "withDay", "(JI)J"⟩, 18), (⟨"BoardRemembers", "withStroke", "(JI)J"⟩, 18), (⟨"BoardRemembers", "withFewest", "(J)J"⟩, 18), (⟨"BoardRemembersModel", "faultOf", "(I)I"⟩, 36), (⟨"BoardRemembersModel", "readsDamps", "()I"⟩, 36), (⟨"BoardRemembersModel", "readsStrokes", "()I"⟩, 36), (⟨"BoardRemembersModel", "readsStroke", "(II)I"⟩, 36), (⟨"BoardRemembersModel", "isWell", "(II)Z"⟩, 36), (⟨"BoardRemembersModel", "byteAt", "(I)I"⟩, 36), (⟨"BoardRemembersModel", "dampOf", "(I)I"⟩, 36), (⟨"BoardRemembersModel", "reads", "()V"⟩, 36)]
theorem lw_r2 : ∀ q ∈ lw_privs_2, lw_okq q := List.forall_mem_cons.mpr ⟨lw_p16, List.forall_mem_cons.mpr ⟨lw_p17, List.forall_mem_cons.mpr ⟨lw_p18, List.forall_mem_cons.mpr ⟨lw_p19, List.forall_mem_cons.mpr ⟨lw_p20, List.forall_mem_cons.mpr ⟨lw_p21, List.forall_mem_cons.mpr ⟨lw_p22, List.forall_mem_cons.mpr ⟨lw_p23, List.forall_mem_cons.mpr ⟨lw_p24, List.forall_mem_cons.mpr ⟨lw_p25, List.forall_mem_cons.mpr ⟨lw_p26, List.forall_mem_cons.mpr ⟨lw_p27, List.forall_mem_cons.mpr ⟨lw_p28, List.forall_mem_cons.mpr ⟨lw_p29, List.forall_mem_cons.mpr ⟨lw_p30, List.forall_mem_cons.mpr ⟨lw_p31, fun _ h => absurd h List.not_mem_nil⟩⟩⟩⟩⟩⟩⟩⟩⟩⟩⟩⟩⟩⟩⟩⟩
theorem lw_p32 : lw_okq (⟨"BoardRemembersModel", "isStroke", "(I)Z"⟩, 36) := ⟨⟨by decide +kernel, by decide +kernel⟩, List.mem_of_getElem? (i := 741) (by decide +kernel), List.mem_of_getElem? (i := 922) (by decide +kernel), List.mem_of_getElem? (i := 923) (by decide +kernel)⟩
theorem lw_p33 : lw_okq (⟨"BoardRemembersModel", "strokeOf", "(II)I"⟩, 36) := ⟨⟨by decide +kernel, by decide +kernel⟩, List.mem_of_getElem? (i := 741) (by decide +kernel), List.mem_of_getElem? (i := 926) (by decide +kernel), List.mem_of_getElem? (i := 927) (by decide +kernel)⟩
theorem lw_p34 : lw_okq (⟨"BoardRemembersModel", "meets", "(I)I"⟩, 36) := ⟨⟨by decide +kernel, by decide +kernel⟩, List.mem_of_getElem? (i := 741) (by decide +kernel), List.mem_of_getElem? (i := 953) (by decide +kernel), List.mem_of_getElem? (i := 954) (by decide +kernel)⟩
theorem lw_p35 : lw_okq (⟨"BoardRemembersModel", "standsOf", "(II)I"⟩, 36) := ⟨⟨by decide +kernel, by decide +kernel⟩, List.mem_of_getElem? (i := 741) (by decide +kernel), List.mem_of_getElem? (i := 965) (by decide +kernel), List.mem_of_getElem? (i := 966) (by decide +kernel)⟩
theorem lw_p36 : lw_okq (⟨"BoardRemembersModel", "runsTold", "()V"⟩, 36) := ⟨⟨by decide +kernel, by decide +kernel⟩, List.mem_of_getElem? (i := 741) (by decide +kernel), List.mem_of_getElem? (i := 969) (by decide +kernel), List.mem_of_getElem? (i := 970) (by decide +kernel)⟩
theorem lw_p37 : lw_okq (⟨"BoardRemembersModel", "asTold", "()V"⟩, 36) := ⟨⟨by decide +kernel, by decide +kernel⟩, List.mem_of_getElem? (i := 741) (by decide +kernel), List.mem_of_getElem? (i := 973) (by decide +kernel), List.mem_of_getElem? (i := 974) (by decide +kernel)⟩
theorem lw_p38 : lw_okq (⟨"BoardRemembersModel", "runs", "()V"⟩, 36) := ⟨⟨by decide +kernel, by decide +kernel⟩, List.mem_of_getElem? (i := 741) (by decide +kernel), List.mem_of_getElem? (i := 977) (by decide +kernel), List.mem_of_getElem? (i := 978) (by decide +kernel)⟩
theorem lw_p39 : lw_okq (⟨"BoardRemembersModel", "goesBy", "(I)V"⟩, 36) := ⟨⟨by decide +kernel, by decide +kernel⟩, List.mem_of_getElem? (i := 741) (by decide +kernel), List.mem_of_getElem? (i := 981) (by decide +kernel), List.mem_of_getElem? (i := 982) (by decide +kernel)⟩
theorem lw_p40 : lw_okq (⟨"BoardRemembersModel", "goesIn", "(I)V"⟩, 36) := ⟨⟨by decide +kernel, by decide +kernel⟩, List.mem_of_getElem? (i := 741) (by decide +kernel), List.mem_of_getElem? (i := 985) (by decide +kernel), List.mem_of_getElem? (i := 986) (by decide +kernel)⟩
theorem lw_p41 : lw_okq (⟨"BoardRemembersModel", "isOiled", "(II)Z"⟩, 36) := ⟨⟨by decide +kernel, by decide +kernel⟩, List.mem_of_getElem? (i := 741) (by decide +kernel), List.mem_of_getElem? (i := 992) (by decide +kernel), List.mem_of_getElem? (i := 993) (by decide +kernel)⟩
theorem lw_p42 : lw_okq (⟨"BoardRemembersModel", "isTop", "(I)Z"⟩, 36) := ⟨⟨by decide +kernel, by decide +kernel⟩, List.mem_of_getElem? (i := 741) (by decide +kernel), List.mem_of_getElem? (i := 996) (by decide +kernel), List.mem_of_getElem? (i := 997) (by decide +kernel)⟩
theorem lw_p43 : lw_okq (⟨"BoardRemembersModel", "standsNow", "(II)I"⟩, 36) := ⟨⟨by decide +kernel, by decide +kernel⟩, List.mem_of_getElem? (i := 741) (by decide +kernel), List.mem_of_getElem? (i := 1000) (by decide +kernel), List.mem_of_getElem? (i := 1001) (by decide +kernel)⟩
theorem lw_p44 : lw_okq (⟨"BoardRemembersModel", "stateOf", "(III)I"⟩, 36) := ⟨⟨by decide +kernel, by decide +kernel⟩, List.mem_of_getElem? (i := 741) (by decide +kernel), List.mem_of_getElem? (i := 1008) (by decide +kernel), List.mem_of_getElem? (i := 1009) (by decide +kernel)⟩
theorem lw_p45 : lw_okq (⟨"BoardRemembersModel", "upOf", "(I)I"⟩, 36) := ⟨⟨by decide +kernel, by decide +kernel⟩, List.mem_of_getElem? (i := 741) (by decide +kernel), List.mem_of_getElem? (i := 1016) (by decide +kernel), List.mem_of_getElem? (i := 1017) (by decide +kernel)⟩
theorem lw_p46 : lw_okq (⟨"BoardRemembersModel", "upsOf", "(I)I"⟩, 36) := ⟨⟨by decide +kernel, by decide +kernel⟩, List.mem_of_getElem? (i := 741) (by decide +kernel), List.mem_of_getElem? (i := 1020) (by decide +kernel), List.mem_of_getElem? (i := 1021) (by decide +kernel)⟩
theorem lw_p47 : lw_okq (⟨"BoardRemembersModel", "throughOf", "(I)I"⟩, 36) := ⟨⟨by decide +kernel, by decide +kernel⟩, List.mem_of_getElem? (i := 741) (by decide +kernel), List.mem_of_getElem? (i := 1028) (by decide +kernel), List.mem_of_getElem? (i := 1029) (by decide +kernel)⟩
def lw_privs_3 : List (MethodName × Nat) := [(⟨"BoardRemembersModel", "isStroke", "(I)Z"⟩, 36), (⟨"BoardRemembersModel", "strokeOf", "(II)I"⟩, 36), (⟨"BoardRemembersModel", "meets", "(I)I"⟩, 36), (⟨"BoardRemembersModel", "standsOf", "(II)I"⟩, 36), (⟨"BoardRemembersModel", "runsTold", "()V"⟩, 36), (⟨"BoardRemembersModel", "asTold", "()V"⟩, 36), (⟨"BoardRemembersModel", "runs", "()V"⟩, 36), (⟨"BoardRemembersModel", "goesBy", "(I)V"⟩, 36), (⟨"BoardRemembersModel", "goesIn", "(I)V"⟩, 36), (⟨"BoardRemembersModel", "isOiled", "(II)Z"⟩, 36), (⟨"BoardRemembersModel", "isTop", "(I)Z"⟩, 36), (⟨"BoardRemembersModel", "standsNow", "(II)I"⟩, 36), (⟨"BoardRemembersModel", "stateOf", "(III)I"⟩, 36), (⟨"BoardRemembersModel", "upOf", "(I)I"⟩, 36), (⟨"BoardRemembersModel", "upsOf", "(I)I"⟩, 36), (⟨"BoardRemembersModel", "throughOf", "(I)I"⟩, 36)]
theorem lw_r3 : ∀ q ∈ lw_privs_3, lw_okq q := List.forall_mem_cons.mpr ⟨lw_p32, List.forall_mem_cons.mpr ⟨lw_p33, List.forall_mem_cons.mpr ⟨lw_p34, List.forall_mem_cons.mpr ⟨lw_p35, List.forall_mem_cons.mpr ⟨lw_p36, List.forall_mem_cons.mpr ⟨lw_p37, List.forall_mem_cons.mpr ⟨lw_p38, List.forall_mem_cons.mpr ⟨lw_p39, List.forall_mem_cons.mpr ⟨lw_p40, List.forall_mem_cons.mpr ⟨lw_p41, List.forall_mem_cons.mpr ⟨lw_p42, List.forall_mem_cons.mpr ⟨lw_p43, List.forall_mem_cons.mpr ⟨lw_p44, List.forall_mem_cons.mpr ⟨lw_p45, List.forall_mem_cons.mpr ⟨lw_p46, List.forall_mem_cons.mpr ⟨lw_p47, fun _ h => absurd h List.not_mem_nil⟩⟩⟩⟩⟩⟩⟩⟩⟩⟩⟩⟩⟩⟩⟩⟩
theorem lw_p48 : lw_okq (⟨"BoardRemembersModel", "misreadOf", "(I)I"⟩, 36) := ⟨⟨by decide +kernel, by decide +kernel⟩, List.mem_of_getElem? (i := 741) (by decide +kernel), List.mem_of_getElem? (i := 1039) (by decide +kernel), List.mem_of_getElem? (i := 1040) (by decide +kernel)⟩
theorem lw_p49 : lw_okq (⟨"BoardRemembersModel", "isMisread", "(II)Z"⟩, 36) := ⟨⟨by decide +kernel, by decide +kernel⟩, List.mem_of_getElem? (i := 741) (by decide +kernel), List.mem_of_getElem? (i := 1043) (by decide +kernel), List.mem_of_getElem? (i := 1044) (by decide +kernel)⟩
theorem lw_p50 : lw_okq (⟨"BoardRemembersModel", "mostNow", "()I"⟩, 36) := ⟨⟨by decide +kernel, by decide +kernel⟩, List.mem_of_getElem? (i := 741) (by decide +kernel), List.mem_of_getElem? (i := 1051) (by decide +kernel), List.mem_of_getElem? (i := 1052) (by decide +kernel)⟩
theorem lw_p51 : lw_okq (⟨"BoardRemembersModel", "deepOf", "(I)I"⟩, 36) := ⟨⟨by decide +kernel, by decide +kernel⟩, List.mem_of_getElem? (i := 741) (by decide +kernel), List.mem_of_getElem? (i := 1059) (by decide +kernel), List.mem_of_getElem? (i := 1060) (by decide +kernel)⟩
theorem lw_p52 : lw_okq (⟨"BoardRemembersModel", "oilOf", "(I)I"⟩, 36) := ⟨⟨by decide +kernel, by decide +kernel⟩, List.mem_of_getElem? (i := 741) (by decide +kernel), List.mem_of_getElem? (i := 1067) (by decide +kernel), List.mem_of_getElem? (i := 1068) (by decide +kernel)⟩
theorem lw_p53 : lw_okq (⟨"BoardRemembersModel", "allUp", "()I"⟩, 36) := ⟨⟨by decide +kernel, by decide +kernel⟩, List.mem_of_getElem? (i := 741) (by decide +kernel), List.mem_of_getElem? (i := 1071) (by decide +kernel), List.mem_of_getElem? (i := 1072) (by decide +kernel)⟩
theorem lw_p54 : lw_okq (⟨"BoardRemembersModel", "whenOf", "(II)I"⟩, 36) := ⟨⟨by decide +kernel, by decide +kernel⟩, List.mem_of_getElem? (i := 741) (by decide +kernel), List.mem_of_getElem? (i := 1079) (by decide +kernel), List.mem_of_getElem? (i := 1080) (by decide +kernel)⟩
theorem lw_p55 : lw_okq (⟨"BoardRemembersModel", "placeOf", "(II)I"⟩, 36) := ⟨⟨by decide +kernel, by decide +kernel⟩, List.mem_of_getElem? (i := 741) (by decide +kernel), List.mem_of_getElem? (i := 1087) (by decide +kernel), List.mem_of_getElem? (i := 1088) (by decide +kernel)⟩
theorem lw_p56 : lw_okq (⟨"BoardRemembersModel", "dryOf", "(I)I"⟩, 36) := ⟨⟨by decide +kernel, by decide +kernel⟩, List.mem_of_getElem? (i := 741) (by decide +kernel), List.mem_of_getElem? (i := 1095) (by decide +kernel), List.mem_of_getElem? (i := 1096) (by decide +kernel)⟩
theorem lw_p57 : lw_okq (⟨"BoardRemembersModel", "neverNow", "()I"⟩, 36) := ⟨⟨by decide +kernel, by decide +kernel⟩, List.mem_of_getElem? (i := 741) (by decide +kernel), List.mem_of_getElem? (i := 1111) (by decide +kernel), List.mem_of_getElem? (i := 1112) (by decide +kernel)⟩
theorem lw_p58 : lw_okq (⟨"BoardRemembersModel", "isSeen", "()Z"⟩, 36) := ⟨⟨by decide +kernel, by decide +kernel⟩, List.mem_of_getElem? (i := 741) (by decide +kernel), List.mem_of_getElem? (i := 1115) (by decide +kernel), List.mem_of_getElem? (i := 1116) (by decide +kernel)⟩
theorem lw_p59 : lw_okq (⟨"BoardRemembersModel", "signOf", "(I)I"⟩, 36) := ⟨⟨by decide +kernel, by decide +kernel⟩, List.mem_of_getElem? (i := 741) (by decide +kernel), List.mem_of_getElem? (i := 1123) (by decide +kernel), List.mem_of_getElem? (i := 1124) (by decide +kernel)⟩
theorem lw_p60 : lw_okq (⟨"BoardRemembersModel", "chalkOf", "(I)I"⟩, 36) := ⟨⟨by decide +kernel, by decide +kernel⟩, List.mem_of_getElem? (i := 741) (by decide +kernel), List.mem_of_getElem? (i := 1131) (by decide +kernel), List.mem_of_getElem? (i := 1132) (by decide +kernel)⟩
theorem lw_p61 : lw_okq (⟨"BoardRemembersModel", "askOf", "(I)I"⟩, 36) := ⟨⟨by decide +kernel, by decide +kernel⟩, List.mem_of_getElem? (i := 741) (by decide +kernel), List.mem_of_getElem? (i := 1139) (by decide +kernel), List.mem_of_getElem? (i := 1140) (by decide +kernel)⟩
theorem lw_p62 : lw_okq (⟨"BoardRemembersModel", "drynessOf", "(IIII)J"⟩, 36) := ⟨⟨by decide +kernel, by decide +kernel⟩, List.mem_of_getElem? (i := 741) (by decide +kernel), List.mem_of_getElem? (i := 1147) (by decide +kernel), List.mem_of_getElem? (i := 1148) (by decide +kernel)⟩
theorem lw_p63 : lw_okq (⟨"BoardRemembersModel", "weatherOf", "(III)I"⟩, 36) := ⟨⟨by decide +kernel, by decide +kernel⟩, List.mem_of_getElem? (i := 741) (by decide +kernel), List.mem_of_getElem? (i := 1162) (by decide +kernel), List.mem_of_getElem? (i := 1163) (by decide +kernel)⟩
def lw_privs_4 : List (MethodName × Nat) := [(⟨"BoardRemembersModel", "misreadOf", "(I)I"⟩, 36), (⟨"BoardRemembersModel", "isMisread", "(II)Z"⟩, 36), (⟨"BoardRemembersModel", "mostNow", "()I"⟩, 36), (⟨"BoardRemembersModel", "deepOf", "(I)I"⟩, 36), (⟨"BoardRemembersModel", "oilOf", "(I)I"⟩, 36), (⟨"BoardRemembersModel", "allUp", "()I"⟩, 36), (⟨"BoardRemembersModel", "whenOf", "(II)I"⟩, 36), (⟨"BoardRemembersModel", "placeOf", "(II)I"⟩, 36), (⟨"BoardRemembersModel", "dryOf", "(I)I"⟩, 36), (⟨"BoardRemembersModel", "neverNow", "()I"⟩, 36), (⟨"BoardRemembersModel", "isSeen", "()Z"⟩, 36), (⟨"BoardRemembersModel", "signOf", "(I)I"⟩, 36), (⟨"BoardRemembersModel", "chalkOf", "(I)I"⟩, 36), (⟨"BoardRemembersModel", "askOf", "(I)I"⟩, 36), (⟨"BoardRemembersModel", "drynessOf", "(IIII)J"⟩, 36), (⟨"BoardRemembersModel", "weatherOf", "(III)I"⟩, 36)]
theorem lw_r4 : ∀ q ∈ lw_privs_4, lw_okq q := List.forall_mem_cons.mpr ⟨lw_p48, List.forall_mem_cons.mpr ⟨lw_p49, List.forall_mem_cons.mpr ⟨lw_p50, List.forall_mem_cons.mpr ⟨lw_p51, List.forall_mem_cons.mpr ⟨lw_p52, List.forall_mem_cons.mpr ⟨lw_p53, List.forall_mem_cons.mpr ⟨lw_p54, List.forall_mem_cons.mpr ⟨lw_p55, List.forall_mem_cons.mpr ⟨lw_p56, List.forall_mem_cons.mpr ⟨lw_p57, List.forall_mem_cons.mpr ⟨lw_p58, List.forall_mem_cons.mpr ⟨lw_p59, List.forall_mem_cons.mpr ⟨lw_p60, List.forall_mem_cons.mpr ⟨lw_p61, List.forall_mem_cons.mpr ⟨lw_p62, List.forall_mem_cons.mpr ⟨lw_p63, fun _ h => absurd h List.not_mem_nil⟩⟩⟩⟩⟩⟩⟩⟩⟩⟩⟩⟩⟩⟩⟩⟩
theorem lw_p64 : lw_okq (⟨"BoardRemembersModel", "lacks", "(III)I"⟩, 36) := ⟨⟨by decide +kernel, by decide +kernel⟩, List.mem_of_getElem? (i := 741) (by decide +kernel), List.mem_of_getElem? (i := 1179) (by decide +kernel), List.mem_of_getElem? (i := 1180) (by decide +kernel)⟩
theorem lw_p65 : lw_okq (⟨"BoardRemembersModel", "keep", "(III)V"⟩, 36) := ⟨⟨by decide +kernel, by decide +kernel⟩, List.mem_of_getElem? (i := 741) (by decide +kernel), List.mem_of_getElem? (i := 1183) (by decide +kernel), List.mem_of_getElem? (i := 1184) (by decide +kernel)⟩
theorem lw_p66 : lw_okq (⟨"BoardRemembersModel", "sumOf", "(I)I"⟩, 36) := ⟨⟨by decide +kernel, by decide +kernel⟩, List.mem_of_getElem? (i := 741) (by decide +kernel), List.mem_of_getElem? (i := 1204) (by decide +kernel), List.mem_of_getElem? (i := 1205) (by decide +kernel)⟩
theorem lw_p67 : lw_okq (⟨"BoardRemembersModel", "dayDigest", "(JI)J"⟩, 36) := ⟨⟨by decide +kernel, by decide +kernel⟩, List.mem_of_getElem? (i := 741) (by decide +kernel), List.mem_of_getElem? (i := 1215) (by decide +kernel), List.mem_of_getElem? (i := 1216) (by decide +kernel)⟩
theorem lw_p68 : lw_okq (⟨"BoardRemembersModel", "strokeDigest", "(JI)J"⟩, 36) := ⟨⟨by decide +kernel, by decide +kernel⟩, List.mem_of_getElem? (i := 741) (by decide +kernel), List.mem_of_getElem? (i := 1219) (by decide +kernel), List.mem_of_getElem? (i := 1220) (by decide +kernel)⟩
def lw_privs_5 : List (MethodName × Nat) := [(⟨"BoardRemembersModel", "lacks", "(III)I"⟩, 36), (⟨"BoardRemembersModel", "keep", "(III)V"⟩, 36), (⟨"BoardRemembersModel", "sumOf", "(I)I"⟩, 36), (⟨"BoardRemembersModel", "dayDigest", "(JI)J"⟩, 36), (⟨"BoardRemembersModel", "strokeDigest", "(JI)J"⟩, 36)]
theorem lw_r5 : ∀ q ∈ lw_privs_5, lw_okq q := List.forall_mem_cons.mpr ⟨lw_p64, List.forall_mem_cons.mpr ⟨lw_p65, List.forall_mem_cons.mpr ⟨lw_p66, List.forall_mem_cons.mpr ⟨lw_p67, List.forall_mem_cons.mpr ⟨lw_p68, fun _ h => absurd h List.not_mem_nil⟩⟩⟩⟩⟩
def lw_privs : List (MethodName × Nat) := lw_privs_1 ++ (lw_privs_2 ++ (lw_privs_3 ++ (lw_privs_4 ++ (lw_privs_5))))
def lw_tbl : List Cond := k2_sels lw_privs ++ tables_1
theorem lw_privs_ok : ∀ q ∈ lw_privs, lw_okq q := by
  show ∀ q ∈ lw_privs_1 ++ (lw_privs_2 ++ (lw_privs_3 ++ (lw_privs_4 ++ (lw_privs_5)))), lw_okq q
  exact List.forall_mem_append.mpr ⟨lw_r1, List.forall_mem_append.mpr ⟨lw_r2, List.forall_mem_append.mpr ⟨lw_r3, List.forall_mem_append.mpr ⟨lw_r4, lw_r5⟩⟩⟩⟩
end
section
def RX0 : String := "BoardRemembers$Board"
def TX0 : u_T := fun k => match k with
  | 0 => ("BoardRemembers$Board", "size", "I", false)
  | 1 => ("BoardRemembers$Board", "days", "[I", true)
  | 2 => ("BoardRemembers$Board", "cells", "[I", true)
  | 3 => ("BoardRemembers$Board", "signs", "[I", true)
  | 4 => ("BoardRemembers$Board", "chalks", "[I", true)
  | 5 => ("BoardRemembers$Board", "mates", "[I", true)
  | 6 => ("BoardRemembers$Board", "written", "[I", true)
  | 7 => ("BoardRemembers$Board", "inside", "[I", true)
  | _ => ("BoardRemembers$Board", "able", "[I", true)
def tyX0 : Nat → FieldType := fun k => match k with
  | 0 => .int
  | 1 => .array .int
  | 2 => .array .int
  | 3 => .array .int
  | 4 => .array .int
  | 5 => .array .int
  | 6 => .array .int
  | 7 => .array .int
  | _ => .array .int
abbrev wsX00 : List Cond := u_ws RX0 TX0 9
theorem nmX0 : ∀ a, a < 9 → ∀ b, b < 9 → a ≠ b → (TX0 a).2.1 ≠ (TX0 b).2.1 := by decide +kernel
theorem tyX0_ok : ∀ k, k < 9 → parseFieldDescriptor (TX0 k).2.2.1 = some (tyX0 k) := by decide +kernel
abbrev cX0_init : ByteArray := prog_2_method_1_code
def yX0_init : MethodName := ⟨RX0, "<init>", "()V"⟩
abbrev cX0_takeStrokes : ByteArray := prog_2_method_2_code
def yX0_takeStrokes : MethodName := ⟨RX0, "takeStrokes", "(LBoardRemembers$Board;)V"⟩
abbrev cX0_everyone : ByteArray := prog_2_method_3_code
def yX0_everyone : MethodName := ⟨RX0, "everyone", "()I"⟩
abbrev cX0_onCell : ByteArray := prog_2_method_4_code
def yX0_onCell : MethodName := ⟨RX0, "onCell", "(I)I"⟩
abbrev cX0_withMates : ByteArray := prog_2_method_5_code
def yX0_withMates : MethodName := ⟨RX0, "withMates", "(I)I"⟩
abbrev cX0_settle : ByteArray := prog_2_method_6_code
def yX0_settle : MethodName := ⟨RX0, "settle", "(ILBoardRemembers$Care;)V"⟩
abbrev cX0_goesIn : ByteArray := prog_2_method_7_code
def yX0_goesIn : MethodName := ⟨RX0, "goesIn", "(ILBoardRemembers$Care;)I"⟩
abbrev cX0_settleStroke : ByteArray := prog_2_method_8_code
def yX0_settleStroke : MethodName := ⟨RX0, "settleStroke", "(II)V"⟩
abbrev cX0_settleAble : ByteArray := prog_2_method_9_code
def yX0_settleAble : MethodName := ⟨RX0, "settleAble", "(II)V"⟩
abbrev cX0_freshStrengths : ByteArray := prog_2_method_10_code
def yX0_freshStrengths : MethodName := ⟨RX0, "freshStrengths", "()I"⟩
abbrev cX0_risenOn : ByteArray := prog_2_method_11_code
def yX0_risenOn : MethodName := ⟨RX0, "risenOn", "(III)I"⟩
abbrev cX0_strongest : ByteArray := prog_2_method_12_code
def yX0_strongest : MethodName := ⟨RX0, "strongest", "(II)I"⟩
abbrev cX0_weathered : ByteArray := prog_2_method_13_code
def yX0_weathered : MethodName := ⟨RX0, "weathered", "(IIIZ)I"⟩
abbrev cX0_shownOn : ByteArray := prog_2_method_14_code
def yX0_shownOn : MethodName := ⟨RX0, "shownOn", "(III)I"⟩
abbrev cX0_signRisen : ByteArray := prog_2_method_15_code
def yX0_signRisen : MethodName := ⟨RX0, "signRisen", "(II)I"⟩
abbrev cX0_linesOf : ByteArray := prog_2_method_16_code
def yX0_linesOf : MethodName := ⟨RX0, "linesOf", "(I)I"⟩
abbrev cX0_deepestCell : ByteArray := prog_2_method_17_code
def yX0_deepestCell : MethodName := ⟨RX0, "deepestCell", "(I)I"⟩
def RX1 : String := "BoardRemembers$Care"
def TX1 : u_T := fun k => match k with
  | 0 => ("BoardRemembers$Care", "wipeDays", "[I", true)
  | 1 => ("BoardRemembers$Care", "wipeLines", "[I", true)
  | 2 => ("BoardRemembers$Care", "oilDays", "[I", true)
  | 3 => ("BoardRemembers$Care", "oilLines", "[I", true)
  | 4 => ("BoardRemembers$Care", "wipes", "I", false)
  | _ => ("BoardRemembers$Care", "oils", "I", false)
def tyX1 : Nat → FieldType := fun k => match k with
  | 0 => .array .int
  | 1 => .array .int
  | 2 => .array .int
  | 3 => .array .int
  | 4 => .int
  | _ => .int
abbrev wsX10 : List Cond := u_ws RX1 TX1 6
theorem nmX1 : ∀ a, a < 6 → ∀ b, b < 6 → a ≠ b → (TX1 a).2.1 ≠ (TX1 b).2.1 := by decide +kernel
theorem tyX1_ok : ∀ k, k < 6 → parseFieldDescriptor (TX1 k).2.2.1 = some (tyX1 k) := by decide +kernel
abbrev cX1_init : ByteArray := prog_3_method_1_code
def yX1_init : MethodName := ⟨RX1, "<init>", "()V"⟩
abbrev cX1_addWipe : ByteArray := prog_3_method_2_code
def yX1_addWipe : MethodName := ⟨RX1, "addWipe", "(II)Z"⟩
abbrev cX1_addOil : ByteArray := prog_3_method_3_code
def yX1_addOil : MethodName := ⟨RX1, "addOil", "(II)Z"⟩
abbrev cX1_wipedBehind : ByteArray := prog_3_method_4_code
def yX1_wipedBehind : MethodName := ⟨RX1, "wipedBehind", "(II)I"⟩
abbrev cX1_oiledFrom : ByteArray := prog_3_method_5_code
def yX1_oiledFrom : MethodName := ⟨RX1, "oiledFrom", "(I)I"⟩
def RX2 : String := "BoardRemembers$Chance"
def TX2 : u_T := fun k => match k with
  | 0 => ("BoardRemembers$Chance", "sixteenths", "I", false)
  | 1 => ("BoardRemembers$Chance", "last", "I", false)
  | 2 => ("BoardRemembers$Chance", "day", "I", false)
  | 3 => ("BoardRemembers$Chance", "fineBelow", "I", false)
  | 4 => ("BoardRemembers$Chance", "above", "J", false)
  | _ => ("BoardRemembers$Chance", "below", "J", false)
def tyX2 : Nat → FieldType := fun k => match k with
  | 0 => .int
  | 1 => .int
  | 2 => .int
  | 3 => .int
  | 4 => .long
  | _ => .long
abbrev wsX20 : List Cond := u_ws RX2 TX2 6
theorem nmX2 : ∀ a, a < 6 → ∀ b, b < 6 → a ≠ b → (TX2 a).2.1 ≠ (TX2 b).2.1 := by decide +kernel
theorem tyX2_ok : ∀ k, k < 6 → parseFieldDescriptor (TX2 k).2.2.1 = some (tyX2 k) := by decide +kernel
abbrev cX2_init : ByteArray := prog_4_method_1_code
def yX2_init : MethodName := ⟨RX2, "<init>", "()V"⟩
abbrev cX2_reduce : ByteArray := prog_4_method_2_code
def yX2_reduce : MethodName := ⟨RX2, "reduce", "(JI)V"⟩
def RX3 : String := "BoardRemembers$Course"
def TX3 : u_T := fun k => match k with
  | 0 => ("BoardRemembers$Course", "risen", "[I", true)
  | _ => ("BoardRemembers$Course", "strengths", "[I", true)
def tyX3 : Nat → FieldType := fun k => match k with
  | 0 => .array .int
  | _ => .array .int
abbrev wsX30 : List Cond := u_ws RX3 TX3 2
theorem nmX3 : ∀ a, a < 2 → ∀ b, b < 2 → a ≠ b → (TX3 a).2.1 ≠ (TX3 b).2.1 := by decide +kernel
theorem tyX3_ok : ∀ k, k < 2 → parseFieldDescriptor (TX3 k).2.2.1 = some (tyX3 k) := by decide +kernel
abbrev cX3_init : ByteArray := prog_5_method_1_code
def yX3_init : MethodName := ⟨RX3, "<init>", "()V"⟩
abbrev cX3_follow : ByteArray := prog_5_method_2_code
def yX3_follow : MethodName := ⟨RX3, "follow", "(LBoardRemembers$Board;[II)V"⟩
abbrev cX3_upsOf : ByteArray := prog_5_method_3_code
def yX3_upsOf : MethodName := ⟨RX3, "upsOf", "(I)I"⟩
abbrev cX3_total : ByteArray := prog_5_method_4_code
def yX3_total : MethodName := ⟨RX3, "total", "()I"⟩
abbrev cX3_daysWithSome : ByteArray := prog_5_method_5_code
def yX3_daysWithSome : MethodName := ⟨RX3, "daysWithSome", "()I"⟩
def RX4 : String := "BoardRemembers$Fewest"
def TX4 : u_T := fun k => match k with
  | 0 => ("BoardRemembers$Fewest", "which", "I", false)
  | _ => ("BoardRemembers$Fewest", "many", "I", false)
def tyX4 : Nat → FieldType := fun k => match k with
  | 0 => .int
  | _ => .int
abbrev wsX40 : List Cond := u_ws RX4 TX4 2
theorem nmX4 : ∀ a, a < 2 → ∀ b, b < 2 → a ≠ b → (TX4 a).2.1 ≠ (TX4 b).2.1 := by decide +kernel
theorem tyX4_ok : ∀ k, k < 2 → parseFieldDescriptor (TX4 k).2.2.1 = some (tyX4 k) := by decide +kernel
abbrev cX4_init : ByteArray := prog_6_method_1_code
def yX4_init : MethodName := ⟨RX4, "<init>", "()V"⟩
abbrev cX4_begin : ByteArray := prog_6_method_2_code
def yX4_begin : MethodName := ⟨RX4, "begin", "()V"⟩
abbrev cX4_offer : ByteArray := prog_6_method_3_code
def yX4_offer : MethodName := ⟨RX4, "offer", "(II)V"⟩
abbrev cX4_tell : ByteArray := prog_6_method_4_code
def yX4_tell : MethodName := ⟨RX4, "tell", "(I)I"⟩
def RX5 : String := "BoardRemembers$Sheet"
def TX5 : u_T := fun k => match k with
  | 0 => ("BoardRemembers$Sheet", "items", "[I", true)
  | 1 => ("BoardRemembers$Sheet", "lost", "Z", false)
  | 2 => ("BoardRemembers$Sheet", "form", "I", false)
  | _ => ("BoardRemembers$Sheet", "length", "I", false)
def tyX5 : Nat → FieldType := fun k => match k with
  | 0 => .array .int
  | 1 => .boolean
  | 2 => .int
  | _ => .int
abbrev wsX50 : List Cond := u_ws RX5 TX5 4
theorem nmX5 : ∀ a, a < 4 → ∀ b, b < 4 → a ≠ b → (TX5 a).2.1 ≠ (TX5 b).2.1 := by decide +kernel
theorem tyX5_ok : ∀ k, k < 4 → parseFieldDescriptor (TX5 k).2.2.1 = some (tyX5 k) := by decide +kernel
abbrev cX5_init : ByteArray := prog_7_method_1_code
def yX5_init : MethodName := ⟨RX5, "<init>", "()V"⟩
abbrev cX5_renew : ByteArray := prog_7_method_2_code
def yX5_renew : MethodName := ⟨RX5, "renew", "(II)V"⟩
abbrev cX5_findingAt : ByteArray := prog_7_method_3_code
def yX5_findingAt : MethodName := ⟨RX5, "findingAt", "(II)I"⟩
abbrev cX5_holds : ByteArray := prog_7_method_4_code
def yX5_holds : MethodName := ⟨RX5, "holds", "(II)Z"⟩
def RX6 : String := "BoardRemembers$Sights"
def TX6 : u_T := fun k => match k with
  | 0 => ("BoardRemembers$Sights", "days", "[I", true)
  | 1 => ("BoardRemembers$Sights", "cells", "[I", true)
  | 2 => ("BoardRemembers$Sights", "signs", "[I", true)
  | _ => ("BoardRemembers$Sights", "size", "I", false)
def tyX6 : Nat → FieldType := fun k => match k with
  | 0 => .array .int
  | 1 => .array .int
  | 2 => .array .int
  | _ => .int
abbrev wsX60 : List Cond := u_ws RX6 TX6 4
theorem nmX6 : ∀ a, a < 4 → ∀ b, b < 4 → a ≠ b → (TX6 a).2.1 ≠ (TX6 b).2.1 := by decide +kernel
theorem tyX6_ok : ∀ k, k < 4 → parseFieldDescriptor (TX6 k).2.2.1 = some (tyX6 k) := by decide +kernel
abbrev cX6_init : ByteArray := prog_8_method_1_code
def yX6_init : MethodName := ⟨RX6, "<init>", "()V"⟩
abbrev cX6_add : ByteArray := prog_8_method_2_code
def yX6_add : MethodName := ⟨RX6, "add", "(III)Z"⟩
def RX7 : String := "BoardRemembers$Text"
def TX7 : u_T := fun k => match k with
  | 0 => ("BoardRemembers$Text", "bytes", "[I", true)
  | _ => ("BoardRemembers$Text", "length", "I", false)
def tyX7 : Nat → FieldType := fun k => match k with
  | 0 => .array .int
  | _ => .int
abbrev wsX70 : List Cond := u_ws RX7 TX7 2
theorem nmX7 : ∀ a, a < 2 → ∀ b, b < 2 → a ≠ b → (TX7 a).2.1 ≠ (TX7 b).2.1 := by decide +kernel
theorem tyX7_ok : ∀ k, k < 2 → parseFieldDescriptor (TX7 k).2.2.1 = some (tyX7 k) := by decide +kernel
abbrev cX7_init : ByteArray := prog_9_method_1_code
def yX7_init : MethodName := ⟨RX7, "<init>", "(I)V"⟩
abbrev cX7_add : ByteArray := prog_9_method_2_code
def yX7_add : MethodName := ⟨RX7, "add", "(I)Z"⟩
abbrev cX7_at : ByteArray := prog_9_method_3_code
def yX7_at : MethodName := ⟨RX7, "at", "(I)I"⟩
def RX8 : String := "BoardRemembers"
def TX8 : u_T := fun k => match k with
  | 0 => ("BoardRemembers", "dampText", "LBoardRemembers$Text;", true)
  | 1 => ("BoardRemembers", "strokeText", "LBoardRemembers$Text;", true)
  | 2 => ("BoardRemembers", "damps", "[I", true)
  | 3 => ("BoardRemembers", "otherDamps", "[I", true)
  | 4 => ("BoardRemembers", "care", "LBoardRemembers$Care;", true)
  | 5 => ("BoardRemembers", "told", "LBoardRemembers$Board;", true)
  | 6 => ("BoardRemembers", "toldCourse", "LBoardRemembers$Course;", true)
  | 7 => ("BoardRemembers", "trial", "LBoardRemembers$Board;", true)
  | 8 => ("BoardRemembers", "trialCourse", "LBoardRemembers$Course;", true)
  | 9 => ("BoardRemembers", "sights", "LBoardRemembers$Sights;", true)
  | 10 => ("BoardRemembers", "fewest", "LBoardRemembers$Fewest;", true)
  | 11 => ("BoardRemembers", "chance", "LBoardRemembers$Chance;", true)
  | 12 => ("BoardRemembers", "sheets", "[LBoardRemembers$Sheet;", true)
  | 13 => ("BoardRemembers", "views", "[I", true)
  | 14 => ("BoardRemembers", "dampCount", "I", false)
  | 15 => ("BoardRemembers", "fineBelow", "I", false)
  | 16 => ("BoardRemembers", "latestFinding", "I", false)
  | _ => ("BoardRemembers", "stale", "Z", false)
def tyX8 : Nat → FieldType := fun k => match k with
  | 0 => .object "BoardRemembers$Text"
  | 1 => .object "BoardRemembers$Text"
  | 2 => .array .int
  | 3 => .array .int
  | 4 => .object "BoardRemembers$Care"
  | 5 => .object "BoardRemembers$Board"
  | 6 => .object "BoardRemembers$Course"
  | 7 => .object "BoardRemembers$Board"
  | 8 => .object "BoardRemembers$Course"
  | 9 => .object "BoardRemembers$Sights"
  | 10 => .object "BoardRemembers$Fewest"
  | 11 => .object "BoardRemembers$Chance"
  | 12 => .array (.object "BoardRemembers$Sheet")
  | 13 => .array .int
  | 14 => .int
  | 15 => .int
  | 16 => .int
  | _ => .boolean
abbrev wsX80 : List Cond := u_ws RX8 TX8 18
theorem nmX8 : ∀ a, a < 18 → ∀ b, b < 18 → a ≠ b → (TX8 a).2.1 ≠ (TX8 b).2.1 := by decide +kernel
theorem tyX8_ok : ∀ k, k < 18 → parseFieldDescriptor (TX8 k).2.2.1 = some (tyX8 k) := by decide +kernel
abbrev cX8_init : ByteArray := prog_1_method_1_code
def yX8_init : MethodName := ⟨RX8, "<init>", "()V"⟩
abbrev cX8_type : ByteArray := prog_1_method_2_code
def yX8_type : MethodName := ⟨RX8, "type", "(II)I"⟩
abbrev cX8_wipe : ByteArray := prog_1_method_3_code
def yX8_wipe : MethodName := ⟨RX8, "wipe", "(I)I"⟩
abbrev cX8_undo : ByteArray := prog_1_method_4_code
def yX8_undo : MethodName := ⟨RX8, "undo", "(I)I"⟩
abbrev cX8_fault : ByteArray := prog_1_method_5_code
def yX8_fault : MethodName := ⟨RX8, "fault", "(I)I"⟩
abbrev cX8_damp : ByteArray := prog_1_method_6_code
def yX8_damp : MethodName := ⟨RX8, "damp", "(I)I"⟩
abbrev cX8_stroke : ByteArray := prog_1_method_7_code
def yX8_stroke : MethodName := ⟨RX8, "stroke", "(II)I"⟩
abbrev cX8_fine : ByteArray := prog_1_method_8_code
def yX8_fine : MethodName := ⟨RX8, "fine", "(I)I"⟩
abbrev cX8_clean : ByteArray := prog_1_method_9_code
def yX8_clean : MethodName := ⟨RX8, "clean", "(II)I"⟩
abbrev cX8_grease : ByteArray := prog_1_method_10_code
def yX8_grease : MethodName := ⟨RX8, "grease", "(II)I"⟩
abbrev cX8_back : ByteArray := prog_1_method_11_code
def yX8_back : MethodName := ⟨RX8, "back", "(I)I"⟩
abbrev cX8_read : ByteArray := prog_1_method_12_code
def yX8_read : MethodName := ⟨RX8, "read", "(I)I"⟩
abbrev cX8_stands : ByteArray := prog_1_method_13_code
def yX8_stands : MethodName := ⟨RX8, "stands", "(II)I"⟩
abbrev cX8_state : ByteArray := prog_1_method_14_code
def yX8_state : MethodName := ⟨RX8, "state", "(III)I"⟩
abbrev cX8_up : ByteArray := prog_1_method_15_code
def yX8_up : MethodName := ⟨RX8, "up", "(I)I"⟩
abbrev cX8_through : ByteArray := prog_1_method_16_code
def yX8_through : MethodName := ⟨RX8, "through", "(I)I"⟩
abbrev cX8_misread : ByteArray := prog_1_method_17_code
def yX8_misread : MethodName := ⟨RX8, "misread", "(I)I"⟩
abbrev cX8_most : ByteArray := prog_1_method_18_code
def yX8_most : MethodName := ⟨RX8, "most", "()I"⟩
abbrev cX8_deep : ByteArray := prog_1_method_19_code
def yX8_deep : MethodName := ⟨RX8, "deep", "(I)I"⟩
abbrev cX8_oil : ByteArray := prog_1_method_20_code
def yX8_oil : MethodName := ⟨RX8, "oil", "(I)I"⟩
abbrev cX8_when : ByteArray := prog_1_method_21_code
def yX8_when : MethodName := ⟨RX8, "when", "(II)I"⟩
abbrev cX8_place : ByteArray := prog_1_method_22_code
def yX8_place : MethodName := ⟨RX8, "place", "(II)I"⟩
abbrev cX8_dry : ByteArray := prog_1_method_23_code
def yX8_dry : MethodName := ⟨RX8, "dry", "(I)I"⟩
abbrev cX8_seen : ByteArray := prog_1_method_24_code
def yX8_seen : MethodName := ⟨RX8, "seen", "(III)I"⟩
abbrev cX8_forget : ByteArray := prog_1_method_25_code
def yX8_forget : MethodName := ⟨RX8, "forget", "()I"⟩
abbrev cX8_never : ByteArray := prog_1_method_26_code
def yX8_never : MethodName := ⟨RX8, "never", "()I"⟩
abbrev cX8_sign : ByteArray := prog_1_method_27_code
def yX8_sign : MethodName := ⟨RX8, "sign", "(I)I"⟩
abbrev cX8_chalk : ByteArray := prog_1_method_28_code
def yX8_chalk : MethodName := ⟨RX8, "chalk", "(I)I"⟩
abbrev cX8_ask : ByteArray := prog_1_method_29_code
def yX8_ask : MethodName := ⟨RX8, "ask", "(I)I"⟩
abbrev cX8_dryness : ByteArray := prog_1_method_30_code
def yX8_dryness : MethodName := ⟨RX8, "dryness", "(IIII)J"⟩
abbrev cX8_weather : ByteArray := prog_1_method_31_code
def yX8_weather : MethodName := ⟨RX8, "weather", "(III)I"⟩
abbrev cX8_sheet : ByteArray := prog_1_method_32_code
def yX8_sheet : MethodName := ⟨RX8, "sheet", "(III)I"⟩
abbrev cX8_lose : ByteArray := prog_1_method_33_code
def yX8_lose : MethodName := ⟨RX8, "lose", "(I)I"⟩
abbrev cX8_put : ByteArray := prog_1_method_34_code
def yX8_put : MethodName := ⟨RX8, "put", "(IIII)I"⟩
abbrev cX8_get : ByteArray := prog_1_method_35_code
def yX8_get : MethodName := ⟨RX8, "get", "(III)I"⟩
abbrev cX8_copy : ByteArray := prog_1_method_36_code
def yX8_copy : MethodName := ⟨RX8, "copy", "(IIIII)I"⟩
abbrev cX8_write : ByteArray := prog_1_method_37_code
def yX8_write : MethodName := ⟨RX8, "write", "(II)I"⟩
abbrev cX8_count : ByteArray := prog_1_method_38_code
def yX8_count : MethodName := ⟨RX8, "count", "(I)I"⟩
abbrev cX8_digest : ByteArray := prog_1_method_39_code
def yX8_digest : MethodName := ⟨RX8, "digest", "()J"⟩
abbrev cX8_withDay : ByteArray := prog_1_method_40_code
def yX8_withDay : MethodName := ⟨RX8, "withDay", "(JI)J"⟩
abbrev cX8_withStroke : ByteArray := prog_1_method_41_code
def yX8_withStroke : MethodName := ⟨RX8, "withStroke", "(JI)J"⟩
abbrev cX8_withFewest : ByteArray := prog_1_method_42_code
def yX8_withFewest : MethodName := ⟨RX8, "withFewest", "(J)J"⟩
abbrev cX8_isText : ByteArray := prog_1_method_43_code
def yX8_isText : MethodName := ⟨RX8, "isText", "(I)Z"⟩
abbrev cX8_isEither : ByteArray := prog_1_method_44_code
def yX8_isEither : MethodName := ⟨RX8, "isEither", "(I)Z"⟩
abbrev cX8_isDay : ByteArray := prog_1_method_45_code
def yX8_isDay : MethodName := ⟨RX8, "isDay", "(I)Z"⟩
abbrev cX8_isLine : ByteArray := prog_1_method_46_code
def yX8_isLine : MethodName := ⟨RX8, "isLine", "(I)Z"⟩
abbrev cX8_isCell : ByteArray := prog_1_method_47_code
def yX8_isCell : MethodName := ⟨RX8, "isCell", "(I)Z"⟩
abbrev cX8_isSheet : ByteArray := prog_1_method_48_code
def yX8_isSheet : MethodName := ⟨RX8, "isSheet", "(I)Z"⟩
abbrev cX8_isForm : ByteArray := prog_1_method_49_code
def yX8_isForm : MethodName := ⟨RX8, "isForm", "(I)Z"⟩
abbrev cX8_isStroke : ByteArray := prog_1_method_50_code
def yX8_isStroke : MethodName := ⟨RX8, "isStroke", "(I)Z"⟩
abbrev cX8_only : ByteArray := prog_1_method_51_code
def yX8_only : MethodName := ⟨RX8, "only", "(I)I"⟩
abbrev cX8_has : ByteArray := prog_1_method_52_code
def yX8_has : MethodName := ⟨RX8, "has", "(II)Z"⟩
abbrev cX8_strengthIn : ByteArray := prog_1_method_53_code
def yX8_strengthIn : MethodName := ⟨RX8, "strengthIn", "(II)I"⟩
abbrev cX8_hasBit : ByteArray := prog_1_method_54_code
def yX8_hasBit : MethodName := ⟨RX8, "hasBit", "(II)Z"⟩
abbrev cX8_leastLine : ByteArray := prog_1_method_55_code
def yX8_leastLine : MethodName := ⟨RX8, "leastLine", "(I)I"⟩
abbrev cX8_lowestBits : ByteArray := prog_1_method_56_code
def yX8_lowestBits : MethodName := ⟨RX8, "lowestBits", "(II)I"⟩
abbrev cX8_found : ByteArray := prog_1_method_57_code
def yX8_found : MethodName := ⟨RX8, "found", "(I)I"⟩
abbrev cX8_textOf : ByteArray := prog_1_method_58_code
def yX8_textOf : MethodName := ⟨RX8, "textOf", "(I)LBoardRemembers$Text;"⟩
abbrev cX8_faultOfDamps : ByteArray := prog_1_method_59_code
def yX8_faultOfDamps : MethodName := ⟨RX8, "faultOfDamps", "()I"⟩
abbrev cX8_faultOfStrokes : ByteArray := prog_1_method_60_code
def yX8_faultOfStrokes : MethodName := ⟨RX8, "faultOfStrokes", "()I"⟩
abbrev cX8_fitsStroke : ByteArray := prog_1_method_61_code
def yX8_fitsStroke : MethodName := ⟨RX8, "fitsStroke", "(II)Z"⟩
abbrev cX8_isWithin : ByteArray := prog_1_method_62_code
def yX8_isWithin : MethodName := ⟨RX8, "isWithin", "(III)Z"⟩
abbrev cX8_bringUpToDate : ByteArray := prog_1_method_63_code
def yX8_bringUpToDate : MethodName := ⟨RX8, "bringUpToDate", "()V"⟩
abbrev cX8_parseDamps : ByteArray := prog_1_method_64_code
def yX8_parseDamps : MethodName := ⟨RX8, "parseDamps", "()V"⟩
abbrev cX8_parseStrokes : ByteArray := prog_1_method_65_code
def yX8_parseStrokes : MethodName := ⟨RX8, "parseStrokes", "()V"⟩
abbrev cX8_seekDay : ByteArray := prog_1_method_66_code
def yX8_seekDay : MethodName := ⟨RX8, "seekDay", "(I)V"⟩
abbrev cX8_seekCell : ByteArray := prog_1_method_67_code
def yX8_seekCell : MethodName := ⟨RX8, "seekCell", "(I)V"⟩
abbrev cX8_seekDryDay : ByteArray := prog_1_method_68_code
def yX8_seekDryDay : MethodName := ⟨RX8, "seekDryDay", "()V"⟩
abbrev cX8_upsInTrial : ByteArray := prog_1_method_69_code
def yX8_upsInTrial : MethodName := ⟨RX8, "upsInTrial", "(I)I"⟩
abbrev cX8_tryWithout : ByteArray := prog_1_method_70_code
def yX8_tryWithout : MethodName := ⟨RX8, "tryWithout", "(I)V"⟩
abbrev cX8_agrees : ByteArray := prog_1_method_71_code
def yX8_agrees : MethodName := ⟨RX8, "agrees", "(LBoardRemembers$Board;LBoardRemembers$Course;I)Z"⟩
abbrev cX8_viewWithoutEach : ByteArray := prog_1_method_72_code
def yX8_viewWithoutEach : MethodName := ⟨RX8, "viewWithoutEach", "(II)V"⟩
abbrev cX8_mostAlike : ByteArray := prog_1_method_73_code
def yX8_mostAlike : MethodName := ⟨RX8, "mostAlike", "(II)I"⟩
abbrev cX8_reckonChance : ByteArray := prog_1_method_74_code
def yX8_reckonChance : MethodName := ⟨RX8, "reckonChance", "(III)V"⟩
abbrev cX8_stillFrom : ByteArray := prog_1_method_75_code
def yX8_stillFrom : MethodName := ⟨RX8, "stillFrom", "(LBoardRemembers$Chance;LBoardRemembers$Board;[III)J"⟩
def RX9 : String := "BoardRemembersModel"
def TX9 : u_T := fun k => match k with
  | 0 => ("BoardRemembersModel", "typed", "[I", true)
  | 1 => ("BoardRemembersModel", "texts", "[I", true)
  | 2 => ("BoardRemembersModel", "damps", "I", false)
  | 3 => ("BoardRemembersModel", "dampTold", "[I", true)
  | 4 => ("BoardRemembersModel", "strokes", "I", false)
  | 5 => ("BoardRemembersModel", "days", "[I", true)
  | 6 => ("BoardRemembersModel", "places", "[I", true)
  | 7 => ("BoardRemembersModel", "signs", "[I", true)
  | 8 => ("BoardRemembersModel", "chalks", "[I", true)
  | 9 => ("BoardRemembersModel", "fineTold", "I", false)
  | 10 => ("BoardRemembersModel", "wipes", "I", false)
  | 11 => ("BoardRemembersModel", "wipeDay", "[I", true)
  | 12 => ("BoardRemembersModel", "wipeLine", "[I", true)
  | 13 => ("BoardRemembersModel", "oils", "I", false)
  | 14 => ("BoardRemembersModel", "oilDay", "[I", true)
  | 15 => ("BoardRemembersModel", "oilLine", "[I", true)
  | 16 => ("BoardRemembersModel", "dampNow", "[I", true)
  | 17 => ("BoardRemembersModel", "notStrokes", "I", false)
  | 18 => ("BoardRemembersModel", "moreOil", "I", false)
  | 19 => ("BoardRemembersModel", "isNow", "[I", true)
  | 20 => ("BoardRemembersModel", "strong", "[I", true)
  | 21 => ("BoardRemembersModel", "comeNow", "I", false)
  | 22 => ("BoardRemembersModel", "comeAt", "[I", true)
  | 23 => ("BoardRemembersModel", "isAt", "[I", true)
  | 24 => ("BoardRemembersModel", "strongAt", "[I", true)
  | 25 => ("BoardRemembersModel", "seens", "I", false)
  | 26 => ("BoardRemembersModel", "seenDay", "[I", true)
  | 27 => ("BoardRemembersModel", "seenCell", "[I", true)
  | 28 => ("BoardRemembersModel", "seenSign", "[I", true)
  | 29 => ("BoardRemembersModel", "standsWithout", "[I", true)
  | 30 => ("BoardRemembersModel", "isThere", "[Z", true)
  | 31 => ("BoardRemembersModel", "forms", "[I", true)
  | 32 => ("BoardRemembersModel", "sizes", "[I", true)
  | 33 => ("BoardRemembersModel", "items", "[I", true)
  | 34 => ("BoardRemembersModel", "moved", "[I", true)
  | _ => ("BoardRemembersModel", "finding", "I", false)
def tyX9 : Nat → FieldType := fun k => match k with
  | 0 => .array .int
  | 1 => .array .int
  | 2 => .int
  | 3 => .array .int
  | 4 => .int
  | 5 => .array .int
  | 6 => .array .int
  | 7 => .array .int
  | 8 => .array .int
  | 9 => .int
  | 10 => .int
  | 11 => .array .int
  | 12 => .array .int
  | 13 => .int
  | 14 => .array .int
  | 15 => .array .int
  | 16 => .array .int
  | 17 => .int
  | 18 => .int
  | 19 => .array .int
  | 20 => .array .int
  | 21 => .int
  | 22 => .array .int
  | 23 => .array .int
  | 24 => .array .int
  | 25 => .int
  | 26 => .array .int
  | 27 => .array .int
  | 28 => .array .int
  | 29 => .array .int
  | 30 => .array .boolean
  | 31 => .array .int
  | 32 => .array .int
  | 33 => .array .int
  | 34 => .array .int
  | _ => .int
abbrev wsX90 : List Cond := u_ws RX9 TX9 36
theorem nmX9 : ∀ a, a < 36 → ∀ b, b < 36 → a ≠ b → (TX9 a).2.1 ≠ (TX9 b).2.1 := by decide +kernel
theorem tyX9_ok : ∀ k, k < 36 → parseFieldDescriptor (TX9 k).2.2.1 = some (tyX9 k) := by decide +kernel
abbrev cX9_init : ByteArray := prog_11_method_1_code
def yX9_init : MethodName := ⟨RX9, "<init>", "()V"⟩
abbrev cX9_in : ByteArray := prog_11_method_3_code
def yX9_in : MethodName := ⟨RX9, "in", "(III)Z"⟩
abbrev cX9_isIn : ByteArray := prog_11_method_4_code
def yX9_isIn : MethodName := ⟨RX9, "isIn", "(II)Z"⟩
abbrev cX9_ones : ByteArray := prog_11_method_5_code
def yX9_ones : MethodName := ⟨RX9, "ones", "(I)I"⟩
abbrev cX9_no : ByteArray := prog_11_method_6_code
def yX9_no : MethodName := ⟨RX9, "no", "(I)J"⟩
abbrev cX9_lowest : ByteArray := prog_11_method_7_code
def yX9_lowest : MethodName := ⟨RX9, "lowest", "(JJI)J"⟩
abbrev cX9_isText : ByteArray := prog_11_method_8_code
def yX9_isText : MethodName := ⟨RX9, "isText", "(I)Z"⟩
abbrev cX9_isDay : ByteArray := prog_11_method_9_code
def yX9_isDay : MethodName := ⟨RX9, "isDay", "(I)Z"⟩
abbrev cX9_isCell : ByteArray := prog_11_method_10_code
def yX9_isCell : MethodName := ⟨RX9, "isCell", "(I)Z"⟩
abbrev cX9_type : ByteArray := prog_11_method_11_code
def yX9_type : MethodName := ⟨RX9, "type", "(II)I"⟩
abbrev cX9_wipe : ByteArray := prog_11_method_12_code
def yX9_wipe : MethodName := ⟨RX9, "wipe", "(I)I"⟩
abbrev cX9_undo : ByteArray := prog_11_method_13_code
def yX9_undo : MethodName := ⟨RX9, "undo", "(I)I"⟩
abbrev cX9_readsDamps : ByteArray := prog_11_method_14_code
def yX9_readsDamps : MethodName := ⟨RX9, "readsDamps", "()I"⟩
abbrev cX9_byteAt : ByteArray := prog_11_method_15_code
def yX9_byteAt : MethodName := ⟨RX9, "byteAt", "(I)I"⟩
abbrev cX9_isWell : ByteArray := prog_11_method_16_code
def yX9_isWell : MethodName := ⟨RX9, "isWell", "(II)Z"⟩
abbrev cX9_readsStroke : ByteArray := prog_11_method_17_code
def yX9_readsStroke : MethodName := ⟨RX9, "readsStroke", "(II)I"⟩
abbrev cX9_readsStrokes : ByteArray := prog_11_method_18_code
def yX9_readsStrokes : MethodName := ⟨RX9, "readsStrokes", "()I"⟩
abbrev cX9_faultOf : ByteArray := prog_11_method_19_code
def yX9_faultOf : MethodName := ⟨RX9, "faultOf", "(I)I"⟩
abbrev cX9_reads : ByteArray := prog_11_method_20_code
def yX9_reads : MethodName := ⟨RX9, "reads", "()V"⟩
abbrev cX9_fault : ByteArray := prog_11_method_21_code
def yX9_fault : MethodName := ⟨RX9, "fault", "(I)I"⟩
abbrev cX9_dampOf : ByteArray := prog_11_method_22_code
def yX9_dampOf : MethodName := ⟨RX9, "dampOf", "(I)I"⟩
abbrev cX9_damp : ByteArray := prog_11_method_23_code
def yX9_damp : MethodName := ⟨RX9, "damp", "(I)I"⟩
abbrev cX9_isStroke : ByteArray := prog_11_method_24_code
def yX9_isStroke : MethodName := ⟨RX9, "isStroke", "(I)Z"⟩
abbrev cX9_strokeOf : ByteArray := prog_11_method_25_code
def yX9_strokeOf : MethodName := ⟨RX9, "strokeOf", "(II)I"⟩
abbrev cX9_stroke : ByteArray := prog_11_method_26_code
def yX9_stroke : MethodName := ⟨RX9, "stroke", "(II)I"⟩
abbrev cX9_fine : ByteArray := prog_11_method_27_code
def yX9_fine : MethodName := ⟨RX9, "fine", "(I)I"⟩
abbrev cX9_clean : ByteArray := prog_11_method_28_code
def yX9_clean : MethodName := ⟨RX9, "clean", "(II)I"⟩
abbrev cX9_grease : ByteArray := prog_11_method_29_code
def yX9_grease : MethodName := ⟨RX9, "grease", "(II)I"⟩
abbrev cX9_back : ByteArray := prog_11_method_30_code
def yX9_back : MethodName := ⟨RX9, "back", "(I)I"⟩
abbrev cX9_read : ByteArray := prog_11_method_31_code
def yX9_read : MethodName := ⟨RX9, "read", "(I)I"⟩
abbrev cX9_asTold : ByteArray := prog_11_method_32_code
def yX9_asTold : MethodName := ⟨RX9, "asTold", "()V"⟩
abbrev cX9_goesIn : ByteArray := prog_11_method_33_code
def yX9_goesIn : MethodName := ⟨RX9, "goesIn", "(I)V"⟩
abbrev cX9_isOiled : ByteArray := prog_11_method_34_code
def yX9_isOiled : MethodName := ⟨RX9, "isOiled", "(II)Z"⟩
abbrev cX9_isTop : ByteArray := prog_11_method_35_code
def yX9_isTop : MethodName := ⟨RX9, "isTop", "(I)Z"⟩
abbrev cX9_goesBy : ByteArray := prog_11_method_36_code
def yX9_goesBy : MethodName := ⟨RX9, "goesBy", "(I)V"⟩
abbrev cX9_runs : ByteArray := prog_11_method_37_code
def yX9_runs : MethodName := ⟨RX9, "runs", "()V"⟩
abbrev cX9_runsTold : ByteArray := prog_11_method_38_code
def yX9_runsTold : MethodName := ⟨RX9, "runsTold", "()V"⟩
abbrev cX9_standsNow : ByteArray := prog_11_method_39_code
def yX9_standsNow : MethodName := ⟨RX9, "standsNow", "(II)I"⟩
abbrev cX9_standsOf : ByteArray := prog_11_method_40_code
def yX9_standsOf : MethodName := ⟨RX9, "standsOf", "(II)I"⟩
abbrev cX9_stands : ByteArray := prog_11_method_41_code
def yX9_stands : MethodName := ⟨RX9, "stands", "(II)I"⟩
abbrev cX9_stateOf : ByteArray := prog_11_method_42_code
def yX9_stateOf : MethodName := ⟨RX9, "stateOf", "(III)I"⟩
abbrev cX9_state : ByteArray := prog_11_method_43_code
def yX9_state : MethodName := ⟨RX9, "state", "(III)I"⟩
abbrev cX9_upsOf : ByteArray := prog_11_method_44_code
def yX9_upsOf : MethodName := ⟨RX9, "upsOf", "(I)I"⟩
abbrev cX9_upOf : ByteArray := prog_11_method_45_code
def yX9_upOf : MethodName := ⟨RX9, "upOf", "(I)I"⟩
abbrev cX9_up : ByteArray := prog_11_method_46_code
def yX9_up : MethodName := ⟨RX9, "up", "(I)I"⟩
abbrev cX9_throughOf : ByteArray := prog_11_method_47_code
def yX9_throughOf : MethodName := ⟨RX9, "throughOf", "(I)I"⟩
abbrev cX9_through : ByteArray := prog_11_method_48_code
def yX9_through : MethodName := ⟨RX9, "through", "(I)I"⟩
abbrev cX9_isMisread : ByteArray := prog_11_method_49_code
def yX9_isMisread : MethodName := ⟨RX9, "isMisread", "(II)Z"⟩
abbrev cX9_misreadOf : ByteArray := prog_11_method_50_code
def yX9_misreadOf : MethodName := ⟨RX9, "misreadOf", "(I)I"⟩
abbrev cX9_misread : ByteArray := prog_11_method_51_code
def yX9_misread : MethodName := ⟨RX9, "misread", "(I)I"⟩
abbrev cX9_mostNow : ByteArray := prog_11_method_52_code
def yX9_mostNow : MethodName := ⟨RX9, "mostNow", "()I"⟩
abbrev cX9_most : ByteArray := prog_11_method_53_code
def yX9_most : MethodName := ⟨RX9, "most", "()I"⟩
abbrev cX9_deepOf : ByteArray := prog_11_method_54_code
def yX9_deepOf : MethodName := ⟨RX9, "deepOf", "(I)I"⟩
abbrev cX9_deep : ByteArray := prog_11_method_55_code
def yX9_deep : MethodName := ⟨RX9, "deep", "(I)I"⟩
abbrev cX9_allUp : ByteArray := prog_11_method_56_code
def yX9_allUp : MethodName := ⟨RX9, "allUp", "()I"⟩
abbrev cX9_oilOf : ByteArray := prog_11_method_57_code
def yX9_oilOf : MethodName := ⟨RX9, "oilOf", "(I)I"⟩
abbrev cX9_oil : ByteArray := prog_11_method_58_code
def yX9_oil : MethodName := ⟨RX9, "oil", "(I)I"⟩
abbrev cX9_whenOf : ByteArray := prog_11_method_59_code
def yX9_whenOf : MethodName := ⟨RX9, "whenOf", "(II)I"⟩
abbrev cX9_when : ByteArray := prog_11_method_60_code
def yX9_when : MethodName := ⟨RX9, "when", "(II)I"⟩
abbrev cX9_placeOf : ByteArray := prog_11_method_61_code
def yX9_placeOf : MethodName := ⟨RX9, "placeOf", "(II)I"⟩
abbrev cX9_place : ByteArray := prog_11_method_62_code
def yX9_place : MethodName := ⟨RX9, "place", "(II)I"⟩
abbrev cX9_dryOf : ByteArray := prog_11_method_63_code
def yX9_dryOf : MethodName := ⟨RX9, "dryOf", "(I)I"⟩
abbrev cX9_dry : ByteArray := prog_11_method_64_code
def yX9_dry : MethodName := ⟨RX9, "dry", "(I)I"⟩
abbrev cX9_seen : ByteArray := prog_11_method_65_code
def yX9_seen : MethodName := ⟨RX9, "seen", "(III)I"⟩
abbrev cX9_forget : ByteArray := prog_11_method_66_code
def yX9_forget : MethodName := ⟨RX9, "forget", "()I"⟩
abbrev cX9_isSeen : ByteArray := prog_11_method_67_code
def yX9_isSeen : MethodName := ⟨RX9, "isSeen", "()Z"⟩
abbrev cX9_neverNow : ByteArray := prog_11_method_68_code
def yX9_neverNow : MethodName := ⟨RX9, "neverNow", "()I"⟩
abbrev cX9_never : ByteArray := prog_11_method_69_code
def yX9_never : MethodName := ⟨RX9, "never", "()I"⟩
abbrev cX9_signOf : ByteArray := prog_11_method_70_code
def yX9_signOf : MethodName := ⟨RX9, "signOf", "(I)I"⟩
abbrev cX9_sign : ByteArray := prog_11_method_71_code
def yX9_sign : MethodName := ⟨RX9, "sign", "(I)I"⟩
abbrev cX9_chalkOf : ByteArray := prog_11_method_72_code
def yX9_chalkOf : MethodName := ⟨RX9, "chalkOf", "(I)I"⟩
abbrev cX9_chalk : ByteArray := prog_11_method_73_code
def yX9_chalk : MethodName := ⟨RX9, "chalk", "(I)I"⟩
abbrev cX9_askOf : ByteArray := prog_11_method_74_code
def yX9_askOf : MethodName := ⟨RX9, "askOf", "(I)I"⟩
abbrev cX9_ask : ByteArray := prog_11_method_75_code
def yX9_ask : MethodName := ⟨RX9, "ask", "(I)I"⟩
abbrev cX9_drynessOf : ByteArray := prog_11_method_76_code
def yX9_drynessOf : MethodName := ⟨RX9, "drynessOf", "(IIII)J"⟩
abbrev cX9_dryness : ByteArray := prog_11_method_77_code
def yX9_dryness : MethodName := ⟨RX9, "dryness", "(IIII)J"⟩
abbrev cX9_weatherOf : ByteArray := prog_11_method_78_code
def yX9_weatherOf : MethodName := ⟨RX9, "weatherOf", "(III)I"⟩
abbrev cX9_weather : ByteArray := prog_11_method_79_code
def yX9_weather : MethodName := ⟨RX9, "weather", "(III)I"⟩
abbrev cX9_meets : ByteArray := prog_11_method_80_code
def yX9_meets : MethodName := ⟨RX9, "meets", "(I)I"⟩
abbrev cX9_isSheet : ByteArray := prog_11_method_81_code
def yX9_isSheet : MethodName := ⟨RX9, "isSheet", "(I)Z"⟩
abbrev cX9_sheet : ByteArray := prog_11_method_82_code
def yX9_sheet : MethodName := ⟨RX9, "sheet", "(III)I"⟩
abbrev cX9_lose : ByteArray := prog_11_method_83_code
def yX9_lose : MethodName := ⟨RX9, "lose", "(I)I"⟩
abbrev cX9_lacks : ByteArray := prog_11_method_84_code
def yX9_lacks : MethodName := ⟨RX9, "lacks", "(III)I"⟩
abbrev cX9_keep : ByteArray := prog_11_method_85_code
def yX9_keep : MethodName := ⟨RX9, "keep", "(III)V"⟩
abbrev cX9_put : ByteArray := prog_11_method_86_code
def yX9_put : MethodName := ⟨RX9, "put", "(IIII)I"⟩
abbrev cX9_get : ByteArray := prog_11_method_87_code
def yX9_get : MethodName := ⟨RX9, "get", "(III)I"⟩
abbrev cX9_copy : ByteArray := prog_11_method_88_code
def yX9_copy : MethodName := ⟨RX9, "copy", "(IIIII)I"⟩
abbrev cX9_write : ByteArray := prog_11_method_89_code
def yX9_write : MethodName := ⟨RX9, "write", "(II)I"⟩
abbrev cX9_sumOf : ByteArray := prog_11_method_90_code
def yX9_sumOf : MethodName := ⟨RX9, "sumOf", "(I)I"⟩
abbrev cX9_count : ByteArray := prog_11_method_91_code
def yX9_count : MethodName := ⟨RX9, "count", "(I)I"⟩
abbrev cX9_dayDigest : ByteArray := prog_11_method_92_code
def yX9_dayDigest : MethodName := ⟨RX9, "dayDigest", "(JI)J"⟩
abbrev cX9_strokeDigest : ByteArray := prog_11_method_93_code
def yX9_strokeDigest : MethodName := ⟨RX9, "strokeDigest", "(JI)J"⟩
abbrev cX9_digest : ByteArray := prog_11_method_94_code
def yX9_digest : MethodName := ⟨RX9, "digest", "()J"⟩
def RJ6 : String := "java/lang/Integer"
def TJ6 : u_T := fun k => match k with
  | _ => ("", "", "", false)
def tyJ6 : Nat → FieldType := fun k => match k with
  | _ => .int
abbrev wsJ60 : List Cond := u_ws RJ6 TJ6 0
theorem nmJ6 : ∀ a, a < 0 → ∀ b, b < 0 → a ≠ b → (TJ6 a).2.1 ≠ (TJ6 b).2.1 := by decide +kernel
theorem tyJ6_ok : ∀ k, k < 0 → parseFieldDescriptor (TJ6 k).2.2.1 = some (tyJ6 k) := by decide +kernel
abbrev cJ6_bitCount_0f7a4 : ByteArray := prog_12_method_49_code
def yJ6_bitCount_0f7a4 : MethodName := ⟨RJ6, "bitCount", "(I)I"⟩
def RJ9 : String := "java/lang/Math"
def TJ9 : u_T := fun k => match k with
  | _ => ("", "", "", false)
def tyJ9 : Nat → FieldType := fun k => match k with
  | _ => .int
abbrev wsJ90 : List Cond := u_ws RJ9 TJ9 0
theorem nmJ9 : ∀ a, a < 0 → ∀ b, b < 0 → a ≠ b → (TJ9 a).2.1 ≠ (TJ9 b).2.1 := by decide +kernel
theorem tyJ9_ok : ∀ k, k < 0 → parseFieldDescriptor (TJ9 k).2.2.1 = some (tyJ9 k) := by decide +kernel
abbrev cJ9_max_7cf53 : ByteArray := prog_13_method_65_code
def yJ9_max_7cf53 : MethodName := ⟨RJ9, "max", "(II)I"⟩
abbrev cJ9_min_7cf53 : ByteArray := prog_13_method_69_code
def yJ9_min_7cf53 : MethodName := ⟨RJ9, "min", "(II)I"⟩
def RJ10 : String := "java/lang/System"
def TJ10 : u_T := fun k => match k with
  | _ => ("", "", "", false)
def tyJ10 : Nat → FieldType := fun k => match k with
  | _ => .int
abbrev wsJ100 : List Cond := u_ws RJ10 TJ10 0
theorem nmJ10 : ∀ a, a < 0 → ∀ b, b < 0 → a ≠ b → (TJ10 a).2.1 ≠ (TJ10 b).2.1 := by decide +kernel
theorem tyJ10_ok : ∀ k, k < 0 → parseFieldDescriptor (TJ10 k).2.2.1 = some (tyJ10 k) := by decide +kernel
def RL : String := "BoardRemembersLaw"
abbrev cL_law : ByteArray := code
def yL_law : MethodName := ⟨RL, "law", "([I)Z"⟩
theorem inX0 : ∀ w ∈ wsX00, w ∈ lw_tbl := by decide +kernel
theorem inX1 : ∀ w ∈ wsX10, w ∈ lw_tbl := by decide +kernel
theorem inX2 : ∀ w ∈ wsX20, w ∈ lw_tbl := by decide +kernel
theorem inX3 : ∀ w ∈ wsX30, w ∈ lw_tbl := by decide +kernel
theorem inX4 : ∀ w ∈ wsX40, w ∈ lw_tbl := by decide +kernel
theorem inX5 : ∀ w ∈ wsX50, w ∈ lw_tbl := by decide +kernel
theorem inX6 : ∀ w ∈ wsX60, w ∈ lw_tbl := by decide +kernel
theorem inX7 : ∀ w ∈ wsX70, w ∈ lw_tbl := by decide +kernel
theorem inX8 : ∀ w ∈ wsX80, w ∈ lw_tbl := by decide +kernel
theorem inX9 : ∀ w ∈ wsX90, w ∈ lw_tbl := by decide +kernel
theorem inJ6 : ∀ w ∈ wsJ60, w ∈ lw_tbl := by decide +kernel
theorem inJ9 : ∀ w ∈ wsJ90, w ∈ lw_tbl := by decide +kernel
theorem inJ10 : ∀ w ∈ wsJ100, w ∈ lw_tbl := by decide +kernel
abbrev vwCl : List vw_C := [(RX0, TX0, 9), (RX1, TX1, 6), (RX2, TX2, 6), (RX3, TX3, 2), (RX4, TX4, 2), (RX5, TX5, 4), (RX6, TX6, 4), (RX7, TX7, 2), (RX8, TX8, 18), (RX9, TX9, 36)]
/-- the words of the tables that hold wherever a call is made -/
def tbG : List Cond := lw_tbl.filter goodWord
theorem tb_in {w : Cond} (h : w ∈ lw_tbl) (g : goodWord w = true) : w ∈ tbG := List.mem_filter.mpr ⟨h, g⟩
theorem tb_sub {w : Cond} (h : w ∈ tbG) : w ∈ lw_tbl := (List.mem_filter.mp h).1
theorem tb_good {w : Cond} (h : w ∈ tbG) : goodWord w = true := (List.mem_filter.mp h).2
theorem tb_ws {l : List Cond} (h : ∀ w ∈ l, w ∈ lw_tbl) (g : l.all goodWord = true) : ∀ w ∈ l, w ∈ tbG := fun w hw => tb_in (h w hw) (List.all_eq_true.mp g w hw)
theorem igX0 : ∀ w ∈ wsX00, w ∈ tbG := tb_ws inX0 (by decide +kernel)
theorem igX1 : ∀ w ∈ wsX10, w ∈ tbG := tb_ws inX1 (by decide +kernel)
theorem igX2 : ∀ w ∈ wsX20, w ∈ tbG := tb_ws inX2 (by decide +kernel)
theorem igX3 : ∀ w ∈ wsX30, w ∈ tbG := tb_ws inX3 (by decide +kernel)
theorem igX4 : ∀ w ∈ wsX40, w ∈ tbG := tb_ws inX4 (by decide +kernel)
theorem igX5 : ∀ w ∈ wsX50, w ∈ tbG := tb_ws inX5 (by decide +kernel)
theorem igX6 : ∀ w ∈ wsX60, w ∈ tbG := tb_ws inX6 (by decide +kernel)
theorem igX7 : ∀ w ∈ wsX70, w ∈ tbG := tb_ws inX7 (by decide +kernel)
theorem igX8 : ∀ w ∈ wsX80, w ∈ tbG := tb_ws inX8 (by decide +kernel)
theorem igX9 : ∀ w ∈ wsX90, w ∈ tbG := tb_ws inX9 (by decide +kernel)
end
section
theorem dX0_init_0 : decode cX0_init 0 = .ok (.aload_n 0, 1) := by decide +kernel
theorem dX0_init_1 : decode cX0_init 1 = .ok (.invokespecial 3, 3) := by decide +kernel
theorem dX0_init_4 : decode cX0_init 4 = .ok (.aload_n 0, 1) := by decide +kernel
theorem dX0_init_5 : decode cX0_init 5 = .ok (.iconst 0, 1) := by decide +kernel
theorem dX0_init_6 : decode cX0_init 6 = .ok (.putfield 9, 3) := by decide +kernel
theorem dX0_init_9 : decode cX0_init 9 = .ok (.aload_n 0, 1) := by decide +kernel
theorem dX0_init_10 : decode cX0_init 10 = .ok (.bipush 8, 2) := by decide +kernel
theorem dX0_init_12 : decode cX0_init 12 = .ok (.newarray .int, 2) := by decide +kernel
theorem dX0_init_14 : decode cX0_init 14 = .ok (.putfield 15, 3) := by decide +kernel
theorem dX0_init_17 : decode cX0_init 17 = .ok (.aload_n 0, 1) := by decide +kernel
theorem dX0_init_18 : decode cX0_init 18 = .ok (.bipush 8, 2) := by decide +kernel
theorem dX0_init_20 : decode cX0_init 20 = .ok (.newarray .int, 2) := by decide +kernel
theorem dX0_init_22 : decode cX0_init 22 = .ok (.putfield 19, 3) := by decide +kernel
theorem dX0_init_25 : decode cX0_init 25 = .ok (.aload_n 0, 1) := by decide +kernel
theorem dX0_init_26 : decode cX0_init 26 = .ok (.bipush 8, 2) := by decide +kernel
theorem dX0_init_28 : decode cX0_init 28 = .ok (.newarray .int, 2) := by decide +kernel
theorem dX0_init_30 : decode cX0_init 30 = .ok (.putfield 22, 3) := by decide +kernel
theorem dX0_init_33 : decode cX0_init 33 = .ok (.aload_n 0, 1) := by decide +kernel
theorem dX0_init_34 : decode cX0_init 34 = .ok (.bipush 8, 2) := by decide +kernel
theorem dX0_init_36 : decode cX0_init 36 = .ok (.newarray .int, 2) := by decide +kernel
theorem dX0_init_38 : decode cX0_init 38 = .ok (.putfield 25, 3) := by decide +kernel
theorem dX0_init_41 : decode cX0_init 41 = .ok (.aload_n 0, 1) := by decide +kernel
theorem dX0_init_42 : decode cX0_init 42 = .ok (.bipush 8, 2) := by decide +kernel
theorem dX0_init_44 : decode cX0_init 44 = .ok (.newarray .int, 2) := by decide +kernel
theorem dX0_init_46 : decode cX0_init 46 = .ok (.putfield 28, 3) := by decide +kernel
theorem dX0_init_49 : decode cX0_init 49 = .ok (.aload_n 0, 1) := by decide +kernel
theorem dX0_init_50 : decode cX0_init 50 = .ok (.bipush 20, 2) := by decide +kernel
theorem dX0_init_52 : decode cX0_init 52 = .ok (.newarray .int, 2) := by decide +kernel
theorem dX0_init_54 : decode cX0_init 54 = .ok (.putfield 31, 3) := by decide +kernel
theorem dX0_init_57 : decode cX0_init 57 = .ok (.aload_n 0, 1) := by decide +kernel
theorem dX0_init_58 : decode cX0_init 58 = .ok (.bipush 20, 2) := by decide +kernel
theorem dX0_init_60 : decode cX0_init 60 = .ok (.newarray .int, 2) := by decide +kernel
theorem dX0_init_62 : decode cX0_init 62 = .ok (.putfield 34, 3) := by decide +kernel
theorem dX0_init_65 : decode cX0_init 65 = .ok (.aload_n 0, 1) := by decide +kernel
theorem dX0_init_66 : decode cX0_init 66 = .ok (.bipush 20, 2) := by decide +kernel
theorem dX0_init_68 : decode cX0_init 68 = .ok (.newarray .int, 2) := by decide +kernel
theorem dX0_init_70 : decode cX0_init 70 = .ok (.putfield 37, 3) := by decide +kernel
theorem dX0_init_73 : decode cX0_init 73 = .ok (.return_, 1) := by decide +kernel
theorem dX0_takeStrokes_0 : decode cX0_takeStrokes 0 = .ok (.aload_n 0, 1) := by decide +kernel
theorem dX0_takeStrokes_1 : decode cX0_takeStrokes 1 = .ok (.aload_n 1, 1) := by decide +kernel
theorem dX0_takeStrokes_2 : decode cX0_takeStrokes 2 = .ok (.getfield 9, 3) := by decide +kernel
theorem dX0_takeStrokes_5 : decode cX0_takeStrokes 5 = .ok (.putfield 9, 3) := by decide +kernel
theorem dX0_takeStrokes_8 : decode cX0_takeStrokes 8 = .ok (.aload_n 1, 1) := by decide +kernel
theorem dX0_takeStrokes_9 : decode cX0_takeStrokes 9 = .ok (.getfield 15, 3) := by decide +kernel
theorem dX0_takeStrokes_12 : decode cX0_takeStrokes 12 = .ok (.iconst 0, 1) := by decide +kernel
theorem dX0_takeStrokes_13 : decode cX0_takeStrokes 13 = .ok (.aload_n 0, 1) := by decide +kernel
theorem dX0_takeStrokes_14 : decode cX0_takeStrokes 14 = .ok (.getfield 15, 3) := by decide +kernel
theorem dX0_takeStrokes_17 : decode cX0_takeStrokes 17 = .ok (.iconst 0, 1) := by decide +kernel
theorem dX0_takeStrokes_18 : decode cX0_takeStrokes 18 = .ok (.bipush 8, 2) := by decide +kernel
theorem dX0_takeStrokes_20 : decode cX0_takeStrokes 20 = .ok (.invokestatic 40, 3) := by decide +kernel
theorem dX0_takeStrokes_23 : decode cX0_takeStrokes 23 = .ok (.aload_n 1, 1) := by decide +kernel
theorem dX0_takeStrokes_24 : decode cX0_takeStrokes 24 = .ok (.getfield 19, 3) := by decide +kernel
theorem dX0_takeStrokes_27 : decode cX0_takeStrokes 27 = .ok (.iconst 0, 1) := by decide +kernel
theorem dX0_takeStrokes_28 : decode cX0_takeStrokes 28 = .ok (.aload_n 0, 1) := by decide +kernel
theorem dX0_takeStrokes_29 : decode cX0_takeStrokes 29 = .ok (.getfield 19, 3) := by decide +kernel
theorem dX0_takeStrokes_32 : decode cX0_takeStrokes 32 = .ok (.iconst 0, 1) := by decide +kernel
theorem dX0_takeStrokes_33 : decode cX0_takeStrokes 33 = .ok (.bipush 8, 2) := by decide +kernel
theorem dX0_takeStrokes_35 : decode cX0_takeStrokes 35 = .ok (.invokestatic 40, 3) := by decide +kernel
theorem dX0_takeStrokes_38 : decode cX0_takeStrokes 38 = .ok (.aload_n 1, 1) := by decide +kernel
theorem dX0_takeStrokes_39 : decode cX0_takeStrokes 39 = .ok (.getfield 22, 3) := by decide +kernel
theorem dX0_takeStrokes_42 : decode cX0_takeStrokes 42 = .ok (.iconst 0, 1) := by decide +kernel
theorem dX0_takeStrokes_43 : decode cX0_takeStrokes 43 = .ok (.aload_n 0, 1) := by decide +kernel
theorem dX0_takeStrokes_44 : decode cX0_takeStrokes 44 = .ok (.getfield 22, 3) := by decide +kernel
theorem dX0_takeStrokes_47 : decode cX0_takeStrokes 47 = .ok (.iconst 0, 1) := by decide +kernel
theorem dX0_takeStrokes_48 : decode cX0_takeStrokes 48 = .ok (.bipush 8, 2) := by decide +kernel
theorem dX0_takeStrokes_50 : decode cX0_takeStrokes 50 = .ok (.invokestatic 40, 3) := by decide +kernel
theorem dX0_takeStrokes_53 : decode cX0_takeStrokes 53 = .ok (.aload_n 1, 1) := by decide +kernel
theorem dX0_takeStrokes_54 : decode cX0_takeStrokes 54 = .ok (.getfield 25, 3) := by decide +kernel
theorem dX0_takeStrokes_57 : decode cX0_takeStrokes 57 = .ok (.iconst 0, 1) := by decide +kernel
theorem dX0_takeStrokes_58 : decode cX0_takeStrokes 58 = .ok (.aload_n 0, 1) := by decide +kernel
theorem dX0_takeStrokes_59 : decode cX0_takeStrokes 59 = .ok (.getfield 25, 3) := by decide +kernel
theorem dX0_takeStrokes_62 : decode cX0_takeStrokes 62 = .ok (.iconst 0, 1) := by decide +kernel
theorem dX0_takeStrokes_63 : decode cX0_takeStrokes 63 = .ok (.bipush 8, 2) := by decide +kernel
theorem dX0_takeStrokes_65 : decode cX0_takeStrokes 65 = .ok (.invokestatic 40, 3) := by decide +kernel
theorem dX0_takeStrokes_68 : decode cX0_takeStrokes 68 = .ok (.return_, 1) := by decide +kernel
theorem dX0_everyone_0 : decode cX0_everyone 0 = .ok (.iconst 0, 1) := by decide +kernel
theorem dX0_everyone_1 : decode cX0_everyone 1 = .ok (.istore_n 1, 1) := by decide +kernel
theorem dX0_everyone_2 : decode cX0_everyone 2 = .ok (.iconst 0, 1) := by decide +kernel
theorem dX0_everyone_3 : decode cX0_everyone 3 = .ok (.istore_n 2, 1) := by decide +kernel
theorem dX0_everyone_4 : decode cX0_everyone 4 = .ok (.iload_n 2, 1) := by decide +kernel
theorem dX0_everyone_5 : decode cX0_everyone 5 = .ok (.aload_n 0, 1) := by decide +kernel
theorem dX0_everyone_6 : decode cX0_everyone 6 = .ok (.getfield 9, 3) := by decide +kernel
theorem dX0_everyone_9 : decode cX0_everyone 9 = .ok (.if_icmp .ge 16, 3) := by decide +kernel
theorem dX0_everyone_12 : decode cX0_everyone 12 = .ok (.iload_n 1, 1) := by decide +kernel
theorem dX0_everyone_13 : decode cX0_everyone 13 = .ok (.iload_n 2, 1) := by decide +kernel
theorem dX0_everyone_14 : decode cX0_everyone 14 = .ok (.invokestatic 46, 3) := by decide +kernel
theorem dX0_everyone_17 : decode cX0_everyone 17 = .ok (.ior, 1) := by decide +kernel
theorem dX0_everyone_18 : decode cX0_everyone 18 = .ok (.istore_n 1, 1) := by decide +kernel
theorem dX0_everyone_19 : decode cX0_everyone 19 = .ok (.iinc 2 1, 3) := by decide +kernel
theorem dX0_everyone_22 : decode cX0_everyone 22 = .ok (.goto (-18), 3) := by decide +kernel
theorem dX0_everyone_25 : decode cX0_everyone 25 = .ok (.iload_n 1, 1) := by decide +kernel
theorem dX0_everyone_26 : decode cX0_everyone 26 = .ok (.ireturn, 1) := by decide +kernel
theorem dX0_onCell_0 : decode cX0_onCell 0 = .ok (.iconst 0, 1) := by decide +kernel
theorem dX0_onCell_1 : decode cX0_onCell 1 = .ok (.istore_n 2, 1) := by decide +kernel
theorem dX0_onCell_2 : decode cX0_onCell 2 = .ok (.iconst 0, 1) := by decide +kernel
theorem dX0_onCell_3 : decode cX0_onCell 3 = .ok (.istore_n 3, 1) := by decide +kernel
theorem dX0_onCell_4 : decode cX0_onCell 4 = .ok (.iload_n 3, 1) := by decide +kernel
theorem dX0_onCell_5 : decode cX0_onCell 5 = .ok (.aload_n 0, 1) := by decide +kernel
theorem dX0_onCell_6 : decode cX0_onCell 6 = .ok (.getfield 9, 3) := by decide +kernel
theorem dX0_onCell_9 : decode cX0_onCell 9 = .ok (.if_icmp .ge 26, 3) := by decide +kernel
theorem dX0_onCell_12 : decode cX0_onCell 12 = .ok (.aload_n 0, 1) := by decide +kernel
theorem dX0_onCell_13 : decode cX0_onCell 13 = .ok (.getfield 19, 3) := by decide +kernel
theorem dX0_onCell_16 : decode cX0_onCell 16 = .ok (.iload_n 3, 1) := by decide +kernel
theorem dX0_onCell_17 : decode cX0_onCell 17 = .ok (.iaload, 1) := by decide +kernel
theorem dX0_onCell_18 : decode cX0_onCell 18 = .ok (.iload_n 1, 1) := by decide +kernel
theorem dX0_onCell_19 : decode cX0_onCell 19 = .ok (.if_icmp .ne 10, 3) := by decide +kernel
theorem dX0_onCell_22 : decode cX0_onCell 22 = .ok (.iload_n 2, 1) := by decide +kernel
theorem dX0_onCell_23 : decode cX0_onCell 23 = .ok (.iload_n 3, 1) := by decide +kernel
theorem dX0_onCell_24 : decode cX0_onCell 24 = .ok (.invokestatic 46, 3) := by decide +kernel
theorem dX0_onCell_27 : decode cX0_onCell 27 = .ok (.ior, 1) := by decide +kernel
theorem dX0_onCell_28 : decode cX0_onCell 28 = .ok (.istore_n 2, 1) := by decide +kernel
theorem dX0_onCell_29 : decode cX0_onCell 29 = .ok (.iinc 3 1, 3) := by decide +kernel
theorem dX0_onCell_32 : decode cX0_onCell 32 = .ok (.goto (-28), 3) := by decide +kernel
theorem dX0_onCell_35 : decode cX0_onCell 35 = .ok (.iload_n 2, 1) := by decide +kernel
theorem dX0_onCell_36 : decode cX0_onCell 36 = .ok (.ireturn, 1) := by decide +kernel
theorem dX0_withMates_0 : decode cX0_withMates 0 = .ok (.iconst 0, 1) := by decide +kernel
theorem dX0_withMates_1 : decode cX0_withMates 1 = .ok (.istore_n 2, 1) := by decide +kernel
theorem dX0_withMates_2 : decode cX0_withMates 2 = .ok (.iconst 0, 1) := by decide +kernel
theorem dX0_withMates_3 : decode cX0_withMates 3 = .ok (.istore_n 3, 1) := by decide +kernel
theorem dX0_withMates_4 : decode cX0_withMates 4 = .ok (.iload_n 3, 1) := by decide +kernel
theorem dX0_withMates_5 : decode cX0_withMates 5 = .ok (.aload_n 0, 1) := by decide +kernel
theorem dX0_withMates_6 : decode cX0_withMates 6 = .ok (.getfield 9, 3) := by decide +kernel
theorem dX0_withMates_9 : decode cX0_withMates 9 = .ok (.if_icmp .ge 26, 3) := by decide +kernel
theorem dX0_withMates_12 : decode cX0_withMates 12 = .ok (.iload_n 1, 1) := by decide +kernel
theorem dX0_withMates_13 : decode cX0_withMates 13 = .ok (.iload_n 3, 1) := by decide +kernel
theorem dX0_withMates_14 : decode cX0_withMates 14 = .ok (.invokestatic 50, 3) := by decide +kernel
theorem dX0_withMates_17 : decode cX0_withMates 17 = .ok (.ifCond .eq 12, 3) := by decide +kernel
theorem dX0_withMates_20 : decode cX0_withMates 20 = .ok (.iload_n 2, 1) := by decide +kernel
theorem dX0_withMates_21 : decode cX0_withMates 21 = .ok (.aload_n 0, 1) := by decide +kernel
theorem dX0_withMates_22 : decode cX0_withMates 22 = .ok (.getfield 28, 3) := by decide +kernel
theorem dX0_withMates_25 : decode cX0_withMates 25 = .ok (.iload_n 3, 1) := by decide +kernel
theorem dX0_withMates_26 : decode cX0_withMates 26 = .ok (.iaload, 1) := by decide +kernel
theorem dX0_withMates_27 : decode cX0_withMates 27 = .ok (.ior, 1) := by decide +kernel
theorem dX0_withMates_28 : decode cX0_withMates 28 = .ok (.istore_n 2, 1) := by decide +kernel
theorem dX0_withMates_29 : decode cX0_withMates 29 = .ok (.iinc 3 1, 3) := by decide +kernel
theorem dX0_withMates_32 : decode cX0_withMates 32 = .ok (.goto (-28), 3) := by decide +kernel
theorem dX0_withMates_35 : decode cX0_withMates 35 = .ok (.iload_n 2, 1) := by decide +kernel
theorem dX0_withMates_36 : decode cX0_withMates 36 = .ok (.ireturn, 1) := by decide +kernel
theorem dX0_settle_0 : decode cX0_settle 0 = .ok (.iconst 0, 1) := by decide +kernel
theorem dX0_settle_1 : decode cX0_settle 1 = .ok (.istore_n 3, 1) := by decide +kernel
theorem dX0_settle_2 : decode cX0_settle 2 = .ok (.iload_n 3, 1) := by decide +kernel
theorem dX0_settle_3 : decode cX0_settle 3 = .ok (.bipush 20, 2) := by decide +kernel
theorem dX0_settle_5 : decode cX0_settle 5 = .ok (.if_icmp .ge 30, 3) := by decide +kernel
theorem dX0_settle_8 : decode cX0_settle 8 = .ok (.aload_n 0, 1) := by decide +kernel
theorem dX0_settle_9 : decode cX0_settle 9 = .ok (.getfield 31, 3) := by decide +kernel
theorem dX0_settle_12 : decode cX0_settle 12 = .ok (.iload_n 3, 1) := by decide +kernel
theorem dX0_settle_13 : decode cX0_settle 13 = .ok (.iconst 0, 1) := by decide +kernel
theorem dX0_settle_14 : decode cX0_settle 14 = .ok (.iastore, 1) := by decide +kernel
theorem dX0_settle_15 : decode cX0_settle 15 = .ok (.aload_n 0, 1) := by decide +kernel
theorem dX0_settle_16 : decode cX0_settle 16 = .ok (.getfield 34, 3) := by decide +kernel
theorem dX0_settle_19 : decode cX0_settle 19 = .ok (.iload_n 3, 1) := by decide +kernel
theorem dX0_settle_20 : decode cX0_settle 20 = .ok (.iconst 0, 1) := by decide +kernel
theorem dX0_settle_21 : decode cX0_settle 21 = .ok (.iastore, 1) := by decide +kernel
theorem dX0_settle_22 : decode cX0_settle 22 = .ok (.aload_n 0, 1) := by decide +kernel
theorem dX0_settle_23 : decode cX0_settle 23 = .ok (.getfield 37, 3) := by decide +kernel
theorem dX0_settle_26 : decode cX0_settle 26 = .ok (.iload_n 3, 1) := by decide +kernel
theorem dX0_settle_27 : decode cX0_settle 27 = .ok (.iconst 0, 1) := by decide +kernel
theorem dX0_settle_28 : decode cX0_settle 28 = .ok (.iastore, 1) := by decide +kernel
theorem dX0_settle_29 : decode cX0_settle 29 = .ok (.iinc 3 1, 3) := by decide +kernel
theorem dX0_settle_32 : decode cX0_settle 32 = .ok (.goto (-30), 3) := by decide +kernel
theorem dX0_settle_35 : decode cX0_settle 35 = .ok (.iconst 0, 1) := by decide +kernel
theorem dX0_settle_36 : decode cX0_settle 36 = .ok (.istore_n 3, 1) := by decide +kernel
theorem dX0_settle_37 : decode cX0_settle 37 = .ok (.iload_n 3, 1) := by decide +kernel
theorem dX0_settle_38 : decode cX0_settle 38 = .ok (.aload_n 0, 1) := by decide +kernel
theorem dX0_settle_39 : decode cX0_settle 39 = .ok (.getfield 9, 3) := by decide +kernel
theorem dX0_settle_42 : decode cX0_settle 42 = .ok (.if_icmp .ge 46, 3) := by decide +kernel
theorem dX0_settle_45 : decode cX0_settle 45 = .ok (.iload_n 1, 1) := by decide +kernel
theorem dX0_settle_46 : decode cX0_settle 46 = .ok (.iload_n 3, 1) := by decide +kernel
theorem dX0_settle_47 : decode cX0_settle 47 = .ok (.invokestatic 50, 3) := by decide +kernel
theorem dX0_settle_50 : decode cX0_settle 50 = .ok (.ifCond .eq 32, 3) := by decide +kernel
theorem dX0_settle_53 : decode cX0_settle 53 = .ok (.aload_n 0, 1) := by decide +kernel
theorem dX0_settle_54 : decode cX0_settle 54 = .ok (.getfield 28, 3) := by decide +kernel
theorem dX0_settle_57 : decode cX0_settle 57 = .ok (.iload_n 3, 1) := by decide +kernel
theorem dX0_settle_58 : decode cX0_settle 58 = .ok (.aload_n 0, 1) := by decide +kernel
theorem dX0_settle_59 : decode cX0_settle 59 = .ok (.aload_n 0, 1) := by decide +kernel
theorem dX0_settle_60 : decode cX0_settle 60 = .ok (.getfield 19, 3) := by decide +kernel
theorem dX0_settle_63 : decode cX0_settle 63 = .ok (.iload_n 3, 1) := by decide +kernel
theorem dX0_settle_64 : decode cX0_settle 64 = .ok (.iaload, 1) := by decide +kernel
theorem dX0_settle_65 : decode cX0_settle 65 = .ok (.invokevirtual 54, 3) := by decide +kernel
theorem dX0_settle_68 : decode cX0_settle 68 = .ok (.iload_n 1, 1) := by decide +kernel
theorem dX0_settle_69 : decode cX0_settle 69 = .ok (.iand, 1) := by decide +kernel
theorem dX0_settle_70 : decode cX0_settle 70 = .ok (.iastore, 1) := by decide +kernel
theorem dX0_settle_71 : decode cX0_settle 71 = .ok (.aload_n 0, 1) := by decide +kernel
theorem dX0_settle_72 : decode cX0_settle 72 = .ok (.iload_n 3, 1) := by decide +kernel
theorem dX0_settle_73 : decode cX0_settle 73 = .ok (.aload_n 0, 1) := by decide +kernel
theorem dX0_settle_74 : decode cX0_settle 74 = .ok (.iload_n 3, 1) := by decide +kernel
theorem dX0_settle_75 : decode cX0_settle 75 = .ok (.aload_n 2, 1) := by decide +kernel
theorem dX0_settle_76 : decode cX0_settle 76 = .ok (.invokevirtual 57, 3) := by decide +kernel
theorem dX0_settle_79 : decode cX0_settle 79 = .ok (.invokevirtual 61, 3) := by decide +kernel
theorem dX0_settle_82 : decode cX0_settle 82 = .ok (.iinc 3 1, 3) := by decide +kernel
theorem dX0_settle_85 : decode cX0_settle 85 = .ok (.goto (-48), 3) := by decide +kernel
theorem dX0_settle_88 : decode cX0_settle 88 = .ok (.iconst 0, 1) := by decide +kernel
theorem dX0_settle_89 : decode cX0_settle 89 = .ok (.istore_n 3, 1) := by decide +kernel
theorem dX0_settle_90 : decode cX0_settle 90 = .ok (.iload_n 3, 1) := by decide +kernel
theorem dX0_settle_91 : decode cX0_settle 91 = .ok (.aload_n 0, 1) := by decide +kernel
theorem dX0_settle_92 : decode cX0_settle 92 = .ok (.getfield 9, 3) := by decide +kernel
theorem dX0_settle_95 : decode cX0_settle 95 = .ok (.if_icmp .ge 35, 3) := by decide +kernel
theorem dX0_settle_98 : decode cX0_settle 98 = .ok (.iload_n 1, 1) := by decide +kernel
theorem dX0_settle_99 : decode cX0_settle 99 = .ok (.iload_n 3, 1) := by decide +kernel
theorem dX0_settle_100 : decode cX0_settle 100 = .ok (.invokestatic 50, 3) := by decide +kernel
theorem dX0_settle_103 : decode cX0_settle 103 = .ok (.ifCond .eq 21, 3) := by decide +kernel
theorem dX0_settle_106 : decode cX0_settle 106 = .ok (.aload_n 0, 1) := by decide +kernel
theorem dX0_settle_107 : decode cX0_settle 107 = .ok (.iload_n 3, 1) := by decide +kernel
theorem dX0_settle_108 : decode cX0_settle 108 = .ok (.aload_n 2, 1) := by decide +kernel
theorem dX0_settle_109 : decode cX0_settle 109 = .ok (.aload_n 0, 1) := by decide +kernel
theorem dX0_settle_110 : decode cX0_settle 110 = .ok (.getfield 19, 3) := by decide +kernel
theorem dX0_settle_113 : decode cX0_settle 113 = .ok (.iload_n 3, 1) := by decide +kernel
theorem dX0_settle_114 : decode cX0_settle 114 = .ok (.iaload, 1) := by decide +kernel
theorem dX0_settle_115 : decode cX0_settle 115 = .ok (.bipush 6, 2) := by decide +kernel
theorem dX0_settle_117 : decode cX0_settle 117 = .ok (.idiv, 1) := by decide +kernel
theorem dX0_settle_118 : decode cX0_settle 118 = .ok (.invokevirtual 65, 3) := by decide +kernel
theorem dX0_settle_121 : decode cX0_settle 121 = .ok (.invokevirtual 70, 3) := by decide +kernel
theorem dX0_settle_124 : decode cX0_settle 124 = .ok (.iinc 3 1, 3) := by decide +kernel
theorem dX0_settle_127 : decode cX0_settle 127 = .ok (.goto (-37), 3) := by decide +kernel
theorem dX0_settle_130 : decode cX0_settle 130 = .ok (.return_, 1) := by decide +kernel
theorem dX0_goesIn_0 : decode cX0_goesIn 0 = .ok (.aload_n 2, 1) := by decide +kernel
theorem dX0_goesIn_1 : decode cX0_goesIn 1 = .ok (.aload_n 0, 1) := by decide +kernel
theorem dX0_goesIn_2 : decode cX0_goesIn 2 = .ok (.getfield 15, 3) := by decide +kernel
theorem dX0_goesIn_5 : decode cX0_goesIn 5 = .ok (.iload_n 1, 1) := by decide +kernel
theorem dX0_goesIn_6 : decode cX0_goesIn 6 = .ok (.iaload, 1) := by decide +kernel
theorem dX0_goesIn_7 : decode cX0_goesIn 7 = .ok (.aload_n 0, 1) := by decide +kernel
theorem dX0_goesIn_8 : decode cX0_goesIn 8 = .ok (.getfield 19, 3) := by decide +kernel
theorem dX0_goesIn_11 : decode cX0_goesIn 11 = .ok (.iload_n 1, 1) := by decide +kernel
theorem dX0_goesIn_12 : decode cX0_goesIn 12 = .ok (.iaload, 1) := by decide +kernel
theorem dX0_goesIn_13 : decode cX0_goesIn 13 = .ok (.bipush 6, 2) := by decide +kernel
theorem dX0_goesIn_15 : decode cX0_goesIn 15 = .ok (.idiv, 1) := by decide +kernel
theorem dX0_goesIn_16 : decode cX0_goesIn 16 = .ok (.invokevirtual 73, 3) := by decide +kernel
theorem dX0_goesIn_19 : decode cX0_goesIn 19 = .ok (.istore_n 3, 1) := by decide +kernel
theorem dX0_goesIn_20 : decode cX0_goesIn 20 = .ok (.iconst 0, 1) := by decide +kernel
theorem dX0_goesIn_21 : decode cX0_goesIn 21 = .ok (.istore 4, 2) := by decide +kernel
theorem dX0_goesIn_23 : decode cX0_goesIn 23 = .ok (.iload 4, 2) := by decide +kernel
theorem dX0_goesIn_25 : decode cX0_goesIn 25 = .ok (.aload_n 0, 1) := by decide +kernel
theorem dX0_goesIn_26 : decode cX0_goesIn 26 = .ok (.getfield 9, 3) := by decide +kernel
theorem dX0_goesIn_29 : decode cX0_goesIn 29 = .ok (.if_icmp .ge 85, 3) := by decide +kernel
theorem dX0_goesIn_32 : decode cX0_goesIn 32 = .ok (.aload_n 0, 1) := by decide +kernel
theorem dX0_goesIn_33 : decode cX0_goesIn 33 = .ok (.getfield 15, 3) := by decide +kernel
theorem dX0_goesIn_36 : decode cX0_goesIn 36 = .ok (.iload 4, 2) := by decide +kernel
theorem dX0_goesIn_38 : decode cX0_goesIn 38 = .ok (.iaload, 1) := by decide +kernel
theorem dX0_goesIn_39 : decode cX0_goesIn 39 = .ok (.aload_n 0, 1) := by decide +kernel
theorem dX0_goesIn_40 : decode cX0_goesIn 40 = .ok (.getfield 15, 3) := by decide +kernel
theorem dX0_goesIn_43 : decode cX0_goesIn 43 = .ok (.iload_n 1, 1) := by decide +kernel
theorem dX0_goesIn_44 : decode cX0_goesIn 44 = .ok (.iaload, 1) := by decide +kernel
theorem dX0_goesIn_45 : decode cX0_goesIn 45 = .ok (.if_icmp .gt 25, 3) := by decide +kernel
theorem dX0_goesIn_48 : decode cX0_goesIn 48 = .ok (.aload_n 0, 1) := by decide +kernel
theorem dX0_goesIn_49 : decode cX0_goesIn 49 = .ok (.getfield 15, 3) := by decide +kernel
theorem dX0_goesIn_52 : decode cX0_goesIn 52 = .ok (.iload 4, 2) := by decide +kernel
theorem dX0_goesIn_54 : decode cX0_goesIn 54 = .ok (.iaload, 1) := by decide +kernel
theorem dX0_goesIn_55 : decode cX0_goesIn 55 = .ok (.aload_n 0, 1) := by decide +kernel
theorem dX0_goesIn_56 : decode cX0_goesIn 56 = .ok (.getfield 15, 3) := by decide +kernel
theorem dX0_goesIn_59 : decode cX0_goesIn 59 = .ok (.iload_n 1, 1) := by decide +kernel
theorem dX0_goesIn_60 : decode cX0_goesIn 60 = .ok (.iaload, 1) := by decide +kernel
theorem dX0_goesIn_61 : decode cX0_goesIn 61 = .ok (.if_icmp .ne 13, 3) := by decide +kernel
theorem dX0_goesIn_64 : decode cX0_goesIn 64 = .ok (.iload 4, 2) := by decide +kernel
theorem dX0_goesIn_66 : decode cX0_goesIn 66 = .ok (.iload_n 1, 1) := by decide +kernel
theorem dX0_goesIn_67 : decode cX0_goesIn 67 = .ok (.if_icmp .le 7, 3) := by decide +kernel
theorem dX0_goesIn_70 : decode cX0_goesIn 70 = .ok (.iconst 1, 1) := by decide +kernel
theorem dX0_goesIn_71 : decode cX0_goesIn 71 = .ok (.goto 4, 3) := by decide +kernel
theorem dX0_goesIn_74 : decode cX0_goesIn 74 = .ok (.iconst 0, 1) := by decide +kernel
theorem dX0_goesIn_75 : decode cX0_goesIn 75 = .ok (.istore 5, 2) := by decide +kernel
theorem dX0_goesIn_77 : decode cX0_goesIn 77 = .ok (.iload 5, 2) := by decide +kernel
theorem dX0_goesIn_79 : decode cX0_goesIn 79 = .ok (.ifCond .eq 29, 3) := by decide +kernel
theorem dX0_goesIn_82 : decode cX0_goesIn 82 = .ok (.aload_n 0, 1) := by decide +kernel
theorem dX0_goesIn_83 : decode cX0_goesIn 83 = .ok (.getfield 28, 3) := by decide +kernel
theorem dX0_goesIn_86 : decode cX0_goesIn 86 = .ok (.iload_n 1, 1) := by decide +kernel
theorem dX0_goesIn_87 : decode cX0_goesIn 87 = .ok (.iaload, 1) := by decide +kernel
theorem dX0_goesIn_88 : decode cX0_goesIn 88 = .ok (.iload 4, 2) := by decide +kernel
theorem dX0_goesIn_90 : decode cX0_goesIn 90 = .ok (.invokestatic 50, 3) := by decide +kernel
theorem dX0_goesIn_93 : decode cX0_goesIn 93 = .ok (.ifCond .eq 15, 3) := by decide +kernel
theorem dX0_goesIn_96 : decode cX0_goesIn 96 = .ok (.iload_n 3, 1) := by decide +kernel
theorem dX0_goesIn_97 : decode cX0_goesIn 97 = .ok (.aload_n 0, 1) := by decide +kernel
theorem dX0_goesIn_98 : decode cX0_goesIn 98 = .ok (.getfield 15, 3) := by decide +kernel
theorem dX0_goesIn_101 : decode cX0_goesIn 101 = .ok (.iload 4, 2) := by decide +kernel
theorem dX0_goesIn_103 : decode cX0_goesIn 103 = .ok (.iaload, 1) := by decide +kernel
theorem dX0_goesIn_104 : decode cX0_goesIn 104 = .ok (.invokestatic 77, 3) := by decide +kernel
theorem dX0_goesIn_107 : decode cX0_goesIn 107 = .ok (.istore_n 3, 1) := by decide +kernel
theorem dX0_goesIn_108 : decode cX0_goesIn 108 = .ok (.iinc 4 1, 3) := by decide +kernel
theorem dX0_goesIn_111 : decode cX0_goesIn 111 = .ok (.goto (-88), 3) := by decide +kernel
theorem dX0_goesIn_114 : decode cX0_goesIn 114 = .ok (.iload_n 3, 1) := by decide +kernel
theorem dX0_goesIn_115 : decode cX0_goesIn 115 = .ok (.ireturn, 1) := by decide +kernel
theorem dX0_settleStroke_0 : decode cX0_settleStroke 0 = .ok (.iload_n 1, 1) := by decide +kernel
theorem dX0_settleStroke_1 : decode cX0_settleStroke 1 = .ok (.invokestatic 46, 3) := by decide +kernel
theorem dX0_settleStroke_4 : decode cX0_settleStroke 4 = .ok (.istore_n 3, 1) := by decide +kernel
theorem dX0_settleStroke_5 : decode cX0_settleStroke 5 = .ok (.iconst 0, 1) := by decide +kernel
theorem dX0_settleStroke_6 : decode cX0_settleStroke 6 = .ok (.aload_n 0, 1) := by decide +kernel
theorem dX0_settleStroke_7 : decode cX0_settleStroke 7 = .ok (.getfield 15, 3) := by decide +kernel
theorem dX0_settleStroke_10 : decode cX0_settleStroke 10 = .ok (.iload_n 1, 1) := by decide +kernel
theorem dX0_settleStroke_11 : decode cX0_settleStroke 11 = .ok (.iaload, 1) := by decide +kernel
theorem dX0_settleStroke_12 : decode cX0_settleStroke 12 = .ok (.invokestatic 82, 3) := by decide +kernel
theorem dX0_settleStroke_15 : decode cX0_settleStroke 15 = .ok (.istore 4, 2) := by decide +kernel
theorem dX0_settleStroke_17 : decode cX0_settleStroke 17 = .ok (.iload 4, 2) := by decide +kernel
theorem dX0_settleStroke_19 : decode cX0_settleStroke 19 = .ok (.bipush 20, 2) := by decide +kernel
theorem dX0_settleStroke_21 : decode cX0_settleStroke 21 = .ok (.if_icmp .ge 40, 3) := by decide +kernel
theorem dX0_settleStroke_24 : decode cX0_settleStroke 24 = .ok (.iload 4, 2) := by decide +kernel
theorem dX0_settleStroke_26 : decode cX0_settleStroke 26 = .ok (.iload_n 2, 1) := by decide +kernel
theorem dX0_settleStroke_27 : decode cX0_settleStroke 27 = .ok (.if_icmp .ge 17, 3) := by decide +kernel
theorem dX0_settleStroke_30 : decode cX0_settleStroke 30 = .ok (.aload_n 0, 1) := by decide +kernel
theorem dX0_settleStroke_31 : decode cX0_settleStroke 31 = .ok (.getfield 31, 3) := by decide +kernel
theorem dX0_settleStroke_34 : decode cX0_settleStroke 34 = .ok (.iload 4, 2) := by decide +kernel
theorem dX0_settleStroke_36 : decode cX0_settleStroke 36 = .ok (.dup2, 1) := by decide +kernel
theorem dX0_settleStroke_37 : decode cX0_settleStroke 37 = .ok (.iaload, 1) := by decide +kernel
theorem dX0_settleStroke_38 : decode cX0_settleStroke 38 = .ok (.iload_n 3, 1) := by decide +kernel
theorem dX0_settleStroke_39 : decode cX0_settleStroke 39 = .ok (.ior, 1) := by decide +kernel
theorem dX0_settleStroke_40 : decode cX0_settleStroke 40 = .ok (.iastore, 1) := by decide +kernel
theorem dX0_settleStroke_41 : decode cX0_settleStroke 41 = .ok (.goto 14, 3) := by decide +kernel
theorem dX0_settleStroke_44 : decode cX0_settleStroke 44 = .ok (.aload_n 0, 1) := by decide +kernel
theorem dX0_settleStroke_45 : decode cX0_settleStroke 45 = .ok (.getfield 34, 3) := by decide +kernel
theorem dX0_settleStroke_48 : decode cX0_settleStroke 48 = .ok (.iload 4, 2) := by decide +kernel
theorem dX0_settleStroke_50 : decode cX0_settleStroke 50 = .ok (.dup2, 1) := by decide +kernel
theorem dX0_settleStroke_51 : decode cX0_settleStroke 51 = .ok (.iaload, 1) := by decide +kernel
theorem dX0_settleStroke_52 : decode cX0_settleStroke 52 = .ok (.iload_n 3, 1) := by decide +kernel
theorem dX0_settleStroke_53 : decode cX0_settleStroke 53 = .ok (.ior, 1) := by decide +kernel
theorem dX0_settleStroke_54 : decode cX0_settleStroke 54 = .ok (.iastore, 1) := by decide +kernel
theorem dX0_settleStroke_55 : decode cX0_settleStroke 55 = .ok (.iinc 4 1, 3) := by decide +kernel
theorem dX0_settleStroke_58 : decode cX0_settleStroke 58 = .ok (.goto (-41), 3) := by decide +kernel
theorem dX0_settleStroke_61 : decode cX0_settleStroke 61 = .ok (.return_, 1) := by decide +kernel
theorem dX0_settleAble_0 : decode cX0_settleAble 0 = .ok (.iload_n 1, 1) := by decide +kernel
theorem dX0_settleAble_1 : decode cX0_settleAble 1 = .ok (.invokestatic 46, 3) := by decide +kernel
theorem dX0_settleAble_4 : decode cX0_settleAble 4 = .ok (.istore_n 3, 1) := by decide +kernel
theorem dX0_settleAble_5 : decode cX0_settleAble 5 = .ok (.aload_n 0, 1) := by decide +kernel
theorem dX0_settleAble_6 : decode cX0_settleAble 6 = .ok (.getfield 28, 3) := by decide +kernel
theorem dX0_settleAble_9 : decode cX0_settleAble 9 = .ok (.iload_n 1, 1) := by decide +kernel
theorem dX0_settleAble_10 : decode cX0_settleAble 10 = .ok (.iaload, 1) := by decide +kernel
theorem dX0_settleAble_11 : decode cX0_settleAble 11 = .ok (.istore 4, 2) := by decide +kernel
theorem dX0_settleAble_13 : decode cX0_settleAble 13 = .ok (.iconst 0, 1) := by decide +kernel
theorem dX0_settleAble_14 : decode cX0_settleAble 14 = .ok (.istore 5, 2) := by decide +kernel
theorem dX0_settleAble_16 : decode cX0_settleAble 16 = .ok (.iload 5, 2) := by decide +kernel
theorem dX0_settleAble_18 : decode cX0_settleAble 18 = .ok (.bipush 20, 2) := by decide +kernel
theorem dX0_settleAble_20 : decode cX0_settleAble 20 = .ok (.if_icmp .ge 47, 3) := by decide +kernel
theorem dX0_settleAble_23 : decode cX0_settleAble 23 = .ok (.iload 5, 2) := by decide +kernel
theorem dX0_settleAble_25 : decode cX0_settleAble 25 = .ok (.iload_n 2, 1) := by decide +kernel
theorem dX0_settleAble_26 : decode cX0_settleAble 26 = .ok (.if_icmp .ge 41, 3) := by decide +kernel
theorem dX0_settleAble_29 : decode cX0_settleAble 29 = .ok (.aload_n 0, 1) := by decide +kernel
theorem dX0_settleAble_30 : decode cX0_settleAble 30 = .ok (.getfield 31, 3) := by decide +kernel
theorem dX0_settleAble_33 : decode cX0_settleAble 33 = .ok (.iload 5, 2) := by decide +kernel
theorem dX0_settleAble_35 : decode cX0_settleAble 35 = .ok (.iaload, 1) := by decide +kernel
theorem dX0_settleAble_36 : decode cX0_settleAble 36 = .ok (.iload 4, 2) := by decide +kernel
theorem dX0_settleAble_38 : decode cX0_settleAble 38 = .ok (.iand, 1) := by decide +kernel
theorem dX0_settleAble_39 : decode cX0_settleAble 39 = .ok (.ifCond .ne 22, 3) := by decide +kernel
theorem dX0_settleAble_42 : decode cX0_settleAble 42 = .ok (.aload_n 0, 1) := by decide +kernel
theorem dX0_settleAble_43 : decode cX0_settleAble 43 = .ok (.getfield 37, 3) := by decide +kernel
theorem dX0_settleAble_46 : decode cX0_settleAble 46 = .ok (.iload 5, 2) := by decide +kernel
theorem dX0_settleAble_48 : decode cX0_settleAble 48 = .ok (.dup2, 1) := by decide +kernel
theorem dX0_settleAble_49 : decode cX0_settleAble 49 = .ok (.iaload, 1) := by decide +kernel
theorem dX0_settleAble_50 : decode cX0_settleAble 50 = .ok (.aload_n 0, 1) := by decide +kernel
theorem dX0_settleAble_51 : decode cX0_settleAble 51 = .ok (.getfield 34, 3) := by decide +kernel
theorem dX0_settleAble_54 : decode cX0_settleAble 54 = .ok (.iload 5, 2) := by decide +kernel
theorem dX0_settleAble_56 : decode cX0_settleAble 56 = .ok (.iaload, 1) := by decide +kernel
theorem dX0_settleAble_57 : decode cX0_settleAble 57 = .ok (.iload_n 3, 1) := by decide +kernel
theorem dX0_settleAble_58 : decode cX0_settleAble 58 = .ok (.iand, 1) := by decide +kernel
theorem dX0_settleAble_59 : decode cX0_settleAble 59 = .ok (.ior, 1) := by decide +kernel
theorem dX0_settleAble_60 : decode cX0_settleAble 60 = .ok (.iastore, 1) := by decide +kernel
theorem dX0_settleAble_61 : decode cX0_settleAble 61 = .ok (.iinc 5 1, 3) := by decide +kernel
theorem dX0_settleAble_64 : decode cX0_settleAble 64 = .ok (.goto (-48), 3) := by decide +kernel
theorem dX0_settleAble_67 : decode cX0_settleAble 67 = .ok (.return_, 1) := by decide +kernel
theorem dX0_freshStrengths_0 : decode cX0_freshStrengths 0 = .ok (.iconst 0, 1) := by decide +kernel
theorem dX0_freshStrengths_1 : decode cX0_freshStrengths 1 = .ok (.istore_n 1, 1) := by decide +kernel
theorem dX0_freshStrengths_2 : decode cX0_freshStrengths 2 = .ok (.iconst 0, 1) := by decide +kernel
theorem dX0_freshStrengths_3 : decode cX0_freshStrengths 3 = .ok (.istore_n 2, 1) := by decide +kernel
theorem dX0_freshStrengths_4 : decode cX0_freshStrengths 4 = .ok (.iload_n 2, 1) := by decide +kernel
theorem dX0_freshStrengths_5 : decode cX0_freshStrengths 5 = .ok (.aload_n 0, 1) := by decide +kernel
theorem dX0_freshStrengths_6 : decode cX0_freshStrengths 6 = .ok (.getfield 9, 3) := by decide +kernel
theorem dX0_freshStrengths_9 : decode cX0_freshStrengths 9 = .ok (.if_icmp .ge 22, 3) := by decide +kernel
theorem dX0_freshStrengths_12 : decode cX0_freshStrengths 12 = .ok (.iload_n 1, 1) := by decide +kernel
theorem dX0_freshStrengths_13 : decode cX0_freshStrengths 13 = .ok (.aload_n 0, 1) := by decide +kernel
theorem dX0_freshStrengths_14 : decode cX0_freshStrengths 14 = .ok (.getfield 25, 3) := by decide +kernel
theorem dX0_freshStrengths_17 : decode cX0_freshStrengths 17 = .ok (.iload_n 2, 1) := by decide +kernel
theorem dX0_freshStrengths_18 : decode cX0_freshStrengths 18 = .ok (.iaload, 1) := by decide +kernel
theorem dX0_freshStrengths_19 : decode cX0_freshStrengths 19 = .ok (.iconst 4, 1) := by decide +kernel
theorem dX0_freshStrengths_20 : decode cX0_freshStrengths 20 = .ok (.iload_n 2, 1) := by decide +kernel
theorem dX0_freshStrengths_21 : decode cX0_freshStrengths 21 = .ok (.imul, 1) := by decide +kernel
theorem dX0_freshStrengths_22 : decode cX0_freshStrengths 22 = .ok (.ishl, 1) := by decide +kernel
theorem dX0_freshStrengths_23 : decode cX0_freshStrengths 23 = .ok (.ior, 1) := by decide +kernel
theorem dX0_freshStrengths_24 : decode cX0_freshStrengths 24 = .ok (.istore_n 1, 1) := by decide +kernel
theorem dX0_freshStrengths_25 : decode cX0_freshStrengths 25 = .ok (.iinc 2 1, 3) := by decide +kernel
theorem dX0_freshStrengths_28 : decode cX0_freshStrengths 28 = .ok (.goto (-24), 3) := by decide +kernel
theorem dX0_freshStrengths_31 : decode cX0_freshStrengths 31 = .ok (.iload_n 1, 1) := by decide +kernel
theorem dX0_freshStrengths_32 : decode cX0_freshStrengths 32 = .ok (.ireturn, 1) := by decide +kernel
theorem dX0_risenOn_0 : decode cX0_risenOn 0 = .ok (.iload_n 2, 1) := by decide +kernel
theorem dX0_risenOn_1 : decode cX0_risenOn 1 = .ok (.ifCond .le 12, 3) := by decide +kernel
theorem dX0_risenOn_4 : decode cX0_risenOn 4 = .ok (.aload_n 0, 1) := by decide +kernel
theorem dX0_risenOn_5 : decode cX0_risenOn 5 = .ok (.getfield 37, 3) := by decide +kernel
theorem dX0_risenOn_8 : decode cX0_risenOn 8 = .ok (.iload_n 1, 1) := by decide +kernel
theorem dX0_risenOn_9 : decode cX0_risenOn 9 = .ok (.iaload, 1) := by decide +kernel
theorem dX0_risenOn_10 : decode cX0_risenOn 10 = .ok (.goto 4, 3) := by decide +kernel
theorem dX0_risenOn_13 : decode cX0_risenOn 13 = .ok (.iconst 0, 1) := by decide +kernel
theorem dX0_risenOn_14 : decode cX0_risenOn 14 = .ok (.istore 4, 2) := by decide +kernel
theorem dX0_risenOn_16 : decode cX0_risenOn 16 = .ok (.iconst 0, 1) := by decide +kernel
theorem dX0_risenOn_17 : decode cX0_risenOn 17 = .ok (.istore 5, 2) := by decide +kernel
theorem dX0_risenOn_19 : decode cX0_risenOn 19 = .ok (.iconst 0, 1) := by decide +kernel
theorem dX0_risenOn_20 : decode cX0_risenOn 20 = .ok (.istore 6, 2) := by decide +kernel
theorem dX0_risenOn_22 : decode cX0_risenOn 22 = .ok (.iload 6, 2) := by decide +kernel
theorem dX0_risenOn_24 : decode cX0_risenOn 24 = .ok (.aload_n 0, 1) := by decide +kernel
theorem dX0_risenOn_25 : decode cX0_risenOn 25 = .ok (.getfield 9, 3) := by decide +kernel
theorem dX0_risenOn_28 : decode cX0_risenOn 28 = .ok (.if_icmp .ge 92, 3) := by decide +kernel
theorem dX0_risenOn_31 : decode cX0_risenOn 31 = .ok (.iload 4, 2) := by decide +kernel
theorem dX0_risenOn_33 : decode cX0_risenOn 33 = .ok (.ifCond .eq 87, 3) := by decide +kernel
theorem dX0_risenOn_36 : decode cX0_risenOn 36 = .ok (.iload 4, 2) := by decide +kernel
theorem dX0_risenOn_38 : decode cX0_risenOn 38 = .ok (.iload 6, 2) := by decide +kernel
theorem dX0_risenOn_40 : decode cX0_risenOn 40 = .ok (.invokestatic 50, 3) := by decide +kernel
theorem dX0_risenOn_43 : decode cX0_risenOn 43 = .ok (.ifCond .eq 71, 3) := by decide +kernel
theorem dX0_risenOn_46 : decode cX0_risenOn 46 = .ok (.iload 4, 2) := by decide +kernel
theorem dX0_risenOn_48 : decode cX0_risenOn 48 = .ok (.aload_n 0, 1) := by decide +kernel
theorem dX0_risenOn_49 : decode cX0_risenOn 49 = .ok (.getfield 28, 3) := by decide +kernel
theorem dX0_risenOn_52 : decode cX0_risenOn 52 = .ok (.iload 6, 2) := by decide +kernel
theorem dX0_risenOn_54 : decode cX0_risenOn 54 = .ok (.iaload, 1) := by decide +kernel
theorem dX0_risenOn_55 : decode cX0_risenOn 55 = .ok (.iand, 1) := by decide +kernel
theorem dX0_risenOn_56 : decode cX0_risenOn 56 = .ok (.istore 7, 2) := by decide +kernel
theorem dX0_risenOn_58 : decode cX0_risenOn 58 = .ok (.iload 7, 2) := by decide +kernel
theorem dX0_risenOn_60 : decode cX0_risenOn 60 = .ok (.iload 6, 2) := by decide +kernel
theorem dX0_risenOn_62 : decode cX0_risenOn 62 = .ok (.invokestatic 46, 3) := by decide +kernel
theorem dX0_risenOn_65 : decode cX0_risenOn 65 = .ok (.if_icmp .ne 8, 3) := by decide +kernel
theorem dX0_risenOn_68 : decode cX0_risenOn 68 = .ok (.iload 6, 2) := by decide +kernel
theorem dX0_risenOn_70 : decode cX0_risenOn 70 = .ok (.goto 10, 3) := by decide +kernel
theorem dX0_risenOn_73 : decode cX0_risenOn 73 = .ok (.aload_n 0, 1) := by decide +kernel
theorem dX0_risenOn_74 : decode cX0_risenOn 74 = .ok (.iload 7, 2) := by decide +kernel
theorem dX0_risenOn_76 : decode cX0_risenOn 76 = .ok (.iload_n 3, 1) := by decide +kernel
theorem dX0_risenOn_77 : decode cX0_risenOn 77 = .ok (.invokevirtual 85, 3) := by decide +kernel
theorem dX0_risenOn_80 : decode cX0_risenOn 80 = .ok (.istore 8, 2) := by decide +kernel
theorem dX0_risenOn_82 : decode cX0_risenOn 82 = .ok (.iload_n 3, 1) := by decide +kernel
theorem dX0_risenOn_83 : decode cX0_risenOn 83 = .ok (.iload 8, 2) := by decide +kernel
theorem dX0_risenOn_85 : decode cX0_risenOn 85 = .ok (.invokestatic 88, 3) := by decide +kernel
theorem dX0_risenOn_88 : decode cX0_risenOn 88 = .ok (.iload_n 2, 1) := by decide +kernel
theorem dX0_risenOn_89 : decode cX0_risenOn 89 = .ok (.iadd, 1) := by decide +kernel
theorem dX0_risenOn_90 : decode cX0_risenOn 90 = .ok (.bipush 10, 2) := by decide +kernel
theorem dX0_risenOn_92 : decode cX0_risenOn 92 = .ok (.if_icmp .lt 13, 3) := by decide +kernel
theorem dX0_risenOn_95 : decode cX0_risenOn 95 = .ok (.iload 5, 2) := by decide +kernel
theorem dX0_risenOn_97 : decode cX0_risenOn 97 = .ok (.iload 8, 2) := by decide +kernel
theorem dX0_risenOn_99 : decode cX0_risenOn 99 = .ok (.invokestatic 46, 3) := by decide +kernel
theorem dX0_risenOn_102 : decode cX0_risenOn 102 = .ok (.ior, 1) := by decide +kernel
theorem dX0_risenOn_103 : decode cX0_risenOn 103 = .ok (.istore 5, 2) := by decide +kernel
theorem dX0_risenOn_105 : decode cX0_risenOn 105 = .ok (.iload 4, 2) := by decide +kernel
theorem dX0_risenOn_107 : decode cX0_risenOn 107 = .ok (.iload 7, 2) := by decide +kernel
theorem dX0_risenOn_109 : decode cX0_risenOn 109 = .ok (.iconst (-1), 1) := by decide +kernel
theorem dX0_risenOn_110 : decode cX0_risenOn 110 = .ok (.ixor, 1) := by decide +kernel
theorem dX0_risenOn_111 : decode cX0_risenOn 111 = .ok (.iand, 1) := by decide +kernel
theorem dX0_risenOn_112 : decode cX0_risenOn 112 = .ok (.istore 4, 2) := by decide +kernel
theorem dX0_risenOn_114 : decode cX0_risenOn 114 = .ok (.iinc 6 1, 3) := by decide +kernel
theorem dX0_risenOn_117 : decode cX0_risenOn 117 = .ok (.goto (-95), 3) := by decide +kernel
theorem dX0_risenOn_120 : decode cX0_risenOn 120 = .ok (.iload 5, 2) := by decide +kernel
theorem dX0_risenOn_122 : decode cX0_risenOn 122 = .ok (.ireturn, 1) := by decide +kernel
theorem dX0_strongest_0 : decode cX0_strongest 0 = .ok (.iconst 0, 1) := by decide +kernel
theorem dX0_strongest_1 : decode cX0_strongest 1 = .ok (.istore_n 3, 1) := by decide +kernel
theorem dX0_strongest_2 : decode cX0_strongest 2 = .ok (.iconst (-1), 1) := by decide +kernel
theorem dX0_strongest_3 : decode cX0_strongest 3 = .ok (.istore 4, 2) := by decide +kernel
theorem dX0_strongest_5 : decode cX0_strongest 5 = .ok (.iconst 0, 1) := by decide +kernel
theorem dX0_strongest_6 : decode cX0_strongest 6 = .ok (.istore 5, 2) := by decide +kernel
theorem dX0_strongest_8 : decode cX0_strongest 8 = .ok (.iload 5, 2) := by decide +kernel
theorem dX0_strongest_10 : decode cX0_strongest 10 = .ok (.aload_n 0, 1) := by decide +kernel
theorem dX0_strongest_11 : decode cX0_strongest 11 = .ok (.getfield 9, 3) := by decide +kernel
theorem dX0_strongest_14 : decode cX0_strongest 14 = .ok (.if_icmp .ge 45, 3) := by decide +kernel
theorem dX0_strongest_17 : decode cX0_strongest 17 = .ok (.iload_n 2, 1) := by decide +kernel
theorem dX0_strongest_18 : decode cX0_strongest 18 = .ok (.iconst 4, 1) := by decide +kernel
theorem dX0_strongest_19 : decode cX0_strongest 19 = .ok (.iload 5, 2) := by decide +kernel
theorem dX0_strongest_21 : decode cX0_strongest 21 = .ok (.imul, 1) := by decide +kernel
theorem dX0_strongest_22 : decode cX0_strongest 22 = .ok (.iushr, 1) := by decide +kernel
theorem dX0_strongest_23 : decode cX0_strongest 23 = .ok (.bipush 15, 2) := by decide +kernel
theorem dX0_strongest_25 : decode cX0_strongest 25 = .ok (.iand, 1) := by decide +kernel
theorem dX0_strongest_26 : decode cX0_strongest 26 = .ok (.istore 6, 2) := by decide +kernel
theorem dX0_strongest_28 : decode cX0_strongest 28 = .ok (.iload_n 1, 1) := by decide +kernel
theorem dX0_strongest_29 : decode cX0_strongest 29 = .ok (.iconst 4, 1) := by decide +kernel
theorem dX0_strongest_30 : decode cX0_strongest 30 = .ok (.iload 5, 2) := by decide +kernel
theorem dX0_strongest_32 : decode cX0_strongest 32 = .ok (.imul, 1) := by decide +kernel
theorem dX0_strongest_33 : decode cX0_strongest 33 = .ok (.iushr, 1) := by decide +kernel
theorem dX0_strongest_34 : decode cX0_strongest 34 = .ok (.iconst 1, 1) := by decide +kernel
theorem dX0_strongest_35 : decode cX0_strongest 35 = .ok (.iand, 1) := by decide +kernel
theorem dX0_strongest_36 : decode cX0_strongest 36 = .ok (.ifCond .eq 17, 3) := by decide +kernel
theorem dX0_strongest_39 : decode cX0_strongest 39 = .ok (.iload 6, 2) := by decide +kernel
theorem dX0_strongest_41 : decode cX0_strongest 41 = .ok (.iload 4, 2) := by decide +kernel
theorem dX0_strongest_43 : decode cX0_strongest 43 = .ok (.if_icmp .lt 10, 3) := by decide +kernel
theorem dX0_strongest_46 : decode cX0_strongest 46 = .ok (.iload 5, 2) := by decide +kernel
theorem dX0_strongest_48 : decode cX0_strongest 48 = .ok (.istore_n 3, 1) := by decide +kernel
theorem dX0_strongest_49 : decode cX0_strongest 49 = .ok (.iload 6, 2) := by decide +kernel
theorem dX0_strongest_51 : decode cX0_strongest 51 = .ok (.istore 4, 2) := by decide +kernel
theorem dX0_strongest_53 : decode cX0_strongest 53 = .ok (.iinc 5 1, 3) := by decide +kernel
theorem dX0_strongest_56 : decode cX0_strongest 56 = .ok (.goto (-48), 3) := by decide +kernel
theorem dX0_strongest_59 : decode cX0_strongest 59 = .ok (.iload_n 3, 1) := by decide +kernel
theorem dX0_strongest_60 : decode cX0_strongest 60 = .ok (.ireturn, 1) := by decide +kernel
theorem dX0_weathered_0 : decode cX0_weathered 0 = .ok (.iload_n 3, 1) := by decide +kernel
theorem dX0_weathered_1 : decode cX0_weathered 1 = .ok (.iload_n 3, 1) := by decide +kernel
theorem dX0_weathered_2 : decode cX0_weathered 2 = .ok (.iconst 3, 1) := by decide +kernel
theorem dX0_weathered_3 : decode cX0_weathered 3 = .ok (.iushr, 1) := by decide +kernel
theorem dX0_weathered_4 : decode cX0_weathered 4 = .ok (.iand, 1) := by decide +kernel
theorem dX0_weathered_5 : decode cX0_weathered 5 = .ok (.istore 5, 2) := by decide +kernel
theorem dX0_weathered_7 : decode cX0_weathered 7 = .ok (.iload_n 3, 1) := by decide +kernel
theorem dX0_weathered_8 : decode cX0_weathered 8 = .ok (.iload_n 3, 1) := by decide +kernel
theorem dX0_weathered_9 : decode cX0_weathered 9 = .ok (.iconst 1, 1) := by decide +kernel
theorem dX0_weathered_10 : decode cX0_weathered 10 = .ok (.iushr, 1) := by decide +kernel
theorem dX0_weathered_11 : decode cX0_weathered 11 = .ok (.ior, 1) := by decide +kernel
theorem dX0_weathered_12 : decode cX0_weathered 12 = .ok (.iload_n 3, 1) := by decide +kernel
theorem dX0_weathered_13 : decode cX0_weathered 13 = .ok (.iconst 2, 1) := by decide +kernel
theorem dX0_weathered_14 : decode cX0_weathered 14 = .ok (.iushr, 1) := by decide +kernel
theorem dX0_weathered_15 : decode cX0_weathered 15 = .ok (.ior, 1) := by decide +kernel
theorem dX0_weathered_16 : decode cX0_weathered 16 = .ok (.iload_n 3, 1) := by decide +kernel
theorem dX0_weathered_17 : decode cX0_weathered 17 = .ok (.iconst 3, 1) := by decide +kernel
theorem dX0_weathered_18 : decode cX0_weathered 18 = .ok (.iushr, 1) := by decide +kernel
theorem dX0_weathered_19 : decode cX0_weathered 19 = .ok (.ior, 1) := by decide +kernel
theorem dX0_weathered_20 : decode cX0_weathered 20 = .ok (.istore 6, 2) := by decide +kernel
theorem dX0_weathered_22 : decode cX0_weathered 22 = .ok (.iload 4, 2) := by decide +kernel
theorem dX0_weathered_24 : decode cX0_weathered 24 = .ok (.ifCond .eq 16, 3) := by decide +kernel
theorem dX0_weathered_27 : decode cX0_weathered 27 = .ok (.aload_n 0, 1) := by decide +kernel
theorem dX0_weathered_28 : decode cX0_weathered 28 = .ok (.getfield 34, 3) := by decide +kernel
theorem dX0_weathered_31 : decode cX0_weathered 31 = .ok (.iload_n 1, 1) := by decide +kernel
theorem dX0_weathered_32 : decode cX0_weathered 32 = .ok (.iaload, 1) := by decide +kernel
theorem dX0_weathered_33 : decode cX0_weathered 33 = .ok (.iload_n 2, 1) := by decide +kernel
theorem dX0_weathered_34 : decode cX0_weathered 34 = .ok (.iconst (-1), 1) := by decide +kernel
theorem dX0_weathered_35 : decode cX0_weathered 35 = .ok (.ixor, 1) := by decide +kernel
theorem dX0_weathered_36 : decode cX0_weathered 36 = .ok (.iand, 1) := by decide +kernel
theorem dX0_weathered_37 : decode cX0_weathered 37 = .ok (.goto 4, 3) := by decide +kernel
theorem dX0_weathered_40 : decode cX0_weathered 40 = .ok (.iconst 0, 1) := by decide +kernel
theorem dX0_weathered_41 : decode cX0_weathered 41 = .ok (.istore 7, 2) := by decide +kernel
theorem dX0_weathered_43 : decode cX0_weathered 43 = .ok (.iload_n 3, 1) := by decide +kernel
theorem dX0_weathered_44 : decode cX0_weathered 44 = .ok (.iload_n 2, 1) := by decide +kernel
theorem dX0_weathered_45 : decode cX0_weathered 45 = .ok (.iload 5, 2) := by decide +kernel
theorem dX0_weathered_47 : decode cX0_weathered 47 = .ok (.iconst (-1), 1) := by decide +kernel
theorem dX0_weathered_48 : decode cX0_weathered 48 = .ok (.ixor, 1) := by decide +kernel
theorem dX0_weathered_49 : decode cX0_weathered 49 = .ok (.iand, 1) := by decide +kernel
theorem dX0_weathered_50 : decode cX0_weathered 50 = .ok (.iadd, 1) := by decide +kernel
theorem dX0_weathered_51 : decode cX0_weathered 51 = .ok (.iload 7, 2) := by decide +kernel
theorem dX0_weathered_53 : decode cX0_weathered 53 = .ok (.iload 6, 2) := by decide +kernel
theorem dX0_weathered_55 : decode cX0_weathered 55 = .ok (.iand, 1) := by decide +kernel
theorem dX0_weathered_56 : decode cX0_weathered 56 = .ok (.isub, 1) := by decide +kernel
theorem dX0_weathered_57 : decode cX0_weathered 57 = .ok (.ireturn, 1) := by decide +kernel
theorem dX0_shownOn_0 : decode cX0_shownOn 0 = .ok (.iconst 0, 1) := by decide +kernel
theorem dX0_shownOn_1 : decode cX0_shownOn 1 = .ok (.istore 4, 2) := by decide +kernel
theorem dX0_shownOn_3 : decode cX0_shownOn 3 = .ok (.iload 4, 2) := by decide +kernel
theorem dX0_shownOn_5 : decode cX0_shownOn 5 = .ok (.aload_n 0, 1) := by decide +kernel
theorem dX0_shownOn_6 : decode cX0_shownOn 6 = .ok (.getfield 9, 3) := by decide +kernel
theorem dX0_shownOn_9 : decode cX0_shownOn 9 = .ok (.if_icmp .ge 62, 3) := by decide +kernel
theorem dX0_shownOn_12 : decode cX0_shownOn 12 = .ok (.aload_n 0, 1) := by decide +kernel
theorem dX0_shownOn_13 : decode cX0_shownOn 13 = .ok (.getfield 19, 3) := by decide +kernel
theorem dX0_shownOn_16 : decode cX0_shownOn 16 = .ok (.iload 4, 2) := by decide +kernel
theorem dX0_shownOn_18 : decode cX0_shownOn 18 = .ok (.iaload, 1) := by decide +kernel
theorem dX0_shownOn_19 : decode cX0_shownOn 19 = .ok (.iload_n 2, 1) := by decide +kernel
theorem dX0_shownOn_20 : decode cX0_shownOn 20 = .ok (.if_icmp .ne 45, 3) := by decide +kernel
theorem dX0_shownOn_23 : decode cX0_shownOn 23 = .ok (.aload_n 0, 1) := by decide +kernel
theorem dX0_shownOn_24 : decode cX0_shownOn 24 = .ok (.getfield 31, 3) := by decide +kernel
theorem dX0_shownOn_27 : decode cX0_shownOn 27 = .ok (.iload_n 1, 1) := by decide +kernel
theorem dX0_shownOn_28 : decode cX0_shownOn 28 = .ok (.iaload, 1) := by decide +kernel
theorem dX0_shownOn_29 : decode cX0_shownOn 29 = .ok (.iload 4, 2) := by decide +kernel
theorem dX0_shownOn_31 : decode cX0_shownOn 31 = .ok (.invokestatic 50, 3) := by decide +kernel
theorem dX0_shownOn_34 : decode cX0_shownOn 34 = .ok (.ifCond .eq 11, 3) := by decide +kernel
theorem dX0_shownOn_37 : decode cX0_shownOn 37 = .ok (.aload_n 0, 1) := by decide +kernel
theorem dX0_shownOn_38 : decode cX0_shownOn 38 = .ok (.getfield 22, 3) := by decide +kernel
theorem dX0_shownOn_41 : decode cX0_shownOn 41 = .ok (.iload 4, 2) := by decide +kernel
theorem dX0_shownOn_43 : decode cX0_shownOn 43 = .ok (.iaload, 1) := by decide +kernel
theorem dX0_shownOn_44 : decode cX0_shownOn 44 = .ok (.ireturn, 1) := by decide +kernel
theorem dX0_shownOn_45 : decode cX0_shownOn 45 = .ok (.iload_n 3, 1) := by decide +kernel
theorem dX0_shownOn_46 : decode cX0_shownOn 46 = .ok (.iload 4, 2) := by decide +kernel
theorem dX0_shownOn_48 : decode cX0_shownOn 48 = .ok (.invokestatic 50, 3) := by decide +kernel
theorem dX0_shownOn_51 : decode cX0_shownOn 51 = .ok (.ifCond .eq 14, 3) := by decide +kernel
theorem dX0_shownOn_54 : decode cX0_shownOn 54 = .ok (.bipush 6, 2) := by decide +kernel
theorem dX0_shownOn_56 : decode cX0_shownOn 56 = .ok (.aload_n 0, 1) := by decide +kernel
theorem dX0_shownOn_57 : decode cX0_shownOn 57 = .ok (.getfield 22, 3) := by decide +kernel
theorem dX0_shownOn_60 : decode cX0_shownOn 60 = .ok (.iload 4, 2) := by decide +kernel
theorem dX0_shownOn_62 : decode cX0_shownOn 62 = .ok (.iaload, 1) := by decide +kernel
theorem dX0_shownOn_63 : decode cX0_shownOn 63 = .ok (.iadd, 1) := by decide +kernel
theorem dX0_shownOn_64 : decode cX0_shownOn 64 = .ok (.ireturn, 1) := by decide +kernel
theorem dX0_shownOn_65 : decode cX0_shownOn 65 = .ok (.iinc 4 1, 3) := by decide +kernel
theorem dX0_shownOn_68 : decode cX0_shownOn 68 = .ok (.goto (-65), 3) := by decide +kernel
theorem dX0_shownOn_71 : decode cX0_shownOn 71 = .ok (.iconst (-1), 1) := by decide +kernel
theorem dX0_shownOn_72 : decode cX0_shownOn 72 = .ok (.ireturn, 1) := by decide +kernel
theorem dX0_signRisen_0 : decode cX0_signRisen 0 = .ok (.iconst 0, 1) := by decide +kernel
theorem dX0_signRisen_1 : decode cX0_signRisen 1 = .ok (.istore_n 3, 1) := by decide +kernel
theorem dX0_signRisen_2 : decode cX0_signRisen 2 = .ok (.iload_n 3, 1) := by decide +kernel
theorem dX0_signRisen_3 : decode cX0_signRisen 3 = .ok (.aload_n 0, 1) := by decide +kernel
theorem dX0_signRisen_4 : decode cX0_signRisen 4 = .ok (.getfield 9, 3) := by decide +kernel
theorem dX0_signRisen_7 : decode cX0_signRisen 7 = .ok (.if_icmp .ge 34, 3) := by decide +kernel
theorem dX0_signRisen_10 : decode cX0_signRisen 10 = .ok (.aload_n 0, 1) := by decide +kernel
theorem dX0_signRisen_11 : decode cX0_signRisen 11 = .ok (.getfield 19, 3) := by decide +kernel
theorem dX0_signRisen_14 : decode cX0_signRisen 14 = .ok (.iload_n 3, 1) := by decide +kernel
theorem dX0_signRisen_15 : decode cX0_signRisen 15 = .ok (.iaload, 1) := by decide +kernel
theorem dX0_signRisen_16 : decode cX0_signRisen 16 = .ok (.iload_n 1, 1) := by decide +kernel
theorem dX0_signRisen_17 : decode cX0_signRisen 17 = .ok (.if_icmp .ne 18, 3) := by decide +kernel
theorem dX0_signRisen_20 : decode cX0_signRisen 20 = .ok (.iload_n 2, 1) := by decide +kernel
theorem dX0_signRisen_21 : decode cX0_signRisen 21 = .ok (.iload_n 3, 1) := by decide +kernel
theorem dX0_signRisen_22 : decode cX0_signRisen 22 = .ok (.invokestatic 50, 3) := by decide +kernel
theorem dX0_signRisen_25 : decode cX0_signRisen 25 = .ok (.ifCond .eq 10, 3) := by decide +kernel
theorem dX0_signRisen_28 : decode cX0_signRisen 28 = .ok (.aload_n 0, 1) := by decide +kernel
theorem dX0_signRisen_29 : decode cX0_signRisen 29 = .ok (.getfield 22, 3) := by decide +kernel
theorem dX0_signRisen_32 : decode cX0_signRisen 32 = .ok (.iload_n 3, 1) := by decide +kernel
theorem dX0_signRisen_33 : decode cX0_signRisen 33 = .ok (.iaload, 1) := by decide +kernel
theorem dX0_signRisen_34 : decode cX0_signRisen 34 = .ok (.ireturn, 1) := by decide +kernel
theorem dX0_signRisen_35 : decode cX0_signRisen 35 = .ok (.iinc 3 1, 3) := by decide +kernel
theorem dX0_signRisen_38 : decode cX0_signRisen 38 = .ok (.goto (-36), 3) := by decide +kernel
theorem dX0_signRisen_41 : decode cX0_signRisen 41 = .ok (.bipush 6, 2) := by decide +kernel
theorem dX0_signRisen_43 : decode cX0_signRisen 43 = .ok (.ireturn, 1) := by decide +kernel
theorem dX0_linesOf_0 : decode cX0_linesOf 0 = .ok (.iconst 0, 1) := by decide +kernel
theorem dX0_linesOf_1 : decode cX0_linesOf 1 = .ok (.istore_n 2, 1) := by decide +kernel
theorem dX0_linesOf_2 : decode cX0_linesOf 2 = .ok (.iconst 0, 1) := by decide +kernel
theorem dX0_linesOf_3 : decode cX0_linesOf 3 = .ok (.istore_n 3, 1) := by decide +kernel
theorem dX0_linesOf_4 : decode cX0_linesOf 4 = .ok (.iload_n 3, 1) := by decide +kernel
theorem dX0_linesOf_5 : decode cX0_linesOf 5 = .ok (.aload_n 0, 1) := by decide +kernel
theorem dX0_linesOf_6 : decode cX0_linesOf 6 = .ok (.getfield 9, 3) := by decide +kernel
theorem dX0_linesOf_9 : decode cX0_linesOf 9 = .ok (.if_icmp .ge 31, 3) := by decide +kernel
theorem dX0_linesOf_12 : decode cX0_linesOf 12 = .ok (.iload_n 1, 1) := by decide +kernel
theorem dX0_linesOf_13 : decode cX0_linesOf 13 = .ok (.iload_n 3, 1) := by decide +kernel
theorem dX0_linesOf_14 : decode cX0_linesOf 14 = .ok (.invokestatic 50, 3) := by decide +kernel
theorem dX0_linesOf_17 : decode cX0_linesOf 17 = .ok (.ifCond .eq 17, 3) := by decide +kernel
theorem dX0_linesOf_20 : decode cX0_linesOf 20 = .ok (.iload_n 2, 1) := by decide +kernel
theorem dX0_linesOf_21 : decode cX0_linesOf 21 = .ok (.iconst 1, 1) := by decide +kernel
theorem dX0_linesOf_22 : decode cX0_linesOf 22 = .ok (.aload_n 0, 1) := by decide +kernel
theorem dX0_linesOf_23 : decode cX0_linesOf 23 = .ok (.getfield 19, 3) := by decide +kernel
theorem dX0_linesOf_26 : decode cX0_linesOf 26 = .ok (.iload_n 3, 1) := by decide +kernel
theorem dX0_linesOf_27 : decode cX0_linesOf 27 = .ok (.iaload, 1) := by decide +kernel
theorem dX0_linesOf_28 : decode cX0_linesOf 28 = .ok (.bipush 6, 2) := by decide +kernel
theorem dX0_linesOf_30 : decode cX0_linesOf 30 = .ok (.idiv, 1) := by decide +kernel
theorem dX0_linesOf_31 : decode cX0_linesOf 31 = .ok (.ishl, 1) := by decide +kernel
theorem dX0_linesOf_32 : decode cX0_linesOf 32 = .ok (.ior, 1) := by decide +kernel
theorem dX0_linesOf_33 : decode cX0_linesOf 33 = .ok (.istore_n 2, 1) := by decide +kernel
theorem dX0_linesOf_34 : decode cX0_linesOf 34 = .ok (.iinc 3 1, 3) := by decide +kernel
theorem dX0_linesOf_37 : decode cX0_linesOf 37 = .ok (.goto (-33), 3) := by decide +kernel
theorem dX0_linesOf_40 : decode cX0_linesOf 40 = .ok (.iload_n 2, 1) := by decide +kernel
theorem dX0_linesOf_41 : decode cX0_linesOf 41 = .ok (.ireturn, 1) := by decide +kernel
theorem dX0_deepestCell_0 : decode cX0_deepestCell 0 = .ok (.iconst (-1), 1) := by decide +kernel
theorem dX0_deepestCell_1 : decode cX0_deepestCell 1 = .ok (.istore_n 2, 1) := by decide +kernel
theorem dX0_deepestCell_2 : decode cX0_deepestCell 2 = .ok (.iconst 0, 1) := by decide +kernel
theorem dX0_deepestCell_3 : decode cX0_deepestCell 3 = .ok (.istore_n 3, 1) := by decide +kernel
theorem dX0_deepestCell_4 : decode cX0_deepestCell 4 = .ok (.iconst 0, 1) := by decide +kernel
theorem dX0_deepestCell_5 : decode cX0_deepestCell 5 = .ok (.istore 4, 2) := by decide +kernel
theorem dX0_deepestCell_7 : decode cX0_deepestCell 7 = .ok (.iload 4, 2) := by decide +kernel
theorem dX0_deepestCell_9 : decode cX0_deepestCell 9 = .ok (.aload_n 0, 1) := by decide +kernel
theorem dX0_deepestCell_10 : decode cX0_deepestCell 10 = .ok (.getfield 9, 3) := by decide +kernel
theorem dX0_deepestCell_13 : decode cX0_deepestCell 13 = .ok (.if_icmp .ge 66, 3) := by decide +kernel
theorem dX0_deepestCell_16 : decode cX0_deepestCell 16 = .ok (.iload_n 1, 1) := by decide +kernel
theorem dX0_deepestCell_17 : decode cX0_deepestCell 17 = .ok (.iload 4, 2) := by decide +kernel
theorem dX0_deepestCell_19 : decode cX0_deepestCell 19 = .ok (.invokestatic 50, 3) := by decide +kernel
theorem dX0_deepestCell_22 : decode cX0_deepestCell 22 = .ok (.ifCond .eq 51, 3) := by decide +kernel
theorem dX0_deepestCell_25 : decode cX0_deepestCell 25 = .ok (.iload_n 1, 1) := by decide +kernel
theorem dX0_deepestCell_26 : decode cX0_deepestCell 26 = .ok (.aload_n 0, 1) := by decide +kernel
theorem dX0_deepestCell_27 : decode cX0_deepestCell 27 = .ok (.getfield 28, 3) := by decide +kernel
theorem dX0_deepestCell_30 : decode cX0_deepestCell 30 = .ok (.iload 4, 2) := by decide +kernel
theorem dX0_deepestCell_32 : decode cX0_deepestCell 32 = .ok (.iaload, 1) := by decide +kernel
theorem dX0_deepestCell_33 : decode cX0_deepestCell 33 = .ok (.iand, 1) := by decide +kernel
theorem dX0_deepestCell_34 : decode cX0_deepestCell 34 = .ok (.invokestatic 91, 3) := by decide +kernel
theorem dX0_deepestCell_37 : decode cX0_deepestCell 37 = .ok (.istore 5, 2) := by decide +kernel
theorem dX0_deepestCell_39 : decode cX0_deepestCell 39 = .ok (.iload 5, 2) := by decide +kernel
theorem dX0_deepestCell_41 : decode cX0_deepestCell 41 = .ok (.iload_n 3, 1) := by decide +kernel
theorem dX0_deepestCell_42 : decode cX0_deepestCell 42 = .ok (.if_icmp .gt 20, 3) := by decide +kernel
theorem dX0_deepestCell_45 : decode cX0_deepestCell 45 = .ok (.iload 5, 2) := by decide +kernel
theorem dX0_deepestCell_47 : decode cX0_deepestCell 47 = .ok (.iload_n 3, 1) := by decide +kernel
theorem dX0_deepestCell_48 : decode cX0_deepestCell 48 = .ok (.if_icmp .ne 25, 3) := by decide +kernel
theorem dX0_deepestCell_51 : decode cX0_deepestCell 51 = .ok (.aload_n 0, 1) := by decide +kernel
theorem dX0_deepestCell_52 : decode cX0_deepestCell 52 = .ok (.getfield 19, 3) := by decide +kernel
theorem dX0_deepestCell_55 : decode cX0_deepestCell 55 = .ok (.iload 4, 2) := by decide +kernel
theorem dX0_deepestCell_57 : decode cX0_deepestCell 57 = .ok (.iaload, 1) := by decide +kernel
theorem dX0_deepestCell_58 : decode cX0_deepestCell 58 = .ok (.iload_n 2, 1) := by decide +kernel
theorem dX0_deepestCell_59 : decode cX0_deepestCell 59 = .ok (.if_icmp .ge 14, 3) := by decide +kernel
theorem dX0_deepestCell_62 : decode cX0_deepestCell 62 = .ok (.aload_n 0, 1) := by decide +kernel
theorem dX0_deepestCell_63 : decode cX0_deepestCell 63 = .ok (.getfield 19, 3) := by decide +kernel
theorem dX0_deepestCell_66 : decode cX0_deepestCell 66 = .ok (.iload 4, 2) := by decide +kernel
theorem dX0_deepestCell_68 : decode cX0_deepestCell 68 = .ok (.iaload, 1) := by decide +kernel
theorem dX0_deepestCell_69 : decode cX0_deepestCell 69 = .ok (.istore_n 2, 1) := by decide +kernel
theorem dX0_deepestCell_70 : decode cX0_deepestCell 70 = .ok (.iload 5, 2) := by decide +kernel
theorem dX0_deepestCell_72 : decode cX0_deepestCell 72 = .ok (.istore_n 3, 1) := by decide +kernel
theorem dX0_deepestCell_73 : decode cX0_deepestCell 73 = .ok (.iinc 4 1, 3) := by decide +kernel
theorem dX0_deepestCell_76 : decode cX0_deepestCell 76 = .ok (.goto (-69), 3) := by decide +kernel
theorem dX0_deepestCell_79 : decode cX0_deepestCell 79 = .ok (.iload_n 2, 1) := by decide +kernel
theorem dX0_deepestCell_80 : decode cX0_deepestCell 80 = .ok (.ireturn, 1) := by decide +kernel
theorem dX1_init_0 : decode cX1_init 0 = .ok (.aload_n 0, 1) := by decide +kernel
theorem dX1_init_1 : decode cX1_init 1 = .ok (.invokespecial 3, 3) := by decide +kernel
theorem dX1_init_4 : decode cX1_init 4 = .ok (.aload_n 0, 1) := by decide +kernel
theorem dX1_init_5 : decode cX1_init 5 = .ok (.bipush 8, 2) := by decide +kernel
theorem dX1_init_7 : decode cX1_init 7 = .ok (.newarray .int, 2) := by decide +kernel
theorem dX1_init_9 : decode cX1_init 9 = .ok (.putfield 9, 3) := by decide +kernel
theorem dX1_init_12 : decode cX1_init 12 = .ok (.aload_n 0, 1) := by decide +kernel
theorem dX1_init_13 : decode cX1_init 13 = .ok (.bipush 8, 2) := by decide +kernel
theorem dX1_init_15 : decode cX1_init 15 = .ok (.newarray .int, 2) := by decide +kernel
theorem dX1_init_17 : decode cX1_init 17 = .ok (.putfield 15, 3) := by decide +kernel
theorem dX1_init_20 : decode cX1_init 20 = .ok (.aload_n 0, 1) := by decide +kernel
theorem dX1_init_21 : decode cX1_init 21 = .ok (.iconst 4, 1) := by decide +kernel
theorem dX1_init_22 : decode cX1_init 22 = .ok (.newarray .int, 2) := by decide +kernel
theorem dX1_init_24 : decode cX1_init 24 = .ok (.putfield 18, 3) := by decide +kernel
theorem dX1_init_27 : decode cX1_init 27 = .ok (.aload_n 0, 1) := by decide +kernel
theorem dX1_init_28 : decode cX1_init 28 = .ok (.iconst 4, 1) := by decide +kernel
theorem dX1_init_29 : decode cX1_init 29 = .ok (.newarray .int, 2) := by decide +kernel
theorem dX1_init_31 : decode cX1_init 31 = .ok (.putfield 21, 3) := by decide +kernel
theorem dX1_init_34 : decode cX1_init 34 = .ok (.aload_n 0, 1) := by decide +kernel
theorem dX1_init_35 : decode cX1_init 35 = .ok (.iconst 0, 1) := by decide +kernel
theorem dX1_init_36 : decode cX1_init 36 = .ok (.putfield 24, 3) := by decide +kernel
theorem dX1_init_39 : decode cX1_init 39 = .ok (.aload_n 0, 1) := by decide +kernel
theorem dX1_init_40 : decode cX1_init 40 = .ok (.iconst 0, 1) := by decide +kernel
theorem dX1_init_41 : decode cX1_init 41 = .ok (.putfield 28, 3) := by decide +kernel
theorem dX1_init_44 : decode cX1_init 44 = .ok (.return_, 1) := by decide +kernel
theorem dX1_addWipe_0 : decode cX1_addWipe 0 = .ok (.aload_n 0, 1) := by decide +kernel
theorem dX1_addWipe_1 : decode cX1_addWipe 1 = .ok (.getfield 24, 3) := by decide +kernel
theorem dX1_addWipe_4 : decode cX1_addWipe 4 = .ok (.bipush 8, 2) := by decide +kernel
theorem dX1_addWipe_6 : decode cX1_addWipe 6 = .ok (.if_icmp .lt 5, 3) := by decide +kernel
theorem dX1_addWipe_9 : decode cX1_addWipe 9 = .ok (.iconst 0, 1) := by decide +kernel
theorem dX1_addWipe_10 : decode cX1_addWipe 10 = .ok (.ireturn, 1) := by decide +kernel
theorem dX1_addWipe_11 : decode cX1_addWipe 11 = .ok (.aload_n 0, 1) := by decide +kernel
theorem dX1_addWipe_12 : decode cX1_addWipe 12 = .ok (.getfield 9, 3) := by decide +kernel
theorem dX1_addWipe_15 : decode cX1_addWipe 15 = .ok (.aload_n 0, 1) := by decide +kernel
theorem dX1_addWipe_16 : decode cX1_addWipe 16 = .ok (.getfield 24, 3) := by decide +kernel
theorem dX1_addWipe_19 : decode cX1_addWipe 19 = .ok (.iload_n 1, 1) := by decide +kernel
theorem dX1_addWipe_20 : decode cX1_addWipe 20 = .ok (.iastore, 1) := by decide +kernel
theorem dX1_addWipe_21 : decode cX1_addWipe 21 = .ok (.aload_n 0, 1) := by decide +kernel
theorem dX1_addWipe_22 : decode cX1_addWipe 22 = .ok (.getfield 15, 3) := by decide +kernel
theorem dX1_addWipe_25 : decode cX1_addWipe 25 = .ok (.aload_n 0, 1) := by decide +kernel
theorem dX1_addWipe_26 : decode cX1_addWipe 26 = .ok (.getfield 24, 3) := by decide +kernel
theorem dX1_addWipe_29 : decode cX1_addWipe 29 = .ok (.iload_n 2, 1) := by decide +kernel
theorem dX1_addWipe_30 : decode cX1_addWipe 30 = .ok (.iastore, 1) := by decide +kernel
theorem dX1_addWipe_31 : decode cX1_addWipe 31 = .ok (.aload_n 0, 1) := by decide +kernel
theorem dX1_addWipe_32 : decode cX1_addWipe 32 = .ok (.dup, 1) := by decide +kernel
theorem dX1_addWipe_33 : decode cX1_addWipe 33 = .ok (.getfield 24, 3) := by decide +kernel
theorem dX1_addWipe_36 : decode cX1_addWipe 36 = .ok (.iconst 1, 1) := by decide +kernel
theorem dX1_addWipe_37 : decode cX1_addWipe 37 = .ok (.iadd, 1) := by decide +kernel
theorem dX1_addWipe_38 : decode cX1_addWipe 38 = .ok (.putfield 24, 3) := by decide +kernel
theorem dX1_addWipe_41 : decode cX1_addWipe 41 = .ok (.iconst 1, 1) := by decide +kernel
theorem dX1_addWipe_42 : decode cX1_addWipe 42 = .ok (.ireturn, 1) := by decide +kernel
theorem dX1_addOil_0 : decode cX1_addOil 0 = .ok (.aload_n 0, 1) := by decide +kernel
theorem dX1_addOil_1 : decode cX1_addOil 1 = .ok (.getfield 28, 3) := by decide +kernel
theorem dX1_addOil_4 : decode cX1_addOil 4 = .ok (.iconst 4, 1) := by decide +kernel
theorem dX1_addOil_5 : decode cX1_addOil 5 = .ok (.if_icmp .lt 5, 3) := by decide +kernel
theorem dX1_addOil_8 : decode cX1_addOil 8 = .ok (.iconst 0, 1) := by decide +kernel
theorem dX1_addOil_9 : decode cX1_addOil 9 = .ok (.ireturn, 1) := by decide +kernel
theorem dX1_addOil_10 : decode cX1_addOil 10 = .ok (.aload_n 0, 1) := by decide +kernel
theorem dX1_addOil_11 : decode cX1_addOil 11 = .ok (.getfield 18, 3) := by decide +kernel
theorem dX1_addOil_14 : decode cX1_addOil 14 = .ok (.aload_n 0, 1) := by decide +kernel
theorem dX1_addOil_15 : decode cX1_addOil 15 = .ok (.getfield 28, 3) := by decide +kernel
theorem dX1_addOil_18 : decode cX1_addOil 18 = .ok (.iload_n 1, 1) := by decide +kernel
theorem dX1_addOil_19 : decode cX1_addOil 19 = .ok (.iastore, 1) := by decide +kernel
theorem dX1_addOil_20 : decode cX1_addOil 20 = .ok (.aload_n 0, 1) := by decide +kernel
theorem dX1_addOil_21 : decode cX1_addOil 21 = .ok (.getfield 21, 3) := by decide +kernel
theorem dX1_addOil_24 : decode cX1_addOil 24 = .ok (.aload_n 0, 1) := by decide +kernel
theorem dX1_addOil_25 : decode cX1_addOil 25 = .ok (.getfield 28, 3) := by decide +kernel
theorem dX1_addOil_28 : decode cX1_addOil 28 = .ok (.iload_n 2, 1) := by decide +kernel
theorem dX1_addOil_29 : decode cX1_addOil 29 = .ok (.iastore, 1) := by decide +kernel
theorem dX1_addOil_30 : decode cX1_addOil 30 = .ok (.aload_n 0, 1) := by decide +kernel
theorem dX1_addOil_31 : decode cX1_addOil 31 = .ok (.dup, 1) := by decide +kernel
theorem dX1_addOil_32 : decode cX1_addOil 32 = .ok (.getfield 28, 3) := by decide +kernel
theorem dX1_addOil_35 : decode cX1_addOil 35 = .ok (.iconst 1, 1) := by decide +kernel
theorem dX1_addOil_36 : decode cX1_addOil 36 = .ok (.iadd, 1) := by decide +kernel
theorem dX1_addOil_37 : decode cX1_addOil 37 = .ok (.putfield 28, 3) := by decide +kernel
theorem dX1_addOil_40 : decode cX1_addOil 40 = .ok (.iconst 1, 1) := by decide +kernel
theorem dX1_addOil_41 : decode cX1_addOil 41 = .ok (.ireturn, 1) := by decide +kernel
theorem dX1_wipedBehind_0 : decode cX1_wipedBehind 0 = .ok (.bipush 20, 2) := by decide +kernel
theorem dX1_wipedBehind_2 : decode cX1_wipedBehind 2 = .ok (.istore_n 3, 1) := by decide +kernel
theorem dX1_wipedBehind_3 : decode cX1_wipedBehind 3 = .ok (.iconst 0, 1) := by decide +kernel
theorem dX1_wipedBehind_4 : decode cX1_wipedBehind 4 = .ok (.istore 4, 2) := by decide +kernel
theorem dX1_wipedBehind_6 : decode cX1_wipedBehind 6 = .ok (.iload 4, 2) := by decide +kernel
theorem dX1_wipedBehind_8 : decode cX1_wipedBehind 8 = .ok (.aload_n 0, 1) := by decide +kernel
theorem dX1_wipedBehind_9 : decode cX1_wipedBehind 9 = .ok (.getfield 24, 3) := by decide +kernel
theorem dX1_wipedBehind_12 : decode cX1_wipedBehind 12 = .ok (.if_icmp .ge 50, 3) := by decide +kernel
theorem dX1_wipedBehind_15 : decode cX1_wipedBehind 15 = .ok (.aload_n 0, 1) := by decide +kernel
theorem dX1_wipedBehind_16 : decode cX1_wipedBehind 16 = .ok (.getfield 15, 3) := by decide +kernel
theorem dX1_wipedBehind_19 : decode cX1_wipedBehind 19 = .ok (.iload 4, 2) := by decide +kernel
theorem dX1_wipedBehind_21 : decode cX1_wipedBehind 21 = .ok (.iaload, 1) := by decide +kernel
theorem dX1_wipedBehind_22 : decode cX1_wipedBehind 22 = .ok (.iload_n 2, 1) := by decide +kernel
theorem dX1_wipedBehind_23 : decode cX1_wipedBehind 23 = .ok (.if_icmp .ne 33, 3) := by decide +kernel
theorem dX1_wipedBehind_26 : decode cX1_wipedBehind 26 = .ok (.aload_n 0, 1) := by decide +kernel
theorem dX1_wipedBehind_27 : decode cX1_wipedBehind 27 = .ok (.getfield 9, 3) := by decide +kernel
theorem dX1_wipedBehind_30 : decode cX1_wipedBehind 30 = .ok (.iload 4, 2) := by decide +kernel
theorem dX1_wipedBehind_32 : decode cX1_wipedBehind 32 = .ok (.iaload, 1) := by decide +kernel
theorem dX1_wipedBehind_33 : decode cX1_wipedBehind 33 = .ok (.iload_n 1, 1) := by decide +kernel
theorem dX1_wipedBehind_34 : decode cX1_wipedBehind 34 = .ok (.if_icmp .le 22, 3) := by decide +kernel
theorem dX1_wipedBehind_37 : decode cX1_wipedBehind 37 = .ok (.aload_n 0, 1) := by decide +kernel
theorem dX1_wipedBehind_38 : decode cX1_wipedBehind 38 = .ok (.getfield 9, 3) := by decide +kernel
theorem dX1_wipedBehind_41 : decode cX1_wipedBehind 41 = .ok (.iload 4, 2) := by decide +kernel
theorem dX1_wipedBehind_43 : decode cX1_wipedBehind 43 = .ok (.iaload, 1) := by decide +kernel
theorem dX1_wipedBehind_44 : decode cX1_wipedBehind 44 = .ok (.iload_n 3, 1) := by decide +kernel
theorem dX1_wipedBehind_45 : decode cX1_wipedBehind 45 = .ok (.if_icmp .ge 11, 3) := by decide +kernel
theorem dX1_wipedBehind_48 : decode cX1_wipedBehind 48 = .ok (.aload_n 0, 1) := by decide +kernel
theorem dX1_wipedBehind_49 : decode cX1_wipedBehind 49 = .ok (.getfield 9, 3) := by decide +kernel
theorem dX1_wipedBehind_52 : decode cX1_wipedBehind 52 = .ok (.iload 4, 2) := by decide +kernel
theorem dX1_wipedBehind_54 : decode cX1_wipedBehind 54 = .ok (.iaload, 1) := by decide +kernel
theorem dX1_wipedBehind_55 : decode cX1_wipedBehind 55 = .ok (.istore_n 3, 1) := by decide +kernel
theorem dX1_wipedBehind_56 : decode cX1_wipedBehind 56 = .ok (.iinc 4 1, 3) := by decide +kernel
theorem dX1_wipedBehind_59 : decode cX1_wipedBehind 59 = .ok (.goto (-53), 3) := by decide +kernel
theorem dX1_wipedBehind_62 : decode cX1_wipedBehind 62 = .ok (.iload_n 3, 1) := by decide +kernel
theorem dX1_wipedBehind_63 : decode cX1_wipedBehind 63 = .ok (.ireturn, 1) := by decide +kernel
theorem dX1_oiledFrom_0 : decode cX1_oiledFrom 0 = .ok (.bipush 20, 2) := by decide +kernel
theorem dX1_oiledFrom_2 : decode cX1_oiledFrom 2 = .ok (.istore_n 2, 1) := by decide +kernel
theorem dX1_oiledFrom_3 : decode cX1_oiledFrom 3 = .ok (.iconst 0, 1) := by decide +kernel
theorem dX1_oiledFrom_4 : decode cX1_oiledFrom 4 = .ok (.istore_n 3, 1) := by decide +kernel
theorem dX1_oiledFrom_5 : decode cX1_oiledFrom 5 = .ok (.iload_n 3, 1) := by decide +kernel
theorem dX1_oiledFrom_6 : decode cX1_oiledFrom 6 = .ok (.aload_n 0, 1) := by decide +kernel
theorem dX1_oiledFrom_7 : decode cX1_oiledFrom 7 = .ok (.getfield 28, 3) := by decide +kernel
theorem dX1_oiledFrom_10 : decode cX1_oiledFrom 10 = .ok (.if_icmp .ge 36, 3) := by decide +kernel
theorem dX1_oiledFrom_13 : decode cX1_oiledFrom 13 = .ok (.aload_n 0, 1) := by decide +kernel
theorem dX1_oiledFrom_14 : decode cX1_oiledFrom 14 = .ok (.getfield 21, 3) := by decide +kernel
theorem dX1_oiledFrom_17 : decode cX1_oiledFrom 17 = .ok (.iload_n 3, 1) := by decide +kernel
theorem dX1_oiledFrom_18 : decode cX1_oiledFrom 18 = .ok (.iaload, 1) := by decide +kernel
theorem dX1_oiledFrom_19 : decode cX1_oiledFrom 19 = .ok (.iload_n 1, 1) := by decide +kernel
theorem dX1_oiledFrom_20 : decode cX1_oiledFrom 20 = .ok (.if_icmp .ne 20, 3) := by decide +kernel
theorem dX1_oiledFrom_23 : decode cX1_oiledFrom 23 = .ok (.aload_n 0, 1) := by decide +kernel
theorem dX1_oiledFrom_24 : decode cX1_oiledFrom 24 = .ok (.getfield 18, 3) := by decide +kernel
theorem dX1_oiledFrom_27 : decode cX1_oiledFrom 27 = .ok (.iload_n 3, 1) := by decide +kernel
theorem dX1_oiledFrom_28 : decode cX1_oiledFrom 28 = .ok (.iaload, 1) := by decide +kernel
theorem dX1_oiledFrom_29 : decode cX1_oiledFrom 29 = .ok (.iload_n 2, 1) := by decide +kernel
theorem dX1_oiledFrom_30 : decode cX1_oiledFrom 30 = .ok (.if_icmp .ge 10, 3) := by decide +kernel
theorem dX1_oiledFrom_33 : decode cX1_oiledFrom 33 = .ok (.aload_n 0, 1) := by decide +kernel
theorem dX1_oiledFrom_34 : decode cX1_oiledFrom 34 = .ok (.getfield 18, 3) := by decide +kernel
theorem dX1_oiledFrom_37 : decode cX1_oiledFrom 37 = .ok (.iload_n 3, 1) := by decide +kernel
theorem dX1_oiledFrom_38 : decode cX1_oiledFrom 38 = .ok (.iaload, 1) := by decide +kernel
theorem dX1_oiledFrom_39 : decode cX1_oiledFrom 39 = .ok (.istore_n 2, 1) := by decide +kernel
theorem dX1_oiledFrom_40 : decode cX1_oiledFrom 40 = .ok (.iinc 3 1, 3) := by decide +kernel
theorem dX1_oiledFrom_43 : decode cX1_oiledFrom 43 = .ok (.goto (-38), 3) := by decide +kernel
theorem dX1_oiledFrom_46 : decode cX1_oiledFrom 46 = .ok (.iload_n 2, 1) := by decide +kernel
theorem dX1_oiledFrom_47 : decode cX1_oiledFrom 47 = .ok (.ireturn, 1) := by decide +kernel
theorem dX2_init_0 : decode cX2_init 0 = .ok (.aload_n 0, 1) := by decide +kernel
theorem dX2_init_1 : decode cX2_init 1 = .ok (.invokespecial 1, 3) := by decide +kernel
theorem dX2_init_4 : decode cX2_init 4 = .ok (.aload_n 0, 1) := by decide +kernel
theorem dX2_init_5 : decode cX2_init 5 = .ok (.iconst 0, 1) := by decide +kernel
theorem dX2_init_6 : decode cX2_init 6 = .ok (.putfield 7, 3) := by decide +kernel
theorem dX2_init_9 : decode cX2_init 9 = .ok (.aload_n 0, 1) := by decide +kernel
theorem dX2_init_10 : decode cX2_init 10 = .ok (.iconst 0, 1) := by decide +kernel
theorem dX2_init_11 : decode cX2_init 11 = .ok (.putfield 13, 3) := by decide +kernel
theorem dX2_init_14 : decode cX2_init 14 = .ok (.aload_n 0, 1) := by decide +kernel
theorem dX2_init_15 : decode cX2_init 15 = .ok (.iconst 0, 1) := by decide +kernel
theorem dX2_init_16 : decode cX2_init 16 = .ok (.putfield 16, 3) := by decide +kernel
theorem dX2_init_19 : decode cX2_init 19 = .ok (.aload_n 0, 1) := by decide +kernel
theorem dX2_init_20 : decode cX2_init 20 = .ok (.iconst 0, 1) := by decide +kernel
theorem dX2_init_21 : decode cX2_init 21 = .ok (.putfield 19, 3) := by decide +kernel
theorem dX2_init_24 : decode cX2_init 24 = .ok (.aload_n 0, 1) := by decide +kernel
theorem dX2_init_25 : decode cX2_init 25 = .ok (.lconst 0, 1) := by decide +kernel
theorem dX2_init_26 : decode cX2_init 26 = .ok (.putfield 22, 3) := by decide +kernel
theorem dX2_init_29 : decode cX2_init 29 = .ok (.aload_n 0, 1) := by decide +kernel
theorem dX2_init_30 : decode cX2_init 30 = .ok (.lconst 1, 1) := by decide +kernel
theorem dX2_init_31 : decode cX2_init 31 = .ok (.putfield 26, 3) := by decide +kernel
theorem dX2_init_34 : decode cX2_init 34 = .ok (.return_, 1) := by decide +kernel
theorem dX2_reduce_0 : decode cX2_reduce 0 = .ok (.lload_n 1, 1) := by decide +kernel
theorem dX2_reduce_1 : decode cX2_reduce 1 = .ok (.lstore 4, 2) := by decide +kernel
theorem dX2_reduce_3 : decode cX2_reduce 3 = .ok (.iconst 0, 1) := by decide +kernel
theorem dX2_reduce_4 : decode cX2_reduce 4 = .ok (.istore 6, 2) := by decide +kernel
theorem dX2_reduce_6 : decode cX2_reduce 6 = .ok (.iload 6, 2) := by decide +kernel
theorem dX2_reduce_8 : decode cX2_reduce 8 = .ok (.iload_n 3, 1) := by decide +kernel
theorem dX2_reduce_9 : decode cX2_reduce 9 = .ok (.if_icmp .ge 24, 3) := by decide +kernel
theorem dX2_reduce_12 : decode cX2_reduce 12 = .ok (.lload 4, 2) := by decide +kernel
theorem dX2_reduce_14 : decode cX2_reduce 14 = .ok (.lconst 1, 1) := by decide +kernel
theorem dX2_reduce_15 : decode cX2_reduce 15 = .ok (.land, 1) := by decide +kernel
theorem dX2_reduce_16 : decode cX2_reduce 16 = .ok (.lconst 0, 1) := by decide +kernel
theorem dX2_reduce_17 : decode cX2_reduce 17 = .ok (.lcmp, 1) := by decide +kernel
theorem dX2_reduce_18 : decode cX2_reduce 18 = .ok (.ifCond .ne 15, 3) := by decide +kernel
theorem dX2_reduce_21 : decode cX2_reduce 21 = .ok (.lload 4, 2) := by decide +kernel
theorem dX2_reduce_23 : decode cX2_reduce 23 = .ok (.iconst 1, 1) := by decide +kernel
theorem dX2_reduce_24 : decode cX2_reduce 24 = .ok (.lshr, 1) := by decide +kernel
theorem dX2_reduce_25 : decode cX2_reduce 25 = .ok (.lstore 4, 2) := by decide +kernel
theorem dX2_reduce_27 : decode cX2_reduce 27 = .ok (.iinc 6 1, 3) := by decide +kernel
theorem dX2_reduce_30 : decode cX2_reduce 30 = .ok (.goto (-24), 3) := by decide +kernel
theorem dX2_reduce_33 : decode cX2_reduce 33 = .ok (.aload_n 0, 1) := by decide +kernel
theorem dX2_reduce_34 : decode cX2_reduce 34 = .ok (.lload 4, 2) := by decide +kernel
theorem dX2_reduce_36 : decode cX2_reduce 36 = .ok (.putfield 22, 3) := by decide +kernel
theorem dX2_reduce_39 : decode cX2_reduce 39 = .ok (.aload_n 0, 1) := by decide +kernel
theorem dX2_reduce_40 : decode cX2_reduce 40 = .ok (.lconst 1, 1) := by decide +kernel
theorem dX2_reduce_41 : decode cX2_reduce 41 = .ok (.iload_n 3, 1) := by decide +kernel
theorem dX2_reduce_42 : decode cX2_reduce 42 = .ok (.iload 6, 2) := by decide +kernel
theorem dX2_reduce_44 : decode cX2_reduce 44 = .ok (.isub, 1) := by decide +kernel
theorem dX2_reduce_45 : decode cX2_reduce 45 = .ok (.lshl, 1) := by decide +kernel
theorem dX2_reduce_46 : decode cX2_reduce 46 = .ok (.putfield 26, 3) := by decide +kernel
theorem dX2_reduce_49 : decode cX2_reduce 49 = .ok (.return_, 1) := by decide +kernel
theorem dX3_init_0 : decode cX3_init 0 = .ok (.aload_n 0, 1) := by decide +kernel
theorem dX3_init_1 : decode cX3_init 1 = .ok (.invokespecial 3, 3) := by decide +kernel
theorem dX3_init_4 : decode cX3_init 4 = .ok (.aload_n 0, 1) := by decide +kernel
theorem dX3_init_5 : decode cX3_init 5 = .ok (.bipush 20, 2) := by decide +kernel
theorem dX3_init_7 : decode cX3_init 7 = .ok (.newarray .int, 2) := by decide +kernel
theorem dX3_init_9 : decode cX3_init 9 = .ok (.putfield 9, 3) := by decide +kernel
theorem dX3_init_12 : decode cX3_init 12 = .ok (.aload_n 0, 1) := by decide +kernel
theorem dX3_init_13 : decode cX3_init 13 = .ok (.bipush 20, 2) := by decide +kernel
theorem dX3_init_15 : decode cX3_init 15 = .ok (.newarray .int, 2) := by decide +kernel
theorem dX3_init_17 : decode cX3_init 17 = .ok (.putfield 15, 3) := by decide +kernel
theorem dX3_init_20 : decode cX3_init 20 = .ok (.return_, 1) := by decide +kernel
theorem dX3_follow_0 : decode cX3_follow 0 = .ok (.aload_n 1, 1) := by decide +kernel
theorem dX3_follow_1 : decode cX3_follow 1 = .ok (.invokevirtual 18, 3) := by decide +kernel
theorem dX3_follow_4 : decode cX3_follow 4 = .ok (.istore 4, 2) := by decide +kernel
theorem dX3_follow_6 : decode cX3_follow 6 = .ok (.iconst 0, 1) := by decide +kernel
theorem dX3_follow_7 : decode cX3_follow 7 = .ok (.istore 5, 2) := by decide +kernel
theorem dX3_follow_9 : decode cX3_follow 9 = .ok (.iload 5, 2) := by decide +kernel
theorem dX3_follow_11 : decode cX3_follow 11 = .ok (.bipush 20, 2) := by decide +kernel
theorem dX3_follow_13 : decode cX3_follow 13 = .ok (.if_icmp .ge 74, 3) := by decide +kernel
theorem dX3_follow_16 : decode cX3_follow 16 = .ok (.iload 5, 2) := by decide +kernel
theorem dX3_follow_18 : decode cX3_follow 18 = .ok (.aload_n 2, 1) := by decide +kernel
theorem dX3_follow_19 : decode cX3_follow 19 = .ok (.arraylength, 1) := by decide +kernel
theorem dX3_follow_20 : decode cX3_follow 20 = .ok (.if_icmp .ge 67, 3) := by decide +kernel
theorem dX3_follow_23 : decode cX3_follow 23 = .ok (.aload_n 0, 1) := by decide +kernel
theorem dX3_follow_24 : decode cX3_follow 24 = .ok (.getfield 9, 3) := by decide +kernel
theorem dX3_follow_27 : decode cX3_follow 27 = .ok (.iload 5, 2) := by decide +kernel
theorem dX3_follow_29 : decode cX3_follow 29 = .ok (.aload_n 1, 1) := by decide +kernel
theorem dX3_follow_30 : decode cX3_follow 30 = .ok (.iload 5, 2) := by decide +kernel
theorem dX3_follow_32 : decode cX3_follow 32 = .ok (.aload_n 2, 1) := by decide +kernel
theorem dX3_follow_33 : decode cX3_follow 33 = .ok (.iload 5, 2) := by decide +kernel
theorem dX3_follow_35 : decode cX3_follow 35 = .ok (.iaload, 1) := by decide +kernel
theorem dX3_follow_36 : decode cX3_follow 36 = .ok (.iload 4, 2) := by decide +kernel
theorem dX3_follow_38 : decode cX3_follow 38 = .ok (.invokevirtual 24, 3) := by decide +kernel
theorem dX3_follow_41 : decode cX3_follow 41 = .ok (.iastore, 1) := by decide +kernel
theorem dX3_follow_42 : decode cX3_follow 42 = .ok (.aload_n 1, 1) := by decide +kernel
theorem dX3_follow_43 : decode cX3_follow 43 = .ok (.iload 5, 2) := by decide +kernel
theorem dX3_follow_45 : decode cX3_follow 45 = .ok (.aload_n 0, 1) := by decide +kernel
theorem dX3_follow_46 : decode cX3_follow 46 = .ok (.getfield 9, 3) := by decide +kernel
theorem dX3_follow_49 : decode cX3_follow 49 = .ok (.iload 5, 2) := by decide +kernel
theorem dX3_follow_51 : decode cX3_follow 51 = .ok (.iaload, 1) := by decide +kernel
theorem dX3_follow_52 : decode cX3_follow 52 = .ok (.iload 4, 2) := by decide +kernel
theorem dX3_follow_54 : decode cX3_follow 54 = .ok (.aload_n 2, 1) := by decide +kernel
theorem dX3_follow_55 : decode cX3_follow 55 = .ok (.iload 5, 2) := by decide +kernel
theorem dX3_follow_57 : decode cX3_follow 57 = .ok (.iaload, 1) := by decide +kernel
theorem dX3_follow_58 : decode cX3_follow 58 = .ok (.iload_n 3, 1) := by decide +kernel
theorem dX3_follow_59 : decode cX3_follow 59 = .ok (.if_icmp .ge 7, 3) := by decide +kernel
theorem dX3_follow_62 : decode cX3_follow 62 = .ok (.iconst 1, 1) := by decide +kernel
theorem dX3_follow_63 : decode cX3_follow 63 = .ok (.goto 4, 3) := by decide +kernel
theorem dX3_follow_66 : decode cX3_follow 66 = .ok (.iconst 0, 1) := by decide +kernel
theorem dX3_follow_67 : decode cX3_follow 67 = .ok (.invokevirtual 28, 3) := by decide +kernel
theorem dX3_follow_70 : decode cX3_follow 70 = .ok (.istore 4, 2) := by decide +kernel
theorem dX3_follow_72 : decode cX3_follow 72 = .ok (.aload_n 0, 1) := by decide +kernel
theorem dX3_follow_73 : decode cX3_follow 73 = .ok (.getfield 15, 3) := by decide +kernel
theorem dX3_follow_76 : decode cX3_follow 76 = .ok (.iload 5, 2) := by decide +kernel
theorem dX3_follow_78 : decode cX3_follow 78 = .ok (.iload 4, 2) := by decide +kernel
theorem dX3_follow_80 : decode cX3_follow 80 = .ok (.iastore, 1) := by decide +kernel
theorem dX3_follow_81 : decode cX3_follow 81 = .ok (.iinc 5 1, 3) := by decide +kernel
theorem dX3_follow_84 : decode cX3_follow 84 = .ok (.goto (-75), 3) := by decide +kernel
theorem dX3_follow_87 : decode cX3_follow 87 = .ok (.return_, 1) := by decide +kernel
theorem dX3_upsOf_0 : decode cX3_upsOf 0 = .ok (.iconst 0, 1) := by decide +kernel
theorem dX3_upsOf_1 : decode cX3_upsOf 1 = .ok (.istore_n 2, 1) := by decide +kernel
theorem dX3_upsOf_2 : decode cX3_upsOf 2 = .ok (.iconst 0, 1) := by decide +kernel
theorem dX3_upsOf_3 : decode cX3_upsOf 3 = .ok (.istore_n 3, 1) := by decide +kernel
theorem dX3_upsOf_4 : decode cX3_upsOf 4 = .ok (.iload_n 3, 1) := by decide +kernel
theorem dX3_upsOf_5 : decode cX3_upsOf 5 = .ok (.bipush 20, 2) := by decide +kernel
theorem dX3_upsOf_7 : decode cX3_upsOf 7 = .ok (.if_icmp .ge 23, 3) := by decide +kernel
theorem dX3_upsOf_10 : decode cX3_upsOf 10 = .ok (.iload_n 2, 1) := by decide +kernel
theorem dX3_upsOf_11 : decode cX3_upsOf 11 = .ok (.aload_n 0, 1) := by decide +kernel
theorem dX3_upsOf_12 : decode cX3_upsOf 12 = .ok (.getfield 9, 3) := by decide +kernel
theorem dX3_upsOf_15 : decode cX3_upsOf 15 = .ok (.iload_n 3, 1) := by decide +kernel
theorem dX3_upsOf_16 : decode cX3_upsOf 16 = .ok (.iaload, 1) := by decide +kernel
theorem dX3_upsOf_17 : decode cX3_upsOf 17 = .ok (.iload_n 1, 1) := by decide +kernel
theorem dX3_upsOf_18 : decode cX3_upsOf 18 = .ok (.iand, 1) := by decide +kernel
theorem dX3_upsOf_19 : decode cX3_upsOf 19 = .ok (.invokestatic 32, 3) := by decide +kernel
theorem dX3_upsOf_22 : decode cX3_upsOf 22 = .ok (.iadd, 1) := by decide +kernel
theorem dX3_upsOf_23 : decode cX3_upsOf 23 = .ok (.istore_n 2, 1) := by decide +kernel
theorem dX3_upsOf_24 : decode cX3_upsOf 24 = .ok (.iinc 3 1, 3) := by decide +kernel
theorem dX3_upsOf_27 : decode cX3_upsOf 27 = .ok (.goto (-23), 3) := by decide +kernel
theorem dX3_upsOf_30 : decode cX3_upsOf 30 = .ok (.iload_n 2, 1) := by decide +kernel
theorem dX3_upsOf_31 : decode cX3_upsOf 31 = .ok (.ireturn, 1) := by decide +kernel
theorem dX3_total_0 : decode cX3_total 0 = .ok (.aload_n 0, 1) := by decide +kernel
theorem dX3_total_1 : decode cX3_total 1 = .ok (.iconst (-1), 1) := by decide +kernel
theorem dX3_total_2 : decode cX3_total 2 = .ok (.invokevirtual 38, 3) := by decide +kernel
theorem dX3_total_5 : decode cX3_total 5 = .ok (.ireturn, 1) := by decide +kernel
theorem dX3_daysWithSome_0 : decode cX3_daysWithSome 0 = .ok (.iconst 0, 1) := by decide +kernel
theorem dX3_daysWithSome_1 : decode cX3_daysWithSome 1 = .ok (.istore_n 1, 1) := by decide +kernel
theorem dX3_daysWithSome_2 : decode cX3_daysWithSome 2 = .ok (.iconst 0, 1) := by decide +kernel
theorem dX3_daysWithSome_3 : decode cX3_daysWithSome 3 = .ok (.istore_n 2, 1) := by decide +kernel
theorem dX3_daysWithSome_4 : decode cX3_daysWithSome 4 = .ok (.iload_n 2, 1) := by decide +kernel
theorem dX3_daysWithSome_5 : decode cX3_daysWithSome 5 = .ok (.bipush 20, 2) := by decide +kernel
theorem dX3_daysWithSome_7 : decode cX3_daysWithSome 7 = .ok (.if_icmp .ge 21, 3) := by decide +kernel
theorem dX3_daysWithSome_10 : decode cX3_daysWithSome 10 = .ok (.aload_n 0, 1) := by decide +kernel
theorem dX3_daysWithSome_11 : decode cX3_daysWithSome 11 = .ok (.getfield 9, 3) := by decide +kernel
theorem dX3_daysWithSome_14 : decode cX3_daysWithSome 14 = .ok (.iload_n 2, 1) := by decide +kernel
theorem dX3_daysWithSome_15 : decode cX3_daysWithSome 15 = .ok (.iaload, 1) := by decide +kernel
theorem dX3_daysWithSome_16 : decode cX3_daysWithSome 16 = .ok (.ifCond .eq 6, 3) := by decide +kernel
theorem dX3_daysWithSome_19 : decode cX3_daysWithSome 19 = .ok (.iinc 1 1, 3) := by decide +kernel
theorem dX3_daysWithSome_22 : decode cX3_daysWithSome 22 = .ok (.iinc 2 1, 3) := by decide +kernel
theorem dX3_daysWithSome_25 : decode cX3_daysWithSome 25 = .ok (.goto (-21), 3) := by decide +kernel
theorem dX3_daysWithSome_28 : decode cX3_daysWithSome 28 = .ok (.iload_n 1, 1) := by decide +kernel
theorem dX3_daysWithSome_29 : decode cX3_daysWithSome 29 = .ok (.ireturn, 1) := by decide +kernel
theorem dX4_init_0 : decode cX4_init 0 = .ok (.aload_n 0, 1) := by decide +kernel
theorem dX4_init_1 : decode cX4_init 1 = .ok (.invokespecial 3, 3) := by decide +kernel
theorem dX4_init_4 : decode cX4_init 4 = .ok (.aload_n 0, 1) := by decide +kernel
theorem dX4_init_5 : decode cX4_init 5 = .ok (.iconst (-1), 1) := by decide +kernel
theorem dX4_init_6 : decode cX4_init 6 = .ok (.putfield 9, 3) := by decide +kernel
theorem dX4_init_9 : decode cX4_init 9 = .ok (.aload_n 0, 1) := by decide +kernel
theorem dX4_init_10 : decode cX4_init 10 = .ok (.ldc 17, 2) := by decide +kernel
theorem dX4_init_12 : decode cX4_init 12 = .ok (.putfield 18, 3) := by decide +kernel
theorem dX4_init_15 : decode cX4_init 15 = .ok (.return_, 1) := by decide +kernel
theorem dX4_begin_0 : decode cX4_begin 0 = .ok (.aload_n 0, 1) := by decide +kernel
theorem dX4_begin_1 : decode cX4_begin 1 = .ok (.iconst (-1), 1) := by decide +kernel
theorem dX4_begin_2 : decode cX4_begin 2 = .ok (.putfield 9, 3) := by decide +kernel
theorem dX4_begin_5 : decode cX4_begin 5 = .ok (.aload_n 0, 1) := by decide +kernel
theorem dX4_begin_6 : decode cX4_begin 6 = .ok (.ldc 17, 2) := by decide +kernel
theorem dX4_begin_8 : decode cX4_begin 8 = .ok (.putfield 18, 3) := by decide +kernel
theorem dX4_begin_11 : decode cX4_begin 11 = .ok (.return_, 1) := by decide +kernel
theorem dX4_offer_0 : decode cX4_offer 0 = .ok (.iload_n 2, 1) := by decide +kernel
theorem dX4_offer_1 : decode cX4_offer 1 = .ok (.aload_n 0, 1) := by decide +kernel
theorem dX4_offer_2 : decode cX4_offer 2 = .ok (.getfield 18, 3) := by decide +kernel
theorem dX4_offer_5 : decode cX4_offer 5 = .ok (.if_icmp .ge 13, 3) := by decide +kernel
theorem dX4_offer_8 : decode cX4_offer 8 = .ok (.aload_n 0, 1) := by decide +kernel
theorem dX4_offer_9 : decode cX4_offer 9 = .ok (.iload_n 1, 1) := by decide +kernel
theorem dX4_offer_10 : decode cX4_offer 10 = .ok (.putfield 9, 3) := by decide +kernel
theorem dX4_offer_13 : decode cX4_offer 13 = .ok (.aload_n 0, 1) := by decide +kernel
theorem dX4_offer_14 : decode cX4_offer 14 = .ok (.iload_n 2, 1) := by decide +kernel
theorem dX4_offer_15 : decode cX4_offer 15 = .ok (.putfield 18, 3) := by decide +kernel
theorem dX4_offer_18 : decode cX4_offer 18 = .ok (.return_, 1) := by decide +kernel
theorem dX4_tell_0 : decode cX4_tell 0 = .ok (.iload_n 1, 1) := by decide +kernel
theorem dX4_tell_1 : decode cX4_tell 1 = .ok (.ifCond .ne 10, 3) := by decide +kernel
theorem dX4_tell_4 : decode cX4_tell 4 = .ok (.aload_n 0, 1) := by decide +kernel
theorem dX4_tell_5 : decode cX4_tell 5 = .ok (.getfield 9, 3) := by decide +kernel
theorem dX4_tell_8 : decode cX4_tell 8 = .ok (.goto 7, 3) := by decide +kernel
theorem dX4_tell_11 : decode cX4_tell 11 = .ok (.aload_n 0, 1) := by decide +kernel
theorem dX4_tell_12 : decode cX4_tell 12 = .ok (.getfield 18, 3) := by decide +kernel
theorem dX4_tell_15 : decode cX4_tell 15 = .ok (.ireturn, 1) := by decide +kernel
theorem dX5_init_0 : decode cX5_init 0 = .ok (.aload_n 0, 1) := by decide +kernel
theorem dX5_init_1 : decode cX5_init 1 = .ok (.invokespecial 3, 3) := by decide +kernel
theorem dX5_init_4 : decode cX5_init 4 = .ok (.aload_n 0, 1) := by decide +kernel
theorem dX5_init_5 : decode cX5_init 5 = .ok (.bipush 60, 2) := by decide +kernel
theorem dX5_init_7 : decode cX5_init 7 = .ok (.newarray .int, 2) := by decide +kernel
theorem dX5_init_9 : decode cX5_init 9 = .ok (.putfield 9, 3) := by decide +kernel
theorem dX5_init_12 : decode cX5_init 12 = .ok (.aload_n 0, 1) := by decide +kernel
theorem dX5_init_13 : decode cX5_init 13 = .ok (.iconst 1, 1) := by decide +kernel
theorem dX5_init_14 : decode cX5_init 14 = .ok (.putfield 15, 3) := by decide +kernel
theorem dX5_init_17 : decode cX5_init 17 = .ok (.aload_n 0, 1) := by decide +kernel
theorem dX5_init_18 : decode cX5_init 18 = .ok (.iconst 0, 1) := by decide +kernel
theorem dX5_init_19 : decode cX5_init 19 = .ok (.putfield 19, 3) := by decide +kernel
theorem dX5_init_22 : decode cX5_init 22 = .ok (.aload_n 0, 1) := by decide +kernel
theorem dX5_init_23 : decode cX5_init 23 = .ok (.iconst 0, 1) := by decide +kernel
theorem dX5_init_24 : decode cX5_init 24 = .ok (.putfield 23, 3) := by decide +kernel
theorem dX5_init_27 : decode cX5_init 27 = .ok (.return_, 1) := by decide +kernel
theorem dX5_renew_0 : decode cX5_renew 0 = .ok (.aload_n 0, 1) := by decide +kernel
theorem dX5_renew_1 : decode cX5_renew 1 = .ok (.iconst 0, 1) := by decide +kernel
theorem dX5_renew_2 : decode cX5_renew 2 = .ok (.putfield 15, 3) := by decide +kernel
theorem dX5_renew_5 : decode cX5_renew 5 = .ok (.aload_n 0, 1) := by decide +kernel
theorem dX5_renew_6 : decode cX5_renew 6 = .ok (.iload_n 1, 1) := by decide +kernel
theorem dX5_renew_7 : decode cX5_renew 7 = .ok (.putfield 19, 3) := by decide +kernel
theorem dX5_renew_10 : decode cX5_renew 10 = .ok (.aload_n 0, 1) := by decide +kernel
theorem dX5_renew_11 : decode cX5_renew 11 = .ok (.iload_n 2, 1) := by decide +kernel
theorem dX5_renew_12 : decode cX5_renew 12 = .ok (.bipush 60, 2) := by decide +kernel
theorem dX5_renew_14 : decode cX5_renew 14 = .ok (.invokestatic 26, 3) := by decide +kernel
theorem dX5_renew_17 : decode cX5_renew 17 = .ok (.putfield 23, 3) := by decide +kernel
theorem dX5_renew_20 : decode cX5_renew 20 = .ok (.iconst 0, 1) := by decide +kernel
theorem dX5_renew_21 : decode cX5_renew 21 = .ok (.istore_n 3, 1) := by decide +kernel
theorem dX5_renew_22 : decode cX5_renew 22 = .ok (.iload_n 3, 1) := by decide +kernel
theorem dX5_renew_23 : decode cX5_renew 23 = .ok (.bipush 60, 2) := by decide +kernel
theorem dX5_renew_25 : decode cX5_renew 25 = .ok (.if_icmp .ge 16, 3) := by decide +kernel
theorem dX5_renew_28 : decode cX5_renew 28 = .ok (.aload_n 0, 1) := by decide +kernel
theorem dX5_renew_29 : decode cX5_renew 29 = .ok (.getfield 9, 3) := by decide +kernel
theorem dX5_renew_32 : decode cX5_renew 32 = .ok (.iload_n 3, 1) := by decide +kernel
theorem dX5_renew_33 : decode cX5_renew 33 = .ok (.iconst 0, 1) := by decide +kernel
theorem dX5_renew_34 : decode cX5_renew 34 = .ok (.iastore, 1) := by decide +kernel
theorem dX5_renew_35 : decode cX5_renew 35 = .ok (.iinc 3 1, 3) := by decide +kernel
theorem dX5_renew_38 : decode cX5_renew 38 = .ok (.goto (-16), 3) := by decide +kernel
theorem dX5_renew_41 : decode cX5_renew 41 = .ok (.return_, 1) := by decide +kernel
theorem dX5_findingAt_0 : decode cX5_findingAt 0 = .ok (.aload_n 0, 1) := by decide +kernel
theorem dX5_findingAt_1 : decode cX5_findingAt 1 = .ok (.getfield 15, 3) := by decide +kernel
theorem dX5_findingAt_4 : decode cX5_findingAt 4 = .ok (.ifCond .eq 5, 3) := by decide +kernel
theorem dX5_findingAt_7 : decode cX5_findingAt 7 = .ok (.iconst 1, 1) := by decide +kernel
theorem dX5_findingAt_8 : decode cX5_findingAt 8 = .ok (.ireturn, 1) := by decide +kernel
theorem dX5_findingAt_9 : decode cX5_findingAt 9 = .ok (.aload_n 0, 1) := by decide +kernel
theorem dX5_findingAt_10 : decode cX5_findingAt 10 = .ok (.getfield 19, 3) := by decide +kernel
theorem dX5_findingAt_13 : decode cX5_findingAt 13 = .ok (.iload_n 1, 1) := by decide +kernel
theorem dX5_findingAt_14 : decode cX5_findingAt 14 = .ok (.if_icmp .eq 5, 3) := by decide +kernel
theorem dX5_findingAt_17 : decode cX5_findingAt 17 = .ok (.iconst 3, 1) := by decide +kernel
theorem dX5_findingAt_18 : decode cX5_findingAt 18 = .ok (.ireturn, 1) := by decide +kernel
theorem dX5_findingAt_19 : decode cX5_findingAt 19 = .ok (.iload_n 2, 1) := by decide +kernel
theorem dX5_findingAt_20 : decode cX5_findingAt 20 = .ok (.ifCond .lt 15, 3) := by decide +kernel
theorem dX5_findingAt_23 : decode cX5_findingAt 23 = .ok (.iload_n 2, 1) := by decide +kernel
theorem dX5_findingAt_24 : decode cX5_findingAt 24 = .ok (.aload_n 0, 1) := by decide +kernel
theorem dX5_findingAt_25 : decode cX5_findingAt 25 = .ok (.getfield 23, 3) := by decide +kernel
theorem dX5_findingAt_28 : decode cX5_findingAt 28 = .ok (.if_icmp .ge 7, 3) := by decide +kernel
theorem dX5_findingAt_31 : decode cX5_findingAt 31 = .ok (.iconst 0, 1) := by decide +kernel
theorem dX5_findingAt_32 : decode cX5_findingAt 32 = .ok (.goto 4, 3) := by decide +kernel
theorem dX5_findingAt_35 : decode cX5_findingAt 35 = .ok (.iconst 2, 1) := by decide +kernel
theorem dX5_findingAt_36 : decode cX5_findingAt 36 = .ok (.ireturn, 1) := by decide +kernel
theorem dX5_holds_0 : decode cX5_holds 0 = .ok (.iload_n 1, 1) := by decide +kernel
theorem dX5_holds_1 : decode cX5_holds 1 = .ok (.ifCond .lt 29, 3) := by decide +kernel
theorem dX5_holds_4 : decode cX5_holds 4 = .ok (.iload_n 2, 1) := by decide +kernel
theorem dX5_holds_5 : decode cX5_holds 5 = .ok (.ifCond .lt 25, 3) := by decide +kernel
theorem dX5_holds_8 : decode cX5_holds 8 = .ok (.iload_n 1, 1) := by decide +kernel
theorem dX5_holds_9 : decode cX5_holds 9 = .ok (.aload_n 0, 1) := by decide +kernel
theorem dX5_holds_10 : decode cX5_holds 10 = .ok (.getfield 23, 3) := by decide +kernel
theorem dX5_holds_13 : decode cX5_holds 13 = .ok (.if_icmp .gt 17, 3) := by decide +kernel
theorem dX5_holds_16 : decode cX5_holds 16 = .ok (.iload_n 2, 1) := by decide +kernel
theorem dX5_holds_17 : decode cX5_holds 17 = .ok (.aload_n 0, 1) := by decide +kernel
theorem dX5_holds_18 : decode cX5_holds 18 = .ok (.getfield 23, 3) := by decide +kernel
theorem dX5_holds_21 : decode cX5_holds 21 = .ok (.iload_n 1, 1) := by decide +kernel
theorem dX5_holds_22 : decode cX5_holds 22 = .ok (.isub, 1) := by decide +kernel
theorem dX5_holds_23 : decode cX5_holds 23 = .ok (.if_icmp .gt 7, 3) := by decide +kernel
theorem dX5_holds_26 : decode cX5_holds 26 = .ok (.iconst 1, 1) := by decide +kernel
theorem dX5_holds_27 : decode cX5_holds 27 = .ok (.goto 4, 3) := by decide +kernel
theorem dX5_holds_30 : decode cX5_holds 30 = .ok (.iconst 0, 1) := by decide +kernel
theorem dX5_holds_31 : decode cX5_holds 31 = .ok (.ireturn, 1) := by decide +kernel
theorem dX6_init_0 : decode cX6_init 0 = .ok (.aload_n 0, 1) := by decide +kernel
theorem dX6_init_1 : decode cX6_init 1 = .ok (.invokespecial 3, 3) := by decide +kernel
theorem dX6_init_4 : decode cX6_init 4 = .ok (.aload_n 0, 1) := by decide +kernel
theorem dX6_init_5 : decode cX6_init 5 = .ok (.bipush 8, 2) := by decide +kernel
theorem dX6_init_7 : decode cX6_init 7 = .ok (.newarray .int, 2) := by decide +kernel
theorem dX6_init_9 : decode cX6_init 9 = .ok (.putfield 9, 3) := by decide +kernel
theorem dX6_init_12 : decode cX6_init 12 = .ok (.aload_n 0, 1) := by decide +kernel
theorem dX6_init_13 : decode cX6_init 13 = .ok (.bipush 8, 2) := by decide +kernel
theorem dX6_init_15 : decode cX6_init 15 = .ok (.newarray .int, 2) := by decide +kernel
theorem dX6_init_17 : decode cX6_init 17 = .ok (.putfield 15, 3) := by decide +kernel
theorem dX6_init_20 : decode cX6_init 20 = .ok (.aload_n 0, 1) := by decide +kernel
theorem dX6_init_21 : decode cX6_init 21 = .ok (.bipush 8, 2) := by decide +kernel
theorem dX6_init_23 : decode cX6_init 23 = .ok (.newarray .int, 2) := by decide +kernel
theorem dX6_init_25 : decode cX6_init 25 = .ok (.putfield 18, 3) := by decide +kernel
theorem dX6_init_28 : decode cX6_init 28 = .ok (.aload_n 0, 1) := by decide +kernel
theorem dX6_init_29 : decode cX6_init 29 = .ok (.iconst 0, 1) := by decide +kernel
theorem dX6_init_30 : decode cX6_init 30 = .ok (.putfield 21, 3) := by decide +kernel
theorem dX6_init_33 : decode cX6_init 33 = .ok (.return_, 1) := by decide +kernel
theorem dX6_add_0 : decode cX6_add 0 = .ok (.aload_n 0, 1) := by decide +kernel
theorem dX6_add_1 : decode cX6_add 1 = .ok (.getfield 21, 3) := by decide +kernel
theorem dX6_add_4 : decode cX6_add 4 = .ok (.bipush 8, 2) := by decide +kernel
theorem dX6_add_6 : decode cX6_add 6 = .ok (.if_icmp .lt 5, 3) := by decide +kernel
theorem dX6_add_9 : decode cX6_add 9 = .ok (.iconst 0, 1) := by decide +kernel
theorem dX6_add_10 : decode cX6_add 10 = .ok (.ireturn, 1) := by decide +kernel
theorem dX6_add_11 : decode cX6_add 11 = .ok (.aload_n 0, 1) := by decide +kernel
theorem dX6_add_12 : decode cX6_add 12 = .ok (.getfield 9, 3) := by decide +kernel
theorem dX6_add_15 : decode cX6_add 15 = .ok (.aload_n 0, 1) := by decide +kernel
theorem dX6_add_16 : decode cX6_add 16 = .ok (.getfield 21, 3) := by decide +kernel
theorem dX6_add_19 : decode cX6_add 19 = .ok (.iload_n 1, 1) := by decide +kernel
theorem dX6_add_20 : decode cX6_add 20 = .ok (.iastore, 1) := by decide +kernel
theorem dX6_add_21 : decode cX6_add 21 = .ok (.aload_n 0, 1) := by decide +kernel
theorem dX6_add_22 : decode cX6_add 22 = .ok (.getfield 15, 3) := by decide +kernel
theorem dX6_add_25 : decode cX6_add 25 = .ok (.aload_n 0, 1) := by decide +kernel
theorem dX6_add_26 : decode cX6_add 26 = .ok (.getfield 21, 3) := by decide +kernel
theorem dX6_add_29 : decode cX6_add 29 = .ok (.iload_n 2, 1) := by decide +kernel
theorem dX6_add_30 : decode cX6_add 30 = .ok (.iastore, 1) := by decide +kernel
theorem dX6_add_31 : decode cX6_add 31 = .ok (.aload_n 0, 1) := by decide +kernel
theorem dX6_add_32 : decode cX6_add 32 = .ok (.getfield 18, 3) := by decide +kernel
theorem dX6_add_35 : decode cX6_add 35 = .ok (.aload_n 0, 1) := by decide +kernel
theorem dX6_add_36 : decode cX6_add 36 = .ok (.getfield 21, 3) := by decide +kernel
theorem dX6_add_39 : decode cX6_add 39 = .ok (.iload_n 3, 1) := by decide +kernel
theorem dX6_add_40 : decode cX6_add 40 = .ok (.iastore, 1) := by decide +kernel
theorem dX6_add_41 : decode cX6_add 41 = .ok (.aload_n 0, 1) := by decide +kernel
theorem dX6_add_42 : decode cX6_add 42 = .ok (.dup, 1) := by decide +kernel
theorem dX6_add_43 : decode cX6_add 43 = .ok (.getfield 21, 3) := by decide +kernel
theorem dX6_add_46 : decode cX6_add 46 = .ok (.iconst 1, 1) := by decide +kernel
theorem dX6_add_47 : decode cX6_add 47 = .ok (.iadd, 1) := by decide +kernel
theorem dX6_add_48 : decode cX6_add 48 = .ok (.putfield 21, 3) := by decide +kernel
theorem dX6_add_51 : decode cX6_add 51 = .ok (.iconst 1, 1) := by decide +kernel
theorem dX6_add_52 : decode cX6_add 52 = .ok (.ireturn, 1) := by decide +kernel
theorem dX7_init_0 : decode cX7_init 0 = .ok (.aload_n 0, 1) := by decide +kernel
theorem dX7_init_1 : decode cX7_init 1 = .ok (.invokespecial 3, 3) := by decide +kernel
theorem dX7_init_4 : decode cX7_init 4 = .ok (.aload_n 0, 1) := by decide +kernel
theorem dX7_init_5 : decode cX7_init 5 = .ok (.iconst 0, 1) := by decide +kernel
theorem dX7_init_6 : decode cX7_init 6 = .ok (.putfield 9, 3) := by decide +kernel
theorem dX7_init_9 : decode cX7_init 9 = .ok (.aload_n 0, 1) := by decide +kernel
theorem dX7_init_10 : decode cX7_init 10 = .ok (.iconst 0, 1) := by decide +kernel
theorem dX7_init_11 : decode cX7_init 11 = .ok (.iload_n 1, 1) := by decide +kernel
theorem dX7_init_12 : decode cX7_init 12 = .ok (.invokestatic 15, 3) := by decide +kernel
theorem dX7_init_15 : decode cX7_init 15 = .ok (.newarray .int, 2) := by decide +kernel
theorem dX7_init_17 : decode cX7_init 17 = .ok (.putfield 21, 3) := by decide +kernel
theorem dX7_init_20 : decode cX7_init 20 = .ok (.return_, 1) := by decide +kernel
theorem dX7_add_0 : decode cX7_add 0 = .ok (.aload_n 0, 1) := by decide +kernel
theorem dX7_add_1 : decode cX7_add 1 = .ok (.getfield 9, 3) := by decide +kernel
theorem dX7_add_4 : decode cX7_add 4 = .ok (.aload_n 0, 1) := by decide +kernel
theorem dX7_add_5 : decode cX7_add 5 = .ok (.getfield 21, 3) := by decide +kernel
theorem dX7_add_8 : decode cX7_add 8 = .ok (.arraylength, 1) := by decide +kernel
theorem dX7_add_9 : decode cX7_add 9 = .ok (.if_icmp .lt 5, 3) := by decide +kernel
theorem dX7_add_12 : decode cX7_add 12 = .ok (.iconst 0, 1) := by decide +kernel
theorem dX7_add_13 : decode cX7_add 13 = .ok (.ireturn, 1) := by decide +kernel
theorem dX7_add_14 : decode cX7_add 14 = .ok (.aload_n 0, 1) := by decide +kernel
theorem dX7_add_15 : decode cX7_add 15 = .ok (.getfield 21, 3) := by decide +kernel
theorem dX7_add_18 : decode cX7_add 18 = .ok (.aload_n 0, 1) := by decide +kernel
theorem dX7_add_19 : decode cX7_add 19 = .ok (.getfield 9, 3) := by decide +kernel
theorem dX7_add_22 : decode cX7_add 22 = .ok (.iload_n 1, 1) := by decide +kernel
theorem dX7_add_23 : decode cX7_add 23 = .ok (.iastore, 1) := by decide +kernel
theorem dX7_add_24 : decode cX7_add 24 = .ok (.aload_n 0, 1) := by decide +kernel
theorem dX7_add_25 : decode cX7_add 25 = .ok (.dup, 1) := by decide +kernel
theorem dX7_add_26 : decode cX7_add 26 = .ok (.getfield 9, 3) := by decide +kernel
theorem dX7_add_29 : decode cX7_add 29 = .ok (.iconst 1, 1) := by decide +kernel
theorem dX7_add_30 : decode cX7_add 30 = .ok (.iadd, 1) := by decide +kernel
theorem dX7_add_31 : decode cX7_add 31 = .ok (.putfield 9, 3) := by decide +kernel
theorem dX7_add_34 : decode cX7_add 34 = .ok (.iconst 1, 1) := by decide +kernel
theorem dX7_add_35 : decode cX7_add 35 = .ok (.ireturn, 1) := by decide +kernel
theorem dX7_at_0 : decode cX7_at 0 = .ok (.iload_n 1, 1) := by decide +kernel
theorem dX7_at_1 : decode cX7_at 1 = .ok (.ifCond .lt 20, 3) := by decide +kernel
theorem dX7_at_4 : decode cX7_at 4 = .ok (.iload_n 1, 1) := by decide +kernel
theorem dX7_at_5 : decode cX7_at 5 = .ok (.aload_n 0, 1) := by decide +kernel
theorem dX7_at_6 : decode cX7_at 6 = .ok (.getfield 9, 3) := by decide +kernel
theorem dX7_at_9 : decode cX7_at 9 = .ok (.if_icmp .ge 12, 3) := by decide +kernel
theorem dX7_at_12 : decode cX7_at 12 = .ok (.aload_n 0, 1) := by decide +kernel
theorem dX7_at_13 : decode cX7_at 13 = .ok (.getfield 21, 3) := by decide +kernel
theorem dX7_at_16 : decode cX7_at 16 = .ok (.iload_n 1, 1) := by decide +kernel
theorem dX7_at_17 : decode cX7_at 17 = .ok (.iaload, 1) := by decide +kernel
theorem dX7_at_18 : decode cX7_at 18 = .ok (.goto 4, 3) := by decide +kernel
theorem dX7_at_21 : decode cX7_at 21 = .ok (.iconst (-1), 1) := by decide +kernel
theorem dX7_at_22 : decode cX7_at 22 = .ok (.ireturn, 1) := by decide +kernel
theorem dJ6_bitCount_0f7a4_0 : decode cJ6_bitCount_0f7a4 0 = .ok (.iload_n 0, 1) := by decide +kernel
theorem dJ6_bitCount_0f7a4_1 : decode cJ6_bitCount_0f7a4 1 = .ok (.iload_n 0, 1) := by decide +kernel
theorem dJ6_bitCount_0f7a4_2 : decode cJ6_bitCount_0f7a4 2 = .ok (.iconst 1, 1) := by decide +kernel
theorem dJ6_bitCount_0f7a4_3 : decode cJ6_bitCount_0f7a4 3 = .ok (.iushr, 1) := by decide +kernel
theorem dJ6_bitCount_0f7a4_4 : decode cJ6_bitCount_0f7a4 4 = .ok (.ldc_w 265, 3) := by decide +kernel
theorem dJ6_bitCount_0f7a4_7 : decode cJ6_bitCount_0f7a4 7 = .ok (.iand, 1) := by decide +kernel
theorem dJ6_bitCount_0f7a4_8 : decode cJ6_bitCount_0f7a4 8 = .ok (.isub, 1) := by decide +kernel
theorem dJ6_bitCount_0f7a4_9 : decode cJ6_bitCount_0f7a4 9 = .ok (.istore_n 0, 1) := by decide +kernel
theorem dJ6_bitCount_0f7a4_10 : decode cJ6_bitCount_0f7a4 10 = .ok (.iload_n 0, 1) := by decide +kernel
theorem dJ6_bitCount_0f7a4_11 : decode cJ6_bitCount_0f7a4 11 = .ok (.ldc_w 266, 3) := by decide +kernel
theorem dJ6_bitCount_0f7a4_14 : decode cJ6_bitCount_0f7a4 14 = .ok (.iand, 1) := by decide +kernel
theorem dJ6_bitCount_0f7a4_15 : decode cJ6_bitCount_0f7a4 15 = .ok (.iload_n 0, 1) := by decide +kernel
theorem dJ6_bitCount_0f7a4_16 : decode cJ6_bitCount_0f7a4 16 = .ok (.iconst 2, 1) := by decide +kernel
theorem dJ6_bitCount_0f7a4_17 : decode cJ6_bitCount_0f7a4 17 = .ok (.iushr, 1) := by decide +kernel
theorem dJ6_bitCount_0f7a4_18 : decode cJ6_bitCount_0f7a4 18 = .ok (.ldc_w 266, 3) := by decide +kernel
theorem dJ6_bitCount_0f7a4_21 : decode cJ6_bitCount_0f7a4 21 = .ok (.iand, 1) := by decide +kernel
theorem dJ6_bitCount_0f7a4_22 : decode cJ6_bitCount_0f7a4 22 = .ok (.iadd, 1) := by decide +kernel
theorem dJ6_bitCount_0f7a4_23 : decode cJ6_bitCount_0f7a4 23 = .ok (.istore_n 0, 1) := by decide +kernel
theorem dJ6_bitCount_0f7a4_24 : decode cJ6_bitCount_0f7a4 24 = .ok (.iload_n 0, 1) := by decide +kernel
theorem dJ6_bitCount_0f7a4_25 : decode cJ6_bitCount_0f7a4 25 = .ok (.iload_n 0, 1) := by decide +kernel
theorem dJ6_bitCount_0f7a4_26 : decode cJ6_bitCount_0f7a4 26 = .ok (.iconst 4, 1) := by decide +kernel
theorem dJ6_bitCount_0f7a4_27 : decode cJ6_bitCount_0f7a4 27 = .ok (.iushr, 1) := by decide +kernel
theorem dJ6_bitCount_0f7a4_28 : decode cJ6_bitCount_0f7a4 28 = .ok (.iadd, 1) := by decide +kernel
theorem dJ6_bitCount_0f7a4_29 : decode cJ6_bitCount_0f7a4 29 = .ok (.ldc_w 267, 3) := by decide +kernel
theorem dJ6_bitCount_0f7a4_32 : decode cJ6_bitCount_0f7a4 32 = .ok (.iand, 1) := by decide +kernel
theorem dJ6_bitCount_0f7a4_33 : decode cJ6_bitCount_0f7a4 33 = .ok (.istore_n 0, 1) := by decide +kernel
theorem dJ6_bitCount_0f7a4_34 : decode cJ6_bitCount_0f7a4 34 = .ok (.iload_n 0, 1) := by decide +kernel
theorem dJ6_bitCount_0f7a4_35 : decode cJ6_bitCount_0f7a4 35 = .ok (.iload_n 0, 1) := by decide +kernel
theorem dJ6_bitCount_0f7a4_36 : decode cJ6_bitCount_0f7a4 36 = .ok (.bipush 8, 2) := by decide +kernel
theorem dJ6_bitCount_0f7a4_38 : decode cJ6_bitCount_0f7a4 38 = .ok (.iushr, 1) := by decide +kernel
theorem dJ6_bitCount_0f7a4_39 : decode cJ6_bitCount_0f7a4 39 = .ok (.iadd, 1) := by decide +kernel
theorem dJ6_bitCount_0f7a4_40 : decode cJ6_bitCount_0f7a4 40 = .ok (.istore_n 0, 1) := by decide +kernel
theorem dJ6_bitCount_0f7a4_41 : decode cJ6_bitCount_0f7a4 41 = .ok (.iload_n 0, 1) := by decide +kernel
theorem dJ6_bitCount_0f7a4_42 : decode cJ6_bitCount_0f7a4 42 = .ok (.iload_n 0, 1) := by decide +kernel
theorem dJ6_bitCount_0f7a4_43 : decode cJ6_bitCount_0f7a4 43 = .ok (.bipush 16, 2) := by decide +kernel
theorem dJ6_bitCount_0f7a4_45 : decode cJ6_bitCount_0f7a4 45 = .ok (.iushr, 1) := by decide +kernel
theorem dJ6_bitCount_0f7a4_46 : decode cJ6_bitCount_0f7a4 46 = .ok (.iadd, 1) := by decide +kernel
theorem dJ6_bitCount_0f7a4_47 : decode cJ6_bitCount_0f7a4 47 = .ok (.istore_n 0, 1) := by decide +kernel
theorem dJ6_bitCount_0f7a4_48 : decode cJ6_bitCount_0f7a4 48 = .ok (.iload_n 0, 1) := by decide +kernel
theorem dJ6_bitCount_0f7a4_49 : decode cJ6_bitCount_0f7a4 49 = .ok (.bipush 63, 2) := by decide +kernel
theorem dJ6_bitCount_0f7a4_51 : decode cJ6_bitCount_0f7a4 51 = .ok (.iand, 1) := by decide +kernel
theorem dJ6_bitCount_0f7a4_52 : decode cJ6_bitCount_0f7a4 52 = .ok (.ireturn, 1) := by decide +kernel
theorem dJ9_max_7cf53_0 : decode cJ9_max_7cf53 0 = .ok (.iload_n 0, 1) := by decide +kernel
theorem dJ9_max_7cf53_1 : decode cJ9_max_7cf53 1 = .ok (.iload_n 1, 1) := by decide +kernel
theorem dJ9_max_7cf53_2 : decode cJ9_max_7cf53 2 = .ok (.if_icmp .lt 7, 3) := by decide +kernel
theorem dJ9_max_7cf53_5 : decode cJ9_max_7cf53 5 = .ok (.iload_n 0, 1) := by decide +kernel
theorem dJ9_max_7cf53_6 : decode cJ9_max_7cf53 6 = .ok (.goto 4, 3) := by decide +kernel
theorem dJ9_max_7cf53_9 : decode cJ9_max_7cf53 9 = .ok (.iload_n 1, 1) := by decide +kernel
theorem dJ9_max_7cf53_10 : decode cJ9_max_7cf53 10 = .ok (.ireturn, 1) := by decide +kernel
theorem dJ9_min_7cf53_0 : decode cJ9_min_7cf53 0 = .ok (.iload_n 0, 1) := by decide +kernel
theorem dJ9_min_7cf53_1 : decode cJ9_min_7cf53 1 = .ok (.iload_n 1, 1) := by decide +kernel
theorem dJ9_min_7cf53_2 : decode cJ9_min_7cf53 2 = .ok (.if_icmp .gt 7, 3) := by decide +kernel
theorem dJ9_min_7cf53_5 : decode cJ9_min_7cf53 5 = .ok (.iload_n 0, 1) := by decide +kernel
theorem dJ9_min_7cf53_6 : decode cJ9_min_7cf53 6 = .ok (.goto 4, 3) := by decide +kernel
theorem dJ9_min_7cf53_9 : decode cJ9_min_7cf53 9 = .ok (.iload_n 1, 1) := by decide +kernel
theorem dJ9_min_7cf53_10 : decode cJ9_min_7cf53 10 = .ok (.ireturn, 1) := by decide +kernel
end
section
/-! the ground: worlds of fixed shape; a method's code against a pure program -/
def wsG (y : MethodName) (b : ByteArray) (n : Nat) (r : Option FieldType) : List Cond := .code y b n r :: tbG
theorem goodIn_G {y y' : MethodName} {b b' : ByteArray} {n n' : Nat} {r r' : Option FieldType} (h : Cond.code y' b' n' r' ∈ tbG) : GoodIn (wsG y b n r) (wsG y' b' n' r') := by
  intro w hw
  have hm : w ∈ tbG := by
    rcases List.mem_cons.mp hw with rfl | h1
    · exact h
    · exact h1
  exact ⟨List.mem_cons_of_mem _ hm, good_of_word (tb_good hm)⟩
/-- a state: ints by cell and place, longs by cell and place -/
abbrev Sg : Type := (Nat → Nat → Int32) × (Nat → Nat → Int64)
/-- a cell's shape: an array (0 int, 1 boolean, b + 2: references to the cells b, b + 2, ..) and its length; or a class's number and its fields (0 int, 1 long, j + 2: a reference to cell j) -/
abbrev Shp : Type := (Nat × Nat) ⊕ (Nat × List Nat)
/-- the ground: numbers of classes, addresses of cells, array classes -/
abbrev Gd : Type := va_G × (Nat → Nat) × (ClassId × ClassId × ClassId)
def fv (G : Gd) (S : Sg) (i k : Nat) : Nat → Value
  | 0 => .int (S.1 i k)
  | 1 => .long (S.2 i k)
  | j + 2 => .ref (G.2.1 j)
def ce (G : Gd) (S : Sg) (i : Nat) : Shp → va_E
  | .inl (0, n) => .inl (G.2.2.1, n, .inl (S.1 i))
  | .inl (1, n) => .inl (G.2.2.2.1, n, .inl (S.1 i))
  | .inl (b + 2, n) => .inl (G.2.2.2.2, n, .inr (.inr (.inr (.inr (fun j => some (G.2.1 (b + 2 * j)))))))
  | .inr (ci, ks) => .inr (ci, ks.mapIdx (fv G S i))
def wl (L : List Shp) (G : Gd) (S : Sg) : va_W := L.mapIdx (fun i sh => (G.2.1 i, ce G S i sh))
def Ar (L : List Shp) (G : Gd) : Nat → Prop := fun q => ∃ i, i < L.length ∧ q = G.2.1 i
def Ij (L : List Shp) (G : Gd) : Prop := ∀ i j, i < L.length → j < L.length → G.2.1 i = G.2.1 j → i = j
theorem wl_at {L : List Shp} {G : Gd} {S : Sg} {i : Nat} {sh : Shp} (h : L[i]? = some sh) : (wl L G S)[i]? = some (G.2.1 i, ce G S i sh) := by
  simp [wl, List.getElem?_mapIdx, h]
theorem wl_get {L : List Shp} {G : Gd} {S : Sg} {k : Nat} {q : Nat × va_E} (h : (wl L G S)[k]? = some q) : k < L.length ∧ q.1 = G.2.1 k := by
  simp only [wl, List.getElem?_mapIdx] at h
  cases hL : L[k]? with
  | none => rw [hL] at h; cases h
  | some sh =>
    rw [hL] at h
    have h2 := Option.some.inj h
    exact ⟨(List.getElem?_eq_some_iff.mp hL).1, by rw [← h2]⟩
theorem wl_D {L : List Shp} {G : Gd} (hj : Ij L G) (S : Sg) : va_D (Ar L G) (wl L G S) := by
  refine ⟨fun i j p q hi hj' hpq => ?_, fun k q hk => ?_⟩
  · obtain ⟨a1, a2⟩ := wl_get hi
    obtain ⟨b1, b2⟩ := wl_get hj'
    exact hj i j a1 b1 (by rw [← a2, ← b2]; exact hpq)
  · obtain ⟨a1, a2⟩ := wl_get hk
    exact ⟨k, a1, a2⟩
theorem wl_set {L : List Shp} {G : Gd} {S S' : Sg} {i : Nat} {sh : Shp} {e : va_E} (h : L[i]? = some sh) (he : ce G S' i sh = e) (ho : ∀ (j : Nat) (sh' : Shp), j ≠ i → ce G S' j sh' = ce G S j sh') : (wl L G S).set i (G.2.1 i, e) = wl L G S' := by
  apply List.ext_getElem?
  intro j
  by_cases hji : j = i
  · subst hji
    rw [List.getElem?_set_self (by simp [wl]; exact (List.getElem?_eq_some_iff.mp h).1), wl_at h, he]
  · rw [List.getElem?_set_ne (Ne.symm hji)]
    simp only [wl, List.getElem?_mapIdx]
    cases hL : L[j]? with
    | none => rfl
    | some sh' => simp [ho j sh' hji]
/-- one int, one long, one row of a state set -/
def sI (S : Sg) (i k : Nat) (v : Int32) : Sg := (fun a j => if a = i ∧ j = k then v else S.1 a j, S.2)
def sL (S : Sg) (i k : Nat) (v : Int64) : Sg := (S.1, fun a j => if a = i ∧ j = k then v else S.2 a j)
def sC (S : Sg) (i : Nat) (f : Nat → Int32) : Sg := (fun a j => if a = i then f j else S.1 a j, S.2)
theorem ce_I {G : Gd} {S : Sg} {i k : Nat} {v : Int32} (j : Nat) (sh : Shp) (h : j ≠ i) : ce G (sI S i k v) j sh = ce G S j sh := by
  have e1 : (sI S i k v).1 j = S.1 j := by funext x; simp [sI, h]
  have e2 : ∀ k', fv G (sI S i k v) j k' = fv G S j k' := by
    intro k'; funext d
    match d with
    | 0 => simp [fv, e1]
    | 1 => simp [fv, sI]
    | d + 2 => rfl
  match sh with
  | .inl (0, n) => simp [ce, e1]
  | .inl (1, n) => simp [ce, e1]
  | .inl (b + 2, n) => rfl
  | .inr (ci, ks) => simp only [ce]; rw [show fv G (sI S i k v) j = fv G S j from funext e2]
theorem ce_L {G : Gd} {S : Sg} {i k : Nat} {v : Int64} (j : Nat) (sh : Shp) (h : j ≠ i) : ce G (sL S i k v) j sh = ce G S j sh := by
  have e2 : ∀ k', fv G (sL S i k v) j k' = fv G S j k' := by
    intro k'; funext d
    match d with
    | 0 => simp [fv, sL]
    | 1 => simp [fv, sL, h]
    | d + 2 => rfl
  match sh with
  | .inl (0, n) => simp [ce, sL]
  | .inl (1, n) => simp [ce, sL]
  | .inl (b + 2, n) => rfl
  | .inr (ci, ks) => simp only [ce]; rw [show fv G (sL S i k v) j = fv G S j from funext e2]
theorem ce_C {G : Gd} {S : Sg} {i : Nat} {f : Nat → Int32} (j : Nat) (sh : Shp) (h : j ≠ i) : ce G (sC S i f) j sh = ce G S j sh := by
  have e1 : (sC S i f).1 j = S.1 j := by funext x; simp [sC, h]
  have e2 : ∀ k', fv G (sC S i f) j k' = fv G S j k' := by
    intro k'; funext d
    match d with
    | 0 => simp [fv, e1]
    | 1 => simp [fv, sC]
    | d + 2 => rfl
  match sh with
  | .inl (0, n) => simp [ce, e1]
  | .inl (1, n) => simp [ce, e1]
  | .inl (b + 2, n) => rfl
  | .inr (ci, ks) => simp only [ce]; rw [show fv G (sC S i f) j = fv G S j from funext e2]
theorem fs_I {G : Gd} {S : Sg} {i k : Nat} {v : Int32} {ks : List Nat} (hk : ks[k]? = some 0) : ks.mapIdx (fv G (sI S i k v) i) = (ks.mapIdx (fv G S i)).set k (.int v) := by
  apply List.ext_getElem?
  intro j
  by_cases hj : j = k
  · subst hj
    rw [List.getElem?_set_self (by simp; exact (List.getElem?_eq_some_iff.mp hk).1)]
    simp [List.getElem?_mapIdx, hk, fv, sI]
  · rw [List.getElem?_set_ne (Ne.symm hj)]
    simp only [List.getElem?_mapIdx]
    cases hL : ks[j]? with
    | none => rfl
    | some d =>
      match d with
      | 0 => simp [fv, sI, hj]
      | 1 => simp [fv, sI]
      | d + 2 => rfl
theorem fs_L {G : Gd} {S : Sg} {i k : Nat} {v : Int64} {ks : List Nat} (hk : ks[k]? = some 1) : ks.mapIdx (fv G (sL S i k v) i) = (ks.mapIdx (fv G S i)).set k (.long v) := by
  apply List.ext_getElem?
  intro j
  by_cases hj : j = k
  · subst hj
    rw [List.getElem?_set_self (by simp; exact (List.getElem?_eq_some_iff.mp hk).1)]
    simp [List.getElem?_mapIdx, hk, fv, sL]
  · rw [List.getElem?_set_ne (Ne.symm hj)]
    simp only [List.getElem?_mapIdx]
    cases hL : ks[j]? with
    | none => rfl
    | some d =>
      match d with
      | 0 => simp [fv, sL]
      | 1 => simp [fv, sL, hj]
      | d + 2 => rfl
theorem row_I {S : Sg} {i k : Nat} {v : Int32} : (sI S i k v).1 i = upd (S.1 i) k v := by
  funext j
  simp [sI, upd]
theorem row_C {S : Sg} {i : Nat} {f : Nat → Int32} : (sC S i f).1 i = f := by
  funext j
  simp [sC]
/-- pure programs: bind, guard, index in range -/
def bd {ρ τ : Type} (x : Option (ρ × Sg)) (k : ρ → Sg → Option τ) : Option τ := match x with
  | some q => k q.1 q.2
  | none => none
theorem bd_some {ρ τ : Type} {r : ρ} {S : Sg} {k : ρ → Sg → Option τ} : bd (some (r, S)) k = k r S := rfl
theorem bd_none {ρ τ : Type} {k : ρ → Sg → Option τ} : bd none k = none := rfl
def gd {τ : Type} (b : Bool) (x : Option τ) : Option τ := if b = true then x else none
theorem gd_t {τ : Type} {b : Bool} {x : Option τ} (h : b = true) : gd b x = x := if_pos h
def ix (i : Int32) (n : Nat) : Bool := decide (0 ≤ i) && decide (i.toNatClampNeg < n)
theorem ix_in {i : Int32} {n : Nat} (h : ix i n = true) : vp_in i n := by
  simp only [ix, Bool.and_eq_true, decide_eq_true_eq] at h
  rintro (q | q)
  · have h1 := Int32.le_iff_toInt_le.mp h.1
    have h2 := Int32.lt_iff_toInt_lt.mp q
    omega
  · omega
def zb (v : Int32) : Bool := v == 0 || v == 1
theorem zb_nar {v : Int32} (h : zb v = true) : narrow .boolean (.int v) = .int v := by
  simp only [zb, Bool.or_eq_true, beq_iff_eq] at h
  rcases h with rfl | rfl <;> decide +kernel
def kz {ρ : Type} : ρ → Sg → Option (ρ × Sg) := fun r S => some (r, S)
theorem bd_kz {ρ : Type} (x : Option (ρ × Sg)) : bd x kz = x := by
  cases x with
  | none => rfl
  | some q => rfl
/-- where a method runs: program, launch, env, room, state, method, arguments, frames below, method, code -/
abbrev Mc : Type := Program × Launch × Env × Room × State × MethodId × Array Value × List Frame × Method × Code
def tysG (G : Gd) : List (ClassId × FieldType) := [(G.2.2.1, .int), (G.2.2.2.1, .boolean), (G.2.2.2.2, .object "BoardRemembers$Sheet")]
def Wd (L : List Shp) (G : Gd) (S : Sg) (U : State) : Prop := va_P G.1 vwCl (wl L G S) U.heap ∧ va_K G.1 vwCl (tysG G) U
def rmD (d : Nat) : Room := { frames := d, cells := 0, slots := 0, locals := 40 * d }
def Qz (L : List Shp) (G : Gd) {ρ : Type} (ret : ρ → Option Value) (r : ρ) (S' : Sg) : Array Value → State → Outcome → State → Prop := fun _ st oc t => (oc = .returned (ret r) ∧ Wd L G S' t) ∧ va_F (Ar L G) st t
/-- the contract of a method: it answers and leaves what the pure program says -/
def Ct (L : List Shp) (G : Gd) (l : Launch) {ρ : Type} (ret : ρ → Option Value) (y : MethodName) (b : ByteArray) (n : Nat) (rt : Option FieldType) (d : Nat) (av : List Value) (S : Sg) (o : Option (ρ × Sg)) : Prop :=
  ∀ (r : ρ) (S' : Sg), o = some (r, S') → Met l y (wsG y b n rt) (rmD d) (va_Pc av (fun U => Wd L G S U ∧ Ij L G)) (Qz L G ret r S') 0 0 (Ar L G)
def Cx (L : List Shp) (G : Gd) (Z : Mc) (cc : ByteArray) (nL : Nat) (own : String) (rt : Option FieldType) (d : Nat) : Prop :=
  Z.1.tables.exec = Jvm.exec ∧ Z.2.2.2.2.2.2.2.2.2.code = cc ∧ Z.2.2.2.2.2.2.2.2.2.maxLocals = nL ∧ Z.2.2.2.2.1.vm.findClass own = some Z.2.2.2.2.2.1.cls ∧ (∀ w ∈ tbG, w.before Z.2.2.2.2.2.2.1 Z.2.2.2.2.1 = true) ∧ va_K G.1 vwCl (tysG G) Z.2.2.2.2.1 ∧ Z.2.2.2.2.2.2.2.2.1.locks = false ∧ Z.2.2.2.2.2.2.2.2.1.sig.returnType = rt ∧ Ij L G ∧ Z.2.2.2.1 = rmD d
abbrev Wz (Z : Mc) (H : Heap) (locs : List Loc) (Q : State → Prop) (g : JFrame) : Prop := W Z.1 Z.2.1 Z.2.2.1 Z.2.2.2.1 Z.2.2.2.2.1 Z.2.2.2.2.2.1 Z.2.2.2.2.2.2.1 Z.2.2.2.2.2.2.2.1 Z.2.2.2.2.2.2.2.2.1 Z.2.2.2.2.2.2.2.2.2 H locs 0 0 Q g
/-- from here, in world S, the code does what the pure program x, then K, says -/
def Go (L : List Shp) (G : Gd) (Z : Mc) (nL : Nat) {ρ τ : Type} (ret : ρ → Option Value) (pc : Nat) (lvs : List (Nat × Value)) (st : List Value) (S : Sg) (x : Option (τ × Sg)) (K : τ → Sg → Option (ρ × Sg)) : Prop :=
  ∀ (r : ρ) (S' : Sg), bd x K = some (r, S') → ∀ (H : Heap) (locs : List Loc) (ls : Array Slot), lv_has ls nL lvs → va_P G.1 vwCl (wl L G S) H → va_S (Ar L G) Z.2.2.2.2.1.heap H locs →
    Wz Z H locs (MQ Z.2.2.2.2.2.2.2.1 (Qz L G ret r S') Z.2.2.2.2.2.2.1 Z.2.2.2.2.1 0 0 (Ar L G)) (F0 Z.2.2.2.2.2.1 pc ls st)
def rI : Int32 → Option Value := fun v => some (.int v)
def rL : Int64 → Option Value := fun v => some (.long v)
def rV : Unit → Option Value := fun _ => none
def rR (G : Gd) : Nat → Option Value := fun a => some (.ref (G.2.1 a))
theorem Ct.of {L : List Shp} {G : Gd} {l : Launch} {ρ : Type} {ret : ρ → Option Value} {y : MethodName} {b : ByteArray} {n : Nat} {rt : Option FieldType} {d : Nat} {av : List Value} {S : Sg} {o : Option (ρ × Sg)} (hy : plainName y.cls = true) (hn : (lg_sl av).length ≤ n)
    (h : ∀ Z : Mc, Z.2.1 = l → Cx L G Z b n y.cls rt d → Go L G Z n ret 0 (lv_args 0 av) [] S o kz) : Ct L G l ret y b n rt d av S o := by
  intro r S' ho
  refine Met.ofW (cc := b) (maxL := n) (ret := rt) hy rfl ?_
  intro p e s m args below meth c s₁ B hml hv
  obtain ⟨rfl, ⟨hP, hK⟩, hj⟩ := hv
  have hts := atoms_spec (ws := wsG y b n rt) B.pre
  have hown : s.vm.findClass y.cls = some m.cls := findClass_of_methodNamed B.named
  have hl := lv_entry av (n := n) hn
  rw [lg_entry_eq]
  exact h (p, l, e, (headSpec (wsG y b n rt) (rmD d)).room, s, m, av.toArray, below, meth, c) rfl ⟨B.exec, B.bytes, hml, hown, fun w hw => hts w (List.mem_cons_of_mem _ hw), hK, B.notSynchronized, B.returns, hj, rfl⟩ r S' (by rw [bd_kz]; exact ho) s.heap [] _ hl hP va_S.rf
section GO
variable {L : List Shp} {G : Gd} {Z : Mc} {cc : ByteArray} {nL : Nat} {own : String} {rt : Option FieldType} {d : Nat} {ρ τ : Type} {ret : ρ → Option Value} {pc : Nat} {lvs : List (Nat × Value)} {st : List Value} {S : Sg} {x : Option (τ × Sg)} {K : τ → Sg → Option (ρ × Sg)}
theorem g_none : Go L G Z nL ret pc lvs st S (none : Option (τ × Sg)) K := fun r S' ho => by cases ho
theorem g_sub {lvs' : List (Nat × Value)} (ks : List Nat) (h : lv_pick lvs ks = lvs') (k : Go L G Z nL ret pc lvs' st S x K) : Go L G Z nL ret pc lvs st S x K :=
  fun r S' ho H locs ls hl hP hS => k r S' ho H locs ls (lv_sub hl ks h) hP hS
theorem g_join {σ : Type} {y : Option (σ × Sg)} {f : σ → Sg → Option (τ × Sg)} (k : Go L G Z nL ret pc lvs st S y (fun t S1 => bd (f t S1) K)) : Go L G Z nL ret pc lvs st S (bd y f) K := by
  intro r S' ho
  refine k r S' ?_
  rw [← ho]
  cases y with
  | none => rfl
  | some q => rfl
/-- an arm's end: what stands behind the join -/
theorem g_end {σ : Type} {t : σ} {f : σ → Sg → Option (τ × Sg)} (k : Go L G Z nL ret pc lvs st S (f t S) K) : Go L G Z nL ret pc lvs st S (some (t, S)) (fun t S1 => bd (f t S1) K) := k

theorem g_iconst (pc2 : Nat) (X : Cx L G Z cc nL own rt d) {n : Int} {v : Int32} (hd : decode cc pc = .ok (.iconst n, 1)) (hp : pc + 1 = pc2) (hv : Int32.ofInt n = v) (k : Go L G Z nL ret pc2 lvs (.int v :: st) S x K) : Go L G Z nL ret pc lvs st S x K := by
  subst hp
  exact fun r S' ho H locs ls hl hP hS => lv_iconst X.1 X.2.1 hd hv (k r S' ho H locs ls hl hP hS)
theorem g_bipush (pc2 : Nat) (X : Cx L G Z cc nL own rt d) {n : Int} {v : Int32} (hd : decode cc pc = .ok (.bipush n, 2)) (hp : pc + 2 = pc2) (hv : (Int8.ofInt n).toInt32 = v) (k : Go L G Z nL ret pc2 lvs (.int v :: st) S x K) : Go L G Z nL ret pc lvs st S x K := by
  subst hp
  exact fun r S' ho H locs ls hl hP hS => lv_bipush X.1 X.2.1 hd hv (k r S' ho H locs ls hl hP hS)
theorem g_sipush (pc2 : Nat) (X : Cx L G Z cc nL own rt d) {n : Int} {v : Int32} (hd : decode cc pc = .ok (.sipush n, 3)) (hp : pc + 3 = pc2) (hv : (Int16.ofInt n).toInt32 = v) (k : Go L G Z nL ret pc2 lvs (.int v :: st) S x K) : Go L G Z nL ret pc lvs st S x K := by
  subst hp
  exact fun r S' ho H locs ls hl hP hS => lv_sipush X.1 X.2.1 hd hv (k r S' ho H locs ls hl hP hS)
theorem g_lconst (pc2 : Nat) (X : Cx L G Z cc nL own rt d) {n : Fin 2} {v : Int64} (hd : decode cc pc = .ok (.lconst n, 1)) (hp : pc + 1 = pc2) (hv : Int64.ofNat (n : Nat) = v) (k : Go L G Z nL ret pc2 lvs (.long v :: st) S x K) : Go L G Z nL ret pc lvs st S x K := by
  subst hp
  exact fun r S' ho H locs ls hl hP hS => lv_lconst X.1 X.2.1 hd hv (k r S' ho H locs ls hl hP hS)
theorem g_ldc (pc2 : Nat) (X : Cx L G Z cc nL own rt d) {n : Nat} {v : Int32} (hd : decode cc pc = .ok (.ldc n, 2)) (hp : pc + 2 = pc2) (hv : Cond.constant own n v ∈ tbG) (k : Go L G Z nL ret pc2 lvs (.int v :: st) S x K) : Go L G Z nL ret pc lvs st S x K := by
  subst hp
  exact fun r S' ho H locs ls hl hP hS => lv_ldc X.1 X.2.1 X.2.2.2.1 (X.2.2.2.2.1 _ hv) hd (k r S' ho H locs ls hl hP hS)
theorem g_ldcw (pc2 : Nat) (X : Cx L G Z cc nL own rt d) {n : Nat} {v : Int32} (hd : decode cc pc = .ok (.ldc_w n, 3)) (hp : pc + 3 = pc2) (hv : Cond.constant own n v ∈ tbG) (k : Go L G Z nL ret pc2 lvs (.int v :: st) S x K) : Go L G Z nL ret pc lvs st S x K := by
  subst hp
  exact fun r S' ho H locs ls hl hP hS => lv_ldcw X.1 X.2.1 X.2.2.2.1 (X.2.2.2.2.1 _ hv) hd (k r S' ho H locs ls hl hP hS)
theorem g_ldc2 (pc2 : Nat) (X : Cx L G Z cc nL own rt d) {n : Nat} {v : Int64} (hd : decode cc pc = .ok (.ldc2_w n, 3)) (hp : pc + 3 = pc2) (hv : Cond.constantLong own n v ∈ tbG) (k : Go L G Z nL ret pc2 lvs (.long v :: st) S x K) : Go L G Z nL ret pc lvs st S x K := by
  subst hp
  exact fun r S' ho H locs ls hl hP hS => lv_ldc2 X.1 X.2.1 X.2.2.2.1 (X.2.2.2.2.1 _ hv) hd (k r S' ho H locs ls hl hP hS)
theorem g_iload_n (pc2 : Nat) (X : Cx L G Z cc nL own rt d) {k : Fin 4} {i : Nat} (q : Nat) {v : Int32} (hd : decode cc pc = .ok (.iload_n k, 1)) (hp : pc + 1 = pc2) (hi : (k : Nat) = i) (hv : lvs[q]? = some (i, .int v)) (k : Go L G Z nL ret pc2 lvs (.int v :: st) S x K) : Go L G Z nL ret pc lvs st S x K := by
  subst hp
  exact fun r S' ho H locs ls hl hP hS => lv_iload_n X.1 X.2.1 hd hi (lv_at hl q hv) (k r S' ho H locs ls hl hP hS)
theorem g_iload (pc2 : Nat) (X : Cx L G Z cc nL own rt d) {i : Nat} (q : Nat) {v : Int32} (hd : decode cc pc = .ok (.iload i, 2)) (hp : pc + 2 = pc2) (hv : lvs[q]? = some (i, .int v)) (k : Go L G Z nL ret pc2 lvs (.int v :: st) S x K) : Go L G Z nL ret pc lvs st S x K := by
  subst hp
  exact fun r S' ho H locs ls hl hP hS => lv_iload X.1 X.2.1 hd (lv_at hl q hv) (k r S' ho H locs ls hl hP hS)
theorem g_lload_n (pc2 : Nat) (X : Cx L G Z cc nL own rt d) {k : Fin 4} {i : Nat} (q : Nat) {v : Int64} (hd : decode cc pc = .ok (.lload_n k, 1)) (hp : pc + 1 = pc2) (hi : (k : Nat) = i) (hv : lvs[q]? = some (i, .long v)) (k : Go L G Z nL ret pc2 lvs (.long v :: st) S x K) : Go L G Z nL ret pc lvs st S x K := by
  subst hp
  exact fun r S' ho H locs ls hl hP hS => lv_lload_n X.1 X.2.1 hd hi (lv_at hl q hv) (k r S' ho H locs ls hl hP hS)
theorem g_lload (pc2 : Nat) (X : Cx L G Z cc nL own rt d) {i : Nat} (q : Nat) {v : Int64} (hd : decode cc pc = .ok (.lload i, 2)) (hp : pc + 2 = pc2) (hv : lvs[q]? = some (i, .long v)) (k : Go L G Z nL ret pc2 lvs (.long v :: st) S x K) : Go L G Z nL ret pc lvs st S x K := by
  subst hp
  exact fun r S' ho H locs ls hl hP hS => lv_lload X.1 X.2.1 hd (lv_at hl q hv) (k r S' ho H locs ls hl hP hS)
theorem g_aload_n (pc2 : Nat) (X : Cx L G Z cc nL own rt d) {k : Fin 4} {i : Nat} (q : Nat) {v : Nat} (hd : decode cc pc = .ok (.aload_n k, 1)) (hp : pc + 1 = pc2) (hi : (k : Nat) = i) (hv : lvs[q]? = some (i, .ref v)) (k : Go L G Z nL ret pc2 lvs (.ref v :: st) S x K) : Go L G Z nL ret pc lvs st S x K := by
  subst hp
  exact fun r S' ho H locs ls hl hP hS => lv_aload_n X.1 X.2.1 hd hi (lv_at hl q hv) (k r S' ho H locs ls hl hP hS)
theorem g_aload (pc2 : Nat) (X : Cx L G Z cc nL own rt d) {i : Nat} (q : Nat) {v : Nat} (hd : decode cc pc = .ok (.aload i, 2)) (hp : pc + 2 = pc2) (hv : lvs[q]? = some (i, .ref v)) (k : Go L G Z nL ret pc2 lvs (.ref v :: st) S x K) : Go L G Z nL ret pc lvs st S x K := by
  subst hp
  exact fun r S' ho H locs ls hl hP hS => lv_aload X.1 X.2.1 hd (lv_at hl q hv) (k r S' ho H locs ls hl hP hS)
theorem g_istore_n (pc2 : Nat) (X : Cx L G Z cc nL own rt d) {k : Fin 4} {i : Nat} (lvs2 : List (Nat × Value)) {v : Int32} (hd : decode cc pc = .ok (.istore_n k, 1)) (hp : pc + 1 = pc2) (hi : (k : Nat) = i) (hn : i < nL) (hl : (i, .int v) :: lvs.filter (fun q => !(q.1 == i) && !(q.1 + 1 == i && q.2.category == 2)) = lvs2) (k : Go L G Z nL ret pc2 lvs2 st S x K) : Go L G Z nL ret pc lvs (.int v :: st) S x K := by
  subst hp
  exact fun r S' ho H locs ls hls hP hS => lv_istore_n X.1 X.2.1 hd hi hls hn hl (fun ls' hls' => k r S' ho H locs ls' hls' hP hS)
theorem g_istore (pc2 : Nat) (X : Cx L G Z cc nL own rt d) {i : Nat} (lvs2 : List (Nat × Value)) {v : Int32} (hd : decode cc pc = .ok (.istore i, 2)) (hp : pc + 2 = pc2) (hn : i < nL) (hl : (i, .int v) :: lvs.filter (fun q => !(q.1 == i) && !(q.1 + 1 == i && q.2.category == 2)) = lvs2) (k : Go L G Z nL ret pc2 lvs2 st S x K) : Go L G Z nL ret pc lvs (.int v :: st) S x K := by
  subst hp
  exact fun r S' ho H locs ls hls hP hS => lv_istore X.1 X.2.1 hd hls hn hl (fun ls' hls' => k r S' ho H locs ls' hls' hP hS)
theorem g_astore_n (pc2 : Nat) (X : Cx L G Z cc nL own rt d) {k : Fin 4} {i : Nat} (lvs2 : List (Nat × Value)) {v : Nat} (hd : decode cc pc = .ok (.astore_n k, 1)) (hp : pc + 1 = pc2) (hi : (k : Nat) = i) (hn : i < nL) (hl : (i, .ref v) :: lvs.filter (fun q => !(q.1 == i) && !(q.1 + 1 == i && q.2.category == 2)) = lvs2) (k : Go L G Z nL ret pc2 lvs2 st S x K) : Go L G Z nL ret pc lvs (.ref v :: st) S x K := by
  subst hp
  exact fun r S' ho H locs ls hls hP hS => lv_astore_n X.1 X.2.1 hd hi hls hn hl (fun ls' hls' => k r S' ho H locs ls' hls' hP hS)
theorem g_astore (pc2 : Nat) (X : Cx L G Z cc nL own rt d) {i : Nat} (lvs2 : List (Nat × Value)) {v : Nat} (hd : decode cc pc = .ok (.astore i, 2)) (hp : pc + 2 = pc2) (hn : i < nL) (hl : (i, .ref v) :: lvs.filter (fun q => !(q.1 == i) && !(q.1 + 1 == i && q.2.category == 2)) = lvs2) (k : Go L G Z nL ret pc2 lvs2 st S x K) : Go L G Z nL ret pc lvs (.ref v :: st) S x K := by
  subst hp
  exact fun r S' ho H locs ls hls hP hS => lv_astore X.1 X.2.1 hd hls hn hl (fun ls' hls' => k r S' ho H locs ls' hls' hP hS)
theorem g_lstore_n (pc2 : Nat) (X : Cx L G Z cc nL own rt d) {k : Fin 4} {i : Nat} (lvs2 : List (Nat × Value)) {v : Int64} (hd : decode cc pc = .ok (.lstore_n k, 1)) (hp : pc + 1 = pc2) (hi : (k : Nat) = i) (hn : i + 1 < nL) (hl : (i, .long v) :: lvs.filter (fun q => !(q.1 == i) && (!(q.1 == i + 1) && !(q.1 + 1 == i && q.2.category == 2))) = lvs2) (k : Go L G Z nL ret pc2 lvs2 st S x K) : Go L G Z nL ret pc lvs (.long v :: st) S x K := by
  subst hp
  exact fun r S' ho H locs ls hls hP hS => lv_lstore_n X.1 X.2.1 hd hi hls hn hl (fun ls' hls' => k r S' ho H locs ls' hls' hP hS)
theorem g_lstore (pc2 : Nat) (X : Cx L G Z cc nL own rt d) {i : Nat} (lvs2 : List (Nat × Value)) {v : Int64} (hd : decode cc pc = .ok (.lstore i, 2)) (hp : pc + 2 = pc2) (hn : i + 1 < nL) (hl : (i, .long v) :: lvs.filter (fun q => !(q.1 == i) && (!(q.1 == i + 1) && !(q.1 + 1 == i && q.2.category == 2))) = lvs2) (k : Go L G Z nL ret pc2 lvs2 st S x K) : Go L G Z nL ret pc lvs (.long v :: st) S x K := by
  subst hp
  exact fun r S' ho H locs ls hls hP hS => lv_lstore X.1 X.2.1 hd hls hn hl (fun ls' hls' => k r S' ho H locs ls' hls' hP hS)
theorem g_iinc (pc2 : Nat) (X : Cx L G Z cc nL own rt d) {i : Nat} {n : Int} (q : Nat) (lvs2 : List (Nat × Value)) {u v : Int32} (hd : decode cc pc = .ok (.iinc i n, 3)) (hp : pc + 3 = pc2) (hq : lvs[q]? = some (i, .int u)) (hv : u + Int32.ofInt n = v) (hn : i < nL) (hl : (i, Value.int v) :: lvs.filter (fun q => !(q.1 == i) && !(q.1 + 1 == i && q.2.category == 2)) = lvs2) (k : Go L G Z nL ret pc2 lvs2 st S x K) : Go L G Z nL ret pc lvs st S x K := by
  subst hp
  exact fun r S' ho H locs ls hls hP hS => lv_iinc X.1 X.2.1 hd hls hq hv hn hl (fun ls' hls' => k r S' ho H locs ls' hls' hP hS)
theorem g_iadd (pc2 : Nat) (X : Cx L G Z cc nL own rt d) {u v : Int32} (hd : decode cc pc = .ok (.iadd, 1)) (hp : pc + 1 = pc2) (k : Go L G Z nL ret pc2 lvs (.int (u + v) :: st) S x K) : Go L G Z nL ret pc lvs (.int v :: .int u :: st) S x K := by
  subst hp
  exact fun r S' ho H locs ls hl hP hS => lv_iadd X.1 X.2.1 hd (k r S' ho H locs ls hl hP hS)
theorem g_isub (pc2 : Nat) (X : Cx L G Z cc nL own rt d) {u v : Int32} (hd : decode cc pc = .ok (.isub, 1)) (hp : pc + 1 = pc2) (k : Go L G Z nL ret pc2 lvs (.int (u - v) :: st) S x K) : Go L G Z nL ret pc lvs (.int v :: .int u :: st) S x K := by
  subst hp
  exact fun r S' ho H locs ls hl hP hS => lv_isub X.1 X.2.1 hd (k r S' ho H locs ls hl hP hS)
theorem g_imul (pc2 : Nat) (X : Cx L G Z cc nL own rt d) {u v : Int32} (hd : decode cc pc = .ok (.imul, 1)) (hp : pc + 1 = pc2) (k : Go L G Z nL ret pc2 lvs (.int (u * v) :: st) S x K) : Go L G Z nL ret pc lvs (.int v :: .int u :: st) S x K := by
  subst hp
  exact fun r S' ho H locs ls hl hP hS => lv_imul X.1 X.2.1 hd (k r S' ho H locs ls hl hP hS)
theorem g_iand (pc2 : Nat) (X : Cx L G Z cc nL own rt d) {u v : Int32} (hd : decode cc pc = .ok (.iand, 1)) (hp : pc + 1 = pc2) (k : Go L G Z nL ret pc2 lvs (.int (u &&& v) :: st) S x K) : Go L G Z nL ret pc lvs (.int v :: .int u :: st) S x K := by
  subst hp
  exact fun r S' ho H locs ls hl hP hS => lv_iand X.1 X.2.1 hd (k r S' ho H locs ls hl hP hS)
theorem g_ior (pc2 : Nat) (X : Cx L G Z cc nL own rt d) {u v : Int32} (hd : decode cc pc = .ok (.ior, 1)) (hp : pc + 1 = pc2) (k : Go L G Z nL ret pc2 lvs (.int (u ||| v) :: st) S x K) : Go L G Z nL ret pc lvs (.int v :: .int u :: st) S x K := by
  subst hp
  exact fun r S' ho H locs ls hl hP hS => lv_ior X.1 X.2.1 hd (k r S' ho H locs ls hl hP hS)
theorem g_ixor (pc2 : Nat) (X : Cx L G Z cc nL own rt d) {u v : Int32} (hd : decode cc pc = .ok (.ixor, 1)) (hp : pc + 1 = pc2) (k : Go L G Z nL ret pc2 lvs (.int (u ^^^ v) :: st) S x K) : Go L G Z nL ret pc lvs (.int v :: .int u :: st) S x K := by
  subst hp
  exact fun r S' ho H locs ls hl hP hS => lv_ixor X.1 X.2.1 hd (k r S' ho H locs ls hl hP hS)
theorem g_idiv (pc2 : Nat) (X : Cx L G Z cc nL own rt d) {u v : Int32} (hd : decode cc pc = .ok (.idiv, 1)) (hp : pc + 1 = pc2) (hne : ¬ v = 0) (k : Go L G Z nL ret pc2 lvs (.int (u / v) :: st) S x K) : Go L G Z nL ret pc lvs (.int v :: .int u :: st) S x K := by
  subst hp
  exact fun r S' ho H locs ls hl hP hS => lv_idiv X.1 X.2.1 hd hne (k r S' ho H locs ls hl hP hS)
theorem g_irem (pc2 : Nat) (X : Cx L G Z cc nL own rt d) {u v : Int32} (hd : decode cc pc = .ok (.irem, 1)) (hp : pc + 1 = pc2) (hne : ¬ v = 0) (k : Go L G Z nL ret pc2 lvs (.int (u - u / v * v) :: st) S x K) : Go L G Z nL ret pc lvs (.int v :: .int u :: st) S x K := by
  subst hp
  exact fun r S' ho H locs ls hl hP hS => lv_irem X.1 X.2.1 hd hne (k r S' ho H locs ls hl hP hS)
theorem g_ishl (pc2 : Nat) (X : Cx L G Z cc nL own rt d) {u v : Int32} (hd : decode cc pc = .ok (.ishl, 1)) (hp : pc + 1 = pc2) (k : Go L G Z nL ret pc2 lvs (.int (u <<< (v &&& 31)) :: st) S x K) : Go L G Z nL ret pc lvs (.int v :: .int u :: st) S x K := by
  subst hp
  exact fun r S' ho H locs ls hl hP hS => lv_ishl X.1 X.2.1 hd (k r S' ho H locs ls hl hP hS)
theorem g_ishr (pc2 : Nat) (X : Cx L G Z cc nL own rt d) {u v : Int32} (hd : decode cc pc = .ok (.ishr, 1)) (hp : pc + 1 = pc2) (k : Go L G Z nL ret pc2 lvs (.int (u >>> (v &&& 31)) :: st) S x K) : Go L G Z nL ret pc lvs (.int v :: .int u :: st) S x K := by
  subst hp
  exact fun r S' ho H locs ls hl hP hS => lv_ishr X.1 X.2.1 hd (k r S' ho H locs ls hl hP hS)
def ush (u v : Int32) : Int32 := (u.toUInt32 >>> (v.toUInt32 &&& Int32.toUInt32 31)).toInt32
theorem g_iushr (pc2 : Nat) (X : Cx L G Z cc nL own rt d) {u v : Int32} (hd : decode cc pc = .ok (.iushr, 1)) (hp : pc + 1 = pc2) (k : Go L G Z nL ret pc2 lvs (.int (ush u v) :: st) S x K) : Go L G Z nL ret pc lvs (.int v :: .int u :: st) S x K := by
  subst hp
  exact fun r S' ho H locs ls hl hP hS => lv_iushr X.1 X.2.1 hd rfl (k r S' ho H locs ls hl hP hS)
theorem g_ladd (pc2 : Nat) (X : Cx L G Z cc nL own rt d) {u v : Int64} (hd : decode cc pc = .ok (.ladd, 1)) (hp : pc + 1 = pc2) (k : Go L G Z nL ret pc2 lvs (.long (u + v) :: st) S x K) : Go L G Z nL ret pc lvs (.long v :: .long u :: st) S x K := by
  subst hp
  exact fun r S' ho H locs ls hl hP hS => lv_ladd X.1 X.2.1 hd (k r S' ho H locs ls hl hP hS)
theorem g_lsub (pc2 : Nat) (X : Cx L G Z cc nL own rt d) {u v : Int64} (hd : decode cc pc = .ok (.lsub, 1)) (hp : pc + 1 = pc2) (k : Go L G Z nL ret pc2 lvs (.long (u - v) :: st) S x K) : Go L G Z nL ret pc lvs (.long v :: .long u :: st) S x K := by
  subst hp
  exact fun r S' ho H locs ls hl hP hS => lv_lsub X.1 X.2.1 hd (k r S' ho H locs ls hl hP hS)
theorem g_lmul (pc2 : Nat) (X : Cx L G Z cc nL own rt d) {u v : Int64} (hd : decode cc pc = .ok (.lmul, 1)) (hp : pc + 1 = pc2) (k : Go L G Z nL ret pc2 lvs (.long (u * v) :: st) S x K) : Go L G Z nL ret pc lvs (.long v :: .long u :: st) S x K := by
  subst hp
  exact fun r S' ho H locs ls hl hP hS => lv_lmul X.1 X.2.1 hd (k r S' ho H locs ls hl hP hS)
theorem g_land (pc2 : Nat) (X : Cx L G Z cc nL own rt d) {u v : Int64} (hd : decode cc pc = .ok (.land, 1)) (hp : pc + 1 = pc2) (k : Go L G Z nL ret pc2 lvs (.long (u &&& v) :: st) S x K) : Go L G Z nL ret pc lvs (.long v :: .long u :: st) S x K := by
  subst hp
  exact fun r S' ho H locs ls hl hP hS => lv_land X.1 X.2.1 hd (k r S' ho H locs ls hl hP hS)
theorem g_lshl (pc2 : Nat) (X : Cx L G Z cc nL own rt d) {u : Int64} {v : Int32} (hd : decode cc pc = .ok (.lshl, 1)) (hp : pc + 1 = pc2) (k : Go L G Z nL ret pc2 lvs (.long (u <<< (v.toInt64 &&& 63)) :: st) S x K) : Go L G Z nL ret pc lvs (.int v :: .long u :: st) S x K := by
  subst hp
  exact fun r S' ho H locs ls hl hP hS => lv_lshl X.1 X.2.1 hd rfl (k r S' ho H locs ls hl hP hS)
theorem g_lshr (pc2 : Nat) (X : Cx L G Z cc nL own rt d) {u : Int64} {v : Int32} (hd : decode cc pc = .ok (.lshr, 1)) (hp : pc + 1 = pc2) (k : Go L G Z nL ret pc2 lvs (.long (u >>> (v.toInt64 &&& 63)) :: st) S x K) : Go L G Z nL ret pc lvs (.int v :: .long u :: st) S x K := by
  subst hp
  exact fun r S' ho H locs ls hl hP hS => lv_lshr X.1 X.2.1 hd rfl (k r S' ho H locs ls hl hP hS)
theorem g_i2l (pc2 : Nat) (X : Cx L G Z cc nL own rt d) {u : Int32} (hd : decode cc pc = .ok (.i2l, 1)) (hp : pc + 1 = pc2) (k : Go L G Z nL ret pc2 lvs (.long u.toInt64 :: st) S x K) : Go L G Z nL ret pc lvs (.int u :: st) S x K := by
  subst hp
  exact fun r S' ho H locs ls hl hP hS => lv_i2l X.1 X.2.1 hd rfl (k r S' ho H locs ls hl hP hS)
theorem g_i2b (pc2 : Nat) (X : Cx L G Z cc nL own rt d) {u : Int32} (hd : decode cc pc = .ok (.i2b, 1)) (hp : pc + 1 = pc2) (k : Go L G Z nL ret pc2 lvs (.int u.toInt8.toInt32 :: st) S x K) : Go L G Z nL ret pc lvs (.int u :: st) S x K := by
  subst hp
  exact fun r S' ho H locs ls hl hP hS => lv_i2b X.1 X.2.1 hd rfl (k r S' ho H locs ls hl hP hS)
theorem g_i2s (pc2 : Nat) (X : Cx L G Z cc nL own rt d) {u : Int32} (hd : decode cc pc = .ok (.i2s, 1)) (hp : pc + 1 = pc2) (k : Go L G Z nL ret pc2 lvs (.int u.toInt16.toInt32 :: st) S x K) : Go L G Z nL ret pc lvs (.int u :: st) S x K := by
  subst hp
  exact fun r S' ho H locs ls hl hP hS => lv_i2s X.1 X.2.1 hd rfl (k r S' ho H locs ls hl hP hS)
theorem g_lcmp (pc2 : Nat) (X : Cx L G Z cc nL own rt d) {u v : Int64} (hd : decode cc pc = .ok (.lcmp, 1)) (hp : pc + 1 = pc2) (k : Go L G Z nL ret pc2 lvs (.int (lg_cmp u v) :: st) S x K) : Go L G Z nL ret pc lvs (.long v :: .long u :: st) S x K := by
  subst hp
  exact fun r S' ho H locs ls hl hP hS => W.lcmp X.1 X.2.1 hd (k r S' ho H locs ls hl hP hS)
theorem g_dup (pc2 : Nat) (X : Cx L G Z cc nL own rt d) {v : Value} (hd : decode cc pc = .ok (.dup, 1)) (hp : pc + 1 = pc2) (hc : v.category = 1) (k : Go L G Z nL ret pc2 lvs (v :: v :: st) S x K) : Go L G Z nL ret pc lvs (v :: st) S x K := by
  subst hp
  exact fun r S' ho H locs ls hl hP hS => lv_dup X.1 X.2.1 hd hc (k r S' ho H locs ls hl hP hS)
theorem g_pop (pc2 : Nat) (X : Cx L G Z cc nL own rt d) {v : Value} (hd : decode cc pc = .ok (.pop, 1)) (hp : pc + 1 = pc2) (hc : v.category = 1) (k : Go L G Z nL ret pc2 lvs st S x K) : Go L G Z nL ret pc lvs (v :: st) S x K := by
  subst hp
  exact fun r S' ho H locs ls hl hP hS => lv_pop X.1 X.2.1 hd hc (k r S' ho H locs ls hl hP hS)
theorem g_dup2 (pc2 : Nat) (X : Cx L G Z cc nL own rt d) {u v : Value} (hd : decode cc pc = .ok (.dup2, 1)) (hp : pc + 1 = pc2) (hc : u.category = 1) (hc2 : v.category = 1) (k : Go L G Z nL ret pc2 lvs (u :: v :: u :: v :: st) S x K) : Go L G Z nL ret pc lvs (u :: v :: st) S x K := by
  subst hp
  exact fun r S' ho H locs ls hl hP hS => lv_dup2_11 X.1 X.2.1 hd hc hc2 (k r S' ho H locs ls hl hP hS)
theorem g_goto (pc2 : Nat) (X : Cx L G Z cc nL own rt d) {off : Int} (hd : decode cc pc = .ok (.goto off, 3)) (ht : (pc : Int) + off = (pc2 : Int)) (k : Go L G Z nL ret pc2 lvs st S x K) : Go L G Z nL ret pc lvs st S x K :=
  fun r S' ho H locs ls hl hP hS => lv_goto X.1 X.2.1 hd ht (k r S' ho H locs ls hl hP hS)
theorem bd_if {σ : Type} {c : Prop} [hc : Decidable c] {y z : Option (τ × Sg)} {f : τ → Sg → Option σ} : bd (if c then y else z) f = if c then bd y f else bd z f := by
  by_cases h : c
  · rw [if_pos h, if_pos h]
  · rw [if_neg h, if_neg h]
theorem g_if_eq (pc2 pc3 : Nat) (X : Cx L G Z cc nL own rt d) {u : Int32} {off : Int} {y z : Option (τ × Sg)} (hd : decode cc pc = .ok (.ifCond .eq off, 3)) (ht : (pc : Int) + off = (pc2 : Int)) (hp : pc + 3 = pc3) (k : u = 0 → Go L G Z nL ret pc2 lvs st S y K) (k' : ¬ (u = 0) → Go L G Z nL ret pc3 lvs st S z K) : Go L G Z nL ret pc lvs (.int u :: st) S (if u = 0 then y else z) K := by
  subst hp
  intro r S' ho H locs ls hl hP hS
  rw [bd_if] at ho
  refine lv_if_eq X.1 X.2.1 hd ht (fun h => ?_) (fun h => ?_)
  · exact k h r S' (by rw [if_pos h] at ho; exact ho) H locs ls hl hP hS
  · exact k' h r S' (by rw [if_neg h] at ho; exact ho) H locs ls hl hP hS
theorem g_icmp_eq (pc2 pc3 : Nat) (X : Cx L G Z cc nL own rt d) {u v : Int32} {off : Int} {y z : Option (τ × Sg)} (hd : decode cc pc = .ok (.if_icmp .eq off, 3)) (ht : (pc : Int) + off = (pc2 : Int)) (hp : pc + 3 = pc3) (k : u = v → Go L G Z nL ret pc2 lvs st S y K) (k' : ¬ (u = v) → Go L G Z nL ret pc3 lvs st S z K) : Go L G Z nL ret pc lvs (.int v :: .int u :: st) S (if u = v then y else z) K := by
  subst hp
  intro r S' ho H locs ls hl hP hS
  rw [bd_if] at ho
  refine lv_icmp_eq X.1 X.2.1 hd ht (fun h => ?_) (fun h => ?_)
  · exact k h r S' (by rw [if_pos h] at ho; exact ho) H locs ls hl hP hS
  · exact k' h r S' (by rw [if_neg h] at ho; exact ho) H locs ls hl hP hS
theorem g_if_ne (pc2 pc3 : Nat) (X : Cx L G Z cc nL own rt d) {u : Int32} {off : Int} {y z : Option (τ × Sg)} (hd : decode cc pc = .ok (.ifCond .ne off, 3)) (ht : (pc : Int) + off = (pc2 : Int)) (hp : pc + 3 = pc3) (k : ¬ (u = 0) → Go L G Z nL ret pc2 lvs st S z K) (k' : u = 0 → Go L G Z nL ret pc3 lvs st S y K) : Go L G Z nL ret pc lvs (.int u :: st) S (if u = 0 then y else z) K := by
  subst hp
  intro r S' ho H locs ls hl hP hS
  rw [bd_if] at ho
  refine lv_if_ne X.1 X.2.1 hd ht (fun h => ?_) (fun h => ?_)
  · exact k h r S' (by rw [if_neg h] at ho; exact ho) H locs ls hl hP hS
  · exact k' (Decidable.not_not.mp (fun q => absurd h q)) r S' (by rw [if_pos (Decidable.not_not.mp (fun q => absurd h q))] at ho; exact ho) H locs ls hl hP hS
theorem g_icmp_ne (pc2 pc3 : Nat) (X : Cx L G Z cc nL own rt d) {u v : Int32} {off : Int} {y z : Option (τ × Sg)} (hd : decode cc pc = .ok (.if_icmp .ne off, 3)) (ht : (pc : Int) + off = (pc2 : Int)) (hp : pc + 3 = pc3) (k : ¬ (u = v) → Go L G Z nL ret pc2 lvs st S z K) (k' : u = v → Go L G Z nL ret pc3 lvs st S y K) : Go L G Z nL ret pc lvs (.int v :: .int u :: st) S (if u = v then y else z) K := by
  subst hp
  intro r S' ho H locs ls hl hP hS
  rw [bd_if] at ho
  refine lv_icmp_ne X.1 X.2.1 hd ht (fun h => ?_) (fun h => ?_)
  · exact k h r S' (by rw [if_neg h] at ho; exact ho) H locs ls hl hP hS
  · exact k' (Decidable.not_not.mp (fun q => absurd h q)) r S' (by rw [if_pos (Decidable.not_not.mp (fun q => absurd h q))] at ho; exact ho) H locs ls hl hP hS
theorem g_if_lt (pc2 pc3 : Nat) (X : Cx L G Z cc nL own rt d) {u : Int32} {off : Int} {y z : Option (τ × Sg)} (hd : decode cc pc = .ok (.ifCond .lt off, 3)) (ht : (pc : Int) + off = (pc2 : Int)) (hp : pc + 3 = pc3) (k : u < 0 → Go L G Z nL ret pc2 lvs st S y K) (k' : ¬ (u < 0) → Go L G Z nL ret pc3 lvs st S z K) : Go L G Z nL ret pc lvs (.int u :: st) S (if u < 0 then y else z) K := by
  subst hp
  intro r S' ho H locs ls hl hP hS
  rw [bd_if] at ho
  refine lv_if_lt X.1 X.2.1 hd ht (fun h => ?_) (fun h => ?_)
  · exact k h r S' (by rw [if_pos h] at ho; exact ho) H locs ls hl hP hS
  · exact k' h r S' (by rw [if_neg h] at ho; exact ho) H locs ls hl hP hS
theorem g_icmp_lt (pc2 pc3 : Nat) (X : Cx L G Z cc nL own rt d) {u v : Int32} {off : Int} {y z : Option (τ × Sg)} (hd : decode cc pc = .ok (.if_icmp .lt off, 3)) (ht : (pc : Int) + off = (pc2 : Int)) (hp : pc + 3 = pc3) (k : u < v → Go L G Z nL ret pc2 lvs st S y K) (k' : ¬ (u < v) → Go L G Z nL ret pc3 lvs st S z K) : Go L G Z nL ret pc lvs (.int v :: .int u :: st) S (if u < v then y else z) K := by
  subst hp
  intro r S' ho H locs ls hl hP hS
  rw [bd_if] at ho
  refine lv_icmp_lt X.1 X.2.1 hd ht (fun h => ?_) (fun h => ?_)
  · exact k h r S' (by rw [if_pos h] at ho; exact ho) H locs ls hl hP hS
  · exact k' h r S' (by rw [if_neg h] at ho; exact ho) H locs ls hl hP hS
theorem g_if_ge (pc2 pc3 : Nat) (X : Cx L G Z cc nL own rt d) {u : Int32} {off : Int} {y z : Option (τ × Sg)} (hd : decode cc pc = .ok (.ifCond .ge off, 3)) (ht : (pc : Int) + off = (pc2 : Int)) (hp : pc + 3 = pc3) (k : 0 ≤ u → Go L G Z nL ret pc2 lvs st S y K) (k' : ¬ (0 ≤ u) → Go L G Z nL ret pc3 lvs st S z K) : Go L G Z nL ret pc lvs (.int u :: st) S (if 0 ≤ u then y else z) K := by
  subst hp
  intro r S' ho H locs ls hl hP hS
  rw [bd_if] at ho
  refine lv_if_ge X.1 X.2.1 hd ht (fun h => ?_) (fun h => ?_)
  · exact k h r S' (by rw [if_pos h] at ho; exact ho) H locs ls hl hP hS
  · exact k' h r S' (by rw [if_neg h] at ho; exact ho) H locs ls hl hP hS
theorem g_icmp_ge (pc2 pc3 : Nat) (X : Cx L G Z cc nL own rt d) {u v : Int32} {off : Int} {y z : Option (τ × Sg)} (hd : decode cc pc = .ok (.if_icmp .ge off, 3)) (ht : (pc : Int) + off = (pc2 : Int)) (hp : pc + 3 = pc3) (k : v ≤ u → Go L G Z nL ret pc2 lvs st S y K) (k' : ¬ (v ≤ u) → Go L G Z nL ret pc3 lvs st S z K) : Go L G Z nL ret pc lvs (.int v :: .int u :: st) S (if v ≤ u then y else z) K := by
  subst hp
  intro r S' ho H locs ls hl hP hS
  rw [bd_if] at ho
  refine lv_icmp_ge X.1 X.2.1 hd ht (fun h => ?_) (fun h => ?_)
  · exact k h r S' (by rw [if_pos h] at ho; exact ho) H locs ls hl hP hS
  · exact k' h r S' (by rw [if_neg h] at ho; exact ho) H locs ls hl hP hS
theorem g_if_gt (pc2 pc3 : Nat) (X : Cx L G Z cc nL own rt d) {u : Int32} {off : Int} {y z : Option (τ × Sg)} (hd : decode cc pc = .ok (.ifCond .gt off, 3)) (ht : (pc : Int) + off = (pc2 : Int)) (hp : pc + 3 = pc3) (k : 0 < u → Go L G Z nL ret pc2 lvs st S y K) (k' : ¬ (0 < u) → Go L G Z nL ret pc3 lvs st S z K) : Go L G Z nL ret pc lvs (.int u :: st) S (if 0 < u then y else z) K := by
  subst hp
  intro r S' ho H locs ls hl hP hS
  rw [bd_if] at ho
  refine lv_if_gt X.1 X.2.1 hd ht (fun h => ?_) (fun h => ?_)
  · exact k h r S' (by rw [if_pos h] at ho; exact ho) H locs ls hl hP hS
  · exact k' h r S' (by rw [if_neg h] at ho; exact ho) H locs ls hl hP hS
theorem g_icmp_gt (pc2 pc3 : Nat) (X : Cx L G Z cc nL own rt d) {u v : Int32} {off : Int} {y z : Option (τ × Sg)} (hd : decode cc pc = .ok (.if_icmp .gt off, 3)) (ht : (pc : Int) + off = (pc2 : Int)) (hp : pc + 3 = pc3) (k : v < u → Go L G Z nL ret pc2 lvs st S y K) (k' : ¬ (v < u) → Go L G Z nL ret pc3 lvs st S z K) : Go L G Z nL ret pc lvs (.int v :: .int u :: st) S (if v < u then y else z) K := by
  subst hp
  intro r S' ho H locs ls hl hP hS
  rw [bd_if] at ho
  refine lv_icmp_gt X.1 X.2.1 hd ht (fun h => ?_) (fun h => ?_)
  · exact k h r S' (by rw [if_pos h] at ho; exact ho) H locs ls hl hP hS
  · exact k' h r S' (by rw [if_neg h] at ho; exact ho) H locs ls hl hP hS
theorem g_if_le (pc2 pc3 : Nat) (X : Cx L G Z cc nL own rt d) {u : Int32} {off : Int} {y z : Option (τ × Sg)} (hd : decode cc pc = .ok (.ifCond .le off, 3)) (ht : (pc : Int) + off = (pc2 : Int)) (hp : pc + 3 = pc3) (k : u ≤ 0 → Go L G Z nL ret pc2 lvs st S y K) (k' : ¬ (u ≤ 0) → Go L G Z nL ret pc3 lvs st S z K) : Go L G Z nL ret pc lvs (.int u :: st) S (if u ≤ 0 then y else z) K := by
  subst hp
  intro r S' ho H locs ls hl hP hS
  rw [bd_if] at ho
  refine lv_if_le X.1 X.2.1 hd ht (fun h => ?_) (fun h => ?_)
  · exact k h r S' (by rw [if_pos h] at ho; exact ho) H locs ls hl hP hS
  · exact k' h r S' (by rw [if_neg h] at ho; exact ho) H locs ls hl hP hS
theorem g_icmp_le (pc2 pc3 : Nat) (X : Cx L G Z cc nL own rt d) {u v : Int32} {off : Int} {y z : Option (τ × Sg)} (hd : decode cc pc = .ok (.if_icmp .le off, 3)) (ht : (pc : Int) + off = (pc2 : Int)) (hp : pc + 3 = pc3) (k : u ≤ v → Go L G Z nL ret pc2 lvs st S y K) (k' : ¬ (u ≤ v) → Go L G Z nL ret pc3 lvs st S z K) : Go L G Z nL ret pc lvs (.int v :: .int u :: st) S (if u ≤ v then y else z) K := by
  subst hp
  intro r S' ho H locs ls hl hP hS
  rw [bd_if] at ho
  refine lv_icmp_le X.1 X.2.1 hd ht (fun h => ?_) (fun h => ?_)
  · exact k h r S' (by rw [if_pos h] at ho; exact ho) H locs ls hl hP hS
  · exact k' h r S' (by rw [if_neg h] at ho; exact ho) H locs ls hl hP hS
theorem bd_gd {σ : Type} {b : Bool} {y : Option (τ × Sg)} {f : τ → Sg → Option σ} {r : σ} (h : bd (gd b y) f = some r) : b = true ∧ bd y f = some r := by
  cases b with
  | false => simp [gd, bd] at h
  | true => exact ⟨rfl, h⟩
theorem g_gd {b : Bool} {y : Option (τ × Sg)} (k : b = true → Go L G Z nL ret pc lvs st S y K) : Go L G Z nL ret pc lvs st S (gd b y) K :=
  fun r S' ho => k (bd_gd ho).1 r S' (bd_gd ho).2
theorem g_ldiv (pc2 : Nat) (X : Cx L G Z cc nL own rt d) {u v : Int64} {y : Option (τ × Sg)} (hd : decode cc pc = .ok (.ldiv, 1)) (hp : pc + 1 = pc2) (k : Go L G Z nL ret pc2 lvs (.long (u / v) :: st) S y K) : Go L G Z nL ret pc lvs (.long v :: .long u :: st) S (gd (!(v == 0)) y) K := by
  subst hp
  refine g_gd (fun hg => ?_)
  exact fun r S' ho H locs ls hl hP hS => lv_ldiv X.1 X.2.1 hd (by simpa using hg) (k r S' ho H locs ls hl hP hS)
theorem g_lrem (pc2 : Nat) (X : Cx L G Z cc nL own rt d) {u v : Int64} {y : Option (τ × Sg)} (hd : decode cc pc = .ok (.lrem, 1)) (hp : pc + 1 = pc2) (k : Go L G Z nL ret pc2 lvs (.long (u - u / v * v) :: st) S y K) : Go L G Z nL ret pc lvs (.long v :: .long u :: st) S (gd (!(v == 0)) y) K := by
  subst hp
  refine g_gd (fun hg => ?_)
  exact fun r S' ho H locs ls hl hP hS => lv_lrem X.1 X.2.1 hd (by simpa using hg) (k r S' ho H locs ls hl hP hS)
/-- fields: what a link of a class's file is -/
def FL (own : String) (idx ci k : Nat) : Prop := ∃ (C : String) (T : u_T) (N : Nat), vwCl[ci]? = some (C, T, N) ∧ k < N ∧ (∀ w ∈ u_ws C T N, w ∈ tbG) ∧ (Cond.fieldLink own idx (T k).1 (T k).2.1 (T k).2.2.1 ∈ tbG ∨ ∃ host : String, Cond.fieldLinkNest own idx (T k).1 (T k).2.1 (T k).2.2.1 host ∈ tbG)
def FP (ci k : Nat) (ty : FieldType) : Prop := ∃ (C : String) (T : u_T) (N : Nat) (ty0 : Nat → FieldType), vwCl[ci]? = some (C, T, N) ∧ (∀ k, k < N → parseFieldDescriptor (T k).2.2.1 = some (ty0 k)) ∧ (∀ a, a < N → ∀ b, b < N → a ≠ b → (T a).2.1 ≠ (T b).2.1) ∧ (T k).2.2.2 = false ∧ parseFieldDescriptor (T k).2.2.1 = some ty
theorem g_get (pc2 : Nat) (X : Cx L G Z cc nL own rt d) {i ci k idx : Nat} {ks : List Nat} {v : Value} (hs : L[i]? = some (.inr (ci, ks))) (fl : FL own idx ci k) (hv : (ks.mapIdx (fv G S i))[k]? = some v) (hd : decode cc pc = .ok (.getfield idx, 3)) (hp : pc + 3 = pc2) (kk : Go L G Z nL ret pc2 lvs (v :: st) S x K) : Go L G Z nL ret pc lvs (.ref (G.2.1 i) :: st) S x K := by
  subst hp
  obtain ⟨C, T, N, hc, hk, hin, hlk⟩ := fl
  intro r S' ho H locs ls hl hP hS
  obtain ⟨hx, hb, hml, hown, hts, hK, -⟩ := X
  rcases hlk with hlk | ⟨host, hlk⟩
  · exact va_get hx hb hts hin hown hK hP i (wl_at hs) hc k hk (hts _ hlk) (fun _ h9 => h9) hv hd (kk r S' ho H locs ls hl hP hS)
  · exact va_getN hx hb hts hin hown hK hP i (wl_at hs) hc k hk (hts _ hlk) (fun _ h9 => h9) hv hd (kk r S' ho H locs ls hl hP hS)
theorem g_geti (pc2 : Nat) (X : Cx L G Z cc nL own rt d) {i ci k idx : Nat} {ks : List Nat} (hs : L[i]? = some (.inr (ci, ks))) (fl : FL own idx ci k) (hk : ks[k]? = some 0) (hd : decode cc pc = .ok (.getfield idx, 3)) (hp : pc + 3 = pc2) (kk : Go L G Z nL ret pc2 lvs (.int (S.1 i k) :: st) S x K) : Go L G Z nL ret pc lvs (.ref (G.2.1 i) :: st) S x K :=
  g_get pc2 X hs fl (by simp [List.getElem?_mapIdx, hk, fv]) hd hp kk
theorem g_getl (pc2 : Nat) (X : Cx L G Z cc nL own rt d) {i ci k idx : Nat} {ks : List Nat} (hs : L[i]? = some (.inr (ci, ks))) (fl : FL own idx ci k) (hk : ks[k]? = some 1) (hd : decode cc pc = .ok (.getfield idx, 3)) (hp : pc + 3 = pc2) (kk : Go L G Z nL ret pc2 lvs (.long (S.2 i k) :: st) S x K) : Go L G Z nL ret pc lvs (.ref (G.2.1 i) :: st) S x K :=
  g_get pc2 X hs fl (by simp [List.getElem?_mapIdx, hk, fv]) hd hp kk
theorem g_getr (pc2 : Nat) (X : Cx L G Z cc nL own rt d) {i ci k idx : Nat} {ks : List Nat} (j : Nat) (hs : L[i]? = some (.inr (ci, ks))) (fl : FL own idx ci k) (hk : ks[k]? = some (j + 2)) (hd : decode cc pc = .ok (.getfield idx, 3)) (hp : pc + 3 = pc2) (kk : Go L G Z nL ret pc2 lvs (.ref (G.2.1 j) :: st) S x K) : Go L G Z nL ret pc lvs (.ref (G.2.1 i) :: st) S x K :=
  g_get pc2 X hs fl (by simp [List.getElem?_mapIdx, hk, fv]) hd hp kk
theorem g_put (pc2 : Nat) (X : Cx L G Z cc nL own rt d) {i ci k idx : Nat} {ks : List Nat} {v : Value} {ty : FieldType} {S1 : Sg} (hs : L[i]? = some (.inr (ci, ks))) (fl : FL own idx ci k) (fp : FP ci k ty) (hk : k < ks.length) (hn : narrow ty v = v) (hfit : fits ty v = true) (hset : (wl L G S).set i (G.2.1 i, .inr (ci, (ks.mapIdx (fv G S i)).set k v)) = wl L G S1) (hd : decode cc pc = .ok (.putfield idx, 3)) (hp : pc + 3 = pc2) (kk : Go L G Z nL ret pc2 lvs st S1 x K) : Go L G Z nL ret pc lvs (v :: .ref (G.2.1 i) :: st) S x K := by
  subst hp
  obtain ⟨C, T, N, hc, hkN, hin, hlk⟩ := fl
  obtain ⟨C', T', N', ty0, hc', hty, hnm, hfin, hty1⟩ := fp
  cases hc.symm.trans hc'
  intro r S' ho H locs ls hl hP hS
  obtain ⟨hx, hb, hml, hown, hts, hK, hlk9, hrt9, hj, -⟩ := X
  rcases hlk with hlk | ⟨host, hlk⟩
  · refine va_put hx hb hts hin ty0 hty hnm hown hK hP (wl_D hj S) hS i (wl_at hs) hc k hkN (hts _ hlk) (fun _ h9 => h9) hfin hty1 hn hfit (by simpa using hk) hd (fun H1 locs1 hP1 _ hS1 => ?_)
    rw [hset] at hP1
    exact kk r S' ho H1 locs1 ls hl hP1 hS1
  · refine va_putN hx hb hts hin ty0 hty hnm hown hK hP (wl_D hj S) hS i (wl_at hs) hc k hkN (hts _ hlk) (fun _ h9 => h9) hfin hty1 hn hfit (by simpa using hk) hd (fun H1 locs1 hP1 _ hS1 => ?_)
    rw [hset] at hP1
    exact kk r S' ho H1 locs1 ls hl hP1 hS1
theorem g_puti (pc2 : Nat) (X : Cx L G Z cc nL own rt d) {i ci k idx : Nat} {ks : List Nat} {v : Int32} (hs : L[i]? = some (.inr (ci, ks))) (fl : FL own idx ci k) (fp : FP ci k .int) (hk : ks[k]? = some 0) (hd : decode cc pc = .ok (.putfield idx, 3)) (hp : pc + 3 = pc2) (kk : Go L G Z nL ret pc2 lvs st (sI S i k v) x K) : Go L G Z nL ret pc lvs (.int v :: .ref (G.2.1 i) :: st) S x K :=
  g_put pc2 X hs fl fp (List.getElem?_eq_some_iff.mp hk).1 (vp_nar_int v) rfl (wl_set hs (by simp only [ce]; rw [fs_I hk]) (fun j sh' h => ce_I j sh' h)) hd hp kk
theorem g_putz (pc2 : Nat) (X : Cx L G Z cc nL own rt d) {i ci k idx : Nat} {ks : List Nat} {v : Int32} (hs : L[i]? = some (.inr (ci, ks))) (fl : FL own idx ci k) (fp : FP ci k .boolean) (hk : ks[k]? = some 0) (hz : zb v = true) (hd : decode cc pc = .ok (.putfield idx, 3)) (hp : pc + 3 = pc2) (kk : Go L G Z nL ret pc2 lvs st (sI S i k v) x K) : Go L G Z nL ret pc lvs (.int v :: .ref (G.2.1 i) :: st) S x K :=
  g_put pc2 X hs fl fp (List.getElem?_eq_some_iff.mp hk).1 (zb_nar hz) (by
    simp only [zb, Bool.or_eq_true, beq_iff_eq] at hz
    rcases hz with rfl | rfl <;> rfl) (wl_set hs (by simp only [ce]; rw [fs_I hk]) (fun j sh' h => ce_I j sh' h)) hd hp kk
theorem g_putl (pc2 : Nat) (X : Cx L G Z cc nL own rt d) {i ci k idx : Nat} {ks : List Nat} {v : Int64} (hs : L[i]? = some (.inr (ci, ks))) (fl : FL own idx ci k) (fp : FP ci k .long) (hk : ks[k]? = some 1) (hd : decode cc pc = .ok (.putfield idx, 3)) (hp : pc + 3 = pc2) (kk : Go L G Z nL ret pc2 lvs st (sL S i k v) x K) : Go L G Z nL ret pc lvs (.long v :: .ref (G.2.1 i) :: st) S x K :=
  g_put pc2 X hs fl fp (List.getElem?_eq_some_iff.mp hk).1 rfl rfl (wl_set hs (by simp only [ce]; rw [fs_L hk]) (fun j sh' h => ce_L j sh' h)) hd hp kk
/-- arrays -/
theorem g_iald (pc2 : Nat) (X : Cx L G Z cc nL own rt d) {a n : Nat} {i : Int32} {y : Option (τ × Sg)} (hs : L[a]? = some (.inl (0, n))) (hd : decode cc pc = .ok (.iaload, 1)) (hp : pc + 1 = pc2) (kk : Go L G Z nL ret pc2 lvs (.int (S.1 a i.toNatClampNeg) :: st) S y K) : Go L G Z nL ret pc lvs (.int i :: .ref (G.2.1 a) :: st) S (gd (ix i n) y) K := by
  subst hp
  refine g_gd (fun hg => ?_)
  intro r S' ho H locs ls hl hP hS
  obtain ⟨hx, hb, hml, hown, hts, hK, -⟩ := X
  exact va_iald hx hb hK hP a 0 (wl_at hs) rfl (ix_in hg) hd (kk r S' ho H locs ls hl hP hS)
theorem g_zald (pc2 : Nat) (X : Cx L G Z cc nL own rt d) {a n : Nat} {i : Int32} {y : Option (τ × Sg)} (hs : L[a]? = some (.inl (1, n))) (hd : decode cc pc = .ok (.baload, 1)) (hp : pc + 1 = pc2) (kk : Go L G Z nL ret pc2 lvs (.int (S.1 a i.toNatClampNeg) :: st) S y K) : Go L G Z nL ret pc lvs (.int i :: .ref (G.2.1 a) :: st) S (gd (ix i n) y) K := by
  subst hp
  refine g_gd (fun hg => ?_)
  intro r S' ho H locs ls hl hP hS
  obtain ⟨hx, hb, hml, hown, hts, hK, -⟩ := X
  exact va_zald hx hb hK hP a 1 (wl_at hs) rfl (ix_in hg) hd (kk r S' ho H locs ls hl hP hS)
theorem g_aald (pc2 : Nat) (X : Cx L G Z cc nL own rt d) {a n b : Nat} {i : Int32} {y : Option (τ × Sg)} (hs : L[a]? = some (.inl (b + 2, n))) (hd : decode cc pc = .ok (.aaload, 1)) (hp : pc + 1 = pc2) (kk : Go L G Z nL ret pc2 lvs (.ref (G.2.1 (b + 2 * i.toNatClampNeg)) :: st) S y K) : Go L G Z nL ret pc lvs (.int i :: .ref (G.2.1 a) :: st) S (gd (ix i n) y) K := by
  subst hp
  refine g_gd (fun hg => ?_)
  intro r S' ho H locs ls hl hP hS
  obtain ⟨hx, hb, hml, hown, hts, hK, -⟩ := X
  exact va_aldq hx hb hK hP a 2 (wl_at hs) rfl (ix_in hg) hd (kk r S' ho H locs ls hl hP hS)
theorem g_iast (pc2 : Nat) (X : Cx L G Z cc nL own rt d) {a n : Nat} {i v : Int32} {y : Option (τ × Sg)} (hs : L[a]? = some (.inl (0, n))) (hd : decode cc pc = .ok (.iastore, 1)) (hp : pc + 1 = pc2) (kk : Go L G Z nL ret pc2 lvs st (sI S a i.toNatClampNeg v) y K) : Go L G Z nL ret pc lvs (.int v :: .int i :: .ref (G.2.1 a) :: st) S (gd (ix i n) y) K := by
  subst hp
  refine g_gd (fun hg => ?_)
  intro r S' ho H locs ls hl hP hS
  obtain ⟨hx, hb, hml, hown, hts, hK, hlk9, hrt9, hj, -⟩ := X
  refine va_iast hx hb hK hP (wl_D hj S) hS a 0 (wl_at hs) rfl (ix_in hg) hd (fun H1 locs1 hP1 _ hS1 => ?_)
  rw [wl_set (S' := sI S a i.toNatClampNeg v) hs (by simp only [ce]; rw [row_I]) (fun j sh' h => ce_I j sh' h)] at hP1
  exact kk r S' ho H1 locs1 ls hl hP1 hS1
theorem g_zast (pc2 : Nat) (X : Cx L G Z cc nL own rt d) {a n : Nat} {i v : Int32} {y : Option (τ × Sg)} (hs : L[a]? = some (.inl (1, n))) (hz : vp_nar .boolean v = v) (hd : decode cc pc = .ok (.bastore, 1)) (hp : pc + 1 = pc2) (kk : Go L G Z nL ret pc2 lvs st (sI S a i.toNatClampNeg v) y K) : Go L G Z nL ret pc lvs (.int v :: .int i :: .ref (G.2.1 a) :: st) S (gd (ix i n) y) K := by
  subst hp
  refine g_gd (fun hg => ?_)
  intro r S' ho H locs ls hl hP hS
  obtain ⟨hx, hb, hml, hown, hts, hK, hlk9, hrt9, hj, -⟩ := X
  refine va_zast hx hb hK hP (wl_D hj S) hS a 1 (wl_at hs) rfl (ix_in hg) hd (fun H1 locs1 hP1 _ hS1 => ?_)
  rw [hz] at hP1
  rw [wl_set (S' := sI S a i.toNatClampNeg v) hs (by simp only [ce]; rw [row_I]) (fun j sh' h => ce_I j sh' h)] at hP1
  exact kk r S' ho H1 locs1 ls hl hP1 hS1
theorem g_alen (pc2 : Nat) (X : Cx L G Z cc nL own rt d) {a n : Nat} {v : Int32} (hs : L[a]? = some (.inl (0, n))) (hv : Int32.ofNat n = v) (hd : decode cc pc = .ok (.arraylength, 1)) (hp : pc + 1 = pc2) (kk : Go L G Z nL ret pc2 lvs (.int v :: st) S x K) : Go L G Z nL ret pc lvs (.ref (G.2.1 a) :: st) S x K := by
  subst hp
  intro r S' ho H locs ls hl hP hS
  obtain ⟨hx, hb, hml, hown, hts, hK, -⟩ := X
  exact va_alen hx hb hK hP a 0 (wl_at hs) (ty := .int) rfl hv hd (kk r S' ho H locs ls hl hP hS)
def cpok (sp dp n : Int32) (n0 n1 : Nat) : Bool := decide (0 ≤ sp) && decide (0 ≤ dp) && decide (0 ≤ n) && decide (sp.toNatClampNeg + n.toNatClampNeg ≤ n0) && decide (dp.toNatClampNeg + n.toNatClampNeg ≤ n1)
theorem i32_nlt {u : Int32} (h : 0 ≤ u) : ¬ u < 0 := by
  intro q
  have h1 := Int32.le_iff_toInt_le.mp h
  have h2 := Int32.lt_iff_toInt_lt.mp q
  omega
theorem g_copy (pc2 : Nat) (X : Cx L G Z cc nL own rt (d + 1)) {idx a b n0 n1 : Nat} {sp dp n : Int32} {y : Option (τ × Sg)} (hs0 : L[a]? = some (.inl (0, n0))) (hs1 : L[b]? = some (.inl (0, n1))) (hlk : Cond.methodLink own idx arraycopyName ∈ tbG) (hnat : Cond.native arraycopyName ∈ tbG) (hstat : Cond.static arraycopyName ∈ tbG) (hini : Cond.initialized "java/lang/System" ∈ tbG) (hst : (st.map fun v => v.category).sum ≤ 8) (hd : decode cc pc = .ok (.invokestatic idx, 3)) (hp : pc + 3 = pc2) (kk : Go L G Z nL ret pc2 lvs st (sC S b (va_cpy (S.1 a) (S.1 b) sp.toNatClampNeg dp.toNatClampNeg n.toNatClampNeg)) y K) : Go L G Z nL ret pc lvs (.int n :: .int dp :: .ref (G.2.1 b) :: .int sp :: .ref (G.2.1 a) :: st) S (gd (cpok sp dp n n0 n1) y) K := by
  subst hp
  refine g_gd (fun hg => ?_)
  simp only [cpok, Bool.and_eq_true, decide_eq_true_eq] at hg
  obtain ⟨⟨⟨⟨g1, g2⟩, g3⟩, g4⟩, g5⟩ := hg
  intro r S' ho H locs ls hl hP hS
  obtain ⟨hx, hb, hml, hown, hts, hK, hlk9, hrt9, hj, hR⟩ := X
  refine va_copyi hx hb (hml.trans hl.1.symm) hown (hts _ hlk) (hts _ hnat) (hts _ hstat) (hts _ hini) hK hP (wl_D hj S) hS a b 0 0 (ty := .int) (wl_at hs0) (wl_at hs1) rfl rfl rfl (i32_nlt g1) (i32_nlt g2) (i32_nlt g3) g4 g5 (fun _ _ => rfl) ?_ ?_ hd (fun H1 locs1 hP1 _ hS1 => ?_)
  · rw [hR]; exact Nat.le_add_left 1 d
  · rw [hR]
    have h9 : nativeFrameWords "java/lang/System" "arraycopy" 5 + 11 ≤ 30 := by decide +kernel
    have h8 : (rmD (d + 1)).locals = 40 * (d + 1) := rfl
    omega
  · rw [wl_set (S' := sC S b (va_cpy (S.1 a) (S.1 b) sp.toNatClampNeg dp.toNatClampNeg n.toNatClampNeg)) hs1 (by simp only [ce]; rw [row_C]) (fun j sh' h => ce_C j sh' h)] at hP1
    exact kk r S' ho H1 locs1 ls hl hP1 hS1
/-- returns -/
theorem g_iret (X : Cx L G Z cc nL own (some .int) d) {K : τ → Sg → Option (Int32 × Sg)} {t : τ} {v : Int32} (hd : decode cc pc = .ok (.ireturn, 1)) (hK0 : K t S = some (v, S)) : Go L G Z nL rI pc lvs [.int v] S (some (t, S)) K := by
  intro r S' ho H locs ls hl hP hS
  obtain ⟨hx, hb, hml, hown, hts, hK, hlk, hrt, hj, hR⟩ := X
  have e1 : K t S = some (r, S') := ho
  cases hK0.symm.trans e1
  exact W.iret hx hb hrt (fun t ht hW => ⟨⟨rfl, by rw [ht]; exact hP, va_K.moved hW.alike hK⟩, hS.F ht⟩) hS.2.2 hd hlk
theorem g_zret (X : Cx L G Z cc nL own (some .boolean) d) {K : τ → Sg → Option (Int32 × Sg)} {t : τ} {v : Int32} (hd : decode cc pc = .ok (.ireturn, 1)) (hz : zb v = true) (hK0 : K t S = some (v, S)) : Go L G Z nL rI pc lvs [.int v] S (some (t, S)) K := by
  intro r S' ho H locs ls hl hP hS
  obtain ⟨hx, hb, hml, hown, hts, hK, hlk, hrt, hj, hR⟩ := X
  have e1 : K t S = some (r, S') := ho
  cases hK0.symm.trans e1
  exact W.zret hx hb hrt (zb_nar hz) (fun t ht hW => ⟨⟨rfl, by rw [ht]; exact hP, va_K.moved hW.alike hK⟩, hS.F ht⟩) hS.2.2 hd hlk
theorem g_lret (X : Cx L G Z cc nL own (some .long) d) {K : τ → Sg → Option (Int64 × Sg)} {t : τ} {v : Int64} (hd : decode cc pc = .ok (.lreturn, 1)) (hK0 : K t S = some (v, S)) : Go L G Z nL rL pc lvs [.long v] S (some (t, S)) K := by
  intro r S' ho H locs ls hl hP hS
  obtain ⟨hx, hb, hml, hown, hts, hK, hlk, hrt, hj, hR⟩ := X
  have e1 : K t S = some (r, S') := ho
  cases hK0.symm.trans e1
  exact W.lret hx hb hrt (fun t ht hW => ⟨⟨rfl, by rw [ht]; exact hP, va_K.moved hW.alike hK⟩, hS.F ht⟩) hS.2.2 hd hlk
theorem g_vret (X : Cx L G Z cc nL own none d) {K : τ → Sg → Option (Unit × Sg)} {t : τ} (hd : decode cc pc = .ok (.return_, 1)) (hK0 : K t S = some ((), S)) : Go L G Z nL rV pc lvs [] S (some (t, S)) K := by
  intro r S' ho H locs ls hl hP hS
  obtain ⟨hx, hb, hml, hown, hts, hK, hlk, hrt, hj, hR⟩ := X
  have e1 : K t S = some (r, S') := ho
  cases hK0.symm.trans e1
  exact W.vret hx hb hrt (fun t ht hW => ⟨⟨rfl, by rw [ht]; exact hP, va_K.moved hW.alike hK⟩, hS.F ht⟩) hS.2.2 hd hlk
theorem g_aret {C : String} (X : Cx L G Z cc nL own (some (.object C)) d) {K : τ → Sg → Option (Nat × Sg)} {t : τ} {v : Nat} (hd : decode cc pc = .ok (.areturn, 1)) (hK0 : K t S = some (v, S)) : Go L G Z nL (rR G) pc lvs [.ref (G.2.1 v)] S (some (t, S)) K := by
  intro r S' ho H locs ls hl hP hS
  obtain ⟨hx, hb, hml, hown, hts, hK, hlk, hrt, hj, hR⟩ := X
  have e1 : K t S = some (r, S') := ho
  cases hK0.symm.trans e1
  exact W.aret hx hb hrt (Or.inl ⟨C, rfl⟩) (Or.inr ⟨_, rfl⟩) (fun t ht hW => ⟨⟨rfl, by rw [ht]; exact hP, va_K.moved hW.alike hK⟩, hS.F ht⟩) hS.2.2 hd hlk
/-- calls -/
def MF (y : MethodName) (b : ByteArray) (n : Nat) (r : Option FieldType) (np : Nat) : Prop := Cond.code y b n r ∈ tbG ∧ Cond.initialized y.cls ∈ tbG ∧ (y.cls ≠ "java/lang/invoke/MethodHandle" ∧ y.cls ≠ "java/lang/invoke/VarHandle" ∧ (parseMethodDescriptor y.desc).map (fun d => d.parameters.length) = some np) ∧ n ≤ 21
theorem blindG {av : List Value} : FrameBlind (va_Pc av (fun U => Wd L G S U ∧ Ij L G)) := by
  intro a U g mk q
  obtain ⟨q0, ⟨qP, qK⟩, qj⟩ := q
  exact ⟨q0, ⟨qP, va_K.moved (u := U) (U := U.calling g mk a) (Vm.Alike.refl U.vm) qK⟩, qj⟩
theorem run_go {ρ' : Type} {ret' : ρ' → Option Value} {o1 : Option (ρ' × Sg)} {f : ρ' → Sg → Option (τ × Sg)} {stk rest : List Value} {a : Array Value}
    (hr : ∀ (r1 : ρ') (S1 : Sg), o1 = some (r1, S1) → ∀ (H : Heap) (locs : List Loc) (ls : Array Slot), lv_has ls nL lvs → va_P G.1 vwCl (wl L G S) H → va_Run Z.1 Z.2.1 Z.2.2.1 Z.2.2.2.1 Z.2.2.2.2.1 Z.2.2.2.2.2.1 Z.2.2.2.2.2.2.1 Z.2.2.2.2.2.2.2.1 Z.2.2.2.2.2.2.2.2.1 Z.2.2.2.2.2.2.2.2.2 H locs 0 0 0 0 (F0 Z.2.2.2.2.2.1 pc ls stk) rest (Qz L G ret' r1 S1 a) (Ar L G))
    (k : ∀ (r1 : ρ') (S1 : Sg), Go L G Z nL ret (pc + 3) lvs ((ret' r1).toList ++ rest) S1 (f r1 S1) K) : Go L G Z nL ret pc lvs stk S (bd o1 f) K := by
  intro r S' ho H locs ls hl hP hS
  cases o1 with
  | none => cases ho
  | some q =>
    obtain ⟨r1, S1⟩ := q
    intro T hT X
    obtain ⟨v, st₀, t, T', L', h0, X', hL, e1, e2, ⟨⟨hv, hP1, hK1⟩, hz, hk⟩, stp⟩ := hr r1 S1 rfl H locs ls hl hP T hT X
    cases hv
    rw [h0] at hz hk
    rw [← e1] at hz hk hP1
    obtain ⟨t2, a1, b1⟩ := k r1 S1 r S' ho T'.heap (locs ++ L') ls hl hP1
      ⟨Nat.le_trans hS.1 hz, fun q h1 h2 => (hk q (Nat.lt_of_lt_of_le h1 hS.1) h2).trans (hS.2.1 q h1 h2), fun q hq => by
        rcases List.mem_append.mp hq with h | h
        · exact hS.2.2 q h
        · exact hL q h⟩ T' rfl X'
    exact ⟨t2, stp t2 a1, b1⟩
theorem g_callV {ρ' : Type} {ret' : ρ' → Option Value} {y : MethodName} {b : ByteArray} {n : Nat} {rt' : Option FieldType} {o1 : Option (ρ' × Sg)} {f : ρ' → Sg → Option (τ × Sg)} {As rest : List Value} {i ci idx : Nat} {ks : List Nat} {q : vw_C} (X : Cx L G Z cc nL own rt (d + 1)) (hM : Ct L G Z.2.1 ret' y b n rt' d (.ref (G.2.1 i) :: As) S o1) (mf : MF y b n rt' As.length) (hin : Cond.instanceMethod y ∈ tbG ∧ Cond.selects y.cls y y ∈ tbG) (hlk : Cond.methodLink own idx y ∈ tbG) (hs : L[i]? = some (.inr (ci, ks))) (hc : vwCl[ci]? = some q) (hq : q.1 = y.cls) (hst : (rest.map fun v => v.category).sum ≤ 8) (hd : decode cc pc = .ok (.invokevirtual idx, 3))
    (k : ∀ (r1 : ρ') (S1 : Sg), Go L G Z nL ret (pc + 3) lvs ((ret' r1).toList ++ rest) S1 (f r1 S1) K) : Go L G Z nL ret pc lvs (As.reverse ++ .ref (G.2.1 i) :: rest) S (bd o1 f) K := by
  refine run_go (a := (Value.ref (G.2.1 i) :: As).toArray) (fun r1 S1 ho H locs ls hl hP => ?_) k
  obtain ⟨hx, hb, hml, hown, hts, hK, hlk9, hrt9, hj, hR⟩ := X
  refine va_runV (As := As) (rest := rest) (C := y.cls) ⟨hx, hb, hml, hown, hts⟩ (hM r1 S1 ho) ⟨callB_of As.length (Ts := tbG) (ws' := tbG) hts (fun w hw => ?_) rfl rfl rfl (hts _ mf.2.1) (hts _ hlk) mf.2.2.1 ?_, hts _ hin.1, hts _ hin.2⟩ ⟨blindG, ?_, fun U hU hW => ⟨rfl, ⟨by rw [hU]; exact hP, va_K.moved hW.alike hK⟩, hj⟩⟩ rfl rfl hl.1 rfl (lv_room hst) hd ⟨by rw [hR]; exact Nat.le_refl _, by rw [hR]; exact Nat.le_refl _⟩
  · have hm : w ∈ tbG := by
      rcases List.mem_cons.mp hw with rfl | h1
      · exact mf.1
      · exact h1
    exact ⟨hm, good_of_word (tb_good hm)⟩
  · rw [hR]
    have h1 := mf.2.2.2
    exact ⟨Nat.le_refl _, by show 8 + (n + 11) + 40 * d ≤ 40 * (d + 1); omega⟩
  · rw [← hq]
    exact va_recv hK hP hc (wl_at hs)
theorem g_callS {ρ' : Type} {ret' : ρ' → Option Value} {y : MethodName} {b : ByteArray} {n : Nat} {rt' : Option FieldType} {o1 : Option (ρ' × Sg)} {f : ρ' → Sg → Option (τ × Sg)} {As rest : List Value} {idx : Nat} (X : Cx L G Z cc nL own rt (d + 1)) (hM : Ct L G Z.2.1 ret' y b n rt' d As S o1) (mf : MF y b n rt' As.length) (hin : Cond.static y ∈ tbG) (hlk : Cond.methodLink own idx y ∈ tbG ∨ ∃ host, Cond.methodLinkNest own idx y host ∈ tbG) (hst : (rest.map fun v => v.category).sum ≤ 8) (hd : decode cc pc = .ok (.invokestatic idx, 3))
    (k : ∀ (r1 : ρ') (S1 : Sg), Go L G Z nL ret (pc + 3) lvs ((ret' r1).toList ++ rest) S1 (f r1 S1) K) : Go L G Z nL ret pc lvs (As.reverse ++ rest) S (bd o1 f) K := by
  refine run_go (a := As.toArray) (fun r1 S1 ho H locs ls hl hP => ?_) k
  obtain ⟨hx, hb, hml, hown, hts, hK, hlk9, hrt9, hj, hR⟩ := X
  have hG : GoodIn tbG (wsG y b n rt') := fun w hw => by
    have hm : w ∈ tbG := by
      rcases List.mem_cons.mp hw with rfl | h1
      · exact mf.1
      · exact h1
    exact ⟨hm, good_of_word (tb_good hm)⟩
  have hRR : (rmD d).frames + 1 ≤ Z.2.2.2.1.frames ∧ 8 + (n + 11) + (rmD d).locals ≤ Z.2.2.2.1.locals := by
    rw [hR]
    have h1 := mf.2.2.2
    exact ⟨Nat.le_refl _, by show 8 + (n + 11) + 40 * d ≤ 40 * (d + 1); omega⟩
  rcases hlk with hlk | ⟨host, hlk⟩
  · exact va_runS (As := As) (rest := rest) ⟨hx, hb, hml, hown, hts⟩ (hM r1 S1 ho) ⟨callB_of As.length (Ts := tbG) (ws' := tbG) hts hG rfl rfl rfl (hts _ mf.2.1) (hts _ hlk) mf.2.2.1 hRR, hts _ hin⟩ ⟨blindG, fun U hU hW => ⟨rfl, ⟨by rw [hU]; exact hP, va_K.moved hW.alike hK⟩, hj⟩⟩ rfl rfl hl.1 rfl (lv_room hst) hd ⟨by rw [hR]; exact Nat.le_refl _, by rw [hR]; exact Nat.le_refl _⟩
  · have hlw : (Cond.methodLinkNest own idx y host).before Z.2.2.2.2.2.2.1 Z.2.2.2.2.1 = true := hts _ hlk
    have hcw : Cond.code y b n rt' ∈ wsG y b n rt' := List.mem_cons_self
    exact va_runSN (As := As) (rest := rest) (host := host) ⟨hx, hb, hml, hown, hts⟩ (hM r1 S1 ho) ⟨⟨⟨rfl, rfl, hRR.1, hRR.2, pay_in hts hG, hcw⟩, hts _ mf.1, hts _ mf.2.1, ⟨mf.2.2.1.1, mf.2.2.1.2.1⟩, fun sig h => by
      have h2 := mf.2.2.1.2.2
      rw [h] at h2
      exact (Option.some.inj h2).symm, hlw⟩, hts _ hin, trivial⟩ ⟨blindG, fun U hU hW => ⟨rfl, ⟨by rw [hU]; exact hP, va_K.moved hW.alike hK⟩, hj⟩⟩ rfl rfl hl.1 rfl (lv_room hst) hd ⟨by rw [hR]; exact Nat.le_refl _, by rw [hR]; exact Nat.le_refl _⟩

theorem g_cVi0 (pc2 : Nat) {y : MethodName} {b : ByteArray} {n : Nat} {rt' : Option FieldType} {o1 : Option (Int32 × Sg)} {f : Int32 → Sg → Option (τ × Sg)} {rest : List Value} {i ci idx : Nat} {ks : List Nat} {q : vw_C} (X : Cx L G Z cc nL own rt (d + 1)) (hM : Ct L G Z.2.1 rI y b n rt' d (.ref (G.2.1 i) :: []) S o1) (mf : MF y b n rt' 0) (hin : Cond.instanceMethod y ∈ tbG ∧ Cond.selects y.cls y y ∈ tbG) (hlk : Cond.methodLink own idx y ∈ tbG) (hs : L[i]? = some (.inr (ci, ks))) (hc : vwCl[ci]? = some q) (hq : q.1 = y.cls) (hst : (rest.map fun v => v.category).sum ≤ 8) (hd : decode cc pc = .ok (.invokevirtual idx, 3)) (hp : pc + 3 = pc2)
    (k : ∀ (r1 : Int32) (S1 : Sg), Go L G Z nL ret pc2 lvs (.int r1 :: rest) S1 (f r1 S1) K) : Go L G Z nL ret pc lvs (.ref (G.2.1 i) :: rest) S (bd o1 f) K := by
  subst hp
  exact g_callV (As := []) X hM mf hin hlk hs hc hq hst hd k
theorem g_cSi0 (pc2 : Nat) {y : MethodName} {b : ByteArray} {n : Nat} {rt' : Option FieldType} {o1 : Option (Int32 × Sg)} {f : Int32 → Sg → Option (τ × Sg)} {rest : List Value} {idx : Nat} (X : Cx L G Z cc nL own rt (d + 1)) (hM : Ct L G Z.2.1 rI y b n rt' d [] S o1) (mf : MF y b n rt' 0) (hin : Cond.static y ∈ tbG) (hlk : Cond.methodLink own idx y ∈ tbG ∨ ∃ host, Cond.methodLinkNest own idx y host ∈ tbG) (hst : (rest.map fun v => v.category).sum ≤ 8) (hd : decode cc pc = .ok (.invokestatic idx, 3)) (hp : pc + 3 = pc2)
    (k : ∀ (r1 : Int32) (S1 : Sg), Go L G Z nL ret pc2 lvs (.int r1 :: rest) S1 (f r1 S1) K) : Go L G Z nL ret pc lvs (rest) S (bd o1 f) K := by
  subst hp
  exact g_callS (As := []) X hM mf hin hlk hst hd k
theorem g_cVi1 (pc2 : Nat) {y : MethodName} {b : ByteArray} {n : Nat} {rt' : Option FieldType} {o1 : Option (Int32 × Sg)} {f : Int32 → Sg → Option (τ × Sg)} {v1 : Value} {rest : List Value} {i ci idx : Nat} {ks : List Nat} {q : vw_C} (X : Cx L G Z cc nL own rt (d + 1)) (hM : Ct L G Z.2.1 rI y b n rt' d (.ref (G.2.1 i) :: [v1]) S o1) (mf : MF y b n rt' 1) (hin : Cond.instanceMethod y ∈ tbG ∧ Cond.selects y.cls y y ∈ tbG) (hlk : Cond.methodLink own idx y ∈ tbG) (hs : L[i]? = some (.inr (ci, ks))) (hc : vwCl[ci]? = some q) (hq : q.1 = y.cls) (hst : (rest.map fun v => v.category).sum ≤ 8) (hd : decode cc pc = .ok (.invokevirtual idx, 3)) (hp : pc + 3 = pc2)
    (k : ∀ (r1 : Int32) (S1 : Sg), Go L G Z nL ret pc2 lvs (.int r1 :: rest) S1 (f r1 S1) K) : Go L G Z nL ret pc lvs (v1 :: .ref (G.2.1 i) :: rest) S (bd o1 f) K := by
  subst hp
  exact g_callV (As := [v1]) X hM mf hin hlk hs hc hq hst hd k
theorem g_cSi1 (pc2 : Nat) {y : MethodName} {b : ByteArray} {n : Nat} {rt' : Option FieldType} {o1 : Option (Int32 × Sg)} {f : Int32 → Sg → Option (τ × Sg)} {v1 : Value} {rest : List Value} {idx : Nat} (X : Cx L G Z cc nL own rt (d + 1)) (hM : Ct L G Z.2.1 rI y b n rt' d [v1] S o1) (mf : MF y b n rt' 1) (hin : Cond.static y ∈ tbG) (hlk : Cond.methodLink own idx y ∈ tbG ∨ ∃ host, Cond.methodLinkNest own idx y host ∈ tbG) (hst : (rest.map fun v => v.category).sum ≤ 8) (hd : decode cc pc = .ok (.invokestatic idx, 3)) (hp : pc + 3 = pc2)
    (k : ∀ (r1 : Int32) (S1 : Sg), Go L G Z nL ret pc2 lvs (.int r1 :: rest) S1 (f r1 S1) K) : Go L G Z nL ret pc lvs (v1 :: rest) S (bd o1 f) K := by
  subst hp
  exact g_callS (As := [v1]) X hM mf hin hlk hst hd k
theorem g_cVi2 (pc2 : Nat) {y : MethodName} {b : ByteArray} {n : Nat} {rt' : Option FieldType} {o1 : Option (Int32 × Sg)} {f : Int32 → Sg → Option (τ × Sg)} {v1 v2 : Value} {rest : List Value} {i ci idx : Nat} {ks : List Nat} {q : vw_C} (X : Cx L G Z cc nL own rt (d + 1)) (hM : Ct L G Z.2.1 rI y b n rt' d (.ref (G.2.1 i) :: [v1, v2]) S o1) (mf : MF y b n rt' 2) (hin : Cond.instanceMethod y ∈ tbG ∧ Cond.selects y.cls y y ∈ tbG) (hlk : Cond.methodLink own idx y ∈ tbG) (hs : L[i]? = some (.inr (ci, ks))) (hc : vwCl[ci]? = some q) (hq : q.1 = y.cls) (hst : (rest.map fun v => v.category).sum ≤ 8) (hd : decode cc pc = .ok (.invokevirtual idx, 3)) (hp : pc + 3 = pc2)
    (k : ∀ (r1 : Int32) (S1 : Sg), Go L G Z nL ret pc2 lvs (.int r1 :: rest) S1 (f r1 S1) K) : Go L G Z nL ret pc lvs (v2 :: v1 :: .ref (G.2.1 i) :: rest) S (bd o1 f) K := by
  subst hp
  exact g_callV (As := [v1, v2]) X hM mf hin hlk hs hc hq hst hd k
theorem g_cSi2 (pc2 : Nat) {y : MethodName} {b : ByteArray} {n : Nat} {rt' : Option FieldType} {o1 : Option (Int32 × Sg)} {f : Int32 → Sg → Option (τ × Sg)} {v1 v2 : Value} {rest : List Value} {idx : Nat} (X : Cx L G Z cc nL own rt (d + 1)) (hM : Ct L G Z.2.1 rI y b n rt' d [v1, v2] S o1) (mf : MF y b n rt' 2) (hin : Cond.static y ∈ tbG) (hlk : Cond.methodLink own idx y ∈ tbG ∨ ∃ host, Cond.methodLinkNest own idx y host ∈ tbG) (hst : (rest.map fun v => v.category).sum ≤ 8) (hd : decode cc pc = .ok (.invokestatic idx, 3)) (hp : pc + 3 = pc2)
    (k : ∀ (r1 : Int32) (S1 : Sg), Go L G Z nL ret pc2 lvs (.int r1 :: rest) S1 (f r1 S1) K) : Go L G Z nL ret pc lvs (v2 :: v1 :: rest) S (bd o1 f) K := by
  subst hp
  exact g_callS (As := [v1, v2]) X hM mf hin hlk hst hd k
theorem g_cVi3 (pc2 : Nat) {y : MethodName} {b : ByteArray} {n : Nat} {rt' : Option FieldType} {o1 : Option (Int32 × Sg)} {f : Int32 → Sg → Option (τ × Sg)} {v1 v2 v3 : Value} {rest : List Value} {i ci idx : Nat} {ks : List Nat} {q : vw_C} (X : Cx L G Z cc nL own rt (d + 1)) (hM : Ct L G Z.2.1 rI y b n rt' d (.ref (G.2.1 i) :: [v1, v2, v3]) S o1) (mf : MF y b n rt' 3) (hin : Cond.instanceMethod y ∈ tbG ∧ Cond.selects y.cls y y ∈ tbG) (hlk : Cond.methodLink own idx y ∈ tbG) (hs : L[i]? = some (.inr (ci, ks))) (hc : vwCl[ci]? = some q) (hq : q.1 = y.cls) (hst : (rest.map fun v => v.category).sum ≤ 8) (hd : decode cc pc = .ok (.invokevirtual idx, 3)) (hp : pc + 3 = pc2)
    (k : ∀ (r1 : Int32) (S1 : Sg), Go L G Z nL ret pc2 lvs (.int r1 :: rest) S1 (f r1 S1) K) : Go L G Z nL ret pc lvs (v3 :: v2 :: v1 :: .ref (G.2.1 i) :: rest) S (bd o1 f) K := by
  subst hp
  exact g_callV (As := [v1, v2, v3]) X hM mf hin hlk hs hc hq hst hd k
theorem g_cSi3 (pc2 : Nat) {y : MethodName} {b : ByteArray} {n : Nat} {rt' : Option FieldType} {o1 : Option (Int32 × Sg)} {f : Int32 → Sg → Option (τ × Sg)} {v1 v2 v3 : Value} {rest : List Value} {idx : Nat} (X : Cx L G Z cc nL own rt (d + 1)) (hM : Ct L G Z.2.1 rI y b n rt' d [v1, v2, v3] S o1) (mf : MF y b n rt' 3) (hin : Cond.static y ∈ tbG) (hlk : Cond.methodLink own idx y ∈ tbG ∨ ∃ host, Cond.methodLinkNest own idx y host ∈ tbG) (hst : (rest.map fun v => v.category).sum ≤ 8) (hd : decode cc pc = .ok (.invokestatic idx, 3)) (hp : pc + 3 = pc2)
    (k : ∀ (r1 : Int32) (S1 : Sg), Go L G Z nL ret pc2 lvs (.int r1 :: rest) S1 (f r1 S1) K) : Go L G Z nL ret pc lvs (v3 :: v2 :: v1 :: rest) S (bd o1 f) K := by
  subst hp
  exact g_callS (As := [v1, v2, v3]) X hM mf hin hlk hst hd k
theorem g_cVi4 (pc2 : Nat) {y : MethodName} {b : ByteArray} {n : Nat} {rt' : Option FieldType} {o1 : Option (Int32 × Sg)} {f : Int32 → Sg → Option (τ × Sg)} {v1 v2 v3 v4 : Value} {rest : List Value} {i ci idx : Nat} {ks : List Nat} {q : vw_C} (X : Cx L G Z cc nL own rt (d + 1)) (hM : Ct L G Z.2.1 rI y b n rt' d (.ref (G.2.1 i) :: [v1, v2, v3, v4]) S o1) (mf : MF y b n rt' 4) (hin : Cond.instanceMethod y ∈ tbG ∧ Cond.selects y.cls y y ∈ tbG) (hlk : Cond.methodLink own idx y ∈ tbG) (hs : L[i]? = some (.inr (ci, ks))) (hc : vwCl[ci]? = some q) (hq : q.1 = y.cls) (hst : (rest.map fun v => v.category).sum ≤ 8) (hd : decode cc pc = .ok (.invokevirtual idx, 3)) (hp : pc + 3 = pc2)
    (k : ∀ (r1 : Int32) (S1 : Sg), Go L G Z nL ret pc2 lvs (.int r1 :: rest) S1 (f r1 S1) K) : Go L G Z nL ret pc lvs (v4 :: v3 :: v2 :: v1 :: .ref (G.2.1 i) :: rest) S (bd o1 f) K := by
  subst hp
  exact g_callV (As := [v1, v2, v3, v4]) X hM mf hin hlk hs hc hq hst hd k
theorem g_cSi4 (pc2 : Nat) {y : MethodName} {b : ByteArray} {n : Nat} {rt' : Option FieldType} {o1 : Option (Int32 × Sg)} {f : Int32 → Sg → Option (τ × Sg)} {v1 v2 v3 v4 : Value} {rest : List Value} {idx : Nat} (X : Cx L G Z cc nL own rt (d + 1)) (hM : Ct L G Z.2.1 rI y b n rt' d [v1, v2, v3, v4] S o1) (mf : MF y b n rt' 4) (hin : Cond.static y ∈ tbG) (hlk : Cond.methodLink own idx y ∈ tbG ∨ ∃ host, Cond.methodLinkNest own idx y host ∈ tbG) (hst : (rest.map fun v => v.category).sum ≤ 8) (hd : decode cc pc = .ok (.invokestatic idx, 3)) (hp : pc + 3 = pc2)
    (k : ∀ (r1 : Int32) (S1 : Sg), Go L G Z nL ret pc2 lvs (.int r1 :: rest) S1 (f r1 S1) K) : Go L G Z nL ret pc lvs (v4 :: v3 :: v2 :: v1 :: rest) S (bd o1 f) K := by
  subst hp
  exact g_callS (As := [v1, v2, v3, v4]) X hM mf hin hlk hst hd k
theorem g_cVi5 (pc2 : Nat) {y : MethodName} {b : ByteArray} {n : Nat} {rt' : Option FieldType} {o1 : Option (Int32 × Sg)} {f : Int32 → Sg → Option (τ × Sg)} {v1 v2 v3 v4 v5 : Value} {rest : List Value} {i ci idx : Nat} {ks : List Nat} {q : vw_C} (X : Cx L G Z cc nL own rt (d + 1)) (hM : Ct L G Z.2.1 rI y b n rt' d (.ref (G.2.1 i) :: [v1, v2, v3, v4, v5]) S o1) (mf : MF y b n rt' 5) (hin : Cond.instanceMethod y ∈ tbG ∧ Cond.selects y.cls y y ∈ tbG) (hlk : Cond.methodLink own idx y ∈ tbG) (hs : L[i]? = some (.inr (ci, ks))) (hc : vwCl[ci]? = some q) (hq : q.1 = y.cls) (hst : (rest.map fun v => v.category).sum ≤ 8) (hd : decode cc pc = .ok (.invokevirtual idx, 3)) (hp : pc + 3 = pc2)
    (k : ∀ (r1 : Int32) (S1 : Sg), Go L G Z nL ret pc2 lvs (.int r1 :: rest) S1 (f r1 S1) K) : Go L G Z nL ret pc lvs (v5 :: v4 :: v3 :: v2 :: v1 :: .ref (G.2.1 i) :: rest) S (bd o1 f) K := by
  subst hp
  exact g_callV (As := [v1, v2, v3, v4, v5]) X hM mf hin hlk hs hc hq hst hd k
theorem g_cSi5 (pc2 : Nat) {y : MethodName} {b : ByteArray} {n : Nat} {rt' : Option FieldType} {o1 : Option (Int32 × Sg)} {f : Int32 → Sg → Option (τ × Sg)} {v1 v2 v3 v4 v5 : Value} {rest : List Value} {idx : Nat} (X : Cx L G Z cc nL own rt (d + 1)) (hM : Ct L G Z.2.1 rI y b n rt' d [v1, v2, v3, v4, v5] S o1) (mf : MF y b n rt' 5) (hin : Cond.static y ∈ tbG) (hlk : Cond.methodLink own idx y ∈ tbG ∨ ∃ host, Cond.methodLinkNest own idx y host ∈ tbG) (hst : (rest.map fun v => v.category).sum ≤ 8) (hd : decode cc pc = .ok (.invokestatic idx, 3)) (hp : pc + 3 = pc2)
    (k : ∀ (r1 : Int32) (S1 : Sg), Go L G Z nL ret pc2 lvs (.int r1 :: rest) S1 (f r1 S1) K) : Go L G Z nL ret pc lvs (v5 :: v4 :: v3 :: v2 :: v1 :: rest) S (bd o1 f) K := by
  subst hp
  exact g_callS (As := [v1, v2, v3, v4, v5]) X hM mf hin hlk hst hd k
theorem g_cVl0 (pc2 : Nat) {y : MethodName} {b : ByteArray} {n : Nat} {rt' : Option FieldType} {o1 : Option (Int64 × Sg)} {f : Int64 → Sg → Option (τ × Sg)} {rest : List Value} {i ci idx : Nat} {ks : List Nat} {q : vw_C} (X : Cx L G Z cc nL own rt (d + 1)) (hM : Ct L G Z.2.1 rL y b n rt' d (.ref (G.2.1 i) :: []) S o1) (mf : MF y b n rt' 0) (hin : Cond.instanceMethod y ∈ tbG ∧ Cond.selects y.cls y y ∈ tbG) (hlk : Cond.methodLink own idx y ∈ tbG) (hs : L[i]? = some (.inr (ci, ks))) (hc : vwCl[ci]? = some q) (hq : q.1 = y.cls) (hst : (rest.map fun v => v.category).sum ≤ 8) (hd : decode cc pc = .ok (.invokevirtual idx, 3)) (hp : pc + 3 = pc2)
    (k : ∀ (r1 : Int64) (S1 : Sg), Go L G Z nL ret pc2 lvs (.long r1 :: rest) S1 (f r1 S1) K) : Go L G Z nL ret pc lvs (.ref (G.2.1 i) :: rest) S (bd o1 f) K := by
  subst hp
  exact g_callV (As := []) X hM mf hin hlk hs hc hq hst hd k
theorem g_cSl0 (pc2 : Nat) {y : MethodName} {b : ByteArray} {n : Nat} {rt' : Option FieldType} {o1 : Option (Int64 × Sg)} {f : Int64 → Sg → Option (τ × Sg)} {rest : List Value} {idx : Nat} (X : Cx L G Z cc nL own rt (d + 1)) (hM : Ct L G Z.2.1 rL y b n rt' d [] S o1) (mf : MF y b n rt' 0) (hin : Cond.static y ∈ tbG) (hlk : Cond.methodLink own idx y ∈ tbG ∨ ∃ host, Cond.methodLinkNest own idx y host ∈ tbG) (hst : (rest.map fun v => v.category).sum ≤ 8) (hd : decode cc pc = .ok (.invokestatic idx, 3)) (hp : pc + 3 = pc2)
    (k : ∀ (r1 : Int64) (S1 : Sg), Go L G Z nL ret pc2 lvs (.long r1 :: rest) S1 (f r1 S1) K) : Go L G Z nL ret pc lvs (rest) S (bd o1 f) K := by
  subst hp
  exact g_callS (As := []) X hM mf hin hlk hst hd k
theorem g_cVl1 (pc2 : Nat) {y : MethodName} {b : ByteArray} {n : Nat} {rt' : Option FieldType} {o1 : Option (Int64 × Sg)} {f : Int64 → Sg → Option (τ × Sg)} {v1 : Value} {rest : List Value} {i ci idx : Nat} {ks : List Nat} {q : vw_C} (X : Cx L G Z cc nL own rt (d + 1)) (hM : Ct L G Z.2.1 rL y b n rt' d (.ref (G.2.1 i) :: [v1]) S o1) (mf : MF y b n rt' 1) (hin : Cond.instanceMethod y ∈ tbG ∧ Cond.selects y.cls y y ∈ tbG) (hlk : Cond.methodLink own idx y ∈ tbG) (hs : L[i]? = some (.inr (ci, ks))) (hc : vwCl[ci]? = some q) (hq : q.1 = y.cls) (hst : (rest.map fun v => v.category).sum ≤ 8) (hd : decode cc pc = .ok (.invokevirtual idx, 3)) (hp : pc + 3 = pc2)
    (k : ∀ (r1 : Int64) (S1 : Sg), Go L G Z nL ret pc2 lvs (.long r1 :: rest) S1 (f r1 S1) K) : Go L G Z nL ret pc lvs (v1 :: .ref (G.2.1 i) :: rest) S (bd o1 f) K := by
  subst hp
  exact g_callV (As := [v1]) X hM mf hin hlk hs hc hq hst hd k
theorem g_cSl1 (pc2 : Nat) {y : MethodName} {b : ByteArray} {n : Nat} {rt' : Option FieldType} {o1 : Option (Int64 × Sg)} {f : Int64 → Sg → Option (τ × Sg)} {v1 : Value} {rest : List Value} {idx : Nat} (X : Cx L G Z cc nL own rt (d + 1)) (hM : Ct L G Z.2.1 rL y b n rt' d [v1] S o1) (mf : MF y b n rt' 1) (hin : Cond.static y ∈ tbG) (hlk : Cond.methodLink own idx y ∈ tbG ∨ ∃ host, Cond.methodLinkNest own idx y host ∈ tbG) (hst : (rest.map fun v => v.category).sum ≤ 8) (hd : decode cc pc = .ok (.invokestatic idx, 3)) (hp : pc + 3 = pc2)
    (k : ∀ (r1 : Int64) (S1 : Sg), Go L G Z nL ret pc2 lvs (.long r1 :: rest) S1 (f r1 S1) K) : Go L G Z nL ret pc lvs (v1 :: rest) S (bd o1 f) K := by
  subst hp
  exact g_callS (As := [v1]) X hM mf hin hlk hst hd k
theorem g_cVl2 (pc2 : Nat) {y : MethodName} {b : ByteArray} {n : Nat} {rt' : Option FieldType} {o1 : Option (Int64 × Sg)} {f : Int64 → Sg → Option (τ × Sg)} {v1 v2 : Value} {rest : List Value} {i ci idx : Nat} {ks : List Nat} {q : vw_C} (X : Cx L G Z cc nL own rt (d + 1)) (hM : Ct L G Z.2.1 rL y b n rt' d (.ref (G.2.1 i) :: [v1, v2]) S o1) (mf : MF y b n rt' 2) (hin : Cond.instanceMethod y ∈ tbG ∧ Cond.selects y.cls y y ∈ tbG) (hlk : Cond.methodLink own idx y ∈ tbG) (hs : L[i]? = some (.inr (ci, ks))) (hc : vwCl[ci]? = some q) (hq : q.1 = y.cls) (hst : (rest.map fun v => v.category).sum ≤ 8) (hd : decode cc pc = .ok (.invokevirtual idx, 3)) (hp : pc + 3 = pc2)
    (k : ∀ (r1 : Int64) (S1 : Sg), Go L G Z nL ret pc2 lvs (.long r1 :: rest) S1 (f r1 S1) K) : Go L G Z nL ret pc lvs (v2 :: v1 :: .ref (G.2.1 i) :: rest) S (bd o1 f) K := by
  subst hp
  exact g_callV (As := [v1, v2]) X hM mf hin hlk hs hc hq hst hd k
theorem g_cSl2 (pc2 : Nat) {y : MethodName} {b : ByteArray} {n : Nat} {rt' : Option FieldType} {o1 : Option (Int64 × Sg)} {f : Int64 → Sg → Option (τ × Sg)} {v1 v2 : Value} {rest : List Value} {idx : Nat} (X : Cx L G Z cc nL own rt (d + 1)) (hM : Ct L G Z.2.1 rL y b n rt' d [v1, v2] S o1) (mf : MF y b n rt' 2) (hin : Cond.static y ∈ tbG) (hlk : Cond.methodLink own idx y ∈ tbG ∨ ∃ host, Cond.methodLinkNest own idx y host ∈ tbG) (hst : (rest.map fun v => v.category).sum ≤ 8) (hd : decode cc pc = .ok (.invokestatic idx, 3)) (hp : pc + 3 = pc2)
    (k : ∀ (r1 : Int64) (S1 : Sg), Go L G Z nL ret pc2 lvs (.long r1 :: rest) S1 (f r1 S1) K) : Go L G Z nL ret pc lvs (v2 :: v1 :: rest) S (bd o1 f) K := by
  subst hp
  exact g_callS (As := [v1, v2]) X hM mf hin hlk hst hd k
theorem g_cVl3 (pc2 : Nat) {y : MethodName} {b : ByteArray} {n : Nat} {rt' : Option FieldType} {o1 : Option (Int64 × Sg)} {f : Int64 → Sg → Option (τ × Sg)} {v1 v2 v3 : Value} {rest : List Value} {i ci idx : Nat} {ks : List Nat} {q : vw_C} (X : Cx L G Z cc nL own rt (d + 1)) (hM : Ct L G Z.2.1 rL y b n rt' d (.ref (G.2.1 i) :: [v1, v2, v3]) S o1) (mf : MF y b n rt' 3) (hin : Cond.instanceMethod y ∈ tbG ∧ Cond.selects y.cls y y ∈ tbG) (hlk : Cond.methodLink own idx y ∈ tbG) (hs : L[i]? = some (.inr (ci, ks))) (hc : vwCl[ci]? = some q) (hq : q.1 = y.cls) (hst : (rest.map fun v => v.category).sum ≤ 8) (hd : decode cc pc = .ok (.invokevirtual idx, 3)) (hp : pc + 3 = pc2)
    (k : ∀ (r1 : Int64) (S1 : Sg), Go L G Z nL ret pc2 lvs (.long r1 :: rest) S1 (f r1 S1) K) : Go L G Z nL ret pc lvs (v3 :: v2 :: v1 :: .ref (G.2.1 i) :: rest) S (bd o1 f) K := by
  subst hp
  exact g_callV (As := [v1, v2, v3]) X hM mf hin hlk hs hc hq hst hd k
theorem g_cSl3 (pc2 : Nat) {y : MethodName} {b : ByteArray} {n : Nat} {rt' : Option FieldType} {o1 : Option (Int64 × Sg)} {f : Int64 → Sg → Option (τ × Sg)} {v1 v2 v3 : Value} {rest : List Value} {idx : Nat} (X : Cx L G Z cc nL own rt (d + 1)) (hM : Ct L G Z.2.1 rL y b n rt' d [v1, v2, v3] S o1) (mf : MF y b n rt' 3) (hin : Cond.static y ∈ tbG) (hlk : Cond.methodLink own idx y ∈ tbG ∨ ∃ host, Cond.methodLinkNest own idx y host ∈ tbG) (hst : (rest.map fun v => v.category).sum ≤ 8) (hd : decode cc pc = .ok (.invokestatic idx, 3)) (hp : pc + 3 = pc2)
    (k : ∀ (r1 : Int64) (S1 : Sg), Go L G Z nL ret pc2 lvs (.long r1 :: rest) S1 (f r1 S1) K) : Go L G Z nL ret pc lvs (v3 :: v2 :: v1 :: rest) S (bd o1 f) K := by
  subst hp
  exact g_callS (As := [v1, v2, v3]) X hM mf hin hlk hst hd k
theorem g_cVl4 (pc2 : Nat) {y : MethodName} {b : ByteArray} {n : Nat} {rt' : Option FieldType} {o1 : Option (Int64 × Sg)} {f : Int64 → Sg → Option (τ × Sg)} {v1 v2 v3 v4 : Value} {rest : List Value} {i ci idx : Nat} {ks : List Nat} {q : vw_C} (X : Cx L G Z cc nL own rt (d + 1)) (hM : Ct L G Z.2.1 rL y b n rt' d (.ref (G.2.1 i) :: [v1, v2, v3, v4]) S o1) (mf : MF y b n rt' 4) (hin : Cond.instanceMethod y ∈ tbG ∧ Cond.selects y.cls y y ∈ tbG) (hlk : Cond.methodLink own idx y ∈ tbG) (hs : L[i]? = some (.inr (ci, ks))) (hc : vwCl[ci]? = some q) (hq : q.1 = y.cls) (hst : (rest.map fun v => v.category).sum ≤ 8) (hd : decode cc pc = .ok (.invokevirtual idx, 3)) (hp : pc + 3 = pc2)
    (k : ∀ (r1 : Int64) (S1 : Sg), Go L G Z nL ret pc2 lvs (.long r1 :: rest) S1 (f r1 S1) K) : Go L G Z nL ret pc lvs (v4 :: v3 :: v2 :: v1 :: .ref (G.2.1 i) :: rest) S (bd o1 f) K := by
  subst hp
  exact g_callV (As := [v1, v2, v3, v4]) X hM mf hin hlk hs hc hq hst hd k
theorem g_cSl4 (pc2 : Nat) {y : MethodName} {b : ByteArray} {n : Nat} {rt' : Option FieldType} {o1 : Option (Int64 × Sg)} {f : Int64 → Sg → Option (τ × Sg)} {v1 v2 v3 v4 : Value} {rest : List Value} {idx : Nat} (X : Cx L G Z cc nL own rt (d + 1)) (hM : Ct L G Z.2.1 rL y b n rt' d [v1, v2, v3, v4] S o1) (mf : MF y b n rt' 4) (hin : Cond.static y ∈ tbG) (hlk : Cond.methodLink own idx y ∈ tbG ∨ ∃ host, Cond.methodLinkNest own idx y host ∈ tbG) (hst : (rest.map fun v => v.category).sum ≤ 8) (hd : decode cc pc = .ok (.invokestatic idx, 3)) (hp : pc + 3 = pc2)
    (k : ∀ (r1 : Int64) (S1 : Sg), Go L G Z nL ret pc2 lvs (.long r1 :: rest) S1 (f r1 S1) K) : Go L G Z nL ret pc lvs (v4 :: v3 :: v2 :: v1 :: rest) S (bd o1 f) K := by
  subst hp
  exact g_callS (As := [v1, v2, v3, v4]) X hM mf hin hlk hst hd k
theorem g_cVl5 (pc2 : Nat) {y : MethodName} {b : ByteArray} {n : Nat} {rt' : Option FieldType} {o1 : Option (Int64 × Sg)} {f : Int64 → Sg → Option (τ × Sg)} {v1 v2 v3 v4 v5 : Value} {rest : List Value} {i ci idx : Nat} {ks : List Nat} {q : vw_C} (X : Cx L G Z cc nL own rt (d + 1)) (hM : Ct L G Z.2.1 rL y b n rt' d (.ref (G.2.1 i) :: [v1, v2, v3, v4, v5]) S o1) (mf : MF y b n rt' 5) (hin : Cond.instanceMethod y ∈ tbG ∧ Cond.selects y.cls y y ∈ tbG) (hlk : Cond.methodLink own idx y ∈ tbG) (hs : L[i]? = some (.inr (ci, ks))) (hc : vwCl[ci]? = some q) (hq : q.1 = y.cls) (hst : (rest.map fun v => v.category).sum ≤ 8) (hd : decode cc pc = .ok (.invokevirtual idx, 3)) (hp : pc + 3 = pc2)
    (k : ∀ (r1 : Int64) (S1 : Sg), Go L G Z nL ret pc2 lvs (.long r1 :: rest) S1 (f r1 S1) K) : Go L G Z nL ret pc lvs (v5 :: v4 :: v3 :: v2 :: v1 :: .ref (G.2.1 i) :: rest) S (bd o1 f) K := by
  subst hp
  exact g_callV (As := [v1, v2, v3, v4, v5]) X hM mf hin hlk hs hc hq hst hd k
theorem g_cSl5 (pc2 : Nat) {y : MethodName} {b : ByteArray} {n : Nat} {rt' : Option FieldType} {o1 : Option (Int64 × Sg)} {f : Int64 → Sg → Option (τ × Sg)} {v1 v2 v3 v4 v5 : Value} {rest : List Value} {idx : Nat} (X : Cx L G Z cc nL own rt (d + 1)) (hM : Ct L G Z.2.1 rL y b n rt' d [v1, v2, v3, v4, v5] S o1) (mf : MF y b n rt' 5) (hin : Cond.static y ∈ tbG) (hlk : Cond.methodLink own idx y ∈ tbG ∨ ∃ host, Cond.methodLinkNest own idx y host ∈ tbG) (hst : (rest.map fun v => v.category).sum ≤ 8) (hd : decode cc pc = .ok (.invokestatic idx, 3)) (hp : pc + 3 = pc2)
    (k : ∀ (r1 : Int64) (S1 : Sg), Go L G Z nL ret pc2 lvs (.long r1 :: rest) S1 (f r1 S1) K) : Go L G Z nL ret pc lvs (v5 :: v4 :: v3 :: v2 :: v1 :: rest) S (bd o1 f) K := by
  subst hp
  exact g_callS (As := [v1, v2, v3, v4, v5]) X hM mf hin hlk hst hd k
theorem g_cVv0 (pc2 : Nat) {y : MethodName} {b : ByteArray} {n : Nat} {rt' : Option FieldType} {o1 : Option (Unit × Sg)} {f : Unit → Sg → Option (τ × Sg)} {rest : List Value} {i ci idx : Nat} {ks : List Nat} {q : vw_C} (X : Cx L G Z cc nL own rt (d + 1)) (hM : Ct L G Z.2.1 rV y b n rt' d (.ref (G.2.1 i) :: []) S o1) (mf : MF y b n rt' 0) (hin : Cond.instanceMethod y ∈ tbG ∧ Cond.selects y.cls y y ∈ tbG) (hlk : Cond.methodLink own idx y ∈ tbG) (hs : L[i]? = some (.inr (ci, ks))) (hc : vwCl[ci]? = some q) (hq : q.1 = y.cls) (hst : (rest.map fun v => v.category).sum ≤ 8) (hd : decode cc pc = .ok (.invokevirtual idx, 3)) (hp : pc + 3 = pc2)
    (k : ∀ (r1 : Unit) (S1 : Sg), Go L G Z nL ret pc2 lvs rest S1 (f r1 S1) K) : Go L G Z nL ret pc lvs (.ref (G.2.1 i) :: rest) S (bd o1 f) K := by
  subst hp
  exact g_callV (As := []) X hM mf hin hlk hs hc hq hst hd k
theorem g_cSv0 (pc2 : Nat) {y : MethodName} {b : ByteArray} {n : Nat} {rt' : Option FieldType} {o1 : Option (Unit × Sg)} {f : Unit → Sg → Option (τ × Sg)} {rest : List Value} {idx : Nat} (X : Cx L G Z cc nL own rt (d + 1)) (hM : Ct L G Z.2.1 rV y b n rt' d [] S o1) (mf : MF y b n rt' 0) (hin : Cond.static y ∈ tbG) (hlk : Cond.methodLink own idx y ∈ tbG ∨ ∃ host, Cond.methodLinkNest own idx y host ∈ tbG) (hst : (rest.map fun v => v.category).sum ≤ 8) (hd : decode cc pc = .ok (.invokestatic idx, 3)) (hp : pc + 3 = pc2)
    (k : ∀ (r1 : Unit) (S1 : Sg), Go L G Z nL ret pc2 lvs rest S1 (f r1 S1) K) : Go L G Z nL ret pc lvs (rest) S (bd o1 f) K := by
  subst hp
  exact g_callS (As := []) X hM mf hin hlk hst hd k
theorem g_cVv1 (pc2 : Nat) {y : MethodName} {b : ByteArray} {n : Nat} {rt' : Option FieldType} {o1 : Option (Unit × Sg)} {f : Unit → Sg → Option (τ × Sg)} {v1 : Value} {rest : List Value} {i ci idx : Nat} {ks : List Nat} {q : vw_C} (X : Cx L G Z cc nL own rt (d + 1)) (hM : Ct L G Z.2.1 rV y b n rt' d (.ref (G.2.1 i) :: [v1]) S o1) (mf : MF y b n rt' 1) (hin : Cond.instanceMethod y ∈ tbG ∧ Cond.selects y.cls y y ∈ tbG) (hlk : Cond.methodLink own idx y ∈ tbG) (hs : L[i]? = some (.inr (ci, ks))) (hc : vwCl[ci]? = some q) (hq : q.1 = y.cls) (hst : (rest.map fun v => v.category).sum ≤ 8) (hd : decode cc pc = .ok (.invokevirtual idx, 3)) (hp : pc + 3 = pc2)
    (k : ∀ (r1 : Unit) (S1 : Sg), Go L G Z nL ret pc2 lvs rest S1 (f r1 S1) K) : Go L G Z nL ret pc lvs (v1 :: .ref (G.2.1 i) :: rest) S (bd o1 f) K := by
  subst hp
  exact g_callV (As := [v1]) X hM mf hin hlk hs hc hq hst hd k
theorem g_cSv1 (pc2 : Nat) {y : MethodName} {b : ByteArray} {n : Nat} {rt' : Option FieldType} {o1 : Option (Unit × Sg)} {f : Unit → Sg → Option (τ × Sg)} {v1 : Value} {rest : List Value} {idx : Nat} (X : Cx L G Z cc nL own rt (d + 1)) (hM : Ct L G Z.2.1 rV y b n rt' d [v1] S o1) (mf : MF y b n rt' 1) (hin : Cond.static y ∈ tbG) (hlk : Cond.methodLink own idx y ∈ tbG ∨ ∃ host, Cond.methodLinkNest own idx y host ∈ tbG) (hst : (rest.map fun v => v.category).sum ≤ 8) (hd : decode cc pc = .ok (.invokestatic idx, 3)) (hp : pc + 3 = pc2)
    (k : ∀ (r1 : Unit) (S1 : Sg), Go L G Z nL ret pc2 lvs rest S1 (f r1 S1) K) : Go L G Z nL ret pc lvs (v1 :: rest) S (bd o1 f) K := by
  subst hp
  exact g_callS (As := [v1]) X hM mf hin hlk hst hd k
theorem g_cVv2 (pc2 : Nat) {y : MethodName} {b : ByteArray} {n : Nat} {rt' : Option FieldType} {o1 : Option (Unit × Sg)} {f : Unit → Sg → Option (τ × Sg)} {v1 v2 : Value} {rest : List Value} {i ci idx : Nat} {ks : List Nat} {q : vw_C} (X : Cx L G Z cc nL own rt (d + 1)) (hM : Ct L G Z.2.1 rV y b n rt' d (.ref (G.2.1 i) :: [v1, v2]) S o1) (mf : MF y b n rt' 2) (hin : Cond.instanceMethod y ∈ tbG ∧ Cond.selects y.cls y y ∈ tbG) (hlk : Cond.methodLink own idx y ∈ tbG) (hs : L[i]? = some (.inr (ci, ks))) (hc : vwCl[ci]? = some q) (hq : q.1 = y.cls) (hst : (rest.map fun v => v.category).sum ≤ 8) (hd : decode cc pc = .ok (.invokevirtual idx, 3)) (hp : pc + 3 = pc2)
    (k : ∀ (r1 : Unit) (S1 : Sg), Go L G Z nL ret pc2 lvs rest S1 (f r1 S1) K) : Go L G Z nL ret pc lvs (v2 :: v1 :: .ref (G.2.1 i) :: rest) S (bd o1 f) K := by
  subst hp
  exact g_callV (As := [v1, v2]) X hM mf hin hlk hs hc hq hst hd k
theorem g_cSv2 (pc2 : Nat) {y : MethodName} {b : ByteArray} {n : Nat} {rt' : Option FieldType} {o1 : Option (Unit × Sg)} {f : Unit → Sg → Option (τ × Sg)} {v1 v2 : Value} {rest : List Value} {idx : Nat} (X : Cx L G Z cc nL own rt (d + 1)) (hM : Ct L G Z.2.1 rV y b n rt' d [v1, v2] S o1) (mf : MF y b n rt' 2) (hin : Cond.static y ∈ tbG) (hlk : Cond.methodLink own idx y ∈ tbG ∨ ∃ host, Cond.methodLinkNest own idx y host ∈ tbG) (hst : (rest.map fun v => v.category).sum ≤ 8) (hd : decode cc pc = .ok (.invokestatic idx, 3)) (hp : pc + 3 = pc2)
    (k : ∀ (r1 : Unit) (S1 : Sg), Go L G Z nL ret pc2 lvs rest S1 (f r1 S1) K) : Go L G Z nL ret pc lvs (v2 :: v1 :: rest) S (bd o1 f) K := by
  subst hp
  exact g_callS (As := [v1, v2]) X hM mf hin hlk hst hd k
theorem g_cVv3 (pc2 : Nat) {y : MethodName} {b : ByteArray} {n : Nat} {rt' : Option FieldType} {o1 : Option (Unit × Sg)} {f : Unit → Sg → Option (τ × Sg)} {v1 v2 v3 : Value} {rest : List Value} {i ci idx : Nat} {ks : List Nat} {q : vw_C} (X : Cx L G Z cc nL own rt (d + 1)) (hM : Ct L G Z.2.1 rV y b n rt' d (.ref (G.2.1 i) :: [v1, v2, v3]) S o1) (mf : MF y b n rt' 3) (hin : Cond.instanceMethod y ∈ tbG ∧ Cond.selects y.cls y y ∈ tbG) (hlk : Cond.methodLink own idx y ∈ tbG) (hs : L[i]? = some (.inr (ci, ks))) (hc : vwCl[ci]? = some q) (hq : q.1 = y.cls) (hst : (rest.map fun v => v.category).sum ≤ 8) (hd : decode cc pc = .ok (.invokevirtual idx, 3)) (hp : pc + 3 = pc2)
    (k : ∀ (r1 : Unit) (S1 : Sg), Go L G Z nL ret pc2 lvs rest S1 (f r1 S1) K) : Go L G Z nL ret pc lvs (v3 :: v2 :: v1 :: .ref (G.2.1 i) :: rest) S (bd o1 f) K := by
  subst hp
  exact g_callV (As := [v1, v2, v3]) X hM mf hin hlk hs hc hq hst hd k
theorem g_cSv3 (pc2 : Nat) {y : MethodName} {b : ByteArray} {n : Nat} {rt' : Option FieldType} {o1 : Option (Unit × Sg)} {f : Unit → Sg → Option (τ × Sg)} {v1 v2 v3 : Value} {rest : List Value} {idx : Nat} (X : Cx L G Z cc nL own rt (d + 1)) (hM : Ct L G Z.2.1 rV y b n rt' d [v1, v2, v3] S o1) (mf : MF y b n rt' 3) (hin : Cond.static y ∈ tbG) (hlk : Cond.methodLink own idx y ∈ tbG ∨ ∃ host, Cond.methodLinkNest own idx y host ∈ tbG) (hst : (rest.map fun v => v.category).sum ≤ 8) (hd : decode cc pc = .ok (.invokestatic idx, 3)) (hp : pc + 3 = pc2)
    (k : ∀ (r1 : Unit) (S1 : Sg), Go L G Z nL ret pc2 lvs rest S1 (f r1 S1) K) : Go L G Z nL ret pc lvs (v3 :: v2 :: v1 :: rest) S (bd o1 f) K := by
  subst hp
  exact g_callS (As := [v1, v2, v3]) X hM mf hin hlk hst hd k
theorem g_cVv4 (pc2 : Nat) {y : MethodName} {b : ByteArray} {n : Nat} {rt' : Option FieldType} {o1 : Option (Unit × Sg)} {f : Unit → Sg → Option (τ × Sg)} {v1 v2 v3 v4 : Value} {rest : List Value} {i ci idx : Nat} {ks : List Nat} {q : vw_C} (X : Cx L G Z cc nL own rt (d + 1)) (hM : Ct L G Z.2.1 rV y b n rt' d (.ref (G.2.1 i) :: [v1, v2, v3, v4]) S o1) (mf : MF y b n rt' 4) (hin : Cond.instanceMethod y ∈ tbG ∧ Cond.selects y.cls y y ∈ tbG) (hlk : Cond.methodLink own idx y ∈ tbG) (hs : L[i]? = some (.inr (ci, ks))) (hc : vwCl[ci]? = some q) (hq : q.1 = y.cls) (hst : (rest.map fun v => v.category).sum ≤ 8) (hd : decode cc pc = .ok (.invokevirtual idx, 3)) (hp : pc + 3 = pc2)
    (k : ∀ (r1 : Unit) (S1 : Sg), Go L G Z nL ret pc2 lvs rest S1 (f r1 S1) K) : Go L G Z nL ret pc lvs (v4 :: v3 :: v2 :: v1 :: .ref (G.2.1 i) :: rest) S (bd o1 f) K := by
  subst hp
  exact g_callV (As := [v1, v2, v3, v4]) X hM mf hin hlk hs hc hq hst hd k
theorem g_cSv4 (pc2 : Nat) {y : MethodName} {b : ByteArray} {n : Nat} {rt' : Option FieldType} {o1 : Option (Unit × Sg)} {f : Unit → Sg → Option (τ × Sg)} {v1 v2 v3 v4 : Value} {rest : List Value} {idx : Nat} (X : Cx L G Z cc nL own rt (d + 1)) (hM : Ct L G Z.2.1 rV y b n rt' d [v1, v2, v3, v4] S o1) (mf : MF y b n rt' 4) (hin : Cond.static y ∈ tbG) (hlk : Cond.methodLink own idx y ∈ tbG ∨ ∃ host, Cond.methodLinkNest own idx y host ∈ tbG) (hst : (rest.map fun v => v.category).sum ≤ 8) (hd : decode cc pc = .ok (.invokestatic idx, 3)) (hp : pc + 3 = pc2)
    (k : ∀ (r1 : Unit) (S1 : Sg), Go L G Z nL ret pc2 lvs rest S1 (f r1 S1) K) : Go L G Z nL ret pc lvs (v4 :: v3 :: v2 :: v1 :: rest) S (bd o1 f) K := by
  subst hp
  exact g_callS (As := [v1, v2, v3, v4]) X hM mf hin hlk hst hd k
theorem g_cVv5 (pc2 : Nat) {y : MethodName} {b : ByteArray} {n : Nat} {rt' : Option FieldType} {o1 : Option (Unit × Sg)} {f : Unit → Sg → Option (τ × Sg)} {v1 v2 v3 v4 v5 : Value} {rest : List Value} {i ci idx : Nat} {ks : List Nat} {q : vw_C} (X : Cx L G Z cc nL own rt (d + 1)) (hM : Ct L G Z.2.1 rV y b n rt' d (.ref (G.2.1 i) :: [v1, v2, v3, v4, v5]) S o1) (mf : MF y b n rt' 5) (hin : Cond.instanceMethod y ∈ tbG ∧ Cond.selects y.cls y y ∈ tbG) (hlk : Cond.methodLink own idx y ∈ tbG) (hs : L[i]? = some (.inr (ci, ks))) (hc : vwCl[ci]? = some q) (hq : q.1 = y.cls) (hst : (rest.map fun v => v.category).sum ≤ 8) (hd : decode cc pc = .ok (.invokevirtual idx, 3)) (hp : pc + 3 = pc2)
    (k : ∀ (r1 : Unit) (S1 : Sg), Go L G Z nL ret pc2 lvs rest S1 (f r1 S1) K) : Go L G Z nL ret pc lvs (v5 :: v4 :: v3 :: v2 :: v1 :: .ref (G.2.1 i) :: rest) S (bd o1 f) K := by
  subst hp
  exact g_callV (As := [v1, v2, v3, v4, v5]) X hM mf hin hlk hs hc hq hst hd k
theorem g_cSv5 (pc2 : Nat) {y : MethodName} {b : ByteArray} {n : Nat} {rt' : Option FieldType} {o1 : Option (Unit × Sg)} {f : Unit → Sg → Option (τ × Sg)} {v1 v2 v3 v4 v5 : Value} {rest : List Value} {idx : Nat} (X : Cx L G Z cc nL own rt (d + 1)) (hM : Ct L G Z.2.1 rV y b n rt' d [v1, v2, v3, v4, v5] S o1) (mf : MF y b n rt' 5) (hin : Cond.static y ∈ tbG) (hlk : Cond.methodLink own idx y ∈ tbG ∨ ∃ host, Cond.methodLinkNest own idx y host ∈ tbG) (hst : (rest.map fun v => v.category).sum ≤ 8) (hd : decode cc pc = .ok (.invokestatic idx, 3)) (hp : pc + 3 = pc2)
    (k : ∀ (r1 : Unit) (S1 : Sg), Go L G Z nL ret pc2 lvs rest S1 (f r1 S1) K) : Go L G Z nL ret pc lvs (v5 :: v4 :: v3 :: v2 :: v1 :: rest) S (bd o1 f) K := by
  subst hp
  exact g_callS (As := [v1, v2, v3, v4, v5]) X hM mf hin hlk hst hd k
theorem g_cVr0 (pc2 : Nat) {y : MethodName} {b : ByteArray} {n : Nat} {rt' : Option FieldType} {o1 : Option (Nat × Sg)} {f : Nat → Sg → Option (τ × Sg)} {rest : List Value} {i ci idx : Nat} {ks : List Nat} {q : vw_C} (X : Cx L G Z cc nL own rt (d + 1)) (hM : Ct L G Z.2.1 (rR G) y b n rt' d (.ref (G.2.1 i) :: []) S o1) (mf : MF y b n rt' 0) (hin : Cond.instanceMethod y ∈ tbG ∧ Cond.selects y.cls y y ∈ tbG) (hlk : Cond.methodLink own idx y ∈ tbG) (hs : L[i]? = some (.inr (ci, ks))) (hc : vwCl[ci]? = some q) (hq : q.1 = y.cls) (hst : (rest.map fun v => v.category).sum ≤ 8) (hd : decode cc pc = .ok (.invokevirtual idx, 3)) (hp : pc + 3 = pc2)
    (k : ∀ (r1 : Nat) (S1 : Sg), Go L G Z nL ret pc2 lvs (.ref (G.2.1 r1) :: rest) S1 (f r1 S1) K) : Go L G Z nL ret pc lvs (.ref (G.2.1 i) :: rest) S (bd o1 f) K := by
  subst hp
  exact g_callV (As := []) X hM mf hin hlk hs hc hq hst hd k
theorem g_cSr0 (pc2 : Nat) {y : MethodName} {b : ByteArray} {n : Nat} {rt' : Option FieldType} {o1 : Option (Nat × Sg)} {f : Nat → Sg → Option (τ × Sg)} {rest : List Value} {idx : Nat} (X : Cx L G Z cc nL own rt (d + 1)) (hM : Ct L G Z.2.1 (rR G) y b n rt' d [] S o1) (mf : MF y b n rt' 0) (hin : Cond.static y ∈ tbG) (hlk : Cond.methodLink own idx y ∈ tbG ∨ ∃ host, Cond.methodLinkNest own idx y host ∈ tbG) (hst : (rest.map fun v => v.category).sum ≤ 8) (hd : decode cc pc = .ok (.invokestatic idx, 3)) (hp : pc + 3 = pc2)
    (k : ∀ (r1 : Nat) (S1 : Sg), Go L G Z nL ret pc2 lvs (.ref (G.2.1 r1) :: rest) S1 (f r1 S1) K) : Go L G Z nL ret pc lvs (rest) S (bd o1 f) K := by
  subst hp
  exact g_callS (As := []) X hM mf hin hlk hst hd k
theorem g_cVr1 (pc2 : Nat) {y : MethodName} {b : ByteArray} {n : Nat} {rt' : Option FieldType} {o1 : Option (Nat × Sg)} {f : Nat → Sg → Option (τ × Sg)} {v1 : Value} {rest : List Value} {i ci idx : Nat} {ks : List Nat} {q : vw_C} (X : Cx L G Z cc nL own rt (d + 1)) (hM : Ct L G Z.2.1 (rR G) y b n rt' d (.ref (G.2.1 i) :: [v1]) S o1) (mf : MF y b n rt' 1) (hin : Cond.instanceMethod y ∈ tbG ∧ Cond.selects y.cls y y ∈ tbG) (hlk : Cond.methodLink own idx y ∈ tbG) (hs : L[i]? = some (.inr (ci, ks))) (hc : vwCl[ci]? = some q) (hq : q.1 = y.cls) (hst : (rest.map fun v => v.category).sum ≤ 8) (hd : decode cc pc = .ok (.invokevirtual idx, 3)) (hp : pc + 3 = pc2)
    (k : ∀ (r1 : Nat) (S1 : Sg), Go L G Z nL ret pc2 lvs (.ref (G.2.1 r1) :: rest) S1 (f r1 S1) K) : Go L G Z nL ret pc lvs (v1 :: .ref (G.2.1 i) :: rest) S (bd o1 f) K := by
  subst hp
  exact g_callV (As := [v1]) X hM mf hin hlk hs hc hq hst hd k
theorem g_cSr1 (pc2 : Nat) {y : MethodName} {b : ByteArray} {n : Nat} {rt' : Option FieldType} {o1 : Option (Nat × Sg)} {f : Nat → Sg → Option (τ × Sg)} {v1 : Value} {rest : List Value} {idx : Nat} (X : Cx L G Z cc nL own rt (d + 1)) (hM : Ct L G Z.2.1 (rR G) y b n rt' d [v1] S o1) (mf : MF y b n rt' 1) (hin : Cond.static y ∈ tbG) (hlk : Cond.methodLink own idx y ∈ tbG ∨ ∃ host, Cond.methodLinkNest own idx y host ∈ tbG) (hst : (rest.map fun v => v.category).sum ≤ 8) (hd : decode cc pc = .ok (.invokestatic idx, 3)) (hp : pc + 3 = pc2)
    (k : ∀ (r1 : Nat) (S1 : Sg), Go L G Z nL ret pc2 lvs (.ref (G.2.1 r1) :: rest) S1 (f r1 S1) K) : Go L G Z nL ret pc lvs (v1 :: rest) S (bd o1 f) K := by
  subst hp
  exact g_callS (As := [v1]) X hM mf hin hlk hst hd k
theorem g_cVr2 (pc2 : Nat) {y : MethodName} {b : ByteArray} {n : Nat} {rt' : Option FieldType} {o1 : Option (Nat × Sg)} {f : Nat → Sg → Option (τ × Sg)} {v1 v2 : Value} {rest : List Value} {i ci idx : Nat} {ks : List Nat} {q : vw_C} (X : Cx L G Z cc nL own rt (d + 1)) (hM : Ct L G Z.2.1 (rR G) y b n rt' d (.ref (G.2.1 i) :: [v1, v2]) S o1) (mf : MF y b n rt' 2) (hin : Cond.instanceMethod y ∈ tbG ∧ Cond.selects y.cls y y ∈ tbG) (hlk : Cond.methodLink own idx y ∈ tbG) (hs : L[i]? = some (.inr (ci, ks))) (hc : vwCl[ci]? = some q) (hq : q.1 = y.cls) (hst : (rest.map fun v => v.category).sum ≤ 8) (hd : decode cc pc = .ok (.invokevirtual idx, 3)) (hp : pc + 3 = pc2)
    (k : ∀ (r1 : Nat) (S1 : Sg), Go L G Z nL ret pc2 lvs (.ref (G.2.1 r1) :: rest) S1 (f r1 S1) K) : Go L G Z nL ret pc lvs (v2 :: v1 :: .ref (G.2.1 i) :: rest) S (bd o1 f) K := by
  subst hp
  exact g_callV (As := [v1, v2]) X hM mf hin hlk hs hc hq hst hd k
theorem g_cSr2 (pc2 : Nat) {y : MethodName} {b : ByteArray} {n : Nat} {rt' : Option FieldType} {o1 : Option (Nat × Sg)} {f : Nat → Sg → Option (τ × Sg)} {v1 v2 : Value} {rest : List Value} {idx : Nat} (X : Cx L G Z cc nL own rt (d + 1)) (hM : Ct L G Z.2.1 (rR G) y b n rt' d [v1, v2] S o1) (mf : MF y b n rt' 2) (hin : Cond.static y ∈ tbG) (hlk : Cond.methodLink own idx y ∈ tbG ∨ ∃ host, Cond.methodLinkNest own idx y host ∈ tbG) (hst : (rest.map fun v => v.category).sum ≤ 8) (hd : decode cc pc = .ok (.invokestatic idx, 3)) (hp : pc + 3 = pc2)
    (k : ∀ (r1 : Nat) (S1 : Sg), Go L G Z nL ret pc2 lvs (.ref (G.2.1 r1) :: rest) S1 (f r1 S1) K) : Go L G Z nL ret pc lvs (v2 :: v1 :: rest) S (bd o1 f) K := by
  subst hp
  exact g_callS (As := [v1, v2]) X hM mf hin hlk hst hd k
theorem g_cVr3 (pc2 : Nat) {y : MethodName} {b : ByteArray} {n : Nat} {rt' : Option FieldType} {o1 : Option (Nat × Sg)} {f : Nat → Sg → Option (τ × Sg)} {v1 v2 v3 : Value} {rest : List Value} {i ci idx : Nat} {ks : List Nat} {q : vw_C} (X : Cx L G Z cc nL own rt (d + 1)) (hM : Ct L G Z.2.1 (rR G) y b n rt' d (.ref (G.2.1 i) :: [v1, v2, v3]) S o1) (mf : MF y b n rt' 3) (hin : Cond.instanceMethod y ∈ tbG ∧ Cond.selects y.cls y y ∈ tbG) (hlk : Cond.methodLink own idx y ∈ tbG) (hs : L[i]? = some (.inr (ci, ks))) (hc : vwCl[ci]? = some q) (hq : q.1 = y.cls) (hst : (rest.map fun v => v.category).sum ≤ 8) (hd : decode cc pc = .ok (.invokevirtual idx, 3)) (hp : pc + 3 = pc2)
    (k : ∀ (r1 : Nat) (S1 : Sg), Go L G Z nL ret pc2 lvs (.ref (G.2.1 r1) :: rest) S1 (f r1 S1) K) : Go L G Z nL ret pc lvs (v3 :: v2 :: v1 :: .ref (G.2.1 i) :: rest) S (bd o1 f) K := by
  subst hp
  exact g_callV (As := [v1, v2, v3]) X hM mf hin hlk hs hc hq hst hd k
theorem g_cSr3 (pc2 : Nat) {y : MethodName} {b : ByteArray} {n : Nat} {rt' : Option FieldType} {o1 : Option (Nat × Sg)} {f : Nat → Sg → Option (τ × Sg)} {v1 v2 v3 : Value} {rest : List Value} {idx : Nat} (X : Cx L G Z cc nL own rt (d + 1)) (hM : Ct L G Z.2.1 (rR G) y b n rt' d [v1, v2, v3] S o1) (mf : MF y b n rt' 3) (hin : Cond.static y ∈ tbG) (hlk : Cond.methodLink own idx y ∈ tbG ∨ ∃ host, Cond.methodLinkNest own idx y host ∈ tbG) (hst : (rest.map fun v => v.category).sum ≤ 8) (hd : decode cc pc = .ok (.invokestatic idx, 3)) (hp : pc + 3 = pc2)
    (k : ∀ (r1 : Nat) (S1 : Sg), Go L G Z nL ret pc2 lvs (.ref (G.2.1 r1) :: rest) S1 (f r1 S1) K) : Go L G Z nL ret pc lvs (v3 :: v2 :: v1 :: rest) S (bd o1 f) K := by
  subst hp
  exact g_callS (As := [v1, v2, v3]) X hM mf hin hlk hst hd k
theorem g_cVr4 (pc2 : Nat) {y : MethodName} {b : ByteArray} {n : Nat} {rt' : Option FieldType} {o1 : Option (Nat × Sg)} {f : Nat → Sg → Option (τ × Sg)} {v1 v2 v3 v4 : Value} {rest : List Value} {i ci idx : Nat} {ks : List Nat} {q : vw_C} (X : Cx L G Z cc nL own rt (d + 1)) (hM : Ct L G Z.2.1 (rR G) y b n rt' d (.ref (G.2.1 i) :: [v1, v2, v3, v4]) S o1) (mf : MF y b n rt' 4) (hin : Cond.instanceMethod y ∈ tbG ∧ Cond.selects y.cls y y ∈ tbG) (hlk : Cond.methodLink own idx y ∈ tbG) (hs : L[i]? = some (.inr (ci, ks))) (hc : vwCl[ci]? = some q) (hq : q.1 = y.cls) (hst : (rest.map fun v => v.category).sum ≤ 8) (hd : decode cc pc = .ok (.invokevirtual idx, 3)) (hp : pc + 3 = pc2)
    (k : ∀ (r1 : Nat) (S1 : Sg), Go L G Z nL ret pc2 lvs (.ref (G.2.1 r1) :: rest) S1 (f r1 S1) K) : Go L G Z nL ret pc lvs (v4 :: v3 :: v2 :: v1 :: .ref (G.2.1 i) :: rest) S (bd o1 f) K := by
  subst hp
  exact g_callV (As := [v1, v2, v3, v4]) X hM mf hin hlk hs hc hq hst hd k
theorem g_cSr4 (pc2 : Nat) {y : MethodName} {b : ByteArray} {n : Nat} {rt' : Option FieldType} {o1 : Option (Nat × Sg)} {f : Nat → Sg → Option (τ × Sg)} {v1 v2 v3 v4 : Value} {rest : List Value} {idx : Nat} (X : Cx L G Z cc nL own rt (d + 1)) (hM : Ct L G Z.2.1 (rR G) y b n rt' d [v1, v2, v3, v4] S o1) (mf : MF y b n rt' 4) (hin : Cond.static y ∈ tbG) (hlk : Cond.methodLink own idx y ∈ tbG ∨ ∃ host, Cond.methodLinkNest own idx y host ∈ tbG) (hst : (rest.map fun v => v.category).sum ≤ 8) (hd : decode cc pc = .ok (.invokestatic idx, 3)) (hp : pc + 3 = pc2)
    (k : ∀ (r1 : Nat) (S1 : Sg), Go L G Z nL ret pc2 lvs (.ref (G.2.1 r1) :: rest) S1 (f r1 S1) K) : Go L G Z nL ret pc lvs (v4 :: v3 :: v2 :: v1 :: rest) S (bd o1 f) K := by
  subst hp
  exact g_callS (As := [v1, v2, v3, v4]) X hM mf hin hlk hst hd k
theorem g_cVr5 (pc2 : Nat) {y : MethodName} {b : ByteArray} {n : Nat} {rt' : Option FieldType} {o1 : Option (Nat × Sg)} {f : Nat → Sg → Option (τ × Sg)} {v1 v2 v3 v4 v5 : Value} {rest : List Value} {i ci idx : Nat} {ks : List Nat} {q : vw_C} (X : Cx L G Z cc nL own rt (d + 1)) (hM : Ct L G Z.2.1 (rR G) y b n rt' d (.ref (G.2.1 i) :: [v1, v2, v3, v4, v5]) S o1) (mf : MF y b n rt' 5) (hin : Cond.instanceMethod y ∈ tbG ∧ Cond.selects y.cls y y ∈ tbG) (hlk : Cond.methodLink own idx y ∈ tbG) (hs : L[i]? = some (.inr (ci, ks))) (hc : vwCl[ci]? = some q) (hq : q.1 = y.cls) (hst : (rest.map fun v => v.category).sum ≤ 8) (hd : decode cc pc = .ok (.invokevirtual idx, 3)) (hp : pc + 3 = pc2)
    (k : ∀ (r1 : Nat) (S1 : Sg), Go L G Z nL ret pc2 lvs (.ref (G.2.1 r1) :: rest) S1 (f r1 S1) K) : Go L G Z nL ret pc lvs (v5 :: v4 :: v3 :: v2 :: v1 :: .ref (G.2.1 i) :: rest) S (bd o1 f) K := by
  subst hp
  exact g_callV (As := [v1, v2, v3, v4, v5]) X hM mf hin hlk hs hc hq hst hd k
theorem g_cSr5 (pc2 : Nat) {y : MethodName} {b : ByteArray} {n : Nat} {rt' : Option FieldType} {o1 : Option (Nat × Sg)} {f : Nat → Sg → Option (τ × Sg)} {v1 v2 v3 v4 v5 : Value} {rest : List Value} {idx : Nat} (X : Cx L G Z cc nL own rt (d + 1)) (hM : Ct L G Z.2.1 (rR G) y b n rt' d [v1, v2, v3, v4, v5] S o1) (mf : MF y b n rt' 5) (hin : Cond.static y ∈ tbG) (hlk : Cond.methodLink own idx y ∈ tbG ∨ ∃ host, Cond.methodLinkNest own idx y host ∈ tbG) (hst : (rest.map fun v => v.category).sum ≤ 8) (hd : decode cc pc = .ok (.invokestatic idx, 3)) (hp : pc + 3 = pc2)
    (k : ∀ (r1 : Nat) (S1 : Sg), Go L G Z nL ret pc2 lvs (.ref (G.2.1 r1) :: rest) S1 (f r1 S1) K) : Go L G Z nL ret pc lvs (v5 :: v4 :: v3 :: v2 :: v1 :: rest) S (bd o1 f) K := by
  subst hp
  exact g_callS (As := [v1, v2, v3, v4, v5]) X hM mf hin hlk hst hd k
end GO
end
