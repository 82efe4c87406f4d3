-- ===== PART A: goes FIRST, ahead of the names: the tables' words, and 'selects' of the private methods out of them =====
/-- a private method of a class that the tables say can be made, by its rows of tables_1 -/
def lw_okq (q : MethodName × Nat) : Prop := (q.1.cls ≠ "java/lang/invoke/MethodHandle" ∧ q.1.cls ≠ "java/lang/invoke/VarHandle") ∧ Cond.instantiable q.1.cls q.2 ∈ tables_1 ∧ Cond.privateMethod q.1 ∈ tables_1 ∧ Cond.instanceMethod q.1 ∈ tables_1
theorem lw_p0 : lw_okq (⟨"ShiftCharts$Text", "take", "(II)I"⟩, 7) := ⟨⟨by decide +kernel, by decide +kernel⟩, List.mem_of_getElem? (i := 106) (by decide +kernel), List.mem_of_getElem? (i := 368) (by decide +kernel), List.mem_of_getElem? (i := 369) (by decide +kernel)⟩
theorem lw_p1 : lw_okq (⟨"ShiftCharts$Text", "takeLetter", "(I)I"⟩, 7) := ⟨⟨by decide +kernel, by decide +kernel⟩, List.mem_of_getElem? (i := 106) (by decide +kernel), List.mem_of_getElem? (i := 372) (by decide +kernel), List.mem_of_getElem? (i := 373) (by decide +kernel)⟩
theorem lw_p2 : lw_okq (⟨"ShiftCharts$Text", "takeWhich", "(I)I"⟩, 7) := ⟨⟨by decide +kernel, by decide +kernel⟩, List.mem_of_getElem? (i := 106) (by decide +kernel), List.mem_of_getElem? (i := 379) (by decide +kernel), List.mem_of_getElem? (i := 380) (by decide +kernel)⟩
theorem lw_p3 : lw_okq (⟨"ShiftCharts$Text", "takeDigit", "(II)I"⟩, 7) := ⟨⟨by decide +kernel, by decide +kernel⟩, List.mem_of_getElem? (i := 106) (by decide +kernel), List.mem_of_getElem? (i := 386) (by decide +kernel), List.mem_of_getElem? (i := 387) (by decide +kernel)⟩
theorem lw_p4 : lw_okq (⟨"ShiftCharts$Text", "takeEnd", "(I)I"⟩, 7) := ⟨⟨by decide +kernel, by decide +kernel⟩, List.mem_of_getElem? (i := 106) (by decide +kernel), List.mem_of_getElem? (i := 390) (by decide +kernel), List.mem_of_getElem? (i := 391) (by decide +kernel)⟩
theorem lw_p5 : lw_okq (⟨"ShiftCharts", "obey", "(III)Z"⟩, 9) := ⟨⟨by decide +kernel, by decide +kernel⟩, List.mem_of_getElem? (i := 13) (by decide +kernel), List.mem_of_getElem? (i := 394) (by decide +kernel), List.mem_of_getElem? (i := 395) (by decide +kernel)⟩
theorem lw_p6 : lw_okq (⟨"ShiftCharts", "drawNow", "(I)V"⟩, 9) := ⟨⟨by decide +kernel, by decide +kernel⟩, List.mem_of_getElem? (i := 13) (by decide +kernel), List.mem_of_getElem? (i := 411) (by decide +kernel), List.mem_of_getElem? (i := 412) (by decide +kernel)⟩
theorem lw_p7 : lw_okq (⟨"ShiftCharts", "draw", "(LShiftCharts$Stream;II)V"⟩, 9) := ⟨⟨by decide +kernel, by decide +kernel⟩, List.mem_of_getElem? (i := 13) (by decide +kernel), List.mem_of_getElem? (i := 415) (by decide +kernel), List.mem_of_getElem? (i := 416) (by decide +kernel)⟩
theorem lw_p8 : lw_okq (⟨"ShiftCharts$Chart", "alarmed", "(III)Z"⟩, 10) := ⟨⟨by decide +kernel, by decide +kernel⟩, List.mem_of_getElem? (i := 141) (by decide +kernel), List.mem_of_getElem? (i := 429) (by decide +kernel), List.mem_of_getElem? (i := 430) (by decide +kernel)⟩
theorem lw_p9 : lw_okq (⟨"ShiftCharts", "drawJoint", "(I)V"⟩, 9) := ⟨⟨by decide +kernel, by decide +kernel⟩, List.mem_of_getElem? (i := 13) (by decide +kernel), List.mem_of_getElem? (i := 453) (by decide +kernel), List.mem_of_getElem? (i := 454) (by decide +kernel)⟩
theorem lw_p10 : lw_okq (⟨"ShiftCharts$Stream", "squareApart", "(III)J"⟩, 6) := ⟨⟨by decide +kernel, by decide +kernel⟩, List.mem_of_getElem? (i := 54) (by decide +kernel), List.mem_of_getElem? (i := 485) (by decide +kernel), List.mem_of_getElem? (i := 486) (by decide +kernel)⟩
theorem lw_p11 : lw_okq (⟨"ShiftCharts", "layChain", "(II)Z"⟩, 9) := ⟨⟨by decide +kernel, by decide +kernel⟩, List.mem_of_getElem? (i := 13) (by decide +kernel), List.mem_of_getElem? (i := 520) (by decide +kernel), List.mem_of_getElem? (i := 521) (by decide +kernel)⟩
theorem lw_p12 : lw_okq (⟨"ShiftCharts$Chain", "spread", "()V"⟩, 13) := ⟨⟨by decide +kernel, by decide +kernel⟩, List.mem_of_getElem? (i := 184) (by decide +kernel), List.mem_of_getElem? (i := 532) (by decide +kernel), List.mem_of_getElem? (i := 533) (by decide +kernel)⟩
theorem lw_p13 : lw_okq (⟨"ShiftCharts$Chain", "next", "(II)I"⟩, 13) := ⟨⟨by decide +kernel, by decide +kernel⟩, List.mem_of_getElem? (i := 184) (by decide +kernel), List.mem_of_getElem? (i := 536) (by decide +kernel), List.mem_of_getElem? (i := 537) (by decide +kernel)⟩
theorem lw_p14 : lw_okq (⟨"ShiftCharts$Chain", "rankReached", "(I)I"⟩, 13) := ⟨⟨by decide +kernel, by decide +kernel⟩, List.mem_of_getElem? (i := 184) (by decide +kernel), List.mem_of_getElem? (i := 546) (by decide +kernel), List.mem_of_getElem? (i := 547) (by decide +kernel)⟩
theorem lw_p15 : lw_okq (⟨"ShiftCharts$Chain", "fillSystem", "(I)V"⟩, 13) := ⟨⟨by decide +kernel, by decide +kernel⟩, List.mem_of_getElem? (i := 184) (by decide +kernel), List.mem_of_getElem? (i := 550) (by decide +kernel), List.mem_of_getElem? (i := 551) (by decide +kernel)⟩
def lw_privs_1 : List (MethodName × Nat) := [(⟨"ShiftCharts$Text", "take", "(II)I"⟩, 7), (⟨"ShiftCharts$Text", "takeLetter", "(I)I"⟩, 7), (⟨"ShiftCharts$Text", "takeWhich", "(I)I"⟩, 7), (⟨"ShiftCharts$Text", "takeDigit", "(II)I"⟩, 7), (⟨"ShiftCharts$Text", "takeEnd", "(I)I"⟩, 7), (⟨"ShiftCharts", "obey", "(III)Z"⟩, 9), (⟨"ShiftCharts", "drawNow", "(I)V"⟩, 9), (⟨"ShiftCharts", "draw", "(LShiftCharts$Stream;II)V"⟩, 9), (⟨"ShiftCharts$Chart", "alarmed", "(III)Z"⟩, 10), (⟨"ShiftCharts", "drawJoint", "(I)V"⟩, 9), (⟨"ShiftCharts$Stream", "squareApart", "(III)J"⟩, 6), (⟨"ShiftCharts", "layChain", "(II)Z"⟩, 9), (⟨"ShiftCharts$Chain", "spread", "()V"⟩, 13), (⟨"ShiftCharts$Chain", "next", "(II)I"⟩, 13), (⟨"ShiftCharts$Chain", "rankReached", "(I)I"⟩, 13), (⟨"ShiftCharts$Chain", "fillSystem", "(I)V"⟩, 13)]
theorem lw_r1 : ∀ q ∈ lw_privs_1, lw_okq q := List.forall_mem_cons.mpr ⟨lw_p0, List.forall_mem_cons.mpr ⟨lw_p1, List.forall_mem_cons.mpr ⟨lw_p2, List.forall_mem_cons.mpr ⟨lw_p3, List.forall_mem_cons.mpr ⟨lw_p4, List.forall_mem_cons.mpr ⟨lw_p5, List.forall_mem_cons.mpr ⟨lw_p6, List.forall_mem_cons.mpr ⟨lw_p7, List.forall_mem_cons.mpr ⟨lw_p8, List.forall_mem_cons.mpr ⟨lw_p9, List.forall_mem_cons.mpr ⟨lw_p10, List.forall_mem_cons.mpr ⟨lw_p11, List.forall_mem_cons.mpr ⟨lw_p12, List.forall_mem_cons.mpr ⟨lw_p13, List.forall_mem_cons.mpr ⟨lw_p14, List.forall_mem_cons.mpr ⟨lw_p15, fun _ h => absurd h List.not_mem_nil⟩⟩⟩⟩⟩⟩⟩⟩⟩⟩⟩⟩⟩⟩⟩⟩
theorem lw_p16 : lw_okq (⟨"ShiftCharts$Chain", "eliminate", "(I)V"⟩, 13) := ⟨⟨by decide +kernel, by decide +kernel⟩, List.mem_of_getElem? (i := 184) (by decide +kernel), List.mem_of_getElem? (i := 554) (by decide +kernel), List.mem_of_getElem? (i := 555) (by decide +kernel)⟩
theorem lw_p17 : lw_okq (⟨"ShiftCharts$Chain", "walkOneStep", "()V"⟩, 13) := ⟨⟨by decide +kernel, by decide +kernel⟩, List.mem_of_getElem? (i := 184) (by decide +kernel), List.mem_of_getElem? (i := 569) (by decide +kernel), List.mem_of_getElem? (i := 570) (by decide +kernel)⟩
theorem lw_p18 : lw_okq (⟨"ShiftCharts", "showsSeen", "(I)Z"⟩, 9) := ⟨⟨by decide +kernel, by decide +kernel⟩, List.mem_of_getElem? (i := 13) (by decide +kernel), List.mem_of_getElem? (i := 600) (by decide +kernel), List.mem_of_getElem? (i := 601) (by decide +kernel)⟩
theorem lw_p19 : lw_okq (⟨"ShiftCharts", "followPlan", "()V"⟩, 9) := ⟨⟨by decide +kernel, by decide +kernel⟩, List.mem_of_getElem? (i := 13) (by decide +kernel), List.mem_of_getElem? (i := 629) (by decide +kernel), List.mem_of_getElem? (i := 630) (by decide +kernel)⟩
theorem lw_p20 : lw_okq (⟨"ShiftChartsModel", "many", "(I)I"⟩, 22) := ⟨⟨by decide +kernel, by decide +kernel⟩, List.mem_of_getElem? (i := 719) (by decide +kernel), List.mem_of_getElem? (i := 806) (by decide +kernel), List.mem_of_getElem? (i := 807) (by decide +kernel)⟩
theorem lw_p21 : lw_okq (⟨"ShiftChartsModel", "comes", "(II)V"⟩, 22) := ⟨⟨by decide +kernel, by decide +kernel⟩, List.mem_of_getElem? (i := 719) (by decide +kernel), List.mem_of_getElem? (i := 810) (by decide +kernel), List.mem_of_getElem? (i := 811) (by decide +kernel)⟩
theorem lw_p22 : lw_okq (⟨"ShiftChartsModel", "startOf", "(I)I"⟩, 22) := ⟨⟨by decide +kernel, by decide +kernel⟩, List.mem_of_getElem? (i := 719) (by decide +kernel), List.mem_of_getElem? (i := 830) (by decide +kernel), List.mem_of_getElem? (i := 831) (by decide +kernel)⟩
theorem lw_p23 : lw_okq (⟨"ShiftChartsModel", "isPlace", "(II)Z"⟩, 22) := ⟨⟨by decide +kernel, by decide +kernel⟩, List.mem_of_getElem? (i := 719) (by decide +kernel), List.mem_of_getElem? (i := 838) (by decide +kernel), List.mem_of_getElem? (i := 839) (by decide +kernel)⟩
theorem lw_p24 : lw_okq (⟨"ShiftChartsModel", "valueAt", "(II)I"⟩, 22) := ⟨⟨by decide +kernel, by decide +kernel⟩, List.mem_of_getElem? (i := 719) (by decide +kernel), List.mem_of_getElem? (i := 842) (by decide +kernel), List.mem_of_getElem? (i := 843) (by decide +kernel)⟩
theorem lw_p25 : lw_okq (⟨"ShiftChartsModel", "offAt", "(II)I"⟩, 22) := ⟨⟨by decide +kernel, by decide +kernel⟩, List.mem_of_getElem? (i := 719) (by decide +kernel), List.mem_of_getElem? (i := 850) (by decide +kernel), List.mem_of_getElem? (i := 851) (by decide +kernel)⟩
theorem lw_p26 : lw_okq (⟨"ShiftChartsModel", "readsText", "()Z"⟩, 22) := ⟨⟨by decide +kernel, by decide +kernel⟩, List.mem_of_getElem? (i := 719) (by decide +kernel), List.mem_of_getElem? (i := 864) (by decide +kernel), List.mem_of_getElem? (i := 865) (by decide +kernel)⟩
theorem lw_p27 : lw_okq (⟨"ShiftChartsModel", "readsClause", "()Z"⟩, 22) := ⟨⟨by decide +kernel, by decide +kernel⟩, List.mem_of_getElem? (i := 719) (by decide +kernel), List.mem_of_getElem? (i := 868) (by decide +kernel), List.mem_of_getElem? (i := 869) (by decide +kernel)⟩
theorem lw_p28 : lw_okq (⟨"ShiftChartsModel", "digit", "()I"⟩, 22) := ⟨⟨by decide +kernel, by decide +kernel⟩, List.mem_of_getElem? (i := 719) (by decide +kernel), List.mem_of_getElem? (i := 872) (by decide +kernel), List.mem_of_getElem? (i := 873) (by decide +kernel)⟩
theorem lw_p29 : lw_okq (⟨"ShiftChartsModel", "isSign", "(II)Z"⟩, 22) := ⟨⟨by decide +kernel, by decide +kernel⟩, List.mem_of_getElem? (i := 719) (by decide +kernel), List.mem_of_getElem? (i := 876) (by decide +kernel), List.mem_of_getElem? (i := 877) (by decide +kernel)⟩
theorem lw_p30 : lw_okq (⟨"ShiftChartsModel", "number", "()Z"⟩, 22) := ⟨⟨by decide +kernel, by decide +kernel⟩, List.mem_of_getElem? (i := 719) (by decide +kernel), List.mem_of_getElem? (i := 880) (by decide +kernel), List.mem_of_getElem? (i := 881) (by decide +kernel)⟩
theorem lw_p31 : lw_okq (⟨"ShiftChartsModel", "isDone", "(III)Z"⟩, 22) := ⟨⟨by decide +kernel, by decide +kernel⟩, List.mem_of_getElem? (i := 719) (by decide +kernel), List.mem_of_getElem? (i := 884) (by decide +kernel), List.mem_of_getElem? (i := 885) (by decide +kernel)⟩
def lw_privs_2 : List (MethodName × Nat) := [(⟨"ShiftCharts$Chain", "eliminate", "(I)V"⟩, 13), (⟨"ShiftCharts$Chain", "walkOneStep", "()V"⟩, 13), (⟨"ShiftCharts", "showsSeen", "(I)Z"⟩, 9), (⟨"ShiftCharts", "followPlan", "()V"⟩, 9), (⟨"ShiftChartsModel", "many", "(I)I"⟩, 22), (⟨"ShiftChartsModel", "comes", "(II)V"⟩, 22), (⟨"ShiftChartsModel", "startOf", "(I)I"⟩, 22), (⟨"ShiftChartsModel", "isPlace", "(II)Z"⟩, 22), (⟨"ShiftChartsModel", "valueAt", "(II)I"⟩, 22), (⟨"ShiftChartsModel", "offAt", "(II)I"⟩, 22), (⟨"ShiftChartsModel", "readsText", "()Z"⟩, 22), (⟨"ShiftChartsModel", "readsClause", "()Z"⟩, 22), (⟨"ShiftChartsModel", "digit", "()I"⟩, 22), (⟨"ShiftChartsModel", "isSign", "(II)Z"⟩, 22), (⟨"ShiftChartsModel", "number", "()Z"⟩, 22), (⟨"ShiftChartsModel", "isDone", "(III)Z"⟩, 22)]
theorem lw_r2 : ∀ q ∈ lw_privs_2, lw_okq q := List.forall_mem_cons.mpr ⟨lw_p16, List.forall_mem_cons.mpr ⟨lw_p17, List.forall_mem_cons.mpr ⟨lw_p18, List.forall_mem_cons.mpr ⟨lw_p19, List.forall_mem_cons.mpr ⟨lw_p20, List.forall_mem_cons.mpr ⟨lw_p21, List.forall_mem_cons.mpr ⟨lw_p22, List.forall_mem_cons.mpr ⟨lw_p23, List.forall_mem_cons.mpr ⟨lw_p24, List.forall_mem_cons.mpr ⟨lw_p25, List.forall_mem_cons.mpr ⟨lw_p26, List.forall_mem_cons.mpr ⟨lw_p27, List.forall_mem_cons.mpr ⟨lw_p28, List.forall_mem_cons.mpr ⟨lw_p29, List.forall_mem_cons.mpr ⟨lw_p30, List.forall_mem_cons.mpr ⟨lw_p31, fun _ h => absurd h List.not_mem_nil⟩⟩⟩⟩⟩⟩⟩⟩⟩⟩⟩⟩⟩⟩⟩⟩
theorem lw_p32 : lw_okq (⟨"ShiftChartsModel", "goesThrough", "(I)V"⟩, 22) := ⟨⟨by decide +kernel, by decide +kernel⟩, List.mem_of_getElem? (i := 719) (by decide +kernel), List.mem_of_getElem? (i := 898) (by decide +kernel), List.mem_of_getElem? (i := 899) (by decide +kernel)⟩
theorem lw_p33 : lw_okq (⟨"ShiftChartsModel", "goesOn", "(IIII)Z"⟩, 22) := ⟨⟨by decide +kernel, by decide +kernel⟩, List.mem_of_getElem? (i := 719) (by decide +kernel), List.mem_of_getElem? (i := 902) (by decide +kernel), List.mem_of_getElem? (i := 903) (by decide +kernel)⟩
theorem lw_p34 : lw_okq (⟨"ShiftChartsModel", "goesJoint", "()I"⟩, 22) := ⟨⟨by decide +kernel, by decide +kernel⟩, List.mem_of_getElem? (i := 719) (by decide +kernel), List.mem_of_getElem? (i := 922) (by decide +kernel), List.mem_of_getElem? (i := 923) (by decide +kernel)⟩
theorem lw_p35 : lw_okq (⟨"ShiftChartsModel", "firstAlarm", "()I"⟩, 22) := ⟨⟨by decide +kernel, by decide +kernel⟩, List.mem_of_getElem? (i := 719) (by decide +kernel), List.mem_of_getElem? (i := 926) (by decide +kernel), List.mem_of_getElem? (i := 927) (by decide +kernel)⟩
theorem lw_p36 : lw_okq (⟨"ShiftChartsModel", "changeOf", "(I)I"⟩, 22) := ⟨⟨by decide +kernel, by decide +kernel⟩, List.mem_of_getElem? (i := 719) (by decide +kernel), List.mem_of_getElem? (i := 934) (by decide +kernel), List.mem_of_getElem? (i := 935) (by decide +kernel)⟩
theorem lw_p37 : lw_okq (⟨"ShiftChartsModel", "gainAbove", "(II)J"⟩, 22) := ⟨⟨by decide +kernel, by decide +kernel⟩, List.mem_of_getElem? (i := 719) (by decide +kernel), List.mem_of_getElem? (i := 938) (by decide +kernel), List.mem_of_getElem? (i := 939) (by decide +kernel)⟩
theorem lw_p38 : lw_okq (⟨"ShiftChartsModel", "total", "(II)J"⟩, 22) := ⟨⟨by decide +kernel, by decide +kernel⟩, List.mem_of_getElem? (i := 719) (by decide +kernel), List.mem_of_getElem? (i := 942) (by decide +kernel), List.mem_of_getElem? (i := 943) (by decide +kernel)⟩
theorem lw_p39 : lw_okq (⟨"ShiftChartsModel", "gainBelow", "(II)J"⟩, 22) := ⟨⟨by decide +kernel, by decide +kernel⟩, List.mem_of_getElem? (i := 719) (by decide +kernel), List.mem_of_getElem? (i := 946) (by decide +kernel), List.mem_of_getElem? (i := 947) (by decide +kernel)⟩
theorem lw_p40 : lw_okq (⟨"ShiftChartsModel", "isChain", "(II)Z"⟩, 22) := ⟨⟨by decide +kernel, by decide +kernel⟩, List.mem_of_getElem? (i := 719) (by decide +kernel), List.mem_of_getElem? (i := 970) (by decide +kernel), List.mem_of_getElem? (i := 971) (by decide +kernel)⟩
theorem lw_p41 : lw_okq (⟨"ShiftChartsModel", "allWeights", "()I"⟩, 22) := ⟨⟨by decide +kernel, by decide +kernel⟩, List.mem_of_getElem? (i := 719) (by decide +kernel), List.mem_of_getElem? (i := 974) (by decide +kernel), List.mem_of_getElem? (i := 975) (by decide +kernel)⟩
theorem lw_p42 : lw_okq (⟨"ShiftChartsModel", "reaches", "(II)I"⟩, 22) := ⟨⟨by decide +kernel, by decide +kernel⟩, List.mem_of_getElem? (i := 719) (by decide +kernel), List.mem_of_getElem? (i := 978) (by decide +kernel), List.mem_of_getElem? (i := 979) (by decide +kernel)⟩
theorem lw_p43 : lw_okq (⟨"ShiftChartsModel", "leads", "(III)I"⟩, 22) := ⟨⟨by decide +kernel, by decide +kernel⟩, List.mem_of_getElem? (i := 719) (by decide +kernel), List.mem_of_getElem? (i := 982) (by decide +kernel), List.mem_of_getElem? (i := 983) (by decide +kernel)⟩
theorem lw_p44 : lw_okq (⟨"ShiftChartsModel", "equations", "(II)V"⟩, 22) := ⟨⟨by decide +kernel, by decide +kernel⟩, List.mem_of_getElem? (i := 719) (by decide +kernel), List.mem_of_getElem? (i := 986) (by decide +kernel), List.mem_of_getElem? (i := 987) (by decide +kernel)⟩
theorem lw_p45 : lw_okq (⟨"ShiftChartsModel", "clears", "(I)V"⟩, 22) := ⟨⟨by decide +kernel, by decide +kernel⟩, List.mem_of_getElem? (i := 719) (by decide +kernel), List.mem_of_getElem? (i := 990) (by decide +kernel), List.mem_of_getElem? (i := 991) (by decide +kernel)⟩
theorem lw_p46 : lw_okq (⟨"ShiftChartsModel", "swaps", "(III)V"⟩, 22) := ⟨⟨by decide +kernel, by decide +kernel⟩, List.mem_of_getElem? (i := 719) (by decide +kernel), List.mem_of_getElem? (i := 994) (by decide +kernel), List.mem_of_getElem? (i := 995) (by decide +kernel)⟩
theorem lw_p47 : lw_okq (⟨"ShiftChartsModel", "firstBy", "(III)I"⟩, 22) := ⟨⟨by decide +kernel, by decide +kernel⟩, List.mem_of_getElem? (i := 719) (by decide +kernel), List.mem_of_getElem? (i := 1006) (by decide +kernel), List.mem_of_getElem? (i := 1007) (by decide +kernel)⟩
def lw_privs_3 : List (MethodName × Nat) := [(⟨"ShiftChartsModel", "goesThrough", "(I)V"⟩, 22), (⟨"ShiftChartsModel", "goesOn", "(IIII)Z"⟩, 22), (⟨"ShiftChartsModel", "goesJoint", "()I"⟩, 22), (⟨"ShiftChartsModel", "firstAlarm", "()I"⟩, 22), (⟨"ShiftChartsModel", "changeOf", "(I)I"⟩, 22), (⟨"ShiftChartsModel", "gainAbove", "(II)J"⟩, 22), (⟨"ShiftChartsModel", "total", "(II)J"⟩, 22), (⟨"ShiftChartsModel", "gainBelow", "(II)J"⟩, 22), (⟨"ShiftChartsModel", "isChain", "(II)Z"⟩, 22), (⟨"ShiftChartsModel", "allWeights", "()I"⟩, 22), (⟨"ShiftChartsModel", "reaches", "(II)I"⟩, 22), (⟨"ShiftChartsModel", "leads", "(III)I"⟩, 22), (⟨"ShiftChartsModel", "equations", "(II)V"⟩, 22), (⟨"ShiftChartsModel", "clears", "(I)V"⟩, 22), (⟨"ShiftChartsModel", "swaps", "(III)V"⟩, 22), (⟨"ShiftChartsModel", "firstBy", "(III)I"⟩, 22)]
theorem lw_r3 : ∀ q ∈ lw_privs_3, lw_okq q := List.forall_mem_cons.mpr ⟨lw_p32, List.forall_mem_cons.mpr ⟨lw_p33, List.forall_mem_cons.mpr ⟨lw_p34, List.forall_mem_cons.mpr ⟨lw_p35, List.forall_mem_cons.mpr ⟨lw_p36, List.forall_mem_cons.mpr ⟨lw_p37, List.forall_mem_cons.mpr ⟨lw_p38, List.forall_mem_cons.mpr ⟨lw_p39, List.forall_mem_cons.mpr ⟨lw_p40, List.forall_mem_cons.mpr ⟨lw_p41, List.forall_mem_cons.mpr ⟨lw_p42, List.forall_mem_cons.mpr ⟨lw_p43, List.forall_mem_cons.mpr ⟨lw_p44, List.forall_mem_cons.mpr ⟨lw_p45, List.forall_mem_cons.mpr ⟨lw_p46, List.forall_mem_cons.mpr ⟨lw_p47, fun _ h => absurd h List.not_mem_nil⟩⟩⟩⟩⟩⟩⟩⟩⟩⟩⟩⟩⟩⟩⟩⟩
theorem lw_p48 : lw_okq (⟨"ShiftChartsModel", "row", "(III)I"⟩, 22) := ⟨⟨by decide +kernel, by decide +kernel⟩, List.mem_of_getElem? (i := 719) (by decide +kernel), List.mem_of_getElem? (i := 1018) (by decide +kernel), List.mem_of_getElem? (i := 1019) (by decide +kernel)⟩
theorem lw_p49 : lw_okq (⟨"ShiftChartsModel", "isAllSeen", "(I)Z"⟩, 22) := ⟨⟨by decide +kernel, by decide +kernel⟩, List.mem_of_getElem? (i := 719) (by decide +kernel), List.mem_of_getElem? (i := 1026) (by decide +kernel), List.mem_of_getElem? (i := 1027) (by decide +kernel)⟩
theorem lw_p50 : lw_okq (⟨"ShiftChartsModel", "isAlarmAt", "(I)Z"⟩, 22) := ⟨⟨by decide +kernel, by decide +kernel⟩, List.mem_of_getElem? (i := 719) (by decide +kernel), List.mem_of_getElem? (i := 1030) (by decide +kernel), List.mem_of_getElem? (i := 1031) (by decide +kernel)⟩
theorem lw_p51 : lw_okq (⟨"ShiftChartsModel", "goes", "(II)V"⟩, 22) := ⟨⟨by decide +kernel, by decide +kernel⟩, List.mem_of_getElem? (i := 719) (by decide +kernel), List.mem_of_getElem? (i := 1054) (by decide +kernel), List.mem_of_getElem? (i := 1055) (by decide +kernel)⟩
theorem lw_p52 : lw_okq (⟨"ShiftChartsModel", "allValues", "()I"⟩, 22) := ⟨⟨by decide +kernel, by decide +kernel⟩, List.mem_of_getElem? (i := 719) (by decide +kernel), List.mem_of_getElem? (i := 1077) (by decide +kernel), List.mem_of_getElem? (i := 1078) (by decide +kernel)⟩
def lw_privs_4 : List (MethodName × Nat) := [(⟨"ShiftChartsModel", "row", "(III)I"⟩, 22), (⟨"ShiftChartsModel", "isAllSeen", "(I)Z"⟩, 22), (⟨"ShiftChartsModel", "isAlarmAt", "(I)Z"⟩, 22), (⟨"ShiftChartsModel", "goes", "(II)V"⟩, 22), (⟨"ShiftChartsModel", "allValues", "()I"⟩, 22)]
theorem lw_r4 : ∀ q ∈ lw_privs_4, lw_okq q := List.forall_mem_cons.mpr ⟨lw_p48, List.forall_mem_cons.mpr ⟨lw_p49, List.forall_mem_cons.mpr ⟨lw_p50, List.forall_mem_cons.mpr ⟨lw_p51, List.forall_mem_cons.mpr ⟨lw_p52, fun _ h => absurd h List.not_mem_nil⟩⟩⟩⟩⟩
def lw_privs : List (MethodName × Nat) := lw_privs_1 ++ (lw_privs_2 ++ (lw_privs_3 ++ (lw_privs_4)))
def lw_tbl : List Cond := k2_sels lw_privs ++ tables_1
theorem lw_privs_ok : ∀ q ∈ lw_privs, lw_okq q := by
  show ∀ q ∈ lw_privs_1 ++ (lw_privs_2 ++ (lw_privs_3 ++ (lw_privs_4))), lw_okq q
  exact List.forall_mem_append.mpr ⟨lw_r1, List.forall_mem_append.mpr ⟨lw_r2, List.forall_mem_append.mpr ⟨lw_r3, lw_r4⟩⟩⟩
def RX0 : String := "ShiftCharts$Chain"
def TX0 : u_T := fun k => match k with
  | 0 => ("ShiftCharts$Chain", "slack", "I", false)
  | 1 => ("ShiftCharts$Chain", "limit", "I", false)
  | 2 => ("ShiftCharts$Chain", "weights", "[I", true)
  | 3 => ("ShiftCharts$Chain", "allWeights", "I", false)
  | 4 => ("ShiftCharts$Chain", "above", "J", false)
  | 5 => ("ShiftCharts$Chain", "below", "J", false)
  | 6 => ("ShiftCharts$Chain", "ways", "[J", true)
  | 7 => ("ShiftCharts$Chain", "waysNext", "[J", true)
  | 8 => ("ShiftCharts$Chain", "reached", "[Z", true)
  | 9 => ("ShiftCharts$Chain", "alarming", "[Z", true)
  | 10 => ("ShiftCharts$Chain", "order", "[I", true)
  | 11 => ("ShiftCharts$Chain", "rank", "[I", true)
  | _ => ("ShiftCharts$Chain", "system", "[[J", true)
def tyX0 : Nat → FieldType := fun k => match k with
  | 0 => .int
  | 1 => .int
  | 2 => .array .int
  | 3 => .int
  | 4 => .long
  | 5 => .long
  | 6 => .array .long
  | 7 => .array .long
  | 8 => .array .boolean
  | 9 => .array .boolean
  | 10 => .array .int
  | 11 => .array .int
  | _ => .array (.array .long)
theorem nmX0 : ∀ a, a < 13 → ∀ b, b < 13 → a ≠ b → (TX0 a).2.1 ≠ (TX0 b).2.1 := by decide +kernel
theorem tyX0_ok : ∀ k, k < 13 → parseFieldDescriptor (TX0 k).2.2.1 = some (tyX0 k) := by decide +kernel
abbrev cX0_init : ByteArray := prog_2_method_1_code
def yX0_init : MethodName := ⟨RX0, "<init>", "()V"⟩
abbrev cX0_lay : ByteArray := prog_2_method_2_code
def yX0_lay : MethodName := ⟨RX0, "lay", "(II[I)V"⟩
abbrev cX0_next : ByteArray := prog_2_method_3_code
def yX0_next : MethodName := ⟨RX0, "next", "(II)I"⟩
abbrev cX0_walk : ByteArray := prog_2_method_4_code
def yX0_walk : MethodName := ⟨RX0, "walk", "(II)V"⟩
abbrev cX0_walkOneStep : ByteArray := prog_2_method_5_code
def yX0_walkOneStep : MethodName := ⟨RX0, "walkOneStep", "()V"⟩
abbrev cX0_surelyEnds : ByteArray := prog_2_method_6_code
def yX0_surelyEnds : MethodName := ⟨RX0, "surelyEnds", "(I)Z"⟩
abbrev cX0_spread : ByteArray := prog_2_method_7_code
def yX0_spread : MethodName := ⟨RX0, "spread", "()V"⟩
abbrev cX0_solve : ByteArray := prog_2_method_8_code
def yX0_solve : MethodName := ⟨RX0, "solve", "(I)V"⟩
abbrev cX0_rankReached : ByteArray := prog_2_method_9_code
def yX0_rankReached : MethodName := ⟨RX0, "rankReached", "(I)I"⟩
abbrev cX0_fillSystem : ByteArray := prog_2_method_10_code
def yX0_fillSystem : MethodName := ⟨RX0, "fillSystem", "(I)V"⟩
abbrev cX0_eliminate : ByteArray := prog_2_method_11_code
def yX0_eliminate : MethodName := ⟨RX0, "eliminate", "(I)V"⟩
def RX1 : String := "ShiftCharts$Chart"
def TX1 : u_T := fun k => match k with
  | 0 => ("ShiftCharts$Chart", "slack", "I", false)
  | 1 => ("ShiftCharts$Chart", "limit", "I", false)
  | 2 => ("ShiftCharts$Chart", "start", "I", false)
  | 3 => ("ShiftCharts$Chart", "once", "Z", false)
  | 4 => ("ShiftCharts$Chart", "ups", "[I", true)
  | 5 => ("ShiftCharts$Chart", "downs", "[I", true)
  | 6 => ("ShiftCharts$Chart", "found", "I", false)
  | 7 => ("ShiftCharts$Chart", "places", "[I", true)
  | 8 => ("ShiftCharts$Chart", "sides", "[I", true)
  | _ => ("ShiftCharts$Chart", "sizes", "[I", true)
def tyX1 : Nat → FieldType := fun k => match k with
  | 0 => .int
  | 1 => .int
  | 2 => .int
  | 3 => .boolean
  | 4 => .array .int
  | 5 => .array .int
  | 6 => .int
  | 7 => .array .int
  | 8 => .array .int
  | _ => .array .int
theorem nmX1 : ∀ a, a < 10 → ∀ b, b < 10 → a ≠ b → (TX1 a).2.1 ≠ (TX1 b).2.1 := by decide +kernel
theorem tyX1_ok : ∀ k, k < 10 → parseFieldDescriptor (TX1 k).2.2.1 = some (tyX1 k) := by decide +kernel
abbrev cX1_init : ByteArray := prog_3_method_1_code
def yX1_init : MethodName := ⟨RX1, "<init>", "()V"⟩
abbrev cX1_begin : ByteArray := prog_3_method_2_code
def yX1_begin : MethodName := ⟨RX1, "begin", "(IIIZ)V"⟩
abbrev cX1_follow : ByteArray := prog_3_method_3_code
def yX1_follow : MethodName := ⟨RX1, "follow", "([II)V"⟩
abbrev cX1_alarmed : ByteArray := prog_3_method_4_code
def yX1_alarmed : MethodName := ⟨RX1, "alarmed", "(III)Z"⟩
abbrev cX1_firstPlace : ByteArray := prog_3_method_5_code
def yX1_firstPlace : MethodName := ⟨RX1, "firstPlace", "()I"⟩
abbrev cX1_alarmsAt : ByteArray := prog_3_method_6_code
def yX1_alarmsAt : MethodName := ⟨RX1, "alarmsAt", "(I)Z"⟩
def RX2 : String := "ShiftCharts$Rows"
def TX2 : u_T := fun k => match k with
  | 0 => ("ShiftCharts$Rows", "whats", "[I", true)
  | 1 => ("ShiftCharts$Rows", "numbers", "[I", true)
  | 2 => ("ShiftCharts$Rows", "most", "I", true)
  | _ => ("ShiftCharts$Rows", "length", "I", false)
def tyX2 : Nat → FieldType := fun k => match k with
  | 0 => .array .int
  | 1 => .array .int
  | 2 => .int
  | _ => .int
theorem nmX2 : ∀ a, a < 4 → ∀ b, b < 4 → a ≠ b → (TX2 a).2.1 ≠ (TX2 b).2.1 := by decide +kernel
theorem tyX2_ok : ∀ k, k < 4 → parseFieldDescriptor (TX2 k).2.2.1 = some (tyX2 k) := by decide +kernel
abbrev cX2_init : ByteArray := prog_4_method_1_code
def yX2_init : MethodName := ⟨RX2, "<init>", "(I)V"⟩
abbrev cX2_clear : ByteArray := prog_4_method_2_code
def yX2_clear : MethodName := ⟨RX2, "clear", "()I"⟩
abbrev cX2_add : ByteArray := prog_4_method_3_code
def yX2_add : MethodName := ⟨RX2, "add", "(II)I"⟩
abbrev cX2_become : ByteArray := prog_4_method_4_code
def yX2_become : MethodName := ⟨RX2, "become", "(LShiftCharts$Rows;)V"⟩
def RX3 : String := "ShiftCharts$Setup"
def TX3 : u_T := fun k => match k with
  | 0 => ("ShiftCharts$Setup", "streams", "[LShiftCharts$Stream;", true)
  | 1 => ("ShiftCharts$Setup", "weights", "[I", true)
  | 2 => ("ShiftCharts$Setup", "seen", "LShiftCharts$Rows;", true)
  | 3 => ("ShiftCharts$Setup", "planned", "LShiftCharts$Rows;", true)
  | _ => ("ShiftCharts$Setup", "booked", "LShiftCharts$Rows;", true)
def tyX3 : Nat → FieldType := fun k => match k with
  | 0 => .array (.object "ShiftCharts$Stream")
  | 1 => .array .int
  | 2 => .object "ShiftCharts$Rows"
  | 3 => .object "ShiftCharts$Rows"
  | _ => .object "ShiftCharts$Rows"
theorem nmX3 : ∀ a, a < 5 → ∀ b, b < 5 → a ≠ b → (TX3 a).2.1 ≠ (TX3 b).2.1 := by decide +kernel
theorem tyX3_ok : ∀ k, k < 5 → parseFieldDescriptor (TX3 k).2.2.1 = some (tyX3 k) := by decide +kernel
abbrev cX3_init : ByteArray := prog_5_method_1_code
def yX3_init : MethodName := ⟨RX3, "<init>", "()V"⟩
abbrev cX3_become : ByteArray := prog_5_method_2_code
def yX3_become : MethodName := ⟨RX3, "become", "(LShiftCharts$Setup;)V"⟩
abbrev cX3_allValues : ByteArray := prog_5_method_3_code
def yX3_allValues : MethodName := ⟨RX3, "allValues", "()I"⟩
abbrev cX3_jointPlaces : ByteArray := prog_5_method_4_code
def yX3_jointPlaces : MethodName := ⟨RX3, "jointPlaces", "()I"⟩
abbrev cX3_jointOffset : ByteArray := prog_5_method_5_code
def yX3_jointOffset : MethodName := ⟨RX3, "jointOffset", "(I)I"⟩
abbrev cX3_jointSetting : ByteArray := prog_5_method_6_code
def yX3_jointSetting : MethodName := ⟨RX3, "jointSetting", "(I)I"⟩
def RX4 : String := "ShiftCharts$Stream"
def TX4 : u_T := fun k => match k with
  | 0 => ("ShiftCharts$Stream", "kind", "I", false)
  | 1 => ("ShiftCharts$Stream", "target", "I", false)
  | 2 => ("ShiftCharts$Stream", "slack", "I", false)
  | 3 => ("ShiftCharts$Stream", "limit", "I", false)
  | 4 => ("ShiftCharts$Stream", "length", "I", false)
  | _ => ("ShiftCharts$Stream", "values", "[I", true)
def tyX4 : Nat → FieldType := fun k => match k with
  | 0 => .int
  | 1 => .int
  | 2 => .int
  | 3 => .int
  | 4 => .int
  | _ => .array .int
theorem nmX4 : ∀ a, a < 6 → ∀ b, b < 6 → a ≠ b → (TX4 a).2.1 ≠ (TX4 b).2.1 := by decide +kernel
theorem tyX4_ok : ∀ k, k < 6 → parseFieldDescriptor (TX4 k).2.2.1 = some (tyX4 k) := by decide +kernel
abbrev cX4_init : ByteArray := prog_6_method_1_code
def yX4_init : MethodName := ⟨RX4, "<init>", "()V"⟩
abbrev cX4_isFull : ByteArray := prog_6_method_2_code
def yX4_isFull : MethodName := ⟨RX4, "isFull", "()Z"⟩
abbrev cX4_has : ByteArray := prog_6_method_3_code
def yX4_has : MethodName := ⟨RX4, "has", "(I)Z"⟩
abbrev cX4_add : ByteArray := prog_6_method_4_code
def yX4_add : MethodName := ⟨RX4, "add", "(I)V"⟩
abbrev cX4_loseFirst : ByteArray := prog_6_method_5_code
def yX4_loseFirst : MethodName := ⟨RX4, "loseFirst", "(I)V"⟩
abbrev cX4_become : ByteArray := prog_6_method_6_code
def yX4_become : MethodName := ⟨RX4, "become", "(LShiftCharts$Stream;)V"⟩
abbrev cX4_setting : ByteArray := prog_6_method_7_code
def yX4_setting : MethodName := ⟨RX4, "setting", "(I)I"⟩
abbrev cX4_settle : ByteArray := prog_6_method_8_code
def yX4_settle : MethodName := ⟨RX4, "settle", "(II)V"⟩
abbrev cX4_startBy : ByteArray := prog_6_method_9_code
def yX4_startBy : MethodName := ⟨RX4, "startBy", "(I)I"⟩
abbrev cX4_offset : ByteArray := prog_6_method_10_code
def yX4_offset : MethodName := ⟨RX4, "offset", "(I)I"⟩
abbrev cX4_total : ByteArray := prog_6_method_11_code
def yX4_total : MethodName := ⟨RX4, "total", "(I)I"⟩
abbrev cX4_gainAbove : ByteArray := prog_6_method_12_code
def yX4_gainAbove : MethodName := ⟨RX4, "gainAbove", "(I)J"⟩
abbrev cX4_gainBelow : ByteArray := prog_6_method_13_code
def yX4_gainBelow : MethodName := ⟨RX4, "gainBelow", "(I)J"⟩
abbrev cX4_squareApart : ByteArray := prog_6_method_14_code
def yX4_squareApart : MethodName := ⟨RX4, "squareApart", "(III)J"⟩
abbrev cX4_changePlace : ByteArray := prog_6_method_15_code
def yX4_changePlace : MethodName := ⟨RX4, "changePlace", "()I"⟩
def RX5 : String := "ShiftCharts$Tape"
def TX5 : u_T := fun k => match k with
  | 0 => ("ShiftCharts$Tape", "sort", "I", false)
  | 1 => ("ShiftCharts$Tape", "length", "I", false)
  | _ => ("ShiftCharts$Tape", "items", "[J", true)
def tyX5 : Nat → FieldType := fun k => match k with
  | 0 => .int
  | 1 => .int
  | _ => .array .long
theorem nmX5 : ∀ a, a < 3 → ∀ b, b < 3 → a ≠ b → (TX5 a).2.1 ≠ (TX5 b).2.1 := by decide +kernel
theorem tyX5_ok : ∀ k, k < 3 → parseFieldDescriptor (TX5 k).2.2.1 = some (tyX5 k) := by decide +kernel
abbrev cX5_init : ByteArray := prog_7_method_1_code
def yX5_init : MethodName := ⟨RX5, "<init>", "()V"⟩
abbrev cX5_lay : ByteArray := prog_7_method_2_code
def yX5_lay : MethodName := ⟨RX5, "lay", "(II)V"⟩
abbrev cX5_has : ByteArray := prog_7_method_3_code
def yX5_has : MethodName := ⟨RX5, "has", "(I)Z"⟩
abbrev cX5_holds : ByteArray := prog_7_method_4_code
def yX5_holds : MethodName := ⟨RX5, "holds", "(II)Z"⟩
abbrev cX5_narrowed : ByteArray := prog_7_method_5_code
def yX5_narrowed : MethodName := ⟨RX5, "narrowed", "(J)J"⟩
def RX6 : String := "ShiftCharts$Text"
def TX6 : u_T := fun k => match k with
  | 0 => ("ShiftCharts$Text", "signs", "[I", true)
  | 1 => ("ShiftCharts$Text", "length", "I", false)
  | 2 => ("ShiftCharts$Text", "clauses", "I", false)
  | 3 => ("ShiftCharts$Text", "letters", "[I", true)
  | 4 => ("ShiftCharts$Text", "digits", "[I", true)
  | 5 => ("ShiftCharts$Text", "numbers", "[I", true)
  | _ => ("ShiftCharts$Text", "negative", "Z", false)
def tyX6 : Nat → FieldType := fun k => match k with
  | 0 => .array .int
  | 1 => .int
  | 2 => .int
  | 3 => .array .int
  | 4 => .array .int
  | 5 => .array .int
  | _ => .boolean
theorem nmX6 : ∀ a, a < 7 → ∀ b, b < 7 → a ≠ b → (TX6 a).2.1 ≠ (TX6 b).2.1 := by decide +kernel
theorem tyX6_ok : ∀ k, k < 7 → parseFieldDescriptor (TX6 k).2.2.1 = some (tyX6 k) := by decide +kernel
abbrev cX6_init : ByteArray := prog_8_method_1_code
def yX6_init : MethodName := ⟨RX6, "<init>", "()V"⟩
abbrev cX6_add : ByteArray := prog_8_method_2_code
def yX6_add : MethodName := ⟨RX6, "add", "(I)V"⟩
abbrev cX6_fault : ByteArray := prog_8_method_3_code
def yX6_fault : MethodName := ⟨RX6, "fault", "()I"⟩
abbrev cX6_take : ByteArray := prog_8_method_4_code
def yX6_take : MethodName := ⟨RX6, "take", "(II)I"⟩
abbrev cX6_takeLetter : ByteArray := prog_8_method_5_code
def yX6_takeLetter : MethodName := ⟨RX6, "takeLetter", "(I)I"⟩
abbrev cX6_takeWhich : ByteArray := prog_8_method_6_code
def yX6_takeWhich : MethodName := ⟨RX6, "takeWhich", "(I)I"⟩
abbrev cX6_takeDigit : ByteArray := prog_8_method_7_code
def yX6_takeDigit : MethodName := ⟨RX6, "takeDigit", "(II)I"⟩
abbrev cX6_takeEnd : ByteArray := prog_8_method_8_code
def yX6_takeEnd : MethodName := ⟨RX6, "takeEnd", "(I)I"⟩
abbrev cX6_takesNumber : ByteArray := prog_8_method_9_code
def yX6_takesNumber : MethodName := ⟨RX6, "takesNumber", "(I)Z"⟩
abbrev cX6_isDigit : ByteArray := prog_8_method_10_code
def yX6_isDigit : MethodName := ⟨RX6, "isDigit", "(I)Z"⟩
def RX7 : String := "ShiftCharts"
def TX7 : u_T := fun k => match k with
  | 0 => ("ShiftCharts", "now", "LShiftCharts$Setup;", true)
  | 1 => ("ShiftCharts", "kept", "LShiftCharts$Setup;", true)
  | 2 => ("ShiftCharts", "imageTaken", "Z", false)
  | 3 => ("ShiftCharts", "text", "LShiftCharts$Text;", true)
  | 4 => ("ShiftCharts", "tapes", "[LShiftCharts$Tape;", true)
  | 5 => ("ShiftCharts", "chart", "LShiftCharts$Chart;", true)
  | 6 => ("ShiftCharts", "chain", "LShiftCharts$Chain;", true)
  | 7 => ("ShiftCharts", "trial", "LShiftCharts$Stream;", true)
  | _ => ("ShiftCharts", "offsets", "[I", true)
def tyX7 : Nat → FieldType := fun k => match k with
  | 0 => .object "ShiftCharts$Setup"
  | 1 => .object "ShiftCharts$Setup"
  | 2 => .boolean
  | 3 => .object "ShiftCharts$Text"
  | 4 => .array (.object "ShiftCharts$Tape")
  | 5 => .object "ShiftCharts$Chart"
  | 6 => .object "ShiftCharts$Chain"
  | 7 => .object "ShiftCharts$Stream"
  | _ => .array .int
theorem nmX7 : ∀ a, a < 9 → ∀ b, b < 9 → a ≠ b → (TX7 a).2.1 ≠ (TX7 b).2.1 := by decide +kernel
theorem tyX7_ok : ∀ k, k < 9 → parseFieldDescriptor (TX7 k).2.2.1 = some (tyX7 k) := by decide +kernel
abbrev cX7_init : ByteArray := prog_1_method_1_code
def yX7_init : MethodName := ⟨RX7, "<init>", "()V"⟩
abbrev cX7_value : ByteArray := prog_1_method_2_code
def yX7_value : MethodName := ⟨RX7, "value", "(II)I"⟩
abbrev cX7_drop : ByteArray := prog_1_method_3_code
def yX7_drop : MethodName := ⟨RX7, "drop", "(I)I"⟩
abbrev cX7_set : ByteArray := prog_1_method_4_code
def yX7_set : MethodName := ⟨RX7, "set", "(III)J"⟩
abbrev cX7_of : ByteArray := prog_1_method_5_code
def yX7_of : MethodName := ⟨RX7, "of", "(II)J"⟩
abbrev cX7_at : ByteArray := prog_1_method_6_code
def yX7_at : MethodName := ⟨RX7, "at", "(II)J"⟩
abbrev cX7_off : ByteArray := prog_1_method_7_code
def yX7_off : MethodName := ⟨RX7, "off", "(II)J"⟩
abbrev cX7_feed : ByteArray := prog_1_method_8_code
def yX7_feed : MethodName := ⟨RX7, "feed", "(I)I"⟩
abbrev cX7_read : ByteArray := prog_1_method_9_code
def yX7_read : MethodName := ⟨RX7, "read", "()I"⟩
abbrev cX7_sum : ByteArray := prog_1_method_10_code
def yX7_sum : MethodName := ⟨RX7, "sum", "(III)I"⟩
abbrev cX7_alarms : ByteArray := prog_1_method_11_code
def yX7_alarms : MethodName := ⟨RX7, "alarms", "(I)I"⟩
abbrev cX7_alarm : ByteArray := prog_1_method_12_code
def yX7_alarm : MethodName := ⟨RX7, "alarm", "(III)I"⟩
abbrev cX7_latest : ByteArray := prog_1_method_13_code
def yX7_latest : MethodName := ⟨RX7, "latest", "(II)I"⟩
abbrev cX7_joint : ByteArray := prog_1_method_14_code
def yX7_joint : MethodName := ⟨RX7, "joint", "(I)I"⟩
abbrev cX7_change : ByteArray := prog_1_method_15_code
def yX7_change : MethodName := ⟨RX7, "change", "(I)I"⟩
abbrev cX7_gain : ByteArray := prog_1_method_16_code
def yX7_gain : MethodName := ⟨RX7, "gain", "(III)J"⟩
abbrev cX7_weight : ByteArray := prog_1_method_17_code
def yX7_weight : MethodName := ⟨RX7, "weight", "(II)I"⟩
abbrev cX7_weighs : ByteArray := prog_1_method_18_code
def yX7_weighs : MethodName := ⟨RX7, "weighs", "(I)I"⟩
abbrev cX7_run : ByteArray := prog_1_method_19_code
def yX7_run : MethodName := ⟨RX7, "run", "(III)J"⟩
abbrev cX7_likely : ByteArray := prog_1_method_20_code
def yX7_likely : MethodName := ⟨RX7, "likely", "(IIII)J"⟩
abbrev cX7_would : ByteArray := prog_1_method_21_code
def yX7_would : MethodName := ⟨RX7, "would", "(III)I"⟩
abbrev cX7_quiet : ByteArray := prog_1_method_22_code
def yX7_quiet : MethodName := ⟨RX7, "quiet", "(I)I"⟩
abbrev cX7_see : ByteArray := prog_1_method_23_code
def yX7_see : MethodName := ⟨RX7, "see", "(II)I"⟩
abbrev cX7_fits : ByteArray := prog_1_method_24_code
def yX7_fits : MethodName := ⟨RX7, "fits", "(II)I"⟩
abbrev cX7_odds : ByteArray := prog_1_method_25_code
def yX7_odds : MethodName := ⟨RX7, "odds", "(II)J"⟩
abbrev cX7_mean : ByteArray := prog_1_method_26_code
def yX7_mean : MethodName := ⟨RX7, "mean", "(II)J"⟩
abbrev cX7_plan : ByteArray := prog_1_method_27_code
def yX7_plan : MethodName := ⟨RX7, "plan", "(II)I"⟩
abbrev cX7_ends : ByteArray := prog_1_method_28_code
def yX7_ends : MethodName := ⟨RX7, "ends", "(I)I"⟩
abbrev cX7_book : ByteArray := prog_1_method_29_code
def yX7_book : MethodName := ⟨RX7, "book", "(II)I"⟩
abbrev cX7_looked : ByteArray := prog_1_method_30_code
def yX7_looked : MethodName := ⟨RX7, "looked", "()I"⟩
abbrev cX7_judge : ByteArray := prog_1_method_31_code
def yX7_judge : MethodName := ⟨RX7, "judge", "(III)I"⟩
abbrev cX7_image : ByteArray := prog_1_method_32_code
def yX7_image : MethodName := ⟨RX7, "image", "()I"⟩
abbrev cX7_undo : ByteArray := prog_1_method_33_code
def yX7_undo : MethodName := ⟨RX7, "undo", "()I"⟩
abbrev cX7_count : ByteArray := prog_1_method_34_code
def yX7_count : MethodName := ⟨RX7, "count", "(I)I"⟩
abbrev cX7_tape : ByteArray := prog_1_method_35_code
def yX7_tape : MethodName := ⟨RX7, "tape", "(III)I"⟩
abbrev cX7_item : ByteArray := prog_1_method_36_code
def yX7_item : MethodName := ⟨RX7, "item", "(IIJ)I"⟩
abbrev cX7_peek : ByteArray := prog_1_method_37_code
def yX7_peek : MethodName := ⟨RX7, "peek", "(II)J"⟩
abbrev cX7_shift : ByteArray := prog_1_method_38_code
def yX7_shift : MethodName := ⟨RX7, "shift", "(IIIII)I"⟩
abbrev cX7_isStream : ByteArray := prog_1_method_39_code
def yX7_isStream : MethodName := ⟨RX7, "isStream", "(I)Z"⟩
abbrev cX7_isTape : ByteArray := prog_1_method_40_code
def yX7_isTape : MethodName := ⟨RX7, "isTape", "(I)Z"⟩
abbrev cX7_isStep : ByteArray := prog_1_method_41_code
def yX7_isStep : MethodName := ⟨RX7, "isStep", "(I)Z"⟩
abbrev cX7_isPart : ByteArray := prog_1_method_42_code
def yX7_isPart : MethodName := ⟨RX7, "isPart", "(I)Z"⟩
abbrev cX7_isValue : ByteArray := prog_1_method_43_code
def yX7_isValue : MethodName := ⟨RX7, "isValue", "(I)Z"⟩
abbrev cX7_isSetting : ByteArray := prog_1_method_44_code
def yX7_isSetting : MethodName := ⟨RX7, "isSetting", "(II)Z"⟩
abbrev cX7_isPlannable : ByteArray := prog_1_method_45_code
def yX7_isPlannable : MethodName := ⟨RX7, "isPlannable", "(II)Z"⟩
abbrev cX7_lowest : ByteArray := prog_1_method_46_code
def yX7_lowest : MethodName := ⟨RX7, "lowest", "(JJI)J"⟩
abbrev cX7_obey : ByteArray := prog_1_method_47_code
def yX7_obey : MethodName := ⟨RX7, "obey", "(III)Z"⟩
abbrev cX7_drawNow : ByteArray := prog_1_method_48_code
def yX7_drawNow : MethodName := ⟨RX7, "drawNow", "(I)V"⟩
abbrev cX7_draw : ByteArray := prog_1_method_49_code
def yX7_draw : MethodName := ⟨RX7, "draw", "(LShiftCharts$Stream;II)V"⟩
abbrev cX7_drawJoint : ByteArray := prog_1_method_50_code
def yX7_drawJoint : MethodName := ⟨RX7, "drawJoint", "(I)V"⟩
abbrev cX7_showsSeen : ByteArray := prog_1_method_51_code
def yX7_showsSeen : MethodName := ⟨RX7, "showsSeen", "(I)Z"⟩
abbrev cX7_followPlan : ByteArray := prog_1_method_52_code
def yX7_followPlan : MethodName := ⟨RX7, "followPlan", "()V"⟩
abbrev cX7_layChain : ByteArray := prog_1_method_53_code
def yX7_layChain : MethodName := ⟨RX7, "layChain", "(II)Z"⟩
def RX8 : String := "ShiftChartsModel"
def TX8 : u_T := fun k => match k with
  | 0 => ("ShiftChartsModel", "w", "[I", true)
  | 1 => ("ShiftChartsModel", "image", "[I", true)
  | 2 => ("ShiftChartsModel", "thought", "[I", true)
  | 3 => ("ShiftChartsModel", "hasImage", "Z", false)
  | 4 => ("ShiftChartsModel", "text", "[I", true)
  | 5 => ("ShiftChartsModel", "texts", "I", false)
  | 6 => ("ShiftChartsModel", "reading", "I", false)
  | 7 => ("ShiftChartsModel", "number", "I", false)
  | 8 => ("ShiftChartsModel", "clause", "[I", true)
  | 9 => ("ShiftChartsModel", "clauses", "I", false)
  | 10 => ("ShiftChartsModel", "ups", "[I", true)
  | 11 => ("ShiftChartsModel", "downs", "[I", true)
  | 12 => ("ShiftChartsModel", "places", "[I", true)
  | 13 => ("ShiftChartsModel", "sides", "[I", true)
  | 14 => ("ShiftChartsModel", "sizes", "[I", true)
  | 15 => ("ShiftChartsModel", "alarms", "I", false)
  | 16 => ("ShiftChartsModel", "up", "I", false)
  | 17 => ("ShiftChartsModel", "down", "I", false)
  | 18 => ("ShiftChartsModel", "rows", "[[J", true)
  | 19 => ("ShiftChartsModel", "tapeSort", "[I", true)
  | 20 => ("ShiftChartsModel", "tapeMany", "[I", true)
  | _ => ("ShiftChartsModel", "items", "[J", true)
def tyX8 : Nat → FieldType := fun k => match k with
  | 0 => .array .int
  | 1 => .array .int
  | 2 => .array .int
  | 3 => .boolean
  | 4 => .array .int
  | 5 => .int
  | 6 => .int
  | 7 => .int
  | 8 => .array .int
  | 9 => .int
  | 10 => .array .int
  | 11 => .array .int
  | 12 => .array .int
  | 13 => .array .int
  | 14 => .array .int
  | 15 => .int
  | 16 => .int
  | 17 => .int
  | 18 => .array (.array .long)
  | 19 => .array .int
  | 20 => .array .int
  | _ => .array .long
theorem nmX8 : ∀ a, a < 22 → ∀ b, b < 22 → a ≠ b → (TX8 a).2.1 ≠ (TX8 b).2.1 := by decide +kernel
theorem tyX8_ok : ∀ k, k < 22 → parseFieldDescriptor (TX8 k).2.2.1 = some (tyX8 k) := by decide +kernel
abbrev cX8_init : ByteArray := prog_10_method_1_code
def yX8_init : MethodName := ⟨RX8, "<init>", "()V"⟩
abbrev cX8_base : ByteArray := prog_10_method_2_code
def yX8_base : MethodName := ⟨RX8, "base", "(I)I"⟩
abbrev cX8_isIn : ByteArray := prog_10_method_3_code
def yX8_isIn : MethodName := ⟨RX8, "isIn", "(III)Z"⟩
abbrev cX8_isStream : ByteArray := prog_10_method_4_code
def yX8_isStream : MethodName := ⟨RX8, "isStream", "(I)Z"⟩
abbrev cX8_many : ByteArray := prog_10_method_5_code
def yX8_many : MethodName := ⟨RX8, "many", "(I)I"⟩
abbrev cX8_isPlace : ByteArray := prog_10_method_6_code
def yX8_isPlace : MethodName := ⟨RX8, "isPlace", "(II)Z"⟩
abbrev cX8_passes : ByteArray := prog_10_method_7_code
def yX8_passes : MethodName := ⟨RX8, "passes", "([I[I)V"⟩
abbrev cX8_comes : ByteArray := prog_10_method_8_code
def yX8_comes : MethodName := ⟨RX8, "comes", "(II)V"⟩
abbrev cX8_value : ByteArray := prog_10_method_9_code
def yX8_value : MethodName := ⟨RX8, "value", "(II)I"⟩
abbrev cX8_drop : ByteArray := prog_10_method_10_code
def yX8_drop : MethodName := ⟨RX8, "drop", "(I)I"⟩
abbrev cX8_isFit : ByteArray := prog_10_method_11_code
def yX8_isFit : MethodName := ⟨RX8, "isFit", "(II)Z"⟩
abbrev cX8_set : ByteArray := prog_10_method_12_code
def yX8_set : MethodName := ⟨RX8, "set", "(III)J"⟩
abbrev cX8_startOf : ByteArray := prog_10_method_13_code
def yX8_startOf : MethodName := ⟨RX8, "startOf", "(I)I"⟩
abbrev cX8_of : ByteArray := prog_10_method_14_code
def yX8_of : MethodName := ⟨RX8, "of", "(II)J"⟩
abbrev cX8_valueAt : ByteArray := prog_10_method_15_code
def yX8_valueAt : MethodName := ⟨RX8, "valueAt", "(II)I"⟩
abbrev cX8_offAt : ByteArray := prog_10_method_16_code
def yX8_offAt : MethodName := ⟨RX8, "offAt", "(II)I"⟩
abbrev cX8_at : ByteArray := prog_10_method_17_code
def yX8_at : MethodName := ⟨RX8, "at", "(II)J"⟩
abbrev cX8_off : ByteArray := prog_10_method_18_code
def yX8_off : MethodName := ⟨RX8, "off", "(II)J"⟩
abbrev cX8_feed : ByteArray := prog_10_method_19_code
def yX8_feed : MethodName := ⟨RX8, "feed", "(I)I"⟩
abbrev cX8_isSign : ByteArray := prog_10_method_20_code
def yX8_isSign : MethodName := ⟨RX8, "isSign", "(II)Z"⟩
abbrev cX8_digit : ByteArray := prog_10_method_21_code
def yX8_digit : MethodName := ⟨RX8, "digit", "()I"⟩
abbrev cX8_number : ByteArray := prog_10_method_22_code
def yX8_number : MethodName := ⟨RX8, "number", "()Z"⟩
abbrev cX8_readsClause : ByteArray := prog_10_method_23_code
def yX8_readsClause : MethodName := ⟨RX8, "readsClause", "()Z"⟩
abbrev cX8_readsText : ByteArray := prog_10_method_24_code
def yX8_readsText : MethodName := ⟨RX8, "readsText", "()Z"⟩
abbrev cX8_isDone : ByteArray := prog_10_method_25_code
def yX8_isDone : MethodName := ⟨RX8, "isDone", "(III)Z"⟩
abbrev cX8_read : ByteArray := prog_10_method_26_code
def yX8_read : MethodName := ⟨RX8, "read", "()I"⟩
abbrev cX8_goesOn : ByteArray := prog_10_method_27_code
def yX8_goesOn : MethodName := ⟨RX8, "goesOn", "(IIII)Z"⟩
abbrev cX8_goesThrough : ByteArray := prog_10_method_28_code
def yX8_goesThrough : MethodName := ⟨RX8, "goesThrough", "(I)V"⟩
abbrev cX8_firstAlarm : ByteArray := prog_10_method_29_code
def yX8_firstAlarm : MethodName := ⟨RX8, "firstAlarm", "()I"⟩
abbrev cX8_sum : ByteArray := prog_10_method_30_code
def yX8_sum : MethodName := ⟨RX8, "sum", "(III)I"⟩
abbrev cX8_alarms : ByteArray := prog_10_method_31_code
def yX8_alarms : MethodName := ⟨RX8, "alarms", "(I)I"⟩
abbrev cX8_alarm : ByteArray := prog_10_method_32_code
def yX8_alarm : MethodName := ⟨RX8, "alarm", "(III)I"⟩
abbrev cX8_latest : ByteArray := prog_10_method_33_code
def yX8_latest : MethodName := ⟨RX8, "latest", "(II)I"⟩
abbrev cX8_goesJoint : ByteArray := prog_10_method_34_code
def yX8_goesJoint : MethodName := ⟨RX8, "goesJoint", "()I"⟩
abbrev cX8_joint : ByteArray := prog_10_method_35_code
def yX8_joint : MethodName := ⟨RX8, "joint", "(I)I"⟩
abbrev cX8_total : ByteArray := prog_10_method_36_code
def yX8_total : MethodName := ⟨RX8, "total", "(II)J"⟩
abbrev cX8_gainAbove : ByteArray := prog_10_method_37_code
def yX8_gainAbove : MethodName := ⟨RX8, "gainAbove", "(II)J"⟩
abbrev cX8_gainBelow : ByteArray := prog_10_method_38_code
def yX8_gainBelow : MethodName := ⟨RX8, "gainBelow", "(II)J"⟩
abbrev cX8_changeOf : ByteArray := prog_10_method_39_code
def yX8_changeOf : MethodName := ⟨RX8, "changeOf", "(I)I"⟩
abbrev cX8_change : ByteArray := prog_10_method_40_code
def yX8_change : MethodName := ⟨RX8, "change", "(I)I"⟩
abbrev cX8_common : ByteArray := prog_10_method_41_code
def yX8_common : MethodName := ⟨RX8, "common", "(JJ)J"⟩
abbrev cX8_partOf : ByteArray := prog_10_method_42_code
def yX8_partOf : MethodName := ⟨RX8, "partOf", "(JJI)J"⟩
abbrev cX8_gain : ByteArray := prog_10_method_43_code
def yX8_gain : MethodName := ⟨RX8, "gain", "(III)J"⟩
abbrev cX8_weight : ByteArray := prog_10_method_44_code
def yX8_weight : MethodName := ⟨RX8, "weight", "(II)I"⟩
abbrev cX8_weighs : ByteArray := prog_10_method_45_code
def yX8_weighs : MethodName := ⟨RX8, "weighs", "(I)I"⟩
abbrev cX8_allWeights : ByteArray := prog_10_method_46_code
def yX8_allWeights : MethodName := ⟨RX8, "allWeights", "()I"⟩
abbrev cX8_leads : ByteArray := prog_10_method_47_code
def yX8_leads : MethodName := ⟨RX8, "leads", "(III)I"⟩
abbrev cX8_reaches : ByteArray := prog_10_method_48_code
def yX8_reaches : MethodName := ⟨RX8, "reaches", "(II)I"⟩
abbrev cX8_isChain : ByteArray := prog_10_method_49_code
def yX8_isChain : MethodName := ⟨RX8, "isChain", "(II)Z"⟩
abbrev cX8_equations : ByteArray := prog_10_method_50_code
def yX8_equations : MethodName := ⟨RX8, "equations", "(II)V"⟩
abbrev cX8_swaps : ByteArray := prog_10_method_51_code
def yX8_swaps : MethodName := ⟨RX8, "swaps", "(III)V"⟩
abbrev cX8_clears : ByteArray := prog_10_method_52_code
def yX8_clears : MethodName := ⟨RX8, "clears", "(I)V"⟩
abbrev cX8_run : ByteArray := prog_10_method_53_code
def yX8_run : MethodName := ⟨RX8, "run", "(III)J"⟩
abbrev cX8_likely : ByteArray := prog_10_method_54_code
def yX8_likely : MethodName := ⟨RX8, "likely", "(IIII)J"⟩
abbrev cX8_firstBy : ByteArray := prog_10_method_55_code
def yX8_firstBy : MethodName := ⟨RX8, "firstBy", "(III)I"⟩
abbrev cX8_would : ByteArray := prog_10_method_56_code
def yX8_would : MethodName := ⟨RX8, "would", "(III)I"⟩
abbrev cX8_quiet : ByteArray := prog_10_method_57_code
def yX8_quiet : MethodName := ⟨RX8, "quiet", "(I)I"⟩
abbrev cX8_row : ByteArray := prog_10_method_58_code
def yX8_row : MethodName := ⟨RX8, "row", "(III)I"⟩
abbrev cX8_see : ByteArray := prog_10_method_59_code
def yX8_see : MethodName := ⟨RX8, "see", "(II)I"⟩
abbrev cX8_isAlarmAt : ByteArray := prog_10_method_60_code
def yX8_isAlarmAt : MethodName := ⟨RX8, "isAlarmAt", "(I)Z"⟩
abbrev cX8_isAllSeen : ByteArray := prog_10_method_61_code
def yX8_isAllSeen : MethodName := ⟨RX8, "isAllSeen", "(I)Z"⟩
abbrev cX8_fits : ByteArray := prog_10_method_62_code
def yX8_fits : MethodName := ⟨RX8, "fits", "(II)I"⟩
abbrev cX8_odds : ByteArray := prog_10_method_63_code
def yX8_odds : MethodName := ⟨RX8, "odds", "(II)J"⟩
abbrev cX8_mean : ByteArray := prog_10_method_64_code
def yX8_mean : MethodName := ⟨RX8, "mean", "(II)J"⟩
abbrev cX8_plan : ByteArray := prog_10_method_65_code
def yX8_plan : MethodName := ⟨RX8, "plan", "(II)I"⟩
abbrev cX8_goes : ByteArray := prog_10_method_66_code
def yX8_goes : MethodName := ⟨RX8, "goes", "(II)V"⟩
abbrev cX8_ends : ByteArray := prog_10_method_67_code
def yX8_ends : MethodName := ⟨RX8, "ends", "(I)I"⟩
abbrev cX8_book : ByteArray := prog_10_method_68_code
def yX8_book : MethodName := ⟨RX8, "book", "(II)I"⟩
abbrev cX8_looked : ByteArray := prog_10_method_69_code
def yX8_looked : MethodName := ⟨RX8, "looked", "()I"⟩
abbrev cX8_isTape : ByteArray := prog_10_method_70_code
def yX8_isTape : MethodName := ⟨RX8, "isTape", "(I)Z"⟩
abbrev cX8_judge : ByteArray := prog_10_method_71_code
def yX8_judge : MethodName := ⟨RX8, "judge", "(III)I"⟩
abbrev cX8_allValues : ByteArray := prog_10_method_72_code
def yX8_allValues : MethodName := ⟨RX8, "allValues", "()I"⟩
abbrev cX8_image : ByteArray := prog_10_method_73_code
def yX8_image : MethodName := ⟨RX8, "image", "()I"⟩
abbrev cX8_undo : ByteArray := prog_10_method_74_code
def yX8_undo : MethodName := ⟨RX8, "undo", "()I"⟩
abbrev cX8_count : ByteArray := prog_10_method_75_code
def yX8_count : MethodName := ⟨RX8, "count", "(I)I"⟩
abbrev cX8_tape : ByteArray := prog_10_method_76_code
def yX8_tape : MethodName := ⟨RX8, "tape", "(III)I"⟩
abbrev cX8_lowest : ByteArray := prog_10_method_77_code
def yX8_lowest : MethodName := ⟨RX8, "lowest", "(IJ)J"⟩
abbrev cX8_item : ByteArray := prog_10_method_78_code
def yX8_item : MethodName := ⟨RX8, "item", "(IIJ)I"⟩
abbrev cX8_peek : ByteArray := prog_10_method_79_code
def yX8_peek : MethodName := ⟨RX8, "peek", "(II)J"⟩
abbrev cX8_shift : ByteArray := prog_10_method_80_code
def yX8_shift : MethodName := ⟨RX8, "shift", "(IIIII)I"⟩
def RL : String := "ShiftChartsLaw"
abbrev cL_law : ByteArray := code
def yL_law : MethodName := ⟨RL, "law", "([I)Z"⟩
abbrev vwCl : List vw_C := [(RX0, TX0, 13), (RX1, TX1, 10), (RX2, TX2, 4), (RX3, TX3, 5), (RX4, TX4, 6), (RX5, TX5, 3), (RX6, TX6, 7), (RX7, TX7, 9), (RX8, TX8, 22)]
/-- the tables' words that a callee may take over -/
def gT : List Cond := lw_tbl.filter goodWord
theorem gt_mem (i : Nat) {w : Cond} (h : lw_tbl[i]? = some w) (hg : goodWord w = true) : w ∈ gT := List.mem_filter.mpr ⟨List.mem_of_getElem? h, hg⟩
theorem gt_sub (ws : List Cond) (ps : List Nat) (hp : ws = ps.filterMap (fun i => lw_tbl[i]?)) (h : ws.all goodWord = true) : ∀ w ∈ ws, w ∈ gT := by
  intro w hw
  have h1 := List.all_eq_true.mp h w hw
  rw [hp] at hw
  obtain ⟨i, -, hi⟩ := List.mem_filterMap.mp hw
  exact gt_mem i hi h1
theorem gt_in {w : Cond} (h : w ∈ gT) : w ∈ lw_tbl := (List.mem_filter.mp h).1
theorem gt_good {big : List Cond} (h : ∀ w ∈ gT, w ∈ big) : GoodIn big gT := fun w hw => ⟨h w hw, good_of_word (List.mem_filter.mp hw).2⟩
/-- the words on nest mates -/
def isNest : Cond → Bool
  | .fieldLinkNest _ _ _ _ _ _ => true
  | .methodLinkNest _ _ _ _ => true
  | _ => false
def nT : List Cond := lw_tbl.filter isNest
theorem nt_mem (i : Nat) {w : Cond} (h : lw_tbl[i]? = some w) (hg : isNest w = true) : w ∈ nT := List.mem_filter.mpr ⟨List.mem_of_getElem? h, hg⟩
theorem inX0 : ∀ w ∈ u_ws RX0 TX0 13, w ∈ gT := gt_sub _ [260, 262, 264, 266, 268, 270, 272, 274, 276, 278, 280, 282, 284] (by decide +kernel) (by decide +kernel)
theorem inX1 : ∀ w ∈ u_ws RX1 TX1 10, w ∈ gT := gt_sub _ [215, 217, 219, 221, 223, 225, 227, 229, 231, 233] (by decide +kernel) (by decide +kernel)
theorem inX2 : ∀ w ∈ u_ws RX2 TX2 4, w ∈ gT := gt_sub _ [97, 99, 101, 103] (by decide +kernel) (by decide +kernel)
theorem inX3 : ∀ w ∈ u_ws RX3 TX3 5, w ∈ gT := gt_sub _ [147, 149, 151, 153, 155] (by decide +kernel) (by decide +kernel)
theorem inX4 : ∀ w ∈ u_ws RX4 TX4 6, w ∈ gT := gt_sub _ [124, 126, 128, 130, 132, 134] (by decide +kernel) (by decide +kernel)
theorem inX5 : ∀ w ∈ u_ws RX5 TX5 3, w ∈ gT := gt_sub _ [302, 304, 306] (by decide +kernel) (by decide +kernel)
theorem inX6 : ∀ w ∈ u_ws RX6 TX6 7, w ∈ gT := gt_sub _ [176, 178, 180, 182, 184, 186, 188] (by decide +kernel) (by decide +kernel)
theorem inX7 : ∀ w ∈ u_ws RX7 TX7 9, w ∈ gT := gt_sub _ [318, 320, 322, 324, 326, 328, 330, 332, 334] (by decide +kernel) (by decide +kernel)
theorem inX8 : ∀ w ∈ u_ws RX8 TX8 22, w ∈ gT := gt_sub _ [803, 805, 807, 809, 811, 813, 815, 817, 819, 821, 823, 825, 827, 829, 831, 833, 835, 837, 839, 841, 843, 845] (by decide +kernel) (by decide +kernel)
