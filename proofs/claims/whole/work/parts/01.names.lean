-- ===== PART A: goes FIRST, ahead of the names: the tables' words, and 'selects' of the private methods out of them =====
/-- a private method of a class that the tables say can be made, by its rows of tables_1 -/
def lw_okq (q : MethodName × Nat) : Prop := (q.1.cls ≠ "java/lang/invoke/MethodHandle" ∧ q.1.cls ≠ "java/lang/invoke/VarHandle") ∧ Cond.instantiable q.1.cls q.2 ∈ tables_1 ∧ Cond.privateMethod q.1 ∈ tables_1 ∧ Cond.instanceMethod q.1 ∈ tables_1
theorem lw_p0 : lw_okq (⟨"CatchBars", "error", "(I)I"⟩, 8) := ⟨⟨by decide +kernel, by decide +kernel⟩, List.mem_of_getElem? (i := 14) (by decide +kernel), List.mem_of_getElem? (i := 325) (by decide +kernel), List.mem_of_getElem? (i := 326) (by decide +kernel)⟩
theorem lw_p1 : lw_okq (⟨"CatchBars$Reader", "readLevel", "(II)V"⟩, 5) := ⟨⟨by decide +kernel, by decide +kernel⟩, List.mem_of_getElem? (i := 218) (by decide +kernel), List.mem_of_getElem? (i := 432) (by decide +kernel), List.mem_of_getElem? (i := 433) (by decide +kernel)⟩
theorem lw_p2 : lw_okq (⟨"CatchBars$Reader", "readPart", "(I)V"⟩, 5) := ⟨⟨by decide +kernel, by decide +kernel⟩, List.mem_of_getElem? (i := 218) (by decide +kernel), List.mem_of_getElem? (i := 436) (by decide +kernel), List.mem_of_getElem? (i := 437) (by decide +kernel)⟩
theorem lw_p3 : lw_okq (⟨"CatchBars$Reader", "next", "()I"⟩, 5) := ⟨⟨by decide +kernel, by decide +kernel⟩, List.mem_of_getElem? (i := 218) (by decide +kernel), List.mem_of_getElem? (i := 440) (by decide +kernel), List.mem_of_getElem? (i := 441) (by decide +kernel)⟩
theorem lw_p4 : lw_okq (⟨"CatchBars$Reader", "readNumber", "()V"⟩, 5) := ⟨⟨by decide +kernel, by decide +kernel⟩, List.mem_of_getElem? (i := 218) (by decide +kernel), List.mem_of_getElem? (i := 447) (by decide +kernel), List.mem_of_getElem? (i := 448) (by decide +kernel)⟩
theorem lw_p5 : lw_okq (⟨"CatchBars$Reader", "addStep", "(I)V"⟩, 5) := ⟨⟨by decide +kernel, by decide +kernel⟩, List.mem_of_getElem? (i := 218) (by decide +kernel), List.mem_of_getElem? (i := 451) (by decide +kernel), List.mem_of_getElem? (i := 452) (by decide +kernel)⟩
theorem lw_p6 : lw_okq (⟨"CatchBars", "goToldAt", "(LCatchBars$Flyer;I)I"⟩, 8) := ⟨⟨by decide +kernel, by decide +kernel⟩, List.mem_of_getElem? (i := 14) (by decide +kernel), List.mem_of_getElem? (i := 484) (by decide +kernel), List.mem_of_getElem? (i := 485) (by decide +kernel)⟩
theorem lw_p7 : lw_okq (⟨"CatchBars$Thinker", "isHeld", "(I)Z"⟩, 9) := ⟨⟨by decide +kernel, by decide +kernel⟩, List.mem_of_getElem? (i := 178) (by decide +kernel), List.mem_of_getElem? (i := 515) (by decide +kernel), List.mem_of_getElem? (i := 516) (by decide +kernel)⟩
theorem lw_p8 : lw_okq (⟨"CatchBars", "oneEvening", "()V"⟩, 8) := ⟨⟨by decide +kernel, by decide +kernel⟩, List.mem_of_getElem? (i := 14) (by decide +kernel), List.mem_of_getElem? (i := 532) (by decide +kernel), List.mem_of_getElem? (i := 533) (by decide +kernel)⟩
theorem lw_p9 : lw_okq (⟨"CatchBars", "orNone", "(I)I"⟩, 8) := ⟨⟨by decide +kernel, by decide +kernel⟩, List.mem_of_getElem? (i := 14) (by decide +kernel), List.mem_of_getElem? (i := 566) (by decide +kernel), List.mem_of_getElem? (i := 567) (by decide +kernel)⟩
theorem lw_p10 : lw_okq (⟨"CatchBars", "sheetOf", "(I)LCatchBars$Sheet;"⟩, 8) := ⟨⟨by decide +kernel, by decide +kernel⟩, List.mem_of_getElem? (i := 14) (by decide +kernel), List.mem_of_getElem? (i := 639) (by decide +kernel), List.mem_of_getElem? (i := 640) (by decide +kernel)⟩
theorem lw_p11 : lw_okq (⟨"CatchBars$Thinker", "isAsTold", "(LCatchBars$Sheet;)Z"⟩, 9) := ⟨⟨by decide +kernel, by decide +kernel⟩, List.mem_of_getElem? (i := 178) (by decide +kernel), List.mem_of_getElem? (i := 651) (by decide +kernel), List.mem_of_getElem? (i := 652) (by decide +kernel)⟩
theorem lw_p12 : lw_okq (⟨"CatchBars$Voices", "say", "(IIII)I"⟩, 4) := ⟨⟨by decide +kernel, by decide +kernel⟩, List.mem_of_getElem? (i := 242) (by decide +kernel), List.mem_of_getElem? (i := 685) (by decide +kernel), List.mem_of_getElem? (i := 686) (by decide +kernel)⟩
theorem lw_p13 : lw_okq (⟨"CatchBars$Voices", "note", "(I)V"⟩, 4) := ⟨⟨by decide +kernel, by decide +kernel⟩, List.mem_of_getElem? (i := 242) (by decide +kernel), List.mem_of_getElem? (i := 695) (by decide +kernel), List.mem_of_getElem? (i := 696) (by decide +kernel)⟩
theorem lw_p14 : lw_okq (⟨"CatchBars$Voices", "own", "(III)I"⟩, 4) := ⟨⟨by decide +kernel, by decide +kernel⟩, List.mem_of_getElem? (i := 242) (by decide +kernel), List.mem_of_getElem? (i := 699) (by decide +kernel), List.mem_of_getElem? (i := 700) (by decide +kernel)⟩
theorem lw_p15 : lw_okq (⟨"CatchBarsModel", "finds", "(I)I"⟩, 26) := ⟨⟨by decide +kernel, by decide +kernel⟩, List.mem_of_getElem? (i := 789) (by decide +kernel), List.mem_of_getElem? (i := 882) (by decide +kernel), List.mem_of_getElem? (i := 883) (by decide +kernel)⟩
def lw_privs_1 : List (MethodName × Nat) := [(⟨"CatchBars", "error", "(I)I"⟩, 8), (⟨"CatchBars$Reader", "readLevel", "(II)V"⟩, 5), (⟨"CatchBars$Reader", "readPart", "(I)V"⟩, 5), (⟨"CatchBars$Reader", "next", "()I"⟩, 5), (⟨"CatchBars$Reader", "readNumber", "()V"⟩, 5), (⟨"CatchBars$Reader", "addStep", "(I)V"⟩, 5), (⟨"CatchBars", "goToldAt", "(LCatchBars$Flyer;I)I"⟩, 8), (⟨"CatchBars$Thinker", "isHeld", "(I)Z"⟩, 9), (⟨"CatchBars", "oneEvening", "()V"⟩, 8), (⟨"CatchBars", "orNone", "(I)I"⟩, 8), (⟨"CatchBars", "sheetOf", "(I)LCatchBars$Sheet;"⟩, 8), (⟨"CatchBars$Thinker", "isAsTold", "(LCatchBars$Sheet;)Z"⟩, 9), (⟨"CatchBars$Voices", "say", "(IIII)I"⟩, 4), (⟨"CatchBars$Voices", "note", "(I)V"⟩, 4), (⟨"CatchBars$Voices", "own", "(III)I"⟩, 4), (⟨"CatchBarsModel", "finds", "(I)I"⟩, 26)]
theorem lw_r1 : ∀ q ∈ lw_privs_1, lw_okq q := List.forall_mem_cons.mpr ⟨lw_p0, List.forall_mem_cons.mpr ⟨lw_p1, List.forall_mem_cons.mpr ⟨lw_p2, List.forall_mem_cons.mpr ⟨lw_p3, List.forall_mem_cons.mpr ⟨lw_p4, List.forall_mem_cons.mpr ⟨lw_p5, List.forall_mem_cons.mpr ⟨lw_p6, List.forall_mem_cons.mpr ⟨lw_p7, List.forall_mem_cons.mpr ⟨lw_p8, List.forall_mem_cons.mpr ⟨lw_p9, List.forall_mem_cons.mpr ⟨lw_p10, List.forall_mem_cons.mpr ⟨lw_p11, List.forall_mem_cons.mpr ⟨lw_p12, List.forall_mem_cons.mpr ⟨lw_p13, List.forall_mem_cons.mpr ⟨lw_p14, List.forall_mem_cons.mpr ⟨lw_p15, fun _ h => absurd h List.not_mem_nil⟩⟩⟩⟩⟩⟩⟩⟩⟩⟩⟩⟩⟩⟩⟩⟩
theorem lw_p16 : lw_okq (⟨"CatchBarsModel", "worked", "(III)I"⟩, 26) := ⟨⟨by decide +kernel, by decide +kernel⟩, List.mem_of_getElem? (i := 789) (by decide +kernel), List.mem_of_getElem? (i := 892) (by decide +kernel), List.mem_of_getElem? (i := 893) (by decide +kernel)⟩
theorem lw_p17 : lw_okq (⟨"CatchBarsModel", "either", "()I"⟩, 26) := ⟨⟨by decide +kernel, by decide +kernel⟩, List.mem_of_getElem? (i := 789) (by decide +kernel), List.mem_of_getElem? (i := 896) (by decide +kernel), List.mem_of_getElem? (i := 897) (by decide +kernel)⟩
theorem lw_p18 : lw_okq (⟨"CatchBarsModel", "both", "()I"⟩, 26) := ⟨⟨by decide +kernel, by decide +kernel⟩, List.mem_of_getElem? (i := 789) (by decide +kernel), List.mem_of_getElem? (i := 900) (by decide +kernel), List.mem_of_getElem? (i := 901) (by decide +kernel)⟩
theorem lw_p19 : lw_okq (⟨"CatchBarsModel", "compared", "()I"⟩, 26) := ⟨⟨by decide +kernel, by decide +kernel⟩, List.mem_of_getElem? (i := 789) (by decide +kernel), List.mem_of_getElem? (i := 904) (by decide +kernel), List.mem_of_getElem? (i := 905) (by decide +kernel)⟩
theorem lw_p20 : lw_okq (⟨"CatchBarsModel", "sum", "()I"⟩, 26) := ⟨⟨by decide +kernel, by decide +kernel⟩, List.mem_of_getElem? (i := 789) (by decide +kernel), List.mem_of_getElem? (i := 908) (by decide +kernel), List.mem_of_getElem? (i := 909) (by decide +kernel)⟩
theorem lw_p21 : lw_okq (⟨"CatchBarsModel", "product", "()I"⟩, 26) := ⟨⟨by decide +kernel, by decide +kernel⟩, List.mem_of_getElem? (i := 789) (by decide +kernel), List.mem_of_getElem? (i := 912) (by decide +kernel), List.mem_of_getElem? (i := 913) (by decide +kernel)⟩
theorem lw_p22 : lw_okq (⟨"CatchBarsModel", "unit", "()I"⟩, 26) := ⟨⟨by decide +kernel, by decide +kernel⟩, List.mem_of_getElem? (i := 789) (by decide +kernel), List.mem_of_getElem? (i := 916) (by decide +kernel), List.mem_of_getElem? (i := 917) (by decide +kernel)⟩
theorem lw_p23 : lw_okq (⟨"CatchBarsModel", "here", "()I"⟩, 26) := ⟨⟨by decide +kernel, by decide +kernel⟩, List.mem_of_getElem? (i := 789) (by decide +kernel), List.mem_of_getElem? (i := 920) (by decide +kernel), List.mem_of_getElem? (i := 921) (by decide +kernel)⟩
theorem lw_p24 : lw_okq (⟨"CatchBarsModel", "wrong", "()I"⟩, 26) := ⟨⟨by decide +kernel, by decide +kernel⟩, List.mem_of_getElem? (i := 789) (by decide +kernel), List.mem_of_getElem? (i := 924) (by decide +kernel), List.mem_of_getElem? (i := 925) (by decide +kernel)⟩
theorem lw_p25 : lw_okq (⟨"CatchBarsModel", "takes", "(I)Z"⟩, 26) := ⟨⟨by decide +kernel, by decide +kernel⟩, List.mem_of_getElem? (i := 789) (by decide +kernel), List.mem_of_getElem? (i := 928) (by decide +kernel), List.mem_of_getElem? (i := 929) (by decide +kernel)⟩
theorem lw_p26 : lw_okq (⟨"CatchBarsModel", "textGives", "(IIII)I"⟩, 26) := ⟨⟨by decide +kernel, by decide +kernel⟩, List.mem_of_getElem? (i := 789) (by decide +kernel), List.mem_of_getElem? (i := 941) (by decide +kernel), List.mem_of_getElem? (i := 942) (by decide +kernel)⟩
theorem lw_p27 : lw_okq (⟨"CatchBarsModel", "barOf", "(II)I"⟩, 26) := ⟨⟨by decide +kernel, by decide +kernel⟩, List.mem_of_getElem? (i := 789) (by decide +kernel), List.mem_of_getElem? (i := 964) (by decide +kernel), List.mem_of_getElem? (i := 965) (by decide +kernel)⟩
theorem lw_p28 : lw_okq (⟨"CatchBarsModel", "sets", "(III)V"⟩, 26) := ⟨⟨by decide +kernel, by decide +kernel⟩, List.mem_of_getElem? (i := 789) (by decide +kernel), List.mem_of_getElem? (i := 981) (by decide +kernel), List.mem_of_getElem? (i := 982) (by decide +kernel)⟩
theorem lw_p29 : lw_okq (⟨"CatchBarsModel", "isFlyer", "(I)Z"⟩, 26) := ⟨⟨by decide +kernel, by decide +kernel⟩, List.mem_of_getElem? (i := 789) (by decide +kernel), List.mem_of_getElem? (i := 989) (by decide +kernel), List.mem_of_getElem? (i := 990) (by decide +kernel)⟩
theorem lw_p30 : lw_okq (⟨"CatchBarsModel", "lagOf", "(I)I"⟩, 26) := ⟨⟨by decide +kernel, by decide +kernel⟩, List.mem_of_getElem? (i := 789) (by decide +kernel), List.mem_of_getElem? (i := 994) (by decide +kernel), List.mem_of_getElem? (i := 995) (by decide +kernel)⟩
theorem lw_p31 : lw_okq (⟨"CatchBarsModel", "of", "(II)I"⟩, 26) := ⟨⟨by decide +kernel, by decide +kernel⟩, List.mem_of_getElem? (i := 789) (by decide +kernel), List.mem_of_getElem? (i := 998) (by decide +kernel), List.mem_of_getElem? (i := 999) (by decide +kernel)⟩
def lw_privs_2 : List (MethodName × Nat) := [(⟨"CatchBarsModel", "worked", "(III)I"⟩, 26), (⟨"CatchBarsModel", "either", "()I"⟩, 26), (⟨"CatchBarsModel", "both", "()I"⟩, 26), (⟨"CatchBarsModel", "compared", "()I"⟩, 26), (⟨"CatchBarsModel", "sum", "()I"⟩, 26), (⟨"CatchBarsModel", "product", "()I"⟩, 26), (⟨"CatchBarsModel", "unit", "()I"⟩, 26), (⟨"CatchBarsModel", "here", "()I"⟩, 26), (⟨"CatchBarsModel", "wrong", "()I"⟩, 26), (⟨"CatchBarsModel", "takes", "(I)Z"⟩, 26), (⟨"CatchBarsModel", "textGives", "(IIII)I"⟩, 26), (⟨"CatchBarsModel", "barOf", "(II)I"⟩, 26), (⟨"CatchBarsModel", "sets", "(III)V"⟩, 26), (⟨"CatchBarsModel", "isFlyer", "(I)Z"⟩, 26), (⟨"CatchBarsModel", "lagOf", "(I)I"⟩, 26), (⟨"CatchBarsModel", "of", "(II)I"⟩, 26)]
theorem lw_r2 : ∀ q ∈ lw_privs_2, lw_okq q := List.forall_mem_cons.mpr ⟨lw_p16, List.forall_mem_cons.mpr ⟨lw_p17, List.forall_mem_cons.mpr ⟨lw_p18, List.forall_mem_cons.mpr ⟨lw_p19, List.forall_mem_cons.mpr ⟨lw_p20, List.forall_mem_cons.mpr ⟨lw_p21, List.forall_mem_cons.mpr ⟨lw_p22, List.forall_mem_cons.mpr ⟨lw_p23, List.forall_mem_cons.mpr ⟨lw_p24, List.forall_mem_cons.mpr ⟨lw_p25, List.forall_mem_cons.mpr ⟨lw_p26, List.forall_mem_cons.mpr ⟨lw_p27, List.forall_mem_cons.mpr ⟨lw_p28, List.forall_mem_cons.mpr ⟨lw_p29, List.forall_mem_cons.mpr ⟨lw_p30, List.forall_mem_cons.mpr ⟨lw_p31, fun _ h => absurd h List.not_mem_nil⟩⟩⟩⟩⟩⟩⟩⟩⟩⟩⟩⟩⟩⟩⟩⟩
theorem lw_p32 : lw_okq (⟨"CatchBarsModel", "holdsOf", "(I)I"⟩, 26) := ⟨⟨by decide +kernel, by decide +kernel⟩, List.mem_of_getElem? (i := 789) (by decide +kernel), List.mem_of_getElem? (i := 1002) (by decide +kernel), List.mem_of_getElem? (i := 1003) (by decide +kernel)⟩
theorem lw_p33 : lw_okq (⟨"CatchBarsModel", "harmOf", "(II)I"⟩, 26) := ⟨⟨by decide +kernel, by decide +kernel⟩, List.mem_of_getElem? (i := 789) (by decide +kernel), List.mem_of_getElem? (i := 1006) (by decide +kernel), List.mem_of_getElem? (i := 1007) (by decide +kernel)⟩
theorem lw_p34 : lw_okq (⟨"CatchBarsModel", "goes", "(II)I"⟩, 26) := ⟨⟨by decide +kernel, by decide +kernel⟩, List.mem_of_getElem? (i := 789) (by decide +kernel), List.mem_of_getElem? (i := 1030) (by decide +kernel), List.mem_of_getElem? (i := 1031) (by decide +kernel)⟩
theorem lw_p35 : lw_okq (⟨"CatchBarsModel", "isTold", "(II)V"⟩, 26) := ⟨⟨by decide +kernel, by decide +kernel⟩, List.mem_of_getElem? (i := 789) (by decide +kernel), List.mem_of_getElem? (i := 1034) (by decide +kernel), List.mem_of_getElem? (i := 1035) (by decide +kernel)⟩
theorem lw_p36 : lw_okq (⟨"CatchBarsModel", "letsGo", "(II)V"⟩, 26) := ⟨⟨by decide +kernel, by decide +kernel⟩, List.mem_of_getElem? (i := 789) (by decide +kernel), List.mem_of_getElem? (i := 1038) (by decide +kernel), List.mem_of_getElem? (i := 1039) (by decide +kernel)⟩
theorem lw_p37 : lw_okq (⟨"CatchBarsModel", "isCaught", "(I)Z"⟩, 26) := ⟨⟨by decide +kernel, by decide +kernel⟩, List.mem_of_getElem? (i := 789) (by decide +kernel), List.mem_of_getElem? (i := 1042) (by decide +kernel), List.mem_of_getElem? (i := 1043) (by decide +kernel)⟩
theorem lw_p38 : lw_okq (⟨"CatchBarsModel", "offNow", "()I"⟩, 26) := ⟨⟨by decide +kernel, by decide +kernel⟩, List.mem_of_getElem? (i := 789) (by decide +kernel), List.mem_of_getElem? (i := 1046) (by decide +kernel), List.mem_of_getElem? (i := 1047) (by decide +kernel)⟩
theorem lw_p39 : lw_okq (⟨"CatchBarsModel", "catcherAt", "(I)I"⟩, 26) := ⟨⟨by decide +kernel, by decide +kernel⟩, List.mem_of_getElem? (i := 789) (by decide +kernel), List.mem_of_getElem? (i := 1050) (by decide +kernel), List.mem_of_getElem? (i := 1051) (by decide +kernel)⟩
theorem lw_p40 : lw_okq (⟨"CatchBarsModel", "fallHarm", "(II)I"⟩, 26) := ⟨⟨by decide +kernel, by decide +kernel⟩, List.mem_of_getElem? (i := 789) (by decide +kernel), List.mem_of_getElem? (i := 1057) (by decide +kernel), List.mem_of_getElem? (i := 1058) (by decide +kernel)⟩
theorem lw_p41 : lw_okq (⟨"CatchBarsModel", "drawn", "()I"⟩, 26) := ⟨⟨by decide +kernel, by decide +kernel⟩, List.mem_of_getElem? (i := 789) (by decide +kernel), List.mem_of_getElem? (i := 1070) (by decide +kernel), List.mem_of_getElem? (i := 1071) (by decide +kernel)⟩
theorem lw_p42 : lw_okq (⟨"CatchBarsModel", "findCan", "(II)V"⟩, 26) := ⟨⟨by decide +kernel, by decide +kernel⟩, List.mem_of_getElem? (i := 789) (by decide +kernel), List.mem_of_getElem? (i := 1093) (by decide +kernel), List.mem_of_getElem? (i := 1094) (by decide +kernel)⟩
theorem lw_p43 : lw_okq (⟨"CatchBarsModel", "surestOf", "(II)I"⟩, 26) := ⟨⟨by decide +kernel, by decide +kernel⟩, List.mem_of_getElem? (i := 789) (by decide +kernel), List.mem_of_getElem? (i := 1101) (by decide +kernel), List.mem_of_getElem? (i := 1102) (by decide +kernel)⟩
theorem lw_p44 : lw_okq (⟨"CatchBarsModel", "casesAt", "(II)I"⟩, 26) := ⟨⟨by decide +kernel, by decide +kernel⟩, List.mem_of_getElem? (i := 789) (by decide +kernel), List.mem_of_getElem? (i := 1105) (by decide +kernel), List.mem_of_getElem? (i := 1106) (by decide +kernel)⟩
theorem lw_p45 : lw_okq (⟨"CatchBarsModel", "hasNext", "(II)Z"⟩, 26) := ⟨⟨by decide +kernel, by decide +kernel⟩, List.mem_of_getElem? (i := 789) (by decide +kernel), List.mem_of_getElem? (i := 1121) (by decide +kernel), List.mem_of_getElem? (i := 1122) (by decide +kernel)⟩
theorem lw_p46 : lw_okq (⟨"CatchBarsModel", "findFalls", "(II)V"⟩, 26) := ⟨⟨by decide +kernel, by decide +kernel⟩, List.mem_of_getElem? (i := 789) (by decide +kernel), List.mem_of_getElem? (i := 1144) (by decide +kernel), List.mem_of_getElem? (i := 1145) (by decide +kernel)⟩
theorem lw_p47 : lw_okq (⟨"CatchBarsModel", "harmBy", "(II)J"⟩, 26) := ⟨⟨by decide +kernel, by decide +kernel⟩, List.mem_of_getElem? (i := 789) (by decide +kernel), List.mem_of_getElem? (i := 1148) (by decide +kernel), List.mem_of_getElem? (i := 1149) (by decide +kernel)⟩
def lw_privs_3 : List (MethodName × Nat) := [(⟨"CatchBarsModel", "holdsOf", "(I)I"⟩, 26), (⟨"CatchBarsModel", "harmOf", "(II)I"⟩, 26), (⟨"CatchBarsModel", "goes", "(II)I"⟩, 26), (⟨"CatchBarsModel", "isTold", "(II)V"⟩, 26), (⟨"CatchBarsModel", "letsGo", "(II)V"⟩, 26), (⟨"CatchBarsModel", "isCaught", "(I)Z"⟩, 26), (⟨"CatchBarsModel", "offNow", "()I"⟩, 26), (⟨"CatchBarsModel", "catcherAt", "(I)I"⟩, 26), (⟨"CatchBarsModel", "fallHarm", "(II)I"⟩, 26), (⟨"CatchBarsModel", "drawn", "()I"⟩, 26), (⟨"CatchBarsModel", "findCan", "(II)V"⟩, 26), (⟨"CatchBarsModel", "surestOf", "(II)I"⟩, 26), (⟨"CatchBarsModel", "casesAt", "(II)I"⟩, 26), (⟨"CatchBarsModel", "hasNext", "(II)Z"⟩, 26), (⟨"CatchBarsModel", "findFalls", "(II)V"⟩, 26), (⟨"CatchBarsModel", "harmBy", "(II)J"⟩, 26)]
theorem lw_r3 : ∀ q ∈ lw_privs_3, lw_okq q := List.forall_mem_cons.mpr ⟨lw_p32, List.forall_mem_cons.mpr ⟨lw_p33, List.forall_mem_cons.mpr ⟨lw_p34, List.forall_mem_cons.mpr ⟨lw_p35, List.forall_mem_cons.mpr ⟨lw_p36, List.forall_mem_cons.mpr ⟨lw_p37, List.forall_mem_cons.mpr ⟨lw_p38, List.forall_mem_cons.mpr ⟨lw_p39, List.forall_mem_cons.mpr ⟨lw_p40, List.forall_mem_cons.mpr ⟨lw_p41, List.forall_mem_cons.mpr ⟨lw_p42, List.forall_mem_cons.mpr ⟨lw_p43, List.forall_mem_cons.mpr ⟨lw_p44, List.forall_mem_cons.mpr ⟨lw_p45, List.forall_mem_cons.mpr ⟨lw_p46, List.forall_mem_cons.mpr ⟨lw_p47, fun _ h => absurd h List.not_mem_nil⟩⟩⟩⟩⟩⟩⟩⟩⟩⟩⟩⟩⟩⟩⟩⟩
theorem lw_p48 : lw_okq (⟨"CatchBarsModel", "isSo", "(II)Z"⟩, 26) := ⟨⟨by decide +kernel, by decide +kernel⟩, List.mem_of_getElem? (i := 789) (by decide +kernel), List.mem_of_getElem? (i := 1159) (by decide +kernel), List.mem_of_getElem? (i := 1160) (by decide +kernel)⟩
theorem lw_p49 : lw_okq (⟨"CatchBarsModel", "own", "()I"⟩, 26) := ⟨⟨by decide +kernel, by decide +kernel⟩, List.mem_of_getElem? (i := 789) (by decide +kernel), List.mem_of_getElem? (i := 1175) (by decide +kernel), List.mem_of_getElem? (i := 1176) (by decide +kernel)⟩
theorem lw_p50 : lw_okq (⟨"CatchBarsModel", "swingsBy", "(II)I"⟩, 26) := ⟨⟨by decide +kernel, by decide +kernel⟩, List.mem_of_getElem? (i := 789) (by decide +kernel), List.mem_of_getElem? (i := 1179) (by decide +kernel), List.mem_of_getElem? (i := 1180) (by decide +kernel)⟩
theorem lw_p51 : lw_okq (⟨"CatchBarsModel", "ran", "(I)V"⟩, 26) := ⟨⟨by decide +kernel, by decide +kernel⟩, List.mem_of_getElem? (i := 789) (by decide +kernel), List.mem_of_getElem? (i := 1183) (by decide +kernel), List.mem_of_getElem? (i := 1184) (by decide +kernel)⟩
theorem lw_p52 : lw_okq (⟨"CatchBarsModel", "fliesBy", "(II)I"⟩, 26) := ⟨⟨by decide +kernel, by decide +kernel⟩, List.mem_of_getElem? (i := 789) (by decide +kernel), List.mem_of_getElem? (i := 1187) (by decide +kernel), List.mem_of_getElem? (i := 1188) (by decide +kernel)⟩
theorem lw_p53 : lw_okq (⟨"CatchBarsModel", "fallsBy", "(II)I"⟩, 26) := ⟨⟨by decide +kernel, by decide +kernel⟩, List.mem_of_getElem? (i := 789) (by decide +kernel), List.mem_of_getElem? (i := 1191) (by decide +kernel), List.mem_of_getElem? (i := 1192) (by decide +kernel)⟩
theorem lw_p54 : lw_okq (⟨"CatchBarsModel", "tellsBy", "(II)I"⟩, 26) := ⟨⟨by decide +kernel, by decide +kernel⟩, List.mem_of_getElem? (i := 789) (by decide +kernel), List.mem_of_getElem? (i := 1195) (by decide +kernel), List.mem_of_getElem? (i := 1196) (by decide +kernel)⟩
def lw_privs_4 : List (MethodName × Nat) := [(⟨"CatchBarsModel", "isSo", "(II)Z"⟩, 26), (⟨"CatchBarsModel", "own", "()I"⟩, 26), (⟨"CatchBarsModel", "swingsBy", "(II)I"⟩, 26), (⟨"CatchBarsModel", "ran", "(I)V"⟩, 26), (⟨"CatchBarsModel", "fliesBy", "(II)I"⟩, 26), (⟨"CatchBarsModel", "fallsBy", "(II)I"⟩, 26), (⟨"CatchBarsModel", "tellsBy", "(II)I"⟩, 26)]
theorem lw_r4 : ∀ q ∈ lw_privs_4, lw_okq q := List.forall_mem_cons.mpr ⟨lw_p48, List.forall_mem_cons.mpr ⟨lw_p49, List.forall_mem_cons.mpr ⟨lw_p50, List.forall_mem_cons.mpr ⟨lw_p51, List.forall_mem_cons.mpr ⟨lw_p52, List.forall_mem_cons.mpr ⟨lw_p53, List.forall_mem_cons.mpr ⟨lw_p54, fun _ h => absurd h List.not_mem_nil⟩⟩⟩⟩⟩⟩⟩
def lw_privs : List (MethodName × Nat) := lw_privs_1 ++ (lw_privs_2 ++ (lw_privs_3 ++ (lw_privs_4)))
def lw_tbl : List Cond := k2_sels lw_privs ++ tables_1
theorem lw_privs_ok : ∀ q ∈ lw_privs, lw_okq q := by
  show ∀ q ∈ lw_privs_1 ++ (lw_privs_2 ++ (lw_privs_3 ++ (lw_privs_4))), lw_okq q
  exact List.forall_mem_append.mpr ⟨lw_r1, List.forall_mem_append.mpr ⟨lw_r2, List.forall_mem_append.mpr ⟨lw_r3, lw_r4⟩⟩⟩
def RX0 : String := "CatchBars$Flyer"
def TX0 : u_T := fun k => match k with
  | 0 => ("CatchBars$Flyer", "kind", "I", false)
  | 1 => ("CatchBars$Flyer", "m", "I", false)
  | 2 => ("CatchBars$Flyer", "turnCount", "I", false)
  | _ => ("CatchBars$Flyer", "goes", "I", false)
def tyX0 : Nat → FieldType := fun k => match k with
  | 0 => .int
  | 1 => .int
  | 2 => .int
  | _ => .int
theorem nmX0 : ∀ a, a < 4 → ∀ b, b < 4 → a ≠ b → (TX0 a).2.1 ≠ (TX0 b).2.1 := by decide +kernel
theorem tyX0_ok : ∀ k, k < 4 → parseFieldDescriptor (TX0 k).2.2.1 = some (tyX0 k) := by decide +kernel
abbrev cX0_init : ByteArray := prog_2_method_1_code
def yX0_init : MethodName := ⟨RX0, "<init>", "()V"⟩
abbrev cX0_begin : ByteArray := prog_2_method_2_code
def yX0_begin : MethodName := ⟨RX0, "begin", "(I)V"⟩
abbrev cX0_take : ByteArray := prog_2_method_3_code
def yX0_take : MethodName := ⟨RX0, "take", "(I)V"⟩
abbrev cX0_isOf : ByteArray := prog_2_method_4_code
def yX0_isOf : MethodName := ⟨RX0, "isOf", "(I)Z"⟩
abbrev cX0_kindAbove : ByteArray := prog_2_method_5_code
def yX0_kindAbove : MethodName := ⟨RX0, "kindAbove", "(I)I"⟩
abbrev cX0_lag : ByteArray := prog_2_method_6_code
def yX0_lag : MethodName := ⟨RX0, "lag", "()I"⟩
abbrev cX0_holds : ByteArray := prog_2_method_7_code
def yX0_holds : MethodName := ⟨RX0, "holds", "(I)I"⟩
abbrev cX0_harm : ByteArray := prog_2_method_8_code
def yX0_harm : MethodName := ⟨RX0, "harm", "(I)I"⟩
abbrev cX0_copy : ByteArray := prog_2_method_9_code
def yX0_copy : MethodName := ⟨RX0, "copy", "(LCatchBars$Flyer;)V"⟩
def RX1 : String := "CatchBars$Law"
def TX1 : u_T := fun k => match k with
  | 0 => ("CatchBars$Law", "isFlight", "Z", true)
  | 1 => ("CatchBars$Law", "least", "I", true)
  | 2 => ("CatchBars$Law", "most", "I", true)
  | 3 => ("CatchBars$Law", "steps", "[I", true)
  | 4 => ("CatchBars$Law", "stack", "[I", true)
  | _ => ("CatchBars$Law", "count", "I", false)
def tyX1 : Nat → FieldType := fun k => match k with
  | 0 => .boolean
  | 1 => .int
  | 2 => .int
  | 3 => .array .int
  | 4 => .array .int
  | _ => .int
theorem nmX1 : ∀ a, a < 6 → ∀ b, b < 6 → a ≠ b → (TX1 a).2.1 ≠ (TX1 b).2.1 := by decide +kernel
theorem tyX1_ok : ∀ k, k < 6 → parseFieldDescriptor (TX1 k).2.2.1 = some (tyX1 k) := by decide +kernel
abbrev cX1_init : ByteArray := prog_3_method_1_code
def yX1_init : MethodName := ⟨RX1, "<init>", "(I)V"⟩
abbrev cX1_take : ByteArray := prog_3_method_2_code
def yX1_take : MethodName := ⟨RX1, "take", "([II)V"⟩
abbrev cX1_gives : ByteArray := prog_3_method_3_code
def yX1_gives : MethodName := ⟨RX1, "gives", "(III)I"⟩
abbrev cX1_isPart : ByteArray := prog_3_method_4_code
def yX1_isPart : MethodName := ⟨RX1, "isPart", "(I)Z"⟩
abbrev cX1_joined : ByteArray := prog_3_method_5_code
def yX1_joined : MethodName := ⟨RX1, "joined", "(III)I"⟩
abbrev cX1_copy : ByteArray := prog_3_method_6_code
def yX1_copy : MethodName := ⟨RX1, "copy", "(LCatchBars$Law;)V"⟩
def RX2 : String := "CatchBars$Reader"
def TX2 : u_T := fun k => match k with
  | 0 => ("CatchBars$Reader", "world", "LCatchBars$World;", true)
  | 1 => ("CatchBars$Reader", "steps", "[I", true)
  | 2 => ("CatchBars$Reader", "count", "I", false)
  | 3 => ("CatchBars$Reader", "at", "I", false)
  | _ => ("CatchBars$Reader", "wrong", "Z", false)
def tyX2 : Nat → FieldType := fun k => match k with
  | 0 => .object "CatchBars$World"
  | 1 => .array .int
  | 2 => .int
  | 3 => .int
  | _ => .boolean
theorem nmX2 : ∀ a, a < 5 → ∀ b, b < 5 → a ≠ b → (TX2 a).2.1 ≠ (TX2 b).2.1 := by decide +kernel
theorem tyX2_ok : ∀ k, k < 5 → parseFieldDescriptor (TX2 k).2.2.1 = some (tyX2 k) := by decide +kernel
abbrev cX2_init : ByteArray := prog_4_method_1_code
def yX2_init : MethodName := ⟨RX2, "<init>", "(LCatchBars$World;)V"⟩
abbrev cX2_readTape : ByteArray := prog_4_method_2_code
def yX2_readTape : MethodName := ⟨RX2, "readTape", "()I"⟩
abbrev cX2_next : ByteArray := prog_4_method_3_code
def yX2_next : MethodName := ⟨RX2, "next", "()I"⟩
abbrev cX2_addStep : ByteArray := prog_4_method_4_code
def yX2_addStep : MethodName := ⟨RX2, "addStep", "(I)V"⟩
abbrev cX2_readLevel : ByteArray := prog_4_method_5_code
def yX2_readLevel : MethodName := ⟨RX2, "readLevel", "(II)V"⟩
abbrev cX2_levelOf : ByteArray := prog_4_method_6_code
def yX2_levelOf : MethodName := ⟨RX2, "levelOf", "(I)I"⟩
abbrev cX2_readPart : ByteArray := prog_4_method_7_code
def yX2_readPart : MethodName := ⟨RX2, "readPart", "(I)V"⟩
abbrev cX2_readNumber : ByteArray := prog_4_method_8_code
def yX2_readNumber : MethodName := ⟨RX2, "readNumber", "()V"⟩
abbrev cX2_isDigit : ByteArray := prog_4_method_9_code
def yX2_isDigit : MethodName := ⟨RX2, "isDigit", "(I)Z"⟩
def RX3 : String := "CatchBars$Sheet"
def TX3 : u_T := fun k => match k with
  | 0 => ("CatchBars$Sheet", "numbers", "[I", true)
  | 1 => ("CatchBars$Sheet", "bits", "I", false)
  | _ => ("CatchBars$Sheet", "length", "I", false)
def tyX3 : Nat → FieldType := fun k => match k with
  | 0 => .array .int
  | 1 => .int
  | _ => .int
theorem nmX3 : ∀ a, a < 3 → ∀ b, b < 3 → a ≠ b → (TX3 a).2.1 ≠ (TX3 b).2.1 := by decide +kernel
theorem tyX3_ok : ∀ k, k < 3 → parseFieldDescriptor (TX3 k).2.2.1 = some (tyX3 k) := by decide +kernel
abbrev cX3_init : ByteArray := prog_5_method_1_code
def yX3_init : MethodName := ⟨RX3, "<init>", "()V"⟩
abbrev cX3_isMissing : ByteArray := prog_5_method_2_code
def yX3_isMissing : MethodName := ⟨RX3, "isMissing", "()Z"⟩
abbrev cX3_begin : ByteArray := prog_5_method_3_code
def yX3_begin : MethodName := ⟨RX3, "begin", "(II)V"⟩
abbrev cX3_write : ByteArray := prog_5_method_4_code
def yX3_write : MethodName := ⟨RX3, "write", "(II)V"⟩
abbrev cX3_read : ByteArray := prog_5_method_5_code
def yX3_read : MethodName := ⟨RX3, "read", "(I)I"⟩
abbrev cX3_hasRow : ByteArray := prog_5_method_6_code
def yX3_hasRow : MethodName := ⟨RX3, "hasRow", "(II)Z"⟩
def RX4 : String := "CatchBars$Swing"
def TX4 : u_T := fun k => match k with
  | 0 => ("CatchBars$Swing", "period", "I", false)
  | 1 => ("CatchBars$Swing", "width", "I", false)
  | _ => ("CatchBars$Swing", "phase", "I", false)
def tyX4 : Nat → FieldType := fun k => match k with
  | 0 => .int
  | 1 => .int
  | _ => .int
theorem nmX4 : ∀ a, a < 3 → ∀ b, b < 3 → a ≠ b → (TX4 a).2.1 ≠ (TX4 b).2.1 := by decide +kernel
theorem tyX4_ok : ∀ k, k < 3 → parseFieldDescriptor (TX4 k).2.2.1 = some (tyX4 k) := by decide +kernel
abbrev cX4_init : ByteArray := prog_6_method_1_code
def yX4_init : MethodName := ⟨RX4, "<init>", "()V"⟩
abbrev cX4_takes : ByteArray := prog_6_method_2_code
def yX4_takes : MethodName := ⟨RX4, "takes", "(II)Z"⟩
abbrev cX4_change : ByteArray := prog_6_method_3_code
def yX4_change : MethodName := ⟨RX4, "change", "(II)I"⟩
abbrev cX4_placeAt : ByteArray := prog_6_method_4_code
def yX4_placeAt : MethodName := ⟨RX4, "placeAt", "(I)I"⟩
abbrev cX4_copy : ByteArray := prog_6_method_5_code
def yX4_copy : MethodName := ⟨RX4, "copy", "(LCatchBars$Swing;)V"⟩
def RX5 : String := "CatchBars$Thinker"
def TX5 : u_T := fun k => match k with
  | 0 => ("CatchBars$Thinker", "world", "LCatchBars$World;", true)
  | 1 => ("CatchBars$Thinker", "near", "LCatchBars$Swing;", true)
  | 2 => ("CatchBars$Thinker", "far", "LCatchBars$Swing;", true)
  | 3 => ("CatchBars$Thinker", "flyer", "LCatchBars$Flyer;", true)
  | 4 => ("CatchBars$Thinker", "fallPlaces", "[I", true)
  | 5 => ("CatchBars$Thinker", "fallCount", "I", false)
  | 6 => ("CatchBars$Thinker", "lag", "I", false)
  | 7 => ("CatchBars$Thinker", "comes", "I", false)
  | _ => ("CatchBars$Thinker", "place", "I", false)
def tyX5 : Nat → FieldType := fun k => match k with
  | 0 => .object "CatchBars$World"
  | 1 => .object "CatchBars$Swing"
  | 2 => .object "CatchBars$Swing"
  | 3 => .object "CatchBars$Flyer"
  | 4 => .array .int
  | 5 => .int
  | 6 => .int
  | 7 => .int
  | _ => .int
theorem nmX5 : ∀ a, a < 9 → ∀ b, b < 9 → a ≠ b → (TX5 a).2.1 ≠ (TX5 b).2.1 := by decide +kernel
theorem tyX5_ok : ∀ k, k < 9 → parseFieldDescriptor (TX5 k).2.2.1 = some (tyX5 k) := by decide +kernel
abbrev cX5_init : ByteArray := prog_7_method_1_code
def yX5_init : MethodName := ⟨RX5, "<init>", "(LCatchBars$World;)V"⟩
abbrev cX5_start : ByteArray := prog_7_method_2_code
def yX5_start : MethodName := ⟨RX5, "start", "(LCatchBars$Flyer;)V"⟩
abbrev cX5_fly : ByteArray := prog_7_method_3_code
def yX5_fly : MethodName := ⟨RX5, "fly", "(II)V"⟩
abbrev cX5_off : ByteArray := prog_7_method_4_code
def yX5_off : MethodName := ⟨RX5, "off", "(I)I"⟩
abbrev cX5_isHeld : ByteArray := prog_7_method_5_code
def yX5_isHeld : MethodName := ⟨RX5, "isHeld", "(I)Z"⟩
abbrev cX5_isCaught : ByteArray := prog_7_method_6_code
def yX5_isCaught : MethodName := ⟨RX5, "isCaught", "(I)Z"⟩
abbrev cX5_howManyCaught : ByteArray := prog_7_method_7_code
def yX5_howManyCaught : MethodName := ⟨RX5, "howManyCaught", "(I)I"⟩
abbrev cX5_firstCaught : ByteArray := prog_7_method_8_code
def yX5_firstCaught : MethodName := ⟨RX5, "firstCaught", "(I)I"⟩
abbrev cX5_casesCaught : ByteArray := prog_7_method_9_code
def yX5_casesCaught : MethodName := ⟨RX5, "casesCaught", "(I)I"⟩
abbrev cX5_surestWait : ByteArray := prog_7_method_10_code
def yX5_surestWait : MethodName := ⟨RX5, "surestWait", "(I)I"⟩
abbrev cX5_leastPumps : ByteArray := prog_7_method_11_code
def yX5_leastPumps : MethodName := ⟨RX5, "leastPumps", "(I)I"⟩
abbrev cX5_leastSteps : ByteArray := prog_7_method_12_code
def yX5_leastSteps : MethodName := ⟨RX5, "leastSteps", "(I)I"⟩
abbrev cX5_gatherFalls : ByteArray := prog_7_method_13_code
def yX5_gatherFalls : MethodName := ⟨RX5, "gatherFalls", "(I)I"⟩
abbrev cX5_harmTogether : ByteArray := prog_7_method_14_code
def yX5_harmTogether : MethodName := ⟨RX5, "harmTogether", "(I)I"⟩
abbrev cX5_leastHarmPlace : ByteArray := prog_7_method_15_code
def yX5_leastHarmPlace : MethodName := ⟨RX5, "leastHarmPlace", "()I"⟩
abbrev cX5_isAsTold : ByteArray := prog_7_method_16_code
def yX5_isAsTold : MethodName := ⟨RX5, "isAsTold", "(LCatchBars$Sheet;)Z"⟩
abbrev cX5_firstPhase : ByteArray := prog_7_method_17_code
def yX5_firstPhase : MethodName := ⟨RX5, "firstPhase", "(LCatchBars$Sheet;I)I"⟩
abbrev cX5_howManyPhases : ByteArray := prog_7_method_18_code
def yX5_howManyPhases : MethodName := ⟨RX5, "howManyPhases", "(LCatchBars$Sheet;)I"⟩
abbrev cX5_leastLag : ByteArray := prog_7_method_19_code
def yX5_leastLag : MethodName := ⟨RX5, "leastLag", "(LCatchBars$Sheet;)I"⟩
def RX6 : String := "CatchBars$Voices"
def TX6 : u_T := fun k => match k with
  | 0 => ("CatchBars$Voices", "trace", "[I", true)
  | 1 => ("CatchBars$Voices", "traced", "I", false)
  | 2 => ("CatchBars$Voices", "number", "I", false)
  | _ => ("CatchBars$Voices", "flyer", "LCatchBars$Flyer;", true)
def tyX6 : Nat → FieldType := fun k => match k with
  | 0 => .array .int
  | 1 => .int
  | 2 => .int
  | _ => .object "CatchBars$Flyer"
theorem nmX6 : ∀ a, a < 4 → ∀ b, b < 4 → a ≠ b → (TX6 a).2.1 ≠ (TX6 b).2.1 := by decide +kernel
theorem tyX6_ok : ∀ k, k < 4 → parseFieldDescriptor (TX6 k).2.2.1 = some (tyX6 k) := by decide +kernel
abbrev cX6_init : ByteArray := prog_8_method_1_code
def yX6_init : MethodName := ⟨RX6, "<init>", "()V"⟩
abbrev cX6_speak : ByteArray := prog_8_method_2_code
def yX6_speak : MethodName := ⟨RX6, "speak", "(ILCatchBars$Flyer;II)I"⟩
abbrev cX6_bodyAt : ByteArray := prog_8_method_3_code
def yX6_bodyAt : MethodName := ⟨RX6, "bodyAt", "(I)I"⟩
abbrev cX6_bodyFor : ByteArray := prog_8_method_4_code
def yX6_bodyFor : MethodName := ⟨RX6, "bodyFor", "(II)I"⟩
abbrev cX6_note : ByteArray := prog_8_method_5_code
def yX6_note : MethodName := ⟨RX6, "note", "(I)V"⟩
abbrev cX6_own : ByteArray := prog_8_method_6_code
def yX6_own : MethodName := ⟨RX6, "own", "(III)I"⟩
abbrev cX6_say : ByteArray := prog_8_method_7_code
def yX6_say : MethodName := ⟨RX6, "say", "(IIII)I"⟩
def RX7 : String := "CatchBars$World"
def TX7 : u_T := fun k => match k with
  | 0 => ("CatchBars$World", "near", "LCatchBars$Swing;", true)
  | 1 => ("CatchBars$World", "far", "LCatchBars$Swing;", true)
  | 2 => ("CatchBars$World", "gap", "I", false)
  | 3 => ("CatchBars$World", "reach", "I", false)
  | 4 => ("CatchBars$World", "net", "I", false)
  | 5 => ("CatchBars$World", "tick", "I", false)
  | 6 => ("CatchBars$World", "flyers", "[LCatchBars$Flyer;", true)
  | 7 => ("CatchBars$World", "flyerCount", "I", false)
  | 8 => ("CatchBars$World", "tape", "[I", true)
  | 9 => ("CatchBars$World", "tapeLength", "I", false)
  | 10 => ("CatchBars$World", "flight", "LCatchBars$Law;", true)
  | 11 => ("CatchBars$World", "air", "LCatchBars$Law;", true)
  | 12 => ("CatchBars$World", "catches", "I", false)
  | 13 => ("CatchBars$World", "falls", "I", false)
  | 14 => ("CatchBars$World", "hurt", "I", false)
  | 15 => ("CatchBars$World", "z", "I", false)
  | 16 => ("CatchBars$World", "waiting", "[I", true)
  | _ => ("CatchBars$World", "waitingCount", "I", false)
def tyX7 : Nat → FieldType := fun k => match k with
  | 0 => .object "CatchBars$Swing"
  | 1 => .object "CatchBars$Swing"
  | 2 => .int
  | 3 => .int
  | 4 => .int
  | 5 => .int
  | 6 => .array (.object "CatchBars$Flyer")
  | 7 => .int
  | 8 => .array .int
  | 9 => .int
  | 10 => .object "CatchBars$Law"
  | 11 => .object "CatchBars$Law"
  | 12 => .int
  | 13 => .int
  | 14 => .int
  | 15 => .int
  | 16 => .array .int
  | _ => .int
theorem nmX7 : ∀ a, a < 18 → ∀ b, b < 18 → a ≠ b → (TX7 a).2.1 ≠ (TX7 b).2.1 := by decide +kernel
theorem tyX7_ok : ∀ k, k < 18 → parseFieldDescriptor (TX7 k).2.2.1 = some (tyX7 k) := by decide +kernel
abbrev cX7_init : ByteArray := prog_9_method_1_code
def yX7_init : MethodName := ⟨RX7, "<init>", "()V"⟩
abbrev cX7_swingOf : ByteArray := prog_9_method_2_code
def yX7_swingOf : MethodName := ⟨RX7, "swingOf", "(I)LCatchBars$Swing;"⟩
abbrev cX7_lawOf : ByteArray := prog_9_method_3_code
def yX7_lawOf : MethodName := ⟨RX7, "lawOf", "(I)LCatchBars$Law;"⟩
abbrev cX7_flyerOf : ByteArray := prog_9_method_4_code
def yX7_flyerOf : MethodName := ⟨RX7, "flyerOf", "(I)LCatchBars$Flyer;"⟩
abbrev cX7_addByte : ByteArray := prog_9_method_5_code
def yX7_addByte : MethodName := ⟨RX7, "addByte", "(I)V"⟩
abbrev cX7_addWaiting : ByteArray := prog_9_method_6_code
def yX7_addWaiting : MethodName := ⟨RX7, "addWaiting", "(I)V"⟩
abbrev cX7_draw : ByteArray := prog_9_method_7_code
def yX7_draw : MethodName := ⟨RX7, "draw", "()I"⟩
abbrev cX7_copy : ByteArray := prog_9_method_8_code
def yX7_copy : MethodName := ⟨RX7, "copy", "(LCatchBars$World;)V"⟩
def RX8 : String := "CatchBars"
def TX8 : u_T := fun k => match k with
  | 0 => ("CatchBars", "world", "LCatchBars$World;", true)
  | 1 => ("CatchBars", "kept", "LCatchBars$World;", true)
  | 2 => ("CatchBars", "thinker", "LCatchBars$Thinker;", true)
  | 3 => ("CatchBars", "reader", "LCatchBars$Reader;", true)
  | 4 => ("CatchBars", "voices", "LCatchBars$Voices;", true)
  | 5 => ("CatchBars", "sheets", "[LCatchBars$Sheet;", true)
  | 6 => ("CatchBars", "errors", "[I", true)
  | _ => ("CatchBars", "images", "I", false)
def tyX8 : Nat → FieldType := fun k => match k with
  | 0 => .object "CatchBars$World"
  | 1 => .object "CatchBars$World"
  | 2 => .object "CatchBars$Thinker"
  | 3 => .object "CatchBars$Reader"
  | 4 => .object "CatchBars$Voices"
  | 5 => .array (.object "CatchBars$Sheet")
  | 6 => .array .int
  | _ => .int
theorem nmX8 : ∀ a, a < 8 → ∀ b, b < 8 → a ≠ b → (TX8 a).2.1 ≠ (TX8 b).2.1 := by decide +kernel
theorem tyX8_ok : ∀ k, k < 8 → parseFieldDescriptor (TX8 k).2.2.1 = some (tyX8 k) := by decide +kernel
abbrev cX8_init : ByteArray := prog_1_method_1_code
def yX8_init : MethodName := ⟨RX8, "<init>", "()V"⟩
abbrev cX8_swing : ByteArray := prog_1_method_2_code
def yX8_swing : MethodName := ⟨RX8, "swing", "(III)I"⟩
abbrev cX8_bar : ByteArray := prog_1_method_3_code
def yX8_bar : MethodName := ⟨RX8, "bar", "(II)I"⟩
abbrev cX8_set : ByteArray := prog_1_method_4_code
def yX8_set : MethodName := ⟨RX8, "set", "(II)I"⟩
abbrev cX8_flyer : ByteArray := prog_1_method_5_code
def yX8_flyer : MethodName := ⟨RX8, "flyer", "(I)I"⟩
abbrev cX8_ofFlyer : ByteArray := prog_1_method_6_code
def yX8_ofFlyer : MethodName := ⟨RX8, "ofFlyer", "(II)I"⟩
abbrev cX8_become : ByteArray := prog_1_method_7_code
def yX8_become : MethodName := ⟨RX8, "become", "(II)I"⟩
abbrev cX8_as : ByteArray := prog_1_method_8_code
def yX8_as : MethodName := ⟨RX8, "as", "(II)I"⟩
abbrev cX8_turn : ByteArray := prog_1_method_9_code
def yX8_turn : MethodName := ⟨RX8, "turn", "(II)I"⟩
abbrev cX8_feed : ByteArray := prog_1_method_10_code
def yX8_feed : MethodName := ⟨RX8, "feed", "(JI)I"⟩
abbrev cX8_text : ByteArray := prog_1_method_11_code
def yX8_text : MethodName := ⟨RX8, "text", "(I)I"⟩
abbrev cX8_law : ByteArray := prog_1_method_12_code
def yX8_law : MethodName := ⟨RX8, "law", "(IIII)I"⟩
abbrev cX8_go : ByteArray := prog_1_method_13_code
def yX8_go : MethodName := ⟨RX8, "go", "(I)I"⟩
abbrev cX8_ticks : ByteArray := prog_1_method_14_code
def yX8_ticks : MethodName := ⟨RX8, "ticks", "(I)I"⟩
abbrev cX8_evenings : ByteArray := prog_1_method_15_code
def yX8_evenings : MethodName := ⟨RX8, "evenings", "(I)I"⟩
abbrev cX8_rest : ByteArray := prog_1_method_16_code
def yX8_rest : MethodName := ⟨RX8, "rest", "()I"⟩
abbrev cX8_then : ByteArray := prog_1_method_17_code
def yX8_then : MethodName := ⟨RX8, "then", "(III)I"⟩
abbrev cX8_can : ByteArray := prog_1_method_18_code
def yX8_can : MethodName := ⟨RX8, "can", "(III)I"⟩
abbrev cX8_surest : ByteArray := prog_1_method_19_code
def yX8_surest : MethodName := ⟨RX8, "surest", "(II)I"⟩
abbrev cX8_odds : ByteArray := prog_1_method_20_code
def yX8_odds : MethodName := ⟨RX8, "odds", "(III)I"⟩
abbrev cX8_pumped : ByteArray := prog_1_method_21_code
def yX8_pumped : MethodName := ⟨RX8, "pumped", "(II)I"⟩
abbrev cX8_inStep : ByteArray := prog_1_method_22_code
def yX8_inStep : MethodName := ⟨RX8, "inStep", "(II)I"⟩
abbrev cX8_mend : ByteArray := prog_1_method_23_code
def yX8_mend : MethodName := ⟨RX8, "mend", "(IIII)I"⟩
abbrev cX8_again : ByteArray := prog_1_method_24_code
def yX8_again : MethodName := ⟨RX8, "again", "(IIIII)J"⟩
abbrev cX8_net : ByteArray := prog_1_method_25_code
def yX8_net : MethodName := ⟨RX8, "net", "(III)I"⟩
abbrev cX8_phases : ByteArray := prog_1_method_26_code
def yX8_phases : MethodName := ⟨RX8, "phases", "(III)I"⟩
abbrev cX8_late : ByteArray := prog_1_method_27_code
def yX8_late : MethodName := ⟨RX8, "late", "(II)I"⟩
abbrev cX8_seed : ByteArray := prog_1_method_28_code
def yX8_seed : MethodName := ⟨RX8, "seed", "(I)I"⟩
abbrev cX8_voice : ByteArray := prog_1_method_29_code
def yX8_voice : MethodName := ⟨RX8, "voice", "(III)I"⟩
abbrev cX8_trace : ByteArray := prog_1_method_30_code
def yX8_trace : MethodName := ⟨RX8, "trace", "(I)I"⟩
abbrev cX8_sheet : ByteArray := prog_1_method_31_code
def yX8_sheet : MethodName := ⟨RX8, "sheet", "(III)I"⟩
abbrev cX8_put : ByteArray := prog_1_method_32_code
def yX8_put : MethodName := ⟨RX8, "put", "(III)I"⟩
abbrev cX8_move : ByteArray := prog_1_method_33_code
def yX8_move : MethodName := ⟨RX8, "move", "(IIIII)I"⟩
abbrev cX8_turns : ByteArray := prog_1_method_34_code
def yX8_turns : MethodName := ⟨RX8, "turns", "(I)I"⟩
abbrev cX8_judge : ByteArray := prog_1_method_35_code
def yX8_judge : MethodName := ⟨RX8, "judge", "(I)I"⟩
abbrev cX8_image : ByteArray := prog_1_method_36_code
def yX8_image : MethodName := ⟨RX8, "image", "()I"⟩
abbrev cX8_restore : ByteArray := prog_1_method_37_code
def yX8_restore : MethodName := ⟨RX8, "restore", "()I"⟩
abbrev cX8_tell : ByteArray := prog_1_method_38_code
def yX8_tell : MethodName := ⟨RX8, "tell", "(I)I"⟩
abbrev cX8_check : ByteArray := prog_1_method_39_code
def yX8_check : MethodName := ⟨RX8, "check", "()I"⟩
abbrev cX8_count : ByteArray := prog_1_method_40_code
def yX8_count : MethodName := ⟨RX8, "count", "(I)I"⟩
abbrev cX8_told : ByteArray := prog_1_method_41_code
def yX8_told : MethodName := ⟨RX8, "told", "(I)I"⟩
abbrev cX8_error : ByteArray := prog_1_method_42_code
def yX8_error : MethodName := ⟨RX8, "error", "(I)I"⟩
abbrev cX8_orNone : ByteArray := prog_1_method_43_code
def yX8_orNone : MethodName := ⟨RX8, "orNone", "(I)I"⟩
abbrev cX8_sheetOf : ByteArray := prog_1_method_44_code
def yX8_sheetOf : MethodName := ⟨RX8, "sheetOf", "(I)LCatchBars$Sheet;"⟩
abbrev cX8_goToldAt : ByteArray := prog_1_method_45_code
def yX8_goToldAt : MethodName := ⟨RX8, "goToldAt", "(LCatchBars$Flyer;I)I"⟩
abbrev cX8_oneEvening : ByteArray := prog_1_method_46_code
def yX8_oneEvening : MethodName := ⟨RX8, "oneEvening", "()V"⟩
abbrev cX8_within : ByteArray := prog_1_method_47_code
def yX8_within : MethodName := ⟨RX8, "within", "(III)Z"⟩
abbrev cX8_isSpan : ByteArray := prog_1_method_48_code
def yX8_isSpan : MethodName := ⟨RX8, "isSpan", "(I)Z"⟩
abbrev cX8_isKindAndNumber : ByteArray := prog_1_method_49_code
def yX8_isKindAndNumber : MethodName := ⟨RX8, "isKindAndNumber", "(I)Z"⟩
abbrev cX8_partOf : ByteArray := prog_1_method_50_code
def yX8_partOf : MethodName := ⟨RX8, "partOf", "(III)I"⟩
def RX9 : String := "CatchBarsModel"
def TX9 : u_T := fun k => match k with
  | 0 => ("CatchBarsModel", "d", "[I", true)
  | 1 => ("CatchBarsModel", "kept", "[I", true)
  | 2 => ("CatchBarsModel", "images", "I", false)
  | 3 => ("CatchBarsModel", "found", "[I", true)
  | 4 => ("CatchBarsModel", "base", "I", false)
  | 5 => ("CatchBarsModel", "at", "I", false)
  | 6 => ("CatchBarsModel", "size", "I", false)
  | 7 => ("CatchBarsModel", "fault", "I", false)
  | 8 => ("CatchBarsModel", "opened", "I", false)
  | 9 => ("CatchBarsModel", "names", "[I", true)
  | 10 => ("CatchBarsModel", "lagTried", "I", false)
  | 11 => ("CatchBarsModel", "comesAt", "I", false)
  | 12 => ("CatchBarsModel", "place", "I", false)
  | 13 => ("CatchBarsModel", "canMany", "I", false)
  | 14 => ("CatchBarsModel", "canFirst", "I", false)
  | 15 => ("CatchBarsModel", "bestPlace", "I", false)
  | 16 => ("CatchBarsModel", "bestHarm", "J", false)
  | 17 => ("CatchBarsModel", "fallsMany", "I", false)
  | 18 => ("CatchBarsModel", "fallsAt", "[I", true)
  | 19 => ("CatchBarsModel", "traced", "[I", true)
  | 20 => ("CatchBarsModel", "traceMany", "I", false)
  | 21 => ("CatchBarsModel", "who", "I", false)
  | 22 => ("CatchBarsModel", "bitsOf", "[I", true)
  | 23 => ("CatchBarsModel", "sizeOf", "[I", true)
  | 24 => ("CatchBarsModel", "number", "[I", true)
  | _ => ("CatchBarsModel", "lifted", "[I", true)
def tyX9 : Nat → FieldType := fun k => match k with
  | 0 => .array .int
  | 1 => .array .int
  | 2 => .int
  | 3 => .array .int
  | 4 => .int
  | 5 => .int
  | 6 => .int
  | 7 => .int
  | 8 => .int
  | 9 => .array .int
  | 10 => .int
  | 11 => .int
  | 12 => .int
  | 13 => .int
  | 14 => .int
  | 15 => .int
  | 16 => .long
  | 17 => .int
  | 18 => .array .int
  | 19 => .array .int
  | 20 => .int
  | 21 => .int
  | 22 => .array .int
  | 23 => .array .int
  | 24 => .array .int
  | _ => .array .int
theorem nmX9 : ∀ a, a < 26 → ∀ b, b < 26 → a ≠ b → (TX9 a).2.1 ≠ (TX9 b).2.1 := by decide +kernel
theorem tyX9_ok : ∀ k, k < 26 → parseFieldDescriptor (TX9 k).2.2.1 = some (tyX9 k) := by decide +kernel
abbrev cX9_init : ByteArray := prog_11_method_1_code
def yX9_init : MethodName := ⟨RX9, "<init>", "()V"⟩
abbrev cX9_finds : ByteArray := prog_11_method_3_code
def yX9_finds : MethodName := ⟨RX9, "finds", "(I)I"⟩
abbrev cX9_in : ByteArray := prog_11_method_4_code
def yX9_in : MethodName := ⟨RX9, "in", "(JJJ)Z"⟩
abbrev cX9_held : ByteArray := prog_11_method_5_code
def yX9_held : MethodName := ⟨RX9, "held", "(III)I"⟩
abbrev cX9_isFlyer : ByteArray := prog_11_method_6_code
def yX9_isFlyer : MethodName := ⟨RX9, "isFlyer", "(I)Z"⟩
abbrev cX9_of : ByteArray := prog_11_method_7_code
def yX9_of : MethodName := ⟨RX9, "of", "(II)I"⟩
abbrev cX9_sets : ByteArray := prog_11_method_8_code
def yX9_sets : MethodName := ⟨RX9, "sets", "(III)V"⟩
abbrev cX9_here : ByteArray := prog_11_method_9_code
def yX9_here : MethodName := ⟨RX9, "here", "()I"⟩
abbrev cX9_wrong : ByteArray := prog_11_method_10_code
def yX9_wrong : MethodName := ⟨RX9, "wrong", "()I"⟩
abbrev cX9_takes : ByteArray := prog_11_method_11_code
def yX9_takes : MethodName := ⟨RX9, "takes", "(I)Z"⟩
abbrev cX9_nameOf : ByteArray := prog_11_method_12_code
def yX9_nameOf : MethodName := ⟨RX9, "nameOf", "(I)I"⟩
abbrev cX9_either : ByteArray := prog_11_method_13_code
def yX9_either : MethodName := ⟨RX9, "either", "()I"⟩
abbrev cX9_both : ByteArray := prog_11_method_14_code
def yX9_both : MethodName := ⟨RX9, "both", "()I"⟩
abbrev cX9_compared : ByteArray := prog_11_method_15_code
def yX9_compared : MethodName := ⟨RX9, "compared", "()I"⟩
abbrev cX9_sum : ByteArray := prog_11_method_16_code
def yX9_sum : MethodName := ⟨RX9, "sum", "()I"⟩
abbrev cX9_product : ByteArray := prog_11_method_17_code
def yX9_product : MethodName := ⟨RX9, "product", "()I"⟩
abbrev cX9_unit : ByteArray := prog_11_method_18_code
def yX9_unit : MethodName := ⟨RX9, "unit", "()I"⟩
abbrev cX9_worked : ByteArray := prog_11_method_19_code
def yX9_worked : MethodName := ⟨RX9, "worked", "(III)I"⟩
abbrev cX9_feed : ByteArray := prog_11_method_20_code
def yX9_feed : MethodName := ⟨RX9, "feed", "(JI)I"⟩
abbrev cX9_text : ByteArray := prog_11_method_21_code
def yX9_text : MethodName := ⟨RX9, "text", "(I)I"⟩
abbrev cX9_textGives : ByteArray := prog_11_method_22_code
def yX9_textGives : MethodName := ⟨RX9, "textGives", "(IIII)I"⟩
abbrev cX9_law : ByteArray := prog_11_method_23_code
def yX9_law : MethodName := ⟨RX9, "law", "(IIII)I"⟩
abbrev cX9_isSwing : ByteArray := prog_11_method_24_code
def yX9_isSwing : MethodName := ⟨RX9, "isSwing", "(I)Z"⟩
abbrev cX9_barOf : ByteArray := prog_11_method_25_code
def yX9_barOf : MethodName := ⟨RX9, "barOf", "(II)I"⟩
abbrev cX9_catcherAt : ByteArray := prog_11_method_26_code
def yX9_catcherAt : MethodName := ⟨RX9, "catcherAt", "(I)I"⟩
abbrev cX9_swing : ByteArray := prog_11_method_27_code
def yX9_swing : MethodName := ⟨RX9, "swing", "(III)I"⟩
abbrev cX9_bar : ByteArray := prog_11_method_28_code
def yX9_bar : MethodName := ⟨RX9, "bar", "(II)I"⟩
abbrev cX9_set : ByteArray := prog_11_method_29_code
def yX9_set : MethodName := ⟨RX9, "set", "(II)I"⟩
abbrev cX9_lagOf : ByteArray := prog_11_method_30_code
def yX9_lagOf : MethodName := ⟨RX9, "lagOf", "(I)I"⟩
abbrev cX9_holdsOf : ByteArray := prog_11_method_31_code
def yX9_holdsOf : MethodName := ⟨RX9, "holdsOf", "(I)I"⟩
abbrev cX9_harmOf : ByteArray := prog_11_method_32_code
def yX9_harmOf : MethodName := ⟨RX9, "harmOf", "(II)I"⟩
abbrev cX9_flyer : ByteArray := prog_11_method_33_code
def yX9_flyer : MethodName := ⟨RX9, "flyer", "(I)I"⟩
abbrev cX9_ofFlyer : ByteArray := prog_11_method_34_code
def yX9_ofFlyer : MethodName := ⟨RX9, "ofFlyer", "(II)I"⟩
abbrev cX9_become : ByteArray := prog_11_method_35_code
def yX9_become : MethodName := ⟨RX9, "become", "(II)I"⟩
abbrev cX9_above : ByteArray := prog_11_method_36_code
def yX9_above : MethodName := ⟨RX9, "above", "(I)I"⟩
abbrev cX9_as : ByteArray := prog_11_method_37_code
def yX9_as : MethodName := ⟨RX9, "as", "(II)I"⟩
abbrev cX9_turn : ByteArray := prog_11_method_38_code
def yX9_turn : MethodName := ⟨RX9, "turn", "(II)I"⟩
abbrev cX9_letsGo : ByteArray := prog_11_method_39_code
def yX9_letsGo : MethodName := ⟨RX9, "letsGo", "(II)V"⟩
abbrev cX9_size0 : ByteArray := prog_11_method_40_code
def yX9_size0 : MethodName := ⟨RX9, "size0", "(I)I"⟩
abbrev cX9_offNow : ByteArray := prog_11_method_41_code
def yX9_offNow : MethodName := ⟨RX9, "offNow", "()I"⟩
abbrev cX9_isTold : ByteArray := prog_11_method_42_code
def yX9_isTold : MethodName := ⟨RX9, "isTold", "(II)V"⟩
abbrev cX9_isCaught : ByteArray := prog_11_method_43_code
def yX9_isCaught : MethodName := ⟨RX9, "isCaught", "(I)Z"⟩
abbrev cX9_fallHarm : ByteArray := prog_11_method_44_code
def yX9_fallHarm : MethodName := ⟨RX9, "fallHarm", "(II)I"⟩
abbrev cX9_goes : ByteArray := prog_11_method_45_code
def yX9_goes : MethodName := ⟨RX9, "goes", "(II)I"⟩
abbrev cX9_go : ByteArray := prog_11_method_46_code
def yX9_go : MethodName := ⟨RX9, "go", "(I)I"⟩
abbrev cX9_ticks : ByteArray := prog_11_method_47_code
def yX9_ticks : MethodName := ⟨RX9, "ticks", "(I)I"⟩
abbrev cX9_drawn : ByteArray := prog_11_method_48_code
def yX9_drawn : MethodName := ⟨RX9, "drawn", "()I"⟩
abbrev cX9_evenings : ByteArray := prog_11_method_49_code
def yX9_evenings : MethodName := ⟨RX9, "evenings", "(I)I"⟩
abbrev cX9_rest : ByteArray := prog_11_method_50_code
def yX9_rest : MethodName := ⟨RX9, "rest", "()I"⟩
abbrev cX9_isSoon : ByteArray := prog_11_method_51_code
def yX9_isSoon : MethodName := ⟨RX9, "isSoon", "(I)Z"⟩
abbrev cX9_isSpan : ByteArray := prog_11_method_52_code
def yX9_isSpan : MethodName := ⟨RX9, "isSpan", "(I)Z"⟩
abbrev cX9_then : ByteArray := prog_11_method_53_code
def yX9_then : MethodName := ⟨RX9, "then", "(III)I"⟩
abbrev cX9_findCan : ByteArray := prog_11_method_54_code
def yX9_findCan : MethodName := ⟨RX9, "findCan", "(II)V"⟩
abbrev cX9_can : ByteArray := prog_11_method_55_code
def yX9_can : MethodName := ⟨RX9, "can", "(III)I"⟩
abbrev cX9_casesAt : ByteArray := prog_11_method_56_code
def yX9_casesAt : MethodName := ⟨RX9, "casesAt", "(II)I"⟩
abbrev cX9_surestOf : ByteArray := prog_11_method_57_code
def yX9_surestOf : MethodName := ⟨RX9, "surestOf", "(II)I"⟩
abbrev cX9_surest : ByteArray := prog_11_method_58_code
def yX9_surest : MethodName := ⟨RX9, "surest", "(II)I"⟩
abbrev cX9_common : ByteArray := prog_11_method_59_code
def yX9_common : MethodName := ⟨RX9, "common", "(JJ)J"⟩
abbrev cX9_odds : ByteArray := prog_11_method_60_code
def yX9_odds : MethodName := ⟨RX9, "odds", "(III)I"⟩
abbrev cX9_hasNext : ByteArray := prog_11_method_61_code
def yX9_hasNext : MethodName := ⟨RX9, "hasNext", "(II)Z"⟩
abbrev cX9_pumped : ByteArray := prog_11_method_62_code
def yX9_pumped : MethodName := ⟨RX9, "pumped", "(II)I"⟩
abbrev cX9_inStep : ByteArray := prog_11_method_63_code
def yX9_inStep : MethodName := ⟨RX9, "inStep", "(II)I"⟩
abbrev cX9_mend : ByteArray := prog_11_method_64_code
def yX9_mend : MethodName := ⟨RX9, "mend", "(IIII)I"⟩
abbrev cX9_again : ByteArray := prog_11_method_65_code
def yX9_again : MethodName := ⟨RX9, "again", "(IIIII)J"⟩
abbrev cX9_findFalls : ByteArray := prog_11_method_66_code
def yX9_findFalls : MethodName := ⟨RX9, "findFalls", "(II)V"⟩
abbrev cX9_harmBy : ByteArray := prog_11_method_67_code
def yX9_harmBy : MethodName := ⟨RX9, "harmBy", "(II)J"⟩
abbrev cX9_net : ByteArray := prog_11_method_68_code
def yX9_net : MethodName := ⟨RX9, "net", "(III)I"⟩
abbrev cX9_isSo : ByteArray := prog_11_method_69_code
def yX9_isSo : MethodName := ⟨RX9, "isSo", "(II)Z"⟩
abbrev cX9_phases : ByteArray := prog_11_method_70_code
def yX9_phases : MethodName := ⟨RX9, "phases", "(III)I"⟩
abbrev cX9_late : ByteArray := prog_11_method_71_code
def yX9_late : MethodName := ⟨RX9, "late", "(II)I"⟩
abbrev cX9_seed : ByteArray := prog_11_method_72_code
def yX9_seed : MethodName := ⟨RX9, "seed", "(I)I"⟩
abbrev cX9_ran : ByteArray := prog_11_method_73_code
def yX9_ran : MethodName := ⟨RX9, "ran", "(I)V"⟩
abbrev cX9_own : ByteArray := prog_11_method_74_code
def yX9_own : MethodName := ⟨RX9, "own", "()I"⟩
abbrev cX9_swingsBy : ByteArray := prog_11_method_75_code
def yX9_swingsBy : MethodName := ⟨RX9, "swingsBy", "(II)I"⟩
abbrev cX9_fliesBy : ByteArray := prog_11_method_76_code
def yX9_fliesBy : MethodName := ⟨RX9, "fliesBy", "(II)I"⟩
abbrev cX9_fallsBy : ByteArray := prog_11_method_77_code
def yX9_fallsBy : MethodName := ⟨RX9, "fallsBy", "(II)I"⟩
abbrev cX9_tellsBy : ByteArray := prog_11_method_78_code
def yX9_tellsBy : MethodName := ⟨RX9, "tellsBy", "(II)I"⟩
abbrev cX9_voice : ByteArray := prog_11_method_79_code
def yX9_voice : MethodName := ⟨RX9, "voice", "(III)I"⟩
abbrev cX9_trace : ByteArray := prog_11_method_80_code
def yX9_trace : MethodName := ⟨RX9, "trace", "(I)I"⟩
abbrev cX9_isSheet : ByteArray := prog_11_method_81_code
def yX9_isSheet : MethodName := ⟨RX9, "isSheet", "(I)Z"⟩
abbrev cX9_sheet : ByteArray := prog_11_method_82_code
def yX9_sheet : MethodName := ⟨RX9, "sheet", "(III)I"⟩
abbrev cX9_put : ByteArray := prog_11_method_83_code
def yX9_put : MethodName := ⟨RX9, "put", "(III)I"⟩
abbrev cX9_move : ByteArray := prog_11_method_84_code
def yX9_move : MethodName := ⟨RX9, "move", "(IIIII)I"⟩
abbrev cX9_turns : ByteArray := prog_11_method_85_code
def yX9_turns : MethodName := ⟨RX9, "turns", "(I)I"⟩
abbrev cX9_judge : ByteArray := prog_11_method_86_code
def yX9_judge : MethodName := ⟨RX9, "judge", "(I)I"⟩
abbrev cX9_image : ByteArray := prog_11_method_87_code
def yX9_image : MethodName := ⟨RX9, "image", "()I"⟩
abbrev cX9_restore : ByteArray := prog_11_method_88_code
def yX9_restore : MethodName := ⟨RX9, "restore", "()I"⟩
abbrev cX9_tell : ByteArray := prog_11_method_89_code
def yX9_tell : MethodName := ⟨RX9, "tell", "(I)I"⟩
abbrev cX9_check : ByteArray := prog_11_method_90_code
def yX9_check : MethodName := ⟨RX9, "check", "()I"⟩
abbrev cX9_count : ByteArray := prog_11_method_91_code
def yX9_count : MethodName := ⟨RX9, "count", "(I)I"⟩
abbrev cX9_told : ByteArray := prog_11_method_92_code
def yX9_told : MethodName := ⟨RX9, "told", "(I)I"⟩
def RJ9 : String := "java/lang/Math"
def TJ9 : u_T := fun k => match k with
  | _ => ("", "", "", false)
def tyJ9 : Nat → FieldType := fun k => match k with
  | _ => .int
abbrev cJ9_floorMod_7cf53 : ByteArray := prog_12_method_50_code
def yJ9_floorMod_7cf53 : MethodName := ⟨RJ9, "floorMod", "(II)I"⟩
abbrev cJ9_abs_0f7a4 : ByteArray := prog_12_method_59_code
def yJ9_abs_0f7a4 : MethodName := ⟨RJ9, "abs", "(I)I"⟩
abbrev cJ9_max_7cf53 : ByteArray := prog_12_method_65_code
def yJ9_max_7cf53 : MethodName := ⟨RJ9, "max", "(II)I"⟩
abbrev cJ9_min_7cf53 : ByteArray := prog_12_method_69_code
def yJ9_min_7cf53 : MethodName := ⟨RJ9, "min", "(II)I"⟩
def RJ10 : String := "java/lang/System"
def TJ10 : u_T := fun k => match k with
  | _ => ("", "", "", false)
def tyJ10 : Nat → FieldType := fun k => match k with
  | _ => .int
def RL : String := "CatchBarsLaw"
abbrev cL_law : ByteArray := code
def yL_law : MethodName := ⟨RL, "law", "([I)Z"⟩
abbrev vwCl : List vw_C := [(RX0, TX0, 4), (RX1, TX1, 6), (RX2, TX2, 5), (RX3, TX3, 3), (RX4, TX4, 3), (RX5, TX5, 9), (RX6, TX6, 4), (RX7, TX7, 18), (RX8, TX8, 8), (RX9, TX9, 26)]
def gw0 : List Cond := u_ws RX0 TX0 4
def gw1 : List Cond := u_ws RX1 TX1 6
def gw2 : List Cond := u_ws RX2 TX2 5
def gw3 : List Cond := u_ws RX3 TX3 3
def gw4 : List Cond := u_ws RX4 TX4 3
def gw5 : List Cond := u_ws RX5 TX5 9
def gw6 : List Cond := u_ws RX6 TX6 4
def gw7 : List Cond := u_ws RX7 TX7 18
def gw8 : List Cond := u_ws RX8 TX8 8
def gw9 : List Cond := u_ws RX9 TX9 26
