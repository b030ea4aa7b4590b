section
-- ===== PART A: goes FIRST, ahead of the names: the tables' words, and 'selects' of the private methods out of them =====
/-- a private method of a class that the tables say can be made, by its rows of tables_1 -/
def lw_okq (q : MethodName × Nat) : Prop := (q.1.cls ≠ "java/lang/invoke/MethodHandle" ∧ q.1.cls ≠ "java/lang/invoke/VarHandle") ∧ Cond.instantiable q.1.cls q.2 ∈ tables_1 ∧ Cond.privateMethod q.1 ∈ tables_1 ∧ Cond.instanceMethod q.1 ∈ tables_1
theorem lw_p0 : lw_okq (⟨"CatchBars", "error", "(I)I"⟩, 8) := ⟨⟨by decide +kernel, by decide +kernel⟩, List.mem_of_getElem? (i := 14) (by decide +kernel), List.mem_of_getElem? (i := 325) (by decide +kernel), List.mem_of_getElem? (i := 326) (by decide +kernel)⟩
theorem lw_p1 : lw_okq (⟨"CatchBars$Reader", "readLevel", "(II)V"⟩, 5) := ⟨⟨by decide +kernel, by decide +kernel⟩, List.mem_of_getElem? (i := 218) (by decide +kernel), List.mem_of_getElem? (i := 432) (by decide +kernel), List.mem_of_getElem? (i := 433) (by decide +kernel)⟩
theorem lw_p2 : lw_okq (⟨"CatchBars$Reader", "readPart", "(I)V"⟩, 5) := ⟨⟨by decide +kernel, by decide +kernel⟩, List.mem_of_getElem? (i := 218) (by decide +kernel), List.mem_of_getElem? (i := 436) (by decide +kernel), List.mem_of_getElem? (i := 437) (by decide +kernel)⟩
theorem lw_p3 : lw_okq (⟨"CatchBars$Reader", "next", "()I"⟩, 5) := ⟨⟨by decide +kernel, by decide +kernel⟩, List.mem_of_getElem? (i := 218) (by decide +kernel), List.mem_of_getElem? (i := 440) (by decide +kernel), List.mem_of_getElem? (i := 441) (by decide +kernel)⟩
theorem lw_p4 : lw_okq (⟨"CatchBars$Reader", "readNumber", "()V"⟩, 5) := ⟨⟨by decide +kernel, by decide +kernel⟩, List.mem_of_getElem? (i := 218) (by decide +kernel), List.mem_of_getElem? (i := 447) (by decide +kernel), List.mem_of_getElem? (i := 448) (by decide +kernel)⟩
theorem lw_p5 : lw_okq (⟨"CatchBars$Reader", "addStep", "(I)V"⟩, 5) := ⟨⟨by decide +kernel, by decide +kernel⟩, List.mem_of_getElem? (i := 218) (by decide +kernel), List.mem_of_getElem? (i := 451) (by decide +kernel), List.mem_of_getElem? (i := 452) (by decide +kernel)⟩
theorem lw_p6 : lw_okq (⟨"CatchBars", "goToldAt", "(LCatchBars$Flyer;I)I"⟩, 8) := ⟨⟨by decide +kernel, by decide +kernel⟩, List.mem_of_getElem? (i := 14) (by decide +kernel), List.mem_of_getElem? (i := 484) (by decide +kernel), List.mem_of_getElem? (i := 485) (by decide +kernel)⟩
theorem lw_p7 : lw_okq (⟨"CatchBars$Thinker", "isHeld", "(I)Z"⟩, 9) := ⟨⟨by decide +kernel, by decide +kernel⟩, List.mem_of_getElem? (i := 178) (by decide +kernel), List.mem_of_getElem? (i := 515) (by decide +kernel), List.mem_of_getElem? (i := 516) (by decide +kernel)⟩
theorem lw_p8 : lw_okq (⟨"CatchBars", "oneEvening", "()V"⟩, 8) := ⟨⟨by decide +kernel, by decide +kernel⟩, List.mem_of_getElem? (i := 14) (by decide +kernel), List.mem_of_getElem? (i := 532) (by decide +kernel), List.mem_of_getElem? (i := 533) (by decide +kernel)⟩
theorem lw_p9 : lw_okq (⟨"CatchBars", "orNone", "(I)I"⟩, 8) := ⟨⟨by decide +kernel, by decide +kernel⟩, List.mem_of_getElem? (i := 14) (by decide +kernel), List.mem_of_getElem? (i := 566) (by decide +kernel), List.mem_of_getElem? (i := 567) (by decide +kernel)⟩
theorem lw_p10 : lw_okq (⟨"CatchBars", "sheetOf", "(I)LCatchBars$Sheet;"⟩, 8) := ⟨⟨by decide +kernel, by decide +kernel⟩, List.mem_of_getElem? (i := 14) (by decide +kernel), List.mem_of_getElem? (i := 639) (by decide +kernel), List.mem_of_getElem? (i := 640) (by decide +kernel)⟩
theorem lw_p11 : lw_okq (⟨"CatchBars$Thinker", "isAsTold", "(LCatchBars$Sheet;)Z"⟩, 9) := ⟨⟨by decide +kernel, by decide +kernel⟩, List.mem_of_getElem? (i := 178) (by decide +kernel), List.mem_of_getElem? (i := 651) (by decide +kernel), List.mem_of_getElem? (i := 652) (by decide +kernel)⟩
theorem lw_p12 : lw_okq (⟨"CatchBars$Voices", "say", "(IIII)I"⟩, 4) := ⟨⟨by decide +kernel, by decide +kernel⟩, List.mem_of_getElem? (i := 242) (by decide +kernel), List.mem_of_getElem? (i := 685) (by decide +kernel), List.mem_of_getElem? (i := 686) (by decide +kernel)⟩
theorem lw_p13 : lw_okq (⟨"CatchBars$Voices", "note", "(I)V"⟩, 4) := ⟨⟨by decide +kernel, by decide +kernel⟩, List.mem_of_getElem? (i := 242) (by decide +kernel), List.mem_of_getElem? (i := 695) (by decide +kernel), List.mem_of_getElem? (i := 696) (by decide +kernel)⟩
theorem lw_p14 : lw_okq (⟨"CatchBars$Voices", "own", "(III)I"⟩, 4) := ⟨⟨by decide +kernel, by decide +kernel⟩, List.mem_of_getElem? (i := 242) (by decide +kernel), List.mem_of_getElem? (i := 699) (by decide +kernel), List.mem_of_getElem? (i := 700) (by decide +kernel)⟩
theorem lw_p15 : lw_okq (⟨"CatchBarsModel", "finds", "(I)I"⟩, 26) := ⟨⟨by decide +kernel, by decide +kernel⟩, List.mem_of_getElem? (i := 789) (by decide +kernel), List.mem_of_getElem? (i := 882) (by decide +kernel), List.mem_of_getElem? (i := 883) (by decide +kernel)⟩
def lw_privs_1 : List (MethodName × Nat) := [(⟨"CatchBars", "error", "(I)I"⟩, 8), (⟨"CatchBars$Reader", "readLevel", "(II)V"⟩, 5), (⟨"CatchBars$Reader", "readPart", "(I)V"⟩, 5), (⟨"CatchBars$Reader", "next", "()I"⟩, 5), (⟨"CatchBars$Reader", "readNumber", "()V"⟩, 5), (⟨"CatchBars$Reader", "addStep", "(I)V"⟩, 5), (⟨"CatchBars", "goToldAt", "(LCatchBars$Flyer;I)I"⟩, 8), (⟨"CatchBars$Thinker", "isHeld", "(I)Z"⟩, 9), (⟨"CatchBars", "oneEvening", "()V"⟩, 8), (⟨"CatchBars", "orNone", "(I)I"⟩, 8), (⟨"CatchBars", "sheetOf", "(I)LCatchBars$Sheet;"⟩, 8), (⟨"CatchBars$Thinker", "isAsTold", "(LCatchBars$Sheet;)Z"⟩, 9), (⟨"CatchBars$Voices", "say", "(IIII)I"⟩, 4), (⟨"CatchBars$Voices", "note", "(I)V"⟩, 4), (⟨"CatchBars$Voices", "own", "(III)I"⟩, 4), (⟨"CatchBarsModel", "finds", "(I)I"⟩, 26)]
theorem lw_r1 : ∀ q ∈ lw_privs_1, lw_okq q := List.forall_mem_cons.mpr ⟨lw_p0, List.forall_mem_cons.mpr ⟨lw_p1, List.forall_mem_cons.mpr ⟨lw_p2, List.forall_mem_cons.mpr ⟨lw_p3, List.forall_mem_cons.mpr ⟨lw_p4, List.forall_mem_cons.mpr ⟨lw_p5, List.forall_mem_cons.mpr ⟨lw_p6, List.forall_mem_cons.mpr ⟨lw_p7, List.forall_mem_cons.mpr ⟨lw_p8, List.forall_mem_cons.mpr ⟨lw_p9, List.forall_mem_cons.mpr ⟨lw_p10, List.forall_mem_cons.mpr ⟨lw_p11, List.forall_mem_cons.mpr ⟨lw_p12, List.forall_mem_cons.mpr ⟨lw_p13, List.forall_mem_cons.mpr ⟨lw_p14, List.forall_mem_cons.mpr ⟨lw_p15, fun _ h => absurd h List.not_mem_nil⟩⟩⟩⟩⟩⟩⟩⟩⟩⟩⟩⟩⟩⟩⟩⟩
theorem lw_p16 : lw_okq (⟨"CatchBarsModel", "worked", "(III)I"⟩, 26) := ⟨⟨by decide +kernel, by decide +kernel⟩, List.mem_of_getElem? (i := 789) (by decide +kernel), List.mem_of_getElem? (i := 892) (by decide +kernel), List.mem_of_getElem? (i := 893) (by decide +kernel)⟩
theorem lw_p17 : lw_okq (⟨"CatchBarsModel", "either", "()I"⟩, 26) := ⟨⟨by decide +kernel, by decide +kernel⟩, List.mem_of_getElem? (i := 789) (by decide +kernel), List.mem_of_getElem? (i := 896) (by decide +kernel), List.mem_of_getElem? (i := 897) (by decide +kernel)⟩
theorem lw_p18 : lw_okq (⟨"CatchBarsModel", "both", "()I"⟩, 26) := ⟨⟨by decide +kernel, by decide +kernel⟩, List.mem_of_getElem? (i := 789) (by decide +kernel), List.mem_of_getElem? (i := 900) (by decide +kernel), List.mem_of_getElem? (i := 901) (by decide +kernel)⟩
theorem lw_p19 : lw_okq (⟨"CatchBarsModel", "compared", "()I"⟩, 26) := ⟨⟨by decide +kernel, by decide +kernel⟩, List.mem_of_getElem? (i := 789) (by decide +kernel), List.mem_of_getElem? (i := 904) (by decide +kernel), List.mem_of_getElem? (i := 905) (by decide +kernel)⟩
theorem lw_p20 : lw_okq (⟨"CatchBarsModel", "sum", "()I"⟩, 26) := ⟨⟨by decide +kernel, by decide +kernel⟩, List.mem_of_getElem? (i := 789) (by decide +kernel), List.mem_of_getElem? (i := 908) (by decide +kernel), List.mem_of_getElem? (i := 909) (by decide +kernel)⟩
theorem lw_p21 : lw_okq (⟨"CatchBarsModel", "product", "()I"⟩, 26) := ⟨⟨by decide +kernel, by decide +kernel⟩, List.mem_of_getElem? (i := 789) (by decide +kernel), List.mem_of_getElem? (i := 912) (by decide +kernel), List.mem_of_getElem? (i := 913) (by decide +kernel)⟩
theorem lw_p22 : lw_okq (⟨"CatchBarsModel", "unit", "()I"⟩, 26) := ⟨⟨by decide +kernel, by decide +kernel⟩, List.mem_of_getElem? (i := 789) (by decide +kernel), List.mem_of_getElem? (i := 916) (by decide +kernel), List.mem_of_getElem? (i := 917) (by decide +kernel)⟩
theorem lw_p23 : lw_okq (⟨"CatchBarsModel", "here", "()I"⟩, 26) := ⟨⟨by decide +kernel, by decide +kernel⟩, List.mem_of_getElem? (i := 789) (by decide +kernel), List.mem_of_getElem? (i := 920) (by decide +kernel), List.mem_of_getElem? (i := 921) (by decide +kernel)⟩
theorem lw_p24 : lw_okq (⟨"CatchBarsModel", "wrong", "()I"⟩, 26) := ⟨⟨by decide +kernel, by decide +kernel⟩, List.mem_of_getElem? (i := 789) (by decide +kernel), List.mem_of_getElem? (i := 924) (by decide +kernel), List.mem_of_getElem? (i := 925) (by decide +kernel)⟩
theorem lw_p25 : lw_okq (⟨"CatchBarsModel", "takes", "(I)Z"⟩, 26) := ⟨⟨by decide +kernel, by decide +kernel⟩, List.mem_of_getElem? (i := 789) (by decide +kernel), List.mem_of_getElem? (i := 928) (by decide +kernel), List.mem_of_getElem? (i := 929) (by decide +kernel)⟩
theorem lw_p26 : lw_okq (⟨"CatchBarsModel", "textGives", "(IIII)I"⟩, 26) := ⟨⟨by decide +kernel, by decide +kernel⟩, List.mem_of_getElem? (i := 789) (by decide +kernel), List.mem_of_getElem? (i := 941) (by decide +kernel), List.mem_of_getElem? (i := 942) (by decide +kernel)⟩
theorem lw_p27 : lw_okq (⟨"CatchBarsModel", "barOf", "(II)I"⟩, 26) := ⟨⟨by decide +kernel, by decide +kernel⟩, List.mem_of_getElem? (i := 789) (by decide +kernel), List.mem_of_getElem? (i := 964) (by decide +kernel), List.mem_of_getElem? (i := 965) (by decide +kernel)⟩
theorem lw_p28 : lw_okq (⟨"CatchBarsModel", "sets", "(III)V"⟩, 26) := ⟨⟨by decide +kernel, by decide +kernel⟩, List.mem_of_getElem? (i := 789) (by decide +kernel), List.mem_of_getElem? (i := 981) (by decide +kernel), List.mem_of_getElem? (i := 982) (by decide +kernel)⟩
theorem lw_p29 : lw_okq (⟨"CatchBarsModel", "isFlyer", "(I)Z"⟩, 26) := ⟨⟨by decide +kernel, by decide +kernel⟩, List.mem_of_getElem? (i := 789) (by decide +kernel), List.mem_of_getElem? (i := 989) (by decide +kernel), List.mem_of_getElem? (i := 990) (by decide +kernel)⟩
theorem lw_p30 : lw_okq (⟨"CatchBarsModel", "lagOf", "(I)I"⟩, 26) := ⟨⟨by decide +kernel, by decide +kernel⟩, List.mem_of_getElem? (i := 789) (by decide +kernel), List.mem_of_getElem? (i := 994) (by decide +kernel), List.mem_of_getElem? (i := 995) (by decide +kernel)⟩
theorem lw_p31 : lw_okq (⟨"CatchBarsModel", "of", "(II)I"⟩, 26) := ⟨⟨by decide +kernel, by decide +kernel⟩, List.mem_of_getElem? (i := 789) (by decide +kernel), List.mem_of_getElem? (i := 998) (by decide +kernel), List.mem_of_getElem? (i := 999) (by decide +kernel)⟩
def lw_privs_2 : List (MethodName × Nat) := [(⟨"CatchBarsModel", "worked", "(III)I"⟩, 26), (⟨"CatchBarsModel", "either", "()I"⟩, 26), (⟨"CatchBarsModel", "both", "()I"⟩, 26), (⟨"CatchBarsModel", "compared", "()I"⟩, 26), (⟨"CatchBarsModel", "sum", "()I"⟩, 26), (⟨"CatchBarsModel", "product", "()I"⟩, 26), (⟨"CatchBarsModel", "unit", "()I"⟩, 26), (⟨"CatchBarsModel", "here", "()I"⟩, 26), (⟨"CatchBarsModel", "wrong", "()I"⟩, 26), (⟨"CatchBarsModel", "takes", "(I)Z"⟩, 26), (⟨"CatchBarsModel", "textGives", "(IIII)I"⟩, 26), (⟨"CatchBarsModel", "barOf", "(II)I"⟩, 26), (⟨"CatchBarsModel", "sets", "(III)V"⟩, 26), (⟨"CatchBarsModel", "isFlyer", "(I)Z"⟩, 26), (⟨"CatchBarsModel", "lagOf", "(I)I"⟩, 26), (⟨"CatchBarsModel", "of", "(II)I"⟩, 26)]
theorem lw_r2 : ∀ q ∈ lw_privs_2, lw_okq q := List.forall_mem_cons.mpr ⟨lw_p16, List.forall_mem_cons.mpr ⟨lw_p17, List.forall_mem_cons.mpr ⟨lw_p18, List.forall_mem_cons.mpr ⟨lw_p19, List.forall_mem_cons.mpr ⟨lw_p20, List.forall_mem_cons.mpr ⟨lw_p21, List.forall_mem_cons.mpr ⟨lw_p22, List.forall_mem_cons.mpr ⟨lw_p23, List.forall_mem_cons.mpr ⟨lw_p24, List.forall_mem_cons.mpr ⟨lw_p25, List.forall_mem_cons.mpr ⟨lw_p26, List.forall_mem_cons.mpr ⟨lw_p27, List.forall_mem_cons.mpr ⟨lw_p28, List.forall_mem_cons.mpr ⟨lw_p29, List.forall_mem_cons.mpr ⟨lw_p30, List.forall_mem_cons.mpr ⟨lw_p31, fun _ h => absurd h List.not_mem_nil⟩⟩⟩⟩⟩⟩⟩⟩⟩⟩⟩⟩⟩⟩⟩⟩
theorem lw_p32 : lw_okq (⟨"CatchBarsModel", "holdsOf", "(I)I"⟩, 26) := ⟨⟨by decide +kernel, by decide +kernel⟩, List.mem_of_getElem? (i := 789) (by decide +kernel), List.mem_of_getElem? (i := 1002) (by decide +kernel), List.mem_of_getElem? (i := 1003) (by decide +kernel)⟩
theorem lw_p33 : lw_okq (⟨"CatchBarsModel", "harmOf", "(II)I"⟩, 26) := ⟨⟨by decide +kernel, by decide +kernel⟩, List.mem_of_getElem? (i := 789) (by decide +kernel), List.mem_of_getElem? (i := 1006) (by decide +kernel), List.mem_of_getElem? (i := 1007) (by decide +kernel)⟩
theorem lw_p34 : lw_okq (⟨"CatchBarsModel", "goes", "(II)I"⟩, 26) := ⟨⟨by decide +kernel, by decide +kernel⟩, List.mem_of_getElem? (i := 789) (by decide +kernel), List.mem_of_getElem? (i := 1030) (by decide +kernel), List.mem_of_getElem? (i := 1031) (by decide +kernel)⟩
theorem lw_p35 : lw_okq (⟨"CatchBarsModel", "isTold", "(II)V"⟩, 26) := ⟨⟨by decide +kernel, by decide +kernel⟩, List.mem_of_getElem? (i := 789) (by decide +kernel), List.mem_of_getElem? (i := 1034) (by decide +kernel), List.mem_of_getElem? (i := 1035) (by decide +kernel)⟩
theorem lw_p36 : lw_okq (⟨"CatchBarsModel", "letsGo", "(II)V"⟩, 26) := ⟨⟨by decide +kernel, by decide +kernel⟩, List.mem_of_getElem? (i := 789) (by decide +kernel), List.mem_of_getElem? (i := 1038) (by decide +kernel), List.mem_of_getElem? (i := 1039) (by decide +kernel)⟩
theorem lw_p37 : lw_okq (⟨"CatchBarsModel", "isCaught", "(I)Z"⟩, 26) := ⟨⟨by decide +kernel, by decide +kernel⟩, List.mem_of_getElem? (i := 789) (by decide +kernel), List.mem_of_getElem? (i := 1042) (by decide +kernel), List.mem_of_getElem? (i := 1043) (by decide +kernel)⟩
theorem lw_p38 : lw_okq (⟨"CatchBarsModel", "offNow", "()I"⟩, 26) := ⟨⟨by decide +kernel, by decide +kernel⟩, List.mem_of_getElem? (i := 789) (by decide +kernel), List.mem_of_getElem? (i := 1046) (by decide +kernel), List.mem_of_getElem? (i := 1047) (by decide +kernel)⟩
theorem lw_p39 : lw_okq (⟨"CatchBarsModel", "catcherAt", "(I)I"⟩, 26) := ⟨⟨by decide +kernel, by decide +kernel⟩, List.mem_of_getElem? (i := 789) (by decide +kernel), List.mem_of_getElem? (i := 1050) (by decide +kernel), List.mem_of_getElem? (i := 1051) (by decide +kernel)⟩
theorem lw_p40 : lw_okq (⟨"CatchBarsModel", "fallHarm", "(II)I"⟩, 26) := ⟨⟨by decide +kernel, by decide +kernel⟩, List.mem_of_getElem? (i := 789) (by decide +kernel), List.mem_of_getElem? (i := 1057) (by decide +kernel), List.mem_of_getElem? (i := 1058) (by decide +kernel)⟩
theorem lw_p41 : lw_okq (⟨"CatchBarsModel", "drawn", "()I"⟩, 26) := ⟨⟨by decide +kernel, by decide +kernel⟩, List.mem_of_getElem? (i := 789) (by decide +kernel), List.mem_of_getElem? (i := 1070) (by decide +kernel), List.mem_of_getElem? (i := 1071) (by decide +kernel)⟩
theorem lw_p42 : lw_okq (⟨"CatchBarsModel", "findCan", "(II)V"⟩, 26) := ⟨⟨by decide +kernel, by decide +kernel⟩, List.mem_of_getElem? (i := 789) (by decide +kernel), List.mem_of_getElem? (i := 1093) (by decide +kernel), List.mem_of_getElem? (i := 1094) (by decide +kernel)⟩
theorem lw_p43 : lw_okq (⟨"CatchBarsModel", "surestOf", "(II)I"⟩, 26) := ⟨⟨by decide +kernel, by decide +kernel⟩, List.mem_of_getElem? (i := 789) (by decide +kernel), List.mem_of_getElem? (i := 1101) (by decide +kernel), List.mem_of_getElem? (i := 1102) (by decide +kernel)⟩
theorem lw_p44 : lw_okq (⟨"CatchBarsModel", "casesAt", "(II)I"⟩, 26) := ⟨⟨by decide +kernel, by decide +kernel⟩, List.mem_of_getElem? (i := 789) (by decide +kernel), List.mem_of_getElem? (i := 1105) (by decide +kernel), List.mem_of_getElem? (i := 1106) (by decide +kernel)⟩
theorem lw_p45 : lw_okq (⟨"CatchBarsModel", "hasNext", "(II)Z"⟩, 26) := ⟨⟨by decide +kernel, by decide +kernel⟩, List.mem_of_getElem? (i := 789) (by decide +kernel), List.mem_of_getElem? (i := 1121) (by decide +kernel), List.mem_of_getElem? (i := 1122) (by decide +kernel)⟩
theorem lw_p46 : lw_okq (⟨"CatchBarsModel", "findFalls", "(II)V"⟩, 26) := ⟨⟨by decide +kernel, by decide +kernel⟩, List.mem_of_getElem? (i := 789) (by decide +kernel), List.mem_of_getElem? (i := 1144) (by decide +kernel), List.mem_of_getElem? (i := 1145) (by decide +kernel)⟩
theorem lw_p47 : lw_okq (⟨"CatchBarsModel", "harmBy", "(II)J"⟩, 26) := ⟨⟨by decide +kernel, by decide +kernel⟩, List.mem_of_getElem? (i := 789) (by decide +kernel), List.mem_of_getElem? (i := 1148) (by decide +kernel), List.mem_of_getElem? (i := 1149) (by decide +kernel)⟩
def lw_privs_3 : List (MethodName × Nat) := [(⟨"CatchBarsModel", "holdsOf", "(I)I"⟩, 26), (⟨"CatchBarsModel", "harmOf", "(II)I"⟩, 26), (⟨"CatchBarsModel", "goes", "(II)I"⟩, 26), (⟨"CatchBarsModel", "isTold", "(II)V"⟩, 26), (⟨"CatchBarsModel", "letsGo", "(II)V"⟩, 26), (⟨"CatchBarsModel", "isCaught", "(I)Z"⟩, 26), (⟨"CatchBarsModel", "offNow", "()I"⟩, 26), (⟨"CatchBarsModel", "catcherAt", "(I)I"⟩, 26), (⟨"CatchBarsModel", "fallHarm", "(II)I"⟩, 26), (⟨"CatchBarsModel", "drawn", "()I"⟩, 26), (⟨"CatchBarsModel", "findCan", "(II)V"⟩, 26), (⟨"CatchBarsModel", "surestOf", "(II)I"⟩, 26), (⟨"CatchBarsModel", "casesAt", "(II)I"⟩, 26), (⟨"CatchBarsModel", "hasNext", "(II)Z"⟩, 26), (⟨"CatchBarsModel", "findFalls", "(II)V"⟩, 26), (⟨"CatchBarsModel", "harmBy", "(II)J"⟩, 26)]
theorem lw_r3 : ∀ q ∈ lw_privs_3, lw_okq q := List.forall_mem_cons.mpr ⟨lw_p32, List.forall_mem_cons.mpr ⟨lw_p33, List.forall_mem_cons.mpr ⟨lw_p34, List.forall_mem_cons.mpr ⟨lw_p35, List.forall_mem_cons.mpr ⟨lw_p36, List.forall_mem_cons.mpr ⟨lw_p37, List.forall_mem_cons.mpr ⟨lw_p38, List.forall_mem_cons.mpr ⟨lw_p39, List.forall_mem_cons.mpr ⟨lw_p40, List.forall_mem_cons.mpr ⟨lw_p41, List.forall_mem_cons.mpr ⟨lw_p42, List.forall_mem_cons.mpr ⟨lw_p43, List.forall_mem_cons.mpr ⟨lw_p44, List.forall_mem_cons.mpr ⟨lw_p45, List.forall_mem_cons.mpr ⟨lw_p46, List.forall_mem_cons.mpr ⟨lw_p47, fun _ h => absurd h List.not_mem_nil⟩⟩⟩⟩⟩⟩⟩⟩⟩⟩⟩⟩⟩⟩⟩⟩
theorem lw_p48 : lw_okq (⟨"CatchBarsModel", "isSo", "(II)Z"⟩, 26) := ⟨⟨by decide +kernel, by decide +kernel⟩, List.mem_of_getElem? (i := 789) (by decide +kernel), List.mem_of_getElem? (i := 1159) (by decide +kernel), List.mem_of_getElem? (i := 1160) (by decide +kernel)⟩
theorem lw_p49 : lw_okq (⟨"CatchBarsModel", "own", "()I"⟩, 26) := ⟨⟨by decide +kernel, by decide +kernel⟩, List.mem_of_getElem? (i := 789) (by decide +kernel), List.mem_of_getElem? (i := 1175) (by decide +kernel), List.mem_of_getElem? (i := 1176) (by decide +kernel)⟩
theorem lw_p50 : lw_okq (⟨"CatchBarsModel", "swingsBy", "(II)I"⟩, 26) := ⟨⟨by decide +kernel, by decide +kernel⟩, List.mem_of_getElem? (i := 789) (by decide +kernel), List.mem_of_getElem? (i := 1179) (by decide +kernel), List.mem_of_getElem? (i := 1180) (by decide +kernel)⟩
theorem lw_p51 : lw_okq (⟨"CatchBarsModel", "ran", "(I)V"⟩, 26) := ⟨⟨by decide +kernel, by decide +kernel⟩, List.mem_of_getElem? (i := 789) (by decide +kernel), List.mem_of_getElem? (i := 1183) (by decide +kernel), List.mem_of_getElem? (i := 1184) (by decide +kernel)⟩
theorem lw_p52 : lw_okq (⟨"CatchBarsModel", "fliesBy", "(II)I"⟩, 26) := ⟨⟨by decide +kernel, by decide +kernel⟩, List.mem_of_getElem? (i := 789) (by decide +kernel), List.mem_of_getElem? (i := 1187) (by decide +kernel), List.mem_of_getElem? (i := 1188) (by decide +kernel)⟩
theorem lw_p53 : lw_okq (⟨"CatchBarsModel", "fallsBy", "(II)I"⟩, 26) := ⟨⟨by decide +kernel, by decide +kernel⟩, List.mem_of_getElem? (i := 789) (by decide +kernel), List.mem_of_getElem? (i := 1191) (by decide +kernel), List.mem_of_getElem? (i := 1192) (by decide +kernel)⟩
theorem lw_p54 : lw_okq (⟨"CatchBarsModel", "tellsBy", "(II)I"⟩, 26) := ⟨⟨by decide +kernel, by decide +kernel⟩, List.mem_of_getElem? (i := 789) (by decide +kernel), List.mem_of_getElem? (i := 1195) (by decide +kernel), List.mem_of_getElem? (i := 1196) (by decide +kernel)⟩
def lw_privs_4 : List (MethodName × Nat) := [(⟨"CatchBarsModel", "isSo", "(II)Z"⟩, 26), (⟨"CatchBarsModel", "own", "()I"⟩, 26), (⟨"CatchBarsModel", "swingsBy", "(II)I"⟩, 26), (⟨"CatchBarsModel", "ran", "(I)V"⟩, 26), (⟨"CatchBarsModel", "fliesBy", "(II)I"⟩, 26), (⟨"CatchBarsModel", "fallsBy", "(II)I"⟩, 26), (⟨"CatchBarsModel", "tellsBy", "(II)I"⟩, 26)]
theorem lw_r4 : ∀ q ∈ lw_privs_4, lw_okq q := List.forall_mem_cons.mpr ⟨lw_p48, List.forall_mem_cons.mpr ⟨lw_p49, List.forall_mem_cons.mpr ⟨lw_p50, List.forall_mem_cons.mpr ⟨lw_p51, List.forall_mem_cons.mpr ⟨lw_p52, List.forall_mem_cons.mpr ⟨lw_p53, List.forall_mem_cons.mpr ⟨lw_p54, fun _ h => absurd h List.not_mem_nil⟩⟩⟩⟩⟩⟩⟩
def lw_privs : List (MethodName × Nat) := lw_privs_1 ++ (lw_privs_2 ++ (lw_privs_3 ++ (lw_privs_4)))
def lw_tbl : List Cond := k2_sels lw_privs ++ tables_1
theorem lw_privs_ok : ∀ q ∈ lw_privs, lw_okq q := by
  show ∀ q ∈ lw_privs_1 ++ (lw_privs_2 ++ (lw_privs_3 ++ (lw_privs_4))), lw_okq q
  exact List.forall_mem_append.mpr ⟨lw_r1, List.forall_mem_append.mpr ⟨lw_r2, List.forall_mem_append.mpr ⟨lw_r3, lw_r4⟩⟩⟩
def RX0 : String := "CatchBars$Flyer"
def TX0 : u_T := fun k => match k with
  | 0 => ("CatchBars$Flyer", "kind", "I", false)
  | 1 => ("CatchBars$Flyer", "m", "I", false)
  | 2 => ("CatchBars$Flyer", "turnCount", "I", false)
  | _ => ("CatchBars$Flyer", "goes", "I", false)
def tyX0 : Nat → FieldType := fun k => match k with
  | 0 => .int
  | 1 => .int
  | 2 => .int
  | _ => .int
theorem nmX0 : ∀ a, a < 4 → ∀ b, b < 4 → a ≠ b → (TX0 a).2.1 ≠ (TX0 b).2.1 := by decide +kernel
theorem tyX0_ok : ∀ k, k < 4 → parseFieldDescriptor (TX0 k).2.2.1 = some (tyX0 k) := by decide +kernel
abbrev cX0_init : ByteArray := prog_2_method_1_code
def yX0_init : MethodName := ⟨RX0, "<init>", "()V"⟩
abbrev cX0_begin : ByteArray := prog_2_method_2_code
def yX0_begin : MethodName := ⟨RX0, "begin", "(I)V"⟩
abbrev cX0_take : ByteArray := prog_2_method_3_code
def yX0_take : MethodName := ⟨RX0, "take", "(I)V"⟩
abbrev cX0_isOf : ByteArray := prog_2_method_4_code
def yX0_isOf : MethodName := ⟨RX0, "isOf", "(I)Z"⟩
abbrev cX0_kindAbove : ByteArray := prog_2_method_5_code
def yX0_kindAbove : MethodName := ⟨RX0, "kindAbove", "(I)I"⟩
abbrev cX0_lag : ByteArray := prog_2_method_6_code
def yX0_lag : MethodName := ⟨RX0, "lag", "()I"⟩
abbrev cX0_holds : ByteArray := prog_2_method_7_code
def yX0_holds : MethodName := ⟨RX0, "holds", "(I)I"⟩
abbrev cX0_harm : ByteArray := prog_2_method_8_code
def yX0_harm : MethodName := ⟨RX0, "harm", "(I)I"⟩
abbrev cX0_copy : ByteArray := prog_2_method_9_code
def yX0_copy : MethodName := ⟨RX0, "copy", "(LCatchBars$Flyer;)V"⟩
def RX1 : String := "CatchBars$Law"
def TX1 : u_T := fun k => match k with
  | 0 => ("CatchBars$Law", "isFlight", "Z", true)
  | 1 => ("CatchBars$Law", "least", "I", true)
  | 2 => ("CatchBars$Law", "most", "I", true)
  | 3 => ("CatchBars$Law", "steps", "[I", true)
  | 4 => ("CatchBars$Law", "stack", "[I", true)
  | _ => ("CatchBars$Law", "count", "I", false)
def tyX1 : Nat → FieldType := fun k => match k with
  | 0 => .boolean
  | 1 => .int
  | 2 => .int
  | 3 => .array .int
  | 4 => .array .int
  | _ => .int
theorem nmX1 : ∀ a, a < 6 → ∀ b, b < 6 → a ≠ b → (TX1 a).2.1 ≠ (TX1 b).2.1 := by decide +kernel
theorem tyX1_ok : ∀ k, k < 6 → parseFieldDescriptor (TX1 k).2.2.1 = some (tyX1 k) := by decide +kernel
abbrev cX1_init : ByteArray := prog_3_method_1_code
def yX1_init : MethodName := ⟨RX1, "<init>", "(I)V"⟩
abbrev cX1_take : ByteArray := prog_3_method_2_code
def yX1_take : MethodName := ⟨RX1, "take", "([II)V"⟩
abbrev cX1_gives : ByteArray := prog_3_method_3_code
def yX1_gives : MethodName := ⟨RX1, "gives", "(III)I"⟩
abbrev cX1_isPart : ByteArray := prog_3_method_4_code
def yX1_isPart : MethodName := ⟨RX1, "isPart", "(I)Z"⟩
abbrev cX1_joined : ByteArray := prog_3_method_5_code
def yX1_joined : MethodName := ⟨RX1, "joined", "(III)I"⟩
abbrev cX1_copy : ByteArray := prog_3_method_6_code
def yX1_copy : MethodName := ⟨RX1, "copy", "(LCatchBars$Law;)V"⟩
def RX2 : String := "CatchBars$Reader"
def TX2 : u_T := fun k => match k with
  | 0 => ("CatchBars$Reader", "world", "LCatchBars$World;", true)
  | 1 => ("CatchBars$Reader", "steps", "[I", true)
  | 2 => ("CatchBars$Reader", "count", "I", false)
  | 3 => ("CatchBars$Reader", "at", "I", false)
  | _ => ("CatchBars$Reader", "wrong", "Z", false)
def tyX2 : Nat → FieldType := fun k => match k with
  | 0 => .object "CatchBars$World"
  | 1 => .array .int
  | 2 => .int
  | 3 => .int
  | _ => .boolean
theorem nmX2 : ∀ a, a < 5 → ∀ b, b < 5 → a ≠ b → (TX2 a).2.1 ≠ (TX2 b).2.1 := by decide +kernel
theorem tyX2_ok : ∀ k, k < 5 → parseFieldDescriptor (TX2 k).2.2.1 = some (tyX2 k) := by decide +kernel
abbrev cX2_init : ByteArray := prog_4_method_1_code
def yX2_init : MethodName := ⟨RX2, "<init>", "(LCatchBars$World;)V"⟩
abbrev cX2_readTape : ByteArray := prog_4_method_2_code
def yX2_readTape : MethodName := ⟨RX2, "readTape", "()I"⟩
abbrev cX2_next : ByteArray := prog_4_method_3_code
def yX2_next : MethodName := ⟨RX2, "next", "()I"⟩
abbrev cX2_addStep : ByteArray := prog_4_method_4_code
def yX2_addStep : MethodName := ⟨RX2, "addStep", "(I)V"⟩
abbrev cX2_readLevel : ByteArray := prog_4_method_5_code
def yX2_readLevel : MethodName := ⟨RX2, "readLevel", "(II)V"⟩
abbrev cX2_levelOf : ByteArray := prog_4_method_6_code
def yX2_levelOf : MethodName := ⟨RX2, "levelOf", "(I)I"⟩
abbrev cX2_readPart : ByteArray := prog_4_method_7_code
def yX2_readPart : MethodName := ⟨RX2, "readPart", "(I)V"⟩
abbrev cX2_readNumber : ByteArray := prog_4_method_8_code
def yX2_readNumber : MethodName := ⟨RX2, "readNumber", "()V"⟩
abbrev cX2_isDigit : ByteArray := prog_4_method_9_code
def yX2_isDigit : MethodName := ⟨RX2, "isDigit", "(I)Z"⟩
def RX3 : String := "CatchBars$Sheet"
def TX3 : u_T := fun k => match k with
  | 0 => ("CatchBars$Sheet", "numbers", "[I", true)
  | 1 => ("CatchBars$Sheet", "bits", "I", false)
  | _ => ("CatchBars$Sheet", "length", "I", false)
def tyX3 : Nat → FieldType := fun k => match k with
  | 0 => .array .int
  | 1 => .int
  | _ => .int
theorem nmX3 : ∀ a, a < 3 → ∀ b, b < 3 → a ≠ b → (TX3 a).2.1 ≠ (TX3 b).2.1 := by decide +kernel
theorem tyX3_ok : ∀ k, k < 3 → parseFieldDescriptor (TX3 k).2.2.1 = some (tyX3 k) := by decide +kernel
abbrev cX3_init : ByteArray := prog_5_method_1_code
def yX3_init : MethodName := ⟨RX3, "<init>", "()V"⟩
abbrev cX3_isMissing : ByteArray := prog_5_method_2_code
def yX3_isMissing : MethodName := ⟨RX3, "isMissing", "()Z"⟩
abbrev cX3_begin : ByteArray := prog_5_method_3_code
def yX3_begin : MethodName := ⟨RX3, "begin", "(II)V"⟩
abbrev cX3_write : ByteArray := prog_5_method_4_code
def yX3_write : MethodName := ⟨RX3, "write", "(II)V"⟩
abbrev cX3_read : ByteArray := prog_5_method_5_code
def yX3_read : MethodName := ⟨RX3, "read", "(I)I"⟩
abbrev cX3_hasRow : ByteArray := prog_5_method_6_code
def yX3_hasRow : MethodName := ⟨RX3, "hasRow", "(II)Z"⟩
def RX4 : String := "CatchBars$Swing"
def TX4 : u_T := fun k => match k with
  | 0 => ("CatchBars$Swing", "period", "I", false)
  | 1 => ("CatchBars$Swing", "width", "I", false)
  | _ => ("CatchBars$Swing", "phase", "I", false)
def tyX4 : Nat → FieldType := fun k => match k with
  | 0 => .int
  | 1 => .int
  | _ => .int
theorem nmX4 : ∀ a, a < 3 → ∀ b, b < 3 → a ≠ b → (TX4 a).2.1 ≠ (TX4 b).2.1 := by decide +kernel
theorem tyX4_ok : ∀ k, k < 3 → parseFieldDescriptor (TX4 k).2.2.1 = some (tyX4 k) := by decide +kernel
abbrev cX4_init : ByteArray := prog_6_method_1_code
def yX4_init : MethodName := ⟨RX4, "<init>", "()V"⟩
abbrev cX4_takes : ByteArray := prog_6_method_2_code
def yX4_takes : MethodName := ⟨RX4, "takes", "(II)Z"⟩
abbrev cX4_change : ByteArray := prog_6_method_3_code
def yX4_change : MethodName := ⟨RX4, "change", "(II)I"⟩
abbrev cX4_placeAt : ByteArray := prog_6_method_4_code
def yX4_placeAt : MethodName := ⟨RX4, "placeAt", "(I)I"⟩
abbrev cX4_copy : ByteArray := prog_6_method_5_code
def yX4_copy : MethodName := ⟨RX4, "copy", "(LCatchBars$Swing;)V"⟩
def RX5 : String := "CatchBars$Thinker"
def TX5 : u_T := fun k => match k with
  | 0 => ("CatchBars$Thinker", "world", "LCatchBars$World;", true)
  | 1 => ("CatchBars$Thinker", "near", "LCatchBars$Swing;", true)
  | 2 => ("CatchBars$Thinker", "far", "LCatchBars$Swing;", true)
  | 3 => ("CatchBars$Thinker", "flyer", "LCatchBars$Flyer;", true)
  | 4 => ("CatchBars$Thinker", "fallPlaces", "[I", true)
  | 5 => ("CatchBars$Thinker", "fallCount", "I", false)
  | 6 => ("CatchBars$Thinker", "lag", "I", false)
  | 7 => ("CatchBars$Thinker", "comes", "I", false)
  | _ => ("CatchBars$Thinker", "place", "I", false)
def tyX5 : Nat → FieldType := fun k => match k with
  | 0 => .object "CatchBars$World"
  | 1 => .object "CatchBars$Swing"
  | 2 => .object "CatchBars$Swing"
  | 3 => .object "CatchBars$Flyer"
  | 4 => .array .int
  | 5 => .int
  | 6 => .int
  | 7 => .int
  | _ => .int
theorem nmX5 : ∀ a, a < 9 → ∀ b, b < 9 → a ≠ b → (TX5 a).2.1 ≠ (TX5 b).2.1 := by decide +kernel
theorem tyX5_ok : ∀ k, k < 9 → parseFieldDescriptor (TX5 k).2.2.1 = some (tyX5 k) := by decide +kernel
abbrev cX5_init : ByteArray := prog_7_method_1_code
def yX5_init : MethodName := ⟨RX5, "<init>", "(LCatchBars$World;)V"⟩
abbrev cX5_start : ByteArray := prog_7_method_2_code
def yX5_start : MethodName := ⟨RX5, "start", "(LCatchBars$Flyer;)V"⟩
abbrev cX5_fly : ByteArray := prog_7_method_3_code
def yX5_fly : MethodName := ⟨RX5, "fly", "(II)V"⟩
abbrev cX5_off : ByteArray := prog_7_method_4_code
def yX5_off : MethodName := ⟨RX5, "off", "(I)I"⟩
abbrev cX5_isHeld : ByteArray := prog_7_method_5_code
def yX5_isHeld : MethodName := ⟨RX5, "isHeld", "(I)Z"⟩
abbrev cX5_isCaught : ByteArray := prog_7_method_6_code
def yX5_isCaught : MethodName := ⟨RX5, "isCaught", "(I)Z"⟩
abbrev cX5_howManyCaught : ByteArray := prog_7_method_7_code
def yX5_howManyCaught : MethodName := ⟨RX5, "howManyCaught", "(I)I"⟩
abbrev cX5_firstCaught : ByteArray := prog_7_method_8_code
def yX5_firstCaught : MethodName := ⟨RX5, "firstCaught", "(I)I"⟩
abbrev cX5_casesCaught : ByteArray := prog_7_method_9_code
def yX5_casesCaught : MethodName := ⟨RX5, "casesCaught", "(I)I"⟩
abbrev cX5_surestWait : ByteArray := prog_7_method_10_code
def yX5_surestWait : MethodName := ⟨RX5, "surestWait", "(I)I"⟩
abbrev cX5_leastPumps : ByteArray := prog_7_method_11_code
def yX5_leastPumps : MethodName := ⟨RX5, "leastPumps", "(I)I"⟩
abbrev cX5_leastSteps : ByteArray := prog_7_method_12_code
def yX5_leastSteps : MethodName := ⟨RX5, "leastSteps", "(I)I"⟩
abbrev cX5_gatherFalls : ByteArray := prog_7_method_13_code
def yX5_gatherFalls : MethodName := ⟨RX5, "gatherFalls", "(I)I"⟩
abbrev cX5_harmTogether : ByteArray := prog_7_method_14_code
def yX5_harmTogether : MethodName := ⟨RX5, "harmTogether", "(I)I"⟩
abbrev cX5_leastHarmPlace : ByteArray := prog_7_method_15_code
def yX5_leastHarmPlace : MethodName := ⟨RX5, "leastHarmPlace", "()I"⟩
abbrev cX5_isAsTold : ByteArray := prog_7_method_16_code
def yX5_isAsTold : MethodName := ⟨RX5, "isAsTold", "(LCatchBars$Sheet;)Z"⟩
abbrev cX5_firstPhase : ByteArray := prog_7_method_17_code
def yX5_firstPhase : MethodName := ⟨RX5, "firstPhase", "(LCatchBars$Sheet;I)I"⟩
abbrev cX5_howManyPhases : ByteArray := prog_7_method_18_code
def yX5_howManyPhases : MethodName := ⟨RX5, "howManyPhases", "(LCatchBars$Sheet;)I"⟩
abbrev cX5_leastLag : ByteArray := prog_7_method_19_code
def yX5_leastLag : MethodName := ⟨RX5, "leastLag", "(LCatchBars$Sheet;)I"⟩
def RX6 : String := "CatchBars$Voices"
def TX6 : u_T := fun k => match k with
  | 0 => ("CatchBars$Voices", "trace", "[I", true)
  | 1 => ("CatchBars$Voices", "traced", "I", false)
  | 2 => ("CatchBars$Voices", "number", "I", false)
  | _ => ("CatchBars$Voices", "flyer", "LCatchBars$Flyer;", true)
def tyX6 : Nat → FieldType := fun k => match k with
  | 0 => .array .int
  | 1 => .int
  | 2 => .int
  | _ => .object "CatchBars$Flyer"
theorem nmX6 : ∀ a, a < 4 → ∀ b, b < 4 → a ≠ b → (TX6 a).2.1 ≠ (TX6 b).2.1 := by decide +kernel
theorem tyX6_ok : ∀ k, k < 4 → parseFieldDescriptor (TX6 k).2.2.1 = some (tyX6 k) := by decide +kernel
abbrev cX6_init : ByteArray := prog_8_method_1_code
def yX6_init : MethodName := ⟨RX6, "<init>", "()V"⟩
abbrev cX6_speak : ByteArray := prog_8_method_2_code
def yX6_speak : MethodName := ⟨RX6, "speak", "(ILCatchBars$Flyer;II)I"⟩
abbrev cX6_bodyAt : ByteArray := prog_8_method_3_code
def yX6_bodyAt : MethodName := ⟨RX6, "bodyAt", "(I)I"⟩
abbrev cX6_bodyFor : ByteArray := prog_8_method_4_code
def yX6_bodyFor : MethodName := ⟨RX6, "bodyFor", "(II)I"⟩
abbrev cX6_note : ByteArray := prog_8_method_5_code
def yX6_note : MethodName := ⟨RX6, "note", "(I)V"⟩
abbrev cX6_own : ByteArray := prog_8_method_6_code
def yX6_own : MethodName := ⟨RX6, "own", "(III)I"⟩
abbrev cX6_say : ByteArray := prog_8_method_7_code
def yX6_say : MethodName := ⟨RX6, "say", "(IIII)I"⟩
def RX7 : String := "CatchBars$World"
def TX7 : u_T := fun k => match k with
  | 0 => ("CatchBars$World", "near", "LCatchBars$Swing;", true)
  | 1 => ("CatchBars$World", "far", "LCatchBars$Swing;", true)
  | 2 => ("CatchBars$World", "gap", "I", false)
  | 3 => ("CatchBars$World", "reach", "I", false)
  | 4 => ("CatchBars$World", "net", "I", false)
  | 5 => ("CatchBars$World", "tick", "I", false)
  | 6 => ("CatchBars$World", "flyers", "[LCatchBars$Flyer;", true)
  | 7 => ("CatchBars$World", "flyerCount", "I", false)
  | 8 => ("CatchBars$World", "tape", "[I", true)
  | 9 => ("CatchBars$World", "tapeLength", "I", false)
  | 10 => ("CatchBars$World", "flight", "LCatchBars$Law;", true)
  | 11 => ("CatchBars$World", "air", "LCatchBars$Law;", true)
  | 12 => ("CatchBars$World", "catches", "I", false)
  | 13 => ("CatchBars$World", "falls", "I", false)
  | 14 => ("CatchBars$World", "hurt", "I", false)
  | 15 => ("CatchBars$World", "z", "I", false)
  | 16 => ("CatchBars$World", "waiting", "[I", true)
  | _ => ("CatchBars$World", "waitingCount", "I", false)
def tyX7 : Nat → FieldType := fun k => match k with
  | 0 => .object "CatchBars$Swing"
  | 1 => .object "CatchBars$Swing"
  | 2 => .int
  | 3 => .int
  | 4 => .int
  | 5 => .int
  | 6 => .array (.object "CatchBars$Flyer")
  | 7 => .int
  | 8 => .array .int
  | 9 => .int
  | 10 => .object "CatchBars$Law"
  | 11 => .object "CatchBars$Law"
  | 12 => .int
  | 13 => .int
  | 14 => .int
  | 15 => .int
  | 16 => .array .int
  | _ => .int
theorem nmX7 : ∀ a, a < 18 → ∀ b, b < 18 → a ≠ b → (TX7 a).2.1 ≠ (TX7 b).2.1 := by decide +kernel
theorem tyX7_ok : ∀ k, k < 18 → parseFieldDescriptor (TX7 k).2.2.1 = some (tyX7 k) := by decide +kernel
abbrev cX7_init : ByteArray := prog_9_method_1_code
def yX7_init : MethodName := ⟨RX7, "<init>", "()V"⟩
abbrev cX7_swingOf : ByteArray := prog_9_method_2_code
def yX7_swingOf : MethodName := ⟨RX7, "swingOf", "(I)LCatchBars$Swing;"⟩
abbrev cX7_lawOf : ByteArray := prog_9_method_3_code
def yX7_lawOf : MethodName := ⟨RX7, "lawOf", "(I)LCatchBars$Law;"⟩
abbrev cX7_flyerOf : ByteArray := prog_9_method_4_code
def yX7_flyerOf : MethodName := ⟨RX7, "flyerOf", "(I)LCatchBars$Flyer;"⟩
abbrev cX7_addByte : ByteArray := prog_9_method_5_code
def yX7_addByte : MethodName := ⟨RX7, "addByte", "(I)V"⟩
abbrev cX7_addWaiting : ByteArray := prog_9_method_6_code
def yX7_addWaiting : MethodName := ⟨RX7, "addWaiting", "(I)V"⟩
abbrev cX7_draw : ByteArray := prog_9_method_7_code
def yX7_draw : MethodName := ⟨RX7, "draw", "()I"⟩
abbrev cX7_copy : ByteArray := prog_9_method_8_code
def yX7_copy : MethodName := ⟨RX7, "copy", "(LCatchBars$World;)V"⟩
def RX8 : String := "CatchBars"
def TX8 : u_T := fun k => match k with
  | 0 => ("CatchBars", "world", "LCatchBars$World;", true)
  | 1 => ("CatchBars", "kept", "LCatchBars$World;", true)
  | 2 => ("CatchBars", "thinker", "LCatchBars$Thinker;", true)
  | 3 => ("CatchBars", "reader", "LCatchBars$Reader;", true)
  | 4 => ("CatchBars", "voices", "LCatchBars$Voices;", true)
  | 5 => ("CatchBars", "sheets", "[LCatchBars$Sheet;", true)
  | 6 => ("CatchBars", "errors", "[I", true)
  | _ => ("CatchBars", "images", "I", false)
def tyX8 : Nat → FieldType := fun k => match k with
  | 0 => .object "CatchBars$World"
  | 1 => .object "CatchBars$World"
  | 2 => .object "CatchBars$Thinker"
  | 3 => .object "CatchBars$Reader"
  | 4 => .object "CatchBars$Voices"
  | 5 => .array (.object "CatchBars$Sheet")
  | 6 => .array .int
  | _ => .int
theorem nmX8 : ∀ a, a < 8 → ∀ b, b < 8 → a ≠ b → (TX8 a).2.1 ≠ (TX8 b).2.1 := by decide +kernel
theorem tyX8_ok : ∀ k, k < 8 → parseFieldDescriptor (TX8 k).2.2.1 = some (tyX8 k) := by decide +kernel
abbrev cX8_init : ByteArray := prog_1_method_1_code
def yX8_init : MethodName := ⟨RX8, "<init>", "()V"⟩
abbrev cX8_swing : ByteArray := prog_1_method_2_code
def yX8_swing : MethodName := ⟨RX8, "swing", "(III)I"⟩
abbrev cX8_bar : ByteArray := prog_1_method_3_code
def yX8_bar : MethodName := ⟨RX8, "bar", "(II)I"⟩
abbrev cX8_set : ByteArray := prog_1_method_4_code
def yX8_set : MethodName := ⟨RX8, "set", "(II)I"⟩
abbrev cX8_flyer : ByteArray := prog_1_method_5_code
def yX8_flyer : MethodName := ⟨RX8, "flyer", "(I)I"⟩
abbrev cX8_ofFlyer : ByteArray := prog_1_method_6_code
def yX8_ofFlyer : MethodName := ⟨RX8, "ofFlyer", "(II)I"⟩
abbrev cX8_become : ByteArray := prog_1_method_7_code
def yX8_become : MethodName := ⟨RX8, "become", "(II)I"⟩
abbrev cX8_as : ByteArray := prog_1_method_8_code
def yX8_as : MethodName := ⟨RX8, "as", "(II)I"⟩
abbrev cX8_turn : ByteArray := prog_1_method_9_code
def yX8_turn : MethodName := ⟨RX8, "turn", "(II)I"⟩
abbrev cX8_feed : ByteArray := prog_1_method_10_code
def yX8_feed : MethodName := ⟨RX8, "feed", "(JI)I"⟩
abbrev cX8_text : ByteArray := prog_1_method_11_code
def yX8_text : MethodName := ⟨RX8, "text", "(I)I"⟩
abbrev cX8_law : ByteArray := prog_1_method_12_code
def yX8_law : MethodName := ⟨RX8, "law", "(IIII)I"⟩
abbrev cX8_go : ByteArray := prog_1_method_13_code
def yX8_go : MethodName := ⟨RX8, "go", "(I)I"⟩
abbrev cX8_ticks : ByteArray := prog_1_method_14_code
def yX8_ticks : MethodName := ⟨RX8, "ticks", "(I)I"⟩
abbrev cX8_evenings : ByteArray := prog_1_method_15_code
def yX8_evenings : MethodName := ⟨RX8, "evenings", "(I)I"⟩
abbrev cX8_rest : ByteArray := prog_1_method_16_code
def yX8_rest : MethodName := ⟨RX8, "rest", "()I"⟩
abbrev cX8_then : ByteArray := prog_1_method_17_code
def yX8_then : MethodName := ⟨RX8, "then", "(III)I"⟩
abbrev cX8_can : ByteArray := prog_1_method_18_code
def yX8_can : MethodName := ⟨RX8, "can", "(III)I"⟩
abbrev cX8_surest : ByteArray := prog_1_method_19_code
def yX8_surest : MethodName := ⟨RX8, "surest", "(II)I"⟩
abbrev cX8_odds : ByteArray := prog_1_method_20_code
def yX8_odds : MethodName := ⟨RX8, "odds", "(III)I"⟩
abbrev cX8_pumped : ByteArray := prog_1_method_21_code
def yX8_pumped : MethodName := ⟨RX8, "pumped", "(II)I"⟩
abbrev cX8_inStep : ByteArray := prog_1_method_22_code
def yX8_inStep : MethodName := ⟨RX8, "inStep", "(II)I"⟩
abbrev cX8_mend : ByteArray := prog_1_method_23_code
def yX8_mend : MethodName := ⟨RX8, "mend", "(IIII)I"⟩
abbrev cX8_again : ByteArray := prog_1_method_24_code
def yX8_again : MethodName := ⟨RX8, "again", "(IIIII)J"⟩
abbrev cX8_net : ByteArray := prog_1_method_25_code
def yX8_net : MethodName := ⟨RX8, "net", "(III)I"⟩
abbrev cX8_phases : ByteArray := prog_1_method_26_code
def yX8_phases : MethodName := ⟨RX8, "phases", "(III)I"⟩
abbrev cX8_late : ByteArray := prog_1_method_27_code
def yX8_late : MethodName := ⟨RX8, "late", "(II)I"⟩
abbrev cX8_seed : ByteArray := prog_1_method_28_code
def yX8_seed : MethodName := ⟨RX8, "seed", "(I)I"⟩
abbrev cX8_voice : ByteArray := prog_1_method_29_code
def yX8_voice : MethodName := ⟨RX8, "voice", "(III)I"⟩
abbrev cX8_trace : ByteArray := prog_1_method_30_code
def yX8_trace : MethodName := ⟨RX8, "trace", "(I)I"⟩
abbrev cX8_sheet : ByteArray := prog_1_method_31_code
def yX8_sheet : MethodName := ⟨RX8, "sheet", "(III)I"⟩
abbrev cX8_put : ByteArray := prog_1_method_32_code
def yX8_put : MethodName := ⟨RX8, "put", "(III)I"⟩
abbrev cX8_move : ByteArray := prog_1_method_33_code
def yX8_move : MethodName := ⟨RX8, "move", "(IIIII)I"⟩
abbrev cX8_turns : ByteArray := prog_1_method_34_code
def yX8_turns : MethodName := ⟨RX8, "turns", "(I)I"⟩
abbrev cX8_judge : ByteArray := prog_1_method_35_code
def yX8_judge : MethodName := ⟨RX8, "judge", "(I)I"⟩
abbrev cX8_image : ByteArray := prog_1_method_36_code
def yX8_image : MethodName := ⟨RX8, "image", "()I"⟩
abbrev cX8_restore : ByteArray := prog_1_method_37_code
def yX8_restore : MethodName := ⟨RX8, "restore", "()I"⟩
abbrev cX8_tell : ByteArray := prog_1_method_38_code
def yX8_tell : MethodName := ⟨RX8, "tell", "(I)I"⟩
abbrev cX8_check : ByteArray := prog_1_method_39_code
def yX8_check : MethodName := ⟨RX8, "check", "()I"⟩
abbrev cX8_count : ByteArray := prog_1_method_40_code
def yX8_count : MethodName := ⟨RX8, "count", "(I)I"⟩
abbrev cX8_told : ByteArray := prog_1_method_41_code
def yX8_told : MethodName := ⟨RX8, "told", "(I)I"⟩
abbrev cX8_error : ByteArray := prog_1_method_42_code
def yX8_error : MethodName := ⟨RX8, "error", "(I)I"⟩
abbrev cX8_orNone : ByteArray := prog_1_method_43_code
def yX8_orNone : MethodName := ⟨RX8, "orNone", "(I)I"⟩
abbrev cX8_sheetOf : ByteArray := prog_1_method_44_code
def yX8_sheetOf : MethodName := ⟨RX8, "sheetOf", "(I)LCatchBars$Sheet;"⟩
abbrev cX8_goToldAt : ByteArray := prog_1_method_45_code
def yX8_goToldAt : MethodName := ⟨RX8, "goToldAt", "(LCatchBars$Flyer;I)I"⟩
abbrev cX8_oneEvening : ByteArray := prog_1_method_46_code
def yX8_oneEvening : MethodName := ⟨RX8, "oneEvening", "()V"⟩
abbrev cX8_within : ByteArray := prog_1_method_47_code
def yX8_within : MethodName := ⟨RX8, "within", "(III)Z"⟩
abbrev cX8_isSpan : ByteArray := prog_1_method_48_code
def yX8_isSpan : MethodName := ⟨RX8, "isSpan", "(I)Z"⟩
abbrev cX8_isKindAndNumber : ByteArray := prog_1_method_49_code
def yX8_isKindAndNumber : MethodName := ⟨RX8, "isKindAndNumber", "(I)Z"⟩
abbrev cX8_partOf : ByteArray := prog_1_method_50_code
def yX8_partOf : MethodName := ⟨RX8, "partOf", "(III)I"⟩
def RX9 : String := "CatchBarsModel"
def TX9 : u_T := fun k => match k with
  | 0 => ("CatchBarsModel", "d", "[I", true)
  | 1 => ("CatchBarsModel", "kept", "[I", true)
  | 2 => ("CatchBarsModel", "images", "I", false)
  | 3 => ("CatchBarsModel", "found", "[I", true)
  | 4 => ("CatchBarsModel", "base", "I", false)
  | 5 => ("CatchBarsModel", "at", "I", false)
  | 6 => ("CatchBarsModel", "size", "I", false)
  | 7 => ("CatchBarsModel", "fault", "I", false)
  | 8 => ("CatchBarsModel", "opened", "I", false)
  | 9 => ("CatchBarsModel", "names", "[I", true)
  | 10 => ("CatchBarsModel", "lagTried", "I", false)
  | 11 => ("CatchBarsModel", "comesAt", "I", false)
  | 12 => ("CatchBarsModel", "place", "I", false)
  | 13 => ("CatchBarsModel", "canMany", "I", false)
  | 14 => ("CatchBarsModel", "canFirst", "I", false)
  | 15 => ("CatchBarsModel", "bestPlace", "I", false)
  | 16 => ("CatchBarsModel", "bestHarm", "J", false)
  | 17 => ("CatchBarsModel", "fallsMany", "I", false)
  | 18 => ("CatchBarsModel", "fallsAt", "[I", true)
  | 19 => ("CatchBarsModel", "traced", "[I", true)
  | 20 => ("CatchBarsModel", "traceMany", "I", false)
  | 21 => ("CatchBarsModel", "who", "I", false)
  | 22 => ("CatchBarsModel", "bitsOf", "[I", true)
  | 23 => ("CatchBarsModel", "sizeOf", "[I", true)
  | 24 => ("CatchBarsModel", "number", "[I", true)
  | _ => ("CatchBarsModel", "lifted", "[I", true)
def tyX9 : Nat → FieldType := fun k => match k with
  | 0 => .array .int
  | 1 => .array .int
  | 2 => .int
  | 3 => .array .int
  | 4 => .int
  | 5 => .int
  | 6 => .int
  | 7 => .int
  | 8 => .int
  | 9 => .array .int
  | 10 => .int
  | 11 => .int
  | 12 => .int
  | 13 => .int
  | 14 => .int
  | 15 => .int
  | 16 => .long
  | 17 => .int
  | 18 => .array .int
  | 19 => .array .int
  | 20 => .int
  | 21 => .int
  | 22 => .array .int
  | 23 => .array .int
  | 24 => .array .int
  | _ => .array .int
theorem nmX9 : ∀ a, a < 26 → ∀ b, b < 26 → a ≠ b → (TX9 a).2.1 ≠ (TX9 b).2.1 := by decide +kernel
theorem tyX9_ok : ∀ k, k < 26 → parseFieldDescriptor (TX9 k).2.2.1 = some (tyX9 k) := by decide +kernel
abbrev cX9_init : ByteArray := prog_11_method_1_code
def yX9_init : MethodName := ⟨RX9, "<init>", "()V"⟩
abbrev cX9_finds : ByteArray := prog_11_method_3_code
def yX9_finds : MethodName := ⟨RX9, "finds", "(I)I"⟩
abbrev cX9_in : ByteArray := prog_11_method_4_code
def yX9_in : MethodName := ⟨RX9, "in", "(JJJ)Z"⟩
abbrev cX9_held : ByteArray := prog_11_method_5_code
def yX9_held : MethodName := ⟨RX9, "held", "(III)I"⟩
abbrev cX9_isFlyer : ByteArray := prog_11_method_6_code
def yX9_isFlyer : MethodName := ⟨RX9, "isFlyer", "(I)Z"⟩
abbrev cX9_of : ByteArray := prog_11_method_7_code
def yX9_of : MethodName := ⟨RX9, "of", "(II)I"⟩
abbrev cX9_sets : ByteArray := prog_11_method_8_code
def yX9_sets : MethodName := ⟨RX9, "sets", "(III)V"⟩
abbrev cX9_here : ByteArray := prog_11_method_9_code
def yX9_here : MethodName := ⟨RX9, "here", "()I"⟩
abbrev cX9_wrong : ByteArray := prog_11_method_10_code
def yX9_wrong : MethodName := ⟨RX9, "wrong", "()I"⟩
abbrev cX9_takes : ByteArray := prog_11_method_11_code
def yX9_takes : MethodName := ⟨RX9, "takes", "(I)Z"⟩
abbrev cX9_nameOf : ByteArray := prog_11_method_12_code
def yX9_nameOf : MethodName := ⟨RX9, "nameOf", "(I)I"⟩
abbrev cX9_either : ByteArray := prog_11_method_13_code
def yX9_either : MethodName := ⟨RX9, "either", "()I"⟩
abbrev cX9_both : ByteArray := prog_11_method_14_code
def yX9_both : MethodName := ⟨RX9, "both", "()I"⟩
abbrev cX9_compared : ByteArray := prog_11_method_15_code
def yX9_compared : MethodName := ⟨RX9, "compared", "()I"⟩
abbrev cX9_sum : ByteArray := prog_11_method_16_code
def yX9_sum : MethodName := ⟨RX9, "sum", "()I"⟩
abbrev cX9_product : ByteArray := prog_11_method_17_code
def yX9_product : MethodName := ⟨RX9, "product", "()I"⟩
abbrev cX9_unit : ByteArray := prog_11_method_18_code
def yX9_unit : MethodName := ⟨RX9, "unit", "()I"⟩
abbrev cX9_worked : ByteArray := prog_11_method_19_code
def yX9_worked : MethodName := ⟨RX9, "worked", "(III)I"⟩
abbrev cX9_feed : ByteArray := prog_11_method_20_code
def yX9_feed : MethodName := ⟨RX9, "feed", "(JI)I"⟩
abbrev cX9_text : ByteArray := prog_11_method_21_code
def yX9_text : MethodName := ⟨RX9, "text", "(I)I"⟩
abbrev cX9_textGives : ByteArray := prog_11_method_22_code
def yX9_textGives : MethodName := ⟨RX9, "textGives", "(IIII)I"⟩
abbrev cX9_law : ByteArray := prog_11_method_23_code
def yX9_law : MethodName := ⟨RX9, "law", "(IIII)I"⟩
abbrev cX9_isSwing : ByteArray := prog_11_method_24_code
def yX9_isSwing : MethodName := ⟨RX9, "isSwing", "(I)Z"⟩
abbrev cX9_barOf : ByteArray := prog_11_method_25_code
def yX9_barOf : MethodName := ⟨RX9, "barOf", "(II)I"⟩
abbrev cX9_catcherAt : ByteArray := prog_11_method_26_code
def yX9_catcherAt : MethodName := ⟨RX9, "catcherAt", "(I)I"⟩
abbrev cX9_swing : ByteArray := prog_11_method_27_code
def yX9_swing : MethodName := ⟨RX9, "swing", "(III)I"⟩
abbrev cX9_bar : ByteArray := prog_11_method_28_code
def yX9_bar : MethodName := ⟨RX9, "bar", "(II)I"⟩
abbrev cX9_set : ByteArray := prog_11_method_29_code
def yX9_set : MethodName := ⟨RX9, "set", "(II)I"⟩
abbrev cX9_lagOf : ByteArray := prog_11_method_30_code
def yX9_lagOf : MethodName := ⟨RX9, "lagOf", "(I)I"⟩
abbrev cX9_holdsOf : ByteArray := prog_11_method_31_code
def yX9_holdsOf : MethodName := ⟨RX9, "holdsOf", "(I)I"⟩
abbrev cX9_harmOf : ByteArray := prog_11_method_32_code
def yX9_harmOf : MethodName := ⟨RX9, "harmOf", "(II)I"⟩
abbrev cX9_flyer : ByteArray := prog_11_method_33_code
def yX9_flyer : MethodName := ⟨RX9, "flyer", "(I)I"⟩
abbrev cX9_ofFlyer : ByteArray := prog_11_method_34_code
def yX9_ofFlyer : MethodName := ⟨RX9, "ofFlyer", "(II)I"⟩
abbrev cX9_become : ByteArray := prog_11_method_35_code
def yX9_become : MethodName := ⟨RX9, "become", "(II)I"⟩
abbrev cX9_above : ByteArray := prog_11_method_36_code
def yX9_above : MethodName := ⟨RX9, "above", "(I)I"⟩
abbrev cX9_as : ByteArray := prog_11_method_37_code
def yX9_as : MethodName := ⟨RX9, "as", "(II)I"⟩
abbrev cX9_turn : ByteArray := prog_11_method_38_code
def yX9_turn : MethodName := ⟨RX9, "turn", "(II)I"⟩
abbrev cX9_letsGo : ByteArray := prog_11_method_39_code
def yX9_letsGo : MethodName := ⟨RX9, "letsGo", "(II)V"⟩
abbrev cX9_size0 : ByteArray := prog_11_method_40_code
def yX9_size0 : MethodName := ⟨RX9, "size0", "(I)I"⟩
abbrev cX9_offNow : ByteArray := prog_11_method_41_code
def yX9_offNow : MethodName := ⟨RX9, "offNow", "()I"⟩
abbrev cX9_isTold : ByteArray := prog_11_method_42_code
def yX9_isTold : MethodName := ⟨RX9, "isTold", "(II)V"⟩
abbrev cX9_isCaught : ByteArray := prog_11_method_43_code
def yX9_isCaught : MethodName := ⟨RX9, "isCaught", "(I)Z"⟩
abbrev cX9_fallHarm : ByteArray := prog_11_method_44_code
def yX9_fallHarm : MethodName := ⟨RX9, "fallHarm", "(II)I"⟩
abbrev cX9_goes : ByteArray := prog_11_method_45_code
def yX9_goes : MethodName := ⟨RX9, "goes", "(II)I"⟩
abbrev cX9_go : ByteArray := prog_11_method_46_code
def yX9_go : MethodName := ⟨RX9, "go", "(I)I"⟩
abbrev cX9_ticks : ByteArray := prog_11_method_47_code
def yX9_ticks : MethodName := ⟨RX9, "ticks", "(I)I"⟩
abbrev cX9_drawn : ByteArray := prog_11_method_48_code
def yX9_drawn : MethodName := ⟨RX9, "drawn", "()I"⟩
abbrev cX9_evenings : ByteArray := prog_11_method_49_code
def yX9_evenings : MethodName := ⟨RX9, "evenings", "(I)I"⟩
abbrev cX9_rest : ByteArray := prog_11_method_50_code
def yX9_rest : MethodName := ⟨RX9, "rest", "()I"⟩
abbrev cX9_isSoon : ByteArray := prog_11_method_51_code
def yX9_isSoon : MethodName := ⟨RX9, "isSoon", "(I)Z"⟩
abbrev cX9_isSpan : ByteArray := prog_11_method_52_code
def yX9_isSpan : MethodName := ⟨RX9, "isSpan", "(I)Z"⟩
abbrev cX9_then : ByteArray := prog_11_method_53_code
def yX9_then : MethodName := ⟨RX9, "then", "(III)I"⟩
abbrev cX9_findCan : ByteArray := prog_11_method_54_code
def yX9_findCan : MethodName := ⟨RX9, "findCan", "(II)V"⟩
abbrev cX9_can : ByteArray := prog_11_method_55_code
def yX9_can : MethodName := ⟨RX9, "can", "(III)I"⟩
abbrev cX9_casesAt : ByteArray := prog_11_method_56_code
def yX9_casesAt : MethodName := ⟨RX9, "casesAt", "(II)I"⟩
abbrev cX9_surestOf : ByteArray := prog_11_method_57_code
def yX9_surestOf : MethodName := ⟨RX9, "surestOf", "(II)I"⟩
abbrev cX9_surest : ByteArray := prog_11_method_58_code
def yX9_surest : MethodName := ⟨RX9, "surest", "(II)I"⟩
abbrev cX9_common : ByteArray := prog_11_method_59_code
def yX9_common : MethodName := ⟨RX9, "common", "(JJ)J"⟩
abbrev cX9_odds : ByteArray := prog_11_method_60_code
def yX9_odds : MethodName := ⟨RX9, "odds", "(III)I"⟩
abbrev cX9_hasNext : ByteArray := prog_11_method_61_code
def yX9_hasNext : MethodName := ⟨RX9, "hasNext", "(II)Z"⟩
abbrev cX9_pumped : ByteArray := prog_11_method_62_code
def yX9_pumped : MethodName := ⟨RX9, "pumped", "(II)I"⟩
abbrev cX9_inStep : ByteArray := prog_11_method_63_code
def yX9_inStep : MethodName := ⟨RX9, "inStep", "(II)I"⟩
abbrev cX9_mend : ByteArray := prog_11_method_64_code
def yX9_mend : MethodName := ⟨RX9, "mend", "(IIII)I"⟩
abbrev cX9_again : ByteArray := prog_11_method_65_code
def yX9_again : MethodName := ⟨RX9, "again", "(IIIII)J"⟩
abbrev cX9_findFalls : ByteArray := prog_11_method_66_code
def yX9_findFalls : MethodName := ⟨RX9, "findFalls", "(II)V"⟩
abbrev cX9_harmBy : ByteArray := prog_11_method_67_code
def yX9_harmBy : MethodName := ⟨RX9, "harmBy", "(II)J"⟩
abbrev cX9_net : ByteArray := prog_11_method_68_code
def yX9_net : MethodName := ⟨RX9, "net", "(III)I"⟩
abbrev cX9_isSo : ByteArray := prog_11_method_69_code
def yX9_isSo : MethodName := ⟨RX9, "isSo", "(II)Z"⟩
abbrev cX9_phases : ByteArray := prog_11_method_70_code
def yX9_phases : MethodName := ⟨RX9, "phases", "(III)I"⟩
abbrev cX9_late : ByteArray := prog_11_method_71_code
def yX9_late : MethodName := ⟨RX9, "late", "(II)I"⟩
abbrev cX9_seed : ByteArray := prog_11_method_72_code
def yX9_seed : MethodName := ⟨RX9, "seed", "(I)I"⟩
abbrev cX9_ran : ByteArray := prog_11_method_73_code
def yX9_ran : MethodName := ⟨RX9, "ran", "(I)V"⟩
abbrev cX9_own : ByteArray := prog_11_method_74_code
def yX9_own : MethodName := ⟨RX9, "own", "()I"⟩
abbrev cX9_swingsBy : ByteArray := prog_11_method_75_code
def yX9_swingsBy : MethodName := ⟨RX9, "swingsBy", "(II)I"⟩
abbrev cX9_fliesBy : ByteArray := prog_11_method_76_code
def yX9_fliesBy : MethodName := ⟨RX9, "fliesBy", "(II)I"⟩
abbrev cX9_fallsBy : ByteArray := prog_11_method_77_code
def yX9_fallsBy : MethodName := ⟨RX9, "fallsBy", "(II)I"⟩
abbrev cX9_tellsBy : ByteArray := prog_11_method_78_code
def yX9_tellsBy : MethodName := ⟨RX9, "tellsBy", "(II)I"⟩
abbrev cX9_voice : ByteArray := prog_11_method_79_code
def yX9_voice : MethodName := ⟨RX9, "voice", "(III)I"⟩
abbrev cX9_trace : ByteArray := prog_11_method_80_code
def yX9_trace : MethodName := ⟨RX9, "trace", "(I)I"⟩
abbrev cX9_isSheet : ByteArray := prog_11_method_81_code
def yX9_isSheet : MethodName := ⟨RX9, "isSheet", "(I)Z"⟩
abbrev cX9_sheet : ByteArray := prog_11_method_82_code
def yX9_sheet : MethodName := ⟨RX9, "sheet", "(III)I"⟩
abbrev cX9_put : ByteArray := prog_11_method_83_code
def yX9_put : MethodName := ⟨RX9, "put", "(III)I"⟩
abbrev cX9_move : ByteArray := prog_11_method_84_code
def yX9_move : MethodName := ⟨RX9, "move", "(IIIII)I"⟩
abbrev cX9_turns : ByteArray := prog_11_method_85_code
def yX9_turns : MethodName := ⟨RX9, "turns", "(I)I"⟩
abbrev cX9_judge : ByteArray := prog_11_method_86_code
def yX9_judge : MethodName := ⟨RX9, "judge", "(I)I"⟩
abbrev cX9_image : ByteArray := prog_11_method_87_code
def yX9_image : MethodName := ⟨RX9, "image", "()I"⟩
abbrev cX9_restore : ByteArray := prog_11_method_88_code
def yX9_restore : MethodName := ⟨RX9, "restore", "()I"⟩
abbrev cX9_tell : ByteArray := prog_11_method_89_code
def yX9_tell : MethodName := ⟨RX9, "tell", "(I)I"⟩
abbrev cX9_check : ByteArray := prog_11_method_90_code
def yX9_check : MethodName := ⟨RX9, "check", "()I"⟩
abbrev cX9_count : ByteArray := prog_11_method_91_code
def yX9_count : MethodName := ⟨RX9, "count", "(I)I"⟩
abbrev cX9_told : ByteArray := prog_11_method_92_code
def yX9_told : MethodName := ⟨RX9, "told", "(I)I"⟩
def RJ9 : String := "java/lang/Math"
def TJ9 : u_T := fun k => match k with
  | _ => ("", "", "", false)
def tyJ9 : Nat → FieldType := fun k => match k with
  | _ => .int
abbrev cJ9_floorMod_7cf53 : ByteArray := prog_12_method_50_code
def yJ9_floorMod_7cf53 : MethodName := ⟨RJ9, "floorMod", "(II)I"⟩
abbrev cJ9_abs_0f7a4 : ByteArray := prog_12_method_59_code
def yJ9_abs_0f7a4 : MethodName := ⟨RJ9, "abs", "(I)I"⟩
abbrev cJ9_max_7cf53 : ByteArray := prog_12_method_65_code
def yJ9_max_7cf53 : MethodName := ⟨RJ9, "max", "(II)I"⟩
abbrev cJ9_min_7cf53 : ByteArray := prog_12_method_69_code
def yJ9_min_7cf53 : MethodName := ⟨RJ9, "min", "(II)I"⟩
def RJ10 : String := "java/lang/System"
def TJ10 : u_T := fun k => match k with
  | _ => ("", "", "", false)
def tyJ10 : Nat → FieldType := fun k => match k with
  | _ => .int
def RL : String := "CatchBarsLaw"
abbrev cL_law : ByteArray := code
def yL_law : MethodName := ⟨RL, "law", "([I)Z"⟩
abbrev vwCl : List vw_C := [(RX0, TX0, 4), (RX1, TX1, 6), (RX2, TX2, 5), (RX3, TX3, 3), (RX4, TX4, 3), (RX5, TX5, 9), (RX6, TX6, 4), (RX7, TX7, 18), (RX8, TX8, 8), (RX9, TX9, 26)]
def gw0 : List Cond := u_ws RX0 TX0 4
def gw1 : List Cond := u_ws RX1 TX1 6
def gw2 : List Cond := u_ws RX2 TX2 5
def gw3 : List Cond := u_ws RX3 TX3 3
def gw4 : List Cond := u_ws RX4 TX4 3
def gw5 : List Cond := u_ws RX5 TX5 9
def gw6 : List Cond := u_ws RX6 TX6 4
def gw7 : List Cond := u_ws RX7 TX7 18
def gw8 : List Cond := u_ws RX8 TX8 8
def gw9 : List Cond := u_ws RX9 TX9 26
end
section
theorem dX0_init_0 : decode cX0_init 0 = .ok (.aload_n 0, 1) := by decide +kernel
theorem dX0_init_1 : decode cX0_init 1 = .ok (.invokespecial 3, 3) := by decide +kernel
theorem dX0_init_4 : decode cX0_init 4 = .ok (.return_, 1) := by decide +kernel
theorem dX0_begin_0 : decode cX0_begin 0 = .ok (.aload_n 0, 1) := by decide +kernel
theorem dX0_begin_1 : decode cX0_begin 1 = .ok (.iload_n 1, 1) := by decide +kernel
theorem dX0_begin_2 : decode cX0_begin 2 = .ok (.invokevirtual 9, 3) := by decide +kernel
theorem dX0_begin_5 : decode cX0_begin 5 = .ok (.aload_n 0, 1) := by decide +kernel
theorem dX0_begin_6 : decode cX0_begin 6 = .ok (.iconst 1, 1) := by decide +kernel
theorem dX0_begin_7 : decode cX0_begin 7 = .ok (.putfield 15, 3) := by decide +kernel
theorem dX0_begin_10 : decode cX0_begin 10 = .ok (.aload_n 0, 1) := by decide +kernel
theorem dX0_begin_11 : decode cX0_begin 11 = .ok (.iconst 0, 1) := by decide +kernel
theorem dX0_begin_12 : decode cX0_begin 12 = .ok (.putfield 19, 3) := by decide +kernel
theorem dX0_begin_15 : decode cX0_begin 15 = .ok (.return_, 1) := by decide +kernel
theorem dX0_take_0 : decode cX0_take 0 = .ok (.aload_n 0, 1) := by decide +kernel
theorem dX0_take_1 : decode cX0_take 1 = .ok (.iload_n 1, 1) := by decide +kernel
theorem dX0_take_2 : decode cX0_take 2 = .ok (.bipush 10, 2) := by decide +kernel
theorem dX0_take_4 : decode cX0_take 4 = .ok (.idiv, 1) := by decide +kernel
theorem dX0_take_5 : decode cX0_take 5 = .ok (.putfield 22, 3) := by decide +kernel
theorem dX0_take_8 : decode cX0_take 8 = .ok (.aload_n 0, 1) := by decide +kernel
theorem dX0_take_9 : decode cX0_take 9 = .ok (.iload_n 1, 1) := by decide +kernel
theorem dX0_take_10 : decode cX0_take 10 = .ok (.bipush 10, 2) := by decide +kernel
theorem dX0_take_12 : decode cX0_take 12 = .ok (.irem, 1) := by decide +kernel
theorem dX0_take_13 : decode cX0_take 13 = .ok (.putfield 25, 3) := by decide +kernel
theorem dX0_take_16 : decode cX0_take 16 = .ok (.return_, 1) := by decide +kernel
theorem dX0_isOf_0 : decode cX0_isOf 0 = .ok (.aload_n 0, 1) := by decide +kernel
theorem dX0_isOf_1 : decode cX0_isOf 1 = .ok (.getfield 22, 3) := by decide +kernel
theorem dX0_isOf_4 : decode cX0_isOf 4 = .ok (.istore_n 2, 1) := by decide +kernel
theorem dX0_isOf_5 : decode cX0_isOf 5 = .ok (.iconst 0, 1) := by decide +kernel
theorem dX0_isOf_6 : decode cX0_isOf 6 = .ok (.istore_n 3, 1) := by decide +kernel
theorem dX0_isOf_7 : decode cX0_isOf 7 = .ok (.iload_n 3, 1) := by decide +kernel
theorem dX0_isOf_8 : decode cX0_isOf 8 = .ok (.bipush 7, 2) := by decide +kernel
theorem dX0_isOf_10 : decode cX0_isOf 10 = .ok (.if_icmp .ge 23, 3) := by decide +kernel
theorem dX0_isOf_13 : decode cX0_isOf 13 = .ok (.iload_n 2, 1) := by decide +kernel
theorem dX0_isOf_14 : decode cX0_isOf 14 = .ok (.iload_n 1, 1) := by decide +kernel
theorem dX0_isOf_15 : decode cX0_isOf 15 = .ok (.if_icmp .eq 18, 3) := by decide +kernel
theorem dX0_isOf_18 : decode cX0_isOf 18 = .ok (.iload_n 2, 1) := by decide +kernel
theorem dX0_isOf_19 : decode cX0_isOf 19 = .ok (.ifCond .le 14, 3) := by decide +kernel
theorem dX0_isOf_22 : decode cX0_isOf 22 = .ok (.iload_n 2, 1) := by decide +kernel
theorem dX0_isOf_23 : decode cX0_isOf 23 = .ok (.invokestatic 28, 3) := by decide +kernel
theorem dX0_isOf_26 : decode cX0_isOf 26 = .ok (.istore_n 2, 1) := by decide +kernel
theorem dX0_isOf_27 : decode cX0_isOf 27 = .ok (.iinc 3 1, 3) := by decide +kernel
theorem dX0_isOf_30 : decode cX0_isOf 30 = .ok (.goto (-23), 3) := by decide +kernel
theorem dX0_isOf_33 : decode cX0_isOf 33 = .ok (.iload_n 2, 1) := by decide +kernel
theorem dX0_isOf_34 : decode cX0_isOf 34 = .ok (.iload_n 1, 1) := by decide +kernel
theorem dX0_isOf_35 : decode cX0_isOf 35 = .ok (.if_icmp .ne 7, 3) := by decide +kernel
theorem dX0_isOf_38 : decode cX0_isOf 38 = .ok (.iconst 1, 1) := by decide +kernel
theorem dX0_isOf_39 : decode cX0_isOf 39 = .ok (.goto 4, 3) := by decide +kernel
theorem dX0_isOf_42 : decode cX0_isOf 42 = .ok (.iconst 0, 1) := by decide +kernel
theorem dX0_isOf_43 : decode cX0_isOf 43 = .ok (.ireturn, 1) := by decide +kernel
theorem dX0_kindAbove_0 : decode cX0_kindAbove 0 = .ok (.iload_n 0, 1) := by decide +kernel
theorem dX0_kindAbove_1 : decode cX0_kindAbove 1 = .ok (.tableswitch 47 1 6 #[39, 39, 39, 41, 43, 45], 39) := by decide +kernel
theorem dX0_kindAbove_40 : decode cX0_kindAbove 40 = .ok (.iconst 0, 1) := by decide +kernel
theorem dX0_kindAbove_41 : decode cX0_kindAbove 41 = .ok (.ireturn, 1) := by decide +kernel
theorem dX0_kindAbove_42 : decode cX0_kindAbove 42 = .ok (.iconst 1, 1) := by decide +kernel
theorem dX0_kindAbove_43 : decode cX0_kindAbove 43 = .ok (.ireturn, 1) := by decide +kernel
theorem dX0_kindAbove_44 : decode cX0_kindAbove 44 = .ok (.iconst 2, 1) := by decide +kernel
theorem dX0_kindAbove_45 : decode cX0_kindAbove 45 = .ok (.ireturn, 1) := by decide +kernel
theorem dX0_kindAbove_46 : decode cX0_kindAbove 46 = .ok (.iconst 3, 1) := by decide +kernel
theorem dX0_kindAbove_47 : decode cX0_kindAbove 47 = .ok (.ireturn, 1) := by decide +kernel
theorem dX0_kindAbove_48 : decode cX0_kindAbove 48 = .ok (.iconst (-1), 1) := by decide +kernel
theorem dX0_kindAbove_49 : decode cX0_kindAbove 49 = .ok (.ireturn, 1) := by decide +kernel
theorem dX0_lag_0 : decode cX0_lag 0 = .ok (.aload_n 0, 1) := by decide +kernel
theorem dX0_lag_1 : decode cX0_lag 1 = .ok (.getfield 22, 3) := by decide +kernel
theorem dX0_lag_4 : decode cX0_lag 4 = .ok (.tableswitch 69 2 6 #[36, 52, 69, 45, 52], 36) := by decide +kernel
theorem dX0_lag_40 : decode cX0_lag 40 = .ok (.iconst 1, 1) := by decide +kernel
theorem dX0_lag_41 : decode cX0_lag 41 = .ok (.aload_n 0, 1) := by decide +kernel
theorem dX0_lag_42 : decode cX0_lag 42 = .ok (.getfield 25, 3) := by decide +kernel
theorem dX0_lag_45 : decode cX0_lag 45 = .ok (.iconst 3, 1) := by decide +kernel
theorem dX0_lag_46 : decode cX0_lag 46 = .ok (.irem, 1) := by decide +kernel
theorem dX0_lag_47 : decode cX0_lag 47 = .ok (.iadd, 1) := by decide +kernel
theorem dX0_lag_48 : decode cX0_lag 48 = .ok (.ireturn, 1) := by decide +kernel
theorem dX0_lag_49 : decode cX0_lag 49 = .ok (.aload_n 0, 1) := by decide +kernel
theorem dX0_lag_50 : decode cX0_lag 50 = .ok (.getfield 25, 3) := by decide +kernel
theorem dX0_lag_53 : decode cX0_lag 53 = .ok (.iconst 3, 1) := by decide +kernel
theorem dX0_lag_54 : decode cX0_lag 54 = .ok (.irem, 1) := by decide +kernel
theorem dX0_lag_55 : decode cX0_lag 55 = .ok (.ireturn, 1) := by decide +kernel
theorem dX0_lag_56 : decode cX0_lag 56 = .ok (.aload_n 0, 1) := by decide +kernel
theorem dX0_lag_57 : decode cX0_lag 57 = .ok (.getfield 19, 3) := by decide +kernel
theorem dX0_lag_60 : decode cX0_lag 60 = .ok (.aload_n 0, 1) := by decide +kernel
theorem dX0_lag_61 : decode cX0_lag 61 = .ok (.getfield 25, 3) := by decide +kernel
theorem dX0_lag_64 : decode cX0_lag 64 = .ok (.if_icmp .le 7, 3) := by decide +kernel
theorem dX0_lag_67 : decode cX0_lag 67 = .ok (.iconst 1, 1) := by decide +kernel
theorem dX0_lag_68 : decode cX0_lag 68 = .ok (.goto 4, 3) := by decide +kernel
theorem dX0_lag_71 : decode cX0_lag 71 = .ok (.iconst 0, 1) := by decide +kernel
theorem dX0_lag_72 : decode cX0_lag 72 = .ok (.ireturn, 1) := by decide +kernel
theorem dX0_lag_73 : decode cX0_lag 73 = .ok (.iconst 0, 1) := by decide +kernel
theorem dX0_lag_74 : decode cX0_lag 74 = .ok (.ireturn, 1) := by decide +kernel
theorem dX0_holds_0 : decode cX0_holds 0 = .ok (.aload_n 0, 1) := by decide +kernel
theorem dX0_holds_1 : decode cX0_holds 1 = .ok (.getfield 22, 3) := by decide +kernel
theorem dX0_holds_4 : decode cX0_holds 4 = .ok (.tableswitch 66 1 6 #[40, 66, 53, 44, 66, 53], 40) := by decide +kernel
theorem dX0_holds_44 : decode cX0_holds 44 = .ok (.iload_n 1, 1) := by decide +kernel
theorem dX0_holds_45 : decode cX0_holds 45 = .ok (.iconst 1, 1) := by decide +kernel
theorem dX0_holds_46 : decode cX0_holds 46 = .ok (.iadd, 1) := by decide +kernel
theorem dX0_holds_47 : decode cX0_holds 47 = .ok (.ireturn, 1) := by decide +kernel
theorem dX0_holds_48 : decode cX0_holds 48 = .ok (.iload_n 1, 1) := by decide +kernel
theorem dX0_holds_49 : decode cX0_holds 49 = .ok (.iconst 1, 1) := by decide +kernel
theorem dX0_holds_50 : decode cX0_holds 50 = .ok (.iadd, 1) := by decide +kernel
theorem dX0_holds_51 : decode cX0_holds 51 = .ok (.aload_n 0, 1) := by decide +kernel
theorem dX0_holds_52 : decode cX0_holds 52 = .ok (.getfield 25, 3) := by decide +kernel
theorem dX0_holds_55 : decode cX0_holds 55 = .ok (.iadd, 1) := by decide +kernel
theorem dX0_holds_56 : decode cX0_holds 56 = .ok (.ireturn, 1) := by decide +kernel
theorem dX0_holds_57 : decode cX0_holds 57 = .ok (.iconst 0, 1) := by decide +kernel
theorem dX0_holds_58 : decode cX0_holds 58 = .ok (.iload_n 1, 1) := by decide +kernel
theorem dX0_holds_59 : decode cX0_holds 59 = .ok (.aload_n 0, 1) := by decide +kernel
theorem dX0_holds_60 : decode cX0_holds 60 = .ok (.getfield 19, 3) := by decide +kernel
theorem dX0_holds_63 : decode cX0_holds 63 = .ok (.iconst 3, 1) := by decide +kernel
theorem dX0_holds_64 : decode cX0_holds 64 = .ok (.idiv, 1) := by decide +kernel
theorem dX0_holds_65 : decode cX0_holds 65 = .ok (.isub, 1) := by decide +kernel
theorem dX0_holds_66 : decode cX0_holds 66 = .ok (.invokestatic 32, 3) := by decide +kernel
theorem dX0_holds_69 : decode cX0_holds 69 = .ok (.ireturn, 1) := by decide +kernel
theorem dX0_holds_70 : decode cX0_holds 70 = .ok (.iload_n 1, 1) := by decide +kernel
theorem dX0_holds_71 : decode cX0_holds 71 = .ok (.ireturn, 1) := by decide +kernel
theorem dX0_harm_0 : decode cX0_harm 0 = .ok (.aload_n 0, 1) := by decide +kernel
theorem dX0_harm_1 : decode cX0_harm 1 = .ok (.getfield 22, 3) := by decide +kernel
theorem dX0_harm_4 : decode cX0_harm 4 = .ok (.lookupswitch 44 #[(3, 28), (6, 35)], 28) := by decide +kernel
theorem dX0_harm_32 : decode cX0_harm 32 = .ok (.iload_n 1, 1) := by decide +kernel
theorem dX0_harm_33 : decode cX0_harm 33 = .ok (.aload_n 0, 1) := by decide +kernel
theorem dX0_harm_34 : decode cX0_harm 34 = .ok (.getfield 19, 3) := by decide +kernel
theorem dX0_harm_37 : decode cX0_harm 37 = .ok (.iadd, 1) := by decide +kernel
theorem dX0_harm_38 : decode cX0_harm 38 = .ok (.ireturn, 1) := by decide +kernel
theorem dX0_harm_39 : decode cX0_harm 39 = .ok (.iload_n 1, 1) := by decide +kernel
theorem dX0_harm_40 : decode cX0_harm 40 = .ok (.aload_n 0, 1) := by decide +kernel
theorem dX0_harm_41 : decode cX0_harm 41 = .ok (.getfield 19, 3) := by decide +kernel
theorem dX0_harm_44 : decode cX0_harm 44 = .ok (.iadd, 1) := by decide +kernel
theorem dX0_harm_45 : decode cX0_harm 45 = .ok (.iconst 2, 1) := by decide +kernel
theorem dX0_harm_46 : decode cX0_harm 46 = .ok (.idiv, 1) := by decide +kernel
theorem dX0_harm_47 : decode cX0_harm 47 = .ok (.ireturn, 1) := by decide +kernel
theorem dX0_harm_48 : decode cX0_harm 48 = .ok (.iload_n 1, 1) := by decide +kernel
theorem dX0_harm_49 : decode cX0_harm 49 = .ok (.ireturn, 1) := by decide +kernel
theorem dX0_copy_0 : decode cX0_copy 0 = .ok (.aload_n 0, 1) := by decide +kernel
theorem dX0_copy_1 : decode cX0_copy 1 = .ok (.aload_n 1, 1) := by decide +kernel
theorem dX0_copy_2 : decode cX0_copy 2 = .ok (.getfield 22, 3) := by decide +kernel
theorem dX0_copy_5 : decode cX0_copy 5 = .ok (.putfield 22, 3) := by decide +kernel
theorem dX0_copy_8 : decode cX0_copy 8 = .ok (.aload_n 0, 1) := by decide +kernel
theorem dX0_copy_9 : decode cX0_copy 9 = .ok (.aload_n 1, 1) := by decide +kernel
theorem dX0_copy_10 : decode cX0_copy 10 = .ok (.getfield 25, 3) := by decide +kernel
theorem dX0_copy_13 : decode cX0_copy 13 = .ok (.putfield 25, 3) := by decide +kernel
theorem dX0_copy_16 : decode cX0_copy 16 = .ok (.aload_n 0, 1) := by decide +kernel
theorem dX0_copy_17 : decode cX0_copy 17 = .ok (.aload_n 1, 1) := by decide +kernel
theorem dX0_copy_18 : decode cX0_copy 18 = .ok (.getfield 15, 3) := by decide +kernel
theorem dX0_copy_21 : decode cX0_copy 21 = .ok (.putfield 15, 3) := by decide +kernel
theorem dX0_copy_24 : decode cX0_copy 24 = .ok (.aload_n 0, 1) := by decide +kernel
theorem dX0_copy_25 : decode cX0_copy 25 = .ok (.aload_n 1, 1) := by decide +kernel
theorem dX0_copy_26 : decode cX0_copy 26 = .ok (.getfield 19, 3) := by decide +kernel
theorem dX0_copy_29 : decode cX0_copy 29 = .ok (.putfield 19, 3) := by decide +kernel
theorem dX0_copy_32 : decode cX0_copy 32 = .ok (.return_, 1) := by decide +kernel
theorem dX1_init_0 : decode cX1_init 0 = .ok (.aload_n 0, 1) := by decide +kernel
theorem dX1_init_1 : decode cX1_init 1 = .ok (.invokespecial 3, 3) := by decide +kernel
theorem dX1_init_4 : decode cX1_init 4 = .ok (.aload_n 0, 1) := by decide +kernel
theorem dX1_init_5 : decode cX1_init 5 = .ok (.bipush 50, 2) := by decide +kernel
theorem dX1_init_7 : decode cX1_init 7 = .ok (.newarray .int, 2) := by decide +kernel
theorem dX1_init_9 : decode cX1_init 9 = .ok (.putfield 9, 3) := by decide +kernel
theorem dX1_init_12 : decode cX1_init 12 = .ok (.aload_n 0, 1) := by decide +kernel
theorem dX1_init_13 : decode cX1_init 13 = .ok (.bipush 50, 2) := by decide +kernel
theorem dX1_init_15 : decode cX1_init 15 = .ok (.newarray .int, 2) := by decide +kernel
theorem dX1_init_17 : decode cX1_init 17 = .ok (.putfield 15, 3) := by decide +kernel
theorem dX1_init_20 : decode cX1_init 20 = .ok (.aload_n 0, 1) := by decide +kernel
theorem dX1_init_21 : decode cX1_init 21 = .ok (.iload_n 1, 1) := by decide +kernel
theorem dX1_init_22 : decode cX1_init 22 = .ok (.ifCond .ne 7, 3) := by decide +kernel
theorem dX1_init_25 : decode cX1_init 25 = .ok (.iconst 1, 1) := by decide +kernel
theorem dX1_init_26 : decode cX1_init 26 = .ok (.goto 4, 3) := by decide +kernel
theorem dX1_init_29 : decode cX1_init 29 = .ok (.iconst 0, 1) := by decide +kernel
theorem dX1_init_30 : decode cX1_init 30 = .ok (.putfield 18, 3) := by decide +kernel
theorem dX1_init_33 : decode cX1_init 33 = .ok (.aload_n 0, 1) := by decide +kernel
theorem dX1_init_34 : decode cX1_init 34 = .ok (.aload_n 0, 1) := by decide +kernel
theorem dX1_init_35 : decode cX1_init 35 = .ok (.getfield 18, 3) := by decide +kernel
theorem dX1_init_38 : decode cX1_init 38 = .ok (.ifCond .eq 7, 3) := by decide +kernel
theorem dX1_init_41 : decode cX1_init 41 = .ok (.iconst 1, 1) := by decide +kernel
theorem dX1_init_42 : decode cX1_init 42 = .ok (.goto 5, 3) := by decide +kernel
theorem dX1_init_45 : decode cX1_init 45 = .ok (.bipush (-99), 2) := by decide +kernel
theorem dX1_init_47 : decode cX1_init 47 = .ok (.putfield 22, 3) := by decide +kernel
theorem dX1_init_50 : decode cX1_init 50 = .ok (.aload_n 0, 1) := by decide +kernel
theorem dX1_init_51 : decode cX1_init 51 = .ok (.aload_n 0, 1) := by decide +kernel
theorem dX1_init_52 : decode cX1_init 52 = .ok (.getfield 18, 3) := by decide +kernel
theorem dX1_init_55 : decode cX1_init 55 = .ok (.ifCond .eq 8, 3) := by decide +kernel
theorem dX1_init_58 : decode cX1_init 58 = .ok (.bipush 30, 2) := by decide +kernel
theorem dX1_init_60 : decode cX1_init 60 = .ok (.goto 5, 3) := by decide +kernel
theorem dX1_init_63 : decode cX1_init 63 = .ok (.bipush 99, 2) := by decide +kernel
theorem dX1_init_65 : decode cX1_init 65 = .ok (.putfield 26, 3) := by decide +kernel
theorem dX1_init_68 : decode cX1_init 68 = .ok (.return_, 1) := by decide +kernel
theorem dX1_take_0 : decode cX1_take 0 = .ok (.aload_n 0, 1) := by decide +kernel
theorem dX1_take_1 : decode cX1_take 1 = .ok (.iload_n 2, 1) := by decide +kernel
theorem dX1_take_2 : decode cX1_take 2 = .ok (.aload_n 1, 1) := by decide +kernel
theorem dX1_take_3 : decode cX1_take 3 = .ok (.arraylength, 1) := by decide +kernel
theorem dX1_take_4 : decode cX1_take 4 = .ok (.bipush 50, 2) := by decide +kernel
theorem dX1_take_6 : decode cX1_take 6 = .ok (.invokestatic 29, 3) := by decide +kernel
theorem dX1_take_9 : decode cX1_take 9 = .ok (.invokestatic 29, 3) := by decide +kernel
theorem dX1_take_12 : decode cX1_take 12 = .ok (.putfield 35, 3) := by decide +kernel
theorem dX1_take_15 : decode cX1_take 15 = .ok (.iconst 0, 1) := by decide +kernel
theorem dX1_take_16 : decode cX1_take 16 = .ok (.istore_n 3, 1) := by decide +kernel
theorem dX1_take_17 : decode cX1_take 17 = .ok (.iload_n 3, 1) := by decide +kernel
theorem dX1_take_18 : decode cX1_take 18 = .ok (.aload_n 0, 1) := by decide +kernel
theorem dX1_take_19 : decode cX1_take 19 = .ok (.getfield 35, 3) := by decide +kernel
theorem dX1_take_22 : decode cX1_take 22 = .ok (.if_icmp .ge 18, 3) := by decide +kernel
theorem dX1_take_25 : decode cX1_take 25 = .ok (.aload_n 0, 1) := by decide +kernel
theorem dX1_take_26 : decode cX1_take 26 = .ok (.getfield 9, 3) := by decide +kernel
theorem dX1_take_29 : decode cX1_take 29 = .ok (.iload_n 3, 1) := by decide +kernel
theorem dX1_take_30 : decode cX1_take 30 = .ok (.aload_n 1, 1) := by decide +kernel
theorem dX1_take_31 : decode cX1_take 31 = .ok (.iload_n 3, 1) := by decide +kernel
theorem dX1_take_32 : decode cX1_take 32 = .ok (.iaload, 1) := by decide +kernel
theorem dX1_take_33 : decode cX1_take 33 = .ok (.iastore, 1) := by decide +kernel
theorem dX1_take_34 : decode cX1_take 34 = .ok (.iinc 3 1, 3) := by decide +kernel
theorem dX1_take_37 : decode cX1_take 37 = .ok (.goto (-20), 3) := by decide +kernel
theorem dX1_take_40 : decode cX1_take 40 = .ok (.return_, 1) := by decide +kernel
theorem dX1_gives_0 : decode cX1_gives 0 = .ok (.iconst 0, 1) := by decide +kernel
theorem dX1_gives_1 : decode cX1_gives 1 = .ok (.istore 4, 2) := by decide +kernel
theorem dX1_gives_3 : decode cX1_gives 3 = .ok (.iconst 0, 1) := by decide +kernel
theorem dX1_gives_4 : decode cX1_gives 4 = .ok (.istore 5, 2) := by decide +kernel
theorem dX1_gives_6 : decode cX1_gives 6 = .ok (.iload 5, 2) := by decide +kernel
theorem dX1_gives_8 : decode cX1_gives 8 = .ok (.aload_n 0, 1) := by decide +kernel
theorem dX1_gives_9 : decode cX1_gives 9 = .ok (.getfield 35, 3) := by decide +kernel
theorem dX1_gives_12 : decode cX1_gives 12 = .ok (.if_icmp .ge 170, 3) := by decide +kernel
theorem dX1_gives_15 : decode cX1_gives 15 = .ok (.iload 5, 2) := by decide +kernel
theorem dX1_gives_17 : decode cX1_gives 17 = .ok (.bipush 50, 2) := by decide +kernel
theorem dX1_gives_19 : decode cX1_gives 19 = .ok (.if_icmp .ge 163, 3) := by decide +kernel
theorem dX1_gives_22 : decode cX1_gives 22 = .ok (.aload_n 0, 1) := by decide +kernel
theorem dX1_gives_23 : decode cX1_gives 23 = .ok (.getfield 9, 3) := by decide +kernel
theorem dX1_gives_26 : decode cX1_gives 26 = .ok (.iload 5, 2) := by decide +kernel
theorem dX1_gives_28 : decode cX1_gives 28 = .ok (.iaload, 1) := by decide +kernel
theorem dX1_gives_29 : decode cX1_gives 29 = .ok (.istore 6, 2) := by decide +kernel
theorem dX1_gives_31 : decode cX1_gives 31 = .ok (.iload 6, 2) := by decide +kernel
theorem dX1_gives_33 : decode cX1_gives 33 = .ok (.invokestatic 38, 3) := by decide +kernel
theorem dX1_gives_36 : decode cX1_gives 36 = .ok (.ifCond .eq 56, 3) := by decide +kernel
theorem dX1_gives_39 : decode cX1_gives 39 = .ok (.iload 4, 2) := by decide +kernel
theorem dX1_gives_41 : decode cX1_gives 41 = .ok (.bipush 50, 2) := by decide +kernel
theorem dX1_gives_43 : decode cX1_gives 43 = .ok (.if_icmp .ge 49, 3) := by decide +kernel
theorem dX1_gives_46 : decode cX1_gives 46 = .ok (.aload_n 0, 1) := by decide +kernel
theorem dX1_gives_47 : decode cX1_gives 47 = .ok (.getfield 15, 3) := by decide +kernel
theorem dX1_gives_50 : decode cX1_gives 50 = .ok (.iload 4, 2) := by decide +kernel
theorem dX1_gives_52 : decode cX1_gives 52 = .ok (.iload 6, 2) := by decide +kernel
theorem dX1_gives_54 : decode cX1_gives 54 = .ok (.ifCond .lt 8, 3) := by decide +kernel
theorem dX1_gives_57 : decode cX1_gives 57 = .ok (.iload 6, 2) := by decide +kernel
theorem dX1_gives_59 : decode cX1_gives 59 = .ok (.goto 26, 3) := by decide +kernel
theorem dX1_gives_62 : decode cX1_gives 62 = .ok (.iload 6, 2) := by decide +kernel
theorem dX1_gives_64 : decode cX1_gives 64 = .ok (.bipush (-107), 2) := by decide +kernel
theorem dX1_gives_66 : decode cX1_gives 66 = .ok (.if_icmp .ne 7, 3) := by decide +kernel
theorem dX1_gives_69 : decode cX1_gives 69 = .ok (.iload_n 1, 1) := by decide +kernel
theorem dX1_gives_70 : decode cX1_gives 70 = .ok (.goto 15, 3) := by decide +kernel
theorem dX1_gives_73 : decode cX1_gives 73 = .ok (.iload 6, 2) := by decide +kernel
theorem dX1_gives_75 : decode cX1_gives 75 = .ok (.bipush (-118), 2) := by decide +kernel
theorem dX1_gives_77 : decode cX1_gives 77 = .ok (.if_icmp .ne 7, 3) := by decide +kernel
theorem dX1_gives_80 : decode cX1_gives 80 = .ok (.iload_n 2, 1) := by decide +kernel
theorem dX1_gives_81 : decode cX1_gives 81 = .ok (.goto 4, 3) := by decide +kernel
theorem dX1_gives_84 : decode cX1_gives 84 = .ok (.iload_n 3, 1) := by decide +kernel
theorem dX1_gives_85 : decode cX1_gives 85 = .ok (.iastore, 1) := by decide +kernel
theorem dX1_gives_86 : decode cX1_gives 86 = .ok (.iinc 4 1, 3) := by decide +kernel
theorem dX1_gives_89 : decode cX1_gives 89 = .ok (.goto 87, 3) := by decide +kernel
theorem dX1_gives_92 : decode cX1_gives 92 = .ok (.iload 6, 2) := by decide +kernel
theorem dX1_gives_94 : decode cX1_gives 94 = .ok (.bipush (-33), 2) := by decide +kernel
theorem dX1_gives_96 : decode cX1_gives 96 = .ok (.if_icmp .ne 38, 3) := by decide +kernel
theorem dX1_gives_99 : decode cX1_gives 99 = .ok (.iload 4, 2) := by decide +kernel
theorem dX1_gives_101 : decode cX1_gives 101 = .ok (.iconst 1, 1) := by decide +kernel
theorem dX1_gives_102 : decode cX1_gives 102 = .ok (.if_icmp .lt 32, 3) := by decide +kernel
theorem dX1_gives_105 : decode cX1_gives 105 = .ok (.aload_n 0, 1) := by decide +kernel
theorem dX1_gives_106 : decode cX1_gives 106 = .ok (.getfield 15, 3) := by decide +kernel
theorem dX1_gives_109 : decode cX1_gives 109 = .ok (.iload 4, 2) := by decide +kernel
theorem dX1_gives_111 : decode cX1_gives 111 = .ok (.iconst 1, 1) := by decide +kernel
theorem dX1_gives_112 : decode cX1_gives 112 = .ok (.isub, 1) := by decide +kernel
theorem dX1_gives_113 : decode cX1_gives 113 = .ok (.aload_n 0, 1) := by decide +kernel
theorem dX1_gives_114 : decode cX1_gives 114 = .ok (.getfield 15, 3) := by decide +kernel
theorem dX1_gives_117 : decode cX1_gives 117 = .ok (.iload 4, 2) := by decide +kernel
theorem dX1_gives_119 : decode cX1_gives 119 = .ok (.iconst 1, 1) := by decide +kernel
theorem dX1_gives_120 : decode cX1_gives 120 = .ok (.isub, 1) := by decide +kernel
theorem dX1_gives_121 : decode cX1_gives 121 = .ok (.iaload, 1) := by decide +kernel
theorem dX1_gives_122 : decode cX1_gives 122 = .ok (.ifCond .ne 7, 3) := by decide +kernel
theorem dX1_gives_125 : decode cX1_gives 125 = .ok (.iconst 1, 1) := by decide +kernel
theorem dX1_gives_126 : decode cX1_gives 126 = .ok (.goto 4, 3) := by decide +kernel
theorem dX1_gives_129 : decode cX1_gives 129 = .ok (.iconst 0, 1) := by decide +kernel
theorem dX1_gives_130 : decode cX1_gives 130 = .ok (.iastore, 1) := by decide +kernel
theorem dX1_gives_131 : decode cX1_gives 131 = .ok (.goto 45, 3) := by decide +kernel
theorem dX1_gives_134 : decode cX1_gives 134 = .ok (.iload 4, 2) := by decide +kernel
theorem dX1_gives_136 : decode cX1_gives 136 = .ok (.iconst 2, 1) := by decide +kernel
theorem dX1_gives_137 : decode cX1_gives 137 = .ok (.if_icmp .lt 39, 3) := by decide +kernel
theorem dX1_gives_140 : decode cX1_gives 140 = .ok (.aload_n 0, 1) := by decide +kernel
theorem dX1_gives_141 : decode cX1_gives 141 = .ok (.getfield 15, 3) := by decide +kernel
theorem dX1_gives_144 : decode cX1_gives 144 = .ok (.iload 4, 2) := by decide +kernel
theorem dX1_gives_146 : decode cX1_gives 146 = .ok (.iconst 2, 1) := by decide +kernel
theorem dX1_gives_147 : decode cX1_gives 147 = .ok (.isub, 1) := by decide +kernel
theorem dX1_gives_148 : decode cX1_gives 148 = .ok (.aload_n 0, 1) := by decide +kernel
theorem dX1_gives_149 : decode cX1_gives 149 = .ok (.getfield 15, 3) := by decide +kernel
theorem dX1_gives_152 : decode cX1_gives 152 = .ok (.iload 4, 2) := by decide +kernel
theorem dX1_gives_154 : decode cX1_gives 154 = .ok (.iconst 2, 1) := by decide +kernel
theorem dX1_gives_155 : decode cX1_gives 155 = .ok (.isub, 1) := by decide +kernel
theorem dX1_gives_156 : decode cX1_gives 156 = .ok (.iaload, 1) := by decide +kernel
theorem dX1_gives_157 : decode cX1_gives 157 = .ok (.iload 6, 2) := by decide +kernel
theorem dX1_gives_159 : decode cX1_gives 159 = .ok (.ineg, 1) := by decide +kernel
theorem dX1_gives_160 : decode cX1_gives 160 = .ok (.aload_n 0, 1) := by decide +kernel
theorem dX1_gives_161 : decode cX1_gives 161 = .ok (.getfield 15, 3) := by decide +kernel
theorem dX1_gives_164 : decode cX1_gives 164 = .ok (.iload 4, 2) := by decide +kernel
theorem dX1_gives_166 : decode cX1_gives 166 = .ok (.iconst 1, 1) := by decide +kernel
theorem dX1_gives_167 : decode cX1_gives 167 = .ok (.isub, 1) := by decide +kernel
theorem dX1_gives_168 : decode cX1_gives 168 = .ok (.iaload, 1) := by decide +kernel
theorem dX1_gives_169 : decode cX1_gives 169 = .ok (.invokestatic 42, 3) := by decide +kernel
theorem dX1_gives_172 : decode cX1_gives 172 = .ok (.iastore, 1) := by decide +kernel
theorem dX1_gives_173 : decode cX1_gives 173 = .ok (.iinc 4 (-1), 3) := by decide +kernel
theorem dX1_gives_176 : decode cX1_gives 176 = .ok (.iinc 5 1, 3) := by decide +kernel
theorem dX1_gives_179 : decode cX1_gives 179 = .ok (.goto (-173), 3) := by decide +kernel
theorem dX1_gives_182 : decode cX1_gives 182 = .ok (.iload 4, 2) := by decide +kernel
theorem dX1_gives_184 : decode cX1_gives 184 = .ok (.iconst 1, 1) := by decide +kernel
theorem dX1_gives_185 : decode cX1_gives 185 = .ok (.if_icmp .lt 12, 3) := by decide +kernel
theorem dX1_gives_188 : decode cX1_gives 188 = .ok (.aload_n 0, 1) := by decide +kernel
theorem dX1_gives_189 : decode cX1_gives 189 = .ok (.getfield 15, 3) := by decide +kernel
theorem dX1_gives_192 : decode cX1_gives 192 = .ok (.iconst 0, 1) := by decide +kernel
theorem dX1_gives_193 : decode cX1_gives 193 = .ok (.iaload, 1) := by decide +kernel
theorem dX1_gives_194 : decode cX1_gives 194 = .ok (.goto 28, 3) := by decide +kernel
theorem dX1_gives_197 : decode cX1_gives 197 = .ok (.aload_n 0, 1) := by decide +kernel
theorem dX1_gives_198 : decode cX1_gives 198 = .ok (.getfield 18, 3) := by decide +kernel
theorem dX1_gives_201 : decode cX1_gives 201 = .ok (.ifCond .eq 11, 3) := by decide +kernel
theorem dX1_gives_204 : decode cX1_gives 204 = .ok (.iconst 3, 1) := by decide +kernel
theorem dX1_gives_205 : decode cX1_gives 205 = .ok (.iload_n 1, 1) := by decide +kernel
theorem dX1_gives_206 : decode cX1_gives 206 = .ok (.iconst 2, 1) := by decide +kernel
theorem dX1_gives_207 : decode cX1_gives 207 = .ok (.imul, 1) := by decide +kernel
theorem dX1_gives_208 : decode cX1_gives 208 = .ok (.iadd, 1) := by decide +kernel
theorem dX1_gives_209 : decode cX1_gives 209 = .ok (.goto 13, 3) := by decide +kernel
theorem dX1_gives_212 : decode cX1_gives 212 = .ok (.iload_n 2, 1) := by decide +kernel
theorem dX1_gives_213 : decode cX1_gives 213 = .ok (.iconst 3, 1) := by decide +kernel
theorem dX1_gives_214 : decode cX1_gives 214 = .ok (.imul, 1) := by decide +kernel
theorem dX1_gives_215 : decode cX1_gives 215 = .ok (.bipush 30, 2) := by decide +kernel
theorem dX1_gives_217 : decode cX1_gives 217 = .ok (.iadd, 1) := by decide +kernel
theorem dX1_gives_218 : decode cX1_gives 218 = .ok (.iload_n 1, 1) := by decide +kernel
theorem dX1_gives_219 : decode cX1_gives 219 = .ok (.iconst 2, 1) := by decide +kernel
theorem dX1_gives_220 : decode cX1_gives 220 = .ok (.imul, 1) := by decide +kernel
theorem dX1_gives_221 : decode cX1_gives 221 = .ok (.isub, 1) := by decide +kernel
theorem dX1_gives_222 : decode cX1_gives 222 = .ok (.istore 5, 2) := by decide +kernel
theorem dX1_gives_224 : decode cX1_gives 224 = .ok (.aload_n 0, 1) := by decide +kernel
theorem dX1_gives_225 : decode cX1_gives 225 = .ok (.getfield 22, 3) := by decide +kernel
theorem dX1_gives_228 : decode cX1_gives 228 = .ok (.aload_n 0, 1) := by decide +kernel
theorem dX1_gives_229 : decode cX1_gives 229 = .ok (.getfield 26, 3) := by decide +kernel
theorem dX1_gives_232 : decode cX1_gives 232 = .ok (.iload 5, 2) := by decide +kernel
theorem dX1_gives_234 : decode cX1_gives 234 = .ok (.invokestatic 29, 3) := by decide +kernel
theorem dX1_gives_237 : decode cX1_gives 237 = .ok (.invokestatic 46, 3) := by decide +kernel
theorem dX1_gives_240 : decode cX1_gives 240 = .ok (.ireturn, 1) := by decide +kernel
theorem dX1_isPart_0 : decode cX1_isPart 0 = .ok (.iload_n 0, 1) := by decide +kernel
theorem dX1_isPart_1 : decode cX1_isPart 1 = .ok (.ifCond .ge 21, 3) := by decide +kernel
theorem dX1_isPart_4 : decode cX1_isPart 4 = .ok (.iload_n 0, 1) := by decide +kernel
theorem dX1_isPart_5 : decode cX1_isPart 5 = .ok (.bipush (-107), 2) := by decide +kernel
theorem dX1_isPart_7 : decode cX1_isPart 7 = .ok (.if_icmp .eq 15, 3) := by decide +kernel
theorem dX1_isPart_10 : decode cX1_isPart 10 = .ok (.iload_n 0, 1) := by decide +kernel
theorem dX1_isPart_11 : decode cX1_isPart 11 = .ok (.bipush (-118), 2) := by decide +kernel
theorem dX1_isPart_13 : decode cX1_isPart 13 = .ok (.if_icmp .eq 9, 3) := by decide +kernel
theorem dX1_isPart_16 : decode cX1_isPart 16 = .ok (.iload_n 0, 1) := by decide +kernel
theorem dX1_isPart_17 : decode cX1_isPart 17 = .ok (.bipush (-109), 2) := by decide +kernel
theorem dX1_isPart_19 : decode cX1_isPart 19 = .ok (.if_icmp .ne 7, 3) := by decide +kernel
theorem dX1_isPart_22 : decode cX1_isPart 22 = .ok (.iconst 1, 1) := by decide +kernel
theorem dX1_isPart_23 : decode cX1_isPart 23 = .ok (.goto 4, 3) := by decide +kernel
theorem dX1_isPart_26 : decode cX1_isPart 26 = .ok (.iconst 0, 1) := by decide +kernel
theorem dX1_isPart_27 : decode cX1_isPart 27 = .ok (.ireturn, 1) := by decide +kernel
theorem dX1_joined_0 : decode cX1_joined 0 = .ok (.iload_n 1, 1) := by decide +kernel
theorem dX1_joined_1 : decode cX1_joined 1 = .ok (.lookupswitch 168 #[(38, 97), (42, 152), (43, 144), (45, 148), (47, 156), (60, 111), (61, 122), (62, 133), (124, 83)], 83) := by decide +kernel
theorem dX1_joined_84 : decode cX1_joined 84 = .ok (.iload_n 0, 1) := by decide +kernel
theorem dX1_joined_85 : decode cX1_joined 85 = .ok (.ifCond .ne 7, 3) := by decide +kernel
theorem dX1_joined_88 : decode cX1_joined 88 = .ok (.iload_n 2, 1) := by decide +kernel
theorem dX1_joined_89 : decode cX1_joined 89 = .ok (.ifCond .eq 7, 3) := by decide +kernel
theorem dX1_joined_92 : decode cX1_joined 92 = .ok (.iconst 1, 1) := by decide +kernel
theorem dX1_joined_93 : decode cX1_joined 93 = .ok (.goto 4, 3) := by decide +kernel
theorem dX1_joined_96 : decode cX1_joined 96 = .ok (.iconst 0, 1) := by decide +kernel
theorem dX1_joined_97 : decode cX1_joined 97 = .ok (.ireturn, 1) := by decide +kernel
theorem dX1_joined_98 : decode cX1_joined 98 = .ok (.iload_n 0, 1) := by decide +kernel
theorem dX1_joined_99 : decode cX1_joined 99 = .ok (.ifCond .eq 11, 3) := by decide +kernel
theorem dX1_joined_102 : decode cX1_joined 102 = .ok (.iload_n 2, 1) := by decide +kernel
theorem dX1_joined_103 : decode cX1_joined 103 = .ok (.ifCond .eq 7, 3) := by decide +kernel
theorem dX1_joined_106 : decode cX1_joined 106 = .ok (.iconst 1, 1) := by decide +kernel
theorem dX1_joined_107 : decode cX1_joined 107 = .ok (.goto 4, 3) := by decide +kernel
theorem dX1_joined_110 : decode cX1_joined 110 = .ok (.iconst 0, 1) := by decide +kernel
theorem dX1_joined_111 : decode cX1_joined 111 = .ok (.ireturn, 1) := by decide +kernel
theorem dX1_joined_112 : decode cX1_joined 112 = .ok (.iload_n 0, 1) := by decide +kernel
theorem dX1_joined_113 : decode cX1_joined 113 = .ok (.iload_n 2, 1) := by decide +kernel
theorem dX1_joined_114 : decode cX1_joined 114 = .ok (.if_icmp .ge 7, 3) := by decide +kernel
theorem dX1_joined_117 : decode cX1_joined 117 = .ok (.iconst 1, 1) := by decide +kernel
theorem dX1_joined_118 : decode cX1_joined 118 = .ok (.goto 4, 3) := by decide +kernel
theorem dX1_joined_121 : decode cX1_joined 121 = .ok (.iconst 0, 1) := by decide +kernel
theorem dX1_joined_122 : decode cX1_joined 122 = .ok (.ireturn, 1) := by decide +kernel
theorem dX1_joined_123 : decode cX1_joined 123 = .ok (.iload_n 0, 1) := by decide +kernel
theorem dX1_joined_124 : decode cX1_joined 124 = .ok (.iload_n 2, 1) := by decide +kernel
theorem dX1_joined_125 : decode cX1_joined 125 = .ok (.if_icmp .ne 7, 3) := by decide +kernel
theorem dX1_joined_128 : decode cX1_joined 128 = .ok (.iconst 1, 1) := by decide +kernel
theorem dX1_joined_129 : decode cX1_joined 129 = .ok (.goto 4, 3) := by decide +kernel
theorem dX1_joined_132 : decode cX1_joined 132 = .ok (.iconst 0, 1) := by decide +kernel
theorem dX1_joined_133 : decode cX1_joined 133 = .ok (.ireturn, 1) := by decide +kernel
theorem dX1_joined_134 : decode cX1_joined 134 = .ok (.iload_n 0, 1) := by decide +kernel
theorem dX1_joined_135 : decode cX1_joined 135 = .ok (.iload_n 2, 1) := by decide +kernel
theorem dX1_joined_136 : decode cX1_joined 136 = .ok (.if_icmp .le 7, 3) := by decide +kernel
theorem dX1_joined_139 : decode cX1_joined 139 = .ok (.iconst 1, 1) := by decide +kernel
theorem dX1_joined_140 : decode cX1_joined 140 = .ok (.goto 4, 3) := by decide +kernel
theorem dX1_joined_143 : decode cX1_joined 143 = .ok (.iconst 0, 1) := by decide +kernel
theorem dX1_joined_144 : decode cX1_joined 144 = .ok (.ireturn, 1) := by decide +kernel
theorem dX1_joined_145 : decode cX1_joined 145 = .ok (.iload_n 0, 1) := by decide +kernel
theorem dX1_joined_146 : decode cX1_joined 146 = .ok (.iload_n 2, 1) := by decide +kernel
theorem dX1_joined_147 : decode cX1_joined 147 = .ok (.iadd, 1) := by decide +kernel
theorem dX1_joined_148 : decode cX1_joined 148 = .ok (.ireturn, 1) := by decide +kernel
theorem dX1_joined_149 : decode cX1_joined 149 = .ok (.iload_n 0, 1) := by decide +kernel
theorem dX1_joined_150 : decode cX1_joined 150 = .ok (.iload_n 2, 1) := by decide +kernel
theorem dX1_joined_151 : decode cX1_joined 151 = .ok (.isub, 1) := by decide +kernel
theorem dX1_joined_152 : decode cX1_joined 152 = .ok (.ireturn, 1) := by decide +kernel
theorem dX1_joined_153 : decode cX1_joined 153 = .ok (.iload_n 0, 1) := by decide +kernel
theorem dX1_joined_154 : decode cX1_joined 154 = .ok (.iload_n 2, 1) := by decide +kernel
theorem dX1_joined_155 : decode cX1_joined 155 = .ok (.imul, 1) := by decide +kernel
theorem dX1_joined_156 : decode cX1_joined 156 = .ok (.ireturn, 1) := by decide +kernel
theorem dX1_joined_157 : decode cX1_joined 157 = .ok (.iload_n 2, 1) := by decide +kernel
theorem dX1_joined_158 : decode cX1_joined 158 = .ok (.ifCond .ne 7, 3) := by decide +kernel
theorem dX1_joined_161 : decode cX1_joined 161 = .ok (.iconst 0, 1) := by decide +kernel
theorem dX1_joined_162 : decode cX1_joined 162 = .ok (.goto 6, 3) := by decide +kernel
theorem dX1_joined_165 : decode cX1_joined 165 = .ok (.iload_n 0, 1) := by decide +kernel
theorem dX1_joined_166 : decode cX1_joined 166 = .ok (.iload_n 2, 1) := by decide +kernel
theorem dX1_joined_167 : decode cX1_joined 167 = .ok (.idiv, 1) := by decide +kernel
theorem dX1_joined_168 : decode cX1_joined 168 = .ok (.ireturn, 1) := by decide +kernel
theorem dX1_joined_169 : decode cX1_joined 169 = .ok (.iload_n 2, 1) := by decide +kernel
theorem dX1_joined_170 : decode cX1_joined 170 = .ok (.ifCond .ne 7, 3) := by decide +kernel
theorem dX1_joined_173 : decode cX1_joined 173 = .ok (.iconst 0, 1) := by decide +kernel
theorem dX1_joined_174 : decode cX1_joined 174 = .ok (.goto 6, 3) := by decide +kernel
theorem dX1_joined_177 : decode cX1_joined 177 = .ok (.iload_n 0, 1) := by decide +kernel
theorem dX1_joined_178 : decode cX1_joined 178 = .ok (.iload_n 2, 1) := by decide +kernel
theorem dX1_joined_179 : decode cX1_joined 179 = .ok (.irem, 1) := by decide +kernel
theorem dX1_joined_180 : decode cX1_joined 180 = .ok (.ireturn, 1) := by decide +kernel
theorem dX1_copy_0 : decode cX1_copy 0 = .ok (.aload_n 0, 1) := by decide +kernel
theorem dX1_copy_1 : decode cX1_copy 1 = .ok (.aload_n 1, 1) := by decide +kernel
theorem dX1_copy_2 : decode cX1_copy 2 = .ok (.getfield 9, 3) := by decide +kernel
theorem dX1_copy_5 : decode cX1_copy 5 = .ok (.aload_n 1, 1) := by decide +kernel
theorem dX1_copy_6 : decode cX1_copy 6 = .ok (.getfield 35, 3) := by decide +kernel
theorem dX1_copy_9 : decode cX1_copy 9 = .ok (.invokevirtual 49, 3) := by decide +kernel
theorem dX1_copy_12 : decode cX1_copy 12 = .ok (.return_, 1) := by decide +kernel
theorem dX2_init_0 : decode cX2_init 0 = .ok (.aload_n 0, 1) := by decide +kernel
theorem dX2_init_1 : decode cX2_init 1 = .ok (.invokespecial 3, 3) := by decide +kernel
theorem dX2_init_4 : decode cX2_init 4 = .ok (.aload_n 0, 1) := by decide +kernel
theorem dX2_init_5 : decode cX2_init 5 = .ok (.bipush 50, 2) := by decide +kernel
theorem dX2_init_7 : decode cX2_init 7 = .ok (.newarray .int, 2) := by decide +kernel
theorem dX2_init_9 : decode cX2_init 9 = .ok (.putfield 9, 3) := by decide +kernel
theorem dX2_init_12 : decode cX2_init 12 = .ok (.aload_n 0, 1) := by decide +kernel
theorem dX2_init_13 : decode cX2_init 13 = .ok (.aload_n 1, 1) := by decide +kernel
theorem dX2_init_14 : decode cX2_init 14 = .ok (.putfield 15, 3) := by decide +kernel
theorem dX2_init_17 : decode cX2_init 17 = .ok (.return_, 1) := by decide +kernel
theorem dX2_readTape_0 : decode cX2_readTape 0 = .ok (.aload_n 0, 1) := by decide +kernel
theorem dX2_readTape_1 : decode cX2_readTape 1 = .ok (.iconst 0, 1) := by decide +kernel
theorem dX2_readTape_2 : decode cX2_readTape 2 = .ok (.putfield 19, 3) := by decide +kernel
theorem dX2_readTape_5 : decode cX2_readTape 5 = .ok (.aload_n 0, 1) := by decide +kernel
theorem dX2_readTape_6 : decode cX2_readTape 6 = .ok (.iconst 0, 1) := by decide +kernel
theorem dX2_readTape_7 : decode cX2_readTape 7 = .ok (.putfield 23, 3) := by decide +kernel
theorem dX2_readTape_10 : decode cX2_readTape 10 = .ok (.aload_n 0, 1) := by decide +kernel
theorem dX2_readTape_11 : decode cX2_readTape 11 = .ok (.iconst 0, 1) := by decide +kernel
theorem dX2_readTape_12 : decode cX2_readTape 12 = .ok (.putfield 26, 3) := by decide +kernel
theorem dX2_readTape_15 : decode cX2_readTape 15 = .ok (.aload_n 0, 1) := by decide +kernel
theorem dX2_readTape_16 : decode cX2_readTape 16 = .ok (.iconst 0, 1) := by decide +kernel
theorem dX2_readTape_17 : decode cX2_readTape 17 = .ok (.iconst 0, 1) := by decide +kernel
theorem dX2_readTape_18 : decode cX2_readTape 18 = .ok (.invokevirtual 30, 3) := by decide +kernel
theorem dX2_readTape_21 : decode cX2_readTape 21 = .ok (.aload_n 0, 1) := by decide +kernel
theorem dX2_readTape_22 : decode cX2_readTape 22 = .ok (.getfield 26, 3) := by decide +kernel
theorem dX2_readTape_25 : decode cX2_readTape 25 = .ok (.ifCond .ne 11, 3) := by decide +kernel
theorem dX2_readTape_28 : decode cX2_readTape 28 = .ok (.aload_n 0, 1) := by decide +kernel
theorem dX2_readTape_29 : decode cX2_readTape 29 = .ok (.invokevirtual 34, 3) := by decide +kernel
theorem dX2_readTape_32 : decode cX2_readTape 32 = .ok (.iconst (-1), 1) := by decide +kernel
theorem dX2_readTape_33 : decode cX2_readTape 33 = .ok (.if_icmp .eq 10, 3) := by decide +kernel
theorem dX2_readTape_36 : decode cX2_readTape 36 = .ok (.aload_n 0, 1) := by decide +kernel
theorem dX2_readTape_37 : decode cX2_readTape 37 = .ok (.getfield 23, 3) := by decide +kernel
theorem dX2_readTape_40 : decode cX2_readTape 40 = .ok (.goto 4, 3) := by decide +kernel
theorem dX2_readTape_43 : decode cX2_readTape 43 = .ok (.iconst (-1), 1) := by decide +kernel
theorem dX2_readTape_44 : decode cX2_readTape 44 = .ok (.ireturn, 1) := by decide +kernel
theorem dX2_next_0 : decode cX2_next 0 = .ok (.aload_n 0, 1) := by decide +kernel
theorem dX2_next_1 : decode cX2_next 1 = .ok (.getfield 23, 3) := by decide +kernel
theorem dX2_next_4 : decode cX2_next 4 = .ok (.ifCond .lt 41, 3) := by decide +kernel
theorem dX2_next_7 : decode cX2_next 7 = .ok (.aload_n 0, 1) := by decide +kernel
theorem dX2_next_8 : decode cX2_next 8 = .ok (.getfield 23, 3) := by decide +kernel
theorem dX2_next_11 : decode cX2_next 11 = .ok (.bipush 50, 2) := by decide +kernel
theorem dX2_next_13 : decode cX2_next 13 = .ok (.if_icmp .ge 32, 3) := by decide +kernel
theorem dX2_next_16 : decode cX2_next 16 = .ok (.aload_n 0, 1) := by decide +kernel
theorem dX2_next_17 : decode cX2_next 17 = .ok (.getfield 23, 3) := by decide +kernel
theorem dX2_next_20 : decode cX2_next 20 = .ok (.aload_n 0, 1) := by decide +kernel
theorem dX2_next_21 : decode cX2_next 21 = .ok (.getfield 15, 3) := by decide +kernel
theorem dX2_next_24 : decode cX2_next 24 = .ok (.getfield 38, 3) := by decide +kernel
theorem dX2_next_27 : decode cX2_next 27 = .ok (.if_icmp .ge 18, 3) := by decide +kernel
theorem dX2_next_30 : decode cX2_next 30 = .ok (.aload_n 0, 1) := by decide +kernel
theorem dX2_next_31 : decode cX2_next 31 = .ok (.getfield 15, 3) := by decide +kernel
theorem dX2_next_34 : decode cX2_next 34 = .ok (.getfield 43, 3) := by decide +kernel
theorem dX2_next_37 : decode cX2_next 37 = .ok (.aload_n 0, 1) := by decide +kernel
theorem dX2_next_38 : decode cX2_next 38 = .ok (.getfield 23, 3) := by decide +kernel
theorem dX2_next_41 : decode cX2_next 41 = .ok (.iaload, 1) := by decide +kernel
theorem dX2_next_42 : decode cX2_next 42 = .ok (.goto 4, 3) := by decide +kernel
theorem dX2_next_45 : decode cX2_next 45 = .ok (.iconst (-1), 1) := by decide +kernel
theorem dX2_next_46 : decode cX2_next 46 = .ok (.ireturn, 1) := by decide +kernel
theorem dX2_addStep_0 : decode cX2_addStep 0 = .ok (.aload_n 0, 1) := by decide +kernel
theorem dX2_addStep_1 : decode cX2_addStep 1 = .ok (.getfield 19, 3) := by decide +kernel
theorem dX2_addStep_4 : decode cX2_addStep 4 = .ok (.bipush 50, 2) := by decide +kernel
theorem dX2_addStep_6 : decode cX2_addStep 6 = .ok (.if_icmp .ge 23, 3) := by decide +kernel
theorem dX2_addStep_9 : decode cX2_addStep 9 = .ok (.aload_n 0, 1) := by decide +kernel
theorem dX2_addStep_10 : decode cX2_addStep 10 = .ok (.getfield 9, 3) := by decide +kernel
theorem dX2_addStep_13 : decode cX2_addStep 13 = .ok (.aload_n 0, 1) := by decide +kernel
theorem dX2_addStep_14 : decode cX2_addStep 14 = .ok (.getfield 19, 3) := by decide +kernel
theorem dX2_addStep_17 : decode cX2_addStep 17 = .ok (.iload_n 1, 1) := by decide +kernel
theorem dX2_addStep_18 : decode cX2_addStep 18 = .ok (.iastore, 1) := by decide +kernel
theorem dX2_addStep_19 : decode cX2_addStep 19 = .ok (.aload_n 0, 1) := by decide +kernel
theorem dX2_addStep_20 : decode cX2_addStep 20 = .ok (.dup, 1) := by decide +kernel
theorem dX2_addStep_21 : decode cX2_addStep 21 = .ok (.getfield 19, 3) := by decide +kernel
theorem dX2_addStep_24 : decode cX2_addStep 24 = .ok (.iconst 1, 1) := by decide +kernel
theorem dX2_addStep_25 : decode cX2_addStep 25 = .ok (.iadd, 1) := by decide +kernel
theorem dX2_addStep_26 : decode cX2_addStep 26 = .ok (.putfield 19, 3) := by decide +kernel
theorem dX2_addStep_29 : decode cX2_addStep 29 = .ok (.return_, 1) := by decide +kernel
theorem dX2_readLevel_0 : decode cX2_readLevel 0 = .ok (.iload_n 1, 1) := by decide +kernel
theorem dX2_readLevel_1 : decode cX2_readLevel 1 = .ok (.iconst 4, 1) := by decide +kernel
theorem dX2_readLevel_2 : decode cX2_readLevel 2 = .ok (.if_icmp .gt 8, 3) := by decide +kernel
theorem dX2_readLevel_5 : decode cX2_readLevel 5 = .ok (.iload_n 2, 1) := by decide +kernel
theorem dX2_readLevel_6 : decode cX2_readLevel 6 = .ok (.iconst 5, 1) := by decide +kernel
theorem dX2_readLevel_7 : decode cX2_readLevel 7 = .ok (.if_icmp .le 9, 3) := by decide +kernel
theorem dX2_readLevel_10 : decode cX2_readLevel 10 = .ok (.aload_n 0, 1) := by decide +kernel
theorem dX2_readLevel_11 : decode cX2_readLevel 11 = .ok (.iload_n 2, 1) := by decide +kernel
theorem dX2_readLevel_12 : decode cX2_readLevel 12 = .ok (.invokevirtual 46, 3) := by decide +kernel
theorem dX2_readLevel_15 : decode cX2_readLevel 15 = .ok (.return_, 1) := by decide +kernel
theorem dX2_readLevel_16 : decode cX2_readLevel 16 = .ok (.aload_n 0, 1) := by decide +kernel
theorem dX2_readLevel_17 : decode cX2_readLevel 17 = .ok (.iload_n 1, 1) := by decide +kernel
theorem dX2_readLevel_18 : decode cX2_readLevel 18 = .ok (.iconst 1, 1) := by decide +kernel
theorem dX2_readLevel_19 : decode cX2_readLevel 19 = .ok (.iadd, 1) := by decide +kernel
theorem dX2_readLevel_20 : decode cX2_readLevel 20 = .ok (.iload_n 2, 1) := by decide +kernel
theorem dX2_readLevel_21 : decode cX2_readLevel 21 = .ok (.invokevirtual 30, 3) := by decide +kernel
theorem dX2_readLevel_24 : decode cX2_readLevel 24 = .ok (.iload_n 1, 1) := by decide +kernel
theorem dX2_readLevel_25 : decode cX2_readLevel 25 = .ok (.iconst 2, 1) := by decide +kernel
theorem dX2_readLevel_26 : decode cX2_readLevel 26 = .ok (.if_icmp .ne 7, 3) := by decide +kernel
theorem dX2_readLevel_29 : decode cX2_readLevel 29 = .ok (.iconst 1, 1) := by decide +kernel
theorem dX2_readLevel_30 : decode cX2_readLevel 30 = .ok (.goto 5, 3) := by decide +kernel
theorem dX2_readLevel_33 : decode cX2_readLevel 33 = .ok (.bipush 50, 2) := by decide +kernel
theorem dX2_readLevel_35 : decode cX2_readLevel 35 = .ok (.istore_n 3, 1) := by decide +kernel
theorem dX2_readLevel_36 : decode cX2_readLevel 36 = .ok (.iconst 0, 1) := by decide +kernel
theorem dX2_readLevel_37 : decode cX2_readLevel 37 = .ok (.istore 4, 2) := by decide +kernel
theorem dX2_readLevel_39 : decode cX2_readLevel 39 = .ok (.iload 4, 2) := by decide +kernel
theorem dX2_readLevel_41 : decode cX2_readLevel 41 = .ok (.iload_n 3, 1) := by decide +kernel
theorem dX2_readLevel_42 : decode cX2_readLevel 42 = .ok (.if_icmp .ge 58, 3) := by decide +kernel
theorem dX2_readLevel_45 : decode cX2_readLevel 45 = .ok (.aload_n 0, 1) := by decide +kernel
theorem dX2_readLevel_46 : decode cX2_readLevel 46 = .ok (.getfield 26, 3) := by decide +kernel
theorem dX2_readLevel_49 : decode cX2_readLevel 49 = .ok (.ifCond .ne 51, 3) := by decide +kernel
theorem dX2_readLevel_52 : decode cX2_readLevel 52 = .ok (.aload_n 0, 1) := by decide +kernel
theorem dX2_readLevel_53 : decode cX2_readLevel 53 = .ok (.invokevirtual 34, 3) := by decide +kernel
theorem dX2_readLevel_56 : decode cX2_readLevel 56 = .ok (.invokestatic 50, 3) := by decide +kernel
theorem dX2_readLevel_59 : decode cX2_readLevel 59 = .ok (.iload_n 1, 1) := by decide +kernel
theorem dX2_readLevel_60 : decode cX2_readLevel 60 = .ok (.if_icmp .ne 40, 3) := by decide +kernel
theorem dX2_readLevel_63 : decode cX2_readLevel 63 = .ok (.aload_n 0, 1) := by decide +kernel
theorem dX2_readLevel_64 : decode cX2_readLevel 64 = .ok (.invokevirtual 34, 3) := by decide +kernel
theorem dX2_readLevel_67 : decode cX2_readLevel 67 = .ok (.istore 5, 2) := by decide +kernel
theorem dX2_readLevel_69 : decode cX2_readLevel 69 = .ok (.aload_n 0, 1) := by decide +kernel
theorem dX2_readLevel_70 : decode cX2_readLevel 70 = .ok (.dup, 1) := by decide +kernel
theorem dX2_readLevel_71 : decode cX2_readLevel 71 = .ok (.getfield 23, 3) := by decide +kernel
theorem dX2_readLevel_74 : decode cX2_readLevel 74 = .ok (.iconst 1, 1) := by decide +kernel
theorem dX2_readLevel_75 : decode cX2_readLevel 75 = .ok (.iadd, 1) := by decide +kernel
theorem dX2_readLevel_76 : decode cX2_readLevel 76 = .ok (.putfield 23, 3) := by decide +kernel
theorem dX2_readLevel_79 : decode cX2_readLevel 79 = .ok (.aload_n 0, 1) := by decide +kernel
theorem dX2_readLevel_80 : decode cX2_readLevel 80 = .ok (.iload_n 1, 1) := by decide +kernel
theorem dX2_readLevel_81 : decode cX2_readLevel 81 = .ok (.iconst 1, 1) := by decide +kernel
theorem dX2_readLevel_82 : decode cX2_readLevel 82 = .ok (.iadd, 1) := by decide +kernel
theorem dX2_readLevel_83 : decode cX2_readLevel 83 = .ok (.iload_n 2, 1) := by decide +kernel
theorem dX2_readLevel_84 : decode cX2_readLevel 84 = .ok (.invokevirtual 30, 3) := by decide +kernel
theorem dX2_readLevel_87 : decode cX2_readLevel 87 = .ok (.aload_n 0, 1) := by decide +kernel
theorem dX2_readLevel_88 : decode cX2_readLevel 88 = .ok (.iload 5, 2) := by decide +kernel
theorem dX2_readLevel_90 : decode cX2_readLevel 90 = .ok (.ineg, 1) := by decide +kernel
theorem dX2_readLevel_91 : decode cX2_readLevel 91 = .ok (.invokevirtual 54, 3) := by decide +kernel
theorem dX2_readLevel_94 : decode cX2_readLevel 94 = .ok (.iinc 4 1, 3) := by decide +kernel
theorem dX2_readLevel_97 : decode cX2_readLevel 97 = .ok (.goto (-58), 3) := by decide +kernel
theorem dX2_readLevel_100 : decode cX2_readLevel 100 = .ok (.return_, 1) := by decide +kernel
theorem dX2_levelOf_0 : decode cX2_levelOf 0 = .ok (.iload_n 0, 1) := by decide +kernel
theorem dX2_levelOf_1 : decode cX2_levelOf 1 = .ok (.lookupswitch 101 #[(37, 99), (38, 93), (42, 99), (43, 97), (45, 97), (47, 99), (60, 95), (61, 95), (62, 95), (124, 91)], 91) := by decide +kernel
theorem dX2_levelOf_92 : decode cX2_levelOf 92 = .ok (.iconst 0, 1) := by decide +kernel
theorem dX2_levelOf_93 : decode cX2_levelOf 93 = .ok (.ireturn, 1) := by decide +kernel
theorem dX2_levelOf_94 : decode cX2_levelOf 94 = .ok (.iconst 1, 1) := by decide +kernel
theorem dX2_levelOf_95 : decode cX2_levelOf 95 = .ok (.ireturn, 1) := by decide +kernel
theorem dX2_levelOf_96 : decode cX2_levelOf 96 = .ok (.iconst 2, 1) := by decide +kernel
theorem dX2_levelOf_97 : decode cX2_levelOf 97 = .ok (.ireturn, 1) := by decide +kernel
theorem dX2_levelOf_98 : decode cX2_levelOf 98 = .ok (.iconst 3, 1) := by decide +kernel
theorem dX2_levelOf_99 : decode cX2_levelOf 99 = .ok (.ireturn, 1) := by decide +kernel
theorem dX2_levelOf_100 : decode cX2_levelOf 100 = .ok (.iconst 4, 1) := by decide +kernel
theorem dX2_levelOf_101 : decode cX2_levelOf 101 = .ok (.ireturn, 1) := by decide +kernel
theorem dX2_levelOf_102 : decode cX2_levelOf 102 = .ok (.iconst (-1), 1) := by decide +kernel
theorem dX2_levelOf_103 : decode cX2_levelOf 103 = .ok (.ireturn, 1) := by decide +kernel
theorem dX2_readPart_0 : decode cX2_readPart 0 = .ok (.aload_n 0, 1) := by decide +kernel
theorem dX2_readPart_1 : decode cX2_readPart 1 = .ok (.invokevirtual 34, 3) := by decide +kernel
theorem dX2_readPart_4 : decode cX2_readPart 4 = .ok (.istore_n 2, 1) := by decide +kernel
theorem dX2_readPart_5 : decode cX2_readPart 5 = .ok (.iload_n 2, 1) := by decide +kernel
theorem dX2_readPart_6 : decode cX2_readPart 6 = .ok (.invokestatic 57, 3) := by decide +kernel
theorem dX2_readPart_9 : decode cX2_readPart 9 = .ok (.ifCond .eq 10, 3) := by decide +kernel
theorem dX2_readPart_12 : decode cX2_readPart 12 = .ok (.aload_n 0, 1) := by decide +kernel
theorem dX2_readPart_13 : decode cX2_readPart 13 = .ok (.invokevirtual 61, 3) := by decide +kernel
theorem dX2_readPart_16 : decode cX2_readPart 16 = .ok (.goto 160, 3) := by decide +kernel
theorem dX2_readPart_19 : decode cX2_readPart 19 = .ok (.iload_n 2, 1) := by decide +kernel
theorem dX2_readPart_20 : decode cX2_readPart 20 = .ok (.bipush 107, 2) := by decide +kernel
theorem dX2_readPart_22 : decode cX2_readPart 22 = .ok (.if_icmp .eq 15, 3) := by decide +kernel
theorem dX2_readPart_25 : decode cX2_readPart 25 = .ok (.iload_n 2, 1) := by decide +kernel
theorem dX2_readPart_26 : decode cX2_readPart 26 = .ok (.bipush 118, 2) := by decide +kernel
theorem dX2_readPart_28 : decode cX2_readPart 28 = .ok (.if_icmp .eq 9, 3) := by decide +kernel
theorem dX2_readPart_31 : decode cX2_readPart 31 = .ok (.iload_n 2, 1) := by decide +kernel
theorem dX2_readPart_32 : decode cX2_readPart 32 = .ok (.bipush 109, 2) := by decide +kernel
theorem dX2_readPart_34 : decode cX2_readPart 34 = .ok (.if_icmp .ne 22, 3) := by decide +kernel
theorem dX2_readPart_37 : decode cX2_readPart 37 = .ok (.aload_n 0, 1) := by decide +kernel
theorem dX2_readPart_38 : decode cX2_readPart 38 = .ok (.dup, 1) := by decide +kernel
theorem dX2_readPart_39 : decode cX2_readPart 39 = .ok (.getfield 23, 3) := by decide +kernel
theorem dX2_readPart_42 : decode cX2_readPart 42 = .ok (.iconst 1, 1) := by decide +kernel
theorem dX2_readPart_43 : decode cX2_readPart 43 = .ok (.iadd, 1) := by decide +kernel
theorem dX2_readPart_44 : decode cX2_readPart 44 = .ok (.putfield 23, 3) := by decide +kernel
theorem dX2_readPart_47 : decode cX2_readPart 47 = .ok (.aload_n 0, 1) := by decide +kernel
theorem dX2_readPart_48 : decode cX2_readPart 48 = .ok (.iload_n 2, 1) := by decide +kernel
theorem dX2_readPart_49 : decode cX2_readPart 49 = .ok (.ineg, 1) := by decide +kernel
theorem dX2_readPart_50 : decode cX2_readPart 50 = .ok (.invokevirtual 54, 3) := by decide +kernel
theorem dX2_readPart_53 : decode cX2_readPart 53 = .ok (.goto 123, 3) := by decide +kernel
theorem dX2_readPart_56 : decode cX2_readPart 56 = .ok (.iload_n 2, 1) := by decide +kernel
theorem dX2_readPart_57 : decode cX2_readPart 57 = .ok (.bipush 33, 2) := by decide +kernel
theorem dX2_readPart_59 : decode cX2_readPart 59 = .ok (.if_icmp .ne 34, 3) := by decide +kernel
theorem dX2_readPart_62 : decode cX2_readPart 62 = .ok (.iload_n 1, 1) := by decide +kernel
theorem dX2_readPart_63 : decode cX2_readPart 63 = .ok (.iconst 5, 1) := by decide +kernel
theorem dX2_readPart_64 : decode cX2_readPart 64 = .ok (.if_icmp .ge 29, 3) := by decide +kernel
theorem dX2_readPart_67 : decode cX2_readPart 67 = .ok (.aload_n 0, 1) := by decide +kernel
theorem dX2_readPart_68 : decode cX2_readPart 68 = .ok (.dup, 1) := by decide +kernel
theorem dX2_readPart_69 : decode cX2_readPart 69 = .ok (.getfield 23, 3) := by decide +kernel
theorem dX2_readPart_72 : decode cX2_readPart 72 = .ok (.iconst 1, 1) := by decide +kernel
theorem dX2_readPart_73 : decode cX2_readPart 73 = .ok (.iadd, 1) := by decide +kernel
theorem dX2_readPart_74 : decode cX2_readPart 74 = .ok (.putfield 23, 3) := by decide +kernel
theorem dX2_readPart_77 : decode cX2_readPart 77 = .ok (.aload_n 0, 1) := by decide +kernel
theorem dX2_readPart_78 : decode cX2_readPart 78 = .ok (.iload_n 1, 1) := by decide +kernel
theorem dX2_readPart_79 : decode cX2_readPart 79 = .ok (.iconst 1, 1) := by decide +kernel
theorem dX2_readPart_80 : decode cX2_readPart 80 = .ok (.iadd, 1) := by decide +kernel
theorem dX2_readPart_81 : decode cX2_readPart 81 = .ok (.invokevirtual 46, 3) := by decide +kernel
theorem dX2_readPart_84 : decode cX2_readPart 84 = .ok (.aload_n 0, 1) := by decide +kernel
theorem dX2_readPart_85 : decode cX2_readPart 85 = .ok (.iload_n 2, 1) := by decide +kernel
theorem dX2_readPart_86 : decode cX2_readPart 86 = .ok (.ineg, 1) := by decide +kernel
theorem dX2_readPart_87 : decode cX2_readPart 87 = .ok (.invokevirtual 54, 3) := by decide +kernel
theorem dX2_readPart_90 : decode cX2_readPart 90 = .ok (.goto 86, 3) := by decide +kernel
theorem dX2_readPart_93 : decode cX2_readPart 93 = .ok (.iload_n 2, 1) := by decide +kernel
theorem dX2_readPart_94 : decode cX2_readPart 94 = .ok (.bipush 40, 2) := by decide +kernel
theorem dX2_readPart_96 : decode cX2_readPart 96 = .ok (.if_icmp .ne 75, 3) := by decide +kernel
theorem dX2_readPart_99 : decode cX2_readPart 99 = .ok (.iload_n 1, 1) := by decide +kernel
theorem dX2_readPart_100 : decode cX2_readPart 100 = .ok (.iconst 5, 1) := by decide +kernel
theorem dX2_readPart_101 : decode cX2_readPart 101 = .ok (.if_icmp .ge 70, 3) := by decide +kernel
theorem dX2_readPart_104 : decode cX2_readPart 104 = .ok (.aload_n 0, 1) := by decide +kernel
theorem dX2_readPart_105 : decode cX2_readPart 105 = .ok (.dup, 1) := by decide +kernel
theorem dX2_readPart_106 : decode cX2_readPart 106 = .ok (.getfield 23, 3) := by decide +kernel
theorem dX2_readPart_109 : decode cX2_readPart 109 = .ok (.iconst 1, 1) := by decide +kernel
theorem dX2_readPart_110 : decode cX2_readPart 110 = .ok (.iadd, 1) := by decide +kernel
theorem dX2_readPart_111 : decode cX2_readPart 111 = .ok (.putfield 23, 3) := by decide +kernel
theorem dX2_readPart_114 : decode cX2_readPart 114 = .ok (.aload_n 0, 1) := by decide +kernel
theorem dX2_readPart_115 : decode cX2_readPart 115 = .ok (.iconst 0, 1) := by decide +kernel
theorem dX2_readPart_116 : decode cX2_readPart 116 = .ok (.iload_n 1, 1) := by decide +kernel
theorem dX2_readPart_117 : decode cX2_readPart 117 = .ok (.iconst 1, 1) := by decide +kernel
theorem dX2_readPart_118 : decode cX2_readPart 118 = .ok (.iadd, 1) := by decide +kernel
theorem dX2_readPart_119 : decode cX2_readPart 119 = .ok (.invokevirtual 30, 3) := by decide +kernel
theorem dX2_readPart_122 : decode cX2_readPart 122 = .ok (.aload_n 0, 1) := by decide +kernel
theorem dX2_readPart_123 : decode cX2_readPart 123 = .ok (.aload_n 0, 1) := by decide +kernel
theorem dX2_readPart_124 : decode cX2_readPart 124 = .ok (.getfield 26, 3) := by decide +kernel
theorem dX2_readPart_127 : decode cX2_readPart 127 = .ok (.ifCond .ne 12, 3) := by decide +kernel
theorem dX2_readPart_130 : decode cX2_readPart 130 = .ok (.aload_n 0, 1) := by decide +kernel
theorem dX2_readPart_131 : decode cX2_readPart 131 = .ok (.invokevirtual 34, 3) := by decide +kernel
theorem dX2_readPart_134 : decode cX2_readPart 134 = .ok (.bipush 41, 2) := by decide +kernel
theorem dX2_readPart_136 : decode cX2_readPart 136 = .ok (.if_icmp .eq 7, 3) := by decide +kernel
theorem dX2_readPart_139 : decode cX2_readPart 139 = .ok (.iconst 1, 1) := by decide +kernel
theorem dX2_readPart_140 : decode cX2_readPart 140 = .ok (.goto 4, 3) := by decide +kernel
theorem dX2_readPart_143 : decode cX2_readPart 143 = .ok (.iconst 0, 1) := by decide +kernel
theorem dX2_readPart_144 : decode cX2_readPart 144 = .ok (.putfield 26, 3) := by decide +kernel
theorem dX2_readPart_147 : decode cX2_readPart 147 = .ok (.aload_n 0, 1) := by decide +kernel
theorem dX2_readPart_148 : decode cX2_readPart 148 = .ok (.dup, 1) := by decide +kernel
theorem dX2_readPart_149 : decode cX2_readPart 149 = .ok (.getfield 23, 3) := by decide +kernel
theorem dX2_readPart_152 : decode cX2_readPart 152 = .ok (.aload_n 0, 1) := by decide +kernel
theorem dX2_readPart_153 : decode cX2_readPart 153 = .ok (.getfield 26, 3) := by decide +kernel
theorem dX2_readPart_156 : decode cX2_readPart 156 = .ok (.ifCond .eq 7, 3) := by decide +kernel
theorem dX2_readPart_159 : decode cX2_readPart 159 = .ok (.iconst 0, 1) := by decide +kernel
theorem dX2_readPart_160 : decode cX2_readPart 160 = .ok (.goto 4, 3) := by decide +kernel
theorem dX2_readPart_163 : decode cX2_readPart 163 = .ok (.iconst 1, 1) := by decide +kernel
theorem dX2_readPart_164 : decode cX2_readPart 164 = .ok (.iadd, 1) := by decide +kernel
theorem dX2_readPart_165 : decode cX2_readPart 165 = .ok (.putfield 23, 3) := by decide +kernel
theorem dX2_readPart_168 : decode cX2_readPart 168 = .ok (.goto 8, 3) := by decide +kernel
theorem dX2_readPart_171 : decode cX2_readPart 171 = .ok (.aload_n 0, 1) := by decide +kernel
theorem dX2_readPart_172 : decode cX2_readPart 172 = .ok (.iconst 1, 1) := by decide +kernel
theorem dX2_readPart_173 : decode cX2_readPart 173 = .ok (.putfield 26, 3) := by decide +kernel
theorem dX2_readPart_176 : decode cX2_readPart 176 = .ok (.return_, 1) := by decide +kernel
theorem dX2_readNumber_0 : decode cX2_readNumber 0 = .ok (.iconst 0, 1) := by decide +kernel
theorem dX2_readNumber_1 : decode cX2_readNumber 1 = .ok (.istore_n 1, 1) := by decide +kernel
theorem dX2_readNumber_2 : decode cX2_readNumber 2 = .ok (.iconst 0, 1) := by decide +kernel
theorem dX2_readNumber_3 : decode cX2_readNumber 3 = .ok (.istore_n 2, 1) := by decide +kernel
theorem dX2_readNumber_4 : decode cX2_readNumber 4 = .ok (.iload_n 2, 1) := by decide +kernel
theorem dX2_readNumber_5 : decode cX2_readNumber 5 = .ok (.iconst 4, 1) := by decide +kernel
theorem dX2_readNumber_6 : decode cX2_readNumber 6 = .ok (.if_icmp .ge 42, 3) := by decide +kernel
theorem dX2_readNumber_9 : decode cX2_readNumber 9 = .ok (.aload_n 0, 1) := by decide +kernel
theorem dX2_readNumber_10 : decode cX2_readNumber 10 = .ok (.invokevirtual 34, 3) := by decide +kernel
theorem dX2_readNumber_13 : decode cX2_readNumber 13 = .ok (.invokestatic 57, 3) := by decide +kernel
theorem dX2_readNumber_16 : decode cX2_readNumber 16 = .ok (.ifCond .eq 32, 3) := by decide +kernel
theorem dX2_readNumber_19 : decode cX2_readNumber 19 = .ok (.iload_n 1, 1) := by decide +kernel
theorem dX2_readNumber_20 : decode cX2_readNumber 20 = .ok (.bipush 10, 2) := by decide +kernel
theorem dX2_readNumber_22 : decode cX2_readNumber 22 = .ok (.imul, 1) := by decide +kernel
theorem dX2_readNumber_23 : decode cX2_readNumber 23 = .ok (.aload_n 0, 1) := by decide +kernel
theorem dX2_readNumber_24 : decode cX2_readNumber 24 = .ok (.invokevirtual 34, 3) := by decide +kernel
theorem dX2_readNumber_27 : decode cX2_readNumber 27 = .ok (.iadd, 1) := by decide +kernel
theorem dX2_readNumber_28 : decode cX2_readNumber 28 = .ok (.bipush 48, 2) := by decide +kernel
theorem dX2_readNumber_30 : decode cX2_readNumber 30 = .ok (.isub, 1) := by decide +kernel
theorem dX2_readNumber_31 : decode cX2_readNumber 31 = .ok (.istore_n 1, 1) := by decide +kernel
theorem dX2_readNumber_32 : decode cX2_readNumber 32 = .ok (.aload_n 0, 1) := by decide +kernel
theorem dX2_readNumber_33 : decode cX2_readNumber 33 = .ok (.dup, 1) := by decide +kernel
theorem dX2_readNumber_34 : decode cX2_readNumber 34 = .ok (.getfield 23, 3) := by decide +kernel
theorem dX2_readNumber_37 : decode cX2_readNumber 37 = .ok (.iconst 1, 1) := by decide +kernel
theorem dX2_readNumber_38 : decode cX2_readNumber 38 = .ok (.iadd, 1) := by decide +kernel
theorem dX2_readNumber_39 : decode cX2_readNumber 39 = .ok (.putfield 23, 3) := by decide +kernel
theorem dX2_readNumber_42 : decode cX2_readNumber 42 = .ok (.iinc 2 1, 3) := by decide +kernel
theorem dX2_readNumber_45 : decode cX2_readNumber 45 = .ok (.goto (-41), 3) := by decide +kernel
theorem dX2_readNumber_48 : decode cX2_readNumber 48 = .ok (.aload_n 0, 1) := by decide +kernel
theorem dX2_readNumber_49 : decode cX2_readNumber 49 = .ok (.iload_n 1, 1) := by decide +kernel
theorem dX2_readNumber_50 : decode cX2_readNumber 50 = .ok (.invokevirtual 54, 3) := by decide +kernel
theorem dX2_readNumber_53 : decode cX2_readNumber 53 = .ok (.return_, 1) := by decide +kernel
theorem dX2_isDigit_0 : decode cX2_isDigit 0 = .ok (.iload_n 0, 1) := by decide +kernel
theorem dX2_isDigit_1 : decode cX2_isDigit 1 = .ok (.bipush 48, 2) := by decide +kernel
theorem dX2_isDigit_3 : decode cX2_isDigit 3 = .ok (.if_icmp .lt 13, 3) := by decide +kernel
theorem dX2_isDigit_6 : decode cX2_isDigit 6 = .ok (.iload_n 0, 1) := by decide +kernel
theorem dX2_isDigit_7 : decode cX2_isDigit 7 = .ok (.bipush 57, 2) := by decide +kernel
theorem dX2_isDigit_9 : decode cX2_isDigit 9 = .ok (.if_icmp .gt 7, 3) := by decide +kernel
theorem dX2_isDigit_12 : decode cX2_isDigit 12 = .ok (.iconst 1, 1) := by decide +kernel
theorem dX2_isDigit_13 : decode cX2_isDigit 13 = .ok (.goto 4, 3) := by decide +kernel
theorem dX2_isDigit_16 : decode cX2_isDigit 16 = .ok (.iconst 0, 1) := by decide +kernel
theorem dX2_isDigit_17 : decode cX2_isDigit 17 = .ok (.ireturn, 1) := by decide +kernel
theorem dX3_init_0 : decode cX3_init 0 = .ok (.aload_n 0, 1) := by decide +kernel
theorem dX3_init_1 : decode cX3_init 1 = .ok (.invokespecial 3, 3) := by decide +kernel
theorem dX3_init_4 : decode cX3_init 4 = .ok (.aload_n 0, 1) := by decide +kernel
theorem dX3_init_5 : decode cX3_init 5 = .ok (.bipush 40, 2) := by decide +kernel
theorem dX3_init_7 : decode cX3_init 7 = .ok (.newarray .int, 2) := by decide +kernel
theorem dX3_init_9 : decode cX3_init 9 = .ok (.putfield 9, 3) := by decide +kernel
theorem dX3_init_12 : decode cX3_init 12 = .ok (.return_, 1) := by decide +kernel
theorem dX3_isMissing_0 : decode cX3_isMissing 0 = .ok (.aload_n 0, 1) := by decide +kernel
theorem dX3_isMissing_1 : decode cX3_isMissing 1 = .ok (.getfield 15, 3) := by decide +kernel
theorem dX3_isMissing_4 : decode cX3_isMissing 4 = .ok (.ifCond .ne 7, 3) := by decide +kernel
theorem dX3_isMissing_7 : decode cX3_isMissing 7 = .ok (.iconst 1, 1) := by decide +kernel
theorem dX3_isMissing_8 : decode cX3_isMissing 8 = .ok (.goto 4, 3) := by decide +kernel
theorem dX3_isMissing_11 : decode cX3_isMissing 11 = .ok (.iconst 0, 1) := by decide +kernel
theorem dX3_isMissing_12 : decode cX3_isMissing 12 = .ok (.ireturn, 1) := by decide +kernel
theorem dX3_begin_0 : decode cX3_begin 0 = .ok (.aload_n 0, 1) := by decide +kernel
theorem dX3_begin_1 : decode cX3_begin 1 = .ok (.iload_n 1, 1) := by decide +kernel
theorem dX3_begin_2 : decode cX3_begin 2 = .ok (.putfield 15, 3) := by decide +kernel
theorem dX3_begin_5 : decode cX3_begin 5 = .ok (.aload_n 0, 1) := by decide +kernel
theorem dX3_begin_6 : decode cX3_begin 6 = .ok (.iload_n 1, 1) := by decide +kernel
theorem dX3_begin_7 : decode cX3_begin 7 = .ok (.ifCond .ne 7, 3) := by decide +kernel
theorem dX3_begin_10 : decode cX3_begin 10 = .ok (.iconst 0, 1) := by decide +kernel
theorem dX3_begin_11 : decode cX3_begin 11 = .ok (.goto 13, 3) := by decide +kernel
theorem dX3_begin_14 : decode cX3_begin 14 = .ok (.iconst 0, 1) := by decide +kernel
theorem dX3_begin_15 : decode cX3_begin 15 = .ok (.bipush 40, 2) := by decide +kernel
theorem dX3_begin_17 : decode cX3_begin 17 = .ok (.iload_n 2, 1) := by decide +kernel
theorem dX3_begin_18 : decode cX3_begin 18 = .ok (.invokestatic 19, 3) := by decide +kernel
theorem dX3_begin_21 : decode cX3_begin 21 = .ok (.invokestatic 25, 3) := by decide +kernel
theorem dX3_begin_24 : decode cX3_begin 24 = .ok (.putfield 28, 3) := by decide +kernel
theorem dX3_begin_27 : decode cX3_begin 27 = .ok (.iconst 0, 1) := by decide +kernel
theorem dX3_begin_28 : decode cX3_begin 28 = .ok (.istore_n 3, 1) := by decide +kernel
theorem dX3_begin_29 : decode cX3_begin 29 = .ok (.iload_n 3, 1) := by decide +kernel
theorem dX3_begin_30 : decode cX3_begin 30 = .ok (.bipush 40, 2) := by decide +kernel
theorem dX3_begin_32 : decode cX3_begin 32 = .ok (.if_icmp .ge 16, 3) := by decide +kernel
theorem dX3_begin_35 : decode cX3_begin 35 = .ok (.aload_n 0, 1) := by decide +kernel
theorem dX3_begin_36 : decode cX3_begin 36 = .ok (.getfield 9, 3) := by decide +kernel
theorem dX3_begin_39 : decode cX3_begin 39 = .ok (.iload_n 3, 1) := by decide +kernel
theorem dX3_begin_40 : decode cX3_begin 40 = .ok (.iconst 0, 1) := by decide +kernel
theorem dX3_begin_41 : decode cX3_begin 41 = .ok (.iastore, 1) := by decide +kernel
theorem dX3_begin_42 : decode cX3_begin 42 = .ok (.iinc 3 1, 3) := by decide +kernel
theorem dX3_begin_45 : decode cX3_begin 45 = .ok (.goto (-16), 3) := by decide +kernel
theorem dX3_begin_48 : decode cX3_begin 48 = .ok (.return_, 1) := by decide +kernel
theorem dX3_write_0 : decode cX3_write 0 = .ok (.iload_n 1, 1) := by decide +kernel
theorem dX3_write_1 : decode cX3_write 1 = .ok (.ifCond .lt 46, 3) := by decide +kernel
theorem dX3_write_4 : decode cX3_write 4 = .ok (.iload_n 1, 1) := by decide +kernel
theorem dX3_write_5 : decode cX3_write 5 = .ok (.aload_n 0, 1) := by decide +kernel
theorem dX3_write_6 : decode cX3_write 6 = .ok (.getfield 28, 3) := by decide +kernel
theorem dX3_write_9 : decode cX3_write 9 = .ok (.if_icmp .ge 38, 3) := by decide +kernel
theorem dX3_write_12 : decode cX3_write 12 = .ok (.aload_n 0, 1) := by decide +kernel
theorem dX3_write_13 : decode cX3_write 13 = .ok (.getfield 9, 3) := by decide +kernel
theorem dX3_write_16 : decode cX3_write 16 = .ok (.iload_n 1, 1) := by decide +kernel
theorem dX3_write_17 : decode cX3_write 17 = .ok (.aload_n 0, 1) := by decide +kernel
theorem dX3_write_18 : decode cX3_write 18 = .ok (.getfield 15, 3) := by decide +kernel
theorem dX3_write_21 : decode cX3_write 21 = .ok (.bipush 8, 2) := by decide +kernel
theorem dX3_write_23 : decode cX3_write 23 = .ok (.if_icmp .ne 8, 3) := by decide +kernel
theorem dX3_write_26 : decode cX3_write 26 = .ok (.iload_n 2, 1) := by decide +kernel
theorem dX3_write_27 : decode cX3_write 27 = .ok (.i2b, 1) := by decide +kernel
theorem dX3_write_28 : decode cX3_write 28 = .ok (.goto 18, 3) := by decide +kernel
theorem dX3_write_31 : decode cX3_write 31 = .ok (.aload_n 0, 1) := by decide +kernel
theorem dX3_write_32 : decode cX3_write 32 = .ok (.getfield 15, 3) := by decide +kernel
theorem dX3_write_35 : decode cX3_write 35 = .ok (.bipush 16, 2) := by decide +kernel
theorem dX3_write_37 : decode cX3_write 37 = .ok (.if_icmp .ne 8, 3) := by decide +kernel
theorem dX3_write_40 : decode cX3_write 40 = .ok (.iload_n 2, 1) := by decide +kernel
theorem dX3_write_41 : decode cX3_write 41 = .ok (.i2s, 1) := by decide +kernel
theorem dX3_write_42 : decode cX3_write 42 = .ok (.goto 4, 3) := by decide +kernel
theorem dX3_write_45 : decode cX3_write 45 = .ok (.iload_n 2, 1) := by decide +kernel
theorem dX3_write_46 : decode cX3_write 46 = .ok (.iastore, 1) := by decide +kernel
theorem dX3_write_47 : decode cX3_write 47 = .ok (.return_, 1) := by decide +kernel
theorem dX3_read_0 : decode cX3_read 0 = .ok (.iload_n 1, 1) := by decide +kernel
theorem dX3_read_1 : decode cX3_read 1 = .ok (.ifCond .lt 20, 3) := by decide +kernel
theorem dX3_read_4 : decode cX3_read 4 = .ok (.iload_n 1, 1) := by decide +kernel
theorem dX3_read_5 : decode cX3_read 5 = .ok (.aload_n 0, 1) := by decide +kernel
theorem dX3_read_6 : decode cX3_read 6 = .ok (.getfield 28, 3) := by decide +kernel
theorem dX3_read_9 : decode cX3_read 9 = .ok (.if_icmp .ge 12, 3) := by decide +kernel
theorem dX3_read_12 : decode cX3_read 12 = .ok (.aload_n 0, 1) := by decide +kernel
theorem dX3_read_13 : decode cX3_read 13 = .ok (.getfield 9, 3) := by decide +kernel
theorem dX3_read_16 : decode cX3_read 16 = .ok (.iload_n 1, 1) := by decide +kernel
theorem dX3_read_17 : decode cX3_read 17 = .ok (.iaload, 1) := by decide +kernel
theorem dX3_read_18 : decode cX3_read 18 = .ok (.goto 4, 3) := by decide +kernel
theorem dX3_read_21 : decode cX3_read 21 = .ok (.iconst 0, 1) := by decide +kernel
theorem dX3_read_22 : decode cX3_read 22 = .ok (.ireturn, 1) := by decide +kernel
theorem dX3_hasRow_0 : decode cX3_hasRow 0 = .ok (.iload_n 2, 1) := by decide +kernel
theorem dX3_hasRow_1 : decode cX3_hasRow 1 = .ok (.ifCond .lt 29, 3) := by decide +kernel
theorem dX3_hasRow_4 : decode cX3_hasRow 4 = .ok (.iload_n 2, 1) := by decide +kernel
theorem dX3_hasRow_5 : decode cX3_hasRow 5 = .ok (.aload_n 0, 1) := by decide +kernel
theorem dX3_hasRow_6 : decode cX3_hasRow 6 = .ok (.getfield 28, 3) := by decide +kernel
theorem dX3_hasRow_9 : decode cX3_hasRow 9 = .ok (.if_icmp .gt 21, 3) := by decide +kernel
theorem dX3_hasRow_12 : decode cX3_hasRow 12 = .ok (.iload_n 1, 1) := by decide +kernel
theorem dX3_hasRow_13 : decode cX3_hasRow 13 = .ok (.ifCond .lt 17, 3) := by decide +kernel
theorem dX3_hasRow_16 : decode cX3_hasRow 16 = .ok (.iload_n 1, 1) := by decide +kernel
theorem dX3_hasRow_17 : decode cX3_hasRow 17 = .ok (.aload_n 0, 1) := by decide +kernel
theorem dX3_hasRow_18 : decode cX3_hasRow 18 = .ok (.getfield 28, 3) := by decide +kernel
theorem dX3_hasRow_21 : decode cX3_hasRow 21 = .ok (.iload_n 2, 1) := by decide +kernel
theorem dX3_hasRow_22 : decode cX3_hasRow 22 = .ok (.isub, 1) := by decide +kernel
theorem dX3_hasRow_23 : decode cX3_hasRow 23 = .ok (.if_icmp .gt 7, 3) := by decide +kernel
theorem dX3_hasRow_26 : decode cX3_hasRow 26 = .ok (.iconst 1, 1) := by decide +kernel
theorem dX3_hasRow_27 : decode cX3_hasRow 27 = .ok (.goto 4, 3) := by decide +kernel
theorem dX3_hasRow_30 : decode cX3_hasRow 30 = .ok (.iconst 0, 1) := by decide +kernel
theorem dX3_hasRow_31 : decode cX3_hasRow 31 = .ok (.ireturn, 1) := by decide +kernel
theorem dX4_init_0 : decode cX4_init 0 = .ok (.aload_n 0, 1) := by decide +kernel
theorem dX4_init_1 : decode cX4_init 1 = .ok (.invokespecial 3, 3) := by decide +kernel
theorem dX4_init_4 : decode cX4_init 4 = .ok (.aload_n 0, 1) := by decide +kernel
theorem dX4_init_5 : decode cX4_init 5 = .ok (.bipush 12, 2) := by decide +kernel
theorem dX4_init_7 : decode cX4_init 7 = .ok (.putfield 9, 3) := by decide +kernel
theorem dX4_init_10 : decode cX4_init 10 = .ok (.aload_n 0, 1) := by decide +kernel
theorem dX4_init_11 : decode cX4_init 11 = .ok (.bipush 20, 2) := by decide +kernel
theorem dX4_init_13 : decode cX4_init 13 = .ok (.putfield 15, 3) := by decide +kernel
theorem dX4_init_16 : decode cX4_init 16 = .ok (.return_, 1) := by decide +kernel
theorem dX4_takes_0 : decode cX4_takes 0 = .ok (.iload_n 1, 1) := by decide +kernel
theorem dX4_takes_1 : decode cX4_takes 1 = .ok (.tableswitch 55 0 2 #[27, 35, 43], 27) := by decide +kernel
theorem dX4_takes_28 : decode cX4_takes 28 = .ok (.iload_n 2, 1) := by decide +kernel
theorem dX4_takes_29 : decode cX4_takes 29 = .ok (.iconst 4, 1) := by decide +kernel
theorem dX4_takes_30 : decode cX4_takes 30 = .ok (.bipush 40, 2) := by decide +kernel
theorem dX4_takes_32 : decode cX4_takes 32 = .ok (.invokestatic 18, 3) := by decide +kernel
theorem dX4_takes_35 : decode cX4_takes 35 = .ok (.ireturn, 1) := by decide +kernel
theorem dX4_takes_36 : decode cX4_takes 36 = .ok (.iload_n 2, 1) := by decide +kernel
theorem dX4_takes_37 : decode cX4_takes 37 = .ok (.iconst 1, 1) := by decide +kernel
theorem dX4_takes_38 : decode cX4_takes 38 = .ok (.bipush 60, 2) := by decide +kernel
theorem dX4_takes_40 : decode cX4_takes 40 = .ok (.invokestatic 18, 3) := by decide +kernel
theorem dX4_takes_43 : decode cX4_takes 43 = .ok (.ireturn, 1) := by decide +kernel
theorem dX4_takes_44 : decode cX4_takes 44 = .ok (.iload_n 2, 1) := by decide +kernel
theorem dX4_takes_45 : decode cX4_takes 45 = .ok (.iconst 0, 1) := by decide +kernel
theorem dX4_takes_46 : decode cX4_takes 46 = .ok (.aload_n 0, 1) := by decide +kernel
theorem dX4_takes_47 : decode cX4_takes 47 = .ok (.getfield 9, 3) := by decide +kernel
theorem dX4_takes_50 : decode cX4_takes 50 = .ok (.iconst 1, 1) := by decide +kernel
theorem dX4_takes_51 : decode cX4_takes 51 = .ok (.isub, 1) := by decide +kernel
theorem dX4_takes_52 : decode cX4_takes 52 = .ok (.invokestatic 18, 3) := by decide +kernel
theorem dX4_takes_55 : decode cX4_takes 55 = .ok (.ireturn, 1) := by decide +kernel
theorem dX4_takes_56 : decode cX4_takes 56 = .ok (.iconst 0, 1) := by decide +kernel
theorem dX4_takes_57 : decode cX4_takes 57 = .ok (.ireturn, 1) := by decide +kernel
theorem dX4_change_0 : decode cX4_change 0 = .ok (.aload_n 0, 1) := by decide +kernel
theorem dX4_change_1 : decode cX4_change 1 = .ok (.getfield 22, 3) := by decide +kernel
theorem dX4_change_4 : decode cX4_change 4 = .ok (.istore_n 3, 1) := by decide +kernel
theorem dX4_change_5 : decode cX4_change 5 = .ok (.iload_n 1, 1) := by decide +kernel
theorem dX4_change_6 : decode cX4_change 6 = .ok (.ifCond .ne 34, 3) := by decide +kernel
theorem dX4_change_9 : decode cX4_change 9 = .ok (.aload_n 0, 1) := by decide +kernel
theorem dX4_change_10 : decode cX4_change 10 = .ok (.getfield 9, 3) := by decide +kernel
theorem dX4_change_13 : decode cX4_change 13 = .ok (.istore_n 3, 1) := by decide +kernel
theorem dX4_change_14 : decode cX4_change 14 = .ok (.aload_n 0, 1) := by decide +kernel
theorem dX4_change_15 : decode cX4_change 15 = .ok (.iconst 4, 1) := by decide +kernel
theorem dX4_change_16 : decode cX4_change 16 = .ok (.iload_n 2, 1) := by decide +kernel
theorem dX4_change_17 : decode cX4_change 17 = .ok (.invokestatic 25, 3) := by decide +kernel
theorem dX4_change_20 : decode cX4_change 20 = .ok (.putfield 9, 3) := by decide +kernel
theorem dX4_change_23 : decode cX4_change 23 = .ok (.aload_n 0, 1) := by decide +kernel
theorem dX4_change_24 : decode cX4_change 24 = .ok (.aload_n 0, 1) := by decide +kernel
theorem dX4_change_25 : decode cX4_change 25 = .ok (.getfield 22, 3) := by decide +kernel
theorem dX4_change_28 : decode cX4_change 28 = .ok (.iconst 4, 1) := by decide +kernel
theorem dX4_change_29 : decode cX4_change 29 = .ok (.iload_n 2, 1) := by decide +kernel
theorem dX4_change_30 : decode cX4_change 30 = .ok (.invokestatic 25, 3) := by decide +kernel
theorem dX4_change_33 : decode cX4_change 33 = .ok (.irem, 1) := by decide +kernel
theorem dX4_change_34 : decode cX4_change 34 = .ok (.putfield 22, 3) := by decide +kernel
theorem dX4_change_37 : decode cX4_change 37 = .ok (.goto 26, 3) := by decide +kernel
theorem dX4_change_40 : decode cX4_change 40 = .ok (.iload_n 1, 1) := by decide +kernel
theorem dX4_change_41 : decode cX4_change 41 = .ok (.iconst 1, 1) := by decide +kernel
theorem dX4_change_42 : decode cX4_change 42 = .ok (.if_icmp .ne 16, 3) := by decide +kernel
theorem dX4_change_45 : decode cX4_change 45 = .ok (.aload_n 0, 1) := by decide +kernel
theorem dX4_change_46 : decode cX4_change 46 = .ok (.getfield 15, 3) := by decide +kernel
theorem dX4_change_49 : decode cX4_change 49 = .ok (.istore_n 3, 1) := by decide +kernel
theorem dX4_change_50 : decode cX4_change 50 = .ok (.aload_n 0, 1) := by decide +kernel
theorem dX4_change_51 : decode cX4_change 51 = .ok (.iload_n 2, 1) := by decide +kernel
theorem dX4_change_52 : decode cX4_change 52 = .ok (.putfield 15, 3) := by decide +kernel
theorem dX4_change_55 : decode cX4_change 55 = .ok (.goto 8, 3) := by decide +kernel
theorem dX4_change_58 : decode cX4_change 58 = .ok (.aload_n 0, 1) := by decide +kernel
theorem dX4_change_59 : decode cX4_change 59 = .ok (.iload_n 2, 1) := by decide +kernel
theorem dX4_change_60 : decode cX4_change 60 = .ok (.putfield 22, 3) := by decide +kernel
theorem dX4_change_63 : decode cX4_change 63 = .ok (.iload_n 3, 1) := by decide +kernel
theorem dX4_change_64 : decode cX4_change 64 = .ok (.ireturn, 1) := by decide +kernel
theorem dX4_placeAt_0 : decode cX4_placeAt 0 = .ok (.aload_n 0, 1) := by decide +kernel
theorem dX4_placeAt_1 : decode cX4_placeAt 1 = .ok (.getfield 9, 3) := by decide +kernel
theorem dX4_placeAt_4 : decode cX4_placeAt 4 = .ok (.iconst 4, 1) := by decide +kernel
theorem dX4_placeAt_5 : decode cX4_placeAt 5 = .ok (.if_icmp .ge 5, 3) := by decide +kernel
theorem dX4_placeAt_8 : decode cX4_placeAt 8 = .ok (.iconst 0, 1) := by decide +kernel
theorem dX4_placeAt_9 : decode cX4_placeAt 9 = .ok (.ireturn, 1) := by decide +kernel
theorem dX4_placeAt_10 : decode cX4_placeAt 10 = .ok (.iload_n 1, 1) := by decide +kernel
theorem dX4_placeAt_11 : decode cX4_placeAt 11 = .ok (.aload_n 0, 1) := by decide +kernel
theorem dX4_placeAt_12 : decode cX4_placeAt 12 = .ok (.getfield 22, 3) := by decide +kernel
theorem dX4_placeAt_15 : decode cX4_placeAt 15 = .ok (.iadd, 1) := by decide +kernel
theorem dX4_placeAt_16 : decode cX4_placeAt 16 = .ok (.aload_n 0, 1) := by decide +kernel
theorem dX4_placeAt_17 : decode cX4_placeAt 17 = .ok (.getfield 9, 3) := by decide +kernel
theorem dX4_placeAt_20 : decode cX4_placeAt 20 = .ok (.invokestatic 31, 3) := by decide +kernel
theorem dX4_placeAt_23 : decode cX4_placeAt 23 = .ok (.istore_n 2, 1) := by decide +kernel
theorem dX4_placeAt_24 : decode cX4_placeAt 24 = .ok (.iconst 2, 1) := by decide +kernel
theorem dX4_placeAt_25 : decode cX4_placeAt 25 = .ok (.iload_n 2, 1) := by decide +kernel
theorem dX4_placeAt_26 : decode cX4_placeAt 26 = .ok (.imul, 1) := by decide +kernel
theorem dX4_placeAt_27 : decode cX4_placeAt 27 = .ok (.aload_n 0, 1) := by decide +kernel
theorem dX4_placeAt_28 : decode cX4_placeAt 28 = .ok (.getfield 9, 3) := by decide +kernel
theorem dX4_placeAt_31 : decode cX4_placeAt 31 = .ok (.isub, 1) := by decide +kernel
theorem dX4_placeAt_32 : decode cX4_placeAt 32 = .ok (.invokestatic 34, 3) := by decide +kernel
theorem dX4_placeAt_35 : decode cX4_placeAt 35 = .ok (.istore_n 3, 1) := by decide +kernel
theorem dX4_placeAt_36 : decode cX4_placeAt 36 = .ok (.iconst 2, 1) := by decide +kernel
theorem dX4_placeAt_37 : decode cX4_placeAt 37 = .ok (.aload_n 0, 1) := by decide +kernel
theorem dX4_placeAt_38 : decode cX4_placeAt 38 = .ok (.getfield 15, 3) := by decide +kernel
theorem dX4_placeAt_41 : decode cX4_placeAt 41 = .ok (.imul, 1) := by decide +kernel
theorem dX4_placeAt_42 : decode cX4_placeAt 42 = .ok (.iload_n 3, 1) := by decide +kernel
theorem dX4_placeAt_43 : decode cX4_placeAt 43 = .ok (.imul, 1) := by decide +kernel
theorem dX4_placeAt_44 : decode cX4_placeAt 44 = .ok (.aload_n 0, 1) := by decide +kernel
theorem dX4_placeAt_45 : decode cX4_placeAt 45 = .ok (.getfield 9, 3) := by decide +kernel
theorem dX4_placeAt_48 : decode cX4_placeAt 48 = .ok (.idiv, 1) := by decide +kernel
theorem dX4_placeAt_49 : decode cX4_placeAt 49 = .ok (.aload_n 0, 1) := by decide +kernel
theorem dX4_placeAt_50 : decode cX4_placeAt 50 = .ok (.getfield 15, 3) := by decide +kernel
theorem dX4_placeAt_53 : decode cX4_placeAt 53 = .ok (.isub, 1) := by decide +kernel
theorem dX4_placeAt_54 : decode cX4_placeAt 54 = .ok (.ireturn, 1) := by decide +kernel
theorem dX4_copy_0 : decode cX4_copy 0 = .ok (.aload_n 0, 1) := by decide +kernel
theorem dX4_copy_1 : decode cX4_copy 1 = .ok (.aload_n 1, 1) := by decide +kernel
theorem dX4_copy_2 : decode cX4_copy 2 = .ok (.getfield 9, 3) := by decide +kernel
theorem dX4_copy_5 : decode cX4_copy 5 = .ok (.putfield 9, 3) := by decide +kernel
theorem dX4_copy_8 : decode cX4_copy 8 = .ok (.aload_n 0, 1) := by decide +kernel
theorem dX4_copy_9 : decode cX4_copy 9 = .ok (.aload_n 1, 1) := by decide +kernel
theorem dX4_copy_10 : decode cX4_copy 10 = .ok (.getfield 15, 3) := by decide +kernel
theorem dX4_copy_13 : decode cX4_copy 13 = .ok (.putfield 15, 3) := by decide +kernel
theorem dX4_copy_16 : decode cX4_copy 16 = .ok (.aload_n 0, 1) := by decide +kernel
theorem dX4_copy_17 : decode cX4_copy 17 = .ok (.aload_n 1, 1) := by decide +kernel
theorem dX4_copy_18 : decode cX4_copy 18 = .ok (.getfield 22, 3) := by decide +kernel
theorem dX4_copy_21 : decode cX4_copy 21 = .ok (.putfield 22, 3) := by decide +kernel
theorem dX4_copy_24 : decode cX4_copy 24 = .ok (.return_, 1) := by decide +kernel
theorem dX5_init_0 : decode cX5_init 0 = .ok (.aload_n 0, 1) := by decide +kernel
theorem dX5_init_1 : decode cX5_init 1 = .ok (.invokespecial 3, 3) := by decide +kernel
theorem dX5_init_4 : decode cX5_init 4 = .ok (.aload_n 0, 1) := by decide +kernel
theorem dX5_init_5 : decode cX5_init 5 = .ok (.new 9, 3) := by decide +kernel
theorem dX5_init_8 : decode cX5_init 8 = .ok (.dup, 1) := by decide +kernel
theorem dX5_init_9 : decode cX5_init 9 = .ok (.invokespecial 11, 3) := by decide +kernel
theorem dX5_init_12 : decode cX5_init 12 = .ok (.putfield 12, 3) := by decide +kernel
theorem dX5_init_15 : decode cX5_init 15 = .ok (.aload_n 0, 1) := by decide +kernel
theorem dX5_init_16 : decode cX5_init 16 = .ok (.new 9, 3) := by decide +kernel
theorem dX5_init_19 : decode cX5_init 19 = .ok (.dup, 1) := by decide +kernel
theorem dX5_init_20 : decode cX5_init 20 = .ok (.invokespecial 11, 3) := by decide +kernel
theorem dX5_init_23 : decode cX5_init 23 = .ok (.putfield 18, 3) := by decide +kernel
theorem dX5_init_26 : decode cX5_init 26 = .ok (.aload_n 0, 1) := by decide +kernel
theorem dX5_init_27 : decode cX5_init 27 = .ok (.new 21, 3) := by decide +kernel
theorem dX5_init_30 : decode cX5_init 30 = .ok (.dup, 1) := by decide +kernel
theorem dX5_init_31 : decode cX5_init 31 = .ok (.invokespecial 23, 3) := by decide +kernel
theorem dX5_init_34 : decode cX5_init 34 = .ok (.putfield 24, 3) := by decide +kernel
theorem dX5_init_37 : decode cX5_init 37 = .ok (.aload_n 0, 1) := by decide +kernel
theorem dX5_init_38 : decode cX5_init 38 = .ok (.bipush 60, 2) := by decide +kernel
theorem dX5_init_40 : decode cX5_init 40 = .ok (.newarray .int, 2) := by decide +kernel
theorem dX5_init_42 : decode cX5_init 42 = .ok (.putfield 28, 3) := by decide +kernel
theorem dX5_init_45 : decode cX5_init 45 = .ok (.aload_n 0, 1) := by decide +kernel
theorem dX5_init_46 : decode cX5_init 46 = .ok (.aload_n 1, 1) := by decide +kernel
theorem dX5_init_47 : decode cX5_init 47 = .ok (.putfield 32, 3) := by decide +kernel
theorem dX5_init_50 : decode cX5_init 50 = .ok (.return_, 1) := by decide +kernel
theorem dX5_start_0 : decode cX5_start 0 = .ok (.aload_n 0, 1) := by decide +kernel
theorem dX5_start_1 : decode cX5_start 1 = .ok (.getfield 12, 3) := by decide +kernel
theorem dX5_start_4 : decode cX5_start 4 = .ok (.aload_n 0, 1) := by decide +kernel
theorem dX5_start_5 : decode cX5_start 5 = .ok (.getfield 32, 3) := by decide +kernel
theorem dX5_start_8 : decode cX5_start 8 = .ok (.getfield 36, 3) := by decide +kernel
theorem dX5_start_11 : decode cX5_start 11 = .ok (.invokevirtual 39, 3) := by decide +kernel
theorem dX5_start_14 : decode cX5_start 14 = .ok (.aload_n 0, 1) := by decide +kernel
theorem dX5_start_15 : decode cX5_start 15 = .ok (.getfield 18, 3) := by decide +kernel
theorem dX5_start_18 : decode cX5_start 18 = .ok (.aload_n 0, 1) := by decide +kernel
theorem dX5_start_19 : decode cX5_start 19 = .ok (.getfield 32, 3) := by decide +kernel
theorem dX5_start_22 : decode cX5_start 22 = .ok (.getfield 43, 3) := by decide +kernel
theorem dX5_start_25 : decode cX5_start 25 = .ok (.invokevirtual 39, 3) := by decide +kernel
theorem dX5_start_28 : decode cX5_start 28 = .ok (.aload_n 0, 1) := by decide +kernel
theorem dX5_start_29 : decode cX5_start 29 = .ok (.getfield 24, 3) := by decide +kernel
theorem dX5_start_32 : decode cX5_start 32 = .ok (.aload_n 1, 1) := by decide +kernel
theorem dX5_start_33 : decode cX5_start 33 = .ok (.invokevirtual 44, 3) := by decide +kernel
theorem dX5_start_36 : decode cX5_start 36 = .ok (.aload_n 0, 1) := by decide +kernel
theorem dX5_start_37 : decode cX5_start 37 = .ok (.aload_n 0, 1) := by decide +kernel
theorem dX5_start_38 : decode cX5_start 38 = .ok (.getfield 24, 3) := by decide +kernel
theorem dX5_start_41 : decode cX5_start 41 = .ok (.invokevirtual 47, 3) := by decide +kernel
theorem dX5_start_44 : decode cX5_start 44 = .ok (.putfield 51, 3) := by decide +kernel
theorem dX5_start_47 : decode cX5_start 47 = .ok (.return_, 1) := by decide +kernel
theorem dX5_fly_0 : decode cX5_fly 0 = .ok (.iload_n 1, 1) := by decide +kernel
theorem dX5_fly_1 : decode cX5_fly 1 = .ok (.aload_n 0, 1) := by decide +kernel
theorem dX5_fly_2 : decode cX5_fly 2 = .ok (.getfield 51, 3) := by decide +kernel
theorem dX5_fly_5 : decode cX5_fly 5 = .ok (.iadd, 1) := by decide +kernel
theorem dX5_fly_6 : decode cX5_fly 6 = .ok (.iload_n 2, 1) := by decide +kernel
theorem dX5_fly_7 : decode cX5_fly 7 = .ok (.iadd, 1) := by decide +kernel
theorem dX5_fly_8 : decode cX5_fly 8 = .ok (.istore_n 3, 1) := by decide +kernel
theorem dX5_fly_9 : decode cX5_fly 9 = .ok (.aload_n 0, 1) := by decide +kernel
theorem dX5_fly_10 : decode cX5_fly 10 = .ok (.getfield 12, 3) := by decide +kernel
theorem dX5_fly_13 : decode cX5_fly 13 = .ok (.iload_n 3, 1) := by decide +kernel
theorem dX5_fly_14 : decode cX5_fly 14 = .ok (.invokevirtual 54, 3) := by decide +kernel
theorem dX5_fly_17 : decode cX5_fly 17 = .ok (.istore 4, 2) := by decide +kernel
theorem dX5_fly_19 : decode cX5_fly 19 = .ok (.iload 4, 2) := by decide +kernel
theorem dX5_fly_21 : decode cX5_fly 21 = .ok (.aload_n 0, 1) := by decide +kernel
theorem dX5_fly_22 : decode cX5_fly 22 = .ok (.getfield 12, 3) := by decide +kernel
theorem dX5_fly_25 : decode cX5_fly 25 = .ok (.iload_n 3, 1) := by decide +kernel
theorem dX5_fly_26 : decode cX5_fly 26 = .ok (.iconst 1, 1) := by decide +kernel
theorem dX5_fly_27 : decode cX5_fly 27 = .ok (.isub, 1) := by decide +kernel
theorem dX5_fly_28 : decode cX5_fly 28 = .ok (.invokevirtual 54, 3) := by decide +kernel
theorem dX5_fly_31 : decode cX5_fly 31 = .ok (.isub, 1) := by decide +kernel
theorem dX5_fly_32 : decode cX5_fly 32 = .ok (.istore 5, 2) := by decide +kernel
theorem dX5_fly_34 : decode cX5_fly 34 = .ok (.aload_n 0, 1) := by decide +kernel
theorem dX5_fly_35 : decode cX5_fly 35 = .ok (.iload_n 3, 1) := by decide +kernel
theorem dX5_fly_36 : decode cX5_fly 36 = .ok (.aload_n 0, 1) := by decide +kernel
theorem dX5_fly_37 : decode cX5_fly 37 = .ok (.getfield 32, 3) := by decide +kernel
theorem dX5_fly_40 : decode cX5_fly 40 = .ok (.getfield 58, 3) := by decide +kernel
theorem dX5_fly_43 : decode cX5_fly 43 = .ok (.aload_n 0, 1) := by decide +kernel
theorem dX5_fly_44 : decode cX5_fly 44 = .ok (.getfield 24, 3) := by decide +kernel
theorem dX5_fly_47 : decode cX5_fly 47 = .ok (.getfield 62, 3) := by decide +kernel
theorem dX5_fly_50 : decode cX5_fly 50 = .ok (.iload 5, 2) := by decide +kernel
theorem dX5_fly_52 : decode cX5_fly 52 = .ok (.aload_n 0, 1) := by decide +kernel
theorem dX5_fly_53 : decode cX5_fly 53 = .ok (.getfield 24, 3) := by decide +kernel
theorem dX5_fly_56 : decode cX5_fly 56 = .ok (.getfield 65, 3) := by decide +kernel
theorem dX5_fly_59 : decode cX5_fly 59 = .ok (.invokevirtual 68, 3) := by decide +kernel
theorem dX5_fly_62 : decode cX5_fly 62 = .ok (.iadd, 1) := by decide +kernel
theorem dX5_fly_63 : decode cX5_fly 63 = .ok (.putfield 74, 3) := by decide +kernel
theorem dX5_fly_66 : decode cX5_fly 66 = .ok (.aload_n 0, 1) := by decide +kernel
theorem dX5_fly_67 : decode cX5_fly 67 = .ok (.iload 4, 2) := by decide +kernel
theorem dX5_fly_69 : decode cX5_fly 69 = .ok (.aload_n 0, 1) := by decide +kernel
theorem dX5_fly_70 : decode cX5_fly 70 = .ok (.getfield 32, 3) := by decide +kernel
theorem dX5_fly_73 : decode cX5_fly 73 = .ok (.getfield 77, 3) := by decide +kernel
theorem dX5_fly_76 : decode cX5_fly 76 = .ok (.aload_n 0, 1) := by decide +kernel
theorem dX5_fly_77 : decode cX5_fly 77 = .ok (.getfield 24, 3) := by decide +kernel
theorem dX5_fly_80 : decode cX5_fly 80 = .ok (.getfield 62, 3) := by decide +kernel
theorem dX5_fly_83 : decode cX5_fly 83 = .ok (.iload 5, 2) := by decide +kernel
theorem dX5_fly_85 : decode cX5_fly 85 = .ok (.aload_n 0, 1) := by decide +kernel
theorem dX5_fly_86 : decode cX5_fly 86 = .ok (.getfield 24, 3) := by decide +kernel
theorem dX5_fly_89 : decode cX5_fly 89 = .ok (.getfield 65, 3) := by decide +kernel
theorem dX5_fly_92 : decode cX5_fly 92 = .ok (.invokevirtual 68, 3) := by decide +kernel
theorem dX5_fly_95 : decode cX5_fly 95 = .ok (.iadd, 1) := by decide +kernel
theorem dX5_fly_96 : decode cX5_fly 96 = .ok (.putfield 80, 3) := by decide +kernel
theorem dX5_fly_99 : decode cX5_fly 99 = .ok (.return_, 1) := by decide +kernel
theorem dX5_off_0 : decode cX5_off 0 = .ok (.aload_n 0, 1) := by decide +kernel
theorem dX5_off_1 : decode cX5_off 1 = .ok (.getfield 80, 3) := by decide +kernel
theorem dX5_off_4 : decode cX5_off 4 = .ok (.aload_n 0, 1) := by decide +kernel
theorem dX5_off_5 : decode cX5_off 5 = .ok (.getfield 32, 3) := by decide +kernel
theorem dX5_off_8 : decode cX5_off 8 = .ok (.getfield 83, 3) := by decide +kernel
theorem dX5_off_11 : decode cX5_off 11 = .ok (.aload_n 0, 1) := by decide +kernel
theorem dX5_off_12 : decode cX5_off 12 = .ok (.getfield 18, 3) := by decide +kernel
theorem dX5_off_15 : decode cX5_off 15 = .ok (.aload_n 0, 1) := by decide +kernel
theorem dX5_off_16 : decode cX5_off 16 = .ok (.getfield 74, 3) := by decide +kernel
theorem dX5_off_19 : decode cX5_off 19 = .ok (.iload_n 1, 1) := by decide +kernel
theorem dX5_off_20 : decode cX5_off 20 = .ok (.iadd, 1) := by decide +kernel
theorem dX5_off_21 : decode cX5_off 21 = .ok (.invokevirtual 54, 3) := by decide +kernel
theorem dX5_off_24 : decode cX5_off 24 = .ok (.isub, 1) := by decide +kernel
theorem dX5_off_25 : decode cX5_off 25 = .ok (.isub, 1) := by decide +kernel
theorem dX5_off_26 : decode cX5_off 26 = .ok (.ireturn, 1) := by decide +kernel
theorem dX5_isHeld_0 : decode cX5_isHeld 0 = .ok (.iload_n 1, 1) := by decide +kernel
theorem dX5_isHeld_1 : decode cX5_isHeld 1 = .ok (.invokestatic 86, 3) := by decide +kernel
theorem dX5_isHeld_4 : decode cX5_isHeld 4 = .ok (.aload_n 0, 1) := by decide +kernel
theorem dX5_isHeld_5 : decode cX5_isHeld 5 = .ok (.getfield 24, 3) := by decide +kernel
theorem dX5_isHeld_8 : decode cX5_isHeld 8 = .ok (.aload_n 0, 1) := by decide +kernel
theorem dX5_isHeld_9 : decode cX5_isHeld 9 = .ok (.getfield 32, 3) := by decide +kernel
theorem dX5_isHeld_12 : decode cX5_isHeld 12 = .ok (.getfield 91, 3) := by decide +kernel
theorem dX5_isHeld_15 : decode cX5_isHeld 15 = .ok (.invokevirtual 94, 3) := by decide +kernel
theorem dX5_isHeld_18 : decode cX5_isHeld 18 = .ok (.if_icmp .gt 7, 3) := by decide +kernel
theorem dX5_isHeld_21 : decode cX5_isHeld 21 = .ok (.iconst 1, 1) := by decide +kernel
theorem dX5_isHeld_22 : decode cX5_isHeld 22 = .ok (.goto 4, 3) := by decide +kernel
theorem dX5_isHeld_25 : decode cX5_isHeld 25 = .ok (.iconst 0, 1) := by decide +kernel
theorem dX5_isHeld_26 : decode cX5_isHeld 26 = .ok (.ireturn, 1) := by decide +kernel
theorem dX5_isCaught_0 : decode cX5_isCaught 0 = .ok (.aload_n 0, 1) := by decide +kernel
theorem dX5_isCaught_1 : decode cX5_isCaught 1 = .ok (.iload_n 1, 1) := by decide +kernel
theorem dX5_isCaught_2 : decode cX5_isCaught 2 = .ok (.iconst 0, 1) := by decide +kernel
theorem dX5_isCaught_3 : decode cX5_isCaught 3 = .ok (.invokevirtual 97, 3) := by decide +kernel
theorem dX5_isCaught_6 : decode cX5_isCaught 6 = .ok (.aload_n 0, 1) := by decide +kernel
theorem dX5_isCaught_7 : decode cX5_isCaught 7 = .ok (.aload_n 0, 1) := by decide +kernel
theorem dX5_isCaught_8 : decode cX5_isCaught 8 = .ok (.iconst 0, 1) := by decide +kernel
theorem dX5_isCaught_9 : decode cX5_isCaught 9 = .ok (.invokevirtual 101, 3) := by decide +kernel
theorem dX5_isCaught_12 : decode cX5_isCaught 12 = .ok (.invokevirtual 104, 3) := by decide +kernel
theorem dX5_isCaught_15 : decode cX5_isCaught 15 = .ok (.ireturn, 1) := by decide +kernel
theorem dX5_howManyCaught_0 : decode cX5_howManyCaught 0 = .ok (.iconst 0, 1) := by decide +kernel
theorem dX5_howManyCaught_1 : decode cX5_howManyCaught 1 = .ok (.istore_n 2, 1) := by decide +kernel
theorem dX5_howManyCaught_2 : decode cX5_howManyCaught 2 = .ok (.iconst 0, 1) := by decide +kernel
theorem dX5_howManyCaught_3 : decode cX5_howManyCaught 3 = .ok (.istore_n 3, 1) := by decide +kernel
theorem dX5_howManyCaught_4 : decode cX5_howManyCaught 4 = .ok (.iload_n 3, 1) := by decide +kernel
theorem dX5_howManyCaught_5 : decode cX5_howManyCaught 5 = .ok (.iload_n 1, 1) := by decide +kernel
theorem dX5_howManyCaught_6 : decode cX5_howManyCaught 6 = .ok (.if_icmp .ge 33, 3) := by decide +kernel
theorem dX5_howManyCaught_9 : decode cX5_howManyCaught 9 = .ok (.iload_n 2, 1) := by decide +kernel
theorem dX5_howManyCaught_10 : decode cX5_howManyCaught 10 = .ok (.aload_n 0, 1) := by decide +kernel
theorem dX5_howManyCaught_11 : decode cX5_howManyCaught 11 = .ok (.aload_n 0, 1) := by decide +kernel
theorem dX5_howManyCaught_12 : decode cX5_howManyCaught 12 = .ok (.getfield 32, 3) := by decide +kernel
theorem dX5_howManyCaught_15 : decode cX5_howManyCaught 15 = .ok (.getfield 108, 3) := by decide +kernel
theorem dX5_howManyCaught_18 : decode cX5_howManyCaught 18 = .ok (.iload_n 3, 1) := by decide +kernel
theorem dX5_howManyCaught_19 : decode cX5_howManyCaught 19 = .ok (.iadd, 1) := by decide +kernel
theorem dX5_howManyCaught_20 : decode cX5_howManyCaught 20 = .ok (.invokevirtual 111, 3) := by decide +kernel
theorem dX5_howManyCaught_23 : decode cX5_howManyCaught 23 = .ok (.ifCond .eq 7, 3) := by decide +kernel
theorem dX5_howManyCaught_26 : decode cX5_howManyCaught 26 = .ok (.iconst 1, 1) := by decide +kernel
theorem dX5_howManyCaught_27 : decode cX5_howManyCaught 27 = .ok (.goto 4, 3) := by decide +kernel
theorem dX5_howManyCaught_30 : decode cX5_howManyCaught 30 = .ok (.iconst 0, 1) := by decide +kernel
theorem dX5_howManyCaught_31 : decode cX5_howManyCaught 31 = .ok (.iadd, 1) := by decide +kernel
theorem dX5_howManyCaught_32 : decode cX5_howManyCaught 32 = .ok (.istore_n 2, 1) := by decide +kernel
theorem dX5_howManyCaught_33 : decode cX5_howManyCaught 33 = .ok (.iinc 3 1, 3) := by decide +kernel
theorem dX5_howManyCaught_36 : decode cX5_howManyCaught 36 = .ok (.goto (-32), 3) := by decide +kernel
theorem dX5_howManyCaught_39 : decode cX5_howManyCaught 39 = .ok (.iload_n 2, 1) := by decide +kernel
theorem dX5_howManyCaught_40 : decode cX5_howManyCaught 40 = .ok (.ireturn, 1) := by decide +kernel
theorem dX5_firstCaught_0 : decode cX5_firstCaught 0 = .ok (.iconst 0, 1) := by decide +kernel
theorem dX5_firstCaught_1 : decode cX5_firstCaught 1 = .ok (.istore_n 2, 1) := by decide +kernel
theorem dX5_firstCaught_2 : decode cX5_firstCaught 2 = .ok (.iload_n 2, 1) := by decide +kernel
theorem dX5_firstCaught_3 : decode cX5_firstCaught 3 = .ok (.iload_n 1, 1) := by decide +kernel
theorem dX5_firstCaught_4 : decode cX5_firstCaught 4 = .ok (.if_icmp .ge 27, 3) := by decide +kernel
theorem dX5_firstCaught_7 : decode cX5_firstCaught 7 = .ok (.aload_n 0, 1) := by decide +kernel
theorem dX5_firstCaught_8 : decode cX5_firstCaught 8 = .ok (.aload_n 0, 1) := by decide +kernel
theorem dX5_firstCaught_9 : decode cX5_firstCaught 9 = .ok (.getfield 32, 3) := by decide +kernel
theorem dX5_firstCaught_12 : decode cX5_firstCaught 12 = .ok (.getfield 108, 3) := by decide +kernel
theorem dX5_firstCaught_15 : decode cX5_firstCaught 15 = .ok (.iload_n 2, 1) := by decide +kernel
theorem dX5_firstCaught_16 : decode cX5_firstCaught 16 = .ok (.iadd, 1) := by decide +kernel
theorem dX5_firstCaught_17 : decode cX5_firstCaught 17 = .ok (.invokevirtual 111, 3) := by decide +kernel
theorem dX5_firstCaught_20 : decode cX5_firstCaught 20 = .ok (.ifCond .eq 5, 3) := by decide +kernel
theorem dX5_firstCaught_23 : decode cX5_firstCaught 23 = .ok (.iload_n 2, 1) := by decide +kernel
theorem dX5_firstCaught_24 : decode cX5_firstCaught 24 = .ok (.ireturn, 1) := by decide +kernel
theorem dX5_firstCaught_25 : decode cX5_firstCaught 25 = .ok (.iinc 2 1, 3) := by decide +kernel
theorem dX5_firstCaught_28 : decode cX5_firstCaught 28 = .ok (.goto (-26), 3) := by decide +kernel
theorem dX5_firstCaught_31 : decode cX5_firstCaught 31 = .ok (.iconst (-1), 1) := by decide +kernel
theorem dX5_firstCaught_32 : decode cX5_firstCaught 32 = .ok (.ireturn, 1) := by decide +kernel
theorem dX5_casesCaught_0 : decode cX5_casesCaught 0 = .ok (.iconst 0, 1) := by decide +kernel
theorem dX5_casesCaught_1 : decode cX5_casesCaught 1 = .ok (.istore_n 2, 1) := by decide +kernel
theorem dX5_casesCaught_2 : decode cX5_casesCaught 2 = .ok (.iconst (-1), 1) := by decide +kernel
theorem dX5_casesCaught_3 : decode cX5_casesCaught 3 = .ok (.istore_n 3, 1) := by decide +kernel
theorem dX5_casesCaught_4 : decode cX5_casesCaught 4 = .ok (.iload_n 3, 1) := by decide +kernel
theorem dX5_casesCaught_5 : decode cX5_casesCaught 5 = .ok (.iconst 1, 1) := by decide +kernel
theorem dX5_casesCaught_6 : decode cX5_casesCaught 6 = .ok (.if_icmp .gt 51, 3) := by decide +kernel
theorem dX5_casesCaught_9 : decode cX5_casesCaught 9 = .ok (.aload_n 0, 1) := by decide +kernel
theorem dX5_casesCaught_10 : decode cX5_casesCaught 10 = .ok (.iload_n 1, 1) := by decide +kernel
theorem dX5_casesCaught_11 : decode cX5_casesCaught 11 = .ok (.iload_n 3, 1) := by decide +kernel
theorem dX5_casesCaught_12 : decode cX5_casesCaught 12 = .ok (.invokevirtual 97, 3) := by decide +kernel
theorem dX5_casesCaught_15 : decode cX5_casesCaught 15 = .ok (.iconst (-1), 1) := by decide +kernel
theorem dX5_casesCaught_16 : decode cX5_casesCaught 16 = .ok (.istore 4, 2) := by decide +kernel
theorem dX5_casesCaught_18 : decode cX5_casesCaught 18 = .ok (.iload 4, 2) := by decide +kernel
theorem dX5_casesCaught_20 : decode cX5_casesCaught 20 = .ok (.iconst 1, 1) := by decide +kernel
theorem dX5_casesCaught_21 : decode cX5_casesCaught 21 = .ok (.if_icmp .gt 30, 3) := by decide +kernel
theorem dX5_casesCaught_24 : decode cX5_casesCaught 24 = .ok (.iload_n 2, 1) := by decide +kernel
theorem dX5_casesCaught_25 : decode cX5_casesCaught 25 = .ok (.aload_n 0, 1) := by decide +kernel
theorem dX5_casesCaught_26 : decode cX5_casesCaught 26 = .ok (.aload_n 0, 1) := by decide +kernel
theorem dX5_casesCaught_27 : decode cX5_casesCaught 27 = .ok (.iload 4, 2) := by decide +kernel
theorem dX5_casesCaught_29 : decode cX5_casesCaught 29 = .ok (.invokevirtual 101, 3) := by decide +kernel
theorem dX5_casesCaught_32 : decode cX5_casesCaught 32 = .ok (.invokevirtual 104, 3) := by decide +kernel
theorem dX5_casesCaught_35 : decode cX5_casesCaught 35 = .ok (.ifCond .eq 7, 3) := by decide +kernel
theorem dX5_casesCaught_38 : decode cX5_casesCaught 38 = .ok (.iconst 1, 1) := by decide +kernel
theorem dX5_casesCaught_39 : decode cX5_casesCaught 39 = .ok (.goto 4, 3) := by decide +kernel
theorem dX5_casesCaught_42 : decode cX5_casesCaught 42 = .ok (.iconst 0, 1) := by decide +kernel
theorem dX5_casesCaught_43 : decode cX5_casesCaught 43 = .ok (.iadd, 1) := by decide +kernel
theorem dX5_casesCaught_44 : decode cX5_casesCaught 44 = .ok (.istore_n 2, 1) := by decide +kernel
theorem dX5_casesCaught_45 : decode cX5_casesCaught 45 = .ok (.iinc 4 1, 3) := by decide +kernel
theorem dX5_casesCaught_48 : decode cX5_casesCaught 48 = .ok (.goto (-30), 3) := by decide +kernel
theorem dX5_casesCaught_51 : decode cX5_casesCaught 51 = .ok (.iinc 3 1, 3) := by decide +kernel
theorem dX5_casesCaught_54 : decode cX5_casesCaught 54 = .ok (.goto (-50), 3) := by decide +kernel
theorem dX5_casesCaught_57 : decode cX5_casesCaught 57 = .ok (.iload_n 2, 1) := by decide +kernel
theorem dX5_casesCaught_58 : decode cX5_casesCaught 58 = .ok (.ireturn, 1) := by decide +kernel
theorem dX5_surestWait_0 : decode cX5_surestWait 0 = .ok (.iconst 0, 1) := by decide +kernel
theorem dX5_surestWait_1 : decode cX5_surestWait 1 = .ok (.istore_n 2, 1) := by decide +kernel
theorem dX5_surestWait_2 : decode cX5_surestWait 2 = .ok (.iconst (-1), 1) := by decide +kernel
theorem dX5_surestWait_3 : decode cX5_surestWait 3 = .ok (.istore_n 3, 1) := by decide +kernel
theorem dX5_surestWait_4 : decode cX5_surestWait 4 = .ok (.iconst 0, 1) := by decide +kernel
theorem dX5_surestWait_5 : decode cX5_surestWait 5 = .ok (.istore 4, 2) := by decide +kernel
theorem dX5_surestWait_7 : decode cX5_surestWait 7 = .ok (.iload 4, 2) := by decide +kernel
theorem dX5_surestWait_9 : decode cX5_surestWait 9 = .ok (.iload_n 1, 1) := by decide +kernel
theorem dX5_surestWait_10 : decode cX5_surestWait 10 = .ok (.if_icmp .ge 37, 3) := by decide +kernel
theorem dX5_surestWait_13 : decode cX5_surestWait 13 = .ok (.aload_n 0, 1) := by decide +kernel
theorem dX5_surestWait_14 : decode cX5_surestWait 14 = .ok (.aload_n 0, 1) := by decide +kernel
theorem dX5_surestWait_15 : decode cX5_surestWait 15 = .ok (.getfield 32, 3) := by decide +kernel
theorem dX5_surestWait_18 : decode cX5_surestWait 18 = .ok (.getfield 108, 3) := by decide +kernel
theorem dX5_surestWait_21 : decode cX5_surestWait 21 = .ok (.iload 4, 2) := by decide +kernel
theorem dX5_surestWait_23 : decode cX5_surestWait 23 = .ok (.iadd, 1) := by decide +kernel
theorem dX5_surestWait_24 : decode cX5_surestWait 24 = .ok (.invokevirtual 114, 3) := by decide +kernel
theorem dX5_surestWait_27 : decode cX5_surestWait 27 = .ok (.istore 5, 2) := by decide +kernel
theorem dX5_surestWait_29 : decode cX5_surestWait 29 = .ok (.iload 5, 2) := by decide +kernel
theorem dX5_surestWait_31 : decode cX5_surestWait 31 = .ok (.iload_n 3, 1) := by decide +kernel
theorem dX5_surestWait_32 : decode cX5_surestWait 32 = .ok (.if_icmp .le 9, 3) := by decide +kernel
theorem dX5_surestWait_35 : decode cX5_surestWait 35 = .ok (.iload 5, 2) := by decide +kernel
theorem dX5_surestWait_37 : decode cX5_surestWait 37 = .ok (.istore_n 3, 1) := by decide +kernel
theorem dX5_surestWait_38 : decode cX5_surestWait 38 = .ok (.iload 4, 2) := by decide +kernel
theorem dX5_surestWait_40 : decode cX5_surestWait 40 = .ok (.istore_n 2, 1) := by decide +kernel
theorem dX5_surestWait_41 : decode cX5_surestWait 41 = .ok (.iinc 4 1, 3) := by decide +kernel
theorem dX5_surestWait_44 : decode cX5_surestWait 44 = .ok (.goto (-37), 3) := by decide +kernel
theorem dX5_surestWait_47 : decode cX5_surestWait 47 = .ok (.iload_n 2, 1) := by decide +kernel
theorem dX5_surestWait_48 : decode cX5_surestWait 48 = .ok (.ireturn, 1) := by decide +kernel
theorem dX5_leastPumps_0 : decode cX5_leastPumps 0 = .ok (.aload_n 0, 1) := by decide +kernel
theorem dX5_leastPumps_1 : decode cX5_leastPumps 1 = .ok (.getfield 12, 3) := by decide +kernel
theorem dX5_leastPumps_4 : decode cX5_leastPumps 4 = .ok (.getfield 117, 3) := by decide +kernel
theorem dX5_leastPumps_7 : decode cX5_leastPumps 7 = .ok (.istore_n 2, 1) := by decide +kernel
theorem dX5_leastPumps_8 : decode cX5_leastPumps 8 = .ok (.iconst 0, 1) := by decide +kernel
theorem dX5_leastPumps_9 : decode cX5_leastPumps 9 = .ok (.istore_n 3, 1) := by decide +kernel
theorem dX5_leastPumps_10 : decode cX5_leastPumps 10 = .ok (.iload_n 3, 1) := by decide +kernel
theorem dX5_leastPumps_11 : decode cX5_leastPumps 11 = .ok (.bipush 59, 2) := by decide +kernel
theorem dX5_leastPumps_13 : decode cX5_leastPumps 13 = .ok (.if_icmp .gt 37, 3) := by decide +kernel
theorem dX5_leastPumps_16 : decode cX5_leastPumps 16 = .ok (.iload_n 2, 1) := by decide +kernel
theorem dX5_leastPumps_17 : decode cX5_leastPumps 17 = .ok (.iload_n 3, 1) := by decide +kernel
theorem dX5_leastPumps_18 : decode cX5_leastPumps 18 = .ok (.iadd, 1) := by decide +kernel
theorem dX5_leastPumps_19 : decode cX5_leastPumps 19 = .ok (.bipush 60, 2) := by decide +kernel
theorem dX5_leastPumps_21 : decode cX5_leastPumps 21 = .ok (.if_icmp .gt 29, 3) := by decide +kernel
theorem dX5_leastPumps_24 : decode cX5_leastPumps 24 = .ok (.aload_n 0, 1) := by decide +kernel
theorem dX5_leastPumps_25 : decode cX5_leastPumps 25 = .ok (.getfield 12, 3) := by decide +kernel
theorem dX5_leastPumps_28 : decode cX5_leastPumps 28 = .ok (.iload_n 2, 1) := by decide +kernel
theorem dX5_leastPumps_29 : decode cX5_leastPumps 29 = .ok (.iload_n 3, 1) := by decide +kernel
theorem dX5_leastPumps_30 : decode cX5_leastPumps 30 = .ok (.iadd, 1) := by decide +kernel
theorem dX5_leastPumps_31 : decode cX5_leastPumps 31 = .ok (.putfield 117, 3) := by decide +kernel
theorem dX5_leastPumps_34 : decode cX5_leastPumps 34 = .ok (.aload_n 0, 1) := by decide +kernel
theorem dX5_leastPumps_35 : decode cX5_leastPumps 35 = .ok (.iload_n 1, 1) := by decide +kernel
theorem dX5_leastPumps_36 : decode cX5_leastPumps 36 = .ok (.invokevirtual 120, 3) := by decide +kernel
theorem dX5_leastPumps_39 : decode cX5_leastPumps 39 = .ok (.ifCond .lt 5, 3) := by decide +kernel
theorem dX5_leastPumps_42 : decode cX5_leastPumps 42 = .ok (.iload_n 3, 1) := by decide +kernel
theorem dX5_leastPumps_43 : decode cX5_leastPumps 43 = .ok (.ireturn, 1) := by decide +kernel
theorem dX5_leastPumps_44 : decode cX5_leastPumps 44 = .ok (.iinc 3 1, 3) := by decide +kernel
theorem dX5_leastPumps_47 : decode cX5_leastPumps 47 = .ok (.goto (-37), 3) := by decide +kernel
theorem dX5_leastPumps_50 : decode cX5_leastPumps 50 = .ok (.iconst (-1), 1) := by decide +kernel
theorem dX5_leastPumps_51 : decode cX5_leastPumps 51 = .ok (.ireturn, 1) := by decide +kernel
theorem dX5_leastSteps_0 : decode cX5_leastSteps 0 = .ok (.aload_n 0, 1) := by decide +kernel
theorem dX5_leastSteps_1 : decode cX5_leastSteps 1 = .ok (.getfield 18, 3) := by decide +kernel
theorem dX5_leastSteps_4 : decode cX5_leastSteps 4 = .ok (.getfield 123, 3) := by decide +kernel
theorem dX5_leastSteps_7 : decode cX5_leastSteps 7 = .ok (.istore_n 2, 1) := by decide +kernel
theorem dX5_leastSteps_8 : decode cX5_leastSteps 8 = .ok (.iconst 0, 1) := by decide +kernel
theorem dX5_leastSteps_9 : decode cX5_leastSteps 9 = .ok (.istore_n 3, 1) := by decide +kernel
theorem dX5_leastSteps_10 : decode cX5_leastSteps 10 = .ok (.iload_n 3, 1) := by decide +kernel
theorem dX5_leastSteps_11 : decode cX5_leastSteps 11 = .ok (.bipush 40, 2) := by decide +kernel
theorem dX5_leastSteps_13 : decode cX5_leastSteps 13 = .ok (.if_icmp .ge 47, 3) := by decide +kernel
theorem dX5_leastSteps_16 : decode cX5_leastSteps 16 = .ok (.aload_n 0, 1) := by decide +kernel
theorem dX5_leastSteps_17 : decode cX5_leastSteps 17 = .ok (.getfield 18, 3) := by decide +kernel
theorem dX5_leastSteps_20 : decode cX5_leastSteps 20 = .ok (.getfield 126, 3) := by decide +kernel
theorem dX5_leastSteps_23 : decode cX5_leastSteps 23 = .ok (.ifCond .le 37, 3) := by decide +kernel
theorem dX5_leastSteps_26 : decode cX5_leastSteps 26 = .ok (.aload_n 0, 1) := by decide +kernel
theorem dX5_leastSteps_27 : decode cX5_leastSteps 27 = .ok (.getfield 18, 3) := by decide +kernel
theorem dX5_leastSteps_30 : decode cX5_leastSteps 30 = .ok (.iload_n 2, 1) := by decide +kernel
theorem dX5_leastSteps_31 : decode cX5_leastSteps 31 = .ok (.iload_n 3, 1) := by decide +kernel
theorem dX5_leastSteps_32 : decode cX5_leastSteps 32 = .ok (.iadd, 1) := by decide +kernel
theorem dX5_leastSteps_33 : decode cX5_leastSteps 33 = .ok (.aload_n 0, 1) := by decide +kernel
theorem dX5_leastSteps_34 : decode cX5_leastSteps 34 = .ok (.getfield 18, 3) := by decide +kernel
theorem dX5_leastSteps_37 : decode cX5_leastSteps 37 = .ok (.getfield 126, 3) := by decide +kernel
theorem dX5_leastSteps_40 : decode cX5_leastSteps 40 = .ok (.irem, 1) := by decide +kernel
theorem dX5_leastSteps_41 : decode cX5_leastSteps 41 = .ok (.putfield 123, 3) := by decide +kernel
theorem dX5_leastSteps_44 : decode cX5_leastSteps 44 = .ok (.aload_n 0, 1) := by decide +kernel
theorem dX5_leastSteps_45 : decode cX5_leastSteps 45 = .ok (.iload_n 1, 1) := by decide +kernel
theorem dX5_leastSteps_46 : decode cX5_leastSteps 46 = .ok (.invokevirtual 120, 3) := by decide +kernel
theorem dX5_leastSteps_49 : decode cX5_leastSteps 49 = .ok (.ifCond .lt 5, 3) := by decide +kernel
theorem dX5_leastSteps_52 : decode cX5_leastSteps 52 = .ok (.iload_n 3, 1) := by decide +kernel
theorem dX5_leastSteps_53 : decode cX5_leastSteps 53 = .ok (.ireturn, 1) := by decide +kernel
theorem dX5_leastSteps_54 : decode cX5_leastSteps 54 = .ok (.iinc 3 1, 3) := by decide +kernel
theorem dX5_leastSteps_57 : decode cX5_leastSteps 57 = .ok (.goto (-47), 3) := by decide +kernel
theorem dX5_leastSteps_60 : decode cX5_leastSteps 60 = .ok (.iconst (-1), 1) := by decide +kernel
theorem dX5_leastSteps_61 : decode cX5_leastSteps 61 = .ok (.ireturn, 1) := by decide +kernel
theorem dX5_gatherFalls_0 : decode cX5_gatherFalls 0 = .ok (.aload_n 0, 1) := by decide +kernel
theorem dX5_gatherFalls_1 : decode cX5_gatherFalls 1 = .ok (.iconst 0, 1) := by decide +kernel
theorem dX5_gatherFalls_2 : decode cX5_gatherFalls 2 = .ok (.putfield 129, 3) := by decide +kernel
theorem dX5_gatherFalls_5 : decode cX5_gatherFalls 5 = .ok (.iconst 0, 1) := by decide +kernel
theorem dX5_gatherFalls_6 : decode cX5_gatherFalls 6 = .ok (.istore_n 2, 1) := by decide +kernel
theorem dX5_gatherFalls_7 : decode cX5_gatherFalls 7 = .ok (.iload_n 2, 1) := by decide +kernel
theorem dX5_gatherFalls_8 : decode cX5_gatherFalls 8 = .ok (.iload_n 1, 1) := by decide +kernel
theorem dX5_gatherFalls_9 : decode cX5_gatherFalls 9 = .ok (.if_icmp .ge 54, 3) := by decide +kernel
theorem dX5_gatherFalls_12 : decode cX5_gatherFalls 12 = .ok (.iload_n 2, 1) := by decide +kernel
theorem dX5_gatherFalls_13 : decode cX5_gatherFalls 13 = .ok (.bipush 60, 2) := by decide +kernel
theorem dX5_gatherFalls_15 : decode cX5_gatherFalls 15 = .ok (.if_icmp .ge 48, 3) := by decide +kernel
theorem dX5_gatherFalls_18 : decode cX5_gatherFalls 18 = .ok (.aload_n 0, 1) := by decide +kernel
theorem dX5_gatherFalls_19 : decode cX5_gatherFalls 19 = .ok (.aload_n 0, 1) := by decide +kernel
theorem dX5_gatherFalls_20 : decode cX5_gatherFalls 20 = .ok (.getfield 32, 3) := by decide +kernel
theorem dX5_gatherFalls_23 : decode cX5_gatherFalls 23 = .ok (.getfield 108, 3) := by decide +kernel
theorem dX5_gatherFalls_26 : decode cX5_gatherFalls 26 = .ok (.iload_n 2, 1) := by decide +kernel
theorem dX5_gatherFalls_27 : decode cX5_gatherFalls 27 = .ok (.iadd, 1) := by decide +kernel
theorem dX5_gatherFalls_28 : decode cX5_gatherFalls 28 = .ok (.invokevirtual 111, 3) := by decide +kernel
theorem dX5_gatherFalls_31 : decode cX5_gatherFalls 31 = .ok (.ifCond .ne 26, 3) := by decide +kernel
theorem dX5_gatherFalls_34 : decode cX5_gatherFalls 34 = .ok (.aload_n 0, 1) := by decide +kernel
theorem dX5_gatherFalls_35 : decode cX5_gatherFalls 35 = .ok (.getfield 28, 3) := by decide +kernel
theorem dX5_gatherFalls_38 : decode cX5_gatherFalls 38 = .ok (.aload_n 0, 1) := by decide +kernel
theorem dX5_gatherFalls_39 : decode cX5_gatherFalls 39 = .ok (.getfield 129, 3) := by decide +kernel
theorem dX5_gatherFalls_42 : decode cX5_gatherFalls 42 = .ok (.aload_n 0, 1) := by decide +kernel
theorem dX5_gatherFalls_43 : decode cX5_gatherFalls 43 = .ok (.getfield 80, 3) := by decide +kernel
theorem dX5_gatherFalls_46 : decode cX5_gatherFalls 46 = .ok (.iastore, 1) := by decide +kernel
theorem dX5_gatherFalls_47 : decode cX5_gatherFalls 47 = .ok (.aload_n 0, 1) := by decide +kernel
theorem dX5_gatherFalls_48 : decode cX5_gatherFalls 48 = .ok (.dup, 1) := by decide +kernel
theorem dX5_gatherFalls_49 : decode cX5_gatherFalls 49 = .ok (.getfield 129, 3) := by decide +kernel
theorem dX5_gatherFalls_52 : decode cX5_gatherFalls 52 = .ok (.iconst 1, 1) := by decide +kernel
theorem dX5_gatherFalls_53 : decode cX5_gatherFalls 53 = .ok (.iadd, 1) := by decide +kernel
theorem dX5_gatherFalls_54 : decode cX5_gatherFalls 54 = .ok (.putfield 129, 3) := by decide +kernel
theorem dX5_gatherFalls_57 : decode cX5_gatherFalls 57 = .ok (.iinc 2 1, 3) := by decide +kernel
theorem dX5_gatherFalls_60 : decode cX5_gatherFalls 60 = .ok (.goto (-53), 3) := by decide +kernel
theorem dX5_gatherFalls_63 : decode cX5_gatherFalls 63 = .ok (.aload_n 0, 1) := by decide +kernel
theorem dX5_gatherFalls_64 : decode cX5_gatherFalls 64 = .ok (.getfield 129, 3) := by decide +kernel
theorem dX5_gatherFalls_67 : decode cX5_gatherFalls 67 = .ok (.ireturn, 1) := by decide +kernel
theorem dX5_harmTogether_0 : decode cX5_harmTogether 0 = .ok (.iconst 0, 1) := by decide +kernel
theorem dX5_harmTogether_1 : decode cX5_harmTogether 1 = .ok (.istore_n 2, 1) := by decide +kernel
theorem dX5_harmTogether_2 : decode cX5_harmTogether 2 = .ok (.iconst 0, 1) := by decide +kernel
theorem dX5_harmTogether_3 : decode cX5_harmTogether 3 = .ok (.istore_n 3, 1) := by decide +kernel
theorem dX5_harmTogether_4 : decode cX5_harmTogether 4 = .ok (.iload_n 3, 1) := by decide +kernel
theorem dX5_harmTogether_5 : decode cX5_harmTogether 5 = .ok (.aload_n 0, 1) := by decide +kernel
theorem dX5_harmTogether_6 : decode cX5_harmTogether 6 = .ok (.getfield 129, 3) := by decide +kernel
theorem dX5_harmTogether_9 : decode cX5_harmTogether 9 = .ok (.if_icmp .ge 36, 3) := by decide +kernel
theorem dX5_harmTogether_12 : decode cX5_harmTogether 12 = .ok (.iload_n 3, 1) := by decide +kernel
theorem dX5_harmTogether_13 : decode cX5_harmTogether 13 = .ok (.bipush 60, 2) := by decide +kernel
theorem dX5_harmTogether_15 : decode cX5_harmTogether 15 = .ok (.if_icmp .ge 30, 3) := by decide +kernel
theorem dX5_harmTogether_18 : decode cX5_harmTogether 18 = .ok (.iload_n 2, 1) := by decide +kernel
theorem dX5_harmTogether_19 : decode cX5_harmTogether 19 = .ok (.aload_n 0, 1) := by decide +kernel
theorem dX5_harmTogether_20 : decode cX5_harmTogether 20 = .ok (.getfield 24, 3) := by decide +kernel
theorem dX5_harmTogether_23 : decode cX5_harmTogether 23 = .ok (.aload_n 0, 1) := by decide +kernel
theorem dX5_harmTogether_24 : decode cX5_harmTogether 24 = .ok (.getfield 28, 3) := by decide +kernel
theorem dX5_harmTogether_27 : decode cX5_harmTogether 27 = .ok (.iload_n 3, 1) := by decide +kernel
theorem dX5_harmTogether_28 : decode cX5_harmTogether 28 = .ok (.iaload, 1) := by decide +kernel
theorem dX5_harmTogether_29 : decode cX5_harmTogether 29 = .ok (.iload_n 1, 1) := by decide +kernel
theorem dX5_harmTogether_30 : decode cX5_harmTogether 30 = .ok (.isub, 1) := by decide +kernel
theorem dX5_harmTogether_31 : decode cX5_harmTogether 31 = .ok (.invokestatic 86, 3) := by decide +kernel
theorem dX5_harmTogether_34 : decode cX5_harmTogether 34 = .ok (.invokevirtual 132, 3) := by decide +kernel
theorem dX5_harmTogether_37 : decode cX5_harmTogether 37 = .ok (.iadd, 1) := by decide +kernel
theorem dX5_harmTogether_38 : decode cX5_harmTogether 38 = .ok (.istore_n 2, 1) := by decide +kernel
theorem dX5_harmTogether_39 : decode cX5_harmTogether 39 = .ok (.iinc 3 1, 3) := by decide +kernel
theorem dX5_harmTogether_42 : decode cX5_harmTogether 42 = .ok (.goto (-38), 3) := by decide +kernel
theorem dX5_harmTogether_45 : decode cX5_harmTogether 45 = .ok (.iload_n 2, 1) := by decide +kernel
theorem dX5_harmTogether_46 : decode cX5_harmTogether 46 = .ok (.ireturn, 1) := by decide +kernel
theorem dX5_leastHarmPlace_0 : decode cX5_leastHarmPlace 0 = .ok (.bipush (-99), 2) := by decide +kernel
theorem dX5_leastHarmPlace_2 : decode cX5_leastHarmPlace 2 = .ok (.istore_n 1, 1) := by decide +kernel
theorem dX5_leastHarmPlace_3 : decode cX5_leastHarmPlace 3 = .ok (.aload_n 0, 1) := by decide +kernel
theorem dX5_leastHarmPlace_4 : decode cX5_leastHarmPlace 4 = .ok (.iload_n 1, 1) := by decide +kernel
theorem dX5_leastHarmPlace_5 : decode cX5_leastHarmPlace 5 = .ok (.invokevirtual 135, 3) := by decide +kernel
theorem dX5_leastHarmPlace_8 : decode cX5_leastHarmPlace 8 = .ok (.istore_n 2, 1) := by decide +kernel
theorem dX5_leastHarmPlace_9 : decode cX5_leastHarmPlace 9 = .ok (.bipush (-98), 2) := by decide +kernel
theorem dX5_leastHarmPlace_11 : decode cX5_leastHarmPlace 11 = .ok (.istore_n 3, 1) := by decide +kernel
theorem dX5_leastHarmPlace_12 : decode cX5_leastHarmPlace 12 = .ok (.iload_n 3, 1) := by decide +kernel
theorem dX5_leastHarmPlace_13 : decode cX5_leastHarmPlace 13 = .ok (.sipush 299, 3) := by decide +kernel
theorem dX5_leastHarmPlace_16 : decode cX5_leastHarmPlace 16 = .ok (.if_icmp .gt 27, 3) := by decide +kernel
theorem dX5_leastHarmPlace_19 : decode cX5_leastHarmPlace 19 = .ok (.aload_n 0, 1) := by decide +kernel
theorem dX5_leastHarmPlace_20 : decode cX5_leastHarmPlace 20 = .ok (.iload_n 3, 1) := by decide +kernel
theorem dX5_leastHarmPlace_21 : decode cX5_leastHarmPlace 21 = .ok (.invokevirtual 135, 3) := by decide +kernel
theorem dX5_leastHarmPlace_24 : decode cX5_leastHarmPlace 24 = .ok (.istore 4, 2) := by decide +kernel
theorem dX5_leastHarmPlace_26 : decode cX5_leastHarmPlace 26 = .ok (.iload 4, 2) := by decide +kernel
theorem dX5_leastHarmPlace_28 : decode cX5_leastHarmPlace 28 = .ok (.iload_n 2, 1) := by decide +kernel
theorem dX5_leastHarmPlace_29 : decode cX5_leastHarmPlace 29 = .ok (.if_icmp .ge 8, 3) := by decide +kernel
theorem dX5_leastHarmPlace_32 : decode cX5_leastHarmPlace 32 = .ok (.iload 4, 2) := by decide +kernel
theorem dX5_leastHarmPlace_34 : decode cX5_leastHarmPlace 34 = .ok (.istore_n 2, 1) := by decide +kernel
theorem dX5_leastHarmPlace_35 : decode cX5_leastHarmPlace 35 = .ok (.iload_n 3, 1) := by decide +kernel
theorem dX5_leastHarmPlace_36 : decode cX5_leastHarmPlace 36 = .ok (.istore_n 1, 1) := by decide +kernel
theorem dX5_leastHarmPlace_37 : decode cX5_leastHarmPlace 37 = .ok (.iinc 3 1, 3) := by decide +kernel
theorem dX5_leastHarmPlace_40 : decode cX5_leastHarmPlace 40 = .ok (.goto (-28), 3) := by decide +kernel
theorem dX5_leastHarmPlace_43 : decode cX5_leastHarmPlace 43 = .ok (.iload_n 1, 1) := by decide +kernel
theorem dX5_leastHarmPlace_44 : decode cX5_leastHarmPlace 44 = .ok (.ireturn, 1) := by decide +kernel
theorem dX5_isAsTold_0 : decode cX5_isAsTold 0 = .ok (.iconst 0, 1) := by decide +kernel
theorem dX5_isAsTold_1 : decode cX5_isAsTold 1 = .ok (.istore_n 2, 1) := by decide +kernel
theorem dX5_isAsTold_2 : decode cX5_isAsTold 2 = .ok (.iload_n 2, 1) := by decide +kernel
theorem dX5_isAsTold_3 : decode cX5_isAsTold 3 = .ok (.aload_n 1, 1) := by decide +kernel
theorem dX5_isAsTold_4 : decode cX5_isAsTold 4 = .ok (.getfield 138, 3) := by decide +kernel
theorem dX5_isAsTold_7 : decode cX5_isAsTold 7 = .ok (.if_icmp .ge 38, 3) := by decide +kernel
theorem dX5_isAsTold_10 : decode cX5_isAsTold 10 = .ok (.aload_n 0, 1) := by decide +kernel
theorem dX5_isAsTold_11 : decode cX5_isAsTold 11 = .ok (.aload_n 0, 1) := by decide +kernel
theorem dX5_isAsTold_12 : decode cX5_isAsTold 12 = .ok (.getfield 32, 3) := by decide +kernel
theorem dX5_isAsTold_15 : decode cX5_isAsTold 15 = .ok (.getfield 108, 3) := by decide +kernel
theorem dX5_isAsTold_18 : decode cX5_isAsTold 18 = .ok (.iload_n 2, 1) := by decide +kernel
theorem dX5_isAsTold_19 : decode cX5_isAsTold 19 = .ok (.iadd, 1) := by decide +kernel
theorem dX5_isAsTold_20 : decode cX5_isAsTold 20 = .ok (.iconst 0, 1) := by decide +kernel
theorem dX5_isAsTold_21 : decode cX5_isAsTold 21 = .ok (.invokevirtual 97, 3) := by decide +kernel
theorem dX5_isAsTold_24 : decode cX5_isAsTold 24 = .ok (.aload_n 0, 1) := by decide +kernel
theorem dX5_isAsTold_25 : decode cX5_isAsTold 25 = .ok (.iconst 0, 1) := by decide +kernel
theorem dX5_isAsTold_26 : decode cX5_isAsTold 26 = .ok (.invokevirtual 101, 3) := by decide +kernel
theorem dX5_isAsTold_29 : decode cX5_isAsTold 29 = .ok (.aload_n 1, 1) := by decide +kernel
theorem dX5_isAsTold_30 : decode cX5_isAsTold 30 = .ok (.iload_n 2, 1) := by decide +kernel
theorem dX5_isAsTold_31 : decode cX5_isAsTold 31 = .ok (.invokevirtual 143, 3) := by decide +kernel
theorem dX5_isAsTold_34 : decode cX5_isAsTold 34 = .ok (.if_icmp .eq 5, 3) := by decide +kernel
theorem dX5_isAsTold_37 : decode cX5_isAsTold 37 = .ok (.iconst 0, 1) := by decide +kernel
theorem dX5_isAsTold_38 : decode cX5_isAsTold 38 = .ok (.ireturn, 1) := by decide +kernel
theorem dX5_isAsTold_39 : decode cX5_isAsTold 39 = .ok (.iinc 2 1, 3) := by decide +kernel
theorem dX5_isAsTold_42 : decode cX5_isAsTold 42 = .ok (.goto (-40), 3) := by decide +kernel
theorem dX5_isAsTold_45 : decode cX5_isAsTold 45 = .ok (.iconst 1, 1) := by decide +kernel
theorem dX5_isAsTold_46 : decode cX5_isAsTold 46 = .ok (.ireturn, 1) := by decide +kernel
theorem dX5_firstPhase_0 : decode cX5_firstPhase 0 = .ok (.iload_n 2, 1) := by decide +kernel
theorem dX5_firstPhase_1 : decode cX5_firstPhase 1 = .ok (.istore_n 3, 1) := by decide +kernel
theorem dX5_firstPhase_2 : decode cX5_firstPhase 2 = .ok (.iload_n 3, 1) := by decide +kernel
theorem dX5_firstPhase_3 : decode cX5_firstPhase 3 = .ok (.aload_n 0, 1) := by decide +kernel
theorem dX5_firstPhase_4 : decode cX5_firstPhase 4 = .ok (.getfield 18, 3) := by decide +kernel
theorem dX5_firstPhase_7 : decode cX5_firstPhase 7 = .ok (.getfield 126, 3) := by decide +kernel
theorem dX5_firstPhase_10 : decode cX5_firstPhase 10 = .ok (.if_icmp .ge 27, 3) := by decide +kernel
theorem dX5_firstPhase_13 : decode cX5_firstPhase 13 = .ok (.aload_n 0, 1) := by decide +kernel
theorem dX5_firstPhase_14 : decode cX5_firstPhase 14 = .ok (.getfield 18, 3) := by decide +kernel
theorem dX5_firstPhase_17 : decode cX5_firstPhase 17 = .ok (.iload_n 3, 1) := by decide +kernel
theorem dX5_firstPhase_18 : decode cX5_firstPhase 18 = .ok (.putfield 123, 3) := by decide +kernel
theorem dX5_firstPhase_21 : decode cX5_firstPhase 21 = .ok (.aload_n 0, 1) := by decide +kernel
theorem dX5_firstPhase_22 : decode cX5_firstPhase 22 = .ok (.aload_n 1, 1) := by decide +kernel
theorem dX5_firstPhase_23 : decode cX5_firstPhase 23 = .ok (.invokevirtual 146, 3) := by decide +kernel
theorem dX5_firstPhase_26 : decode cX5_firstPhase 26 = .ok (.ifCond .eq 5, 3) := by decide +kernel
theorem dX5_firstPhase_29 : decode cX5_firstPhase 29 = .ok (.iload_n 3, 1) := by decide +kernel
theorem dX5_firstPhase_30 : decode cX5_firstPhase 30 = .ok (.ireturn, 1) := by decide +kernel
theorem dX5_firstPhase_31 : decode cX5_firstPhase 31 = .ok (.iinc 3 1, 3) := by decide +kernel
theorem dX5_firstPhase_34 : decode cX5_firstPhase 34 = .ok (.goto (-32), 3) := by decide +kernel
theorem dX5_firstPhase_37 : decode cX5_firstPhase 37 = .ok (.iconst (-1), 1) := by decide +kernel
theorem dX5_firstPhase_38 : decode cX5_firstPhase 38 = .ok (.ireturn, 1) := by decide +kernel
theorem dX5_howManyPhases_0 : decode cX5_howManyPhases 0 = .ok (.iconst 0, 1) := by decide +kernel
theorem dX5_howManyPhases_1 : decode cX5_howManyPhases 1 = .ok (.istore_n 2, 1) := by decide +kernel
theorem dX5_howManyPhases_2 : decode cX5_howManyPhases 2 = .ok (.aload_n 0, 1) := by decide +kernel
theorem dX5_howManyPhases_3 : decode cX5_howManyPhases 3 = .ok (.aload_n 1, 1) := by decide +kernel
theorem dX5_howManyPhases_4 : decode cX5_howManyPhases 4 = .ok (.iconst 0, 1) := by decide +kernel
theorem dX5_howManyPhases_5 : decode cX5_howManyPhases 5 = .ok (.invokevirtual 150, 3) := by decide +kernel
theorem dX5_howManyPhases_8 : decode cX5_howManyPhases 8 = .ok (.istore_n 3, 1) := by decide +kernel
theorem dX5_howManyPhases_9 : decode cX5_howManyPhases 9 = .ok (.iconst 0, 1) := by decide +kernel
theorem dX5_howManyPhases_10 : decode cX5_howManyPhases 10 = .ok (.istore 4, 2) := by decide +kernel
theorem dX5_howManyPhases_12 : decode cX5_howManyPhases 12 = .ok (.iload 4, 2) := by decide +kernel
theorem dX5_howManyPhases_14 : decode cX5_howManyPhases 14 = .ok (.bipush 40, 2) := by decide +kernel
theorem dX5_howManyPhases_16 : decode cX5_howManyPhases 16 = .ok (.if_icmp .ge 25, 3) := by decide +kernel
theorem dX5_howManyPhases_19 : decode cX5_howManyPhases 19 = .ok (.iload_n 3, 1) := by decide +kernel
theorem dX5_howManyPhases_20 : decode cX5_howManyPhases 20 = .ok (.ifCond .lt 21, 3) := by decide +kernel
theorem dX5_howManyPhases_23 : decode cX5_howManyPhases 23 = .ok (.iinc 2 1, 3) := by decide +kernel
theorem dX5_howManyPhases_26 : decode cX5_howManyPhases 26 = .ok (.aload_n 0, 1) := by decide +kernel
theorem dX5_howManyPhases_27 : decode cX5_howManyPhases 27 = .ok (.aload_n 1, 1) := by decide +kernel
theorem dX5_howManyPhases_28 : decode cX5_howManyPhases 28 = .ok (.iload_n 3, 1) := by decide +kernel
theorem dX5_howManyPhases_29 : decode cX5_howManyPhases 29 = .ok (.iconst 1, 1) := by decide +kernel
theorem dX5_howManyPhases_30 : decode cX5_howManyPhases 30 = .ok (.iadd, 1) := by decide +kernel
theorem dX5_howManyPhases_31 : decode cX5_howManyPhases 31 = .ok (.invokevirtual 150, 3) := by decide +kernel
theorem dX5_howManyPhases_34 : decode cX5_howManyPhases 34 = .ok (.istore_n 3, 1) := by decide +kernel
theorem dX5_howManyPhases_35 : decode cX5_howManyPhases 35 = .ok (.iinc 4 1, 3) := by decide +kernel
theorem dX5_howManyPhases_38 : decode cX5_howManyPhases 38 = .ok (.goto (-26), 3) := by decide +kernel
theorem dX5_howManyPhases_41 : decode cX5_howManyPhases 41 = .ok (.iload_n 2, 1) := by decide +kernel
theorem dX5_howManyPhases_42 : decode cX5_howManyPhases 42 = .ok (.ireturn, 1) := by decide +kernel
theorem dX5_leastLag_0 : decode cX5_leastLag 0 = .ok (.iconst 0, 1) := by decide +kernel
theorem dX5_leastLag_1 : decode cX5_leastLag 1 = .ok (.istore_n 2, 1) := by decide +kernel
theorem dX5_leastLag_2 : decode cX5_leastLag 2 = .ok (.iload_n 2, 1) := by decide +kernel
theorem dX5_leastLag_3 : decode cX5_leastLag 3 = .ok (.bipush 9, 2) := by decide +kernel
theorem dX5_leastLag_5 : decode cX5_leastLag 5 = .ok (.if_icmp .gt 24, 3) := by decide +kernel
theorem dX5_leastLag_8 : decode cX5_leastLag 8 = .ok (.aload_n 0, 1) := by decide +kernel
theorem dX5_leastLag_9 : decode cX5_leastLag 9 = .ok (.iload_n 2, 1) := by decide +kernel
theorem dX5_leastLag_10 : decode cX5_leastLag 10 = .ok (.putfield 51, 3) := by decide +kernel
theorem dX5_leastLag_13 : decode cX5_leastLag 13 = .ok (.aload_n 0, 1) := by decide +kernel
theorem dX5_leastLag_14 : decode cX5_leastLag 14 = .ok (.aload_n 1, 1) := by decide +kernel
theorem dX5_leastLag_15 : decode cX5_leastLag 15 = .ok (.invokevirtual 146, 3) := by decide +kernel
theorem dX5_leastLag_18 : decode cX5_leastLag 18 = .ok (.ifCond .eq 5, 3) := by decide +kernel
theorem dX5_leastLag_21 : decode cX5_leastLag 21 = .ok (.iload_n 2, 1) := by decide +kernel
theorem dX5_leastLag_22 : decode cX5_leastLag 22 = .ok (.ireturn, 1) := by decide +kernel
theorem dX5_leastLag_23 : decode cX5_leastLag 23 = .ok (.iinc 2 1, 3) := by decide +kernel
theorem dX5_leastLag_26 : decode cX5_leastLag 26 = .ok (.goto (-24), 3) := by decide +kernel
theorem dX5_leastLag_29 : decode cX5_leastLag 29 = .ok (.iconst (-1), 1) := by decide +kernel
theorem dX5_leastLag_30 : decode cX5_leastLag 30 = .ok (.ireturn, 1) := by decide +kernel
theorem dX6_init_0 : decode cX6_init 0 = .ok (.aload_n 0, 1) := by decide +kernel
theorem dX6_init_1 : decode cX6_init 1 = .ok (.invokespecial 3, 3) := by decide +kernel
theorem dX6_init_4 : decode cX6_init 4 = .ok (.aload_n 0, 1) := by decide +kernel
theorem dX6_init_5 : decode cX6_init 5 = .ok (.bipush 40, 2) := by decide +kernel
theorem dX6_init_7 : decode cX6_init 7 = .ok (.newarray .int, 2) := by decide +kernel
theorem dX6_init_9 : decode cX6_init 9 = .ok (.putfield 9, 3) := by decide +kernel
theorem dX6_init_12 : decode cX6_init 12 = .ok (.aload_n 0, 1) := by decide +kernel
theorem dX6_init_13 : decode cX6_init 13 = .ok (.new 15, 3) := by decide +kernel
theorem dX6_init_16 : decode cX6_init 16 = .ok (.dup, 1) := by decide +kernel
theorem dX6_init_17 : decode cX6_init 17 = .ok (.invokespecial 17, 3) := by decide +kernel
theorem dX6_init_20 : decode cX6_init 20 = .ok (.putfield 18, 3) := by decide +kernel
theorem dX6_init_23 : decode cX6_init 23 = .ok (.return_, 1) := by decide +kernel
theorem dX6_speak_0 : decode cX6_speak 0 = .ok (.aload_n 0, 1) := by decide +kernel
theorem dX6_speak_1 : decode cX6_speak 1 = .ok (.iconst 0, 1) := by decide +kernel
theorem dX6_speak_2 : decode cX6_speak 2 = .ok (.putfield 22, 3) := by decide +kernel
theorem dX6_speak_5 : decode cX6_speak 5 = .ok (.aload_n 0, 1) := by decide +kernel
theorem dX6_speak_6 : decode cX6_speak 6 = .ok (.iload_n 1, 1) := by decide +kernel
theorem dX6_speak_7 : decode cX6_speak 7 = .ok (.putfield 26, 3) := by decide +kernel
theorem dX6_speak_10 : decode cX6_speak 10 = .ok (.aload_n 0, 1) := by decide +kernel
theorem dX6_speak_11 : decode cX6_speak 11 = .ok (.getfield 18, 3) := by decide +kernel
theorem dX6_speak_14 : decode cX6_speak 14 = .ok (.aload_n 2, 1) := by decide +kernel
theorem dX6_speak_15 : decode cX6_speak 15 = .ok (.invokevirtual 29, 3) := by decide +kernel
theorem dX6_speak_18 : decode cX6_speak 18 = .ok (.aload_n 0, 1) := by decide +kernel
theorem dX6_speak_19 : decode cX6_speak 19 = .ok (.iload_n 3, 1) := by decide +kernel
theorem dX6_speak_20 : decode cX6_speak 20 = .ok (.aload_n 0, 1) := by decide +kernel
theorem dX6_speak_21 : decode cX6_speak 21 = .ok (.getfield 18, 3) := by decide +kernel
theorem dX6_speak_24 : decode cX6_speak 24 = .ok (.getfield 33, 3) := by decide +kernel
theorem dX6_speak_27 : decode cX6_speak 27 = .ok (.iload 4, 2) := by decide +kernel
theorem dX6_speak_29 : decode cX6_speak 29 = .ok (.iconst 0, 1) := by decide +kernel
theorem dX6_speak_30 : decode cX6_speak 30 = .ok (.invokevirtual 36, 3) := by decide +kernel
theorem dX6_speak_33 : decode cX6_speak 33 = .ok (.ireturn, 1) := by decide +kernel
theorem dX6_bodyAt_0 : decode cX6_bodyAt 0 = .ok (.iload_n 1, 1) := by decide +kernel
theorem dX6_bodyAt_1 : decode cX6_bodyAt 1 = .ok (.ifCond .lt 26, 3) := by decide +kernel
theorem dX6_bodyAt_4 : decode cX6_bodyAt 4 = .ok (.iload_n 1, 1) := by decide +kernel
theorem dX6_bodyAt_5 : decode cX6_bodyAt 5 = .ok (.aload_n 0, 1) := by decide +kernel
theorem dX6_bodyAt_6 : decode cX6_bodyAt 6 = .ok (.getfield 22, 3) := by decide +kernel
theorem dX6_bodyAt_9 : decode cX6_bodyAt 9 = .ok (.if_icmp .ge 18, 3) := by decide +kernel
theorem dX6_bodyAt_12 : decode cX6_bodyAt 12 = .ok (.iload_n 1, 1) := by decide +kernel
theorem dX6_bodyAt_13 : decode cX6_bodyAt 13 = .ok (.bipush 40, 2) := by decide +kernel
theorem dX6_bodyAt_15 : decode cX6_bodyAt 15 = .ok (.if_icmp .ge 12, 3) := by decide +kernel
theorem dX6_bodyAt_18 : decode cX6_bodyAt 18 = .ok (.aload_n 0, 1) := by decide +kernel
theorem dX6_bodyAt_19 : decode cX6_bodyAt 19 = .ok (.getfield 9, 3) := by decide +kernel
theorem dX6_bodyAt_22 : decode cX6_bodyAt 22 = .ok (.iload_n 1, 1) := by decide +kernel
theorem dX6_bodyAt_23 : decode cX6_bodyAt 23 = .ok (.iaload, 1) := by decide +kernel
theorem dX6_bodyAt_24 : decode cX6_bodyAt 24 = .ok (.goto 4, 3) := by decide +kernel
theorem dX6_bodyAt_27 : decode cX6_bodyAt 27 = .ok (.iconst 0, 1) := by decide +kernel
theorem dX6_bodyAt_28 : decode cX6_bodyAt 28 = .ok (.ireturn, 1) := by decide +kernel
theorem dX6_bodyFor_0 : decode cX6_bodyFor 0 = .ok (.iload_n 1, 1) := by decide +kernel
theorem dX6_bodyFor_1 : decode cX6_bodyFor 1 = .ok (.istore_n 2, 1) := by decide +kernel
theorem dX6_bodyFor_2 : decode cX6_bodyFor 2 = .ok (.iconst 0, 1) := by decide +kernel
theorem dX6_bodyFor_3 : decode cX6_bodyFor 3 = .ok (.istore_n 3, 1) := by decide +kernel
theorem dX6_bodyFor_4 : decode cX6_bodyFor 4 = .ok (.iload_n 3, 1) := by decide +kernel
theorem dX6_bodyFor_5 : decode cX6_bodyFor 5 = .ok (.bipush 7, 2) := by decide +kernel
theorem dX6_bodyFor_7 : decode cX6_bodyFor 7 = .ok (.if_icmp .ge 56, 3) := by decide +kernel
theorem dX6_bodyFor_10 : decode cX6_bodyFor 10 = .ok (.iload_n 2, 1) := by decide +kernel
theorem dX6_bodyFor_11 : decode cX6_bodyFor 11 = .ok (.ifCond .lt 52, 3) := by decide +kernel
theorem dX6_bodyFor_14 : decode cX6_bodyFor 14 = .ok (.iload_n 0, 1) := by decide +kernel
theorem dX6_bodyFor_15 : decode cX6_bodyFor 15 = .ok (.bipush 7, 2) := by decide +kernel
theorem dX6_bodyFor_17 : decode cX6_bodyFor 17 = .ok (.imul, 1) := by decide +kernel
theorem dX6_bodyFor_18 : decode cX6_bodyFor 18 = .ok (.iload_n 2, 1) := by decide +kernel
theorem dX6_bodyFor_19 : decode cX6_bodyFor 19 = .ok (.iadd, 1) := by decide +kernel
theorem dX6_bodyFor_20 : decode cX6_bodyFor 20 = .ok (.istore 4, 2) := by decide +kernel
theorem dX6_bodyFor_22 : decode cX6_bodyFor 22 = .ok (.iload 4, 2) := by decide +kernel
theorem dX6_bodyFor_24 : decode cX6_bodyFor 24 = .ok (.ifCond .lt 28, 3) := by decide +kernel
theorem dX6_bodyFor_27 : decode cX6_bodyFor 27 = .ok (.iload 4, 2) := by decide +kernel
theorem dX6_bodyFor_29 : decode cX6_bodyFor 29 = .ok (.getstatic 40, 3) := by decide +kernel
theorem dX6_bodyFor_32 : decode cX6_bodyFor 32 = .ok (.arraylength, 1) := by decide +kernel
theorem dX6_bodyFor_33 : decode cX6_bodyFor 33 = .ok (.if_icmp .ge 19, 3) := by decide +kernel
theorem dX6_bodyFor_36 : decode cX6_bodyFor 36 = .ok (.getstatic 40, 3) := by decide +kernel
theorem dX6_bodyFor_39 : decode cX6_bodyFor 39 = .ok (.iload 4, 2) := by decide +kernel
theorem dX6_bodyFor_41 : decode cX6_bodyFor 41 = .ok (.iaload, 1) := by decide +kernel
theorem dX6_bodyFor_42 : decode cX6_bodyFor 42 = .ok (.ifCond .eq 10, 3) := by decide +kernel
theorem dX6_bodyFor_45 : decode cX6_bodyFor 45 = .ok (.getstatic 40, 3) := by decide +kernel
theorem dX6_bodyFor_48 : decode cX6_bodyFor 48 = .ok (.iload 4, 2) := by decide +kernel
theorem dX6_bodyFor_50 : decode cX6_bodyFor 50 = .ok (.iaload, 1) := by decide +kernel
theorem dX6_bodyFor_51 : decode cX6_bodyFor 51 = .ok (.ireturn, 1) := by decide +kernel
theorem dX6_bodyFor_52 : decode cX6_bodyFor 52 = .ok (.iload_n 2, 1) := by decide +kernel
theorem dX6_bodyFor_53 : decode cX6_bodyFor 53 = .ok (.invokestatic 43, 3) := by decide +kernel
theorem dX6_bodyFor_56 : decode cX6_bodyFor 56 = .ok (.istore_n 2, 1) := by decide +kernel
theorem dX6_bodyFor_57 : decode cX6_bodyFor 57 = .ok (.iinc 3 1, 3) := by decide +kernel
theorem dX6_bodyFor_60 : decode cX6_bodyFor 60 = .ok (.goto (-56), 3) := by decide +kernel
theorem dX6_bodyFor_63 : decode cX6_bodyFor 63 = .ok (.iconst 0, 1) := by decide +kernel
theorem dX6_bodyFor_64 : decode cX6_bodyFor 64 = .ok (.ireturn, 1) := by decide +kernel
theorem dX6_note_0 : decode cX6_note 0 = .ok (.aload_n 0, 1) := by decide +kernel
theorem dX6_note_1 : decode cX6_note 1 = .ok (.getfield 22, 3) := by decide +kernel
theorem dX6_note_4 : decode cX6_note 4 = .ok (.ifCond .lt 32, 3) := by decide +kernel
theorem dX6_note_7 : decode cX6_note 7 = .ok (.aload_n 0, 1) := by decide +kernel
theorem dX6_note_8 : decode cX6_note 8 = .ok (.getfield 22, 3) := by decide +kernel
theorem dX6_note_11 : decode cX6_note 11 = .ok (.bipush 40, 2) := by decide +kernel
theorem dX6_note_13 : decode cX6_note 13 = .ok (.if_icmp .ge 23, 3) := by decide +kernel
theorem dX6_note_16 : decode cX6_note 16 = .ok (.aload_n 0, 1) := by decide +kernel
theorem dX6_note_17 : decode cX6_note 17 = .ok (.getfield 9, 3) := by decide +kernel
theorem dX6_note_20 : decode cX6_note 20 = .ok (.aload_n 0, 1) := by decide +kernel
theorem dX6_note_21 : decode cX6_note 21 = .ok (.getfield 22, 3) := by decide +kernel
theorem dX6_note_24 : decode cX6_note 24 = .ok (.iload_n 1, 1) := by decide +kernel
theorem dX6_note_25 : decode cX6_note 25 = .ok (.iastore, 1) := by decide +kernel
theorem dX6_note_26 : decode cX6_note 26 = .ok (.aload_n 0, 1) := by decide +kernel
theorem dX6_note_27 : decode cX6_note 27 = .ok (.dup, 1) := by decide +kernel
theorem dX6_note_28 : decode cX6_note 28 = .ok (.getfield 22, 3) := by decide +kernel
theorem dX6_note_31 : decode cX6_note 31 = .ok (.iconst 1, 1) := by decide +kernel
theorem dX6_note_32 : decode cX6_note 32 = .ok (.iadd, 1) := by decide +kernel
theorem dX6_note_33 : decode cX6_note 33 = .ok (.putfield 22, 3) := by decide +kernel
theorem dX6_note_36 : decode cX6_note 36 = .ok (.return_, 1) := by decide +kernel
theorem dX6_own_0 : decode cX6_own 0 = .ok (.aload_n 0, 1) := by decide +kernel
theorem dX6_own_1 : decode cX6_own 1 = .ok (.iload_n 1, 1) := by decide +kernel
theorem dX6_own_2 : decode cX6_own 2 = .ok (.aload_n 0, 1) := by decide +kernel
theorem dX6_own_3 : decode cX6_own 3 = .ok (.getfield 18, 3) := by decide +kernel
theorem dX6_own_6 : decode cX6_own 6 = .ok (.getfield 33, 3) := by decide +kernel
theorem dX6_own_9 : decode cX6_own 9 = .ok (.iload_n 2, 1) := by decide +kernel
theorem dX6_own_10 : decode cX6_own 10 = .ok (.iload_n 3, 1) := by decide +kernel
theorem dX6_own_11 : decode cX6_own 11 = .ok (.invokevirtual 36, 3) := by decide +kernel
theorem dX6_own_14 : decode cX6_own 14 = .ok (.ireturn, 1) := by decide +kernel
theorem dX6_say_0 : decode cX6_say 0 = .ok (.iload 4, 2) := by decide +kernel
theorem dX6_say_2 : decode cX6_say 2 = .ok (.bipush 40, 2) := by decide +kernel
theorem dX6_say_4 : decode cX6_say 4 = .ok (.if_icmp .le 5, 3) := by decide +kernel
theorem dX6_say_7 : decode cX6_say 7 = .ok (.iconst 0, 1) := by decide +kernel
theorem dX6_say_8 : decode cX6_say 8 = .ok (.ireturn, 1) := by decide +kernel
theorem dX6_say_9 : decode cX6_say 9 = .ok (.iload_n 1, 1) := by decide +kernel
theorem dX6_say_10 : decode cX6_say 10 = .ok (.iload_n 2, 1) := by decide +kernel
theorem dX6_say_11 : decode cX6_say 11 = .ok (.invokestatic 47, 3) := by decide +kernel
theorem dX6_say_14 : decode cX6_say 14 = .ok (.istore 5, 2) := by decide +kernel
theorem dX6_say_16 : decode cX6_say 16 = .ok (.iload 5, 2) := by decide +kernel
theorem dX6_say_18 : decode cX6_say 18 = .ok (.bipush 10, 2) := by decide +kernel
theorem dX6_say_20 : decode cX6_say 20 = .ok (.idiv, 1) := by decide +kernel
theorem dX6_say_21 : decode cX6_say 21 = .ok (.iconst 1, 1) := by decide +kernel
theorem dX6_say_22 : decode cX6_say 22 = .ok (.isub, 1) := by decide +kernel
theorem dX6_say_23 : decode cX6_say 23 = .ok (.invokestatic 43, 3) := by decide +kernel
theorem dX6_say_26 : decode cX6_say 26 = .ok (.istore 6, 2) := by decide +kernel
theorem dX6_say_28 : decode cX6_say 28 = .ok (.iload 4, 2) := by decide +kernel
theorem dX6_say_30 : decode cX6_say 30 = .ok (.iconst 1, 1) := by decide +kernel
theorem dX6_say_31 : decode cX6_say 31 = .ok (.iadd, 1) := by decide +kernel
theorem dX6_say_32 : decode cX6_say 32 = .ok (.istore 7, 2) := by decide +kernel
theorem dX6_say_34 : decode cX6_say 34 = .ok (.aload_n 0, 1) := by decide +kernel
theorem dX6_say_35 : decode cX6_say 35 = .ok (.iload 5, 2) := by decide +kernel
theorem dX6_say_37 : decode cX6_say 37 = .ok (.invokevirtual 51, 3) := by decide +kernel
theorem dX6_say_40 : decode cX6_say 40 = .ok (.iload 5, 2) := by decide +kernel
theorem dX6_say_42 : decode cX6_say 42 = .ok (.lookupswitch 230 #[(10, 90), (11, 97), (12, 108), (13, 118), (20, 136), (30, 149), (40, 169), (50, 181), (60, 201), (70, 214)], 90) := by decide +kernel
theorem dX6_say_132 : decode cX6_say 132 = .ok (.iload_n 3, 1) := by decide +kernel
theorem dX6_say_133 : decode cX6_say 133 = .ok (.aload_n 0, 1) := by decide +kernel
theorem dX6_say_134 : decode cX6_say 134 = .ok (.getfield 26, 3) := by decide +kernel
theorem dX6_say_137 : decode cX6_say 137 = .ok (.iadd, 1) := by decide +kernel
theorem dX6_say_138 : decode cX6_say 138 = .ok (.ireturn, 1) := by decide +kernel
theorem dX6_say_139 : decode cX6_say 139 = .ok (.aload_n 0, 1) := by decide +kernel
theorem dX6_say_140 : decode cX6_say 140 = .ok (.iconst 0, 1) := by decide +kernel
theorem dX6_say_141 : decode cX6_say 141 = .ok (.iload_n 3, 1) := by decide +kernel
theorem dX6_say_142 : decode cX6_say 142 = .ok (.iload 7, 2) := by decide +kernel
theorem dX6_say_144 : decode cX6_say 144 = .ok (.invokevirtual 55, 3) := by decide +kernel
theorem dX6_say_147 : decode cX6_say 147 = .ok (.iconst 2, 1) := by decide +kernel
theorem dX6_say_148 : decode cX6_say 148 = .ok (.imul, 1) := by decide +kernel
theorem dX6_say_149 : decode cX6_say 149 = .ok (.ireturn, 1) := by decide +kernel
theorem dX6_say_150 : decode cX6_say 150 = .ok (.iload_n 3, 1) := by decide +kernel
theorem dX6_say_151 : decode cX6_say 151 = .ok (.aload_n 0, 1) := by decide +kernel
theorem dX6_say_152 : decode cX6_say 152 = .ok (.getfield 18, 3) := by decide +kernel
theorem dX6_say_155 : decode cX6_say 155 = .ok (.getfield 59, 3) := by decide +kernel
theorem dX6_say_158 : decode cX6_say 158 = .ok (.isub, 1) := by decide +kernel
theorem dX6_say_159 : decode cX6_say 159 = .ok (.ireturn, 1) := by decide +kernel
theorem dX6_say_160 : decode cX6_say 160 = .ok (.aload_n 0, 1) := by decide +kernel
theorem dX6_say_161 : decode cX6_say 161 = .ok (.iconst 1, 1) := by decide +kernel
theorem dX6_say_162 : decode cX6_say 162 = .ok (.iload_n 3, 1) := by decide +kernel
theorem dX6_say_163 : decode cX6_say 163 = .ok (.iload 7, 2) := by decide +kernel
theorem dX6_say_165 : decode cX6_say 165 = .ok (.invokevirtual 55, 3) := by decide +kernel
theorem dX6_say_168 : decode cX6_say 168 = .ok (.aload_n 0, 1) := by decide +kernel
theorem dX6_say_169 : decode cX6_say 169 = .ok (.iconst 2, 1) := by decide +kernel
theorem dX6_say_170 : decode cX6_say 170 = .ok (.iload_n 3, 1) := by decide +kernel
theorem dX6_say_171 : decode cX6_say 171 = .ok (.iload 7, 2) := by decide +kernel
theorem dX6_say_173 : decode cX6_say 173 = .ok (.invokevirtual 55, 3) := by decide +kernel
theorem dX6_say_176 : decode cX6_say 176 = .ok (.ixor, 1) := by decide +kernel
theorem dX6_say_177 : decode cX6_say 177 = .ok (.ireturn, 1) := by decide +kernel
theorem dX6_say_178 : decode cX6_say 178 = .ok (.aload_n 0, 1) := by decide +kernel
theorem dX6_say_179 : decode cX6_say 179 = .ok (.iconst 0, 1) := by decide +kernel
theorem dX6_say_180 : decode cX6_say 180 = .ok (.iload 6, 2) := by decide +kernel
theorem dX6_say_182 : decode cX6_say 182 = .ok (.iload_n 3, 1) := by decide +kernel
theorem dX6_say_183 : decode cX6_say 183 = .ok (.iload 7, 2) := by decide +kernel
theorem dX6_say_185 : decode cX6_say 185 = .ok (.invokevirtual 36, 3) := by decide +kernel
theorem dX6_say_188 : decode cX6_say 188 = .ok (.iconst 3, 1) := by decide +kernel
theorem dX6_say_189 : decode cX6_say 189 = .ok (.imul, 1) := by decide +kernel
theorem dX6_say_190 : decode cX6_say 190 = .ok (.ireturn, 1) := by decide +kernel
theorem dX6_say_191 : decode cX6_say 191 = .ok (.aload_n 0, 1) := by decide +kernel
theorem dX6_say_192 : decode cX6_say 192 = .ok (.iconst 1, 1) := by decide +kernel
theorem dX6_say_193 : decode cX6_say 193 = .ok (.iload 6, 2) := by decide +kernel
theorem dX6_say_195 : decode cX6_say 195 = .ok (.iload_n 3, 1) := by decide +kernel
theorem dX6_say_196 : decode cX6_say 196 = .ok (.iload 7, 2) := by decide +kernel
theorem dX6_say_198 : decode cX6_say 198 = .ok (.invokevirtual 36, 3) := by decide +kernel
theorem dX6_say_201 : decode cX6_say 201 = .ok (.aload_n 0, 1) := by decide +kernel
theorem dX6_say_202 : decode cX6_say 202 = .ok (.iconst 2, 1) := by decide +kernel
theorem dX6_say_203 : decode cX6_say 203 = .ok (.iconst 1, 1) := by decide +kernel
theorem dX6_say_204 : decode cX6_say 204 = .ok (.iload 7, 2) := by decide +kernel
theorem dX6_say_206 : decode cX6_say 206 = .ok (.invokevirtual 55, 3) := by decide +kernel
theorem dX6_say_209 : decode cX6_say 209 = .ok (.isub, 1) := by decide +kernel
theorem dX6_say_210 : decode cX6_say 210 = .ok (.ireturn, 1) := by decide +kernel
theorem dX6_say_211 : decode cX6_say 211 = .ok (.aload_n 0, 1) := by decide +kernel
theorem dX6_say_212 : decode cX6_say 212 = .ok (.iconst 2, 1) := by decide +kernel
theorem dX6_say_213 : decode cX6_say 213 = .ok (.iload 6, 2) := by decide +kernel
theorem dX6_say_215 : decode cX6_say 215 = .ok (.iload_n 3, 1) := by decide +kernel
theorem dX6_say_216 : decode cX6_say 216 = .ok (.iload 7, 2) := by decide +kernel
theorem dX6_say_218 : decode cX6_say 218 = .ok (.invokevirtual 36, 3) := by decide +kernel
theorem dX6_say_221 : decode cX6_say 221 = .ok (.ineg, 1) := by decide +kernel
theorem dX6_say_222 : decode cX6_say 222 = .ok (.ireturn, 1) := by decide +kernel
theorem dX6_say_223 : decode cX6_say 223 = .ok (.aload_n 0, 1) := by decide +kernel
theorem dX6_say_224 : decode cX6_say 224 = .ok (.iconst 3, 1) := by decide +kernel
theorem dX6_say_225 : decode cX6_say 225 = .ok (.iload 6, 2) := by decide +kernel
theorem dX6_say_227 : decode cX6_say 227 = .ok (.iload_n 3, 1) := by decide +kernel
theorem dX6_say_228 : decode cX6_say 228 = .ok (.iload 7, 2) := by decide +kernel
theorem dX6_say_230 : decode cX6_say 230 = .ok (.invokevirtual 36, 3) := by decide +kernel
theorem dX6_say_233 : decode cX6_say 233 = .ok (.aload_n 0, 1) := by decide +kernel
theorem dX6_say_234 : decode cX6_say 234 = .ok (.iconst 0, 1) := by decide +kernel
theorem dX6_say_235 : decode cX6_say 235 = .ok (.iconst 2, 1) := by decide +kernel
theorem dX6_say_236 : decode cX6_say 236 = .ok (.iload 7, 2) := by decide +kernel
theorem dX6_say_238 : decode cX6_say 238 = .ok (.invokevirtual 55, 3) := by decide +kernel
theorem dX6_say_241 : decode cX6_say 241 = .ok (.isub, 1) := by decide +kernel
theorem dX6_say_242 : decode cX6_say 242 = .ok (.ireturn, 1) := by decide +kernel
theorem dX6_say_243 : decode cX6_say 243 = .ok (.aload_n 0, 1) := by decide +kernel
theorem dX6_say_244 : decode cX6_say 244 = .ok (.iconst 1, 1) := by decide +kernel
theorem dX6_say_245 : decode cX6_say 245 = .ok (.iload 6, 2) := by decide +kernel
theorem dX6_say_247 : decode cX6_say 247 = .ok (.iload_n 3, 1) := by decide +kernel
theorem dX6_say_248 : decode cX6_say 248 = .ok (.iconst 1, 1) := by decide +kernel
theorem dX6_say_249 : decode cX6_say 249 = .ok (.iadd, 1) := by decide +kernel
theorem dX6_say_250 : decode cX6_say 250 = .ok (.iload 7, 2) := by decide +kernel
theorem dX6_say_252 : decode cX6_say 252 = .ok (.invokevirtual 36, 3) := by decide +kernel
theorem dX6_say_255 : decode cX6_say 255 = .ok (.ireturn, 1) := by decide +kernel
theorem dX6_say_256 : decode cX6_say 256 = .ok (.aload_n 0, 1) := by decide +kernel
theorem dX6_say_257 : decode cX6_say 257 = .ok (.iconst 2, 1) := by decide +kernel
theorem dX6_say_258 : decode cX6_say 258 = .ok (.iload 6, 2) := by decide +kernel
theorem dX6_say_260 : decode cX6_say 260 = .ok (.iload_n 3, 1) := by decide +kernel
theorem dX6_say_261 : decode cX6_say 261 = .ok (.iload 7, 2) := by decide +kernel
theorem dX6_say_263 : decode cX6_say 263 = .ok (.invokevirtual 36, 3) := by decide +kernel
theorem dX6_say_266 : decode cX6_say 266 = .ok (.aload_n 0, 1) := by decide +kernel
theorem dX6_say_267 : decode cX6_say 267 = .ok (.getfield 26, 3) := by decide +kernel
theorem dX6_say_270 : decode cX6_say 270 = .ok (.ixor, 1) := by decide +kernel
theorem dX6_say_271 : decode cX6_say 271 = .ok (.ireturn, 1) := by decide +kernel
theorem dX6_say_272 : decode cX6_say 272 = .ok (.aload_n 0, 1) := by decide +kernel
theorem dX6_say_273 : decode cX6_say 273 = .ok (.iconst 1, 1) := by decide +kernel
theorem dX6_say_274 : decode cX6_say 274 = .ok (.iload_n 3, 1) := by decide +kernel
theorem dX6_say_275 : decode cX6_say 275 = .ok (.iload 7, 2) := by decide +kernel
theorem dX6_say_277 : decode cX6_say 277 = .ok (.invokevirtual 55, 3) := by decide +kernel
theorem dX6_say_280 : decode cX6_say 280 = .ok (.aload_n 0, 1) := by decide +kernel
theorem dX6_say_281 : decode cX6_say 281 = .ok (.iconst 3, 1) := by decide +kernel
theorem dX6_say_282 : decode cX6_say 282 = .ok (.iload 6, 2) := by decide +kernel
theorem dX6_say_284 : decode cX6_say 284 = .ok (.iload_n 3, 1) := by decide +kernel
theorem dX6_say_285 : decode cX6_say 285 = .ok (.iload 7, 2) := by decide +kernel
theorem dX6_say_287 : decode cX6_say 287 = .ok (.invokevirtual 36, 3) := by decide +kernel
theorem dX6_say_290 : decode cX6_say 290 = .ok (.isub, 1) := by decide +kernel
theorem dX6_say_291 : decode cX6_say 291 = .ok (.ireturn, 1) := by decide +kernel
theorem dX7_init_0 : decode cX7_init 0 = .ok (.aload_n 0, 1) := by decide +kernel
theorem dX7_init_1 : decode cX7_init 1 = .ok (.invokespecial 3, 3) := by decide +kernel
theorem dX7_init_4 : decode cX7_init 4 = .ok (.aload_n 0, 1) := by decide +kernel
theorem dX7_init_5 : decode cX7_init 5 = .ok (.new 9, 3) := by decide +kernel
theorem dX7_init_8 : decode cX7_init 8 = .ok (.dup, 1) := by decide +kernel
theorem dX7_init_9 : decode cX7_init 9 = .ok (.invokespecial 11, 3) := by decide +kernel
theorem dX7_init_12 : decode cX7_init 12 = .ok (.putfield 12, 3) := by decide +kernel
theorem dX7_init_15 : decode cX7_init 15 = .ok (.aload_n 0, 1) := by decide +kernel
theorem dX7_init_16 : decode cX7_init 16 = .ok (.new 9, 3) := by decide +kernel
theorem dX7_init_19 : decode cX7_init 19 = .ok (.dup, 1) := by decide +kernel
theorem dX7_init_20 : decode cX7_init 20 = .ok (.invokespecial 11, 3) := by decide +kernel
theorem dX7_init_23 : decode cX7_init 23 = .ok (.putfield 18, 3) := by decide +kernel
theorem dX7_init_26 : decode cX7_init 26 = .ok (.aload_n 0, 1) := by decide +kernel
theorem dX7_init_27 : decode cX7_init 27 = .ok (.bipush 60, 2) := by decide +kernel
theorem dX7_init_29 : decode cX7_init 29 = .ok (.putfield 21, 3) := by decide +kernel
theorem dX7_init_32 : decode cX7_init 32 = .ok (.aload_n 0, 1) := by decide +kernel
theorem dX7_init_33 : decode cX7_init 33 = .ok (.iconst 5, 1) := by decide +kernel
theorem dX7_init_34 : decode cX7_init 34 = .ok (.putfield 25, 3) := by decide +kernel
theorem dX7_init_37 : decode cX7_init 37 = .ok (.aload_n 0, 1) := by decide +kernel
theorem dX7_init_38 : decode cX7_init 38 = .ok (.bipush 30, 2) := by decide +kernel
theorem dX7_init_40 : decode cX7_init 40 = .ok (.putfield 28, 3) := by decide +kernel
theorem dX7_init_43 : decode cX7_init 43 = .ok (.aload_n 0, 1) := by decide +kernel
theorem dX7_init_44 : decode cX7_init 44 = .ok (.bipush 6, 2) := by decide +kernel
theorem dX7_init_46 : decode cX7_init 46 = .ok (.anewarray 31, 3) := by decide +kernel
theorem dX7_init_49 : decode cX7_init 49 = .ok (.putfield 33, 3) := by decide +kernel
theorem dX7_init_52 : decode cX7_init 52 = .ok (.aload_n 0, 1) := by decide +kernel
theorem dX7_init_53 : decode cX7_init 53 = .ok (.bipush 50, 2) := by decide +kernel
theorem dX7_init_55 : decode cX7_init 55 = .ok (.newarray .int, 2) := by decide +kernel
theorem dX7_init_57 : decode cX7_init 57 = .ok (.putfield 37, 3) := by decide +kernel
theorem dX7_init_60 : decode cX7_init 60 = .ok (.aload_n 0, 1) := by decide +kernel
theorem dX7_init_61 : decode cX7_init 61 = .ok (.new 41, 3) := by decide +kernel
theorem dX7_init_64 : decode cX7_init 64 = .ok (.dup, 1) := by decide +kernel
theorem dX7_init_65 : decode cX7_init 65 = .ok (.iconst 0, 1) := by decide +kernel
theorem dX7_init_66 : decode cX7_init 66 = .ok (.invokespecial 43, 3) := by decide +kernel
theorem dX7_init_69 : decode cX7_init 69 = .ok (.putfield 46, 3) := by decide +kernel
theorem dX7_init_72 : decode cX7_init 72 = .ok (.aload_n 0, 1) := by decide +kernel
theorem dX7_init_73 : decode cX7_init 73 = .ok (.new 41, 3) := by decide +kernel
theorem dX7_init_76 : decode cX7_init 76 = .ok (.dup, 1) := by decide +kernel
theorem dX7_init_77 : decode cX7_init 77 = .ok (.iconst 1, 1) := by decide +kernel
theorem dX7_init_78 : decode cX7_init 78 = .ok (.invokespecial 43, 3) := by decide +kernel
theorem dX7_init_81 : decode cX7_init 81 = .ok (.putfield 50, 3) := by decide +kernel
theorem dX7_init_84 : decode cX7_init 84 = .ok (.aload_n 0, 1) := by decide +kernel
theorem dX7_init_85 : decode cX7_init 85 = .ok (.iconst 1, 1) := by decide +kernel
theorem dX7_init_86 : decode cX7_init 86 = .ok (.putfield 53, 3) := by decide +kernel
theorem dX7_init_89 : decode cX7_init 89 = .ok (.aload_n 0, 1) := by decide +kernel
theorem dX7_init_90 : decode cX7_init 90 = .ok (.bipush 20, 2) := by decide +kernel
theorem dX7_init_92 : decode cX7_init 92 = .ok (.newarray .int, 2) := by decide +kernel
theorem dX7_init_94 : decode cX7_init 94 = .ok (.putfield 56, 3) := by decide +kernel
theorem dX7_init_97 : decode cX7_init 97 = .ok (.iconst 0, 1) := by decide +kernel
theorem dX7_init_98 : decode cX7_init 98 = .ok (.istore_n 1, 1) := by decide +kernel
theorem dX7_init_99 : decode cX7_init 99 = .ok (.iload_n 1, 1) := by decide +kernel
theorem dX7_init_100 : decode cX7_init 100 = .ok (.bipush 6, 2) := by decide +kernel
theorem dX7_init_102 : decode cX7_init 102 = .ok (.if_icmp .ge 22, 3) := by decide +kernel
theorem dX7_init_105 : decode cX7_init 105 = .ok (.aload_n 0, 1) := by decide +kernel
theorem dX7_init_106 : decode cX7_init 106 = .ok (.getfield 33, 3) := by decide +kernel
theorem dX7_init_109 : decode cX7_init 109 = .ok (.iload_n 1, 1) := by decide +kernel
theorem dX7_init_110 : decode cX7_init 110 = .ok (.new 31, 3) := by decide +kernel
theorem dX7_init_113 : decode cX7_init 113 = .ok (.dup, 1) := by decide +kernel
theorem dX7_init_114 : decode cX7_init 114 = .ok (.invokespecial 59, 3) := by decide +kernel
theorem dX7_init_117 : decode cX7_init 117 = .ok (.aastore, 1) := by decide +kernel
theorem dX7_init_118 : decode cX7_init 118 = .ok (.iinc 1 1, 3) := by decide +kernel
theorem dX7_init_121 : decode cX7_init 121 = .ok (.goto (-22), 3) := by decide +kernel
theorem dX7_init_124 : decode cX7_init 124 = .ok (.return_, 1) := by decide +kernel
theorem dX7_swingOf_0 : decode cX7_swingOf 0 = .ok (.iload_n 1, 1) := by decide +kernel
theorem dX7_swingOf_1 : decode cX7_swingOf 1 = .ok (.ifCond .ne 10, 3) := by decide +kernel
theorem dX7_swingOf_4 : decode cX7_swingOf 4 = .ok (.aload_n 0, 1) := by decide +kernel
theorem dX7_swingOf_5 : decode cX7_swingOf 5 = .ok (.getfield 12, 3) := by decide +kernel
theorem dX7_swingOf_8 : decode cX7_swingOf 8 = .ok (.goto 16, 3) := by decide +kernel
theorem dX7_swingOf_11 : decode cX7_swingOf 11 = .ok (.iload_n 1, 1) := by decide +kernel
theorem dX7_swingOf_12 : decode cX7_swingOf 12 = .ok (.iconst 1, 1) := by decide +kernel
theorem dX7_swingOf_13 : decode cX7_swingOf 13 = .ok (.if_icmp .ne 10, 3) := by decide +kernel
theorem dX7_swingOf_16 : decode cX7_swingOf 16 = .ok (.aload_n 0, 1) := by decide +kernel
theorem dX7_swingOf_17 : decode cX7_swingOf 17 = .ok (.getfield 18, 3) := by decide +kernel
theorem dX7_swingOf_20 : decode cX7_swingOf 20 = .ok (.goto 4, 3) := by decide +kernel
theorem dX7_swingOf_23 : decode cX7_swingOf 23 = .ok (.aconst_null, 1) := by decide +kernel
theorem dX7_swingOf_24 : decode cX7_swingOf 24 = .ok (.areturn, 1) := by decide +kernel
theorem dX7_lawOf_0 : decode cX7_lawOf 0 = .ok (.iload_n 1, 1) := by decide +kernel
theorem dX7_lawOf_1 : decode cX7_lawOf 1 = .ok (.ifCond .ne 10, 3) := by decide +kernel
theorem dX7_lawOf_4 : decode cX7_lawOf 4 = .ok (.aload_n 0, 1) := by decide +kernel
theorem dX7_lawOf_5 : decode cX7_lawOf 5 = .ok (.getfield 46, 3) := by decide +kernel
theorem dX7_lawOf_8 : decode cX7_lawOf 8 = .ok (.goto 16, 3) := by decide +kernel
theorem dX7_lawOf_11 : decode cX7_lawOf 11 = .ok (.iload_n 1, 1) := by decide +kernel
theorem dX7_lawOf_12 : decode cX7_lawOf 12 = .ok (.iconst 1, 1) := by decide +kernel
theorem dX7_lawOf_13 : decode cX7_lawOf 13 = .ok (.if_icmp .ne 10, 3) := by decide +kernel
theorem dX7_lawOf_16 : decode cX7_lawOf 16 = .ok (.aload_n 0, 1) := by decide +kernel
theorem dX7_lawOf_17 : decode cX7_lawOf 17 = .ok (.getfield 50, 3) := by decide +kernel
theorem dX7_lawOf_20 : decode cX7_lawOf 20 = .ok (.goto 4, 3) := by decide +kernel
theorem dX7_lawOf_23 : decode cX7_lawOf 23 = .ok (.aconst_null, 1) := by decide +kernel
theorem dX7_lawOf_24 : decode cX7_lawOf 24 = .ok (.areturn, 1) := by decide +kernel
theorem dX7_flyerOf_0 : decode cX7_flyerOf 0 = .ok (.iload_n 1, 1) := by decide +kernel
theorem dX7_flyerOf_1 : decode cX7_flyerOf 1 = .ok (.ifCond .lt 26, 3) := by decide +kernel
theorem dX7_flyerOf_4 : decode cX7_flyerOf 4 = .ok (.iload_n 1, 1) := by decide +kernel
theorem dX7_flyerOf_5 : decode cX7_flyerOf 5 = .ok (.aload_n 0, 1) := by decide +kernel
theorem dX7_flyerOf_6 : decode cX7_flyerOf 6 = .ok (.getfield 60, 3) := by decide +kernel
theorem dX7_flyerOf_9 : decode cX7_flyerOf 9 = .ok (.if_icmp .ge 18, 3) := by decide +kernel
theorem dX7_flyerOf_12 : decode cX7_flyerOf 12 = .ok (.iload_n 1, 1) := by decide +kernel
theorem dX7_flyerOf_13 : decode cX7_flyerOf 13 = .ok (.bipush 6, 2) := by decide +kernel
theorem dX7_flyerOf_15 : decode cX7_flyerOf 15 = .ok (.if_icmp .ge 12, 3) := by decide +kernel
theorem dX7_flyerOf_18 : decode cX7_flyerOf 18 = .ok (.aload_n 0, 1) := by decide +kernel
theorem dX7_flyerOf_19 : decode cX7_flyerOf 19 = .ok (.getfield 33, 3) := by decide +kernel
theorem dX7_flyerOf_22 : decode cX7_flyerOf 22 = .ok (.iload_n 1, 1) := by decide +kernel
theorem dX7_flyerOf_23 : decode cX7_flyerOf 23 = .ok (.aaload, 1) := by decide +kernel
theorem dX7_flyerOf_24 : decode cX7_flyerOf 24 = .ok (.goto 4, 3) := by decide +kernel
theorem dX7_flyerOf_27 : decode cX7_flyerOf 27 = .ok (.aconst_null, 1) := by decide +kernel
theorem dX7_flyerOf_28 : decode cX7_flyerOf 28 = .ok (.areturn, 1) := by decide +kernel
theorem dX7_addByte_0 : decode cX7_addByte 0 = .ok (.aload_n 0, 1) := by decide +kernel
theorem dX7_addByte_1 : decode cX7_addByte 1 = .ok (.getfield 63, 3) := by decide +kernel
theorem dX7_addByte_4 : decode cX7_addByte 4 = .ok (.ifCond .lt 32, 3) := by decide +kernel
theorem dX7_addByte_7 : decode cX7_addByte 7 = .ok (.aload_n 0, 1) := by decide +kernel
theorem dX7_addByte_8 : decode cX7_addByte 8 = .ok (.getfield 63, 3) := by decide +kernel
theorem dX7_addByte_11 : decode cX7_addByte 11 = .ok (.bipush 50, 2) := by decide +kernel
theorem dX7_addByte_13 : decode cX7_addByte 13 = .ok (.if_icmp .ge 23, 3) := by decide +kernel
theorem dX7_addByte_16 : decode cX7_addByte 16 = .ok (.aload_n 0, 1) := by decide +kernel
theorem dX7_addByte_17 : decode cX7_addByte 17 = .ok (.getfield 37, 3) := by decide +kernel
theorem dX7_addByte_20 : decode cX7_addByte 20 = .ok (.aload_n 0, 1) := by decide +kernel
theorem dX7_addByte_21 : decode cX7_addByte 21 = .ok (.getfield 63, 3) := by decide +kernel
theorem dX7_addByte_24 : decode cX7_addByte 24 = .ok (.iload_n 1, 1) := by decide +kernel
theorem dX7_addByte_25 : decode cX7_addByte 25 = .ok (.iastore, 1) := by decide +kernel
theorem dX7_addByte_26 : decode cX7_addByte 26 = .ok (.aload_n 0, 1) := by decide +kernel
theorem dX7_addByte_27 : decode cX7_addByte 27 = .ok (.dup, 1) := by decide +kernel
theorem dX7_addByte_28 : decode cX7_addByte 28 = .ok (.getfield 63, 3) := by decide +kernel
theorem dX7_addByte_31 : decode cX7_addByte 31 = .ok (.iconst 1, 1) := by decide +kernel
theorem dX7_addByte_32 : decode cX7_addByte 32 = .ok (.iadd, 1) := by decide +kernel
theorem dX7_addByte_33 : decode cX7_addByte 33 = .ok (.putfield 63, 3) := by decide +kernel
theorem dX7_addByte_36 : decode cX7_addByte 36 = .ok (.return_, 1) := by decide +kernel
theorem dX7_addWaiting_0 : decode cX7_addWaiting 0 = .ok (.aload_n 0, 1) := by decide +kernel
theorem dX7_addWaiting_1 : decode cX7_addWaiting 1 = .ok (.getfield 66, 3) := by decide +kernel
theorem dX7_addWaiting_4 : decode cX7_addWaiting 4 = .ok (.ifCond .lt 32, 3) := by decide +kernel
theorem dX7_addWaiting_7 : decode cX7_addWaiting 7 = .ok (.aload_n 0, 1) := by decide +kernel
theorem dX7_addWaiting_8 : decode cX7_addWaiting 8 = .ok (.getfield 66, 3) := by decide +kernel
theorem dX7_addWaiting_11 : decode cX7_addWaiting 11 = .ok (.bipush 20, 2) := by decide +kernel
theorem dX7_addWaiting_13 : decode cX7_addWaiting 13 = .ok (.if_icmp .ge 23, 3) := by decide +kernel
theorem dX7_addWaiting_16 : decode cX7_addWaiting 16 = .ok (.aload_n 0, 1) := by decide +kernel
theorem dX7_addWaiting_17 : decode cX7_addWaiting 17 = .ok (.getfield 56, 3) := by decide +kernel
theorem dX7_addWaiting_20 : decode cX7_addWaiting 20 = .ok (.aload_n 0, 1) := by decide +kernel
theorem dX7_addWaiting_21 : decode cX7_addWaiting 21 = .ok (.getfield 66, 3) := by decide +kernel
theorem dX7_addWaiting_24 : decode cX7_addWaiting 24 = .ok (.iload_n 1, 1) := by decide +kernel
theorem dX7_addWaiting_25 : decode cX7_addWaiting 25 = .ok (.iastore, 1) := by decide +kernel
theorem dX7_addWaiting_26 : decode cX7_addWaiting 26 = .ok (.aload_n 0, 1) := by decide +kernel
theorem dX7_addWaiting_27 : decode cX7_addWaiting 27 = .ok (.dup, 1) := by decide +kernel
theorem dX7_addWaiting_28 : decode cX7_addWaiting 28 = .ok (.getfield 66, 3) := by decide +kernel
theorem dX7_addWaiting_31 : decode cX7_addWaiting 31 = .ok (.iconst 1, 1) := by decide +kernel
theorem dX7_addWaiting_32 : decode cX7_addWaiting 32 = .ok (.iadd, 1) := by decide +kernel
theorem dX7_addWaiting_33 : decode cX7_addWaiting 33 = .ok (.putfield 66, 3) := by decide +kernel
theorem dX7_addWaiting_36 : decode cX7_addWaiting 36 = .ok (.return_, 1) := by decide +kernel
theorem dX7_draw_0 : decode cX7_draw 0 = .ok (.aload_n 0, 1) := by decide +kernel
theorem dX7_draw_1 : decode cX7_draw 1 = .ok (.aload_n 0, 1) := by decide +kernel
theorem dX7_draw_2 : decode cX7_draw 2 = .ok (.getfield 53, 3) := by decide +kernel
theorem dX7_draw_5 : decode cX7_draw 5 = .ok (.ldc 69, 2) := by decide +kernel
theorem dX7_draw_7 : decode cX7_draw 7 = .ok (.imul, 1) := by decide +kernel
theorem dX7_draw_8 : decode cX7_draw 8 = .ok (.sipush 12345, 3) := by decide +kernel
theorem dX7_draw_11 : decode cX7_draw 11 = .ok (.iadd, 1) := by decide +kernel
theorem dX7_draw_12 : decode cX7_draw 12 = .ok (.putfield 53, 3) := by decide +kernel
theorem dX7_draw_15 : decode cX7_draw 15 = .ok (.aload_n 0, 1) := by decide +kernel
theorem dX7_draw_16 : decode cX7_draw 16 = .ok (.getfield 53, 3) := by decide +kernel
theorem dX7_draw_19 : decode cX7_draw 19 = .ok (.bipush 8, 2) := by decide +kernel
theorem dX7_draw_21 : decode cX7_draw 21 = .ok (.iushr, 1) := by decide +kernel
theorem dX7_draw_22 : decode cX7_draw 22 = .ok (.ireturn, 1) := by decide +kernel
theorem dX7_copy_0 : decode cX7_copy 0 = .ok (.aload_n 0, 1) := by decide +kernel
theorem dX7_copy_1 : decode cX7_copy 1 = .ok (.getfield 12, 3) := by decide +kernel
theorem dX7_copy_4 : decode cX7_copy 4 = .ok (.aload_n 1, 1) := by decide +kernel
theorem dX7_copy_5 : decode cX7_copy 5 = .ok (.getfield 12, 3) := by decide +kernel
theorem dX7_copy_8 : decode cX7_copy 8 = .ok (.invokevirtual 70, 3) := by decide +kernel
theorem dX7_copy_11 : decode cX7_copy 11 = .ok (.aload_n 0, 1) := by decide +kernel
theorem dX7_copy_12 : decode cX7_copy 12 = .ok (.getfield 18, 3) := by decide +kernel
theorem dX7_copy_15 : decode cX7_copy 15 = .ok (.aload_n 1, 1) := by decide +kernel
theorem dX7_copy_16 : decode cX7_copy 16 = .ok (.getfield 18, 3) := by decide +kernel
theorem dX7_copy_19 : decode cX7_copy 19 = .ok (.invokevirtual 70, 3) := by decide +kernel
theorem dX7_copy_22 : decode cX7_copy 22 = .ok (.aload_n 0, 1) := by decide +kernel
theorem dX7_copy_23 : decode cX7_copy 23 = .ok (.aload_n 1, 1) := by decide +kernel
theorem dX7_copy_24 : decode cX7_copy 24 = .ok (.getfield 21, 3) := by decide +kernel
theorem dX7_copy_27 : decode cX7_copy 27 = .ok (.putfield 21, 3) := by decide +kernel
theorem dX7_copy_30 : decode cX7_copy 30 = .ok (.aload_n 0, 1) := by decide +kernel
theorem dX7_copy_31 : decode cX7_copy 31 = .ok (.aload_n 1, 1) := by decide +kernel
theorem dX7_copy_32 : decode cX7_copy 32 = .ok (.getfield 25, 3) := by decide +kernel
theorem dX7_copy_35 : decode cX7_copy 35 = .ok (.putfield 25, 3) := by decide +kernel
theorem dX7_copy_38 : decode cX7_copy 38 = .ok (.aload_n 0, 1) := by decide +kernel
theorem dX7_copy_39 : decode cX7_copy 39 = .ok (.aload_n 1, 1) := by decide +kernel
theorem dX7_copy_40 : decode cX7_copy 40 = .ok (.getfield 28, 3) := by decide +kernel
theorem dX7_copy_43 : decode cX7_copy 43 = .ok (.putfield 28, 3) := by decide +kernel
theorem dX7_copy_46 : decode cX7_copy 46 = .ok (.aload_n 0, 1) := by decide +kernel
theorem dX7_copy_47 : decode cX7_copy 47 = .ok (.aload_n 1, 1) := by decide +kernel
theorem dX7_copy_48 : decode cX7_copy 48 = .ok (.getfield 74, 3) := by decide +kernel
theorem dX7_copy_51 : decode cX7_copy 51 = .ok (.putfield 74, 3) := by decide +kernel
theorem dX7_copy_54 : decode cX7_copy 54 = .ok (.aload_n 0, 1) := by decide +kernel
theorem dX7_copy_55 : decode cX7_copy 55 = .ok (.aload_n 1, 1) := by decide +kernel
theorem dX7_copy_56 : decode cX7_copy 56 = .ok (.getfield 60, 3) := by decide +kernel
theorem dX7_copy_59 : decode cX7_copy 59 = .ok (.putfield 60, 3) := by decide +kernel
theorem dX7_copy_62 : decode cX7_copy 62 = .ok (.iconst 0, 1) := by decide +kernel
theorem dX7_copy_63 : decode cX7_copy 63 = .ok (.istore_n 2, 1) := by decide +kernel
theorem dX7_copy_64 : decode cX7_copy 64 = .ok (.iload_n 2, 1) := by decide +kernel
theorem dX7_copy_65 : decode cX7_copy 65 = .ok (.bipush 6, 2) := by decide +kernel
theorem dX7_copy_67 : decode cX7_copy 67 = .ok (.if_icmp .ge 39, 3) := by decide +kernel
theorem dX7_copy_70 : decode cX7_copy 70 = .ok (.aload_n 0, 1) := by decide +kernel
theorem dX7_copy_71 : decode cX7_copy 71 = .ok (.getfield 33, 3) := by decide +kernel
theorem dX7_copy_74 : decode cX7_copy 74 = .ok (.iload_n 2, 1) := by decide +kernel
theorem dX7_copy_75 : decode cX7_copy 75 = .ok (.aaload, 1) := by decide +kernel
theorem dX7_copy_76 : decode cX7_copy 76 = .ok (.astore_n 3, 1) := by decide +kernel
theorem dX7_copy_77 : decode cX7_copy 77 = .ok (.aload_n 1, 1) := by decide +kernel
theorem dX7_copy_78 : decode cX7_copy 78 = .ok (.getfield 33, 3) := by decide +kernel
theorem dX7_copy_81 : decode cX7_copy 81 = .ok (.iload_n 2, 1) := by decide +kernel
theorem dX7_copy_82 : decode cX7_copy 82 = .ok (.aaload, 1) := by decide +kernel
theorem dX7_copy_83 : decode cX7_copy 83 = .ok (.astore 4, 2) := by decide +kernel
theorem dX7_copy_85 : decode cX7_copy 85 = .ok (.aload_n 3, 1) := by decide +kernel
theorem dX7_copy_86 : decode cX7_copy 86 = .ok (.ifnull 14, 3) := by decide +kernel
theorem dX7_copy_89 : decode cX7_copy 89 = .ok (.aload 4, 2) := by decide +kernel
theorem dX7_copy_91 : decode cX7_copy 91 = .ok (.ifnull 9, 3) := by decide +kernel
theorem dX7_copy_94 : decode cX7_copy 94 = .ok (.aload_n 3, 1) := by decide +kernel
theorem dX7_copy_95 : decode cX7_copy 95 = .ok (.aload 4, 2) := by decide +kernel
theorem dX7_copy_97 : decode cX7_copy 97 = .ok (.invokevirtual 77, 3) := by decide +kernel
theorem dX7_copy_100 : decode cX7_copy 100 = .ok (.iinc 2 1, 3) := by decide +kernel
theorem dX7_copy_103 : decode cX7_copy 103 = .ok (.goto (-39), 3) := by decide +kernel
theorem dX7_copy_106 : decode cX7_copy 106 = .ok (.aload_n 1, 1) := by decide +kernel
theorem dX7_copy_107 : decode cX7_copy 107 = .ok (.getfield 37, 3) := by decide +kernel
theorem dX7_copy_110 : decode cX7_copy 110 = .ok (.iconst 0, 1) := by decide +kernel
theorem dX7_copy_111 : decode cX7_copy 111 = .ok (.aload_n 0, 1) := by decide +kernel
theorem dX7_copy_112 : decode cX7_copy 112 = .ok (.getfield 37, 3) := by decide +kernel
theorem dX7_copy_115 : decode cX7_copy 115 = .ok (.iconst 0, 1) := by decide +kernel
theorem dX7_copy_116 : decode cX7_copy 116 = .ok (.bipush 50, 2) := by decide +kernel
theorem dX7_copy_118 : decode cX7_copy 118 = .ok (.invokestatic 80, 3) := by decide +kernel
theorem dX7_copy_121 : decode cX7_copy 121 = .ok (.aload_n 0, 1) := by decide +kernel
theorem dX7_copy_122 : decode cX7_copy 122 = .ok (.aload_n 1, 1) := by decide +kernel
theorem dX7_copy_123 : decode cX7_copy 123 = .ok (.getfield 63, 3) := by decide +kernel
theorem dX7_copy_126 : decode cX7_copy 126 = .ok (.putfield 63, 3) := by decide +kernel
theorem dX7_copy_129 : decode cX7_copy 129 = .ok (.aload_n 0, 1) := by decide +kernel
theorem dX7_copy_130 : decode cX7_copy 130 = .ok (.getfield 46, 3) := by decide +kernel
theorem dX7_copy_133 : decode cX7_copy 133 = .ok (.aload_n 1, 1) := by decide +kernel
theorem dX7_copy_134 : decode cX7_copy 134 = .ok (.getfield 46, 3) := by decide +kernel
theorem dX7_copy_137 : decode cX7_copy 137 = .ok (.invokevirtual 86, 3) := by decide +kernel
theorem dX7_copy_140 : decode cX7_copy 140 = .ok (.aload_n 0, 1) := by decide +kernel
theorem dX7_copy_141 : decode cX7_copy 141 = .ok (.getfield 50, 3) := by decide +kernel
theorem dX7_copy_144 : decode cX7_copy 144 = .ok (.aload_n 1, 1) := by decide +kernel
theorem dX7_copy_145 : decode cX7_copy 145 = .ok (.getfield 50, 3) := by decide +kernel
theorem dX7_copy_148 : decode cX7_copy 148 = .ok (.invokevirtual 86, 3) := by decide +kernel
theorem dX7_copy_151 : decode cX7_copy 151 = .ok (.aload_n 0, 1) := by decide +kernel
theorem dX7_copy_152 : decode cX7_copy 152 = .ok (.aload_n 1, 1) := by decide +kernel
theorem dX7_copy_153 : decode cX7_copy 153 = .ok (.getfield 89, 3) := by decide +kernel
theorem dX7_copy_156 : decode cX7_copy 156 = .ok (.putfield 89, 3) := by decide +kernel
theorem dX7_copy_159 : decode cX7_copy 159 = .ok (.aload_n 0, 1) := by decide +kernel
theorem dX7_copy_160 : decode cX7_copy 160 = .ok (.aload_n 1, 1) := by decide +kernel
theorem dX7_copy_161 : decode cX7_copy 161 = .ok (.getfield 92, 3) := by decide +kernel
theorem dX7_copy_164 : decode cX7_copy 164 = .ok (.putfield 92, 3) := by decide +kernel
theorem dX7_copy_167 : decode cX7_copy 167 = .ok (.aload_n 0, 1) := by decide +kernel
theorem dX7_copy_168 : decode cX7_copy 168 = .ok (.aload_n 1, 1) := by decide +kernel
theorem dX7_copy_169 : decode cX7_copy 169 = .ok (.getfield 95, 3) := by decide +kernel
theorem dX7_copy_172 : decode cX7_copy 172 = .ok (.putfield 95, 3) := by decide +kernel
theorem dX7_copy_175 : decode cX7_copy 175 = .ok (.aload_n 0, 1) := by decide +kernel
theorem dX7_copy_176 : decode cX7_copy 176 = .ok (.aload_n 1, 1) := by decide +kernel
theorem dX7_copy_177 : decode cX7_copy 177 = .ok (.getfield 53, 3) := by decide +kernel
theorem dX7_copy_180 : decode cX7_copy 180 = .ok (.putfield 53, 3) := by decide +kernel
theorem dX7_copy_183 : decode cX7_copy 183 = .ok (.aload_n 1, 1) := by decide +kernel
theorem dX7_copy_184 : decode cX7_copy 184 = .ok (.getfield 56, 3) := by decide +kernel
theorem dX7_copy_187 : decode cX7_copy 187 = .ok (.iconst 0, 1) := by decide +kernel
theorem dX7_copy_188 : decode cX7_copy 188 = .ok (.aload_n 0, 1) := by decide +kernel
theorem dX7_copy_189 : decode cX7_copy 189 = .ok (.getfield 56, 3) := by decide +kernel
theorem dX7_copy_192 : decode cX7_copy 192 = .ok (.iconst 0, 1) := by decide +kernel
theorem dX7_copy_193 : decode cX7_copy 193 = .ok (.bipush 20, 2) := by decide +kernel
theorem dX7_copy_195 : decode cX7_copy 195 = .ok (.invokestatic 80, 3) := by decide +kernel
theorem dX7_copy_198 : decode cX7_copy 198 = .ok (.aload_n 0, 1) := by decide +kernel
theorem dX7_copy_199 : decode cX7_copy 199 = .ok (.aload_n 1, 1) := by decide +kernel
theorem dX7_copy_200 : decode cX7_copy 200 = .ok (.getfield 66, 3) := by decide +kernel
theorem dX7_copy_203 : decode cX7_copy 203 = .ok (.putfield 66, 3) := by decide +kernel
theorem dX7_copy_206 : decode cX7_copy 206 = .ok (.return_, 1) := by decide +kernel
theorem dX8_init_0 : decode cX8_init 0 = .ok (.aload_n 0, 1) := by decide +kernel
theorem dX8_init_1 : decode cX8_init 1 = .ok (.invokespecial 1, 3) := by decide +kernel
theorem dX8_init_4 : decode cX8_init 4 = .ok (.aload_n 0, 1) := by decide +kernel
theorem dX8_init_5 : decode cX8_init 5 = .ok (.new 7, 3) := by decide +kernel
theorem dX8_init_8 : decode cX8_init 8 = .ok (.dup, 1) := by decide +kernel
theorem dX8_init_9 : decode cX8_init 9 = .ok (.invokespecial 9, 3) := by decide +kernel
theorem dX8_init_12 : decode cX8_init 12 = .ok (.putfield 10, 3) := by decide +kernel
theorem dX8_init_15 : decode cX8_init 15 = .ok (.aload_n 0, 1) := by decide +kernel
theorem dX8_init_16 : decode cX8_init 16 = .ok (.new 7, 3) := by decide +kernel
theorem dX8_init_19 : decode cX8_init 19 = .ok (.dup, 1) := by decide +kernel
theorem dX8_init_20 : decode cX8_init 20 = .ok (.invokespecial 9, 3) := by decide +kernel
theorem dX8_init_23 : decode cX8_init 23 = .ok (.putfield 16, 3) := by decide +kernel
theorem dX8_init_26 : decode cX8_init 26 = .ok (.aload_n 0, 1) := by decide +kernel
theorem dX8_init_27 : decode cX8_init 27 = .ok (.new 19, 3) := by decide +kernel
theorem dX8_init_30 : decode cX8_init 30 = .ok (.dup, 1) := by decide +kernel
theorem dX8_init_31 : decode cX8_init 31 = .ok (.aload_n 0, 1) := by decide +kernel
theorem dX8_init_32 : decode cX8_init 32 = .ok (.getfield 10, 3) := by decide +kernel
theorem dX8_init_35 : decode cX8_init 35 = .ok (.invokespecial 21, 3) := by decide +kernel
theorem dX8_init_38 : decode cX8_init 38 = .ok (.putfield 24, 3) := by decide +kernel
theorem dX8_init_41 : decode cX8_init 41 = .ok (.aload_n 0, 1) := by decide +kernel
theorem dX8_init_42 : decode cX8_init 42 = .ok (.new 28, 3) := by decide +kernel
theorem dX8_init_45 : decode cX8_init 45 = .ok (.dup, 1) := by decide +kernel
theorem dX8_init_46 : decode cX8_init 46 = .ok (.aload_n 0, 1) := by decide +kernel
theorem dX8_init_47 : decode cX8_init 47 = .ok (.getfield 10, 3) := by decide +kernel
theorem dX8_init_50 : decode cX8_init 50 = .ok (.invokespecial 30, 3) := by decide +kernel
theorem dX8_init_53 : decode cX8_init 53 = .ok (.putfield 31, 3) := by decide +kernel
theorem dX8_init_56 : decode cX8_init 56 = .ok (.aload_n 0, 1) := by decide +kernel
theorem dX8_init_57 : decode cX8_init 57 = .ok (.new 35, 3) := by decide +kernel
theorem dX8_init_60 : decode cX8_init 60 = .ok (.dup, 1) := by decide +kernel
theorem dX8_init_61 : decode cX8_init 61 = .ok (.invokespecial 37, 3) := by decide +kernel
theorem dX8_init_64 : decode cX8_init 64 = .ok (.putfield 38, 3) := by decide +kernel
theorem dX8_init_67 : decode cX8_init 67 = .ok (.aload_n 0, 1) := by decide +kernel
theorem dX8_init_68 : decode cX8_init 68 = .ok (.iconst 4, 1) := by decide +kernel
theorem dX8_init_69 : decode cX8_init 69 = .ok (.anewarray 42, 3) := by decide +kernel
theorem dX8_init_72 : decode cX8_init 72 = .ok (.putfield 44, 3) := by decide +kernel
theorem dX8_init_75 : decode cX8_init 75 = .ok (.aload_n 0, 1) := by decide +kernel
theorem dX8_init_76 : decode cX8_init 76 = .ok (.bipush 6, 2) := by decide +kernel
theorem dX8_init_78 : decode cX8_init 78 = .ok (.newarray .int, 2) := by decide +kernel
theorem dX8_init_80 : decode cX8_init 80 = .ok (.putfield 48, 3) := by decide +kernel
theorem dX8_init_83 : decode cX8_init 83 = .ok (.iconst 0, 1) := by decide +kernel
theorem dX8_init_84 : decode cX8_init 84 = .ok (.istore_n 1, 1) := by decide +kernel
theorem dX8_init_85 : decode cX8_init 85 = .ok (.iload_n 1, 1) := by decide +kernel
theorem dX8_init_86 : decode cX8_init 86 = .ok (.iconst 4, 1) := by decide +kernel
theorem dX8_init_87 : decode cX8_init 87 = .ok (.if_icmp .ge 22, 3) := by decide +kernel
theorem dX8_init_90 : decode cX8_init 90 = .ok (.aload_n 0, 1) := by decide +kernel
theorem dX8_init_91 : decode cX8_init 91 = .ok (.getfield 44, 3) := by decide +kernel
theorem dX8_init_94 : decode cX8_init 94 = .ok (.iload_n 1, 1) := by decide +kernel
theorem dX8_init_95 : decode cX8_init 95 = .ok (.new 42, 3) := by decide +kernel
theorem dX8_init_98 : decode cX8_init 98 = .ok (.dup, 1) := by decide +kernel
theorem dX8_init_99 : decode cX8_init 99 = .ok (.invokespecial 52, 3) := by decide +kernel
theorem dX8_init_102 : decode cX8_init 102 = .ok (.aastore, 1) := by decide +kernel
theorem dX8_init_103 : decode cX8_init 103 = .ok (.iinc 1 1, 3) := by decide +kernel
theorem dX8_init_106 : decode cX8_init 106 = .ok (.goto (-21), 3) := by decide +kernel
theorem dX8_init_109 : decode cX8_init 109 = .ok (.return_, 1) := by decide +kernel
theorem dX8_swing_0 : decode cX8_swing 0 = .ok (.aload_n 0, 1) := by decide +kernel
theorem dX8_swing_1 : decode cX8_swing 1 = .ok (.getfield 10, 3) := by decide +kernel
theorem dX8_swing_4 : decode cX8_swing 4 = .ok (.iload_n 1, 1) := by decide +kernel
theorem dX8_swing_5 : decode cX8_swing 5 = .ok (.invokevirtual 53, 3) := by decide +kernel
theorem dX8_swing_8 : decode cX8_swing 8 = .ok (.astore 4, 2) := by decide +kernel
theorem dX8_swing_10 : decode cX8_swing 10 = .ok (.aload 4, 2) := by decide +kernel
theorem dX8_swing_12 : decode cX8_swing 12 = .ok (.ifnull 13, 3) := by decide +kernel
theorem dX8_swing_15 : decode cX8_swing 15 = .ok (.aload 4, 2) := by decide +kernel
theorem dX8_swing_17 : decode cX8_swing 17 = .ok (.iload_n 2, 1) := by decide +kernel
theorem dX8_swing_18 : decode cX8_swing 18 = .ok (.iload_n 3, 1) := by decide +kernel
theorem dX8_swing_19 : decode cX8_swing 19 = .ok (.invokevirtual 57, 3) := by decide +kernel
theorem dX8_swing_22 : decode cX8_swing 22 = .ok (.ifCond .ne 9, 3) := by decide +kernel
theorem dX8_swing_25 : decode cX8_swing 25 = .ok (.aload_n 0, 1) := by decide +kernel
theorem dX8_swing_26 : decode cX8_swing 26 = .ok (.iconst 1, 1) := by decide +kernel
theorem dX8_swing_27 : decode cX8_swing 27 = .ok (.invokevirtual 63, 3) := by decide +kernel
theorem dX8_swing_30 : decode cX8_swing 30 = .ok (.ireturn, 1) := by decide +kernel
theorem dX8_swing_31 : decode cX8_swing 31 = .ok (.aload 4, 2) := by decide +kernel
theorem dX8_swing_33 : decode cX8_swing 33 = .ok (.iload_n 2, 1) := by decide +kernel
theorem dX8_swing_34 : decode cX8_swing 34 = .ok (.iload_n 3, 1) := by decide +kernel
theorem dX8_swing_35 : decode cX8_swing 35 = .ok (.invokevirtual 67, 3) := by decide +kernel
theorem dX8_swing_38 : decode cX8_swing 38 = .ok (.ireturn, 1) := by decide +kernel
theorem dX8_bar_0 : decode cX8_bar 0 = .ok (.aload_n 0, 1) := by decide +kernel
theorem dX8_bar_1 : decode cX8_bar 1 = .ok (.getfield 10, 3) := by decide +kernel
theorem dX8_bar_4 : decode cX8_bar 4 = .ok (.iload_n 1, 1) := by decide +kernel
theorem dX8_bar_5 : decode cX8_bar 5 = .ok (.invokevirtual 53, 3) := by decide +kernel
theorem dX8_bar_8 : decode cX8_bar 8 = .ok (.astore_n 3, 1) := by decide +kernel
theorem dX8_bar_9 : decode cX8_bar 9 = .ok (.aload_n 3, 1) := by decide +kernel
theorem dX8_bar_10 : decode cX8_bar 10 = .ok (.ifnull 14, 3) := by decide +kernel
theorem dX8_bar_13 : decode cX8_bar 13 = .ok (.iload_n 2, 1) := by decide +kernel
theorem dX8_bar_14 : decode cX8_bar 14 = .ok (.iconst 0, 1) := by decide +kernel
theorem dX8_bar_15 : decode cX8_bar 15 = .ok (.sipush 19999, 3) := by decide +kernel
theorem dX8_bar_18 : decode cX8_bar 18 = .ok (.invokestatic 71, 3) := by decide +kernel
theorem dX8_bar_21 : decode cX8_bar 21 = .ok (.ifCond .ne 9, 3) := by decide +kernel
theorem dX8_bar_24 : decode cX8_bar 24 = .ok (.aload_n 0, 1) := by decide +kernel
theorem dX8_bar_25 : decode cX8_bar 25 = .ok (.iconst 1, 1) := by decide +kernel
theorem dX8_bar_26 : decode cX8_bar 26 = .ok (.invokevirtual 63, 3) := by decide +kernel
theorem dX8_bar_29 : decode cX8_bar 29 = .ok (.ireturn, 1) := by decide +kernel
theorem dX8_bar_30 : decode cX8_bar 30 = .ok (.aload_n 3, 1) := by decide +kernel
theorem dX8_bar_31 : decode cX8_bar 31 = .ok (.iload_n 2, 1) := by decide +kernel
theorem dX8_bar_32 : decode cX8_bar 32 = .ok (.invokevirtual 75, 3) := by decide +kernel
theorem dX8_bar_35 : decode cX8_bar 35 = .ok (.ireturn, 1) := by decide +kernel
theorem dX8_set_0 : decode cX8_set 0 = .ok (.iload_n 1, 1) := by decide +kernel
theorem dX8_set_1 : decode cX8_set 1 = .ok (.ifCond .ne 33, 3) := by decide +kernel
theorem dX8_set_4 : decode cX8_set 4 = .ok (.iload_n 2, 1) := by decide +kernel
theorem dX8_set_5 : decode cX8_set 5 = .ok (.iconst 0, 1) := by decide +kernel
theorem dX8_set_6 : decode cX8_set 6 = .ok (.sipush 200, 3) := by decide +kernel
theorem dX8_set_9 : decode cX8_set 9 = .ok (.invokestatic 71, 3) := by decide +kernel
theorem dX8_set_12 : decode cX8_set 12 = .ok (.ifCond .eq 22, 3) := by decide +kernel
theorem dX8_set_15 : decode cX8_set 15 = .ok (.aload_n 0, 1) := by decide +kernel
theorem dX8_set_16 : decode cX8_set 16 = .ok (.getfield 10, 3) := by decide +kernel
theorem dX8_set_19 : decode cX8_set 19 = .ok (.getfield 78, 3) := by decide +kernel
theorem dX8_set_22 : decode cX8_set 22 = .ok (.istore_n 3, 1) := by decide +kernel
theorem dX8_set_23 : decode cX8_set 23 = .ok (.aload_n 0, 1) := by decide +kernel
theorem dX8_set_24 : decode cX8_set 24 = .ok (.getfield 10, 3) := by decide +kernel
theorem dX8_set_27 : decode cX8_set 27 = .ok (.iload_n 2, 1) := by decide +kernel
theorem dX8_set_28 : decode cX8_set 28 = .ok (.putfield 78, 3) := by decide +kernel
theorem dX8_set_31 : decode cX8_set 31 = .ok (.goto 79, 3) := by decide +kernel
theorem dX8_set_34 : decode cX8_set 34 = .ok (.iload_n 1, 1) := by decide +kernel
theorem dX8_set_35 : decode cX8_set 35 = .ok (.iconst 1, 1) := by decide +kernel
theorem dX8_set_36 : decode cX8_set 36 = .ok (.if_icmp .ne 32, 3) := by decide +kernel
theorem dX8_set_39 : decode cX8_set 39 = .ok (.iload_n 2, 1) := by decide +kernel
theorem dX8_set_40 : decode cX8_set 40 = .ok (.iconst 0, 1) := by decide +kernel
theorem dX8_set_41 : decode cX8_set 41 = .ok (.bipush 30, 2) := by decide +kernel
theorem dX8_set_43 : decode cX8_set 43 = .ok (.invokestatic 71, 3) := by decide +kernel
theorem dX8_set_46 : decode cX8_set 46 = .ok (.ifCond .eq 22, 3) := by decide +kernel
theorem dX8_set_49 : decode cX8_set 49 = .ok (.aload_n 0, 1) := by decide +kernel
theorem dX8_set_50 : decode cX8_set 50 = .ok (.getfield 10, 3) := by decide +kernel
theorem dX8_set_53 : decode cX8_set 53 = .ok (.getfield 82, 3) := by decide +kernel
theorem dX8_set_56 : decode cX8_set 56 = .ok (.istore_n 3, 1) := by decide +kernel
theorem dX8_set_57 : decode cX8_set 57 = .ok (.aload_n 0, 1) := by decide +kernel
theorem dX8_set_58 : decode cX8_set 58 = .ok (.getfield 10, 3) := by decide +kernel
theorem dX8_set_61 : decode cX8_set 61 = .ok (.iload_n 2, 1) := by decide +kernel
theorem dX8_set_62 : decode cX8_set 62 = .ok (.putfield 82, 3) := by decide +kernel
theorem dX8_set_65 : decode cX8_set 65 = .ok (.goto 45, 3) := by decide +kernel
theorem dX8_set_68 : decode cX8_set 68 = .ok (.iload_n 1, 1) := by decide +kernel
theorem dX8_set_69 : decode cX8_set 69 = .ok (.iconst 2, 1) := by decide +kernel
theorem dX8_set_70 : decode cX8_set 70 = .ok (.if_icmp .ne 34, 3) := by decide +kernel
theorem dX8_set_73 : decode cX8_set 73 = .ok (.iload_n 2, 1) := by decide +kernel
theorem dX8_set_74 : decode cX8_set 74 = .ok (.bipush (-99), 2) := by decide +kernel
theorem dX8_set_76 : decode cX8_set 76 = .ok (.sipush 299, 3) := by decide +kernel
theorem dX8_set_79 : decode cX8_set 79 = .ok (.invokestatic 71, 3) := by decide +kernel
theorem dX8_set_82 : decode cX8_set 82 = .ok (.ifCond .eq 22, 3) := by decide +kernel
theorem dX8_set_85 : decode cX8_set 85 = .ok (.aload_n 0, 1) := by decide +kernel
theorem dX8_set_86 : decode cX8_set 86 = .ok (.getfield 10, 3) := by decide +kernel
theorem dX8_set_89 : decode cX8_set 89 = .ok (.getfield 85, 3) := by decide +kernel
theorem dX8_set_92 : decode cX8_set 92 = .ok (.istore_n 3, 1) := by decide +kernel
theorem dX8_set_93 : decode cX8_set 93 = .ok (.aload_n 0, 1) := by decide +kernel
theorem dX8_set_94 : decode cX8_set 94 = .ok (.getfield 10, 3) := by decide +kernel
theorem dX8_set_97 : decode cX8_set 97 = .ok (.iload_n 2, 1) := by decide +kernel
theorem dX8_set_98 : decode cX8_set 98 = .ok (.putfield 85, 3) := by decide +kernel
theorem dX8_set_101 : decode cX8_set 101 = .ok (.goto 9, 3) := by decide +kernel
theorem dX8_set_104 : decode cX8_set 104 = .ok (.aload_n 0, 1) := by decide +kernel
theorem dX8_set_105 : decode cX8_set 105 = .ok (.iconst 1, 1) := by decide +kernel
theorem dX8_set_106 : decode cX8_set 106 = .ok (.invokevirtual 63, 3) := by decide +kernel
theorem dX8_set_109 : decode cX8_set 109 = .ok (.ireturn, 1) := by decide +kernel
theorem dX8_set_110 : decode cX8_set 110 = .ok (.iload_n 3, 1) := by decide +kernel
theorem dX8_set_111 : decode cX8_set 111 = .ok (.ireturn, 1) := by decide +kernel
theorem dX8_flyer_0 : decode cX8_flyer 0 = .ok (.iload_n 1, 1) := by decide +kernel
theorem dX8_flyer_1 : decode cX8_flyer 1 = .ok (.invokestatic 88, 3) := by decide +kernel
theorem dX8_flyer_4 : decode cX8_flyer 4 = .ok (.ifCond .ne 9, 3) := by decide +kernel
theorem dX8_flyer_7 : decode cX8_flyer 7 = .ok (.aload_n 0, 1) := by decide +kernel
theorem dX8_flyer_8 : decode cX8_flyer 8 = .ok (.iconst 1, 1) := by decide +kernel
theorem dX8_flyer_9 : decode cX8_flyer 9 = .ok (.invokevirtual 63, 3) := by decide +kernel
theorem dX8_flyer_12 : decode cX8_flyer 12 = .ok (.ireturn, 1) := by decide +kernel
theorem dX8_flyer_13 : decode cX8_flyer 13 = .ok (.aload_n 0, 1) := by decide +kernel
theorem dX8_flyer_14 : decode cX8_flyer 14 = .ok (.getfield 10, 3) := by decide +kernel
theorem dX8_flyer_17 : decode cX8_flyer 17 = .ok (.getfield 92, 3) := by decide +kernel
theorem dX8_flyer_20 : decode cX8_flyer 20 = .ok (.bipush 6, 2) := by decide +kernel
theorem dX8_flyer_22 : decode cX8_flyer 22 = .ok (.if_icmp .lt 9, 3) := by decide +kernel
theorem dX8_flyer_25 : decode cX8_flyer 25 = .ok (.aload_n 0, 1) := by decide +kernel
theorem dX8_flyer_26 : decode cX8_flyer 26 = .ok (.iconst 4, 1) := by decide +kernel
theorem dX8_flyer_27 : decode cX8_flyer 27 = .ok (.invokevirtual 63, 3) := by decide +kernel
theorem dX8_flyer_30 : decode cX8_flyer 30 = .ok (.ireturn, 1) := by decide +kernel
theorem dX8_flyer_31 : decode cX8_flyer 31 = .ok (.aload_n 0, 1) := by decide +kernel
theorem dX8_flyer_32 : decode cX8_flyer 32 = .ok (.getfield 10, 3) := by decide +kernel
theorem dX8_flyer_35 : decode cX8_flyer 35 = .ok (.dup, 1) := by decide +kernel
theorem dX8_flyer_36 : decode cX8_flyer 36 = .ok (.getfield 92, 3) := by decide +kernel
theorem dX8_flyer_39 : decode cX8_flyer 39 = .ok (.iconst 1, 1) := by decide +kernel
theorem dX8_flyer_40 : decode cX8_flyer 40 = .ok (.iadd, 1) := by decide +kernel
theorem dX8_flyer_41 : decode cX8_flyer 41 = .ok (.putfield 92, 3) := by decide +kernel
theorem dX8_flyer_44 : decode cX8_flyer 44 = .ok (.aload_n 0, 1) := by decide +kernel
theorem dX8_flyer_45 : decode cX8_flyer 45 = .ok (.getfield 10, 3) := by decide +kernel
theorem dX8_flyer_48 : decode cX8_flyer 48 = .ok (.aload_n 0, 1) := by decide +kernel
theorem dX8_flyer_49 : decode cX8_flyer 49 = .ok (.getfield 10, 3) := by decide +kernel
theorem dX8_flyer_52 : decode cX8_flyer 52 = .ok (.getfield 92, 3) := by decide +kernel
theorem dX8_flyer_55 : decode cX8_flyer 55 = .ok (.iconst 1, 1) := by decide +kernel
theorem dX8_flyer_56 : decode cX8_flyer 56 = .ok (.isub, 1) := by decide +kernel
theorem dX8_flyer_57 : decode cX8_flyer 57 = .ok (.invokevirtual 95, 3) := by decide +kernel
theorem dX8_flyer_60 : decode cX8_flyer 60 = .ok (.astore_n 2, 1) := by decide +kernel
theorem dX8_flyer_61 : decode cX8_flyer 61 = .ok (.aload_n 2, 1) := by decide +kernel
theorem dX8_flyer_62 : decode cX8_flyer 62 = .ok (.ifnull 8, 3) := by decide +kernel
theorem dX8_flyer_65 : decode cX8_flyer 65 = .ok (.aload_n 2, 1) := by decide +kernel
theorem dX8_flyer_66 : decode cX8_flyer 66 = .ok (.iload_n 1, 1) := by decide +kernel
theorem dX8_flyer_67 : decode cX8_flyer 67 = .ok (.invokevirtual 99, 3) := by decide +kernel
theorem dX8_flyer_70 : decode cX8_flyer 70 = .ok (.aload_n 0, 1) := by decide +kernel
theorem dX8_flyer_71 : decode cX8_flyer 71 = .ok (.getfield 10, 3) := by decide +kernel
theorem dX8_flyer_74 : decode cX8_flyer 74 = .ok (.getfield 92, 3) := by decide +kernel
theorem dX8_flyer_77 : decode cX8_flyer 77 = .ok (.iconst 1, 1) := by decide +kernel
theorem dX8_flyer_78 : decode cX8_flyer 78 = .ok (.isub, 1) := by decide +kernel
theorem dX8_flyer_79 : decode cX8_flyer 79 = .ok (.ireturn, 1) := by decide +kernel
theorem dX8_ofFlyer_0 : decode cX8_ofFlyer 0 = .ok (.aload_n 0, 1) := by decide +kernel
theorem dX8_ofFlyer_1 : decode cX8_ofFlyer 1 = .ok (.getfield 10, 3) := by decide +kernel
theorem dX8_ofFlyer_4 : decode cX8_ofFlyer 4 = .ok (.iload_n 1, 1) := by decide +kernel
theorem dX8_ofFlyer_5 : decode cX8_ofFlyer 5 = .ok (.invokevirtual 95, 3) := by decide +kernel
theorem dX8_ofFlyer_8 : decode cX8_ofFlyer 8 = .ok (.astore_n 3, 1) := by decide +kernel
theorem dX8_ofFlyer_9 : decode cX8_ofFlyer 9 = .ok (.aload_n 3, 1) := by decide +kernel
theorem dX8_ofFlyer_10 : decode cX8_ofFlyer 10 = .ok (.ifnull 13, 3) := by decide +kernel
theorem dX8_ofFlyer_13 : decode cX8_ofFlyer 13 = .ok (.iload_n 2, 1) := by decide +kernel
theorem dX8_ofFlyer_14 : decode cX8_ofFlyer 14 = .ok (.iconst 0, 1) := by decide +kernel
theorem dX8_ofFlyer_15 : decode cX8_ofFlyer 15 = .ok (.bipush 6, 2) := by decide +kernel
theorem dX8_ofFlyer_17 : decode cX8_ofFlyer 17 = .ok (.invokestatic 71, 3) := by decide +kernel
theorem dX8_ofFlyer_20 : decode cX8_ofFlyer 20 = .ok (.ifCond .ne 9, 3) := by decide +kernel
theorem dX8_ofFlyer_23 : decode cX8_ofFlyer 23 = .ok (.aload_n 0, 1) := by decide +kernel
theorem dX8_ofFlyer_24 : decode cX8_ofFlyer 24 = .ok (.iconst 1, 1) := by decide +kernel
theorem dX8_ofFlyer_25 : decode cX8_ofFlyer 25 = .ok (.invokevirtual 63, 3) := by decide +kernel
theorem dX8_ofFlyer_28 : decode cX8_ofFlyer 28 = .ok (.ireturn, 1) := by decide +kernel
theorem dX8_ofFlyer_29 : decode cX8_ofFlyer 29 = .ok (.iload_n 2, 1) := by decide +kernel
theorem dX8_ofFlyer_30 : decode cX8_ofFlyer 30 = .ok (.tableswitch 75 0 5 #[38, 43, 48, 53, 58, 63], 38) := by decide +kernel
theorem dX8_ofFlyer_68 : decode cX8_ofFlyer 68 = .ok (.aload_n 3, 1) := by decide +kernel
theorem dX8_ofFlyer_69 : decode cX8_ofFlyer 69 = .ok (.getfield 105, 3) := by decide +kernel
theorem dX8_ofFlyer_72 : decode cX8_ofFlyer 72 = .ok (.ireturn, 1) := by decide +kernel
theorem dX8_ofFlyer_73 : decode cX8_ofFlyer 73 = .ok (.aload_n 3, 1) := by decide +kernel
theorem dX8_ofFlyer_74 : decode cX8_ofFlyer 74 = .ok (.getfield 108, 3) := by decide +kernel
theorem dX8_ofFlyer_77 : decode cX8_ofFlyer 77 = .ok (.ireturn, 1) := by decide +kernel
theorem dX8_ofFlyer_78 : decode cX8_ofFlyer 78 = .ok (.aload_n 3, 1) := by decide +kernel
theorem dX8_ofFlyer_79 : decode cX8_ofFlyer 79 = .ok (.getfield 111, 3) := by decide +kernel
theorem dX8_ofFlyer_82 : decode cX8_ofFlyer 82 = .ok (.ireturn, 1) := by decide +kernel
theorem dX8_ofFlyer_83 : decode cX8_ofFlyer 83 = .ok (.aload_n 3, 1) := by decide +kernel
theorem dX8_ofFlyer_84 : decode cX8_ofFlyer 84 = .ok (.getfield 114, 3) := by decide +kernel
theorem dX8_ofFlyer_87 : decode cX8_ofFlyer 87 = .ok (.ireturn, 1) := by decide +kernel
theorem dX8_ofFlyer_88 : decode cX8_ofFlyer 88 = .ok (.aload_n 3, 1) := by decide +kernel
theorem dX8_ofFlyer_89 : decode cX8_ofFlyer 89 = .ok (.invokevirtual 117, 3) := by decide +kernel
theorem dX8_ofFlyer_92 : decode cX8_ofFlyer 92 = .ok (.ireturn, 1) := by decide +kernel
theorem dX8_ofFlyer_93 : decode cX8_ofFlyer 93 = .ok (.aload_n 3, 1) := by decide +kernel
theorem dX8_ofFlyer_94 : decode cX8_ofFlyer 94 = .ok (.aload_n 0, 1) := by decide +kernel
theorem dX8_ofFlyer_95 : decode cX8_ofFlyer 95 = .ok (.getfield 10, 3) := by decide +kernel
theorem dX8_ofFlyer_98 : decode cX8_ofFlyer 98 = .ok (.getfield 82, 3) := by decide +kernel
theorem dX8_ofFlyer_101 : decode cX8_ofFlyer 101 = .ok (.invokevirtual 121, 3) := by decide +kernel
theorem dX8_ofFlyer_104 : decode cX8_ofFlyer 104 = .ok (.ireturn, 1) := by decide +kernel
theorem dX8_ofFlyer_105 : decode cX8_ofFlyer 105 = .ok (.aload_n 3, 1) := by decide +kernel
theorem dX8_ofFlyer_106 : decode cX8_ofFlyer 106 = .ok (.bipush 10, 2) := by decide +kernel
theorem dX8_ofFlyer_108 : decode cX8_ofFlyer 108 = .ok (.invokevirtual 124, 3) := by decide +kernel
theorem dX8_ofFlyer_111 : decode cX8_ofFlyer 111 = .ok (.ireturn, 1) := by decide +kernel
theorem dX8_become_0 : decode cX8_become 0 = .ok (.aload_n 0, 1) := by decide +kernel
theorem dX8_become_1 : decode cX8_become 1 = .ok (.getfield 10, 3) := by decide +kernel
theorem dX8_become_4 : decode cX8_become 4 = .ok (.iload_n 1, 1) := by decide +kernel
theorem dX8_become_5 : decode cX8_become 5 = .ok (.invokevirtual 95, 3) := by decide +kernel
theorem dX8_become_8 : decode cX8_become 8 = .ok (.astore_n 3, 1) := by decide +kernel
theorem dX8_become_9 : decode cX8_become 9 = .ok (.aload_n 3, 1) := by decide +kernel
theorem dX8_become_10 : decode cX8_become 10 = .ok (.ifnull 10, 3) := by decide +kernel
theorem dX8_become_13 : decode cX8_become 13 = .ok (.iload_n 2, 1) := by decide +kernel
theorem dX8_become_14 : decode cX8_become 14 = .ok (.invokestatic 88, 3) := by decide +kernel
theorem dX8_become_17 : decode cX8_become 17 = .ok (.ifCond .ne 9, 3) := by decide +kernel
theorem dX8_become_20 : decode cX8_become 20 = .ok (.aload_n 0, 1) := by decide +kernel
theorem dX8_become_21 : decode cX8_become 21 = .ok (.iconst 1, 1) := by decide +kernel
theorem dX8_become_22 : decode cX8_become 22 = .ok (.invokevirtual 63, 3) := by decide +kernel
theorem dX8_become_25 : decode cX8_become 25 = .ok (.ireturn, 1) := by decide +kernel
theorem dX8_become_26 : decode cX8_become 26 = .ok (.aload_n 3, 1) := by decide +kernel
theorem dX8_become_27 : decode cX8_become 27 = .ok (.getfield 105, 3) := by decide +kernel
theorem dX8_become_30 : decode cX8_become 30 = .ok (.istore 4, 2) := by decide +kernel
theorem dX8_become_32 : decode cX8_become 32 = .ok (.aload_n 3, 1) := by decide +kernel
theorem dX8_become_33 : decode cX8_become 33 = .ok (.iload_n 2, 1) := by decide +kernel
theorem dX8_become_34 : decode cX8_become 34 = .ok (.invokevirtual 127, 3) := by decide +kernel
theorem dX8_become_37 : decode cX8_become 37 = .ok (.iload 4, 2) := by decide +kernel
theorem dX8_become_39 : decode cX8_become 39 = .ok (.ireturn, 1) := by decide +kernel
theorem dX8_as_0 : decode cX8_as 0 = .ok (.aload_n 0, 1) := by decide +kernel
theorem dX8_as_1 : decode cX8_as 1 = .ok (.getfield 10, 3) := by decide +kernel
theorem dX8_as_4 : decode cX8_as 4 = .ok (.iload_n 1, 1) := by decide +kernel
theorem dX8_as_5 : decode cX8_as 5 = .ok (.invokevirtual 95, 3) := by decide +kernel
theorem dX8_as_8 : decode cX8_as 8 = .ok (.astore_n 3, 1) := by decide +kernel
theorem dX8_as_9 : decode cX8_as 9 = .ok (.aload_n 3, 1) := by decide +kernel
theorem dX8_as_10 : decode cX8_as 10 = .ok (.ifnull 13, 3) := by decide +kernel
theorem dX8_as_13 : decode cX8_as 13 = .ok (.iload_n 2, 1) := by decide +kernel
theorem dX8_as_14 : decode cX8_as 14 = .ok (.iconst 0, 1) := by decide +kernel
theorem dX8_as_15 : decode cX8_as 15 = .ok (.bipush 6, 2) := by decide +kernel
theorem dX8_as_17 : decode cX8_as 17 = .ok (.invokestatic 71, 3) := by decide +kernel
theorem dX8_as_20 : decode cX8_as 20 = .ok (.ifCond .ne 9, 3) := by decide +kernel
theorem dX8_as_23 : decode cX8_as 23 = .ok (.aload_n 0, 1) := by decide +kernel
theorem dX8_as_24 : decode cX8_as 24 = .ok (.iconst 1, 1) := by decide +kernel
theorem dX8_as_25 : decode cX8_as 25 = .ok (.invokevirtual 63, 3) := by decide +kernel
theorem dX8_as_28 : decode cX8_as 28 = .ok (.ireturn, 1) := by decide +kernel
theorem dX8_as_29 : decode cX8_as 29 = .ok (.aload_n 3, 1) := by decide +kernel
theorem dX8_as_30 : decode cX8_as 30 = .ok (.iload_n 2, 1) := by decide +kernel
theorem dX8_as_31 : decode cX8_as 31 = .ok (.invokevirtual 130, 3) := by decide +kernel
theorem dX8_as_34 : decode cX8_as 34 = .ok (.ifCond .ne 9, 3) := by decide +kernel
theorem dX8_as_37 : decode cX8_as 37 = .ok (.aload_n 0, 1) := by decide +kernel
theorem dX8_as_38 : decode cX8_as 38 = .ok (.iconst 5, 1) := by decide +kernel
theorem dX8_as_39 : decode cX8_as 39 = .ok (.invokevirtual 63, 3) := by decide +kernel
theorem dX8_as_42 : decode cX8_as 42 = .ok (.ireturn, 1) := by decide +kernel
theorem dX8_as_43 : decode cX8_as 43 = .ok (.aload_n 3, 1) := by decide +kernel
theorem dX8_as_44 : decode cX8_as 44 = .ok (.getfield 108, 3) := by decide +kernel
theorem dX8_as_47 : decode cX8_as 47 = .ok (.ireturn, 1) := by decide +kernel
theorem dX8_turn_0 : decode cX8_turn 0 = .ok (.aload_n 0, 1) := by decide +kernel
theorem dX8_turn_1 : decode cX8_turn 1 = .ok (.getfield 10, 3) := by decide +kernel
theorem dX8_turn_4 : decode cX8_turn 4 = .ok (.iload_n 1, 1) := by decide +kernel
theorem dX8_turn_5 : decode cX8_turn 5 = .ok (.invokevirtual 95, 3) := by decide +kernel
theorem dX8_turn_8 : decode cX8_turn 8 = .ok (.astore_n 3, 1) := by decide +kernel
theorem dX8_turn_9 : decode cX8_turn 9 = .ok (.aload_n 3, 1) := by decide +kernel
theorem dX8_turn_10 : decode cX8_turn 10 = .ok (.ifnull 12, 3) := by decide +kernel
theorem dX8_turn_13 : decode cX8_turn 13 = .ok (.iload_n 2, 1) := by decide +kernel
theorem dX8_turn_14 : decode cX8_turn 14 = .ok (.iconst 1, 1) := by decide +kernel
theorem dX8_turn_15 : decode cX8_turn 15 = .ok (.iconst 3, 1) := by decide +kernel
theorem dX8_turn_16 : decode cX8_turn 16 = .ok (.invokestatic 71, 3) := by decide +kernel
theorem dX8_turn_19 : decode cX8_turn 19 = .ok (.ifCond .ne 9, 3) := by decide +kernel
theorem dX8_turn_22 : decode cX8_turn 22 = .ok (.aload_n 0, 1) := by decide +kernel
theorem dX8_turn_23 : decode cX8_turn 23 = .ok (.iconst 1, 1) := by decide +kernel
theorem dX8_turn_24 : decode cX8_turn 24 = .ok (.invokevirtual 63, 3) := by decide +kernel
theorem dX8_turn_27 : decode cX8_turn 27 = .ok (.ireturn, 1) := by decide +kernel
theorem dX8_turn_28 : decode cX8_turn 28 = .ok (.aload_n 3, 1) := by decide +kernel
theorem dX8_turn_29 : decode cX8_turn 29 = .ok (.getfield 111, 3) := by decide +kernel
theorem dX8_turn_32 : decode cX8_turn 32 = .ok (.istore 4, 2) := by decide +kernel
theorem dX8_turn_34 : decode cX8_turn 34 = .ok (.aload_n 3, 1) := by decide +kernel
theorem dX8_turn_35 : decode cX8_turn 35 = .ok (.iload_n 2, 1) := by decide +kernel
theorem dX8_turn_36 : decode cX8_turn 36 = .ok (.putfield 111, 3) := by decide +kernel
theorem dX8_turn_39 : decode cX8_turn 39 = .ok (.iload 4, 2) := by decide +kernel
theorem dX8_turn_41 : decode cX8_turn 41 = .ok (.ireturn, 1) := by decide +kernel
theorem dX8_feed_0 : decode cX8_feed 0 = .ok (.iload_n 3, 1) := by decide +kernel
theorem dX8_feed_1 : decode cX8_feed 1 = .ok (.iconst 1, 1) := by decide +kernel
theorem dX8_feed_2 : decode cX8_feed 2 = .ok (.bipush 8, 2) := by decide +kernel
theorem dX8_feed_4 : decode cX8_feed 4 = .ok (.invokestatic 71, 3) := by decide +kernel
theorem dX8_feed_7 : decode cX8_feed 7 = .ok (.ifCond .ne 9, 3) := by decide +kernel
theorem dX8_feed_10 : decode cX8_feed 10 = .ok (.aload_n 0, 1) := by decide +kernel
theorem dX8_feed_11 : decode cX8_feed 11 = .ok (.iconst 1, 1) := by decide +kernel
theorem dX8_feed_12 : decode cX8_feed 12 = .ok (.invokevirtual 63, 3) := by decide +kernel
theorem dX8_feed_15 : decode cX8_feed 15 = .ok (.ireturn, 1) := by decide +kernel
theorem dX8_feed_16 : decode cX8_feed 16 = .ok (.aload_n 0, 1) := by decide +kernel
theorem dX8_feed_17 : decode cX8_feed 17 = .ok (.getfield 10, 3) := by decide +kernel
theorem dX8_feed_20 : decode cX8_feed 20 = .ok (.getfield 133, 3) := by decide +kernel
theorem dX8_feed_23 : decode cX8_feed 23 = .ok (.bipush 50, 2) := by decide +kernel
theorem dX8_feed_25 : decode cX8_feed 25 = .ok (.iload_n 3, 1) := by decide +kernel
theorem dX8_feed_26 : decode cX8_feed 26 = .ok (.isub, 1) := by decide +kernel
theorem dX8_feed_27 : decode cX8_feed 27 = .ok (.if_icmp .le 9, 3) := by decide +kernel
theorem dX8_feed_30 : decode cX8_feed 30 = .ok (.aload_n 0, 1) := by decide +kernel
theorem dX8_feed_31 : decode cX8_feed 31 = .ok (.iconst 4, 1) := by decide +kernel
theorem dX8_feed_32 : decode cX8_feed 32 = .ok (.invokevirtual 63, 3) := by decide +kernel
theorem dX8_feed_35 : decode cX8_feed 35 = .ok (.ireturn, 1) := by decide +kernel
theorem dX8_feed_36 : decode cX8_feed 36 = .ok (.iconst 0, 1) := by decide +kernel
theorem dX8_feed_37 : decode cX8_feed 37 = .ok (.istore 4, 2) := by decide +kernel
theorem dX8_feed_39 : decode cX8_feed 39 = .ok (.iload 4, 2) := by decide +kernel
theorem dX8_feed_41 : decode cX8_feed 41 = .ok (.iload_n 3, 1) := by decide +kernel
theorem dX8_feed_42 : decode cX8_feed 42 = .ok (.if_icmp .ge 28, 3) := by decide +kernel
theorem dX8_feed_45 : decode cX8_feed 45 = .ok (.aload_n 0, 1) := by decide +kernel
theorem dX8_feed_46 : decode cX8_feed 46 = .ok (.getfield 10, 3) := by decide +kernel
theorem dX8_feed_49 : decode cX8_feed 49 = .ok (.lload_n 1, 1) := by decide +kernel
theorem dX8_feed_50 : decode cX8_feed 50 = .ok (.bipush 8, 2) := by decide +kernel
theorem dX8_feed_52 : decode cX8_feed 52 = .ok (.iload 4, 2) := by decide +kernel
theorem dX8_feed_54 : decode cX8_feed 54 = .ok (.imul, 1) := by decide +kernel
theorem dX8_feed_55 : decode cX8_feed 55 = .ok (.lushr, 1) := by decide +kernel
theorem dX8_feed_56 : decode cX8_feed 56 = .ok (.l2i, 1) := by decide +kernel
theorem dX8_feed_57 : decode cX8_feed 57 = .ok (.sipush 255, 3) := by decide +kernel
theorem dX8_feed_60 : decode cX8_feed 60 = .ok (.iand, 1) := by decide +kernel
theorem dX8_feed_61 : decode cX8_feed 61 = .ok (.invokevirtual 136, 3) := by decide +kernel
theorem dX8_feed_64 : decode cX8_feed 64 = .ok (.iinc 4 1, 3) := by decide +kernel
theorem dX8_feed_67 : decode cX8_feed 67 = .ok (.goto (-28), 3) := by decide +kernel
theorem dX8_feed_70 : decode cX8_feed 70 = .ok (.aload_n 0, 1) := by decide +kernel
theorem dX8_feed_71 : decode cX8_feed 71 = .ok (.getfield 10, 3) := by decide +kernel
theorem dX8_feed_74 : decode cX8_feed 74 = .ok (.getfield 133, 3) := by decide +kernel
theorem dX8_feed_77 : decode cX8_feed 77 = .ok (.ireturn, 1) := by decide +kernel
theorem dX8_text_0 : decode cX8_text 0 = .ok (.aload_n 0, 1) := by decide +kernel
theorem dX8_text_1 : decode cX8_text 1 = .ok (.getfield 10, 3) := by decide +kernel
theorem dX8_text_4 : decode cX8_text 4 = .ok (.iload_n 1, 1) := by decide +kernel
theorem dX8_text_5 : decode cX8_text 5 = .ok (.invokevirtual 139, 3) := by decide +kernel
theorem dX8_text_8 : decode cX8_text 8 = .ok (.astore_n 2, 1) := by decide +kernel
theorem dX8_text_9 : decode cX8_text 9 = .ok (.aload_n 2, 1) := by decide +kernel
theorem dX8_text_10 : decode cX8_text 10 = .ok (.ifnonnull 9, 3) := by decide +kernel
theorem dX8_text_13 : decode cX8_text 13 = .ok (.aload_n 0, 1) := by decide +kernel
theorem dX8_text_14 : decode cX8_text 14 = .ok (.iconst 1, 1) := by decide +kernel
theorem dX8_text_15 : decode cX8_text 15 = .ok (.invokevirtual 63, 3) := by decide +kernel
theorem dX8_text_18 : decode cX8_text 18 = .ok (.ireturn, 1) := by decide +kernel
theorem dX8_text_19 : decode cX8_text 19 = .ok (.aload_n 0, 1) := by decide +kernel
theorem dX8_text_20 : decode cX8_text 20 = .ok (.getfield 31, 3) := by decide +kernel
theorem dX8_text_23 : decode cX8_text 23 = .ok (.invokevirtual 143, 3) := by decide +kernel
theorem dX8_text_26 : decode cX8_text 26 = .ok (.istore_n 3, 1) := by decide +kernel
theorem dX8_text_27 : decode cX8_text 27 = .ok (.aload_n 0, 1) := by decide +kernel
theorem dX8_text_28 : decode cX8_text 28 = .ok (.getfield 10, 3) := by decide +kernel
theorem dX8_text_31 : decode cX8_text 31 = .ok (.iconst 0, 1) := by decide +kernel
theorem dX8_text_32 : decode cX8_text 32 = .ok (.putfield 133, 3) := by decide +kernel
theorem dX8_text_35 : decode cX8_text 35 = .ok (.iload_n 3, 1) := by decide +kernel
theorem dX8_text_36 : decode cX8_text 36 = .ok (.ifCond .lt 8, 3) := by decide +kernel
theorem dX8_text_39 : decode cX8_text 39 = .ok (.bipush (-10), 2) := by decide +kernel
theorem dX8_text_41 : decode cX8_text 41 = .ok (.iload_n 3, 1) := by decide +kernel
theorem dX8_text_42 : decode cX8_text 42 = .ok (.isub, 1) := by decide +kernel
theorem dX8_text_43 : decode cX8_text 43 = .ok (.ireturn, 1) := by decide +kernel
theorem dX8_text_44 : decode cX8_text 44 = .ok (.aload_n 2, 1) := by decide +kernel
theorem dX8_text_45 : decode cX8_text 45 = .ok (.aload_n 0, 1) := by decide +kernel
theorem dX8_text_46 : decode cX8_text 46 = .ok (.getfield 31, 3) := by decide +kernel
theorem dX8_text_49 : decode cX8_text 49 = .ok (.getfield 146, 3) := by decide +kernel
theorem dX8_text_52 : decode cX8_text 52 = .ok (.aload_n 0, 1) := by decide +kernel
theorem dX8_text_53 : decode cX8_text 53 = .ok (.getfield 31, 3) := by decide +kernel
theorem dX8_text_56 : decode cX8_text 56 = .ok (.getfield 149, 3) := by decide +kernel
theorem dX8_text_59 : decode cX8_text 59 = .ok (.invokevirtual 152, 3) := by decide +kernel
theorem dX8_text_62 : decode cX8_text 62 = .ok (.iconst 1, 1) := by decide +kernel
theorem dX8_text_63 : decode cX8_text 63 = .ok (.ireturn, 1) := by decide +kernel
theorem dX8_law_0 : decode cX8_law 0 = .ok (.aload_n 0, 1) := by decide +kernel
theorem dX8_law_1 : decode cX8_law 1 = .ok (.getfield 10, 3) := by decide +kernel
theorem dX8_law_4 : decode cX8_law 4 = .ok (.iload_n 1, 1) := by decide +kernel
theorem dX8_law_5 : decode cX8_law 5 = .ok (.invokevirtual 139, 3) := by decide +kernel
theorem dX8_law_8 : decode cX8_law 8 = .ok (.astore 5, 2) := by decide +kernel
theorem dX8_law_10 : decode cX8_law 10 = .ok (.aload 5, 2) := by decide +kernel
theorem dX8_law_12 : decode cX8_law 12 = .ok (.ifnonnull 9, 3) := by decide +kernel
theorem dX8_law_15 : decode cX8_law 15 = .ok (.aload_n 0, 1) := by decide +kernel
theorem dX8_law_16 : decode cX8_law 16 = .ok (.iconst 1, 1) := by decide +kernel
theorem dX8_law_17 : decode cX8_law 17 = .ok (.invokevirtual 63, 3) := by decide +kernel
theorem dX8_law_20 : decode cX8_law 20 = .ok (.ireturn, 1) := by decide +kernel
theorem dX8_law_21 : decode cX8_law 21 = .ok (.aload 5, 2) := by decide +kernel
theorem dX8_law_23 : decode cX8_law 23 = .ok (.iload_n 2, 1) := by decide +kernel
theorem dX8_law_24 : decode cX8_law 24 = .ok (.iload_n 3, 1) := by decide +kernel
theorem dX8_law_25 : decode cX8_law 25 = .ok (.iload 4, 2) := by decide +kernel
theorem dX8_law_27 : decode cX8_law 27 = .ok (.invokevirtual 157, 3) := by decide +kernel
theorem dX8_law_30 : decode cX8_law 30 = .ok (.ireturn, 1) := by decide +kernel
theorem dX8_go_0 : decode cX8_go 0 = .ok (.aload_n 0, 1) := by decide +kernel
theorem dX8_go_1 : decode cX8_go 1 = .ok (.getfield 10, 3) := by decide +kernel
theorem dX8_go_4 : decode cX8_go 4 = .ok (.iload_n 1, 1) := by decide +kernel
theorem dX8_go_5 : decode cX8_go 5 = .ok (.invokevirtual 95, 3) := by decide +kernel
theorem dX8_go_8 : decode cX8_go 8 = .ok (.astore_n 2, 1) := by decide +kernel
theorem dX8_go_9 : decode cX8_go 9 = .ok (.aload_n 2, 1) := by decide +kernel
theorem dX8_go_10 : decode cX8_go 10 = .ok (.ifnonnull 9, 3) := by decide +kernel
theorem dX8_go_13 : decode cX8_go 13 = .ok (.aload_n 0, 1) := by decide +kernel
theorem dX8_go_14 : decode cX8_go 14 = .ok (.iconst 1, 1) := by decide +kernel
theorem dX8_go_15 : decode cX8_go 15 = .ok (.invokevirtual 63, 3) := by decide +kernel
theorem dX8_go_18 : decode cX8_go 18 = .ok (.ireturn, 1) := by decide +kernel
theorem dX8_go_19 : decode cX8_go 19 = .ok (.aload_n 0, 1) := by decide +kernel
theorem dX8_go_20 : decode cX8_go 20 = .ok (.aload_n 2, 1) := by decide +kernel
theorem dX8_go_21 : decode cX8_go 21 = .ok (.aload_n 0, 1) := by decide +kernel
theorem dX8_go_22 : decode cX8_go 22 = .ok (.getfield 10, 3) := by decide +kernel
theorem dX8_go_25 : decode cX8_go 25 = .ok (.getfield 161, 3) := by decide +kernel
theorem dX8_go_28 : decode cX8_go 28 = .ok (.invokevirtual 164, 3) := by decide +kernel
theorem dX8_go_31 : decode cX8_go 31 = .ok (.ireturn, 1) := by decide +kernel
theorem dX8_ticks_0 : decode cX8_ticks 0 = .ok (.iload_n 1, 1) := by decide +kernel
theorem dX8_ticks_1 : decode cX8_ticks 1 = .ok (.iconst 1, 1) := by decide +kernel
theorem dX8_ticks_2 : decode cX8_ticks 2 = .ok (.sipush 200, 3) := by decide +kernel
theorem dX8_ticks_5 : decode cX8_ticks 5 = .ok (.invokestatic 71, 3) := by decide +kernel
theorem dX8_ticks_8 : decode cX8_ticks 8 = .ok (.ifCond .ne 9, 3) := by decide +kernel
theorem dX8_ticks_11 : decode cX8_ticks 11 = .ok (.aload_n 0, 1) := by decide +kernel
theorem dX8_ticks_12 : decode cX8_ticks 12 = .ok (.iconst 1, 1) := by decide +kernel
theorem dX8_ticks_13 : decode cX8_ticks 13 = .ok (.invokevirtual 63, 3) := by decide +kernel
theorem dX8_ticks_16 : decode cX8_ticks 16 = .ok (.ireturn, 1) := by decide +kernel
theorem dX8_ticks_17 : decode cX8_ticks 17 = .ok (.aload_n 0, 1) := by decide +kernel
theorem dX8_ticks_18 : decode cX8_ticks 18 = .ok (.getfield 10, 3) := by decide +kernel
theorem dX8_ticks_21 : decode cX8_ticks 21 = .ok (.getfield 161, 3) := by decide +kernel
theorem dX8_ticks_24 : decode cX8_ticks 24 = .ok (.iload_n 1, 1) := by decide +kernel
theorem dX8_ticks_25 : decode cX8_ticks 25 = .ok (.iadd, 1) := by decide +kernel
theorem dX8_ticks_26 : decode cX8_ticks 26 = .ok (.sipush 9999, 3) := by decide +kernel
theorem dX8_ticks_29 : decode cX8_ticks 29 = .ok (.if_icmp .le 9, 3) := by decide +kernel
theorem dX8_ticks_32 : decode cX8_ticks 32 = .ok (.aload_n 0, 1) := by decide +kernel
theorem dX8_ticks_33 : decode cX8_ticks 33 = .ok (.iconst 3, 1) := by decide +kernel
theorem dX8_ticks_34 : decode cX8_ticks 34 = .ok (.invokevirtual 63, 3) := by decide +kernel
theorem dX8_ticks_37 : decode cX8_ticks 37 = .ok (.ireturn, 1) := by decide +kernel
theorem dX8_ticks_38 : decode cX8_ticks 38 = .ok (.aload_n 0, 1) := by decide +kernel
theorem dX8_ticks_39 : decode cX8_ticks 39 = .ok (.getfield 10, 3) := by decide +kernel
theorem dX8_ticks_42 : decode cX8_ticks 42 = .ok (.dup, 1) := by decide +kernel
theorem dX8_ticks_43 : decode cX8_ticks 43 = .ok (.getfield 161, 3) := by decide +kernel
theorem dX8_ticks_46 : decode cX8_ticks 46 = .ok (.iload_n 1, 1) := by decide +kernel
theorem dX8_ticks_47 : decode cX8_ticks 47 = .ok (.iadd, 1) := by decide +kernel
theorem dX8_ticks_48 : decode cX8_ticks 48 = .ok (.putfield 161, 3) := by decide +kernel
theorem dX8_ticks_51 : decode cX8_ticks 51 = .ok (.aload_n 0, 1) := by decide +kernel
theorem dX8_ticks_52 : decode cX8_ticks 52 = .ok (.getfield 10, 3) := by decide +kernel
theorem dX8_ticks_55 : decode cX8_ticks 55 = .ok (.getfield 161, 3) := by decide +kernel
theorem dX8_ticks_58 : decode cX8_ticks 58 = .ok (.ireturn, 1) := by decide +kernel
theorem dX8_evenings_0 : decode cX8_evenings 0 = .ok (.iload_n 1, 1) := by decide +kernel
theorem dX8_evenings_1 : decode cX8_evenings 1 = .ok (.iconst 1, 1) := by decide +kernel
theorem dX8_evenings_2 : decode cX8_evenings 2 = .ok (.bipush 40, 2) := by decide +kernel
theorem dX8_evenings_4 : decode cX8_evenings 4 = .ok (.invokestatic 71, 3) := by decide +kernel
theorem dX8_evenings_7 : decode cX8_evenings 7 = .ok (.ifCond .ne 9, 3) := by decide +kernel
theorem dX8_evenings_10 : decode cX8_evenings 10 = .ok (.aload_n 0, 1) := by decide +kernel
theorem dX8_evenings_11 : decode cX8_evenings 11 = .ok (.iconst 1, 1) := by decide +kernel
theorem dX8_evenings_12 : decode cX8_evenings 12 = .ok (.invokevirtual 63, 3) := by decide +kernel
theorem dX8_evenings_15 : decode cX8_evenings 15 = .ok (.ireturn, 1) := by decide +kernel
theorem dX8_evenings_16 : decode cX8_evenings 16 = .ok (.aload_n 0, 1) := by decide +kernel
theorem dX8_evenings_17 : decode cX8_evenings 17 = .ok (.getfield 10, 3) := by decide +kernel
theorem dX8_evenings_20 : decode cX8_evenings 20 = .ok (.getfield 161, 3) := by decide +kernel
theorem dX8_evenings_23 : decode cX8_evenings 23 = .ok (.iload_n 1, 1) := by decide +kernel
theorem dX8_evenings_24 : decode cX8_evenings 24 = .ok (.bipush 12, 2) := by decide +kernel
theorem dX8_evenings_26 : decode cX8_evenings 26 = .ok (.imul, 1) := by decide +kernel
theorem dX8_evenings_27 : decode cX8_evenings 27 = .ok (.iadd, 1) := by decide +kernel
theorem dX8_evenings_28 : decode cX8_evenings 28 = .ok (.sipush 9999, 3) := by decide +kernel
theorem dX8_evenings_31 : decode cX8_evenings 31 = .ok (.if_icmp .le 9, 3) := by decide +kernel
theorem dX8_evenings_34 : decode cX8_evenings 34 = .ok (.aload_n 0, 1) := by decide +kernel
theorem dX8_evenings_35 : decode cX8_evenings 35 = .ok (.iconst 3, 1) := by decide +kernel
theorem dX8_evenings_36 : decode cX8_evenings 36 = .ok (.invokevirtual 63, 3) := by decide +kernel
theorem dX8_evenings_39 : decode cX8_evenings 39 = .ok (.ireturn, 1) := by decide +kernel
theorem dX8_evenings_40 : decode cX8_evenings 40 = .ok (.iconst 0, 1) := by decide +kernel
theorem dX8_evenings_41 : decode cX8_evenings 41 = .ok (.istore_n 2, 1) := by decide +kernel
theorem dX8_evenings_42 : decode cX8_evenings 42 = .ok (.iload_n 2, 1) := by decide +kernel
theorem dX8_evenings_43 : decode cX8_evenings 43 = .ok (.iload_n 1, 1) := by decide +kernel
theorem dX8_evenings_44 : decode cX8_evenings 44 = .ok (.if_icmp .ge 13, 3) := by decide +kernel
theorem dX8_evenings_47 : decode cX8_evenings 47 = .ok (.aload_n 0, 1) := by decide +kernel
theorem dX8_evenings_48 : decode cX8_evenings 48 = .ok (.invokevirtual 168, 3) := by decide +kernel
theorem dX8_evenings_51 : decode cX8_evenings 51 = .ok (.iinc 2 1, 3) := by decide +kernel
theorem dX8_evenings_54 : decode cX8_evenings 54 = .ok (.goto (-12), 3) := by decide +kernel
theorem dX8_evenings_57 : decode cX8_evenings 57 = .ok (.aload_n 0, 1) := by decide +kernel
theorem dX8_evenings_58 : decode cX8_evenings 58 = .ok (.getfield 10, 3) := by decide +kernel
theorem dX8_evenings_61 : decode cX8_evenings 61 = .ok (.getfield 171, 3) := by decide +kernel
theorem dX8_evenings_64 : decode cX8_evenings 64 = .ok (.ireturn, 1) := by decide +kernel
theorem dX8_rest_0 : decode cX8_rest 0 = .ok (.iconst 0, 1) := by decide +kernel
theorem dX8_rest_1 : decode cX8_rest 1 = .ok (.istore_n 1, 1) := by decide +kernel
theorem dX8_rest_2 : decode cX8_rest 2 = .ok (.iconst 0, 1) := by decide +kernel
theorem dX8_rest_3 : decode cX8_rest 3 = .ok (.istore_n 2, 1) := by decide +kernel
theorem dX8_rest_4 : decode cX8_rest 4 = .ok (.iload_n 2, 1) := by decide +kernel
theorem dX8_rest_5 : decode cX8_rest 5 = .ok (.aload_n 0, 1) := by decide +kernel
theorem dX8_rest_6 : decode cX8_rest 6 = .ok (.getfield 10, 3) := by decide +kernel
theorem dX8_rest_9 : decode cX8_rest 9 = .ok (.getfield 92, 3) := by decide +kernel
theorem dX8_rest_12 : decode cX8_rest 12 = .ok (.if_icmp .ge 34, 3) := by decide +kernel
theorem dX8_rest_15 : decode cX8_rest 15 = .ok (.aload_n 0, 1) := by decide +kernel
theorem dX8_rest_16 : decode cX8_rest 16 = .ok (.getfield 10, 3) := by decide +kernel
theorem dX8_rest_19 : decode cX8_rest 19 = .ok (.iload_n 2, 1) := by decide +kernel
theorem dX8_rest_20 : decode cX8_rest 20 = .ok (.invokevirtual 95, 3) := by decide +kernel
theorem dX8_rest_23 : decode cX8_rest 23 = .ok (.astore_n 3, 1) := by decide +kernel
theorem dX8_rest_24 : decode cX8_rest 24 = .ok (.aload_n 3, 1) := by decide +kernel
theorem dX8_rest_25 : decode cX8_rest 25 = .ok (.ifnull 15, 3) := by decide +kernel
theorem dX8_rest_28 : decode cX8_rest 28 = .ok (.iload_n 1, 1) := by decide +kernel
theorem dX8_rest_29 : decode cX8_rest 29 = .ok (.aload_n 3, 1) := by decide +kernel
theorem dX8_rest_30 : decode cX8_rest 30 = .ok (.getfield 114, 3) := by decide +kernel
theorem dX8_rest_33 : decode cX8_rest 33 = .ok (.iadd, 1) := by decide +kernel
theorem dX8_rest_34 : decode cX8_rest 34 = .ok (.istore_n 1, 1) := by decide +kernel
theorem dX8_rest_35 : decode cX8_rest 35 = .ok (.aload_n 3, 1) := by decide +kernel
theorem dX8_rest_36 : decode cX8_rest 36 = .ok (.iconst 0, 1) := by decide +kernel
theorem dX8_rest_37 : decode cX8_rest 37 = .ok (.putfield 114, 3) := by decide +kernel
theorem dX8_rest_40 : decode cX8_rest 40 = .ok (.iinc 2 1, 3) := by decide +kernel
theorem dX8_rest_43 : decode cX8_rest 43 = .ok (.goto (-39), 3) := by decide +kernel
theorem dX8_rest_46 : decode cX8_rest 46 = .ok (.iload_n 1, 1) := by decide +kernel
theorem dX8_rest_47 : decode cX8_rest 47 = .ok (.ireturn, 1) := by decide +kernel
theorem dX8_then_0 : decode cX8_then 0 = .ok (.aload_n 0, 1) := by decide +kernel
theorem dX8_then_1 : decode cX8_then 1 = .ok (.getfield 10, 3) := by decide +kernel
theorem dX8_then_4 : decode cX8_then 4 = .ok (.iload_n 1, 1) := by decide +kernel
theorem dX8_then_5 : decode cX8_then 5 = .ok (.invokevirtual 95, 3) := by decide +kernel
theorem dX8_then_8 : decode cX8_then 8 = .ok (.astore 4, 2) := by decide +kernel
theorem dX8_then_10 : decode cX8_then 10 = .ok (.aload 4, 2) := by decide +kernel
theorem dX8_then_12 : decode cX8_then 12 = .ok (.ifnull 22, 3) := by decide +kernel
theorem dX8_then_15 : decode cX8_then 15 = .ok (.iload_n 2, 1) := by decide +kernel
theorem dX8_then_16 : decode cX8_then 16 = .ok (.iconst 0, 1) := by decide +kernel
theorem dX8_then_17 : decode cX8_then 17 = .ok (.bipush 60, 2) := by decide +kernel
theorem dX8_then_19 : decode cX8_then 19 = .ok (.invokestatic 71, 3) := by decide +kernel
theorem dX8_then_22 : decode cX8_then 22 = .ok (.ifCond .eq 12, 3) := by decide +kernel
theorem dX8_then_25 : decode cX8_then 25 = .ok (.iload_n 3, 1) := by decide +kernel
theorem dX8_then_26 : decode cX8_then 26 = .ok (.iconst 0, 1) := by decide +kernel
theorem dX8_then_27 : decode cX8_then 27 = .ok (.iconst 4, 1) := by decide +kernel
theorem dX8_then_28 : decode cX8_then 28 = .ok (.invokestatic 71, 3) := by decide +kernel
theorem dX8_then_31 : decode cX8_then 31 = .ok (.ifCond .ne 9, 3) := by decide +kernel
theorem dX8_then_34 : decode cX8_then 34 = .ok (.aload_n 0, 1) := by decide +kernel
theorem dX8_then_35 : decode cX8_then 35 = .ok (.iconst 1, 1) := by decide +kernel
theorem dX8_then_36 : decode cX8_then 36 = .ok (.invokevirtual 63, 3) := by decide +kernel
theorem dX8_then_39 : decode cX8_then 39 = .ok (.ireturn, 1) := by decide +kernel
theorem dX8_then_40 : decode cX8_then 40 = .ok (.aload_n 0, 1) := by decide +kernel
theorem dX8_then_41 : decode cX8_then 41 = .ok (.getfield 24, 3) := by decide +kernel
theorem dX8_then_44 : decode cX8_then 44 = .ok (.aload 4, 2) := by decide +kernel
theorem dX8_then_46 : decode cX8_then 46 = .ok (.invokevirtual 174, 3) := by decide +kernel
theorem dX8_then_49 : decode cX8_then 49 = .ok (.aload_n 0, 1) := by decide +kernel
theorem dX8_then_50 : decode cX8_then 50 = .ok (.getfield 24, 3) := by decide +kernel
theorem dX8_then_53 : decode cX8_then 53 = .ok (.aload_n 0, 1) := by decide +kernel
theorem dX8_then_54 : decode cX8_then 54 = .ok (.getfield 10, 3) := by decide +kernel
theorem dX8_then_57 : decode cX8_then 57 = .ok (.getfield 161, 3) := by decide +kernel
theorem dX8_then_60 : decode cX8_then 60 = .ok (.iload_n 2, 1) := by decide +kernel
theorem dX8_then_61 : decode cX8_then 61 = .ok (.iadd, 1) := by decide +kernel
theorem dX8_then_62 : decode cX8_then 62 = .ok (.invokevirtual 178, 3) := by decide +kernel
theorem dX8_then_65 : decode cX8_then 65 = .ok (.istore 5, 2) := by decide +kernel
theorem dX8_then_67 : decode cX8_then 67 = .ok (.iload_n 3, 1) := by decide +kernel
theorem dX8_then_68 : decode cX8_then 68 = .ok (.tableswitch 68 0 3 #[32, 41, 52, 60], 32) := by decide +kernel
theorem dX8_then_100 : decode cX8_then 100 = .ok (.aload_n 0, 1) := by decide +kernel
theorem dX8_then_101 : decode cX8_then 101 = .ok (.getfield 24, 3) := by decide +kernel
theorem dX8_then_104 : decode cX8_then 104 = .ok (.iconst 0, 1) := by decide +kernel
theorem dX8_then_105 : decode cX8_then 105 = .ok (.invokevirtual 181, 3) := by decide +kernel
theorem dX8_then_108 : decode cX8_then 108 = .ok (.ireturn, 1) := by decide +kernel
theorem dX8_then_109 : decode cX8_then 109 = .ok (.iload 5, 2) := by decide +kernel
theorem dX8_then_111 : decode cX8_then 111 = .ok (.ifCond .eq 7, 3) := by decide +kernel
theorem dX8_then_114 : decode cX8_then 114 = .ok (.iconst 1, 1) := by decide +kernel
theorem dX8_then_115 : decode cX8_then 115 = .ok (.goto 4, 3) := by decide +kernel
theorem dX8_then_118 : decode cX8_then 118 = .ok (.iconst 0, 1) := by decide +kernel
theorem dX8_then_119 : decode cX8_then 119 = .ok (.ireturn, 1) := by decide +kernel
theorem dX8_then_120 : decode cX8_then 120 = .ok (.aload_n 0, 1) := by decide +kernel
theorem dX8_then_121 : decode cX8_then 121 = .ok (.getfield 24, 3) := by decide +kernel
theorem dX8_then_124 : decode cX8_then 124 = .ok (.getfield 184, 3) := by decide +kernel
theorem dX8_then_127 : decode cX8_then 127 = .ok (.ireturn, 1) := by decide +kernel
theorem dX8_then_128 : decode cX8_then 128 = .ok (.aload_n 0, 1) := by decide +kernel
theorem dX8_then_129 : decode cX8_then 129 = .ok (.getfield 24, 3) := by decide +kernel
theorem dX8_then_132 : decode cX8_then 132 = .ok (.getfield 187, 3) := by decide +kernel
theorem dX8_then_135 : decode cX8_then 135 = .ok (.ireturn, 1) := by decide +kernel
theorem dX8_then_136 : decode cX8_then 136 = .ok (.aload 4, 2) := by decide +kernel
theorem dX8_then_138 : decode cX8_then 138 = .ok (.aload_n 0, 1) := by decide +kernel
theorem dX8_then_139 : decode cX8_then 139 = .ok (.getfield 24, 3) := by decide +kernel
theorem dX8_then_142 : decode cX8_then 142 = .ok (.getfield 187, 3) := by decide +kernel
theorem dX8_then_145 : decode cX8_then 145 = .ok (.aload_n 0, 1) := by decide +kernel
theorem dX8_then_146 : decode cX8_then 146 = .ok (.getfield 10, 3) := by decide +kernel
theorem dX8_then_149 : decode cX8_then 149 = .ok (.getfield 85, 3) := by decide +kernel
theorem dX8_then_152 : decode cX8_then 152 = .ok (.isub, 1) := by decide +kernel
theorem dX8_then_153 : decode cX8_then 153 = .ok (.invokestatic 190, 3) := by decide +kernel
theorem dX8_then_156 : decode cX8_then 156 = .ok (.invokevirtual 124, 3) := by decide +kernel
theorem dX8_then_159 : decode cX8_then 159 = .ok (.ireturn, 1) := by decide +kernel
theorem dX8_can_0 : decode cX8_can 0 = .ok (.aload_n 0, 1) := by decide +kernel
theorem dX8_can_1 : decode cX8_can 1 = .ok (.getfield 10, 3) := by decide +kernel
theorem dX8_can_4 : decode cX8_can 4 = .ok (.iload_n 1, 1) := by decide +kernel
theorem dX8_can_5 : decode cX8_can 5 = .ok (.invokevirtual 95, 3) := by decide +kernel
theorem dX8_can_8 : decode cX8_can 8 = .ok (.astore 4, 2) := by decide +kernel
theorem dX8_can_10 : decode cX8_can 10 = .ok (.aload 4, 2) := by decide +kernel
theorem dX8_can_12 : decode cX8_can 12 = .ok (.ifnull 19, 3) := by decide +kernel
theorem dX8_can_15 : decode cX8_can 15 = .ok (.iload_n 2, 1) := by decide +kernel
theorem dX8_can_16 : decode cX8_can 16 = .ok (.invokestatic 195, 3) := by decide +kernel
theorem dX8_can_19 : decode cX8_can 19 = .ok (.ifCond .eq 12, 3) := by decide +kernel
theorem dX8_can_22 : decode cX8_can 22 = .ok (.iload_n 3, 1) := by decide +kernel
theorem dX8_can_23 : decode cX8_can 23 = .ok (.iconst 0, 1) := by decide +kernel
theorem dX8_can_24 : decode cX8_can 24 = .ok (.iconst 1, 1) := by decide +kernel
theorem dX8_can_25 : decode cX8_can 25 = .ok (.invokestatic 71, 3) := by decide +kernel
theorem dX8_can_28 : decode cX8_can 28 = .ok (.ifCond .ne 9, 3) := by decide +kernel
theorem dX8_can_31 : decode cX8_can 31 = .ok (.aload_n 0, 1) := by decide +kernel
theorem dX8_can_32 : decode cX8_can 32 = .ok (.iconst 1, 1) := by decide +kernel
theorem dX8_can_33 : decode cX8_can 33 = .ok (.invokevirtual 63, 3) := by decide +kernel
theorem dX8_can_36 : decode cX8_can 36 = .ok (.ireturn, 1) := by decide +kernel
theorem dX8_can_37 : decode cX8_can 37 = .ok (.aload_n 0, 1) := by decide +kernel
theorem dX8_can_38 : decode cX8_can 38 = .ok (.getfield 24, 3) := by decide +kernel
theorem dX8_can_41 : decode cX8_can 41 = .ok (.aload 4, 2) := by decide +kernel
theorem dX8_can_43 : decode cX8_can 43 = .ok (.invokevirtual 174, 3) := by decide +kernel
theorem dX8_can_46 : decode cX8_can 46 = .ok (.iload_n 3, 1) := by decide +kernel
theorem dX8_can_47 : decode cX8_can 47 = .ok (.ifCond .ne 12, 3) := by decide +kernel
theorem dX8_can_50 : decode cX8_can 50 = .ok (.aload_n 0, 1) := by decide +kernel
theorem dX8_can_51 : decode cX8_can 51 = .ok (.getfield 24, 3) := by decide +kernel
theorem dX8_can_54 : decode cX8_can 54 = .ok (.iload_n 2, 1) := by decide +kernel
theorem dX8_can_55 : decode cX8_can 55 = .ok (.invokevirtual 198, 3) := by decide +kernel
theorem dX8_can_58 : decode cX8_can 58 = .ok (.ireturn, 1) := by decide +kernel
theorem dX8_can_59 : decode cX8_can 59 = .ok (.aload_n 0, 1) := by decide +kernel
theorem dX8_can_60 : decode cX8_can 60 = .ok (.aload_n 0, 1) := by decide +kernel
theorem dX8_can_61 : decode cX8_can 61 = .ok (.getfield 24, 3) := by decide +kernel
theorem dX8_can_64 : decode cX8_can 64 = .ok (.iload_n 2, 1) := by decide +kernel
theorem dX8_can_65 : decode cX8_can 65 = .ok (.invokevirtual 201, 3) := by decide +kernel
theorem dX8_can_68 : decode cX8_can 68 = .ok (.invokevirtual 204, 3) := by decide +kernel
theorem dX8_can_71 : decode cX8_can 71 = .ok (.ireturn, 1) := by decide +kernel
theorem dX8_surest_0 : decode cX8_surest 0 = .ok (.aload_n 0, 1) := by decide +kernel
theorem dX8_surest_1 : decode cX8_surest 1 = .ok (.getfield 10, 3) := by decide +kernel
theorem dX8_surest_4 : decode cX8_surest 4 = .ok (.iload_n 1, 1) := by decide +kernel
theorem dX8_surest_5 : decode cX8_surest 5 = .ok (.invokevirtual 95, 3) := by decide +kernel
theorem dX8_surest_8 : decode cX8_surest 8 = .ok (.astore_n 3, 1) := by decide +kernel
theorem dX8_surest_9 : decode cX8_surest 9 = .ok (.aload_n 3, 1) := by decide +kernel
theorem dX8_surest_10 : decode cX8_surest 10 = .ok (.ifnull 10, 3) := by decide +kernel
theorem dX8_surest_13 : decode cX8_surest 13 = .ok (.iload_n 2, 1) := by decide +kernel
theorem dX8_surest_14 : decode cX8_surest 14 = .ok (.invokestatic 195, 3) := by decide +kernel
theorem dX8_surest_17 : decode cX8_surest 17 = .ok (.ifCond .ne 9, 3) := by decide +kernel
theorem dX8_surest_20 : decode cX8_surest 20 = .ok (.aload_n 0, 1) := by decide +kernel
theorem dX8_surest_21 : decode cX8_surest 21 = .ok (.iconst 1, 1) := by decide +kernel
theorem dX8_surest_22 : decode cX8_surest 22 = .ok (.invokevirtual 63, 3) := by decide +kernel
theorem dX8_surest_25 : decode cX8_surest 25 = .ok (.ireturn, 1) := by decide +kernel
theorem dX8_surest_26 : decode cX8_surest 26 = .ok (.aload_n 0, 1) := by decide +kernel
theorem dX8_surest_27 : decode cX8_surest 27 = .ok (.getfield 24, 3) := by decide +kernel
theorem dX8_surest_30 : decode cX8_surest 30 = .ok (.aload_n 3, 1) := by decide +kernel
theorem dX8_surest_31 : decode cX8_surest 31 = .ok (.invokevirtual 174, 3) := by decide +kernel
theorem dX8_surest_34 : decode cX8_surest 34 = .ok (.aload_n 0, 1) := by decide +kernel
theorem dX8_surest_35 : decode cX8_surest 35 = .ok (.getfield 24, 3) := by decide +kernel
theorem dX8_surest_38 : decode cX8_surest 38 = .ok (.iload_n 2, 1) := by decide +kernel
theorem dX8_surest_39 : decode cX8_surest 39 = .ok (.invokevirtual 207, 3) := by decide +kernel
theorem dX8_surest_42 : decode cX8_surest 42 = .ok (.ireturn, 1) := by decide +kernel
theorem dX8_odds_0 : decode cX8_odds 0 = .ok (.aload_n 0, 1) := by decide +kernel
theorem dX8_odds_1 : decode cX8_odds 1 = .ok (.getfield 10, 3) := by decide +kernel
theorem dX8_odds_4 : decode cX8_odds 4 = .ok (.iload_n 1, 1) := by decide +kernel
theorem dX8_odds_5 : decode cX8_odds 5 = .ok (.invokevirtual 95, 3) := by decide +kernel
theorem dX8_odds_8 : decode cX8_odds 8 = .ok (.astore 4, 2) := by decide +kernel
theorem dX8_odds_10 : decode cX8_odds 10 = .ok (.aload 4, 2) := by decide +kernel
theorem dX8_odds_12 : decode cX8_odds 12 = .ok (.ifnull 22, 3) := by decide +kernel
theorem dX8_odds_15 : decode cX8_odds 15 = .ok (.iload_n 2, 1) := by decide +kernel
theorem dX8_odds_16 : decode cX8_odds 16 = .ok (.iconst 0, 1) := by decide +kernel
theorem dX8_odds_17 : decode cX8_odds 17 = .ok (.bipush 60, 2) := by decide +kernel
theorem dX8_odds_19 : decode cX8_odds 19 = .ok (.invokestatic 71, 3) := by decide +kernel
theorem dX8_odds_22 : decode cX8_odds 22 = .ok (.ifCond .eq 12, 3) := by decide +kernel
theorem dX8_odds_25 : decode cX8_odds 25 = .ok (.iload_n 3, 1) := by decide +kernel
theorem dX8_odds_26 : decode cX8_odds 26 = .ok (.iconst 0, 1) := by decide +kernel
theorem dX8_odds_27 : decode cX8_odds 27 = .ok (.iconst 1, 1) := by decide +kernel
theorem dX8_odds_28 : decode cX8_odds 28 = .ok (.invokestatic 71, 3) := by decide +kernel
theorem dX8_odds_31 : decode cX8_odds 31 = .ok (.ifCond .ne 9, 3) := by decide +kernel
theorem dX8_odds_34 : decode cX8_odds 34 = .ok (.aload_n 0, 1) := by decide +kernel
theorem dX8_odds_35 : decode cX8_odds 35 = .ok (.iconst 1, 1) := by decide +kernel
theorem dX8_odds_36 : decode cX8_odds 36 = .ok (.invokevirtual 63, 3) := by decide +kernel
theorem dX8_odds_39 : decode cX8_odds 39 = .ok (.ireturn, 1) := by decide +kernel
theorem dX8_odds_40 : decode cX8_odds 40 = .ok (.aload_n 0, 1) := by decide +kernel
theorem dX8_odds_41 : decode cX8_odds 41 = .ok (.getfield 24, 3) := by decide +kernel
theorem dX8_odds_44 : decode cX8_odds 44 = .ok (.aload 4, 2) := by decide +kernel
theorem dX8_odds_46 : decode cX8_odds 46 = .ok (.invokevirtual 174, 3) := by decide +kernel
theorem dX8_odds_49 : decode cX8_odds 49 = .ok (.aload_n 0, 1) := by decide +kernel
theorem dX8_odds_50 : decode cX8_odds 50 = .ok (.getfield 24, 3) := by decide +kernel
theorem dX8_odds_53 : decode cX8_odds 53 = .ok (.aload_n 0, 1) := by decide +kernel
theorem dX8_odds_54 : decode cX8_odds 54 = .ok (.getfield 10, 3) := by decide +kernel
theorem dX8_odds_57 : decode cX8_odds 57 = .ok (.getfield 161, 3) := by decide +kernel
theorem dX8_odds_60 : decode cX8_odds 60 = .ok (.iload_n 2, 1) := by decide +kernel
theorem dX8_odds_61 : decode cX8_odds 61 = .ok (.iadd, 1) := by decide +kernel
theorem dX8_odds_62 : decode cX8_odds 62 = .ok (.invokevirtual 210, 3) := by decide +kernel
theorem dX8_odds_65 : decode cX8_odds 65 = .ok (.bipush 9, 2) := by decide +kernel
theorem dX8_odds_67 : decode cX8_odds 67 = .ok (.iload_n 3, 1) := by decide +kernel
theorem dX8_odds_68 : decode cX8_odds 68 = .ok (.invokestatic 213, 3) := by decide +kernel
theorem dX8_odds_71 : decode cX8_odds 71 = .ok (.ireturn, 1) := by decide +kernel
theorem dX8_pumped_0 : decode cX8_pumped 0 = .ok (.aload_n 0, 1) := by decide +kernel
theorem dX8_pumped_1 : decode cX8_pumped 1 = .ok (.getfield 10, 3) := by decide +kernel
theorem dX8_pumped_4 : decode cX8_pumped 4 = .ok (.iload_n 1, 1) := by decide +kernel
theorem dX8_pumped_5 : decode cX8_pumped 5 = .ok (.invokevirtual 95, 3) := by decide +kernel
theorem dX8_pumped_8 : decode cX8_pumped 8 = .ok (.astore_n 3, 1) := by decide +kernel
theorem dX8_pumped_9 : decode cX8_pumped 9 = .ok (.aload_n 3, 1) := by decide +kernel
theorem dX8_pumped_10 : decode cX8_pumped 10 = .ok (.ifnull 10, 3) := by decide +kernel
theorem dX8_pumped_13 : decode cX8_pumped 13 = .ok (.iload_n 2, 1) := by decide +kernel
theorem dX8_pumped_14 : decode cX8_pumped 14 = .ok (.invokestatic 195, 3) := by decide +kernel
theorem dX8_pumped_17 : decode cX8_pumped 17 = .ok (.ifCond .ne 9, 3) := by decide +kernel
theorem dX8_pumped_20 : decode cX8_pumped 20 = .ok (.aload_n 0, 1) := by decide +kernel
theorem dX8_pumped_21 : decode cX8_pumped 21 = .ok (.iconst 1, 1) := by decide +kernel
theorem dX8_pumped_22 : decode cX8_pumped 22 = .ok (.invokevirtual 63, 3) := by decide +kernel
theorem dX8_pumped_25 : decode cX8_pumped 25 = .ok (.ireturn, 1) := by decide +kernel
theorem dX8_pumped_26 : decode cX8_pumped 26 = .ok (.aload_n 0, 1) := by decide +kernel
theorem dX8_pumped_27 : decode cX8_pumped 27 = .ok (.getfield 24, 3) := by decide +kernel
theorem dX8_pumped_30 : decode cX8_pumped 30 = .ok (.aload_n 3, 1) := by decide +kernel
theorem dX8_pumped_31 : decode cX8_pumped 31 = .ok (.invokevirtual 174, 3) := by decide +kernel
theorem dX8_pumped_34 : decode cX8_pumped 34 = .ok (.aload_n 0, 1) := by decide +kernel
theorem dX8_pumped_35 : decode cX8_pumped 35 = .ok (.aload_n 0, 1) := by decide +kernel
theorem dX8_pumped_36 : decode cX8_pumped 36 = .ok (.getfield 24, 3) := by decide +kernel
theorem dX8_pumped_39 : decode cX8_pumped 39 = .ok (.iload_n 2, 1) := by decide +kernel
theorem dX8_pumped_40 : decode cX8_pumped 40 = .ok (.invokevirtual 216, 3) := by decide +kernel
theorem dX8_pumped_43 : decode cX8_pumped 43 = .ok (.invokevirtual 204, 3) := by decide +kernel
theorem dX8_pumped_46 : decode cX8_pumped 46 = .ok (.ireturn, 1) := by decide +kernel
theorem dX8_inStep_0 : decode cX8_inStep 0 = .ok (.aload_n 0, 1) := by decide +kernel
theorem dX8_inStep_1 : decode cX8_inStep 1 = .ok (.getfield 10, 3) := by decide +kernel
theorem dX8_inStep_4 : decode cX8_inStep 4 = .ok (.iload_n 1, 1) := by decide +kernel
theorem dX8_inStep_5 : decode cX8_inStep 5 = .ok (.invokevirtual 95, 3) := by decide +kernel
theorem dX8_inStep_8 : decode cX8_inStep 8 = .ok (.astore_n 3, 1) := by decide +kernel
theorem dX8_inStep_9 : decode cX8_inStep 9 = .ok (.aload_n 3, 1) := by decide +kernel
theorem dX8_inStep_10 : decode cX8_inStep 10 = .ok (.ifnull 10, 3) := by decide +kernel
theorem dX8_inStep_13 : decode cX8_inStep 13 = .ok (.iload_n 2, 1) := by decide +kernel
theorem dX8_inStep_14 : decode cX8_inStep 14 = .ok (.invokestatic 195, 3) := by decide +kernel
theorem dX8_inStep_17 : decode cX8_inStep 17 = .ok (.ifCond .ne 9, 3) := by decide +kernel
theorem dX8_inStep_20 : decode cX8_inStep 20 = .ok (.aload_n 0, 1) := by decide +kernel
theorem dX8_inStep_21 : decode cX8_inStep 21 = .ok (.iconst 1, 1) := by decide +kernel
theorem dX8_inStep_22 : decode cX8_inStep 22 = .ok (.invokevirtual 63, 3) := by decide +kernel
theorem dX8_inStep_25 : decode cX8_inStep 25 = .ok (.ireturn, 1) := by decide +kernel
theorem dX8_inStep_26 : decode cX8_inStep 26 = .ok (.aload_n 0, 1) := by decide +kernel
theorem dX8_inStep_27 : decode cX8_inStep 27 = .ok (.getfield 24, 3) := by decide +kernel
theorem dX8_inStep_30 : decode cX8_inStep 30 = .ok (.aload_n 3, 1) := by decide +kernel
theorem dX8_inStep_31 : decode cX8_inStep 31 = .ok (.invokevirtual 174, 3) := by decide +kernel
theorem dX8_inStep_34 : decode cX8_inStep 34 = .ok (.aload_n 0, 1) := by decide +kernel
theorem dX8_inStep_35 : decode cX8_inStep 35 = .ok (.aload_n 0, 1) := by decide +kernel
theorem dX8_inStep_36 : decode cX8_inStep 36 = .ok (.getfield 24, 3) := by decide +kernel
theorem dX8_inStep_39 : decode cX8_inStep 39 = .ok (.iload_n 2, 1) := by decide +kernel
theorem dX8_inStep_40 : decode cX8_inStep 40 = .ok (.invokevirtual 219, 3) := by decide +kernel
theorem dX8_inStep_43 : decode cX8_inStep 43 = .ok (.invokevirtual 204, 3) := by decide +kernel
theorem dX8_inStep_46 : decode cX8_inStep 46 = .ok (.ireturn, 1) := by decide +kernel
theorem dX8_mend_0 : decode cX8_mend 0 = .ok (.aload_n 0, 1) := by decide +kernel
theorem dX8_mend_1 : decode cX8_mend 1 = .ok (.getfield 10, 3) := by decide +kernel
theorem dX8_mend_4 : decode cX8_mend 4 = .ok (.iload_n 1, 1) := by decide +kernel
theorem dX8_mend_5 : decode cX8_mend 5 = .ok (.invokevirtual 95, 3) := by decide +kernel
theorem dX8_mend_8 : decode cX8_mend 8 = .ok (.astore 5, 2) := by decide +kernel
theorem dX8_mend_10 : decode cX8_mend 10 = .ok (.aload 5, 2) := by decide +kernel
theorem dX8_mend_12 : decode cX8_mend 12 = .ok (.ifnull 34, 3) := by decide +kernel
theorem dX8_mend_15 : decode cX8_mend 15 = .ok (.iload_n 2, 1) := by decide +kernel
theorem dX8_mend_16 : decode cX8_mend 16 = .ok (.iconst 0, 1) := by decide +kernel
theorem dX8_mend_17 : decode cX8_mend 17 = .ok (.bipush 60, 2) := by decide +kernel
theorem dX8_mend_19 : decode cX8_mend 19 = .ok (.invokestatic 71, 3) := by decide +kernel
theorem dX8_mend_22 : decode cX8_mend 22 = .ok (.ifCond .eq 24, 3) := by decide +kernel
theorem dX8_mend_25 : decode cX8_mend 25 = .ok (.iload_n 3, 1) := by decide +kernel
theorem dX8_mend_26 : decode cX8_mend 26 = .ok (.iconst 0, 1) := by decide +kernel
theorem dX8_mend_27 : decode cX8_mend 27 = .ok (.bipush 9, 2) := by decide +kernel
theorem dX8_mend_29 : decode cX8_mend 29 = .ok (.invokestatic 71, 3) := by decide +kernel
theorem dX8_mend_32 : decode cX8_mend 32 = .ok (.ifCond .eq 14, 3) := by decide +kernel
theorem dX8_mend_35 : decode cX8_mend 35 = .ok (.iload 4, 2) := by decide +kernel
theorem dX8_mend_37 : decode cX8_mend 37 = .ok (.iconst 0, 1) := by decide +kernel
theorem dX8_mend_38 : decode cX8_mend 38 = .ok (.bipush 9, 2) := by decide +kernel
theorem dX8_mend_40 : decode cX8_mend 40 = .ok (.invokestatic 71, 3) := by decide +kernel
theorem dX8_mend_43 : decode cX8_mend 43 = .ok (.ifCond .ne 9, 3) := by decide +kernel
theorem dX8_mend_46 : decode cX8_mend 46 = .ok (.aload_n 0, 1) := by decide +kernel
theorem dX8_mend_47 : decode cX8_mend 47 = .ok (.iconst 1, 1) := by decide +kernel
theorem dX8_mend_48 : decode cX8_mend 48 = .ok (.invokevirtual 63, 3) := by decide +kernel
theorem dX8_mend_51 : decode cX8_mend 51 = .ok (.ireturn, 1) := by decide +kernel
theorem dX8_mend_52 : decode cX8_mend 52 = .ok (.aload_n 0, 1) := by decide +kernel
theorem dX8_mend_53 : decode cX8_mend 53 = .ok (.getfield 24, 3) := by decide +kernel
theorem dX8_mend_56 : decode cX8_mend 56 = .ok (.aload 5, 2) := by decide +kernel
theorem dX8_mend_58 : decode cX8_mend 58 = .ok (.invokevirtual 174, 3) := by decide +kernel
theorem dX8_mend_61 : decode cX8_mend 61 = .ok (.aload_n 0, 1) := by decide +kernel
theorem dX8_mend_62 : decode cX8_mend 62 = .ok (.getfield 24, 3) := by decide +kernel
theorem dX8_mend_65 : decode cX8_mend 65 = .ok (.aload_n 0, 1) := by decide +kernel
theorem dX8_mend_66 : decode cX8_mend 66 = .ok (.getfield 10, 3) := by decide +kernel
theorem dX8_mend_69 : decode cX8_mend 69 = .ok (.getfield 161, 3) := by decide +kernel
theorem dX8_mend_72 : decode cX8_mend 72 = .ok (.iload_n 2, 1) := by decide +kernel
theorem dX8_mend_73 : decode cX8_mend 73 = .ok (.iadd, 1) := by decide +kernel
theorem dX8_mend_74 : decode cX8_mend 74 = .ok (.iconst 0, 1) := by decide +kernel
theorem dX8_mend_75 : decode cX8_mend 75 = .ok (.invokevirtual 222, 3) := by decide +kernel
theorem dX8_mend_78 : decode cX8_mend 78 = .ok (.aload_n 0, 1) := by decide +kernel
theorem dX8_mend_79 : decode cX8_mend 79 = .ok (.getfield 24, 3) := by decide +kernel
theorem dX8_mend_82 : decode cX8_mend 82 = .ok (.iconst 0, 1) := by decide +kernel
theorem dX8_mend_83 : decode cX8_mend 83 = .ok (.invokevirtual 181, 3) := by decide +kernel
theorem dX8_mend_86 : decode cX8_mend 86 = .ok (.istore 6, 2) := by decide +kernel
theorem dX8_mend_88 : decode cX8_mend 88 = .ok (.iload 6, 2) := by decide +kernel
theorem dX8_mend_90 : decode cX8_mend 90 = .ok (.iload 6, 2) := by decide +kernel
theorem dX8_mend_92 : decode cX8_mend 92 = .ok (.iload_n 3, 1) := by decide +kernel
theorem dX8_mend_93 : decode cX8_mend 93 = .ok (.imul, 1) := by decide +kernel
theorem dX8_mend_94 : decode cX8_mend 94 = .ok (.bipush 10, 2) := by decide +kernel
theorem dX8_mend_96 : decode cX8_mend 96 = .ok (.idiv, 1) := by decide +kernel
theorem dX8_mend_97 : decode cX8_mend 97 = .ok (.isub, 1) := by decide +kernel
theorem dX8_mend_98 : decode cX8_mend 98 = .ok (.iload 6, 2) := by decide +kernel
theorem dX8_mend_100 : decode cX8_mend 100 = .ok (.iload 4, 2) := by decide +kernel
theorem dX8_mend_102 : decode cX8_mend 102 = .ok (.imul, 1) := by decide +kernel
theorem dX8_mend_103 : decode cX8_mend 103 = .ok (.bipush 10, 2) := by decide +kernel
theorem dX8_mend_105 : decode cX8_mend 105 = .ok (.idiv, 1) := by decide +kernel
theorem dX8_mend_106 : decode cX8_mend 106 = .ok (.isub, 1) := by decide +kernel
theorem dX8_mend_107 : decode cX8_mend 107 = .ok (.ireturn, 1) := by decide +kernel
theorem dX8_again_0 : decode cX8_again 0 = .ok (.aload_n 0, 1) := by decide +kernel
theorem dX8_again_1 : decode cX8_again 1 = .ok (.getfield 10, 3) := by decide +kernel
theorem dX8_again_4 : decode cX8_again 4 = .ok (.iload_n 1, 1) := by decide +kernel
theorem dX8_again_5 : decode cX8_again 5 = .ok (.invokevirtual 95, 3) := by decide +kernel
theorem dX8_again_8 : decode cX8_again 8 = .ok (.astore 6, 2) := by decide +kernel
theorem dX8_again_10 : decode cX8_again 10 = .ok (.iload_n 2, 1) := by decide +kernel
theorem dX8_again_11 : decode cX8_again 11 = .ok (.invokestatic 195, 3) := by decide +kernel
theorem dX8_again_14 : decode cX8_again 14 = .ok (.ifCond .eq 38, 3) := by decide +kernel
theorem dX8_again_17 : decode cX8_again 17 = .ok (.iload_n 3, 1) := by decide +kernel
theorem dX8_again_18 : decode cX8_again 18 = .ok (.iconst 0, 1) := by decide +kernel
theorem dX8_again_19 : decode cX8_again 19 = .ok (.bipush 99, 2) := by decide +kernel
theorem dX8_again_21 : decode cX8_again 21 = .ok (.invokestatic 71, 3) := by decide +kernel
theorem dX8_again_24 : decode cX8_again 24 = .ok (.ifCond .eq 28, 3) := by decide +kernel
theorem dX8_again_27 : decode cX8_again 27 = .ok (.iload 4, 2) := by decide +kernel
theorem dX8_again_29 : decode cX8_again 29 = .ok (.iconst 0, 1) := by decide +kernel
theorem dX8_again_30 : decode cX8_again 30 = .ok (.bipush 99, 2) := by decide +kernel
theorem dX8_again_32 : decode cX8_again 32 = .ok (.invokestatic 71, 3) := by decide +kernel
theorem dX8_again_35 : decode cX8_again 35 = .ok (.ifCond .eq 17, 3) := by decide +kernel
theorem dX8_again_38 : decode cX8_again 38 = .ok (.iload 5, 2) := by decide +kernel
theorem dX8_again_40 : decode cX8_again 40 = .ok (.iconst 0, 1) := by decide +kernel
theorem dX8_again_41 : decode cX8_again 41 = .ok (.iconst 1, 1) := by decide +kernel
theorem dX8_again_42 : decode cX8_again 42 = .ok (.invokestatic 71, 3) := by decide +kernel
theorem dX8_again_45 : decode cX8_again 45 = .ok (.ifCond .eq 7, 3) := by decide +kernel
theorem dX8_again_48 : decode cX8_again 48 = .ok (.iconst 1, 1) := by decide +kernel
theorem dX8_again_49 : decode cX8_again 49 = .ok (.goto 4, 3) := by decide +kernel
theorem dX8_again_52 : decode cX8_again 52 = .ok (.iconst 0, 1) := by decide +kernel
theorem dX8_again_53 : decode cX8_again 53 = .ok (.istore 7, 2) := by decide +kernel
theorem dX8_again_55 : decode cX8_again 55 = .ok (.aload 6, 2) := by decide +kernel
theorem dX8_again_57 : decode cX8_again 57 = .ok (.ifnull 8, 3) := by decide +kernel
theorem dX8_again_60 : decode cX8_again 60 = .ok (.iload 7, 2) := by decide +kernel
theorem dX8_again_62 : decode cX8_again 62 = .ok (.ifCond .ne 10, 3) := by decide +kernel
theorem dX8_again_65 : decode cX8_again 65 = .ok (.aload_n 0, 1) := by decide +kernel
theorem dX8_again_66 : decode cX8_again 66 = .ok (.iconst 1, 1) := by decide +kernel
theorem dX8_again_67 : decode cX8_again 67 = .ok (.invokevirtual 63, 3) := by decide +kernel
theorem dX8_again_70 : decode cX8_again 70 = .ok (.i2l, 1) := by decide +kernel
theorem dX8_again_71 : decode cX8_again 71 = .ok (.lreturn, 1) := by decide +kernel
theorem dX8_again_72 : decode cX8_again 72 = .ok (.aload_n 0, 1) := by decide +kernel
theorem dX8_again_73 : decode cX8_again 73 = .ok (.getfield 24, 3) := by decide +kernel
theorem dX8_again_76 : decode cX8_again 76 = .ok (.aload 6, 2) := by decide +kernel
theorem dX8_again_78 : decode cX8_again 78 = .ok (.invokevirtual 174, 3) := by decide +kernel
theorem dX8_again_81 : decode cX8_again 81 = .ok (.aload_n 0, 1) := by decide +kernel
theorem dX8_again_82 : decode cX8_again 82 = .ok (.getfield 24, 3) := by decide +kernel
theorem dX8_again_85 : decode cX8_again 85 = .ok (.aload_n 0, 1) := by decide +kernel
theorem dX8_again_86 : decode cX8_again 86 = .ok (.getfield 10, 3) := by decide +kernel
theorem dX8_again_89 : decode cX8_again 89 = .ok (.getfield 161, 3) := by decide +kernel
theorem dX8_again_92 : decode cX8_again 92 = .ok (.aload_n 0, 1) := by decide +kernel
theorem dX8_again_93 : decode cX8_again 93 = .ok (.getfield 24, 3) := by decide +kernel
theorem dX8_again_96 : decode cX8_again 96 = .ok (.iload_n 2, 1) := by decide +kernel
theorem dX8_again_97 : decode cX8_again 97 = .ok (.invokevirtual 207, 3) := by decide +kernel
theorem dX8_again_100 : decode cX8_again 100 = .ok (.iadd, 1) := by decide +kernel
theorem dX8_again_101 : decode cX8_again 101 = .ok (.invokevirtual 210, 3) := by decide +kernel
theorem dX8_again_104 : decode cX8_again 104 = .ok (.istore 8, 2) := by decide +kernel
theorem dX8_again_106 : decode cX8_again 106 = .ok (.bipush 9, 2) := by decide +kernel
theorem dX8_again_108 : decode cX8_again 108 = .ok (.iload 8, 2) := by decide +kernel
theorem dX8_again_110 : decode cX8_again 110 = .ok (.isub, 1) := by decide +kernel
theorem dX8_again_111 : decode cX8_again 111 = .ok (.istore 9, 2) := by decide +kernel
theorem dX8_again_113 : decode cX8_again 113 = .ok (.iload 8, 2) := by decide +kernel
theorem dX8_again_115 : decode cX8_again 115 = .ok (.iload_n 3, 1) := by decide +kernel
theorem dX8_again_116 : decode cX8_again 116 = .ok (.imul, 1) := by decide +kernel
theorem dX8_again_117 : decode cX8_again 117 = .ok (.iload 9, 2) := by decide +kernel
theorem dX8_again_119 : decode cX8_again 119 = .ok (.iload 4, 2) := by decide +kernel
theorem dX8_again_121 : decode cX8_again 121 = .ok (.imul, 1) := by decide +kernel
theorem dX8_again_122 : decode cX8_again 122 = .ok (.isub, 1) := by decide +kernel
theorem dX8_again_123 : decode cX8_again 123 = .ok (.istore 10, 2) := by decide +kernel
theorem dX8_again_125 : decode cX8_again 125 = .ok (.bipush 9, 2) := by decide +kernel
theorem dX8_again_127 : decode cX8_again 127 = .ok (.iload 8, 2) := by decide +kernel
theorem dX8_again_129 : decode cX8_again 129 = .ok (.imul, 1) := by decide +kernel
theorem dX8_again_130 : decode cX8_again 130 = .ok (.iload_n 3, 1) := by decide +kernel
theorem dX8_again_131 : decode cX8_again 131 = .ok (.imul, 1) := by decide +kernel
theorem dX8_again_132 : decode cX8_again 132 = .ok (.iload 9, 2) := by decide +kernel
theorem dX8_again_134 : decode cX8_again 134 = .ok (.iconst 0, 1) := by decide +kernel
theorem dX8_again_135 : decode cX8_again 135 = .ok (.iload 10, 2) := by decide +kernel
theorem dX8_again_137 : decode cX8_again 137 = .ok (.invokestatic 226, 3) := by decide +kernel
theorem dX8_again_140 : decode cX8_again 140 = .ok (.bipush 9, 2) := by decide +kernel
theorem dX8_again_142 : decode cX8_again 142 = .ok (.iload 4, 2) := by decide +kernel
theorem dX8_again_144 : decode cX8_again 144 = .ok (.imul, 1) := by decide +kernel
theorem dX8_again_145 : decode cX8_again 145 = .ok (.isub, 1) := by decide +kernel
theorem dX8_again_146 : decode cX8_again 146 = .ok (.imul, 1) := by decide +kernel
theorem dX8_again_147 : decode cX8_again 147 = .ok (.iadd, 1) := by decide +kernel
theorem dX8_again_148 : decode cX8_again 148 = .ok (.istore 11, 2) := by decide +kernel
theorem dX8_again_150 : decode cX8_again 150 = .ok (.iload 11, 2) := by decide +kernel
theorem dX8_again_152 : decode cX8_again 152 = .ok (.bipush 81, 2) := by decide +kernel
theorem dX8_again_154 : decode cX8_again 154 = .ok (.iload 5, 2) := by decide +kernel
theorem dX8_again_156 : decode cX8_again 156 = .ok (.invokestatic 213, 3) := by decide +kernel
theorem dX8_again_159 : decode cX8_again 159 = .ok (.i2l, 1) := by decide +kernel
theorem dX8_again_160 : decode cX8_again 160 = .ok (.lreturn, 1) := by decide +kernel
theorem dX8_net_0 : decode cX8_net 0 = .ok (.aload_n 0, 1) := by decide +kernel
theorem dX8_net_1 : decode cX8_net 1 = .ok (.getfield 10, 3) := by decide +kernel
theorem dX8_net_4 : decode cX8_net 4 = .ok (.iload_n 1, 1) := by decide +kernel
theorem dX8_net_5 : decode cX8_net 5 = .ok (.invokevirtual 95, 3) := by decide +kernel
theorem dX8_net_8 : decode cX8_net 8 = .ok (.astore 4, 2) := by decide +kernel
theorem dX8_net_10 : decode cX8_net 10 = .ok (.aload 4, 2) := by decide +kernel
theorem dX8_net_12 : decode cX8_net 12 = .ok (.ifnull 19, 3) := by decide +kernel
theorem dX8_net_15 : decode cX8_net 15 = .ok (.iload_n 2, 1) := by decide +kernel
theorem dX8_net_16 : decode cX8_net 16 = .ok (.invokestatic 195, 3) := by decide +kernel
theorem dX8_net_19 : decode cX8_net 19 = .ok (.ifCond .eq 12, 3) := by decide +kernel
theorem dX8_net_22 : decode cX8_net 22 = .ok (.iload_n 3, 1) := by decide +kernel
theorem dX8_net_23 : decode cX8_net 23 = .ok (.iconst 0, 1) := by decide +kernel
theorem dX8_net_24 : decode cX8_net 24 = .ok (.iconst 1, 1) := by decide +kernel
theorem dX8_net_25 : decode cX8_net 25 = .ok (.invokestatic 71, 3) := by decide +kernel
theorem dX8_net_28 : decode cX8_net 28 = .ok (.ifCond .ne 9, 3) := by decide +kernel
theorem dX8_net_31 : decode cX8_net 31 = .ok (.aload_n 0, 1) := by decide +kernel
theorem dX8_net_32 : decode cX8_net 32 = .ok (.iconst 1, 1) := by decide +kernel
theorem dX8_net_33 : decode cX8_net 33 = .ok (.invokevirtual 63, 3) := by decide +kernel
theorem dX8_net_36 : decode cX8_net 36 = .ok (.ireturn, 1) := by decide +kernel
theorem dX8_net_37 : decode cX8_net 37 = .ok (.aload_n 0, 1) := by decide +kernel
theorem dX8_net_38 : decode cX8_net 38 = .ok (.getfield 24, 3) := by decide +kernel
theorem dX8_net_41 : decode cX8_net 41 = .ok (.aload 4, 2) := by decide +kernel
theorem dX8_net_43 : decode cX8_net 43 = .ok (.invokevirtual 174, 3) := by decide +kernel
theorem dX8_net_46 : decode cX8_net 46 = .ok (.aload_n 0, 1) := by decide +kernel
theorem dX8_net_47 : decode cX8_net 47 = .ok (.getfield 24, 3) := by decide +kernel
theorem dX8_net_50 : decode cX8_net 50 = .ok (.iload_n 2, 1) := by decide +kernel
theorem dX8_net_51 : decode cX8_net 51 = .ok (.invokevirtual 229, 3) := by decide +kernel
theorem dX8_net_54 : decode cX8_net 54 = .ok (.ifCond .ne 9, 3) := by decide +kernel
theorem dX8_net_57 : decode cX8_net 57 = .ok (.aload_n 0, 1) := by decide +kernel
theorem dX8_net_58 : decode cX8_net 58 = .ok (.iconst 2, 1) := by decide +kernel
theorem dX8_net_59 : decode cX8_net 59 = .ok (.invokevirtual 63, 3) := by decide +kernel
theorem dX8_net_62 : decode cX8_net 62 = .ok (.ireturn, 1) := by decide +kernel
theorem dX8_net_63 : decode cX8_net 63 = .ok (.aload_n 0, 1) := by decide +kernel
theorem dX8_net_64 : decode cX8_net 64 = .ok (.getfield 24, 3) := by decide +kernel
theorem dX8_net_67 : decode cX8_net 67 = .ok (.invokevirtual 232, 3) := by decide +kernel
theorem dX8_net_70 : decode cX8_net 70 = .ok (.istore 5, 2) := by decide +kernel
theorem dX8_net_72 : decode cX8_net 72 = .ok (.iload_n 3, 1) := by decide +kernel
theorem dX8_net_73 : decode cX8_net 73 = .ok (.ifCond .ne 8, 3) := by decide +kernel
theorem dX8_net_76 : decode cX8_net 76 = .ok (.iload 5, 2) := by decide +kernel
theorem dX8_net_78 : decode cX8_net 78 = .ok (.goto 12, 3) := by decide +kernel
theorem dX8_net_81 : decode cX8_net 81 = .ok (.aload_n 0, 1) := by decide +kernel
theorem dX8_net_82 : decode cX8_net 82 = .ok (.getfield 24, 3) := by decide +kernel
theorem dX8_net_85 : decode cX8_net 85 = .ok (.iload 5, 2) := by decide +kernel
theorem dX8_net_87 : decode cX8_net 87 = .ok (.invokevirtual 235, 3) := by decide +kernel
theorem dX8_net_90 : decode cX8_net 90 = .ok (.ireturn, 1) := by decide +kernel
theorem dX8_phases_0 : decode cX8_phases 0 = .ok (.aload_n 0, 1) := by decide +kernel
theorem dX8_phases_1 : decode cX8_phases 1 = .ok (.getfield 10, 3) := by decide +kernel
theorem dX8_phases_4 : decode cX8_phases 4 = .ok (.iload_n 1, 1) := by decide +kernel
theorem dX8_phases_5 : decode cX8_phases 5 = .ok (.invokevirtual 95, 3) := by decide +kernel
theorem dX8_phases_8 : decode cX8_phases 8 = .ok (.astore 4, 2) := by decide +kernel
theorem dX8_phases_10 : decode cX8_phases 10 = .ok (.aload_n 0, 1) := by decide +kernel
theorem dX8_phases_11 : decode cX8_phases 11 = .ok (.iload_n 2, 1) := by decide +kernel
theorem dX8_phases_12 : decode cX8_phases 12 = .ok (.invokevirtual 238, 3) := by decide +kernel
theorem dX8_phases_15 : decode cX8_phases 15 = .ok (.astore 5, 2) := by decide +kernel
theorem dX8_phases_17 : decode cX8_phases 17 = .ok (.aload 4, 2) := by decide +kernel
theorem dX8_phases_19 : decode cX8_phases 19 = .ok (.ifnull 17, 3) := by decide +kernel
theorem dX8_phases_22 : decode cX8_phases 22 = .ok (.aload 5, 2) := by decide +kernel
theorem dX8_phases_24 : decode cX8_phases 24 = .ok (.ifnull 12, 3) := by decide +kernel
theorem dX8_phases_27 : decode cX8_phases 27 = .ok (.iload_n 3, 1) := by decide +kernel
theorem dX8_phases_28 : decode cX8_phases 28 = .ok (.iconst 0, 1) := by decide +kernel
theorem dX8_phases_29 : decode cX8_phases 29 = .ok (.iconst 1, 1) := by decide +kernel
theorem dX8_phases_30 : decode cX8_phases 30 = .ok (.invokestatic 71, 3) := by decide +kernel
theorem dX8_phases_33 : decode cX8_phases 33 = .ok (.ifCond .ne 9, 3) := by decide +kernel
theorem dX8_phases_36 : decode cX8_phases 36 = .ok (.aload_n 0, 1) := by decide +kernel
theorem dX8_phases_37 : decode cX8_phases 37 = .ok (.iconst 1, 1) := by decide +kernel
theorem dX8_phases_38 : decode cX8_phases 38 = .ok (.invokevirtual 63, 3) := by decide +kernel
theorem dX8_phases_41 : decode cX8_phases 41 = .ok (.ireturn, 1) := by decide +kernel
theorem dX8_phases_42 : decode cX8_phases 42 = .ok (.aload 5, 2) := by decide +kernel
theorem dX8_phases_44 : decode cX8_phases 44 = .ok (.invokevirtual 242, 3) := by decide +kernel
theorem dX8_phases_47 : decode cX8_phases 47 = .ok (.ifCond .eq 9, 3) := by decide +kernel
theorem dX8_phases_50 : decode cX8_phases 50 = .ok (.aload_n 0, 1) := by decide +kernel
theorem dX8_phases_51 : decode cX8_phases 51 = .ok (.iconst 2, 1) := by decide +kernel
theorem dX8_phases_52 : decode cX8_phases 52 = .ok (.invokevirtual 63, 3) := by decide +kernel
theorem dX8_phases_55 : decode cX8_phases 55 = .ok (.ireturn, 1) := by decide +kernel
theorem dX8_phases_56 : decode cX8_phases 56 = .ok (.aload_n 0, 1) := by decide +kernel
theorem dX8_phases_57 : decode cX8_phases 57 = .ok (.getfield 24, 3) := by decide +kernel
theorem dX8_phases_60 : decode cX8_phases 60 = .ok (.aload 4, 2) := by decide +kernel
theorem dX8_phases_62 : decode cX8_phases 62 = .ok (.invokevirtual 174, 3) := by decide +kernel
theorem dX8_phases_65 : decode cX8_phases 65 = .ok (.aload_n 0, 1) := by decide +kernel
theorem dX8_phases_66 : decode cX8_phases 66 = .ok (.getfield 24, 3) := by decide +kernel
theorem dX8_phases_69 : decode cX8_phases 69 = .ok (.aload 5, 2) := by decide +kernel
theorem dX8_phases_71 : decode cX8_phases 71 = .ok (.iconst 0, 1) := by decide +kernel
theorem dX8_phases_72 : decode cX8_phases 72 = .ok (.invokevirtual 246, 3) := by decide +kernel
theorem dX8_phases_75 : decode cX8_phases 75 = .ok (.istore 6, 2) := by decide +kernel
theorem dX8_phases_77 : decode cX8_phases 77 = .ok (.iload_n 3, 1) := by decide +kernel
theorem dX8_phases_78 : decode cX8_phases 78 = .ok (.ifCond .eq 8, 3) := by decide +kernel
theorem dX8_phases_81 : decode cX8_phases 81 = .ok (.iload 6, 2) := by decide +kernel
theorem dX8_phases_83 : decode cX8_phases 83 = .ok (.ifCond .ge 12, 3) := by decide +kernel
theorem dX8_phases_86 : decode cX8_phases 86 = .ok (.aload_n 0, 1) := by decide +kernel
theorem dX8_phases_87 : decode cX8_phases 87 = .ok (.iload 6, 2) := by decide +kernel
theorem dX8_phases_89 : decode cX8_phases 89 = .ok (.invokevirtual 204, 3) := by decide +kernel
theorem dX8_phases_92 : decode cX8_phases 92 = .ok (.goto 12, 3) := by decide +kernel
theorem dX8_phases_95 : decode cX8_phases 95 = .ok (.aload_n 0, 1) := by decide +kernel
theorem dX8_phases_96 : decode cX8_phases 96 = .ok (.getfield 24, 3) := by decide +kernel
theorem dX8_phases_99 : decode cX8_phases 99 = .ok (.aload 5, 2) := by decide +kernel
theorem dX8_phases_101 : decode cX8_phases 101 = .ok (.invokevirtual 250, 3) := by decide +kernel
theorem dX8_phases_104 : decode cX8_phases 104 = .ok (.ireturn, 1) := by decide +kernel
theorem dX8_late_0 : decode cX8_late 0 = .ok (.aload_n 0, 1) := by decide +kernel
theorem dX8_late_1 : decode cX8_late 1 = .ok (.getfield 10, 3) := by decide +kernel
theorem dX8_late_4 : decode cX8_late 4 = .ok (.iload_n 1, 1) := by decide +kernel
theorem dX8_late_5 : decode cX8_late 5 = .ok (.invokevirtual 95, 3) := by decide +kernel
theorem dX8_late_8 : decode cX8_late 8 = .ok (.astore_n 3, 1) := by decide +kernel
theorem dX8_late_9 : decode cX8_late 9 = .ok (.aload_n 0, 1) := by decide +kernel
theorem dX8_late_10 : decode cX8_late 10 = .ok (.iload_n 2, 1) := by decide +kernel
theorem dX8_late_11 : decode cX8_late 11 = .ok (.invokevirtual 238, 3) := by decide +kernel
theorem dX8_late_14 : decode cX8_late 14 = .ok (.astore 4, 2) := by decide +kernel
theorem dX8_late_16 : decode cX8_late 16 = .ok (.aload_n 3, 1) := by decide +kernel
theorem dX8_late_17 : decode cX8_late 17 = .ok (.ifnull 8, 3) := by decide +kernel
theorem dX8_late_20 : decode cX8_late 20 = .ok (.aload 4, 2) := by decide +kernel
theorem dX8_late_22 : decode cX8_late 22 = .ok (.ifnonnull 9, 3) := by decide +kernel
theorem dX8_late_25 : decode cX8_late 25 = .ok (.aload_n 0, 1) := by decide +kernel
theorem dX8_late_26 : decode cX8_late 26 = .ok (.iconst 1, 1) := by decide +kernel
theorem dX8_late_27 : decode cX8_late 27 = .ok (.invokevirtual 63, 3) := by decide +kernel
theorem dX8_late_30 : decode cX8_late 30 = .ok (.ireturn, 1) := by decide +kernel
theorem dX8_late_31 : decode cX8_late 31 = .ok (.aload 4, 2) := by decide +kernel
theorem dX8_late_33 : decode cX8_late 33 = .ok (.invokevirtual 242, 3) := by decide +kernel
theorem dX8_late_36 : decode cX8_late 36 = .ok (.ifCond .eq 9, 3) := by decide +kernel
theorem dX8_late_39 : decode cX8_late 39 = .ok (.aload_n 0, 1) := by decide +kernel
theorem dX8_late_40 : decode cX8_late 40 = .ok (.iconst 2, 1) := by decide +kernel
theorem dX8_late_41 : decode cX8_late 41 = .ok (.invokevirtual 63, 3) := by decide +kernel
theorem dX8_late_44 : decode cX8_late 44 = .ok (.ireturn, 1) := by decide +kernel
theorem dX8_late_45 : decode cX8_late 45 = .ok (.aload_n 0, 1) := by decide +kernel
theorem dX8_late_46 : decode cX8_late 46 = .ok (.getfield 24, 3) := by decide +kernel
theorem dX8_late_49 : decode cX8_late 49 = .ok (.aload_n 3, 1) := by decide +kernel
theorem dX8_late_50 : decode cX8_late 50 = .ok (.invokevirtual 174, 3) := by decide +kernel
theorem dX8_late_53 : decode cX8_late 53 = .ok (.aload_n 0, 1) := by decide +kernel
theorem dX8_late_54 : decode cX8_late 54 = .ok (.aload_n 0, 1) := by decide +kernel
theorem dX8_late_55 : decode cX8_late 55 = .ok (.getfield 24, 3) := by decide +kernel
theorem dX8_late_58 : decode cX8_late 58 = .ok (.aload 4, 2) := by decide +kernel
theorem dX8_late_60 : decode cX8_late 60 = .ok (.invokevirtual 254, 3) := by decide +kernel
theorem dX8_late_63 : decode cX8_late 63 = .ok (.invokevirtual 204, 3) := by decide +kernel
theorem dX8_late_66 : decode cX8_late 66 = .ok (.ireturn, 1) := by decide +kernel
theorem dX8_seed_0 : decode cX8_seed 0 = .ok (.aload_n 0, 1) := by decide +kernel
theorem dX8_seed_1 : decode cX8_seed 1 = .ok (.getfield 10, 3) := by decide +kernel
theorem dX8_seed_4 : decode cX8_seed 4 = .ok (.getfield 257, 3) := by decide +kernel
theorem dX8_seed_7 : decode cX8_seed 7 = .ok (.istore_n 2, 1) := by decide +kernel
theorem dX8_seed_8 : decode cX8_seed 8 = .ok (.aload_n 0, 1) := by decide +kernel
theorem dX8_seed_9 : decode cX8_seed 9 = .ok (.getfield 10, 3) := by decide +kernel
theorem dX8_seed_12 : decode cX8_seed 12 = .ok (.iload_n 1, 1) := by decide +kernel
theorem dX8_seed_13 : decode cX8_seed 13 = .ok (.putfield 257, 3) := by decide +kernel
theorem dX8_seed_16 : decode cX8_seed 16 = .ok (.iload_n 2, 1) := by decide +kernel
theorem dX8_seed_17 : decode cX8_seed 17 = .ok (.ireturn, 1) := by decide +kernel
theorem dX8_voice_0 : decode cX8_voice 0 = .ok (.aload_n 0, 1) := by decide +kernel
theorem dX8_voice_1 : decode cX8_voice 1 = .ok (.getfield 10, 3) := by decide +kernel
theorem dX8_voice_4 : decode cX8_voice 4 = .ok (.iload_n 1, 1) := by decide +kernel
theorem dX8_voice_5 : decode cX8_voice 5 = .ok (.invokevirtual 95, 3) := by decide +kernel
theorem dX8_voice_8 : decode cX8_voice 8 = .ok (.astore 4, 2) := by decide +kernel
theorem dX8_voice_10 : decode cX8_voice 10 = .ok (.aload 4, 2) := by decide +kernel
theorem dX8_voice_12 : decode cX8_voice 12 = .ok (.ifnull 12, 3) := by decide +kernel
theorem dX8_voice_15 : decode cX8_voice 15 = .ok (.iload_n 2, 1) := by decide +kernel
theorem dX8_voice_16 : decode cX8_voice 16 = .ok (.iconst 0, 1) := by decide +kernel
theorem dX8_voice_17 : decode cX8_voice 17 = .ok (.iconst 3, 1) := by decide +kernel
theorem dX8_voice_18 : decode cX8_voice 18 = .ok (.invokestatic 71, 3) := by decide +kernel
theorem dX8_voice_21 : decode cX8_voice 21 = .ok (.ifCond .ne 9, 3) := by decide +kernel
theorem dX8_voice_24 : decode cX8_voice 24 = .ok (.aload_n 0, 1) := by decide +kernel
theorem dX8_voice_25 : decode cX8_voice 25 = .ok (.iconst 1, 1) := by decide +kernel
theorem dX8_voice_26 : decode cX8_voice 26 = .ok (.invokevirtual 63, 3) := by decide +kernel
theorem dX8_voice_29 : decode cX8_voice 29 = .ok (.ireturn, 1) := by decide +kernel
theorem dX8_voice_30 : decode cX8_voice 30 = .ok (.aload_n 0, 1) := by decide +kernel
theorem dX8_voice_31 : decode cX8_voice 31 = .ok (.getfield 38, 3) := by decide +kernel
theorem dX8_voice_34 : decode cX8_voice 34 = .ok (.iload_n 1, 1) := by decide +kernel
theorem dX8_voice_35 : decode cX8_voice 35 = .ok (.aload 4, 2) := by decide +kernel
theorem dX8_voice_37 : decode cX8_voice 37 = .ok (.iload_n 2, 1) := by decide +kernel
theorem dX8_voice_38 : decode cX8_voice 38 = .ok (.iload_n 3, 1) := by decide +kernel
theorem dX8_voice_39 : decode cX8_voice 39 = .ok (.invokevirtual 260, 3) := by decide +kernel
theorem dX8_voice_42 : decode cX8_voice 42 = .ok (.ireturn, 1) := by decide +kernel
theorem dX8_trace_0 : decode cX8_trace 0 = .ok (.iload_n 1, 1) := by decide +kernel
theorem dX8_trace_1 : decode cX8_trace 1 = .ok (.iconst 0, 1) := by decide +kernel
theorem dX8_trace_2 : decode cX8_trace 2 = .ok (.aload_n 0, 1) := by decide +kernel
theorem dX8_trace_3 : decode cX8_trace 3 = .ok (.getfield 38, 3) := by decide +kernel
theorem dX8_trace_6 : decode cX8_trace 6 = .ok (.getfield 264, 3) := by decide +kernel
theorem dX8_trace_9 : decode cX8_trace 9 = .ok (.iconst 1, 1) := by decide +kernel
theorem dX8_trace_10 : decode cX8_trace 10 = .ok (.isub, 1) := by decide +kernel
theorem dX8_trace_11 : decode cX8_trace 11 = .ok (.invokestatic 71, 3) := by decide +kernel
theorem dX8_trace_14 : decode cX8_trace 14 = .ok (.ifCond .ne 9, 3) := by decide +kernel
theorem dX8_trace_17 : decode cX8_trace 17 = .ok (.aload_n 0, 1) := by decide +kernel
theorem dX8_trace_18 : decode cX8_trace 18 = .ok (.iconst 2, 1) := by decide +kernel
theorem dX8_trace_19 : decode cX8_trace 19 = .ok (.invokevirtual 63, 3) := by decide +kernel
theorem dX8_trace_22 : decode cX8_trace 22 = .ok (.ireturn, 1) := by decide +kernel
theorem dX8_trace_23 : decode cX8_trace 23 = .ok (.aload_n 0, 1) := by decide +kernel
theorem dX8_trace_24 : decode cX8_trace 24 = .ok (.getfield 38, 3) := by decide +kernel
theorem dX8_trace_27 : decode cX8_trace 27 = .ok (.iload_n 1, 1) := by decide +kernel
theorem dX8_trace_28 : decode cX8_trace 28 = .ok (.invokevirtual 267, 3) := by decide +kernel
theorem dX8_trace_31 : decode cX8_trace 31 = .ok (.ireturn, 1) := by decide +kernel
theorem dX8_sheet_0 : decode cX8_sheet 0 = .ok (.aload_n 0, 1) := by decide +kernel
theorem dX8_sheet_1 : decode cX8_sheet 1 = .ok (.iload_n 1, 1) := by decide +kernel
theorem dX8_sheet_2 : decode cX8_sheet 2 = .ok (.invokevirtual 238, 3) := by decide +kernel
theorem dX8_sheet_5 : decode cX8_sheet 5 = .ok (.astore 4, 2) := by decide +kernel
theorem dX8_sheet_7 : decode cX8_sheet 7 = .ok (.aload 4, 2) := by decide +kernel
theorem dX8_sheet_9 : decode cX8_sheet 9 = .ok (.ifnull 25, 3) := by decide +kernel
theorem dX8_sheet_12 : decode cX8_sheet 12 = .ok (.iload_n 2, 1) := by decide +kernel
theorem dX8_sheet_13 : decode cX8_sheet 13 = .ok (.ifCond .eq 27, 3) := by decide +kernel
theorem dX8_sheet_16 : decode cX8_sheet 16 = .ok (.iload_n 2, 1) := by decide +kernel
theorem dX8_sheet_17 : decode cX8_sheet 17 = .ok (.bipush 8, 2) := by decide +kernel
theorem dX8_sheet_19 : decode cX8_sheet 19 = .ok (.if_icmp .eq 21, 3) := by decide +kernel
theorem dX8_sheet_22 : decode cX8_sheet 22 = .ok (.iload_n 2, 1) := by decide +kernel
theorem dX8_sheet_23 : decode cX8_sheet 23 = .ok (.bipush 16, 2) := by decide +kernel
theorem dX8_sheet_25 : decode cX8_sheet 25 = .ok (.if_icmp .eq 15, 3) := by decide +kernel
theorem dX8_sheet_28 : decode cX8_sheet 28 = .ok (.iload_n 2, 1) := by decide +kernel
theorem dX8_sheet_29 : decode cX8_sheet 29 = .ok (.bipush 32, 2) := by decide +kernel
theorem dX8_sheet_31 : decode cX8_sheet 31 = .ok (.if_icmp .eq 9, 3) := by decide +kernel
theorem dX8_sheet_34 : decode cX8_sheet 34 = .ok (.aload_n 0, 1) := by decide +kernel
theorem dX8_sheet_35 : decode cX8_sheet 35 = .ok (.iconst 1, 1) := by decide +kernel
theorem dX8_sheet_36 : decode cX8_sheet 36 = .ok (.invokevirtual 63, 3) := by decide +kernel
theorem dX8_sheet_39 : decode cX8_sheet 39 = .ok (.ireturn, 1) := by decide +kernel
theorem dX8_sheet_40 : decode cX8_sheet 40 = .ok (.iload_n 2, 1) := by decide +kernel
theorem dX8_sheet_41 : decode cX8_sheet 41 = .ok (.ifCond .eq 13, 3) := by decide +kernel
theorem dX8_sheet_44 : decode cX8_sheet 44 = .ok (.iload_n 3, 1) := by decide +kernel
theorem dX8_sheet_45 : decode cX8_sheet 45 = .ok (.ifCond .ge 9, 3) := by decide +kernel
theorem dX8_sheet_48 : decode cX8_sheet 48 = .ok (.aload_n 0, 1) := by decide +kernel
theorem dX8_sheet_49 : decode cX8_sheet 49 = .ok (.iconst 3, 1) := by decide +kernel
theorem dX8_sheet_50 : decode cX8_sheet 50 = .ok (.invokevirtual 63, 3) := by decide +kernel
theorem dX8_sheet_53 : decode cX8_sheet 53 = .ok (.ireturn, 1) := by decide +kernel
theorem dX8_sheet_54 : decode cX8_sheet 54 = .ok (.iload_n 2, 1) := by decide +kernel
theorem dX8_sheet_55 : decode cX8_sheet 55 = .ok (.ifCond .eq 15, 3) := by decide +kernel
theorem dX8_sheet_58 : decode cX8_sheet 58 = .ok (.iload_n 3, 1) := by decide +kernel
theorem dX8_sheet_59 : decode cX8_sheet 59 = .ok (.bipush 40, 2) := by decide +kernel
theorem dX8_sheet_61 : decode cX8_sheet 61 = .ok (.if_icmp .le 9, 3) := by decide +kernel
theorem dX8_sheet_64 : decode cX8_sheet 64 = .ok (.aload_n 0, 1) := by decide +kernel
theorem dX8_sheet_65 : decode cX8_sheet 65 = .ok (.iconst 1, 1) := by decide +kernel
theorem dX8_sheet_66 : decode cX8_sheet 66 = .ok (.invokevirtual 63, 3) := by decide +kernel
theorem dX8_sheet_69 : decode cX8_sheet 69 = .ok (.ireturn, 1) := by decide +kernel
theorem dX8_sheet_70 : decode cX8_sheet 70 = .ok (.aload 4, 2) := by decide +kernel
theorem dX8_sheet_72 : decode cX8_sheet 72 = .ok (.iload_n 2, 1) := by decide +kernel
theorem dX8_sheet_73 : decode cX8_sheet 73 = .ok (.iload_n 3, 1) := by decide +kernel
theorem dX8_sheet_74 : decode cX8_sheet 74 = .ok (.invokevirtual 270, 3) := by decide +kernel
theorem dX8_sheet_77 : decode cX8_sheet 77 = .ok (.iconst 1, 1) := by decide +kernel
theorem dX8_sheet_78 : decode cX8_sheet 78 = .ok (.ireturn, 1) := by decide +kernel
theorem dX8_put_0 : decode cX8_put 0 = .ok (.aload_n 0, 1) := by decide +kernel
theorem dX8_put_1 : decode cX8_put 1 = .ok (.iload_n 1, 1) := by decide +kernel
theorem dX8_put_2 : decode cX8_put 2 = .ok (.invokevirtual 238, 3) := by decide +kernel
theorem dX8_put_5 : decode cX8_put 5 = .ok (.astore 4, 2) := by decide +kernel
theorem dX8_put_7 : decode cX8_put 7 = .ok (.aload 4, 2) := by decide +kernel
theorem dX8_put_9 : decode cX8_put 9 = .ok (.ifnonnull 9, 3) := by decide +kernel
theorem dX8_put_12 : decode cX8_put 12 = .ok (.aload_n 0, 1) := by decide +kernel
theorem dX8_put_13 : decode cX8_put 13 = .ok (.iconst 1, 1) := by decide +kernel
theorem dX8_put_14 : decode cX8_put 14 = .ok (.invokevirtual 63, 3) := by decide +kernel
theorem dX8_put_17 : decode cX8_put 17 = .ok (.ireturn, 1) := by decide +kernel
theorem dX8_put_18 : decode cX8_put 18 = .ok (.aload 4, 2) := by decide +kernel
theorem dX8_put_20 : decode cX8_put 20 = .ok (.invokevirtual 242, 3) := by decide +kernel
theorem dX8_put_23 : decode cX8_put 23 = .ok (.ifCond .eq 9, 3) := by decide +kernel
theorem dX8_put_26 : decode cX8_put 26 = .ok (.aload_n 0, 1) := by decide +kernel
theorem dX8_put_27 : decode cX8_put 27 = .ok (.iconst 2, 1) := by decide +kernel
theorem dX8_put_28 : decode cX8_put 28 = .ok (.invokevirtual 63, 3) := by decide +kernel
theorem dX8_put_31 : decode cX8_put 31 = .ok (.ireturn, 1) := by decide +kernel
theorem dX8_put_32 : decode cX8_put 32 = .ok (.iload_n 2, 1) := by decide +kernel
theorem dX8_put_33 : decode cX8_put 33 = .ok (.iconst 0, 1) := by decide +kernel
theorem dX8_put_34 : decode cX8_put 34 = .ok (.aload 4, 2) := by decide +kernel
theorem dX8_put_36 : decode cX8_put 36 = .ok (.getfield 272, 3) := by decide +kernel
theorem dX8_put_39 : decode cX8_put 39 = .ok (.iconst 1, 1) := by decide +kernel
theorem dX8_put_40 : decode cX8_put 40 = .ok (.isub, 1) := by decide +kernel
theorem dX8_put_41 : decode cX8_put 41 = .ok (.invokestatic 71, 3) := by decide +kernel
theorem dX8_put_44 : decode cX8_put 44 = .ok (.ifCond .ne 9, 3) := by decide +kernel
theorem dX8_put_47 : decode cX8_put 47 = .ok (.aload_n 0, 1) := by decide +kernel
theorem dX8_put_48 : decode cX8_put 48 = .ok (.iconst 1, 1) := by decide +kernel
theorem dX8_put_49 : decode cX8_put 49 = .ok (.invokevirtual 63, 3) := by decide +kernel
theorem dX8_put_52 : decode cX8_put 52 = .ok (.ireturn, 1) := by decide +kernel
theorem dX8_put_53 : decode cX8_put 53 = .ok (.aload 4, 2) := by decide +kernel
theorem dX8_put_55 : decode cX8_put 55 = .ok (.iload_n 2, 1) := by decide +kernel
theorem dX8_put_56 : decode cX8_put 56 = .ok (.iload_n 3, 1) := by decide +kernel
theorem dX8_put_57 : decode cX8_put 57 = .ok (.invokevirtual 275, 3) := by decide +kernel
theorem dX8_put_60 : decode cX8_put 60 = .ok (.iconst 1, 1) := by decide +kernel
theorem dX8_put_61 : decode cX8_put 61 = .ok (.ireturn, 1) := by decide +kernel
theorem dX8_move_0 : decode cX8_move 0 = .ok (.aload_n 0, 1) := by decide +kernel
theorem dX8_move_1 : decode cX8_move 1 = .ok (.iload_n 1, 1) := by decide +kernel
theorem dX8_move_2 : decode cX8_move 2 = .ok (.invokevirtual 238, 3) := by decide +kernel
theorem dX8_move_5 : decode cX8_move 5 = .ok (.astore 6, 2) := by decide +kernel
theorem dX8_move_7 : decode cX8_move 7 = .ok (.aload_n 0, 1) := by decide +kernel
theorem dX8_move_8 : decode cX8_move 8 = .ok (.iload_n 3, 1) := by decide +kernel
theorem dX8_move_9 : decode cX8_move 9 = .ok (.invokevirtual 238, 3) := by decide +kernel
theorem dX8_move_12 : decode cX8_move 12 = .ok (.astore 7, 2) := by decide +kernel
theorem dX8_move_14 : decode cX8_move 14 = .ok (.aload 6, 2) := by decide +kernel
theorem dX8_move_16 : decode cX8_move 16 = .ok (.ifnull 8, 3) := by decide +kernel
theorem dX8_move_19 : decode cX8_move 19 = .ok (.aload 7, 2) := by decide +kernel
theorem dX8_move_21 : decode cX8_move 21 = .ok (.ifnonnull 9, 3) := by decide +kernel
theorem dX8_move_24 : decode cX8_move 24 = .ok (.aload_n 0, 1) := by decide +kernel
theorem dX8_move_25 : decode cX8_move 25 = .ok (.iconst 1, 1) := by decide +kernel
theorem dX8_move_26 : decode cX8_move 26 = .ok (.invokevirtual 63, 3) := by decide +kernel
theorem dX8_move_29 : decode cX8_move 29 = .ok (.ireturn, 1) := by decide +kernel
theorem dX8_move_30 : decode cX8_move 30 = .ok (.aload 6, 2) := by decide +kernel
theorem dX8_move_32 : decode cX8_move 32 = .ok (.invokevirtual 242, 3) := by decide +kernel
theorem dX8_move_35 : decode cX8_move 35 = .ok (.ifCond .ne 11, 3) := by decide +kernel
theorem dX8_move_38 : decode cX8_move 38 = .ok (.aload 7, 2) := by decide +kernel
theorem dX8_move_40 : decode cX8_move 40 = .ok (.invokevirtual 242, 3) := by decide +kernel
theorem dX8_move_43 : decode cX8_move 43 = .ok (.ifCond .eq 9, 3) := by decide +kernel
theorem dX8_move_46 : decode cX8_move 46 = .ok (.aload_n 0, 1) := by decide +kernel
theorem dX8_move_47 : decode cX8_move 47 = .ok (.iconst 2, 1) := by decide +kernel
theorem dX8_move_48 : decode cX8_move 48 = .ok (.invokevirtual 63, 3) := by decide +kernel
theorem dX8_move_51 : decode cX8_move 51 = .ok (.ireturn, 1) := by decide +kernel
theorem dX8_move_52 : decode cX8_move 52 = .ok (.aload 6, 2) := by decide +kernel
theorem dX8_move_54 : decode cX8_move 54 = .ok (.getfield 278, 3) := by decide +kernel
theorem dX8_move_57 : decode cX8_move 57 = .ok (.aload 7, 2) := by decide +kernel
theorem dX8_move_59 : decode cX8_move 59 = .ok (.getfield 278, 3) := by decide +kernel
theorem dX8_move_62 : decode cX8_move 62 = .ok (.if_icmp .eq 9, 3) := by decide +kernel
theorem dX8_move_65 : decode cX8_move 65 = .ok (.aload_n 0, 1) := by decide +kernel
theorem dX8_move_66 : decode cX8_move 66 = .ok (.iconst 5, 1) := by decide +kernel
theorem dX8_move_67 : decode cX8_move 67 = .ok (.invokevirtual 63, 3) := by decide +kernel
theorem dX8_move_70 : decode cX8_move 70 = .ok (.ireturn, 1) := by decide +kernel
theorem dX8_move_71 : decode cX8_move 71 = .ok (.aload 6, 2) := by decide +kernel
theorem dX8_move_73 : decode cX8_move 73 = .ok (.iload_n 2, 1) := by decide +kernel
theorem dX8_move_74 : decode cX8_move 74 = .ok (.iload 5, 2) := by decide +kernel
theorem dX8_move_76 : decode cX8_move 76 = .ok (.invokevirtual 281, 3) := by decide +kernel
theorem dX8_move_79 : decode cX8_move 79 = .ok (.ifCond .eq 15, 3) := by decide +kernel
theorem dX8_move_82 : decode cX8_move 82 = .ok (.aload 7, 2) := by decide +kernel
theorem dX8_move_84 : decode cX8_move 84 = .ok (.iload 4, 2) := by decide +kernel
theorem dX8_move_86 : decode cX8_move 86 = .ok (.iload 5, 2) := by decide +kernel
theorem dX8_move_88 : decode cX8_move 88 = .ok (.invokevirtual 281, 3) := by decide +kernel
theorem dX8_move_91 : decode cX8_move 91 = .ok (.ifCond .ne 9, 3) := by decide +kernel
theorem dX8_move_94 : decode cX8_move 94 = .ok (.aload_n 0, 1) := by decide +kernel
theorem dX8_move_95 : decode cX8_move 95 = .ok (.iconst 1, 1) := by decide +kernel
theorem dX8_move_96 : decode cX8_move 96 = .ok (.invokevirtual 63, 3) := by decide +kernel
theorem dX8_move_99 : decode cX8_move 99 = .ok (.ireturn, 1) := by decide +kernel
theorem dX8_move_100 : decode cX8_move 100 = .ok (.aload 6, 2) := by decide +kernel
theorem dX8_move_102 : decode cX8_move 102 = .ok (.getfield 284, 3) := by decide +kernel
theorem dX8_move_105 : decode cX8_move 105 = .ok (.iload_n 2, 1) := by decide +kernel
theorem dX8_move_106 : decode cX8_move 106 = .ok (.aload 7, 2) := by decide +kernel
theorem dX8_move_108 : decode cX8_move 108 = .ok (.getfield 284, 3) := by decide +kernel
theorem dX8_move_111 : decode cX8_move 111 = .ok (.iload 4, 2) := by decide +kernel
theorem dX8_move_113 : decode cX8_move 113 = .ok (.iload 5, 2) := by decide +kernel
theorem dX8_move_115 : decode cX8_move 115 = .ok (.invokestatic 287, 3) := by decide +kernel
theorem dX8_move_118 : decode cX8_move 118 = .ok (.iload 5, 2) := by decide +kernel
theorem dX8_move_120 : decode cX8_move 120 = .ok (.ireturn, 1) := by decide +kernel
theorem dX8_turns_0 : decode cX8_turns 0 = .ok (.aload_n 0, 1) := by decide +kernel
theorem dX8_turns_1 : decode cX8_turns 1 = .ok (.iload_n 1, 1) := by decide +kernel
theorem dX8_turns_2 : decode cX8_turns 2 = .ok (.invokevirtual 238, 3) := by decide +kernel
theorem dX8_turns_5 : decode cX8_turns 5 = .ok (.astore_n 2, 1) := by decide +kernel
theorem dX8_turns_6 : decode cX8_turns 6 = .ok (.aload_n 2, 1) := by decide +kernel
theorem dX8_turns_7 : decode cX8_turns 7 = .ok (.ifnonnull 9, 3) := by decide +kernel
theorem dX8_turns_10 : decode cX8_turns 10 = .ok (.aload_n 0, 1) := by decide +kernel
theorem dX8_turns_11 : decode cX8_turns 11 = .ok (.iconst 1, 1) := by decide +kernel
theorem dX8_turns_12 : decode cX8_turns 12 = .ok (.invokevirtual 63, 3) := by decide +kernel
theorem dX8_turns_15 : decode cX8_turns 15 = .ok (.ireturn, 1) := by decide +kernel
theorem dX8_turns_16 : decode cX8_turns 16 = .ok (.aload_n 2, 1) := by decide +kernel
theorem dX8_turns_17 : decode cX8_turns 17 = .ok (.invokevirtual 242, 3) := by decide +kernel
theorem dX8_turns_20 : decode cX8_turns 20 = .ok (.ifCond .eq 9, 3) := by decide +kernel
theorem dX8_turns_23 : decode cX8_turns 23 = .ok (.aload_n 0, 1) := by decide +kernel
theorem dX8_turns_24 : decode cX8_turns 24 = .ok (.iconst 2, 1) := by decide +kernel
theorem dX8_turns_25 : decode cX8_turns 25 = .ok (.invokevirtual 63, 3) := by decide +kernel
theorem dX8_turns_28 : decode cX8_turns 28 = .ok (.ireturn, 1) := by decide +kernel
theorem dX8_turns_29 : decode cX8_turns 29 = .ok (.iconst 0, 1) := by decide +kernel
theorem dX8_turns_30 : decode cX8_turns 30 = .ok (.istore_n 3, 1) := by decide +kernel
theorem dX8_turns_31 : decode cX8_turns 31 = .ok (.iload_n 3, 1) := by decide +kernel
theorem dX8_turns_32 : decode cX8_turns 32 = .ok (.aload_n 2, 1) := by decide +kernel
theorem dX8_turns_33 : decode cX8_turns 33 = .ok (.getfield 272, 3) := by decide +kernel
theorem dX8_turns_36 : decode cX8_turns 36 = .ok (.if_icmp .ge 49, 3) := by decide +kernel
theorem dX8_turns_39 : decode cX8_turns 39 = .ok (.aload_n 0, 1) := by decide +kernel
theorem dX8_turns_40 : decode cX8_turns 40 = .ok (.getfield 10, 3) := by decide +kernel
theorem dX8_turns_43 : decode cX8_turns 43 = .ok (.iload_n 3, 1) := by decide +kernel
theorem dX8_turns_44 : decode cX8_turns 44 = .ok (.invokevirtual 95, 3) := by decide +kernel
theorem dX8_turns_47 : decode cX8_turns 47 = .ok (.astore 4, 2) := by decide +kernel
theorem dX8_turns_49 : decode cX8_turns 49 = .ok (.aload 4, 2) := by decide +kernel
theorem dX8_turns_51 : decode cX8_turns 51 = .ok (.ifnull 16, 3) := by decide +kernel
theorem dX8_turns_54 : decode cX8_turns 54 = .ok (.aload_n 2, 1) := by decide +kernel
theorem dX8_turns_55 : decode cX8_turns 55 = .ok (.iload_n 3, 1) := by decide +kernel
theorem dX8_turns_56 : decode cX8_turns 56 = .ok (.invokevirtual 293, 3) := by decide +kernel
theorem dX8_turns_59 : decode cX8_turns 59 = .ok (.iconst 1, 1) := by decide +kernel
theorem dX8_turns_60 : decode cX8_turns 60 = .ok (.iconst 3, 1) := by decide +kernel
theorem dX8_turns_61 : decode cX8_turns 61 = .ok (.invokestatic 71, 3) := by decide +kernel
theorem dX8_turns_64 : decode cX8_turns 64 = .ok (.ifCond .ne 5, 3) := by decide +kernel
theorem dX8_turns_67 : decode cX8_turns 67 = .ok (.iload_n 3, 1) := by decide +kernel
theorem dX8_turns_68 : decode cX8_turns 68 = .ok (.ireturn, 1) := by decide +kernel
theorem dX8_turns_69 : decode cX8_turns 69 = .ok (.aload 4, 2) := by decide +kernel
theorem dX8_turns_71 : decode cX8_turns 71 = .ok (.aload_n 2, 1) := by decide +kernel
theorem dX8_turns_72 : decode cX8_turns 72 = .ok (.iload_n 3, 1) := by decide +kernel
theorem dX8_turns_73 : decode cX8_turns 73 = .ok (.invokevirtual 293, 3) := by decide +kernel
theorem dX8_turns_76 : decode cX8_turns 76 = .ok (.putfield 111, 3) := by decide +kernel
theorem dX8_turns_79 : decode cX8_turns 79 = .ok (.iinc 3 1, 3) := by decide +kernel
theorem dX8_turns_82 : decode cX8_turns 82 = .ok (.goto (-51), 3) := by decide +kernel
theorem dX8_turns_85 : decode cX8_turns 85 = .ok (.aload_n 2, 1) := by decide +kernel
theorem dX8_turns_86 : decode cX8_turns 86 = .ok (.getfield 272, 3) := by decide +kernel
theorem dX8_turns_89 : decode cX8_turns 89 = .ok (.ireturn, 1) := by decide +kernel
theorem dX8_judge_0 : decode cX8_judge 0 = .ok (.aload_n 0, 1) := by decide +kernel
theorem dX8_judge_1 : decode cX8_judge 1 = .ok (.iload_n 1, 1) := by decide +kernel
theorem dX8_judge_2 : decode cX8_judge 2 = .ok (.invokevirtual 238, 3) := by decide +kernel
theorem dX8_judge_5 : decode cX8_judge 5 = .ok (.astore_n 2, 1) := by decide +kernel
theorem dX8_judge_6 : decode cX8_judge 6 = .ok (.aload_n 2, 1) := by decide +kernel
theorem dX8_judge_7 : decode cX8_judge 7 = .ok (.ifnonnull 9, 3) := by decide +kernel
theorem dX8_judge_10 : decode cX8_judge 10 = .ok (.aload_n 0, 1) := by decide +kernel
theorem dX8_judge_11 : decode cX8_judge 11 = .ok (.iconst 1, 1) := by decide +kernel
theorem dX8_judge_12 : decode cX8_judge 12 = .ok (.invokevirtual 63, 3) := by decide +kernel
theorem dX8_judge_15 : decode cX8_judge 15 = .ok (.ireturn, 1) := by decide +kernel
theorem dX8_judge_16 : decode cX8_judge 16 = .ok (.aload_n 2, 1) := by decide +kernel
theorem dX8_judge_17 : decode cX8_judge 17 = .ok (.invokevirtual 242, 3) := by decide +kernel
theorem dX8_judge_20 : decode cX8_judge 20 = .ok (.ifCond .eq 9, 3) := by decide +kernel
theorem dX8_judge_23 : decode cX8_judge 23 = .ok (.aload_n 0, 1) := by decide +kernel
theorem dX8_judge_24 : decode cX8_judge 24 = .ok (.iconst 2, 1) := by decide +kernel
theorem dX8_judge_25 : decode cX8_judge 25 = .ok (.invokevirtual 63, 3) := by decide +kernel
theorem dX8_judge_28 : decode cX8_judge 28 = .ok (.ireturn, 1) := by decide +kernel
theorem dX8_judge_29 : decode cX8_judge 29 = .ok (.iconst 0, 1) := by decide +kernel
theorem dX8_judge_30 : decode cX8_judge 30 = .ok (.istore_n 3, 1) := by decide +kernel
theorem dX8_judge_31 : decode cX8_judge 31 = .ok (.iload_n 3, 1) := by decide +kernel
theorem dX8_judge_32 : decode cX8_judge 32 = .ok (.aload_n 2, 1) := by decide +kernel
theorem dX8_judge_33 : decode cX8_judge 33 = .ok (.getfield 272, 3) := by decide +kernel
theorem dX8_judge_36 : decode cX8_judge 36 = .ok (.if_icmp .ge 39, 3) := by decide +kernel
theorem dX8_judge_39 : decode cX8_judge 39 = .ok (.aload_n 0, 1) := by decide +kernel
theorem dX8_judge_40 : decode cX8_judge 40 = .ok (.getfield 10, 3) := by decide +kernel
theorem dX8_judge_43 : decode cX8_judge 43 = .ok (.iload_n 3, 1) := by decide +kernel
theorem dX8_judge_44 : decode cX8_judge 44 = .ok (.invokevirtual 95, 3) := by decide +kernel
theorem dX8_judge_47 : decode cX8_judge 47 = .ok (.astore 4, 2) := by decide +kernel
theorem dX8_judge_49 : decode cX8_judge 49 = .ok (.aload 4, 2) := by decide +kernel
theorem dX8_judge_51 : decode cX8_judge 51 = .ok (.ifnull 16, 3) := by decide +kernel
theorem dX8_judge_54 : decode cX8_judge 54 = .ok (.aload_n 2, 1) := by decide +kernel
theorem dX8_judge_55 : decode cX8_judge 55 = .ok (.iload_n 3, 1) := by decide +kernel
theorem dX8_judge_56 : decode cX8_judge 56 = .ok (.invokevirtual 293, 3) := by decide +kernel
theorem dX8_judge_59 : decode cX8_judge 59 = .ok (.aload 4, 2) := by decide +kernel
theorem dX8_judge_61 : decode cX8_judge 61 = .ok (.getfield 114, 3) := by decide +kernel
theorem dX8_judge_64 : decode cX8_judge 64 = .ok (.if_icmp .eq 5, 3) := by decide +kernel
theorem dX8_judge_67 : decode cX8_judge 67 = .ok (.iload_n 3, 1) := by decide +kernel
theorem dX8_judge_68 : decode cX8_judge 68 = .ok (.ireturn, 1) := by decide +kernel
theorem dX8_judge_69 : decode cX8_judge 69 = .ok (.iinc 3 1, 3) := by decide +kernel
theorem dX8_judge_72 : decode cX8_judge 72 = .ok (.goto (-41), 3) := by decide +kernel
theorem dX8_judge_75 : decode cX8_judge 75 = .ok (.aload_n 2, 1) := by decide +kernel
theorem dX8_judge_76 : decode cX8_judge 76 = .ok (.getfield 272, 3) := by decide +kernel
theorem dX8_judge_79 : decode cX8_judge 79 = .ok (.aload_n 0, 1) := by decide +kernel
theorem dX8_judge_80 : decode cX8_judge 80 = .ok (.getfield 10, 3) := by decide +kernel
theorem dX8_judge_83 : decode cX8_judge 83 = .ok (.getfield 92, 3) := by decide +kernel
theorem dX8_judge_86 : decode cX8_judge 86 = .ok (.if_icmp .ge 10, 3) := by decide +kernel
theorem dX8_judge_89 : decode cX8_judge 89 = .ok (.aload_n 2, 1) := by decide +kernel
theorem dX8_judge_90 : decode cX8_judge 90 = .ok (.getfield 272, 3) := by decide +kernel
theorem dX8_judge_93 : decode cX8_judge 93 = .ok (.goto 4, 3) := by decide +kernel
theorem dX8_judge_96 : decode cX8_judge 96 = .ok (.iconst (-1), 1) := by decide +kernel
theorem dX8_judge_97 : decode cX8_judge 97 = .ok (.ireturn, 1) := by decide +kernel
theorem dX8_image_0 : decode cX8_image 0 = .ok (.aload_n 0, 1) := by decide +kernel
theorem dX8_image_1 : decode cX8_image 1 = .ok (.getfield 16, 3) := by decide +kernel
theorem dX8_image_4 : decode cX8_image 4 = .ok (.aload_n 0, 1) := by decide +kernel
theorem dX8_image_5 : decode cX8_image 5 = .ok (.getfield 10, 3) := by decide +kernel
theorem dX8_image_8 : decode cX8_image 8 = .ok (.invokevirtual 296, 3) := by decide +kernel
theorem dX8_image_11 : decode cX8_image 11 = .ok (.aload_n 0, 1) := by decide +kernel
theorem dX8_image_12 : decode cX8_image 12 = .ok (.dup, 1) := by decide +kernel
theorem dX8_image_13 : decode cX8_image 13 = .ok (.getfield 299, 3) := by decide +kernel
theorem dX8_image_16 : decode cX8_image 16 = .ok (.iconst 1, 1) := by decide +kernel
theorem dX8_image_17 : decode cX8_image 17 = .ok (.iadd, 1) := by decide +kernel
theorem dX8_image_18 : decode cX8_image 18 = .ok (.putfield 299, 3) := by decide +kernel
theorem dX8_image_21 : decode cX8_image 21 = .ok (.aload_n 0, 1) := by decide +kernel
theorem dX8_image_22 : decode cX8_image 22 = .ok (.getfield 299, 3) := by decide +kernel
theorem dX8_image_25 : decode cX8_image 25 = .ok (.ireturn, 1) := by decide +kernel
theorem dX8_restore_0 : decode cX8_restore 0 = .ok (.aload_n 0, 1) := by decide +kernel
theorem dX8_restore_1 : decode cX8_restore 1 = .ok (.getfield 299, 3) := by decide +kernel
theorem dX8_restore_4 : decode cX8_restore 4 = .ok (.ifCond .ne 9, 3) := by decide +kernel
theorem dX8_restore_7 : decode cX8_restore 7 = .ok (.aload_n 0, 1) := by decide +kernel
theorem dX8_restore_8 : decode cX8_restore 8 = .ok (.iconst 2, 1) := by decide +kernel
theorem dX8_restore_9 : decode cX8_restore 9 = .ok (.invokevirtual 63, 3) := by decide +kernel
theorem dX8_restore_12 : decode cX8_restore 12 = .ok (.ireturn, 1) := by decide +kernel
theorem dX8_restore_13 : decode cX8_restore 13 = .ok (.aload_n 0, 1) := by decide +kernel
theorem dX8_restore_14 : decode cX8_restore 14 = .ok (.getfield 10, 3) := by decide +kernel
theorem dX8_restore_17 : decode cX8_restore 17 = .ok (.aload_n 0, 1) := by decide +kernel
theorem dX8_restore_18 : decode cX8_restore 18 = .ok (.getfield 16, 3) := by decide +kernel
theorem dX8_restore_21 : decode cX8_restore 21 = .ok (.invokevirtual 296, 3) := by decide +kernel
theorem dX8_restore_24 : decode cX8_restore 24 = .ok (.aload_n 0, 1) := by decide +kernel
theorem dX8_restore_25 : decode cX8_restore 25 = .ok (.getfield 10, 3) := by decide +kernel
theorem dX8_restore_28 : decode cX8_restore 28 = .ok (.getfield 161, 3) := by decide +kernel
theorem dX8_restore_31 : decode cX8_restore 31 = .ok (.ireturn, 1) := by decide +kernel
theorem dX8_tell_0 : decode cX8_tell 0 = .ok (.aload_n 0, 1) := by decide +kernel
theorem dX8_tell_1 : decode cX8_tell 1 = .ok (.getfield 10, 3) := by decide +kernel
theorem dX8_tell_4 : decode cX8_tell 4 = .ok (.getfield 302, 3) := by decide +kernel
theorem dX8_tell_7 : decode cX8_tell 7 = .ok (.bipush 20, 2) := by decide +kernel
theorem dX8_tell_9 : decode cX8_tell 9 = .ok (.if_icmp .lt 9, 3) := by decide +kernel
theorem dX8_tell_12 : decode cX8_tell 12 = .ok (.aload_n 0, 1) := by decide +kernel
theorem dX8_tell_13 : decode cX8_tell 13 = .ok (.iconst 4, 1) := by decide +kernel
theorem dX8_tell_14 : decode cX8_tell 14 = .ok (.invokevirtual 63, 3) := by decide +kernel
theorem dX8_tell_17 : decode cX8_tell 17 = .ok (.ireturn, 1) := by decide +kernel
theorem dX8_tell_18 : decode cX8_tell 18 = .ok (.aload_n 0, 1) := by decide +kernel
theorem dX8_tell_19 : decode cX8_tell 19 = .ok (.getfield 10, 3) := by decide +kernel
theorem dX8_tell_22 : decode cX8_tell 22 = .ok (.iload_n 1, 1) := by decide +kernel
theorem dX8_tell_23 : decode cX8_tell 23 = .ok (.invokevirtual 305, 3) := by decide +kernel
theorem dX8_tell_26 : decode cX8_tell 26 = .ok (.aload_n 0, 1) := by decide +kernel
theorem dX8_tell_27 : decode cX8_tell 27 = .ok (.getfield 10, 3) := by decide +kernel
theorem dX8_tell_30 : decode cX8_tell 30 = .ok (.getfield 302, 3) := by decide +kernel
theorem dX8_tell_33 : decode cX8_tell 33 = .ok (.ireturn, 1) := by decide +kernel
theorem dX8_check_0 : decode cX8_check 0 = .ok (.aload_n 0, 1) := by decide +kernel
theorem dX8_check_1 : decode cX8_check 1 = .ok (.getfield 10, 3) := by decide +kernel
theorem dX8_check_4 : decode cX8_check 4 = .ok (.getfield 302, 3) := by decide +kernel
theorem dX8_check_7 : decode cX8_check 7 = .ok (.istore_n 1, 1) := by decide +kernel
theorem dX8_check_8 : decode cX8_check 8 = .ok (.aload_n 0, 1) := by decide +kernel
theorem dX8_check_9 : decode cX8_check 9 = .ok (.getfield 10, 3) := by decide +kernel
theorem dX8_check_12 : decode cX8_check 12 = .ok (.iconst 0, 1) := by decide +kernel
theorem dX8_check_13 : decode cX8_check 13 = .ok (.putfield 302, 3) := by decide +kernel
theorem dX8_check_16 : decode cX8_check 16 = .ok (.iconst 0, 1) := by decide +kernel
theorem dX8_check_17 : decode cX8_check 17 = .ok (.istore_n 2, 1) := by decide +kernel
theorem dX8_check_18 : decode cX8_check 18 = .ok (.iload_n 2, 1) := by decide +kernel
theorem dX8_check_19 : decode cX8_check 19 = .ok (.iload_n 1, 1) := by decide +kernel
theorem dX8_check_20 : decode cX8_check 20 = .ok (.if_icmp .ge 50, 3) := by decide +kernel
theorem dX8_check_23 : decode cX8_check 23 = .ok (.iload_n 2, 1) := by decide +kernel
theorem dX8_check_24 : decode cX8_check 24 = .ok (.bipush 20, 2) := by decide +kernel
theorem dX8_check_26 : decode cX8_check 26 = .ok (.if_icmp .ge 44, 3) := by decide +kernel
theorem dX8_check_29 : decode cX8_check 29 = .ok (.aload_n 0, 1) := by decide +kernel
theorem dX8_check_30 : decode cX8_check 30 = .ok (.getfield 10, 3) := by decide +kernel
theorem dX8_check_33 : decode cX8_check 33 = .ok (.getfield 308, 3) := by decide +kernel
theorem dX8_check_36 : decode cX8_check 36 = .ok (.iload_n 2, 1) := by decide +kernel
theorem dX8_check_37 : decode cX8_check 37 = .ok (.iaload, 1) := by decide +kernel
theorem dX8_check_38 : decode cX8_check 38 = .ok (.aload_n 0, 1) := by decide +kernel
theorem dX8_check_39 : decode cX8_check 39 = .ok (.getfield 10, 3) := by decide +kernel
theorem dX8_check_42 : decode cX8_check 42 = .ok (.getfield 311, 3) := by decide +kernel
theorem dX8_check_45 : decode cX8_check 45 = .ok (.aload_n 0, 1) := by decide +kernel
theorem dX8_check_46 : decode cX8_check 46 = .ok (.getfield 10, 3) := by decide +kernel
theorem dX8_check_49 : decode cX8_check 49 = .ok (.getfield 161, 3) := by decide +kernel
theorem dX8_check_52 : decode cX8_check 52 = .ok (.iload_n 2, 1) := by decide +kernel
theorem dX8_check_53 : decode cX8_check 53 = .ok (.iadd, 1) := by decide +kernel
theorem dX8_check_54 : decode cX8_check 54 = .ok (.invokevirtual 75, 3) := by decide +kernel
theorem dX8_check_57 : decode cX8_check 57 = .ok (.if_icmp .eq 7, 3) := by decide +kernel
theorem dX8_check_60 : decode cX8_check 60 = .ok (.iconst 1, 1) := by decide +kernel
theorem dX8_check_61 : decode cX8_check 61 = .ok (.iload_n 2, 1) := by decide +kernel
theorem dX8_check_62 : decode cX8_check 62 = .ok (.iadd, 1) := by decide +kernel
theorem dX8_check_63 : decode cX8_check 63 = .ok (.ireturn, 1) := by decide +kernel
theorem dX8_check_64 : decode cX8_check 64 = .ok (.iinc 2 1, 3) := by decide +kernel
theorem dX8_check_67 : decode cX8_check 67 = .ok (.goto (-49), 3) := by decide +kernel
theorem dX8_check_70 : decode cX8_check 70 = .ok (.iconst 0, 1) := by decide +kernel
theorem dX8_check_71 : decode cX8_check 71 = .ok (.ireturn, 1) := by decide +kernel
theorem dX8_count_0 : decode cX8_count 0 = .ok (.iload_n 1, 1) := by decide +kernel
theorem dX8_count_1 : decode cX8_count 1 = .ok (.tableswitch 159 0 11 #[63, 71, 79, 87, 95, 103, 111, 119, 127, 135, 143, 151], 63) := by decide +kernel
theorem dX8_count_64 : decode cX8_count 64 = .ok (.aload_n 0, 1) := by decide +kernel
theorem dX8_count_65 : decode cX8_count 65 = .ok (.getfield 10, 3) := by decide +kernel
theorem dX8_count_68 : decode cX8_count 68 = .ok (.getfield 92, 3) := by decide +kernel
theorem dX8_count_71 : decode cX8_count 71 = .ok (.ireturn, 1) := by decide +kernel
theorem dX8_count_72 : decode cX8_count 72 = .ok (.aload_n 0, 1) := by decide +kernel
theorem dX8_count_73 : decode cX8_count 73 = .ok (.getfield 10, 3) := by decide +kernel
theorem dX8_count_76 : decode cX8_count 76 = .ok (.getfield 161, 3) := by decide +kernel
theorem dX8_count_79 : decode cX8_count 79 = .ok (.ireturn, 1) := by decide +kernel
theorem dX8_count_80 : decode cX8_count 80 = .ok (.aload_n 0, 1) := by decide +kernel
theorem dX8_count_81 : decode cX8_count 81 = .ok (.getfield 10, 3) := by decide +kernel
theorem dX8_count_84 : decode cX8_count 84 = .ok (.getfield 171, 3) := by decide +kernel
theorem dX8_count_87 : decode cX8_count 87 = .ok (.ireturn, 1) := by decide +kernel
theorem dX8_count_88 : decode cX8_count 88 = .ok (.aload_n 0, 1) := by decide +kernel
theorem dX8_count_89 : decode cX8_count 89 = .ok (.getfield 10, 3) := by decide +kernel
theorem dX8_count_92 : decode cX8_count 92 = .ok (.getfield 315, 3) := by decide +kernel
theorem dX8_count_95 : decode cX8_count 95 = .ok (.ireturn, 1) := by decide +kernel
theorem dX8_count_96 : decode cX8_count 96 = .ok (.aload_n 0, 1) := by decide +kernel
theorem dX8_count_97 : decode cX8_count 97 = .ok (.getfield 10, 3) := by decide +kernel
theorem dX8_count_100 : decode cX8_count 100 = .ok (.getfield 318, 3) := by decide +kernel
theorem dX8_count_103 : decode cX8_count 103 = .ok (.ireturn, 1) := by decide +kernel
theorem dX8_count_104 : decode cX8_count 104 = .ok (.aload_n 0, 1) := by decide +kernel
theorem dX8_count_105 : decode cX8_count 105 = .ok (.getfield 10, 3) := by decide +kernel
theorem dX8_count_108 : decode cX8_count 108 = .ok (.getfield 78, 3) := by decide +kernel
theorem dX8_count_111 : decode cX8_count 111 = .ok (.ireturn, 1) := by decide +kernel
theorem dX8_count_112 : decode cX8_count 112 = .ok (.aload_n 0, 1) := by decide +kernel
theorem dX8_count_113 : decode cX8_count 113 = .ok (.getfield 10, 3) := by decide +kernel
theorem dX8_count_116 : decode cX8_count 116 = .ok (.getfield 82, 3) := by decide +kernel
theorem dX8_count_119 : decode cX8_count 119 = .ok (.ireturn, 1) := by decide +kernel
theorem dX8_count_120 : decode cX8_count 120 = .ok (.aload_n 0, 1) := by decide +kernel
theorem dX8_count_121 : decode cX8_count 121 = .ok (.getfield 10, 3) := by decide +kernel
theorem dX8_count_124 : decode cX8_count 124 = .ok (.getfield 85, 3) := by decide +kernel
theorem dX8_count_127 : decode cX8_count 127 = .ok (.ireturn, 1) := by decide +kernel
theorem dX8_count_128 : decode cX8_count 128 = .ok (.aload_n 0, 1) := by decide +kernel
theorem dX8_count_129 : decode cX8_count 129 = .ok (.getfield 10, 3) := by decide +kernel
theorem dX8_count_132 : decode cX8_count 132 = .ok (.getfield 133, 3) := by decide +kernel
theorem dX8_count_135 : decode cX8_count 135 = .ok (.ireturn, 1) := by decide +kernel
theorem dX8_count_136 : decode cX8_count 136 = .ok (.aload_n 0, 1) := by decide +kernel
theorem dX8_count_137 : decode cX8_count 137 = .ok (.getfield 10, 3) := by decide +kernel
theorem dX8_count_140 : decode cX8_count 140 = .ok (.getfield 302, 3) := by decide +kernel
theorem dX8_count_143 : decode cX8_count 143 = .ok (.ireturn, 1) := by decide +kernel
theorem dX8_count_144 : decode cX8_count 144 = .ok (.aload_n 0, 1) := by decide +kernel
theorem dX8_count_145 : decode cX8_count 145 = .ok (.getfield 38, 3) := by decide +kernel
theorem dX8_count_148 : decode cX8_count 148 = .ok (.getfield 264, 3) := by decide +kernel
theorem dX8_count_151 : decode cX8_count 151 = .ok (.ireturn, 1) := by decide +kernel
theorem dX8_count_152 : decode cX8_count 152 = .ok (.aload_n 0, 1) := by decide +kernel
theorem dX8_count_153 : decode cX8_count 153 = .ok (.getfield 10, 3) := by decide +kernel
theorem dX8_count_156 : decode cX8_count 156 = .ok (.getfield 257, 3) := by decide +kernel
theorem dX8_count_159 : decode cX8_count 159 = .ok (.ireturn, 1) := by decide +kernel
theorem dX8_count_160 : decode cX8_count 160 = .ok (.aload_n 0, 1) := by decide +kernel
theorem dX8_count_161 : decode cX8_count 161 = .ok (.iconst 1, 1) := by decide +kernel
theorem dX8_count_162 : decode cX8_count 162 = .ok (.invokevirtual 63, 3) := by decide +kernel
theorem dX8_count_165 : decode cX8_count 165 = .ok (.ireturn, 1) := by decide +kernel
theorem dX8_told_0 : decode cX8_told 0 = .ok (.iload_n 1, 1) := by decide +kernel
theorem dX8_told_1 : decode cX8_told 1 = .ok (.iconst 1, 1) := by decide +kernel
theorem dX8_told_2 : decode cX8_told 2 = .ok (.iconst 5, 1) := by decide +kernel
theorem dX8_told_3 : decode cX8_told 3 = .ok (.invokestatic 71, 3) := by decide +kernel
theorem dX8_told_6 : decode cX8_told 6 = .ok (.ifCond .ne 9, 3) := by decide +kernel
theorem dX8_told_9 : decode cX8_told 9 = .ok (.aload_n 0, 1) := by decide +kernel
theorem dX8_told_10 : decode cX8_told 10 = .ok (.iconst 1, 1) := by decide +kernel
theorem dX8_told_11 : decode cX8_told 11 = .ok (.invokevirtual 63, 3) := by decide +kernel
theorem dX8_told_14 : decode cX8_told 14 = .ok (.ireturn, 1) := by decide +kernel
theorem dX8_told_15 : decode cX8_told 15 = .ok (.aload_n 0, 1) := by decide +kernel
theorem dX8_told_16 : decode cX8_told 16 = .ok (.getfield 48, 3) := by decide +kernel
theorem dX8_told_19 : decode cX8_told 19 = .ok (.iload_n 1, 1) := by decide +kernel
theorem dX8_told_20 : decode cX8_told 20 = .ok (.iaload, 1) := by decide +kernel
theorem dX8_told_21 : decode cX8_told 21 = .ok (.ireturn, 1) := by decide +kernel
theorem dX8_error_0 : decode cX8_error 0 = .ok (.iload_n 1, 1) := by decide +kernel
theorem dX8_error_1 : decode cX8_error 1 = .ok (.iconst 1, 1) := by decide +kernel
theorem dX8_error_2 : decode cX8_error 2 = .ok (.iconst 5, 1) := by decide +kernel
theorem dX8_error_3 : decode cX8_error 3 = .ok (.invokestatic 71, 3) := by decide +kernel
theorem dX8_error_6 : decode cX8_error 6 = .ok (.ifCond .eq 13, 3) := by decide +kernel
theorem dX8_error_9 : decode cX8_error 9 = .ok (.aload_n 0, 1) := by decide +kernel
theorem dX8_error_10 : decode cX8_error 10 = .ok (.getfield 48, 3) := by decide +kernel
theorem dX8_error_13 : decode cX8_error 13 = .ok (.iload_n 1, 1) := by decide +kernel
theorem dX8_error_14 : decode cX8_error 14 = .ok (.dup2, 1) := by decide +kernel
theorem dX8_error_15 : decode cX8_error 15 = .ok (.iaload, 1) := by decide +kernel
theorem dX8_error_16 : decode cX8_error 16 = .ok (.iconst 1, 1) := by decide +kernel
theorem dX8_error_17 : decode cX8_error 17 = .ok (.iadd, 1) := by decide +kernel
theorem dX8_error_18 : decode cX8_error 18 = .ok (.iastore, 1) := by decide +kernel
theorem dX8_error_19 : decode cX8_error 19 = .ok (.ldc_w 321, 3) := by decide +kernel
theorem dX8_error_22 : decode cX8_error 22 = .ok (.iload_n 1, 1) := by decide +kernel
theorem dX8_error_23 : decode cX8_error 23 = .ok (.isub, 1) := by decide +kernel
theorem dX8_error_24 : decode cX8_error 24 = .ok (.ireturn, 1) := by decide +kernel
theorem dX8_orNone_0 : decode cX8_orNone 0 = .ok (.iload_n 1, 1) := by decide +kernel
theorem dX8_orNone_1 : decode cX8_orNone 1 = .ok (.ifCond .ge 11, 3) := by decide +kernel
theorem dX8_orNone_4 : decode cX8_orNone 4 = .ok (.aload_n 0, 1) := by decide +kernel
theorem dX8_orNone_5 : decode cX8_orNone 5 = .ok (.iconst 2, 1) := by decide +kernel
theorem dX8_orNone_6 : decode cX8_orNone 6 = .ok (.invokevirtual 63, 3) := by decide +kernel
theorem dX8_orNone_9 : decode cX8_orNone 9 = .ok (.goto 4, 3) := by decide +kernel
theorem dX8_orNone_12 : decode cX8_orNone 12 = .ok (.iload_n 1, 1) := by decide +kernel
theorem dX8_orNone_13 : decode cX8_orNone 13 = .ok (.ireturn, 1) := by decide +kernel
theorem dX8_sheetOf_0 : decode cX8_sheetOf 0 = .ok (.iload_n 1, 1) := by decide +kernel
theorem dX8_sheetOf_1 : decode cX8_sheetOf 1 = .ok (.iconst 0, 1) := by decide +kernel
theorem dX8_sheetOf_2 : decode cX8_sheetOf 2 = .ok (.iconst 3, 1) := by decide +kernel
theorem dX8_sheetOf_3 : decode cX8_sheetOf 3 = .ok (.invokestatic 71, 3) := by decide +kernel
theorem dX8_sheetOf_6 : decode cX8_sheetOf 6 = .ok (.ifCond .eq 12, 3) := by decide +kernel
theorem dX8_sheetOf_9 : decode cX8_sheetOf 9 = .ok (.aload_n 0, 1) := by decide +kernel
theorem dX8_sheetOf_10 : decode cX8_sheetOf 10 = .ok (.getfield 44, 3) := by decide +kernel
theorem dX8_sheetOf_13 : decode cX8_sheetOf 13 = .ok (.iload_n 1, 1) := by decide +kernel
theorem dX8_sheetOf_14 : decode cX8_sheetOf 14 = .ok (.aaload, 1) := by decide +kernel
theorem dX8_sheetOf_15 : decode cX8_sheetOf 15 = .ok (.goto 4, 3) := by decide +kernel
theorem dX8_sheetOf_18 : decode cX8_sheetOf 18 = .ok (.aconst_null, 1) := by decide +kernel
theorem dX8_sheetOf_19 : decode cX8_sheetOf 19 = .ok (.areturn, 1) := by decide +kernel
theorem dX8_goToldAt_0 : decode cX8_goToldAt 0 = .ok (.aload_n 0, 1) := by decide +kernel
theorem dX8_goToldAt_1 : decode cX8_goToldAt 1 = .ok (.getfield 24, 3) := by decide +kernel
theorem dX8_goToldAt_4 : decode cX8_goToldAt 4 = .ok (.aload_n 1, 1) := by decide +kernel
theorem dX8_goToldAt_5 : decode cX8_goToldAt 5 = .ok (.invokevirtual 174, 3) := by decide +kernel
theorem dX8_goToldAt_8 : decode cX8_goToldAt 8 = .ok (.aload_n 0, 1) := by decide +kernel
theorem dX8_goToldAt_9 : decode cX8_goToldAt 9 = .ok (.getfield 24, 3) := by decide +kernel
theorem dX8_goToldAt_12 : decode cX8_goToldAt 12 = .ok (.iload_n 2, 1) := by decide +kernel
theorem dX8_goToldAt_13 : decode cX8_goToldAt 13 = .ok (.invokevirtual 178, 3) := by decide +kernel
theorem dX8_goToldAt_16 : decode cX8_goToldAt 16 = .ok (.istore_n 3, 1) := by decide +kernel
theorem dX8_goToldAt_17 : decode cX8_goToldAt 17 = .ok (.aload_n 1, 1) := by decide +kernel
theorem dX8_goToldAt_18 : decode cX8_goToldAt 18 = .ok (.aload_n 0, 1) := by decide +kernel
theorem dX8_goToldAt_19 : decode cX8_goToldAt 19 = .ok (.getfield 24, 3) := by decide +kernel
theorem dX8_goToldAt_22 : decode cX8_goToldAt 22 = .ok (.getfield 187, 3) := by decide +kernel
theorem dX8_goToldAt_25 : decode cX8_goToldAt 25 = .ok (.aload_n 0, 1) := by decide +kernel
theorem dX8_goToldAt_26 : decode cX8_goToldAt 26 = .ok (.getfield 10, 3) := by decide +kernel
theorem dX8_goToldAt_29 : decode cX8_goToldAt 29 = .ok (.getfield 85, 3) := by decide +kernel
theorem dX8_goToldAt_32 : decode cX8_goToldAt 32 = .ok (.isub, 1) := by decide +kernel
theorem dX8_goToldAt_33 : decode cX8_goToldAt 33 = .ok (.invokestatic 190, 3) := by decide +kernel
theorem dX8_goToldAt_36 : decode cX8_goToldAt 36 = .ok (.invokevirtual 124, 3) := by decide +kernel
theorem dX8_goToldAt_39 : decode cX8_goToldAt 39 = .ok (.istore 4, 2) := by decide +kernel
theorem dX8_goToldAt_41 : decode cX8_goToldAt 41 = .ok (.aload_n 1, 1) := by decide +kernel
theorem dX8_goToldAt_42 : decode cX8_goToldAt 42 = .ok (.bipush 99, 2) := by decide +kernel
theorem dX8_goToldAt_44 : decode cX8_goToldAt 44 = .ok (.aload_n 1, 1) := by decide +kernel
theorem dX8_goToldAt_45 : decode cX8_goToldAt 45 = .ok (.getfield 114, 3) := by decide +kernel
theorem dX8_goToldAt_48 : decode cX8_goToldAt 48 = .ok (.iconst 1, 1) := by decide +kernel
theorem dX8_goToldAt_49 : decode cX8_goToldAt 49 = .ok (.iadd, 1) := by decide +kernel
theorem dX8_goToldAt_50 : decode cX8_goToldAt 50 = .ok (.invokestatic 322, 3) := by decide +kernel
theorem dX8_goToldAt_53 : decode cX8_goToldAt 53 = .ok (.putfield 114, 3) := by decide +kernel
theorem dX8_goToldAt_56 : decode cX8_goToldAt 56 = .ok (.iload_n 3, 1) := by decide +kernel
theorem dX8_goToldAt_57 : decode cX8_goToldAt 57 = .ok (.ifCond .eq 27, 3) := by decide +kernel
theorem dX8_goToldAt_60 : decode cX8_goToldAt 60 = .ok (.aload_n 0, 1) := by decide +kernel
theorem dX8_goToldAt_61 : decode cX8_goToldAt 61 = .ok (.getfield 10, 3) := by decide +kernel
theorem dX8_goToldAt_64 : decode cX8_goToldAt 64 = .ok (.sipush 9999, 3) := by decide +kernel
theorem dX8_goToldAt_67 : decode cX8_goToldAt 67 = .ok (.aload_n 0, 1) := by decide +kernel
theorem dX8_goToldAt_68 : decode cX8_goToldAt 68 = .ok (.getfield 10, 3) := by decide +kernel
theorem dX8_goToldAt_71 : decode cX8_goToldAt 71 = .ok (.getfield 171, 3) := by decide +kernel
theorem dX8_goToldAt_74 : decode cX8_goToldAt 74 = .ok (.iconst 1, 1) := by decide +kernel
theorem dX8_goToldAt_75 : decode cX8_goToldAt 75 = .ok (.iadd, 1) := by decide +kernel
theorem dX8_goToldAt_76 : decode cX8_goToldAt 76 = .ok (.invokestatic 322, 3) := by decide +kernel
theorem dX8_goToldAt_79 : decode cX8_goToldAt 79 = .ok (.putfield 171, 3) := by decide +kernel
theorem dX8_goToldAt_82 : decode cX8_goToldAt 82 = .ok (.iconst 0, 1) := by decide +kernel
theorem dX8_goToldAt_83 : decode cX8_goToldAt 83 = .ok (.ireturn, 1) := by decide +kernel
theorem dX8_goToldAt_84 : decode cX8_goToldAt 84 = .ok (.aload_n 0, 1) := by decide +kernel
theorem dX8_goToldAt_85 : decode cX8_goToldAt 85 = .ok (.getfield 10, 3) := by decide +kernel
theorem dX8_goToldAt_88 : decode cX8_goToldAt 88 = .ok (.sipush 9999, 3) := by decide +kernel
theorem dX8_goToldAt_91 : decode cX8_goToldAt 91 = .ok (.aload_n 0, 1) := by decide +kernel
theorem dX8_goToldAt_92 : decode cX8_goToldAt 92 = .ok (.getfield 10, 3) := by decide +kernel
theorem dX8_goToldAt_95 : decode cX8_goToldAt 95 = .ok (.getfield 315, 3) := by decide +kernel
theorem dX8_goToldAt_98 : decode cX8_goToldAt 98 = .ok (.iconst 1, 1) := by decide +kernel
theorem dX8_goToldAt_99 : decode cX8_goToldAt 99 = .ok (.iadd, 1) := by decide +kernel
theorem dX8_goToldAt_100 : decode cX8_goToldAt 100 = .ok (.invokestatic 322, 3) := by decide +kernel
theorem dX8_goToldAt_103 : decode cX8_goToldAt 103 = .ok (.putfield 315, 3) := by decide +kernel
theorem dX8_goToldAt_106 : decode cX8_goToldAt 106 = .ok (.aload_n 0, 1) := by decide +kernel
theorem dX8_goToldAt_107 : decode cX8_goToldAt 107 = .ok (.getfield 10, 3) := by decide +kernel
theorem dX8_goToldAt_110 : decode cX8_goToldAt 110 = .ok (.ldc_w 325, 3) := by decide +kernel
theorem dX8_goToldAt_113 : decode cX8_goToldAt 113 = .ok (.aload_n 0, 1) := by decide +kernel
theorem dX8_goToldAt_114 : decode cX8_goToldAt 114 = .ok (.getfield 10, 3) := by decide +kernel
theorem dX8_goToldAt_117 : decode cX8_goToldAt 117 = .ok (.getfield 318, 3) := by decide +kernel
theorem dX8_goToldAt_120 : decode cX8_goToldAt 120 = .ok (.iload 4, 2) := by decide +kernel
theorem dX8_goToldAt_122 : decode cX8_goToldAt 122 = .ok (.iadd, 1) := by decide +kernel
theorem dX8_goToldAt_123 : decode cX8_goToldAt 123 = .ok (.invokestatic 322, 3) := by decide +kernel
theorem dX8_goToldAt_126 : decode cX8_goToldAt 126 = .ok (.putfield 318, 3) := by decide +kernel
theorem dX8_goToldAt_129 : decode cX8_goToldAt 129 = .ok (.iconst 1, 1) := by decide +kernel
theorem dX8_goToldAt_130 : decode cX8_goToldAt 130 = .ok (.iload 4, 2) := by decide +kernel
theorem dX8_goToldAt_132 : decode cX8_goToldAt 132 = .ok (.iadd, 1) := by decide +kernel
theorem dX8_goToldAt_133 : decode cX8_goToldAt 133 = .ok (.ireturn, 1) := by decide +kernel
theorem dX8_oneEvening_0 : decode cX8_oneEvening 0 = .ok (.iconst 0, 1) := by decide +kernel
theorem dX8_oneEvening_1 : decode cX8_oneEvening 1 = .ok (.istore_n 1, 1) := by decide +kernel
theorem dX8_oneEvening_2 : decode cX8_oneEvening 2 = .ok (.iload_n 1, 1) := by decide +kernel
theorem dX8_oneEvening_3 : decode cX8_oneEvening 3 = .ok (.aload_n 0, 1) := by decide +kernel
theorem dX8_oneEvening_4 : decode cX8_oneEvening 4 = .ok (.getfield 10, 3) := by decide +kernel
theorem dX8_oneEvening_7 : decode cX8_oneEvening 7 = .ok (.getfield 92, 3) := by decide +kernel
theorem dX8_oneEvening_10 : decode cX8_oneEvening 10 = .ok (.if_icmp .ge 48, 3) := by decide +kernel
theorem dX8_oneEvening_13 : decode cX8_oneEvening 13 = .ok (.aload_n 0, 1) := by decide +kernel
theorem dX8_oneEvening_14 : decode cX8_oneEvening 14 = .ok (.getfield 10, 3) := by decide +kernel
theorem dX8_oneEvening_17 : decode cX8_oneEvening 17 = .ok (.invokevirtual 326, 3) := by decide +kernel
theorem dX8_oneEvening_20 : decode cX8_oneEvening 20 = .ok (.bipush 12, 2) := by decide +kernel
theorem dX8_oneEvening_22 : decode cX8_oneEvening 22 = .ok (.irem, 1) := by decide +kernel
theorem dX8_oneEvening_23 : decode cX8_oneEvening 23 = .ok (.istore_n 2, 1) := by decide +kernel
theorem dX8_oneEvening_24 : decode cX8_oneEvening 24 = .ok (.aload_n 0, 1) := by decide +kernel
theorem dX8_oneEvening_25 : decode cX8_oneEvening 25 = .ok (.getfield 10, 3) := by decide +kernel
theorem dX8_oneEvening_28 : decode cX8_oneEvening 28 = .ok (.iload_n 1, 1) := by decide +kernel
theorem dX8_oneEvening_29 : decode cX8_oneEvening 29 = .ok (.invokevirtual 95, 3) := by decide +kernel
theorem dX8_oneEvening_32 : decode cX8_oneEvening 32 = .ok (.astore_n 3, 1) := by decide +kernel
theorem dX8_oneEvening_33 : decode cX8_oneEvening 33 = .ok (.aload_n 3, 1) := by decide +kernel
theorem dX8_oneEvening_34 : decode cX8_oneEvening 34 = .ok (.ifnull 18, 3) := by decide +kernel
theorem dX8_oneEvening_37 : decode cX8_oneEvening 37 = .ok (.aload_n 0, 1) := by decide +kernel
theorem dX8_oneEvening_38 : decode cX8_oneEvening 38 = .ok (.aload_n 3, 1) := by decide +kernel
theorem dX8_oneEvening_39 : decode cX8_oneEvening 39 = .ok (.aload_n 0, 1) := by decide +kernel
theorem dX8_oneEvening_40 : decode cX8_oneEvening 40 = .ok (.getfield 10, 3) := by decide +kernel
theorem dX8_oneEvening_43 : decode cX8_oneEvening 43 = .ok (.getfield 161, 3) := by decide +kernel
theorem dX8_oneEvening_46 : decode cX8_oneEvening 46 = .ok (.iload_n 2, 1) := by decide +kernel
theorem dX8_oneEvening_47 : decode cX8_oneEvening 47 = .ok (.iadd, 1) := by decide +kernel
theorem dX8_oneEvening_48 : decode cX8_oneEvening 48 = .ok (.invokevirtual 164, 3) := by decide +kernel
theorem dX8_oneEvening_51 : decode cX8_oneEvening 51 = .ok (.pop, 1) := by decide +kernel
theorem dX8_oneEvening_52 : decode cX8_oneEvening 52 = .ok (.iinc 1 1, 3) := by decide +kernel
theorem dX8_oneEvening_55 : decode cX8_oneEvening 55 = .ok (.goto (-53), 3) := by decide +kernel
theorem dX8_oneEvening_58 : decode cX8_oneEvening 58 = .ok (.aload_n 0, 1) := by decide +kernel
theorem dX8_oneEvening_59 : decode cX8_oneEvening 59 = .ok (.getfield 10, 3) := by decide +kernel
theorem dX8_oneEvening_62 : decode cX8_oneEvening 62 = .ok (.dup, 1) := by decide +kernel
theorem dX8_oneEvening_63 : decode cX8_oneEvening 63 = .ok (.getfield 161, 3) := by decide +kernel
theorem dX8_oneEvening_66 : decode cX8_oneEvening 66 = .ok (.bipush 12, 2) := by decide +kernel
theorem dX8_oneEvening_68 : decode cX8_oneEvening 68 = .ok (.iadd, 1) := by decide +kernel
theorem dX8_oneEvening_69 : decode cX8_oneEvening 69 = .ok (.putfield 161, 3) := by decide +kernel
theorem dX8_oneEvening_72 : decode cX8_oneEvening 72 = .ok (.return_, 1) := by decide +kernel
theorem dX8_within_0 : decode cX8_within 0 = .ok (.iload_n 0, 1) := by decide +kernel
theorem dX8_within_1 : decode cX8_within 1 = .ok (.iload_n 1, 1) := by decide +kernel
theorem dX8_within_2 : decode cX8_within 2 = .ok (.if_icmp .lt 12, 3) := by decide +kernel
theorem dX8_within_5 : decode cX8_within 5 = .ok (.iload_n 0, 1) := by decide +kernel
theorem dX8_within_6 : decode cX8_within 6 = .ok (.iload_n 2, 1) := by decide +kernel
theorem dX8_within_7 : decode cX8_within 7 = .ok (.if_icmp .gt 7, 3) := by decide +kernel
theorem dX8_within_10 : decode cX8_within 10 = .ok (.iconst 1, 1) := by decide +kernel
theorem dX8_within_11 : decode cX8_within 11 = .ok (.goto 4, 3) := by decide +kernel
theorem dX8_within_14 : decode cX8_within 14 = .ok (.iconst 0, 1) := by decide +kernel
theorem dX8_within_15 : decode cX8_within 15 = .ok (.ireturn, 1) := by decide +kernel
theorem dX8_isSpan_0 : decode cX8_isSpan 0 = .ok (.iload_n 0, 1) := by decide +kernel
theorem dX8_isSpan_1 : decode cX8_isSpan 1 = .ok (.iconst 1, 1) := by decide +kernel
theorem dX8_isSpan_2 : decode cX8_isSpan 2 = .ok (.bipush 60, 2) := by decide +kernel
theorem dX8_isSpan_4 : decode cX8_isSpan 4 = .ok (.invokestatic 71, 3) := by decide +kernel
theorem dX8_isSpan_7 : decode cX8_isSpan 7 = .ok (.ireturn, 1) := by decide +kernel
theorem dX8_isKindAndNumber_0 : decode cX8_isKindAndNumber 0 = .ok (.iload_n 0, 1) := by decide +kernel
theorem dX8_isKindAndNumber_1 : decode cX8_isKindAndNumber 1 = .ok (.iconst 0, 1) := by decide +kernel
theorem dX8_isKindAndNumber_2 : decode cX8_isKindAndNumber 2 = .ok (.bipush 69, 2) := by decide +kernel
theorem dX8_isKindAndNumber_4 : decode cX8_isKindAndNumber 4 = .ok (.invokestatic 71, 3) := by decide +kernel
theorem dX8_isKindAndNumber_7 : decode cX8_isKindAndNumber 7 = .ok (.ireturn, 1) := by decide +kernel
theorem dX8_partOf_0 : decode cX8_partOf 0 = .ok (.iload_n 0, 1) := by decide +kernel
theorem dX8_partOf_1 : decode cX8_partOf 1 = .ok (.invokestatic 190, 3) := by decide +kernel
theorem dX8_partOf_4 : decode cX8_partOf 4 = .ok (.istore_n 3, 1) := by decide +kernel
theorem dX8_partOf_5 : decode cX8_partOf 5 = .ok (.iload_n 1, 1) := by decide +kernel
theorem dX8_partOf_6 : decode cX8_partOf 6 = .ok (.istore 4, 2) := by decide +kernel
theorem dX8_partOf_8 : decode cX8_partOf 8 = .ok (.iconst 0, 1) := by decide +kernel
theorem dX8_partOf_9 : decode cX8_partOf 9 = .ok (.istore 5, 2) := by decide +kernel
theorem dX8_partOf_11 : decode cX8_partOf 11 = .ok (.iload 5, 2) := by decide +kernel
theorem dX8_partOf_13 : decode cX8_partOf 13 = .ok (.iload_n 1, 1) := by decide +kernel
theorem dX8_partOf_14 : decode cX8_partOf 14 = .ok (.if_icmp .ge 27, 3) := by decide +kernel
theorem dX8_partOf_17 : decode cX8_partOf 17 = .ok (.iload 4, 2) := by decide +kernel
theorem dX8_partOf_19 : decode cX8_partOf 19 = .ok (.ifCond .eq 22, 3) := by decide +kernel
theorem dX8_partOf_22 : decode cX8_partOf 22 = .ok (.iload_n 3, 1) := by decide +kernel
theorem dX8_partOf_23 : decode cX8_partOf 23 = .ok (.iload 4, 2) := by decide +kernel
theorem dX8_partOf_25 : decode cX8_partOf 25 = .ok (.irem, 1) := by decide +kernel
theorem dX8_partOf_26 : decode cX8_partOf 26 = .ok (.istore 6, 2) := by decide +kernel
theorem dX8_partOf_28 : decode cX8_partOf 28 = .ok (.iload 4, 2) := by decide +kernel
theorem dX8_partOf_30 : decode cX8_partOf 30 = .ok (.istore_n 3, 1) := by decide +kernel
theorem dX8_partOf_31 : decode cX8_partOf 31 = .ok (.iload 6, 2) := by decide +kernel
theorem dX8_partOf_33 : decode cX8_partOf 33 = .ok (.istore 4, 2) := by decide +kernel
theorem dX8_partOf_35 : decode cX8_partOf 35 = .ok (.iinc 5 1, 3) := by decide +kernel
theorem dX8_partOf_38 : decode cX8_partOf 38 = .ok (.goto (-27), 3) := by decide +kernel
theorem dX8_partOf_41 : decode cX8_partOf 41 = .ok (.iconst 1, 1) := by decide +kernel
theorem dX8_partOf_42 : decode cX8_partOf 42 = .ok (.iload_n 3, 1) := by decide +kernel
theorem dX8_partOf_43 : decode cX8_partOf 43 = .ok (.invokestatic 226, 3) := by decide +kernel
theorem dX8_partOf_46 : decode cX8_partOf 46 = .ok (.istore 5, 2) := by decide +kernel
theorem dX8_partOf_48 : decode cX8_partOf 48 = .ok (.iload_n 2, 1) := by decide +kernel
theorem dX8_partOf_49 : decode cX8_partOf 49 = .ok (.ifCond .ne 10, 3) := by decide +kernel
theorem dX8_partOf_52 : decode cX8_partOf 52 = .ok (.iload_n 0, 1) := by decide +kernel
theorem dX8_partOf_53 : decode cX8_partOf 53 = .ok (.iload 5, 2) := by decide +kernel
theorem dX8_partOf_55 : decode cX8_partOf 55 = .ok (.idiv, 1) := by decide +kernel
theorem dX8_partOf_56 : decode cX8_partOf 56 = .ok (.goto 7, 3) := by decide +kernel
theorem dX8_partOf_59 : decode cX8_partOf 59 = .ok (.iload_n 1, 1) := by decide +kernel
theorem dX8_partOf_60 : decode cX8_partOf 60 = .ok (.iload 5, 2) := by decide +kernel
theorem dX8_partOf_62 : decode cX8_partOf 62 = .ok (.idiv, 1) := by decide +kernel
theorem dX8_partOf_63 : decode cX8_partOf 63 = .ok (.ireturn, 1) := by decide +kernel
theorem dX9_init_0 : decode cX9_init 0 = .ok (.aload_n 0, 1) := by decide +kernel
theorem dX9_init_1 : decode cX9_init 1 = .ok (.invokespecial 1, 3) := by decide +kernel
theorem dX9_init_4 : decode cX9_init 4 = .ok (.aload_n 0, 1) := by decide +kernel
theorem dX9_init_5 : decode cX9_init 5 = .ok (.sipush 264, 3) := by decide +kernel
theorem dX9_init_8 : decode cX9_init 8 = .ok (.newarray .int, 2) := by decide +kernel
theorem dX9_init_10 : decode cX9_init 10 = .ok (.putfield 7, 3) := by decide +kernel
theorem dX9_init_13 : decode cX9_init 13 = .ok (.aload_n 0, 1) := by decide +kernel
theorem dX9_init_14 : decode cX9_init 14 = .ok (.sipush 264, 3) := by decide +kernel
theorem dX9_init_17 : decode cX9_init 17 = .ok (.newarray .int, 2) := by decide +kernel
theorem dX9_init_19 : decode cX9_init 19 = .ok (.putfield 13, 3) := by decide +kernel
theorem dX9_init_22 : decode cX9_init 22 = .ok (.aload_n 0, 1) := by decide +kernel
theorem dX9_init_23 : decode cX9_init 23 = .ok (.bipush 6, 2) := by decide +kernel
theorem dX9_init_25 : decode cX9_init 25 = .ok (.newarray .int, 2) := by decide +kernel
theorem dX9_init_27 : decode cX9_init 27 = .ok (.putfield 16, 3) := by decide +kernel
theorem dX9_init_30 : decode cX9_init 30 = .ok (.aload_n 0, 1) := by decide +kernel
theorem dX9_init_31 : decode cX9_init 31 = .ok (.iconst 3, 1) := by decide +kernel
theorem dX9_init_32 : decode cX9_init 32 = .ok (.newarray .int, 2) := by decide +kernel
theorem dX9_init_34 : decode cX9_init 34 = .ok (.putfield 19, 3) := by decide +kernel
theorem dX9_init_37 : decode cX9_init 37 = .ok (.aload_n 0, 1) := by decide +kernel
theorem dX9_init_38 : decode cX9_init 38 = .ok (.iconst (-1), 1) := by decide +kernel
theorem dX9_init_39 : decode cX9_init 39 = .ok (.putfield 22, 3) := by decide +kernel
theorem dX9_init_42 : decode cX9_init 42 = .ok (.aload_n 0, 1) := by decide +kernel
theorem dX9_init_43 : decode cX9_init 43 = .ok (.bipush 60, 2) := by decide +kernel
theorem dX9_init_45 : decode cX9_init 45 = .ok (.newarray .int, 2) := by decide +kernel
theorem dX9_init_47 : decode cX9_init 47 = .ok (.putfield 26, 3) := by decide +kernel
theorem dX9_init_50 : decode cX9_init 50 = .ok (.aload_n 0, 1) := by decide +kernel
theorem dX9_init_51 : decode cX9_init 51 = .ok (.bipush 40, 2) := by decide +kernel
theorem dX9_init_53 : decode cX9_init 53 = .ok (.newarray .int, 2) := by decide +kernel
theorem dX9_init_55 : decode cX9_init 55 = .ok (.putfield 29, 3) := by decide +kernel
theorem dX9_init_58 : decode cX9_init 58 = .ok (.aload_n 0, 1) := by decide +kernel
theorem dX9_init_59 : decode cX9_init 59 = .ok (.iconst 4, 1) := by decide +kernel
theorem dX9_init_60 : decode cX9_init 60 = .ok (.newarray .int, 2) := by decide +kernel
theorem dX9_init_62 : decode cX9_init 62 = .ok (.putfield 32, 3) := by decide +kernel
theorem dX9_init_65 : decode cX9_init 65 = .ok (.aload_n 0, 1) := by decide +kernel
theorem dX9_init_66 : decode cX9_init 66 = .ok (.iconst 4, 1) := by decide +kernel
theorem dX9_init_67 : decode cX9_init 67 = .ok (.newarray .int, 2) := by decide +kernel
theorem dX9_init_69 : decode cX9_init 69 = .ok (.putfield 35, 3) := by decide +kernel
theorem dX9_init_72 : decode cX9_init 72 = .ok (.aload_n 0, 1) := by decide +kernel
theorem dX9_init_73 : decode cX9_init 73 = .ok (.sipush 160, 3) := by decide +kernel
theorem dX9_init_76 : decode cX9_init 76 = .ok (.newarray .int, 2) := by decide +kernel
theorem dX9_init_78 : decode cX9_init 78 = .ok (.putfield 38, 3) := by decide +kernel
theorem dX9_init_81 : decode cX9_init 81 = .ok (.aload_n 0, 1) := by decide +kernel
theorem dX9_init_82 : decode cX9_init 82 = .ok (.bipush 40, 2) := by decide +kernel
theorem dX9_init_84 : decode cX9_init 84 = .ok (.newarray .int, 2) := by decide +kernel
theorem dX9_init_86 : decode cX9_init 86 = .ok (.putfield 41, 3) := by decide +kernel
theorem dX9_init_89 : decode cX9_init 89 = .ok (.iconst 0, 1) := by decide +kernel
theorem dX9_init_90 : decode cX9_init 90 = .ok (.istore_n 1, 1) := by decide +kernel
theorem dX9_init_91 : decode cX9_init 91 = .ok (.iload_n 1, 1) := by decide +kernel
theorem dX9_init_92 : decode cX9_init 92 = .ok (.iconst 2, 1) := by decide +kernel
theorem dX9_init_93 : decode cX9_init 93 = .ok (.if_icmp .ge 37, 3) := by decide +kernel
theorem dX9_init_96 : decode cX9_init 96 = .ok (.aload_n 0, 1) := by decide +kernel
theorem dX9_init_97 : decode cX9_init 97 = .ok (.getfield 7, 3) := by decide +kernel
theorem dX9_init_100 : decode cX9_init 100 = .ok (.bipush 12, 2) := by decide +kernel
theorem dX9_init_102 : decode cX9_init 102 = .ok (.iconst 3, 1) := by decide +kernel
theorem dX9_init_103 : decode cX9_init 103 = .ok (.iload_n 1, 1) := by decide +kernel
theorem dX9_init_104 : decode cX9_init 104 = .ok (.imul, 1) := by decide +kernel
theorem dX9_init_105 : decode cX9_init 105 = .ok (.iadd, 1) := by decide +kernel
theorem dX9_init_106 : decode cX9_init 106 = .ok (.bipush 12, 2) := by decide +kernel
theorem dX9_init_108 : decode cX9_init 108 = .ok (.iastore, 1) := by decide +kernel
theorem dX9_init_109 : decode cX9_init 109 = .ok (.aload_n 0, 1) := by decide +kernel
theorem dX9_init_110 : decode cX9_init 110 = .ok (.getfield 7, 3) := by decide +kernel
theorem dX9_init_113 : decode cX9_init 113 = .ok (.bipush 12, 2) := by decide +kernel
theorem dX9_init_115 : decode cX9_init 115 = .ok (.iconst 3, 1) := by decide +kernel
theorem dX9_init_116 : decode cX9_init 116 = .ok (.iload_n 1, 1) := by decide +kernel
theorem dX9_init_117 : decode cX9_init 117 = .ok (.imul, 1) := by decide +kernel
theorem dX9_init_118 : decode cX9_init 118 = .ok (.iadd, 1) := by decide +kernel
theorem dX9_init_119 : decode cX9_init 119 = .ok (.iconst 1, 1) := by decide +kernel
theorem dX9_init_120 : decode cX9_init 120 = .ok (.iadd, 1) := by decide +kernel
theorem dX9_init_121 : decode cX9_init 121 = .ok (.bipush 20, 2) := by decide +kernel
theorem dX9_init_123 : decode cX9_init 123 = .ok (.iastore, 1) := by decide +kernel
theorem dX9_init_124 : decode cX9_init 124 = .ok (.iinc 1 1, 3) := by decide +kernel
theorem dX9_init_127 : decode cX9_init 127 = .ok (.goto (-36), 3) := by decide +kernel
theorem dX9_init_130 : decode cX9_init 130 = .ok (.aload_n 0, 1) := by decide +kernel
theorem dX9_init_131 : decode cX9_init 131 = .ok (.getfield 7, 3) := by decide +kernel
theorem dX9_init_134 : decode cX9_init 134 = .ok (.iconst 5, 1) := by decide +kernel
theorem dX9_init_135 : decode cX9_init 135 = .ok (.bipush 60, 2) := by decide +kernel
theorem dX9_init_137 : decode cX9_init 137 = .ok (.iastore, 1) := by decide +kernel
theorem dX9_init_138 : decode cX9_init 138 = .ok (.aload_n 0, 1) := by decide +kernel
theorem dX9_init_139 : decode cX9_init 139 = .ok (.getfield 7, 3) := by decide +kernel
theorem dX9_init_142 : decode cX9_init 142 = .ok (.bipush 6, 2) := by decide +kernel
theorem dX9_init_144 : decode cX9_init 144 = .ok (.iconst 5, 1) := by decide +kernel
theorem dX9_init_145 : decode cX9_init 145 = .ok (.iastore, 1) := by decide +kernel
theorem dX9_init_146 : decode cX9_init 146 = .ok (.aload_n 0, 1) := by decide +kernel
theorem dX9_init_147 : decode cX9_init 147 = .ok (.getfield 7, 3) := by decide +kernel
theorem dX9_init_150 : decode cX9_init 150 = .ok (.bipush 7, 2) := by decide +kernel
theorem dX9_init_152 : decode cX9_init 152 = .ok (.bipush 30, 2) := by decide +kernel
theorem dX9_init_154 : decode cX9_init 154 = .ok (.iastore, 1) := by decide +kernel
theorem dX9_init_155 : decode cX9_init 155 = .ok (.aload_n 0, 1) := by decide +kernel
theorem dX9_init_156 : decode cX9_init 156 = .ok (.getfield 7, 3) := by decide +kernel
theorem dX9_init_159 : decode cX9_init 159 = .ok (.bipush 8, 2) := by decide +kernel
theorem dX9_init_161 : decode cX9_init 161 = .ok (.iconst 1, 1) := by decide +kernel
theorem dX9_init_162 : decode cX9_init 162 = .ok (.iastore, 1) := by decide +kernel
theorem dX9_init_163 : decode cX9_init 163 = .ok (.return_, 1) := by decide +kernel
theorem dX9_finds_0 : decode cX9_finds 0 = .ok (.aload_n 0, 1) := by decide +kernel
theorem dX9_finds_1 : decode cX9_finds 1 = .ok (.getfield 16, 3) := by decide +kernel
theorem dX9_finds_4 : decode cX9_finds 4 = .ok (.iload_n 1, 1) := by decide +kernel
theorem dX9_finds_5 : decode cX9_finds 5 = .ok (.dup2, 1) := by decide +kernel
theorem dX9_finds_6 : decode cX9_finds 6 = .ok (.iaload, 1) := by decide +kernel
theorem dX9_finds_7 : decode cX9_finds 7 = .ok (.iconst 1, 1) := by decide +kernel
theorem dX9_finds_8 : decode cX9_finds 8 = .ok (.iadd, 1) := by decide +kernel
theorem dX9_finds_9 : decode cX9_finds 9 = .ok (.iastore, 1) := by decide +kernel
theorem dX9_finds_10 : decode cX9_finds 10 = .ok (.ldc 44, 2) := by decide +kernel
theorem dX9_finds_12 : decode cX9_finds 12 = .ok (.iload_n 1, 1) := by decide +kernel
theorem dX9_finds_13 : decode cX9_finds 13 = .ok (.isub, 1) := by decide +kernel
theorem dX9_finds_14 : decode cX9_finds 14 = .ok (.ireturn, 1) := by decide +kernel
theorem dX9_in_0 : decode cX9_in 0 = .ok (.lload_n 0, 1) := by decide +kernel
theorem dX9_in_1 : decode cX9_in 1 = .ok (.lload_n 2, 1) := by decide +kernel
theorem dX9_in_2 : decode cX9_in 2 = .ok (.lcmp, 1) := by decide +kernel
theorem dX9_in_3 : decode cX9_in 3 = .ok (.ifCond .lt 14, 3) := by decide +kernel
theorem dX9_in_6 : decode cX9_in 6 = .ok (.lload_n 0, 1) := by decide +kernel
theorem dX9_in_7 : decode cX9_in 7 = .ok (.lload 4, 2) := by decide +kernel
theorem dX9_in_9 : decode cX9_in 9 = .ok (.lcmp, 1) := by decide +kernel
theorem dX9_in_10 : decode cX9_in 10 = .ok (.ifCond .gt 7, 3) := by decide +kernel
theorem dX9_in_13 : decode cX9_in 13 = .ok (.iconst 1, 1) := by decide +kernel
theorem dX9_in_14 : decode cX9_in 14 = .ok (.goto 4, 3) := by decide +kernel
theorem dX9_in_17 : decode cX9_in 17 = .ok (.iconst 0, 1) := by decide +kernel
theorem dX9_in_18 : decode cX9_in 18 = .ok (.ireturn, 1) := by decide +kernel
theorem dX9_held_0 : decode cX9_held 0 = .ok (.iload_n 0, 1) := by decide +kernel
theorem dX9_held_1 : decode cX9_held 1 = .ok (.iload_n 1, 1) := by decide +kernel
theorem dX9_held_2 : decode cX9_held 2 = .ok (.if_icmp .ge 7, 3) := by decide +kernel
theorem dX9_held_5 : decode cX9_held 5 = .ok (.iload_n 1, 1) := by decide +kernel
theorem dX9_held_6 : decode cX9_held 6 = .ok (.goto 13, 3) := by decide +kernel
theorem dX9_held_9 : decode cX9_held 9 = .ok (.iload_n 0, 1) := by decide +kernel
theorem dX9_held_10 : decode cX9_held 10 = .ok (.iload_n 2, 1) := by decide +kernel
theorem dX9_held_11 : decode cX9_held 11 = .ok (.if_icmp .le 7, 3) := by decide +kernel
theorem dX9_held_14 : decode cX9_held 14 = .ok (.iload_n 2, 1) := by decide +kernel
theorem dX9_held_15 : decode cX9_held 15 = .ok (.goto 4, 3) := by decide +kernel
theorem dX9_held_18 : decode cX9_held 18 = .ok (.iload_n 0, 1) := by decide +kernel
theorem dX9_held_19 : decode cX9_held 19 = .ok (.ireturn, 1) := by decide +kernel
theorem dX9_isFlyer_0 : decode cX9_isFlyer 0 = .ok (.iload_n 1, 1) := by decide +kernel
theorem dX9_isFlyer_1 : decode cX9_isFlyer 1 = .ok (.i2l, 1) := by decide +kernel
theorem dX9_isFlyer_2 : decode cX9_isFlyer 2 = .ok (.lconst 0, 1) := by decide +kernel
theorem dX9_isFlyer_3 : decode cX9_isFlyer 3 = .ok (.aload_n 0, 1) := by decide +kernel
theorem dX9_isFlyer_4 : decode cX9_isFlyer 4 = .ok (.getfield 7, 3) := by decide +kernel
theorem dX9_isFlyer_7 : decode cX9_isFlyer 7 = .ok (.iconst 0, 1) := by decide +kernel
theorem dX9_isFlyer_8 : decode cX9_isFlyer 8 = .ok (.iaload, 1) := by decide +kernel
theorem dX9_isFlyer_9 : decode cX9_isFlyer 9 = .ok (.iconst 1, 1) := by decide +kernel
theorem dX9_isFlyer_10 : decode cX9_isFlyer 10 = .ok (.isub, 1) := by decide +kernel
theorem dX9_isFlyer_11 : decode cX9_isFlyer 11 = .ok (.i2l, 1) := by decide +kernel
theorem dX9_isFlyer_12 : decode cX9_isFlyer 12 = .ok (.invokestatic 45, 3) := by decide +kernel
theorem dX9_isFlyer_15 : decode cX9_isFlyer 15 = .ok (.ireturn, 1) := by decide +kernel
theorem dX9_of_0 : decode cX9_of 0 = .ok (.aload_n 0, 1) := by decide +kernel
theorem dX9_of_1 : decode cX9_of 1 = .ok (.getfield 7, 3) := by decide +kernel
theorem dX9_of_4 : decode cX9_of 4 = .ok (.bipush 18, 2) := by decide +kernel
theorem dX9_of_6 : decode cX9_of 6 = .ok (.iconst 4, 1) := by decide +kernel
theorem dX9_of_7 : decode cX9_of 7 = .ok (.iload_n 1, 1) := by decide +kernel
theorem dX9_of_8 : decode cX9_of 8 = .ok (.imul, 1) := by decide +kernel
theorem dX9_of_9 : decode cX9_of 9 = .ok (.iadd, 1) := by decide +kernel
theorem dX9_of_10 : decode cX9_of 10 = .ok (.iload_n 2, 1) := by decide +kernel
theorem dX9_of_11 : decode cX9_of 11 = .ok (.iadd, 1) := by decide +kernel
theorem dX9_of_12 : decode cX9_of 12 = .ok (.iaload, 1) := by decide +kernel
theorem dX9_of_13 : decode cX9_of 13 = .ok (.ireturn, 1) := by decide +kernel
theorem dX9_sets_0 : decode cX9_sets 0 = .ok (.aload_n 0, 1) := by decide +kernel
theorem dX9_sets_1 : decode cX9_sets 1 = .ok (.getfield 7, 3) := by decide +kernel
theorem dX9_sets_4 : decode cX9_sets 4 = .ok (.bipush 18, 2) := by decide +kernel
theorem dX9_sets_6 : decode cX9_sets 6 = .ok (.iconst 4, 1) := by decide +kernel
theorem dX9_sets_7 : decode cX9_sets 7 = .ok (.iload_n 1, 1) := by decide +kernel
theorem dX9_sets_8 : decode cX9_sets 8 = .ok (.imul, 1) := by decide +kernel
theorem dX9_sets_9 : decode cX9_sets 9 = .ok (.iadd, 1) := by decide +kernel
theorem dX9_sets_10 : decode cX9_sets 10 = .ok (.iload_n 2, 1) := by decide +kernel
theorem dX9_sets_11 : decode cX9_sets 11 = .ok (.iadd, 1) := by decide +kernel
theorem dX9_sets_12 : decode cX9_sets 12 = .ok (.iload_n 3, 1) := by decide +kernel
theorem dX9_sets_13 : decode cX9_sets 13 = .ok (.iastore, 1) := by decide +kernel
theorem dX9_sets_14 : decode cX9_sets 14 = .ok (.return_, 1) := by decide +kernel
theorem dX9_here_0 : decode cX9_here 0 = .ok (.aload_n 0, 1) := by decide +kernel
theorem dX9_here_1 : decode cX9_here 1 = .ok (.getfield 49, 3) := by decide +kernel
theorem dX9_here_4 : decode cX9_here 4 = .ok (.aload_n 0, 1) := by decide +kernel
theorem dX9_here_5 : decode cX9_here 5 = .ok (.getfield 52, 3) := by decide +kernel
theorem dX9_here_8 : decode cX9_here 8 = .ok (.if_icmp .ge 27, 3) := by decide +kernel
theorem dX9_here_11 : decode cX9_here 11 = .ok (.aload_n 0, 1) := by decide +kernel
theorem dX9_here_12 : decode cX9_here 12 = .ok (.getfield 55, 3) := by decide +kernel
theorem dX9_here_15 : decode cX9_here 15 = .ok (.ifCond .ge 20, 3) := by decide +kernel
theorem dX9_here_18 : decode cX9_here 18 = .ok (.aload_n 0, 1) := by decide +kernel
theorem dX9_here_19 : decode cX9_here 19 = .ok (.getfield 7, 3) := by decide +kernel
theorem dX9_here_22 : decode cX9_here 22 = .ok (.aload_n 0, 1) := by decide +kernel
theorem dX9_here_23 : decode cX9_here 23 = .ok (.getfield 58, 3) := by decide +kernel
theorem dX9_here_26 : decode cX9_here 26 = .ok (.aload_n 0, 1) := by decide +kernel
theorem dX9_here_27 : decode cX9_here 27 = .ok (.getfield 49, 3) := by decide +kernel
theorem dX9_here_30 : decode cX9_here 30 = .ok (.iadd, 1) := by decide +kernel
theorem dX9_here_31 : decode cX9_here 31 = .ok (.iaload, 1) := by decide +kernel
theorem dX9_here_32 : decode cX9_here 32 = .ok (.goto 4, 3) := by decide +kernel
theorem dX9_here_35 : decode cX9_here 35 = .ok (.iconst (-1), 1) := by decide +kernel
theorem dX9_here_36 : decode cX9_here 36 = .ok (.ireturn, 1) := by decide +kernel
theorem dX9_wrong_0 : decode cX9_wrong 0 = .ok (.aload_n 0, 1) := by decide +kernel
theorem dX9_wrong_1 : decode cX9_wrong 1 = .ok (.aload_n 0, 1) := by decide +kernel
theorem dX9_wrong_2 : decode cX9_wrong 2 = .ok (.getfield 55, 3) := by decide +kernel
theorem dX9_wrong_5 : decode cX9_wrong 5 = .ok (.ifCond .ge 10, 3) := by decide +kernel
theorem dX9_wrong_8 : decode cX9_wrong 8 = .ok (.aload_n 0, 1) := by decide +kernel
theorem dX9_wrong_9 : decode cX9_wrong 9 = .ok (.getfield 49, 3) := by decide +kernel
theorem dX9_wrong_12 : decode cX9_wrong 12 = .ok (.goto 7, 3) := by decide +kernel
theorem dX9_wrong_15 : decode cX9_wrong 15 = .ok (.aload_n 0, 1) := by decide +kernel
theorem dX9_wrong_16 : decode cX9_wrong 16 = .ok (.getfield 55, 3) := by decide +kernel
theorem dX9_wrong_19 : decode cX9_wrong 19 = .ok (.putfield 55, 3) := by decide +kernel
theorem dX9_wrong_22 : decode cX9_wrong 22 = .ok (.iconst 0, 1) := by decide +kernel
theorem dX9_wrong_23 : decode cX9_wrong 23 = .ok (.ireturn, 1) := by decide +kernel
theorem dX9_takes_0 : decode cX9_takes 0 = .ok (.aload_n 0, 1) := by decide +kernel
theorem dX9_takes_1 : decode cX9_takes 1 = .ok (.invokevirtual 61, 3) := by decide +kernel
theorem dX9_takes_4 : decode cX9_takes 4 = .ok (.iload_n 1, 1) := by decide +kernel
theorem dX9_takes_5 : decode cX9_takes 5 = .ok (.if_icmp .eq 5, 3) := by decide +kernel
theorem dX9_takes_8 : decode cX9_takes 8 = .ok (.iconst 0, 1) := by decide +kernel
theorem dX9_takes_9 : decode cX9_takes 9 = .ok (.ireturn, 1) := by decide +kernel
theorem dX9_takes_10 : decode cX9_takes 10 = .ok (.aload_n 0, 1) := by decide +kernel
theorem dX9_takes_11 : decode cX9_takes 11 = .ok (.dup, 1) := by decide +kernel
theorem dX9_takes_12 : decode cX9_takes 12 = .ok (.getfield 49, 3) := by decide +kernel
theorem dX9_takes_15 : decode cX9_takes 15 = .ok (.iconst 1, 1) := by decide +kernel
theorem dX9_takes_16 : decode cX9_takes 16 = .ok (.iadd, 1) := by decide +kernel
theorem dX9_takes_17 : decode cX9_takes 17 = .ok (.putfield 49, 3) := by decide +kernel
theorem dX9_takes_20 : decode cX9_takes 20 = .ok (.iconst 1, 1) := by decide +kernel
theorem dX9_takes_21 : decode cX9_takes 21 = .ok (.ireturn, 1) := by decide +kernel
theorem dX9_nameOf_0 : decode cX9_nameOf 0 = .ok (.iload_n 0, 1) := by decide +kernel
theorem dX9_nameOf_1 : decode cX9_nameOf 1 = .ok (.bipush 107, 2) := by decide +kernel
theorem dX9_nameOf_3 : decode cX9_nameOf 3 = .ok (.if_icmp .ne 7, 3) := by decide +kernel
theorem dX9_nameOf_6 : decode cX9_nameOf 6 = .ok (.iconst 0, 1) := by decide +kernel
theorem dX9_nameOf_7 : decode cX9_nameOf 7 = .ok (.goto 24, 3) := by decide +kernel
theorem dX9_nameOf_10 : decode cX9_nameOf 10 = .ok (.iload_n 0, 1) := by decide +kernel
theorem dX9_nameOf_11 : decode cX9_nameOf 11 = .ok (.bipush 118, 2) := by decide +kernel
theorem dX9_nameOf_13 : decode cX9_nameOf 13 = .ok (.if_icmp .ne 7, 3) := by decide +kernel
theorem dX9_nameOf_16 : decode cX9_nameOf 16 = .ok (.iconst 1, 1) := by decide +kernel
theorem dX9_nameOf_17 : decode cX9_nameOf 17 = .ok (.goto 14, 3) := by decide +kernel
theorem dX9_nameOf_20 : decode cX9_nameOf 20 = .ok (.iload_n 0, 1) := by decide +kernel
theorem dX9_nameOf_21 : decode cX9_nameOf 21 = .ok (.bipush 109, 2) := by decide +kernel
theorem dX9_nameOf_23 : decode cX9_nameOf 23 = .ok (.if_icmp .ne 7, 3) := by decide +kernel
theorem dX9_nameOf_26 : decode cX9_nameOf 26 = .ok (.iconst 2, 1) := by decide +kernel
theorem dX9_nameOf_27 : decode cX9_nameOf 27 = .ok (.goto 4, 3) := by decide +kernel
theorem dX9_nameOf_30 : decode cX9_nameOf 30 = .ok (.iconst (-1), 1) := by decide +kernel
theorem dX9_nameOf_31 : decode cX9_nameOf 31 = .ok (.ireturn, 1) := by decide +kernel
theorem dX9_either_0 : decode cX9_either 0 = .ok (.aload_n 0, 1) := by decide +kernel
theorem dX9_either_1 : decode cX9_either 1 = .ok (.invokevirtual 65, 3) := by decide +kernel
theorem dX9_either_4 : decode cX9_either 4 = .ok (.istore_n 1, 1) := by decide +kernel
theorem dX9_either_5 : decode cX9_either 5 = .ok (.aload_n 0, 1) := by decide +kernel
theorem dX9_either_6 : decode cX9_either 6 = .ok (.bipush 124, 2) := by decide +kernel
theorem dX9_either_8 : decode cX9_either 8 = .ok (.invokevirtual 68, 3) := by decide +kernel
theorem dX9_either_11 : decode cX9_either 11 = .ok (.ifCond .eq 25, 3) := by decide +kernel
theorem dX9_either_14 : decode cX9_either 14 = .ok (.aload_n 0, 1) := by decide +kernel
theorem dX9_either_15 : decode cX9_either 15 = .ok (.invokevirtual 65, 3) := by decide +kernel
theorem dX9_either_18 : decode cX9_either 18 = .ok (.istore_n 2, 1) := by decide +kernel
theorem dX9_either_19 : decode cX9_either 19 = .ok (.iload_n 1, 1) := by decide +kernel
theorem dX9_either_20 : decode cX9_either 20 = .ok (.ifCond .ne 7, 3) := by decide +kernel
theorem dX9_either_23 : decode cX9_either 23 = .ok (.iload_n 2, 1) := by decide +kernel
theorem dX9_either_24 : decode cX9_either 24 = .ok (.ifCond .eq 7, 3) := by decide +kernel
theorem dX9_either_27 : decode cX9_either 27 = .ok (.iconst 1, 1) := by decide +kernel
theorem dX9_either_28 : decode cX9_either 28 = .ok (.goto 4, 3) := by decide +kernel
theorem dX9_either_31 : decode cX9_either 31 = .ok (.iconst 0, 1) := by decide +kernel
theorem dX9_either_32 : decode cX9_either 32 = .ok (.istore_n 1, 1) := by decide +kernel
theorem dX9_either_33 : decode cX9_either 33 = .ok (.goto (-28), 3) := by decide +kernel
theorem dX9_either_36 : decode cX9_either 36 = .ok (.iload_n 1, 1) := by decide +kernel
theorem dX9_either_37 : decode cX9_either 37 = .ok (.ireturn, 1) := by decide +kernel
theorem dX9_both_0 : decode cX9_both 0 = .ok (.aload_n 0, 1) := by decide +kernel
theorem dX9_both_1 : decode cX9_both 1 = .ok (.invokevirtual 72, 3) := by decide +kernel
theorem dX9_both_4 : decode cX9_both 4 = .ok (.istore_n 1, 1) := by decide +kernel
theorem dX9_both_5 : decode cX9_both 5 = .ok (.aload_n 0, 1) := by decide +kernel
theorem dX9_both_6 : decode cX9_both 6 = .ok (.bipush 38, 2) := by decide +kernel
theorem dX9_both_8 : decode cX9_both 8 = .ok (.invokevirtual 68, 3) := by decide +kernel
theorem dX9_both_11 : decode cX9_both 11 = .ok (.ifCond .eq 25, 3) := by decide +kernel
theorem dX9_both_14 : decode cX9_both 14 = .ok (.aload_n 0, 1) := by decide +kernel
theorem dX9_both_15 : decode cX9_both 15 = .ok (.invokevirtual 72, 3) := by decide +kernel
theorem dX9_both_18 : decode cX9_both 18 = .ok (.istore_n 2, 1) := by decide +kernel
theorem dX9_both_19 : decode cX9_both 19 = .ok (.iload_n 1, 1) := by decide +kernel
theorem dX9_both_20 : decode cX9_both 20 = .ok (.ifCond .eq 11, 3) := by decide +kernel
theorem dX9_both_23 : decode cX9_both 23 = .ok (.iload_n 2, 1) := by decide +kernel
theorem dX9_both_24 : decode cX9_both 24 = .ok (.ifCond .eq 7, 3) := by decide +kernel
theorem dX9_both_27 : decode cX9_both 27 = .ok (.iconst 1, 1) := by decide +kernel
theorem dX9_both_28 : decode cX9_both 28 = .ok (.goto 4, 3) := by decide +kernel
theorem dX9_both_31 : decode cX9_both 31 = .ok (.iconst 0, 1) := by decide +kernel
theorem dX9_both_32 : decode cX9_both 32 = .ok (.istore_n 1, 1) := by decide +kernel
theorem dX9_both_33 : decode cX9_both 33 = .ok (.goto (-28), 3) := by decide +kernel
theorem dX9_both_36 : decode cX9_both 36 = .ok (.iload_n 1, 1) := by decide +kernel
theorem dX9_both_37 : decode cX9_both 37 = .ok (.ireturn, 1) := by decide +kernel
theorem dX9_compared_0 : decode cX9_compared 0 = .ok (.aload_n 0, 1) := by decide +kernel
theorem dX9_compared_1 : decode cX9_compared 1 = .ok (.invokevirtual 75, 3) := by decide +kernel
theorem dX9_compared_4 : decode cX9_compared 4 = .ok (.istore_n 1, 1) := by decide +kernel
theorem dX9_compared_5 : decode cX9_compared 5 = .ok (.aload_n 0, 1) := by decide +kernel
theorem dX9_compared_6 : decode cX9_compared 6 = .ok (.invokevirtual 61, 3) := by decide +kernel
theorem dX9_compared_9 : decode cX9_compared 9 = .ok (.istore_n 2, 1) := by decide +kernel
theorem dX9_compared_10 : decode cX9_compared 10 = .ok (.iload_n 2, 1) := by decide +kernel
theorem dX9_compared_11 : decode cX9_compared 11 = .ok (.bipush 60, 2) := by decide +kernel
theorem dX9_compared_13 : decode cX9_compared 13 = .ok (.if_icmp .eq 17, 3) := by decide +kernel
theorem dX9_compared_16 : decode cX9_compared 16 = .ok (.iload_n 2, 1) := by decide +kernel
theorem dX9_compared_17 : decode cX9_compared 17 = .ok (.bipush 61, 2) := by decide +kernel
theorem dX9_compared_19 : decode cX9_compared 19 = .ok (.if_icmp .eq 11, 3) := by decide +kernel
theorem dX9_compared_22 : decode cX9_compared 22 = .ok (.iload_n 2, 1) := by decide +kernel
theorem dX9_compared_23 : decode cX9_compared 23 = .ok (.bipush 62, 2) := by decide +kernel
theorem dX9_compared_25 : decode cX9_compared 25 = .ok (.if_icmp .eq 5, 3) := by decide +kernel
theorem dX9_compared_28 : decode cX9_compared 28 = .ok (.iload_n 1, 1) := by decide +kernel
theorem dX9_compared_29 : decode cX9_compared 29 = .ok (.ireturn, 1) := by decide +kernel
theorem dX9_compared_30 : decode cX9_compared 30 = .ok (.aload_n 0, 1) := by decide +kernel
theorem dX9_compared_31 : decode cX9_compared 31 = .ok (.dup, 1) := by decide +kernel
theorem dX9_compared_32 : decode cX9_compared 32 = .ok (.getfield 49, 3) := by decide +kernel
theorem dX9_compared_35 : decode cX9_compared 35 = .ok (.iconst 1, 1) := by decide +kernel
theorem dX9_compared_36 : decode cX9_compared 36 = .ok (.iadd, 1) := by decide +kernel
theorem dX9_compared_37 : decode cX9_compared 37 = .ok (.putfield 49, 3) := by decide +kernel
theorem dX9_compared_40 : decode cX9_compared 40 = .ok (.aload_n 0, 1) := by decide +kernel
theorem dX9_compared_41 : decode cX9_compared 41 = .ok (.invokevirtual 75, 3) := by decide +kernel
theorem dX9_compared_44 : decode cX9_compared 44 = .ok (.istore_n 3, 1) := by decide +kernel
theorem dX9_compared_45 : decode cX9_compared 45 = .ok (.iload_n 2, 1) := by decide +kernel
theorem dX9_compared_46 : decode cX9_compared 46 = .ok (.bipush 60, 2) := by decide +kernel
theorem dX9_compared_48 : decode cX9_compared 48 = .ok (.if_icmp .ne 11, 3) := by decide +kernel
theorem dX9_compared_51 : decode cX9_compared 51 = .ok (.iload_n 1, 1) := by decide +kernel
theorem dX9_compared_52 : decode cX9_compared 52 = .ok (.iload_n 3, 1) := by decide +kernel
theorem dX9_compared_53 : decode cX9_compared 53 = .ok (.if_icmp .ge 29, 3) := by decide +kernel
theorem dX9_compared_56 : decode cX9_compared 56 = .ok (.goto 22, 3) := by decide +kernel
theorem dX9_compared_59 : decode cX9_compared 59 = .ok (.iload_n 2, 1) := by decide +kernel
theorem dX9_compared_60 : decode cX9_compared 60 = .ok (.bipush 61, 2) := by decide +kernel
theorem dX9_compared_62 : decode cX9_compared 62 = .ok (.if_icmp .ne 11, 3) := by decide +kernel
theorem dX9_compared_65 : decode cX9_compared 65 = .ok (.iload_n 1, 1) := by decide +kernel
theorem dX9_compared_66 : decode cX9_compared 66 = .ok (.iload_n 3, 1) := by decide +kernel
theorem dX9_compared_67 : decode cX9_compared 67 = .ok (.if_icmp .ne 15, 3) := by decide +kernel
theorem dX9_compared_70 : decode cX9_compared 70 = .ok (.goto 8, 3) := by decide +kernel
theorem dX9_compared_73 : decode cX9_compared 73 = .ok (.iload_n 1, 1) := by decide +kernel
theorem dX9_compared_74 : decode cX9_compared 74 = .ok (.iload_n 3, 1) := by decide +kernel
theorem dX9_compared_75 : decode cX9_compared 75 = .ok (.if_icmp .le 7, 3) := by decide +kernel
theorem dX9_compared_78 : decode cX9_compared 78 = .ok (.iconst 1, 1) := by decide +kernel
theorem dX9_compared_79 : decode cX9_compared 79 = .ok (.goto 4, 3) := by decide +kernel
theorem dX9_compared_82 : decode cX9_compared 82 = .ok (.iconst 0, 1) := by decide +kernel
theorem dX9_compared_83 : decode cX9_compared 83 = .ok (.ireturn, 1) := by decide +kernel
theorem dX9_sum_0 : decode cX9_sum 0 = .ok (.aload_n 0, 1) := by decide +kernel
theorem dX9_sum_1 : decode cX9_sum 1 = .ok (.invokevirtual 78, 3) := by decide +kernel
theorem dX9_sum_4 : decode cX9_sum 4 = .ok (.istore_n 1, 1) := by decide +kernel
theorem dX9_sum_5 : decode cX9_sum 5 = .ok (.aload_n 0, 1) := by decide +kernel
theorem dX9_sum_6 : decode cX9_sum 6 = .ok (.invokevirtual 61, 3) := by decide +kernel
theorem dX9_sum_9 : decode cX9_sum 9 = .ok (.bipush 43, 2) := by decide +kernel
theorem dX9_sum_11 : decode cX9_sum 11 = .ok (.if_icmp .eq 12, 3) := by decide +kernel
theorem dX9_sum_14 : decode cX9_sum 14 = .ok (.aload_n 0, 1) := by decide +kernel
theorem dX9_sum_15 : decode cX9_sum 15 = .ok (.invokevirtual 61, 3) := by decide +kernel
theorem dX9_sum_18 : decode cX9_sum 18 = .ok (.bipush 45, 2) := by decide +kernel
theorem dX9_sum_20 : decode cX9_sum 20 = .ok (.if_icmp .ne 42, 3) := by decide +kernel
theorem dX9_sum_23 : decode cX9_sum 23 = .ok (.aload_n 0, 1) := by decide +kernel
theorem dX9_sum_24 : decode cX9_sum 24 = .ok (.invokevirtual 61, 3) := by decide +kernel
theorem dX9_sum_27 : decode cX9_sum 27 = .ok (.istore_n 2, 1) := by decide +kernel
theorem dX9_sum_28 : decode cX9_sum 28 = .ok (.aload_n 0, 1) := by decide +kernel
theorem dX9_sum_29 : decode cX9_sum 29 = .ok (.dup, 1) := by decide +kernel
theorem dX9_sum_30 : decode cX9_sum 30 = .ok (.getfield 49, 3) := by decide +kernel
theorem dX9_sum_33 : decode cX9_sum 33 = .ok (.iconst 1, 1) := by decide +kernel
theorem dX9_sum_34 : decode cX9_sum 34 = .ok (.iadd, 1) := by decide +kernel
theorem dX9_sum_35 : decode cX9_sum 35 = .ok (.putfield 49, 3) := by decide +kernel
theorem dX9_sum_38 : decode cX9_sum 38 = .ok (.aload_n 0, 1) := by decide +kernel
theorem dX9_sum_39 : decode cX9_sum 39 = .ok (.invokevirtual 78, 3) := by decide +kernel
theorem dX9_sum_42 : decode cX9_sum 42 = .ok (.istore_n 3, 1) := by decide +kernel
theorem dX9_sum_43 : decode cX9_sum 43 = .ok (.iload_n 2, 1) := by decide +kernel
theorem dX9_sum_44 : decode cX9_sum 44 = .ok (.bipush 43, 2) := by decide +kernel
theorem dX9_sum_46 : decode cX9_sum 46 = .ok (.if_icmp .ne 9, 3) := by decide +kernel
theorem dX9_sum_49 : decode cX9_sum 49 = .ok (.iload_n 1, 1) := by decide +kernel
theorem dX9_sum_50 : decode cX9_sum 50 = .ok (.iload_n 3, 1) := by decide +kernel
theorem dX9_sum_51 : decode cX9_sum 51 = .ok (.iadd, 1) := by decide +kernel
theorem dX9_sum_52 : decode cX9_sum 52 = .ok (.goto 6, 3) := by decide +kernel
theorem dX9_sum_55 : decode cX9_sum 55 = .ok (.iload_n 1, 1) := by decide +kernel
theorem dX9_sum_56 : decode cX9_sum 56 = .ok (.iload_n 3, 1) := by decide +kernel
theorem dX9_sum_57 : decode cX9_sum 57 = .ok (.isub, 1) := by decide +kernel
theorem dX9_sum_58 : decode cX9_sum 58 = .ok (.istore_n 1, 1) := by decide +kernel
theorem dX9_sum_59 : decode cX9_sum 59 = .ok (.goto (-54), 3) := by decide +kernel
theorem dX9_sum_62 : decode cX9_sum 62 = .ok (.iload_n 1, 1) := by decide +kernel
theorem dX9_sum_63 : decode cX9_sum 63 = .ok (.ireturn, 1) := by decide +kernel
theorem dX9_product_0 : decode cX9_product 0 = .ok (.aload_n 0, 1) := by decide +kernel
theorem dX9_product_1 : decode cX9_product 1 = .ok (.invokevirtual 81, 3) := by decide +kernel
theorem dX9_product_4 : decode cX9_product 4 = .ok (.istore_n 1, 1) := by decide +kernel
theorem dX9_product_5 : decode cX9_product 5 = .ok (.aload_n 0, 1) := by decide +kernel
theorem dX9_product_6 : decode cX9_product 6 = .ok (.invokevirtual 61, 3) := by decide +kernel
theorem dX9_product_9 : decode cX9_product 9 = .ok (.bipush 42, 2) := by decide +kernel
theorem dX9_product_11 : decode cX9_product 11 = .ok (.if_icmp .eq 21, 3) := by decide +kernel
theorem dX9_product_14 : decode cX9_product 14 = .ok (.aload_n 0, 1) := by decide +kernel
theorem dX9_product_15 : decode cX9_product 15 = .ok (.invokevirtual 61, 3) := by decide +kernel
theorem dX9_product_18 : decode cX9_product 18 = .ok (.bipush 47, 2) := by decide +kernel
theorem dX9_product_20 : decode cX9_product 20 = .ok (.if_icmp .eq 12, 3) := by decide +kernel
theorem dX9_product_23 : decode cX9_product 23 = .ok (.aload_n 0, 1) := by decide +kernel
theorem dX9_product_24 : decode cX9_product 24 = .ok (.invokevirtual 61, 3) := by decide +kernel
theorem dX9_product_27 : decode cX9_product 27 = .ok (.bipush 37, 2) := by decide +kernel
theorem dX9_product_29 : decode cX9_product 29 = .ok (.if_icmp .ne 62, 3) := by decide +kernel
theorem dX9_product_32 : decode cX9_product 32 = .ok (.aload_n 0, 1) := by decide +kernel
theorem dX9_product_33 : decode cX9_product 33 = .ok (.invokevirtual 61, 3) := by decide +kernel
theorem dX9_product_36 : decode cX9_product 36 = .ok (.istore_n 2, 1) := by decide +kernel
theorem dX9_product_37 : decode cX9_product 37 = .ok (.aload_n 0, 1) := by decide +kernel
theorem dX9_product_38 : decode cX9_product 38 = .ok (.dup, 1) := by decide +kernel
theorem dX9_product_39 : decode cX9_product 39 = .ok (.getfield 49, 3) := by decide +kernel
theorem dX9_product_42 : decode cX9_product 42 = .ok (.iconst 1, 1) := by decide +kernel
theorem dX9_product_43 : decode cX9_product 43 = .ok (.iadd, 1) := by decide +kernel
theorem dX9_product_44 : decode cX9_product 44 = .ok (.putfield 49, 3) := by decide +kernel
theorem dX9_product_47 : decode cX9_product 47 = .ok (.aload_n 0, 1) := by decide +kernel
theorem dX9_product_48 : decode cX9_product 48 = .ok (.invokevirtual 81, 3) := by decide +kernel
theorem dX9_product_51 : decode cX9_product 51 = .ok (.istore_n 3, 1) := by decide +kernel
theorem dX9_product_52 : decode cX9_product 52 = .ok (.iload_n 2, 1) := by decide +kernel
theorem dX9_product_53 : decode cX9_product 53 = .ok (.bipush 42, 2) := by decide +kernel
theorem dX9_product_55 : decode cX9_product 55 = .ok (.if_icmp .ne 9, 3) := by decide +kernel
theorem dX9_product_58 : decode cX9_product 58 = .ok (.iload_n 1, 1) := by decide +kernel
theorem dX9_product_59 : decode cX9_product 59 = .ok (.iload_n 3, 1) := by decide +kernel
theorem dX9_product_60 : decode cX9_product 60 = .ok (.imul, 1) := by decide +kernel
theorem dX9_product_61 : decode cX9_product 61 = .ok (.goto 26, 3) := by decide +kernel
theorem dX9_product_64 : decode cX9_product 64 = .ok (.iload_n 3, 1) := by decide +kernel
theorem dX9_product_65 : decode cX9_product 65 = .ok (.ifCond .ne 7, 3) := by decide +kernel
theorem dX9_product_68 : decode cX9_product 68 = .ok (.iconst 0, 1) := by decide +kernel
theorem dX9_product_69 : decode cX9_product 69 = .ok (.goto 18, 3) := by decide +kernel
theorem dX9_product_72 : decode cX9_product 72 = .ok (.iload_n 2, 1) := by decide +kernel
theorem dX9_product_73 : decode cX9_product 73 = .ok (.bipush 47, 2) := by decide +kernel
theorem dX9_product_75 : decode cX9_product 75 = .ok (.if_icmp .ne 9, 3) := by decide +kernel
theorem dX9_product_78 : decode cX9_product 78 = .ok (.iload_n 1, 1) := by decide +kernel
theorem dX9_product_79 : decode cX9_product 79 = .ok (.iload_n 3, 1) := by decide +kernel
theorem dX9_product_80 : decode cX9_product 80 = .ok (.idiv, 1) := by decide +kernel
theorem dX9_product_81 : decode cX9_product 81 = .ok (.goto 6, 3) := by decide +kernel
theorem dX9_product_84 : decode cX9_product 84 = .ok (.iload_n 1, 1) := by decide +kernel
theorem dX9_product_85 : decode cX9_product 85 = .ok (.iload_n 3, 1) := by decide +kernel
theorem dX9_product_86 : decode cX9_product 86 = .ok (.irem, 1) := by decide +kernel
theorem dX9_product_87 : decode cX9_product 87 = .ok (.istore_n 1, 1) := by decide +kernel
theorem dX9_product_88 : decode cX9_product 88 = .ok (.goto (-83), 3) := by decide +kernel
theorem dX9_product_91 : decode cX9_product 91 = .ok (.iload_n 1, 1) := by decide +kernel
theorem dX9_product_92 : decode cX9_product 92 = .ok (.ireturn, 1) := by decide +kernel
theorem dX9_unit_0 : decode cX9_unit 0 = .ok (.aload_n 0, 1) := by decide +kernel
theorem dX9_unit_1 : decode cX9_unit 1 = .ok (.invokevirtual 61, 3) := by decide +kernel
theorem dX9_unit_4 : decode cX9_unit 4 = .ok (.istore_n 1, 1) := by decide +kernel
theorem dX9_unit_5 : decode cX9_unit 5 = .ok (.iload_n 1, 1) := by decide +kernel
theorem dX9_unit_6 : decode cX9_unit 6 = .ok (.bipush 33, 2) := by decide +kernel
theorem dX9_unit_8 : decode cX9_unit 8 = .ok (.if_icmp .eq 9, 3) := by decide +kernel
theorem dX9_unit_11 : decode cX9_unit 11 = .ok (.iload_n 1, 1) := by decide +kernel
theorem dX9_unit_12 : decode cX9_unit 12 = .ok (.bipush 40, 2) := by decide +kernel
theorem dX9_unit_14 : decode cX9_unit 14 = .ok (.if_icmp .ne 104, 3) := by decide +kernel
theorem dX9_unit_17 : decode cX9_unit 17 = .ok (.aload_n 0, 1) := by decide +kernel
theorem dX9_unit_18 : decode cX9_unit 18 = .ok (.getfield 84, 3) := by decide +kernel
theorem dX9_unit_21 : decode cX9_unit 21 = .ok (.iconst 5, 1) := by decide +kernel
theorem dX9_unit_22 : decode cX9_unit 22 = .ok (.if_icmp .ne 8, 3) := by decide +kernel
theorem dX9_unit_25 : decode cX9_unit 25 = .ok (.aload_n 0, 1) := by decide +kernel
theorem dX9_unit_26 : decode cX9_unit 26 = .ok (.invokevirtual 87, 3) := by decide +kernel
theorem dX9_unit_29 : decode cX9_unit 29 = .ok (.ireturn, 1) := by decide +kernel
theorem dX9_unit_30 : decode cX9_unit 30 = .ok (.aload_n 0, 1) := by decide +kernel
theorem dX9_unit_31 : decode cX9_unit 31 = .ok (.dup, 1) := by decide +kernel
theorem dX9_unit_32 : decode cX9_unit 32 = .ok (.getfield 84, 3) := by decide +kernel
theorem dX9_unit_35 : decode cX9_unit 35 = .ok (.iconst 1, 1) := by decide +kernel
theorem dX9_unit_36 : decode cX9_unit 36 = .ok (.iadd, 1) := by decide +kernel
theorem dX9_unit_37 : decode cX9_unit 37 = .ok (.putfield 84, 3) := by decide +kernel
theorem dX9_unit_40 : decode cX9_unit 40 = .ok (.aload_n 0, 1) := by decide +kernel
theorem dX9_unit_41 : decode cX9_unit 41 = .ok (.dup, 1) := by decide +kernel
theorem dX9_unit_42 : decode cX9_unit 42 = .ok (.getfield 49, 3) := by decide +kernel
theorem dX9_unit_45 : decode cX9_unit 45 = .ok (.iconst 1, 1) := by decide +kernel
theorem dX9_unit_46 : decode cX9_unit 46 = .ok (.iadd, 1) := by decide +kernel
theorem dX9_unit_47 : decode cX9_unit 47 = .ok (.putfield 49, 3) := by decide +kernel
theorem dX9_unit_50 : decode cX9_unit 50 = .ok (.iload_n 1, 1) := by decide +kernel
theorem dX9_unit_51 : decode cX9_unit 51 = .ok (.bipush 40, 2) := by decide +kernel
theorem dX9_unit_53 : decode cX9_unit 53 = .ok (.if_icmp .ne 10, 3) := by decide +kernel
theorem dX9_unit_56 : decode cX9_unit 56 = .ok (.aload_n 0, 1) := by decide +kernel
theorem dX9_unit_57 : decode cX9_unit 57 = .ok (.invokevirtual 90, 3) := by decide +kernel
theorem dX9_unit_60 : decode cX9_unit 60 = .ok (.goto 7, 3) := by decide +kernel
theorem dX9_unit_63 : decode cX9_unit 63 = .ok (.aload_n 0, 1) := by decide +kernel
theorem dX9_unit_64 : decode cX9_unit 64 = .ok (.invokevirtual 81, 3) := by decide +kernel
theorem dX9_unit_67 : decode cX9_unit 67 = .ok (.istore_n 2, 1) := by decide +kernel
theorem dX9_unit_68 : decode cX9_unit 68 = .ok (.iload_n 1, 1) := by decide +kernel
theorem dX9_unit_69 : decode cX9_unit 69 = .ok (.bipush 40, 2) := by decide +kernel
theorem dX9_unit_71 : decode cX9_unit 71 = .ok (.if_icmp .ne 17, 3) := by decide +kernel
theorem dX9_unit_74 : decode cX9_unit 74 = .ok (.aload_n 0, 1) := by decide +kernel
theorem dX9_unit_75 : decode cX9_unit 75 = .ok (.bipush 41, 2) := by decide +kernel
theorem dX9_unit_77 : decode cX9_unit 77 = .ok (.invokevirtual 68, 3) := by decide +kernel
theorem dX9_unit_80 : decode cX9_unit 80 = .ok (.ifCond .ne 8, 3) := by decide +kernel
theorem dX9_unit_83 : decode cX9_unit 83 = .ok (.aload_n 0, 1) := by decide +kernel
theorem dX9_unit_84 : decode cX9_unit 84 = .ok (.invokevirtual 87, 3) := by decide +kernel
theorem dX9_unit_87 : decode cX9_unit 87 = .ok (.ireturn, 1) := by decide +kernel
theorem dX9_unit_88 : decode cX9_unit 88 = .ok (.aload_n 0, 1) := by decide +kernel
theorem dX9_unit_89 : decode cX9_unit 89 = .ok (.dup, 1) := by decide +kernel
theorem dX9_unit_90 : decode cX9_unit 90 = .ok (.getfield 84, 3) := by decide +kernel
theorem dX9_unit_93 : decode cX9_unit 93 = .ok (.iconst 1, 1) := by decide +kernel
theorem dX9_unit_94 : decode cX9_unit 94 = .ok (.isub, 1) := by decide +kernel
theorem dX9_unit_95 : decode cX9_unit 95 = .ok (.putfield 84, 3) := by decide +kernel
theorem dX9_unit_98 : decode cX9_unit 98 = .ok (.iload_n 1, 1) := by decide +kernel
theorem dX9_unit_99 : decode cX9_unit 99 = .ok (.bipush 40, 2) := by decide +kernel
theorem dX9_unit_101 : decode cX9_unit 101 = .ok (.if_icmp .ne 7, 3) := by decide +kernel
theorem dX9_unit_104 : decode cX9_unit 104 = .ok (.iload_n 2, 1) := by decide +kernel
theorem dX9_unit_105 : decode cX9_unit 105 = .ok (.goto 12, 3) := by decide +kernel
theorem dX9_unit_108 : decode cX9_unit 108 = .ok (.iload_n 2, 1) := by decide +kernel
theorem dX9_unit_109 : decode cX9_unit 109 = .ok (.ifCond .ne 7, 3) := by decide +kernel
theorem dX9_unit_112 : decode cX9_unit 112 = .ok (.iconst 1, 1) := by decide +kernel
theorem dX9_unit_113 : decode cX9_unit 113 = .ok (.goto 4, 3) := by decide +kernel
theorem dX9_unit_116 : decode cX9_unit 116 = .ok (.iconst 0, 1) := by decide +kernel
theorem dX9_unit_117 : decode cX9_unit 117 = .ok (.ireturn, 1) := by decide +kernel
theorem dX9_unit_118 : decode cX9_unit 118 = .ok (.iload_n 1, 1) := by decide +kernel
theorem dX9_unit_119 : decode cX9_unit 119 = .ok (.invokestatic 93, 3) := by decide +kernel
theorem dX9_unit_122 : decode cX9_unit 122 = .ok (.istore_n 2, 1) := by decide +kernel
theorem dX9_unit_123 : decode cX9_unit 123 = .ok (.iload_n 2, 1) := by decide +kernel
theorem dX9_unit_124 : decode cX9_unit 124 = .ok (.ifCond .lt 20, 3) := by decide +kernel
theorem dX9_unit_127 : decode cX9_unit 127 = .ok (.aload_n 0, 1) := by decide +kernel
theorem dX9_unit_128 : decode cX9_unit 128 = .ok (.dup, 1) := by decide +kernel
theorem dX9_unit_129 : decode cX9_unit 129 = .ok (.getfield 49, 3) := by decide +kernel
theorem dX9_unit_132 : decode cX9_unit 132 = .ok (.iconst 1, 1) := by decide +kernel
theorem dX9_unit_133 : decode cX9_unit 133 = .ok (.iadd, 1) := by decide +kernel
theorem dX9_unit_134 : decode cX9_unit 134 = .ok (.putfield 49, 3) := by decide +kernel
theorem dX9_unit_137 : decode cX9_unit 137 = .ok (.aload_n 0, 1) := by decide +kernel
theorem dX9_unit_138 : decode cX9_unit 138 = .ok (.getfield 19, 3) := by decide +kernel
theorem dX9_unit_141 : decode cX9_unit 141 = .ok (.iload_n 2, 1) := by decide +kernel
theorem dX9_unit_142 : decode cX9_unit 142 = .ok (.iaload, 1) := by decide +kernel
theorem dX9_unit_143 : decode cX9_unit 143 = .ok (.ireturn, 1) := by decide +kernel
theorem dX9_unit_144 : decode cX9_unit 144 = .ok (.iconst 0, 1) := by decide +kernel
theorem dX9_unit_145 : decode cX9_unit 145 = .ok (.istore_n 3, 1) := by decide +kernel
theorem dX9_unit_146 : decode cX9_unit 146 = .ok (.iconst 0, 1) := by decide +kernel
theorem dX9_unit_147 : decode cX9_unit 147 = .ok (.istore 4, 2) := by decide +kernel
theorem dX9_unit_149 : decode cX9_unit 149 = .ok (.iload 4, 2) := by decide +kernel
theorem dX9_unit_151 : decode cX9_unit 151 = .ok (.iconst 4, 1) := by decide +kernel
theorem dX9_unit_152 : decode cX9_unit 152 = .ok (.if_icmp .ge 49, 3) := by decide +kernel
theorem dX9_unit_155 : decode cX9_unit 155 = .ok (.aload_n 0, 1) := by decide +kernel
theorem dX9_unit_156 : decode cX9_unit 156 = .ok (.invokevirtual 61, 3) := by decide +kernel
theorem dX9_unit_159 : decode cX9_unit 159 = .ok (.i2l, 1) := by decide +kernel
theorem dX9_unit_160 : decode cX9_unit 160 = .ok (.ldc2_w 97, 3) := by decide +kernel
theorem dX9_unit_163 : decode cX9_unit 163 = .ok (.ldc2_w 99, 3) := by decide +kernel
theorem dX9_unit_166 : decode cX9_unit 166 = .ok (.invokestatic 45, 3) := by decide +kernel
theorem dX9_unit_169 : decode cX9_unit 169 = .ok (.ifCond .eq 32, 3) := by decide +kernel
theorem dX9_unit_172 : decode cX9_unit 172 = .ok (.bipush 10, 2) := by decide +kernel
theorem dX9_unit_174 : decode cX9_unit 174 = .ok (.iload_n 3, 1) := by decide +kernel
theorem dX9_unit_175 : decode cX9_unit 175 = .ok (.imul, 1) := by decide +kernel
theorem dX9_unit_176 : decode cX9_unit 176 = .ok (.aload_n 0, 1) := by decide +kernel
theorem dX9_unit_177 : decode cX9_unit 177 = .ok (.invokevirtual 61, 3) := by decide +kernel
theorem dX9_unit_180 : decode cX9_unit 180 = .ok (.iadd, 1) := by decide +kernel
theorem dX9_unit_181 : decode cX9_unit 181 = .ok (.bipush 48, 2) := by decide +kernel
theorem dX9_unit_183 : decode cX9_unit 183 = .ok (.isub, 1) := by decide +kernel
theorem dX9_unit_184 : decode cX9_unit 184 = .ok (.istore_n 3, 1) := by decide +kernel
theorem dX9_unit_185 : decode cX9_unit 185 = .ok (.aload_n 0, 1) := by decide +kernel
theorem dX9_unit_186 : decode cX9_unit 186 = .ok (.dup, 1) := by decide +kernel
theorem dX9_unit_187 : decode cX9_unit 187 = .ok (.getfield 49, 3) := by decide +kernel
theorem dX9_unit_190 : decode cX9_unit 190 = .ok (.iconst 1, 1) := by decide +kernel
theorem dX9_unit_191 : decode cX9_unit 191 = .ok (.iadd, 1) := by decide +kernel
theorem dX9_unit_192 : decode cX9_unit 192 = .ok (.putfield 49, 3) := by decide +kernel
theorem dX9_unit_195 : decode cX9_unit 195 = .ok (.iinc 4 1, 3) := by decide +kernel
theorem dX9_unit_198 : decode cX9_unit 198 = .ok (.goto (-49), 3) := by decide +kernel
theorem dX9_unit_201 : decode cX9_unit 201 = .ok (.iload 4, 2) := by decide +kernel
theorem dX9_unit_203 : decode cX9_unit 203 = .ok (.ifCond .ne 10, 3) := by decide +kernel
theorem dX9_unit_206 : decode cX9_unit 206 = .ok (.aload_n 0, 1) := by decide +kernel
theorem dX9_unit_207 : decode cX9_unit 207 = .ok (.invokevirtual 87, 3) := by decide +kernel
theorem dX9_unit_210 : decode cX9_unit 210 = .ok (.goto 4, 3) := by decide +kernel
theorem dX9_unit_213 : decode cX9_unit 213 = .ok (.iload_n 3, 1) := by decide +kernel
theorem dX9_unit_214 : decode cX9_unit 214 = .ok (.ireturn, 1) := by decide +kernel
theorem dX9_worked_0 : decode cX9_worked 0 = .ok (.aload_n 0, 1) := by decide +kernel
theorem dX9_worked_1 : decode cX9_worked 1 = .ok (.iload_n 1, 1) := by decide +kernel
theorem dX9_worked_2 : decode cX9_worked 2 = .ok (.putfield 58, 3) := by decide +kernel
theorem dX9_worked_5 : decode cX9_worked 5 = .ok (.aload_n 0, 1) := by decide +kernel
theorem dX9_worked_6 : decode cX9_worked 6 = .ok (.iconst 0, 1) := by decide +kernel
theorem dX9_worked_7 : decode cX9_worked 7 = .ok (.putfield 49, 3) := by decide +kernel
theorem dX9_worked_10 : decode cX9_worked 10 = .ok (.aload_n 0, 1) := by decide +kernel
theorem dX9_worked_11 : decode cX9_worked 11 = .ok (.iload_n 2, 1) := by decide +kernel
theorem dX9_worked_12 : decode cX9_worked 12 = .ok (.putfield 52, 3) := by decide +kernel
theorem dX9_worked_15 : decode cX9_worked 15 = .ok (.aload_n 0, 1) := by decide +kernel
theorem dX9_worked_16 : decode cX9_worked 16 = .ok (.iconst (-1), 1) := by decide +kernel
theorem dX9_worked_17 : decode cX9_worked 17 = .ok (.putfield 55, 3) := by decide +kernel
theorem dX9_worked_20 : decode cX9_worked 20 = .ok (.aload_n 0, 1) := by decide +kernel
theorem dX9_worked_21 : decode cX9_worked 21 = .ok (.iconst 0, 1) := by decide +kernel
theorem dX9_worked_22 : decode cX9_worked 22 = .ok (.putfield 84, 3) := by decide +kernel
theorem dX9_worked_25 : decode cX9_worked 25 = .ok (.aload_n 0, 1) := by decide +kernel
theorem dX9_worked_26 : decode cX9_worked 26 = .ok (.invokevirtual 90, 3) := by decide +kernel
theorem dX9_worked_29 : decode cX9_worked 29 = .ok (.istore 4, 2) := by decide +kernel
theorem dX9_worked_31 : decode cX9_worked 31 = .ok (.aload_n 0, 1) := by decide +kernel
theorem dX9_worked_32 : decode cX9_worked 32 = .ok (.getfield 55, 3) := by decide +kernel
theorem dX9_worked_35 : decode cX9_worked 35 = .ok (.ifCond .ge 19, 3) := by decide +kernel
theorem dX9_worked_38 : decode cX9_worked 38 = .ok (.aload_n 0, 1) := by decide +kernel
theorem dX9_worked_39 : decode cX9_worked 39 = .ok (.getfield 49, 3) := by decide +kernel
theorem dX9_worked_42 : decode cX9_worked 42 = .ok (.aload_n 0, 1) := by decide +kernel
theorem dX9_worked_43 : decode cX9_worked 43 = .ok (.getfield 52, 3) := by decide +kernel
theorem dX9_worked_46 : decode cX9_worked 46 = .ok (.if_icmp .ge 8, 3) := by decide +kernel
theorem dX9_worked_49 : decode cX9_worked 49 = .ok (.aload_n 0, 1) := by decide +kernel
theorem dX9_worked_50 : decode cX9_worked 50 = .ok (.invokevirtual 87, 3) := by decide +kernel
theorem dX9_worked_53 : decode cX9_worked 53 = .ok (.ireturn, 1) := by decide +kernel
theorem dX9_worked_54 : decode cX9_worked 54 = .ok (.iload 4, 2) := by decide +kernel
theorem dX9_worked_56 : decode cX9_worked 56 = .ok (.ireturn, 1) := by decide +kernel
theorem dX9_feed_0 : decode cX9_feed 0 = .ok (.iload_n 3, 1) := by decide +kernel
theorem dX9_feed_1 : decode cX9_feed 1 = .ok (.i2l, 1) := by decide +kernel
theorem dX9_feed_2 : decode cX9_feed 2 = .ok (.lconst 1, 1) := by decide +kernel
theorem dX9_feed_3 : decode cX9_feed 3 = .ok (.ldc2_w 101, 3) := by decide +kernel
theorem dX9_feed_6 : decode cX9_feed 6 = .ok (.invokestatic 45, 3) := by decide +kernel
theorem dX9_feed_9 : decode cX9_feed 9 = .ok (.ifCond .ne 9, 3) := by decide +kernel
theorem dX9_feed_12 : decode cX9_feed 12 = .ok (.aload_n 0, 1) := by decide +kernel
theorem dX9_feed_13 : decode cX9_feed 13 = .ok (.iconst 1, 1) := by decide +kernel
theorem dX9_feed_14 : decode cX9_feed 14 = .ok (.invokevirtual 103, 3) := by decide +kernel
theorem dX9_feed_17 : decode cX9_feed 17 = .ok (.ireturn, 1) := by decide +kernel
theorem dX9_feed_18 : decode cX9_feed 18 = .ok (.aload_n 0, 1) := by decide +kernel
theorem dX9_feed_19 : decode cX9_feed 19 = .ok (.getfield 7, 3) := by decide +kernel
theorem dX9_feed_22 : decode cX9_feed 22 = .ok (.bipush 9, 2) := by decide +kernel
theorem dX9_feed_24 : decode cX9_feed 24 = .ok (.iaload, 1) := by decide +kernel
theorem dX9_feed_25 : decode cX9_feed 25 = .ok (.iload_n 3, 1) := by decide +kernel
theorem dX9_feed_26 : decode cX9_feed 26 = .ok (.iadd, 1) := by decide +kernel
theorem dX9_feed_27 : decode cX9_feed 27 = .ok (.bipush 50, 2) := by decide +kernel
theorem dX9_feed_29 : decode cX9_feed 29 = .ok (.if_icmp .le 9, 3) := by decide +kernel
theorem dX9_feed_32 : decode cX9_feed 32 = .ok (.aload_n 0, 1) := by decide +kernel
theorem dX9_feed_33 : decode cX9_feed 33 = .ok (.iconst 4, 1) := by decide +kernel
theorem dX9_feed_34 : decode cX9_feed 34 = .ok (.invokevirtual 103, 3) := by decide +kernel
theorem dX9_feed_37 : decode cX9_feed 37 = .ok (.ireturn, 1) := by decide +kernel
theorem dX9_feed_38 : decode cX9_feed 38 = .ok (.iconst 0, 1) := by decide +kernel
theorem dX9_feed_39 : decode cX9_feed 39 = .ok (.istore 4, 2) := by decide +kernel
theorem dX9_feed_41 : decode cX9_feed 41 = .ok (.iload 4, 2) := by decide +kernel
theorem dX9_feed_43 : decode cX9_feed 43 = .ok (.iload_n 3, 1) := by decide +kernel
theorem dX9_feed_44 : decode cX9_feed 44 = .ok (.if_icmp .ge 48, 3) := by decide +kernel
theorem dX9_feed_47 : decode cX9_feed 47 = .ok (.aload_n 0, 1) := by decide +kernel
theorem dX9_feed_48 : decode cX9_feed 48 = .ok (.getfield 7, 3) := by decide +kernel
theorem dX9_feed_51 : decode cX9_feed 51 = .ok (.sipush 212, 3) := by decide +kernel
theorem dX9_feed_54 : decode cX9_feed 54 = .ok (.aload_n 0, 1) := by decide +kernel
theorem dX9_feed_55 : decode cX9_feed 55 = .ok (.getfield 7, 3) := by decide +kernel
theorem dX9_feed_58 : decode cX9_feed 58 = .ok (.bipush 9, 2) := by decide +kernel
theorem dX9_feed_60 : decode cX9_feed 60 = .ok (.iaload, 1) := by decide +kernel
theorem dX9_feed_61 : decode cX9_feed 61 = .ok (.iadd, 1) := by decide +kernel
theorem dX9_feed_62 : decode cX9_feed 62 = .ok (.lload_n 1, 1) := by decide +kernel
theorem dX9_feed_63 : decode cX9_feed 63 = .ok (.bipush 8, 2) := by decide +kernel
theorem dX9_feed_65 : decode cX9_feed 65 = .ok (.iload 4, 2) := by decide +kernel
theorem dX9_feed_67 : decode cX9_feed 67 = .ok (.imul, 1) := by decide +kernel
theorem dX9_feed_68 : decode cX9_feed 68 = .ok (.lshr, 1) := by decide +kernel
theorem dX9_feed_69 : decode cX9_feed 69 = .ok (.ldc2_w 106, 3) := by decide +kernel
theorem dX9_feed_72 : decode cX9_feed 72 = .ok (.land, 1) := by decide +kernel
theorem dX9_feed_73 : decode cX9_feed 73 = .ok (.l2i, 1) := by decide +kernel
theorem dX9_feed_74 : decode cX9_feed 74 = .ok (.iastore, 1) := by decide +kernel
theorem dX9_feed_75 : decode cX9_feed 75 = .ok (.aload_n 0, 1) := by decide +kernel
theorem dX9_feed_76 : decode cX9_feed 76 = .ok (.getfield 7, 3) := by decide +kernel
theorem dX9_feed_79 : decode cX9_feed 79 = .ok (.bipush 9, 2) := by decide +kernel
theorem dX9_feed_81 : decode cX9_feed 81 = .ok (.dup2, 1) := by decide +kernel
theorem dX9_feed_82 : decode cX9_feed 82 = .ok (.iaload, 1) := by decide +kernel
theorem dX9_feed_83 : decode cX9_feed 83 = .ok (.iconst 1, 1) := by decide +kernel
theorem dX9_feed_84 : decode cX9_feed 84 = .ok (.iadd, 1) := by decide +kernel
theorem dX9_feed_85 : decode cX9_feed 85 = .ok (.iastore, 1) := by decide +kernel
theorem dX9_feed_86 : decode cX9_feed 86 = .ok (.iinc 4 1, 3) := by decide +kernel
theorem dX9_feed_89 : decode cX9_feed 89 = .ok (.goto (-48), 3) := by decide +kernel
theorem dX9_feed_92 : decode cX9_feed 92 = .ok (.aload_n 0, 1) := by decide +kernel
theorem dX9_feed_93 : decode cX9_feed 93 = .ok (.getfield 7, 3) := by decide +kernel
theorem dX9_feed_96 : decode cX9_feed 96 = .ok (.bipush 9, 2) := by decide +kernel
theorem dX9_feed_98 : decode cX9_feed 98 = .ok (.iaload, 1) := by decide +kernel
theorem dX9_feed_99 : decode cX9_feed 99 = .ok (.ireturn, 1) := by decide +kernel
theorem dX9_text_0 : decode cX9_text 0 = .ok (.iload_n 1, 1) := by decide +kernel
theorem dX9_text_1 : decode cX9_text 1 = .ok (.i2l, 1) := by decide +kernel
theorem dX9_text_2 : decode cX9_text 2 = .ok (.lconst 0, 1) := by decide +kernel
theorem dX9_text_3 : decode cX9_text 3 = .ok (.lconst 1, 1) := by decide +kernel
theorem dX9_text_4 : decode cX9_text 4 = .ok (.invokestatic 45, 3) := by decide +kernel
theorem dX9_text_7 : decode cX9_text 7 = .ok (.ifCond .ne 9, 3) := by decide +kernel
theorem dX9_text_10 : decode cX9_text 10 = .ok (.aload_n 0, 1) := by decide +kernel
theorem dX9_text_11 : decode cX9_text 11 = .ok (.iconst 1, 1) := by decide +kernel
theorem dX9_text_12 : decode cX9_text 12 = .ok (.invokevirtual 103, 3) := by decide +kernel
theorem dX9_text_15 : decode cX9_text 15 = .ok (.ireturn, 1) := by decide +kernel
theorem dX9_text_16 : decode cX9_text 16 = .ok (.aload_n 0, 1) := by decide +kernel
theorem dX9_text_17 : decode cX9_text 17 = .ok (.getfield 7, 3) := by decide +kernel
theorem dX9_text_20 : decode cX9_text 20 = .ok (.bipush 9, 2) := by decide +kernel
theorem dX9_text_22 : decode cX9_text 22 = .ok (.iaload, 1) := by decide +kernel
theorem dX9_text_23 : decode cX9_text 23 = .ok (.istore_n 2, 1) := by decide +kernel
theorem dX9_text_24 : decode cX9_text 24 = .ok (.aload_n 0, 1) := by decide +kernel
theorem dX9_text_25 : decode cX9_text 25 = .ok (.getfield 7, 3) := by decide +kernel
theorem dX9_text_28 : decode cX9_text 28 = .ok (.bipush 9, 2) := by decide +kernel
theorem dX9_text_30 : decode cX9_text 30 = .ok (.iconst 0, 1) := by decide +kernel
theorem dX9_text_31 : decode cX9_text 31 = .ok (.iastore, 1) := by decide +kernel
theorem dX9_text_32 : decode cX9_text 32 = .ok (.aload_n 0, 1) := by decide +kernel
theorem dX9_text_33 : decode cX9_text 33 = .ok (.sipush 212, 3) := by decide +kernel
theorem dX9_text_36 : decode cX9_text 36 = .ok (.iload_n 2, 1) := by decide +kernel
theorem dX9_text_37 : decode cX9_text 37 = .ok (.iload_n 1, 1) := by decide +kernel
theorem dX9_text_38 : decode cX9_text 38 = .ok (.invokevirtual 108, 3) := by decide +kernel
theorem dX9_text_41 : decode cX9_text 41 = .ok (.istore_n 3, 1) := by decide +kernel
theorem dX9_text_42 : decode cX9_text 42 = .ok (.aload_n 0, 1) := by decide +kernel
theorem dX9_text_43 : decode cX9_text 43 = .ok (.getfield 55, 3) := by decide +kernel
theorem dX9_text_46 : decode cX9_text 46 = .ok (.ifCond .lt 11, 3) := by decide +kernel
theorem dX9_text_49 : decode cX9_text 49 = .ok (.bipush (-10), 2) := by decide +kernel
theorem dX9_text_51 : decode cX9_text 51 = .ok (.aload_n 0, 1) := by decide +kernel
theorem dX9_text_52 : decode cX9_text 52 = .ok (.getfield 55, 3) := by decide +kernel
theorem dX9_text_55 : decode cX9_text 55 = .ok (.isub, 1) := by decide +kernel
theorem dX9_text_56 : decode cX9_text 56 = .ok (.ireturn, 1) := by decide +kernel
theorem dX9_text_57 : decode cX9_text 57 = .ok (.aload_n 0, 1) := by decide +kernel
theorem dX9_text_58 : decode cX9_text 58 = .ok (.getfield 7, 3) := by decide +kernel
theorem dX9_text_61 : decode cX9_text 61 = .ok (.bipush 90, 2) := by decide +kernel
theorem dX9_text_63 : decode cX9_text 63 = .ok (.iload_n 1, 1) := by decide +kernel
theorem dX9_text_64 : decode cX9_text 64 = .ok (.iadd, 1) := by decide +kernel
theorem dX9_text_65 : decode cX9_text 65 = .ok (.iload_n 2, 1) := by decide +kernel
theorem dX9_text_66 : decode cX9_text 66 = .ok (.iastore, 1) := by decide +kernel
theorem dX9_text_67 : decode cX9_text 67 = .ok (.iconst 0, 1) := by decide +kernel
theorem dX9_text_68 : decode cX9_text 68 = .ok (.istore 4, 2) := by decide +kernel
theorem dX9_text_70 : decode cX9_text 70 = .ok (.iload 4, 2) := by decide +kernel
theorem dX9_text_72 : decode cX9_text 72 = .ok (.iload_n 2, 1) := by decide +kernel
theorem dX9_text_73 : decode cX9_text 73 = .ok (.if_icmp .ge 35, 3) := by decide +kernel
theorem dX9_text_76 : decode cX9_text 76 = .ok (.aload_n 0, 1) := by decide +kernel
theorem dX9_text_77 : decode cX9_text 77 = .ok (.getfield 7, 3) := by decide +kernel
theorem dX9_text_80 : decode cX9_text 80 = .ok (.bipush 112, 2) := by decide +kernel
theorem dX9_text_82 : decode cX9_text 82 = .ok (.bipush 50, 2) := by decide +kernel
theorem dX9_text_84 : decode cX9_text 84 = .ok (.iload_n 1, 1) := by decide +kernel
theorem dX9_text_85 : decode cX9_text 85 = .ok (.imul, 1) := by decide +kernel
theorem dX9_text_86 : decode cX9_text 86 = .ok (.iadd, 1) := by decide +kernel
theorem dX9_text_87 : decode cX9_text 87 = .ok (.iload 4, 2) := by decide +kernel
theorem dX9_text_89 : decode cX9_text 89 = .ok (.iadd, 1) := by decide +kernel
theorem dX9_text_90 : decode cX9_text 90 = .ok (.aload_n 0, 1) := by decide +kernel
theorem dX9_text_91 : decode cX9_text 91 = .ok (.getfield 7, 3) := by decide +kernel
theorem dX9_text_94 : decode cX9_text 94 = .ok (.sipush 212, 3) := by decide +kernel
theorem dX9_text_97 : decode cX9_text 97 = .ok (.iload 4, 2) := by decide +kernel
theorem dX9_text_99 : decode cX9_text 99 = .ok (.iadd, 1) := by decide +kernel
theorem dX9_text_100 : decode cX9_text 100 = .ok (.iaload, 1) := by decide +kernel
theorem dX9_text_101 : decode cX9_text 101 = .ok (.iastore, 1) := by decide +kernel
theorem dX9_text_102 : decode cX9_text 102 = .ok (.iinc 4 1, 3) := by decide +kernel
theorem dX9_text_105 : decode cX9_text 105 = .ok (.goto (-35), 3) := by decide +kernel
theorem dX9_text_108 : decode cX9_text 108 = .ok (.iconst 1, 1) := by decide +kernel
theorem dX9_text_109 : decode cX9_text 109 = .ok (.ireturn, 1) := by decide +kernel
theorem dX9_textGives_0 : decode cX9_textGives 0 = .ok (.iload_n 1, 1) := by decide +kernel
theorem dX9_textGives_1 : decode cX9_textGives 1 = .ok (.ifCond .ne 11, 3) := by decide +kernel
theorem dX9_textGives_4 : decode cX9_textGives 4 = .ok (.iconst 3, 1) := by decide +kernel
theorem dX9_textGives_5 : decode cX9_textGives 5 = .ok (.iload_n 2, 1) := by decide +kernel
theorem dX9_textGives_6 : decode cX9_textGives 6 = .ok (.iconst 2, 1) := by decide +kernel
theorem dX9_textGives_7 : decode cX9_textGives 7 = .ok (.imul, 1) := by decide +kernel
theorem dX9_textGives_8 : decode cX9_textGives 8 = .ok (.iadd, 1) := by decide +kernel
theorem dX9_textGives_9 : decode cX9_textGives 9 = .ok (.goto 13, 3) := by decide +kernel
theorem dX9_textGives_12 : decode cX9_textGives 12 = .ok (.iload_n 3, 1) := by decide +kernel
theorem dX9_textGives_13 : decode cX9_textGives 13 = .ok (.iconst 3, 1) := by decide +kernel
theorem dX9_textGives_14 : decode cX9_textGives 14 = .ok (.imul, 1) := by decide +kernel
theorem dX9_textGives_15 : decode cX9_textGives 15 = .ok (.bipush 30, 2) := by decide +kernel
theorem dX9_textGives_17 : decode cX9_textGives 17 = .ok (.iadd, 1) := by decide +kernel
theorem dX9_textGives_18 : decode cX9_textGives 18 = .ok (.iload_n 2, 1) := by decide +kernel
theorem dX9_textGives_19 : decode cX9_textGives 19 = .ok (.iconst 2, 1) := by decide +kernel
theorem dX9_textGives_20 : decode cX9_textGives 20 = .ok (.imul, 1) := by decide +kernel
theorem dX9_textGives_21 : decode cX9_textGives 21 = .ok (.isub, 1) := by decide +kernel
theorem dX9_textGives_22 : decode cX9_textGives 22 = .ok (.istore 5, 2) := by decide +kernel
theorem dX9_textGives_24 : decode cX9_textGives 24 = .ok (.aload_n 0, 1) := by decide +kernel
theorem dX9_textGives_25 : decode cX9_textGives 25 = .ok (.getfield 7, 3) := by decide +kernel
theorem dX9_textGives_28 : decode cX9_textGives 28 = .ok (.bipush 90, 2) := by decide +kernel
theorem dX9_textGives_30 : decode cX9_textGives 30 = .ok (.iload_n 1, 1) := by decide +kernel
theorem dX9_textGives_31 : decode cX9_textGives 31 = .ok (.iadd, 1) := by decide +kernel
theorem dX9_textGives_32 : decode cX9_textGives 32 = .ok (.iaload, 1) := by decide +kernel
theorem dX9_textGives_33 : decode cX9_textGives 33 = .ok (.ifCond .le 48, 3) := by decide +kernel
theorem dX9_textGives_36 : decode cX9_textGives 36 = .ok (.aload_n 0, 1) := by decide +kernel
theorem dX9_textGives_37 : decode cX9_textGives 37 = .ok (.getfield 19, 3) := by decide +kernel
theorem dX9_textGives_40 : decode cX9_textGives 40 = .ok (.iconst 0, 1) := by decide +kernel
theorem dX9_textGives_41 : decode cX9_textGives 41 = .ok (.iload_n 2, 1) := by decide +kernel
theorem dX9_textGives_42 : decode cX9_textGives 42 = .ok (.iastore, 1) := by decide +kernel
theorem dX9_textGives_43 : decode cX9_textGives 43 = .ok (.aload_n 0, 1) := by decide +kernel
theorem dX9_textGives_44 : decode cX9_textGives 44 = .ok (.getfield 19, 3) := by decide +kernel
theorem dX9_textGives_47 : decode cX9_textGives 47 = .ok (.iconst 1, 1) := by decide +kernel
theorem dX9_textGives_48 : decode cX9_textGives 48 = .ok (.iload_n 3, 1) := by decide +kernel
theorem dX9_textGives_49 : decode cX9_textGives 49 = .ok (.iastore, 1) := by decide +kernel
theorem dX9_textGives_50 : decode cX9_textGives 50 = .ok (.aload_n 0, 1) := by decide +kernel
theorem dX9_textGives_51 : decode cX9_textGives 51 = .ok (.getfield 19, 3) := by decide +kernel
theorem dX9_textGives_54 : decode cX9_textGives 54 = .ok (.iconst 2, 1) := by decide +kernel
theorem dX9_textGives_55 : decode cX9_textGives 55 = .ok (.iload 4, 2) := by decide +kernel
theorem dX9_textGives_57 : decode cX9_textGives 57 = .ok (.iastore, 1) := by decide +kernel
theorem dX9_textGives_58 : decode cX9_textGives 58 = .ok (.aload_n 0, 1) := by decide +kernel
theorem dX9_textGives_59 : decode cX9_textGives 59 = .ok (.bipush 112, 2) := by decide +kernel
theorem dX9_textGives_61 : decode cX9_textGives 61 = .ok (.bipush 50, 2) := by decide +kernel
theorem dX9_textGives_63 : decode cX9_textGives 63 = .ok (.iload_n 1, 1) := by decide +kernel
theorem dX9_textGives_64 : decode cX9_textGives 64 = .ok (.imul, 1) := by decide +kernel
theorem dX9_textGives_65 : decode cX9_textGives 65 = .ok (.iadd, 1) := by decide +kernel
theorem dX9_textGives_66 : decode cX9_textGives 66 = .ok (.aload_n 0, 1) := by decide +kernel
theorem dX9_textGives_67 : decode cX9_textGives 67 = .ok (.getfield 7, 3) := by decide +kernel
theorem dX9_textGives_70 : decode cX9_textGives 70 = .ok (.bipush 90, 2) := by decide +kernel
theorem dX9_textGives_72 : decode cX9_textGives 72 = .ok (.iload_n 1, 1) := by decide +kernel
theorem dX9_textGives_73 : decode cX9_textGives 73 = .ok (.iadd, 1) := by decide +kernel
theorem dX9_textGives_74 : decode cX9_textGives 74 = .ok (.iaload, 1) := by decide +kernel
theorem dX9_textGives_75 : decode cX9_textGives 75 = .ok (.iload_n 1, 1) := by decide +kernel
theorem dX9_textGives_76 : decode cX9_textGives 76 = .ok (.invokevirtual 108, 3) := by decide +kernel
theorem dX9_textGives_79 : decode cX9_textGives 79 = .ok (.istore 5, 2) := by decide +kernel
theorem dX9_textGives_81 : decode cX9_textGives 81 = .ok (.iload_n 1, 1) := by decide +kernel
theorem dX9_textGives_82 : decode cX9_textGives 82 = .ok (.ifCond .ne 14, 3) := by decide +kernel
theorem dX9_textGives_85 : decode cX9_textGives 85 = .ok (.iload 5, 2) := by decide +kernel
theorem dX9_textGives_87 : decode cX9_textGives 87 = .ok (.iconst 1, 1) := by decide +kernel
theorem dX9_textGives_88 : decode cX9_textGives 88 = .ok (.bipush 30, 2) := by decide +kernel
theorem dX9_textGives_90 : decode cX9_textGives 90 = .ok (.invokestatic 112, 3) := by decide +kernel
theorem dX9_textGives_93 : decode cX9_textGives 93 = .ok (.goto 12, 3) := by decide +kernel
theorem dX9_textGives_96 : decode cX9_textGives 96 = .ok (.iload 5, 2) := by decide +kernel
theorem dX9_textGives_98 : decode cX9_textGives 98 = .ok (.bipush (-99), 2) := by decide +kernel
theorem dX9_textGives_100 : decode cX9_textGives 100 = .ok (.bipush 99, 2) := by decide +kernel
theorem dX9_textGives_102 : decode cX9_textGives 102 = .ok (.invokestatic 112, 3) := by decide +kernel
theorem dX9_textGives_105 : decode cX9_textGives 105 = .ok (.ireturn, 1) := by decide +kernel
theorem dX9_law_0 : decode cX9_law 0 = .ok (.iload_n 1, 1) := by decide +kernel
theorem dX9_law_1 : decode cX9_law 1 = .ok (.i2l, 1) := by decide +kernel
theorem dX9_law_2 : decode cX9_law 2 = .ok (.lconst 0, 1) := by decide +kernel
theorem dX9_law_3 : decode cX9_law 3 = .ok (.lconst 1, 1) := by decide +kernel
theorem dX9_law_4 : decode cX9_law 4 = .ok (.invokestatic 45, 3) := by decide +kernel
theorem dX9_law_7 : decode cX9_law 7 = .ok (.ifCond .eq 15, 3) := by decide +kernel
theorem dX9_law_10 : decode cX9_law 10 = .ok (.aload_n 0, 1) := by decide +kernel
theorem dX9_law_11 : decode cX9_law 11 = .ok (.iload_n 1, 1) := by decide +kernel
theorem dX9_law_12 : decode cX9_law 12 = .ok (.iload_n 2, 1) := by decide +kernel
theorem dX9_law_13 : decode cX9_law 13 = .ok (.iload_n 3, 1) := by decide +kernel
theorem dX9_law_14 : decode cX9_law 14 = .ok (.iload 4, 2) := by decide +kernel
theorem dX9_law_16 : decode cX9_law 16 = .ok (.invokevirtual 115, 3) := by decide +kernel
theorem dX9_law_19 : decode cX9_law 19 = .ok (.goto 8, 3) := by decide +kernel
theorem dX9_law_22 : decode cX9_law 22 = .ok (.aload_n 0, 1) := by decide +kernel
theorem dX9_law_23 : decode cX9_law 23 = .ok (.iconst 1, 1) := by decide +kernel
theorem dX9_law_24 : decode cX9_law 24 = .ok (.invokevirtual 103, 3) := by decide +kernel
theorem dX9_law_27 : decode cX9_law 27 = .ok (.ireturn, 1) := by decide +kernel
theorem dX9_isSwing_0 : decode cX9_isSwing 0 = .ok (.iload_n 0, 1) := by decide +kernel
theorem dX9_isSwing_1 : decode cX9_isSwing 1 = .ok (.i2l, 1) := by decide +kernel
theorem dX9_isSwing_2 : decode cX9_isSwing 2 = .ok (.lconst 0, 1) := by decide +kernel
theorem dX9_isSwing_3 : decode cX9_isSwing 3 = .ok (.lconst 1, 1) := by decide +kernel
theorem dX9_isSwing_4 : decode cX9_isSwing 4 = .ok (.invokestatic 45, 3) := by decide +kernel
theorem dX9_isSwing_7 : decode cX9_isSwing 7 = .ok (.ireturn, 1) := by decide +kernel
theorem dX9_barOf_0 : decode cX9_barOf 0 = .ok (.aload_n 0, 1) := by decide +kernel
theorem dX9_barOf_1 : decode cX9_barOf 1 = .ok (.getfield 7, 3) := by decide +kernel
theorem dX9_barOf_4 : decode cX9_barOf 4 = .ok (.bipush 12, 2) := by decide +kernel
theorem dX9_barOf_6 : decode cX9_barOf 6 = .ok (.iconst 3, 1) := by decide +kernel
theorem dX9_barOf_7 : decode cX9_barOf 7 = .ok (.iload_n 1, 1) := by decide +kernel
theorem dX9_barOf_8 : decode cX9_barOf 8 = .ok (.imul, 1) := by decide +kernel
theorem dX9_barOf_9 : decode cX9_barOf 9 = .ok (.iadd, 1) := by decide +kernel
theorem dX9_barOf_10 : decode cX9_barOf 10 = .ok (.iaload, 1) := by decide +kernel
theorem dX9_barOf_11 : decode cX9_barOf 11 = .ok (.istore_n 3, 1) := by decide +kernel
theorem dX9_barOf_12 : decode cX9_barOf 12 = .ok (.aload_n 0, 1) := by decide +kernel
theorem dX9_barOf_13 : decode cX9_barOf 13 = .ok (.getfield 7, 3) := by decide +kernel
theorem dX9_barOf_16 : decode cX9_barOf 16 = .ok (.bipush 12, 2) := by decide +kernel
theorem dX9_barOf_18 : decode cX9_barOf 18 = .ok (.iconst 3, 1) := by decide +kernel
theorem dX9_barOf_19 : decode cX9_barOf 19 = .ok (.iload_n 1, 1) := by decide +kernel
theorem dX9_barOf_20 : decode cX9_barOf 20 = .ok (.imul, 1) := by decide +kernel
theorem dX9_barOf_21 : decode cX9_barOf 21 = .ok (.iadd, 1) := by decide +kernel
theorem dX9_barOf_22 : decode cX9_barOf 22 = .ok (.iconst 1, 1) := by decide +kernel
theorem dX9_barOf_23 : decode cX9_barOf 23 = .ok (.iadd, 1) := by decide +kernel
theorem dX9_barOf_24 : decode cX9_barOf 24 = .ok (.iaload, 1) := by decide +kernel
theorem dX9_barOf_25 : decode cX9_barOf 25 = .ok (.istore 4, 2) := by decide +kernel
theorem dX9_barOf_27 : decode cX9_barOf 27 = .ok (.iload_n 2, 1) := by decide +kernel
theorem dX9_barOf_28 : decode cX9_barOf 28 = .ok (.aload_n 0, 1) := by decide +kernel
theorem dX9_barOf_29 : decode cX9_barOf 29 = .ok (.getfield 7, 3) := by decide +kernel
theorem dX9_barOf_32 : decode cX9_barOf 32 = .ok (.bipush 12, 2) := by decide +kernel
theorem dX9_barOf_34 : decode cX9_barOf 34 = .ok (.iconst 3, 1) := by decide +kernel
theorem dX9_barOf_35 : decode cX9_barOf 35 = .ok (.iload_n 1, 1) := by decide +kernel
theorem dX9_barOf_36 : decode cX9_barOf 36 = .ok (.imul, 1) := by decide +kernel
theorem dX9_barOf_37 : decode cX9_barOf 37 = .ok (.iadd, 1) := by decide +kernel
theorem dX9_barOf_38 : decode cX9_barOf 38 = .ok (.iconst 2, 1) := by decide +kernel
theorem dX9_barOf_39 : decode cX9_barOf 39 = .ok (.iadd, 1) := by decide +kernel
theorem dX9_barOf_40 : decode cX9_barOf 40 = .ok (.iaload, 1) := by decide +kernel
theorem dX9_barOf_41 : decode cX9_barOf 41 = .ok (.iadd, 1) := by decide +kernel
theorem dX9_barOf_42 : decode cX9_barOf 42 = .ok (.iload_n 3, 1) := by decide +kernel
theorem dX9_barOf_43 : decode cX9_barOf 43 = .ok (.irem, 1) := by decide +kernel
theorem dX9_barOf_44 : decode cX9_barOf 44 = .ok (.istore 5, 2) := by decide +kernel
theorem dX9_barOf_46 : decode cX9_barOf 46 = .ok (.iload 5, 2) := by decide +kernel
theorem dX9_barOf_48 : decode cX9_barOf 48 = .ok (.iload 5, 2) := by decide +kernel
theorem dX9_barOf_50 : decode cX9_barOf 50 = .ok (.ifCond .ge 7, 3) := by decide +kernel
theorem dX9_barOf_53 : decode cX9_barOf 53 = .ok (.iload_n 3, 1) := by decide +kernel
theorem dX9_barOf_54 : decode cX9_barOf 54 = .ok (.goto 4, 3) := by decide +kernel
theorem dX9_barOf_57 : decode cX9_barOf 57 = .ok (.iconst 0, 1) := by decide +kernel
theorem dX9_barOf_58 : decode cX9_barOf 58 = .ok (.iadd, 1) := by decide +kernel
theorem dX9_barOf_59 : decode cX9_barOf 59 = .ok (.istore 5, 2) := by decide +kernel
theorem dX9_barOf_61 : decode cX9_barOf 61 = .ok (.iconst 2, 1) := by decide +kernel
theorem dX9_barOf_62 : decode cX9_barOf 62 = .ok (.iload 5, 2) := by decide +kernel
theorem dX9_barOf_64 : decode cX9_barOf 64 = .ok (.imul, 1) := by decide +kernel
theorem dX9_barOf_65 : decode cX9_barOf 65 = .ok (.iload_n 3, 1) := by decide +kernel
theorem dX9_barOf_66 : decode cX9_barOf 66 = .ok (.isub, 1) := by decide +kernel
theorem dX9_barOf_67 : decode cX9_barOf 67 = .ok (.istore 6, 2) := by decide +kernel
theorem dX9_barOf_69 : decode cX9_barOf 69 = .ok (.iconst 2, 1) := by decide +kernel
theorem dX9_barOf_70 : decode cX9_barOf 70 = .ok (.iload 4, 2) := by decide +kernel
theorem dX9_barOf_72 : decode cX9_barOf 72 = .ok (.imul, 1) := by decide +kernel
theorem dX9_barOf_73 : decode cX9_barOf 73 = .ok (.iload 6, 2) := by decide +kernel
theorem dX9_barOf_75 : decode cX9_barOf 75 = .ok (.ifCond .ge 9, 3) := by decide +kernel
theorem dX9_barOf_78 : decode cX9_barOf 78 = .ok (.iload 6, 2) := by decide +kernel
theorem dX9_barOf_80 : decode cX9_barOf 80 = .ok (.ineg, 1) := by decide +kernel
theorem dX9_barOf_81 : decode cX9_barOf 81 = .ok (.goto 5, 3) := by decide +kernel
theorem dX9_barOf_84 : decode cX9_barOf 84 = .ok (.iload 6, 2) := by decide +kernel
theorem dX9_barOf_86 : decode cX9_barOf 86 = .ok (.imul, 1) := by decide +kernel
theorem dX9_barOf_87 : decode cX9_barOf 87 = .ok (.iload_n 3, 1) := by decide +kernel
theorem dX9_barOf_88 : decode cX9_barOf 88 = .ok (.idiv, 1) := by decide +kernel
theorem dX9_barOf_89 : decode cX9_barOf 89 = .ok (.iload 4, 2) := by decide +kernel
theorem dX9_barOf_91 : decode cX9_barOf 91 = .ok (.isub, 1) := by decide +kernel
theorem dX9_barOf_92 : decode cX9_barOf 92 = .ok (.ireturn, 1) := by decide +kernel
theorem dX9_catcherAt_0 : decode cX9_catcherAt 0 = .ok (.aload_n 0, 1) := by decide +kernel
theorem dX9_catcherAt_1 : decode cX9_catcherAt 1 = .ok (.getfield 7, 3) := by decide +kernel
theorem dX9_catcherAt_4 : decode cX9_catcherAt 4 = .ok (.iconst 5, 1) := by decide +kernel
theorem dX9_catcherAt_5 : decode cX9_catcherAt 5 = .ok (.iaload, 1) := by decide +kernel
theorem dX9_catcherAt_6 : decode cX9_catcherAt 6 = .ok (.aload_n 0, 1) := by decide +kernel
theorem dX9_catcherAt_7 : decode cX9_catcherAt 7 = .ok (.iconst 1, 1) := by decide +kernel
theorem dX9_catcherAt_8 : decode cX9_catcherAt 8 = .ok (.iload_n 1, 1) := by decide +kernel
theorem dX9_catcherAt_9 : decode cX9_catcherAt 9 = .ok (.invokevirtual 119, 3) := by decide +kernel
theorem dX9_catcherAt_12 : decode cX9_catcherAt 12 = .ok (.isub, 1) := by decide +kernel
theorem dX9_catcherAt_13 : decode cX9_catcherAt 13 = .ok (.ireturn, 1) := by decide +kernel
theorem dX9_swing_0 : decode cX9_swing 0 = .ok (.iload_n 1, 1) := by decide +kernel
theorem dX9_swing_1 : decode cX9_swing 1 = .ok (.invokestatic 123, 3) := by decide +kernel
theorem dX9_swing_4 : decode cX9_swing 4 = .ok (.ifCond .eq 15, 3) := by decide +kernel
theorem dX9_swing_7 : decode cX9_swing 7 = .ok (.iload_n 2, 1) := by decide +kernel
theorem dX9_swing_8 : decode cX9_swing 8 = .ok (.i2l, 1) := by decide +kernel
theorem dX9_swing_9 : decode cX9_swing 9 = .ok (.lconst 0, 1) := by decide +kernel
theorem dX9_swing_10 : decode cX9_swing 10 = .ok (.ldc2_w 126, 3) := by decide +kernel
theorem dX9_swing_13 : decode cX9_swing 13 = .ok (.invokestatic 45, 3) := by decide +kernel
theorem dX9_swing_16 : decode cX9_swing 16 = .ok (.ifCond .ne 9, 3) := by decide +kernel
theorem dX9_swing_19 : decode cX9_swing 19 = .ok (.aload_n 0, 1) := by decide +kernel
theorem dX9_swing_20 : decode cX9_swing 20 = .ok (.iconst 1, 1) := by decide +kernel
theorem dX9_swing_21 : decode cX9_swing 21 = .ok (.invokevirtual 103, 3) := by decide +kernel
theorem dX9_swing_24 : decode cX9_swing 24 = .ok (.ireturn, 1) := by decide +kernel
theorem dX9_swing_25 : decode cX9_swing 25 = .ok (.bipush 12, 2) := by decide +kernel
theorem dX9_swing_27 : decode cX9_swing 27 = .ok (.iconst 3, 1) := by decide +kernel
theorem dX9_swing_28 : decode cX9_swing 28 = .ok (.iload_n 1, 1) := by decide +kernel
theorem dX9_swing_29 : decode cX9_swing 29 = .ok (.imul, 1) := by decide +kernel
theorem dX9_swing_30 : decode cX9_swing 30 = .ok (.iadd, 1) := by decide +kernel
theorem dX9_swing_31 : decode cX9_swing 31 = .ok (.istore 4, 2) := by decide +kernel
theorem dX9_swing_33 : decode cX9_swing 33 = .ok (.iload_n 2, 1) := by decide +kernel
theorem dX9_swing_34 : decode cX9_swing 34 = .ok (.ifCond .ne 17, 3) := by decide +kernel
theorem dX9_swing_37 : decode cX9_swing 37 = .ok (.iload_n 3, 1) := by decide +kernel
theorem dX9_swing_38 : decode cX9_swing 38 = .ok (.i2l, 1) := by decide +kernel
theorem dX9_swing_39 : decode cX9_swing 39 = .ok (.ldc2_w 128, 3) := by decide +kernel
theorem dX9_swing_42 : decode cX9_swing 42 = .ok (.ldc2_w 130, 3) := by decide +kernel
theorem dX9_swing_45 : decode cX9_swing 45 = .ok (.invokestatic 45, 3) := by decide +kernel
theorem dX9_swing_48 : decode cX9_swing 48 = .ok (.goto 36, 3) := by decide +kernel
theorem dX9_swing_51 : decode cX9_swing 51 = .ok (.iload_n 2, 1) := by decide +kernel
theorem dX9_swing_52 : decode cX9_swing 52 = .ok (.iconst 1, 1) := by decide +kernel
theorem dX9_swing_53 : decode cX9_swing 53 = .ok (.if_icmp .ne 15, 3) := by decide +kernel
theorem dX9_swing_56 : decode cX9_swing 56 = .ok (.iload_n 3, 1) := by decide +kernel
theorem dX9_swing_57 : decode cX9_swing 57 = .ok (.i2l, 1) := by decide +kernel
theorem dX9_swing_58 : decode cX9_swing 58 = .ok (.lconst 1, 1) := by decide +kernel
theorem dX9_swing_59 : decode cX9_swing 59 = .ok (.ldc2_w 132, 3) := by decide +kernel
theorem dX9_swing_62 : decode cX9_swing 62 = .ok (.invokestatic 45, 3) := by decide +kernel
theorem dX9_swing_65 : decode cX9_swing 65 = .ok (.goto 19, 3) := by decide +kernel
theorem dX9_swing_68 : decode cX9_swing 68 = .ok (.iload_n 3, 1) := by decide +kernel
theorem dX9_swing_69 : decode cX9_swing 69 = .ok (.i2l, 1) := by decide +kernel
theorem dX9_swing_70 : decode cX9_swing 70 = .ok (.lconst 0, 1) := by decide +kernel
theorem dX9_swing_71 : decode cX9_swing 71 = .ok (.aload_n 0, 1) := by decide +kernel
theorem dX9_swing_72 : decode cX9_swing 72 = .ok (.getfield 7, 3) := by decide +kernel
theorem dX9_swing_75 : decode cX9_swing 75 = .ok (.iload 4, 2) := by decide +kernel
theorem dX9_swing_77 : decode cX9_swing 77 = .ok (.iaload, 1) := by decide +kernel
theorem dX9_swing_78 : decode cX9_swing 78 = .ok (.iconst 1, 1) := by decide +kernel
theorem dX9_swing_79 : decode cX9_swing 79 = .ok (.isub, 1) := by decide +kernel
theorem dX9_swing_80 : decode cX9_swing 80 = .ok (.i2l, 1) := by decide +kernel
theorem dX9_swing_81 : decode cX9_swing 81 = .ok (.invokestatic 45, 3) := by decide +kernel
theorem dX9_swing_84 : decode cX9_swing 84 = .ok (.istore 5, 2) := by decide +kernel
theorem dX9_swing_86 : decode cX9_swing 86 = .ok (.iload 5, 2) := by decide +kernel
theorem dX9_swing_88 : decode cX9_swing 88 = .ok (.ifCond .ne 9, 3) := by decide +kernel
theorem dX9_swing_91 : decode cX9_swing 91 = .ok (.aload_n 0, 1) := by decide +kernel
theorem dX9_swing_92 : decode cX9_swing 92 = .ok (.iconst 1, 1) := by decide +kernel
theorem dX9_swing_93 : decode cX9_swing 93 = .ok (.invokevirtual 103, 3) := by decide +kernel
theorem dX9_swing_96 : decode cX9_swing 96 = .ok (.ireturn, 1) := by decide +kernel
theorem dX9_swing_97 : decode cX9_swing 97 = .ok (.aload_n 0, 1) := by decide +kernel
theorem dX9_swing_98 : decode cX9_swing 98 = .ok (.getfield 7, 3) := by decide +kernel
theorem dX9_swing_101 : decode cX9_swing 101 = .ok (.iload 4, 2) := by decide +kernel
theorem dX9_swing_103 : decode cX9_swing 103 = .ok (.iload_n 2, 1) := by decide +kernel
theorem dX9_swing_104 : decode cX9_swing 104 = .ok (.iadd, 1) := by decide +kernel
theorem dX9_swing_105 : decode cX9_swing 105 = .ok (.iaload, 1) := by decide +kernel
theorem dX9_swing_106 : decode cX9_swing 106 = .ok (.istore 6, 2) := by decide +kernel
theorem dX9_swing_108 : decode cX9_swing 108 = .ok (.aload_n 0, 1) := by decide +kernel
theorem dX9_swing_109 : decode cX9_swing 109 = .ok (.getfield 7, 3) := by decide +kernel
theorem dX9_swing_112 : decode cX9_swing 112 = .ok (.iload 4, 2) := by decide +kernel
theorem dX9_swing_114 : decode cX9_swing 114 = .ok (.iload_n 2, 1) := by decide +kernel
theorem dX9_swing_115 : decode cX9_swing 115 = .ok (.iadd, 1) := by decide +kernel
theorem dX9_swing_116 : decode cX9_swing 116 = .ok (.iload_n 3, 1) := by decide +kernel
theorem dX9_swing_117 : decode cX9_swing 117 = .ok (.iastore, 1) := by decide +kernel
theorem dX9_swing_118 : decode cX9_swing 118 = .ok (.aload_n 0, 1) := by decide +kernel
theorem dX9_swing_119 : decode cX9_swing 119 = .ok (.getfield 7, 3) := by decide +kernel
theorem dX9_swing_122 : decode cX9_swing 122 = .ok (.iload 4, 2) := by decide +kernel
theorem dX9_swing_124 : decode cX9_swing 124 = .ok (.iconst 2, 1) := by decide +kernel
theorem dX9_swing_125 : decode cX9_swing 125 = .ok (.iadd, 1) := by decide +kernel
theorem dX9_swing_126 : decode cX9_swing 126 = .ok (.dup2, 1) := by decide +kernel
theorem dX9_swing_127 : decode cX9_swing 127 = .ok (.iaload, 1) := by decide +kernel
theorem dX9_swing_128 : decode cX9_swing 128 = .ok (.aload_n 0, 1) := by decide +kernel
theorem dX9_swing_129 : decode cX9_swing 129 = .ok (.getfield 7, 3) := by decide +kernel
theorem dX9_swing_132 : decode cX9_swing 132 = .ok (.iload 4, 2) := by decide +kernel
theorem dX9_swing_134 : decode cX9_swing 134 = .ok (.iaload, 1) := by decide +kernel
theorem dX9_swing_135 : decode cX9_swing 135 = .ok (.irem, 1) := by decide +kernel
theorem dX9_swing_136 : decode cX9_swing 136 = .ok (.iastore, 1) := by decide +kernel
theorem dX9_swing_137 : decode cX9_swing 137 = .ok (.iload 6, 2) := by decide +kernel
theorem dX9_swing_139 : decode cX9_swing 139 = .ok (.ireturn, 1) := by decide +kernel
theorem dX9_bar_0 : decode cX9_bar 0 = .ok (.iload_n 1, 1) := by decide +kernel
theorem dX9_bar_1 : decode cX9_bar 1 = .ok (.invokestatic 123, 3) := by decide +kernel
theorem dX9_bar_4 : decode cX9_bar 4 = .ok (.ifCond .eq 24, 3) := by decide +kernel
theorem dX9_bar_7 : decode cX9_bar 7 = .ok (.iload_n 2, 1) := by decide +kernel
theorem dX9_bar_8 : decode cX9_bar 8 = .ok (.i2l, 1) := by decide +kernel
theorem dX9_bar_9 : decode cX9_bar 9 = .ok (.lconst 0, 1) := by decide +kernel
theorem dX9_bar_10 : decode cX9_bar 10 = .ok (.ldc2_w 134, 3) := by decide +kernel
theorem dX9_bar_13 : decode cX9_bar 13 = .ok (.invokestatic 45, 3) := by decide +kernel
theorem dX9_bar_16 : decode cX9_bar 16 = .ok (.ifCond .eq 12, 3) := by decide +kernel
theorem dX9_bar_19 : decode cX9_bar 19 = .ok (.aload_n 0, 1) := by decide +kernel
theorem dX9_bar_20 : decode cX9_bar 20 = .ok (.iload_n 1, 1) := by decide +kernel
theorem dX9_bar_21 : decode cX9_bar 21 = .ok (.iload_n 2, 1) := by decide +kernel
theorem dX9_bar_22 : decode cX9_bar 22 = .ok (.invokevirtual 119, 3) := by decide +kernel
theorem dX9_bar_25 : decode cX9_bar 25 = .ok (.goto 8, 3) := by decide +kernel
theorem dX9_bar_28 : decode cX9_bar 28 = .ok (.aload_n 0, 1) := by decide +kernel
theorem dX9_bar_29 : decode cX9_bar 29 = .ok (.iconst 1, 1) := by decide +kernel
theorem dX9_bar_30 : decode cX9_bar 30 = .ok (.invokevirtual 103, 3) := by decide +kernel
theorem dX9_bar_33 : decode cX9_bar 33 = .ok (.ireturn, 1) := by decide +kernel
theorem dX9_set_0 : decode cX9_set 0 = .ok (.iload_n 1, 1) := by decide +kernel
theorem dX9_set_1 : decode cX9_set 1 = .ok (.ifCond .ne 15, 3) := by decide +kernel
theorem dX9_set_4 : decode cX9_set 4 = .ok (.iload_n 2, 1) := by decide +kernel
theorem dX9_set_5 : decode cX9_set 5 = .ok (.i2l, 1) := by decide +kernel
theorem dX9_set_6 : decode cX9_set 6 = .ok (.lconst 0, 1) := by decide +kernel
theorem dX9_set_7 : decode cX9_set 7 = .ok (.ldc2_w 136, 3) := by decide +kernel
theorem dX9_set_10 : decode cX9_set 10 = .ok (.invokestatic 45, 3) := by decide +kernel
theorem dX9_set_13 : decode cX9_set 13 = .ok (.goto 44, 3) := by decide +kernel
theorem dX9_set_16 : decode cX9_set 16 = .ok (.iload_n 1, 1) := by decide +kernel
theorem dX9_set_17 : decode cX9_set 17 = .ok (.iconst 1, 1) := by decide +kernel
theorem dX9_set_18 : decode cX9_set 18 = .ok (.if_icmp .ne 15, 3) := by decide +kernel
theorem dX9_set_21 : decode cX9_set 21 = .ok (.iload_n 2, 1) := by decide +kernel
theorem dX9_set_22 : decode cX9_set 22 = .ok (.i2l, 1) := by decide +kernel
theorem dX9_set_23 : decode cX9_set 23 = .ok (.lconst 0, 1) := by decide +kernel
theorem dX9_set_24 : decode cX9_set 24 = .ok (.ldc2_w 138, 3) := by decide +kernel
theorem dX9_set_27 : decode cX9_set 27 = .ok (.invokestatic 45, 3) := by decide +kernel
theorem dX9_set_30 : decode cX9_set 30 = .ok (.goto 27, 3) := by decide +kernel
theorem dX9_set_33 : decode cX9_set 33 = .ok (.iload_n 1, 1) := by decide +kernel
theorem dX9_set_34 : decode cX9_set 34 = .ok (.iconst 2, 1) := by decide +kernel
theorem dX9_set_35 : decode cX9_set 35 = .ok (.if_icmp .ne 21, 3) := by decide +kernel
theorem dX9_set_38 : decode cX9_set 38 = .ok (.iload_n 2, 1) := by decide +kernel
theorem dX9_set_39 : decode cX9_set 39 = .ok (.i2l, 1) := by decide +kernel
theorem dX9_set_40 : decode cX9_set 40 = .ok (.ldc2_w 140, 3) := by decide +kernel
theorem dX9_set_43 : decode cX9_set 43 = .ok (.ldc2_w 142, 3) := by decide +kernel
theorem dX9_set_46 : decode cX9_set 46 = .ok (.invokestatic 45, 3) := by decide +kernel
theorem dX9_set_49 : decode cX9_set 49 = .ok (.ifCond .eq 7, 3) := by decide +kernel
theorem dX9_set_52 : decode cX9_set 52 = .ok (.iconst 1, 1) := by decide +kernel
theorem dX9_set_53 : decode cX9_set 53 = .ok (.goto 4, 3) := by decide +kernel
theorem dX9_set_56 : decode cX9_set 56 = .ok (.iconst 0, 1) := by decide +kernel
theorem dX9_set_57 : decode cX9_set 57 = .ok (.istore_n 3, 1) := by decide +kernel
theorem dX9_set_58 : decode cX9_set 58 = .ok (.iload_n 3, 1) := by decide +kernel
theorem dX9_set_59 : decode cX9_set 59 = .ok (.ifCond .ne 9, 3) := by decide +kernel
theorem dX9_set_62 : decode cX9_set 62 = .ok (.aload_n 0, 1) := by decide +kernel
theorem dX9_set_63 : decode cX9_set 63 = .ok (.iconst 1, 1) := by decide +kernel
theorem dX9_set_64 : decode cX9_set 64 = .ok (.invokevirtual 103, 3) := by decide +kernel
theorem dX9_set_67 : decode cX9_set 67 = .ok (.ireturn, 1) := by decide +kernel
theorem dX9_set_68 : decode cX9_set 68 = .ok (.aload_n 0, 1) := by decide +kernel
theorem dX9_set_69 : decode cX9_set 69 = .ok (.getfield 7, 3) := by decide +kernel
theorem dX9_set_72 : decode cX9_set 72 = .ok (.iconst 5, 1) := by decide +kernel
theorem dX9_set_73 : decode cX9_set 73 = .ok (.iload_n 1, 1) := by decide +kernel
theorem dX9_set_74 : decode cX9_set 74 = .ok (.iadd, 1) := by decide +kernel
theorem dX9_set_75 : decode cX9_set 75 = .ok (.iaload, 1) := by decide +kernel
theorem dX9_set_76 : decode cX9_set 76 = .ok (.istore 4, 2) := by decide +kernel
theorem dX9_set_78 : decode cX9_set 78 = .ok (.aload_n 0, 1) := by decide +kernel
theorem dX9_set_79 : decode cX9_set 79 = .ok (.getfield 7, 3) := by decide +kernel
theorem dX9_set_82 : decode cX9_set 82 = .ok (.iconst 5, 1) := by decide +kernel
theorem dX9_set_83 : decode cX9_set 83 = .ok (.iload_n 1, 1) := by decide +kernel
theorem dX9_set_84 : decode cX9_set 84 = .ok (.iadd, 1) := by decide +kernel
theorem dX9_set_85 : decode cX9_set 85 = .ok (.iload_n 2, 1) := by decide +kernel
theorem dX9_set_86 : decode cX9_set 86 = .ok (.iastore, 1) := by decide +kernel
theorem dX9_set_87 : decode cX9_set 87 = .ok (.iload 4, 2) := by decide +kernel
theorem dX9_set_89 : decode cX9_set 89 = .ok (.ireturn, 1) := by decide +kernel
theorem dX9_lagOf_0 : decode cX9_lagOf 0 = .ok (.aload_n 0, 1) := by decide +kernel
theorem dX9_lagOf_1 : decode cX9_lagOf 1 = .ok (.iload_n 1, 1) := by decide +kernel
theorem dX9_lagOf_2 : decode cX9_lagOf 2 = .ok (.iconst 1, 1) := by decide +kernel
theorem dX9_lagOf_3 : decode cX9_lagOf 3 = .ok (.invokevirtual 144, 3) := by decide +kernel
theorem dX9_lagOf_6 : decode cX9_lagOf 6 = .ok (.istore_n 2, 1) := by decide +kernel
theorem dX9_lagOf_7 : decode cX9_lagOf 7 = .ok (.aload_n 0, 1) := by decide +kernel
theorem dX9_lagOf_8 : decode cX9_lagOf 8 = .ok (.getfield 22, 3) := by decide +kernel
theorem dX9_lagOf_11 : decode cX9_lagOf 11 = .ok (.ifCond .lt 8, 3) := by decide +kernel
theorem dX9_lagOf_14 : decode cX9_lagOf 14 = .ok (.aload_n 0, 1) := by decide +kernel
theorem dX9_lagOf_15 : decode cX9_lagOf 15 = .ok (.getfield 22, 3) := by decide +kernel
theorem dX9_lagOf_18 : decode cX9_lagOf 18 = .ok (.ireturn, 1) := by decide +kernel
theorem dX9_lagOf_19 : decode cX9_lagOf 19 = .ok (.aload_n 0, 1) := by decide +kernel
theorem dX9_lagOf_20 : decode cX9_lagOf 20 = .ok (.iload_n 1, 1) := by decide +kernel
theorem dX9_lagOf_21 : decode cX9_lagOf 21 = .ok (.iconst 0, 1) := by decide +kernel
theorem dX9_lagOf_22 : decode cX9_lagOf 22 = .ok (.invokevirtual 144, 3) := by decide +kernel
theorem dX9_lagOf_25 : decode cX9_lagOf 25 = .ok (.tableswitch 61 2 6 #[35, 45, 61, 41, 45], 35) := by decide +kernel
theorem dX9_lagOf_60 : decode cX9_lagOf 60 = .ok (.iconst 1, 1) := by decide +kernel
theorem dX9_lagOf_61 : decode cX9_lagOf 61 = .ok (.iload_n 2, 1) := by decide +kernel
theorem dX9_lagOf_62 : decode cX9_lagOf 62 = .ok (.iconst 3, 1) := by decide +kernel
theorem dX9_lagOf_63 : decode cX9_lagOf 63 = .ok (.irem, 1) := by decide +kernel
theorem dX9_lagOf_64 : decode cX9_lagOf 64 = .ok (.iadd, 1) := by decide +kernel
theorem dX9_lagOf_65 : decode cX9_lagOf 65 = .ok (.ireturn, 1) := by decide +kernel
theorem dX9_lagOf_66 : decode cX9_lagOf 66 = .ok (.iload_n 2, 1) := by decide +kernel
theorem dX9_lagOf_67 : decode cX9_lagOf 67 = .ok (.iconst 3, 1) := by decide +kernel
theorem dX9_lagOf_68 : decode cX9_lagOf 68 = .ok (.irem, 1) := by decide +kernel
theorem dX9_lagOf_69 : decode cX9_lagOf 69 = .ok (.ireturn, 1) := by decide +kernel
theorem dX9_lagOf_70 : decode cX9_lagOf 70 = .ok (.aload_n 0, 1) := by decide +kernel
theorem dX9_lagOf_71 : decode cX9_lagOf 71 = .ok (.iload_n 1, 1) := by decide +kernel
theorem dX9_lagOf_72 : decode cX9_lagOf 72 = .ok (.iconst 3, 1) := by decide +kernel
theorem dX9_lagOf_73 : decode cX9_lagOf 73 = .ok (.invokevirtual 144, 3) := by decide +kernel
theorem dX9_lagOf_76 : decode cX9_lagOf 76 = .ok (.iload_n 2, 1) := by decide +kernel
theorem dX9_lagOf_77 : decode cX9_lagOf 77 = .ok (.if_icmp .le 7, 3) := by decide +kernel
theorem dX9_lagOf_80 : decode cX9_lagOf 80 = .ok (.iconst 1, 1) := by decide +kernel
theorem dX9_lagOf_81 : decode cX9_lagOf 81 = .ok (.goto 4, 3) := by decide +kernel
theorem dX9_lagOf_84 : decode cX9_lagOf 84 = .ok (.iconst 0, 1) := by decide +kernel
theorem dX9_lagOf_85 : decode cX9_lagOf 85 = .ok (.ireturn, 1) := by decide +kernel
theorem dX9_lagOf_86 : decode cX9_lagOf 86 = .ok (.iconst 0, 1) := by decide +kernel
theorem dX9_lagOf_87 : decode cX9_lagOf 87 = .ok (.ireturn, 1) := by decide +kernel
theorem dX9_holdsOf_0 : decode cX9_holdsOf 0 = .ok (.aload_n 0, 1) := by decide +kernel
theorem dX9_holdsOf_1 : decode cX9_holdsOf 1 = .ok (.getfield 7, 3) := by decide +kernel
theorem dX9_holdsOf_4 : decode cX9_holdsOf 4 = .ok (.bipush 6, 2) := by decide +kernel
theorem dX9_holdsOf_6 : decode cX9_holdsOf 6 = .ok (.iaload, 1) := by decide +kernel
theorem dX9_holdsOf_7 : decode cX9_holdsOf 7 = .ok (.istore_n 2, 1) := by decide +kernel
theorem dX9_holdsOf_8 : decode cX9_holdsOf 8 = .ok (.iload_n 2, 1) := by decide +kernel
theorem dX9_holdsOf_9 : decode cX9_holdsOf 9 = .ok (.aload_n 0, 1) := by decide +kernel
theorem dX9_holdsOf_10 : decode cX9_holdsOf 10 = .ok (.iload_n 1, 1) := by decide +kernel
theorem dX9_holdsOf_11 : decode cX9_holdsOf 11 = .ok (.iconst 3, 1) := by decide +kernel
theorem dX9_holdsOf_12 : decode cX9_holdsOf 12 = .ok (.invokevirtual 144, 3) := by decide +kernel
theorem dX9_holdsOf_15 : decode cX9_holdsOf 15 = .ok (.iconst 3, 1) := by decide +kernel
theorem dX9_holdsOf_16 : decode cX9_holdsOf 16 = .ok (.idiv, 1) := by decide +kernel
theorem dX9_holdsOf_17 : decode cX9_holdsOf 17 = .ok (.isub, 1) := by decide +kernel
theorem dX9_holdsOf_18 : decode cX9_holdsOf 18 = .ok (.istore_n 3, 1) := by decide +kernel
theorem dX9_holdsOf_19 : decode cX9_holdsOf 19 = .ok (.aload_n 0, 1) := by decide +kernel
theorem dX9_holdsOf_20 : decode cX9_holdsOf 20 = .ok (.iload_n 1, 1) := by decide +kernel
theorem dX9_holdsOf_21 : decode cX9_holdsOf 21 = .ok (.iconst 0, 1) := by decide +kernel
theorem dX9_holdsOf_22 : decode cX9_holdsOf 22 = .ok (.invokevirtual 144, 3) := by decide +kernel
theorem dX9_holdsOf_25 : decode cX9_holdsOf 25 = .ok (.tableswitch 64 1 6 #[39, 64, 54, 43, 64, 54], 39) := by decide +kernel
theorem dX9_holdsOf_64 : decode cX9_holdsOf 64 = .ok (.iload_n 2, 1) := by decide +kernel
theorem dX9_holdsOf_65 : decode cX9_holdsOf 65 = .ok (.iconst 1, 1) := by decide +kernel
theorem dX9_holdsOf_66 : decode cX9_holdsOf 66 = .ok (.iadd, 1) := by decide +kernel
theorem dX9_holdsOf_67 : decode cX9_holdsOf 67 = .ok (.ireturn, 1) := by decide +kernel
theorem dX9_holdsOf_68 : decode cX9_holdsOf 68 = .ok (.iload_n 2, 1) := by decide +kernel
theorem dX9_holdsOf_69 : decode cX9_holdsOf 69 = .ok (.iconst 1, 1) := by decide +kernel
theorem dX9_holdsOf_70 : decode cX9_holdsOf 70 = .ok (.iadd, 1) := by decide +kernel
theorem dX9_holdsOf_71 : decode cX9_holdsOf 71 = .ok (.aload_n 0, 1) := by decide +kernel
theorem dX9_holdsOf_72 : decode cX9_holdsOf 72 = .ok (.iload_n 1, 1) := by decide +kernel
theorem dX9_holdsOf_73 : decode cX9_holdsOf 73 = .ok (.iconst 1, 1) := by decide +kernel
theorem dX9_holdsOf_74 : decode cX9_holdsOf 74 = .ok (.invokevirtual 144, 3) := by decide +kernel
theorem dX9_holdsOf_77 : decode cX9_holdsOf 77 = .ok (.iadd, 1) := by decide +kernel
theorem dX9_holdsOf_78 : decode cX9_holdsOf 78 = .ok (.ireturn, 1) := by decide +kernel
theorem dX9_holdsOf_79 : decode cX9_holdsOf 79 = .ok (.iload_n 3, 1) := by decide +kernel
theorem dX9_holdsOf_80 : decode cX9_holdsOf 80 = .ok (.ifCond .ge 7, 3) := by decide +kernel
theorem dX9_holdsOf_83 : decode cX9_holdsOf 83 = .ok (.iconst 0, 1) := by decide +kernel
theorem dX9_holdsOf_84 : decode cX9_holdsOf 84 = .ok (.goto 4, 3) := by decide +kernel
theorem dX9_holdsOf_87 : decode cX9_holdsOf 87 = .ok (.iload_n 3, 1) := by decide +kernel
theorem dX9_holdsOf_88 : decode cX9_holdsOf 88 = .ok (.ireturn, 1) := by decide +kernel
theorem dX9_holdsOf_89 : decode cX9_holdsOf 89 = .ok (.iload_n 2, 1) := by decide +kernel
theorem dX9_holdsOf_90 : decode cX9_holdsOf 90 = .ok (.ireturn, 1) := by decide +kernel
theorem dX9_harmOf_0 : decode cX9_harmOf 0 = .ok (.aload_n 0, 1) := by decide +kernel
theorem dX9_harmOf_1 : decode cX9_harmOf 1 = .ok (.iload_n 1, 1) := by decide +kernel
theorem dX9_harmOf_2 : decode cX9_harmOf 2 = .ok (.iconst 0, 1) := by decide +kernel
theorem dX9_harmOf_3 : decode cX9_harmOf 3 = .ok (.invokevirtual 144, 3) := by decide +kernel
theorem dX9_harmOf_6 : decode cX9_harmOf 6 = .ok (.istore_n 3, 1) := by decide +kernel
theorem dX9_harmOf_7 : decode cX9_harmOf 7 = .ok (.iload_n 3, 1) := by decide +kernel
theorem dX9_harmOf_8 : decode cX9_harmOf 8 = .ok (.iconst 3, 1) := by decide +kernel
theorem dX9_harmOf_9 : decode cX9_harmOf 9 = .ok (.if_icmp .ne 14, 3) := by decide +kernel
theorem dX9_harmOf_12 : decode cX9_harmOf 12 = .ok (.iload_n 2, 1) := by decide +kernel
theorem dX9_harmOf_13 : decode cX9_harmOf 13 = .ok (.aload_n 0, 1) := by decide +kernel
theorem dX9_harmOf_14 : decode cX9_harmOf 14 = .ok (.iload_n 1, 1) := by decide +kernel
theorem dX9_harmOf_15 : decode cX9_harmOf 15 = .ok (.iconst 3, 1) := by decide +kernel
theorem dX9_harmOf_16 : decode cX9_harmOf 16 = .ok (.invokevirtual 144, 3) := by decide +kernel
theorem dX9_harmOf_19 : decode cX9_harmOf 19 = .ok (.iadd, 1) := by decide +kernel
theorem dX9_harmOf_20 : decode cX9_harmOf 20 = .ok (.goto 23, 3) := by decide +kernel
theorem dX9_harmOf_23 : decode cX9_harmOf 23 = .ok (.iload_n 3, 1) := by decide +kernel
theorem dX9_harmOf_24 : decode cX9_harmOf 24 = .ok (.bipush 6, 2) := by decide +kernel
theorem dX9_harmOf_26 : decode cX9_harmOf 26 = .ok (.if_icmp .ne 16, 3) := by decide +kernel
theorem dX9_harmOf_29 : decode cX9_harmOf 29 = .ok (.iload_n 2, 1) := by decide +kernel
theorem dX9_harmOf_30 : decode cX9_harmOf 30 = .ok (.aload_n 0, 1) := by decide +kernel
theorem dX9_harmOf_31 : decode cX9_harmOf 31 = .ok (.iload_n 1, 1) := by decide +kernel
theorem dX9_harmOf_32 : decode cX9_harmOf 32 = .ok (.iconst 3, 1) := by decide +kernel
theorem dX9_harmOf_33 : decode cX9_harmOf 33 = .ok (.invokevirtual 144, 3) := by decide +kernel
theorem dX9_harmOf_36 : decode cX9_harmOf 36 = .ok (.iadd, 1) := by decide +kernel
theorem dX9_harmOf_37 : decode cX9_harmOf 37 = .ok (.iconst 2, 1) := by decide +kernel
theorem dX9_harmOf_38 : decode cX9_harmOf 38 = .ok (.idiv, 1) := by decide +kernel
theorem dX9_harmOf_39 : decode cX9_harmOf 39 = .ok (.goto 4, 3) := by decide +kernel
theorem dX9_harmOf_42 : decode cX9_harmOf 42 = .ok (.iload_n 2, 1) := by decide +kernel
theorem dX9_harmOf_43 : decode cX9_harmOf 43 = .ok (.ireturn, 1) := by decide +kernel
theorem dX9_flyer_0 : decode cX9_flyer 0 = .ok (.iload_n 1, 1) := by decide +kernel
theorem dX9_flyer_1 : decode cX9_flyer 1 = .ok (.i2l, 1) := by decide +kernel
theorem dX9_flyer_2 : decode cX9_flyer 2 = .ok (.lconst 0, 1) := by decide +kernel
theorem dX9_flyer_3 : decode cX9_flyer 3 = .ok (.ldc2_w 147, 3) := by decide +kernel
theorem dX9_flyer_6 : decode cX9_flyer 6 = .ok (.invokestatic 45, 3) := by decide +kernel
theorem dX9_flyer_9 : decode cX9_flyer 9 = .ok (.ifCond .ne 9, 3) := by decide +kernel
theorem dX9_flyer_12 : decode cX9_flyer 12 = .ok (.aload_n 0, 1) := by decide +kernel
theorem dX9_flyer_13 : decode cX9_flyer 13 = .ok (.iconst 1, 1) := by decide +kernel
theorem dX9_flyer_14 : decode cX9_flyer 14 = .ok (.invokevirtual 103, 3) := by decide +kernel
theorem dX9_flyer_17 : decode cX9_flyer 17 = .ok (.ireturn, 1) := by decide +kernel
theorem dX9_flyer_18 : decode cX9_flyer 18 = .ok (.aload_n 0, 1) := by decide +kernel
theorem dX9_flyer_19 : decode cX9_flyer 19 = .ok (.getfield 7, 3) := by decide +kernel
theorem dX9_flyer_22 : decode cX9_flyer 22 = .ok (.iconst 0, 1) := by decide +kernel
theorem dX9_flyer_23 : decode cX9_flyer 23 = .ok (.iaload, 1) := by decide +kernel
theorem dX9_flyer_24 : decode cX9_flyer 24 = .ok (.bipush 6, 2) := by decide +kernel
theorem dX9_flyer_26 : decode cX9_flyer 26 = .ok (.if_icmp .ne 9, 3) := by decide +kernel
theorem dX9_flyer_29 : decode cX9_flyer 29 = .ok (.aload_n 0, 1) := by decide +kernel
theorem dX9_flyer_30 : decode cX9_flyer 30 = .ok (.iconst 4, 1) := by decide +kernel
theorem dX9_flyer_31 : decode cX9_flyer 31 = .ok (.invokevirtual 103, 3) := by decide +kernel
theorem dX9_flyer_34 : decode cX9_flyer 34 = .ok (.ireturn, 1) := by decide +kernel
theorem dX9_flyer_35 : decode cX9_flyer 35 = .ok (.aload_n 0, 1) := by decide +kernel
theorem dX9_flyer_36 : decode cX9_flyer 36 = .ok (.getfield 7, 3) := by decide +kernel
theorem dX9_flyer_39 : decode cX9_flyer 39 = .ok (.iconst 0, 1) := by decide +kernel
theorem dX9_flyer_40 : decode cX9_flyer 40 = .ok (.iaload, 1) := by decide +kernel
theorem dX9_flyer_41 : decode cX9_flyer 41 = .ok (.istore_n 2, 1) := by decide +kernel
theorem dX9_flyer_42 : decode cX9_flyer 42 = .ok (.aload_n 0, 1) := by decide +kernel
theorem dX9_flyer_43 : decode cX9_flyer 43 = .ok (.getfield 7, 3) := by decide +kernel
theorem dX9_flyer_46 : decode cX9_flyer 46 = .ok (.iconst 0, 1) := by decide +kernel
theorem dX9_flyer_47 : decode cX9_flyer 47 = .ok (.dup2, 1) := by decide +kernel
theorem dX9_flyer_48 : decode cX9_flyer 48 = .ok (.iaload, 1) := by decide +kernel
theorem dX9_flyer_49 : decode cX9_flyer 49 = .ok (.iconst 1, 1) := by decide +kernel
theorem dX9_flyer_50 : decode cX9_flyer 50 = .ok (.iadd, 1) := by decide +kernel
theorem dX9_flyer_51 : decode cX9_flyer 51 = .ok (.iastore, 1) := by decide +kernel
theorem dX9_flyer_52 : decode cX9_flyer 52 = .ok (.aload_n 0, 1) := by decide +kernel
theorem dX9_flyer_53 : decode cX9_flyer 53 = .ok (.iload_n 2, 1) := by decide +kernel
theorem dX9_flyer_54 : decode cX9_flyer 54 = .ok (.iconst 0, 1) := by decide +kernel
theorem dX9_flyer_55 : decode cX9_flyer 55 = .ok (.iload_n 1, 1) := by decide +kernel
theorem dX9_flyer_56 : decode cX9_flyer 56 = .ok (.bipush 10, 2) := by decide +kernel
theorem dX9_flyer_58 : decode cX9_flyer 58 = .ok (.idiv, 1) := by decide +kernel
theorem dX9_flyer_59 : decode cX9_flyer 59 = .ok (.invokevirtual 149, 3) := by decide +kernel
theorem dX9_flyer_62 : decode cX9_flyer 62 = .ok (.aload_n 0, 1) := by decide +kernel
theorem dX9_flyer_63 : decode cX9_flyer 63 = .ok (.iload_n 2, 1) := by decide +kernel
theorem dX9_flyer_64 : decode cX9_flyer 64 = .ok (.iconst 1, 1) := by decide +kernel
theorem dX9_flyer_65 : decode cX9_flyer 65 = .ok (.iload_n 1, 1) := by decide +kernel
theorem dX9_flyer_66 : decode cX9_flyer 66 = .ok (.bipush 10, 2) := by decide +kernel
theorem dX9_flyer_68 : decode cX9_flyer 68 = .ok (.irem, 1) := by decide +kernel
theorem dX9_flyer_69 : decode cX9_flyer 69 = .ok (.invokevirtual 149, 3) := by decide +kernel
theorem dX9_flyer_72 : decode cX9_flyer 72 = .ok (.aload_n 0, 1) := by decide +kernel
theorem dX9_flyer_73 : decode cX9_flyer 73 = .ok (.iload_n 2, 1) := by decide +kernel
theorem dX9_flyer_74 : decode cX9_flyer 74 = .ok (.iconst 2, 1) := by decide +kernel
theorem dX9_flyer_75 : decode cX9_flyer 75 = .ok (.iconst 1, 1) := by decide +kernel
theorem dX9_flyer_76 : decode cX9_flyer 76 = .ok (.invokevirtual 149, 3) := by decide +kernel
theorem dX9_flyer_79 : decode cX9_flyer 79 = .ok (.aload_n 0, 1) := by decide +kernel
theorem dX9_flyer_80 : decode cX9_flyer 80 = .ok (.iload_n 2, 1) := by decide +kernel
theorem dX9_flyer_81 : decode cX9_flyer 81 = .ok (.iconst 3, 1) := by decide +kernel
theorem dX9_flyer_82 : decode cX9_flyer 82 = .ok (.iconst 0, 1) := by decide +kernel
theorem dX9_flyer_83 : decode cX9_flyer 83 = .ok (.invokevirtual 149, 3) := by decide +kernel
theorem dX9_flyer_86 : decode cX9_flyer 86 = .ok (.iload_n 2, 1) := by decide +kernel
theorem dX9_flyer_87 : decode cX9_flyer 87 = .ok (.ireturn, 1) := by decide +kernel
theorem dX9_ofFlyer_0 : decode cX9_ofFlyer 0 = .ok (.aload_n 0, 1) := by decide +kernel
theorem dX9_ofFlyer_1 : decode cX9_ofFlyer 1 = .ok (.iload_n 1, 1) := by decide +kernel
theorem dX9_ofFlyer_2 : decode cX9_ofFlyer 2 = .ok (.invokevirtual 153, 3) := by decide +kernel
theorem dX9_ofFlyer_5 : decode cX9_ofFlyer 5 = .ok (.ifCond .eq 15, 3) := by decide +kernel
theorem dX9_ofFlyer_8 : decode cX9_ofFlyer 8 = .ok (.iload_n 2, 1) := by decide +kernel
theorem dX9_ofFlyer_9 : decode cX9_ofFlyer 9 = .ok (.i2l, 1) := by decide +kernel
theorem dX9_ofFlyer_10 : decode cX9_ofFlyer 10 = .ok (.lconst 0, 1) := by decide +kernel
theorem dX9_ofFlyer_11 : decode cX9_ofFlyer 11 = .ok (.ldc2_w 156, 3) := by decide +kernel
theorem dX9_ofFlyer_14 : decode cX9_ofFlyer 14 = .ok (.invokestatic 45, 3) := by decide +kernel
theorem dX9_ofFlyer_17 : decode cX9_ofFlyer 17 = .ok (.ifCond .ne 9, 3) := by decide +kernel
theorem dX9_ofFlyer_20 : decode cX9_ofFlyer 20 = .ok (.aload_n 0, 1) := by decide +kernel
theorem dX9_ofFlyer_21 : decode cX9_ofFlyer 21 = .ok (.iconst 1, 1) := by decide +kernel
theorem dX9_ofFlyer_22 : decode cX9_ofFlyer 22 = .ok (.invokevirtual 103, 3) := by decide +kernel
theorem dX9_ofFlyer_25 : decode cX9_ofFlyer 25 = .ok (.ireturn, 1) := by decide +kernel
theorem dX9_ofFlyer_26 : decode cX9_ofFlyer 26 = .ok (.iload_n 2, 1) := by decide +kernel
theorem dX9_ofFlyer_27 : decode cX9_ofFlyer 27 = .ok (.tableswitch 45 4 6 #[25, 31, 37], 25) := by decide +kernel
theorem dX9_ofFlyer_52 : decode cX9_ofFlyer 52 = .ok (.aload_n 0, 1) := by decide +kernel
theorem dX9_ofFlyer_53 : decode cX9_ofFlyer 53 = .ok (.iload_n 1, 1) := by decide +kernel
theorem dX9_ofFlyer_54 : decode cX9_ofFlyer 54 = .ok (.invokevirtual 158, 3) := by decide +kernel
theorem dX9_ofFlyer_57 : decode cX9_ofFlyer 57 = .ok (.ireturn, 1) := by decide +kernel
theorem dX9_ofFlyer_58 : decode cX9_ofFlyer 58 = .ok (.aload_n 0, 1) := by decide +kernel
theorem dX9_ofFlyer_59 : decode cX9_ofFlyer 59 = .ok (.iload_n 1, 1) := by decide +kernel
theorem dX9_ofFlyer_60 : decode cX9_ofFlyer 60 = .ok (.invokevirtual 161, 3) := by decide +kernel
theorem dX9_ofFlyer_63 : decode cX9_ofFlyer 63 = .ok (.ireturn, 1) := by decide +kernel
theorem dX9_ofFlyer_64 : decode cX9_ofFlyer 64 = .ok (.aload_n 0, 1) := by decide +kernel
theorem dX9_ofFlyer_65 : decode cX9_ofFlyer 65 = .ok (.iload_n 1, 1) := by decide +kernel
theorem dX9_ofFlyer_66 : decode cX9_ofFlyer 66 = .ok (.bipush 10, 2) := by decide +kernel
theorem dX9_ofFlyer_68 : decode cX9_ofFlyer 68 = .ok (.invokevirtual 164, 3) := by decide +kernel
theorem dX9_ofFlyer_71 : decode cX9_ofFlyer 71 = .ok (.ireturn, 1) := by decide +kernel
theorem dX9_ofFlyer_72 : decode cX9_ofFlyer 72 = .ok (.aload_n 0, 1) := by decide +kernel
theorem dX9_ofFlyer_73 : decode cX9_ofFlyer 73 = .ok (.iload_n 1, 1) := by decide +kernel
theorem dX9_ofFlyer_74 : decode cX9_ofFlyer 74 = .ok (.iload_n 2, 1) := by decide +kernel
theorem dX9_ofFlyer_75 : decode cX9_ofFlyer 75 = .ok (.invokevirtual 144, 3) := by decide +kernel
theorem dX9_ofFlyer_78 : decode cX9_ofFlyer 78 = .ok (.ireturn, 1) := by decide +kernel
theorem dX9_become_0 : decode cX9_become 0 = .ok (.aload_n 0, 1) := by decide +kernel
theorem dX9_become_1 : decode cX9_become 1 = .ok (.iload_n 1, 1) := by decide +kernel
theorem dX9_become_2 : decode cX9_become 2 = .ok (.invokevirtual 153, 3) := by decide +kernel
theorem dX9_become_5 : decode cX9_become 5 = .ok (.ifCond .eq 15, 3) := by decide +kernel
theorem dX9_become_8 : decode cX9_become 8 = .ok (.iload_n 2, 1) := by decide +kernel
theorem dX9_become_9 : decode cX9_become 9 = .ok (.i2l, 1) := by decide +kernel
theorem dX9_become_10 : decode cX9_become 10 = .ok (.lconst 0, 1) := by decide +kernel
theorem dX9_become_11 : decode cX9_become 11 = .ok (.ldc2_w 147, 3) := by decide +kernel
theorem dX9_become_14 : decode cX9_become 14 = .ok (.invokestatic 45, 3) := by decide +kernel
theorem dX9_become_17 : decode cX9_become 17 = .ok (.ifCond .ne 9, 3) := by decide +kernel
theorem dX9_become_20 : decode cX9_become 20 = .ok (.aload_n 0, 1) := by decide +kernel
theorem dX9_become_21 : decode cX9_become 21 = .ok (.iconst 1, 1) := by decide +kernel
theorem dX9_become_22 : decode cX9_become 22 = .ok (.invokevirtual 103, 3) := by decide +kernel
theorem dX9_become_25 : decode cX9_become 25 = .ok (.ireturn, 1) := by decide +kernel
theorem dX9_become_26 : decode cX9_become 26 = .ok (.aload_n 0, 1) := by decide +kernel
theorem dX9_become_27 : decode cX9_become 27 = .ok (.iload_n 1, 1) := by decide +kernel
theorem dX9_become_28 : decode cX9_become 28 = .ok (.iconst 0, 1) := by decide +kernel
theorem dX9_become_29 : decode cX9_become 29 = .ok (.invokevirtual 144, 3) := by decide +kernel
theorem dX9_become_32 : decode cX9_become 32 = .ok (.istore_n 3, 1) := by decide +kernel
theorem dX9_become_33 : decode cX9_become 33 = .ok (.aload_n 0, 1) := by decide +kernel
theorem dX9_become_34 : decode cX9_become 34 = .ok (.iload_n 1, 1) := by decide +kernel
theorem dX9_become_35 : decode cX9_become 35 = .ok (.iconst 0, 1) := by decide +kernel
theorem dX9_become_36 : decode cX9_become 36 = .ok (.iload_n 2, 1) := by decide +kernel
theorem dX9_become_37 : decode cX9_become 37 = .ok (.bipush 10, 2) := by decide +kernel
theorem dX9_become_39 : decode cX9_become 39 = .ok (.idiv, 1) := by decide +kernel
theorem dX9_become_40 : decode cX9_become 40 = .ok (.invokevirtual 149, 3) := by decide +kernel
theorem dX9_become_43 : decode cX9_become 43 = .ok (.aload_n 0, 1) := by decide +kernel
theorem dX9_become_44 : decode cX9_become 44 = .ok (.iload_n 1, 1) := by decide +kernel
theorem dX9_become_45 : decode cX9_become 45 = .ok (.iconst 1, 1) := by decide +kernel
theorem dX9_become_46 : decode cX9_become 46 = .ok (.iload_n 2, 1) := by decide +kernel
theorem dX9_become_47 : decode cX9_become 47 = .ok (.bipush 10, 2) := by decide +kernel
theorem dX9_become_49 : decode cX9_become 49 = .ok (.irem, 1) := by decide +kernel
theorem dX9_become_50 : decode cX9_become 50 = .ok (.invokevirtual 149, 3) := by decide +kernel
theorem dX9_become_53 : decode cX9_become 53 = .ok (.iload_n 3, 1) := by decide +kernel
theorem dX9_become_54 : decode cX9_become 54 = .ok (.ireturn, 1) := by decide +kernel
theorem dX9_above_0 : decode cX9_above 0 = .ok (.iload_n 0, 1) := by decide +kernel
theorem dX9_above_1 : decode cX9_above 1 = .ok (.iconst 4, 1) := by decide +kernel
theorem dX9_above_2 : decode cX9_above 2 = .ok (.if_icmp .ge 7, 3) := by decide +kernel
theorem dX9_above_5 : decode cX9_above 5 = .ok (.iconst 0, 1) := by decide +kernel
theorem dX9_above_6 : decode cX9_above 6 = .ok (.goto 6, 3) := by decide +kernel
theorem dX9_above_9 : decode cX9_above 9 = .ok (.iload_n 0, 1) := by decide +kernel
theorem dX9_above_10 : decode cX9_above 10 = .ok (.iconst 3, 1) := by decide +kernel
theorem dX9_above_11 : decode cX9_above 11 = .ok (.isub, 1) := by decide +kernel
theorem dX9_above_12 : decode cX9_above 12 = .ok (.ireturn, 1) := by decide +kernel
theorem dX9_as_0 : decode cX9_as 0 = .ok (.aload_n 0, 1) := by decide +kernel
theorem dX9_as_1 : decode cX9_as 1 = .ok (.iload_n 1, 1) := by decide +kernel
theorem dX9_as_2 : decode cX9_as 2 = .ok (.invokevirtual 153, 3) := by decide +kernel
theorem dX9_as_5 : decode cX9_as 5 = .ok (.ifCond .eq 15, 3) := by decide +kernel
theorem dX9_as_8 : decode cX9_as 8 = .ok (.iload_n 2, 1) := by decide +kernel
theorem dX9_as_9 : decode cX9_as 9 = .ok (.i2l, 1) := by decide +kernel
theorem dX9_as_10 : decode cX9_as 10 = .ok (.lconst 0, 1) := by decide +kernel
theorem dX9_as_11 : decode cX9_as 11 = .ok (.ldc2_w 156, 3) := by decide +kernel
theorem dX9_as_14 : decode cX9_as 14 = .ok (.invokestatic 45, 3) := by decide +kernel
theorem dX9_as_17 : decode cX9_as 17 = .ok (.ifCond .ne 9, 3) := by decide +kernel
theorem dX9_as_20 : decode cX9_as 20 = .ok (.aload_n 0, 1) := by decide +kernel
theorem dX9_as_21 : decode cX9_as 21 = .ok (.iconst 1, 1) := by decide +kernel
theorem dX9_as_22 : decode cX9_as 22 = .ok (.invokevirtual 103, 3) := by decide +kernel
theorem dX9_as_25 : decode cX9_as 25 = .ok (.ireturn, 1) := by decide +kernel
theorem dX9_as_26 : decode cX9_as 26 = .ok (.aload_n 0, 1) := by decide +kernel
theorem dX9_as_27 : decode cX9_as 27 = .ok (.iload_n 1, 1) := by decide +kernel
theorem dX9_as_28 : decode cX9_as 28 = .ok (.iconst 0, 1) := by decide +kernel
theorem dX9_as_29 : decode cX9_as 29 = .ok (.invokevirtual 144, 3) := by decide +kernel
theorem dX9_as_32 : decode cX9_as 32 = .ok (.istore_n 3, 1) := by decide +kernel
theorem dX9_as_33 : decode cX9_as 33 = .ok (.iload_n 2, 1) := by decide +kernel
theorem dX9_as_34 : decode cX9_as 34 = .ok (.ifCond .eq 16, 3) := by decide +kernel
theorem dX9_as_37 : decode cX9_as 37 = .ok (.iload_n 2, 1) := by decide +kernel
theorem dX9_as_38 : decode cX9_as 38 = .ok (.iload_n 3, 1) := by decide +kernel
theorem dX9_as_39 : decode cX9_as 39 = .ok (.if_icmp .eq 11, 3) := by decide +kernel
theorem dX9_as_42 : decode cX9_as 42 = .ok (.iload_n 2, 1) := by decide +kernel
theorem dX9_as_43 : decode cX9_as 43 = .ok (.iload_n 3, 1) := by decide +kernel
theorem dX9_as_44 : decode cX9_as 44 = .ok (.invokestatic 167, 3) := by decide +kernel
theorem dX9_as_47 : decode cX9_as 47 = .ok (.if_icmp .ne 12, 3) := by decide +kernel
theorem dX9_as_50 : decode cX9_as 50 = .ok (.aload_n 0, 1) := by decide +kernel
theorem dX9_as_51 : decode cX9_as 51 = .ok (.iload_n 1, 1) := by decide +kernel
theorem dX9_as_52 : decode cX9_as 52 = .ok (.iconst 1, 1) := by decide +kernel
theorem dX9_as_53 : decode cX9_as 53 = .ok (.invokevirtual 144, 3) := by decide +kernel
theorem dX9_as_56 : decode cX9_as 56 = .ok (.goto 8, 3) := by decide +kernel
theorem dX9_as_59 : decode cX9_as 59 = .ok (.aload_n 0, 1) := by decide +kernel
theorem dX9_as_60 : decode cX9_as 60 = .ok (.iconst 5, 1) := by decide +kernel
theorem dX9_as_61 : decode cX9_as 61 = .ok (.invokevirtual 103, 3) := by decide +kernel
theorem dX9_as_64 : decode cX9_as 64 = .ok (.ireturn, 1) := by decide +kernel
theorem dX9_turn_0 : decode cX9_turn 0 = .ok (.aload_n 0, 1) := by decide +kernel
theorem dX9_turn_1 : decode cX9_turn 1 = .ok (.iload_n 1, 1) := by decide +kernel
theorem dX9_turn_2 : decode cX9_turn 2 = .ok (.invokevirtual 153, 3) := by decide +kernel
theorem dX9_turn_5 : decode cX9_turn 5 = .ok (.ifCond .eq 15, 3) := by decide +kernel
theorem dX9_turn_8 : decode cX9_turn 8 = .ok (.iload_n 2, 1) := by decide +kernel
theorem dX9_turn_9 : decode cX9_turn 9 = .ok (.i2l, 1) := by decide +kernel
theorem dX9_turn_10 : decode cX9_turn 10 = .ok (.lconst 1, 1) := by decide +kernel
theorem dX9_turn_11 : decode cX9_turn 11 = .ok (.ldc2_w 170, 3) := by decide +kernel
theorem dX9_turn_14 : decode cX9_turn 14 = .ok (.invokestatic 45, 3) := by decide +kernel
theorem dX9_turn_17 : decode cX9_turn 17 = .ok (.ifCond .ne 9, 3) := by decide +kernel
theorem dX9_turn_20 : decode cX9_turn 20 = .ok (.aload_n 0, 1) := by decide +kernel
theorem dX9_turn_21 : decode cX9_turn 21 = .ok (.iconst 1, 1) := by decide +kernel
theorem dX9_turn_22 : decode cX9_turn 22 = .ok (.invokevirtual 103, 3) := by decide +kernel
theorem dX9_turn_25 : decode cX9_turn 25 = .ok (.ireturn, 1) := by decide +kernel
theorem dX9_turn_26 : decode cX9_turn 26 = .ok (.aload_n 0, 1) := by decide +kernel
theorem dX9_turn_27 : decode cX9_turn 27 = .ok (.iload_n 1, 1) := by decide +kernel
theorem dX9_turn_28 : decode cX9_turn 28 = .ok (.iconst 2, 1) := by decide +kernel
theorem dX9_turn_29 : decode cX9_turn 29 = .ok (.invokevirtual 144, 3) := by decide +kernel
theorem dX9_turn_32 : decode cX9_turn 32 = .ok (.istore_n 3, 1) := by decide +kernel
theorem dX9_turn_33 : decode cX9_turn 33 = .ok (.aload_n 0, 1) := by decide +kernel
theorem dX9_turn_34 : decode cX9_turn 34 = .ok (.iload_n 1, 1) := by decide +kernel
theorem dX9_turn_35 : decode cX9_turn 35 = .ok (.iconst 2, 1) := by decide +kernel
theorem dX9_turn_36 : decode cX9_turn 36 = .ok (.iload_n 2, 1) := by decide +kernel
theorem dX9_turn_37 : decode cX9_turn 37 = .ok (.invokevirtual 149, 3) := by decide +kernel
theorem dX9_turn_40 : decode cX9_turn 40 = .ok (.iload_n 3, 1) := by decide +kernel
theorem dX9_turn_41 : decode cX9_turn 41 = .ok (.ireturn, 1) := by decide +kernel
theorem dX9_letsGo_0 : decode cX9_letsGo 0 = .ok (.aload_n 0, 1) := by decide +kernel
theorem dX9_letsGo_1 : decode cX9_letsGo 1 = .ok (.iconst 0, 1) := by decide +kernel
theorem dX9_letsGo_2 : decode cX9_letsGo 2 = .ok (.iload_n 2, 1) := by decide +kernel
theorem dX9_letsGo_3 : decode cX9_letsGo 3 = .ok (.invokevirtual 119, 3) := by decide +kernel
theorem dX9_letsGo_6 : decode cX9_letsGo 6 = .ok (.istore_n 3, 1) := by decide +kernel
theorem dX9_letsGo_7 : decode cX9_letsGo 7 = .ok (.iload_n 3, 1) := by decide +kernel
theorem dX9_letsGo_8 : decode cX9_letsGo 8 = .ok (.aload_n 0, 1) := by decide +kernel
theorem dX9_letsGo_9 : decode cX9_letsGo 9 = .ok (.iconst 0, 1) := by decide +kernel
theorem dX9_letsGo_10 : decode cX9_letsGo 10 = .ok (.iload_n 2, 1) := by decide +kernel
theorem dX9_letsGo_11 : decode cX9_letsGo 11 = .ok (.iconst 1, 1) := by decide +kernel
theorem dX9_letsGo_12 : decode cX9_letsGo 12 = .ok (.isub, 1) := by decide +kernel
theorem dX9_letsGo_13 : decode cX9_letsGo 13 = .ok (.invokevirtual 119, 3) := by decide +kernel
theorem dX9_letsGo_16 : decode cX9_letsGo 16 = .ok (.isub, 1) := by decide +kernel
theorem dX9_letsGo_17 : decode cX9_letsGo 17 = .ok (.istore 4, 2) := by decide +kernel
theorem dX9_letsGo_19 : decode cX9_letsGo 19 = .ok (.aload_n 0, 1) := by decide +kernel
theorem dX9_letsGo_20 : decode cX9_letsGo 20 = .ok (.iload_n 2, 1) := by decide +kernel
theorem dX9_letsGo_21 : decode cX9_letsGo 21 = .ok (.aload_n 0, 1) := by decide +kernel
theorem dX9_letsGo_22 : decode cX9_letsGo 22 = .ok (.iconst 0, 1) := by decide +kernel
theorem dX9_letsGo_23 : decode cX9_letsGo 23 = .ok (.aload_n 0, 1) := by decide +kernel
theorem dX9_letsGo_24 : decode cX9_letsGo 24 = .ok (.iload_n 1, 1) := by decide +kernel
theorem dX9_letsGo_25 : decode cX9_letsGo 25 = .ok (.iconst 2, 1) := by decide +kernel
theorem dX9_letsGo_26 : decode cX9_letsGo 26 = .ok (.invokevirtual 144, 3) := by decide +kernel
theorem dX9_letsGo_29 : decode cX9_letsGo 29 = .ok (.iload 4, 2) := by decide +kernel
theorem dX9_letsGo_31 : decode cX9_letsGo 31 = .ok (.aload_n 0, 1) := by decide +kernel
theorem dX9_letsGo_32 : decode cX9_letsGo 32 = .ok (.iload_n 1, 1) := by decide +kernel
theorem dX9_letsGo_33 : decode cX9_letsGo 33 = .ok (.iconst 1, 1) := by decide +kernel
theorem dX9_letsGo_34 : decode cX9_letsGo 34 = .ok (.invokevirtual 144, 3) := by decide +kernel
theorem dX9_letsGo_37 : decode cX9_letsGo 37 = .ok (.invokevirtual 115, 3) := by decide +kernel
theorem dX9_letsGo_40 : decode cX9_letsGo 40 = .ok (.iadd, 1) := by decide +kernel
theorem dX9_letsGo_41 : decode cX9_letsGo 41 = .ok (.putfield 172, 3) := by decide +kernel
theorem dX9_letsGo_44 : decode cX9_letsGo 44 = .ok (.aload_n 0, 1) := by decide +kernel
theorem dX9_letsGo_45 : decode cX9_letsGo 45 = .ok (.iload_n 3, 1) := by decide +kernel
theorem dX9_letsGo_46 : decode cX9_letsGo 46 = .ok (.aload_n 0, 1) := by decide +kernel
theorem dX9_letsGo_47 : decode cX9_letsGo 47 = .ok (.iconst 1, 1) := by decide +kernel
theorem dX9_letsGo_48 : decode cX9_letsGo 48 = .ok (.aload_n 0, 1) := by decide +kernel
theorem dX9_letsGo_49 : decode cX9_letsGo 49 = .ok (.iload_n 1, 1) := by decide +kernel
theorem dX9_letsGo_50 : decode cX9_letsGo 50 = .ok (.iconst 2, 1) := by decide +kernel
theorem dX9_letsGo_51 : decode cX9_letsGo 51 = .ok (.invokevirtual 144, 3) := by decide +kernel
theorem dX9_letsGo_54 : decode cX9_letsGo 54 = .ok (.iload 4, 2) := by decide +kernel
theorem dX9_letsGo_56 : decode cX9_letsGo 56 = .ok (.aload_n 0, 1) := by decide +kernel
theorem dX9_letsGo_57 : decode cX9_letsGo 57 = .ok (.iload_n 1, 1) := by decide +kernel
theorem dX9_letsGo_58 : decode cX9_letsGo 58 = .ok (.iconst 1, 1) := by decide +kernel
theorem dX9_letsGo_59 : decode cX9_letsGo 59 = .ok (.invokevirtual 144, 3) := by decide +kernel
theorem dX9_letsGo_62 : decode cX9_letsGo 62 = .ok (.invokevirtual 115, 3) := by decide +kernel
theorem dX9_letsGo_65 : decode cX9_letsGo 65 = .ok (.iadd, 1) := by decide +kernel
theorem dX9_letsGo_66 : decode cX9_letsGo 66 = .ok (.putfield 175, 3) := by decide +kernel
theorem dX9_letsGo_69 : decode cX9_letsGo 69 = .ok (.return_, 1) := by decide +kernel
theorem dX9_size0_0 : decode cX9_size0 0 = .ok (.iload_n 0, 1) := by decide +kernel
theorem dX9_size0_1 : decode cX9_size0 1 = .ok (.ifCond .ge 8, 3) := by decide +kernel
theorem dX9_size0_4 : decode cX9_size0 4 = .ok (.iload_n 0, 1) := by decide +kernel
theorem dX9_size0_5 : decode cX9_size0 5 = .ok (.ineg, 1) := by decide +kernel
theorem dX9_size0_6 : decode cX9_size0 6 = .ok (.goto 4, 3) := by decide +kernel
theorem dX9_size0_9 : decode cX9_size0 9 = .ok (.iload_n 0, 1) := by decide +kernel
theorem dX9_size0_10 : decode cX9_size0 10 = .ok (.ireturn, 1) := by decide +kernel
theorem dX9_offNow_0 : decode cX9_offNow 0 = .ok (.aload_n 0, 1) := by decide +kernel
theorem dX9_offNow_1 : decode cX9_offNow 1 = .ok (.getfield 175, 3) := by decide +kernel
theorem dX9_offNow_4 : decode cX9_offNow 4 = .ok (.aload_n 0, 1) := by decide +kernel
theorem dX9_offNow_5 : decode cX9_offNow 5 = .ok (.aload_n 0, 1) := by decide +kernel
theorem dX9_offNow_6 : decode cX9_offNow 6 = .ok (.getfield 172, 3) := by decide +kernel
theorem dX9_offNow_9 : decode cX9_offNow 9 = .ok (.invokevirtual 178, 3) := by decide +kernel
theorem dX9_offNow_12 : decode cX9_offNow 12 = .ok (.isub, 1) := by decide +kernel
theorem dX9_offNow_13 : decode cX9_offNow 13 = .ok (.ireturn, 1) := by decide +kernel
theorem dX9_isTold_0 : decode cX9_isTold 0 = .ok (.aload_n 0, 1) := by decide +kernel
theorem dX9_isTold_1 : decode cX9_isTold 1 = .ok (.iload_n 1, 1) := by decide +kernel
theorem dX9_isTold_2 : decode cX9_isTold 2 = .ok (.iload_n 2, 1) := by decide +kernel
theorem dX9_isTold_3 : decode cX9_isTold 3 = .ok (.aload_n 0, 1) := by decide +kernel
theorem dX9_isTold_4 : decode cX9_isTold 4 = .ok (.iload_n 1, 1) := by decide +kernel
theorem dX9_isTold_5 : decode cX9_isTold 5 = .ok (.invokevirtual 158, 3) := by decide +kernel
theorem dX9_isTold_8 : decode cX9_isTold 8 = .ok (.iadd, 1) := by decide +kernel
theorem dX9_isTold_9 : decode cX9_isTold 9 = .ok (.invokevirtual 181, 3) := by decide +kernel
theorem dX9_isTold_12 : decode cX9_isTold 12 = .ok (.return_, 1) := by decide +kernel
theorem dX9_isCaught_0 : decode cX9_isCaught 0 = .ok (.aload_n 0, 1) := by decide +kernel
theorem dX9_isCaught_1 : decode cX9_isCaught 1 = .ok (.invokevirtual 185, 3) := by decide +kernel
theorem dX9_isCaught_4 : decode cX9_isCaught 4 = .ok (.invokestatic 188, 3) := by decide +kernel
theorem dX9_isCaught_7 : decode cX9_isCaught 7 = .ok (.aload_n 0, 1) := by decide +kernel
theorem dX9_isCaught_8 : decode cX9_isCaught 8 = .ok (.iload_n 1, 1) := by decide +kernel
theorem dX9_isCaught_9 : decode cX9_isCaught 9 = .ok (.invokevirtual 161, 3) := by decide +kernel
theorem dX9_isCaught_12 : decode cX9_isCaught 12 = .ok (.if_icmp .gt 7, 3) := by decide +kernel
theorem dX9_isCaught_15 : decode cX9_isCaught 15 = .ok (.iconst 1, 1) := by decide +kernel
theorem dX9_isCaught_16 : decode cX9_isCaught 16 = .ok (.goto 4, 3) := by decide +kernel
theorem dX9_isCaught_19 : decode cX9_isCaught 19 = .ok (.iconst 0, 1) := by decide +kernel
theorem dX9_isCaught_20 : decode cX9_isCaught 20 = .ok (.ireturn, 1) := by decide +kernel
theorem dX9_fallHarm_0 : decode cX9_fallHarm 0 = .ok (.aload_n 0, 1) := by decide +kernel
theorem dX9_fallHarm_1 : decode cX9_fallHarm 1 = .ok (.iload_n 1, 1) := by decide +kernel
theorem dX9_fallHarm_2 : decode cX9_fallHarm 2 = .ok (.aload_n 0, 1) := by decide +kernel
theorem dX9_fallHarm_3 : decode cX9_fallHarm 3 = .ok (.getfield 175, 3) := by decide +kernel
theorem dX9_fallHarm_6 : decode cX9_fallHarm 6 = .ok (.iload_n 2, 1) := by decide +kernel
theorem dX9_fallHarm_7 : decode cX9_fallHarm 7 = .ok (.isub, 1) := by decide +kernel
theorem dX9_fallHarm_8 : decode cX9_fallHarm 8 = .ok (.invokestatic 188, 3) := by decide +kernel
theorem dX9_fallHarm_11 : decode cX9_fallHarm 11 = .ok (.invokevirtual 164, 3) := by decide +kernel
theorem dX9_fallHarm_14 : decode cX9_fallHarm 14 = .ok (.ireturn, 1) := by decide +kernel
theorem dX9_goes_0 : decode cX9_goes 0 = .ok (.aload_n 0, 1) := by decide +kernel
theorem dX9_goes_1 : decode cX9_goes 1 = .ok (.iload_n 1, 1) := by decide +kernel
theorem dX9_goes_2 : decode cX9_goes 2 = .ok (.iload_n 2, 1) := by decide +kernel
theorem dX9_goes_3 : decode cX9_goes 3 = .ok (.invokevirtual 191, 3) := by decide +kernel
theorem dX9_goes_6 : decode cX9_goes 6 = .ok (.aload_n 0, 1) := by decide +kernel
theorem dX9_goes_7 : decode cX9_goes 7 = .ok (.iload_n 1, 1) := by decide +kernel
theorem dX9_goes_8 : decode cX9_goes 8 = .ok (.invokevirtual 194, 3) := by decide +kernel
theorem dX9_goes_11 : decode cX9_goes 11 = .ok (.ifCond .eq 7, 3) := by decide +kernel
theorem dX9_goes_14 : decode cX9_goes 14 = .ok (.iconst 0, 1) := by decide +kernel
theorem dX9_goes_15 : decode cX9_goes 15 = .ok (.goto 17, 3) := by decide +kernel
theorem dX9_goes_18 : decode cX9_goes 18 = .ok (.iconst 1, 1) := by decide +kernel
theorem dX9_goes_19 : decode cX9_goes 19 = .ok (.aload_n 0, 1) := by decide +kernel
theorem dX9_goes_20 : decode cX9_goes 20 = .ok (.iload_n 1, 1) := by decide +kernel
theorem dX9_goes_21 : decode cX9_goes 21 = .ok (.aload_n 0, 1) := by decide +kernel
theorem dX9_goes_22 : decode cX9_goes 22 = .ok (.getfield 7, 3) := by decide +kernel
theorem dX9_goes_25 : decode cX9_goes 25 = .ok (.bipush 7, 2) := by decide +kernel
theorem dX9_goes_27 : decode cX9_goes 27 = .ok (.iaload, 1) := by decide +kernel
theorem dX9_goes_28 : decode cX9_goes 28 = .ok (.invokevirtual 197, 3) := by decide +kernel
theorem dX9_goes_31 : decode cX9_goes 31 = .ok (.iadd, 1) := by decide +kernel
theorem dX9_goes_32 : decode cX9_goes 32 = .ok (.istore_n 3, 1) := by decide +kernel
theorem dX9_goes_33 : decode cX9_goes 33 = .ok (.iload_n 3, 1) := by decide +kernel
theorem dX9_goes_34 : decode cX9_goes 34 = .ok (.ifCond .ne 7, 3) := by decide +kernel
theorem dX9_goes_37 : decode cX9_goes 37 = .ok (.iconst 2, 1) := by decide +kernel
theorem dX9_goes_38 : decode cX9_goes 38 = .ok (.goto 4, 3) := by decide +kernel
theorem dX9_goes_41 : decode cX9_goes 41 = .ok (.iconst 3, 1) := by decide +kernel
theorem dX9_goes_42 : decode cX9_goes 42 = .ok (.istore 4, 2) := by decide +kernel
theorem dX9_goes_44 : decode cX9_goes 44 = .ok (.aload_n 0, 1) := by decide +kernel
theorem dX9_goes_45 : decode cX9_goes 45 = .ok (.getfield 7, 3) := by decide +kernel
theorem dX9_goes_48 : decode cX9_goes 48 = .ok (.iload 4, 2) := by decide +kernel
theorem dX9_goes_50 : decode cX9_goes 50 = .ok (.aload_n 0, 1) := by decide +kernel
theorem dX9_goes_51 : decode cX9_goes 51 = .ok (.getfield 7, 3) := by decide +kernel
theorem dX9_goes_54 : decode cX9_goes 54 = .ok (.iload 4, 2) := by decide +kernel
theorem dX9_goes_56 : decode cX9_goes 56 = .ok (.iaload, 1) := by decide +kernel
theorem dX9_goes_57 : decode cX9_goes 57 = .ok (.iconst 1, 1) := by decide +kernel
theorem dX9_goes_58 : decode cX9_goes 58 = .ok (.iadd, 1) := by decide +kernel
theorem dX9_goes_59 : decode cX9_goes 59 = .ok (.iconst 0, 1) := by decide +kernel
theorem dX9_goes_60 : decode cX9_goes 60 = .ok (.sipush 9999, 3) := by decide +kernel
theorem dX9_goes_63 : decode cX9_goes 63 = .ok (.invokestatic 112, 3) := by decide +kernel
theorem dX9_goes_66 : decode cX9_goes 66 = .ok (.iastore, 1) := by decide +kernel
theorem dX9_goes_67 : decode cX9_goes 67 = .ok (.aload_n 0, 1) := by decide +kernel
theorem dX9_goes_68 : decode cX9_goes 68 = .ok (.getfield 7, 3) := by decide +kernel
theorem dX9_goes_71 : decode cX9_goes 71 = .ok (.iconst 4, 1) := by decide +kernel
theorem dX9_goes_72 : decode cX9_goes 72 = .ok (.aload_n 0, 1) := by decide +kernel
theorem dX9_goes_73 : decode cX9_goes 73 = .ok (.getfield 7, 3) := by decide +kernel
theorem dX9_goes_76 : decode cX9_goes 76 = .ok (.iconst 4, 1) := by decide +kernel
theorem dX9_goes_77 : decode cX9_goes 77 = .ok (.iaload, 1) := by decide +kernel
theorem dX9_goes_78 : decode cX9_goes 78 = .ok (.iload_n 3, 1) := by decide +kernel
theorem dX9_goes_79 : decode cX9_goes 79 = .ok (.ifCond .ne 7, 3) := by decide +kernel
theorem dX9_goes_82 : decode cX9_goes 82 = .ok (.iconst 0, 1) := by decide +kernel
theorem dX9_goes_83 : decode cX9_goes 83 = .ok (.goto 6, 3) := by decide +kernel
theorem dX9_goes_86 : decode cX9_goes 86 = .ok (.iload_n 3, 1) := by decide +kernel
theorem dX9_goes_87 : decode cX9_goes 87 = .ok (.iconst 1, 1) := by decide +kernel
theorem dX9_goes_88 : decode cX9_goes 88 = .ok (.isub, 1) := by decide +kernel
theorem dX9_goes_89 : decode cX9_goes 89 = .ok (.iadd, 1) := by decide +kernel
theorem dX9_goes_90 : decode cX9_goes 90 = .ok (.iconst 0, 1) := by decide +kernel
theorem dX9_goes_91 : decode cX9_goes 91 = .ok (.ldc 200, 2) := by decide +kernel
theorem dX9_goes_93 : decode cX9_goes 93 = .ok (.invokestatic 112, 3) := by decide +kernel
theorem dX9_goes_96 : decode cX9_goes 96 = .ok (.iastore, 1) := by decide +kernel
theorem dX9_goes_97 : decode cX9_goes 97 = .ok (.aload_n 0, 1) := by decide +kernel
theorem dX9_goes_98 : decode cX9_goes 98 = .ok (.iload_n 1, 1) := by decide +kernel
theorem dX9_goes_99 : decode cX9_goes 99 = .ok (.iconst 3, 1) := by decide +kernel
theorem dX9_goes_100 : decode cX9_goes 100 = .ok (.aload_n 0, 1) := by decide +kernel
theorem dX9_goes_101 : decode cX9_goes 101 = .ok (.iload_n 1, 1) := by decide +kernel
theorem dX9_goes_102 : decode cX9_goes 102 = .ok (.iconst 3, 1) := by decide +kernel
theorem dX9_goes_103 : decode cX9_goes 103 = .ok (.invokevirtual 144, 3) := by decide +kernel
theorem dX9_goes_106 : decode cX9_goes 106 = .ok (.iconst 1, 1) := by decide +kernel
theorem dX9_goes_107 : decode cX9_goes 107 = .ok (.iadd, 1) := by decide +kernel
theorem dX9_goes_108 : decode cX9_goes 108 = .ok (.iconst 0, 1) := by decide +kernel
theorem dX9_goes_109 : decode cX9_goes 109 = .ok (.bipush 99, 2) := by decide +kernel
theorem dX9_goes_111 : decode cX9_goes 111 = .ok (.invokestatic 112, 3) := by decide +kernel
theorem dX9_goes_114 : decode cX9_goes 114 = .ok (.invokevirtual 149, 3) := by decide +kernel
theorem dX9_goes_117 : decode cX9_goes 117 = .ok (.iload_n 3, 1) := by decide +kernel
theorem dX9_goes_118 : decode cX9_goes 118 = .ok (.ireturn, 1) := by decide +kernel
theorem dX9_go_0 : decode cX9_go 0 = .ok (.aload_n 0, 1) := by decide +kernel
theorem dX9_go_1 : decode cX9_go 1 = .ok (.iload_n 1, 1) := by decide +kernel
theorem dX9_go_2 : decode cX9_go 2 = .ok (.invokevirtual 153, 3) := by decide +kernel
theorem dX9_go_5 : decode cX9_go 5 = .ok (.ifCond .eq 17, 3) := by decide +kernel
theorem dX9_go_8 : decode cX9_go 8 = .ok (.aload_n 0, 1) := by decide +kernel
theorem dX9_go_9 : decode cX9_go 9 = .ok (.iload_n 1, 1) := by decide +kernel
theorem dX9_go_10 : decode cX9_go 10 = .ok (.aload_n 0, 1) := by decide +kernel
theorem dX9_go_11 : decode cX9_go 11 = .ok (.getfield 7, 3) := by decide +kernel
theorem dX9_go_14 : decode cX9_go 14 = .ok (.iconst 1, 1) := by decide +kernel
theorem dX9_go_15 : decode cX9_go 15 = .ok (.iaload, 1) := by decide +kernel
theorem dX9_go_16 : decode cX9_go 16 = .ok (.invokevirtual 201, 3) := by decide +kernel
theorem dX9_go_19 : decode cX9_go 19 = .ok (.goto 8, 3) := by decide +kernel
theorem dX9_go_22 : decode cX9_go 22 = .ok (.aload_n 0, 1) := by decide +kernel
theorem dX9_go_23 : decode cX9_go 23 = .ok (.iconst 1, 1) := by decide +kernel
theorem dX9_go_24 : decode cX9_go 24 = .ok (.invokevirtual 103, 3) := by decide +kernel
theorem dX9_go_27 : decode cX9_go 27 = .ok (.ireturn, 1) := by decide +kernel
theorem dX9_ticks_0 : decode cX9_ticks 0 = .ok (.iload_n 1, 1) := by decide +kernel
theorem dX9_ticks_1 : decode cX9_ticks 1 = .ok (.i2l, 1) := by decide +kernel
theorem dX9_ticks_2 : decode cX9_ticks 2 = .ok (.lconst 1, 1) := by decide +kernel
theorem dX9_ticks_3 : decode cX9_ticks 3 = .ok (.ldc2_w 136, 3) := by decide +kernel
theorem dX9_ticks_6 : decode cX9_ticks 6 = .ok (.invokestatic 45, 3) := by decide +kernel
theorem dX9_ticks_9 : decode cX9_ticks 9 = .ok (.ifCond .ne 9, 3) := by decide +kernel
theorem dX9_ticks_12 : decode cX9_ticks 12 = .ok (.aload_n 0, 1) := by decide +kernel
theorem dX9_ticks_13 : decode cX9_ticks 13 = .ok (.iconst 1, 1) := by decide +kernel
theorem dX9_ticks_14 : decode cX9_ticks 14 = .ok (.invokevirtual 103, 3) := by decide +kernel
theorem dX9_ticks_17 : decode cX9_ticks 17 = .ok (.ireturn, 1) := by decide +kernel
theorem dX9_ticks_18 : decode cX9_ticks 18 = .ok (.aload_n 0, 1) := by decide +kernel
theorem dX9_ticks_19 : decode cX9_ticks 19 = .ok (.getfield 7, 3) := by decide +kernel
theorem dX9_ticks_22 : decode cX9_ticks 22 = .ok (.iconst 1, 1) := by decide +kernel
theorem dX9_ticks_23 : decode cX9_ticks 23 = .ok (.iaload, 1) := by decide +kernel
theorem dX9_ticks_24 : decode cX9_ticks 24 = .ok (.iload_n 1, 1) := by decide +kernel
theorem dX9_ticks_25 : decode cX9_ticks 25 = .ok (.iadd, 1) := by decide +kernel
theorem dX9_ticks_26 : decode cX9_ticks 26 = .ok (.sipush 9999, 3) := by decide +kernel
theorem dX9_ticks_29 : decode cX9_ticks 29 = .ok (.if_icmp .le 9, 3) := by decide +kernel
theorem dX9_ticks_32 : decode cX9_ticks 32 = .ok (.aload_n 0, 1) := by decide +kernel
theorem dX9_ticks_33 : decode cX9_ticks 33 = .ok (.iconst 3, 1) := by decide +kernel
theorem dX9_ticks_34 : decode cX9_ticks 34 = .ok (.invokevirtual 103, 3) := by decide +kernel
theorem dX9_ticks_37 : decode cX9_ticks 37 = .ok (.ireturn, 1) := by decide +kernel
theorem dX9_ticks_38 : decode cX9_ticks 38 = .ok (.aload_n 0, 1) := by decide +kernel
theorem dX9_ticks_39 : decode cX9_ticks 39 = .ok (.getfield 7, 3) := by decide +kernel
theorem dX9_ticks_42 : decode cX9_ticks 42 = .ok (.iconst 1, 1) := by decide +kernel
theorem dX9_ticks_43 : decode cX9_ticks 43 = .ok (.dup2, 1) := by decide +kernel
theorem dX9_ticks_44 : decode cX9_ticks 44 = .ok (.iaload, 1) := by decide +kernel
theorem dX9_ticks_45 : decode cX9_ticks 45 = .ok (.iload_n 1, 1) := by decide +kernel
theorem dX9_ticks_46 : decode cX9_ticks 46 = .ok (.iadd, 1) := by decide +kernel
theorem dX9_ticks_47 : decode cX9_ticks 47 = .ok (.iastore, 1) := by decide +kernel
theorem dX9_ticks_48 : decode cX9_ticks 48 = .ok (.aload_n 0, 1) := by decide +kernel
theorem dX9_ticks_49 : decode cX9_ticks 49 = .ok (.getfield 7, 3) := by decide +kernel
theorem dX9_ticks_52 : decode cX9_ticks 52 = .ok (.iconst 1, 1) := by decide +kernel
theorem dX9_ticks_53 : decode cX9_ticks 53 = .ok (.iaload, 1) := by decide +kernel
theorem dX9_ticks_54 : decode cX9_ticks 54 = .ok (.ireturn, 1) := by decide +kernel
theorem dX9_drawn_0 : decode cX9_drawn 0 = .ok (.aload_n 0, 1) := by decide +kernel
theorem dX9_drawn_1 : decode cX9_drawn 1 = .ok (.getfield 7, 3) := by decide +kernel
theorem dX9_drawn_4 : decode cX9_drawn 4 = .ok (.bipush 8, 2) := by decide +kernel
theorem dX9_drawn_6 : decode cX9_drawn 6 = .ok (.aload_n 0, 1) := by decide +kernel
theorem dX9_drawn_7 : decode cX9_drawn 7 = .ok (.getfield 7, 3) := by decide +kernel
theorem dX9_drawn_10 : decode cX9_drawn 10 = .ok (.bipush 8, 2) := by decide +kernel
theorem dX9_drawn_12 : decode cX9_drawn 12 = .ok (.iaload, 1) := by decide +kernel
theorem dX9_drawn_13 : decode cX9_drawn 13 = .ok (.ldc 204, 2) := by decide +kernel
theorem dX9_drawn_15 : decode cX9_drawn 15 = .ok (.imul, 1) := by decide +kernel
theorem dX9_drawn_16 : decode cX9_drawn 16 = .ok (.sipush 12345, 3) := by decide +kernel
theorem dX9_drawn_19 : decode cX9_drawn 19 = .ok (.iadd, 1) := by decide +kernel
theorem dX9_drawn_20 : decode cX9_drawn 20 = .ok (.iastore, 1) := by decide +kernel
theorem dX9_drawn_21 : decode cX9_drawn 21 = .ok (.aload_n 0, 1) := by decide +kernel
theorem dX9_drawn_22 : decode cX9_drawn 22 = .ok (.getfield 7, 3) := by decide +kernel
theorem dX9_drawn_25 : decode cX9_drawn 25 = .ok (.bipush 8, 2) := by decide +kernel
theorem dX9_drawn_27 : decode cX9_drawn 27 = .ok (.iaload, 1) := by decide +kernel
theorem dX9_drawn_28 : decode cX9_drawn 28 = .ok (.bipush 8, 2) := by decide +kernel
theorem dX9_drawn_30 : decode cX9_drawn 30 = .ok (.iushr, 1) := by decide +kernel
theorem dX9_drawn_31 : decode cX9_drawn 31 = .ok (.ireturn, 1) := by decide +kernel
theorem dX9_evenings_0 : decode cX9_evenings 0 = .ok (.iload_n 1, 1) := by decide +kernel
theorem dX9_evenings_1 : decode cX9_evenings 1 = .ok (.i2l, 1) := by decide +kernel
theorem dX9_evenings_2 : decode cX9_evenings 2 = .ok (.lconst 1, 1) := by decide +kernel
theorem dX9_evenings_3 : decode cX9_evenings 3 = .ok (.ldc2_w 130, 3) := by decide +kernel
theorem dX9_evenings_6 : decode cX9_evenings 6 = .ok (.invokestatic 45, 3) := by decide +kernel
theorem dX9_evenings_9 : decode cX9_evenings 9 = .ok (.ifCond .ne 9, 3) := by decide +kernel
theorem dX9_evenings_12 : decode cX9_evenings 12 = .ok (.aload_n 0, 1) := by decide +kernel
theorem dX9_evenings_13 : decode cX9_evenings 13 = .ok (.iconst 1, 1) := by decide +kernel
theorem dX9_evenings_14 : decode cX9_evenings 14 = .ok (.invokevirtual 103, 3) := by decide +kernel
theorem dX9_evenings_17 : decode cX9_evenings 17 = .ok (.ireturn, 1) := by decide +kernel
theorem dX9_evenings_18 : decode cX9_evenings 18 = .ok (.aload_n 0, 1) := by decide +kernel
theorem dX9_evenings_19 : decode cX9_evenings 19 = .ok (.getfield 7, 3) := by decide +kernel
theorem dX9_evenings_22 : decode cX9_evenings 22 = .ok (.iconst 1, 1) := by decide +kernel
theorem dX9_evenings_23 : decode cX9_evenings 23 = .ok (.iaload, 1) := by decide +kernel
theorem dX9_evenings_24 : decode cX9_evenings 24 = .ok (.bipush 12, 2) := by decide +kernel
theorem dX9_evenings_26 : decode cX9_evenings 26 = .ok (.iload_n 1, 1) := by decide +kernel
theorem dX9_evenings_27 : decode cX9_evenings 27 = .ok (.imul, 1) := by decide +kernel
theorem dX9_evenings_28 : decode cX9_evenings 28 = .ok (.iadd, 1) := by decide +kernel
theorem dX9_evenings_29 : decode cX9_evenings 29 = .ok (.sipush 9999, 3) := by decide +kernel
theorem dX9_evenings_32 : decode cX9_evenings 32 = .ok (.if_icmp .le 9, 3) := by decide +kernel
theorem dX9_evenings_35 : decode cX9_evenings 35 = .ok (.aload_n 0, 1) := by decide +kernel
theorem dX9_evenings_36 : decode cX9_evenings 36 = .ok (.iconst 3, 1) := by decide +kernel
theorem dX9_evenings_37 : decode cX9_evenings 37 = .ok (.invokevirtual 103, 3) := by decide +kernel
theorem dX9_evenings_40 : decode cX9_evenings 40 = .ok (.ireturn, 1) := by decide +kernel
theorem dX9_evenings_41 : decode cX9_evenings 41 = .ok (.iconst 0, 1) := by decide +kernel
theorem dX9_evenings_42 : decode cX9_evenings 42 = .ok (.istore_n 2, 1) := by decide +kernel
theorem dX9_evenings_43 : decode cX9_evenings 43 = .ok (.iload_n 2, 1) := by decide +kernel
theorem dX9_evenings_44 : decode cX9_evenings 44 = .ok (.iload_n 1, 1) := by decide +kernel
theorem dX9_evenings_45 : decode cX9_evenings 45 = .ok (.if_icmp .ge 63, 3) := by decide +kernel
theorem dX9_evenings_48 : decode cX9_evenings 48 = .ok (.iconst 0, 1) := by decide +kernel
theorem dX9_evenings_49 : decode cX9_evenings 49 = .ok (.istore_n 3, 1) := by decide +kernel
theorem dX9_evenings_50 : decode cX9_evenings 50 = .ok (.iload_n 3, 1) := by decide +kernel
theorem dX9_evenings_51 : decode cX9_evenings 51 = .ok (.aload_n 0, 1) := by decide +kernel
theorem dX9_evenings_52 : decode cX9_evenings 52 = .ok (.getfield 7, 3) := by decide +kernel
theorem dX9_evenings_55 : decode cX9_evenings 55 = .ok (.iconst 0, 1) := by decide +kernel
theorem dX9_evenings_56 : decode cX9_evenings 56 = .ok (.iaload, 1) := by decide +kernel
theorem dX9_evenings_57 : decode cX9_evenings 57 = .ok (.if_icmp .ge 34, 3) := by decide +kernel
theorem dX9_evenings_60 : decode cX9_evenings 60 = .ok (.aload_n 0, 1) := by decide +kernel
theorem dX9_evenings_61 : decode cX9_evenings 61 = .ok (.invokevirtual 205, 3) := by decide +kernel
theorem dX9_evenings_64 : decode cX9_evenings 64 = .ok (.bipush 12, 2) := by decide +kernel
theorem dX9_evenings_66 : decode cX9_evenings 66 = .ok (.irem, 1) := by decide +kernel
theorem dX9_evenings_67 : decode cX9_evenings 67 = .ok (.istore 4, 2) := by decide +kernel
theorem dX9_evenings_69 : decode cX9_evenings 69 = .ok (.aload_n 0, 1) := by decide +kernel
theorem dX9_evenings_70 : decode cX9_evenings 70 = .ok (.iload_n 3, 1) := by decide +kernel
theorem dX9_evenings_71 : decode cX9_evenings 71 = .ok (.aload_n 0, 1) := by decide +kernel
theorem dX9_evenings_72 : decode cX9_evenings 72 = .ok (.getfield 7, 3) := by decide +kernel
theorem dX9_evenings_75 : decode cX9_evenings 75 = .ok (.iconst 1, 1) := by decide +kernel
theorem dX9_evenings_76 : decode cX9_evenings 76 = .ok (.iaload, 1) := by decide +kernel
theorem dX9_evenings_77 : decode cX9_evenings 77 = .ok (.iload 4, 2) := by decide +kernel
theorem dX9_evenings_79 : decode cX9_evenings 79 = .ok (.iadd, 1) := by decide +kernel
theorem dX9_evenings_80 : decode cX9_evenings 80 = .ok (.invokevirtual 201, 3) := by decide +kernel
theorem dX9_evenings_83 : decode cX9_evenings 83 = .ok (.istore 5, 2) := by decide +kernel
theorem dX9_evenings_85 : decode cX9_evenings 85 = .ok (.iinc 3 1, 3) := by decide +kernel
theorem dX9_evenings_88 : decode cX9_evenings 88 = .ok (.goto (-38), 3) := by decide +kernel
theorem dX9_evenings_91 : decode cX9_evenings 91 = .ok (.aload_n 0, 1) := by decide +kernel
theorem dX9_evenings_92 : decode cX9_evenings 92 = .ok (.getfield 7, 3) := by decide +kernel
theorem dX9_evenings_95 : decode cX9_evenings 95 = .ok (.iconst 1, 1) := by decide +kernel
theorem dX9_evenings_96 : decode cX9_evenings 96 = .ok (.dup2, 1) := by decide +kernel
theorem dX9_evenings_97 : decode cX9_evenings 97 = .ok (.iaload, 1) := by decide +kernel
theorem dX9_evenings_98 : decode cX9_evenings 98 = .ok (.bipush 12, 2) := by decide +kernel
theorem dX9_evenings_100 : decode cX9_evenings 100 = .ok (.iadd, 1) := by decide +kernel
theorem dX9_evenings_101 : decode cX9_evenings 101 = .ok (.iastore, 1) := by decide +kernel
theorem dX9_evenings_102 : decode cX9_evenings 102 = .ok (.iinc 2 1, 3) := by decide +kernel
theorem dX9_evenings_105 : decode cX9_evenings 105 = .ok (.goto (-62), 3) := by decide +kernel
theorem dX9_evenings_108 : decode cX9_evenings 108 = .ok (.aload_n 0, 1) := by decide +kernel
theorem dX9_evenings_109 : decode cX9_evenings 109 = .ok (.getfield 7, 3) := by decide +kernel
theorem dX9_evenings_112 : decode cX9_evenings 112 = .ok (.iconst 2, 1) := by decide +kernel
theorem dX9_evenings_113 : decode cX9_evenings 113 = .ok (.iaload, 1) := by decide +kernel
theorem dX9_evenings_114 : decode cX9_evenings 114 = .ok (.ireturn, 1) := by decide +kernel
theorem dX9_rest_0 : decode cX9_rest 0 = .ok (.iconst 0, 1) := by decide +kernel
theorem dX9_rest_1 : decode cX9_rest 1 = .ok (.istore_n 1, 1) := by decide +kernel
theorem dX9_rest_2 : decode cX9_rest 2 = .ok (.iconst 0, 1) := by decide +kernel
theorem dX9_rest_3 : decode cX9_rest 3 = .ok (.istore_n 2, 1) := by decide +kernel
theorem dX9_rest_4 : decode cX9_rest 4 = .ok (.iload_n 2, 1) := by decide +kernel
theorem dX9_rest_5 : decode cX9_rest 5 = .ok (.aload_n 0, 1) := by decide +kernel
theorem dX9_rest_6 : decode cX9_rest 6 = .ok (.getfield 7, 3) := by decide +kernel
theorem dX9_rest_9 : decode cX9_rest 9 = .ok (.iconst 0, 1) := by decide +kernel
theorem dX9_rest_10 : decode cX9_rest 10 = .ok (.iaload, 1) := by decide +kernel
theorem dX9_rest_11 : decode cX9_rest 11 = .ok (.if_icmp .ge 25, 3) := by decide +kernel
theorem dX9_rest_14 : decode cX9_rest 14 = .ok (.iload_n 1, 1) := by decide +kernel
theorem dX9_rest_15 : decode cX9_rest 15 = .ok (.aload_n 0, 1) := by decide +kernel
theorem dX9_rest_16 : decode cX9_rest 16 = .ok (.iload_n 2, 1) := by decide +kernel
theorem dX9_rest_17 : decode cX9_rest 17 = .ok (.iconst 3, 1) := by decide +kernel
theorem dX9_rest_18 : decode cX9_rest 18 = .ok (.invokevirtual 144, 3) := by decide +kernel
theorem dX9_rest_21 : decode cX9_rest 21 = .ok (.iadd, 1) := by decide +kernel
theorem dX9_rest_22 : decode cX9_rest 22 = .ok (.istore_n 1, 1) := by decide +kernel
theorem dX9_rest_23 : decode cX9_rest 23 = .ok (.aload_n 0, 1) := by decide +kernel
theorem dX9_rest_24 : decode cX9_rest 24 = .ok (.iload_n 2, 1) := by decide +kernel
theorem dX9_rest_25 : decode cX9_rest 25 = .ok (.iconst 3, 1) := by decide +kernel
theorem dX9_rest_26 : decode cX9_rest 26 = .ok (.iconst 0, 1) := by decide +kernel
theorem dX9_rest_27 : decode cX9_rest 27 = .ok (.invokevirtual 149, 3) := by decide +kernel
theorem dX9_rest_30 : decode cX9_rest 30 = .ok (.iinc 2 1, 3) := by decide +kernel
theorem dX9_rest_33 : decode cX9_rest 33 = .ok (.goto (-29), 3) := by decide +kernel
theorem dX9_rest_36 : decode cX9_rest 36 = .ok (.iload_n 1, 1) := by decide +kernel
theorem dX9_rest_37 : decode cX9_rest 37 = .ok (.ireturn, 1) := by decide +kernel
theorem dX9_isSoon_0 : decode cX9_isSoon 0 = .ok (.iload_n 0, 1) := by decide +kernel
theorem dX9_isSoon_1 : decode cX9_isSoon 1 = .ok (.i2l, 1) := by decide +kernel
theorem dX9_isSoon_2 : decode cX9_isSoon 2 = .ok (.lconst 0, 1) := by decide +kernel
theorem dX9_isSoon_3 : decode cX9_isSoon 3 = .ok (.ldc2_w 132, 3) := by decide +kernel
theorem dX9_isSoon_6 : decode cX9_isSoon 6 = .ok (.invokestatic 45, 3) := by decide +kernel
theorem dX9_isSoon_9 : decode cX9_isSoon 9 = .ok (.ireturn, 1) := by decide +kernel
theorem dX9_isSpan_0 : decode cX9_isSpan 0 = .ok (.iload_n 0, 1) := by decide +kernel
theorem dX9_isSpan_1 : decode cX9_isSpan 1 = .ok (.i2l, 1) := by decide +kernel
theorem dX9_isSpan_2 : decode cX9_isSpan 2 = .ok (.lconst 1, 1) := by decide +kernel
theorem dX9_isSpan_3 : decode cX9_isSpan 3 = .ok (.ldc2_w 132, 3) := by decide +kernel
theorem dX9_isSpan_6 : decode cX9_isSpan 6 = .ok (.invokestatic 45, 3) := by decide +kernel
theorem dX9_isSpan_9 : decode cX9_isSpan 9 = .ok (.ireturn, 1) := by decide +kernel
theorem dX9_then_0 : decode cX9_then 0 = .ok (.aload_n 0, 1) := by decide +kernel
theorem dX9_then_1 : decode cX9_then 1 = .ok (.iload_n 1, 1) := by decide +kernel
theorem dX9_then_2 : decode cX9_then 2 = .ok (.invokevirtual 153, 3) := by decide +kernel
theorem dX9_then_5 : decode cX9_then 5 = .ok (.ifCond .eq 22, 3) := by decide +kernel
theorem dX9_then_8 : decode cX9_then 8 = .ok (.iload_n 2, 1) := by decide +kernel
theorem dX9_then_9 : decode cX9_then 9 = .ok (.invokestatic 208, 3) := by decide +kernel
theorem dX9_then_12 : decode cX9_then 12 = .ok (.ifCond .eq 15, 3) := by decide +kernel
theorem dX9_then_15 : decode cX9_then 15 = .ok (.iload_n 3, 1) := by decide +kernel
theorem dX9_then_16 : decode cX9_then 16 = .ok (.i2l, 1) := by decide +kernel
theorem dX9_then_17 : decode cX9_then 17 = .ok (.lconst 0, 1) := by decide +kernel
theorem dX9_then_18 : decode cX9_then 18 = .ok (.ldc2_w 128, 3) := by decide +kernel
theorem dX9_then_21 : decode cX9_then 21 = .ok (.invokestatic 45, 3) := by decide +kernel
theorem dX9_then_24 : decode cX9_then 24 = .ok (.ifCond .ne 9, 3) := by decide +kernel
theorem dX9_then_27 : decode cX9_then 27 = .ok (.aload_n 0, 1) := by decide +kernel
theorem dX9_then_28 : decode cX9_then 28 = .ok (.iconst 1, 1) := by decide +kernel
theorem dX9_then_29 : decode cX9_then 29 = .ok (.invokevirtual 103, 3) := by decide +kernel
theorem dX9_then_32 : decode cX9_then 32 = .ok (.ireturn, 1) := by decide +kernel
theorem dX9_then_33 : decode cX9_then 33 = .ok (.aload_n 0, 1) := by decide +kernel
theorem dX9_then_34 : decode cX9_then 34 = .ok (.iload_n 1, 1) := by decide +kernel
theorem dX9_then_35 : decode cX9_then 35 = .ok (.aload_n 0, 1) := by decide +kernel
theorem dX9_then_36 : decode cX9_then 36 = .ok (.getfield 7, 3) := by decide +kernel
theorem dX9_then_39 : decode cX9_then 39 = .ok (.iconst 1, 1) := by decide +kernel
theorem dX9_then_40 : decode cX9_then 40 = .ok (.iaload, 1) := by decide +kernel
theorem dX9_then_41 : decode cX9_then 41 = .ok (.iload_n 2, 1) := by decide +kernel
theorem dX9_then_42 : decode cX9_then 42 = .ok (.iadd, 1) := by decide +kernel
theorem dX9_then_43 : decode cX9_then 43 = .ok (.invokevirtual 191, 3) := by decide +kernel
theorem dX9_then_46 : decode cX9_then 46 = .ok (.iload_n 3, 1) := by decide +kernel
theorem dX9_then_47 : decode cX9_then 47 = .ok (.tableswitch 58 0 3 #[29, 34, 48, 53], 29) := by decide +kernel
theorem dX9_then_76 : decode cX9_then 76 = .ok (.aload_n 0, 1) := by decide +kernel
theorem dX9_then_77 : decode cX9_then 77 = .ok (.invokevirtual 185, 3) := by decide +kernel
theorem dX9_then_80 : decode cX9_then 80 = .ok (.ireturn, 1) := by decide +kernel
theorem dX9_then_81 : decode cX9_then 81 = .ok (.aload_n 0, 1) := by decide +kernel
theorem dX9_then_82 : decode cX9_then 82 = .ok (.iload_n 1, 1) := by decide +kernel
theorem dX9_then_83 : decode cX9_then 83 = .ok (.invokevirtual 194, 3) := by decide +kernel
theorem dX9_then_86 : decode cX9_then 86 = .ok (.ifCond .eq 7, 3) := by decide +kernel
theorem dX9_then_89 : decode cX9_then 89 = .ok (.iconst 1, 1) := by decide +kernel
theorem dX9_then_90 : decode cX9_then 90 = .ok (.goto 4, 3) := by decide +kernel
theorem dX9_then_93 : decode cX9_then 93 = .ok (.iconst 0, 1) := by decide +kernel
theorem dX9_then_94 : decode cX9_then 94 = .ok (.ireturn, 1) := by decide +kernel
theorem dX9_then_95 : decode cX9_then 95 = .ok (.aload_n 0, 1) := by decide +kernel
theorem dX9_then_96 : decode cX9_then 96 = .ok (.getfield 172, 3) := by decide +kernel
theorem dX9_then_99 : decode cX9_then 99 = .ok (.ireturn, 1) := by decide +kernel
theorem dX9_then_100 : decode cX9_then 100 = .ok (.aload_n 0, 1) := by decide +kernel
theorem dX9_then_101 : decode cX9_then 101 = .ok (.getfield 175, 3) := by decide +kernel
theorem dX9_then_104 : decode cX9_then 104 = .ok (.ireturn, 1) := by decide +kernel
theorem dX9_then_105 : decode cX9_then 105 = .ok (.aload_n 0, 1) := by decide +kernel
theorem dX9_then_106 : decode cX9_then 106 = .ok (.iload_n 1, 1) := by decide +kernel
theorem dX9_then_107 : decode cX9_then 107 = .ok (.aload_n 0, 1) := by decide +kernel
theorem dX9_then_108 : decode cX9_then 108 = .ok (.getfield 7, 3) := by decide +kernel
theorem dX9_then_111 : decode cX9_then 111 = .ok (.bipush 7, 2) := by decide +kernel
theorem dX9_then_113 : decode cX9_then 113 = .ok (.iaload, 1) := by decide +kernel
theorem dX9_then_114 : decode cX9_then 114 = .ok (.invokevirtual 197, 3) := by decide +kernel
theorem dX9_then_117 : decode cX9_then 117 = .ok (.ireturn, 1) := by decide +kernel
theorem dX9_findCan_0 : decode cX9_findCan 0 = .ok (.aload_n 0, 1) := by decide +kernel
theorem dX9_findCan_1 : decode cX9_findCan 1 = .ok (.iconst 0, 1) := by decide +kernel
theorem dX9_findCan_2 : decode cX9_findCan 2 = .ok (.putfield 211, 3) := by decide +kernel
theorem dX9_findCan_5 : decode cX9_findCan 5 = .ok (.aload_n 0, 1) := by decide +kernel
theorem dX9_findCan_6 : decode cX9_findCan 6 = .ok (.iconst (-1), 1) := by decide +kernel
theorem dX9_findCan_7 : decode cX9_findCan 7 = .ok (.putfield 214, 3) := by decide +kernel
theorem dX9_findCan_10 : decode cX9_findCan 10 = .ok (.iload_n 2, 1) := by decide +kernel
theorem dX9_findCan_11 : decode cX9_findCan 11 = .ok (.iconst 1, 1) := by decide +kernel
theorem dX9_findCan_12 : decode cX9_findCan 12 = .ok (.isub, 1) := by decide +kernel
theorem dX9_findCan_13 : decode cX9_findCan 13 = .ok (.istore_n 3, 1) := by decide +kernel
theorem dX9_findCan_14 : decode cX9_findCan 14 = .ok (.iload_n 3, 1) := by decide +kernel
theorem dX9_findCan_15 : decode cX9_findCan 15 = .ok (.ifCond .lt 45, 3) := by decide +kernel
theorem dX9_findCan_18 : decode cX9_findCan 18 = .ok (.aload_n 0, 1) := by decide +kernel
theorem dX9_findCan_19 : decode cX9_findCan 19 = .ok (.iload_n 1, 1) := by decide +kernel
theorem dX9_findCan_20 : decode cX9_findCan 20 = .ok (.aload_n 0, 1) := by decide +kernel
theorem dX9_findCan_21 : decode cX9_findCan 21 = .ok (.getfield 7, 3) := by decide +kernel
theorem dX9_findCan_24 : decode cX9_findCan 24 = .ok (.iconst 1, 1) := by decide +kernel
theorem dX9_findCan_25 : decode cX9_findCan 25 = .ok (.iaload, 1) := by decide +kernel
theorem dX9_findCan_26 : decode cX9_findCan 26 = .ok (.iload_n 3, 1) := by decide +kernel
theorem dX9_findCan_27 : decode cX9_findCan 27 = .ok (.iadd, 1) := by decide +kernel
theorem dX9_findCan_28 : decode cX9_findCan 28 = .ok (.invokevirtual 191, 3) := by decide +kernel
theorem dX9_findCan_31 : decode cX9_findCan 31 = .ok (.aload_n 0, 1) := by decide +kernel
theorem dX9_findCan_32 : decode cX9_findCan 32 = .ok (.iload_n 1, 1) := by decide +kernel
theorem dX9_findCan_33 : decode cX9_findCan 33 = .ok (.invokevirtual 194, 3) := by decide +kernel
theorem dX9_findCan_36 : decode cX9_findCan 36 = .ok (.ifCond .eq 18, 3) := by decide +kernel
theorem dX9_findCan_39 : decode cX9_findCan 39 = .ok (.aload_n 0, 1) := by decide +kernel
theorem dX9_findCan_40 : decode cX9_findCan 40 = .ok (.dup, 1) := by decide +kernel
theorem dX9_findCan_41 : decode cX9_findCan 41 = .ok (.getfield 211, 3) := by decide +kernel
theorem dX9_findCan_44 : decode cX9_findCan 44 = .ok (.iconst 1, 1) := by decide +kernel
theorem dX9_findCan_45 : decode cX9_findCan 45 = .ok (.iadd, 1) := by decide +kernel
theorem dX9_findCan_46 : decode cX9_findCan 46 = .ok (.putfield 211, 3) := by decide +kernel
theorem dX9_findCan_49 : decode cX9_findCan 49 = .ok (.aload_n 0, 1) := by decide +kernel
theorem dX9_findCan_50 : decode cX9_findCan 50 = .ok (.iload_n 3, 1) := by decide +kernel
theorem dX9_findCan_51 : decode cX9_findCan 51 = .ok (.putfield 214, 3) := by decide +kernel
theorem dX9_findCan_54 : decode cX9_findCan 54 = .ok (.iinc 3 (-1), 3) := by decide +kernel
theorem dX9_findCan_57 : decode cX9_findCan 57 = .ok (.goto (-43), 3) := by decide +kernel
theorem dX9_findCan_60 : decode cX9_findCan 60 = .ok (.return_, 1) := by decide +kernel
theorem dX9_can_0 : decode cX9_can 0 = .ok (.aload_n 0, 1) := by decide +kernel
theorem dX9_can_1 : decode cX9_can 1 = .ok (.iload_n 1, 1) := by decide +kernel
theorem dX9_can_2 : decode cX9_can 2 = .ok (.invokevirtual 153, 3) := by decide +kernel
theorem dX9_can_5 : decode cX9_can 5 = .ok (.ifCond .eq 20, 3) := by decide +kernel
theorem dX9_can_8 : decode cX9_can 8 = .ok (.iload_n 2, 1) := by decide +kernel
theorem dX9_can_9 : decode cX9_can 9 = .ok (.invokestatic 217, 3) := by decide +kernel
theorem dX9_can_12 : decode cX9_can 12 = .ok (.ifCond .eq 13, 3) := by decide +kernel
theorem dX9_can_15 : decode cX9_can 15 = .ok (.iload_n 3, 1) := by decide +kernel
theorem dX9_can_16 : decode cX9_can 16 = .ok (.i2l, 1) := by decide +kernel
theorem dX9_can_17 : decode cX9_can 17 = .ok (.lconst 0, 1) := by decide +kernel
theorem dX9_can_18 : decode cX9_can 18 = .ok (.lconst 1, 1) := by decide +kernel
theorem dX9_can_19 : decode cX9_can 19 = .ok (.invokestatic 45, 3) := by decide +kernel
theorem dX9_can_22 : decode cX9_can 22 = .ok (.ifCond .ne 9, 3) := by decide +kernel
theorem dX9_can_25 : decode cX9_can 25 = .ok (.aload_n 0, 1) := by decide +kernel
theorem dX9_can_26 : decode cX9_can 26 = .ok (.iconst 1, 1) := by decide +kernel
theorem dX9_can_27 : decode cX9_can 27 = .ok (.invokevirtual 103, 3) := by decide +kernel
theorem dX9_can_30 : decode cX9_can 30 = .ok (.ireturn, 1) := by decide +kernel
theorem dX9_can_31 : decode cX9_can 31 = .ok (.aload_n 0, 1) := by decide +kernel
theorem dX9_can_32 : decode cX9_can 32 = .ok (.iload_n 1, 1) := by decide +kernel
theorem dX9_can_33 : decode cX9_can 33 = .ok (.iload_n 2, 1) := by decide +kernel
theorem dX9_can_34 : decode cX9_can 34 = .ok (.invokevirtual 220, 3) := by decide +kernel
theorem dX9_can_37 : decode cX9_can 37 = .ok (.iload_n 3, 1) := by decide +kernel
theorem dX9_can_38 : decode cX9_can 38 = .ok (.ifCond .ne 8, 3) := by decide +kernel
theorem dX9_can_41 : decode cX9_can 41 = .ok (.aload_n 0, 1) := by decide +kernel
theorem dX9_can_42 : decode cX9_can 42 = .ok (.getfield 211, 3) := by decide +kernel
theorem dX9_can_45 : decode cX9_can 45 = .ok (.ireturn, 1) := by decide +kernel
theorem dX9_can_46 : decode cX9_can 46 = .ok (.aload_n 0, 1) := by decide +kernel
theorem dX9_can_47 : decode cX9_can 47 = .ok (.getfield 214, 3) := by decide +kernel
theorem dX9_can_50 : decode cX9_can 50 = .ok (.ifCond .ge 11, 3) := by decide +kernel
theorem dX9_can_53 : decode cX9_can 53 = .ok (.aload_n 0, 1) := by decide +kernel
theorem dX9_can_54 : decode cX9_can 54 = .ok (.iconst 2, 1) := by decide +kernel
theorem dX9_can_55 : decode cX9_can 55 = .ok (.invokevirtual 103, 3) := by decide +kernel
theorem dX9_can_58 : decode cX9_can 58 = .ok (.goto 7, 3) := by decide +kernel
theorem dX9_can_61 : decode cX9_can 61 = .ok (.aload_n 0, 1) := by decide +kernel
theorem dX9_can_62 : decode cX9_can 62 = .ok (.getfield 214, 3) := by decide +kernel
theorem dX9_can_65 : decode cX9_can 65 = .ok (.ireturn, 1) := by decide +kernel
theorem dX9_casesAt_0 : decode cX9_casesAt 0 = .ok (.iconst 0, 1) := by decide +kernel
theorem dX9_casesAt_1 : decode cX9_casesAt 1 = .ok (.istore_n 3, 1) := by decide +kernel
theorem dX9_casesAt_2 : decode cX9_casesAt 2 = .ok (.iconst (-1), 1) := by decide +kernel
theorem dX9_casesAt_3 : decode cX9_casesAt 3 = .ok (.istore 4, 2) := by decide +kernel
theorem dX9_casesAt_5 : decode cX9_casesAt 5 = .ok (.iload 4, 2) := by decide +kernel
theorem dX9_casesAt_7 : decode cX9_casesAt 7 = .ok (.iconst 1, 1) := by decide +kernel
theorem dX9_casesAt_8 : decode cX9_casesAt 8 = .ok (.if_icmp .gt 74, 3) := by decide +kernel
theorem dX9_casesAt_11 : decode cX9_casesAt 11 = .ok (.aload_n 0, 1) := by decide +kernel
theorem dX9_casesAt_12 : decode cX9_casesAt 12 = .ok (.iload_n 1, 1) := by decide +kernel
theorem dX9_casesAt_13 : decode cX9_casesAt 13 = .ok (.iload_n 2, 1) := by decide +kernel
theorem dX9_casesAt_14 : decode cX9_casesAt 14 = .ok (.aload_n 0, 1) := by decide +kernel
theorem dX9_casesAt_15 : decode cX9_casesAt 15 = .ok (.iload_n 1, 1) := by decide +kernel
theorem dX9_casesAt_16 : decode cX9_casesAt 16 = .ok (.invokevirtual 158, 3) := by decide +kernel
theorem dX9_casesAt_19 : decode cX9_casesAt 19 = .ok (.iadd, 1) := by decide +kernel
theorem dX9_casesAt_20 : decode cX9_casesAt 20 = .ok (.iload 4, 2) := by decide +kernel
theorem dX9_casesAt_22 : decode cX9_casesAt 22 = .ok (.iadd, 1) := by decide +kernel
theorem dX9_casesAt_23 : decode cX9_casesAt 23 = .ok (.invokevirtual 181, 3) := by decide +kernel
theorem dX9_casesAt_26 : decode cX9_casesAt 26 = .ok (.iconst (-1), 1) := by decide +kernel
theorem dX9_casesAt_27 : decode cX9_casesAt 27 = .ok (.istore 5, 2) := by decide +kernel
theorem dX9_casesAt_29 : decode cX9_casesAt 29 = .ok (.iload 5, 2) := by decide +kernel
theorem dX9_casesAt_31 : decode cX9_casesAt 31 = .ok (.iconst 1, 1) := by decide +kernel
theorem dX9_casesAt_32 : decode cX9_casesAt 32 = .ok (.if_icmp .gt 44, 3) := by decide +kernel
theorem dX9_casesAt_35 : decode cX9_casesAt 35 = .ok (.iload_n 3, 1) := by decide +kernel
theorem dX9_casesAt_36 : decode cX9_casesAt 36 = .ok (.aload_n 0, 1) := by decide +kernel
theorem dX9_casesAt_37 : decode cX9_casesAt 37 = .ok (.getfield 175, 3) := by decide +kernel
theorem dX9_casesAt_40 : decode cX9_casesAt 40 = .ok (.aload_n 0, 1) := by decide +kernel
theorem dX9_casesAt_41 : decode cX9_casesAt 41 = .ok (.aload_n 0, 1) := by decide +kernel
theorem dX9_casesAt_42 : decode cX9_casesAt 42 = .ok (.getfield 172, 3) := by decide +kernel
theorem dX9_casesAt_45 : decode cX9_casesAt 45 = .ok (.iload 5, 2) := by decide +kernel
theorem dX9_casesAt_47 : decode cX9_casesAt 47 = .ok (.iadd, 1) := by decide +kernel
theorem dX9_casesAt_48 : decode cX9_casesAt 48 = .ok (.invokevirtual 178, 3) := by decide +kernel
theorem dX9_casesAt_51 : decode cX9_casesAt 51 = .ok (.isub, 1) := by decide +kernel
theorem dX9_casesAt_52 : decode cX9_casesAt 52 = .ok (.invokestatic 188, 3) := by decide +kernel
theorem dX9_casesAt_55 : decode cX9_casesAt 55 = .ok (.aload_n 0, 1) := by decide +kernel
theorem dX9_casesAt_56 : decode cX9_casesAt 56 = .ok (.iload_n 1, 1) := by decide +kernel
theorem dX9_casesAt_57 : decode cX9_casesAt 57 = .ok (.invokevirtual 161, 3) := by decide +kernel
theorem dX9_casesAt_60 : decode cX9_casesAt 60 = .ok (.if_icmp .gt 7, 3) := by decide +kernel
theorem dX9_casesAt_63 : decode cX9_casesAt 63 = .ok (.iconst 1, 1) := by decide +kernel
theorem dX9_casesAt_64 : decode cX9_casesAt 64 = .ok (.goto 4, 3) := by decide +kernel
theorem dX9_casesAt_67 : decode cX9_casesAt 67 = .ok (.iconst 0, 1) := by decide +kernel
theorem dX9_casesAt_68 : decode cX9_casesAt 68 = .ok (.iadd, 1) := by decide +kernel
theorem dX9_casesAt_69 : decode cX9_casesAt 69 = .ok (.istore_n 3, 1) := by decide +kernel
theorem dX9_casesAt_70 : decode cX9_casesAt 70 = .ok (.iinc 5 1, 3) := by decide +kernel
theorem dX9_casesAt_73 : decode cX9_casesAt 73 = .ok (.goto (-44), 3) := by decide +kernel
theorem dX9_casesAt_76 : decode cX9_casesAt 76 = .ok (.iinc 4 1, 3) := by decide +kernel
theorem dX9_casesAt_79 : decode cX9_casesAt 79 = .ok (.goto (-74), 3) := by decide +kernel
theorem dX9_casesAt_82 : decode cX9_casesAt 82 = .ok (.iload_n 3, 1) := by decide +kernel
theorem dX9_casesAt_83 : decode cX9_casesAt 83 = .ok (.ireturn, 1) := by decide +kernel
theorem dX9_surestOf_0 : decode cX9_surestOf 0 = .ok (.iconst 0, 1) := by decide +kernel
theorem dX9_surestOf_1 : decode cX9_surestOf 1 = .ok (.istore_n 3, 1) := by decide +kernel
theorem dX9_surestOf_2 : decode cX9_surestOf 2 = .ok (.iconst (-1), 1) := by decide +kernel
theorem dX9_surestOf_3 : decode cX9_surestOf 3 = .ok (.istore 4, 2) := by decide +kernel
theorem dX9_surestOf_5 : decode cX9_surestOf 5 = .ok (.iconst 0, 1) := by decide +kernel
theorem dX9_surestOf_6 : decode cX9_surestOf 6 = .ok (.istore 5, 2) := by decide +kernel
theorem dX9_surestOf_8 : decode cX9_surestOf 8 = .ok (.iload 5, 2) := by decide +kernel
theorem dX9_surestOf_10 : decode cX9_surestOf 10 = .ok (.iload_n 2, 1) := by decide +kernel
theorem dX9_surestOf_11 : decode cX9_surestOf 11 = .ok (.if_icmp .ge 55, 3) := by decide +kernel
theorem dX9_surestOf_14 : decode cX9_surestOf 14 = .ok (.aload_n 0, 1) := by decide +kernel
theorem dX9_surestOf_15 : decode cX9_surestOf 15 = .ok (.iload_n 1, 1) := by decide +kernel
theorem dX9_surestOf_16 : decode cX9_surestOf 16 = .ok (.aload_n 0, 1) := by decide +kernel
theorem dX9_surestOf_17 : decode cX9_surestOf 17 = .ok (.getfield 7, 3) := by decide +kernel
theorem dX9_surestOf_20 : decode cX9_surestOf 20 = .ok (.iconst 1, 1) := by decide +kernel
theorem dX9_surestOf_21 : decode cX9_surestOf 21 = .ok (.iaload, 1) := by decide +kernel
theorem dX9_surestOf_22 : decode cX9_surestOf 22 = .ok (.iload 5, 2) := by decide +kernel
theorem dX9_surestOf_24 : decode cX9_surestOf 24 = .ok (.iadd, 1) := by decide +kernel
theorem dX9_surestOf_25 : decode cX9_surestOf 25 = .ok (.invokevirtual 223, 3) := by decide +kernel
theorem dX9_surestOf_28 : decode cX9_surestOf 28 = .ok (.istore 6, 2) := by decide +kernel
theorem dX9_surestOf_30 : decode cX9_surestOf 30 = .ok (.iload 6, 2) := by decide +kernel
theorem dX9_surestOf_32 : decode cX9_surestOf 32 = .ok (.iload 4, 2) := by decide +kernel
theorem dX9_surestOf_34 : decode cX9_surestOf 34 = .ok (.if_icmp .le 8, 3) := by decide +kernel
theorem dX9_surestOf_37 : decode cX9_surestOf 37 = .ok (.iload 5, 2) := by decide +kernel
theorem dX9_surestOf_39 : decode cX9_surestOf 39 = .ok (.goto 4, 3) := by decide +kernel
theorem dX9_surestOf_42 : decode cX9_surestOf 42 = .ok (.iload_n 3, 1) := by decide +kernel
theorem dX9_surestOf_43 : decode cX9_surestOf 43 = .ok (.istore_n 3, 1) := by decide +kernel
theorem dX9_surestOf_44 : decode cX9_surestOf 44 = .ok (.iload 6, 2) := by decide +kernel
theorem dX9_surestOf_46 : decode cX9_surestOf 46 = .ok (.iload 4, 2) := by decide +kernel
theorem dX9_surestOf_48 : decode cX9_surestOf 48 = .ok (.if_icmp .le 8, 3) := by decide +kernel
theorem dX9_surestOf_51 : decode cX9_surestOf 51 = .ok (.iload 6, 2) := by decide +kernel
theorem dX9_surestOf_53 : decode cX9_surestOf 53 = .ok (.goto 5, 3) := by decide +kernel
theorem dX9_surestOf_56 : decode cX9_surestOf 56 = .ok (.iload 4, 2) := by decide +kernel
theorem dX9_surestOf_58 : decode cX9_surestOf 58 = .ok (.istore 4, 2) := by decide +kernel
theorem dX9_surestOf_60 : decode cX9_surestOf 60 = .ok (.iinc 5 1, 3) := by decide +kernel
theorem dX9_surestOf_63 : decode cX9_surestOf 63 = .ok (.goto (-55), 3) := by decide +kernel
theorem dX9_surestOf_66 : decode cX9_surestOf 66 = .ok (.iload_n 3, 1) := by decide +kernel
theorem dX9_surestOf_67 : decode cX9_surestOf 67 = .ok (.ireturn, 1) := by decide +kernel
theorem dX9_surest_0 : decode cX9_surest 0 = .ok (.aload_n 0, 1) := by decide +kernel
theorem dX9_surest_1 : decode cX9_surest 1 = .ok (.iload_n 1, 1) := by decide +kernel
theorem dX9_surest_2 : decode cX9_surest 2 = .ok (.invokevirtual 153, 3) := by decide +kernel
theorem dX9_surest_5 : decode cX9_surest 5 = .ok (.ifCond .eq 19, 3) := by decide +kernel
theorem dX9_surest_8 : decode cX9_surest 8 = .ok (.iload_n 2, 1) := by decide +kernel
theorem dX9_surest_9 : decode cX9_surest 9 = .ok (.invokestatic 217, 3) := by decide +kernel
theorem dX9_surest_12 : decode cX9_surest 12 = .ok (.ifCond .eq 12, 3) := by decide +kernel
theorem dX9_surest_15 : decode cX9_surest 15 = .ok (.aload_n 0, 1) := by decide +kernel
theorem dX9_surest_16 : decode cX9_surest 16 = .ok (.iload_n 1, 1) := by decide +kernel
theorem dX9_surest_17 : decode cX9_surest 17 = .ok (.iload_n 2, 1) := by decide +kernel
theorem dX9_surest_18 : decode cX9_surest 18 = .ok (.invokevirtual 226, 3) := by decide +kernel
theorem dX9_surest_21 : decode cX9_surest 21 = .ok (.goto 8, 3) := by decide +kernel
theorem dX9_surest_24 : decode cX9_surest 24 = .ok (.aload_n 0, 1) := by decide +kernel
theorem dX9_surest_25 : decode cX9_surest 25 = .ok (.iconst 1, 1) := by decide +kernel
theorem dX9_surest_26 : decode cX9_surest 26 = .ok (.invokevirtual 103, 3) := by decide +kernel
theorem dX9_surest_29 : decode cX9_surest 29 = .ok (.ireturn, 1) := by decide +kernel
theorem dX9_common_0 : decode cX9_common 0 = .ok (.lload_n 0, 1) := by decide +kernel
theorem dX9_common_1 : decode cX9_common 1 = .ok (.lconst 0, 1) := by decide +kernel
theorem dX9_common_2 : decode cX9_common 2 = .ok (.lcmp, 1) := by decide +kernel
theorem dX9_common_3 : decode cX9_common 3 = .ok (.ifCond .ge 8, 3) := by decide +kernel
theorem dX9_common_6 : decode cX9_common 6 = .ok (.lload_n 0, 1) := by decide +kernel
theorem dX9_common_7 : decode cX9_common 7 = .ok (.lneg, 1) := by decide +kernel
theorem dX9_common_8 : decode cX9_common 8 = .ok (.goto 4, 3) := by decide +kernel
theorem dX9_common_11 : decode cX9_common 11 = .ok (.lload_n 0, 1) := by decide +kernel
theorem dX9_common_12 : decode cX9_common 12 = .ok (.lstore 4, 2) := by decide +kernel
theorem dX9_common_14 : decode cX9_common 14 = .ok (.lload_n 2, 1) := by decide +kernel
theorem dX9_common_15 : decode cX9_common 15 = .ok (.lstore 6, 2) := by decide +kernel
theorem dX9_common_17 : decode cX9_common 17 = .ok (.lload 6, 2) := by decide +kernel
theorem dX9_common_19 : decode cX9_common 19 = .ok (.lconst 0, 1) := by decide +kernel
theorem dX9_common_20 : decode cX9_common 20 = .ok (.lcmp, 1) := by decide +kernel
theorem dX9_common_21 : decode cX9_common 21 = .ok (.ifCond .eq 21, 3) := by decide +kernel
theorem dX9_common_24 : decode cX9_common 24 = .ok (.lload 4, 2) := by decide +kernel
theorem dX9_common_26 : decode cX9_common 26 = .ok (.lload 6, 2) := by decide +kernel
theorem dX9_common_28 : decode cX9_common 28 = .ok (.lrem, 1) := by decide +kernel
theorem dX9_common_29 : decode cX9_common 29 = .ok (.lstore 8, 2) := by decide +kernel
theorem dX9_common_31 : decode cX9_common 31 = .ok (.lload 6, 2) := by decide +kernel
theorem dX9_common_33 : decode cX9_common 33 = .ok (.lstore 4, 2) := by decide +kernel
theorem dX9_common_35 : decode cX9_common 35 = .ok (.lload 8, 2) := by decide +kernel
theorem dX9_common_37 : decode cX9_common 37 = .ok (.lstore 6, 2) := by decide +kernel
theorem dX9_common_39 : decode cX9_common 39 = .ok (.goto (-22), 3) := by decide +kernel
theorem dX9_common_42 : decode cX9_common 42 = .ok (.lload 4, 2) := by decide +kernel
theorem dX9_common_44 : decode cX9_common 44 = .ok (.lreturn, 1) := by decide +kernel
theorem dX9_odds_0 : decode cX9_odds 0 = .ok (.aload_n 0, 1) := by decide +kernel
theorem dX9_odds_1 : decode cX9_odds 1 = .ok (.iload_n 1, 1) := by decide +kernel
theorem dX9_odds_2 : decode cX9_odds 2 = .ok (.invokevirtual 153, 3) := by decide +kernel
theorem dX9_odds_5 : decode cX9_odds 5 = .ok (.ifCond .eq 20, 3) := by decide +kernel
theorem dX9_odds_8 : decode cX9_odds 8 = .ok (.iload_n 2, 1) := by decide +kernel
theorem dX9_odds_9 : decode cX9_odds 9 = .ok (.invokestatic 208, 3) := by decide +kernel
theorem dX9_odds_12 : decode cX9_odds 12 = .ok (.ifCond .eq 13, 3) := by decide +kernel
theorem dX9_odds_15 : decode cX9_odds 15 = .ok (.iload_n 3, 1) := by decide +kernel
theorem dX9_odds_16 : decode cX9_odds 16 = .ok (.i2l, 1) := by decide +kernel
theorem dX9_odds_17 : decode cX9_odds 17 = .ok (.lconst 0, 1) := by decide +kernel
theorem dX9_odds_18 : decode cX9_odds 18 = .ok (.lconst 1, 1) := by decide +kernel
theorem dX9_odds_19 : decode cX9_odds 19 = .ok (.invokestatic 45, 3) := by decide +kernel
theorem dX9_odds_22 : decode cX9_odds 22 = .ok (.ifCond .ne 9, 3) := by decide +kernel
theorem dX9_odds_25 : decode cX9_odds 25 = .ok (.aload_n 0, 1) := by decide +kernel
theorem dX9_odds_26 : decode cX9_odds 26 = .ok (.iconst 1, 1) := by decide +kernel
theorem dX9_odds_27 : decode cX9_odds 27 = .ok (.invokevirtual 103, 3) := by decide +kernel
theorem dX9_odds_30 : decode cX9_odds 30 = .ok (.ireturn, 1) := by decide +kernel
theorem dX9_odds_31 : decode cX9_odds 31 = .ok (.aload_n 0, 1) := by decide +kernel
theorem dX9_odds_32 : decode cX9_odds 32 = .ok (.iload_n 1, 1) := by decide +kernel
theorem dX9_odds_33 : decode cX9_odds 33 = .ok (.aload_n 0, 1) := by decide +kernel
theorem dX9_odds_34 : decode cX9_odds 34 = .ok (.getfield 7, 3) := by decide +kernel
theorem dX9_odds_37 : decode cX9_odds 37 = .ok (.iconst 1, 1) := by decide +kernel
theorem dX9_odds_38 : decode cX9_odds 38 = .ok (.iaload, 1) := by decide +kernel
theorem dX9_odds_39 : decode cX9_odds 39 = .ok (.iload_n 2, 1) := by decide +kernel
theorem dX9_odds_40 : decode cX9_odds 40 = .ok (.iadd, 1) := by decide +kernel
theorem dX9_odds_41 : decode cX9_odds 41 = .ok (.invokevirtual 223, 3) := by decide +kernel
theorem dX9_odds_44 : decode cX9_odds 44 = .ok (.istore 4, 2) := by decide +kernel
theorem dX9_odds_46 : decode cX9_odds 46 = .ok (.iload 4, 2) := by decide +kernel
theorem dX9_odds_48 : decode cX9_odds 48 = .ok (.i2l, 1) := by decide +kernel
theorem dX9_odds_49 : decode cX9_odds 49 = .ok (.ldc2_w 229, 3) := by decide +kernel
theorem dX9_odds_52 : decode cX9_odds 52 = .ok (.invokestatic 231, 3) := by decide +kernel
theorem dX9_odds_55 : decode cX9_odds 55 = .ok (.l2i, 1) := by decide +kernel
theorem dX9_odds_56 : decode cX9_odds 56 = .ok (.istore 5, 2) := by decide +kernel
theorem dX9_odds_58 : decode cX9_odds 58 = .ok (.iload_n 3, 1) := by decide +kernel
theorem dX9_odds_59 : decode cX9_odds 59 = .ok (.ifCond .ne 11, 3) := by decide +kernel
theorem dX9_odds_62 : decode cX9_odds 62 = .ok (.iload 4, 2) := by decide +kernel
theorem dX9_odds_64 : decode cX9_odds 64 = .ok (.iload 5, 2) := by decide +kernel
theorem dX9_odds_66 : decode cX9_odds 66 = .ok (.idiv, 1) := by decide +kernel
theorem dX9_odds_67 : decode cX9_odds 67 = .ok (.goto 8, 3) := by decide +kernel
theorem dX9_odds_70 : decode cX9_odds 70 = .ok (.bipush 9, 2) := by decide +kernel
theorem dX9_odds_72 : decode cX9_odds 72 = .ok (.iload 5, 2) := by decide +kernel
theorem dX9_odds_74 : decode cX9_odds 74 = .ok (.idiv, 1) := by decide +kernel
theorem dX9_odds_75 : decode cX9_odds 75 = .ok (.ireturn, 1) := by decide +kernel
theorem dX9_hasNext_0 : decode cX9_hasNext 0 = .ok (.aload_n 0, 1) := by decide +kernel
theorem dX9_hasNext_1 : decode cX9_hasNext 1 = .ok (.iload_n 1, 1) := by decide +kernel
theorem dX9_hasNext_2 : decode cX9_hasNext 2 = .ok (.iload_n 2, 1) := by decide +kernel
theorem dX9_hasNext_3 : decode cX9_hasNext 3 = .ok (.invokevirtual 220, 3) := by decide +kernel
theorem dX9_hasNext_6 : decode cX9_hasNext 6 = .ok (.aload_n 0, 1) := by decide +kernel
theorem dX9_hasNext_7 : decode cX9_hasNext 7 = .ok (.getfield 211, 3) := by decide +kernel
theorem dX9_hasNext_10 : decode cX9_hasNext 10 = .ok (.ifCond .le 7, 3) := by decide +kernel
theorem dX9_hasNext_13 : decode cX9_hasNext 13 = .ok (.iconst 1, 1) := by decide +kernel
theorem dX9_hasNext_14 : decode cX9_hasNext 14 = .ok (.goto 4, 3) := by decide +kernel
theorem dX9_hasNext_17 : decode cX9_hasNext 17 = .ok (.iconst 0, 1) := by decide +kernel
theorem dX9_hasNext_18 : decode cX9_hasNext 18 = .ok (.ireturn, 1) := by decide +kernel
theorem dX9_pumped_0 : decode cX9_pumped 0 = .ok (.aload_n 0, 1) := by decide +kernel
theorem dX9_pumped_1 : decode cX9_pumped 1 = .ok (.iload_n 1, 1) := by decide +kernel
theorem dX9_pumped_2 : decode cX9_pumped 2 = .ok (.invokevirtual 153, 3) := by decide +kernel
theorem dX9_pumped_5 : decode cX9_pumped 5 = .ok (.ifCond .eq 10, 3) := by decide +kernel
theorem dX9_pumped_8 : decode cX9_pumped 8 = .ok (.iload_n 2, 1) := by decide +kernel
theorem dX9_pumped_9 : decode cX9_pumped 9 = .ok (.invokestatic 217, 3) := by decide +kernel
theorem dX9_pumped_12 : decode cX9_pumped 12 = .ok (.ifCond .ne 9, 3) := by decide +kernel
theorem dX9_pumped_15 : decode cX9_pumped 15 = .ok (.aload_n 0, 1) := by decide +kernel
theorem dX9_pumped_16 : decode cX9_pumped 16 = .ok (.iconst 1, 1) := by decide +kernel
theorem dX9_pumped_17 : decode cX9_pumped 17 = .ok (.invokevirtual 103, 3) := by decide +kernel
theorem dX9_pumped_20 : decode cX9_pumped 20 = .ok (.ireturn, 1) := by decide +kernel
theorem dX9_pumped_21 : decode cX9_pumped 21 = .ok (.aload_n 0, 1) := by decide +kernel
theorem dX9_pumped_22 : decode cX9_pumped 22 = .ok (.getfield 7, 3) := by decide +kernel
theorem dX9_pumped_25 : decode cX9_pumped 25 = .ok (.bipush 13, 2) := by decide +kernel
theorem dX9_pumped_27 : decode cX9_pumped 27 = .ok (.iaload, 1) := by decide +kernel
theorem dX9_pumped_28 : decode cX9_pumped 28 = .ok (.istore_n 3, 1) := by decide +kernel
theorem dX9_pumped_29 : decode cX9_pumped 29 = .ok (.iconst (-1), 1) := by decide +kernel
theorem dX9_pumped_30 : decode cX9_pumped 30 = .ok (.istore 4, 2) := by decide +kernel
theorem dX9_pumped_32 : decode cX9_pumped 32 = .ok (.iconst 0, 1) := by decide +kernel
theorem dX9_pumped_33 : decode cX9_pumped 33 = .ok (.istore 5, 2) := by decide +kernel
theorem dX9_pumped_35 : decode cX9_pumped 35 = .ok (.iload 5, 2) := by decide +kernel
theorem dX9_pumped_37 : decode cX9_pumped 37 = .ok (.bipush 59, 2) := by decide +kernel
theorem dX9_pumped_39 : decode cX9_pumped 39 = .ok (.if_icmp .gt 48, 3) := by decide +kernel
theorem dX9_pumped_42 : decode cX9_pumped 42 = .ok (.iload 4, 2) := by decide +kernel
theorem dX9_pumped_44 : decode cX9_pumped 44 = .ok (.ifCond .ge 43, 3) := by decide +kernel
theorem dX9_pumped_47 : decode cX9_pumped 47 = .ok (.aload_n 0, 1) := by decide +kernel
theorem dX9_pumped_48 : decode cX9_pumped 48 = .ok (.getfield 7, 3) := by decide +kernel
theorem dX9_pumped_51 : decode cX9_pumped 51 = .ok (.bipush 13, 2) := by decide +kernel
theorem dX9_pumped_53 : decode cX9_pumped 53 = .ok (.iload_n 3, 1) := by decide +kernel
theorem dX9_pumped_54 : decode cX9_pumped 54 = .ok (.iload 5, 2) := by decide +kernel
theorem dX9_pumped_56 : decode cX9_pumped 56 = .ok (.iadd, 1) := by decide +kernel
theorem dX9_pumped_57 : decode cX9_pumped 57 = .ok (.iconst 1, 1) := by decide +kernel
theorem dX9_pumped_58 : decode cX9_pumped 58 = .ok (.bipush 60, 2) := by decide +kernel
theorem dX9_pumped_60 : decode cX9_pumped 60 = .ok (.invokestatic 112, 3) := by decide +kernel
theorem dX9_pumped_63 : decode cX9_pumped 63 = .ok (.iastore, 1) := by decide +kernel
theorem dX9_pumped_64 : decode cX9_pumped 64 = .ok (.aload_n 0, 1) := by decide +kernel
theorem dX9_pumped_65 : decode cX9_pumped 65 = .ok (.iload_n 1, 1) := by decide +kernel
theorem dX9_pumped_66 : decode cX9_pumped 66 = .ok (.iload_n 2, 1) := by decide +kernel
theorem dX9_pumped_67 : decode cX9_pumped 67 = .ok (.invokevirtual 235, 3) := by decide +kernel
theorem dX9_pumped_70 : decode cX9_pumped 70 = .ok (.ifCond .eq 8, 3) := by decide +kernel
theorem dX9_pumped_73 : decode cX9_pumped 73 = .ok (.iload 5, 2) := by decide +kernel
theorem dX9_pumped_75 : decode cX9_pumped 75 = .ok (.goto 4, 3) := by decide +kernel
theorem dX9_pumped_78 : decode cX9_pumped 78 = .ok (.iconst (-1), 1) := by decide +kernel
theorem dX9_pumped_79 : decode cX9_pumped 79 = .ok (.istore 4, 2) := by decide +kernel
theorem dX9_pumped_81 : decode cX9_pumped 81 = .ok (.iinc 5 1, 3) := by decide +kernel
theorem dX9_pumped_84 : decode cX9_pumped 84 = .ok (.goto (-49), 3) := by decide +kernel
theorem dX9_pumped_87 : decode cX9_pumped 87 = .ok (.aload_n 0, 1) := by decide +kernel
theorem dX9_pumped_88 : decode cX9_pumped 88 = .ok (.getfield 7, 3) := by decide +kernel
theorem dX9_pumped_91 : decode cX9_pumped 91 = .ok (.bipush 13, 2) := by decide +kernel
theorem dX9_pumped_93 : decode cX9_pumped 93 = .ok (.iload_n 3, 1) := by decide +kernel
theorem dX9_pumped_94 : decode cX9_pumped 94 = .ok (.iastore, 1) := by decide +kernel
theorem dX9_pumped_95 : decode cX9_pumped 95 = .ok (.iload 4, 2) := by decide +kernel
theorem dX9_pumped_97 : decode cX9_pumped 97 = .ok (.ifCond .ge 11, 3) := by decide +kernel
theorem dX9_pumped_100 : decode cX9_pumped 100 = .ok (.aload_n 0, 1) := by decide +kernel
theorem dX9_pumped_101 : decode cX9_pumped 101 = .ok (.iconst 2, 1) := by decide +kernel
theorem dX9_pumped_102 : decode cX9_pumped 102 = .ok (.invokevirtual 103, 3) := by decide +kernel
theorem dX9_pumped_105 : decode cX9_pumped 105 = .ok (.goto 5, 3) := by decide +kernel
theorem dX9_pumped_108 : decode cX9_pumped 108 = .ok (.iload 4, 2) := by decide +kernel
theorem dX9_pumped_110 : decode cX9_pumped 110 = .ok (.ireturn, 1) := by decide +kernel
theorem dX9_inStep_0 : decode cX9_inStep 0 = .ok (.aload_n 0, 1) := by decide +kernel
theorem dX9_inStep_1 : decode cX9_inStep 1 = .ok (.iload_n 1, 1) := by decide +kernel
theorem dX9_inStep_2 : decode cX9_inStep 2 = .ok (.invokevirtual 153, 3) := by decide +kernel
theorem dX9_inStep_5 : decode cX9_inStep 5 = .ok (.ifCond .eq 10, 3) := by decide +kernel
theorem dX9_inStep_8 : decode cX9_inStep 8 = .ok (.iload_n 2, 1) := by decide +kernel
theorem dX9_inStep_9 : decode cX9_inStep 9 = .ok (.invokestatic 217, 3) := by decide +kernel
theorem dX9_inStep_12 : decode cX9_inStep 12 = .ok (.ifCond .ne 9, 3) := by decide +kernel
theorem dX9_inStep_15 : decode cX9_inStep 15 = .ok (.aload_n 0, 1) := by decide +kernel
theorem dX9_inStep_16 : decode cX9_inStep 16 = .ok (.iconst 1, 1) := by decide +kernel
theorem dX9_inStep_17 : decode cX9_inStep 17 = .ok (.invokevirtual 103, 3) := by decide +kernel
theorem dX9_inStep_20 : decode cX9_inStep 20 = .ok (.ireturn, 1) := by decide +kernel
theorem dX9_inStep_21 : decode cX9_inStep 21 = .ok (.aload_n 0, 1) := by decide +kernel
theorem dX9_inStep_22 : decode cX9_inStep 22 = .ok (.getfield 7, 3) := by decide +kernel
theorem dX9_inStep_25 : decode cX9_inStep 25 = .ok (.bipush 17, 2) := by decide +kernel
theorem dX9_inStep_27 : decode cX9_inStep 27 = .ok (.iaload, 1) := by decide +kernel
theorem dX9_inStep_28 : decode cX9_inStep 28 = .ok (.istore_n 3, 1) := by decide +kernel
theorem dX9_inStep_29 : decode cX9_inStep 29 = .ok (.iconst (-1), 1) := by decide +kernel
theorem dX9_inStep_30 : decode cX9_inStep 30 = .ok (.istore 4, 2) := by decide +kernel
theorem dX9_inStep_32 : decode cX9_inStep 32 = .ok (.iconst 0, 1) := by decide +kernel
theorem dX9_inStep_33 : decode cX9_inStep 33 = .ok (.istore 5, 2) := by decide +kernel
theorem dX9_inStep_35 : decode cX9_inStep 35 = .ok (.iload 5, 2) := by decide +kernel
theorem dX9_inStep_37 : decode cX9_inStep 37 = .ok (.bipush 39, 2) := by decide +kernel
theorem dX9_inStep_39 : decode cX9_inStep 39 = .ok (.if_icmp .gt 50, 3) := by decide +kernel
theorem dX9_inStep_42 : decode cX9_inStep 42 = .ok (.iload 4, 2) := by decide +kernel
theorem dX9_inStep_44 : decode cX9_inStep 44 = .ok (.ifCond .ge 45, 3) := by decide +kernel
theorem dX9_inStep_47 : decode cX9_inStep 47 = .ok (.aload_n 0, 1) := by decide +kernel
theorem dX9_inStep_48 : decode cX9_inStep 48 = .ok (.getfield 7, 3) := by decide +kernel
theorem dX9_inStep_51 : decode cX9_inStep 51 = .ok (.bipush 17, 2) := by decide +kernel
theorem dX9_inStep_53 : decode cX9_inStep 53 = .ok (.iload_n 3, 1) := by decide +kernel
theorem dX9_inStep_54 : decode cX9_inStep 54 = .ok (.iload 5, 2) := by decide +kernel
theorem dX9_inStep_56 : decode cX9_inStep 56 = .ok (.iadd, 1) := by decide +kernel
theorem dX9_inStep_57 : decode cX9_inStep 57 = .ok (.aload_n 0, 1) := by decide +kernel
theorem dX9_inStep_58 : decode cX9_inStep 58 = .ok (.getfield 7, 3) := by decide +kernel
theorem dX9_inStep_61 : decode cX9_inStep 61 = .ok (.bipush 15, 2) := by decide +kernel
theorem dX9_inStep_63 : decode cX9_inStep 63 = .ok (.iaload, 1) := by decide +kernel
theorem dX9_inStep_64 : decode cX9_inStep 64 = .ok (.irem, 1) := by decide +kernel
theorem dX9_inStep_65 : decode cX9_inStep 65 = .ok (.iastore, 1) := by decide +kernel
theorem dX9_inStep_66 : decode cX9_inStep 66 = .ok (.aload_n 0, 1) := by decide +kernel
theorem dX9_inStep_67 : decode cX9_inStep 67 = .ok (.iload_n 1, 1) := by decide +kernel
theorem dX9_inStep_68 : decode cX9_inStep 68 = .ok (.iload_n 2, 1) := by decide +kernel
theorem dX9_inStep_69 : decode cX9_inStep 69 = .ok (.invokevirtual 235, 3) := by decide +kernel
theorem dX9_inStep_72 : decode cX9_inStep 72 = .ok (.ifCond .eq 8, 3) := by decide +kernel
theorem dX9_inStep_75 : decode cX9_inStep 75 = .ok (.iload 5, 2) := by decide +kernel
theorem dX9_inStep_77 : decode cX9_inStep 77 = .ok (.goto 4, 3) := by decide +kernel
theorem dX9_inStep_80 : decode cX9_inStep 80 = .ok (.iconst (-1), 1) := by decide +kernel
theorem dX9_inStep_81 : decode cX9_inStep 81 = .ok (.istore 4, 2) := by decide +kernel
theorem dX9_inStep_83 : decode cX9_inStep 83 = .ok (.iinc 5 1, 3) := by decide +kernel
theorem dX9_inStep_86 : decode cX9_inStep 86 = .ok (.goto (-51), 3) := by decide +kernel
theorem dX9_inStep_89 : decode cX9_inStep 89 = .ok (.aload_n 0, 1) := by decide +kernel
theorem dX9_inStep_90 : decode cX9_inStep 90 = .ok (.getfield 7, 3) := by decide +kernel
theorem dX9_inStep_93 : decode cX9_inStep 93 = .ok (.bipush 17, 2) := by decide +kernel
theorem dX9_inStep_95 : decode cX9_inStep 95 = .ok (.iload_n 3, 1) := by decide +kernel
theorem dX9_inStep_96 : decode cX9_inStep 96 = .ok (.iastore, 1) := by decide +kernel
theorem dX9_inStep_97 : decode cX9_inStep 97 = .ok (.iload 4, 2) := by decide +kernel
theorem dX9_inStep_99 : decode cX9_inStep 99 = .ok (.ifCond .ge 11, 3) := by decide +kernel
theorem dX9_inStep_102 : decode cX9_inStep 102 = .ok (.aload_n 0, 1) := by decide +kernel
theorem dX9_inStep_103 : decode cX9_inStep 103 = .ok (.iconst 2, 1) := by decide +kernel
theorem dX9_inStep_104 : decode cX9_inStep 104 = .ok (.invokevirtual 103, 3) := by decide +kernel
theorem dX9_inStep_107 : decode cX9_inStep 107 = .ok (.goto 5, 3) := by decide +kernel
theorem dX9_inStep_110 : decode cX9_inStep 110 = .ok (.iload 4, 2) := by decide +kernel
theorem dX9_inStep_112 : decode cX9_inStep 112 = .ok (.ireturn, 1) := by decide +kernel
theorem dX9_mend_0 : decode cX9_mend 0 = .ok (.aload_n 0, 1) := by decide +kernel
theorem dX9_mend_1 : decode cX9_mend 1 = .ok (.iload_n 1, 1) := by decide +kernel
theorem dX9_mend_2 : decode cX9_mend 2 = .ok (.invokevirtual 153, 3) := by decide +kernel
theorem dX9_mend_5 : decode cX9_mend 5 = .ok (.ifCond .eq 35, 3) := by decide +kernel
theorem dX9_mend_8 : decode cX9_mend 8 = .ok (.iload_n 2, 1) := by decide +kernel
theorem dX9_mend_9 : decode cX9_mend 9 = .ok (.invokestatic 208, 3) := by decide +kernel
theorem dX9_mend_12 : decode cX9_mend 12 = .ok (.ifCond .eq 28, 3) := by decide +kernel
theorem dX9_mend_15 : decode cX9_mend 15 = .ok (.iload_n 3, 1) := by decide +kernel
theorem dX9_mend_16 : decode cX9_mend 16 = .ok (.i2l, 1) := by decide +kernel
theorem dX9_mend_17 : decode cX9_mend 17 = .ok (.lconst 0, 1) := by decide +kernel
theorem dX9_mend_18 : decode cX9_mend 18 = .ok (.ldc2_w 229, 3) := by decide +kernel
theorem dX9_mend_21 : decode cX9_mend 21 = .ok (.invokestatic 45, 3) := by decide +kernel
theorem dX9_mend_24 : decode cX9_mend 24 = .ok (.ifCond .eq 16, 3) := by decide +kernel
theorem dX9_mend_27 : decode cX9_mend 27 = .ok (.iload 4, 2) := by decide +kernel
theorem dX9_mend_29 : decode cX9_mend 29 = .ok (.i2l, 1) := by decide +kernel
theorem dX9_mend_30 : decode cX9_mend 30 = .ok (.lconst 0, 1) := by decide +kernel
theorem dX9_mend_31 : decode cX9_mend 31 = .ok (.ldc2_w 229, 3) := by decide +kernel
theorem dX9_mend_34 : decode cX9_mend 34 = .ok (.invokestatic 45, 3) := by decide +kernel
theorem dX9_mend_37 : decode cX9_mend 37 = .ok (.ifCond .ne 9, 3) := by decide +kernel
theorem dX9_mend_40 : decode cX9_mend 40 = .ok (.aload_n 0, 1) := by decide +kernel
theorem dX9_mend_41 : decode cX9_mend 41 = .ok (.iconst 1, 1) := by decide +kernel
theorem dX9_mend_42 : decode cX9_mend 42 = .ok (.invokevirtual 103, 3) := by decide +kernel
theorem dX9_mend_45 : decode cX9_mend 45 = .ok (.ireturn, 1) := by decide +kernel
theorem dX9_mend_46 : decode cX9_mend 46 = .ok (.aload_n 0, 1) := by decide +kernel
theorem dX9_mend_47 : decode cX9_mend 47 = .ok (.iload_n 1, 1) := by decide +kernel
theorem dX9_mend_48 : decode cX9_mend 48 = .ok (.aload_n 0, 1) := by decide +kernel
theorem dX9_mend_49 : decode cX9_mend 49 = .ok (.getfield 7, 3) := by decide +kernel
theorem dX9_mend_52 : decode cX9_mend 52 = .ok (.iconst 1, 1) := by decide +kernel
theorem dX9_mend_53 : decode cX9_mend 53 = .ok (.iaload, 1) := by decide +kernel
theorem dX9_mend_54 : decode cX9_mend 54 = .ok (.iload_n 2, 1) := by decide +kernel
theorem dX9_mend_55 : decode cX9_mend 55 = .ok (.iadd, 1) := by decide +kernel
theorem dX9_mend_56 : decode cX9_mend 56 = .ok (.invokevirtual 191, 3) := by decide +kernel
theorem dX9_mend_59 : decode cX9_mend 59 = .ok (.aload_n 0, 1) := by decide +kernel
theorem dX9_mend_60 : decode cX9_mend 60 = .ok (.invokevirtual 185, 3) := by decide +kernel
theorem dX9_mend_63 : decode cX9_mend 63 = .ok (.istore 5, 2) := by decide +kernel
theorem dX9_mend_65 : decode cX9_mend 65 = .ok (.iload 5, 2) := by decide +kernel
theorem dX9_mend_67 : decode cX9_mend 67 = .ok (.iload 5, 2) := by decide +kernel
theorem dX9_mend_69 : decode cX9_mend 69 = .ok (.iload_n 3, 1) := by decide +kernel
theorem dX9_mend_70 : decode cX9_mend 70 = .ok (.imul, 1) := by decide +kernel
theorem dX9_mend_71 : decode cX9_mend 71 = .ok (.bipush 10, 2) := by decide +kernel
theorem dX9_mend_73 : decode cX9_mend 73 = .ok (.idiv, 1) := by decide +kernel
theorem dX9_mend_74 : decode cX9_mend 74 = .ok (.isub, 1) := by decide +kernel
theorem dX9_mend_75 : decode cX9_mend 75 = .ok (.iload 5, 2) := by decide +kernel
theorem dX9_mend_77 : decode cX9_mend 77 = .ok (.iload 4, 2) := by decide +kernel
theorem dX9_mend_79 : decode cX9_mend 79 = .ok (.imul, 1) := by decide +kernel
theorem dX9_mend_80 : decode cX9_mend 80 = .ok (.bipush 10, 2) := by decide +kernel
theorem dX9_mend_82 : decode cX9_mend 82 = .ok (.idiv, 1) := by decide +kernel
theorem dX9_mend_83 : decode cX9_mend 83 = .ok (.isub, 1) := by decide +kernel
theorem dX9_mend_84 : decode cX9_mend 84 = .ok (.ireturn, 1) := by decide +kernel
theorem dX9_again_0 : decode cX9_again 0 = .ok (.aload_n 0, 1) := by decide +kernel
theorem dX9_again_1 : decode cX9_again 1 = .ok (.iload_n 1, 1) := by decide +kernel
theorem dX9_again_2 : decode cX9_again 2 = .ok (.invokevirtual 153, 3) := by decide +kernel
theorem dX9_again_5 : decode cX9_again 5 = .ok (.ifCond .eq 46, 3) := by decide +kernel
theorem dX9_again_8 : decode cX9_again 8 = .ok (.iload_n 2, 1) := by decide +kernel
theorem dX9_again_9 : decode cX9_again 9 = .ok (.invokestatic 217, 3) := by decide +kernel
theorem dX9_again_12 : decode cX9_again 12 = .ok (.ifCond .eq 39, 3) := by decide +kernel
theorem dX9_again_15 : decode cX9_again 15 = .ok (.iload_n 3, 1) := by decide +kernel
theorem dX9_again_16 : decode cX9_again 16 = .ok (.i2l, 1) := by decide +kernel
theorem dX9_again_17 : decode cX9_again 17 = .ok (.lconst 0, 1) := by decide +kernel
theorem dX9_again_18 : decode cX9_again 18 = .ok (.ldc2_w 239, 3) := by decide +kernel
theorem dX9_again_21 : decode cX9_again 21 = .ok (.invokestatic 45, 3) := by decide +kernel
theorem dX9_again_24 : decode cX9_again 24 = .ok (.ifCond .eq 27, 3) := by decide +kernel
theorem dX9_again_27 : decode cX9_again 27 = .ok (.iload 4, 2) := by decide +kernel
theorem dX9_again_29 : decode cX9_again 29 = .ok (.i2l, 1) := by decide +kernel
theorem dX9_again_30 : decode cX9_again 30 = .ok (.lconst 0, 1) := by decide +kernel
theorem dX9_again_31 : decode cX9_again 31 = .ok (.ldc2_w 239, 3) := by decide +kernel
theorem dX9_again_34 : decode cX9_again 34 = .ok (.invokestatic 45, 3) := by decide +kernel
theorem dX9_again_37 : decode cX9_again 37 = .ok (.ifCond .eq 14, 3) := by decide +kernel
theorem dX9_again_40 : decode cX9_again 40 = .ok (.iload 5, 2) := by decide +kernel
theorem dX9_again_42 : decode cX9_again 42 = .ok (.i2l, 1) := by decide +kernel
theorem dX9_again_43 : decode cX9_again 43 = .ok (.lconst 0, 1) := by decide +kernel
theorem dX9_again_44 : decode cX9_again 44 = .ok (.lconst 1, 1) := by decide +kernel
theorem dX9_again_45 : decode cX9_again 45 = .ok (.invokestatic 45, 3) := by decide +kernel
theorem dX9_again_48 : decode cX9_again 48 = .ok (.ifCond .ne 10, 3) := by decide +kernel
theorem dX9_again_51 : decode cX9_again 51 = .ok (.aload_n 0, 1) := by decide +kernel
theorem dX9_again_52 : decode cX9_again 52 = .ok (.iconst 1, 1) := by decide +kernel
theorem dX9_again_53 : decode cX9_again 53 = .ok (.invokevirtual 103, 3) := by decide +kernel
theorem dX9_again_56 : decode cX9_again 56 = .ok (.i2l, 1) := by decide +kernel
theorem dX9_again_57 : decode cX9_again 57 = .ok (.lreturn, 1) := by decide +kernel
theorem dX9_again_58 : decode cX9_again 58 = .ok (.aload_n 0, 1) := by decide +kernel
theorem dX9_again_59 : decode cX9_again 59 = .ok (.iload_n 1, 1) := by decide +kernel
theorem dX9_again_60 : decode cX9_again 60 = .ok (.aload_n 0, 1) := by decide +kernel
theorem dX9_again_61 : decode cX9_again 61 = .ok (.getfield 7, 3) := by decide +kernel
theorem dX9_again_64 : decode cX9_again 64 = .ok (.iconst 1, 1) := by decide +kernel
theorem dX9_again_65 : decode cX9_again 65 = .ok (.iaload, 1) := by decide +kernel
theorem dX9_again_66 : decode cX9_again 66 = .ok (.aload_n 0, 1) := by decide +kernel
theorem dX9_again_67 : decode cX9_again 67 = .ok (.iload_n 1, 1) := by decide +kernel
theorem dX9_again_68 : decode cX9_again 68 = .ok (.iload_n 2, 1) := by decide +kernel
theorem dX9_again_69 : decode cX9_again 69 = .ok (.invokevirtual 226, 3) := by decide +kernel
theorem dX9_again_72 : decode cX9_again 72 = .ok (.iadd, 1) := by decide +kernel
theorem dX9_again_73 : decode cX9_again 73 = .ok (.invokevirtual 223, 3) := by decide +kernel
theorem dX9_again_76 : decode cX9_again 76 = .ok (.i2l, 1) := by decide +kernel
theorem dX9_again_77 : decode cX9_again 77 = .ok (.lstore 6, 2) := by decide +kernel
theorem dX9_again_79 : decode cX9_again 79 = .ok (.lload 6, 2) := by decide +kernel
theorem dX9_again_81 : decode cX9_again 81 = .ok (.iload_n 3, 1) := by decide +kernel
theorem dX9_again_82 : decode cX9_again 82 = .ok (.i2l, 1) := by decide +kernel
theorem dX9_again_83 : decode cX9_again 83 = .ok (.lmul, 1) := by decide +kernel
theorem dX9_again_84 : decode cX9_again 84 = .ok (.ldc2_w 229, 3) := by decide +kernel
theorem dX9_again_87 : decode cX9_again 87 = .ok (.lload 6, 2) := by decide +kernel
theorem dX9_again_89 : decode cX9_again 89 = .ok (.lsub, 1) := by decide +kernel
theorem dX9_again_90 : decode cX9_again 90 = .ok (.iload 4, 2) := by decide +kernel
theorem dX9_again_92 : decode cX9_again 92 = .ok (.i2l, 1) := by decide +kernel
theorem dX9_again_93 : decode cX9_again 93 = .ok (.lmul, 1) := by decide +kernel
theorem dX9_again_94 : decode cX9_again 94 = .ok (.lsub, 1) := by decide +kernel
theorem dX9_again_95 : decode cX9_again 95 = .ok (.lstore 8, 2) := by decide +kernel
theorem dX9_again_97 : decode cX9_again 97 = .ok (.lload 8, 2) := by decide +kernel
theorem dX9_again_99 : decode cX9_again 99 = .ok (.lconst 0, 1) := by decide +kernel
theorem dX9_again_100 : decode cX9_again 100 = .ok (.lcmp, 1) := by decide +kernel
theorem dX9_again_101 : decode cX9_again 101 = .ok (.ifCond .le 8, 3) := by decide +kernel
theorem dX9_again_104 : decode cX9_again 104 = .ok (.lload 8, 2) := by decide +kernel
theorem dX9_again_106 : decode cX9_again 106 = .ok (.goto 4, 3) := by decide +kernel
theorem dX9_again_109 : decode cX9_again 109 = .ok (.lconst 0, 1) := by decide +kernel
theorem dX9_again_110 : decode cX9_again 110 = .ok (.lstore 10, 2) := by decide +kernel
theorem dX9_again_112 : decode cX9_again 112 = .ok (.ldc2_w 229, 3) := by decide +kernel
theorem dX9_again_115 : decode cX9_again 115 = .ok (.lload 8, 2) := by decide +kernel
theorem dX9_again_117 : decode cX9_again 117 = .ok (.lmul, 1) := by decide +kernel
theorem dX9_again_118 : decode cX9_again 118 = .ok (.ldc2_w 229, 3) := by decide +kernel
theorem dX9_again_121 : decode cX9_again 121 = .ok (.lload 6, 2) := by decide +kernel
theorem dX9_again_123 : decode cX9_again 123 = .ok (.lsub, 1) := by decide +kernel
theorem dX9_again_124 : decode cX9_again 124 = .ok (.lload 10, 2) := by decide +kernel
theorem dX9_again_126 : decode cX9_again 126 = .ok (.lmul, 1) := by decide +kernel
theorem dX9_again_127 : decode cX9_again 127 = .ok (.ladd, 1) := by decide +kernel
theorem dX9_again_128 : decode cX9_again 128 = .ok (.lstore 12, 2) := by decide +kernel
theorem dX9_again_130 : decode cX9_again 130 = .ok (.lload 12, 2) := by decide +kernel
theorem dX9_again_132 : decode cX9_again 132 = .ok (.ldc2_w 241, 3) := by decide +kernel
theorem dX9_again_135 : decode cX9_again 135 = .ok (.invokestatic 231, 3) := by decide +kernel
theorem dX9_again_138 : decode cX9_again 138 = .ok (.lstore 14, 2) := by decide +kernel
theorem dX9_again_140 : decode cX9_again 140 = .ok (.iload 5, 2) := by decide +kernel
theorem dX9_again_142 : decode cX9_again 142 = .ok (.ifCond .ne 11, 3) := by decide +kernel
theorem dX9_again_145 : decode cX9_again 145 = .ok (.lload 12, 2) := by decide +kernel
theorem dX9_again_147 : decode cX9_again 147 = .ok (.lload 14, 2) := by decide +kernel
theorem dX9_again_149 : decode cX9_again 149 = .ok (.ldiv, 1) := by decide +kernel
theorem dX9_again_150 : decode cX9_again 150 = .ok (.goto 9, 3) := by decide +kernel
theorem dX9_again_153 : decode cX9_again 153 = .ok (.ldc2_w 241, 3) := by decide +kernel
theorem dX9_again_156 : decode cX9_again 156 = .ok (.lload 14, 2) := by decide +kernel
theorem dX9_again_158 : decode cX9_again 158 = .ok (.ldiv, 1) := by decide +kernel
theorem dX9_again_159 : decode cX9_again 159 = .ok (.lreturn, 1) := by decide +kernel
theorem dX9_findFalls_0 : decode cX9_findFalls 0 = .ok (.aload_n 0, 1) := by decide +kernel
theorem dX9_findFalls_1 : decode cX9_findFalls 1 = .ok (.iconst 0, 1) := by decide +kernel
theorem dX9_findFalls_2 : decode cX9_findFalls 2 = .ok (.putfield 243, 3) := by decide +kernel
theorem dX9_findFalls_5 : decode cX9_findFalls 5 = .ok (.iconst 0, 1) := by decide +kernel
theorem dX9_findFalls_6 : decode cX9_findFalls 6 = .ok (.istore_n 3, 1) := by decide +kernel
theorem dX9_findFalls_7 : decode cX9_findFalls 7 = .ok (.iload_n 3, 1) := by decide +kernel
theorem dX9_findFalls_8 : decode cX9_findFalls 8 = .ok (.iload_n 2, 1) := by decide +kernel
theorem dX9_findFalls_9 : decode cX9_findFalls 9 = .ok (.if_icmp .ge 53, 3) := by decide +kernel
theorem dX9_findFalls_12 : decode cX9_findFalls 12 = .ok (.aload_n 0, 1) := by decide +kernel
theorem dX9_findFalls_13 : decode cX9_findFalls 13 = .ok (.iload_n 1, 1) := by decide +kernel
theorem dX9_findFalls_14 : decode cX9_findFalls 14 = .ok (.aload_n 0, 1) := by decide +kernel
theorem dX9_findFalls_15 : decode cX9_findFalls 15 = .ok (.getfield 7, 3) := by decide +kernel
theorem dX9_findFalls_18 : decode cX9_findFalls 18 = .ok (.iconst 1, 1) := by decide +kernel
theorem dX9_findFalls_19 : decode cX9_findFalls 19 = .ok (.iaload, 1) := by decide +kernel
theorem dX9_findFalls_20 : decode cX9_findFalls 20 = .ok (.iload_n 3, 1) := by decide +kernel
theorem dX9_findFalls_21 : decode cX9_findFalls 21 = .ok (.iadd, 1) := by decide +kernel
theorem dX9_findFalls_22 : decode cX9_findFalls 22 = .ok (.invokevirtual 191, 3) := by decide +kernel
theorem dX9_findFalls_25 : decode cX9_findFalls 25 = .ok (.aload_n 0, 1) := by decide +kernel
theorem dX9_findFalls_26 : decode cX9_findFalls 26 = .ok (.iload_n 1, 1) := by decide +kernel
theorem dX9_findFalls_27 : decode cX9_findFalls 27 = .ok (.invokevirtual 194, 3) := by decide +kernel
theorem dX9_findFalls_30 : decode cX9_findFalls 30 = .ok (.ifCond .ne 26, 3) := by decide +kernel
theorem dX9_findFalls_33 : decode cX9_findFalls 33 = .ok (.aload_n 0, 1) := by decide +kernel
theorem dX9_findFalls_34 : decode cX9_findFalls 34 = .ok (.getfield 26, 3) := by decide +kernel
theorem dX9_findFalls_37 : decode cX9_findFalls 37 = .ok (.aload_n 0, 1) := by decide +kernel
theorem dX9_findFalls_38 : decode cX9_findFalls 38 = .ok (.getfield 243, 3) := by decide +kernel
theorem dX9_findFalls_41 : decode cX9_findFalls 41 = .ok (.aload_n 0, 1) := by decide +kernel
theorem dX9_findFalls_42 : decode cX9_findFalls 42 = .ok (.getfield 175, 3) := by decide +kernel
theorem dX9_findFalls_45 : decode cX9_findFalls 45 = .ok (.iastore, 1) := by decide +kernel
theorem dX9_findFalls_46 : decode cX9_findFalls 46 = .ok (.aload_n 0, 1) := by decide +kernel
theorem dX9_findFalls_47 : decode cX9_findFalls 47 = .ok (.dup, 1) := by decide +kernel
theorem dX9_findFalls_48 : decode cX9_findFalls 48 = .ok (.getfield 243, 3) := by decide +kernel
theorem dX9_findFalls_51 : decode cX9_findFalls 51 = .ok (.iconst 1, 1) := by decide +kernel
theorem dX9_findFalls_52 : decode cX9_findFalls 52 = .ok (.iadd, 1) := by decide +kernel
theorem dX9_findFalls_53 : decode cX9_findFalls 53 = .ok (.putfield 243, 3) := by decide +kernel
theorem dX9_findFalls_56 : decode cX9_findFalls 56 = .ok (.iinc 3 1, 3) := by decide +kernel
theorem dX9_findFalls_59 : decode cX9_findFalls 59 = .ok (.goto (-52), 3) := by decide +kernel
theorem dX9_findFalls_62 : decode cX9_findFalls 62 = .ok (.return_, 1) := by decide +kernel
theorem dX9_harmBy_0 : decode cX9_harmBy 0 = .ok (.lconst 0, 1) := by decide +kernel
theorem dX9_harmBy_1 : decode cX9_harmBy 1 = .ok (.lstore_n 3, 1) := by decide +kernel
theorem dX9_harmBy_2 : decode cX9_harmBy 2 = .ok (.iconst 0, 1) := by decide +kernel
theorem dX9_harmBy_3 : decode cX9_harmBy 3 = .ok (.istore 5, 2) := by decide +kernel
theorem dX9_harmBy_5 : decode cX9_harmBy 5 = .ok (.iload 5, 2) := by decide +kernel
theorem dX9_harmBy_7 : decode cX9_harmBy 7 = .ok (.aload_n 0, 1) := by decide +kernel
theorem dX9_harmBy_8 : decode cX9_harmBy 8 = .ok (.getfield 243, 3) := by decide +kernel
theorem dX9_harmBy_11 : decode cX9_harmBy 11 = .ok (.if_icmp .ge 30, 3) := by decide +kernel
theorem dX9_harmBy_14 : decode cX9_harmBy 14 = .ok (.lload_n 3, 1) := by decide +kernel
theorem dX9_harmBy_15 : decode cX9_harmBy 15 = .ok (.aload_n 0, 1) := by decide +kernel
theorem dX9_harmBy_16 : decode cX9_harmBy 16 = .ok (.iload_n 1, 1) := by decide +kernel
theorem dX9_harmBy_17 : decode cX9_harmBy 17 = .ok (.aload_n 0, 1) := by decide +kernel
theorem dX9_harmBy_18 : decode cX9_harmBy 18 = .ok (.getfield 26, 3) := by decide +kernel
theorem dX9_harmBy_21 : decode cX9_harmBy 21 = .ok (.iload 5, 2) := by decide +kernel
theorem dX9_harmBy_23 : decode cX9_harmBy 23 = .ok (.iaload, 1) := by decide +kernel
theorem dX9_harmBy_24 : decode cX9_harmBy 24 = .ok (.iload_n 2, 1) := by decide +kernel
theorem dX9_harmBy_25 : decode cX9_harmBy 25 = .ok (.isub, 1) := by decide +kernel
theorem dX9_harmBy_26 : decode cX9_harmBy 26 = .ok (.invokestatic 188, 3) := by decide +kernel
theorem dX9_harmBy_29 : decode cX9_harmBy 29 = .ok (.invokevirtual 164, 3) := by decide +kernel
theorem dX9_harmBy_32 : decode cX9_harmBy 32 = .ok (.i2l, 1) := by decide +kernel
theorem dX9_harmBy_33 : decode cX9_harmBy 33 = .ok (.ladd, 1) := by decide +kernel
theorem dX9_harmBy_34 : decode cX9_harmBy 34 = .ok (.lstore_n 3, 1) := by decide +kernel
theorem dX9_harmBy_35 : decode cX9_harmBy 35 = .ok (.iinc 5 1, 3) := by decide +kernel
theorem dX9_harmBy_38 : decode cX9_harmBy 38 = .ok (.goto (-33), 3) := by decide +kernel
theorem dX9_harmBy_41 : decode cX9_harmBy 41 = .ok (.lload_n 3, 1) := by decide +kernel
theorem dX9_harmBy_42 : decode cX9_harmBy 42 = .ok (.lreturn, 1) := by decide +kernel
theorem dX9_net_0 : decode cX9_net 0 = .ok (.aload_n 0, 1) := by decide +kernel
theorem dX9_net_1 : decode cX9_net 1 = .ok (.iload_n 1, 1) := by decide +kernel
theorem dX9_net_2 : decode cX9_net 2 = .ok (.invokevirtual 153, 3) := by decide +kernel
theorem dX9_net_5 : decode cX9_net 5 = .ok (.ifCond .eq 20, 3) := by decide +kernel
theorem dX9_net_8 : decode cX9_net 8 = .ok (.iload_n 2, 1) := by decide +kernel
theorem dX9_net_9 : decode cX9_net 9 = .ok (.invokestatic 217, 3) := by decide +kernel
theorem dX9_net_12 : decode cX9_net 12 = .ok (.ifCond .eq 13, 3) := by decide +kernel
theorem dX9_net_15 : decode cX9_net 15 = .ok (.iload_n 3, 1) := by decide +kernel
theorem dX9_net_16 : decode cX9_net 16 = .ok (.i2l, 1) := by decide +kernel
theorem dX9_net_17 : decode cX9_net 17 = .ok (.lconst 0, 1) := by decide +kernel
theorem dX9_net_18 : decode cX9_net 18 = .ok (.lconst 1, 1) := by decide +kernel
theorem dX9_net_19 : decode cX9_net 19 = .ok (.invokestatic 45, 3) := by decide +kernel
theorem dX9_net_22 : decode cX9_net 22 = .ok (.ifCond .ne 9, 3) := by decide +kernel
theorem dX9_net_25 : decode cX9_net 25 = .ok (.aload_n 0, 1) := by decide +kernel
theorem dX9_net_26 : decode cX9_net 26 = .ok (.iconst 1, 1) := by decide +kernel
theorem dX9_net_27 : decode cX9_net 27 = .ok (.invokevirtual 103, 3) := by decide +kernel
theorem dX9_net_30 : decode cX9_net 30 = .ok (.ireturn, 1) := by decide +kernel
theorem dX9_net_31 : decode cX9_net 31 = .ok (.aload_n 0, 1) := by decide +kernel
theorem dX9_net_32 : decode cX9_net 32 = .ok (.ldc2_w 246, 3) := by decide +kernel
theorem dX9_net_35 : decode cX9_net 35 = .ok (.putfield 248, 3) := by decide +kernel
theorem dX9_net_38 : decode cX9_net 38 = .ok (.aload_n 0, 1) := by decide +kernel
theorem dX9_net_39 : decode cX9_net 39 = .ok (.iload_n 1, 1) := by decide +kernel
theorem dX9_net_40 : decode cX9_net 40 = .ok (.iload_n 2, 1) := by decide +kernel
theorem dX9_net_41 : decode cX9_net 41 = .ok (.invokevirtual 252, 3) := by decide +kernel
theorem dX9_net_44 : decode cX9_net 44 = .ok (.bipush (-99), 2) := by decide +kernel
theorem dX9_net_46 : decode cX9_net 46 = .ok (.istore 4, 2) := by decide +kernel
theorem dX9_net_48 : decode cX9_net 48 = .ok (.iload 4, 2) := by decide +kernel
theorem dX9_net_50 : decode cX9_net 50 = .ok (.sipush 299, 3) := by decide +kernel
theorem dX9_net_53 : decode cX9_net 53 = .ok (.if_icmp .gt 49, 3) := by decide +kernel
theorem dX9_net_56 : decode cX9_net 56 = .ok (.aload_n 0, 1) := by decide +kernel
theorem dX9_net_57 : decode cX9_net 57 = .ok (.iload_n 1, 1) := by decide +kernel
theorem dX9_net_58 : decode cX9_net 58 = .ok (.iload 4, 2) := by decide +kernel
theorem dX9_net_60 : decode cX9_net 60 = .ok (.invokevirtual 255, 3) := by decide +kernel
theorem dX9_net_63 : decode cX9_net 63 = .ok (.lstore 5, 2) := by decide +kernel
theorem dX9_net_65 : decode cX9_net 65 = .ok (.aload_n 0, 1) := by decide +kernel
theorem dX9_net_66 : decode cX9_net 66 = .ok (.getfield 248, 3) := by decide +kernel
theorem dX9_net_69 : decode cX9_net 69 = .ok (.lconst 0, 1) := by decide +kernel
theorem dX9_net_70 : decode cX9_net 70 = .ok (.lcmp, 1) := by decide +kernel
theorem dX9_net_71 : decode cX9_net 71 = .ok (.ifCond .lt 13, 3) := by decide +kernel
theorem dX9_net_74 : decode cX9_net 74 = .ok (.lload 5, 2) := by decide +kernel
theorem dX9_net_76 : decode cX9_net 76 = .ok (.aload_n 0, 1) := by decide +kernel
theorem dX9_net_77 : decode cX9_net 77 = .ok (.getfield 248, 3) := by decide +kernel
theorem dX9_net_80 : decode cX9_net 80 = .ok (.lcmp, 1) := by decide +kernel
theorem dX9_net_81 : decode cX9_net 81 = .ok (.ifCond .ge 15, 3) := by decide +kernel
theorem dX9_net_84 : decode cX9_net 84 = .ok (.aload_n 0, 1) := by decide +kernel
theorem dX9_net_85 : decode cX9_net 85 = .ok (.lload 5, 2) := by decide +kernel
theorem dX9_net_87 : decode cX9_net 87 = .ok (.putfield 248, 3) := by decide +kernel
theorem dX9_net_90 : decode cX9_net 90 = .ok (.aload_n 0, 1) := by decide +kernel
theorem dX9_net_91 : decode cX9_net 91 = .ok (.iload 4, 2) := by decide +kernel
theorem dX9_net_93 : decode cX9_net 93 = .ok (.putfield 259, 3) := by decide +kernel
theorem dX9_net_96 : decode cX9_net 96 = .ok (.iinc 4 1, 3) := by decide +kernel
theorem dX9_net_99 : decode cX9_net 99 = .ok (.goto (-51), 3) := by decide +kernel
theorem dX9_net_102 : decode cX9_net 102 = .ok (.aload_n 0, 1) := by decide +kernel
theorem dX9_net_103 : decode cX9_net 103 = .ok (.getfield 243, 3) := by decide +kernel
theorem dX9_net_106 : decode cX9_net 106 = .ok (.ifCond .ne 9, 3) := by decide +kernel
theorem dX9_net_109 : decode cX9_net 109 = .ok (.aload_n 0, 1) := by decide +kernel
theorem dX9_net_110 : decode cX9_net 110 = .ok (.iconst 2, 1) := by decide +kernel
theorem dX9_net_111 : decode cX9_net 111 = .ok (.invokevirtual 103, 3) := by decide +kernel
theorem dX9_net_114 : decode cX9_net 114 = .ok (.ireturn, 1) := by decide +kernel
theorem dX9_net_115 : decode cX9_net 115 = .ok (.iload_n 3, 1) := by decide +kernel
theorem dX9_net_116 : decode cX9_net 116 = .ok (.ifCond .ne 10, 3) := by decide +kernel
theorem dX9_net_119 : decode cX9_net 119 = .ok (.aload_n 0, 1) := by decide +kernel
theorem dX9_net_120 : decode cX9_net 120 = .ok (.getfield 259, 3) := by decide +kernel
theorem dX9_net_123 : decode cX9_net 123 = .ok (.goto 8, 3) := by decide +kernel
theorem dX9_net_126 : decode cX9_net 126 = .ok (.aload_n 0, 1) := by decide +kernel
theorem dX9_net_127 : decode cX9_net 127 = .ok (.getfield 248, 3) := by decide +kernel
theorem dX9_net_130 : decode cX9_net 130 = .ok (.l2i, 1) := by decide +kernel
theorem dX9_net_131 : decode cX9_net 131 = .ok (.ireturn, 1) := by decide +kernel
theorem dX9_isSo_0 : decode cX9_isSo 0 = .ok (.iconst 1, 1) := by decide +kernel
theorem dX9_isSo_1 : decode cX9_isSo 1 = .ok (.istore_n 3, 1) := by decide +kernel
theorem dX9_isSo_2 : decode cX9_isSo 2 = .ok (.iconst 0, 1) := by decide +kernel
theorem dX9_isSo_3 : decode cX9_isSo 3 = .ok (.istore 4, 2) := by decide +kernel
theorem dX9_isSo_5 : decode cX9_isSo 5 = .ok (.iload 4, 2) := by decide +kernel
theorem dX9_isSo_7 : decode cX9_isSo 7 = .ok (.aload_n 0, 1) := by decide +kernel
theorem dX9_isSo_8 : decode cX9_isSo 8 = .ok (.getfield 35, 3) := by decide +kernel
theorem dX9_isSo_11 : decode cX9_isSo 11 = .ok (.iload_n 2, 1) := by decide +kernel
theorem dX9_isSo_12 : decode cX9_isSo 12 = .ok (.iaload, 1) := by decide +kernel
theorem dX9_isSo_13 : decode cX9_isSo 13 = .ok (.if_icmp .ge 52, 3) := by decide +kernel
theorem dX9_isSo_16 : decode cX9_isSo 16 = .ok (.iload_n 3, 1) := by decide +kernel
theorem dX9_isSo_17 : decode cX9_isSo 17 = .ok (.ifCond .eq 48, 3) := by decide +kernel
theorem dX9_isSo_20 : decode cX9_isSo 20 = .ok (.aload_n 0, 1) := by decide +kernel
theorem dX9_isSo_21 : decode cX9_isSo 21 = .ok (.iload_n 1, 1) := by decide +kernel
theorem dX9_isSo_22 : decode cX9_isSo 22 = .ok (.aload_n 0, 1) := by decide +kernel
theorem dX9_isSo_23 : decode cX9_isSo 23 = .ok (.getfield 7, 3) := by decide +kernel
theorem dX9_isSo_26 : decode cX9_isSo 26 = .ok (.iconst 1, 1) := by decide +kernel
theorem dX9_isSo_27 : decode cX9_isSo 27 = .ok (.iaload, 1) := by decide +kernel
theorem dX9_isSo_28 : decode cX9_isSo 28 = .ok (.iload 4, 2) := by decide +kernel
theorem dX9_isSo_30 : decode cX9_isSo 30 = .ok (.iadd, 1) := by decide +kernel
theorem dX9_isSo_31 : decode cX9_isSo 31 = .ok (.invokevirtual 191, 3) := by decide +kernel
theorem dX9_isSo_34 : decode cX9_isSo 34 = .ok (.aload_n 0, 1) := by decide +kernel
theorem dX9_isSo_35 : decode cX9_isSo 35 = .ok (.invokevirtual 185, 3) := by decide +kernel
theorem dX9_isSo_38 : decode cX9_isSo 38 = .ok (.aload_n 0, 1) := by decide +kernel
theorem dX9_isSo_39 : decode cX9_isSo 39 = .ok (.getfield 38, 3) := by decide +kernel
theorem dX9_isSo_42 : decode cX9_isSo 42 = .ok (.bipush 40, 2) := by decide +kernel
theorem dX9_isSo_44 : decode cX9_isSo 44 = .ok (.iload_n 2, 1) := by decide +kernel
theorem dX9_isSo_45 : decode cX9_isSo 45 = .ok (.imul, 1) := by decide +kernel
theorem dX9_isSo_46 : decode cX9_isSo 46 = .ok (.iload 4, 2) := by decide +kernel
theorem dX9_isSo_48 : decode cX9_isSo 48 = .ok (.iadd, 1) := by decide +kernel
theorem dX9_isSo_49 : decode cX9_isSo 49 = .ok (.iaload, 1) := by decide +kernel
theorem dX9_isSo_50 : decode cX9_isSo 50 = .ok (.if_icmp .ne 7, 3) := by decide +kernel
theorem dX9_isSo_53 : decode cX9_isSo 53 = .ok (.iconst 1, 1) := by decide +kernel
theorem dX9_isSo_54 : decode cX9_isSo 54 = .ok (.goto 4, 3) := by decide +kernel
theorem dX9_isSo_57 : decode cX9_isSo 57 = .ok (.iconst 0, 1) := by decide +kernel
theorem dX9_isSo_58 : decode cX9_isSo 58 = .ok (.istore_n 3, 1) := by decide +kernel
theorem dX9_isSo_59 : decode cX9_isSo 59 = .ok (.iinc 4 1, 3) := by decide +kernel
theorem dX9_isSo_62 : decode cX9_isSo 62 = .ok (.goto (-57), 3) := by decide +kernel
theorem dX9_isSo_65 : decode cX9_isSo 65 = .ok (.iload_n 3, 1) := by decide +kernel
theorem dX9_isSo_66 : decode cX9_isSo 66 = .ok (.ireturn, 1) := by decide +kernel
theorem dX9_phases_0 : decode cX9_phases 0 = .ok (.aload_n 0, 1) := by decide +kernel
theorem dX9_phases_1 : decode cX9_phases 1 = .ok (.iload_n 1, 1) := by decide +kernel
theorem dX9_phases_2 : decode cX9_phases 2 = .ok (.invokevirtual 153, 3) := by decide +kernel
theorem dX9_phases_5 : decode cX9_phases 5 = .ok (.ifCond .eq 20, 3) := by decide +kernel
theorem dX9_phases_8 : decode cX9_phases 8 = .ok (.iload_n 2, 1) := by decide +kernel
theorem dX9_phases_9 : decode cX9_phases 9 = .ok (.invokestatic 262, 3) := by decide +kernel
theorem dX9_phases_12 : decode cX9_phases 12 = .ok (.ifCond .eq 13, 3) := by decide +kernel
theorem dX9_phases_15 : decode cX9_phases 15 = .ok (.iload_n 3, 1) := by decide +kernel
theorem dX9_phases_16 : decode cX9_phases 16 = .ok (.i2l, 1) := by decide +kernel
theorem dX9_phases_17 : decode cX9_phases 17 = .ok (.lconst 0, 1) := by decide +kernel
theorem dX9_phases_18 : decode cX9_phases 18 = .ok (.lconst 1, 1) := by decide +kernel
theorem dX9_phases_19 : decode cX9_phases 19 = .ok (.invokestatic 45, 3) := by decide +kernel
theorem dX9_phases_22 : decode cX9_phases 22 = .ok (.ifCond .ne 9, 3) := by decide +kernel
theorem dX9_phases_25 : decode cX9_phases 25 = .ok (.aload_n 0, 1) := by decide +kernel
theorem dX9_phases_26 : decode cX9_phases 26 = .ok (.iconst 1, 1) := by decide +kernel
theorem dX9_phases_27 : decode cX9_phases 27 = .ok (.invokevirtual 103, 3) := by decide +kernel
theorem dX9_phases_30 : decode cX9_phases 30 = .ok (.ireturn, 1) := by decide +kernel
theorem dX9_phases_31 : decode cX9_phases 31 = .ok (.aload_n 0, 1) := by decide +kernel
theorem dX9_phases_32 : decode cX9_phases 32 = .ok (.getfield 32, 3) := by decide +kernel
theorem dX9_phases_35 : decode cX9_phases 35 = .ok (.iload_n 2, 1) := by decide +kernel
theorem dX9_phases_36 : decode cX9_phases 36 = .ok (.iaload, 1) := by decide +kernel
theorem dX9_phases_37 : decode cX9_phases 37 = .ok (.ifCond .ne 9, 3) := by decide +kernel
theorem dX9_phases_40 : decode cX9_phases 40 = .ok (.aload_n 0, 1) := by decide +kernel
theorem dX9_phases_41 : decode cX9_phases 41 = .ok (.iconst 2, 1) := by decide +kernel
theorem dX9_phases_42 : decode cX9_phases 42 = .ok (.invokevirtual 103, 3) := by decide +kernel
theorem dX9_phases_45 : decode cX9_phases 45 = .ok (.ireturn, 1) := by decide +kernel
theorem dX9_phases_46 : decode cX9_phases 46 = .ok (.aload_n 0, 1) := by decide +kernel
theorem dX9_phases_47 : decode cX9_phases 47 = .ok (.getfield 7, 3) := by decide +kernel
theorem dX9_phases_50 : decode cX9_phases 50 = .ok (.bipush 17, 2) := by decide +kernel
theorem dX9_phases_52 : decode cX9_phases 52 = .ok (.iaload, 1) := by decide +kernel
theorem dX9_phases_53 : decode cX9_phases 53 = .ok (.istore 4, 2) := by decide +kernel
theorem dX9_phases_55 : decode cX9_phases 55 = .ok (.iconst 0, 1) := by decide +kernel
theorem dX9_phases_56 : decode cX9_phases 56 = .ok (.istore 5, 2) := by decide +kernel
theorem dX9_phases_58 : decode cX9_phases 58 = .ok (.iconst 0, 1) := by decide +kernel
theorem dX9_phases_59 : decode cX9_phases 59 = .ok (.istore 6, 2) := by decide +kernel
theorem dX9_phases_61 : decode cX9_phases 61 = .ok (.aload_n 0, 1) := by decide +kernel
theorem dX9_phases_62 : decode cX9_phases 62 = .ok (.getfield 7, 3) := by decide +kernel
theorem dX9_phases_65 : decode cX9_phases 65 = .ok (.bipush 15, 2) := by decide +kernel
theorem dX9_phases_67 : decode cX9_phases 67 = .ok (.iaload, 1) := by decide +kernel
theorem dX9_phases_68 : decode cX9_phases 68 = .ok (.iconst 1, 1) := by decide +kernel
theorem dX9_phases_69 : decode cX9_phases 69 = .ok (.isub, 1) := by decide +kernel
theorem dX9_phases_70 : decode cX9_phases 70 = .ok (.istore 7, 2) := by decide +kernel
theorem dX9_phases_72 : decode cX9_phases 72 = .ok (.iload 7, 2) := by decide +kernel
theorem dX9_phases_74 : decode cX9_phases 74 = .ok (.ifCond .lt 34, 3) := by decide +kernel
theorem dX9_phases_77 : decode cX9_phases 77 = .ok (.aload_n 0, 1) := by decide +kernel
theorem dX9_phases_78 : decode cX9_phases 78 = .ok (.getfield 7, 3) := by decide +kernel
theorem dX9_phases_81 : decode cX9_phases 81 = .ok (.bipush 17, 2) := by decide +kernel
theorem dX9_phases_83 : decode cX9_phases 83 = .ok (.iload 7, 2) := by decide +kernel
theorem dX9_phases_85 : decode cX9_phases 85 = .ok (.iastore, 1) := by decide +kernel
theorem dX9_phases_86 : decode cX9_phases 86 = .ok (.aload_n 0, 1) := by decide +kernel
theorem dX9_phases_87 : decode cX9_phases 87 = .ok (.iload_n 1, 1) := by decide +kernel
theorem dX9_phases_88 : decode cX9_phases 88 = .ok (.iload_n 2, 1) := by decide +kernel
theorem dX9_phases_89 : decode cX9_phases 89 = .ok (.invokevirtual 265, 3) := by decide +kernel
theorem dX9_phases_92 : decode cX9_phases 92 = .ok (.ifCond .eq 10, 3) := by decide +kernel
theorem dX9_phases_95 : decode cX9_phases 95 = .ok (.iinc 5 1, 3) := by decide +kernel
theorem dX9_phases_98 : decode cX9_phases 98 = .ok (.iload 7, 2) := by decide +kernel
theorem dX9_phases_100 : decode cX9_phases 100 = .ok (.istore 6, 2) := by decide +kernel
theorem dX9_phases_102 : decode cX9_phases 102 = .ok (.iinc 7 (-1), 3) := by decide +kernel
theorem dX9_phases_105 : decode cX9_phases 105 = .ok (.goto (-33), 3) := by decide +kernel
theorem dX9_phases_108 : decode cX9_phases 108 = .ok (.aload_n 0, 1) := by decide +kernel
theorem dX9_phases_109 : decode cX9_phases 109 = .ok (.getfield 7, 3) := by decide +kernel
theorem dX9_phases_112 : decode cX9_phases 112 = .ok (.bipush 17, 2) := by decide +kernel
theorem dX9_phases_114 : decode cX9_phases 114 = .ok (.iload 4, 2) := by decide +kernel
theorem dX9_phases_116 : decode cX9_phases 116 = .ok (.iastore, 1) := by decide +kernel
theorem dX9_phases_117 : decode cX9_phases 117 = .ok (.iload 5, 2) := by decide +kernel
theorem dX9_phases_119 : decode cX9_phases 119 = .ok (.ifCond .ne 11, 3) := by decide +kernel
theorem dX9_phases_122 : decode cX9_phases 122 = .ok (.aload_n 0, 1) := by decide +kernel
theorem dX9_phases_123 : decode cX9_phases 123 = .ok (.iconst 2, 1) := by decide +kernel
theorem dX9_phases_124 : decode cX9_phases 124 = .ok (.invokevirtual 103, 3) := by decide +kernel
theorem dX9_phases_127 : decode cX9_phases 127 = .ok (.goto 14, 3) := by decide +kernel
theorem dX9_phases_130 : decode cX9_phases 130 = .ok (.iload_n 3, 1) := by decide +kernel
theorem dX9_phases_131 : decode cX9_phases 131 = .ok (.ifCond .ne 8, 3) := by decide +kernel
theorem dX9_phases_134 : decode cX9_phases 134 = .ok (.iload 6, 2) := by decide +kernel
theorem dX9_phases_136 : decode cX9_phases 136 = .ok (.goto 5, 3) := by decide +kernel
theorem dX9_phases_139 : decode cX9_phases 139 = .ok (.iload 5, 2) := by decide +kernel
theorem dX9_phases_141 : decode cX9_phases 141 = .ok (.ireturn, 1) := by decide +kernel
theorem dX9_late_0 : decode cX9_late 0 = .ok (.aload_n 0, 1) := by decide +kernel
theorem dX9_late_1 : decode cX9_late 1 = .ok (.iload_n 1, 1) := by decide +kernel
theorem dX9_late_2 : decode cX9_late 2 = .ok (.invokevirtual 153, 3) := by decide +kernel
theorem dX9_late_5 : decode cX9_late 5 = .ok (.ifCond .eq 10, 3) := by decide +kernel
theorem dX9_late_8 : decode cX9_late 8 = .ok (.iload_n 2, 1) := by decide +kernel
theorem dX9_late_9 : decode cX9_late 9 = .ok (.invokestatic 262, 3) := by decide +kernel
theorem dX9_late_12 : decode cX9_late 12 = .ok (.ifCond .ne 9, 3) := by decide +kernel
theorem dX9_late_15 : decode cX9_late 15 = .ok (.aload_n 0, 1) := by decide +kernel
theorem dX9_late_16 : decode cX9_late 16 = .ok (.iconst 1, 1) := by decide +kernel
theorem dX9_late_17 : decode cX9_late 17 = .ok (.invokevirtual 103, 3) := by decide +kernel
theorem dX9_late_20 : decode cX9_late 20 = .ok (.ireturn, 1) := by decide +kernel
theorem dX9_late_21 : decode cX9_late 21 = .ok (.aload_n 0, 1) := by decide +kernel
theorem dX9_late_22 : decode cX9_late 22 = .ok (.getfield 32, 3) := by decide +kernel
theorem dX9_late_25 : decode cX9_late 25 = .ok (.iload_n 2, 1) := by decide +kernel
theorem dX9_late_26 : decode cX9_late 26 = .ok (.iaload, 1) := by decide +kernel
theorem dX9_late_27 : decode cX9_late 27 = .ok (.ifCond .ne 9, 3) := by decide +kernel
theorem dX9_late_30 : decode cX9_late 30 = .ok (.aload_n 0, 1) := by decide +kernel
theorem dX9_late_31 : decode cX9_late 31 = .ok (.iconst 2, 1) := by decide +kernel
theorem dX9_late_32 : decode cX9_late 32 = .ok (.invokevirtual 103, 3) := by decide +kernel
theorem dX9_late_35 : decode cX9_late 35 = .ok (.ireturn, 1) := by decide +kernel
theorem dX9_late_36 : decode cX9_late 36 = .ok (.iconst (-1), 1) := by decide +kernel
theorem dX9_late_37 : decode cX9_late 37 = .ok (.istore_n 3, 1) := by decide +kernel
theorem dX9_late_38 : decode cX9_late 38 = .ok (.bipush 9, 2) := by decide +kernel
theorem dX9_late_40 : decode cX9_late 40 = .ok (.istore 4, 2) := by decide +kernel
theorem dX9_late_42 : decode cX9_late 42 = .ok (.iload 4, 2) := by decide +kernel
theorem dX9_late_44 : decode cX9_late 44 = .ok (.ifCond .lt 31, 3) := by decide +kernel
theorem dX9_late_47 : decode cX9_late 47 = .ok (.aload_n 0, 1) := by decide +kernel
theorem dX9_late_48 : decode cX9_late 48 = .ok (.iload 4, 2) := by decide +kernel
theorem dX9_late_50 : decode cX9_late 50 = .ok (.putfield 22, 3) := by decide +kernel
theorem dX9_late_53 : decode cX9_late 53 = .ok (.aload_n 0, 1) := by decide +kernel
theorem dX9_late_54 : decode cX9_late 54 = .ok (.iload_n 1, 1) := by decide +kernel
theorem dX9_late_55 : decode cX9_late 55 = .ok (.iload_n 2, 1) := by decide +kernel
theorem dX9_late_56 : decode cX9_late 56 = .ok (.invokevirtual 265, 3) := by decide +kernel
theorem dX9_late_59 : decode cX9_late 59 = .ok (.ifCond .eq 8, 3) := by decide +kernel
theorem dX9_late_62 : decode cX9_late 62 = .ok (.iload 4, 2) := by decide +kernel
theorem dX9_late_64 : decode cX9_late 64 = .ok (.goto 4, 3) := by decide +kernel
theorem dX9_late_67 : decode cX9_late 67 = .ok (.iload_n 3, 1) := by decide +kernel
theorem dX9_late_68 : decode cX9_late 68 = .ok (.istore_n 3, 1) := by decide +kernel
theorem dX9_late_69 : decode cX9_late 69 = .ok (.iinc 4 (-1), 3) := by decide +kernel
theorem dX9_late_72 : decode cX9_late 72 = .ok (.goto (-30), 3) := by decide +kernel
theorem dX9_late_75 : decode cX9_late 75 = .ok (.aload_n 0, 1) := by decide +kernel
theorem dX9_late_76 : decode cX9_late 76 = .ok (.iconst (-1), 1) := by decide +kernel
theorem dX9_late_77 : decode cX9_late 77 = .ok (.putfield 22, 3) := by decide +kernel
theorem dX9_late_80 : decode cX9_late 80 = .ok (.iload_n 3, 1) := by decide +kernel
theorem dX9_late_81 : decode cX9_late 81 = .ok (.ifCond .ge 11, 3) := by decide +kernel
theorem dX9_late_84 : decode cX9_late 84 = .ok (.aload_n 0, 1) := by decide +kernel
theorem dX9_late_85 : decode cX9_late 85 = .ok (.iconst 2, 1) := by decide +kernel
theorem dX9_late_86 : decode cX9_late 86 = .ok (.invokevirtual 103, 3) := by decide +kernel
theorem dX9_late_89 : decode cX9_late 89 = .ok (.goto 4, 3) := by decide +kernel
theorem dX9_late_92 : decode cX9_late 92 = .ok (.iload_n 3, 1) := by decide +kernel
theorem dX9_late_93 : decode cX9_late 93 = .ok (.ireturn, 1) := by decide +kernel
theorem dX9_seed_0 : decode cX9_seed 0 = .ok (.aload_n 0, 1) := by decide +kernel
theorem dX9_seed_1 : decode cX9_seed 1 = .ok (.getfield 7, 3) := by decide +kernel
theorem dX9_seed_4 : decode cX9_seed 4 = .ok (.bipush 8, 2) := by decide +kernel
theorem dX9_seed_6 : decode cX9_seed 6 = .ok (.iaload, 1) := by decide +kernel
theorem dX9_seed_7 : decode cX9_seed 7 = .ok (.istore_n 2, 1) := by decide +kernel
theorem dX9_seed_8 : decode cX9_seed 8 = .ok (.aload_n 0, 1) := by decide +kernel
theorem dX9_seed_9 : decode cX9_seed 9 = .ok (.getfield 7, 3) := by decide +kernel
theorem dX9_seed_12 : decode cX9_seed 12 = .ok (.bipush 8, 2) := by decide +kernel
theorem dX9_seed_14 : decode cX9_seed 14 = .ok (.iload_n 1, 1) := by decide +kernel
theorem dX9_seed_15 : decode cX9_seed 15 = .ok (.iastore, 1) := by decide +kernel
theorem dX9_seed_16 : decode cX9_seed 16 = .ok (.iload_n 2, 1) := by decide +kernel
theorem dX9_seed_17 : decode cX9_seed 17 = .ok (.ireturn, 1) := by decide +kernel
theorem dX9_ran_0 : decode cX9_ran 0 = .ok (.aload_n 0, 1) := by decide +kernel
theorem dX9_ran_1 : decode cX9_ran 1 = .ok (.getfield 268, 3) := by decide +kernel
theorem dX9_ran_4 : decode cX9_ran 4 = .ok (.bipush 40, 2) := by decide +kernel
theorem dX9_ran_6 : decode cX9_ran 6 = .ok (.if_icmp .ge 23, 3) := by decide +kernel
theorem dX9_ran_9 : decode cX9_ran 9 = .ok (.aload_n 0, 1) := by decide +kernel
theorem dX9_ran_10 : decode cX9_ran 10 = .ok (.getfield 29, 3) := by decide +kernel
theorem dX9_ran_13 : decode cX9_ran 13 = .ok (.aload_n 0, 1) := by decide +kernel
theorem dX9_ran_14 : decode cX9_ran 14 = .ok (.getfield 268, 3) := by decide +kernel
theorem dX9_ran_17 : decode cX9_ran 17 = .ok (.iload_n 1, 1) := by decide +kernel
theorem dX9_ran_18 : decode cX9_ran 18 = .ok (.iastore, 1) := by decide +kernel
theorem dX9_ran_19 : decode cX9_ran 19 = .ok (.aload_n 0, 1) := by decide +kernel
theorem dX9_ran_20 : decode cX9_ran 20 = .ok (.dup, 1) := by decide +kernel
theorem dX9_ran_21 : decode cX9_ran 21 = .ok (.getfield 268, 3) := by decide +kernel
theorem dX9_ran_24 : decode cX9_ran 24 = .ok (.iconst 1, 1) := by decide +kernel
theorem dX9_ran_25 : decode cX9_ran 25 = .ok (.iadd, 1) := by decide +kernel
theorem dX9_ran_26 : decode cX9_ran 26 = .ok (.putfield 268, 3) := by decide +kernel
theorem dX9_ran_29 : decode cX9_ran 29 = .ok (.return_, 1) := by decide +kernel
theorem dX9_own_0 : decode cX9_own 0 = .ok (.aload_n 0, 1) := by decide +kernel
theorem dX9_own_1 : decode cX9_own 1 = .ok (.aload_n 0, 1) := by decide +kernel
theorem dX9_own_2 : decode cX9_own 2 = .ok (.getfield 271, 3) := by decide +kernel
theorem dX9_own_5 : decode cX9_own 5 = .ok (.iconst 0, 1) := by decide +kernel
theorem dX9_own_6 : decode cX9_own 6 = .ok (.invokevirtual 144, 3) := by decide +kernel
theorem dX9_own_9 : decode cX9_own 9 = .ok (.ireturn, 1) := by decide +kernel
theorem dX9_swingsBy_0 : decode cX9_swingsBy 0 = .ok (.iload_n 1, 1) := by decide +kernel
theorem dX9_swingsBy_1 : decode cX9_swingsBy 1 = .ok (.lookupswitch 58 #[(0, 27), (1, 40)], 27) := by decide +kernel
theorem dX9_swingsBy_28 : decode cX9_swingsBy 28 = .ok (.aload_n 0, 1) := by decide +kernel
theorem dX9_swingsBy_29 : decode cX9_swingsBy 29 = .ok (.bipush 10, 2) := by decide +kernel
theorem dX9_swingsBy_31 : decode cX9_swingsBy 31 = .ok (.invokevirtual 274, 3) := by decide +kernel
theorem dX9_swingsBy_34 : decode cX9_swingsBy 34 = .ok (.iload_n 2, 1) := by decide +kernel
theorem dX9_swingsBy_35 : decode cX9_swingsBy 35 = .ok (.aload_n 0, 1) := by decide +kernel
theorem dX9_swingsBy_36 : decode cX9_swingsBy 36 = .ok (.getfield 271, 3) := by decide +kernel
theorem dX9_swingsBy_39 : decode cX9_swingsBy 39 = .ok (.iadd, 1) := by decide +kernel
theorem dX9_swingsBy_40 : decode cX9_swingsBy 40 = .ok (.ireturn, 1) := by decide +kernel
theorem dX9_swingsBy_41 : decode cX9_swingsBy 41 = .ok (.aload_n 0, 1) := by decide +kernel
theorem dX9_swingsBy_42 : decode cX9_swingsBy 42 = .ok (.bipush 20, 2) := by decide +kernel
theorem dX9_swingsBy_44 : decode cX9_swingsBy 44 = .ok (.invokevirtual 274, 3) := by decide +kernel
theorem dX9_swingsBy_47 : decode cX9_swingsBy 47 = .ok (.aload_n 0, 1) := by decide +kernel
theorem dX9_swingsBy_48 : decode cX9_swingsBy 48 = .ok (.iconst 1, 1) := by decide +kernel
theorem dX9_swingsBy_49 : decode cX9_swingsBy 49 = .ok (.invokestatic 167, 3) := by decide +kernel
theorem dX9_swingsBy_52 : decode cX9_swingsBy 52 = .ok (.iload_n 2, 1) := by decide +kernel
theorem dX9_swingsBy_53 : decode cX9_swingsBy 53 = .ok (.invokevirtual 278, 3) := by decide +kernel
theorem dX9_swingsBy_56 : decode cX9_swingsBy 56 = .ok (.iconst 3, 1) := by decide +kernel
theorem dX9_swingsBy_57 : decode cX9_swingsBy 57 = .ok (.imul, 1) := by decide +kernel
theorem dX9_swingsBy_58 : decode cX9_swingsBy 58 = .ok (.ireturn, 1) := by decide +kernel
theorem dX9_swingsBy_59 : decode cX9_swingsBy 59 = .ok (.aload_n 0, 1) := by decide +kernel
theorem dX9_swingsBy_60 : decode cX9_swingsBy 60 = .ok (.iload_n 1, 1) := by decide +kernel
theorem dX9_swingsBy_61 : decode cX9_swingsBy 61 = .ok (.invokestatic 167, 3) := by decide +kernel
theorem dX9_swingsBy_64 : decode cX9_swingsBy 64 = .ok (.iload_n 2, 1) := by decide +kernel
theorem dX9_swingsBy_65 : decode cX9_swingsBy 65 = .ok (.invokevirtual 278, 3) := by decide +kernel
theorem dX9_swingsBy_68 : decode cX9_swingsBy 68 = .ok (.ireturn, 1) := by decide +kernel
theorem dX9_fliesBy_0 : decode cX9_fliesBy 0 = .ok (.iload_n 1, 1) := by decide +kernel
theorem dX9_fliesBy_1 : decode cX9_fliesBy 1 = .ok (.lookupswitch 99 #[(0, 35), (2, 53), (5, 81)], 35) := by decide +kernel
theorem dX9_fliesBy_36 : decode cX9_fliesBy 36 = .ok (.aload_n 0, 1) := by decide +kernel
theorem dX9_fliesBy_37 : decode cX9_fliesBy 37 = .ok (.bipush 11, 2) := by decide +kernel
theorem dX9_fliesBy_39 : decode cX9_fliesBy 39 = .ok (.invokevirtual 274, 3) := by decide +kernel
theorem dX9_fliesBy_42 : decode cX9_fliesBy 42 = .ok (.aload_n 0, 1) := by decide +kernel
theorem dX9_fliesBy_43 : decode cX9_fliesBy 43 = .ok (.aload_n 0, 1) := by decide +kernel
theorem dX9_fliesBy_44 : decode cX9_fliesBy 44 = .ok (.invokevirtual 281, 3) := by decide +kernel
theorem dX9_fliesBy_47 : decode cX9_fliesBy 47 = .ok (.iload_n 2, 1) := by decide +kernel
theorem dX9_fliesBy_48 : decode cX9_fliesBy 48 = .ok (.invokevirtual 278, 3) := by decide +kernel
theorem dX9_fliesBy_51 : decode cX9_fliesBy 51 = .ok (.iconst 2, 1) := by decide +kernel
theorem dX9_fliesBy_52 : decode cX9_fliesBy 52 = .ok (.imul, 1) := by decide +kernel
theorem dX9_fliesBy_53 : decode cX9_fliesBy 53 = .ok (.ireturn, 1) := by decide +kernel
theorem dX9_fliesBy_54 : decode cX9_fliesBy 54 = .ok (.aload_n 0, 1) := by decide +kernel
theorem dX9_fliesBy_55 : decode cX9_fliesBy 55 = .ok (.bipush 30, 2) := by decide +kernel
theorem dX9_fliesBy_57 : decode cX9_fliesBy 57 = .ok (.invokevirtual 274, 3) := by decide +kernel
theorem dX9_fliesBy_60 : decode cX9_fliesBy 60 = .ok (.aload_n 0, 1) := by decide +kernel
theorem dX9_fliesBy_61 : decode cX9_fliesBy 61 = .ok (.iconst 2, 1) := by decide +kernel
theorem dX9_fliesBy_62 : decode cX9_fliesBy 62 = .ok (.invokestatic 167, 3) := by decide +kernel
theorem dX9_fliesBy_65 : decode cX9_fliesBy 65 = .ok (.iload_n 2, 1) := by decide +kernel
theorem dX9_fliesBy_66 : decode cX9_fliesBy 66 = .ok (.invokevirtual 284, 3) := by decide +kernel
theorem dX9_fliesBy_69 : decode cX9_fliesBy 69 = .ok (.istore_n 3, 1) := by decide +kernel
theorem dX9_fliesBy_70 : decode cX9_fliesBy 70 = .ok (.iload_n 3, 1) := by decide +kernel
theorem dX9_fliesBy_71 : decode cX9_fliesBy 71 = .ok (.aload_n 0, 1) := by decide +kernel
theorem dX9_fliesBy_72 : decode cX9_fliesBy 72 = .ok (.aload_n 0, 1) := by decide +kernel
theorem dX9_fliesBy_73 : decode cX9_fliesBy 73 = .ok (.invokevirtual 281, 3) := by decide +kernel
theorem dX9_fliesBy_76 : decode cX9_fliesBy 76 = .ok (.iconst 1, 1) := by decide +kernel
theorem dX9_fliesBy_77 : decode cX9_fliesBy 77 = .ok (.invokevirtual 287, 3) := by decide +kernel
theorem dX9_fliesBy_80 : decode cX9_fliesBy 80 = .ok (.isub, 1) := by decide +kernel
theorem dX9_fliesBy_81 : decode cX9_fliesBy 81 = .ok (.ireturn, 1) := by decide +kernel
theorem dX9_fliesBy_82 : decode cX9_fliesBy 82 = .ok (.aload_n 0, 1) := by decide +kernel
theorem dX9_fliesBy_83 : decode cX9_fliesBy 83 = .ok (.bipush 60, 2) := by decide +kernel
theorem dX9_fliesBy_85 : decode cX9_fliesBy 85 = .ok (.invokevirtual 274, 3) := by decide +kernel
theorem dX9_fliesBy_88 : decode cX9_fliesBy 88 = .ok (.aload_n 0, 1) := by decide +kernel
theorem dX9_fliesBy_89 : decode cX9_fliesBy 89 = .ok (.iconst 5, 1) := by decide +kernel
theorem dX9_fliesBy_90 : decode cX9_fliesBy 90 = .ok (.invokestatic 167, 3) := by decide +kernel
theorem dX9_fliesBy_93 : decode cX9_fliesBy 93 = .ok (.iload_n 2, 1) := by decide +kernel
theorem dX9_fliesBy_94 : decode cX9_fliesBy 94 = .ok (.iconst 1, 1) := by decide +kernel
theorem dX9_fliesBy_95 : decode cX9_fliesBy 95 = .ok (.iadd, 1) := by decide +kernel
theorem dX9_fliesBy_96 : decode cX9_fliesBy 96 = .ok (.invokevirtual 284, 3) := by decide +kernel
theorem dX9_fliesBy_99 : decode cX9_fliesBy 99 = .ok (.ireturn, 1) := by decide +kernel
theorem dX9_fliesBy_100 : decode cX9_fliesBy 100 = .ok (.aload_n 0, 1) := by decide +kernel
theorem dX9_fliesBy_101 : decode cX9_fliesBy 101 = .ok (.iload_n 1, 1) := by decide +kernel
theorem dX9_fliesBy_102 : decode cX9_fliesBy 102 = .ok (.invokestatic 167, 3) := by decide +kernel
theorem dX9_fliesBy_105 : decode cX9_fliesBy 105 = .ok (.iload_n 2, 1) := by decide +kernel
theorem dX9_fliesBy_106 : decode cX9_fliesBy 106 = .ok (.invokevirtual 284, 3) := by decide +kernel
theorem dX9_fliesBy_109 : decode cX9_fliesBy 109 = .ok (.ireturn, 1) := by decide +kernel
theorem dX9_fallsBy_0 : decode cX9_fallsBy 0 = .ok (.iload_n 1, 1) := by decide +kernel
theorem dX9_fallsBy_1 : decode cX9_fallsBy 1 = .ok (.lookupswitch 92 #[(0, 35), (3, 53), (6, 70)], 35) := by decide +kernel
theorem dX9_fallsBy_36 : decode cX9_fallsBy 36 = .ok (.aload_n 0, 1) := by decide +kernel
theorem dX9_fallsBy_37 : decode cX9_fallsBy 37 = .ok (.bipush 12, 2) := by decide +kernel
theorem dX9_fallsBy_39 : decode cX9_fallsBy 39 = .ok (.invokevirtual 274, 3) := by decide +kernel
theorem dX9_fallsBy_42 : decode cX9_fallsBy 42 = .ok (.iload_n 2, 1) := by decide +kernel
theorem dX9_fallsBy_43 : decode cX9_fallsBy 43 = .ok (.aload_n 0, 1) := by decide +kernel
theorem dX9_fallsBy_44 : decode cX9_fallsBy 44 = .ok (.aload_n 0, 1) := by decide +kernel
theorem dX9_fallsBy_45 : decode cX9_fallsBy 45 = .ok (.getfield 271, 3) := by decide +kernel
theorem dX9_fallsBy_48 : decode cX9_fallsBy 48 = .ok (.iconst 1, 1) := by decide +kernel
theorem dX9_fallsBy_49 : decode cX9_fallsBy 49 = .ok (.invokevirtual 144, 3) := by decide +kernel
theorem dX9_fallsBy_52 : decode cX9_fallsBy 52 = .ok (.isub, 1) := by decide +kernel
theorem dX9_fallsBy_53 : decode cX9_fallsBy 53 = .ok (.ireturn, 1) := by decide +kernel
theorem dX9_fallsBy_54 : decode cX9_fallsBy 54 = .ok (.aload_n 0, 1) := by decide +kernel
theorem dX9_fallsBy_55 : decode cX9_fallsBy 55 = .ok (.bipush 40, 2) := by decide +kernel
theorem dX9_fallsBy_57 : decode cX9_fallsBy 57 = .ok (.invokevirtual 274, 3) := by decide +kernel
theorem dX9_fallsBy_60 : decode cX9_fallsBy 60 = .ok (.aload_n 0, 1) := by decide +kernel
theorem dX9_fallsBy_61 : decode cX9_fallsBy 61 = .ok (.iconst 3, 1) := by decide +kernel
theorem dX9_fallsBy_62 : decode cX9_fallsBy 62 = .ok (.invokestatic 167, 3) := by decide +kernel
theorem dX9_fallsBy_65 : decode cX9_fallsBy 65 = .ok (.iload_n 2, 1) := by decide +kernel
theorem dX9_fallsBy_66 : decode cX9_fallsBy 66 = .ok (.invokevirtual 287, 3) := by decide +kernel
theorem dX9_fallsBy_69 : decode cX9_fallsBy 69 = .ok (.ineg, 1) := by decide +kernel
theorem dX9_fallsBy_70 : decode cX9_fallsBy 70 = .ok (.ireturn, 1) := by decide +kernel
theorem dX9_fallsBy_71 : decode cX9_fallsBy 71 = .ok (.aload_n 0, 1) := by decide +kernel
theorem dX9_fallsBy_72 : decode cX9_fallsBy 72 = .ok (.bipush 70, 2) := by decide +kernel
theorem dX9_fallsBy_74 : decode cX9_fallsBy 74 = .ok (.invokevirtual 274, 3) := by decide +kernel
theorem dX9_fallsBy_77 : decode cX9_fallsBy 77 = .ok (.aload_n 0, 1) := by decide +kernel
theorem dX9_fallsBy_78 : decode cX9_fallsBy 78 = .ok (.bipush 6, 2) := by decide +kernel
theorem dX9_fallsBy_80 : decode cX9_fallsBy 80 = .ok (.invokestatic 167, 3) := by decide +kernel
theorem dX9_fallsBy_83 : decode cX9_fallsBy 83 = .ok (.iload_n 2, 1) := by decide +kernel
theorem dX9_fallsBy_84 : decode cX9_fallsBy 84 = .ok (.invokevirtual 287, 3) := by decide +kernel
theorem dX9_fallsBy_87 : decode cX9_fallsBy 87 = .ok (.aload_n 0, 1) := by decide +kernel
theorem dX9_fallsBy_88 : decode cX9_fallsBy 88 = .ok (.getfield 271, 3) := by decide +kernel
theorem dX9_fallsBy_91 : decode cX9_fallsBy 91 = .ok (.ixor, 1) := by decide +kernel
theorem dX9_fallsBy_92 : decode cX9_fallsBy 92 = .ok (.ireturn, 1) := by decide +kernel
theorem dX9_fallsBy_93 : decode cX9_fallsBy 93 = .ok (.aload_n 0, 1) := by decide +kernel
theorem dX9_fallsBy_94 : decode cX9_fallsBy 94 = .ok (.iload_n 1, 1) := by decide +kernel
theorem dX9_fallsBy_95 : decode cX9_fallsBy 95 = .ok (.invokestatic 167, 3) := by decide +kernel
theorem dX9_fallsBy_98 : decode cX9_fallsBy 98 = .ok (.iload_n 2, 1) := by decide +kernel
theorem dX9_fallsBy_99 : decode cX9_fallsBy 99 = .ok (.invokevirtual 287, 3) := by decide +kernel
theorem dX9_fallsBy_102 : decode cX9_fallsBy 102 = .ok (.ireturn, 1) := by decide +kernel
theorem dX9_tellsBy_0 : decode cX9_tellsBy 0 = .ok (.iload_n 1, 1) := by decide +kernel
theorem dX9_tellsBy_1 : decode cX9_tellsBy 1 = .ok (.lookupswitch 120 #[(0, 35), (4, 63), (6, 91)], 35) := by decide +kernel
theorem dX9_tellsBy_36 : decode cX9_tellsBy 36 = .ok (.aload_n 0, 1) := by decide +kernel
theorem dX9_tellsBy_37 : decode cX9_tellsBy 37 = .ok (.bipush 13, 2) := by decide +kernel
theorem dX9_tellsBy_39 : decode cX9_tellsBy 39 = .ok (.invokevirtual 274, 3) := by decide +kernel
theorem dX9_tellsBy_42 : decode cX9_tellsBy 42 = .ok (.aload_n 0, 1) := by decide +kernel
theorem dX9_tellsBy_43 : decode cX9_tellsBy 43 = .ok (.aload_n 0, 1) := by decide +kernel
theorem dX9_tellsBy_44 : decode cX9_tellsBy 44 = .ok (.invokevirtual 281, 3) := by decide +kernel
theorem dX9_tellsBy_47 : decode cX9_tellsBy 47 = .ok (.iload_n 2, 1) := by decide +kernel
theorem dX9_tellsBy_48 : decode cX9_tellsBy 48 = .ok (.invokevirtual 284, 3) := by decide +kernel
theorem dX9_tellsBy_51 : decode cX9_tellsBy 51 = .ok (.istore_n 3, 1) := by decide +kernel
theorem dX9_tellsBy_52 : decode cX9_tellsBy 52 = .ok (.iload_n 3, 1) := by decide +kernel
theorem dX9_tellsBy_53 : decode cX9_tellsBy 53 = .ok (.aload_n 0, 1) := by decide +kernel
theorem dX9_tellsBy_54 : decode cX9_tellsBy 54 = .ok (.aload_n 0, 1) := by decide +kernel
theorem dX9_tellsBy_55 : decode cX9_tellsBy 55 = .ok (.invokevirtual 281, 3) := by decide +kernel
theorem dX9_tellsBy_58 : decode cX9_tellsBy 58 = .ok (.iload_n 2, 1) := by decide +kernel
theorem dX9_tellsBy_59 : decode cX9_tellsBy 59 = .ok (.invokevirtual 287, 3) := by decide +kernel
theorem dX9_tellsBy_62 : decode cX9_tellsBy 62 = .ok (.ixor, 1) := by decide +kernel
theorem dX9_tellsBy_63 : decode cX9_tellsBy 63 = .ok (.ireturn, 1) := by decide +kernel
theorem dX9_tellsBy_64 : decode cX9_tellsBy 64 = .ok (.aload_n 0, 1) := by decide +kernel
theorem dX9_tellsBy_65 : decode cX9_tellsBy 65 = .ok (.bipush 50, 2) := by decide +kernel
theorem dX9_tellsBy_67 : decode cX9_tellsBy 67 = .ok (.invokevirtual 274, 3) := by decide +kernel
theorem dX9_tellsBy_70 : decode cX9_tellsBy 70 = .ok (.aload_n 0, 1) := by decide +kernel
theorem dX9_tellsBy_71 : decode cX9_tellsBy 71 = .ok (.iconst 4, 1) := by decide +kernel
theorem dX9_tellsBy_72 : decode cX9_tellsBy 72 = .ok (.invokestatic 167, 3) := by decide +kernel
theorem dX9_tellsBy_75 : decode cX9_tellsBy 75 = .ok (.iload_n 2, 1) := by decide +kernel
theorem dX9_tellsBy_76 : decode cX9_tellsBy 76 = .ok (.invokevirtual 290, 3) := by decide +kernel
theorem dX9_tellsBy_79 : decode cX9_tellsBy 79 = .ok (.istore_n 3, 1) := by decide +kernel
theorem dX9_tellsBy_80 : decode cX9_tellsBy 80 = .ok (.iload_n 3, 1) := by decide +kernel
theorem dX9_tellsBy_81 : decode cX9_tellsBy 81 = .ok (.aload_n 0, 1) := by decide +kernel
theorem dX9_tellsBy_82 : decode cX9_tellsBy 82 = .ok (.aload_n 0, 1) := by decide +kernel
theorem dX9_tellsBy_83 : decode cX9_tellsBy 83 = .ok (.invokevirtual 281, 3) := by decide +kernel
theorem dX9_tellsBy_86 : decode cX9_tellsBy 86 = .ok (.iconst 2, 1) := by decide +kernel
theorem dX9_tellsBy_87 : decode cX9_tellsBy 87 = .ok (.invokevirtual 278, 3) := by decide +kernel
theorem dX9_tellsBy_90 : decode cX9_tellsBy 90 = .ok (.isub, 1) := by decide +kernel
theorem dX9_tellsBy_91 : decode cX9_tellsBy 91 = .ok (.ireturn, 1) := by decide +kernel
theorem dX9_tellsBy_92 : decode cX9_tellsBy 92 = .ok (.aload_n 0, 1) := by decide +kernel
theorem dX9_tellsBy_93 : decode cX9_tellsBy 93 = .ok (.bipush 71, 2) := by decide +kernel
theorem dX9_tellsBy_95 : decode cX9_tellsBy 95 = .ok (.invokevirtual 274, 3) := by decide +kernel
theorem dX9_tellsBy_98 : decode cX9_tellsBy 98 = .ok (.aload_n 0, 1) := by decide +kernel
theorem dX9_tellsBy_99 : decode cX9_tellsBy 99 = .ok (.aload_n 0, 1) := by decide +kernel
theorem dX9_tellsBy_100 : decode cX9_tellsBy 100 = .ok (.invokevirtual 281, 3) := by decide +kernel
theorem dX9_tellsBy_103 : decode cX9_tellsBy 103 = .ok (.iload_n 2, 1) := by decide +kernel
theorem dX9_tellsBy_104 : decode cX9_tellsBy 104 = .ok (.invokevirtual 284, 3) := by decide +kernel
theorem dX9_tellsBy_107 : decode cX9_tellsBy 107 = .ok (.istore_n 3, 1) := by decide +kernel
theorem dX9_tellsBy_108 : decode cX9_tellsBy 108 = .ok (.iload_n 3, 1) := by decide +kernel
theorem dX9_tellsBy_109 : decode cX9_tellsBy 109 = .ok (.aload_n 0, 1) := by decide +kernel
theorem dX9_tellsBy_110 : decode cX9_tellsBy 110 = .ok (.bipush 6, 2) := by decide +kernel
theorem dX9_tellsBy_112 : decode cX9_tellsBy 112 = .ok (.invokestatic 167, 3) := by decide +kernel
theorem dX9_tellsBy_115 : decode cX9_tellsBy 115 = .ok (.iload_n 2, 1) := by decide +kernel
theorem dX9_tellsBy_116 : decode cX9_tellsBy 116 = .ok (.invokevirtual 290, 3) := by decide +kernel
theorem dX9_tellsBy_119 : decode cX9_tellsBy 119 = .ok (.isub, 1) := by decide +kernel
theorem dX9_tellsBy_120 : decode cX9_tellsBy 120 = .ok (.ireturn, 1) := by decide +kernel
theorem dX9_tellsBy_121 : decode cX9_tellsBy 121 = .ok (.aload_n 0, 1) := by decide +kernel
theorem dX9_tellsBy_122 : decode cX9_tellsBy 122 = .ok (.iload_n 1, 1) := by decide +kernel
theorem dX9_tellsBy_123 : decode cX9_tellsBy 123 = .ok (.invokestatic 167, 3) := by decide +kernel
theorem dX9_tellsBy_126 : decode cX9_tellsBy 126 = .ok (.iload_n 2, 1) := by decide +kernel
theorem dX9_tellsBy_127 : decode cX9_tellsBy 127 = .ok (.invokevirtual 290, 3) := by decide +kernel
theorem dX9_tellsBy_130 : decode cX9_tellsBy 130 = .ok (.ireturn, 1) := by decide +kernel
theorem dX9_voice_0 : decode cX9_voice 0 = .ok (.aload_n 0, 1) := by decide +kernel
theorem dX9_voice_1 : decode cX9_voice 1 = .ok (.iload_n 1, 1) := by decide +kernel
theorem dX9_voice_2 : decode cX9_voice 2 = .ok (.invokevirtual 153, 3) := by decide +kernel
theorem dX9_voice_5 : decode cX9_voice 5 = .ok (.ifCond .eq 15, 3) := by decide +kernel
theorem dX9_voice_8 : decode cX9_voice 8 = .ok (.iload_n 2, 1) := by decide +kernel
theorem dX9_voice_9 : decode cX9_voice 9 = .ok (.i2l, 1) := by decide +kernel
theorem dX9_voice_10 : decode cX9_voice 10 = .ok (.lconst 0, 1) := by decide +kernel
theorem dX9_voice_11 : decode cX9_voice 11 = .ok (.ldc2_w 170, 3) := by decide +kernel
theorem dX9_voice_14 : decode cX9_voice 14 = .ok (.invokestatic 45, 3) := by decide +kernel
theorem dX9_voice_17 : decode cX9_voice 17 = .ok (.ifCond .ne 9, 3) := by decide +kernel
theorem dX9_voice_20 : decode cX9_voice 20 = .ok (.aload_n 0, 1) := by decide +kernel
theorem dX9_voice_21 : decode cX9_voice 21 = .ok (.iconst 1, 1) := by decide +kernel
theorem dX9_voice_22 : decode cX9_voice 22 = .ok (.invokevirtual 103, 3) := by decide +kernel
theorem dX9_voice_25 : decode cX9_voice 25 = .ok (.ireturn, 1) := by decide +kernel
theorem dX9_voice_26 : decode cX9_voice 26 = .ok (.aload_n 0, 1) := by decide +kernel
theorem dX9_voice_27 : decode cX9_voice 27 = .ok (.iconst 0, 1) := by decide +kernel
theorem dX9_voice_28 : decode cX9_voice 28 = .ok (.putfield 268, 3) := by decide +kernel
theorem dX9_voice_31 : decode cX9_voice 31 = .ok (.aload_n 0, 1) := by decide +kernel
theorem dX9_voice_32 : decode cX9_voice 32 = .ok (.iload_n 1, 1) := by decide +kernel
theorem dX9_voice_33 : decode cX9_voice 33 = .ok (.putfield 271, 3) := by decide +kernel
theorem dX9_voice_36 : decode cX9_voice 36 = .ok (.aload_n 0, 1) := by decide +kernel
theorem dX9_voice_37 : decode cX9_voice 37 = .ok (.invokevirtual 281, 3) := by decide +kernel
theorem dX9_voice_40 : decode cX9_voice 40 = .ok (.istore 4, 2) := by decide +kernel
theorem dX9_voice_42 : decode cX9_voice 42 = .ok (.iload_n 2, 1) := by decide +kernel
theorem dX9_voice_43 : decode cX9_voice 43 = .ok (.ifCond .ne 13, 3) := by decide +kernel
theorem dX9_voice_46 : decode cX9_voice 46 = .ok (.aload_n 0, 1) := by decide +kernel
theorem dX9_voice_47 : decode cX9_voice 47 = .ok (.iload 4, 2) := by decide +kernel
theorem dX9_voice_49 : decode cX9_voice 49 = .ok (.iload_n 3, 1) := by decide +kernel
theorem dX9_voice_50 : decode cX9_voice 50 = .ok (.invokevirtual 278, 3) := by decide +kernel
theorem dX9_voice_53 : decode cX9_voice 53 = .ok (.goto 40, 3) := by decide +kernel
theorem dX9_voice_56 : decode cX9_voice 56 = .ok (.iload_n 2, 1) := by decide +kernel
theorem dX9_voice_57 : decode cX9_voice 57 = .ok (.iconst 1, 1) := by decide +kernel
theorem dX9_voice_58 : decode cX9_voice 58 = .ok (.if_icmp .ne 13, 3) := by decide +kernel
theorem dX9_voice_61 : decode cX9_voice 61 = .ok (.aload_n 0, 1) := by decide +kernel
theorem dX9_voice_62 : decode cX9_voice 62 = .ok (.iload 4, 2) := by decide +kernel
theorem dX9_voice_64 : decode cX9_voice 64 = .ok (.iload_n 3, 1) := by decide +kernel
theorem dX9_voice_65 : decode cX9_voice 65 = .ok (.invokevirtual 284, 3) := by decide +kernel
theorem dX9_voice_68 : decode cX9_voice 68 = .ok (.goto 25, 3) := by decide +kernel
theorem dX9_voice_71 : decode cX9_voice 71 = .ok (.iload_n 2, 1) := by decide +kernel
theorem dX9_voice_72 : decode cX9_voice 72 = .ok (.iconst 2, 1) := by decide +kernel
theorem dX9_voice_73 : decode cX9_voice 73 = .ok (.if_icmp .ne 13, 3) := by decide +kernel
theorem dX9_voice_76 : decode cX9_voice 76 = .ok (.aload_n 0, 1) := by decide +kernel
theorem dX9_voice_77 : decode cX9_voice 77 = .ok (.iload 4, 2) := by decide +kernel
theorem dX9_voice_79 : decode cX9_voice 79 = .ok (.iload_n 3, 1) := by decide +kernel
theorem dX9_voice_80 : decode cX9_voice 80 = .ok (.invokevirtual 287, 3) := by decide +kernel
theorem dX9_voice_83 : decode cX9_voice 83 = .ok (.goto 10, 3) := by decide +kernel
theorem dX9_voice_86 : decode cX9_voice 86 = .ok (.aload_n 0, 1) := by decide +kernel
theorem dX9_voice_87 : decode cX9_voice 87 = .ok (.iload 4, 2) := by decide +kernel
theorem dX9_voice_89 : decode cX9_voice 89 = .ok (.iload_n 3, 1) := by decide +kernel
theorem dX9_voice_90 : decode cX9_voice 90 = .ok (.invokevirtual 290, 3) := by decide +kernel
theorem dX9_voice_93 : decode cX9_voice 93 = .ok (.ireturn, 1) := by decide +kernel
theorem dX9_trace_0 : decode cX9_trace 0 = .ok (.iload_n 1, 1) := by decide +kernel
theorem dX9_trace_1 : decode cX9_trace 1 = .ok (.i2l, 1) := by decide +kernel
theorem dX9_trace_2 : decode cX9_trace 2 = .ok (.lconst 0, 1) := by decide +kernel
theorem dX9_trace_3 : decode cX9_trace 3 = .ok (.aload_n 0, 1) := by decide +kernel
theorem dX9_trace_4 : decode cX9_trace 4 = .ok (.getfield 268, 3) := by decide +kernel
theorem dX9_trace_7 : decode cX9_trace 7 = .ok (.iconst 1, 1) := by decide +kernel
theorem dX9_trace_8 : decode cX9_trace 8 = .ok (.isub, 1) := by decide +kernel
theorem dX9_trace_9 : decode cX9_trace 9 = .ok (.i2l, 1) := by decide +kernel
theorem dX9_trace_10 : decode cX9_trace 10 = .ok (.invokestatic 45, 3) := by decide +kernel
theorem dX9_trace_13 : decode cX9_trace 13 = .ok (.ifCond .eq 12, 3) := by decide +kernel
theorem dX9_trace_16 : decode cX9_trace 16 = .ok (.aload_n 0, 1) := by decide +kernel
theorem dX9_trace_17 : decode cX9_trace 17 = .ok (.getfield 29, 3) := by decide +kernel
theorem dX9_trace_20 : decode cX9_trace 20 = .ok (.iload_n 1, 1) := by decide +kernel
theorem dX9_trace_21 : decode cX9_trace 21 = .ok (.iaload, 1) := by decide +kernel
theorem dX9_trace_22 : decode cX9_trace 22 = .ok (.goto 8, 3) := by decide +kernel
theorem dX9_trace_25 : decode cX9_trace 25 = .ok (.aload_n 0, 1) := by decide +kernel
theorem dX9_trace_26 : decode cX9_trace 26 = .ok (.iconst 2, 1) := by decide +kernel
theorem dX9_trace_27 : decode cX9_trace 27 = .ok (.invokevirtual 103, 3) := by decide +kernel
theorem dX9_trace_30 : decode cX9_trace 30 = .ok (.ireturn, 1) := by decide +kernel
theorem dX9_isSheet_0 : decode cX9_isSheet 0 = .ok (.iload_n 0, 1) := by decide +kernel
theorem dX9_isSheet_1 : decode cX9_isSheet 1 = .ok (.i2l, 1) := by decide +kernel
theorem dX9_isSheet_2 : decode cX9_isSheet 2 = .ok (.lconst 0, 1) := by decide +kernel
theorem dX9_isSheet_3 : decode cX9_isSheet 3 = .ok (.ldc2_w 170, 3) := by decide +kernel
theorem dX9_isSheet_6 : decode cX9_isSheet 6 = .ok (.invokestatic 45, 3) := by decide +kernel
theorem dX9_isSheet_9 : decode cX9_isSheet 9 = .ok (.ireturn, 1) := by decide +kernel
theorem dX9_sheet_0 : decode cX9_sheet 0 = .ok (.iload_n 1, 1) := by decide +kernel
theorem dX9_sheet_1 : decode cX9_sheet 1 = .ok (.invokestatic 262, 3) := by decide +kernel
theorem dX9_sheet_4 : decode cX9_sheet 4 = .ok (.ifCond .eq 25, 3) := by decide +kernel
theorem dX9_sheet_7 : decode cX9_sheet 7 = .ok (.iload_n 2, 1) := by decide +kernel
theorem dX9_sheet_8 : decode cX9_sheet 8 = .ok (.ifCond .eq 27, 3) := by decide +kernel
theorem dX9_sheet_11 : decode cX9_sheet 11 = .ok (.iload_n 2, 1) := by decide +kernel
theorem dX9_sheet_12 : decode cX9_sheet 12 = .ok (.bipush 8, 2) := by decide +kernel
theorem dX9_sheet_14 : decode cX9_sheet 14 = .ok (.if_icmp .eq 21, 3) := by decide +kernel
theorem dX9_sheet_17 : decode cX9_sheet 17 = .ok (.iload_n 2, 1) := by decide +kernel
theorem dX9_sheet_18 : decode cX9_sheet 18 = .ok (.bipush 16, 2) := by decide +kernel
theorem dX9_sheet_20 : decode cX9_sheet 20 = .ok (.if_icmp .eq 15, 3) := by decide +kernel
theorem dX9_sheet_23 : decode cX9_sheet 23 = .ok (.iload_n 2, 1) := by decide +kernel
theorem dX9_sheet_24 : decode cX9_sheet 24 = .ok (.bipush 32, 2) := by decide +kernel
theorem dX9_sheet_26 : decode cX9_sheet 26 = .ok (.if_icmp .eq 9, 3) := by decide +kernel
theorem dX9_sheet_29 : decode cX9_sheet 29 = .ok (.aload_n 0, 1) := by decide +kernel
theorem dX9_sheet_30 : decode cX9_sheet 30 = .ok (.iconst 1, 1) := by decide +kernel
theorem dX9_sheet_31 : decode cX9_sheet 31 = .ok (.invokevirtual 103, 3) := by decide +kernel
theorem dX9_sheet_34 : decode cX9_sheet 34 = .ok (.ireturn, 1) := by decide +kernel
theorem dX9_sheet_35 : decode cX9_sheet 35 = .ok (.iload_n 2, 1) := by decide +kernel
theorem dX9_sheet_36 : decode cX9_sheet 36 = .ok (.ifCond .eq 13, 3) := by decide +kernel
theorem dX9_sheet_39 : decode cX9_sheet 39 = .ok (.iload_n 3, 1) := by decide +kernel
theorem dX9_sheet_40 : decode cX9_sheet 40 = .ok (.ifCond .ge 9, 3) := by decide +kernel
theorem dX9_sheet_43 : decode cX9_sheet 43 = .ok (.aload_n 0, 1) := by decide +kernel
theorem dX9_sheet_44 : decode cX9_sheet 44 = .ok (.iconst 3, 1) := by decide +kernel
theorem dX9_sheet_45 : decode cX9_sheet 45 = .ok (.invokevirtual 103, 3) := by decide +kernel
theorem dX9_sheet_48 : decode cX9_sheet 48 = .ok (.ireturn, 1) := by decide +kernel
theorem dX9_sheet_49 : decode cX9_sheet 49 = .ok (.iload_n 2, 1) := by decide +kernel
theorem dX9_sheet_50 : decode cX9_sheet 50 = .ok (.ifCond .eq 15, 3) := by decide +kernel
theorem dX9_sheet_53 : decode cX9_sheet 53 = .ok (.iload_n 3, 1) := by decide +kernel
theorem dX9_sheet_54 : decode cX9_sheet 54 = .ok (.bipush 40, 2) := by decide +kernel
theorem dX9_sheet_56 : decode cX9_sheet 56 = .ok (.if_icmp .le 9, 3) := by decide +kernel
theorem dX9_sheet_59 : decode cX9_sheet 59 = .ok (.aload_n 0, 1) := by decide +kernel
theorem dX9_sheet_60 : decode cX9_sheet 60 = .ok (.iconst 1, 1) := by decide +kernel
theorem dX9_sheet_61 : decode cX9_sheet 61 = .ok (.invokevirtual 103, 3) := by decide +kernel
theorem dX9_sheet_64 : decode cX9_sheet 64 = .ok (.ireturn, 1) := by decide +kernel
theorem dX9_sheet_65 : decode cX9_sheet 65 = .ok (.aload_n 0, 1) := by decide +kernel
theorem dX9_sheet_66 : decode cX9_sheet 66 = .ok (.getfield 32, 3) := by decide +kernel
theorem dX9_sheet_69 : decode cX9_sheet 69 = .ok (.iload_n 1, 1) := by decide +kernel
theorem dX9_sheet_70 : decode cX9_sheet 70 = .ok (.iload_n 2, 1) := by decide +kernel
theorem dX9_sheet_71 : decode cX9_sheet 71 = .ok (.iastore, 1) := by decide +kernel
theorem dX9_sheet_72 : decode cX9_sheet 72 = .ok (.aload_n 0, 1) := by decide +kernel
theorem dX9_sheet_73 : decode cX9_sheet 73 = .ok (.getfield 35, 3) := by decide +kernel
theorem dX9_sheet_76 : decode cX9_sheet 76 = .ok (.iload_n 1, 1) := by decide +kernel
theorem dX9_sheet_77 : decode cX9_sheet 77 = .ok (.iload_n 2, 1) := by decide +kernel
theorem dX9_sheet_78 : decode cX9_sheet 78 = .ok (.ifCond .ne 7, 3) := by decide +kernel
theorem dX9_sheet_81 : decode cX9_sheet 81 = .ok (.iconst 0, 1) := by decide +kernel
theorem dX9_sheet_82 : decode cX9_sheet 82 = .ok (.goto 4, 3) := by decide +kernel
theorem dX9_sheet_85 : decode cX9_sheet 85 = .ok (.iload_n 3, 1) := by decide +kernel
theorem dX9_sheet_86 : decode cX9_sheet 86 = .ok (.iastore, 1) := by decide +kernel
theorem dX9_sheet_87 : decode cX9_sheet 87 = .ok (.iconst 0, 1) := by decide +kernel
theorem dX9_sheet_88 : decode cX9_sheet 88 = .ok (.istore 4, 2) := by decide +kernel
theorem dX9_sheet_90 : decode cX9_sheet 90 = .ok (.iload 4, 2) := by decide +kernel
theorem dX9_sheet_92 : decode cX9_sheet 92 = .ok (.bipush 40, 2) := by decide +kernel
theorem dX9_sheet_94 : decode cX9_sheet 94 = .ok (.if_icmp .ge 22, 3) := by decide +kernel
theorem dX9_sheet_97 : decode cX9_sheet 97 = .ok (.aload_n 0, 1) := by decide +kernel
theorem dX9_sheet_98 : decode cX9_sheet 98 = .ok (.getfield 38, 3) := by decide +kernel
theorem dX9_sheet_101 : decode cX9_sheet 101 = .ok (.bipush 40, 2) := by decide +kernel
theorem dX9_sheet_103 : decode cX9_sheet 103 = .ok (.iload_n 1, 1) := by decide +kernel
theorem dX9_sheet_104 : decode cX9_sheet 104 = .ok (.imul, 1) := by decide +kernel
theorem dX9_sheet_105 : decode cX9_sheet 105 = .ok (.iload 4, 2) := by decide +kernel
theorem dX9_sheet_107 : decode cX9_sheet 107 = .ok (.iadd, 1) := by decide +kernel
theorem dX9_sheet_108 : decode cX9_sheet 108 = .ok (.iconst 0, 1) := by decide +kernel
theorem dX9_sheet_109 : decode cX9_sheet 109 = .ok (.iastore, 1) := by decide +kernel
theorem dX9_sheet_110 : decode cX9_sheet 110 = .ok (.iinc 4 1, 3) := by decide +kernel
theorem dX9_sheet_113 : decode cX9_sheet 113 = .ok (.goto (-23), 3) := by decide +kernel
theorem dX9_sheet_116 : decode cX9_sheet 116 = .ok (.iconst 1, 1) := by decide +kernel
theorem dX9_sheet_117 : decode cX9_sheet 117 = .ok (.ireturn, 1) := by decide +kernel
theorem dX9_put_0 : decode cX9_put 0 = .ok (.iload_n 1, 1) := by decide +kernel
theorem dX9_put_1 : decode cX9_put 1 = .ok (.invokestatic 262, 3) := by decide +kernel
theorem dX9_put_4 : decode cX9_put 4 = .ok (.ifCond .ne 9, 3) := by decide +kernel
theorem dX9_put_7 : decode cX9_put 7 = .ok (.aload_n 0, 1) := by decide +kernel
theorem dX9_put_8 : decode cX9_put 8 = .ok (.iconst 1, 1) := by decide +kernel
theorem dX9_put_9 : decode cX9_put 9 = .ok (.invokevirtual 103, 3) := by decide +kernel
theorem dX9_put_12 : decode cX9_put 12 = .ok (.ireturn, 1) := by decide +kernel
theorem dX9_put_13 : decode cX9_put 13 = .ok (.aload_n 0, 1) := by decide +kernel
theorem dX9_put_14 : decode cX9_put 14 = .ok (.getfield 32, 3) := by decide +kernel
theorem dX9_put_17 : decode cX9_put 17 = .ok (.iload_n 1, 1) := by decide +kernel
theorem dX9_put_18 : decode cX9_put 18 = .ok (.iaload, 1) := by decide +kernel
theorem dX9_put_19 : decode cX9_put 19 = .ok (.ifCond .ne 9, 3) := by decide +kernel
theorem dX9_put_22 : decode cX9_put 22 = .ok (.aload_n 0, 1) := by decide +kernel
theorem dX9_put_23 : decode cX9_put 23 = .ok (.iconst 2, 1) := by decide +kernel
theorem dX9_put_24 : decode cX9_put 24 = .ok (.invokevirtual 103, 3) := by decide +kernel
theorem dX9_put_27 : decode cX9_put 27 = .ok (.ireturn, 1) := by decide +kernel
theorem dX9_put_28 : decode cX9_put 28 = .ok (.iload_n 2, 1) := by decide +kernel
theorem dX9_put_29 : decode cX9_put 29 = .ok (.i2l, 1) := by decide +kernel
theorem dX9_put_30 : decode cX9_put 30 = .ok (.lconst 0, 1) := by decide +kernel
theorem dX9_put_31 : decode cX9_put 31 = .ok (.aload_n 0, 1) := by decide +kernel
theorem dX9_put_32 : decode cX9_put 32 = .ok (.getfield 35, 3) := by decide +kernel
theorem dX9_put_35 : decode cX9_put 35 = .ok (.iload_n 1, 1) := by decide +kernel
theorem dX9_put_36 : decode cX9_put 36 = .ok (.iaload, 1) := by decide +kernel
theorem dX9_put_37 : decode cX9_put 37 = .ok (.iconst 1, 1) := by decide +kernel
theorem dX9_put_38 : decode cX9_put 38 = .ok (.isub, 1) := by decide +kernel
theorem dX9_put_39 : decode cX9_put 39 = .ok (.i2l, 1) := by decide +kernel
theorem dX9_put_40 : decode cX9_put 40 = .ok (.invokestatic 45, 3) := by decide +kernel
theorem dX9_put_43 : decode cX9_put 43 = .ok (.ifCond .ne 9, 3) := by decide +kernel
theorem dX9_put_46 : decode cX9_put 46 = .ok (.aload_n 0, 1) := by decide +kernel
theorem dX9_put_47 : decode cX9_put 47 = .ok (.iconst 1, 1) := by decide +kernel
theorem dX9_put_48 : decode cX9_put 48 = .ok (.invokevirtual 103, 3) := by decide +kernel
theorem dX9_put_51 : decode cX9_put 51 = .ok (.ireturn, 1) := by decide +kernel
theorem dX9_put_52 : decode cX9_put 52 = .ok (.aload_n 0, 1) := by decide +kernel
theorem dX9_put_53 : decode cX9_put 53 = .ok (.getfield 38, 3) := by decide +kernel
theorem dX9_put_56 : decode cX9_put 56 = .ok (.bipush 40, 2) := by decide +kernel
theorem dX9_put_58 : decode cX9_put 58 = .ok (.iload_n 1, 1) := by decide +kernel
theorem dX9_put_59 : decode cX9_put 59 = .ok (.imul, 1) := by decide +kernel
theorem dX9_put_60 : decode cX9_put 60 = .ok (.iload_n 2, 1) := by decide +kernel
theorem dX9_put_61 : decode cX9_put 61 = .ok (.iadd, 1) := by decide +kernel
theorem dX9_put_62 : decode cX9_put 62 = .ok (.aload_n 0, 1) := by decide +kernel
theorem dX9_put_63 : decode cX9_put 63 = .ok (.getfield 32, 3) := by decide +kernel
theorem dX9_put_66 : decode cX9_put 66 = .ok (.iload_n 1, 1) := by decide +kernel
theorem dX9_put_67 : decode cX9_put 67 = .ok (.iaload, 1) := by decide +kernel
theorem dX9_put_68 : decode cX9_put 68 = .ok (.bipush 8, 2) := by decide +kernel
theorem dX9_put_70 : decode cX9_put 70 = .ok (.if_icmp .ne 8, 3) := by decide +kernel
theorem dX9_put_73 : decode cX9_put 73 = .ok (.iload_n 3, 1) := by decide +kernel
theorem dX9_put_74 : decode cX9_put 74 = .ok (.i2b, 1) := by decide +kernel
theorem dX9_put_75 : decode cX9_put 75 = .ok (.goto 20, 3) := by decide +kernel
theorem dX9_put_78 : decode cX9_put 78 = .ok (.aload_n 0, 1) := by decide +kernel
theorem dX9_put_79 : decode cX9_put 79 = .ok (.getfield 32, 3) := by decide +kernel
theorem dX9_put_82 : decode cX9_put 82 = .ok (.iload_n 1, 1) := by decide +kernel
theorem dX9_put_83 : decode cX9_put 83 = .ok (.iaload, 1) := by decide +kernel
theorem dX9_put_84 : decode cX9_put 84 = .ok (.bipush 16, 2) := by decide +kernel
theorem dX9_put_86 : decode cX9_put 86 = .ok (.if_icmp .ne 8, 3) := by decide +kernel
theorem dX9_put_89 : decode cX9_put 89 = .ok (.iload_n 3, 1) := by decide +kernel
theorem dX9_put_90 : decode cX9_put 90 = .ok (.i2s, 1) := by decide +kernel
theorem dX9_put_91 : decode cX9_put 91 = .ok (.goto 4, 3) := by decide +kernel
theorem dX9_put_94 : decode cX9_put 94 = .ok (.iload_n 3, 1) := by decide +kernel
theorem dX9_put_95 : decode cX9_put 95 = .ok (.iastore, 1) := by decide +kernel
theorem dX9_put_96 : decode cX9_put 96 = .ok (.iconst 1, 1) := by decide +kernel
theorem dX9_put_97 : decode cX9_put 97 = .ok (.ireturn, 1) := by decide +kernel
theorem dX9_move_0 : decode cX9_move 0 = .ok (.iload_n 1, 1) := by decide +kernel
theorem dX9_move_1 : decode cX9_move 1 = .ok (.invokestatic 262, 3) := by decide +kernel
theorem dX9_move_4 : decode cX9_move 4 = .ok (.ifCond .eq 10, 3) := by decide +kernel
theorem dX9_move_7 : decode cX9_move 7 = .ok (.iload_n 3, 1) := by decide +kernel
theorem dX9_move_8 : decode cX9_move 8 = .ok (.invokestatic 262, 3) := by decide +kernel
theorem dX9_move_11 : decode cX9_move 11 = .ok (.ifCond .ne 9, 3) := by decide +kernel
theorem dX9_move_14 : decode cX9_move 14 = .ok (.aload_n 0, 1) := by decide +kernel
theorem dX9_move_15 : decode cX9_move 15 = .ok (.iconst 1, 1) := by decide +kernel
theorem dX9_move_16 : decode cX9_move 16 = .ok (.invokevirtual 103, 3) := by decide +kernel
theorem dX9_move_19 : decode cX9_move 19 = .ok (.ireturn, 1) := by decide +kernel
theorem dX9_move_20 : decode cX9_move 20 = .ok (.aload_n 0, 1) := by decide +kernel
theorem dX9_move_21 : decode cX9_move 21 = .ok (.getfield 32, 3) := by decide +kernel
theorem dX9_move_24 : decode cX9_move 24 = .ok (.iload_n 1, 1) := by decide +kernel
theorem dX9_move_25 : decode cX9_move 25 = .ok (.iaload, 1) := by decide +kernel
theorem dX9_move_26 : decode cX9_move 26 = .ok (.ifCond .eq 12, 3) := by decide +kernel
theorem dX9_move_29 : decode cX9_move 29 = .ok (.aload_n 0, 1) := by decide +kernel
theorem dX9_move_30 : decode cX9_move 30 = .ok (.getfield 32, 3) := by decide +kernel
theorem dX9_move_33 : decode cX9_move 33 = .ok (.iload_n 3, 1) := by decide +kernel
theorem dX9_move_34 : decode cX9_move 34 = .ok (.iaload, 1) := by decide +kernel
theorem dX9_move_35 : decode cX9_move 35 = .ok (.ifCond .ne 9, 3) := by decide +kernel
theorem dX9_move_38 : decode cX9_move 38 = .ok (.aload_n 0, 1) := by decide +kernel
theorem dX9_move_39 : decode cX9_move 39 = .ok (.iconst 2, 1) := by decide +kernel
theorem dX9_move_40 : decode cX9_move 40 = .ok (.invokevirtual 103, 3) := by decide +kernel
theorem dX9_move_43 : decode cX9_move 43 = .ok (.ireturn, 1) := by decide +kernel
theorem dX9_move_44 : decode cX9_move 44 = .ok (.aload_n 0, 1) := by decide +kernel
theorem dX9_move_45 : decode cX9_move 45 = .ok (.getfield 32, 3) := by decide +kernel
theorem dX9_move_48 : decode cX9_move 48 = .ok (.iload_n 1, 1) := by decide +kernel
theorem dX9_move_49 : decode cX9_move 49 = .ok (.iaload, 1) := by decide +kernel
theorem dX9_move_50 : decode cX9_move 50 = .ok (.aload_n 0, 1) := by decide +kernel
theorem dX9_move_51 : decode cX9_move 51 = .ok (.getfield 32, 3) := by decide +kernel
theorem dX9_move_54 : decode cX9_move 54 = .ok (.iload_n 3, 1) := by decide +kernel
theorem dX9_move_55 : decode cX9_move 55 = .ok (.iaload, 1) := by decide +kernel
theorem dX9_move_56 : decode cX9_move 56 = .ok (.if_icmp .eq 9, 3) := by decide +kernel
theorem dX9_move_59 : decode cX9_move 59 = .ok (.aload_n 0, 1) := by decide +kernel
theorem dX9_move_60 : decode cX9_move 60 = .ok (.iconst 5, 1) := by decide +kernel
theorem dX9_move_61 : decode cX9_move 61 = .ok (.invokevirtual 103, 3) := by decide +kernel
theorem dX9_move_64 : decode cX9_move 64 = .ok (.ireturn, 1) := by decide +kernel
theorem dX9_move_65 : decode cX9_move 65 = .ok (.iload 5, 2) := by decide +kernel
theorem dX9_move_67 : decode cX9_move 67 = .ok (.ifCond .lt 39, 3) := by decide +kernel
theorem dX9_move_70 : decode cX9_move 70 = .ok (.iload_n 2, 1) := by decide +kernel
theorem dX9_move_71 : decode cX9_move 71 = .ok (.ifCond .lt 35, 3) := by decide +kernel
theorem dX9_move_74 : decode cX9_move 74 = .ok (.iload 4, 2) := by decide +kernel
theorem dX9_move_76 : decode cX9_move 76 = .ok (.ifCond .lt 30, 3) := by decide +kernel
theorem dX9_move_79 : decode cX9_move 79 = .ok (.iload 5, 2) := by decide +kernel
theorem dX9_move_81 : decode cX9_move 81 = .ok (.aload_n 0, 1) := by decide +kernel
theorem dX9_move_82 : decode cX9_move 82 = .ok (.getfield 35, 3) := by decide +kernel
theorem dX9_move_85 : decode cX9_move 85 = .ok (.iload_n 1, 1) := by decide +kernel
theorem dX9_move_86 : decode cX9_move 86 = .ok (.iaload, 1) := by decide +kernel
theorem dX9_move_87 : decode cX9_move 87 = .ok (.iload_n 2, 1) := by decide +kernel
theorem dX9_move_88 : decode cX9_move 88 = .ok (.isub, 1) := by decide +kernel
theorem dX9_move_89 : decode cX9_move 89 = .ok (.if_icmp .gt 17, 3) := by decide +kernel
theorem dX9_move_92 : decode cX9_move 92 = .ok (.iload 5, 2) := by decide +kernel
theorem dX9_move_94 : decode cX9_move 94 = .ok (.aload_n 0, 1) := by decide +kernel
theorem dX9_move_95 : decode cX9_move 95 = .ok (.getfield 35, 3) := by decide +kernel
theorem dX9_move_98 : decode cX9_move 98 = .ok (.iload_n 3, 1) := by decide +kernel
theorem dX9_move_99 : decode cX9_move 99 = .ok (.iaload, 1) := by decide +kernel
theorem dX9_move_100 : decode cX9_move 100 = .ok (.iload 4, 2) := by decide +kernel
theorem dX9_move_102 : decode cX9_move 102 = .ok (.isub, 1) := by decide +kernel
theorem dX9_move_103 : decode cX9_move 103 = .ok (.if_icmp .le 9, 3) := by decide +kernel
theorem dX9_move_106 : decode cX9_move 106 = .ok (.aload_n 0, 1) := by decide +kernel
theorem dX9_move_107 : decode cX9_move 107 = .ok (.iconst 1, 1) := by decide +kernel
theorem dX9_move_108 : decode cX9_move 108 = .ok (.invokevirtual 103, 3) := by decide +kernel
theorem dX9_move_111 : decode cX9_move 111 = .ok (.ireturn, 1) := by decide +kernel
theorem dX9_move_112 : decode cX9_move 112 = .ok (.iconst 0, 1) := by decide +kernel
theorem dX9_move_113 : decode cX9_move 113 = .ok (.istore 6, 2) := by decide +kernel
theorem dX9_move_115 : decode cX9_move 115 = .ok (.iload 6, 2) := by decide +kernel
theorem dX9_move_117 : decode cX9_move 117 = .ok (.iload 5, 2) := by decide +kernel
theorem dX9_move_119 : decode cX9_move 119 = .ok (.if_icmp .ge 30, 3) := by decide +kernel
theorem dX9_move_122 : decode cX9_move 122 = .ok (.aload_n 0, 1) := by decide +kernel
theorem dX9_move_123 : decode cX9_move 123 = .ok (.getfield 41, 3) := by decide +kernel
theorem dX9_move_126 : decode cX9_move 126 = .ok (.iload 6, 2) := by decide +kernel
theorem dX9_move_128 : decode cX9_move 128 = .ok (.aload_n 0, 1) := by decide +kernel
theorem dX9_move_129 : decode cX9_move 129 = .ok (.getfield 38, 3) := by decide +kernel
theorem dX9_move_132 : decode cX9_move 132 = .ok (.bipush 40, 2) := by decide +kernel
theorem dX9_move_134 : decode cX9_move 134 = .ok (.iload_n 1, 1) := by decide +kernel
theorem dX9_move_135 : decode cX9_move 135 = .ok (.imul, 1) := by decide +kernel
theorem dX9_move_136 : decode cX9_move 136 = .ok (.iload_n 2, 1) := by decide +kernel
theorem dX9_move_137 : decode cX9_move 137 = .ok (.iadd, 1) := by decide +kernel
theorem dX9_move_138 : decode cX9_move 138 = .ok (.iload 6, 2) := by decide +kernel
theorem dX9_move_140 : decode cX9_move 140 = .ok (.iadd, 1) := by decide +kernel
theorem dX9_move_141 : decode cX9_move 141 = .ok (.iaload, 1) := by decide +kernel
theorem dX9_move_142 : decode cX9_move 142 = .ok (.iastore, 1) := by decide +kernel
theorem dX9_move_143 : decode cX9_move 143 = .ok (.iinc 6 1, 3) := by decide +kernel
theorem dX9_move_146 : decode cX9_move 146 = .ok (.goto (-31), 3) := by decide +kernel
theorem dX9_move_149 : decode cX9_move 149 = .ok (.iconst 0, 1) := by decide +kernel
theorem dX9_move_150 : decode cX9_move 150 = .ok (.istore 6, 2) := by decide +kernel
theorem dX9_move_152 : decode cX9_move 152 = .ok (.iload 6, 2) := by decide +kernel
theorem dX9_move_154 : decode cX9_move 154 = .ok (.iload 5, 2) := by decide +kernel
theorem dX9_move_156 : decode cX9_move 156 = .ok (.if_icmp .ge 31, 3) := by decide +kernel
theorem dX9_move_159 : decode cX9_move 159 = .ok (.aload_n 0, 1) := by decide +kernel
theorem dX9_move_160 : decode cX9_move 160 = .ok (.getfield 38, 3) := by decide +kernel
theorem dX9_move_163 : decode cX9_move 163 = .ok (.bipush 40, 2) := by decide +kernel
theorem dX9_move_165 : decode cX9_move 165 = .ok (.iload_n 3, 1) := by decide +kernel
theorem dX9_move_166 : decode cX9_move 166 = .ok (.imul, 1) := by decide +kernel
theorem dX9_move_167 : decode cX9_move 167 = .ok (.iload 4, 2) := by decide +kernel
theorem dX9_move_169 : decode cX9_move 169 = .ok (.iadd, 1) := by decide +kernel
theorem dX9_move_170 : decode cX9_move 170 = .ok (.iload 6, 2) := by decide +kernel
theorem dX9_move_172 : decode cX9_move 172 = .ok (.iadd, 1) := by decide +kernel
theorem dX9_move_173 : decode cX9_move 173 = .ok (.aload_n 0, 1) := by decide +kernel
theorem dX9_move_174 : decode cX9_move 174 = .ok (.getfield 41, 3) := by decide +kernel
theorem dX9_move_177 : decode cX9_move 177 = .ok (.iload 6, 2) := by decide +kernel
theorem dX9_move_179 : decode cX9_move 179 = .ok (.iaload, 1) := by decide +kernel
theorem dX9_move_180 : decode cX9_move 180 = .ok (.iastore, 1) := by decide +kernel
theorem dX9_move_181 : decode cX9_move 181 = .ok (.iinc 6 1, 3) := by decide +kernel
theorem dX9_move_184 : decode cX9_move 184 = .ok (.goto (-32), 3) := by decide +kernel
theorem dX9_move_187 : decode cX9_move 187 = .ok (.iload 5, 2) := by decide +kernel
theorem dX9_move_189 : decode cX9_move 189 = .ok (.ireturn, 1) := by decide +kernel
theorem dX9_turns_0 : decode cX9_turns 0 = .ok (.iload_n 1, 1) := by decide +kernel
theorem dX9_turns_1 : decode cX9_turns 1 = .ok (.invokestatic 262, 3) := by decide +kernel
theorem dX9_turns_4 : decode cX9_turns 4 = .ok (.ifCond .ne 9, 3) := by decide +kernel
theorem dX9_turns_7 : decode cX9_turns 7 = .ok (.aload_n 0, 1) := by decide +kernel
theorem dX9_turns_8 : decode cX9_turns 8 = .ok (.iconst 1, 1) := by decide +kernel
theorem dX9_turns_9 : decode cX9_turns 9 = .ok (.invokevirtual 103, 3) := by decide +kernel
theorem dX9_turns_12 : decode cX9_turns 12 = .ok (.ireturn, 1) := by decide +kernel
theorem dX9_turns_13 : decode cX9_turns 13 = .ok (.aload_n 0, 1) := by decide +kernel
theorem dX9_turns_14 : decode cX9_turns 14 = .ok (.getfield 32, 3) := by decide +kernel
theorem dX9_turns_17 : decode cX9_turns 17 = .ok (.iload_n 1, 1) := by decide +kernel
theorem dX9_turns_18 : decode cX9_turns 18 = .ok (.iaload, 1) := by decide +kernel
theorem dX9_turns_19 : decode cX9_turns 19 = .ok (.ifCond .ne 9, 3) := by decide +kernel
theorem dX9_turns_22 : decode cX9_turns 22 = .ok (.aload_n 0, 1) := by decide +kernel
theorem dX9_turns_23 : decode cX9_turns 23 = .ok (.iconst 2, 1) := by decide +kernel
theorem dX9_turns_24 : decode cX9_turns 24 = .ok (.invokevirtual 103, 3) := by decide +kernel
theorem dX9_turns_27 : decode cX9_turns 27 = .ok (.ireturn, 1) := by decide +kernel
theorem dX9_turns_28 : decode cX9_turns 28 = .ok (.iconst 0, 1) := by decide +kernel
theorem dX9_turns_29 : decode cX9_turns 29 = .ok (.istore_n 2, 1) := by decide +kernel
theorem dX9_turns_30 : decode cX9_turns 30 = .ok (.iload_n 2, 1) := by decide +kernel
theorem dX9_turns_31 : decode cX9_turns 31 = .ok (.aload_n 0, 1) := by decide +kernel
theorem dX9_turns_32 : decode cX9_turns 32 = .ok (.getfield 35, 3) := by decide +kernel
theorem dX9_turns_35 : decode cX9_turns 35 = .ok (.iload_n 1, 1) := by decide +kernel
theorem dX9_turns_36 : decode cX9_turns 36 = .ok (.iaload, 1) := by decide +kernel
theorem dX9_turns_37 : decode cX9_turns 37 = .ok (.if_icmp .ge 58, 3) := by decide +kernel
theorem dX9_turns_40 : decode cX9_turns 40 = .ok (.iload_n 2, 1) := by decide +kernel
theorem dX9_turns_41 : decode cX9_turns 41 = .ok (.aload_n 0, 1) := by decide +kernel
theorem dX9_turns_42 : decode cX9_turns 42 = .ok (.getfield 7, 3) := by decide +kernel
theorem dX9_turns_45 : decode cX9_turns 45 = .ok (.iconst 0, 1) := by decide +kernel
theorem dX9_turns_46 : decode cX9_turns 46 = .ok (.iaload, 1) := by decide +kernel
theorem dX9_turns_47 : decode cX9_turns 47 = .ok (.if_icmp .ge 48, 3) := by decide +kernel
theorem dX9_turns_50 : decode cX9_turns 50 = .ok (.aload_n 0, 1) := by decide +kernel
theorem dX9_turns_51 : decode cX9_turns 51 = .ok (.getfield 38, 3) := by decide +kernel
theorem dX9_turns_54 : decode cX9_turns 54 = .ok (.bipush 40, 2) := by decide +kernel
theorem dX9_turns_56 : decode cX9_turns 56 = .ok (.iload_n 1, 1) := by decide +kernel
theorem dX9_turns_57 : decode cX9_turns 57 = .ok (.imul, 1) := by decide +kernel
theorem dX9_turns_58 : decode cX9_turns 58 = .ok (.iload_n 2, 1) := by decide +kernel
theorem dX9_turns_59 : decode cX9_turns 59 = .ok (.iadd, 1) := by decide +kernel
theorem dX9_turns_60 : decode cX9_turns 60 = .ok (.iaload, 1) := by decide +kernel
theorem dX9_turns_61 : decode cX9_turns 61 = .ok (.i2l, 1) := by decide +kernel
theorem dX9_turns_62 : decode cX9_turns 62 = .ok (.lconst 1, 1) := by decide +kernel
theorem dX9_turns_63 : decode cX9_turns 63 = .ok (.ldc2_w 170, 3) := by decide +kernel
theorem dX9_turns_66 : decode cX9_turns 66 = .ok (.invokestatic 45, 3) := by decide +kernel
theorem dX9_turns_69 : decode cX9_turns 69 = .ok (.ifCond .eq 26, 3) := by decide +kernel
theorem dX9_turns_72 : decode cX9_turns 72 = .ok (.aload_n 0, 1) := by decide +kernel
theorem dX9_turns_73 : decode cX9_turns 73 = .ok (.iload_n 2, 1) := by decide +kernel
theorem dX9_turns_74 : decode cX9_turns 74 = .ok (.iconst 2, 1) := by decide +kernel
theorem dX9_turns_75 : decode cX9_turns 75 = .ok (.aload_n 0, 1) := by decide +kernel
theorem dX9_turns_76 : decode cX9_turns 76 = .ok (.getfield 38, 3) := by decide +kernel
theorem dX9_turns_79 : decode cX9_turns 79 = .ok (.bipush 40, 2) := by decide +kernel
theorem dX9_turns_81 : decode cX9_turns 81 = .ok (.iload_n 1, 1) := by decide +kernel
theorem dX9_turns_82 : decode cX9_turns 82 = .ok (.imul, 1) := by decide +kernel
theorem dX9_turns_83 : decode cX9_turns 83 = .ok (.iload_n 2, 1) := by decide +kernel
theorem dX9_turns_84 : decode cX9_turns 84 = .ok (.iadd, 1) := by decide +kernel
theorem dX9_turns_85 : decode cX9_turns 85 = .ok (.iaload, 1) := by decide +kernel
theorem dX9_turns_86 : decode cX9_turns 86 = .ok (.invokevirtual 149, 3) := by decide +kernel
theorem dX9_turns_89 : decode cX9_turns 89 = .ok (.iinc 2 1, 3) := by decide +kernel
theorem dX9_turns_92 : decode cX9_turns 92 = .ok (.goto (-62), 3) := by decide +kernel
theorem dX9_turns_95 : decode cX9_turns 95 = .ok (.iload_n 2, 1) := by decide +kernel
theorem dX9_turns_96 : decode cX9_turns 96 = .ok (.ireturn, 1) := by decide +kernel
theorem dX9_judge_0 : decode cX9_judge 0 = .ok (.iload_n 1, 1) := by decide +kernel
theorem dX9_judge_1 : decode cX9_judge 1 = .ok (.invokestatic 262, 3) := by decide +kernel
theorem dX9_judge_4 : decode cX9_judge 4 = .ok (.ifCond .ne 9, 3) := by decide +kernel
theorem dX9_judge_7 : decode cX9_judge 7 = .ok (.aload_n 0, 1) := by decide +kernel
theorem dX9_judge_8 : decode cX9_judge 8 = .ok (.iconst 1, 1) := by decide +kernel
theorem dX9_judge_9 : decode cX9_judge 9 = .ok (.invokevirtual 103, 3) := by decide +kernel
theorem dX9_judge_12 : decode cX9_judge 12 = .ok (.ireturn, 1) := by decide +kernel
theorem dX9_judge_13 : decode cX9_judge 13 = .ok (.aload_n 0, 1) := by decide +kernel
theorem dX9_judge_14 : decode cX9_judge 14 = .ok (.getfield 32, 3) := by decide +kernel
theorem dX9_judge_17 : decode cX9_judge 17 = .ok (.iload_n 1, 1) := by decide +kernel
theorem dX9_judge_18 : decode cX9_judge 18 = .ok (.iaload, 1) := by decide +kernel
theorem dX9_judge_19 : decode cX9_judge 19 = .ok (.ifCond .ne 9, 3) := by decide +kernel
theorem dX9_judge_22 : decode cX9_judge 22 = .ok (.aload_n 0, 1) := by decide +kernel
theorem dX9_judge_23 : decode cX9_judge 23 = .ok (.iconst 2, 1) := by decide +kernel
theorem dX9_judge_24 : decode cX9_judge 24 = .ok (.invokevirtual 103, 3) := by decide +kernel
theorem dX9_judge_27 : decode cX9_judge 27 = .ok (.ireturn, 1) := by decide +kernel
theorem dX9_judge_28 : decode cX9_judge 28 = .ok (.iconst 0, 1) := by decide +kernel
theorem dX9_judge_29 : decode cX9_judge 29 = .ok (.istore_n 2, 1) := by decide +kernel
theorem dX9_judge_30 : decode cX9_judge 30 = .ok (.iload_n 2, 1) := by decide +kernel
theorem dX9_judge_31 : decode cX9_judge 31 = .ok (.aload_n 0, 1) := by decide +kernel
theorem dX9_judge_32 : decode cX9_judge 32 = .ok (.getfield 35, 3) := by decide +kernel
theorem dX9_judge_35 : decode cX9_judge 35 = .ok (.iload_n 1, 1) := by decide +kernel
theorem dX9_judge_36 : decode cX9_judge 36 = .ok (.iaload, 1) := by decide +kernel
theorem dX9_judge_37 : decode cX9_judge 37 = .ok (.if_icmp .ge 39, 3) := by decide +kernel
theorem dX9_judge_40 : decode cX9_judge 40 = .ok (.iload_n 2, 1) := by decide +kernel
theorem dX9_judge_41 : decode cX9_judge 41 = .ok (.aload_n 0, 1) := by decide +kernel
theorem dX9_judge_42 : decode cX9_judge 42 = .ok (.getfield 7, 3) := by decide +kernel
theorem dX9_judge_45 : decode cX9_judge 45 = .ok (.iconst 0, 1) := by decide +kernel
theorem dX9_judge_46 : decode cX9_judge 46 = .ok (.iaload, 1) := by decide +kernel
theorem dX9_judge_47 : decode cX9_judge 47 = .ok (.if_icmp .ge 29, 3) := by decide +kernel
theorem dX9_judge_50 : decode cX9_judge 50 = .ok (.aload_n 0, 1) := by decide +kernel
theorem dX9_judge_51 : decode cX9_judge 51 = .ok (.getfield 38, 3) := by decide +kernel
theorem dX9_judge_54 : decode cX9_judge 54 = .ok (.bipush 40, 2) := by decide +kernel
theorem dX9_judge_56 : decode cX9_judge 56 = .ok (.iload_n 1, 1) := by decide +kernel
theorem dX9_judge_57 : decode cX9_judge 57 = .ok (.imul, 1) := by decide +kernel
theorem dX9_judge_58 : decode cX9_judge 58 = .ok (.iload_n 2, 1) := by decide +kernel
theorem dX9_judge_59 : decode cX9_judge 59 = .ok (.iadd, 1) := by decide +kernel
theorem dX9_judge_60 : decode cX9_judge 60 = .ok (.iaload, 1) := by decide +kernel
theorem dX9_judge_61 : decode cX9_judge 61 = .ok (.aload_n 0, 1) := by decide +kernel
theorem dX9_judge_62 : decode cX9_judge 62 = .ok (.iload_n 2, 1) := by decide +kernel
theorem dX9_judge_63 : decode cX9_judge 63 = .ok (.iconst 3, 1) := by decide +kernel
theorem dX9_judge_64 : decode cX9_judge 64 = .ok (.invokevirtual 144, 3) := by decide +kernel
theorem dX9_judge_67 : decode cX9_judge 67 = .ok (.if_icmp .ne 9, 3) := by decide +kernel
theorem dX9_judge_70 : decode cX9_judge 70 = .ok (.iinc 2 1, 3) := by decide +kernel
theorem dX9_judge_73 : decode cX9_judge 73 = .ok (.goto (-43), 3) := by decide +kernel
theorem dX9_judge_76 : decode cX9_judge 76 = .ok (.iload_n 2, 1) := by decide +kernel
theorem dX9_judge_77 : decode cX9_judge 77 = .ok (.aload_n 0, 1) := by decide +kernel
theorem dX9_judge_78 : decode cX9_judge 78 = .ok (.getfield 35, 3) := by decide +kernel
theorem dX9_judge_81 : decode cX9_judge 81 = .ok (.iload_n 1, 1) := by decide +kernel
theorem dX9_judge_82 : decode cX9_judge 82 = .ok (.iaload, 1) := by decide +kernel
theorem dX9_judge_83 : decode cX9_judge 83 = .ok (.if_icmp .ne 17, 3) := by decide +kernel
theorem dX9_judge_86 : decode cX9_judge 86 = .ok (.iload_n 2, 1) := by decide +kernel
theorem dX9_judge_87 : decode cX9_judge 87 = .ok (.aload_n 0, 1) := by decide +kernel
theorem dX9_judge_88 : decode cX9_judge 88 = .ok (.getfield 7, 3) := by decide +kernel
theorem dX9_judge_91 : decode cX9_judge 91 = .ok (.iconst 0, 1) := by decide +kernel
theorem dX9_judge_92 : decode cX9_judge 92 = .ok (.iaload, 1) := by decide +kernel
theorem dX9_judge_93 : decode cX9_judge 93 = .ok (.if_icmp .ne 7, 3) := by decide +kernel
theorem dX9_judge_96 : decode cX9_judge 96 = .ok (.iconst (-1), 1) := by decide +kernel
theorem dX9_judge_97 : decode cX9_judge 97 = .ok (.goto 4, 3) := by decide +kernel
theorem dX9_judge_100 : decode cX9_judge 100 = .ok (.iload_n 2, 1) := by decide +kernel
theorem dX9_judge_101 : decode cX9_judge 101 = .ok (.ireturn, 1) := by decide +kernel
theorem dX9_image_0 : decode cX9_image 0 = .ok (.iconst 0, 1) := by decide +kernel
theorem dX9_image_1 : decode cX9_image 1 = .ok (.istore_n 1, 1) := by decide +kernel
theorem dX9_image_2 : decode cX9_image 2 = .ok (.iload_n 1, 1) := by decide +kernel
theorem dX9_image_3 : decode cX9_image 3 = .ok (.sipush 264, 3) := by decide +kernel
theorem dX9_image_6 : decode cX9_image 6 = .ok (.if_icmp .ge 21, 3) := by decide +kernel
theorem dX9_image_9 : decode cX9_image 9 = .ok (.aload_n 0, 1) := by decide +kernel
theorem dX9_image_10 : decode cX9_image 10 = .ok (.getfield 13, 3) := by decide +kernel
theorem dX9_image_13 : decode cX9_image 13 = .ok (.iload_n 1, 1) := by decide +kernel
theorem dX9_image_14 : decode cX9_image 14 = .ok (.aload_n 0, 1) := by decide +kernel
theorem dX9_image_15 : decode cX9_image 15 = .ok (.getfield 7, 3) := by decide +kernel
theorem dX9_image_18 : decode cX9_image 18 = .ok (.iload_n 1, 1) := by decide +kernel
theorem dX9_image_19 : decode cX9_image 19 = .ok (.iaload, 1) := by decide +kernel
theorem dX9_image_20 : decode cX9_image 20 = .ok (.iastore, 1) := by decide +kernel
theorem dX9_image_21 : decode cX9_image 21 = .ok (.iinc 1 1, 3) := by decide +kernel
theorem dX9_image_24 : decode cX9_image 24 = .ok (.goto (-22), 3) := by decide +kernel
theorem dX9_image_27 : decode cX9_image 27 = .ok (.aload_n 0, 1) := by decide +kernel
theorem dX9_image_28 : decode cX9_image 28 = .ok (.dup, 1) := by decide +kernel
theorem dX9_image_29 : decode cX9_image 29 = .ok (.getfield 293, 3) := by decide +kernel
theorem dX9_image_32 : decode cX9_image 32 = .ok (.iconst 1, 1) := by decide +kernel
theorem dX9_image_33 : decode cX9_image 33 = .ok (.iadd, 1) := by decide +kernel
theorem dX9_image_34 : decode cX9_image 34 = .ok (.putfield 293, 3) := by decide +kernel
theorem dX9_image_37 : decode cX9_image 37 = .ok (.aload_n 0, 1) := by decide +kernel
theorem dX9_image_38 : decode cX9_image 38 = .ok (.getfield 293, 3) := by decide +kernel
theorem dX9_image_41 : decode cX9_image 41 = .ok (.ireturn, 1) := by decide +kernel
theorem dX9_restore_0 : decode cX9_restore 0 = .ok (.aload_n 0, 1) := by decide +kernel
theorem dX9_restore_1 : decode cX9_restore 1 = .ok (.getfield 293, 3) := by decide +kernel
theorem dX9_restore_4 : decode cX9_restore 4 = .ok (.ifCond .ne 9, 3) := by decide +kernel
theorem dX9_restore_7 : decode cX9_restore 7 = .ok (.aload_n 0, 1) := by decide +kernel
theorem dX9_restore_8 : decode cX9_restore 8 = .ok (.iconst 2, 1) := by decide +kernel
theorem dX9_restore_9 : decode cX9_restore 9 = .ok (.invokevirtual 103, 3) := by decide +kernel
theorem dX9_restore_12 : decode cX9_restore 12 = .ok (.ireturn, 1) := by decide +kernel
theorem dX9_restore_13 : decode cX9_restore 13 = .ok (.iconst 0, 1) := by decide +kernel
theorem dX9_restore_14 : decode cX9_restore 14 = .ok (.istore_n 1, 1) := by decide +kernel
theorem dX9_restore_15 : decode cX9_restore 15 = .ok (.iload_n 1, 1) := by decide +kernel
theorem dX9_restore_16 : decode cX9_restore 16 = .ok (.sipush 264, 3) := by decide +kernel
theorem dX9_restore_19 : decode cX9_restore 19 = .ok (.if_icmp .ge 21, 3) := by decide +kernel
theorem dX9_restore_22 : decode cX9_restore 22 = .ok (.aload_n 0, 1) := by decide +kernel
theorem dX9_restore_23 : decode cX9_restore 23 = .ok (.getfield 7, 3) := by decide +kernel
theorem dX9_restore_26 : decode cX9_restore 26 = .ok (.iload_n 1, 1) := by decide +kernel
theorem dX9_restore_27 : decode cX9_restore 27 = .ok (.aload_n 0, 1) := by decide +kernel
theorem dX9_restore_28 : decode cX9_restore 28 = .ok (.getfield 13, 3) := by decide +kernel
theorem dX9_restore_31 : decode cX9_restore 31 = .ok (.iload_n 1, 1) := by decide +kernel
theorem dX9_restore_32 : decode cX9_restore 32 = .ok (.iaload, 1) := by decide +kernel
theorem dX9_restore_33 : decode cX9_restore 33 = .ok (.iastore, 1) := by decide +kernel
theorem dX9_restore_34 : decode cX9_restore 34 = .ok (.iinc 1 1, 3) := by decide +kernel
theorem dX9_restore_37 : decode cX9_restore 37 = .ok (.goto (-22), 3) := by decide +kernel
theorem dX9_restore_40 : decode cX9_restore 40 = .ok (.aload_n 0, 1) := by decide +kernel
theorem dX9_restore_41 : decode cX9_restore 41 = .ok (.getfield 7, 3) := by decide +kernel
theorem dX9_restore_44 : decode cX9_restore 44 = .ok (.iconst 1, 1) := by decide +kernel
theorem dX9_restore_45 : decode cX9_restore 45 = .ok (.iaload, 1) := by decide +kernel
theorem dX9_restore_46 : decode cX9_restore 46 = .ok (.ireturn, 1) := by decide +kernel
theorem dX9_tell_0 : decode cX9_tell 0 = .ok (.aload_n 0, 1) := by decide +kernel
theorem dX9_tell_1 : decode cX9_tell 1 = .ok (.getfield 7, 3) := by decide +kernel
theorem dX9_tell_4 : decode cX9_tell 4 = .ok (.bipush 10, 2) := by decide +kernel
theorem dX9_tell_6 : decode cX9_tell 6 = .ok (.iaload, 1) := by decide +kernel
theorem dX9_tell_7 : decode cX9_tell 7 = .ok (.bipush 20, 2) := by decide +kernel
theorem dX9_tell_9 : decode cX9_tell 9 = .ok (.if_icmp .ne 9, 3) := by decide +kernel
theorem dX9_tell_12 : decode cX9_tell 12 = .ok (.aload_n 0, 1) := by decide +kernel
theorem dX9_tell_13 : decode cX9_tell 13 = .ok (.iconst 4, 1) := by decide +kernel
theorem dX9_tell_14 : decode cX9_tell 14 = .ok (.invokevirtual 103, 3) := by decide +kernel
theorem dX9_tell_17 : decode cX9_tell 17 = .ok (.ireturn, 1) := by decide +kernel
theorem dX9_tell_18 : decode cX9_tell 18 = .ok (.aload_n 0, 1) := by decide +kernel
theorem dX9_tell_19 : decode cX9_tell 19 = .ok (.getfield 7, 3) := by decide +kernel
theorem dX9_tell_22 : decode cX9_tell 22 = .ok (.bipush 92, 2) := by decide +kernel
theorem dX9_tell_24 : decode cX9_tell 24 = .ok (.aload_n 0, 1) := by decide +kernel
theorem dX9_tell_25 : decode cX9_tell 25 = .ok (.getfield 7, 3) := by decide +kernel
theorem dX9_tell_28 : decode cX9_tell 28 = .ok (.bipush 10, 2) := by decide +kernel
theorem dX9_tell_30 : decode cX9_tell 30 = .ok (.iaload, 1) := by decide +kernel
theorem dX9_tell_31 : decode cX9_tell 31 = .ok (.iadd, 1) := by decide +kernel
theorem dX9_tell_32 : decode cX9_tell 32 = .ok (.iload_n 1, 1) := by decide +kernel
theorem dX9_tell_33 : decode cX9_tell 33 = .ok (.iastore, 1) := by decide +kernel
theorem dX9_tell_34 : decode cX9_tell 34 = .ok (.aload_n 0, 1) := by decide +kernel
theorem dX9_tell_35 : decode cX9_tell 35 = .ok (.getfield 7, 3) := by decide +kernel
theorem dX9_tell_38 : decode cX9_tell 38 = .ok (.bipush 10, 2) := by decide +kernel
theorem dX9_tell_40 : decode cX9_tell 40 = .ok (.dup2, 1) := by decide +kernel
theorem dX9_tell_41 : decode cX9_tell 41 = .ok (.iaload, 1) := by decide +kernel
theorem dX9_tell_42 : decode cX9_tell 42 = .ok (.iconst 1, 1) := by decide +kernel
theorem dX9_tell_43 : decode cX9_tell 43 = .ok (.iadd, 1) := by decide +kernel
theorem dX9_tell_44 : decode cX9_tell 44 = .ok (.iastore, 1) := by decide +kernel
theorem dX9_tell_45 : decode cX9_tell 45 = .ok (.aload_n 0, 1) := by decide +kernel
theorem dX9_tell_46 : decode cX9_tell 46 = .ok (.getfield 7, 3) := by decide +kernel
theorem dX9_tell_49 : decode cX9_tell 49 = .ok (.bipush 10, 2) := by decide +kernel
theorem dX9_tell_51 : decode cX9_tell 51 = .ok (.iaload, 1) := by decide +kernel
theorem dX9_tell_52 : decode cX9_tell 52 = .ok (.ireturn, 1) := by decide +kernel
theorem dX9_check_0 : decode cX9_check 0 = .ok (.aload_n 0, 1) := by decide +kernel
theorem dX9_check_1 : decode cX9_check 1 = .ok (.getfield 7, 3) := by decide +kernel
theorem dX9_check_4 : decode cX9_check 4 = .ok (.bipush 10, 2) := by decide +kernel
theorem dX9_check_6 : decode cX9_check 6 = .ok (.iaload, 1) := by decide +kernel
theorem dX9_check_7 : decode cX9_check 7 = .ok (.istore_n 1, 1) := by decide +kernel
theorem dX9_check_8 : decode cX9_check 8 = .ok (.aload_n 0, 1) := by decide +kernel
theorem dX9_check_9 : decode cX9_check 9 = .ok (.getfield 7, 3) := by decide +kernel
theorem dX9_check_12 : decode cX9_check 12 = .ok (.bipush 10, 2) := by decide +kernel
theorem dX9_check_14 : decode cX9_check 14 = .ok (.iconst 0, 1) := by decide +kernel
theorem dX9_check_15 : decode cX9_check 15 = .ok (.iastore, 1) := by decide +kernel
theorem dX9_check_16 : decode cX9_check 16 = .ok (.iconst 0, 1) := by decide +kernel
theorem dX9_check_17 : decode cX9_check 17 = .ok (.istore_n 2, 1) := by decide +kernel
theorem dX9_check_18 : decode cX9_check 18 = .ok (.iload_n 2, 1) := by decide +kernel
theorem dX9_check_19 : decode cX9_check 19 = .ok (.iload_n 1, 1) := by decide +kernel
theorem dX9_check_20 : decode cX9_check 20 = .ok (.if_icmp .ge 38, 3) := by decide +kernel
theorem dX9_check_23 : decode cX9_check 23 = .ok (.aload_n 0, 1) := by decide +kernel
theorem dX9_check_24 : decode cX9_check 24 = .ok (.getfield 7, 3) := by decide +kernel
theorem dX9_check_27 : decode cX9_check 27 = .ok (.bipush 92, 2) := by decide +kernel
theorem dX9_check_29 : decode cX9_check 29 = .ok (.iload_n 2, 1) := by decide +kernel
theorem dX9_check_30 : decode cX9_check 30 = .ok (.iadd, 1) := by decide +kernel
theorem dX9_check_31 : decode cX9_check 31 = .ok (.iaload, 1) := by decide +kernel
theorem dX9_check_32 : decode cX9_check 32 = .ok (.aload_n 0, 1) := by decide +kernel
theorem dX9_check_33 : decode cX9_check 33 = .ok (.iconst 0, 1) := by decide +kernel
theorem dX9_check_34 : decode cX9_check 34 = .ok (.aload_n 0, 1) := by decide +kernel
theorem dX9_check_35 : decode cX9_check 35 = .ok (.getfield 7, 3) := by decide +kernel
theorem dX9_check_38 : decode cX9_check 38 = .ok (.iconst 1, 1) := by decide +kernel
theorem dX9_check_39 : decode cX9_check 39 = .ok (.iaload, 1) := by decide +kernel
theorem dX9_check_40 : decode cX9_check 40 = .ok (.iload_n 2, 1) := by decide +kernel
theorem dX9_check_41 : decode cX9_check 41 = .ok (.iadd, 1) := by decide +kernel
theorem dX9_check_42 : decode cX9_check 42 = .ok (.invokevirtual 119, 3) := by decide +kernel
theorem dX9_check_45 : decode cX9_check 45 = .ok (.if_icmp .eq 7, 3) := by decide +kernel
theorem dX9_check_48 : decode cX9_check 48 = .ok (.iconst 1, 1) := by decide +kernel
theorem dX9_check_49 : decode cX9_check 49 = .ok (.iload_n 2, 1) := by decide +kernel
theorem dX9_check_50 : decode cX9_check 50 = .ok (.iadd, 1) := by decide +kernel
theorem dX9_check_51 : decode cX9_check 51 = .ok (.ireturn, 1) := by decide +kernel
theorem dX9_check_52 : decode cX9_check 52 = .ok (.iinc 2 1, 3) := by decide +kernel
theorem dX9_check_55 : decode cX9_check 55 = .ok (.goto (-37), 3) := by decide +kernel
theorem dX9_check_58 : decode cX9_check 58 = .ok (.iconst 0, 1) := by decide +kernel
theorem dX9_check_59 : decode cX9_check 59 = .ok (.ireturn, 1) := by decide +kernel
theorem dX9_count_0 : decode cX9_count 0 = .ok (.iload_n 1, 1) := by decide +kernel
theorem dX9_count_1 : decode cX9_count 1 = .ok (.tableswitch 150 0 11 #[63, 70, 77, 84, 91, 98, 105, 113, 121, 129, 137, 142], 63) := by decide +kernel
theorem dX9_count_64 : decode cX9_count 64 = .ok (.aload_n 0, 1) := by decide +kernel
theorem dX9_count_65 : decode cX9_count 65 = .ok (.getfield 7, 3) := by decide +kernel
theorem dX9_count_68 : decode cX9_count 68 = .ok (.iconst 0, 1) := by decide +kernel
theorem dX9_count_69 : decode cX9_count 69 = .ok (.iaload, 1) := by decide +kernel
theorem dX9_count_70 : decode cX9_count 70 = .ok (.ireturn, 1) := by decide +kernel
theorem dX9_count_71 : decode cX9_count 71 = .ok (.aload_n 0, 1) := by decide +kernel
theorem dX9_count_72 : decode cX9_count 72 = .ok (.getfield 7, 3) := by decide +kernel
theorem dX9_count_75 : decode cX9_count 75 = .ok (.iconst 1, 1) := by decide +kernel
theorem dX9_count_76 : decode cX9_count 76 = .ok (.iaload, 1) := by decide +kernel
theorem dX9_count_77 : decode cX9_count 77 = .ok (.ireturn, 1) := by decide +kernel
theorem dX9_count_78 : decode cX9_count 78 = .ok (.aload_n 0, 1) := by decide +kernel
theorem dX9_count_79 : decode cX9_count 79 = .ok (.getfield 7, 3) := by decide +kernel
theorem dX9_count_82 : decode cX9_count 82 = .ok (.iconst 2, 1) := by decide +kernel
theorem dX9_count_83 : decode cX9_count 83 = .ok (.iaload, 1) := by decide +kernel
theorem dX9_count_84 : decode cX9_count 84 = .ok (.ireturn, 1) := by decide +kernel
theorem dX9_count_85 : decode cX9_count 85 = .ok (.aload_n 0, 1) := by decide +kernel
theorem dX9_count_86 : decode cX9_count 86 = .ok (.getfield 7, 3) := by decide +kernel
theorem dX9_count_89 : decode cX9_count 89 = .ok (.iconst 3, 1) := by decide +kernel
theorem dX9_count_90 : decode cX9_count 90 = .ok (.iaload, 1) := by decide +kernel
theorem dX9_count_91 : decode cX9_count 91 = .ok (.ireturn, 1) := by decide +kernel
theorem dX9_count_92 : decode cX9_count 92 = .ok (.aload_n 0, 1) := by decide +kernel
theorem dX9_count_93 : decode cX9_count 93 = .ok (.getfield 7, 3) := by decide +kernel
theorem dX9_count_96 : decode cX9_count 96 = .ok (.iconst 4, 1) := by decide +kernel
theorem dX9_count_97 : decode cX9_count 97 = .ok (.iaload, 1) := by decide +kernel
theorem dX9_count_98 : decode cX9_count 98 = .ok (.ireturn, 1) := by decide +kernel
theorem dX9_count_99 : decode cX9_count 99 = .ok (.aload_n 0, 1) := by decide +kernel
theorem dX9_count_100 : decode cX9_count 100 = .ok (.getfield 7, 3) := by decide +kernel
theorem dX9_count_103 : decode cX9_count 103 = .ok (.iconst 5, 1) := by decide +kernel
theorem dX9_count_104 : decode cX9_count 104 = .ok (.iaload, 1) := by decide +kernel
theorem dX9_count_105 : decode cX9_count 105 = .ok (.ireturn, 1) := by decide +kernel
theorem dX9_count_106 : decode cX9_count 106 = .ok (.aload_n 0, 1) := by decide +kernel
theorem dX9_count_107 : decode cX9_count 107 = .ok (.getfield 7, 3) := by decide +kernel
theorem dX9_count_110 : decode cX9_count 110 = .ok (.bipush 6, 2) := by decide +kernel
theorem dX9_count_112 : decode cX9_count 112 = .ok (.iaload, 1) := by decide +kernel
theorem dX9_count_113 : decode cX9_count 113 = .ok (.ireturn, 1) := by decide +kernel
theorem dX9_count_114 : decode cX9_count 114 = .ok (.aload_n 0, 1) := by decide +kernel
theorem dX9_count_115 : decode cX9_count 115 = .ok (.getfield 7, 3) := by decide +kernel
theorem dX9_count_118 : decode cX9_count 118 = .ok (.bipush 7, 2) := by decide +kernel
theorem dX9_count_120 : decode cX9_count 120 = .ok (.iaload, 1) := by decide +kernel
theorem dX9_count_121 : decode cX9_count 121 = .ok (.ireturn, 1) := by decide +kernel
theorem dX9_count_122 : decode cX9_count 122 = .ok (.aload_n 0, 1) := by decide +kernel
theorem dX9_count_123 : decode cX9_count 123 = .ok (.getfield 7, 3) := by decide +kernel
theorem dX9_count_126 : decode cX9_count 126 = .ok (.bipush 9, 2) := by decide +kernel
theorem dX9_count_128 : decode cX9_count 128 = .ok (.iaload, 1) := by decide +kernel
theorem dX9_count_129 : decode cX9_count 129 = .ok (.ireturn, 1) := by decide +kernel
theorem dX9_count_130 : decode cX9_count 130 = .ok (.aload_n 0, 1) := by decide +kernel
theorem dX9_count_131 : decode cX9_count 131 = .ok (.getfield 7, 3) := by decide +kernel
theorem dX9_count_134 : decode cX9_count 134 = .ok (.bipush 10, 2) := by decide +kernel
theorem dX9_count_136 : decode cX9_count 136 = .ok (.iaload, 1) := by decide +kernel
theorem dX9_count_137 : decode cX9_count 137 = .ok (.ireturn, 1) := by decide +kernel
theorem dX9_count_138 : decode cX9_count 138 = .ok (.aload_n 0, 1) := by decide +kernel
theorem dX9_count_139 : decode cX9_count 139 = .ok (.getfield 268, 3) := by decide +kernel
theorem dX9_count_142 : decode cX9_count 142 = .ok (.ireturn, 1) := by decide +kernel
theorem dX9_count_143 : decode cX9_count 143 = .ok (.aload_n 0, 1) := by decide +kernel
theorem dX9_count_144 : decode cX9_count 144 = .ok (.getfield 7, 3) := by decide +kernel
theorem dX9_count_147 : decode cX9_count 147 = .ok (.bipush 8, 2) := by decide +kernel
theorem dX9_count_149 : decode cX9_count 149 = .ok (.iaload, 1) := by decide +kernel
theorem dX9_count_150 : decode cX9_count 150 = .ok (.ireturn, 1) := by decide +kernel
theorem dX9_count_151 : decode cX9_count 151 = .ok (.aload_n 0, 1) := by decide +kernel
theorem dX9_count_152 : decode cX9_count 152 = .ok (.iconst 1, 1) := by decide +kernel
theorem dX9_count_153 : decode cX9_count 153 = .ok (.invokevirtual 103, 3) := by decide +kernel
theorem dX9_count_156 : decode cX9_count 156 = .ok (.ireturn, 1) := by decide +kernel
theorem dX9_told_0 : decode cX9_told 0 = .ok (.iload_n 1, 1) := by decide +kernel
theorem dX9_told_1 : decode cX9_told 1 = .ok (.i2l, 1) := by decide +kernel
theorem dX9_told_2 : decode cX9_told 2 = .ok (.lconst 1, 1) := by decide +kernel
theorem dX9_told_3 : decode cX9_told 3 = .ok (.ldc2_w 296, 3) := by decide +kernel
theorem dX9_told_6 : decode cX9_told 6 = .ok (.invokestatic 45, 3) := by decide +kernel
theorem dX9_told_9 : decode cX9_told 9 = .ok (.ifCond .eq 12, 3) := by decide +kernel
theorem dX9_told_12 : decode cX9_told 12 = .ok (.aload_n 0, 1) := by decide +kernel
theorem dX9_told_13 : decode cX9_told 13 = .ok (.getfield 16, 3) := by decide +kernel
theorem dX9_told_16 : decode cX9_told 16 = .ok (.iload_n 1, 1) := by decide +kernel
theorem dX9_told_17 : decode cX9_told 17 = .ok (.iaload, 1) := by decide +kernel
theorem dX9_told_18 : decode cX9_told 18 = .ok (.goto 8, 3) := by decide +kernel
theorem dX9_told_21 : decode cX9_told 21 = .ok (.aload_n 0, 1) := by decide +kernel
theorem dX9_told_22 : decode cX9_told 22 = .ok (.iconst 1, 1) := by decide +kernel
theorem dX9_told_23 : decode cX9_told 23 = .ok (.invokevirtual 103, 3) := by decide +kernel
theorem dX9_told_26 : decode cX9_told 26 = .ok (.ireturn, 1) := by decide +kernel
theorem dJ9_floorMod_7cf53_0 : decode cJ9_floorMod_7cf53 0 = .ok (.iload_n 0, 1) := by decide +kernel
theorem dJ9_floorMod_7cf53_1 : decode cJ9_floorMod_7cf53 1 = .ok (.iload_n 1, 1) := by decide +kernel
theorem dJ9_floorMod_7cf53_2 : decode cJ9_floorMod_7cf53 2 = .ok (.irem, 1) := by decide +kernel
theorem dJ9_floorMod_7cf53_3 : decode cJ9_floorMod_7cf53 3 = .ok (.istore_n 2, 1) := by decide +kernel
theorem dJ9_floorMod_7cf53_4 : decode cJ9_floorMod_7cf53 4 = .ok (.iload_n 0, 1) := by decide +kernel
theorem dJ9_floorMod_7cf53_5 : decode cJ9_floorMod_7cf53 5 = .ok (.iload_n 1, 1) := by decide +kernel
theorem dJ9_floorMod_7cf53_6 : decode cJ9_floorMod_7cf53 6 = .ok (.ixor, 1) := by decide +kernel
theorem dJ9_floorMod_7cf53_7 : decode cJ9_floorMod_7cf53 7 = .ok (.ifCond .ge 11, 3) := by decide +kernel
theorem dJ9_floorMod_7cf53_10 : decode cJ9_floorMod_7cf53 10 = .ok (.iload_n 2, 1) := by decide +kernel
theorem dJ9_floorMod_7cf53_11 : decode cJ9_floorMod_7cf53 11 = .ok (.ifCond .eq 7, 3) := by decide +kernel
theorem dJ9_floorMod_7cf53_14 : decode cJ9_floorMod_7cf53 14 = .ok (.iload_n 2, 1) := by decide +kernel
theorem dJ9_floorMod_7cf53_15 : decode cJ9_floorMod_7cf53 15 = .ok (.iload_n 1, 1) := by decide +kernel
theorem dJ9_floorMod_7cf53_16 : decode cJ9_floorMod_7cf53 16 = .ok (.iadd, 1) := by decide +kernel
theorem dJ9_floorMod_7cf53_17 : decode cJ9_floorMod_7cf53 17 = .ok (.ireturn, 1) := by decide +kernel
theorem dJ9_floorMod_7cf53_18 : decode cJ9_floorMod_7cf53 18 = .ok (.iload_n 2, 1) := by decide +kernel
theorem dJ9_floorMod_7cf53_19 : decode cJ9_floorMod_7cf53 19 = .ok (.ireturn, 1) := by decide +kernel
theorem dJ9_abs_0f7a4_0 : decode cJ9_abs_0f7a4 0 = .ok (.iload_n 0, 1) := by decide +kernel
theorem dJ9_abs_0f7a4_1 : decode cJ9_abs_0f7a4 1 = .ok (.ifCond .ge 8, 3) := by decide +kernel
theorem dJ9_abs_0f7a4_4 : decode cJ9_abs_0f7a4 4 = .ok (.iload_n 0, 1) := by decide +kernel
theorem dJ9_abs_0f7a4_5 : decode cJ9_abs_0f7a4 5 = .ok (.ineg, 1) := by decide +kernel
theorem dJ9_abs_0f7a4_6 : decode cJ9_abs_0f7a4 6 = .ok (.goto 4, 3) := by decide +kernel
theorem dJ9_abs_0f7a4_9 : decode cJ9_abs_0f7a4 9 = .ok (.iload_n 0, 1) := by decide +kernel
theorem dJ9_abs_0f7a4_10 : decode cJ9_abs_0f7a4 10 = .ok (.ireturn, 1) := by decide +kernel
theorem dJ9_max_7cf53_0 : decode cJ9_max_7cf53 0 = .ok (.iload_n 0, 1) := by decide +kernel
theorem dJ9_max_7cf53_1 : decode cJ9_max_7cf53 1 = .ok (.iload_n 1, 1) := by decide +kernel
theorem dJ9_max_7cf53_2 : decode cJ9_max_7cf53 2 = .ok (.if_icmp .lt 7, 3) := by decide +kernel
theorem dJ9_max_7cf53_5 : decode cJ9_max_7cf53 5 = .ok (.iload_n 0, 1) := by decide +kernel
theorem dJ9_max_7cf53_6 : decode cJ9_max_7cf53 6 = .ok (.goto 4, 3) := by decide +kernel
theorem dJ9_max_7cf53_9 : decode cJ9_max_7cf53 9 = .ok (.iload_n 1, 1) := by decide +kernel
theorem dJ9_max_7cf53_10 : decode cJ9_max_7cf53 10 = .ok (.ireturn, 1) := by decide +kernel
theorem dJ9_min_7cf53_0 : decode cJ9_min_7cf53 0 = .ok (.iload_n 0, 1) := by decide +kernel
theorem dJ9_min_7cf53_1 : decode cJ9_min_7cf53 1 = .ok (.iload_n 1, 1) := by decide +kernel
theorem dJ9_min_7cf53_2 : decode cJ9_min_7cf53 2 = .ok (.if_icmp .gt 7, 3) := by decide +kernel
theorem dJ9_min_7cf53_5 : decode cJ9_min_7cf53 5 = .ok (.iload_n 0, 1) := by decide +kernel
theorem dJ9_min_7cf53_6 : decode cJ9_min_7cf53 6 = .ok (.goto 4, 3) := by decide +kernel
theorem dJ9_min_7cf53_9 : decode cJ9_min_7cf53 9 = .ok (.iload_n 1, 1) := by decide +kernel
theorem dJ9_min_7cf53_10 : decode cJ9_min_7cf53 10 = .ok (.ireturn, 1) := by decide +kernel
theorem dL_law_0 : decode cL_law 0 = .ok (.new 7, 3) := by decide +kernel
theorem dL_law_3 : decode cL_law 3 = .ok (.dup, 1) := by decide +kernel
theorem dL_law_4 : decode cL_law 4 = .ok (.invokespecial 9, 3) := by decide +kernel
theorem dL_law_7 : decode cL_law 7 = .ok (.astore_n 1, 1) := by decide +kernel
theorem dL_law_8 : decode cL_law 8 = .ok (.new 10, 3) := by decide +kernel
theorem dL_law_11 : decode cL_law 11 = .ok (.dup, 1) := by decide +kernel
theorem dL_law_12 : decode cL_law 12 = .ok (.invokespecial 12, 3) := by decide +kernel
theorem dL_law_15 : decode cL_law 15 = .ok (.astore_n 2, 1) := by decide +kernel
theorem dL_law_16 : decode cL_law 16 = .ok (.iconst 0, 1) := by decide +kernel
theorem dL_law_17 : decode cL_law 17 = .ok (.istore_n 3, 1) := by decide +kernel
theorem dL_law_18 : decode cL_law 18 = .ok (.iload_n 3, 1) := by decide +kernel
theorem dL_law_19 : decode cL_law 19 = .ok (.aload_n 0, 1) := by decide +kernel
theorem dL_law_20 : decode cL_law 20 = .ok (.arraylength, 1) := by decide +kernel
theorem dL_law_21 : decode cL_law 21 = .ok (.bipush 6, 2) := by decide +kernel
theorem dL_law_23 : decode cL_law 23 = .ok (.isub, 1) := by decide +kernel
theorem dL_law_24 : decode cL_law 24 = .ok (.if_icmp .gt 1531, 3) := by decide +kernel
theorem dL_law_27 : decode cL_law 27 = .ok (.aload_n 0, 1) := by decide +kernel
theorem dL_law_28 : decode cL_law 28 = .ok (.iload_n 3, 1) := by decide +kernel
theorem dL_law_29 : decode cL_law 29 = .ok (.iaload, 1) := by decide +kernel
theorem dL_law_30 : decode cL_law 30 = .ok (.bipush 63, 2) := by decide +kernel
theorem dL_law_32 : decode cL_law 32 = .ok (.iand, 1) := by decide +kernel
theorem dL_law_33 : decode cL_law 33 = .ok (.tableswitch 1516 0 39 #[175, 218, 251, 284, 307, 340, 373, 406, 439, 502, 525, 578, 601, 624, 647, 660, 703, 746, 779, 822, 855, 888, 941, 1005, 1048, 1091, 1124, 1147, 1190, 1213, 1256, 1299, 1362, 1385, 1408, 1421, 1434, 1457, 1470, 1493], 175) := by decide +kernel
theorem dL_law_208 : decode cL_law 208 = .ok (.aload_n 1, 1) := by decide +kernel
theorem dL_law_209 : decode cL_law 209 = .ok (.aload_n 0, 1) := by decide +kernel
theorem dL_law_210 : decode cL_law 210 = .ok (.iload_n 3, 1) := by decide +kernel
theorem dL_law_211 : decode cL_law 211 = .ok (.iconst 1, 1) := by decide +kernel
theorem dL_law_212 : decode cL_law 212 = .ok (.iadd, 1) := by decide +kernel
theorem dL_law_213 : decode cL_law 213 = .ok (.iaload, 1) := by decide +kernel
theorem dL_law_214 : decode cL_law 214 = .ok (.aload_n 0, 1) := by decide +kernel
theorem dL_law_215 : decode cL_law 215 = .ok (.iload_n 3, 1) := by decide +kernel
theorem dL_law_216 : decode cL_law 216 = .ok (.iconst 2, 1) := by decide +kernel
theorem dL_law_217 : decode cL_law 217 = .ok (.iadd, 1) := by decide +kernel
theorem dL_law_218 : decode cL_law 218 = .ok (.iaload, 1) := by decide +kernel
theorem dL_law_219 : decode cL_law 219 = .ok (.aload_n 0, 1) := by decide +kernel
theorem dL_law_220 : decode cL_law 220 = .ok (.iload_n 3, 1) := by decide +kernel
theorem dL_law_221 : decode cL_law 221 = .ok (.iconst 3, 1) := by decide +kernel
theorem dL_law_222 : decode cL_law 222 = .ok (.iadd, 1) := by decide +kernel
theorem dL_law_223 : decode cL_law 223 = .ok (.iaload, 1) := by decide +kernel
theorem dL_law_224 : decode cL_law 224 = .ok (.invokevirtual 13, 3) := by decide +kernel
theorem dL_law_227 : decode cL_law 227 = .ok (.aload_n 2, 1) := by decide +kernel
theorem dL_law_228 : decode cL_law 228 = .ok (.aload_n 0, 1) := by decide +kernel
theorem dL_law_229 : decode cL_law 229 = .ok (.iload_n 3, 1) := by decide +kernel
theorem dL_law_230 : decode cL_law 230 = .ok (.iconst 1, 1) := by decide +kernel
theorem dL_law_231 : decode cL_law 231 = .ok (.iadd, 1) := by decide +kernel
theorem dL_law_232 : decode cL_law 232 = .ok (.iaload, 1) := by decide +kernel
theorem dL_law_233 : decode cL_law 233 = .ok (.aload_n 0, 1) := by decide +kernel
theorem dL_law_234 : decode cL_law 234 = .ok (.iload_n 3, 1) := by decide +kernel
theorem dL_law_235 : decode cL_law 235 = .ok (.iconst 2, 1) := by decide +kernel
theorem dL_law_236 : decode cL_law 236 = .ok (.iadd, 1) := by decide +kernel
theorem dL_law_237 : decode cL_law 237 = .ok (.iaload, 1) := by decide +kernel
theorem dL_law_238 : decode cL_law 238 = .ok (.aload_n 0, 1) := by decide +kernel
theorem dL_law_239 : decode cL_law 239 = .ok (.iload_n 3, 1) := by decide +kernel
theorem dL_law_240 : decode cL_law 240 = .ok (.iconst 3, 1) := by decide +kernel
theorem dL_law_241 : decode cL_law 241 = .ok (.iadd, 1) := by decide +kernel
theorem dL_law_242 : decode cL_law 242 = .ok (.iaload, 1) := by decide +kernel
theorem dL_law_243 : decode cL_law 243 = .ok (.invokevirtual 17, 3) := by decide +kernel
theorem dL_law_246 : decode cL_law 246 = .ok (.if_icmp .eq 1303, 3) := by decide +kernel
theorem dL_law_249 : decode cL_law 249 = .ok (.iconst 0, 1) := by decide +kernel
theorem dL_law_250 : decode cL_law 250 = .ok (.ireturn, 1) := by decide +kernel
theorem dL_law_251 : decode cL_law 251 = .ok (.aload_n 1, 1) := by decide +kernel
theorem dL_law_252 : decode cL_law 252 = .ok (.aload_n 0, 1) := by decide +kernel
theorem dL_law_253 : decode cL_law 253 = .ok (.iload_n 3, 1) := by decide +kernel
theorem dL_law_254 : decode cL_law 254 = .ok (.iconst 1, 1) := by decide +kernel
theorem dL_law_255 : decode cL_law 255 = .ok (.iadd, 1) := by decide +kernel
theorem dL_law_256 : decode cL_law 256 = .ok (.iaload, 1) := by decide +kernel
theorem dL_law_257 : decode cL_law 257 = .ok (.aload_n 0, 1) := by decide +kernel
theorem dL_law_258 : decode cL_law 258 = .ok (.iload_n 3, 1) := by decide +kernel
theorem dL_law_259 : decode cL_law 259 = .ok (.iconst 2, 1) := by decide +kernel
theorem dL_law_260 : decode cL_law 260 = .ok (.iadd, 1) := by decide +kernel
theorem dL_law_261 : decode cL_law 261 = .ok (.iaload, 1) := by decide +kernel
theorem dL_law_262 : decode cL_law 262 = .ok (.invokevirtual 18, 3) := by decide +kernel
theorem dL_law_265 : decode cL_law 265 = .ok (.aload_n 2, 1) := by decide +kernel
theorem dL_law_266 : decode cL_law 266 = .ok (.aload_n 0, 1) := by decide +kernel
theorem dL_law_267 : decode cL_law 267 = .ok (.iload_n 3, 1) := by decide +kernel
theorem dL_law_268 : decode cL_law 268 = .ok (.iconst 1, 1) := by decide +kernel
theorem dL_law_269 : decode cL_law 269 = .ok (.iadd, 1) := by decide +kernel
theorem dL_law_270 : decode cL_law 270 = .ok (.iaload, 1) := by decide +kernel
theorem dL_law_271 : decode cL_law 271 = .ok (.aload_n 0, 1) := by decide +kernel
theorem dL_law_272 : decode cL_law 272 = .ok (.iload_n 3, 1) := by decide +kernel
theorem dL_law_273 : decode cL_law 273 = .ok (.iconst 2, 1) := by decide +kernel
theorem dL_law_274 : decode cL_law 274 = .ok (.iadd, 1) := by decide +kernel
theorem dL_law_275 : decode cL_law 275 = .ok (.iaload, 1) := by decide +kernel
theorem dL_law_276 : decode cL_law 276 = .ok (.invokevirtual 22, 3) := by decide +kernel
theorem dL_law_279 : decode cL_law 279 = .ok (.if_icmp .eq 1270, 3) := by decide +kernel
theorem dL_law_282 : decode cL_law 282 = .ok (.iconst 0, 1) := by decide +kernel
theorem dL_law_283 : decode cL_law 283 = .ok (.ireturn, 1) := by decide +kernel
theorem dL_law_284 : decode cL_law 284 = .ok (.aload_n 1, 1) := by decide +kernel
theorem dL_law_285 : decode cL_law 285 = .ok (.aload_n 0, 1) := by decide +kernel
theorem dL_law_286 : decode cL_law 286 = .ok (.iload_n 3, 1) := by decide +kernel
theorem dL_law_287 : decode cL_law 287 = .ok (.iconst 1, 1) := by decide +kernel
theorem dL_law_288 : decode cL_law 288 = .ok (.iadd, 1) := by decide +kernel
theorem dL_law_289 : decode cL_law 289 = .ok (.iaload, 1) := by decide +kernel
theorem dL_law_290 : decode cL_law 290 = .ok (.aload_n 0, 1) := by decide +kernel
theorem dL_law_291 : decode cL_law 291 = .ok (.iload_n 3, 1) := by decide +kernel
theorem dL_law_292 : decode cL_law 292 = .ok (.iconst 2, 1) := by decide +kernel
theorem dL_law_293 : decode cL_law 293 = .ok (.iadd, 1) := by decide +kernel
theorem dL_law_294 : decode cL_law 294 = .ok (.iaload, 1) := by decide +kernel
theorem dL_law_295 : decode cL_law 295 = .ok (.invokevirtual 23, 3) := by decide +kernel
theorem dL_law_298 : decode cL_law 298 = .ok (.aload_n 2, 1) := by decide +kernel
theorem dL_law_299 : decode cL_law 299 = .ok (.aload_n 0, 1) := by decide +kernel
theorem dL_law_300 : decode cL_law 300 = .ok (.iload_n 3, 1) := by decide +kernel
theorem dL_law_301 : decode cL_law 301 = .ok (.iconst 1, 1) := by decide +kernel
theorem dL_law_302 : decode cL_law 302 = .ok (.iadd, 1) := by decide +kernel
theorem dL_law_303 : decode cL_law 303 = .ok (.iaload, 1) := by decide +kernel
theorem dL_law_304 : decode cL_law 304 = .ok (.aload_n 0, 1) := by decide +kernel
theorem dL_law_305 : decode cL_law 305 = .ok (.iload_n 3, 1) := by decide +kernel
theorem dL_law_306 : decode cL_law 306 = .ok (.iconst 2, 1) := by decide +kernel
theorem dL_law_307 : decode cL_law 307 = .ok (.iadd, 1) := by decide +kernel
theorem dL_law_308 : decode cL_law 308 = .ok (.iaload, 1) := by decide +kernel
theorem dL_law_309 : decode cL_law 309 = .ok (.invokevirtual 26, 3) := by decide +kernel
theorem dL_law_312 : decode cL_law 312 = .ok (.if_icmp .eq 1237, 3) := by decide +kernel
theorem dL_law_315 : decode cL_law 315 = .ok (.iconst 0, 1) := by decide +kernel
theorem dL_law_316 : decode cL_law 316 = .ok (.ireturn, 1) := by decide +kernel
theorem dL_law_317 : decode cL_law 317 = .ok (.aload_n 1, 1) := by decide +kernel
theorem dL_law_318 : decode cL_law 318 = .ok (.aload_n 0, 1) := by decide +kernel
theorem dL_law_319 : decode cL_law 319 = .ok (.iload_n 3, 1) := by decide +kernel
theorem dL_law_320 : decode cL_law 320 = .ok (.iconst 1, 1) := by decide +kernel
theorem dL_law_321 : decode cL_law 321 = .ok (.iadd, 1) := by decide +kernel
theorem dL_law_322 : decode cL_law 322 = .ok (.iaload, 1) := by decide +kernel
theorem dL_law_323 : decode cL_law 323 = .ok (.invokevirtual 27, 3) := by decide +kernel
theorem dL_law_326 : decode cL_law 326 = .ok (.aload_n 2, 1) := by decide +kernel
theorem dL_law_327 : decode cL_law 327 = .ok (.aload_n 0, 1) := by decide +kernel
theorem dL_law_328 : decode cL_law 328 = .ok (.iload_n 3, 1) := by decide +kernel
theorem dL_law_329 : decode cL_law 329 = .ok (.iconst 1, 1) := by decide +kernel
theorem dL_law_330 : decode cL_law 330 = .ok (.iadd, 1) := by decide +kernel
theorem dL_law_331 : decode cL_law 331 = .ok (.iaload, 1) := by decide +kernel
theorem dL_law_332 : decode cL_law 332 = .ok (.invokevirtual 31, 3) := by decide +kernel
theorem dL_law_335 : decode cL_law 335 = .ok (.if_icmp .eq 1214, 3) := by decide +kernel
theorem dL_law_338 : decode cL_law 338 = .ok (.iconst 0, 1) := by decide +kernel
theorem dL_law_339 : decode cL_law 339 = .ok (.ireturn, 1) := by decide +kernel
theorem dL_law_340 : decode cL_law 340 = .ok (.aload_n 1, 1) := by decide +kernel
theorem dL_law_341 : decode cL_law 341 = .ok (.aload_n 0, 1) := by decide +kernel
theorem dL_law_342 : decode cL_law 342 = .ok (.iload_n 3, 1) := by decide +kernel
theorem dL_law_343 : decode cL_law 343 = .ok (.iconst 1, 1) := by decide +kernel
theorem dL_law_344 : decode cL_law 344 = .ok (.iadd, 1) := by decide +kernel
theorem dL_law_345 : decode cL_law 345 = .ok (.iaload, 1) := by decide +kernel
theorem dL_law_346 : decode cL_law 346 = .ok (.aload_n 0, 1) := by decide +kernel
theorem dL_law_347 : decode cL_law 347 = .ok (.iload_n 3, 1) := by decide +kernel
theorem dL_law_348 : decode cL_law 348 = .ok (.iconst 2, 1) := by decide +kernel
theorem dL_law_349 : decode cL_law 349 = .ok (.iadd, 1) := by decide +kernel
theorem dL_law_350 : decode cL_law 350 = .ok (.iaload, 1) := by decide +kernel
theorem dL_law_351 : decode cL_law 351 = .ok (.invokevirtual 32, 3) := by decide +kernel
theorem dL_law_354 : decode cL_law 354 = .ok (.aload_n 2, 1) := by decide +kernel
theorem dL_law_355 : decode cL_law 355 = .ok (.aload_n 0, 1) := by decide +kernel
theorem dL_law_356 : decode cL_law 356 = .ok (.iload_n 3, 1) := by decide +kernel
theorem dL_law_357 : decode cL_law 357 = .ok (.iconst 1, 1) := by decide +kernel
theorem dL_law_358 : decode cL_law 358 = .ok (.iadd, 1) := by decide +kernel
theorem dL_law_359 : decode cL_law 359 = .ok (.iaload, 1) := by decide +kernel
theorem dL_law_360 : decode cL_law 360 = .ok (.aload_n 0, 1) := by decide +kernel
theorem dL_law_361 : decode cL_law 361 = .ok (.iload_n 3, 1) := by decide +kernel
theorem dL_law_362 : decode cL_law 362 = .ok (.iconst 2, 1) := by decide +kernel
theorem dL_law_363 : decode cL_law 363 = .ok (.iadd, 1) := by decide +kernel
theorem dL_law_364 : decode cL_law 364 = .ok (.iaload, 1) := by decide +kernel
theorem dL_law_365 : decode cL_law 365 = .ok (.invokevirtual 35, 3) := by decide +kernel
theorem dL_law_368 : decode cL_law 368 = .ok (.if_icmp .eq 1181, 3) := by decide +kernel
theorem dL_law_371 : decode cL_law 371 = .ok (.iconst 0, 1) := by decide +kernel
theorem dL_law_372 : decode cL_law 372 = .ok (.ireturn, 1) := by decide +kernel
theorem dL_law_373 : decode cL_law 373 = .ok (.aload_n 1, 1) := by decide +kernel
theorem dL_law_374 : decode cL_law 374 = .ok (.aload_n 0, 1) := by decide +kernel
theorem dL_law_375 : decode cL_law 375 = .ok (.iload_n 3, 1) := by decide +kernel
theorem dL_law_376 : decode cL_law 376 = .ok (.iconst 1, 1) := by decide +kernel
theorem dL_law_377 : decode cL_law 377 = .ok (.iadd, 1) := by decide +kernel
theorem dL_law_378 : decode cL_law 378 = .ok (.iaload, 1) := by decide +kernel
theorem dL_law_379 : decode cL_law 379 = .ok (.aload_n 0, 1) := by decide +kernel
theorem dL_law_380 : decode cL_law 380 = .ok (.iload_n 3, 1) := by decide +kernel
theorem dL_law_381 : decode cL_law 381 = .ok (.iconst 2, 1) := by decide +kernel
theorem dL_law_382 : decode cL_law 382 = .ok (.iadd, 1) := by decide +kernel
theorem dL_law_383 : decode cL_law 383 = .ok (.iaload, 1) := by decide +kernel
theorem dL_law_384 : decode cL_law 384 = .ok (.invokevirtual 36, 3) := by decide +kernel
theorem dL_law_387 : decode cL_law 387 = .ok (.aload_n 2, 1) := by decide +kernel
theorem dL_law_388 : decode cL_law 388 = .ok (.aload_n 0, 1) := by decide +kernel
theorem dL_law_389 : decode cL_law 389 = .ok (.iload_n 3, 1) := by decide +kernel
theorem dL_law_390 : decode cL_law 390 = .ok (.iconst 1, 1) := by decide +kernel
theorem dL_law_391 : decode cL_law 391 = .ok (.iadd, 1) := by decide +kernel
theorem dL_law_392 : decode cL_law 392 = .ok (.iaload, 1) := by decide +kernel
theorem dL_law_393 : decode cL_law 393 = .ok (.aload_n 0, 1) := by decide +kernel
theorem dL_law_394 : decode cL_law 394 = .ok (.iload_n 3, 1) := by decide +kernel
theorem dL_law_395 : decode cL_law 395 = .ok (.iconst 2, 1) := by decide +kernel
theorem dL_law_396 : decode cL_law 396 = .ok (.iadd, 1) := by decide +kernel
theorem dL_law_397 : decode cL_law 397 = .ok (.iaload, 1) := by decide +kernel
theorem dL_law_398 : decode cL_law 398 = .ok (.invokevirtual 39, 3) := by decide +kernel
theorem dL_law_401 : decode cL_law 401 = .ok (.if_icmp .eq 1148, 3) := by decide +kernel
theorem dL_law_404 : decode cL_law 404 = .ok (.iconst 0, 1) := by decide +kernel
theorem dL_law_405 : decode cL_law 405 = .ok (.ireturn, 1) := by decide +kernel
theorem dL_law_406 : decode cL_law 406 = .ok (.aload_n 1, 1) := by decide +kernel
theorem dL_law_407 : decode cL_law 407 = .ok (.aload_n 0, 1) := by decide +kernel
theorem dL_law_408 : decode cL_law 408 = .ok (.iload_n 3, 1) := by decide +kernel
theorem dL_law_409 : decode cL_law 409 = .ok (.iconst 1, 1) := by decide +kernel
theorem dL_law_410 : decode cL_law 410 = .ok (.iadd, 1) := by decide +kernel
theorem dL_law_411 : decode cL_law 411 = .ok (.iaload, 1) := by decide +kernel
theorem dL_law_412 : decode cL_law 412 = .ok (.aload_n 0, 1) := by decide +kernel
theorem dL_law_413 : decode cL_law 413 = .ok (.iload_n 3, 1) := by decide +kernel
theorem dL_law_414 : decode cL_law 414 = .ok (.iconst 2, 1) := by decide +kernel
theorem dL_law_415 : decode cL_law 415 = .ok (.iadd, 1) := by decide +kernel
theorem dL_law_416 : decode cL_law 416 = .ok (.iaload, 1) := by decide +kernel
theorem dL_law_417 : decode cL_law 417 = .ok (.invokevirtual 40, 3) := by decide +kernel
theorem dL_law_420 : decode cL_law 420 = .ok (.aload_n 2, 1) := by decide +kernel
theorem dL_law_421 : decode cL_law 421 = .ok (.aload_n 0, 1) := by decide +kernel
theorem dL_law_422 : decode cL_law 422 = .ok (.iload_n 3, 1) := by decide +kernel
theorem dL_law_423 : decode cL_law 423 = .ok (.iconst 1, 1) := by decide +kernel
theorem dL_law_424 : decode cL_law 424 = .ok (.iadd, 1) := by decide +kernel
theorem dL_law_425 : decode cL_law 425 = .ok (.iaload, 1) := by decide +kernel
theorem dL_law_426 : decode cL_law 426 = .ok (.aload_n 0, 1) := by decide +kernel
theorem dL_law_427 : decode cL_law 427 = .ok (.iload_n 3, 1) := by decide +kernel
theorem dL_law_428 : decode cL_law 428 = .ok (.iconst 2, 1) := by decide +kernel
theorem dL_law_429 : decode cL_law 429 = .ok (.iadd, 1) := by decide +kernel
theorem dL_law_430 : decode cL_law 430 = .ok (.iaload, 1) := by decide +kernel
theorem dL_law_431 : decode cL_law 431 = .ok (.invokevirtual 43, 3) := by decide +kernel
theorem dL_law_434 : decode cL_law 434 = .ok (.if_icmp .eq 1115, 3) := by decide +kernel
theorem dL_law_437 : decode cL_law 437 = .ok (.iconst 0, 1) := by decide +kernel
theorem dL_law_438 : decode cL_law 438 = .ok (.ireturn, 1) := by decide +kernel
theorem dL_law_439 : decode cL_law 439 = .ok (.aload_n 1, 1) := by decide +kernel
theorem dL_law_440 : decode cL_law 440 = .ok (.aload_n 0, 1) := by decide +kernel
theorem dL_law_441 : decode cL_law 441 = .ok (.iload_n 3, 1) := by decide +kernel
theorem dL_law_442 : decode cL_law 442 = .ok (.iconst 1, 1) := by decide +kernel
theorem dL_law_443 : decode cL_law 443 = .ok (.iadd, 1) := by decide +kernel
theorem dL_law_444 : decode cL_law 444 = .ok (.iaload, 1) := by decide +kernel
theorem dL_law_445 : decode cL_law 445 = .ok (.aload_n 0, 1) := by decide +kernel
theorem dL_law_446 : decode cL_law 446 = .ok (.iload_n 3, 1) := by decide +kernel
theorem dL_law_447 : decode cL_law 447 = .ok (.iconst 2, 1) := by decide +kernel
theorem dL_law_448 : decode cL_law 448 = .ok (.iadd, 1) := by decide +kernel
theorem dL_law_449 : decode cL_law 449 = .ok (.iaload, 1) := by decide +kernel
theorem dL_law_450 : decode cL_law 450 = .ok (.invokevirtual 44, 3) := by decide +kernel
theorem dL_law_453 : decode cL_law 453 = .ok (.aload_n 2, 1) := by decide +kernel
theorem dL_law_454 : decode cL_law 454 = .ok (.aload_n 0, 1) := by decide +kernel
theorem dL_law_455 : decode cL_law 455 = .ok (.iload_n 3, 1) := by decide +kernel
theorem dL_law_456 : decode cL_law 456 = .ok (.iconst 1, 1) := by decide +kernel
theorem dL_law_457 : decode cL_law 457 = .ok (.iadd, 1) := by decide +kernel
theorem dL_law_458 : decode cL_law 458 = .ok (.iaload, 1) := by decide +kernel
theorem dL_law_459 : decode cL_law 459 = .ok (.aload_n 0, 1) := by decide +kernel
theorem dL_law_460 : decode cL_law 460 = .ok (.iload_n 3, 1) := by decide +kernel
theorem dL_law_461 : decode cL_law 461 = .ok (.iconst 2, 1) := by decide +kernel
theorem dL_law_462 : decode cL_law 462 = .ok (.iadd, 1) := by decide +kernel
theorem dL_law_463 : decode cL_law 463 = .ok (.iaload, 1) := by decide +kernel
theorem dL_law_464 : decode cL_law 464 = .ok (.invokevirtual 47, 3) := by decide +kernel
theorem dL_law_467 : decode cL_law 467 = .ok (.if_icmp .eq 1082, 3) := by decide +kernel
theorem dL_law_470 : decode cL_law 470 = .ok (.iconst 0, 1) := by decide +kernel
theorem dL_law_471 : decode cL_law 471 = .ok (.ireturn, 1) := by decide +kernel
theorem dL_law_472 : decode cL_law 472 = .ok (.aload_n 1, 1) := by decide +kernel
theorem dL_law_473 : decode cL_law 473 = .ok (.aload_n 0, 1) := by decide +kernel
theorem dL_law_474 : decode cL_law 474 = .ok (.iload_n 3, 1) := by decide +kernel
theorem dL_law_475 : decode cL_law 475 = .ok (.iconst 1, 1) := by decide +kernel
theorem dL_law_476 : decode cL_law 476 = .ok (.iadd, 1) := by decide +kernel
theorem dL_law_477 : decode cL_law 477 = .ok (.iaload, 1) := by decide +kernel
theorem dL_law_478 : decode cL_law 478 = .ok (.i2l, 1) := by decide +kernel
theorem dL_law_479 : decode cL_law 479 = .ok (.bipush 32, 2) := by decide +kernel
theorem dL_law_481 : decode cL_law 481 = .ok (.lshl, 1) := by decide +kernel
theorem dL_law_482 : decode cL_law 482 = .ok (.aload_n 0, 1) := by decide +kernel
theorem dL_law_483 : decode cL_law 483 = .ok (.iload_n 3, 1) := by decide +kernel
theorem dL_law_484 : decode cL_law 484 = .ok (.iconst 2, 1) := by decide +kernel
theorem dL_law_485 : decode cL_law 485 = .ok (.iadd, 1) := by decide +kernel
theorem dL_law_486 : decode cL_law 486 = .ok (.iaload, 1) := by decide +kernel
theorem dL_law_487 : decode cL_law 487 = .ok (.i2l, 1) := by decide +kernel
theorem dL_law_488 : decode cL_law 488 = .ok (.ldc2_w 48, 3) := by decide +kernel
theorem dL_law_491 : decode cL_law 491 = .ok (.land, 1) := by decide +kernel
theorem dL_law_492 : decode cL_law 492 = .ok (.lor, 1) := by decide +kernel
theorem dL_law_493 : decode cL_law 493 = .ok (.aload_n 0, 1) := by decide +kernel
theorem dL_law_494 : decode cL_law 494 = .ok (.iload_n 3, 1) := by decide +kernel
theorem dL_law_495 : decode cL_law 495 = .ok (.iconst 3, 1) := by decide +kernel
theorem dL_law_496 : decode cL_law 496 = .ok (.iadd, 1) := by decide +kernel
theorem dL_law_497 : decode cL_law 497 = .ok (.iaload, 1) := by decide +kernel
theorem dL_law_498 : decode cL_law 498 = .ok (.invokevirtual 50, 3) := by decide +kernel
theorem dL_law_501 : decode cL_law 501 = .ok (.aload_n 2, 1) := by decide +kernel
theorem dL_law_502 : decode cL_law 502 = .ok (.aload_n 0, 1) := by decide +kernel
theorem dL_law_503 : decode cL_law 503 = .ok (.iload_n 3, 1) := by decide +kernel
theorem dL_law_504 : decode cL_law 504 = .ok (.iconst 1, 1) := by decide +kernel
theorem dL_law_505 : decode cL_law 505 = .ok (.iadd, 1) := by decide +kernel
theorem dL_law_506 : decode cL_law 506 = .ok (.iaload, 1) := by decide +kernel
theorem dL_law_507 : decode cL_law 507 = .ok (.i2l, 1) := by decide +kernel
theorem dL_law_508 : decode cL_law 508 = .ok (.bipush 32, 2) := by decide +kernel
theorem dL_law_510 : decode cL_law 510 = .ok (.lshl, 1) := by decide +kernel
theorem dL_law_511 : decode cL_law 511 = .ok (.aload_n 0, 1) := by decide +kernel
theorem dL_law_512 : decode cL_law 512 = .ok (.iload_n 3, 1) := by decide +kernel
theorem dL_law_513 : decode cL_law 513 = .ok (.iconst 2, 1) := by decide +kernel
theorem dL_law_514 : decode cL_law 514 = .ok (.iadd, 1) := by decide +kernel
theorem dL_law_515 : decode cL_law 515 = .ok (.iaload, 1) := by decide +kernel
theorem dL_law_516 : decode cL_law 516 = .ok (.i2l, 1) := by decide +kernel
theorem dL_law_517 : decode cL_law 517 = .ok (.ldc2_w 48, 3) := by decide +kernel
theorem dL_law_520 : decode cL_law 520 = .ok (.land, 1) := by decide +kernel
theorem dL_law_521 : decode cL_law 521 = .ok (.lor, 1) := by decide +kernel
theorem dL_law_522 : decode cL_law 522 = .ok (.aload_n 0, 1) := by decide +kernel
theorem dL_law_523 : decode cL_law 523 = .ok (.iload_n 3, 1) := by decide +kernel
theorem dL_law_524 : decode cL_law 524 = .ok (.iconst 3, 1) := by decide +kernel
theorem dL_law_525 : decode cL_law 525 = .ok (.iadd, 1) := by decide +kernel
theorem dL_law_526 : decode cL_law 526 = .ok (.iaload, 1) := by decide +kernel
theorem dL_law_527 : decode cL_law 527 = .ok (.invokevirtual 54, 3) := by decide +kernel
theorem dL_law_530 : decode cL_law 530 = .ok (.if_icmp .eq 1019, 3) := by decide +kernel
theorem dL_law_533 : decode cL_law 533 = .ok (.iconst 0, 1) := by decide +kernel
theorem dL_law_534 : decode cL_law 534 = .ok (.ireturn, 1) := by decide +kernel
theorem dL_law_535 : decode cL_law 535 = .ok (.aload_n 1, 1) := by decide +kernel
theorem dL_law_536 : decode cL_law 536 = .ok (.aload_n 0, 1) := by decide +kernel
theorem dL_law_537 : decode cL_law 537 = .ok (.iload_n 3, 1) := by decide +kernel
theorem dL_law_538 : decode cL_law 538 = .ok (.iconst 1, 1) := by decide +kernel
theorem dL_law_539 : decode cL_law 539 = .ok (.iadd, 1) := by decide +kernel
theorem dL_law_540 : decode cL_law 540 = .ok (.iaload, 1) := by decide +kernel
theorem dL_law_541 : decode cL_law 541 = .ok (.invokevirtual 55, 3) := by decide +kernel
theorem dL_law_544 : decode cL_law 544 = .ok (.aload_n 2, 1) := by decide +kernel
theorem dL_law_545 : decode cL_law 545 = .ok (.aload_n 0, 1) := by decide +kernel
theorem dL_law_546 : decode cL_law 546 = .ok (.iload_n 3, 1) := by decide +kernel
theorem dL_law_547 : decode cL_law 547 = .ok (.iconst 1, 1) := by decide +kernel
theorem dL_law_548 : decode cL_law 548 = .ok (.iadd, 1) := by decide +kernel
theorem dL_law_549 : decode cL_law 549 = .ok (.iaload, 1) := by decide +kernel
theorem dL_law_550 : decode cL_law 550 = .ok (.invokevirtual 58, 3) := by decide +kernel
theorem dL_law_553 : decode cL_law 553 = .ok (.if_icmp .eq 996, 3) := by decide +kernel
theorem dL_law_556 : decode cL_law 556 = .ok (.iconst 0, 1) := by decide +kernel
theorem dL_law_557 : decode cL_law 557 = .ok (.ireturn, 1) := by decide +kernel
theorem dL_law_558 : decode cL_law 558 = .ok (.aload_n 1, 1) := by decide +kernel
theorem dL_law_559 : decode cL_law 559 = .ok (.aload_n 0, 1) := by decide +kernel
theorem dL_law_560 : decode cL_law 560 = .ok (.iload_n 3, 1) := by decide +kernel
theorem dL_law_561 : decode cL_law 561 = .ok (.iconst 1, 1) := by decide +kernel
theorem dL_law_562 : decode cL_law 562 = .ok (.iadd, 1) := by decide +kernel
theorem dL_law_563 : decode cL_law 563 = .ok (.iaload, 1) := by decide +kernel
theorem dL_law_564 : decode cL_law 564 = .ok (.aload_n 0, 1) := by decide +kernel
theorem dL_law_565 : decode cL_law 565 = .ok (.iload_n 3, 1) := by decide +kernel
theorem dL_law_566 : decode cL_law 566 = .ok (.iconst 2, 1) := by decide +kernel
theorem dL_law_567 : decode cL_law 567 = .ok (.iadd, 1) := by decide +kernel
theorem dL_law_568 : decode cL_law 568 = .ok (.iaload, 1) := by decide +kernel
theorem dL_law_569 : decode cL_law 569 = .ok (.aload_n 0, 1) := by decide +kernel
theorem dL_law_570 : decode cL_law 570 = .ok (.iload_n 3, 1) := by decide +kernel
theorem dL_law_571 : decode cL_law 571 = .ok (.iconst 3, 1) := by decide +kernel
theorem dL_law_572 : decode cL_law 572 = .ok (.iadd, 1) := by decide +kernel
theorem dL_law_573 : decode cL_law 573 = .ok (.iaload, 1) := by decide +kernel
theorem dL_law_574 : decode cL_law 574 = .ok (.aload_n 0, 1) := by decide +kernel
theorem dL_law_575 : decode cL_law 575 = .ok (.iload_n 3, 1) := by decide +kernel
theorem dL_law_576 : decode cL_law 576 = .ok (.iconst 4, 1) := by decide +kernel
theorem dL_law_577 : decode cL_law 577 = .ok (.iadd, 1) := by decide +kernel
theorem dL_law_578 : decode cL_law 578 = .ok (.iaload, 1) := by decide +kernel
theorem dL_law_579 : decode cL_law 579 = .ok (.invokevirtual 59, 3) := by decide +kernel
theorem dL_law_582 : decode cL_law 582 = .ok (.aload_n 2, 1) := by decide +kernel
theorem dL_law_583 : decode cL_law 583 = .ok (.aload_n 0, 1) := by decide +kernel
theorem dL_law_584 : decode cL_law 584 = .ok (.iload_n 3, 1) := by decide +kernel
theorem dL_law_585 : decode cL_law 585 = .ok (.iconst 1, 1) := by decide +kernel
theorem dL_law_586 : decode cL_law 586 = .ok (.iadd, 1) := by decide +kernel
theorem dL_law_587 : decode cL_law 587 = .ok (.iaload, 1) := by decide +kernel
theorem dL_law_588 : decode cL_law 588 = .ok (.aload_n 0, 1) := by decide +kernel
theorem dL_law_589 : decode cL_law 589 = .ok (.iload_n 3, 1) := by decide +kernel
theorem dL_law_590 : decode cL_law 590 = .ok (.iconst 2, 1) := by decide +kernel
theorem dL_law_591 : decode cL_law 591 = .ok (.iadd, 1) := by decide +kernel
theorem dL_law_592 : decode cL_law 592 = .ok (.iaload, 1) := by decide +kernel
theorem dL_law_593 : decode cL_law 593 = .ok (.aload_n 0, 1) := by decide +kernel
theorem dL_law_594 : decode cL_law 594 = .ok (.iload_n 3, 1) := by decide +kernel
theorem dL_law_595 : decode cL_law 595 = .ok (.iconst 3, 1) := by decide +kernel
theorem dL_law_596 : decode cL_law 596 = .ok (.iadd, 1) := by decide +kernel
theorem dL_law_597 : decode cL_law 597 = .ok (.iaload, 1) := by decide +kernel
theorem dL_law_598 : decode cL_law 598 = .ok (.aload_n 0, 1) := by decide +kernel
theorem dL_law_599 : decode cL_law 599 = .ok (.iload_n 3, 1) := by decide +kernel
theorem dL_law_600 : decode cL_law 600 = .ok (.iconst 4, 1) := by decide +kernel
theorem dL_law_601 : decode cL_law 601 = .ok (.iadd, 1) := by decide +kernel
theorem dL_law_602 : decode cL_law 602 = .ok (.iaload, 1) := by decide +kernel
theorem dL_law_603 : decode cL_law 603 = .ok (.invokevirtual 63, 3) := by decide +kernel
theorem dL_law_606 : decode cL_law 606 = .ok (.if_icmp .eq 943, 3) := by decide +kernel
theorem dL_law_609 : decode cL_law 609 = .ok (.iconst 0, 1) := by decide +kernel
theorem dL_law_610 : decode cL_law 610 = .ok (.ireturn, 1) := by decide +kernel
theorem dL_law_611 : decode cL_law 611 = .ok (.aload_n 1, 1) := by decide +kernel
theorem dL_law_612 : decode cL_law 612 = .ok (.aload_n 0, 1) := by decide +kernel
theorem dL_law_613 : decode cL_law 613 = .ok (.iload_n 3, 1) := by decide +kernel
theorem dL_law_614 : decode cL_law 614 = .ok (.iconst 1, 1) := by decide +kernel
theorem dL_law_615 : decode cL_law 615 = .ok (.iadd, 1) := by decide +kernel
theorem dL_law_616 : decode cL_law 616 = .ok (.iaload, 1) := by decide +kernel
theorem dL_law_617 : decode cL_law 617 = .ok (.invokevirtual 64, 3) := by decide +kernel
theorem dL_law_620 : decode cL_law 620 = .ok (.aload_n 2, 1) := by decide +kernel
theorem dL_law_621 : decode cL_law 621 = .ok (.aload_n 0, 1) := by decide +kernel
theorem dL_law_622 : decode cL_law 622 = .ok (.iload_n 3, 1) := by decide +kernel
theorem dL_law_623 : decode cL_law 623 = .ok (.iconst 1, 1) := by decide +kernel
theorem dL_law_624 : decode cL_law 624 = .ok (.iadd, 1) := by decide +kernel
theorem dL_law_625 : decode cL_law 625 = .ok (.iaload, 1) := by decide +kernel
theorem dL_law_626 : decode cL_law 626 = .ok (.invokevirtual 67, 3) := by decide +kernel
theorem dL_law_629 : decode cL_law 629 = .ok (.if_icmp .eq 920, 3) := by decide +kernel
theorem dL_law_632 : decode cL_law 632 = .ok (.iconst 0, 1) := by decide +kernel
theorem dL_law_633 : decode cL_law 633 = .ok (.ireturn, 1) := by decide +kernel
theorem dL_law_634 : decode cL_law 634 = .ok (.aload_n 1, 1) := by decide +kernel
theorem dL_law_635 : decode cL_law 635 = .ok (.aload_n 0, 1) := by decide +kernel
theorem dL_law_636 : decode cL_law 636 = .ok (.iload_n 3, 1) := by decide +kernel
theorem dL_law_637 : decode cL_law 637 = .ok (.iconst 1, 1) := by decide +kernel
theorem dL_law_638 : decode cL_law 638 = .ok (.iadd, 1) := by decide +kernel
theorem dL_law_639 : decode cL_law 639 = .ok (.iaload, 1) := by decide +kernel
theorem dL_law_640 : decode cL_law 640 = .ok (.invokevirtual 68, 3) := by decide +kernel
theorem dL_law_643 : decode cL_law 643 = .ok (.aload_n 2, 1) := by decide +kernel
theorem dL_law_644 : decode cL_law 644 = .ok (.aload_n 0, 1) := by decide +kernel
theorem dL_law_645 : decode cL_law 645 = .ok (.iload_n 3, 1) := by decide +kernel
theorem dL_law_646 : decode cL_law 646 = .ok (.iconst 1, 1) := by decide +kernel
theorem dL_law_647 : decode cL_law 647 = .ok (.iadd, 1) := by decide +kernel
theorem dL_law_648 : decode cL_law 648 = .ok (.iaload, 1) := by decide +kernel
theorem dL_law_649 : decode cL_law 649 = .ok (.invokevirtual 71, 3) := by decide +kernel
theorem dL_law_652 : decode cL_law 652 = .ok (.if_icmp .eq 897, 3) := by decide +kernel
theorem dL_law_655 : decode cL_law 655 = .ok (.iconst 0, 1) := by decide +kernel
theorem dL_law_656 : decode cL_law 656 = .ok (.ireturn, 1) := by decide +kernel
theorem dL_law_657 : decode cL_law 657 = .ok (.aload_n 1, 1) := by decide +kernel
theorem dL_law_658 : decode cL_law 658 = .ok (.aload_n 0, 1) := by decide +kernel
theorem dL_law_659 : decode cL_law 659 = .ok (.iload_n 3, 1) := by decide +kernel
theorem dL_law_660 : decode cL_law 660 = .ok (.iconst 1, 1) := by decide +kernel
theorem dL_law_661 : decode cL_law 661 = .ok (.iadd, 1) := by decide +kernel
theorem dL_law_662 : decode cL_law 662 = .ok (.iaload, 1) := by decide +kernel
theorem dL_law_663 : decode cL_law 663 = .ok (.invokevirtual 72, 3) := by decide +kernel
theorem dL_law_666 : decode cL_law 666 = .ok (.aload_n 2, 1) := by decide +kernel
theorem dL_law_667 : decode cL_law 667 = .ok (.aload_n 0, 1) := by decide +kernel
theorem dL_law_668 : decode cL_law 668 = .ok (.iload_n 3, 1) := by decide +kernel
theorem dL_law_669 : decode cL_law 669 = .ok (.iconst 1, 1) := by decide +kernel
theorem dL_law_670 : decode cL_law 670 = .ok (.iadd, 1) := by decide +kernel
theorem dL_law_671 : decode cL_law 671 = .ok (.iaload, 1) := by decide +kernel
theorem dL_law_672 : decode cL_law 672 = .ok (.invokevirtual 75, 3) := by decide +kernel
theorem dL_law_675 : decode cL_law 675 = .ok (.if_icmp .eq 874, 3) := by decide +kernel
theorem dL_law_678 : decode cL_law 678 = .ok (.iconst 0, 1) := by decide +kernel
theorem dL_law_679 : decode cL_law 679 = .ok (.ireturn, 1) := by decide +kernel
theorem dL_law_680 : decode cL_law 680 = .ok (.aload_n 1, 1) := by decide +kernel
theorem dL_law_681 : decode cL_law 681 = .ok (.invokevirtual 76, 3) := by decide +kernel
theorem dL_law_684 : decode cL_law 684 = .ok (.aload_n 2, 1) := by decide +kernel
theorem dL_law_685 : decode cL_law 685 = .ok (.invokevirtual 80, 3) := by decide +kernel
theorem dL_law_688 : decode cL_law 688 = .ok (.if_icmp .eq 861, 3) := by decide +kernel
theorem dL_law_691 : decode cL_law 691 = .ok (.iconst 0, 1) := by decide +kernel
theorem dL_law_692 : decode cL_law 692 = .ok (.ireturn, 1) := by decide +kernel
theorem dL_law_693 : decode cL_law 693 = .ok (.aload_n 1, 1) := by decide +kernel
theorem dL_law_694 : decode cL_law 694 = .ok (.aload_n 0, 1) := by decide +kernel
theorem dL_law_695 : decode cL_law 695 = .ok (.iload_n 3, 1) := by decide +kernel
theorem dL_law_696 : decode cL_law 696 = .ok (.iconst 1, 1) := by decide +kernel
theorem dL_law_697 : decode cL_law 697 = .ok (.iadd, 1) := by decide +kernel
theorem dL_law_698 : decode cL_law 698 = .ok (.iaload, 1) := by decide +kernel
theorem dL_law_699 : decode cL_law 699 = .ok (.aload_n 0, 1) := by decide +kernel
theorem dL_law_700 : decode cL_law 700 = .ok (.iload_n 3, 1) := by decide +kernel
theorem dL_law_701 : decode cL_law 701 = .ok (.iconst 2, 1) := by decide +kernel
theorem dL_law_702 : decode cL_law 702 = .ok (.iadd, 1) := by decide +kernel
theorem dL_law_703 : decode cL_law 703 = .ok (.iaload, 1) := by decide +kernel
theorem dL_law_704 : decode cL_law 704 = .ok (.aload_n 0, 1) := by decide +kernel
theorem dL_law_705 : decode cL_law 705 = .ok (.iload_n 3, 1) := by decide +kernel
theorem dL_law_706 : decode cL_law 706 = .ok (.iconst 3, 1) := by decide +kernel
theorem dL_law_707 : decode cL_law 707 = .ok (.iadd, 1) := by decide +kernel
theorem dL_law_708 : decode cL_law 708 = .ok (.iaload, 1) := by decide +kernel
theorem dL_law_709 : decode cL_law 709 = .ok (.invokevirtual 81, 3) := by decide +kernel
theorem dL_law_712 : decode cL_law 712 = .ok (.aload_n 2, 1) := by decide +kernel
theorem dL_law_713 : decode cL_law 713 = .ok (.aload_n 0, 1) := by decide +kernel
theorem dL_law_714 : decode cL_law 714 = .ok (.iload_n 3, 1) := by decide +kernel
theorem dL_law_715 : decode cL_law 715 = .ok (.iconst 1, 1) := by decide +kernel
theorem dL_law_716 : decode cL_law 716 = .ok (.iadd, 1) := by decide +kernel
theorem dL_law_717 : decode cL_law 717 = .ok (.iaload, 1) := by decide +kernel
theorem dL_law_718 : decode cL_law 718 = .ok (.aload_n 0, 1) := by decide +kernel
theorem dL_law_719 : decode cL_law 719 = .ok (.iload_n 3, 1) := by decide +kernel
theorem dL_law_720 : decode cL_law 720 = .ok (.iconst 2, 1) := by decide +kernel
theorem dL_law_721 : decode cL_law 721 = .ok (.iadd, 1) := by decide +kernel
theorem dL_law_722 : decode cL_law 722 = .ok (.iaload, 1) := by decide +kernel
theorem dL_law_723 : decode cL_law 723 = .ok (.aload_n 0, 1) := by decide +kernel
theorem dL_law_724 : decode cL_law 724 = .ok (.iload_n 3, 1) := by decide +kernel
theorem dL_law_725 : decode cL_law 725 = .ok (.iconst 3, 1) := by decide +kernel
theorem dL_law_726 : decode cL_law 726 = .ok (.iadd, 1) := by decide +kernel
theorem dL_law_727 : decode cL_law 727 = .ok (.iaload, 1) := by decide +kernel
theorem dL_law_728 : decode cL_law 728 = .ok (.invokevirtual 84, 3) := by decide +kernel
theorem dL_law_731 : decode cL_law 731 = .ok (.if_icmp .eq 818, 3) := by decide +kernel
theorem dL_law_734 : decode cL_law 734 = .ok (.iconst 0, 1) := by decide +kernel
theorem dL_law_735 : decode cL_law 735 = .ok (.ireturn, 1) := by decide +kernel
theorem dL_law_736 : decode cL_law 736 = .ok (.aload_n 1, 1) := by decide +kernel
theorem dL_law_737 : decode cL_law 737 = .ok (.aload_n 0, 1) := by decide +kernel
theorem dL_law_738 : decode cL_law 738 = .ok (.iload_n 3, 1) := by decide +kernel
theorem dL_law_739 : decode cL_law 739 = .ok (.iconst 1, 1) := by decide +kernel
theorem dL_law_740 : decode cL_law 740 = .ok (.iadd, 1) := by decide +kernel
theorem dL_law_741 : decode cL_law 741 = .ok (.iaload, 1) := by decide +kernel
theorem dL_law_742 : decode cL_law 742 = .ok (.aload_n 0, 1) := by decide +kernel
theorem dL_law_743 : decode cL_law 743 = .ok (.iload_n 3, 1) := by decide +kernel
theorem dL_law_744 : decode cL_law 744 = .ok (.iconst 2, 1) := by decide +kernel
theorem dL_law_745 : decode cL_law 745 = .ok (.iadd, 1) := by decide +kernel
theorem dL_law_746 : decode cL_law 746 = .ok (.iaload, 1) := by decide +kernel
theorem dL_law_747 : decode cL_law 747 = .ok (.aload_n 0, 1) := by decide +kernel
theorem dL_law_748 : decode cL_law 748 = .ok (.iload_n 3, 1) := by decide +kernel
theorem dL_law_749 : decode cL_law 749 = .ok (.iconst 3, 1) := by decide +kernel
theorem dL_law_750 : decode cL_law 750 = .ok (.iadd, 1) := by decide +kernel
theorem dL_law_751 : decode cL_law 751 = .ok (.iaload, 1) := by decide +kernel
theorem dL_law_752 : decode cL_law 752 = .ok (.invokevirtual 85, 3) := by decide +kernel
theorem dL_law_755 : decode cL_law 755 = .ok (.aload_n 2, 1) := by decide +kernel
theorem dL_law_756 : decode cL_law 756 = .ok (.aload_n 0, 1) := by decide +kernel
theorem dL_law_757 : decode cL_law 757 = .ok (.iload_n 3, 1) := by decide +kernel
theorem dL_law_758 : decode cL_law 758 = .ok (.iconst 1, 1) := by decide +kernel
theorem dL_law_759 : decode cL_law 759 = .ok (.iadd, 1) := by decide +kernel
theorem dL_law_760 : decode cL_law 760 = .ok (.iaload, 1) := by decide +kernel
theorem dL_law_761 : decode cL_law 761 = .ok (.aload_n 0, 1) := by decide +kernel
theorem dL_law_762 : decode cL_law 762 = .ok (.iload_n 3, 1) := by decide +kernel
theorem dL_law_763 : decode cL_law 763 = .ok (.iconst 2, 1) := by decide +kernel
theorem dL_law_764 : decode cL_law 764 = .ok (.iadd, 1) := by decide +kernel
theorem dL_law_765 : decode cL_law 765 = .ok (.iaload, 1) := by decide +kernel
theorem dL_law_766 : decode cL_law 766 = .ok (.aload_n 0, 1) := by decide +kernel
theorem dL_law_767 : decode cL_law 767 = .ok (.iload_n 3, 1) := by decide +kernel
theorem dL_law_768 : decode cL_law 768 = .ok (.iconst 3, 1) := by decide +kernel
theorem dL_law_769 : decode cL_law 769 = .ok (.iadd, 1) := by decide +kernel
theorem dL_law_770 : decode cL_law 770 = .ok (.iaload, 1) := by decide +kernel
theorem dL_law_771 : decode cL_law 771 = .ok (.invokevirtual 88, 3) := by decide +kernel
theorem dL_law_774 : decode cL_law 774 = .ok (.if_icmp .eq 775, 3) := by decide +kernel
theorem dL_law_777 : decode cL_law 777 = .ok (.iconst 0, 1) := by decide +kernel
theorem dL_law_778 : decode cL_law 778 = .ok (.ireturn, 1) := by decide +kernel
theorem dL_law_779 : decode cL_law 779 = .ok (.aload_n 1, 1) := by decide +kernel
theorem dL_law_780 : decode cL_law 780 = .ok (.aload_n 0, 1) := by decide +kernel
theorem dL_law_781 : decode cL_law 781 = .ok (.iload_n 3, 1) := by decide +kernel
theorem dL_law_782 : decode cL_law 782 = .ok (.iconst 1, 1) := by decide +kernel
theorem dL_law_783 : decode cL_law 783 = .ok (.iadd, 1) := by decide +kernel
theorem dL_law_784 : decode cL_law 784 = .ok (.iaload, 1) := by decide +kernel
theorem dL_law_785 : decode cL_law 785 = .ok (.aload_n 0, 1) := by decide +kernel
theorem dL_law_786 : decode cL_law 786 = .ok (.iload_n 3, 1) := by decide +kernel
theorem dL_law_787 : decode cL_law 787 = .ok (.iconst 2, 1) := by decide +kernel
theorem dL_law_788 : decode cL_law 788 = .ok (.iadd, 1) := by decide +kernel
theorem dL_law_789 : decode cL_law 789 = .ok (.iaload, 1) := by decide +kernel
theorem dL_law_790 : decode cL_law 790 = .ok (.invokevirtual 89, 3) := by decide +kernel
theorem dL_law_793 : decode cL_law 793 = .ok (.aload_n 2, 1) := by decide +kernel
theorem dL_law_794 : decode cL_law 794 = .ok (.aload_n 0, 1) := by decide +kernel
theorem dL_law_795 : decode cL_law 795 = .ok (.iload_n 3, 1) := by decide +kernel
theorem dL_law_796 : decode cL_law 796 = .ok (.iconst 1, 1) := by decide +kernel
theorem dL_law_797 : decode cL_law 797 = .ok (.iadd, 1) := by decide +kernel
theorem dL_law_798 : decode cL_law 798 = .ok (.iaload, 1) := by decide +kernel
theorem dL_law_799 : decode cL_law 799 = .ok (.aload_n 0, 1) := by decide +kernel
theorem dL_law_800 : decode cL_law 800 = .ok (.iload_n 3, 1) := by decide +kernel
theorem dL_law_801 : decode cL_law 801 = .ok (.iconst 2, 1) := by decide +kernel
theorem dL_law_802 : decode cL_law 802 = .ok (.iadd, 1) := by decide +kernel
theorem dL_law_803 : decode cL_law 803 = .ok (.iaload, 1) := by decide +kernel
theorem dL_law_804 : decode cL_law 804 = .ok (.invokevirtual 92, 3) := by decide +kernel
theorem dL_law_807 : decode cL_law 807 = .ok (.if_icmp .eq 742, 3) := by decide +kernel
theorem dL_law_810 : decode cL_law 810 = .ok (.iconst 0, 1) := by decide +kernel
theorem dL_law_811 : decode cL_law 811 = .ok (.ireturn, 1) := by decide +kernel
theorem dL_law_812 : decode cL_law 812 = .ok (.aload_n 1, 1) := by decide +kernel
theorem dL_law_813 : decode cL_law 813 = .ok (.aload_n 0, 1) := by decide +kernel
theorem dL_law_814 : decode cL_law 814 = .ok (.iload_n 3, 1) := by decide +kernel
theorem dL_law_815 : decode cL_law 815 = .ok (.iconst 1, 1) := by decide +kernel
theorem dL_law_816 : decode cL_law 816 = .ok (.iadd, 1) := by decide +kernel
theorem dL_law_817 : decode cL_law 817 = .ok (.iaload, 1) := by decide +kernel
theorem dL_law_818 : decode cL_law 818 = .ok (.aload_n 0, 1) := by decide +kernel
theorem dL_law_819 : decode cL_law 819 = .ok (.iload_n 3, 1) := by decide +kernel
theorem dL_law_820 : decode cL_law 820 = .ok (.iconst 2, 1) := by decide +kernel
theorem dL_law_821 : decode cL_law 821 = .ok (.iadd, 1) := by decide +kernel
theorem dL_law_822 : decode cL_law 822 = .ok (.iaload, 1) := by decide +kernel
theorem dL_law_823 : decode cL_law 823 = .ok (.aload_n 0, 1) := by decide +kernel
theorem dL_law_824 : decode cL_law 824 = .ok (.iload_n 3, 1) := by decide +kernel
theorem dL_law_825 : decode cL_law 825 = .ok (.iconst 3, 1) := by decide +kernel
theorem dL_law_826 : decode cL_law 826 = .ok (.iadd, 1) := by decide +kernel
theorem dL_law_827 : decode cL_law 827 = .ok (.iaload, 1) := by decide +kernel
theorem dL_law_828 : decode cL_law 828 = .ok (.invokevirtual 93, 3) := by decide +kernel
theorem dL_law_831 : decode cL_law 831 = .ok (.aload_n 2, 1) := by decide +kernel
theorem dL_law_832 : decode cL_law 832 = .ok (.aload_n 0, 1) := by decide +kernel
theorem dL_law_833 : decode cL_law 833 = .ok (.iload_n 3, 1) := by decide +kernel
theorem dL_law_834 : decode cL_law 834 = .ok (.iconst 1, 1) := by decide +kernel
theorem dL_law_835 : decode cL_law 835 = .ok (.iadd, 1) := by decide +kernel
theorem dL_law_836 : decode cL_law 836 = .ok (.iaload, 1) := by decide +kernel
theorem dL_law_837 : decode cL_law 837 = .ok (.aload_n 0, 1) := by decide +kernel
theorem dL_law_838 : decode cL_law 838 = .ok (.iload_n 3, 1) := by decide +kernel
theorem dL_law_839 : decode cL_law 839 = .ok (.iconst 2, 1) := by decide +kernel
theorem dL_law_840 : decode cL_law 840 = .ok (.iadd, 1) := by decide +kernel
theorem dL_law_841 : decode cL_law 841 = .ok (.iaload, 1) := by decide +kernel
theorem dL_law_842 : decode cL_law 842 = .ok (.aload_n 0, 1) := by decide +kernel
theorem dL_law_843 : decode cL_law 843 = .ok (.iload_n 3, 1) := by decide +kernel
theorem dL_law_844 : decode cL_law 844 = .ok (.iconst 3, 1) := by decide +kernel
theorem dL_law_845 : decode cL_law 845 = .ok (.iadd, 1) := by decide +kernel
theorem dL_law_846 : decode cL_law 846 = .ok (.iaload, 1) := by decide +kernel
theorem dL_law_847 : decode cL_law 847 = .ok (.invokevirtual 96, 3) := by decide +kernel
theorem dL_law_850 : decode cL_law 850 = .ok (.if_icmp .eq 699, 3) := by decide +kernel
theorem dL_law_853 : decode cL_law 853 = .ok (.iconst 0, 1) := by decide +kernel
theorem dL_law_854 : decode cL_law 854 = .ok (.ireturn, 1) := by decide +kernel
theorem dL_law_855 : decode cL_law 855 = .ok (.aload_n 1, 1) := by decide +kernel
theorem dL_law_856 : decode cL_law 856 = .ok (.aload_n 0, 1) := by decide +kernel
theorem dL_law_857 : decode cL_law 857 = .ok (.iload_n 3, 1) := by decide +kernel
theorem dL_law_858 : decode cL_law 858 = .ok (.iconst 1, 1) := by decide +kernel
theorem dL_law_859 : decode cL_law 859 = .ok (.iadd, 1) := by decide +kernel
theorem dL_law_860 : decode cL_law 860 = .ok (.iaload, 1) := by decide +kernel
theorem dL_law_861 : decode cL_law 861 = .ok (.aload_n 0, 1) := by decide +kernel
theorem dL_law_862 : decode cL_law 862 = .ok (.iload_n 3, 1) := by decide +kernel
theorem dL_law_863 : decode cL_law 863 = .ok (.iconst 2, 1) := by decide +kernel
theorem dL_law_864 : decode cL_law 864 = .ok (.iadd, 1) := by decide +kernel
theorem dL_law_865 : decode cL_law 865 = .ok (.iaload, 1) := by decide +kernel
theorem dL_law_866 : decode cL_law 866 = .ok (.invokevirtual 97, 3) := by decide +kernel
theorem dL_law_869 : decode cL_law 869 = .ok (.aload_n 2, 1) := by decide +kernel
theorem dL_law_870 : decode cL_law 870 = .ok (.aload_n 0, 1) := by decide +kernel
theorem dL_law_871 : decode cL_law 871 = .ok (.iload_n 3, 1) := by decide +kernel
theorem dL_law_872 : decode cL_law 872 = .ok (.iconst 1, 1) := by decide +kernel
theorem dL_law_873 : decode cL_law 873 = .ok (.iadd, 1) := by decide +kernel
theorem dL_law_874 : decode cL_law 874 = .ok (.iaload, 1) := by decide +kernel
theorem dL_law_875 : decode cL_law 875 = .ok (.aload_n 0, 1) := by decide +kernel
theorem dL_law_876 : decode cL_law 876 = .ok (.iload_n 3, 1) := by decide +kernel
theorem dL_law_877 : decode cL_law 877 = .ok (.iconst 2, 1) := by decide +kernel
theorem dL_law_878 : decode cL_law 878 = .ok (.iadd, 1) := by decide +kernel
theorem dL_law_879 : decode cL_law 879 = .ok (.iaload, 1) := by decide +kernel
theorem dL_law_880 : decode cL_law 880 = .ok (.invokevirtual 100, 3) := by decide +kernel
theorem dL_law_883 : decode cL_law 883 = .ok (.if_icmp .eq 666, 3) := by decide +kernel
theorem dL_law_886 : decode cL_law 886 = .ok (.iconst 0, 1) := by decide +kernel
theorem dL_law_887 : decode cL_law 887 = .ok (.ireturn, 1) := by decide +kernel
theorem dL_law_888 : decode cL_law 888 = .ok (.aload_n 1, 1) := by decide +kernel
theorem dL_law_889 : decode cL_law 889 = .ok (.aload_n 0, 1) := by decide +kernel
theorem dL_law_890 : decode cL_law 890 = .ok (.iload_n 3, 1) := by decide +kernel
theorem dL_law_891 : decode cL_law 891 = .ok (.iconst 1, 1) := by decide +kernel
theorem dL_law_892 : decode cL_law 892 = .ok (.iadd, 1) := by decide +kernel
theorem dL_law_893 : decode cL_law 893 = .ok (.iaload, 1) := by decide +kernel
theorem dL_law_894 : decode cL_law 894 = .ok (.aload_n 0, 1) := by decide +kernel
theorem dL_law_895 : decode cL_law 895 = .ok (.iload_n 3, 1) := by decide +kernel
theorem dL_law_896 : decode cL_law 896 = .ok (.iconst 2, 1) := by decide +kernel
theorem dL_law_897 : decode cL_law 897 = .ok (.iadd, 1) := by decide +kernel
theorem dL_law_898 : decode cL_law 898 = .ok (.iaload, 1) := by decide +kernel
theorem dL_law_899 : decode cL_law 899 = .ok (.invokevirtual 101, 3) := by decide +kernel
theorem dL_law_902 : decode cL_law 902 = .ok (.aload_n 2, 1) := by decide +kernel
theorem dL_law_903 : decode cL_law 903 = .ok (.aload_n 0, 1) := by decide +kernel
theorem dL_law_904 : decode cL_law 904 = .ok (.iload_n 3, 1) := by decide +kernel
theorem dL_law_905 : decode cL_law 905 = .ok (.iconst 1, 1) := by decide +kernel
theorem dL_law_906 : decode cL_law 906 = .ok (.iadd, 1) := by decide +kernel
theorem dL_law_907 : decode cL_law 907 = .ok (.iaload, 1) := by decide +kernel
theorem dL_law_908 : decode cL_law 908 = .ok (.aload_n 0, 1) := by decide +kernel
theorem dL_law_909 : decode cL_law 909 = .ok (.iload_n 3, 1) := by decide +kernel
theorem dL_law_910 : decode cL_law 910 = .ok (.iconst 2, 1) := by decide +kernel
theorem dL_law_911 : decode cL_law 911 = .ok (.iadd, 1) := by decide +kernel
theorem dL_law_912 : decode cL_law 912 = .ok (.iaload, 1) := by decide +kernel
theorem dL_law_913 : decode cL_law 913 = .ok (.invokevirtual 104, 3) := by decide +kernel
theorem dL_law_916 : decode cL_law 916 = .ok (.if_icmp .eq 633, 3) := by decide +kernel
theorem dL_law_919 : decode cL_law 919 = .ok (.iconst 0, 1) := by decide +kernel
theorem dL_law_920 : decode cL_law 920 = .ok (.ireturn, 1) := by decide +kernel
theorem dL_law_921 : decode cL_law 921 = .ok (.aload_n 1, 1) := by decide +kernel
theorem dL_law_922 : decode cL_law 922 = .ok (.aload_n 0, 1) := by decide +kernel
theorem dL_law_923 : decode cL_law 923 = .ok (.iload_n 3, 1) := by decide +kernel
theorem dL_law_924 : decode cL_law 924 = .ok (.iconst 1, 1) := by decide +kernel
theorem dL_law_925 : decode cL_law 925 = .ok (.iadd, 1) := by decide +kernel
theorem dL_law_926 : decode cL_law 926 = .ok (.iaload, 1) := by decide +kernel
theorem dL_law_927 : decode cL_law 927 = .ok (.aload_n 0, 1) := by decide +kernel
theorem dL_law_928 : decode cL_law 928 = .ok (.iload_n 3, 1) := by decide +kernel
theorem dL_law_929 : decode cL_law 929 = .ok (.iconst 2, 1) := by decide +kernel
theorem dL_law_930 : decode cL_law 930 = .ok (.iadd, 1) := by decide +kernel
theorem dL_law_931 : decode cL_law 931 = .ok (.iaload, 1) := by decide +kernel
theorem dL_law_932 : decode cL_law 932 = .ok (.aload_n 0, 1) := by decide +kernel
theorem dL_law_933 : decode cL_law 933 = .ok (.iload_n 3, 1) := by decide +kernel
theorem dL_law_934 : decode cL_law 934 = .ok (.iconst 3, 1) := by decide +kernel
theorem dL_law_935 : decode cL_law 935 = .ok (.iadd, 1) := by decide +kernel
theorem dL_law_936 : decode cL_law 936 = .ok (.iaload, 1) := by decide +kernel
theorem dL_law_937 : decode cL_law 937 = .ok (.aload_n 0, 1) := by decide +kernel
theorem dL_law_938 : decode cL_law 938 = .ok (.iload_n 3, 1) := by decide +kernel
theorem dL_law_939 : decode cL_law 939 = .ok (.iconst 4, 1) := by decide +kernel
theorem dL_law_940 : decode cL_law 940 = .ok (.iadd, 1) := by decide +kernel
theorem dL_law_941 : decode cL_law 941 = .ok (.iaload, 1) := by decide +kernel
theorem dL_law_942 : decode cL_law 942 = .ok (.invokevirtual 105, 3) := by decide +kernel
theorem dL_law_945 : decode cL_law 945 = .ok (.aload_n 2, 1) := by decide +kernel
theorem dL_law_946 : decode cL_law 946 = .ok (.aload_n 0, 1) := by decide +kernel
theorem dL_law_947 : decode cL_law 947 = .ok (.iload_n 3, 1) := by decide +kernel
theorem dL_law_948 : decode cL_law 948 = .ok (.iconst 1, 1) := by decide +kernel
theorem dL_law_949 : decode cL_law 949 = .ok (.iadd, 1) := by decide +kernel
theorem dL_law_950 : decode cL_law 950 = .ok (.iaload, 1) := by decide +kernel
theorem dL_law_951 : decode cL_law 951 = .ok (.aload_n 0, 1) := by decide +kernel
theorem dL_law_952 : decode cL_law 952 = .ok (.iload_n 3, 1) := by decide +kernel
theorem dL_law_953 : decode cL_law 953 = .ok (.iconst 2, 1) := by decide +kernel
theorem dL_law_954 : decode cL_law 954 = .ok (.iadd, 1) := by decide +kernel
theorem dL_law_955 : decode cL_law 955 = .ok (.iaload, 1) := by decide +kernel
theorem dL_law_956 : decode cL_law 956 = .ok (.aload_n 0, 1) := by decide +kernel
theorem dL_law_957 : decode cL_law 957 = .ok (.iload_n 3, 1) := by decide +kernel
theorem dL_law_958 : decode cL_law 958 = .ok (.iconst 3, 1) := by decide +kernel
theorem dL_law_959 : decode cL_law 959 = .ok (.iadd, 1) := by decide +kernel
theorem dL_law_960 : decode cL_law 960 = .ok (.iaload, 1) := by decide +kernel
theorem dL_law_961 : decode cL_law 961 = .ok (.aload_n 0, 1) := by decide +kernel
theorem dL_law_962 : decode cL_law 962 = .ok (.iload_n 3, 1) := by decide +kernel
theorem dL_law_963 : decode cL_law 963 = .ok (.iconst 4, 1) := by decide +kernel
theorem dL_law_964 : decode cL_law 964 = .ok (.iadd, 1) := by decide +kernel
theorem dL_law_965 : decode cL_law 965 = .ok (.iaload, 1) := by decide +kernel
theorem dL_law_966 : decode cL_law 966 = .ok (.invokevirtual 108, 3) := by decide +kernel
theorem dL_law_969 : decode cL_law 969 = .ok (.if_icmp .eq 580, 3) := by decide +kernel
theorem dL_law_972 : decode cL_law 972 = .ok (.iconst 0, 1) := by decide +kernel
theorem dL_law_973 : decode cL_law 973 = .ok (.ireturn, 1) := by decide +kernel
theorem dL_law_974 : decode cL_law 974 = .ok (.aload_n 1, 1) := by decide +kernel
theorem dL_law_975 : decode cL_law 975 = .ok (.aload_n 0, 1) := by decide +kernel
theorem dL_law_976 : decode cL_law 976 = .ok (.iload_n 3, 1) := by decide +kernel
theorem dL_law_977 : decode cL_law 977 = .ok (.iconst 1, 1) := by decide +kernel
theorem dL_law_978 : decode cL_law 978 = .ok (.iadd, 1) := by decide +kernel
theorem dL_law_979 : decode cL_law 979 = .ok (.iaload, 1) := by decide +kernel
theorem dL_law_980 : decode cL_law 980 = .ok (.aload_n 0, 1) := by decide +kernel
theorem dL_law_981 : decode cL_law 981 = .ok (.iload_n 3, 1) := by decide +kernel
theorem dL_law_982 : decode cL_law 982 = .ok (.iconst 2, 1) := by decide +kernel
theorem dL_law_983 : decode cL_law 983 = .ok (.iadd, 1) := by decide +kernel
theorem dL_law_984 : decode cL_law 984 = .ok (.iaload, 1) := by decide +kernel
theorem dL_law_985 : decode cL_law 985 = .ok (.aload_n 0, 1) := by decide +kernel
theorem dL_law_986 : decode cL_law 986 = .ok (.iload_n 3, 1) := by decide +kernel
theorem dL_law_987 : decode cL_law 987 = .ok (.iconst 3, 1) := by decide +kernel
theorem dL_law_988 : decode cL_law 988 = .ok (.iadd, 1) := by decide +kernel
theorem dL_law_989 : decode cL_law 989 = .ok (.iaload, 1) := by decide +kernel
theorem dL_law_990 : decode cL_law 990 = .ok (.aload_n 0, 1) := by decide +kernel
theorem dL_law_991 : decode cL_law 991 = .ok (.iload_n 3, 1) := by decide +kernel
theorem dL_law_992 : decode cL_law 992 = .ok (.iconst 4, 1) := by decide +kernel
theorem dL_law_993 : decode cL_law 993 = .ok (.iadd, 1) := by decide +kernel
theorem dL_law_994 : decode cL_law 994 = .ok (.iaload, 1) := by decide +kernel
theorem dL_law_995 : decode cL_law 995 = .ok (.aload_n 0, 1) := by decide +kernel
theorem dL_law_996 : decode cL_law 996 = .ok (.iload_n 3, 1) := by decide +kernel
theorem dL_law_997 : decode cL_law 997 = .ok (.iconst 5, 1) := by decide +kernel
theorem dL_law_998 : decode cL_law 998 = .ok (.iadd, 1) := by decide +kernel
theorem dL_law_999 : decode cL_law 999 = .ok (.iaload, 1) := by decide +kernel
theorem dL_law_1000 : decode cL_law 1000 = .ok (.invokevirtual 109, 3) := by decide +kernel
theorem dL_law_1003 : decode cL_law 1003 = .ok (.aload_n 2, 1) := by decide +kernel
theorem dL_law_1004 : decode cL_law 1004 = .ok (.aload_n 0, 1) := by decide +kernel
theorem dL_law_1005 : decode cL_law 1005 = .ok (.iload_n 3, 1) := by decide +kernel
theorem dL_law_1006 : decode cL_law 1006 = .ok (.iconst 1, 1) := by decide +kernel
theorem dL_law_1007 : decode cL_law 1007 = .ok (.iadd, 1) := by decide +kernel
theorem dL_law_1008 : decode cL_law 1008 = .ok (.iaload, 1) := by decide +kernel
theorem dL_law_1009 : decode cL_law 1009 = .ok (.aload_n 0, 1) := by decide +kernel
theorem dL_law_1010 : decode cL_law 1010 = .ok (.iload_n 3, 1) := by decide +kernel
theorem dL_law_1011 : decode cL_law 1011 = .ok (.iconst 2, 1) := by decide +kernel
theorem dL_law_1012 : decode cL_law 1012 = .ok (.iadd, 1) := by decide +kernel
theorem dL_law_1013 : decode cL_law 1013 = .ok (.iaload, 1) := by decide +kernel
theorem dL_law_1014 : decode cL_law 1014 = .ok (.aload_n 0, 1) := by decide +kernel
theorem dL_law_1015 : decode cL_law 1015 = .ok (.iload_n 3, 1) := by decide +kernel
theorem dL_law_1016 : decode cL_law 1016 = .ok (.iconst 3, 1) := by decide +kernel
theorem dL_law_1017 : decode cL_law 1017 = .ok (.iadd, 1) := by decide +kernel
theorem dL_law_1018 : decode cL_law 1018 = .ok (.iaload, 1) := by decide +kernel
theorem dL_law_1019 : decode cL_law 1019 = .ok (.aload_n 0, 1) := by decide +kernel
theorem dL_law_1020 : decode cL_law 1020 = .ok (.iload_n 3, 1) := by decide +kernel
theorem dL_law_1021 : decode cL_law 1021 = .ok (.iconst 4, 1) := by decide +kernel
theorem dL_law_1022 : decode cL_law 1022 = .ok (.iadd, 1) := by decide +kernel
theorem dL_law_1023 : decode cL_law 1023 = .ok (.iaload, 1) := by decide +kernel
theorem dL_law_1024 : decode cL_law 1024 = .ok (.aload_n 0, 1) := by decide +kernel
theorem dL_law_1025 : decode cL_law 1025 = .ok (.iload_n 3, 1) := by decide +kernel
theorem dL_law_1026 : decode cL_law 1026 = .ok (.iconst 5, 1) := by decide +kernel
theorem dL_law_1027 : decode cL_law 1027 = .ok (.iadd, 1) := by decide +kernel
theorem dL_law_1028 : decode cL_law 1028 = .ok (.iaload, 1) := by decide +kernel
theorem dL_law_1029 : decode cL_law 1029 = .ok (.invokevirtual 113, 3) := by decide +kernel
theorem dL_law_1032 : decode cL_law 1032 = .ok (.lcmp, 1) := by decide +kernel
theorem dL_law_1033 : decode cL_law 1033 = .ok (.ifCond .eq 516, 3) := by decide +kernel
theorem dL_law_1036 : decode cL_law 1036 = .ok (.iconst 0, 1) := by decide +kernel
theorem dL_law_1037 : decode cL_law 1037 = .ok (.ireturn, 1) := by decide +kernel
theorem dL_law_1038 : decode cL_law 1038 = .ok (.aload_n 1, 1) := by decide +kernel
theorem dL_law_1039 : decode cL_law 1039 = .ok (.aload_n 0, 1) := by decide +kernel
theorem dL_law_1040 : decode cL_law 1040 = .ok (.iload_n 3, 1) := by decide +kernel
theorem dL_law_1041 : decode cL_law 1041 = .ok (.iconst 1, 1) := by decide +kernel
theorem dL_law_1042 : decode cL_law 1042 = .ok (.iadd, 1) := by decide +kernel
theorem dL_law_1043 : decode cL_law 1043 = .ok (.iaload, 1) := by decide +kernel
theorem dL_law_1044 : decode cL_law 1044 = .ok (.aload_n 0, 1) := by decide +kernel
theorem dL_law_1045 : decode cL_law 1045 = .ok (.iload_n 3, 1) := by decide +kernel
theorem dL_law_1046 : decode cL_law 1046 = .ok (.iconst 2, 1) := by decide +kernel
theorem dL_law_1047 : decode cL_law 1047 = .ok (.iadd, 1) := by decide +kernel
theorem dL_law_1048 : decode cL_law 1048 = .ok (.iaload, 1) := by decide +kernel
theorem dL_law_1049 : decode cL_law 1049 = .ok (.aload_n 0, 1) := by decide +kernel
theorem dL_law_1050 : decode cL_law 1050 = .ok (.iload_n 3, 1) := by decide +kernel
theorem dL_law_1051 : decode cL_law 1051 = .ok (.iconst 3, 1) := by decide +kernel
theorem dL_law_1052 : decode cL_law 1052 = .ok (.iadd, 1) := by decide +kernel
theorem dL_law_1053 : decode cL_law 1053 = .ok (.iaload, 1) := by decide +kernel
theorem dL_law_1054 : decode cL_law 1054 = .ok (.invokevirtual 114, 3) := by decide +kernel
theorem dL_law_1057 : decode cL_law 1057 = .ok (.aload_n 2, 1) := by decide +kernel
theorem dL_law_1058 : decode cL_law 1058 = .ok (.aload_n 0, 1) := by decide +kernel
theorem dL_law_1059 : decode cL_law 1059 = .ok (.iload_n 3, 1) := by decide +kernel
theorem dL_law_1060 : decode cL_law 1060 = .ok (.iconst 1, 1) := by decide +kernel
theorem dL_law_1061 : decode cL_law 1061 = .ok (.iadd, 1) := by decide +kernel
theorem dL_law_1062 : decode cL_law 1062 = .ok (.iaload, 1) := by decide +kernel
theorem dL_law_1063 : decode cL_law 1063 = .ok (.aload_n 0, 1) := by decide +kernel
theorem dL_law_1064 : decode cL_law 1064 = .ok (.iload_n 3, 1) := by decide +kernel
theorem dL_law_1065 : decode cL_law 1065 = .ok (.iconst 2, 1) := by decide +kernel
theorem dL_law_1066 : decode cL_law 1066 = .ok (.iadd, 1) := by decide +kernel
theorem dL_law_1067 : decode cL_law 1067 = .ok (.iaload, 1) := by decide +kernel
theorem dL_law_1068 : decode cL_law 1068 = .ok (.aload_n 0, 1) := by decide +kernel
theorem dL_law_1069 : decode cL_law 1069 = .ok (.iload_n 3, 1) := by decide +kernel
theorem dL_law_1070 : decode cL_law 1070 = .ok (.iconst 3, 1) := by decide +kernel
theorem dL_law_1071 : decode cL_law 1071 = .ok (.iadd, 1) := by decide +kernel
theorem dL_law_1072 : decode cL_law 1072 = .ok (.iaload, 1) := by decide +kernel
theorem dL_law_1073 : decode cL_law 1073 = .ok (.invokevirtual 117, 3) := by decide +kernel
theorem dL_law_1076 : decode cL_law 1076 = .ok (.if_icmp .eq 473, 3) := by decide +kernel
theorem dL_law_1079 : decode cL_law 1079 = .ok (.iconst 0, 1) := by decide +kernel
theorem dL_law_1080 : decode cL_law 1080 = .ok (.ireturn, 1) := by decide +kernel
theorem dL_law_1081 : decode cL_law 1081 = .ok (.aload_n 1, 1) := by decide +kernel
theorem dL_law_1082 : decode cL_law 1082 = .ok (.aload_n 0, 1) := by decide +kernel
theorem dL_law_1083 : decode cL_law 1083 = .ok (.iload_n 3, 1) := by decide +kernel
theorem dL_law_1084 : decode cL_law 1084 = .ok (.iconst 1, 1) := by decide +kernel
theorem dL_law_1085 : decode cL_law 1085 = .ok (.iadd, 1) := by decide +kernel
theorem dL_law_1086 : decode cL_law 1086 = .ok (.iaload, 1) := by decide +kernel
theorem dL_law_1087 : decode cL_law 1087 = .ok (.aload_n 0, 1) := by decide +kernel
theorem dL_law_1088 : decode cL_law 1088 = .ok (.iload_n 3, 1) := by decide +kernel
theorem dL_law_1089 : decode cL_law 1089 = .ok (.iconst 2, 1) := by decide +kernel
theorem dL_law_1090 : decode cL_law 1090 = .ok (.iadd, 1) := by decide +kernel
theorem dL_law_1091 : decode cL_law 1091 = .ok (.iaload, 1) := by decide +kernel
theorem dL_law_1092 : decode cL_law 1092 = .ok (.aload_n 0, 1) := by decide +kernel
theorem dL_law_1093 : decode cL_law 1093 = .ok (.iload_n 3, 1) := by decide +kernel
theorem dL_law_1094 : decode cL_law 1094 = .ok (.iconst 3, 1) := by decide +kernel
theorem dL_law_1095 : decode cL_law 1095 = .ok (.iadd, 1) := by decide +kernel
theorem dL_law_1096 : decode cL_law 1096 = .ok (.iaload, 1) := by decide +kernel
theorem dL_law_1097 : decode cL_law 1097 = .ok (.invokevirtual 118, 3) := by decide +kernel
theorem dL_law_1100 : decode cL_law 1100 = .ok (.aload_n 2, 1) := by decide +kernel
theorem dL_law_1101 : decode cL_law 1101 = .ok (.aload_n 0, 1) := by decide +kernel
theorem dL_law_1102 : decode cL_law 1102 = .ok (.iload_n 3, 1) := by decide +kernel
theorem dL_law_1103 : decode cL_law 1103 = .ok (.iconst 1, 1) := by decide +kernel
theorem dL_law_1104 : decode cL_law 1104 = .ok (.iadd, 1) := by decide +kernel
theorem dL_law_1105 : decode cL_law 1105 = .ok (.iaload, 1) := by decide +kernel
theorem dL_law_1106 : decode cL_law 1106 = .ok (.aload_n 0, 1) := by decide +kernel
theorem dL_law_1107 : decode cL_law 1107 = .ok (.iload_n 3, 1) := by decide +kernel
theorem dL_law_1108 : decode cL_law 1108 = .ok (.iconst 2, 1) := by decide +kernel
theorem dL_law_1109 : decode cL_law 1109 = .ok (.iadd, 1) := by decide +kernel
theorem dL_law_1110 : decode cL_law 1110 = .ok (.iaload, 1) := by decide +kernel
theorem dL_law_1111 : decode cL_law 1111 = .ok (.aload_n 0, 1) := by decide +kernel
theorem dL_law_1112 : decode cL_law 1112 = .ok (.iload_n 3, 1) := by decide +kernel
theorem dL_law_1113 : decode cL_law 1113 = .ok (.iconst 3, 1) := by decide +kernel
theorem dL_law_1114 : decode cL_law 1114 = .ok (.iadd, 1) := by decide +kernel
theorem dL_law_1115 : decode cL_law 1115 = .ok (.iaload, 1) := by decide +kernel
theorem dL_law_1116 : decode cL_law 1116 = .ok (.invokevirtual 121, 3) := by decide +kernel
theorem dL_law_1119 : decode cL_law 1119 = .ok (.if_icmp .eq 430, 3) := by decide +kernel
theorem dL_law_1122 : decode cL_law 1122 = .ok (.iconst 0, 1) := by decide +kernel
theorem dL_law_1123 : decode cL_law 1123 = .ok (.ireturn, 1) := by decide +kernel
theorem dL_law_1124 : decode cL_law 1124 = .ok (.aload_n 1, 1) := by decide +kernel
theorem dL_law_1125 : decode cL_law 1125 = .ok (.aload_n 0, 1) := by decide +kernel
theorem dL_law_1126 : decode cL_law 1126 = .ok (.iload_n 3, 1) := by decide +kernel
theorem dL_law_1127 : decode cL_law 1127 = .ok (.iconst 1, 1) := by decide +kernel
theorem dL_law_1128 : decode cL_law 1128 = .ok (.iadd, 1) := by decide +kernel
theorem dL_law_1129 : decode cL_law 1129 = .ok (.iaload, 1) := by decide +kernel
theorem dL_law_1130 : decode cL_law 1130 = .ok (.aload_n 0, 1) := by decide +kernel
theorem dL_law_1131 : decode cL_law 1131 = .ok (.iload_n 3, 1) := by decide +kernel
theorem dL_law_1132 : decode cL_law 1132 = .ok (.iconst 2, 1) := by decide +kernel
theorem dL_law_1133 : decode cL_law 1133 = .ok (.iadd, 1) := by decide +kernel
theorem dL_law_1134 : decode cL_law 1134 = .ok (.iaload, 1) := by decide +kernel
theorem dL_law_1135 : decode cL_law 1135 = .ok (.invokevirtual 122, 3) := by decide +kernel
theorem dL_law_1138 : decode cL_law 1138 = .ok (.aload_n 2, 1) := by decide +kernel
theorem dL_law_1139 : decode cL_law 1139 = .ok (.aload_n 0, 1) := by decide +kernel
theorem dL_law_1140 : decode cL_law 1140 = .ok (.iload_n 3, 1) := by decide +kernel
theorem dL_law_1141 : decode cL_law 1141 = .ok (.iconst 1, 1) := by decide +kernel
theorem dL_law_1142 : decode cL_law 1142 = .ok (.iadd, 1) := by decide +kernel
theorem dL_law_1143 : decode cL_law 1143 = .ok (.iaload, 1) := by decide +kernel
theorem dL_law_1144 : decode cL_law 1144 = .ok (.aload_n 0, 1) := by decide +kernel
theorem dL_law_1145 : decode cL_law 1145 = .ok (.iload_n 3, 1) := by decide +kernel
theorem dL_law_1146 : decode cL_law 1146 = .ok (.iconst 2, 1) := by decide +kernel
theorem dL_law_1147 : decode cL_law 1147 = .ok (.iadd, 1) := by decide +kernel
theorem dL_law_1148 : decode cL_law 1148 = .ok (.iaload, 1) := by decide +kernel
theorem dL_law_1149 : decode cL_law 1149 = .ok (.invokevirtual 125, 3) := by decide +kernel
theorem dL_law_1152 : decode cL_law 1152 = .ok (.if_icmp .eq 397, 3) := by decide +kernel
theorem dL_law_1155 : decode cL_law 1155 = .ok (.iconst 0, 1) := by decide +kernel
theorem dL_law_1156 : decode cL_law 1156 = .ok (.ireturn, 1) := by decide +kernel
theorem dL_law_1157 : decode cL_law 1157 = .ok (.aload_n 1, 1) := by decide +kernel
theorem dL_law_1158 : decode cL_law 1158 = .ok (.aload_n 0, 1) := by decide +kernel
theorem dL_law_1159 : decode cL_law 1159 = .ok (.iload_n 3, 1) := by decide +kernel
theorem dL_law_1160 : decode cL_law 1160 = .ok (.iconst 1, 1) := by decide +kernel
theorem dL_law_1161 : decode cL_law 1161 = .ok (.iadd, 1) := by decide +kernel
theorem dL_law_1162 : decode cL_law 1162 = .ok (.iaload, 1) := by decide +kernel
theorem dL_law_1163 : decode cL_law 1163 = .ok (.invokevirtual 126, 3) := by decide +kernel
theorem dL_law_1166 : decode cL_law 1166 = .ok (.aload_n 2, 1) := by decide +kernel
theorem dL_law_1167 : decode cL_law 1167 = .ok (.aload_n 0, 1) := by decide +kernel
theorem dL_law_1168 : decode cL_law 1168 = .ok (.iload_n 3, 1) := by decide +kernel
theorem dL_law_1169 : decode cL_law 1169 = .ok (.iconst 1, 1) := by decide +kernel
theorem dL_law_1170 : decode cL_law 1170 = .ok (.iadd, 1) := by decide +kernel
theorem dL_law_1171 : decode cL_law 1171 = .ok (.iaload, 1) := by decide +kernel
theorem dL_law_1172 : decode cL_law 1172 = .ok (.invokevirtual 129, 3) := by decide +kernel
theorem dL_law_1175 : decode cL_law 1175 = .ok (.if_icmp .eq 374, 3) := by decide +kernel
theorem dL_law_1178 : decode cL_law 1178 = .ok (.iconst 0, 1) := by decide +kernel
theorem dL_law_1179 : decode cL_law 1179 = .ok (.ireturn, 1) := by decide +kernel
theorem dL_law_1180 : decode cL_law 1180 = .ok (.aload_n 1, 1) := by decide +kernel
theorem dL_law_1181 : decode cL_law 1181 = .ok (.aload_n 0, 1) := by decide +kernel
theorem dL_law_1182 : decode cL_law 1182 = .ok (.iload_n 3, 1) := by decide +kernel
theorem dL_law_1183 : decode cL_law 1183 = .ok (.iconst 1, 1) := by decide +kernel
theorem dL_law_1184 : decode cL_law 1184 = .ok (.iadd, 1) := by decide +kernel
theorem dL_law_1185 : decode cL_law 1185 = .ok (.iaload, 1) := by decide +kernel
theorem dL_law_1186 : decode cL_law 1186 = .ok (.aload_n 0, 1) := by decide +kernel
theorem dL_law_1187 : decode cL_law 1187 = .ok (.iload_n 3, 1) := by decide +kernel
theorem dL_law_1188 : decode cL_law 1188 = .ok (.iconst 2, 1) := by decide +kernel
theorem dL_law_1189 : decode cL_law 1189 = .ok (.iadd, 1) := by decide +kernel
theorem dL_law_1190 : decode cL_law 1190 = .ok (.iaload, 1) := by decide +kernel
theorem dL_law_1191 : decode cL_law 1191 = .ok (.aload_n 0, 1) := by decide +kernel
theorem dL_law_1192 : decode cL_law 1192 = .ok (.iload_n 3, 1) := by decide +kernel
theorem dL_law_1193 : decode cL_law 1193 = .ok (.iconst 3, 1) := by decide +kernel
theorem dL_law_1194 : decode cL_law 1194 = .ok (.iadd, 1) := by decide +kernel
theorem dL_law_1195 : decode cL_law 1195 = .ok (.iaload, 1) := by decide +kernel
theorem dL_law_1196 : decode cL_law 1196 = .ok (.invokevirtual 130, 3) := by decide +kernel
theorem dL_law_1199 : decode cL_law 1199 = .ok (.aload_n 2, 1) := by decide +kernel
theorem dL_law_1200 : decode cL_law 1200 = .ok (.aload_n 0, 1) := by decide +kernel
theorem dL_law_1201 : decode cL_law 1201 = .ok (.iload_n 3, 1) := by decide +kernel
theorem dL_law_1202 : decode cL_law 1202 = .ok (.iconst 1, 1) := by decide +kernel
theorem dL_law_1203 : decode cL_law 1203 = .ok (.iadd, 1) := by decide +kernel
theorem dL_law_1204 : decode cL_law 1204 = .ok (.iaload, 1) := by decide +kernel
theorem dL_law_1205 : decode cL_law 1205 = .ok (.aload_n 0, 1) := by decide +kernel
theorem dL_law_1206 : decode cL_law 1206 = .ok (.iload_n 3, 1) := by decide +kernel
theorem dL_law_1207 : decode cL_law 1207 = .ok (.iconst 2, 1) := by decide +kernel
theorem dL_law_1208 : decode cL_law 1208 = .ok (.iadd, 1) := by decide +kernel
theorem dL_law_1209 : decode cL_law 1209 = .ok (.iaload, 1) := by decide +kernel
theorem dL_law_1210 : decode cL_law 1210 = .ok (.aload_n 0, 1) := by decide +kernel
theorem dL_law_1211 : decode cL_law 1211 = .ok (.iload_n 3, 1) := by decide +kernel
theorem dL_law_1212 : decode cL_law 1212 = .ok (.iconst 3, 1) := by decide +kernel
theorem dL_law_1213 : decode cL_law 1213 = .ok (.iadd, 1) := by decide +kernel
theorem dL_law_1214 : decode cL_law 1214 = .ok (.iaload, 1) := by decide +kernel
theorem dL_law_1215 : decode cL_law 1215 = .ok (.invokevirtual 133, 3) := by decide +kernel
theorem dL_law_1218 : decode cL_law 1218 = .ok (.if_icmp .eq 331, 3) := by decide +kernel
theorem dL_law_1221 : decode cL_law 1221 = .ok (.iconst 0, 1) := by decide +kernel
theorem dL_law_1222 : decode cL_law 1222 = .ok (.ireturn, 1) := by decide +kernel
theorem dL_law_1223 : decode cL_law 1223 = .ok (.aload_n 1, 1) := by decide +kernel
theorem dL_law_1224 : decode cL_law 1224 = .ok (.aload_n 0, 1) := by decide +kernel
theorem dL_law_1225 : decode cL_law 1225 = .ok (.iload_n 3, 1) := by decide +kernel
theorem dL_law_1226 : decode cL_law 1226 = .ok (.iconst 1, 1) := by decide +kernel
theorem dL_law_1227 : decode cL_law 1227 = .ok (.iadd, 1) := by decide +kernel
theorem dL_law_1228 : decode cL_law 1228 = .ok (.iaload, 1) := by decide +kernel
theorem dL_law_1229 : decode cL_law 1229 = .ok (.invokevirtual 134, 3) := by decide +kernel
theorem dL_law_1232 : decode cL_law 1232 = .ok (.aload_n 2, 1) := by decide +kernel
theorem dL_law_1233 : decode cL_law 1233 = .ok (.aload_n 0, 1) := by decide +kernel
theorem dL_law_1234 : decode cL_law 1234 = .ok (.iload_n 3, 1) := by decide +kernel
theorem dL_law_1235 : decode cL_law 1235 = .ok (.iconst 1, 1) := by decide +kernel
theorem dL_law_1236 : decode cL_law 1236 = .ok (.iadd, 1) := by decide +kernel
theorem dL_law_1237 : decode cL_law 1237 = .ok (.iaload, 1) := by decide +kernel
theorem dL_law_1238 : decode cL_law 1238 = .ok (.invokevirtual 137, 3) := by decide +kernel
theorem dL_law_1241 : decode cL_law 1241 = .ok (.if_icmp .eq 308, 3) := by decide +kernel
theorem dL_law_1244 : decode cL_law 1244 = .ok (.iconst 0, 1) := by decide +kernel
theorem dL_law_1245 : decode cL_law 1245 = .ok (.ireturn, 1) := by decide +kernel
theorem dL_law_1246 : decode cL_law 1246 = .ok (.aload_n 1, 1) := by decide +kernel
theorem dL_law_1247 : decode cL_law 1247 = .ok (.aload_n 0, 1) := by decide +kernel
theorem dL_law_1248 : decode cL_law 1248 = .ok (.iload_n 3, 1) := by decide +kernel
theorem dL_law_1249 : decode cL_law 1249 = .ok (.iconst 1, 1) := by decide +kernel
theorem dL_law_1250 : decode cL_law 1250 = .ok (.iadd, 1) := by decide +kernel
theorem dL_law_1251 : decode cL_law 1251 = .ok (.iaload, 1) := by decide +kernel
theorem dL_law_1252 : decode cL_law 1252 = .ok (.aload_n 0, 1) := by decide +kernel
theorem dL_law_1253 : decode cL_law 1253 = .ok (.iload_n 3, 1) := by decide +kernel
theorem dL_law_1254 : decode cL_law 1254 = .ok (.iconst 2, 1) := by decide +kernel
theorem dL_law_1255 : decode cL_law 1255 = .ok (.iadd, 1) := by decide +kernel
theorem dL_law_1256 : decode cL_law 1256 = .ok (.iaload, 1) := by decide +kernel
theorem dL_law_1257 : decode cL_law 1257 = .ok (.aload_n 0, 1) := by decide +kernel
theorem dL_law_1258 : decode cL_law 1258 = .ok (.iload_n 3, 1) := by decide +kernel
theorem dL_law_1259 : decode cL_law 1259 = .ok (.iconst 3, 1) := by decide +kernel
theorem dL_law_1260 : decode cL_law 1260 = .ok (.iadd, 1) := by decide +kernel
theorem dL_law_1261 : decode cL_law 1261 = .ok (.iaload, 1) := by decide +kernel
theorem dL_law_1262 : decode cL_law 1262 = .ok (.invokevirtual 138, 3) := by decide +kernel
theorem dL_law_1265 : decode cL_law 1265 = .ok (.aload_n 2, 1) := by decide +kernel
theorem dL_law_1266 : decode cL_law 1266 = .ok (.aload_n 0, 1) := by decide +kernel
theorem dL_law_1267 : decode cL_law 1267 = .ok (.iload_n 3, 1) := by decide +kernel
theorem dL_law_1268 : decode cL_law 1268 = .ok (.iconst 1, 1) := by decide +kernel
theorem dL_law_1269 : decode cL_law 1269 = .ok (.iadd, 1) := by decide +kernel
theorem dL_law_1270 : decode cL_law 1270 = .ok (.iaload, 1) := by decide +kernel
theorem dL_law_1271 : decode cL_law 1271 = .ok (.aload_n 0, 1) := by decide +kernel
theorem dL_law_1272 : decode cL_law 1272 = .ok (.iload_n 3, 1) := by decide +kernel
theorem dL_law_1273 : decode cL_law 1273 = .ok (.iconst 2, 1) := by decide +kernel
theorem dL_law_1274 : decode cL_law 1274 = .ok (.iadd, 1) := by decide +kernel
theorem dL_law_1275 : decode cL_law 1275 = .ok (.iaload, 1) := by decide +kernel
theorem dL_law_1276 : decode cL_law 1276 = .ok (.aload_n 0, 1) := by decide +kernel
theorem dL_law_1277 : decode cL_law 1277 = .ok (.iload_n 3, 1) := by decide +kernel
theorem dL_law_1278 : decode cL_law 1278 = .ok (.iconst 3, 1) := by decide +kernel
theorem dL_law_1279 : decode cL_law 1279 = .ok (.iadd, 1) := by decide +kernel
theorem dL_law_1280 : decode cL_law 1280 = .ok (.iaload, 1) := by decide +kernel
theorem dL_law_1281 : decode cL_law 1281 = .ok (.invokevirtual 141, 3) := by decide +kernel
theorem dL_law_1284 : decode cL_law 1284 = .ok (.if_icmp .eq 265, 3) := by decide +kernel
theorem dL_law_1287 : decode cL_law 1287 = .ok (.iconst 0, 1) := by decide +kernel
theorem dL_law_1288 : decode cL_law 1288 = .ok (.ireturn, 1) := by decide +kernel
theorem dL_law_1289 : decode cL_law 1289 = .ok (.aload_n 1, 1) := by decide +kernel
theorem dL_law_1290 : decode cL_law 1290 = .ok (.aload_n 0, 1) := by decide +kernel
theorem dL_law_1291 : decode cL_law 1291 = .ok (.iload_n 3, 1) := by decide +kernel
theorem dL_law_1292 : decode cL_law 1292 = .ok (.iconst 1, 1) := by decide +kernel
theorem dL_law_1293 : decode cL_law 1293 = .ok (.iadd, 1) := by decide +kernel
theorem dL_law_1294 : decode cL_law 1294 = .ok (.iaload, 1) := by decide +kernel
theorem dL_law_1295 : decode cL_law 1295 = .ok (.aload_n 0, 1) := by decide +kernel
theorem dL_law_1296 : decode cL_law 1296 = .ok (.iload_n 3, 1) := by decide +kernel
theorem dL_law_1297 : decode cL_law 1297 = .ok (.iconst 2, 1) := by decide +kernel
theorem dL_law_1298 : decode cL_law 1298 = .ok (.iadd, 1) := by decide +kernel
theorem dL_law_1299 : decode cL_law 1299 = .ok (.iaload, 1) := by decide +kernel
theorem dL_law_1300 : decode cL_law 1300 = .ok (.aload_n 0, 1) := by decide +kernel
theorem dL_law_1301 : decode cL_law 1301 = .ok (.iload_n 3, 1) := by decide +kernel
theorem dL_law_1302 : decode cL_law 1302 = .ok (.iconst 3, 1) := by decide +kernel
theorem dL_law_1303 : decode cL_law 1303 = .ok (.iadd, 1) := by decide +kernel
theorem dL_law_1304 : decode cL_law 1304 = .ok (.iaload, 1) := by decide +kernel
theorem dL_law_1305 : decode cL_law 1305 = .ok (.invokevirtual 142, 3) := by decide +kernel
theorem dL_law_1308 : decode cL_law 1308 = .ok (.aload_n 2, 1) := by decide +kernel
theorem dL_law_1309 : decode cL_law 1309 = .ok (.aload_n 0, 1) := by decide +kernel
theorem dL_law_1310 : decode cL_law 1310 = .ok (.iload_n 3, 1) := by decide +kernel
theorem dL_law_1311 : decode cL_law 1311 = .ok (.iconst 1, 1) := by decide +kernel
theorem dL_law_1312 : decode cL_law 1312 = .ok (.iadd, 1) := by decide +kernel
theorem dL_law_1313 : decode cL_law 1313 = .ok (.iaload, 1) := by decide +kernel
theorem dL_law_1314 : decode cL_law 1314 = .ok (.aload_n 0, 1) := by decide +kernel
theorem dL_law_1315 : decode cL_law 1315 = .ok (.iload_n 3, 1) := by decide +kernel
theorem dL_law_1316 : decode cL_law 1316 = .ok (.iconst 2, 1) := by decide +kernel
theorem dL_law_1317 : decode cL_law 1317 = .ok (.iadd, 1) := by decide +kernel
theorem dL_law_1318 : decode cL_law 1318 = .ok (.iaload, 1) := by decide +kernel
theorem dL_law_1319 : decode cL_law 1319 = .ok (.aload_n 0, 1) := by decide +kernel
theorem dL_law_1320 : decode cL_law 1320 = .ok (.iload_n 3, 1) := by decide +kernel
theorem dL_law_1321 : decode cL_law 1321 = .ok (.iconst 3, 1) := by decide +kernel
theorem dL_law_1322 : decode cL_law 1322 = .ok (.iadd, 1) := by decide +kernel
theorem dL_law_1323 : decode cL_law 1323 = .ok (.iaload, 1) := by decide +kernel
theorem dL_law_1324 : decode cL_law 1324 = .ok (.invokevirtual 145, 3) := by decide +kernel
theorem dL_law_1327 : decode cL_law 1327 = .ok (.if_icmp .eq 222, 3) := by decide +kernel
theorem dL_law_1330 : decode cL_law 1330 = .ok (.iconst 0, 1) := by decide +kernel
theorem dL_law_1331 : decode cL_law 1331 = .ok (.ireturn, 1) := by decide +kernel
theorem dL_law_1332 : decode cL_law 1332 = .ok (.aload_n 1, 1) := by decide +kernel
theorem dL_law_1333 : decode cL_law 1333 = .ok (.aload_n 0, 1) := by decide +kernel
theorem dL_law_1334 : decode cL_law 1334 = .ok (.iload_n 3, 1) := by decide +kernel
theorem dL_law_1335 : decode cL_law 1335 = .ok (.iconst 1, 1) := by decide +kernel
theorem dL_law_1336 : decode cL_law 1336 = .ok (.iadd, 1) := by decide +kernel
theorem dL_law_1337 : decode cL_law 1337 = .ok (.iaload, 1) := by decide +kernel
theorem dL_law_1338 : decode cL_law 1338 = .ok (.aload_n 0, 1) := by decide +kernel
theorem dL_law_1339 : decode cL_law 1339 = .ok (.iload_n 3, 1) := by decide +kernel
theorem dL_law_1340 : decode cL_law 1340 = .ok (.iconst 2, 1) := by decide +kernel
theorem dL_law_1341 : decode cL_law 1341 = .ok (.iadd, 1) := by decide +kernel
theorem dL_law_1342 : decode cL_law 1342 = .ok (.iaload, 1) := by decide +kernel
theorem dL_law_1343 : decode cL_law 1343 = .ok (.aload_n 0, 1) := by decide +kernel
theorem dL_law_1344 : decode cL_law 1344 = .ok (.iload_n 3, 1) := by decide +kernel
theorem dL_law_1345 : decode cL_law 1345 = .ok (.iconst 3, 1) := by decide +kernel
theorem dL_law_1346 : decode cL_law 1346 = .ok (.iadd, 1) := by decide +kernel
theorem dL_law_1347 : decode cL_law 1347 = .ok (.iaload, 1) := by decide +kernel
theorem dL_law_1348 : decode cL_law 1348 = .ok (.aload_n 0, 1) := by decide +kernel
theorem dL_law_1349 : decode cL_law 1349 = .ok (.iload_n 3, 1) := by decide +kernel
theorem dL_law_1350 : decode cL_law 1350 = .ok (.iconst 4, 1) := by decide +kernel
theorem dL_law_1351 : decode cL_law 1351 = .ok (.iadd, 1) := by decide +kernel
theorem dL_law_1352 : decode cL_law 1352 = .ok (.iaload, 1) := by decide +kernel
theorem dL_law_1353 : decode cL_law 1353 = .ok (.aload_n 0, 1) := by decide +kernel
theorem dL_law_1354 : decode cL_law 1354 = .ok (.iload_n 3, 1) := by decide +kernel
theorem dL_law_1355 : decode cL_law 1355 = .ok (.iconst 5, 1) := by decide +kernel
theorem dL_law_1356 : decode cL_law 1356 = .ok (.iadd, 1) := by decide +kernel
theorem dL_law_1357 : decode cL_law 1357 = .ok (.iaload, 1) := by decide +kernel
theorem dL_law_1358 : decode cL_law 1358 = .ok (.invokevirtual 146, 3) := by decide +kernel
theorem dL_law_1361 : decode cL_law 1361 = .ok (.aload_n 2, 1) := by decide +kernel
theorem dL_law_1362 : decode cL_law 1362 = .ok (.aload_n 0, 1) := by decide +kernel
theorem dL_law_1363 : decode cL_law 1363 = .ok (.iload_n 3, 1) := by decide +kernel
theorem dL_law_1364 : decode cL_law 1364 = .ok (.iconst 1, 1) := by decide +kernel
theorem dL_law_1365 : decode cL_law 1365 = .ok (.iadd, 1) := by decide +kernel
theorem dL_law_1366 : decode cL_law 1366 = .ok (.iaload, 1) := by decide +kernel
theorem dL_law_1367 : decode cL_law 1367 = .ok (.aload_n 0, 1) := by decide +kernel
theorem dL_law_1368 : decode cL_law 1368 = .ok (.iload_n 3, 1) := by decide +kernel
theorem dL_law_1369 : decode cL_law 1369 = .ok (.iconst 2, 1) := by decide +kernel
theorem dL_law_1370 : decode cL_law 1370 = .ok (.iadd, 1) := by decide +kernel
theorem dL_law_1371 : decode cL_law 1371 = .ok (.iaload, 1) := by decide +kernel
theorem dL_law_1372 : decode cL_law 1372 = .ok (.aload_n 0, 1) := by decide +kernel
theorem dL_law_1373 : decode cL_law 1373 = .ok (.iload_n 3, 1) := by decide +kernel
theorem dL_law_1374 : decode cL_law 1374 = .ok (.iconst 3, 1) := by decide +kernel
theorem dL_law_1375 : decode cL_law 1375 = .ok (.iadd, 1) := by decide +kernel
theorem dL_law_1376 : decode cL_law 1376 = .ok (.iaload, 1) := by decide +kernel
theorem dL_law_1377 : decode cL_law 1377 = .ok (.aload_n 0, 1) := by decide +kernel
theorem dL_law_1378 : decode cL_law 1378 = .ok (.iload_n 3, 1) := by decide +kernel
theorem dL_law_1379 : decode cL_law 1379 = .ok (.iconst 4, 1) := by decide +kernel
theorem dL_law_1380 : decode cL_law 1380 = .ok (.iadd, 1) := by decide +kernel
theorem dL_law_1381 : decode cL_law 1381 = .ok (.iaload, 1) := by decide +kernel
theorem dL_law_1382 : decode cL_law 1382 = .ok (.aload_n 0, 1) := by decide +kernel
theorem dL_law_1383 : decode cL_law 1383 = .ok (.iload_n 3, 1) := by decide +kernel
theorem dL_law_1384 : decode cL_law 1384 = .ok (.iconst 5, 1) := by decide +kernel
theorem dL_law_1385 : decode cL_law 1385 = .ok (.iadd, 1) := by decide +kernel
theorem dL_law_1386 : decode cL_law 1386 = .ok (.iaload, 1) := by decide +kernel
theorem dL_law_1387 : decode cL_law 1387 = .ok (.invokevirtual 150, 3) := by decide +kernel
theorem dL_law_1390 : decode cL_law 1390 = .ok (.if_icmp .eq 159, 3) := by decide +kernel
theorem dL_law_1393 : decode cL_law 1393 = .ok (.iconst 0, 1) := by decide +kernel
theorem dL_law_1394 : decode cL_law 1394 = .ok (.ireturn, 1) := by decide +kernel
theorem dL_law_1395 : decode cL_law 1395 = .ok (.aload_n 1, 1) := by decide +kernel
theorem dL_law_1396 : decode cL_law 1396 = .ok (.aload_n 0, 1) := by decide +kernel
theorem dL_law_1397 : decode cL_law 1397 = .ok (.iload_n 3, 1) := by decide +kernel
theorem dL_law_1398 : decode cL_law 1398 = .ok (.iconst 1, 1) := by decide +kernel
theorem dL_law_1399 : decode cL_law 1399 = .ok (.iadd, 1) := by decide +kernel
theorem dL_law_1400 : decode cL_law 1400 = .ok (.iaload, 1) := by decide +kernel
theorem dL_law_1401 : decode cL_law 1401 = .ok (.invokevirtual 151, 3) := by decide +kernel
theorem dL_law_1404 : decode cL_law 1404 = .ok (.aload_n 2, 1) := by decide +kernel
theorem dL_law_1405 : decode cL_law 1405 = .ok (.aload_n 0, 1) := by decide +kernel
theorem dL_law_1406 : decode cL_law 1406 = .ok (.iload_n 3, 1) := by decide +kernel
theorem dL_law_1407 : decode cL_law 1407 = .ok (.iconst 1, 1) := by decide +kernel
theorem dL_law_1408 : decode cL_law 1408 = .ok (.iadd, 1) := by decide +kernel
theorem dL_law_1409 : decode cL_law 1409 = .ok (.iaload, 1) := by decide +kernel
theorem dL_law_1410 : decode cL_law 1410 = .ok (.invokevirtual 154, 3) := by decide +kernel
theorem dL_law_1413 : decode cL_law 1413 = .ok (.if_icmp .eq 136, 3) := by decide +kernel
theorem dL_law_1416 : decode cL_law 1416 = .ok (.iconst 0, 1) := by decide +kernel
theorem dL_law_1417 : decode cL_law 1417 = .ok (.ireturn, 1) := by decide +kernel
theorem dL_law_1418 : decode cL_law 1418 = .ok (.aload_n 1, 1) := by decide +kernel
theorem dL_law_1419 : decode cL_law 1419 = .ok (.aload_n 0, 1) := by decide +kernel
theorem dL_law_1420 : decode cL_law 1420 = .ok (.iload_n 3, 1) := by decide +kernel
theorem dL_law_1421 : decode cL_law 1421 = .ok (.iconst 1, 1) := by decide +kernel
theorem dL_law_1422 : decode cL_law 1422 = .ok (.iadd, 1) := by decide +kernel
theorem dL_law_1423 : decode cL_law 1423 = .ok (.iaload, 1) := by decide +kernel
theorem dL_law_1424 : decode cL_law 1424 = .ok (.invokevirtual 155, 3) := by decide +kernel
theorem dL_law_1427 : decode cL_law 1427 = .ok (.aload_n 2, 1) := by decide +kernel
theorem dL_law_1428 : decode cL_law 1428 = .ok (.aload_n 0, 1) := by decide +kernel
theorem dL_law_1429 : decode cL_law 1429 = .ok (.iload_n 3, 1) := by decide +kernel
theorem dL_law_1430 : decode cL_law 1430 = .ok (.iconst 1, 1) := by decide +kernel
theorem dL_law_1431 : decode cL_law 1431 = .ok (.iadd, 1) := by decide +kernel
theorem dL_law_1432 : decode cL_law 1432 = .ok (.iaload, 1) := by decide +kernel
theorem dL_law_1433 : decode cL_law 1433 = .ok (.invokevirtual 158, 3) := by decide +kernel
theorem dL_law_1436 : decode cL_law 1436 = .ok (.if_icmp .eq 113, 3) := by decide +kernel
theorem dL_law_1439 : decode cL_law 1439 = .ok (.iconst 0, 1) := by decide +kernel
theorem dL_law_1440 : decode cL_law 1440 = .ok (.ireturn, 1) := by decide +kernel
theorem dL_law_1441 : decode cL_law 1441 = .ok (.aload_n 1, 1) := by decide +kernel
theorem dL_law_1442 : decode cL_law 1442 = .ok (.invokevirtual 159, 3) := by decide +kernel
theorem dL_law_1445 : decode cL_law 1445 = .ok (.aload_n 2, 1) := by decide +kernel
theorem dL_law_1446 : decode cL_law 1446 = .ok (.invokevirtual 162, 3) := by decide +kernel
theorem dL_law_1449 : decode cL_law 1449 = .ok (.if_icmp .eq 100, 3) := by decide +kernel
theorem dL_law_1452 : decode cL_law 1452 = .ok (.iconst 0, 1) := by decide +kernel
theorem dL_law_1453 : decode cL_law 1453 = .ok (.ireturn, 1) := by decide +kernel
theorem dL_law_1454 : decode cL_law 1454 = .ok (.aload_n 1, 1) := by decide +kernel
theorem dL_law_1455 : decode cL_law 1455 = .ok (.invokevirtual 163, 3) := by decide +kernel
theorem dL_law_1458 : decode cL_law 1458 = .ok (.aload_n 2, 1) := by decide +kernel
theorem dL_law_1459 : decode cL_law 1459 = .ok (.invokevirtual 166, 3) := by decide +kernel
theorem dL_law_1462 : decode cL_law 1462 = .ok (.if_icmp .eq 87, 3) := by decide +kernel
theorem dL_law_1465 : decode cL_law 1465 = .ok (.iconst 0, 1) := by decide +kernel
theorem dL_law_1466 : decode cL_law 1466 = .ok (.ireturn, 1) := by decide +kernel
theorem dL_law_1467 : decode cL_law 1467 = .ok (.aload_n 1, 1) := by decide +kernel
theorem dL_law_1468 : decode cL_law 1468 = .ok (.aload_n 0, 1) := by decide +kernel
theorem dL_law_1469 : decode cL_law 1469 = .ok (.iload_n 3, 1) := by decide +kernel
theorem dL_law_1470 : decode cL_law 1470 = .ok (.iconst 1, 1) := by decide +kernel
theorem dL_law_1471 : decode cL_law 1471 = .ok (.iadd, 1) := by decide +kernel
theorem dL_law_1472 : decode cL_law 1472 = .ok (.iaload, 1) := by decide +kernel
theorem dL_law_1473 : decode cL_law 1473 = .ok (.invokevirtual 167, 3) := by decide +kernel
theorem dL_law_1476 : decode cL_law 1476 = .ok (.aload_n 2, 1) := by decide +kernel
theorem dL_law_1477 : decode cL_law 1477 = .ok (.aload_n 0, 1) := by decide +kernel
theorem dL_law_1478 : decode cL_law 1478 = .ok (.iload_n 3, 1) := by decide +kernel
theorem dL_law_1479 : decode cL_law 1479 = .ok (.iconst 1, 1) := by decide +kernel
theorem dL_law_1480 : decode cL_law 1480 = .ok (.iadd, 1) := by decide +kernel
theorem dL_law_1481 : decode cL_law 1481 = .ok (.iaload, 1) := by decide +kernel
theorem dL_law_1482 : decode cL_law 1482 = .ok (.invokevirtual 170, 3) := by decide +kernel
theorem dL_law_1485 : decode cL_law 1485 = .ok (.if_icmp .eq 64, 3) := by decide +kernel
theorem dL_law_1488 : decode cL_law 1488 = .ok (.iconst 0, 1) := by decide +kernel
theorem dL_law_1489 : decode cL_law 1489 = .ok (.ireturn, 1) := by decide +kernel
theorem dL_law_1490 : decode cL_law 1490 = .ok (.aload_n 1, 1) := by decide +kernel
theorem dL_law_1491 : decode cL_law 1491 = .ok (.invokevirtual 171, 3) := by decide +kernel
theorem dL_law_1494 : decode cL_law 1494 = .ok (.aload_n 2, 1) := by decide +kernel
theorem dL_law_1495 : decode cL_law 1495 = .ok (.invokevirtual 174, 3) := by decide +kernel
theorem dL_law_1498 : decode cL_law 1498 = .ok (.if_icmp .eq 51, 3) := by decide +kernel
theorem dL_law_1501 : decode cL_law 1501 = .ok (.iconst 0, 1) := by decide +kernel
theorem dL_law_1502 : decode cL_law 1502 = .ok (.ireturn, 1) := by decide +kernel
theorem dL_law_1503 : decode cL_law 1503 = .ok (.aload_n 1, 1) := by decide +kernel
theorem dL_law_1504 : decode cL_law 1504 = .ok (.aload_n 0, 1) := by decide +kernel
theorem dL_law_1505 : decode cL_law 1505 = .ok (.iload_n 3, 1) := by decide +kernel
theorem dL_law_1506 : decode cL_law 1506 = .ok (.iconst 1, 1) := by decide +kernel
theorem dL_law_1507 : decode cL_law 1507 = .ok (.iadd, 1) := by decide +kernel
theorem dL_law_1508 : decode cL_law 1508 = .ok (.iaload, 1) := by decide +kernel
theorem dL_law_1509 : decode cL_law 1509 = .ok (.invokevirtual 175, 3) := by decide +kernel
theorem dL_law_1512 : decode cL_law 1512 = .ok (.aload_n 2, 1) := by decide +kernel
theorem dL_law_1513 : decode cL_law 1513 = .ok (.aload_n 0, 1) := by decide +kernel
theorem dL_law_1514 : decode cL_law 1514 = .ok (.iload_n 3, 1) := by decide +kernel
theorem dL_law_1515 : decode cL_law 1515 = .ok (.iconst 1, 1) := by decide +kernel
theorem dL_law_1516 : decode cL_law 1516 = .ok (.iadd, 1) := by decide +kernel
theorem dL_law_1517 : decode cL_law 1517 = .ok (.iaload, 1) := by decide +kernel
theorem dL_law_1518 : decode cL_law 1518 = .ok (.invokevirtual 178, 3) := by decide +kernel
theorem dL_law_1521 : decode cL_law 1521 = .ok (.if_icmp .eq 28, 3) := by decide +kernel
theorem dL_law_1524 : decode cL_law 1524 = .ok (.iconst 0, 1) := by decide +kernel
theorem dL_law_1525 : decode cL_law 1525 = .ok (.ireturn, 1) := by decide +kernel
theorem dL_law_1526 : decode cL_law 1526 = .ok (.aload_n 1, 1) := by decide +kernel
theorem dL_law_1527 : decode cL_law 1527 = .ok (.aload_n 0, 1) := by decide +kernel
theorem dL_law_1528 : decode cL_law 1528 = .ok (.iload_n 3, 1) := by decide +kernel
theorem dL_law_1529 : decode cL_law 1529 = .ok (.iconst 1, 1) := by decide +kernel
theorem dL_law_1530 : decode cL_law 1530 = .ok (.iadd, 1) := by decide +kernel
theorem dL_law_1531 : decode cL_law 1531 = .ok (.iaload, 1) := by decide +kernel
theorem dL_law_1532 : decode cL_law 1532 = .ok (.invokevirtual 179, 3) := by decide +kernel
theorem dL_law_1535 : decode cL_law 1535 = .ok (.aload_n 2, 1) := by decide +kernel
theorem dL_law_1536 : decode cL_law 1536 = .ok (.aload_n 0, 1) := by decide +kernel
theorem dL_law_1537 : decode cL_law 1537 = .ok (.iload_n 3, 1) := by decide +kernel
theorem dL_law_1538 : decode cL_law 1538 = .ok (.iconst 1, 1) := by decide +kernel
theorem dL_law_1539 : decode cL_law 1539 = .ok (.iadd, 1) := by decide +kernel
theorem dL_law_1540 : decode cL_law 1540 = .ok (.iaload, 1) := by decide +kernel
theorem dL_law_1541 : decode cL_law 1541 = .ok (.invokevirtual 182, 3) := by decide +kernel
theorem dL_law_1544 : decode cL_law 1544 = .ok (.if_icmp .eq 5, 3) := by decide +kernel
theorem dL_law_1547 : decode cL_law 1547 = .ok (.iconst 0, 1) := by decide +kernel
theorem dL_law_1548 : decode cL_law 1548 = .ok (.ireturn, 1) := by decide +kernel
theorem dL_law_1549 : decode cL_law 1549 = .ok (.iinc 3 6, 3) := by decide +kernel
theorem dL_law_1552 : decode cL_law 1552 = .ok (.goto (-1534), 3) := by decide +kernel
theorem dL_law_1555 : decode cL_law 1555 = .ok (.iconst 1, 1) := by decide +kernel
theorem dL_law_1556 : decode cL_law 1556 = .ok (.ireturn, 1) := by decide +kernel
end
section
def GW : List Cond := lw_tbl.filter goodWord
theorem gw_all : GW.all goodWord = true := List.all_eq_true.mpr fun w h => (List.mem_filter.mp h).2
theorem gw_in {w : Cond} (i : Nat) (h : (lw_tbl[i]? == some w && goodWord w) = true) : w ∈ GW := by
  simp only [Bool.and_eq_true, beq_iff_eq] at h
  exact List.mem_filter.mpr ⟨List.mem_of_getElem? h.1, h.2⟩
theorem tw_0 : (Cond.initialized RL) ∈ GW := gw_in 55 (by decide +kernel)
theorem tw_1 : (Cond.initialized RX8) ∈ GW := gw_in 56 (by decide +kernel)
theorem tw_2 : (Cond.initialized RX7) ∈ GW := gw_in 57 (by decide +kernel)
theorem tw_3 : (Cond.initialized RX4) ∈ GW := gw_in 58 (by decide +kernel)
theorem tw_4 : (Cond.initialized RX1) ∈ GW := gw_in 59 (by decide +kernel)
theorem tw_5 : (Cond.initialized RX0) ∈ GW := gw_in 60 (by decide +kernel)
theorem tw_6 : (Cond.initialized RX5) ∈ GW := gw_in 61 (by decide +kernel)
theorem tw_7 : (Cond.initialized RX2) ∈ GW := gw_in 62 (by decide +kernel)
theorem tw_8 : (Cond.initialized RX6) ∈ GW := gw_in 63 (by decide +kernel)
theorem tw_9 : (Cond.initialized RX3) ∈ GW := gw_in 64 (by decide +kernel)
theorem tw_10 : (Cond.initialized RX9) ∈ GW := gw_in 65 (by decide +kernel)
theorem tw_11 : (Cond.initialized RJ9) ∈ GW := gw_in 66 (by decide +kernel)
theorem tw_12 : (Cond.initialized RJ10) ∈ GW := gw_in 67 (by decide +kernel)
theorem tw_13 : (Cond.classLink RL 7 RX8) ∈ GW := gw_in 68 (by decide +kernel)
theorem tw_14 : (Cond.instantiable RX8 8) ∈ GW := gw_in 69 (by decide +kernel)
theorem tw_15 : (Cond.methodLink RL 9 yX8_init) ∈ GW := gw_in 70 (by decide +kernel)
theorem tw_16 : (Cond.instanceMethod yX8_init) ∈ GW := gw_in 71 (by decide +kernel)
theorem tw_17 : (Cond.code yX8_init cX8_init 2 none) ∈ GW := gw_in 72 (by decide +kernel)
theorem tw_18 : (Cond.methodLink RX8 1 objectInit) ∈ GW := gw_in 73 (by decide +kernel)
theorem tw_19 : (Cond.instanceMethod objectInit) ∈ GW := gw_in 74 (by decide +kernel)
theorem tw_20 : (Cond.code objectInit object_method_1_code 1 none) ∈ GW := gw_in 75 (by decide +kernel)
theorem tw_21 : (Cond.classLink RX8 7 RX7) ∈ GW := gw_in 76 (by decide +kernel)
theorem tw_22 : (Cond.instantiable RX7 18) ∈ GW := gw_in 77 (by decide +kernel)
theorem tw_23 : (Cond.methodLink RX8 9 yX7_init) ∈ GW := gw_in 78 (by decide +kernel)
theorem tw_24 : (Cond.instanceMethod yX7_init) ∈ GW := gw_in 79 (by decide +kernel)
theorem tw_25 : (Cond.code yX7_init cX7_init 2 none) ∈ GW := gw_in 80 (by decide +kernel)
theorem tw_26 : (Cond.methodLink RX7 3 objectInit) ∈ GW := gw_in 81 (by decide +kernel)
theorem tw_27 : (Cond.classLink RX7 9 RX4) ∈ GW := gw_in 82 (by decide +kernel)
theorem tw_28 : (Cond.instantiable RX4 3) ∈ GW := gw_in 83 (by decide +kernel)
theorem tw_30 : (Cond.instanceMethod yX4_init) ∈ GW := gw_in 85 (by decide +kernel)
theorem tw_31 : (Cond.code yX4_init cX4_init 1 none) ∈ GW := gw_in 86 (by decide +kernel)
theorem tw_32 : (Cond.methodLink RX4 3 objectInit) ∈ GW := gw_in 87 (by decide +kernel)
theorem tw_33 : (Cond.fieldLink RX4 9 "CatchBars$Swing" "period" "I") ∈ GW := gw_in 88 (by decide +kernel)
theorem tw_35 : (Cond.fieldLink RX4 15 "CatchBars$Swing" "width" "I") ∈ GW := gw_in 90 (by decide +kernel)
theorem tw_37 : (Cond.fieldLink RX4 22 "CatchBars$Swing" "phase" "I") ∈ GW := gw_in 92 (by decide +kernel)
theorem tw_46 : (Cond.classLink RX7 31 RX0) ∈ GW := gw_in 101 (by decide +kernel)
theorem tw_48 : (Cond.classLink RX7 41 RX1) ∈ GW := gw_in 103 (by decide +kernel)
theorem tw_49 : (Cond.instantiable RX1 6) ∈ GW := gw_in 104 (by decide +kernel)
theorem tw_50 : (Cond.methodLink RX7 43 yX1_init) ∈ GW := gw_in 105 (by decide +kernel)
theorem tw_51 : (Cond.instanceMethod yX1_init) ∈ GW := gw_in 106 (by decide +kernel)
theorem tw_52 : (Cond.code yX1_init cX1_init 2 none) ∈ GW := gw_in 107 (by decide +kernel)
theorem tw_53 : (Cond.methodLink RX1 3 objectInit) ∈ GW := gw_in 108 (by decide +kernel)
theorem tw_54 : (Cond.fieldLink RX1 18 "CatchBars$Law" "isFlight" "Z") ∈ GW := gw_in 109 (by decide +kernel)
theorem tw_55 : (Cond.fieldLink RX1 22 "CatchBars$Law" "least" "I") ∈ GW := gw_in 110 (by decide +kernel)
theorem tw_56 : (Cond.fieldLink RX1 26 "CatchBars$Law" "most" "I") ∈ GW := gw_in 111 (by decide +kernel)
theorem tw_57 : (Cond.fieldLink RX1 9 "CatchBars$Law" "steps" "[I") ∈ GW := gw_in 112 (by decide +kernel)
theorem tw_58 : (Cond.fieldLink RX1 15 "CatchBars$Law" "stack" "[I") ∈ GW := gw_in 113 (by decide +kernel)
theorem tw_59 : (Cond.fieldLink RX1 35 "CatchBars$Law" "count" "I") ∈ GW := gw_in 114 (by decide +kernel)
theorem tw_73 : (Cond.arrayClass .int) ∈ GW := gw_in 128 (by decide +kernel)
theorem tw_74 : (Cond.instantiable RX0 4) ∈ GW := gw_in 129 (by decide +kernel)
theorem tw_76 : (Cond.instanceMethod yX0_init) ∈ GW := gw_in 131 (by decide +kernel)
theorem tw_77 : (Cond.code yX0_init cX0_init 1 none) ∈ GW := gw_in 132 (by decide +kernel)
theorem tw_78 : (Cond.methodLink RX0 3 objectInit) ∈ GW := gw_in 133 (by decide +kernel)
theorem tw_80 : (Cond.fieldLink RX0 22 "CatchBars$Flyer" "kind" "I") ∈ GW := gw_in 135 (by decide +kernel)
theorem tw_82 : (Cond.fieldLink RX0 25 "CatchBars$Flyer" "m" "I") ∈ GW := gw_in 137 (by decide +kernel)
theorem tw_86 : (Cond.fieldLink RX0 15 "CatchBars$Flyer" "turnCount" "I") ∈ GW := gw_in 141 (by decide +kernel)
theorem tw_89 : (Cond.fieldLink RX0 19 "CatchBars$Flyer" "goes" "I") ∈ GW := gw_in 144 (by decide +kernel)
theorem tw_100 : (Cond.fieldLink RX7 12 "CatchBars$World" "near" "LCatchBars$Swing;") ∈ GW := gw_in 155 (by decide +kernel)
theorem tw_103 : (Cond.fieldLink RX7 18 "CatchBars$World" "far" "LCatchBars$Swing;") ∈ GW := gw_in 158 (by decide +kernel)
theorem tw_105 : (Cond.fieldLink RX7 21 "CatchBars$World" "gap" "I") ∈ GW := gw_in 160 (by decide +kernel)
theorem tw_108 : (Cond.fieldLink RX7 25 "CatchBars$World" "reach" "I") ∈ GW := gw_in 163 (by decide +kernel)
theorem tw_111 : (Cond.fieldLink RX7 28 "CatchBars$World" "net" "I") ∈ GW := gw_in 166 (by decide +kernel)
theorem tw_114 : (Cond.fieldLink RX7 74 "CatchBars$World" "tick" "I") ∈ GW := gw_in 169 (by decide +kernel)
theorem tw_116 : (Cond.fieldLink RX7 33 "CatchBars$World" "flyers" "[LCatchBars$Flyer;") ∈ GW := gw_in 171 (by decide +kernel)
theorem tw_117 : (Cond.fieldLink RX7 60 "CatchBars$World" "flyerCount" "I") ∈ GW := gw_in 172 (by decide +kernel)
theorem tw_119 : (Cond.fieldLink RX7 37 "CatchBars$World" "tape" "[I") ∈ GW := gw_in 174 (by decide +kernel)
theorem tw_122 : (Cond.fieldLink RX7 63 "CatchBars$World" "tapeLength" "I") ∈ GW := gw_in 177 (by decide +kernel)
theorem tw_124 : (Cond.fieldLink RX7 46 "CatchBars$World" "flight" "LCatchBars$Law;") ∈ GW := gw_in 179 (by decide +kernel)
theorem tw_126 : (Cond.fieldLink RX7 50 "CatchBars$World" "air" "LCatchBars$Law;") ∈ GW := gw_in 181 (by decide +kernel)
theorem tw_128 : (Cond.fieldLink RX7 89 "CatchBars$World" "catches" "I") ∈ GW := gw_in 183 (by decide +kernel)
theorem tw_130 : (Cond.fieldLink RX7 92 "CatchBars$World" "falls" "I") ∈ GW := gw_in 185 (by decide +kernel)
theorem tw_132 : (Cond.fieldLink RX7 95 "CatchBars$World" "hurt" "I") ∈ GW := gw_in 187 (by decide +kernel)
theorem tw_134 : (Cond.fieldLink RX7 53 "CatchBars$World" "z" "I") ∈ GW := gw_in 189 (by decide +kernel)
theorem tw_136 : (Cond.fieldLink RX7 56 "CatchBars$World" "waiting" "[I") ∈ GW := gw_in 191 (by decide +kernel)
theorem tw_138 : (Cond.fieldLink RX7 66 "CatchBars$World" "waitingCount" "I") ∈ GW := gw_in 193 (by decide +kernel)
theorem tw_177 : (Cond.classLink RX8 19 RX5) ∈ GW := gw_in 232 (by decide +kernel)
theorem tw_178 : (Cond.instantiable RX5 9) ∈ GW := gw_in 233 (by decide +kernel)
theorem tw_179 : (Cond.methodLink RX8 21 yX5_init) ∈ GW := gw_in 234 (by decide +kernel)
theorem tw_180 : (Cond.instanceMethod yX5_init) ∈ GW := gw_in 235 (by decide +kernel)
theorem tw_181 : (Cond.code yX5_init cX5_init 2 none) ∈ GW := gw_in 236 (by decide +kernel)
theorem tw_182 : (Cond.methodLink RX5 3 objectInit) ∈ GW := gw_in 237 (by decide +kernel)
theorem tw_183 : (Cond.classLink RX5 9 RX4) ∈ GW := gw_in 238 (by decide +kernel)
theorem tw_185 : (Cond.classLink RX5 21 RX0) ∈ GW := gw_in 240 (by decide +kernel)
theorem tw_187 : (Cond.fieldLink RX5 32 "CatchBars$Thinker" "world" "LCatchBars$World;") ∈ GW := gw_in 242 (by decide +kernel)
theorem tw_188 : (Cond.fieldLink RX5 12 "CatchBars$Thinker" "near" "LCatchBars$Swing;") ∈ GW := gw_in 243 (by decide +kernel)
theorem tw_189 : (Cond.fieldLink RX5 18 "CatchBars$Thinker" "far" "LCatchBars$Swing;") ∈ GW := gw_in 244 (by decide +kernel)
theorem tw_190 : (Cond.fieldLink RX5 24 "CatchBars$Thinker" "flyer" "LCatchBars$Flyer;") ∈ GW := gw_in 245 (by decide +kernel)
theorem tw_191 : (Cond.fieldLink RX5 28 "CatchBars$Thinker" "fallPlaces" "[I") ∈ GW := gw_in 246 (by decide +kernel)
theorem tw_192 : (Cond.fieldLink RX5 129 "CatchBars$Thinker" "fallCount" "I") ∈ GW := gw_in 247 (by decide +kernel)
theorem tw_193 : (Cond.fieldLink RX5 51 "CatchBars$Thinker" "lag" "I") ∈ GW := gw_in 248 (by decide +kernel)
theorem tw_194 : (Cond.fieldLink RX5 74 "CatchBars$Thinker" "comes" "I") ∈ GW := gw_in 249 (by decide +kernel)
theorem tw_196 : (Cond.fieldLink RX5 80 "CatchBars$Thinker" "place" "I") ∈ GW := gw_in 251 (by decide +kernel)
theorem tw_217 : (Cond.classLink RX8 28 RX2) ∈ GW := gw_in 272 (by decide +kernel)
theorem tw_218 : (Cond.instantiable RX2 5) ∈ GW := gw_in 273 (by decide +kernel)
theorem tw_219 : (Cond.methodLink RX8 30 yX2_init) ∈ GW := gw_in 274 (by decide +kernel)
theorem tw_220 : (Cond.instanceMethod yX2_init) ∈ GW := gw_in 275 (by decide +kernel)
theorem tw_221 : (Cond.code yX2_init cX2_init 2 none) ∈ GW := gw_in 276 (by decide +kernel)
theorem tw_222 : (Cond.methodLink RX2 3 objectInit) ∈ GW := gw_in 277 (by decide +kernel)
theorem tw_223 : (Cond.fieldLink RX2 15 "CatchBars$Reader" "world" "LCatchBars$World;") ∈ GW := gw_in 278 (by decide +kernel)
theorem tw_224 : (Cond.fieldLink RX2 9 "CatchBars$Reader" "steps" "[I") ∈ GW := gw_in 279 (by decide +kernel)
theorem tw_226 : (Cond.fieldLink RX2 19 "CatchBars$Reader" "count" "I") ∈ GW := gw_in 281 (by decide +kernel)
theorem tw_228 : (Cond.fieldLink RX2 23 "CatchBars$Reader" "at" "I") ∈ GW := gw_in 283 (by decide +kernel)
theorem tw_229 : (Cond.fieldLink RX2 26 "CatchBars$Reader" "wrong" "Z") ∈ GW := gw_in 284 (by decide +kernel)
theorem tw_241 : (Cond.classLink RX8 35 RX6) ∈ GW := gw_in 296 (by decide +kernel)
theorem tw_242 : (Cond.instantiable RX6 4) ∈ GW := gw_in 297 (by decide +kernel)
theorem tw_244 : (Cond.instanceMethod yX6_init) ∈ GW := gw_in 299 (by decide +kernel)
theorem tw_245 : (Cond.code yX6_init cX6_init 1 none) ∈ GW := gw_in 300 (by decide +kernel)
theorem tw_246 : (Cond.methodLink RX6 3 objectInit) ∈ GW := gw_in 301 (by decide +kernel)
theorem tw_247 : (Cond.classLink RX6 15 RX0) ∈ GW := gw_in 302 (by decide +kernel)
theorem tw_249 : (Cond.fieldLink RX6 9 "CatchBars$Voices" "trace" "[I") ∈ GW := gw_in 304 (by decide +kernel)
theorem tw_250 : (Cond.fieldLink RX6 22 "CatchBars$Voices" "traced" "I") ∈ GW := gw_in 305 (by decide +kernel)
theorem tw_252 : (Cond.fieldLink RX6 26 "CatchBars$Voices" "number" "I") ∈ GW := gw_in 307 (by decide +kernel)
theorem tw_253 : (Cond.fieldLink RX6 18 "CatchBars$Voices" "flyer" "LCatchBars$Flyer;") ∈ GW := gw_in 308 (by decide +kernel)
theorem tw_263 : (Cond.classLink RX8 42 RX3) ∈ GW := gw_in 318 (by decide +kernel)
theorem tw_265 : (Cond.instantiable RX3 3) ∈ GW := gw_in 320 (by decide +kernel)
theorem tw_267 : (Cond.instanceMethod yX3_init) ∈ GW := gw_in 322 (by decide +kernel)
theorem tw_268 : (Cond.code yX3_init cX3_init 1 none) ∈ GW := gw_in 323 (by decide +kernel)
theorem tw_269 : (Cond.methodLink RX3 3 objectInit) ∈ GW := gw_in 324 (by decide +kernel)
theorem tw_270 : (Cond.fieldLink RX3 9 "CatchBars$Sheet" "numbers" "[I") ∈ GW := gw_in 325 (by decide +kernel)
theorem tw_272 : (Cond.fieldLink RX3 15 "CatchBars$Sheet" "bits" "I") ∈ GW := gw_in 327 (by decide +kernel)
theorem tw_274 : (Cond.fieldLink RX3 28 "CatchBars$Sheet" "length" "I") ∈ GW := gw_in 329 (by decide +kernel)
theorem tw_284 : (Cond.fieldLink RX8 10 "CatchBars" "world" "LCatchBars$World;") ∈ GW := gw_in 339 (by decide +kernel)
theorem tw_285 : (Cond.fieldLink RX8 16 "CatchBars" "kept" "LCatchBars$World;") ∈ GW := gw_in 340 (by decide +kernel)
theorem tw_286 : (Cond.fieldLink RX8 24 "CatchBars" "thinker" "LCatchBars$Thinker;") ∈ GW := gw_in 341 (by decide +kernel)
theorem tw_287 : (Cond.fieldLink RX8 31 "CatchBars" "reader" "LCatchBars$Reader;") ∈ GW := gw_in 342 (by decide +kernel)
theorem tw_288 : (Cond.fieldLink RX8 38 "CatchBars" "voices" "LCatchBars$Voices;") ∈ GW := gw_in 343 (by decide +kernel)
theorem tw_289 : (Cond.fieldLink RX8 44 "CatchBars" "sheets" "[LCatchBars$Sheet;") ∈ GW := gw_in 344 (by decide +kernel)
theorem tw_290 : (Cond.fieldLink RX8 48 "CatchBars" "errors" "[I") ∈ GW := gw_in 345 (by decide +kernel)
theorem tw_291 : (Cond.fieldLink RX8 299 "CatchBars" "images" "I") ∈ GW := gw_in 346 (by decide +kernel)
theorem tw_309 : (Cond.methodLink RL 13 yX8_swing) ∈ GW := gw_in 364 (by decide +kernel)
theorem tw_310 : (Cond.instanceMethod yX8_swing) ∈ GW := gw_in 365 (by decide +kernel)
theorem tw_311 : (Cond.selects RX8 yX8_swing yX8_swing) ∈ GW := gw_in 366 (by decide +kernel)
theorem tw_312 : (Cond.code yX8_swing cX8_swing 5 (some .int)) ∈ GW := gw_in 367 (by decide +kernel)
theorem tw_313 : (Cond.methodLink RX8 53 yX7_swingOf) ∈ GW := gw_in 368 (by decide +kernel)
theorem tw_314 : (Cond.instanceMethod yX7_swingOf) ∈ GW := gw_in 369 (by decide +kernel)
theorem tw_315 : (Cond.selects RX7 yX7_swingOf yX7_swingOf) ∈ GW := gw_in 370 (by decide +kernel)
theorem tw_316 : (Cond.code yX7_swingOf cX7_swingOf 2 (some (.object "CatchBars$Swing"))) ∈ GW := gw_in 371 (by decide +kernel)
theorem tw_317 : (Cond.methodLink RX8 57 yX4_takes) ∈ GW := gw_in 372 (by decide +kernel)
theorem tw_318 : (Cond.instanceMethod yX4_takes) ∈ GW := gw_in 373 (by decide +kernel)
theorem tw_319 : (Cond.selects RX4 yX4_takes yX4_takes) ∈ GW := gw_in 374 (by decide +kernel)
theorem tw_320 : (Cond.code yX4_takes cX4_takes 3 (some .boolean)) ∈ GW := gw_in 375 (by decide +kernel)
theorem tw_322 : (Cond.static yX8_within) ∈ GW := gw_in 377 (by decide +kernel)
theorem tw_323 : (Cond.code yX8_within cX8_within 3 (some .boolean)) ∈ GW := gw_in 378 (by decide +kernel)
theorem tw_324 : (Cond.methodLink RX8 63 yX8_error) ∈ GW := gw_in 379 (by decide +kernel)
theorem tw_326 : (Cond.instanceMethod yX8_error) ∈ GW := gw_in 381 (by decide +kernel)
theorem tw_327 : (Cond.code yX8_error cX8_error 2 (some .int)) ∈ GW := gw_in 382 (by decide +kernel)
theorem tw_328 : (Cond.methodLink RX8 71 yX8_within) ∈ GW := gw_in 383 (by decide +kernel)
theorem tw_329 : (Cond.constant RX8 321 (-1000000000)) ∈ GW := gw_in 384 (by decide +kernel)
theorem tw_330 : (Cond.methodLink RX8 67 yX4_change) ∈ GW := gw_in 385 (by decide +kernel)
theorem tw_331 : (Cond.instanceMethod yX4_change) ∈ GW := gw_in 386 (by decide +kernel)
theorem tw_332 : (Cond.selects RX4 yX4_change yX4_change) ∈ GW := gw_in 387 (by decide +kernel)
theorem tw_333 : (Cond.code yX4_change cX4_change 4 (some .int)) ∈ GW := gw_in 388 (by decide +kernel)
theorem tw_334 : (Cond.methodLink RX4 25 yJ9_max_7cf53) ∈ GW := gw_in 389 (by decide +kernel)
theorem tw_335 : (Cond.static yJ9_max_7cf53) ∈ GW := gw_in 390 (by decide +kernel)
theorem tw_336 : (Cond.code yJ9_max_7cf53 cJ9_max_7cf53 2 (some .int)) ∈ GW := gw_in 391 (by decide +kernel)
theorem tw_337 : (Cond.methodLink RL 18 yX8_bar) ∈ GW := gw_in 392 (by decide +kernel)
theorem tw_338 : (Cond.instanceMethod yX8_bar) ∈ GW := gw_in 393 (by decide +kernel)
theorem tw_339 : (Cond.selects RX8 yX8_bar yX8_bar) ∈ GW := gw_in 394 (by decide +kernel)
theorem tw_340 : (Cond.code yX8_bar cX8_bar 4 (some .int)) ∈ GW := gw_in 395 (by decide +kernel)
theorem tw_341 : (Cond.methodLink RX8 75 yX4_placeAt) ∈ GW := gw_in 396 (by decide +kernel)
theorem tw_342 : (Cond.instanceMethod yX4_placeAt) ∈ GW := gw_in 397 (by decide +kernel)
theorem tw_343 : (Cond.selects RX4 yX4_placeAt yX4_placeAt) ∈ GW := gw_in 398 (by decide +kernel)
theorem tw_344 : (Cond.code yX4_placeAt cX4_placeAt 4 (some .int)) ∈ GW := gw_in 399 (by decide +kernel)
theorem tw_345 : (Cond.methodLink RX4 31 yJ9_floorMod_7cf53) ∈ GW := gw_in 400 (by decide +kernel)
theorem tw_346 : (Cond.static yJ9_floorMod_7cf53) ∈ GW := gw_in 401 (by decide +kernel)
theorem tw_347 : (Cond.code yJ9_floorMod_7cf53 cJ9_floorMod_7cf53 3 (some .int)) ∈ GW := gw_in 402 (by decide +kernel)
theorem tw_348 : (Cond.methodLink RX4 34 yJ9_abs_0f7a4) ∈ GW := gw_in 403 (by decide +kernel)
theorem tw_349 : (Cond.static yJ9_abs_0f7a4) ∈ GW := gw_in 404 (by decide +kernel)
theorem tw_350 : (Cond.code yJ9_abs_0f7a4 cJ9_abs_0f7a4 1 (some .int)) ∈ GW := gw_in 405 (by decide +kernel)
theorem tw_351 : (Cond.methodLink RL 23 yX8_set) ∈ GW := gw_in 406 (by decide +kernel)
theorem tw_352 : (Cond.instanceMethod yX8_set) ∈ GW := gw_in 407 (by decide +kernel)
theorem tw_353 : (Cond.selects RX8 yX8_set yX8_set) ∈ GW := gw_in 408 (by decide +kernel)
theorem tw_354 : (Cond.code yX8_set cX8_set 4 (some .int)) ∈ GW := gw_in 409 (by decide +kernel)
theorem tw_355 : (Cond.methodLink RL 27 yX8_flyer) ∈ GW := gw_in 410 (by decide +kernel)
theorem tw_356 : (Cond.instanceMethod yX8_flyer) ∈ GW := gw_in 411 (by decide +kernel)
theorem tw_357 : (Cond.selects RX8 yX8_flyer yX8_flyer) ∈ GW := gw_in 412 (by decide +kernel)
theorem tw_358 : (Cond.code yX8_flyer cX8_flyer 3 (some .int)) ∈ GW := gw_in 413 (by decide +kernel)
theorem tw_359 : (Cond.methodLink RX8 88 yX8_isKindAndNumber) ∈ GW := gw_in 414 (by decide +kernel)
theorem tw_360 : (Cond.static yX8_isKindAndNumber) ∈ GW := gw_in 415 (by decide +kernel)
theorem tw_361 : (Cond.code yX8_isKindAndNumber cX8_isKindAndNumber 1 (some .boolean)) ∈ GW := gw_in 416 (by decide +kernel)
theorem tw_362 : (Cond.methodLink RX8 95 yX7_flyerOf) ∈ GW := gw_in 417 (by decide +kernel)
theorem tw_363 : (Cond.instanceMethod yX7_flyerOf) ∈ GW := gw_in 418 (by decide +kernel)
theorem tw_364 : (Cond.selects RX7 yX7_flyerOf yX7_flyerOf) ∈ GW := gw_in 419 (by decide +kernel)
theorem tw_365 : (Cond.code yX7_flyerOf cX7_flyerOf 2 (some (.object "CatchBars$Flyer"))) ∈ GW := gw_in 420 (by decide +kernel)
theorem tw_366 : (Cond.methodLink RX8 99 yX0_begin) ∈ GW := gw_in 421 (by decide +kernel)
theorem tw_367 : (Cond.instanceMethod yX0_begin) ∈ GW := gw_in 422 (by decide +kernel)
theorem tw_368 : (Cond.selects RX0 yX0_begin yX0_begin) ∈ GW := gw_in 423 (by decide +kernel)
theorem tw_369 : (Cond.code yX0_begin cX0_begin 2 none) ∈ GW := gw_in 424 (by decide +kernel)
theorem tw_370 : (Cond.methodLink RX0 9 yX0_take) ∈ GW := gw_in 425 (by decide +kernel)
theorem tw_371 : (Cond.instanceMethod yX0_take) ∈ GW := gw_in 426 (by decide +kernel)
theorem tw_372 : (Cond.selects RX0 yX0_take yX0_take) ∈ GW := gw_in 427 (by decide +kernel)
theorem tw_373 : (Cond.code yX0_take cX0_take 2 none) ∈ GW := gw_in 428 (by decide +kernel)
theorem tw_374 : (Cond.methodLink RL 32 yX8_ofFlyer) ∈ GW := gw_in 429 (by decide +kernel)
theorem tw_375 : (Cond.instanceMethod yX8_ofFlyer) ∈ GW := gw_in 430 (by decide +kernel)
theorem tw_376 : (Cond.selects RX8 yX8_ofFlyer yX8_ofFlyer) ∈ GW := gw_in 431 (by decide +kernel)
theorem tw_377 : (Cond.code yX8_ofFlyer cX8_ofFlyer 4 (some .int)) ∈ GW := gw_in 432 (by decide +kernel)
theorem tw_378 : (Cond.methodLink RX8 117 yX0_lag) ∈ GW := gw_in 433 (by decide +kernel)
theorem tw_379 : (Cond.instanceMethod yX0_lag) ∈ GW := gw_in 434 (by decide +kernel)
theorem tw_380 : (Cond.selects RX0 yX0_lag yX0_lag) ∈ GW := gw_in 435 (by decide +kernel)
theorem tw_381 : (Cond.code yX0_lag cX0_lag 1 (some .int)) ∈ GW := gw_in 436 (by decide +kernel)
theorem tw_382 : (Cond.methodLink RX8 121 yX0_holds) ∈ GW := gw_in 437 (by decide +kernel)
theorem tw_383 : (Cond.instanceMethod yX0_holds) ∈ GW := gw_in 438 (by decide +kernel)
theorem tw_384 : (Cond.selects RX0 yX0_holds yX0_holds) ∈ GW := gw_in 439 (by decide +kernel)
theorem tw_385 : (Cond.code yX0_holds cX0_holds 2 (some .int)) ∈ GW := gw_in 440 (by decide +kernel)
theorem tw_386 : (Cond.methodLink RX0 32 yJ9_max_7cf53) ∈ GW := gw_in 441 (by decide +kernel)
theorem tw_387 : (Cond.methodLink RX8 124 yX0_harm) ∈ GW := gw_in 442 (by decide +kernel)
theorem tw_388 : (Cond.instanceMethod yX0_harm) ∈ GW := gw_in 443 (by decide +kernel)
theorem tw_389 : (Cond.selects RX0 yX0_harm yX0_harm) ∈ GW := gw_in 444 (by decide +kernel)
theorem tw_390 : (Cond.code yX0_harm cX0_harm 2 (some .int)) ∈ GW := gw_in 445 (by decide +kernel)
theorem tw_391 : (Cond.methodLink RL 36 yX8_become) ∈ GW := gw_in 446 (by decide +kernel)
theorem tw_392 : (Cond.instanceMethod yX8_become) ∈ GW := gw_in 447 (by decide +kernel)
theorem tw_393 : (Cond.selects RX8 yX8_become yX8_become) ∈ GW := gw_in 448 (by decide +kernel)
theorem tw_394 : (Cond.code yX8_become cX8_become 5 (some .int)) ∈ GW := gw_in 449 (by decide +kernel)
theorem tw_395 : (Cond.methodLink RX8 127 yX0_take) ∈ GW := gw_in 450 (by decide +kernel)
theorem tw_396 : (Cond.methodLink RL 40 yX8_as) ∈ GW := gw_in 451 (by decide +kernel)
theorem tw_397 : (Cond.instanceMethod yX8_as) ∈ GW := gw_in 452 (by decide +kernel)
theorem tw_398 : (Cond.selects RX8 yX8_as yX8_as) ∈ GW := gw_in 453 (by decide +kernel)
theorem tw_399 : (Cond.code yX8_as cX8_as 4 (some .int)) ∈ GW := gw_in 454 (by decide +kernel)
theorem tw_400 : (Cond.methodLink RX8 130 yX0_isOf) ∈ GW := gw_in 455 (by decide +kernel)
theorem tw_401 : (Cond.instanceMethod yX0_isOf) ∈ GW := gw_in 456 (by decide +kernel)
theorem tw_402 : (Cond.selects RX0 yX0_isOf yX0_isOf) ∈ GW := gw_in 457 (by decide +kernel)
theorem tw_403 : (Cond.code yX0_isOf cX0_isOf 4 (some .boolean)) ∈ GW := gw_in 458 (by decide +kernel)
theorem tw_404 : (Cond.methodLink RX0 28 yX0_kindAbove) ∈ GW := gw_in 459 (by decide +kernel)
theorem tw_405 : (Cond.static yX0_kindAbove) ∈ GW := gw_in 460 (by decide +kernel)
theorem tw_406 : (Cond.code yX0_kindAbove cX0_kindAbove 1 (some .int)) ∈ GW := gw_in 461 (by decide +kernel)
theorem tw_407 : (Cond.methodLink RL 44 yX8_turn) ∈ GW := gw_in 462 (by decide +kernel)
theorem tw_408 : (Cond.instanceMethod yX8_turn) ∈ GW := gw_in 463 (by decide +kernel)
theorem tw_409 : (Cond.selects RX8 yX8_turn yX8_turn) ∈ GW := gw_in 464 (by decide +kernel)
theorem tw_410 : (Cond.code yX8_turn cX8_turn 5 (some .int)) ∈ GW := gw_in 465 (by decide +kernel)
theorem tw_411 : (Cond.methodLink RL 50 yX8_feed) ∈ GW := gw_in 466 (by decide +kernel)
theorem tw_412 : (Cond.instanceMethod yX8_feed) ∈ GW := gw_in 467 (by decide +kernel)
theorem tw_413 : (Cond.selects RX8 yX8_feed yX8_feed) ∈ GW := gw_in 468 (by decide +kernel)
theorem tw_414 : (Cond.code yX8_feed cX8_feed 5 (some .int)) ∈ GW := gw_in 469 (by decide +kernel)
theorem tw_415 : (Cond.methodLink RX8 136 yX7_addByte) ∈ GW := gw_in 470 (by decide +kernel)
theorem tw_416 : (Cond.instanceMethod yX7_addByte) ∈ GW := gw_in 471 (by decide +kernel)
theorem tw_417 : (Cond.selects RX7 yX7_addByte yX7_addByte) ∈ GW := gw_in 472 (by decide +kernel)
theorem tw_418 : (Cond.code yX7_addByte cX7_addByte 2 none) ∈ GW := gw_in 473 (by decide +kernel)
theorem tw_419 : (Cond.methodLink RL 55 yX8_text) ∈ GW := gw_in 474 (by decide +kernel)
theorem tw_420 : (Cond.instanceMethod yX8_text) ∈ GW := gw_in 475 (by decide +kernel)
theorem tw_421 : (Cond.selects RX8 yX8_text yX8_text) ∈ GW := gw_in 476 (by decide +kernel)
theorem tw_422 : (Cond.code yX8_text cX8_text 4 (some .int)) ∈ GW := gw_in 477 (by decide +kernel)
theorem tw_423 : (Cond.methodLink RX8 139 yX7_lawOf) ∈ GW := gw_in 478 (by decide +kernel)
theorem tw_424 : (Cond.instanceMethod yX7_lawOf) ∈ GW := gw_in 479 (by decide +kernel)
theorem tw_425 : (Cond.selects RX7 yX7_lawOf yX7_lawOf) ∈ GW := gw_in 480 (by decide +kernel)
theorem tw_426 : (Cond.code yX7_lawOf cX7_lawOf 2 (some (.object "CatchBars$Law"))) ∈ GW := gw_in 481 (by decide +kernel)
theorem tw_427 : (Cond.methodLink RX8 143 yX2_readTape) ∈ GW := gw_in 482 (by decide +kernel)
theorem tw_428 : (Cond.instanceMethod yX2_readTape) ∈ GW := gw_in 483 (by decide +kernel)
theorem tw_429 : (Cond.selects RX2 yX2_readTape yX2_readTape) ∈ GW := gw_in 484 (by decide +kernel)
theorem tw_430 : (Cond.code yX2_readTape cX2_readTape 1 (some .int)) ∈ GW := gw_in 485 (by decide +kernel)
theorem tw_431 : (Cond.methodLink RX2 30 yX2_readLevel) ∈ GW := gw_in 486 (by decide +kernel)
theorem tw_433 : (Cond.instanceMethod yX2_readLevel) ∈ GW := gw_in 488 (by decide +kernel)
theorem tw_434 : (Cond.code yX2_readLevel cX2_readLevel 6 none) ∈ GW := gw_in 489 (by decide +kernel)
theorem tw_435 : (Cond.methodLink RX2 46 yX2_readPart) ∈ GW := gw_in 490 (by decide +kernel)
theorem tw_437 : (Cond.instanceMethod yX2_readPart) ∈ GW := gw_in 492 (by decide +kernel)
theorem tw_438 : (Cond.code yX2_readPart cX2_readPart 3 none) ∈ GW := gw_in 493 (by decide +kernel)
theorem tw_439 : (Cond.methodLink RX2 34 yX2_next) ∈ GW := gw_in 494 (by decide +kernel)
theorem tw_441 : (Cond.instanceMethod yX2_next) ∈ GW := gw_in 496 (by decide +kernel)
theorem tw_442 : (Cond.code yX2_next cX2_next 1 (some .int)) ∈ GW := gw_in 497 (by decide +kernel)
theorem tw_443 : (Cond.methodLink RX2 57 yX2_isDigit) ∈ GW := gw_in 498 (by decide +kernel)
theorem tw_444 : (Cond.static yX2_isDigit) ∈ GW := gw_in 499 (by decide +kernel)
theorem tw_445 : (Cond.code yX2_isDigit cX2_isDigit 1 (some .boolean)) ∈ GW := gw_in 500 (by decide +kernel)
theorem tw_446 : (Cond.methodLink RX2 61 yX2_readNumber) ∈ GW := gw_in 501 (by decide +kernel)
theorem tw_448 : (Cond.instanceMethod yX2_readNumber) ∈ GW := gw_in 503 (by decide +kernel)
theorem tw_449 : (Cond.code yX2_readNumber cX2_readNumber 3 none) ∈ GW := gw_in 504 (by decide +kernel)
theorem tw_450 : (Cond.methodLink RX2 54 yX2_addStep) ∈ GW := gw_in 505 (by decide +kernel)
theorem tw_452 : (Cond.instanceMethod yX2_addStep) ∈ GW := gw_in 507 (by decide +kernel)
theorem tw_453 : (Cond.code yX2_addStep cX2_addStep 2 none) ∈ GW := gw_in 508 (by decide +kernel)
theorem tw_454 : (Cond.methodLink RX2 50 yX2_levelOf) ∈ GW := gw_in 509 (by decide +kernel)
theorem tw_455 : (Cond.static yX2_levelOf) ∈ GW := gw_in 510 (by decide +kernel)
theorem tw_456 : (Cond.code yX2_levelOf cX2_levelOf 1 (some .int)) ∈ GW := gw_in 511 (by decide +kernel)
theorem tw_457 : (Cond.methodLink RX8 152 yX1_take) ∈ GW := gw_in 512 (by decide +kernel)
theorem tw_458 : (Cond.instanceMethod yX1_take) ∈ GW := gw_in 513 (by decide +kernel)
theorem tw_459 : (Cond.selects RX1 yX1_take yX1_take) ∈ GW := gw_in 514 (by decide +kernel)
theorem tw_460 : (Cond.code yX1_take cX1_take 4 none) ∈ GW := gw_in 515 (by decide +kernel)
theorem tw_461 : (Cond.methodLink RX1 29 yJ9_min_7cf53) ∈ GW := gw_in 516 (by decide +kernel)
theorem tw_462 : (Cond.static yJ9_min_7cf53) ∈ GW := gw_in 517 (by decide +kernel)
theorem tw_463 : (Cond.code yJ9_min_7cf53 cJ9_min_7cf53 2 (some .int)) ∈ GW := gw_in 518 (by decide +kernel)
theorem tw_464 : (Cond.methodLink RL 59 yX8_law) ∈ GW := gw_in 519 (by decide +kernel)
theorem tw_465 : (Cond.instanceMethod yX8_law) ∈ GW := gw_in 520 (by decide +kernel)
theorem tw_466 : (Cond.selects RX8 yX8_law yX8_law) ∈ GW := gw_in 521 (by decide +kernel)
theorem tw_467 : (Cond.code yX8_law cX8_law 6 (some .int)) ∈ GW := gw_in 522 (by decide +kernel)
theorem tw_468 : (Cond.methodLink RX8 157 yX1_gives) ∈ GW := gw_in 523 (by decide +kernel)
theorem tw_469 : (Cond.instanceMethod yX1_gives) ∈ GW := gw_in 524 (by decide +kernel)
theorem tw_470 : (Cond.selects RX1 yX1_gives yX1_gives) ∈ GW := gw_in 525 (by decide +kernel)
theorem tw_471 : (Cond.code yX1_gives cX1_gives 7 (some .int)) ∈ GW := gw_in 526 (by decide +kernel)
theorem tw_472 : (Cond.methodLink RX1 38 yX1_isPart) ∈ GW := gw_in 527 (by decide +kernel)
theorem tw_473 : (Cond.static yX1_isPart) ∈ GW := gw_in 528 (by decide +kernel)
theorem tw_474 : (Cond.code yX1_isPart cX1_isPart 1 (some .boolean)) ∈ GW := gw_in 529 (by decide +kernel)
theorem tw_475 : (Cond.methodLink RX1 42 yX1_joined) ∈ GW := gw_in 530 (by decide +kernel)
theorem tw_476 : (Cond.static yX1_joined) ∈ GW := gw_in 531 (by decide +kernel)
theorem tw_477 : (Cond.code yX1_joined cX1_joined 3 (some .int)) ∈ GW := gw_in 532 (by decide +kernel)
theorem tw_478 : (Cond.methodLink RX1 46 yJ9_max_7cf53) ∈ GW := gw_in 533 (by decide +kernel)
theorem tw_479 : (Cond.methodLink RL 64 yX8_go) ∈ GW := gw_in 534 (by decide +kernel)
theorem tw_480 : (Cond.instanceMethod yX8_go) ∈ GW := gw_in 535 (by decide +kernel)
theorem tw_481 : (Cond.selects RX8 yX8_go yX8_go) ∈ GW := gw_in 536 (by decide +kernel)
theorem tw_482 : (Cond.code yX8_go cX8_go 3 (some .int)) ∈ GW := gw_in 537 (by decide +kernel)
theorem tw_483 : (Cond.methodLink RX8 164 yX8_goToldAt) ∈ GW := gw_in 538 (by decide +kernel)
theorem tw_485 : (Cond.instanceMethod yX8_goToldAt) ∈ GW := gw_in 540 (by decide +kernel)
theorem tw_486 : (Cond.code yX8_goToldAt cX8_goToldAt 5 (some .int)) ∈ GW := gw_in 541 (by decide +kernel)
theorem tw_487 : (Cond.methodLink RX8 174 yX5_start) ∈ GW := gw_in 542 (by decide +kernel)
theorem tw_488 : (Cond.instanceMethod yX5_start) ∈ GW := gw_in 543 (by decide +kernel)
theorem tw_489 : (Cond.selects RX5 yX5_start yX5_start) ∈ GW := gw_in 544 (by decide +kernel)
theorem tw_490 : (Cond.code yX5_start cX5_start 2 none) ∈ GW := gw_in 545 (by decide +kernel)
theorem tw_491 : (Cond.methodLink RX5 39 yX4_copy) ∈ GW := gw_in 546 (by decide +kernel)
theorem tw_492 : (Cond.instanceMethod yX4_copy) ∈ GW := gw_in 547 (by decide +kernel)
theorem tw_493 : (Cond.selects RX4 yX4_copy yX4_copy) ∈ GW := gw_in 548 (by decide +kernel)
theorem tw_494 : (Cond.code yX4_copy cX4_copy 2 none) ∈ GW := gw_in 549 (by decide +kernel)
theorem tw_495 : (Cond.methodLink RX5 44 yX0_copy) ∈ GW := gw_in 550 (by decide +kernel)
theorem tw_496 : (Cond.instanceMethod yX0_copy) ∈ GW := gw_in 551 (by decide +kernel)
theorem tw_497 : (Cond.selects RX0 yX0_copy yX0_copy) ∈ GW := gw_in 552 (by decide +kernel)
theorem tw_498 : (Cond.code yX0_copy cX0_copy 2 none) ∈ GW := gw_in 553 (by decide +kernel)
theorem tw_499 : (Cond.methodLink RX5 47 yX0_lag) ∈ GW := gw_in 554 (by decide +kernel)
theorem tw_500 : (Cond.methodLink RX8 178 yX5_isCaught) ∈ GW := gw_in 555 (by decide +kernel)
theorem tw_501 : (Cond.instanceMethod yX5_isCaught) ∈ GW := gw_in 556 (by decide +kernel)
theorem tw_502 : (Cond.selects RX5 yX5_isCaught yX5_isCaught) ∈ GW := gw_in 557 (by decide +kernel)
theorem tw_503 : (Cond.code yX5_isCaught cX5_isCaught 2 (some .boolean)) ∈ GW := gw_in 558 (by decide +kernel)
theorem tw_504 : (Cond.methodLink RX5 97 yX5_fly) ∈ GW := gw_in 559 (by decide +kernel)
theorem tw_505 : (Cond.instanceMethod yX5_fly) ∈ GW := gw_in 560 (by decide +kernel)
theorem tw_506 : (Cond.selects RX5 yX5_fly yX5_fly) ∈ GW := gw_in 561 (by decide +kernel)
theorem tw_507 : (Cond.code yX5_fly cX5_fly 6 none) ∈ GW := gw_in 562 (by decide +kernel)
theorem tw_508 : (Cond.methodLink RX5 54 yX4_placeAt) ∈ GW := gw_in 563 (by decide +kernel)
theorem tw_509 : (Cond.methodLink RX5 68 yX1_gives) ∈ GW := gw_in 564 (by decide +kernel)
theorem tw_510 : (Cond.methodLink RX5 101 yX5_off) ∈ GW := gw_in 565 (by decide +kernel)
theorem tw_511 : (Cond.instanceMethod yX5_off) ∈ GW := gw_in 566 (by decide +kernel)
theorem tw_512 : (Cond.selects RX5 yX5_off yX5_off) ∈ GW := gw_in 567 (by decide +kernel)
theorem tw_513 : (Cond.code yX5_off cX5_off 2 (some .int)) ∈ GW := gw_in 568 (by decide +kernel)
theorem tw_514 : (Cond.methodLink RX5 104 yX5_isHeld) ∈ GW := gw_in 569 (by decide +kernel)
theorem tw_516 : (Cond.instanceMethod yX5_isHeld) ∈ GW := gw_in 571 (by decide +kernel)
theorem tw_517 : (Cond.code yX5_isHeld cX5_isHeld 2 (some .boolean)) ∈ GW := gw_in 572 (by decide +kernel)
theorem tw_518 : (Cond.methodLink RX5 86 yJ9_abs_0f7a4) ∈ GW := gw_in 573 (by decide +kernel)
theorem tw_519 : (Cond.methodLink RX5 94 yX0_holds) ∈ GW := gw_in 574 (by decide +kernel)
theorem tw_520 : (Cond.methodLink RX8 190 yJ9_abs_0f7a4) ∈ GW := gw_in 575 (by decide +kernel)
theorem tw_521 : (Cond.methodLink RX8 322 yJ9_min_7cf53) ∈ GW := gw_in 576 (by decide +kernel)
theorem tw_522 : (Cond.constant RX8 325 99999) ∈ GW := gw_in 577 (by decide +kernel)
theorem tw_523 : (Cond.methodLink RL 68 yX8_ticks) ∈ GW := gw_in 578 (by decide +kernel)
theorem tw_524 : (Cond.instanceMethod yX8_ticks) ∈ GW := gw_in 579 (by decide +kernel)
theorem tw_525 : (Cond.selects RX8 yX8_ticks yX8_ticks) ∈ GW := gw_in 580 (by decide +kernel)
theorem tw_526 : (Cond.code yX8_ticks cX8_ticks 2 (some .int)) ∈ GW := gw_in 581 (by decide +kernel)
theorem tw_527 : (Cond.methodLink RL 72 yX8_evenings) ∈ GW := gw_in 582 (by decide +kernel)
theorem tw_528 : (Cond.instanceMethod yX8_evenings) ∈ GW := gw_in 583 (by decide +kernel)
theorem tw_529 : (Cond.selects RX8 yX8_evenings yX8_evenings) ∈ GW := gw_in 584 (by decide +kernel)
theorem tw_530 : (Cond.code yX8_evenings cX8_evenings 3 (some .int)) ∈ GW := gw_in 585 (by decide +kernel)
theorem tw_531 : (Cond.methodLink RX8 168 yX8_oneEvening) ∈ GW := gw_in 586 (by decide +kernel)
theorem tw_533 : (Cond.instanceMethod yX8_oneEvening) ∈ GW := gw_in 588 (by decide +kernel)
theorem tw_534 : (Cond.code yX8_oneEvening cX8_oneEvening 4 none) ∈ GW := gw_in 589 (by decide +kernel)
theorem tw_535 : (Cond.methodLink RX8 326 yX7_draw) ∈ GW := gw_in 590 (by decide +kernel)
theorem tw_536 : (Cond.instanceMethod yX7_draw) ∈ GW := gw_in 591 (by decide +kernel)
theorem tw_537 : (Cond.selects RX7 yX7_draw yX7_draw) ∈ GW := gw_in 592 (by decide +kernel)
theorem tw_538 : (Cond.code yX7_draw cX7_draw 1 (some .int)) ∈ GW := gw_in 593 (by decide +kernel)
theorem tw_539 : (Cond.constant RX7 69 1103515245) ∈ GW := gw_in 594 (by decide +kernel)
theorem tw_540 : (Cond.methodLink RL 76 yX8_rest) ∈ GW := gw_in 595 (by decide +kernel)
theorem tw_541 : (Cond.instanceMethod yX8_rest) ∈ GW := gw_in 596 (by decide +kernel)
theorem tw_542 : (Cond.selects RX8 yX8_rest yX8_rest) ∈ GW := gw_in 597 (by decide +kernel)
theorem tw_543 : (Cond.code yX8_rest cX8_rest 4 (some .int)) ∈ GW := gw_in 598 (by decide +kernel)
theorem tw_544 : (Cond.methodLink RL 81 yX8_then) ∈ GW := gw_in 599 (by decide +kernel)
theorem tw_545 : (Cond.instanceMethod yX8_then) ∈ GW := gw_in 600 (by decide +kernel)
theorem tw_546 : (Cond.selects RX8 yX8_then yX8_then) ∈ GW := gw_in 601 (by decide +kernel)
theorem tw_547 : (Cond.code yX8_then cX8_then 6 (some .int)) ∈ GW := gw_in 602 (by decide +kernel)
theorem tw_548 : (Cond.methodLink RX8 181 yX5_off) ∈ GW := gw_in 603 (by decide +kernel)
theorem tw_549 : (Cond.methodLink RL 85 yX8_can) ∈ GW := gw_in 604 (by decide +kernel)
theorem tw_550 : (Cond.instanceMethod yX8_can) ∈ GW := gw_in 605 (by decide +kernel)
theorem tw_551 : (Cond.selects RX8 yX8_can yX8_can) ∈ GW := gw_in 606 (by decide +kernel)
theorem tw_552 : (Cond.code yX8_can cX8_can 5 (some .int)) ∈ GW := gw_in 607 (by decide +kernel)
theorem tw_553 : (Cond.methodLink RX8 195 yX8_isSpan) ∈ GW := gw_in 608 (by decide +kernel)
theorem tw_554 : (Cond.static yX8_isSpan) ∈ GW := gw_in 609 (by decide +kernel)
theorem tw_555 : (Cond.code yX8_isSpan cX8_isSpan 1 (some .boolean)) ∈ GW := gw_in 610 (by decide +kernel)
theorem tw_556 : (Cond.methodLink RX8 198 yX5_howManyCaught) ∈ GW := gw_in 611 (by decide +kernel)
theorem tw_557 : (Cond.instanceMethod yX5_howManyCaught) ∈ GW := gw_in 612 (by decide +kernel)
theorem tw_558 : (Cond.selects RX5 yX5_howManyCaught yX5_howManyCaught) ∈ GW := gw_in 613 (by decide +kernel)
theorem tw_559 : (Cond.code yX5_howManyCaught cX5_howManyCaught 4 (some .int)) ∈ GW := gw_in 614 (by decide +kernel)
theorem tw_560 : (Cond.methodLink RX5 111 yX5_isCaught) ∈ GW := gw_in 615 (by decide +kernel)
theorem tw_561 : (Cond.methodLink RX8 201 yX5_firstCaught) ∈ GW := gw_in 616 (by decide +kernel)
theorem tw_562 : (Cond.instanceMethod yX5_firstCaught) ∈ GW := gw_in 617 (by decide +kernel)
theorem tw_563 : (Cond.selects RX5 yX5_firstCaught yX5_firstCaught) ∈ GW := gw_in 618 (by decide +kernel)
theorem tw_564 : (Cond.code yX5_firstCaught cX5_firstCaught 3 (some .int)) ∈ GW := gw_in 619 (by decide +kernel)
theorem tw_565 : (Cond.methodLink RX8 204 yX8_orNone) ∈ GW := gw_in 620 (by decide +kernel)
theorem tw_567 : (Cond.instanceMethod yX8_orNone) ∈ GW := gw_in 622 (by decide +kernel)
theorem tw_568 : (Cond.code yX8_orNone cX8_orNone 2 (some .int)) ∈ GW := gw_in 623 (by decide +kernel)
theorem tw_569 : (Cond.methodLink RL 89 yX8_surest) ∈ GW := gw_in 624 (by decide +kernel)
theorem tw_570 : (Cond.instanceMethod yX8_surest) ∈ GW := gw_in 625 (by decide +kernel)
theorem tw_571 : (Cond.selects RX8 yX8_surest yX8_surest) ∈ GW := gw_in 626 (by decide +kernel)
theorem tw_572 : (Cond.code yX8_surest cX8_surest 4 (some .int)) ∈ GW := gw_in 627 (by decide +kernel)
theorem tw_573 : (Cond.methodLink RX8 207 yX5_surestWait) ∈ GW := gw_in 628 (by decide +kernel)
theorem tw_574 : (Cond.instanceMethod yX5_surestWait) ∈ GW := gw_in 629 (by decide +kernel)
theorem tw_575 : (Cond.selects RX5 yX5_surestWait yX5_surestWait) ∈ GW := gw_in 630 (by decide +kernel)
theorem tw_576 : (Cond.code yX5_surestWait cX5_surestWait 6 (some .int)) ∈ GW := gw_in 631 (by decide +kernel)
theorem tw_577 : (Cond.methodLink RX5 114 yX5_casesCaught) ∈ GW := gw_in 632 (by decide +kernel)
theorem tw_578 : (Cond.instanceMethod yX5_casesCaught) ∈ GW := gw_in 633 (by decide +kernel)
theorem tw_579 : (Cond.selects RX5 yX5_casesCaught yX5_casesCaught) ∈ GW := gw_in 634 (by decide +kernel)
theorem tw_580 : (Cond.code yX5_casesCaught cX5_casesCaught 5 (some .int)) ∈ GW := gw_in 635 (by decide +kernel)
theorem tw_581 : (Cond.methodLink RL 93 yX8_odds) ∈ GW := gw_in 636 (by decide +kernel)
theorem tw_582 : (Cond.instanceMethod yX8_odds) ∈ GW := gw_in 637 (by decide +kernel)
theorem tw_583 : (Cond.selects RX8 yX8_odds yX8_odds) ∈ GW := gw_in 638 (by decide +kernel)
theorem tw_584 : (Cond.code yX8_odds cX8_odds 5 (some .int)) ∈ GW := gw_in 639 (by decide +kernel)
theorem tw_585 : (Cond.methodLink RX8 210 yX5_casesCaught) ∈ GW := gw_in 640 (by decide +kernel)
theorem tw_586 : (Cond.methodLink RX8 213 yX8_partOf) ∈ GW := gw_in 641 (by decide +kernel)
theorem tw_587 : (Cond.static yX8_partOf) ∈ GW := gw_in 642 (by decide +kernel)
theorem tw_588 : (Cond.code yX8_partOf cX8_partOf 7 (some .int)) ∈ GW := gw_in 643 (by decide +kernel)
theorem tw_589 : (Cond.methodLink RX8 226 yJ9_max_7cf53) ∈ GW := gw_in 644 (by decide +kernel)
theorem tw_590 : (Cond.methodLink RL 97 yX8_pumped) ∈ GW := gw_in 645 (by decide +kernel)
theorem tw_591 : (Cond.instanceMethod yX8_pumped) ∈ GW := gw_in 646 (by decide +kernel)
theorem tw_592 : (Cond.selects RX8 yX8_pumped yX8_pumped) ∈ GW := gw_in 647 (by decide +kernel)
theorem tw_593 : (Cond.code yX8_pumped cX8_pumped 4 (some .int)) ∈ GW := gw_in 648 (by decide +kernel)
theorem tw_594 : (Cond.methodLink RX8 216 yX5_leastPumps) ∈ GW := gw_in 649 (by decide +kernel)
theorem tw_595 : (Cond.instanceMethod yX5_leastPumps) ∈ GW := gw_in 650 (by decide +kernel)
theorem tw_596 : (Cond.selects RX5 yX5_leastPumps yX5_leastPumps) ∈ GW := gw_in 651 (by decide +kernel)
theorem tw_597 : (Cond.code yX5_leastPumps cX5_leastPumps 4 (some .int)) ∈ GW := gw_in 652 (by decide +kernel)
theorem tw_598 : (Cond.methodLink RX5 120 yX5_firstCaught) ∈ GW := gw_in 653 (by decide +kernel)
theorem tw_599 : (Cond.methodLink RL 101 yX8_inStep) ∈ GW := gw_in 654 (by decide +kernel)
theorem tw_600 : (Cond.instanceMethod yX8_inStep) ∈ GW := gw_in 655 (by decide +kernel)
theorem tw_601 : (Cond.selects RX8 yX8_inStep yX8_inStep) ∈ GW := gw_in 656 (by decide +kernel)
theorem tw_602 : (Cond.code yX8_inStep cX8_inStep 4 (some .int)) ∈ GW := gw_in 657 (by decide +kernel)
theorem tw_603 : (Cond.methodLink RX8 219 yX5_leastSteps) ∈ GW := gw_in 658 (by decide +kernel)
theorem tw_604 : (Cond.instanceMethod yX5_leastSteps) ∈ GW := gw_in 659 (by decide +kernel)
theorem tw_605 : (Cond.selects RX5 yX5_leastSteps yX5_leastSteps) ∈ GW := gw_in 660 (by decide +kernel)
theorem tw_606 : (Cond.code yX5_leastSteps cX5_leastSteps 4 (some .int)) ∈ GW := gw_in 661 (by decide +kernel)
theorem tw_607 : (Cond.methodLink RL 105 yX8_mend) ∈ GW := gw_in 662 (by decide +kernel)
theorem tw_608 : (Cond.instanceMethod yX8_mend) ∈ GW := gw_in 663 (by decide +kernel)
theorem tw_609 : (Cond.selects RX8 yX8_mend yX8_mend) ∈ GW := gw_in 664 (by decide +kernel)
theorem tw_610 : (Cond.code yX8_mend cX8_mend 7 (some .int)) ∈ GW := gw_in 665 (by decide +kernel)
theorem tw_611 : (Cond.methodLink RX8 222 yX5_fly) ∈ GW := gw_in 666 (by decide +kernel)
theorem tw_612 : (Cond.methodLink RL 109 yX8_again) ∈ GW := gw_in 667 (by decide +kernel)
theorem tw_613 : (Cond.instanceMethod yX8_again) ∈ GW := gw_in 668 (by decide +kernel)
theorem tw_614 : (Cond.selects RX8 yX8_again yX8_again) ∈ GW := gw_in 669 (by decide +kernel)
theorem tw_615 : (Cond.code yX8_again cX8_again 12 (some .long)) ∈ GW := gw_in 670 (by decide +kernel)
theorem tw_616 : (Cond.methodLink RL 114 yX8_net) ∈ GW := gw_in 671 (by decide +kernel)
theorem tw_617 : (Cond.instanceMethod yX8_net) ∈ GW := gw_in 672 (by decide +kernel)
theorem tw_618 : (Cond.selects RX8 yX8_net yX8_net) ∈ GW := gw_in 673 (by decide +kernel)
theorem tw_619 : (Cond.code yX8_net cX8_net 6 (some .int)) ∈ GW := gw_in 674 (by decide +kernel)
theorem tw_620 : (Cond.methodLink RX8 229 yX5_gatherFalls) ∈ GW := gw_in 675 (by decide +kernel)
theorem tw_621 : (Cond.instanceMethod yX5_gatherFalls) ∈ GW := gw_in 676 (by decide +kernel)
theorem tw_622 : (Cond.selects RX5 yX5_gatherFalls yX5_gatherFalls) ∈ GW := gw_in 677 (by decide +kernel)
theorem tw_623 : (Cond.code yX5_gatherFalls cX5_gatherFalls 3 (some .int)) ∈ GW := gw_in 678 (by decide +kernel)
theorem tw_624 : (Cond.methodLink RX8 232 yX5_leastHarmPlace) ∈ GW := gw_in 679 (by decide +kernel)
theorem tw_625 : (Cond.instanceMethod yX5_leastHarmPlace) ∈ GW := gw_in 680 (by decide +kernel)
theorem tw_626 : (Cond.selects RX5 yX5_leastHarmPlace yX5_leastHarmPlace) ∈ GW := gw_in 681 (by decide +kernel)
theorem tw_627 : (Cond.code yX5_leastHarmPlace cX5_leastHarmPlace 5 (some .int)) ∈ GW := gw_in 682 (by decide +kernel)
theorem tw_628 : (Cond.methodLink RX5 135 yX5_harmTogether) ∈ GW := gw_in 683 (by decide +kernel)
theorem tw_629 : (Cond.instanceMethod yX5_harmTogether) ∈ GW := gw_in 684 (by decide +kernel)
theorem tw_630 : (Cond.selects RX5 yX5_harmTogether yX5_harmTogether) ∈ GW := gw_in 685 (by decide +kernel)
theorem tw_631 : (Cond.code yX5_harmTogether cX5_harmTogether 4 (some .int)) ∈ GW := gw_in 686 (by decide +kernel)
theorem tw_632 : (Cond.methodLink RX5 132 yX0_harm) ∈ GW := gw_in 687 (by decide +kernel)
theorem tw_633 : (Cond.methodLink RX8 235 yX5_harmTogether) ∈ GW := gw_in 688 (by decide +kernel)
theorem tw_634 : (Cond.methodLink RL 118 yX8_phases) ∈ GW := gw_in 689 (by decide +kernel)
theorem tw_635 : (Cond.instanceMethod yX8_phases) ∈ GW := gw_in 690 (by decide +kernel)
theorem tw_636 : (Cond.selects RX8 yX8_phases yX8_phases) ∈ GW := gw_in 691 (by decide +kernel)
theorem tw_637 : (Cond.code yX8_phases cX8_phases 7 (some .int)) ∈ GW := gw_in 692 (by decide +kernel)
theorem tw_638 : (Cond.methodLink RX8 238 yX8_sheetOf) ∈ GW := gw_in 693 (by decide +kernel)
theorem tw_640 : (Cond.instanceMethod yX8_sheetOf) ∈ GW := gw_in 695 (by decide +kernel)
theorem tw_641 : (Cond.code yX8_sheetOf cX8_sheetOf 2 (some (.object "CatchBars$Sheet"))) ∈ GW := gw_in 696 (by decide +kernel)
theorem tw_642 : (Cond.methodLink RX8 242 yX3_isMissing) ∈ GW := gw_in 697 (by decide +kernel)
theorem tw_643 : (Cond.instanceMethod yX3_isMissing) ∈ GW := gw_in 698 (by decide +kernel)
theorem tw_644 : (Cond.selects RX3 yX3_isMissing yX3_isMissing) ∈ GW := gw_in 699 (by decide +kernel)
theorem tw_645 : (Cond.code yX3_isMissing cX3_isMissing 1 (some .boolean)) ∈ GW := gw_in 700 (by decide +kernel)
theorem tw_646 : (Cond.methodLink RX8 246 yX5_firstPhase) ∈ GW := gw_in 701 (by decide +kernel)
theorem tw_647 : (Cond.instanceMethod yX5_firstPhase) ∈ GW := gw_in 702 (by decide +kernel)
theorem tw_648 : (Cond.selects RX5 yX5_firstPhase yX5_firstPhase) ∈ GW := gw_in 703 (by decide +kernel)
theorem tw_649 : (Cond.code yX5_firstPhase cX5_firstPhase 4 (some .int)) ∈ GW := gw_in 704 (by decide +kernel)
theorem tw_650 : (Cond.methodLink RX5 146 yX5_isAsTold) ∈ GW := gw_in 705 (by decide +kernel)
theorem tw_652 : (Cond.instanceMethod yX5_isAsTold) ∈ GW := gw_in 707 (by decide +kernel)
theorem tw_653 : (Cond.code yX5_isAsTold cX5_isAsTold 3 (some .boolean)) ∈ GW := gw_in 708 (by decide +kernel)
theorem tw_654 : (Cond.methodLink RX5 143 yX3_read) ∈ GW := gw_in 709 (by decide +kernel)
theorem tw_655 : (Cond.instanceMethod yX3_read) ∈ GW := gw_in 710 (by decide +kernel)
theorem tw_656 : (Cond.selects RX3 yX3_read yX3_read) ∈ GW := gw_in 711 (by decide +kernel)
theorem tw_657 : (Cond.code yX3_read cX3_read 2 (some .int)) ∈ GW := gw_in 712 (by decide +kernel)
theorem tw_658 : (Cond.methodLink RX8 250 yX5_howManyPhases) ∈ GW := gw_in 713 (by decide +kernel)
theorem tw_659 : (Cond.instanceMethod yX5_howManyPhases) ∈ GW := gw_in 714 (by decide +kernel)
theorem tw_660 : (Cond.selects RX5 yX5_howManyPhases yX5_howManyPhases) ∈ GW := gw_in 715 (by decide +kernel)
theorem tw_661 : (Cond.code yX5_howManyPhases cX5_howManyPhases 5 (some .int)) ∈ GW := gw_in 716 (by decide +kernel)
theorem tw_662 : (Cond.methodLink RX5 150 yX5_firstPhase) ∈ GW := gw_in 717 (by decide +kernel)
theorem tw_663 : (Cond.methodLink RL 122 yX8_late) ∈ GW := gw_in 718 (by decide +kernel)
theorem tw_664 : (Cond.instanceMethod yX8_late) ∈ GW := gw_in 719 (by decide +kernel)
theorem tw_665 : (Cond.selects RX8 yX8_late yX8_late) ∈ GW := gw_in 720 (by decide +kernel)
theorem tw_666 : (Cond.code yX8_late cX8_late 5 (some .int)) ∈ GW := gw_in 721 (by decide +kernel)
theorem tw_667 : (Cond.methodLink RX8 254 yX5_leastLag) ∈ GW := gw_in 722 (by decide +kernel)
theorem tw_668 : (Cond.instanceMethod yX5_leastLag) ∈ GW := gw_in 723 (by decide +kernel)
theorem tw_669 : (Cond.selects RX5 yX5_leastLag yX5_leastLag) ∈ GW := gw_in 724 (by decide +kernel)
theorem tw_670 : (Cond.code yX5_leastLag cX5_leastLag 3 (some .int)) ∈ GW := gw_in 725 (by decide +kernel)
theorem tw_671 : (Cond.methodLink RL 126 yX8_seed) ∈ GW := gw_in 726 (by decide +kernel)
theorem tw_672 : (Cond.instanceMethod yX8_seed) ∈ GW := gw_in 727 (by decide +kernel)
theorem tw_673 : (Cond.selects RX8 yX8_seed yX8_seed) ∈ GW := gw_in 728 (by decide +kernel)
theorem tw_674 : (Cond.code yX8_seed cX8_seed 3 (some .int)) ∈ GW := gw_in 729 (by decide +kernel)
theorem tw_675 : (Cond.methodLink RL 130 yX8_voice) ∈ GW := gw_in 730 (by decide +kernel)
theorem tw_676 : (Cond.instanceMethod yX8_voice) ∈ GW := gw_in 731 (by decide +kernel)
theorem tw_677 : (Cond.selects RX8 yX8_voice yX8_voice) ∈ GW := gw_in 732 (by decide +kernel)
theorem tw_678 : (Cond.code yX8_voice cX8_voice 5 (some .int)) ∈ GW := gw_in 733 (by decide +kernel)
theorem tw_679 : (Cond.methodLink RX8 260 yX6_speak) ∈ GW := gw_in 734 (by decide +kernel)
theorem tw_680 : (Cond.instanceMethod yX6_speak) ∈ GW := gw_in 735 (by decide +kernel)
theorem tw_681 : (Cond.selects RX6 yX6_speak yX6_speak) ∈ GW := gw_in 736 (by decide +kernel)
theorem tw_682 : (Cond.code yX6_speak cX6_speak 5 (some .int)) ∈ GW := gw_in 737 (by decide +kernel)
theorem tw_683 : (Cond.methodLink RX6 29 yX0_copy) ∈ GW := gw_in 738 (by decide +kernel)
theorem tw_684 : (Cond.methodLink RX6 36 yX6_say) ∈ GW := gw_in 739 (by decide +kernel)
theorem tw_686 : (Cond.instanceMethod yX6_say) ∈ GW := gw_in 741 (by decide +kernel)
theorem tw_687 : (Cond.code yX6_say cX6_say 8 (some .int)) ∈ GW := gw_in 742 (by decide +kernel)
theorem tw_688 : (Cond.methodLink RX6 47 yX6_bodyFor) ∈ GW := gw_in 743 (by decide +kernel)
theorem tw_689 : (Cond.static yX6_bodyFor) ∈ GW := gw_in 744 (by decide +kernel)
theorem tw_690 : (Cond.code yX6_bodyFor cX6_bodyFor 5 (some .int)) ∈ GW := gw_in 745 (by decide +kernel)
theorem tw_691 : (Cond.fieldLink RX6 40 "CatchBars$Voices" "BODIES" "[I") ∈ GW := gw_in 746 (by decide +kernel)
theorem tw_693 : (Cond.methodLink RX6 43 yX0_kindAbove) ∈ GW := gw_in 748 (by decide +kernel)
theorem tw_694 : (Cond.methodLink RX6 51 yX6_note) ∈ GW := gw_in 749 (by decide +kernel)
theorem tw_696 : (Cond.instanceMethod yX6_note) ∈ GW := gw_in 751 (by decide +kernel)
theorem tw_697 : (Cond.code yX6_note cX6_note 2 none) ∈ GW := gw_in 752 (by decide +kernel)
theorem tw_698 : (Cond.methodLink RX6 55 yX6_own) ∈ GW := gw_in 753 (by decide +kernel)
theorem tw_700 : (Cond.instanceMethod yX6_own) ∈ GW := gw_in 755 (by decide +kernel)
theorem tw_701 : (Cond.code yX6_own cX6_own 4 (some .int)) ∈ GW := gw_in 756 (by decide +kernel)
theorem tw_702 : (Cond.methodLink RL 134 yX8_trace) ∈ GW := gw_in 757 (by decide +kernel)
theorem tw_703 : (Cond.instanceMethod yX8_trace) ∈ GW := gw_in 758 (by decide +kernel)
theorem tw_704 : (Cond.selects RX8 yX8_trace yX8_trace) ∈ GW := gw_in 759 (by decide +kernel)
theorem tw_705 : (Cond.code yX8_trace cX8_trace 2 (some .int)) ∈ GW := gw_in 760 (by decide +kernel)
theorem tw_706 : (Cond.methodLink RX8 267 yX6_bodyAt) ∈ GW := gw_in 761 (by decide +kernel)
theorem tw_707 : (Cond.instanceMethod yX6_bodyAt) ∈ GW := gw_in 762 (by decide +kernel)
theorem tw_708 : (Cond.selects RX6 yX6_bodyAt yX6_bodyAt) ∈ GW := gw_in 763 (by decide +kernel)
theorem tw_709 : (Cond.code yX6_bodyAt cX6_bodyAt 2 (some .int)) ∈ GW := gw_in 764 (by decide +kernel)
theorem tw_710 : (Cond.methodLink RL 138 yX8_sheet) ∈ GW := gw_in 765 (by decide +kernel)
theorem tw_711 : (Cond.instanceMethod yX8_sheet) ∈ GW := gw_in 766 (by decide +kernel)
theorem tw_712 : (Cond.selects RX8 yX8_sheet yX8_sheet) ∈ GW := gw_in 767 (by decide +kernel)
theorem tw_713 : (Cond.code yX8_sheet cX8_sheet 5 (some .int)) ∈ GW := gw_in 768 (by decide +kernel)
theorem tw_714 : (Cond.methodLink RX8 270 yX3_begin) ∈ GW := gw_in 769 (by decide +kernel)
theorem tw_715 : (Cond.instanceMethod yX3_begin) ∈ GW := gw_in 770 (by decide +kernel)
theorem tw_716 : (Cond.selects RX3 yX3_begin yX3_begin) ∈ GW := gw_in 771 (by decide +kernel)
theorem tw_717 : (Cond.code yX3_begin cX3_begin 4 none) ∈ GW := gw_in 772 (by decide +kernel)
theorem tw_718 : (Cond.methodLink RX3 19 yJ9_min_7cf53) ∈ GW := gw_in 773 (by decide +kernel)
theorem tw_719 : (Cond.methodLink RX3 25 yJ9_max_7cf53) ∈ GW := gw_in 774 (by decide +kernel)
theorem tw_720 : (Cond.methodLink RL 142 yX8_put) ∈ GW := gw_in 775 (by decide +kernel)
theorem tw_721 : (Cond.instanceMethod yX8_put) ∈ GW := gw_in 776 (by decide +kernel)
theorem tw_722 : (Cond.selects RX8 yX8_put yX8_put) ∈ GW := gw_in 777 (by decide +kernel)
theorem tw_723 : (Cond.code yX8_put cX8_put 5 (some .int)) ∈ GW := gw_in 778 (by decide +kernel)
theorem tw_724 : (Cond.methodLink RX8 275 yX3_write) ∈ GW := gw_in 779 (by decide +kernel)
theorem tw_725 : (Cond.instanceMethod yX3_write) ∈ GW := gw_in 780 (by decide +kernel)
theorem tw_726 : (Cond.selects RX3 yX3_write yX3_write) ∈ GW := gw_in 781 (by decide +kernel)
theorem tw_727 : (Cond.code yX3_write cX3_write 3 none) ∈ GW := gw_in 782 (by decide +kernel)
theorem tw_728 : (Cond.methodLink RL 146 yX8_move) ∈ GW := gw_in 783 (by decide +kernel)
theorem tw_729 : (Cond.instanceMethod yX8_move) ∈ GW := gw_in 784 (by decide +kernel)
theorem tw_730 : (Cond.selects RX8 yX8_move yX8_move) ∈ GW := gw_in 785 (by decide +kernel)
theorem tw_731 : (Cond.code yX8_move cX8_move 8 (some .int)) ∈ GW := gw_in 786 (by decide +kernel)
theorem tw_732 : (Cond.methodLink RX8 281 yX3_hasRow) ∈ GW := gw_in 787 (by decide +kernel)
theorem tw_733 : (Cond.instanceMethod yX3_hasRow) ∈ GW := gw_in 788 (by decide +kernel)
theorem tw_734 : (Cond.selects RX3 yX3_hasRow yX3_hasRow) ∈ GW := gw_in 789 (by decide +kernel)
theorem tw_735 : (Cond.code yX3_hasRow cX3_hasRow 3 (some .boolean)) ∈ GW := gw_in 790 (by decide +kernel)
theorem tw_736 : (Cond.methodLink RX8 287 arraycopyName) ∈ GW := gw_in 791 (by decide +kernel)
theorem tw_737 : (Cond.static arraycopyName) ∈ GW := gw_in 792 (by decide +kernel)
theorem tw_738 : (Cond.native arraycopyName) ∈ GW := gw_in 793 (by decide +kernel)
theorem tw_739 : (Cond.methodLink RL 151 yX8_turns) ∈ GW := gw_in 794 (by decide +kernel)
theorem tw_740 : (Cond.instanceMethod yX8_turns) ∈ GW := gw_in 795 (by decide +kernel)
theorem tw_741 : (Cond.selects RX8 yX8_turns yX8_turns) ∈ GW := gw_in 796 (by decide +kernel)
theorem tw_742 : (Cond.code yX8_turns cX8_turns 5 (some .int)) ∈ GW := gw_in 797 (by decide +kernel)
theorem tw_743 : (Cond.methodLink RX8 293 yX3_read) ∈ GW := gw_in 798 (by decide +kernel)
theorem tw_744 : (Cond.methodLink RL 155 yX8_judge) ∈ GW := gw_in 799 (by decide +kernel)
theorem tw_745 : (Cond.instanceMethod yX8_judge) ∈ GW := gw_in 800 (by decide +kernel)
theorem tw_746 : (Cond.selects RX8 yX8_judge yX8_judge) ∈ GW := gw_in 801 (by decide +kernel)
theorem tw_747 : (Cond.code yX8_judge cX8_judge 5 (some .int)) ∈ GW := gw_in 802 (by decide +kernel)
theorem tw_748 : (Cond.methodLink RL 159 yX8_image) ∈ GW := gw_in 803 (by decide +kernel)
theorem tw_749 : (Cond.instanceMethod yX8_image) ∈ GW := gw_in 804 (by decide +kernel)
theorem tw_750 : (Cond.selects RX8 yX8_image yX8_image) ∈ GW := gw_in 805 (by decide +kernel)
theorem tw_751 : (Cond.code yX8_image cX8_image 1 (some .int)) ∈ GW := gw_in 806 (by decide +kernel)
theorem tw_752 : (Cond.methodLink RX8 296 yX7_copy) ∈ GW := gw_in 807 (by decide +kernel)
theorem tw_753 : (Cond.instanceMethod yX7_copy) ∈ GW := gw_in 808 (by decide +kernel)
theorem tw_754 : (Cond.selects RX7 yX7_copy yX7_copy) ∈ GW := gw_in 809 (by decide +kernel)
theorem tw_755 : (Cond.code yX7_copy cX7_copy 5 none) ∈ GW := gw_in 810 (by decide +kernel)
theorem tw_756 : (Cond.methodLink RX7 70 yX4_copy) ∈ GW := gw_in 811 (by decide +kernel)
theorem tw_757 : (Cond.methodLink RX7 77 yX0_copy) ∈ GW := gw_in 812 (by decide +kernel)
theorem tw_758 : (Cond.methodLink RX7 80 arraycopyName) ∈ GW := gw_in 813 (by decide +kernel)
theorem tw_759 : (Cond.methodLink RX7 86 yX1_copy) ∈ GW := gw_in 814 (by decide +kernel)
theorem tw_760 : (Cond.instanceMethod yX1_copy) ∈ GW := gw_in 815 (by decide +kernel)
theorem tw_761 : (Cond.selects RX1 yX1_copy yX1_copy) ∈ GW := gw_in 816 (by decide +kernel)
theorem tw_762 : (Cond.code yX1_copy cX1_copy 2 none) ∈ GW := gw_in 817 (by decide +kernel)
theorem tw_763 : (Cond.methodLink RX1 49 yX1_take) ∈ GW := gw_in 818 (by decide +kernel)
theorem tw_764 : (Cond.methodLink RL 163 yX8_restore) ∈ GW := gw_in 819 (by decide +kernel)
theorem tw_765 : (Cond.instanceMethod yX8_restore) ∈ GW := gw_in 820 (by decide +kernel)
theorem tw_766 : (Cond.selects RX8 yX8_restore yX8_restore) ∈ GW := gw_in 821 (by decide +kernel)
theorem tw_767 : (Cond.code yX8_restore cX8_restore 1 (some .int)) ∈ GW := gw_in 822 (by decide +kernel)
theorem tw_768 : (Cond.methodLink RL 167 yX8_tell) ∈ GW := gw_in 823 (by decide +kernel)
theorem tw_769 : (Cond.instanceMethod yX8_tell) ∈ GW := gw_in 824 (by decide +kernel)
theorem tw_770 : (Cond.selects RX8 yX8_tell yX8_tell) ∈ GW := gw_in 825 (by decide +kernel)
theorem tw_771 : (Cond.code yX8_tell cX8_tell 2 (some .int)) ∈ GW := gw_in 826 (by decide +kernel)
theorem tw_772 : (Cond.methodLink RX8 305 yX7_addWaiting) ∈ GW := gw_in 827 (by decide +kernel)
theorem tw_773 : (Cond.instanceMethod yX7_addWaiting) ∈ GW := gw_in 828 (by decide +kernel)
theorem tw_774 : (Cond.selects RX7 yX7_addWaiting yX7_addWaiting) ∈ GW := gw_in 829 (by decide +kernel)
theorem tw_775 : (Cond.code yX7_addWaiting cX7_addWaiting 2 none) ∈ GW := gw_in 830 (by decide +kernel)
theorem tw_776 : (Cond.methodLink RL 171 yX8_check) ∈ GW := gw_in 831 (by decide +kernel)
theorem tw_777 : (Cond.instanceMethod yX8_check) ∈ GW := gw_in 832 (by decide +kernel)
theorem tw_778 : (Cond.selects RX8 yX8_check yX8_check) ∈ GW := gw_in 833 (by decide +kernel)
theorem tw_779 : (Cond.code yX8_check cX8_check 3 (some .int)) ∈ GW := gw_in 834 (by decide +kernel)
theorem tw_780 : (Cond.methodLink RL 175 yX8_count) ∈ GW := gw_in 835 (by decide +kernel)
theorem tw_781 : (Cond.instanceMethod yX8_count) ∈ GW := gw_in 836 (by decide +kernel)
theorem tw_782 : (Cond.selects RX8 yX8_count yX8_count) ∈ GW := gw_in 837 (by decide +kernel)
theorem tw_783 : (Cond.code yX8_count cX8_count 2 (some .int)) ∈ GW := gw_in 838 (by decide +kernel)
theorem tw_784 : (Cond.methodLink RL 179 yX8_told) ∈ GW := gw_in 839 (by decide +kernel)
theorem tw_785 : (Cond.instanceMethod yX8_told) ∈ GW := gw_in 840 (by decide +kernel)
theorem tw_786 : (Cond.selects RX8 yX8_told yX8_told) ∈ GW := gw_in 841 (by decide +kernel)
theorem tw_787 : (Cond.code yX8_told cX8_told 2 (some .int)) ∈ GW := gw_in 842 (by decide +kernel)
theorem tw_788 : (Cond.classLink RL 10 RX9) ∈ GW := gw_in 843 (by decide +kernel)
theorem tw_789 : (Cond.instantiable RX9 26) ∈ GW := gw_in 844 (by decide +kernel)
theorem tw_790 : (Cond.methodLink RL 12 yX9_init) ∈ GW := gw_in 845 (by decide +kernel)
theorem tw_791 : (Cond.instanceMethod yX9_init) ∈ GW := gw_in 846 (by decide +kernel)
theorem tw_792 : (Cond.code yX9_init cX9_init 2 none) ∈ GW := gw_in 847 (by decide +kernel)
theorem tw_793 : (Cond.methodLink RX9 1 objectInit) ∈ GW := gw_in 848 (by decide +kernel)
theorem tw_794 : (Cond.fieldLink RX9 7 "CatchBarsModel" "d" "[I") ∈ GW := gw_in 849 (by decide +kernel)
theorem tw_795 : (Cond.fieldLink RX9 13 "CatchBarsModel" "kept" "[I") ∈ GW := gw_in 850 (by decide +kernel)
theorem tw_796 : (Cond.fieldLink RX9 293 "CatchBarsModel" "images" "I") ∈ GW := gw_in 851 (by decide +kernel)
theorem tw_797 : (Cond.fieldLink RX9 16 "CatchBarsModel" "found" "[I") ∈ GW := gw_in 852 (by decide +kernel)
theorem tw_798 : (Cond.fieldLink RX9 58 "CatchBarsModel" "base" "I") ∈ GW := gw_in 853 (by decide +kernel)
theorem tw_799 : (Cond.fieldLink RX9 49 "CatchBarsModel" "at" "I") ∈ GW := gw_in 854 (by decide +kernel)
theorem tw_800 : (Cond.fieldLink RX9 52 "CatchBarsModel" "size" "I") ∈ GW := gw_in 855 (by decide +kernel)
theorem tw_801 : (Cond.fieldLink RX9 55 "CatchBarsModel" "fault" "I") ∈ GW := gw_in 856 (by decide +kernel)
theorem tw_802 : (Cond.fieldLink RX9 84 "CatchBarsModel" "opened" "I") ∈ GW := gw_in 857 (by decide +kernel)
theorem tw_803 : (Cond.fieldLink RX9 19 "CatchBarsModel" "names" "[I") ∈ GW := gw_in 858 (by decide +kernel)
theorem tw_804 : (Cond.fieldLink RX9 22 "CatchBarsModel" "lagTried" "I") ∈ GW := gw_in 859 (by decide +kernel)
theorem tw_805 : (Cond.fieldLink RX9 172 "CatchBarsModel" "comesAt" "I") ∈ GW := gw_in 860 (by decide +kernel)
theorem tw_806 : (Cond.fieldLink RX9 175 "CatchBarsModel" "place" "I") ∈ GW := gw_in 861 (by decide +kernel)
theorem tw_807 : (Cond.fieldLink RX9 211 "CatchBarsModel" "canMany" "I") ∈ GW := gw_in 862 (by decide +kernel)
theorem tw_808 : (Cond.fieldLink RX9 214 "CatchBarsModel" "canFirst" "I") ∈ GW := gw_in 863 (by decide +kernel)
theorem tw_809 : (Cond.fieldLink RX9 259 "CatchBarsModel" "bestPlace" "I") ∈ GW := gw_in 864 (by decide +kernel)
theorem tw_810 : (Cond.fieldLink RX9 248 "CatchBarsModel" "bestHarm" "J") ∈ GW := gw_in 865 (by decide +kernel)
theorem tw_811 : (Cond.fieldLink RX9 243 "CatchBarsModel" "fallsMany" "I") ∈ GW := gw_in 866 (by decide +kernel)
theorem tw_812 : (Cond.fieldLink RX9 26 "CatchBarsModel" "fallsAt" "[I") ∈ GW := gw_in 867 (by decide +kernel)
theorem tw_813 : (Cond.fieldLink RX9 29 "CatchBarsModel" "traced" "[I") ∈ GW := gw_in 868 (by decide +kernel)
theorem tw_814 : (Cond.fieldLink RX9 268 "CatchBarsModel" "traceMany" "I") ∈ GW := gw_in 869 (by decide +kernel)
theorem tw_815 : (Cond.fieldLink RX9 271 "CatchBarsModel" "who" "I") ∈ GW := gw_in 870 (by decide +kernel)
theorem tw_816 : (Cond.fieldLink RX9 32 "CatchBarsModel" "bitsOf" "[I") ∈ GW := gw_in 871 (by decide +kernel)
theorem tw_817 : (Cond.fieldLink RX9 35 "CatchBarsModel" "sizeOf" "[I") ∈ GW := gw_in 872 (by decide +kernel)
theorem tw_818 : (Cond.fieldLink RX9 38 "CatchBarsModel" "number" "[I") ∈ GW := gw_in 873 (by decide +kernel)
theorem tw_819 : (Cond.fieldLink RX9 41 "CatchBarsModel" "lifted" "[I") ∈ GW := gw_in 874 (by decide +kernel)
theorem tw_873 : (Cond.methodLink RL 54 yX9_feed) ∈ GW := gw_in 928 (by decide +kernel)
theorem tw_874 : (Cond.instanceMethod yX9_feed) ∈ GW := gw_in 929 (by decide +kernel)
theorem tw_875 : (Cond.selects RX9 yX9_feed yX9_feed) ∈ GW := gw_in 930 (by decide +kernel)
theorem tw_876 : (Cond.code yX9_feed cX9_feed 5 (some .int)) ∈ GW := gw_in 931 (by decide +kernel)
theorem tw_877 : (Cond.constantLong RX9 101 8) ∈ GW := gw_in 932 (by decide +kernel)
theorem tw_878 : (Cond.methodLink RX9 45 yX9_in) ∈ GW := gw_in 933 (by decide +kernel)
theorem tw_879 : (Cond.static yX9_in) ∈ GW := gw_in 934 (by decide +kernel)
theorem tw_880 : (Cond.code yX9_in cX9_in 6 (some .boolean)) ∈ GW := gw_in 935 (by decide +kernel)
theorem tw_881 : (Cond.methodLink RX9 103 yX9_finds) ∈ GW := gw_in 936 (by decide +kernel)
theorem tw_883 : (Cond.instanceMethod yX9_finds) ∈ GW := gw_in 938 (by decide +kernel)
theorem tw_884 : (Cond.code yX9_finds cX9_finds 2 (some .int)) ∈ GW := gw_in 939 (by decide +kernel)
theorem tw_885 : (Cond.constant RX9 44 (-1000000000)) ∈ GW := gw_in 940 (by decide +kernel)
theorem tw_886 : (Cond.constantLong RX9 106 255) ∈ GW := gw_in 941 (by decide +kernel)
theorem tw_887 : (Cond.methodLink RL 58 yX9_text) ∈ GW := gw_in 942 (by decide +kernel)
theorem tw_888 : (Cond.instanceMethod yX9_text) ∈ GW := gw_in 943 (by decide +kernel)
theorem tw_889 : (Cond.selects RX9 yX9_text yX9_text) ∈ GW := gw_in 944 (by decide +kernel)
theorem tw_890 : (Cond.code yX9_text cX9_text 5 (some .int)) ∈ GW := gw_in 945 (by decide +kernel)
theorem tw_891 : (Cond.methodLink RX9 108 yX9_worked) ∈ GW := gw_in 946 (by decide +kernel)
theorem tw_893 : (Cond.instanceMethod yX9_worked) ∈ GW := gw_in 948 (by decide +kernel)
theorem tw_894 : (Cond.code yX9_worked cX9_worked 5 (some .int)) ∈ GW := gw_in 949 (by decide +kernel)
theorem tw_895 : (Cond.methodLink RX9 90 yX9_either) ∈ GW := gw_in 950 (by decide +kernel)
theorem tw_897 : (Cond.instanceMethod yX9_either) ∈ GW := gw_in 952 (by decide +kernel)
theorem tw_898 : (Cond.code yX9_either cX9_either 3 (some .int)) ∈ GW := gw_in 953 (by decide +kernel)
theorem tw_899 : (Cond.methodLink RX9 65 yX9_both) ∈ GW := gw_in 954 (by decide +kernel)
theorem tw_901 : (Cond.instanceMethod yX9_both) ∈ GW := gw_in 956 (by decide +kernel)
theorem tw_902 : (Cond.code yX9_both cX9_both 3 (some .int)) ∈ GW := gw_in 957 (by decide +kernel)
theorem tw_903 : (Cond.methodLink RX9 72 yX9_compared) ∈ GW := gw_in 958 (by decide +kernel)
theorem tw_905 : (Cond.instanceMethod yX9_compared) ∈ GW := gw_in 960 (by decide +kernel)
theorem tw_906 : (Cond.code yX9_compared cX9_compared 4 (some .int)) ∈ GW := gw_in 961 (by decide +kernel)
theorem tw_907 : (Cond.methodLink RX9 75 yX9_sum) ∈ GW := gw_in 962 (by decide +kernel)
theorem tw_909 : (Cond.instanceMethod yX9_sum) ∈ GW := gw_in 964 (by decide +kernel)
theorem tw_910 : (Cond.code yX9_sum cX9_sum 4 (some .int)) ∈ GW := gw_in 965 (by decide +kernel)
theorem tw_911 : (Cond.methodLink RX9 78 yX9_product) ∈ GW := gw_in 966 (by decide +kernel)
theorem tw_913 : (Cond.instanceMethod yX9_product) ∈ GW := gw_in 968 (by decide +kernel)
theorem tw_914 : (Cond.code yX9_product cX9_product 4 (some .int)) ∈ GW := gw_in 969 (by decide +kernel)
theorem tw_915 : (Cond.methodLink RX9 81 yX9_unit) ∈ GW := gw_in 970 (by decide +kernel)
theorem tw_917 : (Cond.instanceMethod yX9_unit) ∈ GW := gw_in 972 (by decide +kernel)
theorem tw_918 : (Cond.code yX9_unit cX9_unit 5 (some .int)) ∈ GW := gw_in 973 (by decide +kernel)
theorem tw_919 : (Cond.methodLink RX9 61 yX9_here) ∈ GW := gw_in 974 (by decide +kernel)
theorem tw_921 : (Cond.instanceMethod yX9_here) ∈ GW := gw_in 976 (by decide +kernel)
theorem tw_922 : (Cond.code yX9_here cX9_here 1 (some .int)) ∈ GW := gw_in 977 (by decide +kernel)
theorem tw_923 : (Cond.methodLink RX9 87 yX9_wrong) ∈ GW := gw_in 978 (by decide +kernel)
theorem tw_925 : (Cond.instanceMethod yX9_wrong) ∈ GW := gw_in 980 (by decide +kernel)
theorem tw_926 : (Cond.code yX9_wrong cX9_wrong 1 (some .int)) ∈ GW := gw_in 981 (by decide +kernel)
theorem tw_927 : (Cond.methodLink RX9 68 yX9_takes) ∈ GW := gw_in 982 (by decide +kernel)
theorem tw_929 : (Cond.instanceMethod yX9_takes) ∈ GW := gw_in 984 (by decide +kernel)
theorem tw_930 : (Cond.code yX9_takes cX9_takes 2 (some .boolean)) ∈ GW := gw_in 985 (by decide +kernel)
theorem tw_931 : (Cond.methodLink RX9 93 yX9_nameOf) ∈ GW := gw_in 986 (by decide +kernel)
theorem tw_932 : (Cond.static yX9_nameOf) ∈ GW := gw_in 987 (by decide +kernel)
theorem tw_933 : (Cond.code yX9_nameOf cX9_nameOf 1 (some .int)) ∈ GW := gw_in 988 (by decide +kernel)
theorem tw_934 : (Cond.constantLong RX9 97 48) ∈ GW := gw_in 989 (by decide +kernel)
theorem tw_935 : (Cond.constantLong RX9 99 57) ∈ GW := gw_in 990 (by decide +kernel)
theorem tw_936 : (Cond.methodLink RL 63 yX9_law) ∈ GW := gw_in 991 (by decide +kernel)
theorem tw_937 : (Cond.instanceMethod yX9_law) ∈ GW := gw_in 992 (by decide +kernel)
theorem tw_938 : (Cond.selects RX9 yX9_law yX9_law) ∈ GW := gw_in 993 (by decide +kernel)
theorem tw_939 : (Cond.code yX9_law cX9_law 5 (some .int)) ∈ GW := gw_in 994 (by decide +kernel)
theorem tw_940 : (Cond.methodLink RX9 115 yX9_textGives) ∈ GW := gw_in 995 (by decide +kernel)
theorem tw_942 : (Cond.instanceMethod yX9_textGives) ∈ GW := gw_in 997 (by decide +kernel)
theorem tw_943 : (Cond.code yX9_textGives cX9_textGives 6 (some .int)) ∈ GW := gw_in 998 (by decide +kernel)
theorem tw_944 : (Cond.methodLink RX9 112 yX9_held) ∈ GW := gw_in 999 (by decide +kernel)
theorem tw_945 : (Cond.static yX9_held) ∈ GW := gw_in 1000 (by decide +kernel)
theorem tw_946 : (Cond.code yX9_held cX9_held 3 (some .int)) ∈ GW := gw_in 1001 (by decide +kernel)
theorem tw_947 : (Cond.methodLink RL 17 yX9_swing) ∈ GW := gw_in 1002 (by decide +kernel)
theorem tw_948 : (Cond.instanceMethod yX9_swing) ∈ GW := gw_in 1003 (by decide +kernel)
theorem tw_949 : (Cond.selects RX9 yX9_swing yX9_swing) ∈ GW := gw_in 1004 (by decide +kernel)
theorem tw_950 : (Cond.code yX9_swing cX9_swing 7 (some .int)) ∈ GW := gw_in 1005 (by decide +kernel)
theorem tw_951 : (Cond.methodLink RX9 123 yX9_isSwing) ∈ GW := gw_in 1006 (by decide +kernel)
theorem tw_952 : (Cond.static yX9_isSwing) ∈ GW := gw_in 1007 (by decide +kernel)
theorem tw_953 : (Cond.code yX9_isSwing cX9_isSwing 1 (some .boolean)) ∈ GW := gw_in 1008 (by decide +kernel)
theorem tw_954 : (Cond.constantLong RX9 126 2) ∈ GW := gw_in 1009 (by decide +kernel)
theorem tw_955 : (Cond.constantLong RX9 128 4) ∈ GW := gw_in 1010 (by decide +kernel)
theorem tw_956 : (Cond.constantLong RX9 130 40) ∈ GW := gw_in 1011 (by decide +kernel)
theorem tw_957 : (Cond.constantLong RX9 132 60) ∈ GW := gw_in 1012 (by decide +kernel)
theorem tw_958 : (Cond.methodLink RL 22 yX9_bar) ∈ GW := gw_in 1013 (by decide +kernel)
theorem tw_959 : (Cond.instanceMethod yX9_bar) ∈ GW := gw_in 1014 (by decide +kernel)
theorem tw_960 : (Cond.selects RX9 yX9_bar yX9_bar) ∈ GW := gw_in 1015 (by decide +kernel)
theorem tw_961 : (Cond.code yX9_bar cX9_bar 3 (some .int)) ∈ GW := gw_in 1016 (by decide +kernel)
theorem tw_962 : (Cond.constantLong RX9 134 19999) ∈ GW := gw_in 1017 (by decide +kernel)
theorem tw_963 : (Cond.methodLink RX9 119 yX9_barOf) ∈ GW := gw_in 1018 (by decide +kernel)
theorem tw_965 : (Cond.instanceMethod yX9_barOf) ∈ GW := gw_in 1020 (by decide +kernel)
theorem tw_966 : (Cond.code yX9_barOf cX9_barOf 7 (some .int)) ∈ GW := gw_in 1021 (by decide +kernel)
theorem tw_967 : (Cond.methodLink RL 26 yX9_set) ∈ GW := gw_in 1022 (by decide +kernel)
theorem tw_968 : (Cond.instanceMethod yX9_set) ∈ GW := gw_in 1023 (by decide +kernel)
theorem tw_969 : (Cond.selects RX9 yX9_set yX9_set) ∈ GW := gw_in 1024 (by decide +kernel)
theorem tw_970 : (Cond.code yX9_set cX9_set 5 (some .int)) ∈ GW := gw_in 1025 (by decide +kernel)
theorem tw_971 : (Cond.constantLong RX9 136 200) ∈ GW := gw_in 1026 (by decide +kernel)
theorem tw_972 : (Cond.constantLong RX9 138 30) ∈ GW := gw_in 1027 (by decide +kernel)
theorem tw_973 : (Cond.constantLong RX9 140 (-99)) ∈ GW := gw_in 1028 (by decide +kernel)
theorem tw_974 : (Cond.constantLong RX9 142 299) ∈ GW := gw_in 1029 (by decide +kernel)
theorem tw_975 : (Cond.methodLink RL 31 yX9_flyer) ∈ GW := gw_in 1030 (by decide +kernel)
theorem tw_976 : (Cond.instanceMethod yX9_flyer) ∈ GW := gw_in 1031 (by decide +kernel)
theorem tw_977 : (Cond.selects RX9 yX9_flyer yX9_flyer) ∈ GW := gw_in 1032 (by decide +kernel)
theorem tw_978 : (Cond.code yX9_flyer cX9_flyer 3 (some .int)) ∈ GW := gw_in 1033 (by decide +kernel)
theorem tw_979 : (Cond.constantLong RX9 147 69) ∈ GW := gw_in 1034 (by decide +kernel)
theorem tw_980 : (Cond.methodLink RX9 149 yX9_sets) ∈ GW := gw_in 1035 (by decide +kernel)
theorem tw_982 : (Cond.instanceMethod yX9_sets) ∈ GW := gw_in 1037 (by decide +kernel)
theorem tw_983 : (Cond.code yX9_sets cX9_sets 4 none) ∈ GW := gw_in 1038 (by decide +kernel)
theorem tw_984 : (Cond.methodLink RL 35 yX9_ofFlyer) ∈ GW := gw_in 1039 (by decide +kernel)
theorem tw_985 : (Cond.instanceMethod yX9_ofFlyer) ∈ GW := gw_in 1040 (by decide +kernel)
theorem tw_986 : (Cond.selects RX9 yX9_ofFlyer yX9_ofFlyer) ∈ GW := gw_in 1041 (by decide +kernel)
theorem tw_987 : (Cond.code yX9_ofFlyer cX9_ofFlyer 3 (some .int)) ∈ GW := gw_in 1042 (by decide +kernel)
theorem tw_988 : (Cond.methodLink RX9 153 yX9_isFlyer) ∈ GW := gw_in 1043 (by decide +kernel)
theorem tw_990 : (Cond.instanceMethod yX9_isFlyer) ∈ GW := gw_in 1045 (by decide +kernel)
theorem tw_991 : (Cond.code yX9_isFlyer cX9_isFlyer 2 (some .boolean)) ∈ GW := gw_in 1046 (by decide +kernel)
theorem tw_992 : (Cond.constantLong RX9 156 6) ∈ GW := gw_in 1047 (by decide +kernel)
theorem tw_993 : (Cond.methodLink RX9 158 yX9_lagOf) ∈ GW := gw_in 1048 (by decide +kernel)
theorem tw_995 : (Cond.instanceMethod yX9_lagOf) ∈ GW := gw_in 1050 (by decide +kernel)
theorem tw_996 : (Cond.code yX9_lagOf cX9_lagOf 3 (some .int)) ∈ GW := gw_in 1051 (by decide +kernel)
theorem tw_997 : (Cond.methodLink RX9 144 yX9_of) ∈ GW := gw_in 1052 (by decide +kernel)
theorem tw_999 : (Cond.instanceMethod yX9_of) ∈ GW := gw_in 1054 (by decide +kernel)
theorem tw_1000 : (Cond.code yX9_of cX9_of 3 (some .int)) ∈ GW := gw_in 1055 (by decide +kernel)
theorem tw_1001 : (Cond.methodLink RX9 161 yX9_holdsOf) ∈ GW := gw_in 1056 (by decide +kernel)
theorem tw_1003 : (Cond.instanceMethod yX9_holdsOf) ∈ GW := gw_in 1058 (by decide +kernel)
theorem tw_1004 : (Cond.code yX9_holdsOf cX9_holdsOf 4 (some .int)) ∈ GW := gw_in 1059 (by decide +kernel)
theorem tw_1005 : (Cond.methodLink RX9 164 yX9_harmOf) ∈ GW := gw_in 1060 (by decide +kernel)
theorem tw_1007 : (Cond.instanceMethod yX9_harmOf) ∈ GW := gw_in 1062 (by decide +kernel)
theorem tw_1008 : (Cond.code yX9_harmOf cX9_harmOf 4 (some .int)) ∈ GW := gw_in 1063 (by decide +kernel)
theorem tw_1009 : (Cond.methodLink RL 39 yX9_become) ∈ GW := gw_in 1064 (by decide +kernel)
theorem tw_1010 : (Cond.instanceMethod yX9_become) ∈ GW := gw_in 1065 (by decide +kernel)
theorem tw_1011 : (Cond.selects RX9 yX9_become yX9_become) ∈ GW := gw_in 1066 (by decide +kernel)
theorem tw_1012 : (Cond.code yX9_become cX9_become 4 (some .int)) ∈ GW := gw_in 1067 (by decide +kernel)
theorem tw_1013 : (Cond.methodLink RL 43 yX9_as) ∈ GW := gw_in 1068 (by decide +kernel)
theorem tw_1014 : (Cond.instanceMethod yX9_as) ∈ GW := gw_in 1069 (by decide +kernel)
theorem tw_1015 : (Cond.selects RX9 yX9_as yX9_as) ∈ GW := gw_in 1070 (by decide +kernel)
theorem tw_1016 : (Cond.code yX9_as cX9_as 4 (some .int)) ∈ GW := gw_in 1071 (by decide +kernel)
theorem tw_1017 : (Cond.methodLink RX9 167 yX9_above) ∈ GW := gw_in 1072 (by decide +kernel)
theorem tw_1018 : (Cond.static yX9_above) ∈ GW := gw_in 1073 (by decide +kernel)
theorem tw_1019 : (Cond.code yX9_above cX9_above 1 (some .int)) ∈ GW := gw_in 1074 (by decide +kernel)
theorem tw_1020 : (Cond.methodLink RL 47 yX9_turn) ∈ GW := gw_in 1075 (by decide +kernel)
theorem tw_1021 : (Cond.instanceMethod yX9_turn) ∈ GW := gw_in 1076 (by decide +kernel)
theorem tw_1022 : (Cond.selects RX9 yX9_turn yX9_turn) ∈ GW := gw_in 1077 (by decide +kernel)
theorem tw_1023 : (Cond.code yX9_turn cX9_turn 4 (some .int)) ∈ GW := gw_in 1078 (by decide +kernel)
theorem tw_1024 : (Cond.constantLong RX9 170 3) ∈ GW := gw_in 1079 (by decide +kernel)
theorem tw_1025 : (Cond.methodLink RL 67 yX9_go) ∈ GW := gw_in 1080 (by decide +kernel)
theorem tw_1026 : (Cond.instanceMethod yX9_go) ∈ GW := gw_in 1081 (by decide +kernel)
theorem tw_1027 : (Cond.selects RX9 yX9_go yX9_go) ∈ GW := gw_in 1082 (by decide +kernel)
theorem tw_1028 : (Cond.code yX9_go cX9_go 2 (some .int)) ∈ GW := gw_in 1083 (by decide +kernel)
theorem tw_1029 : (Cond.methodLink RX9 201 yX9_goes) ∈ GW := gw_in 1084 (by decide +kernel)
theorem tw_1031 : (Cond.instanceMethod yX9_goes) ∈ GW := gw_in 1086 (by decide +kernel)
theorem tw_1032 : (Cond.code yX9_goes cX9_goes 5 (some .int)) ∈ GW := gw_in 1087 (by decide +kernel)
theorem tw_1033 : (Cond.methodLink RX9 191 yX9_isTold) ∈ GW := gw_in 1088 (by decide +kernel)
theorem tw_1035 : (Cond.instanceMethod yX9_isTold) ∈ GW := gw_in 1090 (by decide +kernel)
theorem tw_1036 : (Cond.code yX9_isTold cX9_isTold 3 none) ∈ GW := gw_in 1091 (by decide +kernel)
theorem tw_1037 : (Cond.methodLink RX9 181 yX9_letsGo) ∈ GW := gw_in 1092 (by decide +kernel)
theorem tw_1039 : (Cond.instanceMethod yX9_letsGo) ∈ GW := gw_in 1094 (by decide +kernel)
theorem tw_1040 : (Cond.code yX9_letsGo cX9_letsGo 5 none) ∈ GW := gw_in 1095 (by decide +kernel)
theorem tw_1041 : (Cond.methodLink RX9 194 yX9_isCaught) ∈ GW := gw_in 1096 (by decide +kernel)
theorem tw_1043 : (Cond.instanceMethod yX9_isCaught) ∈ GW := gw_in 1098 (by decide +kernel)
theorem tw_1044 : (Cond.code yX9_isCaught cX9_isCaught 2 (some .boolean)) ∈ GW := gw_in 1099 (by decide +kernel)
theorem tw_1045 : (Cond.methodLink RX9 185 yX9_offNow) ∈ GW := gw_in 1100 (by decide +kernel)
theorem tw_1047 : (Cond.instanceMethod yX9_offNow) ∈ GW := gw_in 1102 (by decide +kernel)
theorem tw_1048 : (Cond.code yX9_offNow cX9_offNow 1 (some .int)) ∈ GW := gw_in 1103 (by decide +kernel)
theorem tw_1049 : (Cond.methodLink RX9 178 yX9_catcherAt) ∈ GW := gw_in 1104 (by decide +kernel)
theorem tw_1051 : (Cond.instanceMethod yX9_catcherAt) ∈ GW := gw_in 1106 (by decide +kernel)
theorem tw_1052 : (Cond.code yX9_catcherAt cX9_catcherAt 2 (some .int)) ∈ GW := gw_in 1107 (by decide +kernel)
theorem tw_1053 : (Cond.methodLink RX9 188 yX9_size0) ∈ GW := gw_in 1108 (by decide +kernel)
theorem tw_1054 : (Cond.static yX9_size0) ∈ GW := gw_in 1109 (by decide +kernel)
theorem tw_1055 : (Cond.code yX9_size0 cX9_size0 1 (some .int)) ∈ GW := gw_in 1110 (by decide +kernel)
theorem tw_1056 : (Cond.methodLink RX9 197 yX9_fallHarm) ∈ GW := gw_in 1111 (by decide +kernel)
theorem tw_1058 : (Cond.instanceMethod yX9_fallHarm) ∈ GW := gw_in 1113 (by decide +kernel)
theorem tw_1059 : (Cond.code yX9_fallHarm cX9_fallHarm 3 (some .int)) ∈ GW := gw_in 1114 (by decide +kernel)
theorem tw_1060 : (Cond.constant RX9 200 99999) ∈ GW := gw_in 1115 (by decide +kernel)
theorem tw_1061 : (Cond.methodLink RL 71 yX9_ticks) ∈ GW := gw_in 1116 (by decide +kernel)
theorem tw_1062 : (Cond.instanceMethod yX9_ticks) ∈ GW := gw_in 1117 (by decide +kernel)
theorem tw_1063 : (Cond.selects RX9 yX9_ticks yX9_ticks) ∈ GW := gw_in 1118 (by decide +kernel)
theorem tw_1064 : (Cond.code yX9_ticks cX9_ticks 2 (some .int)) ∈ GW := gw_in 1119 (by decide +kernel)
theorem tw_1065 : (Cond.methodLink RL 75 yX9_evenings) ∈ GW := gw_in 1120 (by decide +kernel)
theorem tw_1066 : (Cond.instanceMethod yX9_evenings) ∈ GW := gw_in 1121 (by decide +kernel)
theorem tw_1067 : (Cond.selects RX9 yX9_evenings yX9_evenings) ∈ GW := gw_in 1122 (by decide +kernel)
theorem tw_1068 : (Cond.code yX9_evenings cX9_evenings 6 (some .int)) ∈ GW := gw_in 1123 (by decide +kernel)
theorem tw_1069 : (Cond.methodLink RX9 205 yX9_drawn) ∈ GW := gw_in 1124 (by decide +kernel)
theorem tw_1071 : (Cond.instanceMethod yX9_drawn) ∈ GW := gw_in 1126 (by decide +kernel)
theorem tw_1072 : (Cond.code yX9_drawn cX9_drawn 1 (some .int)) ∈ GW := gw_in 1127 (by decide +kernel)
theorem tw_1073 : (Cond.constant RX9 204 1103515245) ∈ GW := gw_in 1128 (by decide +kernel)
theorem tw_1074 : (Cond.methodLink RL 80 yX9_rest) ∈ GW := gw_in 1129 (by decide +kernel)
theorem tw_1075 : (Cond.instanceMethod yX9_rest) ∈ GW := gw_in 1130 (by decide +kernel)
theorem tw_1076 : (Cond.selects RX9 yX9_rest yX9_rest) ∈ GW := gw_in 1131 (by decide +kernel)
theorem tw_1077 : (Cond.code yX9_rest cX9_rest 3 (some .int)) ∈ GW := gw_in 1132 (by decide +kernel)
theorem tw_1078 : (Cond.methodLink RL 84 yX9_then) ∈ GW := gw_in 1133 (by decide +kernel)
theorem tw_1079 : (Cond.instanceMethod yX9_then) ∈ GW := gw_in 1134 (by decide +kernel)
theorem tw_1080 : (Cond.selects RX9 yX9_then yX9_then) ∈ GW := gw_in 1135 (by decide +kernel)
theorem tw_1081 : (Cond.code yX9_then cX9_then 4 (some .int)) ∈ GW := gw_in 1136 (by decide +kernel)
theorem tw_1082 : (Cond.methodLink RX9 208 yX9_isSoon) ∈ GW := gw_in 1137 (by decide +kernel)
theorem tw_1083 : (Cond.static yX9_isSoon) ∈ GW := gw_in 1138 (by decide +kernel)
theorem tw_1084 : (Cond.code yX9_isSoon cX9_isSoon 1 (some .boolean)) ∈ GW := gw_in 1139 (by decide +kernel)
theorem tw_1085 : (Cond.methodLink RL 88 yX9_can) ∈ GW := gw_in 1140 (by decide +kernel)
theorem tw_1086 : (Cond.instanceMethod yX9_can) ∈ GW := gw_in 1141 (by decide +kernel)
theorem tw_1087 : (Cond.selects RX9 yX9_can yX9_can) ∈ GW := gw_in 1142 (by decide +kernel)
theorem tw_1088 : (Cond.code yX9_can cX9_can 4 (some .int)) ∈ GW := gw_in 1143 (by decide +kernel)
theorem tw_1089 : (Cond.methodLink RX9 217 yX9_isSpan) ∈ GW := gw_in 1144 (by decide +kernel)
theorem tw_1090 : (Cond.static yX9_isSpan) ∈ GW := gw_in 1145 (by decide +kernel)
theorem tw_1091 : (Cond.code yX9_isSpan cX9_isSpan 1 (some .boolean)) ∈ GW := gw_in 1146 (by decide +kernel)
theorem tw_1092 : (Cond.methodLink RX9 220 yX9_findCan) ∈ GW := gw_in 1147 (by decide +kernel)
theorem tw_1094 : (Cond.instanceMethod yX9_findCan) ∈ GW := gw_in 1149 (by decide +kernel)
theorem tw_1095 : (Cond.code yX9_findCan cX9_findCan 4 none) ∈ GW := gw_in 1150 (by decide +kernel)
theorem tw_1096 : (Cond.methodLink RL 92 yX9_surest) ∈ GW := gw_in 1151 (by decide +kernel)
theorem tw_1097 : (Cond.instanceMethod yX9_surest) ∈ GW := gw_in 1152 (by decide +kernel)
theorem tw_1098 : (Cond.selects RX9 yX9_surest yX9_surest) ∈ GW := gw_in 1153 (by decide +kernel)
theorem tw_1099 : (Cond.code yX9_surest cX9_surest 3 (some .int)) ∈ GW := gw_in 1154 (by decide +kernel)
theorem tw_1100 : (Cond.methodLink RX9 226 yX9_surestOf) ∈ GW := gw_in 1155 (by decide +kernel)
theorem tw_1102 : (Cond.instanceMethod yX9_surestOf) ∈ GW := gw_in 1157 (by decide +kernel)
theorem tw_1103 : (Cond.code yX9_surestOf cX9_surestOf 7 (some .int)) ∈ GW := gw_in 1158 (by decide +kernel)
theorem tw_1104 : (Cond.methodLink RX9 223 yX9_casesAt) ∈ GW := gw_in 1159 (by decide +kernel)
theorem tw_1106 : (Cond.instanceMethod yX9_casesAt) ∈ GW := gw_in 1161 (by decide +kernel)
theorem tw_1107 : (Cond.code yX9_casesAt cX9_casesAt 6 (some .int)) ∈ GW := gw_in 1162 (by decide +kernel)
theorem tw_1108 : (Cond.methodLink RL 96 yX9_odds) ∈ GW := gw_in 1163 (by decide +kernel)
theorem tw_1109 : (Cond.instanceMethod yX9_odds) ∈ GW := gw_in 1164 (by decide +kernel)
theorem tw_1110 : (Cond.selects RX9 yX9_odds yX9_odds) ∈ GW := gw_in 1165 (by decide +kernel)
theorem tw_1111 : (Cond.code yX9_odds cX9_odds 6 (some .int)) ∈ GW := gw_in 1166 (by decide +kernel)
theorem tw_1112 : (Cond.constantLong RX9 229 9) ∈ GW := gw_in 1167 (by decide +kernel)
theorem tw_1113 : (Cond.methodLink RX9 231 yX9_common) ∈ GW := gw_in 1168 (by decide +kernel)
theorem tw_1114 : (Cond.static yX9_common) ∈ GW := gw_in 1169 (by decide +kernel)
theorem tw_1115 : (Cond.code yX9_common cX9_common 10 (some .long)) ∈ GW := gw_in 1170 (by decide +kernel)
theorem tw_1116 : (Cond.methodLink RL 100 yX9_pumped) ∈ GW := gw_in 1171 (by decide +kernel)
theorem tw_1117 : (Cond.instanceMethod yX9_pumped) ∈ GW := gw_in 1172 (by decide +kernel)
theorem tw_1118 : (Cond.selects RX9 yX9_pumped yX9_pumped) ∈ GW := gw_in 1173 (by decide +kernel)
theorem tw_1119 : (Cond.code yX9_pumped cX9_pumped 6 (some .int)) ∈ GW := gw_in 1174 (by decide +kernel)
theorem tw_1120 : (Cond.methodLink RX9 235 yX9_hasNext) ∈ GW := gw_in 1175 (by decide +kernel)
theorem tw_1122 : (Cond.instanceMethod yX9_hasNext) ∈ GW := gw_in 1177 (by decide +kernel)
theorem tw_1123 : (Cond.code yX9_hasNext cX9_hasNext 3 (some .boolean)) ∈ GW := gw_in 1178 (by decide +kernel)
theorem tw_1124 : (Cond.methodLink RL 104 yX9_inStep) ∈ GW := gw_in 1179 (by decide +kernel)
theorem tw_1125 : (Cond.instanceMethod yX9_inStep) ∈ GW := gw_in 1180 (by decide +kernel)
theorem tw_1126 : (Cond.selects RX9 yX9_inStep yX9_inStep) ∈ GW := gw_in 1181 (by decide +kernel)
theorem tw_1127 : (Cond.code yX9_inStep cX9_inStep 6 (some .int)) ∈ GW := gw_in 1182 (by decide +kernel)
theorem tw_1128 : (Cond.methodLink RL 108 yX9_mend) ∈ GW := gw_in 1183 (by decide +kernel)
theorem tw_1129 : (Cond.instanceMethod yX9_mend) ∈ GW := gw_in 1184 (by decide +kernel)
theorem tw_1130 : (Cond.selects RX9 yX9_mend yX9_mend) ∈ GW := gw_in 1185 (by decide +kernel)
theorem tw_1131 : (Cond.code yX9_mend cX9_mend 6 (some .int)) ∈ GW := gw_in 1186 (by decide +kernel)
theorem tw_1132 : (Cond.methodLink RL 113 yX9_again) ∈ GW := gw_in 1187 (by decide +kernel)
theorem tw_1133 : (Cond.instanceMethod yX9_again) ∈ GW := gw_in 1188 (by decide +kernel)
theorem tw_1134 : (Cond.selects RX9 yX9_again yX9_again) ∈ GW := gw_in 1189 (by decide +kernel)
theorem tw_1135 : (Cond.code yX9_again cX9_again 16 (some .long)) ∈ GW := gw_in 1190 (by decide +kernel)
theorem tw_1136 : (Cond.constantLong RX9 239 99) ∈ GW := gw_in 1191 (by decide +kernel)
theorem tw_1137 : (Cond.constantLong RX9 241 81) ∈ GW := gw_in 1192 (by decide +kernel)
theorem tw_1138 : (Cond.methodLink RL 117 yX9_net) ∈ GW := gw_in 1193 (by decide +kernel)
theorem tw_1139 : (Cond.instanceMethod yX9_net) ∈ GW := gw_in 1194 (by decide +kernel)
theorem tw_1140 : (Cond.selects RX9 yX9_net yX9_net) ∈ GW := gw_in 1195 (by decide +kernel)
theorem tw_1141 : (Cond.code yX9_net cX9_net 7 (some .int)) ∈ GW := gw_in 1196 (by decide +kernel)
theorem tw_1142 : (Cond.constantLong RX9 246 (-1)) ∈ GW := gw_in 1197 (by decide +kernel)
theorem tw_1143 : (Cond.methodLink RX9 252 yX9_findFalls) ∈ GW := gw_in 1198 (by decide +kernel)
theorem tw_1145 : (Cond.instanceMethod yX9_findFalls) ∈ GW := gw_in 1200 (by decide +kernel)
theorem tw_1146 : (Cond.code yX9_findFalls cX9_findFalls 4 none) ∈ GW := gw_in 1201 (by decide +kernel)
theorem tw_1147 : (Cond.methodLink RX9 255 yX9_harmBy) ∈ GW := gw_in 1202 (by decide +kernel)
theorem tw_1149 : (Cond.instanceMethod yX9_harmBy) ∈ GW := gw_in 1204 (by decide +kernel)
theorem tw_1150 : (Cond.code yX9_harmBy cX9_harmBy 6 (some .long)) ∈ GW := gw_in 1205 (by decide +kernel)
theorem tw_1151 : (Cond.methodLink RL 121 yX9_phases) ∈ GW := gw_in 1206 (by decide +kernel)
theorem tw_1152 : (Cond.instanceMethod yX9_phases) ∈ GW := gw_in 1207 (by decide +kernel)
theorem tw_1153 : (Cond.selects RX9 yX9_phases yX9_phases) ∈ GW := gw_in 1208 (by decide +kernel)
theorem tw_1154 : (Cond.code yX9_phases cX9_phases 8 (some .int)) ∈ GW := gw_in 1209 (by decide +kernel)
theorem tw_1155 : (Cond.methodLink RX9 262 yX9_isSheet) ∈ GW := gw_in 1210 (by decide +kernel)
theorem tw_1156 : (Cond.static yX9_isSheet) ∈ GW := gw_in 1211 (by decide +kernel)
theorem tw_1157 : (Cond.code yX9_isSheet cX9_isSheet 1 (some .boolean)) ∈ GW := gw_in 1212 (by decide +kernel)
theorem tw_1158 : (Cond.methodLink RX9 265 yX9_isSo) ∈ GW := gw_in 1213 (by decide +kernel)
theorem tw_1160 : (Cond.instanceMethod yX9_isSo) ∈ GW := gw_in 1215 (by decide +kernel)
theorem tw_1161 : (Cond.code yX9_isSo cX9_isSo 5 (some .boolean)) ∈ GW := gw_in 1216 (by decide +kernel)
theorem tw_1162 : (Cond.methodLink RL 125 yX9_late) ∈ GW := gw_in 1217 (by decide +kernel)
theorem tw_1163 : (Cond.instanceMethod yX9_late) ∈ GW := gw_in 1218 (by decide +kernel)
theorem tw_1164 : (Cond.selects RX9 yX9_late yX9_late) ∈ GW := gw_in 1219 (by decide +kernel)
theorem tw_1165 : (Cond.code yX9_late cX9_late 5 (some .int)) ∈ GW := gw_in 1220 (by decide +kernel)
theorem tw_1166 : (Cond.methodLink RL 129 yX9_seed) ∈ GW := gw_in 1221 (by decide +kernel)
theorem tw_1167 : (Cond.instanceMethod yX9_seed) ∈ GW := gw_in 1222 (by decide +kernel)
theorem tw_1168 : (Cond.selects RX9 yX9_seed yX9_seed) ∈ GW := gw_in 1223 (by decide +kernel)
theorem tw_1169 : (Cond.code yX9_seed cX9_seed 3 (some .int)) ∈ GW := gw_in 1224 (by decide +kernel)
theorem tw_1170 : (Cond.methodLink RL 133 yX9_voice) ∈ GW := gw_in 1225 (by decide +kernel)
theorem tw_1171 : (Cond.instanceMethod yX9_voice) ∈ GW := gw_in 1226 (by decide +kernel)
theorem tw_1172 : (Cond.selects RX9 yX9_voice yX9_voice) ∈ GW := gw_in 1227 (by decide +kernel)
theorem tw_1173 : (Cond.code yX9_voice cX9_voice 5 (some .int)) ∈ GW := gw_in 1228 (by decide +kernel)
theorem tw_1174 : (Cond.methodLink RX9 281 yX9_own) ∈ GW := gw_in 1229 (by decide +kernel)
theorem tw_1176 : (Cond.instanceMethod yX9_own) ∈ GW := gw_in 1231 (by decide +kernel)
theorem tw_1177 : (Cond.code yX9_own cX9_own 1 (some .int)) ∈ GW := gw_in 1232 (by decide +kernel)
theorem tw_1178 : (Cond.methodLink RX9 278 yX9_swingsBy) ∈ GW := gw_in 1233 (by decide +kernel)
theorem tw_1180 : (Cond.instanceMethod yX9_swingsBy) ∈ GW := gw_in 1235 (by decide +kernel)
theorem tw_1181 : (Cond.code yX9_swingsBy cX9_swingsBy 3 (some .int)) ∈ GW := gw_in 1236 (by decide +kernel)
theorem tw_1182 : (Cond.methodLink RX9 274 yX9_ran) ∈ GW := gw_in 1237 (by decide +kernel)
theorem tw_1184 : (Cond.instanceMethod yX9_ran) ∈ GW := gw_in 1239 (by decide +kernel)
theorem tw_1185 : (Cond.code yX9_ran cX9_ran 2 none) ∈ GW := gw_in 1240 (by decide +kernel)
theorem tw_1186 : (Cond.methodLink RX9 284 yX9_fliesBy) ∈ GW := gw_in 1241 (by decide +kernel)
theorem tw_1188 : (Cond.instanceMethod yX9_fliesBy) ∈ GW := gw_in 1243 (by decide +kernel)
theorem tw_1189 : (Cond.code yX9_fliesBy cX9_fliesBy 4 (some .int)) ∈ GW := gw_in 1244 (by decide +kernel)
theorem tw_1190 : (Cond.methodLink RX9 287 yX9_fallsBy) ∈ GW := gw_in 1245 (by decide +kernel)
theorem tw_1192 : (Cond.instanceMethod yX9_fallsBy) ∈ GW := gw_in 1247 (by decide +kernel)
theorem tw_1193 : (Cond.code yX9_fallsBy cX9_fallsBy 3 (some .int)) ∈ GW := gw_in 1248 (by decide +kernel)
theorem tw_1194 : (Cond.methodLink RX9 290 yX9_tellsBy) ∈ GW := gw_in 1249 (by decide +kernel)
theorem tw_1196 : (Cond.instanceMethod yX9_tellsBy) ∈ GW := gw_in 1251 (by decide +kernel)
theorem tw_1197 : (Cond.code yX9_tellsBy cX9_tellsBy 4 (some .int)) ∈ GW := gw_in 1252 (by decide +kernel)
theorem tw_1198 : (Cond.methodLink RL 137 yX9_trace) ∈ GW := gw_in 1253 (by decide +kernel)
theorem tw_1199 : (Cond.instanceMethod yX9_trace) ∈ GW := gw_in 1254 (by decide +kernel)
theorem tw_1200 : (Cond.selects RX9 yX9_trace yX9_trace) ∈ GW := gw_in 1255 (by decide +kernel)
theorem tw_1201 : (Cond.code yX9_trace cX9_trace 2 (some .int)) ∈ GW := gw_in 1256 (by decide +kernel)
theorem tw_1202 : (Cond.methodLink RL 141 yX9_sheet) ∈ GW := gw_in 1257 (by decide +kernel)
theorem tw_1203 : (Cond.instanceMethod yX9_sheet) ∈ GW := gw_in 1258 (by decide +kernel)
theorem tw_1204 : (Cond.selects RX9 yX9_sheet yX9_sheet) ∈ GW := gw_in 1259 (by decide +kernel)
theorem tw_1205 : (Cond.code yX9_sheet cX9_sheet 5 (some .int)) ∈ GW := gw_in 1260 (by decide +kernel)
theorem tw_1206 : (Cond.methodLink RL 145 yX9_put) ∈ GW := gw_in 1261 (by decide +kernel)
theorem tw_1207 : (Cond.instanceMethod yX9_put) ∈ GW := gw_in 1262 (by decide +kernel)
theorem tw_1208 : (Cond.selects RX9 yX9_put yX9_put) ∈ GW := gw_in 1263 (by decide +kernel)
theorem tw_1209 : (Cond.code yX9_put cX9_put 4 (some .int)) ∈ GW := gw_in 1264 (by decide +kernel)
theorem tw_1210 : (Cond.methodLink RL 150 yX9_move) ∈ GW := gw_in 1265 (by decide +kernel)
theorem tw_1211 : (Cond.instanceMethod yX9_move) ∈ GW := gw_in 1266 (by decide +kernel)
theorem tw_1212 : (Cond.selects RX9 yX9_move yX9_move) ∈ GW := gw_in 1267 (by decide +kernel)
theorem tw_1213 : (Cond.code yX9_move cX9_move 7 (some .int)) ∈ GW := gw_in 1268 (by decide +kernel)
theorem tw_1214 : (Cond.methodLink RL 154 yX9_turns) ∈ GW := gw_in 1269 (by decide +kernel)
theorem tw_1215 : (Cond.instanceMethod yX9_turns) ∈ GW := gw_in 1270 (by decide +kernel)
theorem tw_1216 : (Cond.selects RX9 yX9_turns yX9_turns) ∈ GW := gw_in 1271 (by decide +kernel)
theorem tw_1217 : (Cond.code yX9_turns cX9_turns 3 (some .int)) ∈ GW := gw_in 1272 (by decide +kernel)
theorem tw_1218 : (Cond.methodLink RL 158 yX9_judge) ∈ GW := gw_in 1273 (by decide +kernel)
theorem tw_1219 : (Cond.instanceMethod yX9_judge) ∈ GW := gw_in 1274 (by decide +kernel)
theorem tw_1220 : (Cond.selects RX9 yX9_judge yX9_judge) ∈ GW := gw_in 1275 (by decide +kernel)
theorem tw_1221 : (Cond.code yX9_judge cX9_judge 3 (some .int)) ∈ GW := gw_in 1276 (by decide +kernel)
theorem tw_1222 : (Cond.methodLink RL 162 yX9_image) ∈ GW := gw_in 1277 (by decide +kernel)
theorem tw_1223 : (Cond.instanceMethod yX9_image) ∈ GW := gw_in 1278 (by decide +kernel)
theorem tw_1224 : (Cond.selects RX9 yX9_image yX9_image) ∈ GW := gw_in 1279 (by decide +kernel)
theorem tw_1225 : (Cond.code yX9_image cX9_image 2 (some .int)) ∈ GW := gw_in 1280 (by decide +kernel)
theorem tw_1226 : (Cond.methodLink RL 166 yX9_restore) ∈ GW := gw_in 1281 (by decide +kernel)
theorem tw_1227 : (Cond.instanceMethod yX9_restore) ∈ GW := gw_in 1282 (by decide +kernel)
theorem tw_1228 : (Cond.selects RX9 yX9_restore yX9_restore) ∈ GW := gw_in 1283 (by decide +kernel)
theorem tw_1229 : (Cond.code yX9_restore cX9_restore 2 (some .int)) ∈ GW := gw_in 1284 (by decide +kernel)
theorem tw_1230 : (Cond.methodLink RL 170 yX9_tell) ∈ GW := gw_in 1285 (by decide +kernel)
theorem tw_1231 : (Cond.instanceMethod yX9_tell) ∈ GW := gw_in 1286 (by decide +kernel)
theorem tw_1232 : (Cond.selects RX9 yX9_tell yX9_tell) ∈ GW := gw_in 1287 (by decide +kernel)
theorem tw_1233 : (Cond.code yX9_tell cX9_tell 2 (some .int)) ∈ GW := gw_in 1288 (by decide +kernel)
theorem tw_1234 : (Cond.methodLink RL 174 yX9_check) ∈ GW := gw_in 1289 (by decide +kernel)
theorem tw_1235 : (Cond.instanceMethod yX9_check) ∈ GW := gw_in 1290 (by decide +kernel)
theorem tw_1236 : (Cond.selects RX9 yX9_check yX9_check) ∈ GW := gw_in 1291 (by decide +kernel)
theorem tw_1237 : (Cond.code yX9_check cX9_check 3 (some .int)) ∈ GW := gw_in 1292 (by decide +kernel)
theorem tw_1238 : (Cond.methodLink RL 178 yX9_count) ∈ GW := gw_in 1293 (by decide +kernel)
theorem tw_1239 : (Cond.instanceMethod yX9_count) ∈ GW := gw_in 1294 (by decide +kernel)
theorem tw_1240 : (Cond.selects RX9 yX9_count yX9_count) ∈ GW := gw_in 1295 (by decide +kernel)
theorem tw_1241 : (Cond.code yX9_count cX9_count 2 (some .int)) ∈ GW := gw_in 1296 (by decide +kernel)
theorem tw_1242 : (Cond.methodLink RL 182 yX9_told) ∈ GW := gw_in 1297 (by decide +kernel)
theorem tw_1243 : (Cond.instanceMethod yX9_told) ∈ GW := gw_in 1298 (by decide +kernel)
theorem tw_1244 : (Cond.selects RX9 yX9_told yX9_told) ∈ GW := gw_in 1299 (by decide +kernel)
theorem tw_1245 : (Cond.code yX9_told cX9_told 2 (some .int)) ∈ GW := gw_in 1300 (by decide +kernel)
theorem tw_1246 : (Cond.constantLong RX9 296 5) ∈ GW := gw_in 1301 (by decide +kernel)
theorem tw_1247 : (Cond.constantLong RL 48 4294967295) ∈ GW := gw_in 1302 (by decide +kernel)
theorem tp_0 : (Cond.selects RX8 yX8_error yX8_error) ∈ GW := gw_in 0 (by decide +kernel)
theorem tp_1 : (Cond.selects RX2 yX2_readLevel yX2_readLevel) ∈ GW := gw_in 1 (by decide +kernel)
theorem tp_2 : (Cond.selects RX2 yX2_readPart yX2_readPart) ∈ GW := gw_in 2 (by decide +kernel)
theorem tp_3 : (Cond.selects RX2 yX2_next yX2_next) ∈ GW := gw_in 3 (by decide +kernel)
theorem tp_4 : (Cond.selects RX2 yX2_readNumber yX2_readNumber) ∈ GW := gw_in 4 (by decide +kernel)
theorem tp_5 : (Cond.selects RX2 yX2_addStep yX2_addStep) ∈ GW := gw_in 5 (by decide +kernel)
theorem tp_6 : (Cond.selects RX8 yX8_goToldAt yX8_goToldAt) ∈ GW := gw_in 6 (by decide +kernel)
theorem tp_7 : (Cond.selects RX5 yX5_isHeld yX5_isHeld) ∈ GW := gw_in 7 (by decide +kernel)
theorem tp_8 : (Cond.selects RX8 yX8_oneEvening yX8_oneEvening) ∈ GW := gw_in 8 (by decide +kernel)
theorem tp_9 : (Cond.selects RX8 yX8_orNone yX8_orNone) ∈ GW := gw_in 9 (by decide +kernel)
theorem tp_10 : (Cond.selects RX8 yX8_sheetOf yX8_sheetOf) ∈ GW := gw_in 10 (by decide +kernel)
theorem tp_11 : (Cond.selects RX5 yX5_isAsTold yX5_isAsTold) ∈ GW := gw_in 11 (by decide +kernel)
theorem tp_12 : (Cond.selects RX6 yX6_say yX6_say) ∈ GW := gw_in 12 (by decide +kernel)
theorem tp_13 : (Cond.selects RX6 yX6_note yX6_note) ∈ GW := gw_in 13 (by decide +kernel)
theorem tp_14 : (Cond.selects RX6 yX6_own yX6_own) ∈ GW := gw_in 14 (by decide +kernel)
theorem tp_15 : (Cond.selects RX9 yX9_finds yX9_finds) ∈ GW := gw_in 15 (by decide +kernel)
theorem tp_16 : (Cond.selects RX9 yX9_worked yX9_worked) ∈ GW := gw_in 16 (by decide +kernel)
theorem tp_17 : (Cond.selects RX9 yX9_either yX9_either) ∈ GW := gw_in 17 (by decide +kernel)
theorem tp_18 : (Cond.selects RX9 yX9_both yX9_both) ∈ GW := gw_in 18 (by decide +kernel)
theorem tp_19 : (Cond.selects RX9 yX9_compared yX9_compared) ∈ GW := gw_in 19 (by decide +kernel)
theorem tp_20 : (Cond.selects RX9 yX9_sum yX9_sum) ∈ GW := gw_in 20 (by decide +kernel)
theorem tp_21 : (Cond.selects RX9 yX9_product yX9_product) ∈ GW := gw_in 21 (by decide +kernel)
theorem tp_22 : (Cond.selects RX9 yX9_unit yX9_unit) ∈ GW := gw_in 22 (by decide +kernel)
theorem tp_23 : (Cond.selects RX9 yX9_here yX9_here) ∈ GW := gw_in 23 (by decide +kernel)
theorem tp_24 : (Cond.selects RX9 yX9_wrong yX9_wrong) ∈ GW := gw_in 24 (by decide +kernel)
theorem tp_25 : (Cond.selects RX9 yX9_takes yX9_takes) ∈ GW := gw_in 25 (by decide +kernel)
theorem tp_26 : (Cond.selects RX9 yX9_textGives yX9_textGives) ∈ GW := gw_in 26 (by decide +kernel)
theorem tp_27 : (Cond.selects RX9 yX9_barOf yX9_barOf) ∈ GW := gw_in 27 (by decide +kernel)
theorem tp_28 : (Cond.selects RX9 yX9_sets yX9_sets) ∈ GW := gw_in 28 (by decide +kernel)
theorem tp_29 : (Cond.selects RX9 yX9_isFlyer yX9_isFlyer) ∈ GW := gw_in 29 (by decide +kernel)
theorem tp_30 : (Cond.selects RX9 yX9_lagOf yX9_lagOf) ∈ GW := gw_in 30 (by decide +kernel)
theorem tp_31 : (Cond.selects RX9 yX9_of yX9_of) ∈ GW := gw_in 31 (by decide +kernel)
theorem tp_32 : (Cond.selects RX9 yX9_holdsOf yX9_holdsOf) ∈ GW := gw_in 32 (by decide +kernel)
theorem tp_33 : (Cond.selects RX9 yX9_harmOf yX9_harmOf) ∈ GW := gw_in 33 (by decide +kernel)
theorem tp_34 : (Cond.selects RX9 yX9_goes yX9_goes) ∈ GW := gw_in 34 (by decide +kernel)
theorem tp_35 : (Cond.selects RX9 yX9_isTold yX9_isTold) ∈ GW := gw_in 35 (by decide +kernel)
theorem tp_36 : (Cond.selects RX9 yX9_letsGo yX9_letsGo) ∈ GW := gw_in 36 (by decide +kernel)
theorem tp_37 : (Cond.selects RX9 yX9_isCaught yX9_isCaught) ∈ GW := gw_in 37 (by decide +kernel)
theorem tp_38 : (Cond.selects RX9 yX9_offNow yX9_offNow) ∈ GW := gw_in 38 (by decide +kernel)
theorem tp_39 : (Cond.selects RX9 yX9_catcherAt yX9_catcherAt) ∈ GW := gw_in 39 (by decide +kernel)
theorem tp_40 : (Cond.selects RX9 yX9_fallHarm yX9_fallHarm) ∈ GW := gw_in 40 (by decide +kernel)
theorem tp_41 : (Cond.selects RX9 yX9_drawn yX9_drawn) ∈ GW := gw_in 41 (by decide +kernel)
theorem tp_42 : (Cond.selects RX9 yX9_findCan yX9_findCan) ∈ GW := gw_in 42 (by decide +kernel)
theorem tp_43 : (Cond.selects RX9 yX9_surestOf yX9_surestOf) ∈ GW := gw_in 43 (by decide +kernel)
theorem tp_44 : (Cond.selects RX9 yX9_casesAt yX9_casesAt) ∈ GW := gw_in 44 (by decide +kernel)
theorem tp_45 : (Cond.selects RX9 yX9_hasNext yX9_hasNext) ∈ GW := gw_in 45 (by decide +kernel)
theorem tp_46 : (Cond.selects RX9 yX9_findFalls yX9_findFalls) ∈ GW := gw_in 46 (by decide +kernel)
theorem tp_47 : (Cond.selects RX9 yX9_harmBy yX9_harmBy) ∈ GW := gw_in 47 (by decide +kernel)
theorem tp_48 : (Cond.selects RX9 yX9_isSo yX9_isSo) ∈ GW := gw_in 48 (by decide +kernel)
theorem tp_49 : (Cond.selects RX9 yX9_own yX9_own) ∈ GW := gw_in 49 (by decide +kernel)
theorem tp_50 : (Cond.selects RX9 yX9_swingsBy yX9_swingsBy) ∈ GW := gw_in 50 (by decide +kernel)
theorem tp_51 : (Cond.selects RX9 yX9_ran yX9_ran) ∈ GW := gw_in 51 (by decide +kernel)
theorem tp_52 : (Cond.selects RX9 yX9_fliesBy yX9_fliesBy) ∈ GW := gw_in 52 (by decide +kernel)
theorem tp_53 : (Cond.selects RX9 yX9_fallsBy yX9_fallsBy) ∈ GW := gw_in 53 (by decide +kernel)
theorem tp_54 : (Cond.selects RX9 yX9_tellsBy yX9_tellsBy) ∈ GW := gw_in 54 (by decide +kernel)
def NW : List Cond := [Cond.methodLinkNest RX7 11 yX4_init "CatchBars", Cond.fieldLinkNest RX5 126 "CatchBars$Swing" "period" "I" "CatchBars", Cond.fieldLinkNest RX5 117 "CatchBars$Swing" "width" "I" "CatchBars", Cond.fieldLinkNest RX5 123 "CatchBars$Swing" "phase" "I" "CatchBars", Cond.methodLinkNest RX7 59 yX0_init "CatchBars", Cond.fieldLinkNest RX6 33 "CatchBars$Flyer" "kind" "I" "CatchBars", Cond.fieldLinkNest RX8 105 "CatchBars$Flyer" "kind" "I" "CatchBars", Cond.fieldLinkNest RX5 65 "CatchBars$Flyer" "m" "I" "CatchBars", Cond.fieldLinkNest RX8 108 "CatchBars$Flyer" "m" "I" "CatchBars", Cond.fieldLinkNest RX6 59 "CatchBars$Flyer" "m" "I" "CatchBars", Cond.fieldLinkNest RX5 62 "CatchBars$Flyer" "turnCount" "I" "CatchBars", Cond.fieldLinkNest RX8 111 "CatchBars$Flyer" "turnCount" "I" "CatchBars", Cond.fieldLinkNest RX8 114 "CatchBars$Flyer" "goes" "I" "CatchBars", Cond.fieldLinkNest RX5 36 "CatchBars$World" "near" "LCatchBars$Swing;" "CatchBars", Cond.fieldLinkNest RX8 311 "CatchBars$World" "near" "LCatchBars$Swing;" "CatchBars", Cond.fieldLinkNest RX5 43 "CatchBars$World" "far" "LCatchBars$Swing;" "CatchBars", Cond.fieldLinkNest RX5 83 "CatchBars$World" "gap" "I" "CatchBars", Cond.fieldLinkNest RX8 78 "CatchBars$World" "gap" "I" "CatchBars", Cond.fieldLinkNest RX8 82 "CatchBars$World" "reach" "I" "CatchBars", Cond.fieldLinkNest RX5 91 "CatchBars$World" "reach" "I" "CatchBars", Cond.fieldLinkNest RX8 85 "CatchBars$World" "net" "I" "CatchBars", Cond.fieldLinkNest RX5 108 "CatchBars$World" "tick" "I" "CatchBars", Cond.fieldLinkNest RX8 161 "CatchBars$World" "tick" "I" "CatchBars", Cond.fieldLinkNest RX8 92 "CatchBars$World" "flyerCount" "I" "CatchBars", Cond.fieldLinkNest RX2 43 "CatchBars$World" "tape" "[I" "CatchBars", Cond.fieldLinkNest RX2 38 "CatchBars$World" "tapeLength" "I" "CatchBars", Cond.fieldLinkNest RX8 133 "CatchBars$World" "tapeLength" "I" "CatchBars", Cond.fieldLinkNest RX5 58 "CatchBars$World" "flight" "LCatchBars$Law;" "CatchBars", Cond.fieldLinkNest RX5 77 "CatchBars$World" "air" "LCatchBars$Law;" "CatchBars", Cond.fieldLinkNest RX8 171 "CatchBars$World" "catches" "I" "CatchBars", Cond.fieldLinkNest RX8 315 "CatchBars$World" "falls" "I" "CatchBars", Cond.fieldLinkNest RX8 318 "CatchBars$World" "hurt" "I" "CatchBars", Cond.fieldLinkNest RX8 257 "CatchBars$World" "z" "I" "CatchBars", Cond.fieldLinkNest RX8 308 "CatchBars$World" "waiting" "[I" "CatchBars", Cond.fieldLinkNest RX8 302 "CatchBars$World" "waitingCount" "I" "CatchBars", Cond.methodLinkNest RX5 11 yX4_init "CatchBars", Cond.methodLinkNest RX5 23 yX0_init "CatchBars", Cond.fieldLinkNest RX8 184 "CatchBars$Thinker" "comes" "I" "CatchBars", Cond.fieldLinkNest RX8 187 "CatchBars$Thinker" "place" "I" "CatchBars", Cond.fieldLinkNest RX8 146 "CatchBars$Reader" "steps" "[I" "CatchBars", Cond.fieldLinkNest RX8 149 "CatchBars$Reader" "count" "I" "CatchBars", Cond.methodLinkNest RX8 37 yX6_init "CatchBars", Cond.methodLinkNest RX6 17 yX0_init "CatchBars", Cond.fieldLinkNest RX8 264 "CatchBars$Voices" "traced" "I" "CatchBars", Cond.methodLinkNest RX8 52 yX3_init "CatchBars", Cond.fieldLinkNest RX8 284 "CatchBars$Sheet" "numbers" "[I" "CatchBars", Cond.fieldLinkNest RX8 278 "CatchBars$Sheet" "bits" "I" "CatchBars", Cond.fieldLinkNest RX5 138 "CatchBars$Sheet" "length" "I" "CatchBars", Cond.fieldLinkNest RX8 272 "CatchBars$Sheet" "length" "I" "CatchBars", Cond.methodLinkNest RX4 18 yX8_within "CatchBars"]
theorem nw_0 : (Cond.methodLinkNest RX7 11 yX4_init "CatchBars") ∈ NW := List.mem_of_getElem? (i := 0) rfl
theorem nw_1 : (Cond.fieldLinkNest RX5 126 "CatchBars$Swing" "period" "I" "CatchBars") ∈ NW := List.mem_of_getElem? (i := 1) rfl
theorem nw_2 : (Cond.fieldLinkNest RX5 117 "CatchBars$Swing" "width" "I" "CatchBars") ∈ NW := List.mem_of_getElem? (i := 2) rfl
theorem nw_3 : (Cond.fieldLinkNest RX5 123 "CatchBars$Swing" "phase" "I" "CatchBars") ∈ NW := List.mem_of_getElem? (i := 3) rfl
theorem nw_4 : (Cond.methodLinkNest RX7 59 yX0_init "CatchBars") ∈ NW := List.mem_of_getElem? (i := 4) rfl
theorem nw_5 : (Cond.fieldLinkNest RX6 33 "CatchBars$Flyer" "kind" "I" "CatchBars") ∈ NW := List.mem_of_getElem? (i := 5) rfl
theorem nw_6 : (Cond.fieldLinkNest RX8 105 "CatchBars$Flyer" "kind" "I" "CatchBars") ∈ NW := List.mem_of_getElem? (i := 6) rfl
theorem nw_7 : (Cond.fieldLinkNest RX5 65 "CatchBars$Flyer" "m" "I" "CatchBars") ∈ NW := List.mem_of_getElem? (i := 7) rfl
theorem nw_8 : (Cond.fieldLinkNest RX8 108 "CatchBars$Flyer" "m" "I" "CatchBars") ∈ NW := List.mem_of_getElem? (i := 8) rfl
theorem nw_9 : (Cond.fieldLinkNest RX6 59 "CatchBars$Flyer" "m" "I" "CatchBars") ∈ NW := List.mem_of_getElem? (i := 9) rfl
theorem nw_10 : (Cond.fieldLinkNest RX5 62 "CatchBars$Flyer" "turnCount" "I" "CatchBars") ∈ NW := List.mem_of_getElem? (i := 10) rfl
theorem nw_11 : (Cond.fieldLinkNest RX8 111 "CatchBars$Flyer" "turnCount" "I" "CatchBars") ∈ NW := List.mem_of_getElem? (i := 11) rfl
theorem nw_12 : (Cond.fieldLinkNest RX8 114 "CatchBars$Flyer" "goes" "I" "CatchBars") ∈ NW := List.mem_of_getElem? (i := 12) rfl
theorem nw_13 : (Cond.fieldLinkNest RX5 36 "CatchBars$World" "near" "LCatchBars$Swing;" "CatchBars") ∈ NW := List.mem_of_getElem? (i := 13) rfl
theorem nw_14 : (Cond.fieldLinkNest RX8 311 "CatchBars$World" "near" "LCatchBars$Swing;" "CatchBars") ∈ NW := List.mem_of_getElem? (i := 14) rfl
theorem nw_15 : (Cond.fieldLinkNest RX5 43 "CatchBars$World" "far" "LCatchBars$Swing;" "CatchBars") ∈ NW := List.mem_of_getElem? (i := 15) rfl
theorem nw_16 : (Cond.fieldLinkNest RX5 83 "CatchBars$World" "gap" "I" "CatchBars") ∈ NW := List.mem_of_getElem? (i := 16) rfl
theorem nw_17 : (Cond.fieldLinkNest RX8 78 "CatchBars$World" "gap" "I" "CatchBars") ∈ NW := List.mem_of_getElem? (i := 17) rfl
theorem nw_18 : (Cond.fieldLinkNest RX8 82 "CatchBars$World" "reach" "I" "CatchBars") ∈ NW := List.mem_of_getElem? (i := 18) rfl
theorem nw_19 : (Cond.fieldLinkNest RX5 91 "CatchBars$World" "reach" "I" "CatchBars") ∈ NW := List.mem_of_getElem? (i := 19) rfl
theorem nw_20 : (Cond.fieldLinkNest RX8 85 "CatchBars$World" "net" "I" "CatchBars") ∈ NW := List.mem_of_getElem? (i := 20) rfl
theorem nw_21 : (Cond.fieldLinkNest RX5 108 "CatchBars$World" "tick" "I" "CatchBars") ∈ NW := List.mem_of_getElem? (i := 21) rfl
theorem nw_22 : (Cond.fieldLinkNest RX8 161 "CatchBars$World" "tick" "I" "CatchBars") ∈ NW := List.mem_of_getElem? (i := 22) rfl
theorem nw_23 : (Cond.fieldLinkNest RX8 92 "CatchBars$World" "flyerCount" "I" "CatchBars") ∈ NW := List.mem_of_getElem? (i := 23) rfl
theorem nw_24 : (Cond.fieldLinkNest RX2 43 "CatchBars$World" "tape" "[I" "CatchBars") ∈ NW := List.mem_of_getElem? (i := 24) rfl
theorem nw_25 : (Cond.fieldLinkNest RX2 38 "CatchBars$World" "tapeLength" "I" "CatchBars") ∈ NW := List.mem_of_getElem? (i := 25) rfl
theorem nw_26 : (Cond.fieldLinkNest RX8 133 "CatchBars$World" "tapeLength" "I" "CatchBars") ∈ NW := List.mem_of_getElem? (i := 26) rfl
theorem nw_27 : (Cond.fieldLinkNest RX5 58 "CatchBars$World" "flight" "LCatchBars$Law;" "CatchBars") ∈ NW := List.mem_of_getElem? (i := 27) rfl
theorem nw_28 : (Cond.fieldLinkNest RX5 77 "CatchBars$World" "air" "LCatchBars$Law;" "CatchBars") ∈ NW := List.mem_of_getElem? (i := 28) rfl
theorem nw_29 : (Cond.fieldLinkNest RX8 171 "CatchBars$World" "catches" "I" "CatchBars") ∈ NW := List.mem_of_getElem? (i := 29) rfl
theorem nw_30 : (Cond.fieldLinkNest RX8 315 "CatchBars$World" "falls" "I" "CatchBars") ∈ NW := List.mem_of_getElem? (i := 30) rfl
theorem nw_31 : (Cond.fieldLinkNest RX8 318 "CatchBars$World" "hurt" "I" "CatchBars") ∈ NW := List.mem_of_getElem? (i := 31) rfl
theorem nw_32 : (Cond.fieldLinkNest RX8 257 "CatchBars$World" "z" "I" "CatchBars") ∈ NW := List.mem_of_getElem? (i := 32) rfl
theorem nw_33 : (Cond.fieldLinkNest RX8 308 "CatchBars$World" "waiting" "[I" "CatchBars") ∈ NW := List.mem_of_getElem? (i := 33) rfl
theorem nw_34 : (Cond.fieldLinkNest RX8 302 "CatchBars$World" "waitingCount" "I" "CatchBars") ∈ NW := List.mem_of_getElem? (i := 34) rfl
theorem nw_35 : (Cond.methodLinkNest RX5 11 yX4_init "CatchBars") ∈ NW := List.mem_of_getElem? (i := 35) rfl
theorem nw_36 : (Cond.methodLinkNest RX5 23 yX0_init "CatchBars") ∈ NW := List.mem_of_getElem? (i := 36) rfl
theorem nw_37 : (Cond.fieldLinkNest RX8 184 "CatchBars$Thinker" "comes" "I" "CatchBars") ∈ NW := List.mem_of_getElem? (i := 37) rfl
theorem nw_38 : (Cond.fieldLinkNest RX8 187 "CatchBars$Thinker" "place" "I" "CatchBars") ∈ NW := List.mem_of_getElem? (i := 38) rfl
theorem nw_39 : (Cond.fieldLinkNest RX8 146 "CatchBars$Reader" "steps" "[I" "CatchBars") ∈ NW := List.mem_of_getElem? (i := 39) rfl
theorem nw_40 : (Cond.fieldLinkNest RX8 149 "CatchBars$Reader" "count" "I" "CatchBars") ∈ NW := List.mem_of_getElem? (i := 40) rfl
theorem nw_41 : (Cond.methodLinkNest RX8 37 yX6_init "CatchBars") ∈ NW := List.mem_of_getElem? (i := 41) rfl
theorem nw_42 : (Cond.methodLinkNest RX6 17 yX0_init "CatchBars") ∈ NW := List.mem_of_getElem? (i := 42) rfl
theorem nw_43 : (Cond.fieldLinkNest RX8 264 "CatchBars$Voices" "traced" "I" "CatchBars") ∈ NW := List.mem_of_getElem? (i := 43) rfl
theorem nw_44 : (Cond.methodLinkNest RX8 52 yX3_init "CatchBars") ∈ NW := List.mem_of_getElem? (i := 44) rfl
theorem nw_45 : (Cond.fieldLinkNest RX8 284 "CatchBars$Sheet" "numbers" "[I" "CatchBars") ∈ NW := List.mem_of_getElem? (i := 45) rfl
theorem nw_46 : (Cond.fieldLinkNest RX8 278 "CatchBars$Sheet" "bits" "I" "CatchBars") ∈ NW := List.mem_of_getElem? (i := 46) rfl
theorem nw_47 : (Cond.fieldLinkNest RX5 138 "CatchBars$Sheet" "length" "I" "CatchBars") ∈ NW := List.mem_of_getElem? (i := 47) rfl
theorem nw_48 : (Cond.fieldLinkNest RX8 272 "CatchBars$Sheet" "length" "I" "CatchBars") ∈ NW := List.mem_of_getElem? (i := 48) rfl
theorem nw_49 : (Cond.methodLinkNest RX4 18 yX8_within "CatchBars") ∈ NW := List.mem_of_getElem? (i := 49) rfl
theorem gwi0 : ∀ w ∈ gw0, w ∈ GW := by decide +kernel
theorem gwi1 : ∀ w ∈ gw1, w ∈ GW := by decide +kernel
theorem gwi2 : ∀ w ∈ gw2, w ∈ GW := by decide +kernel
theorem gwi3 : ∀ w ∈ gw3, w ∈ GW := by decide +kernel
theorem gwi4 : ∀ w ∈ gw4, w ∈ GW := by decide +kernel
theorem gwi5 : ∀ w ∈ gw5, w ∈ GW := by decide +kernel
theorem gwi6 : ∀ w ∈ gw6, w ∈ GW := by decide +kernel
theorem gwi7 : ∀ w ∈ gw7, w ∈ GW := by decide +kernel
theorem gwi8 : ∀ w ∈ gw8, w ∈ GW := by decide +kernel
theorem gwi9 : ∀ w ∈ gw9, w ∈ GW := by decide +kernel
end
section
/-! a system of fixed objects: its state is a function of place and slot; worlds, contracts, one row an instruction -/
abbrev Fn : Type := Nat → Nat → Int32
def up2 (f : Fn) (k j : Nat) (v : Int32) : Fn := fun a => if a = k then upd (f a) j v else f a
theorem up2_same (f : Fn) (k j : Nat) (v : Int32) : up2 f k j v k = upd (f k) j v := by simp [up2]
theorem up2_ne (f : Fn) {k j : Nat} {v : Int32} {a : Nat} (h : a ≠ k) : up2 f k j v a = f a := by simp [up2, h]
def mk64 (a b : Int32) : Int64 := Int64.ofBitVec (a.toBitVec ++ b.toBitVec)
def hi64 (v : Int64) : Int32 := Int32.ofBitVec (v.toBitVec.extractLsb' 32 32)
def lo64 (v : Int64) : Int32 := Int32.ofBitVec (v.toBitVec.extractLsb' 0 32)
theorem mk64_hl (v : Int64) : mk64 (hi64 v) (lo64 v) = v := by
  apply Int64.toBitVec_inj.mp
  simp only [mk64, hi64, lo64, Int64.toBitVec_ofBitVec, Int32.toBitVec_ofBitVec]
  apply BitVec.eq_of_getLsbD_eq
  intro i hi
  rw [BitVec.getLsbD_append]
  by_cases h : i < 32
  · simp [h]
  · have h2 : i - 32 < 32 := by omega
    have h3 : 32 + (i - 32) = i := by omega
    simp [h, h2, h3]
abbrev CD : Type := (Nat × List Nat) ⊕ (Nat ⊕ (Nat × List Nat))
abbrev Ev : Type := va_G × (Nat → Nat) × ClassId × (Nat → ClassId) × Nat
def fvl (ad : Nat → Nat) (r : Nat → Int32) (j c : Nat) : Value := if c = 0 then .int (r j) else if c = 1 then .long (mk64 (r j) (r (j + 100))) else .ref (ad (c - 2))
def cel (E : Ev) (r : Nat → Int32) (d : CD) : va_E := match d with
  | .inl (ci, fl) => .inr (ci, fl.mapIdx (fvl E.2.1 r))
  | .inr (.inl n) => .inl (E.2.2.1, n, .inl r)
  | .inr (.inr (w, rs)) => .inl (E.2.2.2.1 w, rs.length, .inr (.inr (.inr (.inr (fun i => (rs[i]?).map E.2.1)))))
def cw (E : Ev) (la : List CD) (f : Fn) : va_W := la.mapIdx (fun k d => (E.2.1 k, cel E (f k) d))
theorem cw_get {E : Ev} {la : List CD} {f : Fn} {k : Nat} {d : CD} (h : la[k]? = some d) : (cw E la f)[k]? = some (E.2.1 k, cel E (f k) d) := by
  simp [cw, List.getElem?_mapIdx, h]
theorem cw_set {E : Ev} {la : List CD} {f f' : Fn} {k : Nat} {d : CD} (h : la[k]? = some d) (hf : ∀ a, a ≠ k → f' a = f a) : (cw E la f).set k (E.2.1 k, cel E (f' k) d) = cw E la f' := by
  apply List.ext_getElem?
  intro i
  by_cases hi : i = k
  · subst hi
    have hl : i < (cw E la f).length := by simp [cw]; exact (List.getElem?_eq_some_iff.mp h).1
    rw [List.getElem?_set_self hl, cw_get h]
  · rw [List.getElem?_set_ne (Ne.symm hi)]
    simp [cw, List.getElem?_mapIdx, hf i hi]
def EA (E : Ev) (la : List CD) : Nat → Prop := fun q => ∃ k, k < la.length ∧ q = E.2.1 k
def EI (E : Ev) (la : List CD) : Prop := ∀ i j, i < la.length → j < la.length → E.2.1 i = E.2.1 j → i = j
theorem cw_D {E : Ev} {la : List CD} (hi : EI E la) (f : Fn) : va_D (EA E la) (cw E la f) := by
  have key : ∀ (k : Nat) (q : Nat × va_E), (cw E la f)[k]? = some q → k < la.length ∧ q.1 = E.2.1 k := by
    intro k q hq
    simp only [cw, List.getElem?_mapIdx, Option.map_eq_some_iff] at hq
    obtain ⟨d, h1, h2⟩ := hq
    refine ⟨(List.getElem?_eq_some_iff.mp h1).1, ?_⟩
    rw [← h2]
  refine ⟨fun i j p q h1 h2 h3 => ?_, fun k q h => ?_⟩
  · obtain ⟨a1, a2⟩ := key i p h1
    obtain ⟨b1, b2⟩ := key j q h2
    exact hi i j a1 b1 (by rw [← a2, ← b2, h3])
  · obtain ⟨a1, a2⟩ := key k q h
    exact ⟨k, a1, a2⟩
def tysE (E : Ev) : List (ClassId × FieldType) := [(E.2.2.1, .int), (E.2.2.2.1 0, .object RX0), (E.2.2.2.1 1, .object RX3)]
def BV (j : Nat) : Int32 := ([10, 20, 0, 0, 0, 0, 0, 11, 0, 30, 0, 0, 60, 0, 12, 0, 0, 40, 0, 0, 70, 13, 0, 0, 0, 50, 0, 71] : List Int32).getD j 0
def KK (E : Ev) (la : List CD) (U : State) : Prop := va_K E.1 vwCl (tysE E) U ∧ va_Z "CatchBars$Voices" "BODIES" "[I" (.ref E.2.2.2.2) (EA E la) U U.heap ∧ va_T .int E.2.2.2.2 28 (fun j => .int (BV j)) (EA E la) U U.heap ∧ (∀ w ∈ NW, va_Nw w U) ∧ EI E la
def isNest : Cond → Bool
  | .fieldLinkNest .. => true
  | .methodLinkNest .. => true
  | _ => false
theorem NW_nest : NW.all isNest = true := by decide +kernel
theorem NW_tabs : NW.all (fun w => w.onTables) = true := by decide +kernel
theorem nw_warm {s U : State} (hW : s.WarmedH U.vm) {w : Cond} (hn : isNest w = true) (h : va_Nw w s) : va_Nw w U := by
  cases w <;> first | exact va_Nw.warmF hW h | exact va_Nw.warmM hW h | (simp [isNest] at hn)
theorem KK.warm {E : Ev} {la : List CD} {s U : State} {H : Heap} {locs : List Loc} (hU : U.heap = H) (hW : s.WarmedH U.vm) (hS : va_S (EA E la) s.heap H locs) (h : KK E la s) : KK E la U := by
  obtain ⟨h1, h2, h3, h4, h5⟩ := h
  subst hU
  exact ⟨va_K.moved hW.alike h1, (va_Z.moved hW.alike h2).kept hS.2.1, (va_T.moved hW.alike h3).kept hS.2.1, fun w hw => nw_warm hW (List.all_eq_true.mp NW_nest w hw) (h4 w hw), h5⟩
theorem KK.blind {E : Ev} {la : List CD} {a : Array Value} {U : State} {g : JFrame} {mk : MethodId} (h : KK E la U) : KK E la (U.calling g mk a) := by
  obtain ⟨h1, h2, h3, h4, h5⟩ := h
  exact ⟨va_K.moved (u := U) (U := U.calling g mk a) (Vm.Alike.refl U.vm) h1, va_Z.moved (u := U) (U := U.calling g mk a) (Vm.Alike.refl U.vm) h2, va_T.moved (u := U) (U := U.calling g mk a) (Vm.Alike.refl U.vm) h3, fun w hw => va_Nw.same (u := U) (U := U.calling g mk a) (List.all_eq_true.mp NW_tabs w hw) rfl (h4 w hw), h5⟩
def rmD (d : Nat) : Room := { frames := d, cells := 0, slots := 0, locals := 40 * d }
def QC (E : Ev) (la : List CD) (post : Option Value → Fn → Prop) : Array Value → State → Outcome → State → Prop := fun _ st oc t => (∃ (v : Option Value) (f' : Fn), oc = .returned v ∧ post v f' ∧ va_P E.1 vwCl (cw E la f') t.heap) ∧ va_F (EA E la) st t
def PC (E : Ev) (la : List CD) (av : List Value) (f : Fn) : Array Value → State → Prop := va_Pc av (fun U => va_P E.1 vwCl (cw E la f) U.heap ∧ KK E la U)
/-- a method's contract over the worlds of a layout: depth d of calls below it -/
def CT (l : Launch) (E : Ev) (la : List CD) (y : MethodName) (b : ByteArray) (n : Nat) (ret : Option FieldType) (d : Nat) (av : List Value) (f : Fn) (post : Option Value → Fn → Prop) : Prop :=
  Met l y (.code y b n ret :: GW) (rmD d) (PC E la av f) (QC E la post) 0 0 (EA E la)
def pI (p : Int32 → Fn → Prop) : Option Value → Fn → Prop := fun v f => ∃ r : Int32, v = some (.int r) ∧ p r f
def pL (p : Int64 → Fn → Prop) : Option Value → Fn → Prop := fun v f => ∃ r : Int64, v = some (.long r) ∧ p r f
def pV (p : Fn → Prop) : Option Value → Fn → Prop := fun v f => v = none ∧ p f
def pR (ad : Nat → Nat) (p : Option Nat → Fn → Prop) : Option Value → Fn → Prop := fun v f => ∃ r : Option Nat, v = some (va_rf (r.map ad)) ∧ p r f
theorem pI_iff {p : Int32 → Fn → Prop} {r : Int32} {f : Fn} : pI p (some (.int r)) f ↔ p r f := ⟨fun ⟨x, h1, h2⟩ => by cases h1; exact h2, fun h => ⟨r, rfl, h⟩⟩
theorem pL_iff {p : Int64 → Fn → Prop} {r : Int64} {f : Fn} : pL p (some (.long r)) f ↔ p r f := ⟨fun ⟨x, h1, h2⟩ => by cases h1; exact h2, fun h => ⟨r, rfl, h⟩⟩
theorem pV_iff {p : Fn → Prop} {f : Fn} : pV p none f ↔ p f := ⟨fun ⟨_, h2⟩ => h2, fun h => ⟨rfl, h⟩⟩
theorem pR_some {ad : Nat → Nat} {p : Option Nat → Fn → Prop} {k : Nat} {f : Fn} (h : p (some k) f) : pR ad p (some (.ref (ad k))) f := ⟨some k, rfl, h⟩
theorem pR_none {ad : Nat → Nat} {p : Option Nat → Fn → Prop} {f : Fn} (h : p none f) : pR ad p (some .null) f := ⟨none, rfl, h⟩
/-- what a walk stands in -/
abbrev Zt : Type := Program × Launch × Env × State × MethodId × Array Value × List Frame × Method × Code × Ev × List CD × Nat × Nat × (Option Value → Fn → Prop)
def zl : Zt → Launch := fun Z => Z.2.1
def zE : Zt → Ev := fun Z => Z.2.2.2.2.2.2.2.2.2.1
def zad : Zt → Nat → Nat := fun Z => (zE Z).2.1
def ztB : Zt → Nat := fun Z => (zE Z).2.2.2.2
def zp : Zt → Option Value → Fn → Prop := fun Z => Z.2.2.2.2.2.2.2.2.2.2.2.2.2
def GG : Zt → Fn → List (Nat × Value) → Nat → List Value → Prop
  | (p, l, e, s, m, args, below, meth, c, E, la, n, d, post), f, lv, pc, st => ∀ (H : Heap) (locs : List Loc) (ls : Array Slot), va_P E.1 vwCl (cw E la f) H → va_S (EA E la) s.heap H locs → lv_has ls n lv → W p l e (rmD d) s m args below meth c H locs 0 0 (MQ below (QC E la post) args s 0 0 (EA E la)) (F0 m pc ls st)
def CX : Zt → List CD → String → ByteArray → Nat → Option FieldType → Nat → Prop
  | (p, _, _, s, m, args, _, meth, c, E, la, n, d, _), la0, own, cc, n0, ret, d0 => p.tables.exec = Jvm.exec ∧ c.code = cc ∧ c.maxLocals = n ∧ s.vm.findClass own = some m.cls ∧ (∀ w ∈ GW, w.before args s = true) ∧ meth.sig.returnType = ret ∧ meth.locks = false ∧ KK E la s ∧ la = la0 ∧ n = n0 ∧ d = d0
def lk (lv : List (Nat × Value)) (i : Nat) : Option Value := (lv.find? (fun q => q.1 == i)).map (fun q => q.2)
theorem lk_at {ls : Array Slot} {n : Nat} {lv : List (Nat × Value)} (h : lv_has ls n lv) {i : Nat} {v : Value} (hk : lk lv i = some v) : ls[i]? = some (.val v) := by
  unfold lk at hk
  cases hq : lv.find? (fun q => q.1 == i) with
  | none => rw [hq] at hk; cases hk
  | some q =>
    rw [hq] at hk
    cases hk
    have h1 : q.1 = i := by simpa using List.find?_some hq
    rw [← h1]
    exact h.2.2 q (List.mem_of_find?_eq_some hq)
def ls1 (lv : List (Nat × Value)) (i : Nat) (v : Value) : List (Nat × Value) := (i, v) :: lv.filter (fun q => !(q.1 == i) && !(q.1 + 1 == i && q.2.category == 2))
def ls2 (lv : List (Nat × Value)) (i : Nat) (v : Value) : List (Nat × Value) := (i, v) :: lv.filter (fun q => !(q.1 == i) && (!(q.1 == i + 1) && !(q.1 + 1 == i && q.2.category == 2)))
/-- fewer locals -/
theorem g_sub {Z : Zt} {f : Fn} {lv lv' : List (Nat × Value)} {pc : Nat} {st : List Value} (h : ∀ q ∈ lv', q ∈ lv) (g : GG Z f lv' pc st) : GG Z f lv pc st := by
  obtain ⟨p, l, e, s, m, args, below, meth, c, E, la, n, d, post⟩ := Z
  intro H locs ls hP hS hl
  exact g H locs ls hP hS ⟨hl.1, hl.2.1, fun q hq => hl.2.2 q (h q hq)⟩
def lps (lv : List (Nat × Value)) (is : List Nat) : List (Nat × Value) := is.filterMap (fun i => (lk lv i).map (fun v => (i, v)))
theorem g_lps {Z : Zt} {f : Fn} {lv lv' : List (Nat × Value)} {pc : Nat} {st : List Value} (is : List Nat) (h : lps lv is = lv') (g : GG Z f lv' pc st) : GG Z f lv pc st := by
  refine g_sub (fun q hq => ?_) g
  rw [← h] at hq
  obtain ⟨i, -, hi⟩ := List.mem_filterMap.mp hq
  cases hl : lk lv i with
  | none => rw [hl] at hi; cases hi
  | some v =>
    rw [hl] at hi
    cases hi
    unfold lk at hl
    cases hq9 : lv.find? (fun q => q.1 == i) with
    | none => rw [hq9] at hl; cases hl
    | some q9 =>
      rw [hq9] at hl
      cases hl
      have h1 : q9.1 = i := by simpa using List.find?_some hq9
      have := List.mem_of_find?_eq_some hq9
      rw [← h1]
      exact this
theorem g_iconst {Z : Zt} {la : List CD} {own : String} {cc : ByteArray} {n : Nat} {ret : Option FieldType} {d : Nat} {f : Fn} {lv : List (Nat × Value)} {pc q : Nat} {st : List Value} {i : Int} {v : Int32} (hv : Int32.ofInt i = v) (C : CX Z la own cc n ret d) (hd : decode cc pc = .ok (.iconst i, 1)) (hq : pc + 1 = q) (g : GG Z f lv q (.int v :: st)) : GG Z f lv pc (st) := by
  obtain ⟨p, l, e, s, m, args, below, meth, c, E, la', n', d', post⟩ := Z
  obtain ⟨hx, hb, hml, hown, hts, hr, hlk, hK, rfl, rfl, rfl⟩ := C
  subst hq
  intro H locs ls hP hS hl
  exact lv_iconst hx hb hd hv (g H locs ls hP hS hl)
theorem g_bipush {Z : Zt} {la : List CD} {own : String} {cc : ByteArray} {n : Nat} {ret : Option FieldType} {d : Nat} {f : Fn} {lv : List (Nat × Value)} {pc q : Nat} {st : List Value} {i : Int} {v : Int32} (hv : (Int8.ofInt i).toInt32 = v) (C : CX Z la own cc n ret d) (hd : decode cc pc = .ok (.bipush i, 2)) (hq : pc + 2 = q) (g : GG Z f lv q (.int v :: st)) : GG Z f lv pc (st) := by
  obtain ⟨p, l, e, s, m, args, below, meth, c, E, la', n', d', post⟩ := Z
  obtain ⟨hx, hb, hml, hown, hts, hr, hlk, hK, rfl, rfl, rfl⟩ := C
  subst hq
  intro H locs ls hP hS hl
  exact lv_bipush hx hb hd hv (g H locs ls hP hS hl)
theorem g_sipush {Z : Zt} {la : List CD} {own : String} {cc : ByteArray} {n : Nat} {ret : Option FieldType} {d : Nat} {f : Fn} {lv : List (Nat × Value)} {pc q : Nat} {st : List Value} {i : Int} {v : Int32} (hv : (Int16.ofInt i).toInt32 = v) (C : CX Z la own cc n ret d) (hd : decode cc pc = .ok (.sipush i, 3)) (hq : pc + 3 = q) (g : GG Z f lv q (.int v :: st)) : GG Z f lv pc (st) := by
  obtain ⟨p, l, e, s, m, args, below, meth, c, E, la', n', d', post⟩ := Z
  obtain ⟨hx, hb, hml, hown, hts, hr, hlk, hK, rfl, rfl, rfl⟩ := C
  subst hq
  intro H locs ls hP hS hl
  exact lv_sipush hx hb hd hv (g H locs ls hP hS hl)
theorem g_lconst {Z : Zt} {la : List CD} {own : String} {cc : ByteArray} {n : Nat} {ret : Option FieldType} {d : Nat} {f : Fn} {lv : List (Nat × Value)} {pc q : Nat} {st : List Value} {i : Fin 2} {v : Int64} (hv : Int64.ofNat (i : Nat) = v) (C : CX Z la own cc n ret d) (hd : decode cc pc = .ok (.lconst i, 1)) (hq : pc + 1 = q) (g : GG Z f lv q (.long v :: st)) : GG Z f lv pc (st) := by
  obtain ⟨p, l, e, s, m, args, below, meth, c, E, la', n', d', post⟩ := Z
  obtain ⟨hx, hb, hml, hown, hts, hr, hlk, hK, rfl, rfl, rfl⟩ := C
  subst hq
  intro H locs ls hP hS hl
  exact lv_lconst hx hb hd hv (g H locs ls hP hS hl)
theorem g_null {Z : Zt} {la : List CD} {own : String} {cc : ByteArray} {n : Nat} {ret : Option FieldType} {d : Nat} {f : Fn} {lv : List (Nat × Value)} {pc q : Nat} {st : List Value}  (C : CX Z la own cc n ret d) (hd : decode cc pc = .ok (.aconst_null, 1)) (hq : pc + 1 = q) (g : GG Z f lv q (.null :: st)) : GG Z f lv pc (st) := by
  obtain ⟨p, l, e, s, m, args, below, meth, c, E, la', n', d', post⟩ := Z
  obtain ⟨hx, hb, hml, hown, hts, hr, hlk, hK, rfl, rfl, rfl⟩ := C
  subst hq
  intro H locs ls hP hS hl
  exact lv_null hx hb hd (g H locs ls hP hS hl)
theorem g_iload_n {Z : Zt} {la : List CD} {own : String} {cc : ByteArray} {n : Nat} {ret : Option FieldType} {d : Nat} {f : Fn} {lv : List (Nat × Value)} {pc q : Nat} {st : List Value} {k : Fin 4} {x : Int32} (hv : lk lv (k : Nat) = some (.int x)) (C : CX Z la own cc n ret d) (hd : decode cc pc = .ok (.iload_n k, 1)) (hq : pc + 1 = q) (g : GG Z f lv q (.int x :: st)) : GG Z f lv pc (st) := by
  obtain ⟨p, l, e, s, m, args, below, meth, c, E, la', n', d', post⟩ := Z
  obtain ⟨hx, hb, hml, hown, hts, hr, hlk, hK, rfl, rfl, rfl⟩ := C
  subst hq
  intro H locs ls hP hS hl
  exact lv_iload_n hx hb hd rfl (lk_at hl hv) (g H locs ls hP hS hl)
theorem g_iload {Z : Zt} {la : List CD} {own : String} {cc : ByteArray} {n : Nat} {ret : Option FieldType} {d : Nat} {f : Fn} {lv : List (Nat × Value)} {pc q : Nat} {st : List Value} {k : Nat} {x : Int32} (hv : lk lv k = some (.int x)) (C : CX Z la own cc n ret d) (hd : decode cc pc = .ok (.iload k, 2)) (hq : pc + 2 = q) (g : GG Z f lv q (.int x :: st)) : GG Z f lv pc (st) := by
  obtain ⟨p, l, e, s, m, args, below, meth, c, E, la', n', d', post⟩ := Z
  obtain ⟨hx, hb, hml, hown, hts, hr, hlk, hK, rfl, rfl, rfl⟩ := C
  subst hq
  intro H locs ls hP hS hl
  exact lv_iload hx hb hd (lk_at hl hv) (g H locs ls hP hS hl)
theorem g_lload_n {Z : Zt} {la : List CD} {own : String} {cc : ByteArray} {n : Nat} {ret : Option FieldType} {d : Nat} {f : Fn} {lv : List (Nat × Value)} {pc q : Nat} {st : List Value} {k : Fin 4} {x : Int64} (hv : lk lv (k : Nat) = some (.long x)) (C : CX Z la own cc n ret d) (hd : decode cc pc = .ok (.lload_n k, 1)) (hq : pc + 1 = q) (g : GG Z f lv q (.long x :: st)) : GG Z f lv pc (st) := by
  obtain ⟨p, l, e, s, m, args, below, meth, c, E, la', n', d', post⟩ := Z
  obtain ⟨hx, hb, hml, hown, hts, hr, hlk, hK, rfl, rfl, rfl⟩ := C
  subst hq
  intro H locs ls hP hS hl
  exact lv_lload_n hx hb hd rfl (lk_at hl hv) (g H locs ls hP hS hl)
theorem g_lload {Z : Zt} {la : List CD} {own : String} {cc : ByteArray} {n : Nat} {ret : Option FieldType} {d : Nat} {f : Fn} {lv : List (Nat × Value)} {pc q : Nat} {st : List Value} {k : Nat} {x : Int64} (hv : lk lv k = some (.long x)) (C : CX Z la own cc n ret d) (hd : decode cc pc = .ok (.lload k, 2)) (hq : pc + 2 = q) (g : GG Z f lv q (.long x :: st)) : GG Z f lv pc (st) := by
  obtain ⟨p, l, e, s, m, args, below, meth, c, E, la', n', d', post⟩ := Z
  obtain ⟨hx, hb, hml, hown, hts, hr, hlk, hK, rfl, rfl, rfl⟩ := C
  subst hq
  intro H locs ls hP hS hl
  exact lv_lload hx hb hd (lk_at hl hv) (g H locs ls hP hS hl)
theorem g_aload_n {Z : Zt} {la : List CD} {own : String} {cc : ByteArray} {n : Nat} {ret : Option FieldType} {d : Nat} {f : Fn} {lv : List (Nat × Value)} {pc q : Nat} {st : List Value} {k : Fin 4} {x : Nat} (hv : lk lv (k : Nat) = some (.ref x)) (C : CX Z la own cc n ret d) (hd : decode cc pc = .ok (.aload_n k, 1)) (hq : pc + 1 = q) (g : GG Z f lv q (.ref x :: st)) : GG Z f lv pc (st) := by
  obtain ⟨p, l, e, s, m, args, below, meth, c, E, la', n', d', post⟩ := Z
  obtain ⟨hx, hb, hml, hown, hts, hr, hlk, hK, rfl, rfl, rfl⟩ := C
  subst hq
  intro H locs ls hP hS hl
  exact lv_aload_n hx hb hd rfl (lk_at hl hv) (g H locs ls hP hS hl)
theorem g_aload {Z : Zt} {la : List CD} {own : String} {cc : ByteArray} {n : Nat} {ret : Option FieldType} {d : Nat} {f : Fn} {lv : List (Nat × Value)} {pc q : Nat} {st : List Value} {k : Nat} {x : Nat} (hv : lk lv k = some (.ref x)) (C : CX Z la own cc n ret d) (hd : decode cc pc = .ok (.aload k, 2)) (hq : pc + 2 = q) (g : GG Z f lv q (.ref x :: st)) : GG Z f lv pc (st) := by
  obtain ⟨p, l, e, s, m, args, below, meth, c, E, la', n', d', post⟩ := Z
  obtain ⟨hx, hb, hml, hown, hts, hr, hlk, hK, rfl, rfl, rfl⟩ := C
  subst hq
  intro H locs ls hP hS hl
  exact lv_aload hx hb hd (lk_at hl hv) (g H locs ls hP hS hl)
theorem g_istore_n {Z : Zt} {la : List CD} {own : String} {cc : ByteArray} {n : Nat} {ret : Option FieldType} {d : Nat} {f : Fn} {lv : List (Nat × Value)} {pc q : Nat} {st : List Value} {lv' : List (Nat × Value)} {k : Fin 4} {x : Int32} (C : CX Z la own cc n ret d) (hd : decode cc pc = .ok (.istore_n k, 1)) (hi : (k : Nat) < n) (hs : ls1 lv (k : Nat) (.int x) = lv') (hq : pc + 1 = q) (g : GG Z f lv' q st) : GG Z f lv pc (.int x :: st) := by
  obtain ⟨p, l, e, s, m, args, below, meth, c, E, la', n', d', post⟩ := Z
  obtain ⟨hx, hb, hml, hown, hts, hr, hlk, hK, rfl, rfl, rfl⟩ := C
  subst hq
  intro H locs ls hP hS hl
  exact lv_istore_n hx hb hd rfl hl hi hs (fun ls' h => g H locs ls' hP hS h)
theorem g_istore {Z : Zt} {la : List CD} {own : String} {cc : ByteArray} {n : Nat} {ret : Option FieldType} {d : Nat} {f : Fn} {lv : List (Nat × Value)} {pc q : Nat} {st : List Value} {lv' : List (Nat × Value)} {k : Nat} {x : Int32} (C : CX Z la own cc n ret d) (hd : decode cc pc = .ok (.istore k, 2)) (hi : k < n) (hs : ls1 lv k (.int x) = lv') (hq : pc + 2 = q) (g : GG Z f lv' q st) : GG Z f lv pc (.int x :: st) := by
  obtain ⟨p, l, e, s, m, args, below, meth, c, E, la', n', d', post⟩ := Z
  obtain ⟨hx, hb, hml, hown, hts, hr, hlk, hK, rfl, rfl, rfl⟩ := C
  subst hq
  intro H locs ls hP hS hl
  exact lv_istore hx hb hd hl hi hs (fun ls' h => g H locs ls' hP hS h)
theorem g_lstore_n {Z : Zt} {la : List CD} {own : String} {cc : ByteArray} {n : Nat} {ret : Option FieldType} {d : Nat} {f : Fn} {lv : List (Nat × Value)} {pc q : Nat} {st : List Value} {lv' : List (Nat × Value)} {k : Fin 4} {x : Int64} (C : CX Z la own cc n ret d) (hd : decode cc pc = .ok (.lstore_n k, 1)) (hi : (k : Nat) + 1 < n) (hs : ls2 lv (k : Nat) (.long x) = lv') (hq : pc + 1 = q) (g : GG Z f lv' q st) : GG Z f lv pc (.long x :: st) := by
  obtain ⟨p, l, e, s, m, args, below, meth, c, E, la', n', d', post⟩ := Z
  obtain ⟨hx, hb, hml, hown, hts, hr, hlk, hK, rfl, rfl, rfl⟩ := C
  subst hq
  intro H locs ls hP hS hl
  exact lv_lstore_n hx hb hd rfl hl hi hs (fun ls' h => g H locs ls' hP hS h)
theorem g_lstore {Z : Zt} {la : List CD} {own : String} {cc : ByteArray} {n : Nat} {ret : Option FieldType} {d : Nat} {f : Fn} {lv : List (Nat × Value)} {pc q : Nat} {st : List Value} {lv' : List (Nat × Value)} {k : Nat} {x : Int64} (C : CX Z la own cc n ret d) (hd : decode cc pc = .ok (.lstore k, 2)) (hi : k + 1 < n) (hs : ls2 lv k (.long x) = lv') (hq : pc + 2 = q) (g : GG Z f lv' q st) : GG Z f lv pc (.long x :: st) := by
  obtain ⟨p, l, e, s, m, args, below, meth, c, E, la', n', d', post⟩ := Z
  obtain ⟨hx, hb, hml, hown, hts, hr, hlk, hK, rfl, rfl, rfl⟩ := C
  subst hq
  intro H locs ls hP hS hl
  exact lv_lstore hx hb hd hl hi hs (fun ls' h => g H locs ls' hP hS h)
theorem g_astore_n {Z : Zt} {la : List CD} {own : String} {cc : ByteArray} {n : Nat} {ret : Option FieldType} {d : Nat} {f : Fn} {lv : List (Nat × Value)} {pc q : Nat} {st : List Value} {lv' : List (Nat × Value)} {k : Fin 4} {x : Nat} (C : CX Z la own cc n ret d) (hd : decode cc pc = .ok (.astore_n k, 1)) (hi : (k : Nat) < n) (hs : ls1 lv (k : Nat) (.ref x) = lv') (hq : pc + 1 = q) (g : GG Z f lv' q st) : GG Z f lv pc (.ref x :: st) := by
  obtain ⟨p, l, e, s, m, args, below, meth, c, E, la', n', d', post⟩ := Z
  obtain ⟨hx, hb, hml, hown, hts, hr, hlk, hK, rfl, rfl, rfl⟩ := C
  subst hq
  intro H locs ls hP hS hl
  exact lv_astore_n hx hb hd rfl hl hi hs (fun ls' h => g H locs ls' hP hS h)
theorem g_astore {Z : Zt} {la : List CD} {own : String} {cc : ByteArray} {n : Nat} {ret : Option FieldType} {d : Nat} {f : Fn} {lv : List (Nat × Value)} {pc q : Nat} {st : List Value} {lv' : List (Nat × Value)} {k : Nat} {x : Nat} (C : CX Z la own cc n ret d) (hd : decode cc pc = .ok (.astore k, 2)) (hi : k < n) (hs : ls1 lv k (.ref x) = lv') (hq : pc + 2 = q) (g : GG Z f lv' q st) : GG Z f lv pc (.ref x :: st) := by
  obtain ⟨p, l, e, s, m, args, below, meth, c, E, la', n', d', post⟩ := Z
  obtain ⟨hx, hb, hml, hown, hts, hr, hlk, hK, rfl, rfl, rfl⟩ := C
  subst hq
  intro H locs ls hP hS hl
  exact lv_astore hx hb hd hl hi hs (fun ls' h => g H locs ls' hP hS h)
theorem lk_place {lv : List (Nat × Value)} {i : Nat} {v : Value} (h : lk lv i = some v) : ∃ k : Nat, lv[k]? = some (i, v) := by
  unfold lk at h
  cases hq : lv.find? (fun q => q.1 == i) with
  | none => rw [hq] at h; cases h
  | some q =>
    rw [hq] at h
    cases h
    have h1 : q.1 = i := by simpa using List.find?_some hq
    obtain ⟨k, hk⟩ := List.getElem?_of_mem (List.mem_of_find?_eq_some hq)
    exact ⟨k, by rw [hk, ← h1]⟩
theorem g_iinc {Z : Zt} {la : List CD} {own : String} {cc : ByteArray} {n : Nat} {ret : Option FieldType} {d : Nat} {f : Fn} {lv : List (Nat × Value)} {pc q : Nat} {st : List Value} {lv' : List (Nat × Value)} {k : Nat} {i : Int} {x v : Int32} (C : CX Z la own cc n ret d) (hd : decode cc pc = .ok (.iinc k i, 3)) (hk : lk lv k = some (.int x)) (hv : x + Int32.ofInt i = v) (hi : k < n) (hs : ls1 lv k (.int v) = lv') (hq : pc + 3 = q) (g : GG Z f lv' q st) : GG Z f lv pc st := by
  obtain ⟨p, l, e, s, m, args, below, meth, c, E, la', n', d', post⟩ := Z
  obtain ⟨hx, hb, hml, hown, hts, hr, hlk, hK, rfl, rfl, rfl⟩ := C
  subst hq
  intro H locs ls hP hS hl
  obtain ⟨j, hj⟩ := lk_place hk
  exact lv_iinc hx hb hd hl hj hv hi hs (fun ls' h => g H locs ls' hP hS h)
theorem g_iadd {Z : Zt} {la : List CD} {own : String} {cc : ByteArray} {n : Nat} {ret : Option FieldType} {d : Nat} {f : Fn} {lv : List (Nat × Value)} {pc q : Nat} {st : List Value} {x y : Int32} (C : CX Z la own cc n ret d) (hd : decode cc pc = .ok (.iadd, 1)) (hq : pc + 1 = q) (g : GG Z f lv q (.int (x + y) :: st)) : GG Z f lv pc (.int y :: .int x :: st) := by
  obtain ⟨p, l, e, s, m, args, below, meth, c, E, la', n', d', post⟩ := Z
  obtain ⟨hx, hb, hml, hown, hts, hr, hlk, hK, rfl, rfl, rfl⟩ := C
  subst hq
  intro H locs ls hP hS hl
  exact lv_iadd hx hb hd (g H locs ls hP hS hl)
theorem g_isub {Z : Zt} {la : List CD} {own : String} {cc : ByteArray} {n : Nat} {ret : Option FieldType} {d : Nat} {f : Fn} {lv : List (Nat × Value)} {pc q : Nat} {st : List Value} {x y : Int32} (C : CX Z la own cc n ret d) (hd : decode cc pc = .ok (.isub, 1)) (hq : pc + 1 = q) (g : GG Z f lv q (.int (x - y) :: st)) : GG Z f lv pc (.int y :: .int x :: st) := by
  obtain ⟨p, l, e, s, m, args, below, meth, c, E, la', n', d', post⟩ := Z
  obtain ⟨hx, hb, hml, hown, hts, hr, hlk, hK, rfl, rfl, rfl⟩ := C
  subst hq
  intro H locs ls hP hS hl
  exact lv_isub hx hb hd (g H locs ls hP hS hl)
theorem g_imul {Z : Zt} {la : List CD} {own : String} {cc : ByteArray} {n : Nat} {ret : Option FieldType} {d : Nat} {f : Fn} {lv : List (Nat × Value)} {pc q : Nat} {st : List Value} {x y : Int32} (C : CX Z la own cc n ret d) (hd : decode cc pc = .ok (.imul, 1)) (hq : pc + 1 = q) (g : GG Z f lv q (.int (x * y) :: st)) : GG Z f lv pc (.int y :: .int x :: st) := by
  obtain ⟨p, l, e, s, m, args, below, meth, c, E, la', n', d', post⟩ := Z
  obtain ⟨hx, hb, hml, hown, hts, hr, hlk, hK, rfl, rfl, rfl⟩ := C
  subst hq
  intro H locs ls hP hS hl
  exact lv_imul hx hb hd (g H locs ls hP hS hl)
theorem g_ixor {Z : Zt} {la : List CD} {own : String} {cc : ByteArray} {n : Nat} {ret : Option FieldType} {d : Nat} {f : Fn} {lv : List (Nat × Value)} {pc q : Nat} {st : List Value} {x y : Int32} (C : CX Z la own cc n ret d) (hd : decode cc pc = .ok (.ixor, 1)) (hq : pc + 1 = q) (g : GG Z f lv q (.int (x ^^^ y) :: st)) : GG Z f lv pc (.int y :: .int x :: st) := by
  obtain ⟨p, l, e, s, m, args, below, meth, c, E, la', n', d', post⟩ := Z
  obtain ⟨hx, hb, hml, hown, hts, hr, hlk, hK, rfl, rfl, rfl⟩ := C
  subst hq
  intro H locs ls hP hS hl
  exact lv_ixor hx hb hd (g H locs ls hP hS hl)
theorem g_iand {Z : Zt} {la : List CD} {own : String} {cc : ByteArray} {n : Nat} {ret : Option FieldType} {d : Nat} {f : Fn} {lv : List (Nat × Value)} {pc q : Nat} {st : List Value} {x y : Int32} (C : CX Z la own cc n ret d) (hd : decode cc pc = .ok (.iand, 1)) (hq : pc + 1 = q) (g : GG Z f lv q (.int (x &&& y) :: st)) : GG Z f lv pc (.int y :: .int x :: st) := by
  obtain ⟨p, l, e, s, m, args, below, meth, c, E, la', n', d', post⟩ := Z
  obtain ⟨hx, hb, hml, hown, hts, hr, hlk, hK, rfl, rfl, rfl⟩ := C
  subst hq
  intro H locs ls hP hS hl
  exact lv_iand hx hb hd (g H locs ls hP hS hl)
theorem g_idiv {Z : Zt} {la : List CD} {own : String} {cc : ByteArray} {n : Nat} {ret : Option FieldType} {d : Nat} {f : Fn} {lv : List (Nat × Value)} {pc q : Nat} {st : List Value} {x y : Int32} (hne : ¬ y = 0) (C : CX Z la own cc n ret d) (hd : decode cc pc = .ok (.idiv, 1)) (hq : pc + 1 = q) (g : GG Z f lv q (.int (x / y) :: st)) : GG Z f lv pc (.int y :: .int x :: st) := by
  obtain ⟨p, l, e, s, m, args, below, meth, c, E, la', n', d', post⟩ := Z
  obtain ⟨hx, hb, hml, hown, hts, hr, hlk, hK, rfl, rfl, rfl⟩ := C
  subst hq
  intro H locs ls hP hS hl
  exact lv_idiv hx hb hd hne (g H locs ls hP hS hl)
theorem g_irem {Z : Zt} {la : List CD} {own : String} {cc : ByteArray} {n : Nat} {ret : Option FieldType} {d : Nat} {f : Fn} {lv : List (Nat × Value)} {pc q : Nat} {st : List Value} {x y : Int32} (hne : ¬ y = 0) (C : CX Z la own cc n ret d) (hd : decode cc pc = .ok (.irem, 1)) (hq : pc + 1 = q) (g : GG Z f lv q (.int (x - x / y * y) :: st)) : GG Z f lv pc (.int y :: .int x :: st) := by
  obtain ⟨p, l, e, s, m, args, below, meth, c, E, la', n', d', post⟩ := Z
  obtain ⟨hx, hb, hml, hown, hts, hr, hlk, hK, rfl, rfl, rfl⟩ := C
  subst hq
  intro H locs ls hP hS hl
  exact lv_irem hx hb hd hne (g H locs ls hP hS hl)
theorem g_ineg {Z : Zt} {la : List CD} {own : String} {cc : ByteArray} {n : Nat} {ret : Option FieldType} {d : Nat} {f : Fn} {lv : List (Nat × Value)} {pc q : Nat} {st : List Value} {x : Int32} (C : CX Z la own cc n ret d) (hd : decode cc pc = .ok (.ineg, 1)) (hq : pc + 1 = q) (g : GG Z f lv q (.int (-x) :: st)) : GG Z f lv pc (.int x :: st) := by
  obtain ⟨p, l, e, s, m, args, below, meth, c, E, la', n', d', post⟩ := Z
  obtain ⟨hx, hb, hml, hown, hts, hr, hlk, hK, rfl, rfl, rfl⟩ := C
  subst hq
  intro H locs ls hP hS hl
  exact lv_ineg hx hb hd (g H locs ls hP hS hl)
theorem g_iushr {Z : Zt} {la : List CD} {own : String} {cc : ByteArray} {n : Nat} {ret : Option FieldType} {d : Nat} {f : Fn} {lv : List (Nat × Value)} {pc q : Nat} {st : List Value} {x y : Int32} (C : CX Z la own cc n ret d) (hd : decode cc pc = .ok (.iushr, 1)) (hq : pc + 1 = q) (g : GG Z f lv q (.int ((x.toUInt32 >>> (y.toUInt32 &&& Int32.toUInt32 31)).toInt32) :: st)) : GG Z f lv pc (.int y :: .int x :: st) := by
  obtain ⟨p, l, e, s, m, args, below, meth, c, E, la', n', d', post⟩ := Z
  obtain ⟨hx, hb, hml, hown, hts, hr, hlk, hK, rfl, rfl, rfl⟩ := C
  subst hq
  intro H locs ls hP hS hl
  exact lv_iushr hx hb hd rfl (g H locs ls hP hS hl)
theorem g_i2l {Z : Zt} {la : List CD} {own : String} {cc : ByteArray} {n : Nat} {ret : Option FieldType} {d : Nat} {f : Fn} {lv : List (Nat × Value)} {pc q : Nat} {st : List Value} {x : Int32} (C : CX Z la own cc n ret d) (hd : decode cc pc = .ok (.i2l, 1)) (hq : pc + 1 = q) (g : GG Z f lv q (.long x.toInt64 :: st)) : GG Z f lv pc (.int x :: st) := by
  obtain ⟨p, l, e, s, m, args, below, meth, c, E, la', n', d', post⟩ := Z
  obtain ⟨hx, hb, hml, hown, hts, hr, hlk, hK, rfl, rfl, rfl⟩ := C
  subst hq
  intro H locs ls hP hS hl
  exact lv_i2l hx hb hd rfl (g H locs ls hP hS hl)
theorem g_l2i {Z : Zt} {la : List CD} {own : String} {cc : ByteArray} {n : Nat} {ret : Option FieldType} {d : Nat} {f : Fn} {lv : List (Nat × Value)} {pc q : Nat} {st : List Value} {x : Int64} (C : CX Z la own cc n ret d) (hd : decode cc pc = .ok (.l2i, 1)) (hq : pc + 1 = q) (g : GG Z f lv q (.int x.toInt32 :: st)) : GG Z f lv pc (.long x :: st) := by
  obtain ⟨p, l, e, s, m, args, below, meth, c, E, la', n', d', post⟩ := Z
  obtain ⟨hx, hb, hml, hown, hts, hr, hlk, hK, rfl, rfl, rfl⟩ := C
  subst hq
  intro H locs ls hP hS hl
  exact lv_l2i hx hb hd rfl (g H locs ls hP hS hl)
theorem g_i2b {Z : Zt} {la : List CD} {own : String} {cc : ByteArray} {n : Nat} {ret : Option FieldType} {d : Nat} {f : Fn} {lv : List (Nat × Value)} {pc q : Nat} {st : List Value} {x : Int32} (C : CX Z la own cc n ret d) (hd : decode cc pc = .ok (.i2b, 1)) (hq : pc + 1 = q) (g : GG Z f lv q (.int x.toInt8.toInt32 :: st)) : GG Z f lv pc (.int x :: st) := by
  obtain ⟨p, l, e, s, m, args, below, meth, c, E, la', n', d', post⟩ := Z
  obtain ⟨hx, hb, hml, hown, hts, hr, hlk, hK, rfl, rfl, rfl⟩ := C
  subst hq
  intro H locs ls hP hS hl
  exact lv_i2b hx hb hd rfl (g H locs ls hP hS hl)
theorem g_i2s {Z : Zt} {la : List CD} {own : String} {cc : ByteArray} {n : Nat} {ret : Option FieldType} {d : Nat} {f : Fn} {lv : List (Nat × Value)} {pc q : Nat} {st : List Value} {x : Int32} (C : CX Z la own cc n ret d) (hd : decode cc pc = .ok (.i2s, 1)) (hq : pc + 1 = q) (g : GG Z f lv q (.int x.toInt16.toInt32 :: st)) : GG Z f lv pc (.int x :: st) := by
  obtain ⟨p, l, e, s, m, args, below, meth, c, E, la', n', d', post⟩ := Z
  obtain ⟨hx, hb, hml, hown, hts, hr, hlk, hK, rfl, rfl, rfl⟩ := C
  subst hq
  intro H locs ls hP hS hl
  exact lv_i2s hx hb hd rfl (g H locs ls hP hS hl)
theorem g_ladd {Z : Zt} {la : List CD} {own : String} {cc : ByteArray} {n : Nat} {ret : Option FieldType} {d : Nat} {f : Fn} {lv : List (Nat × Value)} {pc q : Nat} {st : List Value} {x y : Int64} (C : CX Z la own cc n ret d) (hd : decode cc pc = .ok (.ladd, 1)) (hq : pc + 1 = q) (g : GG Z f lv q (.long (x + y) :: st)) : GG Z f lv pc (.long y :: .long x :: st) := by
  obtain ⟨p, l, e, s, m, args, below, meth, c, E, la', n', d', post⟩ := Z
  obtain ⟨hx, hb, hml, hown, hts, hr, hlk, hK, rfl, rfl, rfl⟩ := C
  subst hq
  intro H locs ls hP hS hl
  exact lv_ladd hx hb hd (g H locs ls hP hS hl)
theorem g_lsub {Z : Zt} {la : List CD} {own : String} {cc : ByteArray} {n : Nat} {ret : Option FieldType} {d : Nat} {f : Fn} {lv : List (Nat × Value)} {pc q : Nat} {st : List Value} {x y : Int64} (C : CX Z la own cc n ret d) (hd : decode cc pc = .ok (.lsub, 1)) (hq : pc + 1 = q) (g : GG Z f lv q (.long (x - y) :: st)) : GG Z f lv pc (.long y :: .long x :: st) := by
  obtain ⟨p, l, e, s, m, args, below, meth, c, E, la', n', d', post⟩ := Z
  obtain ⟨hx, hb, hml, hown, hts, hr, hlk, hK, rfl, rfl, rfl⟩ := C
  subst hq
  intro H locs ls hP hS hl
  exact lv_lsub hx hb hd (g H locs ls hP hS hl)
theorem g_lmul {Z : Zt} {la : List CD} {own : String} {cc : ByteArray} {n : Nat} {ret : Option FieldType} {d : Nat} {f : Fn} {lv : List (Nat × Value)} {pc q : Nat} {st : List Value} {x y : Int64} (C : CX Z la own cc n ret d) (hd : decode cc pc = .ok (.lmul, 1)) (hq : pc + 1 = q) (g : GG Z f lv q (.long (x * y) :: st)) : GG Z f lv pc (.long y :: .long x :: st) := by
  obtain ⟨p, l, e, s, m, args, below, meth, c, E, la', n', d', post⟩ := Z
  obtain ⟨hx, hb, hml, hown, hts, hr, hlk, hK, rfl, rfl, rfl⟩ := C
  subst hq
  intro H locs ls hP hS hl
  exact lv_lmul hx hb hd (g H locs ls hP hS hl)
theorem g_land {Z : Zt} {la : List CD} {own : String} {cc : ByteArray} {n : Nat} {ret : Option FieldType} {d : Nat} {f : Fn} {lv : List (Nat × Value)} {pc q : Nat} {st : List Value} {x y : Int64} (C : CX Z la own cc n ret d) (hd : decode cc pc = .ok (.land, 1)) (hq : pc + 1 = q) (g : GG Z f lv q (.long (x &&& y) :: st)) : GG Z f lv pc (.long y :: .long x :: st) := by
  obtain ⟨p, l, e, s, m, args, below, meth, c, E, la', n', d', post⟩ := Z
  obtain ⟨hx, hb, hml, hown, hts, hr, hlk, hK, rfl, rfl, rfl⟩ := C
  subst hq
  intro H locs ls hP hS hl
  exact lv_land hx hb hd (g H locs ls hP hS hl)
theorem g_lor {Z : Zt} {la : List CD} {own : String} {cc : ByteArray} {n : Nat} {ret : Option FieldType} {d : Nat} {f : Fn} {lv : List (Nat × Value)} {pc q : Nat} {st : List Value} {x y : Int64} (C : CX Z la own cc n ret d) (hd : decode cc pc = .ok (.lor, 1)) (hq : pc + 1 = q) (g : GG Z f lv q (.long (x ||| y) :: st)) : GG Z f lv pc (.long y :: .long x :: st) := by
  obtain ⟨p, l, e, s, m, args, below, meth, c, E, la', n', d', post⟩ := Z
  obtain ⟨hx, hb, hml, hown, hts, hr, hlk, hK, rfl, rfl, rfl⟩ := C
  subst hq
  intro H locs ls hP hS hl
  exact lv_lor hx hb hd (g H locs ls hP hS hl)
theorem g_ldiv {Z : Zt} {la : List CD} {own : String} {cc : ByteArray} {n : Nat} {ret : Option FieldType} {d : Nat} {f : Fn} {lv : List (Nat × Value)} {pc q : Nat} {st : List Value} {x y : Int64} (hne : ¬ y = 0) (C : CX Z la own cc n ret d) (hd : decode cc pc = .ok (.ldiv, 1)) (hq : pc + 1 = q) (g : GG Z f lv q (.long (x / y) :: st)) : GG Z f lv pc (.long y :: .long x :: st) := by
  obtain ⟨p, l, e, s, m, args, below, meth, c, E, la', n', d', post⟩ := Z
  obtain ⟨hx, hb, hml, hown, hts, hr, hlk, hK, rfl, rfl, rfl⟩ := C
  subst hq
  intro H locs ls hP hS hl
  exact lv_ldiv hx hb hd hne (g H locs ls hP hS hl)
theorem g_lrem {Z : Zt} {la : List CD} {own : String} {cc : ByteArray} {n : Nat} {ret : Option FieldType} {d : Nat} {f : Fn} {lv : List (Nat × Value)} {pc q : Nat} {st : List Value} {x y : Int64} (hne : ¬ y = 0) (C : CX Z la own cc n ret d) (hd : decode cc pc = .ok (.lrem, 1)) (hq : pc + 1 = q) (g : GG Z f lv q (.long (x - x / y * y) :: st)) : GG Z f lv pc (.long y :: .long x :: st) := by
  obtain ⟨p, l, e, s, m, args, below, meth, c, E, la', n', d', post⟩ := Z
  obtain ⟨hx, hb, hml, hown, hts, hr, hlk, hK, rfl, rfl, rfl⟩ := C
  subst hq
  intro H locs ls hP hS hl
  exact lv_lrem hx hb hd hne (g H locs ls hP hS hl)
theorem g_lneg {Z : Zt} {la : List CD} {own : String} {cc : ByteArray} {n : Nat} {ret : Option FieldType} {d : Nat} {f : Fn} {lv : List (Nat × Value)} {pc q : Nat} {st : List Value} {x : Int64} (C : CX Z la own cc n ret d) (hd : decode cc pc = .ok (.lneg, 1)) (hq : pc + 1 = q) (g : GG Z f lv q (.long (-x) :: st)) : GG Z f lv pc (.long x :: st) := by
  obtain ⟨p, l, e, s, m, args, below, meth, c, E, la', n', d', post⟩ := Z
  obtain ⟨hx, hb, hml, hown, hts, hr, hlk, hK, rfl, rfl, rfl⟩ := C
  subst hq
  intro H locs ls hP hS hl
  exact lv_lneg hx hb hd (g H locs ls hP hS hl)
theorem g_lshl {Z : Zt} {la : List CD} {own : String} {cc : ByteArray} {n : Nat} {ret : Option FieldType} {d : Nat} {f : Fn} {lv : List (Nat × Value)} {pc q : Nat} {st : List Value} {x : Int64} {y : Int32} (C : CX Z la own cc n ret d) (hd : decode cc pc = .ok (.lshl, 1)) (hq : pc + 1 = q) (g : GG Z f lv q (.long (x <<< (y.toInt64 &&& 63)) :: st)) : GG Z f lv pc (.int y :: .long x :: st) := by
  obtain ⟨p, l, e, s, m, args, below, meth, c, E, la', n', d', post⟩ := Z
  obtain ⟨hx, hb, hml, hown, hts, hr, hlk, hK, rfl, rfl, rfl⟩ := C
  subst hq
  intro H locs ls hP hS hl
  exact lv_lshl hx hb hd rfl (g H locs ls hP hS hl)
theorem g_lshr {Z : Zt} {la : List CD} {own : String} {cc : ByteArray} {n : Nat} {ret : Option FieldType} {d : Nat} {f : Fn} {lv : List (Nat × Value)} {pc q : Nat} {st : List Value} {x : Int64} {y : Int32} (C : CX Z la own cc n ret d) (hd : decode cc pc = .ok (.lshr, 1)) (hq : pc + 1 = q) (g : GG Z f lv q (.long (x >>> (y.toInt64 &&& 63)) :: st)) : GG Z f lv pc (.int y :: .long x :: st) := by
  obtain ⟨p, l, e, s, m, args, below, meth, c, E, la', n', d', post⟩ := Z
  obtain ⟨hx, hb, hml, hown, hts, hr, hlk, hK, rfl, rfl, rfl⟩ := C
  subst hq
  intro H locs ls hP hS hl
  exact lv_lshr hx hb hd rfl (g H locs ls hP hS hl)
theorem g_lushr {Z : Zt} {la : List CD} {own : String} {cc : ByteArray} {n : Nat} {ret : Option FieldType} {d : Nat} {f : Fn} {lv : List (Nat × Value)} {pc q : Nat} {st : List Value} {x : Int64} {y : Int32} (C : CX Z la own cc n ret d) (hd : decode cc pc = .ok (.lushr, 1)) (hq : pc + 1 = q) (g : GG Z f lv q (.long ((x.toUInt64 >>> (y.toInt64.toUInt64 &&& Int64.toUInt64 63)).toInt64) :: st)) : GG Z f lv pc (.int y :: .long x :: st) := by
  obtain ⟨p, l, e, s, m, args, below, meth, c, E, la', n', d', post⟩ := Z
  obtain ⟨hx, hb, hml, hown, hts, hr, hlk, hK, rfl, rfl, rfl⟩ := C
  subst hq
  intro H locs ls hP hS hl
  exact lv_lushr hx hb hd rfl (g H locs ls hP hS hl)
theorem g_lcmp {Z : Zt} {la : List CD} {own : String} {cc : ByteArray} {n : Nat} {ret : Option FieldType} {d : Nat} {f : Fn} {lv : List (Nat × Value)} {pc q : Nat} {st : List Value} {x y : Int64} (C : CX Z la own cc n ret d) (hd : decode cc pc = .ok (.lcmp, 1)) (hq : pc + 1 = q) (g : GG Z f lv q (.int (lg_cmp x y) :: st)) : GG Z f lv pc (.long y :: .long x :: st) := by
  obtain ⟨p, l, e, s, m, args, below, meth, c, E, la', n', d', post⟩ := Z
  obtain ⟨hx, hb, hml, hown, hts, hr, hlk, hK, rfl, rfl, rfl⟩ := C
  subst hq
  intro H locs ls hP hS hl
  exact W.lcmp hx hb hd (g H locs ls hP hS hl)
theorem g_dup {Z : Zt} {la : List CD} {own : String} {cc : ByteArray} {n : Nat} {ret : Option FieldType} {d : Nat} {f : Fn} {lv : List (Nat × Value)} {pc q : Nat} {st : List Value} {a : Value} (ha : a.category = 1) (C : CX Z la own cc n ret d) (hd : decode cc pc = .ok (.dup, 1)) (hq : pc + 1 = q) (g : GG Z f lv q (a :: a :: st)) : GG Z f lv pc (a :: st) := by
  obtain ⟨p, l, e, s, m, args, below, meth, c, E, la', n', d', post⟩ := Z
  obtain ⟨hx, hb, hml, hown, hts, hr, hlk, hK, rfl, rfl, rfl⟩ := C
  subst hq
  intro H locs ls hP hS hl
  exact lv_dup hx hb hd ha (g H locs ls hP hS hl)
theorem g_dup2 {Z : Zt} {la : List CD} {own : String} {cc : ByteArray} {n : Nat} {ret : Option FieldType} {d : Nat} {f : Fn} {lv : List (Nat × Value)} {pc q : Nat} {st : List Value} {a b : Value} (ha : a.category = 1) (hb2 : b.category = 1) (C : CX Z la own cc n ret d) (hd : decode cc pc = .ok (.dup2, 1)) (hq : pc + 1 = q) (g : GG Z f lv q (a :: b :: a :: b :: st)) : GG Z f lv pc (a :: b :: st) := by
  obtain ⟨p, l, e, s, m, args, below, meth, c, E, la', n', d', post⟩ := Z
  obtain ⟨hx, hb, hml, hown, hts, hr, hlk, hK, rfl, rfl, rfl⟩ := C
  subst hq
  intro H locs ls hP hS hl
  exact lv_dup2_11 hx hb hd ha hb2 (g H locs ls hP hS hl)
theorem g_pop {Z : Zt} {la : List CD} {own : String} {cc : ByteArray} {n : Nat} {ret : Option FieldType} {d : Nat} {f : Fn} {lv : List (Nat × Value)} {pc q : Nat} {st : List Value} {a : Value} (ha : a.category = 1) (C : CX Z la own cc n ret d) (hd : decode cc pc = .ok (.pop, 1)) (hq : pc + 1 = q) (g : GG Z f lv q (st)) : GG Z f lv pc (a :: st) := by
  obtain ⟨p, l, e, s, m, args, below, meth, c, E, la', n', d', post⟩ := Z
  obtain ⟨hx, hb, hml, hown, hts, hr, hlk, hK, rfl, rfl, rfl⟩ := C
  subst hq
  intro H locs ls hP hS hl
  exact lv_pop hx hb hd ha (g H locs ls hP hS hl)
theorem g_ldc {Z : Zt} {la : List CD} {own : String} {cc : ByteArray} {n : Nat} {ret : Option FieldType} {d : Nat} {f : Fn} {lv : List (Nat × Value)} {pc q : Nat} {st : List Value} {i : Nat} {v : Int32} (hc : Cond.constant own i v ∈ GW) (C : CX Z la own cc n ret d) (hd : decode cc pc = .ok (.ldc i, 2)) (hq : pc + 2 = q) (g : GG Z f lv q (.int v :: st)) : GG Z f lv pc (st) := by
  obtain ⟨p, l, e, s, m, args, below, meth, c, E, la', n', d', post⟩ := Z
  obtain ⟨hx, hb, hml, hown, hts, hr, hlk, hK, rfl, rfl, rfl⟩ := C
  subst hq
  intro H locs ls hP hS hl
  exact lv_ldc hx hb hown (hts _ hc) hd (g H locs ls hP hS hl)
theorem g_ldcw {Z : Zt} {la : List CD} {own : String} {cc : ByteArray} {n : Nat} {ret : Option FieldType} {d : Nat} {f : Fn} {lv : List (Nat × Value)} {pc q : Nat} {st : List Value} {i : Nat} {v : Int32} (hc : Cond.constant own i v ∈ GW) (C : CX Z la own cc n ret d) (hd : decode cc pc = .ok (.ldc_w i, 3)) (hq : pc + 3 = q) (g : GG Z f lv q (.int v :: st)) : GG Z f lv pc (st) := by
  obtain ⟨p, l, e, s, m, args, below, meth, c, E, la', n', d', post⟩ := Z
  obtain ⟨hx, hb, hml, hown, hts, hr, hlk, hK, rfl, rfl, rfl⟩ := C
  subst hq
  intro H locs ls hP hS hl
  exact lv_ldcw hx hb hown (hts _ hc) hd (g H locs ls hP hS hl)
theorem g_ldc2 {Z : Zt} {la : List CD} {own : String} {cc : ByteArray} {n : Nat} {ret : Option FieldType} {d : Nat} {f : Fn} {lv : List (Nat × Value)} {pc q : Nat} {st : List Value} {i : Nat} {v : Int64} (hc : Cond.constantLong own i v ∈ GW) (C : CX Z la own cc n ret d) (hd : decode cc pc = .ok (.ldc2_w i, 3)) (hq : pc + 3 = q) (g : GG Z f lv q (.long v :: st)) : GG Z f lv pc (st) := by
  obtain ⟨p, l, e, s, m, args, below, meth, c, E, la', n', d', post⟩ := Z
  obtain ⟨hx, hb, hml, hown, hts, hr, hlk, hK, rfl, rfl, rfl⟩ := C
  subst hq
  intro H locs ls hP hS hl
  exact lv_ldc2 hx hb hown (hts _ hc) hd (g H locs ls hP hS hl)
theorem g_goto {Z : Zt} {la : List CD} {own : String} {cc : ByteArray} {n : Nat} {ret : Option FieldType} {d : Nat} {f : Fn} {lv : List (Nat × Value)} {pc q : Nat} {st : List Value} {off : Int} (C : CX Z la own cc n ret d) (hd : decode cc pc = .ok (.goto off, 3)) (hq : (pc : Int) + off = (q : Int)) (g : GG Z f lv q st) : GG Z f lv pc st := by
  obtain ⟨p, l, e, s, m, args, below, meth, c, E, la', n', d', post⟩ := Z
  obtain ⟨hx, hb, hml, hown, hts, hr, hlk, hK, rfl, rfl, rfl⟩ := C
  intro H locs ls hP hS hl
  exact lv_goto hx hb hd hq (g H locs ls hP hS hl)
theorem g_if_eq {Z : Zt} {la : List CD} {own : String} {cc : ByteArray} {n : Nat} {ret : Option FieldType} {d : Nat} {f : Fn} {lv : List (Nat × Value)} {pc q : Nat} {st : List Value} {tgt : Nat} {off : Int} {x : Int32} (C : CX Z la own cc n ret d) (hd : decode cc pc = .ok (.ifCond .eq off, 3)) (ht : (pc : Int) + off = (tgt : Int)) (hq : pc + 3 = q) (gt : x = 0 → GG Z f lv tgt st) (gf : ¬ x = 0 → GG Z f lv q st) : GG Z f lv pc (.int x :: st) := by
  obtain ⟨p, l, e, s, m, args, below, meth, c, E, la', n', d', post⟩ := Z
  obtain ⟨hx, hb, hml, hown, hts, hr, hlk, hK, rfl, rfl, rfl⟩ := C
  subst hq
  intro H locs ls hP hS hl
  exact lv_if_eq hx hb hd ht (fun h => gt h H locs ls hP hS hl) (fun h => gf h H locs ls hP hS hl)
theorem g_if_ne {Z : Zt} {la : List CD} {own : String} {cc : ByteArray} {n : Nat} {ret : Option FieldType} {d : Nat} {f : Fn} {lv : List (Nat × Value)} {pc q : Nat} {st : List Value} {tgt : Nat} {off : Int} {x : Int32} (C : CX Z la own cc n ret d) (hd : decode cc pc = .ok (.ifCond .ne off, 3)) (ht : (pc : Int) + off = (tgt : Int)) (hq : pc + 3 = q) (gt : ¬ x = 0 → GG Z f lv tgt st) (gf : x = 0 → GG Z f lv q st) : GG Z f lv pc (.int x :: st) := by
  obtain ⟨p, l, e, s, m, args, below, meth, c, E, la', n', d', post⟩ := Z
  obtain ⟨hx, hb, hml, hown, hts, hr, hlk, hK, rfl, rfl, rfl⟩ := C
  subst hq
  intro H locs ls hP hS hl
  exact lv_if_ne hx hb hd ht (fun h => gt h H locs ls hP hS hl) (fun h => gf h H locs ls hP hS hl)
theorem g_if_lt {Z : Zt} {la : List CD} {own : String} {cc : ByteArray} {n : Nat} {ret : Option FieldType} {d : Nat} {f : Fn} {lv : List (Nat × Value)} {pc q : Nat} {st : List Value} {tgt : Nat} {off : Int} {x : Int32} (C : CX Z la own cc n ret d) (hd : decode cc pc = .ok (.ifCond .lt off, 3)) (ht : (pc : Int) + off = (tgt : Int)) (hq : pc + 3 = q) (gt : x < 0 → GG Z f lv tgt st) (gf : ¬ x < 0 → GG Z f lv q st) : GG Z f lv pc (.int x :: st) := by
  obtain ⟨p, l, e, s, m, args, below, meth, c, E, la', n', d', post⟩ := Z
  obtain ⟨hx, hb, hml, hown, hts, hr, hlk, hK, rfl, rfl, rfl⟩ := C
  subst hq
  intro H locs ls hP hS hl
  exact lv_if_lt hx hb hd ht (fun h => gt h H locs ls hP hS hl) (fun h => gf h H locs ls hP hS hl)
theorem g_if_ge {Z : Zt} {la : List CD} {own : String} {cc : ByteArray} {n : Nat} {ret : Option FieldType} {d : Nat} {f : Fn} {lv : List (Nat × Value)} {pc q : Nat} {st : List Value} {tgt : Nat} {off : Int} {x : Int32} (C : CX Z la own cc n ret d) (hd : decode cc pc = .ok (.ifCond .ge off, 3)) (ht : (pc : Int) + off = (tgt : Int)) (hq : pc + 3 = q) (gt : 0 ≤ x → GG Z f lv tgt st) (gf : ¬ 0 ≤ x → GG Z f lv q st) : GG Z f lv pc (.int x :: st) := by
  obtain ⟨p, l, e, s, m, args, below, meth, c, E, la', n', d', post⟩ := Z
  obtain ⟨hx, hb, hml, hown, hts, hr, hlk, hK, rfl, rfl, rfl⟩ := C
  subst hq
  intro H locs ls hP hS hl
  exact lv_if_ge hx hb hd ht (fun h => gt h H locs ls hP hS hl) (fun h => gf h H locs ls hP hS hl)
theorem g_if_gt {Z : Zt} {la : List CD} {own : String} {cc : ByteArray} {n : Nat} {ret : Option FieldType} {d : Nat} {f : Fn} {lv : List (Nat × Value)} {pc q : Nat} {st : List Value} {tgt : Nat} {off : Int} {x : Int32} (C : CX Z la own cc n ret d) (hd : decode cc pc = .ok (.ifCond .gt off, 3)) (ht : (pc : Int) + off = (tgt : Int)) (hq : pc + 3 = q) (gt : 0 < x → GG Z f lv tgt st) (gf : ¬ 0 < x → GG Z f lv q st) : GG Z f lv pc (.int x :: st) := by
  obtain ⟨p, l, e, s, m, args, below, meth, c, E, la', n', d', post⟩ := Z
  obtain ⟨hx, hb, hml, hown, hts, hr, hlk, hK, rfl, rfl, rfl⟩ := C
  subst hq
  intro H locs ls hP hS hl
  exact lv_if_gt hx hb hd ht (fun h => gt h H locs ls hP hS hl) (fun h => gf h H locs ls hP hS hl)
theorem g_if_le {Z : Zt} {la : List CD} {own : String} {cc : ByteArray} {n : Nat} {ret : Option FieldType} {d : Nat} {f : Fn} {lv : List (Nat × Value)} {pc q : Nat} {st : List Value} {tgt : Nat} {off : Int} {x : Int32} (C : CX Z la own cc n ret d) (hd : decode cc pc = .ok (.ifCond .le off, 3)) (ht : (pc : Int) + off = (tgt : Int)) (hq : pc + 3 = q) (gt : x ≤ 0 → GG Z f lv tgt st) (gf : ¬ x ≤ 0 → GG Z f lv q st) : GG Z f lv pc (.int x :: st) := by
  obtain ⟨p, l, e, s, m, args, below, meth, c, E, la', n', d', post⟩ := Z
  obtain ⟨hx, hb, hml, hown, hts, hr, hlk, hK, rfl, rfl, rfl⟩ := C
  subst hq
  intro H locs ls hP hS hl
  exact lv_if_le hx hb hd ht (fun h => gt h H locs ls hP hS hl) (fun h => gf h H locs ls hP hS hl)
theorem g_icmp_eq {Z : Zt} {la : List CD} {own : String} {cc : ByteArray} {n : Nat} {ret : Option FieldType} {d : Nat} {f : Fn} {lv : List (Nat × Value)} {pc q : Nat} {st : List Value} {tgt : Nat} {off : Int} {x y : Int32} (C : CX Z la own cc n ret d) (hd : decode cc pc = .ok (.if_icmp .eq off, 3)) (ht : (pc : Int) + off = (tgt : Int)) (hq : pc + 3 = q) (gt : x = y → GG Z f lv tgt st) (gf : ¬ x = y → GG Z f lv q st) : GG Z f lv pc (.int y :: .int x :: st) := by
  obtain ⟨p, l, e, s, m, args, below, meth, c, E, la', n', d', post⟩ := Z
  obtain ⟨hx, hb, hml, hown, hts, hr, hlk, hK, rfl, rfl, rfl⟩ := C
  subst hq
  intro H locs ls hP hS hl
  exact lv_icmp_eq hx hb hd ht (fun h => gt h H locs ls hP hS hl) (fun h => gf h H locs ls hP hS hl)
theorem g_icmp_ne {Z : Zt} {la : List CD} {own : String} {cc : ByteArray} {n : Nat} {ret : Option FieldType} {d : Nat} {f : Fn} {lv : List (Nat × Value)} {pc q : Nat} {st : List Value} {tgt : Nat} {off : Int} {x y : Int32} (C : CX Z la own cc n ret d) (hd : decode cc pc = .ok (.if_icmp .ne off, 3)) (ht : (pc : Int) + off = (tgt : Int)) (hq : pc + 3 = q) (gt : ¬ x = y → GG Z f lv tgt st) (gf : x = y → GG Z f lv q st) : GG Z f lv pc (.int y :: .int x :: st) := by
  obtain ⟨p, l, e, s, m, args, below, meth, c, E, la', n', d', post⟩ := Z
  obtain ⟨hx, hb, hml, hown, hts, hr, hlk, hK, rfl, rfl, rfl⟩ := C
  subst hq
  intro H locs ls hP hS hl
  exact lv_icmp_ne hx hb hd ht (fun h => gt h H locs ls hP hS hl) (fun h => gf h H locs ls hP hS hl)
theorem g_icmp_lt {Z : Zt} {la : List CD} {own : String} {cc : ByteArray} {n : Nat} {ret : Option FieldType} {d : Nat} {f : Fn} {lv : List (Nat × Value)} {pc q : Nat} {st : List Value} {tgt : Nat} {off : Int} {x y : Int32} (C : CX Z la own cc n ret d) (hd : decode cc pc = .ok (.if_icmp .lt off, 3)) (ht : (pc : Int) + off = (tgt : Int)) (hq : pc + 3 = q) (gt : x < y → GG Z f lv tgt st) (gf : ¬ x < y → GG Z f lv q st) : GG Z f lv pc (.int y :: .int x :: st) := by
  obtain ⟨p, l, e, s, m, args, below, meth, c, E, la', n', d', post⟩ := Z
  obtain ⟨hx, hb, hml, hown, hts, hr, hlk, hK, rfl, rfl, rfl⟩ := C
  subst hq
  intro H locs ls hP hS hl
  exact lv_icmp_lt hx hb hd ht (fun h => gt h H locs ls hP hS hl) (fun h => gf h H locs ls hP hS hl)
theorem g_icmp_ge {Z : Zt} {la : List CD} {own : String} {cc : ByteArray} {n : Nat} {ret : Option FieldType} {d : Nat} {f : Fn} {lv : List (Nat × Value)} {pc q : Nat} {st : List Value} {tgt : Nat} {off : Int} {x y : Int32} (C : CX Z la own cc n ret d) (hd : decode cc pc = .ok (.if_icmp .ge off, 3)) (ht : (pc : Int) + off = (tgt : Int)) (hq : pc + 3 = q) (gt : y ≤ x → GG Z f lv tgt st) (gf : ¬ y ≤ x → GG Z f lv q st) : GG Z f lv pc (.int y :: .int x :: st) := by
  obtain ⟨p, l, e, s, m, args, below, meth, c, E, la', n', d', post⟩ := Z
  obtain ⟨hx, hb, hml, hown, hts, hr, hlk, hK, rfl, rfl, rfl⟩ := C
  subst hq
  intro H locs ls hP hS hl
  exact lv_icmp_ge hx hb hd ht (fun h => gt h H locs ls hP hS hl) (fun h => gf h H locs ls hP hS hl)
theorem g_icmp_gt {Z : Zt} {la : List CD} {own : String} {cc : ByteArray} {n : Nat} {ret : Option FieldType} {d : Nat} {f : Fn} {lv : List (Nat × Value)} {pc q : Nat} {st : List Value} {tgt : Nat} {off : Int} {x y : Int32} (C : CX Z la own cc n ret d) (hd : decode cc pc = .ok (.if_icmp .gt off, 3)) (ht : (pc : Int) + off = (tgt : Int)) (hq : pc + 3 = q) (gt : y < x → GG Z f lv tgt st) (gf : ¬ y < x → GG Z f lv q st) : GG Z f lv pc (.int y :: .int x :: st) := by
  obtain ⟨p, l, e, s, m, args, below, meth, c, E, la', n', d', post⟩ := Z
  obtain ⟨hx, hb, hml, hown, hts, hr, hlk, hK, rfl, rfl, rfl⟩ := C
  subst hq
  intro H locs ls hP hS hl
  exact lv_icmp_gt hx hb hd ht (fun h => gt h H locs ls hP hS hl) (fun h => gf h H locs ls hP hS hl)
theorem g_icmp_le {Z : Zt} {la : List CD} {own : String} {cc : ByteArray} {n : Nat} {ret : Option FieldType} {d : Nat} {f : Fn} {lv : List (Nat × Value)} {pc q : Nat} {st : List Value} {tgt : Nat} {off : Int} {x y : Int32} (C : CX Z la own cc n ret d) (hd : decode cc pc = .ok (.if_icmp .le off, 3)) (ht : (pc : Int) + off = (tgt : Int)) (hq : pc + 3 = q) (gt : x ≤ y → GG Z f lv tgt st) (gf : ¬ x ≤ y → GG Z f lv q st) : GG Z f lv pc (.int y :: .int x :: st) := by
  obtain ⟨p, l, e, s, m, args, below, meth, c, E, la', n', d', post⟩ := Z
  obtain ⟨hx, hb, hml, hown, hts, hr, hlk, hK, rfl, rfl, rfl⟩ := C
  subst hq
  intro H locs ls hP hS hl
  exact lv_icmp_le hx hb hd ht (fun h => gt h H locs ls hP hS hl) (fun h => gf h H locs ls hP hS hl)
theorem g_ifnull_r {Z : Zt} {la : List CD} {own : String} {cc : ByteArray} {n : Nat} {ret : Option FieldType} {d : Nat} {f : Fn} {lv : List (Nat × Value)} {pc q : Nat} {st : List Value} {off : Int} {x : Nat} (C : CX Z la own cc n ret d) (hd : decode cc pc = .ok (.ifnull off, 3)) (hq : pc + 3 = q) (g : GG Z f lv q st) : GG Z f lv pc (.ref x :: st) := by
  obtain ⟨p, l, e, s, m, args, below, meth, c, E, la', n', d', post⟩ := Z
  obtain ⟨hx, hb, hml, hown, hts, hr, hlk, hK, rfl, rfl, rfl⟩ := C
  subst hq
  intro H locs ls hP hS hl
  exact lv_ifnull hx hb hd (g H locs ls hP hS hl)
theorem g_ifnonnull_r {Z : Zt} {la : List CD} {own : String} {cc : ByteArray} {n : Nat} {ret : Option FieldType} {d : Nat} {f : Fn} {lv : List (Nat × Value)} {pc q : Nat} {st : List Value} {off : Int} {x : Nat} (C : CX Z la own cc n ret d) (hd : decode cc pc = .ok (.ifnonnull off, 3)) (hq : (pc : Int) + off = (q : Int)) (g : GG Z f lv q st) : GG Z f lv pc (.ref x :: st) := by
  obtain ⟨p, l, e, s, m, args, below, meth, c, E, la', n', d', post⟩ := Z
  obtain ⟨hx, hb, hml, hown, hts, hr, hlk, hK, rfl, rfl, rfl⟩ := C
  intro H locs ls hP hS hl
  exact lv_ifnonnull hx hb hd hq (g H locs ls hP hS hl)
theorem g_ifnull_n {Z : Zt} {la : List CD} {own : String} {cc : ByteArray} {n : Nat} {ret : Option FieldType} {d : Nat} {f : Fn} {lv : List (Nat × Value)} {pc q : Nat} {st : List Value} {off : Int} (C : CX Z la own cc n ret d) (hd : decode cc pc = .ok (.ifnull off, 3)) (hq : (pc : Int) + off = (q : Int)) (g : GG Z f lv q st) : GG Z f lv pc (.null :: st) := by
  obtain ⟨p, l, e, s, m, args, below, meth, c, E, la', n', d', post⟩ := Z
  obtain ⟨hx, hb, hml, hown, hts, hr, hlk, hK, rfl, rfl, rfl⟩ := C
  intro H locs ls hP hS hl
  exact lv_ifnullN hx hb hd hq (g H locs ls hP hS hl)
theorem g_ifnonnull_n {Z : Zt} {la : List CD} {own : String} {cc : ByteArray} {n : Nat} {ret : Option FieldType} {d : Nat} {f : Fn} {lv : List (Nat × Value)} {pc q : Nat} {st : List Value} {off : Int} (C : CX Z la own cc n ret d) (hd : decode cc pc = .ok (.ifnonnull off, 3)) (hq : pc + 3 = q) (g : GG Z f lv q st) : GG Z f lv pc (.null :: st) := by
  obtain ⟨p, l, e, s, m, args, below, meth, c, E, la', n', d', post⟩ := Z
  obtain ⟨hx, hb, hml, hown, hts, hr, hlk, hK, rfl, rfl, rfl⟩ := C
  subst hq
  intro H locs ls hP hS hl
  exact lv_ifnonnullN hx hb hd (g H locs ls hP hS hl)
theorem g_tableIn {Z : Zt} {la : List CD} {own : String} {cc : ByteArray} {n : Nat} {ret : Option FieldType} {d : Nat} {f : Fn} {lv : List (Nat × Value)} {pc q : Nat} {st : List Value} {dflt lo hi off : Int} {offs : Array Int} {len : Nat} {x : Int32} (C : CX Z la own cc n ret d) (hd : decode cc pc = .ok (.tableswitch dflt lo hi offs, len)) (h1 : ¬ x.toInt < lo) (h2 : ¬ hi < x.toInt) (ho : offs[(x.toInt - lo).toNat]? = some off) (hq : (pc : Int) + off = (q : Int)) (g : GG Z f lv q st) : GG Z f lv pc (.int x :: st) := by
  obtain ⟨p, l, e, s, m, args, below, meth, c, E, la', n', d', post⟩ := Z
  obtain ⟨hx, hb, hml, hown, hts, hr, hlk, hK, rfl, rfl, rfl⟩ := C
  intro H locs ls hP hS hl
  exact lv_tableIn hx hb hd h1 h2 ho hq (g H locs ls hP hS hl)
theorem g_tableOut {Z : Zt} {la : List CD} {own : String} {cc : ByteArray} {n : Nat} {ret : Option FieldType} {d : Nat} {f : Fn} {lv : List (Nat × Value)} {pc q : Nat} {st : List Value} {dflt lo hi : Int} {offs : Array Int} {len : Nat} {x : Int32} (C : CX Z la own cc n ret d) (hd : decode cc pc = .ok (.tableswitch dflt lo hi offs, len)) (h : x.toInt < lo ∨ hi < x.toInt) (hq : (pc : Int) + dflt = (q : Int)) (g : GG Z f lv q st) : GG Z f lv pc (.int x :: st) := by
  obtain ⟨p, l, e, s, m, args, below, meth, c, E, la', n', d', post⟩ := Z
  obtain ⟨hx, hb, hml, hown, hts, hr, hlk, hK, rfl, rfl, rfl⟩ := C
  intro H locs ls hP hS hl
  exact lv_tableOut hx hb hd h hq (g H locs ls hP hS hl)
theorem g_lookup {Z : Zt} {la : List CD} {own : String} {cc : ByteArray} {n : Nat} {ret : Option FieldType} {d : Nat} {f : Fn} {lv : List (Nat × Value)} {pc q : Nat} {st : List Value} {dflt off : Int} {ps : Array (Int × Int)} {len : Nat} {x : Int32} (C : CX Z la own cc n ret d) (hd : decode cc pc = .ok (.lookupswitch dflt ps, len)) (hp : (ps.toList.zip (ps.toList.drop 1)).all (fun (a, next) => a.1 < next.1) = true) (ho : Op.lookupswitch.offset ps.toList dflt x.toInt = off) (hq : (pc : Int) + off = (q : Int)) (g : GG Z f lv q st) : GG Z f lv pc (.int x :: st) := by
  obtain ⟨p, l, e, s, m, args, below, meth, c, E, la', n', d', post⟩ := Z
  obtain ⟨hx, hb, hml, hown, hts, hr, hlk, hK, rfl, rfl, rfl⟩ := C
  intro H locs ls hP hS hl
  exact lv_lookup hx hb hd hp ho hq (g H locs ls hP hS hl)
/-- a key of a switch is met, or not -/
theorem sw_in {x k : Int32} {lo hi : Int} (h : x = k) (hk : (decide (k.toInt < lo) || decide (hi < k.toInt)) = false) : ¬ x.toInt < lo ∧ ¬ hi < x.toInt := by
  subst h
  simpa using hk
theorem sw_out {x : Int32} {lo hi : Int} (ks : List Int32) (n : Nat) (h1 : ∀ k ∈ ks, ¬ x = k) (h2 : ks.map (fun k => k.toInt) = (List.range n).map (fun (i : Nat) => lo + (i : Int))) (h3 : hi = lo + (n : Int) - 1) : x.toInt < lo ∨ hi < x.toInt := by
  by_cases h : x.toInt < lo
  · exact Or.inl h
  · by_cases h' : hi < x.toInt
    · exact Or.inr h'
    · have hm : x.toInt ∈ (List.range n).map (fun (i : Nat) => lo + (i : Int)) := List.mem_map.mpr ⟨(x.toInt - lo).toNat, List.mem_range.mpr (by omega), by omega⟩
      rw [← h2] at hm
      obtain ⟨k, hk, e⟩ := List.mem_map.mp hm
      exact absurd (Int32.toInt_inj.mp e.symm) (h1 k hk)
theorem u_of {C : String} {T : u_T} {N ci : Nat} {E : Ev} {la : List CD} {f : Fn} {k : Nat} {fl : List Nat} (hk : la[k]? = some (.inl (ci, fl))) : (cw E la f)[k]? = some (E.2.1 k, .inr (ci, fl.mapIdx (fvl E.2.1 (f k)))) := cw_get hk
theorem fv_get {ad : Nat → Nat} {r : Nat → Int32} {fl : List Nat} {j c : Nat} (h : fl[j]? = some c) : (fl.mapIdx (fvl ad r))[j]? = some (fvl ad r j c) := by simp [List.getElem?_mapIdx, h]
theorem g_get {Z : Zt} {la : List CD} {own : String} {cc : ByteArray} {n : Nat} {ret : Option FieldType} {d : Nat} {f : Fn} {lv : List (Nat × Value)} {pc q : Nat} {st : List Value} {ref nm ds : String}  {T : u_T} {N ci i : Nat} {k : Nat} {fl : List Nat} {j c : Nat} (C : CX Z la own cc n ret d) (hin : ∀ w ∈ u_ws ref T N, w ∈ GW) (hc : vwCl[ci]? = some (ref, T, N)) (hj : j < N) (hT1 : (T j).1 = ref) (hT2 : (T j).2.1 = nm) (hT3 : (T j).2.2.1 = ds) (hL : Cond.fieldLink own i ref nm ds ∈ GW) (hk : la[k]? = some (.inl (ci, fl))) (hf : fl[j]? = some c) (hd : decode cc pc = .ok (.getfield i, 3)) (hq : pc + 3 = q) (g : GG Z f lv q (fvl (zad Z) (f k) j c :: st)) : GG Z f lv pc (.ref (zad Z k) :: st) := by
  obtain ⟨p, l, e, s, m, args, below, meth, c, E, la', n', d', post⟩ := Z
  obtain ⟨hx, hb, hml, hown, hts, hr, hlk, hK, rfl, rfl, rfl⟩ := C
  subst hq
  intro H locs ls hP hS hl
  subst hT2
  subst hT3
  exact va_get hx hb hts hin hown hK.1 hP k (cw_get hk) hc j hj (hts _ hL) (fun x h => by rw [← hT1]; exact h) (fv_get hf) hd (g H locs ls hP hS hl)
theorem g_put {Z : Zt} {la : List CD} {own : String} {cc : ByteArray} {n : Nat} {ret : Option FieldType} {d : Nat} {f : Fn} {lv : List (Nat × Value)} {pc q : Nat} {st : List Value} {ref nm ds : String}  {T : u_T} {N ci i : Nat} {ty0 : Nat → FieldType} {k : Nat} {fl : List Nat} {j : Nat} {v : Int32} (C : CX Z la own cc n ret d) (hin : ∀ w ∈ u_ws ref T N, w ∈ GW) (hty : ∀ k, k < N → parseFieldDescriptor (T k).2.2.1 = some (ty0 k)) (hnm : ∀ a, a < N → ∀ b, b < N → a ≠ b → (T a).2.1 ≠ (T b).2.1) (hc : vwCl[ci]? = some (ref, T, N)) (hj : j < N) (hT1 : (T j).1 = ref) (hT2 : (T j).2.1 = nm) (hT3 : (T j).2.2.1 = ds) (hfin : (T j).2.2.2 = false) (hL : Cond.fieldLink own i ref nm ds ∈ GW) (hn : narrow (ty0 j) (.int v) = .int v) (hft : fits (ty0 j) (.int v) = true) (hk : la[k]? = some (.inl (ci, fl))) (hf : fl[j]? = some 0) (hlen : fl.length ≤ 100) (hd : decode cc pc = .ok (.putfield i, 3)) (hq : pc + 3 = q) (g : GG Z (up2 f k j v) lv q st) : GG Z f lv pc (.int v :: .ref (zad Z k) :: st) := by
  obtain ⟨p, l, e, s, m, args, below, meth, c, E, la', n', d', post⟩ := Z
  obtain ⟨hx, hb, hml, hown, hts, hr, hlk, hK, rfl, rfl, rfl⟩ := C
  subst hq
  intro H locs ls hP hS hl
  subst hT2
  subst hT3
  have hlt : j < fl.length := (List.getElem?_eq_some_iff.mp hf).1
  have he := put_map (ad := E.2.1) (r := f k) (v := v) hf hlen
  rw [← up2_same f k j v] at he
  refine va_put hx hb hts hin ty0 hty hnm hown hK.1 hP (cw_D hK.2.2.2.2 f) hS k (cw_get hk) hc j hj (hts _ hL) (fun x h => by rw [← hT1]; exact h) hfin (hty j hj) hn hft (by simpa using hlt) hd (fun H1 locs1 hP1 _ hS1 => ?_)
  rw [he] at hP1
  have e2 := cw_set (E := E) (f := f) (f' := up2 f k j v) hk (fun a ha => up2_ne f ha)
  exact g H1 locs1 ls (by rw [← e2]; exact hP1) hS1 hl
theorem g_getN {Z : Zt} {la : List CD} {own : String} {cc : ByteArray} {n : Nat} {ret : Option FieldType} {d : Nat} {f : Fn} {lv : List (Nat × Value)} {pc q : Nat} {st : List Value} {ref nm ds : String} {host : String} {T : u_T} {N ci i : Nat} {k : Nat} {fl : List Nat} {j c : Nat} (C : CX Z la own cc n ret d) (hin : ∀ w ∈ u_ws ref T N, w ∈ GW) (hc : vwCl[ci]? = some (ref, T, N)) (hj : j < N) (hT1 : (T j).1 = ref) (hT2 : (T j).2.1 = nm) (hT3 : (T j).2.2.1 = ds) (hL : Cond.fieldLinkNest own i ref nm ds host ∈ NW) (hk : la[k]? = some (.inl (ci, fl))) (hf : fl[j]? = some c) (hd : decode cc pc = .ok (.getfield i, 3)) (hq : pc + 3 = q) (g : GG Z f lv q (fvl (zad Z) (f k) j c :: st)) : GG Z f lv pc (.ref (zad Z k) :: st) := by
  obtain ⟨p, l, e, s, m, args, below, meth, c, E, la', n', d', post⟩ := Z
  obtain ⟨hx, hb, hml, hown, hts, hr, hlk, hK, rfl, rfl, rfl⟩ := C
  subst hq
  intro H locs ls hP hS hl
  subst hT2
  subst hT3
  exact va_getN hx hb hts hin hown hK.1 hP k (cw_get hk) hc j hj (va_Nw.use rfl (hK.2.2.2.1 _ hL)) (fun x h => by rw [← hT1]; exact h) (fv_get hf) hd (g H locs ls hP hS hl)
theorem g_putN {Z : Zt} {la : List CD} {own : String} {cc : ByteArray} {n : Nat} {ret : Option FieldType} {d : Nat} {f : Fn} {lv : List (Nat × Value)} {pc q : Nat} {st : List Value} {ref nm ds : String} {host : String} {T : u_T} {N ci i : Nat} {ty0 : Nat → FieldType} {k : Nat} {fl : List Nat} {j : Nat} {v : Int32} (C : CX Z la own cc n ret d) (hin : ∀ w ∈ u_ws ref T N, w ∈ GW) (hty : ∀ k, k < N → parseFieldDescriptor (T k).2.2.1 = some (ty0 k)) (hnm : ∀ a, a < N → ∀ b, b < N → a ≠ b → (T a).2.1 ≠ (T b).2.1) (hc : vwCl[ci]? = some (ref, T, N)) (hj : j < N) (hT1 : (T j).1 = ref) (hT2 : (T j).2.1 = nm) (hT3 : (T j).2.2.1 = ds) (hfin : (T j).2.2.2 = false) (hL : Cond.fieldLinkNest own i ref nm ds host ∈ NW) (hn : narrow (ty0 j) (.int v) = .int v) (hft : fits (ty0 j) (.int v) = true) (hk : la[k]? = some (.inl (ci, fl))) (hf : fl[j]? = some 0) (hlen : fl.length ≤ 100) (hd : decode cc pc = .ok (.putfield i, 3)) (hq : pc + 3 = q) (g : GG Z (up2 f k j v) lv q st) : GG Z f lv pc (.int v :: .ref (zad Z k) :: st) := by
  obtain ⟨p, l, e, s, m, args, below, meth, c, E, la', n', d', post⟩ := Z
  obtain ⟨hx, hb, hml, hown, hts, hr, hlk, hK, rfl, rfl, rfl⟩ := C
  subst hq
  intro H locs ls hP hS hl
  subst hT2
  subst hT3
  have hlt : j < fl.length := (List.getElem?_eq_some_iff.mp hf).1
  have he := put_map (ad := E.2.1) (r := f k) (v := v) hf hlen
  rw [← up2_same f k j v] at he
  refine va_putN hx hb hts hin ty0 hty hnm hown hK.1 hP (cw_D hK.2.2.2.2 f) hS k (cw_get hk) hc j hj (va_Nw.use rfl (hK.2.2.2.1 _ hL)) (fun x h => by rw [← hT1]; exact h) hfin (hty j hj) hn hft (by simpa using hlt) hd (fun H1 locs1 hP1 _ hS1 => ?_)
  rw [he] at hP1
  have e2 := cw_set (E := E) (f := f) (f' := up2 f k j v) hk (fun a ha => up2_ne f ha)
  exact g H1 locs1 ls (by rw [← e2]; exact hP1) hS1 hl
theorem g_putL {Z : Zt} {la : List CD} {own : String} {cc : ByteArray} {n : Nat} {ret : Option FieldType} {d : Nat} {f : Fn} {lv : List (Nat × Value)} {pc q : Nat} {st : List Value} {ref nm ds : String} {T : u_T} {N ci i : Nat} {ty0 : Nat → FieldType} {k : Nat} {fl : List Nat} {j : Nat} {v : Int64} (C : CX Z la own cc n ret d) (hin : ∀ w ∈ u_ws ref T N, w ∈ GW) (hty : ∀ k, k < N → parseFieldDescriptor (T k).2.2.1 = some (ty0 k)) (hnm : ∀ a, a < N → ∀ b, b < N → a ≠ b → (T a).2.1 ≠ (T b).2.1) (hc : vwCl[ci]? = some (ref, T, N)) (hj : j < N) (hT1 : (T j).1 = ref) (hT2 : (T j).2.1 = nm) (hT3 : (T j).2.2.1 = ds) (hfin : (T j).2.2.2 = false) (hL : Cond.fieldLink own i ref nm ds ∈ GW) (ht0 : ty0 j = .long) (hk : la[k]? = some (.inl (ci, fl))) (hf : fl[j]? = some 1) (hone : ∀ i9 : Nat, fl[i9]? = some 1 → i9 = j) (hlen : fl.length ≤ 100) (hd : decode cc pc = .ok (.putfield i, 3)) (hq : pc + 3 = q) (g : GG Z (up2 (up2 f k j (hi64 v)) k (j + 100) (lo64 v)) lv q st) : GG Z f lv pc (.long v :: .ref (zad Z k) :: st) := by
  obtain ⟨p, l, e, s, m, args, below, meth, c, E, la', n', d', post⟩ := Z
  obtain ⟨hx, hb, hml, hown, hts, hr, hlk, hK, rfl, rfl, rfl⟩ := C
  subst hq
  intro H locs ls hP hS hl
  subst hT2
  subst hT3
  have hlt : j < fl.length := (List.getElem?_eq_some_iff.mp hf).1
  have er : up2 (up2 f k j (hi64 v)) k (j + 100) (lo64 v) k = upd (upd (f k) j (hi64 v)) (j + 100) (lo64 v) := by rw [up2_same, up2_same]
  have he := put_mapL (ad := E.2.1) (r := f k) (v := v) hf hone hlen
  rw [← er] at he
  refine va_put hx hb hts hin ty0 hty hnm hown hK.1 hP (cw_D hK.2.2.2.2 f) hS k (cw_get hk) hc j hj (hts _ hL) (fun x h => by rw [← hT1]; exact h) hfin (hty j hj) (by rw [ht0]; rfl) (by rw [ht0]; rfl) (by simpa using hlt) hd (fun H1 locs1 hP1 _ hS1 => ?_)
  rw [he] at hP1
  have e2 := cw_set (E := E) (f := f) (f' := up2 (up2 f k j (hi64 v)) k (j + 100) (lo64 v)) hk (fun a ha => by rw [up2_ne _ ha, up2_ne _ ha])
  exact g H1 locs1 ls (by rw [← e2]; exact hP1) hS1 hl
theorem g_iald {Z : Zt} {la : List CD} {own : String} {cc : ByteArray} {n : Nat} {ret : Option FieldType} {d : Nat} {f : Fn} {lv : List (Nat × Value)} {pc q : Nat} {st : List Value} {k N : Nat} {i : Int32} (C : CX Z la own cc n ret d) (hk : la[k]? = some (.inr (.inl N))) (hi : vp_in i N) (hd : decode cc pc = .ok (.iaload, 1)) (hq : pc + 1 = q) (g : GG Z f lv q (.int (f k i.toNatClampNeg) :: st)) : GG Z f lv pc (.int i :: .ref (zad Z k) :: st) := by
  obtain ⟨p, l, e, s, m, args, below, meth, c, E, la', n', d', post⟩ := Z
  obtain ⟨hx, hb, hml, hown, hts, hr, hlk, hK, rfl, rfl, rfl⟩ := C
  subst hq
  intro H locs ls hP hS hl
  exact va_iald hx hb hK.1 hP k 0 (cw_get hk) rfl hi hd (g H locs ls hP hS hl)
theorem g_iast {Z : Zt} {la : List CD} {own : String} {cc : ByteArray} {n : Nat} {ret : Option FieldType} {d : Nat} {f : Fn} {lv : List (Nat × Value)} {pc q : Nat} {st : List Value} {k N : Nat} {i v : Int32} (C : CX Z la own cc n ret d) (hk : la[k]? = some (.inr (.inl N))) (hi : vp_in i N) (hd : decode cc pc = .ok (.iastore, 1)) (hq : pc + 1 = q) (g : GG Z (up2 f k i.toNatClampNeg v) lv q st) : GG Z f lv pc (.int v :: .int i :: .ref (zad Z k) :: st) := by
  obtain ⟨p, l, e, s, m, args, below, meth, c, E, la', n', d', post⟩ := Z
  obtain ⟨hx, hb, hml, hown, hts, hr, hlk, hK, rfl, rfl, rfl⟩ := C
  subst hq
  intro H locs ls hP hS hl
  refine va_iast hx hb hK.1 hP (cw_D hK.2.2.2.2 f) hS k 0 (cw_get hk) rfl hi hd (fun H1 locs1 hP1 _ hS1 => ?_)
  have e2 := cw_set (E := E) (f := f) (f' := up2 f k i.toNatClampNeg v) hk (fun a ha => up2_ne f ha)
  rw [up2_same] at e2
  exact g H1 locs1 ls (by rw [← e2]; exact hP1) hS1 hl
theorem g_ialen {Z : Zt} {la : List CD} {own : String} {cc : ByteArray} {n : Nat} {ret : Option FieldType} {d : Nat} {f : Fn} {lv : List (Nat × Value)} {pc q : Nat} {st : List Value} {k N : Nat} {v : Int32} (C : CX Z la own cc n ret d) (hk : la[k]? = some (.inr (.inl N))) (hv : Int32.ofNat N = v) (hd : decode cc pc = .ok (.arraylength, 1)) (hq : pc + 1 = q) (g : GG Z f lv q (.int v :: st)) : GG Z f lv pc (.ref (zad Z k) :: st) := by
  obtain ⟨p, l, e, s, m, args, below, meth, c, E, la', n', d', post⟩ := Z
  obtain ⟨hx, hb, hml, hown, hts, hr, hlk, hK, rfl, rfl, rfl⟩ := C
  subst hq
  intro H locs ls hP hS hl
  exact va_alen hx hb hK.1 hP k 0 (cw_get hk) rfl hv hd (g H locs ls hP hS hl)
theorem g_aald {Z : Zt} {la : List CD} {own : String} {cc : ByteArray} {n : Nat} {ret : Option FieldType} {d : Nat} {f : Fn} {lv : List (Nat × Value)} {pc q : Nat} {st : List Value} {k w : Nat} {rs : List Nat} {i : Int32} (C : CX Z la own cc n ret d) (hk : la[k]? = some (.inr (.inr (w, rs)))) (hw : w < 2) (hi : vp_in i rs.length) (hd : decode cc pc = .ok (.aaload, 1)) (hq : pc + 1 = q) (g : ∀ r : Nat, rs[i.toNatClampNeg]? = some r → GG Z f lv q (.ref (zad Z r) :: st)) : GG Z f lv pc (.int i :: .ref (zad Z k) :: st) := by
  obtain ⟨p, l, e, s, m, args, below, meth, c, E, la', n', d', post⟩ := Z
  obtain ⟨hx, hb, hml, hown, hts, hr, hlk, hK, rfl, rfl, rfl⟩ := C
  subst hq
  intro H locs ls hP hS hl
  have hlt : i.toNatClampNeg < rs.length := Nat.not_le.mp fun q => hi (Or.inr q)
  have hr : rs[i.toNatClampNeg]? = some rs[i.toNatClampNeg] := List.getElem?_eq_getElem hlt
  have g2 := g _ hr H locs ls hP hS hl
  have e1 : va_rf ((rs[i.toNatClampNeg]?).map E.2.1) = .ref (E.2.1 rs[i.toNatClampNeg]) := by rw [hr]; rfl
  rcases (show w = 0 ∨ w = 1 by omega) with rfl | rfl
  · exact va_aldq hx hb hK.1 hP k 1 (cw_get hk) rfl hi hd (by rw [e1]; exact g2)
  · exact va_aldq hx hb hK.1 hP k 2 (cw_get hk) rfl hi hd (by rw [e1]; exact g2)
theorem g_bods {Z : Zt} {la : List CD} {own : String} {cc : ByteArray} {n : Nat} {ret : Option FieldType} {d : Nat} {f : Fn} {lv : List (Nat × Value)} {pc q : Nat} {st : List Value} {i : Nat} (C : CX Z la own cc n ret d) (hL : Cond.fieldLink own i "CatchBars$Voices" "BODIES" "[I" ∈ GW) (hd : decode cc pc = .ok (.getstatic i, 3)) (hq : pc + 3 = q) (g : GG Z f lv q (.ref (ztB Z) :: st)) : GG Z f lv pc st := by
  obtain ⟨p, l, e, s, m, args, below, meth, c, E, la', n', d', post⟩ := Z
  obtain ⟨hx, hb, hml, hown, hts, hr, hlk, hK, rfl, rfl, rfl⟩ := C
  subst hq
  intro H locs ls hP hS hl
  exact va_gets hx hb hK.2.1 hS hown (hts _ hL) (fun _ h => h) hd (g H locs ls hP hS hl)
theorem g_bodl {Z : Zt} {la : List CD} {own : String} {cc : ByteArray} {n : Nat} {ret : Option FieldType} {d : Nat} {f : Fn} {lv : List (Nat × Value)} {pc q : Nat} {st : List Value} (C : CX Z la own cc n ret d) (hd : decode cc pc = .ok (.arraylength, 1)) (hq : pc + 1 = q) (g : GG Z f lv q (.int 28 :: st)) : GG Z f lv pc (.ref (ztB Z) :: st) := by
  obtain ⟨p, l, e, s, m, args, below, meth, c, E, la', n', d', post⟩ := Z
  obtain ⟨hx, hb, hml, hown, hts, hr, hlk, hK, rfl, rfl, rfl⟩ := C
  subst hq
  intro H locs ls hP hS hl
  exact va_tlen hx hb hK.2.2.1 hS rfl hd (g H locs ls hP hS hl)
theorem g_bodi {Z : Zt} {la : List CD} {own : String} {cc : ByteArray} {n : Nat} {ret : Option FieldType} {d : Nat} {f : Fn} {lv : List (Nat × Value)} {pc q : Nat} {st : List Value} {i : Int32} (C : CX Z la own cc n ret d) (hi : vp_in i 28) (hd : decode cc pc = .ok (.iaload, 1)) (hq : pc + 1 = q) (g : GG Z f lv q (.int (BV i.toNatClampNeg) :: st)) : GG Z f lv pc (.int i :: .ref (ztB Z) :: st) := by
  obtain ⟨p, l, e, s, m, args, below, meth, c, E, la', n', d', post⟩ := Z
  obtain ⟨hx, hb, hml, hown, hts, hr, hlk, hK, rfl, rfl, rfl⟩ := C
  subst hq
  intro H locs ls hP hS hl
  exact va_ti hx hb hK.2.2.1 hS hi rfl hd (g H locs ls hP hS hl)
theorem g_copy {Z : Zt} {la : List CD} {own : String} {cc : ByteArray} {n : Nat} {ret : Option FieldType} {d : Nat} {f : Fn} {lv : List (Nat × Value)} {pc q : Nat} {st : List Value} {i k0 k1 N0 N1 : Nat} {sp dp m0 : Int32} (C : CX Z la own cc n ret d) (hl1 : Cond.methodLink own i arraycopyName ∈ GW) (hl2 : Cond.native arraycopyName ∈ GW) (hl3 : Cond.static arraycopyName ∈ GW) (hl4 : Cond.initialized "java/lang/System" ∈ GW) (hk0 : la[k0]? = some (.inr (.inl N0))) (hk1 : la[k1]? = some (.inr (.inl N1))) (h1 : ¬ sp < 0) (h2 : ¬ dp < 0) (h3 : ¬ m0 < 0) (h4 : sp.toNatClampNeg + m0.toNatClampNeg ≤ N0) (h5 : dp.toNatClampNeg + m0.toNatClampNeg ≤ N1) (hd1 : 1 ≤ d) (hro : (st.map fun v => v.category).sum + (nativeFrameWords "java/lang/System" "arraycopy" 5 + 11) ≤ 40 * d) (hd : decode cc pc = .ok (.invokestatic i, 3)) (hq : pc + 3 = q) (g : ∀ f' : Fn, f' = (fun a => if a = k1 then va_cpy (f k0) (f k1) sp.toNatClampNeg dp.toNatClampNeg m0.toNatClampNeg else f a) → GG Z f' lv q st) : GG Z f lv pc (.int m0 :: .int dp :: .ref (zad Z k1) :: .int sp :: .ref (zad Z k0) :: st) := by
  obtain ⟨p, l, e, s, m, args, below, meth, c, E, la', n', d', post⟩ := Z
  obtain ⟨hx, hb, hml, hown, hts, hr, hlk, hK, rfl, rfl, rfl⟩ := C
  subst hq
  intro H locs ls hP hS hl
  refine va_copyi hx hb (by rw [hml, hl.1]) hown (hts _ hl1) (hts _ hl2) (hts _ hl3) (hts _ hl4) hK.1 hP (cw_D hK.2.2.2.2 f) hS k0 k1 0 0 (cw_get hk0) (cw_get hk1) rfl rfl rfl h1 h2 h3 h4 h5 (fun _ _ => rfl) hd1 hro hd (fun H1 locs1 hP1 _ hS1 => ?_)
  have e2 := cw_set (E := E) (f := f) (f' := fun a => if a = k1 then va_cpy (f k0) (f k1) sp.toNatClampNeg dp.toNatClampNeg m0.toNatClampNeg else f a) hk1 (fun a ha => by simp [ha])
  simp only [if_true] at e2
  exact g _ rfl H1 locs1 ls (by rw [← e2]; exact hP1) hS1 hl
theorem g_mmax {Z : Zt} {la : List CD} {own : String} {cc : ByteArray} {n : Nat} {ret : Option FieldType} {d : Nat} {f : Fn} {lv : List (Nat × Value)} {pc q : Nat} {st : List Value} {i : Nat} {x y : Int32} (C : CX Z la own cc n ret d) (h1 : Cond.methodLink own i Lib.Math.max.name ∈ GW) (h2 : Cond.static Lib.Math.max.name ∈ GW) (h3 : Cond.initialized "java/lang/Math" ∈ GW) (h4 : Cond.code Lib.Math.max.name Lib.Math.max.code 2 (some .int) ∈ GW) (hd1 : 1 ≤ d) (hro : (st.map fun v => v.category).sum + 13 ≤ 40 * d) (hd : decode cc pc = .ok (.invokestatic i, 3)) (hq : pc + 3 = q) (g : GG Z f lv q (.int (if x < y then y else x) :: st)) : GG Z f lv pc (.int y :: .int x :: st) := by
  obtain ⟨p, l, e, s, m, args, below, meth, c, E, la', n', d', post⟩ := Z
  obtain ⟨hx, hb, hml, hown, hts, hr, hlk, hK, rfl, rfl, rfl⟩ := C
  subst hq
  intro H locs ls hP hS hl
  exact va_mmax hx hb (by rw [hml, hl.1]) hown (hts _ h1) (hts _ h2) (hts _ h3) (hts _ h4) hd1 hro (Nat.le_refl 0) (Nat.le_refl 0) hd (g H locs ls hP hS hl)
theorem g_mmin {Z : Zt} {la : List CD} {own : String} {cc : ByteArray} {n : Nat} {ret : Option FieldType} {d : Nat} {f : Fn} {lv : List (Nat × Value)} {pc q : Nat} {st : List Value} {i : Nat} {x y : Int32} (C : CX Z la own cc n ret d) (h1 : Cond.methodLink own i Lib.Math.min.name ∈ GW) (h2 : Cond.static Lib.Math.min.name ∈ GW) (h3 : Cond.initialized "java/lang/Math" ∈ GW) (h4 : Cond.code Lib.Math.min.name Lib.Math.min.code 2 (some .int) ∈ GW) (hd1 : 1 ≤ d) (hro : (st.map fun v => v.category).sum + 13 ≤ 40 * d) (hd : decode cc pc = .ok (.invokestatic i, 3)) (hq : pc + 3 = q) (g : GG Z f lv q (.int (if y < x then y else x) :: st)) : GG Z f lv pc (.int y :: .int x :: st) := by
  obtain ⟨p, l, e, s, m, args, below, meth, c, E, la', n', d', post⟩ := Z
  obtain ⟨hx, hb, hml, hown, hts, hr, hlk, hK, rfl, rfl, rfl⟩ := C
  subst hq
  intro H locs ls hP hS hl
  exact va_mmin hx hb (by rw [hml, hl.1]) hown (hts _ h1) (hts _ h2) (hts _ h3) (hts _ h4) hd1 hro (Nat.le_refl 0) (Nat.le_refl 0) hd (g H locs ls hP hS hl)
theorem g_mabs {Z : Zt} {la : List CD} {own : String} {cc : ByteArray} {n : Nat} {ret : Option FieldType} {d : Nat} {f : Fn} {lv : List (Nat × Value)} {pc q : Nat} {st : List Value} {i : Nat} {x : Int32} (C : CX Z la own cc n ret d) (h1 : Cond.methodLink own i Lib.Math.abs.name ∈ GW) (h2 : Cond.static Lib.Math.abs.name ∈ GW) (h3 : Cond.initialized "java/lang/Math" ∈ GW) (h4 : Cond.code Lib.Math.abs.name Lib.Math.abs.code 1 (some .int) ∈ GW) (hd1 : 1 ≤ d) (hro : (st.map fun v => v.category).sum + 13 ≤ 40 * d) (hd : decode cc pc = .ok (.invokestatic i, 3)) (hq : pc + 3 = q) (g : GG Z f lv q (.int (if 0 ≤ x then x else 0 - x) :: st)) : GG Z f lv pc (.int x :: st) := by
  obtain ⟨p, l, e, s, m, args, below, meth, c, E, la', n', d', post⟩ := Z
  obtain ⟨hx, hb, hml, hown, hts, hr, hlk, hK, rfl, rfl, rfl⟩ := C
  subst hq
  intro H locs ls hP hS hl
  exact va_mabs hx hb (by rw [hml, hl.1]) hown (hts _ h1) (hts _ h2) (hts _ h3) (hts _ h4) hd1 hro (Nat.le_refl 0) (Nat.le_refl 0) hd (g H locs ls hP hS hl)
theorem g_end {s : State} {args : Array Value} {E : Ev} {la : List CD} {post : Option Value → Fn → Prop} {f : Fn} {H : Heap} {locs : List Loc} {v : Option Value} (hp : post v f) (hP : va_P E.1 vwCl (cw E la f) H) (hS : va_S (EA E la) s.heap H locs) : ∀ t : State, t.heap = H → s.WarmedH t.vm → QC E la post args s (.returned v) t := fun t ht _ => ⟨⟨v, f, rfl, hp, by rw [ht]; exact hP⟩, hS.F ht⟩
theorem g_iret {Z : Zt} {la : List CD} {own : String} {cc : ByteArray} {n : Nat} {d : Nat} {f : Fn} {lv : List (Nat × Value)} {pc : Nat} {v : Int32} (C : CX Z la own cc n (some .int) d) (hd : decode cc pc = .ok (.ireturn, 1)) (hp : zp Z (some (.int v)) f) : GG Z f lv pc [.int v] := by
  obtain ⟨p, l, e, s, m, args, below, meth, c, E, la', n', d', post⟩ := Z
  obtain ⟨hx, hb, hml, hown, hts, hr, hlk, hK, rfl, rfl, rfl⟩ := C
  intro H locs ls hP hS hl
  exact W.iret hx hb hr (g_end (post := post) hp hP hS) hS.2.2 hd hlk
theorem g_zret {Z : Zt} {la : List CD} {own : String} {cc : ByteArray} {n : Nat} {d : Nat} {f : Fn} {lv : List (Nat × Value)} {pc : Nat} {v : Int32} (C : CX Z la own cc n (some .boolean) d) (hn : v = 0 ∨ v = 1) (hd : decode cc pc = .ok (.ireturn, 1)) (hp : zp Z (some (.int v)) f) : GG Z f lv pc [.int v] := by
  obtain ⟨p, l, e, s, m, args, below, meth, c, E, la', n', d', post⟩ := Z
  obtain ⟨hx, hb, hml, hown, hts, hr, hlk, hK, rfl, rfl, rfl⟩ := C
  intro H locs ls hP hS hl
  exact W.zret hx hb hr (by rcases hn with rfl | rfl <;> rfl) (g_end (post := post) hp hP hS) hS.2.2 hd hlk
theorem g_lret {Z : Zt} {la : List CD} {own : String} {cc : ByteArray} {n : Nat} {d : Nat} {f : Fn} {lv : List (Nat × Value)} {pc : Nat} {v : Int64} (C : CX Z la own cc n (some .long) d) (hd : decode cc pc = .ok (.lreturn, 1)) (hp : zp Z (some (.long v)) f) : GG Z f lv pc [.long v] := by
  obtain ⟨p, l, e, s, m, args, below, meth, c, E, la', n', d', post⟩ := Z
  obtain ⟨hx, hb, hml, hown, hts, hr, hlk, hK, rfl, rfl, rfl⟩ := C
  intro H locs ls hP hS hl
  exact W.lret hx hb hr (g_end (post := post) hp hP hS) hS.2.2 hd hlk
theorem g_vret {Z : Zt} {la : List CD} {own : String} {cc : ByteArray} {n : Nat} {d : Nat} {f : Fn} {lv : List (Nat × Value)} {pc : Nat} (C : CX Z la own cc n none d) (hd : decode cc pc = .ok (.return_, 1)) (hp : zp Z none f) : GG Z f lv pc [] := by
  obtain ⟨p, l, e, s, m, args, below, meth, c, E, la', n', d', post⟩ := Z
  obtain ⟨hx, hb, hml, hown, hts, hr, hlk, hK, rfl, rfl, rfl⟩ := C
  intro H locs ls hP hS hl
  exact W.vret hx hb hr (g_end (post := post) hp hP hS) hS.2.2 hd hlk
theorem g_aret {Z : Zt} {la : List CD} {own : String} {cc : ByteArray} {n : Nat} {d : Nat} {f : Fn} {lv : List (Nat × Value)} {pc : Nat} {v : Value} {cn : String} (C : CX Z la own cc n (some (.object cn)) d) (hv : v = .null ∨ ∃ a, v = .ref a) (hd : decode cc pc = .ok (.areturn, 1)) (hp : zp Z (some v) f) : GG Z f lv pc [v] := by
  obtain ⟨p, l, e, s, m, args, below, meth, c, E, la', n', d', post⟩ := Z
  obtain ⟨hx, hb, hml, hown, hts, hr, hlk, hK, rfl, rfl, rfl⟩ := C
  intro H locs ls hP hS hl
  exact W.aret hx hb hr (Or.inl ⟨_, rfl⟩) hv (g_end (post := post) hp hP hS) hS.2.2 hd hlk
/-- a contract out of a walk -/
theorem CT.of {l : Launch} {E : Ev} {la : List CD} {y : MethodName} {b : ByteArray} {n : Nat} {ret : Option FieldType} {d : Nat} {av : List Value} {f : Fn} {post : Option Value → Fn → Prop} (hy : plainName y.cls = true) (hn : (lg_sl av).length ≤ n)
    (h : ∀ Z : Zt, zl Z = l → zE Z = E → zp Z = post → CX Z la y.cls b n ret d → GG Z f (lv_args 0 av) 0 []) : CT l E la y b n ret d av f post := by
  refine Met.ofW (cc := b) (maxL := n) (ret := ret) hy rfl ?_
  intro p e s m args below meth c s₁ B hml hv
  obtain ⟨rfl, hP, hK⟩ := hv
  have hts := atoms_spec (ws := .code y b n ret :: GW) B.pre
  have hown : s.vm.findClass y.cls = some m.cls := findClass_of_methodNamed B.named
  have hl := lv_entry av (n := n) hn
  rw [lg_entry_eq]
  exact h (p, l, e, s, m, av.toArray, below, meth, c, E, la, n, d, post) rfl rfl rfl ⟨B.exec, B.bytes, hml, hown, fun w hw => hts w (List.mem_cons_of_mem _ hw), B.returns, B.notSynchronized, hK, rfl, rfl, rfl⟩ s.heap [] _ hP va_S.rf hl
theorem gw_good {y : MethodName} {b : ByteArray} {n : Nat} {ret : Option FieldType} (h : Cond.code y b n ret ∈ GW) : GoodIn GW (.code y b n ret :: GW) := fun w hw => by
  have hm : w ∈ GW := (List.mem_cons.mp hw).elim (fun e => e ▸ h) id
  exact ⟨hm, good_of_word (List.all_eq_true.mp gw_all w hm)⟩
/-- behind a call -/
theorem g_back {p : Program} {l : Launch} {e : Env} {s : State} {m : MethodId} {args : Array Value} {below : List Frame} {meth : Method} {c : Code} {H : Heap} {locs : List Loc} {R : Room} {Q : State → Prop} {pc : Nat} {ls : Array Slot} {st0 rest : List Value} {a : Array Value} {E : Ev} {la : List CD} {post : Option Value → Fn → Prop} (hr : va_Run p l e R s m args below meth c H locs 0 0 0 0 (F0 m pc ls st0) rest (QC E la post a) (EA E la)) (hS : va_S (EA E la) s.heap H locs)
    (kk : ∀ (v : Option Value) (f' : Fn) (H1 : Heap) (locs1 : List Loc), post v f' → va_P E.1 vwCl (cw E la f') H1 → va_S (EA E la) s.heap H1 locs1 → W p l e R s m args below meth c H1 locs1 0 0 Q (F0 m (pc + 3) ls (v.toList ++ rest))) : W p l e R s m args below meth c H locs 0 0 Q (F0 m pc ls st0) := by
  intro T hT X
  obtain ⟨v, st₀, t, T', L, h0, X', hL, e1, e2, ⟨⟨v', f', hv, hp, hb⟩, hz, hk⟩, st⟩ := hr T hT X
  cases hv
  rw [h0] at hz hk
  obtain ⟨t2, a1, b1⟩ := kk v f' T'.heap (locs ++ L) hp (by rw [e1]; exact hb)
    ⟨Nat.le_trans hS.1 (by rw [e1]; exact hz), fun q h1 h2 => by rw [e1, hk q (Nat.lt_of_lt_of_le h1 hS.1) h2]; exact hS.2.1 q h1 h2, fun q hq => by
      rcases List.mem_append.mp hq with h | h
      · exact hS.2.2 q h
      · exact hL q h⟩ T' rfl X'
  exact ⟨t2, st t2 a1, b1⟩
theorem g_callV {Z : Zt} {la : List CD} {own : String} {cc : ByteArray} {n : Nat} {ret : Option FieldType} {d : Nat} {f : Fn} {lv : List (Nat × Value)} {pc q : Nat} {st : List Value} {y : MethodName}  {b : ByteArray} {n2 : Nat} {ret2 : Option FieldType} {d2 i na : Nat} {As : List Value} {post : Option Value → Fn → Prop} {k ci : Nat} {fl : List Nat} {T : u_T} {N : Nat} (C : CX Z la own cc n ret d) (hL : Cond.methodLink own i y ∈ GW) (hin : Cond.instanceMethod y ∈ GW) (hse : Cond.selects y.cls y y ∈ GW) (hi : Cond.initialized y.cls ∈ GW) (hco : Cond.code y b n2 ret2 ∈ GW) (hy : y.cls ≠ "java/lang/invoke/MethodHandle" ∧ y.cls ≠ "java/lang/invoke/VarHandle" ∧ (parseMethodDescriptor y.desc).map (fun d => d.parameters.length) = some na) (hn2 : n2 ≤ 20) (hdd : d2 + 1 ≤ d) (hna : As.length = na) (hst : (st.map fun v => v.category).sum ≤ 8) (hk : la[k]? = some (.inl (ci, fl))) (hc : vwCl[ci]? = some (y.cls, T, N)) (hct : CT (zl Z) (zE Z) la y b n2 ret2 d2 (.ref (zad Z k) :: As) f post) (hd : decode cc pc = .ok (.invokevirtual i, 3)) (hq : pc + 3 = q) (g : ∀ (v : Option Value) (f' : Fn), post v f' → GG Z f' lv q (v.toList ++ st)) {st0 : List Value} (h0 : st0 = As.reverse ++ .ref (zad Z k) :: st) : GG Z f lv pc st0 := by
  subst h0
  obtain ⟨p, l, e, s, m, args, below, meth, c, E, la', n', d', post⟩ := Z
  obtain ⟨hx, hb, hml, hown, hts, hr, hlk, hK, rfl, rfl, rfl⟩ := C
  subst hq
  intro H locs ls hP hS hl
  exact g_back (va_runV (As := As) (rest := st) ⟨hx, hb, hml, hown, hts⟩ hct ⟨callB_of na hts (gw_good hco) rfl rfl rfl (hts _ hi) (hts _ hL) hy ⟨by show d2 + 1 ≤ d'; exact hdd, by show 8 + (n2 + 11) + 40 * d2 ≤ 40 * d'; omega⟩, hts _ hin, hts _ hse⟩ ⟨fun a U g mk z => ⟨z.1, z.2.1, KK.blind z.2.2⟩, va_recv hK.1 hP hc (cw_get hk), fun U hU hW => ⟨rfl, by rw [hU]; exact hP, KK.warm hU hW hS hK⟩⟩ rfl hna hl.1 rfl (lv_room hst) hd ⟨Nat.le_refl 0, Nat.le_refl 0⟩) hS (fun v f' H1 locs1 hp hP1 hS1 => g v f' hp H1 locs1 ls hP1 hS1 hl)
theorem g_callS {Z : Zt} {la : List CD} {own : String} {cc : ByteArray} {n : Nat} {ret : Option FieldType} {d : Nat} {f : Fn} {lv : List (Nat × Value)} {pc q : Nat} {st : List Value} {y : MethodName}  {b : ByteArray} {n2 : Nat} {ret2 : Option FieldType} {d2 i na : Nat} {As : List Value} {post : Option Value → Fn → Prop} (C : CX Z la own cc n ret d) (hL : Cond.methodLink own i y ∈ GW) (hsta : Cond.static y ∈ GW) (hi : Cond.initialized y.cls ∈ GW) (hco : Cond.code y b n2 ret2 ∈ GW) (hy : y.cls ≠ "java/lang/invoke/MethodHandle" ∧ y.cls ≠ "java/lang/invoke/VarHandle" ∧ (parseMethodDescriptor y.desc).map (fun d => d.parameters.length) = some na) (hn2 : n2 ≤ 20) (hdd : d2 + 1 ≤ d) (hna : As.length = na) (hst : (st.map fun v => v.category).sum ≤ 8) (hct : CT (zl Z) (zE Z) la y b n2 ret2 d2 As f post) (hd : decode cc pc = .ok (.invokestatic i, 3)) (hq : pc + 3 = q) (g : ∀ (v : Option Value) (f' : Fn), post v f' → GG Z f' lv q (v.toList ++ st)) {st0 : List Value} (h0 : st0 = As.reverse ++ st) : GG Z f lv pc st0 := by
  subst h0
  obtain ⟨p, l, e, s, m, args, below, meth, c, E, la', n', d', post⟩ := Z
  obtain ⟨hx, hb, hml, hown, hts, hr, hlk, hK, rfl, rfl, rfl⟩ := C
  subst hq
  intro H locs ls hP hS hl
  exact g_back (va_runS (As := As) (rest := st) ⟨hx, hb, hml, hown, hts⟩ hct ⟨callB_of na hts (gw_good hco) rfl rfl rfl (hts _ hi) (hts _ hL) hy ⟨by show d2 + 1 ≤ d'; exact hdd, by show 8 + (n2 + 11) + 40 * d2 ≤ 40 * d'; omega⟩, hts _ hsta⟩ ⟨fun a U g mk z => ⟨z.1, z.2.1, KK.blind z.2.2⟩, fun U hU hW => ⟨rfl, by rw [hU]; exact hP, KK.warm hU hW hS hK⟩⟩ rfl hna hl.1 rfl (lv_room hst) hd ⟨Nat.le_refl 0, Nat.le_refl 0⟩) hS (fun v f' H1 locs1 hp hP1 hS1 => g v f' hp H1 locs1 ls hP1 hS1 hl)
theorem g_callVN {Z : Zt} {la : List CD} {own : String} {cc : ByteArray} {n : Nat} {ret : Option FieldType} {d : Nat} {f : Fn} {lv : List (Nat × Value)} {pc q : Nat} {st : List Value} {y : MethodName} {host : String} {b : ByteArray} {n2 : Nat} {ret2 : Option FieldType} {d2 i na : Nat} {As : List Value} {post : Option Value → Fn → Prop} {k ci : Nat} {fl : List Nat} {T : u_T} {N : Nat} (C : CX Z la own cc n ret d) (hL : Cond.methodLinkNest own i y host ∈ NW) (hin : Cond.instanceMethod y ∈ GW) (hse : Cond.selects y.cls y y ∈ GW) (hi : Cond.initialized y.cls ∈ GW) (hco : Cond.code y b n2 ret2 ∈ GW) (hy : y.cls ≠ "java/lang/invoke/MethodHandle" ∧ y.cls ≠ "java/lang/invoke/VarHandle" ∧ (parseMethodDescriptor y.desc).map (fun d => d.parameters.length) = some na) (hn2 : n2 ≤ 20) (hdd : d2 + 1 ≤ d) (hna : As.length = na) (hst : (st.map fun v => v.category).sum ≤ 8) (hk : la[k]? = some (.inl (ci, fl))) (hc : vwCl[ci]? = some (y.cls, T, N)) (hct : CT (zl Z) (zE Z) la y b n2 ret2 d2 (.ref (zad Z k) :: As) f post) (hd : decode cc pc = .ok (.invokevirtual i, 3)) (hq : pc + 3 = q) (g : ∀ (v : Option Value) (f' : Fn), post v f' → GG Z f' lv q (v.toList ++ st)) {st0 : List Value} (h0 : st0 = As.reverse ++ .ref (zad Z k) :: st) : GG Z f lv pc st0 := by
  subst h0
  obtain ⟨p, l, e, s, m, args, below, meth, c, E, la', n', d', post⟩ := Z
  obtain ⟨hx, hb, hml, hown, hts, hr, hlk, hK, rfl, rfl, rfl⟩ := C
  subst hq
  intro H locs ls hP hS hl
  exact g_back (va_runVN (As := As) (rest := st) ⟨hx, hb, hml, hown, hts⟩ hct ⟨va_cnB na hts (gw_good hco) rfl rfl rfl (hK.2.2.2.1 _ hL) (hts _ hi) hy ⟨by show d2 + 1 ≤ d'; exact hdd, by show 8 + (n2 + 11) + 40 * d2 ≤ 40 * d'; omega⟩, hts _ hin, hts _ hse⟩ ⟨fun a U g mk z => ⟨z.1, z.2.1, KK.blind z.2.2⟩, va_recv hK.1 hP hc (cw_get hk), fun U hU hW => ⟨rfl, by rw [hU]; exact hP, KK.warm hU hW hS hK⟩⟩ rfl hna hl.1 rfl (lv_room hst) hd ⟨Nat.le_refl 0, Nat.le_refl 0⟩) hS (fun v f' H1 locs1 hp hP1 hS1 => g v f' hp H1 locs1 ls hP1 hS1 hl)
theorem g_callSN {Z : Zt} {la : List CD} {own : String} {cc : ByteArray} {n : Nat} {ret : Option FieldType} {d : Nat} {f : Fn} {lv : List (Nat × Value)} {pc q : Nat} {st : List Value} {y : MethodName} {host : String} {b : ByteArray} {n2 : Nat} {ret2 : Option FieldType} {d2 i na : Nat} {As : List Value} {post : Option Value → Fn → Prop} (C : CX Z la own cc n ret d) (hL : Cond.methodLinkNest own i y host ∈ NW) (hsta : Cond.static y ∈ GW) (hi : Cond.initialized y.cls ∈ GW) (hco : Cond.code y b n2 ret2 ∈ GW) (hy : y.cls ≠ "java/lang/invoke/MethodHandle" ∧ y.cls ≠ "java/lang/invoke/VarHandle" ∧ (parseMethodDescriptor y.desc).map (fun d => d.parameters.length) = some na) (hn2 : n2 ≤ 20) (hdd : d2 + 1 ≤ d) (hna : As.length = na) (hst : (st.map fun v => v.category).sum ≤ 8) (hct : CT (zl Z) (zE Z) la y b n2 ret2 d2 As f post) (hd : decode cc pc = .ok (.invokestatic i, 3)) (hq : pc + 3 = q) (g : ∀ (v : Option Value) (f' : Fn), post v f' → GG Z f' lv q (v.toList ++ st)) {st0 : List Value} (h0 : st0 = As.reverse ++ st) : GG Z f lv pc st0 := by
  subst h0
  obtain ⟨p, l, e, s, m, args, below, meth, c, E, la', n', d', post⟩ := Z
  obtain ⟨hx, hb, hml, hown, hts, hr, hlk, hK, rfl, rfl, rfl⟩ := C
  subst hq
  intro H locs ls hP hS hl
  exact g_back (va_runSN (As := As) (rest := st) ⟨hx, hb, hml, hown, hts⟩ hct ⟨va_cnB na hts (gw_good hco) rfl rfl rfl (hK.2.2.2.1 _ hL) (hts _ hi) hy ⟨by show d2 + 1 ≤ d'; exact hdd, by show 8 + (n2 + 11) + 40 * d2 ≤ 40 * d'; omega⟩, hts _ hsta, trivial⟩ ⟨fun a U g mk z => ⟨z.1, z.2.1, KK.blind z.2.2⟩, fun U hU hW => ⟨rfl, by rw [hU]; exact hP, KK.warm hU hW hS hK⟩⟩ rfl hna hl.1 rfl (lv_room hst) hd ⟨Nat.le_refl 0, Nat.le_refl 0⟩) hS (fun v f' H1 locs1 hp hP1 hS1 => g v f' hp H1 locs1 ls hP1 hS1 hl)
theorem g_callVI {Z : Zt} {la : List CD} {own : String} {cc : ByteArray} {n : Nat} {ret : Option FieldType} {d : Nat} {f : Fn} {lv : List (Nat × Value)} {pc q : Nat} {st : List Value} {y : MethodName}  {b : ByteArray} {n2 : Nat} {ret2 : Option FieldType} {d2 i na : Nat} {As : List Value} {P : Int32 → Fn → Prop} {k ci : Nat} {fl : List Nat} {T : u_T} {N : Nat} (C : CX Z la own cc n ret d) (hL : Cond.methodLink own i y ∈ GW) (hin : Cond.instanceMethod y ∈ GW) (hse : Cond.selects y.cls y y ∈ GW) (hi : Cond.initialized y.cls ∈ GW) (hco : Cond.code y b n2 ret2 ∈ GW) (hy : y.cls ≠ "java/lang/invoke/MethodHandle" ∧ y.cls ≠ "java/lang/invoke/VarHandle" ∧ (parseMethodDescriptor y.desc).map (fun d => d.parameters.length) = some na) (hn2 : n2 ≤ 20) (hdd : d2 + 1 ≤ d) (hna : As.length = na) (hst : (st.map fun v => v.category).sum ≤ 8) (hk : la[k]? = some (.inl (ci, fl))) (hc : vwCl[ci]? = some (y.cls, T, N)) (hct : CT (zl Z) (zE Z) la y b n2 ret2 d2 (.ref (zad Z k) :: As) f (pI P)) (hd : decode cc pc = .ok (.invokevirtual i, 3)) (hq : pc + 3 = q) {st0 : List Value} (h0 : st0 = As.reverse ++ .ref (zad Z k) :: st) (g : ∀ (r : Int32) (f' : Fn), P r f' → GG Z f' lv q (.int r :: st)) : GG Z f lv pc st0 := by
  refine g_callV C hL hin hse hi hco hy hn2 hdd hna hst hk hc hct hd hq (fun v f' hp => by obtain ⟨r, rfl, hr⟩ := hp; exact g r f' hr) h0
theorem g_callVL {Z : Zt} {la : List CD} {own : String} {cc : ByteArray} {n : Nat} {ret : Option FieldType} {d : Nat} {f : Fn} {lv : List (Nat × Value)} {pc q : Nat} {st : List Value} {y : MethodName}  {b : ByteArray} {n2 : Nat} {ret2 : Option FieldType} {d2 i na : Nat} {As : List Value} {P : Int64 → Fn → Prop} {k ci : Nat} {fl : List Nat} {T : u_T} {N : Nat} (C : CX Z la own cc n ret d) (hL : Cond.methodLink own i y ∈ GW) (hin : Cond.instanceMethod y ∈ GW) (hse : Cond.selects y.cls y y ∈ GW) (hi : Cond.initialized y.cls ∈ GW) (hco : Cond.code y b n2 ret2 ∈ GW) (hy : y.cls ≠ "java/lang/invoke/MethodHandle" ∧ y.cls ≠ "java/lang/invoke/VarHandle" ∧ (parseMethodDescriptor y.desc).map (fun d => d.parameters.length) = some na) (hn2 : n2 ≤ 20) (hdd : d2 + 1 ≤ d) (hna : As.length = na) (hst : (st.map fun v => v.category).sum ≤ 8) (hk : la[k]? = some (.inl (ci, fl))) (hc : vwCl[ci]? = some (y.cls, T, N)) (hct : CT (zl Z) (zE Z) la y b n2 ret2 d2 (.ref (zad Z k) :: As) f (pL P)) (hd : decode cc pc = .ok (.invokevirtual i, 3)) (hq : pc + 3 = q) {st0 : List Value} (h0 : st0 = As.reverse ++ .ref (zad Z k) :: st) (g : ∀ (r : Int64) (f' : Fn), P r f' → GG Z f' lv q (.long r :: st)) : GG Z f lv pc st0 := by
  refine g_callV C hL hin hse hi hco hy hn2 hdd hna hst hk hc hct hd hq (fun v f' hp => by obtain ⟨r, rfl, hr⟩ := hp; exact g r f' hr) h0
theorem g_callVV {Z : Zt} {la : List CD} {own : String} {cc : ByteArray} {n : Nat} {ret : Option FieldType} {d : Nat} {f : Fn} {lv : List (Nat × Value)} {pc q : Nat} {st : List Value} {y : MethodName}  {b : ByteArray} {n2 : Nat} {ret2 : Option FieldType} {d2 i na : Nat} {As : List Value} {P : Fn → Prop} {k ci : Nat} {fl : List Nat} {T : u_T} {N : Nat} (C : CX Z la own cc n ret d) (hL : Cond.methodLink own i y ∈ GW) (hin : Cond.instanceMethod y ∈ GW) (hse : Cond.selects y.cls y y ∈ GW) (hi : Cond.initialized y.cls ∈ GW) (hco : Cond.code y b n2 ret2 ∈ GW) (hy : y.cls ≠ "java/lang/invoke/MethodHandle" ∧ y.cls ≠ "java/lang/invoke/VarHandle" ∧ (parseMethodDescriptor y.desc).map (fun d => d.parameters.length) = some na) (hn2 : n2 ≤ 20) (hdd : d2 + 1 ≤ d) (hna : As.length = na) (hst : (st.map fun v => v.category).sum ≤ 8) (hk : la[k]? = some (.inl (ci, fl))) (hc : vwCl[ci]? = some (y.cls, T, N)) (hct : CT (zl Z) (zE Z) la y b n2 ret2 d2 (.ref (zad Z k) :: As) f (pV P)) (hd : decode cc pc = .ok (.invokevirtual i, 3)) (hq : pc + 3 = q) {st0 : List Value} (h0 : st0 = As.reverse ++ .ref (zad Z k) :: st) (g : ∀ (f' : Fn), P f' → GG Z f' lv q st) : GG Z f lv pc st0 := by
  refine g_callV C hL hin hse hi hco hy hn2 hdd hna hst hk hc hct hd hq (fun v f' hp => by obtain ⟨rfl, hr⟩ := hp; exact g f' hr) h0
theorem g_callVR {Z : Zt} {la : List CD} {own : String} {cc : ByteArray} {n : Nat} {ret : Option FieldType} {d : Nat} {f : Fn} {lv : List (Nat × Value)} {pc q : Nat} {st : List Value} {y : MethodName}  {b : ByteArray} {n2 : Nat} {ret2 : Option FieldType} {d2 i na : Nat} {As : List Value} {P : Option Nat → Fn → Prop} {k ci : Nat} {fl : List Nat} {T : u_T} {N : Nat} (C : CX Z la own cc n ret d) (hL : Cond.methodLink own i y ∈ GW) (hin : Cond.instanceMethod y ∈ GW) (hse : Cond.selects y.cls y y ∈ GW) (hi : Cond.initialized y.cls ∈ GW) (hco : Cond.code y b n2 ret2 ∈ GW) (hy : y.cls ≠ "java/lang/invoke/MethodHandle" ∧ y.cls ≠ "java/lang/invoke/VarHandle" ∧ (parseMethodDescriptor y.desc).map (fun d => d.parameters.length) = some na) (hn2 : n2 ≤ 20) (hdd : d2 + 1 ≤ d) (hna : As.length = na) (hst : (st.map fun v => v.category).sum ≤ 8) (hk : la[k]? = some (.inl (ci, fl))) (hc : vwCl[ci]? = some (y.cls, T, N)) (hct : CT (zl Z) (zE Z) la y b n2 ret2 d2 (.ref (zad Z k) :: As) f (pR (zad Z) P)) (hd : decode cc pc = .ok (.invokevirtual i, 3)) (hq : pc + 3 = q) {st0 : List Value} (h0 : st0 = As.reverse ++ .ref (zad Z k) :: st) (gn : ∀ (f' : Fn), P none f' → GG Z f' lv q (.null :: st)) (gs : ∀ (k : Nat) (f' : Fn), P (some k) f' → GG Z f' lv q (.ref (zad Z k) :: st)) : GG Z f lv pc st0 := by
  refine g_callV C hL hin hse hi hco hy hn2 hdd hna hst hk hc hct hd hq (fun v f' hp => by
    obtain ⟨r, rfl, hr⟩ := hp
    cases r with
    | none => exact gn f' hr
    | some k => exact gs k f' hr) h0
theorem g_callSI {Z : Zt} {la : List CD} {own : String} {cc : ByteArray} {n : Nat} {ret : Option FieldType} {d : Nat} {f : Fn} {lv : List (Nat × Value)} {pc q : Nat} {st : List Value} {y : MethodName}  {b : ByteArray} {n2 : Nat} {ret2 : Option FieldType} {d2 i na : Nat} {As : List Value} {P : Int32 → Fn → Prop} (C : CX Z la own cc n ret d) (hL : Cond.methodLink own i y ∈ GW) (hsta : Cond.static y ∈ GW) (hi : Cond.initialized y.cls ∈ GW) (hco : Cond.code y b n2 ret2 ∈ GW) (hy : y.cls ≠ "java/lang/invoke/MethodHandle" ∧ y.cls ≠ "java/lang/invoke/VarHandle" ∧ (parseMethodDescriptor y.desc).map (fun d => d.parameters.length) = some na) (hn2 : n2 ≤ 20) (hdd : d2 + 1 ≤ d) (hna : As.length = na) (hst : (st.map fun v => v.category).sum ≤ 8) (hct : CT (zl Z) (zE Z) la y b n2 ret2 d2 As f (pI P)) (hd : decode cc pc = .ok (.invokestatic i, 3)) (hq : pc + 3 = q) {st0 : List Value} (h0 : st0 = As.reverse ++ st) (g : ∀ (r : Int32) (f' : Fn), P r f' → GG Z f' lv q (.int r :: st)) : GG Z f lv pc st0 := by
  refine g_callS C hL hsta hi hco hy hn2 hdd hna hst hct hd hq (fun v f' hp => by obtain ⟨r, rfl, hr⟩ := hp; exact g r f' hr) h0
theorem g_callSL {Z : Zt} {la : List CD} {own : String} {cc : ByteArray} {n : Nat} {ret : Option FieldType} {d : Nat} {f : Fn} {lv : List (Nat × Value)} {pc q : Nat} {st : List Value} {y : MethodName}  {b : ByteArray} {n2 : Nat} {ret2 : Option FieldType} {d2 i na : Nat} {As : List Value} {P : Int64 → Fn → Prop} (C : CX Z la own cc n ret d) (hL : Cond.methodLink own i y ∈ GW) (hsta : Cond.static y ∈ GW) (hi : Cond.initialized y.cls ∈ GW) (hco : Cond.code y b n2 ret2 ∈ GW) (hy : y.cls ≠ "java/lang/invoke/MethodHandle" ∧ y.cls ≠ "java/lang/invoke/VarHandle" ∧ (parseMethodDescriptor y.desc).map (fun d => d.parameters.length) = some na) (hn2 : n2 ≤ 20) (hdd : d2 + 1 ≤ d) (hna : As.length = na) (hst : (st.map fun v => v.category).sum ≤ 8) (hct : CT (zl Z) (zE Z) la y b n2 ret2 d2 As f (pL P)) (hd : decode cc pc = .ok (.invokestatic i, 3)) (hq : pc + 3 = q) {st0 : List Value} (h0 : st0 = As.reverse ++ st) (g : ∀ (r : Int64) (f' : Fn), P r f' → GG Z f' lv q (.long r :: st)) : GG Z f lv pc st0 := by
  refine g_callS C hL hsta hi hco hy hn2 hdd hna hst hct hd hq (fun v f' hp => by obtain ⟨r, rfl, hr⟩ := hp; exact g r f' hr) h0
theorem g_callSV {Z : Zt} {la : List CD} {own : String} {cc : ByteArray} {n : Nat} {ret : Option FieldType} {d : Nat} {f : Fn} {lv : List (Nat × Value)} {pc q : Nat} {st : List Value} {y : MethodName}  {b : ByteArray} {n2 : Nat} {ret2 : Option FieldType} {d2 i na : Nat} {As : List Value} {P : Fn → Prop} (C : CX Z la own cc n ret d) (hL : Cond.methodLink own i y ∈ GW) (hsta : Cond.static y ∈ GW) (hi : Cond.initialized y.cls ∈ GW) (hco : Cond.code y b n2 ret2 ∈ GW) (hy : y.cls ≠ "java/lang/invoke/MethodHandle" ∧ y.cls ≠ "java/lang/invoke/VarHandle" ∧ (parseMethodDescriptor y.desc).map (fun d => d.parameters.length) = some na) (hn2 : n2 ≤ 20) (hdd : d2 + 1 ≤ d) (hna : As.length = na) (hst : (st.map fun v => v.category).sum ≤ 8) (hct : CT (zl Z) (zE Z) la y b n2 ret2 d2 As f (pV P)) (hd : decode cc pc = .ok (.invokestatic i, 3)) (hq : pc + 3 = q) {st0 : List Value} (h0 : st0 = As.reverse ++ st) (g : ∀ (f' : Fn), P f' → GG Z f' lv q st) : GG Z f lv pc st0 := by
  refine g_callS C hL hsta hi hco hy hn2 hdd hna hst hct hd hq (fun v f' hp => by obtain ⟨rfl, hr⟩ := hp; exact g f' hr) h0
theorem g_callSR {Z : Zt} {la : List CD} {own : String} {cc : ByteArray} {n : Nat} {ret : Option FieldType} {d : Nat} {f : Fn} {lv : List (Nat × Value)} {pc q : Nat} {st : List Value} {y : MethodName}  {b : ByteArray} {n2 : Nat} {ret2 : Option FieldType} {d2 i na : Nat} {As : List Value} {P : Option Nat → Fn → Prop} (C : CX Z la own cc n ret d) (hL : Cond.methodLink own i y ∈ GW) (hsta : Cond.static y ∈ GW) (hi : Cond.initialized y.cls ∈ GW) (hco : Cond.code y b n2 ret2 ∈ GW) (hy : y.cls ≠ "java/lang/invoke/MethodHandle" ∧ y.cls ≠ "java/lang/invoke/VarHandle" ∧ (parseMethodDescriptor y.desc).map (fun d => d.parameters.length) = some na) (hn2 : n2 ≤ 20) (hdd : d2 + 1 ≤ d) (hna : As.length = na) (hst : (st.map fun v => v.category).sum ≤ 8) (hct : CT (zl Z) (zE Z) la y b n2 ret2 d2 As f (pR (zad Z) P)) (hd : decode cc pc = .ok (.invokestatic i, 3)) (hq : pc + 3 = q) {st0 : List Value} (h0 : st0 = As.reverse ++ st) (gn : ∀ (f' : Fn), P none f' → GG Z f' lv q (.null :: st)) (gs : ∀ (k : Nat) (f' : Fn), P (some k) f' → GG Z f' lv q (.ref (zad Z k) :: st)) : GG Z f lv pc st0 := by
  refine g_callS C hL hsta hi hco hy hn2 hdd hna hst hct hd hq (fun v f' hp => by
    obtain ⟨r, rfl, hr⟩ := hp
    cases r with
    | none => exact gn f' hr
    | some k => exact gs k f' hr) h0
theorem g_callSNI {Z : Zt} {la : List CD} {own : String} {cc : ByteArray} {n : Nat} {ret : Option FieldType} {d : Nat} {f : Fn} {lv : List (Nat × Value)} {pc q : Nat} {st : List Value} {y : MethodName} {host : String} {b : ByteArray} {n2 : Nat} {ret2 : Option FieldType} {d2 i na : Nat} {As : List Value} {P : Int32 → Fn → Prop} (C : CX Z la own cc n ret d) (hL : Cond.methodLinkNest own i y host ∈ NW) (hsta : Cond.static y ∈ GW) (hi : Cond.initialized y.cls ∈ GW) (hco : Cond.code y b n2 ret2 ∈ GW) (hy : y.cls ≠ "java/lang/invoke/MethodHandle" ∧ y.cls ≠ "java/lang/invoke/VarHandle" ∧ (parseMethodDescriptor y.desc).map (fun d => d.parameters.length) = some na) (hn2 : n2 ≤ 20) (hdd : d2 + 1 ≤ d) (hna : As.length = na) (hst : (st.map fun v => v.category).sum ≤ 8) (hct : CT (zl Z) (zE Z) la y b n2 ret2 d2 As f (pI P)) (hd : decode cc pc = .ok (.invokestatic i, 3)) (hq : pc + 3 = q) {st0 : List Value} (h0 : st0 = As.reverse ++ st) (g : ∀ (r : Int32) (f' : Fn), P r f' → GG Z f' lv q (.int r :: st)) : GG Z f lv pc st0 := by
  refine g_callSN C hL hsta hi hco hy hn2 hdd hna hst hct hd hq (fun v f' hp => by obtain ⟨r, rfl, hr⟩ := hp; exact g r f' hr) h0
theorem g_callSNL {Z : Zt} {la : List CD} {own : String} {cc : ByteArray} {n : Nat} {ret : Option FieldType} {d : Nat} {f : Fn} {lv : List (Nat × Value)} {pc q : Nat} {st : List Value} {y : MethodName} {host : String} {b : ByteArray} {n2 : Nat} {ret2 : Option FieldType} {d2 i na : Nat} {As : List Value} {P : Int64 → Fn → Prop} (C : CX Z la own cc n ret d) (hL : Cond.methodLinkNest own i y host ∈ NW) (hsta : Cond.static y ∈ GW) (hi : Cond.initialized y.cls ∈ GW) (hco : Cond.code y b n2 ret2 ∈ GW) (hy : y.cls ≠ "java/lang/invoke/MethodHandle" ∧ y.cls ≠ "java/lang/invoke/VarHandle" ∧ (parseMethodDescriptor y.desc).map (fun d => d.parameters.length) = some na) (hn2 : n2 ≤ 20) (hdd : d2 + 1 ≤ d) (hna : As.length = na) (hst : (st.map fun v => v.category).sum ≤ 8) (hct : CT (zl Z) (zE Z) la y b n2 ret2 d2 As f (pL P)) (hd : decode cc pc = .ok (.invokestatic i, 3)) (hq : pc + 3 = q) {st0 : List Value} (h0 : st0 = As.reverse ++ st) (g : ∀ (r : Int64) (f' : Fn), P r f' → GG Z f' lv q (.long r :: st)) : GG Z f lv pc st0 := by
  refine g_callSN C hL hsta hi hco hy hn2 hdd hna hst hct hd hq (fun v f' hp => by obtain ⟨r, rfl, hr⟩ := hp; exact g r f' hr) h0
theorem g_callSNV {Z : Zt} {la : List CD} {own : String} {cc : ByteArray} {n : Nat} {ret : Option FieldType} {d : Nat} {f : Fn} {lv : List (Nat × Value)} {pc q : Nat} {st : List Value} {y : MethodName} {host : String} {b : ByteArray} {n2 : Nat} {ret2 : Option FieldType} {d2 i na : Nat} {As : List Value} {P : Fn → Prop} (C : CX Z la own cc n ret d) (hL : Cond.methodLinkNest own i y host ∈ NW) (hsta : Cond.static y ∈ GW) (hi : Cond.initialized y.cls ∈ GW) (hco : Cond.code y b n2 ret2 ∈ GW) (hy : y.cls ≠ "java/lang/invoke/MethodHandle" ∧ y.cls ≠ "java/lang/invoke/VarHandle" ∧ (parseMethodDescriptor y.desc).map (fun d => d.parameters.length) = some na) (hn2 : n2 ≤ 20) (hdd : d2 + 1 ≤ d) (hna : As.length = na) (hst : (st.map fun v => v.category).sum ≤ 8) (hct : CT (zl Z) (zE Z) la y b n2 ret2 d2 As f (pV P)) (hd : decode cc pc = .ok (.invokestatic i, 3)) (hq : pc + 3 = q) {st0 : List Value} (h0 : st0 = As.reverse ++ st) (g : ∀ (f' : Fn), P f' → GG Z f' lv q st) : GG Z f lv pc st0 := by
  refine g_callSN C hL hsta hi hco hy hn2 hdd hna hst hct hd hq (fun v f' hp => by obtain ⟨rfl, hr⟩ := hp; exact g f' hr) h0
theorem g_callSNR {Z : Zt} {la : List CD} {own : String} {cc : ByteArray} {n : Nat} {ret : Option FieldType} {d : Nat} {f : Fn} {lv : List (Nat × Value)} {pc q : Nat} {st : List Value} {y : MethodName} {host : String} {b : ByteArray} {n2 : Nat} {ret2 : Option FieldType} {d2 i na : Nat} {As : List Value} {P : Option Nat → Fn → Prop} (C : CX Z la own cc n ret d) (hL : Cond.methodLinkNest own i y host ∈ NW) (hsta : Cond.static y ∈ GW) (hi : Cond.initialized y.cls ∈ GW) (hco : Cond.code y b n2 ret2 ∈ GW) (hy : y.cls ≠ "java/lang/invoke/MethodHandle" ∧ y.cls ≠ "java/lang/invoke/VarHandle" ∧ (parseMethodDescriptor y.desc).map (fun d => d.parameters.length) = some na) (hn2 : n2 ≤ 20) (hdd : d2 + 1 ≤ d) (hna : As.length = na) (hst : (st.map fun v => v.category).sum ≤ 8) (hct : CT (zl Z) (zE Z) la y b n2 ret2 d2 As f (pR (zad Z) P)) (hd : decode cc pc = .ok (.invokestatic i, 3)) (hq : pc + 3 = q) {st0 : List Value} (h0 : st0 = As.reverse ++ st) (gn : ∀ (f' : Fn), P none f' → GG Z f' lv q (.null :: st)) (gs : ∀ (k : Nat) (f' : Fn), P (some k) f' → GG Z f' lv q (.ref (zad Z k) :: st)) : GG Z f lv pc st0 := by
  refine g_callSN C hL hsta hi hco hy hn2 hdd hna hst hct hd hq (fun v f' hp => by
    obtain ⟨r, rfl, hr⟩ := hp
    cases r with
    | none => exact gn f' hr
    | some k => exact gs k f' hr) h0
theorem fvl_0 {ad : Nat → Nat} {r : Nat → Int32} {j : Nat} : fvl ad r j 0 = .int (r j) := by simp [fvl]
theorem fvl_1 {ad : Nat → Nat} {r : Nat → Int32} {j : Nat} : fvl ad r j 1 = .long (mk64 (r j) (r (j + 100))) := by simp [fvl]
theorem fvl_2 {ad : Nat → Nat} {r : Nat → Int32} {j p : Nat} : fvl ad r j (p + 2) = .ref (ad p) := by simp [fvl]
theorem vp_of {i : Int32} {n : Nat} (h : (!decide (i < 0) && decide (i.toNatClampNeg < n)) = true) : vp_in i n := by
  simp only [Bool.and_eq_true, Bool.not_eq_true', decide_eq_false_iff_not, decide_eq_true_eq] at h
  exact fun q => q.elim h.1 (fun q => by omega)
theorem one_of {fl : List Nat} {j : Nat} (h : (List.range fl.length).all (fun i => !(fl[i]? == some 1) || i == j) = true) : ∀ i9 : Nat, fl[i9]? = some 1 → i9 = j := by
  intro i9 h9
  have hl := (List.getElem?_eq_some_iff.mp h9).1
  have h2 := List.all_eq_true.mp h i9 (List.mem_range.mpr hl)
  simpa [h9] using h2
theorem nar_b {v : Int32} (hz : v = 0 ∨ v = 1) : narrow .boolean (.int v) = .int v := by rcases hz with rfl | rfl <;> rfl
theorem fit_b {v : Int32} (hz : v = 0 ∨ v = 1) : fits .boolean (.int v) = true := by rcases hz with rfl | rfl <;> rfl
theorem sw_ho {x k : Int32} {lo off : Int} {offs : Array Int} (h : x = k) (e : offs[(k.toInt - lo).toNat]? = some off) : offs[(x.toInt - lo).toNat]? = some off := by rw [h]; exact e
theorem sw_lo {x k : Int32} {d off : Int} {ps : List (Int × Int)} (h : x = k) (e : Op.lookupswitch.offset ps d k.toInt = off) : Op.lookupswitch.offset ps d x.toInt = off := by rw [h]; exact e
theorem g_ialdx {Z : Zt} {la : List CD} {own : String} {cc : ByteArray} {n : Nat} {ret : Option FieldType} {d : Nat} {f : Fn} {lv : List (Nat × Value)} {pc q : Nat} {st : List Value} {k N j : Nat} {i x : Int32} (C : CX Z la own cc n ret d) (hk : la[k]? = some (.inr (.inl N))) (hi : vp_in i N) (hx : i.toNatClampNeg = j) (hv : f k j = x) (hd : decode cc pc = .ok (.iaload, 1)) (hq : pc + 1 = q) (g : GG Z f lv q (.int x :: st)) : GG Z f lv pc (.int i :: .ref (zad Z k) :: st) := by
  subst hv; subst hx
  exact g_iald C hk hi hd hq g
theorem g_iastx {Z : Zt} {la : List CD} {own : String} {cc : ByteArray} {n : Nat} {ret : Option FieldType} {d : Nat} {f : Fn} {lv : List (Nat × Value)} {pc q : Nat} {st : List Value} {k N j : Nat} {i v : Int32} (C : CX Z la own cc n ret d) (hk : la[k]? = some (.inr (.inl N))) (hi : vp_in i N) (hx : i.toNatClampNeg = j) (hd : decode cc pc = .ok (.iastore, 1)) (hq : pc + 1 = q) (g : GG Z (up2 f k j v) lv q st) : GG Z f lv pc (.int v :: .int i :: .ref (zad Z k) :: st) := by
  subst hx
  exact g_iast C hk hi hd hq g
end
