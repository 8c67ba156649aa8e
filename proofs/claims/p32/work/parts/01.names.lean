-- ===== PART A: goes FIRST, ahead of the names: the tables' words, and 'selects' of the private methods out of them =====
/-- a private method of a class that the tables say can be made, by its rows of tables_1 -/
def lw_okq (q : MethodName × Nat) : Prop := (q.1.cls ≠ "java/lang/invoke/MethodHandle" ∧ q.1.cls ≠ "java/lang/invoke/VarHandle") ∧ Cond.instantiable q.1.cls q.2 ∈ tables_1 ∧ Cond.privateMethod q.1 ∈ tables_1 ∧ Cond.instanceMethod q.1 ∈ tables_1
theorem lw_p0 : lw_okq (⟨"SootMaps$Text", "skipBlanks", "()V"⟩, 6) := ⟨⟨by decide +kernel, by decide +kernel⟩, List.mem_of_getElem? (i := 25) (by decide +kernel), List.mem_of_getElem? (i := 324) (by decide +kernel), List.mem_of_getElem? (i := 325) (by decide +kernel)⟩
theorem lw_p1 : lw_okq (⟨"SootMaps$Text", "letter", "()C"⟩, 6) := ⟨⟨by decide +kernel, by decide +kernel⟩, List.mem_of_getElem? (i := 25) (by decide +kernel), List.mem_of_getElem? (i := 328) (by decide +kernel), List.mem_of_getElem? (i := 329) (by decide +kernel)⟩
theorem lw_p2 : lw_okq (⟨"SootMaps$Text", "readClause", "()V"⟩, 6) := ⟨⟨by decide +kernel, by decide +kernel⟩, List.mem_of_getElem? (i := 25) (by decide +kernel), List.mem_of_getElem? (i := 332) (by decide +kernel), List.mem_of_getElem? (i := 333) (by decide +kernel)⟩
theorem lw_p3 : lw_okq (⟨"SootMaps$Text", "mayBegin", "(C)Z"⟩, 6) := ⟨⟨by decide +kernel, by decide +kernel⟩, List.mem_of_getElem? (i := 25) (by decide +kernel), List.mem_of_getElem? (i := 336) (by decide +kernel), List.mem_of_getElem? (i := 337) (by decide +kernel)⟩
theorem lw_p4 : lw_okq (⟨"SootMaps$Text", "fail", "(II)V"⟩, 6) := ⟨⟨by decide +kernel, by decide +kernel⟩, List.mem_of_getElem? (i := 25) (by decide +kernel), List.mem_of_getElem? (i := 340) (by decide +kernel), List.mem_of_getElem? (i := 341) (by decide +kernel)⟩
theorem lw_p5 : lw_okq (⟨"SootMaps$Text", "isOneTooMany", "(C)Z"⟩, 6) := ⟨⟨by decide +kernel, by decide +kernel⟩, List.mem_of_getElem? (i := 25) (by decide +kernel), List.mem_of_getElem? (i := 344) (by decide +kernel), List.mem_of_getElem? (i := 345) (by decide +kernel)⟩
theorem lw_p6 : lw_okq (⟨"SootMaps$Text", "readNumbersOf", "(C)V"⟩, 6) := ⟨⟨by decide +kernel, by decide +kernel⟩, List.mem_of_getElem? (i := 25) (by decide +kernel), List.mem_of_getElem? (i := 348) (by decide +kernel), List.mem_of_getElem? (i := 349) (by decide +kernel)⟩
theorem lw_p7 : lw_okq (⟨"SootMaps$Text", "readFirst", "(C)I"⟩, 6) := ⟨⟨by decide +kernel, by decide +kernel⟩, List.mem_of_getElem? (i := 25) (by decide +kernel), List.mem_of_getElem? (i := 352) (by decide +kernel), List.mem_of_getElem? (i := 353) (by decide +kernel)⟩
theorem lw_p8 : lw_okq (⟨"SootMaps$Text", "readNumber", "(I)I"⟩, 6) := ⟨⟨by decide +kernel, by decide +kernel⟩, List.mem_of_getElem? (i := 25) (by decide +kernel), List.mem_of_getElem? (i := 356) (by decide +kernel), List.mem_of_getElem? (i := 357) (by decide +kernel)⟩
theorem lw_p9 : lw_okq (⟨"SootMaps$Text", "readEnd", "()V"⟩, 6) := ⟨⟨by decide +kernel, by decide +kernel⟩, List.mem_of_getElem? (i := 25) (by decide +kernel), List.mem_of_getElem? (i := 363) (by decide +kernel), List.mem_of_getElem? (i := 364) (by decide +kernel)⟩
theorem lw_p10 : lw_okq (⟨"SootMaps", "isHouse", "(I)Z"⟩, 10) := ⟨⟨by decide +kernel, by decide +kernel⟩, List.mem_of_getElem? (i := 17) (by decide +kernel), List.mem_of_getElem? (i := 421) (by decide +kernel), List.mem_of_getElem? (i := 422) (by decide +kernel)⟩
theorem lw_p11 : lw_okq (⟨"SootMaps", "isSweep", "(I)Z"⟩, 10) := ⟨⟨by decide +kernel, by decide +kernel⟩, List.mem_of_getElem? (i := 17) (by decide +kernel), List.mem_of_getElem? (i := 442) (by decide +kernel), List.mem_of_getElem? (i := 443) (by decide +kernel)⟩
theorem lw_p12 : lw_okq (⟨"SootMaps", "refusalOfMonths", "(I)I"⟩, 10) := ⟨⟨by decide +kernel, by decide +kernel⟩, List.mem_of_getElem? (i := 17) (by decide +kernel), List.mem_of_getElem? (i := 451) (by decide +kernel), List.mem_of_getElem? (i := 452) (by decide +kernel)⟩
theorem lw_p13 : lw_okq (⟨"SootMaps$Streets", "burnIn", "(ILSootMaps$Plan;)V"⟩, 7) := ⟨⟨by decide +kernel, by decide +kernel⟩, List.mem_of_getElem? (i := 109) (by decide +kernel), List.mem_of_getElem? (i := 475) (by decide +kernel), List.mem_of_getElem? (i := 476) (by decide +kernel)⟩
theorem lw_p14 : lw_okq (⟨"SootMaps", "areTwoSweeps", "(II)Z"⟩, 10) := ⟨⟨by decide +kernel, by decide +kernel⟩, List.mem_of_getElem? (i := 17) (by decide +kernel), List.mem_of_getElem? (i := 515) (by decide +kernel), List.mem_of_getElem? (i := 516) (by decide +kernel)⟩
theorem lw_p15 : lw_okq (⟨"SootMaps", "passDrawnMonth", "()V"⟩, 10) := ⟨⟨by decide +kernel, by decide +kernel⟩, List.mem_of_getElem? (i := 17) (by decide +kernel), List.mem_of_getElem? (i := 535) (by decide +kernel), List.mem_of_getElem? (i := 536) (by decide +kernel)⟩
def lw_privs_1 : List (MethodName × Nat) := [(⟨"SootMaps$Text", "skipBlanks", "()V"⟩, 6), (⟨"SootMaps$Text", "letter", "()C"⟩, 6), (⟨"SootMaps$Text", "readClause", "()V"⟩, 6), (⟨"SootMaps$Text", "mayBegin", "(C)Z"⟩, 6), (⟨"SootMaps$Text", "fail", "(II)V"⟩, 6), (⟨"SootMaps$Text", "isOneTooMany", "(C)Z"⟩, 6), (⟨"SootMaps$Text", "readNumbersOf", "(C)V"⟩, 6), (⟨"SootMaps$Text", "readFirst", "(C)I"⟩, 6), (⟨"SootMaps$Text", "readNumber", "(I)I"⟩, 6), (⟨"SootMaps$Text", "readEnd", "()V"⟩, 6), (⟨"SootMaps", "isHouse", "(I)Z"⟩, 10), (⟨"SootMaps", "isSweep", "(I)Z"⟩, 10), (⟨"SootMaps", "refusalOfMonths", "(I)I"⟩, 10), (⟨"SootMaps$Streets", "burnIn", "(ILSootMaps$Plan;)V"⟩, 7), (⟨"SootMaps", "areTwoSweeps", "(II)Z"⟩, 10), (⟨"SootMaps", "passDrawnMonth", "()V"⟩, 10)]
theorem lw_r1 : ∀ q ∈ lw_privs_1, lw_okq q := List.forall_mem_cons.mpr ⟨lw_p0, List.forall_mem_cons.mpr ⟨lw_p1, List.forall_mem_cons.mpr ⟨lw_p2, List.forall_mem_cons.mpr ⟨lw_p3, List.forall_mem_cons.mpr ⟨lw_p4, List.forall_mem_cons.mpr ⟨lw_p5, List.forall_mem_cons.mpr ⟨lw_p6, List.forall_mem_cons.mpr ⟨lw_p7, List.forall_mem_cons.mpr ⟨lw_p8, List.forall_mem_cons.mpr ⟨lw_p9, List.forall_mem_cons.mpr ⟨lw_p10, List.forall_mem_cons.mpr ⟨lw_p11, List.forall_mem_cons.mpr ⟨lw_p12, List.forall_mem_cons.mpr ⟨lw_p13, List.forall_mem_cons.mpr ⟨lw_p14, List.forall_mem_cons.mpr ⟨lw_p15, fun _ h => absurd h List.not_mem_nil⟩⟩⟩⟩⟩⟩⟩⟩⟩⟩⟩⟩⟩⟩⟩⟩
theorem lw_p16 : lw_okq (⟨"SootMaps", "draw", "(I)I"⟩, 10) := ⟨⟨by decide +kernel, by decide +kernel⟩, List.mem_of_getElem? (i := 17) (by decide +kernel), List.mem_of_getElem? (i := 539) (by decide +kernel), List.mem_of_getElem? (i := 540) (by decide +kernel)⟩
theorem lw_p17 : lw_okq (⟨"SootMaps$Rows", "addToHeap", "(III)V"⟩, 3) := ⟨⟨by decide +kernel, by decide +kernel⟩, List.mem_of_getElem? (i := 224) (by decide +kernel), List.mem_of_getElem? (i := 567) (by decide +kernel), List.mem_of_getElem? (i := 568) (by decide +kernel)⟩
theorem lw_p18 : lw_okq (⟨"SootMaps$Rows", "fits", "(II)Z"⟩, 3) := ⟨⟨by decide +kernel, by decide +kernel⟩, List.mem_of_getElem? (i := 224) (by decide +kernel), List.mem_of_getElem? (i := 579) (by decide +kernel), List.mem_of_getElem? (i := 580) (by decide +kernel)⟩
theorem lw_p19 : lw_okq (⟨"SootMaps$Bargain", "listNeeds", "(IILSootMaps$Streets;LSootMaps$Plan;)V"⟩, 8) := ⟨⟨by decide +kernel, by decide +kernel⟩, List.mem_of_getElem? (i := 240) (by decide +kernel), List.mem_of_getElem? (i := 626) (by decide +kernel), List.mem_of_getElem? (i := 627) (by decide +kernel)⟩
theorem lw_p20 : lw_okq (⟨"SootMaps$Bargain", "listTallies", "(IILSootMaps$Streets;LSootMaps$Plan;)V"⟩, 8) := ⟨⟨by decide +kernel, by decide +kernel⟩, List.mem_of_getElem? (i := 240) (by decide +kernel), List.mem_of_getElem? (i := 634) (by decide +kernel), List.mem_of_getElem? (i := 635) (by decide +kernel)⟩
theorem lw_p21 : lw_okq (⟨"SootMaps$Bargain", "countCosts", "(ILSootMaps$Plan;)V"⟩, 8) := ⟨⟨by decide +kernel, by decide +kernel⟩, List.mem_of_getElem? (i := 240) (by decide +kernel), List.mem_of_getElem? (i := 645) (by decide +kernel), List.mem_of_getElem? (i := 646) (by decide +kernel)⟩
theorem lw_p22 : lw_okq (⟨"SootMaps$Bargain", "cheapestGiver", "(IILSootMaps$Plan;)I"⟩, 8) := ⟨⟨by decide +kernel, by decide +kernel⟩, List.mem_of_getElem? (i := 240) (by decide +kernel), List.mem_of_getElem? (i := 649) (by decide +kernel), List.mem_of_getElem? (i := 650) (by decide +kernel)⟩
theorem lw_p23 : lw_okq (⟨"SootMaps$Bargain", "costBy", "(IIILSootMaps$Plan;)I"⟩, 8) := ⟨⟨by decide +kernel, by decide +kernel⟩, List.mem_of_getElem? (i := 240) (by decide +kernel), List.mem_of_getElem? (i := 653) (by decide +kernel), List.mem_of_getElem? (i := 654) (by decide +kernel)⟩
theorem lw_p24 : lw_okq (⟨"SootMaps$Bargain", "isFree", "(II)Z"⟩, 8) := ⟨⟨by decide +kernel, by decide +kernel⟩, List.mem_of_getElem? (i := 240) (by decide +kernel), List.mem_of_getElem? (i := 657) (by decide +kernel), List.mem_of_getElem? (i := 658) (by decide +kernel)⟩
theorem lw_p25 : lw_okq (⟨"SootMaps", "mostFeared", "(I)I"⟩, 10) := ⟨⟨by decide +kernel, by decide +kernel⟩, List.mem_of_getElem? (i := 17) (by decide +kernel), List.mem_of_getElem? (i := 691) (by decide +kernel), List.mem_of_getElem? (i := 692) (by decide +kernel)⟩
theorem lw_p26 : lw_okq (⟨"SootMaps", "suspects", "(I)I"⟩, 10) := ⟨⟨by decide +kernel, by decide +kernel⟩, List.mem_of_getElem? (i := 17) (by decide +kernel), List.mem_of_getElem? (i := 716) (by decide +kernel), List.mem_of_getElem? (i := 717) (by decide +kernel)⟩
theorem lw_p27 : lw_okq (⟨"SootMaps", "partingFlue", "(I)I"⟩, 10) := ⟨⟨by decide +kernel, by decide +kernel⟩, List.mem_of_getElem? (i := 17) (by decide +kernel), List.mem_of_getElem? (i := 724) (by decide +kernel), List.mem_of_getElem? (i := 725) (by decide +kernel)⟩
theorem lw_p28 : lw_okq (⟨"SootMaps", "howManyReach", "(II)I"⟩, 10) := ⟨⟨by decide +kernel, by decide +kernel⟩, List.mem_of_getElem? (i := 17) (by decide +kernel), List.mem_of_getElem? (i := 728) (by decide +kernel), List.mem_of_getElem? (i := 729) (by decide +kernel)⟩
theorem lw_p29 : lw_okq (⟨"SootMapsModel", "here", "()I"⟩, 38) := ⟨⟨by decide +kernel, by decide +kernel⟩, List.mem_of_getElem? (i := 782) (by decide +kernel), List.mem_of_getElem? (i := 917) (by decide +kernel), List.mem_of_getElem? (i := 918) (by decide +kernel)⟩
theorem lw_p30 : lw_okq (⟨"SootMapsModel", "letterAt", "(I)I"⟩, 38) := ⟨⟨by decide +kernel, by decide +kernel⟩, List.mem_of_getElem? (i := 782) (by decide +kernel), List.mem_of_getElem? (i := 921) (by decide +kernel), List.mem_of_getElem? (i := 922) (by decide +kernel)⟩
theorem lw_p31 : lw_okq (⟨"SootMapsModel", "takesClause", "()Z"⟩, 38) := ⟨⟨by decide +kernel, by decide +kernel⟩, List.mem_of_getElem? (i := 782) (by decide +kernel), List.mem_of_getElem? (i := 925) (by decide +kernel), List.mem_of_getElem? (i := 926) (by decide +kernel)⟩
def lw_privs_2 : List (MethodName × Nat) := [(⟨"SootMaps", "draw", "(I)I"⟩, 10), (⟨"SootMaps$Rows", "addToHeap", "(III)V"⟩, 3), (⟨"SootMaps$Rows", "fits", "(II)Z"⟩, 3), (⟨"SootMaps$Bargain", "listNeeds", "(IILSootMaps$Streets;LSootMaps$Plan;)V"⟩, 8), (⟨"SootMaps$Bargain", "listTallies", "(IILSootMaps$Streets;LSootMaps$Plan;)V"⟩, 8), (⟨"SootMaps$Bargain", "countCosts", "(ILSootMaps$Plan;)V"⟩, 8), (⟨"SootMaps$Bargain", "cheapestGiver", "(IILSootMaps$Plan;)I"⟩, 8), (⟨"SootMaps$Bargain", "costBy", "(IIILSootMaps$Plan;)I"⟩, 8), (⟨"SootMaps$Bargain", "isFree", "(II)Z"⟩, 8), (⟨"SootMaps", "mostFeared", "(I)I"⟩, 10), (⟨"SootMaps", "suspects", "(I)I"⟩, 10), (⟨"SootMaps", "partingFlue", "(I)I"⟩, 10), (⟨"SootMaps", "howManyReach", "(II)I"⟩, 10), (⟨"SootMapsModel", "here", "()I"⟩, 38), (⟨"SootMapsModel", "letterAt", "(I)I"⟩, 38), (⟨"SootMapsModel", "takesClause", "()Z"⟩, 38)]
theorem lw_r2 : ∀ q ∈ lw_privs_2, lw_okq q := List.forall_mem_cons.mpr ⟨lw_p16, List.forall_mem_cons.mpr ⟨lw_p17, List.forall_mem_cons.mpr ⟨lw_p18, List.forall_mem_cons.mpr ⟨lw_p19, List.forall_mem_cons.mpr ⟨lw_p20, List.forall_mem_cons.mpr ⟨lw_p21, List.forall_mem_cons.mpr ⟨lw_p22, List.forall_mem_cons.mpr ⟨lw_p23, List.forall_mem_cons.mpr ⟨lw_p24, List.forall_mem_cons.mpr ⟨lw_p25, List.forall_mem_cons.mpr ⟨lw_p26, List.forall_mem_cons.mpr ⟨lw_p27, List.forall_mem_cons.mpr ⟨lw_p28, List.forall_mem_cons.mpr ⟨lw_p29, List.forall_mem_cons.mpr ⟨lw_p30, List.forall_mem_cons.mpr ⟨lw_p31, fun _ h => absurd h List.not_mem_nil⟩⟩⟩⟩⟩⟩⟩⟩⟩⟩⟩⟩⟩⟩⟩⟩
theorem lw_p32 : lw_okq (⟨"SootMapsModel", "fails", "(II)Z"⟩, 38) := ⟨⟨by decide +kernel, by decide +kernel⟩, List.mem_of_getElem? (i := 782) (by decide +kernel), List.mem_of_getElem? (i := 929) (by decide +kernel), List.mem_of_getElem? (i := 930) (by decide +kernel)⟩
theorem lw_p33 : lw_okq (⟨"SootMapsModel", "takesCity", "()Z"⟩, 38) := ⟨⟨by decide +kernel, by decide +kernel⟩, List.mem_of_getElem? (i := 782) (by decide +kernel), List.mem_of_getElem? (i := 933) (by decide +kernel), List.mem_of_getElem? (i := 934) (by decide +kernel)⟩
theorem lw_p34 : lw_okq (⟨"SootMapsModel", "takesNumber", "(II)Z"⟩, 38) := ⟨⟨by decide +kernel, by decide +kernel⟩, List.mem_of_getElem? (i := 782) (by decide +kernel), List.mem_of_getElem? (i := 937) (by decide +kernel), List.mem_of_getElem? (i := 938) (by decide +kernel)⟩
theorem lw_p35 : lw_okq (⟨"SootMapsModel", "takesHouse", "()Z"⟩, 38) := ⟨⟨by decide +kernel, by decide +kernel⟩, List.mem_of_getElem? (i := 782) (by decide +kernel), List.mem_of_getElem? (i := 943) (by decide +kernel), List.mem_of_getElem? (i := 944) (by decide +kernel)⟩
theorem lw_p36 : lw_okq (⟨"SootMapsModel", "takesSweep", "()Z"⟩, 38) := ⟨⟨by decide +kernel, by decide +kernel⟩, List.mem_of_getElem? (i := 782) (by decide +kernel), List.mem_of_getElem? (i := 947) (by decide +kernel), List.mem_of_getElem? (i := 948) (by decide +kernel)⟩
theorem lw_p37 : lw_okq (⟨"SootMapsModel", "takes", "(I)Z"⟩, 38) := ⟨⟨by decide +kernel, by decide +kernel⟩, List.mem_of_getElem? (i := 782) (by decide +kernel), List.mem_of_getElem? (i := 951) (by decide +kernel), List.mem_of_getElem? (i := 952) (by decide +kernel)⟩
theorem lw_p38 : lw_okq (⟨"SootMapsModel", "layersOfAll", "()I"⟩, 38) := ⟨⟨by decide +kernel, by decide +kernel⟩, List.mem_of_getElem? (i := 782) (by decide +kernel), List.mem_of_getElem? (i := 963) (by decide +kernel), List.mem_of_getElem? (i := 964) (by decide +kernel)⟩
theorem lw_p39 : lw_okq (⟨"SootMapsModel", "isHouse", "(I)Z"⟩, 38) := ⟨⟨by decide +kernel, by decide +kernel⟩, List.mem_of_getElem? (i := 782) (by decide +kernel), List.mem_of_getElem? (i := 971) (by decide +kernel), List.mem_of_getElem? (i := 972) (by decide +kernel)⟩
theorem lw_p40 : lw_okq (⟨"SootMapsModel", "newestOf", "(I)I"⟩, 38) := ⟨⟨by decide +kernel, by decide +kernel⟩, List.mem_of_getElem? (i := 782) (by decide +kernel), List.mem_of_getElem? (i := 976) (by decide +kernel), List.mem_of_getElem? (i := 977) (by decide +kernel)⟩
theorem lw_p41 : lw_okq (⟨"SootMapsModel", "layerAt", "(III)I"⟩, 38) := ⟨⟨by decide +kernel, by decide +kernel⟩, List.mem_of_getElem? (i := 782) (by decide +kernel), List.mem_of_getElem? (i := 985) (by decide +kernel), List.mem_of_getElem? (i := 986) (by decide +kernel)⟩
theorem lw_p42 : lw_okq (⟨"SootMapsModel", "isSweep", "(I)Z"⟩, 38) := ⟨⟨by decide +kernel, by decide +kernel⟩, List.mem_of_getElem? (i := 782) (by decide +kernel), List.mem_of_getElem? (i := 993) (by decide +kernel), List.mem_of_getElem? (i := 994) (by decide +kernel)⟩
theorem lw_p43 : lw_okq (⟨"SootMapsModel", "minds", "()V"⟩, 38) := ⟨⟨by decide +kernel, by decide +kernel⟩, List.mem_of_getElem? (i := 782) (by decide +kernel), List.mem_of_getElem? (i := 1004) (by decide +kernel), List.mem_of_getElem? (i := 1005) (by decide +kernel)⟩
theorem lw_p44 : lw_okq (⟨"SootMapsModel", "copy", "(II)V"⟩, 38) := ⟨⟨by decide +kernel, by decide +kernel⟩, List.mem_of_getElem? (i := 782) (by decide +kernel), List.mem_of_getElem? (i := 1008) (by decide +kernel), List.mem_of_getElem? (i := 1009) (by decide +kernel)⟩
theorem lw_p45 : lw_okq (⟨"SootMapsModel", "passes", "(I)V"⟩, 38) := ⟨⟨by decide +kernel, by decide +kernel⟩, List.mem_of_getElem? (i := 782) (by decide +kernel), List.mem_of_getElem? (i := 1012) (by decide +kernel), List.mem_of_getElem? (i := 1013) (by decide +kernel)⟩
theorem lw_p46 : lw_okq (⟨"SootMapsModel", "lays", "(III)V"⟩, 38) := ⟨⟨by decide +kernel, by decide +kernel⟩, List.mem_of_getElem? (i := 782) (by decide +kernel), List.mem_of_getElem? (i := 1016) (by decide +kernel), List.mem_of_getElem? (i := 1017) (by decide +kernel)⟩
theorem lw_p47 : lw_okq (⟨"SootMapsModel", "blownTo", "(I)I"⟩, 38) := ⟨⟨by decide +kernel, by decide +kernel⟩, List.mem_of_getElem? (i := 782) (by decide +kernel), List.mem_of_getElem? (i := 1020) (by decide +kernel), List.mem_of_getElem? (i := 1021) (by decide +kernel)⟩
def lw_privs_3 : List (MethodName × Nat) := [(⟨"SootMapsModel", "fails", "(II)Z"⟩, 38), (⟨"SootMapsModel", "takesCity", "()Z"⟩, 38), (⟨"SootMapsModel", "takesNumber", "(II)Z"⟩, 38), (⟨"SootMapsModel", "takesHouse", "()Z"⟩, 38), (⟨"SootMapsModel", "takesSweep", "()Z"⟩, 38), (⟨"SootMapsModel", "takes", "(I)Z"⟩, 38), (⟨"SootMapsModel", "layersOfAll", "()I"⟩, 38), (⟨"SootMapsModel", "isHouse", "(I)Z"⟩, 38), (⟨"SootMapsModel", "newestOf", "(I)I"⟩, 38), (⟨"SootMapsModel", "layerAt", "(III)I"⟩, 38), (⟨"SootMapsModel", "isSweep", "(I)Z"⟩, 38), (⟨"SootMapsModel", "minds", "()V"⟩, 38), (⟨"SootMapsModel", "copy", "(II)V"⟩, 38), (⟨"SootMapsModel", "passes", "(I)V"⟩, 38), (⟨"SootMapsModel", "lays", "(III)V"⟩, 38), (⟨"SootMapsModel", "blownTo", "(I)I"⟩, 38)]
theorem lw_r3 : ∀ q ∈ lw_privs_3, lw_okq q := List.forall_mem_cons.mpr ⟨lw_p32, List.forall_mem_cons.mpr ⟨lw_p33, List.forall_mem_cons.mpr ⟨lw_p34, List.forall_mem_cons.mpr ⟨lw_p35, List.forall_mem_cons.mpr ⟨lw_p36, List.forall_mem_cons.mpr ⟨lw_p37, List.forall_mem_cons.mpr ⟨lw_p38, List.forall_mem_cons.mpr ⟨lw_p39, List.forall_mem_cons.mpr ⟨lw_p40, List.forall_mem_cons.mpr ⟨lw_p41, List.forall_mem_cons.mpr ⟨lw_p42, List.forall_mem_cons.mpr ⟨lw_p43, List.forall_mem_cons.mpr ⟨lw_p44, List.forall_mem_cons.mpr ⟨lw_p45, List.forall_mem_cons.mpr ⟨lw_p46, List.forall_mem_cons.mpr ⟨lw_p47, fun _ h => absurd h List.not_mem_nil⟩⟩⟩⟩⟩⟩⟩⟩⟩⟩⟩⟩⟩⟩⟩⟩
theorem lw_p48 : lw_okq (⟨"SootMapsModel", "washes", "()I"⟩, 38) := ⟨⟨by decide +kernel, by decide +kernel⟩, List.mem_of_getElem? (i := 782) (by decide +kernel), List.mem_of_getElem? (i := 1032) (by decide +kernel), List.mem_of_getElem? (i := 1033) (by decide +kernel)⟩
theorem lw_p49 : lw_okq (⟨"SootMapsModel", "areTwo", "(II)Z"⟩, 38) := ⟨⟨by decide +kernel, by decide +kernel⟩, List.mem_of_getElem? (i := 782) (by decide +kernel), List.mem_of_getElem? (i := 1049) (by decide +kernel), List.mem_of_getElem? (i := 1050) (by decide +kernel)⟩
theorem lw_p50 : lw_okq (⟨"SootMapsModel", "isKnown", "(II)Z"⟩, 38) := ⟨⟨by decide +kernel, by decide +kernel⟩, List.mem_of_getElem? (i := 782) (by decide +kernel), List.mem_of_getElem? (i := 1053) (by decide +kernel), List.mem_of_getElem? (i := 1054) (by decide +kernel)⟩
theorem lw_p51 : lw_okq (⟨"SootMapsModel", "draw", "(I)I"⟩, 38) := ⟨⟨by decide +kernel, by decide +kernel⟩, List.mem_of_getElem? (i := 782) (by decide +kernel), List.mem_of_getElem? (i := 1068) (by decide +kernel), List.mem_of_getElem? (i := 1069) (by decide +kernel)⟩
theorem lw_p52 : lw_okq (⟨"SootMapsModel", "isSo", "(III)Z"⟩, 38) := ⟨⟨by decide +kernel, by decide +kernel⟩, List.mem_of_getElem? (i := 782) (by decide +kernel), List.mem_of_getElem? (i := 1085) (by decide +kernel), List.mem_of_getElem? (i := 1086) (by decide +kernel)⟩
theorem lw_p53 : lw_okq (⟨"SootMapsModel", "sootOf", "(I)I"⟩, 38) := ⟨⟨by decide +kernel, by decide +kernel⟩, List.mem_of_getElem? (i := 782) (by decide +kernel), List.mem_of_getElem? (i := 1097) (by decide +kernel), List.mem_of_getElem? (i := 1098) (by decide +kernel)⟩
theorem lw_p54 : lw_okq (⟨"SootMapsModel", "heatOf", "(I)I"⟩, 38) := ⟨⟨by decide +kernel, by decide +kernel⟩, List.mem_of_getElem? (i := 782) (by decide +kernel), List.mem_of_getElem? (i := 1101) (by decide +kernel), List.mem_of_getElem? (i := 1102) (by decide +kernel)⟩
theorem lw_p55 : lw_okq (⟨"SootMapsModel", "likeOf", "(I)I"⟩, 38) := ⟨⟨by decide +kernel, by decide +kernel⟩, List.mem_of_getElem? (i := 782) (by decide +kernel), List.mem_of_getElem? (i := 1105) (by decide +kernel), List.mem_of_getElem? (i := 1106) (by decide +kernel)⟩
theorem lw_p56 : lw_okq (⟨"SootMapsModel", "findTrade", "(II)I"⟩, 38) := ⟨⟨by decide +kernel, by decide +kernel⟩, List.mem_of_getElem? (i := 782) (by decide +kernel), List.mem_of_getElem? (i := 1113) (by decide +kernel), List.mem_of_getElem? (i := 1114) (by decide +kernel)⟩
theorem lw_p57 : lw_okq (⟨"SootMapsModel", "moreOf", "(II)I"⟩, 38) := ⟨⟨by decide +kernel, by decide +kernel⟩, List.mem_of_getElem? (i := 782) (by decide +kernel), List.mem_of_getElem? (i := 1118) (by decide +kernel), List.mem_of_getElem? (i := 1119) (by decide +kernel)⟩
theorem lw_p58 : lw_okq (⟨"SootMapsModel", "isRing", "(II)Z"⟩, 38) := ⟨⟨by decide +kernel, by decide +kernel⟩, List.mem_of_getElem? (i := 782) (by decide +kernel), List.mem_of_getElem? (i := 1129) (by decide +kernel), List.mem_of_getElem? (i := 1130) (by decide +kernel)⟩
theorem lw_p59 : lw_okq (⟨"SootMapsModel", "canGive", "(II)Z"⟩, 38) := ⟨⟨by decide +kernel, by decide +kernel⟩, List.mem_of_getElem? (i := 782) (by decide +kernel), List.mem_of_getElem? (i := 1133) (by decide +kernel), List.mem_of_getElem? (i := 1134) (by decide +kernel)⟩
def lw_privs_4 : List (MethodName × Nat) := [(⟨"SootMapsModel", "washes", "()I"⟩, 38), (⟨"SootMapsModel", "areTwo", "(II)Z"⟩, 38), (⟨"SootMapsModel", "isKnown", "(II)Z"⟩, 38), (⟨"SootMapsModel", "draw", "(I)I"⟩, 38), (⟨"SootMapsModel", "isSo", "(III)Z"⟩, 38), (⟨"SootMapsModel", "sootOf", "(I)I"⟩, 38), (⟨"SootMapsModel", "heatOf", "(I)I"⟩, 38), (⟨"SootMapsModel", "likeOf", "(I)I"⟩, 38), (⟨"SootMapsModel", "findTrade", "(II)I"⟩, 38), (⟨"SootMapsModel", "moreOf", "(II)I"⟩, 38), (⟨"SootMapsModel", "isRing", "(II)Z"⟩, 38), (⟨"SootMapsModel", "canGive", "(II)Z"⟩, 38)]
theorem lw_r4 : ∀ q ∈ lw_privs_4, lw_okq q := List.forall_mem_cons.mpr ⟨lw_p48, List.forall_mem_cons.mpr ⟨lw_p49, List.forall_mem_cons.mpr ⟨lw_p50, List.forall_mem_cons.mpr ⟨lw_p51, List.forall_mem_cons.mpr ⟨lw_p52, List.forall_mem_cons.mpr ⟨lw_p53, List.forall_mem_cons.mpr ⟨lw_p54, List.forall_mem_cons.mpr ⟨lw_p55, List.forall_mem_cons.mpr ⟨lw_p56, List.forall_mem_cons.mpr ⟨lw_p57, List.forall_mem_cons.mpr ⟨lw_p58, List.forall_mem_cons.mpr ⟨lw_p59, fun _ h => absurd h List.not_mem_nil⟩⟩⟩⟩⟩⟩⟩⟩⟩⟩⟩⟩
def lw_privs : List (MethodName × Nat) := lw_privs_1 ++ (lw_privs_2 ++ (lw_privs_3 ++ (lw_privs_4)))
def lw_tbl : List Cond := k2_sels lw_privs ++ tables_1
theorem lw_privs_ok : ∀ q ∈ lw_privs, lw_okq q := by
  show ∀ q ∈ lw_privs_1 ++ (lw_privs_2 ++ (lw_privs_3 ++ (lw_privs_4))), lw_okq q
  exact List.forall_mem_append.mpr ⟨lw_r1, List.forall_mem_append.mpr ⟨lw_r2, List.forall_mem_append.mpr ⟨lw_r3, lw_r4⟩⟩⟩

def RX0 : String := "SootMaps$Bargain"
def TX0 : u_T := fun k => match k with
  | 0 => ("SootMaps$Bargain", "needed", "[I", true)
  | 1 => ("SootMaps$Bargain", "givers", "[I", true)
  | 2 => ("SootMaps$Bargain", "swaps", "[I", true)
  | 3 => ("SootMaps$Bargain", "stride", "[I", true)
  | 4 => ("SootMaps$Bargain", "spent", "[I", true)
  | 5 => ("SootMaps$Bargain", "cost", "[I", true)
  | 6 => ("SootMaps$Bargain", "needs", "I", false)
  | _ => ("SootMaps$Bargain", "tallies", "I", false)
def tyX0 : Nat → FieldType := fun k => match k with
  | 0 => .array .int
  | 1 => .array .int
  | 2 => .array .int
  | 3 => .array .int
  | 4 => .array .int
  | 5 => .array .int
  | 6 => .int
  | _ => .int
theorem nmX0 : ∀ a, a < 8 → ∀ b, b < 8 → a ≠ b → (TX0 a).2.1 ≠ (TX0 b).2.1 := by decide +kernel
theorem tyX0_ok : ∀ k, k < 8 → parseFieldDescriptor (TX0 k).2.2.1 = some (tyX0 k) := by decide +kernel
def RX1 : String := "SootMaps$Book"
def TX1 : u_T := fun k => match k with
  | 0 => ("SootMaps$Book", "flue", "[I", true)
  | 1 => ("SootMaps$Book", "kind", "[I", true)
  | _ => ("SootMaps$Book", "count", "I", false)
def tyX1 : Nat → FieldType := fun k => match k with
  | 0 => .array .int
  | 1 => .array .int
  | _ => .int
theorem nmX1 : ∀ a, a < 3 → ∀ b, b < 3 → a ≠ b → (TX1 a).2.1 ≠ (TX1 b).2.1 := by decide +kernel
theorem tyX1_ok : ∀ k, k < 3 → parseFieldDescriptor (TX1 k).2.2.1 = some (tyX1 k) := by decide +kernel
def RX2 : String := "SootMaps$Images"
def TX2 : u_T := fun k => match k with
  | 0 => ("SootMaps$Images", "kept", "[LSootMaps$Streets;", true)
  | 1 => ("SootMaps$Images", "dice", "[I", true)
  | _ => ("SootMaps$Images", "isKept", "[Z", true)
def tyX2 : Nat → FieldType := fun k => match k with
  | 0 => .array (.object "SootMaps$Streets")
  | 1 => .array .int
  | _ => .array .boolean
theorem nmX2 : ∀ a, a < 3 → ∀ b, b < 3 → a ≠ b → (TX2 a).2.1 ≠ (TX2 b).2.1 := by decide +kernel
theorem tyX2_ok : ∀ k, k < 3 → parseFieldDescriptor (TX2 k).2.2.1 = some (tyX2 k) := by decide +kernel
def RX3 : String := "SootMaps$Past"
def TX3 : u_T := fun k => match k with
  | 0 => ("SootMaps$Past", "ahead", "[LSootMaps$Streets;", true)
  | 1 => ("SootMaps$Past", "newest", "I", false)
  | _ => ("SootMaps$Past", "count", "I", false)
def tyX3 : Nat → FieldType := fun k => match k with
  | 0 => .array (.object "SootMaps$Streets")
  | 1 => .int
  | _ => .int
theorem nmX3 : ∀ a, a < 3 → ∀ b, b < 3 → a ≠ b → (TX3 a).2.1 ≠ (TX3 b).2.1 := by decide +kernel
theorem tyX3_ok : ∀ k, k < 3 → parseFieldDescriptor (TX3 k).2.2.1 = some (tyX3 k) := by decide +kernel
def RX4 : String := "SootMaps$Plan"
def TX4 : u_T := fun k => match k with
  | 0 => ("SootMaps$Plan", "isTold", "Z", false)
  | 1 => ("SootMaps$Plan", "wind", "I", false)
  | 2 => ("SootMaps$Plan", "wash", "I", false)
  | 3 => ("SootMaps$Plan", "houses", "I", false)
  | 4 => ("SootMaps$Plan", "sweeps", "I", false)
  | 5 => ("SootMaps$Plan", "into", "[I", true)
  | 6 => ("SootMaps$Plan", "burns", "[I", true)
  | 7 => ("SootMaps$Plan", "knows", "[I", true)
  | _ => ("SootMaps$Plan", "price", "[I", true)
def tyX4 : Nat → FieldType := fun k => match k with
  | 0 => .boolean
  | 1 => .int
  | 2 => .int
  | 3 => .int
  | 4 => .int
  | 5 => .array .int
  | 6 => .array .int
  | 7 => .array .int
  | _ => .array .int
theorem nmX4 : ∀ a, a < 9 → ∀ b, b < 9 → a ≠ b → (TX4 a).2.1 ≠ (TX4 b).2.1 := by decide +kernel
theorem tyX4_ok : ∀ k, k < 9 → parseFieldDescriptor (TX4 k).2.2.1 = some (tyX4 k) := by decide +kernel
def RX5 : String := "SootMaps$Rows"
def TX5 : u_T := fun k => match k with
  | 0 => ("SootMaps$Rows", "heap", "[I", true)
  | 1 => ("SootMaps$Rows", "heapLayers", "[I", true)
  | _ => ("SootMaps$Rows", "sought", "I", false)
def tyX5 : Nat → FieldType := fun k => match k with
  | 0 => .array .int
  | 1 => .array .int
  | _ => .int
theorem nmX5 : ∀ a, a < 3 → ∀ b, b < 3 → a ≠ b → (TX5 a).2.1 ≠ (TX5 b).2.1 := by decide +kernel
theorem tyX5_ok : ∀ k, k < 3 → parseFieldDescriptor (TX5 k).2.2.1 = some (tyX5 k) := by decide +kernel
def RX6 : String := "SootMaps$Sights"
def TX6 : u_T := fun k => match k with
  | 0 => ("SootMaps$Sights", "flue", "[I", true)
  | 1 => ("SootMaps$Sights", "kind", "[I", true)
  | 2 => ("SootMaps$Sights", "was", "[Z", true)
  | _ => ("SootMaps$Sights", "count", "I", false)
def tyX6 : Nat → FieldType := fun k => match k with
  | 0 => .array .int
  | 1 => .array .int
  | 2 => .array .boolean
  | _ => .int
theorem nmX6 : ∀ a, a < 4 → ∀ b, b < 4 → a ≠ b → (TX6 a).2.1 ≠ (TX6 b).2.1 := by decide +kernel
theorem tyX6_ok : ∀ k, k < 4 → parseFieldDescriptor (TX6 k).2.2.1 = some (tyX6 k) := by decide +kernel
def RX7 : String := "SootMaps$Soot"
def TX7 : u_T := fun k => match k with
  | _ => ("", "", "", false)
def tyX7 : Nat → FieldType := fun k => match k with
  | _ => .int
theorem nmX7 : ∀ a, a < 0 → ∀ b, b < 0 → a ≠ b → (TX7 a).2.1 ≠ (TX7 b).2.1 := by decide +kernel
theorem tyX7_ok : ∀ k, k < 0 → parseFieldDescriptor (TX7 k).2.2.1 = some (tyX7 k) := by decide +kernel
def RX8 : String := "SootMaps$Streets"
def TX8 : u_T := fun k => match k with
  | 0 => ("SootMaps$Streets", "flue", "[I", true)
  | 1 => ("SootMaps$Streets", "burns", "[I", true)
  | 2 => ("SootMaps$Streets", "into", "[I", true)
  | 3 => ("SootMaps$Streets", "knows", "[I", true)
  | 4 => ("SootMaps$Streets", "purse", "[I", true)
  | 5 => ("SootMaps$Streets", "months", "I", false)
  | _ => ("SootMaps$Streets", "paid", "I", false)
def tyX8 : Nat → FieldType := fun k => match k with
  | 0 => .array .int
  | 1 => .array .int
  | 2 => .array .int
  | 3 => .array .int
  | 4 => .array .int
  | 5 => .int
  | _ => .int
theorem nmX8 : ∀ a, a < 7 → ∀ b, b < 7 → a ≠ b → (TX8 a).2.1 ≠ (TX8 b).2.1 := by decide +kernel
theorem tyX8_ok : ∀ k, k < 7 → parseFieldDescriptor (TX8 k).2.2.1 = some (tyX8 k) := by decide +kernel
def RX9 : String := "SootMaps$Text"
def TX9 : u_T := fun k => match k with
  | 0 => ("SootMaps$Text", "letters", "[C", true)
  | 1 => ("SootMaps$Text", "draft", "LSootMaps$Plan;", true)
  | 2 => ("SootMaps$Text", "length", "I", false)
  | 3 => ("SootMaps$Text", "at", "I", false)
  | 4 => ("SootMaps$Text", "fault", "I", false)
  | _ => ("SootMaps$Text", "faultAt", "I", false)
def tyX9 : Nat → FieldType := fun k => match k with
  | 0 => .array .char
  | 1 => .object "SootMaps$Plan"
  | 2 => .int
  | 3 => .int
  | 4 => .int
  | _ => .int
theorem nmX9 : ∀ a, a < 6 → ∀ b, b < 6 → a ≠ b → (TX9 a).2.1 ≠ (TX9 b).2.1 := by decide +kernel
theorem tyX9_ok : ∀ k, k < 6 → parseFieldDescriptor (TX9 k).2.2.1 = some (tyX9 k) := by decide +kernel
def RX10 : String := "SootMaps"
def TX10 : u_T := fun k => match k with
  | 0 => ("SootMaps", "text", "LSootMaps$Text;", true)
  | 1 => ("SootMaps", "plan", "LSootMaps$Plan;", true)
  | 2 => ("SootMaps", "now", "LSootMaps$Streets;", true)
  | 3 => ("SootMaps", "past", "LSootMaps$Past;", true)
  | 4 => ("SootMaps", "images", "LSootMaps$Images;", true)
  | 5 => ("SootMaps", "sights", "LSootMaps$Sights;", true)
  | 6 => ("SootMaps", "book", "LSootMaps$Book;", true)
  | 7 => ("SootMaps", "rows", "LSootMaps$Rows;", true)
  | 8 => ("SootMaps", "bargain", "LSootMaps$Bargain;", true)
  | _ => ("SootMaps", "dice", "I", false)
def tyX10 : Nat → FieldType := fun k => match k with
  | 0 => .object "SootMaps$Text"
  | 1 => .object "SootMaps$Plan"
  | 2 => .object "SootMaps$Streets"
  | 3 => .object "SootMaps$Past"
  | 4 => .object "SootMaps$Images"
  | 5 => .object "SootMaps$Sights"
  | 6 => .object "SootMaps$Book"
  | 7 => .object "SootMaps$Rows"
  | 8 => .object "SootMaps$Bargain"
  | _ => .int
theorem nmX10 : ∀ a, a < 10 → ∀ b, b < 10 → a ≠ b → (TX10 a).2.1 ≠ (TX10 b).2.1 := by decide +kernel
theorem tyX10_ok : ∀ k, k < 10 → parseFieldDescriptor (TX10 k).2.2.1 = some (tyX10 k) := by decide +kernel
def RX11 : String := "SootMapsModel"
def TX11 : u_T := fun k => match k with
  | 0 => ("SootMapsModel", "w", "[I", true)
  | 1 => ("SootMapsModel", "isKept", "[Z", true)
  | 2 => ("SootMapsModel", "undoes", "I", false)
  | 3 => ("SootMapsModel", "isCity", "Z", false)
  | 4 => ("SootMapsModel", "wind", "I", false)
  | 5 => ("SootMapsModel", "rains", "I", false)
  | 6 => ("SootMapsModel", "houses", "I", false)
  | 7 => ("SootMapsModel", "sweeps", "I", false)
  | 8 => ("SootMapsModel", "price", "[I", true)
  | 9 => ("SootMapsModel", "text", "[I", true)
  | 10 => ("SootMapsModel", "texted", "I", false)
  | 11 => ("SootMapsModel", "at", "I", false)
  | 12 => ("SootMapsModel", "start", "I", false)
  | 13 => ("SootMapsModel", "number", "I", false)
  | 14 => ("SootMapsModel", "faulty", "I", false)
  | 15 => ("SootMapsModel", "faultAt", "I", false)
  | 16 => ("SootMapsModel", "hasCity", "Z", false)
  | 17 => ("SootMapsModel", "readWind", "I", false)
  | 18 => ("SootMapsModel", "readRains", "I", false)
  | 19 => ("SootMapsModel", "readHouses", "I", false)
  | 20 => ("SootMapsModel", "readRuns", "[I", true)
  | 21 => ("SootMapsModel", "readBurns", "[I", true)
  | 22 => ("SootMapsModel", "readSweeps", "I", false)
  | 23 => ("SootMapsModel", "readKnows", "[I", true)
  | 24 => ("SootMapsModel", "readPrice", "[I", true)
  | 25 => ("SootMapsModel", "needs", "[I", true)
  | 26 => ("SootMapsModel", "gives", "[I", true)
  | 27 => ("SootMapsModel", "givesBest", "[I", true)
  | 28 => ("SootMapsModel", "costAt", "[I", true)
  | 29 => ("SootMapsModel", "taken", "[I", true)
  | 30 => ("SootMapsModel", "row", "[I", true)
  | 31 => ("SootMapsModel", "seen", "I", false)
  | 32 => ("SootMapsModel", "seenOf", "[I", true)
  | 33 => ("SootMapsModel", "seenKind", "[I", true)
  | 34 => ("SootMapsModel", "seenIs", "[Z", true)
  | 35 => ("SootMapsModel", "booked", "I", false)
  | 36 => ("SootMapsModel", "bookOf", "[I", true)
  | _ => ("SootMapsModel", "bookKind", "[I", true)
def tyX11 : Nat → FieldType := fun k => match k with
  | 0 => .array .int
  | 1 => .array .boolean
  | 2 => .int
  | 3 => .boolean
  | 4 => .int
  | 5 => .int
  | 6 => .int
  | 7 => .int
  | 8 => .array .int
  | 9 => .array .int
  | 10 => .int
  | 11 => .int
  | 12 => .int
  | 13 => .int
  | 14 => .int
  | 15 => .int
  | 16 => .boolean
  | 17 => .int
  | 18 => .int
  | 19 => .int
  | 20 => .array .int
  | 21 => .array .int
  | 22 => .int
  | 23 => .array .int
  | 24 => .array .int
  | 25 => .array .int
  | 26 => .array .int
  | 27 => .array .int
  | 28 => .array .int
  | 29 => .array .int
  | 30 => .array .int
  | 31 => .int
  | 32 => .array .int
  | 33 => .array .int
  | 34 => .array .boolean
  | 35 => .int
  | 36 => .array .int
  | _ => .array .int
theorem nmX11 : ∀ a, a < 38 → ∀ b, b < 38 → a ≠ b → (TX11 a).2.1 ≠ (TX11 b).2.1 := by decide +kernel
theorem tyX11_ok : ∀ k, k < 38 → parseFieldDescriptor (TX11 k).2.2.1 = some (tyX11 k) := by decide +kernel
def RJ6 : String := "java/lang/Integer"
def RJ9 : String := "java/lang/Math"
def RJ10 : String := "java/lang/System"
def RL : String := "SootMapsLaw"
abbrev vwCl : List vw_C := [(RX0, TX0, 8), (RX1, TX1, 3), (RX2, TX2, 3), (RX3, TX3, 3), (RX4, TX4, 9), (RX5, TX5, 3), (RX6, TX6, 4), (RX8, TX8, 7), (RX9, TX9, 6), (RX10, TX10, 10), (RX11, TX11, 38)]
