section
-- ===== PART A: goes FIRST, ahead of the names: the tables' words, and 'selects' of the private methods out of them =====
/-- a private method of a class that the tables say can be made, by its rows of tables_1 -/
def lw_okq (q : MethodName × Nat) : Prop := (q.1.cls ≠ "java/lang/invoke/MethodHandle" ∧ q.1.cls ≠ "java/lang/invoke/VarHandle") ∧ Cond.instantiable q.1.cls q.2 ∈ tables_1 ∧ Cond.privateMethod q.1 ∈ tables_1 ∧ Cond.instanceMethod q.1 ∈ tables_1
theorem lw_p0 : lw_okq (⟨"SootMaps$Text", "skipBlanks", "()V"⟩, 6) := ⟨⟨by decide +kernel, by decide +kernel⟩, List.mem_of_getElem? (i := 25) (by decide +kernel), List.mem_of_getElem? (i := 324) (by decide +kernel), List.mem_of_getElem? (i := 325) (by decide +kernel)⟩
theorem lw_p1 : lw_okq (⟨"SootMaps$Text", "letter", "()C"⟩, 6) := ⟨⟨by decide +kernel, by decide +kernel⟩, List.mem_of_getElem? (i := 25) (by decide +kernel), List.mem_of_getElem? (i := 328) (by decide +kernel), List.mem_of_getElem? (i := 329) (by decide +kernel)⟩
theorem lw_p2 : lw_okq (⟨"SootMaps$Text", "readClause", "()V"⟩, 6) := ⟨⟨by decide +kernel, by decide +kernel⟩, List.mem_of_getElem? (i := 25) (by decide +kernel), List.mem_of_getElem? (i := 332) (by decide +kernel), List.mem_of_getElem? (i := 333) (by decide +kernel)⟩
theorem lw_p3 : lw_okq (⟨"SootMaps$Text", "mayBegin", "(C)Z"⟩, 6) := ⟨⟨by decide +kernel, by decide +kernel⟩, List.mem_of_getElem? (i := 25) (by decide +kernel), List.mem_of_getElem? (i := 336) (by decide +kernel), List.mem_of_getElem? (i := 337) (by decide +kernel)⟩
theorem lw_p4 : lw_okq (⟨"SootMaps$Text", "fail", "(II)V"⟩, 6) := ⟨⟨by decide +kernel, by decide +kernel⟩, List.mem_of_getElem? (i := 25) (by decide +kernel), List.mem_of_getElem? (i := 340) (by decide +kernel), List.mem_of_getElem? (i := 341) (by decide +kernel)⟩
theorem lw_p5 : lw_okq (⟨"SootMaps$Text", "isOneTooMany", "(C)Z"⟩, 6) := ⟨⟨by decide +kernel, by decide +kernel⟩, List.mem_of_getElem? (i := 25) (by decide +kernel), List.mem_of_getElem? (i := 344) (by decide +kernel), List.mem_of_getElem? (i := 345) (by decide +kernel)⟩
theorem lw_p6 : lw_okq (⟨"SootMaps$Text", "readNumbersOf", "(C)V"⟩, 6) := ⟨⟨by decide +kernel, by decide +kernel⟩, List.mem_of_getElem? (i := 25) (by decide +kernel), List.mem_of_getElem? (i := 348) (by decide +kernel), List.mem_of_getElem? (i := 349) (by decide +kernel)⟩
theorem lw_p7 : lw_okq (⟨"SootMaps$Text", "readFirst", "(C)I"⟩, 6) := ⟨⟨by decide +kernel, by decide +kernel⟩, List.mem_of_getElem? (i := 25) (by decide +kernel), List.mem_of_getElem? (i := 352) (by decide +kernel), List.mem_of_getElem? (i := 353) (by decide +kernel)⟩
theorem lw_p8 : lw_okq (⟨"SootMaps$Text", "readNumber", "(I)I"⟩, 6) := ⟨⟨by decide +kernel, by decide +kernel⟩, List.mem_of_getElem? (i := 25) (by decide +kernel), List.mem_of_getElem? (i := 356) (by decide +kernel), List.mem_of_getElem? (i := 357) (by decide +kernel)⟩
theorem lw_p9 : lw_okq (⟨"SootMaps$Text", "readEnd", "()V"⟩, 6) := ⟨⟨by decide +kernel, by decide +kernel⟩, List.mem_of_getElem? (i := 25) (by decide +kernel), List.mem_of_getElem? (i := 363) (by decide +kernel), List.mem_of_getElem? (i := 364) (by decide +kernel)⟩
theorem lw_p10 : lw_okq (⟨"SootMaps", "isHouse", "(I)Z"⟩, 10) := ⟨⟨by decide +kernel, by decide +kernel⟩, List.mem_of_getElem? (i := 17) (by decide +kernel), List.mem_of_getElem? (i := 421) (by decide +kernel), List.mem_of_getElem? (i := 422) (by decide +kernel)⟩
theorem lw_p11 : lw_okq (⟨"SootMaps", "isSweep", "(I)Z"⟩, 10) := ⟨⟨by decide +kernel, by decide +kernel⟩, List.mem_of_getElem? (i := 17) (by decide +kernel), List.mem_of_getElem? (i := 442) (by decide +kernel), List.mem_of_getElem? (i := 443) (by decide +kernel)⟩
theorem lw_p12 : lw_okq (⟨"SootMaps", "refusalOfMonths", "(I)I"⟩, 10) := ⟨⟨by decide +kernel, by decide +kernel⟩, List.mem_of_getElem? (i := 17) (by decide +kernel), List.mem_of_getElem? (i := 451) (by decide +kernel), List.mem_of_getElem? (i := 452) (by decide +kernel)⟩
theorem lw_p13 : lw_okq (⟨"SootMaps$Streets", "burnIn", "(ILSootMaps$Plan;)V"⟩, 7) := ⟨⟨by decide +kernel, by decide +kernel⟩, List.mem_of_getElem? (i := 109) (by decide +kernel), List.mem_of_getElem? (i := 475) (by decide +kernel), List.mem_of_getElem? (i := 476) (by decide +kernel)⟩
theorem lw_p14 : lw_okq (⟨"SootMaps", "areTwoSweeps", "(II)Z"⟩, 10) := ⟨⟨by decide +kernel, by decide +kernel⟩, List.mem_of_getElem? (i := 17) (by decide +kernel), List.mem_of_getElem? (i := 515) (by decide +kernel), List.mem_of_getElem? (i := 516) (by decide +kernel)⟩
theorem lw_p15 : lw_okq (⟨"SootMaps", "passDrawnMonth", "()V"⟩, 10) := ⟨⟨by decide +kernel, by decide +kernel⟩, List.mem_of_getElem? (i := 17) (by decide +kernel), List.mem_of_getElem? (i := 535) (by decide +kernel), List.mem_of_getElem? (i := 536) (by decide +kernel)⟩
def lw_privs_1 : List (MethodName × Nat) := [(⟨"SootMaps$Text", "skipBlanks", "()V"⟩, 6), (⟨"SootMaps$Text", "letter", "()C"⟩, 6), (⟨"SootMaps$Text", "readClause", "()V"⟩, 6), (⟨"SootMaps$Text", "mayBegin", "(C)Z"⟩, 6), (⟨"SootMaps$Text", "fail", "(II)V"⟩, 6), (⟨"SootMaps$Text", "isOneTooMany", "(C)Z"⟩, 6), (⟨"SootMaps$Text", "readNumbersOf", "(C)V"⟩, 6), (⟨"SootMaps$Text", "readFirst", "(C)I"⟩, 6), (⟨"SootMaps$Text", "readNumber", "(I)I"⟩, 6), (⟨"SootMaps$Text", "readEnd", "()V"⟩, 6), (⟨"SootMaps", "isHouse", "(I)Z"⟩, 10), (⟨"SootMaps", "isSweep", "(I)Z"⟩, 10), (⟨"SootMaps", "refusalOfMonths", "(I)I"⟩, 10), (⟨"SootMaps$Streets", "burnIn", "(ILSootMaps$Plan;)V"⟩, 7), (⟨"SootMaps", "areTwoSweeps", "(II)Z"⟩, 10), (⟨"SootMaps", "passDrawnMonth", "()V"⟩, 10)]
theorem lw_r1 : ∀ q ∈ lw_privs_1, lw_okq q := List.forall_mem_cons.mpr ⟨lw_p0, List.forall_mem_cons.mpr ⟨lw_p1, List.forall_mem_cons.mpr ⟨lw_p2, List.forall_mem_cons.mpr ⟨lw_p3, List.forall_mem_cons.mpr ⟨lw_p4, List.forall_mem_cons.mpr ⟨lw_p5, List.forall_mem_cons.mpr ⟨lw_p6, List.forall_mem_cons.mpr ⟨lw_p7, List.forall_mem_cons.mpr ⟨lw_p8, List.forall_mem_cons.mpr ⟨lw_p9, List.forall_mem_cons.mpr ⟨lw_p10, List.forall_mem_cons.mpr ⟨lw_p11, List.forall_mem_cons.mpr ⟨lw_p12, List.forall_mem_cons.mpr ⟨lw_p13, List.forall_mem_cons.mpr ⟨lw_p14, List.forall_mem_cons.mpr ⟨lw_p15, fun _ h => absurd h List.not_mem_nil⟩⟩⟩⟩⟩⟩⟩⟩⟩⟩⟩⟩⟩⟩⟩⟩
theorem lw_p16 : lw_okq (⟨"SootMaps", "draw", "(I)I"⟩, 10) := ⟨⟨by decide +kernel, by decide +kernel⟩, List.mem_of_getElem? (i := 17) (by decide +kernel), List.mem_of_getElem? (i := 539) (by decide +kernel), List.mem_of_getElem? (i := 540) (by decide +kernel)⟩
theorem lw_p17 : lw_okq (⟨"SootMaps$Rows", "addToHeap", "(III)V"⟩, 3) := ⟨⟨by decide +kernel, by decide +kernel⟩, List.mem_of_getElem? (i := 224) (by decide +kernel), List.mem_of_getElem? (i := 567) (by decide +kernel), List.mem_of_getElem? (i := 568) (by decide +kernel)⟩
theorem lw_p18 : lw_okq (⟨"SootMaps$Rows", "fits", "(II)Z"⟩, 3) := ⟨⟨by decide +kernel, by decide +kernel⟩, List.mem_of_getElem? (i := 224) (by decide +kernel), List.mem_of_getElem? (i := 579) (by decide +kernel), List.mem_of_getElem? (i := 580) (by decide +kernel)⟩
theorem lw_p19 : lw_okq (⟨"SootMaps$Bargain", "listNeeds", "(IILSootMaps$Streets;LSootMaps$Plan;)V"⟩, 8) := ⟨⟨by decide +kernel, by decide +kernel⟩, List.mem_of_getElem? (i := 240) (by decide +kernel), List.mem_of_getElem? (i := 626) (by decide +kernel), List.mem_of_getElem? (i := 627) (by decide +kernel)⟩
theorem lw_p20 : lw_okq (⟨"SootMaps$Bargain", "listTallies", "(IILSootMaps$Streets;LSootMaps$Plan;)V"⟩, 8) := ⟨⟨by decide +kernel, by decide +kernel⟩, List.mem_of_getElem? (i := 240) (by decide +kernel), List.mem_of_getElem? (i := 634) (by decide +kernel), List.mem_of_getElem? (i := 635) (by decide +kernel)⟩
theorem lw_p21 : lw_okq (⟨"SootMaps$Bargain", "countCosts", "(ILSootMaps$Plan;)V"⟩, 8) := ⟨⟨by decide +kernel, by decide +kernel⟩, List.mem_of_getElem? (i := 240) (by decide +kernel), List.mem_of_getElem? (i := 645) (by decide +kernel), List.mem_of_getElem? (i := 646) (by decide +kernel)⟩
theorem lw_p22 : lw_okq (⟨"SootMaps$Bargain", "cheapestGiver", "(IILSootMaps$Plan;)I"⟩, 8) := ⟨⟨by decide +kernel, by decide +kernel⟩, List.mem_of_getElem? (i := 240) (by decide +kernel), List.mem_of_getElem? (i := 649) (by decide +kernel), List.mem_of_getElem? (i := 650) (by decide +kernel)⟩
theorem lw_p23 : lw_okq (⟨"SootMaps$Bargain", "costBy", "(IIILSootMaps$Plan;)I"⟩, 8) := ⟨⟨by decide +kernel, by decide +kernel⟩, List.mem_of_getElem? (i := 240) (by decide +kernel), List.mem_of_getElem? (i := 653) (by decide +kernel), List.mem_of_getElem? (i := 654) (by decide +kernel)⟩
theorem lw_p24 : lw_okq (⟨"SootMaps$Bargain", "isFree", "(II)Z"⟩, 8) := ⟨⟨by decide +kernel, by decide +kernel⟩, List.mem_of_getElem? (i := 240) (by decide +kernel), List.mem_of_getElem? (i := 657) (by decide +kernel), List.mem_of_getElem? (i := 658) (by decide +kernel)⟩
theorem lw_p25 : lw_okq (⟨"SootMaps", "mostFeared", "(I)I"⟩, 10) := ⟨⟨by decide +kernel, by decide +kernel⟩, List.mem_of_getElem? (i := 17) (by decide +kernel), List.mem_of_getElem? (i := 691) (by decide +kernel), List.mem_of_getElem? (i := 692) (by decide +kernel)⟩
theorem lw_p26 : lw_okq (⟨"SootMaps", "suspects", "(I)I"⟩, 10) := ⟨⟨by decide +kernel, by decide +kernel⟩, List.mem_of_getElem? (i := 17) (by decide +kernel), List.mem_of_getElem? (i := 716) (by decide +kernel), List.mem_of_getElem? (i := 717) (by decide +kernel)⟩
theorem lw_p27 : lw_okq (⟨"SootMaps", "partingFlue", "(I)I"⟩, 10) := ⟨⟨by decide +kernel, by decide +kernel⟩, List.mem_of_getElem? (i := 17) (by decide +kernel), List.mem_of_getElem? (i := 724) (by decide +kernel), List.mem_of_getElem? (i := 725) (by decide +kernel)⟩
theorem lw_p28 : lw_okq (⟨"SootMaps", "howManyReach", "(II)I"⟩, 10) := ⟨⟨by decide +kernel, by decide +kernel⟩, List.mem_of_getElem? (i := 17) (by decide +kernel), List.mem_of_getElem? (i := 728) (by decide +kernel), List.mem_of_getElem? (i := 729) (by decide +kernel)⟩
theorem lw_p29 : lw_okq (⟨"SootMapsModel", "here", "()I"⟩, 38) := ⟨⟨by decide +kernel, by decide +kernel⟩, List.mem_of_getElem? (i := 782) (by decide +kernel), List.mem_of_getElem? (i := 917) (by decide +kernel), List.mem_of_getElem? (i := 918) (by decide +kernel)⟩
theorem lw_p30 : lw_okq (⟨"SootMapsModel", "letterAt", "(I)I"⟩, 38) := ⟨⟨by decide +kernel, by decide +kernel⟩, List.mem_of_getElem? (i := 782) (by decide +kernel), List.mem_of_getElem? (i := 921) (by decide +kernel), List.mem_of_getElem? (i := 922) (by decide +kernel)⟩
theorem lw_p31 : lw_okq (⟨"SootMapsModel", "takesClause", "()Z"⟩, 38) := ⟨⟨by decide +kernel, by decide +kernel⟩, List.mem_of_getElem? (i := 782) (by decide +kernel), List.mem_of_getElem? (i := 925) (by decide +kernel), List.mem_of_getElem? (i := 926) (by decide +kernel)⟩
def lw_privs_2 : List (MethodName × Nat) := [(⟨"SootMaps", "draw", "(I)I"⟩, 10), (⟨"SootMaps$Rows", "addToHeap", "(III)V"⟩, 3), (⟨"SootMaps$Rows", "fits", "(II)Z"⟩, 3), (⟨"SootMaps$Bargain", "listNeeds", "(IILSootMaps$Streets;LSootMaps$Plan;)V"⟩, 8), (⟨"SootMaps$Bargain", "listTallies", "(IILSootMaps$Streets;LSootMaps$Plan;)V"⟩, 8), (⟨"SootMaps$Bargain", "countCosts", "(ILSootMaps$Plan;)V"⟩, 8), (⟨"SootMaps$Bargain", "cheapestGiver", "(IILSootMaps$Plan;)I"⟩, 8), (⟨"SootMaps$Bargain", "costBy", "(IIILSootMaps$Plan;)I"⟩, 8), (⟨"SootMaps$Bargain", "isFree", "(II)Z"⟩, 8), (⟨"SootMaps", "mostFeared", "(I)I"⟩, 10), (⟨"SootMaps", "suspects", "(I)I"⟩, 10), (⟨"SootMaps", "partingFlue", "(I)I"⟩, 10), (⟨"SootMaps", "howManyReach", "(II)I"⟩, 10), (⟨"SootMapsModel", "here", "()I"⟩, 38), (⟨"SootMapsModel", "letterAt", "(I)I"⟩, 38), (⟨"SootMapsModel", "takesClause", "()Z"⟩, 38)]
theorem lw_r2 : ∀ q ∈ lw_privs_2, lw_okq q := List.forall_mem_cons.mpr ⟨lw_p16, List.forall_mem_cons.mpr ⟨lw_p17, List.forall_mem_cons.mpr ⟨lw_p18, List.forall_mem_cons.mpr ⟨lw_p19, List.forall_mem_cons.mpr ⟨lw_p20, List.forall_mem_cons.mpr ⟨lw_p21, List.forall_mem_cons.mpr ⟨lw_p22, List.forall_mem_cons.mpr ⟨lw_p23, List.forall_mem_cons.mpr ⟨lw_p24, List.forall_mem_cons.mpr ⟨lw_p25, List.forall_mem_cons.mpr ⟨lw_p26, List.forall_mem_cons.mpr ⟨lw_p27, List.forall_mem_cons.mpr ⟨lw_p28, List.forall_mem_cons.mpr ⟨lw_p29, List.forall_mem_cons.mpr ⟨lw_p30, List.forall_mem_cons.mpr ⟨lw_p31, fun _ h => absurd h List.not_mem_nil⟩⟩⟩⟩⟩⟩⟩⟩⟩⟩⟩⟩⟩⟩⟩⟩
theorem lw_p32 : lw_okq (⟨"SootMapsModel", "fails", "(II)Z"⟩, 38) := ⟨⟨by decide +kernel, by decide +kernel⟩, List.mem_of_getElem? (i := 782) (by decide +kernel), List.mem_of_getElem? (i := 929) (by decide +kernel), List.mem_of_getElem? (i := 930) (by decide +kernel)⟩
theorem lw_p33 : lw_okq (⟨"SootMapsModel", "takesCity", "()Z"⟩, 38) := ⟨⟨by decide +kernel, by decide +kernel⟩, List.mem_of_getElem? (i := 782) (by decide +kernel), List.mem_of_getElem? (i := 933) (by decide +kernel), List.mem_of_getElem? (i := 934) (by decide +kernel)⟩
theorem lw_p34 : lw_okq (⟨"SootMapsModel", "takesNumber", "(II)Z"⟩, 38) := ⟨⟨by decide +kernel, by decide +kernel⟩, List.mem_of_getElem? (i := 782) (by decide +kernel), List.mem_of_getElem? (i := 937) (by decide +kernel), List.mem_of_getElem? (i := 938) (by decide +kernel)⟩
theorem lw_p35 : lw_okq (⟨"SootMapsModel", "takesHouse", "()Z"⟩, 38) := ⟨⟨by decide +kernel, by decide +kernel⟩, List.mem_of_getElem? (i := 782) (by decide +kernel), List.mem_of_getElem? (i := 943) (by decide +kernel), List.mem_of_getElem? (i := 944) (by decide +kernel)⟩
theorem lw_p36 : lw_okq (⟨"SootMapsModel", "takesSweep", "()Z"⟩, 38) := ⟨⟨by decide +kernel, by decide +kernel⟩, List.mem_of_getElem? (i := 782) (by decide +kernel), List.mem_of_getElem? (i := 947) (by decide +kernel), List.mem_of_getElem? (i := 948) (by decide +kernel)⟩
theorem lw_p37 : lw_okq (⟨"SootMapsModel", "takes", "(I)Z"⟩, 38) := ⟨⟨by decide +kernel, by decide +kernel⟩, List.mem_of_getElem? (i := 782) (by decide +kernel), List.mem_of_getElem? (i := 951) (by decide +kernel), List.mem_of_getElem? (i := 952) (by decide +kernel)⟩
theorem lw_p38 : lw_okq (⟨"SootMapsModel", "layersOfAll", "()I"⟩, 38) := ⟨⟨by decide +kernel, by decide +kernel⟩, List.mem_of_getElem? (i := 782) (by decide +kernel), List.mem_of_getElem? (i := 963) (by decide +kernel), List.mem_of_getElem? (i := 964) (by decide +kernel)⟩
theorem lw_p39 : lw_okq (⟨"SootMapsModel", "isHouse", "(I)Z"⟩, 38) := ⟨⟨by decide +kernel, by decide +kernel⟩, List.mem_of_getElem? (i := 782) (by decide +kernel), List.mem_of_getElem? (i := 971) (by decide +kernel), List.mem_of_getElem? (i := 972) (by decide +kernel)⟩
theorem lw_p40 : lw_okq (⟨"SootMapsModel", "newestOf", "(I)I"⟩, 38) := ⟨⟨by decide +kernel, by decide +kernel⟩, List.mem_of_getElem? (i := 782) (by decide +kernel), List.mem_of_getElem? (i := 976) (by decide +kernel), List.mem_of_getElem? (i := 977) (by decide +kernel)⟩
theorem lw_p41 : lw_okq (⟨"SootMapsModel", "layerAt", "(III)I"⟩, 38) := ⟨⟨by decide +kernel, by decide +kernel⟩, List.mem_of_getElem? (i := 782) (by decide +kernel), List.mem_of_getElem? (i := 985) (by decide +kernel), List.mem_of_getElem? (i := 986) (by decide +kernel)⟩
theorem lw_p42 : lw_okq (⟨"SootMapsModel", "isSweep", "(I)Z"⟩, 38) := ⟨⟨by decide +kernel, by decide +kernel⟩, List.mem_of_getElem? (i := 782) (by decide +kernel), List.mem_of_getElem? (i := 993) (by decide +kernel), List.mem_of_getElem? (i := 994) (by decide +kernel)⟩
theorem lw_p43 : lw_okq (⟨"SootMapsModel", "minds", "()V"⟩, 38) := ⟨⟨by decide +kernel, by decide +kernel⟩, List.mem_of_getElem? (i := 782) (by decide +kernel), List.mem_of_getElem? (i := 1004) (by decide +kernel), List.mem_of_getElem? (i := 1005) (by decide +kernel)⟩
theorem lw_p44 : lw_okq (⟨"SootMapsModel", "copy", "(II)V"⟩, 38) := ⟨⟨by decide +kernel, by decide +kernel⟩, List.mem_of_getElem? (i := 782) (by decide +kernel), List.mem_of_getElem? (i := 1008) (by decide +kernel), List.mem_of_getElem? (i := 1009) (by decide +kernel)⟩
theorem lw_p45 : lw_okq (⟨"SootMapsModel", "passes", "(I)V"⟩, 38) := ⟨⟨by decide +kernel, by decide +kernel⟩, List.mem_of_getElem? (i := 782) (by decide +kernel), List.mem_of_getElem? (i := 1012) (by decide +kernel), List.mem_of_getElem? (i := 1013) (by decide +kernel)⟩
theorem lw_p46 : lw_okq (⟨"SootMapsModel", "lays", "(III)V"⟩, 38) := ⟨⟨by decide +kernel, by decide +kernel⟩, List.mem_of_getElem? (i := 782) (by decide +kernel), List.mem_of_getElem? (i := 1016) (by decide +kernel), List.mem_of_getElem? (i := 1017) (by decide +kernel)⟩
theorem lw_p47 : lw_okq (⟨"SootMapsModel", "blownTo", "(I)I"⟩, 38) := ⟨⟨by decide +kernel, by decide +kernel⟩, List.mem_of_getElem? (i := 782) (by decide +kernel), List.mem_of_getElem? (i := 1020) (by decide +kernel), List.mem_of_getElem? (i := 1021) (by decide +kernel)⟩
def lw_privs_3 : List (MethodName × Nat) := [(⟨"SootMapsModel", "fails", "(II)Z"⟩, 38), (⟨"SootMapsModel", "takesCity", "()Z"⟩, 38), (⟨"SootMapsModel", "takesNumber", "(II)Z"⟩, 38), (⟨"SootMapsModel", "takesHouse", "()Z"⟩, 38), (⟨"SootMapsModel", "takesSweep", "()Z"⟩, 38), (⟨"SootMapsModel", "takes", "(I)Z"⟩, 38), (⟨"SootMapsModel", "layersOfAll", "()I"⟩, 38), (⟨"SootMapsModel", "isHouse", "(I)Z"⟩, 38), (⟨"SootMapsModel", "newestOf", "(I)I"⟩, 38), (⟨"SootMapsModel", "layerAt", "(III)I"⟩, 38), (⟨"SootMapsModel", "isSweep", "(I)Z"⟩, 38), (⟨"SootMapsModel", "minds", "()V"⟩, 38), (⟨"SootMapsModel", "copy", "(II)V"⟩, 38), (⟨"SootMapsModel", "passes", "(I)V"⟩, 38), (⟨"SootMapsModel", "lays", "(III)V"⟩, 38), (⟨"SootMapsModel", "blownTo", "(I)I"⟩, 38)]
theorem lw_r3 : ∀ q ∈ lw_privs_3, lw_okq q := List.forall_mem_cons.mpr ⟨lw_p32, List.forall_mem_cons.mpr ⟨lw_p33, List.forall_mem_cons.mpr ⟨lw_p34, List.forall_mem_cons.mpr ⟨lw_p35, List.forall_mem_cons.mpr ⟨lw_p36, List.forall_mem_cons.mpr ⟨lw_p37, List.forall_mem_cons.mpr ⟨lw_p38, List.forall_mem_cons.mpr ⟨lw_p39, List.forall_mem_cons.mpr ⟨lw_p40, List.forall_mem_cons.mpr ⟨lw_p41, List.forall_mem_cons.mpr ⟨lw_p42, List.forall_mem_cons.mpr ⟨lw_p43, List.forall_mem_cons.mpr ⟨lw_p44, List.forall_mem_cons.mpr ⟨lw_p45, List.forall_mem_cons.mpr ⟨lw_p46, List.forall_mem_cons.mpr ⟨lw_p47, fun _ h => absurd h List.not_mem_nil⟩⟩⟩⟩⟩⟩⟩⟩⟩⟩⟩⟩⟩⟩⟩⟩
theorem lw_p48 : lw_okq (⟨"SootMapsModel", "washes", "()I"⟩, 38) := ⟨⟨by decide +kernel, by decide +kernel⟩, List.mem_of_getElem? (i := 782) (by decide +kernel), List.mem_of_getElem? (i := 1032) (by decide +kernel), List.mem_of_getElem? (i := 1033) (by decide +kernel)⟩
theorem lw_p49 : lw_okq (⟨"SootMapsModel", "areTwo", "(II)Z"⟩, 38) := ⟨⟨by decide +kernel, by decide +kernel⟩, List.mem_of_getElem? (i := 782) (by decide +kernel), List.mem_of_getElem? (i := 1049) (by decide +kernel), List.mem_of_getElem? (i := 1050) (by decide +kernel)⟩
theorem lw_p50 : lw_okq (⟨"SootMapsModel", "isKnown", "(II)Z"⟩, 38) := ⟨⟨by decide +kernel, by decide +kernel⟩, List.mem_of_getElem? (i := 782) (by decide +kernel), List.mem_of_getElem? (i := 1053) (by decide +kernel), List.mem_of_getElem? (i := 1054) (by decide +kernel)⟩
theorem lw_p51 : lw_okq (⟨"SootMapsModel", "draw", "(I)I"⟩, 38) := ⟨⟨by decide +kernel, by decide +kernel⟩, List.mem_of_getElem? (i := 782) (by decide +kernel), List.mem_of_getElem? (i := 1068) (by decide +kernel), List.mem_of_getElem? (i := 1069) (by decide +kernel)⟩
theorem lw_p52 : lw_okq (⟨"SootMapsModel", "isSo", "(III)Z"⟩, 38) := ⟨⟨by decide +kernel, by decide +kernel⟩, List.mem_of_getElem? (i := 782) (by decide +kernel), List.mem_of_getElem? (i := 1085) (by decide +kernel), List.mem_of_getElem? (i := 1086) (by decide +kernel)⟩
theorem lw_p53 : lw_okq (⟨"SootMapsModel", "sootOf", "(I)I"⟩, 38) := ⟨⟨by decide +kernel, by decide +kernel⟩, List.mem_of_getElem? (i := 782) (by decide +kernel), List.mem_of_getElem? (i := 1097) (by decide +kernel), List.mem_of_getElem? (i := 1098) (by decide +kernel)⟩
theorem lw_p54 : lw_okq (⟨"SootMapsModel", "heatOf", "(I)I"⟩, 38) := ⟨⟨by decide +kernel, by decide +kernel⟩, List.mem_of_getElem? (i := 782) (by decide +kernel), List.mem_of_getElem? (i := 1101) (by decide +kernel), List.mem_of_getElem? (i := 1102) (by decide +kernel)⟩
theorem lw_p55 : lw_okq (⟨"SootMapsModel", "likeOf", "(I)I"⟩, 38) := ⟨⟨by decide +kernel, by decide +kernel⟩, List.mem_of_getElem? (i := 782) (by decide +kernel), List.mem_of_getElem? (i := 1105) (by decide +kernel), List.mem_of_getElem? (i := 1106) (by decide +kernel)⟩
theorem lw_p56 : lw_okq (⟨"SootMapsModel", "findTrade", "(II)I"⟩, 38) := ⟨⟨by decide +kernel, by decide +kernel⟩, List.mem_of_getElem? (i := 782) (by decide +kernel), List.mem_of_getElem? (i := 1113) (by decide +kernel), List.mem_of_getElem? (i := 1114) (by decide +kernel)⟩
theorem lw_p57 : lw_okq (⟨"SootMapsModel", "moreOf", "(II)I"⟩, 38) := ⟨⟨by decide +kernel, by decide +kernel⟩, List.mem_of_getElem? (i := 782) (by decide +kernel), List.mem_of_getElem? (i := 1118) (by decide +kernel), List.mem_of_getElem? (i := 1119) (by decide +kernel)⟩
theorem lw_p58 : lw_okq (⟨"SootMapsModel", "isRing", "(II)Z"⟩, 38) := ⟨⟨by decide +kernel, by decide +kernel⟩, List.mem_of_getElem? (i := 782) (by decide +kernel), List.mem_of_getElem? (i := 1129) (by decide +kernel), List.mem_of_getElem? (i := 1130) (by decide +kernel)⟩
theorem lw_p59 : lw_okq (⟨"SootMapsModel", "canGive", "(II)Z"⟩, 38) := ⟨⟨by decide +kernel, by decide +kernel⟩, List.mem_of_getElem? (i := 782) (by decide +kernel), List.mem_of_getElem? (i := 1133) (by decide +kernel), List.mem_of_getElem? (i := 1134) (by decide +kernel)⟩
def lw_privs_4 : List (MethodName × Nat) := [(⟨"SootMapsModel", "washes", "()I"⟩, 38), (⟨"SootMapsModel", "areTwo", "(II)Z"⟩, 38), (⟨"SootMapsModel", "isKnown", "(II)Z"⟩, 38), (⟨"SootMapsModel", "draw", "(I)I"⟩, 38), (⟨"SootMapsModel", "isSo", "(III)Z"⟩, 38), (⟨"SootMapsModel", "sootOf", "(I)I"⟩, 38), (⟨"SootMapsModel", "heatOf", "(I)I"⟩, 38), (⟨"SootMapsModel", "likeOf", "(I)I"⟩, 38), (⟨"SootMapsModel", "findTrade", "(II)I"⟩, 38), (⟨"SootMapsModel", "moreOf", "(II)I"⟩, 38), (⟨"SootMapsModel", "isRing", "(II)Z"⟩, 38), (⟨"SootMapsModel", "canGive", "(II)Z"⟩, 38)]
theorem lw_r4 : ∀ q ∈ lw_privs_4, lw_okq q := List.forall_mem_cons.mpr ⟨lw_p48, List.forall_mem_cons.mpr ⟨lw_p49, List.forall_mem_cons.mpr ⟨lw_p50, List.forall_mem_cons.mpr ⟨lw_p51, List.forall_mem_cons.mpr ⟨lw_p52, List.forall_mem_cons.mpr ⟨lw_p53, List.forall_mem_cons.mpr ⟨lw_p54, List.forall_mem_cons.mpr ⟨lw_p55, List.forall_mem_cons.mpr ⟨lw_p56, List.forall_mem_cons.mpr ⟨lw_p57, List.forall_mem_cons.mpr ⟨lw_p58, List.forall_mem_cons.mpr ⟨lw_p59, fun _ h => absurd h List.not_mem_nil⟩⟩⟩⟩⟩⟩⟩⟩⟩⟩⟩⟩
def lw_privs : List (MethodName × Nat) := lw_privs_1 ++ (lw_privs_2 ++ (lw_privs_3 ++ (lw_privs_4)))
def lw_tbl : List Cond := k2_sels lw_privs ++ tables_1
theorem lw_privs_ok : ∀ q ∈ lw_privs, lw_okq q := by
  show ∀ q ∈ lw_privs_1 ++ (lw_privs_2 ++ (lw_privs_3 ++ (lw_privs_4))), lw_okq q
  exact List.forall_mem_append.mpr ⟨lw_r1, List.forall_mem_append.mpr ⟨lw_r2, List.forall_mem_append.mpr ⟨lw_r3, lw_r4⟩⟩⟩

def RX0 : String := "SootMaps$Bargain"
def TX0 : u_T := fun k => match k with
  | 0 => ("SootMaps$Bargain", "needed", "[I", true)
  | 1 => ("SootMaps$Bargain", "givers", "[I", true)
  | 2 => ("SootMaps$Bargain", "swaps", "[I", true)
  | 3 => ("SootMaps$Bargain", "stride", "[I", true)
  | 4 => ("SootMaps$Bargain", "spent", "[I", true)
  | 5 => ("SootMaps$Bargain", "cost", "[I", true)
  | 6 => ("SootMaps$Bargain", "needs", "I", false)
  | _ => ("SootMaps$Bargain", "tallies", "I", false)
def tyX0 : Nat → FieldType := fun k => match k with
  | 0 => .array .int
  | 1 => .array .int
  | 2 => .array .int
  | 3 => .array .int
  | 4 => .array .int
  | 5 => .array .int
  | 6 => .int
  | _ => .int
theorem nmX0 : ∀ a, a < 8 → ∀ b, b < 8 → a ≠ b → (TX0 a).2.1 ≠ (TX0 b).2.1 := by decide +kernel
theorem tyX0_ok : ∀ k, k < 8 → parseFieldDescriptor (TX0 k).2.2.1 = some (tyX0 k) := by decide +kernel
def RX1 : String := "SootMaps$Book"
def TX1 : u_T := fun k => match k with
  | 0 => ("SootMaps$Book", "flue", "[I", true)
  | 1 => ("SootMaps$Book", "kind", "[I", true)
  | _ => ("SootMaps$Book", "count", "I", false)
def tyX1 : Nat → FieldType := fun k => match k with
  | 0 => .array .int
  | 1 => .array .int
  | _ => .int
theorem nmX1 : ∀ a, a < 3 → ∀ b, b < 3 → a ≠ b → (TX1 a).2.1 ≠ (TX1 b).2.1 := by decide +kernel
theorem tyX1_ok : ∀ k, k < 3 → parseFieldDescriptor (TX1 k).2.2.1 = some (tyX1 k) := by decide +kernel
def RX2 : String := "SootMaps$Images"
def TX2 : u_T := fun k => match k with
  | 0 => ("SootMaps$Images", "kept", "[LSootMaps$Streets;", true)
  | 1 => ("SootMaps$Images", "dice", "[I", true)
  | _ => ("SootMaps$Images", "isKept", "[Z", true)
def tyX2 : Nat → FieldType := fun k => match k with
  | 0 => .array (.object "SootMaps$Streets")
  | 1 => .array .int
  | _ => .array .boolean
theorem nmX2 : ∀ a, a < 3 → ∀ b, b < 3 → a ≠ b → (TX2 a).2.1 ≠ (TX2 b).2.1 := by decide +kernel
theorem tyX2_ok : ∀ k, k < 3 → parseFieldDescriptor (TX2 k).2.2.1 = some (tyX2 k) := by decide +kernel
def RX3 : String := "SootMaps$Past"
def TX3 : u_T := fun k => match k with
  | 0 => ("SootMaps$Past", "ahead", "[LSootMaps$Streets;", true)
  | 1 => ("SootMaps$Past", "newest", "I", false)
  | _ => ("SootMaps$Past", "count", "I", false)
def tyX3 : Nat → FieldType := fun k => match k with
  | 0 => .array (.object "SootMaps$Streets")
  | 1 => .int
  | _ => .int
theorem nmX3 : ∀ a, a < 3 → ∀ b, b < 3 → a ≠ b → (TX3 a).2.1 ≠ (TX3 b).2.1 := by decide +kernel
theorem tyX3_ok : ∀ k, k < 3 → parseFieldDescriptor (TX3 k).2.2.1 = some (tyX3 k) := by decide +kernel
def RX4 : String := "SootMaps$Plan"
def TX4 : u_T := fun k => match k with
  | 0 => ("SootMaps$Plan", "isTold", "Z", false)
  | 1 => ("SootMaps$Plan", "wind", "I", false)
  | 2 => ("SootMaps$Plan", "wash", "I", false)
  | 3 => ("SootMaps$Plan", "houses", "I", false)
  | 4 => ("SootMaps$Plan", "sweeps", "I", false)
  | 5 => ("SootMaps$Plan", "into", "[I", true)
  | 6 => ("SootMaps$Plan", "burns", "[I", true)
  | 7 => ("SootMaps$Plan", "knows", "[I", true)
  | _ => ("SootMaps$Plan", "price", "[I", true)
def tyX4 : Nat → FieldType := fun k => match k with
  | 0 => .boolean
  | 1 => .int
  | 2 => .int
  | 3 => .int
  | 4 => .int
  | 5 => .array .int
  | 6 => .array .int
  | 7 => .array .int
  | _ => .array .int
theorem nmX4 : ∀ a, a < 9 → ∀ b, b < 9 → a ≠ b → (TX4 a).2.1 ≠ (TX4 b).2.1 := by decide +kernel
theorem tyX4_ok : ∀ k, k < 9 → parseFieldDescriptor (TX4 k).2.2.1 = some (tyX4 k) := by decide +kernel
def RX5 : String := "SootMaps$Rows"
def TX5 : u_T := fun k => match k with
  | 0 => ("SootMaps$Rows", "heap", "[I", true)
  | 1 => ("SootMaps$Rows", "heapLayers", "[I", true)
  | _ => ("SootMaps$Rows", "sought", "I", false)
def tyX5 : Nat → FieldType := fun k => match k with
  | 0 => .array .int
  | 1 => .array .int
  | _ => .int
theorem nmX5 : ∀ a, a < 3 → ∀ b, b < 3 → a ≠ b → (TX5 a).2.1 ≠ (TX5 b).2.1 := by decide +kernel
theorem tyX5_ok : ∀ k, k < 3 → parseFieldDescriptor (TX5 k).2.2.1 = some (tyX5 k) := by decide +kernel
def RX6 : String := "SootMaps$Sights"
def TX6 : u_T := fun k => match k with
  | 0 => ("SootMaps$Sights", "flue", "[I", true)
  | 1 => ("SootMaps$Sights", "kind", "[I", true)
  | 2 => ("SootMaps$Sights", "was", "[Z", true)
  | _ => ("SootMaps$Sights", "count", "I", false)
def tyX6 : Nat → FieldType := fun k => match k with
  | 0 => .array .int
  | 1 => .array .int
  | 2 => .array .boolean
  | _ => .int
theorem nmX6 : ∀ a, a < 4 → ∀ b, b < 4 → a ≠ b → (TX6 a).2.1 ≠ (TX6 b).2.1 := by decide +kernel
theorem tyX6_ok : ∀ k, k < 4 → parseFieldDescriptor (TX6 k).2.2.1 = some (tyX6 k) := by decide +kernel
def RX7 : String := "SootMaps$Soot"
def TX7 : u_T := fun k => match k with
  | _ => ("", "", "", false)
def tyX7 : Nat → FieldType := fun k => match k with
  | _ => .int
theorem nmX7 : ∀ a, a < 0 → ∀ b, b < 0 → a ≠ b → (TX7 a).2.1 ≠ (TX7 b).2.1 := by decide +kernel
theorem tyX7_ok : ∀ k, k < 0 → parseFieldDescriptor (TX7 k).2.2.1 = some (tyX7 k) := by decide +kernel
def RX8 : String := "SootMaps$Streets"
def TX8 : u_T := fun k => match k with
  | 0 => ("SootMaps$Streets", "flue", "[I", true)
  | 1 => ("SootMaps$Streets", "burns", "[I", true)
  | 2 => ("SootMaps$Streets", "into", "[I", true)
  | 3 => ("SootMaps$Streets", "knows", "[I", true)
  | 4 => ("SootMaps$Streets", "purse", "[I", true)
  | 5 => ("SootMaps$Streets", "months", "I", false)
  | _ => ("SootMaps$Streets", "paid", "I", false)
def tyX8 : Nat → FieldType := fun k => match k with
  | 0 => .array .int
  | 1 => .array .int
  | 2 => .array .int
  | 3 => .array .int
  | 4 => .array .int
  | 5 => .int
  | _ => .int
theorem nmX8 : ∀ a, a < 7 → ∀ b, b < 7 → a ≠ b → (TX8 a).2.1 ≠ (TX8 b).2.1 := by decide +kernel
theorem tyX8_ok : ∀ k, k < 7 → parseFieldDescriptor (TX8 k).2.2.1 = some (tyX8 k) := by decide +kernel
def RX9 : String := "SootMaps$Text"
def TX9 : u_T := fun k => match k with
  | 0 => ("SootMaps$Text", "letters", "[C", true)
  | 1 => ("SootMaps$Text", "draft", "LSootMaps$Plan;", true)
  | 2 => ("SootMaps$Text", "length", "I", false)
  | 3 => ("SootMaps$Text", "at", "I", false)
  | 4 => ("SootMaps$Text", "fault", "I", false)
  | _ => ("SootMaps$Text", "faultAt", "I", false)
def tyX9 : Nat → FieldType := fun k => match k with
  | 0 => .array .char
  | 1 => .object "SootMaps$Plan"
  | 2 => .int
  | 3 => .int
  | 4 => .int
  | _ => .int
theorem nmX9 : ∀ a, a < 6 → ∀ b, b < 6 → a ≠ b → (TX9 a).2.1 ≠ (TX9 b).2.1 := by decide +kernel
theorem tyX9_ok : ∀ k, k < 6 → parseFieldDescriptor (TX9 k).2.2.1 = some (tyX9 k) := by decide +kernel
def RX10 : String := "SootMaps"
def TX10 : u_T := fun k => match k with
  | 0 => ("SootMaps", "text", "LSootMaps$Text;", true)
  | 1 => ("SootMaps", "plan", "LSootMaps$Plan;", true)
  | 2 => ("SootMaps", "now", "LSootMaps$Streets;", true)
  | 3 => ("SootMaps", "past", "LSootMaps$Past;", true)
  | 4 => ("SootMaps", "images", "LSootMaps$Images;", true)
  | 5 => ("SootMaps", "sights", "LSootMaps$Sights;", true)
  | 6 => ("SootMaps", "book", "LSootMaps$Book;", true)
  | 7 => ("SootMaps", "rows", "LSootMaps$Rows;", true)
  | 8 => ("SootMaps", "bargain", "LSootMaps$Bargain;", true)
  | _ => ("SootMaps", "dice", "I", false)
def tyX10 : Nat → FieldType := fun k => match k with
  | 0 => .object "SootMaps$Text"
  | 1 => .object "SootMaps$Plan"
  | 2 => .object "SootMaps$Streets"
  | 3 => .object "SootMaps$Past"
  | 4 => .object "SootMaps$Images"
  | 5 => .object "SootMaps$Sights"
  | 6 => .object "SootMaps$Book"
  | 7 => .object "SootMaps$Rows"
  | 8 => .object "SootMaps$Bargain"
  | _ => .int
theorem nmX10 : ∀ a, a < 10 → ∀ b, b < 10 → a ≠ b → (TX10 a).2.1 ≠ (TX10 b).2.1 := by decide +kernel
theorem tyX10_ok : ∀ k, k < 10 → parseFieldDescriptor (TX10 k).2.2.1 = some (tyX10 k) := by decide +kernel
def RX11 : String := "SootMapsModel"
def TX11 : u_T := fun k => match k with
  | 0 => ("SootMapsModel", "w", "[I", true)
  | 1 => ("SootMapsModel", "isKept", "[Z", true)
  | 2 => ("SootMapsModel", "undoes", "I", false)
  | 3 => ("SootMapsModel", "isCity", "Z", false)
  | 4 => ("SootMapsModel", "wind", "I", false)
  | 5 => ("SootMapsModel", "rains", "I", false)
  | 6 => ("SootMapsModel", "houses", "I", false)
  | 7 => ("SootMapsModel", "sweeps", "I", false)
  | 8 => ("SootMapsModel", "price", "[I", true)
  | 9 => ("SootMapsModel", "text", "[I", true)
  | 10 => ("SootMapsModel", "texted", "I", false)
  | 11 => ("SootMapsModel", "at", "I", false)
  | 12 => ("SootMapsModel", "start", "I", false)
  | 13 => ("SootMapsModel", "number", "I", false)
  | 14 => ("SootMapsModel", "faulty", "I", false)
  | 15 => ("SootMapsModel", "faultAt", "I", false)
  | 16 => ("SootMapsModel", "hasCity", "Z", false)
  | 17 => ("SootMapsModel", "readWind", "I", false)
  | 18 => ("SootMapsModel", "readRains", "I", false)
  | 19 => ("SootMapsModel", "readHouses", "I", false)
  | 20 => ("SootMapsModel", "readRuns", "[I", true)
  | 21 => ("SootMapsModel", "readBurns", "[I", true)
  | 22 => ("SootMapsModel", "readSweeps", "I", false)
  | 23 => ("SootMapsModel", "readKnows", "[I", true)
  | 24 => ("SootMapsModel", "readPrice", "[I", true)
  | 25 => ("SootMapsModel", "needs", "[I", true)
  | 26 => ("SootMapsModel", "gives", "[I", true)
  | 27 => ("SootMapsModel", "givesBest", "[I", true)
  | 28 => ("SootMapsModel", "costAt", "[I", true)
  | 29 => ("SootMapsModel", "taken", "[I", true)
  | 30 => ("SootMapsModel", "row", "[I", true)
  | 31 => ("SootMapsModel", "seen", "I", false)
  | 32 => ("SootMapsModel", "seenOf", "[I", true)
  | 33 => ("SootMapsModel", "seenKind", "[I", true)
  | 34 => ("SootMapsModel", "seenIs", "[Z", true)
  | 35 => ("SootMapsModel", "booked", "I", false)
  | 36 => ("SootMapsModel", "bookOf", "[I", true)
  | _ => ("SootMapsModel", "bookKind", "[I", true)
def tyX11 : Nat → FieldType := fun k => match k with
  | 0 => .array .int
  | 1 => .array .boolean
  | 2 => .int
  | 3 => .boolean
  | 4 => .int
  | 5 => .int
  | 6 => .int
  | 7 => .int
  | 8 => .array .int
  | 9 => .array .int
  | 10 => .int
  | 11 => .int
  | 12 => .int
  | 13 => .int
  | 14 => .int
  | 15 => .int
  | 16 => .boolean
  | 17 => .int
  | 18 => .int
  | 19 => .int
  | 20 => .array .int
  | 21 => .array .int
  | 22 => .int
  | 23 => .array .int
  | 24 => .array .int
  | 25 => .array .int
  | 26 => .array .int
  | 27 => .array .int
  | 28 => .array .int
  | 29 => .array .int
  | 30 => .array .int
  | 31 => .int
  | 32 => .array .int
  | 33 => .array .int
  | 34 => .array .boolean
  | 35 => .int
  | 36 => .array .int
  | _ => .array .int
theorem nmX11 : ∀ a, a < 38 → ∀ b, b < 38 → a ≠ b → (TX11 a).2.1 ≠ (TX11 b).2.1 := by decide +kernel
theorem tyX11_ok : ∀ k, k < 38 → parseFieldDescriptor (TX11 k).2.2.1 = some (tyX11 k) := by decide +kernel
def RJ6 : String := "java/lang/Integer"
def RJ9 : String := "java/lang/Math"
def RJ10 : String := "java/lang/System"
def RL : String := "SootMapsLaw"
abbrev vwCl : List vw_C := [(RX0, TX0, 8), (RX1, TX1, 3), (RX2, TX2, 3), (RX3, TX3, 3), (RX4, TX4, 9), (RX5, TX5, 3), (RX6, TX6, 4), (RX8, TX8, 7), (RX9, TX9, 6), (RX10, TX10, 10), (RX11, TX11, 38)]
end
section
/-- a method: name, bytes, locals, answer, own class (a place of mj_names), parameters, kind (0 static, 1 of an object, 2 constructor), frames, words of locals below it -/
abbrev mj_M : Type := MethodName × ByteArray × Nat × Option FieldType × Nat × Nat × Nat × Nat × Nat
def mj_names : List String := ["SootMaps$Bargain", "SootMaps$Book", "SootMaps$Images", "SootMaps$Past", "SootMaps$Plan", "SootMaps$Rows", "SootMaps$Sights", "SootMaps$Streets", "SootMaps$Text", "SootMaps", "SootMapsModel", "SootMaps$Soot", "SootMapsLaw", "java/lang/Integer", "java/lang/Math"]
def mj_meths_0 : List mj_M := [(⟨"SootMaps", "<init>", "()V"⟩, prog_1_method_1_code, 1, none, 9, 0, 2, 3, 61),
  (⟨"SootMaps$Text", "<init>", "()V"⟩, prog_11_method_1_code, 1, none, 8, 0, 2, 2, 40),
  (⟨"SootMaps$Plan", "<init>", "()V"⟩, prog_6_method_1_code, 1, none, 4, 0, 2, 1, 20),
  (⟨"SootMaps$Streets", "<init>", "()V"⟩, prog_10_method_1_code, 1, none, 7, 0, 2, 1, 20),
  (⟨"SootMaps$Past", "<init>", "()V"⟩, prog_5_method_1_code, 2, none, 3, 0, 2, 2, 40),
  (⟨"SootMaps$Images", "<init>", "()V"⟩, prog_4_method_1_code, 2, none, 2, 0, 2, 2, 40),
  (⟨"SootMaps$Sights", "<init>", "()V"⟩, prog_8_method_1_code, 1, none, 6, 0, 2, 1, 20),
  (⟨"SootMaps$Book", "<init>", "()V"⟩, prog_3_method_1_code, 1, none, 1, 0, 2, 1, 20),
  (⟨"SootMaps$Rows", "<init>", "()V"⟩, prog_7_method_1_code, 1, none, 5, 0, 2, 1, 20),
  (⟨"SootMaps$Bargain", "<init>", "()V"⟩, prog_2_method_1_code, 1, none, 0, 0, 2, 1, 20),
  (⟨"SootMaps", "feed", "(I)I"⟩, prog_1_method_2_code, 2, (some .int), 9, 1, 1, 1, 21),
  (⟨"SootMaps$Text", "add", "(C)I"⟩, prog_11_method_2_code, 2, (some .int), 8, 1, 1, 0, 0),
  (⟨"SootMaps", "city", "()I"⟩, prog_1_method_3_code, 1, (some .int), 9, 0, 1, 6, 136),
  (⟨"SootMaps$Text", "readAll", "()V"⟩, prog_11_method_3_code, 2, none, 8, 0, 1, 5, 115),
  (⟨"SootMaps$Plan", "clear", "()V"⟩, prog_6_method_2_code, 1, none, 4, 0, 1, 0, 0),
  (⟨"SootMaps$Text", "skipBlanks", "()V"⟩, prog_11_method_5_code, 2, none, 8, 0, 1, 1, 20),
  (⟨"SootMaps$Text", "letter", "()C"⟩, prog_11_method_4_code, 1, (some .char), 8, 0, 1, 0, 0),
  (⟨"SootMaps$Text", "readClause", "()V"⟩, prog_11_method_7_code, 2, none, 8, 0, 1, 4, 94),
  (⟨"SootMaps$Text", "mayBegin", "(C)Z"⟩, prog_11_method_8_code, 2, (some .boolean), 8, 1, 1, 0, 0),
  (⟨"SootMaps$Text", "fail", "(II)V"⟩, prog_11_method_6_code, 3, none, 8, 2, 1, 0, 0),
  (⟨"SootMaps$Text", "isOneTooMany", "(C)Z"⟩, prog_11_method_9_code, 2, (some .boolean), 8, 1, 1, 0, 0),
  (⟨"SootMaps$Text", "readNumbersOf", "(C)V"⟩, prog_11_method_10_code, 4, none, 8, 1, 1, 3, 71),
  (⟨"SootMaps$Text", "readFirst", "(C)I"⟩, prog_11_method_11_code, 5, (some .int), 8, 1, 1, 2, 47),
  (⟨"SootMaps$Text", "readNumber", "(I)I"⟩, prog_11_method_12_code, 6, (some .int), 8, 1, 1, 1, 22)]
def mj_meths_1 : List mj_M := [(⟨"SootMaps$Text", "isFigure", "(C)Z"⟩, prog_11_method_13_code, 1, (some .boolean), 8, 1, 0, 0, 0),
  (⟨"SootMaps$Text", "readEnd", "()V"⟩, prog_11_method_14_code, 1, none, 8, 0, 1, 2, 41),
  (⟨"SootMaps$Plan", "tellCity", "(II)V"⟩, prog_6_method_4_code, 3, none, 4, 2, 1, 0, 0),
  (⟨"SootMaps$Plan", "tellHouse", "(II)V"⟩, prog_6_method_5_code, 3, none, 4, 2, 1, 0, 0),
  (⟨"SootMaps$Plan", "tellSweep", "(II)V"⟩, prog_6_method_6_code, 3, none, 4, 2, 1, 0, 0),
  (⟨"SootMaps$Plan", "copyFrom", "(LSootMaps$Plan;)V"⟩, prog_6_method_3_code, 2, none, 4, 1, 1, 1, 26),
  (⟨"SootMaps$Streets", "begin", "(LSootMaps$Plan;)V"⟩, prog_10_method_3_code, 3, none, 7, 1, 1, 1, 26),
  (⟨"SootMaps$Past", "forget", "()V"⟩, prog_5_method_2_code, 1, none, 3, 0, 1, 0, 0),
  (⟨"SootMaps$Images", "forget", "()V"⟩, prog_4_method_2_code, 2, none, 2, 0, 1, 0, 0),
  (⟨"SootMaps", "fault", "()I"⟩, prog_1_method_4_code, 1, (some .int), 9, 0, 1, 0, 0),
  (⟨"SootMaps", "told", "(I)I"⟩, prog_1_method_5_code, 2, (some .int), 9, 1, 1, 3, 65),
  (⟨"SootMaps$Streets", "layersOfAll", "()I"⟩, prog_10_method_4_code, 3, (some .int), 7, 0, 1, 2, 43),
  (⟨"SootMaps$Soot", "layers", "(I)I"⟩, prog_9_method_5_code, 3, (some .int), 11, 1, 0, 1, 21),
  (⟨"SootMaps$Soot", "fromNewest", "(II)I"⟩, prog_9_method_8_code, 2, (some .int), 11, 2, 0, 0, 0),
  (⟨"SootMaps", "house", "(II)I"⟩, prog_1_method_6_code, 3, (some .int), 9, 2, 1, 2, 43),
  (⟨"SootMaps", "isHouse", "(I)Z"⟩, prog_1_method_33_code, 2, (some .boolean), 9, 1, 1, 0, 0),
  (⟨"SootMaps$Soot", "newest", "(I)I"⟩, prog_9_method_6_code, 1, (some .int), 11, 1, 0, 1, 21),
  (⟨"SootMaps", "layer", "(II)I"⟩, prog_1_method_7_code, 3, (some .int), 9, 2, 1, 3, 65),
  (⟨"SootMaps$Soot", "fromOldest", "(II)I"⟩, prog_9_method_7_code, 3, (some .int), 11, 2, 0, 2, 43),
  (⟨"SootMaps", "sweep", "(II)I"⟩, prog_1_method_8_code, 3, (some .int), 9, 2, 1, 1, 21),
  (⟨"SootMaps", "isSweep", "(I)Z"⟩, prog_1_method_34_code, 2, (some .boolean), 9, 1, 1, 0, 0),
  (⟨"SootMaps", "month", "(I)I"⟩, prog_1_method_9_code, 4, (some .int), 9, 1, 1, 3, 68),
  (⟨"SootMaps", "refusalOfMonths", "(I)I"⟩, prog_1_method_36_code, 2, (some .int), 9, 1, 1, 0, 0),
  (⟨"SootMaps$Past", "remember", "(LSootMaps$Streets;)V"⟩, prog_5_method_3_code, 2, none, 3, 1, 1, 2, 47)]
def mj_meths_2 : List mj_M := [(⟨"java/lang/Math", "floorMod", "(II)I"⟩, prog_15_method_50_code, 3, (some .int), 14, 2, 0, 0, 0),
  (⟨"SootMaps$Streets", "copyFrom", "(LSootMaps$Streets;)V"⟩, prog_10_method_2_code, 2, none, 7, 1, 1, 1, 26),
  (⟨"SootMaps$Streets", "passMonth", "(LSootMaps$Plan;)V"⟩, prog_10_method_5_code, 3, none, 7, 1, 1, 2, 46),
  (⟨"SootMaps$Streets", "burnIn", "(ILSootMaps$Plan;)V"⟩, prog_10_method_6_code, 5, none, 7, 2, 1, 1, 22),
  (⟨"SootMaps$Soot", "laid", "(II)I"⟩, prog_9_method_2_code, 2, (some .int), 11, 2, 0, 0, 0),
  (⟨"SootMaps$Plan", "neighbour", "(I)I"⟩, prog_6_method_7_code, 3, (some .int), 4, 1, 1, 0, 0),
  (⟨"SootMaps", "fire", "(II)I"⟩, prog_1_method_10_code, 4, (some .int), 9, 2, 1, 3, 68),
  (⟨"SootMaps", "rain", "()I"⟩, prog_1_method_11_code, 1, (some .int), 9, 0, 1, 4, 88),
  (⟨"SootMaps$Streets", "washOff", "(I)I"⟩, prog_10_method_7_code, 4, (some .int), 7, 1, 1, 3, 65),
  (⟨"SootMaps$Soot", "washed", "(II)I"⟩, prog_9_method_4_code, 2, (some .int), 11, 2, 0, 0, 0),
  (⟨"SootMaps", "swept", "(I)I"⟩, prog_1_method_12_code, 3, (some .int), 9, 1, 1, 3, 68),
  (⟨"SootMaps", "run", "(II)I"⟩, prog_1_method_13_code, 4, (some .int), 9, 2, 1, 3, 68),
  (⟨"SootMaps", "swap", "(IIII)I"⟩, prog_1_method_14_code, 5, (some .int), 9, 4, 1, 3, 68),
  (⟨"SootMaps", "areTwoSweeps", "(II)Z"⟩, prog_1_method_35_code, 3, (some .boolean), 9, 2, 1, 1, 21),
  (⟨"SootMaps$Streets", "canGive", "(III)Z"⟩, prog_10_method_8_code, 4, (some .boolean), 7, 3, 1, 0, 0),
  (⟨"SootMaps$Streets", "learn", "(II)V"⟩, prog_10_method_10_code, 3, none, 7, 2, 1, 0, 0),
  (⟨"SootMaps", "pay", "(III)I"⟩, prog_1_method_15_code, 5, (some .int), 9, 3, 1, 3, 68),
  (⟨"SootMaps", "drift", "(I)I"⟩, prog_1_method_16_code, 4, (some .int), 9, 1, 1, 5, 110),
  (⟨"SootMaps", "passDrawnMonth", "()V"⟩, prog_1_method_38_code, 3, none, 9, 0, 1, 4, 88),
  (⟨"SootMaps", "draw", "(I)I"⟩, prog_1_method_37_code, 2, (some .int), 9, 1, 1, 0, 0),
  (⟨"SootMaps", "undo", "(I)I"⟩, prog_1_method_17_code, 2, (some .int), 9, 1, 1, 3, 69),
  (⟨"SootMaps$Past", "bringBack", "(ILSootMaps$Streets;)V"⟩, prog_5_method_4_code, 3, none, 3, 2, 1, 2, 47),
  (⟨"SootMaps", "burned", "(III)I"⟩, prog_1_method_18_code, 4, (some .int), 9, 3, 1, 3, 71),
  (⟨"SootMaps$Rows", "lookInto", "(ILSootMaps$Streets;LSootMaps$Plan;)V"⟩, prog_7_method_2_code, 7, none, 5, 3, 1, 2, 45)]
def mj_meths_3 : List mj_M := [(⟨"SootMaps$Streets", "down", "(I)I"⟩, prog_10_method_11_code, 5, (some .int), 7, 1, 1, 0, 0),
  (⟨"SootMaps$Rows", "addToHeap", "(III)V"⟩, prog_7_method_3_code, 5, none, 5, 3, 1, 1, 21),
  (⟨"SootMaps$Rows", "howMany", "(I)I"⟩, prog_7_method_7_code, 4, (some .int), 5, 1, 1, 2, 47),
  (⟨"SootMaps$Rows", "rowsOf", "(I)I"⟩, prog_7_method_4_code, 1, (some .int), 5, 1, 0, 0, 0),
  (⟨"SootMaps$Rows", "fits", "(II)Z"⟩, prog_7_method_6_code, 6, (some .boolean), 5, 2, 1, 1, 22),
  (⟨"SootMaps$Rows", "kindIn", "(III)I"⟩, prog_7_method_5_code, 3, (some .int), 5, 3, 0, 0, 0),
  (⟨"SootMaps$Soot", "heaped", "(III)I"⟩, prog_9_method_3_code, 3, (some .int), 11, 3, 0, 0, 0),
  (⟨"SootMaps$Rows", "fitting", "(II)I"⟩, prog_7_method_8_code, 5, (some .int), 5, 2, 1, 2, 47),
  (⟨"SootMaps", "sure", "(III)I"⟩, prog_1_method_19_code, 4, (some .int), 9, 3, 1, 3, 72),
  (⟨"SootMaps$Rows", "sameInAll", "(II)I"⟩, prog_7_method_9_code, 6, (some .int), 5, 2, 1, 2, 47),
  (⟨"SootMaps", "flues", "(II)I"⟩, prog_1_method_20_code, 3, (some .int), 9, 2, 1, 2, 48),
  (⟨"SootMaps$Streets", "reach", "(ILSootMaps$Plan;)I"⟩, prog_10_method_12_code, 4, (some .int), 7, 2, 1, 1, 24),
  (⟨"SootMaps$Streets", "heatOf", "(II)I"⟩, prog_10_method_13_code, 5, (some .int), 7, 2, 1, 1, 24),
  (⟨"SootMaps$Streets", "likeOf", "(II)I"⟩, prog_10_method_14_code, 5, (some .int), 7, 2, 1, 0, 0),
  (⟨"SootMaps", "trade", "(III)I"⟩, prog_1_method_21_code, 4, (some .int), 9, 3, 1, 5, 124),
  (⟨"SootMaps$Bargain", "settle", "(IILSootMaps$Streets;LSootMaps$Plan;)Z"⟩, prog_2_method_2_code, 7, (some .boolean), 0, 4, 1, 4, 98),
  (⟨"SootMaps$Bargain", "listNeeds", "(IILSootMaps$Streets;LSootMaps$Plan;)V"⟩, prog_2_method_5_code, 6, none, 0, 4, 1, 2, 48),
  (⟨"SootMaps$Bargain", "othersWhoKnow", "(IILSootMaps$Streets;LSootMaps$Plan;)I"⟩, prog_2_method_6_code, 6, (some .int), 0, 4, 0, 1, 23),
  (⟨"SootMaps$Bargain", "listTallies", "(IILSootMaps$Streets;LSootMaps$Plan;)V"⟩, prog_2_method_7_code, 9, none, 0, 4, 1, 1, 22),
  (⟨"java/lang/Integer", "bitCount", "(I)I"⟩, prog_14_method_49_code, 1, (some .int), 13, 1, 0, 0, 0),
  (⟨"SootMaps$Bargain", "countCosts", "(ILSootMaps$Plan;)V"⟩, prog_2_method_8_code, 4, none, 0, 2, 1, 3, 75),
  (⟨"SootMaps$Bargain", "cheapestGiver", "(IILSootMaps$Plan;)I"⟩, prog_2_method_11_code, 8, (some .int), 0, 3, 1, 2, 48),
  (⟨"SootMaps$Bargain", "costBy", "(IIILSootMaps$Plan;)I"⟩, prog_2_method_10_code, 6, (some .int), 0, 4, 1, 1, 23),
  (⟨"SootMaps$Bargain", "isFree", "(II)Z"⟩, prog_2_method_9_code, 4, (some .boolean), 0, 2, 1, 0, 0)]
def mj_meths_4 : List mj_M := [(⟨"SootMaps$Bargain", "leastPaid", "()I"⟩, prog_2_method_3_code, 1, (some .int), 0, 0, 1, 0, 0),
  (⟨"SootMaps$Bargain", "giverOf", "(ILSootMaps$Plan;)I"⟩, prog_2_method_4_code, 6, (some .int), 0, 2, 1, 3, 75),
  (⟨"SootMaps", "ring", "(I)I"⟩, prog_1_method_22_code, 4, (some .int), 9, 1, 1, 1, 22),
  (⟨"SootMaps$Streets", "hasNewFor", "(II)Z"⟩, prog_10_method_9_code, 3, (some .boolean), 7, 2, 1, 0, 0),
  (⟨"SootMaps", "ofPair", "(III)I"⟩, prog_1_method_39_code, 3, (some .int), 9, 3, 0, 0, 0),
  (⟨"SootMaps", "brushes", "(II)I"⟩, prog_1_method_23_code, 3, (some .int), 9, 2, 1, 3, 72),
  (⟨"SootMaps$Streets", "fluesWith", "(II)I"⟩, prog_10_method_15_code, 5, (some .int), 7, 2, 1, 2, 43),
  (⟨"SootMaps$Soot", "holds", "(II)Z"⟩, prog_9_method_9_code, 3, (some .boolean), 11, 2, 0, 1, 21),
  (⟨"SootMaps", "mostFeared", "(I)I"⟩, prog_1_method_40_code, 6, (some .int), 9, 1, 1, 2, 47),
  (⟨"SootMaps", "wet", "(II)I"⟩, prog_1_method_24_code, 7, (some .int), 9, 2, 1, 1, 22),
  (⟨"SootMaps", "see", "(IIZ)I"⟩, prog_1_method_25_code, 4, (some .int), 9, 3, 1, 1, 23),
  (⟨"SootMaps$Sights", "add", "(IIZ)I"⟩, prog_8_method_2_code, 4, (some .int), 6, 3, 1, 0, 0),
  (⟨"SootMaps", "next", "(II)I"⟩, prog_1_method_26_code, 3, (some .int), 9, 2, 1, 4, 98),
  (⟨"SootMaps", "suspects", "(I)I"⟩, prog_1_method_41_code, 4, (some .int), 9, 1, 1, 2, 47),
  (⟨"SootMaps$Sights", "allow", "(II)Z"⟩, prog_8_method_3_code, 4, (some .boolean), 6, 2, 1, 0, 0),
  (⟨"SootMaps", "partingFlue", "(I)I"⟩, prog_1_method_42_code, 8, (some .int), 9, 1, 1, 3, 71),
  (⟨"SootMaps", "howManyReach", "(II)I"⟩, prog_1_method_43_code, 5, (some .int), 9, 2, 1, 2, 47),
  (⟨"SootMaps", "write", "(II)I"⟩, prog_1_method_27_code, 3, (some .int), 9, 2, 1, 1, 22),
  (⟨"SootMaps$Book", "add", "(II)I"⟩, prog_3_method_2_code, 3, (some .int), 1, 2, 1, 0, 0),
  (⟨"SootMaps", "judge", "()I"⟩, prog_1_method_28_code, 1, (some .int), 9, 0, 1, 3, 63),
  (⟨"SootMaps$Book", "firstWrong", "(LSootMaps$Streets;)I"⟩, prog_3_method_3_code, 3, (some .int), 1, 1, 1, 2, 41),
  (⟨"SootMaps", "tear", "()I"⟩, prog_1_method_29_code, 2, (some .int), 9, 0, 1, 0, 0),
  (⟨"SootMaps", "seed", "(I)I"⟩, prog_1_method_30_code, 3, (some .int), 9, 1, 1, 0, 0),
  (⟨"SootMaps", "keep", "(I)I"⟩, prog_1_method_31_code, 2, (some .int), 9, 1, 1, 3, 70)]
def mj_meths_5 : List mj_M := [(⟨"SootMaps$Images", "put", "(ILSootMaps$Streets;I)V"⟩, prog_4_method_4_code, 4, none, 2, 3, 1, 2, 47),
  (⟨"SootMaps", "goBack", "(I)I"⟩, prog_1_method_32_code, 2, (some .int), 9, 1, 1, 3, 69),
  (⟨"SootMaps$Images", "isKept", "(I)Z"⟩, prog_4_method_3_code, 2, (some .boolean), 2, 1, 1, 0, 0),
  (⟨"SootMaps$Images", "bringBack", "(ILSootMaps$Streets;)I"⟩, prog_4_method_5_code, 3, (some .int), 2, 2, 1, 2, 47),
  (⟨"SootMapsModel", "<init>", "()V"⟩, prog_13_method_1_code, 1, none, 10, 0, 2, 1, 20),
  (⟨"SootMapsModel", "feed", "(I)I"⟩, prog_13_method_9_code, 2, (some .int), 10, 1, 1, 1, 25),
  (⟨"SootMapsModel", "in", "(JJJ)Z"⟩, prog_13_method_3_code, 6, (some .boolean), 10, 3, 0, 0, 0),
  (⟨"SootMapsModel", "city", "()I"⟩, prog_13_method_19_code, 4, (some .int), 10, 0, 1, 5, 107),
  (⟨"SootMapsModel", "here", "()I"⟩, prog_13_method_11_code, 1, (some .int), 10, 0, 1, 1, 21),
  (⟨"SootMapsModel", "letterAt", "(I)I"⟩, prog_13_method_10_code, 2, (some .int), 10, 1, 1, 0, 0),
  (⟨"SootMapsModel", "takesClause", "()Z"⟩, prog_13_method_18_code, 5, (some .boolean), 10, 0, 1, 4, 83),
  (⟨"SootMapsModel", "fails", "(II)Z"⟩, prog_13_method_12_code, 3, (some .boolean), 10, 2, 1, 0, 0),
  (⟨"SootMapsModel", "takesCity", "()Z"⟩, prog_13_method_15_code, 1, (some .boolean), 10, 0, 1, 3, 63),
  (⟨"SootMapsModel", "takesNumber", "(II)Z"⟩, prog_13_method_14_code, 3, (some .boolean), 10, 2, 1, 2, 41),
  (⟨"SootMapsModel", "takesHouse", "()Z"⟩, prog_13_method_16_code, 1, (some .boolean), 10, 0, 1, 3, 63),
  (⟨"SootMapsModel", "takesSweep", "()Z"⟩, prog_13_method_17_code, 1, (some .boolean), 10, 0, 1, 3, 63),
  (⟨"SootMapsModel", "takes", "(I)Z"⟩, prog_13_method_13_code, 2, (some .boolean), 10, 1, 1, 2, 41),
  (⟨"SootMapsModel", "fault", "()I"⟩, prog_13_method_20_code, 1, (some .int), 10, 0, 1, 0, 0),
  (⟨"SootMapsModel", "told", "(I)I"⟩, prog_13_method_22_code, 2, (some .int), 10, 1, 1, 1, 22),
  (⟨"SootMapsModel", "layersOfAll", "()I"⟩, prog_13_method_21_code, 3, (some .int), 10, 0, 1, 0, 0),
  (⟨"SootMapsModel", "house", "(II)I"⟩, prog_13_method_25_code, 3, (some .int), 10, 2, 1, 2, 46),
  (⟨"SootMapsModel", "isHouse", "(I)Z"⟩, prog_13_method_7_code, 2, (some .boolean), 10, 1, 1, 1, 25),
  (⟨"SootMapsModel", "newestOf", "(I)I"⟩, prog_13_method_24_code, 2, (some .int), 10, 1, 1, 0, 0),
  (⟨"SootMapsModel", "layer", "(II)I"⟩, prog_13_method_26_code, 3, (some .int), 10, 2, 1, 2, 46)]
def mj_meths_6 : List mj_M := [(⟨"SootMapsModel", "layerAt", "(III)I"⟩, prog_13_method_23_code, 4, (some .int), 10, 3, 1, 0, 0),
  (⟨"SootMapsModel", "sweep", "(II)I"⟩, prog_13_method_27_code, 3, (some .int), 10, 2, 1, 2, 46),
  (⟨"SootMapsModel", "isSweep", "(I)Z"⟩, prog_13_method_8_code, 2, (some .boolean), 10, 1, 1, 1, 25),
  (⟨"SootMapsModel", "month", "(I)I"⟩, prog_13_method_32_code, 3, (some .int), 10, 1, 1, 4, 92),
  (⟨"SootMapsModel", "minds", "()V"⟩, prog_13_method_31_code, 2, none, 10, 0, 1, 1, 23),
  (⟨"SootMapsModel", "copy", "(II)V"⟩, prog_13_method_6_code, 4, none, 10, 2, 1, 0, 0),
  (⟨"SootMapsModel", "passes", "(I)V"⟩, prog_13_method_30_code, 5, none, 10, 1, 1, 3, 68),
  (⟨"SootMapsModel", "lays", "(III)V"⟩, prog_13_method_28_code, 6, none, 10, 3, 1, 0, 0),
  (⟨"SootMapsModel", "blownTo", "(I)I"⟩, prog_13_method_29_code, 3, (some .int), 10, 1, 1, 2, 46),
  (⟨"SootMapsModel", "fire", "(II)I"⟩, prog_13_method_33_code, 4, (some .int), 10, 2, 1, 2, 46),
  (⟨"SootMapsModel", "rain", "()I"⟩, prog_13_method_35_code, 1, (some .int), 10, 0, 1, 2, 44),
  (⟨"SootMapsModel", "washes", "()I"⟩, prog_13_method_34_code, 4, (some .int), 10, 0, 1, 0, 0),
  (⟨"SootMapsModel", "swept", "(I)I"⟩, prog_13_method_36_code, 3, (some .int), 10, 1, 1, 2, 46),
  (⟨"SootMapsModel", "run", "(II)I"⟩, prog_13_method_37_code, 4, (some .int), 10, 2, 1, 2, 46),
  (⟨"SootMapsModel", "swap", "(IIII)I"⟩, prog_13_method_40_code, 5, (some .int), 10, 4, 1, 3, 68),
  (⟨"SootMapsModel", "areTwo", "(II)Z"⟩, prog_13_method_38_code, 3, (some .boolean), 10, 2, 1, 2, 46),
  (⟨"SootMapsModel", "isKnown", "(II)Z"⟩, prog_13_method_39_code, 3, (some .boolean), 10, 2, 1, 1, 21),
  (⟨"SootMapsModel", "has", "(II)Z"⟩, prog_13_method_4_code, 2, (some .boolean), 10, 2, 0, 0, 0),
  (⟨"SootMapsModel", "pay", "(III)I"⟩, prog_13_method_41_code, 4, (some .int), 10, 3, 1, 3, 68),
  (⟨"SootMapsModel", "drift", "(I)I"⟩, prog_13_method_43_code, 4, (some .int), 10, 1, 1, 4, 92),
  (⟨"SootMapsModel", "draw", "(I)I"⟩, prog_13_method_42_code, 2, (some .int), 10, 1, 1, 0, 0),
  (⟨"SootMapsModel", "undo", "(I)I"⟩, prog_13_method_44_code, 3, (some .int), 10, 1, 1, 1, 25),
  (⟨"SootMapsModel", "burned", "(III)I"⟩, prog_13_method_46_code, 7, (some .int), 10, 3, 1, 5, 117),
  (⟨"SootMapsModel", "isSo", "(III)Z"⟩, prog_13_method_45_code, 6, (some .boolean), 10, 3, 1, 4, 92)]
def mj_meths_7 : List mj_M := [(⟨"SootMapsModel", "sure", "(III)I"⟩, prog_13_method_47_code, 6, (some .int), 10, 3, 1, 5, 117),
  (⟨"SootMapsModel", "flues", "(II)I"⟩, prog_13_method_51_code, 3, (some .int), 10, 2, 1, 4, 91),
  (⟨"SootMapsModel", "sootOf", "(I)I"⟩, prog_13_method_48_code, 4, (some .int), 10, 1, 1, 3, 68),
  (⟨"SootMapsModel", "heatOf", "(I)I"⟩, prog_13_method_49_code, 5, (some .int), 10, 1, 1, 1, 21),
  (⟨"SootMapsModel", "likeOf", "(I)I"⟩, prog_13_method_50_code, 6, (some .int), 10, 1, 1, 1, 23),
  (⟨"SootMapsModel", "trade", "(III)I"⟩, prog_13_method_54_code, 8, (some .int), 10, 3, 1, 3, 69),
  (⟨"SootMapsModel", "findTrade", "(II)I"⟩, prog_13_method_53_code, 6, (some .int), 10, 2, 1, 2, 44),
  (⟨"SootMapsModel", "moreOf", "(II)I"⟩, prog_13_method_52_code, 3, (some .int), 10, 2, 1, 1, 22),
  (⟨"SootMapsModel", "ones", "(I)I"⟩, prog_13_method_5_code, 3, (some .int), 10, 1, 0, 0, 0),
  (⟨"SootMapsModel", "ring", "(I)I"⟩, prog_13_method_57_code, 5, (some .int), 10, 1, 1, 2, 48),
  (⟨"SootMapsModel", "isRing", "(II)Z"⟩, prog_13_method_56_code, 7, (some .boolean), 10, 2, 1, 1, 22),
  (⟨"SootMapsModel", "canGive", "(II)Z"⟩, prog_13_method_55_code, 3, (some .boolean), 10, 2, 1, 0, 0),
  (⟨"SootMapsModel", "brushes", "(II)I"⟩, prog_13_method_58_code, 9, (some .int), 10, 2, 1, 4, 91),
  (⟨"SootMapsModel", "wet", "(II)I"⟩, prog_13_method_59_code, 7, (some .int), 10, 2, 1, 1, 25),
  (⟨"SootMapsModel", "see", "(IIZ)I"⟩, prog_13_method_60_code, 4, (some .int), 10, 3, 1, 2, 46),
  (⟨"SootMapsModel", "next", "(II)I"⟩, prog_13_method_61_code, 10, (some .int), 10, 2, 1, 4, 91),
  (⟨"SootMapsModel", "write", "(II)I"⟩, prog_13_method_62_code, 3, (some .int), 10, 2, 1, 2, 46),
  (⟨"SootMapsModel", "judge", "()I"⟩, prog_13_method_63_code, 2, (some .int), 10, 0, 1, 1, 21),
  (⟨"SootMapsModel", "tear", "()I"⟩, prog_13_method_64_code, 2, (some .int), 10, 0, 1, 0, 0),
  (⟨"SootMapsModel", "seed", "(I)I"⟩, prog_13_method_65_code, 3, (some .int), 10, 1, 1, 0, 0),
  (⟨"SootMapsModel", "keep", "(I)I"⟩, prog_13_method_66_code, 2, (some .int), 10, 1, 1, 1, 25),
  (⟨"SootMapsModel", "goBack", "(I)I"⟩, prog_13_method_67_code, 2, (some .int), 10, 1, 1, 1, 25)]
def mj_meths : List mj_M := mj_meths_0 ++ (mj_meths_1 ++ (mj_meths_2 ++ (mj_meths_3 ++ (mj_meths_4 ++ (mj_meths_5 ++ (mj_meths_6 ++ (mj_meths_7)))))))
def mj_plI : List Nat := [61, 62, 63, 64, 65, 66, 67, 68, 69, 70, 61, 62, 61, 62, 63, 62, 62, 62, 62, 62, 62, 62, 62, 62, 62, 62, 63, 63, 63, 63, 64, 65, 66, 61, 61, 64, 73, 73, 61, 61, 73, 61, 73, 61, 61, 61, 61, 65, 74, 64, 64, 64, 73, 63, 61, 61, 64, 73, 61, 61, 61, 61, 64, 64, 61, 61, 61, 61, 61, 65, 61, 69, 64, 69, 69, 69, 69, 69, 73, 69, 61, 69, 61, 64, 64, 64, 61, 70, 70, 70, 70, 75, 70, 70, 70, 70, 70, 70, 61, 64, 61, 61, 64, 73, 61, 61, 61, 67, 61, 61, 67, 61, 61, 61, 68, 61, 68, 61, 61, 61, 66, 61, 66, 66, 71, 71, 71, 71, 71, 71, 71, 71, 71, 71, 71, 71, 71, 71, 71, 71, 71, 71, 71, 71, 71, 71, 71, 71, 71, 71, 71, 71, 71, 71, 71, 71, 71, 71, 71, 71, 71, 71, 71, 71, 71, 71, 71, 71, 71, 71, 71, 71, 71, 71, 71, 71, 71, 71, 71, 71, 71, 71, 71, 71, 71, 71, 71, 71, 71, 71]
def mj_plK : List Nat := [79, 87, 93, 171, 210, 230, 249, 269, 286, 302, 362, 367, 372, 376, 380, 385, 389, 393, 397, 401, 405, 409, 413, 417, 420, 424, 427, 431, 435, 439, 446, 451, 455, 459, 463, 467, 471, 474, 477, 482, 487, 490, 494, 498, 503, 507, 512, 517, 521, 524, 531, 536, 539, 543, 547, 551, 555, 560, 563, 567, 571, 576, 579, 583, 587, 591, 596, 600, 606, 610, 614, 618, 622, 628, 632, 636, 640, 643, 646, 649, 653, 657, 661, 665, 670, 674, 678, 682, 687, 690, 695, 698, 706, 710, 714, 718, 721, 725, 729, 733, 737, 740, 744, 748, 752, 756, 763, 767, 772, 777, 780, 785, 789, 795, 799, 804, 808, 813, 817, 821, 825, 830, 834, 838, 844, 963, 968, 973, 978, 982, 986, 990, 994, 998, 1004, 1008, 1012, 1015, 1019, 1024, 1027, 1032, 1037, 1040, 1046, 1049, 1054, 1058, 1065, 1069, 1073, 1077, 1081, 1084, 1088, 1093, 1096, 1100, 1105, 1110, 1114, 1117, 1120, 1124, 1129, 1136, 1140, 1146, 1149, 1153, 1158, 1162, 1166, 1169, 1174, 1179, 1182, 1185, 1190, 1194, 1197, 1201, 1208, 1212, 1216, 1220, 1224, 1228, 1232, 1236]
def mj_plS : List Nat := [363, 368, 373, 377, 381, 0, 1, 2, 3, 4, 5, 6, 7, 8, 9, 428, 432, 436, 440, 447, 452, 456, 460, 464, 468, 478, 10, 491, 499, 11, 508, 12, 518, 525, 532, 13, 544, 548, 552, 556, 564, 568, 572, 14, 580, 584, 588, 592, 15, 16, 607, 611, 615, 619, 623, 17, 633, 18, 650, 654, 658, 662, 666, 671, 675, 679, 683, 19, 20, 21, 22, 23, 24, 722, 726, 730, 734, 741, 745, 25, 757, 764, 768, 773, 26, 781, 27, 28, 796, 800, 805, 809, 814, 818, 822, 826, 831, 835, 839, 964, 974, 29, 30, 31, 32, 33, 34, 35, 36, 37, 1016, 1020, 38, 1028, 39, 40, 1041, 41, 1050, 42, 1059, 43, 44, 45, 46, 47, 1085, 1089, 48, 1097, 1101, 1106, 49, 50, 1121, 1125, 51, 1137, 1141, 52, 1150, 1154, 53, 54, 55, 1170, 56, 57, 1186, 58, 59, 1198, 1202, 1209, 1213, 1217, 1221, 1225, 1229, 1233, 1237]
/-- an entry of a class's pool: index, kind (0 field, 1 field of a nest mate, 2 method, 3 constructor of a nest mate, 4 class, 5 int, 6 long, 7 arraycopy, 8 Object's constructor), what it names -/
abbrev mj_E : Type := Nat × Nat × Nat × Nat
def mj_pool_0 : List mj_E := [(61, 0, 4, 3), (70, 0, 4, 4), (93, 0, 4, 8), (30, 0, 7, 3), (11, 0, 0, 0), (15, 0, 0, 1), (18, 0, 0, 2), (21, 0, 0, 3), (24, 0, 0, 4), (27, 0, 0, 5), (39, 0, 0, 6), (46, 0, 0, 7), (5, 8, 0, 0), (35, 2, 88, 0), (66, 2, 89, 0), (73, 2, 62, 0), (43, 2, 90, 0), (77, 2, 91, 0), (83, 10, 0, 0), (49, 2, 92, 0), (53, 2, 93, 0), (89, 2, 94, 0), (57, 2, 95, 0)]
def mj_pl_0 : List Nat := [107, 111, 121, 184, 305, 306, 307, 308, 309, 310, 311, 312, 304, 685, 689, 692, 693, 697, 703, 704, 708, 712, 716]
def mj_pool_1 : List mj_E := [(23, 0, 7, 0), (9, 0, 1, 0), (15, 0, 1, 1), (18, 0, 1, 2), (3, 8, 0, 0), (26, 2, 40, 0), (22, 5, 3294967292, 0)]
def mj_pl_1 : List Nat := [176, 272, 273, 274, 271, 811, 802]
def mj_pool_2 : List mj_E := [(11, 0, 2, 0), (17, 0, 2, 1), (21, 0, 2, 2), (3, 8, 0, 0), (26, 2, 49, 0), (25, 3, 3, 0), (9, 4, 7, 0)]
def mj_pl_2 : List Nat := [235, 236, 237, 232, 828, 234, 233]
def mj_pool_3 : List mj_E := [(11, 0, 3, 0), (22, 0, 3, 1), (18, 0, 3, 2), (3, 8, 0, 0), (25, 2, 48, 0), (31, 2, 49, 0), (35, 10, 0, 0), (17, 3, 3, 0), (9, 4, 7, 0)]
def mj_pl_3 : List Nat := [216, 217, 218, 212, 520, 523, 527, 215, 213]
def mj_pool_4 : List mj_E := [(24, 0, 4, 0), (28, 0, 4, 1), (32, 0, 4, 2), (35, 0, 4, 3), (38, 0, 4, 4), (9, 0, 4, 5), (15, 0, 4, 6), (18, 0, 4, 7), (21, 0, 4, 8), (3, 8, 0, 0), (41, 7, 0, 0)]
def mj_pl_4 : List Nat := [96, 99, 101, 103, 109, 113, 115, 117, 119, 95, 442]
def mj_pool_5 : List mj_E := [(27, 0, 4, 3), (18, 0, 7, 0), (39, 0, 7, 1), (9, 0, 5, 0), (15, 0, 5, 1), (23, 0, 5, 2), (3, 8, 0, 0), (32, 2, 72, 0), (36, 2, 53, 0), (42, 2, 73, 0), (46, 2, 52, 0), (59, 2, 75, 0), (62, 2, 76, 0), (52, 2, 77, 0), (56, 2, 78, 0)]
def mj_pl_5 : List Nat := [104, 175, 179, 289, 290, 291, 288, 621, 625, 626, 630, 635, 638, 642, 645]
def mj_pool_6 : List mj_E := [(9, 0, 6, 0), (15, 0, 6, 1), (18, 0, 6, 2), (22, 0, 6, 3), (3, 8, 0, 0), (26, 5, 3294967292, 0)]
def mj_pl_6 : List Nat := [252, 253, 254, 255, 251, 770]
def mj_pool_7 : List mj_E := [(51, 0, 4, 3), (43, 0, 4, 5), (40, 0, 4, 6), (44, 0, 4, 7), (9, 0, 7, 0), (15, 0, 7, 1), (18, 0, 7, 2), (21, 0, 7, 3), (24, 0, 7, 4), (33, 0, 7, 5), (37, 0, 7, 6), (3, 8, 0, 0), (27, 7, 0, 0), (45, 2, 36, 0), (54, 2, 51, 0), (58, 2, 52, 0), (62, 2, 53, 0), (65, 2, 35, 0), (69, 2, 57, 0), (72, 2, 72, 0), (75, 2, 103, 0)]
def mj_pl_7 : List Nat := [106, 114, 116, 118, 174, 178, 181, 183, 186, 188, 190, 173, 449, 470, 534, 538, 542, 558, 559, 668, 747]
def mj_pool_8 : List mj_E := [(64, 0, 4, 0), (68, 0, 4, 3), (71, 0, 4, 4), (9, 0, 8, 0), (18, 0, 8, 1), (26, 0, 8, 2), (30, 0, 8, 3), (33, 0, 8, 4), (22, 0, 8, 5), (3, 8, 0, 0), (36, 2, 14, 0), (39, 2, 15, 0), (45, 2, 16, 0), (42, 2, 17, 0), (49, 2, 18, 0), (53, 2, 19, 0), (57, 2, 20, 0), (60, 2, 21, 0), (74, 2, 22, 0), (78, 2, 23, 0), (94, 2, 24, 0), (82, 2, 25, 0), (85, 2, 26, 0), (88, 2, 27, 0), (91, 2, 28, 0), (17, 3, 2, 0), (15, 4, 4, 0), (29, 5, 3294967292, 0)]
def mj_pl_8 : List Nat := [98, 108, 112, 143, 144, 146, 148, 149, 151, 89, 379, 383, 387, 391, 395, 399, 403, 407, 411, 415, 419, 422, 426, 430, 434, 92, 90, 370]
def mj_pool_9 : List mj_E := [(108, 0, 4, 0), (112, 0, 4, 1), (115, 0, 4, 2), (102, 0, 4, 3), (118, 0, 4, 4), (169, 0, 4, 8), (147, 0, 7, 0), (140, 0, 7, 1), (144, 0, 7, 2), (166, 0, 7, 3), (172, 0, 7, 4), (124, 0, 7, 5), (131, 0, 7, 6), (12, 0, 9, 0), (19, 0, 9, 1), (26, 0, 9, 2), (33, 0, 9, 3), (40, 0, 9, 4), (47, 0, 9, 5), (54, 0, 9, 6), (61, 0, 9, 7), (68, 0, 9, 8), (279, 0, 9, 9), (84, 1, 8, 1), (121, 1, 8, 2), (80, 1, 8, 4), (105, 1, 8, 5), (134, 1, 3, 2), (98, 1, 6, 3), (101, 1, 1, 2), (3, 8, 0, 0), (32, 2, 4, 0), (39, 2, 5, 0), (73, 2, 11, 0), (77, 2, 13, 0), (87, 2, 29, 0), (91, 2, 30, 0), (94, 2, 31, 0), (97, 2, 32, 0), (127, 2, 35, 0), (135, 2, 39, 0), (150, 2, 36, 0), (156, 2, 40, 0), (159, 2, 42, 0), (163, 2, 44, 0), (176, 2, 46, 0), (179, 2, 47, 0), (183, 2, 50, 0), (187, 2, 56, 0), (190, 2, 61, 0), (194, 2, 62, 0), (198, 2, 63, 0), (202, 2, 66, 0), (296, 2, 67, 0), (205, 2, 69, 0), (209, 2, 71, 0), (213, 2, 74, 0), (216, 2, 79, 0), (219, 2, 81, 0), (222, 2, 83, 0), (226, 2, 84, 0), (229, 2, 85, 0), (232, 2, 87, 0), (236, 2, 96, 0), (239, 2, 97, 0), (242, 2, 99, 0), (245, 2, 100, 0), (249, 2, 102, 0), (252, 2, 104, 0), (299, 2, 91, 0), (257, 10, 0, 0), (264, 2, 107, 0), (267, 2, 109, 0), (304, 2, 110, 0), (270, 2, 111, 0), (307, 2, 112, 0), (310, 9, 0, 0), (273, 2, 114, 0), (275, 2, 116, 0), (282, 2, 120, 0), (286, 2, 122, 0), (289, 2, 123, 0), (11, 3, 1, 0), (18, 3, 2, 0), (25, 3, 3, 0), (46, 3, 6, 0), (53, 3, 7, 0), (60, 3, 8, 0), (67, 3, 9, 0), (9, 4, 8, 0), (16, 4, 4, 0), (23, 4, 7, 0), (30, 4, 3, 0), (37, 4, 2, 0), (44, 4, 6, 0), (51, 4, 1, 0), (58, 4, 5, 0), (65, 4, 0, 0), (72, 5, 3294967294, 0), (139, 5, 3294967295, 0), (175, 5, 100000, 0), (186, 5, 3294967293, 0), (292, 5, 3294967292, 0), (293, 5, 1103515245, 0), (294, 5, 2147483647, 0), (295, 5, 65536, 0), (255, 6, 1000000000, 0), (262, 6, 100, 0)]
def mj_pl_9 : List Nat := [97, 100, 102, 105, 110, 120, 177, 180, 182, 185, 187, 189, 191, 330, 331, 332, 333, 334, 335, 336, 337, 338, 339, 145, 147, 150, 152, 219, 256, 275, 81, 209, 229, 366, 375, 438, 445, 450, 454, 466, 480, 485, 486, 493, 501, 510, 516, 530, 554, 574, 578, 582, 594, 598, 609, 617, 631, 648, 656, 664, 669, 673, 681, 720, 724, 732, 736, 743, 750, 754, 760, 766, 775, 779, 783, 787, 791, 798, 807, 824, 833, 837, 86, 167, 170, 248, 268, 285, 301, 84, 166, 168, 207, 227, 246, 266, 283, 299, 365, 484, 505, 514, 515, 602, 603, 604, 759, 761]
def mj_pool_10 : List mj_E := [(7, 0, 10, 0), (13, 0, 10, 1), (168, 0, 10, 2), (72, 0, 10, 3), (156, 0, 10, 4), (159, 0, 10, 5), (76, 0, 10, 6), (83, 0, 10, 7), (17, 0, 10, 8), (20, 0, 10, 9), (89, 0, 10, 10), (93, 0, 10, 11), (100, 0, 10, 12), (118, 0, 10, 13), (103, 0, 10, 14), (23, 0, 10, 15), (121, 0, 10, 16), (127, 0, 10, 17), (130, 0, 10, 18), (133, 0, 10, 19), (27, 0, 10, 20), (30, 0, 10, 21), (136, 0, 10, 22), (33, 0, 10, 23), (36, 0, 10, 24), (39, 0, 10, 25), (42, 0, 10, 26), (45, 0, 10, 27), (48, 0, 10, 28), (51, 0, 10, 29), (54, 0, 10, 30), (162, 0, 10, 31), (57, 0, 10, 32), (60, 0, 10, 33), (63, 0, 10, 34), (165, 0, 10, 35), (66, 0, 10, 36), (69, 0, 10, 37), (1, 8, 0, 0), (79, 2, 126, 0), (106, 2, 128, 0), (96, 2, 129, 0), (153, 2, 130, 0), (110, 2, 131, 0), (139, 2, 132, 0), (124, 2, 133, 0), (143, 2, 134, 0), (146, 2, 135, 0), (149, 2, 136, 0), (171, 2, 139, 0), (174, 2, 141, 0), (178, 2, 142, 0), (183, 2, 144, 0), (187, 2, 146, 0), (205, 2, 148, 0), (198, 2, 149, 0), (208, 2, 150, 0), (191, 2, 151, 0), (195, 2, 152, 0), (212, 2, 155, 0), (220, 2, 159, 0), (223, 2, 160, 0), (217, 2, 161, 0), (233, 2, 164, 0), (238, 2, 167, 0), (242, 2, 170, 0), (245, 2, 171, 0), (248, 2, 172, 0), (259, 2, 174, 0), (255, 2, 175, 0), (251, 2, 176, 0), (265, 2, 178, 0), (262, 2, 179, 0), (88, 5, 3294967294, 0), (92, 5, 3294967292, 0), (177, 5, 3294967295, 0), (190, 5, 100000, 0), (204, 5, 3294967293, 0), (232, 5, 65536, 0), (254, 5, 1000000, 0), (86, 6, 255, 0), (114, 6, 48, 0), (116, 6, 57, 0), (181, 6, 7, 0), (202, 6, 30, 0), (215, 6, 18446744073709551615, 0), (226, 6, 1103515245, 0), (228, 6, 12345, 0), (230, 6, 2147483648, 0), (236, 6, 3, 0), (268, 6, 8, 0), (270, 6, 100, 0), (272, 6, 1000000000, 0)]
def mj_pl_10 : List Nat := [847, 848, 849, 850, 851, 852, 853, 854, 855, 856, 857, 858, 859, 860, 861, 862, 863, 864, 865, 866, 867, 868, 869, 870, 871, 872, 873, 874, 875, 876, 877, 878, 879, 880, 881, 882, 883, 884, 846, 967, 976, 980, 984, 988, 992, 996, 1002, 1006, 1010, 1022, 1030, 1035, 1044, 1052, 1063, 1067, 1071, 1075, 1079, 1091, 1108, 1112, 1116, 1127, 1144, 1156, 1160, 1164, 1172, 1177, 1181, 1188, 1192, 970, 971, 1034, 1056, 1062, 1134, 1176, 966, 1000, 1001, 1043, 1061, 1103, 1131, 1132, 1133, 1143, 1204, 1205, 1206]
def mj_pool_11 : List mj_E := [(10, 2, 37, 0), (16, 2, 36, 0), (9, 5, 16777215, 0)]
def mj_pl_11 : List Nat := [473, 496, 541]
def mj_pool_12 : List mj_E := [(9, 2, 0, 0), (13, 2, 10, 0), (18, 2, 12, 0), (23, 2, 33, 0), (27, 2, 34, 0), (31, 2, 38, 0), (36, 2, 41, 0), (40, 2, 43, 0), (44, 2, 45, 0), (48, 2, 54, 0), (52, 2, 55, 0), (56, 2, 58, 0), (60, 2, 59, 0), (64, 2, 60, 0), (69, 2, 64, 0), (74, 2, 65, 0), (78, 2, 68, 0), (82, 2, 70, 0), (86, 2, 80, 0), (90, 2, 82, 0), (94, 2, 86, 0), (98, 2, 98, 0), (102, 2, 101, 0), (106, 2, 105, 0), (110, 2, 106, 0), (115, 2, 108, 0), (119, 2, 113, 0), (123, 2, 115, 0), (127, 2, 117, 0), (131, 2, 118, 0), (135, 2, 119, 0), (139, 2, 121, 0), (12, 2, 124, 0), (17, 2, 125, 0), (22, 2, 127, 0), (26, 2, 137, 0), (30, 2, 138, 0), (35, 2, 140, 0), (39, 2, 143, 0), (43, 2, 145, 0), (47, 2, 147, 0), (51, 2, 153, 0), (55, 2, 154, 0), (59, 2, 156, 0), (63, 2, 157, 0), (68, 2, 158, 0), (73, 2, 162, 0), (77, 2, 163, 0), (81, 2, 165, 0), (85, 2, 166, 0), (89, 2, 168, 0), (93, 2, 169, 0), (97, 2, 173, 0), (101, 2, 177, 0), (105, 2, 180, 0), (109, 2, 181, 0), (114, 2, 182, 0), (118, 2, 183, 0), (122, 2, 184, 0), (126, 2, 185, 0), (130, 2, 186, 0), (134, 2, 187, 0), (138, 2, 188, 0), (142, 2, 189, 0), (7, 4, 9, 0), (10, 4, 10, 0)]
def mj_pl_12 : List Nat := [78, 361, 371, 458, 462, 476, 489, 497, 506, 546, 550, 562, 566, 570, 586, 590, 605, 613, 652, 660, 677, 728, 739, 755, 762, 771, 794, 803, 812, 816, 820, 829, 843, 962, 972, 1014, 1018, 1026, 1039, 1048, 1057, 1083, 1087, 1095, 1099, 1104, 1119, 1123, 1135, 1139, 1148, 1152, 1168, 1184, 1196, 1200, 1207, 1211, 1215, 1219, 1223, 1227, 1231, 1235, 76, 841]
def mj_pool_13 : List mj_E := [(265, 5, 1431655765, 0), (266, 5, 858993459, 0), (267, 5, 252645135, 0)]
def mj_pl_13 : List Nat := [700, 701, 702]
def mj_pool_14 : List mj_E := []
def mj_pl_14 : List Nat := []
def mj_pools : List (List mj_E) := [mj_pool_0, mj_pool_1, mj_pool_2, mj_pool_3, mj_pool_4, mj_pool_5, mj_pool_6, mj_pool_7, mj_pool_8, mj_pool_9, mj_pool_10, mj_pool_11, mj_pool_12, mj_pool_13, mj_pool_14]
def mj_law : mj_M := (x, code, 4, some .boolean, 12, 1, 0, 7, 156)
def mj_tys : List (Nat → FieldType) := [(fun k => tyX0 k), (fun k => tyX1 k), (fun k => tyX2 k), (fun k => tyX3 k), (fun k => tyX4 k), (fun k => tyX5 k), (fun k => tyX6 k), (fun k => tyX8 k), (fun k => tyX9 k), (fun k => tyX10 k), (fun k => tyX11 k)]
def mj_plC_0 : List Nat := [80, 88, 94, 172, 211, 231, 250, 270, 287, 303, 364, 369, 374, 378, 382, 386, 390, 394, 398, 402, 406, 410, 414, 418]
def mj_plC_1 : List Nat := [421, 425, 429, 433, 437, 441, 448, 453, 457, 461, 465, 469, 472, 475, 479, 483, 488, 492, 495, 500, 504, 509, 513, 519]
def mj_plC_2 : List Nat := [522, 526, 533, 537, 540, 545, 549, 553, 557, 561, 565, 569, 573, 577, 581, 585, 589, 593, 597, 601, 608, 612, 616, 620]
def mj_plC_3 : List Nat := [624, 629, 634, 637, 641, 644, 647, 651, 655, 659, 663, 667, 672, 676, 680, 684, 688, 691, 696, 699, 707, 711, 715, 719]
def mj_plC_4 : List Nat := [723, 727, 731, 735, 738, 742, 746, 749, 753, 758, 765, 769, 774, 778, 782, 786, 790, 797, 801, 806, 810, 815, 819, 823]
def mj_plC_5 : List Nat := [827, 832, 836, 840, 845, 965, 969, 975, 979, 983, 987, 991, 995, 999, 1005, 1009, 1013, 1017, 1021, 1025, 1029, 1033, 1038, 1042]
def mj_plC_6 : List Nat := [1047, 1051, 1055, 1060, 1066, 1070, 1074, 1078, 1082, 1086, 1090, 1094, 1098, 1102, 1107, 1111, 1115, 1118, 1122, 1126, 1130, 1138, 1142, 1147]
def mj_plC_7 : List Nat := [1151, 1155, 1159, 1163, 1167, 1171, 1175, 1180, 1183, 1187, 1191, 1195, 1199, 1203, 1210, 1214, 1218, 1222, 1226, 1230, 1234, 1238]
end
section
/-- the words that stay good at every call -/
def mj_tbl : List Cond := lw_tbl.filter goodWord
def mj_wC (M : mj_M) : Cond := .code M.1 M.2.1 M.2.2.1 M.2.2.2.1
def mj_wI (M : mj_M) : Cond := .initialized M.1.cls
def mj_wK (M : mj_M) : Cond := if M.2.2.2.2.2.2.1 = 0 then .static M.1 else .instanceMethod M.1
def mj_wS (M : mj_M) : Cond := .selects M.1.cls M.1 M.1
theorem mj_places {big : List Cond} (ws : List Cond) (ps : List Nat) (hp : ws = ps.filterMap (fun i => big[i]?)) : ∀ w ∈ ws, w ∈ big := by
  intro w hw
  rw [hp] at hw
  obtain ⟨i, -, hi⟩ := List.mem_filterMap.mp hw
  exact List.mem_of_getElem? hi
set_option maxRecDepth 100000 in
set_option maxHeartbeats 4000000 in
theorem mj_inC_0 : ∀ w ∈ mj_meths_0.map mj_wC, w ∈ lw_tbl := mj_places _ mj_plC_0 rfl
set_option maxRecDepth 100000 in
set_option maxHeartbeats 4000000 in
theorem mj_inC_1 : ∀ w ∈ mj_meths_1.map mj_wC, w ∈ lw_tbl := mj_places _ mj_plC_1 rfl
set_option maxRecDepth 100000 in
set_option maxHeartbeats 4000000 in
theorem mj_inC_2 : ∀ w ∈ mj_meths_2.map mj_wC, w ∈ lw_tbl := mj_places _ mj_plC_2 rfl
set_option maxRecDepth 100000 in
set_option maxHeartbeats 4000000 in
theorem mj_inC_3 : ∀ w ∈ mj_meths_3.map mj_wC, w ∈ lw_tbl := mj_places _ mj_plC_3 rfl
set_option maxRecDepth 100000 in
set_option maxHeartbeats 4000000 in
theorem mj_inC_4 : ∀ w ∈ mj_meths_4.map mj_wC, w ∈ lw_tbl := mj_places _ mj_plC_4 rfl
set_option maxRecDepth 100000 in
set_option maxHeartbeats 4000000 in
theorem mj_inC_5 : ∀ w ∈ mj_meths_5.map mj_wC, w ∈ lw_tbl := mj_places _ mj_plC_5 rfl
set_option maxRecDepth 100000 in
set_option maxHeartbeats 4000000 in
theorem mj_inC_6 : ∀ w ∈ mj_meths_6.map mj_wC, w ∈ lw_tbl := mj_places _ mj_plC_6 rfl
set_option maxRecDepth 100000 in
set_option maxHeartbeats 4000000 in
theorem mj_inC_7 : ∀ w ∈ mj_meths_7.map mj_wC, w ∈ lw_tbl := mj_places _ mj_plC_7 rfl
theorem mj_inC : ∀ w ∈ mj_meths.map mj_wC, w ∈ lw_tbl := by
  intro w hw
  simp only [mj_meths, List.map_append, List.mem_append] at hw
  rcases hw with h | h | h | h | h | h | h | h
  · exact mj_inC_0 w h
  · exact mj_inC_1 w h
  · exact mj_inC_2 w h
  · exact mj_inC_3 w h
  · exact mj_inC_4 w h
  · exact mj_inC_5 w h
  · exact mj_inC_6 w h
  · exact mj_inC_7 w h
set_option maxRecDepth 100000 in
theorem mj_inI : ∀ w ∈ mj_meths.map mj_wI, w ∈ lw_tbl := mj_places _ mj_plI (by decide +kernel)
set_option maxRecDepth 100000 in
theorem mj_inK : ∀ w ∈ mj_meths.map mj_wK, w ∈ lw_tbl := mj_places _ mj_plK (by decide +kernel)
set_option maxRecDepth 100000 in
theorem mj_inS : ∀ w ∈ (mj_meths.filter (fun M => M.2.2.2.2.2.2.1 == 1)).map mj_wS, w ∈ lw_tbl := mj_places _ mj_plS (by decide +kernel)
set_option maxRecDepth 100000 in
/-- what is plain of every method -/
theorem mj_plain : ∀ M ∈ mj_meths, plainFor M.1 = true ∧ mj_names[M.2.2.2.2.1]? = some M.1.cls ∧ M.1.cls ≠ "java/lang/invoke/MethodHandle" ∧ M.1.cls ≠ "java/lang/invoke/VarHandle" ∧ (parseMethodDescriptor M.1.desc).map (fun d => d.parameters.length) = some M.2.2.2.2.2.1 ∧ (M.2.2.2.2.2.2.1 = 2 → M.1.name = "<init>" ∧ M.2.2.2.1 = none) := by decide +kernel
/-- the word that an entry of a pool stands for -/
def mj_word (C : String) (e : mj_E) : Cond :=
  let T : u_T := match vwCl[e.2.2.1]? with
    | some q => q.2.1
    | none => fun _ => ("", "", "", false)
  let y : MethodName := match mj_meths[e.2.2.1]? with
    | some M => M.1
    | none => ⟨"", "", ""⟩
  match e.2.1 with
  | 0 => .fieldLink C e.1 (T e.2.2.2).1 (T e.2.2.2).2.1 (T e.2.2.2).2.2.1
  | 1 => .fieldLinkNest C e.1 (T e.2.2.2).1 (T e.2.2.2).2.1 (T e.2.2.2).2.2.1 "SootMaps"
  | 2 => .methodLink C e.1 y
  | 3 => .methodLinkNest C e.1 y "SootMaps"
  | 4 => .classLink C e.1 (mj_names.getD e.2.2.1 "")
  | 5 => .constant C e.1 (Int32.ofNat e.2.2.1)
  | 6 => .constantLong C e.1 (Int64.ofNat e.2.2.1)
  | 7 => .methodLink C e.1 arraycopyName
  | 8 => .methodLink C e.1 objectInit
  | 9 => .methodLink C e.1 Lib.Math.max.name
  | 10 => .methodLink C e.1 Lib.Math.min.name
  | _ => .methodLink C e.1 ⟨"java/lang/Math", "floorMod", "(II)I"⟩
set_option maxRecDepth 100000 in
theorem mj_in_0 : ∀ w ∈ mj_pool_0.map (mj_word "SootMaps$Bargain"), w ∈ lw_tbl := mj_places _ mj_pl_0 (by decide +kernel)
set_option maxRecDepth 100000 in
theorem mj_in_1 : ∀ w ∈ mj_pool_1.map (mj_word "SootMaps$Book"), w ∈ lw_tbl := mj_places _ mj_pl_1 (by decide +kernel)
set_option maxRecDepth 100000 in
theorem mj_in_2 : ∀ w ∈ mj_pool_2.map (mj_word "SootMaps$Images"), w ∈ lw_tbl := mj_places _ mj_pl_2 (by decide +kernel)
set_option maxRecDepth 100000 in
theorem mj_in_3 : ∀ w ∈ mj_pool_3.map (mj_word "SootMaps$Past"), w ∈ lw_tbl := mj_places _ mj_pl_3 (by decide +kernel)
set_option maxRecDepth 100000 in
theorem mj_in_4 : ∀ w ∈ mj_pool_4.map (mj_word "SootMaps$Plan"), w ∈ lw_tbl := mj_places _ mj_pl_4 (by decide +kernel)
set_option maxRecDepth 100000 in
theorem mj_in_5 : ∀ w ∈ mj_pool_5.map (mj_word "SootMaps$Rows"), w ∈ lw_tbl := mj_places _ mj_pl_5 (by decide +kernel)
set_option maxRecDepth 100000 in
theorem mj_in_6 : ∀ w ∈ mj_pool_6.map (mj_word "SootMaps$Sights"), w ∈ lw_tbl := mj_places _ mj_pl_6 (by decide +kernel)
set_option maxRecDepth 100000 in
theorem mj_in_7 : ∀ w ∈ mj_pool_7.map (mj_word "SootMaps$Streets"), w ∈ lw_tbl := mj_places _ mj_pl_7 (by decide +kernel)
set_option maxRecDepth 100000 in
theorem mj_in_8 : ∀ w ∈ mj_pool_8.map (mj_word "SootMaps$Text"), w ∈ lw_tbl := mj_places _ mj_pl_8 (by decide +kernel)
set_option maxRecDepth 100000 in
theorem mj_in_9 : ∀ w ∈ mj_pool_9.map (mj_word "SootMaps"), w ∈ lw_tbl := mj_places _ mj_pl_9 (by decide +kernel)
set_option maxRecDepth 100000 in
theorem mj_in_10 : ∀ w ∈ mj_pool_10.map (mj_word "SootMapsModel"), w ∈ lw_tbl := mj_places _ mj_pl_10 (by decide +kernel)
set_option maxRecDepth 100000 in
theorem mj_in_11 : ∀ w ∈ mj_pool_11.map (mj_word "SootMaps$Soot"), w ∈ lw_tbl := mj_places _ mj_pl_11 (by decide +kernel)
set_option maxRecDepth 100000 in
theorem mj_in_12 : ∀ w ∈ mj_pool_12.map (mj_word "SootMapsLaw"), w ∈ lw_tbl := mj_places _ mj_pl_12 (by decide +kernel)
set_option maxRecDepth 100000 in
theorem mj_in_13 : ∀ w ∈ mj_pool_13.map (mj_word "java/lang/Integer"), w ∈ lw_tbl := mj_places _ mj_pl_13 (by decide +kernel)
set_option maxRecDepth 100000 in
theorem mj_in_14 : ∀ w ∈ mj_pool_14.map (mj_word "java/lang/Math"), w ∈ lw_tbl := mj_places _ mj_pl_14 (by decide +kernel)
theorem mj_inP (o : Nat) (pool : List mj_E) (C : String) (hp : mj_pools[o]? = some pool) (hn : mj_names[o]? = some C) : ∀ e ∈ pool, mj_word C e ∈ lw_tbl := by
  have key : ∀ (o : Nat) (pool : List mj_E) (C : String), mj_pools[o]? = some pool → mj_names[o]? = some C → ∀ w ∈ pool.map (mj_word C), w ∈ lw_tbl := by
    intro o pool C hp hn
    match o, hp, hn with
    | 0, hp, hn => cases hp; cases hn; exact mj_in_0
    | 1, hp, hn => cases hp; cases hn; exact mj_in_1
    | 2, hp, hn => cases hp; cases hn; exact mj_in_2
    | 3, hp, hn => cases hp; cases hn; exact mj_in_3
    | 4, hp, hn => cases hp; cases hn; exact mj_in_4
    | 5, hp, hn => cases hp; cases hn; exact mj_in_5
    | 6, hp, hn => cases hp; cases hn; exact mj_in_6
    | 7, hp, hn => cases hp; cases hn; exact mj_in_7
    | 8, hp, hn => cases hp; cases hn; exact mj_in_8
    | 9, hp, hn => cases hp; cases hn; exact mj_in_9
    | 10, hp, hn => cases hp; cases hn; exact mj_in_10
    | 11, hp, hn => cases hp; cases hn; exact mj_in_11
    | 12, hp, hn => cases hp; cases hn; exact mj_in_12
    | 13, hp, hn => cases hp; cases hn; exact mj_in_13
    | 14, hp, hn => cases hp; cases hn; exact mj_in_14
    | n + 15, hp, hn => simp [mj_pools] at hp
  exact fun e he => key o pool C hp hn _ (List.mem_map_of_mem he)
end
section
/-! A small machine of our own: values are the model's own, a reference is the place of a cell in a list, the script's reference is '.retAddr 0' -/
/-- a cell: the place of its class in vwCl and its fields; or 100 (int[]), 101 (char[]), 102 (boolean[]), 103 (Streets[]) and its elements -/
abbrev mj_C : Type := Nat × List Value
abbrev mj_H : Type := List mj_C
abbrev mj_L : Type := List (Nat × Value)
abbrev mj_S : Type := mj_M × Nat × mj_L × List Value × mj_H
abbrev mj_O : Type := Option (Option Value × mj_H)
def mj_get (lv : mj_L) (i : Nat) : Option Value := (lv.find? (fun q => q.1 == i)).map (fun q => q.2)
def mj_put1 (lv : mj_L) (i : Nat) (v : Value) : mj_L := (i, v) :: lv.filter (fun q => !(q.1 == i) && !(q.1 + 1 == i && q.2.category == 2))
def mj_put2 (lv : mj_L) (i : Nat) (v : Value) : mj_L := (i, v) :: lv.filter (fun q => !(q.1 == i) && (!(q.1 == i + 1) && !(q.1 + 1 == i && q.2.category == 2)))
def mj_ii (st : List Value) (f : Int32 → Int32 → Option Int32) : Option (List Value) := match st with
  | .int y :: .int x :: r => match f x y with
    | some v => some (.int v :: r)
    | none => none
  | _ => none
def mj_ll (st : List Value) (f : Int64 → Int64 → Option Int64) : Option (List Value) := match st with
  | .long y :: .long x :: r => match f x y with
    | some v => some (.long v :: r)
    | none => none
  | _ => none
/-- what an instruction of one byte that looks at the stack alone makes of it -/
def mj_alu (ins : Instr) (st : List Value) : Option (List Value) := match ins with
  | .iconst n => some (.int (Int32.ofInt n) :: st)
  | .lconst n => some (.long (Int64.ofNat (n : Nat)) :: st)
  | .iadd => mj_ii st (fun x y => some (x + y))
  | .isub => mj_ii st (fun x y => some (x - y))
  | .imul => mj_ii st (fun x y => some (x * y))
  | .iand => mj_ii st (fun x y => some (x &&& y))
  | .ior => mj_ii st (fun x y => some (x ||| y))
  | .ixor => mj_ii st (fun x y => some (x ^^^ y))
  | .idiv => mj_ii st (fun x y => if y = 0 then none else some (x / y))
  | .irem => mj_ii st (fun x y => if y = 0 then none else some (x - (x / y) * y))
  | .ishl => mj_ii st (fun x y => some (x <<< (y &&& 31)))
  | .ishr => mj_ii st (fun x y => some (x >>> (y &&& 31)))
  | .iushr => mj_ii st (fun x y => some ((x.toUInt32 >>> (y.toUInt32 &&& Int32.toUInt32 31)).toInt32))
  | .ladd => mj_ll st (fun x y => some (x + y))
  | .lmul => mj_ll st (fun x y => some (x * y))
  | .ldiv => mj_ll st (fun x y => if y = 0 then none else some (x / y))
  | .lrem => mj_ll st (fun x y => if y = 0 then none else some (x - (x / y) * y))
  | .lcmp => match st with
    | .long y :: .long x :: r => some (.int (lg_cmp x y) :: r)
    | _ => none
  | .i2l => match st with
    | .int x :: r => some (.long x.toInt64 :: r)
    | _ => none
  | .l2i => match st with
    | .long x :: r => some (.int x.toInt32 :: r)
    | _ => none
  | .i2c => match st with
    | .int x :: r => some (.int ((x.toUInt32 % 65536).toInt32) :: r)
    | _ => none
  | .dup => match st with
    | v :: r => if v.category = 1 then some (v :: v :: r) else none
    | _ => none
  | .pop => match st with
    | v :: r => if v.category = 1 then some r else none
    | _ => none
  | .dup2 => match st with
    | v :: w :: r => if v.category = 1 ∧ w.category = 1 then some (v :: w :: v :: w :: r) else none
    | _ => none
  | _ => none
def mj_cmp (c : ClassFile.Cond) (x y : Int32) : Bool := match c with
  | .eq => decide (x = y)
  | .ne => decide (¬ x = y)
  | .lt => decide (x < y)
  | .ge => decide (y ≤ x)
  | .gt => decide (y < x)
  | .le => decide (x ≤ y)
def mj_to (pc : Nat) (off : Int) : Option Nat := if 0 ≤ (pc : Int) + off then some ((pc : Int) + off).toNat else none
/-- where a branch goes, and what it leaves on the stack -/
def mj_br (ins : Instr) (len pc : Nat) (st : List Value) : Option (Nat × List Value) := match ins with
  | .goto off => if len = 3 then (mj_to pc off).map (fun t => (t, st)) else none
  | .ifCond c off => match st with
    | .int x :: r => if len = 3 then (mj_to pc off).map (fun t => (if mj_cmp c x 0 = true then t else pc + 3, r)) else none
    | _ => none
  | .if_icmp c off => match st with
    | .int y :: .int x :: r => if len = 3 then (mj_to pc off).map (fun t => (if mj_cmp c x y = true then t else pc + 3, r)) else none
    | _ => none
  | .tableswitch d lo hi offs => match st with
    | .int x :: r => if x.toInt < lo ∨ hi < x.toInt then (mj_to pc d).map (fun t => (t, r)) else match offs[(x.toInt - lo).toNat]? with
      | some off => (mj_to pc off).map (fun t => (t, r))
      | none => none
    | _ => none
  | .lookupswitch d ps => match st with
    | .int x :: r => if (ps.toList.zip (ps.toList.drop 1)).all (fun (a, next) => a.1 < next.1) = true then (mj_to pc (Op.lookupswitch.offset ps.toList d x.toInt)).map (fun t => (t, r)) else none
    | _ => none
  | _ => none
/-- locals: the new ones, the new stack; n is how many there may be -/
def mj_lo1 (i n len want : Nat) (lv : mj_L) (st : List Value) (ok : Value → Bool) : Option (mj_L × List Value) :=
  if len = want then match mj_get lv i with
    | some v => if ok v then some (lv, v :: st) else none
    | none => none
  else none
def mj_st1 (i n len want : Nat) (lv : mj_L) (st : List Value) (ok : Value → Bool) : Option (mj_L × List Value) :=
  if len = want ∧ i < n then match st with
    | v :: r => if ok v then some (mj_put1 lv i v, r) else none
    | _ => none
  else none
def mj_isI (v : Value) : Bool := match v with
  | .int _ => true
  | _ => false
def mj_isL (v : Value) : Bool := match v with
  | .long _ => true
  | _ => false
def mj_isA (v : Value) : Bool := match v with
  | .ref _ => true
  | .retAddr _ => true
  | _ => false
def mj_isR (v : Value) : Bool := match v with
  | .ref _ => true
  | _ => false
def mj_loc (ins : Instr) (len n : Nat) (lv : mj_L) (st : List Value) : Option (mj_L × List Value) := match ins with
  | .iload_n k => mj_lo1 k n len 1 lv st mj_isI
  | .iload i => mj_lo1 i n len 2 lv st mj_isI
  | .lload_n k => mj_lo1 k n len 1 lv st mj_isL
  | .lload i => mj_lo1 i n len 2 lv st mj_isL
  | .aload_n k => mj_lo1 k n len 1 lv st mj_isA
  | .aload i => mj_lo1 i n len 2 lv st mj_isA
  | .istore_n k => mj_st1 k n len 1 lv st mj_isI
  | .istore i => mj_st1 i n len 2 lv st mj_isI
  | .astore_n k => mj_st1 k n len 1 lv st mj_isR
  | .astore i => mj_st1 i n len 2 lv st mj_isR
  | .lstore_n k => if len = 1 ∧ (k : Nat) + 1 < n then match st with
    | .long x :: r => some (mj_put2 lv k (.long x), r)
    | _ => none
    else none
  | .iinc i d => if len = 3 ∧ i < n then match mj_get lv i with
    | some (.int x) => some (mj_put1 lv i (.int (x + Int32.ofInt d)), st)
    | _ => none
    else none
  | _ => none
/-- how long an instruction of mj_loc is -/
def mj_tag (a : ArrayType) : Option Nat := match a with
  | .int => some 100
  | .char => some 101
  | .boolean => some 102
  | _ => none
def mj_elt (t : Nat) : FieldType := if t = 100 then .int else if t = 101 then .char else if t = 102 then .boolean else .object "SootMaps$Streets"
/-- an element of an array of kind t -/
def mj_ald (t : Nat) (sc : Option (List Int32)) (st : List Value) (h : mj_H) : Option (List Value) := match st with
  | .int j :: .ref a :: r => match h[a]? with
    | some (t', xs) => if t' = t ∧ ¬ j < 0 then match xs[j.toNatClampNeg]? with
      | some v => some (v :: r)
      | none => none
      else none
    | none => none
  | .int j :: .retAddr _ :: r => match sc with
    | some sc => if t = 100 ∧ ¬ j < 0 then match sc[j.toNatClampNeg]? with
      | some v => some (.int v :: r)
      | none => none
      else none
    | none => none
  | _ => none
/-- an int into an array of kind t -/
def mj_ast (t : Nat) (st : List Value) (h : mj_H) : Option (List Value × mj_H) := match st with
  | .int x :: .int j :: .ref a :: r => match h[a]? with
    | some (t', xs) => if t' = t ∧ ¬ j < 0 ∧ j.toNatClampNeg < xs.length then some (r, h.set a (t', xs.set j.toNatClampNeg (narrow (mj_elt t) (.int x)))) else none
    | none => none
  | _ => none
def mj_aast (st : List Value) (h : mj_H) : Option (List Value × mj_H) := match st with
  | .ref v :: .int j :: .ref a :: r => match h[a]?, h[v]? with
    | some (t, xs), some (7, _) => if t = 103 ∧ ¬ j < 0 ∧ j.toNatClampNeg < xs.length then some (r, h.set a (t, xs.set j.toNatClampNeg (.ref v))) else none
    | _, _ => none
  | _ => none
def mj_alen (sc : Option (List Int32)) (st : List Value) (h : mj_H) : Option (List Value) := match st with
  | .ref a :: r => match h[a]? with
    | some (t, xs) => if 100 ≤ t ∧ t < 104 then some (.int (Int32.ofNat xs.length) :: r) else none
    | none => none
  | .retAddr _ :: r => match sc with
    | some sc => some (.int (Int32.ofNat sc.length) :: r)
    | none => none
  | _ => none
def mj_ent (M : mj_M) (idx : Nat) : Option mj_E := match mj_pools[M.2.2.2.2.1]? with
  | some pool => pool.find? (fun e => e.1 == idx)
  | none => none
def mj_gf (M : mj_M) (idx : Nat) (st : List Value) (h : mj_H) : Option (List Value) := match mj_ent M idx with
  | some (_, kd, ci, k) => if kd ≤ 1 then match st with
    | .ref a :: r => match h[a]? with
      | some (t, xs) => if t = ci ∧ ci < 11 then match xs[k]? with
        | some v => some (v :: r)
        | none => none
        else none
      | none => none
    | _ => none
    else none
  | none => none
def mj_ty (ci k : Nat) : FieldType := match mj_tys[ci]? with
  | some f => f k
  | none => .int
def mj_fin (ci k : Nat) : Bool := match vwCl[ci]? with
  | some q => (q.2.1 k).2.2.2
  | none => true
def mj_pf (M : mj_M) (idx : Nat) (st : List Value) (h : mj_H) : Option (List Value × mj_H) := match mj_ent M idx with
  | some (_, kd, ci, k) => if kd ≤ 1 then match st with
    | v :: .ref a :: r => match h[a]? with
      | some (t, xs) => if t = ci ∧ ci < 11 ∧ k < xs.length ∧ narrow (mj_ty ci k) v = v ∧ fits (mj_ty ci k) v = true ∧ (mj_fin ci k = false ∨ (kd = 0 ∧ M.2.2.2.2.2.2.1 = 2 ∧ M.2.2.2.2.1 = ci ∧ mj_fin ci k = true)) then some (r, h.set a (t, xs.set k v)) else none
      | none => none
    | _ => none
    else none
  | none => none
def mj_nf (ci : Nat) : Nat := match vwCl[ci]? with
  | some q => q.2.2
  | none => 0
def mj_new (M : mj_M) (idx : Nat) (st : List Value) (h : mj_H) : Option (List Value × mj_H) := match mj_ent M idx with
  | some (_, kd, ci, _) => if kd = 4 ∧ ci < 11 then some (.ref h.length :: st, h ++ [(ci, (List.range (mj_nf ci)).map (fun k => defaultValue (mj_ty ci k)))]) else none
  | none => none
def mj_newa (a : ArrayType) (st : List Value) (h : mj_H) : Option (List Value × mj_H) := match mj_tag a, st with
  | some t, .int n :: r => if ¬ n < 0 ∧ n.toNatClampNeg ≤ 1000000 then some (.ref h.length :: r, h ++ [(t, List.replicate n.toNatClampNeg (.int 0))]) else none
  | _, _ => none
def mj_anew (M : mj_M) (idx : Nat) (st : List Value) (h : mj_H) : Option (List Value × mj_H) := match mj_ent M idx, st with
  | some (_, kd, ci, _), .int n :: r => if kd = 4 ∧ ci = 7 ∧ ¬ n < 0 ∧ n.toNatClampNeg ≤ 1000000 then some (.ref h.length :: r, h ++ [(103, List.replicate n.toNatClampNeg .null)]) else none
  | _, _ => none
def mj_ldc (M : mj_M) (idx : Nat) (st : List Value) : Option (List Value) := match mj_ent M idx with
  | some (_, kd, v, _) => if kd = 5 then some (.int (Int32.ofNat v) :: st) else none
  | none => none
def mj_ldc2 (M : mj_M) (idx : Nat) (st : List Value) : Option (List Value) := match mj_ent M idx with
  | some (_, kd, v, _) => if kd = 6 then some (.long (Int64.ofNat v) :: st) else none
  | none => none
def mj_cpy (xs ys : List Value) (sp dp n : Nat) : List Value := ys.take dp ++ (xs.drop sp).take n ++ ys.drop (dp + n)
def mj_acopy (M : mj_M) (st : List Value) (h : mj_H) : Option (List Value × mj_H) := match st with
  | .int n :: .int dp :: .ref d :: .int sp :: .ref a :: r => match h[a]?, h[d]? with
    | some (t, xs), some (t', ys) => if t = 100 ∧ t' = 100 ∧ ¬ sp < 0 ∧ ¬ dp < 0 ∧ ¬ n < 0 ∧ sp.toNatClampNeg + n.toNatClampNeg ≤ xs.length ∧ dp.toNatClampNeg + n.toNatClampNeg ≤ ys.length ∧ ((xs.drop sp.toNatClampNeg).take n.toNatClampNeg).all mj_isI = true ∧ 1 ≤ M.2.2.2.2.2.2.2.1 ∧ (r.map fun v => v.category).sum + 18 ≤ M.2.2.2.2.2.2.2.2 then
        some (r, h.set d (t', mj_cpy xs ys sp.toNatClampNeg dp.toNatClampNeg n.toNatClampNeg)) else none
    | _, _ => none
  | _ => none
/-- Math.max and Math.min -/
def mj_mm (M : mj_M) (kd : Nat) (st : List Value) : Option (List Value) := match st with
  | .int y :: .int x :: r => if 1 ≤ M.2.2.2.2.2.2.2.1 ∧ (r.map fun v => v.category).sum + 13 ≤ M.2.2.2.2.2.2.2.2 then (if kd = 9 then some (.int (if x < y then y else x) :: r) else some (.int (if y < x then y else x) :: r)) else none
  | _ => none
/-- a call: the arguments' count n, the method, the stack behind it; what is called runs by kc, what is behind it by k -/
def mj_call (kc k : mj_S → mj_O) (M : mj_M) (pc : Nat) (lv : mj_L) (st : List Value) (h : mj_H) (M' : mj_M) (n : Nat) : mj_O :=
  if n ≤ st.length ∧ ((st.drop n).map fun v => v.category).sum ≤ 8 ∧ M'.2.2.2.2.2.2.2.1 + 1 ≤ M.2.2.2.2.2.2.2.1 ∧ 8 + (M'.2.2.1 + 11) + M'.2.2.2.2.2.2.2.2 ≤ M.2.2.2.2.2.2.2.2 ∧ (lg_sl (st.take n).reverse).length ≤ M'.2.2.1 then
    match kc (M', 0, lv_args 0 (st.take n).reverse, [], h) with
    | some (r, h1) => k (M, pc + 3, lv, r.toList ++ st.drop n, h1)
    | none => none
  else none
def mj_step (sc : Option (List Int32)) (kc k : mj_S → mj_O) (S : mj_S) : mj_O := match S with
  | (M, pc, lv, st, h) => match decode M.2.1 pc with
    | .error _ => none
    | .ok (ins, len) => match ins with
      | .bipush n => if len = 2 then k (M, pc + 2, lv, .int (Int8.ofInt n).toInt32 :: st, h) else none
      | .sipush n => if len = 3 then k (M, pc + 3, lv, .int (Int16.ofInt n).toInt32 :: st, h) else none
      | .ldc idx => if len = 2 then match mj_ldc M idx st with
        | some st' => k (M, pc + 2, lv, st', h)
        | none => none
        else none
      | .ldc_w idx => if len = 3 then match mj_ldc M idx st with
        | some st' => k (M, pc + 3, lv, st', h)
        | none => none
        else none
      | .ldc2_w idx => if len = 3 then match mj_ldc2 M idx st with
        | some st' => k (M, pc + 3, lv, st', h)
        | none => none
        else none
      | .getfield idx => if len = 3 then match mj_gf M idx st h with
        | some st' => k (M, pc + 3, lv, st', h)
        | none => none
        else none
      | .putfield idx => if len = 3 then match mj_pf M idx st h with
        | some (st', h') => k (M, pc + 3, lv, st', h')
        | none => none
        else none
      | .new idx => if len = 3 then match mj_new M idx st h with
        | some (st', h') => k (M, pc + 3, lv, st', h')
        | none => none
        else none
      | .newarray a => if len = 2 then match mj_newa a st h with
        | some (st', h') => k (M, pc + 2, lv, st', h')
        | none => none
        else none
      | .anewarray idx => if len = 3 then match mj_anew M idx st h with
        | some (st', h') => k (M, pc + 3, lv, st', h')
        | none => none
        else none
      | .iaload => if len = 1 then match mj_ald 100 sc st h with
        | some st' => k (M, pc + 1, lv, st', h)
        | none => none
        else none
      | .caload => if len = 1 then match mj_ald 101 sc st h with
        | some st' => k (M, pc + 1, lv, st', h)
        | none => none
        else none
      | .baload => if len = 1 then match mj_ald 102 sc st h with
        | some st' => k (M, pc + 1, lv, st', h)
        | none => none
        else none
      | .aaload => if len = 1 then match mj_ald 103 sc st h with
        | some st' => k (M, pc + 1, lv, st', h)
        | none => none
        else none
      | .iastore => if len = 1 then match mj_ast 100 st h with
        | some (st', h') => k (M, pc + 1, lv, st', h')
        | none => none
        else none
      | .castore => if len = 1 then match mj_ast 101 st h with
        | some (st', h') => k (M, pc + 1, lv, st', h')
        | none => none
        else none
      | .bastore => if len = 1 then match mj_ast 102 st h with
        | some (st', h') => k (M, pc + 1, lv, st', h')
        | none => none
        else none
      | .aastore => if len = 1 then match mj_aast st h with
        | some (st', h') => k (M, pc + 1, lv, st', h')
        | none => none
        else none
      | .arraylength => if len = 1 then match mj_alen sc st h with
        | some st' => k (M, pc + 1, lv, st', h)
        | none => none
        else none
      | .ireturn => if len = 1 then match st, M.2.2.2.1 with
        | [.int v], some ty => if narrow ty (.int v) = .int v then some (some (.int v), h) else none
        | _, _ => none
        else none
      | .return_ => if len = 1 then match st, M.2.2.2.1 with
        | [], none => some (none, h)
        | _, _ => none
        else none
      | .invokestatic idx => if len = 3 then match mj_ent M idx with
        | some (_, kd, j, _) => if kd = 7 then match mj_acopy M st h with
            | some (st', h') => k (M, pc + 3, lv, st', h')
            | none => none
          else if kd = 9 ∨ kd = 10 then match mj_mm M kd st with
            | some st' => k (M, pc + 3, lv, st', h)
            | none => none
          else match mj_meths[j]? with
            | some M' => if kd = 2 ∧ M'.2.2.2.2.2.2.1 = 0 then mj_call kc k M pc lv st h M' M'.2.2.2.2.2.1 else none
            | none => none
        | none => none
        else none
      | .invokevirtual idx => if len = 3 then match mj_ent M idx with
        | some (_, kd, j, _) => match mj_meths[j]? with
            | some M' => match st[M'.2.2.2.2.2.1]? with
              | some (.ref a) => match h[a]? with
                | some (t, _) => if kd = 2 ∧ M'.2.2.2.2.2.2.1 = 1 ∧ t = M'.2.2.2.2.1 ∧ t < 11 then mj_call kc k M pc lv st h M' (M'.2.2.2.2.2.1 + 1) else none
                | none => none
              | _ => none
            | none => none
        | none => none
        else none
      | .invokespecial idx => if len = 3 then match mj_ent M idx with
        | some (_, kd, j, _) => if kd = 8 then match st with
            | .ref a :: r => if 1 ≤ M.2.2.2.2.2.2.2.1 ∧ (r.map fun v => v.category).sum + 12 ≤ M.2.2.2.2.2.2.2.2 then k (M, pc + 3, lv, r, h) else none
            | _ => none
          else match mj_meths[j]? with
            | some M' => match st[M'.2.2.2.2.2.1]? with
              | some (.ref a) => if (kd = 2 ∨ kd = 3) ∧ M'.2.2.2.2.2.2.1 = 2 then mj_call kc k M pc lv st h M' (M'.2.2.2.2.2.1 + 1) else none
              | _ => none
            | none => none
        | none => none
        else none
      | ins => match mj_br ins len pc st with
        | some (pc', st') => k (M, pc', lv, st', h)
        | none => match mj_loc ins len M.2.2.1 lv st with
          | some (lv', st') => k (M, pc + len, lv', st', h)
          | none => if len = 1 then match mj_alu ins st with
            | some st' => k (M, pc + 1, lv, st', h)
            | none => none
            else none
/-- the machine of all methods but the law, at most f steps deep: it sees no script -/
def mj_ex (f : Nat) : mj_S → mj_O := Nat.rec (fun _ => none) (fun _ k S => mj_step none k k S) f
theorem mj_ex_0 (S : mj_S) : mj_ex 0 S = none := rfl
theorem mj_ex_s (f : Nat) (S : mj_S) : mj_ex (f + 1) S = mj_step none (mj_ex f) (mj_ex f) S := rfl
/-- the law's own: its script, what runs its calls -/
def mj_exL (sc : List Int32) (kc : mj_S → mj_O) (f : Nat) : mj_S → mj_O := Nat.rec (fun _ => none) (fun _ k S => mj_step (some sc) kc k S) f
theorem mj_exL_0 (sc : List Int32) (kc : mj_S → mj_O) (S : mj_S) : mj_exL sc kc 0 S = none := rfl
theorem mj_exL_s (sc : List Int32) (kc : mj_S → mj_O) (f : Nat) (S : mj_S) : mj_exL sc kc (f + 1) S = mj_step (some sc) kc (mj_exL sc kc f) S := rfl
end
section
/-! From the small machine to the model: values, stacks, locals -/
def mj_cv (b B : Nat) (v : Value) : Value := match v with
  | .ref k => .ref (B + k)
  | .retAddr _ => .ref b
  | v => v
def mj_cl (b B : Nat) (lv : mj_L) : List (Nat × Value) := lv.map (fun q => (q.1, mj_cv b B q.2))
theorem mj_cv_cat (b B : Nat) (v : Value) : (mj_cv b B v).category = v.category := by cases v <;> rfl
theorem mj_cv_int (b B : Nat) (x : Int32) : mj_cv b B (.int x) = .int x := rfl
theorem mj_cat_sum (b B : Nat) (st : List Value) : ((st.map (mj_cv b B)).map fun v => v.category).sum = (st.map fun v => v.category).sum := by
  rw [List.map_map]
  congr 1
  exact List.map_congr_left fun v _ => mj_cv_cat b B v
theorem mj_ii_inv {st st' : List Value} {f : Int32 → Int32 → Option Int32} (h : mj_ii st f = some st') : ∃ x y r v, st = .int y :: .int x :: r ∧ f x y = some v ∧ st' = .int v :: r := by
  unfold mj_ii at h
  split at h
  · rename_i y x r
    split at h
    · rename_i v e
      cases h
      exact ⟨x, y, r, v, rfl, e, rfl⟩
    · cases h
  · cases h
theorem mj_ll_inv {st st' : List Value} {f : Int64 → Int64 → Option Int64} (h : mj_ll st f = some st') : ∃ x y r v, st = .long y :: .long x :: r ∧ f x y = some v ∧ st' = .long v :: r := by
  unfold mj_ll at h
  split at h
  · rename_i y x r
    split at h
    · rename_i v e
      cases h
      exact ⟨x, y, r, v, rfl, e, rfl⟩
    · cases h
  · cases h
section MJ1
variable {p : Program} {l : Launch} {e : Env} {R : Room} {s : State} {m : MethodId} {args : Array Value} {below : List Frame} {meth : Method} {c : Code} {H : Heap} {locs : List Loc} {cells slots : Nat} {Q : State → Prop}
variable {cc : ByteArray} {pc : Nat} {ls : Array Slot} {b B : Nat}
set_option maxHeartbeats 4000000 in
theorem mj_alu_ok (hx : p.tables.exec = Jvm.exec) (hb : c.code = cc) {ins : Instr} {st st' : List Value} (h : mj_alu ins st = some st') (hd : decode cc pc = .ok (ins, 1))
    (k : W p l e R s m args below meth c H locs cells slots Q (F0 m (pc + 1) ls (st'.map (mj_cv b B)))) : W p l e R s m args below meth c H locs cells slots Q (F0 m pc ls (st.map (mj_cv b B))) := by
  cases ins with
  | iconst n => cases h; exact lv_iconst hx hb hd rfl k
  | lconst n => cases h; exact lv_lconst hx hb hd rfl k
  | iadd => simp only [mj_alu] at h; obtain ⟨x, y, r, v, rfl, ev, rfl⟩ := mj_ii_inv h; cases ev; exact lv_iadd hx hb hd k
  | isub => simp only [mj_alu] at h; obtain ⟨x, y, r, v, rfl, ev, rfl⟩ := mj_ii_inv h; cases ev; exact lv_isub hx hb hd k
  | imul => simp only [mj_alu] at h; obtain ⟨x, y, r, v, rfl, ev, rfl⟩ := mj_ii_inv h; cases ev; exact lv_imul hx hb hd k
  | iand => simp only [mj_alu] at h; obtain ⟨x, y, r, v, rfl, ev, rfl⟩ := mj_ii_inv h; cases ev; exact lv_iand hx hb hd k
  | ior => simp only [mj_alu] at h; obtain ⟨x, y, r, v, rfl, ev, rfl⟩ := mj_ii_inv h; cases ev; exact lv_ior hx hb hd k
  | ixor => simp only [mj_alu] at h; obtain ⟨x, y, r, v, rfl, ev, rfl⟩ := mj_ii_inv h; cases ev; exact lv_ixor hx hb hd k
  | idiv =>
    simp only [mj_alu] at h
    obtain ⟨x, y, r, v, rfl, ev, rfl⟩ := mj_ii_inv h
    by_cases hy : y = 0
    · rw [if_pos hy] at ev; cases ev
    · rw [if_neg hy] at ev; cases ev; exact lv_idiv hx hb hd hy k
  | irem =>
    simp only [mj_alu] at h
    obtain ⟨x, y, r, v, rfl, ev, rfl⟩ := mj_ii_inv h
    by_cases hy : y = 0
    · rw [if_pos hy] at ev; cases ev
    · rw [if_neg hy] at ev; cases ev; exact lv_irem hx hb hd hy k
  | ishl => simp only [mj_alu] at h; obtain ⟨x, y, r, v, rfl, ev, rfl⟩ := mj_ii_inv h; cases ev; exact lv_ishl hx hb hd k
  | ishr => simp only [mj_alu] at h; obtain ⟨x, y, r, v, rfl, ev, rfl⟩ := mj_ii_inv h; cases ev; exact lv_ishr hx hb hd k
  | iushr => simp only [mj_alu] at h; obtain ⟨x, y, r, v, rfl, ev, rfl⟩ := mj_ii_inv h; cases ev; exact lv_iushr hx hb hd rfl k
  | ladd => simp only [mj_alu] at h; obtain ⟨x, y, r, v, rfl, ev, rfl⟩ := mj_ll_inv h; cases ev; exact lv_ladd hx hb hd k
  | lmul => simp only [mj_alu] at h; obtain ⟨x, y, r, v, rfl, ev, rfl⟩ := mj_ll_inv h; cases ev; exact lv_lmul hx hb hd k
  | ldiv =>
    simp only [mj_alu] at h
    obtain ⟨x, y, r, v, rfl, ev, rfl⟩ := mj_ll_inv h
    by_cases hy : y = 0
    · rw [if_pos hy] at ev; cases ev
    · rw [if_neg hy] at ev; cases ev; exact lv_ldiv hx hb hd hy k
  | lrem =>
    simp only [mj_alu] at h
    obtain ⟨x, y, r, v, rfl, ev, rfl⟩ := mj_ll_inv h
    by_cases hy : y = 0
    · rw [if_pos hy] at ev; cases ev
    · rw [if_neg hy] at ev; cases ev; exact lv_lrem hx hb hd hy k
  | lcmp =>
    simp only [mj_alu] at h
    split at h
    · cases h; exact W.lcmp hx hb hd k
    · cases h
  | i2l =>
    simp only [mj_alu] at h
    split at h
    · cases h; exact lv_i2l hx hb hd rfl k
    · cases h
  | l2i =>
    simp only [mj_alu] at h
    split at h
    · cases h; exact lv_l2i hx hb hd rfl k
    · cases h
  | i2c =>
    simp only [mj_alu] at h
    split at h
    · cases h; exact lv_i2c hx hb hd rfl k
    · cases h
  | dup =>
    simp only [mj_alu] at h
    split at h
    · split at h
      · rename_i hc; cases h; exact lv_dup hx hb hd (by rw [mj_cv_cat]; exact hc) k
      · cases h
    · cases h
  | pop =>
    simp only [mj_alu] at h
    split at h
    · split at h
      · rename_i hc; cases h; exact lv_pop hx hb hd (by rw [mj_cv_cat]; exact hc) k
      · cases h
    · cases h
  | dup2 =>
    simp only [mj_alu] at h
    split at h
    · split at h
      · rename_i hc; cases h; exact lv_dup2_11 hx hb hd (by rw [mj_cv_cat]; exact hc.1) (by rw [mj_cv_cat]; exact hc.2) k
      · cases h
    · cases h
  | _ => exact absurd (show (none : Option (List Value)) = some st' from h) (by simp)
theorem mj_to_eq {pc t : Nat} {off : Int} (h : mj_to pc off = some t) : (pc : Int) + off = (t : Int) := by
  unfold mj_to at h
  split at h
  · cases h; omega
  · cases h
theorem mj_to_map {pc : Nat} {off : Int} {f : Nat → Nat × List Value} {q : Nat × List Value} (h : (mj_to pc off).map f = some q) : ∃ t : Nat, (pc : Int) + off = (t : Int) ∧ f t = q := by
  cases ht : mj_to pc off with
  | none => rw [ht] at h; cases h
  | some t => rw [ht] at h; exact ⟨t, mj_to_eq ht, Option.some.inj h⟩
theorem mj_pick {X : Bool} {P : Prop} {t u pc' : Nat} {G : Nat → Prop} (hX : X = true ↔ P) (he : (if X = true then t else u) = pc') (k : G pc') : (P → G t) ∧ (¬ P → G u) := by
  subst he
  refine ⟨fun q => ?_, fun q => ?_⟩
  · rw [if_pos (hX.mpr q)] at k; exact k
  · rw [if_neg (fun z => q (hX.mp z))] at k; exact k
set_option maxHeartbeats 4000000 in
theorem mj_br_ok (hx : p.tables.exec = Jvm.exec) (hb : c.code = cc) {ins : Instr} {len pc' : Nat} {st st' : List Value} (h : mj_br ins len pc st = some (pc', st')) (hd : decode cc pc = .ok (ins, len))
    (k : W p l e R s m args below meth c H locs cells slots Q (F0 m pc' ls (st'.map (mj_cv b B)))) : W p l e R s m args below meth c H locs cells slots Q (F0 m pc ls (st.map (mj_cv b B))) := by
  cases ins with
  | goto off =>
    simp only [mj_br] at h
    split at h
    · rename_i hl; subst hl
      obtain ⟨t, h1, h2⟩ := mj_to_map h
      cases h2
      exact lv_goto hx hb hd h1 k
    · cases h
  | ifCond cd off =>
    simp only [mj_br] at h
    split at h
    · split at h
      · rename_i hl; subst hl
        obtain ⟨t, h1, h2⟩ := mj_to_map h
        obtain ⟨h3, rfl⟩ := Prod.mk.inj h2
        cases cd
        · have kk := mj_pick (G := fun pc => W p l e R s m args below meth c H locs cells slots Q (F0 m pc ls _)) decide_eq_true_iff h3 k
          exact lv_if_eq hx hb hd h1 kk.1 kk.2
        · have kk := mj_pick (G := fun pc => W p l e R s m args below meth c H locs cells slots Q (F0 m pc ls _)) decide_eq_true_iff h3 k
          exact lv_if_ne hx hb hd h1 kk.1 (fun q => kk.2 (fun z => z q))
        · have kk := mj_pick (G := fun pc => W p l e R s m args below meth c H locs cells slots Q (F0 m pc ls _)) decide_eq_true_iff h3 k
          exact lv_if_lt hx hb hd h1 kk.1 kk.2
        · have kk := mj_pick (G := fun pc => W p l e R s m args below meth c H locs cells slots Q (F0 m pc ls _)) decide_eq_true_iff h3 k
          exact lv_if_ge hx hb hd h1 kk.1 kk.2
        · have kk := mj_pick (G := fun pc => W p l e R s m args below meth c H locs cells slots Q (F0 m pc ls _)) decide_eq_true_iff h3 k
          exact lv_if_gt hx hb hd h1 kk.1 kk.2
        · have kk := mj_pick (G := fun pc => W p l e R s m args below meth c H locs cells slots Q (F0 m pc ls _)) decide_eq_true_iff h3 k
          exact lv_if_le hx hb hd h1 kk.1 kk.2
      · cases h
    · cases h
  | if_icmp cd off =>
    simp only [mj_br] at h
    split at h
    · split at h
      · rename_i hl; subst hl
        obtain ⟨t, h1, h2⟩ := mj_to_map h
        obtain ⟨h3, rfl⟩ := Prod.mk.inj h2
        cases cd
        · have kk := mj_pick (G := fun pc => W p l e R s m args below meth c H locs cells slots Q (F0 m pc ls _)) decide_eq_true_iff h3 k
          exact lv_icmp_eq hx hb hd h1 kk.1 kk.2
        · have kk := mj_pick (G := fun pc => W p l e R s m args below meth c H locs cells slots Q (F0 m pc ls _)) decide_eq_true_iff h3 k
          exact lv_icmp_ne hx hb hd h1 kk.1 (fun q => kk.2 (fun z => z q))
        · have kk := mj_pick (G := fun pc => W p l e R s m args below meth c H locs cells slots Q (F0 m pc ls _)) decide_eq_true_iff h3 k
          exact lv_icmp_lt hx hb hd h1 kk.1 kk.2
        · have kk := mj_pick (G := fun pc => W p l e R s m args below meth c H locs cells slots Q (F0 m pc ls _)) decide_eq_true_iff h3 k
          exact lv_icmp_ge hx hb hd h1 kk.1 kk.2
        · have kk := mj_pick (G := fun pc => W p l e R s m args below meth c H locs cells slots Q (F0 m pc ls _)) decide_eq_true_iff h3 k
          exact lv_icmp_gt hx hb hd h1 kk.1 kk.2
        · have kk := mj_pick (G := fun pc => W p l e R s m args below meth c H locs cells slots Q (F0 m pc ls _)) decide_eq_true_iff h3 k
          exact lv_icmp_le hx hb hd h1 kk.1 kk.2
      · cases h
    · cases h
  | tableswitch d lo hi offs =>
    simp only [mj_br] at h
    split at h
    · split at h
      · rename_i ho
        obtain ⟨t, h1, h2⟩ := mj_to_map h
        cases h2
        exact lv_tableOut hx hb hd ho h1 k
      · rename_i ho
        split at h
        · rename_i off hoff
          obtain ⟨t, h1, h2⟩ := mj_to_map h
          cases h2
          exact lv_tableIn hx hb hd (fun q => ho (Or.inl q)) (fun q => ho (Or.inr q)) hoff h1 k
        · cases h
    · cases h
  | lookupswitch d ps =>
    simp only [mj_br] at h
    split at h
    · split at h
      · rename_i ho
        obtain ⟨t, h1, h2⟩ := mj_to_map h
        cases h2
        exact lv_lookup hx hb hd ho rfl h1 k
      · cases h
    · cases h
  | _ => exact absurd (show (none : Option (Nat × List Value)) = some (pc', st') from h) (by simp)
theorem mj_get_mem {lv : mj_L} {i : Nat} {v : Value} (h : mj_get lv i = some v) : (i, v) ∈ lv := by
  unfold mj_get at h
  obtain ⟨q, h1, h2⟩ := Option.map_eq_some_iff.mp h
  have h3 := List.find?_some h1
  have h4 : q.1 = i := by simpa using h3
  have h5 : q = (i, v) := by rw [← h4, ← h2]
  rw [← h5]
  exact List.mem_of_find?_eq_some h1
theorem mj_has_get {n : Nat} {lv : mj_L} {i : Nat} {v : Value} (hl : lv_has ls n (mj_cl b B lv)) (h : mj_get lv i = some v) : ls[i]? = some (.val (mj_cv b B v)) :=
  hl.2.2 (i, mj_cv b B v) (List.mem_map.mpr ⟨(i, v), mj_get_mem h, rfl⟩)
theorem mj_cl_put1 {lv : mj_L} {i : Nat} {v : Value} : (i, mj_cv b B v) :: (mj_cl b B lv).filter (fun q => !(q.1 == i) && !(q.1 + 1 == i && q.2.category == 2)) = mj_cl b B (mj_put1 lv i v) := by
  unfold mj_cl mj_put1
  rw [List.map_cons, List.filter_map]
  congr 2
  refine List.filter_congr fun q _ => ?_
  simp [Function.comp, mj_cv_cat]
theorem mj_cl_put2 {lv : mj_L} {i : Nat} {v : Value} : (i, mj_cv b B v) :: (mj_cl b B lv).filter (fun q => !(q.1 == i) && (!(q.1 == i + 1) && !(q.1 + 1 == i && q.2.category == 2))) = mj_cl b B (mj_put2 lv i v) := by
  unfold mj_cl mj_put2
  rw [List.map_cons, List.filter_map]
  congr 2
  refine List.filter_congr fun q _ => ?_
  simp [Function.comp, mj_cv_cat]
theorem mj_lo1_inv {i n len want : Nat} {lv lv' : mj_L} {st st' : List Value} {ok : Value → Bool} (h : mj_lo1 i n len want lv st ok = some (lv', st')) : len = want ∧ lv' = lv ∧ ∃ v, mj_get lv i = some v ∧ ok v = true ∧ st' = v :: st := by
  unfold mj_lo1 at h
  split at h
  · rename_i h1
    split at h
    · rename_i v h2
      split at h
      · rename_i h3
        cases h
        exact ⟨h1, rfl, v, h2, h3, rfl⟩
      · cases h
    · cases h
  · cases h
theorem mj_st1_inv {i n len want : Nat} {lv lv' : mj_L} {st st' : List Value} {ok : Value → Bool} (h : mj_st1 i n len want lv st ok = some (lv', st')) : len = want ∧ i < n ∧ ∃ v, st = v :: st' ∧ ok v = true ∧ lv' = mj_put1 lv i v := by
  unfold mj_st1 at h
  split at h
  · rename_i h1
    split at h
    · rename_i v r
      split at h
      · rename_i h3
        cases h
        exact ⟨h1.1, h1.2, v, rfl, h3, rfl⟩
      · cases h
    · cases h
  · cases h
theorem mj_isI_inv {v : Value} (h : mj_isI v = true) : ∃ x, v = .int x := by cases v <;> simp [mj_isI] at h; exact ⟨_, rfl⟩
theorem mj_isL_inv {v : Value} (h : mj_isL v = true) : ∃ x, v = .long x := by cases v <;> simp [mj_isL] at h; exact ⟨_, rfl⟩
theorem mj_isR_inv {v : Value} (h : mj_isR v = true) : ∃ x, v = .ref x := by cases v <;> simp [mj_isR] at h; exact ⟨_, rfl⟩
theorem mj_isA_inv (b B : Nat) {v : Value} (h : mj_isA v = true) : ∃ x, mj_cv b B v = .ref x := by cases v <;> simp [mj_isA] at h <;> exact ⟨_, rfl⟩
set_option maxHeartbeats 4000000 in
theorem mj_loc_ok (hx : p.tables.exec = Jvm.exec) (hb : c.code = cc) {ins : Instr} {len n : Nat} {lv lv' : mj_L} {st st' : List Value} (h : mj_loc ins len n lv st = some (lv', st')) (hd : decode cc pc = .ok (ins, len)) (hl : lv_has ls n (mj_cl b B lv))
    (k : ∀ ls' : Array Slot, lv_has ls' n (mj_cl b B lv') → W p l e R s m args below meth c H locs cells slots Q (F0 m (pc + len) ls' (st'.map (mj_cv b B)))) : W p l e R s m args below meth c H locs cells slots Q (F0 m pc ls (st.map (mj_cv b B))) := by
  cases ins with
  | iload_n i =>
    simp only [mj_loc] at h
    obtain ⟨rfl, rfl, v, h1, h2, rfl⟩ := mj_lo1_inv h
    obtain ⟨x, rfl⟩ := mj_isI_inv h2
    exact lv_iload_n hx hb hd rfl (mj_has_get hl h1) (k ls hl)
  | iload i =>
    simp only [mj_loc] at h
    obtain ⟨rfl, rfl, v, h1, h2, rfl⟩ := mj_lo1_inv h
    obtain ⟨x, rfl⟩ := mj_isI_inv h2
    exact lv_iload hx hb hd (mj_has_get hl h1) (k ls hl)
  | lload_n i =>
    simp only [mj_loc] at h
    obtain ⟨rfl, rfl, v, h1, h2, rfl⟩ := mj_lo1_inv h
    obtain ⟨x, rfl⟩ := mj_isL_inv h2
    exact lv_lload_n hx hb hd rfl (mj_has_get hl h1) (k ls hl)
  | lload i =>
    simp only [mj_loc] at h
    obtain ⟨rfl, rfl, v, h1, h2, rfl⟩ := mj_lo1_inv h
    obtain ⟨x, rfl⟩ := mj_isL_inv h2
    exact lv_lload hx hb hd (mj_has_get hl h1) (k ls hl)
  | aload_n i =>
    simp only [mj_loc] at h
    obtain ⟨rfl, rfl, v, h1, h2, rfl⟩ := mj_lo1_inv h
    have h3 := mj_has_get hl h1
    have h4 := k ls hl
    rw [List.map_cons] at h4
    obtain ⟨x, e⟩ := mj_isA_inv b B h2
    rw [e] at h3 h4
    exact lv_aload_n hx hb hd rfl h3 h4
  | aload i =>
    simp only [mj_loc] at h
    obtain ⟨rfl, rfl, v, h1, h2, rfl⟩ := mj_lo1_inv h
    have h3 := mj_has_get hl h1
    have h4 := k ls hl
    rw [List.map_cons] at h4
    obtain ⟨x, e⟩ := mj_isA_inv b B h2
    rw [e] at h3 h4
    exact lv_aload hx hb hd h3 h4
  | istore_n i =>
    simp only [mj_loc] at h
    obtain ⟨rfl, h1, v, rfl, h2, rfl⟩ := mj_st1_inv h
    obtain ⟨x, rfl⟩ := mj_isI_inv h2
    exact lv_istore_n hx hb hd rfl hl h1 (mj_cl_put1 (v := .int x)) k
  | istore i =>
    simp only [mj_loc] at h
    obtain ⟨rfl, h1, v, rfl, h2, rfl⟩ := mj_st1_inv h
    obtain ⟨x, rfl⟩ := mj_isI_inv h2
    exact lv_istore hx hb hd hl h1 (mj_cl_put1 (v := .int x)) k
  | astore_n i =>
    simp only [mj_loc] at h
    obtain ⟨rfl, h1, v, rfl, h2, rfl⟩ := mj_st1_inv h
    obtain ⟨x, rfl⟩ := mj_isR_inv h2
    exact lv_astore_n hx hb hd rfl hl h1 (mj_cl_put1 (v := .ref x)) k
  | astore i =>
    simp only [mj_loc] at h
    obtain ⟨rfl, h1, v, rfl, h2, rfl⟩ := mj_st1_inv h
    obtain ⟨x, rfl⟩ := mj_isR_inv h2
    exact lv_astore hx hb hd hl h1 (mj_cl_put1 (v := .ref x)) k
  | lstore_n i =>
    simp only [mj_loc] at h
    split at h
    · rename_i h1
      split at h
      · rename_i x r
        cases h
        obtain ⟨rfl, h2⟩ := h1
        exact lv_lstore_n hx hb hd rfl hl h2 (mj_cl_put2 (v := .long x)) k
      · cases h
    · cases h
  | iinc i d =>
    simp only [mj_loc] at h
    split at h
    · rename_i h1
      split at h
      · rename_i x hg
        cases h
        obtain ⟨rfl, h2⟩ := h1
        obtain ⟨q, hq⟩ := List.getElem?_of_mem (List.mem_map.mpr ⟨(i, Value.int x), mj_get_mem hg, rfl⟩ : (i, mj_cv b B (.int x)) ∈ mj_cl b B lv)
        exact lv_iinc hx hb hd hl hq rfl h2 (mj_cl_put1 (v := .int (x + Int32.ofInt d))) k
      · cases h
    · cases h
  | _ => exact absurd (show (none : Option (mj_L × List Value)) = some (lv', st') from h) (by simp)
end MJ1
end
section
set_option maxRecDepth 100000 in
theorem mj_u_0 : ∀ w ∈ u_ws RX0 TX0 8 ++ [.instantiable RX0 8, .initialized RX0], w ∈ lw_tbl := mj_places _ [313, 315, 317, 319, 321, 323, 325, 327, 300, 70] (by decide +kernel)
set_option maxRecDepth 100000 in
theorem mj_u_1 : ∀ w ∈ u_ws RX1 TX1 3 ++ [.instantiable RX1 3, .initialized RX1], w ∈ lw_tbl := mj_places _ [276, 278, 280, 267, 68] (by decide +kernel)
set_option maxRecDepth 100000 in
theorem mj_u_2 : ∀ w ∈ u_ws RX2 TX2 3 ++ [.instantiable RX2 3, .initialized RX2], w ∈ lw_tbl := mj_places _ [238, 240, 242, 228, 66] (by decide +kernel)
set_option maxRecDepth 100000 in
theorem mj_u_3 : ∀ w ∈ u_ws RX3 TX3 3 ++ [.instantiable RX3 3, .initialized RX3], w ∈ lw_tbl := mj_places _ [220, 222, 224, 208, 65] (by decide +kernel)
set_option maxRecDepth 100000 in
theorem mj_u_4 : ∀ w ∈ u_ws RX4 TX4 9 ++ [.instantiable RX4 9, .initialized RX4], w ∈ lw_tbl := mj_places _ [122, 124, 126, 128, 130, 132, 134, 136, 138, 91, 63] (by decide +kernel)
set_option maxRecDepth 100000 in
theorem mj_u_5 : ∀ w ∈ u_ws RX5 TX5 3 ++ [.instantiable RX5 3, .initialized RX5], w ∈ lw_tbl := mj_places _ [292, 294, 296, 284, 69] (by decide +kernel)
set_option maxRecDepth 100000 in
theorem mj_u_6 : ∀ w ∈ u_ws RX6 TX6 4 ++ [.instantiable RX6 4, .initialized RX6], w ∈ lw_tbl := mj_places _ [257, 259, 261, 263, 247, 67] (by decide +kernel)
set_option maxRecDepth 100000 in
theorem mj_u_7 : ∀ w ∈ u_ws RX8 TX8 7 ++ [.instantiable RX8 7, .initialized RX8], w ∈ lw_tbl := mj_places _ [192, 194, 196, 198, 200, 202, 204, 169, 64] (by decide +kernel)
set_option maxRecDepth 100000 in
theorem mj_u_8 : ∀ w ∈ u_ws RX9 TX9 6 ++ [.instantiable RX9 6, .initialized RX9], w ∈ lw_tbl := mj_places _ [153, 155, 157, 159, 161, 163, 85, 62] (by decide +kernel)
set_option maxRecDepth 100000 in
theorem mj_u_9 : ∀ w ∈ u_ws RX10 TX10 10 ++ [.instantiable RX10 10, .initialized RX10], w ∈ lw_tbl := mj_places _ [340, 342, 344, 346, 348, 350, 352, 354, 356, 358, 77, 61] (by decide +kernel)
set_option maxRecDepth 100000 in
theorem mj_u_10 : ∀ w ∈ u_ws RX11 TX11 38 ++ [.instantiable RX11 38, .initialized RX11], w ∈ lw_tbl := mj_places _ [885, 887, 889, 891, 893, 895, 897, 899, 901, 903, 905, 907, 909, 911, 913, 915, 917, 919, 921, 923, 925, 927, 929, 931, 933, 935, 937, 939, 941, 943, 945, 947, 949, 951, 953, 955, 957, 959, 842, 71] (by decide +kernel)
/-- all that is fixed of a class whose objects there are -/
def mj_CF (ci : Nat) (q : vw_C) : Prop := (∀ w ∈ u_ws q.1 q.2.1 q.2.2 ++ [.instantiable q.1 q.2.2, .initialized q.1], w ∈ lw_tbl) ∧ (∀ k, k < q.2.2 → parseFieldDescriptor (q.2.1 k).2.2.1 = some (mj_ty ci k)) ∧ (∀ a, a < q.2.2 → ∀ b, b < q.2.2 → a ≠ b → (q.2.1 a).2.1 ≠ (q.2.1 b).2.1) ∧ (∀ k, k < q.2.2 → (q.2.1 k).1 = q.1) ∧ mj_names[ci]? = some q.1
theorem mj_cls (ci : Nat) (q : vw_C) (hq : vwCl[ci]? = some q) : mj_CF ci q := by
  match ci, hq with
  | 0, hq => cases hq; exact ⟨mj_u_0, tyX0_ok, nmX0, by decide +kernel, rfl⟩
  | 1, hq => cases hq; exact ⟨mj_u_1, tyX1_ok, nmX1, by decide +kernel, rfl⟩
  | 2, hq => cases hq; exact ⟨mj_u_2, tyX2_ok, nmX2, by decide +kernel, rfl⟩
  | 3, hq => cases hq; exact ⟨mj_u_3, tyX3_ok, nmX3, by decide +kernel, rfl⟩
  | 4, hq => cases hq; exact ⟨mj_u_4, tyX4_ok, nmX4, by decide +kernel, rfl⟩
  | 5, hq => cases hq; exact ⟨mj_u_5, tyX5_ok, nmX5, by decide +kernel, rfl⟩
  | 6, hq => cases hq; exact ⟨mj_u_6, tyX6_ok, nmX6, by decide +kernel, rfl⟩
  | 7, hq => cases hq; exact ⟨mj_u_7, tyX8_ok, nmX8, by decide +kernel, rfl⟩
  | 8, hq => cases hq; exact ⟨mj_u_8, tyX9_ok, nmX9, by decide +kernel, rfl⟩
  | 9, hq => cases hq; exact ⟨mj_u_9, tyX10_ok, nmX10, by decide +kernel, rfl⟩
  | 10, hq => cases hq; exact ⟨mj_u_10, tyX11_ok, nmX11, by decide +kernel, rfl⟩
  | n + 11, hq => simp [vwCl] at hq
theorem mj_tbl_of {w : Cond} (h : w ∈ lw_tbl) (hg : goodWord w = true) : w ∈ mj_tbl := List.mem_filter.mpr ⟨h, hg⟩
theorem mj_uws_good (C : String) (T : u_T) (N : Nat) : ∀ w ∈ u_ws C T N, goodWord w = true := by
  intro w hw
  obtain ⟨k, -, rfl⟩ := List.mem_map.mp hw
  unfold u_lay
  split <;> rfl
theorem mj_CF.uws {ci : Nat} {q : vw_C} (h : mj_CF ci q) : ∀ w ∈ u_ws q.1 q.2.1 q.2.2, w ∈ mj_tbl := fun w hw => mj_tbl_of (h.1 w (List.mem_append_left _ hw)) (mj_uws_good _ _ _ w hw)
theorem mj_CF.inst {ci : Nat} {q : vw_C} (h : mj_CF ci q) : Cond.instantiable q.1 q.2.2 ∈ mj_tbl := mj_tbl_of (h.1 _ (List.mem_append_right _ (by simp))) rfl
theorem mj_CF.ini {ci : Nat} {q : vw_C} (h : mj_CF ci q) : Cond.initialized q.1 ∈ mj_tbl := mj_tbl_of (h.1 _ (List.mem_append_right _ (by simp))) rfl
/-- an entry that was found stands in the pool of the method's class -/
theorem mj_ent_in {M : mj_M} {idx : Nat} {e : mj_E} (h : mj_ent M idx = some e) (hn : mj_names[M.2.2.2.2.1]? = some M.1.cls) : e.1 = idx ∧ mj_word M.1.cls e ∈ lw_tbl ∧ ∃ pool, mj_pools[M.2.2.2.2.1]? = some pool ∧ e ∈ pool := by
  unfold mj_ent at h
  split at h
  · rename_i pool hp
    have h1 := List.find?_some h
    have h2 := List.mem_of_find?_eq_some h
    exact ⟨by simpa using h1, mj_inP _ _ _ hp hn _ h2, pool, hp, h2⟩
  · cases h
/-- the words of nest mates, which the good words don't hold -/
def mj_N (U : State) : Prop := ∀ (o : Nat) (pool : List mj_E) (C : String), mj_pools[o]? = some pool → mj_names[o]? = some C → ∀ e ∈ pool, (e.2.1 = 1 ∨ e.2.1 = 3) → va_Nw (mj_word C e) U
theorem mj_N.moved {s U : State} (hW : s.WarmedH U.vm) (h : mj_N s) : mj_N U := by
  intro o pool C h1 h2 e he hk
  have h3 := h o pool C h1 h2 e he hk
  obtain ⟨ix, kd, a, b⟩ := e
  rcases hk with hk | hk
  · dsimp only at hk
    subst hk
    exact va_Nw.warmF hW h3
  · dsimp only at hk
    subst hk
    exact va_Nw.warmM hW h3
abbrev mj_arrs (cA : Nat → ClassId) : List (ClassId × FieldType) := [(cA 100, .int), (cA 101, .char), (cA 102, .boolean), (cA 103, .object "SootMaps$Streets")]
/-- what a state's tables say: classes, arrays, nest mates; and the script -/
def mj_K (D : va_G) (cA : Nat → ClassId) (U : State) : Prop := va_K D vwCl (mj_arrs cA) U ∧ mj_N U ∧ va_AO "SootMaps$Streets" U
theorem mj_K.moved {D : va_G} {cA : Nat → ClassId} {s U : State} (hW : s.WarmedH U.vm) (h : mj_K D cA s) : mj_K D cA U := ⟨va_K.moved hW.alike h.1, h.2.1.moved hW, h.2.2.moved hW.alike⟩
theorem mj_K.arr {D : va_G} {cA : Nat → ClassId} {s : State} (h : mj_K D cA s) {t : Nat} (h1 : 100 ≤ t) (h2 : t < 104) : ArrOfT s (cA t) (mj_elt t) ∧ va_RA s (cA t) (mj_elt t) := by
  rcases (show t = 100 ∨ t = 101 ∨ t = 102 ∨ t = 103 by omega) with rfl | rfl | rfl | rfl
  · exact h.1.2 0 _ rfl
  · exact h.1.2 1 _ rfl
  · exact h.1.2 2 _ rfl
  · exact h.1.2 3 _ rfl
theorem mj_arrV_ext {c : ClassId} {n : Nat} {f g : Nat → Value} (h : ∀ j, j < n → f j = g j) : arrV c n f = arrV c n g := by
  unfold arrV
  congr 2
  funext j
  exact h j.val j.isLt
/-- a cell of the list and the heap's -/
def mj_at (D : va_G) (cA : Nat → ClassId) (b B : Nat) (H : Heap) (a t : Nat) (xs : List Value) : Prop :=
  (t < 11 ∧ ∃ r : vw_C, vwCl[t]? = some r ∧ r.2.2 = xs.length ∧ t_OB (B + a) (D.1 t) r.2.2 (D.2 t) H (vp_V (xs.map (mj_cv b B)))) ∨
  (100 ≤ t ∧ t < 104 ∧ H[B + a]? = some (arrV (cA t) xs.length (vp_V (xs.map (mj_cv b B)))))
def mj_R (D : va_G) (cA : Nat → ClassId) (b B : Nat) (h : mj_H) (H : Heap) : Prop := H.size = B + h.length ∧ ∀ (a t : Nat) (xs : List Value), h[a]? = some (t, xs) → mj_at D cA b B H a t xs
theorem mj_at.kept {D : va_G} {cA : Nat → ClassId} {b B : Nat} {H H1 : Heap} {a t : Nat} {xs : List Value} (h : mj_at D cA b B H a t xs) (hq : H1[B + a]? = H[B + a]?) : mj_at D cA b B H1 a t xs := by
  rcases h with ⟨h1, r, h2, h3, h4⟩ | ⟨h1, h2, h3⟩
  · exact Or.inl ⟨h1, r, h2, h3, h4.kept hq⟩
  · exact Or.inr ⟨h1, h2, hq.trans h3⟩
theorem mj_R.set {D : va_G} {cA : Nat → ClassId} {b B : Nat} {h : mj_H} {H H1 : Heap} {a t : Nat} {ys : List Value} (hR : mj_R D cA b B h H) (hz : H1.size = H.size) (ho : ∀ q, q ≠ B + a → H1[q]? = H[q]?) (hn : mj_at D cA b B H1 a t ys) : mj_R D cA b B (h.set a (t, ys)) H1 := by
  refine ⟨by rw [hz, List.length_set]; exact hR.1, fun a' t' xs' he => ?_⟩
  by_cases e : a' = a
  · subst e
    by_cases hl : a' < h.length
    · rw [List.getElem?_set_self hl] at he
      cases he
      exact hn
    · rw [List.getElem?_eq_none (by rw [List.length_set]; omega)] at he
      cases he
  · rw [List.getElem?_set_ne (Ne.symm e)] at he
    exact (hR.2 a' t' xs' he).kept (ho _ (by omega))
theorem mj_R.push {D : va_G} {cA : Nat → ClassId} {b B : Nat} {h : mj_H} {H H1 : Heap} {t : Nat} {ys : List Value} (hR : mj_R D cA b B h H) (hz : H1.size = H.size + 1) (ho : ∀ q, q < H.size → H1[q]? = H[q]?) (hn : mj_at D cA b B H1 h.length t ys) : mj_R D cA b B (h ++ [(t, ys)]) H1 := by
  refine ⟨by rw [hz, List.length_append, hR.1]; simp; omega, fun a' t' xs' he => ?_⟩
  by_cases hl : a' < h.length
  · rw [List.getElem?_append_left hl] at he
    exact (hR.2 a' t' xs' he).kept (ho _ (by rw [hR.1]; omega))
  · have hz2 : a' < (h ++ [(t, ys)]).length := (List.getElem?_eq_some_iff.mp he).1
    rw [List.length_append] at hz2
    simp at hz2
    have e : a' = h.length := by omega
    subst e
    rw [List.getElem?_append_right (Nat.le_refl _), Nat.sub_self] at he
    cases he
    exact hn
theorem mj_vp {b B : Nat} {xs : List Value} {j : Nat} {v : Value} (h : xs[j]? = some v) : vp_V (xs.map (mj_cv b B)) j = mj_cv b B v := by
  simp [vp_V, h]
theorem mj_vp_set {b B : Nat} {xs : List Value} {j : Nat} {v : Value} (hj : j < xs.length) (q : Nat) : updV (vp_V (xs.map (mj_cv b B))) j (mj_cv b B v) q = vp_V ((xs.set j v).map (mj_cv b B)) q := by
  rw [vp_updV_set (by rw [List.length_map]; exact hj), List.map_set]
end
section
/-! The rows of the heap: fields, arrays, new ones, copies -/
section MJ2
variable {p : Program} {l : Launch} {e : Env} {R : Room} {s : State} {m : MethodId} {args : Array Value} {below : List Frame} {meth : Method} {c : Code} {H : Heap} {locs : List Loc} {cells slots : Nat} {Q : State → Prop}
variable {cc : ByteArray} {pc : Nat} {ls : Array Slot} {b B : Nat} {D : va_G} {cA : Nat → ClassId} {M : mj_M} {h : mj_H} {sc : Option (List Int32)}
theorem mj_good {w : Cond} (hts : ∀ w ∈ mj_tbl, w.before args s = true) (h : w ∈ lw_tbl) (hg : goodWord w = true) : w.before args s = true := hts w (mj_tbl_of h hg)
set_option maxHeartbeats 1000000 in
theorem mj_gf_ok (hx : p.tables.exec = Jvm.exec) (hb : c.code = M.2.1) (hown : s.vm.findClass M.1.cls = some m.cls) (hn : mj_names[M.2.2.2.2.1]? = some M.1.cls) (hts : ∀ w ∈ mj_tbl, w.before args s = true) (hK : mj_K D cA s) (hR : mj_R D cA b B h H)
    {idx : Nat} {st st' : List Value} (hs : mj_gf M idx st h = some st') (hd : decode M.2.1 pc = .ok (.getfield idx, 3))
    (k : W p l e R s m args below meth c H locs cells slots Q (F0 m (pc + 3) ls (st'.map (mj_cv b B)))) : W p l e R s m args below meth c H locs cells slots Q (F0 m pc ls (st.map (mj_cv b B))) := by
  unfold mj_gf at hs
  split at hs
  · rename_i ix kd ci kf he
    split at hs
    · rename_i hkd
      split at hs
      · rename_i a r
        split at hs
        · rename_i t xs hcell
          split at hs
          · rename_i htc
            obtain ⟨rfl, hlt⟩ := htc
            split at hs
            · rename_i v hv
              cases hs
              obtain ⟨h1, h2, pool, h3, h4⟩ := mj_ent_in he hn
              dsimp only at h1
              subst h1
              rcases hR.2 a t xs hcell with ⟨-, q, hq, hlen, hob⟩ | ⟨hbad, -⟩
              · have hC := mj_cls t q hq
                have hP : va_P D vwCl [(B + a, .inr (t, xs.map (mj_cv b B)))] H := by
                  intro k' z hz
                  match k', hz with
                  | 0, hz => cases hz; exact ⟨q, hq, hob⟩
                  | k' + 1, hz => simp at hz
                have hkN : kf < q.2.2 := by rw [hlen]; exact (List.getElem?_eq_some_iff.mp hv).1
                have hT1 : (q.2.1 kf).1 = q.1 := hC.2.2.2.1 kf hkN
                rcases (show kd = 0 ∨ kd = 1 by omega) with rfl | rfl
                · have hw : Cond.fieldLink M.1.cls ix (q.2.1 kf).1 (q.2.1 kf).2.1 (q.2.1 kf).2.2.1 ∈ lw_tbl := by
                    have := h2
                    simp only [mj_word, hq] at this
                    exact this
                  exact va_get (C := q.1) (T := q.2.1) (N := q.2.2) hx hb hts hC.uws hown hK.1 hP 0 rfl hq kf hkN (mj_good hts hw rfl) (fun _ z => z) (v := mj_cv b B v) (by rw [List.getElem?_map, hv]; rfl) hd k
                · have hw := hK.2.1 _ _ _ h3 hn _ h4 (Or.inl rfl)
                  simp only [mj_word, hq] at hw
                  exact va_getN (C := q.1) (T := q.2.1) (N := q.2.2) hx hb hts hC.uws hown hK.1 hP 0 rfl hq kf hkN (va_Nw.use rfl hw) (fun _ z => z) (v := mj_cv b B v) (by rw [List.getElem?_map, hv]; rfl) hd k
              · omega
            · cases hs
          · cases hs
        · cases hs
      · cases hs
    · cases hs
  · cases hs
theorem mj_cv_fits {ty : FieldType} {v : Value} (h : fits ty v = true) : fits ty (mj_cv b B v) = true := by
  cases v <;> first | exact h | skip
  · cases ty <;> first | exact h | simp [fits] at h
  · cases ty <;> simp [fits] at h
theorem mj_cv_narrow {ty : FieldType} {v : Value} (h : narrow ty v = v) : narrow ty (mj_cv b B v) = mj_cv b B v := by
  cases v <;> first | exact h | (cases ty <;> rfl)
set_option maxHeartbeats 2000000 in
theorem mj_pf_ok (hx : p.tables.exec = Jvm.exec) (hb : c.code = M.2.1) (hown : s.vm.findClass M.1.cls = some m.cls) (hn : mj_names[M.2.2.2.2.1]? = some M.1.cls) (hin : M.2.2.2.2.2.2.1 = 2 → meth.name = "<init>") (hts : ∀ w ∈ mj_tbl, w.before args s = true) (hK : mj_K D cA s) (hR : mj_R D cA b B h H)
    {idx : Nat} {st st' : List Value} {h' : mj_H} (hs : mj_pf M idx st h = some (st', h')) (hd : decode M.2.1 pc = .ok (.putfield idx, 3))
    (k : ∀ (H1 : Heap) (a i : Nat), mj_R D cA b B h' H1 → H1.size = H.size → (∀ q, q ≠ B + a → H1[q]? = H[q]?) → h'.length = h.length → (h'.map fun c => c.2.length) = (h.map fun c => c.2.length) → W p l e R s m args below meth c H1 (locs ++ [⟨B + a, i⟩]) cells slots Q (F0 m (pc + 3) ls (st'.map (mj_cv b B)))) : W p l e R s m args below meth c H locs cells slots Q (F0 m pc ls (st.map (mj_cv b B))) := by
  unfold mj_pf at hs
  split at hs
  · rename_i ix kd ci kf he
    split at hs
    · rename_i hkd
      split at hs
      · rename_i v a r
        split at hs
        · rename_i t xs hcell
          split at hs
          · rename_i htc
            obtain ⟨rfl, hlt, hkl, hnar, hfit, hfin⟩ := htc
            cases hs
            obtain ⟨h1, h2, pool, h3, h4⟩ := mj_ent_in he hn
            dsimp only at h1
            subst h1
            rcases hR.2 a t xs hcell with ⟨-, q, hq, hlen, hob⟩ | ⟨hbad, -⟩
            · have hC := mj_cls t q hq
              have hkN : kf < q.2.2 := by rw [hlen]; exact hkl
              have hap := va_apart (own := M.1.cls) (D := D) (cl := vwCl) (tys := mj_arrs cA) hts hC.uws (mj_ty t) hC.2.1 hC.2.2.1 hK.1 hq
              obtain ⟨cell, q1, q2, q3, q4⟩ := hob
              obtain ⟨hS, hfc, kC, hkC, hkind⟩ := hK.1.1 t _ hq
              obtain ⟨cf, kc, fi, f, hi, hsl⟩ := hS kf hkN
              have hst := (u_facts hfc hkC (u_lays hts hC.uws hkN) hi).1
              have hnn : ∀ H1 : Heap, H1[B + a]? = some (cell.setSlot f.slot (mj_cv b B v)) → mj_at D cA b B H1 a t (xs.set kf v) := by
                intro H1 e1
                rw [hsl] at e1
                exact Or.inl ⟨hlt, q, hq, by rw [List.length_set]; exact hlen, t_OB.to (V := updV (vp_V (xs.map (mj_cv b B))) kf (mj_cv b B v)) ⟨_, e1, q2, q3, t_set q4 hap hkN _⟩ (fun j _ => mj_vp_set hkl j)⟩
              have hlens : ((h.set a (t, xs.set kf v)).map fun c => c.2.length) = (h.map fun c => c.2.length) := by
                rw [List.map_set]
                apply List.ext_getElem?
                intro j
                rw [List.getElem?_set]
                split
                · rename_i e2
                  subst e2
                  simp only [List.length_map, List.length_set, List.getElem?_map, hcell]
                  have : a < h.length := (List.getElem?_eq_some_iff.mp hcell).1
                  simp [this]
                · rfl
              have hd1 : parseFieldDescriptor (q.2.1 kf).2.2.1 = some (mj_ty t kf) := hC.2.1 kf hkN
              rcases hfin with hfin | ⟨rfl, hk2, ho2, hft0⟩
              · have hfin' : (q.2.1 kf).2.2.2 = false := by simpa only [mj_fin, hq] using hfin
                have hlay := hts _ (hC.uws _ (u_in_lay hkN))
                unfold u_lay at hlay
                rw [if_neg (by rw [hfin']; decide)] at hlay
                have h6 := u_store hfc hkC hkind hlay hi hd1 (mj_cv_narrow (b := b) (B := B) hnar) (mj_cv_fits (b := b) (B := B) hfit)
                rcases (show kd = 0 ∨ kd = 1 by omega) with rfl | rfl
                · have hw : Cond.fieldLink M.1.cls ix (q.2.1 kf).1 (q.2.1 kf).2.1 (q.2.1 kf).2.2.1 ∈ lw_tbl := by
                    have := h2
                    simp only [mj_word, hq] at this
                    exact this
                  refine W.putK hx hb (f := f) ⟨hown, mj_good hts hw rfl, ⟨_, _, _, hi⟩, hst⟩ (by rw [q2]; exact h6) q1 q3 (by rw [hsl]; exact k2_hasslot (q4 kf hkN)) rfl rfl hd fun H' e1 e2 e3 => ?_
                  exact k H' a _ (hR.set e2 e3 (hnn H' e1)) e2 e3 List.length_set hlens
                · have hw := hK.2.1 _ _ _ h3 hn _ h4 (Or.inl rfl)
                  simp only [mj_word, hq] at hw
                  refine va_WputK hx hb (f := f) hown (va_Nw.use rfl hw) hi hst (by rw [q2]; exact h6) q1 q3 (by rw [hsl]; exact k2_hasslot (q4 kf hkN)) rfl rfl hd fun H' e1 e2 e3 => ?_
                  exact k H' a _ (hR.set e2 e3 (hnn H' e1)) e2 e3 List.length_set hlens
              · have hw : Cond.fieldLink M.1.cls ix (q.2.1 kf).1 (q.2.1 kf).2.1 (q.2.1 kf).2.2.1 ∈ lw_tbl := by
                  have := h2
                  simp only [mj_word, hq] at this
                  exact this
                have hft : (q.2.1 kf).2.2.2 = true := by simpa only [mj_fin, hq] using hft0
                have h6 := u_fits hfc hkC hkind (u_lays hts hC.uws hkN) hi hd1 (mj_cv_narrow (b := b) (B := B) hnar) (mj_cv_fits (b := b) (B := B) hfit)
                have hcf : m.cls = cf := by
                  have e0 := hn
                  rw [ho2] at e0
                  have e1 : M.1.cls = q.1 := Option.some.inj (e0.symm.trans hC.2.2.2.2)
                  have e2 : (q.2.1 kf).1 = M.1.cls := (hC.2.2.2.1 kf hkN).trans e1.symm
                  have hl := hts _ (hC.uws _ (u_in_lay hkN))
                  unfold u_lay at hl
                  rw [if_pos hft] at hl
                  obtain ⟨_, _, c', _, _, _, -, -, hf', -, -, -, hown2, -⟩ := Cond.laysFinal_spec hl
                  have e3 : c' = cf := by have := hi.symm.trans hf'; simp at this; exact this.1.symm
                  rw [e2] at hown2
                  rw [← e3]; exact Option.some.inj (hown.symm.trans hown2)
                refine W.putFinK hx hb hown (mj_good hts hw rfl) hi hst hcf (hin hk2) (by rw [q2]; exact h6) q1 q3 (by rw [hsl]; exact k2_hasslot (q4 kf hkN)) rfl rfl hd fun H' e1 e2 e3 => ?_
                exact k H' a _ (hR.set e2 e3 (hnn H' e1)) e2 e3 List.length_set hlens
            · omega
          · cases hs
        · cases hs
      · cases hs
    · cases hs
  · cases hs
end MJ2
end
section
/-! The rows of arrays, of new cells, of constants -/
section MJ3
variable {p : Program} {l : Launch} {e : Env} {R : Room} {s : State} {m : MethodId} {args : Array Value} {below : List Frame} {meth : Method} {c : Code} {H : Heap} {locs : List Loc} {cells slots : Nat} {Q : State → Prop}
variable {cc : ByteArray} {pc : Nat} {ls : Array Slot} {b B : Nat} {D : va_G} {cA : Nat → ClassId} {M : mj_M} {h : mj_H} {sc : Option (List Int32)}
/-- the script, as the state at a method's start has it -/
def mj_X (b : Nat) (sc : Option (List Int32)) (U : State) : Prop := match sc with
  | some sc => va_X b sc.length (fun j => sc.getD j 0) U U.heap
  | none => True
theorem mj_arr_cell (hK : mj_K D cA s) (hR : mj_R D cA b B h H) {a t : Nat} {xs : List Value} (ht : 100 ≤ t) (hc : h[a]? = some (t, xs)) : t < 104 ∧ H[B + a]? = some (arrV (cA t) xs.length (vp_V (xs.map (mj_cv b B)))) ∧ s.isArrayOf (arrV (cA t) xs.length (vp_V (xs.map (mj_cv b B)))) (mj_elt t) := by
  rcases hR.2 a t xs hc with ⟨h1, -⟩ | ⟨h1, h2, h3⟩
  · omega
  · exact ⟨h2, h3, (hK.arr h1 h2).1 _ _⟩
theorem mj_ald_inv {t : Nat} {st st' : List Value} (hs : mj_ald t sc st h = some st') : (∃ j a r xs v, st = .int j :: .ref a :: r ∧ h[a]? = some (t, xs) ∧ ¬ j < 0 ∧ xs[j.toNatClampNeg]? = some v ∧ st' = v :: r) ∨ (∃ j a r v sc', st = .int j :: .retAddr a :: r ∧ sc = some sc' ∧ t = 100 ∧ ¬ j < 0 ∧ sc'[j.toNatClampNeg]? = some v ∧ st' = .int v :: r) := by
  unfold mj_ald at hs
  split at hs
  · rename_i j a r
    split at hs
    · rename_i t' xs hc
      split at hs
      · rename_i hh
        obtain ⟨rfl, hj⟩ := hh
        split at hs
        · rename_i v hv
          cases hs
          exact Or.inl ⟨j, a, r, xs, v, rfl, hc, hj, hv, rfl⟩
        · cases hs
      · cases hs
    · cases hs
  · rename_i j a r
    split at hs
    · rename_i sc'
      split at hs
      · rename_i hh
        obtain ⟨rfl, hj⟩ := hh
        split at hs
        · rename_i v hv
          cases hs
          exact Or.inr ⟨j, a, r, v, sc', rfl, rfl, rfl, hj, hv, rfl⟩
        · cases hs
      · cases hs
    · cases hs
  · cases hs
theorem mj_in {c0 : ClassId} {xs : List Value} {f : Nat → Value} {j : Int32} (hj : ¬ j < 0) (hl : j.toNatClampNeg < xs.length) : ¬ (j < 0 ∨ (arrV c0 xs.length f).slots.size ≤ j.toNatClampNeg) := by
  rw [arrV_size]
  rintro (q | q)
  · exact hj q
  · omega
theorem mj_iald_ok (hx : p.tables.exec = Jvm.exec) (hb : c.code = cc) (hK : mj_K D cA s) (hR : mj_R D cA b B h H) (hX : mj_X b sc s) (hbH : H[b]? = s.heap[b]?)
    {st st' : List Value} (hs : mj_ald 100 sc st h = some st') (hd : decode cc pc = .ok (.iaload, 1))
    (k : W p l e R s m args below meth c H locs cells slots Q (F0 m (pc + 1) ls (st'.map (mj_cv b B)))) : W p l e R s m args below meth c H locs cells slots Q (F0 m pc ls (st.map (mj_cv b B))) := by
  rcases mj_ald_inv hs with ⟨j, a, r, xs, v, rfl, hc, hj, hv, rfl⟩ | ⟨j, a, r, v, sc', rfl, rfl, -, hj, hv, rfl⟩
  · obtain ⟨h1, h2, h3⟩ := mj_arr_cell hK hR (by decide) hc
    have hl : j.toNatClampNeg < xs.length := (List.getElem?_eq_some_iff.mp hv).1
    exact W.iald (v := mj_cv b B v) hx hb h2 h3 (fun q => by cases q) (mj_in hj hl) (by rw [arrV_read _ _ hl, mj_vp hv]) rfl rfl hd k
  · obtain ⟨scr, h1, h2, h3, h4, h5⟩ := hX
    have hl : j.toNatClampNeg < sc'.length := (List.getElem?_eq_some_iff.mp hv).1
    have h6 := h5 _ hl
    dsimp only at h6
    rw [List.getD_eq_getElem?_getD, hv] at h6
    exact W.iald (v := .int v) hx hb (hbH.trans h1) h2 h3 (by rw [h4]; rintro (q | q); exact hj q; omega) h6 rfl rfl hd k
theorem mj_cald_ok (hx : p.tables.exec = Jvm.exec) (hb : c.code = cc) (hK : mj_K D cA s) (hR : mj_R D cA b B h H)
    {st st' : List Value} (hs : mj_ald 101 sc st h = some st') (hd : decode cc pc = .ok (.caload, 1))
    (k : W p l e R s m args below meth c H locs cells slots Q (F0 m (pc + 1) ls (st'.map (mj_cv b B)))) : W p l e R s m args below meth c H locs cells slots Q (F0 m pc ls (st.map (mj_cv b B))) := by
  rcases mj_ald_inv hs with ⟨j, a, r, xs, v, rfl, hc, hj, hv, rfl⟩ | ⟨j, a, r, v, sc', rfl, -, hz, hj, hv, rfl⟩
  · obtain ⟨h1, h2, h3⟩ := mj_arr_cell hK hR (by decide) hc
    have hl : j.toNatClampNeg < xs.length := (List.getElem?_eq_some_iff.mp hv).1
    exact W.cald (v := mj_cv b B v) hx hb h2 h3 (fun q => by cases q) (mj_in hj hl) (by rw [arrV_read _ _ hl, mj_vp hv]) rfl rfl hd k
  · omega
theorem mj_zald_ok (hx : p.tables.exec = Jvm.exec) (hb : c.code = cc) (hK : mj_K D cA s) (hR : mj_R D cA b B h H)
    {st st' : List Value} (hs : mj_ald 102 sc st h = some st') (hd : decode cc pc = .ok (.baload, 1))
    (k : W p l e R s m args below meth c H locs cells slots Q (F0 m (pc + 1) ls (st'.map (mj_cv b B)))) : W p l e R s m args below meth c H locs cells slots Q (F0 m pc ls (st.map (mj_cv b B))) := by
  rcases mj_ald_inv hs with ⟨j, a, r, xs, v, rfl, hc, hj, hv, rfl⟩ | ⟨j, a, r, v, sc', rfl, -, hz, hj, hv, rfl⟩
  · obtain ⟨h1, h2, h3⟩ := mj_arr_cell hK hR (by decide) hc
    have hl : j.toNatClampNeg < xs.length := (List.getElem?_eq_some_iff.mp hv).1
    exact W.zald (v := mj_cv b B v) hx hb h2 h3 (fun q => by cases q) (mj_in hj hl) (by rw [arrV_read _ _ hl, mj_vp hv]) rfl rfl hd k
  · omega
theorem mj_aald_ok (hx : p.tables.exec = Jvm.exec) (hb : c.code = cc) (hK : mj_K D cA s) (hR : mj_R D cA b B h H)
    {st st' : List Value} (hs : mj_ald 103 sc st h = some st') (hd : decode cc pc = .ok (.aaload, 1))
    (k : W p l e R s m args below meth c H locs cells slots Q (F0 m (pc + 1) ls (st'.map (mj_cv b B)))) : W p l e R s m args below meth c H locs cells slots Q (F0 m pc ls (st.map (mj_cv b B))) := by
  rcases mj_ald_inv hs with ⟨j, a, r, xs, v, rfl, hc, hj, hv, rfl⟩ | ⟨j, a, r, v, sc', rfl, -, hz, hj, hv, rfl⟩
  · obtain ⟨h1, h2, h3⟩ := mj_arr_cell hK hR (by decide) hc
    have hl : j.toNatClampNeg < xs.length := (List.getElem?_eq_some_iff.mp hv).1
    exact W.aald (v := mj_cv b B v) (ty := mj_elt 103) hx hb h2 h3 rfl (fun q => by cases q) (mj_in hj hl) (by rw [arrV_read _ _ hl, mj_vp hv]) rfl rfl hd k
  · omega
/-- the lengths of a cell list stay when a cell's elements change -/
theorem mj_lens {a t : Nat} {xs ys : List Value} (hc : h[a]? = some (t, xs)) (hl : ys.length = xs.length) : ((h.set a (t, ys)).map fun c => c.2.length) = (h.map fun c => c.2.length) := by
  rw [List.map_set]
  apply List.ext_getElem?
  intro j
  rw [List.getElem?_set]
  split
  · rename_i e2
    subst e2
    have : a < h.length := (List.getElem?_eq_some_iff.mp hc).1
    simp only [List.length_map, List.getElem?_map, hc]
    simp [this, hl]
  · rfl
theorem mj_ast_inv {t : Nat} {st st' : List Value} {h' : mj_H} (hs : mj_ast t st h = some (st', h')) : ∃ x j a xs, st = .int x :: .int j :: .ref a :: st' ∧ h[a]? = some (t, xs) ∧ ¬ j < 0 ∧ j.toNatClampNeg < xs.length ∧ h' = h.set a (t, xs.set j.toNatClampNeg (narrow (mj_elt t) (.int x))) := by
  unfold mj_ast at hs
  split at hs
  · rename_i x j a r
    split at hs
    · rename_i t' xs hc
      split at hs
      · rename_i hh
        obtain ⟨rfl, hj, hl⟩ := hh
        cases hs
        exact ⟨x, j, a, xs, rfl, hc, hj, hl, rfl⟩
      · cases hs
    · cases hs
  · cases hs
theorem mj_stored {a t : Nat} {xs : List Value} {v : Value} {j : Nat} {H1 : Heap} (h1 : 100 ≤ t) (h2 : t < 104) (hj : j < xs.length) (e1 : H1[B + a]? = some ((arrV (cA t) xs.length (vp_V (xs.map (mj_cv b B)))).setSlot j (mj_cv b B v))) : mj_at D cA b B H1 a t (xs.set j v) := by
  refine Or.inr ⟨h1, h2, ?_⟩
  rw [e1, arrV_store, List.length_set]
  congr 1
  exact mj_arrV_ext fun q _ => mj_vp_set hj q
theorem mj_narrow_int (ty : FieldType) (x : Int32) : mj_cv b B (narrow ty (.int x)) = narrow ty (.int x) := by cases ty <;> rfl
theorem mj_iast_ok (hx : p.tables.exec = Jvm.exec) (hb : c.code = cc) (hK : mj_K D cA s) (hR : mj_R D cA b B h H)
    {st st' : List Value} {h' : mj_H} (hs : mj_ast 100 st h = some (st', h')) (hd : decode cc pc = .ok (.iastore, 1))
    (k : ∀ (H1 : Heap) (a i : Nat), mj_R D cA b B h' H1 → H1.size = H.size → (∀ q, q ≠ B + a → H1[q]? = H[q]?) → h'.length = h.length → (h'.map fun c => c.2.length) = (h.map fun c => c.2.length) → W p l e R s m args below meth c H1 (locs ++ [⟨B + a, i⟩]) cells slots Q (F0 m (pc + 1) ls (st'.map (mj_cv b B)))) : W p l e R s m args below meth c H locs cells slots Q (F0 m pc ls (st.map (mj_cv b B))) := by
  obtain ⟨x, j, a, xs, rfl, hc, hj, hl, rfl⟩ := mj_ast_inv hs
  obtain ⟨h1, h2, h3⟩ := mj_arr_cell hK hR (by decide) hc
  refine W.iast hx hb h2 h3 (fun q => by cases q) (mj_in hj hl) rfl rfl hd fun H1 e1 e2 e3 => ?_
  exact k H1 a _ (hR.set e2 e3 (mj_stored (by decide) h1 hl (by rw [mj_narrow_int]; exact e1))) e2 e3 List.length_set (mj_lens hc List.length_set)
theorem mj_cast_ok (hx : p.tables.exec = Jvm.exec) (hb : c.code = cc) (hK : mj_K D cA s) (hR : mj_R D cA b B h H)
    {st st' : List Value} {h' : mj_H} (hs : mj_ast 101 st h = some (st', h')) (hd : decode cc pc = .ok (.castore, 1))
    (k : ∀ (H1 : Heap) (a i : Nat), mj_R D cA b B h' H1 → H1.size = H.size → (∀ q, q ≠ B + a → H1[q]? = H[q]?) → h'.length = h.length → (h'.map fun c => c.2.length) = (h.map fun c => c.2.length) → W p l e R s m args below meth c H1 (locs ++ [⟨B + a, i⟩]) cells slots Q (F0 m (pc + 1) ls (st'.map (mj_cv b B)))) : W p l e R s m args below meth c H locs cells slots Q (F0 m pc ls (st.map (mj_cv b B))) := by
  obtain ⟨x, j, a, xs, rfl, hc, hj, hl, rfl⟩ := mj_ast_inv hs
  obtain ⟨h1, h2, h3⟩ := mj_arr_cell hK hR (by decide) hc
  refine W.cast hx hb h2 h3 (fun q => by cases q) (mj_in hj hl) rfl rfl hd fun H1 e1 e2 e3 => ?_
  exact k H1 a _ (hR.set e2 e3 (mj_stored (by decide) h1 hl (by rw [mj_narrow_int]; exact e1))) e2 e3 List.length_set (mj_lens hc List.length_set)
theorem mj_zast_ok (hx : p.tables.exec = Jvm.exec) (hb : c.code = cc) (hK : mj_K D cA s) (hR : mj_R D cA b B h H)
    {st st' : List Value} {h' : mj_H} (hs : mj_ast 102 st h = some (st', h')) (hd : decode cc pc = .ok (.bastore, 1))
    (k : ∀ (H1 : Heap) (a i : Nat), mj_R D cA b B h' H1 → H1.size = H.size → (∀ q, q ≠ B + a → H1[q]? = H[q]?) → h'.length = h.length → (h'.map fun c => c.2.length) = (h.map fun c => c.2.length) → W p l e R s m args below meth c H1 (locs ++ [⟨B + a, i⟩]) cells slots Q (F0 m (pc + 1) ls (st'.map (mj_cv b B)))) : W p l e R s m args below meth c H locs cells slots Q (F0 m pc ls (st.map (mj_cv b B))) := by
  obtain ⟨x, j, a, xs, rfl, hc, hj, hl, rfl⟩ := mj_ast_inv hs
  obtain ⟨h1, h2, h3⟩ := mj_arr_cell hK hR (by decide) hc
  refine W.zast hx hb h2 h3 (fun q => by cases q) (mj_in hj hl) rfl rfl hd fun H1 e1 e2 e3 => ?_
  exact k H1 a _ (hR.set e2 e3 (mj_stored (by decide) h1 hl (by rw [mj_narrow_int]; exact e1))) e2 e3 List.length_set (mj_lens hc List.length_set)
set_option maxHeartbeats 1000000 in
theorem mj_aast_ok (hx : p.tables.exec = Jvm.exec) (hb : c.code = cc) (hK : mj_K D cA s) (hR : mj_R D cA b B h H)
    {st st' : List Value} {h' : mj_H} (hs : mj_aast st h = some (st', h')) (hd : decode cc pc = .ok (.aastore, 1))
    (k : ∀ (H1 : Heap) (a i : Nat), mj_R D cA b B h' H1 → H1.size = H.size → (∀ q, q ≠ B + a → H1[q]? = H[q]?) → h'.length = h.length → (h'.map fun c => c.2.length) = (h.map fun c => c.2.length) → W p l e R s m args below meth c H1 (locs ++ [⟨B + a, i⟩]) cells slots Q (F0 m (pc + 1) ls (st'.map (mj_cv b B)))) : W p l e R s m args below meth c H locs cells slots Q (F0 m pc ls (st.map (mj_cv b B))) := by
  unfold mj_aast at hs
  split at hs
  · rename_i v j a r
    split at hs
    · rename_i t xs vs hc hv
      split at hs
      · rename_i hh
        obtain ⟨rfl, hj, hl⟩ := hh
        cases hs
        obtain ⟨h1, h2, h3⟩ := mj_arr_cell hK hR (by decide) hc
        rcases hR.2 v 7 vs hv with ⟨-, q, hq, hlen, cellV, g1, g2, g3, -⟩ | ⟨hbad, -⟩
        · cases hq
          have hcls := (hK.1.1 7 _ rfl).2
          obtain ⟨kA, comp, k1, k2, k3, -⟩ := (hK.arr (t := 103) (by decide) (by decide)).2
          have hcomp : comp = D.1 7 := Option.some.inj (k3.symm.trans hcls.1)
          subst hcomp
          obtain ⟨kC, hkC, -⟩ := hcls.2
          refine W.aast hx hb h2 (fun q h => by cases h) (fun h => by cases h) k1 k2 rfl hkC ⟨hj, by rw [arrV_size]; exact hl⟩ g1 (fun q h => by rw [g3] at h; cases h) (by rw [g2]; exact hkC) (by rw [g2]; exact va_assign hcls) rfl rfl hd fun H1 e1 e2 e3 => ?_
          exact k H1 a _ (hR.set e2 e3 (mj_stored (by decide) h1 hl (v := .ref v) e1)) e2 e3 List.length_set (mj_lens hc List.length_set)
        · omega
      · cases hs
    · cases hs
  · cases hs
theorem mj_alen_ok (hx : p.tables.exec = Jvm.exec) (hb : c.code = cc) (hK : mj_K D cA s) (hR : mj_R D cA b B h H) (hX : mj_X b sc s) (hbH : H[b]? = s.heap[b]?)
    {st st' : List Value} (hs : mj_alen sc st h = some st') (hd : decode cc pc = .ok (.arraylength, 1))
    (k : W p l e R s m args below meth c H locs cells slots Q (F0 m (pc + 1) ls (st'.map (mj_cv b B)))) : W p l e R s m args below meth c H locs cells slots Q (F0 m pc ls (st.map (mj_cv b B))) := by
  unfold mj_alen at hs
  split at hs
  · rename_i a r
    split at hs
    · rename_i t xs hc
      split at hs
      · rename_i hh
        cases hs
        obtain ⟨h1, h2, h3⟩ := mj_arr_cell hK hR hh.1 hc
        exact W.alen (n := Int32.ofNat xs.length) hx hb h2 h3 (by rw [arrV_size]) rfl rfl hd k
      · cases hs
    · cases hs
  · split at hs
    · rename_i sc'
      cases hs
      obtain ⟨scr, h1, h2, h3, h4, h5⟩ := hX
      exact W.alen (n := Int32.ofNat sc'.length) hx hb (hbH.trans h1) h2 (by rw [h4]) rfl rfl hd k
    · cases hs
  · cases hs
set_option maxHeartbeats 1000000 in
theorem mj_new_ok (hx : p.tables.exec = Jvm.exec) (hb : c.code = M.2.1) (hown : s.vm.findClass M.1.cls = some m.cls) (hn : mj_names[M.2.2.2.2.1]? = some M.1.cls) (hts : ∀ w ∈ mj_tbl, w.before args s = true) (hK : mj_K D cA s) (hR : mj_R D cA b B h H)
    {idx : Nat} {st st' : List Value} {h' : mj_H} (hs : mj_new M idx st h = some (st', h')) (hd : decode M.2.1 pc = .ok (.new idx, 3))
    (k : ∀ (t : Nat) (ys : List Value), h' = h ++ [(t, ys)] → cells + 1 ≤ R.cells ∧ slots + ys.length ≤ R.slots ∧ ∀ H1 : Heap, mj_R D cA b B h' H1 → (∀ q, q < H.size → H1[q]? = H[q]?) → W p l e R s m args below meth c H1 locs (cells + 1) (slots + ys.length) Q (F0 m (pc + 3) ls (st'.map (mj_cv b B)))) : W p l e R s m args below meth c H locs cells slots Q (F0 m pc ls (st.map (mj_cv b B))) := by
  unfold mj_new at hs
  split at hs
  · rename_i ix kd ci zz he
    split at hs
    · rename_i hh
      obtain ⟨rfl, hlt⟩ := hh
      cases hs
      obtain ⟨h1, h2, pool, h3, h4⟩ := mj_ent_in he hn
      dsimp only at h1
      subst h1
      obtain ⟨q, hq⟩ : ∃ q, vwCl[ci]? = some q := ⟨_, List.getElem?_eq_getElem (by exact hlt)⟩
      have hC := mj_cls ci q hq
      have hw : Cond.classLink M.1.cls ix q.1 ∈ lw_tbl := by
        have := h2
        simp only [mj_word, List.getD_eq_getElem?_getD, hC.2.2.2.2] at this
        exact this
      obtain ⟨k1, k2, k3⟩ := k ci _ rfl
      have hnf : mj_nf ci = q.2.2 := by simp only [mj_nf, hq]
      have hlen : ((List.range (mj_nf ci)).map (fun k => defaultValue (mj_ty ci k))).length = q.2.2 := by rw [List.length_map, List.length_range, hnf]
      rw [hlen] at k2 k3
      have hKn := hK.1.1 ci _ hq
      refine W.newcK hx hb hown (mj_good hts hw rfl) (hts _ hC.inst) (hts _ hC.ini) rfl hd k1 k2 hKn.2.1 rfl fun H1 kC hkC e1 z1 o1 => ?_
      have e9 : H.size = B + h.length := hR.1
      have hob := u_born (mj_ty ci) hts hC.uws hKn hkC e1 hC.2.1
      rw [e9] at hob
      have hr : mj_R D cA b B (h ++ [(ci, (List.range (mj_nf ci)).map (fun k => defaultValue (mj_ty ci k)))]) H1 := by
        refine hR.push z1 o1 (Or.inl ⟨hlt, q, hq, hlen.symm, hob.to fun j hj => ?_⟩)
        rw [← hnf] at hj
        rw [mj_vp (v := defaultValue (mj_ty ci j)) (by simp [hj])]
        cases mj_ty ci j <;> rfl
      have := k3 H1 hr o1
      rw [List.map_cons] at this
      rw [e9]
      exact this
    · cases hs
  · cases hs
theorem mj_tag_ty {a : ArrayType} {t : Nat} (h : mj_tag a = some t) : 100 ≤ t ∧ t < 103 ∧ newarray.typeOf a = mj_elt t := by
  cases a <;> cases h <;> exact ⟨by decide, by decide, rfl⟩
theorem mj_arrw {t : Nat} (h1 : 100 ≤ t) (h2 : t < 103) : Cond.arrayClass (mj_elt t) ∈ mj_tbl := by
  rcases (show t = 100 ∨ t = 101 ∨ t = 102 by omega) with rfl | rfl | rfl
  · exact mj_tbl_of (List.mem_of_getElem? (i := 142) (by decide +kernel)) rfl
  · exact mj_tbl_of (List.mem_of_getElem? (i := 141) (by decide +kernel)) rfl
  · exact mj_tbl_of (List.mem_of_getElem? (i := 245) (by decide +kernel)) rfl
set_option maxHeartbeats 1000000 in
theorem mj_newa_ok (hx : p.tables.exec = Jvm.exec) (hb : c.code = cc) (hts : ∀ w ∈ mj_tbl, w.before args s = true) (hK : mj_K D cA s) (hR : mj_R D cA b B h H)
    {at0 : ArrayType} {st st' : List Value} {h' : mj_H} (hs : mj_newa at0 st h = some (st', h')) (hd : decode cc pc = .ok (.newarray at0, 2))
    (k : ∀ (t : Nat) (ys : List Value), h' = h ++ [(t, ys)] → cells + 1 ≤ R.cells ∧ slots + ys.length ≤ R.slots ∧ ∀ H1 : Heap, mj_R D cA b B h' H1 → (∀ q, q < H.size → H1[q]? = H[q]?) → W p l e R s m args below meth c H1 locs (cells + 1) (slots + ys.length) Q (F0 m (pc + 2) ls (st'.map (mj_cv b B)))) : W p l e R s m args below meth c H locs cells slots Q (F0 m pc ls (st.map (mj_cv b B))) := by
  unfold mj_newa at hs
  split at hs
  · rename_i t n r ht
    split at hs
    · rename_i hh
      cases hs
      obtain ⟨t1, t2, t3⟩ := mj_tag_ty ht
      obtain ⟨k1, k2, k3⟩ := k t _ rfl
      rw [List.length_replicate] at k2 k3
      have hw := hts _ (mj_arrw t1 t2)
      rw [← t3] at hw
      refine va_newaK hx hb hw rfl hd rfl hh.1 rfl ?_ k1 k2 rfl fun H1 cA1 e1 z1 o1 hAr hNm => ?_
      · have : componentBytes (newarray.typeOf at0) ≤ 8 := by cases at0 <;> decide
        calc n.toNatClampNeg * componentBytes (newarray.typeOf at0) ≤ 1000000 * 8 := Nat.mul_le_mul hh.2 this
          _ ≤ 536870912 := by decide
      have e9 : H.size = B + h.length := hR.1
      have hra := (hK.arr (t := t) t1 (by omega)).2
      have hcA : cA1 = cA t := by
        have : s.vm.findClass ("[" ++ (mj_elt t).toString) = some (cA t) := by
          rcases (show t = 100 ∨ t = 101 ∨ t = 102 by omega) with rfl | rfl | rfl <;> exact hra
        rw [← t3] at this
        exact Option.some.inj (hNm.symm.trans this)
      have hr : mj_R D cA b B (h ++ [(t, List.replicate n.toNatClampNeg (.int 0))]) H1 := by
        refine hR.push z1 o1 (Or.inr ⟨t1, by omega, ?_⟩)
        rw [← e9, e1, hcA, List.length_replicate]
        congr 1
        refine mj_arrV_ext fun j hj => ?_
        rw [mj_vp (v := .int 0) (by simp [hj])]
        cases at0 <;> cases ht <;> rfl
      have := k3 H1 hr o1
      rw [List.map_cons] at this
      rw [e9]
      exact this
    · cases hs
  · cases hs
set_option maxHeartbeats 1000000 in
theorem mj_anew_ok (hx : p.tables.exec = Jvm.exec) (hb : c.code = M.2.1) (hown : s.vm.findClass M.1.cls = some m.cls) (hn : mj_names[M.2.2.2.2.1]? = some M.1.cls) (hts : ∀ w ∈ mj_tbl, w.before args s = true) (hK : mj_K D cA s) (hR : mj_R D cA b B h H)
    {idx : Nat} {st st' : List Value} {h' : mj_H} (hs : mj_anew M idx st h = some (st', h')) (hd : decode M.2.1 pc = .ok (.anewarray idx, 3))
    (k : ∀ (t : Nat) (ys : List Value), h' = h ++ [(t, ys)] → cells + 1 ≤ R.cells ∧ slots + ys.length ≤ R.slots ∧ ∀ H1 : Heap, mj_R D cA b B h' H1 → (∀ q, q < H.size → H1[q]? = H[q]?) → W p l e R s m args below meth c H1 locs (cells + 1) (slots + ys.length) Q (F0 m (pc + 3) ls (st'.map (mj_cv b B)))) : W p l e R s m args below meth c H locs cells slots Q (F0 m pc ls (st.map (mj_cv b B))) := by
  unfold mj_anew at hs
  split at hs
  · rename_i ix kd ci zz n r he
    split at hs
    · rename_i hh
      obtain ⟨rfl, rfl, hn0, hn1⟩ := hh
      cases hs
      obtain ⟨h1, h2, pool, h3, h4⟩ := mj_ent_in he hn
      dsimp only at h1
      subst h1
      have hw : Cond.classLink M.1.cls ix "SootMaps$Streets" ∈ lw_tbl := h2
      obtain ⟨k1, k2, k3⟩ := k 103 _ rfl
      rw [List.length_replicate] at k2 k3
      refine W.anew hx hb hown (mj_good hts hw rfl) (va_AO.use hK.2.2) rfl hd rfl hn0 (by omega) k1 k2 fun cA1 kA comp f1 f2 f3 f4 => ?_
      generalize hH1 : H.push ({ cls := cA1, slots := Array.replicate n.toNatClampNeg .null, vm := .none } : Cell) = H1
      have z1 : H1.size = H.size + 1 := by rw [← hH1, Array.size_push]
      have e1 : H1[H.size]? = some (arrV cA1 n.toNatClampNeg (fun _ => .null)) := by rw [← hH1, Array.getElem?_push_size, ← arrV_new]
      have o1 : ∀ q : Nat, q < H.size → H1[q]? = H[q]? := fun q hq => by rw [← hH1, Array.getElem?_push, if_neg (Nat.ne_of_lt hq)]
      have e9 : H.size = B + h.length := hR.1
      obtain ⟨kA', comp', -, -, -, g4⟩ := (hK.arr (t := 103) (by decide) (by decide)).2
      have hcA : cA1 = cA 103 := Option.some.inj (f1.symm.trans g4)
      have hr : mj_R D cA b B (h ++ [(103, List.replicate n.toNatClampNeg .null)]) H1 := by
        refine hR.push z1 o1 (Or.inr ⟨by decide, by decide, ?_⟩)
        rw [← e9, e1, hcA, List.length_replicate]
        congr 1
        refine mj_arrV_ext fun j hj => ?_
        rw [mj_vp (v := .null) (by simp [hj])]
        rfl
      have := k3 H1 hr o1
      rw [List.map_cons] at this
      rw [e9]
      exact this
    · cases hs
  · cases hs
theorem mj_ldc_ok (hx : p.tables.exec = Jvm.exec) (hb : c.code = M.2.1) (hown : s.vm.findClass M.1.cls = some m.cls) (hn : mj_names[M.2.2.2.2.1]? = some M.1.cls) (hts : ∀ w ∈ mj_tbl, w.before args s = true)
    {idx : Nat} {st st' : List Value} (hs : mj_ldc M idx st = some st') (hd : decode M.2.1 pc = .ok (.ldc idx, 2))
    (k : W p l e R s m args below meth c H locs cells slots Q (F0 m (pc + 2) ls (st'.map (mj_cv b B)))) : W p l e R s m args below meth c H locs cells slots Q (F0 m pc ls (st.map (mj_cv b B))) := by
  unfold mj_ldc at hs
  split at hs
  · rename_i ix kd v zz he
    split at hs
    · rename_i hh
      subst hh
      cases hs
      obtain ⟨h1, h2, pool, h3, h4⟩ := mj_ent_in he hn
      dsimp only at h1
      subst h1
      exact lv_ldc hx hb hown (mj_good hts (show Cond.constant M.1.cls ix (Int32.ofNat v) ∈ lw_tbl from h2) rfl) hd k
    · cases hs
  · cases hs
theorem mj_ldcw_ok (hx : p.tables.exec = Jvm.exec) (hb : c.code = M.2.1) (hown : s.vm.findClass M.1.cls = some m.cls) (hn : mj_names[M.2.2.2.2.1]? = some M.1.cls) (hts : ∀ w ∈ mj_tbl, w.before args s = true)
    {idx : Nat} {st st' : List Value} (hs : mj_ldc M idx st = some st') (hd : decode M.2.1 pc = .ok (.ldc_w idx, 3))
    (k : W p l e R s m args below meth c H locs cells slots Q (F0 m (pc + 3) ls (st'.map (mj_cv b B)))) : W p l e R s m args below meth c H locs cells slots Q (F0 m pc ls (st.map (mj_cv b B))) := by
  unfold mj_ldc at hs
  split at hs
  · rename_i ix kd v zz he
    split at hs
    · rename_i hh
      subst hh
      cases hs
      obtain ⟨h1, h2, pool, h3, h4⟩ := mj_ent_in he hn
      dsimp only at h1
      subst h1
      exact lv_ldcw hx hb hown (mj_good hts (show Cond.constant M.1.cls ix (Int32.ofNat v) ∈ lw_tbl from h2) rfl) hd k
    · cases hs
  · cases hs
theorem mj_ldc2_ok (hx : p.tables.exec = Jvm.exec) (hb : c.code = M.2.1) (hown : s.vm.findClass M.1.cls = some m.cls) (hn : mj_names[M.2.2.2.2.1]? = some M.1.cls) (hts : ∀ w ∈ mj_tbl, w.before args s = true)
    {idx : Nat} {st st' : List Value} (hs : mj_ldc2 M idx st = some st') (hd : decode M.2.1 pc = .ok (.ldc2_w idx, 3))
    (k : W p l e R s m args below meth c H locs cells slots Q (F0 m (pc + 3) ls (st'.map (mj_cv b B)))) : W p l e R s m args below meth c H locs cells slots Q (F0 m pc ls (st.map (mj_cv b B))) := by
  unfold mj_ldc2 at hs
  split at hs
  · rename_i ix kd v zz he
    split at hs
    · rename_i hh
      subst hh
      cases hs
      obtain ⟨h1, h2, pool, h3, h4⟩ := mj_ent_in he hn
      dsimp only at h1
      subst h1
      exact lv_ldc2 hx hb hown (mj_good hts (show Cond.constantLong M.1.cls ix (Int64.ofNat v) ∈ lw_tbl from h2) rfl) hd k
    · cases hs
  · cases hs
end MJ3
end
section
/-! System.arraycopy of ints, Math.max, Math.min, Object's constructor -/
theorem mj_cpy_get {xs ys : List Value} {sp dp n j : Nat} (h1 : sp + n ≤ xs.length) (h2 : dp + n ≤ ys.length) : (mj_cpy xs ys sp dp n)[j]? = if dp ≤ j ∧ j < dp + n then xs[sp + (j - dp)]? else ys[j]? := by
  unfold mj_cpy
  by_cases a1 : j < dp
  · rw [if_neg (by omega), List.append_assoc, List.getElem?_append_left (by rw [List.length_take]; omega), List.getElem?_take_of_lt a1]
  · by_cases a2 : j < dp + n
    · rw [if_pos ⟨by omega, a2⟩, List.append_assoc, List.getElem?_append_right (by rw [List.length_take]; omega), List.length_take, Nat.min_eq_left (by omega), List.getElem?_append_left (by rw [List.length_take, List.length_drop]; omega), List.getElem?_take_of_lt (by omega), List.getElem?_drop]
    · rw [if_neg (by omega), List.getElem?_append_right (by rw [List.length_append, List.length_take, List.length_take, List.length_drop]; omega), List.length_append, List.length_take, List.length_take, List.length_drop, List.getElem?_drop]
      congr 1
      omega
theorem mj_cpy_len {xs ys : List Value} {sp dp n : Nat} (h1 : sp + n ≤ xs.length) (h2 : dp + n ≤ ys.length) : (mj_cpy xs ys sp dp n).length = ys.length := by
  unfold mj_cpy
  rw [List.length_append, List.length_append, List.length_take, List.length_take, List.length_drop, List.length_drop]
  omega
theorem mj_nn (z : Int32) (hz : ¬ z < 0) : z.toInt = (z.toNatClampNeg : Int) := by
  have hz0 : (0 : Int) ≤ z.toInt := by
    have := Int32.not_lt.mp hz
    simpa using Int32.le_iff_toInt_le.mp this
  show z.toInt = ((z.toInt.toNat : Nat) : Int)
  omega
theorem mj_w_nat : Cond.native arraycopyName ∈ mj_tbl := mj_tbl_of (List.mem_of_getElem? (i := 444) (by decide +kernel)) rfl
theorem mj_w_ast : Cond.static arraycopyName ∈ mj_tbl := mj_tbl_of (List.mem_of_getElem? (i := 443) (by decide +kernel)) rfl
theorem mj_w_sys : Cond.initialized "java/lang/System" ∈ mj_tbl := mj_tbl_of (List.mem_of_getElem? (i := 72) (by decide +kernel)) rfl
theorem mj_w_math : Cond.initialized "java/lang/Math" ∈ mj_tbl := mj_tbl_of (List.mem_of_getElem? (i := 74) (by decide +kernel)) rfl
theorem mj_w_maxS : Cond.static Lib.Math.max.name ∈ mj_tbl := mj_tbl_of (List.mem_of_getElem? (i := 792) (by decide +kernel)) rfl
theorem mj_w_minS : Cond.static Lib.Math.min.name ∈ mj_tbl := mj_tbl_of (List.mem_of_getElem? (i := 528) (by decide +kernel)) rfl
theorem mj_w_maxC : Cond.code Lib.Math.max.name Lib.Math.max.code 2 (some .int) ∈ mj_tbl := mj_tbl_of (List.mem_of_getElem? (i := 793) (by decide +kernel)) rfl
theorem mj_w_minC : Cond.code Lib.Math.min.name Lib.Math.min.code 2 (some .int) ∈ mj_tbl := mj_tbl_of (List.mem_of_getElem? (i := 529) (by decide +kernel)) rfl
theorem mj_w_oi : Cond.instanceMethod objectInit ∈ mj_tbl := mj_tbl_of (List.mem_of_getElem? (i := 82) (by decide +kernel)) rfl
theorem mj_w_oc : Cond.code objectInit ⟨#[0xb1]⟩ 1 none ∈ mj_tbl := mj_tbl_of (List.mem_of_getElem? (i := 83) (by decide +kernel)) rfl
section MJ4
variable {p : Program} {l : Launch} {e : Env} {R : Room} {s : State} {m : MethodId} {args : Array Value} {below : List Frame} {meth : Method} {c : Code} {H : Heap} {locs : List Loc} {cells slots : Nat} {Q : State → Prop}
variable {pc : Nat} {ls : Array Slot} {b B : Nat} {D : va_G} {cA : Nat → ClassId} {M : mj_M} {h : mj_H}
set_option maxHeartbeats 2000000 in
theorem mj_acopy_ok (hx : p.tables.exec = Jvm.exec) (hb : c.code = M.2.1) (hown : s.vm.findClass M.1.cls = some m.cls) (hn : mj_names[M.2.2.2.2.1]? = some M.1.cls) (hts : ∀ w ∈ mj_tbl, w.before args s = true) (hK : mj_K D cA s) (hR : mj_R D cA b B h H) (hls : ls.size = c.maxLocals) (hRf : M.2.2.2.2.2.2.2.1 ≤ R.frames) (hRl : M.2.2.2.2.2.2.2.2 ≤ R.locals)
    {idx ix z1 z2 : Nat} {st st' : List Value} {h' : mj_H} (he : mj_ent M idx = some (ix, 7, z1, z2)) (hs : mj_acopy M st h = some (st', h')) (hd : decode M.2.1 pc = .ok (.invokestatic idx, 3))
    (k : ∀ (H1 : Heap) (a : Nat) (L : List Loc), mj_R D cA b B h' H1 → H1.size = H.size → (∀ q, q ≠ B + a → H1[q]? = H[q]?) → (∀ q ∈ L, q.base = B + a) → h'.length = h.length → (h'.map fun c => c.2.length) = (h.map fun c => c.2.length) → W p l e R s m args below meth c H1 (locs ++ L) cells slots Q (F0 m (pc + 3) ls (st'.map (mj_cv b B)))) : W p l e R s m args below meth c H locs cells slots Q (F0 m pc ls (st.map (mj_cv b B))) := by
  obtain ⟨g1, g2, -⟩ := mj_ent_in he hn
  dsimp only at g1
  subst g1
  have hlink : (Cond.methodLink M.1.cls ix arraycopyName).before args s = true := mj_good hts (show Cond.methodLink M.1.cls ix arraycopyName ∈ lw_tbl from g2) rfl
  unfold mj_acopy at hs
  split at hs
  · rename_i n dp d sp a r
    split at hs
    · rename_i t xs t' ys hc0 hc1
      split at hs
      · rename_i hh
        obtain ⟨rfl, rfl, s1, s2, s3, s4, s5, s6, s7, s8⟩ := hh
        cases hs
        obtain ⟨-, c0, -⟩ := mj_arr_cell hK hR (by decide) hc0
        obtain ⟨-, c1, -⟩ := mj_arr_cell hK hR (by decide) hc1
        obtain ⟨-, k0, hk0, cm0, hkk0⟩ := (hK.arr (t := 100) (by decide) (by decide)).1 xs.length (vp_V (xs.map (mj_cv b B)))
        obtain ⟨-, k1, hk1, cm1, hkk1⟩ := (hK.arr (t := 100) (by decide) (by decide)).1 ys.length (vp_V (ys.map (mj_cv b B)))
        intro T hT X
        obtain ⟨vm', X', step⟩ := X.arraycopy hx hown hlink (hts _ mj_w_nat) (hts _ mj_w_ast) (hts _ mj_w_sys) (src := B + a) (dst := B + d) (cs := arrV (cA 100) xs.length (vp_V (xs.map (mj_cv b B)))) (cd := arrV (cA 100) ys.length (vp_V (ys.map (mj_cv b B)))) (srcPos := sp) (destPos := dp) (n := n) (by rw [hT]; exact c0) (by rw [hT]; exact c1)
          (fun _ h => by cases h) (fun _ h => by cases h) (fun h => by cases h) (fun h => by cases h) hk0 hk1 hkk0 hkk1 (by decide) s1 s2 s3
          (by rw [mj_nn sp s1, mj_nn n s3, arrV_size]; omega)
          (by rw [mj_nn dp s2, mj_nn n s3, arrV_size]; omega)
          (fun vm₁ _ i hi => by
            have hlt : sp.toNatClampNeg + i < xs.length := by omega
            have hv : xs[sp.toNatClampNeg + i]? = some xs[sp.toNatClampNeg + i] := List.getElem?_eq_getElem hlt
            have hm : xs[sp.toNatClampNeg + i] ∈ (xs.drop sp.toNatClampNeg).take n.toNatClampNeg := by
              refine List.mem_of_getElem? (i := i) ?_
              rw [List.getElem?_take_of_lt hi, List.getElem?_drop, hv]
            obtain ⟨x, hx9⟩ := mj_isI_inv (List.all_eq_true.mp s6 _ hm)
            rw [hx9] at hv
            have e : (arrV (cA 100) xs.length (vp_V (xs.map (mj_cv b B)))).slots.getD (sp.toNatClampNeg + i) .null = .int x := by
              rw [Array.getD_eq_getD_getElem?, arrV_read _ _ hlt, mj_vp hv]
              rfl
            rw [e]
            exact ⟨rfl, trivial⟩)
          (g := F0 m pc ls (.int n :: .int dp :: .ref (B + d) :: .int sp :: .ref (B + a) :: st'.map (mj_cv b B))) rfl hls (rest := st'.map (mj_cv b B)) rfl (by rw [hb]; exact hd) (by omega) (by
            have := mj_cat_sum b B st'
            show 2 * 0 + _ + _ ≤ _
            rw [this]
            have e18 : nativeFrameWords "java/lang/System" "arraycopy" 5 + 11 = 18 := by decide
            omega)
        have e1 : copied (arrV (cA 100) xs.length (vp_V (xs.map (mj_cv b B)))) (arrV (cA 100) ys.length (vp_V (ys.map (mj_cv b B)))) sp dp n = arrV (cA 100) ys.length (va_cpy (vp_V (xs.map (mj_cv b B))) (vp_V (ys.map (mj_cv b B))) sp.toNatClampNeg dp.toNatClampNeg n.toNatClampNeg) := va_copied (fun z => z) (cA 100) (cA 100) _ _ s4
        have e2 : arrV (cA 100) ys.length (va_cpy (vp_V (xs.map (mj_cv b B))) (vp_V (ys.map (mj_cv b B))) sp.toNatClampNeg dp.toNatClampNeg n.toNatClampNeg) = arrV (cA 100) (mj_cpy xs ys sp.toNatClampNeg dp.toNatClampNeg n.toNatClampNeg).length (vp_V ((mj_cpy xs ys sp.toNatClampNeg dp.toNatClampNeg n.toNatClampNeg).map (mj_cv b B))) := by
          rw [mj_cpy_len s4 s5]
          refine mj_arrV_ext fun j hj => ?_
          have hg := mj_cpy_get (j := j) s4 s5
          unfold va_cpy
          by_cases hc : dp.toNatClampNeg ≤ j ∧ j < dp.toNatClampNeg + n.toNatClampNeg
          · rw [if_pos hc]
            rw [if_pos hc] at hg
            simp [vp_V, hg]
          · rw [if_neg hc]
            rw [if_neg hc] at hg
            simp [vp_V, hg]
        rw [e1, e2] at X' step
        have hl : B + d < H.size := (Array.getElem?_eq_some_iff.mp c1).1
        generalize hnew : arrV (cA 100) (mj_cpy xs ys sp.toNatClampNeg dp.toNatClampNeg n.toNatClampNeg).length (vp_V ((mj_cpy xs ys sp.toNatClampNeg dp.toNatClampNeg n.toNatClampNeg).map (mj_cv b B))) = new at X' step
        have hheap : ((T.setVm vm').setCell (B + d) new).heap = H.setIfInBounds (B + d) new := by rw [← hT]; rfl
        have oq : ∀ q : Nat, q ≠ B + d → (H.setIfInBounds (B + d) new)[q]? = H[q]? := fun q hq => by simp [Array.getElem?_setIfInBounds, Ne.symm hq]
        have hsz : (H.setIfInBounds (B + d) new).size = H.size := by simp
        have hat : mj_at D cA b B (H.setIfInBounds (B + d) new) d 100 (mj_cpy xs ys sp.toNatClampNeg dp.toNatClampNeg n.toNatClampNeg) := by
          refine Or.inr ⟨by decide, by decide, ?_⟩
          rw [hnew]
          simp [Array.getElem?_setIfInBounds, hl]
        obtain ⟨t, a1, b1⟩ := k _ d _ (hR.set hsz oq hat) hsz oq (fun q hq => by
          obtain ⟨z, -, hz⟩ := List.mem_map.mp hq
          rw [← hz]) List.length_set (mj_lens hc1 (mj_cpy_len s4 s5)) _ hheap X'
        exact ⟨t, step t a1, b1⟩
      · cases hs
    · cases hs
  · cases hs
set_option maxHeartbeats 1000000 in
theorem mj_mm_ok (hx : p.tables.exec = Jvm.exec) (hb : c.code = M.2.1) (hown : s.vm.findClass M.1.cls = some m.cls) (hn : mj_names[M.2.2.2.2.1]? = some M.1.cls) (hts : ∀ w ∈ mj_tbl, w.before args s = true) (hls : ls.size = c.maxLocals) (hRf : M.2.2.2.2.2.2.2.1 ≤ R.frames) (hRl : M.2.2.2.2.2.2.2.2 ≤ R.locals) (hcs : cells ≤ R.cells) (hss : slots ≤ R.slots)
    {idx ix kd z1 z2 : Nat} {st st' : List Value} (he : mj_ent M idx = some (ix, kd, z1, z2)) (hkd : kd = 9 ∨ kd = 10) (hs : mj_mm M kd st = some st') (hd : decode M.2.1 pc = .ok (.invokestatic idx, 3))
    (k : W p l e R s m args below meth c H locs cells slots Q (F0 m (pc + 3) ls (st'.map (mj_cv b B)))) : W p l e R s m args below meth c H locs cells slots Q (F0 m pc ls (st.map (mj_cv b B))) := by
  obtain ⟨g1, g2, -⟩ := mj_ent_in he hn
  dsimp only at g1
  subst g1
  unfold mj_mm at hs
  split at hs
  · rename_i y x r
    split at hs
    · rename_i hh
      have hlo : ((r.map (mj_cv b B)).map fun v => v.category).sum + 13 ≤ R.locals := by rw [mj_cat_sum]; omega
      rcases hkd with rfl | rfl
      · rw [if_pos rfl] at hs
        cases hs
        exact va_mmax hx hb hls.symm hown (mj_good hts (show Cond.methodLink M.1.cls ix Lib.Math.max.name ∈ lw_tbl from g2) rfl) (hts _ mj_w_maxS) (hts _ mj_w_math) (hts _ mj_w_maxC) (by omega) hlo hcs hss hd k
      · rw [if_neg (by decide)] at hs
        cases hs
        exact va_mmin hx hb hls.symm hown (mj_good hts (show Cond.methodLink M.1.cls ix Lib.Math.min.name ∈ lw_tbl from g2) rfl) (hts _ mj_w_minS) (hts _ mj_w_math) (hts _ mj_w_minC) (by omega) hlo hcs hss hd k
    · cases hs
  · cases hs
theorem mj_oi_ok (hx : p.tables.exec = Jvm.exec) (hb : c.code = M.2.1) (hown : s.vm.findClass M.1.cls = some m.cls) (hn : mj_names[M.2.2.2.2.1]? = some M.1.cls) (hts : ∀ w ∈ mj_tbl, w.before args s = true) (hls : ls.size = c.maxLocals) (hRf : M.2.2.2.2.2.2.2.1 ≤ R.frames) (hRl : M.2.2.2.2.2.2.2.2 ≤ R.locals)
    {idx ix z1 z2 a : Nat} {r : List Value} (he : mj_ent M idx = some (ix, 8, z1, z2)) (h1 : 1 ≤ M.2.2.2.2.2.2.2.1) (h2 : (r.map fun v => v.category).sum + 12 ≤ M.2.2.2.2.2.2.2.2) (hd : decode M.2.1 pc = .ok (.invokespecial idx, 3))
    (k : W p l e R s m args below meth c H locs cells slots Q (F0 m (pc + 3) ls (r.map (mj_cv b B)))) : W p l e R s m args below meth c H locs cells slots Q (F0 m pc ls ((.ref a :: r).map (mj_cv b B))) := by
  obtain ⟨g1, g2, -⟩ := mj_ent_in he hn
  dsimp only at g1
  subst g1
  exact W.objInit hx hb hown (mj_good hts (show Cond.methodLink M.1.cls ix objectInit ∈ lw_tbl from g2) rfl) (hts _ mj_w_oi) (hts _ mj_w_oc) rfl hls rfl hd (by omega) (by
    show 2 * 0 + _ + 12 ≤ _
    rw [mj_cat_sum]
    omega) k
end MJ4
end
section
/-! THE SMALL MACHINE IS SOUND: where it comes to an end, the model does, with the same answer and the same cells -/
def mj_sl (h : mj_H) : Nat := (h.map fun c => c.2.length).sum
def mj_Pc (D : va_G) (cA : Nat → ClassId) (b B : Nat) (sc : Option (List Int32)) (vs : List Value) (h : mj_H) : Array Value → State → Prop := va_Pc (vs.map (mj_cv b B)) (fun U => mj_R D cA b B h U.heap ∧ mj_K D cA U ∧ mj_X b sc U ∧ b < B)
def mj_Qc (D : va_G) (cA : Nat → ClassId) (b B : Nat) (r : Option Value) (h' : mj_H) : Array Value → State → Outcome → State → Prop := fun _ st o t => o = .returned (r.map (mj_cv b B)) ∧ mj_R D cA b B h' t.heap ∧ ∀ q, q < B → t.heap[q]? = st.heap[q]?
abbrev mj_ws (M : mj_M) : List Cond := mj_wC M :: mj_tbl
/-- how a method ends: with an answer r, by an instruction that gives it -/
def mj_end (M : mj_M) (r : Option Value) (pc : Nat) : Prop := (r = none ∧ M.2.2.2.1 = none ∧ decode M.2.1 pc = .ok (.return_, 1)) ∨ (∃ (v : Int32) (ty : FieldType), r = some (.int v) ∧ M.2.2.2.1 = some ty ∧ narrow ty (.int v) = .int v ∧ decode M.2.1 pc = .ok (.ireturn, 1))
def mj_W (l : Launch) (D : va_G) (cA : Nat → ClassId) (b B : Nat) (sc : Option (List Int32)) (M : mj_M) (pc : Nat) (lv : mj_L) (st : List Value) (h : mj_H) (r : Option Value) (h' : mj_H) : Prop :=
  ∀ (p : Program) (e : Env) (R : Room) (s : State) (m : MethodId) (args : Array Value) (below : List Frame) (meth : Method) (c : Code) (H : Heap) (locs : List Loc) (n0 s0 : Nat) (ls : Array Slot) (Q : State → Prop),
    p.tables.exec = Jvm.exec → c.code = M.2.1 → c.maxLocals = M.2.2.1 → s.vm.findClass M.1.cls = some m.cls → mj_names[M.2.2.2.2.1]? = some M.1.cls → (M.2.2.2.2.2.2.1 = 2 → meth.name = "<init>") → (∀ w ∈ mj_tbl, w.before args s = true) → mj_K D cA s → mj_X b sc s → b < B →
    (∀ q, q < B → H[q]? = s.heap[q]?) → (∀ q ∈ locs, B ≤ q.base) → mj_R D cA b B h H → lv_has ls M.2.2.1 (mj_cl b B lv) → M.2.2.2.2.2.2.2.1 ≤ R.frames → M.2.2.2.2.2.2.2.2 ≤ R.locals →
    n0 ≤ h.length → s0 ≤ mj_sl h → h'.length ≤ n0 + R.cells → mj_sl h' ≤ s0 + R.slots →
    (∀ (H' : Heap) (locs' : List Loc) (pc' : Nat) (ls' : Array Slot), (∀ q, q < B → H'[q]? = s.heap[q]?) → (∀ q ∈ locs', B ≤ q.base) → mj_R D cA b B h' H' → mj_end M r pc' → W p l e R s m args below meth c H' locs' (h'.length - n0) (mj_sl h' - s0) Q (F0 m pc' ls' (r.toList.map (mj_cv b B)))) →
    W p l e R s m args below meth c H locs (h.length - n0) (mj_sl h - s0) Q (F0 m pc ls (st.map (mj_cv b B)))
def mj_G (l : Launch) (D : va_G) (cA : Nat → ClassId) (b B : Nat) (sc : Option (List Int32)) (k : mj_S → mj_O) : Prop :=
  ∀ (M : mj_M) (pc : Nat) (lv : mj_L) (st : List Value) (h : mj_H) (r : Option Value) (h' : mj_H), k (M, pc, lv, st, h) = some (r, h') → (h.length ≤ h'.length ∧ mj_sl h ≤ mj_sl h') ∧ mj_W l D cA b B sc M pc lv st h r h'
theorem mj_K.same {D : va_G} {cA : Nat → ClassId} {s U : State} (hv : s.vm = U.vm) (h : mj_K D cA s) : mj_K D cA U := by
  have ha : s.vm.Alike U.vm := by rw [hv]; exact Vm.Alike.refl _
  refine ⟨va_K.moved ha h.1, ?_, h.2.2.moved ha⟩
  intro o pool C h1 h2 e he hk
  have h3 := h.2.1 o pool C h1 h2 e he hk
  obtain ⟨ix, kd, a, b⟩ := e
  rcases hk with hk | hk
  · dsimp only at hk
    subst hk
    exact va_Nw.same rfl hv h3
  · dsimp only at hk
    subst hk
    exact va_Nw.same rfl hv h3
theorem mj_X.at {b : Nat} {sc : Option (List Int32)} {s U : State} (ha : s.vm.Alike U.vm) (hb : U.heap[b]? = s.heap[b]?) (h : mj_X b sc s) : mj_X b sc U := by
  cases sc with
  | none => exact trivial
  | some sc =>
    obtain ⟨scr, h1, h2, h3, h4, h5⟩ := h
    exact ⟨scr, hb.trans h1, State.isArrayOf_alike ha h2, h3, h4, h5⟩
theorem mj_blind {D : va_G} {cA : Nat → ClassId} {b B : Nat} {sc : Option (List Int32)} {vs : List Value} {h : mj_H} : FrameBlind (mj_Pc D cA b B sc vs h) := by
  intro a U g mk q
  obtain ⟨q0, q1, q2, q3, q4⟩ := q
  exact ⟨q0, q1, mj_K.same (s := U) (U := U.calling g mk a) rfl q2, mj_X.at (s := U) (U := U.calling g mk a) (Vm.Alike.refl U.vm) rfl q3, q4⟩
theorem mj_args_cl (b B : Nat) (vs : List Value) : ∀ i : Nat, lv_args i (vs.map (mj_cv b B)) = mj_cl b B (lv_args i vs) := by
  induction vs with
  | nil => intro i; rfl
  | cons v vs ih =>
    intro i
    show (i, mj_cv b B v) :: lv_args (if (mj_cv b B v).category = 2 then i + 2 else i + 1) (vs.map (mj_cv b B)) = _
    rw [mj_cv_cat, ih]
    rfl
theorem mj_sl_cl (b B : Nat) (vs : List Value) : (lg_sl (vs.map (mj_cv b B))).length = (lg_sl vs).length := by
  induction vs with
  | nil => rfl
  | cons v vs ih =>
    have e : ∀ (v : Value) (vs : List Value), (lg_sl (v :: vs)).length = (if v.category = 2 then 2 else 1) + (lg_sl vs).length := by
      intro v vs
      unfold lg_sl
      rw [List.flatMap_cons, List.length_append]
      split <;> rfl
    rw [List.map_cons, e, e, mj_cv_cat, ih]
theorem mj_mth_good {M : mj_M} (hM : M ∈ mj_meths) : mj_wC M ∈ mj_tbl ∧ Cond.initialized M.1.cls ∈ mj_tbl := ⟨mj_tbl_of (mj_inC _ (List.mem_map_of_mem hM)) rfl, mj_tbl_of (mj_inI _ (List.mem_map_of_mem hM)) rfl⟩
set_option maxHeartbeats 1000000 in
theorem mj_met {l : Launch} {D : va_G} {cA : Nat → ClassId} {b B : Nat} {sc : Option (List Int32)} {M : mj_M} {vs : List Value} {h : mj_H} {r : Option Value} {h' : mj_H} (hM : M ∈ mj_meths) (hlen : (lg_sl vs).length ≤ M.2.2.1) (hm1 : h.length ≤ h'.length) (hm2 : mj_sl h ≤ mj_sl h') (hw : mj_W l D cA b B sc M 0 (lv_args 0 vs) [] h r h') :
    Met l M.1 (mj_ws M) ({ frames := M.2.2.2.2.2.2.2.1, cells := h'.length - h.length, slots := mj_sl h' - mj_sl h, locals := M.2.2.2.2.2.2.2.2 }) (mj_Pc D cA b B sc vs h) (mj_Qc D cA b B r h') (h'.length - h.length) (mj_sl h' - mj_sl h) (fun q => B ≤ q) := by
  obtain ⟨p1, p2, p3, p4, p5, p6⟩ := mj_plain M hM
  refine va_MetF (cc := M.2.1) (maxL := M.2.2.1) (ret := M.2.2.2.1) p1 rfl ?_
  intro p e s m args below meth c s₁ Bd hml hv
  obtain ⟨rfl, hR, hK, hX, hbB⟩ := hv
  have hts : ∀ w ∈ mj_tbl, w.before (vs.map (mj_cv b B)).toArray s = true := fun w hw => atoms_spec (ws := mj_ws M) Bd.pre w (List.mem_cons_of_mem _ hw)
  have hlocks := Bd.notSynchronized
  have hl := lv_entry (vs.map (mj_cv b B)) (n := M.2.2.1) (by rw [mj_sl_cl]; exact hlen)
  rw [lg_entry_eq]
  rw [mj_args_cl] at hl
  have hnm : M.2.2.2.2.2.2.1 = 2 → meth.name = "<init>" := fun hk => (name_of_methodNamed Bd.named Bd.method).1.trans (p6 hk).1
  have := hw p e ({ frames := M.2.2.2.2.2.2.2.1, cells := h'.length - h.length, slots := mj_sl h' - mj_sl h, locals := M.2.2.2.2.2.2.2.2 }) s m _ below meth c s.heap [] h.length (mj_sl h) _ (MQ below (mj_Qc D cA b B r h') (vs.map (mj_cv b B)).toArray s (h'.length - h.length) (mj_sl h' - mj_sl h) (fun q => B ≤ q)) Bd.exec Bd.bytes hml (findClass_of_methodNamed Bd.named) p2 hnm hts hK hX hbB (fun _ _ => rfl) (fun q hq => absurd hq List.not_mem_nil) hR hl (Nat.le_refl _) (Nat.le_refl _) (Nat.le_refl _) (Nat.le_refl _) (by show _ ≤ _ + (h'.length - h.length); omega) (by show _ ≤ _ + (mj_sl h' - mj_sl h); omega) ?_
  · rw [Nat.sub_self, Nat.sub_self] at this
    exact this
  · intro H' locs' pc' ls' o1 o2 o3 o4
    have hr := Bd.returns
    rcases o4 with ⟨rfl, e2, e3⟩ | ⟨v, ty, rfl, e2, e3, e4⟩
    · exact W.vret Bd.exec Bd.bytes (hr.trans e2) (fun t ht _ => ⟨rfl, by rw [ht]; exact o3, by rw [ht]; exact o1⟩) o2 e3
    · exact W.zret (v := v) Bd.exec Bd.bytes (hr.trans e2) e3 (fun t ht _ => ⟨rfl, by rw [ht]; exact o3, by rw [ht]; exact o1⟩) o2 e4
section MJ5
variable {p : Program} {l : Launch} {e : Env} {R : Room} {s : State} {m : MethodId} {args : Array Value} {below : List Frame} {meth : Method} {c : Code} {H : Heap} {locs : List Loc} {cells slots : Nat} {Q : State → Prop}
variable {pc : Nat} {ls : Array Slot}
theorem mj_go {mc ms : Nat} {st0 rest : List Value} {Qa : State → Outcome → State → Prop} {free : Addr → Prop} (hr : va_Run p l e R s m args below meth c H locs cells slots mc ms (F0 m pc ls st0) rest Qa free)
    (kk : ∀ (v : Option Value) (st₀ t : State) (L : List Loc), st₀.heap = H → Qa st₀ (.returned v) t → (∀ q ∈ L, free q.base) → W p l e R s m args below meth c t.heap (locs ++ L) (cells + mc) (slots + ms) Q (F0 m (pc + 3) ls (v.toList ++ rest))) : W p l e R s m args below meth c H locs cells slots Q (F0 m pc ls st0) := by
  intro T hT X
  obtain ⟨v, st₀, t, T', L, h1, X', hL, e1, e2, hq, go⟩ := hr T hT X
  obtain ⟨t2, a1, b1⟩ := kk v st₀ t L h1 hq hL T' e1 X'
  exact ⟨t2, go t2 a1, b1⟩
end MJ5
theorem mj_call_inv {kc k : mj_S → mj_O} {M M' : mj_M} {pc n : Nat} {lv : mj_L} {st : List Value} {h : mj_H} {r : Option Value} {h' : mj_H} (hs : mj_call kc k M pc lv st h M' n = some (r, h')) :
    (n ≤ st.length ∧ ((st.drop n).map fun v => v.category).sum ≤ 8 ∧ M'.2.2.2.2.2.2.2.1 + 1 ≤ M.2.2.2.2.2.2.2.1 ∧ 8 + (M'.2.2.1 + 11) + M'.2.2.2.2.2.2.2.2 ≤ M.2.2.2.2.2.2.2.2 ∧ (lg_sl (st.take n).reverse).length ≤ M'.2.2.1) ∧ ∃ r1 h1, kc (M', 0, lv_args 0 (st.take n).reverse, [], h) = some (r1, h1) ∧ k (M, pc + 3, lv, r1.toList ++ st.drop n, h1) = some (r, h') := by
  unfold mj_call at hs
  split at hs
  · rename_i hh
    split at hs
    · rename_i r1 h1 e1
      exact ⟨hh, r1, h1, e1, hs⟩
    · cases hs
  · cases hs
end
section
section MJ6
variable {l : Launch} {D : va_G} {cA : Nat → ClassId} {b B : Nat} {sc : Option (List Int32)} {kc k : mj_S → mj_O}
theorem mj_sl_app (h : mj_H) (t : Nat) (ys : List Value) : mj_sl (h ++ [(t, ys)]) = mj_sl h + ys.length := by simp [mj_sl]
theorem mj_sl_eq {h h' : mj_H} (e : (h'.map fun c => c.2.length) = (h.map fun c => c.2.length)) : mj_sl h' = mj_sl h := by unfold mj_sl; rw [e]
theorem mj_len_eq {h h' : mj_H} (e : (h'.map fun c => c.2.length) = (h.map fun c => c.2.length)) : h'.length = h.length := by
  have := congrArg List.length e
  simpa using this
/-- a step that leaves the heap as it was -/
theorem mj_keep (hk : mj_G l D cA b B sc k) {M : mj_M} {pc pc1 : Nat} {lv lv1 : mj_L} {st st1 : List Value} {h : mj_H} {r : Option Value} {h' : mj_H} (hs : k (M, pc1, lv1, st1, h) = some (r, h'))
    (row : ∀ (p : Program) (e : Env) (R : Room) (s : State) (m : MethodId) (args : Array Value) (below : List Frame) (meth : Method) (c : Code) (H : Heap) (locs : List Loc) (cells slots : Nat) (ls : Array Slot) (Q : State → Prop),
      p.tables.exec = Jvm.exec → c.code = M.2.1 → s.vm.findClass M.1.cls = some m.cls → mj_names[M.2.2.2.2.1]? = some M.1.cls → (∀ w ∈ mj_tbl, w.before args s = true) → mj_K D cA s → mj_X b sc s → H[b]? = s.heap[b]? → mj_R D cA b B h H → lv_has ls M.2.2.1 (mj_cl b B lv) → ls.size = c.maxLocals → M.2.2.2.2.2.2.2.1 ≤ R.frames → M.2.2.2.2.2.2.2.2 ≤ R.locals → cells ≤ R.cells → slots ≤ R.slots →
      (∀ ls1 : Array Slot, lv_has ls1 M.2.2.1 (mj_cl b B lv1) → W p l e R s m args below meth c H locs cells slots Q (F0 m pc1 ls1 (st1.map (mj_cv b B)))) → W p l e R s m args below meth c H locs cells slots Q (F0 m pc ls (st.map (mj_cv b B)))) :
    (h.length ≤ h'.length ∧ mj_sl h ≤ mj_sl h') ∧ mj_W l D cA b B sc M pc lv st h r h' := by
  obtain ⟨⟨m1, m2⟩, w⟩ := hk _ _ _ _ _ _ _ hs
  refine ⟨⟨m1, m2⟩, ?_⟩
  intro p e R s m args below meth c H locs n0 s0 ls Q a1 a2 a3 a4 a5 a6 a7 a8 a9 a10 a11 a12 a13 a14 a15 a16 a17 a18 a19 a20 a21
  refine row p e R s m args below meth c H locs _ _ ls Q a1 a2 a4 a5 a7 a8 a9 (a11 b a10) a13 a14 (a14.1.trans a3.symm) a15 a16 (by omega) (by omega) fun ls1 hl1 => ?_
  exact w p e R s m args below meth c H locs n0 s0 ls1 Q a1 a2 a3 a4 a5 a6 a7 a8 a9 a10 a11 a12 a13 hl1 a15 a16 a17 a18 a19 a20 a21
/-- a step that writes to one cell -/
theorem mj_write (hk : mj_G l D cA b B sc k) {M : mj_M} {pc pc1 : Nat} {lv : mj_L} {st st1 : List Value} {h h1 : mj_H} {r : Option Value} {h' : mj_H} (hs : k (M, pc1, lv, st1, h1) = some (r, h')) (hlen : (h1.map fun c => c.2.length) = (h.map fun c => c.2.length))
    (row : ∀ (p : Program) (e : Env) (R : Room) (s : State) (m : MethodId) (args : Array Value) (below : List Frame) (meth : Method) (c : Code) (H : Heap) (locs : List Loc) (cells slots : Nat) (ls : Array Slot) (Q : State → Prop),
      p.tables.exec = Jvm.exec → c.code = M.2.1 → s.vm.findClass M.1.cls = some m.cls → mj_names[M.2.2.2.2.1]? = some M.1.cls → (M.2.2.2.2.2.2.1 = 2 → meth.name = "<init>") → (∀ w ∈ mj_tbl, w.before args s = true) → mj_K D cA s → mj_R D cA b B h H → ls.size = c.maxLocals → M.2.2.2.2.2.2.2.1 ≤ R.frames → M.2.2.2.2.2.2.2.2 ≤ R.locals →
      (∀ (H1 : Heap) (a : Nat) (L : List Loc), mj_R D cA b B h1 H1 → (∀ q, q ≠ B + a → H1[q]? = H[q]?) → (∀ q ∈ L, q.base = B + a) → W p l e R s m args below meth c H1 (locs ++ L) cells slots Q (F0 m pc1 ls (st1.map (mj_cv b B)))) → W p l e R s m args below meth c H locs cells slots Q (F0 m pc ls (st.map (mj_cv b B)))) :
    (h.length ≤ h'.length ∧ mj_sl h ≤ mj_sl h') ∧ mj_W l D cA b B sc M pc lv st h r h' := by
  obtain ⟨⟨m1, m2⟩, w⟩ := hk _ _ _ _ _ _ _ hs
  have z1 := mj_len_eq hlen
  have z2 := mj_sl_eq hlen
  refine ⟨⟨by omega, by omega⟩, ?_⟩
  intro p e R s m args below meth c H locs n0 s0 ls Q a1 a2 a3 a4 a5 a6 a7 a8 a9 a10 a11 a12 a13 a14 a15 a16 a17 a18 a19 a20 a21
  refine row p e R s m args below meth c H locs _ _ ls Q a1 a2 a4 a5 a6 a7 a8 a13 (a14.1.trans a3.symm) a15 a16 fun H1 a L c1 c2 c3 => ?_
  have := w p e R s m args below meth c H1 (locs ++ L) n0 s0 ls Q a1 a2 a3 a4 a5 a6 a7 a8 a9 a10 (fun q hq => (c2 q (by omega)).trans (a11 q hq)) (fun q hq => by
    rcases List.mem_append.mp hq with z | z
    · exact a12 q z
    · rw [c3 q z]; omega) c1 a14 a15 a16 (by omega) (by omega) a19 a20 a21
  rw [z1, z2] at this
  exact this
/-- a step that makes one cell -/
theorem mj_made (hk : mj_G l D cA b B sc k) {M : mj_M} {pc pc1 : Nat} {lv : mj_L} {st st1 : List Value} {h : mj_H} {t : Nat} {ys : List Value} {r : Option Value} {h' : mj_H} (hs : k (M, pc1, lv, st1, h ++ [(t, ys)]) = some (r, h'))
    (row : ∀ (p : Program) (e : Env) (R : Room) (s : State) (m : MethodId) (args : Array Value) (below : List Frame) (meth : Method) (c : Code) (H : Heap) (locs : List Loc) (cells slots : Nat) (ls : Array Slot) (Q : State → Prop),
      p.tables.exec = Jvm.exec → c.code = M.2.1 → s.vm.findClass M.1.cls = some m.cls → mj_names[M.2.2.2.2.1]? = some M.1.cls → (∀ w ∈ mj_tbl, w.before args s = true) → mj_K D cA s → mj_R D cA b B h H →
      (cells + 1 ≤ R.cells ∧ slots + ys.length ≤ R.slots ∧ ∀ H1 : Heap, mj_R D cA b B (h ++ [(t, ys)]) H1 → (∀ q, q < H.size → H1[q]? = H[q]?) → W p l e R s m args below meth c H1 locs (cells + 1) (slots + ys.length) Q (F0 m pc1 ls (st1.map (mj_cv b B)))) → W p l e R s m args below meth c H locs cells slots Q (F0 m pc ls (st.map (mj_cv b B)))) :
    (h.length ≤ h'.length ∧ mj_sl h ≤ mj_sl h') ∧ mj_W l D cA b B sc M pc lv st h r h' := by
  obtain ⟨⟨m1, m2⟩, w⟩ := hk _ _ _ _ _ _ _ hs
  have z2 := mj_sl_app h t ys
  have z1 : (h ++ [(t, ys)]).length = h.length + 1 := by simp
  refine ⟨⟨by omega, by omega⟩, ?_⟩
  intro p e R s m args below meth c H locs n0 s0 ls Q a1 a2 a3 a4 a5 a6 a7 a8 a9 a10 a11 a12 a13 a14 a15 a16 a17 a18 a19 a20 a21
  refine row p e R s m args below meth c H locs _ _ ls Q a1 a2 a4 a5 a7 a8 a13 ⟨by omega, by omega, fun H1 c1 c2 => ?_⟩
  have := w p e R s m args below meth c H1 locs n0 s0 ls Q a1 a2 a3 a4 a5 a6 a7 a8 a9 a10 (fun q hq => (c2 q (by rw [a13.1]; omega)).trans (a11 q hq)) a12 c1 a14 a15 a16 (by omega) (by omega) a19 a20 a21
  rw [z1, z2, show h.length + 1 - n0 = h.length - n0 + 1 by omega, show mj_sl h + ys.length - s0 = mj_sl h - s0 + ys.length by omega] at this
  exact this
/-- a call -/
theorem mj_called (hkc : mj_G l D cA b B none kc) (hk : mj_G l D cA b B sc k) {M M' : mj_M} {pc n : Nat} {lv : mj_L} {st : List Value} {h : mj_H} {r : Option Value} {h' : mj_H} (hM : M' ∈ mj_meths) (hs : mj_call kc k M pc lv st h M' n = some (r, h'))
    (row : ∀ (r1 : Option Value) (h1 : mj_H) (p : Program) (e : Env) (R : Room) (s : State) (m : MethodId) (args : Array Value) (below : List Frame) (meth : Method) (c : Code) (H : Heap) (locs : List Loc) (cells slots mc ms : Nat) (ls : Array Slot),
      Met l M'.1 (mj_ws M') ({ frames := M'.2.2.2.2.2.2.2.1, cells := mc, slots := ms, locals := M'.2.2.2.2.2.2.2.2 }) (mj_Pc D cA b B none (st.take n).reverse h) (mj_Qc D cA b B r1 h1) mc ms (fun q => B ≤ q) →
      p.tables.exec = Jvm.exec → c.code = M.2.1 → c.maxLocals = M.2.2.1 → s.vm.findClass M.1.cls = some m.cls → mj_names[M.2.2.2.2.1]? = some M.1.cls → (∀ w ∈ mj_tbl, w.before args s = true) → mj_K D cA s → mj_R D cA b B h H → ls.size = M.2.2.1 →
      M'.2.2.2.2.2.2.2.1 + 1 ≤ R.frames → 8 + (M'.2.2.1 + 11) + M'.2.2.2.2.2.2.2.2 ≤ R.locals → cells + mc ≤ R.cells → slots + ms ≤ R.slots → n ≤ st.length → (((st.drop n).map (mj_cv b B)).map fun v => v.category).sum ≤ 8 →
      (∀ U : State, U.heap = H → s.WarmedH U.vm → mj_Pc D cA b B none (st.take n).reverse h ((st.take n).reverse.map (mj_cv b B)).toArray U) →
      va_Run p l e R s m args below meth c H locs cells slots mc ms (F0 m pc ls (st.map (mj_cv b B))) ((st.drop n).map (mj_cv b B)) (mj_Qc D cA b B r1 h1 ((st.take n).reverse.map (mj_cv b B)).toArray) (fun q => B ≤ q)) :
    (h.length ≤ h'.length ∧ mj_sl h ≤ mj_sl h') ∧ mj_W l D cA b B sc M pc lv st h r h' := by
  obtain ⟨⟨d1, d2, d3, d4, d5⟩, r1, h1, e1, e2⟩ := mj_call_inv hs
  obtain ⟨⟨m1, m2⟩, w1⟩ := hkc _ _ _ _ _ _ _ e1
  obtain ⟨⟨m3, m4⟩, w2⟩ := hk _ _ _ _ _ _ _ e2
  refine ⟨⟨by omega, by omega⟩, ?_⟩
  intro p e R s m args below meth c H locs n0 s0 ls Q a1 a2 a3 a4 a5 a6 a7 a8 a9 a10 a11 a12 a13 a14 a15 a16 a17 a18 a19 a20 a21
  have hMet := mj_met hM d5 m1 m2 w1
  refine mj_go (row r1 h1 p e R s m args below meth c H locs _ _ _ _ ls hMet a1 a2 a3 a4 a5 a7 a8 a13 a14.1 (by omega) (by omega) (by omega) (by omega) d1 (by rw [mj_cat_sum]; exact d2) ?_) ?_
  · intro U hU hW
    exact ⟨rfl, by rw [hU]; exact a13, a8.moved hW, trivial, a10⟩
  · intro v st₀ t L c1 c2 c3
    obtain ⟨q1, q2, q3⟩ := c2
    cases q1
    have := w2 p e R s m args below meth c t.heap (locs ++ L) n0 s0 ls Q a1 a2 a3 a4 a5 a6 a7 a8 a9 a10 (fun q hq => (q3 q hq).trans (by rw [c1]; exact a11 q hq)) (fun q hq => by
      rcases List.mem_append.mp hq with z | z
      · exact a12 q z
      · exact c3 q z) q2 a14 a15 a16 (by omega) (by omega) a19 a20 a21
    rw [show h1.length - n0 = h.length - n0 + (h1.length - h.length) by omega, show mj_sl h1 - s0 = mj_sl h - s0 + (mj_sl h1 - mj_sl h) by omega, List.map_append] at this
    cases r1 with
    | none => exact this
    | some v => exact this
end MJ6
end
section
theorem mj_pf_len {M : mj_M} {idx : Nat} {st st' : List Value} {h h' : mj_H} (hs : mj_pf M idx st h = some (st', h')) : (h'.map fun c => c.2.length) = (h.map fun c => c.2.length) := by
  unfold mj_pf at hs
  split at hs
  · split at hs
    · split at hs
      · split at hs
        · rename_i t xs hcell
          split at hs
          · cases hs
            exact mj_lens hcell List.length_set
          · cases hs
        · cases hs
      · cases hs
    · cases hs
  · cases hs
theorem mj_ast_len {t : Nat} {st st' : List Value} {h h' : mj_H} (hs : mj_ast t st h = some (st', h')) : (h'.map fun c => c.2.length) = (h.map fun c => c.2.length) := by
  obtain ⟨x, j, a, xs, -, hc, -, -, rfl⟩ := mj_ast_inv hs
  exact mj_lens hc List.length_set
theorem mj_aast_len {st st' : List Value} {h h' : mj_H} (hs : mj_aast st h = some (st', h')) : (h'.map fun c => c.2.length) = (h.map fun c => c.2.length) := by
  unfold mj_aast at hs
  split at hs
  · split at hs
    · rename_i t xs vs hc hv
      split at hs
      · cases hs
        exact mj_lens hc List.length_set
      · cases hs
    · cases hs
  · cases hs
theorem mj_acopy_len {M : mj_M} {st st' : List Value} {h h' : mj_H} (hs : mj_acopy M st h = some (st', h')) : (h'.map fun c => c.2.length) = (h.map fun c => c.2.length) := by
  unfold mj_acopy at hs
  split at hs
  · split at hs
    · rename_i t xs t' ys hc0 hc1
      split at hs
      · rename_i hh
        cases hs
        exact mj_lens hc1 (mj_cpy_len hh.2.2.2.2.2.1 hh.2.2.2.2.2.2.1)
      · cases hs
    · cases hs
  · cases hs
theorem mj_new_app {M : mj_M} {idx : Nat} {st st' : List Value} {h h' : mj_H} (hs : mj_new M idx st h = some (st', h')) : ∃ t ys, h' = h ++ [(t, ys)] := by
  unfold mj_new at hs
  split at hs
  · split at hs
    · cases hs; exact ⟨_, _, rfl⟩
    · cases hs
  · cases hs
theorem mj_newa_app {a : ArrayType} {st st' : List Value} {h h' : mj_H} (hs : mj_newa a st h = some (st', h')) : ∃ t ys, h' = h ++ [(t, ys)] := by
  unfold mj_newa at hs
  split at hs
  · split at hs
    · cases hs; exact ⟨_, _, rfl⟩
    · cases hs
  · cases hs
theorem mj_anew_app {M : mj_M} {idx : Nat} {st st' : List Value} {h h' : mj_H} (hs : mj_anew M idx st h = some (st', h')) : ∃ t ys, h' = h ++ [(t, ys)] := by
  unfold mj_anew at hs
  split at hs
  · split at hs
    · cases hs; exact ⟨_, _, rfl⟩
    · cases hs
  · cases hs
end
section
section MJ7
variable {l : Launch} {D : va_G} {cA : Nat → ClassId} {b B : Nat} {sc : Option (List Int32)} {kc k : mj_S → mj_O}
theorem mj_dflt (hk : mj_G l D cA b B sc k) {M : mj_M} {pc len : Nat} {lv : mj_L} {st : List Value} {h : mj_H} {r : Option Value} {h' : mj_H} {ins : Instr} (hd : decode M.2.1 pc = .ok (ins, len))
    (hs : (match mj_br ins len pc st with
        | some (pc', st') => k (M, pc', lv, st', h)
        | none => match mj_loc ins len M.2.2.1 lv st with
          | some (lv', st') => k (M, pc + len, lv', st', h)
          | none => if len = 1 then match mj_alu ins st with
            | some st' => k (M, pc + 1, lv, st', h)
            | none => none
            else none) = some (r, h')) : (h.length ≤ h'.length ∧ mj_sl h ≤ mj_sl h') ∧ mj_W l D cA b B sc M pc lv st h r h' := by
  split at hs
  · rename_i pc' st' e1
    exact mj_keep hk hs fun p e R s m args below meth c H locs cells slots ls Q a1 a2 a3 a4 a5 a6 a7 a8 a9 a10 a11 a12 a13 a14 a15 kk => mj_br_ok a1 a2 e1 hd (kk ls a10)
  · split at hs
    · rename_i lv' st' e1
      exact mj_keep hk hs fun p e R s m args below meth c H locs cells slots ls Q a1 a2 a3 a4 a5 a6 a7 a8 a9 a10 a11 a12 a13 a14 a15 kk => mj_loc_ok a1 a2 e1 hd a10 kk
    · split at hs
      · rename_i hl
        subst hl
        split at hs
        · rename_i st' e1
          exact mj_keep hk hs fun p e R s m args below meth c H locs cells slots ls Q a1 a2 a3 a4 a5 a6 a7 a8 a9 a10 a11 a12 a13 a14 a15 kk => mj_alu_ok a1 a2 e1 hd (kk ls a10)
        · cases hs
      · cases hs
theorem mj_take1 {st : List Value} {n : Nat} {v : Value} (h : st[n]? = some v) : (st.take (n + 1)).reverse = v :: (st.take n).reverse := by
  have hl : n < st.length := (List.getElem?_eq_some_iff.mp h).1
  have hv : st[n] = v := (List.getElem?_eq_some_iff.mp h).2
  rw [List.take_succ_eq_append_getElem hl, List.reverse_append, hv]
  rfl
theorem mj_split1 {st : List Value} {n : Nat} {v : Value} (b B : Nat) (h : st[n]? = some v) : st.map (mj_cv b B) = ((st.take n).reverse.map (mj_cv b B)).reverse ++ mj_cv b B v :: (st.drop (n + 1)).map (mj_cv b B) := by
  have hl : n < st.length := (List.getElem?_eq_some_iff.mp h).1
  have hv : st[n] = v := (List.getElem?_eq_some_iff.mp h).2
  have e1 : st = st.take n ++ v :: st.drop (n + 1) := by rw [← hv, List.getElem_cons_drop hl, List.take_append_drop]
  rw [← List.map_reverse, List.reverse_reverse, ← List.map_cons, ← List.map_append, ← e1]
theorem mj_split0 {st : List Value} {n : Nat} (b B : Nat) : st.map (mj_cv b B) = ((st.take n).reverse.map (mj_cv b B)).reverse ++ (st.drop n).map (mj_cv b B) := by
  rw [← List.map_reverse, List.reverse_reverse, ← List.map_append, List.take_append_drop]
theorem mj_words_ok {s : State} {args : Array Value} {M' : mj_M} (hM : M' ∈ mj_meths) (hts : ∀ w ∈ mj_tbl, w.before args s = true) : ∀ w ∈ mj_ws M', ∀ (a' : Array Value) (U : State), s.WarmedH U.vm → w.before a' U = true := by
  intro w hw a' U hW
  have hm : w ∈ mj_tbl := by
    rcases List.mem_cons.mp hw with rfl | h
    · exact (mj_mth_good hM).1
    · exact h
  exact word_at hW (good_of_word (List.mem_filter.mp hm).2) (hts w hm)
theorem mj_params {M' : mj_M} (hM : M' ∈ mj_meths) : ∀ sig, parseMethodDescriptor M'.1.desc = some sig → M'.2.2.2.2.2.1 = sig.parameters.length := by
  intro sig h
  have h2 := (mj_plain M' hM).2.2.2.2.1
  rw [h] at h2
  exact (Option.some.inj h2).symm
theorem mj_monoroom {m : MethodId} {pc : Nat} {ls : Array Slot} {st rest : List Value} (h : (rest.map fun v => v.category).sum ≤ 8) : 2 * (F0 m pc ls st).monitorRoom + (rest.map fun v => v.category).sum ≤ 8 := by
  have : (F0 m pc ls st).monitorRoom = 0 := rfl
  omega
set_option maxHeartbeats 4000000 in
theorem mj_step_ok (hkc : mj_G l D cA b B none kc) (hk : mj_G l D cA b B sc k) : mj_G l D cA b B sc (mj_step sc kc k) := by
  intro M pc lv st h r h' hs
  unfold mj_step at hs
  dsimp only at hs
  split at hs
  · cases hs
  · rename_i ins len hd
    cases ins with
    | bipush n =>
      dsimp only at hs
      split at hs
      · rename_i hl; subst hl
        exact mj_keep hk hs fun p e R s m args below meth c H locs cells slots ls Q a1 a2 a3 a4 a5 a6 a7 a8 a9 a10 a11 a12 a13 a14 a15 kk => lv_bipush a1 a2 hd rfl (kk ls a10)
      · cases hs
    | sipush n =>
      dsimp only at hs
      split at hs
      · rename_i hl; subst hl
        exact mj_keep hk hs fun p e R s m args below meth c H locs cells slots ls Q a1 a2 a3 a4 a5 a6 a7 a8 a9 a10 a11 a12 a13 a14 a15 kk => lv_sipush a1 a2 hd rfl (kk ls a10)
      · cases hs
    | ldc idx =>
      dsimp only at hs
      split at hs
      · rename_i hl; subst hl
        split at hs
        · rename_i st' e1
          exact mj_keep hk hs fun p e R s m args below meth c H locs cells slots ls Q a1 a2 a3 a4 a5 a6 a7 a8 a9 a10 a11 a12 a13 a14 a15 kk => mj_ldc_ok a1 a2 a3 a4 a5 e1 hd (kk ls a10)
        · cases hs
      · cases hs
    | ldc_w idx =>
      dsimp only at hs
      split at hs
      · rename_i hl; subst hl
        split at hs
        · rename_i st' e1
          exact mj_keep hk hs fun p e R s m args below meth c H locs cells slots ls Q a1 a2 a3 a4 a5 a6 a7 a8 a9 a10 a11 a12 a13 a14 a15 kk => mj_ldcw_ok a1 a2 a3 a4 a5 e1 hd (kk ls a10)
        · cases hs
      · cases hs
    | ldc2_w idx =>
      dsimp only at hs
      split at hs
      · rename_i hl; subst hl
        split at hs
        · rename_i st' e1
          exact mj_keep hk hs fun p e R s m args below meth c H locs cells slots ls Q a1 a2 a3 a4 a5 a6 a7 a8 a9 a10 a11 a12 a13 a14 a15 kk => mj_ldc2_ok a1 a2 a3 a4 a5 e1 hd (kk ls a10)
        · cases hs
      · cases hs
    | getfield idx =>
      dsimp only at hs
      split at hs
      · rename_i hl; subst hl
        split at hs
        · rename_i st' e1
          exact mj_keep hk hs fun p e R s m args below meth c H locs cells slots ls Q a1 a2 a3 a4 a5 a6 a7 a8 a9 a10 a11 a12 a13 a14 a15 kk => mj_gf_ok a1 a2 a3 a4 a5 a6 a9 e1 hd (kk ls a10)
        · cases hs
      · cases hs
    | putfield idx =>
      dsimp only at hs
      split at hs
      · rename_i hl; subst hl
        split at hs
        · rename_i st' h1 e1
          have hlen : (h1.map fun c => c.2.length) = (h.map fun c => c.2.length) := mj_pf_len e1
          exact mj_write hk hs hlen fun p e R s m args below meth c H locs cells slots ls Q a1 a2 a3 a4 a5 a6 a7 a8 a9 a10 a11 kk => mj_pf_ok a1 a2 a3 a4 a5 a6 a7 a8 e1 hd (fun H1 a i c1 _ c3 _ _ => kk H1 a [⟨B + a, i⟩] c1 c3 (fun q hq => by rw [List.mem_singleton.mp hq]))
        · cases hs
      · cases hs
    | new idx =>
      dsimp only at hs
      split at hs
      · rename_i hl; subst hl
        split at hs
        · rename_i st' h1 e1
          obtain ⟨t, ys, rfl⟩ := mj_new_app e1
          exact mj_made hk hs fun p e R s m args below meth c H locs cells slots ls Q a1 a2 a3 a4 a5 a6 a7 kk => mj_new_ok a1 a2 a3 a4 a5 a6 a7 e1 hd (fun t2 ys2 he => by
            obtain ⟨rfl, rfl⟩ := Prod.mk.inj (List.cons.inj (List.append_cancel_left he)).1
            exact kk)
        · cases hs
      · cases hs
    | newarray a0 =>
      dsimp only at hs
      split at hs
      · rename_i hl; subst hl
        split at hs
        · rename_i st' h1 e1
          obtain ⟨t, ys, rfl⟩ := mj_newa_app e1
          exact mj_made hk hs fun p e R s m args below meth c H locs cells slots ls Q a1 a2 a3 a4 a5 a6 a7 kk => mj_newa_ok a1 a2 a5 a6 a7 e1 hd (fun t2 ys2 he => by
            obtain ⟨rfl, rfl⟩ := Prod.mk.inj (List.cons.inj (List.append_cancel_left he)).1
            exact kk)
        · cases hs
      · cases hs
    | anewarray idx =>
      dsimp only at hs
      split at hs
      · rename_i hl; subst hl
        split at hs
        · rename_i st' h1 e1
          obtain ⟨t, ys, rfl⟩ := mj_anew_app e1
          exact mj_made hk hs fun p e R s m args below meth c H locs cells slots ls Q a1 a2 a3 a4 a5 a6 a7 kk => mj_anew_ok a1 a2 a3 a4 a5 a6 a7 e1 hd (fun t2 ys2 he => by
            obtain ⟨rfl, rfl⟩ := Prod.mk.inj (List.cons.inj (List.append_cancel_left he)).1
            exact kk)
        · cases hs
      · cases hs
    | iaload =>
      dsimp only at hs
      split at hs
      · rename_i hl; subst hl
        split at hs
        · rename_i st' e1
          exact mj_keep hk hs fun p e R s m args below meth c H locs cells slots ls Q a1 a2 a3 a4 a5 a6 a7 a8 a9 a10 a11 a12 a13 a14 a15 kk => mj_iald_ok a1 a2 a6 a9 a7 a8 e1 hd (kk ls a10)
        · cases hs
      · cases hs
    | caload =>
      dsimp only at hs
      split at hs
      · rename_i hl; subst hl
        split at hs
        · rename_i st' e1
          exact mj_keep hk hs fun p e R s m args below meth c H locs cells slots ls Q a1 a2 a3 a4 a5 a6 a7 a8 a9 a10 a11 a12 a13 a14 a15 kk => mj_cald_ok a1 a2 a6 a9 e1 hd (kk ls a10)
        · cases hs
      · cases hs
    | baload =>
      dsimp only at hs
      split at hs
      · rename_i hl; subst hl
        split at hs
        · rename_i st' e1
          exact mj_keep hk hs fun p e R s m args below meth c H locs cells slots ls Q a1 a2 a3 a4 a5 a6 a7 a8 a9 a10 a11 a12 a13 a14 a15 kk => mj_zald_ok a1 a2 a6 a9 e1 hd (kk ls a10)
        · cases hs
      · cases hs
    | aaload =>
      dsimp only at hs
      split at hs
      · rename_i hl; subst hl
        split at hs
        · rename_i st' e1
          exact mj_keep hk hs fun p e R s m args below meth c H locs cells slots ls Q a1 a2 a3 a4 a5 a6 a7 a8 a9 a10 a11 a12 a13 a14 a15 kk => mj_aald_ok a1 a2 a6 a9 e1 hd (kk ls a10)
        · cases hs
      · cases hs
    | iastore =>
      dsimp only at hs
      split at hs
      · rename_i hl; subst hl
        split at hs
        · rename_i st' h1 e1
          exact mj_write hk hs (mj_ast_len e1) fun p e R s m args below meth c H locs cells slots ls Q a1 a2 a3 a4 a5 a6 a7 a8 a9 a10 a11 kk => mj_iast_ok a1 a2 a7 a8 e1 hd (fun H1 a i c1 _ c3 _ _ => kk H1 a [⟨B + a, i⟩] c1 c3 (fun q hq => by rw [List.mem_singleton.mp hq]))
        · cases hs
      · cases hs
    | castore =>
      dsimp only at hs
      split at hs
      · rename_i hl; subst hl
        split at hs
        · rename_i st' h1 e1
          exact mj_write hk hs (mj_ast_len e1) fun p e R s m args below meth c H locs cells slots ls Q a1 a2 a3 a4 a5 a6 a7 a8 a9 a10 a11 kk => mj_cast_ok a1 a2 a7 a8 e1 hd (fun H1 a i c1 _ c3 _ _ => kk H1 a [⟨B + a, i⟩] c1 c3 (fun q hq => by rw [List.mem_singleton.mp hq]))
        · cases hs
      · cases hs
    | bastore =>
      dsimp only at hs
      split at hs
      · rename_i hl; subst hl
        split at hs
        · rename_i st' h1 e1
          exact mj_write hk hs (mj_ast_len e1) fun p e R s m args below meth c H locs cells slots ls Q a1 a2 a3 a4 a5 a6 a7 a8 a9 a10 a11 kk => mj_zast_ok a1 a2 a7 a8 e1 hd (fun H1 a i c1 _ c3 _ _ => kk H1 a [⟨B + a, i⟩] c1 c3 (fun q hq => by rw [List.mem_singleton.mp hq]))
        · cases hs
      · cases hs
    | aastore =>
      dsimp only at hs
      split at hs
      · rename_i hl; subst hl
        split at hs
        · rename_i st' h1 e1
          exact mj_write hk hs (mj_aast_len e1) fun p e R s m args below meth c H locs cells slots ls Q a1 a2 a3 a4 a5 a6 a7 a8 a9 a10 a11 kk => mj_aast_ok a1 a2 a7 a8 e1 hd (fun H1 a i c1 _ c3 _ _ => kk H1 a [⟨B + a, i⟩] c1 c3 (fun q hq => by rw [List.mem_singleton.mp hq]))
        · cases hs
      · cases hs
    | arraylength =>
      dsimp only at hs
      split at hs
      · rename_i hl; subst hl
        split at hs
        · rename_i st' e1
          exact mj_keep hk hs fun p e R s m args below meth c H locs cells slots ls Q a1 a2 a3 a4 a5 a6 a7 a8 a9 a10 a11 a12 a13 a14 a15 kk => mj_alen_ok a1 a2 a6 a9 a7 a8 e1 hd (kk ls a10)
        · cases hs
      · cases hs
    | ireturn =>
      dsimp only at hs
      split at hs
      · rename_i hl; subst hl
        split at hs
        · rename_i v ty hret
          split at hs
          · rename_i hnar
            cases hs
            refine ⟨⟨Nat.le_refl _, Nat.le_refl _⟩, ?_⟩
            intro p e R s m args below meth c H locs n0 s0 ls Q a1 a2 a3 a4 a5 a6 a7 a8 a9 a10 a11 a12 a13 a14 a15 a16 a17 a18 a19 a20 a21
            exact a21 H locs pc ls a11 a12 a13 (Or.inr ⟨v, ty, rfl, hret, hnar, hd⟩)
          · cases hs
        · cases hs
      · cases hs
    | return_ =>
      dsimp only at hs
      split at hs
      · rename_i hl; subst hl
        split at hs
        · rename_i hret
          cases hs
          refine ⟨⟨Nat.le_refl _, Nat.le_refl _⟩, ?_⟩
          intro p e R s m args below meth c H locs n0 s0 ls Q a1 a2 a3 a4 a5 a6 a7 a8 a9 a10 a11 a12 a13 a14 a15 a16 a17 a18 a19 a20 a21
          exact a21 H locs pc ls a11 a12 a13 (Or.inl ⟨rfl, hret, hd⟩)
        · cases hs
      · cases hs
    | invokestatic idx =>
      dsimp only at hs
      split at hs
      · rename_i hl; subst hl
        split at hs
        · rename_i ix kd j zz he
          split at hs
          · rename_i hkd; subst hkd
            split at hs
            · rename_i st' h1 e1
              exact mj_write hk hs (mj_acopy_len e1) fun p e R s m args below meth c H locs cells slots ls Q a1 a2 a3 a4 a5 a6 a7 a8 a9 a10 a11 kk => mj_acopy_ok a1 a2 a3 a4 a6 a7 a8 a9 a10 a11 he e1 hd (fun H1 a L c1 _ c3 c4 _ _ => kk H1 a L c1 c3 c4)
            · cases hs
          · split at hs
            · rename_i hkd
              split at hs
              · rename_i st' e1
                exact mj_keep hk hs fun p e R s m args below meth c H locs cells slots ls Q a1 a2 a3 a4 a5 a6 a7 a8 a9 a10 a11 a12 a13 a14 a15 kk => mj_mm_ok a1 a2 a3 a4 a5 a11 a12 a13 a14 a15 he hkd e1 hd (kk ls a10)
              · cases hs
            · split at hs
              · rename_i M' hj
                split at hs
                · rename_i hh
                  obtain ⟨rfl, hst⟩ := hh
                  have hM : M' ∈ mj_meths := List.mem_of_getElem? hj
                  refine mj_called hkc hk hM hs fun r1 h1 p e R s m args below meth c H locs cells slots mc ms ls hMet a1 a2 a3 a4 a5 a6 a7 a8 a9 a10 a11 a12 a13 a14 a15 a16 => ?_
                  obtain ⟨g1, g2, -⟩ := mj_ent_in he a5
                  dsimp only at g1
                  subst g1
                  have hlink : (Cond.methodLink M.1.cls ix M'.1).before args s = true := mj_good a6 (show Cond.methodLink M.1.cls ix M'.1 ∈ lw_tbl by simp only [mj_word, hj] at g2; exact g2) rfl
                  have hstat : (Cond.static M'.1).before args s = true := by
                    have := mj_inK _ (List.mem_map_of_mem hM)
                    rw [mj_wK, if_pos hst] at this
                    exact mj_good a6 this rfl
                  have hpl := mj_plain M' hM
                  exact va_runS (Ts := mj_tbl) (bytes := M'.2.1) (maxL := M'.2.2.1) (ret := M'.2.2.2.1) (n := M'.2.2.2.2.2.1) ⟨a1, a2, a3, a4, a6⟩ hMet ⟨⟨rfl, rfl, a10, a11, mj_words_ok hM a6, List.mem_cons_self, a6 _ (mj_mth_good hM).1, a6 _ (mj_mth_good hM).2, ⟨hpl.2.2.1, hpl.2.2.2.1⟩, mj_params hM, hlink⟩, hstat⟩ ⟨mj_blind, a16⟩ rfl (by rw [List.length_map, List.length_reverse, List.length_take]; omega) a9 (mj_split0 b B) (mj_monoroom a15) hd ⟨a12, a13⟩
                · cases hs
              · cases hs
        · cases hs
      · cases hs
    | invokevirtual idx =>
      dsimp only at hs
      split at hs
      · rename_i hl; subst hl
        split at hs
        · rename_i ix kd j zz he
          split at hs
          · rename_i M' hj
            split at hs
            · rename_i a hsa
              split at hs
              · rename_i t xs hcell
                split at hs
                · rename_i hh
                  obtain ⟨rfl, hkd, htc, hlt⟩ := hh
                  have hM : M' ∈ mj_meths := List.mem_of_getElem? hj
                  have hpl := mj_plain M' hM
                  refine mj_called hkc hk hM hs fun r1 h1 p e R s m args below meth c H locs cells slots mc ms ls hMet a1 a2 a3 a4 a5 a6 a7 a8 a9 a10 a11 a12 a13 a14 a15 a16 => ?_
                  obtain ⟨g1, g2, -⟩ := mj_ent_in he a5
                  dsimp only at g1
                  subst g1
                  have hlink : (Cond.methodLink M.1.cls ix M'.1).before args s = true := mj_good a6 (show Cond.methodLink M.1.cls ix M'.1 ∈ lw_tbl by simp only [mj_word, hj] at g2; exact g2) rfl
                  have hinst : (Cond.instanceMethod M'.1).before args s = true := by
                    have := mj_inK _ (List.mem_map_of_mem hM)
                    rw [mj_wK, if_neg (by rw [hkd]; decide)] at this
                    exact mj_good a6 this rfl
                  have hsel : (Cond.selects M'.1.cls M'.1 M'.1).before args s = true := mj_good a6 (mj_inS _ (List.mem_map_of_mem (List.mem_filter.mpr ⟨hM, by simp [hkd]⟩))) rfl
                  obtain ⟨q, hq, hlen, hob⟩ : ∃ q : vw_C, vwCl[t]? = some q ∧ q.2.2 = xs.length ∧ t_OB (B + a) (D.1 t) q.2.2 (D.2 t) H (vp_V (xs.map (mj_cv b B))) := by
                    rcases a8.2 a t xs hcell with ⟨-, q, c1, c2, c3⟩ | ⟨c1, -⟩
                    · exact ⟨q, c1, c2, c3⟩
                    · omega
                  have hC := mj_cls t q hq
                  have hqc : q.1 = M'.1.cls := by
                    have e1 := hC.2.2.2.2
                    rw [htc, hpl.2.1] at e1
                    exact (Option.some.inj e1).symm
                  have hrecv : ∃ cellB : Cell, H[B + a]? = some cellB ∧ cellB.vm.isStatics = false ∧ s.vm.findClass M'.1.cls = some cellB.cls := by
                    obtain ⟨cell, c1, c2, c3, -⟩ := hob
                    exact ⟨cell, c1, by rw [c3]; rfl, by rw [c2, ← hqc]; exact (a7.1.1 t q hq).2.1⟩
                  have e1 := mj_take1 hsa
                  rw [e1] at hMet a16 ⊢
                  exact va_runV (Ts := mj_tbl) (C := M'.1.cls) (b := B + a) (As := (st.take M'.2.2.2.2.2.1).reverse.map (mj_cv b B)) (bytes := M'.2.1) (maxL := M'.2.2.1) (ret := M'.2.2.2.1) (n := M'.2.2.2.2.2.1) ⟨a1, a2, a3, a4, a6⟩ hMet ⟨⟨rfl, rfl, a10, a11, mj_words_ok hM a6, List.mem_cons_self, a6 _ (mj_mth_good hM).1, a6 _ (mj_mth_good hM).2, ⟨hpl.2.2.1, hpl.2.2.2.1⟩, mj_params hM, hlink⟩, hinst, hsel⟩ ⟨mj_blind, hrecv, a16⟩ rfl (by rw [List.length_map, List.length_reverse, List.length_take]; omega) a9 (mj_split1 b B hsa) (mj_monoroom a15) hd ⟨a12, a13⟩
                · cases hs
              · cases hs
            · cases hs
          · cases hs
        · cases hs
      · cases hs
    | invokespecial idx =>
      dsimp only at hs
      split at hs
      · rename_i hl; subst hl
        split at hs
        · rename_i ix kd j zz he
          split at hs
          · rename_i hkd; subst hkd
            split at hs
            · rename_i a r0
              split at hs
              · rename_i hh
                exact mj_keep hk hs fun p e R s m args below meth c H locs cells slots ls Q a1 a2 a3 a4 a5 a6 a7 a8 a9 a10 a11 a12 a13 a14 a15 kk => mj_oi_ok a1 a2 a3 a4 a5 a11 a12 a13 he hh.1 hh.2 hd (kk ls a10)
              · cases hs
            · cases hs
          · split at hs
            · rename_i M' hj
              split at hs
              · rename_i a hsa
                split at hs
                · rename_i hh
                  obtain ⟨hk23, hkd⟩ := hh
                  have hM : M' ∈ mj_meths := List.mem_of_getElem? hj
                  have hpl := mj_plain M' hM
                  have hini := hpl.2.2.2.2.2 hkd
                  refine mj_called hkc hk hM hs fun r1 h1 p e R s m args below meth c H locs cells slots mc ms ls hMet a1 a2 a3 a4 a5 a6 a7 a8 a9 a10 a11 a12 a13 a14 a15 a16 => ?_
                  obtain ⟨g1, g2, pool, g3, g4⟩ := mj_ent_in he a5
                  dsimp only at g1
                  subst g1
                  have hinst : (Cond.instanceMethod M'.1).before args s = true := by
                    have := mj_inK _ (List.mem_map_of_mem hM)
                    rw [mj_wK, if_neg (by rw [hkd]; decide)] at this
                    exact mj_good a6 this rfl
                  have e1 := mj_take1 hsa
                  rw [e1] at hMet a16 ⊢
                  have hcw : Cond.code M'.1 M'.2.1 M'.2.2.1 none ∈ mj_tbl := by
                    have := (mj_mth_good hM).1
                    rw [mj_wC, hini.2] at this
                    exact this
                  have hcw2 : Cond.code M'.1 M'.2.1 M'.2.2.1 none ∈ mj_ws M' := List.mem_cons_of_mem _ hcw
                  rcases hk23 with rfl | rfl
                  · have hlink : (Cond.methodLink M.1.cls ix M'.1).before args s = true := mj_good a6 (show Cond.methodLink M.1.cls ix M'.1 ∈ lw_tbl by simp only [mj_word, hj] at g2; exact g2) rfl
                    exact va_runI (Ts := mj_tbl) (b := B + a) (As := (st.take M'.2.2.2.2.2.1).reverse.map (mj_cv b B)) (bytes := M'.2.1) (maxL := M'.2.2.1) (n := M'.2.2.2.2.2.1) ⟨a1, a2, a3, a4, a6⟩ hMet ⟨⟨rfl, rfl, a10, a11, mj_words_ok hM a6, hcw2, a6 _ hcw, a6 _ (mj_mth_good hM).2, ⟨hpl.2.2.1, hpl.2.2.2.1⟩, mj_params hM, hlink⟩, hini.1, hinst⟩ ⟨mj_blind, a16⟩ rfl (by rw [List.length_map, List.length_reverse, List.length_take]; omega) a9 (mj_split1 b B hsa) (mj_monoroom a15) hd ⟨a12, a13⟩
                  · have hw := a7.2.1 _ _ _ g3 a5 _ g4 (Or.inr rfl)
                    simp only [mj_word, hj] at hw
                    have hlink : (Cond.methodLinkNest M.1.cls ix M'.1 "SootMaps").before args s = true := va_Nw.use rfl hw
                    exact va_runIN (Ts := mj_tbl) (b := B + a) (As := (st.take M'.2.2.2.2.2.1).reverse.map (mj_cv b B)) (bytes := M'.2.1) (maxL := M'.2.2.1) (n := M'.2.2.2.2.2.1) ⟨a1, a2, a3, a4, a6⟩ hMet ⟨⟨⟨rfl, rfl, a10, a11, mj_words_ok hM a6, hcw2⟩, a6 _ hcw, a6 _ (mj_mth_good hM).2, ⟨hpl.2.2.1, hpl.2.2.2.1⟩, mj_params hM, hlink⟩, hini.1, hinst⟩ ⟨mj_blind, a16⟩ rfl (by rw [List.length_map, List.length_reverse, List.length_take]; omega) a9 (mj_split1 b B hsa) (mj_monoroom a15) hd ⟨a12, a13⟩
                · cases hs
              · cases hs
            · cases hs
        · cases hs
      · cases hs
    | _ => exact mj_dflt hk hd hs
theorem mj_sound (f : Nat) : mj_G l D cA b B none (mj_ex f) := by
  induction f with
  | zero => intro M pc lv st h r h' hs; cases hs
  | succ f ih => exact mj_step_ok ih ih
theorem mj_soundL (sc : List Int32) (f0 f : Nat) : mj_G l D cA b B (some sc) (mj_exL sc (mj_ex f0) f) := by
  induction f with
  | zero => intro M pc lv st h r h' hs; cases hs
  | succ f ih => exact mj_step_ok (mj_sound f0) ih
end MJ7
end
section
/-! THE CLAIM OUT OF ONE WALK OF THE LAW'S BODY. Your part is whole_start (and what it stands on); all else here is the same for every law, but numbers. -/
def R_law : String := "SootMapsLaw"
def lw_P (b : Addr) (xs : List Int32) (args : Array Value) (s : State) : Prop := args = #[.ref b] ∧ s.IntsAt b xs ∧ xs.length ≤ 320 ∧ (Jvm.Cond.and given_1 narrow_1).before args s = true
def lw_Q (_ : Array Value) (s : State) (o : Outcome) (t : State) : Prop := o = .returned (some (.int 1)) ∧ Framed s o t [] 600000 7302249
def lw_Z (below : List Frame) (a : Array Value) (s : State) : State → Prop := fun t => ∃ o, t.status = .running ∧ Ended t below o ∧ lw_Q a s o t
/-- the law's own end, with 1 on the stack, nothing written that was there before, its room as the claim has it -/
theorem lw_ret {p : Program} {l : Launch} {e : Env} {s : State} {m : MethodId} {below : List Frame} {meth : Method} {c : Code} {b : Nat} (hx : p.tables.exec = Jvm.exec) (hb : c.code = code) (hr : meth.sig.returnType = ret) (hlocks : meth.locks = false) {pc : Nat} {H : Heap} {ls : Array Slot} (hdg : decode code pc = .ok (.ireturn, 1)) : W p l e room_1 s m #[Value.ref b] below meth c H [] 600000 7302249 (lw_Z below #[Value.ref b] s) (F0 m pc ls [.int 1]) := by
  intro T hT X
  obtain ⟨fs, hret, hrun, hended, hW, hframe⟩ := X.leave (v := some (.int 1)) (hlocks := hlocks) (fun h => by rw [hr] at h; cases h)
  have hmeth' : T.vm.method? m = some meth := X.method'
  refine ⟨T.setFrames fs, ?_, .returned (some (.int 1)), hrun, hended, rfl, ⟨_, rfl⟩, hW, hframe⟩
  jvm_step X.here [X.here.top, hx, hb, hdg, hmeth', hr, ret, narrow_b1]
  (try refine ⟨rfl, ?_⟩); (try refine ⟨rfl, ?_⟩)
  first | (intro acts; rw [hret _ acts rfl rfl rfl]) | rw [hret _ _ rfl rfl rfl]
  exact Steps.refl _
/-- what holds at the law's entry: the machine, the code, the tables' words (any of lw_tbl by 'hts w (by decide +kernel)'), the script of L ints xs at the cell b, what the Statement gives of the start (any of its parts by flat_of_before) -/
def lw_At (p : Program) (s : State) (m : MethodId) (meth : Method) (c : Code) (b L : Nat) (xs : Nat → Int32) : Prop :=
  p.tables.exec = Jvm.exec ∧ c.code = code ∧ meth.sig.returnType = ret ∧ c.maxLocals = 4 ∧ s.vm.findClass R_law = some m.cls ∧ (∀ w ∈ lw_tbl, w.before #[Value.ref b] s = true) ∧ va_X b L xs s s.heap ∧ b < s.heap.size ∧ meth.locks = false ∧ (Jvm.Cond.and given_1 narrow_1).before #[Value.ref b] s = true
end
section
theorem mj_w_over : Cond.arrayOver (.object "SootMaps$Streets") ∈ lw_tbl := List.mem_of_getElem? (i := 214) (by decide +kernel)
theorem mj_arrK {s : State} {args : Array Value} {ty : FieldType} (h : (Cond.arrayClass ty).before args s = true) (hty : ∀ C, ty ≠ .object C) : ∃ cA : ClassId, ArrOfT s cA ty ∧ va_RA s cA ty := by
  obtain ⟨cA, kA, comp, h1, h2, h3⟩ := Cond.arrayClass_spec h
  refine ⟨cA, fun n z => ⟨fun k h => (by cases h), kA, h2, comp, h3⟩, ?_⟩
  cases ty with
  | object C => exact absurd rfl (hty C)
  | _ => exact h1
set_option maxHeartbeats 4000000 in
set_option maxRecDepth 100000 in
/-- the law's contract out of a run of the small machine -/
theorem mj_start {p : Program} {e : Env} {s : State} {m : MethodId} {below : List Frame} {meth : Method} {c : Code} (l : Launch) {b L : Nat} {xs : Nat → Int32} (C0 : lw_At p s m meth c b L xs)
    (hrun : ∃ f0 f h', mj_exL ((List.range L).map xs) (mj_ex f0) f (mj_law, 0, [(0, .retAddr 0)], [], []) = some (some (.int 1), h') ∧ h'.length ≤ 600000 ∧ mj_sl h' ≤ 7302249) :
    W p l e room_1 s m #[Value.ref b] below meth c s.heap [] 0 0 (lw_Z below #[Value.ref b] s) (entryFrame m ([Value.ref b] : List Value).toArray 4) := by
  obtain ⟨f0, f, h', hf, hz1, hz2⟩ := hrun
  obtain ⟨hx, hb, hr, hml, hown, hts0, hX, hbl, hlocks, hgv⟩ := C0
  have hts : ∀ w ∈ mj_tbl, w.before #[Value.ref b] s = true := fun w hw => hts0 w (List.mem_filter.mp hw).1
  obtain ⟨c0, iS0, hKn0⟩ := u_known (C := RX0) (T := TX0) (N := 8) (n := 8) hts (mj_cls 0 _ rfl).uws (hts _ (mj_cls 0 _ rfl).inst)
  obtain ⟨c1, iS1, hKn1⟩ := u_known (C := RX1) (T := TX1) (N := 3) (n := 3) hts (mj_cls 1 _ rfl).uws (hts _ (mj_cls 1 _ rfl).inst)
  obtain ⟨c2, iS2, hKn2⟩ := u_known (C := RX2) (T := TX2) (N := 3) (n := 3) hts (mj_cls 2 _ rfl).uws (hts _ (mj_cls 2 _ rfl).inst)
  obtain ⟨c3, iS3, hKn3⟩ := u_known (C := RX3) (T := TX3) (N := 3) (n := 3) hts (mj_cls 3 _ rfl).uws (hts _ (mj_cls 3 _ rfl).inst)
  obtain ⟨c4, iS4, hKn4⟩ := u_known (C := RX4) (T := TX4) (N := 9) (n := 9) hts (mj_cls 4 _ rfl).uws (hts _ (mj_cls 4 _ rfl).inst)
  obtain ⟨c5, iS5, hKn5⟩ := u_known (C := RX5) (T := TX5) (N := 3) (n := 3) hts (mj_cls 5 _ rfl).uws (hts _ (mj_cls 5 _ rfl).inst)
  obtain ⟨c6, iS6, hKn6⟩ := u_known (C := RX6) (T := TX6) (N := 4) (n := 4) hts (mj_cls 6 _ rfl).uws (hts _ (mj_cls 6 _ rfl).inst)
  obtain ⟨c7, iS7, hKn7⟩ := u_known (C := RX8) (T := TX8) (N := 7) (n := 7) hts (mj_cls 7 _ rfl).uws (hts _ (mj_cls 7 _ rfl).inst)
  obtain ⟨c8, iS8, hKn8⟩ := u_known (C := RX9) (T := TX9) (N := 6) (n := 6) hts (mj_cls 8 _ rfl).uws (hts _ (mj_cls 8 _ rfl).inst)
  obtain ⟨c9, iS9, hKn9⟩ := u_known (C := RX10) (T := TX10) (N := 10) (n := 10) hts (mj_cls 9 _ rfl).uws (hts _ (mj_cls 9 _ rfl).inst)
  obtain ⟨c10, iS10, hKn10⟩ := u_known (C := RX11) (T := TX11) (N := 38) (n := 38) hts (mj_cls 10 _ rfl).uws (hts _ (mj_cls 10 _ rfl).inst)
  obtain ⟨dC, dI, hKc⟩ : ∃ (dC : Nat → ClassId) (dI : Nat → Nat → Nat), ∀ (k : Nat) (q : vw_C), vwCl[k]? = some q → u_Kn s q.1 q.2.1 q.2.2 (dC k) (dI k) := by
    refine ⟨fun k => if k = 0 then c0 else (if k = 1 then c1 else (if k = 2 then c2 else (if k = 3 then c3 else (if k = 4 then c4 else (if k = 5 then c5 else (if k = 6 then c6 else (if k = 7 then c7 else (if k = 8 then c8 else (if k = 9 then c9 else (c10)))))))))), fun k => if k = 0 then iS0 else (if k = 1 then iS1 else (if k = 2 then iS2 else (if k = 3 then iS3 else (if k = 4 then iS4 else (if k = 5 then iS5 else (if k = 6 then iS6 else (if k = 7 then iS7 else (if k = 8 then iS8 else (if k = 9 then iS9 else (iS10)))))))))), ?_⟩
    intro k q hq
    match k, hq with
    | 0, hq => cases hq; exact hKn0
    | 1, hq => cases hq; exact hKn1
    | 2, hq => cases hq; exact hKn2
    | 3, hq => cases hq; exact hKn3
    | 4, hq => cases hq; exact hKn4
    | 5, hq => cases hq; exact hKn5
    | 6, hq => cases hq; exact hKn6
    | 7, hq => cases hq; exact hKn7
    | 8, hq => cases hq; exact hKn8
    | 9, hq => cases hq; exact hKn9
    | 10, hq => cases hq; exact hKn10
    | k + 11, hq => simp [vwCl] at hq
  obtain ⟨a0, ha0⟩ := mj_arrK (hts _ (mj_arrw (t := 100) (by decide) (by decide))) (fun C h => by cases h)
  obtain ⟨a1, ha1⟩ := mj_arrK (hts _ (mj_arrw (t := 101) (by decide) (by decide))) (fun C h => by cases h)
  obtain ⟨a2, ha2⟩ := mj_arrK (hts _ (mj_arrw (t := 102) (by decide) (by decide))) (fun C h => by cases h)
  have hAO : va_AO "SootMaps$Streets" s := va_AO.of (hts0 _ mj_w_over)
  obtain ⟨a3, ha3⟩ : ∃ cA : ClassId, ArrOfT s cA (.object "SootMaps$Streets") ∧ va_RA s cA (.object "SootMaps$Streets") := by
    obtain ⟨comp, cA, kA, f1, -, f2, f3, f4⟩ := Cond.arrayOver_spec hAO
    exact ⟨cA, fun N z => ⟨(fun k h => by cases h), kA, f2, comp, f3⟩, kA, comp, f2, f3, f1, f4⟩
  obtain ⟨cA, hcA⟩ : ∃ cA : Nat → ClassId, cA 100 = a0 ∧ cA 101 = a1 ∧ cA 102 = a2 ∧ cA 103 = a3 := ⟨fun k => if k = 100 then a0 else if k = 101 then a1 else if k = 102 then a2 else a3, rfl, rfl, rfl, rfl⟩
  obtain ⟨rfl, rfl, rfl, rfl⟩ := hcA
  have hK : mj_K (dC, dI) cA s := by
    refine ⟨⟨hKc, fun k q h => ?_⟩, ?_, hAO⟩
    · match k, h with
      | 0, h => cases h; exact ha0
      | 1, h => cases h; exact ha1
      | 2, h => cases h; exact ha2
      | 3, h => cases h; exact ha3
      | k + 4, h => simp at h
    · intro o pool C h1 h2 e he hk
      have h3 := hts0 _ (mj_inP o pool C h1 h2 e he)
      obtain ⟨ix, kd, a, b⟩ := e
      rcases hk with hk | hk
      · dsimp only at hk
        subst hk
        exact va_Nw.of rfl h3
      · dsimp only at hk
        subst hk
        exact va_Nw.of rfl h3
  have hX' : mj_X b (some ((List.range L).map xs)) s := by
    obtain ⟨scr, g1, g2, g3, g4, g5⟩ := hX
    refine ⟨scr, g1, g2, g3, by rw [g4, List.length_map, List.length_range], fun j hj => ?_⟩
    rw [List.length_map, List.length_range] at hj
    rw [g5 j hj]
    simp [hj]
  have hR : mj_R (dC, dI) cA b s.heap.size [] s.heap := ⟨rfl, fun a t xs h => by simp at h⟩
  have hl := lv_entry ([.ref b]) (n := 4) (Nat.le_of_ble_eq_true rfl)
  rw [lg_entry_eq]
  generalize (lg_sl ([.ref b]) ++ List.replicate (4 - (lg_sl ([.ref b])).length) Slot.unset).toArray = ls at hl ⊢
  have hl : lv_has ls 4 (mj_cl b s.heap.size [(0, .retAddr 0)]) := hl
  have key := (mj_soundL (l := l) (D := (dC, dI)) (cA := cA) (b := b) (B := s.heap.size) (sc := (List.range L).map xs) f0 f mj_law 0 _ [] [] _ h' hf).2 p e room_1 s m #[Value.ref b] below meth c s.heap [] 0 0 ls (lw_Z below #[Value.ref b] s) hx hb hml hown rfl (fun h => absurd h (by decide)) hts hK hX' hbl (fun _ _ => rfl) (fun q hq => absurd hq List.not_mem_nil) hR hl (by decide) (by decide) (Nat.le_refl _) (Nat.le_refl _) (by show _ ≤ 0 + 600000; omega) (by show _ ≤ 0 + 7302249; omega) ?_
  · exact key
  · intro H' locs' pc' ls' o1 o2 o3 o4
    rcases o4 with ⟨q1, -⟩ | ⟨v, ty, q1, q2, q3, q4⟩
    · cases q1
    · refine va_forget o2 ?_
      refine W.widen (k := 600000) (n := 7302249) (by omega) (by omega) ?_
      exact lw_ret hx hb hr hlocks q4
end
section
/-! More steps change no answer; runs, with no count of steps -/
section MJ8
variable {sc : Option (List Int32)} {kc kc' k k' : mj_S → mj_O}
theorem mj_call_mono (h1 : ∀ S x, kc S = some x → kc' S = some x) (h2 : ∀ S x, k S = some x → k' S = some x) {M M' : mj_M} {pc n : Nat} {lv : mj_L} {st : List Value} {h : mj_H} {x : Option Value × mj_H} (hs : mj_call kc k M pc lv st h M' n = some x) : mj_call kc' k' M pc lv st h M' n = some x := by
  unfold mj_call at hs ⊢
  split at hs
  · rename_i hh
    rw [if_pos hh]
    split at hs
    · rename_i r1 hh1 e1
      rw [h1 _ _ e1]
      exact h2 _ _ hs
    · cases hs
  · cases hs
set_option maxHeartbeats 4000000 in
theorem mj_step_mono (h1 : ∀ S x, kc S = some x → kc' S = some x) (h2 : ∀ S x, k S = some x → k' S = some x) (S : mj_S) (x : Option Value × mj_H) (hs : mj_step sc kc k S = some x) : mj_step sc kc' k' S = some x := by
  obtain ⟨M, pc, lv, st, h⟩ := S
  unfold mj_step at hs ⊢
  dsimp only at hs ⊢
  cases hd : decode M.2.1 pc with
  | error e => rw [hd] at hs; cases hs
  | ok q =>
    obtain ⟨ins, len⟩ := q
    rw [hd] at hs
    dsimp only at hs ⊢
    revert hs
    cases ins <;> dsimp only
    all_goals repeat' first
      | exact fun h => h2 _ _ h
      | exact fun h => h
      | exact mj_call_mono h1 h2
      | split
      | (intro h; cases h; done)
theorem mj_ex_mono (f n : Nat) (S : mj_S) (x : Option Value × mj_H) (h : mj_ex f S = some x) : mj_ex (f + n) S = some x := by
  induction f generalizing S x with
  | zero => cases h
  | succ f ih =>
    rw [Nat.add_right_comm, mj_ex_s]
    rw [mj_ex_s] at h
    exact mj_step_mono ih ih S x h
theorem mj_exL_mono (sc : List Int32) (h1 : ∀ S x, kc S = some x → kc' S = some x) (f n : Nat) (S : mj_S) (x : Option Value × mj_H) (h : mj_exL sc kc f S = some x) : mj_exL sc kc' (f + n) S = some x := by
  induction f generalizing S x with
  | zero => cases h
  | succ f ih =>
    rw [Nat.add_right_comm, mj_exL_s]
    rw [mj_exL_s] at h
    exact mj_step_mono h1 ih S x h
end MJ8
/-- a method's run comes to an end, with an answer and cells -/
def mj_runs (S : mj_S) (r : Option Value) (h' : mj_H) : Prop := ∃ f, mj_ex f S = some (r, h')
/-- the law's run comes to an end, with an answer and cells -/
def mj_runsL (sc : List Int32) (S : mj_S) (r : Option Value) (h' : mj_H) : Prop := ∃ f0 f, mj_exL sc (mj_ex f0) f S = some (r, h')
/-- a step without a call, of any machine -/
def mj_one (sc : Option (List Int32)) (S S' : mj_S) : Prop := ∀ kc k : mj_S → mj_O, mj_step sc kc k S = k S'
theorem mj_runs.step {S S' : mj_S} {r : Option Value} {h' : mj_H} (h : mj_one none S S') (k : mj_runs S' r h') : mj_runs S r h' := by
  obtain ⟨f, e⟩ := k
  exact ⟨f + 1, by rw [mj_ex_s, h]; exact e⟩
theorem mj_runsL.step {sc : List Int32} {S S' : mj_S} {r : Option Value} {h' : mj_H} (h : mj_one (some sc) S S') (k : mj_runsL sc S' r h') : mj_runsL sc S r h' := by
  obtain ⟨f0, f, e⟩ := k
  exact ⟨f0, f + 1, by rw [mj_exL_s, h]; exact e⟩
/-- a step that ends the method -/
theorem mj_runs.ret {S : mj_S} {r : Option Value} {h' : mj_H} (h : ∀ kc k : mj_S → mj_O, mj_step none kc k S = some (r, h')) : mj_runs S r h' := ⟨1, h _ _⟩
theorem mj_runsL.ret {sc : List Int32} {S : mj_S} {r : Option Value} {h' : mj_H} (h : ∀ kc k : mj_S → mj_O, mj_step (some sc) kc k S = some (r, h')) : mj_runsL sc S r h' := ⟨0, 1, h _ _⟩
/-- a step that calls: what is called, what goes on behind it -/
def mj_calls (sc : Option (List Int32)) (S S1 : mj_S) (S2 : Option Value → mj_H → mj_S) : Prop := ∀ kc k : mj_S → mj_O, ∀ r1 h1, kc S1 = some (r1, h1) → mj_step sc kc k S = k (S2 r1 h1)
theorem mj_runs.call {S S1 : mj_S} {S2 : Option Value → mj_H → mj_S} {r r1 : Option Value} {h1 h' : mj_H} (h : mj_calls none S S1 S2) (k1 : mj_runs S1 r1 h1) (k2 : mj_runs (S2 r1 h1) r h') : mj_runs S r h' := by
  obtain ⟨f1, e1⟩ := k1
  obtain ⟨f2, e2⟩ := k2
  refine ⟨f1 + f2 + 1, ?_⟩
  rw [mj_ex_s, h _ _ r1 h1 (mj_ex_mono f1 f2 _ _ e1), Nat.add_comm]
  exact mj_ex_mono f2 f1 _ _ e2
theorem mj_runsL.call {sc : List Int32} {S S1 : mj_S} {S2 : Option Value → mj_H → mj_S} {r r1 : Option Value} {h1 h' : mj_H} (h : mj_calls (some sc) S S1 S2) (k1 : mj_runs S1 r1 h1) (k2 : mj_runsL sc (S2 r1 h1) r h') : mj_runsL sc S r h' := by
  obtain ⟨f1, e1⟩ := k1
  obtain ⟨f0, f2, e2⟩ := k2
  refine ⟨f1 + f0, f2 + 1, ?_⟩
  rw [mj_exL_s, h _ _ r1 h1 (mj_ex_mono f1 f0 _ _ e1)]
  have := mj_exL_mono sc (kc := mj_ex f0) (kc' := mj_ex (f1 + f0)) (fun S x e => by rw [Nat.add_comm]; exact mj_ex_mono f0 f1 S x e) f2 0 _ _ e2
  exact this
end
section
/-! Rows of the small machine itself -/
def mj_do (sc : Option (List Int32)) (kc k : mj_S → mj_O) (ins : Instr) (len : Nat) (M : mj_M) (pc : Nat) (lv : mj_L) (st : List Value) (h : mj_H) : mj_O := match ins with
  | .bipush n => if len = 2 then k (M, pc + 2, lv, .int (Int8.ofInt n).toInt32 :: st, h) else none
  | .sipush n => if len = 3 then k (M, pc + 3, lv, .int (Int16.ofInt n).toInt32 :: st, h) else none
  | .ldc idx => if len = 2 then match mj_ldc M idx st with
    | some st' => k (M, pc + 2, lv, st', h)
    | none => none
    else none
  | .ldc_w idx => if len = 3 then match mj_ldc M idx st with
    | some st' => k (M, pc + 3, lv, st', h)
    | none => none
    else none
  | .ldc2_w idx => if len = 3 then match mj_ldc2 M idx st with
    | some st' => k (M, pc + 3, lv, st', h)
    | none => none
    else none
  | .getfield idx => if len = 3 then match mj_gf M idx st h with
    | some st' => k (M, pc + 3, lv, st', h)
    | none => none
    else none
  | .putfield idx => if len = 3 then match mj_pf M idx st h with
    | some (st', h') => k (M, pc + 3, lv, st', h')
    | none => none
    else none
  | .new idx => if len = 3 then match mj_new M idx st h with
    | some (st', h') => k (M, pc + 3, lv, st', h')
    | none => none
    else none
  | .newarray a => if len = 2 then match mj_newa a st h with
    | some (st', h') => k (M, pc + 2, lv, st', h')
    | none => none
    else none
  | .anewarray idx => if len = 3 then match mj_anew M idx st h with
    | some (st', h') => k (M, pc + 3, lv, st', h')
    | none => none
    else none
  | .iaload => if len = 1 then match mj_ald 100 sc st h with
    | some st' => k (M, pc + 1, lv, st', h)
    | none => none
    else none
  | .caload => if len = 1 then match mj_ald 101 sc st h with
    | some st' => k (M, pc + 1, lv, st', h)
    | none => none
    else none
  | .baload => if len = 1 then match mj_ald 102 sc st h with
    | some st' => k (M, pc + 1, lv, st', h)
    | none => none
    else none
  | .aaload => if len = 1 then match mj_ald 103 sc st h with
    | some st' => k (M, pc + 1, lv, st', h)
    | none => none
    else none
  | .iastore => if len = 1 then match mj_ast 100 st h with
    | some (st', h') => k (M, pc + 1, lv, st', h')
    | none => none
    else none
  | .castore => if len = 1 then match mj_ast 101 st h with
    | some (st', h') => k (M, pc + 1, lv, st', h')
    | none => none
    else none
  | .bastore => if len = 1 then match mj_ast 102 st h with
    | some (st', h') => k (M, pc + 1, lv, st', h')
    | none => none
    else none
  | .aastore => if len = 1 then match mj_aast st h with
    | some (st', h') => k (M, pc + 1, lv, st', h')
    | none => none
    else none
  | .arraylength => if len = 1 then match mj_alen sc st h with
    | some st' => k (M, pc + 1, lv, st', h)
    | none => none
    else none
  | .ireturn => if len = 1 then match st, M.2.2.2.1 with
    | [.int v], some ty => if narrow ty (.int v) = .int v then some (some (.int v), h) else none
    | _, _ => none
    else none
  | .return_ => if len = 1 then match st, M.2.2.2.1 with
    | [], none => some (none, h)
    | _, _ => none
    else none
  | .invokestatic idx => if len = 3 then match mj_ent M idx with
    | some (_, kd, j, _) => if kd = 7 then match mj_acopy M st h with
        | some (st', h') => k (M, pc + 3, lv, st', h')
        | none => none
      else if kd = 9 ∨ kd = 10 then match mj_mm M kd st with
        | some st' => k (M, pc + 3, lv, st', h)
        | none => none
      else match mj_meths[j]? with
        | some M' => if kd = 2 ∧ M'.2.2.2.2.2.2.1 = 0 then mj_call kc k M pc lv st h M' M'.2.2.2.2.2.1 else none
        | none => none
    | none => none
    else none
  | .invokevirtual idx => if len = 3 then match mj_ent M idx with
    | some (_, kd, j, _) => match mj_meths[j]? with
        | some M' => match st[M'.2.2.2.2.2.1]? with
          | some (.ref a) => match h[a]? with
            | some (t, _) => if kd = 2 ∧ M'.2.2.2.2.2.2.1 = 1 ∧ t = M'.2.2.2.2.1 ∧ t < 11 then mj_call kc k M pc lv st h M' (M'.2.2.2.2.2.1 + 1) else none
            | none => none
          | _ => none
        | none => none
    | none => none
    else none
  | .invokespecial idx => if len = 3 then match mj_ent M idx with
    | some (_, kd, j, _) => if kd = 8 then match st with
        | .ref a :: r => if 1 ≤ M.2.2.2.2.2.2.2.1 ∧ (r.map fun v => v.category).sum + 12 ≤ M.2.2.2.2.2.2.2.2 then k (M, pc + 3, lv, r, h) else none
        | _ => none
      else match mj_meths[j]? with
        | some M' => match st[M'.2.2.2.2.2.1]? with
          | some (.ref a) => if (kd = 2 ∨ kd = 3) ∧ M'.2.2.2.2.2.2.1 = 2 then mj_call kc k M pc lv st h M' (M'.2.2.2.2.2.1 + 1) else none
          | _ => none
        | none => none
    | none => none
    else none
  | ins => match mj_br ins len pc st with
    | some (pc', st') => k (M, pc', lv, st', h)
    | none => match mj_loc ins len M.2.2.1 lv st with
      | some (lv', st') => k (M, pc + len, lv', st', h)
      | none => if len = 1 then match mj_alu ins st with
        | some st' => k (M, pc + 1, lv, st', h)
        | none => none
        else none
section MJ9
variable {sc : Option (List Int32)} {M M' : mj_M} {pc : Nat} {lv : mj_L} {st rest vs : List Value} {h : mj_H} {ins : Instr} {len : Nat} {S' : mj_S}
theorem mj_step_do (hd : decode M.2.1 pc = .ok (ins, len)) (kc k : mj_S → mj_O) : mj_step sc kc k (M, pc, lv, st, h) = mj_do sc kc k ins len M pc lv st h := by
  unfold mj_step
  dsimp only
  rw [hd]
  cases ins <;> rfl
theorem mj_one_of (hd : decode M.2.1 pc = .ok (ins, len)) (he : ∀ kc k : mj_S → mj_O, mj_do sc kc k ins len M pc lv st h = k S') : mj_one sc (M, pc, lv, st, h) S' := fun kc k => (mj_step_do hd kc k).trans (he kc k)
theorem mj_ret_of {r : Option Value} {h' : mj_H} (hd : decode M.2.1 pc = .ok (ins, len)) (he : ∀ kc k : mj_S → mj_O, mj_do sc kc k ins len M pc lv st h = some (r, h')) : ∀ kc k : mj_S → mj_O, mj_step sc kc k (M, pc, lv, st, h) = some (r, h') := fun kc k => (mj_step_do hd kc k).trans (he kc k)
theorem mj_one_br {pc' : Nat} {st' : List Value} (hd : decode M.2.1 pc = .ok (ins, len)) (hb : mj_br ins len pc st = some (pc', st')) (hdo : ∀ kc k : mj_S → mj_O, mj_do sc kc k ins len M pc lv st h = (match mj_br ins len pc st with
        | some (pc', st') => k (M, pc', lv, st', h)
        | none => match mj_loc ins len M.2.2.1 lv st with
          | some (lv', st') => k (M, pc + len, lv', st', h)
          | none => if len = 1 then match mj_alu ins st with
            | some st' => k (M, pc + 1, lv, st', h)
            | none => none
            else none)) : mj_one sc (M, pc, lv, st, h) (M, pc', lv, st', h) := by
  refine mj_one_of hd fun kc k => ?_
  rw [hdo, hb]
theorem mj_one_ifT {c : ClassFile.Cond} {off : Int} {x : Int32} {t : Nat} (hd : decode M.2.1 pc = .ok (.ifCond c off, 3)) (ht : mj_to pc off = some t) (hc : mj_cmp c x 0 = true) : mj_one sc (M, pc, lv, .int x :: st, h) (M, t, lv, st, h) :=
  mj_one_br hd (by simp only [mj_br, ht, hc]; rfl) (fun _ _ => rfl)
theorem mj_one_ifF {c : ClassFile.Cond} {off : Int} {x : Int32} {t : Nat} (hd : decode M.2.1 pc = .ok (.ifCond c off, 3)) (ht : mj_to pc off = some t) (hc : mj_cmp c x 0 = false) : mj_one sc (M, pc, lv, .int x :: st, h) (M, pc + 3, lv, st, h) :=
  mj_one_br hd (by simp only [mj_br, ht, hc]; rfl) (fun _ _ => rfl)
theorem mj_one_icmpT {c : ClassFile.Cond} {off : Int} {x y : Int32} {t : Nat} (hd : decode M.2.1 pc = .ok (.if_icmp c off, 3)) (ht : mj_to pc off = some t) (hc : mj_cmp c x y = true) : mj_one sc (M, pc, lv, .int y :: .int x :: st, h) (M, t, lv, st, h) :=
  mj_one_br hd (by simp only [mj_br, ht, hc]; rfl) (fun _ _ => rfl)
theorem mj_one_icmpF {c : ClassFile.Cond} {off : Int} {x y : Int32} {t : Nat} (hd : decode M.2.1 pc = .ok (.if_icmp c off, 3)) (ht : mj_to pc off = some t) (hc : mj_cmp c x y = false) : mj_one sc (M, pc, lv, .int y :: .int x :: st, h) (M, pc + 3, lv, st, h) :=
  mj_one_br hd (by simp only [mj_br, ht, hc]; rfl) (fun _ _ => rfl)
theorem mj_one_tblOut {d lo hi : Int} {offs : Array Int} {x : Int32} {t : Nat} (hd : decode M.2.1 pc = .ok (.tableswitch d lo hi offs, len)) (ht : mj_to pc d = some t) (hc : x.toInt < lo ∨ hi < x.toInt) : mj_one sc (M, pc, lv, .int x :: st, h) (M, t, lv, st, h) :=
  mj_one_br hd (by simp only [mj_br, ht]; rw [if_pos hc]; rfl) (fun _ _ => rfl)
theorem mj_one_look {d off : Int} {ps : Array (Int × Int)} {x : Int32} {t : Nat} (hd : decode M.2.1 pc = .ok (.lookupswitch d ps, len)) (hp : (ps.toList.zip (ps.toList.drop 1)).all (fun (a, next) => a.1 < next.1) = true) (ho : Op.lookupswitch.offset ps.toList d x.toInt = off) (ht : mj_to pc off = some t) : mj_one sc (M, pc, lv, .int x :: st, h) (M, t, lv, st, h) :=
  mj_one_br hd (by simp only [mj_br, ho, ht]; rw [if_pos hp]; rfl) (fun _ _ => rfl)
/-- the room and the shape of a call -/
abbrev mj_fit (M M' : mj_M) (st : List Value) (n : Nat) : Prop := n ≤ st.length ∧ ((st.drop n).map fun v => v.category).sum ≤ 8 ∧ M'.2.2.2.2.2.2.2.1 + 1 ≤ M.2.2.2.2.2.2.2.1 ∧ 8 + (M'.2.2.1 + 11) + M'.2.2.2.2.2.2.2.2 ≤ M.2.2.2.2.2.2.2.2 ∧ (lg_sl (st.take n).reverse).length ≤ M'.2.2.1
theorem mj_call_eq {kc k : mj_S → mj_O} {n : Nat} {r1 : Option Value} {h1 : mj_H} (hf : mj_fit M M' st n) (hv : (st.take n).reverse = vs) (hr : st.drop n = rest) (e : kc (M', 0, lv_args 0 vs, [], h) = some (r1, h1)) : mj_call kc k M pc lv st h M' n = k (M, pc + 3, lv, r1.toList ++ rest, h1) := by
  unfold mj_call
  rw [if_pos hf, hv, e]
  dsimp only
  rw [hr]
theorem mj_calls_s {idx ix j z : Nat} (hd : decode M.2.1 pc = .ok (.invokestatic idx, 3)) (he : mj_ent M idx = some (ix, 2, j, z)) (hj : mj_meths[j]? = some M') (hk : M'.2.2.2.2.2.2.1 = 0) (hv : ((st.take M'.2.2.2.2.2.1).reverse, st.drop M'.2.2.2.2.2.1) = (vs, rest)) (hf : mj_fit M M' st M'.2.2.2.2.2.1) :
    mj_calls sc (M, pc, lv, st, h) (M', 0, lv_args 0 vs, [], h) (fun r1 h1 => (M, pc + 3, lv, r1.toList ++ rest, h1)) := by
  intro kc k r1 h1 e
  rw [mj_step_do hd]
  unfold mj_do
  dsimp only
  rw [if_pos rfl, he]
  dsimp only
  rw [if_neg (by decide), if_neg (by decide), hj]
  dsimp only
  rw [if_pos ⟨rfl, hk⟩]
  exact mj_call_eq hf (congrArg Prod.fst hv) (congrArg Prod.snd hv) e
theorem mj_calls_v {idx ix j z a t : Nat} {xs : List Value} (hd : decode M.2.1 pc = .ok (.invokevirtual idx, 3)) (he : mj_ent M idx = some (ix, 2, j, z)) (hj : mj_meths[j]? = some M') (hs : st[M'.2.2.2.2.2.1]? = some (.ref a)) (hc : h[a]? = some (t, xs)) (hk : (M'.2.2.2.2.2.2.1, M'.2.2.2.2.1) = (1, t)) (hv : ((st.take (M'.2.2.2.2.2.1 + 1)).reverse, st.drop (M'.2.2.2.2.2.1 + 1)) = (vs, rest)) (hf : t < 11 ∧ mj_fit M M' st (M'.2.2.2.2.2.1 + 1)) :
    mj_calls sc (M, pc, lv, st, h) (M', 0, lv_args 0 vs, [], h) (fun r1 h1 => (M, pc + 3, lv, r1.toList ++ rest, h1)) := by
  intro kc k r1 h1 e
  rw [mj_step_do hd]
  unfold mj_do
  dsimp only
  rw [if_pos rfl, he]
  dsimp only
  rw [hj]
  dsimp only
  rw [hs]
  dsimp only
  rw [hc]
  dsimp only
  rw [if_pos ⟨rfl, congrArg Prod.fst hk, (congrArg Prod.snd hk).symm, hf.1⟩]
  exact mj_call_eq hf.2 (congrArg Prod.fst hv) (congrArg Prod.snd hv) e
theorem mj_calls_i {idx ix kd j z a : Nat} (hd : decode M.2.1 pc = .ok (.invokespecial idx, 3)) (he : mj_ent M idx = some (ix, kd, j, z)) (hj : mj_meths[j]? = some M') (hs : st[M'.2.2.2.2.2.1]? = some (.ref a)) (hk : (kd = 2 ∨ kd = 3) ∧ M'.2.2.2.2.2.2.1 = 2) (hv : ((st.take (M'.2.2.2.2.2.1 + 1)).reverse, st.drop (M'.2.2.2.2.2.1 + 1)) = (vs, rest)) (hf : mj_fit M M' st (M'.2.2.2.2.2.1 + 1)) :
    mj_calls sc (M, pc, lv, st, h) (M', 0, lv_args 0 vs, [], h) (fun r1 h1 => (M, pc + 3, lv, r1.toList ++ rest, h1)) := by
  intro kc k r1 h1 e
  rw [mj_step_do hd]
  unfold mj_do
  dsimp only
  rw [if_pos rfl, he]
  dsimp only
  rw [if_neg (by rcases hk.1 with q | q <;> omega), hj]
  dsimp only
  rw [hs]
  dsimp only
  rw [if_pos hk]
  exact mj_call_eq hf (congrArg Prod.fst hv) (congrArg Prod.snd hv) e
end MJ9
theorem mj_l32 (x : Int32) : x.toInt64.toInt = x.toInt := Int32.toInt_toInt64 x
section MJ10
variable {x y : Int32} {i j : Int}
theorem mj_cT_eq (hx : x.toInt = i) (hy : y.toInt = j) (h : i = j) : mj_cmp .eq x y = true := decide_eq_true (Int32.toInt_inj.mp (by omega))
theorem mj_cF_eq (hx : x.toInt = i) (hy : y.toInt = j) (h : ¬ i = j) : mj_cmp .eq x y = false := decide_eq_false (fun q => h (by rw [← hx, ← hy, q]))
theorem mj_cT_ne (hx : x.toInt = i) (hy : y.toInt = j) (h : ¬ i = j) : mj_cmp .ne x y = true := decide_eq_true (fun q => h (by rw [← hx, ← hy, q]))
theorem mj_cF_ne (hx : x.toInt = i) (hy : y.toInt = j) (h : i = j) : mj_cmp .ne x y = false := decide_eq_false (fun q => q (Int32.toInt_inj.mp (by omega)))
theorem mj_cT_lt (hx : x.toInt = i) (hy : y.toInt = j) (h : i < j) : mj_cmp .lt x y = true := decide_eq_true (Int32.lt_iff_toInt_lt.mpr (by omega))
theorem mj_cF_lt (hx : x.toInt = i) (hy : y.toInt = j) (h : ¬ i < j) : mj_cmp .lt x y = false := decide_eq_false (fun q => h (by have := Int32.lt_iff_toInt_lt.mp q; omega))
theorem mj_cT_ge (hx : x.toInt = i) (hy : y.toInt = j) (h : j ≤ i) : mj_cmp .ge x y = true := decide_eq_true (Int32.le_iff_toInt_le.mpr (by omega))
theorem mj_cF_ge (hx : x.toInt = i) (hy : y.toInt = j) (h : ¬ j ≤ i) : mj_cmp .ge x y = false := decide_eq_false (fun q => h (by have := Int32.le_iff_toInt_le.mp q; omega))
theorem mj_cT_gt (hx : x.toInt = i) (hy : y.toInt = j) (h : j < i) : mj_cmp .gt x y = true := decide_eq_true (Int32.lt_iff_toInt_lt.mpr (by omega))
theorem mj_cF_gt (hx : x.toInt = i) (hy : y.toInt = j) (h : ¬ j < i) : mj_cmp .gt x y = false := decide_eq_false (fun q => h (by have := Int32.lt_iff_toInt_lt.mp q; omega))
theorem mj_cT_le (hx : x.toInt = i) (hy : y.toInt = j) (h : i ≤ j) : mj_cmp .le x y = true := decide_eq_true (Int32.le_iff_toInt_le.mpr (by omega))
theorem mj_cF_le (hx : x.toInt = i) (hy : y.toInt = j) (h : ¬ i ≤ j) : mj_cmp .le x y = false := decide_eq_false (fun q => h (by have := Int32.le_iff_toInt_le.mp q; omega))
end MJ10
section MJ11
variable {x y : Int64} {i j : Int}
theorem mj_lg_int (hx : x.toInt = i) (hy : y.toInt = j) : (lg_cmp x y).toInt = if j < i then 1 else if i = j then 0 else -1 := by
  unfold lg_cmp
  have e1 : x > y ↔ j < i := by
    rw [← hx, ← hy]
    exact Int64.lt_iff_toInt_lt
  have e2 : x = y ↔ i = j := by
    rw [← hx, ← hy]
    exact Int64.toInt_inj.symm
  by_cases h1 : j < i
  · rw [if_pos (e1.mpr h1), if_pos h1]; decide
  · rw [if_neg (fun q => h1 (e1.mp q)), if_neg h1]
    by_cases h2 : i = j
    · rw [if_pos (e2.mpr h2), if_pos h2]; decide
    · rw [if_neg (fun q => h2 (e2.mp q)), if_neg h2]; decide
theorem mj_lgT_eq (hx : x.toInt = i) (hy : y.toInt = j) (h : i = j) : mj_cmp .eq (lg_cmp x y) 0 = true := mj_cT_eq (mj_lg_int hx hy) (show (0 : Int32).toInt = 0 by decide) (by repeat' first | omega | split)
theorem mj_lgF_eq (hx : x.toInt = i) (hy : y.toInt = j) (h : ¬ i = j) : mj_cmp .eq (lg_cmp x y) 0 = false := mj_cF_eq (mj_lg_int hx hy) (show (0 : Int32).toInt = 0 by decide) (by repeat' first | omega | split)
theorem mj_lgT_ne (hx : x.toInt = i) (hy : y.toInt = j) (h : ¬ i = j) : mj_cmp .ne (lg_cmp x y) 0 = true := mj_cT_ne (mj_lg_int hx hy) (show (0 : Int32).toInt = 0 by decide) (by repeat' first | omega | split)
theorem mj_lgF_ne (hx : x.toInt = i) (hy : y.toInt = j) (h : i = j) : mj_cmp .ne (lg_cmp x y) 0 = false := mj_cF_ne (mj_lg_int hx hy) (show (0 : Int32).toInt = 0 by decide) (by repeat' first | omega | split)
theorem mj_lgT_lt (hx : x.toInt = i) (hy : y.toInt = j) (h : i < j) : mj_cmp .lt (lg_cmp x y) 0 = true := mj_cT_lt (mj_lg_int hx hy) (show (0 : Int32).toInt = 0 by decide) (by repeat' first | omega | split)
theorem mj_lgF_lt (hx : x.toInt = i) (hy : y.toInt = j) (h : ¬ i < j) : mj_cmp .lt (lg_cmp x y) 0 = false := mj_cF_lt (mj_lg_int hx hy) (show (0 : Int32).toInt = 0 by decide) (by repeat' first | omega | split)
theorem mj_lgT_ge (hx : x.toInt = i) (hy : y.toInt = j) (h : j ≤ i) : mj_cmp .ge (lg_cmp x y) 0 = true := mj_cT_ge (mj_lg_int hx hy) (show (0 : Int32).toInt = 0 by decide) (by repeat' first | omega | split)
theorem mj_lgF_ge (hx : x.toInt = i) (hy : y.toInt = j) (h : ¬ j ≤ i) : mj_cmp .ge (lg_cmp x y) 0 = false := mj_cF_ge (mj_lg_int hx hy) (show (0 : Int32).toInt = 0 by decide) (by repeat' first | omega | split)
theorem mj_lgT_gt (hx : x.toInt = i) (hy : y.toInt = j) (h : j < i) : mj_cmp .gt (lg_cmp x y) 0 = true := mj_cT_gt (mj_lg_int hx hy) (show (0 : Int32).toInt = 0 by decide) (by repeat' first | omega | split)
theorem mj_lgF_gt (hx : x.toInt = i) (hy : y.toInt = j) (h : ¬ j < i) : mj_cmp .gt (lg_cmp x y) 0 = false := mj_cF_gt (mj_lg_int hx hy) (show (0 : Int32).toInt = 0 by decide) (by repeat' first | omega | split)
theorem mj_lgT_le (hx : x.toInt = i) (hy : y.toInt = j) (h : i ≤ j) : mj_cmp .le (lg_cmp x y) 0 = true := mj_cT_le (mj_lg_int hx hy) (show (0 : Int32).toInt = 0 by decide) (by repeat' first | omega | split)
theorem mj_lgF_le (hx : x.toInt = i) (hy : y.toInt = j) (h : ¬ i ≤ j) : mj_cmp .le (lg_cmp x y) 0 = false := mj_cF_le (mj_lg_int hx hy) (show (0 : Int32).toInt = 0 by decide) (by repeat' first | omega | split)
end MJ11
/-- a closed run, worked out -/
def mj_res (f : Nat) (S : mj_S) : mj_H := match mj_ex f S with
  | some q => q.2
  | none => []
def mj_ans (f : Nat) (S : mj_S) : Option (Option Value) := match mj_ex f S with
  | some q => some q.1
  | none => none
theorem mj_closed (f : Nat) (S : mj_S) (r : Option Value) (h : mj_ans f S = some r) : mj_runs S r (mj_res f S) := by
  unfold mj_ans at h
  refine ⟨f, ?_⟩
  unfold mj_res
  split at h
  · rename_i q e
    rw [e]
    cases h
    rfl
  · cases h
end
section
/-! Cells keep their kind and their length -/
def mj_T (h h' : mj_H) : Prop := ∀ (a t : Nat) (xs : List Value), h[a]? = some (t, xs) → ∃ ys, h'[a]? = some (t, ys) ∧ ys.length = xs.length
theorem mj_T.rf (h : mj_H) : mj_T h h := fun _ _ xs e => ⟨xs, e, rfl⟩
theorem mj_T.tr {h h1 h2 : mj_H} (p : mj_T h h1) (q : mj_T h1 h2) : mj_T h h2 := fun a t xs e => by
  obtain ⟨ys, e1, e2⟩ := p a t xs e
  obtain ⟨zs, e3, e4⟩ := q a t ys e1
  exact ⟨zs, e3, e4.trans e2⟩
theorem mj_T.st {h : mj_H} {a t : Nat} {xs ys : List Value} (hc : h[a]? = some (t, xs)) (hl : ys.length = xs.length) : mj_T h (h.set a (t, ys)) := fun a' t' xs' e => by
  by_cases q : a' = a
  · subst q
    rw [hc] at e
    cases e
    have hlt : a' < h.length := (List.getElem?_eq_some_iff.mp hc).1
    exact ⟨ys, by rw [List.getElem?_set_self hlt], hl⟩
  · exact ⟨xs', by rw [List.getElem?_set_ne (Ne.symm q)]; exact e, rfl⟩
theorem mj_T.ap (h : mj_H) (c : mj_C) : mj_T h (h ++ [c]) := fun a t xs e => by
  have hlt : a < h.length := (List.getElem?_eq_some_iff.mp e).1
  exact ⟨xs, by rw [List.getElem?_append_left hlt]; exact e, rfl⟩
theorem mj_pf_T {M : mj_M} {idx : Nat} {st st' : List Value} {h h' : mj_H} (hs : mj_pf M idx st h = some (st', h')) : mj_T h h' := by
  unfold mj_pf at hs
  split at hs
  · split at hs
    · split at hs
      · split at hs
        · rename_i t xs hcell
          split at hs
          · cases hs
            exact mj_T.st hcell List.length_set
          · cases hs
        · cases hs
      · cases hs
    · cases hs
  · cases hs
theorem mj_ast_T {t : Nat} {st st' : List Value} {h h' : mj_H} (hs : mj_ast t st h = some (st', h')) : mj_T h h' := by
  obtain ⟨x, j, a, xs, -, hc, -, -, rfl⟩ := mj_ast_inv hs
  exact mj_T.st hc List.length_set
theorem mj_aast_T {st st' : List Value} {h h' : mj_H} (hs : mj_aast st h = some (st', h')) : mj_T h h' := by
  unfold mj_aast at hs
  split at hs
  · split at hs
    · rename_i t xs vs hc hv
      split at hs
      · cases hs
        exact mj_T.st hc List.length_set
      · cases hs
    · cases hs
  · cases hs
theorem mj_acopy_T {M : mj_M} {st st' : List Value} {h h' : mj_H} (hs : mj_acopy M st h = some (st', h')) : mj_T h h' := by
  unfold mj_acopy at hs
  split at hs
  · split at hs
    · rename_i t xs t' ys hc0 hc1
      split at hs
      · rename_i hh
        cases hs
        exact mj_T.st hc1 (mj_cpy_len hh.2.2.2.2.2.1 hh.2.2.2.2.2.2.1)
      · cases hs
    · cases hs
  · cases hs
theorem mj_new_T {M : mj_M} {idx : Nat} {st st' : List Value} {h h' : mj_H} (hs : mj_new M idx st h = some (st', h')) : mj_T h h' := by
  obtain ⟨t, ys, rfl⟩ := mj_new_app hs
  exact mj_T.ap _ _
theorem mj_newa_T {a : ArrayType} {st st' : List Value} {h h' : mj_H} (hs : mj_newa a st h = some (st', h')) : mj_T h h' := by
  obtain ⟨t, ys, rfl⟩ := mj_newa_app hs
  exact mj_T.ap _ _
theorem mj_anew_T {M : mj_M} {idx : Nat} {st st' : List Value} {h h' : mj_H} (hs : mj_anew M idx st h = some (st', h')) : mj_T h h' := by
  obtain ⟨t, ys, rfl⟩ := mj_anew_app hs
  exact mj_T.ap _ _
def mj_GT (k : mj_S → mj_O) : Prop := ∀ (M : mj_M) (pc : Nat) (lv : mj_L) (st : List Value) (h : mj_H) (r : Option Value) (h' : mj_H), k (M, pc, lv, st, h) = some (r, h') → mj_T h h'
theorem mj_call_T {kc k : mj_S → mj_O} (hkc : mj_GT kc) (hk : mj_GT k) {M M' : mj_M} {pc n : Nat} {lv : mj_L} {st : List Value} {h : mj_H} {r : Option Value} {h' : mj_H} (hs : mj_call kc k M pc lv st h M' n = some (r, h')) : mj_T h h' := by
  obtain ⟨-, r1, h1, e1, e2⟩ := mj_call_inv hs
  exact (hkc _ _ _ _ _ _ _ e1).tr (hk _ _ _ _ _ _ _ e2)
set_option maxHeartbeats 4000000 in
theorem mj_step_T {sc : Option (List Int32)} {kc k : mj_S → mj_O} (hkc : mj_GT kc) (hk : mj_GT k) : mj_GT (mj_step sc kc k) := by
  intro M pc lv st h r h'
  unfold mj_step
  dsimp only
  cases hd : decode M.2.1 pc with
  | error e => intro hs; cases hs
  | ok q =>
    obtain ⟨ins, len⟩ := q
    dsimp only
    cases ins <;> dsimp only
    all_goals repeat' first
      | exact fun hs => hk _ _ _ _ _ _ _ hs
      | exact fun hs => mj_call_T hkc hk hs
      | exact fun hs => (mj_pf_T (by assumption)).tr (hk _ _ _ _ _ _ _ hs)
      | exact fun hs => (mj_ast_T (by assumption)).tr (hk _ _ _ _ _ _ _ hs)
      | exact fun hs => (mj_aast_T (by assumption)).tr (hk _ _ _ _ _ _ _ hs)
      | exact fun hs => (mj_acopy_T (by assumption)).tr (hk _ _ _ _ _ _ _ hs)
      | exact fun hs => (mj_new_T (by assumption)).tr (hk _ _ _ _ _ _ _ hs)
      | exact fun hs => (mj_newa_T (by assumption)).tr (hk _ _ _ _ _ _ _ hs)
      | exact fun hs => (mj_anew_T (by assumption)).tr (hk _ _ _ _ _ _ _ hs)
      | split
      | (intro hs; cases hs; exact mj_T.rf _)
      | (intro hs; cases hs; done)
theorem mj_ex_T (f : Nat) : mj_GT (mj_ex f) := by
  induction f with
  | zero => intro M pc lv st h r h' hs; cases hs
  | succ f ih => exact mj_step_T ih ih
theorem mj_runs.T {M : mj_M} {pc : Nat} {lv : mj_L} {st : List Value} {h h' : mj_H} {r : Option Value} (h0 : mj_runs (M, pc, lv, st, h) r h') : mj_T h h' := by
  obtain ⟨f, e⟩ := h0
  exact mj_ex_T f _ _ _ _ _ _ _ e
end
section
/-! INTERVALS: bounds of the ints that an instruction makes -/
abbrev ab_I : Type := Int × Int
def ab_top : ab_I := (-2147483648, 2147483647)
def ab_ltop : ab_I := (-9223372036854775808, 9223372036854775807)
def ab_fit (p : ab_I) : ab_I := if -2147483648 ≤ p.1 ∧ p.2 ≤ 2147483647 then p else ab_top
def ab_lfit (p : ab_I) : ab_I := if -9223372036854775808 ≤ p.1 ∧ p.2 ≤ 9223372036854775807 then p else ab_ltop
def ab_i (p : ab_I) (x : Int) : Prop := p.1 ≤ x ∧ x ≤ p.2
theorem ab_i_top (x : Int32) : ab_i ab_top x.toInt := by
  have h1 := Int32.le_toInt x
  have h2 := Int32.toInt_lt x
  unfold ab_i ab_top
  constructor <;> simp only <;> omega
theorem ab_i_ltop (x : Int64) : ab_i ab_ltop x.toInt := by
  have h1 := Int64.le_toInt x
  have h2 := Int64.toInt_lt x
  unfold ab_i ab_ltop
  constructor <;> simp only <;> omega
theorem ab_bmod {z : Int} (h1 : -2147483648 ≤ z) (h2 : z ≤ 2147483647) : z.bmod (2 ^ 32) = z := by
  rw [show (2 ^ 32 : Nat) = 4294967296 from rfl]
  simp only [Int.bmod]
  split <;> omega
theorem ab_lbmod {z : Int} (h1 : -9223372036854775808 ≤ z) (h2 : z ≤ 9223372036854775807) : z.bmod (2 ^ 64) = z := by
  rw [show (2 ^ 64 : Nat) = 18446744073709551616 from rfl]
  simp only [Int.bmod]
  split <;> omega
/-- what a number z has, an int of it has, if the bounds fit -/
theorem ab_fit_ok {p : ab_I} {z : Int} {x : Int32} (hx : x.toInt = z.bmod (2 ^ 32)) (h : ab_i p z) : ab_i (ab_fit p) x.toInt := by
  unfold ab_fit
  split
  · rename_i hh
    obtain ⟨h1, h2⟩ := h
    rw [hx, ab_bmod (by omega) (by omega)]
    exact ⟨h1, h2⟩
  · exact ab_i_top x
theorem ab_lfit_ok {p : ab_I} {z : Int} {x : Int64} (hx : x.toInt = z.bmod (2 ^ 64)) (h : ab_i p z) : ab_i (ab_lfit p) x.toInt := by
  unfold ab_lfit
  split
  · rename_i hh
    obtain ⟨h1, h2⟩ := h
    rw [hx, ab_lbmod (by omega) (by omega)]
    exact ⟨h1, h2⟩
  · exact ab_i_ltop x
def ab_add (p q : ab_I) : ab_I := (p.1 + q.1, p.2 + q.2)
def ab_sub (p q : ab_I) : ab_I := (p.1 - q.2, p.2 - q.1)
def ab_mul (p q : ab_I) : ab_I := (min (min (p.1 * q.1) (p.1 * q.2)) (min (p.2 * q.1) (p.2 * q.2)), max (max (p.1 * q.1) (p.1 * q.2)) (max (p.2 * q.1) (p.2 * q.2)))
theorem ab_add_ok {p q : ab_I} {x y : Int} (hx : ab_i p x) (hy : ab_i q y) : ab_i (ab_add p q) (x + y) := by
  obtain ⟨a, b⟩ := hx
  obtain ⟨c, d⟩ := hy
  constructor <;> simp only [ab_add] <;> omega
theorem ab_sub_ok {p q : ab_I} {x y : Int} (hx : ab_i p x) (hy : ab_i q y) : ab_i (ab_sub p q) (x - y) := by
  obtain ⟨a, b⟩ := hx
  obtain ⟨c, d⟩ := hy
  constructor <;> simp only [ab_sub] <;> omega
/-- a product with y fixed lies between those with x's bounds -/
theorem ab_mul_1 {a b x y : Int} (h1 : a ≤ x) (h2 : x ≤ b) : min (a * y) (b * y) ≤ x * y ∧ x * y ≤ max (a * y) (b * y) := by
  by_cases hy : 0 ≤ y
  · have e1 := Int.mul_le_mul_of_nonneg_right h1 hy
    have e2 := Int.mul_le_mul_of_nonneg_right h2 hy
    omega
  · have e1 := Int.mul_le_mul_of_nonpos_right h1 (show y ≤ 0 by omega)
    have e2 := Int.mul_le_mul_of_nonpos_right h2 (show y ≤ 0 by omega)
    omega
theorem ab_mul_ok {p q : ab_I} {x y : Int} (hx : ab_i p x) (hy : ab_i q y) : ab_i (ab_mul p q) (x * y) := by
  obtain ⟨a, b⟩ := hx
  obtain ⟨c, d⟩ := hy
  have e1 := ab_mul_1 (y := y) a b
  have e2 := ab_mul_1 (y := p.1) c d
  have e3 := ab_mul_1 (y := p.2) c d
  rw [Int.mul_comm q.1 p.1, Int.mul_comm q.2 p.1, Int.mul_comm y p.1] at e2
  rw [Int.mul_comm q.1 p.2, Int.mul_comm q.2 p.2, Int.mul_comm y p.2] at e3
  constructor <;> simp only [ab_mul] <;> omega
/-- the bits of a number that is not below 0 -/
theorem ab_nat {x : Int32} (h : 0 ≤ x.toInt) : x.toInt = (x.toBitVec.toNat : Int) := by
  have h1 := x.toBitVec.isLt
  have e : x.toInt = x.toBitVec.toInt := rfl
  rw [e] at h ⊢
  rw [BitVec.toInt_eq_toNat_cond] at h ⊢
  split
  · rfl
  · rename_i q
    rw [if_neg q] at h
    omega
theorem ab_nat_of {x : Int32} (h : x.toBitVec.toNat < 2147483648) : x.toInt = (x.toBitVec.toNat : Int) := by
  have e : x.toInt = x.toBitVec.toInt := rfl
  rw [e, BitVec.toInt_eq_toNat_cond, if_pos (by omega)]
theorem ab_nat_lt {x : Int32} (h : 0 ≤ x.toInt) : x.toBitVec.toNat < 2147483648 := by
  have h2 := Int32.toInt_lt x
  have h3 := ab_nat h
  omega
def ab_and (p q : ab_I) : ab_I := if 0 ≤ p.1 then (if 0 ≤ q.1 then (0, min p.2 q.2) else (0, p.2)) else if 0 ≤ q.1 then (0, q.2) else ab_top
theorem ab_and_l {x y : Int32} (h : 0 ≤ x.toInt) : 0 ≤ (x &&& y).toInt ∧ (x &&& y).toInt ≤ x.toInt := by
  have h1 := ab_nat h
  have h2 := ab_nat_lt h
  have e : (x &&& y).toBitVec.toNat = x.toBitVec.toNat &&& y.toBitVec.toNat := by rw [Int32.toBitVec_and, BitVec.toNat_and]
  have h3 : x.toBitVec.toNat &&& y.toBitVec.toNat ≤ x.toBitVec.toNat := Nat.and_le_left
  have h4 := ab_nat_of (x := x &&& y) (by omega)
  omega
theorem ab_and_ok {p q : ab_I} {x y : Int32} (hx : ab_i p x.toInt) (hy : ab_i q y.toInt) : ab_i (ab_and p q) (x &&& y).toInt := by
  obtain ⟨a, b⟩ := hx
  obtain ⟨c, d⟩ := hy
  have ec : y &&& x = x &&& y := Int32.and_comm y x
  unfold ab_and
  split
  · have e1 := ab_and_l (x := x) (y := y) (by omega)
    split
    · have e2 := ab_and_l (x := y) (y := x) (by omega)
      rw [ec] at e2
      constructor <;> simp only <;> omega
    · constructor <;> simp only <;> omega
  · split
    · have e2 := ab_and_l (x := y) (y := x) (by omega)
      rw [ec] at e2
      constructor <;> simp only <;> omega
    · exact ab_i_top _
def ab_or (p q : ab_I) : ab_I := if 0 ≤ p.1 ∧ 0 ≤ q.1 then (0, (2 ^ ((max p.2.toNat q.2.toNat).log2 + 1) : Nat) - 1) else ab_top
theorem ab_or_ok {p q : ab_I} {x y : Int32} (hx : ab_i p x.toInt) (hy : ab_i q y.toInt) : ab_i (ab_or p q) (x ||| y).toInt := by
  obtain ⟨a, b⟩ := hx
  obtain ⟨c, d⟩ := hy
  unfold ab_or
  split
  · rename_i hh
    have h1 := ab_nat (x := x) (by omega)
    have h2 := ab_nat (x := y) (by omega)
    have l1 := ab_nat_lt (x := x) (by omega)
    have l2 := ab_nat_lt (x := y) (by omega)
    have e : (x ||| y).toBitVec.toNat = x.toBitVec.toNat ||| y.toBitVec.toNat := by rw [Int32.toBitVec_or, BitVec.toNat_or]
    have g1 : x.toBitVec.toNat ||| y.toBitVec.toNat < 2 ^ 31 := Nat.or_lt_two_pow (by omega) (by omega)
    have g2 : x.toBitVec.toNat ||| y.toBitVec.toNat < 2 ^ ((max p.2.toNat q.2.toNat).log2 + 1) := by
      have hm : max p.2.toNat q.2.toNat < 2 ^ ((max p.2.toNat q.2.toNat).log2 + 1) := Nat.lt_log2_self
      exact Nat.or_lt_two_pow (by omega) (by omega)
    have h4 := ab_nat_of (x := x ||| y) (by omega)
    constructor
    · simp only; omega
    · simp only
      have g3 : 1 ≤ 2 ^ ((max p.2.toNat q.2.toNat).log2 + 1) := Nat.one_le_two_pow
      omega
  · exact ab_i_top _
end
section
/-! INTERVALS of shifts, quotients, remainders; longs -/
theorem ab_sl : ∀ n, n < 32 → ((nI n &&& 31).toBitVec.smod 32).toNat = n := by decide +kernel
theorem ab_nI {y : Int32} {n : Nat} (h : y.toInt = (n : Int)) : y = nI n := by
  apply Int32.toInt_inj.mp
  have h2 := Int32.toInt_lt y
  have e : (nI n).toInt = (n : Int) := by
    unfold nI
    rw [Int32.toInt_ofNat', ab_bmod (by omega) (by omega)]
  rw [h, e]
theorem ab_shl_nat (x : Int32) {n : Nat} (hn : n < 32) : (x <<< (nI n &&& 31)).toBitVec.toNat = (x.toBitVec.toNat * 2 ^ n) % 4294967296 := by
  have e : (x <<< (nI n &&& 31)).toBitVec = x.toBitVec <<< ((nI n &&& 31).toBitVec.smod 32) := rfl
  rw [e, BitVec.shiftLeft_eq', BitVec.toNat_shiftLeft, ab_sl n hn, Nat.shiftLeft_eq]
def ab_shl (p q : ab_I) : ab_I := if 0 ≤ p.1 ∧ 0 ≤ q.1 ∧ q.2 ≤ 31 ∧ p.2 * (2 ^ q.2.toNat : Nat) ≤ 2147483647 then (p.1 * (2 ^ q.1.toNat : Nat), p.2 * (2 ^ q.2.toNat : Nat)) else ab_top
theorem ab_shl_ok {p q : ab_I} {x y : Int32} (hx : ab_i p x.toInt) (hy : ab_i q y.toInt) : ab_i (ab_shl p q) (x <<< (y &&& 31)).toInt := by
  obtain ⟨a, b⟩ := hx
  obtain ⟨c, d⟩ := hy
  unfold ab_shl
  split
  · rename_i hh
    obtain ⟨g1, g2, g3, g4⟩ := hh
    obtain ⟨n, hn⟩ : ∃ n : Nat, y.toInt = (n : Int) := ⟨y.toInt.toNat, by omega⟩
    have e := ab_nI hn
    subst e
    have h1 := ab_nat (x := x) (by omega)
    have hl := ab_shl_nat x (n := n) (by omega)
    have k1 : 2 ^ q.1.toNat ≤ 2 ^ n := Nat.pow_le_pow_right (by decide) (by omega)
    have k2 : 2 ^ n ≤ 2 ^ q.2.toNat := Nat.pow_le_pow_right (by decide) (by omega)
    have m2 : x.toInt * (2 ^ n : Nat) ≤ p.2 * (2 ^ q.2.toNat : Nat) := by
      have z1 : x.toInt * ((2 ^ n : Nat) : Int) ≤ x.toInt * ((2 ^ q.2.toNat : Nat) : Int) := Int.mul_le_mul_of_nonneg_left (by exact_mod_cast k2) (by omega)
      have z2 : x.toInt * ((2 ^ q.2.toNat : Nat) : Int) ≤ p.2 * ((2 ^ q.2.toNat : Nat) : Int) := Int.mul_le_mul_of_nonneg_right b (Int.natCast_nonneg _)
      omega
    have m1 : p.1 * (2 ^ q.1.toNat : Nat) ≤ x.toInt * (2 ^ n : Nat) := by
      have z1 : p.1 * ((2 ^ q.1.toNat : Nat) : Int) ≤ p.1 * ((2 ^ n : Nat) : Int) := Int.mul_le_mul_of_nonneg_left (by exact_mod_cast k1) g1
      have z2 : p.1 * ((2 ^ n : Nat) : Int) ≤ x.toInt * ((2 ^ n : Nat) : Int) := Int.mul_le_mul_of_nonneg_right a (Int.natCast_nonneg _)
      omega
    have en : ((x.toBitVec.toNat * 2 ^ n : Nat) : Int) = x.toInt * (2 ^ n : Nat) := by rw [h1]; push_cast; rfl
    have hlt : x.toBitVec.toNat * 2 ^ n < 2147483648 := by omega
    rw [Nat.mod_eq_of_lt (by omega)] at hl
    have h4 := ab_nat_of (x := x <<< (nI n &&& 31)) (by omega)
    constructor <;> simp only <;> omega
  · exact ab_i_top _
def ab_shr (p : ab_I) : ab_I := (min p.1 0, max p.2 0)
theorem ab_shr_ok {p : ab_I} {x y : Int32} (hx : ab_i p x.toInt) : ab_i (ab_shr p) (x >>> (y &&& 31)).toInt := by
  obtain ⟨a, b⟩ := hx
  have e : (x >>> (y &&& 31)).toInt = (x.toBitVec.sshiftRight' ((y &&& 31).toBitVec.smod 32)).toInt := rfl
  have e2 : (x.toBitVec.sshiftRight' ((y &&& 31).toBitVec.smod 32)).toInt = x.toInt >>> ((y &&& 31).toBitVec.smod 32).toNat := by
    show (x.toBitVec.sshiftRight ((y &&& 31).toBitVec.smod 32).toNat).toInt = _
    rw [BitVec.toInt_sshiftRight]
    rfl
  rw [e, e2, Int.shiftRight_eq_div_pow]
  generalize ((y &&& 31).toBitVec.smod 32).toNat = n
  have hp : (0 : Int) < ((2 ^ n : Nat) : Int) := by exact_mod_cast Nat.two_pow_pos n
  unfold ab_i ab_shr
  by_cases hz : 0 ≤ x.toInt
  · have k1 := Int.ediv_nonneg hz (Int.le_of_lt hp)
    have k2 := Int.ediv_le_self ((2 ^ n : Nat) : Int) hz
    constructor <;> simp only <;> omega
  · have k1 : x.toInt / ((2 ^ n : Nat) : Int) < 0 := Int.ediv_neg_of_neg_of_pos (by omega) hp
    have k2 : x.toInt ≤ x.toInt / ((2 ^ n : Nat) : Int) := by
      rw [Int.le_ediv_iff_mul_le hp]
      generalize ((2 ^ n : Nat) : Int) = P at hp ⊢
      have hz2 := Int.mul_nonneg (show 0 ≤ -x.toInt by omega) (show 0 ≤ P - 1 by omega)
      rw [Int.mul_sub, Int.mul_one, Int.neg_mul] at hz2
      omega
    constructor <;> simp only <;> omega
def ab_div (p q : ab_I) : ab_I := if 0 ≤ p.1 ∧ 1 ≤ q.1 then (0, p.2 / q.1) else ab_top
def ab_rem (p q : ab_I) : ab_I := if 0 ≤ p.1 ∧ 1 ≤ q.1 then (0, min p.2 (q.2 - 1)) else ab_top
theorem ab_quot {p q : ab_I} {x y : Int} (hx : ab_i p x) (hy : ab_i q y) (h1 : 0 ≤ p.1) (h2 : 1 ≤ q.1) : 0 ≤ x / y ∧ x / y ≤ p.2 / q.1 ∧ x / y ≤ x ∧ 0 ≤ x % y ∧ x % y < y ∧ x % y ≤ x := by
  obtain ⟨a, b⟩ := hx
  obtain ⟨c, d⟩ := hy
  have k1 := Int.ediv_nonneg (show 0 ≤ x by omega) (show 0 ≤ y by omega)
  have k2 := Int.emod_nonneg x (show y ≠ 0 by omega)
  have k3 := Int.emod_lt_of_pos x (show 0 < y by omega)
  have k4 := Int.mul_ediv_add_emod x y
  have k5 := Int.mul_nonneg (show 0 ≤ y by omega) k1
  have k6 := Int.ediv_le_self y (show 0 ≤ x by omega)
  refine ⟨k1, ?_, k6, k2, k3, by omega⟩
  rw [Int.le_ediv_iff_mul_le (by omega)]
  have z1 : x / y * q.1 ≤ x / y * y := Int.mul_le_mul_of_nonneg_left c k1
  rw [Int.mul_comm (x / y) y] at z1
  omega
theorem ab_div_ok {p q : ab_I} {x y : Int32} (hx : ab_i p x.toInt) (hy : ab_i q y.toInt) : ab_i (ab_div p q) (x / y).toInt := by
  unfold ab_div
  split
  · rename_i hh
    have k := ab_quot hx hy hh.1 hh.2
    have hb := Int32.toInt_lt x
    have e : (x / y).toInt = x.toInt / y.toInt := by
      rw [Int32.toInt_div, Int.tdiv_eq_ediv_of_nonneg (by have := hx.1; omega), ab_bmod (by omega) (by omega)]
    rw [e]
    exact ⟨k.1, k.2.1⟩
  · exact ab_i_top _
theorem ab_rem_ok {p q : ab_I} {x y : Int32} (hx : ab_i p x.toInt) (hy : ab_i q y.toInt) : ab_i (ab_rem p q) (x - x / y * y).toInt := by
  unfold ab_rem
  split
  · rename_i hh
    have k := ab_quot hx hy hh.1 hh.2
    have e : (x - x / y * y).toInt = x.toInt % y.toInt := by
      rw [rem_toInt, Int.tmod_eq_emod_of_nonneg (by have := hx.1; omega)]
    rw [e]
    have := hx.2
    have := hy.2
    constructor <;> simp only <;> omega
  · exact ab_i_top _
def ab_ldiv (p q : ab_I) : ab_I := if 0 ≤ p.1 ∧ 1 ≤ q.1 then (0, p.2 / q.1) else ab_ltop
def ab_lrem (p q : ab_I) : ab_I := if 0 ≤ p.1 ∧ 1 ≤ q.1 then (0, min p.2 (q.2 - 1)) else ab_ltop
theorem ab_ldiv_eq {p q : ab_I} {x y : Int64} (hx : ab_i p x.toInt) (hy : ab_i q y.toInt) (h1 : 0 ≤ p.1) (h2 : 1 ≤ q.1) : (x / y).toInt = x.toInt / y.toInt := by
  have k := ab_quot hx hy h1 h2
  have hb := Int64.toInt_lt x
  rw [Int64.toInt_div, Int.tdiv_eq_ediv_of_nonneg (by have := hx.1; omega), ab_lbmod (by omega) (by omega)]
theorem ab_ldiv_ok {p q : ab_I} {x y : Int64} (hx : ab_i p x.toInt) (hy : ab_i q y.toInt) : ab_i (ab_ldiv p q) (x / y).toInt := by
  unfold ab_ldiv
  split
  · rename_i hh
    have k := ab_quot hx hy hh.1 hh.2
    rw [ab_ldiv_eq hx hy hh.1 hh.2]
    exact ⟨k.1, k.2.1⟩
  · exact ab_i_ltop _
theorem ab_lrem_ok {p q : ab_I} {x y : Int64} (hx : ab_i p x.toInt) (hy : ab_i q y.toInt) : ab_i (ab_lrem p q) (x - x / y * y).toInt := by
  unfold ab_lrem
  split
  · rename_i hh
    have k := ab_quot hx hy hh.1 hh.2
    have hb := Int64.toInt_lt x
    have e0 := ab_ldiv_eq hx hy hh.1 hh.2
    have k4 := Int.mul_ediv_add_emod x.toInt y.toInt
    rw [Int.mul_comm] at k4
    have k5 := Int.mul_nonneg k.1 (show 0 ≤ y.toInt by have := hy.1; omega)
    have e1 : (x / y * y).toInt = x.toInt / y.toInt * y.toInt := by
      rw [Int64.toInt_mul, e0, ab_lbmod (by omega) (by omega)]
    have e : (x - x / y * y).toInt = x.toInt % y.toInt := by
      rw [Int64.toInt_sub, e1, ab_lbmod (by omega) (by omega)]
      omega
    rw [e]
    have := hx.2
    have := hy.2
    constructor <;> simp only <;> omega
  · exact ab_i_ltop _
end
section
/-! ABSTRACT VALUES: (kind, least, greatest, origin): 0 an int, 1 a long, 2 a reference to a cell of type 'least', 4 lcmp of the origin's number and one between the bounds; origin n + 1: the number of local n -/
abbrev ab_V : Type := Nat × Int × Int × Nat
abbrev ab_L : Type := List (Nat × ab_V)
def ab_num (v : Value) : Option Int := match v with
  | .int x => some x.toInt
  | .long x => some x.toInt
  | _ => none
def ab_m (ty : List Nat) (V : ab_V) (v : Value) : Prop := (V.1 = 0 ∧ ∃ x : Int32, v = .int x ∧ ab_i (V.2.1, V.2.2.1) x.toInt) ∨ (V.1 = 1 ∧ ∃ x : Int64, v = .long x ∧ ab_i (V.2.1, V.2.2.1) x.toInt) ∨ (V.1 = 2 ∧ ∃ a : Nat, v = .ref a ∧ ty[a]? = some V.2.1.toNat)
/-- v is the number of local o - 1 -/
def ab_o (lv : mj_L) (o : Nat) (v : Value) : Prop := o = 0 ∨ ∃ (u : Value) (z : Int), mj_get lv (o - 1) = some u ∧ ab_num u = some z ∧ ab_num v = some z
def ab_s (ty : List Nat) (lv : mj_L) (V : ab_V) (v : Value) : Prop := (V.1 = 4 ∧ V.2.2.2 ≠ 0 ∧ ∃ (x y : Int64) (u : Value), v = .int (lg_cmp x y) ∧ mj_get lv (V.2.2.2 - 1) = some u ∧ ab_num u = some x.toInt ∧ ab_i (V.2.1, V.2.2.1) y.toInt) ∨ (ab_m ty V v ∧ ab_o lv V.2.2.2 v)
def ab_st (ty : List Nat) (lv : mj_L) : List ab_V → List Value → Prop
  | [], [] => True
  | V :: A, v :: st => ab_s ty lv V v ∧ ab_st ty lv A st
  | _, _ => False
def ab_get (al : ab_L) (i : Nat) : Option ab_V := (al.find? (fun q => q.1 == i)).map (fun q => q.2)
def ab_l (ty : List Nat) (al : ab_L) (lv : mj_L) : Prop := ∀ (i : Nat) (V : ab_V), ab_get al i = some V → ∃ v, mj_get lv i = some v ∧ ab_m ty V v
def ab_int (p : ab_I) : ab_V := (0, p.1, p.2, 0)
def ab_long (p : ab_I) : ab_V := (1, p.1, p.2, 0)
section AB1
variable {ty : List Nat} {lv : mj_L}
theorem ab_s_int {p : ab_I} {x : Int32} (h : ab_i p x.toInt) : ab_s ty lv (ab_int p) (.int x) := Or.inr ⟨Or.inl ⟨rfl, x, rfl, h⟩, Or.inl rfl⟩
theorem ab_s_long {p : ab_I} {x : Int64} (h : ab_i p x.toInt) : ab_s ty lv (ab_long p) (.long x) := Or.inr ⟨Or.inr (Or.inl ⟨rfl, x, rfl, h⟩), Or.inl rfl⟩
theorem ab_st_cons {V : ab_V} {A : List ab_V} {st : List Value} (h : ab_st ty lv (V :: A) st) : ∃ v r, st = v :: r ∧ ab_s ty lv V v ∧ ab_st ty lv A r := by
  cases st with
  | nil => exact absurd h (by simp [ab_st])
  | cons v r => exact ⟨v, r, rfl, h.1, h.2⟩
theorem ab_s_0 {l u : Int} {o : Nat} {v : Value} (h : ab_s ty lv (0, l, u, o) v) : ∃ x : Int32, v = .int x ∧ ab_i (l, u) x.toInt ∧ ab_o lv o v := by
  rcases h with ⟨h, -⟩ | ⟨⟨-, x, e, h⟩ | ⟨h, -⟩ | ⟨h, -⟩, ho⟩
  · simp at h
  · exact ⟨x, e, h, ho⟩
  · simp at h
  · simp at h
theorem ab_s_1 {l u : Int} {o : Nat} {v : Value} (h : ab_s ty lv (1, l, u, o) v) : ∃ x : Int64, v = .long x ∧ ab_i (l, u) x.toInt ∧ ab_o lv o v := by
  rcases h with ⟨h, -⟩ | ⟨⟨h, -⟩ | ⟨-, x, e, h⟩ | ⟨h, -⟩, ho⟩
  · simp at h
  · simp at h
  · exact ⟨x, e, h, ho⟩
  · simp at h
theorem ab_s_2 {l u : Int} {o : Nat} {v : Value} (h : ab_s ty lv (2, l, u, o) v) : ∃ a : Nat, v = .ref a ∧ ty[a]? = some l.toNat := by
  rcases h with ⟨h, -⟩ | ⟨⟨h, -⟩ | ⟨h, -⟩ | ⟨-, a, e, h⟩, ho⟩
  · simp at h
  · simp at h
  · simp at h
  · exact ⟨a, e, h⟩
theorem ab_s_cat {V : ab_V} {v : Value} (h : ab_s ty lv V v) : v.category = if V.1 = 1 then 2 else 1 := by
  rcases h with ⟨h, -, x, y, u, e, -⟩ | ⟨⟨h, x, e, -⟩ | ⟨h, x, e, -⟩ | ⟨h, x, e, -⟩, -⟩ <;> rw [e, h] <;> rfl
end AB1
def ab_ii (A : List ab_V) (f : ab_I → ab_I → Option ab_I) : Option (List ab_V) := match A with
  | (k2, l2, u2, _) :: (k1, l1, u1, _) :: r => if k1 = 0 ∧ k2 = 0 then match f (l1, u1) (l2, u2) with
    | some p => some (ab_int p :: r)
    | none => none
    else none
  | _ => none
def ab_ll (A : List ab_V) (f : ab_I → ab_I → Option ab_I) : Option (List ab_V) := match A with
  | (k2, l2, u2, _) :: (k1, l1, u1, _) :: r => if k1 = 1 ∧ k2 = 1 then match f (l1, u1) (l2, u2) with
    | some p => some (ab_long p :: r)
    | none => none
    else none
  | _ => none
theorem ab_ii_ok {ty : List Nat} {lv : mj_L} {A A' : List ab_V} {st : List Value} {f : ab_I → ab_I → Option ab_I} {F : Int32 → Int32 → Option Int32} (hf : ∀ p q r x y, ab_i p x.toInt → ab_i q y.toInt → f p q = some r → ∃ v, F x y = some v ∧ ab_i r v.toInt) (h : ab_ii A f = some A') (hs : ab_st ty lv A st) : ∃ st', mj_ii st F = some st' ∧ ab_st ty lv A' st' := by
  unfold ab_ii at h
  split at h
  · rename_i k2 l2 u2 o2 k1 l1 u1 o1 r
    split at h
    · rename_i hk
      obtain ⟨rfl, rfl⟩ := hk
      split at h
      · rename_i p hp
        cases h
        obtain ⟨v2, r2, rfl, s2, hs2⟩ := ab_st_cons hs
        obtain ⟨v1, r1, rfl, s1, hs1⟩ := ab_st_cons hs2
        obtain ⟨y, rfl, hy, -⟩ := ab_s_0 s2
        obtain ⟨x, rfl, hx, -⟩ := ab_s_0 s1
        obtain ⟨v, e1, e2⟩ := hf _ _ _ x y hx hy hp
        refine ⟨.int v :: r1, ?_, ab_s_int e2, hs1⟩
        simp only [mj_ii, e1]
      · cases h
    · cases h
  · cases h
theorem ab_ll_ok {ty : List Nat} {lv : mj_L} {A A' : List ab_V} {st : List Value} {f : ab_I → ab_I → Option ab_I} {F : Int64 → Int64 → Option Int64} (hf : ∀ p q r x y, ab_i p x.toInt → ab_i q y.toInt → f p q = some r → ∃ v, F x y = some v ∧ ab_i r v.toInt) (h : ab_ll A f = some A') (hs : ab_st ty lv A st) : ∃ st', mj_ll st F = some st' ∧ ab_st ty lv A' st' := by
  unfold ab_ll at h
  split at h
  · rename_i k2 l2 u2 o2 k1 l1 u1 o1 r
    split at h
    · rename_i hk
      obtain ⟨rfl, rfl⟩ := hk
      split at h
      · rename_i p hp
        cases h
        obtain ⟨v2, r2, rfl, s2, hs2⟩ := ab_st_cons hs
        obtain ⟨v1, r1, rfl, s1, hs1⟩ := ab_st_cons hs2
        obtain ⟨y, rfl, hy, -⟩ := ab_s_1 s2
        obtain ⟨x, rfl, hx, -⟩ := ab_s_1 s1
        obtain ⟨v, e1, e2⟩ := hf _ _ _ x y hx hy hp
        refine ⟨.long v :: r1, ?_, ab_s_long e2, hs1⟩
        simp only [mj_ll, e1]
      · cases h
    · cases h
  · cases h
/-- the abstract stack behind an instruction of one byte -/
def ab_alu (ins : Instr) (A : List ab_V) : Option (List ab_V) := match ins with
  | .iconst n => some (ab_int ((Int32.ofInt n).toInt, (Int32.ofInt n).toInt) :: A)
  | .lconst n => some (ab_long ((Int64.ofNat (n : Nat)).toInt, (Int64.ofNat (n : Nat)).toInt) :: A)
  | .iadd => ab_ii A (fun p q => some (ab_fit (ab_add p q)))
  | .isub => ab_ii A (fun p q => some (ab_fit (ab_sub p q)))
  | .imul => ab_ii A (fun p q => some (ab_fit (ab_mul p q)))
  | .iand => ab_ii A (fun p q => some (ab_and p q))
  | .ior => ab_ii A (fun p q => some (ab_or p q))
  | .ixor => ab_ii A (fun _ _ => some ab_top)
  | .idiv => ab_ii A (fun p q => if 1 ≤ q.1 then some (ab_div p q) else none)
  | .irem => ab_ii A (fun p q => if 1 ≤ q.1 then some (ab_rem p q) else none)
  | .ishl => ab_ii A (fun p q => some (ab_shl p q))
  | .ishr => ab_ii A (fun p _ => some (ab_shr p))
  | .iushr => ab_ii A (fun _ _ => some ab_top)
  | .ladd => ab_ll A (fun p q => some (ab_lfit (ab_add p q)))
  | .lmul => ab_ll A (fun p q => some (ab_lfit (ab_mul p q)))
  | .ldiv => ab_ll A (fun p q => if 1 ≤ q.1 then some (ab_ldiv p q) else none)
  | .lrem => ab_ll A (fun p q => if 1 ≤ q.1 then some (ab_lrem p q) else none)
  | .lcmp => match A with
    | (k2, l2, u2, _) :: (k1, _, _, o1) :: r => if k1 = 1 ∧ k2 = 1 ∧ o1 ≠ 0 then some ((4, l2, u2, o1) :: r) else none
    | _ => none
  | .i2l => match A with
    | (k, l, u, o) :: r => if k = 0 then some ((1, l, u, o) :: r) else none
    | _ => none
  | .l2i => match A with
    | (k, l, u, _) :: r => if k = 1 then some (ab_int (ab_fit (l, u)) :: r) else none
    | _ => none
  | .i2c => match A with
    | (k, _, _, _) :: r => if k = 0 then some (ab_int (0, 65535) :: r) else none
    | _ => none
  | .dup => match A with
    | V :: r => if V.1 ≠ 1 then some (V :: V :: r) else none
    | _ => none
  | .pop => match A with
    | V :: r => if V.1 ≠ 1 then some r else none
    | _ => none
  | .dup2 => match A with
    | V :: W :: r => if V.1 ≠ 1 ∧ W.1 ≠ 1 then some (V :: W :: V :: W :: r) else none
    | _ => none
  | _ => none
theorem ab_ne0 {q : ab_I} {y : Int32} (h : 1 ≤ q.1) (hy : ab_i q y.toInt) : ¬ y = 0 := fun e => by
  subst e
  have := hy.1
  rw [show (0 : Int32).toInt = 0 by decide] at this
  omega
theorem ab_lne0 {q : ab_I} {y : Int64} (h : 1 ≤ q.1) (hy : ab_i q y.toInt) : ¬ y = 0 := fun e => by
  subst e
  have := hy.1
  rw [show (0 : Int64).toInt = 0 by decide] at this
  omega
theorem ab_i2c (x : Int32) : ab_i (0, 65535) ((x.toUInt32 % 65536).toInt32).toInt := by
  have e : ((x.toUInt32 % 65536).toInt32).toBitVec.toNat = x.toUInt32.toNat % 65536 := UInt32.toNat_mod x.toUInt32 65536
  have hl : x.toUInt32.toNat % 65536 < 65536 := Nat.mod_lt _ (by decide)
  have h4 := ab_nat_of (x := (x.toUInt32 % 65536).toInt32) (by omega)
  constructor <;> simp only <;> omega
set_option maxHeartbeats 4000000 in
theorem ab_alu_ok {ty : List Nat} {lv : mj_L} {ins : Instr} {A A' : List ab_V} {st : List Value} (h : ab_alu ins A = some A') (hs : ab_st ty lv A st) : ∃ st', mj_alu ins st = some st' ∧ ab_st ty lv A' st' := by
  cases ins with
  | iconst n => cases h; exact ⟨_, rfl, ab_s_int ⟨Int.le_refl _, Int.le_refl _⟩, hs⟩
  | lconst n => cases h; exact ⟨_, rfl, ab_s_long ⟨Int.le_refl _, Int.le_refl _⟩, hs⟩
  | iadd =>
    simp only [ab_alu] at h
    exact ab_ii_ok (fun p q r x y hx hy e => ⟨_, rfl, by cases e; exact ab_fit_ok (Int32.toInt_add x y) (ab_add_ok hx hy)⟩) h hs
  | isub =>
    simp only [ab_alu] at h
    exact ab_ii_ok (fun p q r x y hx hy e => ⟨_, rfl, by cases e; exact ab_fit_ok (Int32.toInt_sub x y) (ab_sub_ok hx hy)⟩) h hs
  | imul =>
    simp only [ab_alu] at h
    exact ab_ii_ok (fun p q r x y hx hy e => ⟨_, rfl, by cases e; exact ab_fit_ok (Int32.toInt_mul x y) (ab_mul_ok hx hy)⟩) h hs
  | iand =>
    simp only [ab_alu] at h
    exact ab_ii_ok (fun p q r x y hx hy e => ⟨_, rfl, by cases e; exact ab_and_ok hx hy⟩) h hs
  | ior =>
    simp only [ab_alu] at h
    exact ab_ii_ok (fun p q r x y hx hy e => ⟨_, rfl, by cases e; exact ab_or_ok hx hy⟩) h hs
  | ixor =>
    simp only [ab_alu] at h
    exact ab_ii_ok (fun p q r x y hx hy e => ⟨_, rfl, by cases e; exact ab_i_top _⟩) h hs
  | idiv =>
    simp only [ab_alu] at h
    refine ab_ii_ok (fun p q r x y hx hy e => ?_) h hs
    split at e
    · rename_i h1
      cases e
      exact ⟨_, if_neg (ab_ne0 h1 hy), ab_div_ok hx hy⟩
    · cases e
  | irem =>
    simp only [ab_alu] at h
    refine ab_ii_ok (fun p q r x y hx hy e => ?_) h hs
    split at e
    · rename_i h1
      cases e
      exact ⟨_, if_neg (ab_ne0 h1 hy), ab_rem_ok hx hy⟩
    · cases e
  | ishl =>
    simp only [ab_alu] at h
    exact ab_ii_ok (fun p q r x y hx hy e => ⟨_, rfl, by cases e; exact ab_shl_ok hx hy⟩) h hs
  | ishr =>
    simp only [ab_alu] at h
    exact ab_ii_ok (fun p q r x y hx hy e => ⟨_, rfl, by cases e; exact ab_shr_ok hx⟩) h hs
  | iushr =>
    simp only [ab_alu] at h
    exact ab_ii_ok (fun p q r x y hx hy e => ⟨_, rfl, by cases e; exact ab_i_top _⟩) h hs
  | ladd =>
    simp only [ab_alu] at h
    exact ab_ll_ok (fun p q r x y hx hy e => ⟨_, rfl, by cases e; exact ab_lfit_ok (Int64.toInt_add x y) (ab_add_ok hx hy)⟩) h hs
  | lmul =>
    simp only [ab_alu] at h
    exact ab_ll_ok (fun p q r x y hx hy e => ⟨_, rfl, by cases e; exact ab_lfit_ok (Int64.toInt_mul x y) (ab_mul_ok hx hy)⟩) h hs
  | ldiv =>
    simp only [ab_alu] at h
    refine ab_ll_ok (fun p q r x y hx hy e => ?_) h hs
    split at e
    · rename_i h1
      cases e
      exact ⟨_, if_neg (ab_lne0 h1 hy), ab_ldiv_ok hx hy⟩
    · cases e
  | lrem =>
    simp only [ab_alu] at h
    refine ab_ll_ok (fun p q r x y hx hy e => ?_) h hs
    split at e
    · rename_i h1
      cases e
      exact ⟨_, if_neg (ab_lne0 h1 hy), ab_lrem_ok hx hy⟩
    · cases e
  | lcmp =>
    simp only [ab_alu] at h
    split at h
    · split at h
      · rename_i hk
        obtain ⟨rfl, rfl, ho⟩ := hk
        cases h
        obtain ⟨v2, r2, rfl, s2, hs2⟩ := ab_st_cons hs
        obtain ⟨v1, r1, rfl, s1, hs1⟩ := ab_st_cons hs2
        obtain ⟨y, rfl, hy, -⟩ := ab_s_1 s2
        obtain ⟨x, rfl, hx, hxo⟩ := ab_s_1 s1
        refine ⟨.int (lg_cmp x y) :: r1, rfl, Or.inl ⟨rfl, ho, ?_⟩, hs1⟩
        rcases hxo with q | ⟨u, z, e1, e2, e3⟩
        · exact absurd q ho
        · exact ⟨x, y, u, rfl, e1, by rw [e2]; exact e3.symm, hy⟩
      · cases h
    · cases h
  | i2l =>
    simp only [ab_alu] at h
    split at h
    · split at h
      · rename_i hk
        subst hk
        cases h
        obtain ⟨v, r, rfl, s1, hs1⟩ := ab_st_cons hs
        obtain ⟨x, rfl, hx, hxo⟩ := ab_s_0 s1
        refine ⟨.long x.toInt64 :: r, rfl, Or.inr ⟨Or.inr (Or.inl ⟨rfl, _, rfl, by rw [mj_l32]; exact hx⟩), ?_⟩, hs1⟩
        rcases hxo with q | ⟨u, z, e1, e2, e3⟩
        · exact Or.inl q
        · exact Or.inr ⟨u, z, e1, e2, by show some (x.toInt64.toInt) = some z; rw [mj_l32]; exact e3⟩
      · cases h
    · cases h
  | l2i =>
    simp only [ab_alu] at h
    split at h
    · split at h
      · rename_i hk
        subst hk
        cases h
        obtain ⟨v, r, rfl, s1, hs1⟩ := ab_st_cons hs
        obtain ⟨x, rfl, hx, -⟩ := ab_s_1 s1
        exact ⟨.int x.toInt32 :: r, rfl, ab_s_int (ab_fit_ok (z := x.toInt) (Int64.toInt_toInt32 x) hx), hs1⟩
      · cases h
    · cases h
  | i2c =>
    simp only [ab_alu] at h
    split at h
    · split at h
      · rename_i hk
        subst hk
        cases h
        obtain ⟨v, r, rfl, s1, hs1⟩ := ab_st_cons hs
        obtain ⟨x, rfl, hx, -⟩ := ab_s_0 s1
        exact ⟨_, rfl, ab_s_int (ab_i2c x), hs1⟩
      · cases h
    · cases h
  | dup =>
    simp only [ab_alu] at h
    split at h
    · split at h
      · rename_i hk
        cases h
        obtain ⟨v, r, rfl, s1, hs1⟩ := ab_st_cons hs
        have hc := ab_s_cat s1
        rw [if_neg hk] at hc
        exact ⟨v :: v :: r, by simp only [mj_alu]; rw [if_pos hc], s1, s1, hs1⟩
      · cases h
    · cases h
  | pop =>
    simp only [ab_alu] at h
    split at h
    · split at h
      · rename_i hk
        cases h
        obtain ⟨v, r, rfl, s1, hs1⟩ := ab_st_cons hs
        have hc := ab_s_cat s1
        rw [if_neg hk] at hc
        exact ⟨r, by simp only [mj_alu]; rw [if_pos hc], hs1⟩
      · cases h
    · cases h
  | dup2 =>
    simp only [ab_alu] at h
    split at h
    · split at h
      · rename_i hk
        cases h
        obtain ⟨v, r, rfl, s1, hs1⟩ := ab_st_cons hs
        obtain ⟨w, r2, rfl, s2, hs2⟩ := ab_st_cons hs1
        have hc := ab_s_cat s1
        rw [if_neg hk.1] at hc
        have hc2 := ab_s_cat s2
        rw [if_neg hk.2] at hc2
        exact ⟨v :: w :: v :: w :: r2, by simp only [mj_alu]; rw [if_pos ⟨hc, hc2⟩], s1, s2, s1, s2, hs2⟩
      · cases h
    · cases h
  | _ => exact absurd (show (none : Option (List ab_V)) = some A' from h) (by simp)
end
section
/-! ABSTRACT LOCALS -/
theorem mj_find_filter {P : Nat × Value → Bool} {j : Nat} {w : Value} (hP : P (j, w) = true) : ∀ lv : mj_L, mj_get lv j = some w → mj_get (lv.filter P) j = some w := by
  intro lv
  induction lv with
  | nil => intro h; cases h
  | cons q lv ih =>
    intro h
    obtain ⟨i, v⟩ := q
    by_cases e : i = j
    · subst e
      have hv : v = w := by simpa [mj_get] using h
      subst hv
      rw [List.filter_cons, if_pos hP]
      simp [mj_get]
    · have h2 : mj_get lv j = some w := by
        simp only [mj_get, List.find?_cons] at h ⊢
        rw [show ((i, v).1 == j) = false by simpa using e] at h
        exact h
      rw [List.filter_cons]
      split
      · simp only [mj_get, List.find?_cons]
        rw [show ((i, v).1 == j) = false by simpa using e]
        exact ih h2
      · exact ih h2
theorem mj_get_cons_ne {lv : mj_L} {i j : Nat} {v : Value} (h : j ≠ i) : mj_get ((i, v) :: lv) j = mj_get lv j := by
  simp only [mj_get, List.find?_cons]
  rw [show ((i, v).1 == j) = false by simpa using (Ne.symm h)]
theorem mj_get_self {lv : mj_L} {i : Nat} {v : Value} : mj_get ((i, v) :: lv) i = some v := by simp [mj_get]
theorem mj_get_put1 {lv : mj_L} {i j : Nat} {v w : Value} (hj : j ≠ i) (hw : mj_get lv j = some w) (hc : j + 1 ≠ i ∨ w.category = 1) : mj_get (mj_put1 lv i v) j = some w := by
  unfold mj_put1
  rw [mj_get_cons_ne hj]
  refine mj_find_filter ?_ lv hw
  rcases hc with hc | hc
  · simp [hj, hc]
  · simp [hj, hc]
theorem mj_get_put2 {lv : mj_L} {i j : Nat} {v w : Value} (hj : j ≠ i) (hj2 : j ≠ i + 1) (hw : mj_get lv j = some w) (hc : j + 1 ≠ i ∨ w.category = 1) : mj_get (mj_put2 lv i v) j = some w := by
  unfold mj_put2
  rw [mj_get_cons_ne hj]
  refine mj_find_filter ?_ lv hw
  rcases hc with hc | hc
  · simp [hj, hj2, hc]
  · simp [hj, hj2, hc]
/-- keys alone are filtered -/
theorem ab_get_filter (K : Nat → Bool) (j : Nat) : ∀ al : ab_L, ab_get (al.filter (fun q => K q.1)) j = if K j = true then ab_get al j else none := by
  intro al
  induction al with
  | nil => split <;> rfl
  | cons q al ih =>
    obtain ⟨i, V⟩ := q
    rw [List.filter_cons]
    by_cases e : i = j
    · subst e
      dsimp only
      split
      · simp [ab_get]
      · rename_i hk
        rw [ih, if_neg hk]
    · have h1 : ∀ l : ab_L, ab_get ((i, V) :: l) j = ab_get l j := fun l => by
        simp only [ab_get, List.find?_cons]
        rw [show ((i, V).1 == j) = false by simpa using e]
      split
      · rw [h1, ih, h1]
      · rw [ih, h1]
theorem ab_get_cons_ne {al : ab_L} {i j : Nat} {V : ab_V} (h : j ≠ i) : ab_get ((i, V) :: al) j = ab_get al j := by
  simp only [ab_get, List.find?_cons]
  rw [show ((i, V).1 == j) = false by simpa using (Ne.symm h)]
theorem ab_get_self {al : ab_L} {i : Nat} {V : ab_V} : ab_get ((i, V) :: al) i = some V := by simp [ab_get]
/-- is the local below i a long -/
def ab_lg (al : ab_L) (i : Nat) : Bool := match ab_get al (i - 1) with
  | some V => V.1 == 1
  | none => false
def ab_put1 (al : ab_L) (i : Nat) (V : ab_V) : ab_L := (i, V) :: al.filter (fun q => !(q.1 == i) && !(q.1 + 1 == i && ab_lg al i))
def ab_put2 (al : ab_L) (i : Nat) (V : ab_V) : ab_L := (i, V) :: al.filter (fun q => !(q.1 == i) && (!(q.1 == i + 1) && !(q.1 + 1 == i && ab_lg al i)))
theorem ab_m_cat {ty : List Nat} {V : ab_V} {v : Value} (h : ab_m ty V v) (hk : ¬ V.1 = 1) : v.category = 1 := by
  rcases h with ⟨-, x, rfl, -⟩ | ⟨h, -⟩ | ⟨-, x, rfl, -⟩
  · rfl
  · exact absurd h hk
  · rfl
theorem ab_l_put1 {ty : List Nat} {al : ab_L} {lv : mj_L} {i : Nat} {V : ab_V} {v : Value} (hl : ab_l ty al lv) (hv : ab_m ty V v) : ab_l ty (ab_put1 al i V) (mj_put1 lv i v) := by
  intro j W h
  by_cases e : j = i
  · subst e
    unfold ab_put1 at h
    rw [ab_get_self] at h
    cases h
    exact ⟨v, mj_get_self, hv⟩
  · unfold ab_put1 at h
    rw [ab_get_cons_ne e, ab_get_filter (fun k => !(k == i) && !(k + 1 == i && ab_lg al i))] at h
    split at h
    · rename_i hk
      obtain ⟨w, h1, h2⟩ := hl j W h
      refine ⟨w, mj_get_put1 e h1 ?_, h2⟩
      by_cases e2 : j + 1 = i
      · refine Or.inr (ab_m_cat h2 ?_)
        subst e2
        simp only [ab_lg, Nat.add_sub_cancel, h] at hk
        simpa using hk
      · exact Or.inl e2
    · cases h
theorem ab_l_put2 {ty : List Nat} {al : ab_L} {lv : mj_L} {i : Nat} {V : ab_V} {v : Value} (hl : ab_l ty al lv) (hv : ab_m ty V v) : ab_l ty (ab_put2 al i V) (mj_put2 lv i v) := by
  intro j W h
  by_cases e : j = i
  · subst e
    unfold ab_put2 at h
    rw [ab_get_self] at h
    cases h
    exact ⟨v, mj_get_self, hv⟩
  · unfold ab_put2 at h
    rw [ab_get_cons_ne e, ab_get_filter (fun k => !(k == i) && (!(k == i + 1) && !(k + 1 == i && ab_lg al i)))] at h
    split at h
    · rename_i hk
      obtain ⟨w, h1, h2⟩ := hl j W h
      have e3 : j ≠ i + 1 := by
        intro q
        subst q
        simp at hk
      refine ⟨w, mj_get_put2 e e3 h1 ?_, h2⟩
      by_cases e2 : j + 1 = i
      · refine Or.inr (ab_m_cat h2 ?_)
        subst e2
        simp only [ab_lg, Nat.add_sub_cancel, h] at hk
        have := hk
        simp at this
        simpa using this.2
      · exact Or.inl e2
    · cases h
/-- origins that a store makes wrong are forgotten -/
def ab_clr (bad : List Nat) : List ab_V → Option (List ab_V)
  | [] => some []
  | V :: r => match ab_clr bad r with
    | some r' => if V.2.2.2 ∈ bad then (if V.1 = 4 then none else some ((V.1, V.2.1, V.2.2.1, 0) :: r')) else some (V :: r')
    | none => none
theorem ab_clr_ok {ty : List Nat} {lv lv' : mj_L} {bad : List Nat} (hb : ∀ o u, o ≠ 0 → o ∉ bad → mj_get lv (o - 1) = some u → mj_get lv' (o - 1) = some u) : ∀ (A A' : List ab_V) (st : List Value), ab_clr bad A = some A' → ab_st ty lv A st → ab_st ty lv' A' st := by
  intro A
  induction A with
  | nil =>
    intro A' st h hs
    cases h
    cases st with
    | nil => trivial
    | cons v r => exact absurd hs (by simp [ab_st])
  | cons V A ih =>
    intro A' st h hs
    obtain ⟨v, r, rfl, s1, hs1⟩ := ab_st_cons hs
    unfold ab_clr at h
    split at h
    · rename_i r' e
      have h2 := ih r' r e hs1
      split at h
      · split at h
        · cases h
        · rename_i hk
          cases h
          refine ⟨Or.inr ⟨?_, Or.inl rfl⟩, h2⟩
          rcases s1 with ⟨q, -⟩ | ⟨q, -⟩
          · exact absurd q hk
          · exact q
      · rename_i hnb
        cases h
        refine ⟨?_, h2⟩
        rcases s1 with ⟨q1, q2, x, y, u, q3, q4, q5⟩ | ⟨q, q2⟩
        · exact Or.inl ⟨q1, q2, x, y, u, q3, hb _ _ q2 hnb q4, q5⟩
        · refine Or.inr ⟨q, ?_⟩
          rcases q2 with q2 | ⟨u, z, e1, e2, e3⟩
          · exact Or.inl q2
          · by_cases ho : V.2.2.2 = 0
            · exact Or.inl ho
            · exact Or.inr ⟨u, z, hb _ _ ho hnb e1, e2, e3⟩
    · cases h
def ab_lo1 (i len want kd : Nat) (al : ab_L) (A : List ab_V) : Option (ab_L × List ab_V) :=
  if len = want then match ab_get al i with
    | some (k, l, u, _) => if k = kd then some (al, (k, l, u, if kd = 2 then 0 else i + 1) :: A) else none
    | none => none
  else none
def ab_st1 (i n len want kd : Nat) (al : ab_L) (A : List ab_V) : Option (ab_L × List ab_V) :=
  if len = want ∧ i < n then match A with
    | (k, l, u, _) :: r => if k = kd then match ab_clr [i + 1, i] r with
      | some r' => some (ab_put1 al i (k, l, u, 0), r')
      | none => none
      else none
    | _ => none
  else none
/-- bounds, and how much the local has grown (1000000 and that; 0: not known), behind iinc -/
def ab_inc (l u : Int) (o : Nat) (d : Int) : ab_V := (0, (ab_fit (ab_add (l, u) (d, d))).1, (ab_fit (ab_add (l, u) (d, d))).2, if o ≠ 0 ∧ -2147483648 ≤ l + d ∧ u + d ≤ 2147483647 then ((o : Int) + d).toNat else 0)
def ab_loc (ins : Instr) (len n : Nat) (al : ab_L) (A : List ab_V) : Option (ab_L × List ab_V) := match ins with
  | .iload_n k => ab_lo1 k len 1 0 al A
  | .iload i => ab_lo1 i len 2 0 al A
  | .lload_n k => ab_lo1 k len 1 1 al A
  | .lload i => ab_lo1 i len 2 1 al A
  | .aload_n k => ab_lo1 k len 1 2 al A
  | .aload i => ab_lo1 i len 2 2 al A
  | .istore_n k => ab_st1 k n len 1 0 al A
  | .istore i => ab_st1 i n len 2 0 al A
  | .astore_n k => ab_st1 k n len 1 2 al A
  | .astore i => ab_st1 i n len 2 2 al A
  | .lstore_n k => if len = 1 ∧ (k : Nat) + 1 < n then match A with
    | (kd, l, u, _) :: r => if kd = 1 then match ab_clr [(k : Nat) + 2, (k : Nat) + 1, (k : Nat)] r with
      | some r' => some (ab_put2 al k (1, l, u, 0), r')
      | none => none
      else none
    | _ => none
    else none
  | .iinc i d => if len = 3 ∧ i < n then match ab_get al i with
    | some (k, l, u, o) => if k = 0 then match ab_clr [i + 1, i] A with
      | some A' => some (ab_put1 al i (ab_inc l u o (Int32.ofInt d).toInt), A')
      | none => none
      else none
    | none => none
    else none
  | _ => none
theorem ab_m_0 {ty : List Nat} {l u : Int} {o : Nat} {v : Value} (h : ab_m ty (0, l, u, o) v) : ∃ x : Int32, v = .int x ∧ ab_i (l, u) x.toInt := by
  rcases h with ⟨-, h⟩ | ⟨h, -⟩ | ⟨h, -⟩
  · exact h
  · simp at h
  · simp at h
theorem ab_m_1 {ty : List Nat} {l u : Int} {o : Nat} {v : Value} (h : ab_m ty (1, l, u, o) v) : ∃ x : Int64, v = .long x ∧ ab_i (l, u) x.toInt := by
  rcases h with ⟨h, -⟩ | ⟨-, h⟩ | ⟨h, -⟩
  · simp at h
  · exact h
  · simp at h
theorem ab_m_2 {ty : List Nat} {l u : Int} {o : Nat} {v : Value} (h : ab_m ty (2, l, u, o) v) : ∃ a : Nat, v = .ref a ∧ ty[a]? = some l.toNat := by
  rcases h with ⟨h, -⟩ | ⟨h, -⟩ | ⟨-, h⟩
  · simp at h
  · simp at h
  · exact h
theorem ab_lo1_ok {ty : List Nat} {lv : mj_L} {i n len want kd : Nat} {al al' : ab_L} {A A' : List ab_V} {st : List Value} {ok : Value → Bool} (hok : ∀ l u o v, ab_m ty (kd, l, u, o) v → ok v = true) (hkd : kd = 0 ∨ kd = 1 ∨ kd = 2) (h : ab_lo1 i len want kd al A = some (al', A')) (hl : ab_l ty al lv) (hs : ab_st ty lv A st) : ∃ st', mj_lo1 i n len want lv st ok = some (lv, st') ∧ ab_l ty al' lv ∧ ab_st ty lv A' st' := by
  unfold ab_lo1 at h
  split at h
  · rename_i hlen
    split at h
    · rename_i k l u o e
      split at h
      · rename_i hk
        subst hk
        cases h
        obtain ⟨v, h1, h2⟩ := hl _ _ e
        refine ⟨v :: st, ?_, hl, Or.inr ⟨?_, ?_⟩, hs⟩
        · unfold mj_lo1
          rw [if_pos hlen, h1]
          dsimp only
          rw [if_pos (hok _ _ _ _ h2)]
        · rcases h2 with q | q | q
          · exact Or.inl q
          · exact Or.inr (Or.inl q)
          · exact Or.inr (Or.inr q)
        · dsimp only
          split
          · exact Or.inl rfl
          · rename_i h3
            have hz : ∃ z, ab_num v = some z := by
              rcases hkd with rfl | rfl | rfl
              · obtain ⟨x, rfl, -⟩ := ab_m_0 h2; exact ⟨_, rfl⟩
              · obtain ⟨x, rfl, -⟩ := ab_m_1 h2; exact ⟨_, rfl⟩
              · exact absurd rfl h3
            obtain ⟨z, hz⟩ := hz
            exact Or.inr ⟨v, z, h1, hz, hz⟩
      · cases h
    · cases h
  · cases h
theorem ab_st1_ok {ty : List Nat} {lv : mj_L} {i n len want kd : Nat} {al al' : ab_L} {A A' : List ab_V} {st : List Value} {ok : Value → Bool} (hok : ∀ l u o v, ab_m ty (kd, l, u, o) v → ok v = true) (hkd : kd = 0 ∨ kd = 1 ∨ kd = 2) (h : ab_st1 i n len want kd al A = some (al', A')) (hl : ab_l ty al lv) (hs : ab_st ty lv A st) : ∃ lv' st', mj_st1 i n len want lv st ok = some (lv', st') ∧ ab_l ty al' lv' ∧ ab_st ty lv' A' st' := by
  unfold ab_st1 at h
  split at h
  · rename_i hlen
    split at h
    · rename_i k l u o r
      split at h
      · rename_i hk
        subst hk
        split at h
        · rename_i r' e
          cases h
          obtain ⟨v, r0, rfl, s1, hs1⟩ := ab_st_cons hs
          have hm : ab_m ty (k, l, u, o) v := by
            rcases s1 with ⟨q, -⟩ | ⟨q, -⟩
            · dsimp only at q; omega
            · exact q
          have hm2 : ab_m ty (k, l, u, 0) v := by
            rcases hm with q | q | q
            · exact Or.inl q
            · exact Or.inr (Or.inl q)
            · exact Or.inr (Or.inr q)
          refine ⟨mj_put1 lv i v, r0, ?_, ab_l_put1 hl hm2, ab_clr_ok (fun o u ho hn hu => ?_) _ _ _ e hs1⟩
          · unfold mj_st1
            rw [if_pos hlen]
            dsimp only
            rw [if_pos (hok _ _ _ _ hm)]
          · simp at hn
            exact mj_get_put1 (by omega) hu (Or.inl (by omega))
        · cases h
      · cases h
    · cases h
  · cases h
set_option maxHeartbeats 2000000 in
theorem ab_loc_ok {ty : List Nat} {lv : mj_L} {ins : Instr} {len n : Nat} {al al' : ab_L} {A A' : List ab_V} {st : List Value} (h : ab_loc ins len n al A = some (al', A')) (hl : ab_l ty al lv) (hs : ab_st ty lv A st) : ∃ lv' st', mj_loc ins len n lv st = some (lv', st') ∧ ab_l ty al' lv' ∧ ab_st ty lv' A' st' := by
  have k0 : ∀ l u o v, ab_m ty (0, l, u, o) v → mj_isI v = true := fun l u o v q => by obtain ⟨x, rfl, -⟩ := ab_m_0 q; rfl
  have k1 : ∀ l u o v, ab_m ty (1, l, u, o) v → mj_isL v = true := fun l u o v q => by obtain ⟨x, rfl, -⟩ := ab_m_1 q; rfl
  have k2 : ∀ l u o v, ab_m ty (2, l, u, o) v → mj_isA v = true := fun l u o v q => by obtain ⟨x, rfl, -⟩ := ab_m_2 q; rfl
  have k3 : ∀ l u o v, ab_m ty (2, l, u, o) v → mj_isR v = true := fun l u o v q => by obtain ⟨x, rfl, -⟩ := ab_m_2 q; rfl
  cases ins with
  | iload_n i => simp only [ab_loc] at h; obtain ⟨st', e⟩ := ab_lo1_ok (n := n) k0 (by omega) h hl hs; exact ⟨lv, st', e⟩
  | iload i => simp only [ab_loc] at h; obtain ⟨st', e⟩ := ab_lo1_ok (n := n) k0 (by omega) h hl hs; exact ⟨lv, st', e⟩
  | lload_n i => simp only [ab_loc] at h; obtain ⟨st', e⟩ := ab_lo1_ok (n := n) k1 (by omega) h hl hs; exact ⟨lv, st', e⟩
  | lload i => simp only [ab_loc] at h; obtain ⟨st', e⟩ := ab_lo1_ok (n := n) k1 (by omega) h hl hs; exact ⟨lv, st', e⟩
  | aload_n i => simp only [ab_loc] at h; obtain ⟨st', e⟩ := ab_lo1_ok (n := n) k2 (by omega) h hl hs; exact ⟨lv, st', e⟩
  | aload i => simp only [ab_loc] at h; obtain ⟨st', e⟩ := ab_lo1_ok (n := n) k2 (by omega) h hl hs; exact ⟨lv, st', e⟩
  | istore_n i => simp only [ab_loc] at h; exact ab_st1_ok k0 (by omega) h hl hs
  | istore i => simp only [ab_loc] at h; exact ab_st1_ok k0 (by omega) h hl hs
  | astore_n i => simp only [ab_loc] at h; exact ab_st1_ok k3 (by omega) h hl hs
  | astore i => simp only [ab_loc] at h; exact ab_st1_ok k3 (by omega) h hl hs
  | lstore_n i =>
    simp only [ab_loc] at h
    split at h
    · rename_i hlen
      split at h
      · rename_i kd l u o r
        split at h
        · rename_i hk
          subst hk
          split at h
          · rename_i r' e
            cases h
            obtain ⟨v, r0, rfl, s1, hs1⟩ := ab_st_cons hs
            obtain ⟨x, rfl, hx, -⟩ := ab_s_1 s1
            refine ⟨mj_put2 lv i (.long x), r0, ?_, ab_l_put2 hl (Or.inr (Or.inl ⟨rfl, x, rfl, hx⟩)), ab_clr_ok (fun o u ho hn hu => ?_) _ _ _ e hs1⟩
            · simp only [mj_loc]
              rw [if_pos hlen]
            · simp at hn
              exact mj_get_put2 (by omega) (by omega) hu (Or.inl (by omega))
          · cases h
        · cases h
      · cases h
    · cases h
  | iinc i d =>
    simp only [ab_loc] at h
    split at h
    · rename_i hlen
      split at h
      · rename_i k l u o e0
        split at h
        · rename_i hk
          subst hk
          split at h
          · rename_i A0 e
            cases h
            obtain ⟨v, h1, h2⟩ := hl _ _ e0
            obtain ⟨x, rfl, hx⟩ := ab_m_0 h2
            refine ⟨mj_put1 lv i (.int (x + Int32.ofInt d)), st, ?_, ab_l_put1 hl (Or.inl ⟨rfl, _, rfl, ab_fit_ok (Int32.toInt_add x (Int32.ofInt d)) (ab_add_ok hx ⟨Int.le_refl _, Int.le_refl _⟩)⟩), ab_clr_ok (fun o u ho hn hu => ?_) _ _ _ e hs⟩
            · simp only [mj_loc]
              rw [if_pos hlen, h1]
            · simp at hn
              exact mj_get_put1 (by omega) hu (Or.inl (by omega))
          · cases h
        · cases h
      · cases h
    · cases h
  | _ => exact absurd (show (none : Option (ab_L × List ab_V)) = some (al', A') from h) (by simp)
end
section
/-! ABSTRACT BRANCHES: what a comparison tells of its operands -/
def ab_rel (c : ClassFile.Cond) (x y : Int) : Prop := match c with
  | .eq => x = y
  | .ne => ¬ x = y
  | .lt => x < y
  | .ge => y ≤ x
  | .gt => y < x
  | .le => x ≤ y
def ab_neg (c : ClassFile.Cond) : ClassFile.Cond := match c with
  | .eq => .ne
  | .ne => .eq
  | .lt => .ge
  | .ge => .lt
  | .gt => .le
  | .le => .gt
theorem ab_neg_rel {c : ClassFile.Cond} {x y : Int} (h : ¬ ab_rel c x y) : ab_rel (ab_neg c) x y := by
  cases c <;> simp only [ab_rel, ab_neg] at h ⊢ <;> omega
def ab_trim (p : ab_I) (k : Int) : ab_I := (if p.1 = k then k + 1 else p.1, if p.2 = k then k - 1 else p.2)
def ab_rf (c : ClassFile.Cond) (p q : ab_I) : ab_I × ab_I := match c with
  | .eq => ((max p.1 q.1, min p.2 q.2), (max p.1 q.1, min p.2 q.2))
  | .ne => (if q.1 = q.2 then ab_trim p q.1 else p, if p.1 = p.2 then ab_trim q p.1 else q)
  | .lt => ((p.1, min p.2 (q.2 - 1)), (max q.1 (p.1 + 1), q.2))
  | .ge => ((max p.1 q.1, p.2), (q.1, min q.2 p.2))
  | .gt => ((max p.1 (q.1 + 1), p.2), (q.1, min q.2 (p.2 - 1)))
  | .le => ((p.1, min p.2 q.2), (max q.1 p.1, q.2))
theorem ab_trim_ok {p : ab_I} {k x : Int} (h : ab_i p x) (hne : ¬ x = k) : ab_i (ab_trim p k) x := by
  obtain ⟨a, b⟩ := h
  unfold ab_i ab_trim
  constructor <;> simp only <;> split <;> omega
theorem ab_rf_ok {c : ClassFile.Cond} {p q : ab_I} {x y : Int} (hx : ab_i p x) (hy : ab_i q y) (h : ab_rel c x y) : ab_i (ab_rf c p q).1 x ∧ ab_i (ab_rf c p q).2 y := by
  cases c with
  | ne =>
    simp only [ab_rel] at h
    refine ⟨?_, ?_⟩
    · show ab_i (if q.1 = q.2 then ab_trim p q.1 else p) x
      split
      · rename_i e
        obtain ⟨c1, c2⟩ := hy
        exact ab_trim_ok hx (by omega)
      · exact hx
    · show ab_i (if p.1 = p.2 then ab_trim q p.1 else q) y
      split
      · rename_i e
        obtain ⟨c1, c2⟩ := hx
        exact ab_trim_ok hy (by omega)
      · exact hy
  | _ =>
    obtain ⟨a, b⟩ := hx
    obtain ⟨c1, c2⟩ := hy
    simp only [ab_rel] at h
    refine ⟨⟨?_, ?_⟩, ⟨?_, ?_⟩⟩ <;> simp only [ab_rf] <;> omega
/-- a bound for the local of an origin -/
def ab_upd (al : ab_L) (o : Nat) (p : ab_I) : ab_L := if o = 0 then al else al.map (fun q => if q.1 = o - 1 ∧ q.2.1 ≤ 1 then (q.1, (q.2.1, max q.2.2.1 p.1, min q.2.2.2.1 p.2, q.2.2.2.2)) else q)
theorem ab_get_map (F : Nat × ab_V → Nat × ab_V) (hF : ∀ q, (F q).1 = q.1) (j : Nat) : ∀ al : ab_L, ab_get (al.map F) j = (al.find? (fun q => q.1 == j)).map (fun q => (F q).2) := by
  intro al
  induction al with
  | nil => rfl
  | cons q al ih =>
    rw [List.map_cons]
    simp only [ab_get, List.find?_cons] at ih ⊢
    rw [hF q]
    by_cases e : q.1 = j
    · rw [show (q.1 == j) = true by simpa using e]
      rfl
    · rw [show (q.1 == j) = false by simpa using e]
      exact ih
theorem ab_upd_ok {ty : List Nat} {al : ab_L} {lv : mj_L} {o : Nat} {p : ab_I} (hl : ab_l ty al lv) (ho : o = 0 ∨ ∃ u z, mj_get lv (o - 1) = some u ∧ ab_num u = some z ∧ ab_i p z) : ab_l ty (ab_upd al o p) lv := by
  unfold ab_upd
  split
  · exact hl
  · rename_i hne
    rcases ho with q | ⟨u, z, e1, e2, e3⟩
    · exact absurd q hne
    · intro j V h
      rw [ab_get_map _ (fun q => by split <;> rfl)] at h
      obtain ⟨q, h1, h2⟩ := Option.map_eq_some_iff.mp h
      have hq : q.1 = j := by simpa using List.find?_some h1
      have hg : ab_get al j = some q.2 := by
        unfold ab_get
        rw [h1]
        rfl
      obtain ⟨v, g1, g2⟩ := hl j q.2 hg
      split at h2
      · rename_i hc
        have hj : j = o - 1 := by omega
        subst hj
        rw [e1] at g1
        cases g1
        refine ⟨u, e1, ?_⟩
        rw [← h2]
        rcases g2 with ⟨k1, x, rfl, k2⟩ | ⟨k1, x, rfl, k2⟩ | ⟨k1, -⟩
        · have hz : x.toInt = z := Option.some.inj e2
          refine Or.inl ⟨k1, x, rfl, ?_⟩
          obtain ⟨a, b⟩ := k2
          obtain ⟨c, d⟩ := e3
          constructor <;> simp only at * <;> omega
        · have hz : x.toInt = z := Option.some.inj e2
          refine Or.inr (Or.inl ⟨k1, x, rfl, ?_⟩)
          obtain ⟨a, b⟩ := k2
          obtain ⟨c, d⟩ := e3
          constructor <;> simp only at * <;> omega
        · omega
      · rw [← h2]
        exact ⟨v, g1, g2⟩
theorem ab_cmp_rel (c : ClassFile.Cond) (x y : Int32) : mj_cmp c x y = true ↔ ab_rel c x.toInt y.toInt := by
  cases c <;> simp only [mj_cmp, ab_rel, decide_eq_true_eq]
  · exact Int32.toInt_inj.symm
  · exact not_congr Int32.toInt_inj.symm
  · exact Int32.lt_iff_toInt_lt
  · exact Int32.le_iff_toInt_le
  · exact Int32.lt_iff_toInt_lt
  · exact Int32.le_iff_toInt_le
theorem ab_lcmp_rel (c : ClassFile.Cond) (x y : Int64) : mj_cmp c (lg_cmp x y) 0 = true ↔ ab_rel c x.toInt y.toInt := by
  rw [ab_cmp_rel, mj_lg_int rfl rfl, show (0 : Int32).toInt = 0 by decide]
  cases c <;> simp only [ab_rel] <;> (repeat' first | omega | split)
/-- one way out of a branch: none if nothing is left -/
def ab_way (pc : Nat) (al : ab_L) (o1 o2 : Nat) (pq : ab_I × ab_I) (A : List ab_V) : List (Nat × ab_L × List ab_V) :=
  if pq.1.1 ≤ pq.1.2 ∧ pq.2.1 ≤ pq.2.2 then [(pc, ab_upd (ab_upd al o1 pq.1) o2 pq.2, A)] else []
def ab_two (c : ClassFile.Cond) (t pc : Nat) (al : ab_L) (o1 o2 : Nat) (p q : ab_I) (A : List ab_V) : List (Nat × ab_L × List ab_V) :=
  ab_way t al o1 o2 (ab_rf c p q) A ++ ab_way (pc + 3) al o1 o2 (ab_rf (ab_neg c) p q) A
/-- the cases of a table between the bounds -/
def ab_cases (lo : Int) (offs : List Int) (pc : Nat) (al : ab_L) (o : Nat) (p : ab_I) (A : List ab_V) : Option (List (Nat × ab_L × List ab_V)) := match offs with
  | [] => some []
  | off :: r => match ab_cases (lo + 1) r pc al o p A with
    | none => none
    | some ws => if p.1 ≤ lo ∧ lo ≤ p.2 then match mj_to pc off with
      | some t => some ((t, ab_upd al o (lo, lo), A) :: ws)
      | none => none
      else some ws
/-- the pairs of a lookup -/
def ab_pairs (pc : Nat) (al : ab_L) (o : Nat) (A : List ab_V) : List (Int × Int) → Option (List (Nat × ab_L × List ab_V))
  | [] => some []
  | (a, off) :: r => match mj_to pc off, ab_pairs pc al o A r with
    | some t, some ws => some ((t, ab_upd al o (a, a), A) :: ws)
    | _, _ => none
def ab_br (ins : Instr) (len pc : Nat) (al : ab_L) (A : List ab_V) : Option (List (Nat × ab_L × List ab_V)) := match ins with
  | .goto off => if len = 3 then (mj_to pc off).map (fun t => [(t, al, A)]) else none
  | .ifCond c off => match A with
    | (k, l, u, o) :: r => if len = 3 then match mj_to pc off with
      | some t => if k = 0 then some (ab_two c t pc al o 0 (l, u) (0, 0) r) else if k = 4 then match ab_get al (o - 1) with
        | some (k2, l2, u2, _) => if k2 ≤ 1 then some (ab_two c t pc al o 0 (l2, u2) (l, u) r) else none
        | none => none
        else none
      | none => none
      else none
    | _ => none
  | .if_icmp c off => match A with
    | (k2, l2, u2, o2) :: (k1, l1, u1, o1) :: r => if len = 3 ∧ k1 = 0 ∧ k2 = 0 then match mj_to pc off with
      | some t => some (ab_two c t pc al o1 o2 (l1, u1) (l2, u2) r)
      | none => none
      else none
    | _ => none
  | .tableswitch d lo hi offs => match A with
    | (k, l, u, o) :: r => if k = 0 ∧ hi = lo + offs.size - 1 then match mj_to pc d, ab_cases lo offs.toList pc al o (l, u) r with
      | some t, some ws => some (if lo ≤ l ∧ u ≤ hi then ws else (t, al, r) :: ws)
      | _, _ => none
      else none
    | _ => none
  | .lookupswitch d ps => match A with
    | (k, _, _, o) :: r => if k = 0 ∧ (ps.toList.zip (ps.toList.drop 1)).all (fun (a, next) => a.1 < next.1) = true then match mj_to pc d, ab_pairs pc al o r ps.toList with
      | some t, some ws => some ((t, al, r) :: ws)
      | _, _ => none
      else none
    | _ => none
  | _ => none
theorem ab_way_ok {ty : List Nat} {lv : mj_L} {pc : Nat} {al : ab_L} {o1 o2 : Nat} {pq : ab_I × ab_I} {A : List ab_V} {x y : Int} (hl : ab_l ty al lv) (h1 : ab_i pq.1 x) (h2 : ab_i pq.2 y) (e1 : o1 = 0 ∨ ∃ u, mj_get lv (o1 - 1) = some u ∧ ab_num u = some x) (e2 : o2 = 0 ∨ ∃ u, mj_get lv (o2 - 1) = some u ∧ ab_num u = some y) : ∃ w ∈ ab_way pc al o1 o2 pq A, w.1 = pc ∧ w.2.2 = A ∧ ab_l ty w.2.1 lv := by
  unfold ab_way
  rw [if_pos ⟨Int.le_trans h1.1 h1.2, Int.le_trans h2.1 h2.2⟩]
  refine ⟨_, List.mem_singleton.mpr rfl, rfl, rfl, ?_⟩
  refine ab_upd_ok (ab_upd_ok hl ?_) ?_
  · rcases e1 with q | ⟨u, q1, q2⟩
    · exact Or.inl q
    · exact Or.inr ⟨u, x, q1, q2, h1⟩
  · rcases e2 with q | ⟨u, q1, q2⟩
    · exact Or.inl q
    · exact Or.inr ⟨u, y, q1, q2, h2⟩
theorem ab_two_ok {ty : List Nat} {lv : mj_L} {c : ClassFile.Cond} {t pc : Nat} {al : ab_L} {o1 o2 : Nat} {p q : ab_I} {A : List ab_V} {x y : Int} {X : Bool} (hX : X = true ↔ ab_rel c x y) (hl : ab_l ty al lv) (h1 : ab_i p x) (h2 : ab_i q y) (e1 : o1 = 0 ∨ ∃ u, mj_get lv (o1 - 1) = some u ∧ ab_num u = some x) (e2 : o2 = 0 ∨ ∃ u, mj_get lv (o2 - 1) = some u ∧ ab_num u = some y) : ∃ w ∈ ab_two c t pc al o1 o2 p q A, w.1 = (if X = true then t else pc + 3) ∧ w.2.2 = A ∧ ab_l ty w.2.1 lv := by
  by_cases hx : X = true
  · have hr := ab_rf_ok h1 h2 (hX.mp hx)
    obtain ⟨w, g1, g2, g3, g4⟩ := ab_way_ok (pc := t) (A := A) hl hr.1 hr.2 e1 e2
    exact ⟨w, List.mem_append_left _ g1, by rw [if_pos hx]; exact g2, g3, g4⟩
  · have hr := ab_rf_ok h1 h2 (ab_neg_rel (fun z => hx (hX.mpr z)))
    obtain ⟨w, g1, g2, g3, g4⟩ := ab_way_ok (pc := pc + 3) (A := A) hl hr.1 hr.2 e1 e2
    exact ⟨w, List.mem_append_right _ g1, by rw [if_neg hx]; exact g2, g3, g4⟩
theorem ab_o_num {lv : mj_L} {o : Nat} {x : Int32} (h : ab_o lv o (.int x)) : o = 0 ∨ ∃ u, mj_get lv (o - 1) = some u ∧ ab_num u = some x.toInt := by
  rcases h with q | ⟨u, z, e1, e2, e3⟩
  · exact Or.inl q
  · exact Or.inr ⟨u, e1, by rw [e2]; exact e3.symm⟩
theorem ab_cases_ok {ty : List Nat} {lv : mj_L} {pc : Nat} {al : ab_L} {o : Nat} {p : ab_I} {A : List ab_V} {x : Int} (hl : ab_l ty al lv) (h1 : ab_i p x) (e1 : o = 0 ∨ ∃ u, mj_get lv (o - 1) = some u ∧ ab_num u = some x) : ∀ (offs : List Int) (lo : Int) (ws : List (Nat × ab_L × List ab_V)), ab_cases lo offs pc al o p A = some ws → lo ≤ x → x < lo + offs.length → ∃ off t w, offs[(x - lo).toNat]? = some off ∧ mj_to pc off = some t ∧ w ∈ ws ∧ w.1 = t ∧ w.2.2 = A ∧ ab_l ty w.2.1 lv := by
  intro offs
  induction offs with
  | nil => intro lo ws h a b; simp at b; omega
  | cons off r ih =>
    intro lo ws h a b
    unfold ab_cases at h
    split at h
    · cases h
    · rename_i ws' e
      by_cases hx : x = lo
      · subst hx
        rw [if_pos (show p.1 ≤ x ∧ x ≤ p.2 from h1)] at h
        split at h
        · rename_i t ht
          cases h
          refine ⟨off, t, _, by simp, ht, List.mem_cons_self, rfl, rfl, ab_upd_ok hl ?_⟩
          rcases e1 with q | ⟨u, q1, q2⟩
          · exact Or.inl q
          · exact Or.inr ⟨u, x, q1, q2, Int.le_refl _, Int.le_refl _⟩
        · cases h
      · simp only [List.length_cons] at b
        obtain ⟨off', t, w, g1, g2, g3, g4⟩ := ih (lo + 1) ws' e (by omega) (by omega)
        have hi : (x - lo).toNat = (x - (lo + 1)).toNat + 1 := by omega
        refine ⟨off', t, w, by rw [hi, List.getElem?_cons_succ]; exact g1, g2, ?_, g4⟩
        split at h
        · split at h
          · cases h; exact List.mem_cons_of_mem _ g3
          · cases h
        · cases h; exact g3
theorem ab_pairs_ok {ty : List Nat} {lv : mj_L} {pc : Nat} {al : ab_L} {o : Nat} {A : List ab_V} {x d : Int} {td : Nat} (hl : ab_l ty al lv) (e1 : o = 0 ∨ ∃ u, mj_get lv (o - 1) = some u ∧ ab_num u = some x) (htd : mj_to pc d = some td) : ∀ (ps : List (Int × Int)) (ws : List (Nat × ab_L × List ab_V)), ab_pairs pc al o A ps = some ws → ∃ t, mj_to pc (Op.lookupswitch.offset ps d x) = some t ∧ ∃ w ∈ (td, al, A) :: ws, w.1 = t ∧ w.2.2 = A ∧ ab_l ty w.2.1 lv := by
  intro ps
  induction ps with
  | nil => intro ws h; exact ⟨td, htd, _, List.mem_cons_self, rfl, rfl, hl⟩
  | cons q ps ih =>
    intro ws h
    obtain ⟨a, off⟩ := q
    simp only [ab_pairs] at h
    split at h
    · rename_i t ws' ht e
      cases h
      by_cases hx : a = x
      · subst hx
        refine ⟨t, by simp only [Op.lookupswitch.offset]; rw [if_pos trivial]; exact ht, _, List.mem_cons_of_mem _ List.mem_cons_self, rfl, rfl, ab_upd_ok hl ?_⟩
        rcases e1 with q | ⟨u, q1, q2⟩
        · exact Or.inl q
        · exact Or.inr ⟨u, a, q1, q2, Int.le_refl _, Int.le_refl _⟩
      · obtain ⟨t', g1, w, g2, g3⟩ := ih ws' e
        refine ⟨t', by simp only [Op.lookupswitch.offset]; rw [if_neg hx]; exact g1, w, ?_, g3⟩
        rcases List.mem_cons.mp g2 with h | h
        · rw [h]; exact List.mem_cons_self
        · exact List.mem_cons_of_mem _ (List.mem_cons_of_mem _ h)
    · cases h
set_option maxHeartbeats 2000000 in
theorem ab_br_ok {ty : List Nat} {lv : mj_L} {ins : Instr} {len pc : Nat} {al : ab_L} {A : List ab_V} {st : List Value} {ws : List (Nat × ab_L × List ab_V)} (h : ab_br ins len pc al A = some ws) (hl : ab_l ty al lv) (hs : ab_st ty lv A st) : ∃ pc' st' w, mj_br ins len pc st = some (pc', st') ∧ w ∈ ws ∧ w.1 = pc' ∧ ab_l ty w.2.1 lv ∧ ab_st ty lv w.2.2 st' := by
  cases ins with
  | goto off =>
    simp only [ab_br] at h
    split at h
    · rename_i hlen
      cases ht : mj_to pc off with
      | none => rw [ht] at h; cases h
      | some t =>
        rw [ht] at h
        cases h
        exact ⟨t, st, _, by simp only [mj_br]; rw [if_pos hlen, ht]; rfl, List.mem_singleton.mpr rfl, rfl, hl, hs⟩
    · cases h
  | ifCond c off =>
    simp only [ab_br] at h
    split at h
    · rename_i k l u o r
      split at h
      · rename_i hlen
        split at h
        · rename_i t ht
          obtain ⟨v, r0, rfl, s1, hs1⟩ := ab_st_cons hs
          split at h
          · rename_i hk
            subst hk
            cases h
            obtain ⟨x, rfl, hx, hxo⟩ := ab_s_0 s1
            have h0 : (0 : Int32).toInt = 0 := by decide
            obtain ⟨w, g1, g2, g3, g4⟩ := ab_two_ok (t := t) (pc := pc) (A := r) (c := c) (y := 0) (q := (0, 0)) (o2 := 0) (X := mj_cmp c x 0) (by rw [ab_cmp_rel, h0]) hl hx ⟨Int.le_refl _, Int.le_refl _⟩ (ab_o_num hxo) (Or.inl rfl)
            refine ⟨_, r0, w, by simp only [mj_br]; rw [if_pos hlen, ht]; rfl, g1, g2, g4, by rw [g3]; exact hs1⟩
          · split at h
            · rename_i hk
              subst hk
              split at h
              · rename_i k2 l2 u2 o2 e0
                split at h
                · rename_i hk2
                  cases h
                  rcases s1 with ⟨-, q2, x, y, w0, q3, q4, q5, q6⟩ | ⟨⟨q, -⟩ | ⟨q, -⟩ | ⟨q, -⟩, -⟩
                  · subst q3
                    obtain ⟨v', f1, f2⟩ := hl _ _ e0
                    dsimp only at q4
                    rw [q4] at f1
                    cases f1
                    have hx : ab_i (l2, u2) x.toInt := by
                      rcases f2 with ⟨-, z, rfl, f3⟩ | ⟨-, z, rfl, f3⟩ | ⟨f3, -⟩
                      · have : z.toInt = x.toInt := Option.some.inj q5
                        rw [← this]; exact f3
                      · have : z.toInt = x.toInt := Option.some.inj q5
                        rw [← this]; exact f3
                      · dsimp only at f3; omega
                    obtain ⟨w, g1, g2, g3, g4⟩ := ab_two_ok (t := t) (pc := pc) (A := r) (c := c) (o2 := 0) (X := mj_cmp c (lg_cmp x y) 0) (ab_lcmp_rel c x y) hl hx q6 (Or.inr ⟨w0, q4, q5⟩) (Or.inl rfl)
                    refine ⟨_, r0, w, by simp only [mj_br]; rw [if_pos hlen, ht]; rfl, g1, g2, g4, by rw [g3]; exact hs1⟩
                  · simp at q
                  · simp at q
                  · simp at q
                · cases h
              · cases h
            · cases h
        · cases h
      · cases h
    · cases h
  | if_icmp c off =>
    simp only [ab_br] at h
    split at h
    · split at h
      · rename_i hlen
        obtain ⟨hlen, rfl, rfl⟩ := hlen
        split at h
        · rename_i t ht
          cases h
          obtain ⟨v2, r2, rfl, s2, hs2⟩ := ab_st_cons hs
          obtain ⟨v1, r1, rfl, s1, hs1⟩ := ab_st_cons hs2
          obtain ⟨y, rfl, hy, hyo⟩ := ab_s_0 s2
          obtain ⟨x, rfl, hx, hxo⟩ := ab_s_0 s1
          obtain ⟨w, g1, g2, g3, g4⟩ := ab_two_ok (t := t) (pc := pc) (c := c) (X := mj_cmp c x y) (ab_cmp_rel c x y) hl hx hy (ab_o_num hxo) (ab_o_num hyo)
          refine ⟨_, r1, w, by simp only [mj_br]; rw [if_pos hlen, ht]; rfl, g1, g2, g4, by rw [g3]; exact hs1⟩
        · cases h
      · cases h
    · cases h
  | tableswitch d lo hi offs =>
    simp only [ab_br] at h
    split at h
    · rename_i k l u o r
      split at h
      · rename_i hk
        obtain ⟨rfl, hhi⟩ := hk
        split at h
        · rename_i t ws0 ht e
          cases h
          obtain ⟨v, r0, rfl, s1, hs1⟩ := ab_st_cons hs
          obtain ⟨x, rfl, hx, hxo⟩ := ab_s_0 s1
          by_cases hin : x.toInt < lo ∨ hi < x.toInt
          · refine ⟨t, r0, (t, al, r), by simp only [mj_br]; rw [if_pos hin, ht]; rfl, ?_, rfl, hl, hs1⟩
            rw [if_neg (by obtain ⟨a, b⟩ := hx; simp only at a b; omega)]
            exact List.mem_cons_self
          · obtain ⟨off, t', w, g1, g2, g3, g4, g5, g6⟩ := ab_cases_ok hl hx (ab_o_num hxo) _ _ _ e (by omega) (by rw [Array.length_toList]; omega)
            rw [Array.getElem?_toList] at g1
            refine ⟨t', r0, w, by simp only [mj_br]; rw [if_neg hin, g1]; dsimp only; rw [g2]; rfl, ?_, g4, g6, by rw [g5]; exact hs1⟩
            split
            · exact g3
            · exact List.mem_cons_of_mem _ g3
        · cases h
      · cases h
    · cases h
  | lookupswitch d ps =>
    simp only [ab_br] at h
    split at h
    · rename_i k l u o r
      split at h
      · rename_i hk
        obtain ⟨rfl, hp⟩ := hk
        split at h
        · rename_i t ws0 ht e
          cases h
          obtain ⟨v, r0, rfl, s1, hs1⟩ := ab_st_cons hs
          obtain ⟨x, rfl, hx, hxo⟩ := ab_s_0 s1
          obtain ⟨t', g1, w, g2, g3, g4, g5⟩ := ab_pairs_ok hl (ab_o_num hxo) ht _ _ e
          refine ⟨t', r0, w, by simp only [mj_br]; rw [if_pos hp, g1]; rfl, g2, g3, g5, by rw [g4]; exact hs1⟩
        · cases h
      · cases h
    · cases h
  | _ => exact absurd (show (none : Option (List (Nat × ab_L × List ab_V))) = some ws from h) (by simp)
end
section
/-! ABSTRACT HEAP: a type for each cell (its kind, its length, bounds of its elements, in turn) -/
abbrev ab_T : Type := List (Nat × Nat × List ab_V)
def ab_el (es : List ab_V) (i : Nat) : ab_V := es.getD (i % es.length) (9, 0, 0, 0)
def ab_H (ty : List Nat) (T : ab_T) (h : mj_H) : Prop := h.length = ty.length ∧ ∀ (a t : Nat), ty[a]? = some t → ∃ (tag len : Nat) (es : List ab_V) (xs : List Value), T[t]? = some (tag, len, es) ∧ h[a]? = some (tag, xs) ∧ xs.length = len ∧ ∀ (i : Nat) (v : Value), xs[i]? = some v → ab_m ty (ab_el es i) v
def ab_le (V W : ab_V) : Bool := decide (V.1 = W.1) && (if V.1 = 2 then decide (V.2.1 = W.2.1) else decide (W.2.1 ≤ V.2.1) && decide (V.2.2.1 ≤ W.2.2.1))
theorem ab_le_ok {ty : List Nat} {V W : ab_V} {v : Value} (h : ab_le V W = true) (hv : ab_m ty V v) : ab_m ty W v := by
  unfold ab_le at h
  rw [Bool.and_eq_true, decide_eq_true_eq] at h
  obtain ⟨h1, h2⟩ := h
  rcases hv with ⟨k, x, e, a, b⟩ | ⟨k, x, e, a, b⟩ | ⟨k, x, e, a⟩
  · rw [if_neg (by omega), Bool.and_eq_true, decide_eq_true_eq, decide_eq_true_eq] at h2
    exact Or.inl ⟨by omega, x, e, by constructor <;> simp only at * <;> omega⟩
  · rw [if_neg (by omega), Bool.and_eq_true, decide_eq_true_eq, decide_eq_true_eq] at h2
    exact Or.inr (Or.inl ⟨by omega, x, e, by constructor <;> simp only at * <;> omega⟩)
  · rw [if_pos k, decide_eq_true_eq] at h2
    exact Or.inr (Or.inr ⟨by omega, x, e, by rw [a, h2]⟩)
theorem ab_m_o {ty : List Nat} {V : ab_V} {v : Value} (o : Nat) (h : ab_m ty V v) : ab_m ty (V.1, V.2.1, V.2.2.1, o) v := by
  rcases h with q | q | q
  · exact Or.inl q
  · exact Or.inr (Or.inl q)
  · exact Or.inr (Or.inr q)
theorem ab_s_m {ty : List Nat} {lv : mj_L} {V : ab_V} {v : Value} (h : ab_s ty lv V v) (hk : V.1 ≠ 4) : ab_m ty V v := by
  rcases h with ⟨q, -⟩ | ⟨q, -⟩
  · exact absurd q hk
  · exact q
theorem ab_s_of {ty : List Nat} {lv : mj_L} {V : ab_V} {v : Value} (h : ab_m ty V v) : ab_s ty lv (V.1, V.2.1, V.2.2.1, 0) v := Or.inr ⟨ab_m_o 0 h, Or.inl rfl⟩
theorem ab_H.set {ty : List Nat} {T : ab_T} {h : mj_H} {a t tag len k : Nat} {es : List ab_V} {xs : List Value} {v : Value} (hH : ab_H ty T h) (h1 : ty[a]? = some t) (h2 : T[t]? = some (tag, len, es)) (h3 : h[a]? = some (tag, xs)) (hv : ab_m ty (ab_el es k) v) : ab_H ty T (h.set a (tag, xs.set k v)) := by
  refine ⟨by rw [List.length_set]; exact hH.1, fun a' t' e => ?_⟩
  obtain ⟨tag', len', es', xs', g1, g2, g3, g4⟩ := hH.2 a' t' e
  by_cases q : a' = a
  · subst q
    rw [h1] at e
    cases e
    rw [h2] at g1
    cases g1
    rw [h3] at g2
    cases g2
    have hlt : a' < h.length := (List.getElem?_eq_some_iff.mp h3).1
    refine ⟨tag, len, es, xs.set k v, h2, by rw [List.getElem?_set_self hlt], by rw [List.length_set]; exact g3, fun i w hw => ?_⟩
    by_cases e2 : i = k
    · subst e2
      have hl : i < xs.length := by
        have := (List.getElem?_eq_some_iff.mp hw).1
        rw [List.length_set] at this
        exact this
      rw [List.getElem?_set_self hl] at hw
      cases hw
      exact hv
    · rw [List.getElem?_set_ne (Ne.symm e2)] at hw
      exact g4 i w hw
  · exact ⟨tag', len', es', xs', g1, by rw [List.getElem?_set_ne (Ne.symm q)]; exact g2, g3, g4⟩
/-- bounds of the elements from l on, n more -/
def ab_join (V W : ab_V) : ab_V := if V.1 = W.1 ∧ (V.1 ≤ 1 ∨ V.2.1 = W.2.1) then (V.1, min V.2.1 W.2.1, max V.2.2.1 W.2.2.1, 0) else (9, 0, 0, 0)
def ab_rng (es : List ab_V) (l : Nat) : Nat → ab_V
  | 0 => ab_el es l
  | n + 1 => ab_join (ab_rng es l n) (ab_el es (l + n + 1))
def ab_rngq (es : List ab_V) (l n : Nat) : ab_V := if es.length = 1 then ab_el es 0 else ab_rng es l n
def ab_all (es : List ab_V) (V : ab_V) (l : Nat) : Nat → Bool
  | 0 => ab_le V (ab_el es l)
  | n + 1 => ab_all es V l n && ab_le V (ab_el es (l + n + 1))
def ab_allq (es : List ab_V) (V : ab_V) (l n : Nat) : Bool := if es.length = 1 then ab_le V (ab_el es 0) else ab_all es V l n
theorem ab_join_l {ty : List Nat} {V W : ab_V} {v : Value} (hk : (ab_join V W).1 ≠ 9) (h : ab_m ty V v) : ab_m ty (ab_join V W) v := by
  unfold ab_join at hk ⊢
  split
  · rename_i hc
    rcases h with ⟨k, x, e, a, b⟩ | ⟨k, x, e, a, b⟩ | ⟨k, x, e, a⟩
    · exact Or.inl ⟨k, x, e, by constructor <;> simp only at * <;> omega⟩
    · exact Or.inr (Or.inl ⟨k, x, e, by constructor <;> simp only at * <;> omega⟩)
    · refine Or.inr (Or.inr ⟨k, x, e, ?_⟩)
      have : V.2.1 = W.2.1 := by omega
      dsimp only
      rw [a, ← this, Int.min_self]
  · rename_i hc
    rw [if_neg hc] at hk
    exact absurd rfl hk
theorem ab_join_r {ty : List Nat} {V W : ab_V} {v : Value} (hk : (ab_join V W).1 ≠ 9) (h : ab_m ty W v) : ab_m ty (ab_join V W) v := by
  unfold ab_join at hk ⊢
  split
  · rename_i hc
    rcases h with ⟨k, x, e, a, b⟩ | ⟨k, x, e, a, b⟩ | ⟨k, x, e, a⟩
    · exact Or.inl ⟨by dsimp only; omega, x, e, by constructor <;> simp only at * <;> omega⟩
    · exact Or.inr (Or.inl ⟨by dsimp only; omega, x, e, by constructor <;> simp only at * <;> omega⟩)
    · refine Or.inr (Or.inr ⟨by dsimp only; omega, x, e, ?_⟩)
      have : V.2.1 = W.2.1 := by omega
      dsimp only
      rw [a, this, Int.min_self]
  · rename_i hc
    rw [if_neg hc] at hk
    exact absurd rfl hk
theorem ab_m_9 {ty : List Nat} {V : ab_V} {v : Value} (h : ab_m ty V v) : V.1 ≠ 9 := by
  rcases h with ⟨k, -⟩ | ⟨k, -⟩ | ⟨k, -⟩ <;> omega
theorem ab_rng_ok {ty : List Nat} {es : List ab_V} {l : Nat} {v : Value} : ∀ n i, l ≤ i → i ≤ l + n → (ab_rng es l n).1 ≠ 9 → ab_m ty (ab_el es i) v → ab_m ty (ab_rng es l n) v := by
  intro n
  induction n with
  | zero =>
    intro i h1 h2 _ h
    have e : i = l := by omega
    subst e
    exact h
  | succ n ih =>
    intro i h1 h2 hk h
    by_cases e : i = l + n + 1
    · subst e
      exact ab_join_r hk h
    · refine ab_join_l hk (ih i h1 (by omega) ?_ h)
      intro q
      apply hk
      show (ab_join (ab_rng es l n) (ab_el es (l + n + 1))).1 = 9
      unfold ab_join
      split
      · exact q
      · rfl
theorem ab_el_1 {es : List ab_V} (h : es.length = 1) (i : Nat) : ab_el es i = ab_el es 0 := by
  unfold ab_el
  rw [h, Nat.mod_one, Nat.mod_one]
theorem ab_rngq_ok {ty : List Nat} {es : List ab_V} {l n i : Nat} {v : Value} (h1 : l ≤ i) (h2 : i ≤ l + n) (hk : (ab_rngq es l n).1 ≠ 9) (h : ab_m ty (ab_el es i) v) : ab_m ty (ab_rngq es l n) v := by
  unfold ab_rngq at hk ⊢
  split
  · rename_i e
    rw [← ab_el_1 e i]
    exact h
  · rename_i e
    rw [if_neg e] at hk
    exact ab_rng_ok n i h1 h2 hk h
theorem ab_all_ok {es : List ab_V} {V : ab_V} {l : Nat} : ∀ n i, l ≤ i → i ≤ l + n → ab_all es V l n = true → ab_le V (ab_el es i) = true := by
  intro n
  induction n with
  | zero =>
    intro i h1 h2 h
    have e : i = l := by omega
    subst e
    exact h
  | succ n ih =>
    intro i h1 h2 h
    unfold ab_all at h
    rw [Bool.and_eq_true] at h
    by_cases e : i = l + n + 1
    · subst e
      exact h.2
    · exact ih i h1 (by omega) h.1
theorem ab_allq_ok {es : List ab_V} {V : ab_V} {l n i : Nat} (h1 : l ≤ i) (h2 : i ≤ l + n) (h : ab_allq es V l n = true) : ab_le V (ab_el es i) = true := by
  unfold ab_allq at h
  split at h
  · rename_i e
    rw [ab_el_1 e i]
    exact h
  · exact ab_all_ok n i h1 h2 h
/-- a field -/
def ab_gf (T : ab_T) (M : mj_M) (idx : Nat) (A : List ab_V) : Option (List ab_V) := match mj_ent M idx, A with
  | some (_, kd, ci, k), (kk, t, _, _) :: r => match T[t.toNat]? with
    | some (tag, len, es) => if kd ≤ 1 ∧ kk = 2 ∧ tag = ci ∧ ci < 11 ∧ k < len then some (((ab_el es k).1, (ab_el es k).2.1, (ab_el es k).2.2.1, 0) :: r) else none
    | none => none
  | _, _ => none
theorem ab_gf_ok {ty : List Nat} {T : ab_T} {lv : mj_L} {h : mj_H} {M : mj_M} {idx : Nat} {A A' : List ab_V} {st : List Value} (hH : ab_H ty T h) (hg : ab_gf T M idx A = some A') (hs : ab_st ty lv A st) : ∃ st', mj_gf M idx st h = some st' ∧ ab_st ty lv A' st' := by
  unfold ab_gf at hg
  split at hg
  · rename_i z kd ci k kk t z1 z2 r he
    split at hg
    · rename_i tag len es hT
      split at hg
      · rename_i hc
        obtain ⟨c1, rfl, rfl, c4, c5⟩ := hc
        cases hg
        obtain ⟨v, r0, rfl, s1, hs1⟩ := ab_st_cons hs
        obtain ⟨a, rfl, ha⟩ := ab_s_2 s1
        obtain ⟨tag', len', es', xs, g1, g2, g3, g4⟩ := hH.2 a _ ha
        rw [hT] at g1
        cases g1
        have hv : xs[k]? = some xs[k] := List.getElem?_eq_getElem (by omega)
        refine ⟨xs[k] :: r0, ?_, ab_s_of (g4 k _ hv), hs1⟩
        unfold mj_gf
        rw [he]
        dsimp only
        rw [if_pos c1, g2]
        dsimp only
        rw [if_pos ⟨rfl, c4⟩, hv]
      · cases hg
    · cases hg
  · cases hg
/-- an int or a truth into a field -/
def ab_pf (T : ab_T) (M : mj_M) (idx : Nat) (A : List ab_V) : Option (List ab_V) := match mj_ent M idx, A with
  | some (_, kd, ci, k), (k0, l0, u0, _) :: (kk, t, _, _) :: r => match T[t.toNat]? with
    | some (tag, len, es) => if kd ≤ 1 ∧ kk = 2 ∧ tag = ci ∧ ci < 11 ∧ k < len ∧ k0 = 0 ∧ mj_fin ci k = false ∧ (mj_ty ci k = .int ∨ (mj_ty ci k = .boolean ∧ 0 ≤ l0 ∧ u0 ≤ 1)) ∧ ab_le (0, l0, u0, 0) (ab_el es k) = true then some r else none
    | none => none
  | _, _ => none
theorem ab_01 {x : Int32} (h1 : 0 ≤ x.toInt) (h2 : x.toInt ≤ 1) : x = 0 ∨ x = 1 := by
  by_cases h : x.toInt = 0
  · exact Or.inl (Int32.toInt_inj.mp (by rw [h]; decide))
  · exact Or.inr (Int32.toInt_inj.mp (by rw [show (1 : Int32).toInt = 1 by decide]; omega))
theorem ab_pf_ok {ty : List Nat} {T : ab_T} {lv : mj_L} {h : mj_H} {M : mj_M} {idx : Nat} {A A' : List ab_V} {st : List Value} (hH : ab_H ty T h) (hg : ab_pf T M idx A = some A') (hs : ab_st ty lv A st) : ∃ st' h', mj_pf M idx st h = some (st', h') ∧ ab_st ty lv A' st' ∧ ab_H ty T h' := by
  unfold ab_pf at hg
  split at hg
  · rename_i z kd ci k k0 l0 u0 z0 kk t z1 z2 r he
    split at hg
    · rename_i tag len es hT
      split at hg
      · rename_i hc
        obtain ⟨c1, rfl, rfl, c4, c5, rfl, c7, c8, c9⟩ := hc
        cases hg
        obtain ⟨v, r0, rfl, s1, hs1⟩ := ab_st_cons hs
        obtain ⟨w, r1, rfl, s2, hs2⟩ := ab_st_cons hs1
        obtain ⟨x, rfl, hx, -⟩ := ab_s_0 s1
        obtain ⟨a, rfl, ha⟩ := ab_s_2 s2
        obtain ⟨tag', len', es', xs, g1, g2, g3, g4⟩ := hH.2 a _ ha
        rw [hT] at g1
        cases g1
        refine ⟨r1, h.set a (tag, xs.set k (.int x)), ?_, hs2, hH.set ha hT g2 (ab_le_ok c9 (Or.inl ⟨rfl, x, rfl, hx⟩))⟩
        have hn : narrow (mj_ty tag k) (.int x) = .int x ∧ fits (mj_ty tag k) (.int x) = true := by
          rcases c8 with c8 | ⟨c8, c81, c82⟩
          · rw [c8]; exact ⟨rfl, rfl⟩
          · rw [c8]
            obtain ⟨a1, b1⟩ := hx
            simp only at a1 b1
            rcases ab_01 (x := x) (by omega) (by omega) with rfl | rfl
            · exact ⟨by decide, by decide⟩
            · exact ⟨by decide, by decide⟩
        unfold mj_pf
        rw [he]
        dsimp only
        rw [if_pos c1, g2]
        dsimp only
        rw [if_pos ⟨rfl, c4, by omega, hn.1, hn.2, Or.inl c7⟩]
      · cases hg
    · cases hg
  · cases hg
/-- an element of an array of kind tg -/
def ab_ald (T : ab_T) (tg : Nat) (A : List ab_V) : Option (List ab_V) := match A with
  | (k, l, u, _) :: (kk, t, _, _) :: r => match T[t.toNat]? with
    | some (tag, len, es) => if k = 0 ∧ kk = 2 ∧ tag = tg ∧ 0 ≤ l ∧ u < len ∧ (ab_rngq es l.toNat (u - l).toNat).1 ≤ 2 then some (((ab_rngq es l.toNat (u - l).toNat).1, (ab_rngq es l.toNat (u - l).toNat).2.1, (ab_rngq es l.toNat (u - l).toNat).2.2.1, 0) :: r) else none
    | none => none
  | _ => none
theorem ab_ald_ok {ty : List Nat} {T : ab_T} {lv : mj_L} {h : mj_H} {tg : Nat} {A A' : List ab_V} {st : List Value} {sc : Option (List Int32)} (hH : ab_H ty T h) (hg : ab_ald T tg A = some A') (hs : ab_st ty lv A st) : ∃ st', mj_ald tg sc st h = some st' ∧ ab_st ty lv A' st' := by
  unfold ab_ald at hg
  split at hg
  · rename_i k l u z kk t z1 z2 r
    split at hg
    · rename_i tag len es hT
      split at hg
      · rename_i hc
        obtain ⟨rfl, rfl, rfl, c4, c5, c6⟩ := hc
        cases hg
        obtain ⟨v, r0, rfl, s1, hs1⟩ := ab_st_cons hs
        obtain ⟨w, r1, rfl, s2, hs2⟩ := ab_st_cons hs1
        obtain ⟨j, rfl, hj, -⟩ := ab_s_0 s1
        obtain ⟨a, rfl, ha⟩ := ab_s_2 s2
        obtain ⟨tag', len', es', xs, g1, g2, g3, g4⟩ := hH.2 a _ ha
        rw [hT] at g1
        cases g1
        obtain ⟨a1, b1⟩ := hj
        simp only at a1 b1
        have hj0 : ¬ j < 0 := fun q => by
          have := Int32.lt_iff_toInt_lt.mp q
          rw [show (0 : Int32).toInt = 0 by decide] at this
          omega
        have hjn := mj_nn j hj0
        have hv : xs[j.toNatClampNeg]? = some (xs[j.toNatClampNeg]'(by omega)) := List.getElem?_eq_getElem (by omega)
        refine ⟨xs[j.toNatClampNeg]'(by omega) :: r1, ?_, ab_s_of (ab_rngq_ok (i := j.toNatClampNeg) (by omega) (by omega) (by omega) (g4 _ _ hv)), hs2⟩
        unfold mj_ald
        dsimp only
        rw [g2]
        dsimp only
        rw [if_pos ⟨rfl, hj0⟩, hv]
      · cases hg
    · cases hg
  · cases hg
/-- an int into an array of kind tg: 100, or truths into 102 -/
def ab_ast (T : ab_T) (tg : Nat) (A : List ab_V) : Option (List ab_V) := match A with
  | (k0, l0, u0, _) :: (k, l, u, _) :: (kk, t, _, _) :: r => match T[t.toNat]? with
    | some (tag, len, es) => if k0 = 0 ∧ k = 0 ∧ kk = 2 ∧ tag = tg ∧ 0 ≤ l ∧ u < len ∧ (tg = 100 ∨ (tg = 102 ∧ 0 ≤ l0 ∧ u0 ≤ 1)) ∧ ab_allq es (0, l0, u0, 0) l.toNat (u - l).toNat = true then some r else none
    | none => none
  | _ => none
theorem ab_ast_ok {ty : List Nat} {T : ab_T} {lv : mj_L} {h : mj_H} {tg : Nat} {A A' : List ab_V} {st : List Value} (hH : ab_H ty T h) (hg : ab_ast T tg A = some A') (hs : ab_st ty lv A st) : ∃ st' h', mj_ast tg st h = some (st', h') ∧ ab_st ty lv A' st' ∧ ab_H ty T h' := by
  unfold ab_ast at hg
  split at hg
  · rename_i k0 l0 u0 z0 k l u z kk t z1 z2 r
    split at hg
    · rename_i tag len es hT
      split at hg
      · rename_i hc
        obtain ⟨rfl, rfl, rfl, rfl, c4, c5, c6, c7⟩ := hc
        cases hg
        obtain ⟨v0, r9, rfl, s0, hs0⟩ := ab_st_cons hs
        obtain ⟨v, r0, rfl, s1, hs1⟩ := ab_st_cons hs0
        obtain ⟨w, r1, rfl, s2, hs2⟩ := ab_st_cons hs1
        obtain ⟨x, rfl, hx, -⟩ := ab_s_0 s0
        obtain ⟨j, rfl, hj, -⟩ := ab_s_0 s1
        obtain ⟨a, rfl, ha⟩ := ab_s_2 s2
        obtain ⟨tag', len', es', xs, g1, g2, g3, g4⟩ := hH.2 a _ ha
        rw [hT] at g1
        cases g1
        obtain ⟨a1, b1⟩ := hj
        simp only at a1 b1
        have hj0 : ¬ j < 0 := fun q => by
          have := Int32.lt_iff_toInt_lt.mp q
          rw [show (0 : Int32).toInt = 0 by decide] at this
          omega
        have hjn := mj_nn j hj0
        have hnar : narrow (mj_elt tag) (.int x) = .int x := by
          rcases c6 with rfl | ⟨rfl, c61, c62⟩
          · rfl
          · obtain ⟨a2, b2⟩ := hx
            simp only at a2 b2
            rcases ab_01 (x := x) (by omega) (by omega) with rfl | rfl <;> decide
        refine ⟨r1, h.set a (tag, xs.set j.toNatClampNeg (.int x)), ?_, hs2, hH.set ha hT g2 (ab_le_ok (ab_allq_ok (i := j.toNatClampNeg) (by omega) (by omega) c7) (Or.inl ⟨rfl, x, rfl, hx⟩))⟩
        unfold mj_ast
        dsimp only
        rw [g2]
        dsimp only
        rw [if_pos ⟨rfl, hj0, by omega⟩, hnar]
      · cases hg
    · cases hg
  · cases hg
end
section
/-! HOW LOCALS HAVE GROWN since a cut -/
def ab_dl (lv0 : mj_L) (al : ab_L) (lv : mj_L) : Prop := ∀ (i : Nat) (V : ab_V), ab_get al i = some V → V.2.2.2 ≠ 0 → ∃ u0 z0 u z, mj_get lv0 i = some u0 ∧ ab_num u0 = some z0 ∧ mj_get lv i = some u ∧ ab_num u = some z ∧ z = z0 + ((V.2.2.2 : Int) - 1000000)
theorem ab_dl_put1 {lv0 : mj_L} {al : ab_L} {lv : mj_L} {i : Nat} {V : ab_V} {v : Value} {ty : List Nat} (hl : ab_l ty al lv) (hd : ab_dl lv0 al lv) (hv : V.2.2.2 ≠ 0 → ∃ u0 z0 z, mj_get lv0 i = some u0 ∧ ab_num u0 = some z0 ∧ ab_num v = some z ∧ z = z0 + ((V.2.2.2 : Int) - 1000000)) : ab_dl lv0 (ab_put1 al i V) (mj_put1 lv i v) := by
  intro j W h hW
  by_cases e : j = i
  · subst e
    unfold ab_put1 at h
    rw [ab_get_self] at h
    cases h
    obtain ⟨u0, z0, z, e1, e2, e3, e4⟩ := hv hW
    exact ⟨u0, z0, v, z, e1, e2, mj_get_self, e3, e4⟩
  · unfold ab_put1 at h
    rw [ab_get_cons_ne e, ab_get_filter (fun k => !(k == i) && !(k + 1 == i && ab_lg al i))] at h
    split at h
    · rename_i hk
      obtain ⟨u0, z0, u, z, e1, e2, e3, e4, e5⟩ := hd j W h hW
      obtain ⟨w, h1, h2⟩ := hl j W h
      rw [e3] at h1
      cases h1
      refine ⟨u0, z0, u, z, e1, e2, mj_get_put1 e e3 ?_, e4, e5⟩
      by_cases e2 : j + 1 = i
      · refine Or.inr (ab_m_cat h2 ?_)
        subst e2
        simp only [ab_lg, Nat.add_sub_cancel, h] at hk
        simpa using hk
      · exact Or.inl e2
    · cases h
theorem ab_dl_put2 {lv0 : mj_L} {al : ab_L} {lv : mj_L} {i : Nat} {V : ab_V} {v : Value} {ty : List Nat} (hl : ab_l ty al lv) (hd : ab_dl lv0 al lv) (hv : V.2.2.2 = 0) : ab_dl lv0 (ab_put2 al i V) (mj_put2 lv i v) := by
  intro j W h hW
  by_cases e : j = i
  · subst e
    unfold ab_put2 at h
    rw [ab_get_self] at h
    cases h
    exact absurd hv hW
  · unfold ab_put2 at h
    rw [ab_get_cons_ne e, ab_get_filter (fun k => !(k == i) && (!(k == i + 1) && !(k + 1 == i && ab_lg al i)))] at h
    split at h
    · rename_i hk
      obtain ⟨u0, z0, u, z, e1, e2, e3, e4, e5⟩ := hd j W h hW
      obtain ⟨w, h1, h2⟩ := hl j W h
      rw [e3] at h1
      cases h1
      have e9 : j ≠ i + 1 := by
        intro q
        subst q
        simp at hk
      refine ⟨u0, z0, u, z, e1, e2, mj_get_put2 e e9 e3 ?_, e4, e5⟩
      by_cases e2 : j + 1 = i
      · refine Or.inr (ab_m_cat h2 ?_)
        subst e2
        simp only [ab_lg, Nat.add_sub_cancel, h] at hk
        have := hk
        simp at this
        simpa using this.2
      · exact Or.inl e2
    · cases h
theorem ab_dl_upd {lv0 : mj_L} {al : ab_L} {lv : mj_L} {o : Nat} {p : ab_I} (hd : ab_dl lv0 al lv) : ab_dl lv0 (ab_upd al o p) lv := by
  unfold ab_upd
  split
  · exact hd
  · intro j V h hV
    rw [ab_get_map _ (fun q => by split <;> rfl)] at h
    obtain ⟨q, h1, h2⟩ := Option.map_eq_some_iff.mp h
    have hg : ab_get al j = some q.2 := by
      unfold ab_get
      rw [h1]
      rfl
    have ho : V.2.2.2 = q.2.2.2.2 := by
      split at h2 <;> rw [← h2]
    obtain ⟨u0, z0, u, z, e⟩ := hd j q.2 hg (by rw [← ho]; exact hV)
    exact ⟨u0, z0, u, z, by rw [ho]; exact e⟩
theorem ab_way_dl {lv0 lv : mj_L} {pc : Nat} {al : ab_L} {o1 o2 : Nat} {pq : ab_I × ab_I} {A : List ab_V} (hd : ab_dl lv0 al lv) : ∀ w ∈ ab_way pc al o1 o2 pq A, ab_dl lv0 w.2.1 lv := by
  intro w hw
  unfold ab_way at hw
  split at hw
  · rw [List.mem_singleton.mp hw]
    exact ab_dl_upd (ab_dl_upd hd)
  · cases hw
theorem ab_two_dl {lv0 lv : mj_L} {c : ClassFile.Cond} {t pc : Nat} {al : ab_L} {o1 o2 : Nat} {p q : ab_I} {A : List ab_V} (hd : ab_dl lv0 al lv) : ∀ w ∈ ab_two c t pc al o1 o2 p q A, ab_dl lv0 w.2.1 lv := by
  intro w hw
  rcases List.mem_append.mp hw with h | h
  · exact ab_way_dl hd w h
  · exact ab_way_dl hd w h
theorem ab_cases_dl {lv0 lv : mj_L} {pc : Nat} {al : ab_L} {o : Nat} {p : ab_I} {A : List ab_V} (hd : ab_dl lv0 al lv) : ∀ (offs : List Int) (lo : Int) (ws : List (Nat × ab_L × List ab_V)), ab_cases lo offs pc al o p A = some ws → ∀ w ∈ ws, ab_dl lv0 w.2.1 lv := by
  intro offs
  induction offs with
  | nil => intro lo ws h w hw; cases h; cases hw
  | cons off r ih =>
    intro lo ws h w hw
    unfold ab_cases at h
    split at h
    · cases h
    · rename_i ws' e
      split at h
      · split at h
        · cases h
          rcases List.mem_cons.mp hw with rfl | hw
          · exact ab_dl_upd hd
          · exact ih _ _ e w hw
        · cases h
      · cases h
        exact ih _ _ e w hw
theorem ab_pairs_dl {lv0 lv : mj_L} {pc : Nat} {al : ab_L} {o : Nat} {A : List ab_V} (hd : ab_dl lv0 al lv) : ∀ (ps : List (Int × Int)) (ws : List (Nat × ab_L × List ab_V)), ab_pairs pc al o A ps = some ws → ∀ w ∈ ws, ab_dl lv0 w.2.1 lv := by
  intro ps
  induction ps with
  | nil => intro ws h w hw; cases h; cases hw
  | cons q ps ih =>
    intro ws h w hw
    obtain ⟨a, off⟩ := q
    simp only [ab_pairs] at h
    split at h
    · rename_i t ws' ht e
      cases h
      rcases List.mem_cons.mp hw with rfl | hw
      · exact ab_dl_upd hd
      · exact ih _ e w hw
    · cases h
theorem ab_br_dl {lv0 lv : mj_L} {ins : Instr} {len pc : Nat} {al : ab_L} {A : List ab_V} {ws : List (Nat × ab_L × List ab_V)} (h : ab_br ins len pc al A = some ws) (hd : ab_dl lv0 al lv) : ∀ w ∈ ws, ab_dl lv0 w.2.1 lv := by
  intro w hw
  cases ins with
  | goto off =>
    simp only [ab_br] at h
    split at h
    · cases ht : mj_to pc off with
      | none => rw [ht] at h; cases h
      | some t =>
        rw [ht] at h
        cases h
        rw [List.mem_singleton.mp hw]
        exact hd
    · cases h
  | ifCond c off =>
    simp only [ab_br] at h
    repeat' split at h
    all_goals first
      | (cases h; exact ab_two_dl hd w hw)
      | cases h
  | if_icmp c off =>
    simp only [ab_br] at h
    repeat' split at h
    all_goals first
      | (cases h; exact ab_two_dl hd w hw)
      | cases h
  | tableswitch d lo hi offs =>
    simp only [ab_br] at h
    split at h
    · split at h
      · split at h
        · rename_i t ws0 ht e
          cases h
          split at hw
          · exact ab_cases_dl hd _ _ _ e w hw
          · rcases List.mem_cons.mp hw with rfl | hw
            · exact hd
            · exact ab_cases_dl hd _ _ _ e w hw
        · cases h
      · cases h
    · cases h
  | lookupswitch d ps =>
    simp only [ab_br] at h
    split at h
    · split at h
      · split at h
        · rename_i t ws0 ht e
          cases h
          rcases List.mem_cons.mp hw with rfl | hw
          · exact hd
          · exact ab_pairs_dl hd _ _ e w hw
        · cases h
      · cases h
    · cases h
  | _ => exact absurd (show (none : Option (List (Nat × ab_L × List ab_V))) = some ws from h) (by simp)
theorem ab_lo1_al {i len want kd : Nat} {al al' : ab_L} {A A' : List ab_V} (h : ab_lo1 i len want kd al A = some (al', A')) : al' = al := by
  unfold ab_lo1 at h
  repeat' split at h
  all_goals first
    | (cases h; rfl)
    | cases h
theorem mj_lo1_lv {i n len want : Nat} {lv lv' : mj_L} {st st' : List Value} {ok : Value → Bool} (h : mj_lo1 i n len want lv st ok = some (lv', st')) : lv' = lv := (mj_lo1_inv h).2.1
theorem ab_st1_dl {ty : List Nat} {lv0 lv lv' : mj_L} {i n len want kd : Nat} {al al' : ab_L} {A A' : List ab_V} {st st' : List Value} {ok : Value → Bool} (h : ab_st1 i n len want kd al A = some (al', A')) (hl : ab_l ty al lv) (hd : ab_dl lv0 al lv) (hm : mj_st1 i n len want lv st ok = some (lv', st')) : ab_dl lv0 al' lv' := by
  obtain ⟨-, -, v, -, -, rfl⟩ := mj_st1_inv hm
  unfold ab_st1 at h
  repeat' split at h
  all_goals first
    | (cases h; exact ab_dl_put1 hl hd (fun q => absurd rfl q))
    | cases h
set_option maxHeartbeats 2000000 in
theorem ab_loc_dl {ty : List Nat} {lv0 lv lv' : mj_L} {ins : Instr} {len n : Nat} {al al' : ab_L} {A A' : List ab_V} {st st' : List Value} (h : ab_loc ins len n al A = some (al', A')) (hl : ab_l ty al lv) (hd : ab_dl lv0 al lv) (hm : mj_loc ins len n lv st = some (lv', st')) : ab_dl lv0 al' lv' := by
  cases ins with
  | iload_n i => simp only [ab_loc, mj_loc] at h hm; rw [ab_lo1_al h, mj_lo1_lv hm]; exact hd
  | iload i => simp only [ab_loc, mj_loc] at h hm; rw [ab_lo1_al h, mj_lo1_lv hm]; exact hd
  | lload_n i => simp only [ab_loc, mj_loc] at h hm; rw [ab_lo1_al h, mj_lo1_lv hm]; exact hd
  | lload i => simp only [ab_loc, mj_loc] at h hm; rw [ab_lo1_al h, mj_lo1_lv hm]; exact hd
  | aload_n i => simp only [ab_loc, mj_loc] at h hm; rw [ab_lo1_al h, mj_lo1_lv hm]; exact hd
  | aload i => simp only [ab_loc, mj_loc] at h hm; rw [ab_lo1_al h, mj_lo1_lv hm]; exact hd
  | istore_n i => simp only [ab_loc, mj_loc] at h hm; exact ab_st1_dl h hl hd hm
  | istore i => simp only [ab_loc, mj_loc] at h hm; exact ab_st1_dl h hl hd hm
  | astore_n i => simp only [ab_loc, mj_loc] at h hm; exact ab_st1_dl h hl hd hm
  | astore i => simp only [ab_loc, mj_loc] at h hm; exact ab_st1_dl h hl hd hm
  | lstore_n i =>
    simp only [ab_loc, mj_loc] at h hm
    split at hm
    · split at hm
      · cases hm
        repeat' split at h
        all_goals first
          | (cases h; exact ab_dl_put2 hl hd rfl)
          | cases h
      · cases hm
    · cases hm
  | iinc i d =>
    simp only [ab_loc, mj_loc] at h hm
    split at hm
    · rename_i hlen
      split at hm
      · rename_i x hx
        cases hm
        rw [if_pos hlen] at h
        split at h
        · rename_i k l u o e0
          split at h
          · rename_i hk
            subst hk
            split at h
            · cases h
              refine ab_dl_put1 hl hd (fun q => ?_)
              unfold ab_inc at q ⊢
              dsimp only at q ⊢
              split at q
              · rename_i hc
                rw [if_pos hc]
                obtain ⟨u0, z0, w, z, e1, e2, e3, e4, e5⟩ := hd _ _ e0 hc.1
                rw [hx] at e3
                cases e3
                have hz : x.toInt = z := Option.some.inj e4
                obtain ⟨v', f1, f2⟩ := hl _ _ e0
                rw [hx] at f1
                cases f1
                obtain ⟨x', f3, f4⟩ := ab_m_0 f2
                cases f3
                obtain ⟨a, b⟩ := f4
                simp only at a b
                have hs : (x + Int32.ofInt d).toInt = x.toInt + (Int32.ofInt d).toInt := by
                  rw [Int32.toInt_add, ab_bmod (by omega) (by omega)]
                refine ⟨u0, z0, _, e1, e2, rfl, ?_⟩
                rw [hs, hz, e5]
                dsimp only at hc q ⊢
                omega
              · exact absurd rfl q
            · cases h
          · cases h
        · cases h
      · cases hm
    · cases hm
  | _ => exact absurd (show (none : Option (ab_L × List ab_V)) = some (al', A') from h) (by simp)
end
section
/-! ABSTRACT STEPS: all instructions but calls and returns -/
abbrev ab_W : Type := List (Nat × ab_L × List ab_V)
def ab_dflt (ins : Instr) (len n pc : Nat) (al : ab_L) (A : List ab_V) : Option ab_W := match ab_br ins len pc al A with
  | some ws => some ws
  | none => match ab_loc ins len n al A with
    | some (al', A') => some [(pc + len, al', A')]
    | none => if len = 1 then match ab_alu ins A with
      | some A' => some [(pc + 1, al, A')]
      | none => none
      else none
/-- all elements of one kind of array lie within those of the other's -/
def ab_les (es es' : List ab_V) : Bool := decide (es.length = es'.length) && (es.zip es').all (fun q => decide (q.1.1 = 0) && ab_le q.1 q.2)
def ab_acopy (T : ab_T) (M : mj_M) (A : List ab_V) : Option (List ab_V) := match A with
  | (k1, n1, n2, _) :: (k2, d1, d2, _) :: (k3, td, _, _) :: (k4, s1, s2, _) :: (k5, ts, _, _) :: r => match T[td.toNat]?, T[ts.toNat]? with
    | some (tagd, lend, esd), some (tags, lens, ess) => if k1 = 0 ∧ k2 = 0 ∧ k3 = 2 ∧ k4 = 0 ∧ k5 = 2 ∧ d1 = 0 ∧ d2 = 0 ∧ s1 = 0 ∧ s2 = 0 ∧ n1 = lend ∧ n2 = lend ∧ lens = lend ∧ tagd = 100 ∧ tags = 100 ∧ 0 < esd.length ∧ ab_les ess esd = true ∧ 1 ≤ M.2.2.2.2.2.2.2.1 ∧ (r.map fun V => if V.1 = 1 then 2 else 1).sum + 18 ≤ M.2.2.2.2.2.2.2.2 then some r else none
    | _, _ => none
  | _ => none
def ab_mm (M : mj_M) (kd : Nat) (A : List ab_V) : Option (List ab_V) := match A with
  | (k2, l2, u2, _) :: (k1, l1, u1, _) :: r => if k1 = 0 ∧ k2 = 0 ∧ 1 ≤ M.2.2.2.2.2.2.2.1 ∧ (r.map fun V => if V.1 = 1 then 2 else 1).sum + 13 ≤ M.2.2.2.2.2.2.2.2 then some (ab_int (if kd = 9 then (max l1 l2, max u1 u2) else (min l1 l2, min u1 u2)) :: r) else none
  | _ => none
theorem ab_cat_sum {ty : List Nat} {lv : mj_L} : ∀ (A : List ab_V) (st : List Value), ab_st ty lv A st → (st.map fun v => v.category).sum = (A.map fun V => if V.1 = 1 then 2 else 1).sum := by
  intro A
  induction A with
  | nil =>
    intro st h
    cases st with
    | nil => rfl
    | cons v r => exact absurd h (by simp [ab_st])
  | cons V A ih =>
    intro st h
    obtain ⟨v, r, rfl, s1, hs1⟩ := ab_st_cons h
    rw [List.map_cons, List.map_cons, List.sum_cons, List.sum_cons, ih r hs1, ab_s_cat s1]
theorem ab_mm_ok {ty : List Nat} {lv : mj_L} {M : mj_M} {kd : Nat} {A A' : List ab_V} {st : List Value} (h : ab_mm M kd A = some A') (hs : ab_st ty lv A st) : ∃ st', mj_mm M kd st = some st' ∧ ab_st ty lv A' st' := by
  unfold ab_mm at h
  split at h
  · rename_i k2 l2 u2 o2 k1 l1 u1 o1 r
    split at h
    · rename_i hc
      obtain ⟨rfl, rfl, c3, c4⟩ := hc
      cases h
      obtain ⟨v2, r2, rfl, s2, hs2⟩ := ab_st_cons hs
      obtain ⟨v1, r1, rfl, s1, hs1⟩ := ab_st_cons hs2
      obtain ⟨y, rfl, ⟨hy1, hy2⟩, -⟩ := ab_s_0 s2
      obtain ⟨x, rfl, ⟨hx1, hx2⟩, -⟩ := ab_s_0 s1
      simp only at hx1 hx2 hy1 hy2
      have hc := ab_cat_sum _ _ hs1
      unfold mj_mm
      dsimp only
      rw [if_pos ⟨c3, by rw [hc]; exact c4⟩]
      by_cases hk : kd = 9
      · rw [if_pos hk, if_pos hk]
        refine ⟨_, rfl, ab_s_int ?_, hs1⟩
        split
        · rename_i q
          have := Int32.lt_iff_toInt_lt.mp q
          constructor <;> simp only <;> omega
        · rename_i q
          have : ¬ x.toInt < y.toInt := fun z => q (Int32.lt_iff_toInt_lt.mpr z)
          constructor <;> simp only <;> omega
      · rw [if_neg hk, if_neg hk]
        refine ⟨_, rfl, ab_s_int ?_, hs1⟩
        split
        · rename_i q
          have := Int32.lt_iff_toInt_lt.mp q
          constructor <;> simp only <;> omega
        · rename_i q
          have : ¬ y.toInt < x.toInt := fun z => q (Int32.lt_iff_toInt_lt.mpr z)
          constructor <;> simp only <;> omega
    · cases h
  · cases h
theorem ab_one {l u z : Int} {x : Int32} (h : ab_i (l, u) x.toInt) (h1 : l = z) (h2 : u = z) : x.toInt = z := by
  obtain ⟨a, b⟩ := h
  simp only at a b
  omega
theorem ab_les_el {es es' : List ab_V} (h : ab_les es es' = true) (h0 : 0 < es'.length) (i : Nat) : (ab_el es i).1 = 0 ∧ ab_le (ab_el es i) (ab_el es' i) = true := by
  unfold ab_les at h
  rw [Bool.and_eq_true, decide_eq_true_eq] at h
  obtain ⟨h1, h2⟩ := h
  have hlt : i % es'.length < es'.length := Nat.mod_lt _ h0
  have hlt2 : i % es.length < es.length := by rw [h1]; exact hlt
  have e1 : es[i % es.length]? = some (es[i % es.length]'hlt2) := List.getElem?_eq_getElem hlt2
  have e2 : es'[i % es.length]? = some (es'[i % es.length]'(by rw [h1]; exact hlt)) := List.getElem?_eq_getElem _
  have hm : (es[i % es.length]'hlt2, es'[i % es.length]'(by rw [h1]; exact hlt)) ∈ es.zip es' := by
    refine List.mem_of_getElem? (i := i % es.length) ?_
    rw [List.getElem?_zip_eq_some]
    exact ⟨e1, e2⟩
  have h3 := List.all_eq_true.mp h2 _ hm
  rw [Bool.and_eq_true, decide_eq_true_eq] at h3
  unfold ab_el
  rw [List.getD_eq_getElem?_getD, e1, List.getD_eq_getElem?_getD, ← h1, e2]
  exact h3
theorem ab_acopy_ok {ty : List Nat} {T : ab_T} {lv : mj_L} {h : mj_H} {M : mj_M} {A A' : List ab_V} {st : List Value} (hH : ab_H ty T h) (hg : ab_acopy T M A = some A') (hs : ab_st ty lv A st) : ∃ st' h', mj_acopy M st h = some (st', h') ∧ ab_st ty lv A' st' ∧ ab_H ty T h' := by
  unfold ab_acopy at hg
  split at hg
  · rename_i k1 n1 n2 z1 k2 d1 d2 z2 k3 td z3 z4 k4 s1 s2 z5 k5 ts z6 z7 r
    split at hg
    · rename_i tagd lend esd tags lens ess hTd hTs
      split at hg
      · rename_i hc
        obtain ⟨rfl, rfl, rfl, rfl, rfl, rfl, rfl, rfl, rfl, e1, e2, rfl, rfl, rfl, h0, hle, c1, c2⟩ := hc
        cases hg
        obtain ⟨v1, q1, rfl, t1, w1⟩ := ab_st_cons hs
        obtain ⟨v2, q2, rfl, t2, w2⟩ := ab_st_cons w1
        obtain ⟨v3, q3, rfl, t3, w3⟩ := ab_st_cons w2
        obtain ⟨v4, q4, rfl, t4, w4⟩ := ab_st_cons w3
        obtain ⟨v5, q5, rfl, t5, w5⟩ := ab_st_cons w4
        obtain ⟨n, rfl, hn, -⟩ := ab_s_0 t1
        obtain ⟨dp, rfl, hdp, -⟩ := ab_s_0 t2
        obtain ⟨d, rfl, hd⟩ := ab_s_2 t3
        obtain ⟨sp, rfl, hsp, -⟩ := ab_s_0 t4
        obtain ⟨a, rfl, ha⟩ := ab_s_2 t5
        obtain ⟨tg, ln, es, ys, g1, g2, g3, g4⟩ := hH.2 d _ hd
        rw [hTd] at g1
        cases g1
        obtain ⟨tg, ln, es, xs, f1, f2, f3, f4⟩ := hH.2 a _ ha
        rw [hTs] at f1
        cases f1
        have nn : ∀ z : Int32, ∀ k : Nat, z.toInt = (k : Int) → ¬ z < 0 ∧ z.toNatClampNeg = k := by
          intro z k hz
          have h1 : ¬ z < 0 := fun q => by
            have := Int32.lt_iff_toInt_lt.mp q
            rw [show (0 : Int32).toInt = 0 by decide] at this
            omega
          have h2 := mj_nn z h1
          exact ⟨h1, by omega⟩
        obtain ⟨a1, a2⟩ := nn n lens (ab_one hn e1 e2)
        obtain ⟨b1, b2⟩ := nn dp 0 (ab_one hdp rfl rfl)
        obtain ⟨c3, c4⟩ := nn sp 0 (ab_one hsp rfl rfl)
        have hall : ((xs.drop sp.toNatClampNeg).take n.toNatClampNeg).all mj_isI = true := by
          rw [List.all_eq_true]
          intro v hv
          have hv2 : v ∈ xs := List.mem_of_mem_drop (List.mem_of_mem_take hv)
          obtain ⟨i, hi⟩ := List.getElem?_of_mem hv2
          have h1 := f4 i v hi
          have h2 := (ab_les_el hle h0 i).1
          rcases h1 with ⟨-, x, rfl, -⟩ | ⟨q, -⟩ | ⟨q, -⟩
          · rfl
          · omega
          · omega
        have hcat := ab_cat_sum _ _ w5
        refine ⟨q5, h.set d (100, mj_cpy xs ys sp.toNatClampNeg dp.toNatClampNeg n.toNatClampNeg), ?_, w5, ?_⟩
        · unfold mj_acopy
          dsimp only
          rw [f2, g2]
          dsimp only
          rw [if_pos ⟨rfl, rfl, c3, b1, a1, by omega, by omega, hall, c1, by rw [hcat]; exact c2⟩]
        · refine ⟨by rw [List.length_set]; exact hH.1, fun a' t' e => ?_⟩
          by_cases q : a' = d
          · subst q
            rw [hd] at e
            cases e
            have hlt : a' < h.length := (List.getElem?_eq_some_iff.mp g2).1
            refine ⟨100, lens, esd, _, hTd, by rw [List.getElem?_set_self hlt], by rw [mj_cpy_len (by omega) (by omega)]; exact g3, fun i v hv => ?_⟩
            rw [mj_cpy_get (by omega) (by omega)] at hv
            split at hv
            · rename_i hr
              have : sp.toNatClampNeg + (i - dp.toNatClampNeg) = i := by omega
              rw [this] at hv
              exact ab_le_ok (ab_les_el hle h0 i).2 (f4 i v hv)
            · exact g4 i v hv
          · obtain ⟨tag', len', es', xs', k1, k2, k3, k4⟩ := hH.2 a' t' e
            exact ⟨tag', len', es', xs', k1, by rw [List.getElem?_set_ne (Ne.symm q)]; exact k2, k3, k4⟩
      · cases hg
    · cases hg
  · cases hg
def ab_do (T : ab_T) (M : mj_M) (ins : Instr) (len pc : Nat) (al : ab_L) (A : List ab_V) : Option ab_W := match ins with
  | .bipush n => if len = 2 then some [(pc + 2, al, ab_int ((Int8.ofInt n).toInt32.toInt, (Int8.ofInt n).toInt32.toInt) :: A)] else none
  | .sipush n => if len = 3 then some [(pc + 3, al, ab_int ((Int16.ofInt n).toInt32.toInt, (Int16.ofInt n).toInt32.toInt) :: A)] else none
  | .ldc idx => match mj_ent M idx with
    | some (_, kd, v, _) => if len = 2 ∧ kd = 5 then some [(pc + 2, al, ab_int ((Int32.ofNat v).toInt, (Int32.ofNat v).toInt) :: A)] else none
    | none => none
  | .ldc_w idx => match mj_ent M idx with
    | some (_, kd, v, _) => if len = 3 ∧ kd = 5 then some [(pc + 3, al, ab_int ((Int32.ofNat v).toInt, (Int32.ofNat v).toInt) :: A)] else none
    | none => none
  | .ldc2_w idx => match mj_ent M idx with
    | some (_, kd, v, _) => if len = 3 ∧ kd = 6 then some [(pc + 3, al, ab_long ((Int64.ofNat v).toInt, (Int64.ofNat v).toInt) :: A)] else none
    | none => none
  | .getfield idx => if len = 3 then (ab_gf T M idx A).map (fun A' => [(pc + 3, al, A')]) else none
  | .putfield idx => if len = 3 then (ab_pf T M idx A).map (fun A' => [(pc + 3, al, A')]) else none
  | .iaload => if len = 1 then (ab_ald T 100 A).map (fun A' => [(pc + 1, al, A')]) else none
  | .caload => if len = 1 then (ab_ald T 101 A).map (fun A' => [(pc + 1, al, A')]) else none
  | .baload => if len = 1 then (ab_ald T 102 A).map (fun A' => [(pc + 1, al, A')]) else none
  | .aaload => if len = 1 then (ab_ald T 103 A).map (fun A' => [(pc + 1, al, A')]) else none
  | .iastore => if len = 1 then (ab_ast T 100 A).map (fun A' => [(pc + 1, al, A')]) else none
  | .bastore => if len = 1 then (ab_ast T 102 A).map (fun A' => [(pc + 1, al, A')]) else none
  | .invokestatic idx => match mj_ent M idx with
    | some (_, kd, _, _) => if len = 3 then (if kd = 7 then (ab_acopy T M A).map (fun A' => [(pc + 3, al, A')]) else if kd = 9 ∨ kd = 10 then (ab_mm M kd A).map (fun A' => [(pc + 3, al, A')]) else none) else none
    | none => none
  | ins => ab_dflt ins len M.2.2.1 pc al A
theorem ab_st_push {ty : List Nat} {lv : mj_L} {V : ab_V} {A : List ab_V} {v : Value} {st : List Value} (h : ab_s ty lv V v) (hs : ab_st ty lv A st) : ab_st ty lv (V :: A) (v :: st) := ⟨h, hs⟩
theorem ab_loc_nobr {ins : Instr} {len n pc : Nat} {al al' : ab_L} {A A' : List ab_V} {st : List Value} (h : ab_loc ins len n al A = some (al', A')) : mj_br ins len pc st = none := by
  cases ins <;> first
    | rfl
    | exact absurd (show (none : Option (ab_L × List ab_V)) = some (al', A') from h) (by simp)
theorem ab_alu_nobr {ins : Instr} {len n pc : Nat} {lv : mj_L} {A A' : List ab_V} {st : List Value} (h : ab_alu ins A = some A') : mj_br ins len pc st = none ∧ mj_loc ins len n lv st = none := by
  cases ins <;> first
    | exact ⟨rfl, rfl⟩
    | exact absurd (show (none : Option (List ab_V)) = some A' from h) (by simp)
/-- what a step comes to: one of the ways -/
def ab_to (ty : List Nat) (T : ab_T) (lv0 : mj_L) (M : mj_M) (ws : ab_W) (S S' : mj_S) : Prop := mj_one none S S' ∧ ∃ w ∈ ws, ∃ lv' st' h', S' = (M, w.1, lv', st', h') ∧ ab_l ty w.2.1 lv' ∧ ab_dl lv0 w.2.1 lv' ∧ ab_st ty lv' w.2.2 st' ∧ ab_H ty T h'
theorem ab_dflt_ok {ty : List Nat} {T : ab_T} {lv0 lv : mj_L} {M : mj_M} {ins : Instr} {len pc : Nat} {al : ab_L} {A : List ab_V} {st : List Value} {h : mj_H} {ws : ab_W} (hd : decode M.2.1 pc = .ok (ins, len)) (hdo : ∀ kc k : mj_S → mj_O, mj_do none kc k ins len M pc lv st h = (match mj_br ins len pc st with
        | some (pc', st') => k (M, pc', lv, st', h)
        | none => match mj_loc ins len M.2.2.1 lv st with
          | some (lv', st') => k (M, pc + len, lv', st', h)
          | none => if len = 1 then match mj_alu ins st with
            | some st' => k (M, pc + 1, lv, st', h)
            | none => none
            else none)) (hg : ab_dflt ins len M.2.2.1 pc al A = some ws) (hH : ab_H ty T h) (hl : ab_l ty al lv) (hdl : ab_dl lv0 al lv) (hs : ab_st ty lv A st) : ∃ S', ab_to ty T lv0 M ws (M, pc, lv, st, h) S' := by
  unfold ab_dflt at hg
  split at hg
  · rename_i ws' e
    cases hg
    obtain ⟨pc', st', w, g1, g2, g3, g4, g5⟩ := ab_br_ok e hl hs
    exact ⟨(M, pc', lv, st', h), mj_one_of hd (fun kc k => by rw [hdo, g1]), w, g2, lv, st', h, by rw [g3], g4, ab_br_dl e hdl w g2, g5, hH⟩
  · split at hg
    · rename_i al' A' e
      cases hg
      obtain ⟨lv', st', g1, g2, g3⟩ := ab_loc_ok e hl hs
      exact ⟨(M, pc + len, lv', st', h), mj_one_of hd (fun kc k => by rw [hdo, ab_loc_nobr e, g1]), _, List.mem_singleton.mpr rfl, lv', st', h, rfl, g2, ab_loc_dl e hl hdl g1, g3, hH⟩
    · split at hg
      · rename_i hlen
        split at hg
        · rename_i A' e
          cases hg
          obtain ⟨st', g1, g2⟩ := ab_alu_ok e hs
          have hn := ab_alu_nobr (len := len) (n := M.2.2.1) (pc := pc) (lv := lv) (st := st) e
          exact ⟨(M, pc + 1, lv, st', h), mj_one_of hd (fun kc k => by rw [hdo, hn.1]; dsimp only; rw [hn.2]; dsimp only; rw [if_pos hlen, g1]), _, List.mem_singleton.mpr rfl, lv, st', h, rfl, hl, hdl, g2, hH⟩
        · cases hg
      · cases hg
set_option maxHeartbeats 4000000 in
theorem ab_do_ok {ty : List Nat} {T : ab_T} {lv0 lv : mj_L} {M : mj_M} {ins : Instr} {len pc : Nat} {al : ab_L} {A : List ab_V} {st : List Value} {h : mj_H} {ws : ab_W} (hd : decode M.2.1 pc = .ok (ins, len)) (hg : ab_do T M ins len pc al A = some ws) (hH : ab_H ty T h) (hl : ab_l ty al lv) (hdl : ab_dl lv0 al lv) (hs : ab_st ty lv A st) : ∃ S', ab_to ty T lv0 M ws (M, pc, lv, st, h) S' := by
  cases ins with
  | bipush n =>
    simp only [ab_do] at hg
    split at hg
    · rename_i hlen; cases hg
      exact ⟨(M, pc + 2, lv, .int (Int8.ofInt n).toInt32 :: st, h), mj_one_of hd (fun kc k => by unfold mj_do; dsimp only; rw [if_pos hlen]), _, List.mem_singleton.mpr rfl, lv, _, h, rfl, hl, hdl, ab_st_push (ab_s_int ⟨Int.le_refl _, Int.le_refl _⟩) hs, hH⟩
    · cases hg
  | sipush n =>
    simp only [ab_do] at hg
    split at hg
    · rename_i hlen; cases hg
      exact ⟨(M, pc + 3, lv, .int (Int16.ofInt n).toInt32 :: st, h), mj_one_of hd (fun kc k => by unfold mj_do; dsimp only; rw [if_pos hlen]), _, List.mem_singleton.mpr rfl, lv, _, h, rfl, hl, hdl, ab_st_push (ab_s_int ⟨Int.le_refl _, Int.le_refl _⟩) hs, hH⟩
    · cases hg
  | ldc idx =>
    simp only [ab_do] at hg
    split at hg
    · rename_i z kd v z2 he
      split at hg
      · rename_i hc; cases hg
        have hm : mj_ldc M idx st = some (.int (Int32.ofNat v) :: st) := by unfold mj_ldc; rw [he]; dsimp only; rw [if_pos hc.2]
        exact ⟨(M, pc + 2, lv, .int (Int32.ofNat v) :: st, h), mj_one_of hd (fun kc k => by unfold mj_do; dsimp only; rw [if_pos hc.1, hm]), _, List.mem_singleton.mpr rfl, lv, _, h, rfl, hl, hdl, ab_st_push (ab_s_int ⟨Int.le_refl _, Int.le_refl _⟩) hs, hH⟩
      · cases hg
    · cases hg
  | ldc_w idx =>
    simp only [ab_do] at hg
    split at hg
    · rename_i z kd v z2 he
      split at hg
      · rename_i hc; cases hg
        have hm : mj_ldc M idx st = some (.int (Int32.ofNat v) :: st) := by unfold mj_ldc; rw [he]; dsimp only; rw [if_pos hc.2]
        exact ⟨(M, pc + 3, lv, .int (Int32.ofNat v) :: st, h), mj_one_of hd (fun kc k => by unfold mj_do; dsimp only; rw [if_pos hc.1, hm]), _, List.mem_singleton.mpr rfl, lv, _, h, rfl, hl, hdl, ab_st_push (ab_s_int ⟨Int.le_refl _, Int.le_refl _⟩) hs, hH⟩
      · cases hg
    · cases hg
  | ldc2_w idx =>
    simp only [ab_do] at hg
    split at hg
    · rename_i z kd v z2 he
      split at hg
      · rename_i hc; cases hg
        have hm : mj_ldc2 M idx st = some (.long (Int64.ofNat v) :: st) := by unfold mj_ldc2; rw [he]; dsimp only; rw [if_pos hc.2]
        exact ⟨(M, pc + 3, lv, .long (Int64.ofNat v) :: st, h), mj_one_of hd (fun kc k => by unfold mj_do; dsimp only; rw [if_pos hc.1, hm]), _, List.mem_singleton.mpr rfl, lv, _, h, rfl, hl, hdl, ab_st_push (ab_s_long ⟨Int.le_refl _, Int.le_refl _⟩) hs, hH⟩
      · cases hg
    · cases hg
  | getfield idx =>
    simp only [ab_do] at hg
    split at hg
    · rename_i hlen
      obtain ⟨A', e1, rfl⟩ := Option.map_eq_some_iff.mp hg
      obtain ⟨st', g1, g2⟩ := ab_gf_ok hH e1 hs
      exact ⟨_, mj_one_of hd (fun kc k => by unfold mj_do; dsimp only; rw [if_pos hlen, g1]), _, List.mem_singleton.mpr rfl, lv, _, h, rfl, hl, hdl, g2, hH⟩
    · cases hg
  | putfield idx =>
    simp only [ab_do] at hg
    split at hg
    · rename_i hlen
      obtain ⟨A', e1, rfl⟩ := Option.map_eq_some_iff.mp hg
      obtain ⟨st', h', g1, g2, g3⟩ := ab_pf_ok hH e1 hs
      exact ⟨_, mj_one_of hd (fun kc k => by unfold mj_do; dsimp only; rw [if_pos hlen, g1]), _, List.mem_singleton.mpr rfl, lv, _, h', rfl, hl, hdl, g2, g3⟩
    · cases hg
  | iaload =>
    simp only [ab_do] at hg
    split at hg
    · rename_i hlen
      obtain ⟨A', e1, rfl⟩ := Option.map_eq_some_iff.mp hg
      obtain ⟨st', g1, g2⟩ := ab_ald_ok (sc := none) hH e1 hs
      exact ⟨_, mj_one_of hd (fun kc k => by unfold mj_do; dsimp only; rw [if_pos hlen, g1]), _, List.mem_singleton.mpr rfl, lv, _, h, rfl, hl, hdl, g2, hH⟩
    · cases hg
  | caload =>
    simp only [ab_do] at hg
    split at hg
    · rename_i hlen
      obtain ⟨A', e1, rfl⟩ := Option.map_eq_some_iff.mp hg
      obtain ⟨st', g1, g2⟩ := ab_ald_ok (sc := none) hH e1 hs
      exact ⟨_, mj_one_of hd (fun kc k => by unfold mj_do; dsimp only; rw [if_pos hlen, g1]), _, List.mem_singleton.mpr rfl, lv, _, h, rfl, hl, hdl, g2, hH⟩
    · cases hg
  | baload =>
    simp only [ab_do] at hg
    split at hg
    · rename_i hlen
      obtain ⟨A', e1, rfl⟩ := Option.map_eq_some_iff.mp hg
      obtain ⟨st', g1, g2⟩ := ab_ald_ok (sc := none) hH e1 hs
      exact ⟨_, mj_one_of hd (fun kc k => by unfold mj_do; dsimp only; rw [if_pos hlen, g1]), _, List.mem_singleton.mpr rfl, lv, _, h, rfl, hl, hdl, g2, hH⟩
    · cases hg
  | aaload =>
    simp only [ab_do] at hg
    split at hg
    · rename_i hlen
      obtain ⟨A', e1, rfl⟩ := Option.map_eq_some_iff.mp hg
      obtain ⟨st', g1, g2⟩ := ab_ald_ok (sc := none) hH e1 hs
      exact ⟨_, mj_one_of hd (fun kc k => by unfold mj_do; dsimp only; rw [if_pos hlen, g1]), _, List.mem_singleton.mpr rfl, lv, _, h, rfl, hl, hdl, g2, hH⟩
    · cases hg
  | iastore =>
    simp only [ab_do] at hg
    split at hg
    · rename_i hlen
      obtain ⟨A', e1, rfl⟩ := Option.map_eq_some_iff.mp hg
      obtain ⟨st', h', g1, g2, g3⟩ := ab_ast_ok hH e1 hs
      exact ⟨_, mj_one_of hd (fun kc k => by unfold mj_do; dsimp only; rw [if_pos hlen, g1]), _, List.mem_singleton.mpr rfl, lv, _, h', rfl, hl, hdl, g2, g3⟩
    · cases hg
  | bastore =>
    simp only [ab_do] at hg
    split at hg
    · rename_i hlen
      obtain ⟨A', e1, rfl⟩ := Option.map_eq_some_iff.mp hg
      obtain ⟨st', h', g1, g2, g3⟩ := ab_ast_ok hH e1 hs
      exact ⟨_, mj_one_of hd (fun kc k => by unfold mj_do; dsimp only; rw [if_pos hlen, g1]), _, List.mem_singleton.mpr rfl, lv, _, h', rfl, hl, hdl, g2, g3⟩
    · cases hg
  | invokestatic idx =>
    simp only [ab_do] at hg
    split at hg
    · rename_i z kd z2 z3 he
      split at hg
      · rename_i hlen
        split at hg
        · rename_i hk
          subst hk
          obtain ⟨A', e1, rfl⟩ := Option.map_eq_some_iff.mp hg
          obtain ⟨st', h', g1, g2, g3⟩ := ab_acopy_ok hH e1 hs
          exact ⟨_, mj_one_of hd (fun kc k => by unfold mj_do; dsimp only; rw [if_pos hlen, he]; dsimp only; rw [if_pos rfl, g1]), _, List.mem_singleton.mpr rfl, lv, _, h', rfl, hl, hdl, g2, g3⟩
        · rename_i hk7
          split at hg
          · rename_i hk
            obtain ⟨A', e1, rfl⟩ := Option.map_eq_some_iff.mp hg
            obtain ⟨st', g1, g2⟩ := ab_mm_ok e1 hs
            exact ⟨_, mj_one_of hd (fun kc k => by unfold mj_do; dsimp only; rw [if_pos hlen, he]; dsimp only; rw [if_neg hk7, if_pos hk, g1]), _, List.mem_singleton.mpr rfl, lv, _, h, rfl, hl, hdl, g2, hH⟩
          · cases hg
      · cases hg
    · cases hg
  | _ => first
    | exact ab_dflt_ok hd (fun _ _ => rfl) hg hH hl hdl hs
    | (simp [ab_do, ab_dflt, ab_br, ab_loc, ab_alu] at hg; done)
end
section
/-! ABSTRACT CALLS: what is known of a method: its arguments' bounds, and its ways out (answer, arguments) -/
abbrev ab_O : Type := Option ab_V × List ab_V
abbrev ab_M : Type := Nat × List ab_V × List ab_O
def ab_args (ty : List Nat) : List ab_V → List Value → Prop
  | [], [] => True
  | V :: As, v :: vs => ab_m ty V v ∧ ab_args ty As vs
  | _, _ => False
def ab_ret (ty : List Nat) (R : Option ab_V) (r : Option Value) : Prop := match R, r with
  | none, none => True
  | some V, some v => ab_m ty V v
  | _, _ => False
/-- from every typed heap and arguments within bounds the method ends, in one of the ways -/
def ab_sum (ty : List Nat) (T : ab_T) (s : ab_M) : Prop := ∀ (M : mj_M) (vs : List Value) (h : mj_H), mj_meths[s.1]? = some M → ab_args ty s.2.1 vs → ab_H ty T h → ∃ r h', mj_runs (M, 0, lv_args 0 vs, [], h) r h' ∧ ab_H ty T h' ∧ ∃ out ∈ s.2.2, ab_ret ty out.1 r ∧ ab_args ty out.2 vs
def ab_leL : List ab_V → List ab_V → Bool
  | [], [] => true
  | V :: As, W :: Bs => decide (V.1 ≠ 4) && ab_le V W && ab_leL As Bs
  | _, _ => false
/-- bounds for the locals that the arguments came from; none: that way can't be -/
def ab_upds (al : ab_L) : List ab_V → List ab_V → Option ab_L
  | V :: As, W :: Bs => match ab_upds al As Bs with
    | some al' => if V.1 ≤ 1 ∧ W.1 ≤ 1 then (if max V.2.1 W.2.1 ≤ min V.2.2.1 W.2.2.1 then some (ab_upd al' V.2.2.2 (W.2.1, W.2.2.1)) else none) else some al'
    | none => none
  | _, _ => some al
def ab_outs (pc : Nat) (al : ab_L) (act rest : List ab_V) : List ab_O → ab_W
  | [] => []
  | out :: os => match ab_upds al act out.2 with
    | some al' => (pc, al', (out.1.map fun V => (V.1, V.2.1, V.2.2.1, 0)).toList ++ rest) :: ab_outs pc al act rest os
    | none => ab_outs pc al act rest os
def ab_w (V : ab_V) : Nat := if V.1 = 1 then 2 else 1
/-- the call of method j with n words of the stack: the ways behind it -/
def ab_call (sums : List ab_M) (M M' : mj_M) (j n pc : Nat) (al : ab_L) (A : List ab_V) : Option ab_W :=
  if n ≤ A.length ∧ ((A.drop n).map ab_w).sum ≤ 8 ∧ M'.2.2.2.2.2.2.2.1 + 1 ≤ M.2.2.2.2.2.2.2.1 ∧ 8 + (M'.2.2.1 + 11) + M'.2.2.2.2.2.2.2.2 ≤ M.2.2.2.2.2.2.2.2 ∧ ((A.take n).map ab_w).sum ≤ M'.2.2.1 then
    match sums.find? (fun s => s.1 == j && ab_leL (A.take n).reverse s.2.1) with
    | some s => some (ab_outs (pc + 3) al (A.take n).reverse (A.drop n) s.2.2)
    | none => none
  else none
section AB7
variable {ty : List Nat} {T : ab_T} {lv0 lv : mj_L}
theorem ab_st_len : ∀ (A : List ab_V) (st : List Value), ab_st ty lv A st → st.length = A.length := by
  intro A
  induction A with
  | nil =>
    intro st h
    cases st with
    | nil => rfl
    | cons v r => exact absurd h (by simp [ab_st])
  | cons V A ih =>
    intro st h
    obtain ⟨v, r, rfl, s1, hs1⟩ := ab_st_cons h
    rw [List.length_cons, List.length_cons, ih r hs1]
theorem ab_st_drop : ∀ (n : Nat) (A : List ab_V) (st : List Value), ab_st ty lv A st → ab_st ty lv (A.drop n) (st.drop n) := by
  intro n
  induction n with
  | zero => intro A st h; exact h
  | succ n ih =>
    intro A st h
    cases A with
    | nil =>
      cases st with
      | nil => exact h
      | cons v r => exact absurd h (by simp [ab_st])
    | cons V A =>
      obtain ⟨v, r, rfl, s1, hs1⟩ := ab_st_cons h
      exact ih A r hs1
theorem ab_st_get : ∀ (n : Nat) (A : List ab_V) (st : List Value) (V : ab_V), ab_st ty lv A st → A[n]? = some V → ∃ v, st[n]? = some v ∧ ab_s ty lv V v := by
  intro n
  induction n with
  | zero =>
    intro A st V h e
    cases A with
    | nil => cases e
    | cons W A =>
      cases e
      obtain ⟨v, r, rfl, s1, hs1⟩ := ab_st_cons h
      exact ⟨v, rfl, s1⟩
  | succ n ih =>
    intro A st V h e
    cases A with
    | nil => cases e
    | cons W A =>
      obtain ⟨v, r, rfl, s1, hs1⟩ := ab_st_cons h
      exact ih A r V hs1 e
/-- a stack of values as a list of arguments, with their origins -/
def ab_sL (ty : List Nat) (lv : mj_L) : List ab_V → List Value → Prop
  | [], [] => True
  | V :: As, v :: vs => ab_s ty lv V v ∧ ab_sL ty lv As vs
  | _, _ => False
theorem ab_sL_app : ∀ (A B : List ab_V) (vs ws : List Value), ab_sL ty lv A vs → ab_sL ty lv B ws → ab_sL ty lv (A ++ B) (vs ++ ws) := by
  intro A
  induction A with
  | nil =>
    intro B vs ws h1 h2
    cases vs with
    | nil => exact h2
    | cons v r => exact absurd h1 (by simp [ab_sL])
  | cons V A ih =>
    intro B vs ws h1 h2
    cases vs with
    | nil => exact absurd h1 (by simp [ab_sL])
    | cons v r => exact ⟨h1.1, ih B r ws h1.2 h2⟩
theorem ab_sL_take : ∀ (n : Nat) (A : List ab_V) (st : List Value), ab_st ty lv A st → ab_sL ty lv (A.take n).reverse (st.take n).reverse := by
  intro n
  induction n with
  | zero => intro A st h; exact trivial
  | succ n ih =>
    intro A st h
    cases A with
    | nil =>
      cases st with
      | nil => exact trivial
      | cons v r => exact absurd h (by simp [ab_st])
    | cons V A =>
      obtain ⟨v, r, rfl, s1, hs1⟩ := ab_st_cons h
      rw [List.take_succ_cons, List.take_succ_cons, List.reverse_cons, List.reverse_cons]
      exact ab_sL_app _ _ _ _ (ih A r hs1) ⟨s1, trivial⟩
theorem ab_leL_ok : ∀ (A B : List ab_V) (vs : List Value), ab_leL A B = true → ab_sL ty lv A vs → ab_args ty B vs := by
  intro A
  induction A with
  | nil =>
    intro B vs h hs
    cases B with
    | nil =>
      cases vs with
      | nil => trivial
      | cons v r => exact absurd hs (by simp [ab_sL])
    | cons W B => exact absurd h (by simp [ab_leL])
  | cons V A ih =>
    intro B vs h hs
    cases B with
    | nil => exact absurd h (by simp [ab_leL])
    | cons W B =>
      cases vs with
      | nil => exact absurd hs (by simp [ab_sL])
      | cons v r =>
        simp only [ab_leL, Bool.and_eq_true, decide_eq_true_eq] at h
        exact ⟨ab_le_ok h.1.2 (ab_s_m hs.1 h.1.1), ih B r h.2 hs.2⟩
theorem ab_m_num {V : ab_V} {v : Value} (h : ab_m ty V v) (hk : V.1 ≤ 1) : ∃ z, ab_num v = some z ∧ ab_i (V.2.1, V.2.2.1) z := by
  rcases h with ⟨-, x, rfl, h⟩ | ⟨-, x, rfl, h⟩ | ⟨h, -⟩
  · exact ⟨_, rfl, h⟩
  · exact ⟨_, rfl, h⟩
  · omega
theorem ab_upds_ok {al : ab_L} (hl : ab_l ty al lv) : ∀ (A B : List ab_V) (vs : List Value), ab_sL ty lv A vs → ab_args ty B vs → ∃ al', ab_upds al A B = some al' ∧ ab_l ty al' lv := by
  intro A
  induction A with
  | nil => intro B vs _ _; exact ⟨al, rfl, hl⟩
  | cons V A ih =>
    intro B vs hs ha
    cases B with
    | nil => exact ⟨al, rfl, hl⟩
    | cons W B =>
      cases vs with
      | nil => exact absurd hs (by simp [ab_sL])
      | cons v r =>
        obtain ⟨al', e1, e2⟩ := ih B r hs.2 ha.2
        simp only [ab_upds, e1]
        split
        · rename_i hk
          obtain ⟨z, z1, z2⟩ := ab_m_num ha.1 hk.2
          have hm : ab_m ty V v := ab_s_m hs.1 (by omega)
          obtain ⟨z', z3, z4⟩ := ab_m_num hm hk.1
          rw [z1] at z3
          cases z3
          have hne : max V.2.1 W.2.1 ≤ min V.2.2.1 W.2.2.1 := by
            obtain ⟨a, b⟩ := z2
            obtain ⟨c, d⟩ := z4
            simp only at a b c d
            omega
          rw [if_pos hne]
          refine ⟨_, rfl, ab_upd_ok e2 ?_⟩
          rcases hs.1 with ⟨q, -⟩ | ⟨-, q⟩
          · omega
          · rcases q with q | ⟨u, z', q1, q2, q3⟩
            · exact Or.inl q
            · rw [z1] at q3
              cases q3
              exact Or.inr ⟨u, z, q1, q2, z2⟩
        · exact ⟨al', rfl, e2⟩
theorem ab_upds_dl {al : ab_L} (hd : ab_dl lv0 al lv) : ∀ (A B : List ab_V) (al' : ab_L), ab_upds al A B = some al' → ab_dl lv0 al' lv := by
  intro A
  induction A with
  | nil => intro B al' h; cases h; exact hd
  | cons V A ih =>
    intro B al' h
    cases B with
    | nil => cases h; exact hd
    | cons W B =>
      simp only [ab_upds] at h
      split at h
      · rename_i al2 e
        split at h
        · split at h
          · cases h
            exact ab_dl_upd (ih B al2 e)
          · cases h
        · cases h
          exact ih B _ e
      · cases h
theorem ab_outs_ok {pc : Nat} {al : ab_L} {act rest : List ab_V} {vs rs : List Value} {r : Option Value} (hl : ab_l ty al lv) (hd : ab_dl lv0 al lv) (hs : ab_sL ty lv act vs) (hr : ab_st ty lv rest rs) : ∀ (os : List ab_O) (out : ab_O), out ∈ os → ab_ret ty out.1 r → ab_args ty out.2 vs → ∃ w ∈ ab_outs pc al act rest os, w.1 = pc ∧ ab_l ty w.2.1 lv ∧ ab_dl lv0 w.2.1 lv ∧ ab_st ty lv w.2.2 (r.toList ++ rs) := by
  intro os
  induction os with
  | nil => intro out h; cases h
  | cons o os ih =>
    intro out hm h1 h2
    rcases List.mem_cons.mp hm with rfl | hm
    · obtain ⟨al', e1, e2⟩ := ab_upds_ok hl act out.2 vs hs h2
      simp only [ab_outs, e1]
      refine ⟨_, List.mem_cons_self, rfl, e2, ab_upds_dl hd _ _ _ e1, ?_⟩
      obtain ⟨R, Os⟩ := out
      cases R with
      | none =>
        cases r with
        | none => exact hr
        | some v => exact absurd h1 (by simp [ab_ret])
      | some V =>
        cases r with
        | none => exact absurd h1 (by simp [ab_ret])
        | some v => exact ⟨ab_s_of h1, hr⟩
    · obtain ⟨w, g1, g2⟩ := ih out hm h1 h2
      simp only [ab_outs]
      split
      · exact ⟨w, List.mem_cons_of_mem _ g1, g2⟩
      · exact ⟨w, g1, g2⟩
theorem ab_lgsl : ∀ (A : List ab_V) (vs : List Value), ab_sL ty lv A vs → (lg_sl vs).length = (A.map ab_w).sum := by
  intro A
  induction A with
  | nil =>
    intro vs h
    cases vs with
    | nil => rfl
    | cons v r => exact absurd h (by simp [ab_sL])
  | cons V A ih =>
    intro vs h
    cases vs with
    | nil => exact absurd h (by simp [ab_sL])
    | cons v r =>
      have e : (lg_sl (v :: r)).length = (if v.category = 2 then 2 else 1) + (lg_sl r).length := by
        unfold lg_sl
        rw [List.flatMap_cons, List.length_append]
        split <;> rfl
      rw [e, ih r h.2, List.map_cons, List.sum_cons, ab_s_cat h.1]
      unfold ab_w
      split <;> simp
/-- a call that the table knows comes to one of its ways -/
theorem ab_call_ok {sums : List ab_M} (hsums : ∀ s ∈ sums, ab_sum ty T s) {M M' : mj_M} {j n pc : Nat} {al : ab_L} {A : List ab_V} {st : List Value} {h : mj_H} {ws : ab_W} (hj : mj_meths[j]? = some M') (hc : ab_call sums M M' j n pc al A = some ws) (hH : ab_H ty T h) (hl : ab_l ty al lv) (hd : ab_dl lv0 al lv) (hs : ab_st ty lv A st) :
    mj_fit M M' st n ∧ ∃ r1 h1, mj_runs (M', 0, lv_args 0 (st.take n).reverse, [], h) r1 h1 ∧ ab_H ty T h1 ∧ ∃ w ∈ ws, w.1 = pc + 3 ∧ ab_l ty w.2.1 lv ∧ ab_dl lv0 w.2.1 lv ∧ ab_st ty lv w.2.2 (r1.toList ++ st.drop n) := by
  unfold ab_call at hc
  split at hc
  · rename_i hh
    obtain ⟨c1, c2, c3, c4, c5⟩ := hh
    split at hc
    · rename_i s hf
      cases hc
      have hs1 := List.find?_some hf
      rw [Bool.and_eq_true] at hs1
      have hm := List.mem_of_find?_eq_some hf
      have hsj : s.1 = j := by simpa using hs1.1
      have hL := ab_sL_take n A st hs
      have hlen := ab_st_len A st hs
      have hdr := ab_st_drop n A st hs
      have hcat := ab_cat_sum _ _ hdr
      refine ⟨⟨by omega, ?_, c3, c4, ?_⟩, ?_⟩
      · rw [hcat]
        exact c2
      · rw [ab_lgsl _ _ hL, List.map_reverse, List.sum_reverse]
        exact c5
      · obtain ⟨r1, h1, e1, e2, out, o1, o2, o3⟩ := hsums s hm M' (st.take n).reverse h (by rw [hsj]; exact hj) (ab_leL_ok _ _ _ hs1.2 hL) hH
        exact ⟨r1, h1, e1, e2, ab_outs_ok hl hd hL hdr _ out o1 o2 o3⟩
    · cases hc
  · cases hc
end AB7
end
section
/-! THE CHECKER: cuts of a method (pc, locals, a base and a factor for each ranked local), and a walk from each to the next -/
abbrev ab_K : Type := Nat × ab_L × Int × List Int
def ab_val (lv : mj_L) (i : Nat) : Int := match mj_get lv i with
  | some v => (ab_num v).getD 0
  | none => 0
def ab_rsum (lv : mj_L) : List (Nat × Int) → List Int → Int
  | (l, K) :: ls, C :: Cs => C * (K - ab_val lv l) + ab_rsum lv ls Cs
  | _, _ => 0
def ab_rank (ls : List (Nat × Int)) (c : ab_K) (lv : mj_L) : Int := c.2.2.1 + ab_rsum lv ls c.2.2.2
def ab_nn (al : ab_L) : List (Nat × Int) → List Int → Bool
  | (l, K) :: ls, C :: Cs => (decide (C = 0) || (match ab_get al l with
    | some V => decide (V.1 ≤ 1) && decide (0 ≤ C * (K - V.2.1)) && decide (0 ≤ C * (K - V.2.2.1))
    | none => false)) && ab_nn al ls Cs
  | _, _ => true
/-- the greatest of -C * (K - z) -/
def ab_low (al0 : ab_L) (l : Nat) (K C : Int) : Option Int := if C = 0 then some 0 else match ab_get al0 l with
  | some V => if V.1 ≤ 1 then some (max (-C * (K - V.2.1)) (-C * (K - V.2.2.1))) else none
  | none => none
def ab_one9 (al0 al : ab_L) (l : Nat) (K C C' : Int) : Option Int := match ab_get al l with
  | some V => if V.1 ≤ 1 then (if V.2.2.2 ≠ 0 then some (max ((C' - C) * (K - V.2.1)) ((C' - C) * (K - V.2.2.1)) - C * ((V.2.2.2 : Int) - 1000000)) else (ab_low al0 l K C).map (fun b => max (C' * (K - V.2.1)) (C' * (K - V.2.2.1)) + b)) else if C' = 0 then ab_low al0 l K C else none
  | none => if C' = 0 then ab_low al0 l K C else none
def ab_up (al0 al : ab_L) : List (Nat × Int) → List Int → List Int → Option Int
  | (l, K) :: ls, C :: Cs, C' :: Cs' => match ab_one9 al0 al l K C C', ab_up al0 al ls Cs Cs' with
    | some a, some b => some (a + b)
    | _, _ => none
  | [], [], [] => some 0
  | _, _, _ => none
def ab_dec (ls : List (Nat × Int)) (c c' : ab_K) (al : ab_L) : Bool := match ab_up c.2.1 al ls c.2.2.2 c'.2.2.2 with
  | some b => decide (c'.2.2.1 - c.2.2.1 + b < 0)
  | none => false
section AB8
variable {ty : List Nat} {lv0 lv : mj_L} {al0 al : ab_L}
theorem ab_lin {e K a b x : Int} (h1 : a ≤ x) (h2 : x ≤ b) : e * (K - x) ≤ max (e * (K - a)) (e * (K - b)) := by
  have h := (ab_mul_1 (a := K - b) (b := K - a) (x := K - x) (y := e) (by omega) (by omega)).2
  rw [Int.mul_comm (K - x) e, Int.mul_comm (K - b) e, Int.mul_comm (K - a) e] at h
  omega
theorem ab_lin0 {e K a b x : Int} (h1 : a ≤ x) (h2 : x ≤ b) (g1 : 0 ≤ e * (K - a)) (g2 : 0 ≤ e * (K - b)) : 0 ≤ e * (K - x) := by
  have h := (ab_mul_1 (a := K - b) (b := K - a) (x := K - x) (y := e) (by omega) (by omega)).1
  rw [Int.mul_comm (K - x) e, Int.mul_comm (K - b) e, Int.mul_comm (K - a) e] at h
  omega
theorem ab_val_in {V : ab_V} {l : Nat} (hl : ab_l ty al lv) (h : ab_get al l = some V) (hk : V.1 ≤ 1) : V.2.1 ≤ ab_val lv l ∧ ab_val lv l ≤ V.2.2.1 := by
  obtain ⟨v, e1, e2⟩ := hl _ _ h
  obtain ⟨z, z1, z2⟩ := ab_m_num e2 hk
  unfold ab_val
  rw [e1]
  dsimp only
  rw [z1]
  exact z2
theorem ab_nn_ok (hl : ab_l ty al lv) : ∀ (ls : List (Nat × Int)) (Cs : List Int), ab_nn al ls Cs = true → 0 ≤ ab_rsum lv ls Cs := by
  intro ls
  induction ls with
  | nil => intro Cs _; exact Int.le_refl 0
  | cons q ls ih =>
    intro Cs h
    obtain ⟨l, K⟩ := q
    cases Cs with
    | nil => exact Int.le_refl 0
    | cons C Cs =>
      simp only [ab_nn, Bool.and_eq_true, Bool.or_eq_true, decide_eq_true_eq] at h
      have h2 := ih Cs h.2
      show 0 ≤ C * (K - ab_val lv l) + ab_rsum lv ls Cs
      have h3 : 0 ≤ C * (K - ab_val lv l) := by
        rcases h.1 with rfl | h1
        · simp
        · split at h1
          · rename_i V e
            simp only [Bool.and_eq_true, decide_eq_true_eq] at h1
            obtain ⟨a, b⟩ := ab_val_in hl e h1.1.1
            exact ab_lin0 a b h1.1.2 h1.2
          · cases h1
      omega
theorem ab_low_ok {l : Nat} {K C b : Int} (hl : ab_l ty al0 lv0) (h : ab_low al0 l K C = some b) : -(C * (K - ab_val lv0 l)) ≤ b := by
  unfold ab_low at h
  split at h
  · rename_i e
    subst e
    cases h
    simp
  · split at h
    · rename_i V e
      split at h
      · rename_i hk
        cases h
        obtain ⟨a1, b1⟩ := ab_val_in hl e hk
        have := ab_lin (e := -C) (K := K) a1 b1
        rw [Int.neg_mul] at this
        exact this
      · cases h
    · cases h
theorem ab_one9_ok {l : Nat} {K C C' b : Int} (hl0 : ab_l ty al0 lv0) (hl : ab_l ty al lv) (hd : ab_dl lv0 al lv) (h : ab_one9 al0 al l K C C' = some b) : C' * (K - ab_val lv l) - C * (K - ab_val lv0 l) ≤ b := by
  unfold ab_one9 at h
  split at h
  · rename_i V e
    split at h
    · rename_i hk
      obtain ⟨a1, b1⟩ := ab_val_in hl e hk
      split at h
      · rename_i ho
        cases h
        obtain ⟨u0, z0, u, z, e1, e2, e3, e4, e5⟩ := hd _ _ e ho
        have v0 : ab_val lv0 l = z0 := by unfold ab_val; rw [e1]; dsimp only; rw [e2]; rfl
        have v1 : ab_val lv l = z := by unfold ab_val; rw [e3]; dsimp only; rw [e4]; rfl
        have hb := ab_lin (e := C' - C) (K := K) a1 b1
        have e6 : ab_val lv0 l = ab_val lv l - ((V.2.2.2 : Int) - 1000000) := by omega
        rw [e6]
        generalize ab_val lv l = x at hb ⊢
        generalize ((V.2.2.2 : Int) - 1000000) = d
        have i1 : (C' - C) * (K - x) = C' * (K - x) - C * (K - x) := Int.sub_mul _ _ _
        have i2 : C * (K - (x - d)) = C * (K - x) + C * d := by rw [← Int.mul_add]; congr 1; omega
        omega
      · cases hlow : ab_low al0 l K C with
        | none => rw [hlow] at h; cases h
        | some b0 =>
          rw [hlow] at h
          cases h
          have h1 := ab_low_ok hl0 hlow
          have h2 := ab_lin (e := C') (K := K) a1 b1
          dsimp only
          omega
    · split at h
      · rename_i hc
        subst hc
        have h1 := ab_low_ok hl0 h
        rw [Int.zero_mul]
        omega
      · cases h
  · split at h
    · rename_i hc
      subst hc
      have h1 := ab_low_ok hl0 h
      rw [Int.zero_mul]
      omega
    · cases h
theorem ab_up_ok (hl0 : ab_l ty al0 lv0) (hl : ab_l ty al lv) (hd : ab_dl lv0 al lv) : ∀ (ls : List (Nat × Int)) (Cs Cs' : List Int) (b : Int), ab_up al0 al ls Cs Cs' = some b → ab_rsum lv ls Cs' - ab_rsum lv0 ls Cs ≤ b := by
  intro ls
  induction ls with
  | nil =>
    intro Cs Cs' b h
    cases Cs <;> cases Cs' <;> cases h
    exact Int.le_refl 0
  | cons q ls ih =>
    intro Cs Cs' b h
    obtain ⟨l, K⟩ := q
    cases Cs with
    | nil => cases h
    | cons C Cs =>
      cases Cs' with
      | nil => cases h
      | cons C' Cs' =>
        simp only [ab_up] at h
        split at h
        · rename_i a0 b0 e1 e2
          cases h
          have h1 := ab_one9_ok hl0 hl hd e1
          have h2 := ih Cs Cs' b0 e2
          show C' * (K - ab_val lv l) + ab_rsum lv ls Cs' - (C * (K - ab_val lv0 l) + ab_rsum lv0 ls Cs) ≤ a0 + b0
          omega
        · cases h
theorem ab_dec_ok {ls : List (Nat × Int)} {c c' : ab_K} (hl0 : ab_l ty c.2.1 lv0) (hl : ab_l ty al lv) (hd : ab_dl lv0 al lv) (h : ab_dec ls c c' al = true) : ab_rank ls c' lv < ab_rank ls c lv0 := by
  unfold ab_dec at h
  split at h
  · rename_i b e
    have h1 := ab_up_ok hl0 hl hd _ _ _ _ e
    have h2 := of_decide_eq_true h
    unfold ab_rank
    omega
  · cases h
end AB8
def ab_lle (al bl : ab_L) : Bool := bl.all (fun q => match ab_get al q.1 with
  | some V => ab_le V q.2
  | none => false)
theorem ab_lle_ok {ty : List Nat} {al bl : ab_L} {lv : mj_L} (h : ab_lle al bl = true) (hl : ab_l ty al lv) : ab_l ty bl lv := by
  intro i W e
  unfold ab_get at e
  obtain ⟨q, e1, e2⟩ := Option.map_eq_some_iff.mp e
  have hq : q.1 = i := by simpa using List.find?_some e1
  have hm := List.mem_of_find?_eq_some e1
  have h1 := List.all_eq_true.mp h q hm
  split at h1
  · rename_i V e3
    rw [hq] at e3
    obtain ⟨v, g1, g2⟩ := hl i V e3
    exact ⟨v, g1, by rw [← e2]; exact ab_le_ok h1 g2⟩
  · cases h1
/-- the arguments, as they were at the entry, lie within a way's bounds -/
def ab_oargs (simple : Bool) (al : ab_L) : Nat → List ab_V → List ab_V → Bool
  | _, [], [] => true
  | i, V :: As, W :: Ws => (ab_le V W || (simple && (match ab_get al i with
    | some U => decide (U.2.2.2 = 1000000) && decide (U.1 ≤ 1) && decide (W.1 = V.1) && decide (V.1 ≤ 1) && decide (W.2.1 ≤ U.2.1) && decide (U.2.2.1 ≤ W.2.2.1)
    | none => false))) && ab_oargs simple al (if V.1 = 1 then i + 2 else i + 1) As Ws
  | _, _, _ => false
theorem ab_oargs_ok {ty : List Nat} {simple : Bool} {al : ab_L} {lv0 lv : mj_L} (hl : ab_l ty al lv) (hd : ab_dl lv0 al lv) : ∀ (As Ws : List ab_V) (vs : List Value) (i : Nat), ab_oargs simple al i As Ws = true → ab_args ty As vs → (simple = true → ∀ k v, (k, v) ∈ lv_args i vs → mj_get lv0 k = some v) → ab_args ty Ws vs := by
  intro As
  induction As with
  | nil =>
    intro Ws vs i h ha _
    cases Ws with
    | nil => exact ha
    | cons W Ws => exact absurd h (by simp [ab_oargs])
  | cons V As ih =>
    intro Ws vs i h ha hlv
    cases Ws with
    | nil => exact absurd h (by simp [ab_oargs])
    | cons W Ws =>
      cases vs with
      | nil => exact absurd ha (by simp [ab_args])
      | cons v vs =>
        simp only [ab_oargs, Bool.and_eq_true, Bool.or_eq_true] at h
        have hcat : v.category = if V.1 = 1 then 2 else 1 := by
          rcases ha.1 with ⟨k, x, rfl, -⟩ | ⟨k, x, rfl, -⟩ | ⟨k, x, rfl, -⟩ <;> rw [k] <;> rfl
        refine ⟨?_, ih Ws vs _ h.2 ha.2 (fun hs k w hm => hlv hs k w ?_)⟩
        · rcases h.1 with h1 | ⟨hs, h1⟩
          · exact ab_le_ok h1 ha.1
          · split at h1
            · rename_i U e
              simp only [Bool.and_eq_true, decide_eq_true_eq] at h1
              obtain ⟨⟨⟨⟨⟨c1, c2⟩, c3⟩, c4⟩, c5⟩, c6⟩ := h1
              obtain ⟨u0, z0, u, z, e1, e2, e3, e4, e5⟩ := hd _ _ e (by rw [c1]; decide)
              have hg := hlv hs i v (by simp [lv_args])
              rw [hg] at e1
              cases e1
              obtain ⟨w, f1, f2⟩ := hl _ _ e
              rw [e3] at f1
              cases f1
              obtain ⟨z9, f3, f4⟩ := ab_m_num f2 c2
              rw [e4] at f3
              cases f3
              have hz : z = z0 := by rw [e5, c1]; simp
              subst hz
              obtain ⟨p1, p2⟩ := f4
              simp only at p1 p2
              rcases ha.1 with ⟨k, x, rfl, -⟩ | ⟨k, x, rfl, -⟩ | ⟨k, -⟩
              · have : x.toInt = z := Option.some.inj e2
                exact Or.inl ⟨by omega, x, rfl, by constructor <;> simp only <;> omega⟩
              · have : x.toInt = z := Option.some.inj e2
                exact Or.inr (Or.inl ⟨by omega, x, rfl, by constructor <;> simp only <;> omega⟩)
              · omega
            · cases h1
        · show (k, w) ∈ (i, v) :: lv_args (if v.category = 2 then i + 2 else i + 1) vs
          refine List.mem_cons_of_mem _ ?_
          rw [hcat]
          by_cases hv : V.1 = 1
          · rw [if_pos hv] at hm ⊢
            rw [if_pos rfl]
            exact hm
          · rw [if_neg hv] at hm ⊢
            rw [if_neg (by decide)]
            exact hm
end
section
/-- all that the walk looks at: the table of methods known, types, the method, its arguments' bounds, its ways out, ranked locals, cuts -/
abbrev ab_C : Type := List ab_M × ab_T × mj_M × List ab_V × List ab_O × List (Nat × Int) × List ab_K × Bool
def ab_retok (R : Option FieldType) (V : ab_V) : Bool := match R with
  | some .int => decide (V.1 = 0)
  | some .boolean => decide (V.1 = 0) && decide (0 ≤ V.2.1) && decide (V.2.2.1 ≤ 1)
  | _ => false
def ab_isret (simple : Bool) (args : List ab_V) (outs : List ab_O) (R : Option FieldType) (al : ab_L) (A : List ab_V) : Bool := match A with
  | [V] => ab_retok R V && outs.any (fun o => (match o.1 with
    | some W => ab_le V W
    | none => false) && ab_oargs simple al 0 args o.2)
  | _ => false
def ab_vret (simple : Bool) (args : List ab_V) (outs : List ab_O) (R : Option FieldType) (al : ab_L) (A : List ab_V) : Bool := A.isEmpty && R.isNone && outs.any (fun o => o.1.isNone && ab_oargs simple al 0 args o.2)
/-- the ways of one instruction, calls too -/
def ab_ways (X : ab_C) (ins : Instr) (len pc : Nat) (al : ab_L) (A : List ab_V) : Option ab_W := match ins with
  | .invokevirtual idx => match mj_ent X.2.2.1 idx with
    | some (_, kd, j, _) => match mj_meths[j]? with
      | some M' => match A[M'.2.2.2.2.2.1]? with
        | some (k, t, _, _) => match X.2.1[t.toNat]? with
          | some (tag, _, _) => if len = 3 ∧ kd = 2 ∧ k = 2 ∧ M'.2.2.2.2.2.2.1 = 1 ∧ tag = M'.2.2.2.2.1 ∧ tag < 11 then ab_call X.1 X.2.2.1 M' j (M'.2.2.2.2.2.1 + 1) pc al A else none
          | none => none
        | none => none
      | none => none
    | none => none
  | .invokestatic idx => match mj_ent X.2.2.1 idx with
    | some (_, kd, j, _) => if kd = 2 then (match mj_meths[j]? with
      | some M' => if len = 3 ∧ M'.2.2.2.2.2.2.1 = 0 then ab_call X.1 X.2.2.1 M' j M'.2.2.2.2.2.1 pc al A else none
      | none => none) else ab_do X.2.1 X.2.2.1 ins len pc al A
    | none => none
  | ins => ab_do X.2.1 X.2.2.1 ins len pc al A
def ab_chk (X : ab_C) (cur : ab_K) : Nat → Bool → (Nat × ab_L × List ab_V) → Bool
  | 0, _, _ => false
  | f + 1, fst, (pc, al, A) =>
    if (!fst && !X.2.2.2.2.2.2.2 && X.2.2.2.2.2.2.1.any (fun c => c.1 == pc)) = true then
      A.isEmpty && X.2.2.2.2.2.2.1.any (fun c => c.1 == pc && ab_lle al c.2.1 && ab_dec X.2.2.2.2.2.1 cur c al)
    else match decode X.2.2.1.2.1 pc with
      | .error _ => false
      | .ok (ins, len) =>
        if ins = .ireturn then decide (len = 1) && ab_isret X.2.2.2.2.2.2.2 X.2.2.2.1 X.2.2.2.2.1 X.2.2.1.2.2.2.1 al A
        else if ins = .return_ then decide (len = 1) && ab_vret X.2.2.2.2.2.2.2 X.2.2.2.1 X.2.2.2.2.1 X.2.2.1.2.2.2.1 al A
        else match ab_ways X ins len pc al A with
          | some ws => ws.all (fun w => ab_chk X cur f false w)
          | none => false
/-- the method ends from there, in one of the ways -/
def ab_goal (ty : List Nat) (X : ab_C) (vs : List Value) (S : mj_S) : Prop := ∃ r h', mj_runs S r h' ∧ ab_H ty X.2.1 h' ∧ ∃ out ∈ X.2.2.2.2.1, ab_ret ty out.1 r ∧ ab_args ty out.2 vs
theorem ab_step_goal {ty : List Nat} {X : ab_C} {vs : List Value} {S S' : mj_S} (h1 : mj_one none S S') (h2 : ab_goal ty X vs S') : ab_goal ty X vs S := by
  obtain ⟨r, h', e1, e2⟩ := h2
  exact ⟨r, h', mj_runs.step h1 e1, e2⟩
set_option maxHeartbeats 2000000 in
theorem ab_ways_ok {ty : List Nat} {X : ab_C} {vs : List Value} {lv0 lv : mj_L} {ins : Instr} {len pc : Nat} {al : ab_L} {A : List ab_V} {st : List Value} {h : mj_H} {ws : ab_W} (hsums : ∀ s ∈ X.1, ab_sum ty X.2.1 s) (hd : decode X.2.2.1.2.1 pc = .ok (ins, len)) (hg : ab_ways X ins len pc al A = some ws) (hH : ab_H ty X.2.1 h) (hl : ab_l ty al lv) (hdl : ab_dl lv0 al lv) (hs : ab_st ty lv A st)
    (k : ∀ w ∈ ws, ∀ lv' st' h', ab_l ty w.2.1 lv' → ab_dl lv0 w.2.1 lv' → ab_st ty lv' w.2.2 st' → ab_H ty X.2.1 h' → ab_goal ty X vs (X.2.2.1, w.1, lv', st', h')) : ab_goal ty X vs (X.2.2.1, pc, lv, st, h) := by
  have hdo : ab_do X.2.1 X.2.2.1 ins len pc al A = some ws → ab_goal ty X vs (X.2.2.1, pc, lv, st, h) := by
    intro e
    obtain ⟨S', h1, w, g1, lv', st', h', rfl, g2, g3, g4, g5⟩ := ab_do_ok hd e hH hl hdl hs
    exact ab_step_goal h1 (k w g1 lv' st' h' g2 g3 g4 g5)
  cases ins with
  | invokevirtual idx =>
    simp only [ab_ways] at hg
    split at hg
    · rename_i ix kd j zz he
      split at hg
      · rename_i M' hj
        split at hg
        · rename_i kk t z1 z2 hA
          split at hg
          · rename_i tag z3 z4 hT
            split at hg
            · rename_i hc
              obtain ⟨hlen, hkd, hkk, c1, c2, c3⟩ := hc
              subst hlen; subst hkd; subst hkk
              obtain ⟨v, s1, s2⟩ := ab_st_get _ _ _ _ hs hA
              obtain ⟨a, rfl, ha⟩ := ab_s_2 s2
              obtain ⟨tg, ln, es, xs, g1, g2, g3, g4⟩ := hH.2 a _ ha
              rw [hT] at g1
              cases g1
              obtain ⟨hfit, r1, h1, e1, e2, w, w1, w2, w3, w4, w5⟩ := ab_call_ok hsums hj hg hH hl hdl hs
              obtain ⟨r, h', e3, e4⟩ := k w w1 lv _ h1 w3 w4 w5 e2
              refine ⟨r, h', mj_runs.call (mj_calls_v hd he hj s1 g2 (by rw [c1, c2]) rfl ⟨c3, hfit⟩) e1 ?_, e4⟩
              rw [w2] at e3
              exact e3
            · cases hg
          · cases hg
        · cases hg
      · cases hg
    · cases hg
  | invokestatic idx =>
    simp only [ab_ways] at hg
    split at hg
    · rename_i ix kd j zz he
      split at hg
      · rename_i hkd
        subst hkd
        split at hg
        · rename_i M' hj
          split at hg
          · rename_i hc
            obtain ⟨hlen, c1⟩ := hc
            subst hlen
            obtain ⟨hfit, r1, h1, e1, e2, w, w1, w2, w3, w4, w5⟩ := ab_call_ok hsums hj hg hH hl hdl hs
            obtain ⟨r, h', e3, e4⟩ := k w w1 lv _ h1 w3 w4 w5 e2
            refine ⟨r, h', mj_runs.call (mj_calls_s hd he hj c1 rfl hfit) e1 ?_, e4⟩
            rw [w2] at e3
            exact e3
          · cases hg
        · cases hg
      · exact hdo hg
    · cases hg
  | _ => exact hdo hg
theorem ab_retok_ok {R : Option FieldType} {V : ab_V} {ty : List Nat} {lv : mj_L} {v : Value} (h : ab_retok R V = true) (hs : ab_s ty lv V v) : ∃ (x : Int32) (t : FieldType), v = .int x ∧ R = some t ∧ narrow t (.int x) = .int x ∧ ab_m ty V v := by
  unfold ab_retok at h
  split at h
  · have hk := of_decide_eq_true h
    obtain ⟨k, l, u, o⟩ := V
    dsimp only at hk
    subst hk
    obtain ⟨x, rfl, hx, -⟩ := ab_s_0 hs
    exact ⟨x, .int, rfl, rfl, rfl, Or.inl ⟨rfl, x, rfl, hx⟩⟩
  · simp only [Bool.and_eq_true, decide_eq_true_eq] at h
    obtain ⟨k, l, u, o⟩ := V
    dsimp only at h
    obtain ⟨⟨rfl, h1⟩, h2⟩ := h
    obtain ⟨x, rfl, hx, -⟩ := ab_s_0 hs
    refine ⟨x, .boolean, rfl, rfl, ?_, Or.inl ⟨rfl, x, rfl, hx⟩⟩
    obtain ⟨a, b⟩ := hx
    simp only at a b
    rcases ab_01 (x := x) (by omega) (by omega) with rfl | rfl <;> decide
  · cases h
theorem mj_ret_n {M : mj_M} {pc : Nat} {lv : mj_L} {h : mj_H} {v : Int32} {t : FieldType} (hd : decode M.2.1 pc = .ok (.ireturn, 1)) (hr : M.2.2.2.1 = some t) (hn : narrow t (.int v) = .int v) : ∀ kc k : mj_S → mj_O, mj_step none kc k (M, pc, lv, [.int v], h) = some (some (.int v), h) := by
  refine mj_ret_of hd fun kc k => ?_
  unfold mj_do
  dsimp only
  rw [if_pos rfl, hr]
  dsimp only
  exact if_pos hn
theorem mj_ret_v {M : mj_M} {pc : Nat} {lv : mj_L} {h : mj_H} (hd : decode M.2.1 pc = .ok (.return_, 1)) (hr : M.2.2.2.1 = none) : ∀ kc k : mj_S → mj_O, mj_step none kc k (M, pc, lv, [], h) = some (none, h) := by
  refine mj_ret_of hd fun kc k => ?_
  unfold mj_do
  dsimp only
  rw [if_pos rfl, hr]
set_option maxHeartbeats 2000000 in
theorem ab_chk_ok {ty : List Nat} {X : ab_C} {vs : List Value} {lv0 : mj_L} {cur : ab_K} (hsums : ∀ s ∈ X.1, ab_sum ty X.2.1 s) (hvs : ab_args ty X.2.2.2.1 vs) (hl0 : ab_l ty cur.2.1 lv0)
    (IH : X.2.2.2.2.2.2.2 = false → ∀ c ∈ X.2.2.2.2.2.2.1, ∀ lv h, ab_l ty c.2.1 lv → ab_H ty X.2.1 h → ab_rank X.2.2.2.2.2.1 c lv < ab_rank X.2.2.2.2.2.1 cur lv0 → ab_goal ty X vs (X.2.2.1, c.1, lv, [], h))
    (hsim : X.2.2.2.2.2.2.2 = true → ∀ k v, (k, v) ∈ lv_args 0 vs → mj_get lv0 k = some v) : ∀ (f : Nat) (fst : Bool) (w : Nat × ab_L × List ab_V) (lv : mj_L) (st : List Value) (h : mj_H), ab_chk X cur f fst w = true → ab_l ty w.2.1 lv → ab_dl lv0 w.2.1 lv → ab_st ty lv w.2.2 st → ab_H ty X.2.1 h → ab_goal ty X vs (X.2.2.1, w.1, lv, st, h) := by
  intro f
  induction f with
  | zero => intro fst w lv st h hc; cases hc
  | succ f ih =>
    intro fst w lv st h hc hl hdl hs hH
    obtain ⟨pc, al, A⟩ := w
    unfold ab_chk at hc
    split at hc
    · rename_i hcut
      rw [Bool.and_eq_true] at hc hcut
      have hsf : X.2.2.2.2.2.2.2 = false := by
        have := hcut.1
        rw [Bool.and_eq_true] at this
        simpa using this.2
      obtain ⟨c, c1, c2⟩ := List.any_eq_true.mp hc.2
      rw [Bool.and_eq_true, Bool.and_eq_true] at c2
      have hpc : c.1 = pc := by simpa using c2.1.1
      have hA : A = [] := List.isEmpty_iff.mp hc.1
      subst hA
      cases st with
      | cons v r => exact absurd hs (by simp [ab_st])
      | nil =>
        have hg := IH hsf c c1 lv h (ab_lle_ok c2.1.2 hl) hH (ab_dec_ok hl0 hl hdl c2.2)
        rw [hpc] at hg
        exact hg
    · split at hc
      · cases hc
      · rename_i ins len hd
        split at hc
        · rename_i hi
          subst hi
          rw [Bool.and_eq_true, decide_eq_true_eq] at hc
          obtain ⟨hlen, hc⟩ := hc
          subst hlen
          unfold ab_isret at hc
          split at hc
          · rename_i V
            rw [Bool.and_eq_true] at hc
            obtain ⟨v, r0, rfl, s1, hs1⟩ := ab_st_cons hs
            cases r0 with
            | cons v2 r => exact absurd hs1 (by simp [ab_st])
            | nil =>
              obtain ⟨x, t, rfl, q1, q2, q3⟩ := ab_retok_ok hc.1 s1
              obtain ⟨o, o1, o2⟩ := List.any_eq_true.mp hc.2
              rw [Bool.and_eq_true] at o2
              refine ⟨some (.int x), h, mj_runs.ret (mj_ret_n hd q1 q2), hH, o, o1, ?_, ab_oargs_ok hl hdl _ _ _ _ o2.2 hvs hsim⟩
              have h3 := o2.1
              split at h3
              · rename_i W e
                rw [e]
                exact ab_le_ok h3 q3
              · cases h3
          · cases hc
        · split at hc
          · rename_i hi
            subst hi
            rw [Bool.and_eq_true, decide_eq_true_eq] at hc
            obtain ⟨hlen, hc⟩ := hc
            subst hlen
            unfold ab_vret at hc
            rw [Bool.and_eq_true, Bool.and_eq_true] at hc
            have hA : A = [] := List.isEmpty_iff.mp hc.1.1
            subst hA
            cases st with
            | cons v r => exact absurd hs (by simp [ab_st])
            | nil =>
              obtain ⟨o, o1, o2⟩ := List.any_eq_true.mp hc.2
              rw [Bool.and_eq_true] at o2
              refine ⟨none, h, mj_runs.ret (mj_ret_v hd (Option.isNone_iff_eq_none.mp hc.1.2)), hH, o, o1, ?_, ab_oargs_ok hl hdl _ _ _ _ o2.2 hvs hsim⟩
              rw [Option.isNone_iff_eq_none.mp o2.1]
              trivial
          · split at hc
            · rename_i ws hw
              refine ab_ways_ok hsums hd hw hH hl hdl hs (fun w hm lv' st' h' g1 g2 g3 g4 => ?_)
              exact ih false w lv' st' h' (List.all_eq_true.mp hc w hm) g1 g2 g3 g4
            · cases hc
/-- locals at the entry -/
def ab_largs : Nat → List ab_V → ab_L
  | _, [] => []
  | i, V :: As => (i, (V.1, V.2.1, V.2.2.1, if V.1 ≤ 1 then 1000000 else 0)) :: ab_largs (if V.1 = 1 then i + 2 else i + 1) As
def ab_orig (al : ab_L) : Bool := al.all (fun q => decide (q.2.2.2.2 = 0) || (decide (q.2.2.2.2 = 1000000) && decide (q.2.1 ≤ 1)))
/-- the whole check of a method: its entry is a cut that lies within the first one -/
def ab_ok (X : ab_C) (F : Nat) : Bool := match X.2.2.2.2.2.2.1 with
  | [] => false
  | c0 :: _ => decide (c0.1 = 0) && decide (c0.2.1 = ab_largs 0 X.2.2.2.1) && (X.2.2.2.2.2.2.1).all (fun c => decide (0 ≤ c.2.2.1) && ab_nn c.2.1 X.2.2.2.2.2.1 c.2.2.2 && ab_orig c.2.1 && ab_chk X c F true (c.1, c.2.1, []))
theorem ab_orig_dl {ty : List Nat} {al : ab_L} {lv : mj_L} (h : ab_orig al = true) (hl : ab_l ty al lv) : ab_dl lv al lv := by
  intro i V e hV
  have e0 := e
  unfold ab_get at e
  obtain ⟨q, e1, e2⟩ := Option.map_eq_some_iff.mp e
  have h1 := List.all_eq_true.mp h q (List.mem_of_find?_eq_some e1)
  rw [Bool.or_eq_true, Bool.and_eq_true, decide_eq_true_eq, decide_eq_true_eq, decide_eq_true_eq] at h1
  rw [e2] at h1
  rcases h1 with h1 | ⟨h1, h2⟩
  · exact absurd h1 hV
  · obtain ⟨v, g1, g2⟩ := hl i V e0
    obtain ⟨z, g3, -⟩ := ab_m_num g2 h2
    exact ⟨v, z, v, z, g1, g3, g1, g3, by rw [h1]; simp⟩
theorem ab_largs_get : ∀ (As : List ab_V) (vs : List Value) (i j : Nat) (V : ab_V), ab_get (ab_largs i As) j = some V → ∀ ty, ab_args ty As vs → ∃ v, mj_get (lv_args i vs) j = some v ∧ ab_m ty V v := by
  intro As
  induction As with
  | nil => intro vs i j V h; cases h
  | cons W As ih =>
    intro vs i j V h ty ha
    cases vs with
    | nil => exact absurd ha (by simp [ab_args])
    | cons v vs =>
      have hcat : v.category = if W.1 = 1 then 2 else 1 := by
        rcases ha.1 with ⟨k, x, rfl, -⟩ | ⟨k, x, rfl, -⟩ | ⟨k, x, rfl, -⟩ <;> rw [k] <;> rfl
      simp only [ab_largs] at h
      simp only [lv_args]
      by_cases e : j = i
      · subst e
        rw [ab_get_self] at h
        cases h
        exact ⟨v, mj_get_self, ab_m_o _ ha.1⟩
      · rw [ab_get_cons_ne e] at h
        rw [mj_get_cons_ne e]
        have hi : (if v.category = 2 then i + 2 else i + 1) = (if W.1 = 1 then i + 2 else i + 1) := by
          rw [hcat]
          by_cases hv : W.1 = 1
          · rw [if_pos hv, if_pos hv, if_pos rfl]
          · rw [if_neg hv, if_neg hv, if_neg (by decide)]
        rw [hi]
        exact ih vs _ j V h ty ha.2
theorem lv_args_ge : ∀ (vs : List Value) (i k : Nat) (v : Value), (k, v) ∈ lv_args i vs → i ≤ k := by
  intro vs
  induction vs with
  | nil => intro i k v h; cases h
  | cons w vs ih =>
    intro i k v h
    rcases List.mem_cons.mp h with e | h
    · cases e; exact Nat.le_refl _
    · have := ih _ _ _ h
      split at this <;> omega
theorem lv_args_get : ∀ (vs : List Value) (i k : Nat) (v : Value), (k, v) ∈ lv_args i vs → mj_get (lv_args i vs) k = some v := by
  intro vs
  induction vs with
  | nil => intro i k v h; cases h
  | cons w vs ih =>
    intro i k v h
    rcases List.mem_cons.mp h with e | h
    · cases e
      exact mj_get_self
    · have hg := lv_args_ge _ _ _ _ h
      show mj_get ((i, w) :: lv_args (if w.category = 2 then i + 2 else i + 1) vs) k = some v
      rw [mj_get_cons_ne (by split at hg <;> omega)]
      exact ih _ _ _ h
/-- A METHOD THAT IS CHECKED ends from every typed heap and all arguments within their bounds, in one of its ways -/
theorem ab_ok_sum {ty : List Nat} {X : ab_C} {F j : Nat} (hsums : ∀ s ∈ X.1, ab_sum ty X.2.1 s) (hj : mj_meths[j]? = some X.2.2.1) (h : ab_ok X F = true) : ab_sum ty X.2.1 (j, X.2.2.2.1, X.2.2.2.2.1) := by
  intro M vs h0 hM hvs hH
  rw [hj] at hM
  cases hM
  unfold ab_ok at h
  split at h
  · cases h
  · rename_i c0 cs hcs
    rw [Bool.and_eq_true, Bool.and_eq_true, decide_eq_true_eq, decide_eq_true_eq] at h
    obtain ⟨⟨k1, k2⟩, k3⟩ := h
    have hall : ∀ c ∈ X.2.2.2.2.2.2.1, 0 ≤ c.2.2.1 ∧ ab_nn c.2.1 X.2.2.2.2.2.1 c.2.2.2 = true ∧ ab_orig c.2.1 = true ∧ ab_chk X c F true (c.1, c.2.1, []) = true := by
      intro c hc
      have := List.all_eq_true.mp k3 c hc
      rw [Bool.and_eq_true, Bool.and_eq_true, Bool.and_eq_true, decide_eq_true_eq] at this
      exact ⟨this.1.1.1, this.1.1.2, this.1.2, this.2⟩
    have hmem : c0 ∈ X.2.2.2.2.2.2.1 := by rw [hcs]; exact List.mem_cons_self
    have hl0 : ab_l ty c0.2.1 (lv_args 0 vs) := by
      intro i V e
      rw [k2] at e
      exact ab_largs_get _ _ _ _ _ e ty hvs
    by_cases hsf : X.2.2.2.2.2.2.2 = true
    · obtain ⟨g1, g2, g3, g4⟩ := hall c0 hmem
      have := ab_chk_ok hsums hvs hl0 (fun q => by rw [hsf] at q; cases q) (fun _ k v hm => lv_args_get _ _ _ _ hm) F true (c0.1, c0.2.1, []) (lv_args 0 vs) [] h0 g4 hl0 (ab_orig_dl g3 hl0) trivial hH
      rw [k1] at this
      exact this
    · have key : ∀ (n : Nat) (c : ab_K), c ∈ X.2.2.2.2.2.2.1 → ∀ lv h, ab_l ty c.2.1 lv → ab_H ty X.2.1 h → (ab_rank X.2.2.2.2.2.1 c lv).toNat = n → ab_goal ty X vs (X.2.2.1, c.1, lv, [], h) := by
        intro n
        induction n using Nat.strongRecOn with
        | ind n ih =>
          intro c hc lv h hl hH hn
          obtain ⟨g1, g2, g3, g4⟩ := hall c hc
          have hr0 := ab_nn_ok hl _ _ g2
          refine ab_chk_ok hsums hvs hl (fun _ c' hc' lv' h' hl' hH' hlt => ?_) (fun q => absurd q hsf) F true (c.1, c.2.1, []) lv [] h g4 hl (ab_orig_dl g3 hl) trivial hH
          obtain ⟨f1, f2, f3, f4⟩ := hall c' hc'
          have hr1 := ab_nn_ok hl' _ _ f2
          refine ih _ ?_ c' hc' lv' h' hl' hH' rfl
          unfold ab_rank at hlt hn ⊢
          omega
      have := key _ c0 hmem (lv_args 0 vs) h0 hl0 hH rfl
      rw [k1] at this
      exact this
end
section
/-- the type of each cell, and the types -/
def ab_ty : List Nat := [0, 1, 2, 3, 4, 5, 6, 7, 8, 9, 10, 11, 12, 13, 14, 15, 16, 17, 18, 19, 20, 21, 22, 23, 24, 25, 26, 27, 28, 29, 30, 31, 32, 33, 34, 35, 36, 37, 38, 39, 40, 41, 42, 43, 44, 45, 46, 47, 48, 49, 50, 51, 52, 53, 54, 55, 56, 57, 58, 59, 60, 61, 62, 63, 64, 65, 66, 67, 68, 69, 70, 71, 72, 73, 74, 75, 76, 77, 78, 79, 80, 81, 82, 83, 84, 85, 86, 87, 88, 89, 90, 91, 92, 93, 94, 95, 96, 97, 98, 99, 100, 101, 102, 103, 104, 105, 106, 107, 108, 109, 110, 111, 112, 113, 114, 115, 116, 117, 118, 119, 120, 121, 122, 123, 124, 125, 126, 127, 128, 129, 130, 131, 132, 133, 134, 135, 136, 137, 138, 139, 140, 141, 142, 143, 144, 145, 146, 147, 148, 149, 150, 151, 152, 153, 154, 155, 156, 157, 158, 159, 160, 161, 162, 163, 164, 165, 166, 167, 168, 169, 170, 171, 172, 173, 174, 175, 176, 177, 178, 179, 180, 181, 182, 183, 184, 185, 186, 187, 188, 189, 190, 191, 192, 193, 194, 195, 196, 197, 198, 199, 200, 201, 202, 203, 204, 205, 206, 207, 208, 209, 210, 211, 212, 213, 214, 215, 216, 217, 218, 219, 220, 221, 222, 223, 224, 225, 226, 227, 228, 229, 230, 231, 232, 233, 234, 235, 236, 237, 238, 239, 240, 241, 242, 243, 244, 245, 246, 247, 248, 249, 250, 251, 252, 253]
def ab_TT : ab_T := [(9, 10, [(2, 1, 0, 0), (2, 8, 0, 0), (2, 13, 0, 0), (2, 19, 0, 0), (2, 201, 0, 0), (2, 217, 0, 0), (2, 221, 0, 0), (2, 224, 0, 0), (2, 227, 0, 0), (0, 0, 2147483647, 0)]),
  (8, 6, [(2, 2, 0, 0), (2, 3, 0, 0), (0, 0, 240, 0), (0, -2147483648, 2147483647, 0), (0, 0, 3, 0), (0, -2147483648, 2147483647, 0)]),
  (101, 240, [(0, 0, 65535, 0)]),
  (4, 9, [(0, 0, 1, 0), (0, 0, 2, 0), (0, 0, 4, 0), (0, 0, 9, 0), (0, 0, 5, 0), (2, 4, 0, 0), (2, 5, 0, 0), (2, 6, 0, 0), (2, 7, 0, 0)]),
  (100, 9, [(0, -1, 8, 0)]),
  (100, 9, [(0, 0, 7, 0)]),
  (100, 5, [(0, 0, 511, 0)]),
  (100, 5, [(0, 0, 99, 0)]),
  (4, 9, [(0, 0, 1, 0), (0, 0, 2, 0), (0, 0, 4, 0), (0, 0, 9, 0), (0, 0, 5, 0), (2, 9, 0, 0), (2, 10, 0, 0), (2, 11, 0, 0), (2, 12, 0, 0)]),
  (100, 9, [(0, -1, 8, 0)]),
  (100, 9, [(0, 0, 7, 0)]),
  (100, 5, [(0, 0, 511, 0)]),
  (100, 5, [(0, 0, 99, 0)]),
  (7, 7, [(2, 14, 0, 0), (2, 15, 0, 0), (2, 16, 0, 0), (2, 17, 0, 0), (2, 18, 0, 0), (0, -2147483648, 2147483647, 0), (0, -2147483648, 2147483647, 0)]),
  (100, 9, [(0, 0, 16777215, 0)]),
  (100, 9, [(0, 0, 7, 0)]),
  (100, 9, [(0, -1, 8, 0)]),
  (100, 5, [(0, 0, 511, 0)]),
  (100, 5, [(0, -2147483648, 2147483647, 0)]),
  (3, 3, [(2, 20, 0, 0), (0, 0, 29, 0), (0, 0, 30, 0)]),
  (103, 30, [(2, 21, 0, 0), (2, 27, 0, 0), (2, 33, 0, 0), (2, 39, 0, 0), (2, 45, 0, 0), (2, 51, 0, 0), (2, 57, 0, 0), (2, 63, 0, 0), (2, 69, 0, 0), (2, 75, 0, 0), (2, 81, 0, 0), (2, 87, 0, 0), (2, 93, 0, 0), (2, 99, 0, 0), (2, 105, 0, 0), (2, 111, 0, 0), (2, 117, 0, 0), (2, 123, 0, 0), (2, 129, 0, 0), (2, 135, 0, 0), (2, 141, 0, 0), (2, 147, 0, 0), (2, 153, 0, 0), (2, 159, 0, 0), (2, 165, 0, 0), (2, 171, 0, 0), (2, 177, 0, 0), (2, 183, 0, 0), (2, 189, 0, 0), (2, 195, 0, 0)]),
  (7, 7, [(2, 22, 0, 0), (2, 23, 0, 0), (2, 24, 0, 0), (2, 25, 0, 0), (2, 26, 0, 0), (0, -2147483648, 2147483647, 0), (0, -2147483648, 2147483647, 0)]),
  (100, 9, [(0, 0, 16777215, 0)]),
  (100, 9, [(0, 0, 7, 0)]),
  (100, 9, [(0, -1, 8, 0)]),
  (100, 5, [(0, 0, 511, 0)]),
  (100, 5, [(0, -2147483648, 2147483647, 0)]),
  (7, 7, [(2, 28, 0, 0), (2, 29, 0, 0), (2, 30, 0, 0), (2, 31, 0, 0), (2, 32, 0, 0), (0, -2147483648, 2147483647, 0), (0, -2147483648, 2147483647, 0)]),
  (100, 9, [(0, 0, 16777215, 0)]),
  (100, 9, [(0, 0, 7, 0)]),
  (100, 9, [(0, -1, 8, 0)]),
  (100, 5, [(0, 0, 511, 0)]),
  (100, 5, [(0, -2147483648, 2147483647, 0)]),
  (7, 7, [(2, 34, 0, 0), (2, 35, 0, 0), (2, 36, 0, 0), (2, 37, 0, 0), (2, 38, 0, 0), (0, -2147483648, 2147483647, 0), (0, -2147483648, 2147483647, 0)]),
  (100, 9, [(0, 0, 16777215, 0)]),
  (100, 9, [(0, 0, 7, 0)]),
  (100, 9, [(0, -1, 8, 0)]),
  (100, 5, [(0, 0, 511, 0)]),
  (100, 5, [(0, -2147483648, 2147483647, 0)]),
  (7, 7, [(2, 40, 0, 0), (2, 41, 0, 0), (2, 42, 0, 0), (2, 43, 0, 0), (2, 44, 0, 0), (0, -2147483648, 2147483647, 0), (0, -2147483648, 2147483647, 0)]),
  (100, 9, [(0, 0, 16777215, 0)]),
  (100, 9, [(0, 0, 7, 0)]),
  (100, 9, [(0, -1, 8, 0)]),
  (100, 5, [(0, 0, 511, 0)]),
  (100, 5, [(0, -2147483648, 2147483647, 0)]),
  (7, 7, [(2, 46, 0, 0), (2, 47, 0, 0), (2, 48, 0, 0), (2, 49, 0, 0), (2, 50, 0, 0), (0, -2147483648, 2147483647, 0), (0, -2147483648, 2147483647, 0)]),
  (100, 9, [(0, 0, 16777215, 0)]),
  (100, 9, [(0, 0, 7, 0)]),
  (100, 9, [(0, -1, 8, 0)]),
  (100, 5, [(0, 0, 511, 0)]),
  (100, 5, [(0, -2147483648, 2147483647, 0)]),
  (7, 7, [(2, 52, 0, 0), (2, 53, 0, 0), (2, 54, 0, 0), (2, 55, 0, 0), (2, 56, 0, 0), (0, -2147483648, 2147483647, 0), (0, -2147483648, 2147483647, 0)]),
  (100, 9, [(0, 0, 16777215, 0)]),
  (100, 9, [(0, 0, 7, 0)]),
  (100, 9, [(0, -1, 8, 0)]),
  (100, 5, [(0, 0, 511, 0)]),
  (100, 5, [(0, -2147483648, 2147483647, 0)]),
  (7, 7, [(2, 58, 0, 0), (2, 59, 0, 0), (2, 60, 0, 0), (2, 61, 0, 0), (2, 62, 0, 0), (0, -2147483648, 2147483647, 0), (0, -2147483648, 2147483647, 0)]),
  (100, 9, [(0, 0, 16777215, 0)]),
  (100, 9, [(0, 0, 7, 0)]),
  (100, 9, [(0, -1, 8, 0)]),
  (100, 5, [(0, 0, 511, 0)]),
  (100, 5, [(0, -2147483648, 2147483647, 0)]),
  (7, 7, [(2, 64, 0, 0), (2, 65, 0, 0), (2, 66, 0, 0), (2, 67, 0, 0), (2, 68, 0, 0), (0, -2147483648, 2147483647, 0), (0, -2147483648, 2147483647, 0)]),
  (100, 9, [(0, 0, 16777215, 0)]),
  (100, 9, [(0, 0, 7, 0)]),
  (100, 9, [(0, -1, 8, 0)]),
  (100, 5, [(0, 0, 511, 0)]),
  (100, 5, [(0, -2147483648, 2147483647, 0)]),
  (7, 7, [(2, 70, 0, 0), (2, 71, 0, 0), (2, 72, 0, 0), (2, 73, 0, 0), (2, 74, 0, 0), (0, -2147483648, 2147483647, 0), (0, -2147483648, 2147483647, 0)]),
  (100, 9, [(0, 0, 16777215, 0)]),
  (100, 9, [(0, 0, 7, 0)]),
  (100, 9, [(0, -1, 8, 0)]),
  (100, 5, [(0, 0, 511, 0)]),
  (100, 5, [(0, -2147483648, 2147483647, 0)]),
  (7, 7, [(2, 76, 0, 0), (2, 77, 0, 0), (2, 78, 0, 0), (2, 79, 0, 0), (2, 80, 0, 0), (0, -2147483648, 2147483647, 0), (0, -2147483648, 2147483647, 0)]),
  (100, 9, [(0, 0, 16777215, 0)]),
  (100, 9, [(0, 0, 7, 0)]),
  (100, 9, [(0, -1, 8, 0)]),
  (100, 5, [(0, 0, 511, 0)]),
  (100, 5, [(0, -2147483648, 2147483647, 0)]),
  (7, 7, [(2, 82, 0, 0), (2, 83, 0, 0), (2, 84, 0, 0), (2, 85, 0, 0), (2, 86, 0, 0), (0, -2147483648, 2147483647, 0), (0, -2147483648, 2147483647, 0)]),
  (100, 9, [(0, 0, 16777215, 0)]),
  (100, 9, [(0, 0, 7, 0)]),
  (100, 9, [(0, -1, 8, 0)]),
  (100, 5, [(0, 0, 511, 0)]),
  (100, 5, [(0, -2147483648, 2147483647, 0)]),
  (7, 7, [(2, 88, 0, 0), (2, 89, 0, 0), (2, 90, 0, 0), (2, 91, 0, 0), (2, 92, 0, 0), (0, -2147483648, 2147483647, 0), (0, -2147483648, 2147483647, 0)]),
  (100, 9, [(0, 0, 16777215, 0)]),
  (100, 9, [(0, 0, 7, 0)]),
  (100, 9, [(0, -1, 8, 0)]),
  (100, 5, [(0, 0, 511, 0)]),
  (100, 5, [(0, -2147483648, 2147483647, 0)]),
  (7, 7, [(2, 94, 0, 0), (2, 95, 0, 0), (2, 96, 0, 0), (2, 97, 0, 0), (2, 98, 0, 0), (0, -2147483648, 2147483647, 0), (0, -2147483648, 2147483647, 0)]),
  (100, 9, [(0, 0, 16777215, 0)]),
  (100, 9, [(0, 0, 7, 0)]),
  (100, 9, [(0, -1, 8, 0)]),
  (100, 5, [(0, 0, 511, 0)]),
  (100, 5, [(0, -2147483648, 2147483647, 0)]),
  (7, 7, [(2, 100, 0, 0), (2, 101, 0, 0), (2, 102, 0, 0), (2, 103, 0, 0), (2, 104, 0, 0), (0, -2147483648, 2147483647, 0), (0, -2147483648, 2147483647, 0)]),
  (100, 9, [(0, 0, 16777215, 0)]),
  (100, 9, [(0, 0, 7, 0)]),
  (100, 9, [(0, -1, 8, 0)]),
  (100, 5, [(0, 0, 511, 0)]),
  (100, 5, [(0, -2147483648, 2147483647, 0)]),
  (7, 7, [(2, 106, 0, 0), (2, 107, 0, 0), (2, 108, 0, 0), (2, 109, 0, 0), (2, 110, 0, 0), (0, -2147483648, 2147483647, 0), (0, -2147483648, 2147483647, 0)]),
  (100, 9, [(0, 0, 16777215, 0)]),
  (100, 9, [(0, 0, 7, 0)]),
  (100, 9, [(0, -1, 8, 0)]),
  (100, 5, [(0, 0, 511, 0)]),
  (100, 5, [(0, -2147483648, 2147483647, 0)]),
  (7, 7, [(2, 112, 0, 0), (2, 113, 0, 0), (2, 114, 0, 0), (2, 115, 0, 0), (2, 116, 0, 0), (0, -2147483648, 2147483647, 0), (0, -2147483648, 2147483647, 0)]),
  (100, 9, [(0, 0, 16777215, 0)]),
  (100, 9, [(0, 0, 7, 0)]),
  (100, 9, [(0, -1, 8, 0)]),
  (100, 5, [(0, 0, 511, 0)]),
  (100, 5, [(0, -2147483648, 2147483647, 0)]),
  (7, 7, [(2, 118, 0, 0), (2, 119, 0, 0), (2, 120, 0, 0), (2, 121, 0, 0), (2, 122, 0, 0), (0, -2147483648, 2147483647, 0), (0, -2147483648, 2147483647, 0)]),
  (100, 9, [(0, 0, 16777215, 0)]),
  (100, 9, [(0, 0, 7, 0)]),
  (100, 9, [(0, -1, 8, 0)]),
  (100, 5, [(0, 0, 511, 0)]),
  (100, 5, [(0, -2147483648, 2147483647, 0)]),
  (7, 7, [(2, 124, 0, 0), (2, 125, 0, 0), (2, 126, 0, 0), (2, 127, 0, 0), (2, 128, 0, 0), (0, -2147483648, 2147483647, 0), (0, -2147483648, 2147483647, 0)]),
  (100, 9, [(0, 0, 16777215, 0)]),
  (100, 9, [(0, 0, 7, 0)]),
  (100, 9, [(0, -1, 8, 0)]),
  (100, 5, [(0, 0, 511, 0)]),
  (100, 5, [(0, -2147483648, 2147483647, 0)]),
  (7, 7, [(2, 130, 0, 0), (2, 131, 0, 0), (2, 132, 0, 0), (2, 133, 0, 0), (2, 134, 0, 0), (0, -2147483648, 2147483647, 0), (0, -2147483648, 2147483647, 0)]),
  (100, 9, [(0, 0, 16777215, 0)]),
  (100, 9, [(0, 0, 7, 0)]),
  (100, 9, [(0, -1, 8, 0)]),
  (100, 5, [(0, 0, 511, 0)]),
  (100, 5, [(0, -2147483648, 2147483647, 0)]),
  (7, 7, [(2, 136, 0, 0), (2, 137, 0, 0), (2, 138, 0, 0), (2, 139, 0, 0), (2, 140, 0, 0), (0, -2147483648, 2147483647, 0), (0, -2147483648, 2147483647, 0)]),
  (100, 9, [(0, 0, 16777215, 0)]),
  (100, 9, [(0, 0, 7, 0)]),
  (100, 9, [(0, -1, 8, 0)]),
  (100, 5, [(0, 0, 511, 0)]),
  (100, 5, [(0, -2147483648, 2147483647, 0)]),
  (7, 7, [(2, 142, 0, 0), (2, 143, 0, 0), (2, 144, 0, 0), (2, 145, 0, 0), (2, 146, 0, 0), (0, -2147483648, 2147483647, 0), (0, -2147483648, 2147483647, 0)]),
  (100, 9, [(0, 0, 16777215, 0)]),
  (100, 9, [(0, 0, 7, 0)]),
  (100, 9, [(0, -1, 8, 0)]),
  (100, 5, [(0, 0, 511, 0)]),
  (100, 5, [(0, -2147483648, 2147483647, 0)]),
  (7, 7, [(2, 148, 0, 0), (2, 149, 0, 0), (2, 150, 0, 0), (2, 151, 0, 0), (2, 152, 0, 0), (0, -2147483648, 2147483647, 0), (0, -2147483648, 2147483647, 0)]),
  (100, 9, [(0, 0, 16777215, 0)]),
  (100, 9, [(0, 0, 7, 0)]),
  (100, 9, [(0, -1, 8, 0)]),
  (100, 5, [(0, 0, 511, 0)]),
  (100, 5, [(0, -2147483648, 2147483647, 0)]),
  (7, 7, [(2, 154, 0, 0), (2, 155, 0, 0), (2, 156, 0, 0), (2, 157, 0, 0), (2, 158, 0, 0), (0, -2147483648, 2147483647, 0), (0, -2147483648, 2147483647, 0)]),
  (100, 9, [(0, 0, 16777215, 0)]),
  (100, 9, [(0, 0, 7, 0)]),
  (100, 9, [(0, -1, 8, 0)]),
  (100, 5, [(0, 0, 511, 0)]),
  (100, 5, [(0, -2147483648, 2147483647, 0)]),
  (7, 7, [(2, 160, 0, 0), (2, 161, 0, 0), (2, 162, 0, 0), (2, 163, 0, 0), (2, 164, 0, 0), (0, -2147483648, 2147483647, 0), (0, -2147483648, 2147483647, 0)]),
  (100, 9, [(0, 0, 16777215, 0)]),
  (100, 9, [(0, 0, 7, 0)]),
  (100, 9, [(0, -1, 8, 0)]),
  (100, 5, [(0, 0, 511, 0)]),
  (100, 5, [(0, -2147483648, 2147483647, 0)]),
  (7, 7, [(2, 166, 0, 0), (2, 167, 0, 0), (2, 168, 0, 0), (2, 169, 0, 0), (2, 170, 0, 0), (0, -2147483648, 2147483647, 0), (0, -2147483648, 2147483647, 0)]),
  (100, 9, [(0, 0, 16777215, 0)]),
  (100, 9, [(0, 0, 7, 0)]),
  (100, 9, [(0, -1, 8, 0)]),
  (100, 5, [(0, 0, 511, 0)]),
  (100, 5, [(0, -2147483648, 2147483647, 0)]),
  (7, 7, [(2, 172, 0, 0), (2, 173, 0, 0), (2, 174, 0, 0), (2, 175, 0, 0), (2, 176, 0, 0), (0, -2147483648, 2147483647, 0), (0, -2147483648, 2147483647, 0)]),
  (100, 9, [(0, 0, 16777215, 0)]),
  (100, 9, [(0, 0, 7, 0)]),
  (100, 9, [(0, -1, 8, 0)]),
  (100, 5, [(0, 0, 511, 0)]),
  (100, 5, [(0, -2147483648, 2147483647, 0)]),
  (7, 7, [(2, 178, 0, 0), (2, 179, 0, 0), (2, 180, 0, 0), (2, 181, 0, 0), (2, 182, 0, 0), (0, -2147483648, 2147483647, 0), (0, -2147483648, 2147483647, 0)]),
  (100, 9, [(0, 0, 16777215, 0)]),
  (100, 9, [(0, 0, 7, 0)]),
  (100, 9, [(0, -1, 8, 0)]),
  (100, 5, [(0, 0, 511, 0)]),
  (100, 5, [(0, -2147483648, 2147483647, 0)]),
  (7, 7, [(2, 184, 0, 0), (2, 185, 0, 0), (2, 186, 0, 0), (2, 187, 0, 0), (2, 188, 0, 0), (0, -2147483648, 2147483647, 0), (0, -2147483648, 2147483647, 0)]),
  (100, 9, [(0, 0, 16777215, 0)]),
  (100, 9, [(0, 0, 7, 0)]),
  (100, 9, [(0, -1, 8, 0)]),
  (100, 5, [(0, 0, 511, 0)]),
  (100, 5, [(0, -2147483648, 2147483647, 0)]),
  (7, 7, [(2, 190, 0, 0), (2, 191, 0, 0), (2, 192, 0, 0), (2, 193, 0, 0), (2, 194, 0, 0), (0, -2147483648, 2147483647, 0), (0, -2147483648, 2147483647, 0)]),
  (100, 9, [(0, 0, 16777215, 0)]),
  (100, 9, [(0, 0, 7, 0)]),
  (100, 9, [(0, -1, 8, 0)]),
  (100, 5, [(0, 0, 511, 0)]),
  (100, 5, [(0, -2147483648, 2147483647, 0)]),
  (7, 7, [(2, 196, 0, 0), (2, 197, 0, 0), (2, 198, 0, 0), (2, 199, 0, 0), (2, 200, 0, 0), (0, -2147483648, 2147483647, 0), (0, -2147483648, 2147483647, 0)]),
  (100, 9, [(0, 0, 16777215, 0)]),
  (100, 9, [(0, 0, 7, 0)]),
  (100, 9, [(0, -1, 8, 0)]),
  (100, 5, [(0, 0, 511, 0)]),
  (100, 5, [(0, -2147483648, 2147483647, 0)]),
  (2, 3, [(2, 202, 0, 0), (2, 203, 0, 0), (2, 204, 0, 0)]),
  (103, 2, [(2, 205, 0, 0), (2, 211, 0, 0)]),
  (100, 2, [(0, 0, 2147483647, 0)]),
  (102, 2, [(0, 0, 1, 0)]),
  (7, 7, [(2, 206, 0, 0), (2, 207, 0, 0), (2, 208, 0, 0), (2, 209, 0, 0), (2, 210, 0, 0), (0, -2147483648, 2147483647, 0), (0, -2147483648, 2147483647, 0)]),
  (100, 9, [(0, 0, 16777215, 0)]),
  (100, 9, [(0, 0, 7, 0)]),
  (100, 9, [(0, -1, 8, 0)]),
  (100, 5, [(0, 0, 511, 0)]),
  (100, 5, [(0, -2147483648, 2147483647, 0)]),
  (7, 7, [(2, 212, 0, 0), (2, 213, 0, 0), (2, 214, 0, 0), (2, 215, 0, 0), (2, 216, 0, 0), (0, -2147483648, 2147483647, 0), (0, -2147483648, 2147483647, 0)]),
  (100, 9, [(0, 0, 16777215, 0)]),
  (100, 9, [(0, 0, 7, 0)]),
  (100, 9, [(0, -1, 8, 0)]),
  (100, 5, [(0, 0, 511, 0)]),
  (100, 5, [(0, -2147483648, 2147483647, 0)]),
  (6, 4, [(2, 218, 0, 0), (2, 219, 0, 0), (2, 220, 0, 0), (0, 0, 6, 0)]),
  (100, 6, [(0, 0, 8, 0)]),
  (100, 6, [(0, 0, 7, 0)]),
  (102, 6, [(0, 0, 1, 0)]),
  (1, 3, [(2, 222, 0, 0), (2, 223, 0, 0), (0, 0, 20, 0)]),
  (100, 20, [(0, 0, 8, 0)]),
  (100, 20, [(0, 0, 7, 0)]),
  (5, 3, [(2, 225, 0, 0), (2, 226, 0, 0), (0, 0, 16777215, 0)]),
  (100, 8, [(0, 0, 16777215, 0)]),
  (100, 8, [(0, -2147483648, 2147483647, 0)]),
  (0, 8, [(2, 228, 0, 0), (2, 229, 0, 0), (2, 230, 0, 0), (2, 231, 0, 0), (2, 232, 0, 0), (2, 233, 0, 0), (0, 0, 9, 0), (0, 0, 625, 0)]),
  (100, 9, [(0, 0, 8, 0)]),
  (100, 9, [(0, 0, 31, 0)]),
  (100, 5, [(0, 0, 4, 0)]),
  (100, 5, [(0, 0, 625, 0)]),
  (100, 625, [(0, -2147483648, 2147483647, 0)]),
  (100, 3750, [(0, -2147483648, 2147483647, 0)]),
  (10, 38, [(2, 235, 0, 0), (2, 236, 0, 0), (0, 0, 30, 0), (0, 0, 1, 0), (0, 0, 2, 0), (0, 0, 4, 0), (0, 0, 9, 0), (0, 0, 5, 0), (2, 237, 0, 0), (2, 238, 0, 0), (0, 0, 240, 0), (0, 0, 240, 0), (0, -2147483648, 2147483647, 0), (0, -2147483648, 2147483647, 0), (0, 0, 3, 0), (0, -2147483648, 2147483647, 0), (0, 0, 1, 0), (0, 0, 2, 0), (0, 0, 4, 0), (0, 0, 9, 0), (2, 239, 0, 0), (2, 240, 0, 0), (0, 0, 5, 0), (2, 241, 0, 0), (2, 242, 0, 0), (2, 243, 0, 0), (2, 244, 0, 0), (2, 245, 0, 0), (2, 246, 0, 0), (2, 247, 0, 0), (2, 248, 0, 0), (0, 0, 6, 0), (2, 249, 0, 0), (2, 250, 0, 0), (2, 251, 0, 0), (0, 0, 20, 0), (2, 252, 0, 0), (2, 253, 0, 0)]),
  (100, 3808, [(0, -2147483648, 2147483647, 0), (0, -2147483648, 2147483647, 0), (0, 0, 7, 0), (0, 0, 7, 0), (0, 0, 7, 0), (0, 0, 7, 0), (0, 0, 7, 0), (0, 0, 7, 0), (0, 0, 7, 0), (0, 0, 7, 0), (0, 0, 7, 0), (0, -1, -1, 0), (0, -1, 0, 0), (0, -1, 1, 0), (0, -1, 2, 0), (0, -1, 3, 0), (0, -1, 4, 0), (0, -1, 5, 0), (0, -1, 6, 0), (0, -1, 7, 0), (0, 0, 8, 0), (0, 0, 8, 0), (0, 0, 8, 0), (0, 0, 8, 0), (0, 0, 8, 0), (0, 0, 8, 0), (0, 0, 8, 0), (0, 0, 8, 0), (0, 0, 8, 0), (0, 0, 7, 0), (0, 0, 7, 0), (0, 0, 7, 0), (0, 0, 7, 0), (0, 0, 7, 0), (0, 0, 7, 0), (0, 0, 7, 0), (0, 0, 7, 0), (0, 0, 7, 0), (0, 0, 7, 0), (0, 0, 7, 0), (0, 0, 7, 0), (0, 0, 7, 0), (0, 0, 7, 0), (0, 0, 7, 0), (0, 0, 7, 0), (0, 0, 7, 0), (0, 0, 7, 0), (0, 0, 7, 0), (0, 0, 7, 0), (0, 0, 7, 0), (0, 0, 7, 0), (0, 0, 7, 0), (0, 0, 7, 0), (0, 0, 7, 0), (0, 0, 7, 0), (0, 0, 7, 0), (0, 0, 7, 0), (0, 0, 7, 0), (0, 0, 7, 0), (0, 0, 7, 0), (0, 0, 7, 0), (0, 0, 7, 0), (0, 0, 7, 0), (0, 0, 7, 0), (0, 0, 7, 0), (0, 0, 7, 0), (0, 0, 7, 0), (0, 0, 7, 0), (0, 0, 7, 0), (0, 0, 7, 0), (0, 0, 7, 0), (0, 0, 7, 0), (0, 0, 7, 0), (0, 0, 7, 0), (0, 0, 7, 0), (0, 0, 7, 0), (0, 0, 7, 0), (0, 0, 7, 0), (0, 0, 7, 0), (0, 0, 7, 0), (0, 0, 7, 0), (0, 0, 7, 0), (0, 0, 7, 0), (0, 0, 7, 0), (0, 0, 7, 0), (0, 0, 7, 0), (0, 0, 7, 0), (0, 0, 7, 0), (0, 0, 7, 0), (0, 0, 7, 0), (0, 0, 7, 0), (0, 0, 7, 0), (0, 0, 7, 0), (0, 0, 7, 0), (0, 0, 7, 0), (0, 0, 7, 0), (0, 0, 7, 0), (0, 0, 7, 0), (0, 0, 7, 0), (0, 0, 7, 0), (0, 0, 7, 0), (0, 0, 511, 0), (0, 0, 511, 0), (0, 0, 511, 0), (0, 0, 511, 0), (0, 0, 511, 0), (0, -2147483648, 2147483647, 0), (0, -2147483648, 2147483647, 0), (0, -2147483648, 2147483647, 0), (0, -2147483648, 2147483647, 0), (0, -2147483648, 2147483647, 0), (0, 0, 2147483647, 0)]),
  (102, 2, [(0, 0, 1, 0)]),
  (100, 5, [(0, 0, 99, 0)]),
  (100, 240, [(0, 0, 255, 0)]),
  (100, 9, [(0, -1, 8, 0)]),
  (100, 9, [(0, 0, 7, 0)]),
  (100, 5, [(0, 0, 511, 0)]),
  (100, 5, [(0, 0, 99, 0)]),
  (100, 9, [(0, 0, 8, 0)]),
  (100, 10, [(0, -1, 4, 0)]),
  (100, 9, [(0, 0, 4, 0)]),
  (100, 10, [(0, -2147483648, 2147483647, 0)]),
  (100, 5, [(0, -2147483648, 2147483647, 0)]),
  (100, 5, [(0, 0, 4, 0)]),
  (100, 6, [(0, 0, 8, 0)]),
  (100, 6, [(0, 0, 7, 0)]),
  (102, 6, [(0, 0, 1, 0)]),
  (100, 20, [(0, 0, 8, 0)]),
  (100, 20, [(0, 0, 7, 0)])]
end
section
def mj_m_19 : mj_M := (⟨"SootMaps$Text", "fail", "(II)V"⟩, prog_11_method_6_code, 3, none, 8, 2, 1, 0, 0)
def mj_m_24 : mj_M := (⟨"SootMaps$Text", "isFigure", "(C)Z"⟩, prog_11_method_13_code, 1, (some .boolean), 8, 1, 0, 0, 0)
def mj_m_26 : mj_M := (⟨"SootMaps$Plan", "tellCity", "(II)V"⟩, prog_6_method_4_code, 3, none, 4, 2, 1, 0, 0)
def mj_m_33 : mj_M := (⟨"SootMaps", "fault", "()I"⟩, prog_1_method_4_code, 1, (some .int), 9, 0, 1, 0, 0)
def mj_m_34 : mj_M := (⟨"SootMaps", "told", "(I)I"⟩, prog_1_method_5_code, 2, (some .int), 9, 1, 1, 3, 65)
def mj_m_35 : mj_M := (⟨"SootMaps$Streets", "layersOfAll", "()I"⟩, prog_10_method_4_code, 3, (some .int), 7, 0, 1, 2, 43)
def mj_m_36 : mj_M := (⟨"SootMaps$Soot", "layers", "(I)I"⟩, prog_9_method_5_code, 3, (some .int), 11, 1, 0, 1, 21)
def mj_m_37 : mj_M := (⟨"SootMaps$Soot", "fromNewest", "(II)I"⟩, prog_9_method_8_code, 2, (some .int), 11, 2, 0, 0, 0)
def mj_m_38 : mj_M := (⟨"SootMaps", "house", "(II)I"⟩, prog_1_method_6_code, 3, (some .int), 9, 2, 1, 2, 43)
def mj_m_39 : mj_M := (⟨"SootMaps", "isHouse", "(I)Z"⟩, prog_1_method_33_code, 2, (some .boolean), 9, 1, 1, 0, 0)
def mj_m_40 : mj_M := (⟨"SootMaps$Soot", "newest", "(I)I"⟩, prog_9_method_6_code, 1, (some .int), 11, 1, 0, 1, 21)
def mj_m_41 : mj_M := (⟨"SootMaps", "layer", "(II)I"⟩, prog_1_method_7_code, 3, (some .int), 9, 2, 1, 3, 65)
def mj_m_42 : mj_M := (⟨"SootMaps$Soot", "fromOldest", "(II)I"⟩, prog_9_method_7_code, 3, (some .int), 11, 2, 0, 2, 43)
def mj_m_43 : mj_M := (⟨"SootMaps", "sweep", "(II)I"⟩, prog_1_method_8_code, 3, (some .int), 9, 2, 1, 1, 21)
def mj_m_44 : mj_M := (⟨"SootMaps", "isSweep", "(I)Z"⟩, prog_1_method_34_code, 2, (some .boolean), 9, 1, 1, 0, 0)
def mj_m_52 : mj_M := (⟨"SootMaps$Soot", "laid", "(II)I"⟩, prog_9_method_2_code, 2, (some .int), 11, 2, 0, 0, 0)
def mj_m_53 : mj_M := (⟨"SootMaps$Plan", "neighbour", "(I)I"⟩, prog_6_method_7_code, 3, (some .int), 4, 1, 1, 0, 0)
def mj_m_62 : mj_M := (⟨"SootMaps$Streets", "canGive", "(III)Z"⟩, prog_10_method_8_code, 4, (some .boolean), 7, 3, 1, 0, 0)
def mj_m_70 : mj_M := (⟨"SootMaps", "burned", "(III)I"⟩, prog_1_method_18_code, 4, (some .int), 9, 3, 1, 3, 71)
def mj_m_71 : mj_M := (⟨"SootMaps$Rows", "lookInto", "(ILSootMaps$Streets;LSootMaps$Plan;)V"⟩, prog_7_method_2_code, 7, none, 5, 3, 1, 2, 45)
def mj_m_72 : mj_M := (⟨"SootMaps$Streets", "down", "(I)I"⟩, prog_10_method_11_code, 5, (some .int), 7, 1, 1, 0, 0)
def mj_m_73 : mj_M := (⟨"SootMaps$Rows", "addToHeap", "(III)V"⟩, prog_7_method_3_code, 5, none, 5, 3, 1, 1, 21)
def mj_m_74 : mj_M := (⟨"SootMaps$Rows", "howMany", "(I)I"⟩, prog_7_method_7_code, 4, (some .int), 5, 1, 1, 2, 47)
def mj_m_75 : mj_M := (⟨"SootMaps$Rows", "rowsOf", "(I)I"⟩, prog_7_method_4_code, 1, (some .int), 5, 1, 0, 0, 0)
def mj_m_76 : mj_M := (⟨"SootMaps$Rows", "fits", "(II)Z"⟩, prog_7_method_6_code, 6, (some .boolean), 5, 2, 1, 1, 22)
def mj_m_77 : mj_M := (⟨"SootMaps$Rows", "kindIn", "(III)I"⟩, prog_7_method_5_code, 3, (some .int), 5, 3, 0, 0, 0)
def mj_m_78 : mj_M := (⟨"SootMaps$Soot", "heaped", "(III)I"⟩, prog_9_method_3_code, 3, (some .int), 11, 3, 0, 0, 0)
def mj_m_79 : mj_M := (⟨"SootMaps$Rows", "fitting", "(II)I"⟩, prog_7_method_8_code, 5, (some .int), 5, 2, 1, 2, 47)
def mj_m_80 : mj_M := (⟨"SootMaps", "sure", "(III)I"⟩, prog_1_method_19_code, 4, (some .int), 9, 3, 1, 3, 72)
def mj_m_81 : mj_M := (⟨"SootMaps$Rows", "sameInAll", "(II)I"⟩, prog_7_method_9_code, 6, (some .int), 5, 2, 1, 2, 47)
def mj_m_82 : mj_M := (⟨"SootMaps", "flues", "(II)I"⟩, prog_1_method_20_code, 3, (some .int), 9, 2, 1, 2, 48)
def mj_m_83 : mj_M := (⟨"SootMaps$Streets", "reach", "(ILSootMaps$Plan;)I"⟩, prog_10_method_12_code, 4, (some .int), 7, 2, 1, 1, 24)
def mj_m_84 : mj_M := (⟨"SootMaps$Streets", "heatOf", "(II)I"⟩, prog_10_method_13_code, 5, (some .int), 7, 2, 1, 1, 24)
def mj_m_85 : mj_M := (⟨"SootMaps$Streets", "likeOf", "(II)I"⟩, prog_10_method_14_code, 5, (some .int), 7, 2, 1, 0, 0)
def mj_m_91 : mj_M := (⟨"java/lang/Integer", "bitCount", "(I)I"⟩, prog_14_method_49_code, 1, (some .int), 13, 1, 0, 0, 0)
def mj_m_98 : mj_M := (⟨"SootMaps", "ring", "(I)I"⟩, prog_1_method_22_code, 4, (some .int), 9, 1, 1, 1, 22)
def mj_m_99 : mj_M := (⟨"SootMaps$Streets", "hasNewFor", "(II)Z"⟩, prog_10_method_9_code, 3, (some .boolean), 7, 2, 1, 0, 0)
def mj_m_100 : mj_M := (⟨"SootMaps", "ofPair", "(III)I"⟩, prog_1_method_39_code, 3, (some .int), 9, 3, 0, 0, 0)
def mj_m_101 : mj_M := (⟨"SootMaps", "brushes", "(II)I"⟩, prog_1_method_23_code, 3, (some .int), 9, 2, 1, 3, 72)
def mj_m_102 : mj_M := (⟨"SootMaps$Streets", "fluesWith", "(II)I"⟩, prog_10_method_15_code, 5, (some .int), 7, 2, 1, 2, 43)
def mj_m_103 : mj_M := (⟨"SootMaps$Soot", "holds", "(II)Z"⟩, prog_9_method_9_code, 3, (some .boolean), 11, 2, 0, 1, 21)
def mj_m_104 : mj_M := (⟨"SootMaps", "mostFeared", "(I)I"⟩, prog_1_method_40_code, 6, (some .int), 9, 1, 1, 2, 47)
def mj_m_105 : mj_M := (⟨"SootMaps", "wet", "(II)I"⟩, prog_1_method_24_code, 7, (some .int), 9, 2, 1, 1, 22)
def mj_m_108 : mj_M := (⟨"SootMaps", "next", "(II)I"⟩, prog_1_method_26_code, 3, (some .int), 9, 2, 1, 4, 98)
def mj_m_109 : mj_M := (⟨"SootMaps", "suspects", "(I)I"⟩, prog_1_method_41_code, 4, (some .int), 9, 1, 1, 2, 47)
def mj_m_110 : mj_M := (⟨"SootMaps$Sights", "allow", "(II)Z"⟩, prog_8_method_3_code, 4, (some .boolean), 6, 2, 1, 0, 0)
def mj_m_111 : mj_M := (⟨"SootMaps", "partingFlue", "(I)I"⟩, prog_1_method_42_code, 8, (some .int), 9, 1, 1, 3, 71)
def mj_m_112 : mj_M := (⟨"SootMaps", "howManyReach", "(II)I"⟩, prog_1_method_43_code, 5, (some .int), 9, 2, 1, 2, 47)
def mj_m_115 : mj_M := (⟨"SootMaps", "judge", "()I"⟩, prog_1_method_28_code, 1, (some .int), 9, 0, 1, 3, 63)
def mj_m_116 : mj_M := (⟨"SootMaps$Book", "firstWrong", "(LSootMaps$Streets;)I"⟩, prog_3_method_3_code, 3, (some .int), 1, 1, 1, 2, 41)
def mj_m_117 : mj_M := (⟨"SootMaps", "tear", "()I"⟩, prog_1_method_29_code, 2, (some .int), 9, 0, 1, 0, 0)
def mj_m_118 : mj_M := (⟨"SootMaps", "seed", "(I)I"⟩, prog_1_method_30_code, 3, (some .int), 9, 1, 1, 0, 0)
def mj_m_126 : mj_M := (⟨"SootMapsModel", "in", "(JJJ)Z"⟩, prog_13_method_3_code, 6, (some .boolean), 10, 3, 0, 0, 0)
def mj_m_137 : mj_M := (⟨"SootMapsModel", "fault", "()I"⟩, prog_13_method_20_code, 1, (some .int), 10, 0, 1, 0, 0)
def mj_m_138 : mj_M := (⟨"SootMapsModel", "told", "(I)I"⟩, prog_13_method_22_code, 2, (some .int), 10, 1, 1, 1, 22)
def mj_m_139 : mj_M := (⟨"SootMapsModel", "layersOfAll", "()I"⟩, prog_13_method_21_code, 3, (some .int), 10, 0, 1, 0, 0)
def mj_m_140 : mj_M := (⟨"SootMapsModel", "house", "(II)I"⟩, prog_13_method_25_code, 3, (some .int), 10, 2, 1, 2, 46)
def mj_m_141 : mj_M := (⟨"SootMapsModel", "isHouse", "(I)Z"⟩, prog_13_method_7_code, 2, (some .boolean), 10, 1, 1, 1, 25)
def mj_m_142 : mj_M := (⟨"SootMapsModel", "newestOf", "(I)I"⟩, prog_13_method_24_code, 2, (some .int), 10, 1, 1, 0, 0)
def mj_m_143 : mj_M := (⟨"SootMapsModel", "layer", "(II)I"⟩, prog_13_method_26_code, 3, (some .int), 10, 2, 1, 2, 46)
def mj_m_144 : mj_M := (⟨"SootMapsModel", "layerAt", "(III)I"⟩, prog_13_method_23_code, 4, (some .int), 10, 3, 1, 0, 0)
def mj_m_145 : mj_M := (⟨"SootMapsModel", "sweep", "(II)I"⟩, prog_13_method_27_code, 3, (some .int), 10, 2, 1, 2, 46)
def mj_m_146 : mj_M := (⟨"SootMapsModel", "isSweep", "(I)Z"⟩, prog_13_method_8_code, 2, (some .boolean), 10, 1, 1, 1, 25)
def mj_m_152 : mj_M := (⟨"SootMapsModel", "blownTo", "(I)I"⟩, prog_13_method_29_code, 3, (some .int), 10, 1, 1, 2, 46)
def mj_m_160 : mj_M := (⟨"SootMapsModel", "isKnown", "(II)Z"⟩, prog_13_method_39_code, 3, (some .boolean), 10, 2, 1, 1, 21)
def mj_m_161 : mj_M := (⟨"SootMapsModel", "has", "(II)Z"⟩, prog_13_method_4_code, 2, (some .boolean), 10, 2, 0, 0, 0)
def mj_m_164 : mj_M := (⟨"SootMapsModel", "draw", "(I)I"⟩, prog_13_method_42_code, 2, (some .int), 10, 1, 1, 0, 0)
def mj_m_175 : mj_M := (⟨"SootMapsModel", "moreOf", "(II)I"⟩, prog_13_method_52_code, 3, (some .int), 10, 2, 1, 1, 22)
def mj_m_176 : mj_M := (⟨"SootMapsModel", "ones", "(I)I"⟩, prog_13_method_5_code, 3, (some .int), 10, 1, 0, 0, 0)
def mj_m_179 : mj_M := (⟨"SootMapsModel", "canGive", "(II)Z"⟩, prog_13_method_55_code, 3, (some .boolean), 10, 2, 1, 0, 0)
def mj_m_181 : mj_M := (⟨"SootMapsModel", "wet", "(II)I"⟩, prog_13_method_59_code, 7, (some .int), 10, 2, 1, 1, 25)
def mj_m_185 : mj_M := (⟨"SootMapsModel", "judge", "()I"⟩, prog_13_method_63_code, 2, (some .int), 10, 0, 1, 1, 21)
def mj_m_186 : mj_M := (⟨"SootMapsModel", "tear", "()I"⟩, prog_13_method_64_code, 2, (some .int), 10, 0, 1, 0, 0)
def mj_m_187 : mj_M := (⟨"SootMapsModel", "seed", "(I)I"⟩, prog_13_method_65_code, 3, (some .int), 10, 1, 1, 0, 0)
def ab_s_33_0_d : ab_M := (33, [(2, 0, 0, 0)], [(some (0, -2147483648, 2147483647, 0), [(2, 0, 0, 0)])])
set_option maxRecDepth 1000000 in
theorem ab_s_33_0 : ab_sum ab_ty ab_TT ab_s_33_0_d := ab_ok_sum (X := ([], ab_TT, mj_m_33, ab_s_33_0_d.2.1, ab_s_33_0_d.2.2, [], [(0, [(0, (2, 0, 0, 0))], 0, [])], true)) (F := 600) (fun _ h => absurd h List.not_mem_nil) rfl (by decide +kernel)
def ab_s_137_0_d : ab_M := (137, [(2, 234, 0, 0)], [(some (0, -2147483648, 2147483647, 0), [(2, 234, 0, 0)])])
set_option maxRecDepth 1000000 in
theorem ab_s_137_0 : ab_sum ab_ty ab_TT ab_s_137_0_d := ab_ok_sum (X := ([], ab_TT, mj_m_137, ab_s_137_0_d.2.1, ab_s_137_0_d.2.2, [], [(0, [(0, (2, 234, 0, 0))], 0, [])], true)) (F := 600) (fun _ h => absurd h List.not_mem_nil) rfl (by decide +kernel)
def ab_s_37_0_d : ab_M := (37, [(0, 0, 16777215, 0), (0, -2147483648, 2147483647, 0)], [(some (0, 0, 7, 0), [(0, 0, 16777215, 0), (0, -2147483648, 2147483647, 0)])])
set_option maxRecDepth 1000000 in
theorem ab_s_37_0 : ab_sum ab_ty ab_TT ab_s_37_0_d := ab_ok_sum (X := ([], ab_TT, mj_m_37, ab_s_37_0_d.2.1, ab_s_37_0_d.2.2, [], [(0, [(0, (0, 0, 16777215, 1000000)), (1, (0, -2147483648, 2147483647, 1000000))], 0, [])], true)) (F := 600) (fun _ h => absurd h List.not_mem_nil) rfl (by decide +kernel)
def ab_s_36_0_d : ab_M := (36, [(0, 0, 16777215, 0)], [(some (0, -2147483648, 2147483647, 0), [(0, 0, 16777215, 0)])])
set_option maxRecDepth 1000000 in
theorem ab_s_36_0 : ab_sum ab_ty ab_TT ab_s_36_0_d := ab_ok_sum (X := ([ab_s_37_0_d], ab_TT, mj_m_36, ab_s_36_0_d.2.1, ab_s_36_0_d.2.2, [(2, 8)], [(0, [(0, (0, 0, 16777215, 1000000))], 9, [0]), (4, [(2, (0, 0, 8, 1000000)), (1, (0, -2147483648, 2147483647, 1000000)), (0, (0, 0, 16777215, 1000000))], 0, [1])], false)) (F := 600) (List.forall_mem_cons.mpr ⟨ab_s_37_0, fun _ h => absurd h List.not_mem_nil⟩) rfl (by decide +kernel)
def ab_s_35_0_d : ab_M := (35, [(2, 13, 0, 0)], [(some (0, -2147483648, 2147483647, 0), [(2, 13, 0, 0)])])
set_option maxRecDepth 1000000 in
theorem ab_s_35_0 : ab_sum ab_ty ab_TT ab_s_35_0_d := ab_ok_sum (X := ([ab_s_36_0_d], ab_TT, mj_m_35, ab_s_35_0_d.2.1, ab_s_35_0_d.2.2, [(2, 9)], [(0, [(0, (2, 13, 0, 0))], 10, [0]), (4, [(2, (0, 0, 9, 1000000)), (1, (0, -2147483648, 2147483647, 1000000)), (0, (2, 13, 0, 0))], 0, [1])], false)) (F := 600) (List.forall_mem_cons.mpr ⟨ab_s_36_0, fun _ h => absurd h List.not_mem_nil⟩) rfl (by decide +kernel)
def ab_s_34_0_d : ab_M := (34, [(2, 0, 0, 0), (0, -2147483648, 2147483647, 0)], [(some (0, -2147483648, 2147483647, 0), [(2, 0, 0, 0), (0, -2147483648, 2147483647, 0)])])
set_option maxRecDepth 1000000 in
theorem ab_s_34_0 : ab_sum ab_ty ab_TT ab_s_34_0_d := ab_ok_sum (X := ([ab_s_35_0_d], ab_TT, mj_m_34, ab_s_34_0_d.2.1, ab_s_34_0_d.2.2, [], [(0, [(0, (2, 0, 0, 0)), (1, (0, -2147483648, 2147483647, 1000000))], 0, [])], true)) (F := 600) (List.forall_mem_cons.mpr ⟨ab_s_35_0, fun _ h => absurd h List.not_mem_nil⟩) rfl (by decide +kernel)
def ab_s_139_0_d : ab_M := (139, [(2, 234, 0, 0)], [(some (0, -2147483648, 2147483647, 0), [(2, 234, 0, 0)])])
set_option maxRecDepth 1000000 in
theorem ab_s_139_0 : ab_sum ab_ty ab_TT ab_s_139_0_d := ab_ok_sum (X := ([], ab_TT, mj_m_139, ab_s_139_0_d.2.1, ab_s_139_0_d.2.2, [(2, 9)], [(0, [(0, (2, 234, 0, 0))], 10, [0]), (4, [(2, (0, 0, 9, 1000000)), (1, (0, -2147483648, 2147483647, 1000000)), (0, (2, 234, 0, 0))], 0, [1])], false)) (F := 600) (fun _ h => absurd h List.not_mem_nil) rfl (by decide +kernel)
def ab_s_138_0_d : ab_M := (138, [(2, 234, 0, 0), (0, -2147483648, 2147483647, 0)], [(some (0, -2147483648, 2147483647, 0), [(2, 234, 0, 0), (0, -2147483648, 2147483647, 0)])])
set_option maxRecDepth 1000000 in
theorem ab_s_138_0 : ab_sum ab_ty ab_TT ab_s_138_0_d := ab_ok_sum (X := ([ab_s_139_0_d], ab_TT, mj_m_138, ab_s_138_0_d.2.1, ab_s_138_0_d.2.2, [], [(0, [(0, (2, 234, 0, 0)), (1, (0, -2147483648, 2147483647, 1000000))], 0, [])], true)) (F := 600) (List.forall_mem_cons.mpr ⟨ab_s_139_0, fun _ h => absurd h List.not_mem_nil⟩) rfl (by decide +kernel)
def ab_s_39_0_d : ab_M := (39, [(2, 0, 0, 0), (0, -2147483648, 2147483647, 0)], [(some (0, 1, 1, 0), [(2, 0, 0, 0), (0, 0, 8, 0)]), (some (0, 0, 0, 0), [(2, 0, 0, 0), (0, -2147483648, 2147483647, 0)])])
set_option maxRecDepth 1000000 in
theorem ab_s_39_0 : ab_sum ab_ty ab_TT ab_s_39_0_d := ab_ok_sum (X := ([], ab_TT, mj_m_39, ab_s_39_0_d.2.1, ab_s_39_0_d.2.2, [], [(0, [(0, (2, 0, 0, 0)), (1, (0, -2147483648, 2147483647, 1000000))], 0, [])], true)) (F := 600) (fun _ h => absurd h List.not_mem_nil) rfl (by decide +kernel)
def ab_s_40_0_d : ab_M := (40, [(0, 0, 16777215, 0)], [(some (0, 0, 7, 0), [(0, 0, 16777215, 0)])])
set_option maxRecDepth 1000000 in
theorem ab_s_40_0 : ab_sum ab_ty ab_TT ab_s_40_0_d := ab_ok_sum (X := ([ab_s_37_0_d], ab_TT, mj_m_40, ab_s_40_0_d.2.1, ab_s_40_0_d.2.2, [], [(0, [(0, (0, 0, 16777215, 1000000))], 0, [])], true)) (F := 600) (List.forall_mem_cons.mpr ⟨ab_s_37_0, fun _ h => absurd h List.not_mem_nil⟩) rfl (by decide +kernel)
def ab_s_38_0_d : ab_M := (38, [(2, 0, 0, 0), (0, -2147483648, 2147483647, 0), (0, -2147483648, 2147483647, 0)], [(some (0, -2147483648, 2147483647, 0), [(2, 0, 0, 0), (0, -2147483648, 2147483647, 0), (0, -2147483648, 2147483647, 0)])])
set_option maxRecDepth 1000000 in
theorem ab_s_38_0 : ab_sum ab_ty ab_TT ab_s_38_0_d := ab_ok_sum (X := ([ab_s_36_0_d, ab_s_40_0_d, ab_s_39_0_d], ab_TT, mj_m_38, ab_s_38_0_d.2.1, ab_s_38_0_d.2.2, [], [(0, [(0, (2, 0, 0, 0)), (1, (0, -2147483648, 2147483647, 1000000)), (2, (0, -2147483648, 2147483647, 1000000))], 0, [])], true)) (F := 600) (List.forall_mem_cons.mpr ⟨ab_s_36_0, List.forall_mem_cons.mpr ⟨ab_s_40_0, List.forall_mem_cons.mpr ⟨ab_s_39_0, fun _ h => absurd h List.not_mem_nil⟩⟩⟩) rfl (by decide +kernel)
def ab_s_126_0_d : ab_M := (126, [(1, -2147483648, 2147483647, 0), (1, 0, 0, 0), (1, -1, 8, 0)], [(some (0, 1, 1, 0), [(1, 0, 8, 0), (1, 0, 0, 0), (1, -1, 8, 0)]), (some (0, 0, 0, 0), [(1, -2147483648, 2147483647, 0), (1, 0, 0, 0), (1, -1, 8, 0)])])
set_option maxRecDepth 1000000 in
theorem ab_s_126_0 : ab_sum ab_ty ab_TT ab_s_126_0_d := ab_ok_sum (X := ([], ab_TT, mj_m_126, ab_s_126_0_d.2.1, ab_s_126_0_d.2.2, [], [(0, [(0, (1, -2147483648, 2147483647, 1000000)), (2, (1, 0, 0, 1000000)), (4, (1, -1, 8, 1000000))], 0, [])], true)) (F := 600) (fun _ h => absurd h List.not_mem_nil) rfl (by decide +kernel)
def ab_s_141_0_d : ab_M := (141, [(2, 234, 0, 0), (0, -2147483648, 2147483647, 0)], [(some (0, 0, 0, 0), [(2, 234, 0, 0), (0, -2147483648, 2147483647, 0)]), (some (0, 1, 1, 0), [(2, 234, 0, 0), (0, 0, 8, 0)])])
set_option maxRecDepth 1000000 in
theorem ab_s_141_0 : ab_sum ab_ty ab_TT ab_s_141_0_d := ab_ok_sum (X := ([ab_s_126_0_d], ab_TT, mj_m_141, ab_s_141_0_d.2.1, ab_s_141_0_d.2.2, [], [(0, [(0, (2, 234, 0, 0)), (1, (0, -2147483648, 2147483647, 1000000))], 0, [])], true)) (F := 600) (List.forall_mem_cons.mpr ⟨ab_s_126_0, fun _ h => absurd h List.not_mem_nil⟩) rfl (by decide +kernel)
def ab_s_142_0_d : ab_M := (142, [(2, 234, 0, 0), (0, 0, 8, 0)], [(some (0, 0, 8, 0), [(2, 234, 0, 0), (0, 0, 8, 0)])])
set_option maxRecDepth 1000000 in
theorem ab_s_142_0 : ab_sum ab_ty ab_TT ab_s_142_0_d := ab_ok_sum (X := ([], ab_TT, mj_m_142, ab_s_142_0_d.2.1, ab_s_142_0_d.2.2, [], [(0, [(0, (2, 234, 0, 0)), (1, (0, 0, 8, 1000000))], 0, [])], true)) (F := 600) (fun _ h => absurd h List.not_mem_nil) rfl (by decide +kernel)
def ab_s_140_0_d : ab_M := (140, [(2, 234, 0, 0), (0, -2147483648, 2147483647, 0), (0, -2147483648, 2147483647, 0)], [(some (0, -1000000002, 8, 0), [(2, 234, 0, 0), (0, -2147483648, 2147483647, 0), (0, -2147483648, 2147483647, 0)])])
set_option maxRecDepth 1000000 in
theorem ab_s_140_0 : ab_sum ab_ty ab_TT ab_s_140_0_d := ab_ok_sum (X := ([ab_s_141_0_d, ab_s_142_0_d], ab_TT, mj_m_140, ab_s_140_0_d.2.1, ab_s_140_0_d.2.2, [], [(0, [(0, (2, 234, 0, 0)), (1, (0, -2147483648, 2147483647, 1000000)), (2, (0, -2147483648, 2147483647, 1000000))], 0, [])], true)) (F := 600) (List.forall_mem_cons.mpr ⟨ab_s_141_0, List.forall_mem_cons.mpr ⟨ab_s_142_0, fun _ h => absurd h List.not_mem_nil⟩⟩) rfl (by decide +kernel)
def ab_s_42_0_d : ab_M := (42, [(0, 0, 16777215, 0), (0, -2147483648, 2147483647, 0)], [(some (0, 0, 7, 0), [(0, 0, 16777215, 0), (0, -2147483648, 2147483647, 0)])])
set_option maxRecDepth 1000000 in
theorem ab_s_42_0 : ab_sum ab_ty ab_TT ab_s_42_0_d := ab_ok_sum (X := ([ab_s_37_0_d, ab_s_36_0_d], ab_TT, mj_m_42, ab_s_42_0_d.2.1, ab_s_42_0_d.2.2, [], [(0, [(0, (0, 0, 16777215, 1000000)), (1, (0, -2147483648, 2147483647, 1000000))], 0, [])], true)) (F := 600) (List.forall_mem_cons.mpr ⟨ab_s_37_0, List.forall_mem_cons.mpr ⟨ab_s_36_0, fun _ h => absurd h List.not_mem_nil⟩⟩) rfl (by decide +kernel)
def ab_s_41_0_d : ab_M := (41, [(2, 0, 0, 0), (0, -2147483648, 2147483647, 0), (0, -2147483648, 2147483647, 0)], [(some (0, -1000000002, 7, 0), [(2, 0, 0, 0), (0, -2147483648, 2147483647, 0), (0, -2147483648, 2147483647, 0)])])
set_option maxRecDepth 1000000 in
theorem ab_s_41_0 : ab_sum ab_ty ab_TT ab_s_41_0_d := ab_ok_sum (X := ([ab_s_42_0_d, ab_s_39_0_d], ab_TT, mj_m_41, ab_s_41_0_d.2.1, ab_s_41_0_d.2.2, [], [(0, [(0, (2, 0, 0, 0)), (1, (0, -2147483648, 2147483647, 1000000)), (2, (0, -2147483648, 2147483647, 1000000))], 0, [])], true)) (F := 600) (List.forall_mem_cons.mpr ⟨ab_s_42_0, List.forall_mem_cons.mpr ⟨ab_s_39_0, fun _ h => absurd h List.not_mem_nil⟩⟩) rfl (by decide +kernel)
def ab_s_126_1_d : ab_M := (126, [(1, -2147483648, 2147483647, 0), (1, 0, 0, 0), (1, 7, 7, 0)], [(some (0, 1, 1, 0), [(1, 0, 7, 0), (1, 0, 0, 0), (1, 7, 7, 0)]), (some (0, 0, 0, 0), [(1, -2147483648, 2147483647, 0), (1, 0, 0, 0), (1, 7, 7, 0)])])
set_option maxRecDepth 1000000 in
theorem ab_s_126_1 : ab_sum ab_ty ab_TT ab_s_126_1_d := ab_ok_sum (X := ([], ab_TT, mj_m_126, ab_s_126_1_d.2.1, ab_s_126_1_d.2.2, [], [(0, [(0, (1, -2147483648, 2147483647, 1000000)), (2, (1, 0, 0, 1000000)), (4, (1, 7, 7, 1000000))], 0, [])], true)) (F := 600) (fun _ h => absurd h List.not_mem_nil) rfl (by decide +kernel)
def ab_s_144_0_d : ab_M := (144, [(2, 234, 0, 0), (0, 0, 0, 0), (0, 0, 8, 0), (0, 0, 7, 0)], [(some (0, 0, 7, 0), [(2, 234, 0, 0), (0, 0, 0, 0), (0, 0, 8, 0), (0, 0, 7, 0)])])
set_option maxRecDepth 1000000 in
theorem ab_s_144_0 : ab_sum ab_ty ab_TT ab_s_144_0_d := ab_ok_sum (X := ([], ab_TT, mj_m_144, ab_s_144_0_d.2.1, ab_s_144_0_d.2.2, [], [(0, [(0, (2, 234, 0, 0)), (1, (0, 0, 0, 1000000)), (2, (0, 0, 8, 1000000)), (3, (0, 0, 7, 1000000))], 0, [])], true)) (F := 600) (fun _ h => absurd h List.not_mem_nil) rfl (by decide +kernel)
def ab_s_143_0_d : ab_M := (143, [(2, 234, 0, 0), (0, -2147483648, 2147483647, 0), (0, -2147483648, 2147483647, 0)], [(some (0, -1000000002, 7, 0), [(2, 234, 0, 0), (0, -2147483648, 2147483647, 0), (0, -2147483648, 2147483647, 0)])])
set_option maxRecDepth 1000000 in
theorem ab_s_143_0 : ab_sum ab_ty ab_TT ab_s_143_0_d := ab_ok_sum (X := ([ab_s_126_1_d, ab_s_141_0_d, ab_s_144_0_d], ab_TT, mj_m_143, ab_s_143_0_d.2.1, ab_s_143_0_d.2.2, [], [(0, [(0, (2, 234, 0, 0)), (1, (0, -2147483648, 2147483647, 1000000)), (2, (0, -2147483648, 2147483647, 1000000))], 0, [])], true)) (F := 600) (List.forall_mem_cons.mpr ⟨ab_s_126_1, List.forall_mem_cons.mpr ⟨ab_s_141_0, List.forall_mem_cons.mpr ⟨ab_s_144_0, fun _ h => absurd h List.not_mem_nil⟩⟩⟩) rfl (by decide +kernel)
def ab_s_44_0_d : ab_M := (44, [(2, 0, 0, 0), (0, -2147483648, 2147483647, 0)], [(some (0, 1, 1, 0), [(2, 0, 0, 0), (0, 0, 4, 0)]), (some (0, 0, 0, 0), [(2, 0, 0, 0), (0, -2147483648, 2147483647, 0)])])
set_option maxRecDepth 1000000 in
theorem ab_s_44_0 : ab_sum ab_ty ab_TT ab_s_44_0_d := ab_ok_sum (X := ([], ab_TT, mj_m_44, ab_s_44_0_d.2.1, ab_s_44_0_d.2.2, [], [(0, [(0, (2, 0, 0, 0)), (1, (0, -2147483648, 2147483647, 1000000))], 0, [])], true)) (F := 600) (fun _ h => absurd h List.not_mem_nil) rfl (by decide +kernel)
def ab_s_43_0_d : ab_M := (43, [(2, 0, 0, 0), (0, -2147483648, 2147483647, 0), (0, -2147483648, 2147483647, 0)], [(some (0, -2147483648, 2147483647, 0), [(2, 0, 0, 0), (0, -2147483648, 2147483647, 0), (0, -2147483648, 2147483647, 0)])])
set_option maxRecDepth 1000000 in
theorem ab_s_43_0 : ab_sum ab_ty ab_TT ab_s_43_0_d := ab_ok_sum (X := ([ab_s_44_0_d], ab_TT, mj_m_43, ab_s_43_0_d.2.1, ab_s_43_0_d.2.2, [], [(0, [(0, (2, 0, 0, 0)), (1, (0, -2147483648, 2147483647, 1000000)), (2, (0, -2147483648, 2147483647, 1000000))], 0, [])], true)) (F := 600) (List.forall_mem_cons.mpr ⟨ab_s_44_0, fun _ h => absurd h List.not_mem_nil⟩) rfl (by decide +kernel)
def ab_s_126_2_d : ab_M := (126, [(1, -2147483648, 2147483647, 0), (1, 0, 0, 0), (1, -1, 4, 0)], [(some (0, 1, 1, 0), [(1, 0, 4, 0), (1, 0, 0, 0), (1, -1, 4, 0)]), (some (0, 0, 0, 0), [(1, -2147483648, 2147483647, 0), (1, 0, 0, 0), (1, -1, 4, 0)])])
set_option maxRecDepth 1000000 in
theorem ab_s_126_2 : ab_sum ab_ty ab_TT ab_s_126_2_d := ab_ok_sum (X := ([], ab_TT, mj_m_126, ab_s_126_2_d.2.1, ab_s_126_2_d.2.2, [], [(0, [(0, (1, -2147483648, 2147483647, 1000000)), (2, (1, 0, 0, 1000000)), (4, (1, -1, 4, 1000000))], 0, [])], true)) (F := 600) (fun _ h => absurd h List.not_mem_nil) rfl (by decide +kernel)
def ab_s_146_0_d : ab_M := (146, [(2, 234, 0, 0), (0, -2147483648, 2147483647, 0)], [(some (0, 0, 0, 0), [(2, 234, 0, 0), (0, -2147483648, 2147483647, 0)]), (some (0, 1, 1, 0), [(2, 234, 0, 0), (0, 0, 4, 0)])])
set_option maxRecDepth 1000000 in
theorem ab_s_146_0 : ab_sum ab_ty ab_TT ab_s_146_0_d := ab_ok_sum (X := ([ab_s_126_2_d], ab_TT, mj_m_146, ab_s_146_0_d.2.1, ab_s_146_0_d.2.2, [], [(0, [(0, (2, 234, 0, 0)), (1, (0, -2147483648, 2147483647, 1000000))], 0, [])], true)) (F := 600) (List.forall_mem_cons.mpr ⟨ab_s_126_2, fun _ h => absurd h List.not_mem_nil⟩) rfl (by decide +kernel)
def ab_s_145_0_d : ab_M := (145, [(2, 234, 0, 0), (0, -2147483648, 2147483647, 0), (0, -2147483648, 2147483647, 0)], [(some (0, -2147483648, 2147483647, 0), [(2, 234, 0, 0), (0, -2147483648, 2147483647, 0), (0, -2147483648, 2147483647, 0)])])
set_option maxRecDepth 1000000 in
theorem ab_s_145_0 : ab_sum ab_ty ab_TT ab_s_145_0_d := ab_ok_sum (X := ([ab_s_146_0_d], ab_TT, mj_m_145, ab_s_145_0_d.2.1, ab_s_145_0_d.2.2, [], [(0, [(0, (2, 234, 0, 0)), (1, (0, -2147483648, 2147483647, 1000000)), (2, (0, -2147483648, 2147483647, 1000000))], 0, [])], true)) (F := 600) (List.forall_mem_cons.mpr ⟨ab_s_146_0, fun _ h => absurd h List.not_mem_nil⟩) rfl (by decide +kernel)
def ab_s_62_0_d : ab_M := (62, [(2, 13, 0, 0), (0, 0, 4, 0), (0, 0, 4, 0), (0, 0, 8, 0)], [(some (0, 1, 1, 0), [(2, 13, 0, 0), (0, 0, 4, 0), (0, 0, 4, 0), (0, 0, 8, 0)]), (some (0, 0, 0, 0), [(2, 13, 0, 0), (0, 0, 4, 0), (0, 0, 4, 0), (0, 0, 8, 0)])])
set_option maxRecDepth 1000000 in
theorem ab_s_62_0 : ab_sum ab_ty ab_TT ab_s_62_0_d := ab_ok_sum (X := ([], ab_TT, mj_m_62, ab_s_62_0_d.2.1, ab_s_62_0_d.2.2, [], [(0, [(0, (2, 13, 0, 0)), (1, (0, 0, 4, 1000000)), (2, (0, 0, 4, 1000000)), (3, (0, 0, 8, 1000000))], 0, [])], true)) (F := 600) (fun _ h => absurd h List.not_mem_nil) rfl (by decide +kernel)
def ab_s_161_0_d : ab_M := (161, [(0, -2147483648, 2147483647, 0), (0, -2147483648, 2147483647, 0)], [(some (0, 1, 1, 0), [(0, -2147483648, 2147483647, 0), (0, -2147483648, 2147483647, 0)]), (some (0, 0, 0, 0), [(0, -2147483648, 2147483647, 0), (0, -2147483648, 2147483647, 0)])])
set_option maxRecDepth 1000000 in
theorem ab_s_161_0 : ab_sum ab_ty ab_TT ab_s_161_0_d := ab_ok_sum (X := ([], ab_TT, mj_m_161, ab_s_161_0_d.2.1, ab_s_161_0_d.2.2, [], [(0, [(0, (0, -2147483648, 2147483647, 1000000)), (1, (0, -2147483648, 2147483647, 1000000))], 0, [])], true)) (F := 600) (fun _ h => absurd h List.not_mem_nil) rfl (by decide +kernel)
def ab_s_160_0_d : ab_M := (160, [(2, 234, 0, 0), (0, 0, 4, 0), (0, 0, 8, 0)], [(some (0, 0, 0, 0), [(2, 234, 0, 0), (0, 0, 4, 0), (0, 0, 8, 0)]), (some (0, 1, 1, 0), [(2, 234, 0, 0), (0, 0, 4, 0), (0, 0, 8, 0)])])
set_option maxRecDepth 1000000 in
theorem ab_s_160_0 : ab_sum ab_ty ab_TT ab_s_160_0_d := ab_ok_sum (X := ([ab_s_161_0_d], ab_TT, mj_m_160, ab_s_160_0_d.2.1, ab_s_160_0_d.2.2, [], [(0, [(0, (2, 234, 0, 0)), (1, (0, 0, 4, 1000000)), (2, (0, 0, 8, 1000000))], 0, [])], true)) (F := 600) (List.forall_mem_cons.mpr ⟨ab_s_161_0, fun _ h => absurd h List.not_mem_nil⟩) rfl (by decide +kernel)
def ab_s_72_0_d : ab_M := (72, [(2, 13, 0, 0), (0, 0, 8, 0)], [(some (0, 0, 511, 0), [(2, 13, 0, 0), (0, 0, 8, 0)])])
set_option maxRecDepth 1000000 in
theorem ab_s_72_0 : ab_sum ab_ty ab_TT ab_s_72_0_d := ab_ok_sum (X := ([], ab_TT, mj_m_72, ab_s_72_0_d.2.1, ab_s_72_0_d.2.2, [(4, 9)], [(0, [(0, (2, 13, 0, 0)), (1, (0, 0, 8, 1000000))], 10, [0]), (7, [(4, (0, 0, 9, 1000000)), (3, (0, -1, 8, 1000000)), (2, (0, 0, 511, 1000000)), (0, (2, 13, 0, 0)), (1, (0, 0, 8, 1000000))], 0, [1])], false)) (F := 600) (fun _ h => absurd h List.not_mem_nil) rfl (by decide +kernel)
def ab_s_53_0_d : ab_M := (53, [(2, 8, 0, 0), (0, 0, 8, 0)], [(some (0, -1, 8, 0), [(2, 8, 0, 0), (0, 0, 8, 0)])])
set_option maxRecDepth 1000000 in
theorem ab_s_53_0 : ab_sum ab_ty ab_TT ab_s_53_0_d := ab_ok_sum (X := ([], ab_TT, mj_m_53, ab_s_53_0_d.2.1, ab_s_53_0_d.2.2, [], [(0, [(0, (2, 8, 0, 0)), (1, (0, 0, 8, 1000000))], 0, [])], true)) (F := 600) (fun _ h => absurd h List.not_mem_nil) rfl (by decide +kernel)
def ab_s_52_0_d : ab_M := (52, [(0, 0, 16777215, 0), (0, 0, 7, 0)], [(some (0, 0, 16777215, 0), [(0, 0, 16777215, 0), (0, 0, 7, 0)])])
set_option maxRecDepth 1000000 in
theorem ab_s_52_0 : ab_sum ab_ty ab_TT ab_s_52_0_d := ab_ok_sum (X := ([], ab_TT, mj_m_52, ab_s_52_0_d.2.1, ab_s_52_0_d.2.2, [], [(0, [(0, (0, 0, 16777215, 1000000)), (1, (0, 0, 7, 1000000))], 0, [])], true)) (F := 600) (fun _ h => absurd h List.not_mem_nil) rfl (by decide +kernel)
def ab_s_73_0_d : ab_M := (73, [(2, 224, 0, 0), (0, 0, 7, 0), (0, 0, 7, 0), (0, 0, 2, 0)], [(none, [(2, 224, 0, 0), (0, 0, 7, 0), (0, 0, 7, 0), (0, 0, 2, 0)])])
set_option maxRecDepth 1000000 in
theorem ab_s_73_0 : ab_sum ab_ty ab_TT ab_s_73_0_d := ab_ok_sum (X := ([ab_s_52_0_d], ab_TT, mj_m_73, ab_s_73_0_d.2.1, ab_s_73_0_d.2.2, [(4, 2)], [(0, [(0, (2, 224, 0, 0)), (1, (0, 0, 7, 1000000)), (2, (0, 0, 7, 1000000)), (3, (0, 0, 2, 1000000))], 3, [0]), (3, [(4, (0, 0, 2, 1000000)), (0, (2, 224, 0, 0)), (1, (0, 0, 7, 1000000)), (2, (0, 0, 7, 1000000)), (3, (0, 0, 2, 1000000))], 0, [1])], false)) (F := 600) (List.forall_mem_cons.mpr ⟨ab_s_52_0, fun _ h => absurd h List.not_mem_nil⟩) rfl (by decide +kernel)
def ab_s_71_0_d : ab_M := (71, [(2, 224, 0, 0), (0, 0, 8, 0), (2, 13, 0, 0), (2, 8, 0, 0)], [(none, [(2, 224, 0, 0), (0, 0, 8, 0), (2, 13, 0, 0), (2, 8, 0, 0)])])
set_option maxRecDepth 1000000 in
theorem ab_s_71_0 : ab_sum ab_ty ab_TT ab_s_71_0_d := ab_ok_sum (X := ([ab_s_53_0_d, ab_s_73_0_d, ab_s_72_0_d], ab_TT, mj_m_71, ab_s_71_0_d.2.1, ab_s_71_0_d.2.2, [(4, 9), (6, 8)], [(0, [(0, (2, 224, 0, 0)), (1, (0, 0, 8, 1000000)), (2, (2, 13, 0, 0)), (3, (2, 8, 0, 0))], 109, [0, 0]), (13, [(4, (0, 0, 8, 1000000)), (0, (2, 224, 0, 0)), (1, (0, 0, 8, 1000000)), (2, (2, 13, 0, 0)), (3, (2, 8, 0, 0))], 99, [1, 0]), (45, [(4, (0, 0, 9, 1000000)), (0, (2, 224, 0, 0)), (1, (0, 0, 8, 1000000)), (2, (2, 13, 0, 0)), (3, (2, 8, 0, 0))], 9, [10, 0]), (85, [(6, (0, 0, 8, 1000000)), (5, (0, 0, 2, 1000000)), (4, (0, 0, 8, 1000000)), (0, (2, 224, 0, 0)), (1, (0, 0, 8, 1000000)), (2, (2, 13, 0, 0)), (3, (2, 8, 0, 0))], 0, [10, 1])], false)) (F := 600) (List.forall_mem_cons.mpr ⟨ab_s_53_0, List.forall_mem_cons.mpr ⟨ab_s_73_0, List.forall_mem_cons.mpr ⟨ab_s_72_0, fun _ h => absurd h List.not_mem_nil⟩⟩⟩) rfl (by decide +kernel)
def ab_s_75_0_d : ab_M := (75, [(0, 1, 3, 0)], [(some (0, 8, 512, 0), [(0, 1, 3, 0)])])
set_option maxRecDepth 1000000 in
theorem ab_s_75_0 : ab_sum ab_ty ab_TT ab_s_75_0_d := ab_ok_sum (X := ([], ab_TT, mj_m_75, ab_s_75_0_d.2.1, ab_s_75_0_d.2.2, [], [(0, [(0, (0, 1, 3, 1000000))], 0, [])], true)) (F := 600) (fun _ h => absurd h List.not_mem_nil) rfl (by decide +kernel)
def ab_s_77_0_d : ab_M := (77, [(0, -2147483648, 2147483647, 0), (0, -2147483648, 2147483647, 0), (0, -2147483648, 2147483647, 0)], [(some (0, 0, 7, 0), [(0, -2147483648, 2147483647, 0), (0, -2147483648, 2147483647, 0), (0, -2147483648, 2147483647, 0)])])
set_option maxRecDepth 1000000 in
theorem ab_s_77_0 : ab_sum ab_ty ab_TT ab_s_77_0_d := ab_ok_sum (X := ([], ab_TT, mj_m_77, ab_s_77_0_d.2.1, ab_s_77_0_d.2.2, [], [(0, [(0, (0, -2147483648, 2147483647, 1000000)), (1, (0, -2147483648, 2147483647, 1000000)), (2, (0, -2147483648, 2147483647, 1000000))], 0, [])], true)) (F := 600) (fun _ h => absurd h List.not_mem_nil) rfl (by decide +kernel)
def ab_s_78_0_d : ab_M := (78, [(0, 0, 16777215, 0), (0, 0, 16777215, 0), (0, -2147483648, 2147483647, 0)], [(some (0, 0, 16777215, 0), [(0, 0, 16777215, 0), (0, 0, 16777215, 0), (0, -2147483648, 2147483647, 0)])])
set_option maxRecDepth 1000000 in
theorem ab_s_78_0 : ab_sum ab_ty ab_TT ab_s_78_0_d := ab_ok_sum (X := ([], ab_TT, mj_m_78, ab_s_78_0_d.2.1, ab_s_78_0_d.2.2, [], [(0, [(0, (0, 0, 16777215, 1000000)), (1, (0, 0, 16777215, 1000000)), (2, (0, -2147483648, 2147483647, 1000000))], 0, [])], true)) (F := 600) (fun _ h => absurd h List.not_mem_nil) rfl (by decide +kernel)
def ab_s_76_0_d : ab_M := (76, [(2, 224, 0, 0), (0, -2147483648, 2147483647, 0), (0, 1, 3, 0)], [(some (0, 0, 1, 0), [(2, 224, 0, 0), (0, -2147483648, 2147483647, 0), (0, 1, 3, 0)])])
set_option maxRecDepth 1000000 in
theorem ab_s_76_0 : ab_sum ab_ty ab_TT ab_s_76_0_d := ab_ok_sum (X := ([ab_s_77_0_d, ab_s_78_0_d], ab_TT, mj_m_76, ab_s_76_0_d.2.1, ab_s_76_0_d.2.2, [(4, 4)], [(0, [(0, (2, 224, 0, 0)), (1, (0, -2147483648, 2147483647, 1000000)), (2, (0, 1, 3, 1000000))], 4, [0]), (5, [(4, (0, 1, 4, 1000000)), (3, (0, 0, 16777215, 1000000)), (0, (2, 224, 0, 0)), (1, (0, -2147483648, 2147483647, 1000000)), (2, (0, 1, 3, 1000000))], 0, [1])], false)) (F := 600) (List.forall_mem_cons.mpr ⟨ab_s_77_0, List.forall_mem_cons.mpr ⟨ab_s_78_0, fun _ h => absurd h List.not_mem_nil⟩⟩) rfl (by decide +kernel)
def ab_s_74_0_d : ab_M := (74, [(2, 224, 0, 0), (0, 1, 3, 0)], [(some (0, -2147483648, 2147483647, 0), [(2, 224, 0, 0), (0, 1, 3, 0)])])
set_option maxRecDepth 1000000 in
theorem ab_s_74_0 : ab_sum ab_ty ab_TT ab_s_74_0_d := ab_ok_sum (X := ([ab_s_76_0_d, ab_s_75_0_d], ab_TT, mj_m_74, ab_s_74_0_d.2.1, ab_s_74_0_d.2.2, [(3, 512)], [(0, [(0, (2, 224, 0, 0)), (1, (0, 1, 3, 1000000))], 513, [0]), (4, [(3, (0, 0, 512, 1000000)), (2, (0, -2147483648, 2147483647, 1000000)), (0, (2, 224, 0, 0)), (1, (0, 1, 3, 1000000))], 0, [1])], false)) (F := 600) (List.forall_mem_cons.mpr ⟨ab_s_76_0, List.forall_mem_cons.mpr ⟨ab_s_75_0, fun _ h => absurd h List.not_mem_nil⟩⟩) rfl (by decide +kernel)
def ab_s_79_0_d : ab_M := (79, [(2, 224, 0, 0), (0, 1, 3, 0), (0, -2147483648, 2147483647, 0)], [(some (0, -1, 511, 0), [(2, 224, 0, 0), (0, 1, 3, 0), (0, -2147483648, 2147483647, 0)])])
set_option maxRecDepth 1000000 in
theorem ab_s_79_0 : ab_sum ab_ty ab_TT ab_s_79_0_d := ab_ok_sum (X := ([ab_s_76_0_d, ab_s_75_0_d], ab_TT, mj_m_79, ab_s_79_0_d.2.1, ab_s_79_0_d.2.2, [(4, 512)], [(0, [(0, (2, 224, 0, 0)), (1, (0, 1, 3, 1000000)), (2, (0, -2147483648, 2147483647, 1000000))], 513, [0]), (5, [(4, (0, 0, 512, 1000000)), (3, (0, -2147483648, 2147483647, 1000000)), (0, (2, 224, 0, 0)), (1, (0, 1, 3, 1000000)), (2, (0, -2147483648, 2147483647, 1000000))], 0, [1])], false)) (F := 600) (List.forall_mem_cons.mpr ⟨ab_s_76_0, List.forall_mem_cons.mpr ⟨ab_s_75_0, fun _ h => absurd h List.not_mem_nil⟩⟩) rfl (by decide +kernel)
def ab_s_70_0_d : ab_M := (70, [(2, 0, 0, 0), (0, -2147483648, 2147483647, 0), (0, -2147483648, 2147483647, 0), (0, -2147483648, 2147483647, 0)], [(some (0, -2147483648, 2147483647, 0), [(2, 0, 0, 0), (0, -2147483648, 2147483647, 0), (0, -2147483648, 2147483647, 0), (0, -2147483648, 2147483647, 0)])])
set_option maxRecDepth 1000000 in
theorem ab_s_70_0 : ab_sum ab_ty ab_TT ab_s_70_0_d := ab_ok_sum (X := ([ab_s_79_0_d, ab_s_74_0_d, ab_s_71_0_d, ab_s_39_0_d], ab_TT, mj_m_70, ab_s_70_0_d.2.1, ab_s_70_0_d.2.2, [], [(0, [(0, (2, 0, 0, 0)), (1, (0, -2147483648, 2147483647, 1000000)), (2, (0, -2147483648, 2147483647, 1000000)), (3, (0, -2147483648, 2147483647, 1000000))], 0, [])], true)) (F := 600) (List.forall_mem_cons.mpr ⟨ab_s_79_0, List.forall_mem_cons.mpr ⟨ab_s_74_0, List.forall_mem_cons.mpr ⟨ab_s_71_0, List.forall_mem_cons.mpr ⟨ab_s_39_0, fun _ h => absurd h List.not_mem_nil⟩⟩⟩⟩) rfl (by decide +kernel)
def ab_s_81_0_d : ab_M := (81, [(2, 224, 0, 0), (0, 1, 3, 0), (0, 1, 3, 0)], [(some (0, -1, 7, 0), [(2, 224, 0, 0), (0, 1, 3, 0), (0, 1, 3, 0)])])
set_option maxRecDepth 1000000 in
theorem ab_s_81_0 : ab_sum ab_ty ab_TT ab_s_81_0_d := ab_ok_sum (X := ([ab_s_76_0_d, ab_s_77_0_d, ab_s_75_0_d], ab_TT, mj_m_81, ab_s_81_0_d.2.1, ab_s_81_0_d.2.2, [(4, 512)], [(0, [(0, (2, 224, 0, 0)), (1, (0, 1, 3, 1000000)), (2, (0, 1, 3, 1000000))], 513, [0]), (5, [(4, (0, 0, 512, 1000000)), (3, (0, -1, 7, 1000000)), (0, (2, 224, 0, 0)), (1, (0, 1, 3, 1000000)), (2, (0, 1, 3, 1000000))], 0, [1])], false)) (F := 600) (List.forall_mem_cons.mpr ⟨ab_s_76_0, List.forall_mem_cons.mpr ⟨ab_s_77_0, List.forall_mem_cons.mpr ⟨ab_s_75_0, fun _ h => absurd h List.not_mem_nil⟩⟩⟩) rfl (by decide +kernel)
def ab_s_80_0_d : ab_M := (80, [(2, 0, 0, 0), (0, -2147483648, 2147483647, 0), (0, -2147483648, 2147483647, 0), (0, -2147483648, 2147483647, 0)], [(some (0, -1000000002, 7, 0), [(2, 0, 0, 0), (0, -2147483648, 2147483647, 0), (0, -2147483648, 2147483647, 0), (0, -2147483648, 2147483647, 0)])])
set_option maxRecDepth 1000000 in
theorem ab_s_80_0 : ab_sum ab_ty ab_TT ab_s_80_0_d := ab_ok_sum (X := ([ab_s_71_0_d, ab_s_81_0_d, ab_s_39_0_d], ab_TT, mj_m_80, ab_s_80_0_d.2.1, ab_s_80_0_d.2.2, [], [(0, [(0, (2, 0, 0, 0)), (1, (0, -2147483648, 2147483647, 1000000)), (2, (0, -2147483648, 2147483647, 1000000)), (3, (0, -2147483648, 2147483647, 1000000))], 0, [])], true)) (F := 600) (List.forall_mem_cons.mpr ⟨ab_s_71_0, List.forall_mem_cons.mpr ⟨ab_s_81_0, List.forall_mem_cons.mpr ⟨ab_s_39_0, fun _ h => absurd h List.not_mem_nil⟩⟩⟩) rfl (by decide +kernel)
def ab_s_85_0_d : ab_M := (85, [(2, 13, 0, 0), (0, 0, 8, 0), (0, 0, 9, 0)], [(some (0, 0, 511, 0), [(2, 13, 0, 0), (0, 0, 8, 0), (0, 0, 9, 0)])])
set_option maxRecDepth 1000000 in
theorem ab_s_85_0 : ab_sum ab_ty ab_TT ab_s_85_0_d := ab_ok_sum (X := ([], ab_TT, mj_m_85, ab_s_85_0_d.2.1, ab_s_85_0_d.2.2, [(4, 9)], [(0, [(0, (2, 13, 0, 0)), (1, (0, 0, 8, 1000000)), (2, (0, 0, 9, 1000000))], 10, [0]), (5, [(4, (0, 0, 9, 1000000)), (3, (0, 0, 511, 1000000)), (0, (2, 13, 0, 0)), (1, (0, 0, 8, 1000000)), (2, (0, 0, 9, 1000000))], 0, [1])], false)) (F := 600) (fun _ h => absurd h List.not_mem_nil) rfl (by decide +kernel)
def ab_s_84_0_d : ab_M := (84, [(2, 13, 0, 0), (0, 0, 8, 0), (0, 0, 9, 0)], [(some (0, 0, 511, 0), [(2, 13, 0, 0), (0, 0, 8, 0), (0, 0, 9, 0)])])
set_option maxRecDepth 1000000 in
theorem ab_s_84_0 : ab_sum ab_ty ab_TT ab_s_84_0_d := ab_ok_sum (X := ([ab_s_72_0_d], ab_TT, mj_m_84, ab_s_84_0_d.2.1, ab_s_84_0_d.2.2, [(4, 9)], [(0, [(0, (2, 13, 0, 0)), (1, (0, 0, 8, 1000000)), (2, (0, 0, 9, 1000000))], 10, [0]), (5, [(4, (0, 0, 9, 1000000)), (3, (0, 0, 511, 1000000)), (0, (2, 13, 0, 0)), (1, (0, 0, 8, 1000000)), (2, (0, 0, 9, 1000000))], 0, [1])], false)) (F := 600) (List.forall_mem_cons.mpr ⟨ab_s_72_0, fun _ h => absurd h List.not_mem_nil⟩) rfl (by decide +kernel)
def ab_s_83_0_d : ab_M := (83, [(2, 13, 0, 0), (0, 0, 8, 0), (2, 8, 0, 0)], [(some (0, 0, 511, 0), [(2, 13, 0, 0), (0, 0, 8, 0), (2, 8, 0, 0)])])
set_option maxRecDepth 1000000 in
theorem ab_s_83_0 : ab_sum ab_ty ab_TT ab_s_83_0_d := ab_ok_sum (X := ([ab_s_53_0_d, ab_s_72_0_d], ab_TT, mj_m_83, ab_s_83_0_d.2.1, ab_s_83_0_d.2.2, [], [(0, [(0, (2, 13, 0, 0)), (1, (0, 0, 8, 1000000)), (2, (2, 8, 0, 0))], 0, [])], true)) (F := 600) (List.forall_mem_cons.mpr ⟨ab_s_53_0, List.forall_mem_cons.mpr ⟨ab_s_72_0, fun _ h => absurd h List.not_mem_nil⟩⟩) rfl (by decide +kernel)
def ab_s_82_0_d : ab_M := (82, [(2, 0, 0, 0), (0, -2147483648, 2147483647, 0), (0, -2147483648, 2147483647, 0)], [(some (0, -1000000002, 511, 0), [(2, 0, 0, 0), (0, -2147483648, 2147483647, 0), (0, -2147483648, 2147483647, 0)])])
set_option maxRecDepth 1000000 in
theorem ab_s_82_0 : ab_sum ab_ty ab_TT ab_s_82_0_d := ab_ok_sum (X := ([ab_s_84_0_d, ab_s_85_0_d, ab_s_83_0_d, ab_s_39_0_d], ab_TT, mj_m_82, ab_s_82_0_d.2.1, ab_s_82_0_d.2.2, [], [(0, [(0, (2, 0, 0, 0)), (1, (0, -2147483648, 2147483647, 1000000)), (2, (0, -2147483648, 2147483647, 1000000))], 0, [])], true)) (F := 600) (List.forall_mem_cons.mpr ⟨ab_s_84_0, List.forall_mem_cons.mpr ⟨ab_s_85_0, List.forall_mem_cons.mpr ⟨ab_s_83_0, List.forall_mem_cons.mpr ⟨ab_s_39_0, fun _ h => absurd h List.not_mem_nil⟩⟩⟩⟩) rfl (by decide +kernel)
def ab_s_126_3_d : ab_M := (126, [(1, 1, 9, 0), (1, 0, 0, 0), (1, -1, 8, 0)], [(some (0, 1, 1, 0), [(1, 1, 8, 0), (1, 0, 0, 0), (1, -1, 8, 0)]), (some (0, 0, 0, 0), [(1, 1, 9, 0), (1, 0, 0, 0), (1, -1, 8, 0)])])
set_option maxRecDepth 1000000 in
theorem ab_s_126_3 : ab_sum ab_ty ab_TT ab_s_126_3_d := ab_ok_sum (X := ([], ab_TT, mj_m_126, ab_s_126_3_d.2.1, ab_s_126_3_d.2.2, [], [(0, [(0, (1, 1, 9, 1000000)), (2, (1, 0, 0, 1000000)), (4, (1, -1, 8, 1000000))], 0, [])], true)) (F := 600) (fun _ h => absurd h List.not_mem_nil) rfl (by decide +kernel)
def ab_s_141_1_d : ab_M := (141, [(2, 234, 0, 0), (0, 1, 9, 0)], [(some (0, 0, 0, 0), [(2, 234, 0, 0), (0, 1, 9, 0)]), (some (0, 1, 1, 0), [(2, 234, 0, 0), (0, 1, 8, 0)])])
set_option maxRecDepth 1000000 in
theorem ab_s_141_1 : ab_sum ab_ty ab_TT ab_s_141_1_d := ab_ok_sum (X := ([ab_s_126_3_d], ab_TT, mj_m_141, ab_s_141_1_d.2.1, ab_s_141_1_d.2.2, [], [(0, [(0, (2, 234, 0, 0)), (1, (0, 1, 9, 1000000))], 0, [])], true)) (F := 600) (List.forall_mem_cons.mpr ⟨ab_s_126_3, fun _ h => absurd h List.not_mem_nil⟩) rfl (by decide +kernel)
def ab_s_126_4_d : ab_M := (126, [(1, -1, 7, 0), (1, 0, 0, 0), (1, -1, 8, 0)], [(some (0, 1, 1, 0), [(1, 0, 7, 0), (1, 0, 0, 0), (1, -1, 8, 0)]), (some (0, 0, 0, 0), [(1, -1, 7, 0), (1, 0, 0, 0), (1, -1, 8, 0)])])
set_option maxRecDepth 1000000 in
theorem ab_s_126_4 : ab_sum ab_ty ab_TT ab_s_126_4_d := ab_ok_sum (X := ([], ab_TT, mj_m_126, ab_s_126_4_d.2.1, ab_s_126_4_d.2.2, [], [(0, [(0, (1, -1, 7, 1000000)), (2, (1, 0, 0, 1000000)), (4, (1, -1, 8, 1000000))], 0, [])], true)) (F := 600) (fun _ h => absurd h List.not_mem_nil) rfl (by decide +kernel)
def ab_s_141_2_d : ab_M := (141, [(2, 234, 0, 0), (0, -1, 7, 0)], [(some (0, 0, 0, 0), [(2, 234, 0, 0), (0, -1, 7, 0)]), (some (0, 1, 1, 0), [(2, 234, 0, 0), (0, 0, 7, 0)])])
set_option maxRecDepth 1000000 in
theorem ab_s_141_2 : ab_sum ab_ty ab_TT ab_s_141_2_d := ab_ok_sum (X := ([ab_s_126_4_d], ab_TT, mj_m_141, ab_s_141_2_d.2.1, ab_s_141_2_d.2.2, [], [(0, [(0, (2, 234, 0, 0)), (1, (0, -1, 7, 1000000))], 0, [])], true)) (F := 600) (List.forall_mem_cons.mpr ⟨ab_s_126_4, fun _ h => absurd h List.not_mem_nil⟩) rfl (by decide +kernel)
def ab_s_126_5_d : ab_M := (126, [(1, -1, -1, 0), (1, 0, 0, 0), (1, -1, 8, 0)], [(some (0, 0, 0, 0), [(1, -1, -1, 0), (1, 0, 0, 0), (1, -1, 8, 0)])])
set_option maxRecDepth 1000000 in
theorem ab_s_126_5 : ab_sum ab_ty ab_TT ab_s_126_5_d := ab_ok_sum (X := ([], ab_TT, mj_m_126, ab_s_126_5_d.2.1, ab_s_126_5_d.2.2, [], [(0, [(0, (1, -1, -1, 1000000)), (2, (1, 0, 0, 1000000)), (4, (1, -1, 8, 1000000))], 0, [])], true)) (F := 600) (fun _ h => absurd h List.not_mem_nil) rfl (by decide +kernel)
def ab_s_141_3_d : ab_M := (141, [(2, 234, 0, 0), (0, -1, -1, 0)], [(some (0, 0, 0, 0), [(2, 234, 0, 0), (0, -1, -1, 0)])])
set_option maxRecDepth 1000000 in
theorem ab_s_141_3 : ab_sum ab_ty ab_TT ab_s_141_3_d := ab_ok_sum (X := ([ab_s_126_5_d], ab_TT, mj_m_141, ab_s_141_3_d.2.1, ab_s_141_3_d.2.2, [], [(0, [(0, (2, 234, 0, 0)), (1, (0, -1, -1, 1000000))], 0, [])], true)) (F := 600) (List.forall_mem_cons.mpr ⟨ab_s_126_5, fun _ h => absurd h List.not_mem_nil⟩) rfl (by decide +kernel)
def ab_s_152_0_d : ab_M := (152, [(2, 234, 0, 0), (0, 0, 8, 0)], [(some (0, -1, 8, 0), [(2, 234, 0, 0), (0, 0, 8, 0)])])
set_option maxRecDepth 1000000 in
theorem ab_s_152_0 : ab_sum ab_ty ab_TT ab_s_152_0_d := ab_ok_sum (X := ([ab_s_141_3_d, ab_s_141_2_d, ab_s_141_1_d], ab_TT, mj_m_152, ab_s_152_0_d.2.1, ab_s_152_0_d.2.2, [], [(0, [(0, (2, 234, 0, 0)), (1, (0, 0, 8, 1000000))], 0, [])], true)) (F := 600) (List.forall_mem_cons.mpr ⟨ab_s_141_3, List.forall_mem_cons.mpr ⟨ab_s_141_2, List.forall_mem_cons.mpr ⟨ab_s_141_1, fun _ h => absurd h List.not_mem_nil⟩⟩⟩) rfl (by decide +kernel)
def ab_s_176_0_d : ab_M := (176, [(0, -2147483648, 2147483647, 0)], [(some (0, -2147483648, 2147483647, 0), [(0, -2147483648, 2147483647, 0)])])
set_option maxRecDepth 1000000 in
theorem ab_s_176_0 : ab_sum ab_ty ab_TT ab_s_176_0_d := ab_ok_sum (X := ([], ab_TT, mj_m_176, ab_s_176_0_d.2.1, ab_s_176_0_d.2.2, [(2, 9)], [(0, [(0, (0, -2147483648, 2147483647, 1000000))], 10, [0]), (4, [(2, (0, 0, 9, 1000000)), (1, (0, -2147483648, 2147483647, 1000000)), (0, (0, -2147483648, 2147483647, 1000000))], 0, [1])], false)) (F := 600) (fun _ h => absurd h List.not_mem_nil) rfl (by decide +kernel)
def ab_s_175_0_d : ab_M := (175, [(2, 234, 0, 0), (0, 0, 4, 0), (0, 0, 4, 0)], [(some (0, 0, 99, 0), [(2, 234, 0, 0), (0, 0, 4, 0), (0, 0, 4, 0)])])
set_option maxRecDepth 1000000 in
theorem ab_s_175_0 : ab_sum ab_ty ab_TT ab_s_175_0_d := ab_ok_sum (X := ([ab_s_176_0_d], ab_TT, mj_m_175, ab_s_175_0_d.2.1, ab_s_175_0_d.2.2, [], [(0, [(0, (2, 234, 0, 0)), (1, (0, 0, 4, 1000000)), (2, (0, 0, 4, 1000000))], 0, [])], true)) (F := 600) (List.forall_mem_cons.mpr ⟨ab_s_176_0, fun _ h => absurd h List.not_mem_nil⟩) rfl (by decide +kernel)
def ab_s_99_0_d : ab_M := (99, [(2, 13, 0, 0), (0, 0, 4, 0), (0, 0, 4, 0)], [(some (0, 1, 1, 0), [(2, 13, 0, 0), (0, 0, 4, 0), (0, 0, 4, 0)]), (some (0, 0, 0, 0), [(2, 13, 0, 0), (0, 0, 4, 0), (0, 0, 4, 0)])])
set_option maxRecDepth 1000000 in
theorem ab_s_99_0 : ab_sum ab_ty ab_TT ab_s_99_0_d := ab_ok_sum (X := ([], ab_TT, mj_m_99, ab_s_99_0_d.2.1, ab_s_99_0_d.2.2, [], [(0, [(0, (2, 13, 0, 0)), (1, (0, 0, 4, 1000000)), (2, (0, 0, 4, 1000000))], 0, [])], true)) (F := 600) (fun _ h => absurd h List.not_mem_nil) rfl (by decide +kernel)
def ab_s_100_0_d : ab_M := (100, [(0, 0, 4, 0), (0, 0, 4, 0), (0, -2147483648, 2147483647, 0)], [(some (0, -1, 4, 0), [(0, 0, 4, 0), (0, 0, 4, 0), (0, -2147483648, 2147483647, 0)])])
set_option maxRecDepth 1000000 in
theorem ab_s_100_0 : ab_sum ab_ty ab_TT ab_s_100_0_d := ab_ok_sum (X := ([], ab_TT, mj_m_100, ab_s_100_0_d.2.1, ab_s_100_0_d.2.2, [], [(0, [(0, (0, 0, 4, 1000000)), (1, (0, 0, 4, 1000000)), (2, (0, -2147483648, 2147483647, 1000000))], 0, [])], true)) (F := 600) (fun _ h => absurd h List.not_mem_nil) rfl (by decide +kernel)
def ab_s_98_0_d : ab_M := (98, [(2, 0, 0, 0), (0, -2147483648, 2147483647, 0)], [(some (0, -1, 4, 0), [(2, 0, 0, 0), (0, -2147483648, 2147483647, 0)])])
set_option maxRecDepth 1000000 in
theorem ab_s_98_0 : ab_sum ab_ty ab_TT ab_s_98_0_d := ab_ok_sum (X := ([ab_s_99_0_d, ab_s_100_0_d], ab_TT, mj_m_98, ab_s_98_0_d.2.1, ab_s_98_0_d.2.2, [(2, 5), (3, 5)], [(0, [(0, (2, 0, 0, 0)), (1, (0, -2147483648, 2147483647, 1000000))], 36, [0, 0]), (2, [(2, (0, 0, 5, 1000000)), (0, (2, 0, 0, 0)), (1, (0, -2147483648, 2147483647, 1000000))], 5, [6, 0]), (17, [(3, (0, 1, 5, 1000000)), (2, (0, 0, 4, 1000000)), (0, (2, 0, 0, 0)), (1, (0, -2147483648, 2147483647, 1000000))], 0, [6, 1])], false)) (F := 600) (List.forall_mem_cons.mpr ⟨ab_s_99_0, List.forall_mem_cons.mpr ⟨ab_s_100_0, fun _ h => absurd h List.not_mem_nil⟩⟩) rfl (by decide +kernel)
def ab_s_91_0_d : ab_M := (91, [(0, -2147483648, 2147483647, 0)], [(some (0, 0, 63, 0), [(0, -2147483648, 2147483647, 0)])])
set_option maxRecDepth 1000000 in
theorem ab_s_91_0 : ab_sum ab_ty ab_TT ab_s_91_0_d := ab_ok_sum (X := ([], ab_TT, mj_m_91, ab_s_91_0_d.2.1, ab_s_91_0_d.2.2, [], [(0, [(0, (0, -2147483648, 2147483647, 1000000))], 0, [])], true)) (F := 600) (fun _ h => absurd h List.not_mem_nil) rfl (by decide +kernel)
def ab_s_104_0_d : ab_M := (104, [(2, 0, 0, 0), (0, -2147483648, 2147483647, 0)], [(some (0, -1, 8, 0), [(2, 0, 0, 0), (0, -2147483648, 2147483647, 0)])])
set_option maxRecDepth 1000000 in
theorem ab_s_104_0 : ab_sum ab_ty ab_TT ab_s_104_0_d := ab_ok_sum (X := ([ab_s_83_0_d, ab_s_91_0_d], ab_TT, mj_m_104, ab_s_104_0_d.2.1, ab_s_104_0_d.2.2, [(4, 9)], [(0, [(0, (2, 0, 0, 0)), (1, (0, -2147483648, 2147483647, 1000000))], 10, [0]), (7, [(4, (0, 0, 9, 1000000)), (3, (0, 0, 63, 1000000)), (2, (0, -1, 8, 1000000)), (0, (2, 0, 0, 0)), (1, (0, -2147483648, 2147483647, 1000000))], 0, [1])], false)) (F := 600) (List.forall_mem_cons.mpr ⟨ab_s_83_0, List.forall_mem_cons.mpr ⟨ab_s_91_0, fun _ h => absurd h List.not_mem_nil⟩⟩) rfl (by decide +kernel)
def ab_s_103_0_d : ab_M := (103, [(0, 0, 16777215, 0), (0, -2147483648, 2147483647, 0)], [(some (0, 0, 1, 0), [(0, 0, 16777215, 0), (0, -2147483648, 2147483647, 0)])])
set_option maxRecDepth 1000000 in
theorem ab_s_103_0 : ab_sum ab_ty ab_TT ab_s_103_0_d := ab_ok_sum (X := ([ab_s_37_0_d], ab_TT, mj_m_103, ab_s_103_0_d.2.1, ab_s_103_0_d.2.2, [(2, 8)], [(0, [(0, (0, 0, 16777215, 1000000)), (1, (0, -2147483648, 2147483647, 1000000))], 9, [0]), (2, [(2, (0, 0, 8, 1000000)), (0, (0, 0, 16777215, 1000000)), (1, (0, -2147483648, 2147483647, 1000000))], 0, [1])], false)) (F := 600) (List.forall_mem_cons.mpr ⟨ab_s_37_0, fun _ h => absurd h List.not_mem_nil⟩) rfl (by decide +kernel)
def ab_s_102_0_d : ab_M := (102, [(2, 13, 0, 0), (0, -2147483648, 2147483647, 0), (0, 0, 9, 0)], [(some (0, -2147483648, 2147483647, 0), [(2, 13, 0, 0), (0, -2147483648, 2147483647, 0), (0, 0, 9, 0)])])
set_option maxRecDepth 1000000 in
theorem ab_s_102_0 : ab_sum ab_ty ab_TT ab_s_102_0_d := ab_ok_sum (X := ([ab_s_103_0_d], ab_TT, mj_m_102, ab_s_102_0_d.2.1, ab_s_102_0_d.2.2, [(4, 9)], [(0, [(0, (2, 13, 0, 0)), (1, (0, -2147483648, 2147483647, 1000000)), (2, (0, 0, 9, 1000000))], 10, [0]), (5, [(4, (0, 0, 9, 1000000)), (3, (0, -2147483648, 2147483647, 1000000)), (0, (2, 13, 0, 0)), (1, (0, -2147483648, 2147483647, 1000000)), (2, (0, 0, 9, 1000000))], 0, [1])], false)) (F := 600) (List.forall_mem_cons.mpr ⟨ab_s_103_0, fun _ h => absurd h List.not_mem_nil⟩) rfl (by decide +kernel)
def ab_s_101_0_d : ab_M := (101, [(2, 0, 0, 0), (0, -2147483648, 2147483647, 0), (0, -2147483648, 2147483647, 0)], [(some (0, -2147483648, 2147483647, 0), [(2, 0, 0, 0), (0, -2147483648, 2147483647, 0), (0, -2147483648, 2147483647, 0)])])
set_option maxRecDepth 1000000 in
theorem ab_s_101_0 : ab_sum ab_ty ab_TT ab_s_101_0_d := ab_ok_sum (X := ([ab_s_102_0_d, ab_s_104_0_d], ab_TT, mj_m_101, ab_s_101_0_d.2.1, ab_s_101_0_d.2.2, [], [(0, [(0, (2, 0, 0, 0)), (1, (0, -2147483648, 2147483647, 1000000)), (2, (0, -2147483648, 2147483647, 1000000))], 0, [])], true)) (F := 600) (List.forall_mem_cons.mpr ⟨ab_s_102_0, List.forall_mem_cons.mpr ⟨ab_s_104_0, fun _ h => absurd h List.not_mem_nil⟩⟩) rfl (by decide +kernel)
def ab_s_105_0_d : ab_M := (105, [(2, 0, 0, 0), (0, -2147483648, 2147483647, 0), (0, -2147483648, 2147483647, 0)], [(some (0, -1000000002, 1000000000, 0), [(2, 0, 0, 0), (0, -2147483648, 2147483647, 0), (0, -2147483648, 2147483647, 0)])])
set_option maxRecDepth 1000000 in
theorem ab_s_105_0 : ab_sum ab_ty ab_TT ab_s_105_0_d := ab_ok_sum (X := ([], ab_TT, mj_m_105, ab_s_105_0_d.2.1, ab_s_105_0_d.2.2, [(5, 8)], [(0, [(0, (2, 0, 0, 0)), (1, (0, -2147483648, 2147483647, 1000000)), (2, (0, -2147483648, 2147483647, 1000000))], 9, [0]), (30, [(5, (0, 0, 8, 1000000)), (3, (1, 0, 1000000000, 1000000)), (0, (2, 0, 0, 0)), (1, (0, 0, 8, 1000000)), (2, (0, 0, 100, 1000000))], 0, [1])], false)) (F := 600) (fun _ h => absurd h List.not_mem_nil) rfl (by decide +kernel)
def ab_s_126_6_d : ab_M := (126, [(1, -2147483648, 2147483647, 0), (1, 0, 0, 0), (1, 8, 8, 0)], [(some (0, 1, 1, 0), [(1, 0, 8, 0), (1, 0, 0, 0), (1, 8, 8, 0)]), (some (0, 0, 0, 0), [(1, -2147483648, 2147483647, 0), (1, 0, 0, 0), (1, 8, 8, 0)])])
set_option maxRecDepth 1000000 in
theorem ab_s_126_6 : ab_sum ab_ty ab_TT ab_s_126_6_d := ab_ok_sum (X := ([], ab_TT, mj_m_126, ab_s_126_6_d.2.1, ab_s_126_6_d.2.2, [], [(0, [(0, (1, -2147483648, 2147483647, 1000000)), (2, (1, 0, 0, 1000000)), (4, (1, 8, 8, 1000000))], 0, [])], true)) (F := 600) (fun _ h => absurd h List.not_mem_nil) rfl (by decide +kernel)
def ab_s_126_7_d : ab_M := (126, [(1, -2147483648, 2147483647, 0), (1, 0, 0, 0), (1, 100, 100, 0)], [(some (0, 1, 1, 0), [(1, 0, 100, 0), (1, 0, 0, 0), (1, 100, 100, 0)]), (some (0, 0, 0, 0), [(1, -2147483648, 2147483647, 0), (1, 0, 0, 0), (1, 100, 100, 0)])])
set_option maxRecDepth 1000000 in
theorem ab_s_126_7 : ab_sum ab_ty ab_TT ab_s_126_7_d := ab_ok_sum (X := ([], ab_TT, mj_m_126, ab_s_126_7_d.2.1, ab_s_126_7_d.2.2, [], [(0, [(0, (1, -2147483648, 2147483647, 1000000)), (2, (1, 0, 0, 1000000)), (4, (1, 100, 100, 1000000))], 0, [])], true)) (F := 600) (fun _ h => absurd h List.not_mem_nil) rfl (by decide +kernel)
def ab_s_181_0_d : ab_M := (181, [(2, 234, 0, 0), (0, -2147483648, 2147483647, 0), (0, -2147483648, 2147483647, 0)], [(some (0, -2147483648, 2147483647, 0), [(2, 234, 0, 0), (0, -2147483648, 2147483647, 0), (0, -2147483648, 2147483647, 0)])])
set_option maxRecDepth 1000000 in
theorem ab_s_181_0 : ab_sum ab_ty ab_TT ab_s_181_0_d := ab_ok_sum (X := ([ab_s_126_7_d, ab_s_126_6_d], ab_TT, mj_m_181, ab_s_181_0_d.2.1, ab_s_181_0_d.2.2, [(5, 8)], [(0, [(0, (2, 234, 0, 0)), (1, (0, -2147483648, 2147483647, 1000000)), (2, (0, -2147483648, 2147483647, 1000000))], 9, [0]), (34, [(5, (0, 0, 8, 1000000)), (3, (1, -9223372036854775808, 9223372036854775807, 1000000)), (0, (2, 234, 0, 0)), (1, (0, 0, 8, 1000000)), (2, (0, 0, 100, 1000000))], 0, [1])], false)) (F := 600) (List.forall_mem_cons.mpr ⟨ab_s_126_7, List.forall_mem_cons.mpr ⟨ab_s_126_6, fun _ h => absurd h List.not_mem_nil⟩⟩) rfl (by decide +kernel)
def ab_s_110_0_d : ab_M := (110, [(2, 217, 0, 0), (0, -2147483648, 2147483647, 0), (0, -2147483648, 2147483647, 0)], [(some (0, 0, 1, 0), [(2, 217, 0, 0), (0, -2147483648, 2147483647, 0), (0, -2147483648, 2147483647, 0)])])
set_option maxRecDepth 1000000 in
theorem ab_s_110_0 : ab_sum ab_ty ab_TT ab_s_110_0_d := ab_ok_sum (X := ([], ab_TT, mj_m_110, ab_s_110_0_d.2.1, ab_s_110_0_d.2.2, [(3, 7)], [(0, [(0, (2, 217, 0, 0)), (1, (0, -2147483648, 2147483647, 1000000)), (2, (0, -2147483648, 2147483647, 1000000))], 8, [0]), (2, [(3, (0, 0, 7, 1000000)), (0, (2, 217, 0, 0)), (1, (0, -2147483648, 2147483647, 1000000)), (2, (0, -2147483648, 2147483647, 1000000))], 0, [1])], false)) (F := 600) (fun _ h => absurd h List.not_mem_nil) rfl (by decide +kernel)
def ab_s_109_0_d : ab_M := (109, [(2, 0, 0, 0), (0, -2147483648, 2147483647, 0)], [(some (0, 0, 511, 0), [(2, 0, 0, 0), (0, -2147483648, 2147483647, 0)])])
set_option maxRecDepth 1000000 in
theorem ab_s_109_0 : ab_sum ab_ty ab_TT ab_s_109_0_d := ab_ok_sum (X := ([ab_s_110_0_d, ab_s_83_0_d], ab_TT, mj_m_109, ab_s_109_0_d.2.1, ab_s_109_0_d.2.2, [(3, 9)], [(0, [(0, (2, 0, 0, 0)), (1, (0, -2147483648, 2147483647, 1000000))], 10, [0]), (4, [(3, (0, 0, 9, 1000000)), (2, (0, 0, 511, 1000000)), (0, (2, 0, 0, 0)), (1, (0, -2147483648, 2147483647, 1000000))], 0, [1])], false)) (F := 600) (List.forall_mem_cons.mpr ⟨ab_s_110_0, List.forall_mem_cons.mpr ⟨ab_s_83_0, fun _ h => absurd h List.not_mem_nil⟩⟩) rfl (by decide +kernel)
def ab_s_112_0_d : ab_M := (112, [(2, 0, 0, 0), (0, 0, 8, 0), (0, -2147483648, 2147483647, 0)], [(some (0, -2147483648, 2147483647, 0), [(2, 0, 0, 0), (0, 0, 8, 0), (0, -2147483648, 2147483647, 0)])])
set_option maxRecDepth 1000000 in
theorem ab_s_112_0 : ab_sum ab_ty ab_TT ab_s_112_0_d := ab_ok_sum (X := ([ab_s_83_0_d], ab_TT, mj_m_112, ab_s_112_0_d.2.1, ab_s_112_0_d.2.2, [(4, 9)], [(0, [(0, (2, 0, 0, 0)), (1, (0, 0, 8, 1000000)), (2, (0, -2147483648, 2147483647, 1000000))], 10, [0]), (5, [(4, (0, 0, 9, 1000000)), (3, (0, -2147483648, 2147483647, 1000000)), (0, (2, 0, 0, 0)), (1, (0, 0, 8, 1000000)), (2, (0, -2147483648, 2147483647, 1000000))], 0, [1])], false)) (F := 600) (List.forall_mem_cons.mpr ⟨ab_s_83_0, fun _ h => absurd h List.not_mem_nil⟩) rfl (by decide +kernel)
def ab_s_111_0_d : ab_M := (111, [(2, 0, 0, 0), (0, -2147483648, 2147483647, 0)], [(some (0, -1, 8, 0), [(2, 0, 0, 0), (0, -2147483648, 2147483647, 0)])])
set_option maxRecDepth 1000000 in
theorem ab_s_111_0 : ab_sum ab_ty ab_TT ab_s_111_0_d := ab_ok_sum (X := ([ab_s_112_0_d, ab_s_91_0_d], ab_TT, mj_m_111, ab_s_111_0_d.2.1, ab_s_111_0_d.2.2, [(5, 9)], [(0, [(0, (2, 0, 0, 0)), (1, (0, -2147483648, 2147483647, 1000000))], 10, [0]), (13, [(5, (0, 0, 9, 1000000)), (4, (0, -2147483648, 63, 1000000)), (3, (0, -1, 8, 1000000)), (2, (0, 0, 63, 1000000)), (0, (2, 0, 0, 0)), (1, (0, -2147483648, 2147483647, 1000000))], 0, [1])], false)) (F := 600) (List.forall_mem_cons.mpr ⟨ab_s_112_0, List.forall_mem_cons.mpr ⟨ab_s_91_0, fun _ h => absurd h List.not_mem_nil⟩⟩) rfl (by decide +kernel)
def ab_s_108_0_d : ab_M := (108, [(2, 0, 0, 0), (0, -2147483648, 2147483647, 0), (0, -2147483648, 2147483647, 0)], [(some (0, -1000000002, 511, 0), [(2, 0, 0, 0), (0, -2147483648, 2147483647, 0), (0, -2147483648, 2147483647, 0)])])
set_option maxRecDepth 1000000 in
theorem ab_s_108_0 : ab_sum ab_ty ab_TT ab_s_108_0_d := ab_ok_sum (X := ([ab_s_111_0_d, ab_s_109_0_d], ab_TT, mj_m_108, ab_s_108_0_d.2.1, ab_s_108_0_d.2.2, [], [(0, [(0, (2, 0, 0, 0)), (1, (0, -2147483648, 2147483647, 1000000)), (2, (0, -2147483648, 2147483647, 1000000))], 0, [])], true)) (F := 600) (List.forall_mem_cons.mpr ⟨ab_s_111_0, List.forall_mem_cons.mpr ⟨ab_s_109_0, fun _ h => absurd h List.not_mem_nil⟩⟩) rfl (by decide +kernel)
def ab_s_116_0_d : ab_M := (116, [(2, 221, 0, 0), (2, 13, 0, 0)], [(some (0, -1, 19, 0), [(2, 221, 0, 0), (2, 13, 0, 0)])])
set_option maxRecDepth 1000000 in
theorem ab_s_116_0 : ab_sum ab_ty ab_TT ab_s_116_0_d := ab_ok_sum (X := ([ab_s_40_0_d], ab_TT, mj_m_116, ab_s_116_0_d.2.1, ab_s_116_0_d.2.2, [(2, 29)], [(0, [(0, (2, 221, 0, 0)), (1, (2, 13, 0, 0))], 30, [0]), (2, [(2, (0, 0, 29, 1000000)), (0, (2, 221, 0, 0)), (1, (2, 13, 0, 0))], 0, [1])], false)) (F := 600) (List.forall_mem_cons.mpr ⟨ab_s_40_0, fun _ h => absurd h List.not_mem_nil⟩) rfl (by decide +kernel)
def ab_s_115_0_d : ab_M := (115, [(2, 0, 0, 0)], [(some (0, -1, 19, 0), [(2, 0, 0, 0)])])
set_option maxRecDepth 1000000 in
theorem ab_s_115_0 : ab_sum ab_ty ab_TT ab_s_115_0_d := ab_ok_sum (X := ([ab_s_116_0_d], ab_TT, mj_m_115, ab_s_115_0_d.2.1, ab_s_115_0_d.2.2, [], [(0, [(0, (2, 0, 0, 0))], 0, [])], true)) (F := 600) (List.forall_mem_cons.mpr ⟨ab_s_116_0, fun _ h => absurd h List.not_mem_nil⟩) rfl (by decide +kernel)
def ab_s_185_0_d : ab_M := (185, [(2, 234, 0, 0)], [(some (0, -1, 19, 0), [(2, 234, 0, 0)])])
set_option maxRecDepth 1000000 in
theorem ab_s_185_0 : ab_sum ab_ty ab_TT ab_s_185_0_d := ab_ok_sum (X := ([ab_s_142_0_d], ab_TT, mj_m_185, ab_s_185_0_d.2.1, ab_s_185_0_d.2.2, [(1, 29)], [(0, [(0, (2, 234, 0, 0))], 30, [0]), (2, [(1, (0, 0, 29, 1000000)), (0, (2, 234, 0, 0))], 0, [1])], false)) (F := 600) (List.forall_mem_cons.mpr ⟨ab_s_142_0, fun _ h => absurd h List.not_mem_nil⟩) rfl (by decide +kernel)
def ab_s_117_0_d : ab_M := (117, [(2, 0, 0, 0)], [(some (0, 0, 26, 0), [(2, 0, 0, 0)])])
set_option maxRecDepth 1000000 in
theorem ab_s_117_0 : ab_sum ab_ty ab_TT ab_s_117_0_d := ab_ok_sum (X := ([], ab_TT, mj_m_117, ab_s_117_0_d.2.1, ab_s_117_0_d.2.2, [], [(0, [(0, (2, 0, 0, 0))], 0, [])], true)) (F := 600) (fun _ h => absurd h List.not_mem_nil) rfl (by decide +kernel)
def ab_s_186_0_d : ab_M := (186, [(2, 234, 0, 0)], [(some (0, 0, 26, 0), [(2, 234, 0, 0)])])
set_option maxRecDepth 1000000 in
theorem ab_s_186_0 : ab_sum ab_ty ab_TT ab_s_186_0_d := ab_ok_sum (X := ([], ab_TT, mj_m_186, ab_s_186_0_d.2.1, ab_s_186_0_d.2.2, [], [(0, [(0, (2, 234, 0, 0))], 0, [])], true)) (F := 600) (fun _ h => absurd h List.not_mem_nil) rfl (by decide +kernel)
def ab_s_118_0_d : ab_M := (118, [(2, 0, 0, 0), (0, -2147483648, 2147483647, 0)], [(some (0, -1000000002, 2147483647, 0), [(2, 0, 0, 0), (0, -2147483648, 2147483647, 0)])])
set_option maxRecDepth 1000000 in
theorem ab_s_118_0 : ab_sum ab_ty ab_TT ab_s_118_0_d := ab_ok_sum (X := ([], ab_TT, mj_m_118, ab_s_118_0_d.2.1, ab_s_118_0_d.2.2, [], [(0, [(0, (2, 0, 0, 0)), (1, (0, -2147483648, 2147483647, 1000000))], 0, [])], true)) (F := 600) (fun _ h => absurd h List.not_mem_nil) rfl (by decide +kernel)
def ab_s_187_0_d : ab_M := (187, [(2, 234, 0, 0), (0, -2147483648, 2147483647, 0)], [(some (0, -1000000002, 2147483647, 0), [(2, 234, 0, 0), (0, -2147483648, 2147483647, 0)])])
set_option maxRecDepth 1000000 in
theorem ab_s_187_0 : ab_sum ab_ty ab_TT ab_s_187_0_d := ab_ok_sum (X := ([], ab_TT, mj_m_187, ab_s_187_0_d.2.1, ab_s_187_0_d.2.2, [], [(0, [(0, (2, 234, 0, 0)), (1, (0, -2147483648, 2147483647, 1000000))], 0, [])], true)) (F := 600) (fun _ h => absurd h List.not_mem_nil) rfl (by decide +kernel)
def ab_s_19_0_d : ab_M := (19, [(2, 1, 0, 0), (0, 1, 1, 0), (0, -2147483648, 2147483647, 0)], [(none, [(2, 1, 0, 0), (0, 1, 1, 0), (0, -2147483648, 2147483647, 0)])])
set_option maxRecDepth 1000000 in
theorem ab_s_19_0 : ab_sum ab_ty ab_TT ab_s_19_0_d := ab_ok_sum (X := ([], ab_TT, mj_m_19, ab_s_19_0_d.2.1, ab_s_19_0_d.2.2, [], [(0, [(0, (2, 1, 0, 0)), (1, (0, 1, 1, 1000000)), (2, (0, -2147483648, 2147483647, 1000000))], 0, [])], true)) (F := 600) (fun _ h => absurd h List.not_mem_nil) rfl (by decide +kernel)
def ab_s_24_0_d : ab_M := (24, [(0, 0, 65535, 0)], [(some (0, 1, 1, 0), [(0, 48, 57, 0)]), (some (0, 0, 0, 0), [(0, 0, 65535, 0)])])
set_option maxRecDepth 1000000 in
theorem ab_s_24_0 : ab_sum ab_ty ab_TT ab_s_24_0_d := ab_ok_sum (X := ([], ab_TT, mj_m_24, ab_s_24_0_d.2.1, ab_s_24_0_d.2.2, [], [(0, [(0, (0, 0, 65535, 1000000))], 0, [])], true)) (F := 600) (fun _ h => absurd h List.not_mem_nil) rfl (by decide +kernel)
def ab_s_179_0_d : ab_M := (179, [(2, 234, 0, 0), (0, 0, 4, 0), (0, 0, 4, 0)], [(some (0, 1, 1, 0), [(2, 234, 0, 0), (0, 0, 4, 0), (0, 0, 4, 0)]), (some (0, 0, 0, 0), [(2, 234, 0, 0), (0, 0, 4, 0), (0, 0, 4, 0)])])
set_option maxRecDepth 1000000 in
theorem ab_s_179_0 : ab_sum ab_ty ab_TT ab_s_179_0_d := ab_ok_sum (X := ([], ab_TT, mj_m_179, ab_s_179_0_d.2.1, ab_s_179_0_d.2.2, [], [(0, [(0, (2, 234, 0, 0)), (1, (0, 0, 4, 1000000)), (2, (0, 0, 4, 1000000))], 0, [])], true)) (F := 600) (fun _ h => absurd h List.not_mem_nil) rfl (by decide +kernel)
def ab_s_164_0_d : ab_M := (164, [(2, 234, 0, 0), (0, 1, 9, 0)], [(some (0, 0, 8, 0), [(2, 234, 0, 0), (0, 1, 9, 0)])])
set_option maxRecDepth 1000000 in
theorem ab_s_164_0 : ab_sum ab_ty ab_TT ab_s_164_0_d := ab_ok_sum (X := ([], ab_TT, mj_m_164, ab_s_164_0_d.2.1, ab_s_164_0_d.2.2, [], [(0, [(0, (2, 234, 0, 0)), (1, (0, 1, 9, 1000000))], 0, [])], true)) (F := 600) (fun _ h => absurd h List.not_mem_nil) rfl (by decide +kernel)
def ab_s_19_1_d : ab_M := (19, [(2, 1, 0, 0), (0, 1, 3, 0), (0, -2147483648, 2147483647, 0)], [(none, [(2, 1, 0, 0), (0, 1, 3, 0), (0, -2147483648, 2147483647, 0)])])
set_option maxRecDepth 1000000 in
theorem ab_s_19_1 : ab_sum ab_ty ab_TT ab_s_19_1_d := ab_ok_sum (X := ([], ab_TT, mj_m_19, ab_s_19_1_d.2.1, ab_s_19_1_d.2.2, [], [(0, [(0, (2, 1, 0, 0)), (1, (0, 1, 3, 1000000)), (2, (0, -2147483648, 2147483647, 1000000))], 0, [])], true)) (F := 600) (fun _ h => absurd h List.not_mem_nil) rfl (by decide +kernel)
def ab_s_26_0_d : ab_M := (26, [(2, 3, 0, 0), (0, 0, 2, 0), (0, 0, 4, 0)], [(none, [(2, 3, 0, 0), (0, 0, 2, 0), (0, 0, 4, 0)])])
set_option maxRecDepth 1000000 in
theorem ab_s_26_0 : ab_sum ab_ty ab_TT ab_s_26_0_d := ab_ok_sum (X := ([], ab_TT, mj_m_26, ab_s_26_0_d.2.1, ab_s_26_0_d.2.2, [], [(0, [(0, (2, 3, 0, 0)), (1, (0, 0, 2, 1000000)), (2, (0, 0, 4, 1000000))], 0, [])], true)) (F := 600) (fun _ h => absurd h List.not_mem_nil) rfl (by decide +kernel)
end
section
/-! WEAKEST CONDITIONS over the small machine: ints as numbers, cells by their place -/
def sy_i (z : Int) : Value := .int (Int32.ofInt z)
def sy_l (z : Int) : Value := .long (Int64.ofInt z)
def sy_wp (S : mj_S) (Q : Option Value → mj_H → Prop) : Prop := ∃ r h', mj_runs S r h' ∧ Q r h'
abbrev sy_H (h : mj_H) : Prop := ab_H ab_ty ab_TT h
def sy_at (xs : List Value) (k : Nat) : Int := match xs[k]? with
  | some (.int x) => x.toInt
  | _ => 0
def sy_rd (h : mj_H) (a k : Nat) : Int := match h[a]? with
  | some (_, xs) => sy_at xs k
  | none => 0
def sy_wr (h : mj_H) (a k : Nat) (z : Int) : mj_H := match h[a]? with
  | some (t, xs) => h.set a (t, xs.set k (sy_i z))
  | none => h
def sy_cell (a : Nat) : Option (Nat × Nat × List ab_V) := match ab_ty[a]? with
  | some t => ab_TT[t]?
  | none => none
/-- the only cell of type t -/
def sy_uni (t a : Nat) : Bool := (List.range ab_ty.length).all (fun b => !(ab_ty[b]? == some t) || b == a)
theorem sy_uni_ok {t a b : Nat} (h : sy_uni t a = true) (hb : ab_ty[b]? = some t) : b = a := by
  have hl : b < ab_ty.length := (List.getElem?_eq_some_iff.mp hb).1
  have := List.all_eq_true.mp h b (List.mem_range.mpr hl)
  rw [hb] at this
  simpa using this
theorem sy_toInt {z : Int} (h : -2147483648 ≤ z ∧ z ≤ 2147483647) : (Int32.ofInt z).toInt = z := by
  rw [Int32.toInt_ofInt]
  exact ab_bmod h.1 h.2
theorem sy_of (x : Int32) : sy_i x.toInt = .int x := by
  unfold sy_i
  rw [Int32.ofInt_toInt]
theorem sy_lo {x : Int32} : -2147483648 ≤ x.toInt ∧ x.toInt ≤ 2147483647 := by
  have h1 := Int32.le_toInt x
  have h2 := Int32.toInt_lt x
  omega
theorem sy_int {lo hi : Int} {o : Nat} {v : Value} (h : ab_m ab_ty (0, lo, hi, o) v) : ∃ z, v = sy_i z ∧ lo ≤ z ∧ z ≤ hi ∧ -2147483648 ≤ z ∧ z ≤ 2147483647 := by
  obtain ⟨x, rfl, h1, h2⟩ := ab_m_0 h
  exact ⟨x.toInt, (sy_of x).symm, h1, h2, sy_lo⟩
theorem sy_m {lo hi z : Int} {o : Nat} (h1 : lo ≤ z) (h2 : z ≤ hi) (hr : -2147483648 ≤ z ∧ z ≤ 2147483647) : ab_m ab_ty (0, lo, hi, o) (sy_i z) :=
  Or.inl ⟨rfl, _, rfl, by rw [sy_toInt hr]; exact ⟨h1, h2⟩⟩
theorem sy_ref {t : Int} {u : Int} {o a : Nat} {v : Value} (hu : sy_uni t.toNat a = true) (h : ab_m ab_ty (2, t, u, o) v) : v = .ref a := by
  obtain ⟨b, rfl, hb⟩ := ab_m_2 h
  rw [sy_uni_ok hu hb]
theorem sy_m2 {t : Nat} {u : Int} {o a : Nat} (h : ab_ty[a]? = some t) : ab_m ab_ty (2, (t : Int), u, o) (.ref a) := Or.inr (Or.inr ⟨rfl, a, rfl, h⟩)
section SY1
variable {h : mj_H} {a tag len k : Nat} {es : List ab_V}
theorem sy_cell_ty (hc : sy_cell a = some (tag, len, es)) : ∃ t, ab_ty[a]? = some t ∧ ab_TT[t]? = some (tag, len, es) := by
  unfold sy_cell at hc
  split at hc
  · rename_i t e
    exact ⟨t, e, hc⟩
  · cases hc
theorem sy_H.cell (hH : sy_H h) (hc : sy_cell a = some (tag, len, es)) : ∃ xs, h[a]? = some (tag, xs) ∧ xs.length = len ∧ ∀ i v, xs[i]? = some v → ab_m ab_ty (ab_el es i) v := by
  obtain ⟨t, e1, e2⟩ := sy_cell_ty hc
  obtain ⟨tag', len', es', xs, g1, g2, g3, g4⟩ := hH.2 a t e1
  rw [e2] at g1
  cases g1
  exact ⟨xs, g2, g3, g4⟩
theorem sy_H.get {lo hi : Int} {o : Nat} (hH : sy_H h) (hc : sy_cell a = some (tag, len, es)) (hk : k < len) (he : ab_el es k = (0, lo, hi, o)) : ∃ xs, h[a]? = some (tag, xs) ∧ xs.length = len ∧ xs[k]? = some (sy_i (sy_rd h a k)) ∧ lo ≤ sy_rd h a k ∧ sy_rd h a k ≤ hi := by
  obtain ⟨xs, g2, g3, g4⟩ := hH.cell hc
  have hv : xs[k]? = some (xs[k]'(by omega)) := List.getElem?_eq_getElem (by omega)
  have := g4 k _ hv
  rw [he] at this
  obtain ⟨x, e, h1, h2⟩ := ab_m_0 this
  have hr : sy_rd h a k = x.toInt := by
    unfold sy_rd
    rw [g2]
    dsimp only
    unfold sy_at
    rw [hv, e]
  refine ⟨xs, g2, g3, ?_, ?_, ?_⟩
  · rw [hv, e, hr, sy_of]
  · rw [hr]; exact h1
  · rw [hr]; exact h2
theorem sy_H.bd {lo hi : Int} {o : Nat} (hH : sy_H h) (hc : sy_cell a = some (tag, len, es)) (hk : k < len) (he : ab_el es k = (0, lo, hi, o)) : lo ≤ sy_rd h a k ∧ sy_rd h a k ≤ hi := by
  obtain ⟨xs, -, -, -, q⟩ := hH.get hc hk he
  exact q
theorem sy_H.wr {lo hi z : Int} {o : Nat} (hH : sy_H h) (hc : sy_cell a = some (tag, len, es)) (he : ab_el es k = (0, lo, hi, o)) (h1 : lo ≤ z) (h2 : z ≤ hi) (hr : -2147483648 ≤ z ∧ z ≤ 2147483647) : sy_H (sy_wr h a k z) := by
  obtain ⟨t, e1, e2⟩ := sy_cell_ty hc
  obtain ⟨xs, g2, g3, g4⟩ := hH.cell hc
  unfold sy_wr
  rw [g2]
  dsimp only
  exact ab_H.set hH e1 e2 g2 (by rw [he]; exact sy_m h1 h2 hr)
theorem sy_rd_same {z : Int} (hH : sy_H h) (hc : sy_cell a = some (tag, len, es)) (hk : k < len) (hr : -2147483648 ≤ z ∧ z ≤ 2147483647) : sy_rd (sy_wr h a k z) a k = z := by
  obtain ⟨xs, g2, g3, g4⟩ := hH.cell hc
  have hlt : a < h.length := (List.getElem?_eq_some_iff.mp g2).1
  unfold sy_wr
  rw [g2]
  dsimp only
  unfold sy_rd
  rw [List.getElem?_set_self hlt]
  dsimp only
  unfold sy_at
  rw [List.getElem?_set_self (by omega)]
  exact sy_toInt hr
theorem sy_rd_ne {b l : Nat} {z : Int} (hne : a ≠ b ∨ k ≠ l) : sy_rd (sy_wr h a k z) b l = sy_rd h b l := by
  unfold sy_wr
  split
  · rename_i t xs e
    have hlt : a < h.length := (List.getElem?_eq_some_iff.mp e).1
    unfold sy_rd
    by_cases q : a = b
    · subst q
      rw [List.getElem?_set_self hlt, e]
      dsimp only
      unfold sy_at
      rw [List.getElem?_set_ne (by omega)]
    · rw [List.getElem?_set_ne q]
  · rfl
end SY1
section SY2
variable {M M' : mj_M} {pc : Nat} {lv lv' : mj_L} {st vs rest : List Value} {h : mj_H} {Q Q' : Option Value → mj_H → Prop} {ins : Instr} {len : Nat} {S S' : mj_S}
theorem sy_wp.mono (k : sy_wp S Q) (hq : ∀ r h', Q r h' → Q' r h') : sy_wp S Q' := by
  obtain ⟨r, h', e, q⟩ := k
  exact ⟨r, h', e, hq r h' q⟩
theorem sy_st (hd : decode M.2.1 pc = .ok (ins, len)) (he : ∀ kc k : mj_S → mj_O, mj_do none kc k ins len M pc lv st h = k S') (kk : sy_wp S' Q) : sy_wp (M, pc, lv, st, h) Q := by
  obtain ⟨r, h', e, q⟩ := kk
  exact ⟨r, h', mj_runs.step (mj_one_of hd he) e, q⟩
theorem sy_one (h1 : mj_one none S S') (kk : sy_wp S' Q) : sy_wp S Q := by
  obtain ⟨r, h', e, q⟩ := kk
  exact ⟨r, h', mj_runs.step h1 e, q⟩
theorem sy_ret {t : FieldType} {v : Int32} (hd : decode M.2.1 pc = .ok (.ireturn, 1)) (hr : M.2.2.2.1 = some t) (hn : narrow t (.int v) = .int v) (q : Q (some (.int v)) h) : sy_wp (M, pc, lv, [.int v], h) Q :=
  ⟨_, _, mj_runs.ret (mj_ret_n hd hr hn), q⟩
theorem sy_reti {z : Int} (hd : decode M.2.1 pc = .ok (.ireturn, 1)) (hr : M.2.2.2.1 = some .int) (q : Q (some (sy_i z)) h) : sy_wp (M, pc, lv, [sy_i z], h) Q := sy_ret hd hr rfl q
theorem sy_retb {z : Int} (hd : decode M.2.1 pc = .ok (.ireturn, 1)) (hr : M.2.2.2.1 = some .boolean) (hz : 0 ≤ z ∧ z ≤ 1) (q : Q (some (sy_i z)) h) : sy_wp (M, pc, lv, [sy_i z], h) Q := by
  refine sy_ret hd hr ?_ q
  rcases (show z = 0 ∨ z = 1 by omega) with e | e <;> subst e <;> decide
theorem sy_retv (hd : decode M.2.1 pc = .ok (.return_, 1)) (hr : M.2.2.2.1 = none) (q : Q none h) : sy_wp (M, pc, lv, [], h) Q :=
  ⟨_, _, mj_runs.ret (mj_ret_v hd hr), q⟩
theorem sy_alu2 {x y z : Int32} (hd : decode M.2.1 pc = .ok (ins, 1)) (he : ∀ kc k : mj_S → mj_O, mj_do none kc k ins 1 M pc lv (.int y :: .int x :: st) h = k (M, pc + 1, lv, .int z :: st, h)) {c : Int} (hz : .int z = sy_i c) (kk : sy_wp (M, pc + 1, lv, sy_i c :: st, h) Q) : sy_wp (M, pc, lv, .int y :: .int x :: st, h) Q := by
  refine sy_st hd he ?_
  rw [hz]
  exact kk
theorem sy_add {a b : Int} (hd : decode M.2.1 pc = .ok (.iadd, 1)) (kk : sy_wp (M, pc + 1, lv, sy_i (a + b) :: st, h) Q) : sy_wp (M, pc, lv, sy_i b :: sy_i a :: st, h) Q :=
  sy_alu2 hd (fun _ _ => rfl) (by unfold sy_i; rw [Int32.ofInt_add]) kk
theorem sy_sub {a b : Int} (hd : decode M.2.1 pc = .ok (.isub, 1)) (kk : sy_wp (M, pc + 1, lv, sy_i (a - b) :: st, h) Q) : sy_wp (M, pc, lv, sy_i b :: sy_i a :: st, h) Q :=
  sy_alu2 hd (fun _ _ => rfl) (by unfold sy_i; rw [Int32.ofInt_sub]) kk
theorem sy_mul {a b : Int} (hd : decode M.2.1 pc = .ok (.imul, 1)) (kk : sy_wp (M, pc + 1, lv, sy_i (a * b) :: st, h) Q) : sy_wp (M, pc, lv, sy_i b :: sy_i a :: st, h) Q :=
  sy_alu2 hd (fun _ _ => rfl) (by unfold sy_i; rw [Int32.ofInt_mul]) kk
def sy_and (a b : Int) : Int := (Int32.ofInt a &&& Int32.ofInt b).toInt
def sy_or (a b : Int) : Int := (Int32.ofInt a ||| Int32.ofInt b).toInt
def sy_xor (a b : Int) : Int := (Int32.ofInt a ^^^ Int32.ofInt b).toInt
def sy_shl (a b : Int) : Int := (Int32.ofInt a <<< (Int32.ofInt b &&& 31)).toInt
def sy_shr (a b : Int) : Int := (Int32.ofInt a >>> (Int32.ofInt b &&& 31)).toInt
theorem sy_iand {a b : Int} (hd : decode M.2.1 pc = .ok (.iand, 1)) (kk : sy_wp (M, pc + 1, lv, sy_i (sy_and a b) :: st, h) Q) : sy_wp (M, pc, lv, sy_i b :: sy_i a :: st, h) Q :=
  sy_alu2 hd (fun _ _ => rfl) (sy_of _).symm kk
theorem sy_ior {a b : Int} (hd : decode M.2.1 pc = .ok (.ior, 1)) (kk : sy_wp (M, pc + 1, lv, sy_i (sy_or a b) :: st, h) Q) : sy_wp (M, pc, lv, sy_i b :: sy_i a :: st, h) Q :=
  sy_alu2 hd (fun _ _ => rfl) (sy_of _).symm kk
theorem sy_ixor {a b : Int} (hd : decode M.2.1 pc = .ok (.ixor, 1)) (kk : sy_wp (M, pc + 1, lv, sy_i (sy_xor a b) :: st, h) Q) : sy_wp (M, pc, lv, sy_i b :: sy_i a :: st, h) Q :=
  sy_alu2 hd (fun _ _ => rfl) (sy_of _).symm kk
theorem sy_ishl {a b : Int} (hd : decode M.2.1 pc = .ok (.ishl, 1)) (kk : sy_wp (M, pc + 1, lv, sy_i (sy_shl a b) :: st, h) Q) : sy_wp (M, pc, lv, sy_i b :: sy_i a :: st, h) Q :=
  sy_alu2 hd (fun _ _ => rfl) (sy_of _).symm kk
theorem sy_ishr {a b : Int} (hd : decode M.2.1 pc = .ok (.ishr, 1)) (kk : sy_wp (M, pc + 1, lv, sy_i (sy_shr a b) :: st, h) Q) : sy_wp (M, pc, lv, sy_i b :: sy_i a :: st, h) Q :=
  sy_alu2 hd (fun _ _ => rfl) (sy_of _).symm kk
theorem sy_quot {a b : Int} (ha : 0 ≤ a ∧ a ≤ 2147483647) (hb : 1 ≤ b ∧ b ≤ 2147483647) : (Int32.ofInt a / Int32.ofInt b).toInt = a / b := by
  have e1 := sy_toInt (z := a) ⟨by omega, by omega⟩
  have e2 := sy_toInt (z := b) ⟨by omega, by omega⟩
  rw [Int32.toInt_div, e1, e2, Int.tdiv_eq_ediv_of_nonneg ha.1]
  have h1 := Int.ediv_nonneg ha.1 (show 0 ≤ b by omega)
  have h2 := Int.ediv_le_self b ha.1
  exact ab_bmod (by omega) (by omega)
theorem sy_div {a b : Int} (hd : decode M.2.1 pc = .ok (.idiv, 1)) (ha : 0 ≤ a ∧ a ≤ 2147483647) (hb : 1 ≤ b ∧ b ≤ 2147483647) (kk : sy_wp (M, pc + 1, lv, sy_i (a / b) :: st, h) Q) : sy_wp (M, pc, lv, sy_i b :: sy_i a :: st, h) Q := by
  refine sy_alu2 (z := Int32.ofInt a / Int32.ofInt b) hd (fun kc k => ?_) (by rw [← sy_of, sy_quot ha hb]) kk
  have hne : ¬ Int32.ofInt b = 0 := fun e => by
    have := congrArg Int32.toInt e
    rw [sy_toInt ⟨by omega, by omega⟩, show (0 : Int32).toInt = 0 by decide] at this
    omega
  simp only [mj_do, mj_br, mj_loc, mj_alu, mj_ii, if_neg hne, if_true]
theorem sy_rem {a b : Int} (hd : decode M.2.1 pc = .ok (.irem, 1)) (ha : 0 ≤ a ∧ a ≤ 2147483647) (hb : 1 ≤ b ∧ b ≤ 2147483647) (kk : sy_wp (M, pc + 1, lv, sy_i (a % b) :: st, h) Q) : sy_wp (M, pc, lv, sy_i b :: sy_i a :: st, h) Q := by
  have hq : Int32.ofInt a / Int32.ofInt b = Int32.ofInt (a / b) := by
    rw [← sy_quot ha hb, Int32.ofInt_toInt]
  refine sy_alu2 (z := Int32.ofInt a - Int32.ofInt a / Int32.ofInt b * Int32.ofInt b) hd (fun kc k => ?_) (by rw [hq, ← Int32.ofInt_mul, ← Int32.ofInt_sub]; unfold sy_i; rw [Int.emod_def, Int.mul_comm b]) kk
  have hne : ¬ Int32.ofInt b = 0 := fun e => by
    have := congrArg Int32.toInt e
    rw [sy_toInt ⟨by omega, by omega⟩, show (0 : Int32).toInt = 0 by decide] at this
    omega
  simp only [mj_do, mj_br, mj_loc, mj_alu, mj_ii, if_neg hne, if_true]
theorem sy_bip {n : Int} (hd : decode M.2.1 pc = .ok (.bipush n, 2)) (e : (Int8.ofInt n).toInt32 = Int32.ofInt n) (kk : sy_wp (M, pc + 2, lv, sy_i n :: st, h) Q) : sy_wp (M, pc, lv, st, h) Q :=
  sy_st hd (fun _ _ => rfl) (by rw [e]; exact kk)
theorem sy_sip {n : Int} (hd : decode M.2.1 pc = .ok (.sipush n, 3)) (e : (Int16.ofInt n).toInt32 = Int32.ofInt n) (kk : sy_wp (M, pc + 3, lv, sy_i n :: st, h) Q) : sy_wp (M, pc, lv, st, h) Q :=
  sy_st hd (fun _ _ => rfl) (by rw [e]; exact kk)
theorem sy_ldc {idx ix v z : Nat} {n : Int} (hd : decode M.2.1 pc = .ok (.ldc idx, 2)) (he : mj_ent M idx = some (ix, 5, v, z)) (e : Int32.ofNat v = Int32.ofInt n) (kk : sy_wp (M, pc + 2, lv, sy_i n :: st, h) Q) : sy_wp (M, pc, lv, st, h) Q := by
  refine sy_st (S' := (M, pc + 2, lv, sy_i n :: st, h)) hd (fun kc k => ?_) kk
  unfold mj_do
  dsimp only
  rw [if_pos rfl]
  unfold mj_ldc
  rw [he]
  dsimp only
  rw [if_pos rfl, e]
  rfl
theorem sy_ldcw {idx ix v z : Nat} {n : Int} (hd : decode M.2.1 pc = .ok (.ldc_w idx, 3)) (he : mj_ent M idx = some (ix, 5, v, z)) (e : Int32.ofNat v = Int32.ofInt n) (kk : sy_wp (M, pc + 3, lv, sy_i n :: st, h) Q) : sy_wp (M, pc, lv, st, h) Q := by
  refine sy_st (S' := (M, pc + 3, lv, sy_i n :: st, h)) hd (fun kc k => ?_) kk
  unfold mj_do
  dsimp only
  rw [if_pos rfl]
  unfold mj_ldc
  rw [he]
  dsimp only
  rw [if_pos rfl, e]
  rfl
theorem sy_inc {i : Nat} {d a : Int} (hd : decode M.2.1 pc = .ok (.iinc i d, 3)) (hi : i < M.2.2.1) (hg : mj_get lv i = some (sy_i a)) (hp : mj_put1 lv i (sy_i (a + d)) = lv') (kk : sy_wp (M, pc + 3, lv', st, h) Q) : sy_wp (M, pc, lv, st, h) Q := by
  refine sy_st (S' := (M, pc + 3, lv', st, h)) hd (fun kc k => ?_) kk
  simp only [mj_do, mj_br, mj_loc]
  rw [if_pos ⟨trivial, hi⟩, hg]
  unfold sy_i at hp ⊢
  dsimp only
  rw [← hp, Int32.ofInt_add]
theorem sy_ifc {c : ClassFile.Cond} {off : Int} {a : Int} {t : Nat} (hd : decode M.2.1 pc = .ok (.ifCond c off, 3)) (ht : mj_to pc off = some t) (ra : -2147483648 ≤ a ∧ a ≤ 2147483647) (kT : ab_rel c a 0 → sy_wp (M, t, lv, st, h) Q) (kF : ¬ ab_rel c a 0 → sy_wp (M, pc + 3, lv, st, h) Q) : sy_wp (M, pc, lv, sy_i a :: st, h) Q := by
  have hx := ab_cmp_rel c (Int32.ofInt a) 0
  rw [sy_toInt ra, show (0 : Int32).toInt = 0 by decide] at hx
  by_cases hc : ab_rel c a 0
  · exact sy_one (mj_one_ifT hd ht (hx.mpr hc)) (kT hc)
  · exact sy_one (mj_one_ifF hd ht (Bool.eq_false_iff.mpr (fun q => hc (hx.mp q)))) (kF hc)
theorem sy_icm {c : ClassFile.Cond} {off : Int} {a b : Int} {t : Nat} (hd : decode M.2.1 pc = .ok (.if_icmp c off, 3)) (ht : mj_to pc off = some t) (ra : -2147483648 ≤ a ∧ a ≤ 2147483647) (rb : -2147483648 ≤ b ∧ b ≤ 2147483647) (kT : ab_rel c a b → sy_wp (M, t, lv, st, h) Q) (kF : ¬ ab_rel c a b → sy_wp (M, pc + 3, lv, st, h) Q) : sy_wp (M, pc, lv, sy_i b :: sy_i a :: st, h) Q := by
  have hx := ab_cmp_rel c (Int32.ofInt a) (Int32.ofInt b)
  rw [sy_toInt ra, sy_toInt rb] at hx
  by_cases hc : ab_rel c a b
  · exact sy_one (mj_one_icmpT hd ht (hx.mpr hc)) (kT hc)
  · exact sy_one (mj_one_icmpF hd ht (Bool.eq_false_iff.mpr (fun q => hc (hx.mp q)))) (kF hc)
theorem sy_gf {idx ix kd ci k a ln : Nat} {es : List ab_V} {lo hi : Int} {o : Nat} (hd : decode M.2.1 pc = .ok (.getfield idx, 3)) (he : mj_ent M idx = some (ix, kd, ci, k)) (hc : sy_cell a = some (ci, ln, es)) (hk : kd ≤ 1 ∧ ci < 11 ∧ k < ln) (hel : ab_el es k = (0, lo, hi, o)) (hH : sy_H h) (kk : ∀ x, x = sy_rd h a k → lo ≤ x → x ≤ hi → sy_wp (M, pc + 3, lv, sy_i x :: st, h) Q) : sy_wp (M, pc, lv, .ref a :: st, h) Q := by
  obtain ⟨xs, g1, g2, g3, g4, g5⟩ := hH.get hc hk.2.2 hel
  refine sy_st (S' := (M, pc + 3, lv, sy_i (sy_rd h a k) :: st, h)) hd (fun kc k => ?_) (kk _ rfl g4 g5)
  unfold mj_do
  dsimp only
  rw [if_pos rfl]
  unfold mj_gf
  rw [he]
  dsimp only
  rw [if_pos hk.1, g1]
  dsimp only
  rw [if_pos ⟨rfl, hk.2.1⟩, g3]
theorem sy_gr {idx ix kd ci k a ln b : Nat} {es : List ab_V} {t u : Int} {o : Nat} (hd : decode M.2.1 pc = .ok (.getfield idx, 3)) (he : mj_ent M idx = some (ix, kd, ci, k)) (hc : sy_cell a = some (ci, ln, es)) (hk : kd ≤ 1 ∧ ci < 11 ∧ k < ln) (hel : ab_el es k = (2, t, u, o)) (hu : sy_uni t.toNat b = true) (hH : sy_H h) (kk : sy_wp (M, pc + 3, lv, .ref b :: st, h) Q) : sy_wp (M, pc, lv, .ref a :: st, h) Q := by
  obtain ⟨xs, g1, g2, g3⟩ := hH.cell hc
  have hv : xs[k]? = some (xs[k]'(by omega)) := List.getElem?_eq_getElem (by omega)
  have g4 := g3 k _ hv
  rw [hel] at g4
  have g5 := sy_ref hu g4
  rw [g5] at hv
  refine sy_st (S' := (M, pc + 3, lv, .ref b :: st, h)) hd (fun kc k => ?_) kk
  unfold mj_do
  dsimp only
  rw [if_pos rfl]
  unfold mj_gf
  rw [he]
  dsimp only
  rw [if_pos hk.1, g1]
  dsimp only
  rw [if_pos ⟨rfl, hk.2.1⟩, hv]
theorem sy_narrow {ci k : Nat} {z : Int} (ht : mj_ty ci k = .int ∨ (mj_ty ci k = .boolean ∧ 0 ≤ z ∧ z ≤ 1)) : narrow (mj_ty ci k) (sy_i z) = sy_i z ∧ fits (mj_ty ci k) (sy_i z) = true := by
  rcases ht with c8 | ⟨c8, c81, c82⟩
  · rw [c8]; exact ⟨rfl, rfl⟩
  · rw [c8]
    rcases (show z = 0 ∨ z = 1 by omega) with e | e <;> subst e <;> exact ⟨by decide, by decide⟩
theorem sy_pf {idx ix kd ci k a ln : Nat} {es : List ab_V} {lo hi z : Int} {o : Nat} (hd : decode M.2.1 pc = .ok (.putfield idx, 3)) (he : mj_ent M idx = some (ix, kd, ci, k)) (hc : sy_cell a = some (ci, ln, es)) (hk : kd ≤ 1 ∧ ci < 11 ∧ k < ln ∧ mj_fin ci k = false) (ht : mj_ty ci k = .int ∨ (mj_ty ci k = .boolean ∧ 0 ≤ z ∧ z ≤ 1)) (hel : ab_el es k = (0, lo, hi, o)) (hH : sy_H h) (h1 : lo ≤ z) (h2 : z ≤ hi) (hr : -2147483648 ≤ z ∧ z ≤ 2147483647) (kk : ∀ h', h' = sy_wr h a k z → sy_H h' → sy_wp (M, pc + 3, lv, st, h') Q) : sy_wp (M, pc, lv, sy_i z :: .ref a :: st, h) Q := by
  obtain ⟨xs, g1, g2, g3⟩ := hH.cell hc
  refine sy_st (S' := (M, pc + 3, lv, st, sy_wr h a k z)) hd (fun kc k => ?_) (kk _ rfl (hH.wr hc hel h1 h2 hr))
  have hn := sy_narrow ht
  unfold mj_do
  dsimp only
  rw [if_pos rfl]
  unfold mj_pf
  rw [he]
  dsimp only
  rw [if_pos hk.1, g1]
  dsimp only
  rw [if_pos ⟨rfl, hk.2.1, by omega, hn.1, hn.2, Or.inl hk.2.2.2⟩]
  unfold sy_wr
  rw [g1]
theorem sy_idx {z : Int} {n : Nat} (h1 : 0 ≤ z) (h2 : z < n) (hn : n ≤ 2147483647) : ¬ (Int32.ofInt z) < 0 ∧ (Int32.ofInt z).toNatClampNeg = z.toNat := by
  have e := sy_toInt (z := z) ⟨by omega, by omega⟩
  have hj0 : ¬ (Int32.ofInt z) < 0 := fun q => by
    have := Int32.lt_iff_toInt_lt.mp q
    rw [show (0 : Int32).toInt = 0 by decide] at this
    omega
  refine ⟨hj0, ?_⟩
  have hjn := mj_nn _ hj0
  omega
theorem sy_ald {a tg ln : Nat} {es : List ab_V} {lo hi z : Int} {o : Nat} (hc : sy_cell a = some (tg, ln, es)) (hln : ln ≤ 2147483647) (h1 : 0 ≤ z) (h2 : z < ln) (hel : ab_el es z.toNat = (0, lo, hi, o)) (hH : sy_H h) : mj_ald tg none (sy_i z :: .ref a :: st) h = some (sy_i (sy_rd h a z.toNat) :: st) ∧ lo ≤ sy_rd h a z.toNat ∧ sy_rd h a z.toNat ≤ hi := by
  obtain ⟨xs, g1, g2, g3, g4, g5⟩ := hH.get hc (k := z.toNat) (by omega) hel
  obtain ⟨i1, i2⟩ := sy_idx h1 h2 hln
  refine ⟨?_, g4, g5⟩
  unfold mj_ald
  unfold sy_i at g3 ⊢
  dsimp only
  rw [g1]
  dsimp only
  rw [if_pos ⟨rfl, i1⟩, i2, g3]
theorem sy_ia {a ln : Nat} {es : List ab_V} {lo hi z : Int} {o : Nat} (hd : decode M.2.1 pc = .ok (.iaload, 1)) (hc : sy_cell a = some (100, ln, es)) (hln : ln ≤ 2147483647) (h1 : 0 ≤ z) (h2 : z < ln) (hel : ab_el es z.toNat = (0, lo, hi, o)) (hH : sy_H h) (kk : ∀ x, x = sy_rd h a z.toNat → lo ≤ x → x ≤ hi → sy_wp (M, pc + 1, lv, sy_i x :: st, h) Q) : sy_wp (M, pc, lv, sy_i z :: .ref a :: st, h) Q := by
  obtain ⟨e, g1, g2⟩ := sy_ald (st := st) hc hln h1 h2 hel hH
  refine sy_st (S' := (M, pc + 1, lv, sy_i (sy_rd h a z.toNat) :: st, h)) hd (fun kc k => ?_) (kk _ rfl g1 g2)
  unfold mj_do
  dsimp only
  rw [if_pos rfl, e]
theorem sy_ca {a ln : Nat} {es : List ab_V} {lo hi z : Int} {o : Nat} (hd : decode M.2.1 pc = .ok (.caload, 1)) (hc : sy_cell a = some (101, ln, es)) (hln : ln ≤ 2147483647) (h1 : 0 ≤ z) (h2 : z < ln) (hel : ab_el es z.toNat = (0, lo, hi, o)) (hH : sy_H h) (kk : ∀ x, x = sy_rd h a z.toNat → lo ≤ x → x ≤ hi → sy_wp (M, pc + 1, lv, sy_i x :: st, h) Q) : sy_wp (M, pc, lv, sy_i z :: .ref a :: st, h) Q := by
  obtain ⟨e, g1, g2⟩ := sy_ald (st := st) hc hln h1 h2 hel hH
  refine sy_st (S' := (M, pc + 1, lv, sy_i (sy_rd h a z.toNat) :: st, h)) hd (fun kc k => ?_) (kk _ rfl g1 g2)
  unfold mj_do
  dsimp only
  rw [if_pos rfl, e]
theorem sy_ba {a ln : Nat} {es : List ab_V} {lo hi z : Int} {o : Nat} (hd : decode M.2.1 pc = .ok (.baload, 1)) (hc : sy_cell a = some (102, ln, es)) (hln : ln ≤ 2147483647) (h1 : 0 ≤ z) (h2 : z < ln) (hel : ab_el es z.toNat = (0, lo, hi, o)) (hH : sy_H h) (kk : ∀ x, x = sy_rd h a z.toNat → lo ≤ x → x ≤ hi → sy_wp (M, pc + 1, lv, sy_i x :: st, h) Q) : sy_wp (M, pc, lv, sy_i z :: .ref a :: st, h) Q := by
  obtain ⟨e, g1, g2⟩ := sy_ald (st := st) hc hln h1 h2 hel hH
  refine sy_st (S' := (M, pc + 1, lv, sy_i (sy_rd h a z.toNat) :: st, h)) hd (fun kc k => ?_) (kk _ rfl g1 g2)
  unfold mj_do
  dsimp only
  rw [if_pos rfl, e]
theorem sy_nar {z : Int} {tg : Nat} (ht : tg = 100 ∨ (tg = 102 ∧ 0 ≤ z ∧ z ≤ 1) ∨ (tg = 101 ∧ 0 ≤ z ∧ z ≤ 65535)) : narrow (mj_elt tg) (sy_i z) = sy_i z := by
  rcases ht with rfl | ⟨rfl, h1, h2⟩ | ⟨rfl, h1, h2⟩
  · rfl
  · rcases (show z = 0 ∨ z = 1 by omega) with e | e <;> subst e <;> decide
  · show Value.int (((Int32.ofInt z).toUInt32 % 65536).toInt32) = Value.int (Int32.ofInt z)
    congr 1
    apply Int32.toBitVec_inj.mp
    apply BitVec.eq_of_toNat_eq
    have e : (((Int32.ofInt z).toUInt32 % 65536).toInt32).toBitVec.toNat = (Int32.ofInt z).toUInt32.toNat % 65536 := UInt32.toNat_mod (Int32.ofInt z).toUInt32 65536
    rw [e]
    have e2 : (Int32.ofInt z).toUInt32.toNat = (Int32.ofInt z).toBitVec.toNat := rfl
    have e3 := ab_nat (x := Int32.ofInt z) (by rw [sy_toInt ⟨by omega, by omega⟩]; omega)
    rw [sy_toInt ⟨by omega, by omega⟩] at e3
    rw [e2]
    omega
theorem sy_ast {a tg ln : Nat} {es : List ab_V} {lo hi z v : Int} {o : Nat} (hc : sy_cell a = some (tg, ln, es)) (hln : ln ≤ 2147483647) (h1 : 0 ≤ z) (h2 : z < ln) (ht : tg = 100 ∨ (tg = 102 ∧ 0 ≤ v ∧ v ≤ 1) ∨ (tg = 101 ∧ 0 ≤ v ∧ v ≤ 65535)) (hH : sy_H h) : mj_ast tg (sy_i v :: sy_i z :: .ref a :: st) h = some (st, sy_wr h a z.toNat v) := by
  obtain ⟨xs, g1, g2, g3⟩ := hH.cell hc
  obtain ⟨i1, i2⟩ := sy_idx h1 h2 hln
  have hn := sy_nar ht
  unfold mj_ast
  unfold sy_i at hn ⊢
  dsimp only
  rw [g1]
  dsimp only
  rw [i2, if_pos ⟨rfl, i1, by omega⟩, hn]
  unfold sy_wr sy_i
  rw [g1]
theorem sy_ias {a ln : Nat} {es : List ab_V} {lo hi z v : Int} {o : Nat} (hd : decode M.2.1 pc = .ok (.iastore, 1)) (hc : sy_cell a = some (100, ln, es)) (hln : ln ≤ 2147483647) (h1 : 0 ≤ z) (h2 : z < ln) (hel : ab_el es z.toNat = (0, lo, hi, o)) (hH : sy_H h) (v1 : lo ≤ v) (v2 : v ≤ hi) (hr : -2147483648 ≤ v ∧ v ≤ 2147483647) (kk : ∀ h', h' = sy_wr h a z.toNat v → sy_H h' → sy_wp (M, pc + 1, lv, st, h') Q) : sy_wp (M, pc, lv, sy_i v :: sy_i z :: .ref a :: st, h) Q := by
  have e := sy_ast (st := st) (v := v) (lo := lo) (hi := hi) (o := o) hc hln h1 h2 (Or.inl rfl) hH
  refine sy_st (S' := (M, pc + 1, lv, st, sy_wr h a z.toNat v)) hd (fun kc k => ?_) (kk _ rfl (hH.wr hc hel v1 v2 hr))
  unfold mj_do
  dsimp only
  rw [if_pos rfl, e]
theorem sy_bas {a ln : Nat} {es : List ab_V} {lo hi z v : Int} {o : Nat} (hd : decode M.2.1 pc = .ok (.bastore, 1)) (hc : sy_cell a = some (102, ln, es)) (hln : ln ≤ 2147483647) (h1 : 0 ≤ z) (h2 : z < ln) (hel : ab_el es z.toNat = (0, lo, hi, o)) (hH : sy_H h) (v1 : lo ≤ v) (v2 : v ≤ hi) (hr : 0 ≤ v ∧ v ≤ 1) (kk : ∀ h', h' = sy_wr h a z.toNat v → sy_H h' → sy_wp (M, pc + 1, lv, st, h') Q) : sy_wp (M, pc, lv, sy_i v :: sy_i z :: .ref a :: st, h) Q := by
  have e := sy_ast (st := st) (v := v) (lo := lo) (hi := hi) (o := o) hc hln h1 h2 (Or.inr (Or.inl ⟨rfl, hr⟩)) hH
  refine sy_st (S' := (M, pc + 1, lv, st, sy_wr h a z.toNat v)) hd (fun kc k => ?_) (kk _ rfl (hH.wr hc hel v1 v2 ⟨by omega, by omega⟩))
  unfold mj_do
  dsimp only
  rw [if_pos rfl, e]
theorem sy_cas {a ln : Nat} {es : List ab_V} {lo hi z v : Int} {o : Nat} (hd : decode M.2.1 pc = .ok (.castore, 1)) (hc : sy_cell a = some (101, ln, es)) (hln : ln ≤ 2147483647) (h1 : 0 ≤ z) (h2 : z < ln) (hel : ab_el es z.toNat = (0, lo, hi, o)) (hH : sy_H h) (v1 : lo ≤ v) (v2 : v ≤ hi) (hr : 0 ≤ v ∧ v ≤ 65535) (kk : ∀ h', h' = sy_wr h a z.toNat v → sy_H h' → sy_wp (M, pc + 1, lv, st, h') Q) : sy_wp (M, pc, lv, sy_i v :: sy_i z :: .ref a :: st, h) Q := by
  have e := sy_ast (st := st) (v := v) (lo := lo) (hi := hi) (o := o) hc hln h1 h2 (Or.inr (Or.inr ⟨rfl, hr⟩)) hH
  refine sy_st (S' := (M, pc + 1, lv, st, sy_wr h a z.toNat v)) hd (fun kc k => ?_) (kk _ rfl (hH.wr hc hel v1 v2 ⟨by omega, by omega⟩))
  unfold mj_do
  dsimp only
  rw [if_pos rfl, e]
/-- calls: what is called ends with Q', what is behind it goes on from there -/
theorem sy_cs {idx ix j z : Nat} (hd : decode M.2.1 pc = .ok (.invokestatic idx, 3)) (he : mj_ent M idx = some (ix, 2, j, z)) (hj : mj_meths[j]? = some M') (hk : M'.2.2.2.2.2.2.1 = 0) (hv : ((st.take M'.2.2.2.2.2.1).reverse, st.drop M'.2.2.2.2.2.1) = (vs, rest)) (hf : mj_fit M M' st M'.2.2.2.2.2.1) (k1 : sy_wp (M', 0, lv_args 0 vs, [], h) Q') (k2 : ∀ r h', Q' r h' → sy_wp (M, pc + 3, lv, r.toList ++ rest, h') Q) : sy_wp (M, pc, lv, st, h) Q := by
  obtain ⟨r1, h1, e1, q1⟩ := k1
  obtain ⟨r, h', e, q⟩ := k2 r1 h1 q1
  exact ⟨r, h', mj_runs.call (mj_calls_s hd he hj hk hv hf) e1 e, q⟩
theorem sy_cv {idx ix j z a tg ln : Nat} {es : List ab_V} (hd : decode M.2.1 pc = .ok (.invokevirtual idx, 3)) (he : mj_ent M idx = some (ix, 2, j, z)) (hj : mj_meths[j]? = some M') (hs : st[M'.2.2.2.2.2.1]? = some (.ref a)) (hc : sy_cell a = some (tg, ln, es)) (hH : sy_H h) (hk : (M'.2.2.2.2.2.2.1, M'.2.2.2.2.1) = (1, tg)) (hv : ((st.take (M'.2.2.2.2.2.1 + 1)).reverse, st.drop (M'.2.2.2.2.2.1 + 1)) = (vs, rest)) (hf : tg < 11 ∧ mj_fit M M' st (M'.2.2.2.2.2.1 + 1)) (k1 : sy_wp (M', 0, lv_args 0 vs, [], h) Q') (k2 : ∀ r h', Q' r h' → sy_wp (M, pc + 3, lv, r.toList ++ rest, h') Q) : sy_wp (M, pc, lv, st, h) Q := by
  obtain ⟨xs, g1, g2, g3⟩ := hH.cell hc
  obtain ⟨r1, h1, e1, q1⟩ := k1
  obtain ⟨r, h', e, q⟩ := k2 r1 h1 q1
  exact ⟨r, h', mj_runs.call (mj_calls_v hd he hj hs g1 hk hv hf) e1 e, q⟩
/-- a checked method -/
theorem sy_sum {s : ab_M} (hs : ab_sum ab_ty ab_TT s) (hj : mj_meths[s.1]? = some M') (ha : ab_args ab_ty s.2.1 vs) (hH : sy_H h) : sy_wp (M', 0, lv_args 0 vs, [], h) (fun r h' => sy_H h' ∧ ∃ out ∈ s.2.2, ab_ret ab_ty out.1 r ∧ ab_args ab_ty out.2 vs) := by
  obtain ⟨r, h', e1, e2, e3⟩ := hs M' vs h hj ha hH
  exact ⟨r, h', e1, e2, e3⟩
end SY2
end
section
/-! Arguments and answers of summaries -/
theorem sy_args1 {V : ab_V} {As : List ab_V} {vs : List Value} (h : ab_args ab_ty (V :: As) vs) : ∃ v vs', vs = v :: vs' ∧ ab_m ab_ty V v ∧ ab_args ab_ty As vs' := by
  cases vs with
  | nil => exact absurd h (by simp [ab_args])
  | cons v vs => exact ⟨v, vs, rfl, h.1, h.2⟩
theorem sy_args0 {vs : List Value} (h : ab_args ab_ty [] vs) : vs = [] := by
  cases vs with
  | nil => rfl
  | cons v vs => exact absurd h (by simp [ab_args])
theorem sy_retI {lo hi : Int} {o : Nat} {r : Option Value} (h : ab_ret ab_ty (some (0, lo, hi, o)) r) : ∃ z, r = some (sy_i z) ∧ lo ≤ z ∧ z ≤ hi ∧ -2147483648 ≤ z ∧ z ≤ 2147483647 := by
  cases r with
  | none => exact absurd h (by simp [ab_ret])
  | some v =>
    obtain ⟨z, e, q⟩ := sy_int (show ab_m ab_ty (0, lo, hi, o) v from h)
    exact ⟨z, by rw [e], q⟩
theorem sy_retN {r : Option Value} (h : ab_ret ab_ty none r) : r = none := by
  cases r with
  | none => rfl
  | some v => exact absurd h (by simp [ab_ret])
theorem sy_out1 {R : Option ab_V} {O : List ab_V} {out : ab_O} (h : out ∈ [(R, O)]) : out = (R, O) := List.mem_singleton.mp h
theorem sy_out2 {o1 o2 : ab_O} {out : ab_O} (h : out ∈ [o1, o2]) : out = o1 ∨ out = o2 := by simpa using h
theorem sy_out3 {o1 o2 o3 : ab_O} {out : ab_O} (h : out ∈ [o1, o2, o3]) : out = o1 ∨ out = o2 ∨ out = o3 := by simpa using h
theorem sy_narc {z : Int} (h1 : 0 ≤ z) (h2 : z ≤ 65535) : narrow .char (sy_i z) = sy_i z := sy_nar (tg := 101) (Or.inr (Or.inr ⟨rfl, h1, h2⟩))
theorem sy_retc {M : mj_M} {pc : Nat} {lv : mj_L} {h : mj_H} {Q : Option Value → mj_H → Prop} {z : Int} (hd : decode M.2.1 pc = .ok (.ireturn, 1)) (hr : M.2.2.2.1 = some .char) (hz : 0 ≤ z ∧ z ≤ 65535) (q : Q (some (sy_i z)) h) : sy_wp (M, pc, lv, [sy_i z], h) Q :=
  sy_ret hd hr (sy_narc hz.1 hz.2) q
theorem sy_i2l {M : mj_M} {pc : Nat} {lv : mj_L} {st : List Value} {h : mj_H} {Q : Option Value → mj_H → Prop} {a : Int} (hd : decode M.2.1 pc = .ok (.i2l, 1)) (ra : -2147483648 ≤ a ∧ a ≤ 2147483647) (kk : sy_wp (M, pc + 1, lv, sy_l a :: st, h) Q) : sy_wp (M, pc, lv, sy_i a :: st, h) Q := by
  refine sy_st (S' := (M, pc + 1, lv, sy_l a :: st, h)) hd (fun kc k => ?_) kk
  have e : (Int32.ofInt a).toInt64 = Int64.ofInt a := by
    apply Int64.toInt_inj.mp
    rw [Int32.toInt_toInt64, sy_toInt ra, Int64.toInt_ofInt, ab_lbmod (by omega) (by omega)]
  simp only [mj_do, mj_br, mj_loc, mj_alu, sy_i, sy_l, if_true, e]
end
section
def mj_m_11 : mj_M := (⟨"SootMaps$Text", "add", "(C)I"⟩, prog_11_method_2_code, 2, (some .int), 8, 1, 1, 0, 0)
def mj_m_16 : mj_M := (⟨"SootMaps$Text", "letter", "()C"⟩, prog_11_method_4_code, 1, (some .char), 8, 0, 1, 0, 0)
def mj_m_27 : mj_M := (⟨"SootMaps$Plan", "tellHouse", "(II)V"⟩, prog_6_method_5_code, 3, none, 4, 2, 1, 0, 0)
def mj_m_28 : mj_M := (⟨"SootMaps$Plan", "tellSweep", "(II)V"⟩, prog_6_method_6_code, 3, none, 4, 2, 1, 0, 0)
def mj_m_107 : mj_M := (⟨"SootMaps$Sights", "add", "(IIZ)I"⟩, prog_8_method_2_code, 4, (some .int), 6, 3, 1, 0, 0)
def mj_m_114 : mj_M := (⟨"SootMaps$Book", "add", "(II)I"⟩, prog_3_method_2_code, 3, (some .int), 1, 2, 1, 0, 0)
theorem mj_d_11_0 : decode mj_m_11.2.1 0 = .ok (.aload_n 0, 1) := by decide +kernel
theorem mj_d_11_1 : decode mj_m_11.2.1 1 = .ok (.getfield 26, 3) := by decide +kernel
theorem mj_d_11_4 : decode mj_m_11.2.1 4 = .ok (.ifCond .lt 13, 3) := by decide +kernel
theorem mj_d_11_7 : decode mj_m_11.2.1 7 = .ok (.aload_n 0, 1) := by decide +kernel
theorem mj_d_11_8 : decode mj_m_11.2.1 8 = .ok (.getfield 26, 3) := by decide +kernel
theorem mj_d_11_11 : decode mj_m_11.2.1 11 = .ok (.sipush 240, 3) := by decide +kernel
theorem mj_d_11_14 : decode mj_m_11.2.1 14 = .ok (.if_icmp .lt 6, 3) := by decide +kernel
theorem mj_d_11_17 : decode mj_m_11.2.1 17 = .ok (.ldc 29, 2) := by decide +kernel
theorem mj_d_11_19 : decode mj_m_11.2.1 19 = .ok (.ireturn, 1) := by decide +kernel
theorem mj_d_11_20 : decode mj_m_11.2.1 20 = .ok (.aload_n 0, 1) := by decide +kernel
theorem mj_d_11_21 : decode mj_m_11.2.1 21 = .ok (.getfield 9, 3) := by decide +kernel
theorem mj_d_11_24 : decode mj_m_11.2.1 24 = .ok (.aload_n 0, 1) := by decide +kernel
theorem mj_d_11_25 : decode mj_m_11.2.1 25 = .ok (.getfield 26, 3) := by decide +kernel
theorem mj_d_11_28 : decode mj_m_11.2.1 28 = .ok (.iload_n 1, 1) := by decide +kernel
theorem mj_d_11_29 : decode mj_m_11.2.1 29 = .ok (.castore, 1) := by decide +kernel
theorem mj_d_11_30 : decode mj_m_11.2.1 30 = .ok (.aload_n 0, 1) := by decide +kernel
theorem mj_d_11_31 : decode mj_m_11.2.1 31 = .ok (.dup, 1) := by decide +kernel
theorem mj_d_11_32 : decode mj_m_11.2.1 32 = .ok (.getfield 26, 3) := by decide +kernel
theorem mj_d_11_35 : decode mj_m_11.2.1 35 = .ok (.iconst 1, 1) := by decide +kernel
theorem mj_d_11_36 : decode mj_m_11.2.1 36 = .ok (.iadd, 1) := by decide +kernel
theorem mj_d_11_37 : decode mj_m_11.2.1 37 = .ok (.putfield 26, 3) := by decide +kernel
theorem mj_d_11_40 : decode mj_m_11.2.1 40 = .ok (.aload_n 0, 1) := by decide +kernel
theorem mj_d_11_41 : decode mj_m_11.2.1 41 = .ok (.getfield 26, 3) := by decide +kernel
theorem mj_d_11_44 : decode mj_m_11.2.1 44 = .ok (.ireturn, 1) := by decide +kernel
theorem mj_d_16_0 : decode mj_m_16.2.1 0 = .ok (.aload_n 0, 1) := by decide +kernel
theorem mj_d_16_1 : decode mj_m_16.2.1 1 = .ok (.getfield 30, 3) := by decide +kernel
theorem mj_d_16_4 : decode mj_m_16.2.1 4 = .ok (.ifCond .lt 36, 3) := by decide +kernel
theorem mj_d_16_7 : decode mj_m_16.2.1 7 = .ok (.aload_n 0, 1) := by decide +kernel
theorem mj_d_16_8 : decode mj_m_16.2.1 8 = .ok (.getfield 30, 3) := by decide +kernel
theorem mj_d_16_11 : decode mj_m_16.2.1 11 = .ok (.aload_n 0, 1) := by decide +kernel
theorem mj_d_16_12 : decode mj_m_16.2.1 12 = .ok (.getfield 26, 3) := by decide +kernel
theorem mj_d_16_15 : decode mj_m_16.2.1 15 = .ok (.if_icmp .ge 25, 3) := by decide +kernel
theorem mj_d_16_18 : decode mj_m_16.2.1 18 = .ok (.aload_n 0, 1) := by decide +kernel
theorem mj_d_16_19 : decode mj_m_16.2.1 19 = .ok (.getfield 30, 3) := by decide +kernel
theorem mj_d_16_22 : decode mj_m_16.2.1 22 = .ok (.sipush 240, 3) := by decide +kernel
theorem mj_d_16_25 : decode mj_m_16.2.1 25 = .ok (.if_icmp .ge 15, 3) := by decide +kernel
theorem mj_d_16_28 : decode mj_m_16.2.1 28 = .ok (.aload_n 0, 1) := by decide +kernel
theorem mj_d_16_29 : decode mj_m_16.2.1 29 = .ok (.getfield 9, 3) := by decide +kernel
theorem mj_d_16_32 : decode mj_m_16.2.1 32 = .ok (.aload_n 0, 1) := by decide +kernel
theorem mj_d_16_33 : decode mj_m_16.2.1 33 = .ok (.getfield 30, 3) := by decide +kernel
theorem mj_d_16_36 : decode mj_m_16.2.1 36 = .ok (.caload, 1) := by decide +kernel
theorem mj_d_16_37 : decode mj_m_16.2.1 37 = .ok (.goto 4, 3) := by decide +kernel
theorem mj_d_16_40 : decode mj_m_16.2.1 40 = .ok (.iconst 0, 1) := by decide +kernel
theorem mj_d_16_41 : decode mj_m_16.2.1 41 = .ok (.ireturn, 1) := by decide +kernel
theorem mj_d_27_0 : decode mj_m_27.2.1 0 = .ok (.aload_n 0, 1) := by decide +kernel
theorem mj_d_27_1 : decode mj_m_27.2.1 1 = .ok (.getfield 35, 3) := by decide +kernel
theorem mj_d_27_4 : decode mj_m_27.2.1 4 = .ok (.bipush 9, 2) := by decide +kernel
theorem mj_d_27_6 : decode mj_m_27.2.1 6 = .ok (.if_icmp .ge 43, 3) := by decide +kernel
theorem mj_d_27_9 : decode mj_m_27.2.1 9 = .ok (.aload_n 0, 1) := by decide +kernel
theorem mj_d_27_10 : decode mj_m_27.2.1 10 = .ok (.getfield 9, 3) := by decide +kernel
theorem mj_d_27_13 : decode mj_m_27.2.1 13 = .ok (.aload_n 0, 1) := by decide +kernel
theorem mj_d_27_14 : decode mj_m_27.2.1 14 = .ok (.getfield 35, 3) := by decide +kernel
theorem mj_d_27_17 : decode mj_m_27.2.1 17 = .ok (.iload_n 1, 1) := by decide +kernel
theorem mj_d_27_18 : decode mj_m_27.2.1 18 = .ok (.bipush 9, 2) := by decide +kernel
theorem mj_d_27_20 : decode mj_m_27.2.1 20 = .ok (.if_icmp .ne 7, 3) := by decide +kernel
theorem mj_d_27_23 : decode mj_m_27.2.1 23 = .ok (.iconst (-1), 1) := by decide +kernel
theorem mj_d_27_24 : decode mj_m_27.2.1 24 = .ok (.goto 4, 3) := by decide +kernel
theorem mj_d_27_27 : decode mj_m_27.2.1 27 = .ok (.iload_n 1, 1) := by decide +kernel
theorem mj_d_27_28 : decode mj_m_27.2.1 28 = .ok (.iastore, 1) := by decide +kernel
theorem mj_d_27_29 : decode mj_m_27.2.1 29 = .ok (.aload_n 0, 1) := by decide +kernel
theorem mj_d_27_30 : decode mj_m_27.2.1 30 = .ok (.getfield 15, 3) := by decide +kernel
theorem mj_d_27_33 : decode mj_m_27.2.1 33 = .ok (.aload_n 0, 1) := by decide +kernel
theorem mj_d_27_34 : decode mj_m_27.2.1 34 = .ok (.getfield 35, 3) := by decide +kernel
theorem mj_d_27_37 : decode mj_m_27.2.1 37 = .ok (.iload_n 2, 1) := by decide +kernel
theorem mj_d_27_38 : decode mj_m_27.2.1 38 = .ok (.iastore, 1) := by decide +kernel
theorem mj_d_27_39 : decode mj_m_27.2.1 39 = .ok (.aload_n 0, 1) := by decide +kernel
theorem mj_d_27_40 : decode mj_m_27.2.1 40 = .ok (.dup, 1) := by decide +kernel
theorem mj_d_27_41 : decode mj_m_27.2.1 41 = .ok (.getfield 35, 3) := by decide +kernel
theorem mj_d_27_44 : decode mj_m_27.2.1 44 = .ok (.iconst 1, 1) := by decide +kernel
theorem mj_d_27_45 : decode mj_m_27.2.1 45 = .ok (.iadd, 1) := by decide +kernel
theorem mj_d_27_46 : decode mj_m_27.2.1 46 = .ok (.putfield 35, 3) := by decide +kernel
theorem mj_d_27_49 : decode mj_m_27.2.1 49 = .ok (.return_, 1) := by decide +kernel
theorem mj_d_28_0 : decode mj_m_28.2.1 0 = .ok (.aload_n 0, 1) := by decide +kernel
theorem mj_d_28_1 : decode mj_m_28.2.1 1 = .ok (.getfield 38, 3) := by decide +kernel
theorem mj_d_28_4 : decode mj_m_28.2.1 4 = .ok (.iconst 5, 1) := by decide +kernel
theorem mj_d_28_5 : decode mj_m_28.2.1 5 = .ok (.if_icmp .ge 33, 3) := by decide +kernel
theorem mj_d_28_8 : decode mj_m_28.2.1 8 = .ok (.aload_n 0, 1) := by decide +kernel
theorem mj_d_28_9 : decode mj_m_28.2.1 9 = .ok (.getfield 18, 3) := by decide +kernel
theorem mj_d_28_12 : decode mj_m_28.2.1 12 = .ok (.aload_n 0, 1) := by decide +kernel
theorem mj_d_28_13 : decode mj_m_28.2.1 13 = .ok (.getfield 38, 3) := by decide +kernel
theorem mj_d_28_16 : decode mj_m_28.2.1 16 = .ok (.iload_n 1, 1) := by decide +kernel
theorem mj_d_28_17 : decode mj_m_28.2.1 17 = .ok (.iastore, 1) := by decide +kernel
theorem mj_d_28_18 : decode mj_m_28.2.1 18 = .ok (.aload_n 0, 1) := by decide +kernel
theorem mj_d_28_19 : decode mj_m_28.2.1 19 = .ok (.getfield 21, 3) := by decide +kernel
theorem mj_d_28_22 : decode mj_m_28.2.1 22 = .ok (.aload_n 0, 1) := by decide +kernel
theorem mj_d_28_23 : decode mj_m_28.2.1 23 = .ok (.getfield 38, 3) := by decide +kernel
theorem mj_d_28_26 : decode mj_m_28.2.1 26 = .ok (.iload_n 2, 1) := by decide +kernel
theorem mj_d_28_27 : decode mj_m_28.2.1 27 = .ok (.iastore, 1) := by decide +kernel
theorem mj_d_28_28 : decode mj_m_28.2.1 28 = .ok (.aload_n 0, 1) := by decide +kernel
theorem mj_d_28_29 : decode mj_m_28.2.1 29 = .ok (.dup, 1) := by decide +kernel
theorem mj_d_28_30 : decode mj_m_28.2.1 30 = .ok (.getfield 38, 3) := by decide +kernel
theorem mj_d_28_33 : decode mj_m_28.2.1 33 = .ok (.iconst 1, 1) := by decide +kernel
theorem mj_d_28_34 : decode mj_m_28.2.1 34 = .ok (.iadd, 1) := by decide +kernel
theorem mj_d_28_35 : decode mj_m_28.2.1 35 = .ok (.putfield 38, 3) := by decide +kernel
theorem mj_d_28_38 : decode mj_m_28.2.1 38 = .ok (.return_, 1) := by decide +kernel
theorem mj_d_107_0 : decode mj_m_107.2.1 0 = .ok (.aload_n 0, 1) := by decide +kernel
theorem mj_d_107_1 : decode mj_m_107.2.1 1 = .ok (.getfield 22, 3) := by decide +kernel
theorem mj_d_107_4 : decode mj_m_107.2.1 4 = .ok (.ifCond .lt 12, 3) := by decide +kernel
theorem mj_d_107_7 : decode mj_m_107.2.1 7 = .ok (.aload_n 0, 1) := by decide +kernel
theorem mj_d_107_8 : decode mj_m_107.2.1 8 = .ok (.getfield 22, 3) := by decide +kernel
theorem mj_d_107_11 : decode mj_m_107.2.1 11 = .ok (.bipush 6, 2) := by decide +kernel
theorem mj_d_107_13 : decode mj_m_107.2.1 13 = .ok (.if_icmp .lt 6, 3) := by decide +kernel
theorem mj_d_107_16 : decode mj_m_107.2.1 16 = .ok (.ldc 26, 2) := by decide +kernel
theorem mj_d_107_18 : decode mj_m_107.2.1 18 = .ok (.ireturn, 1) := by decide +kernel
theorem mj_d_107_19 : decode mj_m_107.2.1 19 = .ok (.aload_n 0, 1) := by decide +kernel
theorem mj_d_107_20 : decode mj_m_107.2.1 20 = .ok (.getfield 9, 3) := by decide +kernel
theorem mj_d_107_23 : decode mj_m_107.2.1 23 = .ok (.aload_n 0, 1) := by decide +kernel
theorem mj_d_107_24 : decode mj_m_107.2.1 24 = .ok (.getfield 22, 3) := by decide +kernel
theorem mj_d_107_27 : decode mj_m_107.2.1 27 = .ok (.iload_n 1, 1) := by decide +kernel
theorem mj_d_107_28 : decode mj_m_107.2.1 28 = .ok (.iastore, 1) := by decide +kernel
theorem mj_d_107_29 : decode mj_m_107.2.1 29 = .ok (.aload_n 0, 1) := by decide +kernel
theorem mj_d_107_30 : decode mj_m_107.2.1 30 = .ok (.getfield 15, 3) := by decide +kernel
theorem mj_d_107_33 : decode mj_m_107.2.1 33 = .ok (.aload_n 0, 1) := by decide +kernel
theorem mj_d_107_34 : decode mj_m_107.2.1 34 = .ok (.getfield 22, 3) := by decide +kernel
theorem mj_d_107_37 : decode mj_m_107.2.1 37 = .ok (.iload_n 2, 1) := by decide +kernel
theorem mj_d_107_38 : decode mj_m_107.2.1 38 = .ok (.iastore, 1) := by decide +kernel
theorem mj_d_107_39 : decode mj_m_107.2.1 39 = .ok (.aload_n 0, 1) := by decide +kernel
theorem mj_d_107_40 : decode mj_m_107.2.1 40 = .ok (.getfield 18, 3) := by decide +kernel
theorem mj_d_107_43 : decode mj_m_107.2.1 43 = .ok (.aload_n 0, 1) := by decide +kernel
theorem mj_d_107_44 : decode mj_m_107.2.1 44 = .ok (.getfield 22, 3) := by decide +kernel
theorem mj_d_107_47 : decode mj_m_107.2.1 47 = .ok (.iload_n 3, 1) := by decide +kernel
theorem mj_d_107_48 : decode mj_m_107.2.1 48 = .ok (.bastore, 1) := by decide +kernel
theorem mj_d_107_49 : decode mj_m_107.2.1 49 = .ok (.aload_n 0, 1) := by decide +kernel
theorem mj_d_107_50 : decode mj_m_107.2.1 50 = .ok (.dup, 1) := by decide +kernel
theorem mj_d_107_51 : decode mj_m_107.2.1 51 = .ok (.getfield 22, 3) := by decide +kernel
theorem mj_d_107_54 : decode mj_m_107.2.1 54 = .ok (.iconst 1, 1) := by decide +kernel
theorem mj_d_107_55 : decode mj_m_107.2.1 55 = .ok (.iadd, 1) := by decide +kernel
theorem mj_d_107_56 : decode mj_m_107.2.1 56 = .ok (.putfield 22, 3) := by decide +kernel
theorem mj_d_107_59 : decode mj_m_107.2.1 59 = .ok (.aload_n 0, 1) := by decide +kernel
theorem mj_d_107_60 : decode mj_m_107.2.1 60 = .ok (.getfield 22, 3) := by decide +kernel
theorem mj_d_107_63 : decode mj_m_107.2.1 63 = .ok (.ireturn, 1) := by decide +kernel
theorem mj_d_114_0 : decode mj_m_114.2.1 0 = .ok (.aload_n 0, 1) := by decide +kernel
theorem mj_d_114_1 : decode mj_m_114.2.1 1 = .ok (.getfield 18, 3) := by decide +kernel
theorem mj_d_114_4 : decode mj_m_114.2.1 4 = .ok (.ifCond .lt 12, 3) := by decide +kernel
theorem mj_d_114_7 : decode mj_m_114.2.1 7 = .ok (.aload_n 0, 1) := by decide +kernel
theorem mj_d_114_8 : decode mj_m_114.2.1 8 = .ok (.getfield 18, 3) := by decide +kernel
theorem mj_d_114_11 : decode mj_m_114.2.1 11 = .ok (.bipush 20, 2) := by decide +kernel
theorem mj_d_114_13 : decode mj_m_114.2.1 13 = .ok (.if_icmp .lt 6, 3) := by decide +kernel
theorem mj_d_114_16 : decode mj_m_114.2.1 16 = .ok (.ldc 22, 2) := by decide +kernel
theorem mj_d_114_18 : decode mj_m_114.2.1 18 = .ok (.ireturn, 1) := by decide +kernel
theorem mj_d_114_19 : decode mj_m_114.2.1 19 = .ok (.aload_n 0, 1) := by decide +kernel
theorem mj_d_114_20 : decode mj_m_114.2.1 20 = .ok (.getfield 9, 3) := by decide +kernel
theorem mj_d_114_23 : decode mj_m_114.2.1 23 = .ok (.aload_n 0, 1) := by decide +kernel
theorem mj_d_114_24 : decode mj_m_114.2.1 24 = .ok (.getfield 18, 3) := by decide +kernel
theorem mj_d_114_27 : decode mj_m_114.2.1 27 = .ok (.iload_n 1, 1) := by decide +kernel
theorem mj_d_114_28 : decode mj_m_114.2.1 28 = .ok (.iastore, 1) := by decide +kernel
theorem mj_d_114_29 : decode mj_m_114.2.1 29 = .ok (.aload_n 0, 1) := by decide +kernel
theorem mj_d_114_30 : decode mj_m_114.2.1 30 = .ok (.getfield 15, 3) := by decide +kernel
theorem mj_d_114_33 : decode mj_m_114.2.1 33 = .ok (.aload_n 0, 1) := by decide +kernel
theorem mj_d_114_34 : decode mj_m_114.2.1 34 = .ok (.getfield 18, 3) := by decide +kernel
theorem mj_d_114_37 : decode mj_m_114.2.1 37 = .ok (.iload_n 2, 1) := by decide +kernel
theorem mj_d_114_38 : decode mj_m_114.2.1 38 = .ok (.iastore, 1) := by decide +kernel
theorem mj_d_114_39 : decode mj_m_114.2.1 39 = .ok (.aload_n 0, 1) := by decide +kernel
theorem mj_d_114_40 : decode mj_m_114.2.1 40 = .ok (.dup, 1) := by decide +kernel
theorem mj_d_114_41 : decode mj_m_114.2.1 41 = .ok (.getfield 18, 3) := by decide +kernel
theorem mj_d_114_44 : decode mj_m_114.2.1 44 = .ok (.iconst 1, 1) := by decide +kernel
theorem mj_d_114_45 : decode mj_m_114.2.1 45 = .ok (.iadd, 1) := by decide +kernel
theorem mj_d_114_46 : decode mj_m_114.2.1 46 = .ok (.putfield 18, 3) := by decide +kernel
theorem mj_d_114_49 : decode mj_m_114.2.1 49 = .ok (.aload_n 0, 1) := by decide +kernel
theorem mj_d_114_50 : decode mj_m_114.2.1 50 = .ok (.getfield 18, 3) := by decide +kernel
theorem mj_d_114_53 : decode mj_m_114.2.1 53 = .ok (.ireturn, 1) := by decide +kernel
def ab_s_107_m_d : ab_M := (107, [(2, 217, 0, 0), (0, 0, 8, 0), (0, 0, 7, 0), (0, 0, 1, 0)], [(some (0, -1000000004, 6, 0), [(2, 217, 0, 0), (0, 0, 8, 0), (0, 0, 7, 0), (0, 0, 1, 0)])])
set_option maxRecDepth 100000 in
theorem ab_s_107_m : ab_sum ab_ty ab_TT ab_s_107_m_d := by
  intro M vs h hM ha0 hH
  obtain rfl := Option.some.inj (hM : some mj_m_107 = some M)
  clear hM
  obtain ⟨v0, vs1, rfl, m0, ha1⟩ := sy_args1 ha0
  obtain rfl := sy_ref (a := 217) (by decide +kernel) m0
  obtain ⟨v1, vs2, rfl, m1, ha2⟩ := sy_args1 ha1
  obtain ⟨z1, rfl, az1, bz1, cz1, dz1⟩ := sy_int m1
  obtain ⟨v2, vs3, rfl, m2, ha3⟩ := sy_args1 ha2
  obtain ⟨z2, rfl, az2, bz2, cz2, dz2⟩ := sy_int m2
  obtain ⟨v3, vs4, rfl, m3, ha4⟩ := sy_args1 ha3
  obtain ⟨z3, rfl, az3, bz3, cz3, dz3⟩ := sy_int m3
  obtain rfl := sy_args0 ha4
  show sy_wp (mj_m_107, 0, [(0, .ref 217), (1, sy_i z1), (2, sy_i z2), (3, sy_i z3)], [], h) (fun r h' => sy_H h' ∧ ∃ out ∈ ab_s_107_m_d.2.2, ab_ret ab_ty out.1 r ∧ ab_args ab_ty out.2 _)
  refine sy_st (S' := (mj_m_107, 1, [(0, .ref 217), (1, sy_i z1), (2, sy_i z2), (3, sy_i z3)], [.ref 217], h)) mj_d_107_0 (fun _ _ => rfl) ?_
  refine sy_gf mj_d_107_1 rfl rfl (by decide) rfl hH ?_
  intro x1 ex1 bx1 tx1
  refine sy_ifc mj_d_107_4 rfl ⟨by omega, by omega⟩ (fun (c2 : x1 < 0) => ?_) (fun (c2 : ¬ (x1 < 0)) => ?_)
  · skip
    refine sy_ldc (n := -1000000004) mj_d_107_16 rfl (by decide) ?_
    refine sy_reti mj_d_107_18 rfl ?_
    exact ⟨hH, _, List.mem_cons_self, sy_m (by omega) (by omega) ⟨by omega, by omega⟩, ha0⟩
  · skip
    refine sy_st (S' := (mj_m_107, 8, [(0, .ref 217), (1, sy_i z1), (2, sy_i z2), (3, sy_i z3)], [.ref 217], h)) mj_d_107_7 (fun _ _ => rfl) ?_
    refine sy_gf mj_d_107_8 rfl rfl (by decide) rfl hH ?_
    intro x3 ex3 bx3 tx3
    have qx3 : x3 = x1 := by rw [ex3, ex1]
    refine sy_bip mj_d_107_11 (by decide) ?_
    refine sy_icm mj_d_107_13 rfl ⟨by omega, by omega⟩ ⟨by omega, by omega⟩ (fun (c4 : x3 < 6) => ?_) (fun (c4 : ¬ (x3 < 6)) => ?_)
    · skip
      refine sy_st (S' := (mj_m_107, 20, [(0, .ref 217), (1, sy_i z1), (2, sy_i z2), (3, sy_i z3)], [.ref 217], h)) mj_d_107_19 (fun _ _ => rfl) ?_
      refine sy_gr (b := 218) mj_d_107_20 rfl rfl (by decide) rfl (by decide +kernel) hH ?_
      refine sy_st (S' := (mj_m_107, 24, [(0, .ref 217), (1, sy_i z1), (2, sy_i z2), (3, sy_i z3)], [.ref 217, .ref 218], h)) mj_d_107_23 (fun _ _ => rfl) ?_
      refine sy_gf mj_d_107_24 rfl rfl (by decide) rfl hH ?_
      intro x5 ex5 bx5 tx5
      have qx5 : x5 = x3 := by rw [ex5, ex3]
      refine sy_st (S' := (mj_m_107, 28, [(0, .ref 217), (1, sy_i z1), (2, sy_i z2), (3, sy_i z3)], [sy_i z1, sy_i x5, .ref 218], h)) mj_d_107_27 (fun _ _ => rfl) ?_
      refine sy_ias (v := z1) mj_d_107_28 rfl (by decide) (by omega) (by omega) (ab_el_1 rfl _) hH (by omega) (by omega) ⟨by omega, by omega⟩ ?_
      intro h6 eh6 th6
      refine sy_st (S' := (mj_m_107, 30, [(0, .ref 217), (1, sy_i z1), (2, sy_i z2), (3, sy_i z3)], [.ref 217], h6)) mj_d_107_29 (fun _ _ => rfl) ?_
      refine sy_gr (b := 219) mj_d_107_30 rfl rfl (by decide) rfl (by decide +kernel) th6 ?_
      refine sy_st (S' := (mj_m_107, 34, [(0, .ref 217), (1, sy_i z1), (2, sy_i z2), (3, sy_i z3)], [.ref 217, .ref 219], h6)) mj_d_107_33 (fun _ _ => rfl) ?_
      refine sy_gf mj_d_107_34 rfl rfl (by decide) rfl th6 ?_
      intro x7 ex7 bx7 tx7
      have qx7 : x7 = x5 := by rw [ex7, eh6, sy_rd_ne (Or.inl (by decide)), ex5]
      refine sy_st (S' := (mj_m_107, 38, [(0, .ref 217), (1, sy_i z1), (2, sy_i z2), (3, sy_i z3)], [sy_i z2, sy_i x7, .ref 219], h6)) mj_d_107_37 (fun _ _ => rfl) ?_
      refine sy_ias (v := z2) mj_d_107_38 rfl (by decide) (by omega) (by omega) (ab_el_1 rfl _) th6 (by omega) (by omega) ⟨by omega, by omega⟩ ?_
      intro h8 eh8 th8
      refine sy_st (S' := (mj_m_107, 40, [(0, .ref 217), (1, sy_i z1), (2, sy_i z2), (3, sy_i z3)], [.ref 217], h8)) mj_d_107_39 (fun _ _ => rfl) ?_
      refine sy_gr (b := 220) mj_d_107_40 rfl rfl (by decide) rfl (by decide +kernel) th8 ?_
      refine sy_st (S' := (mj_m_107, 44, [(0, .ref 217), (1, sy_i z1), (2, sy_i z2), (3, sy_i z3)], [.ref 217, .ref 220], h8)) mj_d_107_43 (fun _ _ => rfl) ?_
      refine sy_gf mj_d_107_44 rfl rfl (by decide) rfl th8 ?_
      intro x9 ex9 bx9 tx9
      have qx9 : x9 = x5 := by rw [ex9, eh8, sy_rd_ne (Or.inl (by decide)), eh6, sy_rd_ne (Or.inl (by decide)), ex5]
      refine sy_st (S' := (mj_m_107, 48, [(0, .ref 217), (1, sy_i z1), (2, sy_i z2), (3, sy_i z3)], [sy_i z3, sy_i x9, .ref 220], h8)) mj_d_107_47 (fun _ _ => rfl) ?_
      refine sy_bas (v := z3) mj_d_107_48 rfl (by decide) (by omega) (by omega) (ab_el_1 rfl _) th8 (by omega) (by omega) ⟨by omega, by omega⟩ ?_
      intro h10 eh10 th10
      refine sy_st (S' := (mj_m_107, 50, [(0, .ref 217), (1, sy_i z1), (2, sy_i z2), (3, sy_i z3)], [.ref 217], h10)) mj_d_107_49 (fun _ _ => rfl) ?_
      refine sy_st (S' := (mj_m_107, 51, [(0, .ref 217), (1, sy_i z1), (2, sy_i z2), (3, sy_i z3)], [.ref 217, .ref 217], h10)) mj_d_107_50 (fun _ _ => rfl) ?_
      refine sy_gf mj_d_107_51 rfl rfl (by decide) rfl th10 ?_
      intro x11 ex11 bx11 tx11
      have qx11 : x11 = x5 := by rw [ex11, eh10, sy_rd_ne (Or.inl (by decide)), eh8, sy_rd_ne (Or.inl (by decide)), eh6, sy_rd_ne (Or.inl (by decide)), ex5]
      refine sy_st (S' := (mj_m_107, 55, [(0, .ref 217), (1, sy_i z1), (2, sy_i z2), (3, sy_i z3)], [sy_i 1, sy_i x11, .ref 217], h10)) mj_d_107_54 (fun _ _ => rfl) ?_
      refine sy_add mj_d_107_55 ?_
      refine sy_pf (z := x11 + 1) mj_d_107_56 rfl rfl (by decide) (Or.inl rfl) rfl th10 (by omega) (by omega) ⟨by omega, by omega⟩ ?_
      intro h12 eh12 th12
      refine sy_st (S' := (mj_m_107, 60, [(0, .ref 217), (1, sy_i z1), (2, sy_i z2), (3, sy_i z3)], [.ref 217], h12)) mj_d_107_59 (fun _ _ => rfl) ?_
      refine sy_gf mj_d_107_60 rfl rfl (by decide) rfl th12 ?_
      intro x13 ex13 bx13 tx13
      have qx13 : x13 = x11 + 1 := by rw [ex13, eh12, sy_rd_same th10 rfl (by decide) ⟨by omega, by omega⟩]
      refine sy_reti mj_d_107_63 rfl ?_
      exact ⟨th12, _, List.mem_cons_self, sy_m (by omega) (by omega) ⟨by omega, by omega⟩, ha0⟩
    · skip
      refine sy_ldc (n := -1000000004) mj_d_107_16 rfl (by decide) ?_
      refine sy_reti mj_d_107_18 rfl ?_
      exact ⟨hH, _, List.mem_cons_self, sy_m (by omega) (by omega) ⟨by omega, by omega⟩, ha0⟩
def ab_s_114_m_d : ab_M := (114, [(2, 221, 0, 0), (0, 0, 8, 0), (0, 0, 7, 0)], [(some (0, -1000000004, 20, 0), [(2, 221, 0, 0), (0, 0, 8, 0), (0, 0, 7, 0)])])
set_option maxRecDepth 100000 in
theorem ab_s_114_m : ab_sum ab_ty ab_TT ab_s_114_m_d := by
  intro M vs h hM ha0 hH
  obtain rfl := Option.some.inj (hM : some mj_m_114 = some M)
  clear hM
  obtain ⟨v0, vs1, rfl, m0, ha1⟩ := sy_args1 ha0
  obtain rfl := sy_ref (a := 221) (by decide +kernel) m0
  obtain ⟨v1, vs2, rfl, m1, ha2⟩ := sy_args1 ha1
  obtain ⟨z1, rfl, az1, bz1, cz1, dz1⟩ := sy_int m1
  obtain ⟨v2, vs3, rfl, m2, ha3⟩ := sy_args1 ha2
  obtain ⟨z2, rfl, az2, bz2, cz2, dz2⟩ := sy_int m2
  obtain rfl := sy_args0 ha3
  show sy_wp (mj_m_114, 0, [(0, .ref 221), (1, sy_i z1), (2, sy_i z2)], [], h) (fun r h' => sy_H h' ∧ ∃ out ∈ ab_s_114_m_d.2.2, ab_ret ab_ty out.1 r ∧ ab_args ab_ty out.2 _)
  refine sy_st (S' := (mj_m_114, 1, [(0, .ref 221), (1, sy_i z1), (2, sy_i z2)], [.ref 221], h)) mj_d_114_0 (fun _ _ => rfl) ?_
  refine sy_gf mj_d_114_1 rfl rfl (by decide) rfl hH ?_
  intro x1 ex1 bx1 tx1
  refine sy_ifc mj_d_114_4 rfl ⟨by omega, by omega⟩ (fun (c2 : x1 < 0) => ?_) (fun (c2 : ¬ (x1 < 0)) => ?_)
  · skip
    refine sy_ldc (n := -1000000004) mj_d_114_16 rfl (by decide) ?_
    refine sy_reti mj_d_114_18 rfl ?_
    exact ⟨hH, _, List.mem_cons_self, sy_m (by omega) (by omega) ⟨by omega, by omega⟩, ha0⟩
  · skip
    refine sy_st (S' := (mj_m_114, 8, [(0, .ref 221), (1, sy_i z1), (2, sy_i z2)], [.ref 221], h)) mj_d_114_7 (fun _ _ => rfl) ?_
    refine sy_gf mj_d_114_8 rfl rfl (by decide) rfl hH ?_
    intro x3 ex3 bx3 tx3
    have qx3 : x3 = x1 := by rw [ex3, ex1]
    refine sy_bip mj_d_114_11 (by decide) ?_
    refine sy_icm mj_d_114_13 rfl ⟨by omega, by omega⟩ ⟨by omega, by omega⟩ (fun (c4 : x3 < 20) => ?_) (fun (c4 : ¬ (x3 < 20)) => ?_)
    · skip
      refine sy_st (S' := (mj_m_114, 20, [(0, .ref 221), (1, sy_i z1), (2, sy_i z2)], [.ref 221], h)) mj_d_114_19 (fun _ _ => rfl) ?_
      refine sy_gr (b := 222) mj_d_114_20 rfl rfl (by decide) rfl (by decide +kernel) hH ?_
      refine sy_st (S' := (mj_m_114, 24, [(0, .ref 221), (1, sy_i z1), (2, sy_i z2)], [.ref 221, .ref 222], h)) mj_d_114_23 (fun _ _ => rfl) ?_
      refine sy_gf mj_d_114_24 rfl rfl (by decide) rfl hH ?_
      intro x5 ex5 bx5 tx5
      have qx5 : x5 = x3 := by rw [ex5, ex3]
      refine sy_st (S' := (mj_m_114, 28, [(0, .ref 221), (1, sy_i z1), (2, sy_i z2)], [sy_i z1, sy_i x5, .ref 222], h)) mj_d_114_27 (fun _ _ => rfl) ?_
      refine sy_ias (v := z1) mj_d_114_28 rfl (by decide) (by omega) (by omega) (ab_el_1 rfl _) hH (by omega) (by omega) ⟨by omega, by omega⟩ ?_
      intro h6 eh6 th6
      refine sy_st (S' := (mj_m_114, 30, [(0, .ref 221), (1, sy_i z1), (2, sy_i z2)], [.ref 221], h6)) mj_d_114_29 (fun _ _ => rfl) ?_
      refine sy_gr (b := 223) mj_d_114_30 rfl rfl (by decide) rfl (by decide +kernel) th6 ?_
      refine sy_st (S' := (mj_m_114, 34, [(0, .ref 221), (1, sy_i z1), (2, sy_i z2)], [.ref 221, .ref 223], h6)) mj_d_114_33 (fun _ _ => rfl) ?_
      refine sy_gf mj_d_114_34 rfl rfl (by decide) rfl th6 ?_
      intro x7 ex7 bx7 tx7
      have qx7 : x7 = x5 := by rw [ex7, eh6, sy_rd_ne (Or.inl (by decide)), ex5]
      refine sy_st (S' := (mj_m_114, 38, [(0, .ref 221), (1, sy_i z1), (2, sy_i z2)], [sy_i z2, sy_i x7, .ref 223], h6)) mj_d_114_37 (fun _ _ => rfl) ?_
      refine sy_ias (v := z2) mj_d_114_38 rfl (by decide) (by omega) (by omega) (ab_el_1 rfl _) th6 (by omega) (by omega) ⟨by omega, by omega⟩ ?_
      intro h8 eh8 th8
      refine sy_st (S' := (mj_m_114, 40, [(0, .ref 221), (1, sy_i z1), (2, sy_i z2)], [.ref 221], h8)) mj_d_114_39 (fun _ _ => rfl) ?_
      refine sy_st (S' := (mj_m_114, 41, [(0, .ref 221), (1, sy_i z1), (2, sy_i z2)], [.ref 221, .ref 221], h8)) mj_d_114_40 (fun _ _ => rfl) ?_
      refine sy_gf mj_d_114_41 rfl rfl (by decide) rfl th8 ?_
      intro x9 ex9 bx9 tx9
      have qx9 : x9 = x5 := by rw [ex9, eh8, sy_rd_ne (Or.inl (by decide)), eh6, sy_rd_ne (Or.inl (by decide)), ex5]
      refine sy_st (S' := (mj_m_114, 45, [(0, .ref 221), (1, sy_i z1), (2, sy_i z2)], [sy_i 1, sy_i x9, .ref 221], h8)) mj_d_114_44 (fun _ _ => rfl) ?_
      refine sy_add mj_d_114_45 ?_
      refine sy_pf (z := x9 + 1) mj_d_114_46 rfl rfl (by decide) (Or.inl rfl) rfl th8 (by omega) (by omega) ⟨by omega, by omega⟩ ?_
      intro h10 eh10 th10
      refine sy_st (S' := (mj_m_114, 50, [(0, .ref 221), (1, sy_i z1), (2, sy_i z2)], [.ref 221], h10)) mj_d_114_49 (fun _ _ => rfl) ?_
      refine sy_gf mj_d_114_50 rfl rfl (by decide) rfl th10 ?_
      intro x11 ex11 bx11 tx11
      have qx11 : x11 = x9 + 1 := by rw [ex11, eh10, sy_rd_same th8 rfl (by decide) ⟨by omega, by omega⟩]
      refine sy_reti mj_d_114_53 rfl ?_
      exact ⟨th10, _, List.mem_cons_self, sy_m (by omega) (by omega) ⟨by omega, by omega⟩, ha0⟩
    · skip
      refine sy_ldc (n := -1000000004) mj_d_114_16 rfl (by decide) ?_
      refine sy_reti mj_d_114_18 rfl ?_
      exact ⟨hH, _, List.mem_cons_self, sy_m (by omega) (by omega) ⟨by omega, by omega⟩, ha0⟩
def ab_s_11_m_d : ab_M := (11, [(2, 1, 0, 0), (0, 0, 65535, 0)], [(some (0, -1000000004, 240, 0), [(2, 1, 0, 0), (0, 0, 65535, 0)])])
set_option maxRecDepth 100000 in
theorem ab_s_11_m : ab_sum ab_ty ab_TT ab_s_11_m_d := by
  intro M vs h hM ha0 hH
  obtain rfl := Option.some.inj (hM : some mj_m_11 = some M)
  clear hM
  obtain ⟨v0, vs1, rfl, m0, ha1⟩ := sy_args1 ha0
  obtain rfl := sy_ref (a := 1) (by decide +kernel) m0
  obtain ⟨v1, vs2, rfl, m1, ha2⟩ := sy_args1 ha1
  obtain ⟨z1, rfl, az1, bz1, cz1, dz1⟩ := sy_int m1
  obtain rfl := sy_args0 ha2
  show sy_wp (mj_m_11, 0, [(0, .ref 1), (1, sy_i z1)], [], h) (fun r h' => sy_H h' ∧ ∃ out ∈ ab_s_11_m_d.2.2, ab_ret ab_ty out.1 r ∧ ab_args ab_ty out.2 _)
  refine sy_st (S' := (mj_m_11, 1, [(0, .ref 1), (1, sy_i z1)], [.ref 1], h)) mj_d_11_0 (fun _ _ => rfl) ?_
  refine sy_gf mj_d_11_1 rfl rfl (by decide) rfl hH ?_
  intro x1 ex1 bx1 tx1
  refine sy_ifc mj_d_11_4 rfl ⟨by omega, by omega⟩ (fun (c2 : x1 < 0) => ?_) (fun (c2 : ¬ (x1 < 0)) => ?_)
  · skip
    refine sy_ldc (n := -1000000004) mj_d_11_17 rfl (by decide) ?_
    refine sy_reti mj_d_11_19 rfl ?_
    exact ⟨hH, _, List.mem_cons_self, sy_m (by omega) (by omega) ⟨by omega, by omega⟩, ha0⟩
  · skip
    refine sy_st (S' := (mj_m_11, 8, [(0, .ref 1), (1, sy_i z1)], [.ref 1], h)) mj_d_11_7 (fun _ _ => rfl) ?_
    refine sy_gf mj_d_11_8 rfl rfl (by decide) rfl hH ?_
    intro x3 ex3 bx3 tx3
    have qx3 : x3 = x1 := by rw [ex3, ex1]
    refine sy_sip mj_d_11_11 (by decide) ?_
    refine sy_icm mj_d_11_14 rfl ⟨by omega, by omega⟩ ⟨by omega, by omega⟩ (fun (c4 : x3 < 240) => ?_) (fun (c4 : ¬ (x3 < 240)) => ?_)
    · skip
      refine sy_st (S' := (mj_m_11, 21, [(0, .ref 1), (1, sy_i z1)], [.ref 1], h)) mj_d_11_20 (fun _ _ => rfl) ?_
      refine sy_gr (b := 2) mj_d_11_21 rfl rfl (by decide) rfl (by decide +kernel) hH ?_
      refine sy_st (S' := (mj_m_11, 25, [(0, .ref 1), (1, sy_i z1)], [.ref 1, .ref 2], h)) mj_d_11_24 (fun _ _ => rfl) ?_
      refine sy_gf mj_d_11_25 rfl rfl (by decide) rfl hH ?_
      intro x5 ex5 bx5 tx5
      have qx5 : x5 = x3 := by rw [ex5, ex3]
      refine sy_st (S' := (mj_m_11, 29, [(0, .ref 1), (1, sy_i z1)], [sy_i z1, sy_i x5, .ref 2], h)) mj_d_11_28 (fun _ _ => rfl) ?_
      refine sy_cas (v := z1) mj_d_11_29 rfl (by decide) (by omega) (by omega) (ab_el_1 rfl _) hH (by omega) (by omega) ⟨by omega, by omega⟩ ?_
      intro h6 eh6 th6
      refine sy_st (S' := (mj_m_11, 31, [(0, .ref 1), (1, sy_i z1)], [.ref 1], h6)) mj_d_11_30 (fun _ _ => rfl) ?_
      refine sy_st (S' := (mj_m_11, 32, [(0, .ref 1), (1, sy_i z1)], [.ref 1, .ref 1], h6)) mj_d_11_31 (fun _ _ => rfl) ?_
      refine sy_gf mj_d_11_32 rfl rfl (by decide) rfl th6 ?_
      intro x7 ex7 bx7 tx7
      have qx7 : x7 = x5 := by rw [ex7, eh6, sy_rd_ne (Or.inl (by decide)), ex5]
      refine sy_st (S' := (mj_m_11, 36, [(0, .ref 1), (1, sy_i z1)], [sy_i 1, sy_i x7, .ref 1], h6)) mj_d_11_35 (fun _ _ => rfl) ?_
      refine sy_add mj_d_11_36 ?_
      refine sy_pf (z := x7 + 1) mj_d_11_37 rfl rfl (by decide) (Or.inl rfl) rfl th6 (by omega) (by omega) ⟨by omega, by omega⟩ ?_
      intro h8 eh8 th8
      refine sy_st (S' := (mj_m_11, 41, [(0, .ref 1), (1, sy_i z1)], [.ref 1], h8)) mj_d_11_40 (fun _ _ => rfl) ?_
      refine sy_gf mj_d_11_41 rfl rfl (by decide) rfl th8 ?_
      intro x9 ex9 bx9 tx9
      have qx9 : x9 = x7 + 1 := by rw [ex9, eh8, sy_rd_same th6 rfl (by decide) ⟨by omega, by omega⟩]
      refine sy_reti mj_d_11_44 rfl ?_
      exact ⟨th8, _, List.mem_cons_self, sy_m (by omega) (by omega) ⟨by omega, by omega⟩, ha0⟩
    · skip
      refine sy_ldc (n := -1000000004) mj_d_11_17 rfl (by decide) ?_
      refine sy_reti mj_d_11_19 rfl ?_
      exact ⟨hH, _, List.mem_cons_self, sy_m (by omega) (by omega) ⟨by omega, by omega⟩, ha0⟩
def ab_s_27_m_d : ab_M := (27, [(2, 3, 0, 0), (0, 0, 9, 0), (0, 0, 7, 0)], [(none, [(2, 3, 0, 0), (0, 0, 9, 0), (0, 0, 7, 0)])])
set_option maxRecDepth 100000 in
theorem ab_s_27_m : ab_sum ab_ty ab_TT ab_s_27_m_d := by
  intro M vs h hM ha0 hH
  obtain rfl := Option.some.inj (hM : some mj_m_27 = some M)
  clear hM
  obtain ⟨v0, vs1, rfl, m0, ha1⟩ := sy_args1 ha0
  obtain rfl := sy_ref (a := 3) (by decide +kernel) m0
  obtain ⟨v1, vs2, rfl, m1, ha2⟩ := sy_args1 ha1
  obtain ⟨z1, rfl, az1, bz1, cz1, dz1⟩ := sy_int m1
  obtain ⟨v2, vs3, rfl, m2, ha3⟩ := sy_args1 ha2
  obtain ⟨z2, rfl, az2, bz2, cz2, dz2⟩ := sy_int m2
  obtain rfl := sy_args0 ha3
  show sy_wp (mj_m_27, 0, [(0, .ref 3), (1, sy_i z1), (2, sy_i z2)], [], h) (fun r h' => sy_H h' ∧ ∃ out ∈ ab_s_27_m_d.2.2, ab_ret ab_ty out.1 r ∧ ab_args ab_ty out.2 _)
  refine sy_st (S' := (mj_m_27, 1, [(0, .ref 3), (1, sy_i z1), (2, sy_i z2)], [.ref 3], h)) mj_d_27_0 (fun _ _ => rfl) ?_
  refine sy_gf mj_d_27_1 rfl rfl (by decide) rfl hH ?_
  intro x1 ex1 bx1 tx1
  refine sy_bip mj_d_27_4 (by decide) ?_
  refine sy_icm mj_d_27_6 rfl ⟨by omega, by omega⟩ ⟨by omega, by omega⟩ (fun (c2 : 9 ≤ x1) => ?_) (fun (c2 : ¬ (9 ≤ x1)) => ?_)
  · skip
    exact sy_retv mj_d_27_49 rfl ⟨hH, _, List.mem_cons_self, trivial, ha0⟩
  · skip
    refine sy_st (S' := (mj_m_27, 10, [(0, .ref 3), (1, sy_i z1), (2, sy_i z2)], [.ref 3], h)) mj_d_27_9 (fun _ _ => rfl) ?_
    refine sy_gr (b := 4) mj_d_27_10 rfl rfl (by decide) rfl (by decide +kernel) hH ?_
    refine sy_st (S' := (mj_m_27, 14, [(0, .ref 3), (1, sy_i z1), (2, sy_i z2)], [.ref 3, .ref 4], h)) mj_d_27_13 (fun _ _ => rfl) ?_
    refine sy_gf mj_d_27_14 rfl rfl (by decide) rfl hH ?_
    intro x3 ex3 bx3 tx3
    have qx3 : x3 = x1 := by rw [ex3, ex1]
    refine sy_st (S' := (mj_m_27, 18, [(0, .ref 3), (1, sy_i z1), (2, sy_i z2)], [sy_i z1, sy_i x3, .ref 4], h)) mj_d_27_17 (fun _ _ => rfl) ?_
    refine sy_bip mj_d_27_18 (by decide) ?_
    refine sy_icm mj_d_27_20 rfl ⟨by omega, by omega⟩ ⟨by omega, by omega⟩ (fun (c4 : ¬ z1 = 9) => ?_) (fun (c4 : ¬ (¬ z1 = 9)) => ?_)
    · skip
      refine sy_st (S' := (mj_m_27, 28, [(0, .ref 3), (1, sy_i z1), (2, sy_i z2)], [sy_i z1, sy_i x3, .ref 4], h)) mj_d_27_27 (fun _ _ => rfl) ?_
      refine sy_ias (v := z1) mj_d_27_28 rfl (by decide) (by omega) (by omega) (ab_el_1 rfl _) hH (by omega) (by omega) ⟨by omega, by omega⟩ ?_
      intro h5 eh5 th5
      refine sy_st (S' := (mj_m_27, 30, [(0, .ref 3), (1, sy_i z1), (2, sy_i z2)], [.ref 3], h5)) mj_d_27_29 (fun _ _ => rfl) ?_
      refine sy_gr (b := 5) mj_d_27_30 rfl rfl (by decide) rfl (by decide +kernel) th5 ?_
      refine sy_st (S' := (mj_m_27, 34, [(0, .ref 3), (1, sy_i z1), (2, sy_i z2)], [.ref 3, .ref 5], h5)) mj_d_27_33 (fun _ _ => rfl) ?_
      refine sy_gf mj_d_27_34 rfl rfl (by decide) rfl th5 ?_
      intro x6 ex6 bx6 tx6
      have qx6 : x6 = x3 := by rw [ex6, eh5, sy_rd_ne (Or.inl (by decide)), ex3]
      refine sy_st (S' := (mj_m_27, 38, [(0, .ref 3), (1, sy_i z1), (2, sy_i z2)], [sy_i z2, sy_i x6, .ref 5], h5)) mj_d_27_37 (fun _ _ => rfl) ?_
      refine sy_ias (v := z2) mj_d_27_38 rfl (by decide) (by omega) (by omega) (ab_el_1 rfl _) th5 (by omega) (by omega) ⟨by omega, by omega⟩ ?_
      intro h7 eh7 th7
      refine sy_st (S' := (mj_m_27, 40, [(0, .ref 3), (1, sy_i z1), (2, sy_i z2)], [.ref 3], h7)) mj_d_27_39 (fun _ _ => rfl) ?_
      refine sy_st (S' := (mj_m_27, 41, [(0, .ref 3), (1, sy_i z1), (2, sy_i z2)], [.ref 3, .ref 3], h7)) mj_d_27_40 (fun _ _ => rfl) ?_
      refine sy_gf mj_d_27_41 rfl rfl (by decide) rfl th7 ?_
      intro x8 ex8 bx8 tx8
      have qx8 : x8 = x3 := by rw [ex8, eh7, sy_rd_ne (Or.inl (by decide)), eh5, sy_rd_ne (Or.inl (by decide)), ex3]
      refine sy_st (S' := (mj_m_27, 45, [(0, .ref 3), (1, sy_i z1), (2, sy_i z2)], [sy_i 1, sy_i x8, .ref 3], h7)) mj_d_27_44 (fun _ _ => rfl) ?_
      refine sy_add mj_d_27_45 ?_
      refine sy_pf (z := x8 + 1) mj_d_27_46 rfl rfl (by decide) (Or.inl rfl) rfl th7 (by omega) (by omega) ⟨by omega, by omega⟩ ?_
      intro h9 eh9 th9
      exact sy_retv mj_d_27_49 rfl ⟨th9, _, List.mem_cons_self, trivial, ha0⟩
    · skip
      refine sy_st (S' := (mj_m_27, 24, [(0, .ref 3), (1, sy_i z1), (2, sy_i z2)], [sy_i (-1), sy_i x3, .ref 4], h)) mj_d_27_23 (fun _ _ => rfl) ?_
      refine sy_st (S' := (mj_m_27, 28, [(0, .ref 3), (1, sy_i z1), (2, sy_i z2)], [sy_i (-1), sy_i x3, .ref 4], h)) mj_d_27_24 (fun _ _ => rfl) ?_
      refine sy_ias (v := (-1)) mj_d_27_28 rfl (by decide) (by omega) (by omega) (ab_el_1 rfl _) hH (by omega) (by omega) ⟨by omega, by omega⟩ ?_
      intro h10 eh10 th10
      refine sy_st (S' := (mj_m_27, 30, [(0, .ref 3), (1, sy_i z1), (2, sy_i z2)], [.ref 3], h10)) mj_d_27_29 (fun _ _ => rfl) ?_
      refine sy_gr (b := 5) mj_d_27_30 rfl rfl (by decide) rfl (by decide +kernel) th10 ?_
      refine sy_st (S' := (mj_m_27, 34, [(0, .ref 3), (1, sy_i z1), (2, sy_i z2)], [.ref 3, .ref 5], h10)) mj_d_27_33 (fun _ _ => rfl) ?_
      refine sy_gf mj_d_27_34 rfl rfl (by decide) rfl th10 ?_
      intro x11 ex11 bx11 tx11
      have qx11 : x11 = x3 := by rw [ex11, eh10, sy_rd_ne (Or.inl (by decide)), ex3]
      refine sy_st (S' := (mj_m_27, 38, [(0, .ref 3), (1, sy_i z1), (2, sy_i z2)], [sy_i z2, sy_i x11, .ref 5], h10)) mj_d_27_37 (fun _ _ => rfl) ?_
      refine sy_ias (v := z2) mj_d_27_38 rfl (by decide) (by omega) (by omega) (ab_el_1 rfl _) th10 (by omega) (by omega) ⟨by omega, by omega⟩ ?_
      intro h12 eh12 th12
      refine sy_st (S' := (mj_m_27, 40, [(0, .ref 3), (1, sy_i z1), (2, sy_i z2)], [.ref 3], h12)) mj_d_27_39 (fun _ _ => rfl) ?_
      refine sy_st (S' := (mj_m_27, 41, [(0, .ref 3), (1, sy_i z1), (2, sy_i z2)], [.ref 3, .ref 3], h12)) mj_d_27_40 (fun _ _ => rfl) ?_
      refine sy_gf mj_d_27_41 rfl rfl (by decide) rfl th12 ?_
      intro x13 ex13 bx13 tx13
      have qx13 : x13 = x3 := by rw [ex13, eh12, sy_rd_ne (Or.inl (by decide)), eh10, sy_rd_ne (Or.inl (by decide)), ex3]
      refine sy_st (S' := (mj_m_27, 45, [(0, .ref 3), (1, sy_i z1), (2, sy_i z2)], [sy_i 1, sy_i x13, .ref 3], h12)) mj_d_27_44 (fun _ _ => rfl) ?_
      refine sy_add mj_d_27_45 ?_
      refine sy_pf (z := x13 + 1) mj_d_27_46 rfl rfl (by decide) (Or.inl rfl) rfl th12 (by omega) (by omega) ⟨by omega, by omega⟩ ?_
      intro h14 eh14 th14
      exact sy_retv mj_d_27_49 rfl ⟨th14, _, List.mem_cons_self, trivial, ha0⟩
def ab_s_28_m_d : ab_M := (28, [(2, 3, 0, 0), (0, 0, 511, 0), (0, 0, 99, 0)], [(none, [(2, 3, 0, 0), (0, 0, 511, 0), (0, 0, 99, 0)])])
set_option maxRecDepth 100000 in
theorem ab_s_28_m : ab_sum ab_ty ab_TT ab_s_28_m_d := by
  intro M vs h hM ha0 hH
  obtain rfl := Option.some.inj (hM : some mj_m_28 = some M)
  clear hM
  obtain ⟨v0, vs1, rfl, m0, ha1⟩ := sy_args1 ha0
  obtain rfl := sy_ref (a := 3) (by decide +kernel) m0
  obtain ⟨v1, vs2, rfl, m1, ha2⟩ := sy_args1 ha1
  obtain ⟨z1, rfl, az1, bz1, cz1, dz1⟩ := sy_int m1
  obtain ⟨v2, vs3, rfl, m2, ha3⟩ := sy_args1 ha2
  obtain ⟨z2, rfl, az2, bz2, cz2, dz2⟩ := sy_int m2
  obtain rfl := sy_args0 ha3
  show sy_wp (mj_m_28, 0, [(0, .ref 3), (1, sy_i z1), (2, sy_i z2)], [], h) (fun r h' => sy_H h' ∧ ∃ out ∈ ab_s_28_m_d.2.2, ab_ret ab_ty out.1 r ∧ ab_args ab_ty out.2 _)
  refine sy_st (S' := (mj_m_28, 1, [(0, .ref 3), (1, sy_i z1), (2, sy_i z2)], [.ref 3], h)) mj_d_28_0 (fun _ _ => rfl) ?_
  refine sy_gf mj_d_28_1 rfl rfl (by decide) rfl hH ?_
  intro x1 ex1 bx1 tx1
  refine sy_st (S' := (mj_m_28, 5, [(0, .ref 3), (1, sy_i z1), (2, sy_i z2)], [sy_i 5, sy_i x1], h)) mj_d_28_4 (fun _ _ => rfl) ?_
  refine sy_icm mj_d_28_5 rfl ⟨by omega, by omega⟩ ⟨by omega, by omega⟩ (fun (c2 : 5 ≤ x1) => ?_) (fun (c2 : ¬ (5 ≤ x1)) => ?_)
  · skip
    exact sy_retv mj_d_28_38 rfl ⟨hH, _, List.mem_cons_self, trivial, ha0⟩
  · skip
    refine sy_st (S' := (mj_m_28, 9, [(0, .ref 3), (1, sy_i z1), (2, sy_i z2)], [.ref 3], h)) mj_d_28_8 (fun _ _ => rfl) ?_
    refine sy_gr (b := 6) mj_d_28_9 rfl rfl (by decide) rfl (by decide +kernel) hH ?_
    refine sy_st (S' := (mj_m_28, 13, [(0, .ref 3), (1, sy_i z1), (2, sy_i z2)], [.ref 3, .ref 6], h)) mj_d_28_12 (fun _ _ => rfl) ?_
    refine sy_gf mj_d_28_13 rfl rfl (by decide) rfl hH ?_
    intro x3 ex3 bx3 tx3
    have qx3 : x3 = x1 := by rw [ex3, ex1]
    refine sy_st (S' := (mj_m_28, 17, [(0, .ref 3), (1, sy_i z1), (2, sy_i z2)], [sy_i z1, sy_i x3, .ref 6], h)) mj_d_28_16 (fun _ _ => rfl) ?_
    refine sy_ias (v := z1) mj_d_28_17 rfl (by decide) (by omega) (by omega) (ab_el_1 rfl _) hH (by omega) (by omega) ⟨by omega, by omega⟩ ?_
    intro h4 eh4 th4
    refine sy_st (S' := (mj_m_28, 19, [(0, .ref 3), (1, sy_i z1), (2, sy_i z2)], [.ref 3], h4)) mj_d_28_18 (fun _ _ => rfl) ?_
    refine sy_gr (b := 7) mj_d_28_19 rfl rfl (by decide) rfl (by decide +kernel) th4 ?_
    refine sy_st (S' := (mj_m_28, 23, [(0, .ref 3), (1, sy_i z1), (2, sy_i z2)], [.ref 3, .ref 7], h4)) mj_d_28_22 (fun _ _ => rfl) ?_
    refine sy_gf mj_d_28_23 rfl rfl (by decide) rfl th4 ?_
    intro x5 ex5 bx5 tx5
    have qx5 : x5 = x3 := by rw [ex5, eh4, sy_rd_ne (Or.inl (by decide)), ex3]
    refine sy_st (S' := (mj_m_28, 27, [(0, .ref 3), (1, sy_i z1), (2, sy_i z2)], [sy_i z2, sy_i x5, .ref 7], h4)) mj_d_28_26 (fun _ _ => rfl) ?_
    refine sy_ias (v := z2) mj_d_28_27 rfl (by decide) (by omega) (by omega) (ab_el_1 rfl _) th4 (by omega) (by omega) ⟨by omega, by omega⟩ ?_
    intro h6 eh6 th6
    refine sy_st (S' := (mj_m_28, 29, [(0, .ref 3), (1, sy_i z1), (2, sy_i z2)], [.ref 3], h6)) mj_d_28_28 (fun _ _ => rfl) ?_
    refine sy_st (S' := (mj_m_28, 30, [(0, .ref 3), (1, sy_i z1), (2, sy_i z2)], [.ref 3, .ref 3], h6)) mj_d_28_29 (fun _ _ => rfl) ?_
    refine sy_gf mj_d_28_30 rfl rfl (by decide) rfl th6 ?_
    intro x7 ex7 bx7 tx7
    have qx7 : x7 = x3 := by rw [ex7, eh6, sy_rd_ne (Or.inl (by decide)), eh4, sy_rd_ne (Or.inl (by decide)), ex3]
    refine sy_st (S' := (mj_m_28, 34, [(0, .ref 3), (1, sy_i z1), (2, sy_i z2)], [sy_i 1, sy_i x7, .ref 3], h6)) mj_d_28_33 (fun _ _ => rfl) ?_
    refine sy_add mj_d_28_34 ?_
    refine sy_pf (z := x7 + 1) mj_d_28_35 rfl rfl (by decide) (Or.inl rfl) rfl th6 (by omega) (by omega) ⟨by omega, by omega⟩ ?_
    intro h8 eh8 th8
    exact sy_retv mj_d_28_38 rfl ⟨th8, _, List.mem_cons_self, trivial, ha0⟩
def ab_s_16_m_d : ab_M := (16, [(2, 1, 0, 0)], [(some (0, 0, 65535, 0), [(2, 1, 0, 0)])])
set_option maxRecDepth 100000 in
theorem ab_s_16_m : ab_sum ab_ty ab_TT ab_s_16_m_d := by
  intro M vs h hM ha0 hH
  obtain rfl := Option.some.inj (hM : some mj_m_16 = some M)
  clear hM
  obtain ⟨v0, vs1, rfl, m0, ha1⟩ := sy_args1 ha0
  obtain rfl := sy_ref (a := 1) (by decide +kernel) m0
  obtain rfl := sy_args0 ha1
  show sy_wp (mj_m_16, 0, [(0, .ref 1)], [], h) (fun r h' => sy_H h' ∧ ∃ out ∈ ab_s_16_m_d.2.2, ab_ret ab_ty out.1 r ∧ ab_args ab_ty out.2 _)
  refine sy_st (S' := (mj_m_16, 1, [(0, .ref 1)], [.ref 1], h)) mj_d_16_0 (fun _ _ => rfl) ?_
  refine sy_gf mj_d_16_1 rfl rfl (by decide) rfl hH ?_
  intro x1 ex1 bx1 tx1
  refine sy_ifc mj_d_16_4 rfl ⟨by omega, by omega⟩ (fun (c2 : x1 < 0) => ?_) (fun (c2 : ¬ (x1 < 0)) => ?_)
  · skip
    refine sy_st (S' := (mj_m_16, 41, [(0, .ref 1)], [sy_i 0], h)) mj_d_16_40 (fun _ _ => rfl) ?_
    refine sy_retc mj_d_16_41 rfl ⟨by omega, by omega⟩ ?_
    exact ⟨hH, _, List.mem_cons_self, sy_m (by omega) (by omega) ⟨by omega, by omega⟩, ha0⟩
  · skip
    refine sy_st (S' := (mj_m_16, 8, [(0, .ref 1)], [.ref 1], h)) mj_d_16_7 (fun _ _ => rfl) ?_
    refine sy_gf mj_d_16_8 rfl rfl (by decide) rfl hH ?_
    intro x3 ex3 bx3 tx3
    have qx3 : x3 = x1 := by rw [ex3, ex1]
    refine sy_st (S' := (mj_m_16, 12, [(0, .ref 1)], [.ref 1, sy_i x3], h)) mj_d_16_11 (fun _ _ => rfl) ?_
    refine sy_gf mj_d_16_12 rfl rfl (by decide) rfl hH ?_
    intro x4 ex4 bx4 tx4
    refine sy_icm mj_d_16_15 rfl ⟨by omega, by omega⟩ ⟨by omega, by omega⟩ (fun (c5 : x4 ≤ x3) => ?_) (fun (c5 : ¬ (x4 ≤ x3)) => ?_)
    · skip
      refine sy_st (S' := (mj_m_16, 41, [(0, .ref 1)], [sy_i 0], h)) mj_d_16_40 (fun _ _ => rfl) ?_
      refine sy_retc mj_d_16_41 rfl ⟨by omega, by omega⟩ ?_
      exact ⟨hH, _, List.mem_cons_self, sy_m (by omega) (by omega) ⟨by omega, by omega⟩, ha0⟩
    · skip
      refine sy_st (S' := (mj_m_16, 19, [(0, .ref 1)], [.ref 1], h)) mj_d_16_18 (fun _ _ => rfl) ?_
      refine sy_gf mj_d_16_19 rfl rfl (by decide) rfl hH ?_
      intro x6 ex6 bx6 tx6
      have qx6 : x6 = x3 := by rw [ex6, ex3]
      refine sy_sip mj_d_16_22 (by decide) ?_
      refine sy_icm mj_d_16_25 rfl ⟨by omega, by omega⟩ ⟨by omega, by omega⟩ (fun (c7 : 240 ≤ x6) => ?_) (fun (c7 : ¬ (240 ≤ x6)) => ?_)
      · skip
        refine sy_st (S' := (mj_m_16, 41, [(0, .ref 1)], [sy_i 0], h)) mj_d_16_40 (fun _ _ => rfl) ?_
        refine sy_retc mj_d_16_41 rfl ⟨by omega, by omega⟩ ?_
        exact ⟨hH, _, List.mem_cons_self, sy_m (by omega) (by omega) ⟨by omega, by omega⟩, ha0⟩
      · skip
        refine sy_st (S' := (mj_m_16, 29, [(0, .ref 1)], [.ref 1], h)) mj_d_16_28 (fun _ _ => rfl) ?_
        refine sy_gr (b := 2) mj_d_16_29 rfl rfl (by decide) rfl (by decide +kernel) hH ?_
        refine sy_st (S' := (mj_m_16, 33, [(0, .ref 1)], [.ref 1, .ref 2], h)) mj_d_16_32 (fun _ _ => rfl) ?_
        refine sy_gf mj_d_16_33 rfl rfl (by decide) rfl hH ?_
        intro x8 ex8 bx8 tx8
        have qx8 : x8 = x6 := by rw [ex8, ex6]
        refine sy_ca mj_d_16_36 rfl (by decide) (by omega) (by omega) (ab_el_1 rfl _) hH ?_
        intro x9 ex9 bx9 tx9
        refine sy_st (S' := (mj_m_16, 41, [(0, .ref 1)], [sy_i x9], h)) mj_d_16_37 (fun _ _ => rfl) ?_
        refine sy_retc mj_d_16_41 rfl ⟨by omega, by omega⟩ ?_
        exact ⟨hH, _, List.mem_cons_self, sy_m (by omega) (by omega) ⟨by omega, by omega⟩, ha0⟩
end
section
/-! FRAMES: what a method, and all that it calls, can write: fields (class, place), arrays by their kind -/
def fr_same (WF : List (Nat × Nat)) (WA : List Nat) (h h' : mj_H) : Prop := ∀ (a t : Nat) (xs : List Value), h[a]? = some (t, xs) → ∃ ys, h'[a]? = some (t, ys) ∧ ys.length = xs.length ∧ (WA.contains t = false → ∀ k, WF.contains (t, k) = false → ys[k]? = xs[k]?)
theorem fr_same.rf {WF : List (Nat × Nat)} {WA : List Nat} (h : mj_H) : fr_same WF WA h h := fun _ _ xs e => ⟨xs, e, rfl, fun _ _ _ => rfl⟩
theorem fr_same.tr {WF : List (Nat × Nat)} {WA : List Nat} {h h1 h2 : mj_H} (p : fr_same WF WA h h1) (q : fr_same WF WA h1 h2) : fr_same WF WA h h2 := fun a t xs e => by
  obtain ⟨ys, e1, e2, e3⟩ := p a t xs e
  obtain ⟨zs, e4, e5, e6⟩ := q a t ys e1
  exact ⟨zs, e4, e5.trans e2, fun w k hk => (e6 w k hk).trans (e3 w k hk)⟩
theorem fr_same.st {WF : List (Nat × Nat)} {WA : List Nat} {h : mj_H} {a t : Nat} {xs ys : List Value} (hc : h[a]? = some (t, xs)) (hl : ys.length = xs.length) (hw : WA.contains t = false → ∀ k, WF.contains (t, k) = false → ys[k]? = xs[k]?) : fr_same WF WA h (h.set a (t, ys)) := fun a' t' xs' e => by
  by_cases q : a' = a
  · subst q
    rw [hc] at e
    cases e
    have hlt : a' < h.length := (List.getElem?_eq_some_iff.mp hc).1
    exact ⟨ys, by rw [List.getElem?_set_self hlt], hl, hw⟩
  · exact ⟨xs', by rw [List.getElem?_set_ne (Ne.symm q)]; exact e, rfl, fun _ _ _ => rfl⟩
section FR1
variable {WF : List (Nat × Nat)} {WA : List Nat}
theorem fr_pf {M : mj_M} {idx : Nat} {st st' : List Value} {h h' : mj_H} (hs : mj_pf M idx st h = some (st', h')) (hw : ∀ ix kd ci k, mj_ent M idx = some (ix, kd, ci, k) → WF.contains (ci, k) = true) : fr_same WF WA h h' := by
  unfold mj_pf at hs
  split at hs
  · rename_i ix kd ci k he
    split at hs
    · split at hs
      · split at hs
        · rename_i t xs hcell
          split at hs
          · rename_i hh
            cases hs
            refine fr_same.st hcell List.length_set (fun _ k' hk' => ?_)
            by_cases q : k = k'
            · subst q
              rw [hh.1, hw _ _ _ _ he] at hk'
              cases hk'
            · rw [List.getElem?_set_ne q]
          · cases hs
        · cases hs
      · cases hs
    · cases hs
  · cases hs
theorem fr_ast {t : Nat} {st st' : List Value} {h h' : mj_H} (hs : mj_ast t st h = some (st', h')) (hw : WA.contains t = true) : fr_same WF WA h h' := by
  unfold mj_ast at hs
  split at hs
  · split at hs
    · rename_i t' xs hc
      split at hs
      · rename_i hh
        cases hs
        refine fr_same.st hc List.length_set (fun q => ?_)
        rw [hh.1, hw] at q
        cases q
      · cases hs
    · cases hs
  · cases hs
theorem fr_acopy {M : mj_M} {st st' : List Value} {h h' : mj_H} (hs : mj_acopy M st h = some (st', h')) (hw : WA.contains 100 = true) : fr_same WF WA h h' := by
  unfold mj_acopy at hs
  split at hs
  · split at hs
    · rename_i t xs t' ys hc0 hc1
      split at hs
      · rename_i hh
        cases hs
        refine fr_same.st hc1 (mj_cpy_len hh.2.2.2.2.2.1 hh.2.2.2.2.2.2.1) (fun q => ?_)
        rw [hh.2.1, hw] at q
        cases q
      · cases hs
    · cases hs
  · cases hs
abbrev fr_F : Type := List (Nat × List Nat)
def fr_to (pcs : List Nat) (pc : Nat) (off : Int) : Bool := match mj_to pc off with
  | some t => pcs.contains t
  | none => true
/-- what is asked of an instruction -/
def fr_ins (F : fr_F) (WF : List (Nat × Nat)) (WA : List Nat) (M : mj_M) (pcs : List Nat) (pc : Nat) (ins : Instr) (len : Nat) : Bool := match ins with
  | .goto off => fr_to pcs pc off
  | .ifCond _ off => fr_to pcs pc off && pcs.contains (pc + 3)
  | .if_icmp _ off => fr_to pcs pc off && pcs.contains (pc + 3)
  | .tableswitch d _ _ offs => fr_to pcs pc d && offs.toList.all (fun o => fr_to pcs pc o)
  | .lookupswitch d ps => fr_to pcs pc d && ps.toList.all (fun o => fr_to pcs pc o.2)
  | .ireturn => true
  | .return_ => true
  | .putfield idx => pcs.contains (pc + len) && (match mj_ent M idx with
    | some (_, _, ci, k) => WF.contains (ci, k)
    | none => true)
  | .iastore => WA.contains 100 && pcs.contains (pc + len)
  | .castore => WA.contains 101 && pcs.contains (pc + len)
  | .bastore => WA.contains 102 && pcs.contains (pc + len)
  | .new _ => false
  | .newarray _ => false
  | .anewarray _ => false
  | .aastore => false
  | .invokespecial _ => false
  | .invokestatic idx => pcs.contains (pc + len) && (match mj_ent M idx with
    | some (_, kd, j, _) => if kd = 7 then WA.contains 100 else if kd = 9 ∨ kd = 10 then true else F.any (fun q => q.1 == j && q.2.contains 0)
    | none => true)
  | .invokevirtual idx => pcs.contains (pc + len) && (match mj_ent M idx with
    | some (_, _, j, _) => F.any (fun q => q.1 == j && q.2.contains 0)
    | none => true)
  | _ => pcs.contains (pc + len)
def fr_ok (F : fr_F) (WF : List (Nat × Nat)) (WA : List Nat) : Bool := F.all (fun q => match mj_meths[q.1]? with
  | some M => q.2.all (fun pc => match decode M.2.1 pc with
    | .ok (ins, len) => fr_ins F WF WA M q.2 pc ins len
    | .error _ => true)
  | none => false)
def fr_has (F : fr_F) (M : mj_M) (pc : Nat) : Prop := ∃ j pcs, (j, pcs) ∈ F ∧ mj_meths[j]? = some M ∧ pcs.contains pc = true
def fr_K (F : fr_F) (WF : List (Nat × Nat)) (WA : List Nat) (k : mj_S → mj_O) : Prop := ∀ (M : mj_M) (pc : Nat) (lv : mj_L) (st : List Value) (h : mj_H) (r : Option Value) (h' : mj_H), fr_has F M pc → k (M, pc, lv, st, h) = some (r, h') → fr_same WF WA h h'
theorem fr_look {d x : Int} {P : Int → Prop} (hd : P d) : ∀ ps : List (Int × Int), (∀ q ∈ ps, P q.2) → P (Op.lookupswitch.offset ps d x) := by
  intro ps
  induction ps with
  | nil => intro _; exact hd
  | cons q ps ih =>
    intro h
    obtain ⟨a, off⟩ := q
    simp only [Op.lookupswitch.offset]
    split
    · exact h _ List.mem_cons_self
    · exact ih (fun q hq => h q (List.mem_cons_of_mem _ hq))
theorem fr_to_ok {pcs : List Nat} {pc t : Nat} {off : Int} (h : fr_to pcs pc off = true) (ht : mj_to pc off = some t) : pcs.contains t = true := by
  unfold fr_to at h
  rw [ht] at h
  exact h
theorem fr_br {F : fr_F} {M : mj_M} {pcs : List Nat} {pc len pc' : Nat} {ins : Instr} {st st' : List Value} (h : fr_ins F WF WA M pcs pc ins len = true) (hb : mj_br ins len pc st = some (pc', st')) : pcs.contains pc' = true := by
  unfold mj_br at hb
  split at hb
  · rename_i off
    simp only [fr_ins] at h
    split at hb
    · obtain ⟨t, e1, e2⟩ := Option.map_eq_some_iff.mp hb
      cases e2
      exact fr_to_ok h e1
    · cases hb
  · rename_i c off
    simp only [fr_ins, Bool.and_eq_true] at h
    split at hb
    · split at hb
      · obtain ⟨t, e1, e2⟩ := Option.map_eq_some_iff.mp hb
        cases e2
        split
        · exact fr_to_ok h.1 e1
        · exact h.2
      · cases hb
    · cases hb
  · rename_i c off
    simp only [fr_ins, Bool.and_eq_true] at h
    split at hb
    · split at hb
      · obtain ⟨t, e1, e2⟩ := Option.map_eq_some_iff.mp hb
        cases e2
        split
        · exact fr_to_ok h.1 e1
        · exact h.2
      · cases hb
    · cases hb
  · rename_i d lo hi offs
    simp only [fr_ins, Bool.and_eq_true] at h
    split at hb
    · split at hb
      · obtain ⟨t, e1, e2⟩ := Option.map_eq_some_iff.mp hb
        cases e2
        exact fr_to_ok h.1 e1
      · split at hb
        · rename_i off ho
          obtain ⟨t, e1, e2⟩ := Option.map_eq_some_iff.mp hb
          cases e2
          have hm : off ∈ offs.toList := by
            obtain ⟨q1, q2⟩ := Array.getElem?_eq_some_iff.mp ho
            rw [← q2]
            exact Array.mem_toList_iff.mpr (Array.getElem_mem q1)
          exact fr_to_ok (List.all_eq_true.mp h.2 off hm) e1
        · cases hb
    · cases hb
  · rename_i d ps
    simp only [fr_ins, Bool.and_eq_true] at h
    split at hb
    · split at hb
      · obtain ⟨t, e1, e2⟩ := Option.map_eq_some_iff.mp hb
        cases e2
        refine fr_to_ok ?_ e1
        exact fr_look (P := fun o => fr_to pcs pc o = true) h.1 _ (fun q hq => List.all_eq_true.mp h.2 q hq)
      · cases hb
    · cases hb
  · cases hb
theorem fr_nobr {ins : Instr} {len n pc : Nat} {lv lv' : mj_L} {st st' : List Value} (h : mj_loc ins len n lv st = some (lv', st')) (F : fr_F) (M : mj_M) (pcs : List Nat) : fr_ins F WF WA M pcs pc ins len = pcs.contains (pc + len) := by
  cases ins <;> first | rfl | cases h
theorem fr_noalu {ins : Instr} {pc : Nat} {st st' : List Value} (h : mj_alu ins st = some st') (F : fr_F) (M : mj_M) (pcs : List Nat) : fr_ins F WF WA M pcs pc ins 1 = pcs.contains (pc + 1) := by
  cases ins <;> first | rfl | cases h
theorem fr_call {F : fr_F} {k : mj_S → mj_O} (hk : fr_K F WF WA k) {M M' : mj_M} {pc n j : Nat} {lv : mj_L} {st : List Value} {h : mj_H} {r : Option Value} {h' : mj_H} (hpc : fr_has F M (pc + 3)) (hj : mj_meths[j]? = some M') (hF : F.any (fun q => q.1 == j && q.2.contains 0) = true) (hs : mj_call k k M pc lv st h M' n = some (r, h')) : fr_same WF WA h h' := by
  obtain ⟨-, r1, h1, e1, e2⟩ := mj_call_inv hs
  obtain ⟨q, q1, q2⟩ := List.any_eq_true.mp hF
  rw [Bool.and_eq_true] at q2
  have hq : q.1 = j := by simpa using q2.1
  have h0 : fr_has F M' 0 := ⟨q.1, q.2, q1, by rw [hq]; exact hj, q2.2⟩
  exact (hk _ _ _ _ _ _ _ h0 e1).tr (hk _ _ _ _ _ _ _ hpc e2)
set_option maxHeartbeats 4000000 in
theorem fr_step {F : fr_F} {k : mj_S → mj_O} (hF : fr_ok F WF WA = true) (hk : fr_K F WF WA k) : fr_K F WF WA (mj_step none k k) := by
  intro M pc lv st h r h' hh
  obtain ⟨j, pcs, hm, hj, hpc⟩ := hh
  have h1 := List.all_eq_true.mp hF _ hm
  dsimp only at h1
  rw [hj] at h1
  dsimp only at h1
  have h2 := List.all_eq_true.mp h1 pc (List.contains_iff_mem.mp hpc)
  have has : ∀ n, pcs.contains n = true → fr_has F M n := fun n hn => ⟨j, pcs, hm, hj, hn⟩
  unfold mj_step
  dsimp only
  cases hd : decode M.2.1 pc with
  | error e => intro hs; cases hs
  | ok q =>
    obtain ⟨ins, len⟩ := q
    rw [hd] at h2
    dsimp only at h2 ⊢
    have dfl : (match mj_br ins len pc st with
      | some (pc', st') => k (M, pc', lv, st', h)
      | none => match mj_loc ins len M.2.2.1 lv st with
        | some (lv', st') => k (M, pc + len, lv', st', h)
        | none => if len = 1 then match mj_alu ins st with
          | some st' => k (M, pc + 1, lv, st', h)
          | none => none
          else none) = some (r, h') → fr_same WF WA h h' := by
      split
      · rename_i pc' st' e
        intro hs
        exact hk _ _ _ _ _ _ _ (has _ (fr_br h2 e)) hs
      · split
        · rename_i lv' st' e
          intro hs
          rw [fr_nobr e] at h2
          exact hk _ _ _ _ _ _ _ (has _ h2) hs
        · split
          · rename_i hlen
            subst hlen
            split
            · rename_i st' e
              intro hs
              rw [fr_noalu e] at h2
              exact hk _ _ _ _ _ _ _ (has _ h2) hs
            · intro hs; cases hs
          · intro hs; cases hs
    cases ins <;> dsimp only
    case bipush =>
      intro hs
      split at hs
      · rename_i hl
        subst hl
        exact hk _ _ _ _ _ _ _ (has _ h2) hs
      · cases hs
    case sipush =>
      intro hs
      split at hs
      · rename_i hl
        subst hl
        exact hk _ _ _ _ _ _ _ (has _ h2) hs
      · cases hs
    case ldc =>
      intro hs
      split at hs
      · rename_i hl
        subst hl
        split at hs
        · exact hk _ _ _ _ _ _ _ (has _ h2) hs
        · cases hs
      · cases hs
    case ldc_w =>
      intro hs
      split at hs
      · rename_i hl
        subst hl
        split at hs
        · exact hk _ _ _ _ _ _ _ (has _ h2) hs
        · cases hs
      · cases hs
    case ldc2_w =>
      intro hs
      split at hs
      · rename_i hl
        subst hl
        split at hs
        · exact hk _ _ _ _ _ _ _ (has _ h2) hs
        · cases hs
      · cases hs
    case getfield =>
      intro hs
      split at hs
      · rename_i hl
        subst hl
        split at hs
        · exact hk _ _ _ _ _ _ _ (has _ h2) hs
        · cases hs
      · cases hs
    case iaload =>
      intro hs
      split at hs
      · rename_i hl
        subst hl
        split at hs
        · exact hk _ _ _ _ _ _ _ (has _ h2) hs
        · cases hs
      · cases hs
    case caload =>
      intro hs
      split at hs
      · rename_i hl
        subst hl
        split at hs
        · exact hk _ _ _ _ _ _ _ (has _ h2) hs
        · cases hs
      · cases hs
    case baload =>
      intro hs
      split at hs
      · rename_i hl
        subst hl
        split at hs
        · exact hk _ _ _ _ _ _ _ (has _ h2) hs
        · cases hs
      · cases hs
    case aaload =>
      intro hs
      split at hs
      · rename_i hl
        subst hl
        split at hs
        · exact hk _ _ _ _ _ _ _ (has _ h2) hs
        · cases hs
      · cases hs
    case arraylength =>
      intro hs
      split at hs
      · rename_i hl
        subst hl
        split at hs
        · exact hk _ _ _ _ _ _ _ (has _ h2) hs
        · cases hs
      · cases hs
    case putfield idx =>
      intro hs
      simp only [fr_ins, Bool.and_eq_true] at h2
      split at hs
      · rename_i hl
        subst hl
        split at hs
        · rename_i st' h1' e
          refine (fr_pf e (fun ix kd ci kk he => ?_)).tr (hk _ _ _ _ _ _ _ (has _ h2.1) hs)
          have := h2.2
          rw [he] at this
          exact this
        · cases hs
      · cases hs
    case iastore =>
      intro hs
      simp only [fr_ins, Bool.and_eq_true] at h2
      split at hs
      · rename_i hl
        subst hl
        split at hs
        · rename_i st' h1' e
          exact (fr_ast e h2.1).tr (hk _ _ _ _ _ _ _ (has _ h2.2) hs)
        · cases hs
      · cases hs
    case castore =>
      intro hs
      simp only [fr_ins, Bool.and_eq_true] at h2
      split at hs
      · rename_i hl
        subst hl
        split at hs
        · rename_i st' h1' e
          exact (fr_ast e h2.1).tr (hk _ _ _ _ _ _ _ (has _ h2.2) hs)
        · cases hs
      · cases hs
    case bastore =>
      intro hs
      simp only [fr_ins, Bool.and_eq_true] at h2
      split at hs
      · rename_i hl
        subst hl
        split at hs
        · rename_i st' h1' e
          exact (fr_ast e h2.1).tr (hk _ _ _ _ _ _ _ (has _ h2.2) hs)
        · cases hs
      · cases hs
    case new => cases h2
    case newarray => cases h2
    case anewarray => cases h2
    case aastore => cases h2
    case invokespecial => cases h2
    case ireturn =>
      intro hs
      split at hs
      · split at hs
        · split at hs
          · cases hs; exact fr_same.rf _
          · cases hs
        · cases hs
      · cases hs
    case return_ =>
      intro hs
      split at hs
      · split at hs
        · cases hs; exact fr_same.rf _
        · cases hs
      · cases hs
    case invokestatic idx =>
      intro hs
      simp only [fr_ins, Bool.and_eq_true] at h2
      split at hs
      · rename_i hl
        subst hl
        split at hs
        · rename_i ix kd jj z he
          rw [he] at h2
          dsimp only at h2
          split at hs
          · rename_i hkd
            rw [if_pos hkd] at h2
            split at hs
            · rename_i st' h1' e
              exact (fr_acopy e h2.2).tr (hk _ _ _ _ _ _ _ (has _ h2.1) hs)
            · cases hs
          · rename_i hkd
            rw [if_neg hkd] at h2
            split at hs
            · split at hs
              · exact hk _ _ _ _ _ _ _ (has _ h2.1) hs
              · cases hs
            · rename_i hkd2
              rw [if_neg hkd2] at h2
              split at hs
              · rename_i M' hj'
                split at hs
                · exact fr_call hk (has _ h2.1) hj' h2.2 hs
                · cases hs
              · cases hs
        · cases hs
      · cases hs
    case invokevirtual idx =>
      intro hs
      simp only [fr_ins, Bool.and_eq_true] at h2
      split at hs
      · rename_i hl
        subst hl
        split at hs
        · rename_i ix kd jj z he
          rw [he] at h2
          dsimp only at h2
          split at hs
          · rename_i M' hj'
            split at hs
            · split at hs
              · split at hs
                · exact fr_call hk (has _ h2.1) hj' h2.2 hs
                · cases hs
              · cases hs
            · cases hs
          · cases hs
        · cases hs
      · cases hs
    all_goals exact dfl
theorem fr_ex {F : fr_F} (hF : fr_ok F WF WA = true) (f : Nat) : fr_K F WF WA (mj_ex f) := by
  induction f with
  | zero => intro M pc lv st h r h' _ hs; cases hs
  | succ f ih => exact fr_step hF ih
/-- A METHOD OF A CLOSED SET writes no more than what is allowed -/
theorem fr_runs {F : fr_F} (hF : fr_ok F WF WA = true) {M : mj_M} {pc : Nat} {lv : mj_L} {st : List Value} {h h' : mj_H} {r : Option Value} (hh : fr_has F M pc) (h0 : mj_runs (M, pc, lv, st, h) r h') : fr_same WF WA h h' := by
  obtain ⟨f, e⟩ := h0
  exact fr_ex hF f _ _ _ _ _ _ _ hh e
/-- nothing written: the same cells -/
theorem fr_same.pure {h h' : mj_H} (hs : fr_same [] [] h h') (hl : h'.length = h.length) : h' = h := by
  apply List.ext_getElem? 
  intro a
  cases e : h[a]? with
  | none =>
    have := List.getElem?_eq_none_iff.mp e
    exact List.getElem?_eq_none_iff.mpr (by omega)
  | some c =>
    obtain ⟨t, xs⟩ := c
    obtain ⟨ys, e1, e2, e3⟩ := hs a t xs e
    rw [e1]
    have : ys = xs := List.ext_getElem? (fun k => e3 rfl k rfl)
    rw [this]
theorem fr_same.rd {h h' : mj_H} (hs : fr_same WF WA h h') {a k tag ln : Nat} {es : List ab_V} (hH : sy_H h) (hc : sy_cell a = some (tag, ln, es)) (hw : WA.contains tag = false) (hk : WF.contains (tag, k) = false) : sy_rd h' a k = sy_rd h a k := by
  obtain ⟨xs, g1, g2, g3⟩ := hH.cell hc
  obtain ⟨ys, e1, e2, e3⟩ := hs a tag xs g1
  unfold sy_rd
  rw [g1, e1]
  dsimp only
  unfold sy_at
  rw [e3 hw k hk]
end FR1
section SY3
variable {M M' : mj_M} {pc : Nat} {lv lv' : mj_L} {st vs rest : List Value} {h : mj_H} {Q Q' : Option Value → mj_H → Prop}
theorem sy_lto {z : Int} (h : -9223372036854775808 ≤ z ∧ z ≤ 9223372036854775807) : (Int64.ofInt z).toInt = z := by
  rw [Int64.toInt_ofInt]
  exact ab_lbmod h.1 h.2
/-- two longs compared, and the branch behind it -/
theorem sy_lc {c : ClassFile.Cond} {off a b : Int} {t : Nat} (hd : decode M.2.1 pc = .ok (.lcmp, 1)) (hd2 : decode M.2.1 (pc + 1) = .ok (.ifCond c off, 3)) (ht : mj_to (pc + 1) off = some t) (ra : -9223372036854775808 ≤ a ∧ a ≤ 9223372036854775807) (rb : -9223372036854775808 ≤ b ∧ b ≤ 9223372036854775807) (kT : ab_rel c a b → sy_wp (M, t, lv, st, h) Q) (kF : ¬ ab_rel c a b → sy_wp (M, pc + 1 + 3, lv, st, h) Q) : sy_wp (M, pc, lv, sy_l b :: sy_l a :: st, h) Q := by
  refine sy_st (S' := (M, pc + 1, lv, .int (lg_cmp (Int64.ofInt a) (Int64.ofInt b)) :: st, h)) hd (fun _ _ => rfl) ?_
  have hx := ab_lcmp_rel c (Int64.ofInt a) (Int64.ofInt b)
  rw [sy_lto ra, sy_lto rb] at hx
  by_cases hc : ab_rel c a b
  · exact sy_one (mj_one_ifT hd2 ht (hx.mpr hc)) (kT hc)
  · exact sy_one (mj_one_ifF hd2 ht (Bool.eq_false_iff.mpr (fun q => hc (hx.mp q)))) (kF hc)
theorem sy_fr {F : fr_F} {WF : List (Nat × Nat)} {WA : List Nat} (hF : fr_ok F WF WA = true) (hh : fr_has F M pc) (k : sy_wp (M, pc, lv, st, h) Q) : sy_wp (M, pc, lv, st, h) (fun r h' => Q r h' ∧ fr_same WF WA h h') := by
  obtain ⟨r, h', e, q⟩ := k
  exact ⟨r, h', e, q, fr_runs hF hh e⟩
theorem sy_pure {s : ab_M} {F : fr_F} (hs : ab_sum ab_ty ab_TT s) (hj : mj_meths[s.1]? = some M') (ha : ab_args ab_ty s.2.1 vs) (hH : sy_H h) (hF : fr_ok F [] [] = true) (hh : fr_has F M' 0) : sy_wp (M', 0, lv_args 0 vs, [], h) (fun r h' => h = h' ∧ ∃ out ∈ s.2.2, ab_ret ab_ty out.1 r ∧ ab_args ab_ty out.2 vs) := by
  refine (sy_fr hF hh (sy_sum hs hj ha hH)).mono (fun r h' q => ⟨(q.2.pure ?_).symm, q.1.2⟩)
  rw [q.1.1.1, hH.1]
theorem sy_sumf {s : ab_M} {F : fr_F} {WF : List (Nat × Nat)} {WA : List Nat} (hs : ab_sum ab_ty ab_TT s) (hj : mj_meths[s.1]? = some M') (ha : ab_args ab_ty s.2.1 vs) (hH : sy_H h) (hF : fr_ok F WF WA = true) (hh : fr_has F M' 0) : sy_wp (M', 0, lv_args 0 vs, [], h) (fun r h' => sy_H h' ∧ fr_same WF WA h h' ∧ ∃ out ∈ s.2.2, ab_ret ab_ty out.1 r ∧ ab_args ab_ty out.2 vs) :=
  (sy_fr hF hh (sy_sum hs hj ha hH)).mono (fun r h' q => ⟨q.1.1, q.2, q.1.2⟩)
end SY3
end
section
theorem mj_d_126_0 : decode mj_m_126.2.1 0 = .ok (.lload_n 0, 1) := by decide +kernel
theorem mj_d_126_1 : decode mj_m_126.2.1 1 = .ok (.lload_n 2, 1) := by decide +kernel
theorem mj_d_126_2 : decode mj_m_126.2.1 2 = .ok (.lcmp, 1) := by decide +kernel
theorem mj_d_126_3 : decode mj_m_126.2.1 3 = .ok (.ifCond .lt 14, 3) := by decide +kernel
theorem mj_d_126_6 : decode mj_m_126.2.1 6 = .ok (.lload_n 0, 1) := by decide +kernel
theorem mj_d_126_7 : decode mj_m_126.2.1 7 = .ok (.lload 4, 2) := by decide +kernel
theorem mj_d_126_9 : decode mj_m_126.2.1 9 = .ok (.lcmp, 1) := by decide +kernel
theorem mj_d_126_10 : decode mj_m_126.2.1 10 = .ok (.ifCond .gt 7, 3) := by decide +kernel
theorem mj_d_126_13 : decode mj_m_126.2.1 13 = .ok (.iconst 1, 1) := by decide +kernel
theorem mj_d_126_14 : decode mj_m_126.2.1 14 = .ok (.goto 4, 3) := by decide +kernel
theorem mj_d_126_17 : decode mj_m_126.2.1 17 = .ok (.iconst 0, 1) := by decide +kernel
theorem mj_d_126_18 : decode mj_m_126.2.1 18 = .ok (.ireturn, 1) := by decide +kernel
theorem mj_d_141_0 : decode mj_m_141.2.1 0 = .ok (.iload_n 1, 1) := by decide +kernel
theorem mj_d_141_1 : decode mj_m_141.2.1 1 = .ok (.i2l, 1) := by decide +kernel
theorem mj_d_141_2 : decode mj_m_141.2.1 2 = .ok (.lconst 0, 1) := by decide +kernel
theorem mj_d_141_3 : decode mj_m_141.2.1 3 = .ok (.aload_n 0, 1) := by decide +kernel
theorem mj_d_141_4 : decode mj_m_141.2.1 4 = .ok (.getfield 76, 3) := by decide +kernel
theorem mj_d_141_7 : decode mj_m_141.2.1 7 = .ok (.iconst 1, 1) := by decide +kernel
theorem mj_d_141_8 : decode mj_m_141.2.1 8 = .ok (.isub, 1) := by decide +kernel
theorem mj_d_141_9 : decode mj_m_141.2.1 9 = .ok (.i2l, 1) := by decide +kernel
theorem mj_d_141_10 : decode mj_m_141.2.1 10 = .ok (.invokestatic 79, 3) := by decide +kernel
theorem mj_d_141_13 : decode mj_m_141.2.1 13 = .ok (.ireturn, 1) := by decide +kernel
theorem mj_d_146_0 : decode mj_m_146.2.1 0 = .ok (.iload_n 1, 1) := by decide +kernel
theorem mj_d_146_1 : decode mj_m_146.2.1 1 = .ok (.i2l, 1) := by decide +kernel
theorem mj_d_146_2 : decode mj_m_146.2.1 2 = .ok (.lconst 0, 1) := by decide +kernel
theorem mj_d_146_3 : decode mj_m_146.2.1 3 = .ok (.aload_n 0, 1) := by decide +kernel
theorem mj_d_146_4 : decode mj_m_146.2.1 4 = .ok (.getfield 83, 3) := by decide +kernel
theorem mj_d_146_7 : decode mj_m_146.2.1 7 = .ok (.iconst 1, 1) := by decide +kernel
theorem mj_d_146_8 : decode mj_m_146.2.1 8 = .ok (.isub, 1) := by decide +kernel
theorem mj_d_146_9 : decode mj_m_146.2.1 9 = .ok (.i2l, 1) := by decide +kernel
theorem mj_d_146_10 : decode mj_m_146.2.1 10 = .ok (.invokestatic 79, 3) := by decide +kernel
theorem mj_d_146_13 : decode mj_m_146.2.1 13 = .ok (.ireturn, 1) := by decide +kernel
set_option maxRecDepth 100000 in
theorem sy_in {h : mj_H} (hH : sy_H h) {a b c : Int} (ra : -2147483648 ≤ a ∧ a ≤ 2147483647) (rb : -2147483648 ≤ b ∧ b ≤ 2147483647) (rc : -2147483648 ≤ c ∧ c ≤ 2147483647) : sy_wp (mj_m_126, 0, [(0, sy_l a), (2, sy_l b), (4, sy_l c)], [], h) (fun r h' => h = h' ∧ ((b ≤ a ∧ a ≤ c ∧ r = some (sy_i 1)) ∨ (¬ (b ≤ a ∧ a ≤ c) ∧ r = some (sy_i 0)))) := by
  refine sy_st (S' := (mj_m_126, 1, [(0, sy_l a), (2, sy_l b), (4, sy_l c)], [sy_l a], h)) mj_d_126_0 (fun _ _ => rfl) ?_
  refine sy_st (S' := (mj_m_126, 2, [(0, sy_l a), (2, sy_l b), (4, sy_l c)], [sy_l b, sy_l a], h)) mj_d_126_1 (fun _ _ => rfl) ?_
  refine sy_lc mj_d_126_2 mj_d_126_3 rfl ⟨by omega, by omega⟩ ⟨by omega, by omega⟩ (fun (c1 : a < b) => ?_) (fun (c1 : ¬ (a < b)) => ?_)
  · skip
    refine sy_st (S' := (mj_m_126, 18, [(0, sy_l a), (2, sy_l b), (4, sy_l c)], [sy_i 0], h)) mj_d_126_17 (fun _ _ => rfl) ?_
    exact sy_retb mj_d_126_18 rfl ⟨by omega, by omega⟩ ⟨rfl, by first | exact Or.inl ⟨by omega, by omega, rfl⟩ | exact Or.inr ⟨by omega, rfl⟩⟩
  · skip
    refine sy_st (S' := (mj_m_126, 7, [(0, sy_l a), (2, sy_l b), (4, sy_l c)], [sy_l a], h)) mj_d_126_6 (fun _ _ => rfl) ?_
    refine sy_st (S' := (mj_m_126, 9, [(0, sy_l a), (2, sy_l b), (4, sy_l c)], [sy_l c, sy_l a], h)) mj_d_126_7 (fun _ _ => rfl) ?_
    refine sy_lc mj_d_126_9 mj_d_126_10 rfl ⟨by omega, by omega⟩ ⟨by omega, by omega⟩ (fun (c2 : c < a) => ?_) (fun (c2 : ¬ (c < a)) => ?_)
    · skip
      refine sy_st (S' := (mj_m_126, 18, [(0, sy_l a), (2, sy_l b), (4, sy_l c)], [sy_i 0], h)) mj_d_126_17 (fun _ _ => rfl) ?_
      exact sy_retb mj_d_126_18 rfl ⟨by omega, by omega⟩ ⟨rfl, by first | exact Or.inl ⟨by omega, by omega, rfl⟩ | exact Or.inr ⟨by omega, rfl⟩⟩
    · skip
      refine sy_st (S' := (mj_m_126, 14, [(0, sy_l a), (2, sy_l b), (4, sy_l c)], [sy_i 1], h)) mj_d_126_13 (fun _ _ => rfl) ?_
      refine sy_st (S' := (mj_m_126, 18, [(0, sy_l a), (2, sy_l b), (4, sy_l c)], [sy_i 1], h)) mj_d_126_14 (fun _ _ => rfl) ?_
      exact sy_retb mj_d_126_18 rfl ⟨by omega, by omega⟩ ⟨rfl, by first | exact Or.inl ⟨by omega, by omega, rfl⟩ | exact Or.inr ⟨by omega, rfl⟩⟩
set_option maxRecDepth 100000 in
theorem sy_RisHouse {h : mj_H} (hH : sy_H h) {a : Int} (ra : -2147483648 ≤ a ∧ a ≤ 2147483647) : sy_wp (mj_m_141, 0, [(0, .ref 234), (1, sy_i a)], [], h) (fun r h' => h = h' ∧ ((0 ≤ a ∧ a ≤ sy_rd h 234 6 - 1 ∧ r = some (sy_i 1)) ∨ (¬ (0 ≤ a ∧ a ≤ sy_rd h 234 6 - 1) ∧ r = some (sy_i 0)))) := by
  refine sy_st (S' := (mj_m_141, 1, [(0, .ref 234), (1, sy_i a)], [sy_i a], h)) mj_d_141_0 (fun _ _ => rfl) ?_
  refine sy_i2l mj_d_141_1 ⟨by omega, by omega⟩ ?_
  refine sy_st (S' := (mj_m_141, 3, [(0, .ref 234), (1, sy_i a)], [sy_l 0, sy_l a], h)) mj_d_141_2 (fun _ _ => rfl) ?_
  refine sy_st (S' := (mj_m_141, 4, [(0, .ref 234), (1, sy_i a)], [.ref 234, sy_l 0, sy_l a], h)) mj_d_141_3 (fun _ _ => rfl) ?_
  refine sy_gf mj_d_141_4 rfl rfl (by decide) rfl hH ?_
  intro x1 ex1 bx1 tx1
  refine sy_st (S' := (mj_m_141, 8, [(0, .ref 234), (1, sy_i a)], [sy_i 1, sy_i x1, sy_l 0, sy_l a], h)) mj_d_141_7 (fun _ _ => rfl) ?_
  refine sy_sub mj_d_141_8 ?_
  refine sy_i2l mj_d_141_9 ⟨by omega, by omega⟩ ?_
  refine sy_cs (M' := mj_m_126) (vs := [sy_l a, sy_l 0, sy_l (x1 - 1)]) (rest := []) mj_d_141_10 rfl rfl rfl rfl ⟨Nat.le_of_ble_eq_true rfl, Nat.le_of_ble_eq_true rfl, Nat.le_of_ble_eq_true rfl, Nat.le_of_ble_eq_true rfl, Nat.le_of_ble_eq_true rfl⟩ (sy_in hH ⟨by omega, by omega⟩ ⟨by omega, by omega⟩ ⟨by omega, by omega⟩) ?_
  rintro _ _ ⟨rfl, c3⟩
  obtain ⟨r2, rfl, kr2, c3⟩ : ∃ z : Int, _ = some (sy_i z) ∧ (0 ≤ z ∧ z ≤ 1) ∧ ((z = 1 ∧ 0 ≤ a ∧ a ≤ x1 - 1) ∨ (z = 0 ∧ ¬ (0 ≤ a ∧ a ≤ x1 - 1))) := by rcases c3 with ⟨p, q, e⟩ | ⟨p, e⟩; exact ⟨1, e, by omega, Or.inl ⟨rfl, p, q⟩⟩; exact ⟨0, e, by omega, Or.inr ⟨rfl, p⟩⟩
  show sy_wp (mj_m_141, 13, [(0, .ref 234), (1, sy_i a)], [sy_i r2], h) _
  refine sy_retb mj_d_141_13 rfl ⟨by omega, by omega⟩ ⟨rfl, ?_⟩
  rcases c3 with ⟨q, p⟩ | ⟨q, p⟩
  · exact Or.inl ⟨by omega, by omega, by rw [q]⟩
  · exact Or.inr ⟨by omega, by rw [q]⟩
set_option maxRecDepth 100000 in
theorem sy_RisSweep {h : mj_H} (hH : sy_H h) {a : Int} (ra : -2147483648 ≤ a ∧ a ≤ 2147483647) : sy_wp (mj_m_146, 0, [(0, .ref 234), (1, sy_i a)], [], h) (fun r h' => h = h' ∧ ((0 ≤ a ∧ a ≤ sy_rd h 234 7 - 1 ∧ r = some (sy_i 1)) ∨ (¬ (0 ≤ a ∧ a ≤ sy_rd h 234 7 - 1) ∧ r = some (sy_i 0)))) := by
  refine sy_st (S' := (mj_m_146, 1, [(0, .ref 234), (1, sy_i a)], [sy_i a], h)) mj_d_146_0 (fun _ _ => rfl) ?_
  refine sy_i2l mj_d_146_1 ⟨by omega, by omega⟩ ?_
  refine sy_st (S' := (mj_m_146, 3, [(0, .ref 234), (1, sy_i a)], [sy_l 0, sy_l a], h)) mj_d_146_2 (fun _ _ => rfl) ?_
  refine sy_st (S' := (mj_m_146, 4, [(0, .ref 234), (1, sy_i a)], [.ref 234, sy_l 0, sy_l a], h)) mj_d_146_3 (fun _ _ => rfl) ?_
  refine sy_gf mj_d_146_4 rfl rfl (by decide) rfl hH ?_
  intro x1 ex1 bx1 tx1
  refine sy_st (S' := (mj_m_146, 8, [(0, .ref 234), (1, sy_i a)], [sy_i 1, sy_i x1, sy_l 0, sy_l a], h)) mj_d_146_7 (fun _ _ => rfl) ?_
  refine sy_sub mj_d_146_8 ?_
  refine sy_i2l mj_d_146_9 ⟨by omega, by omega⟩ ?_
  refine sy_cs (M' := mj_m_126) (vs := [sy_l a, sy_l 0, sy_l (x1 - 1)]) (rest := []) mj_d_146_10 rfl rfl rfl rfl ⟨Nat.le_of_ble_eq_true rfl, Nat.le_of_ble_eq_true rfl, Nat.le_of_ble_eq_true rfl, Nat.le_of_ble_eq_true rfl, Nat.le_of_ble_eq_true rfl⟩ (sy_in hH ⟨by omega, by omega⟩ ⟨by omega, by omega⟩ ⟨by omega, by omega⟩) ?_
  rintro _ _ ⟨rfl, c3⟩
  obtain ⟨r2, rfl, kr2, c3⟩ : ∃ z : Int, _ = some (sy_i z) ∧ (0 ≤ z ∧ z ≤ 1) ∧ ((z = 1 ∧ 0 ≤ a ∧ a ≤ x1 - 1) ∨ (z = 0 ∧ ¬ (0 ≤ a ∧ a ≤ x1 - 1))) := by rcases c3 with ⟨p, q, e⟩ | ⟨p, e⟩; exact ⟨1, e, by omega, Or.inl ⟨rfl, p, q⟩⟩; exact ⟨0, e, by omega, Or.inr ⟨rfl, p⟩⟩
  show sy_wp (mj_m_146, 13, [(0, .ref 234), (1, sy_i a)], [sy_i r2], h) _
  refine sy_retb mj_d_146_13 rfl ⟨by omega, by omega⟩ ⟨rfl, ?_⟩
  rcases c3 with ⟨q, p⟩ | ⟨q, p⟩
  · exact Or.inl ⟨by omega, by omega, by rw [q]⟩
  · exact Or.inr ⟨by omega, by rw [q]⟩
end
section
/-! MORE LOCALS change no run; more rows for walks -/
def sy_les (lv lv' : mj_L) : Prop := ∀ i v, mj_get lv i = some v → mj_get lv' i = some v
def sy_nd (lv : mj_L) : Prop := (lv.map (fun q => q.1)).Nodup
theorem mj_get_nd : ∀ {lv : mj_L} {i : Nat} {v : Value}, sy_nd lv → (i, v) ∈ lv → mj_get lv i = some v := by
  intro lv
  induction lv with
  | nil => intro i v _ h; cases h
  | cons q lv ih =>
    intro i v hn h
    obtain ⟨a, b⟩ := q
    unfold sy_nd at hn
    rw [List.map_cons, List.nodup_cons] at hn
    rcases List.mem_cons.mp h with e | h
    · cases e; exact mj_get_self
    · have hne : i ≠ a := fun e => hn.1 (List.mem_map.mpr ⟨(i, v), h, e⟩)
      rw [mj_get_cons_ne hne]
      exact ih hn.2 h
theorem sy_nd_filter {lv : mj_L} (P : Nat × Value → Bool) (h : sy_nd lv) : sy_nd (lv.filter P) := by
  unfold sy_nd at h ⊢
  exact List.Nodup.sublist (List.Sublist.map _ List.filter_sublist) h
theorem sy_sub_put {lv lv' : mj_L} {i : Nat} {v : Value} (P : Nat × Value → Bool) (hn : sy_nd lv) (hs : sy_les lv lv') : sy_les ((i, v) :: lv.filter P) ((i, v) :: lv'.filter P) := by
  intro j w h
  by_cases e : j = i
  · subst e
    rw [mj_get_self] at h ⊢
    exact h
  · rw [mj_get_cons_ne e] at h ⊢
    have hm := List.mem_filter.mp (mj_get_mem h)
    exact mj_find_filter hm.2 lv' (hs j w (mj_get_nd hn hm.1))
theorem sy_nd_put {lv : mj_L} {i : Nat} {v : Value} (P : Nat × Value → Bool) (hP : ∀ q, P q = true → q.1 ≠ i) (hn : sy_nd lv) : sy_nd ((i, v) :: lv.filter P) := by
  unfold sy_nd
  rw [List.map_cons, List.nodup_cons]
  refine ⟨fun h => ?_, sy_nd_filter P hn⟩
  obtain ⟨q, hq, e⟩ := List.mem_map.mp h
  exact hP q (List.mem_filter.mp hq).2 e
theorem sy_sub_put1 {lv lv' : mj_L} {i : Nat} {v : Value} (hn : sy_nd lv) (hs : sy_les lv lv') : sy_nd (mj_put1 lv i v) ∧ sy_les (mj_put1 lv i v) (mj_put1 lv' i v) :=
  ⟨sy_nd_put _ (fun q hq e => by simp [e] at hq) hn, sy_sub_put _ hn hs⟩
theorem sy_sub_put2 {lv lv' : mj_L} {i : Nat} {v : Value} (hn : sy_nd lv) (hs : sy_les lv lv') : sy_nd (mj_put2 lv i v) ∧ sy_les (mj_put2 lv i v) (mj_put2 lv' i v) :=
  ⟨sy_nd_put _ (fun q hq e => by simp [e] at hq) hn, sy_sub_put _ hn hs⟩
theorem sy_lo1_sub {lv lv' lv1 : mj_L} {i n len want : Nat} {st st1 : List Value} {ok : Value → Bool} (hn : sy_nd lv) (hs : sy_les lv lv') (h : mj_lo1 i n len want lv st ok = some (lv1, st1)) : ∃ lv1', mj_lo1 i n len want lv' st ok = some (lv1', st1) ∧ sy_nd lv1 ∧ sy_les lv1 lv1' := by
  unfold mj_lo1 at h ⊢
  split at h
  · rename_i hl
    rw [if_pos hl]
    split at h
    · rename_i v e
      rw [hs _ _ e]
      dsimp only
      split at h
      · rename_i ho
        cases h
        rw [if_pos ho]
        exact ⟨lv', rfl, hn, hs⟩
      · cases h
    · cases h
  · cases h
theorem sy_st1_sub {lv lv' lv1 : mj_L} {i n len want : Nat} {st st1 : List Value} {ok : Value → Bool} (hn : sy_nd lv) (hs : sy_les lv lv') (h : mj_st1 i n len want lv st ok = some (lv1, st1)) : ∃ lv1', mj_st1 i n len want lv' st ok = some (lv1', st1) ∧ sy_nd lv1 ∧ sy_les lv1 lv1' := by
  unfold mj_st1 at h ⊢
  split at h
  · rename_i hl
    rw [if_pos hl]
    split at h
    · split at h
      · rename_i ho
        cases h
        rw [if_pos ho]
        exact ⟨_, rfl, sy_sub_put1 hn hs⟩
      · cases h
    · cases h
  · cases h
theorem sy_loc_sub {lv lv' lv1 : mj_L} {ins : Instr} {len n : Nat} {st st1 : List Value} (hn : sy_nd lv) (hs : sy_les lv lv') (h : mj_loc ins len n lv st = some (lv1, st1)) : ∃ lv1', mj_loc ins len n lv' st = some (lv1', st1) ∧ sy_nd lv1 ∧ sy_les lv1 lv1' := by
  unfold mj_loc at h ⊢
  split at h
  all_goals first
    | exact sy_lo1_sub hn hs h
    | exact sy_st1_sub hn hs h
    | skip
  · split at h
    · rename_i hl
      rw [if_pos hl]
      split at h
      · cases h
        exact ⟨_, rfl, sy_sub_put2 hn hs⟩
      · cases h
    · cases h
  · split at h
    · rename_i hl
      rw [if_pos hl]
      split at h
      · rename_i x e
        cases h
        rw [hs _ _ e]
        exact ⟨_, rfl, sy_sub_put1 hn hs⟩
      · cases h
    · cases h
  · cases h
theorem sy_loc_alu {ins : Instr} {len n : Nat} {lv : mj_L} {st : List Value} {q : mj_L × List Value} (h : mj_loc ins len n lv st = some q) : ∀ st', mj_alu ins st' = none := by
  intro st'
  cases ins <;> first | rfl | (cases h; done)
def sy_LV (k : mj_S → mj_O) : Prop := ∀ (M : mj_M) (pc : Nat) (lv lv' : mj_L) (st : List Value) (h : mj_H) (x : Option Value × mj_H), sy_nd lv → sy_les lv lv' → k (M, pc, lv, st, h) = some x → k (M, pc, lv', st, h) = some x
theorem sy_call_lv {kc k : mj_S → mj_O} (hk : sy_LV k) {M M' : mj_M} {pc n : Nat} {lv lv' : mj_L} {st : List Value} {h : mj_H} {x : Option Value × mj_H} (hn : sy_nd lv) (hs : sy_les lv lv') (hc : mj_call kc k M pc lv st h M' n = some x) : mj_call kc k M pc lv' st h M' n = some x := by
  unfold mj_call at hc ⊢
  split at hc
  · rename_i hh
    rw [if_pos hh]
    split at hc
    · exact hk _ _ _ _ _ _ _ hn hs hc
    · cases hc
  · cases hc
theorem sy_dfl_lv {k : mj_S → mj_O} (hk : sy_LV k) {M : mj_M} {pc len : Nat} {ins : Instr} {lv lv' : mj_L} {st : List Value} {h : mj_H} {x : Option Value × mj_H} (hn : sy_nd lv) (hs : sy_les lv lv') :
    (match mj_br ins len pc st with
        | some (pc', st') => k (M, pc', lv, st', h)
        | none => match mj_loc ins len M.2.2.1 lv st with
          | some (lv', st') => k (M, pc + len, lv', st', h)
          | none => if len = 1 then match mj_alu ins st with
            | some st' => k (M, pc + 1, lv, st', h)
            | none => none
            else none) = some x → (match mj_br ins len pc st with
        | some (pc', st') => k (M, pc', lv', st', h)
        | none => match mj_loc ins len M.2.2.1 lv' st with
          | some (lv', st') => k (M, pc + len, lv', st', h)
          | none => if len = 1 then match mj_alu ins st with
            | some st' => k (M, pc + 1, lv', st', h)
            | none => none
            else none) = some x := by
  intro hc
  cases e : mj_br ins len pc st with
  | some q => rw [e] at hc; exact hk _ _ _ _ _ _ _ hn hs hc
  | none =>
    rw [e] at hc
    dsimp only at hc ⊢
    cases e2 : mj_loc ins len M.2.2.1 lv st with
    | some q =>
      rw [e2] at hc
      obtain ⟨l1, s1⟩ := q
      obtain ⟨l2, g1, g2, g3⟩ := sy_loc_sub hn hs e2
      rw [g1]
      exact hk _ _ _ _ _ _ _ g2 g3 hc
    | none =>
      rw [e2] at hc
      dsimp only at hc
      split at hc
      · rename_i hl
        split at hc
        · rename_i st' e3
          cases e4 : mj_loc ins len M.2.2.1 lv' st with
          | some q =>
            rw [sy_loc_alu e4] at e3
            cases e3
          | none =>
            dsimp only
            rw [if_pos hl]
            exact hk _ _ _ _ _ _ _ hn hs hc
        · cases hc
      · cases hc
set_option maxHeartbeats 4000000 in
theorem sy_step_lv {kc k : mj_S → mj_O} (hk : sy_LV k) : sy_LV (mj_step none kc k) := by
  intro M pc lv lv' st h x hn hs
  unfold mj_step
  dsimp only
  cases hd : decode M.2.1 pc with
  | error e => intro hc; cases hc
  | ok q =>
    obtain ⟨ins, len⟩ := q
    dsimp only
    have dfl := sy_dfl_lv (k := k) hk (M := M) (pc := pc) (len := len) (ins := ins) (h := h) (st := st) (x := x) hn hs
    cases ins <;> dsimp only
    all_goals first
      | exact dfl
      | skip
    all_goals clear dfl
    all_goals repeat' first
      | exact fun hc => hk _ _ _ _ _ _ _ hn hs hc
      | exact fun hc => hc
      | exact sy_call_lv hk hn hs
      | split
      | (intro hc; cases hc; done)
theorem sy_ex_lv (f : Nat) : sy_LV (mj_ex f) := by
  induction f with
  | zero => intro M pc lv lv' st h x _ _ hs; cases hs
  | succ f ih => exact sy_step_lv ih
def sy_sl (lv' : mj_L) : mj_L → Prop
  | [] => True
  | (i, v) :: r => mj_get lv' i = some v ∧ sy_sl lv' r
theorem sy_sl_ok {lv' : mj_L} : ∀ lv : mj_L, sy_sl lv' lv → ∀ i v, (i, v) ∈ lv → mj_get lv' i = some v := by
  intro lv
  induction lv with
  | nil => intro _ i v h; cases h
  | cons q lv ih =>
    intro h i v hm
    obtain ⟨a, b⟩ := q
    rcases List.mem_cons.mp hm with e | hm
    · cases e; exact h.1
    · exact ih h.2 i v hm
def sy_ndk : List Nat → Bool
  | [] => true
  | i :: r => !(r.any (fun j => j == i)) && sy_ndk r
theorem sy_ndk_ok : ∀ l : List Nat, sy_ndk l = true → l.Nodup := by
  intro l
  induction l with
  | nil => intro _; exact List.nodup_nil
  | cons i r ih =>
    intro h
    simp only [sy_ndk, Bool.and_eq_true] at h
    refine List.nodup_cons.mpr ⟨fun hm => ?_, ih h.2⟩
    have h1 := h.1
    have : r.any (fun j => j == i) = true := List.any_eq_true.mpr ⟨i, hm, by simp⟩
    rw [this] at h1
    cases h1
/-- the same run from locals that say as much -/
theorem sy_lv {M : mj_M} {pc : Nat} {lv lv' : mj_L} {st : List Value} {h : mj_H} {Q : Option Value → mj_H → Prop} (hn : sy_ndk (lv.map (fun q => q.1)) = true) (hs : sy_sl lv' lv) (k : sy_wp (M, pc, lv, st, h) Q) : sy_wp (M, pc, lv', st, h) Q := by
  obtain ⟨r, h', ⟨f, e⟩, q⟩ := k
  exact ⟨r, h', ⟨f, sy_ex_lv f _ _ _ _ _ _ _ (sy_ndk_ok _ hn) (fun i v hv => sy_sl_ok lv hs i v (mj_get_mem hv)) e⟩, q⟩
end
section
/-! MORE ROWS for walks: writes as reads see them, references by place, copies of arrays, switches, longs -/
theorem sy_tyid : ∀ b, b < 254 → ab_ty[b]? = some b := by decide +kernel
theorem sy_tylen : ab_ty.length = 254 := by decide +kernel
theorem sy_ty_eq {a t : Nat} (h : ab_ty[a]? = some t) : a = t := by
  have hl : a < ab_ty.length := (List.getElem?_eq_some_iff.mp h).1
  rw [sy_tylen] at hl
  rw [sy_tyid a hl] at h
  exact Option.some.inj h
theorem sy_ref1 {t u : Int} {o : Nat} {v : Value} (h : ab_m ab_ty (2, t, u, o) v) : v = .ref t.toNat := by
  obtain ⟨b, rfl, hb⟩ := ab_m_2 h
  rw [sy_ty_eq hb]
def sy_w (z : Int) : Int := (Int32.ofInt z).toInt
theorem sy_iw (z : Int) : sy_i (sy_w z) = sy_i z := sy_of _
theorem sy_w_rng (z : Int) : -2147483648 ≤ sy_w z ∧ sy_w z ≤ 2147483647 := sy_lo
theorem sy_w_id {z : Int} (h : -2147483648 ≤ z ∧ z ≤ 2147483647) : sy_w z = z := sy_toInt h
theorem sy_rdw {h : mj_H} {a tag len k : Nat} {es : List ab_V} {z : Int} (hH : sy_H h) (hc : sy_cell a = some (tag, len, es)) (hk : k < len) (hr : -2147483648 ≤ z ∧ z ≤ 2147483647) (b l : Nat) : sy_rd (sy_wr h a k z) b l = if b = a ∧ l = k then z else sy_rd h b l := by
  by_cases e : b = a ∧ l = k
  · rw [if_pos e, e.1, e.2]
    exact sy_rd_same hH hc hk hr
  · rw [if_neg e]
    exact sy_rd_ne (by omega)
section SY4
variable {M M' : mj_M} {pc : Nat} {lv lv' : mj_L} {st vs rest : List Value} {h : mj_H} {Q Q' : Option Value → mj_H → Prop} {ins : Instr} {len : Nat} {S S' : mj_S}
theorem sy_gr2 {idx ix kd ci k a ln b : Nat} {es : List ab_V} {t u : Int} {o : Nat} (hd : decode M.2.1 pc = .ok (.getfield idx, 3)) (he : mj_ent M idx = some (ix, kd, ci, k)) (hc : sy_cell a = some (ci, ln, es)) (hk : kd ≤ 1 ∧ ci < 11 ∧ k < ln) (hel : ab_el es k = (2, t, u, o)) (hb : t.toNat = b) (hH : sy_H h) (kk : sy_wp (M, pc + 3, lv, .ref b :: st, h) Q) : sy_wp (M, pc, lv, .ref a :: st, h) Q := by
  obtain ⟨xs, g1, g2, g3⟩ := hH.cell hc
  have hv : xs[k]? = some (xs[k]'(by omega)) := List.getElem?_eq_getElem (by omega)
  have g4 := g3 k _ hv
  rw [hel] at g4
  have g5 := sy_ref1 g4
  rw [g5, hb] at hv
  refine sy_st (S' := (M, pc + 3, lv, .ref b :: st, h)) hd (fun kc k => ?_) kk
  unfold mj_do
  dsimp only
  rw [if_pos rfl]
  unfold mj_gf
  rw [he]
  dsimp only
  rw [if_pos hk.1, g1]
  dsimp only
  rw [if_pos ⟨rfl, hk.2.1⟩, hv]
theorem sy_aa {a ln b : Nat} {es : List ab_V} {z t u : Int} {o : Nat} (hd : decode M.2.1 pc = .ok (.aaload, 1)) (hc : sy_cell a = some (103, ln, es)) (hln : ln ≤ 2147483647) (h1 : 0 ≤ z) (h2 : z < ln) (hel : ab_el es z.toNat = (2, t, u, o)) (hb : t.toNat = b) (hH : sy_H h) (kk : sy_wp (M, pc + 1, lv, .ref b :: st, h) Q) : sy_wp (M, pc, lv, sy_i z :: .ref a :: st, h) Q := by
  obtain ⟨xs, g1, g2, g3⟩ := hH.cell hc
  obtain ⟨i1, i2⟩ := sy_idx h1 h2 hln
  have hv : xs[z.toNat]? = some (xs[z.toNat]'(by omega)) := List.getElem?_eq_getElem (by omega)
  have g4 := g3 _ _ hv
  rw [hel] at g4
  have g5 := sy_ref1 g4
  rw [g5, hb] at hv
  refine sy_st (S' := (M, pc + 1, lv, .ref b :: st, h)) hd (fun kc k => ?_) kk
  unfold mj_do
  dsimp only
  rw [if_pos rfl]
  unfold mj_ald sy_i
  dsimp only
  rw [g1]
  dsimp only
  rw [if_pos ⟨rfl, i1⟩, i2, hv]
theorem sy_pf2 {idx ix kd ci k a ln : Nat} {es : List ab_V} {lo hi z : Int} {o : Nat} (hd : decode M.2.1 pc = .ok (.putfield idx, 3)) (he : mj_ent M idx = some (ix, kd, ci, k)) (hc : sy_cell a = some (ci, ln, es)) (hk : kd ≤ 1 ∧ ci < 11 ∧ k < ln ∧ mj_fin ci k = false) (ht : mj_ty ci k = .int ∨ (mj_ty ci k = .boolean ∧ 0 ≤ z ∧ z ≤ 1)) (hel : ab_el es k = (0, lo, hi, o)) (hH : sy_H h) (h1 : lo ≤ z) (h2 : z ≤ hi) (hr : -2147483648 ≤ z ∧ z ≤ 2147483647) (kk : ∀ h', sy_H h' → (∀ b l, sy_rd h' b l = if b = a ∧ l = k then z else sy_rd h b l) → sy_wp (M, pc + 3, lv, st, h') Q) : sy_wp (M, pc, lv, sy_i z :: .ref a :: st, h) Q :=
  sy_pf hd he hc hk ht hel hH h1 h2 hr (fun h' e th => kk h' th (by rw [e]; exact sy_rdw hH hc hk.2.2.1 hr))
theorem sy_pfw {idx ix kd ci k a ln : Nat} {es : List ab_V} {z : Int} {o : Nat} (hd : decode M.2.1 pc = .ok (.putfield idx, 3)) (he : mj_ent M idx = some (ix, kd, ci, k)) (hc : sy_cell a = some (ci, ln, es)) (hk : kd ≤ 1 ∧ ci < 11 ∧ k < ln ∧ mj_fin ci k = false) (ht : mj_ty ci k = .int) (hel : ab_el es k = (0, -2147483648, 2147483647, o)) (hH : sy_H h) (kk : ∀ h', sy_H h' → (∀ b l, sy_rd h' b l = if b = a ∧ l = k then sy_w z else sy_rd h b l) → sy_wp (M, pc + 3, lv, st, h') Q) : sy_wp (M, pc, lv, sy_i z :: .ref a :: st, h) Q := by
  rw [← sy_iw z]
  exact sy_pf2 hd he hc hk (Or.inl ht) hel hH (sy_w_rng z).1 (sy_w_rng z).2 (sy_w_rng z) kk
theorem sy_ias2 {a ln : Nat} {es : List ab_V} {lo hi z v : Int} {o : Nat} (hd : decode M.2.1 pc = .ok (.iastore, 1)) (hc : sy_cell a = some (100, ln, es)) (hln : ln ≤ 2147483647) (h1 : 0 ≤ z) (h2 : z < ln) (hel : ab_el es z.toNat = (0, lo, hi, o)) (hH : sy_H h) (v1 : lo ≤ v) (v2 : v ≤ hi) (hr : -2147483648 ≤ v ∧ v ≤ 2147483647) (kk : ∀ h', sy_H h' → (∀ b l, sy_rd h' b l = if b = a ∧ l = z.toNat then v else sy_rd h b l) → sy_wp (M, pc + 1, lv, st, h') Q) : sy_wp (M, pc, lv, sy_i v :: sy_i z :: .ref a :: st, h) Q :=
  sy_ias hd hc hln h1 h2 hel hH v1 v2 hr (fun h' e th => kk h' th (by rw [e]; exact sy_rdw hH hc (by omega) hr))
theorem sy_iasw {a ln : Nat} {es : List ab_V} {z v : Int} {o : Nat} (hd : decode M.2.1 pc = .ok (.iastore, 1)) (hc : sy_cell a = some (100, ln, es)) (hln : ln ≤ 2147483647) (h1 : 0 ≤ z) (h2 : z < ln) (hel : ab_el es z.toNat = (0, -2147483648, 2147483647, o)) (hH : sy_H h) (kk : ∀ h', sy_H h' → (∀ b l, sy_rd h' b l = if b = a ∧ l = z.toNat then sy_w v else sy_rd h b l) → sy_wp (M, pc + 1, lv, st, h') Q) : sy_wp (M, pc, lv, sy_i v :: sy_i z :: .ref a :: st, h) Q := by
  rw [← sy_iw v]
  exact sy_ias2 hd hc hln h1 h2 hel hH (sy_w_rng v).1 (sy_w_rng v).2 (sy_w_rng v) kk
theorem sy_bas2 {a ln : Nat} {es : List ab_V} {lo hi z v : Int} {o : Nat} (hd : decode M.2.1 pc = .ok (.bastore, 1)) (hc : sy_cell a = some (102, ln, es)) (hln : ln ≤ 2147483647) (h1 : 0 ≤ z) (h2 : z < ln) (hel : ab_el es z.toNat = (0, lo, hi, o)) (hH : sy_H h) (v1 : lo ≤ v) (v2 : v ≤ hi) (hr : 0 ≤ v ∧ v ≤ 1) (kk : ∀ h', sy_H h' → (∀ b l, sy_rd h' b l = if b = a ∧ l = z.toNat then v else sy_rd h b l) → sy_wp (M, pc + 1, lv, st, h') Q) : sy_wp (M, pc, lv, sy_i v :: sy_i z :: .ref a :: st, h) Q :=
  sy_bas hd hc hln h1 h2 hel hH v1 v2 hr (fun h' e th => kk h' th (by rw [e]; exact sy_rdw hH hc (by omega) ⟨by omega, by omega⟩))
theorem sy_cas2 {a ln : Nat} {es : List ab_V} {lo hi z v : Int} {o : Nat} (hd : decode M.2.1 pc = .ok (.castore, 1)) (hc : sy_cell a = some (101, ln, es)) (hln : ln ≤ 2147483647) (h1 : 0 ≤ z) (h2 : z < ln) (hel : ab_el es z.toNat = (0, lo, hi, o)) (hH : sy_H h) (v1 : lo ≤ v) (v2 : v ≤ hi) (hr : 0 ≤ v ∧ v ≤ 65535) (kk : ∀ h', sy_H h' → (∀ b l, sy_rd h' b l = if b = a ∧ l = z.toNat then v else sy_rd h b l) → sy_wp (M, pc + 1, lv, st, h') Q) : sy_wp (M, pc, lv, sy_i v :: sy_i z :: .ref a :: st, h) Q :=
  sy_cas hd hc hln h1 h2 hel hH v1 v2 hr (fun h' e th => kk h' th (by rw [e]; exact sy_rdw hH hc (by omega) ⟨by omega, by omega⟩))
/-- a whole array of ints copied to another one of the same bounds -/
theorem sy_ac {idx ix jj zz a d ln : Nat} {lo hi : Int} {o : Nat} (hd : decode M.2.1 pc = .ok (.invokestatic idx, 3)) (he : mj_ent M idx = some (ix, 7, jj, zz)) (hca : sy_cell a = some (100, ln, [(0, lo, hi, o)])) (hcd : sy_cell d = some (100, ln, [(0, lo, hi, o)])) (hln : ln ≤ 2147483646) (hroom : 1 ≤ M.2.2.2.2.2.2.2.1 ∧ (st.map fun v => v.category).sum + 18 ≤ M.2.2.2.2.2.2.2.2) (hH : sy_H h) (kk : ∀ h', sy_H h' → (∀ b l, sy_rd h' b l = if b = d then sy_rd h a l else sy_rd h b l) → sy_wp (M, pc + 3, lv, st, h') Q) : sy_wp (M, pc, lv, sy_i (ln : Int) :: sy_i 0 :: .ref d :: sy_i 0 :: .ref a :: st, h) Q := by
  obtain ⟨xs, a1, a2, a3⟩ := hH.cell hca
  obtain ⟨ys, d1, d2, d3⟩ := hH.cell hcd
  have hdl : d < h.length := (List.getElem?_eq_some_iff.mp d1).1
  have hcp : mj_cpy xs ys 0 0 ln = xs := by
    unfold mj_cpy
    rw [List.take_zero, List.drop_zero, List.nil_append, Nat.zero_add, ← a2, List.take_length, a2, ← d2, List.drop_length, List.append_nil]
  have hx : sy_H (h.set d (100, xs)) := by
    refine ⟨by rw [List.length_set]; exact hH.1, fun b t hb => ?_⟩
    obtain ⟨tag', len', es', zs, g1, g2, g3, g4⟩ := hH.2 b t hb
    by_cases e : d = b
    · subst e
      obtain ⟨t1, e1, e2⟩ := sy_cell_ty hcd
      rw [e1] at hb
      cases hb
      rw [e2] at g1
      cases g1
      refine ⟨100, ln, _, xs, e2, List.getElem?_set_self hdl, a2, a3⟩
    · exact ⟨tag', len', es', zs, g1, by rw [List.getElem?_set_ne e]; exact g2, g3, g4⟩
  have hrd : ∀ b l, sy_rd (h.set d (100, xs)) b l = if b = d then sy_rd h a l else sy_rd h b l := by
    intro b l
    unfold sy_rd
    by_cases e : b = d
    · subst e
      rw [if_pos rfl, List.getElem?_set_self hdl, a1]
    · rw [if_neg e, List.getElem?_set_ne (Ne.symm e)]
  refine sy_st (S' := (M, pc + 3, lv, st, h.set d (100, xs))) hd (fun kc k => ?_) (kk _ hx hrd)
  unfold mj_do
  dsimp only
  rw [if_pos rfl, he]
  dsimp only
  rw [if_pos rfl]
  unfold mj_acopy sy_i
  dsimp only
  rw [a1, d1]
  dsimp only
  have e0 : ¬ (Int32.ofInt 0) < 0 ∧ (Int32.ofInt 0).toNatClampNeg = 0 := by decide
  obtain ⟨n1, n2⟩ := sy_idx (z := (ln : Int)) (n := ln + 1) (by omega) (by omega) (by omega)
  have n3 : (Int32.ofInt (ln : Int)).toNatClampNeg = ln := by rw [n2]; omega
  have hall : ((xs.drop 0).take ln).all mj_isI = true := by
    rw [List.drop_zero, ← a2, List.take_length, List.all_eq_true]
    intro v hv
    obtain ⟨i, hi⟩ := List.getElem?_of_mem hv
    have := a3 i v hi
    rw [ab_el_1 rfl i] at this
    obtain ⟨x, rfl, -⟩ := ab_m_0 this
    rfl
  rw [e0.2, n3, if_pos ⟨rfl, rfl, e0.1, e0.1, n1, by omega, by omega, hall, hroom.1, hroom.2⟩, hcp]
theorem sy_mn {idx ix jj zz : Nat} {a b : Int} (hd : decode M.2.1 pc = .ok (.invokestatic idx, 3)) (he : mj_ent M idx = some (ix, 10, jj, zz)) (hroom : 1 ≤ M.2.2.2.2.2.2.2.1 ∧ (st.map fun v => v.category).sum + 13 ≤ M.2.2.2.2.2.2.2.2) (ra : -2147483648 ≤ a ∧ a ≤ 2147483647) (rb : -2147483648 ≤ b ∧ b ≤ 2147483647) (kk : sy_wp (M, pc + 3, lv, sy_i (min a b) :: st, h) Q) : sy_wp (M, pc, lv, sy_i b :: sy_i a :: st, h) Q := by
  refine sy_st (S' := (M, pc + 3, lv, sy_i (min a b) :: st, h)) hd (fun kc k => ?_) kk
  unfold mj_do
  dsimp only
  rw [if_pos rfl, he]
  dsimp only
  rw [if_neg (by decide), if_pos (Or.inr rfl)]
  unfold mj_mm sy_i
  dsimp only
  rw [if_pos hroom, if_neg (by decide)]
  by_cases c : b < a
  · rw [if_pos (Int32.lt_iff_toInt_lt.mpr (by rw [sy_toInt ra, sy_toInt rb]; exact c)), show min a b = b by omega]
  · rw [if_neg (fun q => c (by have := Int32.lt_iff_toInt_lt.mp q; rw [sy_toInt ra, sy_toInt rb] at this; exact this)), show min a b = a by omega]
theorem sy_mx {idx ix jj zz : Nat} {a b : Int} (hd : decode M.2.1 pc = .ok (.invokestatic idx, 3)) (he : mj_ent M idx = some (ix, 9, jj, zz)) (hroom : 1 ≤ M.2.2.2.2.2.2.2.1 ∧ (st.map fun v => v.category).sum + 13 ≤ M.2.2.2.2.2.2.2.2) (ra : -2147483648 ≤ a ∧ a ≤ 2147483647) (rb : -2147483648 ≤ b ∧ b ≤ 2147483647) (kk : sy_wp (M, pc + 3, lv, sy_i (max a b) :: st, h) Q) : sy_wp (M, pc, lv, sy_i b :: sy_i a :: st, h) Q := by
  refine sy_st (S' := (M, pc + 3, lv, sy_i (max a b) :: st, h)) hd (fun kc k => ?_) kk
  unfold mj_do
  dsimp only
  rw [if_pos rfl, he]
  dsimp only
  rw [if_neg (by decide), if_pos (Or.inl rfl)]
  unfold mj_mm sy_i
  dsimp only
  rw [if_pos hroom, if_pos rfl]
  by_cases c : a < b
  · rw [if_pos (Int32.lt_iff_toInt_lt.mpr (by rw [sy_toInt ra, sy_toInt rb]; exact c)), show max a b = b by omega]
  · rw [if_neg (fun q => c (by have := Int32.lt_iff_toInt_lt.mp q; rw [sy_toInt ra, sy_toInt rb] at this; exact this)), show max a b = a by omega]
theorem sy_tbO {d lo hi a : Int} {offs : Array Int} {t : Nat} (hd : decode M.2.1 pc = .ok (.tableswitch d lo hi offs, len)) (ht : mj_to pc d = some t) (ra : -2147483648 ≤ a ∧ a ≤ 2147483647) (hc : a < lo ∨ hi < a) (kk : sy_wp (M, t, lv, st, h) Q) : sy_wp (M, pc, lv, sy_i a :: st, h) Q :=
  sy_one (mj_one_tblOut hd ht (by rw [sy_toInt ra]; exact hc)) kk
theorem sy_tbI {d lo hi a off : Int} {offs : Array Int} {t : Nat} (hd : decode M.2.1 pc = .ok (.tableswitch d lo hi offs, len)) (ra : -2147483648 ≤ a ∧ a ≤ 2147483647) (h1 : lo ≤ a) (h2 : a ≤ hi) (ho : offs[(a - lo).toNat]? = some off) (ht : mj_to pc off = some t) (kk : sy_wp (M, t, lv, st, h) Q) : sy_wp (M, pc, lv, sy_i a :: st, h) Q := by
  refine sy_one (mj_one_br (pc' := t) (st' := st) hd ?_ (fun _ _ => rfl)) kk
  unfold mj_br sy_i
  dsimp only
  rw [sy_toInt ra, if_neg (by omega), ho]
  dsimp only
  rw [ht]
  rfl
theorem sy_lk {d a off : Int} {ps : Array (Int × Int)} {t : Nat} (hd : decode M.2.1 pc = .ok (.lookupswitch d ps, len)) (hp : (ps.toList.zip (ps.toList.drop 1)).all (fun (a, next) => a.1 < next.1) = true) (ra : -2147483648 ≤ a ∧ a ≤ 2147483647) (ho : Op.lookupswitch.offset ps.toList d a = off) (ht : mj_to pc off = some t) (kk : sy_wp (M, t, lv, st, h) Q) : sy_wp (M, pc, lv, sy_i a :: st, h) Q :=
  sy_one (mj_one_look hd hp (by rw [sy_toInt ra]; exact ho) ht) kk
theorem sy_ladd {a b : Int} (hd : decode M.2.1 pc = .ok (.ladd, 1)) (kk : sy_wp (M, pc + 1, lv, sy_l (a + b) :: st, h) Q) : sy_wp (M, pc, lv, sy_l b :: sy_l a :: st, h) Q := by
  refine sy_st (S' := (M, pc + 1, lv, sy_l (a + b) :: st, h)) hd (fun kc k => ?_) kk
  simp only [mj_do, mj_br, mj_loc, mj_alu, mj_ll, sy_l, if_true, Int64.ofInt_add]
theorem sy_lmul {a b : Int} (hd : decode M.2.1 pc = .ok (.lmul, 1)) (kk : sy_wp (M, pc + 1, lv, sy_l (a * b) :: st, h) Q) : sy_wp (M, pc, lv, sy_l b :: sy_l a :: st, h) Q := by
  refine sy_st (S' := (M, pc + 1, lv, sy_l (a * b) :: st, h)) hd (fun kc k => ?_) kk
  simp only [mj_do, mj_br, mj_loc, mj_alu, mj_ll, sy_l, if_true, Int64.ofInt_mul]
theorem sy_lquot {a b : Int} (ha : 0 ≤ a ∧ a ≤ 9223372036854775807) (hb : 1 ≤ b ∧ b ≤ 9223372036854775807) : Int64.ofInt a / Int64.ofInt b = Int64.ofInt (a / b) ∧ ¬ Int64.ofInt b = 0 := by
  have e1 := sy_lto (z := a) ⟨by omega, by omega⟩
  have e2 := sy_lto (z := b) ⟨by omega, by omega⟩
  have h1 := Int.ediv_nonneg ha.1 (show 0 ≤ b by omega)
  have h2 := Int.ediv_le_self b ha.1
  refine ⟨?_, fun e => ?_⟩
  · apply Int64.toInt_inj.mp
    rw [Int64.toInt_div, e1, e2, Int.tdiv_eq_ediv_of_nonneg ha.1, sy_lto ⟨by omega, by omega⟩]
    exact ab_lbmod (by omega) (by omega)
  · have := congrArg Int64.toInt e
    rw [e2, show (0 : Int64).toInt = 0 by decide] at this
    omega
theorem sy_ldiv {a b : Int} (hd : decode M.2.1 pc = .ok (.ldiv, 1)) (ha : 0 ≤ a ∧ a ≤ 9223372036854775807) (hb : 1 ≤ b ∧ b ≤ 9223372036854775807) (kk : sy_wp (M, pc + 1, lv, sy_l (a / b) :: st, h) Q) : sy_wp (M, pc, lv, sy_l b :: sy_l a :: st, h) Q := by
  refine sy_st (S' := (M, pc + 1, lv, sy_l (a / b) :: st, h)) hd (fun kc k => ?_) kk
  obtain ⟨q1, q2⟩ := sy_lquot ha hb
  simp only [mj_do, mj_br, mj_loc, mj_alu, mj_ll, sy_l, if_true, if_neg q2, q1]
theorem sy_lrem {a b : Int} (hd : decode M.2.1 pc = .ok (.lrem, 1)) (ha : 0 ≤ a ∧ a ≤ 9223372036854775807) (hb : 1 ≤ b ∧ b ≤ 9223372036854775807) (kk : sy_wp (M, pc + 1, lv, sy_l (a % b) :: st, h) Q) : sy_wp (M, pc, lv, sy_l b :: sy_l a :: st, h) Q := by
  refine sy_st (S' := (M, pc + 1, lv, sy_l (a % b) :: st, h)) hd (fun kc k => ?_) kk
  obtain ⟨q1, q2⟩ := sy_lquot ha hb
  have e : Int64.ofInt a - Int64.ofInt (a / b) * Int64.ofInt b = Int64.ofInt (a % b) := by
    rw [← Int64.ofInt_mul, ← Int64.ofInt_sub, Int.emod_def, Int.mul_comm b]
  simp only [mj_do, mj_br, mj_loc, mj_alu, mj_ll, sy_l, if_true, if_neg q2, q1, e]
theorem sy_ldc2 {idx ix v z : Nat} {n : Int} (hd : decode M.2.1 pc = .ok (.ldc2_w idx, 3)) (he : mj_ent M idx = some (ix, 6, v, z)) (e : Int64.ofNat v = Int64.ofInt n) (kk : sy_wp (M, pc + 3, lv, sy_l n :: st, h) Q) : sy_wp (M, pc, lv, st, h) Q := by
  refine sy_st (S' := (M, pc + 3, lv, sy_l n :: st, h)) hd (fun kc k => ?_) kk
  unfold mj_do
  dsimp only
  rw [if_pos rfl]
  unfold mj_ldc2
  rw [he]
  dsimp only
  rw [if_pos rfl, e]
  rfl
theorem sy_l2i {a : Int} (hd : decode M.2.1 pc = .ok (.l2i, 1)) (ra : -2147483648 ≤ a ∧ a ≤ 2147483647) (kk : sy_wp (M, pc + 1, lv, sy_i a :: st, h) Q) : sy_wp (M, pc, lv, sy_l a :: st, h) Q := by
  refine sy_st (S' := (M, pc + 1, lv, sy_i a :: st, h)) hd (fun kc k => ?_) kk
  have e : (Int64.ofInt a).toInt32 = Int32.ofInt a := by
    apply Int32.toInt_inj.mp
    rw [Int64.toInt_toInt32, sy_lto ⟨by omega, by omega⟩, sy_toInt ra, ab_bmod (by omega) (by omega)]
  simp only [mj_do, mj_br, mj_loc, mj_alu, sy_i, sy_l, if_true, e]
theorem sy_i2c {a : Int} (hd : decode M.2.1 pc = .ok (.i2c, 1)) (ra : 0 ≤ a ∧ a ≤ 65535) (kk : sy_wp (M, pc + 1, lv, sy_i a :: st, h) Q) : sy_wp (M, pc, lv, sy_i a :: st, h) Q := by
  refine sy_st (S' := (M, pc + 1, lv, sy_i a :: st, h)) hd (fun kc k => ?_) kk
  have e := sy_narc ra.1 ra.2
  have e2 : Value.int (((Int32.ofInt a).toUInt32 % 65536).toInt32) = .int (Int32.ofInt a) := e
  have e3 : ((Int32.ofInt a).toUInt32 % 65536).toInt32 = Int32.ofInt a := by injection e2
  simp only [mj_do, mj_br, mj_loc, mj_alu, sy_i, if_true, e3]
end SY4
end
