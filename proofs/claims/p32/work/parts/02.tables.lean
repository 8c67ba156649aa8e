/-- a method: name, bytes, locals, answer, own class (a place of mj_names), parameters, kind (0 static, 1 of an object, 2 constructor), frames, words of locals below it -/
abbrev mj_M : Type := MethodName × ByteArray × Nat × Option FieldType × Nat × Nat × Nat × Nat × Nat
def mj_names : List String := ["SootMaps$Bargain", "SootMaps$Book", "SootMaps$Images", "SootMaps$Past", "SootMaps$Plan", "SootMaps$Rows", "SootMaps$Sights", "SootMaps$Streets", "SootMaps$Text", "SootMaps", "SootMapsModel", "SootMaps$Soot", "SootMapsLaw", "java/lang/Integer", "java/lang/Math"]
def mj_meths_0 : List mj_M := [(⟨"SootMaps", "<init>", "()V"⟩, prog_1_method_1_code, 1, none, 9, 0, 2, 3, 61),
  (⟨"SootMaps$Text", "<init>", "()V"⟩, prog_11_method_1_code, 1, none, 8, 0, 2, 2, 40),
  (⟨"SootMaps$Plan", "<init>", "()V"⟩, prog_6_method_1_code, 1, none, 4, 0, 2, 1, 20),
  (⟨"SootMaps$Streets", "<init>", "()V"⟩, prog_10_method_1_code, 1, none, 7, 0, 2, 1, 20),
  (⟨"SootMaps$Past", "<init>", "()V"⟩, prog_5_method_1_code, 2, none, 3, 0, 2, 2, 40),
  (⟨"SootMaps$Images", "<init>", "()V"⟩, prog_4_method_1_code, 2, none, 2, 0, 2, 2, 40),
  (⟨"SootMaps$Sights", "<init>", "()V"⟩, prog_8_method_1_code, 1, none, 6, 0, 2, 1, 20),
  (⟨"SootMaps$Book", "<init>", "()V"⟩, prog_3_method_1_code, 1, none, 1, 0, 2, 1, 20),
  (⟨"SootMaps$Rows", "<init>", "()V"⟩, prog_7_method_1_code, 1, none, 5, 0, 2, 1, 20),
  (⟨"SootMaps$Bargain", "<init>", "()V"⟩, prog_2_method_1_code, 1, none, 0, 0, 2, 1, 20),
  (⟨"SootMaps", "feed", "(I)I"⟩, prog_1_method_2_code, 2, (some .int), 9, 1, 1, 1, 21),
  (⟨"SootMaps$Text", "add", "(C)I"⟩, prog_11_method_2_code, 2, (some .int), 8, 1, 1, 0, 0),
  (⟨"SootMaps", "city", "()I"⟩, prog_1_method_3_code, 1, (some .int), 9, 0, 1, 6, 136),
  (⟨"SootMaps$Text", "readAll", "()V"⟩, prog_11_method_3_code, 2, none, 8, 0, 1, 5, 115),
  (⟨"SootMaps$Plan", "clear", "()V"⟩, prog_6_method_2_code, 1, none, 4, 0, 1, 0, 0),
  (⟨"SootMaps$Text", "skipBlanks", "()V"⟩, prog_11_method_5_code, 2, none, 8, 0, 1, 1, 20),
  (⟨"SootMaps$Text", "letter", "()C"⟩, prog_11_method_4_code, 1, (some .char), 8, 0, 1, 0, 0),
  (⟨"SootMaps$Text", "readClause", "()V"⟩, prog_11_method_7_code, 2, none, 8, 0, 1, 4, 94),
  (⟨"SootMaps$Text", "mayBegin", "(C)Z"⟩, prog_11_method_8_code, 2, (some .boolean), 8, 1, 1, 0, 0),
  (⟨"SootMaps$Text", "fail", "(II)V"⟩, prog_11_method_6_code, 3, none, 8, 2, 1, 0, 0),
  (⟨"SootMaps$Text", "isOneTooMany", "(C)Z"⟩, prog_11_method_9_code, 2, (some .boolean), 8, 1, 1, 0, 0),
  (⟨"SootMaps$Text", "readNumbersOf", "(C)V"⟩, prog_11_method_10_code, 4, none, 8, 1, 1, 3, 71),
  (⟨"SootMaps$Text", "readFirst", "(C)I"⟩, prog_11_method_11_code, 5, (some .int), 8, 1, 1, 2, 47),
  (⟨"SootMaps$Text", "readNumber", "(I)I"⟩, prog_11_method_12_code, 6, (some .int), 8, 1, 1, 1, 22)]
def mj_meths_1 : List mj_M := [(⟨"SootMaps$Text", "isFigure", "(C)Z"⟩, prog_11_method_13_code, 1, (some .boolean), 8, 1, 0, 0, 0),
  (⟨"SootMaps$Text", "readEnd", "()V"⟩, prog_11_method_14_code, 1, none, 8, 0, 1, 2, 41),
  (⟨"SootMaps$Plan", "tellCity", "(II)V"⟩, prog_6_method_4_code, 3, none, 4, 2, 1, 0, 0),
  (⟨"SootMaps$Plan", "tellHouse", "(II)V"⟩, prog_6_method_5_code, 3, none, 4, 2, 1, 0, 0),
  (⟨"SootMaps$Plan", "tellSweep", "(II)V"⟩, prog_6_method_6_code, 3, none, 4, 2, 1, 0, 0),
  (⟨"SootMaps$Plan", "copyFrom", "(LSootMaps$Plan;)V"⟩, prog_6_method_3_code, 2, none, 4, 1, 1, 1, 26),
  (⟨"SootMaps$Streets", "begin", "(LSootMaps$Plan;)V"⟩, prog_10_method_3_code, 3, none, 7, 1, 1, 1, 26),
  (⟨"SootMaps$Past", "forget", "()V"⟩, prog_5_method_2_code, 1, none, 3, 0, 1, 0, 0),
  (⟨"SootMaps$Images", "forget", "()V"⟩, prog_4_method_2_code, 2, none, 2, 0, 1, 0, 0),
  (⟨"SootMaps", "fault", "()I"⟩, prog_1_method_4_code, 1, (some .int), 9, 0, 1, 0, 0),
  (⟨"SootMaps", "told", "(I)I"⟩, prog_1_method_5_code, 2, (some .int), 9, 1, 1, 3, 65),
  (⟨"SootMaps$Streets", "layersOfAll", "()I"⟩, prog_10_method_4_code, 3, (some .int), 7, 0, 1, 2, 43),
  (⟨"SootMaps$Soot", "layers", "(I)I"⟩, prog_9_method_5_code, 3, (some .int), 11, 1, 0, 1, 21),
  (⟨"SootMaps$Soot", "fromNewest", "(II)I"⟩, prog_9_method_8_code, 2, (some .int), 11, 2, 0, 0, 0),
  (⟨"SootMaps", "house", "(II)I"⟩, prog_1_method_6_code, 3, (some .int), 9, 2, 1, 2, 43),
  (⟨"SootMaps", "isHouse", "(I)Z"⟩, prog_1_method_33_code, 2, (some .boolean), 9, 1, 1, 0, 0),
  (⟨"SootMaps$Soot", "newest", "(I)I"⟩, prog_9_method_6_code, 1, (some .int), 11, 1, 0, 1, 21),
  (⟨"SootMaps", "layer", "(II)I"⟩, prog_1_method_7_code, 3, (some .int), 9, 2, 1, 3, 65),
  (⟨"SootMaps$Soot", "fromOldest", "(II)I"⟩, prog_9_method_7_code, 3, (some .int), 11, 2, 0, 2, 43),
  (⟨"SootMaps", "sweep", "(II)I"⟩, prog_1_method_8_code, 3, (some .int), 9, 2, 1, 1, 21),
  (⟨"SootMaps", "isSweep", "(I)Z"⟩, prog_1_method_34_code, 2, (some .boolean), 9, 1, 1, 0, 0),
  (⟨"SootMaps", "month", "(I)I"⟩, prog_1_method_9_code, 4, (some .int), 9, 1, 1, 3, 68),
  (⟨"SootMaps", "refusalOfMonths", "(I)I"⟩, prog_1_method_36_code, 2, (some .int), 9, 1, 1, 0, 0),
  (⟨"SootMaps$Past", "remember", "(LSootMaps$Streets;)V"⟩, prog_5_method_3_code, 2, none, 3, 1, 1, 2, 47)]
def mj_meths_2 : List mj_M := [(⟨"java/lang/Math", "floorMod", "(II)I"⟩, prog_15_method_50_code, 3, (some .int), 14, 2, 0, 0, 0),
  (⟨"SootMaps$Streets", "copyFrom", "(LSootMaps$Streets;)V"⟩, prog_10_method_2_code, 2, none, 7, 1, 1, 1, 26),
  (⟨"SootMaps$Streets", "passMonth", "(LSootMaps$Plan;)V"⟩, prog_10_method_5_code, 3, none, 7, 1, 1, 2, 46),
  (⟨"SootMaps$Streets", "burnIn", "(ILSootMaps$Plan;)V"⟩, prog_10_method_6_code, 5, none, 7, 2, 1, 1, 22),
  (⟨"SootMaps$Soot", "laid", "(II)I"⟩, prog_9_method_2_code, 2, (some .int), 11, 2, 0, 0, 0),
  (⟨"SootMaps$Plan", "neighbour", "(I)I"⟩, prog_6_method_7_code, 3, (some .int), 4, 1, 1, 0, 0),
  (⟨"SootMaps", "fire", "(II)I"⟩, prog_1_method_10_code, 4, (some .int), 9, 2, 1, 3, 68),
  (⟨"SootMaps", "rain", "()I"⟩, prog_1_method_11_code, 1, (some .int), 9, 0, 1, 4, 88),
  (⟨"SootMaps$Streets", "washOff", "(I)I"⟩, prog_10_method_7_code, 4, (some .int), 7, 1, 1, 3, 65),
  (⟨"SootMaps$Soot", "washed", "(II)I"⟩, prog_9_method_4_code, 2, (some .int), 11, 2, 0, 0, 0),
  (⟨"SootMaps", "swept", "(I)I"⟩, prog_1_method_12_code, 3, (some .int), 9, 1, 1, 3, 68),
  (⟨"SootMaps", "run", "(II)I"⟩, prog_1_method_13_code, 4, (some .int), 9, 2, 1, 3, 68),
  (⟨"SootMaps", "swap", "(IIII)I"⟩, prog_1_method_14_code, 5, (some .int), 9, 4, 1, 3, 68),
  (⟨"SootMaps", "areTwoSweeps", "(II)Z"⟩, prog_1_method_35_code, 3, (some .boolean), 9, 2, 1, 1, 21),
  (⟨"SootMaps$Streets", "canGive", "(III)Z"⟩, prog_10_method_8_code, 4, (some .boolean), 7, 3, 1, 0, 0),
  (⟨"SootMaps$Streets", "learn", "(II)V"⟩, prog_10_method_10_code, 3, none, 7, 2, 1, 0, 0),
  (⟨"SootMaps", "pay", "(III)I"⟩, prog_1_method_15_code, 5, (some .int), 9, 3, 1, 3, 68),
  (⟨"SootMaps", "drift", "(I)I"⟩, prog_1_method_16_code, 4, (some .int), 9, 1, 1, 5, 110),
  (⟨"SootMaps", "passDrawnMonth", "()V"⟩, prog_1_method_38_code, 3, none, 9, 0, 1, 4, 88),
  (⟨"SootMaps", "draw", "(I)I"⟩, prog_1_method_37_code, 2, (some .int), 9, 1, 1, 0, 0),
  (⟨"SootMaps", "undo", "(I)I"⟩, prog_1_method_17_code, 2, (some .int), 9, 1, 1, 3, 69),
  (⟨"SootMaps$Past", "bringBack", "(ILSootMaps$Streets;)V"⟩, prog_5_method_4_code, 3, none, 3, 2, 1, 2, 47),
  (⟨"SootMaps", "burned", "(III)I"⟩, prog_1_method_18_code, 4, (some .int), 9, 3, 1, 3, 71),
  (⟨"SootMaps$Rows", "lookInto", "(ILSootMaps$Streets;LSootMaps$Plan;)V"⟩, prog_7_method_2_code, 7, none, 5, 3, 1, 2, 45)]
def mj_meths_3 : List mj_M := [(⟨"SootMaps$Streets", "down", "(I)I"⟩, prog_10_method_11_code, 5, (some .int), 7, 1, 1, 0, 0),
  (⟨"SootMaps$Rows", "addToHeap", "(III)V"⟩, prog_7_method_3_code, 5, none, 5, 3, 1, 1, 21),
  (⟨"SootMaps$Rows", "howMany", "(I)I"⟩, prog_7_method_7_code, 4, (some .int), 5, 1, 1, 2, 47),
  (⟨"SootMaps$Rows", "rowsOf", "(I)I"⟩, prog_7_method_4_code, 1, (some .int), 5, 1, 0, 0, 0),
  (⟨"SootMaps$Rows", "fits", "(II)Z"⟩, prog_7_method_6_code, 6, (some .boolean), 5, 2, 1, 1, 22),
  (⟨"SootMaps$Rows", "kindIn", "(III)I"⟩, prog_7_method_5_code, 3, (some .int), 5, 3, 0, 0, 0),
  (⟨"SootMaps$Soot", "heaped", "(III)I"⟩, prog_9_method_3_code, 3, (some .int), 11, 3, 0, 0, 0),
  (⟨"SootMaps$Rows", "fitting", "(II)I"⟩, prog_7_method_8_code, 5, (some .int), 5, 2, 1, 2, 47),
  (⟨"SootMaps", "sure", "(III)I"⟩, prog_1_method_19_code, 4, (some .int), 9, 3, 1, 3, 72),
  (⟨"SootMaps$Rows", "sameInAll", "(II)I"⟩, prog_7_method_9_code, 6, (some .int), 5, 2, 1, 2, 47),
  (⟨"SootMaps", "flues", "(II)I"⟩, prog_1_method_20_code, 3, (some .int), 9, 2, 1, 2, 48),
  (⟨"SootMaps$Streets", "reach", "(ILSootMaps$Plan;)I"⟩, prog_10_method_12_code, 4, (some .int), 7, 2, 1, 1, 24),
  (⟨"SootMaps$Streets", "heatOf", "(II)I"⟩, prog_10_method_13_code, 5, (some .int), 7, 2, 1, 1, 24),
  (⟨"SootMaps$Streets", "likeOf", "(II)I"⟩, prog_10_method_14_code, 5, (some .int), 7, 2, 1, 0, 0),
  (⟨"SootMaps", "trade", "(III)I"⟩, prog_1_method_21_code, 4, (some .int), 9, 3, 1, 5, 124),
  (⟨"SootMaps$Bargain", "settle", "(IILSootMaps$Streets;LSootMaps$Plan;)Z"⟩, prog_2_method_2_code, 7, (some .boolean), 0, 4, 1, 4, 98),
  (⟨"SootMaps$Bargain", "listNeeds", "(IILSootMaps$Streets;LSootMaps$Plan;)V"⟩, prog_2_method_5_code, 6, none, 0, 4, 1, 2, 48),
  (⟨"SootMaps$Bargain", "othersWhoKnow", "(IILSootMaps$Streets;LSootMaps$Plan;)I"⟩, prog_2_method_6_code, 6, (some .int), 0, 4, 0, 1, 23),
  (⟨"SootMaps$Bargain", "listTallies", "(IILSootMaps$Streets;LSootMaps$Plan;)V"⟩, prog_2_method_7_code, 9, none, 0, 4, 1, 1, 22),
  (⟨"java/lang/Integer", "bitCount", "(I)I"⟩, prog_14_method_49_code, 1, (some .int), 13, 1, 0, 0, 0),
  (⟨"SootMaps$Bargain", "countCosts", "(ILSootMaps$Plan;)V"⟩, prog_2_method_8_code, 4, none, 0, 2, 1, 3, 75),
  (⟨"SootMaps$Bargain", "cheapestGiver", "(IILSootMaps$Plan;)I"⟩, prog_2_method_11_code, 8, (some .int), 0, 3, 1, 2, 48),
  (⟨"SootMaps$Bargain", "costBy", "(IIILSootMaps$Plan;)I"⟩, prog_2_method_10_code, 6, (some .int), 0, 4, 1, 1, 23),
  (⟨"SootMaps$Bargain", "isFree", "(II)Z"⟩, prog_2_method_9_code, 4, (some .boolean), 0, 2, 1, 0, 0)]
def mj_meths_4 : List mj_M := [(⟨"SootMaps$Bargain", "leastPaid", "()I"⟩, prog_2_method_3_code, 1, (some .int), 0, 0, 1, 0, 0),
  (⟨"SootMaps$Bargain", "giverOf", "(ILSootMaps$Plan;)I"⟩, prog_2_method_4_code, 6, (some .int), 0, 2, 1, 3, 75),
  (⟨"SootMaps", "ring", "(I)I"⟩, prog_1_method_22_code, 4, (some .int), 9, 1, 1, 1, 22),
  (⟨"SootMaps$Streets", "hasNewFor", "(II)Z"⟩, prog_10_method_9_code, 3, (some .boolean), 7, 2, 1, 0, 0),
  (⟨"SootMaps", "ofPair", "(III)I"⟩, prog_1_method_39_code, 3, (some .int), 9, 3, 0, 0, 0),
  (⟨"SootMaps", "brushes", "(II)I"⟩, prog_1_method_23_code, 3, (some .int), 9, 2, 1, 3, 72),
  (⟨"SootMaps$Streets", "fluesWith", "(II)I"⟩, prog_10_method_15_code, 5, (some .int), 7, 2, 1, 2, 43),
  (⟨"SootMaps$Soot", "holds", "(II)Z"⟩, prog_9_method_9_code, 3, (some .boolean), 11, 2, 0, 1, 21),
  (⟨"SootMaps", "mostFeared", "(I)I"⟩, prog_1_method_40_code, 6, (some .int), 9, 1, 1, 2, 47),
  (⟨"SootMaps", "wet", "(II)I"⟩, prog_1_method_24_code, 7, (some .int), 9, 2, 1, 1, 22),
  (⟨"SootMaps", "see", "(IIZ)I"⟩, prog_1_method_25_code, 4, (some .int), 9, 3, 1, 1, 23),
  (⟨"SootMaps$Sights", "add", "(IIZ)I"⟩, prog_8_method_2_code, 4, (some .int), 6, 3, 1, 0, 0),
  (⟨"SootMaps", "next", "(II)I"⟩, prog_1_method_26_code, 3, (some .int), 9, 2, 1, 4, 98),
  (⟨"SootMaps", "suspects", "(I)I"⟩, prog_1_method_41_code, 4, (some .int), 9, 1, 1, 2, 47),
  (⟨"SootMaps$Sights", "allow", "(II)Z"⟩, prog_8_method_3_code, 4, (some .boolean), 6, 2, 1, 0, 0),
  (⟨"SootMaps", "partingFlue", "(I)I"⟩, prog_1_method_42_code, 8, (some .int), 9, 1, 1, 3, 71),
  (⟨"SootMaps", "howManyReach", "(II)I"⟩, prog_1_method_43_code, 5, (some .int), 9, 2, 1, 2, 47),
  (⟨"SootMaps", "write", "(II)I"⟩, prog_1_method_27_code, 3, (some .int), 9, 2, 1, 1, 22),
  (⟨"SootMaps$Book", "add", "(II)I"⟩, prog_3_method_2_code, 3, (some .int), 1, 2, 1, 0, 0),
  (⟨"SootMaps", "judge", "()I"⟩, prog_1_method_28_code, 1, (some .int), 9, 0, 1, 3, 63),
  (⟨"SootMaps$Book", "firstWrong", "(LSootMaps$Streets;)I"⟩, prog_3_method_3_code, 3, (some .int), 1, 1, 1, 2, 41),
  (⟨"SootMaps", "tear", "()I"⟩, prog_1_method_29_code, 2, (some .int), 9, 0, 1, 0, 0),
  (⟨"SootMaps", "seed", "(I)I"⟩, prog_1_method_30_code, 3, (some .int), 9, 1, 1, 0, 0),
  (⟨"SootMaps", "keep", "(I)I"⟩, prog_1_method_31_code, 2, (some .int), 9, 1, 1, 3, 70)]
def mj_meths_5 : List mj_M := [(⟨"SootMaps$Images", "put", "(ILSootMaps$Streets;I)V"⟩, prog_4_method_4_code, 4, none, 2, 3, 1, 2, 47),
  (⟨"SootMaps", "goBack", "(I)I"⟩, prog_1_method_32_code, 2, (some .int), 9, 1, 1, 3, 69),
  (⟨"SootMaps$Images", "isKept", "(I)Z"⟩, prog_4_method_3_code, 2, (some .boolean), 2, 1, 1, 0, 0),
  (⟨"SootMaps$Images", "bringBack", "(ILSootMaps$Streets;)I"⟩, prog_4_method_5_code, 3, (some .int), 2, 2, 1, 2, 47),
  (⟨"SootMapsModel", "<init>", "()V"⟩, prog_13_method_1_code, 1, none, 10, 0, 2, 1, 20),
  (⟨"SootMapsModel", "feed", "(I)I"⟩, prog_13_method_9_code, 2, (some .int), 10, 1, 1, 1, 25),
  (⟨"SootMapsModel", "in", "(JJJ)Z"⟩, prog_13_method_3_code, 6, (some .boolean), 10, 3, 0, 0, 0),
  (⟨"SootMapsModel", "city", "()I"⟩, prog_13_method_19_code, 4, (some .int), 10, 0, 1, 5, 107),
  (⟨"SootMapsModel", "here", "()I"⟩, prog_13_method_11_code, 1, (some .int), 10, 0, 1, 1, 21),
  (⟨"SootMapsModel", "letterAt", "(I)I"⟩, prog_13_method_10_code, 2, (some .int), 10, 1, 1, 0, 0),
  (⟨"SootMapsModel", "takesClause", "()Z"⟩, prog_13_method_18_code, 5, (some .boolean), 10, 0, 1, 4, 83),
  (⟨"SootMapsModel", "fails", "(II)Z"⟩, prog_13_method_12_code, 3, (some .boolean), 10, 2, 1, 0, 0),
  (⟨"SootMapsModel", "takesCity", "()Z"⟩, prog_13_method_15_code, 1, (some .boolean), 10, 0, 1, 3, 63),
  (⟨"SootMapsModel", "takesNumber", "(II)Z"⟩, prog_13_method_14_code, 3, (some .boolean), 10, 2, 1, 2, 41),
  (⟨"SootMapsModel", "takesHouse", "()Z"⟩, prog_13_method_16_code, 1, (some .boolean), 10, 0, 1, 3, 63),
  (⟨"SootMapsModel", "takesSweep", "()Z"⟩, prog_13_method_17_code, 1, (some .boolean), 10, 0, 1, 3, 63),
  (⟨"SootMapsModel", "takes", "(I)Z"⟩, prog_13_method_13_code, 2, (some .boolean), 10, 1, 1, 2, 41),
  (⟨"SootMapsModel", "fault", "()I"⟩, prog_13_method_20_code, 1, (some .int), 10, 0, 1, 0, 0),
  (⟨"SootMapsModel", "told", "(I)I"⟩, prog_13_method_22_code, 2, (some .int), 10, 1, 1, 1, 22),
  (⟨"SootMapsModel", "layersOfAll", "()I"⟩, prog_13_method_21_code, 3, (some .int), 10, 0, 1, 0, 0),
  (⟨"SootMapsModel", "house", "(II)I"⟩, prog_13_method_25_code, 3, (some .int), 10, 2, 1, 2, 46),
  (⟨"SootMapsModel", "isHouse", "(I)Z"⟩, prog_13_method_7_code, 2, (some .boolean), 10, 1, 1, 1, 25),
  (⟨"SootMapsModel", "newestOf", "(I)I"⟩, prog_13_method_24_code, 2, (some .int), 10, 1, 1, 0, 0),
  (⟨"SootMapsModel", "layer", "(II)I"⟩, prog_13_method_26_code, 3, (some .int), 10, 2, 1, 2, 46)]
def mj_meths_6 : List mj_M := [(⟨"SootMapsModel", "layerAt", "(III)I"⟩, prog_13_method_23_code, 4, (some .int), 10, 3, 1, 0, 0),
  (⟨"SootMapsModel", "sweep", "(II)I"⟩, prog_13_method_27_code, 3, (some .int), 10, 2, 1, 2, 46),
  (⟨"SootMapsModel", "isSweep", "(I)Z"⟩, prog_13_method_8_code, 2, (some .boolean), 10, 1, 1, 1, 25),
  (⟨"SootMapsModel", "month", "(I)I"⟩, prog_13_method_32_code, 3, (some .int), 10, 1, 1, 4, 92),
  (⟨"SootMapsModel", "minds", "()V"⟩, prog_13_method_31_code, 2, none, 10, 0, 1, 1, 23),
  (⟨"SootMapsModel", "copy", "(II)V"⟩, prog_13_method_6_code, 4, none, 10, 2, 1, 0, 0),
  (⟨"SootMapsModel", "passes", "(I)V"⟩, prog_13_method_30_code, 5, none, 10, 1, 1, 3, 68),
  (⟨"SootMapsModel", "lays", "(III)V"⟩, prog_13_method_28_code, 6, none, 10, 3, 1, 0, 0),
  (⟨"SootMapsModel", "blownTo", "(I)I"⟩, prog_13_method_29_code, 3, (some .int), 10, 1, 1, 2, 46),
  (⟨"SootMapsModel", "fire", "(II)I"⟩, prog_13_method_33_code, 4, (some .int), 10, 2, 1, 2, 46),
  (⟨"SootMapsModel", "rain", "()I"⟩, prog_13_method_35_code, 1, (some .int), 10, 0, 1, 2, 44),
  (⟨"SootMapsModel", "washes", "()I"⟩, prog_13_method_34_code, 4, (some .int), 10, 0, 1, 0, 0),
  (⟨"SootMapsModel", "swept", "(I)I"⟩, prog_13_method_36_code, 3, (some .int), 10, 1, 1, 2, 46),
  (⟨"SootMapsModel", "run", "(II)I"⟩, prog_13_method_37_code, 4, (some .int), 10, 2, 1, 2, 46),
  (⟨"SootMapsModel", "swap", "(IIII)I"⟩, prog_13_method_40_code, 5, (some .int), 10, 4, 1, 3, 68),
  (⟨"SootMapsModel", "areTwo", "(II)Z"⟩, prog_13_method_38_code, 3, (some .boolean), 10, 2, 1, 2, 46),
  (⟨"SootMapsModel", "isKnown", "(II)Z"⟩, prog_13_method_39_code, 3, (some .boolean), 10, 2, 1, 1, 21),
  (⟨"SootMapsModel", "has", "(II)Z"⟩, prog_13_method_4_code, 2, (some .boolean), 10, 2, 0, 0, 0),
  (⟨"SootMapsModel", "pay", "(III)I"⟩, prog_13_method_41_code, 4, (some .int), 10, 3, 1, 3, 68),
  (⟨"SootMapsModel", "drift", "(I)I"⟩, prog_13_method_43_code, 4, (some .int), 10, 1, 1, 4, 92),
  (⟨"SootMapsModel", "draw", "(I)I"⟩, prog_13_method_42_code, 2, (some .int), 10, 1, 1, 0, 0),
  (⟨"SootMapsModel", "undo", "(I)I"⟩, prog_13_method_44_code, 3, (some .int), 10, 1, 1, 1, 25),
  (⟨"SootMapsModel", "burned", "(III)I"⟩, prog_13_method_46_code, 7, (some .int), 10, 3, 1, 5, 117),
  (⟨"SootMapsModel", "isSo", "(III)Z"⟩, prog_13_method_45_code, 6, (some .boolean), 10, 3, 1, 4, 92)]
def mj_meths_7 : List mj_M := [(⟨"SootMapsModel", "sure", "(III)I"⟩, prog_13_method_47_code, 6, (some .int), 10, 3, 1, 5, 117),
  (⟨"SootMapsModel", "flues", "(II)I"⟩, prog_13_method_51_code, 3, (some .int), 10, 2, 1, 4, 91),
  (⟨"SootMapsModel", "sootOf", "(I)I"⟩, prog_13_method_48_code, 4, (some .int), 10, 1, 1, 3, 68),
  (⟨"SootMapsModel", "heatOf", "(I)I"⟩, prog_13_method_49_code, 5, (some .int), 10, 1, 1, 1, 21),
  (⟨"SootMapsModel", "likeOf", "(I)I"⟩, prog_13_method_50_code, 6, (some .int), 10, 1, 1, 1, 23),
  (⟨"SootMapsModel", "trade", "(III)I"⟩, prog_13_method_54_code, 8, (some .int), 10, 3, 1, 3, 69),
  (⟨"SootMapsModel", "findTrade", "(II)I"⟩, prog_13_method_53_code, 6, (some .int), 10, 2, 1, 2, 44),
  (⟨"SootMapsModel", "moreOf", "(II)I"⟩, prog_13_method_52_code, 3, (some .int), 10, 2, 1, 1, 22),
  (⟨"SootMapsModel", "ones", "(I)I"⟩, prog_13_method_5_code, 3, (some .int), 10, 1, 0, 0, 0),
  (⟨"SootMapsModel", "ring", "(I)I"⟩, prog_13_method_57_code, 5, (some .int), 10, 1, 1, 2, 48),
  (⟨"SootMapsModel", "isRing", "(II)Z"⟩, prog_13_method_56_code, 7, (some .boolean), 10, 2, 1, 1, 22),
  (⟨"SootMapsModel", "canGive", "(II)Z"⟩, prog_13_method_55_code, 3, (some .boolean), 10, 2, 1, 0, 0),
  (⟨"SootMapsModel", "brushes", "(II)I"⟩, prog_13_method_58_code, 9, (some .int), 10, 2, 1, 4, 91),
  (⟨"SootMapsModel", "wet", "(II)I"⟩, prog_13_method_59_code, 7, (some .int), 10, 2, 1, 1, 25),
  (⟨"SootMapsModel", "see", "(IIZ)I"⟩, prog_13_method_60_code, 4, (some .int), 10, 3, 1, 2, 46),
  (⟨"SootMapsModel", "next", "(II)I"⟩, prog_13_method_61_code, 10, (some .int), 10, 2, 1, 4, 91),
  (⟨"SootMapsModel", "write", "(II)I"⟩, prog_13_method_62_code, 3, (some .int), 10, 2, 1, 2, 46),
  (⟨"SootMapsModel", "judge", "()I"⟩, prog_13_method_63_code, 2, (some .int), 10, 0, 1, 1, 21),
  (⟨"SootMapsModel", "tear", "()I"⟩, prog_13_method_64_code, 2, (some .int), 10, 0, 1, 0, 0),
  (⟨"SootMapsModel", "seed", "(I)I"⟩, prog_13_method_65_code, 3, (some .int), 10, 1, 1, 0, 0),
  (⟨"SootMapsModel", "keep", "(I)I"⟩, prog_13_method_66_code, 2, (some .int), 10, 1, 1, 1, 25),
  (⟨"SootMapsModel", "goBack", "(I)I"⟩, prog_13_method_67_code, 2, (some .int), 10, 1, 1, 1, 25)]
def mj_meths : List mj_M := mj_meths_0 ++ (mj_meths_1 ++ (mj_meths_2 ++ (mj_meths_3 ++ (mj_meths_4 ++ (mj_meths_5 ++ (mj_meths_6 ++ (mj_meths_7)))))))
def mj_plI : List Nat := [61, 62, 63, 64, 65, 66, 67, 68, 69, 70, 61, 62, 61, 62, 63, 62, 62, 62, 62, 62, 62, 62, 62, 62, 62, 62, 63, 63, 63, 63, 64, 65, 66, 61, 61, 64, 73, 73, 61, 61, 73, 61, 73, 61, 61, 61, 61, 65, 74, 64, 64, 64, 73, 63, 61, 61, 64, 73, 61, 61, 61, 61, 64, 64, 61, 61, 61, 61, 61, 65, 61, 69, 64, 69, 69, 69, 69, 69, 73, 69, 61, 69, 61, 64, 64, 64, 61, 70, 70, 70, 70, 75, 70, 70, 70, 70, 70, 70, 61, 64, 61, 61, 64, 73, 61, 61, 61, 67, 61, 61, 67, 61, 61, 61, 68, 61, 68, 61, 61, 61, 66, 61, 66, 66, 71, 71, 71, 71, 71, 71, 71, 71, 71, 71, 71, 71, 71, 71, 71, 71, 71, 71, 71, 71, 71, 71, 71, 71, 71, 71, 71, 71, 71, 71, 71, 71, 71, 71, 71, 71, 71, 71, 71, 71, 71, 71, 71, 71, 71, 71, 71, 71, 71, 71, 71, 71, 71, 71, 71, 71, 71, 71, 71, 71, 71, 71, 71, 71, 71, 71]
def mj_plK : List Nat := [79, 87, 93, 171, 210, 230, 249, 269, 286, 302, 362, 367, 372, 376, 380, 385, 389, 393, 397, 401, 405, 409, 413, 417, 420, 424, 427, 431, 435, 439, 446, 451, 455, 459, 463, 467, 471, 474, 477, 482, 487, 490, 494, 498, 503, 507, 512, 517, 521, 524, 531, 536, 539, 543, 547, 551, 555, 560, 563, 567, 571, 576, 579, 583, 587, 591, 596, 600, 606, 610, 614, 618, 622, 628, 632, 636, 640, 643, 646, 649, 653, 657, 661, 665, 670, 674, 678, 682, 687, 690, 695, 698, 706, 710, 714, 718, 721, 725, 729, 733, 737, 740, 744, 748, 752, 756, 763, 767, 772, 777, 780, 785, 789, 795, 799, 804, 808, 813, 817, 821, 825, 830, 834, 838, 844, 963, 968, 973, 978, 982, 986, 990, 994, 998, 1004, 1008, 1012, 1015, 1019, 1024, 1027, 1032, 1037, 1040, 1046, 1049, 1054, 1058, 1065, 1069, 1073, 1077, 1081, 1084, 1088, 1093, 1096, 1100, 1105, 1110, 1114, 1117, 1120, 1124, 1129, 1136, 1140, 1146, 1149, 1153, 1158, 1162, 1166, 1169, 1174, 1179, 1182, 1185, 1190, 1194, 1197, 1201, 1208, 1212, 1216, 1220, 1224, 1228, 1232, 1236]
def mj_plS : List Nat := [363, 368, 373, 377, 381, 0, 1, 2, 3, 4, 5, 6, 7, 8, 9, 428, 432, 436, 440, 447, 452, 456, 460, 464, 468, 478, 10, 491, 499, 11, 508, 12, 518, 525, 532, 13, 544, 548, 552, 556, 564, 568, 572, 14, 580, 584, 588, 592, 15, 16, 607, 611, 615, 619, 623, 17, 633, 18, 650, 654, 658, 662, 666, 671, 675, 679, 683, 19, 20, 21, 22, 23, 24, 722, 726, 730, 734, 741, 745, 25, 757, 764, 768, 773, 26, 781, 27, 28, 796, 800, 805, 809, 814, 818, 822, 826, 831, 835, 839, 964, 974, 29, 30, 31, 32, 33, 34, 35, 36, 37, 1016, 1020, 38, 1028, 39, 40, 1041, 41, 1050, 42, 1059, 43, 44, 45, 46, 47, 1085, 1089, 48, 1097, 1101, 1106, 49, 50, 1121, 1125, 51, 1137, 1141, 52, 1150, 1154, 53, 54, 55, 1170, 56, 57, 1186, 58, 59, 1198, 1202, 1209, 1213, 1217, 1221, 1225, 1229, 1233, 1237]
/-- an entry of a class's pool: index, kind (0 field, 1 field of a nest mate, 2 method, 3 constructor of a nest mate, 4 class, 5 int, 6 long, 7 arraycopy, 8 Object's constructor), what it names -/
abbrev mj_E : Type := Nat × Nat × Nat × Nat
def mj_pool_0 : List mj_E := [(61, 0, 4, 3), (70, 0, 4, 4), (93, 0, 4, 8), (30, 0, 7, 3), (11, 0, 0, 0), (15, 0, 0, 1), (18, 0, 0, 2), (21, 0, 0, 3), (24, 0, 0, 4), (27, 0, 0, 5), (39, 0, 0, 6), (46, 0, 0, 7), (5, 8, 0, 0), (35, 2, 88, 0), (66, 2, 89, 0), (73, 2, 62, 0), (43, 2, 90, 0), (77, 2, 91, 0), (83, 10, 0, 0), (49, 2, 92, 0), (53, 2, 93, 0), (89, 2, 94, 0), (57, 2, 95, 0)]
def mj_pl_0 : List Nat := [107, 111, 121, 184, 305, 306, 307, 308, 309, 310, 311, 312, 304, 685, 689, 692, 693, 697, 703, 704, 708, 712, 716]
def mj_pool_1 : List mj_E := [(23, 0, 7, 0), (9, 0, 1, 0), (15, 0, 1, 1), (18, 0, 1, 2), (3, 8, 0, 0), (26, 2, 40, 0), (22, 5, 3294967292, 0)]
def mj_pl_1 : List Nat := [176, 272, 273, 274, 271, 811, 802]
def mj_pool_2 : List mj_E := [(11, 0, 2, 0), (17, 0, 2, 1), (21, 0, 2, 2), (3, 8, 0, 0), (26, 2, 49, 0), (25, 3, 3, 0), (9, 4, 7, 0)]
def mj_pl_2 : List Nat := [235, 236, 237, 232, 828, 234, 233]
def mj_pool_3 : List mj_E := [(11, 0, 3, 0), (22, 0, 3, 1), (18, 0, 3, 2), (3, 8, 0, 0), (25, 2, 48, 0), (31, 2, 49, 0), (35, 10, 0, 0), (17, 3, 3, 0), (9, 4, 7, 0)]
def mj_pl_3 : List Nat := [216, 217, 218, 212, 520, 523, 527, 215, 213]
def mj_pool_4 : List mj_E := [(24, 0, 4, 0), (28, 0, 4, 1), (32, 0, 4, 2), (35, 0, 4, 3), (38, 0, 4, 4), (9, 0, 4, 5), (15, 0, 4, 6), (18, 0, 4, 7), (21, 0, 4, 8), (3, 8, 0, 0), (41, 7, 0, 0)]
def mj_pl_4 : List Nat := [96, 99, 101, 103, 109, 113, 115, 117, 119, 95, 442]
def mj_pool_5 : List mj_E := [(27, 0, 4, 3), (18, 0, 7, 0), (39, 0, 7, 1), (9, 0, 5, 0), (15, 0, 5, 1), (23, 0, 5, 2), (3, 8, 0, 0), (32, 2, 72, 0), (36, 2, 53, 0), (42, 2, 73, 0), (46, 2, 52, 0), (59, 2, 75, 0), (62, 2, 76, 0), (52, 2, 77, 0), (56, 2, 78, 0)]
def mj_pl_5 : List Nat := [104, 175, 179, 289, 290, 291, 288, 621, 625, 626, 630, 635, 638, 642, 645]
def mj_pool_6 : List mj_E := [(9, 0, 6, 0), (15, 0, 6, 1), (18, 0, 6, 2), (22, 0, 6, 3), (3, 8, 0, 0), (26, 5, 3294967292, 0)]
def mj_pl_6 : List Nat := [252, 253, 254, 255, 251, 770]
def mj_pool_7 : List mj_E := [(51, 0, 4, 3), (43, 0, 4, 5), (40, 0, 4, 6), (44, 0, 4, 7), (9, 0, 7, 0), (15, 0, 7, 1), (18, 0, 7, 2), (21, 0, 7, 3), (24, 0, 7, 4), (33, 0, 7, 5), (37, 0, 7, 6), (3, 8, 0, 0), (27, 7, 0, 0), (45, 2, 36, 0), (54, 2, 51, 0), (58, 2, 52, 0), (62, 2, 53, 0), (65, 2, 35, 0), (69, 2, 57, 0), (72, 2, 72, 0), (75, 2, 103, 0)]
def mj_pl_7 : List Nat := [106, 114, 116, 118, 174, 178, 181, 183, 186, 188, 190, 173, 449, 470, 534, 538, 542, 558, 559, 668, 747]
def mj_pool_8 : List mj_E := [(64, 0, 4, 0), (68, 0, 4, 3), (71, 0, 4, 4), (9, 0, 8, 0), (18, 0, 8, 1), (26, 0, 8, 2), (30, 0, 8, 3), (33, 0, 8, 4), (22, 0, 8, 5), (3, 8, 0, 0), (36, 2, 14, 0), (39, 2, 15, 0), (45, 2, 16, 0), (42, 2, 17, 0), (49, 2, 18, 0), (53, 2, 19, 0), (57, 2, 20, 0), (60, 2, 21, 0), (74, 2, 22, 0), (78, 2, 23, 0), (94, 2, 24, 0), (82, 2, 25, 0), (85, 2, 26, 0), (88, 2, 27, 0), (91, 2, 28, 0), (17, 3, 2, 0), (15, 4, 4, 0), (29, 5, 3294967292, 0)]
def mj_pl_8 : List Nat := [98, 108, 112, 143, 144, 146, 148, 149, 151, 89, 379, 383, 387, 391, 395, 399, 403, 407, 411, 415, 419, 422, 426, 430, 434, 92, 90, 370]
def mj_pool_9 : List mj_E := [(108, 0, 4, 0), (112, 0, 4, 1), (115, 0, 4, 2), (102, 0, 4, 3), (118, 0, 4, 4), (169, 0, 4, 8), (147, 0, 7, 0), (140, 0, 7, 1), (144, 0, 7, 2), (166, 0, 7, 3), (172, 0, 7, 4), (124, 0, 7, 5), (131, 0, 7, 6), (12, 0, 9, 0), (19, 0, 9, 1), (26, 0, 9, 2), (33, 0, 9, 3), (40, 0, 9, 4), (47, 0, 9, 5), (54, 0, 9, 6), (61, 0, 9, 7), (68, 0, 9, 8), (279, 0, 9, 9), (84, 1, 8, 1), (121, 1, 8, 2), (80, 1, 8, 4), (105, 1, 8, 5), (134, 1, 3, 2), (98, 1, 6, 3), (101, 1, 1, 2), (3, 8, 0, 0), (32, 2, 4, 0), (39, 2, 5, 0), (73, 2, 11, 0), (77, 2, 13, 0), (87, 2, 29, 0), (91, 2, 30, 0), (94, 2, 31, 0), (97, 2, 32, 0), (127, 2, 35, 0), (135, 2, 39, 0), (150, 2, 36, 0), (156, 2, 40, 0), (159, 2, 42, 0), (163, 2, 44, 0), (176, 2, 46, 0), (179, 2, 47, 0), (183, 2, 50, 0), (187, 2, 56, 0), (190, 2, 61, 0), (194, 2, 62, 0), (198, 2, 63, 0), (202, 2, 66, 0), (296, 2, 67, 0), (205, 2, 69, 0), (209, 2, 71, 0), (213, 2, 74, 0), (216, 2, 79, 0), (219, 2, 81, 0), (222, 2, 83, 0), (226, 2, 84, 0), (229, 2, 85, 0), (232, 2, 87, 0), (236, 2, 96, 0), (239, 2, 97, 0), (242, 2, 99, 0), (245, 2, 100, 0), (249, 2, 102, 0), (252, 2, 104, 0), (299, 2, 91, 0), (257, 10, 0, 0), (264, 2, 107, 0), (267, 2, 109, 0), (304, 2, 110, 0), (270, 2, 111, 0), (307, 2, 112, 0), (310, 9, 0, 0), (273, 2, 114, 0), (275, 2, 116, 0), (282, 2, 120, 0), (286, 2, 122, 0), (289, 2, 123, 0), (11, 3, 1, 0), (18, 3, 2, 0), (25, 3, 3, 0), (46, 3, 6, 0), (53, 3, 7, 0), (60, 3, 8, 0), (67, 3, 9, 0), (9, 4, 8, 0), (16, 4, 4, 0), (23, 4, 7, 0), (30, 4, 3, 0), (37, 4, 2, 0), (44, 4, 6, 0), (51, 4, 1, 0), (58, 4, 5, 0), (65, 4, 0, 0), (72, 5, 3294967294, 0), (139, 5, 3294967295, 0), (175, 5, 100000, 0), (186, 5, 3294967293, 0), (292, 5, 3294967292, 0), (293, 5, 1103515245, 0), (294, 5, 2147483647, 0), (295, 5, 65536, 0), (255, 6, 1000000000, 0), (262, 6, 100, 0)]
def mj_pl_9 : List Nat := [97, 100, 102, 105, 110, 120, 177, 180, 182, 185, 187, 189, 191, 330, 331, 332, 333, 334, 335, 336, 337, 338, 339, 145, 147, 150, 152, 219, 256, 275, 81, 209, 229, 366, 375, 438, 445, 450, 454, 466, 480, 485, 486, 493, 501, 510, 516, 530, 554, 574, 578, 582, 594, 598, 609, 617, 631, 648, 656, 664, 669, 673, 681, 720, 724, 732, 736, 743, 750, 754, 760, 766, 775, 779, 783, 787, 791, 798, 807, 824, 833, 837, 86, 167, 170, 248, 268, 285, 301, 84, 166, 168, 207, 227, 246, 266, 283, 299, 365, 484, 505, 514, 515, 602, 603, 604, 759, 761]
def mj_pool_10 : List mj_E := [(7, 0, 10, 0), (13, 0, 10, 1), (168, 0, 10, 2), (72, 0, 10, 3), (156, 0, 10, 4), (159, 0, 10, 5), (76, 0, 10, 6), (83, 0, 10, 7), (17, 0, 10, 8), (20, 0, 10, 9), (89, 0, 10, 10), (93, 0, 10, 11), (100, 0, 10, 12), (118, 0, 10, 13), (103, 0, 10, 14), (23, 0, 10, 15), (121, 0, 10, 16), (127, 0, 10, 17), (130, 0, 10, 18), (133, 0, 10, 19), (27, 0, 10, 20), (30, 0, 10, 21), (136, 0, 10, 22), (33, 0, 10, 23), (36, 0, 10, 24), (39, 0, 10, 25), (42, 0, 10, 26), (45, 0, 10, 27), (48, 0, 10, 28), (51, 0, 10, 29), (54, 0, 10, 30), (162, 0, 10, 31), (57, 0, 10, 32), (60, 0, 10, 33), (63, 0, 10, 34), (165, 0, 10, 35), (66, 0, 10, 36), (69, 0, 10, 37), (1, 8, 0, 0), (79, 2, 126, 0), (106, 2, 128, 0), (96, 2, 129, 0), (153, 2, 130, 0), (110, 2, 131, 0), (139, 2, 132, 0), (124, 2, 133, 0), (143, 2, 134, 0), (146, 2, 135, 0), (149, 2, 136, 0), (171, 2, 139, 0), (174, 2, 141, 0), (178, 2, 142, 0), (183, 2, 144, 0), (187, 2, 146, 0), (205, 2, 148, 0), (198, 2, 149, 0), (208, 2, 150, 0), (191, 2, 151, 0), (195, 2, 152, 0), (212, 2, 155, 0), (220, 2, 159, 0), (223, 2, 160, 0), (217, 2, 161, 0), (233, 2, 164, 0), (238, 2, 167, 0), (242, 2, 170, 0), (245, 2, 171, 0), (248, 2, 172, 0), (259, 2, 174, 0), (255, 2, 175, 0), (251, 2, 176, 0), (265, 2, 178, 0), (262, 2, 179, 0), (88, 5, 3294967294, 0), (92, 5, 3294967292, 0), (177, 5, 3294967295, 0), (190, 5, 100000, 0), (204, 5, 3294967293, 0), (232, 5, 65536, 0), (254, 5, 1000000, 0), (86, 6, 255, 0), (114, 6, 48, 0), (116, 6, 57, 0), (181, 6, 7, 0), (202, 6, 30, 0), (215, 6, 18446744073709551615, 0), (226, 6, 1103515245, 0), (228, 6, 12345, 0), (230, 6, 2147483648, 0), (236, 6, 3, 0), (268, 6, 8, 0), (270, 6, 100, 0), (272, 6, 1000000000, 0)]
def mj_pl_10 : List Nat := [847, 848, 849, 850, 851, 852, 853, 854, 855, 856, 857, 858, 859, 860, 861, 862, 863, 864, 865, 866, 867, 868, 869, 870, 871, 872, 873, 874, 875, 876, 877, 878, 879, 880, 881, 882, 883, 884, 846, 967, 976, 980, 984, 988, 992, 996, 1002, 1006, 1010, 1022, 1030, 1035, 1044, 1052, 1063, 1067, 1071, 1075, 1079, 1091, 1108, 1112, 1116, 1127, 1144, 1156, 1160, 1164, 1172, 1177, 1181, 1188, 1192, 970, 971, 1034, 1056, 1062, 1134, 1176, 966, 1000, 1001, 1043, 1061, 1103, 1131, 1132, 1133, 1143, 1204, 1205, 1206]
def mj_pool_11 : List mj_E := [(10, 2, 37, 0), (16, 2, 36, 0), (9, 5, 16777215, 0)]
def mj_pl_11 : List Nat := [473, 496, 541]
def mj_pool_12 : List mj_E := [(9, 2, 0, 0), (13, 2, 10, 0), (18, 2, 12, 0), (23, 2, 33, 0), (27, 2, 34, 0), (31, 2, 38, 0), (36, 2, 41, 0), (40, 2, 43, 0), (44, 2, 45, 0), (48, 2, 54, 0), (52, 2, 55, 0), (56, 2, 58, 0), (60, 2, 59, 0), (64, 2, 60, 0), (69, 2, 64, 0), (74, 2, 65, 0), (78, 2, 68, 0), (82, 2, 70, 0), (86, 2, 80, 0), (90, 2, 82, 0), (94, 2, 86, 0), (98, 2, 98, 0), (102, 2, 101, 0), (106, 2, 105, 0), (110, 2, 106, 0), (115, 2, 108, 0), (119, 2, 113, 0), (123, 2, 115, 0), (127, 2, 117, 0), (131, 2, 118, 0), (135, 2, 119, 0), (139, 2, 121, 0), (12, 2, 124, 0), (17, 2, 125, 0), (22, 2, 127, 0), (26, 2, 137, 0), (30, 2, 138, 0), (35, 2, 140, 0), (39, 2, 143, 0), (43, 2, 145, 0), (47, 2, 147, 0), (51, 2, 153, 0), (55, 2, 154, 0), (59, 2, 156, 0), (63, 2, 157, 0), (68, 2, 158, 0), (73, 2, 162, 0), (77, 2, 163, 0), (81, 2, 165, 0), (85, 2, 166, 0), (89, 2, 168, 0), (93, 2, 169, 0), (97, 2, 173, 0), (101, 2, 177, 0), (105, 2, 180, 0), (109, 2, 181, 0), (114, 2, 182, 0), (118, 2, 183, 0), (122, 2, 184, 0), (126, 2, 185, 0), (130, 2, 186, 0), (134, 2, 187, 0), (138, 2, 188, 0), (142, 2, 189, 0), (7, 4, 9, 0), (10, 4, 10, 0)]
def mj_pl_12 : List Nat := [78, 361, 371, 458, 462, 476, 489, 497, 506, 546, 550, 562, 566, 570, 586, 590, 605, 613, 652, 660, 677, 728, 739, 755, 762, 771, 794, 803, 812, 816, 820, 829, 843, 962, 972, 1014, 1018, 1026, 1039, 1048, 1057, 1083, 1087, 1095, 1099, 1104, 1119, 1123, 1135, 1139, 1148, 1152, 1168, 1184, 1196, 1200, 1207, 1211, 1215, 1219, 1223, 1227, 1231, 1235, 76, 841]
def mj_pool_13 : List mj_E := [(265, 5, 1431655765, 0), (266, 5, 858993459, 0), (267, 5, 252645135, 0)]
def mj_pl_13 : List Nat := [700, 701, 702]
def mj_pool_14 : List mj_E := []
def mj_pl_14 : List Nat := []
def mj_pools : List (List mj_E) := [mj_pool_0, mj_pool_1, mj_pool_2, mj_pool_3, mj_pool_4, mj_pool_5, mj_pool_6, mj_pool_7, mj_pool_8, mj_pool_9, mj_pool_10, mj_pool_11, mj_pool_12, mj_pool_13, mj_pool_14]
def mj_law : mj_M := (x, code, 4, some .boolean, 12, 1, 0, 7, 156)
def mj_tys : List (Nat → FieldType) := [(fun k => tyX0 k), (fun k => tyX1 k), (fun k => tyX2 k), (fun k => tyX3 k), (fun k => tyX4 k), (fun k => tyX5 k), (fun k => tyX6 k), (fun k => tyX8 k), (fun k => tyX9 k), (fun k => tyX10 k), (fun k => tyX11 k)]
def mj_plC_0 : List Nat := [80, 88, 94, 172, 211, 231, 250, 270, 287, 303, 364, 369, 374, 378, 382, 386, 390, 394, 398, 402, 406, 410, 414, 418]
def mj_plC_1 : List Nat := [421, 425, 429, 433, 437, 441, 448, 453, 457, 461, 465, 469, 472, 475, 479, 483, 488, 492, 495, 500, 504, 509, 513, 519]
def mj_plC_2 : List Nat := [522, 526, 533, 537, 540, 545, 549, 553, 557, 561, 565, 569, 573, 577, 581, 585, 589, 593, 597, 601, 608, 612, 616, 620]
def mj_plC_3 : List Nat := [624, 629, 634, 637, 641, 644, 647, 651, 655, 659, 663, 667, 672, 676, 680, 684, 688, 691, 696, 699, 707, 711, 715, 719]
def mj_plC_4 : List Nat := [723, 727, 731, 735, 738, 742, 746, 749, 753, 758, 765, 769, 774, 778, 782, 786, 790, 797, 801, 806, 810, 815, 819, 823]
def mj_plC_5 : List Nat := [827, 832, 836, 840, 845, 965, 969, 975, 979, 983, 987, 991, 995, 999, 1005, 1009, 1013, 1017, 1021, 1025, 1029, 1033, 1038, 1042]
def mj_plC_6 : List Nat := [1047, 1051, 1055, 1060, 1066, 1070, 1074, 1078, 1082, 1086, 1090, 1094, 1098, 1102, 1107, 1111, 1115, 1118, 1122, 1126, 1130, 1138, 1142, 1147]
def mj_plC_7 : List Nat := [1151, 1155, 1159, 1163, 1167, 1171, 1175, 1180, 1183, 1187, 1191, 1195, 1199, 1203, 1210, 1214, 1218, 1222, 1226, 1230, 1234, 1238]
