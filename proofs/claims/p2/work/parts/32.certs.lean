def mj_m_19 : mj_M := (⟨"SootMaps$Text", "fail", "(II)V"⟩, prog_11_method_6_code, 3, none, 8, 2, 1, 0, 0)
def mj_m_24 : mj_M := (⟨"SootMaps$Text", "isFigure", "(C)Z"⟩, prog_11_method_13_code, 1, (some .boolean), 8, 1, 0, 0, 0)
def mj_m_26 : mj_M := (⟨"SootMaps$Plan", "tellCity", "(II)V"⟩, prog_6_method_4_code, 3, none, 4, 2, 1, 0, 0)
def mj_m_33 : mj_M := (⟨"SootMaps", "fault", "()I"⟩, prog_1_method_4_code, 1, (some .int), 9, 0, 1, 0, 0)
def mj_m_34 : mj_M := (⟨"SootMaps", "told", "(I)I"⟩, prog_1_method_5_code, 2, (some .int), 9, 1, 1, 3, 65)
def mj_m_35 : mj_M := (⟨"SootMaps$Streets", "layersOfAll", "()I"⟩, prog_10_method_4_code, 3, (some .int), 7, 0, 1, 2, 43)
def mj_m_36 : mj_M := (⟨"SootMaps$Soot", "layers", "(I)I"⟩, prog_9_method_5_code, 3, (some .int), 11, 1, 0, 1, 21)
def mj_m_37 : mj_M := (⟨"SootMaps$Soot", "fromNewest", "(II)I"⟩, prog_9_method_8_code, 2, (some .int), 11, 2, 0, 0, 0)
def mj_m_38 : mj_M := (⟨"SootMaps", "house", "(II)I"⟩, prog_1_method_6_code, 3, (some .int), 9, 2, 1, 2, 43)
def mj_m_39 : mj_M := (⟨"SootMaps", "isHouse", "(I)Z"⟩, prog_1_method_33_code, 2, (some .boolean), 9, 1, 1, 0, 0)
def mj_m_40 : mj_M := (⟨"SootMaps$Soot", "newest", "(I)I"⟩, prog_9_method_6_code, 1, (some .int), 11, 1, 0, 1, 21)
def mj_m_41 : mj_M := (⟨"SootMaps", "layer", "(II)I"⟩, prog_1_method_7_code, 3, (some .int), 9, 2, 1, 3, 65)
def mj_m_42 : mj_M := (⟨"SootMaps$Soot", "fromOldest", "(II)I"⟩, prog_9_method_7_code, 3, (some .int), 11, 2, 0, 2, 43)
def mj_m_43 : mj_M := (⟨"SootMaps", "sweep", "(II)I"⟩, prog_1_method_8_code, 3, (some .int), 9, 2, 1, 1, 21)
def mj_m_44 : mj_M := (⟨"SootMaps", "isSweep", "(I)Z"⟩, prog_1_method_34_code, 2, (some .boolean), 9, 1, 1, 0, 0)
def mj_m_52 : mj_M := (⟨"SootMaps$Soot", "laid", "(II)I"⟩, prog_9_method_2_code, 2, (some .int), 11, 2, 0, 0, 0)
def mj_m_53 : mj_M := (⟨"SootMaps$Plan", "neighbour", "(I)I"⟩, prog_6_method_7_code, 3, (some .int), 4, 1, 1, 0, 0)
def mj_m_62 : mj_M := (⟨"SootMaps$Streets", "canGive", "(III)Z"⟩, prog_10_method_8_code, 4, (some .boolean), 7, 3, 1, 0, 0)
def mj_m_70 : mj_M := (⟨"SootMaps", "burned", "(III)I"⟩, prog_1_method_18_code, 4, (some .int), 9, 3, 1, 3, 71)
def mj_m_71 : mj_M := (⟨"SootMaps$Rows", "lookInto", "(ILSootMaps$Streets;LSootMaps$Plan;)V"⟩, prog_7_method_2_code, 7, none, 5, 3, 1, 2, 45)
def mj_m_72 : mj_M := (⟨"SootMaps$Streets", "down", "(I)I"⟩, prog_10_method_11_code, 5, (some .int), 7, 1, 1, 0, 0)
def mj_m_73 : mj_M := (⟨"SootMaps$Rows", "addToHeap", "(III)V"⟩, prog_7_method_3_code, 5, none, 5, 3, 1, 1, 21)
def mj_m_74 : mj_M := (⟨"SootMaps$Rows", "howMany", "(I)I"⟩, prog_7_method_7_code, 4, (some .int), 5, 1, 1, 2, 47)
def mj_m_75 : mj_M := (⟨"SootMaps$Rows", "rowsOf", "(I)I"⟩, prog_7_method_4_code, 1, (some .int), 5, 1, 0, 0, 0)
def mj_m_76 : mj_M := (⟨"SootMaps$Rows", "fits", "(II)Z"⟩, prog_7_method_6_code, 6, (some .boolean), 5, 2, 1, 1, 22)
def mj_m_77 : mj_M := (⟨"SootMaps$Rows", "kindIn", "(III)I"⟩, prog_7_method_5_code, 3, (some .int), 5, 3, 0, 0, 0)
def mj_m_78 : mj_M := (⟨"SootMaps$Soot", "heaped", "(III)I"⟩, prog_9_method_3_code, 3, (some .int), 11, 3, 0, 0, 0)
def mj_m_79 : mj_M := (⟨"SootMaps$Rows", "fitting", "(II)I"⟩, prog_7_method_8_code, 5, (some .int), 5, 2, 1, 2, 47)
def mj_m_80 : mj_M := (⟨"SootMaps", "sure", "(III)I"⟩, prog_1_method_19_code, 4, (some .int), 9, 3, 1, 3, 72)
def mj_m_81 : mj_M := (⟨"SootMaps$Rows", "sameInAll", "(II)I"⟩, prog_7_method_9_code, 6, (some .int), 5, 2, 1, 2, 47)
def mj_m_82 : mj_M := (⟨"SootMaps", "flues", "(II)I"⟩, prog_1_method_20_code, 3, (some .int), 9, 2, 1, 2, 48)
def mj_m_83 : mj_M := (⟨"SootMaps$Streets", "reach", "(ILSootMaps$Plan;)I"⟩, prog_10_method_12_code, 4, (some .int), 7, 2, 1, 1, 24)
def mj_m_84 : mj_M := (⟨"SootMaps$Streets", "heatOf", "(II)I"⟩, prog_10_method_13_code, 5, (some .int), 7, 2, 1, 1, 24)
def mj_m_85 : mj_M := (⟨"SootMaps$Streets", "likeOf", "(II)I"⟩, prog_10_method_14_code, 5, (some .int), 7, 2, 1, 0, 0)
def mj_m_91 : mj_M := (⟨"java/lang/Integer", "bitCount", "(I)I"⟩, prog_14_method_49_code, 1, (some .int), 13, 1, 0, 0, 0)
def mj_m_98 : mj_M := (⟨"SootMaps", "ring", "(I)I"⟩, prog_1_method_22_code, 4, (some .int), 9, 1, 1, 1, 22)
def mj_m_99 : mj_M := (⟨"SootMaps$Streets", "hasNewFor", "(II)Z"⟩, prog_10_method_9_code, 3, (some .boolean), 7, 2, 1, 0, 0)
def mj_m_100 : mj_M := (⟨"SootMaps", "ofPair", "(III)I"⟩, prog_1_method_39_code, 3, (some .int), 9, 3, 0, 0, 0)
def mj_m_101 : mj_M := (⟨"SootMaps", "brushes", "(II)I"⟩, prog_1_method_23_code, 3, (some .int), 9, 2, 1, 3, 72)
def mj_m_102 : mj_M := (⟨"SootMaps$Streets", "fluesWith", "(II)I"⟩, prog_10_method_15_code, 5, (some .int), 7, 2, 1, 2, 43)
def mj_m_103 : mj_M := (⟨"SootMaps$Soot", "holds", "(II)Z"⟩, prog_9_method_9_code, 3, (some .boolean), 11, 2, 0, 1, 21)
def mj_m_104 : mj_M := (⟨"SootMaps", "mostFeared", "(I)I"⟩, prog_1_method_40_code, 6, (some .int), 9, 1, 1, 2, 47)
def mj_m_105 : mj_M := (⟨"SootMaps", "wet", "(II)I"⟩, prog_1_method_24_code, 7, (some .int), 9, 2, 1, 1, 22)
def mj_m_108 : mj_M := (⟨"SootMaps", "next", "(II)I"⟩, prog_1_method_26_code, 3, (some .int), 9, 2, 1, 4, 98)
def mj_m_109 : mj_M := (⟨"SootMaps", "suspects", "(I)I"⟩, prog_1_method_41_code, 4, (some .int), 9, 1, 1, 2, 47)
def mj_m_110 : mj_M := (⟨"SootMaps$Sights", "allow", "(II)Z"⟩, prog_8_method_3_code, 4, (some .boolean), 6, 2, 1, 0, 0)
def mj_m_111 : mj_M := (⟨"SootMaps", "partingFlue", "(I)I"⟩, prog_1_method_42_code, 8, (some .int), 9, 1, 1, 3, 71)
def mj_m_112 : mj_M := (⟨"SootMaps", "howManyReach", "(II)I"⟩, prog_1_method_43_code, 5, (some .int), 9, 2, 1, 2, 47)
def mj_m_115 : mj_M := (⟨"SootMaps", "judge", "()I"⟩, prog_1_method_28_code, 1, (some .int), 9, 0, 1, 3, 63)
def mj_m_116 : mj_M := (⟨"SootMaps$Book", "firstWrong", "(LSootMaps$Streets;)I"⟩, prog_3_method_3_code, 3, (some .int), 1, 1, 1, 2, 41)
def mj_m_117 : mj_M := (⟨"SootMaps", "tear", "()I"⟩, prog_1_method_29_code, 2, (some .int), 9, 0, 1, 0, 0)
def mj_m_118 : mj_M := (⟨"SootMaps", "seed", "(I)I"⟩, prog_1_method_30_code, 3, (some .int), 9, 1, 1, 0, 0)
def mj_m_126 : mj_M := (⟨"SootMapsModel", "in", "(JJJ)Z"⟩, prog_13_method_3_code, 6, (some .boolean), 10, 3, 0, 0, 0)
def mj_m_137 : mj_M := (⟨"SootMapsModel", "fault", "()I"⟩, prog_13_method_20_code, 1, (some .int), 10, 0, 1, 0, 0)
def mj_m_138 : mj_M := (⟨"SootMapsModel", "told", "(I)I"⟩, prog_13_method_22_code, 2, (some .int), 10, 1, 1, 1, 22)
def mj_m_139 : mj_M := (⟨"SootMapsModel", "layersOfAll", "()I"⟩, prog_13_method_21_code, 3, (some .int), 10, 0, 1, 0, 0)
def mj_m_140 : mj_M := (⟨"SootMapsModel", "house", "(II)I"⟩, prog_13_method_25_code, 3, (some .int), 10, 2, 1, 2, 46)
def mj_m_141 : mj_M := (⟨"SootMapsModel", "isHouse", "(I)Z"⟩, prog_13_method_7_code, 2, (some .boolean), 10, 1, 1, 1, 25)
def mj_m_142 : mj_M := (⟨"SootMapsModel", "newestOf", "(I)I"⟩, prog_13_method_24_code, 2, (some .int), 10, 1, 1, 0, 0)
def mj_m_143 : mj_M := (⟨"SootMapsModel", "layer", "(II)I"⟩, prog_13_method_26_code, 3, (some .int), 10, 2, 1, 2, 46)
def mj_m_144 : mj_M := (⟨"SootMapsModel", "layerAt", "(III)I"⟩, prog_13_method_23_code, 4, (some .int), 10, 3, 1, 0, 0)
def mj_m_145 : mj_M := (⟨"SootMapsModel", "sweep", "(II)I"⟩, prog_13_method_27_code, 3, (some .int), 10, 2, 1, 2, 46)
def mj_m_146 : mj_M := (⟨"SootMapsModel", "isSweep", "(I)Z"⟩, prog_13_method_8_code, 2, (some .boolean), 10, 1, 1, 1, 25)
def mj_m_152 : mj_M := (⟨"SootMapsModel", "blownTo", "(I)I"⟩, prog_13_method_29_code, 3, (some .int), 10, 1, 1, 2, 46)
def mj_m_160 : mj_M := (⟨"SootMapsModel", "isKnown", "(II)Z"⟩, prog_13_method_39_code, 3, (some .boolean), 10, 2, 1, 1, 21)
def mj_m_161 : mj_M := (⟨"SootMapsModel", "has", "(II)Z"⟩, prog_13_method_4_code, 2, (some .boolean), 10, 2, 0, 0, 0)
def mj_m_164 : mj_M := (⟨"SootMapsModel", "draw", "(I)I"⟩, prog_13_method_42_code, 2, (some .int), 10, 1, 1, 0, 0)
def mj_m_175 : mj_M := (⟨"SootMapsModel", "moreOf", "(II)I"⟩, prog_13_method_52_code, 3, (some .int), 10, 2, 1, 1, 22)
def mj_m_176 : mj_M := (⟨"SootMapsModel", "ones", "(I)I"⟩, prog_13_method_5_code, 3, (some .int), 10, 1, 0, 0, 0)
def mj_m_179 : mj_M := (⟨"SootMapsModel", "canGive", "(II)Z"⟩, prog_13_method_55_code, 3, (some .boolean), 10, 2, 1, 0, 0)
def mj_m_181 : mj_M := (⟨"SootMapsModel", "wet", "(II)I"⟩, prog_13_method_59_code, 7, (some .int), 10, 2, 1, 1, 25)
def mj_m_185 : mj_M := (⟨"SootMapsModel", "judge", "()I"⟩, prog_13_method_63_code, 2, (some .int), 10, 0, 1, 1, 21)
def mj_m_186 : mj_M := (⟨"SootMapsModel", "tear", "()I"⟩, prog_13_method_64_code, 2, (some .int), 10, 0, 1, 0, 0)
def mj_m_187 : mj_M := (⟨"SootMapsModel", "seed", "(I)I"⟩, prog_13_method_65_code, 3, (some .int), 10, 1, 1, 0, 0)
def ab_s_33_0_d : ab_M := (33, [(2, 0, 0, 0)], [(some (0, -2147483648, 2147483647, 0), [(2, 0, 0, 0)])])
set_option maxRecDepth 1000000 in
theorem ab_s_33_0 : ab_sum ab_ty ab_TT ab_s_33_0_d := ab_ok_sum (X := ([], ab_TT, mj_m_33, ab_s_33_0_d.2.1, ab_s_33_0_d.2.2, [], [(0, [(0, (2, 0, 0, 0))], 0, [])], true)) (F := 600) (fun _ h => absurd h List.not_mem_nil) rfl (by decide +kernel)
def ab_s_137_0_d : ab_M := (137, [(2, 234, 0, 0)], [(some (0, -2147483648, 2147483647, 0), [(2, 234, 0, 0)])])
set_option maxRecDepth 1000000 in
theorem ab_s_137_0 : ab_sum ab_ty ab_TT ab_s_137_0_d := ab_ok_sum (X := ([], ab_TT, mj_m_137, ab_s_137_0_d.2.1, ab_s_137_0_d.2.2, [], [(0, [(0, (2, 234, 0, 0))], 0, [])], true)) (F := 600) (fun _ h => absurd h List.not_mem_nil) rfl (by decide +kernel)
def ab_s_37_0_d : ab_M := (37, [(0, 0, 16777215, 0), (0, -2147483648, 2147483647, 0)], [(some (0, 0, 7, 0), [(0, 0, 16777215, 0), (0, -2147483648, 2147483647, 0)])])
set_option maxRecDepth 1000000 in
theorem ab_s_37_0 : ab_sum ab_ty ab_TT ab_s_37_0_d := ab_ok_sum (X := ([], ab_TT, mj_m_37, ab_s_37_0_d.2.1, ab_s_37_0_d.2.2, [], [(0, [(0, (0, 0, 16777215, 1000000)), (1, (0, -2147483648, 2147483647, 1000000))], 0, [])], true)) (F := 600) (fun _ h => absurd h List.not_mem_nil) rfl (by decide +kernel)
def ab_s_36_0_d : ab_M := (36, [(0, 0, 16777215, 0)], [(some (0, -2147483648, 2147483647, 0), [(0, 0, 16777215, 0)])])
set_option maxRecDepth 1000000 in
theorem ab_s_36_0 : ab_sum ab_ty ab_TT ab_s_36_0_d := ab_ok_sum (X := ([ab_s_37_0_d], ab_TT, mj_m_36, ab_s_36_0_d.2.1, ab_s_36_0_d.2.2, [(2, 8)], [(0, [(0, (0, 0, 16777215, 1000000))], 9, [0]), (4, [(2, (0, 0, 8, 1000000)), (1, (0, -2147483648, 2147483647, 1000000)), (0, (0, 0, 16777215, 1000000))], 0, [1])], false)) (F := 600) (List.forall_mem_cons.mpr ⟨ab_s_37_0, fun _ h => absurd h List.not_mem_nil⟩) rfl (by decide +kernel)
def ab_s_35_0_d : ab_M := (35, [(2, 13, 0, 0)], [(some (0, -2147483648, 2147483647, 0), [(2, 13, 0, 0)])])
set_option maxRecDepth 1000000 in
theorem ab_s_35_0 : ab_sum ab_ty ab_TT ab_s_35_0_d := ab_ok_sum (X := ([ab_s_36_0_d], ab_TT, mj_m_35, ab_s_35_0_d.2.1, ab_s_35_0_d.2.2, [(2, 9)], [(0, [(0, (2, 13, 0, 0))], 10, [0]), (4, [(2, (0, 0, 9, 1000000)), (1, (0, -2147483648, 2147483647, 1000000)), (0, (2, 13, 0, 0))], 0, [1])], false)) (F := 600) (List.forall_mem_cons.mpr ⟨ab_s_36_0, fun _ h => absurd h List.not_mem_nil⟩) rfl (by decide +kernel)
def ab_s_34_0_d : ab_M := (34, [(2, 0, 0, 0), (0, -2147483648, 2147483647, 0)], [(some (0, -2147483648, 2147483647, 0), [(2, 0, 0, 0), (0, -2147483648, 2147483647, 0)])])
set_option maxRecDepth 1000000 in
theorem ab_s_34_0 : ab_sum ab_ty ab_TT ab_s_34_0_d := ab_ok_sum (X := ([ab_s_35_0_d], ab_TT, mj_m_34, ab_s_34_0_d.2.1, ab_s_34_0_d.2.2, [], [(0, [(0, (2, 0, 0, 0)), (1, (0, -2147483648, 2147483647, 1000000))], 0, [])], true)) (F := 600) (List.forall_mem_cons.mpr ⟨ab_s_35_0, fun _ h => absurd h List.not_mem_nil⟩) rfl (by decide +kernel)
def ab_s_139_0_d : ab_M := (139, [(2, 234, 0, 0)], [(some (0, -2147483648, 2147483647, 0), [(2, 234, 0, 0)])])
set_option maxRecDepth 1000000 in
theorem ab_s_139_0 : ab_sum ab_ty ab_TT ab_s_139_0_d := ab_ok_sum (X := ([], ab_TT, mj_m_139, ab_s_139_0_d.2.1, ab_s_139_0_d.2.2, [(2, 9)], [(0, [(0, (2, 234, 0, 0))], 10, [0]), (4, [(2, (0, 0, 9, 1000000)), (1, (0, -2147483648, 2147483647, 1000000)), (0, (2, 234, 0, 0))], 0, [1])], false)) (F := 600) (fun _ h => absurd h List.not_mem_nil) rfl (by decide +kernel)
def ab_s_138_0_d : ab_M := (138, [(2, 234, 0, 0), (0, -2147483648, 2147483647, 0)], [(some (0, -2147483648, 2147483647, 0), [(2, 234, 0, 0), (0, -2147483648, 2147483647, 0)])])
set_option maxRecDepth 1000000 in
theorem ab_s_138_0 : ab_sum ab_ty ab_TT ab_s_138_0_d := ab_ok_sum (X := ([ab_s_139_0_d], ab_TT, mj_m_138, ab_s_138_0_d.2.1, ab_s_138_0_d.2.2, [], [(0, [(0, (2, 234, 0, 0)), (1, (0, -2147483648, 2147483647, 1000000))], 0, [])], true)) (F := 600) (List.forall_mem_cons.mpr ⟨ab_s_139_0, fun _ h => absurd h List.not_mem_nil⟩) rfl (by decide +kernel)
def ab_s_39_0_d : ab_M := (39, [(2, 0, 0, 0), (0, -2147483648, 2147483647, 0)], [(some (0, 1, 1, 0), [(2, 0, 0, 0), (0, 0, 8, 0)]), (some (0, 0, 0, 0), [(2, 0, 0, 0), (0, -2147483648, 2147483647, 0)])])
set_option maxRecDepth 1000000 in
theorem ab_s_39_0 : ab_sum ab_ty ab_TT ab_s_39_0_d := ab_ok_sum (X := ([], ab_TT, mj_m_39, ab_s_39_0_d.2.1, ab_s_39_0_d.2.2, [], [(0, [(0, (2, 0, 0, 0)), (1, (0, -2147483648, 2147483647, 1000000))], 0, [])], true)) (F := 600) (fun _ h => absurd h List.not_mem_nil) rfl (by decide +kernel)
def ab_s_40_0_d : ab_M := (40, [(0, 0, 16777215, 0)], [(some (0, 0, 7, 0), [(0, 0, 16777215, 0)])])
set_option maxRecDepth 1000000 in
theorem ab_s_40_0 : ab_sum ab_ty ab_TT ab_s_40_0_d := ab_ok_sum (X := ([ab_s_37_0_d], ab_TT, mj_m_40, ab_s_40_0_d.2.1, ab_s_40_0_d.2.2, [], [(0, [(0, (0, 0, 16777215, 1000000))], 0, [])], true)) (F := 600) (List.forall_mem_cons.mpr ⟨ab_s_37_0, fun _ h => absurd h List.not_mem_nil⟩) rfl (by decide +kernel)
def ab_s_38_0_d : ab_M := (38, [(2, 0, 0, 0), (0, -2147483648, 2147483647, 0), (0, -2147483648, 2147483647, 0)], [(some (0, -2147483648, 2147483647, 0), [(2, 0, 0, 0), (0, -2147483648, 2147483647, 0), (0, -2147483648, 2147483647, 0)])])
set_option maxRecDepth 1000000 in
theorem ab_s_38_0 : ab_sum ab_ty ab_TT ab_s_38_0_d := ab_ok_sum (X := ([ab_s_36_0_d, ab_s_40_0_d, ab_s_39_0_d], ab_TT, mj_m_38, ab_s_38_0_d.2.1, ab_s_38_0_d.2.2, [], [(0, [(0, (2, 0, 0, 0)), (1, (0, -2147483648, 2147483647, 1000000)), (2, (0, -2147483648, 2147483647, 1000000))], 0, [])], true)) (F := 600) (List.forall_mem_cons.mpr ⟨ab_s_36_0, List.forall_mem_cons.mpr ⟨ab_s_40_0, List.forall_mem_cons.mpr ⟨ab_s_39_0, fun _ h => absurd h List.not_mem_nil⟩⟩⟩) rfl (by decide +kernel)
def ab_s_126_0_d : ab_M := (126, [(1, -2147483648, 2147483647, 0), (1, 0, 0, 0), (1, -1, 8, 0)], [(some (0, 1, 1, 0), [(1, 0, 8, 0), (1, 0, 0, 0), (1, -1, 8, 0)]), (some (0, 0, 0, 0), [(1, -2147483648, 2147483647, 0), (1, 0, 0, 0), (1, -1, 8, 0)])])
set_option maxRecDepth 1000000 in
theorem ab_s_126_0 : ab_sum ab_ty ab_TT ab_s_126_0_d := ab_ok_sum (X := ([], ab_TT, mj_m_126, ab_s_126_0_d.2.1, ab_s_126_0_d.2.2, [], [(0, [(0, (1, -2147483648, 2147483647, 1000000)), (2, (1, 0, 0, 1000000)), (4, (1, -1, 8, 1000000))], 0, [])], true)) (F := 600) (fun _ h => absurd h List.not_mem_nil) rfl (by decide +kernel)
def ab_s_141_0_d : ab_M := (141, [(2, 234, 0, 0), (0, -2147483648, 2147483647, 0)], [(some (0, 0, 0, 0), [(2, 234, 0, 0), (0, -2147483648, 2147483647, 0)]), (some (0, 1, 1, 0), [(2, 234, 0, 0), (0, 0, 8, 0)])])
set_option maxRecDepth 1000000 in
theorem ab_s_141_0 : ab_sum ab_ty ab_TT ab_s_141_0_d := ab_ok_sum (X := ([ab_s_126_0_d], ab_TT, mj_m_141, ab_s_141_0_d.2.1, ab_s_141_0_d.2.2, [], [(0, [(0, (2, 234, 0, 0)), (1, (0, -2147483648, 2147483647, 1000000))], 0, [])], true)) (F := 600) (List.forall_mem_cons.mpr ⟨ab_s_126_0, fun _ h => absurd h List.not_mem_nil⟩) rfl (by decide +kernel)
def ab_s_142_0_d : ab_M := (142, [(2, 234, 0, 0), (0, 0, 8, 0)], [(some (0, 0, 8, 0), [(2, 234, 0, 0), (0, 0, 8, 0)])])
set_option maxRecDepth 1000000 in
theorem ab_s_142_0 : ab_sum ab_ty ab_TT ab_s_142_0_d := ab_ok_sum (X := ([], ab_TT, mj_m_142, ab_s_142_0_d.2.1, ab_s_142_0_d.2.2, [], [(0, [(0, (2, 234, 0, 0)), (1, (0, 0, 8, 1000000))], 0, [])], true)) (F := 600) (fun _ h => absurd h List.not_mem_nil) rfl (by decide +kernel)
def ab_s_140_0_d : ab_M := (140, [(2, 234, 0, 0), (0, -2147483648, 2147483647, 0), (0, -2147483648, 2147483647, 0)], [(some (0, -1000000002, 8, 0), [(2, 234, 0, 0), (0, -2147483648, 2147483647, 0), (0, -2147483648, 2147483647, 0)])])
set_option maxRecDepth 1000000 in
theorem ab_s_140_0 : ab_sum ab_ty ab_TT ab_s_140_0_d := ab_ok_sum (X := ([ab_s_141_0_d, ab_s_142_0_d], ab_TT, mj_m_140, ab_s_140_0_d.2.1, ab_s_140_0_d.2.2, [], [(0, [(0, (2, 234, 0, 0)), (1, (0, -2147483648, 2147483647, 1000000)), (2, (0, -2147483648, 2147483647, 1000000))], 0, [])], true)) (F := 600) (List.forall_mem_cons.mpr ⟨ab_s_141_0, List.forall_mem_cons.mpr ⟨ab_s_142_0, fun _ h => absurd h List.not_mem_nil⟩⟩) rfl (by decide +kernel)
def ab_s_42_0_d : ab_M := (42, [(0, 0, 16777215, 0), (0, -2147483648, 2147483647, 0)], [(some (0, 0, 7, 0), [(0, 0, 16777215, 0), (0, -2147483648, 2147483647, 0)])])
set_option maxRecDepth 1000000 in
theorem ab_s_42_0 : ab_sum ab_ty ab_TT ab_s_42_0_d := ab_ok_sum (X := ([ab_s_37_0_d, ab_s_36_0_d], ab_TT, mj_m_42, ab_s_42_0_d.2.1, ab_s_42_0_d.2.2, [], [(0, [(0, (0, 0, 16777215, 1000000)), (1, (0, -2147483648, 2147483647, 1000000))], 0, [])], true)) (F := 600) (List.forall_mem_cons.mpr ⟨ab_s_37_0, List.forall_mem_cons.mpr ⟨ab_s_36_0, fun _ h => absurd h List.not_mem_nil⟩⟩) rfl (by decide +kernel)
def ab_s_41_0_d : ab_M := (41, [(2, 0, 0, 0), (0, -2147483648, 2147483647, 0), (0, -2147483648, 2147483647, 0)], [(some (0, -1000000002, 7, 0), [(2, 0, 0, 0), (0, -2147483648, 2147483647, 0), (0, -2147483648, 2147483647, 0)])])
set_option maxRecDepth 1000000 in
theorem ab_s_41_0 : ab_sum ab_ty ab_TT ab_s_41_0_d := ab_ok_sum (X := ([ab_s_42_0_d, ab_s_39_0_d], ab_TT, mj_m_41, ab_s_41_0_d.2.1, ab_s_41_0_d.2.2, [], [(0, [(0, (2, 0, 0, 0)), (1, (0, -2147483648, 2147483647, 1000000)), (2, (0, -2147483648, 2147483647, 1000000))], 0, [])], true)) (F := 600) (List.forall_mem_cons.mpr ⟨ab_s_42_0, List.forall_mem_cons.mpr ⟨ab_s_39_0, fun _ h => absurd h List.not_mem_nil⟩⟩) rfl (by decide +kernel)
def ab_s_126_1_d : ab_M := (126, [(1, -2147483648, 2147483647, 0), (1, 0, 0, 0), (1, 7, 7, 0)], [(some (0, 1, 1, 0), [(1, 0, 7, 0), (1, 0, 0, 0), (1, 7, 7, 0)]), (some (0, 0, 0, 0), [(1, -2147483648, 2147483647, 0), (1, 0, 0, 0), (1, 7, 7, 0)])])
set_option maxRecDepth 1000000 in
theorem ab_s_126_1 : ab_sum ab_ty ab_TT ab_s_126_1_d := ab_ok_sum (X := ([], ab_TT, mj_m_126, ab_s_126_1_d.2.1, ab_s_126_1_d.2.2, [], [(0, [(0, (1, -2147483648, 2147483647, 1000000)), (2, (1, 0, 0, 1000000)), (4, (1, 7, 7, 1000000))], 0, [])], true)) (F := 600) (fun _ h => absurd h List.not_mem_nil) rfl (by decide +kernel)
def ab_s_144_0_d : ab_M := (144, [(2, 234, 0, 0), (0, 0, 0, 0), (0, 0, 8, 0), (0, 0, 7, 0)], [(some (0, 0, 7, 0), [(2, 234, 0, 0), (0, 0, 0, 0), (0, 0, 8, 0), (0, 0, 7, 0)])])
set_option maxRecDepth 1000000 in
theorem ab_s_144_0 : ab_sum ab_ty ab_TT ab_s_144_0_d := ab_ok_sum (X := ([], ab_TT, mj_m_144, ab_s_144_0_d.2.1, ab_s_144_0_d.2.2, [], [(0, [(0, (2, 234, 0, 0)), (1, (0, 0, 0, 1000000)), (2, (0, 0, 8, 1000000)), (3, (0, 0, 7, 1000000))], 0, [])], true)) (F := 600) (fun _ h => absurd h List.not_mem_nil) rfl (by decide +kernel)
def ab_s_143_0_d : ab_M := (143, [(2, 234, 0, 0), (0, -2147483648, 2147483647, 0), (0, -2147483648, 2147483647, 0)], [(some (0, -1000000002, 7, 0), [(2, 234, 0, 0), (0, -2147483648, 2147483647, 0), (0, -2147483648, 2147483647, 0)])])
set_option maxRecDepth 1000000 in
theorem ab_s_143_0 : ab_sum ab_ty ab_TT ab_s_143_0_d := ab_ok_sum (X := ([ab_s_126_1_d, ab_s_141_0_d, ab_s_144_0_d], ab_TT, mj_m_143, ab_s_143_0_d.2.1, ab_s_143_0_d.2.2, [], [(0, [(0, (2, 234, 0, 0)), (1, (0, -2147483648, 2147483647, 1000000)), (2, (0, -2147483648, 2147483647, 1000000))], 0, [])], true)) (F := 600) (List.forall_mem_cons.mpr ⟨ab_s_126_1, List.forall_mem_cons.mpr ⟨ab_s_141_0, List.forall_mem_cons.mpr ⟨ab_s_144_0, fun _ h => absurd h List.not_mem_nil⟩⟩⟩) rfl (by decide +kernel)
def ab_s_44_0_d : ab_M := (44, [(2, 0, 0, 0), (0, -2147483648, 2147483647, 0)], [(some (0, 1, 1, 0), [(2, 0, 0, 0), (0, 0, 4, 0)]), (some (0, 0, 0, 0), [(2, 0, 0, 0), (0, -2147483648, 2147483647, 0)])])
set_option maxRecDepth 1000000 in
theorem ab_s_44_0 : ab_sum ab_ty ab_TT ab_s_44_0_d := ab_ok_sum (X := ([], ab_TT, mj_m_44, ab_s_44_0_d.2.1, ab_s_44_0_d.2.2, [], [(0, [(0, (2, 0, 0, 0)), (1, (0, -2147483648, 2147483647, 1000000))], 0, [])], true)) (F := 600) (fun _ h => absurd h List.not_mem_nil) rfl (by decide +kernel)
def ab_s_43_0_d : ab_M := (43, [(2, 0, 0, 0), (0, -2147483648, 2147483647, 0), (0, -2147483648, 2147483647, 0)], [(some (0, -2147483648, 2147483647, 0), [(2, 0, 0, 0), (0, -2147483648, 2147483647, 0), (0, -2147483648, 2147483647, 0)])])
set_option maxRecDepth 1000000 in
theorem ab_s_43_0 : ab_sum ab_ty ab_TT ab_s_43_0_d := ab_ok_sum (X := ([ab_s_44_0_d], ab_TT, mj_m_43, ab_s_43_0_d.2.1, ab_s_43_0_d.2.2, [], [(0, [(0, (2, 0, 0, 0)), (1, (0, -2147483648, 2147483647, 1000000)), (2, (0, -2147483648, 2147483647, 1000000))], 0, [])], true)) (F := 600) (List.forall_mem_cons.mpr ⟨ab_s_44_0, fun _ h => absurd h List.not_mem_nil⟩) rfl (by decide +kernel)
def ab_s_126_2_d : ab_M := (126, [(1, -2147483648, 2147483647, 0), (1, 0, 0, 0), (1, -1, 4, 0)], [(some (0, 1, 1, 0), [(1, 0, 4, 0), (1, 0, 0, 0), (1, -1, 4, 0)]), (some (0, 0, 0, 0), [(1, -2147483648, 2147483647, 0), (1, 0, 0, 0), (1, -1, 4, 0)])])
set_option maxRecDepth 1000000 in
theorem ab_s_126_2 : ab_sum ab_ty ab_TT ab_s_126_2_d := ab_ok_sum (X := ([], ab_TT, mj_m_126, ab_s_126_2_d.2.1, ab_s_126_2_d.2.2, [], [(0, [(0, (1, -2147483648, 2147483647, 1000000)), (2, (1, 0, 0, 1000000)), (4, (1, -1, 4, 1000000))], 0, [])], true)) (F := 600) (fun _ h => absurd h List.not_mem_nil) rfl (by decide +kernel)
def ab_s_146_0_d : ab_M := (146, [(2, 234, 0, 0), (0, -2147483648, 2147483647, 0)], [(some (0, 0, 0, 0), [(2, 234, 0, 0), (0, -2147483648, 2147483647, 0)]), (some (0, 1, 1, 0), [(2, 234, 0, 0), (0, 0, 4, 0)])])
set_option maxRecDepth 1000000 in
theorem ab_s_146_0 : ab_sum ab_ty ab_TT ab_s_146_0_d := ab_ok_sum (X := ([ab_s_126_2_d], ab_TT, mj_m_146, ab_s_146_0_d.2.1, ab_s_146_0_d.2.2, [], [(0, [(0, (2, 234, 0, 0)), (1, (0, -2147483648, 2147483647, 1000000))], 0, [])], true)) (F := 600) (List.forall_mem_cons.mpr ⟨ab_s_126_2, fun _ h => absurd h List.not_mem_nil⟩) rfl (by decide +kernel)
def ab_s_145_0_d : ab_M := (145, [(2, 234, 0, 0), (0, -2147483648, 2147483647, 0), (0, -2147483648, 2147483647, 0)], [(some (0, -2147483648, 2147483647, 0), [(2, 234, 0, 0), (0, -2147483648, 2147483647, 0), (0, -2147483648, 2147483647, 0)])])
set_option maxRecDepth 1000000 in
theorem ab_s_145_0 : ab_sum ab_ty ab_TT ab_s_145_0_d := ab_ok_sum (X := ([ab_s_146_0_d], ab_TT, mj_m_145, ab_s_145_0_d.2.1, ab_s_145_0_d.2.2, [], [(0, [(0, (2, 234, 0, 0)), (1, (0, -2147483648, 2147483647, 1000000)), (2, (0, -2147483648, 2147483647, 1000000))], 0, [])], true)) (F := 600) (List.forall_mem_cons.mpr ⟨ab_s_146_0, fun _ h => absurd h List.not_mem_nil⟩) rfl (by decide +kernel)
def ab_s_62_0_d : ab_M := (62, [(2, 13, 0, 0), (0, 0, 4, 0), (0, 0, 4, 0), (0, 0, 8, 0)], [(some (0, 1, 1, 0), [(2, 13, 0, 0), (0, 0, 4, 0), (0, 0, 4, 0), (0, 0, 8, 0)]), (some (0, 0, 0, 0), [(2, 13, 0, 0), (0, 0, 4, 0), (0, 0, 4, 0), (0, 0, 8, 0)])])
set_option maxRecDepth 1000000 in
theorem ab_s_62_0 : ab_sum ab_ty ab_TT ab_s_62_0_d := ab_ok_sum (X := ([], ab_TT, mj_m_62, ab_s_62_0_d.2.1, ab_s_62_0_d.2.2, [], [(0, [(0, (2, 13, 0, 0)), (1, (0, 0, 4, 1000000)), (2, (0, 0, 4, 1000000)), (3, (0, 0, 8, 1000000))], 0, [])], true)) (F := 600) (fun _ h => absurd h List.not_mem_nil) rfl (by decide +kernel)
def ab_s_161_0_d : ab_M := (161, [(0, -2147483648, 2147483647, 0), (0, -2147483648, 2147483647, 0)], [(some (0, 1, 1, 0), [(0, -2147483648, 2147483647, 0), (0, -2147483648, 2147483647, 0)]), (some (0, 0, 0, 0), [(0, -2147483648, 2147483647, 0), (0, -2147483648, 2147483647, 0)])])
set_option maxRecDepth 1000000 in
theorem ab_s_161_0 : ab_sum ab_ty ab_TT ab_s_161_0_d := ab_ok_sum (X := ([], ab_TT, mj_m_161, ab_s_161_0_d.2.1, ab_s_161_0_d.2.2, [], [(0, [(0, (0, -2147483648, 2147483647, 1000000)), (1, (0, -2147483648, 2147483647, 1000000))], 0, [])], true)) (F := 600) (fun _ h => absurd h List.not_mem_nil) rfl (by decide +kernel)
def ab_s_160_0_d : ab_M := (160, [(2, 234, 0, 0), (0, 0, 4, 0), (0, 0, 8, 0)], [(some (0, 0, 0, 0), [(2, 234, 0, 0), (0, 0, 4, 0), (0, 0, 8, 0)]), (some (0, 1, 1, 0), [(2, 234, 0, 0), (0, 0, 4, 0), (0, 0, 8, 0)])])
set_option maxRecDepth 1000000 in
theorem ab_s_160_0 : ab_sum ab_ty ab_TT ab_s_160_0_d := ab_ok_sum (X := ([ab_s_161_0_d], ab_TT, mj_m_160, ab_s_160_0_d.2.1, ab_s_160_0_d.2.2, [], [(0, [(0, (2, 234, 0, 0)), (1, (0, 0, 4, 1000000)), (2, (0, 0, 8, 1000000))], 0, [])], true)) (F := 600) (List.forall_mem_cons.mpr ⟨ab_s_161_0, fun _ h => absurd h List.not_mem_nil⟩) rfl (by decide +kernel)
def ab_s_72_0_d : ab_M := (72, [(2, 13, 0, 0), (0, 0, 8, 0)], [(some (0, 0, 511, 0), [(2, 13, 0, 0), (0, 0, 8, 0)])])
set_option maxRecDepth 1000000 in
theorem ab_s_72_0 : ab_sum ab_ty ab_TT ab_s_72_0_d := ab_ok_sum (X := ([], ab_TT, mj_m_72, ab_s_72_0_d.2.1, ab_s_72_0_d.2.2, [(4, 9)], [(0, [(0, (2, 13, 0, 0)), (1, (0, 0, 8, 1000000))], 10, [0]), (7, [(4, (0, 0, 9, 1000000)), (3, (0, -1, 8, 1000000)), (2, (0, 0, 511, 1000000)), (0, (2, 13, 0, 0)), (1, (0, 0, 8, 1000000))], 0, [1])], false)) (F := 600) (fun _ h => absurd h List.not_mem_nil) rfl (by decide +kernel)
def ab_s_53_0_d : ab_M := (53, [(2, 8, 0, 0), (0, 0, 8, 0)], [(some (0, -1, 8, 0), [(2, 8, 0, 0), (0, 0, 8, 0)])])
set_option maxRecDepth 1000000 in
theorem ab_s_53_0 : ab_sum ab_ty ab_TT ab_s_53_0_d := ab_ok_sum (X := ([], ab_TT, mj_m_53, ab_s_53_0_d.2.1, ab_s_53_0_d.2.2, [], [(0, [(0, (2, 8, 0, 0)), (1, (0, 0, 8, 1000000))], 0, [])], true)) (F := 600) (fun _ h => absurd h List.not_mem_nil) rfl (by decide +kernel)
def ab_s_52_0_d : ab_M := (52, [(0, 0, 16777215, 0), (0, 0, 7, 0)], [(some (0, 0, 16777215, 0), [(0, 0, 16777215, 0), (0, 0, 7, 0)])])
set_option maxRecDepth 1000000 in
theorem ab_s_52_0 : ab_sum ab_ty ab_TT ab_s_52_0_d := ab_ok_sum (X := ([], ab_TT, mj_m_52, ab_s_52_0_d.2.1, ab_s_52_0_d.2.2, [], [(0, [(0, (0, 0, 16777215, 1000000)), (1, (0, 0, 7, 1000000))], 0, [])], true)) (F := 600) (fun _ h => absurd h List.not_mem_nil) rfl (by decide +kernel)
def ab_s_73_0_d : ab_M := (73, [(2, 224, 0, 0), (0, 0, 7, 0), (0, 0, 7, 0), (0, 0, 2, 0)], [(none, [(2, 224, 0, 0), (0, 0, 7, 0), (0, 0, 7, 0), (0, 0, 2, 0)])])
set_option maxRecDepth 1000000 in
theorem ab_s_73_0 : ab_sum ab_ty ab_TT ab_s_73_0_d := ab_ok_sum (X := ([ab_s_52_0_d], ab_TT, mj_m_73, ab_s_73_0_d.2.1, ab_s_73_0_d.2.2, [(4, 2)], [(0, [(0, (2, 224, 0, 0)), (1, (0, 0, 7, 1000000)), (2, (0, 0, 7, 1000000)), (3, (0, 0, 2, 1000000))], 3, [0]), (3, [(4, (0, 0, 2, 1000000)), (0, (2, 224, 0, 0)), (1, (0, 0, 7, 1000000)), (2, (0, 0, 7, 1000000)), (3, (0, 0, 2, 1000000))], 0, [1])], false)) (F := 600) (List.forall_mem_cons.mpr ⟨ab_s_52_0, fun _ h => absurd h List.not_mem_nil⟩) rfl (by decide +kernel)
def ab_s_71_0_d : ab_M := (71, [(2, 224, 0, 0), (0, 0, 8, 0), (2, 13, 0, 0), (2, 8, 0, 0)], [(none, [(2, 224, 0, 0), (0, 0, 8, 0), (2, 13, 0, 0), (2, 8, 0, 0)])])
set_option maxRecDepth 1000000 in
theorem ab_s_71_0 : ab_sum ab_ty ab_TT ab_s_71_0_d := ab_ok_sum (X := ([ab_s_53_0_d, ab_s_73_0_d, ab_s_72_0_d], ab_TT, mj_m_71, ab_s_71_0_d.2.1, ab_s_71_0_d.2.2, [(4, 9), (6, 8)], [(0, [(0, (2, 224, 0, 0)), (1, (0, 0, 8, 1000000)), (2, (2, 13, 0, 0)), (3, (2, 8, 0, 0))], 109, [0, 0]), (13, [(4, (0, 0, 8, 1000000)), (0, (2, 224, 0, 0)), (1, (0, 0, 8, 1000000)), (2, (2, 13, 0, 0)), (3, (2, 8, 0, 0))], 99, [1, 0]), (45, [(4, (0, 0, 9, 1000000)), (0, (2, 224, 0, 0)), (1, (0, 0, 8, 1000000)), (2, (2, 13, 0, 0)), (3, (2, 8, 0, 0))], 9, [10, 0]), (85, [(6, (0, 0, 8, 1000000)), (5, (0, 0, 2, 1000000)), (4, (0, 0, 8, 1000000)), (0, (2, 224, 0, 0)), (1, (0, 0, 8, 1000000)), (2, (2, 13, 0, 0)), (3, (2, 8, 0, 0))], 0, [10, 1])], false)) (F := 600) (List.forall_mem_cons.mpr ⟨ab_s_53_0, List.forall_mem_cons.mpr ⟨ab_s_73_0, List.forall_mem_cons.mpr ⟨ab_s_72_0, fun _ h => absurd h List.not_mem_nil⟩⟩⟩) rfl (by decide +kernel)
def ab_s_75_0_d : ab_M := (75, [(0, 1, 3, 0)], [(some (0, 8, 512, 0), [(0, 1, 3, 0)])])
set_option maxRecDepth 1000000 in
theorem ab_s_75_0 : ab_sum ab_ty ab_TT ab_s_75_0_d := ab_ok_sum (X := ([], ab_TT, mj_m_75, ab_s_75_0_d.2.1, ab_s_75_0_d.2.2, [], [(0, [(0, (0, 1, 3, 1000000))], 0, [])], true)) (F := 600) (fun _ h => absurd h List.not_mem_nil) rfl (by decide +kernel)
def ab_s_77_0_d : ab_M := (77, [(0, -2147483648, 2147483647, 0), (0, -2147483648, 2147483647, 0), (0, -2147483648, 2147483647, 0)], [(some (0, 0, 7, 0), [(0, -2147483648, 2147483647, 0), (0, -2147483648, 2147483647, 0), (0, -2147483648, 2147483647, 0)])])
set_option maxRecDepth 1000000 in
theorem ab_s_77_0 : ab_sum ab_ty ab_TT ab_s_77_0_d := ab_ok_sum (X := ([], ab_TT, mj_m_77, ab_s_77_0_d.2.1, ab_s_77_0_d.2.2, [], [(0, [(0, (0, -2147483648, 2147483647, 1000000)), (1, (0, -2147483648, 2147483647, 1000000)), (2, (0, -2147483648, 2147483647, 1000000))], 0, [])], true)) (F := 600) (fun _ h => absurd h List.not_mem_nil) rfl (by decide +kernel)
def ab_s_78_0_d : ab_M := (78, [(0, 0, 16777215, 0), (0, 0, 16777215, 0), (0, -2147483648, 2147483647, 0)], [(some (0, 0, 16777215, 0), [(0, 0, 16777215, 0), (0, 0, 16777215, 0), (0, -2147483648, 2147483647, 0)])])
set_option maxRecDepth 1000000 in
theorem ab_s_78_0 : ab_sum ab_ty ab_TT ab_s_78_0_d := ab_ok_sum (X := ([], ab_TT, mj_m_78, ab_s_78_0_d.2.1, ab_s_78_0_d.2.2, [], [(0, [(0, (0, 0, 16777215, 1000000)), (1, (0, 0, 16777215, 1000000)), (2, (0, -2147483648, 2147483647, 1000000))], 0, [])], true)) (F := 600) (fun _ h => absurd h List.not_mem_nil) rfl (by decide +kernel)
def ab_s_76_0_d : ab_M := (76, [(2, 224, 0, 0), (0, -2147483648, 2147483647, 0), (0, 1, 3, 0)], [(some (0, 0, 1, 0), [(2, 224, 0, 0), (0, -2147483648, 2147483647, 0), (0, 1, 3, 0)])])
set_option maxRecDepth 1000000 in
theorem ab_s_76_0 : ab_sum ab_ty ab_TT ab_s_76_0_d := ab_ok_sum (X := ([ab_s_77_0_d, ab_s_78_0_d], ab_TT, mj_m_76, ab_s_76_0_d.2.1, ab_s_76_0_d.2.2, [(4, 4)], [(0, [(0, (2, 224, 0, 0)), (1, (0, -2147483648, 2147483647, 1000000)), (2, (0, 1, 3, 1000000))], 4, [0]), (5, [(4, (0, 1, 4, 1000000)), (3, (0, 0, 16777215, 1000000)), (0, (2, 224, 0, 0)), (1, (0, -2147483648, 2147483647, 1000000)), (2, (0, 1, 3, 1000000))], 0, [1])], false)) (F := 600) (List.forall_mem_cons.mpr ⟨ab_s_77_0, List.forall_mem_cons.mpr ⟨ab_s_78_0, fun _ h => absurd h List.not_mem_nil⟩⟩) rfl (by decide +kernel)
def ab_s_74_0_d : ab_M := (74, [(2, 224, 0, 0), (0, 1, 3, 0)], [(some (0, -2147483648, 2147483647, 0), [(2, 224, 0, 0), (0, 1, 3, 0)])])
set_option maxRecDepth 1000000 in
theorem ab_s_74_0 : ab_sum ab_ty ab_TT ab_s_74_0_d := ab_ok_sum (X := ([ab_s_76_0_d, ab_s_75_0_d], ab_TT, mj_m_74, ab_s_74_0_d.2.1, ab_s_74_0_d.2.2, [(3, 512)], [(0, [(0, (2, 224, 0, 0)), (1, (0, 1, 3, 1000000))], 513, [0]), (4, [(3, (0, 0, 512, 1000000)), (2, (0, -2147483648, 2147483647, 1000000)), (0, (2, 224, 0, 0)), (1, (0, 1, 3, 1000000))], 0, [1])], false)) (F := 600) (List.forall_mem_cons.mpr ⟨ab_s_76_0, List.forall_mem_cons.mpr ⟨ab_s_75_0, fun _ h => absurd h List.not_mem_nil⟩⟩) rfl (by decide +kernel)
def ab_s_79_0_d : ab_M := (79, [(2, 224, 0, 0), (0, 1, 3, 0), (0, -2147483648, 2147483647, 0)], [(some (0, -1, 511, 0), [(2, 224, 0, 0), (0, 1, 3, 0), (0, -2147483648, 2147483647, 0)])])
set_option maxRecDepth 1000000 in
theorem ab_s_79_0 : ab_sum ab_ty ab_TT ab_s_79_0_d := ab_ok_sum (X := ([ab_s_76_0_d, ab_s_75_0_d], ab_TT, mj_m_79, ab_s_79_0_d.2.1, ab_s_79_0_d.2.2, [(4, 512)], [(0, [(0, (2, 224, 0, 0)), (1, (0, 1, 3, 1000000)), (2, (0, -2147483648, 2147483647, 1000000))], 513, [0]), (5, [(4, (0, 0, 512, 1000000)), (3, (0, -2147483648, 2147483647, 1000000)), (0, (2, 224, 0, 0)), (1, (0, 1, 3, 1000000)), (2, (0, -2147483648, 2147483647, 1000000))], 0, [1])], false)) (F := 600) (List.forall_mem_cons.mpr ⟨ab_s_76_0, List.forall_mem_cons.mpr ⟨ab_s_75_0, fun _ h => absurd h List.not_mem_nil⟩⟩) rfl (by decide +kernel)
def ab_s_70_0_d : ab_M := (70, [(2, 0, 0, 0), (0, -2147483648, 2147483647, 0), (0, -2147483648, 2147483647, 0), (0, -2147483648, 2147483647, 0)], [(some (0, -2147483648, 2147483647, 0), [(2, 0, 0, 0), (0, -2147483648, 2147483647, 0), (0, -2147483648, 2147483647, 0), (0, -2147483648, 2147483647, 0)])])
set_option maxRecDepth 1000000 in
theorem ab_s_70_0 : ab_sum ab_ty ab_TT ab_s_70_0_d := ab_ok_sum (X := ([ab_s_79_0_d, ab_s_74_0_d, ab_s_71_0_d, ab_s_39_0_d], ab_TT, mj_m_70, ab_s_70_0_d.2.1, ab_s_70_0_d.2.2, [], [(0, [(0, (2, 0, 0, 0)), (1, (0, -2147483648, 2147483647, 1000000)), (2, (0, -2147483648, 2147483647, 1000000)), (3, (0, -2147483648, 2147483647, 1000000))], 0, [])], true)) (F := 600) (List.forall_mem_cons.mpr ⟨ab_s_79_0, List.forall_mem_cons.mpr ⟨ab_s_74_0, List.forall_mem_cons.mpr ⟨ab_s_71_0, List.forall_mem_cons.mpr ⟨ab_s_39_0, fun _ h => absurd h List.not_mem_nil⟩⟩⟩⟩) rfl (by decide +kernel)
def ab_s_81_0_d : ab_M := (81, [(2, 224, 0, 0), (0, 1, 3, 0), (0, 1, 3, 0)], [(some (0, -1, 7, 0), [(2, 224, 0, 0), (0, 1, 3, 0), (0, 1, 3, 0)])])
set_option maxRecDepth 1000000 in
theorem ab_s_81_0 : ab_sum ab_ty ab_TT ab_s_81_0_d := ab_ok_sum (X := ([ab_s_76_0_d, ab_s_77_0_d, ab_s_75_0_d], ab_TT, mj_m_81, ab_s_81_0_d.2.1, ab_s_81_0_d.2.2, [(4, 512)], [(0, [(0, (2, 224, 0, 0)), (1, (0, 1, 3, 1000000)), (2, (0, 1, 3, 1000000))], 513, [0]), (5, [(4, (0, 0, 512, 1000000)), (3, (0, -1, 7, 1000000)), (0, (2, 224, 0, 0)), (1, (0, 1, 3, 1000000)), (2, (0, 1, 3, 1000000))], 0, [1])], false)) (F := 600) (List.forall_mem_cons.mpr ⟨ab_s_76_0, List.forall_mem_cons.mpr ⟨ab_s_77_0, List.forall_mem_cons.mpr ⟨ab_s_75_0, fun _ h => absurd h List.not_mem_nil⟩⟩⟩) rfl (by decide +kernel)
def ab_s_80_0_d : ab_M := (80, [(2, 0, 0, 0), (0, -2147483648, 2147483647, 0), (0, -2147483648, 2147483647, 0), (0, -2147483648, 2147483647, 0)], [(some (0, -1000000002, 7, 0), [(2, 0, 0, 0), (0, -2147483648, 2147483647, 0), (0, -2147483648, 2147483647, 0), (0, -2147483648, 2147483647, 0)])])
set_option maxRecDepth 1000000 in
theorem ab_s_80_0 : ab_sum ab_ty ab_TT ab_s_80_0_d := ab_ok_sum (X := ([ab_s_71_0_d, ab_s_81_0_d, ab_s_39_0_d], ab_TT, mj_m_80, ab_s_80_0_d.2.1, ab_s_80_0_d.2.2, [], [(0, [(0, (2, 0, 0, 0)), (1, (0, -2147483648, 2147483647, 1000000)), (2, (0, -2147483648, 2147483647, 1000000)), (3, (0, -2147483648, 2147483647, 1000000))], 0, [])], true)) (F := 600) (List.forall_mem_cons.mpr ⟨ab_s_71_0, List.forall_mem_cons.mpr ⟨ab_s_81_0, List.forall_mem_cons.mpr ⟨ab_s_39_0, fun _ h => absurd h List.not_mem_nil⟩⟩⟩) rfl (by decide +kernel)
def ab_s_85_0_d : ab_M := (85, [(2, 13, 0, 0), (0, 0, 8, 0), (0, 0, 9, 0)], [(some (0, 0, 511, 0), [(2, 13, 0, 0), (0, 0, 8, 0), (0, 0, 9, 0)])])
set_option maxRecDepth 1000000 in
theorem ab_s_85_0 : ab_sum ab_ty ab_TT ab_s_85_0_d := ab_ok_sum (X := ([], ab_TT, mj_m_85, ab_s_85_0_d.2.1, ab_s_85_0_d.2.2, [(4, 9)], [(0, [(0, (2, 13, 0, 0)), (1, (0, 0, 8, 1000000)), (2, (0, 0, 9, 1000000))], 10, [0]), (5, [(4, (0, 0, 9, 1000000)), (3, (0, 0, 511, 1000000)), (0, (2, 13, 0, 0)), (1, (0, 0, 8, 1000000)), (2, (0, 0, 9, 1000000))], 0, [1])], false)) (F := 600) (fun _ h => absurd h List.not_mem_nil) rfl (by decide +kernel)
def ab_s_84_0_d : ab_M := (84, [(2, 13, 0, 0), (0, 0, 8, 0), (0, 0, 9, 0)], [(some (0, 0, 511, 0), [(2, 13, 0, 0), (0, 0, 8, 0), (0, 0, 9, 0)])])
set_option maxRecDepth 1000000 in
theorem ab_s_84_0 : ab_sum ab_ty ab_TT ab_s_84_0_d := ab_ok_sum (X := ([ab_s_72_0_d], ab_TT, mj_m_84, ab_s_84_0_d.2.1, ab_s_84_0_d.2.2, [(4, 9)], [(0, [(0, (2, 13, 0, 0)), (1, (0, 0, 8, 1000000)), (2, (0, 0, 9, 1000000))], 10, [0]), (5, [(4, (0, 0, 9, 1000000)), (3, (0, 0, 511, 1000000)), (0, (2, 13, 0, 0)), (1, (0, 0, 8, 1000000)), (2, (0, 0, 9, 1000000))], 0, [1])], false)) (F := 600) (List.forall_mem_cons.mpr ⟨ab_s_72_0, fun _ h => absurd h List.not_mem_nil⟩) rfl (by decide +kernel)
def ab_s_83_0_d : ab_M := (83, [(2, 13, 0, 0), (0, 0, 8, 0), (2, 8, 0, 0)], [(some (0, 0, 511, 0), [(2, 13, 0, 0), (0, 0, 8, 0), (2, 8, 0, 0)])])
set_option maxRecDepth 1000000 in
theorem ab_s_83_0 : ab_sum ab_ty ab_TT ab_s_83_0_d := ab_ok_sum (X := ([ab_s_53_0_d, ab_s_72_0_d], ab_TT, mj_m_83, ab_s_83_0_d.2.1, ab_s_83_0_d.2.2, [], [(0, [(0, (2, 13, 0, 0)), (1, (0, 0, 8, 1000000)), (2, (2, 8, 0, 0))], 0, [])], true)) (F := 600) (List.forall_mem_cons.mpr ⟨ab_s_53_0, List.forall_mem_cons.mpr ⟨ab_s_72_0, fun _ h => absurd h List.not_mem_nil⟩⟩) rfl (by decide +kernel)
def ab_s_82_0_d : ab_M := (82, [(2, 0, 0, 0), (0, -2147483648, 2147483647, 0), (0, -2147483648, 2147483647, 0)], [(some (0, -1000000002, 511, 0), [(2, 0, 0, 0), (0, -2147483648, 2147483647, 0), (0, -2147483648, 2147483647, 0)])])
set_option maxRecDepth 1000000 in
theorem ab_s_82_0 : ab_sum ab_ty ab_TT ab_s_82_0_d := ab_ok_sum (X := ([ab_s_84_0_d, ab_s_85_0_d, ab_s_83_0_d, ab_s_39_0_d], ab_TT, mj_m_82, ab_s_82_0_d.2.1, ab_s_82_0_d.2.2, [], [(0, [(0, (2, 0, 0, 0)), (1, (0, -2147483648, 2147483647, 1000000)), (2, (0, -2147483648, 2147483647, 1000000))], 0, [])], true)) (F := 600) (List.forall_mem_cons.mpr ⟨ab_s_84_0, List.forall_mem_cons.mpr ⟨ab_s_85_0, List.forall_mem_cons.mpr ⟨ab_s_83_0, List.forall_mem_cons.mpr ⟨ab_s_39_0, fun _ h => absurd h List.not_mem_nil⟩⟩⟩⟩) rfl (by decide +kernel)
def ab_s_126_3_d : ab_M := (126, [(1, 1, 9, 0), (1, 0, 0, 0), (1, -1, 8, 0)], [(some (0, 1, 1, 0), [(1, 1, 8, 0), (1, 0, 0, 0), (1, -1, 8, 0)]), (some (0, 0, 0, 0), [(1, 1, 9, 0), (1, 0, 0, 0), (1, -1, 8, 0)])])
set_option maxRecDepth 1000000 in
theorem ab_s_126_3 : ab_sum ab_ty ab_TT ab_s_126_3_d := ab_ok_sum (X := ([], ab_TT, mj_m_126, ab_s_126_3_d.2.1, ab_s_126_3_d.2.2, [], [(0, [(0, (1, 1, 9, 1000000)), (2, (1, 0, 0, 1000000)), (4, (1, -1, 8, 1000000))], 0, [])], true)) (F := 600) (fun _ h => absurd h List.not_mem_nil) rfl (by decide +kernel)
def ab_s_141_1_d : ab_M := (141, [(2, 234, 0, 0), (0, 1, 9, 0)], [(some (0, 0, 0, 0), [(2, 234, 0, 0), (0, 1, 9, 0)]), (some (0, 1, 1, 0), [(2, 234, 0, 0), (0, 1, 8, 0)])])
set_option maxRecDepth 1000000 in
theorem ab_s_141_1 : ab_sum ab_ty ab_TT ab_s_141_1_d := ab_ok_sum (X := ([ab_s_126_3_d], ab_TT, mj_m_141, ab_s_141_1_d.2.1, ab_s_141_1_d.2.2, [], [(0, [(0, (2, 234, 0, 0)), (1, (0, 1, 9, 1000000))], 0, [])], true)) (F := 600) (List.forall_mem_cons.mpr ⟨ab_s_126_3, fun _ h => absurd h List.not_mem_nil⟩) rfl (by decide +kernel)
def ab_s_126_4_d : ab_M := (126, [(1, -1, 7, 0), (1, 0, 0, 0), (1, -1, 8, 0)], [(some (0, 1, 1, 0), [(1, 0, 7, 0), (1, 0, 0, 0), (1, -1, 8, 0)]), (some (0, 0, 0, 0), [(1, -1, 7, 0), (1, 0, 0, 0), (1, -1, 8, 0)])])
set_option maxRecDepth 1000000 in
theorem ab_s_126_4 : ab_sum ab_ty ab_TT ab_s_126_4_d := ab_ok_sum (X := ([], ab_TT, mj_m_126, ab_s_126_4_d.2.1, ab_s_126_4_d.2.2, [], [(0, [(0, (1, -1, 7, 1000000)), (2, (1, 0, 0, 1000000)), (4, (1, -1, 8, 1000000))], 0, [])], true)) (F := 600) (fun _ h => absurd h List.not_mem_nil) rfl (by decide +kernel)
def ab_s_141_2_d : ab_M := (141, [(2, 234, 0, 0), (0, -1, 7, 0)], [(some (0, 0, 0, 0), [(2, 234, 0, 0), (0, -1, 7, 0)]), (some (0, 1, 1, 0), [(2, 234, 0, 0), (0, 0, 7, 0)])])
set_option maxRecDepth 1000000 in
theorem ab_s_141_2 : ab_sum ab_ty ab_TT ab_s_141_2_d := ab_ok_sum (X := ([ab_s_126_4_d], ab_TT, mj_m_141, ab_s_141_2_d.2.1, ab_s_141_2_d.2.2, [], [(0, [(0, (2, 234, 0, 0)), (1, (0, -1, 7, 1000000))], 0, [])], true)) (F := 600) (List.forall_mem_cons.mpr ⟨ab_s_126_4, fun _ h => absurd h List.not_mem_nil⟩) rfl (by decide +kernel)
def ab_s_126_5_d : ab_M := (126, [(1, -1, -1, 0), (1, 0, 0, 0), (1, -1, 8, 0)], [(some (0, 0, 0, 0), [(1, -1, -1, 0), (1, 0, 0, 0), (1, -1, 8, 0)])])
set_option maxRecDepth 1000000 in
theorem ab_s_126_5 : ab_sum ab_ty ab_TT ab_s_126_5_d := ab_ok_sum (X := ([], ab_TT, mj_m_126, ab_s_126_5_d.2.1, ab_s_126_5_d.2.2, [], [(0, [(0, (1, -1, -1, 1000000)), (2, (1, 0, 0, 1000000)), (4, (1, -1, 8, 1000000))], 0, [])], true)) (F := 600) (fun _ h => absurd h List.not_mem_nil) rfl (by decide +kernel)
def ab_s_141_3_d : ab_M := (141, [(2, 234, 0, 0), (0, -1, -1, 0)], [(some (0, 0, 0, 0), [(2, 234, 0, 0), (0, -1, -1, 0)])])
set_option maxRecDepth 1000000 in
theorem ab_s_141_3 : ab_sum ab_ty ab_TT ab_s_141_3_d := ab_ok_sum (X := ([ab_s_126_5_d], ab_TT, mj_m_141, ab_s_141_3_d.2.1, ab_s_141_3_d.2.2, [], [(0, [(0, (2, 234, 0, 0)), (1, (0, -1, -1, 1000000))], 0, [])], true)) (F := 600) (List.forall_mem_cons.mpr ⟨ab_s_126_5, fun _ h => absurd h List.not_mem_nil⟩) rfl (by decide +kernel)
def ab_s_152_0_d : ab_M := (152, [(2, 234, 0, 0), (0, 0, 8, 0)], [(some (0, -1, 8, 0), [(2, 234, 0, 0), (0, 0, 8, 0)])])
set_option maxRecDepth 1000000 in
theorem ab_s_152_0 : ab_sum ab_ty ab_TT ab_s_152_0_d := ab_ok_sum (X := ([ab_s_141_3_d, ab_s_141_2_d, ab_s_141_1_d], ab_TT, mj_m_152, ab_s_152_0_d.2.1, ab_s_152_0_d.2.2, [], [(0, [(0, (2, 234, 0, 0)), (1, (0, 0, 8, 1000000))], 0, [])], true)) (F := 600) (List.forall_mem_cons.mpr ⟨ab_s_141_3, List.forall_mem_cons.mpr ⟨ab_s_141_2, List.forall_mem_cons.mpr ⟨ab_s_141_1, fun _ h => absurd h List.not_mem_nil⟩⟩⟩) rfl (by decide +kernel)
def ab_s_176_0_d : ab_M := (176, [(0, -2147483648, 2147483647, 0)], [(some (0, -2147483648, 2147483647, 0), [(0, -2147483648, 2147483647, 0)])])
set_option maxRecDepth 1000000 in
theorem ab_s_176_0 : ab_sum ab_ty ab_TT ab_s_176_0_d := ab_ok_sum (X := ([], ab_TT, mj_m_176, ab_s_176_0_d.2.1, ab_s_176_0_d.2.2, [(2, 9)], [(0, [(0, (0, -2147483648, 2147483647, 1000000))], 10, [0]), (4, [(2, (0, 0, 9, 1000000)), (1, (0, -2147483648, 2147483647, 1000000)), (0, (0, -2147483648, 2147483647, 1000000))], 0, [1])], false)) (F := 600) (fun _ h => absurd h List.not_mem_nil) rfl (by decide +kernel)
def ab_s_175_0_d : ab_M := (175, [(2, 234, 0, 0), (0, 0, 4, 0), (0, 0, 4, 0)], [(some (0, 0, 99, 0), [(2, 234, 0, 0), (0, 0, 4, 0), (0, 0, 4, 0)])])
set_option maxRecDepth 1000000 in
theorem ab_s_175_0 : ab_sum ab_ty ab_TT ab_s_175_0_d := ab_ok_sum (X := ([ab_s_176_0_d], ab_TT, mj_m_175, ab_s_175_0_d.2.1, ab_s_175_0_d.2.2, [], [(0, [(0, (2, 234, 0, 0)), (1, (0, 0, 4, 1000000)), (2, (0, 0, 4, 1000000))], 0, [])], true)) (F := 600) (List.forall_mem_cons.mpr ⟨ab_s_176_0, fun _ h => absurd h List.not_mem_nil⟩) rfl (by decide +kernel)
def ab_s_99_0_d : ab_M := (99, [(2, 13, 0, 0), (0, 0, 4, 0), (0, 0, 4, 0)], [(some (0, 1, 1, 0), [(2, 13, 0, 0), (0, 0, 4, 0), (0, 0, 4, 0)]), (some (0, 0, 0, 0), [(2, 13, 0, 0), (0, 0, 4, 0), (0, 0, 4, 0)])])
set_option maxRecDepth 1000000 in
theorem ab_s_99_0 : ab_sum ab_ty ab_TT ab_s_99_0_d := ab_ok_sum (X := ([], ab_TT, mj_m_99, ab_s_99_0_d.2.1, ab_s_99_0_d.2.2, [], [(0, [(0, (2, 13, 0, 0)), (1, (0, 0, 4, 1000000)), (2, (0, 0, 4, 1000000))], 0, [])], true)) (F := 600) (fun _ h => absurd h List.not_mem_nil) rfl (by decide +kernel)
def ab_s_100_0_d : ab_M := (100, [(0, 0, 4, 0), (0, 0, 4, 0), (0, -2147483648, 2147483647, 0)], [(some (0, -1, 4, 0), [(0, 0, 4, 0), (0, 0, 4, 0), (0, -2147483648, 2147483647, 0)])])
set_option maxRecDepth 1000000 in
theorem ab_s_100_0 : ab_sum ab_ty ab_TT ab_s_100_0_d := ab_ok_sum (X := ([], ab_TT, mj_m_100, ab_s_100_0_d.2.1, ab_s_100_0_d.2.2, [], [(0, [(0, (0, 0, 4, 1000000)), (1, (0, 0, 4, 1000000)), (2, (0, -2147483648, 2147483647, 1000000))], 0, [])], true)) (F := 600) (fun _ h => absurd h List.not_mem_nil) rfl (by decide +kernel)
def ab_s_98_0_d : ab_M := (98, [(2, 0, 0, 0), (0, -2147483648, 2147483647, 0)], [(some (0, -1, 4, 0), [(2, 0, 0, 0), (0, -2147483648, 2147483647, 0)])])
set_option maxRecDepth 1000000 in
theorem ab_s_98_0 : ab_sum ab_ty ab_TT ab_s_98_0_d := ab_ok_sum (X := ([ab_s_99_0_d, ab_s_100_0_d], ab_TT, mj_m_98, ab_s_98_0_d.2.1, ab_s_98_0_d.2.2, [(2, 5), (3, 5)], [(0, [(0, (2, 0, 0, 0)), (1, (0, -2147483648, 2147483647, 1000000))], 36, [0, 0]), (2, [(2, (0, 0, 5, 1000000)), (0, (2, 0, 0, 0)), (1, (0, -2147483648, 2147483647, 1000000))], 5, [6, 0]), (17, [(3, (0, 1, 5, 1000000)), (2, (0, 0, 4, 1000000)), (0, (2, 0, 0, 0)), (1, (0, -2147483648, 2147483647, 1000000))], 0, [6, 1])], false)) (F := 600) (List.forall_mem_cons.mpr ⟨ab_s_99_0, List.forall_mem_cons.mpr ⟨ab_s_100_0, fun _ h => absurd h List.not_mem_nil⟩⟩) rfl (by decide +kernel)
def ab_s_91_0_d : ab_M := (91, [(0, -2147483648, 2147483647, 0)], [(some (0, 0, 63, 0), [(0, -2147483648, 2147483647, 0)])])
set_option maxRecDepth 1000000 in
theorem ab_s_91_0 : ab_sum ab_ty ab_TT ab_s_91_0_d := ab_ok_sum (X := ([], ab_TT, mj_m_91, ab_s_91_0_d.2.1, ab_s_91_0_d.2.2, [], [(0, [(0, (0, -2147483648, 2147483647, 1000000))], 0, [])], true)) (F := 600) (fun _ h => absurd h List.not_mem_nil) rfl (by decide +kernel)
def ab_s_104_0_d : ab_M := (104, [(2, 0, 0, 0), (0, -2147483648, 2147483647, 0)], [(some (0, -1, 8, 0), [(2, 0, 0, 0), (0, -2147483648, 2147483647, 0)])])
set_option maxRecDepth 1000000 in
theorem ab_s_104_0 : ab_sum ab_ty ab_TT ab_s_104_0_d := ab_ok_sum (X := ([ab_s_83_0_d, ab_s_91_0_d], ab_TT, mj_m_104, ab_s_104_0_d.2.1, ab_s_104_0_d.2.2, [(4, 9)], [(0, [(0, (2, 0, 0, 0)), (1, (0, -2147483648, 2147483647, 1000000))], 10, [0]), (7, [(4, (0, 0, 9, 1000000)), (3, (0, 0, 63, 1000000)), (2, (0, -1, 8, 1000000)), (0, (2, 0, 0, 0)), (1, (0, -2147483648, 2147483647, 1000000))], 0, [1])], false)) (F := 600) (List.forall_mem_cons.mpr ⟨ab_s_83_0, List.forall_mem_cons.mpr ⟨ab_s_91_0, fun _ h => absurd h List.not_mem_nil⟩⟩) rfl (by decide +kernel)
def ab_s_103_0_d : ab_M := (103, [(0, 0, 16777215, 0), (0, -2147483648, 2147483647, 0)], [(some (0, 0, 1, 0), [(0, 0, 16777215, 0), (0, -2147483648, 2147483647, 0)])])
set_option maxRecDepth 1000000 in
theorem ab_s_103_0 : ab_sum ab_ty ab_TT ab_s_103_0_d := ab_ok_sum (X := ([ab_s_37_0_d], ab_TT, mj_m_103, ab_s_103_0_d.2.1, ab_s_103_0_d.2.2, [(2, 8)], [(0, [(0, (0, 0, 16777215, 1000000)), (1, (0, -2147483648, 2147483647, 1000000))], 9, [0]), (2, [(2, (0, 0, 8, 1000000)), (0, (0, 0, 16777215, 1000000)), (1, (0, -2147483648, 2147483647, 1000000))], 0, [1])], false)) (F := 600) (List.forall_mem_cons.mpr ⟨ab_s_37_0, fun _ h => absurd h List.not_mem_nil⟩) rfl (by decide +kernel)
def ab_s_102_0_d : ab_M := (102, [(2, 13, 0, 0), (0, -2147483648, 2147483647, 0), (0, 0, 9, 0)], [(some (0, -2147483648, 2147483647, 0), [(2, 13, 0, 0), (0, -2147483648, 2147483647, 0), (0, 0, 9, 0)])])
set_option maxRecDepth 1000000 in
theorem ab_s_102_0 : ab_sum ab_ty ab_TT ab_s_102_0_d := ab_ok_sum (X := ([ab_s_103_0_d], ab_TT, mj_m_102, ab_s_102_0_d.2.1, ab_s_102_0_d.2.2, [(4, 9)], [(0, [(0, (2, 13, 0, 0)), (1, (0, -2147483648, 2147483647, 1000000)), (2, (0, 0, 9, 1000000))], 10, [0]), (5, [(4, (0, 0, 9, 1000000)), (3, (0, -2147483648, 2147483647, 1000000)), (0, (2, 13, 0, 0)), (1, (0, -2147483648, 2147483647, 1000000)), (2, (0, 0, 9, 1000000))], 0, [1])], false)) (F := 600) (List.forall_mem_cons.mpr ⟨ab_s_103_0, fun _ h => absurd h List.not_mem_nil⟩) rfl (by decide +kernel)
def ab_s_101_0_d : ab_M := (101, [(2, 0, 0, 0), (0, -2147483648, 2147483647, 0), (0, -2147483648, 2147483647, 0)], [(some (0, -2147483648, 2147483647, 0), [(2, 0, 0, 0), (0, -2147483648, 2147483647, 0), (0, -2147483648, 2147483647, 0)])])
set_option maxRecDepth 1000000 in
theorem ab_s_101_0 : ab_sum ab_ty ab_TT ab_s_101_0_d := ab_ok_sum (X := ([ab_s_102_0_d, ab_s_104_0_d], ab_TT, mj_m_101, ab_s_101_0_d.2.1, ab_s_101_0_d.2.2, [], [(0, [(0, (2, 0, 0, 0)), (1, (0, -2147483648, 2147483647, 1000000)), (2, (0, -2147483648, 2147483647, 1000000))], 0, [])], true)) (F := 600) (List.forall_mem_cons.mpr ⟨ab_s_102_0, List.forall_mem_cons.mpr ⟨ab_s_104_0, fun _ h => absurd h List.not_mem_nil⟩⟩) rfl (by decide +kernel)
def ab_s_105_0_d : ab_M := (105, [(2, 0, 0, 0), (0, -2147483648, 2147483647, 0), (0, -2147483648, 2147483647, 0)], [(some (0, -1000000002, 1000000000, 0), [(2, 0, 0, 0), (0, -2147483648, 2147483647, 0), (0, -2147483648, 2147483647, 0)])])
set_option maxRecDepth 1000000 in
theorem ab_s_105_0 : ab_sum ab_ty ab_TT ab_s_105_0_d := ab_ok_sum (X := ([], ab_TT, mj_m_105, ab_s_105_0_d.2.1, ab_s_105_0_d.2.2, [(5, 8)], [(0, [(0, (2, 0, 0, 0)), (1, (0, -2147483648, 2147483647, 1000000)), (2, (0, -2147483648, 2147483647, 1000000))], 9, [0]), (30, [(5, (0, 0, 8, 1000000)), (3, (1, 0, 1000000000, 1000000)), (0, (2, 0, 0, 0)), (1, (0, 0, 8, 1000000)), (2, (0, 0, 100, 1000000))], 0, [1])], false)) (F := 600) (fun _ h => absurd h List.not_mem_nil) rfl (by decide +kernel)
def ab_s_126_6_d : ab_M := (126, [(1, -2147483648, 2147483647, 0), (1, 0, 0, 0), (1, 8, 8, 0)], [(some (0, 1, 1, 0), [(1, 0, 8, 0), (1, 0, 0, 0), (1, 8, 8, 0)]), (some (0, 0, 0, 0), [(1, -2147483648, 2147483647, 0), (1, 0, 0, 0), (1, 8, 8, 0)])])
set_option maxRecDepth 1000000 in
theorem ab_s_126_6 : ab_sum ab_ty ab_TT ab_s_126_6_d := ab_ok_sum (X := ([], ab_TT, mj_m_126, ab_s_126_6_d.2.1, ab_s_126_6_d.2.2, [], [(0, [(0, (1, -2147483648, 2147483647, 1000000)), (2, (1, 0, 0, 1000000)), (4, (1, 8, 8, 1000000))], 0, [])], true)) (F := 600) (fun _ h => absurd h List.not_mem_nil) rfl (by decide +kernel)
def ab_s_126_7_d : ab_M := (126, [(1, -2147483648, 2147483647, 0), (1, 0, 0, 0), (1, 100, 100, 0)], [(some (0, 1, 1, 0), [(1, 0, 100, 0), (1, 0, 0, 0), (1, 100, 100, 0)]), (some (0, 0, 0, 0), [(1, -2147483648, 2147483647, 0), (1, 0, 0, 0), (1, 100, 100, 0)])])
set_option maxRecDepth 1000000 in
theorem ab_s_126_7 : ab_sum ab_ty ab_TT ab_s_126_7_d := ab_ok_sum (X := ([], ab_TT, mj_m_126, ab_s_126_7_d.2.1, ab_s_126_7_d.2.2, [], [(0, [(0, (1, -2147483648, 2147483647, 1000000)), (2, (1, 0, 0, 1000000)), (4, (1, 100, 100, 1000000))], 0, [])], true)) (F := 600) (fun _ h => absurd h List.not_mem_nil) rfl (by decide +kernel)
def ab_s_181_0_d : ab_M := (181, [(2, 234, 0, 0), (0, -2147483648, 2147483647, 0), (0, -2147483648, 2147483647, 0)], [(some (0, -2147483648, 2147483647, 0), [(2, 234, 0, 0), (0, -2147483648, 2147483647, 0), (0, -2147483648, 2147483647, 0)])])
set_option maxRecDepth 1000000 in
theorem ab_s_181_0 : ab_sum ab_ty ab_TT ab_s_181_0_d := ab_ok_sum (X := ([ab_s_126_7_d, ab_s_126_6_d], ab_TT, mj_m_181, ab_s_181_0_d.2.1, ab_s_181_0_d.2.2, [(5, 8)], [(0, [(0, (2, 234, 0, 0)), (1, (0, -2147483648, 2147483647, 1000000)), (2, (0, -2147483648, 2147483647, 1000000))], 9, [0]), (34, [(5, (0, 0, 8, 1000000)), (3, (1, -9223372036854775808, 9223372036854775807, 1000000)), (0, (2, 234, 0, 0)), (1, (0, 0, 8, 1000000)), (2, (0, 0, 100, 1000000))], 0, [1])], false)) (F := 600) (List.forall_mem_cons.mpr ⟨ab_s_126_7, List.forall_mem_cons.mpr ⟨ab_s_126_6, fun _ h => absurd h List.not_mem_nil⟩⟩) rfl (by decide +kernel)
def ab_s_110_0_d : ab_M := (110, [(2, 217, 0, 0), (0, -2147483648, 2147483647, 0), (0, -2147483648, 2147483647, 0)], [(some (0, 0, 1, 0), [(2, 217, 0, 0), (0, -2147483648, 2147483647, 0), (0, -2147483648, 2147483647, 0)])])
set_option maxRecDepth 1000000 in
theorem ab_s_110_0 : ab_sum ab_ty ab_TT ab_s_110_0_d := ab_ok_sum (X := ([], ab_TT, mj_m_110, ab_s_110_0_d.2.1, ab_s_110_0_d.2.2, [(3, 7)], [(0, [(0, (2, 217, 0, 0)), (1, (0, -2147483648, 2147483647, 1000000)), (2, (0, -2147483648, 2147483647, 1000000))], 8, [0]), (2, [(3, (0, 0, 7, 1000000)), (0, (2, 217, 0, 0)), (1, (0, -2147483648, 2147483647, 1000000)), (2, (0, -2147483648, 2147483647, 1000000))], 0, [1])], false)) (F := 600) (fun _ h => absurd h List.not_mem_nil) rfl (by decide +kernel)
def ab_s_109_0_d : ab_M := (109, [(2, 0, 0, 0), (0, -2147483648, 2147483647, 0)], [(some (0, 0, 511, 0), [(2, 0, 0, 0), (0, -2147483648, 2147483647, 0)])])
set_option maxRecDepth 1000000 in
theorem ab_s_109_0 : ab_sum ab_ty ab_TT ab_s_109_0_d := ab_ok_sum (X := ([ab_s_110_0_d, ab_s_83_0_d], ab_TT, mj_m_109, ab_s_109_0_d.2.1, ab_s_109_0_d.2.2, [(3, 9)], [(0, [(0, (2, 0, 0, 0)), (1, (0, -2147483648, 2147483647, 1000000))], 10, [0]), (4, [(3, (0, 0, 9, 1000000)), (2, (0, 0, 511, 1000000)), (0, (2, 0, 0, 0)), (1, (0, -2147483648, 2147483647, 1000000))], 0, [1])], false)) (F := 600) (List.forall_mem_cons.mpr ⟨ab_s_110_0, List.forall_mem_cons.mpr ⟨ab_s_83_0, fun _ h => absurd h List.not_mem_nil⟩⟩) rfl (by decide +kernel)
def ab_s_112_0_d : ab_M := (112, [(2, 0, 0, 0), (0, 0, 8, 0), (0, -2147483648, 2147483647, 0)], [(some (0, -2147483648, 2147483647, 0), [(2, 0, 0, 0), (0, 0, 8, 0), (0, -2147483648, 2147483647, 0)])])
set_option maxRecDepth 1000000 in
theorem ab_s_112_0 : ab_sum ab_ty ab_TT ab_s_112_0_d := ab_ok_sum (X := ([ab_s_83_0_d], ab_TT, mj_m_112, ab_s_112_0_d.2.1, ab_s_112_0_d.2.2, [(4, 9)], [(0, [(0, (2, 0, 0, 0)), (1, (0, 0, 8, 1000000)), (2, (0, -2147483648, 2147483647, 1000000))], 10, [0]), (5, [(4, (0, 0, 9, 1000000)), (3, (0, -2147483648, 2147483647, 1000000)), (0, (2, 0, 0, 0)), (1, (0, 0, 8, 1000000)), (2, (0, -2147483648, 2147483647, 1000000))], 0, [1])], false)) (F := 600) (List.forall_mem_cons.mpr ⟨ab_s_83_0, fun _ h => absurd h List.not_mem_nil⟩) rfl (by decide +kernel)
def ab_s_111_0_d : ab_M := (111, [(2, 0, 0, 0), (0, -2147483648, 2147483647, 0)], [(some (0, -1, 8, 0), [(2, 0, 0, 0), (0, -2147483648, 2147483647, 0)])])
set_option maxRecDepth 1000000 in
theorem ab_s_111_0 : ab_sum ab_ty ab_TT ab_s_111_0_d := ab_ok_sum (X := ([ab_s_112_0_d, ab_s_91_0_d], ab_TT, mj_m_111, ab_s_111_0_d.2.1, ab_s_111_0_d.2.2, [(5, 9)], [(0, [(0, (2, 0, 0, 0)), (1, (0, -2147483648, 2147483647, 1000000))], 10, [0]), (13, [(5, (0, 0, 9, 1000000)), (4, (0, -2147483648, 63, 1000000)), (3, (0, -1, 8, 1000000)), (2, (0, 0, 63, 1000000)), (0, (2, 0, 0, 0)), (1, (0, -2147483648, 2147483647, 1000000))], 0, [1])], false)) (F := 600) (List.forall_mem_cons.mpr ⟨ab_s_112_0, List.forall_mem_cons.mpr ⟨ab_s_91_0, fun _ h => absurd h List.not_mem_nil⟩⟩) rfl (by decide +kernel)
def ab_s_108_0_d : ab_M := (108, [(2, 0, 0, 0), (0, -2147483648, 2147483647, 0), (0, -2147483648, 2147483647, 0)], [(some (0, -1000000002, 511, 0), [(2, 0, 0, 0), (0, -2147483648, 2147483647, 0), (0, -2147483648, 2147483647, 0)])])
set_option maxRecDepth 1000000 in
theorem ab_s_108_0 : ab_sum ab_ty ab_TT ab_s_108_0_d := ab_ok_sum (X := ([ab_s_111_0_d, ab_s_109_0_d], ab_TT, mj_m_108, ab_s_108_0_d.2.1, ab_s_108_0_d.2.2, [], [(0, [(0, (2, 0, 0, 0)), (1, (0, -2147483648, 2147483647, 1000000)), (2, (0, -2147483648, 2147483647, 1000000))], 0, [])], true)) (F := 600) (List.forall_mem_cons.mpr ⟨ab_s_111_0, List.forall_mem_cons.mpr ⟨ab_s_109_0, fun _ h => absurd h List.not_mem_nil⟩⟩) rfl (by decide +kernel)
def ab_s_116_0_d : ab_M := (116, [(2, 221, 0, 0), (2, 13, 0, 0)], [(some (0, -1, 19, 0), [(2, 221, 0, 0), (2, 13, 0, 0)])])
set_option maxRecDepth 1000000 in
theorem ab_s_116_0 : ab_sum ab_ty ab_TT ab_s_116_0_d := ab_ok_sum (X := ([ab_s_40_0_d], ab_TT, mj_m_116, ab_s_116_0_d.2.1, ab_s_116_0_d.2.2, [(2, 29)], [(0, [(0, (2, 221, 0, 0)), (1, (2, 13, 0, 0))], 30, [0]), (2, [(2, (0, 0, 29, 1000000)), (0, (2, 221, 0, 0)), (1, (2, 13, 0, 0))], 0, [1])], false)) (F := 600) (List.forall_mem_cons.mpr ⟨ab_s_40_0, fun _ h => absurd h List.not_mem_nil⟩) rfl (by decide +kernel)
def ab_s_115_0_d : ab_M := (115, [(2, 0, 0, 0)], [(some (0, -1, 19, 0), [(2, 0, 0, 0)])])
set_option maxRecDepth 1000000 in
theorem ab_s_115_0 : ab_sum ab_ty ab_TT ab_s_115_0_d := ab_ok_sum (X := ([ab_s_116_0_d], ab_TT, mj_m_115, ab_s_115_0_d.2.1, ab_s_115_0_d.2.2, [], [(0, [(0, (2, 0, 0, 0))], 0, [])], true)) (F := 600) (List.forall_mem_cons.mpr ⟨ab_s_116_0, fun _ h => absurd h List.not_mem_nil⟩) rfl (by decide +kernel)
def ab_s_185_0_d : ab_M := (185, [(2, 234, 0, 0)], [(some (0, -1, 19, 0), [(2, 234, 0, 0)])])
set_option maxRecDepth 1000000 in
theorem ab_s_185_0 : ab_sum ab_ty ab_TT ab_s_185_0_d := ab_ok_sum (X := ([ab_s_142_0_d], ab_TT, mj_m_185, ab_s_185_0_d.2.1, ab_s_185_0_d.2.2, [(1, 29)], [(0, [(0, (2, 234, 0, 0))], 30, [0]), (2, [(1, (0, 0, 29, 1000000)), (0, (2, 234, 0, 0))], 0, [1])], false)) (F := 600) (List.forall_mem_cons.mpr ⟨ab_s_142_0, fun _ h => absurd h List.not_mem_nil⟩) rfl (by decide +kernel)
def ab_s_117_0_d : ab_M := (117, [(2, 0, 0, 0)], [(some (0, 0, 26, 0), [(2, 0, 0, 0)])])
set_option maxRecDepth 1000000 in
theorem ab_s_117_0 : ab_sum ab_ty ab_TT ab_s_117_0_d := ab_ok_sum (X := ([], ab_TT, mj_m_117, ab_s_117_0_d.2.1, ab_s_117_0_d.2.2, [], [(0, [(0, (2, 0, 0, 0))], 0, [])], true)) (F := 600) (fun _ h => absurd h List.not_mem_nil) rfl (by decide +kernel)
def ab_s_186_0_d : ab_M := (186, [(2, 234, 0, 0)], [(some (0, 0, 26, 0), [(2, 234, 0, 0)])])
set_option maxRecDepth 1000000 in
theorem ab_s_186_0 : ab_sum ab_ty ab_TT ab_s_186_0_d := ab_ok_sum (X := ([], ab_TT, mj_m_186, ab_s_186_0_d.2.1, ab_s_186_0_d.2.2, [], [(0, [(0, (2, 234, 0, 0))], 0, [])], true)) (F := 600) (fun _ h => absurd h List.not_mem_nil) rfl (by decide +kernel)
def ab_s_118_0_d : ab_M := (118, [(2, 0, 0, 0), (0, -2147483648, 2147483647, 0)], [(some (0, -1000000002, 2147483647, 0), [(2, 0, 0, 0), (0, -2147483648, 2147483647, 0)])])
set_option maxRecDepth 1000000 in
theorem ab_s_118_0 : ab_sum ab_ty ab_TT ab_s_118_0_d := ab_ok_sum (X := ([], ab_TT, mj_m_118, ab_s_118_0_d.2.1, ab_s_118_0_d.2.2, [], [(0, [(0, (2, 0, 0, 0)), (1, (0, -2147483648, 2147483647, 1000000))], 0, [])], true)) (F := 600) (fun _ h => absurd h List.not_mem_nil) rfl (by decide +kernel)
def ab_s_187_0_d : ab_M := (187, [(2, 234, 0, 0), (0, -2147483648, 2147483647, 0)], [(some (0, -1000000002, 2147483647, 0), [(2, 234, 0, 0), (0, -2147483648, 2147483647, 0)])])
set_option maxRecDepth 1000000 in
theorem ab_s_187_0 : ab_sum ab_ty ab_TT ab_s_187_0_d := ab_ok_sum (X := ([], ab_TT, mj_m_187, ab_s_187_0_d.2.1, ab_s_187_0_d.2.2, [], [(0, [(0, (2, 234, 0, 0)), (1, (0, -2147483648, 2147483647, 1000000))], 0, [])], true)) (F := 600) (fun _ h => absurd h List.not_mem_nil) rfl (by decide +kernel)
def ab_s_19_0_d : ab_M := (19, [(2, 1, 0, 0), (0, 1, 1, 0), (0, -2147483648, 2147483647, 0)], [(none, [(2, 1, 0, 0), (0, 1, 1, 0), (0, -2147483648, 2147483647, 0)])])
set_option maxRecDepth 1000000 in
theorem ab_s_19_0 : ab_sum ab_ty ab_TT ab_s_19_0_d := ab_ok_sum (X := ([], ab_TT, mj_m_19, ab_s_19_0_d.2.1, ab_s_19_0_d.2.2, [], [(0, [(0, (2, 1, 0, 0)), (1, (0, 1, 1, 1000000)), (2, (0, -2147483648, 2147483647, 1000000))], 0, [])], true)) (F := 600) (fun _ h => absurd h List.not_mem_nil) rfl (by decide +kernel)
def ab_s_24_0_d : ab_M := (24, [(0, 0, 65535, 0)], [(some (0, 1, 1, 0), [(0, 48, 57, 0)]), (some (0, 0, 0, 0), [(0, 0, 65535, 0)])])
set_option maxRecDepth 1000000 in
theorem ab_s_24_0 : ab_sum ab_ty ab_TT ab_s_24_0_d := ab_ok_sum (X := ([], ab_TT, mj_m_24, ab_s_24_0_d.2.1, ab_s_24_0_d.2.2, [], [(0, [(0, (0, 0, 65535, 1000000))], 0, [])], true)) (F := 600) (fun _ h => absurd h List.not_mem_nil) rfl (by decide +kernel)
def ab_s_179_0_d : ab_M := (179, [(2, 234, 0, 0), (0, 0, 4, 0), (0, 0, 4, 0)], [(some (0, 1, 1, 0), [(2, 234, 0, 0), (0, 0, 4, 0), (0, 0, 4, 0)]), (some (0, 0, 0, 0), [(2, 234, 0, 0), (0, 0, 4, 0), (0, 0, 4, 0)])])
set_option maxRecDepth 1000000 in
theorem ab_s_179_0 : ab_sum ab_ty ab_TT ab_s_179_0_d := ab_ok_sum (X := ([], ab_TT, mj_m_179, ab_s_179_0_d.2.1, ab_s_179_0_d.2.2, [], [(0, [(0, (2, 234, 0, 0)), (1, (0, 0, 4, 1000000)), (2, (0, 0, 4, 1000000))], 0, [])], true)) (F := 600) (fun _ h => absurd h List.not_mem_nil) rfl (by decide +kernel)
def ab_s_164_0_d : ab_M := (164, [(2, 234, 0, 0), (0, 1, 9, 0)], [(some (0, 0, 8, 0), [(2, 234, 0, 0), (0, 1, 9, 0)])])
set_option maxRecDepth 1000000 in
theorem ab_s_164_0 : ab_sum ab_ty ab_TT ab_s_164_0_d := ab_ok_sum (X := ([], ab_TT, mj_m_164, ab_s_164_0_d.2.1, ab_s_164_0_d.2.2, [], [(0, [(0, (2, 234, 0, 0)), (1, (0, 1, 9, 1000000))], 0, [])], true)) (F := 600) (fun _ h => absurd h List.not_mem_nil) rfl (by decide +kernel)
def ab_s_19_1_d : ab_M := (19, [(2, 1, 0, 0), (0, 1, 3, 0), (0, -2147483648, 2147483647, 0)], [(none, [(2, 1, 0, 0), (0, 1, 3, 0), (0, -2147483648, 2147483647, 0)])])
set_option maxRecDepth 1000000 in
theorem ab_s_19_1 : ab_sum ab_ty ab_TT ab_s_19_1_d := ab_ok_sum (X := ([], ab_TT, mj_m_19, ab_s_19_1_d.2.1, ab_s_19_1_d.2.2, [], [(0, [(0, (2, 1, 0, 0)), (1, (0, 1, 3, 1000000)), (2, (0, -2147483648, 2147483647, 1000000))], 0, [])], true)) (F := 600) (fun _ h => absurd h List.not_mem_nil) rfl (by decide +kernel)
def ab_s_26_0_d : ab_M := (26, [(2, 3, 0, 0), (0, 0, 2, 0), (0, 0, 4, 0)], [(none, [(2, 3, 0, 0), (0, 0, 2, 0), (0, 0, 4, 0)])])
set_option maxRecDepth 1000000 in
theorem ab_s_26_0 : ab_sum ab_ty ab_TT ab_s_26_0_d := ab_ok_sum (X := ([], ab_TT, mj_m_26, ab_s_26_0_d.2.1, ab_s_26_0_d.2.2, [], [(0, [(0, (2, 3, 0, 0)), (1, (0, 0, 2, 1000000)), (2, (0, 0, 4, 1000000))], 0, [])], true)) (F := 600) (fun _ h => absurd h List.not_mem_nil) rfl (by decide +kernel)
