def mj_m_33 : mj_M := (⟨"SootMaps", "fault", "()I"⟩, prog_1_method_4_code, 1, (some .int), 9, 0, 1, 0, 0)
def mj_m_34 : mj_M := (⟨"SootMaps", "told", "(I)I"⟩, prog_1_method_5_code, 2, (some .int), 9, 1, 1, 3, 65)
def mj_m_38 : mj_M := (⟨"SootMaps", "house", "(II)I"⟩, prog_1_method_6_code, 3, (some .int), 9, 2, 1, 2, 43)
def mj_m_39 : mj_M := (⟨"SootMaps", "isHouse", "(I)Z"⟩, prog_1_method_33_code, 2, (some .boolean), 9, 1, 1, 0, 0)
def mj_m_41 : mj_M := (⟨"SootMaps", "layer", "(II)I"⟩, prog_1_method_7_code, 3, (some .int), 9, 2, 1, 3, 65)
def mj_m_43 : mj_M := (⟨"SootMaps", "sweep", "(II)I"⟩, prog_1_method_8_code, 3, (some .int), 9, 2, 1, 1, 21)
def mj_m_44 : mj_M := (⟨"SootMaps", "isSweep", "(I)Z"⟩, prog_1_method_34_code, 2, (some .boolean), 9, 1, 1, 0, 0)
def mj_m_45 : mj_M := (⟨"SootMaps", "month", "(I)I"⟩, prog_1_method_9_code, 4, (some .int), 9, 1, 1, 3, 68)
def mj_m_46 : mj_M := (⟨"SootMaps", "refusalOfMonths", "(I)I"⟩, prog_1_method_36_code, 2, (some .int), 9, 1, 1, 0, 0)
def mj_m_54 : mj_M := (⟨"SootMaps", "fire", "(II)I"⟩, prog_1_method_10_code, 4, (some .int), 9, 2, 1, 3, 68)
def mj_m_55 : mj_M := (⟨"SootMaps", "rain", "()I"⟩, prog_1_method_11_code, 1, (some .int), 9, 0, 1, 4, 88)
def mj_m_58 : mj_M := (⟨"SootMaps", "swept", "(I)I"⟩, prog_1_method_12_code, 3, (some .int), 9, 1, 1, 3, 68)
def mj_m_59 : mj_M := (⟨"SootMaps", "run", "(II)I"⟩, prog_1_method_13_code, 4, (some .int), 9, 2, 1, 3, 68)
def mj_m_61 : mj_M := (⟨"SootMaps", "areTwoSweeps", "(II)Z"⟩, prog_1_method_35_code, 3, (some .boolean), 9, 2, 1, 1, 21)
def mj_m_65 : mj_M := (⟨"SootMaps", "drift", "(I)I"⟩, prog_1_method_16_code, 4, (some .int), 9, 1, 1, 5, 110)
def mj_m_66 : mj_M := (⟨"SootMaps", "passDrawnMonth", "()V"⟩, prog_1_method_38_code, 3, none, 9, 0, 1, 4, 88)
def mj_m_67 : mj_M := (⟨"SootMaps", "draw", "(I)I"⟩, prog_1_method_37_code, 2, (some .int), 9, 1, 1, 0, 0)
def mj_m_68 : mj_M := (⟨"SootMaps", "undo", "(I)I"⟩, prog_1_method_17_code, 2, (some .int), 9, 1, 1, 3, 69)
def mj_m_70 : mj_M := (⟨"SootMaps", "burned", "(III)I"⟩, prog_1_method_18_code, 4, (some .int), 9, 3, 1, 3, 71)
def mj_m_71 : mj_M := (⟨"SootMaps$Rows", "lookInto", "(ILSootMaps$Streets;LSootMaps$Plan;)V"⟩, prog_7_method_2_code, 7, none, 5, 3, 1, 2, 45)
def mj_m_73 : mj_M := (⟨"SootMaps$Rows", "addToHeap", "(III)V"⟩, prog_7_method_3_code, 5, none, 5, 3, 1, 1, 21)
def mj_m_74 : mj_M := (⟨"SootMaps$Rows", "howMany", "(I)I"⟩, prog_7_method_7_code, 4, (some .int), 5, 1, 1, 2, 47)
def mj_m_75 : mj_M := (⟨"SootMaps$Rows", "rowsOf", "(I)I"⟩, prog_7_method_4_code, 1, (some .int), 5, 1, 0, 0, 0)
def mj_m_76 : mj_M := (⟨"SootMaps$Rows", "fits", "(II)Z"⟩, prog_7_method_6_code, 6, (some .boolean), 5, 2, 1, 1, 22)
def mj_m_77 : mj_M := (⟨"SootMaps$Rows", "kindIn", "(III)I"⟩, prog_7_method_5_code, 3, (some .int), 5, 3, 0, 0, 0)
def mj_m_79 : mj_M := (⟨"SootMaps$Rows", "fitting", "(II)I"⟩, prog_7_method_8_code, 5, (some .int), 5, 2, 1, 2, 47)
def mj_m_80 : mj_M := (⟨"SootMaps", "sure", "(III)I"⟩, prog_1_method_19_code, 4, (some .int), 9, 3, 1, 3, 72)
def mj_m_81 : mj_M := (⟨"SootMaps$Rows", "sameInAll", "(II)I"⟩, prog_7_method_9_code, 6, (some .int), 5, 2, 1, 2, 47)
def mj_m_82 : mj_M := (⟨"SootMaps", "flues", "(II)I"⟩, prog_1_method_20_code, 3, (some .int), 9, 2, 1, 2, 48)
def mj_m_91 : mj_M := (⟨"java/lang/Integer", "bitCount", "(I)I"⟩, prog_14_method_49_code, 1, (some .int), 13, 1, 0, 0, 0)
def mj_m_98 : mj_M := (⟨"SootMaps", "ring", "(I)I"⟩, prog_1_method_22_code, 4, (some .int), 9, 1, 1, 1, 22)
def mj_m_100 : mj_M := (⟨"SootMaps", "ofPair", "(III)I"⟩, prog_1_method_39_code, 3, (some .int), 9, 3, 0, 0, 0)
def mj_m_101 : mj_M := (⟨"SootMaps", "brushes", "(II)I"⟩, prog_1_method_23_code, 3, (some .int), 9, 2, 1, 3, 72)
def mj_m_104 : mj_M := (⟨"SootMaps", "mostFeared", "(I)I"⟩, prog_1_method_40_code, 6, (some .int), 9, 1, 1, 2, 47)
def mj_m_105 : mj_M := (⟨"SootMaps", "wet", "(II)I"⟩, prog_1_method_24_code, 7, (some .int), 9, 2, 1, 1, 22)
def mj_m_106 : mj_M := (⟨"SootMaps", "see", "(IIZ)I"⟩, prog_1_method_25_code, 4, (some .int), 9, 3, 1, 1, 23)
def mj_m_108 : mj_M := (⟨"SootMaps", "next", "(II)I"⟩, prog_1_method_26_code, 3, (some .int), 9, 2, 1, 4, 98)
def mj_m_109 : mj_M := (⟨"SootMaps", "suspects", "(I)I"⟩, prog_1_method_41_code, 4, (some .int), 9, 1, 1, 2, 47)
def mj_m_111 : mj_M := (⟨"SootMaps", "partingFlue", "(I)I"⟩, prog_1_method_42_code, 8, (some .int), 9, 1, 1, 3, 71)
def mj_m_112 : mj_M := (⟨"SootMaps", "howManyReach", "(II)I"⟩, prog_1_method_43_code, 5, (some .int), 9, 2, 1, 2, 47)
def mj_m_113 : mj_M := (⟨"SootMaps", "write", "(II)I"⟩, prog_1_method_27_code, 3, (some .int), 9, 2, 1, 1, 22)
def mj_m_115 : mj_M := (⟨"SootMaps", "judge", "()I"⟩, prog_1_method_28_code, 1, (some .int), 9, 0, 1, 3, 63)
def mj_m_117 : mj_M := (⟨"SootMaps", "tear", "()I"⟩, prog_1_method_29_code, 2, (some .int), 9, 0, 1, 0, 0)
def mj_m_118 : mj_M := (⟨"SootMaps", "seed", "(I)I"⟩, prog_1_method_30_code, 3, (some .int), 9, 1, 1, 0, 0)
def mj_m_119 : mj_M := (⟨"SootMaps", "keep", "(I)I"⟩, prog_1_method_31_code, 2, (some .int), 9, 1, 1, 3, 70)
def mj_m_121 : mj_M := (⟨"SootMaps", "goBack", "(I)I"⟩, prog_1_method_32_code, 2, (some .int), 9, 1, 1, 3, 69)
theorem mj_d_33_0 : decode mj_m_33.2.1 0 = .ok (.aload_n 0, 1) := by decide +kernel
theorem mj_d_33_1 : decode mj_m_33.2.1 1 = .ok (.getfield 12, 3) := by decide +kernel
theorem mj_d_33_4 : decode mj_m_33.2.1 4 = .ok (.getfield 105, 3) := by decide +kernel
theorem mj_d_33_7 : decode mj_m_33.2.1 7 = .ok (.ireturn, 1) := by decide +kernel
theorem mj_d_34_0 : decode mj_m_34.2.1 0 = .ok (.iload_n 1, 1) := by decide +kernel
theorem mj_d_34_1 : decode mj_m_34.2.1 1 = .ok (.tableswitch 167 0 11 #[63, 79, 87, 95, 103, 111, 119, 127, 135, 143, 151, 159], 63) := by decide +kernel
theorem mj_d_34_64 : decode mj_m_34.2.1 64 = .ok (.aload_n 0, 1) := by decide +kernel
theorem mj_d_34_65 : decode mj_m_34.2.1 65 = .ok (.getfield 19, 3) := by decide +kernel
theorem mj_d_34_68 : decode mj_m_34.2.1 68 = .ok (.getfield 108, 3) := by decide +kernel
theorem mj_d_34_71 : decode mj_m_34.2.1 71 = .ok (.ifCond .eq 7, 3) := by decide +kernel
theorem mj_d_34_74 : decode mj_m_34.2.1 74 = .ok (.iconst 1, 1) := by decide +kernel
theorem mj_d_34_75 : decode mj_m_34.2.1 75 = .ok (.goto 4, 3) := by decide +kernel
theorem mj_d_34_78 : decode mj_m_34.2.1 78 = .ok (.iconst 0, 1) := by decide +kernel
theorem mj_d_34_79 : decode mj_m_34.2.1 79 = .ok (.ireturn, 1) := by decide +kernel
theorem mj_d_34_80 : decode mj_m_34.2.1 80 = .ok (.aload_n 0, 1) := by decide +kernel
theorem mj_d_34_81 : decode mj_m_34.2.1 81 = .ok (.getfield 19, 3) := by decide +kernel
theorem mj_d_34_84 : decode mj_m_34.2.1 84 = .ok (.getfield 112, 3) := by decide +kernel
theorem mj_d_34_87 : decode mj_m_34.2.1 87 = .ok (.ireturn, 1) := by decide +kernel
theorem mj_d_34_88 : decode mj_m_34.2.1 88 = .ok (.aload_n 0, 1) := by decide +kernel
theorem mj_d_34_89 : decode mj_m_34.2.1 89 = .ok (.getfield 19, 3) := by decide +kernel
theorem mj_d_34_92 : decode mj_m_34.2.1 92 = .ok (.getfield 115, 3) := by decide +kernel
theorem mj_d_34_95 : decode mj_m_34.2.1 95 = .ok (.ireturn, 1) := by decide +kernel
theorem mj_d_34_96 : decode mj_m_34.2.1 96 = .ok (.aload_n 0, 1) := by decide +kernel
theorem mj_d_34_97 : decode mj_m_34.2.1 97 = .ok (.getfield 19, 3) := by decide +kernel
theorem mj_d_34_100 : decode mj_m_34.2.1 100 = .ok (.getfield 102, 3) := by decide +kernel
theorem mj_d_34_103 : decode mj_m_34.2.1 103 = .ok (.ireturn, 1) := by decide +kernel
theorem mj_d_34_104 : decode mj_m_34.2.1 104 = .ok (.aload_n 0, 1) := by decide +kernel
theorem mj_d_34_105 : decode mj_m_34.2.1 105 = .ok (.getfield 19, 3) := by decide +kernel
theorem mj_d_34_108 : decode mj_m_34.2.1 108 = .ok (.getfield 118, 3) := by decide +kernel
theorem mj_d_34_111 : decode mj_m_34.2.1 111 = .ok (.ireturn, 1) := by decide +kernel
theorem mj_d_34_112 : decode mj_m_34.2.1 112 = .ok (.aload_n 0, 1) := by decide +kernel
theorem mj_d_34_113 : decode mj_m_34.2.1 113 = .ok (.getfield 12, 3) := by decide +kernel
theorem mj_d_34_116 : decode mj_m_34.2.1 116 = .ok (.getfield 121, 3) := by decide +kernel
theorem mj_d_34_119 : decode mj_m_34.2.1 119 = .ok (.ireturn, 1) := by decide +kernel
theorem mj_d_34_120 : decode mj_m_34.2.1 120 = .ok (.aload_n 0, 1) := by decide +kernel
theorem mj_d_34_121 : decode mj_m_34.2.1 121 = .ok (.getfield 26, 3) := by decide +kernel
theorem mj_d_34_124 : decode mj_m_34.2.1 124 = .ok (.getfield 124, 3) := by decide +kernel
theorem mj_d_34_127 : decode mj_m_34.2.1 127 = .ok (.ireturn, 1) := by decide +kernel
theorem mj_d_34_128 : decode mj_m_34.2.1 128 = .ok (.aload_n 0, 1) := by decide +kernel
theorem mj_d_34_129 : decode mj_m_34.2.1 129 = .ok (.getfield 26, 3) := by decide +kernel
theorem mj_d_34_132 : decode mj_m_34.2.1 132 = .ok (.invokevirtual 127, 3) := by decide +kernel
theorem mj_d_34_135 : decode mj_m_34.2.1 135 = .ok (.ireturn, 1) := by decide +kernel
theorem mj_d_34_136 : decode mj_m_34.2.1 136 = .ok (.aload_n 0, 1) := by decide +kernel
theorem mj_d_34_137 : decode mj_m_34.2.1 137 = .ok (.getfield 26, 3) := by decide +kernel
theorem mj_d_34_140 : decode mj_m_34.2.1 140 = .ok (.getfield 131, 3) := by decide +kernel
theorem mj_d_34_143 : decode mj_m_34.2.1 143 = .ok (.ireturn, 1) := by decide +kernel
theorem mj_d_34_144 : decode mj_m_34.2.1 144 = .ok (.aload_n 0, 1) := by decide +kernel
theorem mj_d_34_145 : decode mj_m_34.2.1 145 = .ok (.getfield 47, 3) := by decide +kernel
theorem mj_d_34_148 : decode mj_m_34.2.1 148 = .ok (.getfield 98, 3) := by decide +kernel
theorem mj_d_34_151 : decode mj_m_34.2.1 151 = .ok (.ireturn, 1) := by decide +kernel
theorem mj_d_34_152 : decode mj_m_34.2.1 152 = .ok (.aload_n 0, 1) := by decide +kernel
theorem mj_d_34_153 : decode mj_m_34.2.1 153 = .ok (.getfield 54, 3) := by decide +kernel
theorem mj_d_34_156 : decode mj_m_34.2.1 156 = .ok (.getfield 101, 3) := by decide +kernel
theorem mj_d_34_159 : decode mj_m_34.2.1 159 = .ok (.ireturn, 1) := by decide +kernel
theorem mj_d_34_160 : decode mj_m_34.2.1 160 = .ok (.aload_n 0, 1) := by decide +kernel
theorem mj_d_34_161 : decode mj_m_34.2.1 161 = .ok (.getfield 33, 3) := by decide +kernel
theorem mj_d_34_164 : decode mj_m_34.2.1 164 = .ok (.getfield 134, 3) := by decide +kernel
theorem mj_d_34_167 : decode mj_m_34.2.1 167 = .ok (.ireturn, 1) := by decide +kernel
theorem mj_d_34_168 : decode mj_m_34.2.1 168 = .ok (.ldc 72, 2) := by decide +kernel
theorem mj_d_34_170 : decode mj_m_34.2.1 170 = .ok (.ireturn, 1) := by decide +kernel
theorem mj_d_38_0 : decode mj_m_38.2.1 0 = .ok (.aload_n 0, 1) := by decide +kernel
theorem mj_d_38_1 : decode mj_m_38.2.1 1 = .ok (.iload_n 1, 1) := by decide +kernel
theorem mj_d_38_2 : decode mj_m_38.2.1 2 = .ok (.invokevirtual 135, 3) := by decide +kernel
theorem mj_d_38_5 : decode mj_m_38.2.1 5 = .ok (.ifCond .ne 6, 3) := by decide +kernel
theorem mj_d_38_8 : decode mj_m_38.2.1 8 = .ok (.ldc 139, 2) := by decide +kernel
theorem mj_d_38_10 : decode mj_m_38.2.1 10 = .ok (.ireturn, 1) := by decide +kernel
theorem mj_d_38_11 : decode mj_m_38.2.1 11 = .ok (.iload_n 2, 1) := by decide +kernel
theorem mj_d_38_12 : decode mj_m_38.2.1 12 = .ok (.tableswitch 78 0 3 #[32, 42, 52, 65], 32) := by decide +kernel
theorem mj_d_38_44 : decode mj_m_38.2.1 44 = .ok (.aload_n 0, 1) := by decide +kernel
theorem mj_d_38_45 : decode mj_m_38.2.1 45 = .ok (.getfield 26, 3) := by decide +kernel
theorem mj_d_38_48 : decode mj_m_38.2.1 48 = .ok (.getfield 140, 3) := by decide +kernel
theorem mj_d_38_51 : decode mj_m_38.2.1 51 = .ok (.iload_n 1, 1) := by decide +kernel
theorem mj_d_38_52 : decode mj_m_38.2.1 52 = .ok (.iaload, 1) := by decide +kernel
theorem mj_d_38_53 : decode mj_m_38.2.1 53 = .ok (.ireturn, 1) := by decide +kernel
theorem mj_d_38_54 : decode mj_m_38.2.1 54 = .ok (.aload_n 0, 1) := by decide +kernel
theorem mj_d_38_55 : decode mj_m_38.2.1 55 = .ok (.getfield 26, 3) := by decide +kernel
theorem mj_d_38_58 : decode mj_m_38.2.1 58 = .ok (.getfield 144, 3) := by decide +kernel
theorem mj_d_38_61 : decode mj_m_38.2.1 61 = .ok (.iload_n 1, 1) := by decide +kernel
theorem mj_d_38_62 : decode mj_m_38.2.1 62 = .ok (.iaload, 1) := by decide +kernel
theorem mj_d_38_63 : decode mj_m_38.2.1 63 = .ok (.ireturn, 1) := by decide +kernel
theorem mj_d_38_64 : decode mj_m_38.2.1 64 = .ok (.aload_n 0, 1) := by decide +kernel
theorem mj_d_38_65 : decode mj_m_38.2.1 65 = .ok (.getfield 26, 3) := by decide +kernel
theorem mj_d_38_68 : decode mj_m_38.2.1 68 = .ok (.getfield 147, 3) := by decide +kernel
theorem mj_d_38_71 : decode mj_m_38.2.1 71 = .ok (.iload_n 1, 1) := by decide +kernel
theorem mj_d_38_72 : decode mj_m_38.2.1 72 = .ok (.iaload, 1) := by decide +kernel
theorem mj_d_38_73 : decode mj_m_38.2.1 73 = .ok (.invokestatic 150, 3) := by decide +kernel
theorem mj_d_38_76 : decode mj_m_38.2.1 76 = .ok (.ireturn, 1) := by decide +kernel
theorem mj_d_38_77 : decode mj_m_38.2.1 77 = .ok (.aload_n 0, 1) := by decide +kernel
theorem mj_d_38_78 : decode mj_m_38.2.1 78 = .ok (.getfield 26, 3) := by decide +kernel
theorem mj_d_38_81 : decode mj_m_38.2.1 81 = .ok (.getfield 147, 3) := by decide +kernel
theorem mj_d_38_84 : decode mj_m_38.2.1 84 = .ok (.iload_n 1, 1) := by decide +kernel
theorem mj_d_38_85 : decode mj_m_38.2.1 85 = .ok (.iaload, 1) := by decide +kernel
theorem mj_d_38_86 : decode mj_m_38.2.1 86 = .ok (.invokestatic 156, 3) := by decide +kernel
theorem mj_d_38_89 : decode mj_m_38.2.1 89 = .ok (.ireturn, 1) := by decide +kernel
theorem mj_d_38_90 : decode mj_m_38.2.1 90 = .ok (.ldc 72, 2) := by decide +kernel
theorem mj_d_38_92 : decode mj_m_38.2.1 92 = .ok (.ireturn, 1) := by decide +kernel
theorem mj_d_39_0 : decode mj_m_39.2.1 0 = .ok (.iload_n 1, 1) := by decide +kernel
theorem mj_d_39_1 : decode mj_m_39.2.1 1 = .ok (.ifCond .lt 18, 3) := by decide +kernel
theorem mj_d_39_4 : decode mj_m_39.2.1 4 = .ok (.iload_n 1, 1) := by decide +kernel
theorem mj_d_39_5 : decode mj_m_39.2.1 5 = .ok (.aload_n 0, 1) := by decide +kernel
theorem mj_d_39_6 : decode mj_m_39.2.1 6 = .ok (.getfield 19, 3) := by decide +kernel
theorem mj_d_39_9 : decode mj_m_39.2.1 9 = .ok (.getfield 102, 3) := by decide +kernel
theorem mj_d_39_12 : decode mj_m_39.2.1 12 = .ok (.if_icmp .ge 7, 3) := by decide +kernel
theorem mj_d_39_15 : decode mj_m_39.2.1 15 = .ok (.iconst 1, 1) := by decide +kernel
theorem mj_d_39_16 : decode mj_m_39.2.1 16 = .ok (.goto 4, 3) := by decide +kernel
theorem mj_d_39_19 : decode mj_m_39.2.1 19 = .ok (.iconst 0, 1) := by decide +kernel
theorem mj_d_39_20 : decode mj_m_39.2.1 20 = .ok (.ireturn, 1) := by decide +kernel
theorem mj_d_41_0 : decode mj_m_41.2.1 0 = .ok (.aload_n 0, 1) := by decide +kernel
theorem mj_d_41_1 : decode mj_m_41.2.1 1 = .ok (.iload_n 1, 1) := by decide +kernel
theorem mj_d_41_2 : decode mj_m_41.2.1 2 = .ok (.invokevirtual 135, 3) := by decide +kernel
theorem mj_d_41_5 : decode mj_m_41.2.1 5 = .ok (.ifCond .ne 6, 3) := by decide +kernel
theorem mj_d_41_8 : decode mj_m_41.2.1 8 = .ok (.ldc 139, 2) := by decide +kernel
theorem mj_d_41_10 : decode mj_m_41.2.1 10 = .ok (.ireturn, 1) := by decide +kernel
theorem mj_d_41_11 : decode mj_m_41.2.1 11 = .ok (.iload_n 2, 1) := by decide +kernel
theorem mj_d_41_12 : decode mj_m_41.2.1 12 = .ok (.ifCond .lt 9, 3) := by decide +kernel
theorem mj_d_41_15 : decode mj_m_41.2.1 15 = .ok (.iload_n 2, 1) := by decide +kernel
theorem mj_d_41_16 : decode mj_m_41.2.1 16 = .ok (.bipush 8, 2) := by decide +kernel
theorem mj_d_41_18 : decode mj_m_41.2.1 18 = .ok (.if_icmp .lt 6, 3) := by decide +kernel
theorem mj_d_41_21 : decode mj_m_41.2.1 21 = .ok (.ldc 72, 2) := by decide +kernel
theorem mj_d_41_23 : decode mj_m_41.2.1 23 = .ok (.ireturn, 1) := by decide +kernel
theorem mj_d_41_24 : decode mj_m_41.2.1 24 = .ok (.aload_n 0, 1) := by decide +kernel
theorem mj_d_41_25 : decode mj_m_41.2.1 25 = .ok (.getfield 26, 3) := by decide +kernel
theorem mj_d_41_28 : decode mj_m_41.2.1 28 = .ok (.getfield 147, 3) := by decide +kernel
theorem mj_d_41_31 : decode mj_m_41.2.1 31 = .ok (.iload_n 1, 1) := by decide +kernel
theorem mj_d_41_32 : decode mj_m_41.2.1 32 = .ok (.iaload, 1) := by decide +kernel
theorem mj_d_41_33 : decode mj_m_41.2.1 33 = .ok (.iload_n 2, 1) := by decide +kernel
theorem mj_d_41_34 : decode mj_m_41.2.1 34 = .ok (.invokestatic 159, 3) := by decide +kernel
theorem mj_d_41_37 : decode mj_m_41.2.1 37 = .ok (.ireturn, 1) := by decide +kernel
theorem mj_d_43_0 : decode mj_m_43.2.1 0 = .ok (.aload_n 0, 1) := by decide +kernel
theorem mj_d_43_1 : decode mj_m_43.2.1 1 = .ok (.iload_n 1, 1) := by decide +kernel
theorem mj_d_43_2 : decode mj_m_43.2.1 2 = .ok (.invokevirtual 163, 3) := by decide +kernel
theorem mj_d_43_5 : decode mj_m_43.2.1 5 = .ok (.ifCond .ne 6, 3) := by decide +kernel
theorem mj_d_43_8 : decode mj_m_43.2.1 8 = .ok (.ldc 139, 2) := by decide +kernel
theorem mj_d_43_10 : decode mj_m_43.2.1 10 = .ok (.ireturn, 1) := by decide +kernel
theorem mj_d_43_11 : decode mj_m_43.2.1 11 = .ok (.iload_n 2, 1) := by decide +kernel
theorem mj_d_43_12 : decode mj_m_43.2.1 12 = .ok (.tableswitch 61 0 2 #[28, 38, 48], 28) := by decide +kernel
theorem mj_d_43_40 : decode mj_m_43.2.1 40 = .ok (.aload_n 0, 1) := by decide +kernel
theorem mj_d_43_41 : decode mj_m_43.2.1 41 = .ok (.getfield 26, 3) := by decide +kernel
theorem mj_d_43_44 : decode mj_m_43.2.1 44 = .ok (.getfield 166, 3) := by decide +kernel
theorem mj_d_43_47 : decode mj_m_43.2.1 47 = .ok (.iload_n 1, 1) := by decide +kernel
theorem mj_d_43_48 : decode mj_m_43.2.1 48 = .ok (.iaload, 1) := by decide +kernel
theorem mj_d_43_49 : decode mj_m_43.2.1 49 = .ok (.ireturn, 1) := by decide +kernel
theorem mj_d_43_50 : decode mj_m_43.2.1 50 = .ok (.aload_n 0, 1) := by decide +kernel
theorem mj_d_43_51 : decode mj_m_43.2.1 51 = .ok (.getfield 19, 3) := by decide +kernel
theorem mj_d_43_54 : decode mj_m_43.2.1 54 = .ok (.getfield 169, 3) := by decide +kernel
theorem mj_d_43_57 : decode mj_m_43.2.1 57 = .ok (.iload_n 1, 1) := by decide +kernel
theorem mj_d_43_58 : decode mj_m_43.2.1 58 = .ok (.iaload, 1) := by decide +kernel
theorem mj_d_43_59 : decode mj_m_43.2.1 59 = .ok (.ireturn, 1) := by decide +kernel
theorem mj_d_43_60 : decode mj_m_43.2.1 60 = .ok (.aload_n 0, 1) := by decide +kernel
theorem mj_d_43_61 : decode mj_m_43.2.1 61 = .ok (.getfield 26, 3) := by decide +kernel
theorem mj_d_43_64 : decode mj_m_43.2.1 64 = .ok (.getfield 172, 3) := by decide +kernel
theorem mj_d_43_67 : decode mj_m_43.2.1 67 = .ok (.iload_n 1, 1) := by decide +kernel
theorem mj_d_43_68 : decode mj_m_43.2.1 68 = .ok (.iaload, 1) := by decide +kernel
theorem mj_d_43_69 : decode mj_m_43.2.1 69 = .ok (.ldc 175, 2) := by decide +kernel
theorem mj_d_43_71 : decode mj_m_43.2.1 71 = .ok (.iadd, 1) := by decide +kernel
theorem mj_d_43_72 : decode mj_m_43.2.1 72 = .ok (.ireturn, 1) := by decide +kernel
theorem mj_d_43_73 : decode mj_m_43.2.1 73 = .ok (.ldc 72, 2) := by decide +kernel
theorem mj_d_43_75 : decode mj_m_43.2.1 75 = .ok (.ireturn, 1) := by decide +kernel
theorem mj_d_44_0 : decode mj_m_44.2.1 0 = .ok (.iload_n 1, 1) := by decide +kernel
theorem mj_d_44_1 : decode mj_m_44.2.1 1 = .ok (.ifCond .lt 18, 3) := by decide +kernel
theorem mj_d_44_4 : decode mj_m_44.2.1 4 = .ok (.iload_n 1, 1) := by decide +kernel
theorem mj_d_44_5 : decode mj_m_44.2.1 5 = .ok (.aload_n 0, 1) := by decide +kernel
theorem mj_d_44_6 : decode mj_m_44.2.1 6 = .ok (.getfield 19, 3) := by decide +kernel
theorem mj_d_44_9 : decode mj_m_44.2.1 9 = .ok (.getfield 118, 3) := by decide +kernel
theorem mj_d_44_12 : decode mj_m_44.2.1 12 = .ok (.if_icmp .ge 7, 3) := by decide +kernel
theorem mj_d_44_15 : decode mj_m_44.2.1 15 = .ok (.iconst 1, 1) := by decide +kernel
theorem mj_d_44_16 : decode mj_m_44.2.1 16 = .ok (.goto 4, 3) := by decide +kernel
theorem mj_d_44_19 : decode mj_m_44.2.1 19 = .ok (.iconst 0, 1) := by decide +kernel
theorem mj_d_44_20 : decode mj_m_44.2.1 20 = .ok (.ireturn, 1) := by decide +kernel
theorem mj_d_45_0 : decode mj_m_45.2.1 0 = .ok (.aload_n 0, 1) := by decide +kernel
theorem mj_d_45_1 : decode mj_m_45.2.1 1 = .ok (.iload_n 1, 1) := by decide +kernel
theorem mj_d_45_2 : decode mj_m_45.2.1 2 = .ok (.invokevirtual 176, 3) := by decide +kernel
theorem mj_d_45_5 : decode mj_m_45.2.1 5 = .ok (.istore_n 2, 1) := by decide +kernel
theorem mj_d_45_6 : decode mj_m_45.2.1 6 = .ok (.iload_n 2, 1) := by decide +kernel
theorem mj_d_45_7 : decode mj_m_45.2.1 7 = .ok (.ifCond .eq 5, 3) := by decide +kernel
theorem mj_d_45_10 : decode mj_m_45.2.1 10 = .ok (.iload_n 2, 1) := by decide +kernel
theorem mj_d_45_11 : decode mj_m_45.2.1 11 = .ok (.ireturn, 1) := by decide +kernel
theorem mj_d_45_12 : decode mj_m_45.2.1 12 = .ok (.iconst 0, 1) := by decide +kernel
theorem mj_d_45_13 : decode mj_m_45.2.1 13 = .ok (.istore_n 3, 1) := by decide +kernel
theorem mj_d_45_14 : decode mj_m_45.2.1 14 = .ok (.iload_n 3, 1) := by decide +kernel
theorem mj_d_45_15 : decode mj_m_45.2.1 15 = .ok (.iload_n 1, 1) := by decide +kernel
theorem mj_d_45_16 : decode mj_m_45.2.1 16 = .ok (.if_icmp .ge 31, 3) := by decide +kernel
theorem mj_d_45_19 : decode mj_m_45.2.1 19 = .ok (.aload_n 0, 1) := by decide +kernel
theorem mj_d_45_20 : decode mj_m_45.2.1 20 = .ok (.getfield 33, 3) := by decide +kernel
theorem mj_d_45_23 : decode mj_m_45.2.1 23 = .ok (.aload_n 0, 1) := by decide +kernel
theorem mj_d_45_24 : decode mj_m_45.2.1 24 = .ok (.getfield 26, 3) := by decide +kernel
theorem mj_d_45_27 : decode mj_m_45.2.1 27 = .ok (.invokevirtual 179, 3) := by decide +kernel
theorem mj_d_45_30 : decode mj_m_45.2.1 30 = .ok (.aload_n 0, 1) := by decide +kernel
theorem mj_d_45_31 : decode mj_m_45.2.1 31 = .ok (.getfield 26, 3) := by decide +kernel
theorem mj_d_45_34 : decode mj_m_45.2.1 34 = .ok (.aload_n 0, 1) := by decide +kernel
theorem mj_d_45_35 : decode mj_m_45.2.1 35 = .ok (.getfield 19, 3) := by decide +kernel
theorem mj_d_45_38 : decode mj_m_45.2.1 38 = .ok (.invokevirtual 183, 3) := by decide +kernel
theorem mj_d_45_41 : decode mj_m_45.2.1 41 = .ok (.iinc 3 1, 3) := by decide +kernel
theorem mj_d_45_44 : decode mj_m_45.2.1 44 = .ok (.goto (-30), 3) := by decide +kernel
theorem mj_d_45_47 : decode mj_m_45.2.1 47 = .ok (.aload_n 0, 1) := by decide +kernel
theorem mj_d_45_48 : decode mj_m_45.2.1 48 = .ok (.getfield 26, 3) := by decide +kernel
theorem mj_d_45_51 : decode mj_m_45.2.1 51 = .ok (.invokevirtual 127, 3) := by decide +kernel
theorem mj_d_45_54 : decode mj_m_45.2.1 54 = .ok (.ireturn, 1) := by decide +kernel
theorem mj_d_46_0 : decode mj_m_46.2.1 0 = .ok (.iload_n 1, 1) := by decide +kernel
theorem mj_d_46_1 : decode mj_m_46.2.1 1 = .ok (.iconst 1, 1) := by decide +kernel
theorem mj_d_46_2 : decode mj_m_46.2.1 2 = .ok (.if_icmp .lt 9, 3) := by decide +kernel
theorem mj_d_46_5 : decode mj_m_46.2.1 5 = .ok (.iload_n 1, 1) := by decide +kernel
theorem mj_d_46_6 : decode mj_m_46.2.1 6 = .ok (.bipush 30, 2) := by decide +kernel
theorem mj_d_46_8 : decode mj_m_46.2.1 8 = .ok (.if_icmp .le 6, 3) := by decide +kernel
theorem mj_d_46_11 : decode mj_m_46.2.1 11 = .ok (.ldc 72, 2) := by decide +kernel
theorem mj_d_46_13 : decode mj_m_46.2.1 13 = .ok (.ireturn, 1) := by decide +kernel
theorem mj_d_46_14 : decode mj_m_46.2.1 14 = .ok (.aload_n 0, 1) := by decide +kernel
theorem mj_d_46_15 : decode mj_m_46.2.1 15 = .ok (.getfield 19, 3) := by decide +kernel
theorem mj_d_46_18 : decode mj_m_46.2.1 18 = .ok (.getfield 108, 3) := by decide +kernel
theorem mj_d_46_21 : decode mj_m_46.2.1 21 = .ok (.ifCond .ne 6, 3) := by decide +kernel
theorem mj_d_46_24 : decode mj_m_46.2.1 24 = .ok (.ldc 186, 2) := by decide +kernel
theorem mj_d_46_26 : decode mj_m_46.2.1 26 = .ok (.ireturn, 1) := by decide +kernel
theorem mj_d_46_27 : decode mj_m_46.2.1 27 = .ok (.aload_n 0, 1) := by decide +kernel
theorem mj_d_46_28 : decode mj_m_46.2.1 28 = .ok (.getfield 26, 3) := by decide +kernel
theorem mj_d_46_31 : decode mj_m_46.2.1 31 = .ok (.getfield 124, 3) := by decide +kernel
theorem mj_d_46_34 : decode mj_m_46.2.1 34 = .ok (.sipush 9000, 3) := by decide +kernel
theorem mj_d_46_37 : decode mj_m_46.2.1 37 = .ok (.if_icmp .le 9, 3) := by decide +kernel
theorem mj_d_46_40 : decode mj_m_46.2.1 40 = .ok (.ldc_w 292, 3) := by decide +kernel
theorem mj_d_46_43 : decode mj_m_46.2.1 43 = .ok (.goto 4, 3) := by decide +kernel
theorem mj_d_46_46 : decode mj_m_46.2.1 46 = .ok (.iconst 0, 1) := by decide +kernel
theorem mj_d_46_47 : decode mj_m_46.2.1 47 = .ok (.ireturn, 1) := by decide +kernel
theorem mj_d_54_0 : decode mj_m_54.2.1 0 = .ok (.aload_n 0, 1) := by decide +kernel
theorem mj_d_54_1 : decode mj_m_54.2.1 1 = .ok (.iload_n 1, 1) := by decide +kernel
theorem mj_d_54_2 : decode mj_m_54.2.1 2 = .ok (.invokevirtual 135, 3) := by decide +kernel
theorem mj_d_54_5 : decode mj_m_54.2.1 5 = .ok (.ifCond .ne 6, 3) := by decide +kernel
theorem mj_d_54_8 : decode mj_m_54.2.1 8 = .ok (.ldc 139, 2) := by decide +kernel
theorem mj_d_54_10 : decode mj_m_54.2.1 10 = .ok (.ireturn, 1) := by decide +kernel
theorem mj_d_54_11 : decode mj_m_54.2.1 11 = .ok (.iload_n 2, 1) := by decide +kernel
theorem mj_d_54_12 : decode mj_m_54.2.1 12 = .ok (.ifCond .lt 9, 3) := by decide +kernel
theorem mj_d_54_15 : decode mj_m_54.2.1 15 = .ok (.iload_n 2, 1) := by decide +kernel
theorem mj_d_54_16 : decode mj_m_54.2.1 16 = .ok (.bipush 7, 2) := by decide +kernel
theorem mj_d_54_18 : decode mj_m_54.2.1 18 = .ok (.if_icmp .le 6, 3) := by decide +kernel
theorem mj_d_54_21 : decode mj_m_54.2.1 21 = .ok (.ldc 72, 2) := by decide +kernel
theorem mj_d_54_23 : decode mj_m_54.2.1 23 = .ok (.ireturn, 1) := by decide +kernel
theorem mj_d_54_24 : decode mj_m_54.2.1 24 = .ok (.aload_n 0, 1) := by decide +kernel
theorem mj_d_54_25 : decode mj_m_54.2.1 25 = .ok (.getfield 33, 3) := by decide +kernel
theorem mj_d_54_28 : decode mj_m_54.2.1 28 = .ok (.aload_n 0, 1) := by decide +kernel
theorem mj_d_54_29 : decode mj_m_54.2.1 29 = .ok (.getfield 26, 3) := by decide +kernel
theorem mj_d_54_32 : decode mj_m_54.2.1 32 = .ok (.invokevirtual 179, 3) := by decide +kernel
theorem mj_d_54_35 : decode mj_m_54.2.1 35 = .ok (.aload_n 0, 1) := by decide +kernel
theorem mj_d_54_36 : decode mj_m_54.2.1 36 = .ok (.getfield 26, 3) := by decide +kernel
theorem mj_d_54_39 : decode mj_m_54.2.1 39 = .ok (.getfield 140, 3) := by decide +kernel
theorem mj_d_54_42 : decode mj_m_54.2.1 42 = .ok (.iload_n 1, 1) := by decide +kernel
theorem mj_d_54_43 : decode mj_m_54.2.1 43 = .ok (.iaload, 1) := by decide +kernel
theorem mj_d_54_44 : decode mj_m_54.2.1 44 = .ok (.istore_n 3, 1) := by decide +kernel
theorem mj_d_54_45 : decode mj_m_54.2.1 45 = .ok (.aload_n 0, 1) := by decide +kernel
theorem mj_d_54_46 : decode mj_m_54.2.1 46 = .ok (.getfield 26, 3) := by decide +kernel
theorem mj_d_54_49 : decode mj_m_54.2.1 49 = .ok (.getfield 140, 3) := by decide +kernel
theorem mj_d_54_52 : decode mj_m_54.2.1 52 = .ok (.iload_n 1, 1) := by decide +kernel
theorem mj_d_54_53 : decode mj_m_54.2.1 53 = .ok (.iload_n 2, 1) := by decide +kernel
theorem mj_d_54_54 : decode mj_m_54.2.1 54 = .ok (.iastore, 1) := by decide +kernel
theorem mj_d_54_55 : decode mj_m_54.2.1 55 = .ok (.iload_n 3, 1) := by decide +kernel
theorem mj_d_54_56 : decode mj_m_54.2.1 56 = .ok (.ireturn, 1) := by decide +kernel
theorem mj_d_55_0 : decode mj_m_55.2.1 0 = .ok (.aload_n 0, 1) := by decide +kernel
theorem mj_d_55_1 : decode mj_m_55.2.1 1 = .ok (.getfield 19, 3) := by decide +kernel
theorem mj_d_55_4 : decode mj_m_55.2.1 4 = .ok (.getfield 108, 3) := by decide +kernel
theorem mj_d_55_7 : decode mj_m_55.2.1 7 = .ok (.ifCond .ne 6, 3) := by decide +kernel
theorem mj_d_55_10 : decode mj_m_55.2.1 10 = .ok (.ldc 186, 2) := by decide +kernel
theorem mj_d_55_12 : decode mj_m_55.2.1 12 = .ok (.ireturn, 1) := by decide +kernel
theorem mj_d_55_13 : decode mj_m_55.2.1 13 = .ok (.aload_n 0, 1) := by decide +kernel
theorem mj_d_55_14 : decode mj_m_55.2.1 14 = .ok (.getfield 33, 3) := by decide +kernel
theorem mj_d_55_17 : decode mj_m_55.2.1 17 = .ok (.aload_n 0, 1) := by decide +kernel
theorem mj_d_55_18 : decode mj_m_55.2.1 18 = .ok (.getfield 26, 3) := by decide +kernel
theorem mj_d_55_21 : decode mj_m_55.2.1 21 = .ok (.invokevirtual 179, 3) := by decide +kernel
theorem mj_d_55_24 : decode mj_m_55.2.1 24 = .ok (.aload_n 0, 1) := by decide +kernel
theorem mj_d_55_25 : decode mj_m_55.2.1 25 = .ok (.getfield 26, 3) := by decide +kernel
theorem mj_d_55_28 : decode mj_m_55.2.1 28 = .ok (.aload_n 0, 1) := by decide +kernel
theorem mj_d_55_29 : decode mj_m_55.2.1 29 = .ok (.getfield 19, 3) := by decide +kernel
theorem mj_d_55_32 : decode mj_m_55.2.1 32 = .ok (.getfield 115, 3) := by decide +kernel
theorem mj_d_55_35 : decode mj_m_55.2.1 35 = .ok (.invokevirtual 187, 3) := by decide +kernel
theorem mj_d_55_38 : decode mj_m_55.2.1 38 = .ok (.ireturn, 1) := by decide +kernel
theorem mj_d_58_0 : decode mj_m_58.2.1 0 = .ok (.aload_n 0, 1) := by decide +kernel
theorem mj_d_58_1 : decode mj_m_58.2.1 1 = .ok (.iload_n 1, 1) := by decide +kernel
theorem mj_d_58_2 : decode mj_m_58.2.1 2 = .ok (.invokevirtual 135, 3) := by decide +kernel
theorem mj_d_58_5 : decode mj_m_58.2.1 5 = .ok (.ifCond .ne 6, 3) := by decide +kernel
theorem mj_d_58_8 : decode mj_m_58.2.1 8 = .ok (.ldc 139, 2) := by decide +kernel
theorem mj_d_58_10 : decode mj_m_58.2.1 10 = .ok (.ireturn, 1) := by decide +kernel
theorem mj_d_58_11 : decode mj_m_58.2.1 11 = .ok (.aload_n 0, 1) := by decide +kernel
theorem mj_d_58_12 : decode mj_m_58.2.1 12 = .ok (.getfield 33, 3) := by decide +kernel
theorem mj_d_58_15 : decode mj_m_58.2.1 15 = .ok (.aload_n 0, 1) := by decide +kernel
theorem mj_d_58_16 : decode mj_m_58.2.1 16 = .ok (.getfield 26, 3) := by decide +kernel
theorem mj_d_58_19 : decode mj_m_58.2.1 19 = .ok (.invokevirtual 179, 3) := by decide +kernel
theorem mj_d_58_22 : decode mj_m_58.2.1 22 = .ok (.aload_n 0, 1) := by decide +kernel
theorem mj_d_58_23 : decode mj_m_58.2.1 23 = .ok (.getfield 26, 3) := by decide +kernel
theorem mj_d_58_26 : decode mj_m_58.2.1 26 = .ok (.getfield 147, 3) := by decide +kernel
theorem mj_d_58_29 : decode mj_m_58.2.1 29 = .ok (.iload_n 1, 1) := by decide +kernel
theorem mj_d_58_30 : decode mj_m_58.2.1 30 = .ok (.iaload, 1) := by decide +kernel
theorem mj_d_58_31 : decode mj_m_58.2.1 31 = .ok (.invokestatic 150, 3) := by decide +kernel
theorem mj_d_58_34 : decode mj_m_58.2.1 34 = .ok (.istore_n 2, 1) := by decide +kernel
theorem mj_d_58_35 : decode mj_m_58.2.1 35 = .ok (.aload_n 0, 1) := by decide +kernel
theorem mj_d_58_36 : decode mj_m_58.2.1 36 = .ok (.getfield 26, 3) := by decide +kernel
theorem mj_d_58_39 : decode mj_m_58.2.1 39 = .ok (.getfield 147, 3) := by decide +kernel
theorem mj_d_58_42 : decode mj_m_58.2.1 42 = .ok (.iload_n 1, 1) := by decide +kernel
theorem mj_d_58_43 : decode mj_m_58.2.1 43 = .ok (.iconst 0, 1) := by decide +kernel
theorem mj_d_58_44 : decode mj_m_58.2.1 44 = .ok (.iastore, 1) := by decide +kernel
theorem mj_d_58_45 : decode mj_m_58.2.1 45 = .ok (.iload_n 2, 1) := by decide +kernel
theorem mj_d_58_46 : decode mj_m_58.2.1 46 = .ok (.ireturn, 1) := by decide +kernel
theorem mj_d_59_0 : decode mj_m_59.2.1 0 = .ok (.aload_n 0, 1) := by decide +kernel
theorem mj_d_59_1 : decode mj_m_59.2.1 1 = .ok (.iload_n 1, 1) := by decide +kernel
theorem mj_d_59_2 : decode mj_m_59.2.1 2 = .ok (.invokevirtual 135, 3) := by decide +kernel
theorem mj_d_59_5 : decode mj_m_59.2.1 5 = .ok (.ifCond .eq 13, 3) := by decide +kernel
theorem mj_d_59_8 : decode mj_m_59.2.1 8 = .ok (.iload_n 2, 1) := by decide +kernel
theorem mj_d_59_9 : decode mj_m_59.2.1 9 = .ok (.iconst (-1), 1) := by decide +kernel
theorem mj_d_59_10 : decode mj_m_59.2.1 10 = .ok (.if_icmp .lt 8, 3) := by decide +kernel
theorem mj_d_59_13 : decode mj_m_59.2.1 13 = .ok (.iload_n 2, 1) := by decide +kernel
theorem mj_d_59_14 : decode mj_m_59.2.1 14 = .ok (.iload_n 1, 1) := by decide +kernel
theorem mj_d_59_15 : decode mj_m_59.2.1 15 = .ok (.if_icmp .lt 6, 3) := by decide +kernel
theorem mj_d_59_18 : decode mj_m_59.2.1 18 = .ok (.ldc 139, 2) := by decide +kernel
theorem mj_d_59_20 : decode mj_m_59.2.1 20 = .ok (.ireturn, 1) := by decide +kernel
theorem mj_d_59_21 : decode mj_m_59.2.1 21 = .ok (.aload_n 0, 1) := by decide +kernel
theorem mj_d_59_22 : decode mj_m_59.2.1 22 = .ok (.getfield 33, 3) := by decide +kernel
theorem mj_d_59_25 : decode mj_m_59.2.1 25 = .ok (.aload_n 0, 1) := by decide +kernel
theorem mj_d_59_26 : decode mj_m_59.2.1 26 = .ok (.getfield 26, 3) := by decide +kernel
theorem mj_d_59_29 : decode mj_m_59.2.1 29 = .ok (.invokevirtual 179, 3) := by decide +kernel
theorem mj_d_59_32 : decode mj_m_59.2.1 32 = .ok (.aload_n 0, 1) := by decide +kernel
theorem mj_d_59_33 : decode mj_m_59.2.1 33 = .ok (.getfield 26, 3) := by decide +kernel
theorem mj_d_59_36 : decode mj_m_59.2.1 36 = .ok (.getfield 144, 3) := by decide +kernel
theorem mj_d_59_39 : decode mj_m_59.2.1 39 = .ok (.iload_n 1, 1) := by decide +kernel
theorem mj_d_59_40 : decode mj_m_59.2.1 40 = .ok (.iaload, 1) := by decide +kernel
theorem mj_d_59_41 : decode mj_m_59.2.1 41 = .ok (.istore_n 3, 1) := by decide +kernel
theorem mj_d_59_42 : decode mj_m_59.2.1 42 = .ok (.aload_n 0, 1) := by decide +kernel
theorem mj_d_59_43 : decode mj_m_59.2.1 43 = .ok (.getfield 26, 3) := by decide +kernel
theorem mj_d_59_46 : decode mj_m_59.2.1 46 = .ok (.getfield 144, 3) := by decide +kernel
theorem mj_d_59_49 : decode mj_m_59.2.1 49 = .ok (.iload_n 1, 1) := by decide +kernel
theorem mj_d_59_50 : decode mj_m_59.2.1 50 = .ok (.iload_n 2, 1) := by decide +kernel
theorem mj_d_59_51 : decode mj_m_59.2.1 51 = .ok (.iastore, 1) := by decide +kernel
theorem mj_d_59_52 : decode mj_m_59.2.1 52 = .ok (.iload_n 3, 1) := by decide +kernel
theorem mj_d_59_53 : decode mj_m_59.2.1 53 = .ok (.ireturn, 1) := by decide +kernel
theorem mj_d_61_0 : decode mj_m_61.2.1 0 = .ok (.aload_n 0, 1) := by decide +kernel
theorem mj_d_61_1 : decode mj_m_61.2.1 1 = .ok (.iload_n 1, 1) := by decide +kernel
theorem mj_d_61_2 : decode mj_m_61.2.1 2 = .ok (.invokevirtual 163, 3) := by decide +kernel
theorem mj_d_61_5 : decode mj_m_61.2.1 5 = .ok (.ifCond .eq 20, 3) := by decide +kernel
theorem mj_d_61_8 : decode mj_m_61.2.1 8 = .ok (.aload_n 0, 1) := by decide +kernel
theorem mj_d_61_9 : decode mj_m_61.2.1 9 = .ok (.iload_n 2, 1) := by decide +kernel
theorem mj_d_61_10 : decode mj_m_61.2.1 10 = .ok (.invokevirtual 163, 3) := by decide +kernel
theorem mj_d_61_13 : decode mj_m_61.2.1 13 = .ok (.ifCond .eq 12, 3) := by decide +kernel
theorem mj_d_61_16 : decode mj_m_61.2.1 16 = .ok (.iload_n 1, 1) := by decide +kernel
theorem mj_d_61_17 : decode mj_m_61.2.1 17 = .ok (.iload_n 2, 1) := by decide +kernel
theorem mj_d_61_18 : decode mj_m_61.2.1 18 = .ok (.if_icmp .eq 7, 3) := by decide +kernel
theorem mj_d_61_21 : decode mj_m_61.2.1 21 = .ok (.iconst 1, 1) := by decide +kernel
theorem mj_d_61_22 : decode mj_m_61.2.1 22 = .ok (.goto 4, 3) := by decide +kernel
theorem mj_d_61_25 : decode mj_m_61.2.1 25 = .ok (.iconst 0, 1) := by decide +kernel
theorem mj_d_61_26 : decode mj_m_61.2.1 26 = .ok (.ireturn, 1) := by decide +kernel
theorem mj_d_65_0 : decode mj_m_65.2.1 0 = .ok (.aload_n 0, 1) := by decide +kernel
theorem mj_d_65_1 : decode mj_m_65.2.1 1 = .ok (.iload_n 1, 1) := by decide +kernel
theorem mj_d_65_2 : decode mj_m_65.2.1 2 = .ok (.invokevirtual 176, 3) := by decide +kernel
theorem mj_d_65_5 : decode mj_m_65.2.1 5 = .ok (.istore_n 2, 1) := by decide +kernel
theorem mj_d_65_6 : decode mj_m_65.2.1 6 = .ok (.iload_n 2, 1) := by decide +kernel
theorem mj_d_65_7 : decode mj_m_65.2.1 7 = .ok (.ifCond .eq 5, 3) := by decide +kernel
theorem mj_d_65_10 : decode mj_m_65.2.1 10 = .ok (.iload_n 2, 1) := by decide +kernel
theorem mj_d_65_11 : decode mj_m_65.2.1 11 = .ok (.ireturn, 1) := by decide +kernel
theorem mj_d_65_12 : decode mj_m_65.2.1 12 = .ok (.iconst 0, 1) := by decide +kernel
theorem mj_d_65_13 : decode mj_m_65.2.1 13 = .ok (.istore_n 3, 1) := by decide +kernel
theorem mj_d_65_14 : decode mj_m_65.2.1 14 = .ok (.iload_n 3, 1) := by decide +kernel
theorem mj_d_65_15 : decode mj_m_65.2.1 15 = .ok (.iload_n 1, 1) := by decide +kernel
theorem mj_d_65_16 : decode mj_m_65.2.1 16 = .ok (.if_icmp .ge 24, 3) := by decide +kernel
theorem mj_d_65_19 : decode mj_m_65.2.1 19 = .ok (.aload_n 0, 1) := by decide +kernel
theorem mj_d_65_20 : decode mj_m_65.2.1 20 = .ok (.getfield 33, 3) := by decide +kernel
theorem mj_d_65_23 : decode mj_m_65.2.1 23 = .ok (.aload_n 0, 1) := by decide +kernel
theorem mj_d_65_24 : decode mj_m_65.2.1 24 = .ok (.getfield 26, 3) := by decide +kernel
theorem mj_d_65_27 : decode mj_m_65.2.1 27 = .ok (.invokevirtual 179, 3) := by decide +kernel
theorem mj_d_65_30 : decode mj_m_65.2.1 30 = .ok (.aload_n 0, 1) := by decide +kernel
theorem mj_d_65_31 : decode mj_m_65.2.1 31 = .ok (.invokevirtual 202, 3) := by decide +kernel
theorem mj_d_65_34 : decode mj_m_65.2.1 34 = .ok (.iinc 3 1, 3) := by decide +kernel
theorem mj_d_65_37 : decode mj_m_65.2.1 37 = .ok (.goto (-23), 3) := by decide +kernel
theorem mj_d_65_40 : decode mj_m_65.2.1 40 = .ok (.aload_n 0, 1) := by decide +kernel
theorem mj_d_65_41 : decode mj_m_65.2.1 41 = .ok (.getfield 26, 3) := by decide +kernel
theorem mj_d_65_44 : decode mj_m_65.2.1 44 = .ok (.invokevirtual 127, 3) := by decide +kernel
theorem mj_d_65_47 : decode mj_m_65.2.1 47 = .ok (.ireturn, 1) := by decide +kernel
theorem mj_d_66_0 : decode mj_m_66.2.1 0 = .ok (.aload_n 0, 1) := by decide +kernel
theorem mj_d_66_1 : decode mj_m_66.2.1 1 = .ok (.getfield 19, 3) := by decide +kernel
theorem mj_d_66_4 : decode mj_m_66.2.1 4 = .ok (.getfield 102, 3) := by decide +kernel
theorem mj_d_66_7 : decode mj_m_66.2.1 7 = .ok (.ifCond .le 40, 3) := by decide +kernel
theorem mj_d_66_10 : decode mj_m_66.2.1 10 = .ok (.aload_n 0, 1) := by decide +kernel
theorem mj_d_66_11 : decode mj_m_66.2.1 11 = .ok (.aload_n 0, 1) := by decide +kernel
theorem mj_d_66_12 : decode mj_m_66.2.1 12 = .ok (.getfield 19, 3) := by decide +kernel
theorem mj_d_66_15 : decode mj_m_66.2.1 15 = .ok (.getfield 102, 3) := by decide +kernel
theorem mj_d_66_18 : decode mj_m_66.2.1 18 = .ok (.invokevirtual 296, 3) := by decide +kernel
theorem mj_d_66_21 : decode mj_m_66.2.1 21 = .ok (.istore_n 1, 1) := by decide +kernel
theorem mj_d_66_22 : decode mj_m_66.2.1 22 = .ok (.aload_n 0, 1) := by decide +kernel
theorem mj_d_66_23 : decode mj_m_66.2.1 23 = .ok (.bipush 8, 2) := by decide +kernel
theorem mj_d_66_25 : decode mj_m_66.2.1 25 = .ok (.invokevirtual 296, 3) := by decide +kernel
theorem mj_d_66_28 : decode mj_m_66.2.1 28 = .ok (.istore_n 2, 1) := by decide +kernel
theorem mj_d_66_29 : decode mj_m_66.2.1 29 = .ok (.aload_n 0, 1) := by decide +kernel
theorem mj_d_66_30 : decode mj_m_66.2.1 30 = .ok (.iload_n 1, 1) := by decide +kernel
theorem mj_d_66_31 : decode mj_m_66.2.1 31 = .ok (.invokevirtual 135, 3) := by decide +kernel
theorem mj_d_66_34 : decode mj_m_66.2.1 34 = .ok (.ifCond .eq 13, 3) := by decide +kernel
theorem mj_d_66_37 : decode mj_m_66.2.1 37 = .ok (.aload_n 0, 1) := by decide +kernel
theorem mj_d_66_38 : decode mj_m_66.2.1 38 = .ok (.getfield 26, 3) := by decide +kernel
theorem mj_d_66_41 : decode mj_m_66.2.1 41 = .ok (.getfield 140, 3) := by decide +kernel
theorem mj_d_66_44 : decode mj_m_66.2.1 44 = .ok (.iload_n 1, 1) := by decide +kernel
theorem mj_d_66_45 : decode mj_m_66.2.1 45 = .ok (.iload_n 2, 1) := by decide +kernel
theorem mj_d_66_46 : decode mj_m_66.2.1 46 = .ok (.iastore, 1) := by decide +kernel
theorem mj_d_66_47 : decode mj_m_66.2.1 47 = .ok (.aload_n 0, 1) := by decide +kernel
theorem mj_d_66_48 : decode mj_m_66.2.1 48 = .ok (.iconst 4, 1) := by decide +kernel
theorem mj_d_66_49 : decode mj_m_66.2.1 49 = .ok (.invokevirtual 296, 3) := by decide +kernel
theorem mj_d_66_52 : decode mj_m_66.2.1 52 = .ok (.ifCond .ne 7, 3) := by decide +kernel
theorem mj_d_66_55 : decode mj_m_66.2.1 55 = .ok (.iconst 1, 1) := by decide +kernel
theorem mj_d_66_56 : decode mj_m_66.2.1 56 = .ok (.goto 4, 3) := by decide +kernel
theorem mj_d_66_59 : decode mj_m_66.2.1 59 = .ok (.iconst 0, 1) := by decide +kernel
theorem mj_d_66_60 : decode mj_m_66.2.1 60 = .ok (.istore_n 1, 1) := by decide +kernel
theorem mj_d_66_61 : decode mj_m_66.2.1 61 = .ok (.aload_n 0, 1) := by decide +kernel
theorem mj_d_66_62 : decode mj_m_66.2.1 62 = .ok (.getfield 26, 3) := by decide +kernel
theorem mj_d_66_65 : decode mj_m_66.2.1 65 = .ok (.aload_n 0, 1) := by decide +kernel
theorem mj_d_66_66 : decode mj_m_66.2.1 66 = .ok (.getfield 19, 3) := by decide +kernel
theorem mj_d_66_69 : decode mj_m_66.2.1 69 = .ok (.invokevirtual 183, 3) := by decide +kernel
theorem mj_d_66_72 : decode mj_m_66.2.1 72 = .ok (.iload_n 1, 1) := by decide +kernel
theorem mj_d_66_73 : decode mj_m_66.2.1 73 = .ok (.ifCond .eq 18, 3) := by decide +kernel
theorem mj_d_66_76 : decode mj_m_66.2.1 76 = .ok (.aload_n 0, 1) := by decide +kernel
theorem mj_d_66_77 : decode mj_m_66.2.1 77 = .ok (.getfield 26, 3) := by decide +kernel
theorem mj_d_66_80 : decode mj_m_66.2.1 80 = .ok (.aload_n 0, 1) := by decide +kernel
theorem mj_d_66_81 : decode mj_m_66.2.1 81 = .ok (.getfield 19, 3) := by decide +kernel
theorem mj_d_66_84 : decode mj_m_66.2.1 84 = .ok (.getfield 115, 3) := by decide +kernel
theorem mj_d_66_87 : decode mj_m_66.2.1 87 = .ok (.invokevirtual 187, 3) := by decide +kernel
theorem mj_d_66_90 : decode mj_m_66.2.1 90 = .ok (.pop, 1) := by decide +kernel
theorem mj_d_66_91 : decode mj_m_66.2.1 91 = .ok (.return_, 1) := by decide +kernel
theorem mj_d_67_0 : decode mj_m_67.2.1 0 = .ok (.aload_n 0, 1) := by decide +kernel
theorem mj_d_67_1 : decode mj_m_67.2.1 1 = .ok (.aload_n 0, 1) := by decide +kernel
theorem mj_d_67_2 : decode mj_m_67.2.1 2 = .ok (.getfield 279, 3) := by decide +kernel
theorem mj_d_67_5 : decode mj_m_67.2.1 5 = .ok (.ldc_w 293, 3) := by decide +kernel
theorem mj_d_67_8 : decode mj_m_67.2.1 8 = .ok (.imul, 1) := by decide +kernel
theorem mj_d_67_9 : decode mj_m_67.2.1 9 = .ok (.sipush 12345, 3) := by decide +kernel
theorem mj_d_67_12 : decode mj_m_67.2.1 12 = .ok (.iadd, 1) := by decide +kernel
theorem mj_d_67_13 : decode mj_m_67.2.1 13 = .ok (.ldc_w 294, 3) := by decide +kernel
theorem mj_d_67_16 : decode mj_m_67.2.1 16 = .ok (.iand, 1) := by decide +kernel
theorem mj_d_67_17 : decode mj_m_67.2.1 17 = .ok (.putfield 279, 3) := by decide +kernel
theorem mj_d_67_20 : decode mj_m_67.2.1 20 = .ok (.iload_n 1, 1) := by decide +kernel
theorem mj_d_67_21 : decode mj_m_67.2.1 21 = .ok (.iconst 1, 1) := by decide +kernel
theorem mj_d_67_22 : decode mj_m_67.2.1 22 = .ok (.if_icmp .ge 7, 3) := by decide +kernel
theorem mj_d_67_25 : decode mj_m_67.2.1 25 = .ok (.iconst 0, 1) := by decide +kernel
theorem mj_d_67_26 : decode mj_m_67.2.1 26 = .ok (.goto 13, 3) := by decide +kernel
theorem mj_d_67_29 : decode mj_m_67.2.1 29 = .ok (.aload_n 0, 1) := by decide +kernel
theorem mj_d_67_30 : decode mj_m_67.2.1 30 = .ok (.getfield 279, 3) := by decide +kernel
theorem mj_d_67_33 : decode mj_m_67.2.1 33 = .ok (.ldc_w 295, 3) := by decide +kernel
theorem mj_d_67_36 : decode mj_m_67.2.1 36 = .ok (.idiv, 1) := by decide +kernel
theorem mj_d_67_37 : decode mj_m_67.2.1 37 = .ok (.iload_n 1, 1) := by decide +kernel
theorem mj_d_67_38 : decode mj_m_67.2.1 38 = .ok (.irem, 1) := by decide +kernel
theorem mj_d_67_39 : decode mj_m_67.2.1 39 = .ok (.ireturn, 1) := by decide +kernel
theorem mj_d_68_0 : decode mj_m_68.2.1 0 = .ok (.iload_n 1, 1) := by decide +kernel
theorem mj_d_68_1 : decode mj_m_68.2.1 1 = .ok (.iconst 1, 1) := by decide +kernel
theorem mj_d_68_2 : decode mj_m_68.2.1 2 = .ok (.if_icmp .lt 9, 3) := by decide +kernel
theorem mj_d_68_5 : decode mj_m_68.2.1 5 = .ok (.iload_n 1, 1) := by decide +kernel
theorem mj_d_68_6 : decode mj_m_68.2.1 6 = .ok (.bipush 30, 2) := by decide +kernel
theorem mj_d_68_8 : decode mj_m_68.2.1 8 = .ok (.if_icmp .le 6, 3) := by decide +kernel
theorem mj_d_68_11 : decode mj_m_68.2.1 11 = .ok (.ldc 72, 2) := by decide +kernel
theorem mj_d_68_13 : decode mj_m_68.2.1 13 = .ok (.ireturn, 1) := by decide +kernel
theorem mj_d_68_14 : decode mj_m_68.2.1 14 = .ok (.iload_n 1, 1) := by decide +kernel
theorem mj_d_68_15 : decode mj_m_68.2.1 15 = .ok (.aload_n 0, 1) := by decide +kernel
theorem mj_d_68_16 : decode mj_m_68.2.1 16 = .ok (.getfield 33, 3) := by decide +kernel
theorem mj_d_68_19 : decode mj_m_68.2.1 19 = .ok (.getfield 134, 3) := by decide +kernel
theorem mj_d_68_22 : decode mj_m_68.2.1 22 = .ok (.if_icmp .le 6, 3) := by decide +kernel
theorem mj_d_68_25 : decode mj_m_68.2.1 25 = .ok (.ldc 186, 2) := by decide +kernel
theorem mj_d_68_27 : decode mj_m_68.2.1 27 = .ok (.ireturn, 1) := by decide +kernel
theorem mj_d_68_28 : decode mj_m_68.2.1 28 = .ok (.aload_n 0, 1) := by decide +kernel
theorem mj_d_68_29 : decode mj_m_68.2.1 29 = .ok (.getfield 33, 3) := by decide +kernel
theorem mj_d_68_32 : decode mj_m_68.2.1 32 = .ok (.iload_n 1, 1) := by decide +kernel
theorem mj_d_68_33 : decode mj_m_68.2.1 33 = .ok (.aload_n 0, 1) := by decide +kernel
theorem mj_d_68_34 : decode mj_m_68.2.1 34 = .ok (.getfield 26, 3) := by decide +kernel
theorem mj_d_68_37 : decode mj_m_68.2.1 37 = .ok (.invokevirtual 205, 3) := by decide +kernel
theorem mj_d_68_40 : decode mj_m_68.2.1 40 = .ok (.aload_n 0, 1) := by decide +kernel
theorem mj_d_68_41 : decode mj_m_68.2.1 41 = .ok (.getfield 26, 3) := by decide +kernel
theorem mj_d_68_44 : decode mj_m_68.2.1 44 = .ok (.getfield 124, 3) := by decide +kernel
theorem mj_d_68_47 : decode mj_m_68.2.1 47 = .ok (.ireturn, 1) := by decide +kernel
theorem mj_d_70_0 : decode mj_m_70.2.1 0 = .ok (.aload_n 0, 1) := by decide +kernel
theorem mj_d_70_1 : decode mj_m_70.2.1 1 = .ok (.iload_n 1, 1) := by decide +kernel
theorem mj_d_70_2 : decode mj_m_70.2.1 2 = .ok (.invokevirtual 135, 3) := by decide +kernel
theorem mj_d_70_5 : decode mj_m_70.2.1 5 = .ok (.ifCond .ne 6, 3) := by decide +kernel
theorem mj_d_70_8 : decode mj_m_70.2.1 8 = .ok (.ldc 139, 2) := by decide +kernel
theorem mj_d_70_10 : decode mj_m_70.2.1 10 = .ok (.ireturn, 1) := by decide +kernel
theorem mj_d_70_11 : decode mj_m_70.2.1 11 = .ok (.iload_n 2, 1) := by decide +kernel
theorem mj_d_70_12 : decode mj_m_70.2.1 12 = .ok (.iconst 1, 1) := by decide +kernel
theorem mj_d_70_13 : decode mj_m_70.2.1 13 = .ok (.if_icmp .lt 8, 3) := by decide +kernel
theorem mj_d_70_16 : decode mj_m_70.2.1 16 = .ok (.iload_n 2, 1) := by decide +kernel
theorem mj_d_70_17 : decode mj_m_70.2.1 17 = .ok (.iconst 3, 1) := by decide +kernel
theorem mj_d_70_18 : decode mj_m_70.2.1 18 = .ok (.if_icmp .le 6, 3) := by decide +kernel
theorem mj_d_70_21 : decode mj_m_70.2.1 21 = .ok (.ldc 72, 2) := by decide +kernel
theorem mj_d_70_23 : decode mj_m_70.2.1 23 = .ok (.ireturn, 1) := by decide +kernel
theorem mj_d_70_24 : decode mj_m_70.2.1 24 = .ok (.aload_n 0, 1) := by decide +kernel
theorem mj_d_70_25 : decode mj_m_70.2.1 25 = .ok (.getfield 61, 3) := by decide +kernel
theorem mj_d_70_28 : decode mj_m_70.2.1 28 = .ok (.iload_n 1, 1) := by decide +kernel
theorem mj_d_70_29 : decode mj_m_70.2.1 29 = .ok (.aload_n 0, 1) := by decide +kernel
theorem mj_d_70_30 : decode mj_m_70.2.1 30 = .ok (.getfield 26, 3) := by decide +kernel
theorem mj_d_70_33 : decode mj_m_70.2.1 33 = .ok (.aload_n 0, 1) := by decide +kernel
theorem mj_d_70_34 : decode mj_m_70.2.1 34 = .ok (.getfield 19, 3) := by decide +kernel
theorem mj_d_70_37 : decode mj_m_70.2.1 37 = .ok (.invokevirtual 209, 3) := by decide +kernel
theorem mj_d_70_40 : decode mj_m_70.2.1 40 = .ok (.iload_n 3, 1) := by decide +kernel
theorem mj_d_70_41 : decode mj_m_70.2.1 41 = .ok (.iconst (-1), 1) := by decide +kernel
theorem mj_d_70_42 : decode mj_m_70.2.1 42 = .ok (.if_icmp .ne 14, 3) := by decide +kernel
theorem mj_d_70_45 : decode mj_m_70.2.1 45 = .ok (.aload_n 0, 1) := by decide +kernel
theorem mj_d_70_46 : decode mj_m_70.2.1 46 = .ok (.getfield 61, 3) := by decide +kernel
theorem mj_d_70_49 : decode mj_m_70.2.1 49 = .ok (.iload_n 2, 1) := by decide +kernel
theorem mj_d_70_50 : decode mj_m_70.2.1 50 = .ok (.invokevirtual 213, 3) := by decide +kernel
theorem mj_d_70_53 : decode mj_m_70.2.1 53 = .ok (.goto 12, 3) := by decide +kernel
theorem mj_d_70_56 : decode mj_m_70.2.1 56 = .ok (.aload_n 0, 1) := by decide +kernel
theorem mj_d_70_57 : decode mj_m_70.2.1 57 = .ok (.getfield 61, 3) := by decide +kernel
theorem mj_d_70_60 : decode mj_m_70.2.1 60 = .ok (.iload_n 2, 1) := by decide +kernel
theorem mj_d_70_61 : decode mj_m_70.2.1 61 = .ok (.iload_n 3, 1) := by decide +kernel
theorem mj_d_70_62 : decode mj_m_70.2.1 62 = .ok (.invokevirtual 216, 3) := by decide +kernel
theorem mj_d_70_65 : decode mj_m_70.2.1 65 = .ok (.ireturn, 1) := by decide +kernel
theorem mj_d_71_0 : decode mj_m_71.2.1 0 = .ok (.aload_n 0, 1) := by decide +kernel
theorem mj_d_71_1 : decode mj_m_71.2.1 1 = .ok (.aload_n 2, 1) := by decide +kernel
theorem mj_d_71_2 : decode mj_m_71.2.1 2 = .ok (.getfield 18, 3) := by decide +kernel
theorem mj_d_71_5 : decode mj_m_71.2.1 5 = .ok (.iload_n 1, 1) := by decide +kernel
theorem mj_d_71_6 : decode mj_m_71.2.1 6 = .ok (.iaload, 1) := by decide +kernel
theorem mj_d_71_7 : decode mj_m_71.2.1 7 = .ok (.putfield 23, 3) := by decide +kernel
theorem mj_d_71_10 : decode mj_m_71.2.1 10 = .ok (.iconst 0, 1) := by decide +kernel
theorem mj_d_71_11 : decode mj_m_71.2.1 11 = .ok (.istore 4, 2) := by decide +kernel
theorem mj_d_71_13 : decode mj_m_71.2.1 13 = .ok (.iload 4, 2) := by decide +kernel
theorem mj_d_71_15 : decode mj_m_71.2.1 15 = .ok (.bipush 7, 2) := by decide +kernel
theorem mj_d_71_17 : decode mj_m_71.2.1 17 = .ok (.if_icmp .gt 25, 3) := by decide +kernel
theorem mj_d_71_20 : decode mj_m_71.2.1 20 = .ok (.aload_n 0, 1) := by decide +kernel
theorem mj_d_71_21 : decode mj_m_71.2.1 21 = .ok (.getfield 9, 3) := by decide +kernel
theorem mj_d_71_24 : decode mj_m_71.2.1 24 = .ok (.iload 4, 2) := by decide +kernel
theorem mj_d_71_26 : decode mj_m_71.2.1 26 = .ok (.iconst 0, 1) := by decide +kernel
theorem mj_d_71_27 : decode mj_m_71.2.1 27 = .ok (.iastore, 1) := by decide +kernel
theorem mj_d_71_28 : decode mj_m_71.2.1 28 = .ok (.aload_n 0, 1) := by decide +kernel
theorem mj_d_71_29 : decode mj_m_71.2.1 29 = .ok (.getfield 15, 3) := by decide +kernel
theorem mj_d_71_32 : decode mj_m_71.2.1 32 = .ok (.iload 4, 2) := by decide +kernel
theorem mj_d_71_34 : decode mj_m_71.2.1 34 = .ok (.iconst 0, 1) := by decide +kernel
theorem mj_d_71_35 : decode mj_m_71.2.1 35 = .ok (.iastore, 1) := by decide +kernel
theorem mj_d_71_36 : decode mj_m_71.2.1 36 = .ok (.iinc 4 1, 3) := by decide +kernel
theorem mj_d_71_39 : decode mj_m_71.2.1 39 = .ok (.goto (-26), 3) := by decide +kernel
theorem mj_d_71_42 : decode mj_m_71.2.1 42 = .ok (.iconst 0, 1) := by decide +kernel
theorem mj_d_71_43 : decode mj_m_71.2.1 43 = .ok (.istore 4, 2) := by decide +kernel
theorem mj_d_71_45 : decode mj_m_71.2.1 45 = .ok (.iload 4, 2) := by decide +kernel
theorem mj_d_71_47 : decode mj_m_71.2.1 47 = .ok (.aload_n 3, 1) := by decide +kernel
theorem mj_d_71_48 : decode mj_m_71.2.1 48 = .ok (.getfield 27, 3) := by decide +kernel
theorem mj_d_71_51 : decode mj_m_71.2.1 51 = .ok (.if_icmp .ge 84, 3) := by decide +kernel
theorem mj_d_71_54 : decode mj_m_71.2.1 54 = .ok (.aload_n 2, 1) := by decide +kernel
theorem mj_d_71_55 : decode mj_m_71.2.1 55 = .ok (.iload 4, 2) := by decide +kernel
theorem mj_d_71_57 : decode mj_m_71.2.1 57 = .ok (.invokevirtual 32, 3) := by decide +kernel
theorem mj_d_71_60 : decode mj_m_71.2.1 60 = .ok (.iload_n 1, 1) := by decide +kernel
theorem mj_d_71_61 : decode mj_m_71.2.1 61 = .ok (.ishr, 1) := by decide +kernel
theorem mj_d_71_62 : decode mj_m_71.2.1 62 = .ok (.iconst 1, 1) := by decide +kernel
theorem mj_d_71_63 : decode mj_m_71.2.1 63 = .ok (.iand, 1) := by decide +kernel
theorem mj_d_71_64 : decode mj_m_71.2.1 64 = .ok (.aload_n 3, 1) := by decide +kernel
theorem mj_d_71_65 : decode mj_m_71.2.1 65 = .ok (.iload 4, 2) := by decide +kernel
theorem mj_d_71_67 : decode mj_m_71.2.1 67 = .ok (.invokevirtual 36, 3) := by decide +kernel
theorem mj_d_71_70 : decode mj_m_71.2.1 70 = .ok (.iload_n 1, 1) := by decide +kernel
theorem mj_d_71_71 : decode mj_m_71.2.1 71 = .ok (.if_icmp .ne 7, 3) := by decide +kernel
theorem mj_d_71_74 : decode mj_m_71.2.1 74 = .ok (.iconst 1, 1) := by decide +kernel
theorem mj_d_71_75 : decode mj_m_71.2.1 75 = .ok (.goto 4, 3) := by decide +kernel
theorem mj_d_71_78 : decode mj_m_71.2.1 78 = .ok (.iconst 0, 1) := by decide +kernel
theorem mj_d_71_79 : decode mj_m_71.2.1 79 = .ok (.iadd, 1) := by decide +kernel
theorem mj_d_71_80 : decode mj_m_71.2.1 80 = .ok (.istore 5, 2) := by decide +kernel
theorem mj_d_71_82 : decode mj_m_71.2.1 82 = .ok (.iconst 0, 1) := by decide +kernel
theorem mj_d_71_83 : decode mj_m_71.2.1 83 = .ok (.istore 6, 2) := by decide +kernel
theorem mj_d_71_85 : decode mj_m_71.2.1 85 = .ok (.iload 6, 2) := by decide +kernel
theorem mj_d_71_87 : decode mj_m_71.2.1 87 = .ok (.bipush 7, 2) := by decide +kernel
theorem mj_d_71_89 : decode mj_m_71.2.1 89 = .ok (.if_icmp .gt 40, 3) := by decide +kernel
theorem mj_d_71_92 : decode mj_m_71.2.1 92 = .ok (.iload 5, 2) := by decide +kernel
theorem mj_d_71_94 : decode mj_m_71.2.1 94 = .ok (.ifCond .le 35, 3) := by decide +kernel
theorem mj_d_71_97 : decode mj_m_71.2.1 97 = .ok (.aload_n 0, 1) := by decide +kernel
theorem mj_d_71_98 : decode mj_m_71.2.1 98 = .ok (.iload 6, 2) := by decide +kernel
theorem mj_d_71_100 : decode mj_m_71.2.1 100 = .ok (.iload 4, 2) := by decide +kernel
theorem mj_d_71_102 : decode mj_m_71.2.1 102 = .ok (.iload_n 1, 1) := by decide +kernel
theorem mj_d_71_103 : decode mj_m_71.2.1 103 = .ok (.if_icmp .ne 8, 3) := by decide +kernel
theorem mj_d_71_106 : decode mj_m_71.2.1 106 = .ok (.iload 6, 2) := by decide +kernel
theorem mj_d_71_108 : decode mj_m_71.2.1 108 = .ok (.goto 10, 3) := by decide +kernel
theorem mj_d_71_111 : decode mj_m_71.2.1 111 = .ok (.aload_n 2, 1) := by decide +kernel
theorem mj_d_71_112 : decode mj_m_71.2.1 112 = .ok (.getfield 39, 3) := by decide +kernel
theorem mj_d_71_115 : decode mj_m_71.2.1 115 = .ok (.iload 4, 2) := by decide +kernel
theorem mj_d_71_117 : decode mj_m_71.2.1 117 = .ok (.iaload, 1) := by decide +kernel
theorem mj_d_71_118 : decode mj_m_71.2.1 118 = .ok (.iload 5, 2) := by decide +kernel
theorem mj_d_71_120 : decode mj_m_71.2.1 120 = .ok (.invokevirtual 42, 3) := by decide +kernel
theorem mj_d_71_123 : decode mj_m_71.2.1 123 = .ok (.iinc 6 1, 3) := by decide +kernel
theorem mj_d_71_126 : decode mj_m_71.2.1 126 = .ok (.goto (-41), 3) := by decide +kernel
theorem mj_d_71_129 : decode mj_m_71.2.1 129 = .ok (.iinc 4 1, 3) := by decide +kernel
theorem mj_d_71_132 : decode mj_m_71.2.1 132 = .ok (.goto (-87), 3) := by decide +kernel
theorem mj_d_71_135 : decode mj_m_71.2.1 135 = .ok (.return_, 1) := by decide +kernel
theorem mj_d_73_0 : decode mj_m_73.2.1 0 = .ok (.iconst 0, 1) := by decide +kernel
theorem mj_d_73_1 : decode mj_m_73.2.1 1 = .ok (.istore 4, 2) := by decide +kernel
theorem mj_d_73_3 : decode mj_m_73.2.1 3 = .ok (.iload 4, 2) := by decide +kernel
theorem mj_d_73_5 : decode mj_m_73.2.1 5 = .ok (.iload_n 3, 1) := by decide +kernel
theorem mj_d_73_6 : decode mj_m_73.2.1 6 = .ok (.if_icmp .ge 39, 3) := by decide +kernel
theorem mj_d_73_9 : decode mj_m_73.2.1 9 = .ok (.iload_n 2, 1) := by decide +kernel
theorem mj_d_73_10 : decode mj_m_73.2.1 10 = .ok (.ifCond .eq 35, 3) := by decide +kernel
theorem mj_d_73_13 : decode mj_m_73.2.1 13 = .ok (.aload_n 0, 1) := by decide +kernel
theorem mj_d_73_14 : decode mj_m_73.2.1 14 = .ok (.getfield 9, 3) := by decide +kernel
theorem mj_d_73_17 : decode mj_m_73.2.1 17 = .ok (.iload_n 1, 1) := by decide +kernel
theorem mj_d_73_18 : decode mj_m_73.2.1 18 = .ok (.aload_n 0, 1) := by decide +kernel
theorem mj_d_73_19 : decode mj_m_73.2.1 19 = .ok (.getfield 9, 3) := by decide +kernel
theorem mj_d_73_22 : decode mj_m_73.2.1 22 = .ok (.iload_n 1, 1) := by decide +kernel
theorem mj_d_73_23 : decode mj_m_73.2.1 23 = .ok (.iaload, 1) := by decide +kernel
theorem mj_d_73_24 : decode mj_m_73.2.1 24 = .ok (.iload_n 2, 1) := by decide +kernel
theorem mj_d_73_25 : decode mj_m_73.2.1 25 = .ok (.invokestatic 46, 3) := by decide +kernel
theorem mj_d_73_28 : decode mj_m_73.2.1 28 = .ok (.iastore, 1) := by decide +kernel
theorem mj_d_73_29 : decode mj_m_73.2.1 29 = .ok (.aload_n 0, 1) := by decide +kernel
theorem mj_d_73_30 : decode mj_m_73.2.1 30 = .ok (.getfield 15, 3) := by decide +kernel
theorem mj_d_73_33 : decode mj_m_73.2.1 33 = .ok (.iload_n 1, 1) := by decide +kernel
theorem mj_d_73_34 : decode mj_m_73.2.1 34 = .ok (.dup2, 1) := by decide +kernel
theorem mj_d_73_35 : decode mj_m_73.2.1 35 = .ok (.iaload, 1) := by decide +kernel
theorem mj_d_73_36 : decode mj_m_73.2.1 36 = .ok (.iconst 1, 1) := by decide +kernel
theorem mj_d_73_37 : decode mj_m_73.2.1 37 = .ok (.iadd, 1) := by decide +kernel
theorem mj_d_73_38 : decode mj_m_73.2.1 38 = .ok (.iastore, 1) := by decide +kernel
theorem mj_d_73_39 : decode mj_m_73.2.1 39 = .ok (.iinc 4 1, 3) := by decide +kernel
theorem mj_d_73_42 : decode mj_m_73.2.1 42 = .ok (.goto (-39), 3) := by decide +kernel
theorem mj_d_73_45 : decode mj_m_73.2.1 45 = .ok (.return_, 1) := by decide +kernel
theorem mj_d_74_0 : decode mj_m_74.2.1 0 = .ok (.iconst 0, 1) := by decide +kernel
theorem mj_d_74_1 : decode mj_m_74.2.1 1 = .ok (.istore_n 2, 1) := by decide +kernel
theorem mj_d_74_2 : decode mj_m_74.2.1 2 = .ok (.iconst 0, 1) := by decide +kernel
theorem mj_d_74_3 : decode mj_m_74.2.1 3 = .ok (.istore_n 3, 1) := by decide +kernel
theorem mj_d_74_4 : decode mj_m_74.2.1 4 = .ok (.iload_n 3, 1) := by decide +kernel
theorem mj_d_74_5 : decode mj_m_74.2.1 5 = .ok (.iload_n 1, 1) := by decide +kernel
theorem mj_d_74_6 : decode mj_m_74.2.1 6 = .ok (.invokestatic 59, 3) := by decide +kernel
theorem mj_d_74_9 : decode mj_m_74.2.1 9 = .ok (.if_icmp .ge 21, 3) := by decide +kernel
theorem mj_d_74_12 : decode mj_m_74.2.1 12 = .ok (.aload_n 0, 1) := by decide +kernel
theorem mj_d_74_13 : decode mj_m_74.2.1 13 = .ok (.iload_n 3, 1) := by decide +kernel
theorem mj_d_74_14 : decode mj_m_74.2.1 14 = .ok (.iload_n 1, 1) := by decide +kernel
theorem mj_d_74_15 : decode mj_m_74.2.1 15 = .ok (.invokevirtual 62, 3) := by decide +kernel
theorem mj_d_74_18 : decode mj_m_74.2.1 18 = .ok (.ifCond .eq 6, 3) := by decide +kernel
theorem mj_d_74_21 : decode mj_m_74.2.1 21 = .ok (.iinc 2 1, 3) := by decide +kernel
theorem mj_d_74_24 : decode mj_m_74.2.1 24 = .ok (.iinc 3 1, 3) := by decide +kernel
theorem mj_d_74_27 : decode mj_m_74.2.1 27 = .ok (.goto (-23), 3) := by decide +kernel
theorem mj_d_74_30 : decode mj_m_74.2.1 30 = .ok (.iload_n 2, 1) := by decide +kernel
theorem mj_d_74_31 : decode mj_m_74.2.1 31 = .ok (.ireturn, 1) := by decide +kernel
theorem mj_d_75_0 : decode mj_m_75.2.1 0 = .ok (.iconst 1, 1) := by decide +kernel
theorem mj_d_75_1 : decode mj_m_75.2.1 1 = .ok (.iconst 3, 1) := by decide +kernel
theorem mj_d_75_2 : decode mj_m_75.2.1 2 = .ok (.iload_n 0, 1) := by decide +kernel
theorem mj_d_75_3 : decode mj_m_75.2.1 3 = .ok (.imul, 1) := by decide +kernel
theorem mj_d_75_4 : decode mj_m_75.2.1 4 = .ok (.ishl, 1) := by decide +kernel
theorem mj_d_75_5 : decode mj_m_75.2.1 5 = .ok (.ireturn, 1) := by decide +kernel
theorem mj_d_76_0 : decode mj_m_76.2.1 0 = .ok (.iconst 0, 1) := by decide +kernel
theorem mj_d_76_1 : decode mj_m_76.2.1 1 = .ok (.istore_n 3, 1) := by decide +kernel
theorem mj_d_76_2 : decode mj_m_76.2.1 2 = .ok (.iconst 1, 1) := by decide +kernel
theorem mj_d_76_3 : decode mj_m_76.2.1 3 = .ok (.istore 4, 2) := by decide +kernel
theorem mj_d_76_5 : decode mj_m_76.2.1 5 = .ok (.iload 4, 2) := by decide +kernel
theorem mj_d_76_7 : decode mj_m_76.2.1 7 = .ok (.iload_n 2, 1) := by decide +kernel
theorem mj_d_76_8 : decode mj_m_76.2.1 8 = .ok (.if_icmp .gt 37, 3) := by decide +kernel
theorem mj_d_76_11 : decode mj_m_76.2.1 11 = .ok (.iload_n 1, 1) := by decide +kernel
theorem mj_d_76_12 : decode mj_m_76.2.1 12 = .ok (.iload_n 2, 1) := by decide +kernel
theorem mj_d_76_13 : decode mj_m_76.2.1 13 = .ok (.iload 4, 2) := by decide +kernel
theorem mj_d_76_15 : decode mj_m_76.2.1 15 = .ok (.invokestatic 52, 3) := by decide +kernel
theorem mj_d_76_18 : decode mj_m_76.2.1 18 = .ok (.istore 5, 2) := by decide +kernel
theorem mj_d_76_20 : decode mj_m_76.2.1 20 = .ok (.iload_n 3, 1) := by decide +kernel
theorem mj_d_76_21 : decode mj_m_76.2.1 21 = .ok (.aload_n 0, 1) := by decide +kernel
theorem mj_d_76_22 : decode mj_m_76.2.1 22 = .ok (.getfield 9, 3) := by decide +kernel
theorem mj_d_76_25 : decode mj_m_76.2.1 25 = .ok (.iload 5, 2) := by decide +kernel
theorem mj_d_76_27 : decode mj_m_76.2.1 27 = .ok (.iaload, 1) := by decide +kernel
theorem mj_d_76_28 : decode mj_m_76.2.1 28 = .ok (.aload_n 0, 1) := by decide +kernel
theorem mj_d_76_29 : decode mj_m_76.2.1 29 = .ok (.getfield 15, 3) := by decide +kernel
theorem mj_d_76_32 : decode mj_m_76.2.1 32 = .ok (.iload 5, 2) := by decide +kernel
theorem mj_d_76_34 : decode mj_m_76.2.1 34 = .ok (.iaload, 1) := by decide +kernel
theorem mj_d_76_35 : decode mj_m_76.2.1 35 = .ok (.invokestatic 56, 3) := by decide +kernel
theorem mj_d_76_38 : decode mj_m_76.2.1 38 = .ok (.istore_n 3, 1) := by decide +kernel
theorem mj_d_76_39 : decode mj_m_76.2.1 39 = .ok (.iinc 4 1, 3) := by decide +kernel
theorem mj_d_76_42 : decode mj_m_76.2.1 42 = .ok (.goto (-37), 3) := by decide +kernel
theorem mj_d_76_45 : decode mj_m_76.2.1 45 = .ok (.iload_n 3, 1) := by decide +kernel
theorem mj_d_76_46 : decode mj_m_76.2.1 46 = .ok (.aload_n 0, 1) := by decide +kernel
theorem mj_d_76_47 : decode mj_m_76.2.1 47 = .ok (.getfield 23, 3) := by decide +kernel
theorem mj_d_76_50 : decode mj_m_76.2.1 50 = .ok (.if_icmp .ne 7, 3) := by decide +kernel
theorem mj_d_76_53 : decode mj_m_76.2.1 53 = .ok (.iconst 1, 1) := by decide +kernel
theorem mj_d_76_54 : decode mj_m_76.2.1 54 = .ok (.goto 4, 3) := by decide +kernel
theorem mj_d_76_57 : decode mj_m_76.2.1 57 = .ok (.iconst 0, 1) := by decide +kernel
theorem mj_d_76_58 : decode mj_m_76.2.1 58 = .ok (.ireturn, 1) := by decide +kernel
theorem mj_d_77_0 : decode mj_m_77.2.1 0 = .ok (.iload_n 0, 1) := by decide +kernel
theorem mj_d_77_1 : decode mj_m_77.2.1 1 = .ok (.iconst 3, 1) := by decide +kernel
theorem mj_d_77_2 : decode mj_m_77.2.1 2 = .ok (.iload_n 1, 1) := by decide +kernel
theorem mj_d_77_3 : decode mj_m_77.2.1 3 = .ok (.iload_n 2, 1) := by decide +kernel
theorem mj_d_77_4 : decode mj_m_77.2.1 4 = .ok (.isub, 1) := by decide +kernel
theorem mj_d_77_5 : decode mj_m_77.2.1 5 = .ok (.imul, 1) := by decide +kernel
theorem mj_d_77_6 : decode mj_m_77.2.1 6 = .ok (.ishr, 1) := by decide +kernel
theorem mj_d_77_7 : decode mj_m_77.2.1 7 = .ok (.bipush 7, 2) := by decide +kernel
theorem mj_d_77_9 : decode mj_m_77.2.1 9 = .ok (.iand, 1) := by decide +kernel
theorem mj_d_77_10 : decode mj_m_77.2.1 10 = .ok (.ireturn, 1) := by decide +kernel
theorem mj_d_79_0 : decode mj_m_79.2.1 0 = .ok (.iload_n 2, 1) := by decide +kernel
theorem mj_d_79_1 : decode mj_m_79.2.1 1 = .ok (.istore_n 3, 1) := by decide +kernel
theorem mj_d_79_2 : decode mj_m_79.2.1 2 = .ok (.iconst 0, 1) := by decide +kernel
theorem mj_d_79_3 : decode mj_m_79.2.1 3 = .ok (.istore 4, 2) := by decide +kernel
theorem mj_d_79_5 : decode mj_m_79.2.1 5 = .ok (.iload 4, 2) := by decide +kernel
theorem mj_d_79_7 : decode mj_m_79.2.1 7 = .ok (.iload_n 1, 1) := by decide +kernel
theorem mj_d_79_8 : decode mj_m_79.2.1 8 = .ok (.invokestatic 59, 3) := by decide +kernel
theorem mj_d_79_11 : decode mj_m_79.2.1 11 = .ok (.if_icmp .ge 33, 3) := by decide +kernel
theorem mj_d_79_14 : decode mj_m_79.2.1 14 = .ok (.iload_n 3, 1) := by decide +kernel
theorem mj_d_79_15 : decode mj_m_79.2.1 15 = .ok (.ifCond .lt 29, 3) := by decide +kernel
theorem mj_d_79_18 : decode mj_m_79.2.1 18 = .ok (.aload_n 0, 1) := by decide +kernel
theorem mj_d_79_19 : decode mj_m_79.2.1 19 = .ok (.iload 4, 2) := by decide +kernel
theorem mj_d_79_21 : decode mj_m_79.2.1 21 = .ok (.iload_n 1, 1) := by decide +kernel
theorem mj_d_79_22 : decode mj_m_79.2.1 22 = .ok (.invokevirtual 62, 3) := by decide +kernel
theorem mj_d_79_25 : decode mj_m_79.2.1 25 = .ok (.ifCond .eq 13, 3) := by decide +kernel
theorem mj_d_79_28 : decode mj_m_79.2.1 28 = .ok (.iload_n 3, 1) := by decide +kernel
theorem mj_d_79_29 : decode mj_m_79.2.1 29 = .ok (.ifCond .ne 6, 3) := by decide +kernel
theorem mj_d_79_32 : decode mj_m_79.2.1 32 = .ok (.iload 4, 2) := by decide +kernel
theorem mj_d_79_34 : decode mj_m_79.2.1 34 = .ok (.ireturn, 1) := by decide +kernel
theorem mj_d_79_35 : decode mj_m_79.2.1 35 = .ok (.iinc 3 (-1), 3) := by decide +kernel
theorem mj_d_79_38 : decode mj_m_79.2.1 38 = .ok (.iinc 4 1, 3) := by decide +kernel
theorem mj_d_79_41 : decode mj_m_79.2.1 41 = .ok (.goto (-36), 3) := by decide +kernel
theorem mj_d_79_44 : decode mj_m_79.2.1 44 = .ok (.iconst (-1), 1) := by decide +kernel
theorem mj_d_79_45 : decode mj_m_79.2.1 45 = .ok (.ireturn, 1) := by decide +kernel
theorem mj_d_80_0 : decode mj_m_80.2.1 0 = .ok (.aload_n 0, 1) := by decide +kernel
theorem mj_d_80_1 : decode mj_m_80.2.1 1 = .ok (.iload_n 1, 1) := by decide +kernel
theorem mj_d_80_2 : decode mj_m_80.2.1 2 = .ok (.invokevirtual 135, 3) := by decide +kernel
theorem mj_d_80_5 : decode mj_m_80.2.1 5 = .ok (.ifCond .ne 6, 3) := by decide +kernel
theorem mj_d_80_8 : decode mj_m_80.2.1 8 = .ok (.ldc 139, 2) := by decide +kernel
theorem mj_d_80_10 : decode mj_m_80.2.1 10 = .ok (.ireturn, 1) := by decide +kernel
theorem mj_d_80_11 : decode mj_m_80.2.1 11 = .ok (.iload_n 2, 1) := by decide +kernel
theorem mj_d_80_12 : decode mj_m_80.2.1 12 = .ok (.iconst 1, 1) := by decide +kernel
theorem mj_d_80_13 : decode mj_m_80.2.1 13 = .ok (.if_icmp .lt 18, 3) := by decide +kernel
theorem mj_d_80_16 : decode mj_m_80.2.1 16 = .ok (.iload_n 2, 1) := by decide +kernel
theorem mj_d_80_17 : decode mj_m_80.2.1 17 = .ok (.iconst 3, 1) := by decide +kernel
theorem mj_d_80_18 : decode mj_m_80.2.1 18 = .ok (.if_icmp .gt 13, 3) := by decide +kernel
theorem mj_d_80_21 : decode mj_m_80.2.1 21 = .ok (.iload_n 3, 1) := by decide +kernel
theorem mj_d_80_22 : decode mj_m_80.2.1 22 = .ok (.iconst 1, 1) := by decide +kernel
theorem mj_d_80_23 : decode mj_m_80.2.1 23 = .ok (.if_icmp .lt 8, 3) := by decide +kernel
theorem mj_d_80_26 : decode mj_m_80.2.1 26 = .ok (.iload_n 3, 1) := by decide +kernel
theorem mj_d_80_27 : decode mj_m_80.2.1 27 = .ok (.iload_n 2, 1) := by decide +kernel
theorem mj_d_80_28 : decode mj_m_80.2.1 28 = .ok (.if_icmp .le 6, 3) := by decide +kernel
theorem mj_d_80_31 : decode mj_m_80.2.1 31 = .ok (.ldc 72, 2) := by decide +kernel
theorem mj_d_80_33 : decode mj_m_80.2.1 33 = .ok (.ireturn, 1) := by decide +kernel
theorem mj_d_80_34 : decode mj_m_80.2.1 34 = .ok (.aload_n 0, 1) := by decide +kernel
theorem mj_d_80_35 : decode mj_m_80.2.1 35 = .ok (.getfield 61, 3) := by decide +kernel
theorem mj_d_80_38 : decode mj_m_80.2.1 38 = .ok (.iload_n 1, 1) := by decide +kernel
theorem mj_d_80_39 : decode mj_m_80.2.1 39 = .ok (.aload_n 0, 1) := by decide +kernel
theorem mj_d_80_40 : decode mj_m_80.2.1 40 = .ok (.getfield 26, 3) := by decide +kernel
theorem mj_d_80_43 : decode mj_m_80.2.1 43 = .ok (.aload_n 0, 1) := by decide +kernel
theorem mj_d_80_44 : decode mj_m_80.2.1 44 = .ok (.getfield 19, 3) := by decide +kernel
theorem mj_d_80_47 : decode mj_m_80.2.1 47 = .ok (.invokevirtual 209, 3) := by decide +kernel
theorem mj_d_80_50 : decode mj_m_80.2.1 50 = .ok (.aload_n 0, 1) := by decide +kernel
theorem mj_d_80_51 : decode mj_m_80.2.1 51 = .ok (.getfield 61, 3) := by decide +kernel
theorem mj_d_80_54 : decode mj_m_80.2.1 54 = .ok (.iload_n 2, 1) := by decide +kernel
theorem mj_d_80_55 : decode mj_m_80.2.1 55 = .ok (.iload_n 3, 1) := by decide +kernel
theorem mj_d_80_56 : decode mj_m_80.2.1 56 = .ok (.invokevirtual 219, 3) := by decide +kernel
theorem mj_d_80_59 : decode mj_m_80.2.1 59 = .ok (.ireturn, 1) := by decide +kernel
theorem mj_d_81_0 : decode mj_m_81.2.1 0 = .ok (.iconst (-1), 1) := by decide +kernel
theorem mj_d_81_1 : decode mj_m_81.2.1 1 = .ok (.istore_n 3, 1) := by decide +kernel
theorem mj_d_81_2 : decode mj_m_81.2.1 2 = .ok (.iconst 0, 1) := by decide +kernel
theorem mj_d_81_3 : decode mj_m_81.2.1 3 = .ok (.istore 4, 2) := by decide +kernel
theorem mj_d_81_5 : decode mj_m_81.2.1 5 = .ok (.iload 4, 2) := by decide +kernel
theorem mj_d_81_7 : decode mj_m_81.2.1 7 = .ok (.iload_n 1, 1) := by decide +kernel
theorem mj_d_81_8 : decode mj_m_81.2.1 8 = .ok (.invokestatic 59, 3) := by decide +kernel
theorem mj_d_81_11 : decode mj_m_81.2.1 11 = .ok (.if_icmp .ge 44, 3) := by decide +kernel
theorem mj_d_81_14 : decode mj_m_81.2.1 14 = .ok (.aload_n 0, 1) := by decide +kernel
theorem mj_d_81_15 : decode mj_m_81.2.1 15 = .ok (.iload 4, 2) := by decide +kernel
theorem mj_d_81_17 : decode mj_m_81.2.1 17 = .ok (.iload_n 1, 1) := by decide +kernel
theorem mj_d_81_18 : decode mj_m_81.2.1 18 = .ok (.invokevirtual 62, 3) := by decide +kernel
theorem mj_d_81_21 : decode mj_m_81.2.1 21 = .ok (.ifCond .eq 28, 3) := by decide +kernel
theorem mj_d_81_24 : decode mj_m_81.2.1 24 = .ok (.iload 4, 2) := by decide +kernel
theorem mj_d_81_26 : decode mj_m_81.2.1 26 = .ok (.iload_n 1, 1) := by decide +kernel
theorem mj_d_81_27 : decode mj_m_81.2.1 27 = .ok (.iload_n 2, 1) := by decide +kernel
theorem mj_d_81_28 : decode mj_m_81.2.1 28 = .ok (.invokestatic 52, 3) := by decide +kernel
theorem mj_d_81_31 : decode mj_m_81.2.1 31 = .ok (.istore 5, 2) := by decide +kernel
theorem mj_d_81_33 : decode mj_m_81.2.1 33 = .ok (.iload_n 3, 1) := by decide +kernel
theorem mj_d_81_34 : decode mj_m_81.2.1 34 = .ok (.iconst (-1), 1) := by decide +kernel
theorem mj_d_81_35 : decode mj_m_81.2.1 35 = .ok (.if_icmp .eq 11, 3) := by decide +kernel
theorem mj_d_81_38 : decode mj_m_81.2.1 38 = .ok (.iload_n 3, 1) := by decide +kernel
theorem mj_d_81_39 : decode mj_m_81.2.1 39 = .ok (.iload 5, 2) := by decide +kernel
theorem mj_d_81_41 : decode mj_m_81.2.1 41 = .ok (.if_icmp .eq 5, 3) := by decide +kernel
theorem mj_d_81_44 : decode mj_m_81.2.1 44 = .ok (.iconst (-1), 1) := by decide +kernel
theorem mj_d_81_45 : decode mj_m_81.2.1 45 = .ok (.ireturn, 1) := by decide +kernel
theorem mj_d_81_46 : decode mj_m_81.2.1 46 = .ok (.iload 5, 2) := by decide +kernel
theorem mj_d_81_48 : decode mj_m_81.2.1 48 = .ok (.istore_n 3, 1) := by decide +kernel
theorem mj_d_81_49 : decode mj_m_81.2.1 49 = .ok (.iinc 4 1, 3) := by decide +kernel
theorem mj_d_81_52 : decode mj_m_81.2.1 52 = .ok (.goto (-47), 3) := by decide +kernel
theorem mj_d_81_55 : decode mj_m_81.2.1 55 = .ok (.iload_n 3, 1) := by decide +kernel
theorem mj_d_81_56 : decode mj_m_81.2.1 56 = .ok (.ireturn, 1) := by decide +kernel
theorem mj_d_82_0 : decode mj_m_82.2.1 0 = .ok (.aload_n 0, 1) := by decide +kernel
theorem mj_d_82_1 : decode mj_m_82.2.1 1 = .ok (.iload_n 1, 1) := by decide +kernel
theorem mj_d_82_2 : decode mj_m_82.2.1 2 = .ok (.invokevirtual 135, 3) := by decide +kernel
theorem mj_d_82_5 : decode mj_m_82.2.1 5 = .ok (.ifCond .ne 6, 3) := by decide +kernel
theorem mj_d_82_8 : decode mj_m_82.2.1 8 = .ok (.ldc 139, 2) := by decide +kernel
theorem mj_d_82_10 : decode mj_m_82.2.1 10 = .ok (.ireturn, 1) := by decide +kernel
theorem mj_d_82_11 : decode mj_m_82.2.1 11 = .ok (.iload_n 2, 1) := by decide +kernel
theorem mj_d_82_12 : decode mj_m_82.2.1 12 = .ok (.tableswitch 89 0 2 #[28, 57, 73], 28) := by decide +kernel
theorem mj_d_82_40 : decode mj_m_82.2.1 40 = .ok (.aload_n 0, 1) := by decide +kernel
theorem mj_d_82_41 : decode mj_m_82.2.1 41 = .ok (.getfield 26, 3) := by decide +kernel
theorem mj_d_82_44 : decode mj_m_82.2.1 44 = .ok (.getfield 140, 3) := by decide +kernel
theorem mj_d_82_47 : decode mj_m_82.2.1 47 = .ok (.iload_n 1, 1) := by decide +kernel
theorem mj_d_82_48 : decode mj_m_82.2.1 48 = .ok (.iaload, 1) := by decide +kernel
theorem mj_d_82_49 : decode mj_m_82.2.1 49 = .ok (.ifCond .ne 7, 3) := by decide +kernel
theorem mj_d_82_52 : decode mj_m_82.2.1 52 = .ok (.iconst 0, 1) := by decide +kernel
theorem mj_d_82_53 : decode mj_m_82.2.1 53 = .ok (.goto 15, 3) := by decide +kernel
theorem mj_d_82_56 : decode mj_m_82.2.1 56 = .ok (.aload_n 0, 1) := by decide +kernel
theorem mj_d_82_57 : decode mj_m_82.2.1 57 = .ok (.getfield 26, 3) := by decide +kernel
theorem mj_d_82_60 : decode mj_m_82.2.1 60 = .ok (.iload_n 1, 1) := by decide +kernel
theorem mj_d_82_61 : decode mj_m_82.2.1 61 = .ok (.aload_n 0, 1) := by decide +kernel
theorem mj_d_82_62 : decode mj_m_82.2.1 62 = .ok (.getfield 19, 3) := by decide +kernel
theorem mj_d_82_65 : decode mj_m_82.2.1 65 = .ok (.invokevirtual 222, 3) := by decide +kernel
theorem mj_d_82_68 : decode mj_m_82.2.1 68 = .ok (.ireturn, 1) := by decide +kernel
theorem mj_d_82_69 : decode mj_m_82.2.1 69 = .ok (.aload_n 0, 1) := by decide +kernel
theorem mj_d_82_70 : decode mj_m_82.2.1 70 = .ok (.getfield 26, 3) := by decide +kernel
theorem mj_d_82_73 : decode mj_m_82.2.1 73 = .ok (.iload_n 1, 1) := by decide +kernel
theorem mj_d_82_74 : decode mj_m_82.2.1 74 = .ok (.aload_n 0, 1) := by decide +kernel
theorem mj_d_82_75 : decode mj_m_82.2.1 75 = .ok (.getfield 19, 3) := by decide +kernel
theorem mj_d_82_78 : decode mj_m_82.2.1 78 = .ok (.getfield 102, 3) := by decide +kernel
theorem mj_d_82_81 : decode mj_m_82.2.1 81 = .ok (.invokevirtual 226, 3) := by decide +kernel
theorem mj_d_82_84 : decode mj_m_82.2.1 84 = .ok (.ireturn, 1) := by decide +kernel
theorem mj_d_82_85 : decode mj_m_82.2.1 85 = .ok (.aload_n 0, 1) := by decide +kernel
theorem mj_d_82_86 : decode mj_m_82.2.1 86 = .ok (.getfield 26, 3) := by decide +kernel
theorem mj_d_82_89 : decode mj_m_82.2.1 89 = .ok (.iload_n 1, 1) := by decide +kernel
theorem mj_d_82_90 : decode mj_m_82.2.1 90 = .ok (.aload_n 0, 1) := by decide +kernel
theorem mj_d_82_91 : decode mj_m_82.2.1 91 = .ok (.getfield 19, 3) := by decide +kernel
theorem mj_d_82_94 : decode mj_m_82.2.1 94 = .ok (.getfield 102, 3) := by decide +kernel
theorem mj_d_82_97 : decode mj_m_82.2.1 97 = .ok (.invokevirtual 229, 3) := by decide +kernel
theorem mj_d_82_100 : decode mj_m_82.2.1 100 = .ok (.ireturn, 1) := by decide +kernel
theorem mj_d_82_101 : decode mj_m_82.2.1 101 = .ok (.ldc 72, 2) := by decide +kernel
theorem mj_d_82_103 : decode mj_m_82.2.1 103 = .ok (.ireturn, 1) := by decide +kernel
theorem mj_d_91_0 : decode mj_m_91.2.1 0 = .ok (.iload_n 0, 1) := by decide +kernel
theorem mj_d_91_1 : decode mj_m_91.2.1 1 = .ok (.iload_n 0, 1) := by decide +kernel
theorem mj_d_91_2 : decode mj_m_91.2.1 2 = .ok (.iconst 1, 1) := by decide +kernel
theorem mj_d_91_3 : decode mj_m_91.2.1 3 = .ok (.iushr, 1) := by decide +kernel
theorem mj_d_91_4 : decode mj_m_91.2.1 4 = .ok (.ldc_w 265, 3) := by decide +kernel
theorem mj_d_91_7 : decode mj_m_91.2.1 7 = .ok (.iand, 1) := by decide +kernel
theorem mj_d_91_8 : decode mj_m_91.2.1 8 = .ok (.isub, 1) := by decide +kernel
theorem mj_d_91_9 : decode mj_m_91.2.1 9 = .ok (.istore_n 0, 1) := by decide +kernel
theorem mj_d_91_10 : decode mj_m_91.2.1 10 = .ok (.iload_n 0, 1) := by decide +kernel
theorem mj_d_91_11 : decode mj_m_91.2.1 11 = .ok (.ldc_w 266, 3) := by decide +kernel
theorem mj_d_91_14 : decode mj_m_91.2.1 14 = .ok (.iand, 1) := by decide +kernel
theorem mj_d_91_15 : decode mj_m_91.2.1 15 = .ok (.iload_n 0, 1) := by decide +kernel
theorem mj_d_91_16 : decode mj_m_91.2.1 16 = .ok (.iconst 2, 1) := by decide +kernel
theorem mj_d_91_17 : decode mj_m_91.2.1 17 = .ok (.iushr, 1) := by decide +kernel
theorem mj_d_91_18 : decode mj_m_91.2.1 18 = .ok (.ldc_w 266, 3) := by decide +kernel
theorem mj_d_91_21 : decode mj_m_91.2.1 21 = .ok (.iand, 1) := by decide +kernel
theorem mj_d_91_22 : decode mj_m_91.2.1 22 = .ok (.iadd, 1) := by decide +kernel
theorem mj_d_91_23 : decode mj_m_91.2.1 23 = .ok (.istore_n 0, 1) := by decide +kernel
theorem mj_d_91_24 : decode mj_m_91.2.1 24 = .ok (.iload_n 0, 1) := by decide +kernel
theorem mj_d_91_25 : decode mj_m_91.2.1 25 = .ok (.iload_n 0, 1) := by decide +kernel
theorem mj_d_91_26 : decode mj_m_91.2.1 26 = .ok (.iconst 4, 1) := by decide +kernel
theorem mj_d_91_27 : decode mj_m_91.2.1 27 = .ok (.iushr, 1) := by decide +kernel
theorem mj_d_91_28 : decode mj_m_91.2.1 28 = .ok (.iadd, 1) := by decide +kernel
theorem mj_d_91_29 : decode mj_m_91.2.1 29 = .ok (.ldc_w 267, 3) := by decide +kernel
theorem mj_d_91_32 : decode mj_m_91.2.1 32 = .ok (.iand, 1) := by decide +kernel
theorem mj_d_91_33 : decode mj_m_91.2.1 33 = .ok (.istore_n 0, 1) := by decide +kernel
theorem mj_d_91_34 : decode mj_m_91.2.1 34 = .ok (.iload_n 0, 1) := by decide +kernel
theorem mj_d_91_35 : decode mj_m_91.2.1 35 = .ok (.iload_n 0, 1) := by decide +kernel
theorem mj_d_91_36 : decode mj_m_91.2.1 36 = .ok (.bipush 8, 2) := by decide +kernel
theorem mj_d_91_38 : decode mj_m_91.2.1 38 = .ok (.iushr, 1) := by decide +kernel
theorem mj_d_91_39 : decode mj_m_91.2.1 39 = .ok (.iadd, 1) := by decide +kernel
theorem mj_d_91_40 : decode mj_m_91.2.1 40 = .ok (.istore_n 0, 1) := by decide +kernel
theorem mj_d_91_41 : decode mj_m_91.2.1 41 = .ok (.iload_n 0, 1) := by decide +kernel
theorem mj_d_91_42 : decode mj_m_91.2.1 42 = .ok (.iload_n 0, 1) := by decide +kernel
theorem mj_d_91_43 : decode mj_m_91.2.1 43 = .ok (.bipush 16, 2) := by decide +kernel
theorem mj_d_91_45 : decode mj_m_91.2.1 45 = .ok (.iushr, 1) := by decide +kernel
theorem mj_d_91_46 : decode mj_m_91.2.1 46 = .ok (.iadd, 1) := by decide +kernel
theorem mj_d_91_47 : decode mj_m_91.2.1 47 = .ok (.istore_n 0, 1) := by decide +kernel
theorem mj_d_91_48 : decode mj_m_91.2.1 48 = .ok (.iload_n 0, 1) := by decide +kernel
theorem mj_d_91_49 : decode mj_m_91.2.1 49 = .ok (.bipush 63, 2) := by decide +kernel
theorem mj_d_91_51 : decode mj_m_91.2.1 51 = .ok (.iand, 1) := by decide +kernel
theorem mj_d_91_52 : decode mj_m_91.2.1 52 = .ok (.ireturn, 1) := by decide +kernel
theorem mj_d_98_0 : decode mj_m_98.2.1 0 = .ok (.iconst 0, 1) := by decide +kernel
theorem mj_d_98_1 : decode mj_m_98.2.1 1 = .ok (.istore_n 2, 1) := by decide +kernel
theorem mj_d_98_2 : decode mj_m_98.2.1 2 = .ok (.iload_n 2, 1) := by decide +kernel
theorem mj_d_98_3 : decode mj_m_98.2.1 3 = .ok (.aload_n 0, 1) := by decide +kernel
theorem mj_d_98_4 : decode mj_m_98.2.1 4 = .ok (.getfield 19, 3) := by decide +kernel
theorem mj_d_98_7 : decode mj_m_98.2.1 7 = .ok (.getfield 118, 3) := by decide +kernel
theorem mj_d_98_10 : decode mj_m_98.2.1 10 = .ok (.if_icmp .ge 61, 3) := by decide +kernel
theorem mj_d_98_13 : decode mj_m_98.2.1 13 = .ok (.iload_n 2, 1) := by decide +kernel
theorem mj_d_98_14 : decode mj_m_98.2.1 14 = .ok (.iconst 1, 1) := by decide +kernel
theorem mj_d_98_15 : decode mj_m_98.2.1 15 = .ok (.iadd, 1) := by decide +kernel
theorem mj_d_98_16 : decode mj_m_98.2.1 16 = .ok (.istore_n 3, 1) := by decide +kernel
theorem mj_d_98_17 : decode mj_m_98.2.1 17 = .ok (.iload_n 3, 1) := by decide +kernel
theorem mj_d_98_18 : decode mj_m_98.2.1 18 = .ok (.aload_n 0, 1) := by decide +kernel
theorem mj_d_98_19 : decode mj_m_98.2.1 19 = .ok (.getfield 19, 3) := by decide +kernel
theorem mj_d_98_22 : decode mj_m_98.2.1 22 = .ok (.getfield 118, 3) := by decide +kernel
theorem mj_d_98_25 : decode mj_m_98.2.1 25 = .ok (.if_icmp .ge 40, 3) := by decide +kernel
theorem mj_d_98_28 : decode mj_m_98.2.1 28 = .ok (.aload_n 0, 1) := by decide +kernel
theorem mj_d_98_29 : decode mj_m_98.2.1 29 = .ok (.getfield 26, 3) := by decide +kernel
theorem mj_d_98_32 : decode mj_m_98.2.1 32 = .ok (.iload_n 2, 1) := by decide +kernel
theorem mj_d_98_33 : decode mj_m_98.2.1 33 = .ok (.iload_n 3, 1) := by decide +kernel
theorem mj_d_98_34 : decode mj_m_98.2.1 34 = .ok (.invokevirtual 242, 3) := by decide +kernel
theorem mj_d_98_37 : decode mj_m_98.2.1 37 = .ok (.ifCond .eq 22, 3) := by decide +kernel
theorem mj_d_98_40 : decode mj_m_98.2.1 40 = .ok (.aload_n 0, 1) := by decide +kernel
theorem mj_d_98_41 : decode mj_m_98.2.1 41 = .ok (.getfield 26, 3) := by decide +kernel
theorem mj_d_98_44 : decode mj_m_98.2.1 44 = .ok (.iload_n 3, 1) := by decide +kernel
theorem mj_d_98_45 : decode mj_m_98.2.1 45 = .ok (.iload_n 2, 1) := by decide +kernel
theorem mj_d_98_46 : decode mj_m_98.2.1 46 = .ok (.invokevirtual 242, 3) := by decide +kernel
theorem mj_d_98_49 : decode mj_m_98.2.1 49 = .ok (.ifCond .eq 10, 3) := by decide +kernel
theorem mj_d_98_52 : decode mj_m_98.2.1 52 = .ok (.iload_n 2, 1) := by decide +kernel
theorem mj_d_98_53 : decode mj_m_98.2.1 53 = .ok (.iload_n 3, 1) := by decide +kernel
theorem mj_d_98_54 : decode mj_m_98.2.1 54 = .ok (.iload_n 1, 1) := by decide +kernel
theorem mj_d_98_55 : decode mj_m_98.2.1 55 = .ok (.invokestatic 245, 3) := by decide +kernel
theorem mj_d_98_58 : decode mj_m_98.2.1 58 = .ok (.ireturn, 1) := by decide +kernel
theorem mj_d_98_59 : decode mj_m_98.2.1 59 = .ok (.iinc 3 1, 3) := by decide +kernel
theorem mj_d_98_62 : decode mj_m_98.2.1 62 = .ok (.goto (-45), 3) := by decide +kernel
theorem mj_d_98_65 : decode mj_m_98.2.1 65 = .ok (.iinc 2 1, 3) := by decide +kernel
theorem mj_d_98_68 : decode mj_m_98.2.1 68 = .ok (.goto (-66), 3) := by decide +kernel
theorem mj_d_98_71 : decode mj_m_98.2.1 71 = .ok (.iconst (-1), 1) := by decide +kernel
theorem mj_d_98_72 : decode mj_m_98.2.1 72 = .ok (.ireturn, 1) := by decide +kernel
theorem mj_d_100_0 : decode mj_m_100.2.1 0 = .ok (.iload_n 2, 1) := by decide +kernel
theorem mj_d_100_1 : decode mj_m_100.2.1 1 = .ok (.tableswitch 33 (-1) 1 #[27, 29, 31], 27) := by decide +kernel
theorem mj_d_100_28 : decode mj_m_100.2.1 28 = .ok (.iconst 2, 1) := by decide +kernel
theorem mj_d_100_29 : decode mj_m_100.2.1 29 = .ok (.ireturn, 1) := by decide +kernel
theorem mj_d_100_30 : decode mj_m_100.2.1 30 = .ok (.iload_n 0, 1) := by decide +kernel
theorem mj_d_100_31 : decode mj_m_100.2.1 31 = .ok (.ireturn, 1) := by decide +kernel
theorem mj_d_100_32 : decode mj_m_100.2.1 32 = .ok (.iload_n 1, 1) := by decide +kernel
theorem mj_d_100_33 : decode mj_m_100.2.1 33 = .ok (.ireturn, 1) := by decide +kernel
theorem mj_d_100_34 : decode mj_m_100.2.1 34 = .ok (.iconst (-1), 1) := by decide +kernel
theorem mj_d_100_35 : decode mj_m_100.2.1 35 = .ok (.ireturn, 1) := by decide +kernel
theorem mj_d_101_0 : decode mj_m_101.2.1 0 = .ok (.iload_n 1, 1) := by decide +kernel
theorem mj_d_101_1 : decode mj_m_101.2.1 1 = .ok (.iconst 1, 1) := by decide +kernel
theorem mj_d_101_2 : decode mj_m_101.2.1 2 = .ok (.if_icmp .lt 9, 3) := by decide +kernel
theorem mj_d_101_5 : decode mj_m_101.2.1 5 = .ok (.iload_n 1, 1) := by decide +kernel
theorem mj_d_101_6 : decode mj_m_101.2.1 6 = .ok (.bipush 7, 2) := by decide +kernel
theorem mj_d_101_8 : decode mj_m_101.2.1 8 = .ok (.if_icmp .le 6, 3) := by decide +kernel
theorem mj_d_101_11 : decode mj_m_101.2.1 11 = .ok (.ldc 72, 2) := by decide +kernel
theorem mj_d_101_13 : decode mj_m_101.2.1 13 = .ok (.ireturn, 1) := by decide +kernel
theorem mj_d_101_14 : decode mj_m_101.2.1 14 = .ok (.iload_n 2, 1) := by decide +kernel
theorem mj_d_101_15 : decode mj_m_101.2.1 15 = .ok (.lookupswitch 47 #[(0, 25), (1, 41)], 25) := by decide +kernel
theorem mj_d_101_40 : decode mj_m_101.2.1 40 = .ok (.aload_n 0, 1) := by decide +kernel
theorem mj_d_101_41 : decode mj_m_101.2.1 41 = .ok (.getfield 26, 3) := by decide +kernel
theorem mj_d_101_44 : decode mj_m_101.2.1 44 = .ok (.iload_n 1, 1) := by decide +kernel
theorem mj_d_101_45 : decode mj_m_101.2.1 45 = .ok (.aload_n 0, 1) := by decide +kernel
theorem mj_d_101_46 : decode mj_m_101.2.1 46 = .ok (.getfield 19, 3) := by decide +kernel
theorem mj_d_101_49 : decode mj_m_101.2.1 49 = .ok (.getfield 102, 3) := by decide +kernel
theorem mj_d_101_52 : decode mj_m_101.2.1 52 = .ok (.invokevirtual 249, 3) := by decide +kernel
theorem mj_d_101_55 : decode mj_m_101.2.1 55 = .ok (.ireturn, 1) := by decide +kernel
theorem mj_d_101_56 : decode mj_m_101.2.1 56 = .ok (.aload_n 0, 1) := by decide +kernel
theorem mj_d_101_57 : decode mj_m_101.2.1 57 = .ok (.iload_n 1, 1) := by decide +kernel
theorem mj_d_101_58 : decode mj_m_101.2.1 58 = .ok (.invokevirtual 252, 3) := by decide +kernel
theorem mj_d_101_61 : decode mj_m_101.2.1 61 = .ok (.ireturn, 1) := by decide +kernel
theorem mj_d_101_62 : decode mj_m_101.2.1 62 = .ok (.ldc 72, 2) := by decide +kernel
theorem mj_d_101_64 : decode mj_m_101.2.1 64 = .ok (.ireturn, 1) := by decide +kernel
theorem mj_d_104_0 : decode mj_m_104.2.1 0 = .ok (.iconst (-1), 1) := by decide +kernel
theorem mj_d_104_1 : decode mj_m_104.2.1 1 = .ok (.istore_n 2, 1) := by decide +kernel
theorem mj_d_104_2 : decode mj_m_104.2.1 2 = .ok (.iconst 0, 1) := by decide +kernel
theorem mj_d_104_3 : decode mj_m_104.2.1 3 = .ok (.istore_n 3, 1) := by decide +kernel
theorem mj_d_104_4 : decode mj_m_104.2.1 4 = .ok (.iconst 0, 1) := by decide +kernel
theorem mj_d_104_5 : decode mj_m_104.2.1 5 = .ok (.istore 4, 2) := by decide +kernel
theorem mj_d_104_7 : decode mj_m_104.2.1 7 = .ok (.iload 4, 2) := by decide +kernel
theorem mj_d_104_9 : decode mj_m_104.2.1 9 = .ok (.aload_n 0, 1) := by decide +kernel
theorem mj_d_104_10 : decode mj_m_104.2.1 10 = .ok (.getfield 19, 3) := by decide +kernel
theorem mj_d_104_13 : decode mj_m_104.2.1 13 = .ok (.getfield 102, 3) := by decide +kernel
theorem mj_d_104_16 : decode mj_m_104.2.1 16 = .ok (.if_icmp .ge 57, 3) := by decide +kernel
theorem mj_d_104_19 : decode mj_m_104.2.1 19 = .ok (.aload_n 0, 1) := by decide +kernel
theorem mj_d_104_20 : decode mj_m_104.2.1 20 = .ok (.getfield 26, 3) := by decide +kernel
theorem mj_d_104_23 : decode mj_m_104.2.1 23 = .ok (.getfield 140, 3) := by decide +kernel
theorem mj_d_104_26 : decode mj_m_104.2.1 26 = .ok (.iload 4, 2) := by decide +kernel
theorem mj_d_104_28 : decode mj_m_104.2.1 28 = .ok (.iaload, 1) := by decide +kernel
theorem mj_d_104_29 : decode mj_m_104.2.1 29 = .ok (.iload_n 1, 1) := by decide +kernel
theorem mj_d_104_30 : decode mj_m_104.2.1 30 = .ok (.if_icmp .ne 22, 3) := by decide +kernel
theorem mj_d_104_33 : decode mj_m_104.2.1 33 = .ok (.aload_n 0, 1) := by decide +kernel
theorem mj_d_104_34 : decode mj_m_104.2.1 34 = .ok (.getfield 26, 3) := by decide +kernel
theorem mj_d_104_37 : decode mj_m_104.2.1 37 = .ok (.iload 4, 2) := by decide +kernel
theorem mj_d_104_39 : decode mj_m_104.2.1 39 = .ok (.aload_n 0, 1) := by decide +kernel
theorem mj_d_104_40 : decode mj_m_104.2.1 40 = .ok (.getfield 19, 3) := by decide +kernel
theorem mj_d_104_43 : decode mj_m_104.2.1 43 = .ok (.invokevirtual 222, 3) := by decide +kernel
theorem mj_d_104_46 : decode mj_m_104.2.1 46 = .ok (.invokestatic 299, 3) := by decide +kernel
theorem mj_d_104_49 : decode mj_m_104.2.1 49 = .ok (.goto 4, 3) := by decide +kernel
theorem mj_d_104_52 : decode mj_m_104.2.1 52 = .ok (.iconst 0, 1) := by decide +kernel
theorem mj_d_104_53 : decode mj_m_104.2.1 53 = .ok (.istore 5, 2) := by decide +kernel
theorem mj_d_104_55 : decode mj_m_104.2.1 55 = .ok (.iload 5, 2) := by decide +kernel
theorem mj_d_104_57 : decode mj_m_104.2.1 57 = .ok (.iload_n 3, 1) := by decide +kernel
theorem mj_d_104_58 : decode mj_m_104.2.1 58 = .ok (.if_icmp .le 9, 3) := by decide +kernel
theorem mj_d_104_61 : decode mj_m_104.2.1 61 = .ok (.iload 5, 2) := by decide +kernel
theorem mj_d_104_63 : decode mj_m_104.2.1 63 = .ok (.istore_n 3, 1) := by decide +kernel
theorem mj_d_104_64 : decode mj_m_104.2.1 64 = .ok (.iload 4, 2) := by decide +kernel
theorem mj_d_104_66 : decode mj_m_104.2.1 66 = .ok (.istore_n 2, 1) := by decide +kernel
theorem mj_d_104_67 : decode mj_m_104.2.1 67 = .ok (.iinc 4 1, 3) := by decide +kernel
theorem mj_d_104_70 : decode mj_m_104.2.1 70 = .ok (.goto (-63), 3) := by decide +kernel
theorem mj_d_104_73 : decode mj_m_104.2.1 73 = .ok (.iload_n 2, 1) := by decide +kernel
theorem mj_d_104_74 : decode mj_m_104.2.1 74 = .ok (.ireturn, 1) := by decide +kernel
theorem mj_d_105_0 : decode mj_m_105.2.1 0 = .ok (.iload_n 1, 1) := by decide +kernel
theorem mj_d_105_1 : decode mj_m_105.2.1 1 = .ok (.ifCond .lt 19, 3) := by decide +kernel
theorem mj_d_105_4 : decode mj_m_105.2.1 4 = .ok (.iload_n 1, 1) := by decide +kernel
theorem mj_d_105_5 : decode mj_m_105.2.1 5 = .ok (.bipush 8, 2) := by decide +kernel
theorem mj_d_105_7 : decode mj_m_105.2.1 7 = .ok (.if_icmp .gt 13, 3) := by decide +kernel
theorem mj_d_105_10 : decode mj_m_105.2.1 10 = .ok (.iload_n 2, 1) := by decide +kernel
theorem mj_d_105_11 : decode mj_m_105.2.1 11 = .ok (.ifCond .lt 9, 3) := by decide +kernel
theorem mj_d_105_14 : decode mj_m_105.2.1 14 = .ok (.iload_n 2, 1) := by decide +kernel
theorem mj_d_105_15 : decode mj_m_105.2.1 15 = .ok (.bipush 100, 2) := by decide +kernel
theorem mj_d_105_17 : decode mj_m_105.2.1 17 = .ok (.if_icmp .le 6, 3) := by decide +kernel
theorem mj_d_105_20 : decode mj_m_105.2.1 20 = .ok (.ldc 72, 2) := by decide +kernel
theorem mj_d_105_22 : decode mj_m_105.2.1 22 = .ok (.ireturn, 1) := by decide +kernel
theorem mj_d_105_23 : decode mj_m_105.2.1 23 = .ok (.ldc2_w 255, 3) := by decide +kernel
theorem mj_d_105_26 : decode mj_m_105.2.1 26 = .ok (.lstore_n 3, 1) := by decide +kernel
theorem mj_d_105_27 : decode mj_m_105.2.1 27 = .ok (.iconst 0, 1) := by decide +kernel
theorem mj_d_105_28 : decode mj_m_105.2.1 28 = .ok (.istore 5, 2) := by decide +kernel
theorem mj_d_105_30 : decode mj_m_105.2.1 30 = .ok (.iload 5, 2) := by decide +kernel
theorem mj_d_105_32 : decode mj_m_105.2.1 32 = .ok (.iload_n 1, 1) := by decide +kernel
theorem mj_d_105_33 : decode mj_m_105.2.1 33 = .ok (.if_icmp .ge 35, 3) := by decide +kernel
theorem mj_d_105_36 : decode mj_m_105.2.1 36 = .ok (.bipush 100, 2) := by decide +kernel
theorem mj_d_105_38 : decode mj_m_105.2.1 38 = .ok (.iload_n 2, 1) := by decide +kernel
theorem mj_d_105_39 : decode mj_m_105.2.1 39 = .ok (.iconst 2, 1) := by decide +kernel
theorem mj_d_105_40 : decode mj_m_105.2.1 40 = .ok (.iload 5, 2) := by decide +kernel
theorem mj_d_105_42 : decode mj_m_105.2.1 42 = .ok (.imul, 1) := by decide +kernel
theorem mj_d_105_43 : decode mj_m_105.2.1 43 = .ok (.iadd, 1) := by decide +kernel
theorem mj_d_105_44 : decode mj_m_105.2.1 44 = .ok (.invokestatic 257, 3) := by decide +kernel
theorem mj_d_105_47 : decode mj_m_105.2.1 47 = .ok (.istore 6, 2) := by decide +kernel
theorem mj_d_105_49 : decode mj_m_105.2.1 49 = .ok (.lload_n 3, 1) := by decide +kernel
theorem mj_d_105_50 : decode mj_m_105.2.1 50 = .ok (.bipush 100, 2) := by decide +kernel
theorem mj_d_105_52 : decode mj_m_105.2.1 52 = .ok (.iload 6, 2) := by decide +kernel
theorem mj_d_105_54 : decode mj_m_105.2.1 54 = .ok (.isub, 1) := by decide +kernel
theorem mj_d_105_55 : decode mj_m_105.2.1 55 = .ok (.i2l, 1) := by decide +kernel
theorem mj_d_105_56 : decode mj_m_105.2.1 56 = .ok (.lmul, 1) := by decide +kernel
theorem mj_d_105_57 : decode mj_m_105.2.1 57 = .ok (.ldc2_w 262, 3) := by decide +kernel
theorem mj_d_105_60 : decode mj_m_105.2.1 60 = .ok (.ldiv, 1) := by decide +kernel
theorem mj_d_105_61 : decode mj_m_105.2.1 61 = .ok (.lstore_n 3, 1) := by decide +kernel
theorem mj_d_105_62 : decode mj_m_105.2.1 62 = .ok (.iinc 5 1, 3) := by decide +kernel
theorem mj_d_105_65 : decode mj_m_105.2.1 65 = .ok (.goto (-35), 3) := by decide +kernel
theorem mj_d_105_68 : decode mj_m_105.2.1 68 = .ok (.lload_n 3, 1) := by decide +kernel
theorem mj_d_105_69 : decode mj_m_105.2.1 69 = .ok (.l2i, 1) := by decide +kernel
theorem mj_d_105_70 : decode mj_m_105.2.1 70 = .ok (.ireturn, 1) := by decide +kernel
theorem mj_d_106_0 : decode mj_m_106.2.1 0 = .ok (.aload_n 0, 1) := by decide +kernel
theorem mj_d_106_1 : decode mj_m_106.2.1 1 = .ok (.iload_n 1, 1) := by decide +kernel
theorem mj_d_106_2 : decode mj_m_106.2.1 2 = .ok (.invokevirtual 135, 3) := by decide +kernel
theorem mj_d_106_5 : decode mj_m_106.2.1 5 = .ok (.ifCond .ne 6, 3) := by decide +kernel
theorem mj_d_106_8 : decode mj_m_106.2.1 8 = .ok (.ldc 139, 2) := by decide +kernel
theorem mj_d_106_10 : decode mj_m_106.2.1 10 = .ok (.ireturn, 1) := by decide +kernel
theorem mj_d_106_11 : decode mj_m_106.2.1 11 = .ok (.iload_n 2, 1) := by decide +kernel
theorem mj_d_106_12 : decode mj_m_106.2.1 12 = .ok (.iconst 1, 1) := by decide +kernel
theorem mj_d_106_13 : decode mj_m_106.2.1 13 = .ok (.if_icmp .lt 9, 3) := by decide +kernel
theorem mj_d_106_16 : decode mj_m_106.2.1 16 = .ok (.iload_n 2, 1) := by decide +kernel
theorem mj_d_106_17 : decode mj_m_106.2.1 17 = .ok (.bipush 7, 2) := by decide +kernel
theorem mj_d_106_19 : decode mj_m_106.2.1 19 = .ok (.if_icmp .le 6, 3) := by decide +kernel
theorem mj_d_106_22 : decode mj_m_106.2.1 22 = .ok (.ldc 72, 2) := by decide +kernel
theorem mj_d_106_24 : decode mj_m_106.2.1 24 = .ok (.ireturn, 1) := by decide +kernel
theorem mj_d_106_25 : decode mj_m_106.2.1 25 = .ok (.aload_n 0, 1) := by decide +kernel
theorem mj_d_106_26 : decode mj_m_106.2.1 26 = .ok (.getfield 47, 3) := by decide +kernel
theorem mj_d_106_29 : decode mj_m_106.2.1 29 = .ok (.iload_n 1, 1) := by decide +kernel
theorem mj_d_106_30 : decode mj_m_106.2.1 30 = .ok (.iload_n 2, 1) := by decide +kernel
theorem mj_d_106_31 : decode mj_m_106.2.1 31 = .ok (.iload_n 3, 1) := by decide +kernel
theorem mj_d_106_32 : decode mj_m_106.2.1 32 = .ok (.invokevirtual 264, 3) := by decide +kernel
theorem mj_d_106_35 : decode mj_m_106.2.1 35 = .ok (.ireturn, 1) := by decide +kernel
theorem mj_d_108_0 : decode mj_m_108.2.1 0 = .ok (.iload_n 1, 1) := by decide +kernel
theorem mj_d_108_1 : decode mj_m_108.2.1 1 = .ok (.iconst 1, 1) := by decide +kernel
theorem mj_d_108_2 : decode mj_m_108.2.1 2 = .ok (.if_icmp .lt 9, 3) := by decide +kernel
theorem mj_d_108_5 : decode mj_m_108.2.1 5 = .ok (.iload_n 1, 1) := by decide +kernel
theorem mj_d_108_6 : decode mj_m_108.2.1 6 = .ok (.bipush 7, 2) := by decide +kernel
theorem mj_d_108_8 : decode mj_m_108.2.1 8 = .ok (.if_icmp .le 6, 3) := by decide +kernel
theorem mj_d_108_11 : decode mj_m_108.2.1 11 = .ok (.ldc 72, 2) := by decide +kernel
theorem mj_d_108_13 : decode mj_m_108.2.1 13 = .ok (.ireturn, 1) := by decide +kernel
theorem mj_d_108_14 : decode mj_m_108.2.1 14 = .ok (.iload_n 2, 1) := by decide +kernel
theorem mj_d_108_15 : decode mj_m_108.2.1 15 = .ok (.lookupswitch 41 #[(0, 25), (1, 31)], 25) := by decide +kernel
theorem mj_d_108_40 : decode mj_m_108.2.1 40 = .ok (.aload_n 0, 1) := by decide +kernel
theorem mj_d_108_41 : decode mj_m_108.2.1 41 = .ok (.iload_n 1, 1) := by decide +kernel
theorem mj_d_108_42 : decode mj_m_108.2.1 42 = .ok (.invokevirtual 267, 3) := by decide +kernel
theorem mj_d_108_45 : decode mj_m_108.2.1 45 = .ok (.ireturn, 1) := by decide +kernel
theorem mj_d_108_46 : decode mj_m_108.2.1 46 = .ok (.aload_n 0, 1) := by decide +kernel
theorem mj_d_108_47 : decode mj_m_108.2.1 47 = .ok (.aload_n 0, 1) := by decide +kernel
theorem mj_d_108_48 : decode mj_m_108.2.1 48 = .ok (.iload_n 1, 1) := by decide +kernel
theorem mj_d_108_49 : decode mj_m_108.2.1 49 = .ok (.invokevirtual 267, 3) := by decide +kernel
theorem mj_d_108_52 : decode mj_m_108.2.1 52 = .ok (.invokevirtual 270, 3) := by decide +kernel
theorem mj_d_108_55 : decode mj_m_108.2.1 55 = .ok (.ireturn, 1) := by decide +kernel
theorem mj_d_108_56 : decode mj_m_108.2.1 56 = .ok (.ldc 72, 2) := by decide +kernel
theorem mj_d_108_58 : decode mj_m_108.2.1 58 = .ok (.ireturn, 1) := by decide +kernel
theorem mj_d_109_0 : decode mj_m_109.2.1 0 = .ok (.iconst 0, 1) := by decide +kernel
theorem mj_d_109_1 : decode mj_m_109.2.1 1 = .ok (.istore_n 2, 1) := by decide +kernel
theorem mj_d_109_2 : decode mj_m_109.2.1 2 = .ok (.iconst 0, 1) := by decide +kernel
theorem mj_d_109_3 : decode mj_m_109.2.1 3 = .ok (.istore_n 3, 1) := by decide +kernel
theorem mj_d_109_4 : decode mj_m_109.2.1 4 = .ok (.iload_n 3, 1) := by decide +kernel
theorem mj_d_109_5 : decode mj_m_109.2.1 5 = .ok (.aload_n 0, 1) := by decide +kernel
theorem mj_d_109_6 : decode mj_m_109.2.1 6 = .ok (.getfield 19, 3) := by decide +kernel
theorem mj_d_109_9 : decode mj_m_109.2.1 9 = .ok (.getfield 102, 3) := by decide +kernel
theorem mj_d_109_12 : decode mj_m_109.2.1 12 = .ok (.if_icmp .ge 38, 3) := by decide +kernel
theorem mj_d_109_15 : decode mj_m_109.2.1 15 = .ok (.aload_n 0, 1) := by decide +kernel
theorem mj_d_109_16 : decode mj_m_109.2.1 16 = .ok (.getfield 47, 3) := by decide +kernel
theorem mj_d_109_19 : decode mj_m_109.2.1 19 = .ok (.iload_n 1, 1) := by decide +kernel
theorem mj_d_109_20 : decode mj_m_109.2.1 20 = .ok (.aload_n 0, 1) := by decide +kernel
theorem mj_d_109_21 : decode mj_m_109.2.1 21 = .ok (.getfield 26, 3) := by decide +kernel
theorem mj_d_109_24 : decode mj_m_109.2.1 24 = .ok (.iload_n 3, 1) := by decide +kernel
theorem mj_d_109_25 : decode mj_m_109.2.1 25 = .ok (.aload_n 0, 1) := by decide +kernel
theorem mj_d_109_26 : decode mj_m_109.2.1 26 = .ok (.getfield 19, 3) := by decide +kernel
theorem mj_d_109_29 : decode mj_m_109.2.1 29 = .ok (.invokevirtual 222, 3) := by decide +kernel
theorem mj_d_109_32 : decode mj_m_109.2.1 32 = .ok (.invokevirtual 304, 3) := by decide +kernel
theorem mj_d_109_35 : decode mj_m_109.2.1 35 = .ok (.ifCond .eq 9, 3) := by decide +kernel
theorem mj_d_109_38 : decode mj_m_109.2.1 38 = .ok (.iload_n 2, 1) := by decide +kernel
theorem mj_d_109_39 : decode mj_m_109.2.1 39 = .ok (.iconst 1, 1) := by decide +kernel
theorem mj_d_109_40 : decode mj_m_109.2.1 40 = .ok (.iload_n 3, 1) := by decide +kernel
theorem mj_d_109_41 : decode mj_m_109.2.1 41 = .ok (.ishl, 1) := by decide +kernel
theorem mj_d_109_42 : decode mj_m_109.2.1 42 = .ok (.ior, 1) := by decide +kernel
theorem mj_d_109_43 : decode mj_m_109.2.1 43 = .ok (.istore_n 2, 1) := by decide +kernel
theorem mj_d_109_44 : decode mj_m_109.2.1 44 = .ok (.iinc 3 1, 3) := by decide +kernel
theorem mj_d_109_47 : decode mj_m_109.2.1 47 = .ok (.goto (-43), 3) := by decide +kernel
theorem mj_d_109_50 : decode mj_m_109.2.1 50 = .ok (.iload_n 2, 1) := by decide +kernel
theorem mj_d_109_51 : decode mj_m_109.2.1 51 = .ok (.ireturn, 1) := by decide +kernel
theorem mj_d_111_0 : decode mj_m_111.2.1 0 = .ok (.iload_n 1, 1) := by decide +kernel
theorem mj_d_111_1 : decode mj_m_111.2.1 1 = .ok (.invokestatic 299, 3) := by decide +kernel
theorem mj_d_111_4 : decode mj_m_111.2.1 4 = .ok (.istore_n 2, 1) := by decide +kernel
theorem mj_d_111_5 : decode mj_m_111.2.1 5 = .ok (.iconst (-1), 1) := by decide +kernel
theorem mj_d_111_6 : decode mj_m_111.2.1 6 = .ok (.istore_n 3, 1) := by decide +kernel
theorem mj_d_111_7 : decode mj_m_111.2.1 7 = .ok (.iload_n 2, 1) := by decide +kernel
theorem mj_d_111_8 : decode mj_m_111.2.1 8 = .ok (.istore 4, 2) := by decide +kernel
theorem mj_d_111_10 : decode mj_m_111.2.1 10 = .ok (.iconst 0, 1) := by decide +kernel
theorem mj_d_111_11 : decode mj_m_111.2.1 11 = .ok (.istore 5, 2) := by decide +kernel
theorem mj_d_111_13 : decode mj_m_111.2.1 13 = .ok (.iload 5, 2) := by decide +kernel
theorem mj_d_111_15 : decode mj_m_111.2.1 15 = .ok (.aload_n 0, 1) := by decide +kernel
theorem mj_d_111_16 : decode mj_m_111.2.1 16 = .ok (.getfield 19, 3) := by decide +kernel
theorem mj_d_111_19 : decode mj_m_111.2.1 19 = .ok (.getfield 102, 3) := by decide +kernel
theorem mj_d_111_22 : decode mj_m_111.2.1 22 = .ok (.if_icmp .ge 43, 3) := by decide +kernel
theorem mj_d_111_25 : decode mj_m_111.2.1 25 = .ok (.aload_n 0, 1) := by decide +kernel
theorem mj_d_111_26 : decode mj_m_111.2.1 26 = .ok (.iload 5, 2) := by decide +kernel
theorem mj_d_111_28 : decode mj_m_111.2.1 28 = .ok (.iload_n 1, 1) := by decide +kernel
theorem mj_d_111_29 : decode mj_m_111.2.1 29 = .ok (.invokevirtual 307, 3) := by decide +kernel
theorem mj_d_111_32 : decode mj_m_111.2.1 32 = .ok (.istore 6, 2) := by decide +kernel
theorem mj_d_111_34 : decode mj_m_111.2.1 34 = .ok (.iload 6, 2) := by decide +kernel
theorem mj_d_111_36 : decode mj_m_111.2.1 36 = .ok (.iload_n 2, 1) := by decide +kernel
theorem mj_d_111_37 : decode mj_m_111.2.1 37 = .ok (.iload 6, 2) := by decide +kernel
theorem mj_d_111_39 : decode mj_m_111.2.1 39 = .ok (.isub, 1) := by decide +kernel
theorem mj_d_111_40 : decode mj_m_111.2.1 40 = .ok (.invokestatic 310, 3) := by decide +kernel
theorem mj_d_111_43 : decode mj_m_111.2.1 43 = .ok (.istore 7, 2) := by decide +kernel
theorem mj_d_111_45 : decode mj_m_111.2.1 45 = .ok (.iload 7, 2) := by decide +kernel
theorem mj_d_111_47 : decode mj_m_111.2.1 47 = .ok (.iload 4, 2) := by decide +kernel
theorem mj_d_111_49 : decode mj_m_111.2.1 49 = .ok (.if_icmp .ge 10, 3) := by decide +kernel
theorem mj_d_111_52 : decode mj_m_111.2.1 52 = .ok (.iload 7, 2) := by decide +kernel
theorem mj_d_111_54 : decode mj_m_111.2.1 54 = .ok (.istore 4, 2) := by decide +kernel
theorem mj_d_111_56 : decode mj_m_111.2.1 56 = .ok (.iload 5, 2) := by decide +kernel
theorem mj_d_111_58 : decode mj_m_111.2.1 58 = .ok (.istore_n 3, 1) := by decide +kernel
theorem mj_d_111_59 : decode mj_m_111.2.1 59 = .ok (.iinc 5 1, 3) := by decide +kernel
theorem mj_d_111_62 : decode mj_m_111.2.1 62 = .ok (.goto (-49), 3) := by decide +kernel
theorem mj_d_111_65 : decode mj_m_111.2.1 65 = .ok (.iload_n 3, 1) := by decide +kernel
theorem mj_d_111_66 : decode mj_m_111.2.1 66 = .ok (.ireturn, 1) := by decide +kernel
theorem mj_d_112_0 : decode mj_m_112.2.1 0 = .ok (.iconst 0, 1) := by decide +kernel
theorem mj_d_112_1 : decode mj_m_112.2.1 1 = .ok (.istore_n 3, 1) := by decide +kernel
theorem mj_d_112_2 : decode mj_m_112.2.1 2 = .ok (.iconst 0, 1) := by decide +kernel
theorem mj_d_112_3 : decode mj_m_112.2.1 3 = .ok (.istore 4, 2) := by decide +kernel
theorem mj_d_112_5 : decode mj_m_112.2.1 5 = .ok (.iload 4, 2) := by decide +kernel
theorem mj_d_112_7 : decode mj_m_112.2.1 7 = .ok (.aload_n 0, 1) := by decide +kernel
theorem mj_d_112_8 : decode mj_m_112.2.1 8 = .ok (.getfield 19, 3) := by decide +kernel
theorem mj_d_112_11 : decode mj_m_112.2.1 11 = .ok (.getfield 102, 3) := by decide +kernel
theorem mj_d_112_14 : decode mj_m_112.2.1 14 = .ok (.if_icmp .ge 39, 3) := by decide +kernel
theorem mj_d_112_17 : decode mj_m_112.2.1 17 = .ok (.iload_n 2, 1) := by decide +kernel
theorem mj_d_112_18 : decode mj_m_112.2.1 18 = .ok (.iload 4, 2) := by decide +kernel
theorem mj_d_112_20 : decode mj_m_112.2.1 20 = .ok (.ishr, 1) := by decide +kernel
theorem mj_d_112_21 : decode mj_m_112.2.1 21 = .ok (.iconst 1, 1) := by decide +kernel
theorem mj_d_112_22 : decode mj_m_112.2.1 22 = .ok (.iand, 1) := by decide +kernel
theorem mj_d_112_23 : decode mj_m_112.2.1 23 = .ok (.iconst 1, 1) := by decide +kernel
theorem mj_d_112_24 : decode mj_m_112.2.1 24 = .ok (.if_icmp .ne 23, 3) := by decide +kernel
theorem mj_d_112_27 : decode mj_m_112.2.1 27 = .ok (.iload_n 3, 1) := by decide +kernel
theorem mj_d_112_28 : decode mj_m_112.2.1 28 = .ok (.aload_n 0, 1) := by decide +kernel
theorem mj_d_112_29 : decode mj_m_112.2.1 29 = .ok (.getfield 26, 3) := by decide +kernel
theorem mj_d_112_32 : decode mj_m_112.2.1 32 = .ok (.iload 4, 2) := by decide +kernel
theorem mj_d_112_34 : decode mj_m_112.2.1 34 = .ok (.aload_n 0, 1) := by decide +kernel
theorem mj_d_112_35 : decode mj_m_112.2.1 35 = .ok (.getfield 19, 3) := by decide +kernel
theorem mj_d_112_38 : decode mj_m_112.2.1 38 = .ok (.invokevirtual 222, 3) := by decide +kernel
theorem mj_d_112_41 : decode mj_m_112.2.1 41 = .ok (.iload_n 1, 1) := by decide +kernel
theorem mj_d_112_42 : decode mj_m_112.2.1 42 = .ok (.ishr, 1) := by decide +kernel
theorem mj_d_112_43 : decode mj_m_112.2.1 43 = .ok (.iconst 1, 1) := by decide +kernel
theorem mj_d_112_44 : decode mj_m_112.2.1 44 = .ok (.iand, 1) := by decide +kernel
theorem mj_d_112_45 : decode mj_m_112.2.1 45 = .ok (.iadd, 1) := by decide +kernel
theorem mj_d_112_46 : decode mj_m_112.2.1 46 = .ok (.istore_n 3, 1) := by decide +kernel
theorem mj_d_112_47 : decode mj_m_112.2.1 47 = .ok (.iinc 4 1, 3) := by decide +kernel
theorem mj_d_112_50 : decode mj_m_112.2.1 50 = .ok (.goto (-45), 3) := by decide +kernel
theorem mj_d_112_53 : decode mj_m_112.2.1 53 = .ok (.iload_n 3, 1) := by decide +kernel
theorem mj_d_112_54 : decode mj_m_112.2.1 54 = .ok (.ireturn, 1) := by decide +kernel
theorem mj_d_113_0 : decode mj_m_113.2.1 0 = .ok (.aload_n 0, 1) := by decide +kernel
theorem mj_d_113_1 : decode mj_m_113.2.1 1 = .ok (.iload_n 1, 1) := by decide +kernel
theorem mj_d_113_2 : decode mj_m_113.2.1 2 = .ok (.invokevirtual 135, 3) := by decide +kernel
theorem mj_d_113_5 : decode mj_m_113.2.1 5 = .ok (.ifCond .ne 6, 3) := by decide +kernel
theorem mj_d_113_8 : decode mj_m_113.2.1 8 = .ok (.ldc 139, 2) := by decide +kernel
theorem mj_d_113_10 : decode mj_m_113.2.1 10 = .ok (.ireturn, 1) := by decide +kernel
theorem mj_d_113_11 : decode mj_m_113.2.1 11 = .ok (.iload_n 2, 1) := by decide +kernel
theorem mj_d_113_12 : decode mj_m_113.2.1 12 = .ok (.ifCond .lt 9, 3) := by decide +kernel
theorem mj_d_113_15 : decode mj_m_113.2.1 15 = .ok (.iload_n 2, 1) := by decide +kernel
theorem mj_d_113_16 : decode mj_m_113.2.1 16 = .ok (.bipush 7, 2) := by decide +kernel
theorem mj_d_113_18 : decode mj_m_113.2.1 18 = .ok (.if_icmp .le 6, 3) := by decide +kernel
theorem mj_d_113_21 : decode mj_m_113.2.1 21 = .ok (.ldc 72, 2) := by decide +kernel
theorem mj_d_113_23 : decode mj_m_113.2.1 23 = .ok (.ireturn, 1) := by decide +kernel
theorem mj_d_113_24 : decode mj_m_113.2.1 24 = .ok (.aload_n 0, 1) := by decide +kernel
theorem mj_d_113_25 : decode mj_m_113.2.1 25 = .ok (.getfield 54, 3) := by decide +kernel
theorem mj_d_113_28 : decode mj_m_113.2.1 28 = .ok (.iload_n 1, 1) := by decide +kernel
theorem mj_d_113_29 : decode mj_m_113.2.1 29 = .ok (.iload_n 2, 1) := by decide +kernel
theorem mj_d_113_30 : decode mj_m_113.2.1 30 = .ok (.invokevirtual 273, 3) := by decide +kernel
theorem mj_d_113_33 : decode mj_m_113.2.1 33 = .ok (.ireturn, 1) := by decide +kernel
theorem mj_d_115_0 : decode mj_m_115.2.1 0 = .ok (.aload_n 0, 1) := by decide +kernel
theorem mj_d_115_1 : decode mj_m_115.2.1 1 = .ok (.getfield 54, 3) := by decide +kernel
theorem mj_d_115_4 : decode mj_m_115.2.1 4 = .ok (.aload_n 0, 1) := by decide +kernel
theorem mj_d_115_5 : decode mj_m_115.2.1 5 = .ok (.getfield 26, 3) := by decide +kernel
theorem mj_d_115_8 : decode mj_m_115.2.1 8 = .ok (.invokevirtual 275, 3) := by decide +kernel
theorem mj_d_115_11 : decode mj_m_115.2.1 11 = .ok (.ireturn, 1) := by decide +kernel
theorem mj_d_117_0 : decode mj_m_117.2.1 0 = .ok (.aload_n 0, 1) := by decide +kernel
theorem mj_d_117_1 : decode mj_m_117.2.1 1 = .ok (.getfield 47, 3) := by decide +kernel
theorem mj_d_117_4 : decode mj_m_117.2.1 4 = .ok (.getfield 98, 3) := by decide +kernel
theorem mj_d_117_7 : decode mj_m_117.2.1 7 = .ok (.aload_n 0, 1) := by decide +kernel
theorem mj_d_117_8 : decode mj_m_117.2.1 8 = .ok (.getfield 54, 3) := by decide +kernel
theorem mj_d_117_11 : decode mj_m_117.2.1 11 = .ok (.getfield 101, 3) := by decide +kernel
theorem mj_d_117_14 : decode mj_m_117.2.1 14 = .ok (.iadd, 1) := by decide +kernel
theorem mj_d_117_15 : decode mj_m_117.2.1 15 = .ok (.istore_n 1, 1) := by decide +kernel
theorem mj_d_117_16 : decode mj_m_117.2.1 16 = .ok (.aload_n 0, 1) := by decide +kernel
theorem mj_d_117_17 : decode mj_m_117.2.1 17 = .ok (.getfield 47, 3) := by decide +kernel
theorem mj_d_117_20 : decode mj_m_117.2.1 20 = .ok (.iconst 0, 1) := by decide +kernel
theorem mj_d_117_21 : decode mj_m_117.2.1 21 = .ok (.putfield 98, 3) := by decide +kernel
theorem mj_d_117_24 : decode mj_m_117.2.1 24 = .ok (.aload_n 0, 1) := by decide +kernel
theorem mj_d_117_25 : decode mj_m_117.2.1 25 = .ok (.getfield 54, 3) := by decide +kernel
theorem mj_d_117_28 : decode mj_m_117.2.1 28 = .ok (.iconst 0, 1) := by decide +kernel
theorem mj_d_117_29 : decode mj_m_117.2.1 29 = .ok (.putfield 101, 3) := by decide +kernel
theorem mj_d_117_32 : decode mj_m_117.2.1 32 = .ok (.iload_n 1, 1) := by decide +kernel
theorem mj_d_117_33 : decode mj_m_117.2.1 33 = .ok (.ireturn, 1) := by decide +kernel
theorem mj_d_118_0 : decode mj_m_118.2.1 0 = .ok (.iload_n 1, 1) := by decide +kernel
theorem mj_d_118_1 : decode mj_m_118.2.1 1 = .ok (.ifCond .ge 6, 3) := by decide +kernel
theorem mj_d_118_4 : decode mj_m_118.2.1 4 = .ok (.ldc 72, 2) := by decide +kernel
theorem mj_d_118_6 : decode mj_m_118.2.1 6 = .ok (.ireturn, 1) := by decide +kernel
theorem mj_d_118_7 : decode mj_m_118.2.1 7 = .ok (.aload_n 0, 1) := by decide +kernel
theorem mj_d_118_8 : decode mj_m_118.2.1 8 = .ok (.getfield 279, 3) := by decide +kernel
theorem mj_d_118_11 : decode mj_m_118.2.1 11 = .ok (.istore_n 2, 1) := by decide +kernel
theorem mj_d_118_12 : decode mj_m_118.2.1 12 = .ok (.aload_n 0, 1) := by decide +kernel
theorem mj_d_118_13 : decode mj_m_118.2.1 13 = .ok (.iload_n 1, 1) := by decide +kernel
theorem mj_d_118_14 : decode mj_m_118.2.1 14 = .ok (.putfield 279, 3) := by decide +kernel
theorem mj_d_118_17 : decode mj_m_118.2.1 17 = .ok (.iload_n 2, 1) := by decide +kernel
theorem mj_d_118_18 : decode mj_m_118.2.1 18 = .ok (.ireturn, 1) := by decide +kernel
theorem mj_d_119_0 : decode mj_m_119.2.1 0 = .ok (.iload_n 1, 1) := by decide +kernel
theorem mj_d_119_1 : decode mj_m_119.2.1 1 = .ok (.ifCond .lt 8, 3) := by decide +kernel
theorem mj_d_119_4 : decode mj_m_119.2.1 4 = .ok (.iload_n 1, 1) := by decide +kernel
theorem mj_d_119_5 : decode mj_m_119.2.1 5 = .ok (.iconst 2, 1) := by decide +kernel
theorem mj_d_119_6 : decode mj_m_119.2.1 6 = .ok (.if_icmp .lt 6, 3) := by decide +kernel
theorem mj_d_119_9 : decode mj_m_119.2.1 9 = .ok (.ldc 139, 2) := by decide +kernel
theorem mj_d_119_11 : decode mj_m_119.2.1 11 = .ok (.ireturn, 1) := by decide +kernel
theorem mj_d_119_12 : decode mj_m_119.2.1 12 = .ok (.aload_n 0, 1) := by decide +kernel
theorem mj_d_119_13 : decode mj_m_119.2.1 13 = .ok (.getfield 40, 3) := by decide +kernel
theorem mj_d_119_16 : decode mj_m_119.2.1 16 = .ok (.iload_n 1, 1) := by decide +kernel
theorem mj_d_119_17 : decode mj_m_119.2.1 17 = .ok (.aload_n 0, 1) := by decide +kernel
theorem mj_d_119_18 : decode mj_m_119.2.1 18 = .ok (.getfield 26, 3) := by decide +kernel
theorem mj_d_119_21 : decode mj_m_119.2.1 21 = .ok (.aload_n 0, 1) := by decide +kernel
theorem mj_d_119_22 : decode mj_m_119.2.1 22 = .ok (.getfield 279, 3) := by decide +kernel
theorem mj_d_119_25 : decode mj_m_119.2.1 25 = .ok (.invokevirtual 282, 3) := by decide +kernel
theorem mj_d_119_28 : decode mj_m_119.2.1 28 = .ok (.aload_n 0, 1) := by decide +kernel
theorem mj_d_119_29 : decode mj_m_119.2.1 29 = .ok (.getfield 33, 3) := by decide +kernel
theorem mj_d_119_32 : decode mj_m_119.2.1 32 = .ok (.invokevirtual 94, 3) := by decide +kernel
theorem mj_d_119_35 : decode mj_m_119.2.1 35 = .ok (.iconst 1, 1) := by decide +kernel
theorem mj_d_119_36 : decode mj_m_119.2.1 36 = .ok (.ireturn, 1) := by decide +kernel
theorem mj_d_121_0 : decode mj_m_121.2.1 0 = .ok (.iload_n 1, 1) := by decide +kernel
theorem mj_d_121_1 : decode mj_m_121.2.1 1 = .ok (.ifCond .lt 8, 3) := by decide +kernel
theorem mj_d_121_4 : decode mj_m_121.2.1 4 = .ok (.iload_n 1, 1) := by decide +kernel
theorem mj_d_121_5 : decode mj_m_121.2.1 5 = .ok (.iconst 2, 1) := by decide +kernel
theorem mj_d_121_6 : decode mj_m_121.2.1 6 = .ok (.if_icmp .lt 6, 3) := by decide +kernel
theorem mj_d_121_9 : decode mj_m_121.2.1 9 = .ok (.ldc 139, 2) := by decide +kernel
theorem mj_d_121_11 : decode mj_m_121.2.1 11 = .ok (.ireturn, 1) := by decide +kernel
theorem mj_d_121_12 : decode mj_m_121.2.1 12 = .ok (.aload_n 0, 1) := by decide +kernel
theorem mj_d_121_13 : decode mj_m_121.2.1 13 = .ok (.getfield 40, 3) := by decide +kernel
theorem mj_d_121_16 : decode mj_m_121.2.1 16 = .ok (.iload_n 1, 1) := by decide +kernel
theorem mj_d_121_17 : decode mj_m_121.2.1 17 = .ok (.invokevirtual 286, 3) := by decide +kernel
theorem mj_d_121_20 : decode mj_m_121.2.1 20 = .ok (.ifCond .ne 6, 3) := by decide +kernel
theorem mj_d_121_23 : decode mj_m_121.2.1 23 = .ok (.ldc 186, 2) := by decide +kernel
theorem mj_d_121_25 : decode mj_m_121.2.1 25 = .ok (.ireturn, 1) := by decide +kernel
theorem mj_d_121_26 : decode mj_m_121.2.1 26 = .ok (.aload_n 0, 1) := by decide +kernel
theorem mj_d_121_27 : decode mj_m_121.2.1 27 = .ok (.aload_n 0, 1) := by decide +kernel
theorem mj_d_121_28 : decode mj_m_121.2.1 28 = .ok (.getfield 40, 3) := by decide +kernel
theorem mj_d_121_31 : decode mj_m_121.2.1 31 = .ok (.iload_n 1, 1) := by decide +kernel
theorem mj_d_121_32 : decode mj_m_121.2.1 32 = .ok (.aload_n 0, 1) := by decide +kernel
theorem mj_d_121_33 : decode mj_m_121.2.1 33 = .ok (.getfield 26, 3) := by decide +kernel
theorem mj_d_121_36 : decode mj_m_121.2.1 36 = .ok (.invokevirtual 289, 3) := by decide +kernel
theorem mj_d_121_39 : decode mj_m_121.2.1 39 = .ok (.putfield 279, 3) := by decide +kernel
theorem mj_d_121_42 : decode mj_m_121.2.1 42 = .ok (.aload_n 0, 1) := by decide +kernel
theorem mj_d_121_43 : decode mj_m_121.2.1 43 = .ok (.getfield 33, 3) := by decide +kernel
theorem mj_d_121_46 : decode mj_m_121.2.1 46 = .ok (.invokevirtual 94, 3) := by decide +kernel
theorem mj_d_121_49 : decode mj_m_121.2.1 49 = .ok (.iconst 1, 1) := by decide +kernel
theorem mj_d_121_50 : decode mj_m_121.2.1 50 = .ok (.ireturn, 1) := by decide +kernel
def dc_C_isHouse (s : sg_S) (a1 : Int) : Int := (if a1 < 0 then 0 else (if (s 8 3) ≤ a1 then 0 else 1))
theorem df_C_isHouse_0 (s : sg_S) (a1 : Int) : dc_C_isHouse s a1 = 0 ∨ (0 ≤ a1 ∧ a1 < (s 8 3)) := by
  unfold dc_C_isHouse
  (repeat' split) <;> omega
set_option maxRecDepth 100000 in
theorem dt_C_isHouse {h : mj_H} (hH : sy_H h) {a1 : Int} (b_a1 : (-2147483648) ≤ a1) (t_a1 : a1 ≤ 2147483647) : sy_wp (mj_m_39, 0, [(0, .ref 0), (1, sy_i a1)], [], h) (dq1 h (0) (1) (dc_C_isHouse (sy_rd h) a1)) := by
  unfold dc_C_isHouse
  have n8_3 := hH.bd (a := 8) (k := 3) rfl (by decide) rfl
  refine sy_st (S' := (mj_m_39, 1, [(0, .ref 0), (1, sy_i a1)], [sy_i a1], h)) mj_d_39_0 (fun _ _ => rfl) ?_
  refine sy_ifc mj_d_39_1 rfl ⟨by omega, by omega⟩ (fun (c1 : a1 < 0) => ?_) (fun (c1 : ¬ (a1 < 0)) => ?_)
  · skip
    rw [if_pos c1]
    refine sy_st (S' := (mj_m_39, 20, [(0, .ref 0), (1, sy_i a1)], [sy_i 0], h)) mj_d_39_19 (fun _ _ => rfl) ?_
    exact sy_retb mj_d_39_20 rfl ⟨by omega, by omega⟩ ⟨rfl, rfl, by omega, by omega⟩
  · skip
    rw [if_neg c1]
    refine sy_st (S' := (mj_m_39, 5, [(0, .ref 0), (1, sy_i a1)], [sy_i a1], h)) mj_d_39_4 (fun _ _ => rfl) ?_
    refine sy_st (S' := (mj_m_39, 6, [(0, .ref 0), (1, sy_i a1)], [.ref 0, sy_i a1], h)) mj_d_39_5 (fun _ _ => rfl) ?_
    refine sy_gr2 (b := 8) mj_d_39_6 rfl rfl (by decide) rfl rfl hH ?_
    refine sy_gf mj_d_39_9 rfl rfl (by decide) rfl hH ?_
    rintro _ rfl bx2 tx2
    refine sy_icm mj_d_39_12 rfl ⟨by omega, by omega⟩ ⟨by omega, by omega⟩ (fun (c3 : (sy_rd h 8 3) ≤ a1) => ?_) (fun (c3 : ¬ ((sy_rd h 8 3) ≤ a1)) => ?_)
    · skip
      rw [if_pos c3]
      refine sy_st (S' := (mj_m_39, 20, [(0, .ref 0), (1, sy_i a1)], [sy_i 0], h)) mj_d_39_19 (fun _ _ => rfl) ?_
      exact sy_retb mj_d_39_20 rfl ⟨by omega, by omega⟩ ⟨rfl, rfl, by omega, by omega⟩
    · skip
      rw [if_neg c3]
      refine sy_st (S' := (mj_m_39, 16, [(0, .ref 0), (1, sy_i a1)], [sy_i 1], h)) mj_d_39_15 (fun _ _ => rfl) ?_
      refine sy_st (S' := (mj_m_39, 20, [(0, .ref 0), (1, sy_i a1)], [sy_i 1], h)) mj_d_39_16 (fun _ _ => rfl) ?_
      exact sy_retb mj_d_39_20 rfl ⟨by omega, by omega⟩ ⟨rfl, rfl, by omega, by omega⟩
def dc_C_isSweep (s : sg_S) (a1 : Int) : Int := (if a1 < 0 then 0 else (if (s 8 4) ≤ a1 then 0 else 1))
theorem df_C_isSweep_0 (s : sg_S) (a1 : Int) : dc_C_isSweep s a1 = 0 ∨ (0 ≤ a1 ∧ a1 < (s 8 4)) := by
  unfold dc_C_isSweep
  (repeat' split) <;> omega
set_option maxRecDepth 100000 in
theorem dt_C_isSweep {h : mj_H} (hH : sy_H h) {a1 : Int} (b_a1 : (-2147483648) ≤ a1) (t_a1 : a1 ≤ 2147483647) : sy_wp (mj_m_44, 0, [(0, .ref 0), (1, sy_i a1)], [], h) (dq1 h (0) (1) (dc_C_isSweep (sy_rd h) a1)) := by
  unfold dc_C_isSweep
  refine sy_st (S' := (mj_m_44, 1, [(0, .ref 0), (1, sy_i a1)], [sy_i a1], h)) mj_d_44_0 (fun _ _ => rfl) ?_
  refine sy_ifc mj_d_44_1 rfl ⟨by omega, by omega⟩ (fun (c1 : a1 < 0) => ?_) (fun (c1 : ¬ (a1 < 0)) => ?_)
  · skip
    rw [if_pos c1]
    refine sy_st (S' := (mj_m_44, 20, [(0, .ref 0), (1, sy_i a1)], [sy_i 0], h)) mj_d_44_19 (fun _ _ => rfl) ?_
    exact sy_retb mj_d_44_20 rfl ⟨by omega, by omega⟩ ⟨rfl, rfl, by omega, by omega⟩
  · skip
    rw [if_neg c1]
    refine sy_st (S' := (mj_m_44, 5, [(0, .ref 0), (1, sy_i a1)], [sy_i a1], h)) mj_d_44_4 (fun _ _ => rfl) ?_
    refine sy_st (S' := (mj_m_44, 6, [(0, .ref 0), (1, sy_i a1)], [.ref 0, sy_i a1], h)) mj_d_44_5 (fun _ _ => rfl) ?_
    refine sy_gr2 (b := 8) mj_d_44_6 rfl rfl (by decide) rfl rfl hH ?_
    refine sy_gf mj_d_44_9 rfl rfl (by decide) rfl hH ?_
    rintro _ rfl bx2 tx2
    refine sy_icm mj_d_44_12 rfl ⟨by omega, by omega⟩ ⟨by omega, by omega⟩ (fun (c3 : (sy_rd h 8 4) ≤ a1) => ?_) (fun (c3 : ¬ ((sy_rd h 8 4) ≤ a1)) => ?_)
    · skip
      rw [if_pos c3]
      refine sy_st (S' := (mj_m_44, 20, [(0, .ref 0), (1, sy_i a1)], [sy_i 0], h)) mj_d_44_19 (fun _ _ => rfl) ?_
      exact sy_retb mj_d_44_20 rfl ⟨by omega, by omega⟩ ⟨rfl, rfl, by omega, by omega⟩
    · skip
      rw [if_neg c3]
      refine sy_st (S' := (mj_m_44, 16, [(0, .ref 0), (1, sy_i a1)], [sy_i 1], h)) mj_d_44_15 (fun _ _ => rfl) ?_
      refine sy_st (S' := (mj_m_44, 20, [(0, .ref 0), (1, sy_i a1)], [sy_i 1], h)) mj_d_44_16 (fun _ _ => rfl) ?_
      exact sy_retb mj_d_44_20 rfl ⟨by omega, by omega⟩ ⟨rfl, rfl, by omega, by omega⟩
def dc_C_areTwoSweeps (s : sg_S) (a1 a2 : Int) : Int := (if (dc_C_isSweep s a1) = 0 then 0 else (if (dc_C_isSweep s a2) = 0 then 0 else (if a1 = a2 then 0 else 1)))
set_option maxRecDepth 100000 in
theorem dt_C_areTwoSweeps {h : mj_H} (hH : sy_H h) {a1 a2 : Int} (b_a1 : (-2147483648) ≤ a1) (t_a1 : a1 ≤ 2147483647) (b_a2 : (-2147483648) ≤ a2) (t_a2 : a2 ≤ 2147483647) : sy_wp (mj_m_61, 0, [(0, .ref 0), (1, sy_i a1), (2, sy_i a2)], [], h) (dq1 h (0) (1) (dc_C_areTwoSweeps (sy_rd h) a1 a2)) := by
  unfold dc_C_areTwoSweeps
  refine sy_st (S' := (mj_m_61, 1, [(0, .ref 0), (1, sy_i a1), (2, sy_i a2)], [.ref 0], h)) mj_d_61_0 (fun _ _ => rfl) ?_
  refine sy_st (S' := (mj_m_61, 2, [(0, .ref 0), (1, sy_i a1), (2, sy_i a2)], [sy_i a1, .ref 0], h)) mj_d_61_1 (fun _ _ => rfl) ?_
  refine sy_cv (M' := mj_m_44) (vs := [.ref 0, sy_i a1]) (rest := []) mj_d_61_2 rfl rfl rfl rfl hH rfl rfl ⟨by decide, ⟨Nat.le_of_ble_eq_true rfl, Nat.le_of_ble_eq_true rfl, Nat.le_of_ble_eq_true rfl, Nat.le_of_ble_eq_true rfl, Nat.le_of_ble_eq_true rfl⟩⟩ (dt_C_isSweep (a1 := a1) hH (by omega) (by omega)) ?_
  rintro _ _ ⟨rfl, rfl, b1, b1t⟩
  have q2 := df_C_isSweep_0 (sy_rd h) a1
  show sy_wp (mj_m_61, 5, [(0, .ref 0), (1, sy_i a1), (2, sy_i a2)], [sy_i (dc_C_isSweep (sy_rd h) a1)], h) _
  refine sy_ifc mj_d_61_5 rfl ⟨by omega, by omega⟩ (fun (c3 : (dc_C_isSweep (sy_rd h) a1) = 0) => ?_) (fun (c3 : ¬ ((dc_C_isSweep (sy_rd h) a1) = 0)) => ?_)
  · skip
    rw [if_pos c3]
    refine sy_st (S' := (mj_m_61, 26, [(0, .ref 0), (1, sy_i a1), (2, sy_i a2)], [sy_i 0], h)) mj_d_61_25 (fun _ _ => rfl) ?_
    exact sy_retb mj_d_61_26 rfl ⟨by omega, by omega⟩ ⟨rfl, rfl, by omega, by omega⟩
  · skip
    rw [if_neg c3]
    refine sy_st (S' := (mj_m_61, 9, [(0, .ref 0), (1, sy_i a1), (2, sy_i a2)], [.ref 0], h)) mj_d_61_8 (fun _ _ => rfl) ?_
    refine sy_st (S' := (mj_m_61, 10, [(0, .ref 0), (1, sy_i a1), (2, sy_i a2)], [sy_i a2, .ref 0], h)) mj_d_61_9 (fun _ _ => rfl) ?_
    refine sy_cv (M' := mj_m_44) (vs := [.ref 0, sy_i a2]) (rest := []) mj_d_61_10 rfl rfl rfl rfl hH rfl rfl ⟨by decide, ⟨Nat.le_of_ble_eq_true rfl, Nat.le_of_ble_eq_true rfl, Nat.le_of_ble_eq_true rfl, Nat.le_of_ble_eq_true rfl, Nat.le_of_ble_eq_true rfl⟩⟩ (dt_C_isSweep (a1 := a2) hH (by omega) (by omega)) ?_
    rintro _ _ ⟨rfl, rfl, b4, b4t⟩
    have q5 := df_C_isSweep_0 (sy_rd h) a2
    show sy_wp (mj_m_61, 13, [(0, .ref 0), (1, sy_i a1), (2, sy_i a2)], [sy_i (dc_C_isSweep (sy_rd h) a2)], h) _
    refine sy_ifc mj_d_61_13 rfl ⟨by omega, by omega⟩ (fun (c6 : (dc_C_isSweep (sy_rd h) a2) = 0) => ?_) (fun (c6 : ¬ ((dc_C_isSweep (sy_rd h) a2) = 0)) => ?_)
    · skip
      rw [if_pos c6]
      refine sy_st (S' := (mj_m_61, 26, [(0, .ref 0), (1, sy_i a1), (2, sy_i a2)], [sy_i 0], h)) mj_d_61_25 (fun _ _ => rfl) ?_
      exact sy_retb mj_d_61_26 rfl ⟨by omega, by omega⟩ ⟨rfl, rfl, by omega, by omega⟩
    · skip
      rw [if_neg c6]
      refine sy_st (S' := (mj_m_61, 17, [(0, .ref 0), (1, sy_i a1), (2, sy_i a2)], [sy_i a1], h)) mj_d_61_16 (fun _ _ => rfl) ?_
      refine sy_st (S' := (mj_m_61, 18, [(0, .ref 0), (1, sy_i a1), (2, sy_i a2)], [sy_i a2, sy_i a1], h)) mj_d_61_17 (fun _ _ => rfl) ?_
      refine sy_icm mj_d_61_18 rfl ⟨by omega, by omega⟩ ⟨by omega, by omega⟩ (fun (c7 : a1 = a2) => ?_) (fun (c7 : ¬ (a1 = a2)) => ?_)
      · skip
        rw [if_pos c7]
        refine sy_st (S' := (mj_m_61, 26, [(0, .ref 0), (1, sy_i a1), (2, sy_i a2)], [sy_i 0], h)) mj_d_61_25 (fun _ _ => rfl) ?_
        exact sy_retb mj_d_61_26 rfl ⟨by omega, by omega⟩ ⟨rfl, rfl, by omega, by omega⟩
      · skip
        rw [if_neg c7]
        refine sy_st (S' := (mj_m_61, 22, [(0, .ref 0), (1, sy_i a1), (2, sy_i a2)], [sy_i 1], h)) mj_d_61_21 (fun _ _ => rfl) ?_
        refine sy_st (S' := (mj_m_61, 26, [(0, .ref 0), (1, sy_i a1), (2, sy_i a2)], [sy_i 1], h)) mj_d_61_22 (fun _ _ => rfl) ?_
        exact sy_retb mj_d_61_26 rfl ⟨by omega, by omega⟩ ⟨rfl, rfl, by omega, by omega⟩
def dc_C_refusalOfMonths (s : sg_S) (a1 : Int) : Int := (if a1 < 1 then (-1000000002) else (if a1 ≤ 30 then (if (s 8 0) = 0 then (-1000000003) else (if (s 13 5) ≤ 9000 then 0 else (-1000000004))) else (-1000000002)))
theorem df_C_refusalOfMonths_0 (s : sg_S) (a1 : Int) : dc_C_refusalOfMonths s a1 = 0 → 1 ≤ a1 ∧ a1 ≤ 30 := by
  unfold dc_C_refusalOfMonths
  (repeat' split) <;> omega
set_option maxRecDepth 100000 in
theorem dt_C_refusalOfMonths {h : mj_H} (hH : sy_H h) {a1 : Int} (b_a1 : (-2147483648) ≤ a1) (t_a1 : a1 ≤ 2147483647) : sy_wp (mj_m_46, 0, [(0, .ref 0), (1, sy_i a1)], [], h) (dq1 h (-1000000004) (0) (dc_C_refusalOfMonths (sy_rd h) a1)) := by
  unfold dc_C_refusalOfMonths
  refine sy_st (S' := (mj_m_46, 1, [(0, .ref 0), (1, sy_i a1)], [sy_i a1], h)) mj_d_46_0 (fun _ _ => rfl) ?_
  refine sy_st (S' := (mj_m_46, 2, [(0, .ref 0), (1, sy_i a1)], [sy_i 1, sy_i a1], h)) mj_d_46_1 (fun _ _ => rfl) ?_
  refine sy_icm mj_d_46_2 rfl ⟨by omega, by omega⟩ ⟨by omega, by omega⟩ (fun (c1 : a1 < 1) => ?_) (fun (c1 : ¬ (a1 < 1)) => ?_)
  · skip
    rw [if_pos c1]
    refine sy_ldc (n := -1000000002) mj_d_46_11 rfl (by decide) ?_
    exact sy_reti mj_d_46_13 rfl ⟨rfl, rfl, by omega, by omega⟩
  · skip
    rw [if_neg c1]
    refine sy_st (S' := (mj_m_46, 6, [(0, .ref 0), (1, sy_i a1)], [sy_i a1], h)) mj_d_46_5 (fun _ _ => rfl) ?_
    refine sy_bip mj_d_46_6 (by decide) ?_
    refine sy_icm mj_d_46_8 rfl ⟨by omega, by omega⟩ ⟨by omega, by omega⟩ (fun (c2 : a1 ≤ 30) => ?_) (fun (c2 : ¬ (a1 ≤ 30)) => ?_)
    · skip
      rw [if_pos c2]
      refine sy_st (S' := (mj_m_46, 15, [(0, .ref 0), (1, sy_i a1)], [.ref 0], h)) mj_d_46_14 (fun _ _ => rfl) ?_
      refine sy_gr2 (b := 8) mj_d_46_15 rfl rfl (by decide) rfl rfl hH ?_
      refine sy_gf mj_d_46_18 rfl rfl (by decide) rfl hH ?_
      rintro _ rfl bx3 tx3
      refine sy_ifc mj_d_46_21 rfl ⟨by omega, by omega⟩ (fun (c4 : ¬ ((sy_rd h 8 0) = 0)) => ?_) (fun (c4 : ¬ ¬ ((sy_rd h 8 0) = 0)) => ?_)
      · skip
        rw [if_neg c4]
        refine sy_st (S' := (mj_m_46, 28, [(0, .ref 0), (1, sy_i a1)], [.ref 0], h)) mj_d_46_27 (fun _ _ => rfl) ?_
        refine sy_gr2 (b := 13) mj_d_46_28 rfl rfl (by decide) rfl rfl hH ?_
        refine sy_gf mj_d_46_31 rfl rfl (by decide) rfl hH ?_
        rintro _ rfl bx5 tx5
        refine sy_sip mj_d_46_34 (by decide) ?_
        refine sy_icm mj_d_46_37 rfl ⟨by omega, by omega⟩ ⟨by omega, by omega⟩ (fun (c6 : (sy_rd h 13 5) ≤ 9000) => ?_) (fun (c6 : ¬ ((sy_rd h 13 5) ≤ 9000)) => ?_)
        · skip
          rw [if_pos c6]
          refine sy_st (S' := (mj_m_46, 47, [(0, .ref 0), (1, sy_i a1)], [sy_i 0], h)) mj_d_46_46 (fun _ _ => rfl) ?_
          exact sy_reti mj_d_46_47 rfl ⟨rfl, rfl, by omega, by omega⟩
        · skip
          rw [if_neg c6]
          refine sy_ldcw (n := -1000000004) mj_d_46_40 rfl (by decide) ?_
          refine sy_st (S' := (mj_m_46, 47, [(0, .ref 0), (1, sy_i a1)], [sy_i (-1000000004)], h)) mj_d_46_43 (fun _ _ => rfl) ?_
          exact sy_reti mj_d_46_47 rfl ⟨rfl, rfl, by omega, by omega⟩
      · skip
        rw [if_pos (Decidable.not_not.mp c4)]
        replace c4 := Decidable.not_not.mp c4
        refine sy_ldc (n := -1000000003) mj_d_46_24 rfl (by decide) ?_
        exact sy_reti mj_d_46_26 rfl ⟨rfl, rfl, by omega, by omega⟩
    · skip
      rw [if_neg c2]
      refine sy_ldc (n := -1000000002) mj_d_46_11 rfl (by decide) ?_
      exact sy_reti mj_d_46_13 rfl ⟨rfl, rfl, by omega, by omega⟩
def dc_C_draw (s : sg_S) (a1 : Int) : sg_S × Int := (if 1 ≤ a1 then ((sg_up s 0 9 (sy_and (((s 0 9) * 1103515245) + 12345) 2147483647)), (((sy_and (((s 0 9) * 1103515245) + 12345) 2147483647) / 65536) % a1)) else ((sg_up s 0 9 (sy_and (((s 0 9) * 1103515245) + 12345) 2147483647)), 0))
set_option maxRecDepth 100000 in
theorem dt_C_draw {h : mj_H} (hH : sy_H h) {a1 : Int} (b_a1 : (-2147483648) ≤ a1) (t_a1 : a1 ≤ 2147483647) : sy_wp (mj_m_67, 0, [(0, .ref 0), (1, sy_i a1)], [], h) (dq2 (0) (max (a1 - 1) 0) (dc_C_draw (sy_rd h) a1)) := by
  unfold dc_C_draw
  refine sy_st (S' := (mj_m_67, 1, [(0, .ref 0), (1, sy_i a1)], [.ref 0], h)) mj_d_67_0 (fun _ _ => rfl) ?_
  refine sy_st (S' := (mj_m_67, 2, [(0, .ref 0), (1, sy_i a1)], [.ref 0, .ref 0], h)) mj_d_67_1 (fun _ _ => rfl) ?_
  refine sy_gf mj_d_67_2 rfl rfl (by decide) rfl hH ?_
  rintro _ rfl bx1 tx1
  refine sy_ldcw (n := 1103515245) mj_d_67_5 rfl (by decide) ?_
  refine sy_mul mj_d_67_8 ?_
  refine sy_sip mj_d_67_9 (by decide) ?_
  refine sy_add mj_d_67_12 ?_
  refine sy_ldcw (n := 2147483647) mj_d_67_13 rfl (by decide) ?_
  refine sy_iand mj_d_67_16 ?_
  have q2 := sg_and_f (((sy_rd h 0 9) * 1103515245) + 12345) 2147483647
  refine sg_pf (z := (sy_and (((sy_rd h 0 9) * 1103515245) + 12345) 2147483647)) mj_d_67_17 rfl rfl (by decide) (Or.inl rfl) rfl hH (by omega) (by omega) ⟨by omega, by omega⟩ ?_
  intro h3 th3 eh3
  refine sy_st (S' := (mj_m_67, 21, [(0, .ref 0), (1, sy_i a1)], [sy_i a1], h3)) mj_d_67_20 (fun _ _ => rfl) ?_
  refine sy_st (S' := (mj_m_67, 22, [(0, .ref 0), (1, sy_i a1)], [sy_i 1, sy_i a1], h3)) mj_d_67_21 (fun _ _ => rfl) ?_
  refine sy_icm mj_d_67_22 rfl ⟨by omega, by omega⟩ ⟨by omega, by omega⟩ (fun (c4 : 1 ≤ a1) => ?_) (fun (c4 : ¬ (1 ≤ a1)) => ?_)
  · skip
    rw [if_pos c4]
    refine sy_st (S' := (mj_m_67, 30, [(0, .ref 0), (1, sy_i a1)], [.ref 0], h3)) mj_d_67_29 (fun _ _ => rfl) ?_
    refine sy_gf mj_d_67_30 rfl rfl (by decide) rfl th3 ?_
    intro x5 ex5 bx5 tx5
    rw [eh3, sg_eq] at ex5
    subst ex5
    refine sy_ldcw (n := 65536) mj_d_67_33 rfl (by decide) ?_
    refine sy_div mj_d_67_36 ⟨by omega, by omega⟩ ⟨by omega, by omega⟩ ?_
    refine sy_st (S' := (mj_m_67, 38, [(0, .ref 0), (1, sy_i a1)], [sy_i a1, sy_i ((sy_and (((sy_rd h 0 9) * 1103515245) + 12345) 2147483647) / 65536)], h3)) mj_d_67_37 (fun _ _ => rfl) ?_
    refine sy_rem mj_d_67_38 ⟨by omega, by omega⟩ ⟨by omega, by omega⟩ ?_
    have q6 := sg_rem_f ((sy_and (((sy_rd h 0 9) * 1103515245) + 12345) 2147483647) / 65536) a1
    exact sy_reti mj_d_67_39 rfl ⟨th3, eh3, rfl, by omega, by omega⟩
  · skip
    rw [if_neg c4]
    refine sy_st (S' := (mj_m_67, 26, [(0, .ref 0), (1, sy_i a1)], [sy_i 0], h3)) mj_d_67_25 (fun _ _ => rfl) ?_
    refine sy_st (S' := (mj_m_67, 39, [(0, .ref 0), (1, sy_i a1)], [sy_i 0], h3)) mj_d_67_26 (fun _ _ => rfl) ?_
    exact sy_reti mj_d_67_39 rfl ⟨th3, eh3, rfl, by omega, by omega⟩
def dc_C_passDrawnMonth (s : sg_S) : sg_S := (if (s 8 3) ≤ 0 then (if ((dc_C_draw s 4).2) = 0 then (dc_St_washOff (dc_St_passMonth (dc_C_draw s 4).1) ((dc_St_passMonth (dc_C_draw s 4).1) 8 2)).1 else (dc_St_passMonth (dc_C_draw s 4).1)) else (if (dc_C_isHouse (dc_C_draw (dc_C_draw s (s 8 3)).1 8).1 ((dc_C_draw s (s 8 3)).2)) = 0 then (if ((dc_C_draw (dc_C_draw (dc_C_draw s (s 8 3)).1 8).1 4).2) = 0 then (dc_St_washOff (dc_St_passMonth (dc_C_draw (dc_C_draw (dc_C_draw s (s 8 3)).1 8).1 4).1) ((dc_St_passMonth (dc_C_draw (dc_C_draw (dc_C_draw s (s 8 3)).1 8).1 4).1) 8 2)).1 else (dc_St_passMonth (dc_C_draw (dc_C_draw (dc_C_draw s (s 8 3)).1 8).1 4).1)) else (if ((dc_C_draw (sg_up (dc_C_draw (dc_C_draw s (s 8 3)).1 8).1 15 (((dc_C_draw s (s 8 3)).2).toNat) ((dc_C_draw (dc_C_draw s (s 8 3)).1 8).2)) 4).2) = 0 then (dc_St_washOff (dc_St_passMonth (dc_C_draw (sg_up (dc_C_draw (dc_C_draw s (s 8 3)).1 8).1 15 (((dc_C_draw s (s 8 3)).2).toNat) ((dc_C_draw (dc_C_draw s (s 8 3)).1 8).2)) 4).1) ((dc_St_passMonth (dc_C_draw (sg_up (dc_C_draw (dc_C_draw s (s 8 3)).1 8).1 15 (((dc_C_draw s (s 8 3)).2).toNat) ((dc_C_draw (dc_C_draw s (s 8 3)).1 8).2)) 4).1) 8 2)).1 else (dc_St_passMonth (dc_C_draw (sg_up (dc_C_draw (dc_C_draw s (s 8 3)).1 8).1 15 (((dc_C_draw s (s 8 3)).2).toNat) ((dc_C_draw (dc_C_draw s (s 8 3)).1 8).2)) 4).1))))
set_option maxRecDepth 100000 in
theorem dt_C_passDrawnMonth {h : mj_H} (hH : sy_H h) : sy_wp (mj_m_66, 0, [(0, .ref 0)], [], h) (dq3 (dc_C_passDrawnMonth (sy_rd h))) := by
  unfold dc_C_passDrawnMonth
  have n8_3 := hH.bd (a := 8) (k := 3) rfl (by decide) rfl
  refine sy_st (S' := (mj_m_66, 1, [(0, .ref 0)], [.ref 0], h)) mj_d_66_0 (fun _ _ => rfl) ?_
  refine sy_gr2 (b := 8) mj_d_66_1 rfl rfl (by decide) rfl rfl hH ?_
  refine sy_gf mj_d_66_4 rfl rfl (by decide) rfl hH ?_
  rintro _ rfl bx1 tx1
  refine sy_ifc mj_d_66_7 rfl ⟨by omega, by omega⟩ (fun (c2 : (sy_rd h 8 3) ≤ 0) => ?_) (fun (c2 : ¬ ((sy_rd h 8 3) ≤ 0)) => ?_)
  · skip
    rw [if_pos c2]
    refine sy_st (S' := (mj_m_66, 48, [(0, .ref 0)], [.ref 0], h)) mj_d_66_47 (fun _ _ => rfl) ?_
    refine sy_st (S' := (mj_m_66, 49, [(0, .ref 0)], [sy_i 4, .ref 0], h)) mj_d_66_48 (fun _ _ => rfl) ?_
    refine sy_cv (M' := mj_m_67) (vs := [.ref 0, sy_i 4]) (rest := []) mj_d_66_49 rfl rfl rfl rfl hH rfl rfl ⟨by decide, ⟨Nat.le_of_ble_eq_true rfl, Nat.le_of_ble_eq_true rfl, Nat.le_of_ble_eq_true rfl, Nat.le_of_ble_eq_true rfl, Nat.le_of_ble_eq_true rfl⟩⟩ (dt_C_draw (a1 := 4) hH (by omega) (by omega)) ?_
    rintro _ h3 ⟨th3, eh3, rfl, b4, b4t⟩
    show sy_wp (mj_m_66, 52, [(0, .ref 0)], [sy_i ((dc_C_draw (sy_rd h) 4).2)], h3) _
    refine sy_ifc mj_d_66_52 rfl ⟨by omega, by omega⟩ (fun (c5 : ¬ (((dc_C_draw (sy_rd h) 4).2) = 0)) => ?_) (fun (c5 : ¬ ¬ (((dc_C_draw (sy_rd h) 4).2) = 0)) => ?_)
    · skip
      rw [if_neg c5]
      refine sy_st (S' := (mj_m_66, 60, [(0, .ref 0)], [sy_i 0], h3)) mj_d_66_59 (fun _ _ => rfl) ?_
      refine sy_st (S' := (mj_m_66, 61, [(1, sy_i 0), (0, .ref 0)], [], h3)) mj_d_66_60 (fun _ _ => rfl) ?_
      refine sy_st (S' := (mj_m_66, 62, [(1, sy_i 0), (0, .ref 0)], [.ref 0], h3)) mj_d_66_61 (fun _ _ => rfl) ?_
      refine sy_gr2 (b := 13) mj_d_66_62 rfl rfl (by decide) rfl rfl th3 ?_
      refine sy_st (S' := (mj_m_66, 66, [(1, sy_i 0), (0, .ref 0)], [.ref 0, .ref 13], h3)) mj_d_66_65 (fun _ _ => rfl) ?_
      refine sy_gr2 (b := 8) mj_d_66_66 rfl rfl (by decide) rfl rfl th3 ?_
      refine sy_cv (M' := mj_m_50) (vs := [.ref 13, .ref 8]) (rest := []) mj_d_66_69 rfl rfl rfl rfl th3 rfl rfl ⟨by decide, ⟨Nat.le_of_ble_eq_true rfl, Nat.le_of_ble_eq_true rfl, Nat.le_of_ble_eq_true rfl, Nat.le_of_ble_eq_true rfl, Nat.le_of_ble_eq_true rfl⟩⟩ (dt_St_passMonth th3) ?_
      rintro _ h6 ⟨rfl, th6, eh6⟩
      rw [eh3] at eh6
      show sy_wp (mj_m_66, 72, [(1, sy_i 0), (0, .ref 0)], [], h6) _
      refine sy_st (S' := (mj_m_66, 73, [(1, sy_i 0), (0, .ref 0)], [sy_i 0], h6)) mj_d_66_72 (fun _ _ => rfl) ?_
      refine sy_ifc mj_d_66_73 rfl ⟨by omega, by omega⟩ (fun _ => ?_) (fun (q : ¬ ((0 : Int) = 0)) => absurd (by decide) q)
      exact sy_retv mj_d_66_91 rfl ⟨rfl, th6, eh6⟩
    · skip
      rw [if_pos (Decidable.not_not.mp c5)]
      replace c5 := Decidable.not_not.mp c5
      refine sy_st (S' := (mj_m_66, 56, [(0, .ref 0)], [sy_i 1], h3)) mj_d_66_55 (fun _ _ => rfl) ?_
      refine sy_st (S' := (mj_m_66, 60, [(0, .ref 0)], [sy_i 1], h3)) mj_d_66_56 (fun _ _ => rfl) ?_
      refine sy_st (S' := (mj_m_66, 61, [(1, sy_i 1), (0, .ref 0)], [], h3)) mj_d_66_60 (fun _ _ => rfl) ?_
      refine sy_st (S' := (mj_m_66, 62, [(1, sy_i 1), (0, .ref 0)], [.ref 0], h3)) mj_d_66_61 (fun _ _ => rfl) ?_
      refine sy_gr2 (b := 13) mj_d_66_62 rfl rfl (by decide) rfl rfl th3 ?_
      refine sy_st (S' := (mj_m_66, 66, [(1, sy_i 1), (0, .ref 0)], [.ref 0, .ref 13], h3)) mj_d_66_65 (fun _ _ => rfl) ?_
      refine sy_gr2 (b := 8) mj_d_66_66 rfl rfl (by decide) rfl rfl th3 ?_
      refine sy_cv (M' := mj_m_50) (vs := [.ref 13, .ref 8]) (rest := []) mj_d_66_69 rfl rfl rfl rfl th3 rfl rfl ⟨by decide, ⟨Nat.le_of_ble_eq_true rfl, Nat.le_of_ble_eq_true rfl, Nat.le_of_ble_eq_true rfl, Nat.le_of_ble_eq_true rfl, Nat.le_of_ble_eq_true rfl⟩⟩ (dt_St_passMonth th3) ?_
      rintro _ h8 ⟨rfl, th8, eh8⟩
      rw [eh3] at eh8
      show sy_wp (mj_m_66, 72, [(1, sy_i 1), (0, .ref 0)], [], h8) _
      refine sy_st (S' := (mj_m_66, 73, [(1, sy_i 1), (0, .ref 0)], [sy_i 1], h8)) mj_d_66_72 (fun _ _ => rfl) ?_
      refine sy_ifc mj_d_66_73 rfl ⟨by omega, by omega⟩ (fun (q : (1 : Int) = 0) => absurd q (by decide)) (fun _ => ?_)
      refine sy_st (S' := (mj_m_66, 77, [(1, sy_i 1), (0, .ref 0)], [.ref 0], h8)) mj_d_66_76 (fun _ _ => rfl) ?_
      refine sy_gr2 (b := 13) mj_d_66_77 rfl rfl (by decide) rfl rfl th8 ?_
      refine sy_st (S' := (mj_m_66, 81, [(1, sy_i 1), (0, .ref 0)], [.ref 0, .ref 13], h8)) mj_d_66_80 (fun _ _ => rfl) ?_
      refine sy_gr2 (b := 8) mj_d_66_81 rfl rfl (by decide) rfl rfl th8 ?_
      refine sy_gf mj_d_66_84 rfl rfl (by decide) rfl th8 ?_
      intro x10 ex10 bx10 tx10
      rw [eh8] at ex10
      subst ex10
      refine sy_cv (M' := mj_m_56) (vs := [.ref 13, sy_i ((dc_St_passMonth (dc_C_draw (sy_rd h) 4).1) 8 2)]) (rest := []) mj_d_66_87 rfl rfl rfl rfl th8 rfl rfl ⟨by decide, ⟨Nat.le_of_ble_eq_true rfl, Nat.le_of_ble_eq_true rfl, Nat.le_of_ble_eq_true rfl, Nat.le_of_ble_eq_true rfl, Nat.le_of_ble_eq_true rfl⟩⟩ (dt_St_washOff (a1 := ((dc_St_passMonth (dc_C_draw (sy_rd h) 4).1) 8 2)) th8 (by omega) (by omega)) ?_
      rintro _ h11 ⟨th11, eh11, rfl, b12, b12t⟩
      rw [eh8] at eh11 b12 b12t ⊢
      show sy_wp (mj_m_66, 90, [(1, sy_i 1), (0, .ref 0)], [sy_i ((dc_St_washOff (dc_St_passMonth (dc_C_draw (sy_rd h) 4).1) ((dc_St_passMonth (dc_C_draw (sy_rd h) 4).1) 8 2)).2)], h11) _
      refine sy_st (S' := (mj_m_66, 91, [(1, sy_i 1), (0, .ref 0)], [], h11)) mj_d_66_90 (fun _ _ => rfl) ?_
      exact sy_retv mj_d_66_91 rfl ⟨rfl, th11, eh11⟩
  · skip
    rw [if_neg c2]
    refine sy_st (S' := (mj_m_66, 11, [(0, .ref 0)], [.ref 0], h)) mj_d_66_10 (fun _ _ => rfl) ?_
    refine sy_st (S' := (mj_m_66, 12, [(0, .ref 0)], [.ref 0, .ref 0], h)) mj_d_66_11 (fun _ _ => rfl) ?_
    refine sy_gr2 (b := 8) mj_d_66_12 rfl rfl (by decide) rfl rfl hH ?_
    refine sy_gf mj_d_66_15 rfl rfl (by decide) rfl hH ?_
    rintro _ rfl bx13 tx13
    refine sy_cv (M' := mj_m_67) (vs := [.ref 0, sy_i (sy_rd h 8 3)]) (rest := []) mj_d_66_18 rfl rfl rfl rfl hH rfl rfl ⟨by decide, ⟨Nat.le_of_ble_eq_true rfl, Nat.le_of_ble_eq_true rfl, Nat.le_of_ble_eq_true rfl, Nat.le_of_ble_eq_true rfl, Nat.le_of_ble_eq_true rfl⟩⟩ (dt_C_draw (a1 := (sy_rd h 8 3)) hH (by omega) (by omega)) ?_
    rintro _ h14 ⟨th14, eh14, rfl, b15, b15t⟩
    show sy_wp (mj_m_66, 21, [(0, .ref 0)], [sy_i ((dc_C_draw (sy_rd h) (sy_rd h 8 3)).2)], h14) _
    refine sy_st (S' := (mj_m_66, 22, [(1, sy_i ((dc_C_draw (sy_rd h) (sy_rd h 8 3)).2)), (0, .ref 0)], [], h14)) mj_d_66_21 (fun _ _ => rfl) ?_
    refine sy_st (S' := (mj_m_66, 23, [(1, sy_i ((dc_C_draw (sy_rd h) (sy_rd h 8 3)).2)), (0, .ref 0)], [.ref 0], h14)) mj_d_66_22 (fun _ _ => rfl) ?_
    refine sy_bip mj_d_66_23 (by decide) ?_
    refine sy_cv (M' := mj_m_67) (vs := [.ref 0, sy_i 8]) (rest := []) mj_d_66_25 rfl rfl rfl rfl th14 rfl rfl ⟨by decide, ⟨Nat.le_of_ble_eq_true rfl, Nat.le_of_ble_eq_true rfl, Nat.le_of_ble_eq_true rfl, Nat.le_of_ble_eq_true rfl, Nat.le_of_ble_eq_true rfl⟩⟩ (dt_C_draw (a1 := 8) th14 (by omega) (by omega)) ?_
    rintro _ h16 ⟨th16, eh16, rfl, b17, b17t⟩
    rw [eh14] at eh16 b17 b17t ⊢
    show sy_wp (mj_m_66, 28, [(1, sy_i ((dc_C_draw (sy_rd h) (sy_rd h 8 3)).2)), (0, .ref 0)], [sy_i ((dc_C_draw (dc_C_draw (sy_rd h) (sy_rd h 8 3)).1 8).2)], h16) _
    refine sy_st (S' := (mj_m_66, 29, [(2, sy_i ((dc_C_draw (dc_C_draw (sy_rd h) (sy_rd h 8 3)).1 8).2)), (1, sy_i ((dc_C_draw (sy_rd h) (sy_rd h 8 3)).2)), (0, .ref 0)], [], h16)) mj_d_66_28 (fun _ _ => rfl) ?_
    refine sy_st (S' := (mj_m_66, 30, [(2, sy_i ((dc_C_draw (dc_C_draw (sy_rd h) (sy_rd h 8 3)).1 8).2)), (1, sy_i ((dc_C_draw (sy_rd h) (sy_rd h 8 3)).2)), (0, .ref 0)], [.ref 0], h16)) mj_d_66_29 (fun _ _ => rfl) ?_
    refine sy_st (S' := (mj_m_66, 31, [(2, sy_i ((dc_C_draw (dc_C_draw (sy_rd h) (sy_rd h 8 3)).1 8).2)), (1, sy_i ((dc_C_draw (sy_rd h) (sy_rd h 8 3)).2)), (0, .ref 0)], [sy_i ((dc_C_draw (sy_rd h) (sy_rd h 8 3)).2), .ref 0], h16)) mj_d_66_30 (fun _ _ => rfl) ?_
    refine sy_cv (M' := mj_m_39) (vs := [.ref 0, sy_i ((dc_C_draw (sy_rd h) (sy_rd h 8 3)).2)]) (rest := []) mj_d_66_31 rfl rfl rfl rfl th16 rfl rfl ⟨by decide, ⟨Nat.le_of_ble_eq_true rfl, Nat.le_of_ble_eq_true rfl, Nat.le_of_ble_eq_true rfl, Nat.le_of_ble_eq_true rfl, Nat.le_of_ble_eq_true rfl⟩⟩ (dt_C_isHouse (a1 := (dc_C_draw (sy_rd h) (sy_rd h 8 3)).2) th16 (by omega) (by omega)) ?_
    rintro _ _ ⟨rfl, rfl, b18, b18t⟩
    rw [eh16] at b18 b18t ⊢
    have q19 := df_C_isHouse_0 (dc_C_draw (dc_C_draw (sy_rd h) (sy_rd h 8 3)).1 8).1 ((dc_C_draw (sy_rd h) (sy_rd h 8 3)).2)
    show sy_wp (mj_m_66, 34, [(2, sy_i ((dc_C_draw (dc_C_draw (sy_rd h) (sy_rd h 8 3)).1 8).2)), (1, sy_i ((dc_C_draw (sy_rd h) (sy_rd h 8 3)).2)), (0, .ref 0)], [sy_i (dc_C_isHouse (dc_C_draw (dc_C_draw (sy_rd h) (sy_rd h 8 3)).1 8).1 ((dc_C_draw (sy_rd h) (sy_rd h 8 3)).2))], h16) _
    refine sy_ifc mj_d_66_34 rfl ⟨by omega, by omega⟩ (fun (c20 : (dc_C_isHouse (dc_C_draw (dc_C_draw (sy_rd h) (sy_rd h 8 3)).1 8).1 ((dc_C_draw (sy_rd h) (sy_rd h 8 3)).2)) = 0) => ?_) (fun (c20 : ¬ ((dc_C_isHouse (dc_C_draw (dc_C_draw (sy_rd h) (sy_rd h 8 3)).1 8).1 ((dc_C_draw (sy_rd h) (sy_rd h 8 3)).2)) = 0)) => ?_)
    · skip
      rw [if_pos c20]
      refine sy_st (S' := (mj_m_66, 48, [(2, sy_i ((dc_C_draw (dc_C_draw (sy_rd h) (sy_rd h 8 3)).1 8).2)), (1, sy_i ((dc_C_draw (sy_rd h) (sy_rd h 8 3)).2)), (0, .ref 0)], [.ref 0], h16)) mj_d_66_47 (fun _ _ => rfl) ?_
      refine sy_st (S' := (mj_m_66, 49, [(2, sy_i ((dc_C_draw (dc_C_draw (sy_rd h) (sy_rd h 8 3)).1 8).2)), (1, sy_i ((dc_C_draw (sy_rd h) (sy_rd h 8 3)).2)), (0, .ref 0)], [sy_i 4, .ref 0], h16)) mj_d_66_48 (fun _ _ => rfl) ?_
      refine sy_cv (M' := mj_m_67) (vs := [.ref 0, sy_i 4]) (rest := []) mj_d_66_49 rfl rfl rfl rfl th16 rfl rfl ⟨by decide, ⟨Nat.le_of_ble_eq_true rfl, Nat.le_of_ble_eq_true rfl, Nat.le_of_ble_eq_true rfl, Nat.le_of_ble_eq_true rfl, Nat.le_of_ble_eq_true rfl⟩⟩ (dt_C_draw (a1 := 4) th16 (by omega) (by omega)) ?_
      rintro _ h21 ⟨th21, eh21, rfl, b22, b22t⟩
      rw [eh16] at eh21 b22 b22t ⊢
      show sy_wp (mj_m_66, 52, [(2, sy_i ((dc_C_draw (dc_C_draw (sy_rd h) (sy_rd h 8 3)).1 8).2)), (1, sy_i ((dc_C_draw (sy_rd h) (sy_rd h 8 3)).2)), (0, .ref 0)], [sy_i ((dc_C_draw (dc_C_draw (dc_C_draw (sy_rd h) (sy_rd h 8 3)).1 8).1 4).2)], h21) _
      refine sy_ifc mj_d_66_52 rfl ⟨by omega, by omega⟩ (fun (c23 : ¬ (((dc_C_draw (dc_C_draw (dc_C_draw (sy_rd h) (sy_rd h 8 3)).1 8).1 4).2) = 0)) => ?_) (fun (c23 : ¬ ¬ (((dc_C_draw (dc_C_draw (dc_C_draw (sy_rd h) (sy_rd h 8 3)).1 8).1 4).2) = 0)) => ?_)
      · skip
        rw [if_neg c23]
        refine sy_st (S' := (mj_m_66, 60, [(2, sy_i ((dc_C_draw (dc_C_draw (sy_rd h) (sy_rd h 8 3)).1 8).2)), (1, sy_i ((dc_C_draw (sy_rd h) (sy_rd h 8 3)).2)), (0, .ref 0)], [sy_i 0], h21)) mj_d_66_59 (fun _ _ => rfl) ?_
        refine sy_st (S' := (mj_m_66, 61, [(1, sy_i 0), (2, sy_i ((dc_C_draw (dc_C_draw (sy_rd h) (sy_rd h 8 3)).1 8).2)), (0, .ref 0)], [], h21)) mj_d_66_60 (fun _ _ => rfl) ?_
        refine sy_st (S' := (mj_m_66, 62, [(1, sy_i 0), (2, sy_i ((dc_C_draw (dc_C_draw (sy_rd h) (sy_rd h 8 3)).1 8).2)), (0, .ref 0)], [.ref 0], h21)) mj_d_66_61 (fun _ _ => rfl) ?_
        refine sy_gr2 (b := 13) mj_d_66_62 rfl rfl (by decide) rfl rfl th21 ?_
        refine sy_st (S' := (mj_m_66, 66, [(1, sy_i 0), (2, sy_i ((dc_C_draw (dc_C_draw (sy_rd h) (sy_rd h 8 3)).1 8).2)), (0, .ref 0)], [.ref 0, .ref 13], h21)) mj_d_66_65 (fun _ _ => rfl) ?_
        refine sy_gr2 (b := 8) mj_d_66_66 rfl rfl (by decide) rfl rfl th21 ?_
        refine sy_cv (M' := mj_m_50) (vs := [.ref 13, .ref 8]) (rest := []) mj_d_66_69 rfl rfl rfl rfl th21 rfl rfl ⟨by decide, ⟨Nat.le_of_ble_eq_true rfl, Nat.le_of_ble_eq_true rfl, Nat.le_of_ble_eq_true rfl, Nat.le_of_ble_eq_true rfl, Nat.le_of_ble_eq_true rfl⟩⟩ (dt_St_passMonth th21) ?_
        rintro _ h24 ⟨rfl, th24, eh24⟩
        rw [eh21] at eh24
        show sy_wp (mj_m_66, 72, [(1, sy_i 0), (2, sy_i ((dc_C_draw (dc_C_draw (sy_rd h) (sy_rd h 8 3)).1 8).2)), (0, .ref 0)], [], h24) _
        refine sy_st (S' := (mj_m_66, 73, [(1, sy_i 0), (2, sy_i ((dc_C_draw (dc_C_draw (sy_rd h) (sy_rd h 8 3)).1 8).2)), (0, .ref 0)], [sy_i 0], h24)) mj_d_66_72 (fun _ _ => rfl) ?_
        refine sy_ifc mj_d_66_73 rfl ⟨by omega, by omega⟩ (fun _ => ?_) (fun (q : ¬ ((0 : Int) = 0)) => absurd (by decide) q)
        exact sy_retv mj_d_66_91 rfl ⟨rfl, th24, eh24⟩
      · skip
        rw [if_pos (Decidable.not_not.mp c23)]
        replace c23 := Decidable.not_not.mp c23
        refine sy_st (S' := (mj_m_66, 56, [(2, sy_i ((dc_C_draw (dc_C_draw (sy_rd h) (sy_rd h 8 3)).1 8).2)), (1, sy_i ((dc_C_draw (sy_rd h) (sy_rd h 8 3)).2)), (0, .ref 0)], [sy_i 1], h21)) mj_d_66_55 (fun _ _ => rfl) ?_
        refine sy_st (S' := (mj_m_66, 60, [(2, sy_i ((dc_C_draw (dc_C_draw (sy_rd h) (sy_rd h 8 3)).1 8).2)), (1, sy_i ((dc_C_draw (sy_rd h) (sy_rd h 8 3)).2)), (0, .ref 0)], [sy_i 1], h21)) mj_d_66_56 (fun _ _ => rfl) ?_
        refine sy_st (S' := (mj_m_66, 61, [(1, sy_i 1), (2, sy_i ((dc_C_draw (dc_C_draw (sy_rd h) (sy_rd h 8 3)).1 8).2)), (0, .ref 0)], [], h21)) mj_d_66_60 (fun _ _ => rfl) ?_
        refine sy_st (S' := (mj_m_66, 62, [(1, sy_i 1), (2, sy_i ((dc_C_draw (dc_C_draw (sy_rd h) (sy_rd h 8 3)).1 8).2)), (0, .ref 0)], [.ref 0], h21)) mj_d_66_61 (fun _ _ => rfl) ?_
        refine sy_gr2 (b := 13) mj_d_66_62 rfl rfl (by decide) rfl rfl th21 ?_
        refine sy_st (S' := (mj_m_66, 66, [(1, sy_i 1), (2, sy_i ((dc_C_draw (dc_C_draw (sy_rd h) (sy_rd h 8 3)).1 8).2)), (0, .ref 0)], [.ref 0, .ref 13], h21)) mj_d_66_65 (fun _ _ => rfl) ?_
        refine sy_gr2 (b := 8) mj_d_66_66 rfl rfl (by decide) rfl rfl th21 ?_
        refine sy_cv (M' := mj_m_50) (vs := [.ref 13, .ref 8]) (rest := []) mj_d_66_69 rfl rfl rfl rfl th21 rfl rfl ⟨by decide, ⟨Nat.le_of_ble_eq_true rfl, Nat.le_of_ble_eq_true rfl, Nat.le_of_ble_eq_true rfl, Nat.le_of_ble_eq_true rfl, Nat.le_of_ble_eq_true rfl⟩⟩ (dt_St_passMonth th21) ?_
        rintro _ h26 ⟨rfl, th26, eh26⟩
        rw [eh21] at eh26
        show sy_wp (mj_m_66, 72, [(1, sy_i 1), (2, sy_i ((dc_C_draw (dc_C_draw (sy_rd h) (sy_rd h 8 3)).1 8).2)), (0, .ref 0)], [], h26) _
        refine sy_st (S' := (mj_m_66, 73, [(1, sy_i 1), (2, sy_i ((dc_C_draw (dc_C_draw (sy_rd h) (sy_rd h 8 3)).1 8).2)), (0, .ref 0)], [sy_i 1], h26)) mj_d_66_72 (fun _ _ => rfl) ?_
        refine sy_ifc mj_d_66_73 rfl ⟨by omega, by omega⟩ (fun (q : (1 : Int) = 0) => absurd q (by decide)) (fun _ => ?_)
        refine sy_st (S' := (mj_m_66, 77, [(1, sy_i 1), (2, sy_i ((dc_C_draw (dc_C_draw (sy_rd h) (sy_rd h 8 3)).1 8).2)), (0, .ref 0)], [.ref 0], h26)) mj_d_66_76 (fun _ _ => rfl) ?_
        refine sy_gr2 (b := 13) mj_d_66_77 rfl rfl (by decide) rfl rfl th26 ?_
        refine sy_st (S' := (mj_m_66, 81, [(1, sy_i 1), (2, sy_i ((dc_C_draw (dc_C_draw (sy_rd h) (sy_rd h 8 3)).1 8).2)), (0, .ref 0)], [.ref 0, .ref 13], h26)) mj_d_66_80 (fun _ _ => rfl) ?_
        refine sy_gr2 (b := 8) mj_d_66_81 rfl rfl (by decide) rfl rfl th26 ?_
        refine sy_gf mj_d_66_84 rfl rfl (by decide) rfl th26 ?_
        intro x28 ex28 bx28 tx28
        rw [eh26] at ex28
        subst ex28
        refine sy_cv (M' := mj_m_56) (vs := [.ref 13, sy_i ((dc_St_passMonth (dc_C_draw (dc_C_draw (dc_C_draw (sy_rd h) (sy_rd h 8 3)).1 8).1 4).1) 8 2)]) (rest := []) mj_d_66_87 rfl rfl rfl rfl th26 rfl rfl ⟨by decide, ⟨Nat.le_of_ble_eq_true rfl, Nat.le_of_ble_eq_true rfl, Nat.le_of_ble_eq_true rfl, Nat.le_of_ble_eq_true rfl, Nat.le_of_ble_eq_true rfl⟩⟩ (dt_St_washOff (a1 := ((dc_St_passMonth (dc_C_draw (dc_C_draw (dc_C_draw (sy_rd h) (sy_rd h 8 3)).1 8).1 4).1) 8 2)) th26 (by omega) (by omega)) ?_
        rintro _ h29 ⟨th29, eh29, rfl, b30, b30t⟩
        rw [eh26] at eh29 b30 b30t ⊢
        show sy_wp (mj_m_66, 90, [(1, sy_i 1), (2, sy_i ((dc_C_draw (dc_C_draw (sy_rd h) (sy_rd h 8 3)).1 8).2)), (0, .ref 0)], [sy_i ((dc_St_washOff (dc_St_passMonth (dc_C_draw (dc_C_draw (dc_C_draw (sy_rd h) (sy_rd h 8 3)).1 8).1 4).1) ((dc_St_passMonth (dc_C_draw (dc_C_draw (dc_C_draw (sy_rd h) (sy_rd h 8 3)).1 8).1 4).1) 8 2)).2)], h29) _
        refine sy_st (S' := (mj_m_66, 91, [(1, sy_i 1), (2, sy_i ((dc_C_draw (dc_C_draw (sy_rd h) (sy_rd h 8 3)).1 8).2)), (0, .ref 0)], [], h29)) mj_d_66_90 (fun _ _ => rfl) ?_
        exact sy_retv mj_d_66_91 rfl ⟨rfl, th29, eh29⟩
    · skip
      rw [if_neg c20]
      refine sy_st (S' := (mj_m_66, 38, [(2, sy_i ((dc_C_draw (dc_C_draw (sy_rd h) (sy_rd h 8 3)).1 8).2)), (1, sy_i ((dc_C_draw (sy_rd h) (sy_rd h 8 3)).2)), (0, .ref 0)], [.ref 0], h16)) mj_d_66_37 (fun _ _ => rfl) ?_
      refine sy_gr2 (b := 13) mj_d_66_38 rfl rfl (by decide) rfl rfl th16 ?_
      refine sy_gr2 (b := 15) mj_d_66_41 rfl rfl (by decide) rfl rfl th16 ?_
      refine sy_st (S' := (mj_m_66, 45, [(2, sy_i ((dc_C_draw (dc_C_draw (sy_rd h) (sy_rd h 8 3)).1 8).2)), (1, sy_i ((dc_C_draw (sy_rd h) (sy_rd h 8 3)).2)), (0, .ref 0)], [sy_i ((dc_C_draw (sy_rd h) (sy_rd h 8 3)).2), .ref 15], h16)) mj_d_66_44 (fun _ _ => rfl) ?_
      refine sy_st (S' := (mj_m_66, 46, [(2, sy_i ((dc_C_draw (dc_C_draw (sy_rd h) (sy_rd h 8 3)).1 8).2)), (1, sy_i ((dc_C_draw (sy_rd h) (sy_rd h 8 3)).2)), (0, .ref 0)], [sy_i ((dc_C_draw (dc_C_draw (sy_rd h) (sy_rd h 8 3)).1 8).2), sy_i ((dc_C_draw (sy_rd h) (sy_rd h 8 3)).2), .ref 15], h16)) mj_d_66_45 (fun _ _ => rfl) ?_
      refine sg_ias (v := (dc_C_draw (dc_C_draw (sy_rd h) (sy_rd h 8 3)).1 8).2) mj_d_66_46 rfl (by decide) (by omega) (by omega) (ab_el_1 rfl _) th16 (by omega) (by omega) ⟨by omega, by omega⟩ ?_
      intro h31 th31 eh31
      rw [eh16] at eh31
      refine sy_st (S' := (mj_m_66, 48, [(2, sy_i ((dc_C_draw (dc_C_draw (sy_rd h) (sy_rd h 8 3)).1 8).2)), (1, sy_i ((dc_C_draw (sy_rd h) (sy_rd h 8 3)).2)), (0, .ref 0)], [.ref 0], h31)) mj_d_66_47 (fun _ _ => rfl) ?_
      refine sy_st (S' := (mj_m_66, 49, [(2, sy_i ((dc_C_draw (dc_C_draw (sy_rd h) (sy_rd h 8 3)).1 8).2)), (1, sy_i ((dc_C_draw (sy_rd h) (sy_rd h 8 3)).2)), (0, .ref 0)], [sy_i 4, .ref 0], h31)) mj_d_66_48 (fun _ _ => rfl) ?_
      refine sy_cv (M' := mj_m_67) (vs := [.ref 0, sy_i 4]) (rest := []) mj_d_66_49 rfl rfl rfl rfl th31 rfl rfl ⟨by decide, ⟨Nat.le_of_ble_eq_true rfl, Nat.le_of_ble_eq_true rfl, Nat.le_of_ble_eq_true rfl, Nat.le_of_ble_eq_true rfl, Nat.le_of_ble_eq_true rfl⟩⟩ (dt_C_draw (a1 := 4) th31 (by omega) (by omega)) ?_
      rintro _ h32 ⟨th32, eh32, rfl, b33, b33t⟩
      rw [eh31] at eh32 b33 b33t ⊢
      show sy_wp (mj_m_66, 52, [(2, sy_i ((dc_C_draw (dc_C_draw (sy_rd h) (sy_rd h 8 3)).1 8).2)), (1, sy_i ((dc_C_draw (sy_rd h) (sy_rd h 8 3)).2)), (0, .ref 0)], [sy_i ((dc_C_draw (sg_up (dc_C_draw (dc_C_draw (sy_rd h) (sy_rd h 8 3)).1 8).1 15 (((dc_C_draw (sy_rd h) (sy_rd h 8 3)).2).toNat) ((dc_C_draw (dc_C_draw (sy_rd h) (sy_rd h 8 3)).1 8).2)) 4).2)], h32) _
      refine sy_ifc mj_d_66_52 rfl ⟨by omega, by omega⟩ (fun (c34 : ¬ (((dc_C_draw (sg_up (dc_C_draw (dc_C_draw (sy_rd h) (sy_rd h 8 3)).1 8).1 15 (((dc_C_draw (sy_rd h) (sy_rd h 8 3)).2).toNat) ((dc_C_draw (dc_C_draw (sy_rd h) (sy_rd h 8 3)).1 8).2)) 4).2) = 0)) => ?_) (fun (c34 : ¬ ¬ (((dc_C_draw (sg_up (dc_C_draw (dc_C_draw (sy_rd h) (sy_rd h 8 3)).1 8).1 15 (((dc_C_draw (sy_rd h) (sy_rd h 8 3)).2).toNat) ((dc_C_draw (dc_C_draw (sy_rd h) (sy_rd h 8 3)).1 8).2)) 4).2) = 0)) => ?_)
      · skip
        rw [if_neg c34]
        refine sy_st (S' := (mj_m_66, 60, [(2, sy_i ((dc_C_draw (dc_C_draw (sy_rd h) (sy_rd h 8 3)).1 8).2)), (1, sy_i ((dc_C_draw (sy_rd h) (sy_rd h 8 3)).2)), (0, .ref 0)], [sy_i 0], h32)) mj_d_66_59 (fun _ _ => rfl) ?_
        refine sy_st (S' := (mj_m_66, 61, [(1, sy_i 0), (2, sy_i ((dc_C_draw (dc_C_draw (sy_rd h) (sy_rd h 8 3)).1 8).2)), (0, .ref 0)], [], h32)) mj_d_66_60 (fun _ _ => rfl) ?_
        refine sy_st (S' := (mj_m_66, 62, [(1, sy_i 0), (2, sy_i ((dc_C_draw (dc_C_draw (sy_rd h) (sy_rd h 8 3)).1 8).2)), (0, .ref 0)], [.ref 0], h32)) mj_d_66_61 (fun _ _ => rfl) ?_
        refine sy_gr2 (b := 13) mj_d_66_62 rfl rfl (by decide) rfl rfl th32 ?_
        refine sy_st (S' := (mj_m_66, 66, [(1, sy_i 0), (2, sy_i ((dc_C_draw (dc_C_draw (sy_rd h) (sy_rd h 8 3)).1 8).2)), (0, .ref 0)], [.ref 0, .ref 13], h32)) mj_d_66_65 (fun _ _ => rfl) ?_
        refine sy_gr2 (b := 8) mj_d_66_66 rfl rfl (by decide) rfl rfl th32 ?_
        refine sy_cv (M' := mj_m_50) (vs := [.ref 13, .ref 8]) (rest := []) mj_d_66_69 rfl rfl rfl rfl th32 rfl rfl ⟨by decide, ⟨Nat.le_of_ble_eq_true rfl, Nat.le_of_ble_eq_true rfl, Nat.le_of_ble_eq_true rfl, Nat.le_of_ble_eq_true rfl, Nat.le_of_ble_eq_true rfl⟩⟩ (dt_St_passMonth th32) ?_
        rintro _ h35 ⟨rfl, th35, eh35⟩
        rw [eh32] at eh35
        show sy_wp (mj_m_66, 72, [(1, sy_i 0), (2, sy_i ((dc_C_draw (dc_C_draw (sy_rd h) (sy_rd h 8 3)).1 8).2)), (0, .ref 0)], [], h35) _
        refine sy_st (S' := (mj_m_66, 73, [(1, sy_i 0), (2, sy_i ((dc_C_draw (dc_C_draw (sy_rd h) (sy_rd h 8 3)).1 8).2)), (0, .ref 0)], [sy_i 0], h35)) mj_d_66_72 (fun _ _ => rfl) ?_
        refine sy_ifc mj_d_66_73 rfl ⟨by omega, by omega⟩ (fun _ => ?_) (fun (q : ¬ ((0 : Int) = 0)) => absurd (by decide) q)
        exact sy_retv mj_d_66_91 rfl ⟨rfl, th35, eh35⟩
      · skip
        rw [if_pos (Decidable.not_not.mp c34)]
        replace c34 := Decidable.not_not.mp c34
        refine sy_st (S' := (mj_m_66, 56, [(2, sy_i ((dc_C_draw (dc_C_draw (sy_rd h) (sy_rd h 8 3)).1 8).2)), (1, sy_i ((dc_C_draw (sy_rd h) (sy_rd h 8 3)).2)), (0, .ref 0)], [sy_i 1], h32)) mj_d_66_55 (fun _ _ => rfl) ?_
        refine sy_st (S' := (mj_m_66, 60, [(2, sy_i ((dc_C_draw (dc_C_draw (sy_rd h) (sy_rd h 8 3)).1 8).2)), (1, sy_i ((dc_C_draw (sy_rd h) (sy_rd h 8 3)).2)), (0, .ref 0)], [sy_i 1], h32)) mj_d_66_56 (fun _ _ => rfl) ?_
        refine sy_st (S' := (mj_m_66, 61, [(1, sy_i 1), (2, sy_i ((dc_C_draw (dc_C_draw (sy_rd h) (sy_rd h 8 3)).1 8).2)), (0, .ref 0)], [], h32)) mj_d_66_60 (fun _ _ => rfl) ?_
        refine sy_st (S' := (mj_m_66, 62, [(1, sy_i 1), (2, sy_i ((dc_C_draw (dc_C_draw (sy_rd h) (sy_rd h 8 3)).1 8).2)), (0, .ref 0)], [.ref 0], h32)) mj_d_66_61 (fun _ _ => rfl) ?_
        refine sy_gr2 (b := 13) mj_d_66_62 rfl rfl (by decide) rfl rfl th32 ?_
        refine sy_st (S' := (mj_m_66, 66, [(1, sy_i 1), (2, sy_i ((dc_C_draw (dc_C_draw (sy_rd h) (sy_rd h 8 3)).1 8).2)), (0, .ref 0)], [.ref 0, .ref 13], h32)) mj_d_66_65 (fun _ _ => rfl) ?_
        refine sy_gr2 (b := 8) mj_d_66_66 rfl rfl (by decide) rfl rfl th32 ?_
        refine sy_cv (M' := mj_m_50) (vs := [.ref 13, .ref 8]) (rest := []) mj_d_66_69 rfl rfl rfl rfl th32 rfl rfl ⟨by decide, ⟨Nat.le_of_ble_eq_true rfl, Nat.le_of_ble_eq_true rfl, Nat.le_of_ble_eq_true rfl, Nat.le_of_ble_eq_true rfl, Nat.le_of_ble_eq_true rfl⟩⟩ (dt_St_passMonth th32) ?_
        rintro _ h37 ⟨rfl, th37, eh37⟩
        rw [eh32] at eh37
        show sy_wp (mj_m_66, 72, [(1, sy_i 1), (2, sy_i ((dc_C_draw (dc_C_draw (sy_rd h) (sy_rd h 8 3)).1 8).2)), (0, .ref 0)], [], h37) _
        refine sy_st (S' := (mj_m_66, 73, [(1, sy_i 1), (2, sy_i ((dc_C_draw (dc_C_draw (sy_rd h) (sy_rd h 8 3)).1 8).2)), (0, .ref 0)], [sy_i 1], h37)) mj_d_66_72 (fun _ _ => rfl) ?_
        refine sy_ifc mj_d_66_73 rfl ⟨by omega, by omega⟩ (fun (q : (1 : Int) = 0) => absurd q (by decide)) (fun _ => ?_)
        refine sy_st (S' := (mj_m_66, 77, [(1, sy_i 1), (2, sy_i ((dc_C_draw (dc_C_draw (sy_rd h) (sy_rd h 8 3)).1 8).2)), (0, .ref 0)], [.ref 0], h37)) mj_d_66_76 (fun _ _ => rfl) ?_
        refine sy_gr2 (b := 13) mj_d_66_77 rfl rfl (by decide) rfl rfl th37 ?_
        refine sy_st (S' := (mj_m_66, 81, [(1, sy_i 1), (2, sy_i ((dc_C_draw (dc_C_draw (sy_rd h) (sy_rd h 8 3)).1 8).2)), (0, .ref 0)], [.ref 0, .ref 13], h37)) mj_d_66_80 (fun _ _ => rfl) ?_
        refine sy_gr2 (b := 8) mj_d_66_81 rfl rfl (by decide) rfl rfl th37 ?_
        refine sy_gf mj_d_66_84 rfl rfl (by decide) rfl th37 ?_
        intro x39 ex39 bx39 tx39
        rw [eh37] at ex39
        subst ex39
        refine sy_cv (M' := mj_m_56) (vs := [.ref 13, sy_i ((dc_St_passMonth (dc_C_draw (sg_up (dc_C_draw (dc_C_draw (sy_rd h) (sy_rd h 8 3)).1 8).1 15 (((dc_C_draw (sy_rd h) (sy_rd h 8 3)).2).toNat) ((dc_C_draw (dc_C_draw (sy_rd h) (sy_rd h 8 3)).1 8).2)) 4).1) 8 2)]) (rest := []) mj_d_66_87 rfl rfl rfl rfl th37 rfl rfl ⟨by decide, ⟨Nat.le_of_ble_eq_true rfl, Nat.le_of_ble_eq_true rfl, Nat.le_of_ble_eq_true rfl, Nat.le_of_ble_eq_true rfl, Nat.le_of_ble_eq_true rfl⟩⟩ (dt_St_washOff (a1 := ((dc_St_passMonth (dc_C_draw (sg_up (dc_C_draw (dc_C_draw (sy_rd h) (sy_rd h 8 3)).1 8).1 15 (((dc_C_draw (sy_rd h) (sy_rd h 8 3)).2).toNat) ((dc_C_draw (dc_C_draw (sy_rd h) (sy_rd h 8 3)).1 8).2)) 4).1) 8 2)) th37 (by omega) (by omega)) ?_
        rintro _ h40 ⟨th40, eh40, rfl, b41, b41t⟩
        rw [eh37] at eh40 b41 b41t ⊢
        show sy_wp (mj_m_66, 90, [(1, sy_i 1), (2, sy_i ((dc_C_draw (dc_C_draw (sy_rd h) (sy_rd h 8 3)).1 8).2)), (0, .ref 0)], [sy_i ((dc_St_washOff (dc_St_passMonth (dc_C_draw (sg_up (dc_C_draw (dc_C_draw (sy_rd h) (sy_rd h 8 3)).1 8).1 15 (((dc_C_draw (sy_rd h) (sy_rd h 8 3)).2).toNat) ((dc_C_draw (dc_C_draw (sy_rd h) (sy_rd h 8 3)).1 8).2)) 4).1) ((dc_St_passMonth (dc_C_draw (sg_up (dc_C_draw (dc_C_draw (sy_rd h) (sy_rd h 8 3)).1 8).1 15 (((dc_C_draw (sy_rd h) (sy_rd h 8 3)).2).toNat) ((dc_C_draw (dc_C_draw (sy_rd h) (sy_rd h 8 3)).1 8).2)) 4).1) 8 2)).2)], h40) _
        refine sy_st (S' := (mj_m_66, 91, [(1, sy_i 1), (2, sy_i ((dc_C_draw (dc_C_draw (sy_rd h) (sy_rd h 8 3)).1 8).2)), (0, .ref 0)], [], h40)) mj_d_66_90 (fun _ _ => rfl) ?_
        exact sy_retv mj_d_66_91 rfl ⟨rfl, th40, eh40⟩
def dc_C_month_14 (n : Nat) : sg_S → Int → Int → sg_S × Int := Nat.rec (fun (s : sg_S) l1 l3 => (s, 0)) (fun _ ih => fun s l1 l3 => (if l1 ≤ l3 then (s, (dc_St_layersOfAll s)) else (ih (dc_St_passMonth (dc_Past_remember s)) l1 (l3 + 1)))) n
theorem dc_C_month_14_s (n : Nat) (s : sg_S) (l1 l3 : Int) : dc_C_month_14 (n + 1) s l1 l3 = (if l1 ≤ l3 then (s, (dc_St_layersOfAll s)) else ((dc_C_month_14 n) (dc_St_passMonth (dc_Past_remember s)) l1 (l3 + 1))) := rfl
def dc_C_month (s : sg_S) (a1 : Int) : sg_S × Int := (if (dc_C_refusalOfMonths s a1) = 0 then (dc_C_month_14 31 s a1 0) else (s, (dc_C_refusalOfMonths s a1)))
set_option maxRecDepth 100000 in
theorem dt_C_month_14 : ∀ (n : Nat) {h : mj_H} (hH : sy_H h) {l1 l3 : Int} (b_l1 : 1 ≤ l1) (t_l1 : l1 ≤ 30) (b_l3 : 0 ≤ l3) (t_l3 : l3 ≤ 30) (i0 : l3 ≤ l1) (hm : 30 - l3 < (n : Int)), sy_wp (mj_m_45, 14, [(0, .ref 0), (1, sy_i l1), (3, sy_i l3)], [], h) (dq2 (-1000000004) (72) (dc_C_month_14 n (sy_rd h) l1 l3)) := by
  intro n
  induction n with
  | zero =>
    intro h hH l1 l3 b_l1 t_l1 b_l3 t_l3 i0 hm
    exact absurd hm (by omega)
  | succ n ih =>
    intro h hH l1 l3 b_l1 t_l1 b_l3 t_l3 i0 hm
    rw [dc_C_month_14_s]
    refine sy_st (S' := (mj_m_45, 15, [(0, .ref 0), (1, sy_i l1), (3, sy_i l3)], [sy_i l3], h)) mj_d_45_14 (fun _ _ => rfl) ?_
    refine sy_st (S' := (mj_m_45, 16, [(0, .ref 0), (1, sy_i l1), (3, sy_i l3)], [sy_i l1, sy_i l3], h)) mj_d_45_15 (fun _ _ => rfl) ?_
    refine sy_icm mj_d_45_16 rfl ⟨by omega, by omega⟩ ⟨by omega, by omega⟩ (fun (c1 : l1 ≤ l3) => ?_) (fun (c1 : ¬ (l1 ≤ l3)) => ?_)
    · skip
      rw [if_pos c1]
      refine sy_st (S' := (mj_m_45, 48, [(0, .ref 0), (1, sy_i l1), (3, sy_i l3)], [.ref 0], h)) mj_d_45_47 (fun _ _ => rfl) ?_
      refine sy_gr2 (b := 13) mj_d_45_48 rfl rfl (by decide) rfl rfl hH ?_
      refine sy_cv (M' := mj_m_35) (vs := [.ref 13]) (rest := []) mj_d_45_51 rfl rfl rfl rfl hH rfl rfl ⟨by decide, ⟨Nat.le_of_ble_eq_true rfl, Nat.le_of_ble_eq_true rfl, Nat.le_of_ble_eq_true rfl, Nat.le_of_ble_eq_true rfl, Nat.le_of_ble_eq_true rfl⟩⟩ (dt_St_layersOfAll hH) ?_
      rintro _ _ ⟨rfl, rfl, b2, b2t⟩
      show sy_wp (mj_m_45, 54, [(0, .ref 0), (1, sy_i l1), (3, sy_i l3)], [sy_i (dc_St_layersOfAll (sy_rd h))], h) _
      exact sy_reti mj_d_45_54 rfl ⟨hH, rfl, rfl, by omega, by omega⟩
    · skip
      rw [if_neg c1]
      refine sy_st (S' := (mj_m_45, 20, [(0, .ref 0), (1, sy_i l1), (3, sy_i l3)], [.ref 0], h)) mj_d_45_19 (fun _ _ => rfl) ?_
      refine sy_gr2 (b := 19) mj_d_45_20 rfl rfl (by decide) rfl rfl hH ?_
      refine sy_st (S' := (mj_m_45, 24, [(0, .ref 0), (1, sy_i l1), (3, sy_i l3)], [.ref 0, .ref 19], h)) mj_d_45_23 (fun _ _ => rfl) ?_
      refine sy_gr2 (b := 13) mj_d_45_24 rfl rfl (by decide) rfl rfl hH ?_
      refine sy_cv (M' := mj_m_47) (vs := [.ref 19, .ref 13]) (rest := []) mj_d_45_27 rfl rfl rfl rfl hH rfl rfl ⟨by decide, ⟨Nat.le_of_ble_eq_true rfl, Nat.le_of_ble_eq_true rfl, Nat.le_of_ble_eq_true rfl, Nat.le_of_ble_eq_true rfl, Nat.le_of_ble_eq_true rfl⟩⟩ (dt_Past_remember hH) ?_
      rintro _ h3 ⟨rfl, th3, eh3⟩
      show sy_wp (mj_m_45, 30, [(0, .ref 0), (1, sy_i l1), (3, sy_i l3)], [], h3) _
      refine sy_st (S' := (mj_m_45, 31, [(0, .ref 0), (1, sy_i l1), (3, sy_i l3)], [.ref 0], h3)) mj_d_45_30 (fun _ _ => rfl) ?_
      refine sy_gr2 (b := 13) mj_d_45_31 rfl rfl (by decide) rfl rfl th3 ?_
      refine sy_st (S' := (mj_m_45, 35, [(0, .ref 0), (1, sy_i l1), (3, sy_i l3)], [.ref 0, .ref 13], h3)) mj_d_45_34 (fun _ _ => rfl) ?_
      refine sy_gr2 (b := 8) mj_d_45_35 rfl rfl (by decide) rfl rfl th3 ?_
      refine sy_cv (M' := mj_m_50) (vs := [.ref 13, .ref 8]) (rest := []) mj_d_45_38 rfl rfl rfl rfl th3 rfl rfl ⟨by decide, ⟨Nat.le_of_ble_eq_true rfl, Nat.le_of_ble_eq_true rfl, Nat.le_of_ble_eq_true rfl, Nat.le_of_ble_eq_true rfl, Nat.le_of_ble_eq_true rfl⟩⟩ (dt_St_passMonth th3) ?_
      rintro _ h5 ⟨rfl, th5, eh5⟩
      rw [eh3] at eh5
      show sy_wp (mj_m_45, 41, [(0, .ref 0), (1, sy_i l1), (3, sy_i l3)], [], h5) _
      refine sy_inc (a := l3) (lv' := [(3, sy_i (l3 + 1)), (0, .ref 0), (1, sy_i l1)]) mj_d_45_41 (Nat.le_of_ble_eq_true rfl) rfl rfl ?_
      refine sy_st (S' := (mj_m_45, 14, [(3, sy_i (l3 + 1)), (0, .ref 0), (1, sy_i l1)], [], h5)) mj_d_45_44 (fun _ _ => rfl) ?_
      refine sy_lv (lv := [(0, .ref 0), (1, sy_i l1), (3, sy_i (l3 + 1))]) rfl ⟨rfl, rfl, rfl, trivial⟩ ?_
      rw [← eh5]
      exact ih th5 (by first | omega | assumption) (by first | omega | assumption) (by first | omega | assumption) (by first | omega | assumption) (by first | omega | assumption) (by omega)
set_option maxRecDepth 100000 in
theorem dt_C_month {h : mj_H} (hH : sy_H h) {a1 : Int} (b_a1 : (-2147483648) ≤ a1) (t_a1 : a1 ≤ 2147483647) : sy_wp (mj_m_45, 0, [(0, .ref 0), (1, sy_i a1)], [], h) (dq2 (-1000000004) (72) (dc_C_month (sy_rd h) a1)) := by
  unfold dc_C_month
  refine sy_st (S' := (mj_m_45, 1, [(0, .ref 0), (1, sy_i a1)], [.ref 0], h)) mj_d_45_0 (fun _ _ => rfl) ?_
  refine sy_st (S' := (mj_m_45, 2, [(0, .ref 0), (1, sy_i a1)], [sy_i a1, .ref 0], h)) mj_d_45_1 (fun _ _ => rfl) ?_
  refine sy_cv (M' := mj_m_46) (vs := [.ref 0, sy_i a1]) (rest := []) mj_d_45_2 rfl rfl rfl rfl hH rfl rfl ⟨by decide, ⟨Nat.le_of_ble_eq_true rfl, Nat.le_of_ble_eq_true rfl, Nat.le_of_ble_eq_true rfl, Nat.le_of_ble_eq_true rfl, Nat.le_of_ble_eq_true rfl⟩⟩ (dt_C_refusalOfMonths (a1 := a1) hH (by omega) (by omega)) ?_
  rintro _ _ ⟨rfl, rfl, b1, b1t⟩
  have q2 := df_C_refusalOfMonths_0 (sy_rd h) a1
  show sy_wp (mj_m_45, 5, [(0, .ref 0), (1, sy_i a1)], [sy_i (dc_C_refusalOfMonths (sy_rd h) a1)], h) _
  refine sy_st (S' := (mj_m_45, 6, [(2, sy_i (dc_C_refusalOfMonths (sy_rd h) a1)), (0, .ref 0), (1, sy_i a1)], [], h)) mj_d_45_5 (fun _ _ => rfl) ?_
  refine sy_st (S' := (mj_m_45, 7, [(2, sy_i (dc_C_refusalOfMonths (sy_rd h) a1)), (0, .ref 0), (1, sy_i a1)], [sy_i (dc_C_refusalOfMonths (sy_rd h) a1)], h)) mj_d_45_6 (fun _ _ => rfl) ?_
  refine sy_ifc mj_d_45_7 rfl ⟨by omega, by omega⟩ (fun (c3 : (dc_C_refusalOfMonths (sy_rd h) a1) = 0) => ?_) (fun (c3 : ¬ ((dc_C_refusalOfMonths (sy_rd h) a1) = 0)) => ?_)
  · skip
    rw [if_pos c3]
    refine sy_st (S' := (mj_m_45, 13, [(2, sy_i (dc_C_refusalOfMonths (sy_rd h) a1)), (0, .ref 0), (1, sy_i a1)], [sy_i 0], h)) mj_d_45_12 (fun _ _ => rfl) ?_
    refine sy_st (S' := (mj_m_45, 14, [(3, sy_i 0), (2, sy_i (dc_C_refusalOfMonths (sy_rd h) a1)), (0, .ref 0), (1, sy_i a1)], [], h)) mj_d_45_13 (fun _ _ => rfl) ?_
    refine sy_lv (lv := [(0, .ref 0), (1, sy_i a1), (3, sy_i 0)]) rfl ⟨rfl, rfl, rfl, trivial⟩ ?_
    exact dt_C_month_14 31 hH (by first | omega | assumption) (by first | omega | assumption) (by first | omega | assumption) (by first | omega | assumption) (by first | omega | assumption) (by omega)
  · skip
    rw [if_neg c3]
    refine sy_st (S' := (mj_m_45, 11, [(2, sy_i (dc_C_refusalOfMonths (sy_rd h) a1)), (0, .ref 0), (1, sy_i a1)], [sy_i (dc_C_refusalOfMonths (sy_rd h) a1)], h)) mj_d_45_10 (fun _ _ => rfl) ?_
    exact sy_reti mj_d_45_11 rfl ⟨hH, rfl, rfl, by omega, by omega⟩
def dc_C_drift_14 (n : Nat) : sg_S → Int → Int → sg_S × Int := Nat.rec (fun (s : sg_S) l1 l3 => (s, 0)) (fun _ ih => fun s l1 l3 => (if l1 ≤ l3 then (s, (dc_St_layersOfAll s)) else (ih (dc_C_passDrawnMonth (dc_Past_remember s)) l1 (l3 + 1)))) n
theorem dc_C_drift_14_s (n : Nat) (s : sg_S) (l1 l3 : Int) : dc_C_drift_14 (n + 1) s l1 l3 = (if l1 ≤ l3 then (s, (dc_St_layersOfAll s)) else ((dc_C_drift_14 n) (dc_C_passDrawnMonth (dc_Past_remember s)) l1 (l3 + 1))) := rfl
def dc_C_drift (s : sg_S) (a1 : Int) : sg_S × Int := (if (dc_C_refusalOfMonths s a1) = 0 then (dc_C_drift_14 31 s a1 0) else (s, (dc_C_refusalOfMonths s a1)))
set_option maxRecDepth 100000 in
theorem dt_C_drift_14 : ∀ (n : Nat) {h : mj_H} (hH : sy_H h) {l1 l3 : Int} (b_l1 : 1 ≤ l1) (t_l1 : l1 ≤ 30) (b_l3 : 0 ≤ l3) (t_l3 : l3 ≤ 30) (i0 : l3 ≤ l1) (hm : 30 - l3 < (n : Int)), sy_wp (mj_m_65, 14, [(0, .ref 0), (1, sy_i l1), (3, sy_i l3)], [], h) (dq2 (-1000000004) (72) (dc_C_drift_14 n (sy_rd h) l1 l3)) := by
  intro n
  induction n with
  | zero =>
    intro h hH l1 l3 b_l1 t_l1 b_l3 t_l3 i0 hm
    exact absurd hm (by omega)
  | succ n ih =>
    intro h hH l1 l3 b_l1 t_l1 b_l3 t_l3 i0 hm
    rw [dc_C_drift_14_s]
    refine sy_st (S' := (mj_m_65, 15, [(0, .ref 0), (1, sy_i l1), (3, sy_i l3)], [sy_i l3], h)) mj_d_65_14 (fun _ _ => rfl) ?_
    refine sy_st (S' := (mj_m_65, 16, [(0, .ref 0), (1, sy_i l1), (3, sy_i l3)], [sy_i l1, sy_i l3], h)) mj_d_65_15 (fun _ _ => rfl) ?_
    refine sy_icm mj_d_65_16 rfl ⟨by omega, by omega⟩ ⟨by omega, by omega⟩ (fun (c1 : l1 ≤ l3) => ?_) (fun (c1 : ¬ (l1 ≤ l3)) => ?_)
    · skip
      rw [if_pos c1]
      refine sy_st (S' := (mj_m_65, 41, [(0, .ref 0), (1, sy_i l1), (3, sy_i l3)], [.ref 0], h)) mj_d_65_40 (fun _ _ => rfl) ?_
      refine sy_gr2 (b := 13) mj_d_65_41 rfl rfl (by decide) rfl rfl hH ?_
      refine sy_cv (M' := mj_m_35) (vs := [.ref 13]) (rest := []) mj_d_65_44 rfl rfl rfl rfl hH rfl rfl ⟨by decide, ⟨Nat.le_of_ble_eq_true rfl, Nat.le_of_ble_eq_true rfl, Nat.le_of_ble_eq_true rfl, Nat.le_of_ble_eq_true rfl, Nat.le_of_ble_eq_true rfl⟩⟩ (dt_St_layersOfAll hH) ?_
      rintro _ _ ⟨rfl, rfl, b2, b2t⟩
      show sy_wp (mj_m_65, 47, [(0, .ref 0), (1, sy_i l1), (3, sy_i l3)], [sy_i (dc_St_layersOfAll (sy_rd h))], h) _
      exact sy_reti mj_d_65_47 rfl ⟨hH, rfl, rfl, by omega, by omega⟩
    · skip
      rw [if_neg c1]
      refine sy_st (S' := (mj_m_65, 20, [(0, .ref 0), (1, sy_i l1), (3, sy_i l3)], [.ref 0], h)) mj_d_65_19 (fun _ _ => rfl) ?_
      refine sy_gr2 (b := 19) mj_d_65_20 rfl rfl (by decide) rfl rfl hH ?_
      refine sy_st (S' := (mj_m_65, 24, [(0, .ref 0), (1, sy_i l1), (3, sy_i l3)], [.ref 0, .ref 19], h)) mj_d_65_23 (fun _ _ => rfl) ?_
      refine sy_gr2 (b := 13) mj_d_65_24 rfl rfl (by decide) rfl rfl hH ?_
      refine sy_cv (M' := mj_m_47) (vs := [.ref 19, .ref 13]) (rest := []) mj_d_65_27 rfl rfl rfl rfl hH rfl rfl ⟨by decide, ⟨Nat.le_of_ble_eq_true rfl, Nat.le_of_ble_eq_true rfl, Nat.le_of_ble_eq_true rfl, Nat.le_of_ble_eq_true rfl, Nat.le_of_ble_eq_true rfl⟩⟩ (dt_Past_remember hH) ?_
      rintro _ h3 ⟨rfl, th3, eh3⟩
      show sy_wp (mj_m_65, 30, [(0, .ref 0), (1, sy_i l1), (3, sy_i l3)], [], h3) _
      refine sy_st (S' := (mj_m_65, 31, [(0, .ref 0), (1, sy_i l1), (3, sy_i l3)], [.ref 0], h3)) mj_d_65_30 (fun _ _ => rfl) ?_
      refine sy_cv (M' := mj_m_66) (vs := [.ref 0]) (rest := []) mj_d_65_31 rfl rfl rfl rfl th3 rfl rfl ⟨by decide, ⟨Nat.le_of_ble_eq_true rfl, Nat.le_of_ble_eq_true rfl, Nat.le_of_ble_eq_true rfl, Nat.le_of_ble_eq_true rfl, Nat.le_of_ble_eq_true rfl⟩⟩ (dt_C_passDrawnMonth th3) ?_
      rintro _ h5 ⟨rfl, th5, eh5⟩
      rw [eh3] at eh5
      show sy_wp (mj_m_65, 34, [(0, .ref 0), (1, sy_i l1), (3, sy_i l3)], [], h5) _
      refine sy_inc (a := l3) (lv' := [(3, sy_i (l3 + 1)), (0, .ref 0), (1, sy_i l1)]) mj_d_65_34 (Nat.le_of_ble_eq_true rfl) rfl rfl ?_
      refine sy_st (S' := (mj_m_65, 14, [(3, sy_i (l3 + 1)), (0, .ref 0), (1, sy_i l1)], [], h5)) mj_d_65_37 (fun _ _ => rfl) ?_
      refine sy_lv (lv := [(0, .ref 0), (1, sy_i l1), (3, sy_i (l3 + 1))]) rfl ⟨rfl, rfl, rfl, trivial⟩ ?_
      rw [← eh5]
      exact ih th5 (by first | omega | assumption) (by first | omega | assumption) (by first | omega | assumption) (by first | omega | assumption) (by first | omega | assumption) (by omega)
set_option maxRecDepth 100000 in
theorem dt_C_drift {h : mj_H} (hH : sy_H h) {a1 : Int} (b_a1 : (-2147483648) ≤ a1) (t_a1 : a1 ≤ 2147483647) : sy_wp (mj_m_65, 0, [(0, .ref 0), (1, sy_i a1)], [], h) (dq2 (-1000000004) (72) (dc_C_drift (sy_rd h) a1)) := by
  unfold dc_C_drift
  refine sy_st (S' := (mj_m_65, 1, [(0, .ref 0), (1, sy_i a1)], [.ref 0], h)) mj_d_65_0 (fun _ _ => rfl) ?_
  refine sy_st (S' := (mj_m_65, 2, [(0, .ref 0), (1, sy_i a1)], [sy_i a1, .ref 0], h)) mj_d_65_1 (fun _ _ => rfl) ?_
  refine sy_cv (M' := mj_m_46) (vs := [.ref 0, sy_i a1]) (rest := []) mj_d_65_2 rfl rfl rfl rfl hH rfl rfl ⟨by decide, ⟨Nat.le_of_ble_eq_true rfl, Nat.le_of_ble_eq_true rfl, Nat.le_of_ble_eq_true rfl, Nat.le_of_ble_eq_true rfl, Nat.le_of_ble_eq_true rfl⟩⟩ (dt_C_refusalOfMonths (a1 := a1) hH (by omega) (by omega)) ?_
  rintro _ _ ⟨rfl, rfl, b1, b1t⟩
  have q2 := df_C_refusalOfMonths_0 (sy_rd h) a1
  show sy_wp (mj_m_65, 5, [(0, .ref 0), (1, sy_i a1)], [sy_i (dc_C_refusalOfMonths (sy_rd h) a1)], h) _
  refine sy_st (S' := (mj_m_65, 6, [(2, sy_i (dc_C_refusalOfMonths (sy_rd h) a1)), (0, .ref 0), (1, sy_i a1)], [], h)) mj_d_65_5 (fun _ _ => rfl) ?_
  refine sy_st (S' := (mj_m_65, 7, [(2, sy_i (dc_C_refusalOfMonths (sy_rd h) a1)), (0, .ref 0), (1, sy_i a1)], [sy_i (dc_C_refusalOfMonths (sy_rd h) a1)], h)) mj_d_65_6 (fun _ _ => rfl) ?_
  refine sy_ifc mj_d_65_7 rfl ⟨by omega, by omega⟩ (fun (c3 : (dc_C_refusalOfMonths (sy_rd h) a1) = 0) => ?_) (fun (c3 : ¬ ((dc_C_refusalOfMonths (sy_rd h) a1) = 0)) => ?_)
  · skip
    rw [if_pos c3]
    refine sy_st (S' := (mj_m_65, 13, [(2, sy_i (dc_C_refusalOfMonths (sy_rd h) a1)), (0, .ref 0), (1, sy_i a1)], [sy_i 0], h)) mj_d_65_12 (fun _ _ => rfl) ?_
    refine sy_st (S' := (mj_m_65, 14, [(3, sy_i 0), (2, sy_i (dc_C_refusalOfMonths (sy_rd h) a1)), (0, .ref 0), (1, sy_i a1)], [], h)) mj_d_65_13 (fun _ _ => rfl) ?_
    refine sy_lv (lv := [(0, .ref 0), (1, sy_i a1), (3, sy_i 0)]) rfl ⟨rfl, rfl, rfl, trivial⟩ ?_
    exact dt_C_drift_14 31 hH (by first | omega | assumption) (by first | omega | assumption) (by first | omega | assumption) (by first | omega | assumption) (by first | omega | assumption) (by omega)
  · skip
    rw [if_neg c3]
    refine sy_st (S' := (mj_m_65, 11, [(2, sy_i (dc_C_refusalOfMonths (sy_rd h) a1)), (0, .ref 0), (1, sy_i a1)], [sy_i (dc_C_refusalOfMonths (sy_rd h) a1)], h)) mj_d_65_10 (fun _ _ => rfl) ?_
    exact sy_reti mj_d_65_11 rfl ⟨hH, rfl, rfl, by omega, by omega⟩
def dc_C_fault (s : sg_S) : Int := (s 1 5)
set_option maxRecDepth 100000 in
theorem dt_C_fault {h : mj_H} (hH : sy_H h) : sy_wp (mj_m_33, 0, [(0, .ref 0)], [], h) (dq1 h (-2147483648) (2147483647) (dc_C_fault (sy_rd h))) := by
  unfold dc_C_fault
  refine sy_st (S' := (mj_m_33, 1, [(0, .ref 0)], [.ref 0], h)) mj_d_33_0 (fun _ _ => rfl) ?_
  refine sy_gr2 (b := 1) mj_d_33_1 rfl rfl (by decide) rfl rfl hH ?_
  refine sy_gf mj_d_33_4 rfl rfl (by decide) rfl hH ?_
  rintro _ rfl bx1 tx1
  exact sy_reti mj_d_33_7 rfl ⟨rfl, rfl, by omega, by omega⟩
def dc_C_told (s : sg_S) (a1 : Int) : Int := (if a1 = 0 then (if (s 8 0) = 0 then 0 else 1) else (if a1 = 1 then (s 8 1) else (if a1 = 2 then (s 8 2) else (if a1 = 3 then (s 8 3) else (if a1 = 4 then (s 8 4) else (if a1 = 5 then (s 1 2) else (if a1 = 6 then (s 13 5) else (if a1 = 7 then (dc_St_layersOfAll s) else (if a1 = 8 then (s 13 6) else (if a1 = 9 then (s 217 3) else (if a1 = 10 then (s 221 2) else (if a1 = 11 then (s 19 2) else (-1000000002)))))))))))))
set_option maxRecDepth 100000 in
theorem dt_C_told {h : mj_H} (hH : sy_H h) {a1 : Int} (b_a1 : (-2147483648) ≤ a1) (t_a1 : a1 ≤ 2147483647) : sy_wp (mj_m_34, 0, [(0, .ref 0), (1, sy_i a1)], [], h) (dq1 h (-2147483648) (2147483647) (dc_C_told (sy_rd h) a1)) := by
  unfold dc_C_told
  refine sy_st (S' := (mj_m_34, 1, [(0, .ref 0), (1, sy_i a1)], [sy_i a1], h)) mj_d_34_0 (fun _ _ => rfl) ?_
  by_cases c1 : a1 = 0
  · skip
    rw [if_pos c1]
    refine sy_tbI (a := a1) mj_d_34_1 ⟨by omega, by omega⟩ (by omega) (by omega) (by rw [c1]; rfl) rfl ?_
    refine sy_st (S' := (mj_m_34, 65, [(0, .ref 0), (1, sy_i a1)], [.ref 0], h)) mj_d_34_64 (fun _ _ => rfl) ?_
    refine sy_gr2 (b := 8) mj_d_34_65 rfl rfl (by decide) rfl rfl hH ?_
    refine sy_gf mj_d_34_68 rfl rfl (by decide) rfl hH ?_
    rintro _ rfl bx2 tx2
    refine sy_ifc mj_d_34_71 rfl ⟨by omega, by omega⟩ (fun (c3 : (sy_rd h 8 0) = 0) => ?_) (fun (c3 : ¬ ((sy_rd h 8 0) = 0)) => ?_)
    · skip
      rw [if_pos c3]
      refine sy_st (S' := (mj_m_34, 79, [(0, .ref 0), (1, sy_i a1)], [sy_i 0], h)) mj_d_34_78 (fun _ _ => rfl) ?_
      exact sy_reti mj_d_34_79 rfl ⟨rfl, rfl, by omega, by omega⟩
    · skip
      rw [if_neg c3]
      refine sy_st (S' := (mj_m_34, 75, [(0, .ref 0), (1, sy_i a1)], [sy_i 1], h)) mj_d_34_74 (fun _ _ => rfl) ?_
      refine sy_st (S' := (mj_m_34, 79, [(0, .ref 0), (1, sy_i a1)], [sy_i 1], h)) mj_d_34_75 (fun _ _ => rfl) ?_
      exact sy_reti mj_d_34_79 rfl ⟨rfl, rfl, by omega, by omega⟩
  rw [if_neg c1]
  by_cases c4 : a1 = 1
  · skip
    rw [if_pos c4]
    refine sy_tbI (a := a1) mj_d_34_1 ⟨by omega, by omega⟩ (by omega) (by omega) (by rw [c4]; rfl) rfl ?_
    refine sy_st (S' := (mj_m_34, 81, [(0, .ref 0), (1, sy_i a1)], [.ref 0], h)) mj_d_34_80 (fun _ _ => rfl) ?_
    refine sy_gr2 (b := 8) mj_d_34_81 rfl rfl (by decide) rfl rfl hH ?_
    refine sy_gf mj_d_34_84 rfl rfl (by decide) rfl hH ?_
    rintro _ rfl bx5 tx5
    exact sy_reti mj_d_34_87 rfl ⟨rfl, rfl, by omega, by omega⟩
  rw [if_neg c4]
  by_cases c6 : a1 = 2
  · skip
    rw [if_pos c6]
    refine sy_tbI (a := a1) mj_d_34_1 ⟨by omega, by omega⟩ (by omega) (by omega) (by rw [c6]; rfl) rfl ?_
    refine sy_st (S' := (mj_m_34, 89, [(0, .ref 0), (1, sy_i a1)], [.ref 0], h)) mj_d_34_88 (fun _ _ => rfl) ?_
    refine sy_gr2 (b := 8) mj_d_34_89 rfl rfl (by decide) rfl rfl hH ?_
    refine sy_gf mj_d_34_92 rfl rfl (by decide) rfl hH ?_
    rintro _ rfl bx7 tx7
    exact sy_reti mj_d_34_95 rfl ⟨rfl, rfl, by omega, by omega⟩
  rw [if_neg c6]
  by_cases c8 : a1 = 3
  · skip
    rw [if_pos c8]
    refine sy_tbI (a := a1) mj_d_34_1 ⟨by omega, by omega⟩ (by omega) (by omega) (by rw [c8]; rfl) rfl ?_
    refine sy_st (S' := (mj_m_34, 97, [(0, .ref 0), (1, sy_i a1)], [.ref 0], h)) mj_d_34_96 (fun _ _ => rfl) ?_
    refine sy_gr2 (b := 8) mj_d_34_97 rfl rfl (by decide) rfl rfl hH ?_
    refine sy_gf mj_d_34_100 rfl rfl (by decide) rfl hH ?_
    rintro _ rfl bx9 tx9
    exact sy_reti mj_d_34_103 rfl ⟨rfl, rfl, by omega, by omega⟩
  rw [if_neg c8]
  by_cases c10 : a1 = 4
  · skip
    rw [if_pos c10]
    refine sy_tbI (a := a1) mj_d_34_1 ⟨by omega, by omega⟩ (by omega) (by omega) (by rw [c10]; rfl) rfl ?_
    refine sy_st (S' := (mj_m_34, 105, [(0, .ref 0), (1, sy_i a1)], [.ref 0], h)) mj_d_34_104 (fun _ _ => rfl) ?_
    refine sy_gr2 (b := 8) mj_d_34_105 rfl rfl (by decide) rfl rfl hH ?_
    refine sy_gf mj_d_34_108 rfl rfl (by decide) rfl hH ?_
    rintro _ rfl bx11 tx11
    exact sy_reti mj_d_34_111 rfl ⟨rfl, rfl, by omega, by omega⟩
  rw [if_neg c10]
  by_cases c12 : a1 = 5
  · skip
    rw [if_pos c12]
    refine sy_tbI (a := a1) mj_d_34_1 ⟨by omega, by omega⟩ (by omega) (by omega) (by rw [c12]; rfl) rfl ?_
    refine sy_st (S' := (mj_m_34, 113, [(0, .ref 0), (1, sy_i a1)], [.ref 0], h)) mj_d_34_112 (fun _ _ => rfl) ?_
    refine sy_gr2 (b := 1) mj_d_34_113 rfl rfl (by decide) rfl rfl hH ?_
    refine sy_gf mj_d_34_116 rfl rfl (by decide) rfl hH ?_
    rintro _ rfl bx13 tx13
    exact sy_reti mj_d_34_119 rfl ⟨rfl, rfl, by omega, by omega⟩
  rw [if_neg c12]
  by_cases c14 : a1 = 6
  · skip
    rw [if_pos c14]
    refine sy_tbI (a := a1) mj_d_34_1 ⟨by omega, by omega⟩ (by omega) (by omega) (by rw [c14]; rfl) rfl ?_
    refine sy_st (S' := (mj_m_34, 121, [(0, .ref 0), (1, sy_i a1)], [.ref 0], h)) mj_d_34_120 (fun _ _ => rfl) ?_
    refine sy_gr2 (b := 13) mj_d_34_121 rfl rfl (by decide) rfl rfl hH ?_
    refine sy_gf mj_d_34_124 rfl rfl (by decide) rfl hH ?_
    rintro _ rfl bx15 tx15
    exact sy_reti mj_d_34_127 rfl ⟨rfl, rfl, by omega, by omega⟩
  rw [if_neg c14]
  by_cases c16 : a1 = 7
  · skip
    rw [if_pos c16]
    refine sy_tbI (a := a1) mj_d_34_1 ⟨by omega, by omega⟩ (by omega) (by omega) (by rw [c16]; rfl) rfl ?_
    refine sy_st (S' := (mj_m_34, 129, [(0, .ref 0), (1, sy_i a1)], [.ref 0], h)) mj_d_34_128 (fun _ _ => rfl) ?_
    refine sy_gr2 (b := 13) mj_d_34_129 rfl rfl (by decide) rfl rfl hH ?_
    refine sy_cv (M' := mj_m_35) (vs := [.ref 13]) (rest := []) mj_d_34_132 rfl rfl rfl rfl hH rfl rfl ⟨by decide, ⟨Nat.le_of_ble_eq_true rfl, Nat.le_of_ble_eq_true rfl, Nat.le_of_ble_eq_true rfl, Nat.le_of_ble_eq_true rfl, Nat.le_of_ble_eq_true rfl⟩⟩ (dt_St_layersOfAll hH) ?_
    rintro _ _ ⟨rfl, rfl, b17, b17t⟩
    show sy_wp (mj_m_34, 135, [(0, .ref 0), (1, sy_i a1)], [sy_i (dc_St_layersOfAll (sy_rd h))], h) _
    exact sy_reti mj_d_34_135 rfl ⟨rfl, rfl, by omega, by omega⟩
  rw [if_neg c16]
  by_cases c18 : a1 = 8
  · skip
    rw [if_pos c18]
    refine sy_tbI (a := a1) mj_d_34_1 ⟨by omega, by omega⟩ (by omega) (by omega) (by rw [c18]; rfl) rfl ?_
    refine sy_st (S' := (mj_m_34, 137, [(0, .ref 0), (1, sy_i a1)], [.ref 0], h)) mj_d_34_136 (fun _ _ => rfl) ?_
    refine sy_gr2 (b := 13) mj_d_34_137 rfl rfl (by decide) rfl rfl hH ?_
    refine sy_gf mj_d_34_140 rfl rfl (by decide) rfl hH ?_
    rintro _ rfl bx19 tx19
    exact sy_reti mj_d_34_143 rfl ⟨rfl, rfl, by omega, by omega⟩
  rw [if_neg c18]
  by_cases c20 : a1 = 9
  · skip
    rw [if_pos c20]
    refine sy_tbI (a := a1) mj_d_34_1 ⟨by omega, by omega⟩ (by omega) (by omega) (by rw [c20]; rfl) rfl ?_
    refine sy_st (S' := (mj_m_34, 145, [(0, .ref 0), (1, sy_i a1)], [.ref 0], h)) mj_d_34_144 (fun _ _ => rfl) ?_
    refine sy_gr2 (b := 217) mj_d_34_145 rfl rfl (by decide) rfl rfl hH ?_
    refine sy_gf mj_d_34_148 rfl rfl (by decide) rfl hH ?_
    rintro _ rfl bx21 tx21
    exact sy_reti mj_d_34_151 rfl ⟨rfl, rfl, by omega, by omega⟩
  rw [if_neg c20]
  by_cases c22 : a1 = 10
  · skip
    rw [if_pos c22]
    refine sy_tbI (a := a1) mj_d_34_1 ⟨by omega, by omega⟩ (by omega) (by omega) (by rw [c22]; rfl) rfl ?_
    refine sy_st (S' := (mj_m_34, 153, [(0, .ref 0), (1, sy_i a1)], [.ref 0], h)) mj_d_34_152 (fun _ _ => rfl) ?_
    refine sy_gr2 (b := 221) mj_d_34_153 rfl rfl (by decide) rfl rfl hH ?_
    refine sy_gf mj_d_34_156 rfl rfl (by decide) rfl hH ?_
    rintro _ rfl bx23 tx23
    exact sy_reti mj_d_34_159 rfl ⟨rfl, rfl, by omega, by omega⟩
  rw [if_neg c22]
  by_cases c24 : a1 = 11
  · skip
    rw [if_pos c24]
    refine sy_tbI (a := a1) mj_d_34_1 ⟨by omega, by omega⟩ (by omega) (by omega) (by rw [c24]; rfl) rfl ?_
    refine sy_st (S' := (mj_m_34, 161, [(0, .ref 0), (1, sy_i a1)], [.ref 0], h)) mj_d_34_160 (fun _ _ => rfl) ?_
    refine sy_gr2 (b := 19) mj_d_34_161 rfl rfl (by decide) rfl rfl hH ?_
    refine sy_gf mj_d_34_164 rfl rfl (by decide) rfl hH ?_
    rintro _ rfl bx25 tx25
    exact sy_reti mj_d_34_167 rfl ⟨rfl, rfl, by omega, by omega⟩
  rw [if_neg c24]
  refine sy_tbO (a := a1) mj_d_34_1 rfl ⟨by omega, by omega⟩ (by omega) ?_
  refine sy_ldc (n := -1000000002) mj_d_34_168 rfl (by decide) ?_
  exact sy_reti mj_d_34_170 rfl ⟨rfl, rfl, by omega, by omega⟩
def dc_C_house (s : sg_S) (a1 a2 : Int) : Int := (if (dc_C_isHouse s a1) = 0 then (-1000000001) else (if a2 = 0 then (s 15 ((a1).toNat)) else (if a2 = 1 then (s 16 ((a1).toNat)) else (if a2 = 2 then (dc_Soot_layers s (s 14 ((a1).toNat))) else (if a2 = 3 then (dc_Soot_newest s (s 14 ((a1).toNat))) else (-1000000002))))))
set_option maxRecDepth 100000 in
theorem dt_C_house {h : mj_H} (hH : sy_H h) {a1 a2 : Int} (b_a1 : (-2147483648) ≤ a1) (t_a1 : a1 ≤ 2147483647) (b_a2 : (-2147483648) ≤ a2) (t_a2 : a2 ≤ 2147483647) : sy_wp (mj_m_38, 0, [(0, .ref 0), (1, sy_i a1), (2, sy_i a2)], [], h) (dq1 h (-2147483648) (2147483647) (dc_C_house (sy_rd h) a1 a2)) := by
  unfold dc_C_house
  have n8_3 := hH.bd (a := 8) (k := 3) rfl (by decide) rfl
  refine sy_st (S' := (mj_m_38, 1, [(0, .ref 0), (1, sy_i a1), (2, sy_i a2)], [.ref 0], h)) mj_d_38_0 (fun _ _ => rfl) ?_
  refine sy_st (S' := (mj_m_38, 2, [(0, .ref 0), (1, sy_i a1), (2, sy_i a2)], [sy_i a1, .ref 0], h)) mj_d_38_1 (fun _ _ => rfl) ?_
  refine sy_cv (M' := mj_m_39) (vs := [.ref 0, sy_i a1]) (rest := []) mj_d_38_2 rfl rfl rfl rfl hH rfl rfl ⟨by decide, ⟨Nat.le_of_ble_eq_true rfl, Nat.le_of_ble_eq_true rfl, Nat.le_of_ble_eq_true rfl, Nat.le_of_ble_eq_true rfl, Nat.le_of_ble_eq_true rfl⟩⟩ (dt_C_isHouse (a1 := a1) hH (by omega) (by omega)) ?_
  rintro _ _ ⟨rfl, rfl, b1, b1t⟩
  have q2 := df_C_isHouse_0 (sy_rd h) a1
  show sy_wp (mj_m_38, 5, [(0, .ref 0), (1, sy_i a1), (2, sy_i a2)], [sy_i (dc_C_isHouse (sy_rd h) a1)], h) _
  refine sy_ifc mj_d_38_5 rfl ⟨by omega, by omega⟩ (fun (c3 : ¬ ((dc_C_isHouse (sy_rd h) a1) = 0)) => ?_) (fun (c3 : ¬ ¬ ((dc_C_isHouse (sy_rd h) a1) = 0)) => ?_)
  · skip
    rw [if_neg c3]
    refine sy_st (S' := (mj_m_38, 12, [(0, .ref 0), (1, sy_i a1), (2, sy_i a2)], [sy_i a2], h)) mj_d_38_11 (fun _ _ => rfl) ?_
    by_cases c4 : a2 = 0
    · skip
      rw [if_pos c4]
      refine sy_tbI (a := a2) mj_d_38_12 ⟨by omega, by omega⟩ (by omega) (by omega) (by rw [c4]; rfl) rfl ?_
      refine sy_st (S' := (mj_m_38, 45, [(0, .ref 0), (1, sy_i a1), (2, sy_i a2)], [.ref 0], h)) mj_d_38_44 (fun _ _ => rfl) ?_
      refine sy_gr2 (b := 13) mj_d_38_45 rfl rfl (by decide) rfl rfl hH ?_
      refine sy_gr2 (b := 15) mj_d_38_48 rfl rfl (by decide) rfl rfl hH ?_
      refine sy_st (S' := (mj_m_38, 52, [(0, .ref 0), (1, sy_i a1), (2, sy_i a2)], [sy_i a1, .ref 15], h)) mj_d_38_51 (fun _ _ => rfl) ?_
      refine sy_ia mj_d_38_52 rfl (by decide) (by omega) (by omega) (ab_el_1 rfl _) hH ?_
      rintro _ rfl bx5 tx5
      exact sy_reti mj_d_38_53 rfl ⟨rfl, rfl, by omega, by omega⟩
    rw [if_neg c4]
    by_cases c6 : a2 = 1
    · skip
      rw [if_pos c6]
      refine sy_tbI (a := a2) mj_d_38_12 ⟨by omega, by omega⟩ (by omega) (by omega) (by rw [c6]; rfl) rfl ?_
      refine sy_st (S' := (mj_m_38, 55, [(0, .ref 0), (1, sy_i a1), (2, sy_i a2)], [.ref 0], h)) mj_d_38_54 (fun _ _ => rfl) ?_
      refine sy_gr2 (b := 13) mj_d_38_55 rfl rfl (by decide) rfl rfl hH ?_
      refine sy_gr2 (b := 16) mj_d_38_58 rfl rfl (by decide) rfl rfl hH ?_
      refine sy_st (S' := (mj_m_38, 62, [(0, .ref 0), (1, sy_i a1), (2, sy_i a2)], [sy_i a1, .ref 16], h)) mj_d_38_61 (fun _ _ => rfl) ?_
      refine sy_ia mj_d_38_62 rfl (by decide) (by omega) (by omega) (ab_el_1 rfl _) hH ?_
      rintro _ rfl bx7 tx7
      exact sy_reti mj_d_38_63 rfl ⟨rfl, rfl, by omega, by omega⟩
    rw [if_neg c6]
    by_cases c8 : a2 = 2
    · skip
      rw [if_pos c8]
      refine sy_tbI (a := a2) mj_d_38_12 ⟨by omega, by omega⟩ (by omega) (by omega) (by rw [c8]; rfl) rfl ?_
      refine sy_st (S' := (mj_m_38, 65, [(0, .ref 0), (1, sy_i a1), (2, sy_i a2)], [.ref 0], h)) mj_d_38_64 (fun _ _ => rfl) ?_
      refine sy_gr2 (b := 13) mj_d_38_65 rfl rfl (by decide) rfl rfl hH ?_
      refine sy_gr2 (b := 14) mj_d_38_68 rfl rfl (by decide) rfl rfl hH ?_
      refine sy_st (S' := (mj_m_38, 72, [(0, .ref 0), (1, sy_i a1), (2, sy_i a2)], [sy_i a1, .ref 14], h)) mj_d_38_71 (fun _ _ => rfl) ?_
      refine sy_ia mj_d_38_72 rfl (by decide) (by omega) (by omega) (ab_el_1 rfl _) hH ?_
      rintro _ rfl bx9 tx9
      refine sy_cs (M' := mj_m_36) (vs := [sy_i (sy_rd h 14 ((a1).toNat))]) (rest := []) mj_d_38_73 rfl rfl rfl rfl ⟨Nat.le_of_ble_eq_true rfl, Nat.le_of_ble_eq_true rfl, Nat.le_of_ble_eq_true rfl, Nat.le_of_ble_eq_true rfl, Nat.le_of_ble_eq_true rfl⟩ (dt_Soot_layers (a0 := (sy_rd h 14 ((a1).toNat))) hH (by omega) (by omega)) ?_
      rintro _ _ ⟨rfl, rfl, b10, b10t⟩
      show sy_wp (mj_m_38, 76, [(0, .ref 0), (1, sy_i a1), (2, sy_i a2)], [sy_i (dc_Soot_layers (sy_rd h) (sy_rd h 14 ((a1).toNat)))], h) _
      exact sy_reti mj_d_38_76 rfl ⟨rfl, rfl, by omega, by omega⟩
    rw [if_neg c8]
    by_cases c11 : a2 = 3
    · skip
      rw [if_pos c11]
      refine sy_tbI (a := a2) mj_d_38_12 ⟨by omega, by omega⟩ (by omega) (by omega) (by rw [c11]; rfl) rfl ?_
      refine sy_st (S' := (mj_m_38, 78, [(0, .ref 0), (1, sy_i a1), (2, sy_i a2)], [.ref 0], h)) mj_d_38_77 (fun _ _ => rfl) ?_
      refine sy_gr2 (b := 13) mj_d_38_78 rfl rfl (by decide) rfl rfl hH ?_
      refine sy_gr2 (b := 14) mj_d_38_81 rfl rfl (by decide) rfl rfl hH ?_
      refine sy_st (S' := (mj_m_38, 85, [(0, .ref 0), (1, sy_i a1), (2, sy_i a2)], [sy_i a1, .ref 14], h)) mj_d_38_84 (fun _ _ => rfl) ?_
      refine sy_ia mj_d_38_85 rfl (by decide) (by omega) (by omega) (ab_el_1 rfl _) hH ?_
      rintro _ rfl bx12 tx12
      refine sy_cs (M' := mj_m_40) (vs := [sy_i (sy_rd h 14 ((a1).toNat))]) (rest := []) mj_d_38_86 rfl rfl rfl rfl ⟨Nat.le_of_ble_eq_true rfl, Nat.le_of_ble_eq_true rfl, Nat.le_of_ble_eq_true rfl, Nat.le_of_ble_eq_true rfl, Nat.le_of_ble_eq_true rfl⟩ (dt_Soot_newest (a0 := (sy_rd h 14 ((a1).toNat))) hH (by omega) (by omega)) ?_
      rintro _ _ ⟨rfl, rfl, b13, b13t⟩
      show sy_wp (mj_m_38, 89, [(0, .ref 0), (1, sy_i a1), (2, sy_i a2)], [sy_i (dc_Soot_newest (sy_rd h) (sy_rd h 14 ((a1).toNat)))], h) _
      exact sy_reti mj_d_38_89 rfl ⟨rfl, rfl, by omega, by omega⟩
    rw [if_neg c11]
    refine sy_tbO (a := a2) mj_d_38_12 rfl ⟨by omega, by omega⟩ (by omega) ?_
    refine sy_ldc (n := -1000000002) mj_d_38_90 rfl (by decide) ?_
    exact sy_reti mj_d_38_92 rfl ⟨rfl, rfl, by omega, by omega⟩
  · skip
    rw [if_pos (Decidable.not_not.mp c3)]
    replace c3 := Decidable.not_not.mp c3
    refine sy_ldc (n := -1000000001) mj_d_38_8 rfl (by decide) ?_
    exact sy_reti mj_d_38_10 rfl ⟨rfl, rfl, by omega, by omega⟩
def dc_C_layer (s : sg_S) (a1 a2 : Int) : Int := (if (dc_C_isHouse s a1) = 0 then (-1000000001) else (if a2 < 0 then (-1000000002) else (if a2 < 8 then (dc_Soot_fromOldest s (s 14 ((a1).toNat)) a2) else (-1000000002))))
set_option maxRecDepth 100000 in
theorem dt_C_layer {h : mj_H} (hH : sy_H h) {a1 a2 : Int} (b_a1 : (-2147483648) ≤ a1) (t_a1 : a1 ≤ 2147483647) (b_a2 : (-2147483648) ≤ a2) (t_a2 : a2 ≤ 2147483647) : sy_wp (mj_m_41, 0, [(0, .ref 0), (1, sy_i a1), (2, sy_i a2)], [], h) (dq1 h (-2147483648) (2147483647) (dc_C_layer (sy_rd h) a1 a2)) := by
  unfold dc_C_layer
  have n8_3 := hH.bd (a := 8) (k := 3) rfl (by decide) rfl
  refine sy_st (S' := (mj_m_41, 1, [(0, .ref 0), (1, sy_i a1), (2, sy_i a2)], [.ref 0], h)) mj_d_41_0 (fun _ _ => rfl) ?_
  refine sy_st (S' := (mj_m_41, 2, [(0, .ref 0), (1, sy_i a1), (2, sy_i a2)], [sy_i a1, .ref 0], h)) mj_d_41_1 (fun _ _ => rfl) ?_
  refine sy_cv (M' := mj_m_39) (vs := [.ref 0, sy_i a1]) (rest := []) mj_d_41_2 rfl rfl rfl rfl hH rfl rfl ⟨by decide, ⟨Nat.le_of_ble_eq_true rfl, Nat.le_of_ble_eq_true rfl, Nat.le_of_ble_eq_true rfl, Nat.le_of_ble_eq_true rfl, Nat.le_of_ble_eq_true rfl⟩⟩ (dt_C_isHouse (a1 := a1) hH (by omega) (by omega)) ?_
  rintro _ _ ⟨rfl, rfl, b1, b1t⟩
  have q2 := df_C_isHouse_0 (sy_rd h) a1
  show sy_wp (mj_m_41, 5, [(0, .ref 0), (1, sy_i a1), (2, sy_i a2)], [sy_i (dc_C_isHouse (sy_rd h) a1)], h) _
  refine sy_ifc mj_d_41_5 rfl ⟨by omega, by omega⟩ (fun (c3 : ¬ ((dc_C_isHouse (sy_rd h) a1) = 0)) => ?_) (fun (c3 : ¬ ¬ ((dc_C_isHouse (sy_rd h) a1) = 0)) => ?_)
  · skip
    rw [if_neg c3]
    refine sy_st (S' := (mj_m_41, 12, [(0, .ref 0), (1, sy_i a1), (2, sy_i a2)], [sy_i a2], h)) mj_d_41_11 (fun _ _ => rfl) ?_
    refine sy_ifc mj_d_41_12 rfl ⟨by omega, by omega⟩ (fun (c4 : a2 < 0) => ?_) (fun (c4 : ¬ (a2 < 0)) => ?_)
    · skip
      rw [if_pos c4]
      refine sy_ldc (n := -1000000002) mj_d_41_21 rfl (by decide) ?_
      exact sy_reti mj_d_41_23 rfl ⟨rfl, rfl, by omega, by omega⟩
    · skip
      rw [if_neg c4]
      refine sy_st (S' := (mj_m_41, 16, [(0, .ref 0), (1, sy_i a1), (2, sy_i a2)], [sy_i a2], h)) mj_d_41_15 (fun _ _ => rfl) ?_
      refine sy_bip mj_d_41_16 (by decide) ?_
      refine sy_icm mj_d_41_18 rfl ⟨by omega, by omega⟩ ⟨by omega, by omega⟩ (fun (c5 : a2 < 8) => ?_) (fun (c5 : ¬ (a2 < 8)) => ?_)
      · skip
        rw [if_pos c5]
        refine sy_st (S' := (mj_m_41, 25, [(0, .ref 0), (1, sy_i a1), (2, sy_i a2)], [.ref 0], h)) mj_d_41_24 (fun _ _ => rfl) ?_
        refine sy_gr2 (b := 13) mj_d_41_25 rfl rfl (by decide) rfl rfl hH ?_
        refine sy_gr2 (b := 14) mj_d_41_28 rfl rfl (by decide) rfl rfl hH ?_
        refine sy_st (S' := (mj_m_41, 32, [(0, .ref 0), (1, sy_i a1), (2, sy_i a2)], [sy_i a1, .ref 14], h)) mj_d_41_31 (fun _ _ => rfl) ?_
        refine sy_ia mj_d_41_32 rfl (by decide) (by omega) (by omega) (ab_el_1 rfl _) hH ?_
        rintro _ rfl bx6 tx6
        refine sy_st (S' := (mj_m_41, 34, [(0, .ref 0), (1, sy_i a1), (2, sy_i a2)], [sy_i a2, sy_i (sy_rd h 14 ((a1).toNat))], h)) mj_d_41_33 (fun _ _ => rfl) ?_
        refine sy_cs (M' := mj_m_42) (vs := [sy_i (sy_rd h 14 ((a1).toNat)), sy_i a2]) (rest := []) mj_d_41_34 rfl rfl rfl rfl ⟨Nat.le_of_ble_eq_true rfl, Nat.le_of_ble_eq_true rfl, Nat.le_of_ble_eq_true rfl, Nat.le_of_ble_eq_true rfl, Nat.le_of_ble_eq_true rfl⟩ (dt_Soot_fromOldest (a0 := (sy_rd h 14 ((a1).toNat))) (a1 := a2) hH (by omega) (by omega) (by omega) (by omega)) ?_
        rintro _ _ ⟨rfl, rfl, b7, b7t⟩
        show sy_wp (mj_m_41, 37, [(0, .ref 0), (1, sy_i a1), (2, sy_i a2)], [sy_i (dc_Soot_fromOldest (sy_rd h) (sy_rd h 14 ((a1).toNat)) a2)], h) _
        exact sy_reti mj_d_41_37 rfl ⟨rfl, rfl, by omega, by omega⟩
      · skip
        rw [if_neg c5]
        refine sy_ldc (n := -1000000002) mj_d_41_21 rfl (by decide) ?_
        exact sy_reti mj_d_41_23 rfl ⟨rfl, rfl, by omega, by omega⟩
  · skip
    rw [if_pos (Decidable.not_not.mp c3)]
    replace c3 := Decidable.not_not.mp c3
    refine sy_ldc (n := -1000000001) mj_d_41_8 rfl (by decide) ?_
    exact sy_reti mj_d_41_10 rfl ⟨rfl, rfl, by omega, by omega⟩
def dc_C_sweep (s : sg_S) (a1 a2 : Int) : Int := (if (dc_C_isSweep s a1) = 0 then (-1000000001) else (if a2 = 0 then (s 17 ((a1).toNat)) else (if a2 = 1 then (s 12 ((a1).toNat)) else (if a2 = 2 then (sy_w ((s 18 ((a1).toNat)) + 100000)) else (-1000000002)))))
set_option maxRecDepth 100000 in
theorem dt_C_sweep {h : mj_H} (hH : sy_H h) {a1 a2 : Int} (b_a1 : (-2147483648) ≤ a1) (t_a1 : a1 ≤ 2147483647) (b_a2 : (-2147483648) ≤ a2) (t_a2 : a2 ≤ 2147483647) : sy_wp (mj_m_43, 0, [(0, .ref 0), (1, sy_i a1), (2, sy_i a2)], [], h) (dq1 h (-2147483648) (2147483647) (dc_C_sweep (sy_rd h) a1 a2)) := by
  unfold dc_C_sweep
  have n8_4 := hH.bd (a := 8) (k := 4) rfl (by decide) rfl
  refine sy_st (S' := (mj_m_43, 1, [(0, .ref 0), (1, sy_i a1), (2, sy_i a2)], [.ref 0], h)) mj_d_43_0 (fun _ _ => rfl) ?_
  refine sy_st (S' := (mj_m_43, 2, [(0, .ref 0), (1, sy_i a1), (2, sy_i a2)], [sy_i a1, .ref 0], h)) mj_d_43_1 (fun _ _ => rfl) ?_
  refine sy_cv (M' := mj_m_44) (vs := [.ref 0, sy_i a1]) (rest := []) mj_d_43_2 rfl rfl rfl rfl hH rfl rfl ⟨by decide, ⟨Nat.le_of_ble_eq_true rfl, Nat.le_of_ble_eq_true rfl, Nat.le_of_ble_eq_true rfl, Nat.le_of_ble_eq_true rfl, Nat.le_of_ble_eq_true rfl⟩⟩ (dt_C_isSweep (a1 := a1) hH (by omega) (by omega)) ?_
  rintro _ _ ⟨rfl, rfl, b1, b1t⟩
  have q2 := df_C_isSweep_0 (sy_rd h) a1
  show sy_wp (mj_m_43, 5, [(0, .ref 0), (1, sy_i a1), (2, sy_i a2)], [sy_i (dc_C_isSweep (sy_rd h) a1)], h) _
  refine sy_ifc mj_d_43_5 rfl ⟨by omega, by omega⟩ (fun (c3 : ¬ ((dc_C_isSweep (sy_rd h) a1) = 0)) => ?_) (fun (c3 : ¬ ¬ ((dc_C_isSweep (sy_rd h) a1) = 0)) => ?_)
  · skip
    rw [if_neg c3]
    refine sy_st (S' := (mj_m_43, 12, [(0, .ref 0), (1, sy_i a1), (2, sy_i a2)], [sy_i a2], h)) mj_d_43_11 (fun _ _ => rfl) ?_
    by_cases c4 : a2 = 0
    · skip
      rw [if_pos c4]
      refine sy_tbI (a := a2) mj_d_43_12 ⟨by omega, by omega⟩ (by omega) (by omega) (by rw [c4]; rfl) rfl ?_
      refine sy_st (S' := (mj_m_43, 41, [(0, .ref 0), (1, sy_i a1), (2, sy_i a2)], [.ref 0], h)) mj_d_43_40 (fun _ _ => rfl) ?_
      refine sy_gr2 (b := 13) mj_d_43_41 rfl rfl (by decide) rfl rfl hH ?_
      refine sy_gr2 (b := 17) mj_d_43_44 rfl rfl (by decide) rfl rfl hH ?_
      refine sy_st (S' := (mj_m_43, 48, [(0, .ref 0), (1, sy_i a1), (2, sy_i a2)], [sy_i a1, .ref 17], h)) mj_d_43_47 (fun _ _ => rfl) ?_
      refine sy_ia mj_d_43_48 rfl (by decide) (by omega) (by omega) (ab_el_1 rfl _) hH ?_
      rintro _ rfl bx5 tx5
      exact sy_reti mj_d_43_49 rfl ⟨rfl, rfl, by omega, by omega⟩
    rw [if_neg c4]
    by_cases c6 : a2 = 1
    · skip
      rw [if_pos c6]
      refine sy_tbI (a := a2) mj_d_43_12 ⟨by omega, by omega⟩ (by omega) (by omega) (by rw [c6]; rfl) rfl ?_
      refine sy_st (S' := (mj_m_43, 51, [(0, .ref 0), (1, sy_i a1), (2, sy_i a2)], [.ref 0], h)) mj_d_43_50 (fun _ _ => rfl) ?_
      refine sy_gr2 (b := 8) mj_d_43_51 rfl rfl (by decide) rfl rfl hH ?_
      refine sy_gr2 (b := 12) mj_d_43_54 rfl rfl (by decide) rfl rfl hH ?_
      refine sy_st (S' := (mj_m_43, 58, [(0, .ref 0), (1, sy_i a1), (2, sy_i a2)], [sy_i a1, .ref 12], h)) mj_d_43_57 (fun _ _ => rfl) ?_
      refine sy_ia mj_d_43_58 rfl (by decide) (by omega) (by omega) (ab_el_1 rfl _) hH ?_
      rintro _ rfl bx7 tx7
      exact sy_reti mj_d_43_59 rfl ⟨rfl, rfl, by omega, by omega⟩
    rw [if_neg c6]
    by_cases c8 : a2 = 2
    · skip
      rw [if_pos c8]
      refine sy_tbI (a := a2) mj_d_43_12 ⟨by omega, by omega⟩ (by omega) (by omega) (by rw [c8]; rfl) rfl ?_
      refine sy_st (S' := (mj_m_43, 61, [(0, .ref 0), (1, sy_i a1), (2, sy_i a2)], [.ref 0], h)) mj_d_43_60 (fun _ _ => rfl) ?_
      refine sy_gr2 (b := 13) mj_d_43_61 rfl rfl (by decide) rfl rfl hH ?_
      refine sy_gr2 (b := 18) mj_d_43_64 rfl rfl (by decide) rfl rfl hH ?_
      refine sy_st (S' := (mj_m_43, 68, [(0, .ref 0), (1, sy_i a1), (2, sy_i a2)], [sy_i a1, .ref 18], h)) mj_d_43_67 (fun _ _ => rfl) ?_
      refine sy_ia mj_d_43_68 rfl (by decide) (by omega) (by omega) (ab_el_1 rfl _) hH ?_
      rintro _ rfl bx9 tx9
      refine sy_ldc (n := 100000) mj_d_43_69 rfl (by decide) ?_
      refine sy_add mj_d_43_71 ?_
      have wr := sy_w_rng ((sy_rd h 18 ((a1).toNat)) + 100000)
      exact sg_retw mj_d_43_72 rfl ⟨rfl, rfl, by omega, by omega⟩
    rw [if_neg c8]
    refine sy_tbO (a := a2) mj_d_43_12 rfl ⟨by omega, by omega⟩ (by omega) ?_
    refine sy_ldc (n := -1000000002) mj_d_43_73 rfl (by decide) ?_
    exact sy_reti mj_d_43_75 rfl ⟨rfl, rfl, by omega, by omega⟩
  · skip
    rw [if_pos (Decidable.not_not.mp c3)]
    replace c3 := Decidable.not_not.mp c3
    refine sy_ldc (n := -1000000001) mj_d_43_8 rfl (by decide) ?_
    exact sy_reti mj_d_43_10 rfl ⟨rfl, rfl, by omega, by omega⟩
def dc_C_fire (s : sg_S) (a1 a2 : Int) : sg_S × Int := (if (dc_C_isHouse s a1) = 0 then (s, (-1000000001)) else (if a2 < 0 then (s, (-1000000002)) else (if a2 ≤ 7 then ((sg_up (dc_Past_remember s) 15 ((a1).toNat) a2), ((dc_Past_remember s) 15 ((a1).toNat))) else (s, (-1000000002)))))
set_option maxRecDepth 100000 in
theorem dt_C_fire {h : mj_H} (hH : sy_H h) {a1 a2 : Int} (b_a1 : (-2147483648) ≤ a1) (t_a1 : a1 ≤ 2147483647) (b_a2 : (-2147483648) ≤ a2) (t_a2 : a2 ≤ 2147483647) : sy_wp (mj_m_54, 0, [(0, .ref 0), (1, sy_i a1), (2, sy_i a2)], [], h) (dq2 (-2147483648) (2147483647) (dc_C_fire (sy_rd h) a1 a2)) := by
  unfold dc_C_fire
  have n8_3 := hH.bd (a := 8) (k := 3) rfl (by decide) rfl
  refine sy_st (S' := (mj_m_54, 1, [(0, .ref 0), (1, sy_i a1), (2, sy_i a2)], [.ref 0], h)) mj_d_54_0 (fun _ _ => rfl) ?_
  refine sy_st (S' := (mj_m_54, 2, [(0, .ref 0), (1, sy_i a1), (2, sy_i a2)], [sy_i a1, .ref 0], h)) mj_d_54_1 (fun _ _ => rfl) ?_
  refine sy_cv (M' := mj_m_39) (vs := [.ref 0, sy_i a1]) (rest := []) mj_d_54_2 rfl rfl rfl rfl hH rfl rfl ⟨by decide, ⟨Nat.le_of_ble_eq_true rfl, Nat.le_of_ble_eq_true rfl, Nat.le_of_ble_eq_true rfl, Nat.le_of_ble_eq_true rfl, Nat.le_of_ble_eq_true rfl⟩⟩ (dt_C_isHouse (a1 := a1) hH (by omega) (by omega)) ?_
  rintro _ _ ⟨rfl, rfl, b1, b1t⟩
  have q2 := df_C_isHouse_0 (sy_rd h) a1
  show sy_wp (mj_m_54, 5, [(0, .ref 0), (1, sy_i a1), (2, sy_i a2)], [sy_i (dc_C_isHouse (sy_rd h) a1)], h) _
  refine sy_ifc mj_d_54_5 rfl ⟨by omega, by omega⟩ (fun (c3 : ¬ ((dc_C_isHouse (sy_rd h) a1) = 0)) => ?_) (fun (c3 : ¬ ¬ ((dc_C_isHouse (sy_rd h) a1) = 0)) => ?_)
  · skip
    rw [if_neg c3]
    refine sy_st (S' := (mj_m_54, 12, [(0, .ref 0), (1, sy_i a1), (2, sy_i a2)], [sy_i a2], h)) mj_d_54_11 (fun _ _ => rfl) ?_
    refine sy_ifc mj_d_54_12 rfl ⟨by omega, by omega⟩ (fun (c4 : a2 < 0) => ?_) (fun (c4 : ¬ (a2 < 0)) => ?_)
    · skip
      rw [if_pos c4]
      refine sy_ldc (n := -1000000002) mj_d_54_21 rfl (by decide) ?_
      exact sy_reti mj_d_54_23 rfl ⟨hH, rfl, rfl, by omega, by omega⟩
    · skip
      rw [if_neg c4]
      refine sy_st (S' := (mj_m_54, 16, [(0, .ref 0), (1, sy_i a1), (2, sy_i a2)], [sy_i a2], h)) mj_d_54_15 (fun _ _ => rfl) ?_
      refine sy_bip mj_d_54_16 (by decide) ?_
      refine sy_icm mj_d_54_18 rfl ⟨by omega, by omega⟩ ⟨by omega, by omega⟩ (fun (c5 : a2 ≤ 7) => ?_) (fun (c5 : ¬ (a2 ≤ 7)) => ?_)
      · skip
        rw [if_pos c5]
        refine sy_st (S' := (mj_m_54, 25, [(0, .ref 0), (1, sy_i a1), (2, sy_i a2)], [.ref 0], h)) mj_d_54_24 (fun _ _ => rfl) ?_
        refine sy_gr2 (b := 19) mj_d_54_25 rfl rfl (by decide) rfl rfl hH ?_
        refine sy_st (S' := (mj_m_54, 29, [(0, .ref 0), (1, sy_i a1), (2, sy_i a2)], [.ref 0, .ref 19], h)) mj_d_54_28 (fun _ _ => rfl) ?_
        refine sy_gr2 (b := 13) mj_d_54_29 rfl rfl (by decide) rfl rfl hH ?_
        refine sy_cv (M' := mj_m_47) (vs := [.ref 19, .ref 13]) (rest := []) mj_d_54_32 rfl rfl rfl rfl hH rfl rfl ⟨by decide, ⟨Nat.le_of_ble_eq_true rfl, Nat.le_of_ble_eq_true rfl, Nat.le_of_ble_eq_true rfl, Nat.le_of_ble_eq_true rfl, Nat.le_of_ble_eq_true rfl⟩⟩ (dt_Past_remember hH) ?_
        rintro _ h6 ⟨rfl, th6, eh6⟩
        show sy_wp (mj_m_54, 35, [(0, .ref 0), (1, sy_i a1), (2, sy_i a2)], [], h6) _
        refine sy_st (S' := (mj_m_54, 36, [(0, .ref 0), (1, sy_i a1), (2, sy_i a2)], [.ref 0], h6)) mj_d_54_35 (fun _ _ => rfl) ?_
        refine sy_gr2 (b := 13) mj_d_54_36 rfl rfl (by decide) rfl rfl th6 ?_
        refine sy_gr2 (b := 15) mj_d_54_39 rfl rfl (by decide) rfl rfl th6 ?_
        refine sy_st (S' := (mj_m_54, 43, [(0, .ref 0), (1, sy_i a1), (2, sy_i a2)], [sy_i a1, .ref 15], h6)) mj_d_54_42 (fun _ _ => rfl) ?_
        refine sy_ia mj_d_54_43 rfl (by decide) (by omega) (by omega) (ab_el_1 rfl _) th6 ?_
        intro x8 ex8 bx8 tx8
        rw [eh6] at ex8
        subst ex8
        refine sy_st (S' := (mj_m_54, 45, [(3, sy_i ((dc_Past_remember (sy_rd h)) 15 ((a1).toNat))), (0, .ref 0), (1, sy_i a1), (2, sy_i a2)], [], h6)) mj_d_54_44 (fun _ _ => rfl) ?_
        refine sy_st (S' := (mj_m_54, 46, [(3, sy_i ((dc_Past_remember (sy_rd h)) 15 ((a1).toNat))), (0, .ref 0), (1, sy_i a1), (2, sy_i a2)], [.ref 0], h6)) mj_d_54_45 (fun _ _ => rfl) ?_
        refine sy_gr2 (b := 13) mj_d_54_46 rfl rfl (by decide) rfl rfl th6 ?_
        refine sy_gr2 (b := 15) mj_d_54_49 rfl rfl (by decide) rfl rfl th6 ?_
        refine sy_st (S' := (mj_m_54, 53, [(3, sy_i ((dc_Past_remember (sy_rd h)) 15 ((a1).toNat))), (0, .ref 0), (1, sy_i a1), (2, sy_i a2)], [sy_i a1, .ref 15], h6)) mj_d_54_52 (fun _ _ => rfl) ?_
        refine sy_st (S' := (mj_m_54, 54, [(3, sy_i ((dc_Past_remember (sy_rd h)) 15 ((a1).toNat))), (0, .ref 0), (1, sy_i a1), (2, sy_i a2)], [sy_i a2, sy_i a1, .ref 15], h6)) mj_d_54_53 (fun _ _ => rfl) ?_
        refine sg_ias (v := a2) mj_d_54_54 rfl (by decide) (by omega) (by omega) (ab_el_1 rfl _) th6 (by omega) (by omega) ⟨by omega, by omega⟩ ?_
        intro h9 th9 eh9
        rw [eh6] at eh9
        refine sy_st (S' := (mj_m_54, 56, [(3, sy_i ((dc_Past_remember (sy_rd h)) 15 ((a1).toNat))), (0, .ref 0), (1, sy_i a1), (2, sy_i a2)], [sy_i ((dc_Past_remember (sy_rd h)) 15 ((a1).toNat))], h9)) mj_d_54_55 (fun _ _ => rfl) ?_
        exact sy_reti mj_d_54_56 rfl ⟨th9, eh9, rfl, by omega, by omega⟩
      · skip
        rw [if_neg c5]
        refine sy_ldc (n := -1000000002) mj_d_54_21 rfl (by decide) ?_
        exact sy_reti mj_d_54_23 rfl ⟨hH, rfl, rfl, by omega, by omega⟩
  · skip
    rw [if_pos (Decidable.not_not.mp c3)]
    replace c3 := Decidable.not_not.mp c3
    refine sy_ldc (n := -1000000001) mj_d_54_8 rfl (by decide) ?_
    exact sy_reti mj_d_54_10 rfl ⟨hH, rfl, rfl, by omega, by omega⟩
def dc_C_rain (s : sg_S) : sg_S × Int := (if (s 8 0) = 0 then (s, (-1000000003)) else ((dc_St_washOff (dc_Past_remember s) ((dc_Past_remember s) 8 2)).1, (dc_St_washOff (dc_Past_remember s) ((dc_Past_remember s) 8 2)).2))
set_option maxRecDepth 100000 in
theorem dt_C_rain {h : mj_H} (hH : sy_H h) : sy_wp (mj_m_55, 0, [(0, .ref 0)], [], h) (dq2 (-2147483648) (2147483647) (dc_C_rain (sy_rd h))) := by
  unfold dc_C_rain
  refine sy_st (S' := (mj_m_55, 1, [(0, .ref 0)], [.ref 0], h)) mj_d_55_0 (fun _ _ => rfl) ?_
  refine sy_gr2 (b := 8) mj_d_55_1 rfl rfl (by decide) rfl rfl hH ?_
  refine sy_gf mj_d_55_4 rfl rfl (by decide) rfl hH ?_
  rintro _ rfl bx1 tx1
  refine sy_ifc mj_d_55_7 rfl ⟨by omega, by omega⟩ (fun (c2 : ¬ ((sy_rd h 8 0) = 0)) => ?_) (fun (c2 : ¬ ¬ ((sy_rd h 8 0) = 0)) => ?_)
  · skip
    rw [if_neg c2]
    refine sy_st (S' := (mj_m_55, 14, [(0, .ref 0)], [.ref 0], h)) mj_d_55_13 (fun _ _ => rfl) ?_
    refine sy_gr2 (b := 19) mj_d_55_14 rfl rfl (by decide) rfl rfl hH ?_
    refine sy_st (S' := (mj_m_55, 18, [(0, .ref 0)], [.ref 0, .ref 19], h)) mj_d_55_17 (fun _ _ => rfl) ?_
    refine sy_gr2 (b := 13) mj_d_55_18 rfl rfl (by decide) rfl rfl hH ?_
    refine sy_cv (M' := mj_m_47) (vs := [.ref 19, .ref 13]) (rest := []) mj_d_55_21 rfl rfl rfl rfl hH rfl rfl ⟨by decide, ⟨Nat.le_of_ble_eq_true rfl, Nat.le_of_ble_eq_true rfl, Nat.le_of_ble_eq_true rfl, Nat.le_of_ble_eq_true rfl, Nat.le_of_ble_eq_true rfl⟩⟩ (dt_Past_remember hH) ?_
    rintro _ h3 ⟨rfl, th3, eh3⟩
    show sy_wp (mj_m_55, 24, [(0, .ref 0)], [], h3) _
    refine sy_st (S' := (mj_m_55, 25, [(0, .ref 0)], [.ref 0], h3)) mj_d_55_24 (fun _ _ => rfl) ?_
    refine sy_gr2 (b := 13) mj_d_55_25 rfl rfl (by decide) rfl rfl th3 ?_
    refine sy_st (S' := (mj_m_55, 29, [(0, .ref 0)], [.ref 0, .ref 13], h3)) mj_d_55_28 (fun _ _ => rfl) ?_
    refine sy_gr2 (b := 8) mj_d_55_29 rfl rfl (by decide) rfl rfl th3 ?_
    refine sy_gf mj_d_55_32 rfl rfl (by decide) rfl th3 ?_
    intro x5 ex5 bx5 tx5
    rw [eh3] at ex5
    subst ex5
    refine sy_cv (M' := mj_m_56) (vs := [.ref 13, sy_i ((dc_Past_remember (sy_rd h)) 8 2)]) (rest := []) mj_d_55_35 rfl rfl rfl rfl th3 rfl rfl ⟨by decide, ⟨Nat.le_of_ble_eq_true rfl, Nat.le_of_ble_eq_true rfl, Nat.le_of_ble_eq_true rfl, Nat.le_of_ble_eq_true rfl, Nat.le_of_ble_eq_true rfl⟩⟩ (dt_St_washOff (a1 := ((dc_Past_remember (sy_rd h)) 8 2)) th3 (by omega) (by omega)) ?_
    rintro _ h6 ⟨th6, eh6, rfl, b7, b7t⟩
    rw [eh3] at eh6 b7 b7t ⊢
    show sy_wp (mj_m_55, 38, [(0, .ref 0)], [sy_i ((dc_St_washOff (dc_Past_remember (sy_rd h)) ((dc_Past_remember (sy_rd h)) 8 2)).2)], h6) _
    exact sy_reti mj_d_55_38 rfl ⟨th6, eh6, rfl, by omega, by omega⟩
  · skip
    rw [if_pos (Decidable.not_not.mp c2)]
    replace c2 := Decidable.not_not.mp c2
    refine sy_ldc (n := -1000000003) mj_d_55_10 rfl (by decide) ?_
    exact sy_reti mj_d_55_12 rfl ⟨hH, rfl, rfl, by omega, by omega⟩
def dc_C_swept (s : sg_S) (a1 : Int) : sg_S × Int := (if (dc_C_isHouse s a1) = 0 then (s, (-1000000001)) else ((sg_up (dc_Past_remember s) 14 ((a1).toNat) 0), (dc_Soot_layers (dc_Past_remember s) ((dc_Past_remember s) 14 ((a1).toNat)))))
set_option maxRecDepth 100000 in
theorem dt_C_swept {h : mj_H} (hH : sy_H h) {a1 : Int} (b_a1 : (-2147483648) ≤ a1) (t_a1 : a1 ≤ 2147483647) : sy_wp (mj_m_58, 0, [(0, .ref 0), (1, sy_i a1)], [], h) (dq2 (-2147483648) (2147483647) (dc_C_swept (sy_rd h) a1)) := by
  unfold dc_C_swept
  have n8_3 := hH.bd (a := 8) (k := 3) rfl (by decide) rfl
  refine sy_st (S' := (mj_m_58, 1, [(0, .ref 0), (1, sy_i a1)], [.ref 0], h)) mj_d_58_0 (fun _ _ => rfl) ?_
  refine sy_st (S' := (mj_m_58, 2, [(0, .ref 0), (1, sy_i a1)], [sy_i a1, .ref 0], h)) mj_d_58_1 (fun _ _ => rfl) ?_
  refine sy_cv (M' := mj_m_39) (vs := [.ref 0, sy_i a1]) (rest := []) mj_d_58_2 rfl rfl rfl rfl hH rfl rfl ⟨by decide, ⟨Nat.le_of_ble_eq_true rfl, Nat.le_of_ble_eq_true rfl, Nat.le_of_ble_eq_true rfl, Nat.le_of_ble_eq_true rfl, Nat.le_of_ble_eq_true rfl⟩⟩ (dt_C_isHouse (a1 := a1) hH (by omega) (by omega)) ?_
  rintro _ _ ⟨rfl, rfl, b1, b1t⟩
  have q2 := df_C_isHouse_0 (sy_rd h) a1
  show sy_wp (mj_m_58, 5, [(0, .ref 0), (1, sy_i a1)], [sy_i (dc_C_isHouse (sy_rd h) a1)], h) _
  refine sy_ifc mj_d_58_5 rfl ⟨by omega, by omega⟩ (fun (c3 : ¬ ((dc_C_isHouse (sy_rd h) a1) = 0)) => ?_) (fun (c3 : ¬ ¬ ((dc_C_isHouse (sy_rd h) a1) = 0)) => ?_)
  · skip
    rw [if_neg c3]
    refine sy_st (S' := (mj_m_58, 12, [(0, .ref 0), (1, sy_i a1)], [.ref 0], h)) mj_d_58_11 (fun _ _ => rfl) ?_
    refine sy_gr2 (b := 19) mj_d_58_12 rfl rfl (by decide) rfl rfl hH ?_
    refine sy_st (S' := (mj_m_58, 16, [(0, .ref 0), (1, sy_i a1)], [.ref 0, .ref 19], h)) mj_d_58_15 (fun _ _ => rfl) ?_
    refine sy_gr2 (b := 13) mj_d_58_16 rfl rfl (by decide) rfl rfl hH ?_
    refine sy_cv (M' := mj_m_47) (vs := [.ref 19, .ref 13]) (rest := []) mj_d_58_19 rfl rfl rfl rfl hH rfl rfl ⟨by decide, ⟨Nat.le_of_ble_eq_true rfl, Nat.le_of_ble_eq_true rfl, Nat.le_of_ble_eq_true rfl, Nat.le_of_ble_eq_true rfl, Nat.le_of_ble_eq_true rfl⟩⟩ (dt_Past_remember hH) ?_
    rintro _ h4 ⟨rfl, th4, eh4⟩
    show sy_wp (mj_m_58, 22, [(0, .ref 0), (1, sy_i a1)], [], h4) _
    refine sy_st (S' := (mj_m_58, 23, [(0, .ref 0), (1, sy_i a1)], [.ref 0], h4)) mj_d_58_22 (fun _ _ => rfl) ?_
    refine sy_gr2 (b := 13) mj_d_58_23 rfl rfl (by decide) rfl rfl th4 ?_
    refine sy_gr2 (b := 14) mj_d_58_26 rfl rfl (by decide) rfl rfl th4 ?_
    refine sy_st (S' := (mj_m_58, 30, [(0, .ref 0), (1, sy_i a1)], [sy_i a1, .ref 14], h4)) mj_d_58_29 (fun _ _ => rfl) ?_
    refine sy_ia mj_d_58_30 rfl (by decide) (by omega) (by omega) (ab_el_1 rfl _) th4 ?_
    intro x6 ex6 bx6 tx6
    rw [eh4] at ex6
    subst ex6
    refine sy_cs (M' := mj_m_36) (vs := [sy_i ((dc_Past_remember (sy_rd h)) 14 ((a1).toNat))]) (rest := []) mj_d_58_31 rfl rfl rfl rfl ⟨Nat.le_of_ble_eq_true rfl, Nat.le_of_ble_eq_true rfl, Nat.le_of_ble_eq_true rfl, Nat.le_of_ble_eq_true rfl, Nat.le_of_ble_eq_true rfl⟩ (dt_Soot_layers (a0 := ((dc_Past_remember (sy_rd h)) 14 ((a1).toNat))) th4 (by omega) (by omega)) ?_
    rintro _ _ ⟨rfl, rfl, b7, b7t⟩
    rw [eh4] at b7 b7t ⊢
    show sy_wp (mj_m_58, 34, [(0, .ref 0), (1, sy_i a1)], [sy_i (dc_Soot_layers (dc_Past_remember (sy_rd h)) ((dc_Past_remember (sy_rd h)) 14 ((a1).toNat)))], h4) _
    refine sy_st (S' := (mj_m_58, 35, [(2, sy_i (dc_Soot_layers (dc_Past_remember (sy_rd h)) ((dc_Past_remember (sy_rd h)) 14 ((a1).toNat)))), (0, .ref 0), (1, sy_i a1)], [], h4)) mj_d_58_34 (fun _ _ => rfl) ?_
    refine sy_st (S' := (mj_m_58, 36, [(2, sy_i (dc_Soot_layers (dc_Past_remember (sy_rd h)) ((dc_Past_remember (sy_rd h)) 14 ((a1).toNat)))), (0, .ref 0), (1, sy_i a1)], [.ref 0], h4)) mj_d_58_35 (fun _ _ => rfl) ?_
    refine sy_gr2 (b := 13) mj_d_58_36 rfl rfl (by decide) rfl rfl th4 ?_
    refine sy_gr2 (b := 14) mj_d_58_39 rfl rfl (by decide) rfl rfl th4 ?_
    refine sy_st (S' := (mj_m_58, 43, [(2, sy_i (dc_Soot_layers (dc_Past_remember (sy_rd h)) ((dc_Past_remember (sy_rd h)) 14 ((a1).toNat)))), (0, .ref 0), (1, sy_i a1)], [sy_i a1, .ref 14], h4)) mj_d_58_42 (fun _ _ => rfl) ?_
    refine sy_st (S' := (mj_m_58, 44, [(2, sy_i (dc_Soot_layers (dc_Past_remember (sy_rd h)) ((dc_Past_remember (sy_rd h)) 14 ((a1).toNat)))), (0, .ref 0), (1, sy_i a1)], [sy_i 0, sy_i a1, .ref 14], h4)) mj_d_58_43 (fun _ _ => rfl) ?_
    refine sg_ias (v := 0) mj_d_58_44 rfl (by decide) (by omega) (by omega) (ab_el_1 rfl _) th4 (by omega) (by omega) ⟨by omega, by omega⟩ ?_
    intro h8 th8 eh8
    rw [eh4] at eh8
    refine sy_st (S' := (mj_m_58, 46, [(2, sy_i (dc_Soot_layers (dc_Past_remember (sy_rd h)) ((dc_Past_remember (sy_rd h)) 14 ((a1).toNat)))), (0, .ref 0), (1, sy_i a1)], [sy_i (dc_Soot_layers (dc_Past_remember (sy_rd h)) ((dc_Past_remember (sy_rd h)) 14 ((a1).toNat)))], h8)) mj_d_58_45 (fun _ _ => rfl) ?_
    exact sy_reti mj_d_58_46 rfl ⟨th8, eh8, rfl, by omega, by omega⟩
  · skip
    rw [if_pos (Decidable.not_not.mp c3)]
    replace c3 := Decidable.not_not.mp c3
    refine sy_ldc (n := -1000000001) mj_d_58_8 rfl (by decide) ?_
    exact sy_reti mj_d_58_10 rfl ⟨hH, rfl, rfl, by omega, by omega⟩
def dc_C_run (s : sg_S) (a1 a2 : Int) : sg_S × Int := (if (dc_C_isHouse s a1) = 0 then (s, (-1000000001)) else (if a2 < (-1) then (s, (-1000000001)) else (if a2 < a1 then ((sg_up (dc_Past_remember s) 16 ((a1).toNat) a2), ((dc_Past_remember s) 16 ((a1).toNat))) else (s, (-1000000001)))))
set_option maxRecDepth 100000 in
theorem dt_C_run {h : mj_H} (hH : sy_H h) {a1 a2 : Int} (b_a1 : (-2147483648) ≤ a1) (t_a1 : a1 ≤ 2147483647) (b_a2 : (-2147483648) ≤ a2) (t_a2 : a2 ≤ 2147483647) : sy_wp (mj_m_59, 0, [(0, .ref 0), (1, sy_i a1), (2, sy_i a2)], [], h) (dq2 (-2147483648) (2147483647) (dc_C_run (sy_rd h) a1 a2)) := by
  unfold dc_C_run
  have n8_3 := hH.bd (a := 8) (k := 3) rfl (by decide) rfl
  refine sy_st (S' := (mj_m_59, 1, [(0, .ref 0), (1, sy_i a1), (2, sy_i a2)], [.ref 0], h)) mj_d_59_0 (fun _ _ => rfl) ?_
  refine sy_st (S' := (mj_m_59, 2, [(0, .ref 0), (1, sy_i a1), (2, sy_i a2)], [sy_i a1, .ref 0], h)) mj_d_59_1 (fun _ _ => rfl) ?_
  refine sy_cv (M' := mj_m_39) (vs := [.ref 0, sy_i a1]) (rest := []) mj_d_59_2 rfl rfl rfl rfl hH rfl rfl ⟨by decide, ⟨Nat.le_of_ble_eq_true rfl, Nat.le_of_ble_eq_true rfl, Nat.le_of_ble_eq_true rfl, Nat.le_of_ble_eq_true rfl, Nat.le_of_ble_eq_true rfl⟩⟩ (dt_C_isHouse (a1 := a1) hH (by omega) (by omega)) ?_
  rintro _ _ ⟨rfl, rfl, b1, b1t⟩
  have q2 := df_C_isHouse_0 (sy_rd h) a1
  show sy_wp (mj_m_59, 5, [(0, .ref 0), (1, sy_i a1), (2, sy_i a2)], [sy_i (dc_C_isHouse (sy_rd h) a1)], h) _
  refine sy_ifc mj_d_59_5 rfl ⟨by omega, by omega⟩ (fun (c3 : (dc_C_isHouse (sy_rd h) a1) = 0) => ?_) (fun (c3 : ¬ ((dc_C_isHouse (sy_rd h) a1) = 0)) => ?_)
  · skip
    rw [if_pos c3]
    refine sy_ldc (n := -1000000001) mj_d_59_18 rfl (by decide) ?_
    exact sy_reti mj_d_59_20 rfl ⟨hH, rfl, rfl, by omega, by omega⟩
  · skip
    rw [if_neg c3]
    refine sy_st (S' := (mj_m_59, 9, [(0, .ref 0), (1, sy_i a1), (2, sy_i a2)], [sy_i a2], h)) mj_d_59_8 (fun _ _ => rfl) ?_
    refine sy_st (S' := (mj_m_59, 10, [(0, .ref 0), (1, sy_i a1), (2, sy_i a2)], [sy_i (-1), sy_i a2], h)) mj_d_59_9 (fun _ _ => rfl) ?_
    refine sy_icm mj_d_59_10 rfl ⟨by omega, by omega⟩ ⟨by omega, by omega⟩ (fun (c4 : a2 < (-1)) => ?_) (fun (c4 : ¬ (a2 < (-1))) => ?_)
    · skip
      rw [if_pos c4]
      refine sy_ldc (n := -1000000001) mj_d_59_18 rfl (by decide) ?_
      exact sy_reti mj_d_59_20 rfl ⟨hH, rfl, rfl, by omega, by omega⟩
    · skip
      rw [if_neg c4]
      refine sy_st (S' := (mj_m_59, 14, [(0, .ref 0), (1, sy_i a1), (2, sy_i a2)], [sy_i a2], h)) mj_d_59_13 (fun _ _ => rfl) ?_
      refine sy_st (S' := (mj_m_59, 15, [(0, .ref 0), (1, sy_i a1), (2, sy_i a2)], [sy_i a1, sy_i a2], h)) mj_d_59_14 (fun _ _ => rfl) ?_
      refine sy_icm mj_d_59_15 rfl ⟨by omega, by omega⟩ ⟨by omega, by omega⟩ (fun (c5 : a2 < a1) => ?_) (fun (c5 : ¬ (a2 < a1)) => ?_)
      · skip
        rw [if_pos c5]
        refine sy_st (S' := (mj_m_59, 22, [(0, .ref 0), (1, sy_i a1), (2, sy_i a2)], [.ref 0], h)) mj_d_59_21 (fun _ _ => rfl) ?_
        refine sy_gr2 (b := 19) mj_d_59_22 rfl rfl (by decide) rfl rfl hH ?_
        refine sy_st (S' := (mj_m_59, 26, [(0, .ref 0), (1, sy_i a1), (2, sy_i a2)], [.ref 0, .ref 19], h)) mj_d_59_25 (fun _ _ => rfl) ?_
        refine sy_gr2 (b := 13) mj_d_59_26 rfl rfl (by decide) rfl rfl hH ?_
        refine sy_cv (M' := mj_m_47) (vs := [.ref 19, .ref 13]) (rest := []) mj_d_59_29 rfl rfl rfl rfl hH rfl rfl ⟨by decide, ⟨Nat.le_of_ble_eq_true rfl, Nat.le_of_ble_eq_true rfl, Nat.le_of_ble_eq_true rfl, Nat.le_of_ble_eq_true rfl, Nat.le_of_ble_eq_true rfl⟩⟩ (dt_Past_remember hH) ?_
        rintro _ h6 ⟨rfl, th6, eh6⟩
        show sy_wp (mj_m_59, 32, [(0, .ref 0), (1, sy_i a1), (2, sy_i a2)], [], h6) _
        refine sy_st (S' := (mj_m_59, 33, [(0, .ref 0), (1, sy_i a1), (2, sy_i a2)], [.ref 0], h6)) mj_d_59_32 (fun _ _ => rfl) ?_
        refine sy_gr2 (b := 13) mj_d_59_33 rfl rfl (by decide) rfl rfl th6 ?_
        refine sy_gr2 (b := 16) mj_d_59_36 rfl rfl (by decide) rfl rfl th6 ?_
        refine sy_st (S' := (mj_m_59, 40, [(0, .ref 0), (1, sy_i a1), (2, sy_i a2)], [sy_i a1, .ref 16], h6)) mj_d_59_39 (fun _ _ => rfl) ?_
        refine sy_ia mj_d_59_40 rfl (by decide) (by omega) (by omega) (ab_el_1 rfl _) th6 ?_
        intro x8 ex8 bx8 tx8
        rw [eh6] at ex8
        subst ex8
        refine sy_st (S' := (mj_m_59, 42, [(3, sy_i ((dc_Past_remember (sy_rd h)) 16 ((a1).toNat))), (0, .ref 0), (1, sy_i a1), (2, sy_i a2)], [], h6)) mj_d_59_41 (fun _ _ => rfl) ?_
        refine sy_st (S' := (mj_m_59, 43, [(3, sy_i ((dc_Past_remember (sy_rd h)) 16 ((a1).toNat))), (0, .ref 0), (1, sy_i a1), (2, sy_i a2)], [.ref 0], h6)) mj_d_59_42 (fun _ _ => rfl) ?_
        refine sy_gr2 (b := 13) mj_d_59_43 rfl rfl (by decide) rfl rfl th6 ?_
        refine sy_gr2 (b := 16) mj_d_59_46 rfl rfl (by decide) rfl rfl th6 ?_
        refine sy_st (S' := (mj_m_59, 50, [(3, sy_i ((dc_Past_remember (sy_rd h)) 16 ((a1).toNat))), (0, .ref 0), (1, sy_i a1), (2, sy_i a2)], [sy_i a1, .ref 16], h6)) mj_d_59_49 (fun _ _ => rfl) ?_
        refine sy_st (S' := (mj_m_59, 51, [(3, sy_i ((dc_Past_remember (sy_rd h)) 16 ((a1).toNat))), (0, .ref 0), (1, sy_i a1), (2, sy_i a2)], [sy_i a2, sy_i a1, .ref 16], h6)) mj_d_59_50 (fun _ _ => rfl) ?_
        refine sg_ias (v := a2) mj_d_59_51 rfl (by decide) (by omega) (by omega) (ab_el_1 rfl _) th6 (by omega) (by omega) ⟨by omega, by omega⟩ ?_
        intro h9 th9 eh9
        rw [eh6] at eh9
        refine sy_st (S' := (mj_m_59, 53, [(3, sy_i ((dc_Past_remember (sy_rd h)) 16 ((a1).toNat))), (0, .ref 0), (1, sy_i a1), (2, sy_i a2)], [sy_i ((dc_Past_remember (sy_rd h)) 16 ((a1).toNat))], h9)) mj_d_59_52 (fun _ _ => rfl) ?_
        exact sy_reti mj_d_59_53 rfl ⟨th9, eh9, rfl, by omega, by omega⟩
      · skip
        rw [if_neg c5]
        refine sy_ldc (n := -1000000001) mj_d_59_18 rfl (by decide) ?_
        exact sy_reti mj_d_59_20 rfl ⟨hH, rfl, rfl, by omega, by omega⟩
def dc_C_undo (s : sg_S) (a1 : Int) : sg_S × Int := (if a1 < 1 then (s, (-1000000002)) else (if a1 ≤ 30 then (if a1 ≤ (s 19 2) then ((dc_Past_bringBack s a1), ((dc_Past_bringBack s a1) 13 5)) else (s, (-1000000003))) else (s, (-1000000002))))
set_option maxRecDepth 100000 in
theorem dt_C_undo {h : mj_H} (hH : sy_H h) {a1 : Int} (b_a1 : (-2147483648) ≤ a1) (t_a1 : a1 ≤ 2147483647) : sy_wp (mj_m_68, 0, [(0, .ref 0), (1, sy_i a1)], [], h) (dq2 (-2147483648) (2147483647) (dc_C_undo (sy_rd h) a1)) := by
  unfold dc_C_undo
  refine sy_st (S' := (mj_m_68, 1, [(0, .ref 0), (1, sy_i a1)], [sy_i a1], h)) mj_d_68_0 (fun _ _ => rfl) ?_
  refine sy_st (S' := (mj_m_68, 2, [(0, .ref 0), (1, sy_i a1)], [sy_i 1, sy_i a1], h)) mj_d_68_1 (fun _ _ => rfl) ?_
  refine sy_icm mj_d_68_2 rfl ⟨by omega, by omega⟩ ⟨by omega, by omega⟩ (fun (c1 : a1 < 1) => ?_) (fun (c1 : ¬ (a1 < 1)) => ?_)
  · skip
    rw [if_pos c1]
    refine sy_ldc (n := -1000000002) mj_d_68_11 rfl (by decide) ?_
    exact sy_reti mj_d_68_13 rfl ⟨hH, rfl, rfl, by omega, by omega⟩
  · skip
    rw [if_neg c1]
    refine sy_st (S' := (mj_m_68, 6, [(0, .ref 0), (1, sy_i a1)], [sy_i a1], h)) mj_d_68_5 (fun _ _ => rfl) ?_
    refine sy_bip mj_d_68_6 (by decide) ?_
    refine sy_icm mj_d_68_8 rfl ⟨by omega, by omega⟩ ⟨by omega, by omega⟩ (fun (c2 : a1 ≤ 30) => ?_) (fun (c2 : ¬ (a1 ≤ 30)) => ?_)
    · skip
      rw [if_pos c2]
      refine sy_st (S' := (mj_m_68, 15, [(0, .ref 0), (1, sy_i a1)], [sy_i a1], h)) mj_d_68_14 (fun _ _ => rfl) ?_
      refine sy_st (S' := (mj_m_68, 16, [(0, .ref 0), (1, sy_i a1)], [.ref 0, sy_i a1], h)) mj_d_68_15 (fun _ _ => rfl) ?_
      refine sy_gr2 (b := 19) mj_d_68_16 rfl rfl (by decide) rfl rfl hH ?_
      refine sy_gf mj_d_68_19 rfl rfl (by decide) rfl hH ?_
      rintro _ rfl bx3 tx3
      refine sy_icm mj_d_68_22 rfl ⟨by omega, by omega⟩ ⟨by omega, by omega⟩ (fun (c4 : a1 ≤ (sy_rd h 19 2)) => ?_) (fun (c4 : ¬ (a1 ≤ (sy_rd h 19 2))) => ?_)
      · skip
        rw [if_pos c4]
        refine sy_st (S' := (mj_m_68, 29, [(0, .ref 0), (1, sy_i a1)], [.ref 0], h)) mj_d_68_28 (fun _ _ => rfl) ?_
        refine sy_gr2 (b := 19) mj_d_68_29 rfl rfl (by decide) rfl rfl hH ?_
        refine sy_st (S' := (mj_m_68, 33, [(0, .ref 0), (1, sy_i a1)], [sy_i a1, .ref 19], h)) mj_d_68_32 (fun _ _ => rfl) ?_
        refine sy_st (S' := (mj_m_68, 34, [(0, .ref 0), (1, sy_i a1)], [.ref 0, sy_i a1, .ref 19], h)) mj_d_68_33 (fun _ _ => rfl) ?_
        refine sy_gr2 (b := 13) mj_d_68_34 rfl rfl (by decide) rfl rfl hH ?_
        refine sy_cv (M' := mj_m_69) (vs := [.ref 19, sy_i a1, .ref 13]) (rest := []) mj_d_68_37 rfl rfl rfl rfl hH rfl rfl ⟨by decide, ⟨Nat.le_of_ble_eq_true rfl, Nat.le_of_ble_eq_true rfl, Nat.le_of_ble_eq_true rfl, Nat.le_of_ble_eq_true rfl, Nat.le_of_ble_eq_true rfl⟩⟩ (dt_Past_bringBack (a1 := a1) hH (by omega) (by omega) (by first | omega | assumption)) ?_
        rintro _ h5 ⟨rfl, th5, eh5⟩
        show sy_wp (mj_m_68, 40, [(0, .ref 0), (1, sy_i a1)], [], h5) _
        refine sy_st (S' := (mj_m_68, 41, [(0, .ref 0), (1, sy_i a1)], [.ref 0], h5)) mj_d_68_40 (fun _ _ => rfl) ?_
        refine sy_gr2 (b := 13) mj_d_68_41 rfl rfl (by decide) rfl rfl th5 ?_
        refine sy_gf mj_d_68_44 rfl rfl (by decide) rfl th5 ?_
        intro x7 ex7 bx7 tx7
        rw [eh5] at ex7
        subst ex7
        exact sy_reti mj_d_68_47 rfl ⟨th5, eh5, rfl, by omega, by omega⟩
      · skip
        rw [if_neg c4]
        refine sy_ldc (n := -1000000003) mj_d_68_25 rfl (by decide) ?_
        exact sy_reti mj_d_68_27 rfl ⟨hH, rfl, rfl, by omega, by omega⟩
    · skip
      rw [if_neg c2]
      refine sy_ldc (n := -1000000002) mj_d_68_11 rfl (by decide) ?_
      exact sy_reti mj_d_68_13 rfl ⟨hH, rfl, rfl, by omega, by omega⟩
def dc_Rows_addToHeap_3 (n : Nat) : sg_S → Int → Int → Int → Int → sg_S := Nat.rec (fun (s : sg_S) l1 l2 l3 l4 => s) (fun _ ih => fun s l1 l2 l3 l4 => (if l3 ≤ l4 then s else (if l2 = 0 then s else (ih (sg_up (sg_up s 225 ((l1).toNat) (dc_Soot_laid s (s 225 ((l1).toNat)) l2)) 226 ((l1).toNat) (sy_w ((s 226 ((l1).toNat)) + 1))) l1 l2 l3 (l4 + 1))))) n
theorem dc_Rows_addToHeap_3_s (n : Nat) (s : sg_S) (l1 l2 l3 l4 : Int) : dc_Rows_addToHeap_3 (n + 1) s l1 l2 l3 l4 = (if l3 ≤ l4 then s else (if l2 = 0 then s else ((dc_Rows_addToHeap_3 n) (sg_up (sg_up s 225 ((l1).toNat) (dc_Soot_laid s (s 225 ((l1).toNat)) l2)) 226 ((l1).toNat) (sy_w ((s 226 ((l1).toNat)) + 1))) l1 l2 l3 (l4 + 1)))) := rfl
def dc_Rows_addToHeap (s : sg_S) (a1 a2 a3 : Int) : sg_S := (dc_Rows_addToHeap_3 3 s a1 a2 a3 0)
set_option maxRecDepth 100000 in
theorem dt_Rows_addToHeap_3 : ∀ (n : Nat) {h : mj_H} (hH : sy_H h) {l1 l2 l3 l4 : Int} (b_l1 : 0 ≤ l1) (t_l1 : l1 ≤ 7) (b_l2 : 0 ≤ l2) (t_l2 : l2 ≤ 7) (b_l3 : 0 ≤ l3) (t_l3 : l3 ≤ 2) (b_l4 : 0 ≤ l4) (t_l4 : l4 ≤ 2) (i0 : l4 ≤ l3) (hm : 2 - l4 < (n : Int)), sy_wp (mj_m_73, 3, [(0, .ref 224), (1, sy_i l1), (2, sy_i l2), (3, sy_i l3), (4, sy_i l4)], [], h) (dq3 (dc_Rows_addToHeap_3 n (sy_rd h) l1 l2 l3 l4)) := by
  intro n
  induction n with
  | zero =>
    intro h hH l1 l2 l3 l4 b_l1 t_l1 b_l2 t_l2 b_l3 t_l3 b_l4 t_l4 i0 hm
    exact absurd hm (by omega)
  | succ n ih =>
    intro h hH l1 l2 l3 l4 b_l1 t_l1 b_l2 t_l2 b_l3 t_l3 b_l4 t_l4 i0 hm
    rw [dc_Rows_addToHeap_3_s]
    refine sy_st (S' := (mj_m_73, 5, [(0, .ref 224), (1, sy_i l1), (2, sy_i l2), (3, sy_i l3), (4, sy_i l4)], [sy_i l4], h)) mj_d_73_3 (fun _ _ => rfl) ?_
    refine sy_st (S' := (mj_m_73, 6, [(0, .ref 224), (1, sy_i l1), (2, sy_i l2), (3, sy_i l3), (4, sy_i l4)], [sy_i l3, sy_i l4], h)) mj_d_73_5 (fun _ _ => rfl) ?_
    refine sy_icm mj_d_73_6 rfl ⟨by omega, by omega⟩ ⟨by omega, by omega⟩ (fun (c1 : l3 ≤ l4) => ?_) (fun (c1 : ¬ (l3 ≤ l4)) => ?_)
    · skip
      rw [if_pos c1]
      exact sy_retv mj_d_73_45 rfl ⟨rfl, hH, rfl⟩
    · skip
      rw [if_neg c1]
      refine sy_st (S' := (mj_m_73, 10, [(0, .ref 224), (1, sy_i l1), (2, sy_i l2), (3, sy_i l3), (4, sy_i l4)], [sy_i l2], h)) mj_d_73_9 (fun _ _ => rfl) ?_
      refine sy_ifc mj_d_73_10 rfl ⟨by omega, by omega⟩ (fun (c2 : l2 = 0) => ?_) (fun (c2 : ¬ (l2 = 0)) => ?_)
      · skip
        rw [if_pos c2]
        exact sy_retv mj_d_73_45 rfl ⟨rfl, hH, rfl⟩
      · skip
        rw [if_neg c2]
        refine sy_st (S' := (mj_m_73, 14, [(0, .ref 224), (1, sy_i l1), (2, sy_i l2), (3, sy_i l3), (4, sy_i l4)], [.ref 224], h)) mj_d_73_13 (fun _ _ => rfl) ?_
        refine sy_gr2 (b := 225) mj_d_73_14 rfl rfl (by decide) rfl rfl hH ?_
        refine sy_st (S' := (mj_m_73, 18, [(0, .ref 224), (1, sy_i l1), (2, sy_i l2), (3, sy_i l3), (4, sy_i l4)], [sy_i l1, .ref 225], h)) mj_d_73_17 (fun _ _ => rfl) ?_
        refine sy_st (S' := (mj_m_73, 19, [(0, .ref 224), (1, sy_i l1), (2, sy_i l2), (3, sy_i l3), (4, sy_i l4)], [.ref 224, sy_i l1, .ref 225], h)) mj_d_73_18 (fun _ _ => rfl) ?_
        refine sy_gr2 (b := 225) mj_d_73_19 rfl rfl (by decide) rfl rfl hH ?_
        refine sy_st (S' := (mj_m_73, 23, [(0, .ref 224), (1, sy_i l1), (2, sy_i l2), (3, sy_i l3), (4, sy_i l4)], [sy_i l1, .ref 225, sy_i l1, .ref 225], h)) mj_d_73_22 (fun _ _ => rfl) ?_
        refine sy_ia mj_d_73_23 rfl (by decide) (by omega) (by omega) (ab_el_1 rfl _) hH ?_
        rintro _ rfl bx3 tx3
        refine sy_st (S' := (mj_m_73, 25, [(0, .ref 224), (1, sy_i l1), (2, sy_i l2), (3, sy_i l3), (4, sy_i l4)], [sy_i l2, sy_i (sy_rd h 225 ((l1).toNat)), sy_i l1, .ref 225], h)) mj_d_73_24 (fun _ _ => rfl) ?_
        refine sy_cs (M' := mj_m_52) (vs := [sy_i (sy_rd h 225 ((l1).toNat)), sy_i l2]) (rest := [sy_i l1, .ref 225]) mj_d_73_25 rfl rfl rfl rfl ⟨Nat.le_of_ble_eq_true rfl, Nat.le_of_ble_eq_true rfl, Nat.le_of_ble_eq_true rfl, Nat.le_of_ble_eq_true rfl, Nat.le_of_ble_eq_true rfl⟩ (dt_Soot_laid (a0 := (sy_rd h 225 ((l1).toNat))) (a1 := l2) hH (by omega) (by omega) (by omega) (by omega)) ?_
        rintro _ _ ⟨rfl, rfl, b4, b4t⟩
        show sy_wp (mj_m_73, 28, [(0, .ref 224), (1, sy_i l1), (2, sy_i l2), (3, sy_i l3), (4, sy_i l4)], [sy_i (dc_Soot_laid (sy_rd h) (sy_rd h 225 ((l1).toNat)) l2), sy_i l1, .ref 225], h) _
        refine sg_ias (v := (dc_Soot_laid (sy_rd h) (sy_rd h 225 ((l1).toNat)) l2)) mj_d_73_28 rfl (by decide) (by omega) (by omega) (ab_el_1 rfl _) hH (by omega) (by omega) ⟨by omega, by omega⟩ ?_
        intro h5 th5 eh5
        refine sy_st (S' := (mj_m_73, 30, [(0, .ref 224), (1, sy_i l1), (2, sy_i l2), (3, sy_i l3), (4, sy_i l4)], [.ref 224], h5)) mj_d_73_29 (fun _ _ => rfl) ?_
        refine sy_gr2 (b := 226) mj_d_73_30 rfl rfl (by decide) rfl rfl th5 ?_
        refine sy_st (S' := (mj_m_73, 34, [(0, .ref 224), (1, sy_i l1), (2, sy_i l2), (3, sy_i l3), (4, sy_i l4)], [sy_i l1, .ref 226], h5)) mj_d_73_33 (fun _ _ => rfl) ?_
        refine sy_st (S' := (mj_m_73, 35, [(0, .ref 224), (1, sy_i l1), (2, sy_i l2), (3, sy_i l3), (4, sy_i l4)], [sy_i l1, .ref 226, sy_i l1, .ref 226], h5)) mj_d_73_34 (fun _ _ => rfl) ?_
        refine sy_ia mj_d_73_35 rfl (by decide) (by omega) (by omega) (ab_el_1 rfl _) th5 ?_
        intro x6 ex6 bx6 tx6
        rw [eh5, sg_na (by decide)] at ex6
        subst ex6
        refine sy_st (S' := (mj_m_73, 37, [(0, .ref 224), (1, sy_i l1), (2, sy_i l2), (3, sy_i l3), (4, sy_i l4)], [sy_i 1, sy_i (sy_rd h 226 ((l1).toNat)), sy_i l1, .ref 226], h5)) mj_d_73_36 (fun _ _ => rfl) ?_
        refine sy_add mj_d_73_37 ?_
        refine sg_iasw (v := ((sy_rd h 226 ((l1).toNat)) + 1)) mj_d_73_38 rfl (by decide) (by omega) (by omega) (ab_el_1 rfl _) th5 ?_
        intro h7 th7 eh7
        rw [eh5] at eh7
        refine sy_inc (a := l4) (lv' := [(4, sy_i (l4 + 1)), (0, .ref 224), (1, sy_i l1), (2, sy_i l2), (3, sy_i l3)]) mj_d_73_39 (Nat.le_of_ble_eq_true rfl) rfl rfl ?_
        refine sy_st (S' := (mj_m_73, 3, [(4, sy_i (l4 + 1)), (0, .ref 224), (1, sy_i l1), (2, sy_i l2), (3, sy_i l3)], [], h7)) mj_d_73_42 (fun _ _ => rfl) ?_
        refine sy_lv (lv := [(0, .ref 224), (1, sy_i l1), (2, sy_i l2), (3, sy_i l3), (4, sy_i (l4 + 1))]) rfl ⟨rfl, rfl, rfl, rfl, rfl, trivial⟩ ?_
        rw [← eh7]
        exact ih th7 (by first | omega | assumption) (by first | omega | assumption) (by first | omega | assumption) (by first | omega | assumption) (by first | omega | assumption) (by first | omega | assumption) (by first | omega | assumption) (by first | omega | assumption) (by first | omega | assumption) (by omega)
set_option maxRecDepth 100000 in
theorem dt_Rows_addToHeap {h : mj_H} (hH : sy_H h) {a1 a2 a3 : Int} (b_a1 : 0 ≤ a1) (t_a1 : a1 ≤ 7) (b_a2 : 0 ≤ a2) (t_a2 : a2 ≤ 7) (b_a3 : 0 ≤ a3) (t_a3 : a3 ≤ 2) : sy_wp (mj_m_73, 0, [(0, .ref 224), (1, sy_i a1), (2, sy_i a2), (3, sy_i a3)], [], h) (dq3 (dc_Rows_addToHeap (sy_rd h) a1 a2 a3)) := by
  unfold dc_Rows_addToHeap
  refine sy_st (S' := (mj_m_73, 1, [(0, .ref 224), (1, sy_i a1), (2, sy_i a2), (3, sy_i a3)], [sy_i 0], h)) mj_d_73_0 (fun _ _ => rfl) ?_
  refine sy_st (S' := (mj_m_73, 3, [(4, sy_i 0), (0, .ref 224), (1, sy_i a1), (2, sy_i a2), (3, sy_i a3)], [], h)) mj_d_73_1 (fun _ _ => rfl) ?_
  refine sy_lv (lv := [(0, .ref 224), (1, sy_i a1), (2, sy_i a2), (3, sy_i a3), (4, sy_i 0)]) rfl ⟨rfl, rfl, rfl, rfl, rfl, trivial⟩ ?_
  exact dt_Rows_addToHeap_3 3 hH (by first | omega | assumption) (by first | omega | assumption) (by first | omega | assumption) (by first | omega | assumption) (by first | omega | assumption) (by first | omega | assumption) (by first | omega | assumption) (by first | omega | assumption) (by first | omega | assumption) (by omega)
def dc_Rows_lookInto_85 (k45 : sg_S → Int → Int → sg_S) (n : Nat) : sg_S → Int → Int → Int → Int → sg_S := Nat.rec (fun (s : sg_S) l1 l4 l5 l6 => s) (fun _ ih => fun s l1 l4 l5 l6 => (if 7 < l6 then (k45 s l1 (l4 + 1)) else (if l5 ≤ 0 then (k45 s l1 (l4 + 1)) else (if l4 = l1 then (ih (dc_Rows_addToHeap s l6 l6 l5) l1 l4 l5 (l6 + 1)) else (ih (dc_Rows_addToHeap s l6 (s 15 ((l4).toNat)) l5) l1 l4 l5 (l6 + 1)))))) n
theorem dc_Rows_lookInto_85_s (k45 : sg_S → Int → Int → sg_S) (n : Nat) (s : sg_S) (l1 l4 l5 l6 : Int) : dc_Rows_lookInto_85 k45 (n + 1) s l1 l4 l5 l6 = (if 7 < l6 then (k45 s l1 (l4 + 1)) else (if l5 ≤ 0 then (k45 s l1 (l4 + 1)) else (if l4 = l1 then ((dc_Rows_lookInto_85 k45 n) (dc_Rows_addToHeap s l6 l6 l5) l1 l4 l5 (l6 + 1)) else ((dc_Rows_lookInto_85 k45 n) (dc_Rows_addToHeap s l6 (s 15 ((l4).toNat)) l5) l1 l4 l5 (l6 + 1))))) := rfl
def dc_Rows_lookInto_45 (n : Nat) : sg_S → Int → Int → sg_S := Nat.rec (fun (s : sg_S) l1 l4 => s) (fun _ ih => fun s l1 l4 => (if (s 8 3) ≤ l4 then s else (if (dc_Plan_neighbour s l4) = l1 then (dc_Rows_lookInto_85 ih 9 s l1 l4 ((sy_and (sy_shr (dc_St_down s l4) l1) 1) + 1) 0) else (dc_Rows_lookInto_85 ih 9 s l1 l4 ((sy_and (sy_shr (dc_St_down s l4) l1) 1) + 0) 0)))) n
theorem dc_Rows_lookInto_45_s (n : Nat) (s : sg_S) (l1 l4 : Int) : dc_Rows_lookInto_45 (n + 1) s l1 l4 = (if (s 8 3) ≤ l4 then s else (if (dc_Plan_neighbour s l4) = l1 then (dc_Rows_lookInto_85 (dc_Rows_lookInto_45 n) 9 s l1 l4 ((sy_and (sy_shr (dc_St_down s l4) l1) 1) + 1) 0) else (dc_Rows_lookInto_85 (dc_Rows_lookInto_45 n) 9 s l1 l4 ((sy_and (sy_shr (dc_St_down s l4) l1) 1) + 0) 0))) := rfl
def dc_Rows_lookInto_13 (n : Nat) : sg_S → Int → Int → sg_S := Nat.rec (fun (s : sg_S) l1 l4 => s) (fun _ ih => fun s l1 l4 => (if 7 < l4 then (dc_Rows_lookInto_45 10 s l1 0) else (ih (sg_up (sg_up s 225 ((l4).toNat) 0) 226 ((l4).toNat) 0) l1 (l4 + 1)))) n
theorem dc_Rows_lookInto_13_s (n : Nat) (s : sg_S) (l1 l4 : Int) : dc_Rows_lookInto_13 (n + 1) s l1 l4 = (if 7 < l4 then (dc_Rows_lookInto_45 10 s l1 0) else ((dc_Rows_lookInto_13 n) (sg_up (sg_up s 225 ((l4).toNat) 0) 226 ((l4).toNat) 0) l1 (l4 + 1))) := rfl
def dc_Rows_lookInto (s : sg_S) (a1 : Int) : sg_S := (dc_Rows_lookInto_13 9 (sg_up s 224 2 (s 14 ((a1).toNat))) a1 0)
set_option maxRecDepth 100000 in
theorem dt_Rows_lookInto_85 {k45 : sg_S → Int → Int → sg_S} {n45 : Nat} (hk45 : ∀ {h1 : mj_H}, sy_H h1 → ∀ {l1 l4 : Int}, 0 ≤ l1 → l1 ≤ 8 → 0 ≤ l4 → l4 ≤ 9 → 9 - l4 < (n45 : Int) → sy_wp (mj_m_71, 45, [(0, .ref 224), (1, sy_i l1), (2, .ref 13), (3, .ref 8), (4, sy_i l4)], [], h1) (dq3 (k45 (sy_rd h1) l1 l4))) : ∀ (n : Nat) {h : mj_H} (hH : sy_H h) {l1 l4 l5 l6 : Int} (b_l1 : 0 ≤ l1) (t_l1 : l1 ≤ 8) (b_l4 : 0 ≤ l4) (t_l4 : l4 ≤ 8) (b_l5 : 0 ≤ l5) (t_l5 : l5 ≤ 2) (b_l6 : 0 ≤ l6) (t_l6 : l6 ≤ 8) (i0 : 9 - (l4 + 1) < (n45 : Int)) (hm : 8 - l6 < (n : Int)), sy_wp (mj_m_71, 85, [(0, .ref 224), (1, sy_i l1), (2, .ref 13), (3, .ref 8), (4, sy_i l4), (5, sy_i l5), (6, sy_i l6)], [], h) (dq3 (dc_Rows_lookInto_85 k45 n (sy_rd h) l1 l4 l5 l6)) := by
  intro n
  induction n with
  | zero =>
    intro h hH l1 l4 l5 l6 b_l1 t_l1 b_l4 t_l4 b_l5 t_l5 b_l6 t_l6 i0 hm
    exact absurd hm (by omega)
  | succ n ih =>
    intro h hH l1 l4 l5 l6 b_l1 t_l1 b_l4 t_l4 b_l5 t_l5 b_l6 t_l6 i0 hm
    rw [dc_Rows_lookInto_85_s]
    refine sy_st (S' := (mj_m_71, 87, [(0, .ref 224), (1, sy_i l1), (2, .ref 13), (3, .ref 8), (4, sy_i l4), (5, sy_i l5), (6, sy_i l6)], [sy_i l6], h)) mj_d_71_85 (fun _ _ => rfl) ?_
    refine sy_bip mj_d_71_87 (by decide) ?_
    refine sy_icm mj_d_71_89 rfl ⟨by omega, by omega⟩ ⟨by omega, by omega⟩ (fun (c1 : 7 < l6) => ?_) (fun (c1 : ¬ (7 < l6)) => ?_)
    · skip
      rw [if_pos c1]
      refine sy_inc (a := l4) (lv' := [(4, sy_i (l4 + 1)), (0, .ref 224), (1, sy_i l1), (2, .ref 13), (3, .ref 8), (5, sy_i l5), (6, sy_i l6)]) mj_d_71_129 (Nat.le_of_ble_eq_true rfl) rfl rfl ?_
      refine sy_st (S' := (mj_m_71, 45, [(4, sy_i (l4 + 1)), (0, .ref 224), (1, sy_i l1), (2, .ref 13), (3, .ref 8), (5, sy_i l5), (6, sy_i l6)], [], h)) mj_d_71_132 (fun _ _ => rfl) ?_
      refine sy_lv (lv := [(0, .ref 224), (1, sy_i l1), (2, .ref 13), (3, .ref 8), (4, sy_i (l4 + 1))]) rfl ⟨rfl, rfl, rfl, rfl, rfl, trivial⟩ ?_
      exact hk45 hH (by first | omega | assumption) (by first | omega | assumption) (by first | omega | assumption) (by first | omega | assumption) (by omega)
    · skip
      rw [if_neg c1]
      refine sy_st (S' := (mj_m_71, 94, [(0, .ref 224), (1, sy_i l1), (2, .ref 13), (3, .ref 8), (4, sy_i l4), (5, sy_i l5), (6, sy_i l6)], [sy_i l5], h)) mj_d_71_92 (fun _ _ => rfl) ?_
      refine sy_ifc mj_d_71_94 rfl ⟨by omega, by omega⟩ (fun (c2 : l5 ≤ 0) => ?_) (fun (c2 : ¬ (l5 ≤ 0)) => ?_)
      · skip
        rw [if_pos c2]
        refine sy_inc (a := l4) (lv' := [(4, sy_i (l4 + 1)), (0, .ref 224), (1, sy_i l1), (2, .ref 13), (3, .ref 8), (5, sy_i l5), (6, sy_i l6)]) mj_d_71_129 (Nat.le_of_ble_eq_true rfl) rfl rfl ?_
        refine sy_st (S' := (mj_m_71, 45, [(4, sy_i (l4 + 1)), (0, .ref 224), (1, sy_i l1), (2, .ref 13), (3, .ref 8), (5, sy_i l5), (6, sy_i l6)], [], h)) mj_d_71_132 (fun _ _ => rfl) ?_
        refine sy_lv (lv := [(0, .ref 224), (1, sy_i l1), (2, .ref 13), (3, .ref 8), (4, sy_i (l4 + 1))]) rfl ⟨rfl, rfl, rfl, rfl, rfl, trivial⟩ ?_
        exact hk45 hH (by first | omega | assumption) (by first | omega | assumption) (by first | omega | assumption) (by first | omega | assumption) (by omega)
      · skip
        rw [if_neg c2]
        refine sy_st (S' := (mj_m_71, 98, [(0, .ref 224), (1, sy_i l1), (2, .ref 13), (3, .ref 8), (4, sy_i l4), (5, sy_i l5), (6, sy_i l6)], [.ref 224], h)) mj_d_71_97 (fun _ _ => rfl) ?_
        refine sy_st (S' := (mj_m_71, 100, [(0, .ref 224), (1, sy_i l1), (2, .ref 13), (3, .ref 8), (4, sy_i l4), (5, sy_i l5), (6, sy_i l6)], [sy_i l6, .ref 224], h)) mj_d_71_98 (fun _ _ => rfl) ?_
        refine sy_st (S' := (mj_m_71, 102, [(0, .ref 224), (1, sy_i l1), (2, .ref 13), (3, .ref 8), (4, sy_i l4), (5, sy_i l5), (6, sy_i l6)], [sy_i l4, sy_i l6, .ref 224], h)) mj_d_71_100 (fun _ _ => rfl) ?_
        refine sy_st (S' := (mj_m_71, 103, [(0, .ref 224), (1, sy_i l1), (2, .ref 13), (3, .ref 8), (4, sy_i l4), (5, sy_i l5), (6, sy_i l6)], [sy_i l1, sy_i l4, sy_i l6, .ref 224], h)) mj_d_71_102 (fun _ _ => rfl) ?_
        refine sy_icm mj_d_71_103 rfl ⟨by omega, by omega⟩ ⟨by omega, by omega⟩ (fun (c3 : ¬ (l4 = l1)) => ?_) (fun (c3 : ¬ ¬ (l4 = l1)) => ?_)
        · skip
          rw [if_neg c3]
          refine sy_st (S' := (mj_m_71, 112, [(0, .ref 224), (1, sy_i l1), (2, .ref 13), (3, .ref 8), (4, sy_i l4), (5, sy_i l5), (6, sy_i l6)], [.ref 13, sy_i l6, .ref 224], h)) mj_d_71_111 (fun _ _ => rfl) ?_
          refine sy_gr2 (b := 15) mj_d_71_112 rfl rfl (by decide) rfl rfl hH ?_
          refine sy_st (S' := (mj_m_71, 117, [(0, .ref 224), (1, sy_i l1), (2, .ref 13), (3, .ref 8), (4, sy_i l4), (5, sy_i l5), (6, sy_i l6)], [sy_i l4, .ref 15, sy_i l6, .ref 224], h)) mj_d_71_115 (fun _ _ => rfl) ?_
          refine sy_ia mj_d_71_117 rfl (by decide) (by omega) (by omega) (ab_el_1 rfl _) hH ?_
          rintro _ rfl bx4 tx4
          refine sy_st (S' := (mj_m_71, 120, [(0, .ref 224), (1, sy_i l1), (2, .ref 13), (3, .ref 8), (4, sy_i l4), (5, sy_i l5), (6, sy_i l6)], [sy_i l5, sy_i (sy_rd h 15 ((l4).toNat)), sy_i l6, .ref 224], h)) mj_d_71_118 (fun _ _ => rfl) ?_
          refine sy_cv (M' := mj_m_73) (vs := [.ref 224, sy_i l6, sy_i (sy_rd h 15 ((l4).toNat)), sy_i l5]) (rest := []) mj_d_71_120 rfl rfl rfl rfl hH rfl rfl ⟨by decide, ⟨Nat.le_of_ble_eq_true rfl, Nat.le_of_ble_eq_true rfl, Nat.le_of_ble_eq_true rfl, Nat.le_of_ble_eq_true rfl, Nat.le_of_ble_eq_true rfl⟩⟩ (dt_Rows_addToHeap (a1 := l6) (a2 := (sy_rd h 15 ((l4).toNat))) (a3 := l5) hH (by omega) (by omega) (by omega) (by omega) (by omega) (by omega)) ?_
          rintro _ h5 ⟨rfl, th5, eh5⟩
          show sy_wp (mj_m_71, 123, [(0, .ref 224), (1, sy_i l1), (2, .ref 13), (3, .ref 8), (4, sy_i l4), (5, sy_i l5), (6, sy_i l6)], [], h5) _
          refine sy_inc (a := l6) (lv' := [(6, sy_i (l6 + 1)), (0, .ref 224), (1, sy_i l1), (2, .ref 13), (3, .ref 8), (4, sy_i l4), (5, sy_i l5)]) mj_d_71_123 (Nat.le_of_ble_eq_true rfl) rfl rfl ?_
          refine sy_st (S' := (mj_m_71, 85, [(6, sy_i (l6 + 1)), (0, .ref 224), (1, sy_i l1), (2, .ref 13), (3, .ref 8), (4, sy_i l4), (5, sy_i l5)], [], h5)) mj_d_71_126 (fun _ _ => rfl) ?_
          refine sy_lv (lv := [(0, .ref 224), (1, sy_i l1), (2, .ref 13), (3, .ref 8), (4, sy_i l4), (5, sy_i l5), (6, sy_i (l6 + 1))]) rfl ⟨rfl, rfl, rfl, rfl, rfl, rfl, rfl, trivial⟩ ?_
          rw [← eh5]
          exact ih th5 (by first | omega | assumption) (by first | omega | assumption) (by first | omega | assumption) (by first | omega | assumption) (by first | omega | assumption) (by first | omega | assumption) (by first | omega | assumption) (by first | omega | assumption) (by first | omega | assumption) (by omega)
        · skip
          rw [if_pos (Decidable.not_not.mp c3)]
          replace c3 := Decidable.not_not.mp c3
          refine sy_st (S' := (mj_m_71, 108, [(0, .ref 224), (1, sy_i l1), (2, .ref 13), (3, .ref 8), (4, sy_i l4), (5, sy_i l5), (6, sy_i l6)], [sy_i l6, sy_i l6, .ref 224], h)) mj_d_71_106 (fun _ _ => rfl) ?_
          refine sy_st (S' := (mj_m_71, 118, [(0, .ref 224), (1, sy_i l1), (2, .ref 13), (3, .ref 8), (4, sy_i l4), (5, sy_i l5), (6, sy_i l6)], [sy_i l6, sy_i l6, .ref 224], h)) mj_d_71_108 (fun _ _ => rfl) ?_
          refine sy_st (S' := (mj_m_71, 120, [(0, .ref 224), (1, sy_i l1), (2, .ref 13), (3, .ref 8), (4, sy_i l4), (5, sy_i l5), (6, sy_i l6)], [sy_i l5, sy_i l6, sy_i l6, .ref 224], h)) mj_d_71_118 (fun _ _ => rfl) ?_
          refine sy_cv (M' := mj_m_73) (vs := [.ref 224, sy_i l6, sy_i l6, sy_i l5]) (rest := []) mj_d_71_120 rfl rfl rfl rfl hH rfl rfl ⟨by decide, ⟨Nat.le_of_ble_eq_true rfl, Nat.le_of_ble_eq_true rfl, Nat.le_of_ble_eq_true rfl, Nat.le_of_ble_eq_true rfl, Nat.le_of_ble_eq_true rfl⟩⟩ (dt_Rows_addToHeap (a1 := l6) (a2 := l6) (a3 := l5) hH (by omega) (by omega) (by omega) (by omega) (by omega) (by omega)) ?_
          rintro _ h7 ⟨rfl, th7, eh7⟩
          show sy_wp (mj_m_71, 123, [(0, .ref 224), (1, sy_i l1), (2, .ref 13), (3, .ref 8), (4, sy_i l4), (5, sy_i l5), (6, sy_i l6)], [], h7) _
          refine sy_inc (a := l6) (lv' := [(6, sy_i (l6 + 1)), (0, .ref 224), (1, sy_i l1), (2, .ref 13), (3, .ref 8), (4, sy_i l4), (5, sy_i l5)]) mj_d_71_123 (Nat.le_of_ble_eq_true rfl) rfl rfl ?_
          refine sy_st (S' := (mj_m_71, 85, [(6, sy_i (l6 + 1)), (0, .ref 224), (1, sy_i l1), (2, .ref 13), (3, .ref 8), (4, sy_i l4), (5, sy_i l5)], [], h7)) mj_d_71_126 (fun _ _ => rfl) ?_
          refine sy_lv (lv := [(0, .ref 224), (1, sy_i l1), (2, .ref 13), (3, .ref 8), (4, sy_i l4), (5, sy_i l5), (6, sy_i (l6 + 1))]) rfl ⟨rfl, rfl, rfl, rfl, rfl, rfl, rfl, trivial⟩ ?_
          rw [← eh7]
          exact ih th7 (by first | omega | assumption) (by first | omega | assumption) (by first | omega | assumption) (by first | omega | assumption) (by first | omega | assumption) (by first | omega | assumption) (by first | omega | assumption) (by first | omega | assumption) (by first | omega | assumption) (by omega)
set_option maxRecDepth 100000 in
theorem dt_Rows_lookInto_45 : ∀ (n : Nat) {h : mj_H} (hH : sy_H h) {l1 l4 : Int} (b_l1 : 0 ≤ l1) (t_l1 : l1 ≤ 8) (b_l4 : 0 ≤ l4) (t_l4 : l4 ≤ 9) (hm : 9 - l4 < (n : Int)), sy_wp (mj_m_71, 45, [(0, .ref 224), (1, sy_i l1), (2, .ref 13), (3, .ref 8), (4, sy_i l4)], [], h) (dq3 (dc_Rows_lookInto_45 n (sy_rd h) l1 l4)) := by
  intro n
  induction n with
  | zero =>
    intro h hH l1 l4 b_l1 t_l1 b_l4 t_l4 hm
    exact absurd hm (by omega)
  | succ n ih =>
    intro h hH l1 l4 b_l1 t_l1 b_l4 t_l4 hm
    rw [dc_Rows_lookInto_45_s]
    refine sy_st (S' := (mj_m_71, 47, [(0, .ref 224), (1, sy_i l1), (2, .ref 13), (3, .ref 8), (4, sy_i l4)], [sy_i l4], h)) mj_d_71_45 (fun _ _ => rfl) ?_
    refine sy_st (S' := (mj_m_71, 48, [(0, .ref 224), (1, sy_i l1), (2, .ref 13), (3, .ref 8), (4, sy_i l4)], [.ref 8, sy_i l4], h)) mj_d_71_47 (fun _ _ => rfl) ?_
    refine sy_gf mj_d_71_48 rfl rfl (by decide) rfl hH ?_
    rintro _ rfl bx1 tx1
    refine sy_icm mj_d_71_51 rfl ⟨by omega, by omega⟩ ⟨by omega, by omega⟩ (fun (c2 : (sy_rd h 8 3) ≤ l4) => ?_) (fun (c2 : ¬ ((sy_rd h 8 3) ≤ l4)) => ?_)
    · skip
      rw [if_pos c2]
      exact sy_retv mj_d_71_135 rfl ⟨rfl, hH, rfl⟩
    · skip
      rw [if_neg c2]
      refine sy_st (S' := (mj_m_71, 55, [(0, .ref 224), (1, sy_i l1), (2, .ref 13), (3, .ref 8), (4, sy_i l4)], [.ref 13], h)) mj_d_71_54 (fun _ _ => rfl) ?_
      refine sy_st (S' := (mj_m_71, 57, [(0, .ref 224), (1, sy_i l1), (2, .ref 13), (3, .ref 8), (4, sy_i l4)], [sy_i l4, .ref 13], h)) mj_d_71_55 (fun _ _ => rfl) ?_
      refine sy_cv (M' := mj_m_72) (vs := [.ref 13, sy_i l4]) (rest := []) mj_d_71_57 rfl rfl rfl rfl hH rfl rfl ⟨by decide, ⟨Nat.le_of_ble_eq_true rfl, Nat.le_of_ble_eq_true rfl, Nat.le_of_ble_eq_true rfl, Nat.le_of_ble_eq_true rfl, Nat.le_of_ble_eq_true rfl⟩⟩ (dt_St_down (a1 := l4) hH (by omega) (by omega)) ?_
      rintro _ _ ⟨rfl, rfl, b3, b3t⟩
      show sy_wp (mj_m_71, 60, [(0, .ref 224), (1, sy_i l1), (2, .ref 13), (3, .ref 8), (4, sy_i l4)], [sy_i (dc_St_down (sy_rd h) l4)], h) _
      refine sy_st (S' := (mj_m_71, 61, [(0, .ref 224), (1, sy_i l1), (2, .ref 13), (3, .ref 8), (4, sy_i l4)], [sy_i l1, sy_i (dc_St_down (sy_rd h) l4)], h)) mj_d_71_60 (fun _ _ => rfl) ?_
      refine sy_ishr mj_d_71_61 ?_
      have q4 := sg_shr_f (dc_St_down (sy_rd h) l4) l1
      refine sy_st (S' := (mj_m_71, 63, [(0, .ref 224), (1, sy_i l1), (2, .ref 13), (3, .ref 8), (4, sy_i l4)], [sy_i 1, sy_i (sy_shr (dc_St_down (sy_rd h) l4) l1)], h)) mj_d_71_62 (fun _ _ => rfl) ?_
      refine sy_iand mj_d_71_63 ?_
      have q5 := sg_and_f (sy_shr (dc_St_down (sy_rd h) l4) l1) 1
      refine sy_st (S' := (mj_m_71, 65, [(0, .ref 224), (1, sy_i l1), (2, .ref 13), (3, .ref 8), (4, sy_i l4)], [.ref 8, sy_i (sy_and (sy_shr (dc_St_down (sy_rd h) l4) l1) 1)], h)) mj_d_71_64 (fun _ _ => rfl) ?_
      refine sy_st (S' := (mj_m_71, 67, [(0, .ref 224), (1, sy_i l1), (2, .ref 13), (3, .ref 8), (4, sy_i l4)], [sy_i l4, .ref 8, sy_i (sy_and (sy_shr (dc_St_down (sy_rd h) l4) l1) 1)], h)) mj_d_71_65 (fun _ _ => rfl) ?_
      refine sy_cv (M' := mj_m_53) (vs := [.ref 8, sy_i l4]) (rest := [sy_i (sy_and (sy_shr (dc_St_down (sy_rd h) l4) l1) 1)]) mj_d_71_67 rfl rfl rfl rfl hH rfl rfl ⟨by decide, ⟨Nat.le_of_ble_eq_true rfl, Nat.le_of_ble_eq_true rfl, Nat.le_of_ble_eq_true rfl, Nat.le_of_ble_eq_true rfl, Nat.le_of_ble_eq_true rfl⟩⟩ (dt_Plan_neighbour (a1 := l4) hH (by omega) (by omega)) ?_
      rintro _ _ ⟨rfl, rfl, b6, b6t⟩
      show sy_wp (mj_m_71, 70, [(0, .ref 224), (1, sy_i l1), (2, .ref 13), (3, .ref 8), (4, sy_i l4)], [sy_i (dc_Plan_neighbour (sy_rd h) l4), sy_i (sy_and (sy_shr (dc_St_down (sy_rd h) l4) l1) 1)], h) _
      refine sy_st (S' := (mj_m_71, 71, [(0, .ref 224), (1, sy_i l1), (2, .ref 13), (3, .ref 8), (4, sy_i l4)], [sy_i l1, sy_i (dc_Plan_neighbour (sy_rd h) l4), sy_i (sy_and (sy_shr (dc_St_down (sy_rd h) l4) l1) 1)], h)) mj_d_71_70 (fun _ _ => rfl) ?_
      refine sy_icm mj_d_71_71 rfl ⟨by omega, by omega⟩ ⟨by omega, by omega⟩ (fun (c7 : ¬ ((dc_Plan_neighbour (sy_rd h) l4) = l1)) => ?_) (fun (c7 : ¬ ¬ ((dc_Plan_neighbour (sy_rd h) l4) = l1)) => ?_)
      · skip
        rw [if_neg c7]
        refine sy_st (S' := (mj_m_71, 79, [(0, .ref 224), (1, sy_i l1), (2, .ref 13), (3, .ref 8), (4, sy_i l4)], [sy_i 0, sy_i (sy_and (sy_shr (dc_St_down (sy_rd h) l4) l1) 1)], h)) mj_d_71_78 (fun _ _ => rfl) ?_
        refine sy_add mj_d_71_79 ?_
        refine sy_st (S' := (mj_m_71, 82, [(5, sy_i ((sy_and (sy_shr (dc_St_down (sy_rd h) l4) l1) 1) + 0)), (0, .ref 224), (1, sy_i l1), (2, .ref 13), (3, .ref 8), (4, sy_i l4)], [], h)) mj_d_71_80 (fun _ _ => rfl) ?_
        refine sy_st (S' := (mj_m_71, 83, [(5, sy_i ((sy_and (sy_shr (dc_St_down (sy_rd h) l4) l1) 1) + 0)), (0, .ref 224), (1, sy_i l1), (2, .ref 13), (3, .ref 8), (4, sy_i l4)], [sy_i 0], h)) mj_d_71_82 (fun _ _ => rfl) ?_
        refine sy_st (S' := (mj_m_71, 85, [(6, sy_i 0), (5, sy_i ((sy_and (sy_shr (dc_St_down (sy_rd h) l4) l1) 1) + 0)), (0, .ref 224), (1, sy_i l1), (2, .ref 13), (3, .ref 8), (4, sy_i l4)], [], h)) mj_d_71_83 (fun _ _ => rfl) ?_
        refine sy_lv (lv := [(0, .ref 224), (1, sy_i l1), (2, .ref 13), (3, .ref 8), (4, sy_i l4), (5, sy_i ((sy_and (sy_shr (dc_St_down (sy_rd h) l4) l1) 1) + 0)), (6, sy_i 0)]) rfl ⟨rfl, rfl, rfl, rfl, rfl, rfl, rfl, trivial⟩ ?_
        exact dt_Rows_lookInto_85 @ih 9 hH (by first | omega | assumption) (by first | omega | assumption) (by first | omega | assumption) (by first | omega | assumption) (by first | omega | assumption) (by first | omega | assumption) (by first | omega | assumption) (by first | omega | assumption) (by first | omega | assumption) (by omega)
      · skip
        rw [if_pos (Decidable.not_not.mp c7)]
        replace c7 := Decidable.not_not.mp c7
        refine sy_st (S' := (mj_m_71, 75, [(0, .ref 224), (1, sy_i l1), (2, .ref 13), (3, .ref 8), (4, sy_i l4)], [sy_i 1, sy_i (sy_and (sy_shr (dc_St_down (sy_rd h) l4) l1) 1)], h)) mj_d_71_74 (fun _ _ => rfl) ?_
        refine sy_st (S' := (mj_m_71, 79, [(0, .ref 224), (1, sy_i l1), (2, .ref 13), (3, .ref 8), (4, sy_i l4)], [sy_i 1, sy_i (sy_and (sy_shr (dc_St_down (sy_rd h) l4) l1) 1)], h)) mj_d_71_75 (fun _ _ => rfl) ?_
        refine sy_add mj_d_71_79 ?_
        refine sy_st (S' := (mj_m_71, 82, [(5, sy_i ((sy_and (sy_shr (dc_St_down (sy_rd h) l4) l1) 1) + 1)), (0, .ref 224), (1, sy_i l1), (2, .ref 13), (3, .ref 8), (4, sy_i l4)], [], h)) mj_d_71_80 (fun _ _ => rfl) ?_
        refine sy_st (S' := (mj_m_71, 83, [(5, sy_i ((sy_and (sy_shr (dc_St_down (sy_rd h) l4) l1) 1) + 1)), (0, .ref 224), (1, sy_i l1), (2, .ref 13), (3, .ref 8), (4, sy_i l4)], [sy_i 0], h)) mj_d_71_82 (fun _ _ => rfl) ?_
        refine sy_st (S' := (mj_m_71, 85, [(6, sy_i 0), (5, sy_i ((sy_and (sy_shr (dc_St_down (sy_rd h) l4) l1) 1) + 1)), (0, .ref 224), (1, sy_i l1), (2, .ref 13), (3, .ref 8), (4, sy_i l4)], [], h)) mj_d_71_83 (fun _ _ => rfl) ?_
        refine sy_lv (lv := [(0, .ref 224), (1, sy_i l1), (2, .ref 13), (3, .ref 8), (4, sy_i l4), (5, sy_i ((sy_and (sy_shr (dc_St_down (sy_rd h) l4) l1) 1) + 1)), (6, sy_i 0)]) rfl ⟨rfl, rfl, rfl, rfl, rfl, rfl, rfl, trivial⟩ ?_
        exact dt_Rows_lookInto_85 @ih 9 hH (by first | omega | assumption) (by first | omega | assumption) (by first | omega | assumption) (by first | omega | assumption) (by first | omega | assumption) (by first | omega | assumption) (by first | omega | assumption) (by first | omega | assumption) (by first | omega | assumption) (by omega)
set_option maxRecDepth 100000 in
theorem dt_Rows_lookInto_13 : ∀ (n : Nat) {h : mj_H} (hH : sy_H h) {l1 l4 : Int} (b_l1 : 0 ≤ l1) (t_l1 : l1 ≤ 8) (b_l4 : 0 ≤ l4) (t_l4 : l4 ≤ 8) (hm : 8 - l4 < (n : Int)), sy_wp (mj_m_71, 13, [(0, .ref 224), (1, sy_i l1), (2, .ref 13), (3, .ref 8), (4, sy_i l4)], [], h) (dq3 (dc_Rows_lookInto_13 n (sy_rd h) l1 l4)) := by
  intro n
  induction n with
  | zero =>
    intro h hH l1 l4 b_l1 t_l1 b_l4 t_l4 hm
    exact absurd hm (by omega)
  | succ n ih =>
    intro h hH l1 l4 b_l1 t_l1 b_l4 t_l4 hm
    rw [dc_Rows_lookInto_13_s]
    refine sy_st (S' := (mj_m_71, 15, [(0, .ref 224), (1, sy_i l1), (2, .ref 13), (3, .ref 8), (4, sy_i l4)], [sy_i l4], h)) mj_d_71_13 (fun _ _ => rfl) ?_
    refine sy_bip mj_d_71_15 (by decide) ?_
    refine sy_icm mj_d_71_17 rfl ⟨by omega, by omega⟩ ⟨by omega, by omega⟩ (fun (c1 : 7 < l4) => ?_) (fun (c1 : ¬ (7 < l4)) => ?_)
    · skip
      rw [if_pos c1]
      refine sy_st (S' := (mj_m_71, 43, [(0, .ref 224), (1, sy_i l1), (2, .ref 13), (3, .ref 8), (4, sy_i l4)], [sy_i 0], h)) mj_d_71_42 (fun _ _ => rfl) ?_
      refine sy_st (S' := (mj_m_71, 45, [(4, sy_i 0), (0, .ref 224), (1, sy_i l1), (2, .ref 13), (3, .ref 8)], [], h)) mj_d_71_43 (fun _ _ => rfl) ?_
      refine sy_lv (lv := [(0, .ref 224), (1, sy_i l1), (2, .ref 13), (3, .ref 8), (4, sy_i 0)]) rfl ⟨rfl, rfl, rfl, rfl, rfl, trivial⟩ ?_
      exact dt_Rows_lookInto_45 10 hH (by first | omega | assumption) (by first | omega | assumption) (by first | omega | assumption) (by first | omega | assumption) (by omega)
    · skip
      rw [if_neg c1]
      refine sy_st (S' := (mj_m_71, 21, [(0, .ref 224), (1, sy_i l1), (2, .ref 13), (3, .ref 8), (4, sy_i l4)], [.ref 224], h)) mj_d_71_20 (fun _ _ => rfl) ?_
      refine sy_gr2 (b := 225) mj_d_71_21 rfl rfl (by decide) rfl rfl hH ?_
      refine sy_st (S' := (mj_m_71, 26, [(0, .ref 224), (1, sy_i l1), (2, .ref 13), (3, .ref 8), (4, sy_i l4)], [sy_i l4, .ref 225], h)) mj_d_71_24 (fun _ _ => rfl) ?_
      refine sy_st (S' := (mj_m_71, 27, [(0, .ref 224), (1, sy_i l1), (2, .ref 13), (3, .ref 8), (4, sy_i l4)], [sy_i 0, sy_i l4, .ref 225], h)) mj_d_71_26 (fun _ _ => rfl) ?_
      refine sg_ias (v := 0) mj_d_71_27 rfl (by decide) (by omega) (by omega) (ab_el_1 rfl _) hH (by omega) (by omega) ⟨by omega, by omega⟩ ?_
      intro h2 th2 eh2
      refine sy_st (S' := (mj_m_71, 29, [(0, .ref 224), (1, sy_i l1), (2, .ref 13), (3, .ref 8), (4, sy_i l4)], [.ref 224], h2)) mj_d_71_28 (fun _ _ => rfl) ?_
      refine sy_gr2 (b := 226) mj_d_71_29 rfl rfl (by decide) rfl rfl th2 ?_
      refine sy_st (S' := (mj_m_71, 34, [(0, .ref 224), (1, sy_i l1), (2, .ref 13), (3, .ref 8), (4, sy_i l4)], [sy_i l4, .ref 226], h2)) mj_d_71_32 (fun _ _ => rfl) ?_
      refine sy_st (S' := (mj_m_71, 35, [(0, .ref 224), (1, sy_i l1), (2, .ref 13), (3, .ref 8), (4, sy_i l4)], [sy_i 0, sy_i l4, .ref 226], h2)) mj_d_71_34 (fun _ _ => rfl) ?_
      refine sg_ias (v := 0) mj_d_71_35 rfl (by decide) (by omega) (by omega) (ab_el_1 rfl _) th2 (by omega) (by omega) ⟨by omega, by omega⟩ ?_
      intro h3 th3 eh3
      rw [eh2] at eh3
      refine sy_inc (a := l4) (lv' := [(4, sy_i (l4 + 1)), (0, .ref 224), (1, sy_i l1), (2, .ref 13), (3, .ref 8)]) mj_d_71_36 (Nat.le_of_ble_eq_true rfl) rfl rfl ?_
      refine sy_st (S' := (mj_m_71, 13, [(4, sy_i (l4 + 1)), (0, .ref 224), (1, sy_i l1), (2, .ref 13), (3, .ref 8)], [], h3)) mj_d_71_39 (fun _ _ => rfl) ?_
      refine sy_lv (lv := [(0, .ref 224), (1, sy_i l1), (2, .ref 13), (3, .ref 8), (4, sy_i (l4 + 1))]) rfl ⟨rfl, rfl, rfl, rfl, rfl, trivial⟩ ?_
      rw [← eh3]
      exact ih th3 (by first | omega | assumption) (by first | omega | assumption) (by first | omega | assumption) (by first | omega | assumption) (by omega)
set_option maxRecDepth 100000 in
theorem dt_Rows_lookInto {h : mj_H} (hH : sy_H h) {a1 : Int} (b_a1 : 0 ≤ a1) (t_a1 : a1 ≤ 8) : sy_wp (mj_m_71, 0, [(0, .ref 224), (1, sy_i a1), (2, .ref 13), (3, .ref 8)], [], h) (dq3 (dc_Rows_lookInto (sy_rd h) a1)) := by
  unfold dc_Rows_lookInto
  refine sy_st (S' := (mj_m_71, 1, [(0, .ref 224), (1, sy_i a1), (2, .ref 13), (3, .ref 8)], [.ref 224], h)) mj_d_71_0 (fun _ _ => rfl) ?_
  refine sy_st (S' := (mj_m_71, 2, [(0, .ref 224), (1, sy_i a1), (2, .ref 13), (3, .ref 8)], [.ref 13, .ref 224], h)) mj_d_71_1 (fun _ _ => rfl) ?_
  refine sy_gr2 (b := 14) mj_d_71_2 rfl rfl (by decide) rfl rfl hH ?_
  refine sy_st (S' := (mj_m_71, 6, [(0, .ref 224), (1, sy_i a1), (2, .ref 13), (3, .ref 8)], [sy_i a1, .ref 14, .ref 224], h)) mj_d_71_5 (fun _ _ => rfl) ?_
  refine sy_ia mj_d_71_6 rfl (by decide) (by omega) (by omega) (ab_el_1 rfl _) hH ?_
  rintro _ rfl bx1 tx1
  refine sg_pf (z := (sy_rd h 14 ((a1).toNat))) mj_d_71_7 rfl rfl (by decide) (Or.inl rfl) rfl hH (by omega) (by omega) ⟨by omega, by omega⟩ ?_
  intro h2 th2 eh2
  refine sy_st (S' := (mj_m_71, 11, [(0, .ref 224), (1, sy_i a1), (2, .ref 13), (3, .ref 8)], [sy_i 0], h2)) mj_d_71_10 (fun _ _ => rfl) ?_
  refine sy_st (S' := (mj_m_71, 13, [(4, sy_i 0), (0, .ref 224), (1, sy_i a1), (2, .ref 13), (3, .ref 8)], [], h2)) mj_d_71_11 (fun _ _ => rfl) ?_
  refine sy_lv (lv := [(0, .ref 224), (1, sy_i a1), (2, .ref 13), (3, .ref 8), (4, sy_i 0)]) rfl ⟨rfl, rfl, rfl, rfl, rfl, trivial⟩ ?_
  rw [← eh2]
  exact dt_Rows_lookInto_13 9 th2 (by first | omega | assumption) (by first | omega | assumption) (by first | omega | assumption) (by first | omega | assumption) (by omega)
def dc_Rows_rowsOf (s : sg_S) (a0 : Int) : Int := (sy_shl 1 (3 * a0))
set_option maxRecDepth 100000 in
theorem dt_Rows_rowsOf {h : mj_H} (hH : sy_H h) {a0 : Int} (b_a0 : 1 ≤ a0) (t_a0 : a0 ≤ 3) : sy_wp (mj_m_75, 0, [(0, sy_i a0)], [], h) (dq1 h (1) (512) (dc_Rows_rowsOf (sy_rd h) a0)) := by
  unfold dc_Rows_rowsOf
  refine sy_st (S' := (mj_m_75, 1, [(0, sy_i a0)], [sy_i 1], h)) mj_d_75_0 (fun _ _ => rfl) ?_
  refine sy_st (S' := (mj_m_75, 2, [(0, sy_i a0)], [sy_i 3, sy_i 1], h)) mj_d_75_1 (fun _ _ => rfl) ?_
  refine sy_st (S' := (mj_m_75, 3, [(0, sy_i a0)], [sy_i a0, sy_i 3, sy_i 1], h)) mj_d_75_2 (fun _ _ => rfl) ?_
  refine sy_mul mj_d_75_3 ?_
  refine sy_ishl mj_d_75_4 ?_
  have q1 := sg_shl_f 1 (3 * a0)
  exact sy_reti mj_d_75_5 rfl ⟨rfl, rfl, by omega, by omega⟩
def dc_Rows_kindIn (s : sg_S) (a0 a1 a2 : Int) : Int := (sy_and (sy_shr a0 (3 * (a1 - a2))) 7)
set_option maxRecDepth 100000 in
theorem dt_Rows_kindIn {h : mj_H} (hH : sy_H h) {a0 a1 a2 : Int} (b_a0 : (-2147483648) ≤ a0) (t_a0 : a0 ≤ 2147483647) (b_a1 : (-2147483648) ≤ a1) (t_a1 : a1 ≤ 2147483647) (b_a2 : (-2147483648) ≤ a2) (t_a2 : a2 ≤ 2147483647) : sy_wp (mj_m_77, 0, [(0, sy_i a0), (1, sy_i a1), (2, sy_i a2)], [], h) (dq1 h (0) (7) (dc_Rows_kindIn (sy_rd h) a0 a1 a2)) := by
  unfold dc_Rows_kindIn
  refine sy_st (S' := (mj_m_77, 1, [(0, sy_i a0), (1, sy_i a1), (2, sy_i a2)], [sy_i a0], h)) mj_d_77_0 (fun _ _ => rfl) ?_
  refine sy_st (S' := (mj_m_77, 2, [(0, sy_i a0), (1, sy_i a1), (2, sy_i a2)], [sy_i 3, sy_i a0], h)) mj_d_77_1 (fun _ _ => rfl) ?_
  refine sy_st (S' := (mj_m_77, 3, [(0, sy_i a0), (1, sy_i a1), (2, sy_i a2)], [sy_i a1, sy_i 3, sy_i a0], h)) mj_d_77_2 (fun _ _ => rfl) ?_
  refine sy_st (S' := (mj_m_77, 4, [(0, sy_i a0), (1, sy_i a1), (2, sy_i a2)], [sy_i a2, sy_i a1, sy_i 3, sy_i a0], h)) mj_d_77_3 (fun _ _ => rfl) ?_
  refine sy_sub mj_d_77_4 ?_
  refine sy_mul mj_d_77_5 ?_
  refine sy_ishr mj_d_77_6 ?_
  have q1 := sg_shr_f a0 (3 * (a1 - a2))
  refine sy_bip mj_d_77_7 (by decide) ?_
  refine sy_iand mj_d_77_9 ?_
  have q2 := sg_and_f (sy_shr a0 (3 * (a1 - a2))) 7
  exact sy_reti mj_d_77_10 rfl ⟨rfl, rfl, by omega, by omega⟩
def dc_Rows_fits_5 (n : Nat) : sg_S → Int → Int → Int → Int → Int := Nat.rec (fun (s : sg_S) l1 l2 l3 l4 => 0) (fun _ ih => fun s l1 l2 l3 l4 => (if l2 < l4 then (if l3 = (s 224 2) then 1 else 0) else (ih s l1 l2 (dc_Soot_heaped s l3 (s 225 ((dc_Rows_kindIn s l1 l2 l4).toNat)) (s 226 ((dc_Rows_kindIn s l1 l2 l4).toNat))) (l4 + 1)))) n
theorem dc_Rows_fits_5_s (n : Nat) (s : sg_S) (l1 l2 l3 l4 : Int) : dc_Rows_fits_5 (n + 1) s l1 l2 l3 l4 = (if l2 < l4 then (if l3 = (s 224 2) then 1 else 0) else ((dc_Rows_fits_5 n) s l1 l2 (dc_Soot_heaped s l3 (s 225 ((dc_Rows_kindIn s l1 l2 l4).toNat)) (s 226 ((dc_Rows_kindIn s l1 l2 l4).toNat))) (l4 + 1))) := rfl
def dc_Rows_fits (s : sg_S) (a1 a2 : Int) : Int := (dc_Rows_fits_5 4 s a1 a2 0 1)
set_option maxRecDepth 100000 in
theorem dt_Rows_fits_5 : ∀ (n : Nat) {h : mj_H} (hH : sy_H h) {l1 l2 l3 l4 : Int} (b_l1 : (-2147483648) ≤ l1) (t_l1 : l1 ≤ 2147483647) (b_l2 : 1 ≤ l2) (t_l2 : l2 ≤ 3) (b_l3 : 0 ≤ l3) (t_l3 : l3 ≤ 16777215) (b_l4 : 1 ≤ l4) (t_l4 : l4 ≤ 4) (hm : 4 - l4 < (n : Int)), sy_wp (mj_m_76, 5, [(0, .ref 224), (1, sy_i l1), (2, sy_i l2), (3, sy_i l3), (4, sy_i l4)], [], h) (dq1 h (0) (1) (dc_Rows_fits_5 n (sy_rd h) l1 l2 l3 l4)) := by
  intro n
  induction n with
  | zero =>
    intro h hH l1 l2 l3 l4 b_l1 t_l1 b_l2 t_l2 b_l3 t_l3 b_l4 t_l4 hm
    exact absurd hm (by omega)
  | succ n ih =>
    intro h hH l1 l2 l3 l4 b_l1 t_l1 b_l2 t_l2 b_l3 t_l3 b_l4 t_l4 hm
    rw [dc_Rows_fits_5_s]
    refine sy_st (S' := (mj_m_76, 7, [(0, .ref 224), (1, sy_i l1), (2, sy_i l2), (3, sy_i l3), (4, sy_i l4)], [sy_i l4], h)) mj_d_76_5 (fun _ _ => rfl) ?_
    refine sy_st (S' := (mj_m_76, 8, [(0, .ref 224), (1, sy_i l1), (2, sy_i l2), (3, sy_i l3), (4, sy_i l4)], [sy_i l2, sy_i l4], h)) mj_d_76_7 (fun _ _ => rfl) ?_
    refine sy_icm mj_d_76_8 rfl ⟨by omega, by omega⟩ ⟨by omega, by omega⟩ (fun (c1 : l2 < l4) => ?_) (fun (c1 : ¬ (l2 < l4)) => ?_)
    · skip
      rw [if_pos c1]
      refine sy_st (S' := (mj_m_76, 46, [(0, .ref 224), (1, sy_i l1), (2, sy_i l2), (3, sy_i l3), (4, sy_i l4)], [sy_i l3], h)) mj_d_76_45 (fun _ _ => rfl) ?_
      refine sy_st (S' := (mj_m_76, 47, [(0, .ref 224), (1, sy_i l1), (2, sy_i l2), (3, sy_i l3), (4, sy_i l4)], [.ref 224, sy_i l3], h)) mj_d_76_46 (fun _ _ => rfl) ?_
      refine sy_gf mj_d_76_47 rfl rfl (by decide) rfl hH ?_
      rintro _ rfl bx2 tx2
      refine sy_icm mj_d_76_50 rfl ⟨by omega, by omega⟩ ⟨by omega, by omega⟩ (fun (c3 : ¬ (l3 = (sy_rd h 224 2))) => ?_) (fun (c3 : ¬ ¬ (l3 = (sy_rd h 224 2))) => ?_)
      · skip
        rw [if_neg c3]
        refine sy_st (S' := (mj_m_76, 58, [(0, .ref 224), (1, sy_i l1), (2, sy_i l2), (3, sy_i l3), (4, sy_i l4)], [sy_i 0], h)) mj_d_76_57 (fun _ _ => rfl) ?_
        exact sy_retb mj_d_76_58 rfl ⟨by omega, by omega⟩ ⟨rfl, rfl, by omega, by omega⟩
      · skip
        rw [if_pos (Decidable.not_not.mp c3)]
        replace c3 := Decidable.not_not.mp c3
        refine sy_st (S' := (mj_m_76, 54, [(0, .ref 224), (1, sy_i l1), (2, sy_i l2), (3, sy_i l3), (4, sy_i l4)], [sy_i 1], h)) mj_d_76_53 (fun _ _ => rfl) ?_
        refine sy_st (S' := (mj_m_76, 58, [(0, .ref 224), (1, sy_i l1), (2, sy_i l2), (3, sy_i l3), (4, sy_i l4)], [sy_i 1], h)) mj_d_76_54 (fun _ _ => rfl) ?_
        exact sy_retb mj_d_76_58 rfl ⟨by omega, by omega⟩ ⟨rfl, rfl, by omega, by omega⟩
    · skip
      rw [if_neg c1]
      refine sy_st (S' := (mj_m_76, 12, [(0, .ref 224), (1, sy_i l1), (2, sy_i l2), (3, sy_i l3), (4, sy_i l4)], [sy_i l1], h)) mj_d_76_11 (fun _ _ => rfl) ?_
      refine sy_st (S' := (mj_m_76, 13, [(0, .ref 224), (1, sy_i l1), (2, sy_i l2), (3, sy_i l3), (4, sy_i l4)], [sy_i l2, sy_i l1], h)) mj_d_76_12 (fun _ _ => rfl) ?_
      refine sy_st (S' := (mj_m_76, 15, [(0, .ref 224), (1, sy_i l1), (2, sy_i l2), (3, sy_i l3), (4, sy_i l4)], [sy_i l4, sy_i l2, sy_i l1], h)) mj_d_76_13 (fun _ _ => rfl) ?_
      refine sy_cs (M' := mj_m_77) (vs := [sy_i l1, sy_i l2, sy_i l4]) (rest := []) mj_d_76_15 rfl rfl rfl rfl ⟨Nat.le_of_ble_eq_true rfl, Nat.le_of_ble_eq_true rfl, Nat.le_of_ble_eq_true rfl, Nat.le_of_ble_eq_true rfl, Nat.le_of_ble_eq_true rfl⟩ (dt_Rows_kindIn (a0 := l1) (a1 := l2) (a2 := l4) hH (by omega) (by omega) (by omega) (by omega) (by omega) (by omega)) ?_
      rintro _ _ ⟨rfl, rfl, b4, b4t⟩
      show sy_wp (mj_m_76, 18, [(0, .ref 224), (1, sy_i l1), (2, sy_i l2), (3, sy_i l3), (4, sy_i l4)], [sy_i (dc_Rows_kindIn (sy_rd h) l1 l2 l4)], h) _
      refine sy_st (S' := (mj_m_76, 20, [(5, sy_i (dc_Rows_kindIn (sy_rd h) l1 l2 l4)), (0, .ref 224), (1, sy_i l1), (2, sy_i l2), (3, sy_i l3), (4, sy_i l4)], [], h)) mj_d_76_18 (fun _ _ => rfl) ?_
      refine sy_st (S' := (mj_m_76, 21, [(5, sy_i (dc_Rows_kindIn (sy_rd h) l1 l2 l4)), (0, .ref 224), (1, sy_i l1), (2, sy_i l2), (3, sy_i l3), (4, sy_i l4)], [sy_i l3], h)) mj_d_76_20 (fun _ _ => rfl) ?_
      refine sy_st (S' := (mj_m_76, 22, [(5, sy_i (dc_Rows_kindIn (sy_rd h) l1 l2 l4)), (0, .ref 224), (1, sy_i l1), (2, sy_i l2), (3, sy_i l3), (4, sy_i l4)], [.ref 224, sy_i l3], h)) mj_d_76_21 (fun _ _ => rfl) ?_
      refine sy_gr2 (b := 225) mj_d_76_22 rfl rfl (by decide) rfl rfl hH ?_
      refine sy_st (S' := (mj_m_76, 27, [(5, sy_i (dc_Rows_kindIn (sy_rd h) l1 l2 l4)), (0, .ref 224), (1, sy_i l1), (2, sy_i l2), (3, sy_i l3), (4, sy_i l4)], [sy_i (dc_Rows_kindIn (sy_rd h) l1 l2 l4), .ref 225, sy_i l3], h)) mj_d_76_25 (fun _ _ => rfl) ?_
      refine sy_ia mj_d_76_27 rfl (by decide) (by omega) (by omega) (ab_el_1 rfl _) hH ?_
      rintro _ rfl bx5 tx5
      refine sy_st (S' := (mj_m_76, 29, [(5, sy_i (dc_Rows_kindIn (sy_rd h) l1 l2 l4)), (0, .ref 224), (1, sy_i l1), (2, sy_i l2), (3, sy_i l3), (4, sy_i l4)], [.ref 224, sy_i (sy_rd h 225 ((dc_Rows_kindIn (sy_rd h) l1 l2 l4).toNat)), sy_i l3], h)) mj_d_76_28 (fun _ _ => rfl) ?_
      refine sy_gr2 (b := 226) mj_d_76_29 rfl rfl (by decide) rfl rfl hH ?_
      refine sy_st (S' := (mj_m_76, 34, [(5, sy_i (dc_Rows_kindIn (sy_rd h) l1 l2 l4)), (0, .ref 224), (1, sy_i l1), (2, sy_i l2), (3, sy_i l3), (4, sy_i l4)], [sy_i (dc_Rows_kindIn (sy_rd h) l1 l2 l4), .ref 226, sy_i (sy_rd h 225 ((dc_Rows_kindIn (sy_rd h) l1 l2 l4).toNat)), sy_i l3], h)) mj_d_76_32 (fun _ _ => rfl) ?_
      refine sy_ia mj_d_76_34 rfl (by decide) (by omega) (by omega) (ab_el_1 rfl _) hH ?_
      rintro _ rfl bx6 tx6
      refine sy_cs (M' := mj_m_78) (vs := [sy_i l3, sy_i (sy_rd h 225 ((dc_Rows_kindIn (sy_rd h) l1 l2 l4).toNat)), sy_i (sy_rd h 226 ((dc_Rows_kindIn (sy_rd h) l1 l2 l4).toNat))]) (rest := []) mj_d_76_35 rfl rfl rfl rfl ⟨Nat.le_of_ble_eq_true rfl, Nat.le_of_ble_eq_true rfl, Nat.le_of_ble_eq_true rfl, Nat.le_of_ble_eq_true rfl, Nat.le_of_ble_eq_true rfl⟩ (dt_Soot_heaped (a0 := l3) (a1 := (sy_rd h 225 ((dc_Rows_kindIn (sy_rd h) l1 l2 l4).toNat))) (a2 := (sy_rd h 226 ((dc_Rows_kindIn (sy_rd h) l1 l2 l4).toNat))) hH (by omega) (by omega) (by omega) (by omega) (by omega) (by omega)) ?_
      rintro _ _ ⟨rfl, rfl, b7, b7t⟩
      show sy_wp (mj_m_76, 38, [(5, sy_i (dc_Rows_kindIn (sy_rd h) l1 l2 l4)), (0, .ref 224), (1, sy_i l1), (2, sy_i l2), (3, sy_i l3), (4, sy_i l4)], [sy_i (dc_Soot_heaped (sy_rd h) l3 (sy_rd h 225 ((dc_Rows_kindIn (sy_rd h) l1 l2 l4).toNat)) (sy_rd h 226 ((dc_Rows_kindIn (sy_rd h) l1 l2 l4).toNat)))], h) _
      refine sy_st (S' := (mj_m_76, 39, [(3, sy_i (dc_Soot_heaped (sy_rd h) l3 (sy_rd h 225 ((dc_Rows_kindIn (sy_rd h) l1 l2 l4).toNat)) (sy_rd h 226 ((dc_Rows_kindIn (sy_rd h) l1 l2 l4).toNat)))), (5, sy_i (dc_Rows_kindIn (sy_rd h) l1 l2 l4)), (0, .ref 224), (1, sy_i l1), (2, sy_i l2), (4, sy_i l4)], [], h)) mj_d_76_38 (fun _ _ => rfl) ?_
      refine sy_inc (a := l4) (lv' := [(4, sy_i (l4 + 1)), (3, sy_i (dc_Soot_heaped (sy_rd h) l3 (sy_rd h 225 ((dc_Rows_kindIn (sy_rd h) l1 l2 l4).toNat)) (sy_rd h 226 ((dc_Rows_kindIn (sy_rd h) l1 l2 l4).toNat)))), (5, sy_i (dc_Rows_kindIn (sy_rd h) l1 l2 l4)), (0, .ref 224), (1, sy_i l1), (2, sy_i l2)]) mj_d_76_39 (Nat.le_of_ble_eq_true rfl) rfl rfl ?_
      refine sy_st (S' := (mj_m_76, 5, [(4, sy_i (l4 + 1)), (3, sy_i (dc_Soot_heaped (sy_rd h) l3 (sy_rd h 225 ((dc_Rows_kindIn (sy_rd h) l1 l2 l4).toNat)) (sy_rd h 226 ((dc_Rows_kindIn (sy_rd h) l1 l2 l4).toNat)))), (5, sy_i (dc_Rows_kindIn (sy_rd h) l1 l2 l4)), (0, .ref 224), (1, sy_i l1), (2, sy_i l2)], [], h)) mj_d_76_42 (fun _ _ => rfl) ?_
      refine sy_lv (lv := [(0, .ref 224), (1, sy_i l1), (2, sy_i l2), (3, sy_i (dc_Soot_heaped (sy_rd h) l3 (sy_rd h 225 ((dc_Rows_kindIn (sy_rd h) l1 l2 l4).toNat)) (sy_rd h 226 ((dc_Rows_kindIn (sy_rd h) l1 l2 l4).toNat)))), (4, sy_i (l4 + 1))]) rfl ⟨rfl, rfl, rfl, rfl, rfl, trivial⟩ ?_
      exact ih hH (by first | omega | assumption) (by first | omega | assumption) (by first | omega | assumption) (by first | omega | assumption) (by first | omega | assumption) (by first | omega | assumption) (by first | omega | assumption) (by first | omega | assumption) (by omega)
set_option maxRecDepth 100000 in
theorem dt_Rows_fits {h : mj_H} (hH : sy_H h) {a1 a2 : Int} (b_a1 : (-2147483648) ≤ a1) (t_a1 : a1 ≤ 2147483647) (b_a2 : 1 ≤ a2) (t_a2 : a2 ≤ 3) : sy_wp (mj_m_76, 0, [(0, .ref 224), (1, sy_i a1), (2, sy_i a2)], [], h) (dq1 h (0) (1) (dc_Rows_fits (sy_rd h) a1 a2)) := by
  unfold dc_Rows_fits
  refine sy_st (S' := (mj_m_76, 1, [(0, .ref 224), (1, sy_i a1), (2, sy_i a2)], [sy_i 0], h)) mj_d_76_0 (fun _ _ => rfl) ?_
  refine sy_st (S' := (mj_m_76, 2, [(3, sy_i 0), (0, .ref 224), (1, sy_i a1), (2, sy_i a2)], [], h)) mj_d_76_1 (fun _ _ => rfl) ?_
  refine sy_st (S' := (mj_m_76, 3, [(3, sy_i 0), (0, .ref 224), (1, sy_i a1), (2, sy_i a2)], [sy_i 1], h)) mj_d_76_2 (fun _ _ => rfl) ?_
  refine sy_st (S' := (mj_m_76, 5, [(4, sy_i 1), (3, sy_i 0), (0, .ref 224), (1, sy_i a1), (2, sy_i a2)], [], h)) mj_d_76_3 (fun _ _ => rfl) ?_
  refine sy_lv (lv := [(0, .ref 224), (1, sy_i a1), (2, sy_i a2), (3, sy_i 0), (4, sy_i 1)]) rfl ⟨rfl, rfl, rfl, rfl, rfl, trivial⟩ ?_
  exact dt_Rows_fits_5 4 hH (by first | omega | assumption) (by first | omega | assumption) (by first | omega | assumption) (by first | omega | assumption) (by first | omega | assumption) (by first | omega | assumption) (by first | omega | assumption) (by first | omega | assumption) (by omega)
def dc_Rows_howMany_4 (n : Nat) : sg_S → Int → Int → Int → Int := Nat.rec (fun (s : sg_S) l1 l2 l3 => 0) (fun _ ih => fun s l1 l2 l3 => (if (dc_Rows_rowsOf s l1) ≤ l3 then l2 else (if (dc_Rows_fits s l3 l1) = 0 then (ih s l1 l2 (l3 + 1)) else (ih s l1 (l2 + 1) (l3 + 1))))) n
theorem dc_Rows_howMany_4_s (n : Nat) (s : sg_S) (l1 l2 l3 : Int) : dc_Rows_howMany_4 (n + 1) s l1 l2 l3 = (if (dc_Rows_rowsOf s l1) ≤ l3 then l2 else (if (dc_Rows_fits s l3 l1) = 0 then ((dc_Rows_howMany_4 n) s l1 l2 (l3 + 1)) else ((dc_Rows_howMany_4 n) s l1 (l2 + 1) (l3 + 1)))) := rfl
def dc_Rows_howMany (s : sg_S) (a1 : Int) : Int := (dc_Rows_howMany_4 513 s a1 0 0)
set_option maxRecDepth 100000 in
theorem dt_Rows_howMany_4 : ∀ (n : Nat) {h : mj_H} (hH : sy_H h) {l1 l2 l3 : Int} (b_l1 : 1 ≤ l1) (t_l1 : l1 ≤ 3) (b_l2 : 0 ≤ l2) (t_l2 : l2 ≤ 512) (b_l3 : 0 ≤ l3) (t_l3 : l3 ≤ 512) (i0 : l2 ≤ l3) (hm : 512 - l3 < (n : Int)), sy_wp (mj_m_74, 4, [(0, .ref 224), (1, sy_i l1), (2, sy_i l2), (3, sy_i l3)], [], h) (dq1 h (0) (512) (dc_Rows_howMany_4 n (sy_rd h) l1 l2 l3)) := by
  intro n
  induction n with
  | zero =>
    intro h hH l1 l2 l3 b_l1 t_l1 b_l2 t_l2 b_l3 t_l3 i0 hm
    exact absurd hm (by omega)
  | succ n ih =>
    intro h hH l1 l2 l3 b_l1 t_l1 b_l2 t_l2 b_l3 t_l3 i0 hm
    rw [dc_Rows_howMany_4_s]
    refine sy_st (S' := (mj_m_74, 5, [(0, .ref 224), (1, sy_i l1), (2, sy_i l2), (3, sy_i l3)], [sy_i l3], h)) mj_d_74_4 (fun _ _ => rfl) ?_
    refine sy_st (S' := (mj_m_74, 6, [(0, .ref 224), (1, sy_i l1), (2, sy_i l2), (3, sy_i l3)], [sy_i l1, sy_i l3], h)) mj_d_74_5 (fun _ _ => rfl) ?_
    refine sy_cs (M' := mj_m_75) (vs := [sy_i l1]) (rest := [sy_i l3]) mj_d_74_6 rfl rfl rfl rfl ⟨Nat.le_of_ble_eq_true rfl, Nat.le_of_ble_eq_true rfl, Nat.le_of_ble_eq_true rfl, Nat.le_of_ble_eq_true rfl, Nat.le_of_ble_eq_true rfl⟩ (dt_Rows_rowsOf (a0 := l1) hH (by omega) (by omega)) ?_
    rintro _ _ ⟨rfl, rfl, b1, b1t⟩
    show sy_wp (mj_m_74, 9, [(0, .ref 224), (1, sy_i l1), (2, sy_i l2), (3, sy_i l3)], [sy_i (dc_Rows_rowsOf (sy_rd h) l1), sy_i l3], h) _
    refine sy_icm mj_d_74_9 rfl ⟨by omega, by omega⟩ ⟨by omega, by omega⟩ (fun (c2 : (dc_Rows_rowsOf (sy_rd h) l1) ≤ l3) => ?_) (fun (c2 : ¬ ((dc_Rows_rowsOf (sy_rd h) l1) ≤ l3)) => ?_)
    · skip
      rw [if_pos c2]
      refine sy_st (S' := (mj_m_74, 31, [(0, .ref 224), (1, sy_i l1), (2, sy_i l2), (3, sy_i l3)], [sy_i l2], h)) mj_d_74_30 (fun _ _ => rfl) ?_
      exact sy_reti mj_d_74_31 rfl ⟨rfl, rfl, by omega, by omega⟩
    · skip
      rw [if_neg c2]
      refine sy_st (S' := (mj_m_74, 13, [(0, .ref 224), (1, sy_i l1), (2, sy_i l2), (3, sy_i l3)], [.ref 224], h)) mj_d_74_12 (fun _ _ => rfl) ?_
      refine sy_st (S' := (mj_m_74, 14, [(0, .ref 224), (1, sy_i l1), (2, sy_i l2), (3, sy_i l3)], [sy_i l3, .ref 224], h)) mj_d_74_13 (fun _ _ => rfl) ?_
      refine sy_st (S' := (mj_m_74, 15, [(0, .ref 224), (1, sy_i l1), (2, sy_i l2), (3, sy_i l3)], [sy_i l1, sy_i l3, .ref 224], h)) mj_d_74_14 (fun _ _ => rfl) ?_
      refine sy_cv (M' := mj_m_76) (vs := [.ref 224, sy_i l3, sy_i l1]) (rest := []) mj_d_74_15 rfl rfl rfl rfl hH rfl rfl ⟨by decide, ⟨Nat.le_of_ble_eq_true rfl, Nat.le_of_ble_eq_true rfl, Nat.le_of_ble_eq_true rfl, Nat.le_of_ble_eq_true rfl, Nat.le_of_ble_eq_true rfl⟩⟩ (dt_Rows_fits (a1 := l3) (a2 := l1) hH (by omega) (by omega) (by omega) (by omega)) ?_
      rintro _ _ ⟨rfl, rfl, b3, b3t⟩
      show sy_wp (mj_m_74, 18, [(0, .ref 224), (1, sy_i l1), (2, sy_i l2), (3, sy_i l3)], [sy_i (dc_Rows_fits (sy_rd h) l3 l1)], h) _
      refine sy_ifc mj_d_74_18 rfl ⟨by omega, by omega⟩ (fun (c4 : (dc_Rows_fits (sy_rd h) l3 l1) = 0) => ?_) (fun (c4 : ¬ ((dc_Rows_fits (sy_rd h) l3 l1) = 0)) => ?_)
      · skip
        rw [if_pos c4]
        refine sy_inc (a := l3) (lv' := [(3, sy_i (l3 + 1)), (0, .ref 224), (1, sy_i l1), (2, sy_i l2)]) mj_d_74_24 (Nat.le_of_ble_eq_true rfl) rfl rfl ?_
        refine sy_st (S' := (mj_m_74, 4, [(3, sy_i (l3 + 1)), (0, .ref 224), (1, sy_i l1), (2, sy_i l2)], [], h)) mj_d_74_27 (fun _ _ => rfl) ?_
        refine sy_lv (lv := [(0, .ref 224), (1, sy_i l1), (2, sy_i l2), (3, sy_i (l3 + 1))]) rfl ⟨rfl, rfl, rfl, rfl, trivial⟩ ?_
        exact ih hH (by first | omega | assumption) (by first | omega | assumption) (by first | omega | assumption) (by first | omega | assumption) (by first | omega | assumption) (by first | omega | assumption) (by first | omega | assumption) (by omega)
      · skip
        rw [if_neg c4]
        refine sy_inc (a := l2) (lv' := [(2, sy_i (l2 + 1)), (0, .ref 224), (1, sy_i l1), (3, sy_i l3)]) mj_d_74_21 (Nat.le_of_ble_eq_true rfl) rfl rfl ?_
        refine sy_inc (a := l3) (lv' := [(3, sy_i (l3 + 1)), (2, sy_i (l2 + 1)), (0, .ref 224), (1, sy_i l1)]) mj_d_74_24 (Nat.le_of_ble_eq_true rfl) rfl rfl ?_
        refine sy_st (S' := (mj_m_74, 4, [(3, sy_i (l3 + 1)), (2, sy_i (l2 + 1)), (0, .ref 224), (1, sy_i l1)], [], h)) mj_d_74_27 (fun _ _ => rfl) ?_
        refine sy_lv (lv := [(0, .ref 224), (1, sy_i l1), (2, sy_i (l2 + 1)), (3, sy_i (l3 + 1))]) rfl ⟨rfl, rfl, rfl, rfl, trivial⟩ ?_
        exact ih hH (by first | omega | assumption) (by first | omega | assumption) (by first | omega | assumption) (by first | omega | assumption) (by first | omega | assumption) (by first | omega | assumption) (by first | omega | assumption) (by omega)
set_option maxRecDepth 100000 in
theorem dt_Rows_howMany {h : mj_H} (hH : sy_H h) {a1 : Int} (b_a1 : 1 ≤ a1) (t_a1 : a1 ≤ 3) : sy_wp (mj_m_74, 0, [(0, .ref 224), (1, sy_i a1)], [], h) (dq1 h (0) (512) (dc_Rows_howMany (sy_rd h) a1)) := by
  unfold dc_Rows_howMany
  refine sy_st (S' := (mj_m_74, 1, [(0, .ref 224), (1, sy_i a1)], [sy_i 0], h)) mj_d_74_0 (fun _ _ => rfl) ?_
  refine sy_st (S' := (mj_m_74, 2, [(2, sy_i 0), (0, .ref 224), (1, sy_i a1)], [], h)) mj_d_74_1 (fun _ _ => rfl) ?_
  refine sy_st (S' := (mj_m_74, 3, [(2, sy_i 0), (0, .ref 224), (1, sy_i a1)], [sy_i 0], h)) mj_d_74_2 (fun _ _ => rfl) ?_
  refine sy_st (S' := (mj_m_74, 4, [(3, sy_i 0), (2, sy_i 0), (0, .ref 224), (1, sy_i a1)], [], h)) mj_d_74_3 (fun _ _ => rfl) ?_
  refine sy_lv (lv := [(0, .ref 224), (1, sy_i a1), (2, sy_i 0), (3, sy_i 0)]) rfl ⟨rfl, rfl, rfl, rfl, trivial⟩ ?_
  exact dt_Rows_howMany_4 513 hH (by first | omega | assumption) (by first | omega | assumption) (by first | omega | assumption) (by first | omega | assumption) (by first | omega | assumption) (by first | omega | assumption) (by first | omega | assumption) (by omega)
def dc_Rows_fitting_5 (n : Nat) : sg_S → Int → Int → Int → Int := Nat.rec (fun (s : sg_S) l1 l3 l4 => 0) (fun _ ih => fun s l1 l3 l4 => (if (dc_Rows_rowsOf s l1) ≤ l4 then (-1) else (if l3 < 0 then (-1) else (if (dc_Rows_fits s l4 l1) = 0 then (ih s l1 l3 (l4 + 1)) else (if l3 = 0 then l4 else (ih s l1 (l3 + (-1)) (l4 + 1))))))) n
theorem dc_Rows_fitting_5_s (n : Nat) (s : sg_S) (l1 l3 l4 : Int) : dc_Rows_fitting_5 (n + 1) s l1 l3 l4 = (if (dc_Rows_rowsOf s l1) ≤ l4 then (-1) else (if l3 < 0 then (-1) else (if (dc_Rows_fits s l4 l1) = 0 then ((dc_Rows_fitting_5 n) s l1 l3 (l4 + 1)) else (if l3 = 0 then l4 else ((dc_Rows_fitting_5 n) s l1 (l3 + (-1)) (l4 + 1)))))) := rfl
def dc_Rows_fitting (s : sg_S) (a1 a2 : Int) : Int := (dc_Rows_fitting_5 513 s a1 a2 0)
set_option maxRecDepth 100000 in
theorem dt_Rows_fitting_5 : ∀ (n : Nat) {h : mj_H} (hH : sy_H h) {l1 l3 l4 : Int} (b_l1 : 1 ≤ l1) (t_l1 : l1 ≤ 3) (b_l3 : (-2147483648) ≤ l3) (t_l3 : l3 ≤ 2147483647) (b_l4 : 0 ≤ l4) (t_l4 : l4 ≤ 512) (hm : 512 - l4 < (n : Int)), sy_wp (mj_m_79, 5, [(0, .ref 224), (1, sy_i l1), (3, sy_i l3), (4, sy_i l4)], [], h) (dq1 h (-1) (511) (dc_Rows_fitting_5 n (sy_rd h) l1 l3 l4)) := by
  intro n
  induction n with
  | zero =>
    intro h hH l1 l3 l4 b_l1 t_l1 b_l3 t_l3 b_l4 t_l4 hm
    exact absurd hm (by omega)
  | succ n ih =>
    intro h hH l1 l3 l4 b_l1 t_l1 b_l3 t_l3 b_l4 t_l4 hm
    rw [dc_Rows_fitting_5_s]
    refine sy_st (S' := (mj_m_79, 7, [(0, .ref 224), (1, sy_i l1), (3, sy_i l3), (4, sy_i l4)], [sy_i l4], h)) mj_d_79_5 (fun _ _ => rfl) ?_
    refine sy_st (S' := (mj_m_79, 8, [(0, .ref 224), (1, sy_i l1), (3, sy_i l3), (4, sy_i l4)], [sy_i l1, sy_i l4], h)) mj_d_79_7 (fun _ _ => rfl) ?_
    refine sy_cs (M' := mj_m_75) (vs := [sy_i l1]) (rest := [sy_i l4]) mj_d_79_8 rfl rfl rfl rfl ⟨Nat.le_of_ble_eq_true rfl, Nat.le_of_ble_eq_true rfl, Nat.le_of_ble_eq_true rfl, Nat.le_of_ble_eq_true rfl, Nat.le_of_ble_eq_true rfl⟩ (dt_Rows_rowsOf (a0 := l1) hH (by omega) (by omega)) ?_
    rintro _ _ ⟨rfl, rfl, b1, b1t⟩
    show sy_wp (mj_m_79, 11, [(0, .ref 224), (1, sy_i l1), (3, sy_i l3), (4, sy_i l4)], [sy_i (dc_Rows_rowsOf (sy_rd h) l1), sy_i l4], h) _
    refine sy_icm mj_d_79_11 rfl ⟨by omega, by omega⟩ ⟨by omega, by omega⟩ (fun (c2 : (dc_Rows_rowsOf (sy_rd h) l1) ≤ l4) => ?_) (fun (c2 : ¬ ((dc_Rows_rowsOf (sy_rd h) l1) ≤ l4)) => ?_)
    · skip
      rw [if_pos c2]
      refine sy_st (S' := (mj_m_79, 45, [(0, .ref 224), (1, sy_i l1), (3, sy_i l3), (4, sy_i l4)], [sy_i (-1)], h)) mj_d_79_44 (fun _ _ => rfl) ?_
      exact sy_reti mj_d_79_45 rfl ⟨rfl, rfl, by omega, by omega⟩
    · skip
      rw [if_neg c2]
      refine sy_st (S' := (mj_m_79, 15, [(0, .ref 224), (1, sy_i l1), (3, sy_i l3), (4, sy_i l4)], [sy_i l3], h)) mj_d_79_14 (fun _ _ => rfl) ?_
      refine sy_ifc mj_d_79_15 rfl ⟨by omega, by omega⟩ (fun (c3 : l3 < 0) => ?_) (fun (c3 : ¬ (l3 < 0)) => ?_)
      · skip
        rw [if_pos c3]
        refine sy_st (S' := (mj_m_79, 45, [(0, .ref 224), (1, sy_i l1), (3, sy_i l3), (4, sy_i l4)], [sy_i (-1)], h)) mj_d_79_44 (fun _ _ => rfl) ?_
        exact sy_reti mj_d_79_45 rfl ⟨rfl, rfl, by omega, by omega⟩
      · skip
        rw [if_neg c3]
        refine sy_st (S' := (mj_m_79, 19, [(0, .ref 224), (1, sy_i l1), (3, sy_i l3), (4, sy_i l4)], [.ref 224], h)) mj_d_79_18 (fun _ _ => rfl) ?_
        refine sy_st (S' := (mj_m_79, 21, [(0, .ref 224), (1, sy_i l1), (3, sy_i l3), (4, sy_i l4)], [sy_i l4, .ref 224], h)) mj_d_79_19 (fun _ _ => rfl) ?_
        refine sy_st (S' := (mj_m_79, 22, [(0, .ref 224), (1, sy_i l1), (3, sy_i l3), (4, sy_i l4)], [sy_i l1, sy_i l4, .ref 224], h)) mj_d_79_21 (fun _ _ => rfl) ?_
        refine sy_cv (M' := mj_m_76) (vs := [.ref 224, sy_i l4, sy_i l1]) (rest := []) mj_d_79_22 rfl rfl rfl rfl hH rfl rfl ⟨by decide, ⟨Nat.le_of_ble_eq_true rfl, Nat.le_of_ble_eq_true rfl, Nat.le_of_ble_eq_true rfl, Nat.le_of_ble_eq_true rfl, Nat.le_of_ble_eq_true rfl⟩⟩ (dt_Rows_fits (a1 := l4) (a2 := l1) hH (by omega) (by omega) (by omega) (by omega)) ?_
        rintro _ _ ⟨rfl, rfl, b4, b4t⟩
        show sy_wp (mj_m_79, 25, [(0, .ref 224), (1, sy_i l1), (3, sy_i l3), (4, sy_i l4)], [sy_i (dc_Rows_fits (sy_rd h) l4 l1)], h) _
        refine sy_ifc mj_d_79_25 rfl ⟨by omega, by omega⟩ (fun (c5 : (dc_Rows_fits (sy_rd h) l4 l1) = 0) => ?_) (fun (c5 : ¬ ((dc_Rows_fits (sy_rd h) l4 l1) = 0)) => ?_)
        · skip
          rw [if_pos c5]
          refine sy_inc (a := l4) (lv' := [(4, sy_i (l4 + 1)), (0, .ref 224), (1, sy_i l1), (3, sy_i l3)]) mj_d_79_38 (Nat.le_of_ble_eq_true rfl) rfl rfl ?_
          refine sy_st (S' := (mj_m_79, 5, [(4, sy_i (l4 + 1)), (0, .ref 224), (1, sy_i l1), (3, sy_i l3)], [], h)) mj_d_79_41 (fun _ _ => rfl) ?_
          refine sy_lv (lv := [(0, .ref 224), (1, sy_i l1), (3, sy_i l3), (4, sy_i (l4 + 1))]) rfl ⟨rfl, rfl, rfl, rfl, trivial⟩ ?_
          exact ih hH (by first | omega | assumption) (by first | omega | assumption) (by first | omega | assumption) (by first | omega | assumption) (by first | omega | assumption) (by first | omega | assumption) (by omega)
        · skip
          rw [if_neg c5]
          refine sy_st (S' := (mj_m_79, 29, [(0, .ref 224), (1, sy_i l1), (3, sy_i l3), (4, sy_i l4)], [sy_i l3], h)) mj_d_79_28 (fun _ _ => rfl) ?_
          refine sy_ifc mj_d_79_29 rfl ⟨by omega, by omega⟩ (fun (c6 : ¬ (l3 = 0)) => ?_) (fun (c6 : ¬ ¬ (l3 = 0)) => ?_)
          · skip
            rw [if_neg c6]
            refine sy_inc (a := l3) (lv' := [(3, sy_i (l3 + (-1))), (0, .ref 224), (1, sy_i l1), (4, sy_i l4)]) mj_d_79_35 (Nat.le_of_ble_eq_true rfl) rfl rfl ?_
            refine sy_inc (a := l4) (lv' := [(4, sy_i (l4 + 1)), (3, sy_i (l3 + (-1))), (0, .ref 224), (1, sy_i l1)]) mj_d_79_38 (Nat.le_of_ble_eq_true rfl) rfl rfl ?_
            refine sy_st (S' := (mj_m_79, 5, [(4, sy_i (l4 + 1)), (3, sy_i (l3 + (-1))), (0, .ref 224), (1, sy_i l1)], [], h)) mj_d_79_41 (fun _ _ => rfl) ?_
            refine sy_lv (lv := [(0, .ref 224), (1, sy_i l1), (3, sy_i (l3 + (-1))), (4, sy_i (l4 + 1))]) rfl ⟨rfl, rfl, rfl, rfl, trivial⟩ ?_
            exact ih hH (by first | omega | assumption) (by first | omega | assumption) (by first | omega | assumption) (by first | omega | assumption) (by first | omega | assumption) (by first | omega | assumption) (by omega)
          · skip
            rw [if_pos (Decidable.not_not.mp c6)]
            replace c6 := Decidable.not_not.mp c6
            refine sy_st (S' := (mj_m_79, 34, [(0, .ref 224), (1, sy_i l1), (3, sy_i l3), (4, sy_i l4)], [sy_i l4], h)) mj_d_79_32 (fun _ _ => rfl) ?_
            exact sy_reti mj_d_79_34 rfl ⟨rfl, rfl, by omega, by omega⟩
set_option maxRecDepth 100000 in
theorem dt_Rows_fitting {h : mj_H} (hH : sy_H h) {a1 a2 : Int} (b_a1 : 1 ≤ a1) (t_a1 : a1 ≤ 3) (b_a2 : (-2147483648) ≤ a2) (t_a2 : a2 ≤ 2147483647) : sy_wp (mj_m_79, 0, [(0, .ref 224), (1, sy_i a1), (2, sy_i a2)], [], h) (dq1 h (-1) (511) (dc_Rows_fitting (sy_rd h) a1 a2)) := by
  unfold dc_Rows_fitting
  refine sy_st (S' := (mj_m_79, 1, [(0, .ref 224), (1, sy_i a1), (2, sy_i a2)], [sy_i a2], h)) mj_d_79_0 (fun _ _ => rfl) ?_
  refine sy_st (S' := (mj_m_79, 2, [(3, sy_i a2), (0, .ref 224), (1, sy_i a1), (2, sy_i a2)], [], h)) mj_d_79_1 (fun _ _ => rfl) ?_
  refine sy_st (S' := (mj_m_79, 3, [(3, sy_i a2), (0, .ref 224), (1, sy_i a1), (2, sy_i a2)], [sy_i 0], h)) mj_d_79_2 (fun _ _ => rfl) ?_
  refine sy_st (S' := (mj_m_79, 5, [(4, sy_i 0), (3, sy_i a2), (0, .ref 224), (1, sy_i a1), (2, sy_i a2)], [], h)) mj_d_79_3 (fun _ _ => rfl) ?_
  refine sy_lv (lv := [(0, .ref 224), (1, sy_i a1), (3, sy_i a2), (4, sy_i 0)]) rfl ⟨rfl, rfl, rfl, rfl, trivial⟩ ?_
  exact dt_Rows_fitting_5 513 hH (by first | omega | assumption) (by first | omega | assumption) (by first | omega | assumption) (by first | omega | assumption) (by first | omega | assumption) (by first | omega | assumption) (by omega)
def dc_Rows_sameInAll_5 (n : Nat) : sg_S → Int → Int → Int → Int → Int := Nat.rec (fun (s : sg_S) l1 l2 l3 l4 => 0) (fun _ ih => fun s l1 l2 l3 l4 => (if (dc_Rows_rowsOf s l1) ≤ l4 then l3 else (if (dc_Rows_fits s l4 l1) = 0 then (ih s l1 l2 l3 (l4 + 1)) else (if l3 = (-1) then (ih s l1 l2 (dc_Rows_kindIn s l4 l1 l2) (l4 + 1)) else (if l3 = (dc_Rows_kindIn s l4 l1 l2) then (ih s l1 l2 (dc_Rows_kindIn s l4 l1 l2) (l4 + 1)) else (-1)))))) n
theorem dc_Rows_sameInAll_5_s (n : Nat) (s : sg_S) (l1 l2 l3 l4 : Int) : dc_Rows_sameInAll_5 (n + 1) s l1 l2 l3 l4 = (if (dc_Rows_rowsOf s l1) ≤ l4 then l3 else (if (dc_Rows_fits s l4 l1) = 0 then ((dc_Rows_sameInAll_5 n) s l1 l2 l3 (l4 + 1)) else (if l3 = (-1) then ((dc_Rows_sameInAll_5 n) s l1 l2 (dc_Rows_kindIn s l4 l1 l2) (l4 + 1)) else (if l3 = (dc_Rows_kindIn s l4 l1 l2) then ((dc_Rows_sameInAll_5 n) s l1 l2 (dc_Rows_kindIn s l4 l1 l2) (l4 + 1)) else (-1))))) := rfl
def dc_Rows_sameInAll (s : sg_S) (a1 a2 : Int) : Int := (dc_Rows_sameInAll_5 513 s a1 a2 (-1) 0)
set_option maxRecDepth 100000 in
theorem dt_Rows_sameInAll_5 : ∀ (n : Nat) {h : mj_H} (hH : sy_H h) {l1 l2 l3 l4 : Int} (b_l1 : 1 ≤ l1) (t_l1 : l1 ≤ 3) (b_l2 : 1 ≤ l2) (t_l2 : l2 ≤ 3) (b_l3 : (-1) ≤ l3) (t_l3 : l3 ≤ 7) (b_l4 : 0 ≤ l4) (t_l4 : l4 ≤ 512) (hm : 512 - l4 < (n : Int)), sy_wp (mj_m_81, 5, [(0, .ref 224), (1, sy_i l1), (2, sy_i l2), (3, sy_i l3), (4, sy_i l4)], [], h) (dq1 h (-1) (7) (dc_Rows_sameInAll_5 n (sy_rd h) l1 l2 l3 l4)) := by
  intro n
  induction n with
  | zero =>
    intro h hH l1 l2 l3 l4 b_l1 t_l1 b_l2 t_l2 b_l3 t_l3 b_l4 t_l4 hm
    exact absurd hm (by omega)
  | succ n ih =>
    intro h hH l1 l2 l3 l4 b_l1 t_l1 b_l2 t_l2 b_l3 t_l3 b_l4 t_l4 hm
    rw [dc_Rows_sameInAll_5_s]
    refine sy_st (S' := (mj_m_81, 7, [(0, .ref 224), (1, sy_i l1), (2, sy_i l2), (3, sy_i l3), (4, sy_i l4)], [sy_i l4], h)) mj_d_81_5 (fun _ _ => rfl) ?_
    refine sy_st (S' := (mj_m_81, 8, [(0, .ref 224), (1, sy_i l1), (2, sy_i l2), (3, sy_i l3), (4, sy_i l4)], [sy_i l1, sy_i l4], h)) mj_d_81_7 (fun _ _ => rfl) ?_
    refine sy_cs (M' := mj_m_75) (vs := [sy_i l1]) (rest := [sy_i l4]) mj_d_81_8 rfl rfl rfl rfl ⟨Nat.le_of_ble_eq_true rfl, Nat.le_of_ble_eq_true rfl, Nat.le_of_ble_eq_true rfl, Nat.le_of_ble_eq_true rfl, Nat.le_of_ble_eq_true rfl⟩ (dt_Rows_rowsOf (a0 := l1) hH (by omega) (by omega)) ?_
    rintro _ _ ⟨rfl, rfl, b1, b1t⟩
    show sy_wp (mj_m_81, 11, [(0, .ref 224), (1, sy_i l1), (2, sy_i l2), (3, sy_i l3), (4, sy_i l4)], [sy_i (dc_Rows_rowsOf (sy_rd h) l1), sy_i l4], h) _
    refine sy_icm mj_d_81_11 rfl ⟨by omega, by omega⟩ ⟨by omega, by omega⟩ (fun (c2 : (dc_Rows_rowsOf (sy_rd h) l1) ≤ l4) => ?_) (fun (c2 : ¬ ((dc_Rows_rowsOf (sy_rd h) l1) ≤ l4)) => ?_)
    · skip
      rw [if_pos c2]
      refine sy_st (S' := (mj_m_81, 56, [(0, .ref 224), (1, sy_i l1), (2, sy_i l2), (3, sy_i l3), (4, sy_i l4)], [sy_i l3], h)) mj_d_81_55 (fun _ _ => rfl) ?_
      exact sy_reti mj_d_81_56 rfl ⟨rfl, rfl, by omega, by omega⟩
    · skip
      rw [if_neg c2]
      refine sy_st (S' := (mj_m_81, 15, [(0, .ref 224), (1, sy_i l1), (2, sy_i l2), (3, sy_i l3), (4, sy_i l4)], [.ref 224], h)) mj_d_81_14 (fun _ _ => rfl) ?_
      refine sy_st (S' := (mj_m_81, 17, [(0, .ref 224), (1, sy_i l1), (2, sy_i l2), (3, sy_i l3), (4, sy_i l4)], [sy_i l4, .ref 224], h)) mj_d_81_15 (fun _ _ => rfl) ?_
      refine sy_st (S' := (mj_m_81, 18, [(0, .ref 224), (1, sy_i l1), (2, sy_i l2), (3, sy_i l3), (4, sy_i l4)], [sy_i l1, sy_i l4, .ref 224], h)) mj_d_81_17 (fun _ _ => rfl) ?_
      refine sy_cv (M' := mj_m_76) (vs := [.ref 224, sy_i l4, sy_i l1]) (rest := []) mj_d_81_18 rfl rfl rfl rfl hH rfl rfl ⟨by decide, ⟨Nat.le_of_ble_eq_true rfl, Nat.le_of_ble_eq_true rfl, Nat.le_of_ble_eq_true rfl, Nat.le_of_ble_eq_true rfl, Nat.le_of_ble_eq_true rfl⟩⟩ (dt_Rows_fits (a1 := l4) (a2 := l1) hH (by omega) (by omega) (by omega) (by omega)) ?_
      rintro _ _ ⟨rfl, rfl, b3, b3t⟩
      show sy_wp (mj_m_81, 21, [(0, .ref 224), (1, sy_i l1), (2, sy_i l2), (3, sy_i l3), (4, sy_i l4)], [sy_i (dc_Rows_fits (sy_rd h) l4 l1)], h) _
      refine sy_ifc mj_d_81_21 rfl ⟨by omega, by omega⟩ (fun (c4 : (dc_Rows_fits (sy_rd h) l4 l1) = 0) => ?_) (fun (c4 : ¬ ((dc_Rows_fits (sy_rd h) l4 l1) = 0)) => ?_)
      · skip
        rw [if_pos c4]
        refine sy_inc (a := l4) (lv' := [(4, sy_i (l4 + 1)), (0, .ref 224), (1, sy_i l1), (2, sy_i l2), (3, sy_i l3)]) mj_d_81_49 (Nat.le_of_ble_eq_true rfl) rfl rfl ?_
        refine sy_st (S' := (mj_m_81, 5, [(4, sy_i (l4 + 1)), (0, .ref 224), (1, sy_i l1), (2, sy_i l2), (3, sy_i l3)], [], h)) mj_d_81_52 (fun _ _ => rfl) ?_
        refine sy_lv (lv := [(0, .ref 224), (1, sy_i l1), (2, sy_i l2), (3, sy_i l3), (4, sy_i (l4 + 1))]) rfl ⟨rfl, rfl, rfl, rfl, rfl, trivial⟩ ?_
        exact ih hH (by first | omega | assumption) (by first | omega | assumption) (by first | omega | assumption) (by first | omega | assumption) (by first | omega | assumption) (by first | omega | assumption) (by first | omega | assumption) (by first | omega | assumption) (by omega)
      · skip
        rw [if_neg c4]
        refine sy_st (S' := (mj_m_81, 26, [(0, .ref 224), (1, sy_i l1), (2, sy_i l2), (3, sy_i l3), (4, sy_i l4)], [sy_i l4], h)) mj_d_81_24 (fun _ _ => rfl) ?_
        refine sy_st (S' := (mj_m_81, 27, [(0, .ref 224), (1, sy_i l1), (2, sy_i l2), (3, sy_i l3), (4, sy_i l4)], [sy_i l1, sy_i l4], h)) mj_d_81_26 (fun _ _ => rfl) ?_
        refine sy_st (S' := (mj_m_81, 28, [(0, .ref 224), (1, sy_i l1), (2, sy_i l2), (3, sy_i l3), (4, sy_i l4)], [sy_i l2, sy_i l1, sy_i l4], h)) mj_d_81_27 (fun _ _ => rfl) ?_
        refine sy_cs (M' := mj_m_77) (vs := [sy_i l4, sy_i l1, sy_i l2]) (rest := []) mj_d_81_28 rfl rfl rfl rfl ⟨Nat.le_of_ble_eq_true rfl, Nat.le_of_ble_eq_true rfl, Nat.le_of_ble_eq_true rfl, Nat.le_of_ble_eq_true rfl, Nat.le_of_ble_eq_true rfl⟩ (dt_Rows_kindIn (a0 := l4) (a1 := l1) (a2 := l2) hH (by omega) (by omega) (by omega) (by omega) (by omega) (by omega)) ?_
        rintro _ _ ⟨rfl, rfl, b5, b5t⟩
        show sy_wp (mj_m_81, 31, [(0, .ref 224), (1, sy_i l1), (2, sy_i l2), (3, sy_i l3), (4, sy_i l4)], [sy_i (dc_Rows_kindIn (sy_rd h) l4 l1 l2)], h) _
        refine sy_st (S' := (mj_m_81, 33, [(5, sy_i (dc_Rows_kindIn (sy_rd h) l4 l1 l2)), (0, .ref 224), (1, sy_i l1), (2, sy_i l2), (3, sy_i l3), (4, sy_i l4)], [], h)) mj_d_81_31 (fun _ _ => rfl) ?_
        refine sy_st (S' := (mj_m_81, 34, [(5, sy_i (dc_Rows_kindIn (sy_rd h) l4 l1 l2)), (0, .ref 224), (1, sy_i l1), (2, sy_i l2), (3, sy_i l3), (4, sy_i l4)], [sy_i l3], h)) mj_d_81_33 (fun _ _ => rfl) ?_
        refine sy_st (S' := (mj_m_81, 35, [(5, sy_i (dc_Rows_kindIn (sy_rd h) l4 l1 l2)), (0, .ref 224), (1, sy_i l1), (2, sy_i l2), (3, sy_i l3), (4, sy_i l4)], [sy_i (-1), sy_i l3], h)) mj_d_81_34 (fun _ _ => rfl) ?_
        refine sy_icm mj_d_81_35 rfl ⟨by omega, by omega⟩ ⟨by omega, by omega⟩ (fun (c6 : l3 = (-1)) => ?_) (fun (c6 : ¬ (l3 = (-1))) => ?_)
        · skip
          rw [if_pos c6]
          refine sy_st (S' := (mj_m_81, 48, [(5, sy_i (dc_Rows_kindIn (sy_rd h) l4 l1 l2)), (0, .ref 224), (1, sy_i l1), (2, sy_i l2), (3, sy_i l3), (4, sy_i l4)], [sy_i (dc_Rows_kindIn (sy_rd h) l4 l1 l2)], h)) mj_d_81_46 (fun _ _ => rfl) ?_
          refine sy_st (S' := (mj_m_81, 49, [(3, sy_i (dc_Rows_kindIn (sy_rd h) l4 l1 l2)), (5, sy_i (dc_Rows_kindIn (sy_rd h) l4 l1 l2)), (0, .ref 224), (1, sy_i l1), (2, sy_i l2), (4, sy_i l4)], [], h)) mj_d_81_48 (fun _ _ => rfl) ?_
          refine sy_inc (a := l4) (lv' := [(4, sy_i (l4 + 1)), (3, sy_i (dc_Rows_kindIn (sy_rd h) l4 l1 l2)), (5, sy_i (dc_Rows_kindIn (sy_rd h) l4 l1 l2)), (0, .ref 224), (1, sy_i l1), (2, sy_i l2)]) mj_d_81_49 (Nat.le_of_ble_eq_true rfl) rfl rfl ?_
          refine sy_st (S' := (mj_m_81, 5, [(4, sy_i (l4 + 1)), (3, sy_i (dc_Rows_kindIn (sy_rd h) l4 l1 l2)), (5, sy_i (dc_Rows_kindIn (sy_rd h) l4 l1 l2)), (0, .ref 224), (1, sy_i l1), (2, sy_i l2)], [], h)) mj_d_81_52 (fun _ _ => rfl) ?_
          refine sy_lv (lv := [(0, .ref 224), (1, sy_i l1), (2, sy_i l2), (3, sy_i (dc_Rows_kindIn (sy_rd h) l4 l1 l2)), (4, sy_i (l4 + 1))]) rfl ⟨rfl, rfl, rfl, rfl, rfl, trivial⟩ ?_
          exact ih hH (by first | omega | assumption) (by first | omega | assumption) (by first | omega | assumption) (by first | omega | assumption) (by first | omega | assumption) (by first | omega | assumption) (by first | omega | assumption) (by first | omega | assumption) (by omega)
        · skip
          rw [if_neg c6]
          refine sy_st (S' := (mj_m_81, 39, [(5, sy_i (dc_Rows_kindIn (sy_rd h) l4 l1 l2)), (0, .ref 224), (1, sy_i l1), (2, sy_i l2), (3, sy_i l3), (4, sy_i l4)], [sy_i l3], h)) mj_d_81_38 (fun _ _ => rfl) ?_
          refine sy_st (S' := (mj_m_81, 41, [(5, sy_i (dc_Rows_kindIn (sy_rd h) l4 l1 l2)), (0, .ref 224), (1, sy_i l1), (2, sy_i l2), (3, sy_i l3), (4, sy_i l4)], [sy_i (dc_Rows_kindIn (sy_rd h) l4 l1 l2), sy_i l3], h)) mj_d_81_39 (fun _ _ => rfl) ?_
          refine sy_icm mj_d_81_41 rfl ⟨by omega, by omega⟩ ⟨by omega, by omega⟩ (fun (c7 : l3 = (dc_Rows_kindIn (sy_rd h) l4 l1 l2)) => ?_) (fun (c7 : ¬ (l3 = (dc_Rows_kindIn (sy_rd h) l4 l1 l2))) => ?_)
          · skip
            rw [if_pos c7]
            refine sy_st (S' := (mj_m_81, 48, [(5, sy_i (dc_Rows_kindIn (sy_rd h) l4 l1 l2)), (0, .ref 224), (1, sy_i l1), (2, sy_i l2), (3, sy_i l3), (4, sy_i l4)], [sy_i (dc_Rows_kindIn (sy_rd h) l4 l1 l2)], h)) mj_d_81_46 (fun _ _ => rfl) ?_
            refine sy_st (S' := (mj_m_81, 49, [(3, sy_i (dc_Rows_kindIn (sy_rd h) l4 l1 l2)), (5, sy_i (dc_Rows_kindIn (sy_rd h) l4 l1 l2)), (0, .ref 224), (1, sy_i l1), (2, sy_i l2), (4, sy_i l4)], [], h)) mj_d_81_48 (fun _ _ => rfl) ?_
            refine sy_inc (a := l4) (lv' := [(4, sy_i (l4 + 1)), (3, sy_i (dc_Rows_kindIn (sy_rd h) l4 l1 l2)), (5, sy_i (dc_Rows_kindIn (sy_rd h) l4 l1 l2)), (0, .ref 224), (1, sy_i l1), (2, sy_i l2)]) mj_d_81_49 (Nat.le_of_ble_eq_true rfl) rfl rfl ?_
            refine sy_st (S' := (mj_m_81, 5, [(4, sy_i (l4 + 1)), (3, sy_i (dc_Rows_kindIn (sy_rd h) l4 l1 l2)), (5, sy_i (dc_Rows_kindIn (sy_rd h) l4 l1 l2)), (0, .ref 224), (1, sy_i l1), (2, sy_i l2)], [], h)) mj_d_81_52 (fun _ _ => rfl) ?_
            refine sy_lv (lv := [(0, .ref 224), (1, sy_i l1), (2, sy_i l2), (3, sy_i (dc_Rows_kindIn (sy_rd h) l4 l1 l2)), (4, sy_i (l4 + 1))]) rfl ⟨rfl, rfl, rfl, rfl, rfl, trivial⟩ ?_
            exact ih hH (by first | omega | assumption) (by first | omega | assumption) (by first | omega | assumption) (by first | omega | assumption) (by first | omega | assumption) (by first | omega | assumption) (by first | omega | assumption) (by first | omega | assumption) (by omega)
          · skip
            rw [if_neg c7]
            refine sy_st (S' := (mj_m_81, 45, [(5, sy_i (dc_Rows_kindIn (sy_rd h) l4 l1 l2)), (0, .ref 224), (1, sy_i l1), (2, sy_i l2), (3, sy_i l3), (4, sy_i l4)], [sy_i (-1)], h)) mj_d_81_44 (fun _ _ => rfl) ?_
            exact sy_reti mj_d_81_45 rfl ⟨rfl, rfl, by omega, by omega⟩
set_option maxRecDepth 100000 in
theorem dt_Rows_sameInAll {h : mj_H} (hH : sy_H h) {a1 a2 : Int} (b_a1 : 1 ≤ a1) (t_a1 : a1 ≤ 3) (b_a2 : 1 ≤ a2) (t_a2 : a2 ≤ 3) : sy_wp (mj_m_81, 0, [(0, .ref 224), (1, sy_i a1), (2, sy_i a2)], [], h) (dq1 h (-1) (7) (dc_Rows_sameInAll (sy_rd h) a1 a2)) := by
  unfold dc_Rows_sameInAll
  refine sy_st (S' := (mj_m_81, 1, [(0, .ref 224), (1, sy_i a1), (2, sy_i a2)], [sy_i (-1)], h)) mj_d_81_0 (fun _ _ => rfl) ?_
  refine sy_st (S' := (mj_m_81, 2, [(3, sy_i (-1)), (0, .ref 224), (1, sy_i a1), (2, sy_i a2)], [], h)) mj_d_81_1 (fun _ _ => rfl) ?_
  refine sy_st (S' := (mj_m_81, 3, [(3, sy_i (-1)), (0, .ref 224), (1, sy_i a1), (2, sy_i a2)], [sy_i 0], h)) mj_d_81_2 (fun _ _ => rfl) ?_
  refine sy_st (S' := (mj_m_81, 5, [(4, sy_i 0), (3, sy_i (-1)), (0, .ref 224), (1, sy_i a1), (2, sy_i a2)], [], h)) mj_d_81_3 (fun _ _ => rfl) ?_
  refine sy_lv (lv := [(0, .ref 224), (1, sy_i a1), (2, sy_i a2), (3, sy_i (-1)), (4, sy_i 0)]) rfl ⟨rfl, rfl, rfl, rfl, rfl, trivial⟩ ?_
  exact dt_Rows_sameInAll_5 513 hH (by first | omega | assumption) (by first | omega | assumption) (by first | omega | assumption) (by first | omega | assumption) (by first | omega | assumption) (by first | omega | assumption) (by first | omega | assumption) (by first | omega | assumption) (by omega)
def dc_C_burned (s : sg_S) (a1 a2 a3 : Int) : sg_S × Int := (if (dc_C_isHouse s a1) = 0 then (s, (-1000000001)) else (if a2 < 1 then (s, (-1000000002)) else (if a2 ≤ 3 then (if a3 = (-1) then ((dc_Rows_lookInto s a1), (dc_Rows_howMany (dc_Rows_lookInto s a1) a2)) else ((dc_Rows_lookInto s a1), (dc_Rows_fitting (dc_Rows_lookInto s a1) a2 a3))) else (s, (-1000000002)))))
set_option maxRecDepth 100000 in
theorem dt_C_burned {h : mj_H} (hH : sy_H h) {a1 a2 a3 : Int} (b_a1 : (-2147483648) ≤ a1) (t_a1 : a1 ≤ 2147483647) (b_a2 : (-2147483648) ≤ a2) (t_a2 : a2 ≤ 2147483647) (b_a3 : (-2147483648) ≤ a3) (t_a3 : a3 ≤ 2147483647) : sy_wp (mj_m_70, 0, [(0, .ref 0), (1, sy_i a1), (2, sy_i a2), (3, sy_i a3)], [], h) (dq2 (-2147483648) (2147483647) (dc_C_burned (sy_rd h) a1 a2 a3)) := by
  unfold dc_C_burned
  have n8_3 := hH.bd (a := 8) (k := 3) rfl (by decide) rfl
  refine sy_st (S' := (mj_m_70, 1, [(0, .ref 0), (1, sy_i a1), (2, sy_i a2), (3, sy_i a3)], [.ref 0], h)) mj_d_70_0 (fun _ _ => rfl) ?_
  refine sy_st (S' := (mj_m_70, 2, [(0, .ref 0), (1, sy_i a1), (2, sy_i a2), (3, sy_i a3)], [sy_i a1, .ref 0], h)) mj_d_70_1 (fun _ _ => rfl) ?_
  refine sy_cv (M' := mj_m_39) (vs := [.ref 0, sy_i a1]) (rest := []) mj_d_70_2 rfl rfl rfl rfl hH rfl rfl ⟨by decide, ⟨Nat.le_of_ble_eq_true rfl, Nat.le_of_ble_eq_true rfl, Nat.le_of_ble_eq_true rfl, Nat.le_of_ble_eq_true rfl, Nat.le_of_ble_eq_true rfl⟩⟩ (dt_C_isHouse (a1 := a1) hH (by omega) (by omega)) ?_
  rintro _ _ ⟨rfl, rfl, b1, b1t⟩
  have q2 := df_C_isHouse_0 (sy_rd h) a1
  show sy_wp (mj_m_70, 5, [(0, .ref 0), (1, sy_i a1), (2, sy_i a2), (3, sy_i a3)], [sy_i (dc_C_isHouse (sy_rd h) a1)], h) _
  refine sy_ifc mj_d_70_5 rfl ⟨by omega, by omega⟩ (fun (c3 : ¬ ((dc_C_isHouse (sy_rd h) a1) = 0)) => ?_) (fun (c3 : ¬ ¬ ((dc_C_isHouse (sy_rd h) a1) = 0)) => ?_)
  · skip
    rw [if_neg c3]
    refine sy_st (S' := (mj_m_70, 12, [(0, .ref 0), (1, sy_i a1), (2, sy_i a2), (3, sy_i a3)], [sy_i a2], h)) mj_d_70_11 (fun _ _ => rfl) ?_
    refine sy_st (S' := (mj_m_70, 13, [(0, .ref 0), (1, sy_i a1), (2, sy_i a2), (3, sy_i a3)], [sy_i 1, sy_i a2], h)) mj_d_70_12 (fun _ _ => rfl) ?_
    refine sy_icm mj_d_70_13 rfl ⟨by omega, by omega⟩ ⟨by omega, by omega⟩ (fun (c4 : a2 < 1) => ?_) (fun (c4 : ¬ (a2 < 1)) => ?_)
    · skip
      rw [if_pos c4]
      refine sy_ldc (n := -1000000002) mj_d_70_21 rfl (by decide) ?_
      exact sy_reti mj_d_70_23 rfl ⟨hH, rfl, rfl, by omega, by omega⟩
    · skip
      rw [if_neg c4]
      refine sy_st (S' := (mj_m_70, 17, [(0, .ref 0), (1, sy_i a1), (2, sy_i a2), (3, sy_i a3)], [sy_i a2], h)) mj_d_70_16 (fun _ _ => rfl) ?_
      refine sy_st (S' := (mj_m_70, 18, [(0, .ref 0), (1, sy_i a1), (2, sy_i a2), (3, sy_i a3)], [sy_i 3, sy_i a2], h)) mj_d_70_17 (fun _ _ => rfl) ?_
      refine sy_icm mj_d_70_18 rfl ⟨by omega, by omega⟩ ⟨by omega, by omega⟩ (fun (c5 : a2 ≤ 3) => ?_) (fun (c5 : ¬ (a2 ≤ 3)) => ?_)
      · skip
        rw [if_pos c5]
        refine sy_st (S' := (mj_m_70, 25, [(0, .ref 0), (1, sy_i a1), (2, sy_i a2), (3, sy_i a3)], [.ref 0], h)) mj_d_70_24 (fun _ _ => rfl) ?_
        refine sy_gr2 (b := 224) mj_d_70_25 rfl rfl (by decide) rfl rfl hH ?_
        refine sy_st (S' := (mj_m_70, 29, [(0, .ref 0), (1, sy_i a1), (2, sy_i a2), (3, sy_i a3)], [sy_i a1, .ref 224], h)) mj_d_70_28 (fun _ _ => rfl) ?_
        refine sy_st (S' := (mj_m_70, 30, [(0, .ref 0), (1, sy_i a1), (2, sy_i a2), (3, sy_i a3)], [.ref 0, sy_i a1, .ref 224], h)) mj_d_70_29 (fun _ _ => rfl) ?_
        refine sy_gr2 (b := 13) mj_d_70_30 rfl rfl (by decide) rfl rfl hH ?_
        refine sy_st (S' := (mj_m_70, 34, [(0, .ref 0), (1, sy_i a1), (2, sy_i a2), (3, sy_i a3)], [.ref 0, .ref 13, sy_i a1, .ref 224], h)) mj_d_70_33 (fun _ _ => rfl) ?_
        refine sy_gr2 (b := 8) mj_d_70_34 rfl rfl (by decide) rfl rfl hH ?_
        refine sy_cv (M' := mj_m_71) (vs := [.ref 224, sy_i a1, .ref 13, .ref 8]) (rest := []) mj_d_70_37 rfl rfl rfl rfl hH rfl rfl ⟨by decide, ⟨Nat.le_of_ble_eq_true rfl, Nat.le_of_ble_eq_true rfl, Nat.le_of_ble_eq_true rfl, Nat.le_of_ble_eq_true rfl, Nat.le_of_ble_eq_true rfl⟩⟩ (dt_Rows_lookInto (a1 := a1) hH (by omega) (by omega)) ?_
        rintro _ h6 ⟨rfl, th6, eh6⟩
        show sy_wp (mj_m_70, 40, [(0, .ref 0), (1, sy_i a1), (2, sy_i a2), (3, sy_i a3)], [], h6) _
        refine sy_st (S' := (mj_m_70, 41, [(0, .ref 0), (1, sy_i a1), (2, sy_i a2), (3, sy_i a3)], [sy_i a3], h6)) mj_d_70_40 (fun _ _ => rfl) ?_
        refine sy_st (S' := (mj_m_70, 42, [(0, .ref 0), (1, sy_i a1), (2, sy_i a2), (3, sy_i a3)], [sy_i (-1), sy_i a3], h6)) mj_d_70_41 (fun _ _ => rfl) ?_
        refine sy_icm mj_d_70_42 rfl ⟨by omega, by omega⟩ ⟨by omega, by omega⟩ (fun (c8 : ¬ (a3 = (-1))) => ?_) (fun (c8 : ¬ ¬ (a3 = (-1))) => ?_)
        · skip
          rw [if_neg c8]
          refine sy_st (S' := (mj_m_70, 57, [(0, .ref 0), (1, sy_i a1), (2, sy_i a2), (3, sy_i a3)], [.ref 0], h6)) mj_d_70_56 (fun _ _ => rfl) ?_
          refine sy_gr2 (b := 224) mj_d_70_57 rfl rfl (by decide) rfl rfl th6 ?_
          refine sy_st (S' := (mj_m_70, 61, [(0, .ref 0), (1, sy_i a1), (2, sy_i a2), (3, sy_i a3)], [sy_i a2, .ref 224], h6)) mj_d_70_60 (fun _ _ => rfl) ?_
          refine sy_st (S' := (mj_m_70, 62, [(0, .ref 0), (1, sy_i a1), (2, sy_i a2), (3, sy_i a3)], [sy_i a3, sy_i a2, .ref 224], h6)) mj_d_70_61 (fun _ _ => rfl) ?_
          refine sy_cv (M' := mj_m_79) (vs := [.ref 224, sy_i a2, sy_i a3]) (rest := []) mj_d_70_62 rfl rfl rfl rfl th6 rfl rfl ⟨by decide, ⟨Nat.le_of_ble_eq_true rfl, Nat.le_of_ble_eq_true rfl, Nat.le_of_ble_eq_true rfl, Nat.le_of_ble_eq_true rfl, Nat.le_of_ble_eq_true rfl⟩⟩ (dt_Rows_fitting (a1 := a2) (a2 := a3) th6 (by omega) (by omega) (by omega) (by omega)) ?_
          rintro _ _ ⟨rfl, rfl, b9, b9t⟩
          rw [eh6] at b9 b9t ⊢
          show sy_wp (mj_m_70, 65, [(0, .ref 0), (1, sy_i a1), (2, sy_i a2), (3, sy_i a3)], [sy_i (dc_Rows_fitting (dc_Rows_lookInto (sy_rd h) a1) a2 a3)], h6) _
          exact sy_reti mj_d_70_65 rfl ⟨th6, eh6, rfl, by omega, by omega⟩
        · skip
          rw [if_pos (Decidable.not_not.mp c8)]
          replace c8 := Decidable.not_not.mp c8
          refine sy_st (S' := (mj_m_70, 46, [(0, .ref 0), (1, sy_i a1), (2, sy_i a2), (3, sy_i a3)], [.ref 0], h6)) mj_d_70_45 (fun _ _ => rfl) ?_
          refine sy_gr2 (b := 224) mj_d_70_46 rfl rfl (by decide) rfl rfl th6 ?_
          refine sy_st (S' := (mj_m_70, 50, [(0, .ref 0), (1, sy_i a1), (2, sy_i a2), (3, sy_i a3)], [sy_i a2, .ref 224], h6)) mj_d_70_49 (fun _ _ => rfl) ?_
          refine sy_cv (M' := mj_m_74) (vs := [.ref 224, sy_i a2]) (rest := []) mj_d_70_50 rfl rfl rfl rfl th6 rfl rfl ⟨by decide, ⟨Nat.le_of_ble_eq_true rfl, Nat.le_of_ble_eq_true rfl, Nat.le_of_ble_eq_true rfl, Nat.le_of_ble_eq_true rfl, Nat.le_of_ble_eq_true rfl⟩⟩ (dt_Rows_howMany (a1 := a2) th6 (by omega) (by omega)) ?_
          rintro _ _ ⟨rfl, rfl, b10, b10t⟩
          rw [eh6] at b10 b10t ⊢
          show sy_wp (mj_m_70, 53, [(0, .ref 0), (1, sy_i a1), (2, sy_i a2), (3, sy_i a3)], [sy_i (dc_Rows_howMany (dc_Rows_lookInto (sy_rd h) a1) a2)], h6) _
          refine sy_st (S' := (mj_m_70, 65, [(0, .ref 0), (1, sy_i a1), (2, sy_i a2), (3, sy_i a3)], [sy_i (dc_Rows_howMany (dc_Rows_lookInto (sy_rd h) a1) a2)], h6)) mj_d_70_53 (fun _ _ => rfl) ?_
          exact sy_reti mj_d_70_65 rfl ⟨th6, eh6, rfl, by omega, by omega⟩
      · skip
        rw [if_neg c5]
        refine sy_ldc (n := -1000000002) mj_d_70_21 rfl (by decide) ?_
        exact sy_reti mj_d_70_23 rfl ⟨hH, rfl, rfl, by omega, by omega⟩
  · skip
    rw [if_pos (Decidable.not_not.mp c3)]
    replace c3 := Decidable.not_not.mp c3
    refine sy_ldc (n := -1000000001) mj_d_70_8 rfl (by decide) ?_
    exact sy_reti mj_d_70_10 rfl ⟨hH, rfl, rfl, by omega, by omega⟩
def dc_C_sure (s : sg_S) (a1 a2 a3 : Int) : sg_S × Int := (if (dc_C_isHouse s a1) = 0 then (s, (-1000000001)) else (if a2 < 1 then (s, (-1000000002)) else (if 3 < a2 then (s, (-1000000002)) else (if a3 < 1 then (s, (-1000000002)) else (if a3 ≤ a2 then ((dc_Rows_lookInto s a1), (dc_Rows_sameInAll (dc_Rows_lookInto s a1) a2 a3)) else (s, (-1000000002)))))))
set_option maxRecDepth 100000 in
theorem dt_C_sure {h : mj_H} (hH : sy_H h) {a1 a2 a3 : Int} (b_a1 : (-2147483648) ≤ a1) (t_a1 : a1 ≤ 2147483647) (b_a2 : (-2147483648) ≤ a2) (t_a2 : a2 ≤ 2147483647) (b_a3 : (-2147483648) ≤ a3) (t_a3 : a3 ≤ 2147483647) : sy_wp (mj_m_80, 0, [(0, .ref 0), (1, sy_i a1), (2, sy_i a2), (3, sy_i a3)], [], h) (dq2 (-2147483648) (2147483647) (dc_C_sure (sy_rd h) a1 a2 a3)) := by
  unfold dc_C_sure
  have n8_3 := hH.bd (a := 8) (k := 3) rfl (by decide) rfl
  refine sy_st (S' := (mj_m_80, 1, [(0, .ref 0), (1, sy_i a1), (2, sy_i a2), (3, sy_i a3)], [.ref 0], h)) mj_d_80_0 (fun _ _ => rfl) ?_
  refine sy_st (S' := (mj_m_80, 2, [(0, .ref 0), (1, sy_i a1), (2, sy_i a2), (3, sy_i a3)], [sy_i a1, .ref 0], h)) mj_d_80_1 (fun _ _ => rfl) ?_
  refine sy_cv (M' := mj_m_39) (vs := [.ref 0, sy_i a1]) (rest := []) mj_d_80_2 rfl rfl rfl rfl hH rfl rfl ⟨by decide, ⟨Nat.le_of_ble_eq_true rfl, Nat.le_of_ble_eq_true rfl, Nat.le_of_ble_eq_true rfl, Nat.le_of_ble_eq_true rfl, Nat.le_of_ble_eq_true rfl⟩⟩ (dt_C_isHouse (a1 := a1) hH (by omega) (by omega)) ?_
  rintro _ _ ⟨rfl, rfl, b1, b1t⟩
  have q2 := df_C_isHouse_0 (sy_rd h) a1
  show sy_wp (mj_m_80, 5, [(0, .ref 0), (1, sy_i a1), (2, sy_i a2), (3, sy_i a3)], [sy_i (dc_C_isHouse (sy_rd h) a1)], h) _
  refine sy_ifc mj_d_80_5 rfl ⟨by omega, by omega⟩ (fun (c3 : ¬ ((dc_C_isHouse (sy_rd h) a1) = 0)) => ?_) (fun (c3 : ¬ ¬ ((dc_C_isHouse (sy_rd h) a1) = 0)) => ?_)
  · skip
    rw [if_neg c3]
    refine sy_st (S' := (mj_m_80, 12, [(0, .ref 0), (1, sy_i a1), (2, sy_i a2), (3, sy_i a3)], [sy_i a2], h)) mj_d_80_11 (fun _ _ => rfl) ?_
    refine sy_st (S' := (mj_m_80, 13, [(0, .ref 0), (1, sy_i a1), (2, sy_i a2), (3, sy_i a3)], [sy_i 1, sy_i a2], h)) mj_d_80_12 (fun _ _ => rfl) ?_
    refine sy_icm mj_d_80_13 rfl ⟨by omega, by omega⟩ ⟨by omega, by omega⟩ (fun (c4 : a2 < 1) => ?_) (fun (c4 : ¬ (a2 < 1)) => ?_)
    · skip
      rw [if_pos c4]
      refine sy_ldc (n := -1000000002) mj_d_80_31 rfl (by decide) ?_
      exact sy_reti mj_d_80_33 rfl ⟨hH, rfl, rfl, by omega, by omega⟩
    · skip
      rw [if_neg c4]
      refine sy_st (S' := (mj_m_80, 17, [(0, .ref 0), (1, sy_i a1), (2, sy_i a2), (3, sy_i a3)], [sy_i a2], h)) mj_d_80_16 (fun _ _ => rfl) ?_
      refine sy_st (S' := (mj_m_80, 18, [(0, .ref 0), (1, sy_i a1), (2, sy_i a2), (3, sy_i a3)], [sy_i 3, sy_i a2], h)) mj_d_80_17 (fun _ _ => rfl) ?_
      refine sy_icm mj_d_80_18 rfl ⟨by omega, by omega⟩ ⟨by omega, by omega⟩ (fun (c5 : 3 < a2) => ?_) (fun (c5 : ¬ (3 < a2)) => ?_)
      · skip
        rw [if_pos c5]
        refine sy_ldc (n := -1000000002) mj_d_80_31 rfl (by decide) ?_
        exact sy_reti mj_d_80_33 rfl ⟨hH, rfl, rfl, by omega, by omega⟩
      · skip
        rw [if_neg c5]
        refine sy_st (S' := (mj_m_80, 22, [(0, .ref 0), (1, sy_i a1), (2, sy_i a2), (3, sy_i a3)], [sy_i a3], h)) mj_d_80_21 (fun _ _ => rfl) ?_
        refine sy_st (S' := (mj_m_80, 23, [(0, .ref 0), (1, sy_i a1), (2, sy_i a2), (3, sy_i a3)], [sy_i 1, sy_i a3], h)) mj_d_80_22 (fun _ _ => rfl) ?_
        refine sy_icm mj_d_80_23 rfl ⟨by omega, by omega⟩ ⟨by omega, by omega⟩ (fun (c6 : a3 < 1) => ?_) (fun (c6 : ¬ (a3 < 1)) => ?_)
        · skip
          rw [if_pos c6]
          refine sy_ldc (n := -1000000002) mj_d_80_31 rfl (by decide) ?_
          exact sy_reti mj_d_80_33 rfl ⟨hH, rfl, rfl, by omega, by omega⟩
        · skip
          rw [if_neg c6]
          refine sy_st (S' := (mj_m_80, 27, [(0, .ref 0), (1, sy_i a1), (2, sy_i a2), (3, sy_i a3)], [sy_i a3], h)) mj_d_80_26 (fun _ _ => rfl) ?_
          refine sy_st (S' := (mj_m_80, 28, [(0, .ref 0), (1, sy_i a1), (2, sy_i a2), (3, sy_i a3)], [sy_i a2, sy_i a3], h)) mj_d_80_27 (fun _ _ => rfl) ?_
          refine sy_icm mj_d_80_28 rfl ⟨by omega, by omega⟩ ⟨by omega, by omega⟩ (fun (c7 : a3 ≤ a2) => ?_) (fun (c7 : ¬ (a3 ≤ a2)) => ?_)
          · skip
            rw [if_pos c7]
            refine sy_st (S' := (mj_m_80, 35, [(0, .ref 0), (1, sy_i a1), (2, sy_i a2), (3, sy_i a3)], [.ref 0], h)) mj_d_80_34 (fun _ _ => rfl) ?_
            refine sy_gr2 (b := 224) mj_d_80_35 rfl rfl (by decide) rfl rfl hH ?_
            refine sy_st (S' := (mj_m_80, 39, [(0, .ref 0), (1, sy_i a1), (2, sy_i a2), (3, sy_i a3)], [sy_i a1, .ref 224], h)) mj_d_80_38 (fun _ _ => rfl) ?_
            refine sy_st (S' := (mj_m_80, 40, [(0, .ref 0), (1, sy_i a1), (2, sy_i a2), (3, sy_i a3)], [.ref 0, sy_i a1, .ref 224], h)) mj_d_80_39 (fun _ _ => rfl) ?_
            refine sy_gr2 (b := 13) mj_d_80_40 rfl rfl (by decide) rfl rfl hH ?_
            refine sy_st (S' := (mj_m_80, 44, [(0, .ref 0), (1, sy_i a1), (2, sy_i a2), (3, sy_i a3)], [.ref 0, .ref 13, sy_i a1, .ref 224], h)) mj_d_80_43 (fun _ _ => rfl) ?_
            refine sy_gr2 (b := 8) mj_d_80_44 rfl rfl (by decide) rfl rfl hH ?_
            refine sy_cv (M' := mj_m_71) (vs := [.ref 224, sy_i a1, .ref 13, .ref 8]) (rest := []) mj_d_80_47 rfl rfl rfl rfl hH rfl rfl ⟨by decide, ⟨Nat.le_of_ble_eq_true rfl, Nat.le_of_ble_eq_true rfl, Nat.le_of_ble_eq_true rfl, Nat.le_of_ble_eq_true rfl, Nat.le_of_ble_eq_true rfl⟩⟩ (dt_Rows_lookInto (a1 := a1) hH (by omega) (by omega)) ?_
            rintro _ h8 ⟨rfl, th8, eh8⟩
            show sy_wp (mj_m_80, 50, [(0, .ref 0), (1, sy_i a1), (2, sy_i a2), (3, sy_i a3)], [], h8) _
            refine sy_st (S' := (mj_m_80, 51, [(0, .ref 0), (1, sy_i a1), (2, sy_i a2), (3, sy_i a3)], [.ref 0], h8)) mj_d_80_50 (fun _ _ => rfl) ?_
            refine sy_gr2 (b := 224) mj_d_80_51 rfl rfl (by decide) rfl rfl th8 ?_
            refine sy_st (S' := (mj_m_80, 55, [(0, .ref 0), (1, sy_i a1), (2, sy_i a2), (3, sy_i a3)], [sy_i a2, .ref 224], h8)) mj_d_80_54 (fun _ _ => rfl) ?_
            refine sy_st (S' := (mj_m_80, 56, [(0, .ref 0), (1, sy_i a1), (2, sy_i a2), (3, sy_i a3)], [sy_i a3, sy_i a2, .ref 224], h8)) mj_d_80_55 (fun _ _ => rfl) ?_
            refine sy_cv (M' := mj_m_81) (vs := [.ref 224, sy_i a2, sy_i a3]) (rest := []) mj_d_80_56 rfl rfl rfl rfl th8 rfl rfl ⟨by decide, ⟨Nat.le_of_ble_eq_true rfl, Nat.le_of_ble_eq_true rfl, Nat.le_of_ble_eq_true rfl, Nat.le_of_ble_eq_true rfl, Nat.le_of_ble_eq_true rfl⟩⟩ (dt_Rows_sameInAll (a1 := a2) (a2 := a3) th8 (by omega) (by omega) (by omega) (by omega)) ?_
            rintro _ _ ⟨rfl, rfl, b10, b10t⟩
            rw [eh8] at b10 b10t ⊢
            show sy_wp (mj_m_80, 59, [(0, .ref 0), (1, sy_i a1), (2, sy_i a2), (3, sy_i a3)], [sy_i (dc_Rows_sameInAll (dc_Rows_lookInto (sy_rd h) a1) a2 a3)], h8) _
            exact sy_reti mj_d_80_59 rfl ⟨th8, eh8, rfl, by omega, by omega⟩
          · skip
            rw [if_neg c7]
            refine sy_ldc (n := -1000000002) mj_d_80_31 rfl (by decide) ?_
            exact sy_reti mj_d_80_33 rfl ⟨hH, rfl, rfl, by omega, by omega⟩
  · skip
    rw [if_pos (Decidable.not_not.mp c3)]
    replace c3 := Decidable.not_not.mp c3
    refine sy_ldc (n := -1000000001) mj_d_80_8 rfl (by decide) ?_
    exact sy_reti mj_d_80_10 rfl ⟨hH, rfl, rfl, by omega, by omega⟩
def dc_C_flues (s : sg_S) (a1 a2 : Int) : Int := (if (dc_C_isHouse s a1) = 0 then (-1000000001) else (if a2 = 0 then (if (s 15 ((a1).toNat)) = 0 then 0 else (dc_St_reach s a1)) else (if a2 = 1 then (dc_St_heatOf s a1 (s 8 3)) else (if a2 = 2 then (dc_St_likeOf s a1 (s 8 3)) else (-1000000002)))))
set_option maxRecDepth 100000 in
theorem dt_C_flues {h : mj_H} (hH : sy_H h) {a1 a2 : Int} (b_a1 : (-2147483648) ≤ a1) (t_a1 : a1 ≤ 2147483647) (b_a2 : (-2147483648) ≤ a2) (t_a2 : a2 ≤ 2147483647) : sy_wp (mj_m_82, 0, [(0, .ref 0), (1, sy_i a1), (2, sy_i a2)], [], h) (dq1 h (-2147483648) (2147483647) (dc_C_flues (sy_rd h) a1 a2)) := by
  unfold dc_C_flues
  have n8_3 := hH.bd (a := 8) (k := 3) rfl (by decide) rfl
  refine sy_st (S' := (mj_m_82, 1, [(0, .ref 0), (1, sy_i a1), (2, sy_i a2)], [.ref 0], h)) mj_d_82_0 (fun _ _ => rfl) ?_
  refine sy_st (S' := (mj_m_82, 2, [(0, .ref 0), (1, sy_i a1), (2, sy_i a2)], [sy_i a1, .ref 0], h)) mj_d_82_1 (fun _ _ => rfl) ?_
  refine sy_cv (M' := mj_m_39) (vs := [.ref 0, sy_i a1]) (rest := []) mj_d_82_2 rfl rfl rfl rfl hH rfl rfl ⟨by decide, ⟨Nat.le_of_ble_eq_true rfl, Nat.le_of_ble_eq_true rfl, Nat.le_of_ble_eq_true rfl, Nat.le_of_ble_eq_true rfl, Nat.le_of_ble_eq_true rfl⟩⟩ (dt_C_isHouse (a1 := a1) hH (by omega) (by omega)) ?_
  rintro _ _ ⟨rfl, rfl, b1, b1t⟩
  have q2 := df_C_isHouse_0 (sy_rd h) a1
  show sy_wp (mj_m_82, 5, [(0, .ref 0), (1, sy_i a1), (2, sy_i a2)], [sy_i (dc_C_isHouse (sy_rd h) a1)], h) _
  refine sy_ifc mj_d_82_5 rfl ⟨by omega, by omega⟩ (fun (c3 : ¬ ((dc_C_isHouse (sy_rd h) a1) = 0)) => ?_) (fun (c3 : ¬ ¬ ((dc_C_isHouse (sy_rd h) a1) = 0)) => ?_)
  · skip
    rw [if_neg c3]
    refine sy_st (S' := (mj_m_82, 12, [(0, .ref 0), (1, sy_i a1), (2, sy_i a2)], [sy_i a2], h)) mj_d_82_11 (fun _ _ => rfl) ?_
    by_cases c4 : a2 = 0
    · skip
      rw [if_pos c4]
      refine sy_tbI (a := a2) mj_d_82_12 ⟨by omega, by omega⟩ (by omega) (by omega) (by rw [c4]; rfl) rfl ?_
      refine sy_st (S' := (mj_m_82, 41, [(0, .ref 0), (1, sy_i a1), (2, sy_i a2)], [.ref 0], h)) mj_d_82_40 (fun _ _ => rfl) ?_
      refine sy_gr2 (b := 13) mj_d_82_41 rfl rfl (by decide) rfl rfl hH ?_
      refine sy_gr2 (b := 15) mj_d_82_44 rfl rfl (by decide) rfl rfl hH ?_
      refine sy_st (S' := (mj_m_82, 48, [(0, .ref 0), (1, sy_i a1), (2, sy_i a2)], [sy_i a1, .ref 15], h)) mj_d_82_47 (fun _ _ => rfl) ?_
      refine sy_ia mj_d_82_48 rfl (by decide) (by omega) (by omega) (ab_el_1 rfl _) hH ?_
      rintro _ rfl bx5 tx5
      refine sy_ifc mj_d_82_49 rfl ⟨by omega, by omega⟩ (fun (c6 : ¬ ((sy_rd h 15 ((a1).toNat)) = 0)) => ?_) (fun (c6 : ¬ ¬ ((sy_rd h 15 ((a1).toNat)) = 0)) => ?_)
      · skip
        rw [if_neg c6]
        refine sy_st (S' := (mj_m_82, 57, [(0, .ref 0), (1, sy_i a1), (2, sy_i a2)], [.ref 0], h)) mj_d_82_56 (fun _ _ => rfl) ?_
        refine sy_gr2 (b := 13) mj_d_82_57 rfl rfl (by decide) rfl rfl hH ?_
        refine sy_st (S' := (mj_m_82, 61, [(0, .ref 0), (1, sy_i a1), (2, sy_i a2)], [sy_i a1, .ref 13], h)) mj_d_82_60 (fun _ _ => rfl) ?_
        refine sy_st (S' := (mj_m_82, 62, [(0, .ref 0), (1, sy_i a1), (2, sy_i a2)], [.ref 0, sy_i a1, .ref 13], h)) mj_d_82_61 (fun _ _ => rfl) ?_
        refine sy_gr2 (b := 8) mj_d_82_62 rfl rfl (by decide) rfl rfl hH ?_
        refine sy_cv (M' := mj_m_83) (vs := [.ref 13, sy_i a1, .ref 8]) (rest := []) mj_d_82_65 rfl rfl rfl rfl hH rfl rfl ⟨by decide, ⟨Nat.le_of_ble_eq_true rfl, Nat.le_of_ble_eq_true rfl, Nat.le_of_ble_eq_true rfl, Nat.le_of_ble_eq_true rfl, Nat.le_of_ble_eq_true rfl⟩⟩ (dt_St_reach (a1 := a1) hH (by omega) (by omega)) ?_
        rintro _ _ ⟨rfl, rfl, b7, b7t⟩
        show sy_wp (mj_m_82, 68, [(0, .ref 0), (1, sy_i a1), (2, sy_i a2)], [sy_i (dc_St_reach (sy_rd h) a1)], h) _
        exact sy_reti mj_d_82_68 rfl ⟨rfl, rfl, by omega, by omega⟩
      · skip
        rw [if_pos (Decidable.not_not.mp c6)]
        replace c6 := Decidable.not_not.mp c6
        refine sy_st (S' := (mj_m_82, 53, [(0, .ref 0), (1, sy_i a1), (2, sy_i a2)], [sy_i 0], h)) mj_d_82_52 (fun _ _ => rfl) ?_
        refine sy_st (S' := (mj_m_82, 68, [(0, .ref 0), (1, sy_i a1), (2, sy_i a2)], [sy_i 0], h)) mj_d_82_53 (fun _ _ => rfl) ?_
        exact sy_reti mj_d_82_68 rfl ⟨rfl, rfl, by omega, by omega⟩
    rw [if_neg c4]
    by_cases c8 : a2 = 1
    · skip
      rw [if_pos c8]
      refine sy_tbI (a := a2) mj_d_82_12 ⟨by omega, by omega⟩ (by omega) (by omega) (by rw [c8]; rfl) rfl ?_
      refine sy_st (S' := (mj_m_82, 70, [(0, .ref 0), (1, sy_i a1), (2, sy_i a2)], [.ref 0], h)) mj_d_82_69 (fun _ _ => rfl) ?_
      refine sy_gr2 (b := 13) mj_d_82_70 rfl rfl (by decide) rfl rfl hH ?_
      refine sy_st (S' := (mj_m_82, 74, [(0, .ref 0), (1, sy_i a1), (2, sy_i a2)], [sy_i a1, .ref 13], h)) mj_d_82_73 (fun _ _ => rfl) ?_
      refine sy_st (S' := (mj_m_82, 75, [(0, .ref 0), (1, sy_i a1), (2, sy_i a2)], [.ref 0, sy_i a1, .ref 13], h)) mj_d_82_74 (fun _ _ => rfl) ?_
      refine sy_gr2 (b := 8) mj_d_82_75 rfl rfl (by decide) rfl rfl hH ?_
      refine sy_gf mj_d_82_78 rfl rfl (by decide) rfl hH ?_
      rintro _ rfl bx9 tx9
      refine sy_cv (M' := mj_m_84) (vs := [.ref 13, sy_i a1, sy_i (sy_rd h 8 3)]) (rest := []) mj_d_82_81 rfl rfl rfl rfl hH rfl rfl ⟨by decide, ⟨Nat.le_of_ble_eq_true rfl, Nat.le_of_ble_eq_true rfl, Nat.le_of_ble_eq_true rfl, Nat.le_of_ble_eq_true rfl, Nat.le_of_ble_eq_true rfl⟩⟩ (dt_St_heatOf (a1 := a1) (a2 := (sy_rd h 8 3)) hH (by omega) (by omega) (by omega) (by omega)) ?_
      rintro _ _ ⟨rfl, rfl, b10, b10t⟩
      show sy_wp (mj_m_82, 84, [(0, .ref 0), (1, sy_i a1), (2, sy_i a2)], [sy_i (dc_St_heatOf (sy_rd h) a1 (sy_rd h 8 3))], h) _
      exact sy_reti mj_d_82_84 rfl ⟨rfl, rfl, by omega, by omega⟩
    rw [if_neg c8]
    by_cases c11 : a2 = 2
    · skip
      rw [if_pos c11]
      refine sy_tbI (a := a2) mj_d_82_12 ⟨by omega, by omega⟩ (by omega) (by omega) (by rw [c11]; rfl) rfl ?_
      refine sy_st (S' := (mj_m_82, 86, [(0, .ref 0), (1, sy_i a1), (2, sy_i a2)], [.ref 0], h)) mj_d_82_85 (fun _ _ => rfl) ?_
      refine sy_gr2 (b := 13) mj_d_82_86 rfl rfl (by decide) rfl rfl hH ?_
      refine sy_st (S' := (mj_m_82, 90, [(0, .ref 0), (1, sy_i a1), (2, sy_i a2)], [sy_i a1, .ref 13], h)) mj_d_82_89 (fun _ _ => rfl) ?_
      refine sy_st (S' := (mj_m_82, 91, [(0, .ref 0), (1, sy_i a1), (2, sy_i a2)], [.ref 0, sy_i a1, .ref 13], h)) mj_d_82_90 (fun _ _ => rfl) ?_
      refine sy_gr2 (b := 8) mj_d_82_91 rfl rfl (by decide) rfl rfl hH ?_
      refine sy_gf mj_d_82_94 rfl rfl (by decide) rfl hH ?_
      rintro _ rfl bx12 tx12
      refine sy_cv (M' := mj_m_85) (vs := [.ref 13, sy_i a1, sy_i (sy_rd h 8 3)]) (rest := []) mj_d_82_97 rfl rfl rfl rfl hH rfl rfl ⟨by decide, ⟨Nat.le_of_ble_eq_true rfl, Nat.le_of_ble_eq_true rfl, Nat.le_of_ble_eq_true rfl, Nat.le_of_ble_eq_true rfl, Nat.le_of_ble_eq_true rfl⟩⟩ (dt_St_likeOf (a1 := a1) (a2 := (sy_rd h 8 3)) hH (by omega) (by omega) (by omega) (by omega)) ?_
      rintro _ _ ⟨rfl, rfl, b13, b13t⟩
      show sy_wp (mj_m_82, 100, [(0, .ref 0), (1, sy_i a1), (2, sy_i a2)], [sy_i (dc_St_likeOf (sy_rd h) a1 (sy_rd h 8 3))], h) _
      exact sy_reti mj_d_82_100 rfl ⟨rfl, rfl, by omega, by omega⟩
    rw [if_neg c11]
    refine sy_tbO (a := a2) mj_d_82_12 rfl ⟨by omega, by omega⟩ (by omega) ?_
    refine sy_ldc (n := -1000000002) mj_d_82_101 rfl (by decide) ?_
    exact sy_reti mj_d_82_103 rfl ⟨rfl, rfl, by omega, by omega⟩
  · skip
    rw [if_pos (Decidable.not_not.mp c3)]
    replace c3 := Decidable.not_not.mp c3
    refine sy_ldc (n := -1000000001) mj_d_82_8 rfl (by decide) ?_
    exact sy_reti mj_d_82_10 rfl ⟨rfl, rfl, by omega, by omega⟩
def dc_C_ofPair (s : sg_S) (a0 a1 a2 : Int) : Int := (if a2 = (-1) then 2 else (if a2 = 0 then a0 else (if a2 = 1 then a1 else (-1))))
set_option maxRecDepth 100000 in
theorem dt_C_ofPair {h : mj_H} (hH : sy_H h) {a0 a1 a2 : Int} (b_a0 : 0 ≤ a0) (t_a0 : a0 ≤ 4) (b_a1 : 0 ≤ a1) (t_a1 : a1 ≤ 4) (b_a2 : (-2147483648) ≤ a2) (t_a2 : a2 ≤ 2147483647) : sy_wp (mj_m_100, 0, [(0, sy_i a0), (1, sy_i a1), (2, sy_i a2)], [], h) (dq1 h (-1) (4) (dc_C_ofPair (sy_rd h) a0 a1 a2)) := by
  unfold dc_C_ofPair
  refine sy_st (S' := (mj_m_100, 1, [(0, sy_i a0), (1, sy_i a1), (2, sy_i a2)], [sy_i a2], h)) mj_d_100_0 (fun _ _ => rfl) ?_
  by_cases c1 : a2 = (-1)
  · skip
    rw [if_pos c1]
    refine sy_tbI (a := a2) mj_d_100_1 ⟨by omega, by omega⟩ (by omega) (by omega) (by rw [c1]; rfl) rfl ?_
    refine sy_st (S' := (mj_m_100, 29, [(0, sy_i a0), (1, sy_i a1), (2, sy_i a2)], [sy_i 2], h)) mj_d_100_28 (fun _ _ => rfl) ?_
    exact sy_reti mj_d_100_29 rfl ⟨rfl, rfl, by omega, by omega⟩
  rw [if_neg c1]
  by_cases c2 : a2 = 0
  · skip
    rw [if_pos c2]
    refine sy_tbI (a := a2) mj_d_100_1 ⟨by omega, by omega⟩ (by omega) (by omega) (by rw [c2]; rfl) rfl ?_
    refine sy_st (S' := (mj_m_100, 31, [(0, sy_i a0), (1, sy_i a1), (2, sy_i a2)], [sy_i a0], h)) mj_d_100_30 (fun _ _ => rfl) ?_
    exact sy_reti mj_d_100_31 rfl ⟨rfl, rfl, by omega, by omega⟩
  rw [if_neg c2]
  by_cases c3 : a2 = 1
  · skip
    rw [if_pos c3]
    refine sy_tbI (a := a2) mj_d_100_1 ⟨by omega, by omega⟩ (by omega) (by omega) (by rw [c3]; rfl) rfl ?_
    refine sy_st (S' := (mj_m_100, 33, [(0, sy_i a0), (1, sy_i a1), (2, sy_i a2)], [sy_i a1], h)) mj_d_100_32 (fun _ _ => rfl) ?_
    exact sy_reti mj_d_100_33 rfl ⟨rfl, rfl, by omega, by omega⟩
  rw [if_neg c3]
  refine sy_tbO (a := a2) mj_d_100_1 rfl ⟨by omega, by omega⟩ (by omega) ?_
  refine sy_st (S' := (mj_m_100, 35, [(0, sy_i a0), (1, sy_i a1), (2, sy_i a2)], [sy_i (-1)], h)) mj_d_100_34 (fun _ _ => rfl) ?_
  exact sy_reti mj_d_100_35 rfl ⟨rfl, rfl, by omega, by omega⟩
def dc_C_ring_17 (k2 : sg_S → Int → Int → Int) (n : Nat) : sg_S → Int → Int → Int → Int := Nat.rec (fun (s : sg_S) l1 l2 l3 => 0) (fun _ ih => fun s l1 l2 l3 => (if (s 8 4) ≤ l3 then (k2 s l1 (l2 + 1)) else (if (dc_St_hasNewFor s l2 l3) = 0 then (ih s l1 l2 (l3 + 1)) else (if (dc_St_hasNewFor s l3 l2) = 0 then (ih s l1 l2 (l3 + 1)) else (dc_C_ofPair s l2 l3 l1))))) n
theorem dc_C_ring_17_s (k2 : sg_S → Int → Int → Int) (n : Nat) (s : sg_S) (l1 l2 l3 : Int) : dc_C_ring_17 k2 (n + 1) s l1 l2 l3 = (if (s 8 4) ≤ l3 then (k2 s l1 (l2 + 1)) else (if (dc_St_hasNewFor s l2 l3) = 0 then ((dc_C_ring_17 k2 n) s l1 l2 (l3 + 1)) else (if (dc_St_hasNewFor s l3 l2) = 0 then ((dc_C_ring_17 k2 n) s l1 l2 (l3 + 1)) else (dc_C_ofPair s l2 l3 l1)))) := rfl
def dc_C_ring_2 (n : Nat) : sg_S → Int → Int → Int := Nat.rec (fun (s : sg_S) l1 l2 => 0) (fun _ ih => fun s l1 l2 => (if (s 8 4) ≤ l2 then (-1) else (dc_C_ring_17 ih 6 s l1 l2 (l2 + 1)))) n
theorem dc_C_ring_2_s (n : Nat) (s : sg_S) (l1 l2 : Int) : dc_C_ring_2 (n + 1) s l1 l2 = (if (s 8 4) ≤ l2 then (-1) else (dc_C_ring_17 (dc_C_ring_2 n) 6 s l1 l2 (l2 + 1))) := rfl
def dc_C_ring (s : sg_S) (a1 : Int) : Int := (dc_C_ring_2 6 s a1 0)
set_option maxRecDepth 100000 in
theorem dt_C_ring_17 {k2 : sg_S → Int → Int → Int} {n2 : Nat} (hk2 : ∀ {h1 : mj_H}, sy_H h1 → ∀ {l1 l2 : Int}, (-2147483648) ≤ l1 → l1 ≤ 2147483647 → 0 ≤ l2 → l2 ≤ 5 → 5 - l2 < (n2 : Int) → sy_wp (mj_m_98, 2, [(0, .ref 0), (1, sy_i l1), (2, sy_i l2)], [], h1) (dq1 h1 (-1) (4) (k2 (sy_rd h1) l1 l2))) : ∀ (n : Nat) {h : mj_H} (hH : sy_H h) {l1 l2 l3 : Int} (b_l1 : (-2147483648) ≤ l1) (t_l1 : l1 ≤ 2147483647) (b_l2 : 0 ≤ l2) (t_l2 : l2 ≤ 4) (b_l3 : 1 ≤ l3) (t_l3 : l3 ≤ 5) (i0 : 5 - (l2 + 1) < (n2 : Int)) (hm : 5 - l3 < (n : Int)), sy_wp (mj_m_98, 17, [(0, .ref 0), (1, sy_i l1), (2, sy_i l2), (3, sy_i l3)], [], h) (dq1 h (-1) (4) (dc_C_ring_17 k2 n (sy_rd h) l1 l2 l3)) := by
  intro n
  induction n with
  | zero =>
    intro h hH l1 l2 l3 b_l1 t_l1 b_l2 t_l2 b_l3 t_l3 i0 hm
    exact absurd hm (by omega)
  | succ n ih =>
    intro h hH l1 l2 l3 b_l1 t_l1 b_l2 t_l2 b_l3 t_l3 i0 hm
    rw [dc_C_ring_17_s]
    refine sy_st (S' := (mj_m_98, 18, [(0, .ref 0), (1, sy_i l1), (2, sy_i l2), (3, sy_i l3)], [sy_i l3], h)) mj_d_98_17 (fun _ _ => rfl) ?_
    refine sy_st (S' := (mj_m_98, 19, [(0, .ref 0), (1, sy_i l1), (2, sy_i l2), (3, sy_i l3)], [.ref 0, sy_i l3], h)) mj_d_98_18 (fun _ _ => rfl) ?_
    refine sy_gr2 (b := 8) mj_d_98_19 rfl rfl (by decide) rfl rfl hH ?_
    refine sy_gf mj_d_98_22 rfl rfl (by decide) rfl hH ?_
    rintro _ rfl bx1 tx1
    refine sy_icm mj_d_98_25 rfl ⟨by omega, by omega⟩ ⟨by omega, by omega⟩ (fun (c2 : (sy_rd h 8 4) ≤ l3) => ?_) (fun (c2 : ¬ ((sy_rd h 8 4) ≤ l3)) => ?_)
    · skip
      rw [if_pos c2]
      refine sy_inc (a := l2) (lv' := [(2, sy_i (l2 + 1)), (0, .ref 0), (1, sy_i l1), (3, sy_i l3)]) mj_d_98_65 (Nat.le_of_ble_eq_true rfl) rfl rfl ?_
      refine sy_st (S' := (mj_m_98, 2, [(2, sy_i (l2 + 1)), (0, .ref 0), (1, sy_i l1), (3, sy_i l3)], [], h)) mj_d_98_68 (fun _ _ => rfl) ?_
      refine sy_lv (lv := [(0, .ref 0), (1, sy_i l1), (2, sy_i (l2 + 1))]) rfl ⟨rfl, rfl, rfl, trivial⟩ ?_
      exact hk2 hH (by first | omega | assumption) (by first | omega | assumption) (by first | omega | assumption) (by first | omega | assumption) (by omega)
    · skip
      rw [if_neg c2]
      refine sy_st (S' := (mj_m_98, 29, [(0, .ref 0), (1, sy_i l1), (2, sy_i l2), (3, sy_i l3)], [.ref 0], h)) mj_d_98_28 (fun _ _ => rfl) ?_
      refine sy_gr2 (b := 13) mj_d_98_29 rfl rfl (by decide) rfl rfl hH ?_
      refine sy_st (S' := (mj_m_98, 33, [(0, .ref 0), (1, sy_i l1), (2, sy_i l2), (3, sy_i l3)], [sy_i l2, .ref 13], h)) mj_d_98_32 (fun _ _ => rfl) ?_
      refine sy_st (S' := (mj_m_98, 34, [(0, .ref 0), (1, sy_i l1), (2, sy_i l2), (3, sy_i l3)], [sy_i l3, sy_i l2, .ref 13], h)) mj_d_98_33 (fun _ _ => rfl) ?_
      refine sy_cv (M' := mj_m_99) (vs := [.ref 13, sy_i l2, sy_i l3]) (rest := []) mj_d_98_34 rfl rfl rfl rfl hH rfl rfl ⟨by decide, ⟨Nat.le_of_ble_eq_true rfl, Nat.le_of_ble_eq_true rfl, Nat.le_of_ble_eq_true rfl, Nat.le_of_ble_eq_true rfl, Nat.le_of_ble_eq_true rfl⟩⟩ (dt_St_hasNewFor (a1 := l2) (a2 := l3) hH (by omega) (by omega) (by omega) (by omega)) ?_
      rintro _ _ ⟨rfl, rfl, b3, b3t⟩
      show sy_wp (mj_m_98, 37, [(0, .ref 0), (1, sy_i l1), (2, sy_i l2), (3, sy_i l3)], [sy_i (dc_St_hasNewFor (sy_rd h) l2 l3)], h) _
      refine sy_ifc mj_d_98_37 rfl ⟨by omega, by omega⟩ (fun (c4 : (dc_St_hasNewFor (sy_rd h) l2 l3) = 0) => ?_) (fun (c4 : ¬ ((dc_St_hasNewFor (sy_rd h) l2 l3) = 0)) => ?_)
      · skip
        rw [if_pos c4]
        refine sy_inc (a := l3) (lv' := [(3, sy_i (l3 + 1)), (0, .ref 0), (1, sy_i l1), (2, sy_i l2)]) mj_d_98_59 (Nat.le_of_ble_eq_true rfl) rfl rfl ?_
        refine sy_st (S' := (mj_m_98, 17, [(3, sy_i (l3 + 1)), (0, .ref 0), (1, sy_i l1), (2, sy_i l2)], [], h)) mj_d_98_62 (fun _ _ => rfl) ?_
        refine sy_lv (lv := [(0, .ref 0), (1, sy_i l1), (2, sy_i l2), (3, sy_i (l3 + 1))]) rfl ⟨rfl, rfl, rfl, rfl, trivial⟩ ?_
        exact ih hH (by first | omega | assumption) (by first | omega | assumption) (by first | omega | assumption) (by first | omega | assumption) (by first | omega | assumption) (by first | omega | assumption) (by first | omega | assumption) (by omega)
      · skip
        rw [if_neg c4]
        refine sy_st (S' := (mj_m_98, 41, [(0, .ref 0), (1, sy_i l1), (2, sy_i l2), (3, sy_i l3)], [.ref 0], h)) mj_d_98_40 (fun _ _ => rfl) ?_
        refine sy_gr2 (b := 13) mj_d_98_41 rfl rfl (by decide) rfl rfl hH ?_
        refine sy_st (S' := (mj_m_98, 45, [(0, .ref 0), (1, sy_i l1), (2, sy_i l2), (3, sy_i l3)], [sy_i l3, .ref 13], h)) mj_d_98_44 (fun _ _ => rfl) ?_
        refine sy_st (S' := (mj_m_98, 46, [(0, .ref 0), (1, sy_i l1), (2, sy_i l2), (3, sy_i l3)], [sy_i l2, sy_i l3, .ref 13], h)) mj_d_98_45 (fun _ _ => rfl) ?_
        refine sy_cv (M' := mj_m_99) (vs := [.ref 13, sy_i l3, sy_i l2]) (rest := []) mj_d_98_46 rfl rfl rfl rfl hH rfl rfl ⟨by decide, ⟨Nat.le_of_ble_eq_true rfl, Nat.le_of_ble_eq_true rfl, Nat.le_of_ble_eq_true rfl, Nat.le_of_ble_eq_true rfl, Nat.le_of_ble_eq_true rfl⟩⟩ (dt_St_hasNewFor (a1 := l3) (a2 := l2) hH (by omega) (by omega) (by omega) (by omega)) ?_
        rintro _ _ ⟨rfl, rfl, b5, b5t⟩
        show sy_wp (mj_m_98, 49, [(0, .ref 0), (1, sy_i l1), (2, sy_i l2), (3, sy_i l3)], [sy_i (dc_St_hasNewFor (sy_rd h) l3 l2)], h) _
        refine sy_ifc mj_d_98_49 rfl ⟨by omega, by omega⟩ (fun (c6 : (dc_St_hasNewFor (sy_rd h) l3 l2) = 0) => ?_) (fun (c6 : ¬ ((dc_St_hasNewFor (sy_rd h) l3 l2) = 0)) => ?_)
        · skip
          rw [if_pos c6]
          refine sy_inc (a := l3) (lv' := [(3, sy_i (l3 + 1)), (0, .ref 0), (1, sy_i l1), (2, sy_i l2)]) mj_d_98_59 (Nat.le_of_ble_eq_true rfl) rfl rfl ?_
          refine sy_st (S' := (mj_m_98, 17, [(3, sy_i (l3 + 1)), (0, .ref 0), (1, sy_i l1), (2, sy_i l2)], [], h)) mj_d_98_62 (fun _ _ => rfl) ?_
          refine sy_lv (lv := [(0, .ref 0), (1, sy_i l1), (2, sy_i l2), (3, sy_i (l3 + 1))]) rfl ⟨rfl, rfl, rfl, rfl, trivial⟩ ?_
          exact ih hH (by first | omega | assumption) (by first | omega | assumption) (by first | omega | assumption) (by first | omega | assumption) (by first | omega | assumption) (by first | omega | assumption) (by first | omega | assumption) (by omega)
        · skip
          rw [if_neg c6]
          refine sy_st (S' := (mj_m_98, 53, [(0, .ref 0), (1, sy_i l1), (2, sy_i l2), (3, sy_i l3)], [sy_i l2], h)) mj_d_98_52 (fun _ _ => rfl) ?_
          refine sy_st (S' := (mj_m_98, 54, [(0, .ref 0), (1, sy_i l1), (2, sy_i l2), (3, sy_i l3)], [sy_i l3, sy_i l2], h)) mj_d_98_53 (fun _ _ => rfl) ?_
          refine sy_st (S' := (mj_m_98, 55, [(0, .ref 0), (1, sy_i l1), (2, sy_i l2), (3, sy_i l3)], [sy_i l1, sy_i l3, sy_i l2], h)) mj_d_98_54 (fun _ _ => rfl) ?_
          refine sy_cs (M' := mj_m_100) (vs := [sy_i l2, sy_i l3, sy_i l1]) (rest := []) mj_d_98_55 rfl rfl rfl rfl ⟨Nat.le_of_ble_eq_true rfl, Nat.le_of_ble_eq_true rfl, Nat.le_of_ble_eq_true rfl, Nat.le_of_ble_eq_true rfl, Nat.le_of_ble_eq_true rfl⟩ (dt_C_ofPair (a0 := l2) (a1 := l3) (a2 := l1) hH (by omega) (by omega) (by omega) (by omega) (by omega) (by omega)) ?_
          rintro _ _ ⟨rfl, rfl, b7, b7t⟩
          show sy_wp (mj_m_98, 58, [(0, .ref 0), (1, sy_i l1), (2, sy_i l2), (3, sy_i l3)], [sy_i (dc_C_ofPair (sy_rd h) l2 l3 l1)], h) _
          exact sy_reti mj_d_98_58 rfl ⟨rfl, rfl, by omega, by omega⟩
set_option maxRecDepth 100000 in
theorem dt_C_ring_2 : ∀ (n : Nat) {h : mj_H} (hH : sy_H h) {l1 l2 : Int} (b_l1 : (-2147483648) ≤ l1) (t_l1 : l1 ≤ 2147483647) (b_l2 : 0 ≤ l2) (t_l2 : l2 ≤ 5) (hm : 5 - l2 < (n : Int)), sy_wp (mj_m_98, 2, [(0, .ref 0), (1, sy_i l1), (2, sy_i l2)], [], h) (dq1 h (-1) (4) (dc_C_ring_2 n (sy_rd h) l1 l2)) := by
  intro n
  induction n with
  | zero =>
    intro h hH l1 l2 b_l1 t_l1 b_l2 t_l2 hm
    exact absurd hm (by omega)
  | succ n ih =>
    intro h hH l1 l2 b_l1 t_l1 b_l2 t_l2 hm
    rw [dc_C_ring_2_s]
    refine sy_st (S' := (mj_m_98, 3, [(0, .ref 0), (1, sy_i l1), (2, sy_i l2)], [sy_i l2], h)) mj_d_98_2 (fun _ _ => rfl) ?_
    refine sy_st (S' := (mj_m_98, 4, [(0, .ref 0), (1, sy_i l1), (2, sy_i l2)], [.ref 0, sy_i l2], h)) mj_d_98_3 (fun _ _ => rfl) ?_
    refine sy_gr2 (b := 8) mj_d_98_4 rfl rfl (by decide) rfl rfl hH ?_
    refine sy_gf mj_d_98_7 rfl rfl (by decide) rfl hH ?_
    rintro _ rfl bx1 tx1
    refine sy_icm mj_d_98_10 rfl ⟨by omega, by omega⟩ ⟨by omega, by omega⟩ (fun (c2 : (sy_rd h 8 4) ≤ l2) => ?_) (fun (c2 : ¬ ((sy_rd h 8 4) ≤ l2)) => ?_)
    · skip
      rw [if_pos c2]
      refine sy_st (S' := (mj_m_98, 72, [(0, .ref 0), (1, sy_i l1), (2, sy_i l2)], [sy_i (-1)], h)) mj_d_98_71 (fun _ _ => rfl) ?_
      exact sy_reti mj_d_98_72 rfl ⟨rfl, rfl, by omega, by omega⟩
    · skip
      rw [if_neg c2]
      refine sy_st (S' := (mj_m_98, 14, [(0, .ref 0), (1, sy_i l1), (2, sy_i l2)], [sy_i l2], h)) mj_d_98_13 (fun _ _ => rfl) ?_
      refine sy_st (S' := (mj_m_98, 15, [(0, .ref 0), (1, sy_i l1), (2, sy_i l2)], [sy_i 1, sy_i l2], h)) mj_d_98_14 (fun _ _ => rfl) ?_
      refine sy_add mj_d_98_15 ?_
      refine sy_st (S' := (mj_m_98, 17, [(3, sy_i (l2 + 1)), (0, .ref 0), (1, sy_i l1), (2, sy_i l2)], [], h)) mj_d_98_16 (fun _ _ => rfl) ?_
      refine sy_lv (lv := [(0, .ref 0), (1, sy_i l1), (2, sy_i l2), (3, sy_i (l2 + 1))]) rfl ⟨rfl, rfl, rfl, rfl, trivial⟩ ?_
      exact dt_C_ring_17 @ih 6 hH (by first | omega | assumption) (by first | omega | assumption) (by first | omega | assumption) (by first | omega | assumption) (by first | omega | assumption) (by first | omega | assumption) (by first | omega | assumption) (by omega)
set_option maxRecDepth 100000 in
theorem dt_C_ring {h : mj_H} (hH : sy_H h) {a1 : Int} (b_a1 : (-2147483648) ≤ a1) (t_a1 : a1 ≤ 2147483647) : sy_wp (mj_m_98, 0, [(0, .ref 0), (1, sy_i a1)], [], h) (dq1 h (-1) (4) (dc_C_ring (sy_rd h) a1)) := by
  unfold dc_C_ring
  refine sy_st (S' := (mj_m_98, 1, [(0, .ref 0), (1, sy_i a1)], [sy_i 0], h)) mj_d_98_0 (fun _ _ => rfl) ?_
  refine sy_st (S' := (mj_m_98, 2, [(2, sy_i 0), (0, .ref 0), (1, sy_i a1)], [], h)) mj_d_98_1 (fun _ _ => rfl) ?_
  refine sy_lv (lv := [(0, .ref 0), (1, sy_i a1), (2, sy_i 0)]) rfl ⟨rfl, rfl, rfl, trivial⟩ ?_
  exact dt_C_ring_2 6 hH (by first | omega | assumption) (by first | omega | assumption) (by first | omega | assumption) (by first | omega | assumption) (by omega)
def dc_Integer_bitCount (s : sg_S) (a0 : Int) : Int := (sy_and (((sy_and (((sy_and (a0 - (sy_and (sg_ush a0 1) 1431655765)) 858993459) + (sy_and (sg_ush (a0 - (sy_and (sg_ush a0 1) 1431655765)) 2) 858993459)) + (sg_ush ((sy_and (a0 - (sy_and (sg_ush a0 1) 1431655765)) 858993459) + (sy_and (sg_ush (a0 - (sy_and (sg_ush a0 1) 1431655765)) 2) 858993459)) 4)) 252645135) + (sg_ush (sy_and (((sy_and (a0 - (sy_and (sg_ush a0 1) 1431655765)) 858993459) + (sy_and (sg_ush (a0 - (sy_and (sg_ush a0 1) 1431655765)) 2) 858993459)) + (sg_ush ((sy_and (a0 - (sy_and (sg_ush a0 1) 1431655765)) 858993459) + (sy_and (sg_ush (a0 - (sy_and (sg_ush a0 1) 1431655765)) 2) 858993459)) 4)) 252645135) 8)) + (sg_ush ((sy_and (((sy_and (a0 - (sy_and (sg_ush a0 1) 1431655765)) 858993459) + (sy_and (sg_ush (a0 - (sy_and (sg_ush a0 1) 1431655765)) 2) 858993459)) + (sg_ush ((sy_and (a0 - (sy_and (sg_ush a0 1) 1431655765)) 858993459) + (sy_and (sg_ush (a0 - (sy_and (sg_ush a0 1) 1431655765)) 2) 858993459)) 4)) 252645135) + (sg_ush (sy_and (((sy_and (a0 - (sy_and (sg_ush a0 1) 1431655765)) 858993459) + (sy_and (sg_ush (a0 - (sy_and (sg_ush a0 1) 1431655765)) 2) 858993459)) + (sg_ush ((sy_and (a0 - (sy_and (sg_ush a0 1) 1431655765)) 858993459) + (sy_and (sg_ush (a0 - (sy_and (sg_ush a0 1) 1431655765)) 2) 858993459)) 4)) 252645135) 8)) 16)) 63)
set_option maxRecDepth 100000 in
theorem dt_Integer_bitCount {h : mj_H} (hH : sy_H h) {a0 : Int} (b_a0 : (-2147483648) ≤ a0) (t_a0 : a0 ≤ 2147483647) : sy_wp (mj_m_91, 0, [(0, sy_i a0)], [], h) (dq1 h (0) (63) (dc_Integer_bitCount (sy_rd h) a0)) := by
  unfold dc_Integer_bitCount
  refine sy_st (S' := (mj_m_91, 1, [(0, sy_i a0)], [sy_i a0], h)) mj_d_91_0 (fun _ _ => rfl) ?_
  refine sy_st (S' := (mj_m_91, 2, [(0, sy_i a0)], [sy_i a0, sy_i a0], h)) mj_d_91_1 (fun _ _ => rfl) ?_
  refine sy_st (S' := (mj_m_91, 3, [(0, sy_i a0)], [sy_i 1, sy_i a0, sy_i a0], h)) mj_d_91_2 (fun _ _ => rfl) ?_
  refine sg_iush mj_d_91_3 ?_
  have q1 := sg_ush_f a0 1
  refine sy_ldcw (n := 1431655765) mj_d_91_4 rfl (by decide) ?_
  refine sy_iand mj_d_91_7 ?_
  have q2 := sg_and_f (sg_ush a0 1) 1431655765
  refine sy_sub mj_d_91_8 ?_
  refine sy_st (S' := (mj_m_91, 10, [(0, sy_i (a0 - (sy_and (sg_ush a0 1) 1431655765)))], [], h)) mj_d_91_9 (fun _ _ => rfl) ?_
  refine sy_st (S' := (mj_m_91, 11, [(0, sy_i (a0 - (sy_and (sg_ush a0 1) 1431655765)))], [sy_i (a0 - (sy_and (sg_ush a0 1) 1431655765))], h)) mj_d_91_10 (fun _ _ => rfl) ?_
  refine sy_ldcw (n := 858993459) mj_d_91_11 rfl (by decide) ?_
  refine sy_iand mj_d_91_14 ?_
  have q3 := sg_and_f (a0 - (sy_and (sg_ush a0 1) 1431655765)) 858993459
  refine sy_st (S' := (mj_m_91, 16, [(0, sy_i (a0 - (sy_and (sg_ush a0 1) 1431655765)))], [sy_i (a0 - (sy_and (sg_ush a0 1) 1431655765)), sy_i (sy_and (a0 - (sy_and (sg_ush a0 1) 1431655765)) 858993459)], h)) mj_d_91_15 (fun _ _ => rfl) ?_
  refine sy_st (S' := (mj_m_91, 17, [(0, sy_i (a0 - (sy_and (sg_ush a0 1) 1431655765)))], [sy_i 2, sy_i (a0 - (sy_and (sg_ush a0 1) 1431655765)), sy_i (sy_and (a0 - (sy_and (sg_ush a0 1) 1431655765)) 858993459)], h)) mj_d_91_16 (fun _ _ => rfl) ?_
  refine sg_iush mj_d_91_17 ?_
  have q4 := sg_ush_f (a0 - (sy_and (sg_ush a0 1) 1431655765)) 2
  refine sy_ldcw (n := 858993459) mj_d_91_18 rfl (by decide) ?_
  refine sy_iand mj_d_91_21 ?_
  have q5 := sg_and_f (sg_ush (a0 - (sy_and (sg_ush a0 1) 1431655765)) 2) 858993459
  refine sy_add mj_d_91_22 ?_
  refine sy_st (S' := (mj_m_91, 24, [(0, sy_i ((sy_and (a0 - (sy_and (sg_ush a0 1) 1431655765)) 858993459) + (sy_and (sg_ush (a0 - (sy_and (sg_ush a0 1) 1431655765)) 2) 858993459)))], [], h)) mj_d_91_23 (fun _ _ => rfl) ?_
  refine sy_st (S' := (mj_m_91, 25, [(0, sy_i ((sy_and (a0 - (sy_and (sg_ush a0 1) 1431655765)) 858993459) + (sy_and (sg_ush (a0 - (sy_and (sg_ush a0 1) 1431655765)) 2) 858993459)))], [sy_i ((sy_and (a0 - (sy_and (sg_ush a0 1) 1431655765)) 858993459) + (sy_and (sg_ush (a0 - (sy_and (sg_ush a0 1) 1431655765)) 2) 858993459))], h)) mj_d_91_24 (fun _ _ => rfl) ?_
  refine sy_st (S' := (mj_m_91, 26, [(0, sy_i ((sy_and (a0 - (sy_and (sg_ush a0 1) 1431655765)) 858993459) + (sy_and (sg_ush (a0 - (sy_and (sg_ush a0 1) 1431655765)) 2) 858993459)))], [sy_i ((sy_and (a0 - (sy_and (sg_ush a0 1) 1431655765)) 858993459) + (sy_and (sg_ush (a0 - (sy_and (sg_ush a0 1) 1431655765)) 2) 858993459)), sy_i ((sy_and (a0 - (sy_and (sg_ush a0 1) 1431655765)) 858993459) + (sy_and (sg_ush (a0 - (sy_and (sg_ush a0 1) 1431655765)) 2) 858993459))], h)) mj_d_91_25 (fun _ _ => rfl) ?_
  refine sy_st (S' := (mj_m_91, 27, [(0, sy_i ((sy_and (a0 - (sy_and (sg_ush a0 1) 1431655765)) 858993459) + (sy_and (sg_ush (a0 - (sy_and (sg_ush a0 1) 1431655765)) 2) 858993459)))], [sy_i 4, sy_i ((sy_and (a0 - (sy_and (sg_ush a0 1) 1431655765)) 858993459) + (sy_and (sg_ush (a0 - (sy_and (sg_ush a0 1) 1431655765)) 2) 858993459)), sy_i ((sy_and (a0 - (sy_and (sg_ush a0 1) 1431655765)) 858993459) + (sy_and (sg_ush (a0 - (sy_and (sg_ush a0 1) 1431655765)) 2) 858993459))], h)) mj_d_91_26 (fun _ _ => rfl) ?_
  refine sg_iush mj_d_91_27 ?_
  have q6 := sg_ush_f ((sy_and (a0 - (sy_and (sg_ush a0 1) 1431655765)) 858993459) + (sy_and (sg_ush (a0 - (sy_and (sg_ush a0 1) 1431655765)) 2) 858993459)) 4
  refine sy_add mj_d_91_28 ?_
  refine sy_ldcw (n := 252645135) mj_d_91_29 rfl (by decide) ?_
  refine sy_iand mj_d_91_32 ?_
  have q7 := sg_and_f (((sy_and (a0 - (sy_and (sg_ush a0 1) 1431655765)) 858993459) + (sy_and (sg_ush (a0 - (sy_and (sg_ush a0 1) 1431655765)) 2) 858993459)) + (sg_ush ((sy_and (a0 - (sy_and (sg_ush a0 1) 1431655765)) 858993459) + (sy_and (sg_ush (a0 - (sy_and (sg_ush a0 1) 1431655765)) 2) 858993459)) 4)) 252645135
  refine sy_st (S' := (mj_m_91, 34, [(0, sy_i (sy_and (((sy_and (a0 - (sy_and (sg_ush a0 1) 1431655765)) 858993459) + (sy_and (sg_ush (a0 - (sy_and (sg_ush a0 1) 1431655765)) 2) 858993459)) + (sg_ush ((sy_and (a0 - (sy_and (sg_ush a0 1) 1431655765)) 858993459) + (sy_and (sg_ush (a0 - (sy_and (sg_ush a0 1) 1431655765)) 2) 858993459)) 4)) 252645135))], [], h)) mj_d_91_33 (fun _ _ => rfl) ?_
  refine sy_st (S' := (mj_m_91, 35, [(0, sy_i (sy_and (((sy_and (a0 - (sy_and (sg_ush a0 1) 1431655765)) 858993459) + (sy_and (sg_ush (a0 - (sy_and (sg_ush a0 1) 1431655765)) 2) 858993459)) + (sg_ush ((sy_and (a0 - (sy_and (sg_ush a0 1) 1431655765)) 858993459) + (sy_and (sg_ush (a0 - (sy_and (sg_ush a0 1) 1431655765)) 2) 858993459)) 4)) 252645135))], [sy_i (sy_and (((sy_and (a0 - (sy_and (sg_ush a0 1) 1431655765)) 858993459) + (sy_and (sg_ush (a0 - (sy_and (sg_ush a0 1) 1431655765)) 2) 858993459)) + (sg_ush ((sy_and (a0 - (sy_and (sg_ush a0 1) 1431655765)) 858993459) + (sy_and (sg_ush (a0 - (sy_and (sg_ush a0 1) 1431655765)) 2) 858993459)) 4)) 252645135)], h)) mj_d_91_34 (fun _ _ => rfl) ?_
  refine sy_st (S' := (mj_m_91, 36, [(0, sy_i (sy_and (((sy_and (a0 - (sy_and (sg_ush a0 1) 1431655765)) 858993459) + (sy_and (sg_ush (a0 - (sy_and (sg_ush a0 1) 1431655765)) 2) 858993459)) + (sg_ush ((sy_and (a0 - (sy_and (sg_ush a0 1) 1431655765)) 858993459) + (sy_and (sg_ush (a0 - (sy_and (sg_ush a0 1) 1431655765)) 2) 858993459)) 4)) 252645135))], [sy_i (sy_and (((sy_and (a0 - (sy_and (sg_ush a0 1) 1431655765)) 858993459) + (sy_and (sg_ush (a0 - (sy_and (sg_ush a0 1) 1431655765)) 2) 858993459)) + (sg_ush ((sy_and (a0 - (sy_and (sg_ush a0 1) 1431655765)) 858993459) + (sy_and (sg_ush (a0 - (sy_and (sg_ush a0 1) 1431655765)) 2) 858993459)) 4)) 252645135), sy_i (sy_and (((sy_and (a0 - (sy_and (sg_ush a0 1) 1431655765)) 858993459) + (sy_and (sg_ush (a0 - (sy_and (sg_ush a0 1) 1431655765)) 2) 858993459)) + (sg_ush ((sy_and (a0 - (sy_and (sg_ush a0 1) 1431655765)) 858993459) + (sy_and (sg_ush (a0 - (sy_and (sg_ush a0 1) 1431655765)) 2) 858993459)) 4)) 252645135)], h)) mj_d_91_35 (fun _ _ => rfl) ?_
  refine sy_bip mj_d_91_36 (by decide) ?_
  refine sg_iush mj_d_91_38 ?_
  have q8 := sg_ush_f (sy_and (((sy_and (a0 - (sy_and (sg_ush a0 1) 1431655765)) 858993459) + (sy_and (sg_ush (a0 - (sy_and (sg_ush a0 1) 1431655765)) 2) 858993459)) + (sg_ush ((sy_and (a0 - (sy_and (sg_ush a0 1) 1431655765)) 858993459) + (sy_and (sg_ush (a0 - (sy_and (sg_ush a0 1) 1431655765)) 2) 858993459)) 4)) 252645135) 8
  refine sy_add mj_d_91_39 ?_
  refine sy_st (S' := (mj_m_91, 41, [(0, sy_i ((sy_and (((sy_and (a0 - (sy_and (sg_ush a0 1) 1431655765)) 858993459) + (sy_and (sg_ush (a0 - (sy_and (sg_ush a0 1) 1431655765)) 2) 858993459)) + (sg_ush ((sy_and (a0 - (sy_and (sg_ush a0 1) 1431655765)) 858993459) + (sy_and (sg_ush (a0 - (sy_and (sg_ush a0 1) 1431655765)) 2) 858993459)) 4)) 252645135) + (sg_ush (sy_and (((sy_and (a0 - (sy_and (sg_ush a0 1) 1431655765)) 858993459) + (sy_and (sg_ush (a0 - (sy_and (sg_ush a0 1) 1431655765)) 2) 858993459)) + (sg_ush ((sy_and (a0 - (sy_and (sg_ush a0 1) 1431655765)) 858993459) + (sy_and (sg_ush (a0 - (sy_and (sg_ush a0 1) 1431655765)) 2) 858993459)) 4)) 252645135) 8)))], [], h)) mj_d_91_40 (fun _ _ => rfl) ?_
  refine sy_st (S' := (mj_m_91, 42, [(0, sy_i ((sy_and (((sy_and (a0 - (sy_and (sg_ush a0 1) 1431655765)) 858993459) + (sy_and (sg_ush (a0 - (sy_and (sg_ush a0 1) 1431655765)) 2) 858993459)) + (sg_ush ((sy_and (a0 - (sy_and (sg_ush a0 1) 1431655765)) 858993459) + (sy_and (sg_ush (a0 - (sy_and (sg_ush a0 1) 1431655765)) 2) 858993459)) 4)) 252645135) + (sg_ush (sy_and (((sy_and (a0 - (sy_and (sg_ush a0 1) 1431655765)) 858993459) + (sy_and (sg_ush (a0 - (sy_and (sg_ush a0 1) 1431655765)) 2) 858993459)) + (sg_ush ((sy_and (a0 - (sy_and (sg_ush a0 1) 1431655765)) 858993459) + (sy_and (sg_ush (a0 - (sy_and (sg_ush a0 1) 1431655765)) 2) 858993459)) 4)) 252645135) 8)))], [sy_i ((sy_and (((sy_and (a0 - (sy_and (sg_ush a0 1) 1431655765)) 858993459) + (sy_and (sg_ush (a0 - (sy_and (sg_ush a0 1) 1431655765)) 2) 858993459)) + (sg_ush ((sy_and (a0 - (sy_and (sg_ush a0 1) 1431655765)) 858993459) + (sy_and (sg_ush (a0 - (sy_and (sg_ush a0 1) 1431655765)) 2) 858993459)) 4)) 252645135) + (sg_ush (sy_and (((sy_and (a0 - (sy_and (sg_ush a0 1) 1431655765)) 858993459) + (sy_and (sg_ush (a0 - (sy_and (sg_ush a0 1) 1431655765)) 2) 858993459)) + (sg_ush ((sy_and (a0 - (sy_and (sg_ush a0 1) 1431655765)) 858993459) + (sy_and (sg_ush (a0 - (sy_and (sg_ush a0 1) 1431655765)) 2) 858993459)) 4)) 252645135) 8))], h)) mj_d_91_41 (fun _ _ => rfl) ?_
  refine sy_st (S' := (mj_m_91, 43, [(0, sy_i ((sy_and (((sy_and (a0 - (sy_and (sg_ush a0 1) 1431655765)) 858993459) + (sy_and (sg_ush (a0 - (sy_and (sg_ush a0 1) 1431655765)) 2) 858993459)) + (sg_ush ((sy_and (a0 - (sy_and (sg_ush a0 1) 1431655765)) 858993459) + (sy_and (sg_ush (a0 - (sy_and (sg_ush a0 1) 1431655765)) 2) 858993459)) 4)) 252645135) + (sg_ush (sy_and (((sy_and (a0 - (sy_and (sg_ush a0 1) 1431655765)) 858993459) + (sy_and (sg_ush (a0 - (sy_and (sg_ush a0 1) 1431655765)) 2) 858993459)) + (sg_ush ((sy_and (a0 - (sy_and (sg_ush a0 1) 1431655765)) 858993459) + (sy_and (sg_ush (a0 - (sy_and (sg_ush a0 1) 1431655765)) 2) 858993459)) 4)) 252645135) 8)))], [sy_i ((sy_and (((sy_and (a0 - (sy_and (sg_ush a0 1) 1431655765)) 858993459) + (sy_and (sg_ush (a0 - (sy_and (sg_ush a0 1) 1431655765)) 2) 858993459)) + (sg_ush ((sy_and (a0 - (sy_and (sg_ush a0 1) 1431655765)) 858993459) + (sy_and (sg_ush (a0 - (sy_and (sg_ush a0 1) 1431655765)) 2) 858993459)) 4)) 252645135) + (sg_ush (sy_and (((sy_and (a0 - (sy_and (sg_ush a0 1) 1431655765)) 858993459) + (sy_and (sg_ush (a0 - (sy_and (sg_ush a0 1) 1431655765)) 2) 858993459)) + (sg_ush ((sy_and (a0 - (sy_and (sg_ush a0 1) 1431655765)) 858993459) + (sy_and (sg_ush (a0 - (sy_and (sg_ush a0 1) 1431655765)) 2) 858993459)) 4)) 252645135) 8)), sy_i ((sy_and (((sy_and (a0 - (sy_and (sg_ush a0 1) 1431655765)) 858993459) + (sy_and (sg_ush (a0 - (sy_and (sg_ush a0 1) 1431655765)) 2) 858993459)) + (sg_ush ((sy_and (a0 - (sy_and (sg_ush a0 1) 1431655765)) 858993459) + (sy_and (sg_ush (a0 - (sy_and (sg_ush a0 1) 1431655765)) 2) 858993459)) 4)) 252645135) + (sg_ush (sy_and (((sy_and (a0 - (sy_and (sg_ush a0 1) 1431655765)) 858993459) + (sy_and (sg_ush (a0 - (sy_and (sg_ush a0 1) 1431655765)) 2) 858993459)) + (sg_ush ((sy_and (a0 - (sy_and (sg_ush a0 1) 1431655765)) 858993459) + (sy_and (sg_ush (a0 - (sy_and (sg_ush a0 1) 1431655765)) 2) 858993459)) 4)) 252645135) 8))], h)) mj_d_91_42 (fun _ _ => rfl) ?_
  refine sy_bip mj_d_91_43 (by decide) ?_
  refine sg_iush mj_d_91_45 ?_
  have q9 := sg_ush_f ((sy_and (((sy_and (a0 - (sy_and (sg_ush a0 1) 1431655765)) 858993459) + (sy_and (sg_ush (a0 - (sy_and (sg_ush a0 1) 1431655765)) 2) 858993459)) + (sg_ush ((sy_and (a0 - (sy_and (sg_ush a0 1) 1431655765)) 858993459) + (sy_and (sg_ush (a0 - (sy_and (sg_ush a0 1) 1431655765)) 2) 858993459)) 4)) 252645135) + (sg_ush (sy_and (((sy_and (a0 - (sy_and (sg_ush a0 1) 1431655765)) 858993459) + (sy_and (sg_ush (a0 - (sy_and (sg_ush a0 1) 1431655765)) 2) 858993459)) + (sg_ush ((sy_and (a0 - (sy_and (sg_ush a0 1) 1431655765)) 858993459) + (sy_and (sg_ush (a0 - (sy_and (sg_ush a0 1) 1431655765)) 2) 858993459)) 4)) 252645135) 8)) 16
  refine sy_add mj_d_91_46 ?_
  refine sy_st (S' := (mj_m_91, 48, [(0, sy_i (((sy_and (((sy_and (a0 - (sy_and (sg_ush a0 1) 1431655765)) 858993459) + (sy_and (sg_ush (a0 - (sy_and (sg_ush a0 1) 1431655765)) 2) 858993459)) + (sg_ush ((sy_and (a0 - (sy_and (sg_ush a0 1) 1431655765)) 858993459) + (sy_and (sg_ush (a0 - (sy_and (sg_ush a0 1) 1431655765)) 2) 858993459)) 4)) 252645135) + (sg_ush (sy_and (((sy_and (a0 - (sy_and (sg_ush a0 1) 1431655765)) 858993459) + (sy_and (sg_ush (a0 - (sy_and (sg_ush a0 1) 1431655765)) 2) 858993459)) + (sg_ush ((sy_and (a0 - (sy_and (sg_ush a0 1) 1431655765)) 858993459) + (sy_and (sg_ush (a0 - (sy_and (sg_ush a0 1) 1431655765)) 2) 858993459)) 4)) 252645135) 8)) + (sg_ush ((sy_and (((sy_and (a0 - (sy_and (sg_ush a0 1) 1431655765)) 858993459) + (sy_and (sg_ush (a0 - (sy_and (sg_ush a0 1) 1431655765)) 2) 858993459)) + (sg_ush ((sy_and (a0 - (sy_and (sg_ush a0 1) 1431655765)) 858993459) + (sy_and (sg_ush (a0 - (sy_and (sg_ush a0 1) 1431655765)) 2) 858993459)) 4)) 252645135) + (sg_ush (sy_and (((sy_and (a0 - (sy_and (sg_ush a0 1) 1431655765)) 858993459) + (sy_and (sg_ush (a0 - (sy_and (sg_ush a0 1) 1431655765)) 2) 858993459)) + (sg_ush ((sy_and (a0 - (sy_and (sg_ush a0 1) 1431655765)) 858993459) + (sy_and (sg_ush (a0 - (sy_and (sg_ush a0 1) 1431655765)) 2) 858993459)) 4)) 252645135) 8)) 16)))], [], h)) mj_d_91_47 (fun _ _ => rfl) ?_
  refine sy_st (S' := (mj_m_91, 49, [(0, sy_i (((sy_and (((sy_and (a0 - (sy_and (sg_ush a0 1) 1431655765)) 858993459) + (sy_and (sg_ush (a0 - (sy_and (sg_ush a0 1) 1431655765)) 2) 858993459)) + (sg_ush ((sy_and (a0 - (sy_and (sg_ush a0 1) 1431655765)) 858993459) + (sy_and (sg_ush (a0 - (sy_and (sg_ush a0 1) 1431655765)) 2) 858993459)) 4)) 252645135) + (sg_ush (sy_and (((sy_and (a0 - (sy_and (sg_ush a0 1) 1431655765)) 858993459) + (sy_and (sg_ush (a0 - (sy_and (sg_ush a0 1) 1431655765)) 2) 858993459)) + (sg_ush ((sy_and (a0 - (sy_and (sg_ush a0 1) 1431655765)) 858993459) + (sy_and (sg_ush (a0 - (sy_and (sg_ush a0 1) 1431655765)) 2) 858993459)) 4)) 252645135) 8)) + (sg_ush ((sy_and (((sy_and (a0 - (sy_and (sg_ush a0 1) 1431655765)) 858993459) + (sy_and (sg_ush (a0 - (sy_and (sg_ush a0 1) 1431655765)) 2) 858993459)) + (sg_ush ((sy_and (a0 - (sy_and (sg_ush a0 1) 1431655765)) 858993459) + (sy_and (sg_ush (a0 - (sy_and (sg_ush a0 1) 1431655765)) 2) 858993459)) 4)) 252645135) + (sg_ush (sy_and (((sy_and (a0 - (sy_and (sg_ush a0 1) 1431655765)) 858993459) + (sy_and (sg_ush (a0 - (sy_and (sg_ush a0 1) 1431655765)) 2) 858993459)) + (sg_ush ((sy_and (a0 - (sy_and (sg_ush a0 1) 1431655765)) 858993459) + (sy_and (sg_ush (a0 - (sy_and (sg_ush a0 1) 1431655765)) 2) 858993459)) 4)) 252645135) 8)) 16)))], [sy_i (((sy_and (((sy_and (a0 - (sy_and (sg_ush a0 1) 1431655765)) 858993459) + (sy_and (sg_ush (a0 - (sy_and (sg_ush a0 1) 1431655765)) 2) 858993459)) + (sg_ush ((sy_and (a0 - (sy_and (sg_ush a0 1) 1431655765)) 858993459) + (sy_and (sg_ush (a0 - (sy_and (sg_ush a0 1) 1431655765)) 2) 858993459)) 4)) 252645135) + (sg_ush (sy_and (((sy_and (a0 - (sy_and (sg_ush a0 1) 1431655765)) 858993459) + (sy_and (sg_ush (a0 - (sy_and (sg_ush a0 1) 1431655765)) 2) 858993459)) + (sg_ush ((sy_and (a0 - (sy_and (sg_ush a0 1) 1431655765)) 858993459) + (sy_and (sg_ush (a0 - (sy_and (sg_ush a0 1) 1431655765)) 2) 858993459)) 4)) 252645135) 8)) + (sg_ush ((sy_and (((sy_and (a0 - (sy_and (sg_ush a0 1) 1431655765)) 858993459) + (sy_and (sg_ush (a0 - (sy_and (sg_ush a0 1) 1431655765)) 2) 858993459)) + (sg_ush ((sy_and (a0 - (sy_and (sg_ush a0 1) 1431655765)) 858993459) + (sy_and (sg_ush (a0 - (sy_and (sg_ush a0 1) 1431655765)) 2) 858993459)) 4)) 252645135) + (sg_ush (sy_and (((sy_and (a0 - (sy_and (sg_ush a0 1) 1431655765)) 858993459) + (sy_and (sg_ush (a0 - (sy_and (sg_ush a0 1) 1431655765)) 2) 858993459)) + (sg_ush ((sy_and (a0 - (sy_and (sg_ush a0 1) 1431655765)) 858993459) + (sy_and (sg_ush (a0 - (sy_and (sg_ush a0 1) 1431655765)) 2) 858993459)) 4)) 252645135) 8)) 16))], h)) mj_d_91_48 (fun _ _ => rfl) ?_
  refine sy_bip mj_d_91_49 (by decide) ?_
  refine sy_iand mj_d_91_51 ?_
  have q10 := sg_and_f (((sy_and (((sy_and (a0 - (sy_and (sg_ush a0 1) 1431655765)) 858993459) + (sy_and (sg_ush (a0 - (sy_and (sg_ush a0 1) 1431655765)) 2) 858993459)) + (sg_ush ((sy_and (a0 - (sy_and (sg_ush a0 1) 1431655765)) 858993459) + (sy_and (sg_ush (a0 - (sy_and (sg_ush a0 1) 1431655765)) 2) 858993459)) 4)) 252645135) + (sg_ush (sy_and (((sy_and (a0 - (sy_and (sg_ush a0 1) 1431655765)) 858993459) + (sy_and (sg_ush (a0 - (sy_and (sg_ush a0 1) 1431655765)) 2) 858993459)) + (sg_ush ((sy_and (a0 - (sy_and (sg_ush a0 1) 1431655765)) 858993459) + (sy_and (sg_ush (a0 - (sy_and (sg_ush a0 1) 1431655765)) 2) 858993459)) 4)) 252645135) 8)) + (sg_ush ((sy_and (((sy_and (a0 - (sy_and (sg_ush a0 1) 1431655765)) 858993459) + (sy_and (sg_ush (a0 - (sy_and (sg_ush a0 1) 1431655765)) 2) 858993459)) + (sg_ush ((sy_and (a0 - (sy_and (sg_ush a0 1) 1431655765)) 858993459) + (sy_and (sg_ush (a0 - (sy_and (sg_ush a0 1) 1431655765)) 2) 858993459)) 4)) 252645135) + (sg_ush (sy_and (((sy_and (a0 - (sy_and (sg_ush a0 1) 1431655765)) 858993459) + (sy_and (sg_ush (a0 - (sy_and (sg_ush a0 1) 1431655765)) 2) 858993459)) + (sg_ush ((sy_and (a0 - (sy_and (sg_ush a0 1) 1431655765)) 858993459) + (sy_and (sg_ush (a0 - (sy_and (sg_ush a0 1) 1431655765)) 2) 858993459)) 4)) 252645135) 8)) 16)) 63
  exact sy_reti mj_d_91_52 rfl ⟨rfl, rfl, by omega, by omega⟩
def dc_C_mostFeared_7 (n : Nat) : sg_S → Int → Int → Int → Int → Int := Nat.rec (fun (s : sg_S) l1 l2 l3 l4 => 0) (fun _ ih => fun s l1 l2 l3 l4 => (if (s 8 3) ≤ l4 then l2 else (if (s 15 ((l4).toNat)) = l1 then (if (dc_Integer_bitCount s (dc_St_reach s l4)) ≤ l3 then (ih s l1 l2 l3 (l4 + 1)) else (ih s l1 l4 (dc_Integer_bitCount s (dc_St_reach s l4)) (l4 + 1))) else (if 0 ≤ l3 then (ih s l1 l2 l3 (l4 + 1)) else (ih s l1 l4 0 (l4 + 1)))))) n
theorem dc_C_mostFeared_7_s (n : Nat) (s : sg_S) (l1 l2 l3 l4 : Int) : dc_C_mostFeared_7 (n + 1) s l1 l2 l3 l4 = (if (s 8 3) ≤ l4 then l2 else (if (s 15 ((l4).toNat)) = l1 then (if (dc_Integer_bitCount s (dc_St_reach s l4)) ≤ l3 then ((dc_C_mostFeared_7 n) s l1 l2 l3 (l4 + 1)) else ((dc_C_mostFeared_7 n) s l1 l4 (dc_Integer_bitCount s (dc_St_reach s l4)) (l4 + 1))) else (if 0 ≤ l3 then ((dc_C_mostFeared_7 n) s l1 l2 l3 (l4 + 1)) else ((dc_C_mostFeared_7 n) s l1 l4 0 (l4 + 1))))) := rfl
def dc_C_mostFeared (s : sg_S) (a1 : Int) : Int := (dc_C_mostFeared_7 10 s a1 (-1) 0 0)
set_option maxRecDepth 100000 in
theorem dt_C_mostFeared_7 : ∀ (n : Nat) {h : mj_H} (hH : sy_H h) {l1 l2 l3 l4 : Int} (b_l1 : (-2147483648) ≤ l1) (t_l1 : l1 ≤ 2147483647) (b_l2 : (-1) ≤ l2) (t_l2 : l2 ≤ 8) (b_l3 : (-2147483648) ≤ l3) (t_l3 : l3 ≤ 2147483647) (b_l4 : 0 ≤ l4) (t_l4 : l4 ≤ 9) (hm : 9 - l4 < (n : Int)), sy_wp (mj_m_104, 7, [(0, .ref 0), (1, sy_i l1), (2, sy_i l2), (3, sy_i l3), (4, sy_i l4)], [], h) (dq1 h (-1) (8) (dc_C_mostFeared_7 n (sy_rd h) l1 l2 l3 l4)) := by
  intro n
  induction n with
  | zero =>
    intro h hH l1 l2 l3 l4 b_l1 t_l1 b_l2 t_l2 b_l3 t_l3 b_l4 t_l4 hm
    exact absurd hm (by omega)
  | succ n ih =>
    intro h hH l1 l2 l3 l4 b_l1 t_l1 b_l2 t_l2 b_l3 t_l3 b_l4 t_l4 hm
    rw [dc_C_mostFeared_7_s]
    refine sy_st (S' := (mj_m_104, 9, [(0, .ref 0), (1, sy_i l1), (2, sy_i l2), (3, sy_i l3), (4, sy_i l4)], [sy_i l4], h)) mj_d_104_7 (fun _ _ => rfl) ?_
    refine sy_st (S' := (mj_m_104, 10, [(0, .ref 0), (1, sy_i l1), (2, sy_i l2), (3, sy_i l3), (4, sy_i l4)], [.ref 0, sy_i l4], h)) mj_d_104_9 (fun _ _ => rfl) ?_
    refine sy_gr2 (b := 8) mj_d_104_10 rfl rfl (by decide) rfl rfl hH ?_
    refine sy_gf mj_d_104_13 rfl rfl (by decide) rfl hH ?_
    rintro _ rfl bx1 tx1
    refine sy_icm mj_d_104_16 rfl ⟨by omega, by omega⟩ ⟨by omega, by omega⟩ (fun (c2 : (sy_rd h 8 3) ≤ l4) => ?_) (fun (c2 : ¬ ((sy_rd h 8 3) ≤ l4)) => ?_)
    · skip
      rw [if_pos c2]
      refine sy_st (S' := (mj_m_104, 74, [(0, .ref 0), (1, sy_i l1), (2, sy_i l2), (3, sy_i l3), (4, sy_i l4)], [sy_i l2], h)) mj_d_104_73 (fun _ _ => rfl) ?_
      exact sy_reti mj_d_104_74 rfl ⟨rfl, rfl, by omega, by omega⟩
    · skip
      rw [if_neg c2]
      refine sy_st (S' := (mj_m_104, 20, [(0, .ref 0), (1, sy_i l1), (2, sy_i l2), (3, sy_i l3), (4, sy_i l4)], [.ref 0], h)) mj_d_104_19 (fun _ _ => rfl) ?_
      refine sy_gr2 (b := 13) mj_d_104_20 rfl rfl (by decide) rfl rfl hH ?_
      refine sy_gr2 (b := 15) mj_d_104_23 rfl rfl (by decide) rfl rfl hH ?_
      refine sy_st (S' := (mj_m_104, 28, [(0, .ref 0), (1, sy_i l1), (2, sy_i l2), (3, sy_i l3), (4, sy_i l4)], [sy_i l4, .ref 15], h)) mj_d_104_26 (fun _ _ => rfl) ?_
      refine sy_ia mj_d_104_28 rfl (by decide) (by omega) (by omega) (ab_el_1 rfl _) hH ?_
      rintro _ rfl bx3 tx3
      refine sy_st (S' := (mj_m_104, 30, [(0, .ref 0), (1, sy_i l1), (2, sy_i l2), (3, sy_i l3), (4, sy_i l4)], [sy_i l1, sy_i (sy_rd h 15 ((l4).toNat))], h)) mj_d_104_29 (fun _ _ => rfl) ?_
      refine sy_icm mj_d_104_30 rfl ⟨by omega, by omega⟩ ⟨by omega, by omega⟩ (fun (c4 : ¬ ((sy_rd h 15 ((l4).toNat)) = l1)) => ?_) (fun (c4 : ¬ ¬ ((sy_rd h 15 ((l4).toNat)) = l1)) => ?_)
      · skip
        rw [if_neg c4]
        refine sy_st (S' := (mj_m_104, 53, [(0, .ref 0), (1, sy_i l1), (2, sy_i l2), (3, sy_i l3), (4, sy_i l4)], [sy_i 0], h)) mj_d_104_52 (fun _ _ => rfl) ?_
        refine sy_st (S' := (mj_m_104, 55, [(5, sy_i 0), (0, .ref 0), (1, sy_i l1), (2, sy_i l2), (3, sy_i l3), (4, sy_i l4)], [], h)) mj_d_104_53 (fun _ _ => rfl) ?_
        refine sy_st (S' := (mj_m_104, 57, [(5, sy_i 0), (0, .ref 0), (1, sy_i l1), (2, sy_i l2), (3, sy_i l3), (4, sy_i l4)], [sy_i 0], h)) mj_d_104_55 (fun _ _ => rfl) ?_
        refine sy_st (S' := (mj_m_104, 58, [(5, sy_i 0), (0, .ref 0), (1, sy_i l1), (2, sy_i l2), (3, sy_i l3), (4, sy_i l4)], [sy_i l3, sy_i 0], h)) mj_d_104_57 (fun _ _ => rfl) ?_
        refine sy_icm mj_d_104_58 rfl ⟨by omega, by omega⟩ ⟨by omega, by omega⟩ (fun (c5 : 0 ≤ l3) => ?_) (fun (c5 : ¬ (0 ≤ l3)) => ?_)
        · skip
          rw [if_pos c5]
          refine sy_inc (a := l4) (lv' := [(4, sy_i (l4 + 1)), (5, sy_i 0), (0, .ref 0), (1, sy_i l1), (2, sy_i l2), (3, sy_i l3)]) mj_d_104_67 (Nat.le_of_ble_eq_true rfl) rfl rfl ?_
          refine sy_st (S' := (mj_m_104, 7, [(4, sy_i (l4 + 1)), (5, sy_i 0), (0, .ref 0), (1, sy_i l1), (2, sy_i l2), (3, sy_i l3)], [], h)) mj_d_104_70 (fun _ _ => rfl) ?_
          refine sy_lv (lv := [(0, .ref 0), (1, sy_i l1), (2, sy_i l2), (3, sy_i l3), (4, sy_i (l4 + 1))]) rfl ⟨rfl, rfl, rfl, rfl, rfl, trivial⟩ ?_
          exact ih hH (by first | omega | assumption) (by first | omega | assumption) (by first | omega | assumption) (by first | omega | assumption) (by first | omega | assumption) (by first | omega | assumption) (by first | omega | assumption) (by first | omega | assumption) (by omega)
        · skip
          rw [if_neg c5]
          refine sy_st (S' := (mj_m_104, 63, [(5, sy_i 0), (0, .ref 0), (1, sy_i l1), (2, sy_i l2), (3, sy_i l3), (4, sy_i l4)], [sy_i 0], h)) mj_d_104_61 (fun _ _ => rfl) ?_
          refine sy_st (S' := (mj_m_104, 64, [(3, sy_i 0), (5, sy_i 0), (0, .ref 0), (1, sy_i l1), (2, sy_i l2), (4, sy_i l4)], [], h)) mj_d_104_63 (fun _ _ => rfl) ?_
          refine sy_st (S' := (mj_m_104, 66, [(3, sy_i 0), (5, sy_i 0), (0, .ref 0), (1, sy_i l1), (2, sy_i l2), (4, sy_i l4)], [sy_i l4], h)) mj_d_104_64 (fun _ _ => rfl) ?_
          refine sy_st (S' := (mj_m_104, 67, [(2, sy_i l4), (3, sy_i 0), (5, sy_i 0), (0, .ref 0), (1, sy_i l1), (4, sy_i l4)], [], h)) mj_d_104_66 (fun _ _ => rfl) ?_
          refine sy_inc (a := l4) (lv' := [(4, sy_i (l4 + 1)), (2, sy_i l4), (3, sy_i 0), (5, sy_i 0), (0, .ref 0), (1, sy_i l1)]) mj_d_104_67 (Nat.le_of_ble_eq_true rfl) rfl rfl ?_
          refine sy_st (S' := (mj_m_104, 7, [(4, sy_i (l4 + 1)), (2, sy_i l4), (3, sy_i 0), (5, sy_i 0), (0, .ref 0), (1, sy_i l1)], [], h)) mj_d_104_70 (fun _ _ => rfl) ?_
          refine sy_lv (lv := [(0, .ref 0), (1, sy_i l1), (2, sy_i l4), (3, sy_i 0), (4, sy_i (l4 + 1))]) rfl ⟨rfl, rfl, rfl, rfl, rfl, trivial⟩ ?_
          exact ih hH (by first | omega | assumption) (by first | omega | assumption) (by first | omega | assumption) (by first | omega | assumption) (by first | omega | assumption) (by first | omega | assumption) (by first | omega | assumption) (by first | omega | assumption) (by omega)
      · skip
        rw [if_pos (Decidable.not_not.mp c4)]
        replace c4 := Decidable.not_not.mp c4
        refine sy_st (S' := (mj_m_104, 34, [(0, .ref 0), (1, sy_i l1), (2, sy_i l2), (3, sy_i l3), (4, sy_i l4)], [.ref 0], h)) mj_d_104_33 (fun _ _ => rfl) ?_
        refine sy_gr2 (b := 13) mj_d_104_34 rfl rfl (by decide) rfl rfl hH ?_
        refine sy_st (S' := (mj_m_104, 39, [(0, .ref 0), (1, sy_i l1), (2, sy_i l2), (3, sy_i l3), (4, sy_i l4)], [sy_i l4, .ref 13], h)) mj_d_104_37 (fun _ _ => rfl) ?_
        refine sy_st (S' := (mj_m_104, 40, [(0, .ref 0), (1, sy_i l1), (2, sy_i l2), (3, sy_i l3), (4, sy_i l4)], [.ref 0, sy_i l4, .ref 13], h)) mj_d_104_39 (fun _ _ => rfl) ?_
        refine sy_gr2 (b := 8) mj_d_104_40 rfl rfl (by decide) rfl rfl hH ?_
        refine sy_cv (M' := mj_m_83) (vs := [.ref 13, sy_i l4, .ref 8]) (rest := []) mj_d_104_43 rfl rfl rfl rfl hH rfl rfl ⟨by decide, ⟨Nat.le_of_ble_eq_true rfl, Nat.le_of_ble_eq_true rfl, Nat.le_of_ble_eq_true rfl, Nat.le_of_ble_eq_true rfl, Nat.le_of_ble_eq_true rfl⟩⟩ (dt_St_reach (a1 := l4) hH (by omega) (by omega)) ?_
        rintro _ _ ⟨rfl, rfl, b6, b6t⟩
        show sy_wp (mj_m_104, 46, [(0, .ref 0), (1, sy_i l1), (2, sy_i l2), (3, sy_i l3), (4, sy_i l4)], [sy_i (dc_St_reach (sy_rd h) l4)], h) _
        refine sy_cs (M' := mj_m_91) (vs := [sy_i (dc_St_reach (sy_rd h) l4)]) (rest := []) mj_d_104_46 rfl rfl rfl rfl ⟨Nat.le_of_ble_eq_true rfl, Nat.le_of_ble_eq_true rfl, Nat.le_of_ble_eq_true rfl, Nat.le_of_ble_eq_true rfl, Nat.le_of_ble_eq_true rfl⟩ (dt_Integer_bitCount (a0 := (dc_St_reach (sy_rd h) l4)) hH (by omega) (by omega)) ?_
        rintro _ _ ⟨rfl, rfl, b7, b7t⟩
        show sy_wp (mj_m_104, 49, [(0, .ref 0), (1, sy_i l1), (2, sy_i l2), (3, sy_i l3), (4, sy_i l4)], [sy_i (dc_Integer_bitCount (sy_rd h) (dc_St_reach (sy_rd h) l4))], h) _
        refine sy_st (S' := (mj_m_104, 53, [(0, .ref 0), (1, sy_i l1), (2, sy_i l2), (3, sy_i l3), (4, sy_i l4)], [sy_i (dc_Integer_bitCount (sy_rd h) (dc_St_reach (sy_rd h) l4))], h)) mj_d_104_49 (fun _ _ => rfl) ?_
        refine sy_st (S' := (mj_m_104, 55, [(5, sy_i (dc_Integer_bitCount (sy_rd h) (dc_St_reach (sy_rd h) l4))), (0, .ref 0), (1, sy_i l1), (2, sy_i l2), (3, sy_i l3), (4, sy_i l4)], [], h)) mj_d_104_53 (fun _ _ => rfl) ?_
        refine sy_st (S' := (mj_m_104, 57, [(5, sy_i (dc_Integer_bitCount (sy_rd h) (dc_St_reach (sy_rd h) l4))), (0, .ref 0), (1, sy_i l1), (2, sy_i l2), (3, sy_i l3), (4, sy_i l4)], [sy_i (dc_Integer_bitCount (sy_rd h) (dc_St_reach (sy_rd h) l4))], h)) mj_d_104_55 (fun _ _ => rfl) ?_
        refine sy_st (S' := (mj_m_104, 58, [(5, sy_i (dc_Integer_bitCount (sy_rd h) (dc_St_reach (sy_rd h) l4))), (0, .ref 0), (1, sy_i l1), (2, sy_i l2), (3, sy_i l3), (4, sy_i l4)], [sy_i l3, sy_i (dc_Integer_bitCount (sy_rd h) (dc_St_reach (sy_rd h) l4))], h)) mj_d_104_57 (fun _ _ => rfl) ?_
        refine sy_icm mj_d_104_58 rfl ⟨by omega, by omega⟩ ⟨by omega, by omega⟩ (fun (c8 : (dc_Integer_bitCount (sy_rd h) (dc_St_reach (sy_rd h) l4)) ≤ l3) => ?_) (fun (c8 : ¬ ((dc_Integer_bitCount (sy_rd h) (dc_St_reach (sy_rd h) l4)) ≤ l3)) => ?_)
        · skip
          rw [if_pos c8]
          refine sy_inc (a := l4) (lv' := [(4, sy_i (l4 + 1)), (5, sy_i (dc_Integer_bitCount (sy_rd h) (dc_St_reach (sy_rd h) l4))), (0, .ref 0), (1, sy_i l1), (2, sy_i l2), (3, sy_i l3)]) mj_d_104_67 (Nat.le_of_ble_eq_true rfl) rfl rfl ?_
          refine sy_st (S' := (mj_m_104, 7, [(4, sy_i (l4 + 1)), (5, sy_i (dc_Integer_bitCount (sy_rd h) (dc_St_reach (sy_rd h) l4))), (0, .ref 0), (1, sy_i l1), (2, sy_i l2), (3, sy_i l3)], [], h)) mj_d_104_70 (fun _ _ => rfl) ?_
          refine sy_lv (lv := [(0, .ref 0), (1, sy_i l1), (2, sy_i l2), (3, sy_i l3), (4, sy_i (l4 + 1))]) rfl ⟨rfl, rfl, rfl, rfl, rfl, trivial⟩ ?_
          exact ih hH (by first | omega | assumption) (by first | omega | assumption) (by first | omega | assumption) (by first | omega | assumption) (by first | omega | assumption) (by first | omega | assumption) (by first | omega | assumption) (by first | omega | assumption) (by omega)
        · skip
          rw [if_neg c8]
          refine sy_st (S' := (mj_m_104, 63, [(5, sy_i (dc_Integer_bitCount (sy_rd h) (dc_St_reach (sy_rd h) l4))), (0, .ref 0), (1, sy_i l1), (2, sy_i l2), (3, sy_i l3), (4, sy_i l4)], [sy_i (dc_Integer_bitCount (sy_rd h) (dc_St_reach (sy_rd h) l4))], h)) mj_d_104_61 (fun _ _ => rfl) ?_
          refine sy_st (S' := (mj_m_104, 64, [(3, sy_i (dc_Integer_bitCount (sy_rd h) (dc_St_reach (sy_rd h) l4))), (5, sy_i (dc_Integer_bitCount (sy_rd h) (dc_St_reach (sy_rd h) l4))), (0, .ref 0), (1, sy_i l1), (2, sy_i l2), (4, sy_i l4)], [], h)) mj_d_104_63 (fun _ _ => rfl) ?_
          refine sy_st (S' := (mj_m_104, 66, [(3, sy_i (dc_Integer_bitCount (sy_rd h) (dc_St_reach (sy_rd h) l4))), (5, sy_i (dc_Integer_bitCount (sy_rd h) (dc_St_reach (sy_rd h) l4))), (0, .ref 0), (1, sy_i l1), (2, sy_i l2), (4, sy_i l4)], [sy_i l4], h)) mj_d_104_64 (fun _ _ => rfl) ?_
          refine sy_st (S' := (mj_m_104, 67, [(2, sy_i l4), (3, sy_i (dc_Integer_bitCount (sy_rd h) (dc_St_reach (sy_rd h) l4))), (5, sy_i (dc_Integer_bitCount (sy_rd h) (dc_St_reach (sy_rd h) l4))), (0, .ref 0), (1, sy_i l1), (4, sy_i l4)], [], h)) mj_d_104_66 (fun _ _ => rfl) ?_
          refine sy_inc (a := l4) (lv' := [(4, sy_i (l4 + 1)), (2, sy_i l4), (3, sy_i (dc_Integer_bitCount (sy_rd h) (dc_St_reach (sy_rd h) l4))), (5, sy_i (dc_Integer_bitCount (sy_rd h) (dc_St_reach (sy_rd h) l4))), (0, .ref 0), (1, sy_i l1)]) mj_d_104_67 (Nat.le_of_ble_eq_true rfl) rfl rfl ?_
          refine sy_st (S' := (mj_m_104, 7, [(4, sy_i (l4 + 1)), (2, sy_i l4), (3, sy_i (dc_Integer_bitCount (sy_rd h) (dc_St_reach (sy_rd h) l4))), (5, sy_i (dc_Integer_bitCount (sy_rd h) (dc_St_reach (sy_rd h) l4))), (0, .ref 0), (1, sy_i l1)], [], h)) mj_d_104_70 (fun _ _ => rfl) ?_
          refine sy_lv (lv := [(0, .ref 0), (1, sy_i l1), (2, sy_i l4), (3, sy_i (dc_Integer_bitCount (sy_rd h) (dc_St_reach (sy_rd h) l4))), (4, sy_i (l4 + 1))]) rfl ⟨rfl, rfl, rfl, rfl, rfl, trivial⟩ ?_
          exact ih hH (by first | omega | assumption) (by first | omega | assumption) (by first | omega | assumption) (by first | omega | assumption) (by first | omega | assumption) (by first | omega | assumption) (by first | omega | assumption) (by first | omega | assumption) (by omega)
set_option maxRecDepth 100000 in
theorem dt_C_mostFeared {h : mj_H} (hH : sy_H h) {a1 : Int} (b_a1 : (-2147483648) ≤ a1) (t_a1 : a1 ≤ 2147483647) : sy_wp (mj_m_104, 0, [(0, .ref 0), (1, sy_i a1)], [], h) (dq1 h (-1) (8) (dc_C_mostFeared (sy_rd h) a1)) := by
  unfold dc_C_mostFeared
  refine sy_st (S' := (mj_m_104, 1, [(0, .ref 0), (1, sy_i a1)], [sy_i (-1)], h)) mj_d_104_0 (fun _ _ => rfl) ?_
  refine sy_st (S' := (mj_m_104, 2, [(2, sy_i (-1)), (0, .ref 0), (1, sy_i a1)], [], h)) mj_d_104_1 (fun _ _ => rfl) ?_
  refine sy_st (S' := (mj_m_104, 3, [(2, sy_i (-1)), (0, .ref 0), (1, sy_i a1)], [sy_i 0], h)) mj_d_104_2 (fun _ _ => rfl) ?_
  refine sy_st (S' := (mj_m_104, 4, [(3, sy_i 0), (2, sy_i (-1)), (0, .ref 0), (1, sy_i a1)], [], h)) mj_d_104_3 (fun _ _ => rfl) ?_
  refine sy_st (S' := (mj_m_104, 5, [(3, sy_i 0), (2, sy_i (-1)), (0, .ref 0), (1, sy_i a1)], [sy_i 0], h)) mj_d_104_4 (fun _ _ => rfl) ?_
  refine sy_st (S' := (mj_m_104, 7, [(4, sy_i 0), (3, sy_i 0), (2, sy_i (-1)), (0, .ref 0), (1, sy_i a1)], [], h)) mj_d_104_5 (fun _ _ => rfl) ?_
  refine sy_lv (lv := [(0, .ref 0), (1, sy_i a1), (2, sy_i (-1)), (3, sy_i 0), (4, sy_i 0)]) rfl ⟨rfl, rfl, rfl, rfl, rfl, trivial⟩ ?_
  exact dt_C_mostFeared_7 10 hH (by first | omega | assumption) (by first | omega | assumption) (by first | omega | assumption) (by first | omega | assumption) (by first | omega | assumption) (by first | omega | assumption) (by first | omega | assumption) (by first | omega | assumption) (by omega)
def dc_C_brushes (s : sg_S) (a1 a2 : Int) : Int := (if a1 < 1 then (-1000000002) else (if a1 ≤ 7 then (if a2 = 0 then (dc_St_fluesWith s a1 (s 8 3)) else (if a2 = 1 then (dc_C_mostFeared s a1) else (-1000000002))) else (-1000000002)))
set_option maxRecDepth 100000 in
theorem dt_C_brushes {h : mj_H} (hH : sy_H h) {a1 a2 : Int} (b_a1 : (-2147483648) ≤ a1) (t_a1 : a1 ≤ 2147483647) (b_a2 : (-2147483648) ≤ a2) (t_a2 : a2 ≤ 2147483647) : sy_wp (mj_m_101, 0, [(0, .ref 0), (1, sy_i a1), (2, sy_i a2)], [], h) (dq1 h (-2147483648) (2147483647) (dc_C_brushes (sy_rd h) a1 a2)) := by
  unfold dc_C_brushes
  have n8_3 := hH.bd (a := 8) (k := 3) rfl (by decide) rfl
  refine sy_st (S' := (mj_m_101, 1, [(0, .ref 0), (1, sy_i a1), (2, sy_i a2)], [sy_i a1], h)) mj_d_101_0 (fun _ _ => rfl) ?_
  refine sy_st (S' := (mj_m_101, 2, [(0, .ref 0), (1, sy_i a1), (2, sy_i a2)], [sy_i 1, sy_i a1], h)) mj_d_101_1 (fun _ _ => rfl) ?_
  refine sy_icm mj_d_101_2 rfl ⟨by omega, by omega⟩ ⟨by omega, by omega⟩ (fun (c1 : a1 < 1) => ?_) (fun (c1 : ¬ (a1 < 1)) => ?_)
  · skip
    rw [if_pos c1]
    refine sy_ldc (n := -1000000002) mj_d_101_11 rfl (by decide) ?_
    exact sy_reti mj_d_101_13 rfl ⟨rfl, rfl, by omega, by omega⟩
  · skip
    rw [if_neg c1]
    refine sy_st (S' := (mj_m_101, 6, [(0, .ref 0), (1, sy_i a1), (2, sy_i a2)], [sy_i a1], h)) mj_d_101_5 (fun _ _ => rfl) ?_
    refine sy_bip mj_d_101_6 (by decide) ?_
    refine sy_icm mj_d_101_8 rfl ⟨by omega, by omega⟩ ⟨by omega, by omega⟩ (fun (c2 : a1 ≤ 7) => ?_) (fun (c2 : ¬ (a1 ≤ 7)) => ?_)
    · skip
      rw [if_pos c2]
      refine sy_st (S' := (mj_m_101, 15, [(0, .ref 0), (1, sy_i a1), (2, sy_i a2)], [sy_i a2], h)) mj_d_101_14 (fun _ _ => rfl) ?_
      by_cases c3 : a2 = 0
      · skip
        rw [if_pos c3]
        refine sy_lk (a := a2) mj_d_101_15 (by decide) ⟨by omega, by omega⟩ (by (try rw [c3]); (try rfl)) rfl ?_
        refine sy_st (S' := (mj_m_101, 41, [(0, .ref 0), (1, sy_i a1), (2, sy_i a2)], [.ref 0], h)) mj_d_101_40 (fun _ _ => rfl) ?_
        refine sy_gr2 (b := 13) mj_d_101_41 rfl rfl (by decide) rfl rfl hH ?_
        refine sy_st (S' := (mj_m_101, 45, [(0, .ref 0), (1, sy_i a1), (2, sy_i a2)], [sy_i a1, .ref 13], h)) mj_d_101_44 (fun _ _ => rfl) ?_
        refine sy_st (S' := (mj_m_101, 46, [(0, .ref 0), (1, sy_i a1), (2, sy_i a2)], [.ref 0, sy_i a1, .ref 13], h)) mj_d_101_45 (fun _ _ => rfl) ?_
        refine sy_gr2 (b := 8) mj_d_101_46 rfl rfl (by decide) rfl rfl hH ?_
        refine sy_gf mj_d_101_49 rfl rfl (by decide) rfl hH ?_
        rintro _ rfl bx4 tx4
        refine sy_cv (M' := mj_m_102) (vs := [.ref 13, sy_i a1, sy_i (sy_rd h 8 3)]) (rest := []) mj_d_101_52 rfl rfl rfl rfl hH rfl rfl ⟨by decide, ⟨Nat.le_of_ble_eq_true rfl, Nat.le_of_ble_eq_true rfl, Nat.le_of_ble_eq_true rfl, Nat.le_of_ble_eq_true rfl, Nat.le_of_ble_eq_true rfl⟩⟩ (dt_St_fluesWith (a1 := a1) (a2 := (sy_rd h 8 3)) hH (by omega) (by omega) (by omega) (by omega)) ?_
        rintro _ _ ⟨rfl, rfl, b5, b5t⟩
        show sy_wp (mj_m_101, 55, [(0, .ref 0), (1, sy_i a1), (2, sy_i a2)], [sy_i (dc_St_fluesWith (sy_rd h) a1 (sy_rd h 8 3))], h) _
        exact sy_reti mj_d_101_55 rfl ⟨rfl, rfl, by omega, by omega⟩
      rw [if_neg c3]
      by_cases c6 : a2 = 1
      · skip
        rw [if_pos c6]
        refine sy_lk (a := a2) mj_d_101_15 (by decide) ⟨by omega, by omega⟩ (by (try rw [c6]); (try rfl)) rfl ?_
        refine sy_st (S' := (mj_m_101, 57, [(0, .ref 0), (1, sy_i a1), (2, sy_i a2)], [.ref 0], h)) mj_d_101_56 (fun _ _ => rfl) ?_
        refine sy_st (S' := (mj_m_101, 58, [(0, .ref 0), (1, sy_i a1), (2, sy_i a2)], [sy_i a1, .ref 0], h)) mj_d_101_57 (fun _ _ => rfl) ?_
        refine sy_cv (M' := mj_m_104) (vs := [.ref 0, sy_i a1]) (rest := []) mj_d_101_58 rfl rfl rfl rfl hH rfl rfl ⟨by decide, ⟨Nat.le_of_ble_eq_true rfl, Nat.le_of_ble_eq_true rfl, Nat.le_of_ble_eq_true rfl, Nat.le_of_ble_eq_true rfl, Nat.le_of_ble_eq_true rfl⟩⟩ (dt_C_mostFeared (a1 := a1) hH (by omega) (by omega)) ?_
        rintro _ _ ⟨rfl, rfl, b7, b7t⟩
        show sy_wp (mj_m_101, 61, [(0, .ref 0), (1, sy_i a1), (2, sy_i a2)], [sy_i (dc_C_mostFeared (sy_rd h) a1)], h) _
        exact sy_reti mj_d_101_61 rfl ⟨rfl, rfl, by omega, by omega⟩
      rw [if_neg c6]
      refine sy_lk (a := a2) (off := 47) mj_d_101_15 (by decide) ⟨by omega, by omega⟩ (by simp [Op.lookupswitch.offset, c3, c6, (show ¬ (0 : Int) = a2 from fun q => c3 q.symm), (show ¬ (1 : Int) = a2 from fun q => c6 q.symm)]) rfl ?_
      refine sy_ldc (n := -1000000002) mj_d_101_62 rfl (by decide) ?_
      exact sy_reti mj_d_101_64 rfl ⟨rfl, rfl, by omega, by omega⟩
    · skip
      rw [if_neg c2]
      refine sy_ldc (n := -1000000002) mj_d_101_11 rfl (by decide) ?_
      exact sy_reti mj_d_101_13 rfl ⟨rfl, rfl, by omega, by omega⟩
def dc_C_wet_30 (n : Nat) : sg_S → Int → Int → Int → Int → Int := Nat.rec (fun (s : sg_S) l1 l2 l3 l5 => 0) (fun _ ih => fun s l1 l2 l3 l5 => (if l1 ≤ l5 then l3 else (ih s l1 l2 ((l3 * (100 - (min 100 (l2 + (2 * l5))))) / 100) (l5 + 1)))) n
theorem dc_C_wet_30_s (n : Nat) (s : sg_S) (l1 l2 l3 l5 : Int) : dc_C_wet_30 (n + 1) s l1 l2 l3 l5 = (if l1 ≤ l5 then l3 else ((dc_C_wet_30 n) s l1 l2 ((l3 * (100 - (min 100 (l2 + (2 * l5))))) / 100) (l5 + 1))) := rfl
def dc_C_wet (s : sg_S) (a1 a2 : Int) : Int := (if a1 < 0 then (-1000000002) else (if 8 < a1 then (-1000000002) else (if a2 < 0 then (-1000000002) else (if a2 ≤ 100 then (dc_C_wet_30 9 s a1 a2 1000000000 0) else (-1000000002)))))
set_option maxRecDepth 100000 in
theorem dt_C_wet_30 : ∀ (n : Nat) {h : mj_H} (hH : sy_H h) {l1 l2 l3 l5 : Int} (b_l1 : 0 ≤ l1) (t_l1 : l1 ≤ 8) (b_l2 : 0 ≤ l2) (t_l2 : l2 ≤ 100) (b_l3 : 0 ≤ l3) (t_l3 : l3 ≤ 1000000000) (b_l5 : 0 ≤ l5) (t_l5 : l5 ≤ 8) (hm : 8 - l5 < (n : Int)), sy_wp (mj_m_105, 30, [(1, sy_i l1), (2, sy_i l2), (3, sy_l l3), (5, sy_i l5)], [], h) (dq1 h (-2147483648) (2147483647) (dc_C_wet_30 n (sy_rd h) l1 l2 l3 l5)) := by
  intro n
  induction n with
  | zero =>
    intro h hH l1 l2 l3 l5 b_l1 t_l1 b_l2 t_l2 b_l3 t_l3 b_l5 t_l5 hm
    exact absurd hm (by omega)
  | succ n ih =>
    intro h hH l1 l2 l3 l5 b_l1 t_l1 b_l2 t_l2 b_l3 t_l3 b_l5 t_l5 hm
    rw [dc_C_wet_30_s]
    refine sy_st (S' := (mj_m_105, 32, [(1, sy_i l1), (2, sy_i l2), (3, sy_l l3), (5, sy_i l5)], [sy_i l5], h)) mj_d_105_30 (fun _ _ => rfl) ?_
    refine sy_st (S' := (mj_m_105, 33, [(1, sy_i l1), (2, sy_i l2), (3, sy_l l3), (5, sy_i l5)], [sy_i l1, sy_i l5], h)) mj_d_105_32 (fun _ _ => rfl) ?_
    refine sy_icm mj_d_105_33 rfl ⟨by omega, by omega⟩ ⟨by omega, by omega⟩ (fun (c1 : l1 ≤ l5) => ?_) (fun (c1 : ¬ (l1 ≤ l5)) => ?_)
    · skip
      rw [if_pos c1]
      refine sy_st (S' := (mj_m_105, 69, [(1, sy_i l1), (2, sy_i l2), (3, sy_l l3), (5, sy_i l5)], [sy_l l3], h)) mj_d_105_68 (fun _ _ => rfl) ?_
      refine sy_l2i mj_d_105_69 ⟨by omega, by omega⟩ ?_
      exact sy_reti mj_d_105_70 rfl ⟨rfl, rfl, by omega, by omega⟩
    · skip
      rw [if_neg c1]
      refine sy_bip mj_d_105_36 (by decide) ?_
      refine sy_st (S' := (mj_m_105, 39, [(1, sy_i l1), (2, sy_i l2), (3, sy_l l3), (5, sy_i l5)], [sy_i l2, sy_i 100], h)) mj_d_105_38 (fun _ _ => rfl) ?_
      refine sy_st (S' := (mj_m_105, 40, [(1, sy_i l1), (2, sy_i l2), (3, sy_l l3), (5, sy_i l5)], [sy_i 2, sy_i l2, sy_i 100], h)) mj_d_105_39 (fun _ _ => rfl) ?_
      refine sy_st (S' := (mj_m_105, 42, [(1, sy_i l1), (2, sy_i l2), (3, sy_l l3), (5, sy_i l5)], [sy_i l5, sy_i 2, sy_i l2, sy_i 100], h)) mj_d_105_40 (fun _ _ => rfl) ?_
      refine sy_mul mj_d_105_42 ?_
      refine sy_add mj_d_105_43 ?_
      refine sy_mn mj_d_105_44 rfl ⟨by decide, by decide⟩ ⟨by omega, by omega⟩ ⟨by omega, by omega⟩ ?_
      refine sy_st (S' := (mj_m_105, 49, [(6, sy_i (min 100 (l2 + (2 * l5)))), (1, sy_i l1), (2, sy_i l2), (3, sy_l l3), (5, sy_i l5)], [], h)) mj_d_105_47 (fun _ _ => rfl) ?_
      refine sy_st (S' := (mj_m_105, 50, [(6, sy_i (min 100 (l2 + (2 * l5)))), (1, sy_i l1), (2, sy_i l2), (3, sy_l l3), (5, sy_i l5)], [sy_l l3], h)) mj_d_105_49 (fun _ _ => rfl) ?_
      refine sy_bip mj_d_105_50 (by decide) ?_
      refine sy_st (S' := (mj_m_105, 54, [(6, sy_i (min 100 (l2 + (2 * l5)))), (1, sy_i l1), (2, sy_i l2), (3, sy_l l3), (5, sy_i l5)], [sy_i (min 100 (l2 + (2 * l5))), sy_i 100, sy_l l3], h)) mj_d_105_52 (fun _ _ => rfl) ?_
      refine sy_sub mj_d_105_54 ?_
      refine sy_i2l mj_d_105_55 ⟨by omega, by omega⟩ ?_
      refine sy_lmul mj_d_105_56 ?_
      have q2 := sg_mul_f l3 (100 - (min 100 (l2 + (2 * l5))))
      refine sy_ldc2 (n := 100) mj_d_105_57 rfl (by decide) ?_
      refine sy_ldiv mj_d_105_60 ⟨by omega, by omega⟩ ⟨by omega, by omega⟩ ?_
      refine sy_st (S' := (mj_m_105, 62, [(3, sy_l ((l3 * (100 - (min 100 (l2 + (2 * l5))))) / 100)), (6, sy_i (min 100 (l2 + (2 * l5)))), (1, sy_i l1), (2, sy_i l2), (5, sy_i l5)], [], h)) mj_d_105_61 (fun _ _ => rfl) ?_
      refine sy_inc (a := l5) (lv' := [(5, sy_i (l5 + 1)), (3, sy_l ((l3 * (100 - (min 100 (l2 + (2 * l5))))) / 100)), (6, sy_i (min 100 (l2 + (2 * l5)))), (1, sy_i l1), (2, sy_i l2)]) mj_d_105_62 (Nat.le_of_ble_eq_true rfl) rfl rfl ?_
      refine sy_st (S' := (mj_m_105, 30, [(5, sy_i (l5 + 1)), (3, sy_l ((l3 * (100 - (min 100 (l2 + (2 * l5))))) / 100)), (6, sy_i (min 100 (l2 + (2 * l5)))), (1, sy_i l1), (2, sy_i l2)], [], h)) mj_d_105_65 (fun _ _ => rfl) ?_
      refine sy_lv (lv := [(1, sy_i l1), (2, sy_i l2), (3, sy_l ((l3 * (100 - (min 100 (l2 + (2 * l5))))) / 100)), (5, sy_i (l5 + 1))]) rfl ⟨rfl, rfl, rfl, rfl, trivial⟩ ?_
      exact ih hH (by first | omega | assumption) (by first | omega | assumption) (by first | omega | assumption) (by first | omega | assumption) (by first | omega | assumption) (by first | omega | assumption) (by first | omega | assumption) (by first | omega | assumption) (by omega)
set_option maxRecDepth 100000 in
theorem dt_C_wet {h : mj_H} (hH : sy_H h) {a1 a2 : Int} (b_a1 : (-2147483648) ≤ a1) (t_a1 : a1 ≤ 2147483647) (b_a2 : (-2147483648) ≤ a2) (t_a2 : a2 ≤ 2147483647) : sy_wp (mj_m_105, 0, [(0, .ref 0), (1, sy_i a1), (2, sy_i a2)], [], h) (dq1 h (-2147483648) (2147483647) (dc_C_wet (sy_rd h) a1 a2)) := by
  unfold dc_C_wet
  refine sy_st (S' := (mj_m_105, 1, [(0, .ref 0), (1, sy_i a1), (2, sy_i a2)], [sy_i a1], h)) mj_d_105_0 (fun _ _ => rfl) ?_
  refine sy_ifc mj_d_105_1 rfl ⟨by omega, by omega⟩ (fun (c1 : a1 < 0) => ?_) (fun (c1 : ¬ (a1 < 0)) => ?_)
  · skip
    rw [if_pos c1]
    refine sy_ldc (n := -1000000002) mj_d_105_20 rfl (by decide) ?_
    exact sy_reti mj_d_105_22 rfl ⟨rfl, rfl, by omega, by omega⟩
  · skip
    rw [if_neg c1]
    refine sy_st (S' := (mj_m_105, 5, [(0, .ref 0), (1, sy_i a1), (2, sy_i a2)], [sy_i a1], h)) mj_d_105_4 (fun _ _ => rfl) ?_
    refine sy_bip mj_d_105_5 (by decide) ?_
    refine sy_icm mj_d_105_7 rfl ⟨by omega, by omega⟩ ⟨by omega, by omega⟩ (fun (c2 : 8 < a1) => ?_) (fun (c2 : ¬ (8 < a1)) => ?_)
    · skip
      rw [if_pos c2]
      refine sy_ldc (n := -1000000002) mj_d_105_20 rfl (by decide) ?_
      exact sy_reti mj_d_105_22 rfl ⟨rfl, rfl, by omega, by omega⟩
    · skip
      rw [if_neg c2]
      refine sy_st (S' := (mj_m_105, 11, [(0, .ref 0), (1, sy_i a1), (2, sy_i a2)], [sy_i a2], h)) mj_d_105_10 (fun _ _ => rfl) ?_
      refine sy_ifc mj_d_105_11 rfl ⟨by omega, by omega⟩ (fun (c3 : a2 < 0) => ?_) (fun (c3 : ¬ (a2 < 0)) => ?_)
      · skip
        rw [if_pos c3]
        refine sy_ldc (n := -1000000002) mj_d_105_20 rfl (by decide) ?_
        exact sy_reti mj_d_105_22 rfl ⟨rfl, rfl, by omega, by omega⟩
      · skip
        rw [if_neg c3]
        refine sy_st (S' := (mj_m_105, 15, [(0, .ref 0), (1, sy_i a1), (2, sy_i a2)], [sy_i a2], h)) mj_d_105_14 (fun _ _ => rfl) ?_
        refine sy_bip mj_d_105_15 (by decide) ?_
        refine sy_icm mj_d_105_17 rfl ⟨by omega, by omega⟩ ⟨by omega, by omega⟩ (fun (c4 : a2 ≤ 100) => ?_) (fun (c4 : ¬ (a2 ≤ 100)) => ?_)
        · skip
          rw [if_pos c4]
          refine sy_ldc2 (n := 1000000000) mj_d_105_23 rfl (by decide) ?_
          refine sy_st (S' := (mj_m_105, 27, [(3, sy_l 1000000000), (0, .ref 0), (1, sy_i a1), (2, sy_i a2)], [], h)) mj_d_105_26 (fun _ _ => rfl) ?_
          refine sy_st (S' := (mj_m_105, 28, [(3, sy_l 1000000000), (0, .ref 0), (1, sy_i a1), (2, sy_i a2)], [sy_i 0], h)) mj_d_105_27 (fun _ _ => rfl) ?_
          refine sy_st (S' := (mj_m_105, 30, [(5, sy_i 0), (3, sy_l 1000000000), (0, .ref 0), (1, sy_i a1), (2, sy_i a2)], [], h)) mj_d_105_28 (fun _ _ => rfl) ?_
          refine sy_lv (lv := [(1, sy_i a1), (2, sy_i a2), (3, sy_l 1000000000), (5, sy_i 0)]) rfl ⟨rfl, rfl, rfl, rfl, trivial⟩ ?_
          exact dt_C_wet_30 9 hH (by first | omega | assumption) (by first | omega | assumption) (by first | omega | assumption) (by first | omega | assumption) (by first | omega | assumption) (by first | omega | assumption) (by first | omega | assumption) (by first | omega | assumption) (by omega)
        · skip
          rw [if_neg c4]
          refine sy_ldc (n := -1000000002) mj_d_105_20 rfl (by decide) ?_
          exact sy_reti mj_d_105_22 rfl ⟨rfl, rfl, by omega, by omega⟩
def dc_C_see (s : sg_S) (a1 a2 a3 : Int) : sg_S × Int := (if (dc_C_isHouse s a1) = 0 then (s, (-1000000001)) else (if a2 < 1 then (s, (-1000000002)) else (if a2 ≤ 7 then ((dc_Sights_add s a1 a2 a3).1, (dc_Sights_add s a1 a2 a3).2) else (s, (-1000000002)))))
set_option maxRecDepth 100000 in
theorem dt_C_see {h : mj_H} (hH : sy_H h) {a1 a2 a3 : Int} (b_a1 : (-2147483648) ≤ a1) (t_a1 : a1 ≤ 2147483647) (b_a2 : (-2147483648) ≤ a2) (t_a2 : a2 ≤ 2147483647) (b_a3 : 0 ≤ a3) (t_a3 : a3 ≤ 1) : sy_wp (mj_m_106, 0, [(0, .ref 0), (1, sy_i a1), (2, sy_i a2), (3, sy_i a3)], [], h) (dq2 (-2147483648) (2147483647) (dc_C_see (sy_rd h) a1 a2 a3)) := by
  unfold dc_C_see
  have n8_3 := hH.bd (a := 8) (k := 3) rfl (by decide) rfl
  refine sy_st (S' := (mj_m_106, 1, [(0, .ref 0), (1, sy_i a1), (2, sy_i a2), (3, sy_i a3)], [.ref 0], h)) mj_d_106_0 (fun _ _ => rfl) ?_
  refine sy_st (S' := (mj_m_106, 2, [(0, .ref 0), (1, sy_i a1), (2, sy_i a2), (3, sy_i a3)], [sy_i a1, .ref 0], h)) mj_d_106_1 (fun _ _ => rfl) ?_
  refine sy_cv (M' := mj_m_39) (vs := [.ref 0, sy_i a1]) (rest := []) mj_d_106_2 rfl rfl rfl rfl hH rfl rfl ⟨by decide, ⟨Nat.le_of_ble_eq_true rfl, Nat.le_of_ble_eq_true rfl, Nat.le_of_ble_eq_true rfl, Nat.le_of_ble_eq_true rfl, Nat.le_of_ble_eq_true rfl⟩⟩ (dt_C_isHouse (a1 := a1) hH (by omega) (by omega)) ?_
  rintro _ _ ⟨rfl, rfl, b1, b1t⟩
  have q2 := df_C_isHouse_0 (sy_rd h) a1
  show sy_wp (mj_m_106, 5, [(0, .ref 0), (1, sy_i a1), (2, sy_i a2), (3, sy_i a3)], [sy_i (dc_C_isHouse (sy_rd h) a1)], h) _
  refine sy_ifc mj_d_106_5 rfl ⟨by omega, by omega⟩ (fun (c3 : ¬ ((dc_C_isHouse (sy_rd h) a1) = 0)) => ?_) (fun (c3 : ¬ ¬ ((dc_C_isHouse (sy_rd h) a1) = 0)) => ?_)
  · skip
    rw [if_neg c3]
    refine sy_st (S' := (mj_m_106, 12, [(0, .ref 0), (1, sy_i a1), (2, sy_i a2), (3, sy_i a3)], [sy_i a2], h)) mj_d_106_11 (fun _ _ => rfl) ?_
    refine sy_st (S' := (mj_m_106, 13, [(0, .ref 0), (1, sy_i a1), (2, sy_i a2), (3, sy_i a3)], [sy_i 1, sy_i a2], h)) mj_d_106_12 (fun _ _ => rfl) ?_
    refine sy_icm mj_d_106_13 rfl ⟨by omega, by omega⟩ ⟨by omega, by omega⟩ (fun (c4 : a2 < 1) => ?_) (fun (c4 : ¬ (a2 < 1)) => ?_)
    · skip
      rw [if_pos c4]
      refine sy_ldc (n := -1000000002) mj_d_106_22 rfl (by decide) ?_
      exact sy_reti mj_d_106_24 rfl ⟨hH, rfl, rfl, by omega, by omega⟩
    · skip
      rw [if_neg c4]
      refine sy_st (S' := (mj_m_106, 17, [(0, .ref 0), (1, sy_i a1), (2, sy_i a2), (3, sy_i a3)], [sy_i a2], h)) mj_d_106_16 (fun _ _ => rfl) ?_
      refine sy_bip mj_d_106_17 (by decide) ?_
      refine sy_icm mj_d_106_19 rfl ⟨by omega, by omega⟩ ⟨by omega, by omega⟩ (fun (c5 : a2 ≤ 7) => ?_) (fun (c5 : ¬ (a2 ≤ 7)) => ?_)
      · skip
        rw [if_pos c5]
        refine sy_st (S' := (mj_m_106, 26, [(0, .ref 0), (1, sy_i a1), (2, sy_i a2), (3, sy_i a3)], [.ref 0], h)) mj_d_106_25 (fun _ _ => rfl) ?_
        refine sy_gr2 (b := 217) mj_d_106_26 rfl rfl (by decide) rfl rfl hH ?_
        refine sy_st (S' := (mj_m_106, 30, [(0, .ref 0), (1, sy_i a1), (2, sy_i a2), (3, sy_i a3)], [sy_i a1, .ref 217], h)) mj_d_106_29 (fun _ _ => rfl) ?_
        refine sy_st (S' := (mj_m_106, 31, [(0, .ref 0), (1, sy_i a1), (2, sy_i a2), (3, sy_i a3)], [sy_i a2, sy_i a1, .ref 217], h)) mj_d_106_30 (fun _ _ => rfl) ?_
        refine sy_st (S' := (mj_m_106, 32, [(0, .ref 0), (1, sy_i a1), (2, sy_i a2), (3, sy_i a3)], [sy_i a3, sy_i a2, sy_i a1, .ref 217], h)) mj_d_106_31 (fun _ _ => rfl) ?_
        refine sy_cv (M' := mj_m_107) (vs := [.ref 217, sy_i a1, sy_i a2, sy_i a3]) (rest := []) mj_d_106_32 rfl rfl rfl rfl hH rfl rfl ⟨by decide, ⟨Nat.le_of_ble_eq_true rfl, Nat.le_of_ble_eq_true rfl, Nat.le_of_ble_eq_true rfl, Nat.le_of_ble_eq_true rfl, Nat.le_of_ble_eq_true rfl⟩⟩ (dt_Sights_add (a1 := a1) (a2 := a2) (a3 := a3) hH (by omega) (by omega) (by omega) (by omega) (by omega) (by omega)) ?_
        rintro _ h6 ⟨th6, eh6, rfl, b7, b7t⟩
        show sy_wp (mj_m_106, 35, [(0, .ref 0), (1, sy_i a1), (2, sy_i a2), (3, sy_i a3)], [sy_i ((dc_Sights_add (sy_rd h) a1 a2 a3).2)], h6) _
        exact sy_reti mj_d_106_35 rfl ⟨th6, eh6, rfl, by omega, by omega⟩
      · skip
        rw [if_neg c5]
        refine sy_ldc (n := -1000000002) mj_d_106_22 rfl (by decide) ?_
        exact sy_reti mj_d_106_24 rfl ⟨hH, rfl, rfl, by omega, by omega⟩
  · skip
    rw [if_pos (Decidable.not_not.mp c3)]
    replace c3 := Decidable.not_not.mp c3
    refine sy_ldc (n := -1000000001) mj_d_106_8 rfl (by decide) ?_
    exact sy_reti mj_d_106_10 rfl ⟨hH, rfl, rfl, by omega, by omega⟩
def dc_C_suspects_4 (n : Nat) : sg_S → Int → Int → Int → Int := Nat.rec (fun (s : sg_S) l1 l2 l3 => 0) (fun _ ih => fun s l1 l2 l3 => (if (s 8 3) ≤ l3 then l2 else (if (dc_Sights_allow s l1 (dc_St_reach s l3)) = 0 then (ih s l1 l2 (l3 + 1)) else (ih s l1 (sy_or l2 (sy_shl 1 l3)) (l3 + 1))))) n
theorem dc_C_suspects_4_s (n : Nat) (s : sg_S) (l1 l2 l3 : Int) : dc_C_suspects_4 (n + 1) s l1 l2 l3 = (if (s 8 3) ≤ l3 then l2 else (if (dc_Sights_allow s l1 (dc_St_reach s l3)) = 0 then ((dc_C_suspects_4 n) s l1 l2 (l3 + 1)) else ((dc_C_suspects_4 n) s l1 (sy_or l2 (sy_shl 1 l3)) (l3 + 1)))) := rfl
def dc_C_suspects (s : sg_S) (a1 : Int) : Int := (dc_C_suspects_4 10 s a1 0 0)
set_option maxRecDepth 100000 in
theorem dt_C_suspects_4 : ∀ (n : Nat) {h : mj_H} (hH : sy_H h) {l1 l2 l3 : Int} (b_l1 : (-2147483648) ≤ l1) (t_l1 : l1 ≤ 2147483647) (b_l2 : 0 ≤ l2) (t_l2 : l2 ≤ 511) (b_l3 : 0 ≤ l3) (t_l3 : l3 ≤ 9) (hm : 9 - l3 < (n : Int)), sy_wp (mj_m_109, 4, [(0, .ref 0), (1, sy_i l1), (2, sy_i l2), (3, sy_i l3)], [], h) (dq1 h (0) (511) (dc_C_suspects_4 n (sy_rd h) l1 l2 l3)) := by
  intro n
  induction n with
  | zero =>
    intro h hH l1 l2 l3 b_l1 t_l1 b_l2 t_l2 b_l3 t_l3 hm
    exact absurd hm (by omega)
  | succ n ih =>
    intro h hH l1 l2 l3 b_l1 t_l1 b_l2 t_l2 b_l3 t_l3 hm
    rw [dc_C_suspects_4_s]
    refine sy_st (S' := (mj_m_109, 5, [(0, .ref 0), (1, sy_i l1), (2, sy_i l2), (3, sy_i l3)], [sy_i l3], h)) mj_d_109_4 (fun _ _ => rfl) ?_
    refine sy_st (S' := (mj_m_109, 6, [(0, .ref 0), (1, sy_i l1), (2, sy_i l2), (3, sy_i l3)], [.ref 0, sy_i l3], h)) mj_d_109_5 (fun _ _ => rfl) ?_
    refine sy_gr2 (b := 8) mj_d_109_6 rfl rfl (by decide) rfl rfl hH ?_
    refine sy_gf mj_d_109_9 rfl rfl (by decide) rfl hH ?_
    rintro _ rfl bx1 tx1
    refine sy_icm mj_d_109_12 rfl ⟨by omega, by omega⟩ ⟨by omega, by omega⟩ (fun (c2 : (sy_rd h 8 3) ≤ l3) => ?_) (fun (c2 : ¬ ((sy_rd h 8 3) ≤ l3)) => ?_)
    · skip
      rw [if_pos c2]
      refine sy_st (S' := (mj_m_109, 51, [(0, .ref 0), (1, sy_i l1), (2, sy_i l2), (3, sy_i l3)], [sy_i l2], h)) mj_d_109_50 (fun _ _ => rfl) ?_
      exact sy_reti mj_d_109_51 rfl ⟨rfl, rfl, by omega, by omega⟩
    · skip
      rw [if_neg c2]
      refine sy_st (S' := (mj_m_109, 16, [(0, .ref 0), (1, sy_i l1), (2, sy_i l2), (3, sy_i l3)], [.ref 0], h)) mj_d_109_15 (fun _ _ => rfl) ?_
      refine sy_gr2 (b := 217) mj_d_109_16 rfl rfl (by decide) rfl rfl hH ?_
      refine sy_st (S' := (mj_m_109, 20, [(0, .ref 0), (1, sy_i l1), (2, sy_i l2), (3, sy_i l3)], [sy_i l1, .ref 217], h)) mj_d_109_19 (fun _ _ => rfl) ?_
      refine sy_st (S' := (mj_m_109, 21, [(0, .ref 0), (1, sy_i l1), (2, sy_i l2), (3, sy_i l3)], [.ref 0, sy_i l1, .ref 217], h)) mj_d_109_20 (fun _ _ => rfl) ?_
      refine sy_gr2 (b := 13) mj_d_109_21 rfl rfl (by decide) rfl rfl hH ?_
      refine sy_st (S' := (mj_m_109, 25, [(0, .ref 0), (1, sy_i l1), (2, sy_i l2), (3, sy_i l3)], [sy_i l3, .ref 13, sy_i l1, .ref 217], h)) mj_d_109_24 (fun _ _ => rfl) ?_
      refine sy_st (S' := (mj_m_109, 26, [(0, .ref 0), (1, sy_i l1), (2, sy_i l2), (3, sy_i l3)], [.ref 0, sy_i l3, .ref 13, sy_i l1, .ref 217], h)) mj_d_109_25 (fun _ _ => rfl) ?_
      refine sy_gr2 (b := 8) mj_d_109_26 rfl rfl (by decide) rfl rfl hH ?_
      refine sy_cv (M' := mj_m_83) (vs := [.ref 13, sy_i l3, .ref 8]) (rest := [sy_i l1, .ref 217]) mj_d_109_29 rfl rfl rfl rfl hH rfl rfl ⟨by decide, ⟨Nat.le_of_ble_eq_true rfl, Nat.le_of_ble_eq_true rfl, Nat.le_of_ble_eq_true rfl, Nat.le_of_ble_eq_true rfl, Nat.le_of_ble_eq_true rfl⟩⟩ (dt_St_reach (a1 := l3) hH (by omega) (by omega)) ?_
      rintro _ _ ⟨rfl, rfl, b3, b3t⟩
      show sy_wp (mj_m_109, 32, [(0, .ref 0), (1, sy_i l1), (2, sy_i l2), (3, sy_i l3)], [sy_i (dc_St_reach (sy_rd h) l3), sy_i l1, .ref 217], h) _
      refine sy_cv (M' := mj_m_110) (vs := [.ref 217, sy_i l1, sy_i (dc_St_reach (sy_rd h) l3)]) (rest := []) mj_d_109_32 rfl rfl rfl rfl hH rfl rfl ⟨by decide, ⟨Nat.le_of_ble_eq_true rfl, Nat.le_of_ble_eq_true rfl, Nat.le_of_ble_eq_true rfl, Nat.le_of_ble_eq_true rfl, Nat.le_of_ble_eq_true rfl⟩⟩ (dt_Sights_allow (a1 := l1) (a2 := (dc_St_reach (sy_rd h) l3)) hH (by omega) (by omega) (by omega) (by omega)) ?_
      rintro _ _ ⟨rfl, rfl, b4, b4t⟩
      show sy_wp (mj_m_109, 35, [(0, .ref 0), (1, sy_i l1), (2, sy_i l2), (3, sy_i l3)], [sy_i (dc_Sights_allow (sy_rd h) l1 (dc_St_reach (sy_rd h) l3))], h) _
      refine sy_ifc mj_d_109_35 rfl ⟨by omega, by omega⟩ (fun (c5 : (dc_Sights_allow (sy_rd h) l1 (dc_St_reach (sy_rd h) l3)) = 0) => ?_) (fun (c5 : ¬ ((dc_Sights_allow (sy_rd h) l1 (dc_St_reach (sy_rd h) l3)) = 0)) => ?_)
      · skip
        rw [if_pos c5]
        refine sy_inc (a := l3) (lv' := [(3, sy_i (l3 + 1)), (0, .ref 0), (1, sy_i l1), (2, sy_i l2)]) mj_d_109_44 (Nat.le_of_ble_eq_true rfl) rfl rfl ?_
        refine sy_st (S' := (mj_m_109, 4, [(3, sy_i (l3 + 1)), (0, .ref 0), (1, sy_i l1), (2, sy_i l2)], [], h)) mj_d_109_47 (fun _ _ => rfl) ?_
        refine sy_lv (lv := [(0, .ref 0), (1, sy_i l1), (2, sy_i l2), (3, sy_i (l3 + 1))]) rfl ⟨rfl, rfl, rfl, rfl, trivial⟩ ?_
        exact ih hH (by first | omega | assumption) (by first | omega | assumption) (by first | omega | assumption) (by first | omega | assumption) (by first | omega | assumption) (by first | omega | assumption) (by omega)
      · skip
        rw [if_neg c5]
        refine sy_st (S' := (mj_m_109, 39, [(0, .ref 0), (1, sy_i l1), (2, sy_i l2), (3, sy_i l3)], [sy_i l2], h)) mj_d_109_38 (fun _ _ => rfl) ?_
        refine sy_st (S' := (mj_m_109, 40, [(0, .ref 0), (1, sy_i l1), (2, sy_i l2), (3, sy_i l3)], [sy_i 1, sy_i l2], h)) mj_d_109_39 (fun _ _ => rfl) ?_
        refine sy_st (S' := (mj_m_109, 41, [(0, .ref 0), (1, sy_i l1), (2, sy_i l2), (3, sy_i l3)], [sy_i l3, sy_i 1, sy_i l2], h)) mj_d_109_40 (fun _ _ => rfl) ?_
        refine sy_ishl mj_d_109_41 ?_
        have q6 := sg_shl_f 1 l3
        refine sy_ior mj_d_109_42 ?_
        have q7 := sg_or_f l2 (sy_shl 1 l3)
        refine sy_st (S' := (mj_m_109, 44, [(2, sy_i (sy_or l2 (sy_shl 1 l3))), (0, .ref 0), (1, sy_i l1), (3, sy_i l3)], [], h)) mj_d_109_43 (fun _ _ => rfl) ?_
        refine sy_inc (a := l3) (lv' := [(3, sy_i (l3 + 1)), (2, sy_i (sy_or l2 (sy_shl 1 l3))), (0, .ref 0), (1, sy_i l1)]) mj_d_109_44 (Nat.le_of_ble_eq_true rfl) rfl rfl ?_
        refine sy_st (S' := (mj_m_109, 4, [(3, sy_i (l3 + 1)), (2, sy_i (sy_or l2 (sy_shl 1 l3))), (0, .ref 0), (1, sy_i l1)], [], h)) mj_d_109_47 (fun _ _ => rfl) ?_
        refine sy_lv (lv := [(0, .ref 0), (1, sy_i l1), (2, sy_i (sy_or l2 (sy_shl 1 l3))), (3, sy_i (l3 + 1))]) rfl ⟨rfl, rfl, rfl, rfl, trivial⟩ ?_
        exact ih hH (by first | omega | assumption) (by first | omega | assumption) (by first | omega | assumption) (by first | omega | assumption) (by first | omega | assumption) (by first | omega | assumption) (by omega)
set_option maxRecDepth 100000 in
theorem dt_C_suspects {h : mj_H} (hH : sy_H h) {a1 : Int} (b_a1 : (-2147483648) ≤ a1) (t_a1 : a1 ≤ 2147483647) : sy_wp (mj_m_109, 0, [(0, .ref 0), (1, sy_i a1)], [], h) (dq1 h (0) (511) (dc_C_suspects (sy_rd h) a1)) := by
  unfold dc_C_suspects
  refine sy_st (S' := (mj_m_109, 1, [(0, .ref 0), (1, sy_i a1)], [sy_i 0], h)) mj_d_109_0 (fun _ _ => rfl) ?_
  refine sy_st (S' := (mj_m_109, 2, [(2, sy_i 0), (0, .ref 0), (1, sy_i a1)], [], h)) mj_d_109_1 (fun _ _ => rfl) ?_
  refine sy_st (S' := (mj_m_109, 3, [(2, sy_i 0), (0, .ref 0), (1, sy_i a1)], [sy_i 0], h)) mj_d_109_2 (fun _ _ => rfl) ?_
  refine sy_st (S' := (mj_m_109, 4, [(3, sy_i 0), (2, sy_i 0), (0, .ref 0), (1, sy_i a1)], [], h)) mj_d_109_3 (fun _ _ => rfl) ?_
  refine sy_lv (lv := [(0, .ref 0), (1, sy_i a1), (2, sy_i 0), (3, sy_i 0)]) rfl ⟨rfl, rfl, rfl, rfl, trivial⟩ ?_
  exact dt_C_suspects_4 10 hH (by first | omega | assumption) (by first | omega | assumption) (by first | omega | assumption) (by first | omega | assumption) (by first | omega | assumption) (by first | omega | assumption) (by omega)
def dc_C_howManyReach_5 (n : Nat) : sg_S → Int → Int → Int → Int → Int := Nat.rec (fun (s : sg_S) l1 l2 l3 l4 => 0) (fun _ ih => fun s l1 l2 l3 l4 => (if (s 8 3) ≤ l4 then l3 else (if (sy_and (sy_shr l2 l4) 1) = 1 then (ih s l1 l2 (l3 + (sy_and (sy_shr (dc_St_reach s l4) l1) 1)) (l4 + 1)) else (ih s l1 l2 l3 (l4 + 1))))) n
theorem dc_C_howManyReach_5_s (n : Nat) (s : sg_S) (l1 l2 l3 l4 : Int) : dc_C_howManyReach_5 (n + 1) s l1 l2 l3 l4 = (if (s 8 3) ≤ l4 then l3 else (if (sy_and (sy_shr l2 l4) 1) = 1 then ((dc_C_howManyReach_5 n) s l1 l2 (l3 + (sy_and (sy_shr (dc_St_reach s l4) l1) 1)) (l4 + 1)) else ((dc_C_howManyReach_5 n) s l1 l2 l3 (l4 + 1)))) := rfl
def dc_C_howManyReach (s : sg_S) (a1 a2 : Int) : Int := (dc_C_howManyReach_5 10 s a1 a2 0 0)
set_option maxRecDepth 100000 in
theorem dt_C_howManyReach_5 : ∀ (n : Nat) {h : mj_H} (hH : sy_H h) {l1 l2 l3 l4 : Int} (b_l1 : 0 ≤ l1) (t_l1 : l1 ≤ 8) (b_l2 : (-2147483648) ≤ l2) (t_l2 : l2 ≤ 2147483647) (b_l3 : 0 ≤ l3) (t_l3 : l3 ≤ 9) (b_l4 : 0 ≤ l4) (t_l4 : l4 ≤ 9) (i0 : l3 ≤ l4) (hm : 9 - l4 < (n : Int)), sy_wp (mj_m_112, 5, [(0, .ref 0), (1, sy_i l1), (2, sy_i l2), (3, sy_i l3), (4, sy_i l4)], [], h) (dq1 h (0) (9) (dc_C_howManyReach_5 n (sy_rd h) l1 l2 l3 l4)) := by
  intro n
  induction n with
  | zero =>
    intro h hH l1 l2 l3 l4 b_l1 t_l1 b_l2 t_l2 b_l3 t_l3 b_l4 t_l4 i0 hm
    exact absurd hm (by omega)
  | succ n ih =>
    intro h hH l1 l2 l3 l4 b_l1 t_l1 b_l2 t_l2 b_l3 t_l3 b_l4 t_l4 i0 hm
    rw [dc_C_howManyReach_5_s]
    refine sy_st (S' := (mj_m_112, 7, [(0, .ref 0), (1, sy_i l1), (2, sy_i l2), (3, sy_i l3), (4, sy_i l4)], [sy_i l4], h)) mj_d_112_5 (fun _ _ => rfl) ?_
    refine sy_st (S' := (mj_m_112, 8, [(0, .ref 0), (1, sy_i l1), (2, sy_i l2), (3, sy_i l3), (4, sy_i l4)], [.ref 0, sy_i l4], h)) mj_d_112_7 (fun _ _ => rfl) ?_
    refine sy_gr2 (b := 8) mj_d_112_8 rfl rfl (by decide) rfl rfl hH ?_
    refine sy_gf mj_d_112_11 rfl rfl (by decide) rfl hH ?_
    rintro _ rfl bx1 tx1
    refine sy_icm mj_d_112_14 rfl ⟨by omega, by omega⟩ ⟨by omega, by omega⟩ (fun (c2 : (sy_rd h 8 3) ≤ l4) => ?_) (fun (c2 : ¬ ((sy_rd h 8 3) ≤ l4)) => ?_)
    · skip
      rw [if_pos c2]
      refine sy_st (S' := (mj_m_112, 54, [(0, .ref 0), (1, sy_i l1), (2, sy_i l2), (3, sy_i l3), (4, sy_i l4)], [sy_i l3], h)) mj_d_112_53 (fun _ _ => rfl) ?_
      exact sy_reti mj_d_112_54 rfl ⟨rfl, rfl, by omega, by omega⟩
    · skip
      rw [if_neg c2]
      refine sy_st (S' := (mj_m_112, 18, [(0, .ref 0), (1, sy_i l1), (2, sy_i l2), (3, sy_i l3), (4, sy_i l4)], [sy_i l2], h)) mj_d_112_17 (fun _ _ => rfl) ?_
      refine sy_st (S' := (mj_m_112, 20, [(0, .ref 0), (1, sy_i l1), (2, sy_i l2), (3, sy_i l3), (4, sy_i l4)], [sy_i l4, sy_i l2], h)) mj_d_112_18 (fun _ _ => rfl) ?_
      refine sy_ishr mj_d_112_20 ?_
      have q3 := sg_shr_f l2 l4
      refine sy_st (S' := (mj_m_112, 22, [(0, .ref 0), (1, sy_i l1), (2, sy_i l2), (3, sy_i l3), (4, sy_i l4)], [sy_i 1, sy_i (sy_shr l2 l4)], h)) mj_d_112_21 (fun _ _ => rfl) ?_
      refine sy_iand mj_d_112_22 ?_
      have q4 := sg_and_f (sy_shr l2 l4) 1
      refine sy_st (S' := (mj_m_112, 24, [(0, .ref 0), (1, sy_i l1), (2, sy_i l2), (3, sy_i l3), (4, sy_i l4)], [sy_i 1, sy_i (sy_and (sy_shr l2 l4) 1)], h)) mj_d_112_23 (fun _ _ => rfl) ?_
      refine sy_icm mj_d_112_24 rfl ⟨by omega, by omega⟩ ⟨by omega, by omega⟩ (fun (c5 : ¬ ((sy_and (sy_shr l2 l4) 1) = 1)) => ?_) (fun (c5 : ¬ ¬ ((sy_and (sy_shr l2 l4) 1) = 1)) => ?_)
      · skip
        rw [if_neg c5]
        refine sy_inc (a := l4) (lv' := [(4, sy_i (l4 + 1)), (0, .ref 0), (1, sy_i l1), (2, sy_i l2), (3, sy_i l3)]) mj_d_112_47 (Nat.le_of_ble_eq_true rfl) rfl rfl ?_
        refine sy_st (S' := (mj_m_112, 5, [(4, sy_i (l4 + 1)), (0, .ref 0), (1, sy_i l1), (2, sy_i l2), (3, sy_i l3)], [], h)) mj_d_112_50 (fun _ _ => rfl) ?_
        refine sy_lv (lv := [(0, .ref 0), (1, sy_i l1), (2, sy_i l2), (3, sy_i l3), (4, sy_i (l4 + 1))]) rfl ⟨rfl, rfl, rfl, rfl, rfl, trivial⟩ ?_
        exact ih hH (by first | omega | assumption) (by first | omega | assumption) (by first | omega | assumption) (by first | omega | assumption) (by first | omega | assumption) (by first | omega | assumption) (by first | omega | assumption) (by first | omega | assumption) (by first | omega | assumption) (by omega)
      · skip
        rw [if_pos (Decidable.not_not.mp c5)]
        replace c5 := Decidable.not_not.mp c5
        refine sy_st (S' := (mj_m_112, 28, [(0, .ref 0), (1, sy_i l1), (2, sy_i l2), (3, sy_i l3), (4, sy_i l4)], [sy_i l3], h)) mj_d_112_27 (fun _ _ => rfl) ?_
        refine sy_st (S' := (mj_m_112, 29, [(0, .ref 0), (1, sy_i l1), (2, sy_i l2), (3, sy_i l3), (4, sy_i l4)], [.ref 0, sy_i l3], h)) mj_d_112_28 (fun _ _ => rfl) ?_
        refine sy_gr2 (b := 13) mj_d_112_29 rfl rfl (by decide) rfl rfl hH ?_
        refine sy_st (S' := (mj_m_112, 34, [(0, .ref 0), (1, sy_i l1), (2, sy_i l2), (3, sy_i l3), (4, sy_i l4)], [sy_i l4, .ref 13, sy_i l3], h)) mj_d_112_32 (fun _ _ => rfl) ?_
        refine sy_st (S' := (mj_m_112, 35, [(0, .ref 0), (1, sy_i l1), (2, sy_i l2), (3, sy_i l3), (4, sy_i l4)], [.ref 0, sy_i l4, .ref 13, sy_i l3], h)) mj_d_112_34 (fun _ _ => rfl) ?_
        refine sy_gr2 (b := 8) mj_d_112_35 rfl rfl (by decide) rfl rfl hH ?_
        refine sy_cv (M' := mj_m_83) (vs := [.ref 13, sy_i l4, .ref 8]) (rest := [sy_i l3]) mj_d_112_38 rfl rfl rfl rfl hH rfl rfl ⟨by decide, ⟨Nat.le_of_ble_eq_true rfl, Nat.le_of_ble_eq_true rfl, Nat.le_of_ble_eq_true rfl, Nat.le_of_ble_eq_true rfl, Nat.le_of_ble_eq_true rfl⟩⟩ (dt_St_reach (a1 := l4) hH (by omega) (by omega)) ?_
        rintro _ _ ⟨rfl, rfl, b6, b6t⟩
        show sy_wp (mj_m_112, 41, [(0, .ref 0), (1, sy_i l1), (2, sy_i l2), (3, sy_i l3), (4, sy_i l4)], [sy_i (dc_St_reach (sy_rd h) l4), sy_i l3], h) _
        refine sy_st (S' := (mj_m_112, 42, [(0, .ref 0), (1, sy_i l1), (2, sy_i l2), (3, sy_i l3), (4, sy_i l4)], [sy_i l1, sy_i (dc_St_reach (sy_rd h) l4), sy_i l3], h)) mj_d_112_41 (fun _ _ => rfl) ?_
        refine sy_ishr mj_d_112_42 ?_
        have q7 := sg_shr_f (dc_St_reach (sy_rd h) l4) l1
        refine sy_st (S' := (mj_m_112, 44, [(0, .ref 0), (1, sy_i l1), (2, sy_i l2), (3, sy_i l3), (4, sy_i l4)], [sy_i 1, sy_i (sy_shr (dc_St_reach (sy_rd h) l4) l1), sy_i l3], h)) mj_d_112_43 (fun _ _ => rfl) ?_
        refine sy_iand mj_d_112_44 ?_
        have q8 := sg_and_f (sy_shr (dc_St_reach (sy_rd h) l4) l1) 1
        refine sy_add mj_d_112_45 ?_
        refine sy_st (S' := (mj_m_112, 47, [(3, sy_i (l3 + (sy_and (sy_shr (dc_St_reach (sy_rd h) l4) l1) 1))), (0, .ref 0), (1, sy_i l1), (2, sy_i l2), (4, sy_i l4)], [], h)) mj_d_112_46 (fun _ _ => rfl) ?_
        refine sy_inc (a := l4) (lv' := [(4, sy_i (l4 + 1)), (3, sy_i (l3 + (sy_and (sy_shr (dc_St_reach (sy_rd h) l4) l1) 1))), (0, .ref 0), (1, sy_i l1), (2, sy_i l2)]) mj_d_112_47 (Nat.le_of_ble_eq_true rfl) rfl rfl ?_
        refine sy_st (S' := (mj_m_112, 5, [(4, sy_i (l4 + 1)), (3, sy_i (l3 + (sy_and (sy_shr (dc_St_reach (sy_rd h) l4) l1) 1))), (0, .ref 0), (1, sy_i l1), (2, sy_i l2)], [], h)) mj_d_112_50 (fun _ _ => rfl) ?_
        refine sy_lv (lv := [(0, .ref 0), (1, sy_i l1), (2, sy_i l2), (3, sy_i (l3 + (sy_and (sy_shr (dc_St_reach (sy_rd h) l4) l1) 1))), (4, sy_i (l4 + 1))]) rfl ⟨rfl, rfl, rfl, rfl, rfl, trivial⟩ ?_
        exact ih hH (by first | omega | assumption) (by first | omega | assumption) (by first | omega | assumption) (by first | omega | assumption) (by first | omega | assumption) (by first | omega | assumption) (by first | omega | assumption) (by first | omega | assumption) (by first | omega | assumption) (by omega)
set_option maxRecDepth 100000 in
theorem dt_C_howManyReach {h : mj_H} (hH : sy_H h) {a1 a2 : Int} (b_a1 : 0 ≤ a1) (t_a1 : a1 ≤ 8) (b_a2 : (-2147483648) ≤ a2) (t_a2 : a2 ≤ 2147483647) : sy_wp (mj_m_112, 0, [(0, .ref 0), (1, sy_i a1), (2, sy_i a2)], [], h) (dq1 h (0) (9) (dc_C_howManyReach (sy_rd h) a1 a2)) := by
  unfold dc_C_howManyReach
  refine sy_st (S' := (mj_m_112, 1, [(0, .ref 0), (1, sy_i a1), (2, sy_i a2)], [sy_i 0], h)) mj_d_112_0 (fun _ _ => rfl) ?_
  refine sy_st (S' := (mj_m_112, 2, [(3, sy_i 0), (0, .ref 0), (1, sy_i a1), (2, sy_i a2)], [], h)) mj_d_112_1 (fun _ _ => rfl) ?_
  refine sy_st (S' := (mj_m_112, 3, [(3, sy_i 0), (0, .ref 0), (1, sy_i a1), (2, sy_i a2)], [sy_i 0], h)) mj_d_112_2 (fun _ _ => rfl) ?_
  refine sy_st (S' := (mj_m_112, 5, [(4, sy_i 0), (3, sy_i 0), (0, .ref 0), (1, sy_i a1), (2, sy_i a2)], [], h)) mj_d_112_3 (fun _ _ => rfl) ?_
  refine sy_lv (lv := [(0, .ref 0), (1, sy_i a1), (2, sy_i a2), (3, sy_i 0), (4, sy_i 0)]) rfl ⟨rfl, rfl, rfl, rfl, rfl, trivial⟩ ?_
  exact dt_C_howManyReach_5 10 hH (by first | omega | assumption) (by first | omega | assumption) (by first | omega | assumption) (by first | omega | assumption) (by first | omega | assumption) (by first | omega | assumption) (by first | omega | assumption) (by first | omega | assumption) (by first | omega | assumption) (by omega)
def dc_C_partingFlue_13 (n : Nat) : sg_S → Int → Int → Int → Int → Int → Int := Nat.rec (fun (s : sg_S) l1 l2 l3 l4 l5 => 0) (fun _ ih => fun s l1 l2 l3 l4 l5 => (if (s 8 3) ≤ l5 then l3 else (if l4 ≤ (max (dc_C_howManyReach s l5 l1) (l2 - (dc_C_howManyReach s l5 l1))) then (ih s l1 l2 l3 l4 (l5 + 1)) else (ih s l1 l2 l5 (max (dc_C_howManyReach s l5 l1) (l2 - (dc_C_howManyReach s l5 l1))) (l5 + 1))))) n
theorem dc_C_partingFlue_13_s (n : Nat) (s : sg_S) (l1 l2 l3 l4 l5 : Int) : dc_C_partingFlue_13 (n + 1) s l1 l2 l3 l4 l5 = (if (s 8 3) ≤ l5 then l3 else (if l4 ≤ (max (dc_C_howManyReach s l5 l1) (l2 - (dc_C_howManyReach s l5 l1))) then ((dc_C_partingFlue_13 n) s l1 l2 l3 l4 (l5 + 1)) else ((dc_C_partingFlue_13 n) s l1 l2 l5 (max (dc_C_howManyReach s l5 l1) (l2 - (dc_C_howManyReach s l5 l1))) (l5 + 1)))) := rfl
def dc_C_partingFlue (s : sg_S) (a1 : Int) : Int := (dc_C_partingFlue_13 10 s a1 (dc_Integer_bitCount s a1) (-1) (dc_Integer_bitCount s a1) 0)
set_option maxRecDepth 100000 in
theorem dt_C_partingFlue_13 : ∀ (n : Nat) {h : mj_H} (hH : sy_H h) {l1 l2 l3 l4 l5 : Int} (b_l1 : (-2147483648) ≤ l1) (t_l1 : l1 ≤ 2147483647) (b_l2 : 0 ≤ l2) (t_l2 : l2 ≤ 63) (b_l3 : (-1) ≤ l3) (t_l3 : l3 ≤ 8) (b_l4 : (-2147483648) ≤ l4) (t_l4 : l4 ≤ 2147483647) (b_l5 : 0 ≤ l5) (t_l5 : l5 ≤ 9) (hm : 9 - l5 < (n : Int)), sy_wp (mj_m_111, 13, [(0, .ref 0), (1, sy_i l1), (2, sy_i l2), (3, sy_i l3), (4, sy_i l4), (5, sy_i l5)], [], h) (dq1 h (-1) (8) (dc_C_partingFlue_13 n (sy_rd h) l1 l2 l3 l4 l5)) := by
  intro n
  induction n with
  | zero =>
    intro h hH l1 l2 l3 l4 l5 b_l1 t_l1 b_l2 t_l2 b_l3 t_l3 b_l4 t_l4 b_l5 t_l5 hm
    exact absurd hm (by omega)
  | succ n ih =>
    intro h hH l1 l2 l3 l4 l5 b_l1 t_l1 b_l2 t_l2 b_l3 t_l3 b_l4 t_l4 b_l5 t_l5 hm
    rw [dc_C_partingFlue_13_s]
    refine sy_st (S' := (mj_m_111, 15, [(0, .ref 0), (1, sy_i l1), (2, sy_i l2), (3, sy_i l3), (4, sy_i l4), (5, sy_i l5)], [sy_i l5], h)) mj_d_111_13 (fun _ _ => rfl) ?_
    refine sy_st (S' := (mj_m_111, 16, [(0, .ref 0), (1, sy_i l1), (2, sy_i l2), (3, sy_i l3), (4, sy_i l4), (5, sy_i l5)], [.ref 0, sy_i l5], h)) mj_d_111_15 (fun _ _ => rfl) ?_
    refine sy_gr2 (b := 8) mj_d_111_16 rfl rfl (by decide) rfl rfl hH ?_
    refine sy_gf mj_d_111_19 rfl rfl (by decide) rfl hH ?_
    rintro _ rfl bx1 tx1
    refine sy_icm mj_d_111_22 rfl ⟨by omega, by omega⟩ ⟨by omega, by omega⟩ (fun (c2 : (sy_rd h 8 3) ≤ l5) => ?_) (fun (c2 : ¬ ((sy_rd h 8 3) ≤ l5)) => ?_)
    · skip
      rw [if_pos c2]
      refine sy_st (S' := (mj_m_111, 66, [(0, .ref 0), (1, sy_i l1), (2, sy_i l2), (3, sy_i l3), (4, sy_i l4), (5, sy_i l5)], [sy_i l3], h)) mj_d_111_65 (fun _ _ => rfl) ?_
      exact sy_reti mj_d_111_66 rfl ⟨rfl, rfl, by omega, by omega⟩
    · skip
      rw [if_neg c2]
      refine sy_st (S' := (mj_m_111, 26, [(0, .ref 0), (1, sy_i l1), (2, sy_i l2), (3, sy_i l3), (4, sy_i l4), (5, sy_i l5)], [.ref 0], h)) mj_d_111_25 (fun _ _ => rfl) ?_
      refine sy_st (S' := (mj_m_111, 28, [(0, .ref 0), (1, sy_i l1), (2, sy_i l2), (3, sy_i l3), (4, sy_i l4), (5, sy_i l5)], [sy_i l5, .ref 0], h)) mj_d_111_26 (fun _ _ => rfl) ?_
      refine sy_st (S' := (mj_m_111, 29, [(0, .ref 0), (1, sy_i l1), (2, sy_i l2), (3, sy_i l3), (4, sy_i l4), (5, sy_i l5)], [sy_i l1, sy_i l5, .ref 0], h)) mj_d_111_28 (fun _ _ => rfl) ?_
      refine sy_cv (M' := mj_m_112) (vs := [.ref 0, sy_i l5, sy_i l1]) (rest := []) mj_d_111_29 rfl rfl rfl rfl hH rfl rfl ⟨by decide, ⟨Nat.le_of_ble_eq_true rfl, Nat.le_of_ble_eq_true rfl, Nat.le_of_ble_eq_true rfl, Nat.le_of_ble_eq_true rfl, Nat.le_of_ble_eq_true rfl⟩⟩ (dt_C_howManyReach (a1 := l5) (a2 := l1) hH (by omega) (by omega) (by omega) (by omega)) ?_
      rintro _ _ ⟨rfl, rfl, b3, b3t⟩
      show sy_wp (mj_m_111, 32, [(0, .ref 0), (1, sy_i l1), (2, sy_i l2), (3, sy_i l3), (4, sy_i l4), (5, sy_i l5)], [sy_i (dc_C_howManyReach (sy_rd h) l5 l1)], h) _
      refine sy_st (S' := (mj_m_111, 34, [(6, sy_i (dc_C_howManyReach (sy_rd h) l5 l1)), (0, .ref 0), (1, sy_i l1), (2, sy_i l2), (3, sy_i l3), (4, sy_i l4), (5, sy_i l5)], [], h)) mj_d_111_32 (fun _ _ => rfl) ?_
      refine sy_st (S' := (mj_m_111, 36, [(6, sy_i (dc_C_howManyReach (sy_rd h) l5 l1)), (0, .ref 0), (1, sy_i l1), (2, sy_i l2), (3, sy_i l3), (4, sy_i l4), (5, sy_i l5)], [sy_i (dc_C_howManyReach (sy_rd h) l5 l1)], h)) mj_d_111_34 (fun _ _ => rfl) ?_
      refine sy_st (S' := (mj_m_111, 37, [(6, sy_i (dc_C_howManyReach (sy_rd h) l5 l1)), (0, .ref 0), (1, sy_i l1), (2, sy_i l2), (3, sy_i l3), (4, sy_i l4), (5, sy_i l5)], [sy_i l2, sy_i (dc_C_howManyReach (sy_rd h) l5 l1)], h)) mj_d_111_36 (fun _ _ => rfl) ?_
      refine sy_st (S' := (mj_m_111, 39, [(6, sy_i (dc_C_howManyReach (sy_rd h) l5 l1)), (0, .ref 0), (1, sy_i l1), (2, sy_i l2), (3, sy_i l3), (4, sy_i l4), (5, sy_i l5)], [sy_i (dc_C_howManyReach (sy_rd h) l5 l1), sy_i l2, sy_i (dc_C_howManyReach (sy_rd h) l5 l1)], h)) mj_d_111_37 (fun _ _ => rfl) ?_
      refine sy_sub mj_d_111_39 ?_
      refine sy_mx mj_d_111_40 rfl ⟨by decide, by decide⟩ ⟨by omega, by omega⟩ ⟨by omega, by omega⟩ ?_
      refine sy_st (S' := (mj_m_111, 45, [(7, sy_i (max (dc_C_howManyReach (sy_rd h) l5 l1) (l2 - (dc_C_howManyReach (sy_rd h) l5 l1)))), (6, sy_i (dc_C_howManyReach (sy_rd h) l5 l1)), (0, .ref 0), (1, sy_i l1), (2, sy_i l2), (3, sy_i l3), (4, sy_i l4), (5, sy_i l5)], [], h)) mj_d_111_43 (fun _ _ => rfl) ?_
      refine sy_st (S' := (mj_m_111, 47, [(7, sy_i (max (dc_C_howManyReach (sy_rd h) l5 l1) (l2 - (dc_C_howManyReach (sy_rd h) l5 l1)))), (6, sy_i (dc_C_howManyReach (sy_rd h) l5 l1)), (0, .ref 0), (1, sy_i l1), (2, sy_i l2), (3, sy_i l3), (4, sy_i l4), (5, sy_i l5)], [sy_i (max (dc_C_howManyReach (sy_rd h) l5 l1) (l2 - (dc_C_howManyReach (sy_rd h) l5 l1)))], h)) mj_d_111_45 (fun _ _ => rfl) ?_
      refine sy_st (S' := (mj_m_111, 49, [(7, sy_i (max (dc_C_howManyReach (sy_rd h) l5 l1) (l2 - (dc_C_howManyReach (sy_rd h) l5 l1)))), (6, sy_i (dc_C_howManyReach (sy_rd h) l5 l1)), (0, .ref 0), (1, sy_i l1), (2, sy_i l2), (3, sy_i l3), (4, sy_i l4), (5, sy_i l5)], [sy_i l4, sy_i (max (dc_C_howManyReach (sy_rd h) l5 l1) (l2 - (dc_C_howManyReach (sy_rd h) l5 l1)))], h)) mj_d_111_47 (fun _ _ => rfl) ?_
      refine sy_icm mj_d_111_49 rfl ⟨by omega, by omega⟩ ⟨by omega, by omega⟩ (fun (c4 : l4 ≤ (max (dc_C_howManyReach (sy_rd h) l5 l1) (l2 - (dc_C_howManyReach (sy_rd h) l5 l1)))) => ?_) (fun (c4 : ¬ (l4 ≤ (max (dc_C_howManyReach (sy_rd h) l5 l1) (l2 - (dc_C_howManyReach (sy_rd h) l5 l1))))) => ?_)
      · skip
        rw [if_pos c4]
        refine sy_inc (a := l5) (lv' := [(5, sy_i (l5 + 1)), (7, sy_i (max (dc_C_howManyReach (sy_rd h) l5 l1) (l2 - (dc_C_howManyReach (sy_rd h) l5 l1)))), (6, sy_i (dc_C_howManyReach (sy_rd h) l5 l1)), (0, .ref 0), (1, sy_i l1), (2, sy_i l2), (3, sy_i l3), (4, sy_i l4)]) mj_d_111_59 (Nat.le_of_ble_eq_true rfl) rfl rfl ?_
        refine sy_st (S' := (mj_m_111, 13, [(5, sy_i (l5 + 1)), (7, sy_i (max (dc_C_howManyReach (sy_rd h) l5 l1) (l2 - (dc_C_howManyReach (sy_rd h) l5 l1)))), (6, sy_i (dc_C_howManyReach (sy_rd h) l5 l1)), (0, .ref 0), (1, sy_i l1), (2, sy_i l2), (3, sy_i l3), (4, sy_i l4)], [], h)) mj_d_111_62 (fun _ _ => rfl) ?_
        refine sy_lv (lv := [(0, .ref 0), (1, sy_i l1), (2, sy_i l2), (3, sy_i l3), (4, sy_i l4), (5, sy_i (l5 + 1))]) rfl ⟨rfl, rfl, rfl, rfl, rfl, rfl, trivial⟩ ?_
        exact ih hH (by first | omega | assumption) (by first | omega | assumption) (by first | omega | assumption) (by first | omega | assumption) (by first | omega | assumption) (by first | omega | assumption) (by first | omega | assumption) (by first | omega | assumption) (by first | omega | assumption) (by first | omega | assumption) (by omega)
      · skip
        rw [if_neg c4]
        refine sy_st (S' := (mj_m_111, 54, [(7, sy_i (max (dc_C_howManyReach (sy_rd h) l5 l1) (l2 - (dc_C_howManyReach (sy_rd h) l5 l1)))), (6, sy_i (dc_C_howManyReach (sy_rd h) l5 l1)), (0, .ref 0), (1, sy_i l1), (2, sy_i l2), (3, sy_i l3), (4, sy_i l4), (5, sy_i l5)], [sy_i (max (dc_C_howManyReach (sy_rd h) l5 l1) (l2 - (dc_C_howManyReach (sy_rd h) l5 l1)))], h)) mj_d_111_52 (fun _ _ => rfl) ?_
        refine sy_st (S' := (mj_m_111, 56, [(4, sy_i (max (dc_C_howManyReach (sy_rd h) l5 l1) (l2 - (dc_C_howManyReach (sy_rd h) l5 l1)))), (7, sy_i (max (dc_C_howManyReach (sy_rd h) l5 l1) (l2 - (dc_C_howManyReach (sy_rd h) l5 l1)))), (6, sy_i (dc_C_howManyReach (sy_rd h) l5 l1)), (0, .ref 0), (1, sy_i l1), (2, sy_i l2), (3, sy_i l3), (5, sy_i l5)], [], h)) mj_d_111_54 (fun _ _ => rfl) ?_
        refine sy_st (S' := (mj_m_111, 58, [(4, sy_i (max (dc_C_howManyReach (sy_rd h) l5 l1) (l2 - (dc_C_howManyReach (sy_rd h) l5 l1)))), (7, sy_i (max (dc_C_howManyReach (sy_rd h) l5 l1) (l2 - (dc_C_howManyReach (sy_rd h) l5 l1)))), (6, sy_i (dc_C_howManyReach (sy_rd h) l5 l1)), (0, .ref 0), (1, sy_i l1), (2, sy_i l2), (3, sy_i l3), (5, sy_i l5)], [sy_i l5], h)) mj_d_111_56 (fun _ _ => rfl) ?_
        refine sy_st (S' := (mj_m_111, 59, [(3, sy_i l5), (4, sy_i (max (dc_C_howManyReach (sy_rd h) l5 l1) (l2 - (dc_C_howManyReach (sy_rd h) l5 l1)))), (7, sy_i (max (dc_C_howManyReach (sy_rd h) l5 l1) (l2 - (dc_C_howManyReach (sy_rd h) l5 l1)))), (6, sy_i (dc_C_howManyReach (sy_rd h) l5 l1)), (0, .ref 0), (1, sy_i l1), (2, sy_i l2), (5, sy_i l5)], [], h)) mj_d_111_58 (fun _ _ => rfl) ?_
        refine sy_inc (a := l5) (lv' := [(5, sy_i (l5 + 1)), (3, sy_i l5), (4, sy_i (max (dc_C_howManyReach (sy_rd h) l5 l1) (l2 - (dc_C_howManyReach (sy_rd h) l5 l1)))), (7, sy_i (max (dc_C_howManyReach (sy_rd h) l5 l1) (l2 - (dc_C_howManyReach (sy_rd h) l5 l1)))), (6, sy_i (dc_C_howManyReach (sy_rd h) l5 l1)), (0, .ref 0), (1, sy_i l1), (2, sy_i l2)]) mj_d_111_59 (Nat.le_of_ble_eq_true rfl) rfl rfl ?_
        refine sy_st (S' := (mj_m_111, 13, [(5, sy_i (l5 + 1)), (3, sy_i l5), (4, sy_i (max (dc_C_howManyReach (sy_rd h) l5 l1) (l2 - (dc_C_howManyReach (sy_rd h) l5 l1)))), (7, sy_i (max (dc_C_howManyReach (sy_rd h) l5 l1) (l2 - (dc_C_howManyReach (sy_rd h) l5 l1)))), (6, sy_i (dc_C_howManyReach (sy_rd h) l5 l1)), (0, .ref 0), (1, sy_i l1), (2, sy_i l2)], [], h)) mj_d_111_62 (fun _ _ => rfl) ?_
        refine sy_lv (lv := [(0, .ref 0), (1, sy_i l1), (2, sy_i l2), (3, sy_i l5), (4, sy_i (max (dc_C_howManyReach (sy_rd h) l5 l1) (l2 - (dc_C_howManyReach (sy_rd h) l5 l1)))), (5, sy_i (l5 + 1))]) rfl ⟨rfl, rfl, rfl, rfl, rfl, rfl, trivial⟩ ?_
        exact ih hH (by first | omega | assumption) (by first | omega | assumption) (by first | omega | assumption) (by first | omega | assumption) (by first | omega | assumption) (by first | omega | assumption) (by first | omega | assumption) (by first | omega | assumption) (by first | omega | assumption) (by first | omega | assumption) (by omega)
set_option maxRecDepth 100000 in
theorem dt_C_partingFlue {h : mj_H} (hH : sy_H h) {a1 : Int} (b_a1 : (-2147483648) ≤ a1) (t_a1 : a1 ≤ 2147483647) : sy_wp (mj_m_111, 0, [(0, .ref 0), (1, sy_i a1)], [], h) (dq1 h (-1) (8) (dc_C_partingFlue (sy_rd h) a1)) := by
  unfold dc_C_partingFlue
  refine sy_st (S' := (mj_m_111, 1, [(0, .ref 0), (1, sy_i a1)], [sy_i a1], h)) mj_d_111_0 (fun _ _ => rfl) ?_
  refine sy_cs (M' := mj_m_91) (vs := [sy_i a1]) (rest := []) mj_d_111_1 rfl rfl rfl rfl ⟨Nat.le_of_ble_eq_true rfl, Nat.le_of_ble_eq_true rfl, Nat.le_of_ble_eq_true rfl, Nat.le_of_ble_eq_true rfl, Nat.le_of_ble_eq_true rfl⟩ (dt_Integer_bitCount (a0 := a1) hH (by omega) (by omega)) ?_
  rintro _ _ ⟨rfl, rfl, b1, b1t⟩
  show sy_wp (mj_m_111, 4, [(0, .ref 0), (1, sy_i a1)], [sy_i (dc_Integer_bitCount (sy_rd h) a1)], h) _
  refine sy_st (S' := (mj_m_111, 5, [(2, sy_i (dc_Integer_bitCount (sy_rd h) a1)), (0, .ref 0), (1, sy_i a1)], [], h)) mj_d_111_4 (fun _ _ => rfl) ?_
  refine sy_st (S' := (mj_m_111, 6, [(2, sy_i (dc_Integer_bitCount (sy_rd h) a1)), (0, .ref 0), (1, sy_i a1)], [sy_i (-1)], h)) mj_d_111_5 (fun _ _ => rfl) ?_
  refine sy_st (S' := (mj_m_111, 7, [(3, sy_i (-1)), (2, sy_i (dc_Integer_bitCount (sy_rd h) a1)), (0, .ref 0), (1, sy_i a1)], [], h)) mj_d_111_6 (fun _ _ => rfl) ?_
  refine sy_st (S' := (mj_m_111, 8, [(3, sy_i (-1)), (2, sy_i (dc_Integer_bitCount (sy_rd h) a1)), (0, .ref 0), (1, sy_i a1)], [sy_i (dc_Integer_bitCount (sy_rd h) a1)], h)) mj_d_111_7 (fun _ _ => rfl) ?_
  refine sy_st (S' := (mj_m_111, 10, [(4, sy_i (dc_Integer_bitCount (sy_rd h) a1)), (3, sy_i (-1)), (2, sy_i (dc_Integer_bitCount (sy_rd h) a1)), (0, .ref 0), (1, sy_i a1)], [], h)) mj_d_111_8 (fun _ _ => rfl) ?_
  refine sy_st (S' := (mj_m_111, 11, [(4, sy_i (dc_Integer_bitCount (sy_rd h) a1)), (3, sy_i (-1)), (2, sy_i (dc_Integer_bitCount (sy_rd h) a1)), (0, .ref 0), (1, sy_i a1)], [sy_i 0], h)) mj_d_111_10 (fun _ _ => rfl) ?_
  refine sy_st (S' := (mj_m_111, 13, [(5, sy_i 0), (4, sy_i (dc_Integer_bitCount (sy_rd h) a1)), (3, sy_i (-1)), (2, sy_i (dc_Integer_bitCount (sy_rd h) a1)), (0, .ref 0), (1, sy_i a1)], [], h)) mj_d_111_11 (fun _ _ => rfl) ?_
  refine sy_lv (lv := [(0, .ref 0), (1, sy_i a1), (2, sy_i (dc_Integer_bitCount (sy_rd h) a1)), (3, sy_i (-1)), (4, sy_i (dc_Integer_bitCount (sy_rd h) a1)), (5, sy_i 0)]) rfl ⟨rfl, rfl, rfl, rfl, rfl, rfl, trivial⟩ ?_
  exact dt_C_partingFlue_13 10 hH (by first | omega | assumption) (by first | omega | assumption) (by first | omega | assumption) (by first | omega | assumption) (by first | omega | assumption) (by first | omega | assumption) (by first | omega | assumption) (by first | omega | assumption) (by first | omega | assumption) (by first | omega | assumption) (by omega)
def dc_C_next (s : sg_S) (a1 a2 : Int) : Int := (if a1 < 1 then (-1000000002) else (if a1 ≤ 7 then (if a2 = 0 then (dc_C_suspects s a1) else (if a2 = 1 then (dc_C_partingFlue s (dc_C_suspects s a1)) else (-1000000002))) else (-1000000002)))
set_option maxRecDepth 100000 in
theorem dt_C_next {h : mj_H} (hH : sy_H h) {a1 a2 : Int} (b_a1 : (-2147483648) ≤ a1) (t_a1 : a1 ≤ 2147483647) (b_a2 : (-2147483648) ≤ a2) (t_a2 : a2 ≤ 2147483647) : sy_wp (mj_m_108, 0, [(0, .ref 0), (1, sy_i a1), (2, sy_i a2)], [], h) (dq1 h (-2147483648) (2147483647) (dc_C_next (sy_rd h) a1 a2)) := by
  unfold dc_C_next
  refine sy_st (S' := (mj_m_108, 1, [(0, .ref 0), (1, sy_i a1), (2, sy_i a2)], [sy_i a1], h)) mj_d_108_0 (fun _ _ => rfl) ?_
  refine sy_st (S' := (mj_m_108, 2, [(0, .ref 0), (1, sy_i a1), (2, sy_i a2)], [sy_i 1, sy_i a1], h)) mj_d_108_1 (fun _ _ => rfl) ?_
  refine sy_icm mj_d_108_2 rfl ⟨by omega, by omega⟩ ⟨by omega, by omega⟩ (fun (c1 : a1 < 1) => ?_) (fun (c1 : ¬ (a1 < 1)) => ?_)
  · skip
    rw [if_pos c1]
    refine sy_ldc (n := -1000000002) mj_d_108_11 rfl (by decide) ?_
    exact sy_reti mj_d_108_13 rfl ⟨rfl, rfl, by omega, by omega⟩
  · skip
    rw [if_neg c1]
    refine sy_st (S' := (mj_m_108, 6, [(0, .ref 0), (1, sy_i a1), (2, sy_i a2)], [sy_i a1], h)) mj_d_108_5 (fun _ _ => rfl) ?_
    refine sy_bip mj_d_108_6 (by decide) ?_
    refine sy_icm mj_d_108_8 rfl ⟨by omega, by omega⟩ ⟨by omega, by omega⟩ (fun (c2 : a1 ≤ 7) => ?_) (fun (c2 : ¬ (a1 ≤ 7)) => ?_)
    · skip
      rw [if_pos c2]
      refine sy_st (S' := (mj_m_108, 15, [(0, .ref 0), (1, sy_i a1), (2, sy_i a2)], [sy_i a2], h)) mj_d_108_14 (fun _ _ => rfl) ?_
      by_cases c3 : a2 = 0
      · skip
        rw [if_pos c3]
        refine sy_lk (a := a2) mj_d_108_15 (by decide) ⟨by omega, by omega⟩ (by (try rw [c3]); (try rfl)) rfl ?_
        refine sy_st (S' := (mj_m_108, 41, [(0, .ref 0), (1, sy_i a1), (2, sy_i a2)], [.ref 0], h)) mj_d_108_40 (fun _ _ => rfl) ?_
        refine sy_st (S' := (mj_m_108, 42, [(0, .ref 0), (1, sy_i a1), (2, sy_i a2)], [sy_i a1, .ref 0], h)) mj_d_108_41 (fun _ _ => rfl) ?_
        refine sy_cv (M' := mj_m_109) (vs := [.ref 0, sy_i a1]) (rest := []) mj_d_108_42 rfl rfl rfl rfl hH rfl rfl ⟨by decide, ⟨Nat.le_of_ble_eq_true rfl, Nat.le_of_ble_eq_true rfl, Nat.le_of_ble_eq_true rfl, Nat.le_of_ble_eq_true rfl, Nat.le_of_ble_eq_true rfl⟩⟩ (dt_C_suspects (a1 := a1) hH (by omega) (by omega)) ?_
        rintro _ _ ⟨rfl, rfl, b4, b4t⟩
        show sy_wp (mj_m_108, 45, [(0, .ref 0), (1, sy_i a1), (2, sy_i a2)], [sy_i (dc_C_suspects (sy_rd h) a1)], h) _
        exact sy_reti mj_d_108_45 rfl ⟨rfl, rfl, by omega, by omega⟩
      rw [if_neg c3]
      by_cases c5 : a2 = 1
      · skip
        rw [if_pos c5]
        refine sy_lk (a := a2) mj_d_108_15 (by decide) ⟨by omega, by omega⟩ (by (try rw [c5]); (try rfl)) rfl ?_
        refine sy_st (S' := (mj_m_108, 47, [(0, .ref 0), (1, sy_i a1), (2, sy_i a2)], [.ref 0], h)) mj_d_108_46 (fun _ _ => rfl) ?_
        refine sy_st (S' := (mj_m_108, 48, [(0, .ref 0), (1, sy_i a1), (2, sy_i a2)], [.ref 0, .ref 0], h)) mj_d_108_47 (fun _ _ => rfl) ?_
        refine sy_st (S' := (mj_m_108, 49, [(0, .ref 0), (1, sy_i a1), (2, sy_i a2)], [sy_i a1, .ref 0, .ref 0], h)) mj_d_108_48 (fun _ _ => rfl) ?_
        refine sy_cv (M' := mj_m_109) (vs := [.ref 0, sy_i a1]) (rest := [.ref 0]) mj_d_108_49 rfl rfl rfl rfl hH rfl rfl ⟨by decide, ⟨Nat.le_of_ble_eq_true rfl, Nat.le_of_ble_eq_true rfl, Nat.le_of_ble_eq_true rfl, Nat.le_of_ble_eq_true rfl, Nat.le_of_ble_eq_true rfl⟩⟩ (dt_C_suspects (a1 := a1) hH (by omega) (by omega)) ?_
        rintro _ _ ⟨rfl, rfl, b6, b6t⟩
        show sy_wp (mj_m_108, 52, [(0, .ref 0), (1, sy_i a1), (2, sy_i a2)], [sy_i (dc_C_suspects (sy_rd h) a1), .ref 0], h) _
        refine sy_cv (M' := mj_m_111) (vs := [.ref 0, sy_i (dc_C_suspects (sy_rd h) a1)]) (rest := []) mj_d_108_52 rfl rfl rfl rfl hH rfl rfl ⟨by decide, ⟨Nat.le_of_ble_eq_true rfl, Nat.le_of_ble_eq_true rfl, Nat.le_of_ble_eq_true rfl, Nat.le_of_ble_eq_true rfl, Nat.le_of_ble_eq_true rfl⟩⟩ (dt_C_partingFlue (a1 := (dc_C_suspects (sy_rd h) a1)) hH (by omega) (by omega)) ?_
        rintro _ _ ⟨rfl, rfl, b7, b7t⟩
        show sy_wp (mj_m_108, 55, [(0, .ref 0), (1, sy_i a1), (2, sy_i a2)], [sy_i (dc_C_partingFlue (sy_rd h) (dc_C_suspects (sy_rd h) a1))], h) _
        exact sy_reti mj_d_108_55 rfl ⟨rfl, rfl, by omega, by omega⟩
      rw [if_neg c5]
      refine sy_lk (a := a2) (off := 41) mj_d_108_15 (by decide) ⟨by omega, by omega⟩ (by simp [Op.lookupswitch.offset, c3, c5, (show ¬ (0 : Int) = a2 from fun q => c3 q.symm), (show ¬ (1 : Int) = a2 from fun q => c5 q.symm)]) rfl ?_
      refine sy_ldc (n := -1000000002) mj_d_108_56 rfl (by decide) ?_
      exact sy_reti mj_d_108_58 rfl ⟨rfl, rfl, by omega, by omega⟩
    · skip
      rw [if_neg c2]
      refine sy_ldc (n := -1000000002) mj_d_108_11 rfl (by decide) ?_
      exact sy_reti mj_d_108_13 rfl ⟨rfl, rfl, by omega, by omega⟩
def dc_C_write (s : sg_S) (a1 a2 : Int) : sg_S × Int := (if (dc_C_isHouse s a1) = 0 then (s, (-1000000001)) else (if a2 < 0 then (s, (-1000000002)) else (if a2 ≤ 7 then ((dc_Book_add s a1 a2).1, (dc_Book_add s a1 a2).2) else (s, (-1000000002)))))
set_option maxRecDepth 100000 in
theorem dt_C_write {h : mj_H} (hH : sy_H h) {a1 a2 : Int} (b_a1 : (-2147483648) ≤ a1) (t_a1 : a1 ≤ 2147483647) (b_a2 : (-2147483648) ≤ a2) (t_a2 : a2 ≤ 2147483647) : sy_wp (mj_m_113, 0, [(0, .ref 0), (1, sy_i a1), (2, sy_i a2)], [], h) (dq2 (-2147483648) (2147483647) (dc_C_write (sy_rd h) a1 a2)) := by
  unfold dc_C_write
  have n8_3 := hH.bd (a := 8) (k := 3) rfl (by decide) rfl
  refine sy_st (S' := (mj_m_113, 1, [(0, .ref 0), (1, sy_i a1), (2, sy_i a2)], [.ref 0], h)) mj_d_113_0 (fun _ _ => rfl) ?_
  refine sy_st (S' := (mj_m_113, 2, [(0, .ref 0), (1, sy_i a1), (2, sy_i a2)], [sy_i a1, .ref 0], h)) mj_d_113_1 (fun _ _ => rfl) ?_
  refine sy_cv (M' := mj_m_39) (vs := [.ref 0, sy_i a1]) (rest := []) mj_d_113_2 rfl rfl rfl rfl hH rfl rfl ⟨by decide, ⟨Nat.le_of_ble_eq_true rfl, Nat.le_of_ble_eq_true rfl, Nat.le_of_ble_eq_true rfl, Nat.le_of_ble_eq_true rfl, Nat.le_of_ble_eq_true rfl⟩⟩ (dt_C_isHouse (a1 := a1) hH (by omega) (by omega)) ?_
  rintro _ _ ⟨rfl, rfl, b1, b1t⟩
  have q2 := df_C_isHouse_0 (sy_rd h) a1
  show sy_wp (mj_m_113, 5, [(0, .ref 0), (1, sy_i a1), (2, sy_i a2)], [sy_i (dc_C_isHouse (sy_rd h) a1)], h) _
  refine sy_ifc mj_d_113_5 rfl ⟨by omega, by omega⟩ (fun (c3 : ¬ ((dc_C_isHouse (sy_rd h) a1) = 0)) => ?_) (fun (c3 : ¬ ¬ ((dc_C_isHouse (sy_rd h) a1) = 0)) => ?_)
  · skip
    rw [if_neg c3]
    refine sy_st (S' := (mj_m_113, 12, [(0, .ref 0), (1, sy_i a1), (2, sy_i a2)], [sy_i a2], h)) mj_d_113_11 (fun _ _ => rfl) ?_
    refine sy_ifc mj_d_113_12 rfl ⟨by omega, by omega⟩ (fun (c4 : a2 < 0) => ?_) (fun (c4 : ¬ (a2 < 0)) => ?_)
    · skip
      rw [if_pos c4]
      refine sy_ldc (n := -1000000002) mj_d_113_21 rfl (by decide) ?_
      exact sy_reti mj_d_113_23 rfl ⟨hH, rfl, rfl, by omega, by omega⟩
    · skip
      rw [if_neg c4]
      refine sy_st (S' := (mj_m_113, 16, [(0, .ref 0), (1, sy_i a1), (2, sy_i a2)], [sy_i a2], h)) mj_d_113_15 (fun _ _ => rfl) ?_
      refine sy_bip mj_d_113_16 (by decide) ?_
      refine sy_icm mj_d_113_18 rfl ⟨by omega, by omega⟩ ⟨by omega, by omega⟩ (fun (c5 : a2 ≤ 7) => ?_) (fun (c5 : ¬ (a2 ≤ 7)) => ?_)
      · skip
        rw [if_pos c5]
        refine sy_st (S' := (mj_m_113, 25, [(0, .ref 0), (1, sy_i a1), (2, sy_i a2)], [.ref 0], h)) mj_d_113_24 (fun _ _ => rfl) ?_
        refine sy_gr2 (b := 221) mj_d_113_25 rfl rfl (by decide) rfl rfl hH ?_
        refine sy_st (S' := (mj_m_113, 29, [(0, .ref 0), (1, sy_i a1), (2, sy_i a2)], [sy_i a1, .ref 221], h)) mj_d_113_28 (fun _ _ => rfl) ?_
        refine sy_st (S' := (mj_m_113, 30, [(0, .ref 0), (1, sy_i a1), (2, sy_i a2)], [sy_i a2, sy_i a1, .ref 221], h)) mj_d_113_29 (fun _ _ => rfl) ?_
        refine sy_cv (M' := mj_m_114) (vs := [.ref 221, sy_i a1, sy_i a2]) (rest := []) mj_d_113_30 rfl rfl rfl rfl hH rfl rfl ⟨by decide, ⟨Nat.le_of_ble_eq_true rfl, Nat.le_of_ble_eq_true rfl, Nat.le_of_ble_eq_true rfl, Nat.le_of_ble_eq_true rfl, Nat.le_of_ble_eq_true rfl⟩⟩ (dt_Book_add (a1 := a1) (a2 := a2) hH (by omega) (by omega) (by omega) (by omega)) ?_
        rintro _ h6 ⟨th6, eh6, rfl, b7, b7t⟩
        show sy_wp (mj_m_113, 33, [(0, .ref 0), (1, sy_i a1), (2, sy_i a2)], [sy_i ((dc_Book_add (sy_rd h) a1 a2).2)], h6) _
        exact sy_reti mj_d_113_33 rfl ⟨th6, eh6, rfl, by omega, by omega⟩
      · skip
        rw [if_neg c5]
        refine sy_ldc (n := -1000000002) mj_d_113_21 rfl (by decide) ?_
        exact sy_reti mj_d_113_23 rfl ⟨hH, rfl, rfl, by omega, by omega⟩
  · skip
    rw [if_pos (Decidable.not_not.mp c3)]
    replace c3 := Decidable.not_not.mp c3
    refine sy_ldc (n := -1000000001) mj_d_113_8 rfl (by decide) ?_
    exact sy_reti mj_d_113_10 rfl ⟨hH, rfl, rfl, by omega, by omega⟩
def dc_C_judge (s : sg_S) : Int := (dc_Book_firstWrong s)
set_option maxRecDepth 100000 in
theorem dt_C_judge {h : mj_H} (hH : sy_H h) : sy_wp (mj_m_115, 0, [(0, .ref 0)], [], h) (dq1 h (-2147483648) (2147483647) (dc_C_judge (sy_rd h))) := by
  unfold dc_C_judge
  refine sy_st (S' := (mj_m_115, 1, [(0, .ref 0)], [.ref 0], h)) mj_d_115_0 (fun _ _ => rfl) ?_
  refine sy_gr2 (b := 221) mj_d_115_1 rfl rfl (by decide) rfl rfl hH ?_
  refine sy_st (S' := (mj_m_115, 5, [(0, .ref 0)], [.ref 0, .ref 221], h)) mj_d_115_4 (fun _ _ => rfl) ?_
  refine sy_gr2 (b := 13) mj_d_115_5 rfl rfl (by decide) rfl rfl hH ?_
  refine sy_cv (M' := mj_m_116) (vs := [.ref 221, .ref 13]) (rest := []) mj_d_115_8 rfl rfl rfl rfl hH rfl rfl ⟨by decide, ⟨Nat.le_of_ble_eq_true rfl, Nat.le_of_ble_eq_true rfl, Nat.le_of_ble_eq_true rfl, Nat.le_of_ble_eq_true rfl, Nat.le_of_ble_eq_true rfl⟩⟩ (dt_Book_firstWrong hH) ?_
  rintro _ _ ⟨rfl, rfl, b1, b1t⟩
  show sy_wp (mj_m_115, 11, [(0, .ref 0)], [sy_i (dc_Book_firstWrong (sy_rd h))], h) _
  exact sy_reti mj_d_115_11 rfl ⟨rfl, rfl, by omega, by omega⟩
def dc_C_tear (s : sg_S) : sg_S × Int := ((sg_up (sg_up s 217 3 0) 221 2 0), ((s 217 3) + (s 221 2)))
set_option maxRecDepth 100000 in
theorem dt_C_tear {h : mj_H} (hH : sy_H h) : sy_wp (mj_m_117, 0, [(0, .ref 0)], [], h) (dq2 (-2147483648) (2147483647) (dc_C_tear (sy_rd h))) := by
  unfold dc_C_tear
  refine sy_st (S' := (mj_m_117, 1, [(0, .ref 0)], [.ref 0], h)) mj_d_117_0 (fun _ _ => rfl) ?_
  refine sy_gr2 (b := 217) mj_d_117_1 rfl rfl (by decide) rfl rfl hH ?_
  refine sy_gf mj_d_117_4 rfl rfl (by decide) rfl hH ?_
  rintro _ rfl bx1 tx1
  refine sy_st (S' := (mj_m_117, 8, [(0, .ref 0)], [.ref 0, sy_i (sy_rd h 217 3)], h)) mj_d_117_7 (fun _ _ => rfl) ?_
  refine sy_gr2 (b := 221) mj_d_117_8 rfl rfl (by decide) rfl rfl hH ?_
  refine sy_gf mj_d_117_11 rfl rfl (by decide) rfl hH ?_
  rintro _ rfl bx2 tx2
  refine sy_add mj_d_117_14 ?_
  refine sy_st (S' := (mj_m_117, 16, [(1, sy_i ((sy_rd h 217 3) + (sy_rd h 221 2))), (0, .ref 0)], [], h)) mj_d_117_15 (fun _ _ => rfl) ?_
  refine sy_st (S' := (mj_m_117, 17, [(1, sy_i ((sy_rd h 217 3) + (sy_rd h 221 2))), (0, .ref 0)], [.ref 0], h)) mj_d_117_16 (fun _ _ => rfl) ?_
  refine sy_gr2 (b := 217) mj_d_117_17 rfl rfl (by decide) rfl rfl hH ?_
  refine sy_st (S' := (mj_m_117, 21, [(1, sy_i ((sy_rd h 217 3) + (sy_rd h 221 2))), (0, .ref 0)], [sy_i 0, .ref 217], h)) mj_d_117_20 (fun _ _ => rfl) ?_
  refine sg_pf (z := 0) mj_d_117_21 rfl rfl (by decide) (Or.inl rfl) rfl hH (by omega) (by omega) ⟨by omega, by omega⟩ ?_
  intro h3 th3 eh3
  refine sy_st (S' := (mj_m_117, 25, [(1, sy_i ((sy_rd h 217 3) + (sy_rd h 221 2))), (0, .ref 0)], [.ref 0], h3)) mj_d_117_24 (fun _ _ => rfl) ?_
  refine sy_gr2 (b := 221) mj_d_117_25 rfl rfl (by decide) rfl rfl th3 ?_
  refine sy_st (S' := (mj_m_117, 29, [(1, sy_i ((sy_rd h 217 3) + (sy_rd h 221 2))), (0, .ref 0)], [sy_i 0, .ref 221], h3)) mj_d_117_28 (fun _ _ => rfl) ?_
  refine sg_pf (z := 0) mj_d_117_29 rfl rfl (by decide) (Or.inl rfl) rfl th3 (by omega) (by omega) ⟨by omega, by omega⟩ ?_
  intro h4 th4 eh4
  rw [eh3] at eh4
  refine sy_st (S' := (mj_m_117, 33, [(1, sy_i ((sy_rd h 217 3) + (sy_rd h 221 2))), (0, .ref 0)], [sy_i ((sy_rd h 217 3) + (sy_rd h 221 2))], h4)) mj_d_117_32 (fun _ _ => rfl) ?_
  exact sy_reti mj_d_117_33 rfl ⟨th4, eh4, rfl, by omega, by omega⟩
def dc_C_seed (s : sg_S) (a1 : Int) : sg_S × Int := (if 0 ≤ a1 then ((sg_up s 0 9 a1), (s 0 9)) else (s, (-1000000002)))
set_option maxRecDepth 100000 in
theorem dt_C_seed {h : mj_H} (hH : sy_H h) {a1 : Int} (b_a1 : (-2147483648) ≤ a1) (t_a1 : a1 ≤ 2147483647) : sy_wp (mj_m_118, 0, [(0, .ref 0), (1, sy_i a1)], [], h) (dq2 (-2147483648) (2147483647) (dc_C_seed (sy_rd h) a1)) := by
  unfold dc_C_seed
  refine sy_st (S' := (mj_m_118, 1, [(0, .ref 0), (1, sy_i a1)], [sy_i a1], h)) mj_d_118_0 (fun _ _ => rfl) ?_
  refine sy_ifc mj_d_118_1 rfl ⟨by omega, by omega⟩ (fun (c1 : 0 ≤ a1) => ?_) (fun (c1 : ¬ (0 ≤ a1)) => ?_)
  · skip
    rw [if_pos c1]
    refine sy_st (S' := (mj_m_118, 8, [(0, .ref 0), (1, sy_i a1)], [.ref 0], h)) mj_d_118_7 (fun _ _ => rfl) ?_
    refine sy_gf mj_d_118_8 rfl rfl (by decide) rfl hH ?_
    rintro _ rfl bx2 tx2
    refine sy_st (S' := (mj_m_118, 12, [(2, sy_i (sy_rd h 0 9)), (0, .ref 0), (1, sy_i a1)], [], h)) mj_d_118_11 (fun _ _ => rfl) ?_
    refine sy_st (S' := (mj_m_118, 13, [(2, sy_i (sy_rd h 0 9)), (0, .ref 0), (1, sy_i a1)], [.ref 0], h)) mj_d_118_12 (fun _ _ => rfl) ?_
    refine sy_st (S' := (mj_m_118, 14, [(2, sy_i (sy_rd h 0 9)), (0, .ref 0), (1, sy_i a1)], [sy_i a1, .ref 0], h)) mj_d_118_13 (fun _ _ => rfl) ?_
    refine sg_pf (z := a1) mj_d_118_14 rfl rfl (by decide) (Or.inl rfl) rfl hH (by omega) (by omega) ⟨by omega, by omega⟩ ?_
    intro h3 th3 eh3
    refine sy_st (S' := (mj_m_118, 18, [(2, sy_i (sy_rd h 0 9)), (0, .ref 0), (1, sy_i a1)], [sy_i (sy_rd h 0 9)], h3)) mj_d_118_17 (fun _ _ => rfl) ?_
    exact sy_reti mj_d_118_18 rfl ⟨th3, eh3, rfl, by omega, by omega⟩
  · skip
    rw [if_neg c1]
    refine sy_ldc (n := -1000000002) mj_d_118_4 rfl (by decide) ?_
    exact sy_reti mj_d_118_6 rfl ⟨hH, rfl, rfl, by omega, by omega⟩
def dc_C_keep (s : sg_S) (a1 : Int) : sg_S × Int := (if a1 < 0 then (s, (-1000000001)) else (if a1 < 2 then ((dc_Past_forget (dc_Im_put s a1 (s 0 9))), 1) else (s, (-1000000001))))
set_option maxRecDepth 100000 in
theorem dt_C_keep {h : mj_H} (hH : sy_H h) {a1 : Int} (b_a1 : (-2147483648) ≤ a1) (t_a1 : a1 ≤ 2147483647) : sy_wp (mj_m_119, 0, [(0, .ref 0), (1, sy_i a1)], [], h) (dq2 (-2147483648) (2147483647) (dc_C_keep (sy_rd h) a1)) := by
  unfold dc_C_keep
  refine sy_st (S' := (mj_m_119, 1, [(0, .ref 0), (1, sy_i a1)], [sy_i a1], h)) mj_d_119_0 (fun _ _ => rfl) ?_
  refine sy_ifc mj_d_119_1 rfl ⟨by omega, by omega⟩ (fun (c1 : a1 < 0) => ?_) (fun (c1 : ¬ (a1 < 0)) => ?_)
  · skip
    rw [if_pos c1]
    refine sy_ldc (n := -1000000001) mj_d_119_9 rfl (by decide) ?_
    exact sy_reti mj_d_119_11 rfl ⟨hH, rfl, rfl, by omega, by omega⟩
  · skip
    rw [if_neg c1]
    refine sy_st (S' := (mj_m_119, 5, [(0, .ref 0), (1, sy_i a1)], [sy_i a1], h)) mj_d_119_4 (fun _ _ => rfl) ?_
    refine sy_st (S' := (mj_m_119, 6, [(0, .ref 0), (1, sy_i a1)], [sy_i 2, sy_i a1], h)) mj_d_119_5 (fun _ _ => rfl) ?_
    refine sy_icm mj_d_119_6 rfl ⟨by omega, by omega⟩ ⟨by omega, by omega⟩ (fun (c2 : a1 < 2) => ?_) (fun (c2 : ¬ (a1 < 2)) => ?_)
    · skip
      rw [if_pos c2]
      refine sy_st (S' := (mj_m_119, 13, [(0, .ref 0), (1, sy_i a1)], [.ref 0], h)) mj_d_119_12 (fun _ _ => rfl) ?_
      refine sy_gr2 (b := 201) mj_d_119_13 rfl rfl (by decide) rfl rfl hH ?_
      refine sy_st (S' := (mj_m_119, 17, [(0, .ref 0), (1, sy_i a1)], [sy_i a1, .ref 201], h)) mj_d_119_16 (fun _ _ => rfl) ?_
      refine sy_st (S' := (mj_m_119, 18, [(0, .ref 0), (1, sy_i a1)], [.ref 0, sy_i a1, .ref 201], h)) mj_d_119_17 (fun _ _ => rfl) ?_
      refine sy_gr2 (b := 13) mj_d_119_18 rfl rfl (by decide) rfl rfl hH ?_
      refine sy_st (S' := (mj_m_119, 22, [(0, .ref 0), (1, sy_i a1)], [.ref 0, .ref 13, sy_i a1, .ref 201], h)) mj_d_119_21 (fun _ _ => rfl) ?_
      refine sy_gf mj_d_119_22 rfl rfl (by decide) rfl hH ?_
      rintro _ rfl bx3 tx3
      refine sy_cv (M' := mj_m_120) (vs := [.ref 201, sy_i a1, .ref 13, sy_i (sy_rd h 0 9)]) (rest := []) mj_d_119_25 rfl rfl rfl rfl hH rfl rfl ⟨by decide, ⟨Nat.le_of_ble_eq_true rfl, Nat.le_of_ble_eq_true rfl, Nat.le_of_ble_eq_true rfl, Nat.le_of_ble_eq_true rfl, Nat.le_of_ble_eq_true rfl⟩⟩ (dt_Im_put (a1 := a1) (a3 := (sy_rd h 0 9)) hH (by omega) (by omega) (by omega) (by omega)) ?_
      rintro _ h4 ⟨rfl, th4, eh4⟩
      show sy_wp (mj_m_119, 28, [(0, .ref 0), (1, sy_i a1)], [], h4) _
      refine sy_st (S' := (mj_m_119, 29, [(0, .ref 0), (1, sy_i a1)], [.ref 0], h4)) mj_d_119_28 (fun _ _ => rfl) ?_
      refine sy_gr2 (b := 19) mj_d_119_29 rfl rfl (by decide) rfl rfl th4 ?_
      refine sy_cv (M' := mj_m_31) (vs := [.ref 19]) (rest := []) mj_d_119_32 rfl rfl rfl rfl th4 rfl rfl ⟨by decide, ⟨Nat.le_of_ble_eq_true rfl, Nat.le_of_ble_eq_true rfl, Nat.le_of_ble_eq_true rfl, Nat.le_of_ble_eq_true rfl, Nat.le_of_ble_eq_true rfl⟩⟩ (dt_Past_forget th4) ?_
      rintro _ h6 ⟨rfl, th6, eh6⟩
      rw [eh4] at eh6
      show sy_wp (mj_m_119, 35, [(0, .ref 0), (1, sy_i a1)], [], h6) _
      refine sy_st (S' := (mj_m_119, 36, [(0, .ref 0), (1, sy_i a1)], [sy_i 1], h6)) mj_d_119_35 (fun _ _ => rfl) ?_
      exact sy_reti mj_d_119_36 rfl ⟨th6, eh6, rfl, by omega, by omega⟩
    · skip
      rw [if_neg c2]
      refine sy_ldc (n := -1000000001) mj_d_119_9 rfl (by decide) ?_
      exact sy_reti mj_d_119_11 rfl ⟨hH, rfl, rfl, by omega, by omega⟩
def dc_C_goBack (s : sg_S) (a1 : Int) : sg_S × Int := (if a1 < 0 then (s, (-1000000001)) else (if a1 < 2 then (if (dc_Im_isKept s a1) = 0 then (s, (-1000000003)) else ((dc_Past_forget (sg_up (dc_Im_bringBack s a1).1 0 9 ((dc_Im_bringBack s a1).2))), 1)) else (s, (-1000000001))))
set_option maxRecDepth 100000 in
theorem dt_C_goBack {h : mj_H} (hH : sy_H h) {a1 : Int} (b_a1 : (-2147483648) ≤ a1) (t_a1 : a1 ≤ 2147483647) : sy_wp (mj_m_121, 0, [(0, .ref 0), (1, sy_i a1)], [], h) (dq2 (-2147483648) (2147483647) (dc_C_goBack (sy_rd h) a1)) := by
  unfold dc_C_goBack
  refine sy_st (S' := (mj_m_121, 1, [(0, .ref 0), (1, sy_i a1)], [sy_i a1], h)) mj_d_121_0 (fun _ _ => rfl) ?_
  refine sy_ifc mj_d_121_1 rfl ⟨by omega, by omega⟩ (fun (c1 : a1 < 0) => ?_) (fun (c1 : ¬ (a1 < 0)) => ?_)
  · skip
    rw [if_pos c1]
    refine sy_ldc (n := -1000000001) mj_d_121_9 rfl (by decide) ?_
    exact sy_reti mj_d_121_11 rfl ⟨hH, rfl, rfl, by omega, by omega⟩
  · skip
    rw [if_neg c1]
    refine sy_st (S' := (mj_m_121, 5, [(0, .ref 0), (1, sy_i a1)], [sy_i a1], h)) mj_d_121_4 (fun _ _ => rfl) ?_
    refine sy_st (S' := (mj_m_121, 6, [(0, .ref 0), (1, sy_i a1)], [sy_i 2, sy_i a1], h)) mj_d_121_5 (fun _ _ => rfl) ?_
    refine sy_icm mj_d_121_6 rfl ⟨by omega, by omega⟩ ⟨by omega, by omega⟩ (fun (c2 : a1 < 2) => ?_) (fun (c2 : ¬ (a1 < 2)) => ?_)
    · skip
      rw [if_pos c2]
      refine sy_st (S' := (mj_m_121, 13, [(0, .ref 0), (1, sy_i a1)], [.ref 0], h)) mj_d_121_12 (fun _ _ => rfl) ?_
      refine sy_gr2 (b := 201) mj_d_121_13 rfl rfl (by decide) rfl rfl hH ?_
      refine sy_st (S' := (mj_m_121, 17, [(0, .ref 0), (1, sy_i a1)], [sy_i a1, .ref 201], h)) mj_d_121_16 (fun _ _ => rfl) ?_
      refine sy_cv (M' := mj_m_122) (vs := [.ref 201, sy_i a1]) (rest := []) mj_d_121_17 rfl rfl rfl rfl hH rfl rfl ⟨by decide, ⟨Nat.le_of_ble_eq_true rfl, Nat.le_of_ble_eq_true rfl, Nat.le_of_ble_eq_true rfl, Nat.le_of_ble_eq_true rfl, Nat.le_of_ble_eq_true rfl⟩⟩ (dt_Im_isKept (a1 := a1) hH (by omega) (by omega)) ?_
      rintro _ _ ⟨rfl, rfl, b3, b3t⟩
      show sy_wp (mj_m_121, 20, [(0, .ref 0), (1, sy_i a1)], [sy_i (dc_Im_isKept (sy_rd h) a1)], h) _
      refine sy_ifc mj_d_121_20 rfl ⟨by omega, by omega⟩ (fun (c4 : ¬ ((dc_Im_isKept (sy_rd h) a1) = 0)) => ?_) (fun (c4 : ¬ ¬ ((dc_Im_isKept (sy_rd h) a1) = 0)) => ?_)
      · skip
        rw [if_neg c4]
        refine sy_st (S' := (mj_m_121, 27, [(0, .ref 0), (1, sy_i a1)], [.ref 0], h)) mj_d_121_26 (fun _ _ => rfl) ?_
        refine sy_st (S' := (mj_m_121, 28, [(0, .ref 0), (1, sy_i a1)], [.ref 0, .ref 0], h)) mj_d_121_27 (fun _ _ => rfl) ?_
        refine sy_gr2 (b := 201) mj_d_121_28 rfl rfl (by decide) rfl rfl hH ?_
        refine sy_st (S' := (mj_m_121, 32, [(0, .ref 0), (1, sy_i a1)], [sy_i a1, .ref 201, .ref 0], h)) mj_d_121_31 (fun _ _ => rfl) ?_
        refine sy_st (S' := (mj_m_121, 33, [(0, .ref 0), (1, sy_i a1)], [.ref 0, sy_i a1, .ref 201, .ref 0], h)) mj_d_121_32 (fun _ _ => rfl) ?_
        refine sy_gr2 (b := 13) mj_d_121_33 rfl rfl (by decide) rfl rfl hH ?_
        refine sy_cv (M' := mj_m_123) (vs := [.ref 201, sy_i a1, .ref 13]) (rest := [.ref 0]) mj_d_121_36 rfl rfl rfl rfl hH rfl rfl ⟨by decide, ⟨Nat.le_of_ble_eq_true rfl, Nat.le_of_ble_eq_true rfl, Nat.le_of_ble_eq_true rfl, Nat.le_of_ble_eq_true rfl, Nat.le_of_ble_eq_true rfl⟩⟩ (dt_Im_bringBack (a1 := a1) hH (by omega) (by omega)) ?_
        rintro _ h5 ⟨th5, eh5, rfl, b6, b6t⟩
        show sy_wp (mj_m_121, 39, [(0, .ref 0), (1, sy_i a1)], [sy_i ((dc_Im_bringBack (sy_rd h) a1).2), .ref 0], h5) _
        refine sg_pf (z := (dc_Im_bringBack (sy_rd h) a1).2) mj_d_121_39 rfl rfl (by decide) (Or.inl rfl) rfl th5 (by omega) (by omega) ⟨by omega, by omega⟩ ?_
        intro h7 th7 eh7
        rw [eh5] at eh7
        refine sy_st (S' := (mj_m_121, 43, [(0, .ref 0), (1, sy_i a1)], [.ref 0], h7)) mj_d_121_42 (fun _ _ => rfl) ?_
        refine sy_gr2 (b := 19) mj_d_121_43 rfl rfl (by decide) rfl rfl th7 ?_
        refine sy_cv (M' := mj_m_31) (vs := [.ref 19]) (rest := []) mj_d_121_46 rfl rfl rfl rfl th7 rfl rfl ⟨by decide, ⟨Nat.le_of_ble_eq_true rfl, Nat.le_of_ble_eq_true rfl, Nat.le_of_ble_eq_true rfl, Nat.le_of_ble_eq_true rfl, Nat.le_of_ble_eq_true rfl⟩⟩ (dt_Past_forget th7) ?_
        rintro _ h8 ⟨rfl, th8, eh8⟩
        rw [eh7] at eh8
        show sy_wp (mj_m_121, 49, [(0, .ref 0), (1, sy_i a1)], [], h8) _
        refine sy_st (S' := (mj_m_121, 50, [(0, .ref 0), (1, sy_i a1)], [sy_i 1], h8)) mj_d_121_49 (fun _ _ => rfl) ?_
        exact sy_reti mj_d_121_50 rfl ⟨th8, eh8, rfl, by omega, by omega⟩
      · skip
        rw [if_pos (Decidable.not_not.mp c4)]
        replace c4 := Decidable.not_not.mp c4
        refine sy_ldc (n := -1000000003) mj_d_121_23 rfl (by decide) ?_
        exact sy_reti mj_d_121_25 rfl ⟨hH, rfl, rfl, by omega, by omega⟩
    · skip
      rw [if_neg c2]
      refine sy_ldc (n := -1000000001) mj_d_121_9 rfl (by decide) ?_
      exact sy_reti mj_d_121_11 rfl ⟨hH, rfl, rfl, by omega, by omega⟩
