def mj_m_148 : mj_M := (⟨"SootMapsModel", "minds", "()V"⟩, prog_13_method_31_code, 2, none, 10, 0, 1, 1, 23)
def mj_m_153 : mj_M := (⟨"SootMapsModel", "fire", "(II)I"⟩, prog_13_method_33_code, 4, (some .int), 10, 2, 1, 2, 46)
def mj_m_154 : mj_M := (⟨"SootMapsModel", "rain", "()I"⟩, prog_13_method_35_code, 1, (some .int), 10, 0, 1, 2, 44)
def mj_m_155 : mj_M := (⟨"SootMapsModel", "washes", "()I"⟩, prog_13_method_34_code, 4, (some .int), 10, 0, 1, 0, 0)
def mj_m_156 : mj_M := (⟨"SootMapsModel", "swept", "(I)I"⟩, prog_13_method_36_code, 3, (some .int), 10, 1, 1, 2, 46)
def mj_m_157 : mj_M := (⟨"SootMapsModel", "run", "(II)I"⟩, prog_13_method_37_code, 4, (some .int), 10, 2, 1, 2, 46)
def mj_m_158 : mj_M := (⟨"SootMapsModel", "swap", "(IIII)I"⟩, prog_13_method_40_code, 5, (some .int), 10, 4, 1, 3, 68)
def mj_m_159 : mj_M := (⟨"SootMapsModel", "areTwo", "(II)Z"⟩, prog_13_method_38_code, 3, (some .boolean), 10, 2, 1, 2, 46)
def mj_m_160 : mj_M := (⟨"SootMapsModel", "isKnown", "(II)Z"⟩, prog_13_method_39_code, 3, (some .boolean), 10, 2, 1, 1, 21)
def mj_m_162 : mj_M := (⟨"SootMapsModel", "pay", "(III)I"⟩, prog_13_method_41_code, 4, (some .int), 10, 3, 1, 3, 68)
def mj_m_164 : mj_M := (⟨"SootMapsModel", "draw", "(I)I"⟩, prog_13_method_42_code, 2, (some .int), 10, 1, 1, 0, 0)
def mj_m_165 : mj_M := (⟨"SootMapsModel", "undo", "(I)I"⟩, prog_13_method_44_code, 3, (some .int), 10, 1, 1, 1, 25)
def mj_m_175 : mj_M := (⟨"SootMapsModel", "moreOf", "(II)I"⟩, prog_13_method_52_code, 3, (some .int), 10, 2, 1, 1, 22)
def mj_m_179 : mj_M := (⟨"SootMapsModel", "canGive", "(II)Z"⟩, prog_13_method_55_code, 3, (some .boolean), 10, 2, 1, 0, 0)
def mj_m_181 : mj_M := (⟨"SootMapsModel", "wet", "(II)I"⟩, prog_13_method_59_code, 7, (some .int), 10, 2, 1, 1, 25)
def mj_m_182 : mj_M := (⟨"SootMapsModel", "see", "(IIZ)I"⟩, prog_13_method_60_code, 4, (some .int), 10, 3, 1, 2, 46)
def mj_m_184 : mj_M := (⟨"SootMapsModel", "write", "(II)I"⟩, prog_13_method_62_code, 3, (some .int), 10, 2, 1, 2, 46)
def mj_m_185 : mj_M := (⟨"SootMapsModel", "judge", "()I"⟩, prog_13_method_63_code, 2, (some .int), 10, 0, 1, 1, 21)
def mj_m_186 : mj_M := (⟨"SootMapsModel", "tear", "()I"⟩, prog_13_method_64_code, 2, (some .int), 10, 0, 1, 0, 0)
def mj_m_187 : mj_M := (⟨"SootMapsModel", "seed", "(I)I"⟩, prog_13_method_65_code, 3, (some .int), 10, 1, 1, 0, 0)
def mj_m_188 : mj_M := (⟨"SootMapsModel", "keep", "(I)I"⟩, prog_13_method_66_code, 2, (some .int), 10, 1, 1, 1, 25)
def mj_m_189 : mj_M := (⟨"SootMapsModel", "goBack", "(I)I"⟩, prog_13_method_67_code, 2, (some .int), 10, 1, 1, 1, 25)
theorem mj_d_148_0 : decode mj_m_148.2.1 0 = .ok (.aload_n 0, 1) := by decide +kernel
theorem mj_d_148_1 : decode mj_m_148.2.1 1 = .ok (.getfield 168, 3) := by decide +kernel
theorem mj_d_148_4 : decode mj_m_148.2.1 4 = .ok (.bipush 30, 2) := by decide +kernel
theorem mj_d_148_6 : decode mj_m_148.2.1 6 = .ok (.if_icmp .ne 51, 3) := by decide +kernel
theorem mj_d_148_9 : decode mj_m_148.2.1 9 = .ok (.iconst 0, 1) := by decide +kernel
theorem mj_d_148_10 : decode mj_m_148.2.1 10 = .ok (.istore_n 1, 1) := by decide +kernel
theorem mj_d_148_11 : decode mj_m_148.2.1 11 = .ok (.iload_n 1, 1) := by decide +kernel
theorem mj_d_148_12 : decode mj_m_148.2.1 12 = .ok (.sipush 3248, 3) := by decide +kernel
theorem mj_d_148_15 : decode mj_m_148.2.1 15 = .ok (.if_icmp .ge 32, 3) := by decide +kernel
theorem mj_d_148_18 : decode mj_m_148.2.1 18 = .ok (.aload_n 0, 1) := by decide +kernel
theorem mj_d_148_19 : decode mj_m_148.2.1 19 = .ok (.getfield 7, 3) := by decide +kernel
theorem mj_d_148_22 : decode mj_m_148.2.1 22 = .ok (.sipush 448, 3) := by decide +kernel
theorem mj_d_148_25 : decode mj_m_148.2.1 25 = .ok (.iload_n 1, 1) := by decide +kernel
theorem mj_d_148_26 : decode mj_m_148.2.1 26 = .ok (.iadd, 1) := by decide +kernel
theorem mj_d_148_27 : decode mj_m_148.2.1 27 = .ok (.aload_n 0, 1) := by decide +kernel
theorem mj_d_148_28 : decode mj_m_148.2.1 28 = .ok (.getfield 7, 3) := by decide +kernel
theorem mj_d_148_31 : decode mj_m_148.2.1 31 = .ok (.sipush 448, 3) := by decide +kernel
theorem mj_d_148_34 : decode mj_m_148.2.1 34 = .ok (.iload_n 1, 1) := by decide +kernel
theorem mj_d_148_35 : decode mj_m_148.2.1 35 = .ok (.iadd, 1) := by decide +kernel
theorem mj_d_148_36 : decode mj_m_148.2.1 36 = .ok (.bipush 112, 2) := by decide +kernel
theorem mj_d_148_38 : decode mj_m_148.2.1 38 = .ok (.iadd, 1) := by decide +kernel
theorem mj_d_148_39 : decode mj_m_148.2.1 39 = .ok (.iaload, 1) := by decide +kernel
theorem mj_d_148_40 : decode mj_m_148.2.1 40 = .ok (.iastore, 1) := by decide +kernel
theorem mj_d_148_41 : decode mj_m_148.2.1 41 = .ok (.iinc 1 1, 3) := by decide +kernel
theorem mj_d_148_44 : decode mj_m_148.2.1 44 = .ok (.goto (-33), 3) := by decide +kernel
theorem mj_d_148_47 : decode mj_m_148.2.1 47 = .ok (.aload_n 0, 1) := by decide +kernel
theorem mj_d_148_48 : decode mj_m_148.2.1 48 = .ok (.dup, 1) := by decide +kernel
theorem mj_d_148_49 : decode mj_m_148.2.1 49 = .ok (.getfield 168, 3) := by decide +kernel
theorem mj_d_148_52 : decode mj_m_148.2.1 52 = .ok (.iconst 1, 1) := by decide +kernel
theorem mj_d_148_53 : decode mj_m_148.2.1 53 = .ok (.isub, 1) := by decide +kernel
theorem mj_d_148_54 : decode mj_m_148.2.1 54 = .ok (.putfield 168, 3) := by decide +kernel
theorem mj_d_148_57 : decode mj_m_148.2.1 57 = .ok (.aload_n 0, 1) := by decide +kernel
theorem mj_d_148_58 : decode mj_m_148.2.1 58 = .ok (.iconst 0, 1) := by decide +kernel
theorem mj_d_148_59 : decode mj_m_148.2.1 59 = .ok (.sipush 448, 3) := by decide +kernel
theorem mj_d_148_62 : decode mj_m_148.2.1 62 = .ok (.bipush 112, 2) := by decide +kernel
theorem mj_d_148_64 : decode mj_m_148.2.1 64 = .ok (.aload_n 0, 1) := by decide +kernel
theorem mj_d_148_65 : decode mj_m_148.2.1 65 = .ok (.getfield 168, 3) := by decide +kernel
theorem mj_d_148_68 : decode mj_m_148.2.1 68 = .ok (.imul, 1) := by decide +kernel
theorem mj_d_148_69 : decode mj_m_148.2.1 69 = .ok (.iadd, 1) := by decide +kernel
theorem mj_d_148_70 : decode mj_m_148.2.1 70 = .ok (.invokevirtual 198, 3) := by decide +kernel
theorem mj_d_148_73 : decode mj_m_148.2.1 73 = .ok (.aload_n 0, 1) := by decide +kernel
theorem mj_d_148_74 : decode mj_m_148.2.1 74 = .ok (.dup, 1) := by decide +kernel
theorem mj_d_148_75 : decode mj_m_148.2.1 75 = .ok (.getfield 168, 3) := by decide +kernel
theorem mj_d_148_78 : decode mj_m_148.2.1 78 = .ok (.iconst 1, 1) := by decide +kernel
theorem mj_d_148_79 : decode mj_m_148.2.1 79 = .ok (.iadd, 1) := by decide +kernel
theorem mj_d_148_80 : decode mj_m_148.2.1 80 = .ok (.putfield 168, 3) := by decide +kernel
theorem mj_d_148_83 : decode mj_m_148.2.1 83 = .ok (.return_, 1) := by decide +kernel
theorem mj_d_153_0 : decode mj_m_153.2.1 0 = .ok (.aload_n 0, 1) := by decide +kernel
theorem mj_d_153_1 : decode mj_m_153.2.1 1 = .ok (.iload_n 1, 1) := by decide +kernel
theorem mj_d_153_2 : decode mj_m_153.2.1 2 = .ok (.invokevirtual 174, 3) := by decide +kernel
theorem mj_d_153_5 : decode mj_m_153.2.1 5 = .ok (.ifCond .ne 6, 3) := by decide +kernel
theorem mj_d_153_8 : decode mj_m_153.2.1 8 = .ok (.ldc 177, 2) := by decide +kernel
theorem mj_d_153_10 : decode mj_m_153.2.1 10 = .ok (.ireturn, 1) := by decide +kernel
theorem mj_d_153_11 : decode mj_m_153.2.1 11 = .ok (.iload_n 2, 1) := by decide +kernel
theorem mj_d_153_12 : decode mj_m_153.2.1 12 = .ok (.i2l, 1) := by decide +kernel
theorem mj_d_153_13 : decode mj_m_153.2.1 13 = .ok (.lconst 0, 1) := by decide +kernel
theorem mj_d_153_14 : decode mj_m_153.2.1 14 = .ok (.ldc2_w 181, 3) := by decide +kernel
theorem mj_d_153_17 : decode mj_m_153.2.1 17 = .ok (.invokestatic 79, 3) := by decide +kernel
theorem mj_d_153_20 : decode mj_m_153.2.1 20 = .ok (.ifCond .ne 6, 3) := by decide +kernel
theorem mj_d_153_23 : decode mj_m_153.2.1 23 = .ok (.ldc 88, 2) := by decide +kernel
theorem mj_d_153_25 : decode mj_m_153.2.1 25 = .ok (.ireturn, 1) := by decide +kernel
theorem mj_d_153_26 : decode mj_m_153.2.1 26 = .ok (.aload_n 0, 1) := by decide +kernel
theorem mj_d_153_27 : decode mj_m_153.2.1 27 = .ok (.invokevirtual 205, 3) := by decide +kernel
theorem mj_d_153_30 : decode mj_m_153.2.1 30 = .ok (.aload_n 0, 1) := by decide +kernel
theorem mj_d_153_31 : decode mj_m_153.2.1 31 = .ok (.getfield 7, 3) := by decide +kernel
theorem mj_d_153_34 : decode mj_m_153.2.1 34 = .ok (.iconst 2, 1) := by decide +kernel
theorem mj_d_153_35 : decode mj_m_153.2.1 35 = .ok (.iload_n 1, 1) := by decide +kernel
theorem mj_d_153_36 : decode mj_m_153.2.1 36 = .ok (.iadd, 1) := by decide +kernel
theorem mj_d_153_37 : decode mj_m_153.2.1 37 = .ok (.iaload, 1) := by decide +kernel
theorem mj_d_153_38 : decode mj_m_153.2.1 38 = .ok (.istore_n 3, 1) := by decide +kernel
theorem mj_d_153_39 : decode mj_m_153.2.1 39 = .ok (.aload_n 0, 1) := by decide +kernel
theorem mj_d_153_40 : decode mj_m_153.2.1 40 = .ok (.getfield 7, 3) := by decide +kernel
theorem mj_d_153_43 : decode mj_m_153.2.1 43 = .ok (.iconst 2, 1) := by decide +kernel
theorem mj_d_153_44 : decode mj_m_153.2.1 44 = .ok (.iload_n 1, 1) := by decide +kernel
theorem mj_d_153_45 : decode mj_m_153.2.1 45 = .ok (.iadd, 1) := by decide +kernel
theorem mj_d_153_46 : decode mj_m_153.2.1 46 = .ok (.iload_n 2, 1) := by decide +kernel
theorem mj_d_153_47 : decode mj_m_153.2.1 47 = .ok (.iastore, 1) := by decide +kernel
theorem mj_d_153_48 : decode mj_m_153.2.1 48 = .ok (.iload_n 3, 1) := by decide +kernel
theorem mj_d_153_49 : decode mj_m_153.2.1 49 = .ok (.ireturn, 1) := by decide +kernel
theorem mj_d_154_0 : decode mj_m_154.2.1 0 = .ok (.aload_n 0, 1) := by decide +kernel
theorem mj_d_154_1 : decode mj_m_154.2.1 1 = .ok (.getfield 72, 3) := by decide +kernel
theorem mj_d_154_4 : decode mj_m_154.2.1 4 = .ok (.ifCond .ne 6, 3) := by decide +kernel
theorem mj_d_154_7 : decode mj_m_154.2.1 7 = .ok (.ldc 204, 2) := by decide +kernel
theorem mj_d_154_9 : decode mj_m_154.2.1 9 = .ok (.ireturn, 1) := by decide +kernel
theorem mj_d_154_10 : decode mj_m_154.2.1 10 = .ok (.aload_n 0, 1) := by decide +kernel
theorem mj_d_154_11 : decode mj_m_154.2.1 11 = .ok (.invokevirtual 205, 3) := by decide +kernel
theorem mj_d_154_14 : decode mj_m_154.2.1 14 = .ok (.aload_n 0, 1) := by decide +kernel
theorem mj_d_154_15 : decode mj_m_154.2.1 15 = .ok (.invokevirtual 212, 3) := by decide +kernel
theorem mj_d_154_18 : decode mj_m_154.2.1 18 = .ok (.ireturn, 1) := by decide +kernel
theorem mj_d_155_0 : decode mj_m_155.2.1 0 = .ok (.iconst 0, 1) := by decide +kernel
theorem mj_d_155_1 : decode mj_m_155.2.1 1 = .ok (.istore_n 1, 1) := by decide +kernel
theorem mj_d_155_2 : decode mj_m_155.2.1 2 = .ok (.iconst 0, 1) := by decide +kernel
theorem mj_d_155_3 : decode mj_m_155.2.1 3 = .ok (.istore_n 2, 1) := by decide +kernel
theorem mj_d_155_4 : decode mj_m_155.2.1 4 = .ok (.iload_n 2, 1) := by decide +kernel
theorem mj_d_155_5 : decode mj_m_155.2.1 5 = .ok (.aload_n 0, 1) := by decide +kernel
theorem mj_d_155_6 : decode mj_m_155.2.1 6 = .ok (.getfield 76, 3) := by decide +kernel
theorem mj_d_155_9 : decode mj_m_155.2.1 9 = .ok (.if_icmp .ge 59, 3) := by decide +kernel
theorem mj_d_155_12 : decode mj_m_155.2.1 12 = .ok (.aload_n 0, 1) := by decide +kernel
theorem mj_d_155_13 : decode mj_m_155.2.1 13 = .ok (.getfield 159, 3) := by decide +kernel
theorem mj_d_155_16 : decode mj_m_155.2.1 16 = .ok (.aload_n 0, 1) := by decide +kernel
theorem mj_d_155_17 : decode mj_m_155.2.1 17 = .ok (.getfield 7, 3) := by decide +kernel
theorem mj_d_155_20 : decode mj_m_155.2.1 20 = .ok (.bipush 20, 2) := by decide +kernel
theorem mj_d_155_22 : decode mj_m_155.2.1 22 = .ok (.iload_n 2, 1) := by decide +kernel
theorem mj_d_155_23 : decode mj_m_155.2.1 23 = .ok (.iadd, 1) := by decide +kernel
theorem mj_d_155_24 : decode mj_m_155.2.1 24 = .ok (.iaload, 1) := by decide +kernel
theorem mj_d_155_25 : decode mj_m_155.2.1 25 = .ok (.if_icmp .ge 10, 3) := by decide +kernel
theorem mj_d_155_28 : decode mj_m_155.2.1 28 = .ok (.aload_n 0, 1) := by decide +kernel
theorem mj_d_155_29 : decode mj_m_155.2.1 29 = .ok (.getfield 159, 3) := by decide +kernel
theorem mj_d_155_32 : decode mj_m_155.2.1 32 = .ok (.goto 12, 3) := by decide +kernel
theorem mj_d_155_35 : decode mj_m_155.2.1 35 = .ok (.aload_n 0, 1) := by decide +kernel
theorem mj_d_155_36 : decode mj_m_155.2.1 36 = .ok (.getfield 7, 3) := by decide +kernel
theorem mj_d_155_39 : decode mj_m_155.2.1 39 = .ok (.bipush 20, 2) := by decide +kernel
theorem mj_d_155_41 : decode mj_m_155.2.1 41 = .ok (.iload_n 2, 1) := by decide +kernel
theorem mj_d_155_42 : decode mj_m_155.2.1 42 = .ok (.iadd, 1) := by decide +kernel
theorem mj_d_155_43 : decode mj_m_155.2.1 43 = .ok (.iaload, 1) := by decide +kernel
theorem mj_d_155_44 : decode mj_m_155.2.1 44 = .ok (.istore_n 3, 1) := by decide +kernel
theorem mj_d_155_45 : decode mj_m_155.2.1 45 = .ok (.aload_n 0, 1) := by decide +kernel
theorem mj_d_155_46 : decode mj_m_155.2.1 46 = .ok (.getfield 7, 3) := by decide +kernel
theorem mj_d_155_49 : decode mj_m_155.2.1 49 = .ok (.bipush 20, 2) := by decide +kernel
theorem mj_d_155_51 : decode mj_m_155.2.1 51 = .ok (.iload_n 2, 1) := by decide +kernel
theorem mj_d_155_52 : decode mj_m_155.2.1 52 = .ok (.iadd, 1) := by decide +kernel
theorem mj_d_155_53 : decode mj_m_155.2.1 53 = .ok (.dup2, 1) := by decide +kernel
theorem mj_d_155_54 : decode mj_m_155.2.1 54 = .ok (.iaload, 1) := by decide +kernel
theorem mj_d_155_55 : decode mj_m_155.2.1 55 = .ok (.iload_n 3, 1) := by decide +kernel
theorem mj_d_155_56 : decode mj_m_155.2.1 56 = .ok (.isub, 1) := by decide +kernel
theorem mj_d_155_57 : decode mj_m_155.2.1 57 = .ok (.iastore, 1) := by decide +kernel
theorem mj_d_155_58 : decode mj_m_155.2.1 58 = .ok (.iload_n 1, 1) := by decide +kernel
theorem mj_d_155_59 : decode mj_m_155.2.1 59 = .ok (.iload_n 3, 1) := by decide +kernel
theorem mj_d_155_60 : decode mj_m_155.2.1 60 = .ok (.iadd, 1) := by decide +kernel
theorem mj_d_155_61 : decode mj_m_155.2.1 61 = .ok (.istore_n 1, 1) := by decide +kernel
theorem mj_d_155_62 : decode mj_m_155.2.1 62 = .ok (.iinc 2 1, 3) := by decide +kernel
theorem mj_d_155_65 : decode mj_m_155.2.1 65 = .ok (.goto (-61), 3) := by decide +kernel
theorem mj_d_155_68 : decode mj_m_155.2.1 68 = .ok (.iload_n 1, 1) := by decide +kernel
theorem mj_d_155_69 : decode mj_m_155.2.1 69 = .ok (.ireturn, 1) := by decide +kernel
theorem mj_d_156_0 : decode mj_m_156.2.1 0 = .ok (.aload_n 0, 1) := by decide +kernel
theorem mj_d_156_1 : decode mj_m_156.2.1 1 = .ok (.iload_n 1, 1) := by decide +kernel
theorem mj_d_156_2 : decode mj_m_156.2.1 2 = .ok (.invokevirtual 174, 3) := by decide +kernel
theorem mj_d_156_5 : decode mj_m_156.2.1 5 = .ok (.ifCond .ne 6, 3) := by decide +kernel
theorem mj_d_156_8 : decode mj_m_156.2.1 8 = .ok (.ldc 177, 2) := by decide +kernel
theorem mj_d_156_10 : decode mj_m_156.2.1 10 = .ok (.ireturn, 1) := by decide +kernel
theorem mj_d_156_11 : decode mj_m_156.2.1 11 = .ok (.aload_n 0, 1) := by decide +kernel
theorem mj_d_156_12 : decode mj_m_156.2.1 12 = .ok (.invokevirtual 205, 3) := by decide +kernel
theorem mj_d_156_15 : decode mj_m_156.2.1 15 = .ok (.aload_n 0, 1) := by decide +kernel
theorem mj_d_156_16 : decode mj_m_156.2.1 16 = .ok (.getfield 7, 3) := by decide +kernel
theorem mj_d_156_19 : decode mj_m_156.2.1 19 = .ok (.bipush 20, 2) := by decide +kernel
theorem mj_d_156_21 : decode mj_m_156.2.1 21 = .ok (.iload_n 1, 1) := by decide +kernel
theorem mj_d_156_22 : decode mj_m_156.2.1 22 = .ok (.iadd, 1) := by decide +kernel
theorem mj_d_156_23 : decode mj_m_156.2.1 23 = .ok (.iaload, 1) := by decide +kernel
theorem mj_d_156_24 : decode mj_m_156.2.1 24 = .ok (.istore_n 2, 1) := by decide +kernel
theorem mj_d_156_25 : decode mj_m_156.2.1 25 = .ok (.aload_n 0, 1) := by decide +kernel
theorem mj_d_156_26 : decode mj_m_156.2.1 26 = .ok (.getfield 7, 3) := by decide +kernel
theorem mj_d_156_29 : decode mj_m_156.2.1 29 = .ok (.bipush 20, 2) := by decide +kernel
theorem mj_d_156_31 : decode mj_m_156.2.1 31 = .ok (.iload_n 1, 1) := by decide +kernel
theorem mj_d_156_32 : decode mj_m_156.2.1 32 = .ok (.iadd, 1) := by decide +kernel
theorem mj_d_156_33 : decode mj_m_156.2.1 33 = .ok (.iconst 0, 1) := by decide +kernel
theorem mj_d_156_34 : decode mj_m_156.2.1 34 = .ok (.iastore, 1) := by decide +kernel
theorem mj_d_156_35 : decode mj_m_156.2.1 35 = .ok (.iload_n 2, 1) := by decide +kernel
theorem mj_d_156_36 : decode mj_m_156.2.1 36 = .ok (.ireturn, 1) := by decide +kernel
theorem mj_d_157_0 : decode mj_m_157.2.1 0 = .ok (.aload_n 0, 1) := by decide +kernel
theorem mj_d_157_1 : decode mj_m_157.2.1 1 = .ok (.iload_n 1, 1) := by decide +kernel
theorem mj_d_157_2 : decode mj_m_157.2.1 2 = .ok (.invokevirtual 174, 3) := by decide +kernel
theorem mj_d_157_5 : decode mj_m_157.2.1 5 = .ok (.ifCond .eq 18, 3) := by decide +kernel
theorem mj_d_157_8 : decode mj_m_157.2.1 8 = .ok (.iload_n 2, 1) := by decide +kernel
theorem mj_d_157_9 : decode mj_m_157.2.1 9 = .ok (.i2l, 1) := by decide +kernel
theorem mj_d_157_10 : decode mj_m_157.2.1 10 = .ok (.ldc2_w 215, 3) := by decide +kernel
theorem mj_d_157_13 : decode mj_m_157.2.1 13 = .ok (.iload_n 1, 1) := by decide +kernel
theorem mj_d_157_14 : decode mj_m_157.2.1 14 = .ok (.iconst 1, 1) := by decide +kernel
theorem mj_d_157_15 : decode mj_m_157.2.1 15 = .ok (.isub, 1) := by decide +kernel
theorem mj_d_157_16 : decode mj_m_157.2.1 16 = .ok (.i2l, 1) := by decide +kernel
theorem mj_d_157_17 : decode mj_m_157.2.1 17 = .ok (.invokestatic 79, 3) := by decide +kernel
theorem mj_d_157_20 : decode mj_m_157.2.1 20 = .ok (.ifCond .ne 6, 3) := by decide +kernel
theorem mj_d_157_23 : decode mj_m_157.2.1 23 = .ok (.ldc 177, 2) := by decide +kernel
theorem mj_d_157_25 : decode mj_m_157.2.1 25 = .ok (.ireturn, 1) := by decide +kernel
theorem mj_d_157_26 : decode mj_m_157.2.1 26 = .ok (.aload_n 0, 1) := by decide +kernel
theorem mj_d_157_27 : decode mj_m_157.2.1 27 = .ok (.invokevirtual 205, 3) := by decide +kernel
theorem mj_d_157_30 : decode mj_m_157.2.1 30 = .ok (.aload_n 0, 1) := by decide +kernel
theorem mj_d_157_31 : decode mj_m_157.2.1 31 = .ok (.getfield 7, 3) := by decide +kernel
theorem mj_d_157_34 : decode mj_m_157.2.1 34 = .ok (.bipush 11, 2) := by decide +kernel
theorem mj_d_157_36 : decode mj_m_157.2.1 36 = .ok (.iload_n 1, 1) := by decide +kernel
theorem mj_d_157_37 : decode mj_m_157.2.1 37 = .ok (.iadd, 1) := by decide +kernel
theorem mj_d_157_38 : decode mj_m_157.2.1 38 = .ok (.iaload, 1) := by decide +kernel
theorem mj_d_157_39 : decode mj_m_157.2.1 39 = .ok (.istore_n 3, 1) := by decide +kernel
theorem mj_d_157_40 : decode mj_m_157.2.1 40 = .ok (.aload_n 0, 1) := by decide +kernel
theorem mj_d_157_41 : decode mj_m_157.2.1 41 = .ok (.getfield 7, 3) := by decide +kernel
theorem mj_d_157_44 : decode mj_m_157.2.1 44 = .ok (.bipush 11, 2) := by decide +kernel
theorem mj_d_157_46 : decode mj_m_157.2.1 46 = .ok (.iload_n 1, 1) := by decide +kernel
theorem mj_d_157_47 : decode mj_m_157.2.1 47 = .ok (.iadd, 1) := by decide +kernel
theorem mj_d_157_48 : decode mj_m_157.2.1 48 = .ok (.iload_n 2, 1) := by decide +kernel
theorem mj_d_157_49 : decode mj_m_157.2.1 49 = .ok (.iastore, 1) := by decide +kernel
theorem mj_d_157_50 : decode mj_m_157.2.1 50 = .ok (.iload_n 3, 1) := by decide +kernel
theorem mj_d_157_51 : decode mj_m_157.2.1 51 = .ok (.ireturn, 1) := by decide +kernel
theorem mj_d_158_0 : decode mj_m_158.2.1 0 = .ok (.aload_n 0, 1) := by decide +kernel
theorem mj_d_158_1 : decode mj_m_158.2.1 1 = .ok (.iload_n 1, 1) := by decide +kernel
theorem mj_d_158_2 : decode mj_m_158.2.1 2 = .ok (.iload_n 3, 1) := by decide +kernel
theorem mj_d_158_3 : decode mj_m_158.2.1 3 = .ok (.invokevirtual 220, 3) := by decide +kernel
theorem mj_d_158_6 : decode mj_m_158.2.1 6 = .ok (.ifCond .eq 20, 3) := by decide +kernel
theorem mj_d_158_9 : decode mj_m_158.2.1 9 = .ok (.aload_n 0, 1) := by decide +kernel
theorem mj_d_158_10 : decode mj_m_158.2.1 10 = .ok (.iload_n 2, 1) := by decide +kernel
theorem mj_d_158_11 : decode mj_m_158.2.1 11 = .ok (.invokevirtual 174, 3) := by decide +kernel
theorem mj_d_158_14 : decode mj_m_158.2.1 14 = .ok (.ifCond .eq 12, 3) := by decide +kernel
theorem mj_d_158_17 : decode mj_m_158.2.1 17 = .ok (.aload_n 0, 1) := by decide +kernel
theorem mj_d_158_18 : decode mj_m_158.2.1 18 = .ok (.iload 4, 2) := by decide +kernel
theorem mj_d_158_20 : decode mj_m_158.2.1 20 = .ok (.invokevirtual 174, 3) := by decide +kernel
theorem mj_d_158_23 : decode mj_m_158.2.1 23 = .ok (.ifCond .ne 6, 3) := by decide +kernel
theorem mj_d_158_26 : decode mj_m_158.2.1 26 = .ok (.ldc 177, 2) := by decide +kernel
theorem mj_d_158_28 : decode mj_m_158.2.1 28 = .ok (.ireturn, 1) := by decide +kernel
theorem mj_d_158_29 : decode mj_m_158.2.1 29 = .ok (.aload_n 0, 1) := by decide +kernel
theorem mj_d_158_30 : decode mj_m_158.2.1 30 = .ok (.iload_n 1, 1) := by decide +kernel
theorem mj_d_158_31 : decode mj_m_158.2.1 31 = .ok (.iload_n 2, 1) := by decide +kernel
theorem mj_d_158_32 : decode mj_m_158.2.1 32 = .ok (.invokevirtual 223, 3) := by decide +kernel
theorem mj_d_158_35 : decode mj_m_158.2.1 35 = .ok (.ifCond .eq 32, 3) := by decide +kernel
theorem mj_d_158_38 : decode mj_m_158.2.1 38 = .ok (.aload_n 0, 1) := by decide +kernel
theorem mj_d_158_39 : decode mj_m_158.2.1 39 = .ok (.iload_n 3, 1) := by decide +kernel
theorem mj_d_158_40 : decode mj_m_158.2.1 40 = .ok (.iload_n 2, 1) := by decide +kernel
theorem mj_d_158_41 : decode mj_m_158.2.1 41 = .ok (.invokevirtual 223, 3) := by decide +kernel
theorem mj_d_158_44 : decode mj_m_158.2.1 44 = .ok (.ifCond .ne 23, 3) := by decide +kernel
theorem mj_d_158_47 : decode mj_m_158.2.1 47 = .ok (.aload_n 0, 1) := by decide +kernel
theorem mj_d_158_48 : decode mj_m_158.2.1 48 = .ok (.iload_n 3, 1) := by decide +kernel
theorem mj_d_158_49 : decode mj_m_158.2.1 49 = .ok (.iload 4, 2) := by decide +kernel
theorem mj_d_158_51 : decode mj_m_158.2.1 51 = .ok (.invokevirtual 223, 3) := by decide +kernel
theorem mj_d_158_54 : decode mj_m_158.2.1 54 = .ok (.ifCond .eq 13, 3) := by decide +kernel
theorem mj_d_158_57 : decode mj_m_158.2.1 57 = .ok (.aload_n 0, 1) := by decide +kernel
theorem mj_d_158_58 : decode mj_m_158.2.1 58 = .ok (.iload_n 1, 1) := by decide +kernel
theorem mj_d_158_59 : decode mj_m_158.2.1 59 = .ok (.iload 4, 2) := by decide +kernel
theorem mj_d_158_61 : decode mj_m_158.2.1 61 = .ok (.invokevirtual 223, 3) := by decide +kernel
theorem mj_d_158_64 : decode mj_m_158.2.1 64 = .ok (.ifCond .eq 6, 3) := by decide +kernel
theorem mj_d_158_67 : decode mj_m_158.2.1 67 = .ok (.ldc 204, 2) := by decide +kernel
theorem mj_d_158_69 : decode mj_m_158.2.1 69 = .ok (.ireturn, 1) := by decide +kernel
theorem mj_d_158_70 : decode mj_m_158.2.1 70 = .ok (.aload_n 0, 1) := by decide +kernel
theorem mj_d_158_71 : decode mj_m_158.2.1 71 = .ok (.invokevirtual 205, 3) := by decide +kernel
theorem mj_d_158_74 : decode mj_m_158.2.1 74 = .ok (.aload_n 0, 1) := by decide +kernel
theorem mj_d_158_75 : decode mj_m_158.2.1 75 = .ok (.getfield 7, 3) := by decide +kernel
theorem mj_d_158_78 : decode mj_m_158.2.1 78 = .ok (.bipush 101, 2) := by decide +kernel
theorem mj_d_158_80 : decode mj_m_158.2.1 80 = .ok (.iload_n 1, 1) := by decide +kernel
theorem mj_d_158_81 : decode mj_m_158.2.1 81 = .ok (.iadd, 1) := by decide +kernel
theorem mj_d_158_82 : decode mj_m_158.2.1 82 = .ok (.dup2, 1) := by decide +kernel
theorem mj_d_158_83 : decode mj_m_158.2.1 83 = .ok (.iaload, 1) := by decide +kernel
theorem mj_d_158_84 : decode mj_m_158.2.1 84 = .ok (.iconst 1, 1) := by decide +kernel
theorem mj_d_158_85 : decode mj_m_158.2.1 85 = .ok (.iload 4, 2) := by decide +kernel
theorem mj_d_158_87 : decode mj_m_158.2.1 87 = .ok (.ishl, 1) := by decide +kernel
theorem mj_d_158_88 : decode mj_m_158.2.1 88 = .ok (.ior, 1) := by decide +kernel
theorem mj_d_158_89 : decode mj_m_158.2.1 89 = .ok (.iastore, 1) := by decide +kernel
theorem mj_d_158_90 : decode mj_m_158.2.1 90 = .ok (.aload_n 0, 1) := by decide +kernel
theorem mj_d_158_91 : decode mj_m_158.2.1 91 = .ok (.getfield 7, 3) := by decide +kernel
theorem mj_d_158_94 : decode mj_m_158.2.1 94 = .ok (.bipush 101, 2) := by decide +kernel
theorem mj_d_158_96 : decode mj_m_158.2.1 96 = .ok (.iload_n 3, 1) := by decide +kernel
theorem mj_d_158_97 : decode mj_m_158.2.1 97 = .ok (.iadd, 1) := by decide +kernel
theorem mj_d_158_98 : decode mj_m_158.2.1 98 = .ok (.dup2, 1) := by decide +kernel
theorem mj_d_158_99 : decode mj_m_158.2.1 99 = .ok (.iaload, 1) := by decide +kernel
theorem mj_d_158_100 : decode mj_m_158.2.1 100 = .ok (.iconst 1, 1) := by decide +kernel
theorem mj_d_158_101 : decode mj_m_158.2.1 101 = .ok (.iload_n 2, 1) := by decide +kernel
theorem mj_d_158_102 : decode mj_m_158.2.1 102 = .ok (.ishl, 1) := by decide +kernel
theorem mj_d_158_103 : decode mj_m_158.2.1 103 = .ok (.ior, 1) := by decide +kernel
theorem mj_d_158_104 : decode mj_m_158.2.1 104 = .ok (.iastore, 1) := by decide +kernel
theorem mj_d_158_105 : decode mj_m_158.2.1 105 = .ok (.aload_n 0, 1) := by decide +kernel
theorem mj_d_158_106 : decode mj_m_158.2.1 106 = .ok (.getfield 7, 3) := by decide +kernel
theorem mj_d_158_109 : decode mj_m_158.2.1 109 = .ok (.bipush 101, 2) := by decide +kernel
theorem mj_d_158_111 : decode mj_m_158.2.1 111 = .ok (.iload_n 1, 1) := by decide +kernel
theorem mj_d_158_112 : decode mj_m_158.2.1 112 = .ok (.iadd, 1) := by decide +kernel
theorem mj_d_158_113 : decode mj_m_158.2.1 113 = .ok (.iaload, 1) := by decide +kernel
theorem mj_d_158_114 : decode mj_m_158.2.1 114 = .ok (.ireturn, 1) := by decide +kernel
theorem mj_d_159_0 : decode mj_m_159.2.1 0 = .ok (.aload_n 0, 1) := by decide +kernel
theorem mj_d_159_1 : decode mj_m_159.2.1 1 = .ok (.iload_n 1, 1) := by decide +kernel
theorem mj_d_159_2 : decode mj_m_159.2.1 2 = .ok (.invokevirtual 187, 3) := by decide +kernel
theorem mj_d_159_5 : decode mj_m_159.2.1 5 = .ok (.ifCond .eq 20, 3) := by decide +kernel
theorem mj_d_159_8 : decode mj_m_159.2.1 8 = .ok (.aload_n 0, 1) := by decide +kernel
theorem mj_d_159_9 : decode mj_m_159.2.1 9 = .ok (.iload_n 2, 1) := by decide +kernel
theorem mj_d_159_10 : decode mj_m_159.2.1 10 = .ok (.invokevirtual 187, 3) := by decide +kernel
theorem mj_d_159_13 : decode mj_m_159.2.1 13 = .ok (.ifCond .eq 12, 3) := by decide +kernel
theorem mj_d_159_16 : decode mj_m_159.2.1 16 = .ok (.iload_n 1, 1) := by decide +kernel
theorem mj_d_159_17 : decode mj_m_159.2.1 17 = .ok (.iload_n 2, 1) := by decide +kernel
theorem mj_d_159_18 : decode mj_m_159.2.1 18 = .ok (.if_icmp .eq 7, 3) := by decide +kernel
theorem mj_d_159_21 : decode mj_m_159.2.1 21 = .ok (.iconst 1, 1) := by decide +kernel
theorem mj_d_159_22 : decode mj_m_159.2.1 22 = .ok (.goto 4, 3) := by decide +kernel
theorem mj_d_159_25 : decode mj_m_159.2.1 25 = .ok (.iconst 0, 1) := by decide +kernel
theorem mj_d_159_26 : decode mj_m_159.2.1 26 = .ok (.ireturn, 1) := by decide +kernel
theorem mj_d_160_0 : decode mj_m_160.2.1 0 = .ok (.aload_n 0, 1) := by decide +kernel
theorem mj_d_160_1 : decode mj_m_160.2.1 1 = .ok (.getfield 7, 3) := by decide +kernel
theorem mj_d_160_4 : decode mj_m_160.2.1 4 = .ok (.bipush 101, 2) := by decide +kernel
theorem mj_d_160_6 : decode mj_m_160.2.1 6 = .ok (.iload_n 1, 1) := by decide +kernel
theorem mj_d_160_7 : decode mj_m_160.2.1 7 = .ok (.iadd, 1) := by decide +kernel
theorem mj_d_160_8 : decode mj_m_160.2.1 8 = .ok (.iaload, 1) := by decide +kernel
theorem mj_d_160_9 : decode mj_m_160.2.1 9 = .ok (.iload_n 2, 1) := by decide +kernel
theorem mj_d_160_10 : decode mj_m_160.2.1 10 = .ok (.invokestatic 217, 3) := by decide +kernel
theorem mj_d_160_13 : decode mj_m_160.2.1 13 = .ok (.ireturn, 1) := by decide +kernel
theorem mj_d_162_0 : decode mj_m_162.2.1 0 = .ok (.aload_n 0, 1) := by decide +kernel
theorem mj_d_162_1 : decode mj_m_162.2.1 1 = .ok (.iload_n 1, 1) := by decide +kernel
theorem mj_d_162_2 : decode mj_m_162.2.1 2 = .ok (.iload_n 2, 1) := by decide +kernel
theorem mj_d_162_3 : decode mj_m_162.2.1 3 = .ok (.invokevirtual 220, 3) := by decide +kernel
theorem mj_d_162_6 : decode mj_m_162.2.1 6 = .ok (.ifCond .eq 11, 3) := by decide +kernel
theorem mj_d_162_9 : decode mj_m_162.2.1 9 = .ok (.aload_n 0, 1) := by decide +kernel
theorem mj_d_162_10 : decode mj_m_162.2.1 10 = .ok (.iload_n 3, 1) := by decide +kernel
theorem mj_d_162_11 : decode mj_m_162.2.1 11 = .ok (.invokevirtual 174, 3) := by decide +kernel
theorem mj_d_162_14 : decode mj_m_162.2.1 14 = .ok (.ifCond .ne 6, 3) := by decide +kernel
theorem mj_d_162_17 : decode mj_m_162.2.1 17 = .ok (.ldc 177, 2) := by decide +kernel
theorem mj_d_162_19 : decode mj_m_162.2.1 19 = .ok (.ireturn, 1) := by decide +kernel
theorem mj_d_162_20 : decode mj_m_162.2.1 20 = .ok (.aload_n 0, 1) := by decide +kernel
theorem mj_d_162_21 : decode mj_m_162.2.1 21 = .ok (.iload_n 2, 1) := by decide +kernel
theorem mj_d_162_22 : decode mj_m_162.2.1 22 = .ok (.iload_n 3, 1) := by decide +kernel
theorem mj_d_162_23 : decode mj_m_162.2.1 23 = .ok (.invokevirtual 223, 3) := by decide +kernel
theorem mj_d_162_26 : decode mj_m_162.2.1 26 = .ok (.ifCond .eq 12, 3) := by decide +kernel
theorem mj_d_162_29 : decode mj_m_162.2.1 29 = .ok (.aload_n 0, 1) := by decide +kernel
theorem mj_d_162_30 : decode mj_m_162.2.1 30 = .ok (.iload_n 1, 1) := by decide +kernel
theorem mj_d_162_31 : decode mj_m_162.2.1 31 = .ok (.iload_n 3, 1) := by decide +kernel
theorem mj_d_162_32 : decode mj_m_162.2.1 32 = .ok (.invokevirtual 223, 3) := by decide +kernel
theorem mj_d_162_35 : decode mj_m_162.2.1 35 = .ok (.ifCond .eq 6, 3) := by decide +kernel
theorem mj_d_162_38 : decode mj_m_162.2.1 38 = .ok (.ldc 204, 2) := by decide +kernel
theorem mj_d_162_40 : decode mj_m_162.2.1 40 = .ok (.ireturn, 1) := by decide +kernel
theorem mj_d_162_41 : decode mj_m_162.2.1 41 = .ok (.aload_n 0, 1) := by decide +kernel
theorem mj_d_162_42 : decode mj_m_162.2.1 42 = .ok (.invokevirtual 205, 3) := by decide +kernel
theorem mj_d_162_45 : decode mj_m_162.2.1 45 = .ok (.aload_n 0, 1) := by decide +kernel
theorem mj_d_162_46 : decode mj_m_162.2.1 46 = .ok (.getfield 7, 3) := by decide +kernel
theorem mj_d_162_49 : decode mj_m_162.2.1 49 = .ok (.bipush 101, 2) := by decide +kernel
theorem mj_d_162_51 : decode mj_m_162.2.1 51 = .ok (.iload_n 1, 1) := by decide +kernel
theorem mj_d_162_52 : decode mj_m_162.2.1 52 = .ok (.iadd, 1) := by decide +kernel
theorem mj_d_162_53 : decode mj_m_162.2.1 53 = .ok (.dup2, 1) := by decide +kernel
theorem mj_d_162_54 : decode mj_m_162.2.1 54 = .ok (.iaload, 1) := by decide +kernel
theorem mj_d_162_55 : decode mj_m_162.2.1 55 = .ok (.iconst 1, 1) := by decide +kernel
theorem mj_d_162_56 : decode mj_m_162.2.1 56 = .ok (.iload_n 3, 1) := by decide +kernel
theorem mj_d_162_57 : decode mj_m_162.2.1 57 = .ok (.ishl, 1) := by decide +kernel
theorem mj_d_162_58 : decode mj_m_162.2.1 58 = .ok (.ior, 1) := by decide +kernel
theorem mj_d_162_59 : decode mj_m_162.2.1 59 = .ok (.iastore, 1) := by decide +kernel
theorem mj_d_162_60 : decode mj_m_162.2.1 60 = .ok (.aload_n 0, 1) := by decide +kernel
theorem mj_d_162_61 : decode mj_m_162.2.1 61 = .ok (.getfield 7, 3) := by decide +kernel
theorem mj_d_162_64 : decode mj_m_162.2.1 64 = .ok (.bipush 106, 2) := by decide +kernel
theorem mj_d_162_66 : decode mj_m_162.2.1 66 = .ok (.iload_n 1, 1) := by decide +kernel
theorem mj_d_162_67 : decode mj_m_162.2.1 67 = .ok (.iadd, 1) := by decide +kernel
theorem mj_d_162_68 : decode mj_m_162.2.1 68 = .ok (.dup2, 1) := by decide +kernel
theorem mj_d_162_69 : decode mj_m_162.2.1 69 = .ok (.iaload, 1) := by decide +kernel
theorem mj_d_162_70 : decode mj_m_162.2.1 70 = .ok (.aload_n 0, 1) := by decide +kernel
theorem mj_d_162_71 : decode mj_m_162.2.1 71 = .ok (.getfield 17, 3) := by decide +kernel
theorem mj_d_162_74 : decode mj_m_162.2.1 74 = .ok (.iload_n 2, 1) := by decide +kernel
theorem mj_d_162_75 : decode mj_m_162.2.1 75 = .ok (.iaload, 1) := by decide +kernel
theorem mj_d_162_76 : decode mj_m_162.2.1 76 = .ok (.isub, 1) := by decide +kernel
theorem mj_d_162_77 : decode mj_m_162.2.1 77 = .ok (.iastore, 1) := by decide +kernel
theorem mj_d_162_78 : decode mj_m_162.2.1 78 = .ok (.aload_n 0, 1) := by decide +kernel
theorem mj_d_162_79 : decode mj_m_162.2.1 79 = .ok (.getfield 7, 3) := by decide +kernel
theorem mj_d_162_82 : decode mj_m_162.2.1 82 = .ok (.bipush 106, 2) := by decide +kernel
theorem mj_d_162_84 : decode mj_m_162.2.1 84 = .ok (.iload_n 2, 1) := by decide +kernel
theorem mj_d_162_85 : decode mj_m_162.2.1 85 = .ok (.iadd, 1) := by decide +kernel
theorem mj_d_162_86 : decode mj_m_162.2.1 86 = .ok (.dup2, 1) := by decide +kernel
theorem mj_d_162_87 : decode mj_m_162.2.1 87 = .ok (.iaload, 1) := by decide +kernel
theorem mj_d_162_88 : decode mj_m_162.2.1 88 = .ok (.aload_n 0, 1) := by decide +kernel
theorem mj_d_162_89 : decode mj_m_162.2.1 89 = .ok (.getfield 17, 3) := by decide +kernel
theorem mj_d_162_92 : decode mj_m_162.2.1 92 = .ok (.iload_n 2, 1) := by decide +kernel
theorem mj_d_162_93 : decode mj_m_162.2.1 93 = .ok (.iaload, 1) := by decide +kernel
theorem mj_d_162_94 : decode mj_m_162.2.1 94 = .ok (.iadd, 1) := by decide +kernel
theorem mj_d_162_95 : decode mj_m_162.2.1 95 = .ok (.iastore, 1) := by decide +kernel
theorem mj_d_162_96 : decode mj_m_162.2.1 96 = .ok (.aload_n 0, 1) := by decide +kernel
theorem mj_d_162_97 : decode mj_m_162.2.1 97 = .ok (.getfield 7, 3) := by decide +kernel
theorem mj_d_162_100 : decode mj_m_162.2.1 100 = .ok (.iconst 1, 1) := by decide +kernel
theorem mj_d_162_101 : decode mj_m_162.2.1 101 = .ok (.dup2, 1) := by decide +kernel
theorem mj_d_162_102 : decode mj_m_162.2.1 102 = .ok (.iaload, 1) := by decide +kernel
theorem mj_d_162_103 : decode mj_m_162.2.1 103 = .ok (.aload_n 0, 1) := by decide +kernel
theorem mj_d_162_104 : decode mj_m_162.2.1 104 = .ok (.getfield 17, 3) := by decide +kernel
theorem mj_d_162_107 : decode mj_m_162.2.1 107 = .ok (.iload_n 2, 1) := by decide +kernel
theorem mj_d_162_108 : decode mj_m_162.2.1 108 = .ok (.iaload, 1) := by decide +kernel
theorem mj_d_162_109 : decode mj_m_162.2.1 109 = .ok (.iadd, 1) := by decide +kernel
theorem mj_d_162_110 : decode mj_m_162.2.1 110 = .ok (.iastore, 1) := by decide +kernel
theorem mj_d_162_111 : decode mj_m_162.2.1 111 = .ok (.aload_n 0, 1) := by decide +kernel
theorem mj_d_162_112 : decode mj_m_162.2.1 112 = .ok (.getfield 17, 3) := by decide +kernel
theorem mj_d_162_115 : decode mj_m_162.2.1 115 = .ok (.iload_n 2, 1) := by decide +kernel
theorem mj_d_162_116 : decode mj_m_162.2.1 116 = .ok (.iaload, 1) := by decide +kernel
theorem mj_d_162_117 : decode mj_m_162.2.1 117 = .ok (.ireturn, 1) := by decide +kernel
theorem mj_d_164_0 : decode mj_m_164.2.1 0 = .ok (.aload_n 0, 1) := by decide +kernel
theorem mj_d_164_1 : decode mj_m_164.2.1 1 = .ok (.getfield 7, 3) := by decide +kernel
theorem mj_d_164_4 : decode mj_m_164.2.1 4 = .ok (.bipush 111, 2) := by decide +kernel
theorem mj_d_164_6 : decode mj_m_164.2.1 6 = .ok (.aload_n 0, 1) := by decide +kernel
theorem mj_d_164_7 : decode mj_m_164.2.1 7 = .ok (.getfield 7, 3) := by decide +kernel
theorem mj_d_164_10 : decode mj_m_164.2.1 10 = .ok (.bipush 111, 2) := by decide +kernel
theorem mj_d_164_12 : decode mj_m_164.2.1 12 = .ok (.iaload, 1) := by decide +kernel
theorem mj_d_164_13 : decode mj_m_164.2.1 13 = .ok (.i2l, 1) := by decide +kernel
theorem mj_d_164_14 : decode mj_m_164.2.1 14 = .ok (.ldc2_w 226, 3) := by decide +kernel
theorem mj_d_164_17 : decode mj_m_164.2.1 17 = .ok (.lmul, 1) := by decide +kernel
theorem mj_d_164_18 : decode mj_m_164.2.1 18 = .ok (.ldc2_w 228, 3) := by decide +kernel
theorem mj_d_164_21 : decode mj_m_164.2.1 21 = .ok (.ladd, 1) := by decide +kernel
theorem mj_d_164_22 : decode mj_m_164.2.1 22 = .ok (.ldc2_w 230, 3) := by decide +kernel
theorem mj_d_164_25 : decode mj_m_164.2.1 25 = .ok (.lrem, 1) := by decide +kernel
theorem mj_d_164_26 : decode mj_m_164.2.1 26 = .ok (.l2i, 1) := by decide +kernel
theorem mj_d_164_27 : decode mj_m_164.2.1 27 = .ok (.iastore, 1) := by decide +kernel
theorem mj_d_164_28 : decode mj_m_164.2.1 28 = .ok (.aload_n 0, 1) := by decide +kernel
theorem mj_d_164_29 : decode mj_m_164.2.1 29 = .ok (.getfield 7, 3) := by decide +kernel
theorem mj_d_164_32 : decode mj_m_164.2.1 32 = .ok (.bipush 111, 2) := by decide +kernel
theorem mj_d_164_34 : decode mj_m_164.2.1 34 = .ok (.iaload, 1) := by decide +kernel
theorem mj_d_164_35 : decode mj_m_164.2.1 35 = .ok (.ldc 232, 2) := by decide +kernel
theorem mj_d_164_37 : decode mj_m_164.2.1 37 = .ok (.idiv, 1) := by decide +kernel
theorem mj_d_164_38 : decode mj_m_164.2.1 38 = .ok (.iload_n 1, 1) := by decide +kernel
theorem mj_d_164_39 : decode mj_m_164.2.1 39 = .ok (.irem, 1) := by decide +kernel
theorem mj_d_164_40 : decode mj_m_164.2.1 40 = .ok (.ireturn, 1) := by decide +kernel
theorem mj_d_165_0 : decode mj_m_165.2.1 0 = .ok (.iload_n 1, 1) := by decide +kernel
theorem mj_d_165_1 : decode mj_m_165.2.1 1 = .ok (.i2l, 1) := by decide +kernel
theorem mj_d_165_2 : decode mj_m_165.2.1 2 = .ok (.lconst 1, 1) := by decide +kernel
theorem mj_d_165_3 : decode mj_m_165.2.1 3 = .ok (.ldc2_w 202, 3) := by decide +kernel
theorem mj_d_165_6 : decode mj_m_165.2.1 6 = .ok (.invokestatic 79, 3) := by decide +kernel
theorem mj_d_165_9 : decode mj_m_165.2.1 9 = .ok (.ifCond .ne 6, 3) := by decide +kernel
theorem mj_d_165_12 : decode mj_m_165.2.1 12 = .ok (.ldc 88, 2) := by decide +kernel
theorem mj_d_165_14 : decode mj_m_165.2.1 14 = .ok (.ireturn, 1) := by decide +kernel
theorem mj_d_165_15 : decode mj_m_165.2.1 15 = .ok (.iload_n 1, 1) := by decide +kernel
theorem mj_d_165_16 : decode mj_m_165.2.1 16 = .ok (.aload_n 0, 1) := by decide +kernel
theorem mj_d_165_17 : decode mj_m_165.2.1 17 = .ok (.getfield 168, 3) := by decide +kernel
theorem mj_d_165_20 : decode mj_m_165.2.1 20 = .ok (.if_icmp .le 6, 3) := by decide +kernel
theorem mj_d_165_23 : decode mj_m_165.2.1 23 = .ok (.ldc 204, 2) := by decide +kernel
theorem mj_d_165_25 : decode mj_m_165.2.1 25 = .ok (.ireturn, 1) := by decide +kernel
theorem mj_d_165_26 : decode mj_m_165.2.1 26 = .ok (.aload_n 0, 1) := by decide +kernel
theorem mj_d_165_27 : decode mj_m_165.2.1 27 = .ok (.getfield 7, 3) := by decide +kernel
theorem mj_d_165_30 : decode mj_m_165.2.1 30 = .ok (.bipush 111, 2) := by decide +kernel
theorem mj_d_165_32 : decode mj_m_165.2.1 32 = .ok (.iaload, 1) := by decide +kernel
theorem mj_d_165_33 : decode mj_m_165.2.1 33 = .ok (.istore_n 2, 1) := by decide +kernel
theorem mj_d_165_34 : decode mj_m_165.2.1 34 = .ok (.aload_n 0, 1) := by decide +kernel
theorem mj_d_165_35 : decode mj_m_165.2.1 35 = .ok (.dup, 1) := by decide +kernel
theorem mj_d_165_36 : decode mj_m_165.2.1 36 = .ok (.getfield 168, 3) := by decide +kernel
theorem mj_d_165_39 : decode mj_m_165.2.1 39 = .ok (.iload_n 1, 1) := by decide +kernel
theorem mj_d_165_40 : decode mj_m_165.2.1 40 = .ok (.isub, 1) := by decide +kernel
theorem mj_d_165_41 : decode mj_m_165.2.1 41 = .ok (.putfield 168, 3) := by decide +kernel
theorem mj_d_165_44 : decode mj_m_165.2.1 44 = .ok (.aload_n 0, 1) := by decide +kernel
theorem mj_d_165_45 : decode mj_m_165.2.1 45 = .ok (.sipush 448, 3) := by decide +kernel
theorem mj_d_165_48 : decode mj_m_165.2.1 48 = .ok (.bipush 112, 2) := by decide +kernel
theorem mj_d_165_50 : decode mj_m_165.2.1 50 = .ok (.aload_n 0, 1) := by decide +kernel
theorem mj_d_165_51 : decode mj_m_165.2.1 51 = .ok (.getfield 168, 3) := by decide +kernel
theorem mj_d_165_54 : decode mj_m_165.2.1 54 = .ok (.imul, 1) := by decide +kernel
theorem mj_d_165_55 : decode mj_m_165.2.1 55 = .ok (.iadd, 1) := by decide +kernel
theorem mj_d_165_56 : decode mj_m_165.2.1 56 = .ok (.iconst 0, 1) := by decide +kernel
theorem mj_d_165_57 : decode mj_m_165.2.1 57 = .ok (.invokevirtual 198, 3) := by decide +kernel
theorem mj_d_165_60 : decode mj_m_165.2.1 60 = .ok (.aload_n 0, 1) := by decide +kernel
theorem mj_d_165_61 : decode mj_m_165.2.1 61 = .ok (.getfield 7, 3) := by decide +kernel
theorem mj_d_165_64 : decode mj_m_165.2.1 64 = .ok (.bipush 111, 2) := by decide +kernel
theorem mj_d_165_66 : decode mj_m_165.2.1 66 = .ok (.iload_n 2, 1) := by decide +kernel
theorem mj_d_165_67 : decode mj_m_165.2.1 67 = .ok (.iastore, 1) := by decide +kernel
theorem mj_d_165_68 : decode mj_m_165.2.1 68 = .ok (.aload_n 0, 1) := by decide +kernel
theorem mj_d_165_69 : decode mj_m_165.2.1 69 = .ok (.getfield 7, 3) := by decide +kernel
theorem mj_d_165_72 : decode mj_m_165.2.1 72 = .ok (.iconst 0, 1) := by decide +kernel
theorem mj_d_165_73 : decode mj_m_165.2.1 73 = .ok (.iaload, 1) := by decide +kernel
theorem mj_d_165_74 : decode mj_m_165.2.1 74 = .ok (.ireturn, 1) := by decide +kernel
theorem mj_d_175_0 : decode mj_m_175.2.1 0 = .ok (.aload_n 0, 1) := by decide +kernel
theorem mj_d_175_1 : decode mj_m_175.2.1 1 = .ok (.getfield 51, 3) := by decide +kernel
theorem mj_d_175_4 : decode mj_m_175.2.1 4 = .ok (.iload_n 2, 1) := by decide +kernel
theorem mj_d_175_5 : decode mj_m_175.2.1 5 = .ok (.iaload, 1) := by decide +kernel
theorem mj_d_175_6 : decode mj_m_175.2.1 6 = .ok (.aload_n 0, 1) := by decide +kernel
theorem mj_d_175_7 : decode mj_m_175.2.1 7 = .ok (.getfield 7, 3) := by decide +kernel
theorem mj_d_175_10 : decode mj_m_175.2.1 10 = .ok (.bipush 101, 2) := by decide +kernel
theorem mj_d_175_12 : decode mj_m_175.2.1 12 = .ok (.iload_n 1, 1) := by decide +kernel
theorem mj_d_175_13 : decode mj_m_175.2.1 13 = .ok (.iadd, 1) := by decide +kernel
theorem mj_d_175_14 : decode mj_m_175.2.1 14 = .ok (.iaload, 1) := by decide +kernel
theorem mj_d_175_15 : decode mj_m_175.2.1 15 = .ok (.aload_n 0, 1) := by decide +kernel
theorem mj_d_175_16 : decode mj_m_175.2.1 16 = .ok (.getfield 7, 3) := by decide +kernel
theorem mj_d_175_19 : decode mj_m_175.2.1 19 = .ok (.bipush 101, 2) := by decide +kernel
theorem mj_d_175_21 : decode mj_m_175.2.1 21 = .ok (.iload_n 2, 1) := by decide +kernel
theorem mj_d_175_22 : decode mj_m_175.2.1 22 = .ok (.iadd, 1) := by decide +kernel
theorem mj_d_175_23 : decode mj_m_175.2.1 23 = .ok (.iaload, 1) := by decide +kernel
theorem mj_d_175_24 : decode mj_m_175.2.1 24 = .ok (.iconst (-1), 1) := by decide +kernel
theorem mj_d_175_25 : decode mj_m_175.2.1 25 = .ok (.ixor, 1) := by decide +kernel
theorem mj_d_175_26 : decode mj_m_175.2.1 26 = .ok (.iand, 1) := by decide +kernel
theorem mj_d_175_27 : decode mj_m_175.2.1 27 = .ok (.invokestatic 251, 3) := by decide +kernel
theorem mj_d_175_30 : decode mj_m_175.2.1 30 = .ok (.if_icmp .ge 7, 3) := by decide +kernel
theorem mj_d_175_33 : decode mj_m_175.2.1 33 = .ok (.iconst 0, 1) := by decide +kernel
theorem mj_d_175_34 : decode mj_m_175.2.1 34 = .ok (.goto 9, 3) := by decide +kernel
theorem mj_d_175_37 : decode mj_m_175.2.1 37 = .ok (.aload_n 0, 1) := by decide +kernel
theorem mj_d_175_38 : decode mj_m_175.2.1 38 = .ok (.getfield 17, 3) := by decide +kernel
theorem mj_d_175_41 : decode mj_m_175.2.1 41 = .ok (.iload_n 2, 1) := by decide +kernel
theorem mj_d_175_42 : decode mj_m_175.2.1 42 = .ok (.iaload, 1) := by decide +kernel
theorem mj_d_175_43 : decode mj_m_175.2.1 43 = .ok (.ireturn, 1) := by decide +kernel
theorem mj_d_179_0 : decode mj_m_179.2.1 0 = .ok (.aload_n 0, 1) := by decide +kernel
theorem mj_d_179_1 : decode mj_m_179.2.1 1 = .ok (.getfield 7, 3) := by decide +kernel
theorem mj_d_179_4 : decode mj_m_179.2.1 4 = .ok (.bipush 101, 2) := by decide +kernel
theorem mj_d_179_6 : decode mj_m_179.2.1 6 = .ok (.iload_n 1, 1) := by decide +kernel
theorem mj_d_179_7 : decode mj_m_179.2.1 7 = .ok (.iadd, 1) := by decide +kernel
theorem mj_d_179_8 : decode mj_m_179.2.1 8 = .ok (.iaload, 1) := by decide +kernel
theorem mj_d_179_9 : decode mj_m_179.2.1 9 = .ok (.aload_n 0, 1) := by decide +kernel
theorem mj_d_179_10 : decode mj_m_179.2.1 10 = .ok (.getfield 7, 3) := by decide +kernel
theorem mj_d_179_13 : decode mj_m_179.2.1 13 = .ok (.bipush 101, 2) := by decide +kernel
theorem mj_d_179_15 : decode mj_m_179.2.1 15 = .ok (.iload_n 2, 1) := by decide +kernel
theorem mj_d_179_16 : decode mj_m_179.2.1 16 = .ok (.iadd, 1) := by decide +kernel
theorem mj_d_179_17 : decode mj_m_179.2.1 17 = .ok (.iaload, 1) := by decide +kernel
theorem mj_d_179_18 : decode mj_m_179.2.1 18 = .ok (.iconst (-1), 1) := by decide +kernel
theorem mj_d_179_19 : decode mj_m_179.2.1 19 = .ok (.ixor, 1) := by decide +kernel
theorem mj_d_179_20 : decode mj_m_179.2.1 20 = .ok (.iand, 1) := by decide +kernel
theorem mj_d_179_21 : decode mj_m_179.2.1 21 = .ok (.ifCond .eq 7, 3) := by decide +kernel
theorem mj_d_179_24 : decode mj_m_179.2.1 24 = .ok (.iconst 1, 1) := by decide +kernel
theorem mj_d_179_25 : decode mj_m_179.2.1 25 = .ok (.goto 4, 3) := by decide +kernel
theorem mj_d_179_28 : decode mj_m_179.2.1 28 = .ok (.iconst 0, 1) := by decide +kernel
theorem mj_d_179_29 : decode mj_m_179.2.1 29 = .ok (.ireturn, 1) := by decide +kernel
theorem mj_d_181_0 : decode mj_m_181.2.1 0 = .ok (.iload_n 1, 1) := by decide +kernel
theorem mj_d_181_1 : decode mj_m_181.2.1 1 = .ok (.i2l, 1) := by decide +kernel
theorem mj_d_181_2 : decode mj_m_181.2.1 2 = .ok (.lconst 0, 1) := by decide +kernel
theorem mj_d_181_3 : decode mj_m_181.2.1 3 = .ok (.ldc2_w 268, 3) := by decide +kernel
theorem mj_d_181_6 : decode mj_m_181.2.1 6 = .ok (.invokestatic 79, 3) := by decide +kernel
theorem mj_d_181_9 : decode mj_m_181.2.1 9 = .ok (.ifCond .eq 15, 3) := by decide +kernel
theorem mj_d_181_12 : decode mj_m_181.2.1 12 = .ok (.iload_n 2, 1) := by decide +kernel
theorem mj_d_181_13 : decode mj_m_181.2.1 13 = .ok (.i2l, 1) := by decide +kernel
theorem mj_d_181_14 : decode mj_m_181.2.1 14 = .ok (.lconst 0, 1) := by decide +kernel
theorem mj_d_181_15 : decode mj_m_181.2.1 15 = .ok (.ldc2_w 270, 3) := by decide +kernel
theorem mj_d_181_18 : decode mj_m_181.2.1 18 = .ok (.invokestatic 79, 3) := by decide +kernel
theorem mj_d_181_21 : decode mj_m_181.2.1 21 = .ok (.ifCond .ne 6, 3) := by decide +kernel
theorem mj_d_181_24 : decode mj_m_181.2.1 24 = .ok (.ldc 88, 2) := by decide +kernel
theorem mj_d_181_26 : decode mj_m_181.2.1 26 = .ok (.ireturn, 1) := by decide +kernel
theorem mj_d_181_27 : decode mj_m_181.2.1 27 = .ok (.ldc2_w 272, 3) := by decide +kernel
theorem mj_d_181_30 : decode mj_m_181.2.1 30 = .ok (.lstore_n 3, 1) := by decide +kernel
theorem mj_d_181_31 : decode mj_m_181.2.1 31 = .ok (.iconst 0, 1) := by decide +kernel
theorem mj_d_181_32 : decode mj_m_181.2.1 32 = .ok (.istore 5, 2) := by decide +kernel
theorem mj_d_181_34 : decode mj_m_181.2.1 34 = .ok (.iload 5, 2) := by decide +kernel
theorem mj_d_181_36 : decode mj_m_181.2.1 36 = .ok (.iload_n 1, 1) := by decide +kernel
theorem mj_d_181_37 : decode mj_m_181.2.1 37 = .ok (.if_icmp .ge 46, 3) := by decide +kernel
theorem mj_d_181_40 : decode mj_m_181.2.1 40 = .ok (.iload_n 2, 1) := by decide +kernel
theorem mj_d_181_41 : decode mj_m_181.2.1 41 = .ok (.iconst 2, 1) := by decide +kernel
theorem mj_d_181_42 : decode mj_m_181.2.1 42 = .ok (.iload 5, 2) := by decide +kernel
theorem mj_d_181_44 : decode mj_m_181.2.1 44 = .ok (.imul, 1) := by decide +kernel
theorem mj_d_181_45 : decode mj_m_181.2.1 45 = .ok (.iadd, 1) := by decide +kernel
theorem mj_d_181_46 : decode mj_m_181.2.1 46 = .ok (.bipush 100, 2) := by decide +kernel
theorem mj_d_181_48 : decode mj_m_181.2.1 48 = .ok (.if_icmp .le 8, 3) := by decide +kernel
theorem mj_d_181_51 : decode mj_m_181.2.1 51 = .ok (.bipush 100, 2) := by decide +kernel
theorem mj_d_181_53 : decode mj_m_181.2.1 53 = .ok (.goto 9, 3) := by decide +kernel
theorem mj_d_181_56 : decode mj_m_181.2.1 56 = .ok (.iload_n 2, 1) := by decide +kernel
theorem mj_d_181_57 : decode mj_m_181.2.1 57 = .ok (.iconst 2, 1) := by decide +kernel
theorem mj_d_181_58 : decode mj_m_181.2.1 58 = .ok (.iload 5, 2) := by decide +kernel
theorem mj_d_181_60 : decode mj_m_181.2.1 60 = .ok (.imul, 1) := by decide +kernel
theorem mj_d_181_61 : decode mj_m_181.2.1 61 = .ok (.iadd, 1) := by decide +kernel
theorem mj_d_181_62 : decode mj_m_181.2.1 62 = .ok (.istore 6, 2) := by decide +kernel
theorem mj_d_181_64 : decode mj_m_181.2.1 64 = .ok (.lload_n 3, 1) := by decide +kernel
theorem mj_d_181_65 : decode mj_m_181.2.1 65 = .ok (.bipush 100, 2) := by decide +kernel
theorem mj_d_181_67 : decode mj_m_181.2.1 67 = .ok (.iload 6, 2) := by decide +kernel
theorem mj_d_181_69 : decode mj_m_181.2.1 69 = .ok (.isub, 1) := by decide +kernel
theorem mj_d_181_70 : decode mj_m_181.2.1 70 = .ok (.i2l, 1) := by decide +kernel
theorem mj_d_181_71 : decode mj_m_181.2.1 71 = .ok (.lmul, 1) := by decide +kernel
theorem mj_d_181_72 : decode mj_m_181.2.1 72 = .ok (.ldc2_w 270, 3) := by decide +kernel
theorem mj_d_181_75 : decode mj_m_181.2.1 75 = .ok (.ldiv, 1) := by decide +kernel
theorem mj_d_181_76 : decode mj_m_181.2.1 76 = .ok (.lstore_n 3, 1) := by decide +kernel
theorem mj_d_181_77 : decode mj_m_181.2.1 77 = .ok (.iinc 5 1, 3) := by decide +kernel
theorem mj_d_181_80 : decode mj_m_181.2.1 80 = .ok (.goto (-46), 3) := by decide +kernel
theorem mj_d_181_83 : decode mj_m_181.2.1 83 = .ok (.lload_n 3, 1) := by decide +kernel
theorem mj_d_181_84 : decode mj_m_181.2.1 84 = .ok (.l2i, 1) := by decide +kernel
theorem mj_d_181_85 : decode mj_m_181.2.1 85 = .ok (.ireturn, 1) := by decide +kernel
theorem mj_d_182_0 : decode mj_m_182.2.1 0 = .ok (.aload_n 0, 1) := by decide +kernel
theorem mj_d_182_1 : decode mj_m_182.2.1 1 = .ok (.iload_n 1, 1) := by decide +kernel
theorem mj_d_182_2 : decode mj_m_182.2.1 2 = .ok (.invokevirtual 174, 3) := by decide +kernel
theorem mj_d_182_5 : decode mj_m_182.2.1 5 = .ok (.ifCond .ne 6, 3) := by decide +kernel
theorem mj_d_182_8 : decode mj_m_182.2.1 8 = .ok (.ldc 177, 2) := by decide +kernel
theorem mj_d_182_10 : decode mj_m_182.2.1 10 = .ok (.ireturn, 1) := by decide +kernel
theorem mj_d_182_11 : decode mj_m_182.2.1 11 = .ok (.iload_n 2, 1) := by decide +kernel
theorem mj_d_182_12 : decode mj_m_182.2.1 12 = .ok (.i2l, 1) := by decide +kernel
theorem mj_d_182_13 : decode mj_m_182.2.1 13 = .ok (.lconst 1, 1) := by decide +kernel
theorem mj_d_182_14 : decode mj_m_182.2.1 14 = .ok (.ldc2_w 181, 3) := by decide +kernel
theorem mj_d_182_17 : decode mj_m_182.2.1 17 = .ok (.invokestatic 79, 3) := by decide +kernel
theorem mj_d_182_20 : decode mj_m_182.2.1 20 = .ok (.ifCond .ne 6, 3) := by decide +kernel
theorem mj_d_182_23 : decode mj_m_182.2.1 23 = .ok (.ldc 88, 2) := by decide +kernel
theorem mj_d_182_25 : decode mj_m_182.2.1 25 = .ok (.ireturn, 1) := by decide +kernel
theorem mj_d_182_26 : decode mj_m_182.2.1 26 = .ok (.aload_n 0, 1) := by decide +kernel
theorem mj_d_182_27 : decode mj_m_182.2.1 27 = .ok (.getfield 162, 3) := by decide +kernel
theorem mj_d_182_30 : decode mj_m_182.2.1 30 = .ok (.bipush 6, 2) := by decide +kernel
theorem mj_d_182_32 : decode mj_m_182.2.1 32 = .ok (.if_icmp .ne 6, 3) := by decide +kernel
theorem mj_d_182_35 : decode mj_m_182.2.1 35 = .ok (.ldc 92, 2) := by decide +kernel
theorem mj_d_182_37 : decode mj_m_182.2.1 37 = .ok (.ireturn, 1) := by decide +kernel
theorem mj_d_182_38 : decode mj_m_182.2.1 38 = .ok (.aload_n 0, 1) := by decide +kernel
theorem mj_d_182_39 : decode mj_m_182.2.1 39 = .ok (.getfield 57, 3) := by decide +kernel
theorem mj_d_182_42 : decode mj_m_182.2.1 42 = .ok (.aload_n 0, 1) := by decide +kernel
theorem mj_d_182_43 : decode mj_m_182.2.1 43 = .ok (.getfield 162, 3) := by decide +kernel
theorem mj_d_182_46 : decode mj_m_182.2.1 46 = .ok (.iload_n 1, 1) := by decide +kernel
theorem mj_d_182_47 : decode mj_m_182.2.1 47 = .ok (.iastore, 1) := by decide +kernel
theorem mj_d_182_48 : decode mj_m_182.2.1 48 = .ok (.aload_n 0, 1) := by decide +kernel
theorem mj_d_182_49 : decode mj_m_182.2.1 49 = .ok (.getfield 60, 3) := by decide +kernel
theorem mj_d_182_52 : decode mj_m_182.2.1 52 = .ok (.aload_n 0, 1) := by decide +kernel
theorem mj_d_182_53 : decode mj_m_182.2.1 53 = .ok (.getfield 162, 3) := by decide +kernel
theorem mj_d_182_56 : decode mj_m_182.2.1 56 = .ok (.iload_n 2, 1) := by decide +kernel
theorem mj_d_182_57 : decode mj_m_182.2.1 57 = .ok (.iastore, 1) := by decide +kernel
theorem mj_d_182_58 : decode mj_m_182.2.1 58 = .ok (.aload_n 0, 1) := by decide +kernel
theorem mj_d_182_59 : decode mj_m_182.2.1 59 = .ok (.getfield 63, 3) := by decide +kernel
theorem mj_d_182_62 : decode mj_m_182.2.1 62 = .ok (.aload_n 0, 1) := by decide +kernel
theorem mj_d_182_63 : decode mj_m_182.2.1 63 = .ok (.getfield 162, 3) := by decide +kernel
theorem mj_d_182_66 : decode mj_m_182.2.1 66 = .ok (.iload_n 3, 1) := by decide +kernel
theorem mj_d_182_67 : decode mj_m_182.2.1 67 = .ok (.bastore, 1) := by decide +kernel
theorem mj_d_182_68 : decode mj_m_182.2.1 68 = .ok (.aload_n 0, 1) := by decide +kernel
theorem mj_d_182_69 : decode mj_m_182.2.1 69 = .ok (.dup, 1) := by decide +kernel
theorem mj_d_182_70 : decode mj_m_182.2.1 70 = .ok (.getfield 162, 3) := by decide +kernel
theorem mj_d_182_73 : decode mj_m_182.2.1 73 = .ok (.iconst 1, 1) := by decide +kernel
theorem mj_d_182_74 : decode mj_m_182.2.1 74 = .ok (.iadd, 1) := by decide +kernel
theorem mj_d_182_75 : decode mj_m_182.2.1 75 = .ok (.putfield 162, 3) := by decide +kernel
theorem mj_d_182_78 : decode mj_m_182.2.1 78 = .ok (.aload_n 0, 1) := by decide +kernel
theorem mj_d_182_79 : decode mj_m_182.2.1 79 = .ok (.getfield 162, 3) := by decide +kernel
theorem mj_d_182_82 : decode mj_m_182.2.1 82 = .ok (.ireturn, 1) := by decide +kernel
theorem mj_d_184_0 : decode mj_m_184.2.1 0 = .ok (.aload_n 0, 1) := by decide +kernel
theorem mj_d_184_1 : decode mj_m_184.2.1 1 = .ok (.iload_n 1, 1) := by decide +kernel
theorem mj_d_184_2 : decode mj_m_184.2.1 2 = .ok (.invokevirtual 174, 3) := by decide +kernel
theorem mj_d_184_5 : decode mj_m_184.2.1 5 = .ok (.ifCond .ne 6, 3) := by decide +kernel
theorem mj_d_184_8 : decode mj_m_184.2.1 8 = .ok (.ldc 177, 2) := by decide +kernel
theorem mj_d_184_10 : decode mj_m_184.2.1 10 = .ok (.ireturn, 1) := by decide +kernel
theorem mj_d_184_11 : decode mj_m_184.2.1 11 = .ok (.iload_n 2, 1) := by decide +kernel
theorem mj_d_184_12 : decode mj_m_184.2.1 12 = .ok (.i2l, 1) := by decide +kernel
theorem mj_d_184_13 : decode mj_m_184.2.1 13 = .ok (.lconst 0, 1) := by decide +kernel
theorem mj_d_184_14 : decode mj_m_184.2.1 14 = .ok (.ldc2_w 181, 3) := by decide +kernel
theorem mj_d_184_17 : decode mj_m_184.2.1 17 = .ok (.invokestatic 79, 3) := by decide +kernel
theorem mj_d_184_20 : decode mj_m_184.2.1 20 = .ok (.ifCond .ne 6, 3) := by decide +kernel
theorem mj_d_184_23 : decode mj_m_184.2.1 23 = .ok (.ldc 88, 2) := by decide +kernel
theorem mj_d_184_25 : decode mj_m_184.2.1 25 = .ok (.ireturn, 1) := by decide +kernel
theorem mj_d_184_26 : decode mj_m_184.2.1 26 = .ok (.aload_n 0, 1) := by decide +kernel
theorem mj_d_184_27 : decode mj_m_184.2.1 27 = .ok (.getfield 165, 3) := by decide +kernel
theorem mj_d_184_30 : decode mj_m_184.2.1 30 = .ok (.bipush 20, 2) := by decide +kernel
theorem mj_d_184_32 : decode mj_m_184.2.1 32 = .ok (.if_icmp .ne 6, 3) := by decide +kernel
theorem mj_d_184_35 : decode mj_m_184.2.1 35 = .ok (.ldc 92, 2) := by decide +kernel
theorem mj_d_184_37 : decode mj_m_184.2.1 37 = .ok (.ireturn, 1) := by decide +kernel
theorem mj_d_184_38 : decode mj_m_184.2.1 38 = .ok (.aload_n 0, 1) := by decide +kernel
theorem mj_d_184_39 : decode mj_m_184.2.1 39 = .ok (.getfield 66, 3) := by decide +kernel
theorem mj_d_184_42 : decode mj_m_184.2.1 42 = .ok (.aload_n 0, 1) := by decide +kernel
theorem mj_d_184_43 : decode mj_m_184.2.1 43 = .ok (.getfield 165, 3) := by decide +kernel
theorem mj_d_184_46 : decode mj_m_184.2.1 46 = .ok (.iload_n 1, 1) := by decide +kernel
theorem mj_d_184_47 : decode mj_m_184.2.1 47 = .ok (.iastore, 1) := by decide +kernel
theorem mj_d_184_48 : decode mj_m_184.2.1 48 = .ok (.aload_n 0, 1) := by decide +kernel
theorem mj_d_184_49 : decode mj_m_184.2.1 49 = .ok (.getfield 69, 3) := by decide +kernel
theorem mj_d_184_52 : decode mj_m_184.2.1 52 = .ok (.aload_n 0, 1) := by decide +kernel
theorem mj_d_184_53 : decode mj_m_184.2.1 53 = .ok (.getfield 165, 3) := by decide +kernel
theorem mj_d_184_56 : decode mj_m_184.2.1 56 = .ok (.iload_n 2, 1) := by decide +kernel
theorem mj_d_184_57 : decode mj_m_184.2.1 57 = .ok (.iastore, 1) := by decide +kernel
theorem mj_d_184_58 : decode mj_m_184.2.1 58 = .ok (.aload_n 0, 1) := by decide +kernel
theorem mj_d_184_59 : decode mj_m_184.2.1 59 = .ok (.dup, 1) := by decide +kernel
theorem mj_d_184_60 : decode mj_m_184.2.1 60 = .ok (.getfield 165, 3) := by decide +kernel
theorem mj_d_184_63 : decode mj_m_184.2.1 63 = .ok (.iconst 1, 1) := by decide +kernel
theorem mj_d_184_64 : decode mj_m_184.2.1 64 = .ok (.iadd, 1) := by decide +kernel
theorem mj_d_184_65 : decode mj_m_184.2.1 65 = .ok (.putfield 165, 3) := by decide +kernel
theorem mj_d_184_68 : decode mj_m_184.2.1 68 = .ok (.aload_n 0, 1) := by decide +kernel
theorem mj_d_184_69 : decode mj_m_184.2.1 69 = .ok (.getfield 165, 3) := by decide +kernel
theorem mj_d_184_72 : decode mj_m_184.2.1 72 = .ok (.ireturn, 1) := by decide +kernel
theorem mj_d_185_0 : decode mj_m_185.2.1 0 = .ok (.iconst 0, 1) := by decide +kernel
theorem mj_d_185_1 : decode mj_m_185.2.1 1 = .ok (.istore_n 1, 1) := by decide +kernel
theorem mj_d_185_2 : decode mj_m_185.2.1 2 = .ok (.iload_n 1, 1) := by decide +kernel
theorem mj_d_185_3 : decode mj_m_185.2.1 3 = .ok (.aload_n 0, 1) := by decide +kernel
theorem mj_d_185_4 : decode mj_m_185.2.1 4 = .ok (.getfield 165, 3) := by decide +kernel
theorem mj_d_185_7 : decode mj_m_185.2.1 7 = .ok (.if_icmp .ge 30, 3) := by decide +kernel
theorem mj_d_185_10 : decode mj_m_185.2.1 10 = .ok (.aload_n 0, 1) := by decide +kernel
theorem mj_d_185_11 : decode mj_m_185.2.1 11 = .ok (.aload_n 0, 1) := by decide +kernel
theorem mj_d_185_12 : decode mj_m_185.2.1 12 = .ok (.getfield 66, 3) := by decide +kernel
theorem mj_d_185_15 : decode mj_m_185.2.1 15 = .ok (.iload_n 1, 1) := by decide +kernel
theorem mj_d_185_16 : decode mj_m_185.2.1 16 = .ok (.iaload, 1) := by decide +kernel
theorem mj_d_185_17 : decode mj_m_185.2.1 17 = .ok (.invokevirtual 178, 3) := by decide +kernel
theorem mj_d_185_20 : decode mj_m_185.2.1 20 = .ok (.aload_n 0, 1) := by decide +kernel
theorem mj_d_185_21 : decode mj_m_185.2.1 21 = .ok (.getfield 69, 3) := by decide +kernel
theorem mj_d_185_24 : decode mj_m_185.2.1 24 = .ok (.iload_n 1, 1) := by decide +kernel
theorem mj_d_185_25 : decode mj_m_185.2.1 25 = .ok (.iaload, 1) := by decide +kernel
theorem mj_d_185_26 : decode mj_m_185.2.1 26 = .ok (.if_icmp .eq 5, 3) := by decide +kernel
theorem mj_d_185_29 : decode mj_m_185.2.1 29 = .ok (.iload_n 1, 1) := by decide +kernel
theorem mj_d_185_30 : decode mj_m_185.2.1 30 = .ok (.ireturn, 1) := by decide +kernel
theorem mj_d_185_31 : decode mj_m_185.2.1 31 = .ok (.iinc 1 1, 3) := by decide +kernel
theorem mj_d_185_34 : decode mj_m_185.2.1 34 = .ok (.goto (-32), 3) := by decide +kernel
theorem mj_d_185_37 : decode mj_m_185.2.1 37 = .ok (.iconst (-1), 1) := by decide +kernel
theorem mj_d_185_38 : decode mj_m_185.2.1 38 = .ok (.ireturn, 1) := by decide +kernel
theorem mj_d_186_0 : decode mj_m_186.2.1 0 = .ok (.aload_n 0, 1) := by decide +kernel
theorem mj_d_186_1 : decode mj_m_186.2.1 1 = .ok (.getfield 162, 3) := by decide +kernel
theorem mj_d_186_4 : decode mj_m_186.2.1 4 = .ok (.aload_n 0, 1) := by decide +kernel
theorem mj_d_186_5 : decode mj_m_186.2.1 5 = .ok (.getfield 165, 3) := by decide +kernel
theorem mj_d_186_8 : decode mj_m_186.2.1 8 = .ok (.iadd, 1) := by decide +kernel
theorem mj_d_186_9 : decode mj_m_186.2.1 9 = .ok (.istore_n 1, 1) := by decide +kernel
theorem mj_d_186_10 : decode mj_m_186.2.1 10 = .ok (.aload_n 0, 1) := by decide +kernel
theorem mj_d_186_11 : decode mj_m_186.2.1 11 = .ok (.iconst 0, 1) := by decide +kernel
theorem mj_d_186_12 : decode mj_m_186.2.1 12 = .ok (.putfield 162, 3) := by decide +kernel
theorem mj_d_186_15 : decode mj_m_186.2.1 15 = .ok (.aload_n 0, 1) := by decide +kernel
theorem mj_d_186_16 : decode mj_m_186.2.1 16 = .ok (.iconst 0, 1) := by decide +kernel
theorem mj_d_186_17 : decode mj_m_186.2.1 17 = .ok (.putfield 165, 3) := by decide +kernel
theorem mj_d_186_20 : decode mj_m_186.2.1 20 = .ok (.iload_n 1, 1) := by decide +kernel
theorem mj_d_186_21 : decode mj_m_186.2.1 21 = .ok (.ireturn, 1) := by decide +kernel
theorem mj_d_187_0 : decode mj_m_187.2.1 0 = .ok (.iload_n 1, 1) := by decide +kernel
theorem mj_d_187_1 : decode mj_m_187.2.1 1 = .ok (.ifCond .ge 6, 3) := by decide +kernel
theorem mj_d_187_4 : decode mj_m_187.2.1 4 = .ok (.ldc 88, 2) := by decide +kernel
theorem mj_d_187_6 : decode mj_m_187.2.1 6 = .ok (.ireturn, 1) := by decide +kernel
theorem mj_d_187_7 : decode mj_m_187.2.1 7 = .ok (.aload_n 0, 1) := by decide +kernel
theorem mj_d_187_8 : decode mj_m_187.2.1 8 = .ok (.getfield 7, 3) := by decide +kernel
theorem mj_d_187_11 : decode mj_m_187.2.1 11 = .ok (.bipush 111, 2) := by decide +kernel
theorem mj_d_187_13 : decode mj_m_187.2.1 13 = .ok (.iaload, 1) := by decide +kernel
theorem mj_d_187_14 : decode mj_m_187.2.1 14 = .ok (.istore_n 2, 1) := by decide +kernel
theorem mj_d_187_15 : decode mj_m_187.2.1 15 = .ok (.aload_n 0, 1) := by decide +kernel
theorem mj_d_187_16 : decode mj_m_187.2.1 16 = .ok (.getfield 7, 3) := by decide +kernel
theorem mj_d_187_19 : decode mj_m_187.2.1 19 = .ok (.bipush 111, 2) := by decide +kernel
theorem mj_d_187_21 : decode mj_m_187.2.1 21 = .ok (.iload_n 1, 1) := by decide +kernel
theorem mj_d_187_22 : decode mj_m_187.2.1 22 = .ok (.iastore, 1) := by decide +kernel
theorem mj_d_187_23 : decode mj_m_187.2.1 23 = .ok (.iload_n 2, 1) := by decide +kernel
theorem mj_d_187_24 : decode mj_m_187.2.1 24 = .ok (.ireturn, 1) := by decide +kernel
theorem mj_d_188_0 : decode mj_m_188.2.1 0 = .ok (.iload_n 1, 1) := by decide +kernel
theorem mj_d_188_1 : decode mj_m_188.2.1 1 = .ok (.i2l, 1) := by decide +kernel
theorem mj_d_188_2 : decode mj_m_188.2.1 2 = .ok (.lconst 0, 1) := by decide +kernel
theorem mj_d_188_3 : decode mj_m_188.2.1 3 = .ok (.lconst 1, 1) := by decide +kernel
theorem mj_d_188_4 : decode mj_m_188.2.1 4 = .ok (.invokestatic 79, 3) := by decide +kernel
theorem mj_d_188_7 : decode mj_m_188.2.1 7 = .ok (.ifCond .ne 6, 3) := by decide +kernel
theorem mj_d_188_10 : decode mj_m_188.2.1 10 = .ok (.ldc 177, 2) := by decide +kernel
theorem mj_d_188_12 : decode mj_m_188.2.1 12 = .ok (.ireturn, 1) := by decide +kernel
theorem mj_d_188_13 : decode mj_m_188.2.1 13 = .ok (.aload_n 0, 1) := by decide +kernel
theorem mj_d_188_14 : decode mj_m_188.2.1 14 = .ok (.iconst 0, 1) := by decide +kernel
theorem mj_d_188_15 : decode mj_m_188.2.1 15 = .ok (.sipush 224, 3) := by decide +kernel
theorem mj_d_188_18 : decode mj_m_188.2.1 18 = .ok (.bipush 112, 2) := by decide +kernel
theorem mj_d_188_20 : decode mj_m_188.2.1 20 = .ok (.iload_n 1, 1) := by decide +kernel
theorem mj_d_188_21 : decode mj_m_188.2.1 21 = .ok (.imul, 1) := by decide +kernel
theorem mj_d_188_22 : decode mj_m_188.2.1 22 = .ok (.iadd, 1) := by decide +kernel
theorem mj_d_188_23 : decode mj_m_188.2.1 23 = .ok (.invokevirtual 198, 3) := by decide +kernel
theorem mj_d_188_26 : decode mj_m_188.2.1 26 = .ok (.aload_n 0, 1) := by decide +kernel
theorem mj_d_188_27 : decode mj_m_188.2.1 27 = .ok (.getfield 13, 3) := by decide +kernel
theorem mj_d_188_30 : decode mj_m_188.2.1 30 = .ok (.iload_n 1, 1) := by decide +kernel
theorem mj_d_188_31 : decode mj_m_188.2.1 31 = .ok (.iconst 1, 1) := by decide +kernel
theorem mj_d_188_32 : decode mj_m_188.2.1 32 = .ok (.bastore, 1) := by decide +kernel
theorem mj_d_188_33 : decode mj_m_188.2.1 33 = .ok (.aload_n 0, 1) := by decide +kernel
theorem mj_d_188_34 : decode mj_m_188.2.1 34 = .ok (.iconst 0, 1) := by decide +kernel
theorem mj_d_188_35 : decode mj_m_188.2.1 35 = .ok (.putfield 168, 3) := by decide +kernel
theorem mj_d_188_38 : decode mj_m_188.2.1 38 = .ok (.iconst 1, 1) := by decide +kernel
theorem mj_d_188_39 : decode mj_m_188.2.1 39 = .ok (.ireturn, 1) := by decide +kernel
theorem mj_d_189_0 : decode mj_m_189.2.1 0 = .ok (.iload_n 1, 1) := by decide +kernel
theorem mj_d_189_1 : decode mj_m_189.2.1 1 = .ok (.i2l, 1) := by decide +kernel
theorem mj_d_189_2 : decode mj_m_189.2.1 2 = .ok (.lconst 0, 1) := by decide +kernel
theorem mj_d_189_3 : decode mj_m_189.2.1 3 = .ok (.lconst 1, 1) := by decide +kernel
theorem mj_d_189_4 : decode mj_m_189.2.1 4 = .ok (.invokestatic 79, 3) := by decide +kernel
theorem mj_d_189_7 : decode mj_m_189.2.1 7 = .ok (.ifCond .ne 6, 3) := by decide +kernel
theorem mj_d_189_10 : decode mj_m_189.2.1 10 = .ok (.ldc 177, 2) := by decide +kernel
theorem mj_d_189_12 : decode mj_m_189.2.1 12 = .ok (.ireturn, 1) := by decide +kernel
theorem mj_d_189_13 : decode mj_m_189.2.1 13 = .ok (.aload_n 0, 1) := by decide +kernel
theorem mj_d_189_14 : decode mj_m_189.2.1 14 = .ok (.getfield 13, 3) := by decide +kernel
theorem mj_d_189_17 : decode mj_m_189.2.1 17 = .ok (.iload_n 1, 1) := by decide +kernel
theorem mj_d_189_18 : decode mj_m_189.2.1 18 = .ok (.baload, 1) := by decide +kernel
theorem mj_d_189_19 : decode mj_m_189.2.1 19 = .ok (.ifCond .ne 6, 3) := by decide +kernel
theorem mj_d_189_22 : decode mj_m_189.2.1 22 = .ok (.ldc 204, 2) := by decide +kernel
theorem mj_d_189_24 : decode mj_m_189.2.1 24 = .ok (.ireturn, 1) := by decide +kernel
theorem mj_d_189_25 : decode mj_m_189.2.1 25 = .ok (.aload_n 0, 1) := by decide +kernel
theorem mj_d_189_26 : decode mj_m_189.2.1 26 = .ok (.sipush 224, 3) := by decide +kernel
theorem mj_d_189_29 : decode mj_m_189.2.1 29 = .ok (.bipush 112, 2) := by decide +kernel
theorem mj_d_189_31 : decode mj_m_189.2.1 31 = .ok (.iload_n 1, 1) := by decide +kernel
theorem mj_d_189_32 : decode mj_m_189.2.1 32 = .ok (.imul, 1) := by decide +kernel
theorem mj_d_189_33 : decode mj_m_189.2.1 33 = .ok (.iadd, 1) := by decide +kernel
theorem mj_d_189_34 : decode mj_m_189.2.1 34 = .ok (.iconst 0, 1) := by decide +kernel
theorem mj_d_189_35 : decode mj_m_189.2.1 35 = .ok (.invokevirtual 198, 3) := by decide +kernel
theorem mj_d_189_38 : decode mj_m_189.2.1 38 = .ok (.aload_n 0, 1) := by decide +kernel
theorem mj_d_189_39 : decode mj_m_189.2.1 39 = .ok (.iconst 0, 1) := by decide +kernel
theorem mj_d_189_40 : decode mj_m_189.2.1 40 = .ok (.putfield 168, 3) := by decide +kernel
theorem mj_d_189_43 : decode mj_m_189.2.1 43 = .ok (.iconst 1, 1) := by decide +kernel
theorem mj_d_189_44 : decode mj_m_189.2.1 44 = .ok (.ireturn, 1) := by decide +kernel
def dc_R_minds_11 (n : Nat) : sg_S → Int → sg_S := Nat.rec (fun (s : sg_S) l1 => s) (fun _ ih => fun s l1 => (if 3248 ≤ l1 then (sg_up (dc_R_copy (sg_up s 234 2 ((s 234 2) - 1)) 0 (448 + (112 * ((s 234 2) - 1)))) 234 2 (((s 234 2) - 1) + 1)) else (ih (sg_up s 235 ((448 + l1).toNat) (s 235 (((448 + l1) + 112).toNat))) (l1 + 1)))) n
theorem dc_R_minds_11_s (n : Nat) (s : sg_S) (l1 : Int) : dc_R_minds_11 (n + 1) s l1 = (if 3248 ≤ l1 then (sg_up (dc_R_copy (sg_up s 234 2 ((s 234 2) - 1)) 0 (448 + (112 * ((s 234 2) - 1)))) 234 2 (((s 234 2) - 1) + 1)) else ((dc_R_minds_11 n) (sg_up s 235 ((448 + l1).toNat) (s 235 (((448 + l1) + 112).toNat))) (l1 + 1))) := rfl
def dc_R_minds (s : sg_S) : sg_S := (if (s 234 2) = 30 then (dc_R_minds_11 3249 s 0) else (sg_up (dc_R_copy s 0 (448 + (112 * (s 234 2)))) 234 2 ((s 234 2) + 1)))
def dw_R_minds (a k : Nat) : Bool := dw_R_copy a k || (a == 234 && k == 2) || (a == 235)
theorem dr_R_minds_11 (a k : Nat) (h : dw_R_minds a k = false) : ∀ (n : Nat) (s : sg_S) (l1 : Int), (dc_R_minds_11 n s l1) a k = s a k := by
  have h0 := h
  unfold dw_R_minds at h
  simp only [Bool.or_eq_false_iff] at h
  obtain ⟨⟨h1, h2⟩, h3⟩ := h
  intro n
  induction n with
  | zero => intro s l1; rfl
  | succ n ih =>
    intro s l1
    rw [dc_R_minds_11_s]
    (repeat' split) <;> simp only [(fun s x0 x1 => dr_R_copy s x0 x1 a k h1), (fun s z => sg_upf (s := s) (z := z) h2), (fun s l z => sg_upa (s := s) (l := l) (z := z) (k := k) h3), ih]
theorem dr_R_minds (s : sg_S) (a k : Nat) (h : dw_R_minds a k = false) : (dc_R_minds s) a k = s a k := by
  have h0 := h
  unfold dw_R_minds at h
  simp only [Bool.or_eq_false_iff] at h
  obtain ⟨⟨h1, h2⟩, h3⟩ := h
  unfold dc_R_minds
  (repeat' split) <;> simp only [(fun s x0 x1 => dr_R_copy s x0 x1 a k h1), (fun s z => sg_upf (s := s) (z := z) h2), (fun s l z => sg_upa (s := s) (l := l) (z := z) (k := k) h3), (dr_R_minds_11 a k h0)]
set_option maxRecDepth 100000 in
theorem dt_R_minds_11 : ∀ (n : Nat) {h : mj_H} (hH : sy_H h) {l1 : Int} (b_l1 : 0 ≤ l1) (t_l1 : l1 ≤ 3248) (i0 : (sy_rd h 234 2) = 30) (hm : 3248 - l1 < (n : Int)), sy_wp (mj_m_148, 11, [(0, .ref 234), (1, sy_i l1)], [], h) (dq3 (dc_R_minds_11 n (sy_rd h) l1)) := by
  intro n
  induction n with
  | zero =>
    intro h hH l1 b_l1 t_l1 i0 hm
    exact absurd hm (by omega)
  | succ n ih =>
    intro h hH l1 b_l1 t_l1 i0 hm
    rw [dc_R_minds_11_s]
    refine sy_st (S' := (mj_m_148, 12, [(0, .ref 234), (1, sy_i l1)], [sy_i l1], h)) mj_d_148_11 (fun _ _ => rfl) ?_
    refine sy_sip mj_d_148_12 (by decide) ?_
    refine sy_icm mj_d_148_15 rfl ⟨by omega, by omega⟩ ⟨by omega, by omega⟩ (fun (c1 : 3248 ≤ l1) => ?_) (fun (c1 : ¬ (3248 ≤ l1)) => ?_)
    · skip
      rw [if_pos c1]
      refine sy_st (S' := (mj_m_148, 48, [(0, .ref 234), (1, sy_i l1)], [.ref 234], h)) mj_d_148_47 (fun _ _ => rfl) ?_
      refine sy_st (S' := (mj_m_148, 49, [(0, .ref 234), (1, sy_i l1)], [.ref 234, .ref 234], h)) mj_d_148_48 (fun _ _ => rfl) ?_
      refine sy_gf mj_d_148_49 rfl rfl (by decide) rfl hH ?_
      intro x2 ex2 bx2 tx2
      replace ex2 : x2 = sy_rd h 234 2 := ex2
      subst ex2
      refine sy_st (S' := (mj_m_148, 53, [(0, .ref 234), (1, sy_i l1)], [sy_i 1, sy_i (sy_rd h 234 2), .ref 234], h)) mj_d_148_52 (fun _ _ => rfl) ?_
      refine sy_sub mj_d_148_53 ?_
      refine sg_pf (z := ((sy_rd h 234 2) - 1)) mj_d_148_54 rfl rfl (by decide) (Or.inl rfl) rfl hH (by omega) (by omega) ⟨by omega, by omega⟩ ?_
      intro h3 th3 eh3
      refine sy_st (S' := (mj_m_148, 58, [(0, .ref 234), (1, sy_i l1)], [.ref 234], h3)) mj_d_148_57 (fun _ _ => rfl) ?_
      refine sy_st (S' := (mj_m_148, 59, [(0, .ref 234), (1, sy_i l1)], [sy_i 0, .ref 234], h3)) mj_d_148_58 (fun _ _ => rfl) ?_
      refine sy_sip mj_d_148_59 (by decide) ?_
      refine sy_bip mj_d_148_62 (by decide) ?_
      refine sy_st (S' := (mj_m_148, 65, [(0, .ref 234), (1, sy_i l1)], [.ref 234, sy_i 112, sy_i 448, sy_i 0, .ref 234], h3)) mj_d_148_64 (fun _ _ => rfl) ?_
      refine sy_gf mj_d_148_65 rfl rfl (by decide) rfl th3 ?_
      intro x4 ex4 bx4 tx4
      replace ex4 : x4 = sy_rd h3 234 2 := ex4
      rw [eh3, sg_eq] at ex4
      subst ex4
      refine sy_mul mj_d_148_68 ?_
      refine sy_add mj_d_148_69 ?_
      refine sy_cv (M' := mj_m_149) (vs := [.ref 234, sy_i 0, sy_i (448 + (112 * ((sy_rd h 234 2) - 1)))]) (rest := []) mj_d_148_70 rfl rfl rfl rfl th3 rfl rfl ⟨by decide, ⟨Nat.le_of_ble_eq_true rfl, Nat.le_of_ble_eq_true rfl, Nat.le_of_ble_eq_true rfl, Nat.le_of_ble_eq_true rfl, Nat.le_of_ble_eq_true rfl⟩⟩ (dt_R_copy (a1 := 0) (a2 := (448 + (112 * ((sy_rd h 234 2) - 1)))) th3 (by omega) (by omega) (by omega) (by omega) (by first | omega | assumption) (by first | omega | assumption)) ?_
      rintro _ h5 ⟨rfl, th5, eh5⟩
      rw [eh3] at eh5
      show sy_wp (mj_m_148, 73, [(0, .ref 234), (1, sy_i l1)], [], h5) _
      refine sy_st (S' := (mj_m_148, 74, [(0, .ref 234), (1, sy_i l1)], [.ref 234], h5)) mj_d_148_73 (fun _ _ => rfl) ?_
      refine sy_st (S' := (mj_m_148, 75, [(0, .ref 234), (1, sy_i l1)], [.ref 234, .ref 234], h5)) mj_d_148_74 (fun _ _ => rfl) ?_
      refine sy_gf mj_d_148_75 rfl rfl (by decide) rfl th5 ?_
      intro x7 ex7 bx7 tx7
      replace ex7 : x7 = sy_rd h5 234 2 := ex7
      rw [eh5, dr_R_copy _ _ _ 234 2 rfl, sg_eq] at ex7
      subst ex7
      refine sy_st (S' := (mj_m_148, 79, [(0, .ref 234), (1, sy_i l1)], [sy_i 1, sy_i ((sy_rd h 234 2) - 1), .ref 234], h5)) mj_d_148_78 (fun _ _ => rfl) ?_
      refine sy_add mj_d_148_79 ?_
      refine sg_pf (z := (((sy_rd h 234 2) - 1) + 1)) mj_d_148_80 rfl rfl (by decide) (Or.inl rfl) rfl th5 (by omega) (by omega) ⟨by omega, by omega⟩ ?_
      intro h8 th8 eh8
      rw [eh5] at eh8
      exact sy_retv mj_d_148_83 rfl ⟨rfl, th8, eh8⟩
    · skip
      rw [if_neg c1]
      refine sy_st (S' := (mj_m_148, 19, [(0, .ref 234), (1, sy_i l1)], [.ref 234], h)) mj_d_148_18 (fun _ _ => rfl) ?_
      refine sy_gr2 (b := 235) mj_d_148_19 rfl rfl (by decide) rfl rfl hH ?_
      refine sy_sip mj_d_148_22 (by decide) ?_
      refine sy_st (S' := (mj_m_148, 26, [(0, .ref 234), (1, sy_i l1)], [sy_i l1, sy_i 448, .ref 235], h)) mj_d_148_25 (fun _ _ => rfl) ?_
      refine sy_add mj_d_148_26 ?_
      refine sy_st (S' := (mj_m_148, 28, [(0, .ref 234), (1, sy_i l1)], [.ref 234, sy_i (448 + l1), .ref 235], h)) mj_d_148_27 (fun _ _ => rfl) ?_
      refine sy_gr2 (b := 235) mj_d_148_28 rfl rfl (by decide) rfl rfl hH ?_
      refine sy_sip mj_d_148_31 (by decide) ?_
      refine sy_st (S' := (mj_m_148, 35, [(0, .ref 234), (1, sy_i l1)], [sy_i l1, sy_i 448, .ref 235, sy_i (448 + l1), .ref 235], h)) mj_d_148_34 (fun _ _ => rfl) ?_
      refine sy_add mj_d_148_35 ?_
      refine sy_bip mj_d_148_36 (by decide) ?_
      refine sy_add mj_d_148_38 ?_
      refine sg_iaC mj_d_148_39 (by omega) (by omega) hH ?_
      rintro _ rfl bx9
      refine sg_iasC (v := (sy_rd h 235 (((448 + l1) + 112).toNat))) ((448 + l1) + 112) mj_d_148_40 (by omega) (by omega) (by omega) (by omega) bx9 hH ?_
      intro h10 th10 eh10
      refine sy_inc (a := l1) (lv' := [(1, sy_i (l1 + 1)), (0, .ref 234)]) mj_d_148_41 (Nat.le_of_ble_eq_true rfl) rfl rfl ?_
      refine sy_st (S' := (mj_m_148, 11, [(1, sy_i (l1 + 1)), (0, .ref 234)], [], h10)) mj_d_148_44 (fun _ _ => rfl) ?_
      refine sy_lv (lv := [(0, .ref 234), (1, sy_i (l1 + 1))]) rfl ⟨rfl, rfl, trivial⟩ ?_
      rw [← eh10]
      exact ih th10 (by first | omega | assumption) (by first | omega | assumption) (by rw [eh10, sg_na (by decide)]; exact i0) (by omega)
set_option maxRecDepth 100000 in
theorem dt_R_minds {h : mj_H} (hH : sy_H h) : sy_wp (mj_m_148, 0, [(0, .ref 234)], [], h) (dq3 (dc_R_minds (sy_rd h))) := by
  unfold dc_R_minds
  refine sy_st (S' := (mj_m_148, 1, [(0, .ref 234)], [.ref 234], h)) mj_d_148_0 (fun _ _ => rfl) ?_
  refine sy_gf mj_d_148_1 rfl rfl (by decide) rfl hH ?_
  intro x1 ex1 bx1 tx1
  replace ex1 : x1 = sy_rd h 234 2 := ex1
  subst ex1
  refine sy_bip mj_d_148_4 (by decide) ?_
  refine sy_icm mj_d_148_6 rfl ⟨by omega, by omega⟩ ⟨by omega, by omega⟩ (fun (c2 : ¬ ((sy_rd h 234 2) = 30)) => ?_) (fun (c2 : ¬ ¬ ((sy_rd h 234 2) = 30)) => ?_)
  · skip
    rw [if_neg c2]
    refine sy_st (S' := (mj_m_148, 58, [(0, .ref 234)], [.ref 234], h)) mj_d_148_57 (fun _ _ => rfl) ?_
    refine sy_st (S' := (mj_m_148, 59, [(0, .ref 234)], [sy_i 0, .ref 234], h)) mj_d_148_58 (fun _ _ => rfl) ?_
    refine sy_sip mj_d_148_59 (by decide) ?_
    refine sy_bip mj_d_148_62 (by decide) ?_
    refine sy_st (S' := (mj_m_148, 65, [(0, .ref 234)], [.ref 234, sy_i 112, sy_i 448, sy_i 0, .ref 234], h)) mj_d_148_64 (fun _ _ => rfl) ?_
    refine sy_gf mj_d_148_65 rfl rfl (by decide) rfl hH ?_
    intro x3 ex3 bx3 tx3
    replace ex3 : x3 = sy_rd h 234 2 := ex3
    subst ex3
    refine sy_mul mj_d_148_68 ?_
    refine sy_add mj_d_148_69 ?_
    refine sy_cv (M' := mj_m_149) (vs := [.ref 234, sy_i 0, sy_i (448 + (112 * (sy_rd h 234 2)))]) (rest := []) mj_d_148_70 rfl rfl rfl rfl hH rfl rfl ⟨by decide, ⟨Nat.le_of_ble_eq_true rfl, Nat.le_of_ble_eq_true rfl, Nat.le_of_ble_eq_true rfl, Nat.le_of_ble_eq_true rfl, Nat.le_of_ble_eq_true rfl⟩⟩ (dt_R_copy (a1 := 0) (a2 := (448 + (112 * (sy_rd h 234 2)))) hH (by omega) (by omega) (by omega) (by omega) (by first | omega | assumption) (by first | omega | assumption)) ?_
    rintro _ h4 ⟨rfl, th4, eh4⟩
    show sy_wp (mj_m_148, 73, [(0, .ref 234)], [], h4) _
    refine sy_st (S' := (mj_m_148, 74, [(0, .ref 234)], [.ref 234], h4)) mj_d_148_73 (fun _ _ => rfl) ?_
    refine sy_st (S' := (mj_m_148, 75, [(0, .ref 234)], [.ref 234, .ref 234], h4)) mj_d_148_74 (fun _ _ => rfl) ?_
    refine sy_gf mj_d_148_75 rfl rfl (by decide) rfl th4 ?_
    intro x6 ex6 bx6 tx6
    replace ex6 : x6 = sy_rd h4 234 2 := ex6
    rw [eh4, dr_R_copy _ _ _ 234 2 rfl] at ex6
    subst ex6
    refine sy_st (S' := (mj_m_148, 79, [(0, .ref 234)], [sy_i 1, sy_i (sy_rd h 234 2), .ref 234], h4)) mj_d_148_78 (fun _ _ => rfl) ?_
    refine sy_add mj_d_148_79 ?_
    refine sg_pf (z := ((sy_rd h 234 2) + 1)) mj_d_148_80 rfl rfl (by decide) (Or.inl rfl) rfl th4 (by omega) (by omega) ⟨by omega, by omega⟩ ?_
    intro h7 th7 eh7
    rw [eh4] at eh7
    exact sy_retv mj_d_148_83 rfl ⟨rfl, th7, eh7⟩
  · skip
    rw [if_pos (Decidable.not_not.mp c2)]
    replace c2 := Decidable.not_not.mp c2
    refine sy_st (S' := (mj_m_148, 10, [(0, .ref 234)], [sy_i 0], h)) mj_d_148_9 (fun _ _ => rfl) ?_
    refine sy_st (S' := (mj_m_148, 11, [(1, sy_i 0), (0, .ref 234)], [], h)) mj_d_148_10 (fun _ _ => rfl) ?_
    refine sy_lv (lv := [(0, .ref 234), (1, sy_i 0)]) rfl ⟨rfl, rfl, trivial⟩ ?_
    exact dt_R_minds_11 3249 hH (by first | omega | assumption) (by first | omega | assumption) (by first | omega | assumption) (by omega)
def dc_R_fire (s : sg_S) (a1 a2 : Int) : sg_S × Int := (if (dc_R_isHouse s a1) = 0 then (s, (-1000000001)) else (if (dc_R_in s a2 0 7) = 0 then (s, (-1000000002)) else ((sg_up (dc_R_minds s) 235 ((2 + a1).toNat) a2), ((dc_R_minds s) 235 ((2 + a1).toNat)))))
def dw_R_fire (a k : Nat) : Bool := dw_R_minds a k || (a == 235)
theorem dr_R_fire (s : sg_S) (a1 a2 : Int) (a k : Nat) (h : dw_R_fire a k = false) : (dc_R_fire s a1 a2).1 a k = s a k := by
  have h0 := h
  unfold dw_R_fire at h
  simp only [Bool.or_eq_false_iff] at h
  obtain ⟨h1, h2⟩ := h
  unfold dc_R_fire
  (repeat' split) <;> simp only [(fun s => dr_R_minds s a k h1), (fun s l z => sg_upa (s := s) (l := l) (z := z) (k := k) h2)]
set_option maxRecDepth 100000 in
theorem dt_R_fire {h : mj_H} (hH : sy_H h) {a1 a2 : Int} (b_a1 : (-2147483648) ≤ a1) (t_a1 : a1 ≤ 2147483647) (b_a2 : (-2147483648) ≤ a2) (t_a2 : a2 ≤ 2147483647) : sy_wp (mj_m_153, 0, [(0, .ref 234), (1, sy_i a1), (2, sy_i a2)], [], h) (dq2 (-2147483648) (2147483647) (dc_R_fire (sy_rd h) a1 a2)) := by
  unfold dc_R_fire
  have n234_6 := hH.bd (a := 234) (k := 6) rfl (by decide) rfl
  refine sy_st (S' := (mj_m_153, 1, [(0, .ref 234), (1, sy_i a1), (2, sy_i a2)], [.ref 234], h)) mj_d_153_0 (fun _ _ => rfl) ?_
  refine sy_st (S' := (mj_m_153, 2, [(0, .ref 234), (1, sy_i a1), (2, sy_i a2)], [sy_i a1, .ref 234], h)) mj_d_153_1 (fun _ _ => rfl) ?_
  refine sy_cv (M' := mj_m_141) (vs := [.ref 234, sy_i a1]) (rest := []) mj_d_153_2 rfl rfl rfl rfl hH rfl rfl ⟨by decide, ⟨Nat.le_of_ble_eq_true rfl, Nat.le_of_ble_eq_true rfl, Nat.le_of_ble_eq_true rfl, Nat.le_of_ble_eq_true rfl, Nat.le_of_ble_eq_true rfl⟩⟩ (dt_R_isHouse (a1 := a1) hH (by omega) (by omega)) ?_
  rintro _ _ ⟨rfl, rfl, b1, b1t⟩
  have q2 := df_R_isHouse_0 (sy_rd h) a1
  show sy_wp (mj_m_153, 5, [(0, .ref 234), (1, sy_i a1), (2, sy_i a2)], [sy_i (dc_R_isHouse (sy_rd h) a1)], h) _
  refine sy_ifc mj_d_153_5 rfl ⟨by omega, by omega⟩ (fun (c3 : ¬ ((dc_R_isHouse (sy_rd h) a1) = 0)) => ?_) (fun (c3 : ¬ ¬ ((dc_R_isHouse (sy_rd h) a1) = 0)) => ?_)
  · skip
    rw [if_neg c3]
    refine sy_st (S' := (mj_m_153, 12, [(0, .ref 234), (1, sy_i a1), (2, sy_i a2)], [sy_i a2], h)) mj_d_153_11 (fun _ _ => rfl) ?_
    refine sy_i2l mj_d_153_12 ⟨by omega, by omega⟩ ?_
    refine sy_st (S' := (mj_m_153, 14, [(0, .ref 234), (1, sy_i a1), (2, sy_i a2)], [sy_l 0, sy_l a2], h)) mj_d_153_13 (fun _ _ => rfl) ?_
    refine sy_ldc2 (n := 7) mj_d_153_14 rfl (by decide) ?_
    refine sy_cs (M' := mj_m_126) (vs := [sy_l a2, sy_l 0, sy_l 7]) (rest := []) mj_d_153_17 rfl rfl rfl rfl ⟨Nat.le_of_ble_eq_true rfl, Nat.le_of_ble_eq_true rfl, Nat.le_of_ble_eq_true rfl, Nat.le_of_ble_eq_true rfl, Nat.le_of_ble_eq_true rfl⟩ (dt_R_in (a0 := a2) (a1 := 0) (a2 := 7) hH (by omega) (by omega) (by omega) (by omega) (by omega) (by omega)) ?_
    rintro _ _ ⟨rfl, rfl, b4, b4t⟩
    have q5 := df_R_in_0 (sy_rd h) a2 0 7
    show sy_wp (mj_m_153, 20, [(0, .ref 234), (1, sy_i a1), (2, sy_i a2)], [sy_i (dc_R_in (sy_rd h) a2 0 7)], h) _
    refine sy_ifc mj_d_153_20 rfl ⟨by omega, by omega⟩ (fun (c6 : ¬ ((dc_R_in (sy_rd h) a2 0 7) = 0)) => ?_) (fun (c6 : ¬ ¬ ((dc_R_in (sy_rd h) a2 0 7) = 0)) => ?_)
    · skip
      rw [if_neg c6]
      refine sy_st (S' := (mj_m_153, 27, [(0, .ref 234), (1, sy_i a1), (2, sy_i a2)], [.ref 234], h)) mj_d_153_26 (fun _ _ => rfl) ?_
      refine sy_cv (M' := mj_m_148) (vs := [.ref 234]) (rest := []) mj_d_153_27 rfl rfl rfl rfl hH rfl rfl ⟨by decide, ⟨Nat.le_of_ble_eq_true rfl, Nat.le_of_ble_eq_true rfl, Nat.le_of_ble_eq_true rfl, Nat.le_of_ble_eq_true rfl, Nat.le_of_ble_eq_true rfl⟩⟩ (dt_R_minds hH) ?_
      rintro _ h7 ⟨rfl, th7, eh7⟩
      show sy_wp (mj_m_153, 30, [(0, .ref 234), (1, sy_i a1), (2, sy_i a2)], [], h7) _
      refine sy_st (S' := (mj_m_153, 31, [(0, .ref 234), (1, sy_i a1), (2, sy_i a2)], [.ref 234], h7)) mj_d_153_30 (fun _ _ => rfl) ?_
      refine sy_gr2 (b := 235) mj_d_153_31 rfl rfl (by decide) rfl rfl th7 ?_
      refine sy_st (S' := (mj_m_153, 35, [(0, .ref 234), (1, sy_i a1), (2, sy_i a2)], [sy_i 2, .ref 235], h7)) mj_d_153_34 (fun _ _ => rfl) ?_
      refine sy_st (S' := (mj_m_153, 36, [(0, .ref 234), (1, sy_i a1), (2, sy_i a2)], [sy_i a1, sy_i 2, .ref 235], h7)) mj_d_153_35 (fun _ _ => rfl) ?_
      refine sy_add mj_d_153_36 ?_
      refine sg_iaN (lo := 0) (hi := 7) 2 11 (by decide) mj_d_153_37 (by omega) (by omega) (by omega) (by omega) th7 ?_
      intro x9 ex9 bx9 tx9
      rw [eh7] at ex9
      subst ex9
      refine sy_st (S' := (mj_m_153, 39, [(3, sy_i ((dc_R_minds (sy_rd h)) 235 ((2 + a1).toNat))), (0, .ref 234), (1, sy_i a1), (2, sy_i a2)], [], h7)) mj_d_153_38 (fun _ _ => rfl) ?_
      refine sy_st (S' := (mj_m_153, 40, [(3, sy_i ((dc_R_minds (sy_rd h)) 235 ((2 + a1).toNat))), (0, .ref 234), (1, sy_i a1), (2, sy_i a2)], [.ref 234], h7)) mj_d_153_39 (fun _ _ => rfl) ?_
      refine sy_gr2 (b := 235) mj_d_153_40 rfl rfl (by decide) rfl rfl th7 ?_
      refine sy_st (S' := (mj_m_153, 44, [(3, sy_i ((dc_R_minds (sy_rd h)) 235 ((2 + a1).toNat))), (0, .ref 234), (1, sy_i a1), (2, sy_i a2)], [sy_i 2, .ref 235], h7)) mj_d_153_43 (fun _ _ => rfl) ?_
      refine sy_st (S' := (mj_m_153, 45, [(3, sy_i ((dc_R_minds (sy_rd h)) 235 ((2 + a1).toNat))), (0, .ref 234), (1, sy_i a1), (2, sy_i a2)], [sy_i a1, sy_i 2, .ref 235], h7)) mj_d_153_44 (fun _ _ => rfl) ?_
      refine sy_add mj_d_153_45 ?_
      refine sy_st (S' := (mj_m_153, 47, [(3, sy_i ((dc_R_minds (sy_rd h)) 235 ((2 + a1).toNat))), (0, .ref 234), (1, sy_i a1), (2, sy_i a2)], [sy_i a2, sy_i (2 + a1), .ref 235], h7)) mj_d_153_46 (fun _ _ => rfl) ?_
      refine sg_iasN (v := a2) (lo := 0) (hi := 7) 2 11 (by decide) mj_d_153_47 (by omega) (by omega) (by omega) (by omega) (by omega) (by omega) th7 ?_
      intro h10 th10 eh10
      rw [eh7] at eh10
      refine sy_st (S' := (mj_m_153, 49, [(3, sy_i ((dc_R_minds (sy_rd h)) 235 ((2 + a1).toNat))), (0, .ref 234), (1, sy_i a1), (2, sy_i a2)], [sy_i ((dc_R_minds (sy_rd h)) 235 ((2 + a1).toNat))], h10)) mj_d_153_48 (fun _ _ => rfl) ?_
      exact sy_reti mj_d_153_49 rfl ⟨th10, eh10, rfl, by omega, by omega⟩
    · skip
      rw [if_pos (Decidable.not_not.mp c6)]
      replace c6 := Decidable.not_not.mp c6
      refine sy_ldc (n := -1000000002) mj_d_153_23 rfl (by decide) ?_
      exact sy_reti mj_d_153_25 rfl ⟨hH, rfl, rfl, by omega, by omega⟩
  · skip
    rw [if_pos (Decidable.not_not.mp c3)]
    replace c3 := Decidable.not_not.mp c3
    refine sy_ldc (n := -1000000001) mj_d_153_8 rfl (by decide) ?_
    exact sy_reti mj_d_153_10 rfl ⟨hH, rfl, rfl, by omega, by omega⟩
def dc_R_washes_4 (n : Nat) : sg_S → Int → Int → sg_S × Int := Nat.rec (fun (s : sg_S) l1 l2 => (s, 0)) (fun _ ih => fun s l1 l2 => (if (s 234 6) ≤ l2 then (s, l1) else (if (s 235 ((20 + l2).toNat)) ≤ (s 234 5) then (ih (sg_up s 235 ((20 + l2).toNat) ((s 235 ((20 + l2).toNat)) - (s 235 ((20 + l2).toNat)))) (l1 + (s 235 ((20 + l2).toNat))) (l2 + 1)) else (ih (sg_up s 235 ((20 + l2).toNat) ((s 235 ((20 + l2).toNat)) - (s 234 5))) (l1 + (s 234 5)) (l2 + 1))))) n
theorem dc_R_washes_4_s (n : Nat) (s : sg_S) (l1 l2 : Int) : dc_R_washes_4 (n + 1) s l1 l2 = (if (s 234 6) ≤ l2 then (s, l1) else (if (s 235 ((20 + l2).toNat)) ≤ (s 234 5) then ((dc_R_washes_4 n) (sg_up s 235 ((20 + l2).toNat) ((s 235 ((20 + l2).toNat)) - (s 235 ((20 + l2).toNat)))) (l1 + (s 235 ((20 + l2).toNat))) (l2 + 1)) else ((dc_R_washes_4 n) (sg_up s 235 ((20 + l2).toNat) ((s 235 ((20 + l2).toNat)) - (s 234 5))) (l1 + (s 234 5)) (l2 + 1)))) := rfl
def dc_R_washes (s : sg_S) : sg_S × Int := (dc_R_washes_4 10 s 0 0)
def dw_R_washes (a k : Nat) : Bool := (a == 235)
theorem dr_R_washes_4 (a k : Nat) (h : dw_R_washes a k = false) : ∀ (n : Nat) (s : sg_S) (l1 l2 : Int), (dc_R_washes_4 n s l1 l2).1 a k = s a k := by
  have h0 := h
  unfold dw_R_washes at h
  have h1 := h
  intro n
  induction n with
  | zero => intro s l1 l2; rfl
  | succ n ih =>
    intro s l1 l2
    rw [dc_R_washes_4_s]
    (repeat' split) <;> simp only [(fun s l z => sg_upa (s := s) (l := l) (z := z) (k := k) h1), ih]
theorem dr_R_washes (s : sg_S) (a k : Nat) (h : dw_R_washes a k = false) : (dc_R_washes s).1 a k = s a k := by
  have h0 := h
  unfold dw_R_washes at h
  have h1 := h
  unfold dc_R_washes
  (repeat' split) <;> simp only [(fun s l z => sg_upa (s := s) (l := l) (z := z) (k := k) h1), (dr_R_washes_4 a k h0)]
set_option maxRecDepth 100000 in
theorem dt_R_washes_4 : ∀ (n : Nat) {h : mj_H} (hH : sy_H h) {l1 l2 : Int} (b_l1 : 0 ≤ l1) (t_l1 : l1 ≤ 72) (b_l2 : 0 ≤ l2) (t_l2 : l2 ≤ 9) (i0 : l1 ≤ 8 * l2) (hm : 9 - l2 < (n : Int)), sy_wp (mj_m_155, 4, [(0, .ref 234), (1, sy_i l1), (2, sy_i l2)], [], h) (dq2 (0) (72) (dc_R_washes_4 n (sy_rd h) l1 l2)) := by
  intro n
  induction n with
  | zero =>
    intro h hH l1 l2 b_l1 t_l1 b_l2 t_l2 i0 hm
    exact absurd hm (by omega)
  | succ n ih =>
    intro h hH l1 l2 b_l1 t_l1 b_l2 t_l2 i0 hm
    rw [dc_R_washes_4_s]
    refine sy_st (S' := (mj_m_155, 5, [(0, .ref 234), (1, sy_i l1), (2, sy_i l2)], [sy_i l2], h)) mj_d_155_4 (fun _ _ => rfl) ?_
    refine sy_st (S' := (mj_m_155, 6, [(0, .ref 234), (1, sy_i l1), (2, sy_i l2)], [.ref 234, sy_i l2], h)) mj_d_155_5 (fun _ _ => rfl) ?_
    refine sy_gf mj_d_155_6 rfl rfl (by decide) rfl hH ?_
    intro x1 ex1 bx1 tx1
    replace ex1 : x1 = sy_rd h 234 6 := ex1
    subst ex1
    refine sy_icm mj_d_155_9 rfl ⟨by omega, by omega⟩ ⟨by omega, by omega⟩ (fun (c2 : (sy_rd h 234 6) ≤ l2) => ?_) (fun (c2 : ¬ ((sy_rd h 234 6) ≤ l2)) => ?_)
    · skip
      rw [if_pos c2]
      refine sy_st (S' := (mj_m_155, 69, [(0, .ref 234), (1, sy_i l1), (2, sy_i l2)], [sy_i l1], h)) mj_d_155_68 (fun _ _ => rfl) ?_
      exact sy_reti mj_d_155_69 rfl ⟨hH, rfl, rfl, by omega, by omega⟩
    · skip
      rw [if_neg c2]
      refine sy_st (S' := (mj_m_155, 13, [(0, .ref 234), (1, sy_i l1), (2, sy_i l2)], [.ref 234], h)) mj_d_155_12 (fun _ _ => rfl) ?_
      refine sy_gf mj_d_155_13 rfl rfl (by decide) rfl hH ?_
      intro x3 ex3 bx3 tx3
      replace ex3 : x3 = sy_rd h 234 5 := ex3
      subst ex3
      refine sy_st (S' := (mj_m_155, 17, [(0, .ref 234), (1, sy_i l1), (2, sy_i l2)], [.ref 234, sy_i (sy_rd h 234 5)], h)) mj_d_155_16 (fun _ _ => rfl) ?_
      refine sy_gr2 (b := 235) mj_d_155_17 rfl rfl (by decide) rfl rfl hH ?_
      refine sy_bip mj_d_155_20 (by decide) ?_
      refine sy_st (S' := (mj_m_155, 23, [(0, .ref 234), (1, sy_i l1), (2, sy_i l2)], [sy_i l2, sy_i 20, .ref 235, sy_i (sy_rd h 234 5)], h)) mj_d_155_22 (fun _ _ => rfl) ?_
      refine sy_add mj_d_155_23 ?_
      refine sg_iaN (lo := 0) (hi := 8) 20 29 (by decide) mj_d_155_24 (by omega) (by omega) (by omega) (by omega) hH ?_
      rintro _ rfl bx4 tx4
      refine sy_icm mj_d_155_25 rfl ⟨by omega, by omega⟩ ⟨by omega, by omega⟩ (fun (c5 : (sy_rd h 235 ((20 + l2).toNat)) ≤ (sy_rd h 234 5)) => ?_) (fun (c5 : ¬ ((sy_rd h 235 ((20 + l2).toNat)) ≤ (sy_rd h 234 5))) => ?_)
      · skip
        rw [if_pos c5]
        refine sy_st (S' := (mj_m_155, 36, [(0, .ref 234), (1, sy_i l1), (2, sy_i l2)], [.ref 234], h)) mj_d_155_35 (fun _ _ => rfl) ?_
        refine sy_gr2 (b := 235) mj_d_155_36 rfl rfl (by decide) rfl rfl hH ?_
        refine sy_bip mj_d_155_39 (by decide) ?_
        refine sy_st (S' := (mj_m_155, 42, [(0, .ref 234), (1, sy_i l1), (2, sy_i l2)], [sy_i l2, sy_i 20, .ref 235], h)) mj_d_155_41 (fun _ _ => rfl) ?_
        refine sy_add mj_d_155_42 ?_
        refine sg_iaN (lo := 0) (hi := 8) 20 29 (by decide) mj_d_155_43 (by omega) (by omega) (by omega) (by omega) hH ?_
        rintro _ rfl bx6 tx6
        refine sy_st (S' := (mj_m_155, 45, [(3, sy_i (sy_rd h 235 ((20 + l2).toNat))), (0, .ref 234), (1, sy_i l1), (2, sy_i l2)], [], h)) mj_d_155_44 (fun _ _ => rfl) ?_
        refine sy_st (S' := (mj_m_155, 46, [(3, sy_i (sy_rd h 235 ((20 + l2).toNat))), (0, .ref 234), (1, sy_i l1), (2, sy_i l2)], [.ref 234], h)) mj_d_155_45 (fun _ _ => rfl) ?_
        refine sy_gr2 (b := 235) mj_d_155_46 rfl rfl (by decide) rfl rfl hH ?_
        refine sy_bip mj_d_155_49 (by decide) ?_
        refine sy_st (S' := (mj_m_155, 52, [(3, sy_i (sy_rd h 235 ((20 + l2).toNat))), (0, .ref 234), (1, sy_i l1), (2, sy_i l2)], [sy_i l2, sy_i 20, .ref 235], h)) mj_d_155_51 (fun _ _ => rfl) ?_
        refine sy_add mj_d_155_52 ?_
        refine sy_st (S' := (mj_m_155, 54, [(3, sy_i (sy_rd h 235 ((20 + l2).toNat))), (0, .ref 234), (1, sy_i l1), (2, sy_i l2)], [sy_i (20 + l2), .ref 235, sy_i (20 + l2), .ref 235], h)) mj_d_155_53 (fun _ _ => rfl) ?_
        refine sg_iaN (lo := 0) (hi := 8) 20 29 (by decide) mj_d_155_54 (by omega) (by omega) (by omega) (by omega) hH ?_
        rintro _ rfl bx7 tx7
        refine sy_st (S' := (mj_m_155, 56, [(3, sy_i (sy_rd h 235 ((20 + l2).toNat))), (0, .ref 234), (1, sy_i l1), (2, sy_i l2)], [sy_i (sy_rd h 235 ((20 + l2).toNat)), sy_i (sy_rd h 235 ((20 + l2).toNat)), sy_i (20 + l2), .ref 235], h)) mj_d_155_55 (fun _ _ => rfl) ?_
        refine sy_sub mj_d_155_56 ?_
        refine sg_iasN (v := ((sy_rd h 235 ((20 + l2).toNat)) - (sy_rd h 235 ((20 + l2).toNat)))) (lo := 0) (hi := 8) 20 29 (by decide) mj_d_155_57 (by omega) (by omega) (by omega) (by omega) (by omega) (by omega) hH ?_
        intro h8 th8 eh8
        refine sy_st (S' := (mj_m_155, 59, [(3, sy_i (sy_rd h 235 ((20 + l2).toNat))), (0, .ref 234), (1, sy_i l1), (2, sy_i l2)], [sy_i l1], h8)) mj_d_155_58 (fun _ _ => rfl) ?_
        refine sy_st (S' := (mj_m_155, 60, [(3, sy_i (sy_rd h 235 ((20 + l2).toNat))), (0, .ref 234), (1, sy_i l1), (2, sy_i l2)], [sy_i (sy_rd h 235 ((20 + l2).toNat)), sy_i l1], h8)) mj_d_155_59 (fun _ _ => rfl) ?_
        refine sy_add mj_d_155_60 ?_
        refine sy_st (S' := (mj_m_155, 62, [(1, sy_i (l1 + (sy_rd h 235 ((20 + l2).toNat)))), (3, sy_i (sy_rd h 235 ((20 + l2).toNat))), (0, .ref 234), (2, sy_i l2)], [], h8)) mj_d_155_61 (fun _ _ => rfl) ?_
        refine sy_inc (a := l2) (lv' := [(2, sy_i (l2 + 1)), (1, sy_i (l1 + (sy_rd h 235 ((20 + l2).toNat)))), (3, sy_i (sy_rd h 235 ((20 + l2).toNat))), (0, .ref 234)]) mj_d_155_62 (Nat.le_of_ble_eq_true rfl) rfl rfl ?_
        refine sy_st (S' := (mj_m_155, 4, [(2, sy_i (l2 + 1)), (1, sy_i (l1 + (sy_rd h 235 ((20 + l2).toNat)))), (3, sy_i (sy_rd h 235 ((20 + l2).toNat))), (0, .ref 234)], [], h8)) mj_d_155_65 (fun _ _ => rfl) ?_
        refine sy_lv (lv := [(0, .ref 234), (1, sy_i (l1 + (sy_rd h 235 ((20 + l2).toNat)))), (2, sy_i (l2 + 1))]) rfl ⟨rfl, rfl, rfl, trivial⟩ ?_
        rw [← eh8]
        exact ih th8 (by first | omega | assumption) (by first | omega | assumption) (by first | omega | assumption) (by first | omega | assumption) (by first | omega | assumption) (by omega)
      · skip
        rw [if_neg c5]
        refine sy_st (S' := (mj_m_155, 29, [(0, .ref 234), (1, sy_i l1), (2, sy_i l2)], [.ref 234], h)) mj_d_155_28 (fun _ _ => rfl) ?_
        refine sy_gf mj_d_155_29 rfl rfl (by decide) rfl hH ?_
        intro x9 ex9 bx9 tx9
        replace ex9 : x9 = sy_rd h 234 5 := ex9
        subst ex9
        refine sy_st (S' := (mj_m_155, 44, [(0, .ref 234), (1, sy_i l1), (2, sy_i l2)], [sy_i (sy_rd h 234 5)], h)) mj_d_155_32 (fun _ _ => rfl) ?_
        refine sy_st (S' := (mj_m_155, 45, [(3, sy_i (sy_rd h 234 5)), (0, .ref 234), (1, sy_i l1), (2, sy_i l2)], [], h)) mj_d_155_44 (fun _ _ => rfl) ?_
        refine sy_st (S' := (mj_m_155, 46, [(3, sy_i (sy_rd h 234 5)), (0, .ref 234), (1, sy_i l1), (2, sy_i l2)], [.ref 234], h)) mj_d_155_45 (fun _ _ => rfl) ?_
        refine sy_gr2 (b := 235) mj_d_155_46 rfl rfl (by decide) rfl rfl hH ?_
        refine sy_bip mj_d_155_49 (by decide) ?_
        refine sy_st (S' := (mj_m_155, 52, [(3, sy_i (sy_rd h 234 5)), (0, .ref 234), (1, sy_i l1), (2, sy_i l2)], [sy_i l2, sy_i 20, .ref 235], h)) mj_d_155_51 (fun _ _ => rfl) ?_
        refine sy_add mj_d_155_52 ?_
        refine sy_st (S' := (mj_m_155, 54, [(3, sy_i (sy_rd h 234 5)), (0, .ref 234), (1, sy_i l1), (2, sy_i l2)], [sy_i (20 + l2), .ref 235, sy_i (20 + l2), .ref 235], h)) mj_d_155_53 (fun _ _ => rfl) ?_
        refine sg_iaN (lo := 0) (hi := 8) 20 29 (by decide) mj_d_155_54 (by omega) (by omega) (by omega) (by omega) hH ?_
        rintro _ rfl bx10 tx10
        refine sy_st (S' := (mj_m_155, 56, [(3, sy_i (sy_rd h 234 5)), (0, .ref 234), (1, sy_i l1), (2, sy_i l2)], [sy_i (sy_rd h 234 5), sy_i (sy_rd h 235 ((20 + l2).toNat)), sy_i (20 + l2), .ref 235], h)) mj_d_155_55 (fun _ _ => rfl) ?_
        refine sy_sub mj_d_155_56 ?_
        refine sg_iasN (v := ((sy_rd h 235 ((20 + l2).toNat)) - (sy_rd h 234 5))) (lo := 0) (hi := 8) 20 29 (by decide) mj_d_155_57 (by omega) (by omega) (by omega) (by omega) (by omega) (by omega) hH ?_
        intro h11 th11 eh11
        refine sy_st (S' := (mj_m_155, 59, [(3, sy_i (sy_rd h 234 5)), (0, .ref 234), (1, sy_i l1), (2, sy_i l2)], [sy_i l1], h11)) mj_d_155_58 (fun _ _ => rfl) ?_
        refine sy_st (S' := (mj_m_155, 60, [(3, sy_i (sy_rd h 234 5)), (0, .ref 234), (1, sy_i l1), (2, sy_i l2)], [sy_i (sy_rd h 234 5), sy_i l1], h11)) mj_d_155_59 (fun _ _ => rfl) ?_
        refine sy_add mj_d_155_60 ?_
        refine sy_st (S' := (mj_m_155, 62, [(1, sy_i (l1 + (sy_rd h 234 5))), (3, sy_i (sy_rd h 234 5)), (0, .ref 234), (2, sy_i l2)], [], h11)) mj_d_155_61 (fun _ _ => rfl) ?_
        refine sy_inc (a := l2) (lv' := [(2, sy_i (l2 + 1)), (1, sy_i (l1 + (sy_rd h 234 5))), (3, sy_i (sy_rd h 234 5)), (0, .ref 234)]) mj_d_155_62 (Nat.le_of_ble_eq_true rfl) rfl rfl ?_
        refine sy_st (S' := (mj_m_155, 4, [(2, sy_i (l2 + 1)), (1, sy_i (l1 + (sy_rd h 234 5))), (3, sy_i (sy_rd h 234 5)), (0, .ref 234)], [], h11)) mj_d_155_65 (fun _ _ => rfl) ?_
        refine sy_lv (lv := [(0, .ref 234), (1, sy_i (l1 + (sy_rd h 234 5))), (2, sy_i (l2 + 1))]) rfl ⟨rfl, rfl, rfl, trivial⟩ ?_
        rw [← eh11]
        exact ih th11 (by first | omega | assumption) (by first | omega | assumption) (by first | omega | assumption) (by first | omega | assumption) (by first | omega | assumption) (by omega)
set_option maxRecDepth 100000 in
theorem dt_R_washes {h : mj_H} (hH : sy_H h) : sy_wp (mj_m_155, 0, [(0, .ref 234)], [], h) (dq2 (0) (72) (dc_R_washes (sy_rd h))) := by
  unfold dc_R_washes
  refine sy_st (S' := (mj_m_155, 1, [(0, .ref 234)], [sy_i 0], h)) mj_d_155_0 (fun _ _ => rfl) ?_
  refine sy_st (S' := (mj_m_155, 2, [(1, sy_i 0), (0, .ref 234)], [], h)) mj_d_155_1 (fun _ _ => rfl) ?_
  refine sy_st (S' := (mj_m_155, 3, [(1, sy_i 0), (0, .ref 234)], [sy_i 0], h)) mj_d_155_2 (fun _ _ => rfl) ?_
  refine sy_st (S' := (mj_m_155, 4, [(2, sy_i 0), (1, sy_i 0), (0, .ref 234)], [], h)) mj_d_155_3 (fun _ _ => rfl) ?_
  refine sy_lv (lv := [(0, .ref 234), (1, sy_i 0), (2, sy_i 0)]) rfl ⟨rfl, rfl, rfl, trivial⟩ ?_
  exact dt_R_washes_4 10 hH (by first | omega | assumption) (by first | omega | assumption) (by first | omega | assumption) (by first | omega | assumption) (by first | omega | assumption) (by omega)
def dc_R_rain (s : sg_S) : sg_S × Int := (if (s 234 3) = 0 then (s, (-1000000003)) else ((dc_R_washes (dc_R_minds s)).1, (dc_R_washes (dc_R_minds s)).2))
def dw_R_rain (a k : Nat) : Bool := dw_R_minds a k || dw_R_washes a k
theorem dr_R_rain (s : sg_S) (a k : Nat) (h : dw_R_rain a k = false) : (dc_R_rain s).1 a k = s a k := by
  have h0 := h
  unfold dw_R_rain at h
  simp only [Bool.or_eq_false_iff] at h
  obtain ⟨h1, h2⟩ := h
  unfold dc_R_rain
  (repeat' split) <;> simp only [(fun s => dr_R_minds s a k h1), (fun s => dr_R_washes s a k h2)]
set_option maxRecDepth 100000 in
theorem dt_R_rain {h : mj_H} (hH : sy_H h) : sy_wp (mj_m_154, 0, [(0, .ref 234)], [], h) (dq2 (-2147483648) (2147483647) (dc_R_rain (sy_rd h))) := by
  unfold dc_R_rain
  refine sy_st (S' := (mj_m_154, 1, [(0, .ref 234)], [.ref 234], h)) mj_d_154_0 (fun _ _ => rfl) ?_
  refine sy_gf mj_d_154_1 rfl rfl (by decide) rfl hH ?_
  intro x1 ex1 bx1 tx1
  replace ex1 : x1 = sy_rd h 234 3 := ex1
  subst ex1
  refine sy_ifc mj_d_154_4 rfl ⟨by omega, by omega⟩ (fun (c2 : ¬ ((sy_rd h 234 3) = 0)) => ?_) (fun (c2 : ¬ ¬ ((sy_rd h 234 3) = 0)) => ?_)
  · skip
    rw [if_neg c2]
    refine sy_st (S' := (mj_m_154, 11, [(0, .ref 234)], [.ref 234], h)) mj_d_154_10 (fun _ _ => rfl) ?_
    refine sy_cv (M' := mj_m_148) (vs := [.ref 234]) (rest := []) mj_d_154_11 rfl rfl rfl rfl hH rfl rfl ⟨by decide, ⟨Nat.le_of_ble_eq_true rfl, Nat.le_of_ble_eq_true rfl, Nat.le_of_ble_eq_true rfl, Nat.le_of_ble_eq_true rfl, Nat.le_of_ble_eq_true rfl⟩⟩ (dt_R_minds hH) ?_
    rintro _ h3 ⟨rfl, th3, eh3⟩
    show sy_wp (mj_m_154, 14, [(0, .ref 234)], [], h3) _
    refine sy_st (S' := (mj_m_154, 15, [(0, .ref 234)], [.ref 234], h3)) mj_d_154_14 (fun _ _ => rfl) ?_
    refine sy_cv (M' := mj_m_155) (vs := [.ref 234]) (rest := []) mj_d_154_15 rfl rfl rfl rfl th3 rfl rfl ⟨by decide, ⟨Nat.le_of_ble_eq_true rfl, Nat.le_of_ble_eq_true rfl, Nat.le_of_ble_eq_true rfl, Nat.le_of_ble_eq_true rfl, Nat.le_of_ble_eq_true rfl⟩⟩ (dt_R_washes th3) ?_
    rintro _ h5 ⟨th5, eh5, rfl, b6, b6t⟩
    rw [eh3] at eh5 b6 b6t ⊢
    show sy_wp (mj_m_154, 18, [(0, .ref 234)], [sy_i ((dc_R_washes (dc_R_minds (sy_rd h))).2)], h5) _
    exact sy_reti mj_d_154_18 rfl ⟨th5, eh5, rfl, by omega, by omega⟩
  · skip
    rw [if_pos (Decidable.not_not.mp c2)]
    replace c2 := Decidable.not_not.mp c2
    refine sy_ldc (n := -1000000003) mj_d_154_7 rfl (by decide) ?_
    exact sy_reti mj_d_154_9 rfl ⟨hH, rfl, rfl, by omega, by omega⟩
def dc_R_swept (s : sg_S) (a1 : Int) : sg_S × Int := (if (dc_R_isHouse s a1) = 0 then (s, (-1000000001)) else ((sg_up (dc_R_minds s) 235 ((20 + a1).toNat) 0), ((dc_R_minds s) 235 ((20 + a1).toNat))))
def dw_R_swept (a k : Nat) : Bool := dw_R_minds a k || (a == 235)
theorem dr_R_swept (s : sg_S) (a1 : Int) (a k : Nat) (h : dw_R_swept a k = false) : (dc_R_swept s a1).1 a k = s a k := by
  have h0 := h
  unfold dw_R_swept at h
  simp only [Bool.or_eq_false_iff] at h
  obtain ⟨h1, h2⟩ := h
  unfold dc_R_swept
  (repeat' split) <;> simp only [(fun s => dr_R_minds s a k h1), (fun s l z => sg_upa (s := s) (l := l) (z := z) (k := k) h2)]
set_option maxRecDepth 100000 in
theorem dt_R_swept {h : mj_H} (hH : sy_H h) {a1 : Int} (b_a1 : (-2147483648) ≤ a1) (t_a1 : a1 ≤ 2147483647) : sy_wp (mj_m_156, 0, [(0, .ref 234), (1, sy_i a1)], [], h) (dq2 (-2147483648) (2147483647) (dc_R_swept (sy_rd h) a1)) := by
  unfold dc_R_swept
  have n234_6 := hH.bd (a := 234) (k := 6) rfl (by decide) rfl
  refine sy_st (S' := (mj_m_156, 1, [(0, .ref 234), (1, sy_i a1)], [.ref 234], h)) mj_d_156_0 (fun _ _ => rfl) ?_
  refine sy_st (S' := (mj_m_156, 2, [(0, .ref 234), (1, sy_i a1)], [sy_i a1, .ref 234], h)) mj_d_156_1 (fun _ _ => rfl) ?_
  refine sy_cv (M' := mj_m_141) (vs := [.ref 234, sy_i a1]) (rest := []) mj_d_156_2 rfl rfl rfl rfl hH rfl rfl ⟨by decide, ⟨Nat.le_of_ble_eq_true rfl, Nat.le_of_ble_eq_true rfl, Nat.le_of_ble_eq_true rfl, Nat.le_of_ble_eq_true rfl, Nat.le_of_ble_eq_true rfl⟩⟩ (dt_R_isHouse (a1 := a1) hH (by omega) (by omega)) ?_
  rintro _ _ ⟨rfl, rfl, b1, b1t⟩
  have q2 := df_R_isHouse_0 (sy_rd h) a1
  show sy_wp (mj_m_156, 5, [(0, .ref 234), (1, sy_i a1)], [sy_i (dc_R_isHouse (sy_rd h) a1)], h) _
  refine sy_ifc mj_d_156_5 rfl ⟨by omega, by omega⟩ (fun (c3 : ¬ ((dc_R_isHouse (sy_rd h) a1) = 0)) => ?_) (fun (c3 : ¬ ¬ ((dc_R_isHouse (sy_rd h) a1) = 0)) => ?_)
  · skip
    rw [if_neg c3]
    refine sy_st (S' := (mj_m_156, 12, [(0, .ref 234), (1, sy_i a1)], [.ref 234], h)) mj_d_156_11 (fun _ _ => rfl) ?_
    refine sy_cv (M' := mj_m_148) (vs := [.ref 234]) (rest := []) mj_d_156_12 rfl rfl rfl rfl hH rfl rfl ⟨by decide, ⟨Nat.le_of_ble_eq_true rfl, Nat.le_of_ble_eq_true rfl, Nat.le_of_ble_eq_true rfl, Nat.le_of_ble_eq_true rfl, Nat.le_of_ble_eq_true rfl⟩⟩ (dt_R_minds hH) ?_
    rintro _ h4 ⟨rfl, th4, eh4⟩
    show sy_wp (mj_m_156, 15, [(0, .ref 234), (1, sy_i a1)], [], h4) _
    refine sy_st (S' := (mj_m_156, 16, [(0, .ref 234), (1, sy_i a1)], [.ref 234], h4)) mj_d_156_15 (fun _ _ => rfl) ?_
    refine sy_gr2 (b := 235) mj_d_156_16 rfl rfl (by decide) rfl rfl th4 ?_
    refine sy_bip mj_d_156_19 (by decide) ?_
    refine sy_st (S' := (mj_m_156, 22, [(0, .ref 234), (1, sy_i a1)], [sy_i a1, sy_i 20, .ref 235], h4)) mj_d_156_21 (fun _ _ => rfl) ?_
    refine sy_add mj_d_156_22 ?_
    refine sg_iaN (lo := 0) (hi := 8) 20 29 (by decide) mj_d_156_23 (by omega) (by omega) (by omega) (by omega) th4 ?_
    intro x6 ex6 bx6 tx6
    rw [eh4] at ex6
    subst ex6
    refine sy_st (S' := (mj_m_156, 25, [(2, sy_i ((dc_R_minds (sy_rd h)) 235 ((20 + a1).toNat))), (0, .ref 234), (1, sy_i a1)], [], h4)) mj_d_156_24 (fun _ _ => rfl) ?_
    refine sy_st (S' := (mj_m_156, 26, [(2, sy_i ((dc_R_minds (sy_rd h)) 235 ((20 + a1).toNat))), (0, .ref 234), (1, sy_i a1)], [.ref 234], h4)) mj_d_156_25 (fun _ _ => rfl) ?_
    refine sy_gr2 (b := 235) mj_d_156_26 rfl rfl (by decide) rfl rfl th4 ?_
    refine sy_bip mj_d_156_29 (by decide) ?_
    refine sy_st (S' := (mj_m_156, 32, [(2, sy_i ((dc_R_minds (sy_rd h)) 235 ((20 + a1).toNat))), (0, .ref 234), (1, sy_i a1)], [sy_i a1, sy_i 20, .ref 235], h4)) mj_d_156_31 (fun _ _ => rfl) ?_
    refine sy_add mj_d_156_32 ?_
    refine sy_st (S' := (mj_m_156, 34, [(2, sy_i ((dc_R_minds (sy_rd h)) 235 ((20 + a1).toNat))), (0, .ref 234), (1, sy_i a1)], [sy_i 0, sy_i (20 + a1), .ref 235], h4)) mj_d_156_33 (fun _ _ => rfl) ?_
    refine sg_ias0 mj_d_156_34 (by omega) (by omega) th4 ?_
    intro h7 th7 eh7
    rw [eh4] at eh7
    refine sy_st (S' := (mj_m_156, 36, [(2, sy_i ((dc_R_minds (sy_rd h)) 235 ((20 + a1).toNat))), (0, .ref 234), (1, sy_i a1)], [sy_i ((dc_R_minds (sy_rd h)) 235 ((20 + a1).toNat))], h7)) mj_d_156_35 (fun _ _ => rfl) ?_
    exact sy_reti mj_d_156_36 rfl ⟨th7, eh7, rfl, by omega, by omega⟩
  · skip
    rw [if_pos (Decidable.not_not.mp c3)]
    replace c3 := Decidable.not_not.mp c3
    refine sy_ldc (n := -1000000001) mj_d_156_8 rfl (by decide) ?_
    exact sy_reti mj_d_156_10 rfl ⟨hH, rfl, rfl, by omega, by omega⟩
def dc_R_run (s : sg_S) (a1 a2 : Int) : sg_S × Int := (if (dc_R_isHouse s a1) = 0 then (s, (-1000000001)) else (if (dc_R_in s a2 (-1) (a1 - 1)) = 0 then (s, (-1000000001)) else ((sg_up (dc_R_minds s) 235 ((11 + a1).toNat) a2), ((dc_R_minds s) 235 ((11 + a1).toNat)))))
def dw_R_run (a k : Nat) : Bool := dw_R_minds a k || (a == 235)
theorem dr_R_run (s : sg_S) (a1 a2 : Int) (a k : Nat) (h : dw_R_run a k = false) : (dc_R_run s a1 a2).1 a k = s a k := by
  have h0 := h
  unfold dw_R_run at h
  simp only [Bool.or_eq_false_iff] at h
  obtain ⟨h1, h2⟩ := h
  unfold dc_R_run
  (repeat' split) <;> simp only [(fun s => dr_R_minds s a k h1), (fun s l z => sg_upa (s := s) (l := l) (z := z) (k := k) h2)]
set_option maxRecDepth 100000 in
theorem dt_R_run {h : mj_H} (hH : sy_H h) {a1 a2 : Int} (b_a1 : (-2147483648) ≤ a1) (t_a1 : a1 ≤ 2147483647) (b_a2 : (-2147483648) ≤ a2) (t_a2 : a2 ≤ 2147483647) : sy_wp (mj_m_157, 0, [(0, .ref 234), (1, sy_i a1), (2, sy_i a2)], [], h) (dq2 (-2147483648) (2147483647) (dc_R_run (sy_rd h) a1 a2)) := by
  unfold dc_R_run
  have n234_6 := hH.bd (a := 234) (k := 6) rfl (by decide) rfl
  refine sy_st (S' := (mj_m_157, 1, [(0, .ref 234), (1, sy_i a1), (2, sy_i a2)], [.ref 234], h)) mj_d_157_0 (fun _ _ => rfl) ?_
  refine sy_st (S' := (mj_m_157, 2, [(0, .ref 234), (1, sy_i a1), (2, sy_i a2)], [sy_i a1, .ref 234], h)) mj_d_157_1 (fun _ _ => rfl) ?_
  refine sy_cv (M' := mj_m_141) (vs := [.ref 234, sy_i a1]) (rest := []) mj_d_157_2 rfl rfl rfl rfl hH rfl rfl ⟨by decide, ⟨Nat.le_of_ble_eq_true rfl, Nat.le_of_ble_eq_true rfl, Nat.le_of_ble_eq_true rfl, Nat.le_of_ble_eq_true rfl, Nat.le_of_ble_eq_true rfl⟩⟩ (dt_R_isHouse (a1 := a1) hH (by omega) (by omega)) ?_
  rintro _ _ ⟨rfl, rfl, b1, b1t⟩
  have q2 := df_R_isHouse_0 (sy_rd h) a1
  show sy_wp (mj_m_157, 5, [(0, .ref 234), (1, sy_i a1), (2, sy_i a2)], [sy_i (dc_R_isHouse (sy_rd h) a1)], h) _
  refine sy_ifc mj_d_157_5 rfl ⟨by omega, by omega⟩ (fun (c3 : (dc_R_isHouse (sy_rd h) a1) = 0) => ?_) (fun (c3 : ¬ ((dc_R_isHouse (sy_rd h) a1) = 0)) => ?_)
  · skip
    rw [if_pos c3]
    refine sy_ldc (n := -1000000001) mj_d_157_23 rfl (by decide) ?_
    exact sy_reti mj_d_157_25 rfl ⟨hH, rfl, rfl, by omega, by omega⟩
  · skip
    rw [if_neg c3]
    refine sy_st (S' := (mj_m_157, 9, [(0, .ref 234), (1, sy_i a1), (2, sy_i a2)], [sy_i a2], h)) mj_d_157_8 (fun _ _ => rfl) ?_
    refine sy_i2l mj_d_157_9 ⟨by omega, by omega⟩ ?_
    refine sy_ldc2 (n := -1) mj_d_157_10 rfl (by decide) ?_
    refine sy_st (S' := (mj_m_157, 14, [(0, .ref 234), (1, sy_i a1), (2, sy_i a2)], [sy_i a1, sy_l (-1), sy_l a2], h)) mj_d_157_13 (fun _ _ => rfl) ?_
    refine sy_st (S' := (mj_m_157, 15, [(0, .ref 234), (1, sy_i a1), (2, sy_i a2)], [sy_i 1, sy_i a1, sy_l (-1), sy_l a2], h)) mj_d_157_14 (fun _ _ => rfl) ?_
    refine sy_sub mj_d_157_15 ?_
    refine sy_i2l mj_d_157_16 ⟨by omega, by omega⟩ ?_
    refine sy_cs (M' := mj_m_126) (vs := [sy_l a2, sy_l (-1), sy_l (a1 - 1)]) (rest := []) mj_d_157_17 rfl rfl rfl rfl ⟨Nat.le_of_ble_eq_true rfl, Nat.le_of_ble_eq_true rfl, Nat.le_of_ble_eq_true rfl, Nat.le_of_ble_eq_true rfl, Nat.le_of_ble_eq_true rfl⟩ (dt_R_in (a0 := a2) (a1 := (-1)) (a2 := (a1 - 1)) hH (by omega) (by omega) (by omega) (by omega) (by omega) (by omega)) ?_
    rintro _ _ ⟨rfl, rfl, b4, b4t⟩
    have q5 := df_R_in_0 (sy_rd h) a2 (-1) (a1 - 1)
    show sy_wp (mj_m_157, 20, [(0, .ref 234), (1, sy_i a1), (2, sy_i a2)], [sy_i (dc_R_in (sy_rd h) a2 (-1) (a1 - 1))], h) _
    refine sy_ifc mj_d_157_20 rfl ⟨by omega, by omega⟩ (fun (c6 : ¬ ((dc_R_in (sy_rd h) a2 (-1) (a1 - 1)) = 0)) => ?_) (fun (c6 : ¬ ¬ ((dc_R_in (sy_rd h) a2 (-1) (a1 - 1)) = 0)) => ?_)
    · skip
      rw [if_neg c6]
      refine sy_st (S' := (mj_m_157, 27, [(0, .ref 234), (1, sy_i a1), (2, sy_i a2)], [.ref 234], h)) mj_d_157_26 (fun _ _ => rfl) ?_
      refine sy_cv (M' := mj_m_148) (vs := [.ref 234]) (rest := []) mj_d_157_27 rfl rfl rfl rfl hH rfl rfl ⟨by decide, ⟨Nat.le_of_ble_eq_true rfl, Nat.le_of_ble_eq_true rfl, Nat.le_of_ble_eq_true rfl, Nat.le_of_ble_eq_true rfl, Nat.le_of_ble_eq_true rfl⟩⟩ (dt_R_minds hH) ?_
      rintro _ h7 ⟨rfl, th7, eh7⟩
      show sy_wp (mj_m_157, 30, [(0, .ref 234), (1, sy_i a1), (2, sy_i a2)], [], h7) _
      refine sy_st (S' := (mj_m_157, 31, [(0, .ref 234), (1, sy_i a1), (2, sy_i a2)], [.ref 234], h7)) mj_d_157_30 (fun _ _ => rfl) ?_
      refine sy_gr2 (b := 235) mj_d_157_31 rfl rfl (by decide) rfl rfl th7 ?_
      refine sy_bip mj_d_157_34 (by decide) ?_
      refine sy_st (S' := (mj_m_157, 37, [(0, .ref 234), (1, sy_i a1), (2, sy_i a2)], [sy_i a1, sy_i 11, .ref 235], h7)) mj_d_157_36 (fun _ _ => rfl) ?_
      refine sy_add mj_d_157_37 ?_
      refine sg_iaR mj_d_157_38 (by omega) (by omega) (by omega) (by omega) th7 ?_
      intro x9 ex9 bx9 tx9
      rw [eh7] at ex9
      subst ex9
      refine sy_st (S' := (mj_m_157, 40, [(3, sy_i ((dc_R_minds (sy_rd h)) 235 ((11 + a1).toNat))), (0, .ref 234), (1, sy_i a1), (2, sy_i a2)], [], h7)) mj_d_157_39 (fun _ _ => rfl) ?_
      refine sy_st (S' := (mj_m_157, 41, [(3, sy_i ((dc_R_minds (sy_rd h)) 235 ((11 + a1).toNat))), (0, .ref 234), (1, sy_i a1), (2, sy_i a2)], [.ref 234], h7)) mj_d_157_40 (fun _ _ => rfl) ?_
      refine sy_gr2 (b := 235) mj_d_157_41 rfl rfl (by decide) rfl rfl th7 ?_
      refine sy_bip mj_d_157_44 (by decide) ?_
      refine sy_st (S' := (mj_m_157, 47, [(3, sy_i ((dc_R_minds (sy_rd h)) 235 ((11 + a1).toNat))), (0, .ref 234), (1, sy_i a1), (2, sy_i a2)], [sy_i a1, sy_i 11, .ref 235], h7)) mj_d_157_46 (fun _ _ => rfl) ?_
      refine sy_add mj_d_157_47 ?_
      refine sy_st (S' := (mj_m_157, 49, [(3, sy_i ((dc_R_minds (sy_rd h)) 235 ((11 + a1).toNat))), (0, .ref 234), (1, sy_i a1), (2, sy_i a2)], [sy_i a2, sy_i (11 + a1), .ref 235], h7)) mj_d_157_48 (fun _ _ => rfl) ?_
      refine sg_iasR (v := a2) mj_d_157_49 (by omega) (by omega) (by omega) (by omega) (by omega) (by omega) th7 ?_
      intro h10 th10 eh10
      rw [eh7] at eh10
      refine sy_st (S' := (mj_m_157, 51, [(3, sy_i ((dc_R_minds (sy_rd h)) 235 ((11 + a1).toNat))), (0, .ref 234), (1, sy_i a1), (2, sy_i a2)], [sy_i ((dc_R_minds (sy_rd h)) 235 ((11 + a1).toNat))], h10)) mj_d_157_50 (fun _ _ => rfl) ?_
      exact sy_reti mj_d_157_51 rfl ⟨th10, eh10, rfl, by omega, by omega⟩
    · skip
      rw [if_pos (Decidable.not_not.mp c6)]
      replace c6 := Decidable.not_not.mp c6
      refine sy_ldc (n := -1000000001) mj_d_157_23 rfl (by decide) ?_
      exact sy_reti mj_d_157_25 rfl ⟨hH, rfl, rfl, by omega, by omega⟩
def dc_R_areTwo (s : sg_S) (a1 a2 : Int) : Int := (if (dc_R_isSweep s a1) = 0 then 0 else (if (dc_R_isSweep s a2) = 0 then 0 else (if a1 = a2 then 0 else 1)))
theorem df_R_areTwo_0 (s : sg_S) (a1 a2 : Int) : dc_R_areTwo s a1 a2 = 0 ∨ (0 ≤ a1 ∧ a1 < (s 234 7) ∧ 0 ≤ a2 ∧ a2 < (s 234 7)) := by
  unfold dc_R_areTwo dc_R_isSweep dc_R_in
  (repeat' split) <;> omega
set_option maxRecDepth 100000 in
theorem dt_R_areTwo {h : mj_H} (hH : sy_H h) {a1 a2 : Int} (b_a1 : (-2147483648) ≤ a1) (t_a1 : a1 ≤ 2147483647) (b_a2 : (-2147483648) ≤ a2) (t_a2 : a2 ≤ 2147483647) : sy_wp (mj_m_159, 0, [(0, .ref 234), (1, sy_i a1), (2, sy_i a2)], [], h) (dq1 h (0) (1) (dc_R_areTwo (sy_rd h) a1 a2)) := by
  unfold dc_R_areTwo
  refine sy_st (S' := (mj_m_159, 1, [(0, .ref 234), (1, sy_i a1), (2, sy_i a2)], [.ref 234], h)) mj_d_159_0 (fun _ _ => rfl) ?_
  refine sy_st (S' := (mj_m_159, 2, [(0, .ref 234), (1, sy_i a1), (2, sy_i a2)], [sy_i a1, .ref 234], h)) mj_d_159_1 (fun _ _ => rfl) ?_
  refine sy_cv (M' := mj_m_146) (vs := [.ref 234, sy_i a1]) (rest := []) mj_d_159_2 rfl rfl rfl rfl hH rfl rfl ⟨by decide, ⟨Nat.le_of_ble_eq_true rfl, Nat.le_of_ble_eq_true rfl, Nat.le_of_ble_eq_true rfl, Nat.le_of_ble_eq_true rfl, Nat.le_of_ble_eq_true rfl⟩⟩ (dt_R_isSweep (a1 := a1) hH (by omega) (by omega)) ?_
  rintro _ _ ⟨rfl, rfl, b1, b1t⟩
  have q2 := df_R_isSweep_0 (sy_rd h) a1
  show sy_wp (mj_m_159, 5, [(0, .ref 234), (1, sy_i a1), (2, sy_i a2)], [sy_i (dc_R_isSweep (sy_rd h) a1)], h) _
  refine sy_ifc mj_d_159_5 rfl ⟨by omega, by omega⟩ (fun (c3 : (dc_R_isSweep (sy_rd h) a1) = 0) => ?_) (fun (c3 : ¬ ((dc_R_isSweep (sy_rd h) a1) = 0)) => ?_)
  · skip
    rw [if_pos c3]
    refine sy_st (S' := (mj_m_159, 26, [(0, .ref 234), (1, sy_i a1), (2, sy_i a2)], [sy_i 0], h)) mj_d_159_25 (fun _ _ => rfl) ?_
    exact sy_retb mj_d_159_26 rfl ⟨by omega, by omega⟩ ⟨rfl, rfl, by omega, by omega⟩
  · skip
    rw [if_neg c3]
    refine sy_st (S' := (mj_m_159, 9, [(0, .ref 234), (1, sy_i a1), (2, sy_i a2)], [.ref 234], h)) mj_d_159_8 (fun _ _ => rfl) ?_
    refine sy_st (S' := (mj_m_159, 10, [(0, .ref 234), (1, sy_i a1), (2, sy_i a2)], [sy_i a2, .ref 234], h)) mj_d_159_9 (fun _ _ => rfl) ?_
    refine sy_cv (M' := mj_m_146) (vs := [.ref 234, sy_i a2]) (rest := []) mj_d_159_10 rfl rfl rfl rfl hH rfl rfl ⟨by decide, ⟨Nat.le_of_ble_eq_true rfl, Nat.le_of_ble_eq_true rfl, Nat.le_of_ble_eq_true rfl, Nat.le_of_ble_eq_true rfl, Nat.le_of_ble_eq_true rfl⟩⟩ (dt_R_isSweep (a1 := a2) hH (by omega) (by omega)) ?_
    rintro _ _ ⟨rfl, rfl, b4, b4t⟩
    have q5 := df_R_isSweep_0 (sy_rd h) a2
    show sy_wp (mj_m_159, 13, [(0, .ref 234), (1, sy_i a1), (2, sy_i a2)], [sy_i (dc_R_isSweep (sy_rd h) a2)], h) _
    refine sy_ifc mj_d_159_13 rfl ⟨by omega, by omega⟩ (fun (c6 : (dc_R_isSweep (sy_rd h) a2) = 0) => ?_) (fun (c6 : ¬ ((dc_R_isSweep (sy_rd h) a2) = 0)) => ?_)
    · skip
      rw [if_pos c6]
      refine sy_st (S' := (mj_m_159, 26, [(0, .ref 234), (1, sy_i a1), (2, sy_i a2)], [sy_i 0], h)) mj_d_159_25 (fun _ _ => rfl) ?_
      exact sy_retb mj_d_159_26 rfl ⟨by omega, by omega⟩ ⟨rfl, rfl, by omega, by omega⟩
    · skip
      rw [if_neg c6]
      refine sy_st (S' := (mj_m_159, 17, [(0, .ref 234), (1, sy_i a1), (2, sy_i a2)], [sy_i a1], h)) mj_d_159_16 (fun _ _ => rfl) ?_
      refine sy_st (S' := (mj_m_159, 18, [(0, .ref 234), (1, sy_i a1), (2, sy_i a2)], [sy_i a2, sy_i a1], h)) mj_d_159_17 (fun _ _ => rfl) ?_
      refine sy_icm mj_d_159_18 rfl ⟨by omega, by omega⟩ ⟨by omega, by omega⟩ (fun (c7 : a1 = a2) => ?_) (fun (c7 : ¬ (a1 = a2)) => ?_)
      · skip
        rw [if_pos c7]
        refine sy_st (S' := (mj_m_159, 26, [(0, .ref 234), (1, sy_i a1), (2, sy_i a2)], [sy_i 0], h)) mj_d_159_25 (fun _ _ => rfl) ?_
        exact sy_retb mj_d_159_26 rfl ⟨by omega, by omega⟩ ⟨rfl, rfl, by omega, by omega⟩
      · skip
        rw [if_neg c7]
        refine sy_st (S' := (mj_m_159, 22, [(0, .ref 234), (1, sy_i a1), (2, sy_i a2)], [sy_i 1], h)) mj_d_159_21 (fun _ _ => rfl) ?_
        refine sy_st (S' := (mj_m_159, 26, [(0, .ref 234), (1, sy_i a1), (2, sy_i a2)], [sy_i 1], h)) mj_d_159_22 (fun _ _ => rfl) ?_
        exact sy_retb mj_d_159_26 rfl ⟨by omega, by omega⟩ ⟨rfl, rfl, by omega, by omega⟩
def dc_R_isKnown (s : sg_S) (a1 a2 : Int) : Int := (dc_R_has s (s 235 ((101 + a1).toNat)) a2)
set_option maxRecDepth 100000 in
theorem dt_R_isKnown {h : mj_H} (hH : sy_H h) {a1 a2 : Int} (b_a1 : 0 ≤ a1) (t_a1 : a1 ≤ 4) (b_a2 : (-2147483648) ≤ a2) (t_a2 : a2 ≤ 2147483647) : sy_wp (mj_m_160, 0, [(0, .ref 234), (1, sy_i a1), (2, sy_i a2)], [], h) (dq1 h (0) (1) (dc_R_isKnown (sy_rd h) a1 a2)) := by
  unfold dc_R_isKnown
  refine sy_st (S' := (mj_m_160, 1, [(0, .ref 234), (1, sy_i a1), (2, sy_i a2)], [.ref 234], h)) mj_d_160_0 (fun _ _ => rfl) ?_
  refine sy_gr2 (b := 235) mj_d_160_1 rfl rfl (by decide) rfl rfl hH ?_
  refine sy_bip mj_d_160_4 (by decide) ?_
  refine sy_st (S' := (mj_m_160, 7, [(0, .ref 234), (1, sy_i a1), (2, sy_i a2)], [sy_i a1, sy_i 101, .ref 235], h)) mj_d_160_6 (fun _ _ => rfl) ?_
  refine sy_add mj_d_160_7 ?_
  refine sg_iaN (lo := 0) (hi := 511) 101 106 (by decide) mj_d_160_8 (by omega) (by omega) (by omega) (by omega) hH ?_
  rintro _ rfl bx1 tx1
  refine sy_st (S' := (mj_m_160, 10, [(0, .ref 234), (1, sy_i a1), (2, sy_i a2)], [sy_i a2, sy_i (sy_rd h 235 ((101 + a1).toNat))], h)) mj_d_160_9 (fun _ _ => rfl) ?_
  refine sy_cs (M' := mj_m_161) (vs := [sy_i (sy_rd h 235 ((101 + a1).toNat)), sy_i a2]) (rest := []) mj_d_160_10 rfl rfl rfl rfl ⟨Nat.le_of_ble_eq_true rfl, Nat.le_of_ble_eq_true rfl, Nat.le_of_ble_eq_true rfl, Nat.le_of_ble_eq_true rfl, Nat.le_of_ble_eq_true rfl⟩ (dt_R_has (a0 := (sy_rd h 235 ((101 + a1).toNat))) (a1 := a2) hH (by omega) (by omega) (by omega) (by omega)) ?_
  rintro _ _ ⟨rfl, rfl, b2, b2t⟩
  show sy_wp (mj_m_160, 13, [(0, .ref 234), (1, sy_i a1), (2, sy_i a2)], [sy_i (dc_R_has (sy_rd h) (sy_rd h 235 ((101 + a1).toNat)) a2)], h) _
  exact sy_retb mj_d_160_13 rfl ⟨by omega, by omega⟩ ⟨rfl, rfl, by omega, by omega⟩
def dc_R_swap (s : sg_S) (a1 a2 a3 a4 : Int) : sg_S × Int := (if (dc_R_areTwo s a1 a3) = 0 then (s, (-1000000001)) else (if (dc_R_isHouse s a2) = 0 then (s, (-1000000001)) else (if (dc_R_isHouse s a4) = 0 then (s, (-1000000001)) else (if (dc_R_isKnown s a1 a2) = 0 then (s, (-1000000003)) else (if (dc_R_isKnown s a3 a2) = 0 then (if (dc_R_isKnown s a3 a4) = 0 then (s, (-1000000003)) else (if (dc_R_isKnown s a1 a4) = 0 then ((sg_up (sg_up (dc_R_minds s) 235 ((101 + a1).toNat) (sy_or ((dc_R_minds s) 235 ((101 + a1).toNat)) (sy_shl 1 a4))) 235 ((101 + a3).toNat) (sy_or ((sg_up (dc_R_minds s) 235 ((101 + a1).toNat) (sy_or ((dc_R_minds s) 235 ((101 + a1).toNat)) (sy_shl 1 a4))) 235 ((101 + a3).toNat)) (sy_shl 1 a2))), ((sg_up (sg_up (dc_R_minds s) 235 ((101 + a1).toNat) (sy_or ((dc_R_minds s) 235 ((101 + a1).toNat)) (sy_shl 1 a4))) 235 ((101 + a3).toNat) (sy_or ((sg_up (dc_R_minds s) 235 ((101 + a1).toNat) (sy_or ((dc_R_minds s) 235 ((101 + a1).toNat)) (sy_shl 1 a4))) 235 ((101 + a3).toNat)) (sy_shl 1 a2))) 235 ((101 + a1).toNat))) else (s, (-1000000003)))) else (s, (-1000000003)))))))
def dw_R_swap (a k : Nat) : Bool := dw_R_minds a k || (a == 235)
theorem dr_R_swap (s : sg_S) (a1 a2 a3 a4 : Int) (a k : Nat) (h : dw_R_swap a k = false) : (dc_R_swap s a1 a2 a3 a4).1 a k = s a k := by
  have h0 := h
  unfold dw_R_swap at h
  simp only [Bool.or_eq_false_iff] at h
  obtain ⟨h1, h2⟩ := h
  unfold dc_R_swap
  (repeat' split) <;> simp only [(fun s => dr_R_minds s a k h1), (fun s l z => sg_upa (s := s) (l := l) (z := z) (k := k) h2)]
set_option maxRecDepth 100000 in
theorem dt_R_swap {h : mj_H} (hH : sy_H h) {a1 a2 a3 a4 : Int} (b_a1 : (-2147483648) ≤ a1) (t_a1 : a1 ≤ 2147483647) (b_a2 : (-2147483648) ≤ a2) (t_a2 : a2 ≤ 2147483647) (b_a3 : (-2147483648) ≤ a3) (t_a3 : a3 ≤ 2147483647) (b_a4 : (-2147483648) ≤ a4) (t_a4 : a4 ≤ 2147483647) : sy_wp (mj_m_158, 0, [(0, .ref 234), (1, sy_i a1), (2, sy_i a2), (3, sy_i a3), (4, sy_i a4)], [], h) (dq2 (-2147483648) (2147483647) (dc_R_swap (sy_rd h) a1 a2 a3 a4)) := by
  unfold dc_R_swap
  have n234_6 := hH.bd (a := 234) (k := 6) rfl (by decide) rfl
  have n234_7 := hH.bd (a := 234) (k := 7) rfl (by decide) rfl
  refine sy_st (S' := (mj_m_158, 1, [(0, .ref 234), (1, sy_i a1), (2, sy_i a2), (3, sy_i a3), (4, sy_i a4)], [.ref 234], h)) mj_d_158_0 (fun _ _ => rfl) ?_
  refine sy_st (S' := (mj_m_158, 2, [(0, .ref 234), (1, sy_i a1), (2, sy_i a2), (3, sy_i a3), (4, sy_i a4)], [sy_i a1, .ref 234], h)) mj_d_158_1 (fun _ _ => rfl) ?_
  refine sy_st (S' := (mj_m_158, 3, [(0, .ref 234), (1, sy_i a1), (2, sy_i a2), (3, sy_i a3), (4, sy_i a4)], [sy_i a3, sy_i a1, .ref 234], h)) mj_d_158_2 (fun _ _ => rfl) ?_
  refine sy_cv (M' := mj_m_159) (vs := [.ref 234, sy_i a1, sy_i a3]) (rest := []) mj_d_158_3 rfl rfl rfl rfl hH rfl rfl ⟨by decide, ⟨Nat.le_of_ble_eq_true rfl, Nat.le_of_ble_eq_true rfl, Nat.le_of_ble_eq_true rfl, Nat.le_of_ble_eq_true rfl, Nat.le_of_ble_eq_true rfl⟩⟩ (dt_R_areTwo (a1 := a1) (a2 := a3) hH (by omega) (by omega) (by omega) (by omega)) ?_
  rintro _ _ ⟨rfl, rfl, b1, b1t⟩
  have q2 := df_R_areTwo_0 (sy_rd h) a1 a3
  show sy_wp (mj_m_158, 6, [(0, .ref 234), (1, sy_i a1), (2, sy_i a2), (3, sy_i a3), (4, sy_i a4)], [sy_i (dc_R_areTwo (sy_rd h) a1 a3)], h) _
  refine sy_ifc mj_d_158_6 rfl ⟨by omega, by omega⟩ (fun (c3 : (dc_R_areTwo (sy_rd h) a1 a3) = 0) => ?_) (fun (c3 : ¬ ((dc_R_areTwo (sy_rd h) a1 a3) = 0)) => ?_)
  · skip
    rw [if_pos c3]
    refine sy_ldc (n := -1000000001) mj_d_158_26 rfl (by decide) ?_
    exact sy_reti mj_d_158_28 rfl ⟨hH, rfl, rfl, by omega, by omega⟩
  · skip
    rw [if_neg c3]
    refine sy_st (S' := (mj_m_158, 10, [(0, .ref 234), (1, sy_i a1), (2, sy_i a2), (3, sy_i a3), (4, sy_i a4)], [.ref 234], h)) mj_d_158_9 (fun _ _ => rfl) ?_
    refine sy_st (S' := (mj_m_158, 11, [(0, .ref 234), (1, sy_i a1), (2, sy_i a2), (3, sy_i a3), (4, sy_i a4)], [sy_i a2, .ref 234], h)) mj_d_158_10 (fun _ _ => rfl) ?_
    refine sy_cv (M' := mj_m_141) (vs := [.ref 234, sy_i a2]) (rest := []) mj_d_158_11 rfl rfl rfl rfl hH rfl rfl ⟨by decide, ⟨Nat.le_of_ble_eq_true rfl, Nat.le_of_ble_eq_true rfl, Nat.le_of_ble_eq_true rfl, Nat.le_of_ble_eq_true rfl, Nat.le_of_ble_eq_true rfl⟩⟩ (dt_R_isHouse (a1 := a2) hH (by omega) (by omega)) ?_
    rintro _ _ ⟨rfl, rfl, b4, b4t⟩
    have q5 := df_R_isHouse_0 (sy_rd h) a2
    show sy_wp (mj_m_158, 14, [(0, .ref 234), (1, sy_i a1), (2, sy_i a2), (3, sy_i a3), (4, sy_i a4)], [sy_i (dc_R_isHouse (sy_rd h) a2)], h) _
    refine sy_ifc mj_d_158_14 rfl ⟨by omega, by omega⟩ (fun (c6 : (dc_R_isHouse (sy_rd h) a2) = 0) => ?_) (fun (c6 : ¬ ((dc_R_isHouse (sy_rd h) a2) = 0)) => ?_)
    · skip
      rw [if_pos c6]
      refine sy_ldc (n := -1000000001) mj_d_158_26 rfl (by decide) ?_
      exact sy_reti mj_d_158_28 rfl ⟨hH, rfl, rfl, by omega, by omega⟩
    · skip
      rw [if_neg c6]
      refine sy_st (S' := (mj_m_158, 18, [(0, .ref 234), (1, sy_i a1), (2, sy_i a2), (3, sy_i a3), (4, sy_i a4)], [.ref 234], h)) mj_d_158_17 (fun _ _ => rfl) ?_
      refine sy_st (S' := (mj_m_158, 20, [(0, .ref 234), (1, sy_i a1), (2, sy_i a2), (3, sy_i a3), (4, sy_i a4)], [sy_i a4, .ref 234], h)) mj_d_158_18 (fun _ _ => rfl) ?_
      refine sy_cv (M' := mj_m_141) (vs := [.ref 234, sy_i a4]) (rest := []) mj_d_158_20 rfl rfl rfl rfl hH rfl rfl ⟨by decide, ⟨Nat.le_of_ble_eq_true rfl, Nat.le_of_ble_eq_true rfl, Nat.le_of_ble_eq_true rfl, Nat.le_of_ble_eq_true rfl, Nat.le_of_ble_eq_true rfl⟩⟩ (dt_R_isHouse (a1 := a4) hH (by omega) (by omega)) ?_
      rintro _ _ ⟨rfl, rfl, b7, b7t⟩
      have q8 := df_R_isHouse_0 (sy_rd h) a4
      show sy_wp (mj_m_158, 23, [(0, .ref 234), (1, sy_i a1), (2, sy_i a2), (3, sy_i a3), (4, sy_i a4)], [sy_i (dc_R_isHouse (sy_rd h) a4)], h) _
      refine sy_ifc mj_d_158_23 rfl ⟨by omega, by omega⟩ (fun (c9 : ¬ ((dc_R_isHouse (sy_rd h) a4) = 0)) => ?_) (fun (c9 : ¬ ¬ ((dc_R_isHouse (sy_rd h) a4) = 0)) => ?_)
      · skip
        rw [if_neg c9]
        refine sy_st (S' := (mj_m_158, 30, [(0, .ref 234), (1, sy_i a1), (2, sy_i a2), (3, sy_i a3), (4, sy_i a4)], [.ref 234], h)) mj_d_158_29 (fun _ _ => rfl) ?_
        refine sy_st (S' := (mj_m_158, 31, [(0, .ref 234), (1, sy_i a1), (2, sy_i a2), (3, sy_i a3), (4, sy_i a4)], [sy_i a1, .ref 234], h)) mj_d_158_30 (fun _ _ => rfl) ?_
        refine sy_st (S' := (mj_m_158, 32, [(0, .ref 234), (1, sy_i a1), (2, sy_i a2), (3, sy_i a3), (4, sy_i a4)], [sy_i a2, sy_i a1, .ref 234], h)) mj_d_158_31 (fun _ _ => rfl) ?_
        refine sy_cv (M' := mj_m_160) (vs := [.ref 234, sy_i a1, sy_i a2]) (rest := []) mj_d_158_32 rfl rfl rfl rfl hH rfl rfl ⟨by decide, ⟨Nat.le_of_ble_eq_true rfl, Nat.le_of_ble_eq_true rfl, Nat.le_of_ble_eq_true rfl, Nat.le_of_ble_eq_true rfl, Nat.le_of_ble_eq_true rfl⟩⟩ (dt_R_isKnown (a1 := a1) (a2 := a2) hH (by omega) (by omega) (by omega) (by omega)) ?_
        rintro _ _ ⟨rfl, rfl, b10, b10t⟩
        show sy_wp (mj_m_158, 35, [(0, .ref 234), (1, sy_i a1), (2, sy_i a2), (3, sy_i a3), (4, sy_i a4)], [sy_i (dc_R_isKnown (sy_rd h) a1 a2)], h) _
        refine sy_ifc mj_d_158_35 rfl ⟨by omega, by omega⟩ (fun (c11 : (dc_R_isKnown (sy_rd h) a1 a2) = 0) => ?_) (fun (c11 : ¬ ((dc_R_isKnown (sy_rd h) a1 a2) = 0)) => ?_)
        · skip
          rw [if_pos c11]
          refine sy_ldc (n := -1000000003) mj_d_158_67 rfl (by decide) ?_
          exact sy_reti mj_d_158_69 rfl ⟨hH, rfl, rfl, by omega, by omega⟩
        · skip
          rw [if_neg c11]
          refine sy_st (S' := (mj_m_158, 39, [(0, .ref 234), (1, sy_i a1), (2, sy_i a2), (3, sy_i a3), (4, sy_i a4)], [.ref 234], h)) mj_d_158_38 (fun _ _ => rfl) ?_
          refine sy_st (S' := (mj_m_158, 40, [(0, .ref 234), (1, sy_i a1), (2, sy_i a2), (3, sy_i a3), (4, sy_i a4)], [sy_i a3, .ref 234], h)) mj_d_158_39 (fun _ _ => rfl) ?_
          refine sy_st (S' := (mj_m_158, 41, [(0, .ref 234), (1, sy_i a1), (2, sy_i a2), (3, sy_i a3), (4, sy_i a4)], [sy_i a2, sy_i a3, .ref 234], h)) mj_d_158_40 (fun _ _ => rfl) ?_
          refine sy_cv (M' := mj_m_160) (vs := [.ref 234, sy_i a3, sy_i a2]) (rest := []) mj_d_158_41 rfl rfl rfl rfl hH rfl rfl ⟨by decide, ⟨Nat.le_of_ble_eq_true rfl, Nat.le_of_ble_eq_true rfl, Nat.le_of_ble_eq_true rfl, Nat.le_of_ble_eq_true rfl, Nat.le_of_ble_eq_true rfl⟩⟩ (dt_R_isKnown (a1 := a3) (a2 := a2) hH (by omega) (by omega) (by omega) (by omega)) ?_
          rintro _ _ ⟨rfl, rfl, b12, b12t⟩
          show sy_wp (mj_m_158, 44, [(0, .ref 234), (1, sy_i a1), (2, sy_i a2), (3, sy_i a3), (4, sy_i a4)], [sy_i (dc_R_isKnown (sy_rd h) a3 a2)], h) _
          refine sy_ifc mj_d_158_44 rfl ⟨by omega, by omega⟩ (fun (c13 : ¬ ((dc_R_isKnown (sy_rd h) a3 a2) = 0)) => ?_) (fun (c13 : ¬ ¬ ((dc_R_isKnown (sy_rd h) a3 a2) = 0)) => ?_)
          · skip
            rw [if_neg c13]
            refine sy_ldc (n := -1000000003) mj_d_158_67 rfl (by decide) ?_
            exact sy_reti mj_d_158_69 rfl ⟨hH, rfl, rfl, by omega, by omega⟩
          · skip
            rw [if_pos (Decidable.not_not.mp c13)]
            replace c13 := Decidable.not_not.mp c13
            refine sy_st (S' := (mj_m_158, 48, [(0, .ref 234), (1, sy_i a1), (2, sy_i a2), (3, sy_i a3), (4, sy_i a4)], [.ref 234], h)) mj_d_158_47 (fun _ _ => rfl) ?_
            refine sy_st (S' := (mj_m_158, 49, [(0, .ref 234), (1, sy_i a1), (2, sy_i a2), (3, sy_i a3), (4, sy_i a4)], [sy_i a3, .ref 234], h)) mj_d_158_48 (fun _ _ => rfl) ?_
            refine sy_st (S' := (mj_m_158, 51, [(0, .ref 234), (1, sy_i a1), (2, sy_i a2), (3, sy_i a3), (4, sy_i a4)], [sy_i a4, sy_i a3, .ref 234], h)) mj_d_158_49 (fun _ _ => rfl) ?_
            refine sy_cv (M' := mj_m_160) (vs := [.ref 234, sy_i a3, sy_i a4]) (rest := []) mj_d_158_51 rfl rfl rfl rfl hH rfl rfl ⟨by decide, ⟨Nat.le_of_ble_eq_true rfl, Nat.le_of_ble_eq_true rfl, Nat.le_of_ble_eq_true rfl, Nat.le_of_ble_eq_true rfl, Nat.le_of_ble_eq_true rfl⟩⟩ (dt_R_isKnown (a1 := a3) (a2 := a4) hH (by omega) (by omega) (by omega) (by omega)) ?_
            rintro _ _ ⟨rfl, rfl, b14, b14t⟩
            show sy_wp (mj_m_158, 54, [(0, .ref 234), (1, sy_i a1), (2, sy_i a2), (3, sy_i a3), (4, sy_i a4)], [sy_i (dc_R_isKnown (sy_rd h) a3 a4)], h) _
            refine sy_ifc mj_d_158_54 rfl ⟨by omega, by omega⟩ (fun (c15 : (dc_R_isKnown (sy_rd h) a3 a4) = 0) => ?_) (fun (c15 : ¬ ((dc_R_isKnown (sy_rd h) a3 a4) = 0)) => ?_)
            · skip
              rw [if_pos c15]
              refine sy_ldc (n := -1000000003) mj_d_158_67 rfl (by decide) ?_
              exact sy_reti mj_d_158_69 rfl ⟨hH, rfl, rfl, by omega, by omega⟩
            · skip
              rw [if_neg c15]
              refine sy_st (S' := (mj_m_158, 58, [(0, .ref 234), (1, sy_i a1), (2, sy_i a2), (3, sy_i a3), (4, sy_i a4)], [.ref 234], h)) mj_d_158_57 (fun _ _ => rfl) ?_
              refine sy_st (S' := (mj_m_158, 59, [(0, .ref 234), (1, sy_i a1), (2, sy_i a2), (3, sy_i a3), (4, sy_i a4)], [sy_i a1, .ref 234], h)) mj_d_158_58 (fun _ _ => rfl) ?_
              refine sy_st (S' := (mj_m_158, 61, [(0, .ref 234), (1, sy_i a1), (2, sy_i a2), (3, sy_i a3), (4, sy_i a4)], [sy_i a4, sy_i a1, .ref 234], h)) mj_d_158_59 (fun _ _ => rfl) ?_
              refine sy_cv (M' := mj_m_160) (vs := [.ref 234, sy_i a1, sy_i a4]) (rest := []) mj_d_158_61 rfl rfl rfl rfl hH rfl rfl ⟨by decide, ⟨Nat.le_of_ble_eq_true rfl, Nat.le_of_ble_eq_true rfl, Nat.le_of_ble_eq_true rfl, Nat.le_of_ble_eq_true rfl, Nat.le_of_ble_eq_true rfl⟩⟩ (dt_R_isKnown (a1 := a1) (a2 := a4) hH (by omega) (by omega) (by omega) (by omega)) ?_
              rintro _ _ ⟨rfl, rfl, b16, b16t⟩
              show sy_wp (mj_m_158, 64, [(0, .ref 234), (1, sy_i a1), (2, sy_i a2), (3, sy_i a3), (4, sy_i a4)], [sy_i (dc_R_isKnown (sy_rd h) a1 a4)], h) _
              refine sy_ifc mj_d_158_64 rfl ⟨by omega, by omega⟩ (fun (c17 : (dc_R_isKnown (sy_rd h) a1 a4) = 0) => ?_) (fun (c17 : ¬ ((dc_R_isKnown (sy_rd h) a1 a4) = 0)) => ?_)
              · skip
                rw [if_pos c17]
                refine sy_st (S' := (mj_m_158, 71, [(0, .ref 234), (1, sy_i a1), (2, sy_i a2), (3, sy_i a3), (4, sy_i a4)], [.ref 234], h)) mj_d_158_70 (fun _ _ => rfl) ?_
                refine sy_cv (M' := mj_m_148) (vs := [.ref 234]) (rest := []) mj_d_158_71 rfl rfl rfl rfl hH rfl rfl ⟨by decide, ⟨Nat.le_of_ble_eq_true rfl, Nat.le_of_ble_eq_true rfl, Nat.le_of_ble_eq_true rfl, Nat.le_of_ble_eq_true rfl, Nat.le_of_ble_eq_true rfl⟩⟩ (dt_R_minds hH) ?_
                rintro _ h18 ⟨rfl, th18, eh18⟩
                show sy_wp (mj_m_158, 74, [(0, .ref 234), (1, sy_i a1), (2, sy_i a2), (3, sy_i a3), (4, sy_i a4)], [], h18) _
                refine sy_st (S' := (mj_m_158, 75, [(0, .ref 234), (1, sy_i a1), (2, sy_i a2), (3, sy_i a3), (4, sy_i a4)], [.ref 234], h18)) mj_d_158_74 (fun _ _ => rfl) ?_
                refine sy_gr2 (b := 235) mj_d_158_75 rfl rfl (by decide) rfl rfl th18 ?_
                refine sy_bip mj_d_158_78 (by decide) ?_
                refine sy_st (S' := (mj_m_158, 81, [(0, .ref 234), (1, sy_i a1), (2, sy_i a2), (3, sy_i a3), (4, sy_i a4)], [sy_i a1, sy_i 101, .ref 235], h18)) mj_d_158_80 (fun _ _ => rfl) ?_
                refine sy_add mj_d_158_81 ?_
                refine sy_st (S' := (mj_m_158, 83, [(0, .ref 234), (1, sy_i a1), (2, sy_i a2), (3, sy_i a3), (4, sy_i a4)], [sy_i (101 + a1), .ref 235, sy_i (101 + a1), .ref 235], h18)) mj_d_158_82 (fun _ _ => rfl) ?_
                refine sg_iaN (lo := 0) (hi := 511) 101 106 (by decide) mj_d_158_83 (by omega) (by omega) (by omega) (by omega) th18 ?_
                intro x20 ex20 bx20 tx20
                rw [eh18] at ex20
                subst ex20
                refine sy_st (S' := (mj_m_158, 85, [(0, .ref 234), (1, sy_i a1), (2, sy_i a2), (3, sy_i a3), (4, sy_i a4)], [sy_i 1, sy_i ((dc_R_minds (sy_rd h)) 235 ((101 + a1).toNat)), sy_i (101 + a1), .ref 235], h18)) mj_d_158_84 (fun _ _ => rfl) ?_
                refine sy_st (S' := (mj_m_158, 87, [(0, .ref 234), (1, sy_i a1), (2, sy_i a2), (3, sy_i a3), (4, sy_i a4)], [sy_i a4, sy_i 1, sy_i ((dc_R_minds (sy_rd h)) 235 ((101 + a1).toNat)), sy_i (101 + a1), .ref 235], h18)) mj_d_158_85 (fun _ _ => rfl) ?_
                refine sy_ishl mj_d_158_87 ?_
                have q21 := sg_shl9 a4 (by omega) (by omega)
                refine sy_ior mj_d_158_88 ?_
                have q22 := sg_or9 ((dc_R_minds (sy_rd h)) 235 ((101 + a1).toNat)) (sy_shl 1 a4) (by omega) (by omega) (by omega) (by omega)
                refine sg_iasN (v := (sy_or ((dc_R_minds (sy_rd h)) 235 ((101 + a1).toNat)) (sy_shl 1 a4))) (lo := 0) (hi := 511) 101 106 (by decide) mj_d_158_89 (by omega) (by omega) (by omega) (by omega) (by omega) (by omega) th18 ?_
                intro h23 th23 eh23
                rw [eh18] at eh23
                refine sy_st (S' := (mj_m_158, 91, [(0, .ref 234), (1, sy_i a1), (2, sy_i a2), (3, sy_i a3), (4, sy_i a4)], [.ref 234], h23)) mj_d_158_90 (fun _ _ => rfl) ?_
                refine sy_gr2 (b := 235) mj_d_158_91 rfl rfl (by decide) rfl rfl th23 ?_
                refine sy_bip mj_d_158_94 (by decide) ?_
                refine sy_st (S' := (mj_m_158, 97, [(0, .ref 234), (1, sy_i a1), (2, sy_i a2), (3, sy_i a3), (4, sy_i a4)], [sy_i a3, sy_i 101, .ref 235], h23)) mj_d_158_96 (fun _ _ => rfl) ?_
                refine sy_add mj_d_158_97 ?_
                refine sy_st (S' := (mj_m_158, 99, [(0, .ref 234), (1, sy_i a1), (2, sy_i a2), (3, sy_i a3), (4, sy_i a4)], [sy_i (101 + a3), .ref 235, sy_i (101 + a3), .ref 235], h23)) mj_d_158_98 (fun _ _ => rfl) ?_
                refine sg_iaN (lo := 0) (hi := 511) 101 106 (by decide) mj_d_158_99 (by omega) (by omega) (by omega) (by omega) th23 ?_
                intro x24 ex24 bx24 tx24
                rw [eh23] at ex24
                subst ex24
                refine sy_st (S' := (mj_m_158, 101, [(0, .ref 234), (1, sy_i a1), (2, sy_i a2), (3, sy_i a3), (4, sy_i a4)], [sy_i 1, sy_i ((sg_up (dc_R_minds (sy_rd h)) 235 ((101 + a1).toNat) (sy_or ((dc_R_minds (sy_rd h)) 235 ((101 + a1).toNat)) (sy_shl 1 a4))) 235 ((101 + a3).toNat)), sy_i (101 + a3), .ref 235], h23)) mj_d_158_100 (fun _ _ => rfl) ?_
                refine sy_st (S' := (mj_m_158, 102, [(0, .ref 234), (1, sy_i a1), (2, sy_i a2), (3, sy_i a3), (4, sy_i a4)], [sy_i a2, sy_i 1, sy_i ((sg_up (dc_R_minds (sy_rd h)) 235 ((101 + a1).toNat) (sy_or ((dc_R_minds (sy_rd h)) 235 ((101 + a1).toNat)) (sy_shl 1 a4))) 235 ((101 + a3).toNat)), sy_i (101 + a3), .ref 235], h23)) mj_d_158_101 (fun _ _ => rfl) ?_
                refine sy_ishl mj_d_158_102 ?_
                have q25 := sg_shl9 a2 (by omega) (by omega)
                refine sy_ior mj_d_158_103 ?_
                have q26 := sg_or9 ((sg_up (dc_R_minds (sy_rd h)) 235 ((101 + a1).toNat) (sy_or ((dc_R_minds (sy_rd h)) 235 ((101 + a1).toNat)) (sy_shl 1 a4))) 235 ((101 + a3).toNat)) (sy_shl 1 a2) (by omega) (by omega) (by omega) (by omega)
                refine sg_iasN (v := (sy_or ((sg_up (dc_R_minds (sy_rd h)) 235 ((101 + a1).toNat) (sy_or ((dc_R_minds (sy_rd h)) 235 ((101 + a1).toNat)) (sy_shl 1 a4))) 235 ((101 + a3).toNat)) (sy_shl 1 a2))) (lo := 0) (hi := 511) 101 106 (by decide) mj_d_158_104 (by omega) (by omega) (by omega) (by omega) (by omega) (by omega) th23 ?_
                intro h27 th27 eh27
                rw [eh23] at eh27
                refine sy_st (S' := (mj_m_158, 106, [(0, .ref 234), (1, sy_i a1), (2, sy_i a2), (3, sy_i a3), (4, sy_i a4)], [.ref 234], h27)) mj_d_158_105 (fun _ _ => rfl) ?_
                refine sy_gr2 (b := 235) mj_d_158_106 rfl rfl (by decide) rfl rfl th27 ?_
                refine sy_bip mj_d_158_109 (by decide) ?_
                refine sy_st (S' := (mj_m_158, 112, [(0, .ref 234), (1, sy_i a1), (2, sy_i a2), (3, sy_i a3), (4, sy_i a4)], [sy_i a1, sy_i 101, .ref 235], h27)) mj_d_158_111 (fun _ _ => rfl) ?_
                refine sy_add mj_d_158_112 ?_
                refine sg_iaN (lo := 0) (hi := 511) 101 106 (by decide) mj_d_158_113 (by omega) (by omega) (by omega) (by omega) th27 ?_
                intro x28 ex28 bx28 tx28
                rw [eh27] at ex28
                subst ex28
                exact sy_reti mj_d_158_114 rfl ⟨th27, eh27, rfl, by omega, by omega⟩
              · skip
                rw [if_neg c17]
                refine sy_ldc (n := -1000000003) mj_d_158_67 rfl (by decide) ?_
                exact sy_reti mj_d_158_69 rfl ⟨hH, rfl, rfl, by omega, by omega⟩
      · skip
        rw [if_pos (Decidable.not_not.mp c9)]
        replace c9 := Decidable.not_not.mp c9
        refine sy_ldc (n := -1000000001) mj_d_158_26 rfl (by decide) ?_
        exact sy_reti mj_d_158_28 rfl ⟨hH, rfl, rfl, by omega, by omega⟩
def dc_R_pay (s : sg_S) (a1 a2 a3 : Int) : sg_S × Int := (if (dc_R_areTwo s a1 a2) = 0 then (s, (-1000000001)) else (if (dc_R_isHouse s a3) = 0 then (s, (-1000000001)) else (if (dc_R_isKnown s a2 a3) = 0 then (s, (-1000000003)) else (if (dc_R_isKnown s a1 a3) = 0 then ((sg_up (sg_up (sg_up (sg_up (dc_R_minds s) 235 ((101 + a1).toNat) (sy_or ((dc_R_minds s) 235 ((101 + a1).toNat)) (sy_shl 1 a3))) 235 ((106 + a1).toNat) (sy_w (((sg_up (dc_R_minds s) 235 ((101 + a1).toNat) (sy_or ((dc_R_minds s) 235 ((101 + a1).toNat)) (sy_shl 1 a3))) 235 ((106 + a1).toNat)) - (s 237 ((a2).toNat))))) 235 ((106 + a2).toNat) (sy_w (((sg_up (sg_up (dc_R_minds s) 235 ((101 + a1).toNat) (sy_or ((dc_R_minds s) 235 ((101 + a1).toNat)) (sy_shl 1 a3))) 235 ((106 + a1).toNat) (sy_w (((sg_up (dc_R_minds s) 235 ((101 + a1).toNat) (sy_or ((dc_R_minds s) 235 ((101 + a1).toNat)) (sy_shl 1 a3))) 235 ((106 + a1).toNat)) - (s 237 ((a2).toNat))))) 235 ((106 + a2).toNat)) + (s 237 ((a2).toNat))))) 235 1 (sy_w (((sg_up (sg_up (sg_up (dc_R_minds s) 235 ((101 + a1).toNat) (sy_or ((dc_R_minds s) 235 ((101 + a1).toNat)) (sy_shl 1 a3))) 235 ((106 + a1).toNat) (sy_w (((sg_up (dc_R_minds s) 235 ((101 + a1).toNat) (sy_or ((dc_R_minds s) 235 ((101 + a1).toNat)) (sy_shl 1 a3))) 235 ((106 + a1).toNat)) - (s 237 ((a2).toNat))))) 235 ((106 + a2).toNat) (sy_w (((sg_up (sg_up (dc_R_minds s) 235 ((101 + a1).toNat) (sy_or ((dc_R_minds s) 235 ((101 + a1).toNat)) (sy_shl 1 a3))) 235 ((106 + a1).toNat) (sy_w (((sg_up (dc_R_minds s) 235 ((101 + a1).toNat) (sy_or ((dc_R_minds s) 235 ((101 + a1).toNat)) (sy_shl 1 a3))) 235 ((106 + a1).toNat)) - (s 237 ((a2).toNat))))) 235 ((106 + a2).toNat)) + (s 237 ((a2).toNat))))) 235 1) + (s 237 ((a2).toNat))))), (s 237 ((a2).toNat))) else (s, (-1000000003))))))
def dw_R_pay (a k : Nat) : Bool := dw_R_minds a k || (a == 235)
theorem dr_R_pay (s : sg_S) (a1 a2 a3 : Int) (a k : Nat) (h : dw_R_pay a k = false) : (dc_R_pay s a1 a2 a3).1 a k = s a k := by
  have h0 := h
  unfold dw_R_pay at h
  simp only [Bool.or_eq_false_iff] at h
  obtain ⟨h1, h2⟩ := h
  unfold dc_R_pay
  (repeat' split) <;> simp only [(fun s => dr_R_minds s a k h1), (fun s l z => sg_upa (s := s) (l := l) (z := z) (k := k) h2)]
set_option maxRecDepth 100000 in
theorem dt_R_pay {h : mj_H} (hH : sy_H h) {a1 a2 a3 : Int} (b_a1 : (-2147483648) ≤ a1) (t_a1 : a1 ≤ 2147483647) (b_a2 : (-2147483648) ≤ a2) (t_a2 : a2 ≤ 2147483647) (b_a3 : (-2147483648) ≤ a3) (t_a3 : a3 ≤ 2147483647) : sy_wp (mj_m_162, 0, [(0, .ref 234), (1, sy_i a1), (2, sy_i a2), (3, sy_i a3)], [], h) (dq2 (-2147483648) (2147483647) (dc_R_pay (sy_rd h) a1 a2 a3)) := by
  unfold dc_R_pay
  have n234_6 := hH.bd (a := 234) (k := 6) rfl (by decide) rfl
  have n234_7 := hH.bd (a := 234) (k := 7) rfl (by decide) rfl
  refine sy_st (S' := (mj_m_162, 1, [(0, .ref 234), (1, sy_i a1), (2, sy_i a2), (3, sy_i a3)], [.ref 234], h)) mj_d_162_0 (fun _ _ => rfl) ?_
  refine sy_st (S' := (mj_m_162, 2, [(0, .ref 234), (1, sy_i a1), (2, sy_i a2), (3, sy_i a3)], [sy_i a1, .ref 234], h)) mj_d_162_1 (fun _ _ => rfl) ?_
  refine sy_st (S' := (mj_m_162, 3, [(0, .ref 234), (1, sy_i a1), (2, sy_i a2), (3, sy_i a3)], [sy_i a2, sy_i a1, .ref 234], h)) mj_d_162_2 (fun _ _ => rfl) ?_
  refine sy_cv (M' := mj_m_159) (vs := [.ref 234, sy_i a1, sy_i a2]) (rest := []) mj_d_162_3 rfl rfl rfl rfl hH rfl rfl ⟨by decide, ⟨Nat.le_of_ble_eq_true rfl, Nat.le_of_ble_eq_true rfl, Nat.le_of_ble_eq_true rfl, Nat.le_of_ble_eq_true rfl, Nat.le_of_ble_eq_true rfl⟩⟩ (dt_R_areTwo (a1 := a1) (a2 := a2) hH (by omega) (by omega) (by omega) (by omega)) ?_
  rintro _ _ ⟨rfl, rfl, b1, b1t⟩
  have q2 := df_R_areTwo_0 (sy_rd h) a1 a2
  show sy_wp (mj_m_162, 6, [(0, .ref 234), (1, sy_i a1), (2, sy_i a2), (3, sy_i a3)], [sy_i (dc_R_areTwo (sy_rd h) a1 a2)], h) _
  refine sy_ifc mj_d_162_6 rfl ⟨by omega, by omega⟩ (fun (c3 : (dc_R_areTwo (sy_rd h) a1 a2) = 0) => ?_) (fun (c3 : ¬ ((dc_R_areTwo (sy_rd h) a1 a2) = 0)) => ?_)
  · skip
    rw [if_pos c3]
    refine sy_ldc (n := -1000000001) mj_d_162_17 rfl (by decide) ?_
    exact sy_reti mj_d_162_19 rfl ⟨hH, rfl, rfl, by omega, by omega⟩
  · skip
    rw [if_neg c3]
    refine sy_st (S' := (mj_m_162, 10, [(0, .ref 234), (1, sy_i a1), (2, sy_i a2), (3, sy_i a3)], [.ref 234], h)) mj_d_162_9 (fun _ _ => rfl) ?_
    refine sy_st (S' := (mj_m_162, 11, [(0, .ref 234), (1, sy_i a1), (2, sy_i a2), (3, sy_i a3)], [sy_i a3, .ref 234], h)) mj_d_162_10 (fun _ _ => rfl) ?_
    refine sy_cv (M' := mj_m_141) (vs := [.ref 234, sy_i a3]) (rest := []) mj_d_162_11 rfl rfl rfl rfl hH rfl rfl ⟨by decide, ⟨Nat.le_of_ble_eq_true rfl, Nat.le_of_ble_eq_true rfl, Nat.le_of_ble_eq_true rfl, Nat.le_of_ble_eq_true rfl, Nat.le_of_ble_eq_true rfl⟩⟩ (dt_R_isHouse (a1 := a3) hH (by omega) (by omega)) ?_
    rintro _ _ ⟨rfl, rfl, b4, b4t⟩
    have q5 := df_R_isHouse_0 (sy_rd h) a3
    show sy_wp (mj_m_162, 14, [(0, .ref 234), (1, sy_i a1), (2, sy_i a2), (3, sy_i a3)], [sy_i (dc_R_isHouse (sy_rd h) a3)], h) _
    refine sy_ifc mj_d_162_14 rfl ⟨by omega, by omega⟩ (fun (c6 : ¬ ((dc_R_isHouse (sy_rd h) a3) = 0)) => ?_) (fun (c6 : ¬ ¬ ((dc_R_isHouse (sy_rd h) a3) = 0)) => ?_)
    · skip
      rw [if_neg c6]
      refine sy_st (S' := (mj_m_162, 21, [(0, .ref 234), (1, sy_i a1), (2, sy_i a2), (3, sy_i a3)], [.ref 234], h)) mj_d_162_20 (fun _ _ => rfl) ?_
      refine sy_st (S' := (mj_m_162, 22, [(0, .ref 234), (1, sy_i a1), (2, sy_i a2), (3, sy_i a3)], [sy_i a2, .ref 234], h)) mj_d_162_21 (fun _ _ => rfl) ?_
      refine sy_st (S' := (mj_m_162, 23, [(0, .ref 234), (1, sy_i a1), (2, sy_i a2), (3, sy_i a3)], [sy_i a3, sy_i a2, .ref 234], h)) mj_d_162_22 (fun _ _ => rfl) ?_
      refine sy_cv (M' := mj_m_160) (vs := [.ref 234, sy_i a2, sy_i a3]) (rest := []) mj_d_162_23 rfl rfl rfl rfl hH rfl rfl ⟨by decide, ⟨Nat.le_of_ble_eq_true rfl, Nat.le_of_ble_eq_true rfl, Nat.le_of_ble_eq_true rfl, Nat.le_of_ble_eq_true rfl, Nat.le_of_ble_eq_true rfl⟩⟩ (dt_R_isKnown (a1 := a2) (a2 := a3) hH (by omega) (by omega) (by omega) (by omega)) ?_
      rintro _ _ ⟨rfl, rfl, b7, b7t⟩
      show sy_wp (mj_m_162, 26, [(0, .ref 234), (1, sy_i a1), (2, sy_i a2), (3, sy_i a3)], [sy_i (dc_R_isKnown (sy_rd h) a2 a3)], h) _
      refine sy_ifc mj_d_162_26 rfl ⟨by omega, by omega⟩ (fun (c8 : (dc_R_isKnown (sy_rd h) a2 a3) = 0) => ?_) (fun (c8 : ¬ ((dc_R_isKnown (sy_rd h) a2 a3) = 0)) => ?_)
      · skip
        rw [if_pos c8]
        refine sy_ldc (n := -1000000003) mj_d_162_38 rfl (by decide) ?_
        exact sy_reti mj_d_162_40 rfl ⟨hH, rfl, rfl, by omega, by omega⟩
      · skip
        rw [if_neg c8]
        refine sy_st (S' := (mj_m_162, 30, [(0, .ref 234), (1, sy_i a1), (2, sy_i a2), (3, sy_i a3)], [.ref 234], h)) mj_d_162_29 (fun _ _ => rfl) ?_
        refine sy_st (S' := (mj_m_162, 31, [(0, .ref 234), (1, sy_i a1), (2, sy_i a2), (3, sy_i a3)], [sy_i a1, .ref 234], h)) mj_d_162_30 (fun _ _ => rfl) ?_
        refine sy_st (S' := (mj_m_162, 32, [(0, .ref 234), (1, sy_i a1), (2, sy_i a2), (3, sy_i a3)], [sy_i a3, sy_i a1, .ref 234], h)) mj_d_162_31 (fun _ _ => rfl) ?_
        refine sy_cv (M' := mj_m_160) (vs := [.ref 234, sy_i a1, sy_i a3]) (rest := []) mj_d_162_32 rfl rfl rfl rfl hH rfl rfl ⟨by decide, ⟨Nat.le_of_ble_eq_true rfl, Nat.le_of_ble_eq_true rfl, Nat.le_of_ble_eq_true rfl, Nat.le_of_ble_eq_true rfl, Nat.le_of_ble_eq_true rfl⟩⟩ (dt_R_isKnown (a1 := a1) (a2 := a3) hH (by omega) (by omega) (by omega) (by omega)) ?_
        rintro _ _ ⟨rfl, rfl, b9, b9t⟩
        show sy_wp (mj_m_162, 35, [(0, .ref 234), (1, sy_i a1), (2, sy_i a2), (3, sy_i a3)], [sy_i (dc_R_isKnown (sy_rd h) a1 a3)], h) _
        refine sy_ifc mj_d_162_35 rfl ⟨by omega, by omega⟩ (fun (c10 : (dc_R_isKnown (sy_rd h) a1 a3) = 0) => ?_) (fun (c10 : ¬ ((dc_R_isKnown (sy_rd h) a1 a3) = 0)) => ?_)
        · skip
          rw [if_pos c10]
          refine sy_st (S' := (mj_m_162, 42, [(0, .ref 234), (1, sy_i a1), (2, sy_i a2), (3, sy_i a3)], [.ref 234], h)) mj_d_162_41 (fun _ _ => rfl) ?_
          refine sy_cv (M' := mj_m_148) (vs := [.ref 234]) (rest := []) mj_d_162_42 rfl rfl rfl rfl hH rfl rfl ⟨by decide, ⟨Nat.le_of_ble_eq_true rfl, Nat.le_of_ble_eq_true rfl, Nat.le_of_ble_eq_true rfl, Nat.le_of_ble_eq_true rfl, Nat.le_of_ble_eq_true rfl⟩⟩ (dt_R_minds hH) ?_
          rintro _ h11 ⟨rfl, th11, eh11⟩
          show sy_wp (mj_m_162, 45, [(0, .ref 234), (1, sy_i a1), (2, sy_i a2), (3, sy_i a3)], [], h11) _
          refine sy_st (S' := (mj_m_162, 46, [(0, .ref 234), (1, sy_i a1), (2, sy_i a2), (3, sy_i a3)], [.ref 234], h11)) mj_d_162_45 (fun _ _ => rfl) ?_
          refine sy_gr2 (b := 235) mj_d_162_46 rfl rfl (by decide) rfl rfl th11 ?_
          refine sy_bip mj_d_162_49 (by decide) ?_
          refine sy_st (S' := (mj_m_162, 52, [(0, .ref 234), (1, sy_i a1), (2, sy_i a2), (3, sy_i a3)], [sy_i a1, sy_i 101, .ref 235], h11)) mj_d_162_51 (fun _ _ => rfl) ?_
          refine sy_add mj_d_162_52 ?_
          refine sy_st (S' := (mj_m_162, 54, [(0, .ref 234), (1, sy_i a1), (2, sy_i a2), (3, sy_i a3)], [sy_i (101 + a1), .ref 235, sy_i (101 + a1), .ref 235], h11)) mj_d_162_53 (fun _ _ => rfl) ?_
          refine sg_iaN (lo := 0) (hi := 511) 101 106 (by decide) mj_d_162_54 (by omega) (by omega) (by omega) (by omega) th11 ?_
          intro x13 ex13 bx13 tx13
          rw [eh11] at ex13
          subst ex13
          refine sy_st (S' := (mj_m_162, 56, [(0, .ref 234), (1, sy_i a1), (2, sy_i a2), (3, sy_i a3)], [sy_i 1, sy_i ((dc_R_minds (sy_rd h)) 235 ((101 + a1).toNat)), sy_i (101 + a1), .ref 235], h11)) mj_d_162_55 (fun _ _ => rfl) ?_
          refine sy_st (S' := (mj_m_162, 57, [(0, .ref 234), (1, sy_i a1), (2, sy_i a2), (3, sy_i a3)], [sy_i a3, sy_i 1, sy_i ((dc_R_minds (sy_rd h)) 235 ((101 + a1).toNat)), sy_i (101 + a1), .ref 235], h11)) mj_d_162_56 (fun _ _ => rfl) ?_
          refine sy_ishl mj_d_162_57 ?_
          have q14 := sg_shl9 a3 (by omega) (by omega)
          refine sy_ior mj_d_162_58 ?_
          have q15 := sg_or9 ((dc_R_minds (sy_rd h)) 235 ((101 + a1).toNat)) (sy_shl 1 a3) (by omega) (by omega) (by omega) (by omega)
          refine sg_iasN (v := (sy_or ((dc_R_minds (sy_rd h)) 235 ((101 + a1).toNat)) (sy_shl 1 a3))) (lo := 0) (hi := 511) 101 106 (by decide) mj_d_162_59 (by omega) (by omega) (by omega) (by omega) (by omega) (by omega) th11 ?_
          intro h16 th16 eh16
          rw [eh11] at eh16
          refine sy_st (S' := (mj_m_162, 61, [(0, .ref 234), (1, sy_i a1), (2, sy_i a2), (3, sy_i a3)], [.ref 234], h16)) mj_d_162_60 (fun _ _ => rfl) ?_
          refine sy_gr2 (b := 235) mj_d_162_61 rfl rfl (by decide) rfl rfl th16 ?_
          refine sy_bip mj_d_162_64 (by decide) ?_
          refine sy_st (S' := (mj_m_162, 67, [(0, .ref 234), (1, sy_i a1), (2, sy_i a2), (3, sy_i a3)], [sy_i a1, sy_i 106, .ref 235], h16)) mj_d_162_66 (fun _ _ => rfl) ?_
          refine sy_add mj_d_162_67 ?_
          refine sy_st (S' := (mj_m_162, 69, [(0, .ref 234), (1, sy_i a1), (2, sy_i a2), (3, sy_i a3)], [sy_i (106 + a1), .ref 235, sy_i (106 + a1), .ref 235], h16)) mj_d_162_68 (fun _ _ => rfl) ?_
          refine sg_iaT mj_d_162_69 (by omega) (by omega) th16 ?_
          intro x17 ex17 bx17 tx17
          rw [eh16] at ex17
          subst ex17
          refine sy_st (S' := (mj_m_162, 71, [(0, .ref 234), (1, sy_i a1), (2, sy_i a2), (3, sy_i a3)], [.ref 234, sy_i ((sg_up (dc_R_minds (sy_rd h)) 235 ((101 + a1).toNat) (sy_or ((dc_R_minds (sy_rd h)) 235 ((101 + a1).toNat)) (sy_shl 1 a3))) 235 ((106 + a1).toNat)), sy_i (106 + a1), .ref 235], h16)) mj_d_162_70 (fun _ _ => rfl) ?_
          refine sy_gr2 (b := 237) mj_d_162_71 rfl rfl (by decide) rfl rfl th16 ?_
          refine sy_st (S' := (mj_m_162, 75, [(0, .ref 234), (1, sy_i a1), (2, sy_i a2), (3, sy_i a3)], [sy_i a2, .ref 237, sy_i ((sg_up (dc_R_minds (sy_rd h)) 235 ((101 + a1).toNat) (sy_or ((dc_R_minds (sy_rd h)) 235 ((101 + a1).toNat)) (sy_shl 1 a3))) 235 ((106 + a1).toNat)), sy_i (106 + a1), .ref 235], h16)) mj_d_162_74 (fun _ _ => rfl) ?_
          refine sy_ia mj_d_162_75 rfl (by decide) (by omega) (by omega) (ab_el_1 rfl _) th16 ?_
          intro x18 ex18 bx18 tx18
          rw [eh16, sg_na (by decide), dr_R_minds _ 237 ((a2).toNat) rfl] at ex18
          subst ex18
          refine sy_sub mj_d_162_76 ?_
          refine sg_iasV (v := (((sg_up (dc_R_minds (sy_rd h)) 235 ((101 + a1).toNat) (sy_or ((dc_R_minds (sy_rd h)) 235 ((101 + a1).toNat)) (sy_shl 1 a3))) 235 ((106 + a1).toNat)) - (sy_rd h 237 ((a2).toNat)))) mj_d_162_77 (by omega) (by omega) (by omega) th16 ?_
          intro h19 th19 eh19
          rw [eh16] at eh19
          refine sy_st (S' := (mj_m_162, 79, [(0, .ref 234), (1, sy_i a1), (2, sy_i a2), (3, sy_i a3)], [.ref 234], h19)) mj_d_162_78 (fun _ _ => rfl) ?_
          refine sy_gr2 (b := 235) mj_d_162_79 rfl rfl (by decide) rfl rfl th19 ?_
          refine sy_bip mj_d_162_82 (by decide) ?_
          refine sy_st (S' := (mj_m_162, 85, [(0, .ref 234), (1, sy_i a1), (2, sy_i a2), (3, sy_i a3)], [sy_i a2, sy_i 106, .ref 235], h19)) mj_d_162_84 (fun _ _ => rfl) ?_
          refine sy_add mj_d_162_85 ?_
          refine sy_st (S' := (mj_m_162, 87, [(0, .ref 234), (1, sy_i a1), (2, sy_i a2), (3, sy_i a3)], [sy_i (106 + a2), .ref 235, sy_i (106 + a2), .ref 235], h19)) mj_d_162_86 (fun _ _ => rfl) ?_
          refine sg_iaT mj_d_162_87 (by omega) (by omega) th19 ?_
          intro x20 ex20 bx20 tx20
          rw [eh19] at ex20
          subst ex20
          refine sy_st (S' := (mj_m_162, 89, [(0, .ref 234), (1, sy_i a1), (2, sy_i a2), (3, sy_i a3)], [.ref 234, sy_i ((sg_up (sg_up (dc_R_minds (sy_rd h)) 235 ((101 + a1).toNat) (sy_or ((dc_R_minds (sy_rd h)) 235 ((101 + a1).toNat)) (sy_shl 1 a3))) 235 ((106 + a1).toNat) (sy_w (((sg_up (dc_R_minds (sy_rd h)) 235 ((101 + a1).toNat) (sy_or ((dc_R_minds (sy_rd h)) 235 ((101 + a1).toNat)) (sy_shl 1 a3))) 235 ((106 + a1).toNat)) - (sy_rd h 237 ((a2).toNat))))) 235 ((106 + a2).toNat)), sy_i (106 + a2), .ref 235], h19)) mj_d_162_88 (fun _ _ => rfl) ?_
          refine sy_gr2 (b := 237) mj_d_162_89 rfl rfl (by decide) rfl rfl th19 ?_
          refine sy_st (S' := (mj_m_162, 93, [(0, .ref 234), (1, sy_i a1), (2, sy_i a2), (3, sy_i a3)], [sy_i a2, .ref 237, sy_i ((sg_up (sg_up (dc_R_minds (sy_rd h)) 235 ((101 + a1).toNat) (sy_or ((dc_R_minds (sy_rd h)) 235 ((101 + a1).toNat)) (sy_shl 1 a3))) 235 ((106 + a1).toNat) (sy_w (((sg_up (dc_R_minds (sy_rd h)) 235 ((101 + a1).toNat) (sy_or ((dc_R_minds (sy_rd h)) 235 ((101 + a1).toNat)) (sy_shl 1 a3))) 235 ((106 + a1).toNat)) - (sy_rd h 237 ((a2).toNat))))) 235 ((106 + a2).toNat)), sy_i (106 + a2), .ref 235], h19)) mj_d_162_92 (fun _ _ => rfl) ?_
          refine sy_ia mj_d_162_93 rfl (by decide) (by omega) (by omega) (ab_el_1 rfl _) th19 ?_
          intro x21 ex21 bx21 tx21
          rw [eh19, sg_na (by decide), sg_na (by decide), dr_R_minds _ 237 ((a2).toNat) rfl] at ex21
          subst ex21
          refine sy_add mj_d_162_94 ?_
          refine sg_iasV (v := (((sg_up (sg_up (dc_R_minds (sy_rd h)) 235 ((101 + a1).toNat) (sy_or ((dc_R_minds (sy_rd h)) 235 ((101 + a1).toNat)) (sy_shl 1 a3))) 235 ((106 + a1).toNat) (sy_w (((sg_up (dc_R_minds (sy_rd h)) 235 ((101 + a1).toNat) (sy_or ((dc_R_minds (sy_rd h)) 235 ((101 + a1).toNat)) (sy_shl 1 a3))) 235 ((106 + a1).toNat)) - (sy_rd h 237 ((a2).toNat))))) 235 ((106 + a2).toNat)) + (sy_rd h 237 ((a2).toNat)))) mj_d_162_95 (by omega) (by omega) (by omega) th19 ?_
          intro h22 th22 eh22
          rw [eh19] at eh22
          refine sy_st (S' := (mj_m_162, 97, [(0, .ref 234), (1, sy_i a1), (2, sy_i a2), (3, sy_i a3)], [.ref 234], h22)) mj_d_162_96 (fun _ _ => rfl) ?_
          refine sy_gr2 (b := 235) mj_d_162_97 rfl rfl (by decide) rfl rfl th22 ?_
          refine sy_st (S' := (mj_m_162, 101, [(0, .ref 234), (1, sy_i a1), (2, sy_i a2), (3, sy_i a3)], [sy_i 1, .ref 235], h22)) mj_d_162_100 (fun _ _ => rfl) ?_
          refine sy_st (S' := (mj_m_162, 102, [(0, .ref 234), (1, sy_i a1), (2, sy_i a2), (3, sy_i a3)], [sy_i 1, .ref 235, sy_i 1, .ref 235], h22)) mj_d_162_101 (fun _ _ => rfl) ?_
          refine sg_iaT mj_d_162_102 (by omega) (by omega) th22 ?_
          intro x23 ex23 bx23 tx23
          replace ex23 : x23 = sy_rd h22 235 1 := ex23
          rw [eh22] at ex23
          subst ex23
          refine sy_st (S' := (mj_m_162, 104, [(0, .ref 234), (1, sy_i a1), (2, sy_i a2), (3, sy_i a3)], [.ref 234, sy_i ((sg_up (sg_up (sg_up (dc_R_minds (sy_rd h)) 235 ((101 + a1).toNat) (sy_or ((dc_R_minds (sy_rd h)) 235 ((101 + a1).toNat)) (sy_shl 1 a3))) 235 ((106 + a1).toNat) (sy_w (((sg_up (dc_R_minds (sy_rd h)) 235 ((101 + a1).toNat) (sy_or ((dc_R_minds (sy_rd h)) 235 ((101 + a1).toNat)) (sy_shl 1 a3))) 235 ((106 + a1).toNat)) - (sy_rd h 237 ((a2).toNat))))) 235 ((106 + a2).toNat) (sy_w (((sg_up (sg_up (dc_R_minds (sy_rd h)) 235 ((101 + a1).toNat) (sy_or ((dc_R_minds (sy_rd h)) 235 ((101 + a1).toNat)) (sy_shl 1 a3))) 235 ((106 + a1).toNat) (sy_w (((sg_up (dc_R_minds (sy_rd h)) 235 ((101 + a1).toNat) (sy_or ((dc_R_minds (sy_rd h)) 235 ((101 + a1).toNat)) (sy_shl 1 a3))) 235 ((106 + a1).toNat)) - (sy_rd h 237 ((a2).toNat))))) 235 ((106 + a2).toNat)) + (sy_rd h 237 ((a2).toNat))))) 235 1), sy_i 1, .ref 235], h22)) mj_d_162_103 (fun _ _ => rfl) ?_
          refine sy_gr2 (b := 237) mj_d_162_104 rfl rfl (by decide) rfl rfl th22 ?_
          refine sy_st (S' := (mj_m_162, 108, [(0, .ref 234), (1, sy_i a1), (2, sy_i a2), (3, sy_i a3)], [sy_i a2, .ref 237, sy_i ((sg_up (sg_up (sg_up (dc_R_minds (sy_rd h)) 235 ((101 + a1).toNat) (sy_or ((dc_R_minds (sy_rd h)) 235 ((101 + a1).toNat)) (sy_shl 1 a3))) 235 ((106 + a1).toNat) (sy_w (((sg_up (dc_R_minds (sy_rd h)) 235 ((101 + a1).toNat) (sy_or ((dc_R_minds (sy_rd h)) 235 ((101 + a1).toNat)) (sy_shl 1 a3))) 235 ((106 + a1).toNat)) - (sy_rd h 237 ((a2).toNat))))) 235 ((106 + a2).toNat) (sy_w (((sg_up (sg_up (dc_R_minds (sy_rd h)) 235 ((101 + a1).toNat) (sy_or ((dc_R_minds (sy_rd h)) 235 ((101 + a1).toNat)) (sy_shl 1 a3))) 235 ((106 + a1).toNat) (sy_w (((sg_up (dc_R_minds (sy_rd h)) 235 ((101 + a1).toNat) (sy_or ((dc_R_minds (sy_rd h)) 235 ((101 + a1).toNat)) (sy_shl 1 a3))) 235 ((106 + a1).toNat)) - (sy_rd h 237 ((a2).toNat))))) 235 ((106 + a2).toNat)) + (sy_rd h 237 ((a2).toNat))))) 235 1), sy_i 1, .ref 235], h22)) mj_d_162_107 (fun _ _ => rfl) ?_
          refine sy_ia mj_d_162_108 rfl (by decide) (by omega) (by omega) (ab_el_1 rfl _) th22 ?_
          intro x24 ex24 bx24 tx24
          rw [eh22, sg_na (by decide), sg_na (by decide), sg_na (by decide), dr_R_minds _ 237 ((a2).toNat) rfl] at ex24
          subst ex24
          refine sy_add mj_d_162_109 ?_
          refine sg_iasV (v := (((sg_up (sg_up (sg_up (dc_R_minds (sy_rd h)) 235 ((101 + a1).toNat) (sy_or ((dc_R_minds (sy_rd h)) 235 ((101 + a1).toNat)) (sy_shl 1 a3))) 235 ((106 + a1).toNat) (sy_w (((sg_up (dc_R_minds (sy_rd h)) 235 ((101 + a1).toNat) (sy_or ((dc_R_minds (sy_rd h)) 235 ((101 + a1).toNat)) (sy_shl 1 a3))) 235 ((106 + a1).toNat)) - (sy_rd h 237 ((a2).toNat))))) 235 ((106 + a2).toNat) (sy_w (((sg_up (sg_up (dc_R_minds (sy_rd h)) 235 ((101 + a1).toNat) (sy_or ((dc_R_minds (sy_rd h)) 235 ((101 + a1).toNat)) (sy_shl 1 a3))) 235 ((106 + a1).toNat) (sy_w (((sg_up (dc_R_minds (sy_rd h)) 235 ((101 + a1).toNat) (sy_or ((dc_R_minds (sy_rd h)) 235 ((101 + a1).toNat)) (sy_shl 1 a3))) 235 ((106 + a1).toNat)) - (sy_rd h 237 ((a2).toNat))))) 235 ((106 + a2).toNat)) + (sy_rd h 237 ((a2).toNat))))) 235 1) + (sy_rd h 237 ((a2).toNat)))) mj_d_162_110 (by omega) (by omega) (by omega) th22 ?_
          intro h25 th25 eh25
          replace eh25 : sy_rd h25 = sg_up (sy_rd h22) 235 1 (sy_w (((sg_up (sg_up (sg_up (dc_R_minds (sy_rd h)) 235 ((101 + a1).toNat) (sy_or ((dc_R_minds (sy_rd h)) 235 ((101 + a1).toNat)) (sy_shl 1 a3))) 235 ((106 + a1).toNat) (sy_w (((sg_up (dc_R_minds (sy_rd h)) 235 ((101 + a1).toNat) (sy_or ((dc_R_minds (sy_rd h)) 235 ((101 + a1).toNat)) (sy_shl 1 a3))) 235 ((106 + a1).toNat)) - (sy_rd h 237 ((a2).toNat))))) 235 ((106 + a2).toNat) (sy_w (((sg_up (sg_up (dc_R_minds (sy_rd h)) 235 ((101 + a1).toNat) (sy_or ((dc_R_minds (sy_rd h)) 235 ((101 + a1).toNat)) (sy_shl 1 a3))) 235 ((106 + a1).toNat) (sy_w (((sg_up (dc_R_minds (sy_rd h)) 235 ((101 + a1).toNat) (sy_or ((dc_R_minds (sy_rd h)) 235 ((101 + a1).toNat)) (sy_shl 1 a3))) 235 ((106 + a1).toNat)) - (sy_rd h 237 ((a2).toNat))))) 235 ((106 + a2).toNat)) + (sy_rd h 237 ((a2).toNat))))) 235 1) + (sy_rd h 237 ((a2).toNat)))) := eh25
          rw [eh22] at eh25
          refine sy_st (S' := (mj_m_162, 112, [(0, .ref 234), (1, sy_i a1), (2, sy_i a2), (3, sy_i a3)], [.ref 234], h25)) mj_d_162_111 (fun _ _ => rfl) ?_
          refine sy_gr2 (b := 237) mj_d_162_112 rfl rfl (by decide) rfl rfl th25 ?_
          refine sy_st (S' := (mj_m_162, 116, [(0, .ref 234), (1, sy_i a1), (2, sy_i a2), (3, sy_i a3)], [sy_i a2, .ref 237], h25)) mj_d_162_115 (fun _ _ => rfl) ?_
          refine sy_ia mj_d_162_116 rfl (by decide) (by omega) (by omega) (ab_el_1 rfl _) th25 ?_
          intro x26 ex26 bx26 tx26
          rw [eh25, sg_na (by decide), sg_na (by decide), sg_na (by decide), sg_na (by decide), dr_R_minds _ 237 ((a2).toNat) rfl] at ex26
          subst ex26
          exact sy_reti mj_d_162_117 rfl ⟨th25, eh25, rfl, by omega, by omega⟩
        · skip
          rw [if_neg c10]
          refine sy_ldc (n := -1000000003) mj_d_162_38 rfl (by decide) ?_
          exact sy_reti mj_d_162_40 rfl ⟨hH, rfl, rfl, by omega, by omega⟩
    · skip
      rw [if_pos (Decidable.not_not.mp c6)]
      replace c6 := Decidable.not_not.mp c6
      refine sy_ldc (n := -1000000001) mj_d_162_17 rfl (by decide) ?_
      exact sy_reti mj_d_162_19 rfl ⟨hH, rfl, rfl, by omega, by omega⟩
def dc_R_draw (s : sg_S) (a1 : Int) : sg_S × Int := ((sg_up s 235 111 ((((s 235 111) * 1103515245) + 12345) % 2147483648)), ((((((s 235 111) * 1103515245) + 12345) % 2147483648) / 65536) % a1))
def dw_R_draw (a k : Nat) : Bool := (a == 235)
theorem dr_R_draw (s : sg_S) (a1 : Int) (a k : Nat) (h : dw_R_draw a k = false) : (dc_R_draw s a1).1 a k = s a k := by
  have h0 := h
  unfold dw_R_draw at h
  have h1 := h
  unfold dc_R_draw
  (repeat' split) <;> simp only [(fun s l z => sg_upa (s := s) (l := l) (z := z) (k := k) h1)]
set_option maxRecDepth 100000 in
theorem dt_R_draw {h : mj_H} (hH : sy_H h) {a1 : Int} (b_a1 : 1 ≤ a1) (t_a1 : a1 ≤ 9) : sy_wp (mj_m_164, 0, [(0, .ref 234), (1, sy_i a1)], [], h) (dq2 (0) (a1 - 1) (dc_R_draw (sy_rd h) a1)) := by
  unfold dc_R_draw
  refine sy_st (S' := (mj_m_164, 1, [(0, .ref 234), (1, sy_i a1)], [.ref 234], h)) mj_d_164_0 (fun _ _ => rfl) ?_
  refine sy_gr2 (b := 235) mj_d_164_1 rfl rfl (by decide) rfl rfl hH ?_
  refine sy_bip mj_d_164_4 (by decide) ?_
  refine sy_st (S' := (mj_m_164, 7, [(0, .ref 234), (1, sy_i a1)], [.ref 234, sy_i 111, .ref 235], h)) mj_d_164_6 (fun _ _ => rfl) ?_
  refine sy_gr2 (b := 235) mj_d_164_7 rfl rfl (by decide) rfl rfl hH ?_
  refine sy_bip mj_d_164_10 (by decide) ?_
  refine sg_iaN (lo := 0) (hi := 2147483647) 111 112 (by decide) mj_d_164_12 (by omega) (by omega) (by omega) (by omega) hH ?_
  intro x1 ex1 bx1 tx1
  replace ex1 : x1 = sy_rd h 235 111 := ex1
  subst ex1
  refine sy_i2l mj_d_164_13 ⟨by omega, by omega⟩ ?_
  refine sy_ldc2 (n := 1103515245) mj_d_164_14 rfl (by decide) ?_
  refine sy_lmul mj_d_164_17 ?_
  refine sy_ldc2 (n := 12345) mj_d_164_18 rfl (by decide) ?_
  refine sy_ladd mj_d_164_21 ?_
  refine sy_ldc2 (n := 2147483648) mj_d_164_22 rfl (by decide) ?_
  refine sy_lrem mj_d_164_25 ⟨by omega, by omega⟩ ⟨by omega, by omega⟩ ?_
  refine sy_l2i mj_d_164_26 ⟨by omega, by omega⟩ ?_
  refine sg_iasN (v := ((((sy_rd h 235 111) * 1103515245) + 12345) % 2147483648)) (lo := 0) (hi := 2147483647) 111 112 (by decide) mj_d_164_27 (by omega) (by omega) (by omega) (by omega) (by omega) (by omega) hH ?_
  intro h2 th2 eh2
  replace eh2 : sy_rd h2 = sg_up (sy_rd h) 235 111 ((((sy_rd h 235 111) * 1103515245) + 12345) % 2147483648) := eh2
  refine sy_st (S' := (mj_m_164, 29, [(0, .ref 234), (1, sy_i a1)], [.ref 234], h2)) mj_d_164_28 (fun _ _ => rfl) ?_
  refine sy_gr2 (b := 235) mj_d_164_29 rfl rfl (by decide) rfl rfl th2 ?_
  refine sy_bip mj_d_164_32 (by decide) ?_
  refine sg_iaN (lo := 0) (hi := 2147483647) 111 112 (by decide) mj_d_164_34 (by omega) (by omega) (by omega) (by omega) th2 ?_
  intro x3 ex3 bx3 tx3
  replace ex3 : x3 = sy_rd h2 235 111 := ex3
  rw [eh2, sg_eq] at ex3
  subst ex3
  refine sy_ldc (n := 65536) mj_d_164_35 rfl (by decide) ?_
  refine sy_div mj_d_164_37 ⟨by omega, by omega⟩ ⟨by omega, by omega⟩ ?_
  refine sy_st (S' := (mj_m_164, 39, [(0, .ref 234), (1, sy_i a1)], [sy_i a1, sy_i (((((sy_rd h 235 111) * 1103515245) + 12345) % 2147483648) / 65536)], h2)) mj_d_164_38 (fun _ _ => rfl) ?_
  refine sy_rem mj_d_164_39 ⟨by omega, by omega⟩ ⟨by omega, by omega⟩ ?_
  have q4 := sg_rem_f (((((sy_rd h 235 111) * 1103515245) + 12345) % 2147483648) / 65536) a1
  exact sy_reti mj_d_164_40 rfl ⟨th2, eh2, rfl, by omega, by omega⟩
def dc_R_undo (s : sg_S) (a1 : Int) : sg_S × Int := (if (dc_R_in s a1 1 30) = 0 then (s, (-1000000002)) else (if a1 ≤ (s 234 2) then ((sg_up (dc_R_copy (sg_up s 234 2 ((s 234 2) - a1)) (448 + (112 * ((s 234 2) - a1))) 0) 235 111 (s 235 111)), ((dc_R_copy (sg_up s 234 2 ((s 234 2) - a1)) (448 + (112 * ((s 234 2) - a1))) 0) 235 0)) else (s, (-1000000003))))
def dw_R_undo (a k : Nat) : Bool := (a == 234 && k == 2) || dw_R_copy a k || (a == 235)
theorem dr_R_undo (s : sg_S) (a1 : Int) (a k : Nat) (h : dw_R_undo a k = false) : (dc_R_undo s a1).1 a k = s a k := by
  have h0 := h
  unfold dw_R_undo at h
  simp only [Bool.or_eq_false_iff] at h
  obtain ⟨⟨h1, h2⟩, h3⟩ := h
  unfold dc_R_undo
  (repeat' split) <;> simp only [(fun s z => sg_upf (s := s) (z := z) h1), (fun s x0 x1 => dr_R_copy s x0 x1 a k h2), (fun s l z => sg_upa (s := s) (l := l) (z := z) (k := k) h3)]
set_option maxRecDepth 100000 in
theorem dt_R_undo {h : mj_H} (hH : sy_H h) {a1 : Int} (b_a1 : (-2147483648) ≤ a1) (t_a1 : a1 ≤ 2147483647) : sy_wp (mj_m_165, 0, [(0, .ref 234), (1, sy_i a1)], [], h) (dq2 (-2147483648) (2147483647) (dc_R_undo (sy_rd h) a1)) := by
  unfold dc_R_undo
  refine sy_st (S' := (mj_m_165, 1, [(0, .ref 234), (1, sy_i a1)], [sy_i a1], h)) mj_d_165_0 (fun _ _ => rfl) ?_
  refine sy_i2l mj_d_165_1 ⟨by omega, by omega⟩ ?_
  refine sy_st (S' := (mj_m_165, 3, [(0, .ref 234), (1, sy_i a1)], [sy_l 1, sy_l a1], h)) mj_d_165_2 (fun _ _ => rfl) ?_
  refine sy_ldc2 (n := 30) mj_d_165_3 rfl (by decide) ?_
  refine sy_cs (M' := mj_m_126) (vs := [sy_l a1, sy_l 1, sy_l 30]) (rest := []) mj_d_165_6 rfl rfl rfl rfl ⟨Nat.le_of_ble_eq_true rfl, Nat.le_of_ble_eq_true rfl, Nat.le_of_ble_eq_true rfl, Nat.le_of_ble_eq_true rfl, Nat.le_of_ble_eq_true rfl⟩ (dt_R_in (a0 := a1) (a1 := 1) (a2 := 30) hH (by omega) (by omega) (by omega) (by omega) (by omega) (by omega)) ?_
  rintro _ _ ⟨rfl, rfl, b1, b1t⟩
  have q2 := df_R_in_0 (sy_rd h) a1 1 30
  show sy_wp (mj_m_165, 9, [(0, .ref 234), (1, sy_i a1)], [sy_i (dc_R_in (sy_rd h) a1 1 30)], h) _
  refine sy_ifc mj_d_165_9 rfl ⟨by omega, by omega⟩ (fun (c3 : ¬ ((dc_R_in (sy_rd h) a1 1 30) = 0)) => ?_) (fun (c3 : ¬ ¬ ((dc_R_in (sy_rd h) a1 1 30) = 0)) => ?_)
  · skip
    rw [if_neg c3]
    refine sy_st (S' := (mj_m_165, 16, [(0, .ref 234), (1, sy_i a1)], [sy_i a1], h)) mj_d_165_15 (fun _ _ => rfl) ?_
    refine sy_st (S' := (mj_m_165, 17, [(0, .ref 234), (1, sy_i a1)], [.ref 234, sy_i a1], h)) mj_d_165_16 (fun _ _ => rfl) ?_
    refine sy_gf mj_d_165_17 rfl rfl (by decide) rfl hH ?_
    intro x4 ex4 bx4 tx4
    replace ex4 : x4 = sy_rd h 234 2 := ex4
    subst ex4
    refine sy_icm mj_d_165_20 rfl ⟨by omega, by omega⟩ ⟨by omega, by omega⟩ (fun (c5 : a1 ≤ (sy_rd h 234 2)) => ?_) (fun (c5 : ¬ (a1 ≤ (sy_rd h 234 2))) => ?_)
    · skip
      rw [if_pos c5]
      refine sy_st (S' := (mj_m_165, 27, [(0, .ref 234), (1, sy_i a1)], [.ref 234], h)) mj_d_165_26 (fun _ _ => rfl) ?_
      refine sy_gr2 (b := 235) mj_d_165_27 rfl rfl (by decide) rfl rfl hH ?_
      refine sy_bip mj_d_165_30 (by decide) ?_
      refine sg_iaN (lo := 0) (hi := 2147483647) 111 112 (by decide) mj_d_165_32 (by omega) (by omega) (by omega) (by omega) hH ?_
      intro x6 ex6 bx6 tx6
      replace ex6 : x6 = sy_rd h 235 111 := ex6
      subst ex6
      refine sy_st (S' := (mj_m_165, 34, [(2, sy_i (sy_rd h 235 111)), (0, .ref 234), (1, sy_i a1)], [], h)) mj_d_165_33 (fun _ _ => rfl) ?_
      refine sy_st (S' := (mj_m_165, 35, [(2, sy_i (sy_rd h 235 111)), (0, .ref 234), (1, sy_i a1)], [.ref 234], h)) mj_d_165_34 (fun _ _ => rfl) ?_
      refine sy_st (S' := (mj_m_165, 36, [(2, sy_i (sy_rd h 235 111)), (0, .ref 234), (1, sy_i a1)], [.ref 234, .ref 234], h)) mj_d_165_35 (fun _ _ => rfl) ?_
      refine sy_gf mj_d_165_36 rfl rfl (by decide) rfl hH ?_
      intro x7 ex7 bx7 tx7
      replace ex7 : x7 = sy_rd h 234 2 := ex7
      subst ex7
      refine sy_st (S' := (mj_m_165, 40, [(2, sy_i (sy_rd h 235 111)), (0, .ref 234), (1, sy_i a1)], [sy_i a1, sy_i (sy_rd h 234 2), .ref 234], h)) mj_d_165_39 (fun _ _ => rfl) ?_
      refine sy_sub mj_d_165_40 ?_
      refine sg_pf (z := ((sy_rd h 234 2) - a1)) mj_d_165_41 rfl rfl (by decide) (Or.inl rfl) rfl hH (by omega) (by omega) ⟨by omega, by omega⟩ ?_
      intro h8 th8 eh8
      refine sy_st (S' := (mj_m_165, 45, [(2, sy_i (sy_rd h 235 111)), (0, .ref 234), (1, sy_i a1)], [.ref 234], h8)) mj_d_165_44 (fun _ _ => rfl) ?_
      refine sy_sip mj_d_165_45 (by decide) ?_
      refine sy_bip mj_d_165_48 (by decide) ?_
      refine sy_st (S' := (mj_m_165, 51, [(2, sy_i (sy_rd h 235 111)), (0, .ref 234), (1, sy_i a1)], [.ref 234, sy_i 112, sy_i 448, .ref 234], h8)) mj_d_165_50 (fun _ _ => rfl) ?_
      refine sy_gf mj_d_165_51 rfl rfl (by decide) rfl th8 ?_
      intro x9 ex9 bx9 tx9
      replace ex9 : x9 = sy_rd h8 234 2 := ex9
      rw [eh8, sg_eq] at ex9
      subst ex9
      refine sy_mul mj_d_165_54 ?_
      refine sy_add mj_d_165_55 ?_
      refine sy_st (S' := (mj_m_165, 57, [(2, sy_i (sy_rd h 235 111)), (0, .ref 234), (1, sy_i a1)], [sy_i 0, sy_i (448 + (112 * ((sy_rd h 234 2) - a1))), .ref 234], h8)) mj_d_165_56 (fun _ _ => rfl) ?_
      refine sy_cv (M' := mj_m_149) (vs := [.ref 234, sy_i (448 + (112 * ((sy_rd h 234 2) - a1))), sy_i 0]) (rest := []) mj_d_165_57 rfl rfl rfl rfl th8 rfl rfl ⟨by decide, ⟨Nat.le_of_ble_eq_true rfl, Nat.le_of_ble_eq_true rfl, Nat.le_of_ble_eq_true rfl, Nat.le_of_ble_eq_true rfl, Nat.le_of_ble_eq_true rfl⟩⟩ (dt_R_copy (a1 := (448 + (112 * ((sy_rd h 234 2) - a1)))) (a2 := 0) th8 (by omega) (by omega) (by omega) (by omega) (by first | omega | assumption) (by first | omega | assumption)) ?_
      rintro _ h10 ⟨rfl, th10, eh10⟩
      rw [eh8] at eh10
      show sy_wp (mj_m_165, 60, [(2, sy_i (sy_rd h 235 111)), (0, .ref 234), (1, sy_i a1)], [], h10) _
      refine sy_st (S' := (mj_m_165, 61, [(2, sy_i (sy_rd h 235 111)), (0, .ref 234), (1, sy_i a1)], [.ref 234], h10)) mj_d_165_60 (fun _ _ => rfl) ?_
      refine sy_gr2 (b := 235) mj_d_165_61 rfl rfl (by decide) rfl rfl th10 ?_
      refine sy_bip mj_d_165_64 (by decide) ?_
      refine sy_st (S' := (mj_m_165, 67, [(2, sy_i (sy_rd h 235 111)), (0, .ref 234), (1, sy_i a1)], [sy_i (sy_rd h 235 111), sy_i 111, .ref 235], h10)) mj_d_165_66 (fun _ _ => rfl) ?_
      refine sg_iasN (v := (sy_rd h 235 111)) (lo := 0) (hi := 2147483647) 111 112 (by decide) mj_d_165_67 (by omega) (by omega) (by omega) (by omega) (by omega) (by omega) th10 ?_
      intro h12 th12 eh12
      replace eh12 : sy_rd h12 = sg_up (sy_rd h10) 235 111 (sy_rd h 235 111) := eh12
      rw [eh10] at eh12
      refine sy_st (S' := (mj_m_165, 69, [(2, sy_i (sy_rd h 235 111)), (0, .ref 234), (1, sy_i a1)], [.ref 234], h12)) mj_d_165_68 (fun _ _ => rfl) ?_
      refine sy_gr2 (b := 235) mj_d_165_69 rfl rfl (by decide) rfl rfl th12 ?_
      refine sy_st (S' := (mj_m_165, 73, [(2, sy_i (sy_rd h 235 111)), (0, .ref 234), (1, sy_i a1)], [sy_i 0, .ref 235], h12)) mj_d_165_72 (fun _ _ => rfl) ?_
      refine sg_iaT mj_d_165_73 (by omega) (by omega) th12 ?_
      intro x13 ex13 bx13 tx13
      replace ex13 : x13 = sy_rd h12 235 0 := ex13
      rw [eh12, sg_nk (by decide)] at ex13
      subst ex13
      exact sy_reti mj_d_165_74 rfl ⟨th12, eh12, rfl, by omega, by omega⟩
    · skip
      rw [if_neg c5]
      refine sy_ldc (n := -1000000003) mj_d_165_23 rfl (by decide) ?_
      exact sy_reti mj_d_165_25 rfl ⟨hH, rfl, rfl, by omega, by omega⟩
  · skip
    rw [if_pos (Decidable.not_not.mp c3)]
    replace c3 := Decidable.not_not.mp c3
    refine sy_ldc (n := -1000000002) mj_d_165_12 rfl (by decide) ?_
    exact sy_reti mj_d_165_14 rfl ⟨hH, rfl, rfl, by omega, by omega⟩
def dc_R_canGive (s : sg_S) (a1 a2 : Int) : Int := (if (sy_and (s 235 ((101 + a1).toNat)) (sy_xor (s 235 ((101 + a2).toNat)) (-1))) = 0 then 0 else 1)
set_option maxRecDepth 100000 in
theorem dt_R_canGive {h : mj_H} (hH : sy_H h) {a1 a2 : Int} (b_a1 : 0 ≤ a1) (t_a1 : a1 ≤ 4) (b_a2 : 0 ≤ a2) (t_a2 : a2 ≤ 4) : sy_wp (mj_m_179, 0, [(0, .ref 234), (1, sy_i a1), (2, sy_i a2)], [], h) (dq1 h (0) (1) (dc_R_canGive (sy_rd h) a1 a2)) := by
  unfold dc_R_canGive
  refine sy_st (S' := (mj_m_179, 1, [(0, .ref 234), (1, sy_i a1), (2, sy_i a2)], [.ref 234], h)) mj_d_179_0 (fun _ _ => rfl) ?_
  refine sy_gr2 (b := 235) mj_d_179_1 rfl rfl (by decide) rfl rfl hH ?_
  refine sy_bip mj_d_179_4 (by decide) ?_
  refine sy_st (S' := (mj_m_179, 7, [(0, .ref 234), (1, sy_i a1), (2, sy_i a2)], [sy_i a1, sy_i 101, .ref 235], h)) mj_d_179_6 (fun _ _ => rfl) ?_
  refine sy_add mj_d_179_7 ?_
  refine sg_iaN (lo := 0) (hi := 511) 101 106 (by decide) mj_d_179_8 (by omega) (by omega) (by omega) (by omega) hH ?_
  rintro _ rfl bx1 tx1
  refine sy_st (S' := (mj_m_179, 10, [(0, .ref 234), (1, sy_i a1), (2, sy_i a2)], [.ref 234, sy_i (sy_rd h 235 ((101 + a1).toNat))], h)) mj_d_179_9 (fun _ _ => rfl) ?_
  refine sy_gr2 (b := 235) mj_d_179_10 rfl rfl (by decide) rfl rfl hH ?_
  refine sy_bip mj_d_179_13 (by decide) ?_
  refine sy_st (S' := (mj_m_179, 16, [(0, .ref 234), (1, sy_i a1), (2, sy_i a2)], [sy_i a2, sy_i 101, .ref 235, sy_i (sy_rd h 235 ((101 + a1).toNat))], h)) mj_d_179_15 (fun _ _ => rfl) ?_
  refine sy_add mj_d_179_16 ?_
  refine sg_iaN (lo := 0) (hi := 511) 101 106 (by decide) mj_d_179_17 (by omega) (by omega) (by omega) (by omega) hH ?_
  rintro _ rfl bx2 tx2
  refine sy_st (S' := (mj_m_179, 19, [(0, .ref 234), (1, sy_i a1), (2, sy_i a2)], [sy_i (-1), sy_i (sy_rd h 235 ((101 + a2).toNat)), sy_i (sy_rd h 235 ((101 + a1).toNat))], h)) mj_d_179_18 (fun _ _ => rfl) ?_
  refine sy_ixor mj_d_179_19 ?_
  have q3 := sg_xor_f (sy_rd h 235 ((101 + a2).toNat)) (-1)
  refine sy_iand mj_d_179_20 ?_
  have q4 := sg_and_rng (sy_rd h 235 ((101 + a1).toNat)) (sy_xor (sy_rd h 235 ((101 + a2).toNat)) (-1))
  refine sy_ifc mj_d_179_21 rfl ⟨by omega, by omega⟩ (fun (c5 : (sy_and (sy_rd h 235 ((101 + a1).toNat)) (sy_xor (sy_rd h 235 ((101 + a2).toNat)) (-1))) = 0) => ?_) (fun (c5 : ¬ ((sy_and (sy_rd h 235 ((101 + a1).toNat)) (sy_xor (sy_rd h 235 ((101 + a2).toNat)) (-1))) = 0)) => ?_)
  · skip
    rw [if_pos c5]
    refine sy_st (S' := (mj_m_179, 29, [(0, .ref 234), (1, sy_i a1), (2, sy_i a2)], [sy_i 0], h)) mj_d_179_28 (fun _ _ => rfl) ?_
    exact sy_retb mj_d_179_29 rfl ⟨by omega, by omega⟩ ⟨rfl, rfl, by omega, by omega⟩
  · skip
    rw [if_neg c5]
    refine sy_st (S' := (mj_m_179, 25, [(0, .ref 234), (1, sy_i a1), (2, sy_i a2)], [sy_i 1], h)) mj_d_179_24 (fun _ _ => rfl) ?_
    refine sy_st (S' := (mj_m_179, 29, [(0, .ref 234), (1, sy_i a1), (2, sy_i a2)], [sy_i 1], h)) mj_d_179_25 (fun _ _ => rfl) ?_
    exact sy_retb mj_d_179_29 rfl ⟨by omega, by omega⟩ ⟨rfl, rfl, by omega, by omega⟩
def dc_R_moreOf (s : sg_S) (a1 a2 : Int) : Int := (if (dc_R_ones s (sy_and (s 235 ((101 + a1).toNat)) (sy_xor (s 235 ((101 + a2).toNat)) (-1)))) ≤ (s 247 ((a2).toNat)) then (s 237 ((a2).toNat)) else 0)
set_option maxRecDepth 100000 in
theorem dt_R_moreOf {h : mj_H} (hH : sy_H h) {a1 a2 : Int} (b_a1 : 0 ≤ a1) (t_a1 : a1 ≤ 4) (b_a2 : 0 ≤ a2) (t_a2 : a2 ≤ 4) : sy_wp (mj_m_175, 0, [(0, .ref 234), (1, sy_i a1), (2, sy_i a2)], [], h) (dq1 h (0) (99) (dc_R_moreOf (sy_rd h) a1 a2)) := by
  unfold dc_R_moreOf
  refine sy_st (S' := (mj_m_175, 1, [(0, .ref 234), (1, sy_i a1), (2, sy_i a2)], [.ref 234], h)) mj_d_175_0 (fun _ _ => rfl) ?_
  refine sy_gr2 (b := 247) mj_d_175_1 rfl rfl (by decide) rfl rfl hH ?_
  refine sy_st (S' := (mj_m_175, 5, [(0, .ref 234), (1, sy_i a1), (2, sy_i a2)], [sy_i a2, .ref 247], h)) mj_d_175_4 (fun _ _ => rfl) ?_
  refine sy_ia mj_d_175_5 rfl (by decide) (by omega) (by omega) (ab_el_1 rfl _) hH ?_
  rintro _ rfl bx1 tx1
  refine sy_st (S' := (mj_m_175, 7, [(0, .ref 234), (1, sy_i a1), (2, sy_i a2)], [.ref 234, sy_i (sy_rd h 247 ((a2).toNat))], h)) mj_d_175_6 (fun _ _ => rfl) ?_
  refine sy_gr2 (b := 235) mj_d_175_7 rfl rfl (by decide) rfl rfl hH ?_
  refine sy_bip mj_d_175_10 (by decide) ?_
  refine sy_st (S' := (mj_m_175, 13, [(0, .ref 234), (1, sy_i a1), (2, sy_i a2)], [sy_i a1, sy_i 101, .ref 235, sy_i (sy_rd h 247 ((a2).toNat))], h)) mj_d_175_12 (fun _ _ => rfl) ?_
  refine sy_add mj_d_175_13 ?_
  refine sg_iaN (lo := 0) (hi := 511) 101 106 (by decide) mj_d_175_14 (by omega) (by omega) (by omega) (by omega) hH ?_
  rintro _ rfl bx2 tx2
  refine sy_st (S' := (mj_m_175, 16, [(0, .ref 234), (1, sy_i a1), (2, sy_i a2)], [.ref 234, sy_i (sy_rd h 235 ((101 + a1).toNat)), sy_i (sy_rd h 247 ((a2).toNat))], h)) mj_d_175_15 (fun _ _ => rfl) ?_
  refine sy_gr2 (b := 235) mj_d_175_16 rfl rfl (by decide) rfl rfl hH ?_
  refine sy_bip mj_d_175_19 (by decide) ?_
  refine sy_st (S' := (mj_m_175, 22, [(0, .ref 234), (1, sy_i a1), (2, sy_i a2)], [sy_i a2, sy_i 101, .ref 235, sy_i (sy_rd h 235 ((101 + a1).toNat)), sy_i (sy_rd h 247 ((a2).toNat))], h)) mj_d_175_21 (fun _ _ => rfl) ?_
  refine sy_add mj_d_175_22 ?_
  refine sg_iaN (lo := 0) (hi := 511) 101 106 (by decide) mj_d_175_23 (by omega) (by omega) (by omega) (by omega) hH ?_
  rintro _ rfl bx3 tx3
  refine sy_st (S' := (mj_m_175, 25, [(0, .ref 234), (1, sy_i a1), (2, sy_i a2)], [sy_i (-1), sy_i (sy_rd h 235 ((101 + a2).toNat)), sy_i (sy_rd h 235 ((101 + a1).toNat)), sy_i (sy_rd h 247 ((a2).toNat))], h)) mj_d_175_24 (fun _ _ => rfl) ?_
  refine sy_ixor mj_d_175_25 ?_
  have q4 := sg_xor_f (sy_rd h 235 ((101 + a2).toNat)) (-1)
  refine sy_iand mj_d_175_26 ?_
  have q5 := sg_and_rng (sy_rd h 235 ((101 + a1).toNat)) (sy_xor (sy_rd h 235 ((101 + a2).toNat)) (-1))
  refine sy_cs (M' := mj_m_176) (vs := [sy_i (sy_and (sy_rd h 235 ((101 + a1).toNat)) (sy_xor (sy_rd h 235 ((101 + a2).toNat)) (-1)))]) (rest := [sy_i (sy_rd h 247 ((a2).toNat))]) mj_d_175_27 rfl rfl rfl rfl ⟨Nat.le_of_ble_eq_true rfl, Nat.le_of_ble_eq_true rfl, Nat.le_of_ble_eq_true rfl, Nat.le_of_ble_eq_true rfl, Nat.le_of_ble_eq_true rfl⟩ (dt_R_ones (a0 := (sy_and (sy_rd h 235 ((101 + a1).toNat)) (sy_xor (sy_rd h 235 ((101 + a2).toNat)) (-1)))) hH (by omega) (by omega)) ?_
  rintro _ _ ⟨rfl, rfl, b6, b6t⟩
  show sy_wp (mj_m_175, 30, [(0, .ref 234), (1, sy_i a1), (2, sy_i a2)], [sy_i (dc_R_ones (sy_rd h) (sy_and (sy_rd h 235 ((101 + a1).toNat)) (sy_xor (sy_rd h 235 ((101 + a2).toNat)) (-1)))), sy_i (sy_rd h 247 ((a2).toNat))], h) _
  refine sy_icm mj_d_175_30 rfl ⟨by omega, by omega⟩ ⟨by omega, by omega⟩ (fun (c7 : (dc_R_ones (sy_rd h) (sy_and (sy_rd h 235 ((101 + a1).toNat)) (sy_xor (sy_rd h 235 ((101 + a2).toNat)) (-1)))) ≤ (sy_rd h 247 ((a2).toNat))) => ?_) (fun (c7 : ¬ ((dc_R_ones (sy_rd h) (sy_and (sy_rd h 235 ((101 + a1).toNat)) (sy_xor (sy_rd h 235 ((101 + a2).toNat)) (-1)))) ≤ (sy_rd h 247 ((a2).toNat)))) => ?_)
  · skip
    rw [if_pos c7]
    refine sy_st (S' := (mj_m_175, 38, [(0, .ref 234), (1, sy_i a1), (2, sy_i a2)], [.ref 234], h)) mj_d_175_37 (fun _ _ => rfl) ?_
    refine sy_gr2 (b := 237) mj_d_175_38 rfl rfl (by decide) rfl rfl hH ?_
    refine sy_st (S' := (mj_m_175, 42, [(0, .ref 234), (1, sy_i a1), (2, sy_i a2)], [sy_i a2, .ref 237], h)) mj_d_175_41 (fun _ _ => rfl) ?_
    refine sy_ia mj_d_175_42 rfl (by decide) (by omega) (by omega) (ab_el_1 rfl _) hH ?_
    rintro _ rfl bx8 tx8
    exact sy_reti mj_d_175_43 rfl ⟨rfl, rfl, by omega, by omega⟩
  · skip
    rw [if_neg c7]
    refine sy_st (S' := (mj_m_175, 34, [(0, .ref 234), (1, sy_i a1), (2, sy_i a2)], [sy_i 0], h)) mj_d_175_33 (fun _ _ => rfl) ?_
    refine sy_st (S' := (mj_m_175, 43, [(0, .ref 234), (1, sy_i a1), (2, sy_i a2)], [sy_i 0], h)) mj_d_175_34 (fun _ _ => rfl) ?_
    exact sy_reti mj_d_175_43 rfl ⟨rfl, rfl, by omega, by omega⟩
def dc_R_wet_34 (n : Nat) : sg_S → Int → Int → Int → Int → Int := Nat.rec (fun (s : sg_S) l1 l2 l3 l5 => 0) (fun _ ih => fun s l1 l2 l3 l5 => (if l1 ≤ l5 then l3 else (if (l2 + (2 * l5)) ≤ 100 then (ih s l1 l2 ((l3 * (100 - (l2 + (2 * l5)))) / 100) (l5 + 1)) else (ih s l1 l2 ((l3 * (100 - 100)) / 100) (l5 + 1))))) n
theorem dc_R_wet_34_s (n : Nat) (s : sg_S) (l1 l2 l3 l5 : Int) : dc_R_wet_34 (n + 1) s l1 l2 l3 l5 = (if l1 ≤ l5 then l3 else (if (l2 + (2 * l5)) ≤ 100 then ((dc_R_wet_34 n) s l1 l2 ((l3 * (100 - (l2 + (2 * l5)))) / 100) (l5 + 1)) else ((dc_R_wet_34 n) s l1 l2 ((l3 * (100 - 100)) / 100) (l5 + 1)))) := rfl
def dc_R_wet (s : sg_S) (a1 a2 : Int) : Int := (if (dc_R_in s a1 0 8) = 0 then (-1000000002) else (if (dc_R_in s a2 0 100) = 0 then (-1000000002) else (dc_R_wet_34 9 s a1 a2 1000000000 0)))
set_option maxRecDepth 100000 in
theorem dt_R_wet_34 : ∀ (n : Nat) {h : mj_H} (hH : sy_H h) {l1 l2 l3 l5 : Int} (b_l1 : 0 ≤ l1) (t_l1 : l1 ≤ 8) (b_l2 : 0 ≤ l2) (t_l2 : l2 ≤ 100) (b_l3 : 0 ≤ l3) (t_l3 : l3 ≤ 1000000000) (b_l5 : 0 ≤ l5) (t_l5 : l5 ≤ 8) (hm : 8 - l5 < (n : Int)), sy_wp (mj_m_181, 34, [(1, sy_i l1), (2, sy_i l2), (3, sy_l l3), (5, sy_i l5)], [], h) (dq1 h (-2147483648) (2147483647) (dc_R_wet_34 n (sy_rd h) l1 l2 l3 l5)) := by
  intro n
  induction n with
  | zero =>
    intro h hH l1 l2 l3 l5 b_l1 t_l1 b_l2 t_l2 b_l3 t_l3 b_l5 t_l5 hm
    exact absurd hm (by omega)
  | succ n ih =>
    intro h hH l1 l2 l3 l5 b_l1 t_l1 b_l2 t_l2 b_l3 t_l3 b_l5 t_l5 hm
    rw [dc_R_wet_34_s]
    refine sy_st (S' := (mj_m_181, 36, [(1, sy_i l1), (2, sy_i l2), (3, sy_l l3), (5, sy_i l5)], [sy_i l5], h)) mj_d_181_34 (fun _ _ => rfl) ?_
    refine sy_st (S' := (mj_m_181, 37, [(1, sy_i l1), (2, sy_i l2), (3, sy_l l3), (5, sy_i l5)], [sy_i l1, sy_i l5], h)) mj_d_181_36 (fun _ _ => rfl) ?_
    refine sy_icm mj_d_181_37 rfl ⟨by omega, by omega⟩ ⟨by omega, by omega⟩ (fun (c1 : l1 ≤ l5) => ?_) (fun (c1 : ¬ (l1 ≤ l5)) => ?_)
    · skip
      rw [if_pos c1]
      refine sy_st (S' := (mj_m_181, 84, [(1, sy_i l1), (2, sy_i l2), (3, sy_l l3), (5, sy_i l5)], [sy_l l3], h)) mj_d_181_83 (fun _ _ => rfl) ?_
      refine sy_l2i mj_d_181_84 ⟨by omega, by omega⟩ ?_
      exact sy_reti mj_d_181_85 rfl ⟨rfl, rfl, by omega, by omega⟩
    · skip
      rw [if_neg c1]
      refine sy_st (S' := (mj_m_181, 41, [(1, sy_i l1), (2, sy_i l2), (3, sy_l l3), (5, sy_i l5)], [sy_i l2], h)) mj_d_181_40 (fun _ _ => rfl) ?_
      refine sy_st (S' := (mj_m_181, 42, [(1, sy_i l1), (2, sy_i l2), (3, sy_l l3), (5, sy_i l5)], [sy_i 2, sy_i l2], h)) mj_d_181_41 (fun _ _ => rfl) ?_
      refine sy_st (S' := (mj_m_181, 44, [(1, sy_i l1), (2, sy_i l2), (3, sy_l l3), (5, sy_i l5)], [sy_i l5, sy_i 2, sy_i l2], h)) mj_d_181_42 (fun _ _ => rfl) ?_
      refine sy_mul mj_d_181_44 ?_
      refine sy_add mj_d_181_45 ?_
      refine sy_bip mj_d_181_46 (by decide) ?_
      refine sy_icm mj_d_181_48 rfl ⟨by omega, by omega⟩ ⟨by omega, by omega⟩ (fun (c2 : (l2 + (2 * l5)) ≤ 100) => ?_) (fun (c2 : ¬ ((l2 + (2 * l5)) ≤ 100)) => ?_)
      · skip
        rw [if_pos c2]
        refine sy_st (S' := (mj_m_181, 57, [(1, sy_i l1), (2, sy_i l2), (3, sy_l l3), (5, sy_i l5)], [sy_i l2], h)) mj_d_181_56 (fun _ _ => rfl) ?_
        refine sy_st (S' := (mj_m_181, 58, [(1, sy_i l1), (2, sy_i l2), (3, sy_l l3), (5, sy_i l5)], [sy_i 2, sy_i l2], h)) mj_d_181_57 (fun _ _ => rfl) ?_
        refine sy_st (S' := (mj_m_181, 60, [(1, sy_i l1), (2, sy_i l2), (3, sy_l l3), (5, sy_i l5)], [sy_i l5, sy_i 2, sy_i l2], h)) mj_d_181_58 (fun _ _ => rfl) ?_
        refine sy_mul mj_d_181_60 ?_
        refine sy_add mj_d_181_61 ?_
        refine sy_st (S' := (mj_m_181, 64, [(6, sy_i (l2 + (2 * l5))), (1, sy_i l1), (2, sy_i l2), (3, sy_l l3), (5, sy_i l5)], [], h)) mj_d_181_62 (fun _ _ => rfl) ?_
        refine sy_st (S' := (mj_m_181, 65, [(6, sy_i (l2 + (2 * l5))), (1, sy_i l1), (2, sy_i l2), (3, sy_l l3), (5, sy_i l5)], [sy_l l3], h)) mj_d_181_64 (fun _ _ => rfl) ?_
        refine sy_bip mj_d_181_65 (by decide) ?_
        refine sy_st (S' := (mj_m_181, 69, [(6, sy_i (l2 + (2 * l5))), (1, sy_i l1), (2, sy_i l2), (3, sy_l l3), (5, sy_i l5)], [sy_i (l2 + (2 * l5)), sy_i 100, sy_l l3], h)) mj_d_181_67 (fun _ _ => rfl) ?_
        refine sy_sub mj_d_181_69 ?_
        refine sy_i2l mj_d_181_70 ⟨by omega, by omega⟩ ?_
        refine sy_lmul mj_d_181_71 ?_
        have q3 := sg_mul_f l3 (100 - (l2 + (2 * l5)))
        refine sy_ldc2 (n := 100) mj_d_181_72 rfl (by decide) ?_
        refine sy_ldiv mj_d_181_75 ⟨by omega, by omega⟩ ⟨by omega, by omega⟩ ?_
        refine sy_st (S' := (mj_m_181, 77, [(3, sy_l ((l3 * (100 - (l2 + (2 * l5)))) / 100)), (6, sy_i (l2 + (2 * l5))), (1, sy_i l1), (2, sy_i l2), (5, sy_i l5)], [], h)) mj_d_181_76 (fun _ _ => rfl) ?_
        refine sy_inc (a := l5) (lv' := [(5, sy_i (l5 + 1)), (3, sy_l ((l3 * (100 - (l2 + (2 * l5)))) / 100)), (6, sy_i (l2 + (2 * l5))), (1, sy_i l1), (2, sy_i l2)]) mj_d_181_77 (Nat.le_of_ble_eq_true rfl) rfl rfl ?_
        refine sy_st (S' := (mj_m_181, 34, [(5, sy_i (l5 + 1)), (3, sy_l ((l3 * (100 - (l2 + (2 * l5)))) / 100)), (6, sy_i (l2 + (2 * l5))), (1, sy_i l1), (2, sy_i l2)], [], h)) mj_d_181_80 (fun _ _ => rfl) ?_
        refine sy_lv (lv := [(1, sy_i l1), (2, sy_i l2), (3, sy_l ((l3 * (100 - (l2 + (2 * l5)))) / 100)), (5, sy_i (l5 + 1))]) rfl ⟨rfl, rfl, rfl, rfl, trivial⟩ ?_
        exact ih hH (by first | omega | assumption) (by first | omega | assumption) (by first | omega | assumption) (by first | omega | assumption) (by first | omega | assumption) (by first | omega | assumption) (by first | omega | assumption) (by first | omega | assumption) (by omega)
      · skip
        rw [if_neg c2]
        refine sy_bip mj_d_181_51 (by decide) ?_
        refine sy_st (S' := (mj_m_181, 62, [(1, sy_i l1), (2, sy_i l2), (3, sy_l l3), (5, sy_i l5)], [sy_i 100], h)) mj_d_181_53 (fun _ _ => rfl) ?_
        refine sy_st (S' := (mj_m_181, 64, [(6, sy_i 100), (1, sy_i l1), (2, sy_i l2), (3, sy_l l3), (5, sy_i l5)], [], h)) mj_d_181_62 (fun _ _ => rfl) ?_
        refine sy_st (S' := (mj_m_181, 65, [(6, sy_i 100), (1, sy_i l1), (2, sy_i l2), (3, sy_l l3), (5, sy_i l5)], [sy_l l3], h)) mj_d_181_64 (fun _ _ => rfl) ?_
        refine sy_bip mj_d_181_65 (by decide) ?_
        refine sy_st (S' := (mj_m_181, 69, [(6, sy_i 100), (1, sy_i l1), (2, sy_i l2), (3, sy_l l3), (5, sy_i l5)], [sy_i 100, sy_i 100, sy_l l3], h)) mj_d_181_67 (fun _ _ => rfl) ?_
        refine sy_sub mj_d_181_69 ?_
        refine sy_i2l mj_d_181_70 ⟨by omega, by omega⟩ ?_
        refine sy_lmul mj_d_181_71 ?_
        have q4 := sg_mul_f l3 (100 - 100)
        refine sy_ldc2 (n := 100) mj_d_181_72 rfl (by decide) ?_
        refine sy_ldiv mj_d_181_75 ⟨by omega, by omega⟩ ⟨by omega, by omega⟩ ?_
        refine sy_st (S' := (mj_m_181, 77, [(3, sy_l ((l3 * (100 - 100)) / 100)), (6, sy_i 100), (1, sy_i l1), (2, sy_i l2), (5, sy_i l5)], [], h)) mj_d_181_76 (fun _ _ => rfl) ?_
        refine sy_inc (a := l5) (lv' := [(5, sy_i (l5 + 1)), (3, sy_l ((l3 * (100 - 100)) / 100)), (6, sy_i 100), (1, sy_i l1), (2, sy_i l2)]) mj_d_181_77 (Nat.le_of_ble_eq_true rfl) rfl rfl ?_
        refine sy_st (S' := (mj_m_181, 34, [(5, sy_i (l5 + 1)), (3, sy_l ((l3 * (100 - 100)) / 100)), (6, sy_i 100), (1, sy_i l1), (2, sy_i l2)], [], h)) mj_d_181_80 (fun _ _ => rfl) ?_
        refine sy_lv (lv := [(1, sy_i l1), (2, sy_i l2), (3, sy_l ((l3 * (100 - 100)) / 100)), (5, sy_i (l5 + 1))]) rfl ⟨rfl, rfl, rfl, rfl, trivial⟩ ?_
        exact ih hH (by first | omega | assumption) (by first | omega | assumption) (by first | omega | assumption) (by first | omega | assumption) (by first | omega | assumption) (by first | omega | assumption) (by first | omega | assumption) (by first | omega | assumption) (by omega)
set_option maxRecDepth 100000 in
theorem dt_R_wet {h : mj_H} (hH : sy_H h) {a1 a2 : Int} (b_a1 : (-2147483648) ≤ a1) (t_a1 : a1 ≤ 2147483647) (b_a2 : (-2147483648) ≤ a2) (t_a2 : a2 ≤ 2147483647) : sy_wp (mj_m_181, 0, [(0, .ref 234), (1, sy_i a1), (2, sy_i a2)], [], h) (dq1 h (-2147483648) (2147483647) (dc_R_wet (sy_rd h) a1 a2)) := by
  unfold dc_R_wet
  refine sy_st (S' := (mj_m_181, 1, [(0, .ref 234), (1, sy_i a1), (2, sy_i a2)], [sy_i a1], h)) mj_d_181_0 (fun _ _ => rfl) ?_
  refine sy_i2l mj_d_181_1 ⟨by omega, by omega⟩ ?_
  refine sy_st (S' := (mj_m_181, 3, [(0, .ref 234), (1, sy_i a1), (2, sy_i a2)], [sy_l 0, sy_l a1], h)) mj_d_181_2 (fun _ _ => rfl) ?_
  refine sy_ldc2 (n := 8) mj_d_181_3 rfl (by decide) ?_
  refine sy_cs (M' := mj_m_126) (vs := [sy_l a1, sy_l 0, sy_l 8]) (rest := []) mj_d_181_6 rfl rfl rfl rfl ⟨Nat.le_of_ble_eq_true rfl, Nat.le_of_ble_eq_true rfl, Nat.le_of_ble_eq_true rfl, Nat.le_of_ble_eq_true rfl, Nat.le_of_ble_eq_true rfl⟩ (dt_R_in (a0 := a1) (a1 := 0) (a2 := 8) hH (by omega) (by omega) (by omega) (by omega) (by omega) (by omega)) ?_
  rintro _ _ ⟨rfl, rfl, b1, b1t⟩
  have q2 := df_R_in_0 (sy_rd h) a1 0 8
  show sy_wp (mj_m_181, 9, [(0, .ref 234), (1, sy_i a1), (2, sy_i a2)], [sy_i (dc_R_in (sy_rd h) a1 0 8)], h) _
  refine sy_ifc mj_d_181_9 rfl ⟨by omega, by omega⟩ (fun (c3 : (dc_R_in (sy_rd h) a1 0 8) = 0) => ?_) (fun (c3 : ¬ ((dc_R_in (sy_rd h) a1 0 8) = 0)) => ?_)
  · skip
    rw [if_pos c3]
    refine sy_ldc (n := -1000000002) mj_d_181_24 rfl (by decide) ?_
    exact sy_reti mj_d_181_26 rfl ⟨rfl, rfl, by omega, by omega⟩
  · skip
    rw [if_neg c3]
    refine sy_st (S' := (mj_m_181, 13, [(0, .ref 234), (1, sy_i a1), (2, sy_i a2)], [sy_i a2], h)) mj_d_181_12 (fun _ _ => rfl) ?_
    refine sy_i2l mj_d_181_13 ⟨by omega, by omega⟩ ?_
    refine sy_st (S' := (mj_m_181, 15, [(0, .ref 234), (1, sy_i a1), (2, sy_i a2)], [sy_l 0, sy_l a2], h)) mj_d_181_14 (fun _ _ => rfl) ?_
    refine sy_ldc2 (n := 100) mj_d_181_15 rfl (by decide) ?_
    refine sy_cs (M' := mj_m_126) (vs := [sy_l a2, sy_l 0, sy_l 100]) (rest := []) mj_d_181_18 rfl rfl rfl rfl ⟨Nat.le_of_ble_eq_true rfl, Nat.le_of_ble_eq_true rfl, Nat.le_of_ble_eq_true rfl, Nat.le_of_ble_eq_true rfl, Nat.le_of_ble_eq_true rfl⟩ (dt_R_in (a0 := a2) (a1 := 0) (a2 := 100) hH (by omega) (by omega) (by omega) (by omega) (by omega) (by omega)) ?_
    rintro _ _ ⟨rfl, rfl, b4, b4t⟩
    have q5 := df_R_in_0 (sy_rd h) a2 0 100
    show sy_wp (mj_m_181, 21, [(0, .ref 234), (1, sy_i a1), (2, sy_i a2)], [sy_i (dc_R_in (sy_rd h) a2 0 100)], h) _
    refine sy_ifc mj_d_181_21 rfl ⟨by omega, by omega⟩ (fun (c6 : ¬ ((dc_R_in (sy_rd h) a2 0 100) = 0)) => ?_) (fun (c6 : ¬ ¬ ((dc_R_in (sy_rd h) a2 0 100) = 0)) => ?_)
    · skip
      rw [if_neg c6]
      refine sy_ldc2 (n := 1000000000) mj_d_181_27 rfl (by decide) ?_
      refine sy_st (S' := (mj_m_181, 31, [(3, sy_l 1000000000), (0, .ref 234), (1, sy_i a1), (2, sy_i a2)], [], h)) mj_d_181_30 (fun _ _ => rfl) ?_
      refine sy_st (S' := (mj_m_181, 32, [(3, sy_l 1000000000), (0, .ref 234), (1, sy_i a1), (2, sy_i a2)], [sy_i 0], h)) mj_d_181_31 (fun _ _ => rfl) ?_
      refine sy_st (S' := (mj_m_181, 34, [(5, sy_i 0), (3, sy_l 1000000000), (0, .ref 234), (1, sy_i a1), (2, sy_i a2)], [], h)) mj_d_181_32 (fun _ _ => rfl) ?_
      refine sy_lv (lv := [(1, sy_i a1), (2, sy_i a2), (3, sy_l 1000000000), (5, sy_i 0)]) rfl ⟨rfl, rfl, rfl, rfl, trivial⟩ ?_
      exact dt_R_wet_34 9 hH (by first | omega | assumption) (by first | omega | assumption) (by first | omega | assumption) (by first | omega | assumption) (by first | omega | assumption) (by first | omega | assumption) (by first | omega | assumption) (by first | omega | assumption) (by omega)
    · skip
      rw [if_pos (Decidable.not_not.mp c6)]
      replace c6 := Decidable.not_not.mp c6
      refine sy_ldc (n := -1000000002) mj_d_181_24 rfl (by decide) ?_
      exact sy_reti mj_d_181_26 rfl ⟨rfl, rfl, by omega, by omega⟩
def dc_R_see (s : sg_S) (a1 a2 a3 : Int) : sg_S × Int := (if (dc_R_isHouse s a1) = 0 then (s, (-1000000001)) else (if (dc_R_in s a2 1 7) = 0 then (s, (-1000000002)) else (if (s 234 31) = 6 then (s, (-1000000004)) else ((sg_up (sg_up (sg_up (sg_up s 249 ((s 234 31).toNat) a1) 250 ((s 234 31).toNat) a2) 251 ((s 234 31).toNat) a3) 234 31 ((s 234 31) + 1)), ((s 234 31) + 1)))))
def dw_R_see (a k : Nat) : Bool := (a == 249) || (a == 250) || (a == 251) || (a == 234 && k == 31)
theorem dr_R_see (s : sg_S) (a1 a2 a3 : Int) (a k : Nat) (h : dw_R_see a k = false) : (dc_R_see s a1 a2 a3).1 a k = s a k := by
  have h0 := h
  unfold dw_R_see at h
  simp only [Bool.or_eq_false_iff] at h
  obtain ⟨⟨⟨h1, h2⟩, h3⟩, h4⟩ := h
  unfold dc_R_see
  (repeat' split) <;> simp only [(fun s l z => sg_upa (s := s) (l := l) (z := z) (k := k) h1), (fun s l z => sg_upa (s := s) (l := l) (z := z) (k := k) h2), (fun s l z => sg_upa (s := s) (l := l) (z := z) (k := k) h3), (fun s z => sg_upf (s := s) (z := z) h4)]
set_option maxRecDepth 100000 in
theorem dt_R_see {h : mj_H} (hH : sy_H h) {a1 a2 a3 : Int} (b_a1 : (-2147483648) ≤ a1) (t_a1 : a1 ≤ 2147483647) (b_a2 : (-2147483648) ≤ a2) (t_a2 : a2 ≤ 2147483647) (b_a3 : 0 ≤ a3) (t_a3 : a3 ≤ 1) : sy_wp (mj_m_182, 0, [(0, .ref 234), (1, sy_i a1), (2, sy_i a2), (3, sy_i a3)], [], h) (dq2 (-2147483648) (2147483647) (dc_R_see (sy_rd h) a1 a2 a3)) := by
  unfold dc_R_see
  have n234_6 := hH.bd (a := 234) (k := 6) rfl (by decide) rfl
  refine sy_st (S' := (mj_m_182, 1, [(0, .ref 234), (1, sy_i a1), (2, sy_i a2), (3, sy_i a3)], [.ref 234], h)) mj_d_182_0 (fun _ _ => rfl) ?_
  refine sy_st (S' := (mj_m_182, 2, [(0, .ref 234), (1, sy_i a1), (2, sy_i a2), (3, sy_i a3)], [sy_i a1, .ref 234], h)) mj_d_182_1 (fun _ _ => rfl) ?_
  refine sy_cv (M' := mj_m_141) (vs := [.ref 234, sy_i a1]) (rest := []) mj_d_182_2 rfl rfl rfl rfl hH rfl rfl ⟨by decide, ⟨Nat.le_of_ble_eq_true rfl, Nat.le_of_ble_eq_true rfl, Nat.le_of_ble_eq_true rfl, Nat.le_of_ble_eq_true rfl, Nat.le_of_ble_eq_true rfl⟩⟩ (dt_R_isHouse (a1 := a1) hH (by omega) (by omega)) ?_
  rintro _ _ ⟨rfl, rfl, b1, b1t⟩
  have q2 := df_R_isHouse_0 (sy_rd h) a1
  show sy_wp (mj_m_182, 5, [(0, .ref 234), (1, sy_i a1), (2, sy_i a2), (3, sy_i a3)], [sy_i (dc_R_isHouse (sy_rd h) a1)], h) _
  refine sy_ifc mj_d_182_5 rfl ⟨by omega, by omega⟩ (fun (c3 : ¬ ((dc_R_isHouse (sy_rd h) a1) = 0)) => ?_) (fun (c3 : ¬ ¬ ((dc_R_isHouse (sy_rd h) a1) = 0)) => ?_)
  · skip
    rw [if_neg c3]
    refine sy_st (S' := (mj_m_182, 12, [(0, .ref 234), (1, sy_i a1), (2, sy_i a2), (3, sy_i a3)], [sy_i a2], h)) mj_d_182_11 (fun _ _ => rfl) ?_
    refine sy_i2l mj_d_182_12 ⟨by omega, by omega⟩ ?_
    refine sy_st (S' := (mj_m_182, 14, [(0, .ref 234), (1, sy_i a1), (2, sy_i a2), (3, sy_i a3)], [sy_l 1, sy_l a2], h)) mj_d_182_13 (fun _ _ => rfl) ?_
    refine sy_ldc2 (n := 7) mj_d_182_14 rfl (by decide) ?_
    refine sy_cs (M' := mj_m_126) (vs := [sy_l a2, sy_l 1, sy_l 7]) (rest := []) mj_d_182_17 rfl rfl rfl rfl ⟨Nat.le_of_ble_eq_true rfl, Nat.le_of_ble_eq_true rfl, Nat.le_of_ble_eq_true rfl, Nat.le_of_ble_eq_true rfl, Nat.le_of_ble_eq_true rfl⟩ (dt_R_in (a0 := a2) (a1 := 1) (a2 := 7) hH (by omega) (by omega) (by omega) (by omega) (by omega) (by omega)) ?_
    rintro _ _ ⟨rfl, rfl, b4, b4t⟩
    have q5 := df_R_in_0 (sy_rd h) a2 1 7
    show sy_wp (mj_m_182, 20, [(0, .ref 234), (1, sy_i a1), (2, sy_i a2), (3, sy_i a3)], [sy_i (dc_R_in (sy_rd h) a2 1 7)], h) _
    refine sy_ifc mj_d_182_20 rfl ⟨by omega, by omega⟩ (fun (c6 : ¬ ((dc_R_in (sy_rd h) a2 1 7) = 0)) => ?_) (fun (c6 : ¬ ¬ ((dc_R_in (sy_rd h) a2 1 7) = 0)) => ?_)
    · skip
      rw [if_neg c6]
      refine sy_st (S' := (mj_m_182, 27, [(0, .ref 234), (1, sy_i a1), (2, sy_i a2), (3, sy_i a3)], [.ref 234], h)) mj_d_182_26 (fun _ _ => rfl) ?_
      refine sy_gf mj_d_182_27 rfl rfl (by decide) rfl hH ?_
      intro x7 ex7 bx7 tx7
      replace ex7 : x7 = sy_rd h 234 31 := ex7
      subst ex7
      refine sy_bip mj_d_182_30 (by decide) ?_
      refine sy_icm mj_d_182_32 rfl ⟨by omega, by omega⟩ ⟨by omega, by omega⟩ (fun (c8 : ¬ ((sy_rd h 234 31) = 6)) => ?_) (fun (c8 : ¬ ¬ ((sy_rd h 234 31) = 6)) => ?_)
      · skip
        rw [if_neg c8]
        refine sy_st (S' := (mj_m_182, 39, [(0, .ref 234), (1, sy_i a1), (2, sy_i a2), (3, sy_i a3)], [.ref 234], h)) mj_d_182_38 (fun _ _ => rfl) ?_
        refine sy_gr2 (b := 249) mj_d_182_39 rfl rfl (by decide) rfl rfl hH ?_
        refine sy_st (S' := (mj_m_182, 43, [(0, .ref 234), (1, sy_i a1), (2, sy_i a2), (3, sy_i a3)], [.ref 234, .ref 249], h)) mj_d_182_42 (fun _ _ => rfl) ?_
        refine sy_gf mj_d_182_43 rfl rfl (by decide) rfl hH ?_
        intro x9 ex9 bx9 tx9
        replace ex9 : x9 = sy_rd h 234 31 := ex9
        subst ex9
        refine sy_st (S' := (mj_m_182, 47, [(0, .ref 234), (1, sy_i a1), (2, sy_i a2), (3, sy_i a3)], [sy_i a1, sy_i (sy_rd h 234 31), .ref 249], h)) mj_d_182_46 (fun _ _ => rfl) ?_
        refine sg_ias (v := a1) mj_d_182_47 rfl (by decide) (by omega) (by omega) (ab_el_1 rfl _) hH (by omega) (by omega) ⟨by omega, by omega⟩ ?_
        intro h10 th10 eh10
        refine sy_st (S' := (mj_m_182, 49, [(0, .ref 234), (1, sy_i a1), (2, sy_i a2), (3, sy_i a3)], [.ref 234], h10)) mj_d_182_48 (fun _ _ => rfl) ?_
        refine sy_gr2 (b := 250) mj_d_182_49 rfl rfl (by decide) rfl rfl th10 ?_
        refine sy_st (S' := (mj_m_182, 53, [(0, .ref 234), (1, sy_i a1), (2, sy_i a2), (3, sy_i a3)], [.ref 234, .ref 250], h10)) mj_d_182_52 (fun _ _ => rfl) ?_
        refine sy_gf mj_d_182_53 rfl rfl (by decide) rfl th10 ?_
        intro x11 ex11 bx11 tx11
        replace ex11 : x11 = sy_rd h10 234 31 := ex11
        rw [eh10, sg_na (by decide)] at ex11
        subst ex11
        refine sy_st (S' := (mj_m_182, 57, [(0, .ref 234), (1, sy_i a1), (2, sy_i a2), (3, sy_i a3)], [sy_i a2, sy_i (sy_rd h 234 31), .ref 250], h10)) mj_d_182_56 (fun _ _ => rfl) ?_
        refine sg_ias (v := a2) mj_d_182_57 rfl (by decide) (by omega) (by omega) (ab_el_1 rfl _) th10 (by omega) (by omega) ⟨by omega, by omega⟩ ?_
        intro h12 th12 eh12
        rw [eh10] at eh12
        refine sy_st (S' := (mj_m_182, 59, [(0, .ref 234), (1, sy_i a1), (2, sy_i a2), (3, sy_i a3)], [.ref 234], h12)) mj_d_182_58 (fun _ _ => rfl) ?_
        refine sy_gr2 (b := 251) mj_d_182_59 rfl rfl (by decide) rfl rfl th12 ?_
        refine sy_st (S' := (mj_m_182, 63, [(0, .ref 234), (1, sy_i a1), (2, sy_i a2), (3, sy_i a3)], [.ref 234, .ref 251], h12)) mj_d_182_62 (fun _ _ => rfl) ?_
        refine sy_gf mj_d_182_63 rfl rfl (by decide) rfl th12 ?_
        intro x13 ex13 bx13 tx13
        replace ex13 : x13 = sy_rd h12 234 31 := ex13
        rw [eh12, sg_na (by decide), sg_na (by decide)] at ex13
        subst ex13
        refine sy_st (S' := (mj_m_182, 67, [(0, .ref 234), (1, sy_i a1), (2, sy_i a2), (3, sy_i a3)], [sy_i a3, sy_i (sy_rd h 234 31), .ref 251], h12)) mj_d_182_66 (fun _ _ => rfl) ?_
        refine sg_bas (v := a3) mj_d_182_67 rfl (by decide) (by omega) (by omega) (ab_el_1 rfl _) th12 (by omega) (by omega) ⟨by omega, by omega⟩ ?_
        intro h14 th14 eh14
        rw [eh12] at eh14
        refine sy_st (S' := (mj_m_182, 69, [(0, .ref 234), (1, sy_i a1), (2, sy_i a2), (3, sy_i a3)], [.ref 234], h14)) mj_d_182_68 (fun _ _ => rfl) ?_
        refine sy_st (S' := (mj_m_182, 70, [(0, .ref 234), (1, sy_i a1), (2, sy_i a2), (3, sy_i a3)], [.ref 234, .ref 234], h14)) mj_d_182_69 (fun _ _ => rfl) ?_
        refine sy_gf mj_d_182_70 rfl rfl (by decide) rfl th14 ?_
        intro x15 ex15 bx15 tx15
        replace ex15 : x15 = sy_rd h14 234 31 := ex15
        rw [eh14, sg_na (by decide), sg_na (by decide), sg_na (by decide)] at ex15
        subst ex15
        refine sy_st (S' := (mj_m_182, 74, [(0, .ref 234), (1, sy_i a1), (2, sy_i a2), (3, sy_i a3)], [sy_i 1, sy_i (sy_rd h 234 31), .ref 234], h14)) mj_d_182_73 (fun _ _ => rfl) ?_
        refine sy_add mj_d_182_74 ?_
        refine sg_pf (z := ((sy_rd h 234 31) + 1)) mj_d_182_75 rfl rfl (by decide) (Or.inl rfl) rfl th14 (by omega) (by omega) ⟨by omega, by omega⟩ ?_
        intro h16 th16 eh16
        rw [eh14] at eh16
        refine sy_st (S' := (mj_m_182, 79, [(0, .ref 234), (1, sy_i a1), (2, sy_i a2), (3, sy_i a3)], [.ref 234], h16)) mj_d_182_78 (fun _ _ => rfl) ?_
        refine sy_gf mj_d_182_79 rfl rfl (by decide) rfl th16 ?_
        intro x17 ex17 bx17 tx17
        replace ex17 : x17 = sy_rd h16 234 31 := ex17
        rw [eh16, sg_eq] at ex17
        subst ex17
        exact sy_reti mj_d_182_82 rfl ⟨th16, eh16, rfl, by omega, by omega⟩
      · skip
        rw [if_pos (Decidable.not_not.mp c8)]
        replace c8 := Decidable.not_not.mp c8
        refine sy_ldc (n := -1000000004) mj_d_182_35 rfl (by decide) ?_
        exact sy_reti mj_d_182_37 rfl ⟨hH, rfl, rfl, by omega, by omega⟩
    · skip
      rw [if_pos (Decidable.not_not.mp c6)]
      replace c6 := Decidable.not_not.mp c6
      refine sy_ldc (n := -1000000002) mj_d_182_23 rfl (by decide) ?_
      exact sy_reti mj_d_182_25 rfl ⟨hH, rfl, rfl, by omega, by omega⟩
  · skip
    rw [if_pos (Decidable.not_not.mp c3)]
    replace c3 := Decidable.not_not.mp c3
    refine sy_ldc (n := -1000000001) mj_d_182_8 rfl (by decide) ?_
    exact sy_reti mj_d_182_10 rfl ⟨hH, rfl, rfl, by omega, by omega⟩
def dc_R_write (s : sg_S) (a1 a2 : Int) : sg_S × Int := (if (dc_R_isHouse s a1) = 0 then (s, (-1000000001)) else (if (dc_R_in s a2 0 7) = 0 then (s, (-1000000002)) else (if (s 234 35) = 20 then (s, (-1000000004)) else ((sg_up (sg_up (sg_up s 252 ((s 234 35).toNat) a1) 253 ((s 234 35).toNat) a2) 234 35 ((s 234 35) + 1)), ((s 234 35) + 1)))))
def dw_R_write (a k : Nat) : Bool := (a == 252) || (a == 253) || (a == 234 && k == 35)
theorem dr_R_write (s : sg_S) (a1 a2 : Int) (a k : Nat) (h : dw_R_write a k = false) : (dc_R_write s a1 a2).1 a k = s a k := by
  have h0 := h
  unfold dw_R_write at h
  simp only [Bool.or_eq_false_iff] at h
  obtain ⟨⟨h1, h2⟩, h3⟩ := h
  unfold dc_R_write
  (repeat' split) <;> simp only [(fun s l z => sg_upa (s := s) (l := l) (z := z) (k := k) h1), (fun s l z => sg_upa (s := s) (l := l) (z := z) (k := k) h2), (fun s z => sg_upf (s := s) (z := z) h3)]
set_option maxRecDepth 100000 in
theorem dt_R_write {h : mj_H} (hH : sy_H h) {a1 a2 : Int} (b_a1 : (-2147483648) ≤ a1) (t_a1 : a1 ≤ 2147483647) (b_a2 : (-2147483648) ≤ a2) (t_a2 : a2 ≤ 2147483647) : sy_wp (mj_m_184, 0, [(0, .ref 234), (1, sy_i a1), (2, sy_i a2)], [], h) (dq2 (-2147483648) (2147483647) (dc_R_write (sy_rd h) a1 a2)) := by
  unfold dc_R_write
  have n234_6 := hH.bd (a := 234) (k := 6) rfl (by decide) rfl
  refine sy_st (S' := (mj_m_184, 1, [(0, .ref 234), (1, sy_i a1), (2, sy_i a2)], [.ref 234], h)) mj_d_184_0 (fun _ _ => rfl) ?_
  refine sy_st (S' := (mj_m_184, 2, [(0, .ref 234), (1, sy_i a1), (2, sy_i a2)], [sy_i a1, .ref 234], h)) mj_d_184_1 (fun _ _ => rfl) ?_
  refine sy_cv (M' := mj_m_141) (vs := [.ref 234, sy_i a1]) (rest := []) mj_d_184_2 rfl rfl rfl rfl hH rfl rfl ⟨by decide, ⟨Nat.le_of_ble_eq_true rfl, Nat.le_of_ble_eq_true rfl, Nat.le_of_ble_eq_true rfl, Nat.le_of_ble_eq_true rfl, Nat.le_of_ble_eq_true rfl⟩⟩ (dt_R_isHouse (a1 := a1) hH (by omega) (by omega)) ?_
  rintro _ _ ⟨rfl, rfl, b1, b1t⟩
  have q2 := df_R_isHouse_0 (sy_rd h) a1
  show sy_wp (mj_m_184, 5, [(0, .ref 234), (1, sy_i a1), (2, sy_i a2)], [sy_i (dc_R_isHouse (sy_rd h) a1)], h) _
  refine sy_ifc mj_d_184_5 rfl ⟨by omega, by omega⟩ (fun (c3 : ¬ ((dc_R_isHouse (sy_rd h) a1) = 0)) => ?_) (fun (c3 : ¬ ¬ ((dc_R_isHouse (sy_rd h) a1) = 0)) => ?_)
  · skip
    rw [if_neg c3]
    refine sy_st (S' := (mj_m_184, 12, [(0, .ref 234), (1, sy_i a1), (2, sy_i a2)], [sy_i a2], h)) mj_d_184_11 (fun _ _ => rfl) ?_
    refine sy_i2l mj_d_184_12 ⟨by omega, by omega⟩ ?_
    refine sy_st (S' := (mj_m_184, 14, [(0, .ref 234), (1, sy_i a1), (2, sy_i a2)], [sy_l 0, sy_l a2], h)) mj_d_184_13 (fun _ _ => rfl) ?_
    refine sy_ldc2 (n := 7) mj_d_184_14 rfl (by decide) ?_
    refine sy_cs (M' := mj_m_126) (vs := [sy_l a2, sy_l 0, sy_l 7]) (rest := []) mj_d_184_17 rfl rfl rfl rfl ⟨Nat.le_of_ble_eq_true rfl, Nat.le_of_ble_eq_true rfl, Nat.le_of_ble_eq_true rfl, Nat.le_of_ble_eq_true rfl, Nat.le_of_ble_eq_true rfl⟩ (dt_R_in (a0 := a2) (a1 := 0) (a2 := 7) hH (by omega) (by omega) (by omega) (by omega) (by omega) (by omega)) ?_
    rintro _ _ ⟨rfl, rfl, b4, b4t⟩
    have q5 := df_R_in_0 (sy_rd h) a2 0 7
    show sy_wp (mj_m_184, 20, [(0, .ref 234), (1, sy_i a1), (2, sy_i a2)], [sy_i (dc_R_in (sy_rd h) a2 0 7)], h) _
    refine sy_ifc mj_d_184_20 rfl ⟨by omega, by omega⟩ (fun (c6 : ¬ ((dc_R_in (sy_rd h) a2 0 7) = 0)) => ?_) (fun (c6 : ¬ ¬ ((dc_R_in (sy_rd h) a2 0 7) = 0)) => ?_)
    · skip
      rw [if_neg c6]
      refine sy_st (S' := (mj_m_184, 27, [(0, .ref 234), (1, sy_i a1), (2, sy_i a2)], [.ref 234], h)) mj_d_184_26 (fun _ _ => rfl) ?_
      refine sy_gf mj_d_184_27 rfl rfl (by decide) rfl hH ?_
      intro x7 ex7 bx7 tx7
      replace ex7 : x7 = sy_rd h 234 35 := ex7
      subst ex7
      refine sy_bip mj_d_184_30 (by decide) ?_
      refine sy_icm mj_d_184_32 rfl ⟨by omega, by omega⟩ ⟨by omega, by omega⟩ (fun (c8 : ¬ ((sy_rd h 234 35) = 20)) => ?_) (fun (c8 : ¬ ¬ ((sy_rd h 234 35) = 20)) => ?_)
      · skip
        rw [if_neg c8]
        refine sy_st (S' := (mj_m_184, 39, [(0, .ref 234), (1, sy_i a1), (2, sy_i a2)], [.ref 234], h)) mj_d_184_38 (fun _ _ => rfl) ?_
        refine sy_gr2 (b := 252) mj_d_184_39 rfl rfl (by decide) rfl rfl hH ?_
        refine sy_st (S' := (mj_m_184, 43, [(0, .ref 234), (1, sy_i a1), (2, sy_i a2)], [.ref 234, .ref 252], h)) mj_d_184_42 (fun _ _ => rfl) ?_
        refine sy_gf mj_d_184_43 rfl rfl (by decide) rfl hH ?_
        intro x9 ex9 bx9 tx9
        replace ex9 : x9 = sy_rd h 234 35 := ex9
        subst ex9
        refine sy_st (S' := (mj_m_184, 47, [(0, .ref 234), (1, sy_i a1), (2, sy_i a2)], [sy_i a1, sy_i (sy_rd h 234 35), .ref 252], h)) mj_d_184_46 (fun _ _ => rfl) ?_
        refine sg_ias (v := a1) mj_d_184_47 rfl (by decide) (by omega) (by omega) (ab_el_1 rfl _) hH (by omega) (by omega) ⟨by omega, by omega⟩ ?_
        intro h10 th10 eh10
        refine sy_st (S' := (mj_m_184, 49, [(0, .ref 234), (1, sy_i a1), (2, sy_i a2)], [.ref 234], h10)) mj_d_184_48 (fun _ _ => rfl) ?_
        refine sy_gr2 (b := 253) mj_d_184_49 rfl rfl (by decide) rfl rfl th10 ?_
        refine sy_st (S' := (mj_m_184, 53, [(0, .ref 234), (1, sy_i a1), (2, sy_i a2)], [.ref 234, .ref 253], h10)) mj_d_184_52 (fun _ _ => rfl) ?_
        refine sy_gf mj_d_184_53 rfl rfl (by decide) rfl th10 ?_
        intro x11 ex11 bx11 tx11
        replace ex11 : x11 = sy_rd h10 234 35 := ex11
        rw [eh10, sg_na (by decide)] at ex11
        subst ex11
        refine sy_st (S' := (mj_m_184, 57, [(0, .ref 234), (1, sy_i a1), (2, sy_i a2)], [sy_i a2, sy_i (sy_rd h 234 35), .ref 253], h10)) mj_d_184_56 (fun _ _ => rfl) ?_
        refine sg_ias (v := a2) mj_d_184_57 rfl (by decide) (by omega) (by omega) (ab_el_1 rfl _) th10 (by omega) (by omega) ⟨by omega, by omega⟩ ?_
        intro h12 th12 eh12
        rw [eh10] at eh12
        refine sy_st (S' := (mj_m_184, 59, [(0, .ref 234), (1, sy_i a1), (2, sy_i a2)], [.ref 234], h12)) mj_d_184_58 (fun _ _ => rfl) ?_
        refine sy_st (S' := (mj_m_184, 60, [(0, .ref 234), (1, sy_i a1), (2, sy_i a2)], [.ref 234, .ref 234], h12)) mj_d_184_59 (fun _ _ => rfl) ?_
        refine sy_gf mj_d_184_60 rfl rfl (by decide) rfl th12 ?_
        intro x13 ex13 bx13 tx13
        replace ex13 : x13 = sy_rd h12 234 35 := ex13
        rw [eh12, sg_na (by decide), sg_na (by decide)] at ex13
        subst ex13
        refine sy_st (S' := (mj_m_184, 64, [(0, .ref 234), (1, sy_i a1), (2, sy_i a2)], [sy_i 1, sy_i (sy_rd h 234 35), .ref 234], h12)) mj_d_184_63 (fun _ _ => rfl) ?_
        refine sy_add mj_d_184_64 ?_
        refine sg_pf (z := ((sy_rd h 234 35) + 1)) mj_d_184_65 rfl rfl (by decide) (Or.inl rfl) rfl th12 (by omega) (by omega) ⟨by omega, by omega⟩ ?_
        intro h14 th14 eh14
        rw [eh12] at eh14
        refine sy_st (S' := (mj_m_184, 69, [(0, .ref 234), (1, sy_i a1), (2, sy_i a2)], [.ref 234], h14)) mj_d_184_68 (fun _ _ => rfl) ?_
        refine sy_gf mj_d_184_69 rfl rfl (by decide) rfl th14 ?_
        intro x15 ex15 bx15 tx15
        replace ex15 : x15 = sy_rd h14 234 35 := ex15
        rw [eh14, sg_eq] at ex15
        subst ex15
        exact sy_reti mj_d_184_72 rfl ⟨th14, eh14, rfl, by omega, by omega⟩
      · skip
        rw [if_pos (Decidable.not_not.mp c8)]
        replace c8 := Decidable.not_not.mp c8
        refine sy_ldc (n := -1000000004) mj_d_184_35 rfl (by decide) ?_
        exact sy_reti mj_d_184_37 rfl ⟨hH, rfl, rfl, by omega, by omega⟩
    · skip
      rw [if_pos (Decidable.not_not.mp c6)]
      replace c6 := Decidable.not_not.mp c6
      refine sy_ldc (n := -1000000002) mj_d_184_23 rfl (by decide) ?_
      exact sy_reti mj_d_184_25 rfl ⟨hH, rfl, rfl, by omega, by omega⟩
  · skip
    rw [if_pos (Decidable.not_not.mp c3)]
    replace c3 := Decidable.not_not.mp c3
    refine sy_ldc (n := -1000000001) mj_d_184_8 rfl (by decide) ?_
    exact sy_reti mj_d_184_10 rfl ⟨hH, rfl, rfl, by omega, by omega⟩
def dc_R_judge_2 (n : Nat) : sg_S → Int → Int := Nat.rec (fun (s : sg_S) l1 => 0) (fun _ ih => fun s l1 => (if (s 234 35) ≤ l1 then (-1) else (if (dc_R_newestOf s (s 252 ((l1).toNat))) = (s 253 ((l1).toNat)) then (ih s (l1 + 1)) else l1))) n
theorem dc_R_judge_2_s (n : Nat) (s : sg_S) (l1 : Int) : dc_R_judge_2 (n + 1) s l1 = (if (s 234 35) ≤ l1 then (-1) else (if (dc_R_newestOf s (s 252 ((l1).toNat))) = (s 253 ((l1).toNat)) then ((dc_R_judge_2 n) s (l1 + 1)) else l1)) := rfl
def dc_R_judge (s : sg_S) : Int := (dc_R_judge_2 21 s 0)
set_option maxRecDepth 100000 in
theorem dt_R_judge_2 : ∀ (n : Nat) {h : mj_H} (hH : sy_H h) {l1 : Int} (b_l1 : 0 ≤ l1) (t_l1 : l1 ≤ 20) (hm : 20 - l1 < (n : Int)), sy_wp (mj_m_185, 2, [(0, .ref 234), (1, sy_i l1)], [], h) (dq1 h (-1) (19) (dc_R_judge_2 n (sy_rd h) l1)) := by
  intro n
  induction n with
  | zero =>
    intro h hH l1 b_l1 t_l1 hm
    exact absurd hm (by omega)
  | succ n ih =>
    intro h hH l1 b_l1 t_l1 hm
    rw [dc_R_judge_2_s]
    refine sy_st (S' := (mj_m_185, 3, [(0, .ref 234), (1, sy_i l1)], [sy_i l1], h)) mj_d_185_2 (fun _ _ => rfl) ?_
    refine sy_st (S' := (mj_m_185, 4, [(0, .ref 234), (1, sy_i l1)], [.ref 234, sy_i l1], h)) mj_d_185_3 (fun _ _ => rfl) ?_
    refine sy_gf mj_d_185_4 rfl rfl (by decide) rfl hH ?_
    intro x1 ex1 bx1 tx1
    replace ex1 : x1 = sy_rd h 234 35 := ex1
    subst ex1
    refine sy_icm mj_d_185_7 rfl ⟨by omega, by omega⟩ ⟨by omega, by omega⟩ (fun (c2 : (sy_rd h 234 35) ≤ l1) => ?_) (fun (c2 : ¬ ((sy_rd h 234 35) ≤ l1)) => ?_)
    · skip
      rw [if_pos c2]
      refine sy_st (S' := (mj_m_185, 38, [(0, .ref 234), (1, sy_i l1)], [sy_i (-1)], h)) mj_d_185_37 (fun _ _ => rfl) ?_
      exact sy_reti mj_d_185_38 rfl ⟨rfl, rfl, by omega, by omega⟩
    · skip
      rw [if_neg c2]
      refine sy_st (S' := (mj_m_185, 11, [(0, .ref 234), (1, sy_i l1)], [.ref 234], h)) mj_d_185_10 (fun _ _ => rfl) ?_
      refine sy_st (S' := (mj_m_185, 12, [(0, .ref 234), (1, sy_i l1)], [.ref 234, .ref 234], h)) mj_d_185_11 (fun _ _ => rfl) ?_
      refine sy_gr2 (b := 252) mj_d_185_12 rfl rfl (by decide) rfl rfl hH ?_
      refine sy_st (S' := (mj_m_185, 16, [(0, .ref 234), (1, sy_i l1)], [sy_i l1, .ref 252, .ref 234], h)) mj_d_185_15 (fun _ _ => rfl) ?_
      refine sy_ia mj_d_185_16 rfl (by decide) (by omega) (by omega) (ab_el_1 rfl _) hH ?_
      rintro _ rfl bx3 tx3
      refine sy_cv (M' := mj_m_142) (vs := [.ref 234, sy_i (sy_rd h 252 ((l1).toNat))]) (rest := []) mj_d_185_17 rfl rfl rfl rfl hH rfl rfl ⟨by decide, ⟨Nat.le_of_ble_eq_true rfl, Nat.le_of_ble_eq_true rfl, Nat.le_of_ble_eq_true rfl, Nat.le_of_ble_eq_true rfl, Nat.le_of_ble_eq_true rfl⟩⟩ (dt_R_newestOf (a1 := (sy_rd h 252 ((l1).toNat))) hH (by omega) (by omega)) ?_
      rintro _ _ ⟨rfl, rfl, b4, b4t⟩
      show sy_wp (mj_m_185, 20, [(0, .ref 234), (1, sy_i l1)], [sy_i (dc_R_newestOf (sy_rd h) (sy_rd h 252 ((l1).toNat)))], h) _
      refine sy_st (S' := (mj_m_185, 21, [(0, .ref 234), (1, sy_i l1)], [.ref 234, sy_i (dc_R_newestOf (sy_rd h) (sy_rd h 252 ((l1).toNat)))], h)) mj_d_185_20 (fun _ _ => rfl) ?_
      refine sy_gr2 (b := 253) mj_d_185_21 rfl rfl (by decide) rfl rfl hH ?_
      refine sy_st (S' := (mj_m_185, 25, [(0, .ref 234), (1, sy_i l1)], [sy_i l1, .ref 253, sy_i (dc_R_newestOf (sy_rd h) (sy_rd h 252 ((l1).toNat)))], h)) mj_d_185_24 (fun _ _ => rfl) ?_
      refine sy_ia mj_d_185_25 rfl (by decide) (by omega) (by omega) (ab_el_1 rfl _) hH ?_
      rintro _ rfl bx5 tx5
      refine sy_icm mj_d_185_26 rfl ⟨by omega, by omega⟩ ⟨by omega, by omega⟩ (fun (c6 : (dc_R_newestOf (sy_rd h) (sy_rd h 252 ((l1).toNat))) = (sy_rd h 253 ((l1).toNat))) => ?_) (fun (c6 : ¬ ((dc_R_newestOf (sy_rd h) (sy_rd h 252 ((l1).toNat))) = (sy_rd h 253 ((l1).toNat)))) => ?_)
      · skip
        rw [if_pos c6]
        refine sy_inc (a := l1) (lv' := [(1, sy_i (l1 + 1)), (0, .ref 234)]) mj_d_185_31 (Nat.le_of_ble_eq_true rfl) rfl rfl ?_
        refine sy_st (S' := (mj_m_185, 2, [(1, sy_i (l1 + 1)), (0, .ref 234)], [], h)) mj_d_185_34 (fun _ _ => rfl) ?_
        refine sy_lv (lv := [(0, .ref 234), (1, sy_i (l1 + 1))]) rfl ⟨rfl, rfl, trivial⟩ ?_
        exact ih hH (by first | omega | assumption) (by first | omega | assumption) (by omega)
      · skip
        rw [if_neg c6]
        refine sy_st (S' := (mj_m_185, 30, [(0, .ref 234), (1, sy_i l1)], [sy_i l1], h)) mj_d_185_29 (fun _ _ => rfl) ?_
        exact sy_reti mj_d_185_30 rfl ⟨rfl, rfl, by omega, by omega⟩
set_option maxRecDepth 100000 in
theorem dt_R_judge {h : mj_H} (hH : sy_H h) : sy_wp (mj_m_185, 0, [(0, .ref 234)], [], h) (dq1 h (-1) (19) (dc_R_judge (sy_rd h))) := by
  unfold dc_R_judge
  refine sy_st (S' := (mj_m_185, 1, [(0, .ref 234)], [sy_i 0], h)) mj_d_185_0 (fun _ _ => rfl) ?_
  refine sy_st (S' := (mj_m_185, 2, [(1, sy_i 0), (0, .ref 234)], [], h)) mj_d_185_1 (fun _ _ => rfl) ?_
  refine sy_lv (lv := [(0, .ref 234), (1, sy_i 0)]) rfl ⟨rfl, rfl, trivial⟩ ?_
  exact dt_R_judge_2 21 hH (by first | omega | assumption) (by first | omega | assumption) (by omega)
def dc_R_tear (s : sg_S) : sg_S × Int := ((sg_up (sg_up s 234 31 0) 234 35 0), ((s 234 31) + (s 234 35)))
def dw_R_tear (a k : Nat) : Bool := (a == 234 && k == 31) || (a == 234 && k == 35)
theorem dr_R_tear (s : sg_S) (a k : Nat) (h : dw_R_tear a k = false) : (dc_R_tear s).1 a k = s a k := by
  have h0 := h
  unfold dw_R_tear at h
  simp only [Bool.or_eq_false_iff] at h
  obtain ⟨h1, h2⟩ := h
  unfold dc_R_tear
  (repeat' split) <;> simp only [(fun s z => sg_upf (s := s) (z := z) h1), (fun s z => sg_upf (s := s) (z := z) h2)]
set_option maxRecDepth 100000 in
theorem dt_R_tear {h : mj_H} (hH : sy_H h) : sy_wp (mj_m_186, 0, [(0, .ref 234)], [], h) (dq2 (-2147483648) (2147483647) (dc_R_tear (sy_rd h))) := by
  unfold dc_R_tear
  refine sy_st (S' := (mj_m_186, 1, [(0, .ref 234)], [.ref 234], h)) mj_d_186_0 (fun _ _ => rfl) ?_
  refine sy_gf mj_d_186_1 rfl rfl (by decide) rfl hH ?_
  intro x1 ex1 bx1 tx1
  replace ex1 : x1 = sy_rd h 234 31 := ex1
  subst ex1
  refine sy_st (S' := (mj_m_186, 5, [(0, .ref 234)], [.ref 234, sy_i (sy_rd h 234 31)], h)) mj_d_186_4 (fun _ _ => rfl) ?_
  refine sy_gf mj_d_186_5 rfl rfl (by decide) rfl hH ?_
  intro x2 ex2 bx2 tx2
  replace ex2 : x2 = sy_rd h 234 35 := ex2
  subst ex2
  refine sy_add mj_d_186_8 ?_
  refine sy_st (S' := (mj_m_186, 10, [(1, sy_i ((sy_rd h 234 31) + (sy_rd h 234 35))), (0, .ref 234)], [], h)) mj_d_186_9 (fun _ _ => rfl) ?_
  refine sy_st (S' := (mj_m_186, 11, [(1, sy_i ((sy_rd h 234 31) + (sy_rd h 234 35))), (0, .ref 234)], [.ref 234], h)) mj_d_186_10 (fun _ _ => rfl) ?_
  refine sy_st (S' := (mj_m_186, 12, [(1, sy_i ((sy_rd h 234 31) + (sy_rd h 234 35))), (0, .ref 234)], [sy_i 0, .ref 234], h)) mj_d_186_11 (fun _ _ => rfl) ?_
  refine sg_pf (z := 0) mj_d_186_12 rfl rfl (by decide) (Or.inl rfl) rfl hH (by omega) (by omega) ⟨by omega, by omega⟩ ?_
  intro h3 th3 eh3
  refine sy_st (S' := (mj_m_186, 16, [(1, sy_i ((sy_rd h 234 31) + (sy_rd h 234 35))), (0, .ref 234)], [.ref 234], h3)) mj_d_186_15 (fun _ _ => rfl) ?_
  refine sy_st (S' := (mj_m_186, 17, [(1, sy_i ((sy_rd h 234 31) + (sy_rd h 234 35))), (0, .ref 234)], [sy_i 0, .ref 234], h3)) mj_d_186_16 (fun _ _ => rfl) ?_
  refine sg_pf (z := 0) mj_d_186_17 rfl rfl (by decide) (Or.inl rfl) rfl th3 (by omega) (by omega) ⟨by omega, by omega⟩ ?_
  intro h4 th4 eh4
  rw [eh3] at eh4
  refine sy_st (S' := (mj_m_186, 21, [(1, sy_i ((sy_rd h 234 31) + (sy_rd h 234 35))), (0, .ref 234)], [sy_i ((sy_rd h 234 31) + (sy_rd h 234 35))], h4)) mj_d_186_20 (fun _ _ => rfl) ?_
  exact sy_reti mj_d_186_21 rfl ⟨th4, eh4, rfl, by omega, by omega⟩
def dc_R_seed (s : sg_S) (a1 : Int) : sg_S × Int := (if 0 ≤ a1 then ((sg_up s 235 111 a1), (s 235 111)) else (s, (-1000000002)))
def dw_R_seed (a k : Nat) : Bool := (a == 235)
theorem dr_R_seed (s : sg_S) (a1 : Int) (a k : Nat) (h : dw_R_seed a k = false) : (dc_R_seed s a1).1 a k = s a k := by
  have h0 := h
  unfold dw_R_seed at h
  have h1 := h
  unfold dc_R_seed
  (repeat' split) <;> simp only [(fun s l z => sg_upa (s := s) (l := l) (z := z) (k := k) h1)]
set_option maxRecDepth 100000 in
theorem dt_R_seed {h : mj_H} (hH : sy_H h) {a1 : Int} (b_a1 : (-2147483648) ≤ a1) (t_a1 : a1 ≤ 2147483647) : sy_wp (mj_m_187, 0, [(0, .ref 234), (1, sy_i a1)], [], h) (dq2 (-2147483648) (2147483647) (dc_R_seed (sy_rd h) a1)) := by
  unfold dc_R_seed
  refine sy_st (S' := (mj_m_187, 1, [(0, .ref 234), (1, sy_i a1)], [sy_i a1], h)) mj_d_187_0 (fun _ _ => rfl) ?_
  refine sy_ifc mj_d_187_1 rfl ⟨by omega, by omega⟩ (fun (c1 : 0 ≤ a1) => ?_) (fun (c1 : ¬ (0 ≤ a1)) => ?_)
  · skip
    rw [if_pos c1]
    refine sy_st (S' := (mj_m_187, 8, [(0, .ref 234), (1, sy_i a1)], [.ref 234], h)) mj_d_187_7 (fun _ _ => rfl) ?_
    refine sy_gr2 (b := 235) mj_d_187_8 rfl rfl (by decide) rfl rfl hH ?_
    refine sy_bip mj_d_187_11 (by decide) ?_
    refine sg_iaN (lo := 0) (hi := 2147483647) 111 112 (by decide) mj_d_187_13 (by omega) (by omega) (by omega) (by omega) hH ?_
    intro x2 ex2 bx2 tx2
    replace ex2 : x2 = sy_rd h 235 111 := ex2
    subst ex2
    refine sy_st (S' := (mj_m_187, 15, [(2, sy_i (sy_rd h 235 111)), (0, .ref 234), (1, sy_i a1)], [], h)) mj_d_187_14 (fun _ _ => rfl) ?_
    refine sy_st (S' := (mj_m_187, 16, [(2, sy_i (sy_rd h 235 111)), (0, .ref 234), (1, sy_i a1)], [.ref 234], h)) mj_d_187_15 (fun _ _ => rfl) ?_
    refine sy_gr2 (b := 235) mj_d_187_16 rfl rfl (by decide) rfl rfl hH ?_
    refine sy_bip mj_d_187_19 (by decide) ?_
    refine sy_st (S' := (mj_m_187, 22, [(2, sy_i (sy_rd h 235 111)), (0, .ref 234), (1, sy_i a1)], [sy_i a1, sy_i 111, .ref 235], h)) mj_d_187_21 (fun _ _ => rfl) ?_
    refine sg_iasN (v := a1) (lo := 0) (hi := 2147483647) 111 112 (by decide) mj_d_187_22 (by omega) (by omega) (by omega) (by omega) (by omega) (by omega) hH ?_
    intro h3 th3 eh3
    replace eh3 : sy_rd h3 = sg_up (sy_rd h) 235 111 a1 := eh3
    refine sy_st (S' := (mj_m_187, 24, [(2, sy_i (sy_rd h 235 111)), (0, .ref 234), (1, sy_i a1)], [sy_i (sy_rd h 235 111)], h3)) mj_d_187_23 (fun _ _ => rfl) ?_
    exact sy_reti mj_d_187_24 rfl ⟨th3, eh3, rfl, by omega, by omega⟩
  · skip
    rw [if_neg c1]
    refine sy_ldc (n := -1000000002) mj_d_187_4 rfl (by decide) ?_
    exact sy_reti mj_d_187_6 rfl ⟨hH, rfl, rfl, by omega, by omega⟩
def dc_R_keep (s : sg_S) (a1 : Int) : sg_S × Int := (if (dc_R_in s a1 0 1) = 0 then (s, (-1000000001)) else ((sg_up (sg_up (dc_R_copy s 0 (224 + (112 * a1))) 236 ((a1).toNat) 1) 234 2 0), 1))
def dw_R_keep (a k : Nat) : Bool := dw_R_copy a k || (a == 236) || (a == 234 && k == 2)
theorem dr_R_keep (s : sg_S) (a1 : Int) (a k : Nat) (h : dw_R_keep a k = false) : (dc_R_keep s a1).1 a k = s a k := by
  have h0 := h
  unfold dw_R_keep at h
  simp only [Bool.or_eq_false_iff] at h
  obtain ⟨⟨h1, h2⟩, h3⟩ := h
  unfold dc_R_keep
  (repeat' split) <;> simp only [(fun s x0 x1 => dr_R_copy s x0 x1 a k h1), (fun s l z => sg_upa (s := s) (l := l) (z := z) (k := k) h2), (fun s z => sg_upf (s := s) (z := z) h3)]
set_option maxRecDepth 100000 in
theorem dt_R_keep {h : mj_H} (hH : sy_H h) {a1 : Int} (b_a1 : (-2147483648) ≤ a1) (t_a1 : a1 ≤ 2147483647) : sy_wp (mj_m_188, 0, [(0, .ref 234), (1, sy_i a1)], [], h) (dq2 (-2147483648) (2147483647) (dc_R_keep (sy_rd h) a1)) := by
  unfold dc_R_keep
  refine sy_st (S' := (mj_m_188, 1, [(0, .ref 234), (1, sy_i a1)], [sy_i a1], h)) mj_d_188_0 (fun _ _ => rfl) ?_
  refine sy_i2l mj_d_188_1 ⟨by omega, by omega⟩ ?_
  refine sy_st (S' := (mj_m_188, 3, [(0, .ref 234), (1, sy_i a1)], [sy_l 0, sy_l a1], h)) mj_d_188_2 (fun _ _ => rfl) ?_
  refine sy_st (S' := (mj_m_188, 4, [(0, .ref 234), (1, sy_i a1)], [sy_l 1, sy_l 0, sy_l a1], h)) mj_d_188_3 (fun _ _ => rfl) ?_
  refine sy_cs (M' := mj_m_126) (vs := [sy_l a1, sy_l 0, sy_l 1]) (rest := []) mj_d_188_4 rfl rfl rfl rfl ⟨Nat.le_of_ble_eq_true rfl, Nat.le_of_ble_eq_true rfl, Nat.le_of_ble_eq_true rfl, Nat.le_of_ble_eq_true rfl, Nat.le_of_ble_eq_true rfl⟩ (dt_R_in (a0 := a1) (a1 := 0) (a2 := 1) hH (by omega) (by omega) (by omega) (by omega) (by omega) (by omega)) ?_
  rintro _ _ ⟨rfl, rfl, b1, b1t⟩
  have q2 := df_R_in_0 (sy_rd h) a1 0 1
  show sy_wp (mj_m_188, 7, [(0, .ref 234), (1, sy_i a1)], [sy_i (dc_R_in (sy_rd h) a1 0 1)], h) _
  refine sy_ifc mj_d_188_7 rfl ⟨by omega, by omega⟩ (fun (c3 : ¬ ((dc_R_in (sy_rd h) a1 0 1) = 0)) => ?_) (fun (c3 : ¬ ¬ ((dc_R_in (sy_rd h) a1 0 1) = 0)) => ?_)
  · skip
    rw [if_neg c3]
    refine sy_st (S' := (mj_m_188, 14, [(0, .ref 234), (1, sy_i a1)], [.ref 234], h)) mj_d_188_13 (fun _ _ => rfl) ?_
    refine sy_st (S' := (mj_m_188, 15, [(0, .ref 234), (1, sy_i a1)], [sy_i 0, .ref 234], h)) mj_d_188_14 (fun _ _ => rfl) ?_
    refine sy_sip mj_d_188_15 (by decide) ?_
    refine sy_bip mj_d_188_18 (by decide) ?_
    refine sy_st (S' := (mj_m_188, 21, [(0, .ref 234), (1, sy_i a1)], [sy_i a1, sy_i 112, sy_i 224, sy_i 0, .ref 234], h)) mj_d_188_20 (fun _ _ => rfl) ?_
    refine sy_mul mj_d_188_21 ?_
    refine sy_add mj_d_188_22 ?_
    refine sy_cv (M' := mj_m_149) (vs := [.ref 234, sy_i 0, sy_i (224 + (112 * a1))]) (rest := []) mj_d_188_23 rfl rfl rfl rfl hH rfl rfl ⟨by decide, ⟨Nat.le_of_ble_eq_true rfl, Nat.le_of_ble_eq_true rfl, Nat.le_of_ble_eq_true rfl, Nat.le_of_ble_eq_true rfl, Nat.le_of_ble_eq_true rfl⟩⟩ (dt_R_copy (a1 := 0) (a2 := (224 + (112 * a1))) hH (by omega) (by omega) (by omega) (by omega) (by first | omega | assumption) (by first | omega | assumption)) ?_
    rintro _ h4 ⟨rfl, th4, eh4⟩
    show sy_wp (mj_m_188, 26, [(0, .ref 234), (1, sy_i a1)], [], h4) _
    refine sy_st (S' := (mj_m_188, 27, [(0, .ref 234), (1, sy_i a1)], [.ref 234], h4)) mj_d_188_26 (fun _ _ => rfl) ?_
    refine sy_gr2 (b := 236) mj_d_188_27 rfl rfl (by decide) rfl rfl th4 ?_
    refine sy_st (S' := (mj_m_188, 31, [(0, .ref 234), (1, sy_i a1)], [sy_i a1, .ref 236], h4)) mj_d_188_30 (fun _ _ => rfl) ?_
    refine sy_st (S' := (mj_m_188, 32, [(0, .ref 234), (1, sy_i a1)], [sy_i 1, sy_i a1, .ref 236], h4)) mj_d_188_31 (fun _ _ => rfl) ?_
    refine sg_bas (v := 1) mj_d_188_32 rfl (by decide) (by omega) (by omega) (ab_el_1 rfl _) th4 (by omega) (by omega) ⟨by omega, by omega⟩ ?_
    intro h6 th6 eh6
    rw [eh4] at eh6
    refine sy_st (S' := (mj_m_188, 34, [(0, .ref 234), (1, sy_i a1)], [.ref 234], h6)) mj_d_188_33 (fun _ _ => rfl) ?_
    refine sy_st (S' := (mj_m_188, 35, [(0, .ref 234), (1, sy_i a1)], [sy_i 0, .ref 234], h6)) mj_d_188_34 (fun _ _ => rfl) ?_
    refine sg_pf (z := 0) mj_d_188_35 rfl rfl (by decide) (Or.inl rfl) rfl th6 (by omega) (by omega) ⟨by omega, by omega⟩ ?_
    intro h7 th7 eh7
    rw [eh6] at eh7
    refine sy_st (S' := (mj_m_188, 39, [(0, .ref 234), (1, sy_i a1)], [sy_i 1], h7)) mj_d_188_38 (fun _ _ => rfl) ?_
    exact sy_reti mj_d_188_39 rfl ⟨th7, eh7, rfl, by omega, by omega⟩
  · skip
    rw [if_pos (Decidable.not_not.mp c3)]
    replace c3 := Decidable.not_not.mp c3
    refine sy_ldc (n := -1000000001) mj_d_188_10 rfl (by decide) ?_
    exact sy_reti mj_d_188_12 rfl ⟨hH, rfl, rfl, by omega, by omega⟩
def dc_R_goBack (s : sg_S) (a1 : Int) : sg_S × Int := (if (dc_R_in s a1 0 1) = 0 then (s, (-1000000001)) else (if (s 236 ((a1).toNat)) = 0 then (s, (-1000000003)) else ((sg_up (dc_R_copy s (224 + (112 * a1)) 0) 234 2 0), 1)))
def dw_R_goBack (a k : Nat) : Bool := dw_R_copy a k || (a == 234 && k == 2)
theorem dr_R_goBack (s : sg_S) (a1 : Int) (a k : Nat) (h : dw_R_goBack a k = false) : (dc_R_goBack s a1).1 a k = s a k := by
  have h0 := h
  unfold dw_R_goBack at h
  simp only [Bool.or_eq_false_iff] at h
  obtain ⟨h1, h2⟩ := h
  unfold dc_R_goBack
  (repeat' split) <;> simp only [(fun s x0 x1 => dr_R_copy s x0 x1 a k h1), (fun s z => sg_upf (s := s) (z := z) h2)]
set_option maxRecDepth 100000 in
theorem dt_R_goBack {h : mj_H} (hH : sy_H h) {a1 : Int} (b_a1 : (-2147483648) ≤ a1) (t_a1 : a1 ≤ 2147483647) : sy_wp (mj_m_189, 0, [(0, .ref 234), (1, sy_i a1)], [], h) (dq2 (-2147483648) (2147483647) (dc_R_goBack (sy_rd h) a1)) := by
  unfold dc_R_goBack
  refine sy_st (S' := (mj_m_189, 1, [(0, .ref 234), (1, sy_i a1)], [sy_i a1], h)) mj_d_189_0 (fun _ _ => rfl) ?_
  refine sy_i2l mj_d_189_1 ⟨by omega, by omega⟩ ?_
  refine sy_st (S' := (mj_m_189, 3, [(0, .ref 234), (1, sy_i a1)], [sy_l 0, sy_l a1], h)) mj_d_189_2 (fun _ _ => rfl) ?_
  refine sy_st (S' := (mj_m_189, 4, [(0, .ref 234), (1, sy_i a1)], [sy_l 1, sy_l 0, sy_l a1], h)) mj_d_189_3 (fun _ _ => rfl) ?_
  refine sy_cs (M' := mj_m_126) (vs := [sy_l a1, sy_l 0, sy_l 1]) (rest := []) mj_d_189_4 rfl rfl rfl rfl ⟨Nat.le_of_ble_eq_true rfl, Nat.le_of_ble_eq_true rfl, Nat.le_of_ble_eq_true rfl, Nat.le_of_ble_eq_true rfl, Nat.le_of_ble_eq_true rfl⟩ (dt_R_in (a0 := a1) (a1 := 0) (a2 := 1) hH (by omega) (by omega) (by omega) (by omega) (by omega) (by omega)) ?_
  rintro _ _ ⟨rfl, rfl, b1, b1t⟩
  have q2 := df_R_in_0 (sy_rd h) a1 0 1
  show sy_wp (mj_m_189, 7, [(0, .ref 234), (1, sy_i a1)], [sy_i (dc_R_in (sy_rd h) a1 0 1)], h) _
  refine sy_ifc mj_d_189_7 rfl ⟨by omega, by omega⟩ (fun (c3 : ¬ ((dc_R_in (sy_rd h) a1 0 1) = 0)) => ?_) (fun (c3 : ¬ ¬ ((dc_R_in (sy_rd h) a1 0 1) = 0)) => ?_)
  · skip
    rw [if_neg c3]
    refine sy_st (S' := (mj_m_189, 14, [(0, .ref 234), (1, sy_i a1)], [.ref 234], h)) mj_d_189_13 (fun _ _ => rfl) ?_
    refine sy_gr2 (b := 236) mj_d_189_14 rfl rfl (by decide) rfl rfl hH ?_
    refine sy_st (S' := (mj_m_189, 18, [(0, .ref 234), (1, sy_i a1)], [sy_i a1, .ref 236], h)) mj_d_189_17 (fun _ _ => rfl) ?_
    refine sy_ba mj_d_189_18 rfl (by decide) (by omega) (by omega) (ab_el_1 rfl _) hH ?_
    rintro _ rfl bx4 tx4
    refine sy_ifc mj_d_189_19 rfl ⟨by omega, by omega⟩ (fun (c5 : ¬ ((sy_rd h 236 ((a1).toNat)) = 0)) => ?_) (fun (c5 : ¬ ¬ ((sy_rd h 236 ((a1).toNat)) = 0)) => ?_)
    · skip
      rw [if_neg c5]
      refine sy_st (S' := (mj_m_189, 26, [(0, .ref 234), (1, sy_i a1)], [.ref 234], h)) mj_d_189_25 (fun _ _ => rfl) ?_
      refine sy_sip mj_d_189_26 (by decide) ?_
      refine sy_bip mj_d_189_29 (by decide) ?_
      refine sy_st (S' := (mj_m_189, 32, [(0, .ref 234), (1, sy_i a1)], [sy_i a1, sy_i 112, sy_i 224, .ref 234], h)) mj_d_189_31 (fun _ _ => rfl) ?_
      refine sy_mul mj_d_189_32 ?_
      refine sy_add mj_d_189_33 ?_
      refine sy_st (S' := (mj_m_189, 35, [(0, .ref 234), (1, sy_i a1)], [sy_i 0, sy_i (224 + (112 * a1)), .ref 234], h)) mj_d_189_34 (fun _ _ => rfl) ?_
      refine sy_cv (M' := mj_m_149) (vs := [.ref 234, sy_i (224 + (112 * a1)), sy_i 0]) (rest := []) mj_d_189_35 rfl rfl rfl rfl hH rfl rfl ⟨by decide, ⟨Nat.le_of_ble_eq_true rfl, Nat.le_of_ble_eq_true rfl, Nat.le_of_ble_eq_true rfl, Nat.le_of_ble_eq_true rfl, Nat.le_of_ble_eq_true rfl⟩⟩ (dt_R_copy (a1 := (224 + (112 * a1))) (a2 := 0) hH (by omega) (by omega) (by omega) (by omega) (by first | omega | assumption) (by first | omega | assumption)) ?_
      rintro _ h6 ⟨rfl, th6, eh6⟩
      show sy_wp (mj_m_189, 38, [(0, .ref 234), (1, sy_i a1)], [], h6) _
      refine sy_st (S' := (mj_m_189, 39, [(0, .ref 234), (1, sy_i a1)], [.ref 234], h6)) mj_d_189_38 (fun _ _ => rfl) ?_
      refine sy_st (S' := (mj_m_189, 40, [(0, .ref 234), (1, sy_i a1)], [sy_i 0, .ref 234], h6)) mj_d_189_39 (fun _ _ => rfl) ?_
      refine sg_pf (z := 0) mj_d_189_40 rfl rfl (by decide) (Or.inl rfl) rfl th6 (by omega) (by omega) ⟨by omega, by omega⟩ ?_
      intro h8 th8 eh8
      rw [eh6] at eh8
      refine sy_st (S' := (mj_m_189, 44, [(0, .ref 234), (1, sy_i a1)], [sy_i 1], h8)) mj_d_189_43 (fun _ _ => rfl) ?_
      exact sy_reti mj_d_189_44 rfl ⟨th8, eh8, rfl, by omega, by omega⟩
    · skip
      rw [if_pos (Decidable.not_not.mp c5)]
      replace c5 := Decidable.not_not.mp c5
      refine sy_ldc (n := -1000000003) mj_d_189_22 rfl (by decide) ?_
      exact sy_reti mj_d_189_24 rfl ⟨hH, rfl, rfl, by omega, by omega⟩
  · skip
    rw [if_pos (Decidable.not_not.mp c3)]
    replace c3 := Decidable.not_not.mp c3
    refine sy_ldc (n := -1000000001) mj_d_189_10 rfl (by decide) ?_
    exact sy_reti mj_d_189_12 rfl ⟨hH, rfl, rfl, by omega, by omega⟩
