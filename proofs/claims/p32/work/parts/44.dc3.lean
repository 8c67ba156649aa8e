def mj_m_30 : mj_M := (⟨"SootMaps$Streets", "begin", "(LSootMaps$Plan;)V"⟩, prog_10_method_3_code, 3, none, 7, 1, 1, 1, 26)
def mj_m_31 : mj_M := (⟨"SootMaps$Past", "forget", "()V"⟩, prog_5_method_2_code, 1, none, 3, 0, 1, 0, 0)
def mj_m_32 : mj_M := (⟨"SootMaps$Images", "forget", "()V"⟩, prog_4_method_2_code, 2, none, 2, 0, 1, 0, 0)
def mj_m_35 : mj_M := (⟨"SootMaps$Streets", "layersOfAll", "()I"⟩, prog_10_method_4_code, 3, (some .int), 7, 0, 1, 2, 43)
def mj_m_47 : mj_M := (⟨"SootMaps$Past", "remember", "(LSootMaps$Streets;)V"⟩, prog_5_method_3_code, 2, none, 3, 1, 1, 2, 47)
def mj_m_50 : mj_M := (⟨"SootMaps$Streets", "passMonth", "(LSootMaps$Plan;)V"⟩, prog_10_method_5_code, 3, none, 7, 1, 1, 2, 46)
def mj_m_51 : mj_M := (⟨"SootMaps$Streets", "burnIn", "(ILSootMaps$Plan;)V"⟩, prog_10_method_6_code, 5, none, 7, 2, 1, 1, 22)
def mj_m_56 : mj_M := (⟨"SootMaps$Streets", "washOff", "(I)I"⟩, prog_10_method_7_code, 4, (some .int), 7, 1, 1, 3, 65)
def mj_m_62 : mj_M := (⟨"SootMaps$Streets", "canGive", "(III)Z"⟩, prog_10_method_8_code, 4, (some .boolean), 7, 3, 1, 0, 0)
def mj_m_63 : mj_M := (⟨"SootMaps$Streets", "learn", "(II)V"⟩, prog_10_method_10_code, 3, none, 7, 2, 1, 0, 0)
def mj_m_69 : mj_M := (⟨"SootMaps$Past", "bringBack", "(ILSootMaps$Streets;)V"⟩, prog_5_method_4_code, 3, none, 3, 2, 1, 2, 47)
def mj_m_72 : mj_M := (⟨"SootMaps$Streets", "down", "(I)I"⟩, prog_10_method_11_code, 5, (some .int), 7, 1, 1, 0, 0)
def mj_m_83 : mj_M := (⟨"SootMaps$Streets", "reach", "(ILSootMaps$Plan;)I"⟩, prog_10_method_12_code, 4, (some .int), 7, 2, 1, 1, 24)
def mj_m_84 : mj_M := (⟨"SootMaps$Streets", "heatOf", "(II)I"⟩, prog_10_method_13_code, 5, (some .int), 7, 2, 1, 1, 24)
def mj_m_85 : mj_M := (⟨"SootMaps$Streets", "likeOf", "(II)I"⟩, prog_10_method_14_code, 5, (some .int), 7, 2, 1, 0, 0)
def mj_m_99 : mj_M := (⟨"SootMaps$Streets", "hasNewFor", "(II)Z"⟩, prog_10_method_9_code, 3, (some .boolean), 7, 2, 1, 0, 0)
def mj_m_102 : mj_M := (⟨"SootMaps$Streets", "fluesWith", "(II)I"⟩, prog_10_method_15_code, 5, (some .int), 7, 2, 1, 2, 43)
def mj_m_107 : mj_M := (⟨"SootMaps$Sights", "add", "(IIZ)I"⟩, prog_8_method_2_code, 4, (some .int), 6, 3, 1, 0, 0)
def mj_m_110 : mj_M := (⟨"SootMaps$Sights", "allow", "(II)Z"⟩, prog_8_method_3_code, 4, (some .boolean), 6, 2, 1, 0, 0)
def mj_m_114 : mj_M := (⟨"SootMaps$Book", "add", "(II)I"⟩, prog_3_method_2_code, 3, (some .int), 1, 2, 1, 0, 0)
def mj_m_116 : mj_M := (⟨"SootMaps$Book", "firstWrong", "(LSootMaps$Streets;)I"⟩, prog_3_method_3_code, 3, (some .int), 1, 1, 1, 2, 41)
def mj_m_120 : mj_M := (⟨"SootMaps$Images", "put", "(ILSootMaps$Streets;I)V"⟩, prog_4_method_4_code, 4, none, 2, 3, 1, 2, 47)
def mj_m_122 : mj_M := (⟨"SootMaps$Images", "isKept", "(I)Z"⟩, prog_4_method_3_code, 2, (some .boolean), 2, 1, 1, 0, 0)
def mj_m_123 : mj_M := (⟨"SootMaps$Images", "bringBack", "(ILSootMaps$Streets;)I"⟩, prog_4_method_5_code, 3, (some .int), 2, 2, 1, 2, 47)
theorem mj_d_30_0 : decode mj_m_30.2.1 0 = .ok (.aload_n 1, 1) := by decide +kernel
theorem mj_d_30_1 : decode mj_m_30.2.1 1 = .ok (.getfield 40, 3) := by decide +kernel
theorem mj_d_30_4 : decode mj_m_30.2.1 4 = .ok (.iconst 0, 1) := by decide +kernel
theorem mj_d_30_5 : decode mj_m_30.2.1 5 = .ok (.aload_n 0, 1) := by decide +kernel
theorem mj_d_30_6 : decode mj_m_30.2.1 6 = .ok (.getfield 15, 3) := by decide +kernel
theorem mj_d_30_9 : decode mj_m_30.2.1 9 = .ok (.iconst 0, 1) := by decide +kernel
theorem mj_d_30_10 : decode mj_m_30.2.1 10 = .ok (.bipush 9, 2) := by decide +kernel
theorem mj_d_30_12 : decode mj_m_30.2.1 12 = .ok (.invokestatic 27, 3) := by decide +kernel
theorem mj_d_30_15 : decode mj_m_30.2.1 15 = .ok (.aload_n 1, 1) := by decide +kernel
theorem mj_d_30_16 : decode mj_m_30.2.1 16 = .ok (.getfield 43, 3) := by decide +kernel
theorem mj_d_30_19 : decode mj_m_30.2.1 19 = .ok (.iconst 0, 1) := by decide +kernel
theorem mj_d_30_20 : decode mj_m_30.2.1 20 = .ok (.aload_n 0, 1) := by decide +kernel
theorem mj_d_30_21 : decode mj_m_30.2.1 21 = .ok (.getfield 18, 3) := by decide +kernel
theorem mj_d_30_24 : decode mj_m_30.2.1 24 = .ok (.iconst 0, 1) := by decide +kernel
theorem mj_d_30_25 : decode mj_m_30.2.1 25 = .ok (.bipush 9, 2) := by decide +kernel
theorem mj_d_30_27 : decode mj_m_30.2.1 27 = .ok (.invokestatic 27, 3) := by decide +kernel
theorem mj_d_30_30 : decode mj_m_30.2.1 30 = .ok (.aload_n 1, 1) := by decide +kernel
theorem mj_d_30_31 : decode mj_m_30.2.1 31 = .ok (.getfield 44, 3) := by decide +kernel
theorem mj_d_30_34 : decode mj_m_30.2.1 34 = .ok (.iconst 0, 1) := by decide +kernel
theorem mj_d_30_35 : decode mj_m_30.2.1 35 = .ok (.aload_n 0, 1) := by decide +kernel
theorem mj_d_30_36 : decode mj_m_30.2.1 36 = .ok (.getfield 21, 3) := by decide +kernel
theorem mj_d_30_39 : decode mj_m_30.2.1 39 = .ok (.iconst 0, 1) := by decide +kernel
theorem mj_d_30_40 : decode mj_m_30.2.1 40 = .ok (.iconst 5, 1) := by decide +kernel
theorem mj_d_30_41 : decode mj_m_30.2.1 41 = .ok (.invokestatic 27, 3) := by decide +kernel
theorem mj_d_30_44 : decode mj_m_30.2.1 44 = .ok (.iconst 0, 1) := by decide +kernel
theorem mj_d_30_45 : decode mj_m_30.2.1 45 = .ok (.istore_n 2, 1) := by decide +kernel
theorem mj_d_30_46 : decode mj_m_30.2.1 46 = .ok (.iload_n 2, 1) := by decide +kernel
theorem mj_d_30_47 : decode mj_m_30.2.1 47 = .ok (.bipush 9, 2) := by decide +kernel
theorem mj_d_30_49 : decode mj_m_30.2.1 49 = .ok (.if_icmp .ge 16, 3) := by decide +kernel
theorem mj_d_30_52 : decode mj_m_30.2.1 52 = .ok (.aload_n 0, 1) := by decide +kernel
theorem mj_d_30_53 : decode mj_m_30.2.1 53 = .ok (.getfield 9, 3) := by decide +kernel
theorem mj_d_30_56 : decode mj_m_30.2.1 56 = .ok (.iload_n 2, 1) := by decide +kernel
theorem mj_d_30_57 : decode mj_m_30.2.1 57 = .ok (.iconst 0, 1) := by decide +kernel
theorem mj_d_30_58 : decode mj_m_30.2.1 58 = .ok (.iastore, 1) := by decide +kernel
theorem mj_d_30_59 : decode mj_m_30.2.1 59 = .ok (.iinc 2 1, 3) := by decide +kernel
theorem mj_d_30_62 : decode mj_m_30.2.1 62 = .ok (.goto (-16), 3) := by decide +kernel
theorem mj_d_30_65 : decode mj_m_30.2.1 65 = .ok (.iconst 0, 1) := by decide +kernel
theorem mj_d_30_66 : decode mj_m_30.2.1 66 = .ok (.istore_n 2, 1) := by decide +kernel
theorem mj_d_30_67 : decode mj_m_30.2.1 67 = .ok (.iload_n 2, 1) := by decide +kernel
theorem mj_d_30_68 : decode mj_m_30.2.1 68 = .ok (.iconst 5, 1) := by decide +kernel
theorem mj_d_30_69 : decode mj_m_30.2.1 69 = .ok (.if_icmp .ge 16, 3) := by decide +kernel
theorem mj_d_30_72 : decode mj_m_30.2.1 72 = .ok (.aload_n 0, 1) := by decide +kernel
theorem mj_d_30_73 : decode mj_m_30.2.1 73 = .ok (.getfield 24, 3) := by decide +kernel
theorem mj_d_30_76 : decode mj_m_30.2.1 76 = .ok (.iload_n 2, 1) := by decide +kernel
theorem mj_d_30_77 : decode mj_m_30.2.1 77 = .ok (.iconst 0, 1) := by decide +kernel
theorem mj_d_30_78 : decode mj_m_30.2.1 78 = .ok (.iastore, 1) := by decide +kernel
theorem mj_d_30_79 : decode mj_m_30.2.1 79 = .ok (.iinc 2 1, 3) := by decide +kernel
theorem mj_d_30_82 : decode mj_m_30.2.1 82 = .ok (.goto (-15), 3) := by decide +kernel
theorem mj_d_30_85 : decode mj_m_30.2.1 85 = .ok (.aload_n 0, 1) := by decide +kernel
theorem mj_d_30_86 : decode mj_m_30.2.1 86 = .ok (.iconst 0, 1) := by decide +kernel
theorem mj_d_30_87 : decode mj_m_30.2.1 87 = .ok (.putfield 33, 3) := by decide +kernel
theorem mj_d_30_90 : decode mj_m_30.2.1 90 = .ok (.aload_n 0, 1) := by decide +kernel
theorem mj_d_30_91 : decode mj_m_30.2.1 91 = .ok (.iconst 0, 1) := by decide +kernel
theorem mj_d_30_92 : decode mj_m_30.2.1 92 = .ok (.putfield 37, 3) := by decide +kernel
theorem mj_d_30_95 : decode mj_m_30.2.1 95 = .ok (.return_, 1) := by decide +kernel
theorem mj_d_31_0 : decode mj_m_31.2.1 0 = .ok (.aload_n 0, 1) := by decide +kernel
theorem mj_d_31_1 : decode mj_m_31.2.1 1 = .ok (.iconst 0, 1) := by decide +kernel
theorem mj_d_31_2 : decode mj_m_31.2.1 2 = .ok (.putfield 18, 3) := by decide +kernel
theorem mj_d_31_5 : decode mj_m_31.2.1 5 = .ok (.return_, 1) := by decide +kernel
theorem mj_d_32_0 : decode mj_m_32.2.1 0 = .ok (.iconst 0, 1) := by decide +kernel
theorem mj_d_32_1 : decode mj_m_32.2.1 1 = .ok (.istore_n 1, 1) := by decide +kernel
theorem mj_d_32_2 : decode mj_m_32.2.1 2 = .ok (.iload_n 1, 1) := by decide +kernel
theorem mj_d_32_3 : decode mj_m_32.2.1 3 = .ok (.iconst 2, 1) := by decide +kernel
theorem mj_d_32_4 : decode mj_m_32.2.1 4 = .ok (.if_icmp .ge 16, 3) := by decide +kernel
theorem mj_d_32_7 : decode mj_m_32.2.1 7 = .ok (.aload_n 0, 1) := by decide +kernel
theorem mj_d_32_8 : decode mj_m_32.2.1 8 = .ok (.getfield 21, 3) := by decide +kernel
theorem mj_d_32_11 : decode mj_m_32.2.1 11 = .ok (.iload_n 1, 1) := by decide +kernel
theorem mj_d_32_12 : decode mj_m_32.2.1 12 = .ok (.iconst 0, 1) := by decide +kernel
theorem mj_d_32_13 : decode mj_m_32.2.1 13 = .ok (.bastore, 1) := by decide +kernel
theorem mj_d_32_14 : decode mj_m_32.2.1 14 = .ok (.iinc 1 1, 3) := by decide +kernel
theorem mj_d_32_17 : decode mj_m_32.2.1 17 = .ok (.goto (-15), 3) := by decide +kernel
theorem mj_d_32_20 : decode mj_m_32.2.1 20 = .ok (.return_, 1) := by decide +kernel
theorem mj_d_35_0 : decode mj_m_35.2.1 0 = .ok (.iconst 0, 1) := by decide +kernel
theorem mj_d_35_1 : decode mj_m_35.2.1 1 = .ok (.istore_n 1, 1) := by decide +kernel
theorem mj_d_35_2 : decode mj_m_35.2.1 2 = .ok (.iconst 0, 1) := by decide +kernel
theorem mj_d_35_3 : decode mj_m_35.2.1 3 = .ok (.istore_n 2, 1) := by decide +kernel
theorem mj_d_35_4 : decode mj_m_35.2.1 4 = .ok (.iload_n 2, 1) := by decide +kernel
theorem mj_d_35_5 : decode mj_m_35.2.1 5 = .ok (.bipush 9, 2) := by decide +kernel
theorem mj_d_35_7 : decode mj_m_35.2.1 7 = .ok (.if_icmp .ge 21, 3) := by decide +kernel
theorem mj_d_35_10 : decode mj_m_35.2.1 10 = .ok (.iload_n 1, 1) := by decide +kernel
theorem mj_d_35_11 : decode mj_m_35.2.1 11 = .ok (.aload_n 0, 1) := by decide +kernel
theorem mj_d_35_12 : decode mj_m_35.2.1 12 = .ok (.getfield 9, 3) := by decide +kernel
theorem mj_d_35_15 : decode mj_m_35.2.1 15 = .ok (.iload_n 2, 1) := by decide +kernel
theorem mj_d_35_16 : decode mj_m_35.2.1 16 = .ok (.iaload, 1) := by decide +kernel
theorem mj_d_35_17 : decode mj_m_35.2.1 17 = .ok (.invokestatic 45, 3) := by decide +kernel
theorem mj_d_35_20 : decode mj_m_35.2.1 20 = .ok (.iadd, 1) := by decide +kernel
theorem mj_d_35_21 : decode mj_m_35.2.1 21 = .ok (.istore_n 1, 1) := by decide +kernel
theorem mj_d_35_22 : decode mj_m_35.2.1 22 = .ok (.iinc 2 1, 3) := by decide +kernel
theorem mj_d_35_25 : decode mj_m_35.2.1 25 = .ok (.goto (-21), 3) := by decide +kernel
theorem mj_d_35_28 : decode mj_m_35.2.1 28 = .ok (.iload_n 1, 1) := by decide +kernel
theorem mj_d_35_29 : decode mj_m_35.2.1 29 = .ok (.ireturn, 1) := by decide +kernel
theorem mj_d_47_0 : decode mj_m_47.2.1 0 = .ok (.aload_n 0, 1) := by decide +kernel
theorem mj_d_47_1 : decode mj_m_47.2.1 1 = .ok (.aload_n 0, 1) := by decide +kernel
theorem mj_d_47_2 : decode mj_m_47.2.1 2 = .ok (.getfield 22, 3) := by decide +kernel
theorem mj_d_47_5 : decode mj_m_47.2.1 5 = .ok (.iconst 1, 1) := by decide +kernel
theorem mj_d_47_6 : decode mj_m_47.2.1 6 = .ok (.iadd, 1) := by decide +kernel
theorem mj_d_47_7 : decode mj_m_47.2.1 7 = .ok (.bipush 30, 2) := by decide +kernel
theorem mj_d_47_9 : decode mj_m_47.2.1 9 = .ok (.invokestatic 25, 3) := by decide +kernel
theorem mj_d_47_12 : decode mj_m_47.2.1 12 = .ok (.putfield 22, 3) := by decide +kernel
theorem mj_d_47_15 : decode mj_m_47.2.1 15 = .ok (.aload_n 0, 1) := by decide +kernel
theorem mj_d_47_16 : decode mj_m_47.2.1 16 = .ok (.getfield 11, 3) := by decide +kernel
theorem mj_d_47_19 : decode mj_m_47.2.1 19 = .ok (.aload_n 0, 1) := by decide +kernel
theorem mj_d_47_20 : decode mj_m_47.2.1 20 = .ok (.getfield 22, 3) := by decide +kernel
theorem mj_d_47_23 : decode mj_m_47.2.1 23 = .ok (.aaload, 1) := by decide +kernel
theorem mj_d_47_24 : decode mj_m_47.2.1 24 = .ok (.aload_n 1, 1) := by decide +kernel
theorem mj_d_47_25 : decode mj_m_47.2.1 25 = .ok (.invokevirtual 31, 3) := by decide +kernel
theorem mj_d_47_28 : decode mj_m_47.2.1 28 = .ok (.aload_n 0, 1) := by decide +kernel
theorem mj_d_47_29 : decode mj_m_47.2.1 29 = .ok (.aload_n 0, 1) := by decide +kernel
theorem mj_d_47_30 : decode mj_m_47.2.1 30 = .ok (.getfield 18, 3) := by decide +kernel
theorem mj_d_47_33 : decode mj_m_47.2.1 33 = .ok (.iconst 1, 1) := by decide +kernel
theorem mj_d_47_34 : decode mj_m_47.2.1 34 = .ok (.iadd, 1) := by decide +kernel
theorem mj_d_47_35 : decode mj_m_47.2.1 35 = .ok (.bipush 30, 2) := by decide +kernel
theorem mj_d_47_37 : decode mj_m_47.2.1 37 = .ok (.invokestatic 35, 3) := by decide +kernel
theorem mj_d_47_40 : decode mj_m_47.2.1 40 = .ok (.putfield 18, 3) := by decide +kernel
theorem mj_d_47_43 : decode mj_m_47.2.1 43 = .ok (.return_, 1) := by decide +kernel
theorem mj_d_50_0 : decode mj_m_50.2.1 0 = .ok (.iconst 0, 1) := by decide +kernel
theorem mj_d_50_1 : decode mj_m_50.2.1 1 = .ok (.istore_n 2, 1) := by decide +kernel
theorem mj_d_50_2 : decode mj_m_50.2.1 2 = .ok (.iload_n 2, 1) := by decide +kernel
theorem mj_d_50_3 : decode mj_m_50.2.1 3 = .ok (.aload_n 1, 1) := by decide +kernel
theorem mj_d_50_4 : decode mj_m_50.2.1 4 = .ok (.getfield 51, 3) := by decide +kernel
theorem mj_d_50_7 : decode mj_m_50.2.1 7 = .ok (.if_icmp .ge 24, 3) := by decide +kernel
theorem mj_d_50_10 : decode mj_m_50.2.1 10 = .ok (.aload_n 0, 1) := by decide +kernel
theorem mj_d_50_11 : decode mj_m_50.2.1 11 = .ok (.getfield 15, 3) := by decide +kernel
theorem mj_d_50_14 : decode mj_m_50.2.1 14 = .ok (.iload_n 2, 1) := by decide +kernel
theorem mj_d_50_15 : decode mj_m_50.2.1 15 = .ok (.iaload, 1) := by decide +kernel
theorem mj_d_50_16 : decode mj_m_50.2.1 16 = .ok (.ifCond .eq 9, 3) := by decide +kernel
theorem mj_d_50_19 : decode mj_m_50.2.1 19 = .ok (.aload_n 0, 1) := by decide +kernel
theorem mj_d_50_20 : decode mj_m_50.2.1 20 = .ok (.iload_n 2, 1) := by decide +kernel
theorem mj_d_50_21 : decode mj_m_50.2.1 21 = .ok (.aload_n 1, 1) := by decide +kernel
theorem mj_d_50_22 : decode mj_m_50.2.1 22 = .ok (.invokevirtual 54, 3) := by decide +kernel
theorem mj_d_50_25 : decode mj_m_50.2.1 25 = .ok (.iinc 2 1, 3) := by decide +kernel
theorem mj_d_50_28 : decode mj_m_50.2.1 28 = .ok (.goto (-26), 3) := by decide +kernel
theorem mj_d_50_31 : decode mj_m_50.2.1 31 = .ok (.aload_n 0, 1) := by decide +kernel
theorem mj_d_50_32 : decode mj_m_50.2.1 32 = .ok (.dup, 1) := by decide +kernel
theorem mj_d_50_33 : decode mj_m_50.2.1 33 = .ok (.getfield 33, 3) := by decide +kernel
theorem mj_d_50_36 : decode mj_m_50.2.1 36 = .ok (.iconst 1, 1) := by decide +kernel
theorem mj_d_50_37 : decode mj_m_50.2.1 37 = .ok (.iadd, 1) := by decide +kernel
theorem mj_d_50_38 : decode mj_m_50.2.1 38 = .ok (.putfield 33, 3) := by decide +kernel
theorem mj_d_50_41 : decode mj_m_50.2.1 41 = .ok (.return_, 1) := by decide +kernel
theorem mj_d_51_0 : decode mj_m_51.2.1 0 = .ok (.iload_n 1, 1) := by decide +kernel
theorem mj_d_51_1 : decode mj_m_51.2.1 1 = .ok (.istore_n 3, 1) := by decide +kernel
theorem mj_d_51_2 : decode mj_m_51.2.1 2 = .ok (.iconst 0, 1) := by decide +kernel
theorem mj_d_51_3 : decode mj_m_51.2.1 3 = .ok (.istore 4, 2) := by decide +kernel
theorem mj_d_51_5 : decode mj_m_51.2.1 5 = .ok (.iload 4, 2) := by decide +kernel
theorem mj_d_51_7 : decode mj_m_51.2.1 7 = .ok (.bipush 9, 2) := by decide +kernel
theorem mj_d_51_9 : decode mj_m_51.2.1 9 = .ok (.if_icmp .ge 47, 3) := by decide +kernel
theorem mj_d_51_12 : decode mj_m_51.2.1 12 = .ok (.iload_n 3, 1) := by decide +kernel
theorem mj_d_51_13 : decode mj_m_51.2.1 13 = .ok (.ifCond .lt 43, 3) := by decide +kernel
theorem mj_d_51_16 : decode mj_m_51.2.1 16 = .ok (.iload_n 3, 1) := by decide +kernel
theorem mj_d_51_17 : decode mj_m_51.2.1 17 = .ok (.bipush 9, 2) := by decide +kernel
theorem mj_d_51_19 : decode mj_m_51.2.1 19 = .ok (.if_icmp .ge 37, 3) := by decide +kernel
theorem mj_d_51_22 : decode mj_m_51.2.1 22 = .ok (.aload_n 0, 1) := by decide +kernel
theorem mj_d_51_23 : decode mj_m_51.2.1 23 = .ok (.getfield 9, 3) := by decide +kernel
theorem mj_d_51_26 : decode mj_m_51.2.1 26 = .ok (.iload_n 3, 1) := by decide +kernel
theorem mj_d_51_27 : decode mj_m_51.2.1 27 = .ok (.aload_n 0, 1) := by decide +kernel
theorem mj_d_51_28 : decode mj_m_51.2.1 28 = .ok (.getfield 9, 3) := by decide +kernel
theorem mj_d_51_31 : decode mj_m_51.2.1 31 = .ok (.iload_n 3, 1) := by decide +kernel
theorem mj_d_51_32 : decode mj_m_51.2.1 32 = .ok (.iaload, 1) := by decide +kernel
theorem mj_d_51_33 : decode mj_m_51.2.1 33 = .ok (.aload_n 0, 1) := by decide +kernel
theorem mj_d_51_34 : decode mj_m_51.2.1 34 = .ok (.getfield 15, 3) := by decide +kernel
theorem mj_d_51_37 : decode mj_m_51.2.1 37 = .ok (.iload_n 1, 1) := by decide +kernel
theorem mj_d_51_38 : decode mj_m_51.2.1 38 = .ok (.iaload, 1) := by decide +kernel
theorem mj_d_51_39 : decode mj_m_51.2.1 39 = .ok (.invokestatic 58, 3) := by decide +kernel
theorem mj_d_51_42 : decode mj_m_51.2.1 42 = .ok (.iastore, 1) := by decide +kernel
theorem mj_d_51_43 : decode mj_m_51.2.1 43 = .ok (.aload_n 0, 1) := by decide +kernel
theorem mj_d_51_44 : decode mj_m_51.2.1 44 = .ok (.getfield 18, 3) := by decide +kernel
theorem mj_d_51_47 : decode mj_m_51.2.1 47 = .ok (.iload_n 3, 1) := by decide +kernel
theorem mj_d_51_48 : decode mj_m_51.2.1 48 = .ok (.iaload, 1) := by decide +kernel
theorem mj_d_51_49 : decode mj_m_51.2.1 49 = .ok (.istore_n 3, 1) := by decide +kernel
theorem mj_d_51_50 : decode mj_m_51.2.1 50 = .ok (.iinc 4 1, 3) := by decide +kernel
theorem mj_d_51_53 : decode mj_m_51.2.1 53 = .ok (.goto (-48), 3) := by decide +kernel
theorem mj_d_51_56 : decode mj_m_51.2.1 56 = .ok (.aload_n 2, 1) := by decide +kernel
theorem mj_d_51_57 : decode mj_m_51.2.1 57 = .ok (.iload_n 1, 1) := by decide +kernel
theorem mj_d_51_58 : decode mj_m_51.2.1 58 = .ok (.invokevirtual 62, 3) := by decide +kernel
theorem mj_d_51_61 : decode mj_m_51.2.1 61 = .ok (.istore 4, 2) := by decide +kernel
theorem mj_d_51_63 : decode mj_m_51.2.1 63 = .ok (.iload 4, 2) := by decide +kernel
theorem mj_d_51_65 : decode mj_m_51.2.1 65 = .ok (.ifCond .lt 26, 3) := by decide +kernel
theorem mj_d_51_68 : decode mj_m_51.2.1 68 = .ok (.aload_n 0, 1) := by decide +kernel
theorem mj_d_51_69 : decode mj_m_51.2.1 69 = .ok (.getfield 9, 3) := by decide +kernel
theorem mj_d_51_72 : decode mj_m_51.2.1 72 = .ok (.iload 4, 2) := by decide +kernel
theorem mj_d_51_74 : decode mj_m_51.2.1 74 = .ok (.aload_n 0, 1) := by decide +kernel
theorem mj_d_51_75 : decode mj_m_51.2.1 75 = .ok (.getfield 9, 3) := by decide +kernel
theorem mj_d_51_78 : decode mj_m_51.2.1 78 = .ok (.iload 4, 2) := by decide +kernel
theorem mj_d_51_80 : decode mj_m_51.2.1 80 = .ok (.iaload, 1) := by decide +kernel
theorem mj_d_51_81 : decode mj_m_51.2.1 81 = .ok (.aload_n 0, 1) := by decide +kernel
theorem mj_d_51_82 : decode mj_m_51.2.1 82 = .ok (.getfield 15, 3) := by decide +kernel
theorem mj_d_51_85 : decode mj_m_51.2.1 85 = .ok (.iload_n 1, 1) := by decide +kernel
theorem mj_d_51_86 : decode mj_m_51.2.1 86 = .ok (.iaload, 1) := by decide +kernel
theorem mj_d_51_87 : decode mj_m_51.2.1 87 = .ok (.invokestatic 58, 3) := by decide +kernel
theorem mj_d_51_90 : decode mj_m_51.2.1 90 = .ok (.iastore, 1) := by decide +kernel
theorem mj_d_51_91 : decode mj_m_51.2.1 91 = .ok (.return_, 1) := by decide +kernel
theorem mj_d_56_0 : decode mj_m_56.2.1 0 = .ok (.aload_n 0, 1) := by decide +kernel
theorem mj_d_56_1 : decode mj_m_56.2.1 1 = .ok (.invokevirtual 65, 3) := by decide +kernel
theorem mj_d_56_4 : decode mj_m_56.2.1 4 = .ok (.istore_n 2, 1) := by decide +kernel
theorem mj_d_56_5 : decode mj_m_56.2.1 5 = .ok (.iconst 0, 1) := by decide +kernel
theorem mj_d_56_6 : decode mj_m_56.2.1 6 = .ok (.istore_n 3, 1) := by decide +kernel
theorem mj_d_56_7 : decode mj_m_56.2.1 7 = .ok (.iload_n 3, 1) := by decide +kernel
theorem mj_d_56_8 : decode mj_m_56.2.1 8 = .ok (.bipush 9, 2) := by decide +kernel
theorem mj_d_56_10 : decode mj_m_56.2.1 10 = .ok (.if_icmp .ge 25, 3) := by decide +kernel
theorem mj_d_56_13 : decode mj_m_56.2.1 13 = .ok (.aload_n 0, 1) := by decide +kernel
theorem mj_d_56_14 : decode mj_m_56.2.1 14 = .ok (.getfield 9, 3) := by decide +kernel
theorem mj_d_56_17 : decode mj_m_56.2.1 17 = .ok (.iload_n 3, 1) := by decide +kernel
theorem mj_d_56_18 : decode mj_m_56.2.1 18 = .ok (.aload_n 0, 1) := by decide +kernel
theorem mj_d_56_19 : decode mj_m_56.2.1 19 = .ok (.getfield 9, 3) := by decide +kernel
theorem mj_d_56_22 : decode mj_m_56.2.1 22 = .ok (.iload_n 3, 1) := by decide +kernel
theorem mj_d_56_23 : decode mj_m_56.2.1 23 = .ok (.iaload, 1) := by decide +kernel
theorem mj_d_56_24 : decode mj_m_56.2.1 24 = .ok (.iload_n 1, 1) := by decide +kernel
theorem mj_d_56_25 : decode mj_m_56.2.1 25 = .ok (.invokestatic 69, 3) := by decide +kernel
theorem mj_d_56_28 : decode mj_m_56.2.1 28 = .ok (.iastore, 1) := by decide +kernel
theorem mj_d_56_29 : decode mj_m_56.2.1 29 = .ok (.iinc 3 1, 3) := by decide +kernel
theorem mj_d_56_32 : decode mj_m_56.2.1 32 = .ok (.goto (-25), 3) := by decide +kernel
theorem mj_d_56_35 : decode mj_m_56.2.1 35 = .ok (.iload_n 2, 1) := by decide +kernel
theorem mj_d_56_36 : decode mj_m_56.2.1 36 = .ok (.aload_n 0, 1) := by decide +kernel
theorem mj_d_56_37 : decode mj_m_56.2.1 37 = .ok (.invokevirtual 65, 3) := by decide +kernel
theorem mj_d_56_40 : decode mj_m_56.2.1 40 = .ok (.isub, 1) := by decide +kernel
theorem mj_d_56_41 : decode mj_m_56.2.1 41 = .ok (.ireturn, 1) := by decide +kernel
theorem mj_d_62_0 : decode mj_m_62.2.1 0 = .ok (.aload_n 0, 1) := by decide +kernel
theorem mj_d_62_1 : decode mj_m_62.2.1 1 = .ok (.getfield 21, 3) := by decide +kernel
theorem mj_d_62_4 : decode mj_m_62.2.1 4 = .ok (.iload_n 1, 1) := by decide +kernel
theorem mj_d_62_5 : decode mj_m_62.2.1 5 = .ok (.iaload, 1) := by decide +kernel
theorem mj_d_62_6 : decode mj_m_62.2.1 6 = .ok (.iload_n 3, 1) := by decide +kernel
theorem mj_d_62_7 : decode mj_m_62.2.1 7 = .ok (.ishr, 1) := by decide +kernel
theorem mj_d_62_8 : decode mj_m_62.2.1 8 = .ok (.iconst 1, 1) := by decide +kernel
theorem mj_d_62_9 : decode mj_m_62.2.1 9 = .ok (.iand, 1) := by decide +kernel
theorem mj_d_62_10 : decode mj_m_62.2.1 10 = .ok (.iconst 1, 1) := by decide +kernel
theorem mj_d_62_11 : decode mj_m_62.2.1 11 = .ok (.if_icmp .ne 20, 3) := by decide +kernel
theorem mj_d_62_14 : decode mj_m_62.2.1 14 = .ok (.aload_n 0, 1) := by decide +kernel
theorem mj_d_62_15 : decode mj_m_62.2.1 15 = .ok (.getfield 21, 3) := by decide +kernel
theorem mj_d_62_18 : decode mj_m_62.2.1 18 = .ok (.iload_n 2, 1) := by decide +kernel
theorem mj_d_62_19 : decode mj_m_62.2.1 19 = .ok (.iaload, 1) := by decide +kernel
theorem mj_d_62_20 : decode mj_m_62.2.1 20 = .ok (.iload_n 3, 1) := by decide +kernel
theorem mj_d_62_21 : decode mj_m_62.2.1 21 = .ok (.ishr, 1) := by decide +kernel
theorem mj_d_62_22 : decode mj_m_62.2.1 22 = .ok (.iconst 1, 1) := by decide +kernel
theorem mj_d_62_23 : decode mj_m_62.2.1 23 = .ok (.iand, 1) := by decide +kernel
theorem mj_d_62_24 : decode mj_m_62.2.1 24 = .ok (.ifCond .ne 7, 3) := by decide +kernel
theorem mj_d_62_27 : decode mj_m_62.2.1 27 = .ok (.iconst 1, 1) := by decide +kernel
theorem mj_d_62_28 : decode mj_m_62.2.1 28 = .ok (.goto 4, 3) := by decide +kernel
theorem mj_d_62_31 : decode mj_m_62.2.1 31 = .ok (.iconst 0, 1) := by decide +kernel
theorem mj_d_62_32 : decode mj_m_62.2.1 32 = .ok (.ireturn, 1) := by decide +kernel
theorem mj_d_63_0 : decode mj_m_63.2.1 0 = .ok (.aload_n 0, 1) := by decide +kernel
theorem mj_d_63_1 : decode mj_m_63.2.1 1 = .ok (.getfield 21, 3) := by decide +kernel
theorem mj_d_63_4 : decode mj_m_63.2.1 4 = .ok (.iload_n 1, 1) := by decide +kernel
theorem mj_d_63_5 : decode mj_m_63.2.1 5 = .ok (.dup2, 1) := by decide +kernel
theorem mj_d_63_6 : decode mj_m_63.2.1 6 = .ok (.iaload, 1) := by decide +kernel
theorem mj_d_63_7 : decode mj_m_63.2.1 7 = .ok (.iconst 1, 1) := by decide +kernel
theorem mj_d_63_8 : decode mj_m_63.2.1 8 = .ok (.iload_n 2, 1) := by decide +kernel
theorem mj_d_63_9 : decode mj_m_63.2.1 9 = .ok (.ishl, 1) := by decide +kernel
theorem mj_d_63_10 : decode mj_m_63.2.1 10 = .ok (.ior, 1) := by decide +kernel
theorem mj_d_63_11 : decode mj_m_63.2.1 11 = .ok (.iastore, 1) := by decide +kernel
theorem mj_d_63_12 : decode mj_m_63.2.1 12 = .ok (.return_, 1) := by decide +kernel
theorem mj_d_69_0 : decode mj_m_69.2.1 0 = .ok (.aload_n 2, 1) := by decide +kernel
theorem mj_d_69_1 : decode mj_m_69.2.1 1 = .ok (.aload_n 0, 1) := by decide +kernel
theorem mj_d_69_2 : decode mj_m_69.2.1 2 = .ok (.getfield 11, 3) := by decide +kernel
theorem mj_d_69_5 : decode mj_m_69.2.1 5 = .ok (.aload_n 0, 1) := by decide +kernel
theorem mj_d_69_6 : decode mj_m_69.2.1 6 = .ok (.getfield 22, 3) := by decide +kernel
theorem mj_d_69_9 : decode mj_m_69.2.1 9 = .ok (.iload_n 1, 1) := by decide +kernel
theorem mj_d_69_10 : decode mj_m_69.2.1 10 = .ok (.isub, 1) := by decide +kernel
theorem mj_d_69_11 : decode mj_m_69.2.1 11 = .ok (.iconst 1, 1) := by decide +kernel
theorem mj_d_69_12 : decode mj_m_69.2.1 12 = .ok (.iadd, 1) := by decide +kernel
theorem mj_d_69_13 : decode mj_m_69.2.1 13 = .ok (.bipush 30, 2) := by decide +kernel
theorem mj_d_69_15 : decode mj_m_69.2.1 15 = .ok (.invokestatic 25, 3) := by decide +kernel
theorem mj_d_69_18 : decode mj_m_69.2.1 18 = .ok (.aaload, 1) := by decide +kernel
theorem mj_d_69_19 : decode mj_m_69.2.1 19 = .ok (.invokevirtual 31, 3) := by decide +kernel
theorem mj_d_69_22 : decode mj_m_69.2.1 22 = .ok (.aload_n 0, 1) := by decide +kernel
theorem mj_d_69_23 : decode mj_m_69.2.1 23 = .ok (.aload_n 0, 1) := by decide +kernel
theorem mj_d_69_24 : decode mj_m_69.2.1 24 = .ok (.getfield 22, 3) := by decide +kernel
theorem mj_d_69_27 : decode mj_m_69.2.1 27 = .ok (.iload_n 1, 1) := by decide +kernel
theorem mj_d_69_28 : decode mj_m_69.2.1 28 = .ok (.isub, 1) := by decide +kernel
theorem mj_d_69_29 : decode mj_m_69.2.1 29 = .ok (.bipush 30, 2) := by decide +kernel
theorem mj_d_69_31 : decode mj_m_69.2.1 31 = .ok (.invokestatic 25, 3) := by decide +kernel
theorem mj_d_69_34 : decode mj_m_69.2.1 34 = .ok (.putfield 22, 3) := by decide +kernel
theorem mj_d_69_37 : decode mj_m_69.2.1 37 = .ok (.aload_n 0, 1) := by decide +kernel
theorem mj_d_69_38 : decode mj_m_69.2.1 38 = .ok (.dup, 1) := by decide +kernel
theorem mj_d_69_39 : decode mj_m_69.2.1 39 = .ok (.getfield 18, 3) := by decide +kernel
theorem mj_d_69_42 : decode mj_m_69.2.1 42 = .ok (.iload_n 1, 1) := by decide +kernel
theorem mj_d_69_43 : decode mj_m_69.2.1 43 = .ok (.isub, 1) := by decide +kernel
theorem mj_d_69_44 : decode mj_m_69.2.1 44 = .ok (.putfield 18, 3) := by decide +kernel
theorem mj_d_69_47 : decode mj_m_69.2.1 47 = .ok (.return_, 1) := by decide +kernel
theorem mj_d_72_0 : decode mj_m_72.2.1 0 = .ok (.iconst 0, 1) := by decide +kernel
theorem mj_d_72_1 : decode mj_m_72.2.1 1 = .ok (.istore_n 2, 1) := by decide +kernel
theorem mj_d_72_2 : decode mj_m_72.2.1 2 = .ok (.iload_n 1, 1) := by decide +kernel
theorem mj_d_72_3 : decode mj_m_72.2.1 3 = .ok (.istore_n 3, 1) := by decide +kernel
theorem mj_d_72_4 : decode mj_m_72.2.1 4 = .ok (.iconst 0, 1) := by decide +kernel
theorem mj_d_72_5 : decode mj_m_72.2.1 5 = .ok (.istore 4, 2) := by decide +kernel
theorem mj_d_72_7 : decode mj_m_72.2.1 7 = .ok (.iload 4, 2) := by decide +kernel
theorem mj_d_72_9 : decode mj_m_72.2.1 9 = .ok (.bipush 9, 2) := by decide +kernel
theorem mj_d_72_11 : decode mj_m_72.2.1 11 = .ok (.if_icmp .ge 32, 3) := by decide +kernel
theorem mj_d_72_14 : decode mj_m_72.2.1 14 = .ok (.iload_n 3, 1) := by decide +kernel
theorem mj_d_72_15 : decode mj_m_72.2.1 15 = .ok (.ifCond .lt 28, 3) := by decide +kernel
theorem mj_d_72_18 : decode mj_m_72.2.1 18 = .ok (.iload_n 3, 1) := by decide +kernel
theorem mj_d_72_19 : decode mj_m_72.2.1 19 = .ok (.bipush 9, 2) := by decide +kernel
theorem mj_d_72_21 : decode mj_m_72.2.1 21 = .ok (.if_icmp .ge 22, 3) := by decide +kernel
theorem mj_d_72_24 : decode mj_m_72.2.1 24 = .ok (.iload_n 2, 1) := by decide +kernel
theorem mj_d_72_25 : decode mj_m_72.2.1 25 = .ok (.iconst 1, 1) := by decide +kernel
theorem mj_d_72_26 : decode mj_m_72.2.1 26 = .ok (.iload_n 3, 1) := by decide +kernel
theorem mj_d_72_27 : decode mj_m_72.2.1 27 = .ok (.ishl, 1) := by decide +kernel
theorem mj_d_72_28 : decode mj_m_72.2.1 28 = .ok (.ior, 1) := by decide +kernel
theorem mj_d_72_29 : decode mj_m_72.2.1 29 = .ok (.istore_n 2, 1) := by decide +kernel
theorem mj_d_72_30 : decode mj_m_72.2.1 30 = .ok (.aload_n 0, 1) := by decide +kernel
theorem mj_d_72_31 : decode mj_m_72.2.1 31 = .ok (.getfield 18, 3) := by decide +kernel
theorem mj_d_72_34 : decode mj_m_72.2.1 34 = .ok (.iload_n 3, 1) := by decide +kernel
theorem mj_d_72_35 : decode mj_m_72.2.1 35 = .ok (.iaload, 1) := by decide +kernel
theorem mj_d_72_36 : decode mj_m_72.2.1 36 = .ok (.istore_n 3, 1) := by decide +kernel
theorem mj_d_72_37 : decode mj_m_72.2.1 37 = .ok (.iinc 4 1, 3) := by decide +kernel
theorem mj_d_72_40 : decode mj_m_72.2.1 40 = .ok (.goto (-33), 3) := by decide +kernel
theorem mj_d_72_43 : decode mj_m_72.2.1 43 = .ok (.iload_n 2, 1) := by decide +kernel
theorem mj_d_72_44 : decode mj_m_72.2.1 44 = .ok (.ireturn, 1) := by decide +kernel
theorem mj_d_83_0 : decode mj_m_83.2.1 0 = .ok (.aload_n 2, 1) := by decide +kernel
theorem mj_d_83_1 : decode mj_m_83.2.1 1 = .ok (.iload_n 1, 1) := by decide +kernel
theorem mj_d_83_2 : decode mj_m_83.2.1 2 = .ok (.invokevirtual 62, 3) := by decide +kernel
theorem mj_d_83_5 : decode mj_m_83.2.1 5 = .ok (.istore_n 3, 1) := by decide +kernel
theorem mj_d_83_6 : decode mj_m_83.2.1 6 = .ok (.iload_n 3, 1) := by decide +kernel
theorem mj_d_83_7 : decode mj_m_83.2.1 7 = .ok (.ifCond .ge 11, 3) := by decide +kernel
theorem mj_d_83_10 : decode mj_m_83.2.1 10 = .ok (.aload_n 0, 1) := by decide +kernel
theorem mj_d_83_11 : decode mj_m_83.2.1 11 = .ok (.iload_n 1, 1) := by decide +kernel
theorem mj_d_83_12 : decode mj_m_83.2.1 12 = .ok (.invokevirtual 72, 3) := by decide +kernel
theorem mj_d_83_15 : decode mj_m_83.2.1 15 = .ok (.goto 12, 3) := by decide +kernel
theorem mj_d_83_18 : decode mj_m_83.2.1 18 = .ok (.aload_n 0, 1) := by decide +kernel
theorem mj_d_83_19 : decode mj_m_83.2.1 19 = .ok (.iload_n 1, 1) := by decide +kernel
theorem mj_d_83_20 : decode mj_m_83.2.1 20 = .ok (.invokevirtual 72, 3) := by decide +kernel
theorem mj_d_83_23 : decode mj_m_83.2.1 23 = .ok (.iconst 1, 1) := by decide +kernel
theorem mj_d_83_24 : decode mj_m_83.2.1 24 = .ok (.iload_n 3, 1) := by decide +kernel
theorem mj_d_83_25 : decode mj_m_83.2.1 25 = .ok (.ishl, 1) := by decide +kernel
theorem mj_d_83_26 : decode mj_m_83.2.1 26 = .ok (.ior, 1) := by decide +kernel
theorem mj_d_83_27 : decode mj_m_83.2.1 27 = .ok (.ireturn, 1) := by decide +kernel
theorem mj_d_84_0 : decode mj_m_84.2.1 0 = .ok (.iconst 0, 1) := by decide +kernel
theorem mj_d_84_1 : decode mj_m_84.2.1 1 = .ok (.istore_n 3, 1) := by decide +kernel
theorem mj_d_84_2 : decode mj_m_84.2.1 2 = .ok (.iconst 0, 1) := by decide +kernel
theorem mj_d_84_3 : decode mj_m_84.2.1 3 = .ok (.istore 4, 2) := by decide +kernel
theorem mj_d_84_5 : decode mj_m_84.2.1 5 = .ok (.iload 4, 2) := by decide +kernel
theorem mj_d_84_7 : decode mj_m_84.2.1 7 = .ok (.iload_n 2, 1) := by decide +kernel
theorem mj_d_84_8 : decode mj_m_84.2.1 8 = .ok (.if_icmp .ge 36, 3) := by decide +kernel
theorem mj_d_84_11 : decode mj_m_84.2.1 11 = .ok (.iload 4, 2) := by decide +kernel
theorem mj_d_84_13 : decode mj_m_84.2.1 13 = .ok (.iload_n 1, 1) := by decide +kernel
theorem mj_d_84_14 : decode mj_m_84.2.1 14 = .ok (.if_icmp .eq 24, 3) := by decide +kernel
theorem mj_d_84_17 : decode mj_m_84.2.1 17 = .ok (.aload_n 0, 1) := by decide +kernel
theorem mj_d_84_18 : decode mj_m_84.2.1 18 = .ok (.iload 4, 2) := by decide +kernel
theorem mj_d_84_20 : decode mj_m_84.2.1 20 = .ok (.invokevirtual 72, 3) := by decide +kernel
theorem mj_d_84_23 : decode mj_m_84.2.1 23 = .ok (.iload_n 1, 1) := by decide +kernel
theorem mj_d_84_24 : decode mj_m_84.2.1 24 = .ok (.ishr, 1) := by decide +kernel
theorem mj_d_84_25 : decode mj_m_84.2.1 25 = .ok (.iconst 1, 1) := by decide +kernel
theorem mj_d_84_26 : decode mj_m_84.2.1 26 = .ok (.iand, 1) := by decide +kernel
theorem mj_d_84_27 : decode mj_m_84.2.1 27 = .ok (.iconst 1, 1) := by decide +kernel
theorem mj_d_84_28 : decode mj_m_84.2.1 28 = .ok (.if_icmp .ne 10, 3) := by decide +kernel
theorem mj_d_84_31 : decode mj_m_84.2.1 31 = .ok (.iload_n 3, 1) := by decide +kernel
theorem mj_d_84_32 : decode mj_m_84.2.1 32 = .ok (.iconst 1, 1) := by decide +kernel
theorem mj_d_84_33 : decode mj_m_84.2.1 33 = .ok (.iload 4, 2) := by decide +kernel
theorem mj_d_84_35 : decode mj_m_84.2.1 35 = .ok (.ishl, 1) := by decide +kernel
theorem mj_d_84_36 : decode mj_m_84.2.1 36 = .ok (.ior, 1) := by decide +kernel
theorem mj_d_84_37 : decode mj_m_84.2.1 37 = .ok (.istore_n 3, 1) := by decide +kernel
theorem mj_d_84_38 : decode mj_m_84.2.1 38 = .ok (.iinc 4 1, 3) := by decide +kernel
theorem mj_d_84_41 : decode mj_m_84.2.1 41 = .ok (.goto (-36), 3) := by decide +kernel
theorem mj_d_84_44 : decode mj_m_84.2.1 44 = .ok (.iload_n 3, 1) := by decide +kernel
theorem mj_d_84_45 : decode mj_m_84.2.1 45 = .ok (.ireturn, 1) := by decide +kernel
theorem mj_d_85_0 : decode mj_m_85.2.1 0 = .ok (.iconst 0, 1) := by decide +kernel
theorem mj_d_85_1 : decode mj_m_85.2.1 1 = .ok (.istore_n 3, 1) := by decide +kernel
theorem mj_d_85_2 : decode mj_m_85.2.1 2 = .ok (.iconst 0, 1) := by decide +kernel
theorem mj_d_85_3 : decode mj_m_85.2.1 3 = .ok (.istore 4, 2) := by decide +kernel
theorem mj_d_85_5 : decode mj_m_85.2.1 5 = .ok (.iload 4, 2) := by decide +kernel
theorem mj_d_85_7 : decode mj_m_85.2.1 7 = .ok (.iload_n 2, 1) := by decide +kernel
theorem mj_d_85_8 : decode mj_m_85.2.1 8 = .ok (.if_icmp .ge 32, 3) := by decide +kernel
theorem mj_d_85_11 : decode mj_m_85.2.1 11 = .ok (.aload_n 0, 1) := by decide +kernel
theorem mj_d_85_12 : decode mj_m_85.2.1 12 = .ok (.getfield 9, 3) := by decide +kernel
theorem mj_d_85_15 : decode mj_m_85.2.1 15 = .ok (.iload 4, 2) := by decide +kernel
theorem mj_d_85_17 : decode mj_m_85.2.1 17 = .ok (.iaload, 1) := by decide +kernel
theorem mj_d_85_18 : decode mj_m_85.2.1 18 = .ok (.aload_n 0, 1) := by decide +kernel
theorem mj_d_85_19 : decode mj_m_85.2.1 19 = .ok (.getfield 9, 3) := by decide +kernel
theorem mj_d_85_22 : decode mj_m_85.2.1 22 = .ok (.iload_n 1, 1) := by decide +kernel
theorem mj_d_85_23 : decode mj_m_85.2.1 23 = .ok (.iaload, 1) := by decide +kernel
theorem mj_d_85_24 : decode mj_m_85.2.1 24 = .ok (.if_icmp .ne 10, 3) := by decide +kernel
theorem mj_d_85_27 : decode mj_m_85.2.1 27 = .ok (.iload_n 3, 1) := by decide +kernel
theorem mj_d_85_28 : decode mj_m_85.2.1 28 = .ok (.iconst 1, 1) := by decide +kernel
theorem mj_d_85_29 : decode mj_m_85.2.1 29 = .ok (.iload 4, 2) := by decide +kernel
theorem mj_d_85_31 : decode mj_m_85.2.1 31 = .ok (.ishl, 1) := by decide +kernel
theorem mj_d_85_32 : decode mj_m_85.2.1 32 = .ok (.ior, 1) := by decide +kernel
theorem mj_d_85_33 : decode mj_m_85.2.1 33 = .ok (.istore_n 3, 1) := by decide +kernel
theorem mj_d_85_34 : decode mj_m_85.2.1 34 = .ok (.iinc 4 1, 3) := by decide +kernel
theorem mj_d_85_37 : decode mj_m_85.2.1 37 = .ok (.goto (-32), 3) := by decide +kernel
theorem mj_d_85_40 : decode mj_m_85.2.1 40 = .ok (.iload_n 3, 1) := by decide +kernel
theorem mj_d_85_41 : decode mj_m_85.2.1 41 = .ok (.ireturn, 1) := by decide +kernel
theorem mj_d_99_0 : decode mj_m_99.2.1 0 = .ok (.aload_n 0, 1) := by decide +kernel
theorem mj_d_99_1 : decode mj_m_99.2.1 1 = .ok (.getfield 21, 3) := by decide +kernel
theorem mj_d_99_4 : decode mj_m_99.2.1 4 = .ok (.iload_n 1, 1) := by decide +kernel
theorem mj_d_99_5 : decode mj_m_99.2.1 5 = .ok (.iaload, 1) := by decide +kernel
theorem mj_d_99_6 : decode mj_m_99.2.1 6 = .ok (.aload_n 0, 1) := by decide +kernel
theorem mj_d_99_7 : decode mj_m_99.2.1 7 = .ok (.getfield 21, 3) := by decide +kernel
theorem mj_d_99_10 : decode mj_m_99.2.1 10 = .ok (.iload_n 2, 1) := by decide +kernel
theorem mj_d_99_11 : decode mj_m_99.2.1 11 = .ok (.iaload, 1) := by decide +kernel
theorem mj_d_99_12 : decode mj_m_99.2.1 12 = .ok (.iconst (-1), 1) := by decide +kernel
theorem mj_d_99_13 : decode mj_m_99.2.1 13 = .ok (.ixor, 1) := by decide +kernel
theorem mj_d_99_14 : decode mj_m_99.2.1 14 = .ok (.iand, 1) := by decide +kernel
theorem mj_d_99_15 : decode mj_m_99.2.1 15 = .ok (.ifCond .eq 7, 3) := by decide +kernel
theorem mj_d_99_18 : decode mj_m_99.2.1 18 = .ok (.iconst 1, 1) := by decide +kernel
theorem mj_d_99_19 : decode mj_m_99.2.1 19 = .ok (.goto 4, 3) := by decide +kernel
theorem mj_d_99_22 : decode mj_m_99.2.1 22 = .ok (.iconst 0, 1) := by decide +kernel
theorem mj_d_99_23 : decode mj_m_99.2.1 23 = .ok (.ireturn, 1) := by decide +kernel
theorem mj_d_102_0 : decode mj_m_102.2.1 0 = .ok (.iconst 0, 1) := by decide +kernel
theorem mj_d_102_1 : decode mj_m_102.2.1 1 = .ok (.istore_n 3, 1) := by decide +kernel
theorem mj_d_102_2 : decode mj_m_102.2.1 2 = .ok (.iconst 0, 1) := by decide +kernel
theorem mj_d_102_3 : decode mj_m_102.2.1 3 = .ok (.istore 4, 2) := by decide +kernel
theorem mj_d_102_5 : decode mj_m_102.2.1 5 = .ok (.iload 4, 2) := by decide +kernel
theorem mj_d_102_7 : decode mj_m_102.2.1 7 = .ok (.iload_n 2, 1) := by decide +kernel
theorem mj_d_102_8 : decode mj_m_102.2.1 8 = .ok (.if_icmp .ge 26, 3) := by decide +kernel
theorem mj_d_102_11 : decode mj_m_102.2.1 11 = .ok (.aload_n 0, 1) := by decide +kernel
theorem mj_d_102_12 : decode mj_m_102.2.1 12 = .ok (.getfield 9, 3) := by decide +kernel
theorem mj_d_102_15 : decode mj_m_102.2.1 15 = .ok (.iload 4, 2) := by decide +kernel
theorem mj_d_102_17 : decode mj_m_102.2.1 17 = .ok (.iaload, 1) := by decide +kernel
theorem mj_d_102_18 : decode mj_m_102.2.1 18 = .ok (.iload_n 1, 1) := by decide +kernel
theorem mj_d_102_19 : decode mj_m_102.2.1 19 = .ok (.invokestatic 75, 3) := by decide +kernel
theorem mj_d_102_22 : decode mj_m_102.2.1 22 = .ok (.ifCond .eq 6, 3) := by decide +kernel
theorem mj_d_102_25 : decode mj_m_102.2.1 25 = .ok (.iinc 3 1, 3) := by decide +kernel
theorem mj_d_102_28 : decode mj_m_102.2.1 28 = .ok (.iinc 4 1, 3) := by decide +kernel
theorem mj_d_102_31 : decode mj_m_102.2.1 31 = .ok (.goto (-26), 3) := by decide +kernel
theorem mj_d_102_34 : decode mj_m_102.2.1 34 = .ok (.iload_n 3, 1) := by decide +kernel
theorem mj_d_102_35 : decode mj_m_102.2.1 35 = .ok (.ireturn, 1) := by decide +kernel
theorem mj_d_107_0 : decode mj_m_107.2.1 0 = .ok (.aload_n 0, 1) := by decide +kernel
theorem mj_d_107_1 : decode mj_m_107.2.1 1 = .ok (.getfield 22, 3) := by decide +kernel
theorem mj_d_107_4 : decode mj_m_107.2.1 4 = .ok (.ifCond .lt 12, 3) := by decide +kernel
theorem mj_d_107_7 : decode mj_m_107.2.1 7 = .ok (.aload_n 0, 1) := by decide +kernel
theorem mj_d_107_8 : decode mj_m_107.2.1 8 = .ok (.getfield 22, 3) := by decide +kernel
theorem mj_d_107_11 : decode mj_m_107.2.1 11 = .ok (.bipush 6, 2) := by decide +kernel
theorem mj_d_107_13 : decode mj_m_107.2.1 13 = .ok (.if_icmp .lt 6, 3) := by decide +kernel
theorem mj_d_107_16 : decode mj_m_107.2.1 16 = .ok (.ldc 26, 2) := by decide +kernel
theorem mj_d_107_18 : decode mj_m_107.2.1 18 = .ok (.ireturn, 1) := by decide +kernel
theorem mj_d_107_19 : decode mj_m_107.2.1 19 = .ok (.aload_n 0, 1) := by decide +kernel
theorem mj_d_107_20 : decode mj_m_107.2.1 20 = .ok (.getfield 9, 3) := by decide +kernel
theorem mj_d_107_23 : decode mj_m_107.2.1 23 = .ok (.aload_n 0, 1) := by decide +kernel
theorem mj_d_107_24 : decode mj_m_107.2.1 24 = .ok (.getfield 22, 3) := by decide +kernel
theorem mj_d_107_27 : decode mj_m_107.2.1 27 = .ok (.iload_n 1, 1) := by decide +kernel
theorem mj_d_107_28 : decode mj_m_107.2.1 28 = .ok (.iastore, 1) := by decide +kernel
theorem mj_d_107_29 : decode mj_m_107.2.1 29 = .ok (.aload_n 0, 1) := by decide +kernel
theorem mj_d_107_30 : decode mj_m_107.2.1 30 = .ok (.getfield 15, 3) := by decide +kernel
theorem mj_d_107_33 : decode mj_m_107.2.1 33 = .ok (.aload_n 0, 1) := by decide +kernel
theorem mj_d_107_34 : decode mj_m_107.2.1 34 = .ok (.getfield 22, 3) := by decide +kernel
theorem mj_d_107_37 : decode mj_m_107.2.1 37 = .ok (.iload_n 2, 1) := by decide +kernel
theorem mj_d_107_38 : decode mj_m_107.2.1 38 = .ok (.iastore, 1) := by decide +kernel
theorem mj_d_107_39 : decode mj_m_107.2.1 39 = .ok (.aload_n 0, 1) := by decide +kernel
theorem mj_d_107_40 : decode mj_m_107.2.1 40 = .ok (.getfield 18, 3) := by decide +kernel
theorem mj_d_107_43 : decode mj_m_107.2.1 43 = .ok (.aload_n 0, 1) := by decide +kernel
theorem mj_d_107_44 : decode mj_m_107.2.1 44 = .ok (.getfield 22, 3) := by decide +kernel
theorem mj_d_107_47 : decode mj_m_107.2.1 47 = .ok (.iload_n 3, 1) := by decide +kernel
theorem mj_d_107_48 : decode mj_m_107.2.1 48 = .ok (.bastore, 1) := by decide +kernel
theorem mj_d_107_49 : decode mj_m_107.2.1 49 = .ok (.aload_n 0, 1) := by decide +kernel
theorem mj_d_107_50 : decode mj_m_107.2.1 50 = .ok (.dup, 1) := by decide +kernel
theorem mj_d_107_51 : decode mj_m_107.2.1 51 = .ok (.getfield 22, 3) := by decide +kernel
theorem mj_d_107_54 : decode mj_m_107.2.1 54 = .ok (.iconst 1, 1) := by decide +kernel
theorem mj_d_107_55 : decode mj_m_107.2.1 55 = .ok (.iadd, 1) := by decide +kernel
theorem mj_d_107_56 : decode mj_m_107.2.1 56 = .ok (.putfield 22, 3) := by decide +kernel
theorem mj_d_107_59 : decode mj_m_107.2.1 59 = .ok (.aload_n 0, 1) := by decide +kernel
theorem mj_d_107_60 : decode mj_m_107.2.1 60 = .ok (.getfield 22, 3) := by decide +kernel
theorem mj_d_107_63 : decode mj_m_107.2.1 63 = .ok (.ireturn, 1) := by decide +kernel
theorem mj_d_110_0 : decode mj_m_110.2.1 0 = .ok (.iconst 0, 1) := by decide +kernel
theorem mj_d_110_1 : decode mj_m_110.2.1 1 = .ok (.istore_n 3, 1) := by decide +kernel
theorem mj_d_110_2 : decode mj_m_110.2.1 2 = .ok (.iload_n 3, 1) := by decide +kernel
theorem mj_d_110_3 : decode mj_m_110.2.1 3 = .ok (.aload_n 0, 1) := by decide +kernel
theorem mj_d_110_4 : decode mj_m_110.2.1 4 = .ok (.getfield 22, 3) := by decide +kernel
theorem mj_d_110_7 : decode mj_m_110.2.1 7 = .ok (.if_icmp .ge 55, 3) := by decide +kernel
theorem mj_d_110_10 : decode mj_m_110.2.1 10 = .ok (.iload_n 3, 1) := by decide +kernel
theorem mj_d_110_11 : decode mj_m_110.2.1 11 = .ok (.bipush 6, 2) := by decide +kernel
theorem mj_d_110_13 : decode mj_m_110.2.1 13 = .ok (.if_icmp .ge 49, 3) := by decide +kernel
theorem mj_d_110_16 : decode mj_m_110.2.1 16 = .ok (.aload_n 0, 1) := by decide +kernel
theorem mj_d_110_17 : decode mj_m_110.2.1 17 = .ok (.getfield 15, 3) := by decide +kernel
theorem mj_d_110_20 : decode mj_m_110.2.1 20 = .ok (.iload_n 3, 1) := by decide +kernel
theorem mj_d_110_21 : decode mj_m_110.2.1 21 = .ok (.iaload, 1) := by decide +kernel
theorem mj_d_110_22 : decode mj_m_110.2.1 22 = .ok (.iload_n 1, 1) := by decide +kernel
theorem mj_d_110_23 : decode mj_m_110.2.1 23 = .ok (.if_icmp .ne 33, 3) := by decide +kernel
theorem mj_d_110_26 : decode mj_m_110.2.1 26 = .ok (.iload_n 2, 1) := by decide +kernel
theorem mj_d_110_27 : decode mj_m_110.2.1 27 = .ok (.aload_n 0, 1) := by decide +kernel
theorem mj_d_110_28 : decode mj_m_110.2.1 28 = .ok (.getfield 9, 3) := by decide +kernel
theorem mj_d_110_31 : decode mj_m_110.2.1 31 = .ok (.iload_n 3, 1) := by decide +kernel
theorem mj_d_110_32 : decode mj_m_110.2.1 32 = .ok (.iaload, 1) := by decide +kernel
theorem mj_d_110_33 : decode mj_m_110.2.1 33 = .ok (.ishr, 1) := by decide +kernel
theorem mj_d_110_34 : decode mj_m_110.2.1 34 = .ok (.iconst 1, 1) := by decide +kernel
theorem mj_d_110_35 : decode mj_m_110.2.1 35 = .ok (.iand, 1) := by decide +kernel
theorem mj_d_110_36 : decode mj_m_110.2.1 36 = .ok (.iconst 1, 1) := by decide +kernel
theorem mj_d_110_37 : decode mj_m_110.2.1 37 = .ok (.if_icmp .ne 7, 3) := by decide +kernel
theorem mj_d_110_40 : decode mj_m_110.2.1 40 = .ok (.iconst 1, 1) := by decide +kernel
theorem mj_d_110_41 : decode mj_m_110.2.1 41 = .ok (.goto 4, 3) := by decide +kernel
theorem mj_d_110_44 : decode mj_m_110.2.1 44 = .ok (.iconst 0, 1) := by decide +kernel
theorem mj_d_110_45 : decode mj_m_110.2.1 45 = .ok (.aload_n 0, 1) := by decide +kernel
theorem mj_d_110_46 : decode mj_m_110.2.1 46 = .ok (.getfield 18, 3) := by decide +kernel
theorem mj_d_110_49 : decode mj_m_110.2.1 49 = .ok (.iload_n 3, 1) := by decide +kernel
theorem mj_d_110_50 : decode mj_m_110.2.1 50 = .ok (.baload, 1) := by decide +kernel
theorem mj_d_110_51 : decode mj_m_110.2.1 51 = .ok (.if_icmp .eq 5, 3) := by decide +kernel
theorem mj_d_110_54 : decode mj_m_110.2.1 54 = .ok (.iconst 0, 1) := by decide +kernel
theorem mj_d_110_55 : decode mj_m_110.2.1 55 = .ok (.ireturn, 1) := by decide +kernel
theorem mj_d_110_56 : decode mj_m_110.2.1 56 = .ok (.iinc 3 1, 3) := by decide +kernel
theorem mj_d_110_59 : decode mj_m_110.2.1 59 = .ok (.goto (-57), 3) := by decide +kernel
theorem mj_d_110_62 : decode mj_m_110.2.1 62 = .ok (.iconst 1, 1) := by decide +kernel
theorem mj_d_110_63 : decode mj_m_110.2.1 63 = .ok (.ireturn, 1) := by decide +kernel
theorem mj_d_114_0 : decode mj_m_114.2.1 0 = .ok (.aload_n 0, 1) := by decide +kernel
theorem mj_d_114_1 : decode mj_m_114.2.1 1 = .ok (.getfield 18, 3) := by decide +kernel
theorem mj_d_114_4 : decode mj_m_114.2.1 4 = .ok (.ifCond .lt 12, 3) := by decide +kernel
theorem mj_d_114_7 : decode mj_m_114.2.1 7 = .ok (.aload_n 0, 1) := by decide +kernel
theorem mj_d_114_8 : decode mj_m_114.2.1 8 = .ok (.getfield 18, 3) := by decide +kernel
theorem mj_d_114_11 : decode mj_m_114.2.1 11 = .ok (.bipush 20, 2) := by decide +kernel
theorem mj_d_114_13 : decode mj_m_114.2.1 13 = .ok (.if_icmp .lt 6, 3) := by decide +kernel
theorem mj_d_114_16 : decode mj_m_114.2.1 16 = .ok (.ldc 22, 2) := by decide +kernel
theorem mj_d_114_18 : decode mj_m_114.2.1 18 = .ok (.ireturn, 1) := by decide +kernel
theorem mj_d_114_19 : decode mj_m_114.2.1 19 = .ok (.aload_n 0, 1) := by decide +kernel
theorem mj_d_114_20 : decode mj_m_114.2.1 20 = .ok (.getfield 9, 3) := by decide +kernel
theorem mj_d_114_23 : decode mj_m_114.2.1 23 = .ok (.aload_n 0, 1) := by decide +kernel
theorem mj_d_114_24 : decode mj_m_114.2.1 24 = .ok (.getfield 18, 3) := by decide +kernel
theorem mj_d_114_27 : decode mj_m_114.2.1 27 = .ok (.iload_n 1, 1) := by decide +kernel
theorem mj_d_114_28 : decode mj_m_114.2.1 28 = .ok (.iastore, 1) := by decide +kernel
theorem mj_d_114_29 : decode mj_m_114.2.1 29 = .ok (.aload_n 0, 1) := by decide +kernel
theorem mj_d_114_30 : decode mj_m_114.2.1 30 = .ok (.getfield 15, 3) := by decide +kernel
theorem mj_d_114_33 : decode mj_m_114.2.1 33 = .ok (.aload_n 0, 1) := by decide +kernel
theorem mj_d_114_34 : decode mj_m_114.2.1 34 = .ok (.getfield 18, 3) := by decide +kernel
theorem mj_d_114_37 : decode mj_m_114.2.1 37 = .ok (.iload_n 2, 1) := by decide +kernel
theorem mj_d_114_38 : decode mj_m_114.2.1 38 = .ok (.iastore, 1) := by decide +kernel
theorem mj_d_114_39 : decode mj_m_114.2.1 39 = .ok (.aload_n 0, 1) := by decide +kernel
theorem mj_d_114_40 : decode mj_m_114.2.1 40 = .ok (.dup, 1) := by decide +kernel
theorem mj_d_114_41 : decode mj_m_114.2.1 41 = .ok (.getfield 18, 3) := by decide +kernel
theorem mj_d_114_44 : decode mj_m_114.2.1 44 = .ok (.iconst 1, 1) := by decide +kernel
theorem mj_d_114_45 : decode mj_m_114.2.1 45 = .ok (.iadd, 1) := by decide +kernel
theorem mj_d_114_46 : decode mj_m_114.2.1 46 = .ok (.putfield 18, 3) := by decide +kernel
theorem mj_d_114_49 : decode mj_m_114.2.1 49 = .ok (.aload_n 0, 1) := by decide +kernel
theorem mj_d_114_50 : decode mj_m_114.2.1 50 = .ok (.getfield 18, 3) := by decide +kernel
theorem mj_d_114_53 : decode mj_m_114.2.1 53 = .ok (.ireturn, 1) := by decide +kernel
theorem mj_d_116_0 : decode mj_m_116.2.1 0 = .ok (.iconst 0, 1) := by decide +kernel
theorem mj_d_116_1 : decode mj_m_116.2.1 1 = .ok (.istore_n 2, 1) := by decide +kernel
theorem mj_d_116_2 : decode mj_m_116.2.1 2 = .ok (.iload_n 2, 1) := by decide +kernel
theorem mj_d_116_3 : decode mj_m_116.2.1 3 = .ok (.aload_n 0, 1) := by decide +kernel
theorem mj_d_116_4 : decode mj_m_116.2.1 4 = .ok (.getfield 18, 3) := by decide +kernel
theorem mj_d_116_7 : decode mj_m_116.2.1 7 = .ok (.if_icmp .ge 40, 3) := by decide +kernel
theorem mj_d_116_10 : decode mj_m_116.2.1 10 = .ok (.iload_n 2, 1) := by decide +kernel
theorem mj_d_116_11 : decode mj_m_116.2.1 11 = .ok (.bipush 20, 2) := by decide +kernel
theorem mj_d_116_13 : decode mj_m_116.2.1 13 = .ok (.if_icmp .ge 34, 3) := by decide +kernel
theorem mj_d_116_16 : decode mj_m_116.2.1 16 = .ok (.aload_n 1, 1) := by decide +kernel
theorem mj_d_116_17 : decode mj_m_116.2.1 17 = .ok (.getfield 23, 3) := by decide +kernel
theorem mj_d_116_20 : decode mj_m_116.2.1 20 = .ok (.aload_n 0, 1) := by decide +kernel
theorem mj_d_116_21 : decode mj_m_116.2.1 21 = .ok (.getfield 9, 3) := by decide +kernel
theorem mj_d_116_24 : decode mj_m_116.2.1 24 = .ok (.iload_n 2, 1) := by decide +kernel
theorem mj_d_116_25 : decode mj_m_116.2.1 25 = .ok (.iaload, 1) := by decide +kernel
theorem mj_d_116_26 : decode mj_m_116.2.1 26 = .ok (.iaload, 1) := by decide +kernel
theorem mj_d_116_27 : decode mj_m_116.2.1 27 = .ok (.invokestatic 26, 3) := by decide +kernel
theorem mj_d_116_30 : decode mj_m_116.2.1 30 = .ok (.aload_n 0, 1) := by decide +kernel
theorem mj_d_116_31 : decode mj_m_116.2.1 31 = .ok (.getfield 15, 3) := by decide +kernel
theorem mj_d_116_34 : decode mj_m_116.2.1 34 = .ok (.iload_n 2, 1) := by decide +kernel
theorem mj_d_116_35 : decode mj_m_116.2.1 35 = .ok (.iaload, 1) := by decide +kernel
theorem mj_d_116_36 : decode mj_m_116.2.1 36 = .ok (.if_icmp .eq 5, 3) := by decide +kernel
theorem mj_d_116_39 : decode mj_m_116.2.1 39 = .ok (.iload_n 2, 1) := by decide +kernel
theorem mj_d_116_40 : decode mj_m_116.2.1 40 = .ok (.ireturn, 1) := by decide +kernel
theorem mj_d_116_41 : decode mj_m_116.2.1 41 = .ok (.iinc 2 1, 3) := by decide +kernel
theorem mj_d_116_44 : decode mj_m_116.2.1 44 = .ok (.goto (-42), 3) := by decide +kernel
theorem mj_d_116_47 : decode mj_m_116.2.1 47 = .ok (.iconst (-1), 1) := by decide +kernel
theorem mj_d_116_48 : decode mj_m_116.2.1 48 = .ok (.ireturn, 1) := by decide +kernel
theorem mj_d_120_0 : decode mj_m_120.2.1 0 = .ok (.aload_n 0, 1) := by decide +kernel
theorem mj_d_120_1 : decode mj_m_120.2.1 1 = .ok (.getfield 11, 3) := by decide +kernel
theorem mj_d_120_4 : decode mj_m_120.2.1 4 = .ok (.iload_n 1, 1) := by decide +kernel
theorem mj_d_120_5 : decode mj_m_120.2.1 5 = .ok (.aaload, 1) := by decide +kernel
theorem mj_d_120_6 : decode mj_m_120.2.1 6 = .ok (.aload_n 2, 1) := by decide +kernel
theorem mj_d_120_7 : decode mj_m_120.2.1 7 = .ok (.invokevirtual 26, 3) := by decide +kernel
theorem mj_d_120_10 : decode mj_m_120.2.1 10 = .ok (.aload_n 0, 1) := by decide +kernel
theorem mj_d_120_11 : decode mj_m_120.2.1 11 = .ok (.getfield 17, 3) := by decide +kernel
theorem mj_d_120_14 : decode mj_m_120.2.1 14 = .ok (.iload_n 1, 1) := by decide +kernel
theorem mj_d_120_15 : decode mj_m_120.2.1 15 = .ok (.iload_n 3, 1) := by decide +kernel
theorem mj_d_120_16 : decode mj_m_120.2.1 16 = .ok (.iastore, 1) := by decide +kernel
theorem mj_d_120_17 : decode mj_m_120.2.1 17 = .ok (.aload_n 0, 1) := by decide +kernel
theorem mj_d_120_18 : decode mj_m_120.2.1 18 = .ok (.getfield 21, 3) := by decide +kernel
theorem mj_d_120_21 : decode mj_m_120.2.1 21 = .ok (.iload_n 1, 1) := by decide +kernel
theorem mj_d_120_22 : decode mj_m_120.2.1 22 = .ok (.iconst 1, 1) := by decide +kernel
theorem mj_d_120_23 : decode mj_m_120.2.1 23 = .ok (.bastore, 1) := by decide +kernel
theorem mj_d_120_24 : decode mj_m_120.2.1 24 = .ok (.return_, 1) := by decide +kernel
theorem mj_d_122_0 : decode mj_m_122.2.1 0 = .ok (.aload_n 0, 1) := by decide +kernel
theorem mj_d_122_1 : decode mj_m_122.2.1 1 = .ok (.getfield 21, 3) := by decide +kernel
theorem mj_d_122_4 : decode mj_m_122.2.1 4 = .ok (.iload_n 1, 1) := by decide +kernel
theorem mj_d_122_5 : decode mj_m_122.2.1 5 = .ok (.baload, 1) := by decide +kernel
theorem mj_d_122_6 : decode mj_m_122.2.1 6 = .ok (.ireturn, 1) := by decide +kernel
theorem mj_d_123_0 : decode mj_m_123.2.1 0 = .ok (.aload_n 2, 1) := by decide +kernel
theorem mj_d_123_1 : decode mj_m_123.2.1 1 = .ok (.aload_n 0, 1) := by decide +kernel
theorem mj_d_123_2 : decode mj_m_123.2.1 2 = .ok (.getfield 11, 3) := by decide +kernel
theorem mj_d_123_5 : decode mj_m_123.2.1 5 = .ok (.iload_n 1, 1) := by decide +kernel
theorem mj_d_123_6 : decode mj_m_123.2.1 6 = .ok (.aaload, 1) := by decide +kernel
theorem mj_d_123_7 : decode mj_m_123.2.1 7 = .ok (.invokevirtual 26, 3) := by decide +kernel
theorem mj_d_123_10 : decode mj_m_123.2.1 10 = .ok (.aload_n 0, 1) := by decide +kernel
theorem mj_d_123_11 : decode mj_m_123.2.1 11 = .ok (.getfield 17, 3) := by decide +kernel
theorem mj_d_123_14 : decode mj_m_123.2.1 14 = .ok (.iload_n 1, 1) := by decide +kernel
theorem mj_d_123_15 : decode mj_m_123.2.1 15 = .ok (.iaload, 1) := by decide +kernel
theorem mj_d_123_16 : decode mj_m_123.2.1 16 = .ok (.ireturn, 1) := by decide +kernel
def dc_St_begin_67 (n : Nat) : sg_S → Int → sg_S := Nat.rec (fun (s : sg_S) l2 => s) (fun _ ih => fun s l2 => (if 5 ≤ l2 then (sg_up (sg_up s 13 5 0) 13 6 0) else (ih (sg_up s 18 ((l2).toNat) 0) (l2 + 1)))) n
theorem dc_St_begin_67_s (n : Nat) (s : sg_S) (l2 : Int) : dc_St_begin_67 (n + 1) s l2 = (if 5 ≤ l2 then (sg_up (sg_up s 13 5 0) 13 6 0) else ((dc_St_begin_67 n) (sg_up s 18 ((l2).toNat) 0) (l2 + 1))) := rfl
def dc_St_begin_46 (n : Nat) : sg_S → Int → sg_S := Nat.rec (fun (s : sg_S) l2 => s) (fun _ ih => fun s l2 => (if 9 ≤ l2 then (dc_St_begin_67 6 s 0) else (ih (sg_up s 14 ((l2).toNat) 0) (l2 + 1)))) n
theorem dc_St_begin_46_s (n : Nat) (s : sg_S) (l2 : Int) : dc_St_begin_46 (n + 1) s l2 = (if 9 ≤ l2 then (dc_St_begin_67 6 s 0) else ((dc_St_begin_46 n) (sg_up s 14 ((l2).toNat) 0) (l2 + 1))) := rfl
def dc_St_begin (s : sg_S) : sg_S := (dc_St_begin_46 10 (sg_cp (sg_cp (sg_cp s 10 15) 9 16) 11 17) 0)
set_option maxRecDepth 100000 in
theorem dt_St_begin_67 : ∀ (n : Nat) {h : mj_H} (hH : sy_H h) {l2 : Int} (b_l2 : 0 ≤ l2) (t_l2 : l2 ≤ 5) (hm : 5 - l2 < (n : Int)), sy_wp (mj_m_30, 67, [(0, .ref 13), (2, sy_i l2)], [], h) (dq3 (dc_St_begin_67 n (sy_rd h) l2)) := by
  intro n
  induction n with
  | zero =>
    intro h hH l2 b_l2 t_l2 hm
    exact absurd hm (by omega)
  | succ n ih =>
    intro h hH l2 b_l2 t_l2 hm
    rw [dc_St_begin_67_s]
    refine sy_st (S' := (mj_m_30, 68, [(0, .ref 13), (2, sy_i l2)], [sy_i l2], h)) mj_d_30_67 (fun _ _ => rfl) ?_
    refine sy_st (S' := (mj_m_30, 69, [(0, .ref 13), (2, sy_i l2)], [sy_i 5, sy_i l2], h)) mj_d_30_68 (fun _ _ => rfl) ?_
    refine sy_icm mj_d_30_69 rfl ⟨by omega, by omega⟩ ⟨by omega, by omega⟩ (fun (c1 : 5 ≤ l2) => ?_) (fun (c1 : ¬ (5 ≤ l2)) => ?_)
    · skip
      rw [if_pos c1]
      refine sy_st (S' := (mj_m_30, 86, [(0, .ref 13), (2, sy_i l2)], [.ref 13], h)) mj_d_30_85 (fun _ _ => rfl) ?_
      refine sy_st (S' := (mj_m_30, 87, [(0, .ref 13), (2, sy_i l2)], [sy_i 0, .ref 13], h)) mj_d_30_86 (fun _ _ => rfl) ?_
      refine sg_pf (z := 0) mj_d_30_87 rfl rfl (by decide) (Or.inl rfl) rfl hH (by omega) (by omega) ⟨by omega, by omega⟩ ?_
      intro h2 th2 eh2
      refine sy_st (S' := (mj_m_30, 91, [(0, .ref 13), (2, sy_i l2)], [.ref 13], h2)) mj_d_30_90 (fun _ _ => rfl) ?_
      refine sy_st (S' := (mj_m_30, 92, [(0, .ref 13), (2, sy_i l2)], [sy_i 0, .ref 13], h2)) mj_d_30_91 (fun _ _ => rfl) ?_
      refine sg_pf (z := 0) mj_d_30_92 rfl rfl (by decide) (Or.inl rfl) rfl th2 (by omega) (by omega) ⟨by omega, by omega⟩ ?_
      intro h3 th3 eh3
      rw [eh2] at eh3
      exact sy_retv mj_d_30_95 rfl ⟨rfl, th3, eh3⟩
    · skip
      rw [if_neg c1]
      refine sy_st (S' := (mj_m_30, 73, [(0, .ref 13), (2, sy_i l2)], [.ref 13], h)) mj_d_30_72 (fun _ _ => rfl) ?_
      refine sy_gr2 (b := 18) mj_d_30_73 rfl rfl (by decide) rfl rfl hH ?_
      refine sy_st (S' := (mj_m_30, 77, [(0, .ref 13), (2, sy_i l2)], [sy_i l2, .ref 18], h)) mj_d_30_76 (fun _ _ => rfl) ?_
      refine sy_st (S' := (mj_m_30, 78, [(0, .ref 13), (2, sy_i l2)], [sy_i 0, sy_i l2, .ref 18], h)) mj_d_30_77 (fun _ _ => rfl) ?_
      refine sg_ias (v := 0) mj_d_30_78 rfl (by decide) (by omega) (by omega) (ab_el_1 rfl _) hH (by omega) (by omega) ⟨by omega, by omega⟩ ?_
      intro h4 th4 eh4
      refine sy_inc (a := l2) (lv' := [(2, sy_i (l2 + 1)), (0, .ref 13)]) mj_d_30_79 (Nat.le_of_ble_eq_true rfl) rfl rfl ?_
      refine sy_st (S' := (mj_m_30, 67, [(2, sy_i (l2 + 1)), (0, .ref 13)], [], h4)) mj_d_30_82 (fun _ _ => rfl) ?_
      refine sy_lv (lv := [(0, .ref 13), (2, sy_i (l2 + 1))]) rfl ⟨rfl, rfl, trivial⟩ ?_
      rw [← eh4]
      exact ih th4 (by first | omega | assumption) (by first | omega | assumption) (by omega)
set_option maxRecDepth 100000 in
theorem dt_St_begin_46 : ∀ (n : Nat) {h : mj_H} (hH : sy_H h) {l2 : Int} (b_l2 : 0 ≤ l2) (t_l2 : l2 ≤ 9) (hm : 9 - l2 < (n : Int)), sy_wp (mj_m_30, 46, [(0, .ref 13), (2, sy_i l2)], [], h) (dq3 (dc_St_begin_46 n (sy_rd h) l2)) := by
  intro n
  induction n with
  | zero =>
    intro h hH l2 b_l2 t_l2 hm
    exact absurd hm (by omega)
  | succ n ih =>
    intro h hH l2 b_l2 t_l2 hm
    rw [dc_St_begin_46_s]
    refine sy_st (S' := (mj_m_30, 47, [(0, .ref 13), (2, sy_i l2)], [sy_i l2], h)) mj_d_30_46 (fun _ _ => rfl) ?_
    refine sy_bip mj_d_30_47 (by decide) ?_
    refine sy_icm mj_d_30_49 rfl ⟨by omega, by omega⟩ ⟨by omega, by omega⟩ (fun (c1 : 9 ≤ l2) => ?_) (fun (c1 : ¬ (9 ≤ l2)) => ?_)
    · skip
      rw [if_pos c1]
      refine sy_st (S' := (mj_m_30, 66, [(0, .ref 13), (2, sy_i l2)], [sy_i 0], h)) mj_d_30_65 (fun _ _ => rfl) ?_
      refine sy_st (S' := (mj_m_30, 67, [(2, sy_i 0), (0, .ref 13)], [], h)) mj_d_30_66 (fun _ _ => rfl) ?_
      refine sy_lv (lv := [(0, .ref 13), (2, sy_i 0)]) rfl ⟨rfl, rfl, trivial⟩ ?_
      exact dt_St_begin_67 6 hH (by first | omega | assumption) (by first | omega | assumption) (by omega)
    · skip
      rw [if_neg c1]
      refine sy_st (S' := (mj_m_30, 53, [(0, .ref 13), (2, sy_i l2)], [.ref 13], h)) mj_d_30_52 (fun _ _ => rfl) ?_
      refine sy_gr2 (b := 14) mj_d_30_53 rfl rfl (by decide) rfl rfl hH ?_
      refine sy_st (S' := (mj_m_30, 57, [(0, .ref 13), (2, sy_i l2)], [sy_i l2, .ref 14], h)) mj_d_30_56 (fun _ _ => rfl) ?_
      refine sy_st (S' := (mj_m_30, 58, [(0, .ref 13), (2, sy_i l2)], [sy_i 0, sy_i l2, .ref 14], h)) mj_d_30_57 (fun _ _ => rfl) ?_
      refine sg_ias (v := 0) mj_d_30_58 rfl (by decide) (by omega) (by omega) (ab_el_1 rfl _) hH (by omega) (by omega) ⟨by omega, by omega⟩ ?_
      intro h2 th2 eh2
      refine sy_inc (a := l2) (lv' := [(2, sy_i (l2 + 1)), (0, .ref 13)]) mj_d_30_59 (Nat.le_of_ble_eq_true rfl) rfl rfl ?_
      refine sy_st (S' := (mj_m_30, 46, [(2, sy_i (l2 + 1)), (0, .ref 13)], [], h2)) mj_d_30_62 (fun _ _ => rfl) ?_
      refine sy_lv (lv := [(0, .ref 13), (2, sy_i (l2 + 1))]) rfl ⟨rfl, rfl, trivial⟩ ?_
      rw [← eh2]
      exact ih th2 (by first | omega | assumption) (by first | omega | assumption) (by omega)
set_option maxRecDepth 100000 in
theorem dt_St_begin {h : mj_H} (hH : sy_H h) : sy_wp (mj_m_30, 0, [(0, .ref 13), (1, .ref 8)], [], h) (dq3 (dc_St_begin (sy_rd h))) := by
  unfold dc_St_begin
  refine sy_st (S' := (mj_m_30, 1, [(0, .ref 13), (1, .ref 8)], [.ref 8], h)) mj_d_30_0 (fun _ _ => rfl) ?_
  refine sy_gr2 (b := 10) mj_d_30_1 rfl rfl (by decide) rfl rfl hH ?_
  refine sy_st (S' := (mj_m_30, 5, [(0, .ref 13), (1, .ref 8)], [sy_i 0, .ref 10], h)) mj_d_30_4 (fun _ _ => rfl) ?_
  refine sy_st (S' := (mj_m_30, 6, [(0, .ref 13), (1, .ref 8)], [.ref 13, sy_i 0, .ref 10], h)) mj_d_30_5 (fun _ _ => rfl) ?_
  refine sy_gr2 (b := 15) mj_d_30_6 rfl rfl (by decide) rfl rfl hH ?_
  refine sy_st (S' := (mj_m_30, 10, [(0, .ref 13), (1, .ref 8)], [sy_i 0, .ref 15, sy_i 0, .ref 10], h)) mj_d_30_9 (fun _ _ => rfl) ?_
  refine sy_bip mj_d_30_10 (by decide) ?_
  refine sg_ac (ln := 9) mj_d_30_12 rfl rfl rfl (by decide) ⟨by decide, by decide⟩ hH ?_
  intro h1 th1 eh1
  refine sy_st (S' := (mj_m_30, 16, [(0, .ref 13), (1, .ref 8)], [.ref 8], h1)) mj_d_30_15 (fun _ _ => rfl) ?_
  refine sy_gr2 (b := 9) mj_d_30_16 rfl rfl (by decide) rfl rfl th1 ?_
  refine sy_st (S' := (mj_m_30, 20, [(0, .ref 13), (1, .ref 8)], [sy_i 0, .ref 9], h1)) mj_d_30_19 (fun _ _ => rfl) ?_
  refine sy_st (S' := (mj_m_30, 21, [(0, .ref 13), (1, .ref 8)], [.ref 13, sy_i 0, .ref 9], h1)) mj_d_30_20 (fun _ _ => rfl) ?_
  refine sy_gr2 (b := 16) mj_d_30_21 rfl rfl (by decide) rfl rfl th1 ?_
  refine sy_st (S' := (mj_m_30, 25, [(0, .ref 13), (1, .ref 8)], [sy_i 0, .ref 16, sy_i 0, .ref 9], h1)) mj_d_30_24 (fun _ _ => rfl) ?_
  refine sy_bip mj_d_30_25 (by decide) ?_
  refine sg_ac (ln := 9) mj_d_30_27 rfl rfl rfl (by decide) ⟨by decide, by decide⟩ th1 ?_
  intro h2 th2 eh2
  rw [eh1] at eh2
  refine sy_st (S' := (mj_m_30, 31, [(0, .ref 13), (1, .ref 8)], [.ref 8], h2)) mj_d_30_30 (fun _ _ => rfl) ?_
  refine sy_gr2 (b := 11) mj_d_30_31 rfl rfl (by decide) rfl rfl th2 ?_
  refine sy_st (S' := (mj_m_30, 35, [(0, .ref 13), (1, .ref 8)], [sy_i 0, .ref 11], h2)) mj_d_30_34 (fun _ _ => rfl) ?_
  refine sy_st (S' := (mj_m_30, 36, [(0, .ref 13), (1, .ref 8)], [.ref 13, sy_i 0, .ref 11], h2)) mj_d_30_35 (fun _ _ => rfl) ?_
  refine sy_gr2 (b := 17) mj_d_30_36 rfl rfl (by decide) rfl rfl th2 ?_
  refine sy_st (S' := (mj_m_30, 40, [(0, .ref 13), (1, .ref 8)], [sy_i 0, .ref 17, sy_i 0, .ref 11], h2)) mj_d_30_39 (fun _ _ => rfl) ?_
  refine sy_st (S' := (mj_m_30, 41, [(0, .ref 13), (1, .ref 8)], [sy_i 5, sy_i 0, .ref 17, sy_i 0, .ref 11], h2)) mj_d_30_40 (fun _ _ => rfl) ?_
  refine sg_ac (ln := 5) mj_d_30_41 rfl rfl rfl (by decide) ⟨by decide, by decide⟩ th2 ?_
  intro h3 th3 eh3
  rw [eh2] at eh3
  refine sy_st (S' := (mj_m_30, 45, [(0, .ref 13), (1, .ref 8)], [sy_i 0], h3)) mj_d_30_44 (fun _ _ => rfl) ?_
  refine sy_st (S' := (mj_m_30, 46, [(2, sy_i 0), (0, .ref 13), (1, .ref 8)], [], h3)) mj_d_30_45 (fun _ _ => rfl) ?_
  refine sy_lv (lv := [(0, .ref 13), (2, sy_i 0)]) rfl ⟨rfl, rfl, trivial⟩ ?_
  rw [← eh3]
  exact dt_St_begin_46 10 th3 (by first | omega | assumption) (by first | omega | assumption) (by omega)
def dc_St_layersOfAll_4 (n : Nat) : sg_S → Int → Int → Int := Nat.rec (fun (s : sg_S) l1 l2 => 0) (fun _ ih => fun s l1 l2 => (if 9 ≤ l2 then l1 else (ih s (l1 + (dc_Soot_layers s (s 14 ((l2).toNat)))) (l2 + 1)))) n
theorem dc_St_layersOfAll_4_s (n : Nat) (s : sg_S) (l1 l2 : Int) : dc_St_layersOfAll_4 (n + 1) s l1 l2 = (if 9 ≤ l2 then l1 else ((dc_St_layersOfAll_4 n) s (l1 + (dc_Soot_layers s (s 14 ((l2).toNat)))) (l2 + 1))) := rfl
def dc_St_layersOfAll (s : sg_S) : Int := (dc_St_layersOfAll_4 10 s 0 0)
set_option maxRecDepth 100000 in
theorem dt_St_layersOfAll_4 : ∀ (n : Nat) {h : mj_H} (hH : sy_H h) {l1 l2 : Int} (b_l1 : 0 ≤ l1) (t_l1 : l1 ≤ 72) (b_l2 : 0 ≤ l2) (t_l2 : l2 ≤ 9) (i0 : l1 ≤ 8 * l2) (hm : 9 - l2 < (n : Int)), sy_wp (mj_m_35, 4, [(0, .ref 13), (1, sy_i l1), (2, sy_i l2)], [], h) (dq1 h (0) (72) (dc_St_layersOfAll_4 n (sy_rd h) l1 l2)) := by
  intro n
  induction n with
  | zero =>
    intro h hH l1 l2 b_l1 t_l1 b_l2 t_l2 i0 hm
    exact absurd hm (by omega)
  | succ n ih =>
    intro h hH l1 l2 b_l1 t_l1 b_l2 t_l2 i0 hm
    rw [dc_St_layersOfAll_4_s]
    refine sy_st (S' := (mj_m_35, 5, [(0, .ref 13), (1, sy_i l1), (2, sy_i l2)], [sy_i l2], h)) mj_d_35_4 (fun _ _ => rfl) ?_
    refine sy_bip mj_d_35_5 (by decide) ?_
    refine sy_icm mj_d_35_7 rfl ⟨by omega, by omega⟩ ⟨by omega, by omega⟩ (fun (c1 : 9 ≤ l2) => ?_) (fun (c1 : ¬ (9 ≤ l2)) => ?_)
    · skip
      rw [if_pos c1]
      refine sy_st (S' := (mj_m_35, 29, [(0, .ref 13), (1, sy_i l1), (2, sy_i l2)], [sy_i l1], h)) mj_d_35_28 (fun _ _ => rfl) ?_
      exact sy_reti mj_d_35_29 rfl ⟨rfl, rfl, by omega, by omega⟩
    · skip
      rw [if_neg c1]
      refine sy_st (S' := (mj_m_35, 11, [(0, .ref 13), (1, sy_i l1), (2, sy_i l2)], [sy_i l1], h)) mj_d_35_10 (fun _ _ => rfl) ?_
      refine sy_st (S' := (mj_m_35, 12, [(0, .ref 13), (1, sy_i l1), (2, sy_i l2)], [.ref 13, sy_i l1], h)) mj_d_35_11 (fun _ _ => rfl) ?_
      refine sy_gr2 (b := 14) mj_d_35_12 rfl rfl (by decide) rfl rfl hH ?_
      refine sy_st (S' := (mj_m_35, 16, [(0, .ref 13), (1, sy_i l1), (2, sy_i l2)], [sy_i l2, .ref 14, sy_i l1], h)) mj_d_35_15 (fun _ _ => rfl) ?_
      refine sy_ia mj_d_35_16 rfl (by decide) (by omega) (by omega) (ab_el_1 rfl _) hH ?_
      rintro _ rfl bx2 tx2
      refine sy_cs (M' := mj_m_36) (vs := [sy_i (sy_rd h 14 ((l2).toNat))]) (rest := [sy_i l1]) mj_d_35_17 rfl rfl rfl rfl ⟨Nat.le_of_ble_eq_true rfl, Nat.le_of_ble_eq_true rfl, Nat.le_of_ble_eq_true rfl, Nat.le_of_ble_eq_true rfl, Nat.le_of_ble_eq_true rfl⟩ (dt_Soot_layers (a0 := (sy_rd h 14 ((l2).toNat))) hH (by omega) (by omega)) ?_
      rintro _ _ ⟨rfl, rfl, b3, b3t⟩
      show sy_wp (mj_m_35, 20, [(0, .ref 13), (1, sy_i l1), (2, sy_i l2)], [sy_i (dc_Soot_layers (sy_rd h) (sy_rd h 14 ((l2).toNat))), sy_i l1], h) _
      refine sy_add mj_d_35_20 ?_
      refine sy_st (S' := (mj_m_35, 22, [(1, sy_i (l1 + (dc_Soot_layers (sy_rd h) (sy_rd h 14 ((l2).toNat))))), (0, .ref 13), (2, sy_i l2)], [], h)) mj_d_35_21 (fun _ _ => rfl) ?_
      refine sy_inc (a := l2) (lv' := [(2, sy_i (l2 + 1)), (1, sy_i (l1 + (dc_Soot_layers (sy_rd h) (sy_rd h 14 ((l2).toNat))))), (0, .ref 13)]) mj_d_35_22 (Nat.le_of_ble_eq_true rfl) rfl rfl ?_
      refine sy_st (S' := (mj_m_35, 4, [(2, sy_i (l2 + 1)), (1, sy_i (l1 + (dc_Soot_layers (sy_rd h) (sy_rd h 14 ((l2).toNat))))), (0, .ref 13)], [], h)) mj_d_35_25 (fun _ _ => rfl) ?_
      refine sy_lv (lv := [(0, .ref 13), (1, sy_i (l1 + (dc_Soot_layers (sy_rd h) (sy_rd h 14 ((l2).toNat))))), (2, sy_i (l2 + 1))]) rfl ⟨rfl, rfl, rfl, trivial⟩ ?_
      exact ih hH (by first | omega | assumption) (by first | omega | assumption) (by first | omega | assumption) (by first | omega | assumption) (by first | omega | assumption) (by omega)
set_option maxRecDepth 100000 in
theorem dt_St_layersOfAll {h : mj_H} (hH : sy_H h) : sy_wp (mj_m_35, 0, [(0, .ref 13)], [], h) (dq1 h (0) (72) (dc_St_layersOfAll (sy_rd h))) := by
  unfold dc_St_layersOfAll
  refine sy_st (S' := (mj_m_35, 1, [(0, .ref 13)], [sy_i 0], h)) mj_d_35_0 (fun _ _ => rfl) ?_
  refine sy_st (S' := (mj_m_35, 2, [(1, sy_i 0), (0, .ref 13)], [], h)) mj_d_35_1 (fun _ _ => rfl) ?_
  refine sy_st (S' := (mj_m_35, 3, [(1, sy_i 0), (0, .ref 13)], [sy_i 0], h)) mj_d_35_2 (fun _ _ => rfl) ?_
  refine sy_st (S' := (mj_m_35, 4, [(2, sy_i 0), (1, sy_i 0), (0, .ref 13)], [], h)) mj_d_35_3 (fun _ _ => rfl) ?_
  refine sy_lv (lv := [(0, .ref 13), (1, sy_i 0), (2, sy_i 0)]) rfl ⟨rfl, rfl, rfl, trivial⟩ ?_
  exact dt_St_layersOfAll_4 10 hH (by first | omega | assumption) (by first | omega | assumption) (by first | omega | assumption) (by first | omega | assumption) (by first | omega | assumption) (by omega)
def dc_St_burnIn_5 (n : Nat) : sg_S → Int → Int → Int → sg_S := Nat.rec (fun (s : sg_S) l1 l3 l4 => s) (fun _ ih => fun s l1 l3 l4 => (if 9 ≤ l4 then (if (dc_Plan_neighbour s l1) < 0 then s else (sg_up s 14 ((dc_Plan_neighbour s l1).toNat) (dc_Soot_laid s (s 14 ((dc_Plan_neighbour s l1).toNat)) (s 15 ((l1).toNat))))) else (if l3 < 0 then (if (dc_Plan_neighbour s l1) < 0 then s else (sg_up s 14 ((dc_Plan_neighbour s l1).toNat) (dc_Soot_laid s (s 14 ((dc_Plan_neighbour s l1).toNat)) (s 15 ((l1).toNat))))) else (if 9 ≤ l3 then (if (dc_Plan_neighbour s l1) < 0 then s else (sg_up s 14 ((dc_Plan_neighbour s l1).toNat) (dc_Soot_laid s (s 14 ((dc_Plan_neighbour s l1).toNat)) (s 15 ((l1).toNat))))) else (ih (sg_up s 14 ((l3).toNat) (dc_Soot_laid s (s 14 ((l3).toNat)) (s 15 ((l1).toNat)))) l1 (s 16 ((l3).toNat)) (l4 + 1)))))) n
theorem dc_St_burnIn_5_s (n : Nat) (s : sg_S) (l1 l3 l4 : Int) : dc_St_burnIn_5 (n + 1) s l1 l3 l4 = (if 9 ≤ l4 then (if (dc_Plan_neighbour s l1) < 0 then s else (sg_up s 14 ((dc_Plan_neighbour s l1).toNat) (dc_Soot_laid s (s 14 ((dc_Plan_neighbour s l1).toNat)) (s 15 ((l1).toNat))))) else (if l3 < 0 then (if (dc_Plan_neighbour s l1) < 0 then s else (sg_up s 14 ((dc_Plan_neighbour s l1).toNat) (dc_Soot_laid s (s 14 ((dc_Plan_neighbour s l1).toNat)) (s 15 ((l1).toNat))))) else (if 9 ≤ l3 then (if (dc_Plan_neighbour s l1) < 0 then s else (sg_up s 14 ((dc_Plan_neighbour s l1).toNat) (dc_Soot_laid s (s 14 ((dc_Plan_neighbour s l1).toNat)) (s 15 ((l1).toNat))))) else ((dc_St_burnIn_5 n) (sg_up s 14 ((l3).toNat) (dc_Soot_laid s (s 14 ((l3).toNat)) (s 15 ((l1).toNat)))) l1 (s 16 ((l3).toNat)) (l4 + 1))))) := rfl
def dc_St_burnIn (s : sg_S) (a1 : Int) : sg_S := (dc_St_burnIn_5 10 s a1 a1 0)
set_option maxRecDepth 100000 in
theorem dt_St_burnIn_5 : ∀ (n : Nat) {h : mj_H} (hH : sy_H h) {l1 l3 l4 : Int} (b_l1 : 0 ≤ l1) (t_l1 : l1 ≤ 8) (b_l3 : (-1) ≤ l3) (t_l3 : l3 ≤ 8) (b_l4 : 0 ≤ l4) (t_l4 : l4 ≤ 9) (hm : 9 - l4 < (n : Int)), sy_wp (mj_m_51, 5, [(0, .ref 13), (1, sy_i l1), (2, .ref 8), (3, sy_i l3), (4, sy_i l4)], [], h) (dq3 (dc_St_burnIn_5 n (sy_rd h) l1 l3 l4)) := by
  intro n
  induction n with
  | zero =>
    intro h hH l1 l3 l4 b_l1 t_l1 b_l3 t_l3 b_l4 t_l4 hm
    exact absurd hm (by omega)
  | succ n ih =>
    intro h hH l1 l3 l4 b_l1 t_l1 b_l3 t_l3 b_l4 t_l4 hm
    rw [dc_St_burnIn_5_s]
    refine sy_st (S' := (mj_m_51, 7, [(0, .ref 13), (1, sy_i l1), (2, .ref 8), (3, sy_i l3), (4, sy_i l4)], [sy_i l4], h)) mj_d_51_5 (fun _ _ => rfl) ?_
    refine sy_bip mj_d_51_7 (by decide) ?_
    refine sy_icm mj_d_51_9 rfl ⟨by omega, by omega⟩ ⟨by omega, by omega⟩ (fun (c1 : 9 ≤ l4) => ?_) (fun (c1 : ¬ (9 ≤ l4)) => ?_)
    · skip
      rw [if_pos c1]
      refine sy_st (S' := (mj_m_51, 57, [(0, .ref 13), (1, sy_i l1), (2, .ref 8), (3, sy_i l3), (4, sy_i l4)], [.ref 8], h)) mj_d_51_56 (fun _ _ => rfl) ?_
      refine sy_st (S' := (mj_m_51, 58, [(0, .ref 13), (1, sy_i l1), (2, .ref 8), (3, sy_i l3), (4, sy_i l4)], [sy_i l1, .ref 8], h)) mj_d_51_57 (fun _ _ => rfl) ?_
      refine sy_cv (M' := mj_m_53) (vs := [.ref 8, sy_i l1]) (rest := []) mj_d_51_58 rfl rfl rfl rfl hH rfl rfl ⟨by decide, ⟨Nat.le_of_ble_eq_true rfl, Nat.le_of_ble_eq_true rfl, Nat.le_of_ble_eq_true rfl, Nat.le_of_ble_eq_true rfl, Nat.le_of_ble_eq_true rfl⟩⟩ (dt_Plan_neighbour (a1 := l1) hH (by omega) (by omega)) ?_
      rintro _ _ ⟨rfl, rfl, b2, b2t⟩
      show sy_wp (mj_m_51, 61, [(0, .ref 13), (1, sy_i l1), (2, .ref 8), (3, sy_i l3), (4, sy_i l4)], [sy_i (dc_Plan_neighbour (sy_rd h) l1)], h) _
      refine sy_st (S' := (mj_m_51, 63, [(4, sy_i (dc_Plan_neighbour (sy_rd h) l1)), (0, .ref 13), (1, sy_i l1), (2, .ref 8), (3, sy_i l3)], [], h)) mj_d_51_61 (fun _ _ => rfl) ?_
      refine sy_st (S' := (mj_m_51, 65, [(4, sy_i (dc_Plan_neighbour (sy_rd h) l1)), (0, .ref 13), (1, sy_i l1), (2, .ref 8), (3, sy_i l3)], [sy_i (dc_Plan_neighbour (sy_rd h) l1)], h)) mj_d_51_63 (fun _ _ => rfl) ?_
      refine sy_ifc mj_d_51_65 rfl ⟨by omega, by omega⟩ (fun (c3 : (dc_Plan_neighbour (sy_rd h) l1) < 0) => ?_) (fun (c3 : ¬ ((dc_Plan_neighbour (sy_rd h) l1) < 0)) => ?_)
      · skip
        rw [if_pos c3]
        exact sy_retv mj_d_51_91 rfl ⟨rfl, hH, rfl⟩
      · skip
        rw [if_neg c3]
        refine sy_st (S' := (mj_m_51, 69, [(4, sy_i (dc_Plan_neighbour (sy_rd h) l1)), (0, .ref 13), (1, sy_i l1), (2, .ref 8), (3, sy_i l3)], [.ref 13], h)) mj_d_51_68 (fun _ _ => rfl) ?_
        refine sy_gr2 (b := 14) mj_d_51_69 rfl rfl (by decide) rfl rfl hH ?_
        refine sy_st (S' := (mj_m_51, 74, [(4, sy_i (dc_Plan_neighbour (sy_rd h) l1)), (0, .ref 13), (1, sy_i l1), (2, .ref 8), (3, sy_i l3)], [sy_i (dc_Plan_neighbour (sy_rd h) l1), .ref 14], h)) mj_d_51_72 (fun _ _ => rfl) ?_
        refine sy_st (S' := (mj_m_51, 75, [(4, sy_i (dc_Plan_neighbour (sy_rd h) l1)), (0, .ref 13), (1, sy_i l1), (2, .ref 8), (3, sy_i l3)], [.ref 13, sy_i (dc_Plan_neighbour (sy_rd h) l1), .ref 14], h)) mj_d_51_74 (fun _ _ => rfl) ?_
        refine sy_gr2 (b := 14) mj_d_51_75 rfl rfl (by decide) rfl rfl hH ?_
        refine sy_st (S' := (mj_m_51, 80, [(4, sy_i (dc_Plan_neighbour (sy_rd h) l1)), (0, .ref 13), (1, sy_i l1), (2, .ref 8), (3, sy_i l3)], [sy_i (dc_Plan_neighbour (sy_rd h) l1), .ref 14, sy_i (dc_Plan_neighbour (sy_rd h) l1), .ref 14], h)) mj_d_51_78 (fun _ _ => rfl) ?_
        refine sy_ia mj_d_51_80 rfl (by decide) (by omega) (by omega) (ab_el_1 rfl _) hH ?_
        rintro _ rfl bx4 tx4
        refine sy_st (S' := (mj_m_51, 82, [(4, sy_i (dc_Plan_neighbour (sy_rd h) l1)), (0, .ref 13), (1, sy_i l1), (2, .ref 8), (3, sy_i l3)], [.ref 13, sy_i (sy_rd h 14 ((dc_Plan_neighbour (sy_rd h) l1).toNat)), sy_i (dc_Plan_neighbour (sy_rd h) l1), .ref 14], h)) mj_d_51_81 (fun _ _ => rfl) ?_
        refine sy_gr2 (b := 15) mj_d_51_82 rfl rfl (by decide) rfl rfl hH ?_
        refine sy_st (S' := (mj_m_51, 86, [(4, sy_i (dc_Plan_neighbour (sy_rd h) l1)), (0, .ref 13), (1, sy_i l1), (2, .ref 8), (3, sy_i l3)], [sy_i l1, .ref 15, sy_i (sy_rd h 14 ((dc_Plan_neighbour (sy_rd h) l1).toNat)), sy_i (dc_Plan_neighbour (sy_rd h) l1), .ref 14], h)) mj_d_51_85 (fun _ _ => rfl) ?_
        refine sy_ia mj_d_51_86 rfl (by decide) (by omega) (by omega) (ab_el_1 rfl _) hH ?_
        rintro _ rfl bx5 tx5
        refine sy_cs (M' := mj_m_52) (vs := [sy_i (sy_rd h 14 ((dc_Plan_neighbour (sy_rd h) l1).toNat)), sy_i (sy_rd h 15 ((l1).toNat))]) (rest := [sy_i (dc_Plan_neighbour (sy_rd h) l1), .ref 14]) mj_d_51_87 rfl rfl rfl rfl ⟨Nat.le_of_ble_eq_true rfl, Nat.le_of_ble_eq_true rfl, Nat.le_of_ble_eq_true rfl, Nat.le_of_ble_eq_true rfl, Nat.le_of_ble_eq_true rfl⟩ (dt_Soot_laid (a0 := (sy_rd h 14 ((dc_Plan_neighbour (sy_rd h) l1).toNat))) (a1 := (sy_rd h 15 ((l1).toNat))) hH (by omega) (by omega) (by omega) (by omega)) ?_
        rintro _ _ ⟨rfl, rfl, b6, b6t⟩
        show sy_wp (mj_m_51, 90, [(4, sy_i (dc_Plan_neighbour (sy_rd h) l1)), (0, .ref 13), (1, sy_i l1), (2, .ref 8), (3, sy_i l3)], [sy_i (dc_Soot_laid (sy_rd h) (sy_rd h 14 ((dc_Plan_neighbour (sy_rd h) l1).toNat)) (sy_rd h 15 ((l1).toNat))), sy_i (dc_Plan_neighbour (sy_rd h) l1), .ref 14], h) _
        refine sg_ias (v := (dc_Soot_laid (sy_rd h) (sy_rd h 14 ((dc_Plan_neighbour (sy_rd h) l1).toNat)) (sy_rd h 15 ((l1).toNat)))) mj_d_51_90 rfl (by decide) (by omega) (by omega) (ab_el_1 rfl _) hH (by omega) (by omega) ⟨by omega, by omega⟩ ?_
        intro h7 th7 eh7
        exact sy_retv mj_d_51_91 rfl ⟨rfl, th7, eh7⟩
    · skip
      rw [if_neg c1]
      refine sy_st (S' := (mj_m_51, 13, [(0, .ref 13), (1, sy_i l1), (2, .ref 8), (3, sy_i l3), (4, sy_i l4)], [sy_i l3], h)) mj_d_51_12 (fun _ _ => rfl) ?_
      refine sy_ifc mj_d_51_13 rfl ⟨by omega, by omega⟩ (fun (c8 : l3 < 0) => ?_) (fun (c8 : ¬ (l3 < 0)) => ?_)
      · skip
        rw [if_pos c8]
        refine sy_st (S' := (mj_m_51, 57, [(0, .ref 13), (1, sy_i l1), (2, .ref 8), (3, sy_i l3), (4, sy_i l4)], [.ref 8], h)) mj_d_51_56 (fun _ _ => rfl) ?_
        refine sy_st (S' := (mj_m_51, 58, [(0, .ref 13), (1, sy_i l1), (2, .ref 8), (3, sy_i l3), (4, sy_i l4)], [sy_i l1, .ref 8], h)) mj_d_51_57 (fun _ _ => rfl) ?_
        refine sy_cv (M' := mj_m_53) (vs := [.ref 8, sy_i l1]) (rest := []) mj_d_51_58 rfl rfl rfl rfl hH rfl rfl ⟨by decide, ⟨Nat.le_of_ble_eq_true rfl, Nat.le_of_ble_eq_true rfl, Nat.le_of_ble_eq_true rfl, Nat.le_of_ble_eq_true rfl, Nat.le_of_ble_eq_true rfl⟩⟩ (dt_Plan_neighbour (a1 := l1) hH (by omega) (by omega)) ?_
        rintro _ _ ⟨rfl, rfl, b9, b9t⟩
        show sy_wp (mj_m_51, 61, [(0, .ref 13), (1, sy_i l1), (2, .ref 8), (3, sy_i l3), (4, sy_i l4)], [sy_i (dc_Plan_neighbour (sy_rd h) l1)], h) _
        refine sy_st (S' := (mj_m_51, 63, [(4, sy_i (dc_Plan_neighbour (sy_rd h) l1)), (0, .ref 13), (1, sy_i l1), (2, .ref 8), (3, sy_i l3)], [], h)) mj_d_51_61 (fun _ _ => rfl) ?_
        refine sy_st (S' := (mj_m_51, 65, [(4, sy_i (dc_Plan_neighbour (sy_rd h) l1)), (0, .ref 13), (1, sy_i l1), (2, .ref 8), (3, sy_i l3)], [sy_i (dc_Plan_neighbour (sy_rd h) l1)], h)) mj_d_51_63 (fun _ _ => rfl) ?_
        refine sy_ifc mj_d_51_65 rfl ⟨by omega, by omega⟩ (fun (c10 : (dc_Plan_neighbour (sy_rd h) l1) < 0) => ?_) (fun (c10 : ¬ ((dc_Plan_neighbour (sy_rd h) l1) < 0)) => ?_)
        · skip
          rw [if_pos c10]
          exact sy_retv mj_d_51_91 rfl ⟨rfl, hH, rfl⟩
        · skip
          rw [if_neg c10]
          refine sy_st (S' := (mj_m_51, 69, [(4, sy_i (dc_Plan_neighbour (sy_rd h) l1)), (0, .ref 13), (1, sy_i l1), (2, .ref 8), (3, sy_i l3)], [.ref 13], h)) mj_d_51_68 (fun _ _ => rfl) ?_
          refine sy_gr2 (b := 14) mj_d_51_69 rfl rfl (by decide) rfl rfl hH ?_
          refine sy_st (S' := (mj_m_51, 74, [(4, sy_i (dc_Plan_neighbour (sy_rd h) l1)), (0, .ref 13), (1, sy_i l1), (2, .ref 8), (3, sy_i l3)], [sy_i (dc_Plan_neighbour (sy_rd h) l1), .ref 14], h)) mj_d_51_72 (fun _ _ => rfl) ?_
          refine sy_st (S' := (mj_m_51, 75, [(4, sy_i (dc_Plan_neighbour (sy_rd h) l1)), (0, .ref 13), (1, sy_i l1), (2, .ref 8), (3, sy_i l3)], [.ref 13, sy_i (dc_Plan_neighbour (sy_rd h) l1), .ref 14], h)) mj_d_51_74 (fun _ _ => rfl) ?_
          refine sy_gr2 (b := 14) mj_d_51_75 rfl rfl (by decide) rfl rfl hH ?_
          refine sy_st (S' := (mj_m_51, 80, [(4, sy_i (dc_Plan_neighbour (sy_rd h) l1)), (0, .ref 13), (1, sy_i l1), (2, .ref 8), (3, sy_i l3)], [sy_i (dc_Plan_neighbour (sy_rd h) l1), .ref 14, sy_i (dc_Plan_neighbour (sy_rd h) l1), .ref 14], h)) mj_d_51_78 (fun _ _ => rfl) ?_
          refine sy_ia mj_d_51_80 rfl (by decide) (by omega) (by omega) (ab_el_1 rfl _) hH ?_
          rintro _ rfl bx11 tx11
          refine sy_st (S' := (mj_m_51, 82, [(4, sy_i (dc_Plan_neighbour (sy_rd h) l1)), (0, .ref 13), (1, sy_i l1), (2, .ref 8), (3, sy_i l3)], [.ref 13, sy_i (sy_rd h 14 ((dc_Plan_neighbour (sy_rd h) l1).toNat)), sy_i (dc_Plan_neighbour (sy_rd h) l1), .ref 14], h)) mj_d_51_81 (fun _ _ => rfl) ?_
          refine sy_gr2 (b := 15) mj_d_51_82 rfl rfl (by decide) rfl rfl hH ?_
          refine sy_st (S' := (mj_m_51, 86, [(4, sy_i (dc_Plan_neighbour (sy_rd h) l1)), (0, .ref 13), (1, sy_i l1), (2, .ref 8), (3, sy_i l3)], [sy_i l1, .ref 15, sy_i (sy_rd h 14 ((dc_Plan_neighbour (sy_rd h) l1).toNat)), sy_i (dc_Plan_neighbour (sy_rd h) l1), .ref 14], h)) mj_d_51_85 (fun _ _ => rfl) ?_
          refine sy_ia mj_d_51_86 rfl (by decide) (by omega) (by omega) (ab_el_1 rfl _) hH ?_
          rintro _ rfl bx12 tx12
          refine sy_cs (M' := mj_m_52) (vs := [sy_i (sy_rd h 14 ((dc_Plan_neighbour (sy_rd h) l1).toNat)), sy_i (sy_rd h 15 ((l1).toNat))]) (rest := [sy_i (dc_Plan_neighbour (sy_rd h) l1), .ref 14]) mj_d_51_87 rfl rfl rfl rfl ⟨Nat.le_of_ble_eq_true rfl, Nat.le_of_ble_eq_true rfl, Nat.le_of_ble_eq_true rfl, Nat.le_of_ble_eq_true rfl, Nat.le_of_ble_eq_true rfl⟩ (dt_Soot_laid (a0 := (sy_rd h 14 ((dc_Plan_neighbour (sy_rd h) l1).toNat))) (a1 := (sy_rd h 15 ((l1).toNat))) hH (by omega) (by omega) (by omega) (by omega)) ?_
          rintro _ _ ⟨rfl, rfl, b13, b13t⟩
          show sy_wp (mj_m_51, 90, [(4, sy_i (dc_Plan_neighbour (sy_rd h) l1)), (0, .ref 13), (1, sy_i l1), (2, .ref 8), (3, sy_i l3)], [sy_i (dc_Soot_laid (sy_rd h) (sy_rd h 14 ((dc_Plan_neighbour (sy_rd h) l1).toNat)) (sy_rd h 15 ((l1).toNat))), sy_i (dc_Plan_neighbour (sy_rd h) l1), .ref 14], h) _
          refine sg_ias (v := (dc_Soot_laid (sy_rd h) (sy_rd h 14 ((dc_Plan_neighbour (sy_rd h) l1).toNat)) (sy_rd h 15 ((l1).toNat)))) mj_d_51_90 rfl (by decide) (by omega) (by omega) (ab_el_1 rfl _) hH (by omega) (by omega) ⟨by omega, by omega⟩ ?_
          intro h14 th14 eh14
          exact sy_retv mj_d_51_91 rfl ⟨rfl, th14, eh14⟩
      · skip
        rw [if_neg c8]
        refine sy_st (S' := (mj_m_51, 17, [(0, .ref 13), (1, sy_i l1), (2, .ref 8), (3, sy_i l3), (4, sy_i l4)], [sy_i l3], h)) mj_d_51_16 (fun _ _ => rfl) ?_
        refine sy_bip mj_d_51_17 (by decide) ?_
        refine sy_icm mj_d_51_19 rfl ⟨by omega, by omega⟩ ⟨by omega, by omega⟩ (fun (c15 : 9 ≤ l3) => ?_) (fun (c15 : ¬ (9 ≤ l3)) => ?_)
        · skip
          rw [if_pos c15]
          refine sy_st (S' := (mj_m_51, 57, [(0, .ref 13), (1, sy_i l1), (2, .ref 8), (3, sy_i l3), (4, sy_i l4)], [.ref 8], h)) mj_d_51_56 (fun _ _ => rfl) ?_
          refine sy_st (S' := (mj_m_51, 58, [(0, .ref 13), (1, sy_i l1), (2, .ref 8), (3, sy_i l3), (4, sy_i l4)], [sy_i l1, .ref 8], h)) mj_d_51_57 (fun _ _ => rfl) ?_
          refine sy_cv (M' := mj_m_53) (vs := [.ref 8, sy_i l1]) (rest := []) mj_d_51_58 rfl rfl rfl rfl hH rfl rfl ⟨by decide, ⟨Nat.le_of_ble_eq_true rfl, Nat.le_of_ble_eq_true rfl, Nat.le_of_ble_eq_true rfl, Nat.le_of_ble_eq_true rfl, Nat.le_of_ble_eq_true rfl⟩⟩ (dt_Plan_neighbour (a1 := l1) hH (by omega) (by omega)) ?_
          rintro _ _ ⟨rfl, rfl, b16, b16t⟩
          show sy_wp (mj_m_51, 61, [(0, .ref 13), (1, sy_i l1), (2, .ref 8), (3, sy_i l3), (4, sy_i l4)], [sy_i (dc_Plan_neighbour (sy_rd h) l1)], h) _
          refine sy_st (S' := (mj_m_51, 63, [(4, sy_i (dc_Plan_neighbour (sy_rd h) l1)), (0, .ref 13), (1, sy_i l1), (2, .ref 8), (3, sy_i l3)], [], h)) mj_d_51_61 (fun _ _ => rfl) ?_
          refine sy_st (S' := (mj_m_51, 65, [(4, sy_i (dc_Plan_neighbour (sy_rd h) l1)), (0, .ref 13), (1, sy_i l1), (2, .ref 8), (3, sy_i l3)], [sy_i (dc_Plan_neighbour (sy_rd h) l1)], h)) mj_d_51_63 (fun _ _ => rfl) ?_
          refine sy_ifc mj_d_51_65 rfl ⟨by omega, by omega⟩ (fun (c17 : (dc_Plan_neighbour (sy_rd h) l1) < 0) => ?_) (fun (c17 : ¬ ((dc_Plan_neighbour (sy_rd h) l1) < 0)) => ?_)
          · skip
            rw [if_pos c17]
            exact sy_retv mj_d_51_91 rfl ⟨rfl, hH, rfl⟩
          · skip
            rw [if_neg c17]
            refine sy_st (S' := (mj_m_51, 69, [(4, sy_i (dc_Plan_neighbour (sy_rd h) l1)), (0, .ref 13), (1, sy_i l1), (2, .ref 8), (3, sy_i l3)], [.ref 13], h)) mj_d_51_68 (fun _ _ => rfl) ?_
            refine sy_gr2 (b := 14) mj_d_51_69 rfl rfl (by decide) rfl rfl hH ?_
            refine sy_st (S' := (mj_m_51, 74, [(4, sy_i (dc_Plan_neighbour (sy_rd h) l1)), (0, .ref 13), (1, sy_i l1), (2, .ref 8), (3, sy_i l3)], [sy_i (dc_Plan_neighbour (sy_rd h) l1), .ref 14], h)) mj_d_51_72 (fun _ _ => rfl) ?_
            refine sy_st (S' := (mj_m_51, 75, [(4, sy_i (dc_Plan_neighbour (sy_rd h) l1)), (0, .ref 13), (1, sy_i l1), (2, .ref 8), (3, sy_i l3)], [.ref 13, sy_i (dc_Plan_neighbour (sy_rd h) l1), .ref 14], h)) mj_d_51_74 (fun _ _ => rfl) ?_
            refine sy_gr2 (b := 14) mj_d_51_75 rfl rfl (by decide) rfl rfl hH ?_
            refine sy_st (S' := (mj_m_51, 80, [(4, sy_i (dc_Plan_neighbour (sy_rd h) l1)), (0, .ref 13), (1, sy_i l1), (2, .ref 8), (3, sy_i l3)], [sy_i (dc_Plan_neighbour (sy_rd h) l1), .ref 14, sy_i (dc_Plan_neighbour (sy_rd h) l1), .ref 14], h)) mj_d_51_78 (fun _ _ => rfl) ?_
            refine sy_ia mj_d_51_80 rfl (by decide) (by omega) (by omega) (ab_el_1 rfl _) hH ?_
            rintro _ rfl bx18 tx18
            refine sy_st (S' := (mj_m_51, 82, [(4, sy_i (dc_Plan_neighbour (sy_rd h) l1)), (0, .ref 13), (1, sy_i l1), (2, .ref 8), (3, sy_i l3)], [.ref 13, sy_i (sy_rd h 14 ((dc_Plan_neighbour (sy_rd h) l1).toNat)), sy_i (dc_Plan_neighbour (sy_rd h) l1), .ref 14], h)) mj_d_51_81 (fun _ _ => rfl) ?_
            refine sy_gr2 (b := 15) mj_d_51_82 rfl rfl (by decide) rfl rfl hH ?_
            refine sy_st (S' := (mj_m_51, 86, [(4, sy_i (dc_Plan_neighbour (sy_rd h) l1)), (0, .ref 13), (1, sy_i l1), (2, .ref 8), (3, sy_i l3)], [sy_i l1, .ref 15, sy_i (sy_rd h 14 ((dc_Plan_neighbour (sy_rd h) l1).toNat)), sy_i (dc_Plan_neighbour (sy_rd h) l1), .ref 14], h)) mj_d_51_85 (fun _ _ => rfl) ?_
            refine sy_ia mj_d_51_86 rfl (by decide) (by omega) (by omega) (ab_el_1 rfl _) hH ?_
            rintro _ rfl bx19 tx19
            refine sy_cs (M' := mj_m_52) (vs := [sy_i (sy_rd h 14 ((dc_Plan_neighbour (sy_rd h) l1).toNat)), sy_i (sy_rd h 15 ((l1).toNat))]) (rest := [sy_i (dc_Plan_neighbour (sy_rd h) l1), .ref 14]) mj_d_51_87 rfl rfl rfl rfl ⟨Nat.le_of_ble_eq_true rfl, Nat.le_of_ble_eq_true rfl, Nat.le_of_ble_eq_true rfl, Nat.le_of_ble_eq_true rfl, Nat.le_of_ble_eq_true rfl⟩ (dt_Soot_laid (a0 := (sy_rd h 14 ((dc_Plan_neighbour (sy_rd h) l1).toNat))) (a1 := (sy_rd h 15 ((l1).toNat))) hH (by omega) (by omega) (by omega) (by omega)) ?_
            rintro _ _ ⟨rfl, rfl, b20, b20t⟩
            show sy_wp (mj_m_51, 90, [(4, sy_i (dc_Plan_neighbour (sy_rd h) l1)), (0, .ref 13), (1, sy_i l1), (2, .ref 8), (3, sy_i l3)], [sy_i (dc_Soot_laid (sy_rd h) (sy_rd h 14 ((dc_Plan_neighbour (sy_rd h) l1).toNat)) (sy_rd h 15 ((l1).toNat))), sy_i (dc_Plan_neighbour (sy_rd h) l1), .ref 14], h) _
            refine sg_ias (v := (dc_Soot_laid (sy_rd h) (sy_rd h 14 ((dc_Plan_neighbour (sy_rd h) l1).toNat)) (sy_rd h 15 ((l1).toNat)))) mj_d_51_90 rfl (by decide) (by omega) (by omega) (ab_el_1 rfl _) hH (by omega) (by omega) ⟨by omega, by omega⟩ ?_
            intro h21 th21 eh21
            exact sy_retv mj_d_51_91 rfl ⟨rfl, th21, eh21⟩
        · skip
          rw [if_neg c15]
          refine sy_st (S' := (mj_m_51, 23, [(0, .ref 13), (1, sy_i l1), (2, .ref 8), (3, sy_i l3), (4, sy_i l4)], [.ref 13], h)) mj_d_51_22 (fun _ _ => rfl) ?_
          refine sy_gr2 (b := 14) mj_d_51_23 rfl rfl (by decide) rfl rfl hH ?_
          refine sy_st (S' := (mj_m_51, 27, [(0, .ref 13), (1, sy_i l1), (2, .ref 8), (3, sy_i l3), (4, sy_i l4)], [sy_i l3, .ref 14], h)) mj_d_51_26 (fun _ _ => rfl) ?_
          refine sy_st (S' := (mj_m_51, 28, [(0, .ref 13), (1, sy_i l1), (2, .ref 8), (3, sy_i l3), (4, sy_i l4)], [.ref 13, sy_i l3, .ref 14], h)) mj_d_51_27 (fun _ _ => rfl) ?_
          refine sy_gr2 (b := 14) mj_d_51_28 rfl rfl (by decide) rfl rfl hH ?_
          refine sy_st (S' := (mj_m_51, 32, [(0, .ref 13), (1, sy_i l1), (2, .ref 8), (3, sy_i l3), (4, sy_i l4)], [sy_i l3, .ref 14, sy_i l3, .ref 14], h)) mj_d_51_31 (fun _ _ => rfl) ?_
          refine sy_ia mj_d_51_32 rfl (by decide) (by omega) (by omega) (ab_el_1 rfl _) hH ?_
          rintro _ rfl bx22 tx22
          refine sy_st (S' := (mj_m_51, 34, [(0, .ref 13), (1, sy_i l1), (2, .ref 8), (3, sy_i l3), (4, sy_i l4)], [.ref 13, sy_i (sy_rd h 14 ((l3).toNat)), sy_i l3, .ref 14], h)) mj_d_51_33 (fun _ _ => rfl) ?_
          refine sy_gr2 (b := 15) mj_d_51_34 rfl rfl (by decide) rfl rfl hH ?_
          refine sy_st (S' := (mj_m_51, 38, [(0, .ref 13), (1, sy_i l1), (2, .ref 8), (3, sy_i l3), (4, sy_i l4)], [sy_i l1, .ref 15, sy_i (sy_rd h 14 ((l3).toNat)), sy_i l3, .ref 14], h)) mj_d_51_37 (fun _ _ => rfl) ?_
          refine sy_ia mj_d_51_38 rfl (by decide) (by omega) (by omega) (ab_el_1 rfl _) hH ?_
          rintro _ rfl bx23 tx23
          refine sy_cs (M' := mj_m_52) (vs := [sy_i (sy_rd h 14 ((l3).toNat)), sy_i (sy_rd h 15 ((l1).toNat))]) (rest := [sy_i l3, .ref 14]) mj_d_51_39 rfl rfl rfl rfl ⟨Nat.le_of_ble_eq_true rfl, Nat.le_of_ble_eq_true rfl, Nat.le_of_ble_eq_true rfl, Nat.le_of_ble_eq_true rfl, Nat.le_of_ble_eq_true rfl⟩ (dt_Soot_laid (a0 := (sy_rd h 14 ((l3).toNat))) (a1 := (sy_rd h 15 ((l1).toNat))) hH (by omega) (by omega) (by omega) (by omega)) ?_
          rintro _ _ ⟨rfl, rfl, b24, b24t⟩
          show sy_wp (mj_m_51, 42, [(0, .ref 13), (1, sy_i l1), (2, .ref 8), (3, sy_i l3), (4, sy_i l4)], [sy_i (dc_Soot_laid (sy_rd h) (sy_rd h 14 ((l3).toNat)) (sy_rd h 15 ((l1).toNat))), sy_i l3, .ref 14], h) _
          refine sg_ias (v := (dc_Soot_laid (sy_rd h) (sy_rd h 14 ((l3).toNat)) (sy_rd h 15 ((l1).toNat)))) mj_d_51_42 rfl (by decide) (by omega) (by omega) (ab_el_1 rfl _) hH (by omega) (by omega) ⟨by omega, by omega⟩ ?_
          intro h25 th25 eh25
          refine sy_st (S' := (mj_m_51, 44, [(0, .ref 13), (1, sy_i l1), (2, .ref 8), (3, sy_i l3), (4, sy_i l4)], [.ref 13], h25)) mj_d_51_43 (fun _ _ => rfl) ?_
          refine sy_gr2 (b := 16) mj_d_51_44 rfl rfl (by decide) rfl rfl th25 ?_
          refine sy_st (S' := (mj_m_51, 48, [(0, .ref 13), (1, sy_i l1), (2, .ref 8), (3, sy_i l3), (4, sy_i l4)], [sy_i l3, .ref 16], h25)) mj_d_51_47 (fun _ _ => rfl) ?_
          refine sy_ia mj_d_51_48 rfl (by decide) (by omega) (by omega) (ab_el_1 rfl _) th25 ?_
          intro x26 ex26 bx26 tx26
          rw [eh25, sg_na (by decide)] at ex26
          subst ex26
          refine sy_st (S' := (mj_m_51, 50, [(3, sy_i (sy_rd h 16 ((l3).toNat))), (0, .ref 13), (1, sy_i l1), (2, .ref 8), (4, sy_i l4)], [], h25)) mj_d_51_49 (fun _ _ => rfl) ?_
          refine sy_inc (a := l4) (lv' := [(4, sy_i (l4 + 1)), (3, sy_i (sy_rd h 16 ((l3).toNat))), (0, .ref 13), (1, sy_i l1), (2, .ref 8)]) mj_d_51_50 (Nat.le_of_ble_eq_true rfl) rfl rfl ?_
          refine sy_st (S' := (mj_m_51, 5, [(4, sy_i (l4 + 1)), (3, sy_i (sy_rd h 16 ((l3).toNat))), (0, .ref 13), (1, sy_i l1), (2, .ref 8)], [], h25)) mj_d_51_53 (fun _ _ => rfl) ?_
          refine sy_lv (lv := [(0, .ref 13), (1, sy_i l1), (2, .ref 8), (3, sy_i (sy_rd h 16 ((l3).toNat))), (4, sy_i (l4 + 1))]) rfl ⟨rfl, rfl, rfl, rfl, rfl, trivial⟩ ?_
          rw [← eh25]
          exact ih th25 (by first | omega | assumption) (by first | omega | assumption) (by first | omega | assumption) (by first | omega | assumption) (by first | omega | assumption) (by first | omega | assumption) (by omega)
set_option maxRecDepth 100000 in
theorem dt_St_burnIn {h : mj_H} (hH : sy_H h) {a1 : Int} (b_a1 : 0 ≤ a1) (t_a1 : a1 ≤ 8) : sy_wp (mj_m_51, 0, [(0, .ref 13), (1, sy_i a1), (2, .ref 8)], [], h) (dq3 (dc_St_burnIn (sy_rd h) a1)) := by
  unfold dc_St_burnIn
  refine sy_st (S' := (mj_m_51, 1, [(0, .ref 13), (1, sy_i a1), (2, .ref 8)], [sy_i a1], h)) mj_d_51_0 (fun _ _ => rfl) ?_
  refine sy_st (S' := (mj_m_51, 2, [(3, sy_i a1), (0, .ref 13), (1, sy_i a1), (2, .ref 8)], [], h)) mj_d_51_1 (fun _ _ => rfl) ?_
  refine sy_st (S' := (mj_m_51, 3, [(3, sy_i a1), (0, .ref 13), (1, sy_i a1), (2, .ref 8)], [sy_i 0], h)) mj_d_51_2 (fun _ _ => rfl) ?_
  refine sy_st (S' := (mj_m_51, 5, [(4, sy_i 0), (3, sy_i a1), (0, .ref 13), (1, sy_i a1), (2, .ref 8)], [], h)) mj_d_51_3 (fun _ _ => rfl) ?_
  refine sy_lv (lv := [(0, .ref 13), (1, sy_i a1), (2, .ref 8), (3, sy_i a1), (4, sy_i 0)]) rfl ⟨rfl, rfl, rfl, rfl, rfl, trivial⟩ ?_
  exact dt_St_burnIn_5 10 hH (by first | omega | assumption) (by first | omega | assumption) (by first | omega | assumption) (by first | omega | assumption) (by first | omega | assumption) (by first | omega | assumption) (by omega)
def dc_St_passMonth_2 (n : Nat) : sg_S → Int → sg_S := Nat.rec (fun (s : sg_S) l2 => s) (fun _ ih => fun s l2 => (if (s 8 3) ≤ l2 then (sg_up s 13 5 (sy_w ((s 13 5) + 1))) else (if (s 15 ((l2).toNat)) = 0 then (ih s (l2 + 1)) else (ih (dc_St_burnIn s l2) (l2 + 1))))) n
theorem dc_St_passMonth_2_s (n : Nat) (s : sg_S) (l2 : Int) : dc_St_passMonth_2 (n + 1) s l2 = (if (s 8 3) ≤ l2 then (sg_up s 13 5 (sy_w ((s 13 5) + 1))) else (if (s 15 ((l2).toNat)) = 0 then ((dc_St_passMonth_2 n) s (l2 + 1)) else ((dc_St_passMonth_2 n) (dc_St_burnIn s l2) (l2 + 1)))) := rfl
def dc_St_passMonth (s : sg_S) : sg_S := (dc_St_passMonth_2 10 s 0)
set_option maxRecDepth 100000 in
theorem dt_St_passMonth_2 : ∀ (n : Nat) {h : mj_H} (hH : sy_H h) {l2 : Int} (b_l2 : 0 ≤ l2) (t_l2 : l2 ≤ 9) (hm : 9 - l2 < (n : Int)), sy_wp (mj_m_50, 2, [(0, .ref 13), (1, .ref 8), (2, sy_i l2)], [], h) (dq3 (dc_St_passMonth_2 n (sy_rd h) l2)) := by
  intro n
  induction n with
  | zero =>
    intro h hH l2 b_l2 t_l2 hm
    exact absurd hm (by omega)
  | succ n ih =>
    intro h hH l2 b_l2 t_l2 hm
    rw [dc_St_passMonth_2_s]
    refine sy_st (S' := (mj_m_50, 3, [(0, .ref 13), (1, .ref 8), (2, sy_i l2)], [sy_i l2], h)) mj_d_50_2 (fun _ _ => rfl) ?_
    refine sy_st (S' := (mj_m_50, 4, [(0, .ref 13), (1, .ref 8), (2, sy_i l2)], [.ref 8, sy_i l2], h)) mj_d_50_3 (fun _ _ => rfl) ?_
    refine sy_gf mj_d_50_4 rfl rfl (by decide) rfl hH ?_
    rintro _ rfl bx1 tx1
    refine sy_icm mj_d_50_7 rfl ⟨by omega, by omega⟩ ⟨by omega, by omega⟩ (fun (c2 : (sy_rd h 8 3) ≤ l2) => ?_) (fun (c2 : ¬ ((sy_rd h 8 3) ≤ l2)) => ?_)
    · skip
      rw [if_pos c2]
      refine sy_st (S' := (mj_m_50, 32, [(0, .ref 13), (1, .ref 8), (2, sy_i l2)], [.ref 13], h)) mj_d_50_31 (fun _ _ => rfl) ?_
      refine sy_st (S' := (mj_m_50, 33, [(0, .ref 13), (1, .ref 8), (2, sy_i l2)], [.ref 13, .ref 13], h)) mj_d_50_32 (fun _ _ => rfl) ?_
      refine sy_gf mj_d_50_33 rfl rfl (by decide) rfl hH ?_
      rintro _ rfl bx3 tx3
      refine sy_st (S' := (mj_m_50, 37, [(0, .ref 13), (1, .ref 8), (2, sy_i l2)], [sy_i 1, sy_i (sy_rd h 13 5), .ref 13], h)) mj_d_50_36 (fun _ _ => rfl) ?_
      refine sy_add mj_d_50_37 ?_
      refine sg_pfw (z := ((sy_rd h 13 5) + 1)) mj_d_50_38 rfl rfl (by decide) rfl rfl hH ?_
      intro h4 th4 eh4
      exact sy_retv mj_d_50_41 rfl ⟨rfl, th4, eh4⟩
    · skip
      rw [if_neg c2]
      refine sy_st (S' := (mj_m_50, 11, [(0, .ref 13), (1, .ref 8), (2, sy_i l2)], [.ref 13], h)) mj_d_50_10 (fun _ _ => rfl) ?_
      refine sy_gr2 (b := 15) mj_d_50_11 rfl rfl (by decide) rfl rfl hH ?_
      refine sy_st (S' := (mj_m_50, 15, [(0, .ref 13), (1, .ref 8), (2, sy_i l2)], [sy_i l2, .ref 15], h)) mj_d_50_14 (fun _ _ => rfl) ?_
      refine sy_ia mj_d_50_15 rfl (by decide) (by omega) (by omega) (ab_el_1 rfl _) hH ?_
      rintro _ rfl bx5 tx5
      refine sy_ifc mj_d_50_16 rfl ⟨by omega, by omega⟩ (fun (c6 : (sy_rd h 15 ((l2).toNat)) = 0) => ?_) (fun (c6 : ¬ ((sy_rd h 15 ((l2).toNat)) = 0)) => ?_)
      · skip
        rw [if_pos c6]
        refine sy_inc (a := l2) (lv' := [(2, sy_i (l2 + 1)), (0, .ref 13), (1, .ref 8)]) mj_d_50_25 (Nat.le_of_ble_eq_true rfl) rfl rfl ?_
        refine sy_st (S' := (mj_m_50, 2, [(2, sy_i (l2 + 1)), (0, .ref 13), (1, .ref 8)], [], h)) mj_d_50_28 (fun _ _ => rfl) ?_
        refine sy_lv (lv := [(0, .ref 13), (1, .ref 8), (2, sy_i (l2 + 1))]) rfl ⟨rfl, rfl, rfl, trivial⟩ ?_
        exact ih hH (by first | omega | assumption) (by first | omega | assumption) (by omega)
      · skip
        rw [if_neg c6]
        refine sy_st (S' := (mj_m_50, 20, [(0, .ref 13), (1, .ref 8), (2, sy_i l2)], [.ref 13], h)) mj_d_50_19 (fun _ _ => rfl) ?_
        refine sy_st (S' := (mj_m_50, 21, [(0, .ref 13), (1, .ref 8), (2, sy_i l2)], [sy_i l2, .ref 13], h)) mj_d_50_20 (fun _ _ => rfl) ?_
        refine sy_st (S' := (mj_m_50, 22, [(0, .ref 13), (1, .ref 8), (2, sy_i l2)], [.ref 8, sy_i l2, .ref 13], h)) mj_d_50_21 (fun _ _ => rfl) ?_
        refine sy_cv (M' := mj_m_51) (vs := [.ref 13, sy_i l2, .ref 8]) (rest := []) mj_d_50_22 rfl rfl rfl rfl hH rfl rfl ⟨by decide, ⟨Nat.le_of_ble_eq_true rfl, Nat.le_of_ble_eq_true rfl, Nat.le_of_ble_eq_true rfl, Nat.le_of_ble_eq_true rfl, Nat.le_of_ble_eq_true rfl⟩⟩ (dt_St_burnIn (a1 := l2) hH (by omega) (by omega)) ?_
        rintro _ h7 ⟨rfl, th7, eh7⟩
        show sy_wp (mj_m_50, 25, [(0, .ref 13), (1, .ref 8), (2, sy_i l2)], [], h7) _
        refine sy_inc (a := l2) (lv' := [(2, sy_i (l2 + 1)), (0, .ref 13), (1, .ref 8)]) mj_d_50_25 (Nat.le_of_ble_eq_true rfl) rfl rfl ?_
        refine sy_st (S' := (mj_m_50, 2, [(2, sy_i (l2 + 1)), (0, .ref 13), (1, .ref 8)], [], h7)) mj_d_50_28 (fun _ _ => rfl) ?_
        refine sy_lv (lv := [(0, .ref 13), (1, .ref 8), (2, sy_i (l2 + 1))]) rfl ⟨rfl, rfl, rfl, trivial⟩ ?_
        rw [← eh7]
        exact ih th7 (by first | omega | assumption) (by first | omega | assumption) (by omega)
set_option maxRecDepth 100000 in
theorem dt_St_passMonth {h : mj_H} (hH : sy_H h) : sy_wp (mj_m_50, 0, [(0, .ref 13), (1, .ref 8)], [], h) (dq3 (dc_St_passMonth (sy_rd h))) := by
  unfold dc_St_passMonth
  refine sy_st (S' := (mj_m_50, 1, [(0, .ref 13), (1, .ref 8)], [sy_i 0], h)) mj_d_50_0 (fun _ _ => rfl) ?_
  refine sy_st (S' := (mj_m_50, 2, [(2, sy_i 0), (0, .ref 13), (1, .ref 8)], [], h)) mj_d_50_1 (fun _ _ => rfl) ?_
  refine sy_lv (lv := [(0, .ref 13), (1, .ref 8), (2, sy_i 0)]) rfl ⟨rfl, rfl, rfl, trivial⟩ ?_
  exact dt_St_passMonth_2 10 hH (by first | omega | assumption) (by first | omega | assumption) (by omega)
def dc_St_washOff_7 (n : Nat) : sg_S → Int → Int → Int → sg_S × Int := Nat.rec (fun (s : sg_S) l1 l2 l3 => (s, 0)) (fun _ ih => fun s l1 l2 l3 => (if 9 ≤ l3 then (s, (l2 - (dc_St_layersOfAll s))) else (ih (sg_up s 14 ((l3).toNat) (dc_Soot_washed s (s 14 ((l3).toNat)) l1)) l1 l2 (l3 + 1)))) n
theorem dc_St_washOff_7_s (n : Nat) (s : sg_S) (l1 l2 l3 : Int) : dc_St_washOff_7 (n + 1) s l1 l2 l3 = (if 9 ≤ l3 then (s, (l2 - (dc_St_layersOfAll s))) else ((dc_St_washOff_7 n) (sg_up s 14 ((l3).toNat) (dc_Soot_washed s (s 14 ((l3).toNat)) l1)) l1 l2 (l3 + 1))) := rfl
def dc_St_washOff (s : sg_S) (a1 : Int) : sg_S × Int := (dc_St_washOff_7 10 s a1 (dc_St_layersOfAll s) 0)
set_option maxRecDepth 100000 in
theorem dt_St_washOff_7 : ∀ (n : Nat) {h : mj_H} (hH : sy_H h) {l1 l2 l3 : Int} (b_l1 : 0 ≤ l1) (t_l1 : l1 ≤ 4) (b_l2 : 0 ≤ l2) (t_l2 : l2 ≤ 72) (b_l3 : 0 ≤ l3) (t_l3 : l3 ≤ 9) (hm : 9 - l3 < (n : Int)), sy_wp (mj_m_56, 7, [(0, .ref 13), (1, sy_i l1), (2, sy_i l2), (3, sy_i l3)], [], h) (dq2 (-72) (72) (dc_St_washOff_7 n (sy_rd h) l1 l2 l3)) := by
  intro n
  induction n with
  | zero =>
    intro h hH l1 l2 l3 b_l1 t_l1 b_l2 t_l2 b_l3 t_l3 hm
    exact absurd hm (by omega)
  | succ n ih =>
    intro h hH l1 l2 l3 b_l1 t_l1 b_l2 t_l2 b_l3 t_l3 hm
    rw [dc_St_washOff_7_s]
    refine sy_st (S' := (mj_m_56, 8, [(0, .ref 13), (1, sy_i l1), (2, sy_i l2), (3, sy_i l3)], [sy_i l3], h)) mj_d_56_7 (fun _ _ => rfl) ?_
    refine sy_bip mj_d_56_8 (by decide) ?_
    refine sy_icm mj_d_56_10 rfl ⟨by omega, by omega⟩ ⟨by omega, by omega⟩ (fun (c1 : 9 ≤ l3) => ?_) (fun (c1 : ¬ (9 ≤ l3)) => ?_)
    · skip
      rw [if_pos c1]
      refine sy_st (S' := (mj_m_56, 36, [(0, .ref 13), (1, sy_i l1), (2, sy_i l2), (3, sy_i l3)], [sy_i l2], h)) mj_d_56_35 (fun _ _ => rfl) ?_
      refine sy_st (S' := (mj_m_56, 37, [(0, .ref 13), (1, sy_i l1), (2, sy_i l2), (3, sy_i l3)], [.ref 13, sy_i l2], h)) mj_d_56_36 (fun _ _ => rfl) ?_
      refine sy_cv (M' := mj_m_35) (vs := [.ref 13]) (rest := [sy_i l2]) mj_d_56_37 rfl rfl rfl rfl hH rfl rfl ⟨by decide, ⟨Nat.le_of_ble_eq_true rfl, Nat.le_of_ble_eq_true rfl, Nat.le_of_ble_eq_true rfl, Nat.le_of_ble_eq_true rfl, Nat.le_of_ble_eq_true rfl⟩⟩ (dt_St_layersOfAll hH) ?_
      rintro _ _ ⟨rfl, rfl, b2, b2t⟩
      show sy_wp (mj_m_56, 40, [(0, .ref 13), (1, sy_i l1), (2, sy_i l2), (3, sy_i l3)], [sy_i (dc_St_layersOfAll (sy_rd h)), sy_i l2], h) _
      refine sy_sub mj_d_56_40 ?_
      exact sy_reti mj_d_56_41 rfl ⟨hH, rfl, rfl, by omega, by omega⟩
    · skip
      rw [if_neg c1]
      refine sy_st (S' := (mj_m_56, 14, [(0, .ref 13), (1, sy_i l1), (2, sy_i l2), (3, sy_i l3)], [.ref 13], h)) mj_d_56_13 (fun _ _ => rfl) ?_
      refine sy_gr2 (b := 14) mj_d_56_14 rfl rfl (by decide) rfl rfl hH ?_
      refine sy_st (S' := (mj_m_56, 18, [(0, .ref 13), (1, sy_i l1), (2, sy_i l2), (3, sy_i l3)], [sy_i l3, .ref 14], h)) mj_d_56_17 (fun _ _ => rfl) ?_
      refine sy_st (S' := (mj_m_56, 19, [(0, .ref 13), (1, sy_i l1), (2, sy_i l2), (3, sy_i l3)], [.ref 13, sy_i l3, .ref 14], h)) mj_d_56_18 (fun _ _ => rfl) ?_
      refine sy_gr2 (b := 14) mj_d_56_19 rfl rfl (by decide) rfl rfl hH ?_
      refine sy_st (S' := (mj_m_56, 23, [(0, .ref 13), (1, sy_i l1), (2, sy_i l2), (3, sy_i l3)], [sy_i l3, .ref 14, sy_i l3, .ref 14], h)) mj_d_56_22 (fun _ _ => rfl) ?_
      refine sy_ia mj_d_56_23 rfl (by decide) (by omega) (by omega) (ab_el_1 rfl _) hH ?_
      rintro _ rfl bx3 tx3
      refine sy_st (S' := (mj_m_56, 25, [(0, .ref 13), (1, sy_i l1), (2, sy_i l2), (3, sy_i l3)], [sy_i l1, sy_i (sy_rd h 14 ((l3).toNat)), sy_i l3, .ref 14], h)) mj_d_56_24 (fun _ _ => rfl) ?_
      refine sy_cs (M' := mj_m_57) (vs := [sy_i (sy_rd h 14 ((l3).toNat)), sy_i l1]) (rest := [sy_i l3, .ref 14]) mj_d_56_25 rfl rfl rfl rfl ⟨Nat.le_of_ble_eq_true rfl, Nat.le_of_ble_eq_true rfl, Nat.le_of_ble_eq_true rfl, Nat.le_of_ble_eq_true rfl, Nat.le_of_ble_eq_true rfl⟩ (dt_Soot_washed (a0 := (sy_rd h 14 ((l3).toNat))) (a1 := l1) hH (by omega) (by omega) (by omega) (by omega)) ?_
      rintro _ _ ⟨rfl, rfl, b4, b4t⟩
      show sy_wp (mj_m_56, 28, [(0, .ref 13), (1, sy_i l1), (2, sy_i l2), (3, sy_i l3)], [sy_i (dc_Soot_washed (sy_rd h) (sy_rd h 14 ((l3).toNat)) l1), sy_i l3, .ref 14], h) _
      refine sg_ias (v := (dc_Soot_washed (sy_rd h) (sy_rd h 14 ((l3).toNat)) l1)) mj_d_56_28 rfl (by decide) (by omega) (by omega) (ab_el_1 rfl _) hH (by omega) (by omega) ⟨by omega, by omega⟩ ?_
      intro h5 th5 eh5
      refine sy_inc (a := l3) (lv' := [(3, sy_i (l3 + 1)), (0, .ref 13), (1, sy_i l1), (2, sy_i l2)]) mj_d_56_29 (Nat.le_of_ble_eq_true rfl) rfl rfl ?_
      refine sy_st (S' := (mj_m_56, 7, [(3, sy_i (l3 + 1)), (0, .ref 13), (1, sy_i l1), (2, sy_i l2)], [], h5)) mj_d_56_32 (fun _ _ => rfl) ?_
      refine sy_lv (lv := [(0, .ref 13), (1, sy_i l1), (2, sy_i l2), (3, sy_i (l3 + 1))]) rfl ⟨rfl, rfl, rfl, rfl, trivial⟩ ?_
      rw [← eh5]
      exact ih th5 (by first | omega | assumption) (by first | omega | assumption) (by first | omega | assumption) (by first | omega | assumption) (by first | omega | assumption) (by first | omega | assumption) (by omega)
set_option maxRecDepth 100000 in
theorem dt_St_washOff {h : mj_H} (hH : sy_H h) {a1 : Int} (b_a1 : 0 ≤ a1) (t_a1 : a1 ≤ 4) : sy_wp (mj_m_56, 0, [(0, .ref 13), (1, sy_i a1)], [], h) (dq2 (-72) (72) (dc_St_washOff (sy_rd h) a1)) := by
  unfold dc_St_washOff
  refine sy_st (S' := (mj_m_56, 1, [(0, .ref 13), (1, sy_i a1)], [.ref 13], h)) mj_d_56_0 (fun _ _ => rfl) ?_
  refine sy_cv (M' := mj_m_35) (vs := [.ref 13]) (rest := []) mj_d_56_1 rfl rfl rfl rfl hH rfl rfl ⟨by decide, ⟨Nat.le_of_ble_eq_true rfl, Nat.le_of_ble_eq_true rfl, Nat.le_of_ble_eq_true rfl, Nat.le_of_ble_eq_true rfl, Nat.le_of_ble_eq_true rfl⟩⟩ (dt_St_layersOfAll hH) ?_
  rintro _ _ ⟨rfl, rfl, b1, b1t⟩
  show sy_wp (mj_m_56, 4, [(0, .ref 13), (1, sy_i a1)], [sy_i (dc_St_layersOfAll (sy_rd h))], h) _
  refine sy_st (S' := (mj_m_56, 5, [(2, sy_i (dc_St_layersOfAll (sy_rd h))), (0, .ref 13), (1, sy_i a1)], [], h)) mj_d_56_4 (fun _ _ => rfl) ?_
  refine sy_st (S' := (mj_m_56, 6, [(2, sy_i (dc_St_layersOfAll (sy_rd h))), (0, .ref 13), (1, sy_i a1)], [sy_i 0], h)) mj_d_56_5 (fun _ _ => rfl) ?_
  refine sy_st (S' := (mj_m_56, 7, [(3, sy_i 0), (2, sy_i (dc_St_layersOfAll (sy_rd h))), (0, .ref 13), (1, sy_i a1)], [], h)) mj_d_56_6 (fun _ _ => rfl) ?_
  refine sy_lv (lv := [(0, .ref 13), (1, sy_i a1), (2, sy_i (dc_St_layersOfAll (sy_rd h))), (3, sy_i 0)]) rfl ⟨rfl, rfl, rfl, rfl, trivial⟩ ?_
  exact dt_St_washOff_7 10 hH (by first | omega | assumption) (by first | omega | assumption) (by first | omega | assumption) (by first | omega | assumption) (by first | omega | assumption) (by first | omega | assumption) (by omega)
def dc_St_canGive (s : sg_S) (a1 a2 a3 : Int) : Int := (if (sy_and (sy_shr (s 17 ((a1).toNat)) a3) 1) = 1 then (if (sy_and (sy_shr (s 17 ((a2).toNat)) a3) 1) = 0 then 1 else 0) else 0)
set_option maxRecDepth 100000 in
theorem dt_St_canGive {h : mj_H} (hH : sy_H h) {a1 a2 a3 : Int} (b_a1 : 0 ≤ a1) (t_a1 : a1 ≤ 4) (b_a2 : 0 ≤ a2) (t_a2 : a2 ≤ 4) (b_a3 : 0 ≤ a3) (t_a3 : a3 ≤ 8) : sy_wp (mj_m_62, 0, [(0, .ref 13), (1, sy_i a1), (2, sy_i a2), (3, sy_i a3)], [], h) (dq1 h (0) (1) (dc_St_canGive (sy_rd h) a1 a2 a3)) := by
  unfold dc_St_canGive
  refine sy_st (S' := (mj_m_62, 1, [(0, .ref 13), (1, sy_i a1), (2, sy_i a2), (3, sy_i a3)], [.ref 13], h)) mj_d_62_0 (fun _ _ => rfl) ?_
  refine sy_gr2 (b := 17) mj_d_62_1 rfl rfl (by decide) rfl rfl hH ?_
  refine sy_st (S' := (mj_m_62, 5, [(0, .ref 13), (1, sy_i a1), (2, sy_i a2), (3, sy_i a3)], [sy_i a1, .ref 17], h)) mj_d_62_4 (fun _ _ => rfl) ?_
  refine sy_ia mj_d_62_5 rfl (by decide) (by omega) (by omega) (ab_el_1 rfl _) hH ?_
  rintro _ rfl bx1 tx1
  refine sy_st (S' := (mj_m_62, 7, [(0, .ref 13), (1, sy_i a1), (2, sy_i a2), (3, sy_i a3)], [sy_i a3, sy_i (sy_rd h 17 ((a1).toNat))], h)) mj_d_62_6 (fun _ _ => rfl) ?_
  refine sy_ishr mj_d_62_7 ?_
  have q2 := sg_shr_f (sy_rd h 17 ((a1).toNat)) a3
  refine sy_st (S' := (mj_m_62, 9, [(0, .ref 13), (1, sy_i a1), (2, sy_i a2), (3, sy_i a3)], [sy_i 1, sy_i (sy_shr (sy_rd h 17 ((a1).toNat)) a3)], h)) mj_d_62_8 (fun _ _ => rfl) ?_
  refine sy_iand mj_d_62_9 ?_
  have q3 := sg_and_f (sy_shr (sy_rd h 17 ((a1).toNat)) a3) 1
  refine sy_st (S' := (mj_m_62, 11, [(0, .ref 13), (1, sy_i a1), (2, sy_i a2), (3, sy_i a3)], [sy_i 1, sy_i (sy_and (sy_shr (sy_rd h 17 ((a1).toNat)) a3) 1)], h)) mj_d_62_10 (fun _ _ => rfl) ?_
  refine sy_icm mj_d_62_11 rfl ⟨by omega, by omega⟩ ⟨by omega, by omega⟩ (fun (c4 : ¬ ((sy_and (sy_shr (sy_rd h 17 ((a1).toNat)) a3) 1) = 1)) => ?_) (fun (c4 : ¬ ¬ ((sy_and (sy_shr (sy_rd h 17 ((a1).toNat)) a3) 1) = 1)) => ?_)
  · skip
    rw [if_neg c4]
    refine sy_st (S' := (mj_m_62, 32, [(0, .ref 13), (1, sy_i a1), (2, sy_i a2), (3, sy_i a3)], [sy_i 0], h)) mj_d_62_31 (fun _ _ => rfl) ?_
    exact sy_retb mj_d_62_32 rfl ⟨by omega, by omega⟩ ⟨rfl, rfl, by omega, by omega⟩
  · skip
    rw [if_pos (Decidable.not_not.mp c4)]
    replace c4 := Decidable.not_not.mp c4
    refine sy_st (S' := (mj_m_62, 15, [(0, .ref 13), (1, sy_i a1), (2, sy_i a2), (3, sy_i a3)], [.ref 13], h)) mj_d_62_14 (fun _ _ => rfl) ?_
    refine sy_gr2 (b := 17) mj_d_62_15 rfl rfl (by decide) rfl rfl hH ?_
    refine sy_st (S' := (mj_m_62, 19, [(0, .ref 13), (1, sy_i a1), (2, sy_i a2), (3, sy_i a3)], [sy_i a2, .ref 17], h)) mj_d_62_18 (fun _ _ => rfl) ?_
    refine sy_ia mj_d_62_19 rfl (by decide) (by omega) (by omega) (ab_el_1 rfl _) hH ?_
    rintro _ rfl bx5 tx5
    refine sy_st (S' := (mj_m_62, 21, [(0, .ref 13), (1, sy_i a1), (2, sy_i a2), (3, sy_i a3)], [sy_i a3, sy_i (sy_rd h 17 ((a2).toNat))], h)) mj_d_62_20 (fun _ _ => rfl) ?_
    refine sy_ishr mj_d_62_21 ?_
    have q6 := sg_shr_f (sy_rd h 17 ((a2).toNat)) a3
    refine sy_st (S' := (mj_m_62, 23, [(0, .ref 13), (1, sy_i a1), (2, sy_i a2), (3, sy_i a3)], [sy_i 1, sy_i (sy_shr (sy_rd h 17 ((a2).toNat)) a3)], h)) mj_d_62_22 (fun _ _ => rfl) ?_
    refine sy_iand mj_d_62_23 ?_
    have q7 := sg_and_f (sy_shr (sy_rd h 17 ((a2).toNat)) a3) 1
    refine sy_ifc mj_d_62_24 rfl ⟨by omega, by omega⟩ (fun (c8 : ¬ ((sy_and (sy_shr (sy_rd h 17 ((a2).toNat)) a3) 1) = 0)) => ?_) (fun (c8 : ¬ ¬ ((sy_and (sy_shr (sy_rd h 17 ((a2).toNat)) a3) 1) = 0)) => ?_)
    · skip
      rw [if_neg c8]
      refine sy_st (S' := (mj_m_62, 32, [(0, .ref 13), (1, sy_i a1), (2, sy_i a2), (3, sy_i a3)], [sy_i 0], h)) mj_d_62_31 (fun _ _ => rfl) ?_
      exact sy_retb mj_d_62_32 rfl ⟨by omega, by omega⟩ ⟨rfl, rfl, by omega, by omega⟩
    · skip
      rw [if_pos (Decidable.not_not.mp c8)]
      replace c8 := Decidable.not_not.mp c8
      refine sy_st (S' := (mj_m_62, 28, [(0, .ref 13), (1, sy_i a1), (2, sy_i a2), (3, sy_i a3)], [sy_i 1], h)) mj_d_62_27 (fun _ _ => rfl) ?_
      refine sy_st (S' := (mj_m_62, 32, [(0, .ref 13), (1, sy_i a1), (2, sy_i a2), (3, sy_i a3)], [sy_i 1], h)) mj_d_62_28 (fun _ _ => rfl) ?_
      exact sy_retb mj_d_62_32 rfl ⟨by omega, by omega⟩ ⟨rfl, rfl, by omega, by omega⟩
def dc_St_hasNewFor (s : sg_S) (a1 a2 : Int) : Int := (if (sy_and (s 17 ((a1).toNat)) (sy_xor (s 17 ((a2).toNat)) (-1))) = 0 then 0 else 1)
set_option maxRecDepth 100000 in
theorem dt_St_hasNewFor {h : mj_H} (hH : sy_H h) {a1 a2 : Int} (b_a1 : 0 ≤ a1) (t_a1 : a1 ≤ 4) (b_a2 : 0 ≤ a2) (t_a2 : a2 ≤ 4) : sy_wp (mj_m_99, 0, [(0, .ref 13), (1, sy_i a1), (2, sy_i a2)], [], h) (dq1 h (0) (1) (dc_St_hasNewFor (sy_rd h) a1 a2)) := by
  unfold dc_St_hasNewFor
  refine sy_st (S' := (mj_m_99, 1, [(0, .ref 13), (1, sy_i a1), (2, sy_i a2)], [.ref 13], h)) mj_d_99_0 (fun _ _ => rfl) ?_
  refine sy_gr2 (b := 17) mj_d_99_1 rfl rfl (by decide) rfl rfl hH ?_
  refine sy_st (S' := (mj_m_99, 5, [(0, .ref 13), (1, sy_i a1), (2, sy_i a2)], [sy_i a1, .ref 17], h)) mj_d_99_4 (fun _ _ => rfl) ?_
  refine sy_ia mj_d_99_5 rfl (by decide) (by omega) (by omega) (ab_el_1 rfl _) hH ?_
  rintro _ rfl bx1 tx1
  refine sy_st (S' := (mj_m_99, 7, [(0, .ref 13), (1, sy_i a1), (2, sy_i a2)], [.ref 13, sy_i (sy_rd h 17 ((a1).toNat))], h)) mj_d_99_6 (fun _ _ => rfl) ?_
  refine sy_gr2 (b := 17) mj_d_99_7 rfl rfl (by decide) rfl rfl hH ?_
  refine sy_st (S' := (mj_m_99, 11, [(0, .ref 13), (1, sy_i a1), (2, sy_i a2)], [sy_i a2, .ref 17, sy_i (sy_rd h 17 ((a1).toNat))], h)) mj_d_99_10 (fun _ _ => rfl) ?_
  refine sy_ia mj_d_99_11 rfl (by decide) (by omega) (by omega) (ab_el_1 rfl _) hH ?_
  rintro _ rfl bx2 tx2
  refine sy_st (S' := (mj_m_99, 13, [(0, .ref 13), (1, sy_i a1), (2, sy_i a2)], [sy_i (-1), sy_i (sy_rd h 17 ((a2).toNat)), sy_i (sy_rd h 17 ((a1).toNat))], h)) mj_d_99_12 (fun _ _ => rfl) ?_
  refine sy_ixor mj_d_99_13 ?_
  have q3 := sg_xor_f (sy_rd h 17 ((a2).toNat)) (-1)
  refine sy_iand mj_d_99_14 ?_
  have q4 := sg_and_f (sy_rd h 17 ((a1).toNat)) (sy_xor (sy_rd h 17 ((a2).toNat)) (-1))
  refine sy_ifc mj_d_99_15 rfl ⟨by omega, by omega⟩ (fun (c5 : (sy_and (sy_rd h 17 ((a1).toNat)) (sy_xor (sy_rd h 17 ((a2).toNat)) (-1))) = 0) => ?_) (fun (c5 : ¬ ((sy_and (sy_rd h 17 ((a1).toNat)) (sy_xor (sy_rd h 17 ((a2).toNat)) (-1))) = 0)) => ?_)
  · skip
    rw [if_pos c5]
    refine sy_st (S' := (mj_m_99, 23, [(0, .ref 13), (1, sy_i a1), (2, sy_i a2)], [sy_i 0], h)) mj_d_99_22 (fun _ _ => rfl) ?_
    exact sy_retb mj_d_99_23 rfl ⟨by omega, by omega⟩ ⟨rfl, rfl, by omega, by omega⟩
  · skip
    rw [if_neg c5]
    refine sy_st (S' := (mj_m_99, 19, [(0, .ref 13), (1, sy_i a1), (2, sy_i a2)], [sy_i 1], h)) mj_d_99_18 (fun _ _ => rfl) ?_
    refine sy_st (S' := (mj_m_99, 23, [(0, .ref 13), (1, sy_i a1), (2, sy_i a2)], [sy_i 1], h)) mj_d_99_19 (fun _ _ => rfl) ?_
    exact sy_retb mj_d_99_23 rfl ⟨by omega, by omega⟩ ⟨rfl, rfl, by omega, by omega⟩
def dc_St_learn (s : sg_S) (a1 a2 : Int) : sg_S := (sg_up s 17 ((a1).toNat) (sy_or (s 17 ((a1).toNat)) (sy_shl 1 a2)))
set_option maxRecDepth 100000 in
theorem dt_St_learn {h : mj_H} (hH : sy_H h) {a1 a2 : Int} (b_a1 : 0 ≤ a1) (t_a1 : a1 ≤ 4) (b_a2 : 0 ≤ a2) (t_a2 : a2 ≤ 8) : sy_wp (mj_m_63, 0, [(0, .ref 13), (1, sy_i a1), (2, sy_i a2)], [], h) (dq3 (dc_St_learn (sy_rd h) a1 a2)) := by
  unfold dc_St_learn
  refine sy_st (S' := (mj_m_63, 1, [(0, .ref 13), (1, sy_i a1), (2, sy_i a2)], [.ref 13], h)) mj_d_63_0 (fun _ _ => rfl) ?_
  refine sy_gr2 (b := 17) mj_d_63_1 rfl rfl (by decide) rfl rfl hH ?_
  refine sy_st (S' := (mj_m_63, 5, [(0, .ref 13), (1, sy_i a1), (2, sy_i a2)], [sy_i a1, .ref 17], h)) mj_d_63_4 (fun _ _ => rfl) ?_
  refine sy_st (S' := (mj_m_63, 6, [(0, .ref 13), (1, sy_i a1), (2, sy_i a2)], [sy_i a1, .ref 17, sy_i a1, .ref 17], h)) mj_d_63_5 (fun _ _ => rfl) ?_
  refine sy_ia mj_d_63_6 rfl (by decide) (by omega) (by omega) (ab_el_1 rfl _) hH ?_
  rintro _ rfl bx1 tx1
  refine sy_st (S' := (mj_m_63, 8, [(0, .ref 13), (1, sy_i a1), (2, sy_i a2)], [sy_i 1, sy_i (sy_rd h 17 ((a1).toNat)), sy_i a1, .ref 17], h)) mj_d_63_7 (fun _ _ => rfl) ?_
  refine sy_st (S' := (mj_m_63, 9, [(0, .ref 13), (1, sy_i a1), (2, sy_i a2)], [sy_i a2, sy_i 1, sy_i (sy_rd h 17 ((a1).toNat)), sy_i a1, .ref 17], h)) mj_d_63_8 (fun _ _ => rfl) ?_
  refine sy_ishl mj_d_63_9 ?_
  have q2 := sg_shl_f 1 a2
  refine sy_ior mj_d_63_10 ?_
  have q3 := sg_or_f (sy_rd h 17 ((a1).toNat)) (sy_shl 1 a2)
  refine sg_ias (v := (sy_or (sy_rd h 17 ((a1).toNat)) (sy_shl 1 a2))) mj_d_63_11 rfl (by decide) (by omega) (by omega) (ab_el_1 rfl _) hH (by omega) (by omega) ⟨by omega, by omega⟩ ?_
  intro h4 th4 eh4
  exact sy_retv mj_d_63_12 rfl ⟨rfl, th4, eh4⟩
def dc_St_down_7 (n : Nat) : sg_S → Int → Int → Int → Int := Nat.rec (fun (s : sg_S) l2 l3 l4 => 0) (fun _ ih => fun s l2 l3 l4 => (if 9 ≤ l4 then l2 else (if l3 < 0 then l2 else (if 9 ≤ l3 then l2 else (ih s (sy_or l2 (sy_shl 1 l3)) (s 16 ((l3).toNat)) (l4 + 1)))))) n
theorem dc_St_down_7_s (n : Nat) (s : sg_S) (l2 l3 l4 : Int) : dc_St_down_7 (n + 1) s l2 l3 l4 = (if 9 ≤ l4 then l2 else (if l3 < 0 then l2 else (if 9 ≤ l3 then l2 else ((dc_St_down_7 n) s (sy_or l2 (sy_shl 1 l3)) (s 16 ((l3).toNat)) (l4 + 1))))) := rfl
def dc_St_down (s : sg_S) (a1 : Int) : Int := (dc_St_down_7 10 s 0 a1 0)
set_option maxRecDepth 100000 in
theorem dt_St_down_7 : ∀ (n : Nat) {h : mj_H} (hH : sy_H h) {l2 l3 l4 : Int} (b_l2 : 0 ≤ l2) (t_l2 : l2 ≤ 511) (b_l3 : (-1) ≤ l3) (t_l3 : l3 ≤ 8) (b_l4 : 0 ≤ l4) (t_l4 : l4 ≤ 9) (hm : 9 - l4 < (n : Int)), sy_wp (mj_m_72, 7, [(0, .ref 13), (2, sy_i l2), (3, sy_i l3), (4, sy_i l4)], [], h) (dq1 h (0) (511) (dc_St_down_7 n (sy_rd h) l2 l3 l4)) := by
  intro n
  induction n with
  | zero =>
    intro h hH l2 l3 l4 b_l2 t_l2 b_l3 t_l3 b_l4 t_l4 hm
    exact absurd hm (by omega)
  | succ n ih =>
    intro h hH l2 l3 l4 b_l2 t_l2 b_l3 t_l3 b_l4 t_l4 hm
    rw [dc_St_down_7_s]
    refine sy_st (S' := (mj_m_72, 9, [(0, .ref 13), (2, sy_i l2), (3, sy_i l3), (4, sy_i l4)], [sy_i l4], h)) mj_d_72_7 (fun _ _ => rfl) ?_
    refine sy_bip mj_d_72_9 (by decide) ?_
    refine sy_icm mj_d_72_11 rfl ⟨by omega, by omega⟩ ⟨by omega, by omega⟩ (fun (c1 : 9 ≤ l4) => ?_) (fun (c1 : ¬ (9 ≤ l4)) => ?_)
    · skip
      rw [if_pos c1]
      refine sy_st (S' := (mj_m_72, 44, [(0, .ref 13), (2, sy_i l2), (3, sy_i l3), (4, sy_i l4)], [sy_i l2], h)) mj_d_72_43 (fun _ _ => rfl) ?_
      exact sy_reti mj_d_72_44 rfl ⟨rfl, rfl, by omega, by omega⟩
    · skip
      rw [if_neg c1]
      refine sy_st (S' := (mj_m_72, 15, [(0, .ref 13), (2, sy_i l2), (3, sy_i l3), (4, sy_i l4)], [sy_i l3], h)) mj_d_72_14 (fun _ _ => rfl) ?_
      refine sy_ifc mj_d_72_15 rfl ⟨by omega, by omega⟩ (fun (c2 : l3 < 0) => ?_) (fun (c2 : ¬ (l3 < 0)) => ?_)
      · skip
        rw [if_pos c2]
        refine sy_st (S' := (mj_m_72, 44, [(0, .ref 13), (2, sy_i l2), (3, sy_i l3), (4, sy_i l4)], [sy_i l2], h)) mj_d_72_43 (fun _ _ => rfl) ?_
        exact sy_reti mj_d_72_44 rfl ⟨rfl, rfl, by omega, by omega⟩
      · skip
        rw [if_neg c2]
        refine sy_st (S' := (mj_m_72, 19, [(0, .ref 13), (2, sy_i l2), (3, sy_i l3), (4, sy_i l4)], [sy_i l3], h)) mj_d_72_18 (fun _ _ => rfl) ?_
        refine sy_bip mj_d_72_19 (by decide) ?_
        refine sy_icm mj_d_72_21 rfl ⟨by omega, by omega⟩ ⟨by omega, by omega⟩ (fun (c3 : 9 ≤ l3) => ?_) (fun (c3 : ¬ (9 ≤ l3)) => ?_)
        · skip
          rw [if_pos c3]
          refine sy_st (S' := (mj_m_72, 44, [(0, .ref 13), (2, sy_i l2), (3, sy_i l3), (4, sy_i l4)], [sy_i l2], h)) mj_d_72_43 (fun _ _ => rfl) ?_
          exact sy_reti mj_d_72_44 rfl ⟨rfl, rfl, by omega, by omega⟩
        · skip
          rw [if_neg c3]
          refine sy_st (S' := (mj_m_72, 25, [(0, .ref 13), (2, sy_i l2), (3, sy_i l3), (4, sy_i l4)], [sy_i l2], h)) mj_d_72_24 (fun _ _ => rfl) ?_
          refine sy_st (S' := (mj_m_72, 26, [(0, .ref 13), (2, sy_i l2), (3, sy_i l3), (4, sy_i l4)], [sy_i 1, sy_i l2], h)) mj_d_72_25 (fun _ _ => rfl) ?_
          refine sy_st (S' := (mj_m_72, 27, [(0, .ref 13), (2, sy_i l2), (3, sy_i l3), (4, sy_i l4)], [sy_i l3, sy_i 1, sy_i l2], h)) mj_d_72_26 (fun _ _ => rfl) ?_
          refine sy_ishl mj_d_72_27 ?_
          have q4 := sg_shl_f 1 l3
          refine sy_ior mj_d_72_28 ?_
          have q5 := sg_or_f l2 (sy_shl 1 l3)
          refine sy_st (S' := (mj_m_72, 30, [(2, sy_i (sy_or l2 (sy_shl 1 l3))), (0, .ref 13), (3, sy_i l3), (4, sy_i l4)], [], h)) mj_d_72_29 (fun _ _ => rfl) ?_
          refine sy_st (S' := (mj_m_72, 31, [(2, sy_i (sy_or l2 (sy_shl 1 l3))), (0, .ref 13), (3, sy_i l3), (4, sy_i l4)], [.ref 13], h)) mj_d_72_30 (fun _ _ => rfl) ?_
          refine sy_gr2 (b := 16) mj_d_72_31 rfl rfl (by decide) rfl rfl hH ?_
          refine sy_st (S' := (mj_m_72, 35, [(2, sy_i (sy_or l2 (sy_shl 1 l3))), (0, .ref 13), (3, sy_i l3), (4, sy_i l4)], [sy_i l3, .ref 16], h)) mj_d_72_34 (fun _ _ => rfl) ?_
          refine sy_ia mj_d_72_35 rfl (by decide) (by omega) (by omega) (ab_el_1 rfl _) hH ?_
          rintro _ rfl bx6 tx6
          refine sy_st (S' := (mj_m_72, 37, [(3, sy_i (sy_rd h 16 ((l3).toNat))), (2, sy_i (sy_or l2 (sy_shl 1 l3))), (0, .ref 13), (4, sy_i l4)], [], h)) mj_d_72_36 (fun _ _ => rfl) ?_
          refine sy_inc (a := l4) (lv' := [(4, sy_i (l4 + 1)), (3, sy_i (sy_rd h 16 ((l3).toNat))), (2, sy_i (sy_or l2 (sy_shl 1 l3))), (0, .ref 13)]) mj_d_72_37 (Nat.le_of_ble_eq_true rfl) rfl rfl ?_
          refine sy_st (S' := (mj_m_72, 7, [(4, sy_i (l4 + 1)), (3, sy_i (sy_rd h 16 ((l3).toNat))), (2, sy_i (sy_or l2 (sy_shl 1 l3))), (0, .ref 13)], [], h)) mj_d_72_40 (fun _ _ => rfl) ?_
          refine sy_lv (lv := [(0, .ref 13), (2, sy_i (sy_or l2 (sy_shl 1 l3))), (3, sy_i (sy_rd h 16 ((l3).toNat))), (4, sy_i (l4 + 1))]) rfl ⟨rfl, rfl, rfl, rfl, trivial⟩ ?_
          exact ih hH (by first | omega | assumption) (by first | omega | assumption) (by first | omega | assumption) (by first | omega | assumption) (by first | omega | assumption) (by first | omega | assumption) (by omega)
set_option maxRecDepth 100000 in
theorem dt_St_down {h : mj_H} (hH : sy_H h) {a1 : Int} (b_a1 : 0 ≤ a1) (t_a1 : a1 ≤ 8) : sy_wp (mj_m_72, 0, [(0, .ref 13), (1, sy_i a1)], [], h) (dq1 h (0) (511) (dc_St_down (sy_rd h) a1)) := by
  unfold dc_St_down
  refine sy_st (S' := (mj_m_72, 1, [(0, .ref 13), (1, sy_i a1)], [sy_i 0], h)) mj_d_72_0 (fun _ _ => rfl) ?_
  refine sy_st (S' := (mj_m_72, 2, [(2, sy_i 0), (0, .ref 13), (1, sy_i a1)], [], h)) mj_d_72_1 (fun _ _ => rfl) ?_
  refine sy_st (S' := (mj_m_72, 3, [(2, sy_i 0), (0, .ref 13), (1, sy_i a1)], [sy_i a1], h)) mj_d_72_2 (fun _ _ => rfl) ?_
  refine sy_st (S' := (mj_m_72, 4, [(3, sy_i a1), (2, sy_i 0), (0, .ref 13), (1, sy_i a1)], [], h)) mj_d_72_3 (fun _ _ => rfl) ?_
  refine sy_st (S' := (mj_m_72, 5, [(3, sy_i a1), (2, sy_i 0), (0, .ref 13), (1, sy_i a1)], [sy_i 0], h)) mj_d_72_4 (fun _ _ => rfl) ?_
  refine sy_st (S' := (mj_m_72, 7, [(4, sy_i 0), (3, sy_i a1), (2, sy_i 0), (0, .ref 13), (1, sy_i a1)], [], h)) mj_d_72_5 (fun _ _ => rfl) ?_
  refine sy_lv (lv := [(0, .ref 13), (2, sy_i 0), (3, sy_i a1), (4, sy_i 0)]) rfl ⟨rfl, rfl, rfl, rfl, trivial⟩ ?_
  exact dt_St_down_7 10 hH (by first | omega | assumption) (by first | omega | assumption) (by first | omega | assumption) (by first | omega | assumption) (by first | omega | assumption) (by first | omega | assumption) (by omega)
def dc_St_reach (s : sg_S) (a1 : Int) : Int := (if 0 ≤ (dc_Plan_neighbour s a1) then (sy_or (dc_St_down s a1) (sy_shl 1 (dc_Plan_neighbour s a1))) else (dc_St_down s a1))
set_option maxRecDepth 100000 in
theorem dt_St_reach {h : mj_H} (hH : sy_H h) {a1 : Int} (b_a1 : 0 ≤ a1) (t_a1 : a1 ≤ 8) : sy_wp (mj_m_83, 0, [(0, .ref 13), (1, sy_i a1), (2, .ref 8)], [], h) (dq1 h (0) (511) (dc_St_reach (sy_rd h) a1)) := by
  unfold dc_St_reach
  refine sy_st (S' := (mj_m_83, 1, [(0, .ref 13), (1, sy_i a1), (2, .ref 8)], [.ref 8], h)) mj_d_83_0 (fun _ _ => rfl) ?_
  refine sy_st (S' := (mj_m_83, 2, [(0, .ref 13), (1, sy_i a1), (2, .ref 8)], [sy_i a1, .ref 8], h)) mj_d_83_1 (fun _ _ => rfl) ?_
  refine sy_cv (M' := mj_m_53) (vs := [.ref 8, sy_i a1]) (rest := []) mj_d_83_2 rfl rfl rfl rfl hH rfl rfl ⟨by decide, ⟨Nat.le_of_ble_eq_true rfl, Nat.le_of_ble_eq_true rfl, Nat.le_of_ble_eq_true rfl, Nat.le_of_ble_eq_true rfl, Nat.le_of_ble_eq_true rfl⟩⟩ (dt_Plan_neighbour (a1 := a1) hH (by omega) (by omega)) ?_
  rintro _ _ ⟨rfl, rfl, b1, b1t⟩
  show sy_wp (mj_m_83, 5, [(0, .ref 13), (1, sy_i a1), (2, .ref 8)], [sy_i (dc_Plan_neighbour (sy_rd h) a1)], h) _
  refine sy_st (S' := (mj_m_83, 6, [(3, sy_i (dc_Plan_neighbour (sy_rd h) a1)), (0, .ref 13), (1, sy_i a1), (2, .ref 8)], [], h)) mj_d_83_5 (fun _ _ => rfl) ?_
  refine sy_st (S' := (mj_m_83, 7, [(3, sy_i (dc_Plan_neighbour (sy_rd h) a1)), (0, .ref 13), (1, sy_i a1), (2, .ref 8)], [sy_i (dc_Plan_neighbour (sy_rd h) a1)], h)) mj_d_83_6 (fun _ _ => rfl) ?_
  refine sy_ifc mj_d_83_7 rfl ⟨by omega, by omega⟩ (fun (c2 : 0 ≤ (dc_Plan_neighbour (sy_rd h) a1)) => ?_) (fun (c2 : ¬ (0 ≤ (dc_Plan_neighbour (sy_rd h) a1))) => ?_)
  · skip
    rw [if_pos c2]
    refine sy_st (S' := (mj_m_83, 19, [(3, sy_i (dc_Plan_neighbour (sy_rd h) a1)), (0, .ref 13), (1, sy_i a1), (2, .ref 8)], [.ref 13], h)) mj_d_83_18 (fun _ _ => rfl) ?_
    refine sy_st (S' := (mj_m_83, 20, [(3, sy_i (dc_Plan_neighbour (sy_rd h) a1)), (0, .ref 13), (1, sy_i a1), (2, .ref 8)], [sy_i a1, .ref 13], h)) mj_d_83_19 (fun _ _ => rfl) ?_
    refine sy_cv (M' := mj_m_72) (vs := [.ref 13, sy_i a1]) (rest := []) mj_d_83_20 rfl rfl rfl rfl hH rfl rfl ⟨by decide, ⟨Nat.le_of_ble_eq_true rfl, Nat.le_of_ble_eq_true rfl, Nat.le_of_ble_eq_true rfl, Nat.le_of_ble_eq_true rfl, Nat.le_of_ble_eq_true rfl⟩⟩ (dt_St_down (a1 := a1) hH (by omega) (by omega)) ?_
    rintro _ _ ⟨rfl, rfl, b3, b3t⟩
    show sy_wp (mj_m_83, 23, [(3, sy_i (dc_Plan_neighbour (sy_rd h) a1)), (0, .ref 13), (1, sy_i a1), (2, .ref 8)], [sy_i (dc_St_down (sy_rd h) a1)], h) _
    refine sy_st (S' := (mj_m_83, 24, [(3, sy_i (dc_Plan_neighbour (sy_rd h) a1)), (0, .ref 13), (1, sy_i a1), (2, .ref 8)], [sy_i 1, sy_i (dc_St_down (sy_rd h) a1)], h)) mj_d_83_23 (fun _ _ => rfl) ?_
    refine sy_st (S' := (mj_m_83, 25, [(3, sy_i (dc_Plan_neighbour (sy_rd h) a1)), (0, .ref 13), (1, sy_i a1), (2, .ref 8)], [sy_i (dc_Plan_neighbour (sy_rd h) a1), sy_i 1, sy_i (dc_St_down (sy_rd h) a1)], h)) mj_d_83_24 (fun _ _ => rfl) ?_
    refine sy_ishl mj_d_83_25 ?_
    have q4 := sg_shl_f 1 (dc_Plan_neighbour (sy_rd h) a1)
    refine sy_ior mj_d_83_26 ?_
    have q5 := sg_or_f (dc_St_down (sy_rd h) a1) (sy_shl 1 (dc_Plan_neighbour (sy_rd h) a1))
    exact sy_reti mj_d_83_27 rfl ⟨rfl, rfl, by omega, by omega⟩
  · skip
    rw [if_neg c2]
    refine sy_st (S' := (mj_m_83, 11, [(3, sy_i (dc_Plan_neighbour (sy_rd h) a1)), (0, .ref 13), (1, sy_i a1), (2, .ref 8)], [.ref 13], h)) mj_d_83_10 (fun _ _ => rfl) ?_
    refine sy_st (S' := (mj_m_83, 12, [(3, sy_i (dc_Plan_neighbour (sy_rd h) a1)), (0, .ref 13), (1, sy_i a1), (2, .ref 8)], [sy_i a1, .ref 13], h)) mj_d_83_11 (fun _ _ => rfl) ?_
    refine sy_cv (M' := mj_m_72) (vs := [.ref 13, sy_i a1]) (rest := []) mj_d_83_12 rfl rfl rfl rfl hH rfl rfl ⟨by decide, ⟨Nat.le_of_ble_eq_true rfl, Nat.le_of_ble_eq_true rfl, Nat.le_of_ble_eq_true rfl, Nat.le_of_ble_eq_true rfl, Nat.le_of_ble_eq_true rfl⟩⟩ (dt_St_down (a1 := a1) hH (by omega) (by omega)) ?_
    rintro _ _ ⟨rfl, rfl, b6, b6t⟩
    show sy_wp (mj_m_83, 15, [(3, sy_i (dc_Plan_neighbour (sy_rd h) a1)), (0, .ref 13), (1, sy_i a1), (2, .ref 8)], [sy_i (dc_St_down (sy_rd h) a1)], h) _
    refine sy_st (S' := (mj_m_83, 27, [(3, sy_i (dc_Plan_neighbour (sy_rd h) a1)), (0, .ref 13), (1, sy_i a1), (2, .ref 8)], [sy_i (dc_St_down (sy_rd h) a1)], h)) mj_d_83_15 (fun _ _ => rfl) ?_
    exact sy_reti mj_d_83_27 rfl ⟨rfl, rfl, by omega, by omega⟩
def dc_St_heatOf_5 (n : Nat) : sg_S → Int → Int → Int → Int → Int := Nat.rec (fun (s : sg_S) l1 l2 l3 l4 => 0) (fun _ ih => fun s l1 l2 l3 l4 => (if l2 ≤ l4 then l3 else (if l4 = l1 then (ih s l1 l2 l3 (l4 + 1)) else (if (sy_and (sy_shr (dc_St_down s l4) l1) 1) = 1 then (ih s l1 l2 (sy_or l3 (sy_shl 1 l4)) (l4 + 1)) else (ih s l1 l2 l3 (l4 + 1)))))) n
theorem dc_St_heatOf_5_s (n : Nat) (s : sg_S) (l1 l2 l3 l4 : Int) : dc_St_heatOf_5 (n + 1) s l1 l2 l3 l4 = (if l2 ≤ l4 then l3 else (if l4 = l1 then ((dc_St_heatOf_5 n) s l1 l2 l3 (l4 + 1)) else (if (sy_and (sy_shr (dc_St_down s l4) l1) 1) = 1 then ((dc_St_heatOf_5 n) s l1 l2 (sy_or l3 (sy_shl 1 l4)) (l4 + 1)) else ((dc_St_heatOf_5 n) s l1 l2 l3 (l4 + 1))))) := rfl
def dc_St_heatOf (s : sg_S) (a1 a2 : Int) : Int := (dc_St_heatOf_5 10 s a1 a2 0 0)
set_option maxRecDepth 100000 in
theorem dt_St_heatOf_5 : ∀ (n : Nat) {h : mj_H} (hH : sy_H h) {l1 l2 l3 l4 : Int} (b_l1 : 0 ≤ l1) (t_l1 : l1 ≤ 8) (b_l2 : 0 ≤ l2) (t_l2 : l2 ≤ 9) (b_l3 : 0 ≤ l3) (t_l3 : l3 ≤ 511) (b_l4 : 0 ≤ l4) (t_l4 : l4 ≤ 9) (hm : 9 - l4 < (n : Int)), sy_wp (mj_m_84, 5, [(0, .ref 13), (1, sy_i l1), (2, sy_i l2), (3, sy_i l3), (4, sy_i l4)], [], h) (dq1 h (0) (511) (dc_St_heatOf_5 n (sy_rd h) l1 l2 l3 l4)) := by
  intro n
  induction n with
  | zero =>
    intro h hH l1 l2 l3 l4 b_l1 t_l1 b_l2 t_l2 b_l3 t_l3 b_l4 t_l4 hm
    exact absurd hm (by omega)
  | succ n ih =>
    intro h hH l1 l2 l3 l4 b_l1 t_l1 b_l2 t_l2 b_l3 t_l3 b_l4 t_l4 hm
    rw [dc_St_heatOf_5_s]
    refine sy_st (S' := (mj_m_84, 7, [(0, .ref 13), (1, sy_i l1), (2, sy_i l2), (3, sy_i l3), (4, sy_i l4)], [sy_i l4], h)) mj_d_84_5 (fun _ _ => rfl) ?_
    refine sy_st (S' := (mj_m_84, 8, [(0, .ref 13), (1, sy_i l1), (2, sy_i l2), (3, sy_i l3), (4, sy_i l4)], [sy_i l2, sy_i l4], h)) mj_d_84_7 (fun _ _ => rfl) ?_
    refine sy_icm mj_d_84_8 rfl ⟨by omega, by omega⟩ ⟨by omega, by omega⟩ (fun (c1 : l2 ≤ l4) => ?_) (fun (c1 : ¬ (l2 ≤ l4)) => ?_)
    · skip
      rw [if_pos c1]
      refine sy_st (S' := (mj_m_84, 45, [(0, .ref 13), (1, sy_i l1), (2, sy_i l2), (3, sy_i l3), (4, sy_i l4)], [sy_i l3], h)) mj_d_84_44 (fun _ _ => rfl) ?_
      exact sy_reti mj_d_84_45 rfl ⟨rfl, rfl, by omega, by omega⟩
    · skip
      rw [if_neg c1]
      refine sy_st (S' := (mj_m_84, 13, [(0, .ref 13), (1, sy_i l1), (2, sy_i l2), (3, sy_i l3), (4, sy_i l4)], [sy_i l4], h)) mj_d_84_11 (fun _ _ => rfl) ?_
      refine sy_st (S' := (mj_m_84, 14, [(0, .ref 13), (1, sy_i l1), (2, sy_i l2), (3, sy_i l3), (4, sy_i l4)], [sy_i l1, sy_i l4], h)) mj_d_84_13 (fun _ _ => rfl) ?_
      refine sy_icm mj_d_84_14 rfl ⟨by omega, by omega⟩ ⟨by omega, by omega⟩ (fun (c2 : l4 = l1) => ?_) (fun (c2 : ¬ (l4 = l1)) => ?_)
      · skip
        rw [if_pos c2]
        refine sy_inc (a := l4) (lv' := [(4, sy_i (l4 + 1)), (0, .ref 13), (1, sy_i l1), (2, sy_i l2), (3, sy_i l3)]) mj_d_84_38 (Nat.le_of_ble_eq_true rfl) rfl rfl ?_
        refine sy_st (S' := (mj_m_84, 5, [(4, sy_i (l4 + 1)), (0, .ref 13), (1, sy_i l1), (2, sy_i l2), (3, sy_i l3)], [], h)) mj_d_84_41 (fun _ _ => rfl) ?_
        refine sy_lv (lv := [(0, .ref 13), (1, sy_i l1), (2, sy_i l2), (3, sy_i l3), (4, sy_i (l4 + 1))]) rfl ⟨rfl, rfl, rfl, rfl, rfl, trivial⟩ ?_
        exact ih hH (by first | omega | assumption) (by first | omega | assumption) (by first | omega | assumption) (by first | omega | assumption) (by first | omega | assumption) (by first | omega | assumption) (by first | omega | assumption) (by first | omega | assumption) (by omega)
      · skip
        rw [if_neg c2]
        refine sy_st (S' := (mj_m_84, 18, [(0, .ref 13), (1, sy_i l1), (2, sy_i l2), (3, sy_i l3), (4, sy_i l4)], [.ref 13], h)) mj_d_84_17 (fun _ _ => rfl) ?_
        refine sy_st (S' := (mj_m_84, 20, [(0, .ref 13), (1, sy_i l1), (2, sy_i l2), (3, sy_i l3), (4, sy_i l4)], [sy_i l4, .ref 13], h)) mj_d_84_18 (fun _ _ => rfl) ?_
        refine sy_cv (M' := mj_m_72) (vs := [.ref 13, sy_i l4]) (rest := []) mj_d_84_20 rfl rfl rfl rfl hH rfl rfl ⟨by decide, ⟨Nat.le_of_ble_eq_true rfl, Nat.le_of_ble_eq_true rfl, Nat.le_of_ble_eq_true rfl, Nat.le_of_ble_eq_true rfl, Nat.le_of_ble_eq_true rfl⟩⟩ (dt_St_down (a1 := l4) hH (by omega) (by omega)) ?_
        rintro _ _ ⟨rfl, rfl, b3, b3t⟩
        show sy_wp (mj_m_84, 23, [(0, .ref 13), (1, sy_i l1), (2, sy_i l2), (3, sy_i l3), (4, sy_i l4)], [sy_i (dc_St_down (sy_rd h) l4)], h) _
        refine sy_st (S' := (mj_m_84, 24, [(0, .ref 13), (1, sy_i l1), (2, sy_i l2), (3, sy_i l3), (4, sy_i l4)], [sy_i l1, sy_i (dc_St_down (sy_rd h) l4)], h)) mj_d_84_23 (fun _ _ => rfl) ?_
        refine sy_ishr mj_d_84_24 ?_
        have q4 := sg_shr_f (dc_St_down (sy_rd h) l4) l1
        refine sy_st (S' := (mj_m_84, 26, [(0, .ref 13), (1, sy_i l1), (2, sy_i l2), (3, sy_i l3), (4, sy_i l4)], [sy_i 1, sy_i (sy_shr (dc_St_down (sy_rd h) l4) l1)], h)) mj_d_84_25 (fun _ _ => rfl) ?_
        refine sy_iand mj_d_84_26 ?_
        have q5 := sg_and_f (sy_shr (dc_St_down (sy_rd h) l4) l1) 1
        refine sy_st (S' := (mj_m_84, 28, [(0, .ref 13), (1, sy_i l1), (2, sy_i l2), (3, sy_i l3), (4, sy_i l4)], [sy_i 1, sy_i (sy_and (sy_shr (dc_St_down (sy_rd h) l4) l1) 1)], h)) mj_d_84_27 (fun _ _ => rfl) ?_
        refine sy_icm mj_d_84_28 rfl ⟨by omega, by omega⟩ ⟨by omega, by omega⟩ (fun (c6 : ¬ ((sy_and (sy_shr (dc_St_down (sy_rd h) l4) l1) 1) = 1)) => ?_) (fun (c6 : ¬ ¬ ((sy_and (sy_shr (dc_St_down (sy_rd h) l4) l1) 1) = 1)) => ?_)
        · skip
          rw [if_neg c6]
          refine sy_inc (a := l4) (lv' := [(4, sy_i (l4 + 1)), (0, .ref 13), (1, sy_i l1), (2, sy_i l2), (3, sy_i l3)]) mj_d_84_38 (Nat.le_of_ble_eq_true rfl) rfl rfl ?_
          refine sy_st (S' := (mj_m_84, 5, [(4, sy_i (l4 + 1)), (0, .ref 13), (1, sy_i l1), (2, sy_i l2), (3, sy_i l3)], [], h)) mj_d_84_41 (fun _ _ => rfl) ?_
          refine sy_lv (lv := [(0, .ref 13), (1, sy_i l1), (2, sy_i l2), (3, sy_i l3), (4, sy_i (l4 + 1))]) rfl ⟨rfl, rfl, rfl, rfl, rfl, trivial⟩ ?_
          exact ih hH (by first | omega | assumption) (by first | omega | assumption) (by first | omega | assumption) (by first | omega | assumption) (by first | omega | assumption) (by first | omega | assumption) (by first | omega | assumption) (by first | omega | assumption) (by omega)
        · skip
          rw [if_pos (Decidable.not_not.mp c6)]
          replace c6 := Decidable.not_not.mp c6
          refine sy_st (S' := (mj_m_84, 32, [(0, .ref 13), (1, sy_i l1), (2, sy_i l2), (3, sy_i l3), (4, sy_i l4)], [sy_i l3], h)) mj_d_84_31 (fun _ _ => rfl) ?_
          refine sy_st (S' := (mj_m_84, 33, [(0, .ref 13), (1, sy_i l1), (2, sy_i l2), (3, sy_i l3), (4, sy_i l4)], [sy_i 1, sy_i l3], h)) mj_d_84_32 (fun _ _ => rfl) ?_
          refine sy_st (S' := (mj_m_84, 35, [(0, .ref 13), (1, sy_i l1), (2, sy_i l2), (3, sy_i l3), (4, sy_i l4)], [sy_i l4, sy_i 1, sy_i l3], h)) mj_d_84_33 (fun _ _ => rfl) ?_
          refine sy_ishl mj_d_84_35 ?_
          have q7 := sg_shl_f 1 l4
          refine sy_ior mj_d_84_36 ?_
          have q8 := sg_or_f l3 (sy_shl 1 l4)
          refine sy_st (S' := (mj_m_84, 38, [(3, sy_i (sy_or l3 (sy_shl 1 l4))), (0, .ref 13), (1, sy_i l1), (2, sy_i l2), (4, sy_i l4)], [], h)) mj_d_84_37 (fun _ _ => rfl) ?_
          refine sy_inc (a := l4) (lv' := [(4, sy_i (l4 + 1)), (3, sy_i (sy_or l3 (sy_shl 1 l4))), (0, .ref 13), (1, sy_i l1), (2, sy_i l2)]) mj_d_84_38 (Nat.le_of_ble_eq_true rfl) rfl rfl ?_
          refine sy_st (S' := (mj_m_84, 5, [(4, sy_i (l4 + 1)), (3, sy_i (sy_or l3 (sy_shl 1 l4))), (0, .ref 13), (1, sy_i l1), (2, sy_i l2)], [], h)) mj_d_84_41 (fun _ _ => rfl) ?_
          refine sy_lv (lv := [(0, .ref 13), (1, sy_i l1), (2, sy_i l2), (3, sy_i (sy_or l3 (sy_shl 1 l4))), (4, sy_i (l4 + 1))]) rfl ⟨rfl, rfl, rfl, rfl, rfl, trivial⟩ ?_
          exact ih hH (by first | omega | assumption) (by first | omega | assumption) (by first | omega | assumption) (by first | omega | assumption) (by first | omega | assumption) (by first | omega | assumption) (by first | omega | assumption) (by first | omega | assumption) (by omega)
set_option maxRecDepth 100000 in
theorem dt_St_heatOf {h : mj_H} (hH : sy_H h) {a1 a2 : Int} (b_a1 : 0 ≤ a1) (t_a1 : a1 ≤ 8) (b_a2 : 0 ≤ a2) (t_a2 : a2 ≤ 9) : sy_wp (mj_m_84, 0, [(0, .ref 13), (1, sy_i a1), (2, sy_i a2)], [], h) (dq1 h (0) (511) (dc_St_heatOf (sy_rd h) a1 a2)) := by
  unfold dc_St_heatOf
  refine sy_st (S' := (mj_m_84, 1, [(0, .ref 13), (1, sy_i a1), (2, sy_i a2)], [sy_i 0], h)) mj_d_84_0 (fun _ _ => rfl) ?_
  refine sy_st (S' := (mj_m_84, 2, [(3, sy_i 0), (0, .ref 13), (1, sy_i a1), (2, sy_i a2)], [], h)) mj_d_84_1 (fun _ _ => rfl) ?_
  refine sy_st (S' := (mj_m_84, 3, [(3, sy_i 0), (0, .ref 13), (1, sy_i a1), (2, sy_i a2)], [sy_i 0], h)) mj_d_84_2 (fun _ _ => rfl) ?_
  refine sy_st (S' := (mj_m_84, 5, [(4, sy_i 0), (3, sy_i 0), (0, .ref 13), (1, sy_i a1), (2, sy_i a2)], [], h)) mj_d_84_3 (fun _ _ => rfl) ?_
  refine sy_lv (lv := [(0, .ref 13), (1, sy_i a1), (2, sy_i a2), (3, sy_i 0), (4, sy_i 0)]) rfl ⟨rfl, rfl, rfl, rfl, rfl, trivial⟩ ?_
  exact dt_St_heatOf_5 10 hH (by first | omega | assumption) (by first | omega | assumption) (by first | omega | assumption) (by first | omega | assumption) (by first | omega | assumption) (by first | omega | assumption) (by first | omega | assumption) (by first | omega | assumption) (by omega)
def dc_St_likeOf_5 (n : Nat) : sg_S → Int → Int → Int → Int → Int := Nat.rec (fun (s : sg_S) l1 l2 l3 l4 => 0) (fun _ ih => fun s l1 l2 l3 l4 => (if l2 ≤ l4 then l3 else (if (s 14 ((l4).toNat)) = (s 14 ((l1).toNat)) then (ih s l1 l2 (sy_or l3 (sy_shl 1 l4)) (l4 + 1)) else (ih s l1 l2 l3 (l4 + 1))))) n
theorem dc_St_likeOf_5_s (n : Nat) (s : sg_S) (l1 l2 l3 l4 : Int) : dc_St_likeOf_5 (n + 1) s l1 l2 l3 l4 = (if l2 ≤ l4 then l3 else (if (s 14 ((l4).toNat)) = (s 14 ((l1).toNat)) then ((dc_St_likeOf_5 n) s l1 l2 (sy_or l3 (sy_shl 1 l4)) (l4 + 1)) else ((dc_St_likeOf_5 n) s l1 l2 l3 (l4 + 1)))) := rfl
def dc_St_likeOf (s : sg_S) (a1 a2 : Int) : Int := (dc_St_likeOf_5 10 s a1 a2 0 0)
set_option maxRecDepth 100000 in
theorem dt_St_likeOf_5 : ∀ (n : Nat) {h : mj_H} (hH : sy_H h) {l1 l2 l3 l4 : Int} (b_l1 : 0 ≤ l1) (t_l1 : l1 ≤ 8) (b_l2 : 0 ≤ l2) (t_l2 : l2 ≤ 9) (b_l3 : 0 ≤ l3) (t_l3 : l3 ≤ 511) (b_l4 : 0 ≤ l4) (t_l4 : l4 ≤ 9) (hm : 9 - l4 < (n : Int)), sy_wp (mj_m_85, 5, [(0, .ref 13), (1, sy_i l1), (2, sy_i l2), (3, sy_i l3), (4, sy_i l4)], [], h) (dq1 h (0) (511) (dc_St_likeOf_5 n (sy_rd h) l1 l2 l3 l4)) := by
  intro n
  induction n with
  | zero =>
    intro h hH l1 l2 l3 l4 b_l1 t_l1 b_l2 t_l2 b_l3 t_l3 b_l4 t_l4 hm
    exact absurd hm (by omega)
  | succ n ih =>
    intro h hH l1 l2 l3 l4 b_l1 t_l1 b_l2 t_l2 b_l3 t_l3 b_l4 t_l4 hm
    rw [dc_St_likeOf_5_s]
    refine sy_st (S' := (mj_m_85, 7, [(0, .ref 13), (1, sy_i l1), (2, sy_i l2), (3, sy_i l3), (4, sy_i l4)], [sy_i l4], h)) mj_d_85_5 (fun _ _ => rfl) ?_
    refine sy_st (S' := (mj_m_85, 8, [(0, .ref 13), (1, sy_i l1), (2, sy_i l2), (3, sy_i l3), (4, sy_i l4)], [sy_i l2, sy_i l4], h)) mj_d_85_7 (fun _ _ => rfl) ?_
    refine sy_icm mj_d_85_8 rfl ⟨by omega, by omega⟩ ⟨by omega, by omega⟩ (fun (c1 : l2 ≤ l4) => ?_) (fun (c1 : ¬ (l2 ≤ l4)) => ?_)
    · skip
      rw [if_pos c1]
      refine sy_st (S' := (mj_m_85, 41, [(0, .ref 13), (1, sy_i l1), (2, sy_i l2), (3, sy_i l3), (4, sy_i l4)], [sy_i l3], h)) mj_d_85_40 (fun _ _ => rfl) ?_
      exact sy_reti mj_d_85_41 rfl ⟨rfl, rfl, by omega, by omega⟩
    · skip
      rw [if_neg c1]
      refine sy_st (S' := (mj_m_85, 12, [(0, .ref 13), (1, sy_i l1), (2, sy_i l2), (3, sy_i l3), (4, sy_i l4)], [.ref 13], h)) mj_d_85_11 (fun _ _ => rfl) ?_
      refine sy_gr2 (b := 14) mj_d_85_12 rfl rfl (by decide) rfl rfl hH ?_
      refine sy_st (S' := (mj_m_85, 17, [(0, .ref 13), (1, sy_i l1), (2, sy_i l2), (3, sy_i l3), (4, sy_i l4)], [sy_i l4, .ref 14], h)) mj_d_85_15 (fun _ _ => rfl) ?_
      refine sy_ia mj_d_85_17 rfl (by decide) (by omega) (by omega) (ab_el_1 rfl _) hH ?_
      rintro _ rfl bx2 tx2
      refine sy_st (S' := (mj_m_85, 19, [(0, .ref 13), (1, sy_i l1), (2, sy_i l2), (3, sy_i l3), (4, sy_i l4)], [.ref 13, sy_i (sy_rd h 14 ((l4).toNat))], h)) mj_d_85_18 (fun _ _ => rfl) ?_
      refine sy_gr2 (b := 14) mj_d_85_19 rfl rfl (by decide) rfl rfl hH ?_
      refine sy_st (S' := (mj_m_85, 23, [(0, .ref 13), (1, sy_i l1), (2, sy_i l2), (3, sy_i l3), (4, sy_i l4)], [sy_i l1, .ref 14, sy_i (sy_rd h 14 ((l4).toNat))], h)) mj_d_85_22 (fun _ _ => rfl) ?_
      refine sy_ia mj_d_85_23 rfl (by decide) (by omega) (by omega) (ab_el_1 rfl _) hH ?_
      rintro _ rfl bx3 tx3
      refine sy_icm mj_d_85_24 rfl ⟨by omega, by omega⟩ ⟨by omega, by omega⟩ (fun (c4 : ¬ ((sy_rd h 14 ((l4).toNat)) = (sy_rd h 14 ((l1).toNat)))) => ?_) (fun (c4 : ¬ ¬ ((sy_rd h 14 ((l4).toNat)) = (sy_rd h 14 ((l1).toNat)))) => ?_)
      · skip
        rw [if_neg c4]
        refine sy_inc (a := l4) (lv' := [(4, sy_i (l4 + 1)), (0, .ref 13), (1, sy_i l1), (2, sy_i l2), (3, sy_i l3)]) mj_d_85_34 (Nat.le_of_ble_eq_true rfl) rfl rfl ?_
        refine sy_st (S' := (mj_m_85, 5, [(4, sy_i (l4 + 1)), (0, .ref 13), (1, sy_i l1), (2, sy_i l2), (3, sy_i l3)], [], h)) mj_d_85_37 (fun _ _ => rfl) ?_
        refine sy_lv (lv := [(0, .ref 13), (1, sy_i l1), (2, sy_i l2), (3, sy_i l3), (4, sy_i (l4 + 1))]) rfl ⟨rfl, rfl, rfl, rfl, rfl, trivial⟩ ?_
        exact ih hH (by first | omega | assumption) (by first | omega | assumption) (by first | omega | assumption) (by first | omega | assumption) (by first | omega | assumption) (by first | omega | assumption) (by first | omega | assumption) (by first | omega | assumption) (by omega)
      · skip
        rw [if_pos (Decidable.not_not.mp c4)]
        replace c4 := Decidable.not_not.mp c4
        refine sy_st (S' := (mj_m_85, 28, [(0, .ref 13), (1, sy_i l1), (2, sy_i l2), (3, sy_i l3), (4, sy_i l4)], [sy_i l3], h)) mj_d_85_27 (fun _ _ => rfl) ?_
        refine sy_st (S' := (mj_m_85, 29, [(0, .ref 13), (1, sy_i l1), (2, sy_i l2), (3, sy_i l3), (4, sy_i l4)], [sy_i 1, sy_i l3], h)) mj_d_85_28 (fun _ _ => rfl) ?_
        refine sy_st (S' := (mj_m_85, 31, [(0, .ref 13), (1, sy_i l1), (2, sy_i l2), (3, sy_i l3), (4, sy_i l4)], [sy_i l4, sy_i 1, sy_i l3], h)) mj_d_85_29 (fun _ _ => rfl) ?_
        refine sy_ishl mj_d_85_31 ?_
        have q5 := sg_shl_f 1 l4
        refine sy_ior mj_d_85_32 ?_
        have q6 := sg_or_f l3 (sy_shl 1 l4)
        refine sy_st (S' := (mj_m_85, 34, [(3, sy_i (sy_or l3 (sy_shl 1 l4))), (0, .ref 13), (1, sy_i l1), (2, sy_i l2), (4, sy_i l4)], [], h)) mj_d_85_33 (fun _ _ => rfl) ?_
        refine sy_inc (a := l4) (lv' := [(4, sy_i (l4 + 1)), (3, sy_i (sy_or l3 (sy_shl 1 l4))), (0, .ref 13), (1, sy_i l1), (2, sy_i l2)]) mj_d_85_34 (Nat.le_of_ble_eq_true rfl) rfl rfl ?_
        refine sy_st (S' := (mj_m_85, 5, [(4, sy_i (l4 + 1)), (3, sy_i (sy_or l3 (sy_shl 1 l4))), (0, .ref 13), (1, sy_i l1), (2, sy_i l2)], [], h)) mj_d_85_37 (fun _ _ => rfl) ?_
        refine sy_lv (lv := [(0, .ref 13), (1, sy_i l1), (2, sy_i l2), (3, sy_i (sy_or l3 (sy_shl 1 l4))), (4, sy_i (l4 + 1))]) rfl ⟨rfl, rfl, rfl, rfl, rfl, trivial⟩ ?_
        exact ih hH (by first | omega | assumption) (by first | omega | assumption) (by first | omega | assumption) (by first | omega | assumption) (by first | omega | assumption) (by first | omega | assumption) (by first | omega | assumption) (by first | omega | assumption) (by omega)
set_option maxRecDepth 100000 in
theorem dt_St_likeOf {h : mj_H} (hH : sy_H h) {a1 a2 : Int} (b_a1 : 0 ≤ a1) (t_a1 : a1 ≤ 8) (b_a2 : 0 ≤ a2) (t_a2 : a2 ≤ 9) : sy_wp (mj_m_85, 0, [(0, .ref 13), (1, sy_i a1), (2, sy_i a2)], [], h) (dq1 h (0) (511) (dc_St_likeOf (sy_rd h) a1 a2)) := by
  unfold dc_St_likeOf
  refine sy_st (S' := (mj_m_85, 1, [(0, .ref 13), (1, sy_i a1), (2, sy_i a2)], [sy_i 0], h)) mj_d_85_0 (fun _ _ => rfl) ?_
  refine sy_st (S' := (mj_m_85, 2, [(3, sy_i 0), (0, .ref 13), (1, sy_i a1), (2, sy_i a2)], [], h)) mj_d_85_1 (fun _ _ => rfl) ?_
  refine sy_st (S' := (mj_m_85, 3, [(3, sy_i 0), (0, .ref 13), (1, sy_i a1), (2, sy_i a2)], [sy_i 0], h)) mj_d_85_2 (fun _ _ => rfl) ?_
  refine sy_st (S' := (mj_m_85, 5, [(4, sy_i 0), (3, sy_i 0), (0, .ref 13), (1, sy_i a1), (2, sy_i a2)], [], h)) mj_d_85_3 (fun _ _ => rfl) ?_
  refine sy_lv (lv := [(0, .ref 13), (1, sy_i a1), (2, sy_i a2), (3, sy_i 0), (4, sy_i 0)]) rfl ⟨rfl, rfl, rfl, rfl, rfl, trivial⟩ ?_
  exact dt_St_likeOf_5 10 hH (by first | omega | assumption) (by first | omega | assumption) (by first | omega | assumption) (by first | omega | assumption) (by first | omega | assumption) (by first | omega | assumption) (by first | omega | assumption) (by first | omega | assumption) (by omega)
def dc_St_fluesWith_5 (n : Nat) : sg_S → Int → Int → Int → Int → Int := Nat.rec (fun (s : sg_S) l1 l2 l3 l4 => 0) (fun _ ih => fun s l1 l2 l3 l4 => (if l2 ≤ l4 then l3 else (if (dc_Soot_holds s (s 14 ((l4).toNat)) l1) = 0 then (ih s l1 l2 l3 (l4 + 1)) else (ih s l1 l2 (l3 + 1) (l4 + 1))))) n
theorem dc_St_fluesWith_5_s (n : Nat) (s : sg_S) (l1 l2 l3 l4 : Int) : dc_St_fluesWith_5 (n + 1) s l1 l2 l3 l4 = (if l2 ≤ l4 then l3 else (if (dc_Soot_holds s (s 14 ((l4).toNat)) l1) = 0 then ((dc_St_fluesWith_5 n) s l1 l2 l3 (l4 + 1)) else ((dc_St_fluesWith_5 n) s l1 l2 (l3 + 1) (l4 + 1)))) := rfl
def dc_St_fluesWith (s : sg_S) (a1 a2 : Int) : Int := (dc_St_fluesWith_5 10 s a1 a2 0 0)
set_option maxRecDepth 100000 in
theorem dt_St_fluesWith_5 : ∀ (n : Nat) {h : mj_H} (hH : sy_H h) {l1 l2 l3 l4 : Int} (b_l1 : (-2147483648) ≤ l1) (t_l1 : l1 ≤ 2147483647) (b_l2 : 0 ≤ l2) (t_l2 : l2 ≤ 9) (b_l3 : 0 ≤ l3) (t_l3 : l3 ≤ 9) (b_l4 : 0 ≤ l4) (t_l4 : l4 ≤ 9) (i0 : l3 ≤ l4) (hm : 9 - l4 < (n : Int)), sy_wp (mj_m_102, 5, [(0, .ref 13), (1, sy_i l1), (2, sy_i l2), (3, sy_i l3), (4, sy_i l4)], [], h) (dq1 h (0) (9) (dc_St_fluesWith_5 n (sy_rd h) l1 l2 l3 l4)) := by
  intro n
  induction n with
  | zero =>
    intro h hH l1 l2 l3 l4 b_l1 t_l1 b_l2 t_l2 b_l3 t_l3 b_l4 t_l4 i0 hm
    exact absurd hm (by omega)
  | succ n ih =>
    intro h hH l1 l2 l3 l4 b_l1 t_l1 b_l2 t_l2 b_l3 t_l3 b_l4 t_l4 i0 hm
    rw [dc_St_fluesWith_5_s]
    refine sy_st (S' := (mj_m_102, 7, [(0, .ref 13), (1, sy_i l1), (2, sy_i l2), (3, sy_i l3), (4, sy_i l4)], [sy_i l4], h)) mj_d_102_5 (fun _ _ => rfl) ?_
    refine sy_st (S' := (mj_m_102, 8, [(0, .ref 13), (1, sy_i l1), (2, sy_i l2), (3, sy_i l3), (4, sy_i l4)], [sy_i l2, sy_i l4], h)) mj_d_102_7 (fun _ _ => rfl) ?_
    refine sy_icm mj_d_102_8 rfl ⟨by omega, by omega⟩ ⟨by omega, by omega⟩ (fun (c1 : l2 ≤ l4) => ?_) (fun (c1 : ¬ (l2 ≤ l4)) => ?_)
    · skip
      rw [if_pos c1]
      refine sy_st (S' := (mj_m_102, 35, [(0, .ref 13), (1, sy_i l1), (2, sy_i l2), (3, sy_i l3), (4, sy_i l4)], [sy_i l3], h)) mj_d_102_34 (fun _ _ => rfl) ?_
      exact sy_reti mj_d_102_35 rfl ⟨rfl, rfl, by omega, by omega⟩
    · skip
      rw [if_neg c1]
      refine sy_st (S' := (mj_m_102, 12, [(0, .ref 13), (1, sy_i l1), (2, sy_i l2), (3, sy_i l3), (4, sy_i l4)], [.ref 13], h)) mj_d_102_11 (fun _ _ => rfl) ?_
      refine sy_gr2 (b := 14) mj_d_102_12 rfl rfl (by decide) rfl rfl hH ?_
      refine sy_st (S' := (mj_m_102, 17, [(0, .ref 13), (1, sy_i l1), (2, sy_i l2), (3, sy_i l3), (4, sy_i l4)], [sy_i l4, .ref 14], h)) mj_d_102_15 (fun _ _ => rfl) ?_
      refine sy_ia mj_d_102_17 rfl (by decide) (by omega) (by omega) (ab_el_1 rfl _) hH ?_
      rintro _ rfl bx2 tx2
      refine sy_st (S' := (mj_m_102, 19, [(0, .ref 13), (1, sy_i l1), (2, sy_i l2), (3, sy_i l3), (4, sy_i l4)], [sy_i l1, sy_i (sy_rd h 14 ((l4).toNat))], h)) mj_d_102_18 (fun _ _ => rfl) ?_
      refine sy_cs (M' := mj_m_103) (vs := [sy_i (sy_rd h 14 ((l4).toNat)), sy_i l1]) (rest := []) mj_d_102_19 rfl rfl rfl rfl ⟨Nat.le_of_ble_eq_true rfl, Nat.le_of_ble_eq_true rfl, Nat.le_of_ble_eq_true rfl, Nat.le_of_ble_eq_true rfl, Nat.le_of_ble_eq_true rfl⟩ (dt_Soot_holds (a0 := (sy_rd h 14 ((l4).toNat))) (a1 := l1) hH (by omega) (by omega) (by omega) (by omega)) ?_
      rintro _ _ ⟨rfl, rfl, b3, b3t⟩
      show sy_wp (mj_m_102, 22, [(0, .ref 13), (1, sy_i l1), (2, sy_i l2), (3, sy_i l3), (4, sy_i l4)], [sy_i (dc_Soot_holds (sy_rd h) (sy_rd h 14 ((l4).toNat)) l1)], h) _
      refine sy_ifc mj_d_102_22 rfl ⟨by omega, by omega⟩ (fun (c4 : (dc_Soot_holds (sy_rd h) (sy_rd h 14 ((l4).toNat)) l1) = 0) => ?_) (fun (c4 : ¬ ((dc_Soot_holds (sy_rd h) (sy_rd h 14 ((l4).toNat)) l1) = 0)) => ?_)
      · skip
        rw [if_pos c4]
        refine sy_inc (a := l4) (lv' := [(4, sy_i (l4 + 1)), (0, .ref 13), (1, sy_i l1), (2, sy_i l2), (3, sy_i l3)]) mj_d_102_28 (Nat.le_of_ble_eq_true rfl) rfl rfl ?_
        refine sy_st (S' := (mj_m_102, 5, [(4, sy_i (l4 + 1)), (0, .ref 13), (1, sy_i l1), (2, sy_i l2), (3, sy_i l3)], [], h)) mj_d_102_31 (fun _ _ => rfl) ?_
        refine sy_lv (lv := [(0, .ref 13), (1, sy_i l1), (2, sy_i l2), (3, sy_i l3), (4, sy_i (l4 + 1))]) rfl ⟨rfl, rfl, rfl, rfl, rfl, trivial⟩ ?_
        exact ih hH (by first | omega | assumption) (by first | omega | assumption) (by first | omega | assumption) (by first | omega | assumption) (by first | omega | assumption) (by first | omega | assumption) (by first | omega | assumption) (by first | omega | assumption) (by first | omega | assumption) (by omega)
      · skip
        rw [if_neg c4]
        refine sy_inc (a := l3) (lv' := [(3, sy_i (l3 + 1)), (0, .ref 13), (1, sy_i l1), (2, sy_i l2), (4, sy_i l4)]) mj_d_102_25 (Nat.le_of_ble_eq_true rfl) rfl rfl ?_
        refine sy_inc (a := l4) (lv' := [(4, sy_i (l4 + 1)), (3, sy_i (l3 + 1)), (0, .ref 13), (1, sy_i l1), (2, sy_i l2)]) mj_d_102_28 (Nat.le_of_ble_eq_true rfl) rfl rfl ?_
        refine sy_st (S' := (mj_m_102, 5, [(4, sy_i (l4 + 1)), (3, sy_i (l3 + 1)), (0, .ref 13), (1, sy_i l1), (2, sy_i l2)], [], h)) mj_d_102_31 (fun _ _ => rfl) ?_
        refine sy_lv (lv := [(0, .ref 13), (1, sy_i l1), (2, sy_i l2), (3, sy_i (l3 + 1)), (4, sy_i (l4 + 1))]) rfl ⟨rfl, rfl, rfl, rfl, rfl, trivial⟩ ?_
        exact ih hH (by first | omega | assumption) (by first | omega | assumption) (by first | omega | assumption) (by first | omega | assumption) (by first | omega | assumption) (by first | omega | assumption) (by first | omega | assumption) (by first | omega | assumption) (by first | omega | assumption) (by omega)
set_option maxRecDepth 100000 in
theorem dt_St_fluesWith {h : mj_H} (hH : sy_H h) {a1 a2 : Int} (b_a1 : (-2147483648) ≤ a1) (t_a1 : a1 ≤ 2147483647) (b_a2 : 0 ≤ a2) (t_a2 : a2 ≤ 9) : sy_wp (mj_m_102, 0, [(0, .ref 13), (1, sy_i a1), (2, sy_i a2)], [], h) (dq1 h (0) (9) (dc_St_fluesWith (sy_rd h) a1 a2)) := by
  unfold dc_St_fluesWith
  refine sy_st (S' := (mj_m_102, 1, [(0, .ref 13), (1, sy_i a1), (2, sy_i a2)], [sy_i 0], h)) mj_d_102_0 (fun _ _ => rfl) ?_
  refine sy_st (S' := (mj_m_102, 2, [(3, sy_i 0), (0, .ref 13), (1, sy_i a1), (2, sy_i a2)], [], h)) mj_d_102_1 (fun _ _ => rfl) ?_
  refine sy_st (S' := (mj_m_102, 3, [(3, sy_i 0), (0, .ref 13), (1, sy_i a1), (2, sy_i a2)], [sy_i 0], h)) mj_d_102_2 (fun _ _ => rfl) ?_
  refine sy_st (S' := (mj_m_102, 5, [(4, sy_i 0), (3, sy_i 0), (0, .ref 13), (1, sy_i a1), (2, sy_i a2)], [], h)) mj_d_102_3 (fun _ _ => rfl) ?_
  refine sy_lv (lv := [(0, .ref 13), (1, sy_i a1), (2, sy_i a2), (3, sy_i 0), (4, sy_i 0)]) rfl ⟨rfl, rfl, rfl, rfl, rfl, trivial⟩ ?_
  exact dt_St_fluesWith_5 10 hH (by first | omega | assumption) (by first | omega | assumption) (by first | omega | assumption) (by first | omega | assumption) (by first | omega | assumption) (by first | omega | assumption) (by first | omega | assumption) (by first | omega | assumption) (by first | omega | assumption) (by omega)
def dc_Past_forget (s : sg_S) : sg_S := (sg_up s 19 2 0)
set_option maxRecDepth 100000 in
theorem dt_Past_forget {h : mj_H} (hH : sy_H h) : sy_wp (mj_m_31, 0, [(0, .ref 19)], [], h) (dq3 (dc_Past_forget (sy_rd h))) := by
  unfold dc_Past_forget
  refine sy_st (S' := (mj_m_31, 1, [(0, .ref 19)], [.ref 19], h)) mj_d_31_0 (fun _ _ => rfl) ?_
  refine sy_st (S' := (mj_m_31, 2, [(0, .ref 19)], [sy_i 0, .ref 19], h)) mj_d_31_1 (fun _ _ => rfl) ?_
  refine sg_pf (z := 0) mj_d_31_2 rfl rfl (by decide) (Or.inl rfl) rfl hH (by omega) (by omega) ⟨by omega, by omega⟩ ?_
  intro h1 th1 eh1
  exact sy_retv mj_d_31_5 rfl ⟨rfl, th1, eh1⟩
def dc_Past_remember (s : sg_S) : sg_S := (sg_up (sg_copy (sg_up s 19 1 (dc_Math_floorMod s ((s 19 1) + 1) 30)) 13 (21 + 6 * (dc_Math_floorMod s ((s 19 1) + 1) 30).toNat)) 19 2 (min ((s 19 2) + 1) 30))
set_option maxRecDepth 100000 in
theorem dt_Past_remember {h : mj_H} (hH : sy_H h) : sy_wp (mj_m_47, 0, [(0, .ref 19), (1, .ref 13)], [], h) (dq3 (dc_Past_remember (sy_rd h))) := by
  unfold dc_Past_remember
  refine sy_st (S' := (mj_m_47, 1, [(0, .ref 19), (1, .ref 13)], [.ref 19], h)) mj_d_47_0 (fun _ _ => rfl) ?_
  refine sy_st (S' := (mj_m_47, 2, [(0, .ref 19), (1, .ref 13)], [.ref 19, .ref 19], h)) mj_d_47_1 (fun _ _ => rfl) ?_
  refine sy_gf mj_d_47_2 rfl rfl (by decide) rfl hH ?_
  rintro _ rfl bx1 tx1
  refine sy_st (S' := (mj_m_47, 6, [(0, .ref 19), (1, .ref 13)], [sy_i 1, sy_i (sy_rd h 19 1), .ref 19], h)) mj_d_47_5 (fun _ _ => rfl) ?_
  refine sy_add mj_d_47_6 ?_
  refine sy_bip mj_d_47_7 (by decide) ?_
  refine sy_cs (M' := mj_m_48) (vs := [sy_i ((sy_rd h 19 1) + 1), sy_i 30]) (rest := [.ref 19]) mj_d_47_9 rfl rfl rfl rfl ⟨Nat.le_of_ble_eq_true rfl, Nat.le_of_ble_eq_true rfl, Nat.le_of_ble_eq_true rfl, Nat.le_of_ble_eq_true rfl, Nat.le_of_ble_eq_true rfl⟩ (dt_Math_floorMod (a0 := ((sy_rd h 19 1) + 1)) (a1 := 30) hH (by omega) (by omega) (by omega) (by omega)) ?_
  rintro _ _ ⟨rfl, rfl, b2, b2t⟩
  show sy_wp (mj_m_47, 12, [(0, .ref 19), (1, .ref 13)], [sy_i (dc_Math_floorMod (sy_rd h) ((sy_rd h 19 1) + 1) 30), .ref 19], h) _
  refine sg_pf (z := (dc_Math_floorMod (sy_rd h) ((sy_rd h 19 1) + 1) 30)) mj_d_47_12 rfl rfl (by decide) (Or.inl rfl) rfl hH (by omega) (by omega) ⟨by omega, by omega⟩ ?_
  intro h3 th3 eh3
  refine sy_st (S' := (mj_m_47, 16, [(0, .ref 19), (1, .ref 13)], [.ref 19], h3)) mj_d_47_15 (fun _ _ => rfl) ?_
  refine sy_gr2 (b := 20) mj_d_47_16 rfl rfl (by decide) rfl rfl th3 ?_
  refine sy_st (S' := (mj_m_47, 20, [(0, .ref 19), (1, .ref 13)], [.ref 19, .ref 20], h3)) mj_d_47_19 (fun _ _ => rfl) ?_
  refine sy_gf mj_d_47_20 rfl rfl (by decide) rfl th3 ?_
  intro x4 ex4 bx4 tx4
  rw [eh3, sg_eq] at ex4
  subst ex4
  refine sg_aaP mj_d_47_23 (by omega) (by omega) th3 ?_
  refine sy_st (S' := (mj_m_47, 25, [(0, .ref 19), (1, .ref 13)], [.ref 13, .ref (21 + 6 * (dc_Math_floorMod (sy_rd h) ((sy_rd h 19 1) + 1) 30).toNat)], h3)) mj_d_47_24 (fun _ _ => rfl) ?_
  refine sy_cv (M' := mj_m_49) (vs := [.ref (21 + 6 * (dc_Math_floorMod (sy_rd h) ((sy_rd h 19 1) + 1) 30).toNat), .ref 13]) (rest := []) mj_d_47_25 rfl rfl rfl (sg_stc (sg_aaP_m (z := dc_Math_floorMod (sy_rd h) ((sy_rd h 19 1) + 1) 30) (by omega) (by omega))).1 th3 rfl rfl ⟨by decide, ⟨Nat.le_of_ble_eq_true rfl, Nat.le_of_ble_eq_true rfl, Nat.le_of_ble_eq_true rfl, Nat.le_of_ble_eq_true rfl, Nat.le_of_ble_eq_true rfl⟩⟩ (dt_St_copyFrom th3 (sg_aaP_m (z := dc_Math_floorMod (sy_rd h) ((sy_rd h 19 1) + 1) 30) (by omega) (by omega)) (by decide : 13 ∈ sg_sts)) ?_
  rintro _ h5 ⟨rfl, th5, eh5⟩
  rw [eh3] at eh5
  show sy_wp (mj_m_47, 28, [(0, .ref 19), (1, .ref 13)], [], h5) _
  refine sy_st (S' := (mj_m_47, 29, [(0, .ref 19), (1, .ref 13)], [.ref 19], h5)) mj_d_47_28 (fun _ _ => rfl) ?_
  refine sy_st (S' := (mj_m_47, 30, [(0, .ref 19), (1, .ref 13)], [.ref 19, .ref 19], h5)) mj_d_47_29 (fun _ _ => rfl) ?_
  refine sy_gf mj_d_47_30 rfl rfl (by decide) rfl th5 ?_
  intro x6 ex6 bx6 tx6
  rw [eh5, sg_copyn (by omega), sg_nk (by decide)] at ex6
  subst ex6
  refine sy_st (S' := (mj_m_47, 34, [(0, .ref 19), (1, .ref 13)], [sy_i 1, sy_i (sy_rd h 19 2), .ref 19], h5)) mj_d_47_33 (fun _ _ => rfl) ?_
  refine sy_add mj_d_47_34 ?_
  refine sy_bip mj_d_47_35 (by decide) ?_
  refine sy_mn mj_d_47_37 rfl ⟨by decide, by decide⟩ ⟨by omega, by omega⟩ ⟨by omega, by omega⟩ ?_
  refine sg_pf (z := (min ((sy_rd h 19 2) + 1) 30)) mj_d_47_40 rfl rfl (by decide) (Or.inl rfl) rfl th5 (by omega) (by omega) ⟨by omega, by omega⟩ ?_
  intro h7 th7 eh7
  rw [eh5] at eh7
  exact sy_retv mj_d_47_43 rfl ⟨rfl, th7, eh7⟩
def dc_Past_bringBack (s : sg_S) (a1 : Int) : sg_S := (sg_up (sg_up (sg_copy s (21 + 6 * (dc_Math_floorMod s (((s 19 1) - a1) + 1) 30).toNat) 13) 19 1 (dc_Math_floorMod (sg_copy s (21 + 6 * (dc_Math_floorMod s (((s 19 1) - a1) + 1) 30).toNat) 13) ((s 19 1) - a1) 30)) 19 2 ((s 19 2) - a1))
set_option maxRecDepth 100000 in
theorem dt_Past_bringBack {h : mj_H} (hH : sy_H h) {a1 : Int} (b_a1 : 1 ≤ a1) (t_a1 : a1 ≤ 30) (i0 : a1 ≤ (sy_rd h 19 2)) : sy_wp (mj_m_69, 0, [(0, .ref 19), (1, sy_i a1), (2, .ref 13)], [], h) (dq3 (dc_Past_bringBack (sy_rd h) a1)) := by
  unfold dc_Past_bringBack
  refine sy_st (S' := (mj_m_69, 1, [(0, .ref 19), (1, sy_i a1), (2, .ref 13)], [.ref 13], h)) mj_d_69_0 (fun _ _ => rfl) ?_
  refine sy_st (S' := (mj_m_69, 2, [(0, .ref 19), (1, sy_i a1), (2, .ref 13)], [.ref 19, .ref 13], h)) mj_d_69_1 (fun _ _ => rfl) ?_
  refine sy_gr2 (b := 20) mj_d_69_2 rfl rfl (by decide) rfl rfl hH ?_
  refine sy_st (S' := (mj_m_69, 6, [(0, .ref 19), (1, sy_i a1), (2, .ref 13)], [.ref 19, .ref 20, .ref 13], h)) mj_d_69_5 (fun _ _ => rfl) ?_
  refine sy_gf mj_d_69_6 rfl rfl (by decide) rfl hH ?_
  rintro _ rfl bx1 tx1
  refine sy_st (S' := (mj_m_69, 10, [(0, .ref 19), (1, sy_i a1), (2, .ref 13)], [sy_i a1, sy_i (sy_rd h 19 1), .ref 20, .ref 13], h)) mj_d_69_9 (fun _ _ => rfl) ?_
  refine sy_sub mj_d_69_10 ?_
  refine sy_st (S' := (mj_m_69, 12, [(0, .ref 19), (1, sy_i a1), (2, .ref 13)], [sy_i 1, sy_i ((sy_rd h 19 1) - a1), .ref 20, .ref 13], h)) mj_d_69_11 (fun _ _ => rfl) ?_
  refine sy_add mj_d_69_12 ?_
  refine sy_bip mj_d_69_13 (by decide) ?_
  refine sy_cs (M' := mj_m_48) (vs := [sy_i (((sy_rd h 19 1) - a1) + 1), sy_i 30]) (rest := [.ref 20, .ref 13]) mj_d_69_15 rfl rfl rfl rfl ⟨Nat.le_of_ble_eq_true rfl, Nat.le_of_ble_eq_true rfl, Nat.le_of_ble_eq_true rfl, Nat.le_of_ble_eq_true rfl, Nat.le_of_ble_eq_true rfl⟩ (dt_Math_floorMod (a0 := (((sy_rd h 19 1) - a1) + 1)) (a1 := 30) hH (by omega) (by omega) (by omega) (by omega)) ?_
  rintro _ _ ⟨rfl, rfl, b2, b2t⟩
  show sy_wp (mj_m_69, 18, [(0, .ref 19), (1, sy_i a1), (2, .ref 13)], [sy_i (dc_Math_floorMod (sy_rd h) (((sy_rd h 19 1) - a1) + 1) 30), .ref 20, .ref 13], h) _
  refine sg_aaP mj_d_69_18 (by omega) (by omega) hH ?_
  refine sy_cv (M' := mj_m_49) (vs := [.ref 13, .ref (21 + 6 * (dc_Math_floorMod (sy_rd h) (((sy_rd h 19 1) - a1) + 1) 30).toNat)]) (rest := []) mj_d_69_19 rfl rfl rfl (sg_stc (by decide : 13 ∈ sg_sts)).1 hH rfl rfl ⟨by decide, ⟨Nat.le_of_ble_eq_true rfl, Nat.le_of_ble_eq_true rfl, Nat.le_of_ble_eq_true rfl, Nat.le_of_ble_eq_true rfl, Nat.le_of_ble_eq_true rfl⟩⟩ (dt_St_copyFrom hH (by decide : 13 ∈ sg_sts) (sg_aaP_m (z := dc_Math_floorMod (sy_rd h) (((sy_rd h 19 1) - a1) + 1) 30) (by omega) (by omega))) ?_
  rintro _ h3 ⟨rfl, th3, eh3⟩
  show sy_wp (mj_m_69, 22, [(0, .ref 19), (1, sy_i a1), (2, .ref 13)], [], h3) _
  refine sy_st (S' := (mj_m_69, 23, [(0, .ref 19), (1, sy_i a1), (2, .ref 13)], [.ref 19], h3)) mj_d_69_22 (fun _ _ => rfl) ?_
  refine sy_st (S' := (mj_m_69, 24, [(0, .ref 19), (1, sy_i a1), (2, .ref 13)], [.ref 19, .ref 19], h3)) mj_d_69_23 (fun _ _ => rfl) ?_
  refine sy_gf mj_d_69_24 rfl rfl (by decide) rfl th3 ?_
  intro x4 ex4 bx4 tx4
  rw [eh3, sg_copyn (by omega)] at ex4
  subst ex4
  refine sy_st (S' := (mj_m_69, 28, [(0, .ref 19), (1, sy_i a1), (2, .ref 13)], [sy_i a1, sy_i (sy_rd h 19 1), .ref 19], h3)) mj_d_69_27 (fun _ _ => rfl) ?_
  refine sy_sub mj_d_69_28 ?_
  refine sy_bip mj_d_69_29 (by decide) ?_
  refine sy_cs (M' := mj_m_48) (vs := [sy_i ((sy_rd h 19 1) - a1), sy_i 30]) (rest := [.ref 19]) mj_d_69_31 rfl rfl rfl rfl ⟨Nat.le_of_ble_eq_true rfl, Nat.le_of_ble_eq_true rfl, Nat.le_of_ble_eq_true rfl, Nat.le_of_ble_eq_true rfl, Nat.le_of_ble_eq_true rfl⟩ (dt_Math_floorMod (a0 := ((sy_rd h 19 1) - a1)) (a1 := 30) th3 (by omega) (by omega) (by omega) (by omega)) ?_
  rintro _ _ ⟨rfl, rfl, b5, b5t⟩
  rw [eh3] at b5 b5t ⊢
  show sy_wp (mj_m_69, 34, [(0, .ref 19), (1, sy_i a1), (2, .ref 13)], [sy_i (dc_Math_floorMod (sg_copy (sy_rd h) (21 + 6 * (dc_Math_floorMod (sy_rd h) (((sy_rd h 19 1) - a1) + 1) 30).toNat) 13) ((sy_rd h 19 1) - a1) 30), .ref 19], h3) _
  refine sg_pf (z := (dc_Math_floorMod (sg_copy (sy_rd h) (21 + 6 * (dc_Math_floorMod (sy_rd h) (((sy_rd h 19 1) - a1) + 1) 30).toNat) 13) ((sy_rd h 19 1) - a1) 30)) mj_d_69_34 rfl rfl (by decide) (Or.inl rfl) rfl th3 (by omega) (by omega) ⟨by omega, by omega⟩ ?_
  intro h6 th6 eh6
  rw [eh3] at eh6
  refine sy_st (S' := (mj_m_69, 38, [(0, .ref 19), (1, sy_i a1), (2, .ref 13)], [.ref 19], h6)) mj_d_69_37 (fun _ _ => rfl) ?_
  refine sy_st (S' := (mj_m_69, 39, [(0, .ref 19), (1, sy_i a1), (2, .ref 13)], [.ref 19, .ref 19], h6)) mj_d_69_38 (fun _ _ => rfl) ?_
  refine sy_gf mj_d_69_39 rfl rfl (by decide) rfl th6 ?_
  intro x7 ex7 bx7 tx7
  rw [eh6, sg_nk (by decide), sg_copyn (by omega)] at ex7
  subst ex7
  refine sy_st (S' := (mj_m_69, 43, [(0, .ref 19), (1, sy_i a1), (2, .ref 13)], [sy_i a1, sy_i (sy_rd h 19 2), .ref 19], h6)) mj_d_69_42 (fun _ _ => rfl) ?_
  refine sy_sub mj_d_69_43 ?_
  refine sg_pf (z := ((sy_rd h 19 2) - a1)) mj_d_69_44 rfl rfl (by decide) (Or.inl rfl) rfl th6 (by omega) (by omega) ⟨by omega, by omega⟩ ?_
  intro h8 th8 eh8
  rw [eh6] at eh8
  exact sy_retv mj_d_69_47 rfl ⟨rfl, th8, eh8⟩
def dc_Im_forget_2 (n : Nat) : sg_S → Int → sg_S := Nat.rec (fun (s : sg_S) l1 => s) (fun _ ih => fun s l1 => (if 2 ≤ l1 then s else (ih (sg_up s 204 ((l1).toNat) 0) (l1 + 1)))) n
theorem dc_Im_forget_2_s (n : Nat) (s : sg_S) (l1 : Int) : dc_Im_forget_2 (n + 1) s l1 = (if 2 ≤ l1 then s else ((dc_Im_forget_2 n) (sg_up s 204 ((l1).toNat) 0) (l1 + 1))) := rfl
def dc_Im_forget (s : sg_S) : sg_S := (dc_Im_forget_2 3 s 0)
set_option maxRecDepth 100000 in
theorem dt_Im_forget_2 : ∀ (n : Nat) {h : mj_H} (hH : sy_H h) {l1 : Int} (b_l1 : 0 ≤ l1) (t_l1 : l1 ≤ 2) (hm : 2 - l1 < (n : Int)), sy_wp (mj_m_32, 2, [(0, .ref 201), (1, sy_i l1)], [], h) (dq3 (dc_Im_forget_2 n (sy_rd h) l1)) := by
  intro n
  induction n with
  | zero =>
    intro h hH l1 b_l1 t_l1 hm
    exact absurd hm (by omega)
  | succ n ih =>
    intro h hH l1 b_l1 t_l1 hm
    rw [dc_Im_forget_2_s]
    refine sy_st (S' := (mj_m_32, 3, [(0, .ref 201), (1, sy_i l1)], [sy_i l1], h)) mj_d_32_2 (fun _ _ => rfl) ?_
    refine sy_st (S' := (mj_m_32, 4, [(0, .ref 201), (1, sy_i l1)], [sy_i 2, sy_i l1], h)) mj_d_32_3 (fun _ _ => rfl) ?_
    refine sy_icm mj_d_32_4 rfl ⟨by omega, by omega⟩ ⟨by omega, by omega⟩ (fun (c1 : 2 ≤ l1) => ?_) (fun (c1 : ¬ (2 ≤ l1)) => ?_)
    · skip
      rw [if_pos c1]
      exact sy_retv mj_d_32_20 rfl ⟨rfl, hH, rfl⟩
    · skip
      rw [if_neg c1]
      refine sy_st (S' := (mj_m_32, 8, [(0, .ref 201), (1, sy_i l1)], [.ref 201], h)) mj_d_32_7 (fun _ _ => rfl) ?_
      refine sy_gr2 (b := 204) mj_d_32_8 rfl rfl (by decide) rfl rfl hH ?_
      refine sy_st (S' := (mj_m_32, 12, [(0, .ref 201), (1, sy_i l1)], [sy_i l1, .ref 204], h)) mj_d_32_11 (fun _ _ => rfl) ?_
      refine sy_st (S' := (mj_m_32, 13, [(0, .ref 201), (1, sy_i l1)], [sy_i 0, sy_i l1, .ref 204], h)) mj_d_32_12 (fun _ _ => rfl) ?_
      refine sg_bas (v := 0) mj_d_32_13 rfl (by decide) (by omega) (by omega) (ab_el_1 rfl _) hH (by omega) (by omega) ⟨by omega, by omega⟩ ?_
      intro h2 th2 eh2
      refine sy_inc (a := l1) (lv' := [(1, sy_i (l1 + 1)), (0, .ref 201)]) mj_d_32_14 (Nat.le_of_ble_eq_true rfl) rfl rfl ?_
      refine sy_st (S' := (mj_m_32, 2, [(1, sy_i (l1 + 1)), (0, .ref 201)], [], h2)) mj_d_32_17 (fun _ _ => rfl) ?_
      refine sy_lv (lv := [(0, .ref 201), (1, sy_i (l1 + 1))]) rfl ⟨rfl, rfl, trivial⟩ ?_
      rw [← eh2]
      exact ih th2 (by first | omega | assumption) (by first | omega | assumption) (by omega)
set_option maxRecDepth 100000 in
theorem dt_Im_forget {h : mj_H} (hH : sy_H h) : sy_wp (mj_m_32, 0, [(0, .ref 201)], [], h) (dq3 (dc_Im_forget (sy_rd h))) := by
  unfold dc_Im_forget
  refine sy_st (S' := (mj_m_32, 1, [(0, .ref 201)], [sy_i 0], h)) mj_d_32_0 (fun _ _ => rfl) ?_
  refine sy_st (S' := (mj_m_32, 2, [(1, sy_i 0), (0, .ref 201)], [], h)) mj_d_32_1 (fun _ _ => rfl) ?_
  refine sy_lv (lv := [(0, .ref 201), (1, sy_i 0)]) rfl ⟨rfl, rfl, trivial⟩ ?_
  exact dt_Im_forget_2 3 hH (by first | omega | assumption) (by first | omega | assumption) (by omega)
def dc_Im_isKept (s : sg_S) (a1 : Int) : Int := (s 204 ((a1).toNat))
set_option maxRecDepth 100000 in
theorem dt_Im_isKept {h : mj_H} (hH : sy_H h) {a1 : Int} (b_a1 : 0 ≤ a1) (t_a1 : a1 ≤ 1) : sy_wp (mj_m_122, 0, [(0, .ref 201), (1, sy_i a1)], [], h) (dq1 h (0) (1) (dc_Im_isKept (sy_rd h) a1)) := by
  unfold dc_Im_isKept
  refine sy_st (S' := (mj_m_122, 1, [(0, .ref 201), (1, sy_i a1)], [.ref 201], h)) mj_d_122_0 (fun _ _ => rfl) ?_
  refine sy_gr2 (b := 204) mj_d_122_1 rfl rfl (by decide) rfl rfl hH ?_
  refine sy_st (S' := (mj_m_122, 5, [(0, .ref 201), (1, sy_i a1)], [sy_i a1, .ref 204], h)) mj_d_122_4 (fun _ _ => rfl) ?_
  refine sy_ba mj_d_122_5 rfl (by decide) (by omega) (by omega) (ab_el_1 rfl _) hH ?_
  rintro _ rfl bx1 tx1
  exact sy_retb mj_d_122_6 rfl ⟨by omega, by omega⟩ ⟨rfl, rfl, by omega, by omega⟩
def dc_Im_put (s : sg_S) (a1 a3 : Int) : sg_S := (sg_up (sg_up (sg_copy s 13 (205 + 6 * (a1).toNat)) 203 ((a1).toNat) a3) 204 ((a1).toNat) 1)
set_option maxRecDepth 100000 in
theorem dt_Im_put {h : mj_H} (hH : sy_H h) {a1 a3 : Int} (b_a1 : 0 ≤ a1) (t_a1 : a1 ≤ 1) (b_a3 : 0 ≤ a3) (t_a3 : a3 ≤ 2147483647) : sy_wp (mj_m_120, 0, [(0, .ref 201), (1, sy_i a1), (2, .ref 13), (3, sy_i a3)], [], h) (dq3 (dc_Im_put (sy_rd h) a1 a3)) := by
  unfold dc_Im_put
  refine sy_st (S' := (mj_m_120, 1, [(0, .ref 201), (1, sy_i a1), (2, .ref 13), (3, sy_i a3)], [.ref 201], h)) mj_d_120_0 (fun _ _ => rfl) ?_
  refine sy_gr2 (b := 202) mj_d_120_1 rfl rfl (by decide) rfl rfl hH ?_
  refine sy_st (S' := (mj_m_120, 5, [(0, .ref 201), (1, sy_i a1), (2, .ref 13), (3, sy_i a3)], [sy_i a1, .ref 202], h)) mj_d_120_4 (fun _ _ => rfl) ?_
  refine sg_aaI mj_d_120_5 (by omega) (by omega) hH ?_
  refine sy_st (S' := (mj_m_120, 7, [(0, .ref 201), (1, sy_i a1), (2, .ref 13), (3, sy_i a3)], [.ref 13, .ref (205 + 6 * (a1).toNat)], h)) mj_d_120_6 (fun _ _ => rfl) ?_
  refine sy_cv (M' := mj_m_49) (vs := [.ref (205 + 6 * (a1).toNat), .ref 13]) (rest := []) mj_d_120_7 rfl rfl rfl (sg_stc (sg_aaI_m (z := a1) (by omega) (by omega))).1 hH rfl rfl ⟨by decide, ⟨Nat.le_of_ble_eq_true rfl, Nat.le_of_ble_eq_true rfl, Nat.le_of_ble_eq_true rfl, Nat.le_of_ble_eq_true rfl, Nat.le_of_ble_eq_true rfl⟩⟩ (dt_St_copyFrom hH (sg_aaI_m (z := a1) (by omega) (by omega)) (by decide : 13 ∈ sg_sts)) ?_
  rintro _ h1 ⟨rfl, th1, eh1⟩
  show sy_wp (mj_m_120, 10, [(0, .ref 201), (1, sy_i a1), (2, .ref 13), (3, sy_i a3)], [], h1) _
  refine sy_st (S' := (mj_m_120, 11, [(0, .ref 201), (1, sy_i a1), (2, .ref 13), (3, sy_i a3)], [.ref 201], h1)) mj_d_120_10 (fun _ _ => rfl) ?_
  refine sy_gr2 (b := 203) mj_d_120_11 rfl rfl (by decide) rfl rfl th1 ?_
  refine sy_st (S' := (mj_m_120, 15, [(0, .ref 201), (1, sy_i a1), (2, .ref 13), (3, sy_i a3)], [sy_i a1, .ref 203], h1)) mj_d_120_14 (fun _ _ => rfl) ?_
  refine sy_st (S' := (mj_m_120, 16, [(0, .ref 201), (1, sy_i a1), (2, .ref 13), (3, sy_i a3)], [sy_i a3, sy_i a1, .ref 203], h1)) mj_d_120_15 (fun _ _ => rfl) ?_
  refine sg_ias (v := a3) mj_d_120_16 rfl (by decide) (by omega) (by omega) (ab_el_1 rfl _) th1 (by omega) (by omega) ⟨by omega, by omega⟩ ?_
  intro h2 th2 eh2
  rw [eh1] at eh2
  refine sy_st (S' := (mj_m_120, 18, [(0, .ref 201), (1, sy_i a1), (2, .ref 13), (3, sy_i a3)], [.ref 201], h2)) mj_d_120_17 (fun _ _ => rfl) ?_
  refine sy_gr2 (b := 204) mj_d_120_18 rfl rfl (by decide) rfl rfl th2 ?_
  refine sy_st (S' := (mj_m_120, 22, [(0, .ref 201), (1, sy_i a1), (2, .ref 13), (3, sy_i a3)], [sy_i a1, .ref 204], h2)) mj_d_120_21 (fun _ _ => rfl) ?_
  refine sy_st (S' := (mj_m_120, 23, [(0, .ref 201), (1, sy_i a1), (2, .ref 13), (3, sy_i a3)], [sy_i 1, sy_i a1, .ref 204], h2)) mj_d_120_22 (fun _ _ => rfl) ?_
  refine sg_bas (v := 1) mj_d_120_23 rfl (by decide) (by omega) (by omega) (ab_el_1 rfl _) th2 (by omega) (by omega) ⟨by omega, by omega⟩ ?_
  intro h3 th3 eh3
  rw [eh2] at eh3
  exact sy_retv mj_d_120_24 rfl ⟨rfl, th3, eh3⟩
def dc_Im_bringBack (s : sg_S) (a1 : Int) : sg_S × Int := ((sg_copy s (205 + 6 * (a1).toNat) 13), (s 203 ((a1).toNat)))
set_option maxRecDepth 100000 in
theorem dt_Im_bringBack {h : mj_H} (hH : sy_H h) {a1 : Int} (b_a1 : 0 ≤ a1) (t_a1 : a1 ≤ 1) : sy_wp (mj_m_123, 0, [(0, .ref 201), (1, sy_i a1), (2, .ref 13)], [], h) (dq2 (0) (2147483647) (dc_Im_bringBack (sy_rd h) a1)) := by
  unfold dc_Im_bringBack
  refine sy_st (S' := (mj_m_123, 1, [(0, .ref 201), (1, sy_i a1), (2, .ref 13)], [.ref 13], h)) mj_d_123_0 (fun _ _ => rfl) ?_
  refine sy_st (S' := (mj_m_123, 2, [(0, .ref 201), (1, sy_i a1), (2, .ref 13)], [.ref 201, .ref 13], h)) mj_d_123_1 (fun _ _ => rfl) ?_
  refine sy_gr2 (b := 202) mj_d_123_2 rfl rfl (by decide) rfl rfl hH ?_
  refine sy_st (S' := (mj_m_123, 6, [(0, .ref 201), (1, sy_i a1), (2, .ref 13)], [sy_i a1, .ref 202, .ref 13], h)) mj_d_123_5 (fun _ _ => rfl) ?_
  refine sg_aaI mj_d_123_6 (by omega) (by omega) hH ?_
  refine sy_cv (M' := mj_m_49) (vs := [.ref 13, .ref (205 + 6 * (a1).toNat)]) (rest := []) mj_d_123_7 rfl rfl rfl (sg_stc (by decide : 13 ∈ sg_sts)).1 hH rfl rfl ⟨by decide, ⟨Nat.le_of_ble_eq_true rfl, Nat.le_of_ble_eq_true rfl, Nat.le_of_ble_eq_true rfl, Nat.le_of_ble_eq_true rfl, Nat.le_of_ble_eq_true rfl⟩⟩ (dt_St_copyFrom hH (by decide : 13 ∈ sg_sts) (sg_aaI_m (z := a1) (by omega) (by omega))) ?_
  rintro _ h1 ⟨rfl, th1, eh1⟩
  show sy_wp (mj_m_123, 10, [(0, .ref 201), (1, sy_i a1), (2, .ref 13)], [], h1) _
  refine sy_st (S' := (mj_m_123, 11, [(0, .ref 201), (1, sy_i a1), (2, .ref 13)], [.ref 201], h1)) mj_d_123_10 (fun _ _ => rfl) ?_
  refine sy_gr2 (b := 203) mj_d_123_11 rfl rfl (by decide) rfl rfl th1 ?_
  refine sy_st (S' := (mj_m_123, 15, [(0, .ref 201), (1, sy_i a1), (2, .ref 13)], [sy_i a1, .ref 203], h1)) mj_d_123_14 (fun _ _ => rfl) ?_
  refine sy_ia mj_d_123_15 rfl (by decide) (by omega) (by omega) (ab_el_1 rfl _) th1 ?_
  intro x2 ex2 bx2 tx2
  rw [eh1, sg_copyn (by omega)] at ex2
  subst ex2
  exact sy_reti mj_d_123_16 rfl ⟨th1, eh1, rfl, by omega, by omega⟩
def dc_Sights_add (s : sg_S) (a1 a2 a3 : Int) : sg_S × Int := (if (s 217 3) < 0 then (s, (-1000000004)) else (if (s 217 3) < 6 then ((sg_up (sg_up (sg_up (sg_up s 218 ((s 217 3).toNat) a1) 219 ((s 217 3).toNat) a2) 220 ((s 217 3).toNat) a3) 217 3 ((s 217 3) + 1)), ((s 217 3) + 1)) else (s, (-1000000004))))
set_option maxRecDepth 100000 in
theorem dt_Sights_add {h : mj_H} (hH : sy_H h) {a1 a2 a3 : Int} (b_a1 : 0 ≤ a1) (t_a1 : a1 ≤ 8) (b_a2 : 0 ≤ a2) (t_a2 : a2 ≤ 7) (b_a3 : 0 ≤ a3) (t_a3 : a3 ≤ 1) : sy_wp (mj_m_107, 0, [(0, .ref 217), (1, sy_i a1), (2, sy_i a2), (3, sy_i a3)], [], h) (dq2 (-1000000004) (6) (dc_Sights_add (sy_rd h) a1 a2 a3)) := by
  unfold dc_Sights_add
  refine sy_st (S' := (mj_m_107, 1, [(0, .ref 217), (1, sy_i a1), (2, sy_i a2), (3, sy_i a3)], [.ref 217], h)) mj_d_107_0 (fun _ _ => rfl) ?_
  refine sy_gf mj_d_107_1 rfl rfl (by decide) rfl hH ?_
  rintro _ rfl bx1 tx1
  refine sy_ifc mj_d_107_4 rfl ⟨by omega, by omega⟩ (fun (c2 : (sy_rd h 217 3) < 0) => ?_) (fun (c2 : ¬ ((sy_rd h 217 3) < 0)) => ?_)
  · skip
    rw [if_pos c2]
    refine sy_ldc (n := -1000000004) mj_d_107_16 rfl (by decide) ?_
    exact sy_reti mj_d_107_18 rfl ⟨hH, rfl, rfl, by omega, by omega⟩
  · skip
    rw [if_neg c2]
    refine sy_st (S' := (mj_m_107, 8, [(0, .ref 217), (1, sy_i a1), (2, sy_i a2), (3, sy_i a3)], [.ref 217], h)) mj_d_107_7 (fun _ _ => rfl) ?_
    refine sy_gf mj_d_107_8 rfl rfl (by decide) rfl hH ?_
    rintro _ rfl bx3 tx3
    refine sy_bip mj_d_107_11 (by decide) ?_
    refine sy_icm mj_d_107_13 rfl ⟨by omega, by omega⟩ ⟨by omega, by omega⟩ (fun (c4 : (sy_rd h 217 3) < 6) => ?_) (fun (c4 : ¬ ((sy_rd h 217 3) < 6)) => ?_)
    · skip
      rw [if_pos c4]
      refine sy_st (S' := (mj_m_107, 20, [(0, .ref 217), (1, sy_i a1), (2, sy_i a2), (3, sy_i a3)], [.ref 217], h)) mj_d_107_19 (fun _ _ => rfl) ?_
      refine sy_gr2 (b := 218) mj_d_107_20 rfl rfl (by decide) rfl rfl hH ?_
      refine sy_st (S' := (mj_m_107, 24, [(0, .ref 217), (1, sy_i a1), (2, sy_i a2), (3, sy_i a3)], [.ref 217, .ref 218], h)) mj_d_107_23 (fun _ _ => rfl) ?_
      refine sy_gf mj_d_107_24 rfl rfl (by decide) rfl hH ?_
      rintro _ rfl bx5 tx5
      refine sy_st (S' := (mj_m_107, 28, [(0, .ref 217), (1, sy_i a1), (2, sy_i a2), (3, sy_i a3)], [sy_i a1, sy_i (sy_rd h 217 3), .ref 218], h)) mj_d_107_27 (fun _ _ => rfl) ?_
      refine sg_ias (v := a1) mj_d_107_28 rfl (by decide) (by omega) (by omega) (ab_el_1 rfl _) hH (by omega) (by omega) ⟨by omega, by omega⟩ ?_
      intro h6 th6 eh6
      refine sy_st (S' := (mj_m_107, 30, [(0, .ref 217), (1, sy_i a1), (2, sy_i a2), (3, sy_i a3)], [.ref 217], h6)) mj_d_107_29 (fun _ _ => rfl) ?_
      refine sy_gr2 (b := 219) mj_d_107_30 rfl rfl (by decide) rfl rfl th6 ?_
      refine sy_st (S' := (mj_m_107, 34, [(0, .ref 217), (1, sy_i a1), (2, sy_i a2), (3, sy_i a3)], [.ref 217, .ref 219], h6)) mj_d_107_33 (fun _ _ => rfl) ?_
      refine sy_gf mj_d_107_34 rfl rfl (by decide) rfl th6 ?_
      intro x7 ex7 bx7 tx7
      rw [eh6, sg_na (by decide)] at ex7
      subst ex7
      refine sy_st (S' := (mj_m_107, 38, [(0, .ref 217), (1, sy_i a1), (2, sy_i a2), (3, sy_i a3)], [sy_i a2, sy_i (sy_rd h 217 3), .ref 219], h6)) mj_d_107_37 (fun _ _ => rfl) ?_
      refine sg_ias (v := a2) mj_d_107_38 rfl (by decide) (by omega) (by omega) (ab_el_1 rfl _) th6 (by omega) (by omega) ⟨by omega, by omega⟩ ?_
      intro h8 th8 eh8
      rw [eh6] at eh8
      refine sy_st (S' := (mj_m_107, 40, [(0, .ref 217), (1, sy_i a1), (2, sy_i a2), (3, sy_i a3)], [.ref 217], h8)) mj_d_107_39 (fun _ _ => rfl) ?_
      refine sy_gr2 (b := 220) mj_d_107_40 rfl rfl (by decide) rfl rfl th8 ?_
      refine sy_st (S' := (mj_m_107, 44, [(0, .ref 217), (1, sy_i a1), (2, sy_i a2), (3, sy_i a3)], [.ref 217, .ref 220], h8)) mj_d_107_43 (fun _ _ => rfl) ?_
      refine sy_gf mj_d_107_44 rfl rfl (by decide) rfl th8 ?_
      intro x9 ex9 bx9 tx9
      rw [eh8, sg_na (by decide), sg_na (by decide)] at ex9
      subst ex9
      refine sy_st (S' := (mj_m_107, 48, [(0, .ref 217), (1, sy_i a1), (2, sy_i a2), (3, sy_i a3)], [sy_i a3, sy_i (sy_rd h 217 3), .ref 220], h8)) mj_d_107_47 (fun _ _ => rfl) ?_
      refine sg_bas (v := a3) mj_d_107_48 rfl (by decide) (by omega) (by omega) (ab_el_1 rfl _) th8 (by omega) (by omega) ⟨by omega, by omega⟩ ?_
      intro h10 th10 eh10
      rw [eh8] at eh10
      refine sy_st (S' := (mj_m_107, 50, [(0, .ref 217), (1, sy_i a1), (2, sy_i a2), (3, sy_i a3)], [.ref 217], h10)) mj_d_107_49 (fun _ _ => rfl) ?_
      refine sy_st (S' := (mj_m_107, 51, [(0, .ref 217), (1, sy_i a1), (2, sy_i a2), (3, sy_i a3)], [.ref 217, .ref 217], h10)) mj_d_107_50 (fun _ _ => rfl) ?_
      refine sy_gf mj_d_107_51 rfl rfl (by decide) rfl th10 ?_
      intro x11 ex11 bx11 tx11
      rw [eh10, sg_na (by decide), sg_na (by decide), sg_na (by decide)] at ex11
      subst ex11
      refine sy_st (S' := (mj_m_107, 55, [(0, .ref 217), (1, sy_i a1), (2, sy_i a2), (3, sy_i a3)], [sy_i 1, sy_i (sy_rd h 217 3), .ref 217], h10)) mj_d_107_54 (fun _ _ => rfl) ?_
      refine sy_add mj_d_107_55 ?_
      refine sg_pf (z := ((sy_rd h 217 3) + 1)) mj_d_107_56 rfl rfl (by decide) (Or.inl rfl) rfl th10 (by omega) (by omega) ⟨by omega, by omega⟩ ?_
      intro h12 th12 eh12
      rw [eh10] at eh12
      refine sy_st (S' := (mj_m_107, 60, [(0, .ref 217), (1, sy_i a1), (2, sy_i a2), (3, sy_i a3)], [.ref 217], h12)) mj_d_107_59 (fun _ _ => rfl) ?_
      refine sy_gf mj_d_107_60 rfl rfl (by decide) rfl th12 ?_
      intro x13 ex13 bx13 tx13
      rw [eh12, sg_eq] at ex13
      subst ex13
      exact sy_reti mj_d_107_63 rfl ⟨th12, eh12, rfl, by omega, by omega⟩
    · skip
      rw [if_neg c4]
      refine sy_ldc (n := -1000000004) mj_d_107_16 rfl (by decide) ?_
      exact sy_reti mj_d_107_18 rfl ⟨hH, rfl, rfl, by omega, by omega⟩
def dc_Sights_allow_2 (n : Nat) : sg_S → Int → Int → Int → Int := Nat.rec (fun (s : sg_S) l1 l2 l3 => 0) (fun _ ih => fun s l1 l2 l3 => (if (s 217 3) ≤ l3 then 1 else (if 6 ≤ l3 then 1 else (if (s 219 ((l3).toNat)) = l1 then (if (sy_and (sy_shr l2 (s 218 ((l3).toNat))) 1) = 1 then (if 1 = (s 220 ((l3).toNat)) then (ih s l1 l2 (l3 + 1)) else 0) else (if 0 = (s 220 ((l3).toNat)) then (ih s l1 l2 (l3 + 1)) else 0)) else (ih s l1 l2 (l3 + 1)))))) n
theorem dc_Sights_allow_2_s (n : Nat) (s : sg_S) (l1 l2 l3 : Int) : dc_Sights_allow_2 (n + 1) s l1 l2 l3 = (if (s 217 3) ≤ l3 then 1 else (if 6 ≤ l3 then 1 else (if (s 219 ((l3).toNat)) = l1 then (if (sy_and (sy_shr l2 (s 218 ((l3).toNat))) 1) = 1 then (if 1 = (s 220 ((l3).toNat)) then ((dc_Sights_allow_2 n) s l1 l2 (l3 + 1)) else 0) else (if 0 = (s 220 ((l3).toNat)) then ((dc_Sights_allow_2 n) s l1 l2 (l3 + 1)) else 0)) else ((dc_Sights_allow_2 n) s l1 l2 (l3 + 1))))) := rfl
def dc_Sights_allow (s : sg_S) (a1 a2 : Int) : Int := (dc_Sights_allow_2 7 s a1 a2 0)
set_option maxRecDepth 100000 in
theorem dt_Sights_allow_2 : ∀ (n : Nat) {h : mj_H} (hH : sy_H h) {l1 l2 l3 : Int} (b_l1 : (-2147483648) ≤ l1) (t_l1 : l1 ≤ 2147483647) (b_l2 : (-2147483648) ≤ l2) (t_l2 : l2 ≤ 2147483647) (b_l3 : 0 ≤ l3) (t_l3 : l3 ≤ 6) (hm : 6 - l3 < (n : Int)), sy_wp (mj_m_110, 2, [(0, .ref 217), (1, sy_i l1), (2, sy_i l2), (3, sy_i l3)], [], h) (dq1 h (0) (1) (dc_Sights_allow_2 n (sy_rd h) l1 l2 l3)) := by
  intro n
  induction n with
  | zero =>
    intro h hH l1 l2 l3 b_l1 t_l1 b_l2 t_l2 b_l3 t_l3 hm
    exact absurd hm (by omega)
  | succ n ih =>
    intro h hH l1 l2 l3 b_l1 t_l1 b_l2 t_l2 b_l3 t_l3 hm
    rw [dc_Sights_allow_2_s]
    refine sy_st (S' := (mj_m_110, 3, [(0, .ref 217), (1, sy_i l1), (2, sy_i l2), (3, sy_i l3)], [sy_i l3], h)) mj_d_110_2 (fun _ _ => rfl) ?_
    refine sy_st (S' := (mj_m_110, 4, [(0, .ref 217), (1, sy_i l1), (2, sy_i l2), (3, sy_i l3)], [.ref 217, sy_i l3], h)) mj_d_110_3 (fun _ _ => rfl) ?_
    refine sy_gf mj_d_110_4 rfl rfl (by decide) rfl hH ?_
    rintro _ rfl bx1 tx1
    refine sy_icm mj_d_110_7 rfl ⟨by omega, by omega⟩ ⟨by omega, by omega⟩ (fun (c2 : (sy_rd h 217 3) ≤ l3) => ?_) (fun (c2 : ¬ ((sy_rd h 217 3) ≤ l3)) => ?_)
    · skip
      rw [if_pos c2]
      refine sy_st (S' := (mj_m_110, 63, [(0, .ref 217), (1, sy_i l1), (2, sy_i l2), (3, sy_i l3)], [sy_i 1], h)) mj_d_110_62 (fun _ _ => rfl) ?_
      exact sy_retb mj_d_110_63 rfl ⟨by omega, by omega⟩ ⟨rfl, rfl, by omega, by omega⟩
    · skip
      rw [if_neg c2]
      refine sy_st (S' := (mj_m_110, 11, [(0, .ref 217), (1, sy_i l1), (2, sy_i l2), (3, sy_i l3)], [sy_i l3], h)) mj_d_110_10 (fun _ _ => rfl) ?_
      refine sy_bip mj_d_110_11 (by decide) ?_
      refine sy_icm mj_d_110_13 rfl ⟨by omega, by omega⟩ ⟨by omega, by omega⟩ (fun (c3 : 6 ≤ l3) => ?_) (fun (c3 : ¬ (6 ≤ l3)) => ?_)
      · skip
        rw [if_pos c3]
        refine sy_st (S' := (mj_m_110, 63, [(0, .ref 217), (1, sy_i l1), (2, sy_i l2), (3, sy_i l3)], [sy_i 1], h)) mj_d_110_62 (fun _ _ => rfl) ?_
        exact sy_retb mj_d_110_63 rfl ⟨by omega, by omega⟩ ⟨rfl, rfl, by omega, by omega⟩
      · skip
        rw [if_neg c3]
        refine sy_st (S' := (mj_m_110, 17, [(0, .ref 217), (1, sy_i l1), (2, sy_i l2), (3, sy_i l3)], [.ref 217], h)) mj_d_110_16 (fun _ _ => rfl) ?_
        refine sy_gr2 (b := 219) mj_d_110_17 rfl rfl (by decide) rfl rfl hH ?_
        refine sy_st (S' := (mj_m_110, 21, [(0, .ref 217), (1, sy_i l1), (2, sy_i l2), (3, sy_i l3)], [sy_i l3, .ref 219], h)) mj_d_110_20 (fun _ _ => rfl) ?_
        refine sy_ia mj_d_110_21 rfl (by decide) (by omega) (by omega) (ab_el_1 rfl _) hH ?_
        rintro _ rfl bx4 tx4
        refine sy_st (S' := (mj_m_110, 23, [(0, .ref 217), (1, sy_i l1), (2, sy_i l2), (3, sy_i l3)], [sy_i l1, sy_i (sy_rd h 219 ((l3).toNat))], h)) mj_d_110_22 (fun _ _ => rfl) ?_
        refine sy_icm mj_d_110_23 rfl ⟨by omega, by omega⟩ ⟨by omega, by omega⟩ (fun (c5 : ¬ ((sy_rd h 219 ((l3).toNat)) = l1)) => ?_) (fun (c5 : ¬ ¬ ((sy_rd h 219 ((l3).toNat)) = l1)) => ?_)
        · skip
          rw [if_neg c5]
          refine sy_inc (a := l3) (lv' := [(3, sy_i (l3 + 1)), (0, .ref 217), (1, sy_i l1), (2, sy_i l2)]) mj_d_110_56 (Nat.le_of_ble_eq_true rfl) rfl rfl ?_
          refine sy_st (S' := (mj_m_110, 2, [(3, sy_i (l3 + 1)), (0, .ref 217), (1, sy_i l1), (2, sy_i l2)], [], h)) mj_d_110_59 (fun _ _ => rfl) ?_
          refine sy_lv (lv := [(0, .ref 217), (1, sy_i l1), (2, sy_i l2), (3, sy_i (l3 + 1))]) rfl ⟨rfl, rfl, rfl, rfl, trivial⟩ ?_
          exact ih hH (by first | omega | assumption) (by first | omega | assumption) (by first | omega | assumption) (by first | omega | assumption) (by first | omega | assumption) (by first | omega | assumption) (by omega)
        · skip
          rw [if_pos (Decidable.not_not.mp c5)]
          replace c5 := Decidable.not_not.mp c5
          refine sy_st (S' := (mj_m_110, 27, [(0, .ref 217), (1, sy_i l1), (2, sy_i l2), (3, sy_i l3)], [sy_i l2], h)) mj_d_110_26 (fun _ _ => rfl) ?_
          refine sy_st (S' := (mj_m_110, 28, [(0, .ref 217), (1, sy_i l1), (2, sy_i l2), (3, sy_i l3)], [.ref 217, sy_i l2], h)) mj_d_110_27 (fun _ _ => rfl) ?_
          refine sy_gr2 (b := 218) mj_d_110_28 rfl rfl (by decide) rfl rfl hH ?_
          refine sy_st (S' := (mj_m_110, 32, [(0, .ref 217), (1, sy_i l1), (2, sy_i l2), (3, sy_i l3)], [sy_i l3, .ref 218, sy_i l2], h)) mj_d_110_31 (fun _ _ => rfl) ?_
          refine sy_ia mj_d_110_32 rfl (by decide) (by omega) (by omega) (ab_el_1 rfl _) hH ?_
          rintro _ rfl bx6 tx6
          refine sy_ishr mj_d_110_33 ?_
          have q7 := sg_shr_f l2 (sy_rd h 218 ((l3).toNat))
          refine sy_st (S' := (mj_m_110, 35, [(0, .ref 217), (1, sy_i l1), (2, sy_i l2), (3, sy_i l3)], [sy_i 1, sy_i (sy_shr l2 (sy_rd h 218 ((l3).toNat)))], h)) mj_d_110_34 (fun _ _ => rfl) ?_
          refine sy_iand mj_d_110_35 ?_
          have q8 := sg_and_f (sy_shr l2 (sy_rd h 218 ((l3).toNat))) 1
          refine sy_st (S' := (mj_m_110, 37, [(0, .ref 217), (1, sy_i l1), (2, sy_i l2), (3, sy_i l3)], [sy_i 1, sy_i (sy_and (sy_shr l2 (sy_rd h 218 ((l3).toNat))) 1)], h)) mj_d_110_36 (fun _ _ => rfl) ?_
          refine sy_icm mj_d_110_37 rfl ⟨by omega, by omega⟩ ⟨by omega, by omega⟩ (fun (c9 : ¬ ((sy_and (sy_shr l2 (sy_rd h 218 ((l3).toNat))) 1) = 1)) => ?_) (fun (c9 : ¬ ¬ ((sy_and (sy_shr l2 (sy_rd h 218 ((l3).toNat))) 1) = 1)) => ?_)
          · skip
            rw [if_neg c9]
            refine sy_st (S' := (mj_m_110, 45, [(0, .ref 217), (1, sy_i l1), (2, sy_i l2), (3, sy_i l3)], [sy_i 0], h)) mj_d_110_44 (fun _ _ => rfl) ?_
            refine sy_st (S' := (mj_m_110, 46, [(0, .ref 217), (1, sy_i l1), (2, sy_i l2), (3, sy_i l3)], [.ref 217, sy_i 0], h)) mj_d_110_45 (fun _ _ => rfl) ?_
            refine sy_gr2 (b := 220) mj_d_110_46 rfl rfl (by decide) rfl rfl hH ?_
            refine sy_st (S' := (mj_m_110, 50, [(0, .ref 217), (1, sy_i l1), (2, sy_i l2), (3, sy_i l3)], [sy_i l3, .ref 220, sy_i 0], h)) mj_d_110_49 (fun _ _ => rfl) ?_
            refine sy_ba mj_d_110_50 rfl (by decide) (by omega) (by omega) (ab_el_1 rfl _) hH ?_
            rintro _ rfl bx10 tx10
            refine sy_icm mj_d_110_51 rfl ⟨by omega, by omega⟩ ⟨by omega, by omega⟩ (fun (c11 : 0 = (sy_rd h 220 ((l3).toNat))) => ?_) (fun (c11 : ¬ (0 = (sy_rd h 220 ((l3).toNat)))) => ?_)
            · skip
              rw [if_pos c11]
              refine sy_inc (a := l3) (lv' := [(3, sy_i (l3 + 1)), (0, .ref 217), (1, sy_i l1), (2, sy_i l2)]) mj_d_110_56 (Nat.le_of_ble_eq_true rfl) rfl rfl ?_
              refine sy_st (S' := (mj_m_110, 2, [(3, sy_i (l3 + 1)), (0, .ref 217), (1, sy_i l1), (2, sy_i l2)], [], h)) mj_d_110_59 (fun _ _ => rfl) ?_
              refine sy_lv (lv := [(0, .ref 217), (1, sy_i l1), (2, sy_i l2), (3, sy_i (l3 + 1))]) rfl ⟨rfl, rfl, rfl, rfl, trivial⟩ ?_
              exact ih hH (by first | omega | assumption) (by first | omega | assumption) (by first | omega | assumption) (by first | omega | assumption) (by first | omega | assumption) (by first | omega | assumption) (by omega)
            · skip
              rw [if_neg c11]
              refine sy_st (S' := (mj_m_110, 55, [(0, .ref 217), (1, sy_i l1), (2, sy_i l2), (3, sy_i l3)], [sy_i 0], h)) mj_d_110_54 (fun _ _ => rfl) ?_
              exact sy_retb mj_d_110_55 rfl ⟨by omega, by omega⟩ ⟨rfl, rfl, by omega, by omega⟩
          · skip
            rw [if_pos (Decidable.not_not.mp c9)]
            replace c9 := Decidable.not_not.mp c9
            refine sy_st (S' := (mj_m_110, 41, [(0, .ref 217), (1, sy_i l1), (2, sy_i l2), (3, sy_i l3)], [sy_i 1], h)) mj_d_110_40 (fun _ _ => rfl) ?_
            refine sy_st (S' := (mj_m_110, 45, [(0, .ref 217), (1, sy_i l1), (2, sy_i l2), (3, sy_i l3)], [sy_i 1], h)) mj_d_110_41 (fun _ _ => rfl) ?_
            refine sy_st (S' := (mj_m_110, 46, [(0, .ref 217), (1, sy_i l1), (2, sy_i l2), (3, sy_i l3)], [.ref 217, sy_i 1], h)) mj_d_110_45 (fun _ _ => rfl) ?_
            refine sy_gr2 (b := 220) mj_d_110_46 rfl rfl (by decide) rfl rfl hH ?_
            refine sy_st (S' := (mj_m_110, 50, [(0, .ref 217), (1, sy_i l1), (2, sy_i l2), (3, sy_i l3)], [sy_i l3, .ref 220, sy_i 1], h)) mj_d_110_49 (fun _ _ => rfl) ?_
            refine sy_ba mj_d_110_50 rfl (by decide) (by omega) (by omega) (ab_el_1 rfl _) hH ?_
            rintro _ rfl bx12 tx12
            refine sy_icm mj_d_110_51 rfl ⟨by omega, by omega⟩ ⟨by omega, by omega⟩ (fun (c13 : 1 = (sy_rd h 220 ((l3).toNat))) => ?_) (fun (c13 : ¬ (1 = (sy_rd h 220 ((l3).toNat)))) => ?_)
            · skip
              rw [if_pos c13]
              refine sy_inc (a := l3) (lv' := [(3, sy_i (l3 + 1)), (0, .ref 217), (1, sy_i l1), (2, sy_i l2)]) mj_d_110_56 (Nat.le_of_ble_eq_true rfl) rfl rfl ?_
              refine sy_st (S' := (mj_m_110, 2, [(3, sy_i (l3 + 1)), (0, .ref 217), (1, sy_i l1), (2, sy_i l2)], [], h)) mj_d_110_59 (fun _ _ => rfl) ?_
              refine sy_lv (lv := [(0, .ref 217), (1, sy_i l1), (2, sy_i l2), (3, sy_i (l3 + 1))]) rfl ⟨rfl, rfl, rfl, rfl, trivial⟩ ?_
              exact ih hH (by first | omega | assumption) (by first | omega | assumption) (by first | omega | assumption) (by first | omega | assumption) (by first | omega | assumption) (by first | omega | assumption) (by omega)
            · skip
              rw [if_neg c13]
              refine sy_st (S' := (mj_m_110, 55, [(0, .ref 217), (1, sy_i l1), (2, sy_i l2), (3, sy_i l3)], [sy_i 0], h)) mj_d_110_54 (fun _ _ => rfl) ?_
              exact sy_retb mj_d_110_55 rfl ⟨by omega, by omega⟩ ⟨rfl, rfl, by omega, by omega⟩
set_option maxRecDepth 100000 in
theorem dt_Sights_allow {h : mj_H} (hH : sy_H h) {a1 a2 : Int} (b_a1 : (-2147483648) ≤ a1) (t_a1 : a1 ≤ 2147483647) (b_a2 : (-2147483648) ≤ a2) (t_a2 : a2 ≤ 2147483647) : sy_wp (mj_m_110, 0, [(0, .ref 217), (1, sy_i a1), (2, sy_i a2)], [], h) (dq1 h (0) (1) (dc_Sights_allow (sy_rd h) a1 a2)) := by
  unfold dc_Sights_allow
  refine sy_st (S' := (mj_m_110, 1, [(0, .ref 217), (1, sy_i a1), (2, sy_i a2)], [sy_i 0], h)) mj_d_110_0 (fun _ _ => rfl) ?_
  refine sy_st (S' := (mj_m_110, 2, [(3, sy_i 0), (0, .ref 217), (1, sy_i a1), (2, sy_i a2)], [], h)) mj_d_110_1 (fun _ _ => rfl) ?_
  refine sy_lv (lv := [(0, .ref 217), (1, sy_i a1), (2, sy_i a2), (3, sy_i 0)]) rfl ⟨rfl, rfl, rfl, rfl, trivial⟩ ?_
  exact dt_Sights_allow_2 7 hH (by first | omega | assumption) (by first | omega | assumption) (by first | omega | assumption) (by first | omega | assumption) (by first | omega | assumption) (by first | omega | assumption) (by omega)
def dc_Book_add (s : sg_S) (a1 a2 : Int) : sg_S × Int := (if (s 221 2) < 0 then (s, (-1000000004)) else (if (s 221 2) < 20 then ((sg_up (sg_up (sg_up s 222 ((s 221 2).toNat) a1) 223 ((s 221 2).toNat) a2) 221 2 ((s 221 2) + 1)), ((s 221 2) + 1)) else (s, (-1000000004))))
set_option maxRecDepth 100000 in
theorem dt_Book_add {h : mj_H} (hH : sy_H h) {a1 a2 : Int} (b_a1 : 0 ≤ a1) (t_a1 : a1 ≤ 8) (b_a2 : 0 ≤ a2) (t_a2 : a2 ≤ 7) : sy_wp (mj_m_114, 0, [(0, .ref 221), (1, sy_i a1), (2, sy_i a2)], [], h) (dq2 (-1000000004) (20) (dc_Book_add (sy_rd h) a1 a2)) := by
  unfold dc_Book_add
  refine sy_st (S' := (mj_m_114, 1, [(0, .ref 221), (1, sy_i a1), (2, sy_i a2)], [.ref 221], h)) mj_d_114_0 (fun _ _ => rfl) ?_
  refine sy_gf mj_d_114_1 rfl rfl (by decide) rfl hH ?_
  rintro _ rfl bx1 tx1
  refine sy_ifc mj_d_114_4 rfl ⟨by omega, by omega⟩ (fun (c2 : (sy_rd h 221 2) < 0) => ?_) (fun (c2 : ¬ ((sy_rd h 221 2) < 0)) => ?_)
  · skip
    rw [if_pos c2]
    refine sy_ldc (n := -1000000004) mj_d_114_16 rfl (by decide) ?_
    exact sy_reti mj_d_114_18 rfl ⟨hH, rfl, rfl, by omega, by omega⟩
  · skip
    rw [if_neg c2]
    refine sy_st (S' := (mj_m_114, 8, [(0, .ref 221), (1, sy_i a1), (2, sy_i a2)], [.ref 221], h)) mj_d_114_7 (fun _ _ => rfl) ?_
    refine sy_gf mj_d_114_8 rfl rfl (by decide) rfl hH ?_
    rintro _ rfl bx3 tx3
    refine sy_bip mj_d_114_11 (by decide) ?_
    refine sy_icm mj_d_114_13 rfl ⟨by omega, by omega⟩ ⟨by omega, by omega⟩ (fun (c4 : (sy_rd h 221 2) < 20) => ?_) (fun (c4 : ¬ ((sy_rd h 221 2) < 20)) => ?_)
    · skip
      rw [if_pos c4]
      refine sy_st (S' := (mj_m_114, 20, [(0, .ref 221), (1, sy_i a1), (2, sy_i a2)], [.ref 221], h)) mj_d_114_19 (fun _ _ => rfl) ?_
      refine sy_gr2 (b := 222) mj_d_114_20 rfl rfl (by decide) rfl rfl hH ?_
      refine sy_st (S' := (mj_m_114, 24, [(0, .ref 221), (1, sy_i a1), (2, sy_i a2)], [.ref 221, .ref 222], h)) mj_d_114_23 (fun _ _ => rfl) ?_
      refine sy_gf mj_d_114_24 rfl rfl (by decide) rfl hH ?_
      rintro _ rfl bx5 tx5
      refine sy_st (S' := (mj_m_114, 28, [(0, .ref 221), (1, sy_i a1), (2, sy_i a2)], [sy_i a1, sy_i (sy_rd h 221 2), .ref 222], h)) mj_d_114_27 (fun _ _ => rfl) ?_
      refine sg_ias (v := a1) mj_d_114_28 rfl (by decide) (by omega) (by omega) (ab_el_1 rfl _) hH (by omega) (by omega) ⟨by omega, by omega⟩ ?_
      intro h6 th6 eh6
      refine sy_st (S' := (mj_m_114, 30, [(0, .ref 221), (1, sy_i a1), (2, sy_i a2)], [.ref 221], h6)) mj_d_114_29 (fun _ _ => rfl) ?_
      refine sy_gr2 (b := 223) mj_d_114_30 rfl rfl (by decide) rfl rfl th6 ?_
      refine sy_st (S' := (mj_m_114, 34, [(0, .ref 221), (1, sy_i a1), (2, sy_i a2)], [.ref 221, .ref 223], h6)) mj_d_114_33 (fun _ _ => rfl) ?_
      refine sy_gf mj_d_114_34 rfl rfl (by decide) rfl th6 ?_
      intro x7 ex7 bx7 tx7
      rw [eh6, sg_na (by decide)] at ex7
      subst ex7
      refine sy_st (S' := (mj_m_114, 38, [(0, .ref 221), (1, sy_i a1), (2, sy_i a2)], [sy_i a2, sy_i (sy_rd h 221 2), .ref 223], h6)) mj_d_114_37 (fun _ _ => rfl) ?_
      refine sg_ias (v := a2) mj_d_114_38 rfl (by decide) (by omega) (by omega) (ab_el_1 rfl _) th6 (by omega) (by omega) ⟨by omega, by omega⟩ ?_
      intro h8 th8 eh8
      rw [eh6] at eh8
      refine sy_st (S' := (mj_m_114, 40, [(0, .ref 221), (1, sy_i a1), (2, sy_i a2)], [.ref 221], h8)) mj_d_114_39 (fun _ _ => rfl) ?_
      refine sy_st (S' := (mj_m_114, 41, [(0, .ref 221), (1, sy_i a1), (2, sy_i a2)], [.ref 221, .ref 221], h8)) mj_d_114_40 (fun _ _ => rfl) ?_
      refine sy_gf mj_d_114_41 rfl rfl (by decide) rfl th8 ?_
      intro x9 ex9 bx9 tx9
      rw [eh8, sg_na (by decide), sg_na (by decide)] at ex9
      subst ex9
      refine sy_st (S' := (mj_m_114, 45, [(0, .ref 221), (1, sy_i a1), (2, sy_i a2)], [sy_i 1, sy_i (sy_rd h 221 2), .ref 221], h8)) mj_d_114_44 (fun _ _ => rfl) ?_
      refine sy_add mj_d_114_45 ?_
      refine sg_pf (z := ((sy_rd h 221 2) + 1)) mj_d_114_46 rfl rfl (by decide) (Or.inl rfl) rfl th8 (by omega) (by omega) ⟨by omega, by omega⟩ ?_
      intro h10 th10 eh10
      rw [eh8] at eh10
      refine sy_st (S' := (mj_m_114, 50, [(0, .ref 221), (1, sy_i a1), (2, sy_i a2)], [.ref 221], h10)) mj_d_114_49 (fun _ _ => rfl) ?_
      refine sy_gf mj_d_114_50 rfl rfl (by decide) rfl th10 ?_
      intro x11 ex11 bx11 tx11
      rw [eh10, sg_eq] at ex11
      subst ex11
      exact sy_reti mj_d_114_53 rfl ⟨th10, eh10, rfl, by omega, by omega⟩
    · skip
      rw [if_neg c4]
      refine sy_ldc (n := -1000000004) mj_d_114_16 rfl (by decide) ?_
      exact sy_reti mj_d_114_18 rfl ⟨hH, rfl, rfl, by omega, by omega⟩
def dc_Book_firstWrong_2 (n : Nat) : sg_S → Int → Int := Nat.rec (fun (s : sg_S) l2 => 0) (fun _ ih => fun s l2 => (if (s 221 2) ≤ l2 then (-1) else (if 20 ≤ l2 then (-1) else (if (dc_Soot_newest s (s 14 ((s 222 ((l2).toNat)).toNat))) = (s 223 ((l2).toNat)) then (ih s (l2 + 1)) else l2)))) n
theorem dc_Book_firstWrong_2_s (n : Nat) (s : sg_S) (l2 : Int) : dc_Book_firstWrong_2 (n + 1) s l2 = (if (s 221 2) ≤ l2 then (-1) else (if 20 ≤ l2 then (-1) else (if (dc_Soot_newest s (s 14 ((s 222 ((l2).toNat)).toNat))) = (s 223 ((l2).toNat)) then ((dc_Book_firstWrong_2 n) s (l2 + 1)) else l2))) := rfl
def dc_Book_firstWrong (s : sg_S) : Int := (dc_Book_firstWrong_2 21 s 0)
set_option maxRecDepth 100000 in
theorem dt_Book_firstWrong_2 : ∀ (n : Nat) {h : mj_H} (hH : sy_H h) {l2 : Int} (b_l2 : 0 ≤ l2) (t_l2 : l2 ≤ 20) (hm : 20 - l2 < (n : Int)), sy_wp (mj_m_116, 2, [(0, .ref 221), (1, .ref 13), (2, sy_i l2)], [], h) (dq1 h (-1) (19) (dc_Book_firstWrong_2 n (sy_rd h) l2)) := by
  intro n
  induction n with
  | zero =>
    intro h hH l2 b_l2 t_l2 hm
    exact absurd hm (by omega)
  | succ n ih =>
    intro h hH l2 b_l2 t_l2 hm
    rw [dc_Book_firstWrong_2_s]
    refine sy_st (S' := (mj_m_116, 3, [(0, .ref 221), (1, .ref 13), (2, sy_i l2)], [sy_i l2], h)) mj_d_116_2 (fun _ _ => rfl) ?_
    refine sy_st (S' := (mj_m_116, 4, [(0, .ref 221), (1, .ref 13), (2, sy_i l2)], [.ref 221, sy_i l2], h)) mj_d_116_3 (fun _ _ => rfl) ?_
    refine sy_gf mj_d_116_4 rfl rfl (by decide) rfl hH ?_
    rintro _ rfl bx1 tx1
    refine sy_icm mj_d_116_7 rfl ⟨by omega, by omega⟩ ⟨by omega, by omega⟩ (fun (c2 : (sy_rd h 221 2) ≤ l2) => ?_) (fun (c2 : ¬ ((sy_rd h 221 2) ≤ l2)) => ?_)
    · skip
      rw [if_pos c2]
      refine sy_st (S' := (mj_m_116, 48, [(0, .ref 221), (1, .ref 13), (2, sy_i l2)], [sy_i (-1)], h)) mj_d_116_47 (fun _ _ => rfl) ?_
      exact sy_reti mj_d_116_48 rfl ⟨rfl, rfl, by omega, by omega⟩
    · skip
      rw [if_neg c2]
      refine sy_st (S' := (mj_m_116, 11, [(0, .ref 221), (1, .ref 13), (2, sy_i l2)], [sy_i l2], h)) mj_d_116_10 (fun _ _ => rfl) ?_
      refine sy_bip mj_d_116_11 (by decide) ?_
      refine sy_icm mj_d_116_13 rfl ⟨by omega, by omega⟩ ⟨by omega, by omega⟩ (fun (c3 : 20 ≤ l2) => ?_) (fun (c3 : ¬ (20 ≤ l2)) => ?_)
      · skip
        rw [if_pos c3]
        refine sy_st (S' := (mj_m_116, 48, [(0, .ref 221), (1, .ref 13), (2, sy_i l2)], [sy_i (-1)], h)) mj_d_116_47 (fun _ _ => rfl) ?_
        exact sy_reti mj_d_116_48 rfl ⟨rfl, rfl, by omega, by omega⟩
      · skip
        rw [if_neg c3]
        refine sy_st (S' := (mj_m_116, 17, [(0, .ref 221), (1, .ref 13), (2, sy_i l2)], [.ref 13], h)) mj_d_116_16 (fun _ _ => rfl) ?_
        refine sy_gr2 (b := 14) mj_d_116_17 rfl rfl (by decide) rfl rfl hH ?_
        refine sy_st (S' := (mj_m_116, 21, [(0, .ref 221), (1, .ref 13), (2, sy_i l2)], [.ref 221, .ref 14], h)) mj_d_116_20 (fun _ _ => rfl) ?_
        refine sy_gr2 (b := 222) mj_d_116_21 rfl rfl (by decide) rfl rfl hH ?_
        refine sy_st (S' := (mj_m_116, 25, [(0, .ref 221), (1, .ref 13), (2, sy_i l2)], [sy_i l2, .ref 222, .ref 14], h)) mj_d_116_24 (fun _ _ => rfl) ?_
        refine sy_ia mj_d_116_25 rfl (by decide) (by omega) (by omega) (ab_el_1 rfl _) hH ?_
        rintro _ rfl bx4 tx4
        refine sy_ia mj_d_116_26 rfl (by decide) (by omega) (by omega) (ab_el_1 rfl _) hH ?_
        rintro _ rfl bx5 tx5
        refine sy_cs (M' := mj_m_40) (vs := [sy_i (sy_rd h 14 ((sy_rd h 222 ((l2).toNat)).toNat))]) (rest := []) mj_d_116_27 rfl rfl rfl rfl ⟨Nat.le_of_ble_eq_true rfl, Nat.le_of_ble_eq_true rfl, Nat.le_of_ble_eq_true rfl, Nat.le_of_ble_eq_true rfl, Nat.le_of_ble_eq_true rfl⟩ (dt_Soot_newest (a0 := (sy_rd h 14 ((sy_rd h 222 ((l2).toNat)).toNat))) hH (by omega) (by omega)) ?_
        rintro _ _ ⟨rfl, rfl, b6, b6t⟩
        show sy_wp (mj_m_116, 30, [(0, .ref 221), (1, .ref 13), (2, sy_i l2)], [sy_i (dc_Soot_newest (sy_rd h) (sy_rd h 14 ((sy_rd h 222 ((l2).toNat)).toNat)))], h) _
        refine sy_st (S' := (mj_m_116, 31, [(0, .ref 221), (1, .ref 13), (2, sy_i l2)], [.ref 221, sy_i (dc_Soot_newest (sy_rd h) (sy_rd h 14 ((sy_rd h 222 ((l2).toNat)).toNat)))], h)) mj_d_116_30 (fun _ _ => rfl) ?_
        refine sy_gr2 (b := 223) mj_d_116_31 rfl rfl (by decide) rfl rfl hH ?_
        refine sy_st (S' := (mj_m_116, 35, [(0, .ref 221), (1, .ref 13), (2, sy_i l2)], [sy_i l2, .ref 223, sy_i (dc_Soot_newest (sy_rd h) (sy_rd h 14 ((sy_rd h 222 ((l2).toNat)).toNat)))], h)) mj_d_116_34 (fun _ _ => rfl) ?_
        refine sy_ia mj_d_116_35 rfl (by decide) (by omega) (by omega) (ab_el_1 rfl _) hH ?_
        rintro _ rfl bx7 tx7
        refine sy_icm mj_d_116_36 rfl ⟨by omega, by omega⟩ ⟨by omega, by omega⟩ (fun (c8 : (dc_Soot_newest (sy_rd h) (sy_rd h 14 ((sy_rd h 222 ((l2).toNat)).toNat))) = (sy_rd h 223 ((l2).toNat))) => ?_) (fun (c8 : ¬ ((dc_Soot_newest (sy_rd h) (sy_rd h 14 ((sy_rd h 222 ((l2).toNat)).toNat))) = (sy_rd h 223 ((l2).toNat)))) => ?_)
        · skip
          rw [if_pos c8]
          refine sy_inc (a := l2) (lv' := [(2, sy_i (l2 + 1)), (0, .ref 221), (1, .ref 13)]) mj_d_116_41 (Nat.le_of_ble_eq_true rfl) rfl rfl ?_
          refine sy_st (S' := (mj_m_116, 2, [(2, sy_i (l2 + 1)), (0, .ref 221), (1, .ref 13)], [], h)) mj_d_116_44 (fun _ _ => rfl) ?_
          refine sy_lv (lv := [(0, .ref 221), (1, .ref 13), (2, sy_i (l2 + 1))]) rfl ⟨rfl, rfl, rfl, trivial⟩ ?_
          exact ih hH (by first | omega | assumption) (by first | omega | assumption) (by omega)
        · skip
          rw [if_neg c8]
          refine sy_st (S' := (mj_m_116, 40, [(0, .ref 221), (1, .ref 13), (2, sy_i l2)], [sy_i l2], h)) mj_d_116_39 (fun _ _ => rfl) ?_
          exact sy_reti mj_d_116_40 rfl ⟨rfl, rfl, by omega, by omega⟩
set_option maxRecDepth 100000 in
theorem dt_Book_firstWrong {h : mj_H} (hH : sy_H h) : sy_wp (mj_m_116, 0, [(0, .ref 221), (1, .ref 13)], [], h) (dq1 h (-1) (19) (dc_Book_firstWrong (sy_rd h))) := by
  unfold dc_Book_firstWrong
  refine sy_st (S' := (mj_m_116, 1, [(0, .ref 221), (1, .ref 13)], [sy_i 0], h)) mj_d_116_0 (fun _ _ => rfl) ?_
  refine sy_st (S' := (mj_m_116, 2, [(2, sy_i 0), (0, .ref 221), (1, .ref 13)], [], h)) mj_d_116_1 (fun _ _ => rfl) ?_
  refine sy_lv (lv := [(0, .ref 221), (1, .ref 13), (2, sy_i 0)]) rfl ⟨rfl, rfl, rfl, trivial⟩ ?_
  exact dt_Book_firstWrong_2 21 hH (by first | omega | assumption) (by first | omega | assumption) (by omega)
