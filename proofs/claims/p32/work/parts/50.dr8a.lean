def mj_m_125 : mj_M := (⟨"SootMapsModel", "feed", "(I)I"⟩, prog_13_method_9_code, 2, (some .int), 10, 1, 1, 1, 25)
def mj_m_126 : mj_M := (⟨"SootMapsModel", "in", "(JJJ)Z"⟩, prog_13_method_3_code, 6, (some .boolean), 10, 3, 0, 0, 0)
def mj_m_128 : mj_M := (⟨"SootMapsModel", "here", "()I"⟩, prog_13_method_11_code, 1, (some .int), 10, 0, 1, 1, 21)
def mj_m_129 : mj_M := (⟨"SootMapsModel", "letterAt", "(I)I"⟩, prog_13_method_10_code, 2, (some .int), 10, 1, 1, 0, 0)
def mj_m_131 : mj_M := (⟨"SootMapsModel", "fails", "(II)Z"⟩, prog_13_method_12_code, 3, (some .boolean), 10, 2, 1, 0, 0)
def mj_m_137 : mj_M := (⟨"SootMapsModel", "fault", "()I"⟩, prog_13_method_20_code, 1, (some .int), 10, 0, 1, 0, 0)
def mj_m_138 : mj_M := (⟨"SootMapsModel", "told", "(I)I"⟩, prog_13_method_22_code, 2, (some .int), 10, 1, 1, 1, 22)
def mj_m_139 : mj_M := (⟨"SootMapsModel", "layersOfAll", "()I"⟩, prog_13_method_21_code, 3, (some .int), 10, 0, 1, 0, 0)
def mj_m_140 : mj_M := (⟨"SootMapsModel", "house", "(II)I"⟩, prog_13_method_25_code, 3, (some .int), 10, 2, 1, 2, 46)
def mj_m_141 : mj_M := (⟨"SootMapsModel", "isHouse", "(I)Z"⟩, prog_13_method_7_code, 2, (some .boolean), 10, 1, 1, 1, 25)
def mj_m_142 : mj_M := (⟨"SootMapsModel", "newestOf", "(I)I"⟩, prog_13_method_24_code, 2, (some .int), 10, 1, 1, 0, 0)
def mj_m_143 : mj_M := (⟨"SootMapsModel", "layer", "(II)I"⟩, prog_13_method_26_code, 3, (some .int), 10, 2, 1, 2, 46)
def mj_m_144 : mj_M := (⟨"SootMapsModel", "layerAt", "(III)I"⟩, prog_13_method_23_code, 4, (some .int), 10, 3, 1, 0, 0)
def mj_m_145 : mj_M := (⟨"SootMapsModel", "sweep", "(II)I"⟩, prog_13_method_27_code, 3, (some .int), 10, 2, 1, 2, 46)
def mj_m_146 : mj_M := (⟨"SootMapsModel", "isSweep", "(I)Z"⟩, prog_13_method_8_code, 2, (some .boolean), 10, 1, 1, 1, 25)
def mj_m_149 : mj_M := (⟨"SootMapsModel", "copy", "(II)V"⟩, prog_13_method_6_code, 4, none, 10, 2, 1, 0, 0)
def mj_m_151 : mj_M := (⟨"SootMapsModel", "lays", "(III)V"⟩, prog_13_method_28_code, 6, none, 10, 3, 1, 0, 0)
def mj_m_152 : mj_M := (⟨"SootMapsModel", "blownTo", "(I)I"⟩, prog_13_method_29_code, 3, (some .int), 10, 1, 1, 2, 46)
def mj_m_161 : mj_M := (⟨"SootMapsModel", "has", "(II)Z"⟩, prog_13_method_4_code, 2, (some .boolean), 10, 2, 0, 0, 0)
def mj_m_176 : mj_M := (⟨"SootMapsModel", "ones", "(I)I"⟩, prog_13_method_5_code, 3, (some .int), 10, 1, 0, 0, 0)
theorem mj_d_125_0 : decode mj_m_125.2.1 0 = .ok (.iload_n 1, 1) := by decide +kernel
theorem mj_d_125_1 : decode mj_m_125.2.1 1 = .ok (.i2l, 1) := by decide +kernel
theorem mj_d_125_2 : decode mj_m_125.2.1 2 = .ok (.lconst 0, 1) := by decide +kernel
theorem mj_d_125_3 : decode mj_m_125.2.1 3 = .ok (.ldc2_w 86, 3) := by decide +kernel
theorem mj_d_125_6 : decode mj_m_125.2.1 6 = .ok (.invokestatic 79, 3) := by decide +kernel
theorem mj_d_125_9 : decode mj_m_125.2.1 9 = .ok (.ifCond .ne 6, 3) := by decide +kernel
theorem mj_d_125_12 : decode mj_m_125.2.1 12 = .ok (.ldc 88, 2) := by decide +kernel
theorem mj_d_125_14 : decode mj_m_125.2.1 14 = .ok (.ireturn, 1) := by decide +kernel
theorem mj_d_125_15 : decode mj_m_125.2.1 15 = .ok (.aload_n 0, 1) := by decide +kernel
theorem mj_d_125_16 : decode mj_m_125.2.1 16 = .ok (.getfield 89, 3) := by decide +kernel
theorem mj_d_125_19 : decode mj_m_125.2.1 19 = .ok (.sipush 240, 3) := by decide +kernel
theorem mj_d_125_22 : decode mj_m_125.2.1 22 = .ok (.if_icmp .ne 6, 3) := by decide +kernel
theorem mj_d_125_25 : decode mj_m_125.2.1 25 = .ok (.ldc 92, 2) := by decide +kernel
theorem mj_d_125_27 : decode mj_m_125.2.1 27 = .ok (.ireturn, 1) := by decide +kernel
theorem mj_d_125_28 : decode mj_m_125.2.1 28 = .ok (.aload_n 0, 1) := by decide +kernel
theorem mj_d_125_29 : decode mj_m_125.2.1 29 = .ok (.getfield 20, 3) := by decide +kernel
theorem mj_d_125_32 : decode mj_m_125.2.1 32 = .ok (.aload_n 0, 1) := by decide +kernel
theorem mj_d_125_33 : decode mj_m_125.2.1 33 = .ok (.getfield 89, 3) := by decide +kernel
theorem mj_d_125_36 : decode mj_m_125.2.1 36 = .ok (.iload_n 1, 1) := by decide +kernel
theorem mj_d_125_37 : decode mj_m_125.2.1 37 = .ok (.iastore, 1) := by decide +kernel
theorem mj_d_125_38 : decode mj_m_125.2.1 38 = .ok (.aload_n 0, 1) := by decide +kernel
theorem mj_d_125_39 : decode mj_m_125.2.1 39 = .ok (.dup, 1) := by decide +kernel
theorem mj_d_125_40 : decode mj_m_125.2.1 40 = .ok (.getfield 89, 3) := by decide +kernel
theorem mj_d_125_43 : decode mj_m_125.2.1 43 = .ok (.iconst 1, 1) := by decide +kernel
theorem mj_d_125_44 : decode mj_m_125.2.1 44 = .ok (.iadd, 1) := by decide +kernel
theorem mj_d_125_45 : decode mj_m_125.2.1 45 = .ok (.putfield 89, 3) := by decide +kernel
theorem mj_d_125_48 : decode mj_m_125.2.1 48 = .ok (.aload_n 0, 1) := by decide +kernel
theorem mj_d_125_49 : decode mj_m_125.2.1 49 = .ok (.getfield 89, 3) := by decide +kernel
theorem mj_d_125_52 : decode mj_m_125.2.1 52 = .ok (.ireturn, 1) := by decide +kernel
theorem mj_d_126_0 : decode mj_m_126.2.1 0 = .ok (.lload_n 0, 1) := by decide +kernel
theorem mj_d_126_1 : decode mj_m_126.2.1 1 = .ok (.lload_n 2, 1) := by decide +kernel
theorem mj_d_126_2 : decode mj_m_126.2.1 2 = .ok (.lcmp, 1) := by decide +kernel
theorem mj_d_126_3 : decode mj_m_126.2.1 3 = .ok (.ifCond .lt 14, 3) := by decide +kernel
theorem mj_d_126_6 : decode mj_m_126.2.1 6 = .ok (.lload_n 0, 1) := by decide +kernel
theorem mj_d_126_7 : decode mj_m_126.2.1 7 = .ok (.lload 4, 2) := by decide +kernel
theorem mj_d_126_9 : decode mj_m_126.2.1 9 = .ok (.lcmp, 1) := by decide +kernel
theorem mj_d_126_10 : decode mj_m_126.2.1 10 = .ok (.ifCond .gt 7, 3) := by decide +kernel
theorem mj_d_126_13 : decode mj_m_126.2.1 13 = .ok (.iconst 1, 1) := by decide +kernel
theorem mj_d_126_14 : decode mj_m_126.2.1 14 = .ok (.goto 4, 3) := by decide +kernel
theorem mj_d_126_17 : decode mj_m_126.2.1 17 = .ok (.iconst 0, 1) := by decide +kernel
theorem mj_d_126_18 : decode mj_m_126.2.1 18 = .ok (.ireturn, 1) := by decide +kernel
theorem mj_d_128_0 : decode mj_m_128.2.1 0 = .ok (.aload_n 0, 1) := by decide +kernel
theorem mj_d_128_1 : decode mj_m_128.2.1 1 = .ok (.aload_n 0, 1) := by decide +kernel
theorem mj_d_128_2 : decode mj_m_128.2.1 2 = .ok (.getfield 93, 3) := by decide +kernel
theorem mj_d_128_5 : decode mj_m_128.2.1 5 = .ok (.invokevirtual 96, 3) := by decide +kernel
theorem mj_d_128_8 : decode mj_m_128.2.1 8 = .ok (.bipush 32, 2) := by decide +kernel
theorem mj_d_128_10 : decode mj_m_128.2.1 10 = .ok (.if_icmp .ne 16, 3) := by decide +kernel
theorem mj_d_128_13 : decode mj_m_128.2.1 13 = .ok (.aload_n 0, 1) := by decide +kernel
theorem mj_d_128_14 : decode mj_m_128.2.1 14 = .ok (.dup, 1) := by decide +kernel
theorem mj_d_128_15 : decode mj_m_128.2.1 15 = .ok (.getfield 93, 3) := by decide +kernel
theorem mj_d_128_18 : decode mj_m_128.2.1 18 = .ok (.iconst 1, 1) := by decide +kernel
theorem mj_d_128_19 : decode mj_m_128.2.1 19 = .ok (.iadd, 1) := by decide +kernel
theorem mj_d_128_20 : decode mj_m_128.2.1 20 = .ok (.putfield 93, 3) := by decide +kernel
theorem mj_d_128_23 : decode mj_m_128.2.1 23 = .ok (.goto (-23), 3) := by decide +kernel
theorem mj_d_128_26 : decode mj_m_128.2.1 26 = .ok (.aload_n 0, 1) := by decide +kernel
theorem mj_d_128_27 : decode mj_m_128.2.1 27 = .ok (.aload_n 0, 1) := by decide +kernel
theorem mj_d_128_28 : decode mj_m_128.2.1 28 = .ok (.getfield 93, 3) := by decide +kernel
theorem mj_d_128_31 : decode mj_m_128.2.1 31 = .ok (.putfield 100, 3) := by decide +kernel
theorem mj_d_128_34 : decode mj_m_128.2.1 34 = .ok (.aload_n 0, 1) := by decide +kernel
theorem mj_d_128_35 : decode mj_m_128.2.1 35 = .ok (.aload_n 0, 1) := by decide +kernel
theorem mj_d_128_36 : decode mj_m_128.2.1 36 = .ok (.getfield 93, 3) := by decide +kernel
theorem mj_d_128_39 : decode mj_m_128.2.1 39 = .ok (.invokevirtual 96, 3) := by decide +kernel
theorem mj_d_128_42 : decode mj_m_128.2.1 42 = .ok (.ireturn, 1) := by decide +kernel
theorem mj_d_129_0 : decode mj_m_129.2.1 0 = .ok (.iload_n 1, 1) := by decide +kernel
theorem mj_d_129_1 : decode mj_m_129.2.1 1 = .ok (.aload_n 0, 1) := by decide +kernel
theorem mj_d_129_2 : decode mj_m_129.2.1 2 = .ok (.getfield 89, 3) := by decide +kernel
theorem mj_d_129_5 : decode mj_m_129.2.1 5 = .ok (.if_icmp .ge 12, 3) := by decide +kernel
theorem mj_d_129_8 : decode mj_m_129.2.1 8 = .ok (.aload_n 0, 1) := by decide +kernel
theorem mj_d_129_9 : decode mj_m_129.2.1 9 = .ok (.getfield 20, 3) := by decide +kernel
theorem mj_d_129_12 : decode mj_m_129.2.1 12 = .ok (.iload_n 1, 1) := by decide +kernel
theorem mj_d_129_13 : decode mj_m_129.2.1 13 = .ok (.iaload, 1) := by decide +kernel
theorem mj_d_129_14 : decode mj_m_129.2.1 14 = .ok (.goto 4, 3) := by decide +kernel
theorem mj_d_129_17 : decode mj_m_129.2.1 17 = .ok (.iconst (-1), 1) := by decide +kernel
theorem mj_d_129_18 : decode mj_m_129.2.1 18 = .ok (.ireturn, 1) := by decide +kernel
theorem mj_d_131_0 : decode mj_m_131.2.1 0 = .ok (.aload_n 0, 1) := by decide +kernel
theorem mj_d_131_1 : decode mj_m_131.2.1 1 = .ok (.iload_n 1, 1) := by decide +kernel
theorem mj_d_131_2 : decode mj_m_131.2.1 2 = .ok (.putfield 103, 3) := by decide +kernel
theorem mj_d_131_5 : decode mj_m_131.2.1 5 = .ok (.aload_n 0, 1) := by decide +kernel
theorem mj_d_131_6 : decode mj_m_131.2.1 6 = .ok (.iload_n 2, 1) := by decide +kernel
theorem mj_d_131_7 : decode mj_m_131.2.1 7 = .ok (.putfield 23, 3) := by decide +kernel
theorem mj_d_131_10 : decode mj_m_131.2.1 10 = .ok (.iconst 0, 1) := by decide +kernel
theorem mj_d_131_11 : decode mj_m_131.2.1 11 = .ok (.ireturn, 1) := by decide +kernel
theorem mj_d_137_0 : decode mj_m_137.2.1 0 = .ok (.aload_n 0, 1) := by decide +kernel
theorem mj_d_137_1 : decode mj_m_137.2.1 1 = .ok (.getfield 23, 3) := by decide +kernel
theorem mj_d_137_4 : decode mj_m_137.2.1 4 = .ok (.ireturn, 1) := by decide +kernel
theorem mj_d_138_0 : decode mj_m_138.2.1 0 = .ok (.iload_n 1, 1) := by decide +kernel
theorem mj_d_138_1 : decode mj_m_138.2.1 1 = .ok (.tableswitch 135 0 11 #[63, 76, 81, 86, 91, 96, 101, 108, 113, 120, 125, 130], 63) := by decide +kernel
theorem mj_d_138_64 : decode mj_m_138.2.1 64 = .ok (.aload_n 0, 1) := by decide +kernel
theorem mj_d_138_65 : decode mj_m_138.2.1 65 = .ok (.getfield 72, 3) := by decide +kernel
theorem mj_d_138_68 : decode mj_m_138.2.1 68 = .ok (.ifCond .eq 7, 3) := by decide +kernel
theorem mj_d_138_71 : decode mj_m_138.2.1 71 = .ok (.iconst 1, 1) := by decide +kernel
theorem mj_d_138_72 : decode mj_m_138.2.1 72 = .ok (.goto 4, 3) := by decide +kernel
theorem mj_d_138_75 : decode mj_m_138.2.1 75 = .ok (.iconst 0, 1) := by decide +kernel
theorem mj_d_138_76 : decode mj_m_138.2.1 76 = .ok (.ireturn, 1) := by decide +kernel
theorem mj_d_138_77 : decode mj_m_138.2.1 77 = .ok (.aload_n 0, 1) := by decide +kernel
theorem mj_d_138_78 : decode mj_m_138.2.1 78 = .ok (.getfield 156, 3) := by decide +kernel
theorem mj_d_138_81 : decode mj_m_138.2.1 81 = .ok (.ireturn, 1) := by decide +kernel
theorem mj_d_138_82 : decode mj_m_138.2.1 82 = .ok (.aload_n 0, 1) := by decide +kernel
theorem mj_d_138_83 : decode mj_m_138.2.1 83 = .ok (.getfield 159, 3) := by decide +kernel
theorem mj_d_138_86 : decode mj_m_138.2.1 86 = .ok (.ireturn, 1) := by decide +kernel
theorem mj_d_138_87 : decode mj_m_138.2.1 87 = .ok (.aload_n 0, 1) := by decide +kernel
theorem mj_d_138_88 : decode mj_m_138.2.1 88 = .ok (.getfield 76, 3) := by decide +kernel
theorem mj_d_138_91 : decode mj_m_138.2.1 91 = .ok (.ireturn, 1) := by decide +kernel
theorem mj_d_138_92 : decode mj_m_138.2.1 92 = .ok (.aload_n 0, 1) := by decide +kernel
theorem mj_d_138_93 : decode mj_m_138.2.1 93 = .ok (.getfield 83, 3) := by decide +kernel
theorem mj_d_138_96 : decode mj_m_138.2.1 96 = .ok (.ireturn, 1) := by decide +kernel
theorem mj_d_138_97 : decode mj_m_138.2.1 97 = .ok (.aload_n 0, 1) := by decide +kernel
theorem mj_d_138_98 : decode mj_m_138.2.1 98 = .ok (.getfield 89, 3) := by decide +kernel
theorem mj_d_138_101 : decode mj_m_138.2.1 101 = .ok (.ireturn, 1) := by decide +kernel
theorem mj_d_138_102 : decode mj_m_138.2.1 102 = .ok (.aload_n 0, 1) := by decide +kernel
theorem mj_d_138_103 : decode mj_m_138.2.1 103 = .ok (.getfield 7, 3) := by decide +kernel
theorem mj_d_138_106 : decode mj_m_138.2.1 106 = .ok (.iconst 0, 1) := by decide +kernel
theorem mj_d_138_107 : decode mj_m_138.2.1 107 = .ok (.iaload, 1) := by decide +kernel
theorem mj_d_138_108 : decode mj_m_138.2.1 108 = .ok (.ireturn, 1) := by decide +kernel
theorem mj_d_138_109 : decode mj_m_138.2.1 109 = .ok (.aload_n 0, 1) := by decide +kernel
theorem mj_d_138_110 : decode mj_m_138.2.1 110 = .ok (.invokevirtual 171, 3) := by decide +kernel
theorem mj_d_138_113 : decode mj_m_138.2.1 113 = .ok (.ireturn, 1) := by decide +kernel
theorem mj_d_138_114 : decode mj_m_138.2.1 114 = .ok (.aload_n 0, 1) := by decide +kernel
theorem mj_d_138_115 : decode mj_m_138.2.1 115 = .ok (.getfield 7, 3) := by decide +kernel
theorem mj_d_138_118 : decode mj_m_138.2.1 118 = .ok (.iconst 1, 1) := by decide +kernel
theorem mj_d_138_119 : decode mj_m_138.2.1 119 = .ok (.iaload, 1) := by decide +kernel
theorem mj_d_138_120 : decode mj_m_138.2.1 120 = .ok (.ireturn, 1) := by decide +kernel
theorem mj_d_138_121 : decode mj_m_138.2.1 121 = .ok (.aload_n 0, 1) := by decide +kernel
theorem mj_d_138_122 : decode mj_m_138.2.1 122 = .ok (.getfield 162, 3) := by decide +kernel
theorem mj_d_138_125 : decode mj_m_138.2.1 125 = .ok (.ireturn, 1) := by decide +kernel
theorem mj_d_138_126 : decode mj_m_138.2.1 126 = .ok (.aload_n 0, 1) := by decide +kernel
theorem mj_d_138_127 : decode mj_m_138.2.1 127 = .ok (.getfield 165, 3) := by decide +kernel
theorem mj_d_138_130 : decode mj_m_138.2.1 130 = .ok (.ireturn, 1) := by decide +kernel
theorem mj_d_138_131 : decode mj_m_138.2.1 131 = .ok (.aload_n 0, 1) := by decide +kernel
theorem mj_d_138_132 : decode mj_m_138.2.1 132 = .ok (.getfield 168, 3) := by decide +kernel
theorem mj_d_138_135 : decode mj_m_138.2.1 135 = .ok (.ireturn, 1) := by decide +kernel
theorem mj_d_138_136 : decode mj_m_138.2.1 136 = .ok (.ldc 88, 2) := by decide +kernel
theorem mj_d_138_138 : decode mj_m_138.2.1 138 = .ok (.ireturn, 1) := by decide +kernel
theorem mj_d_139_0 : decode mj_m_139.2.1 0 = .ok (.iconst 0, 1) := by decide +kernel
theorem mj_d_139_1 : decode mj_m_139.2.1 1 = .ok (.istore_n 1, 1) := by decide +kernel
theorem mj_d_139_2 : decode mj_m_139.2.1 2 = .ok (.iconst 0, 1) := by decide +kernel
theorem mj_d_139_3 : decode mj_m_139.2.1 3 = .ok (.istore_n 2, 1) := by decide +kernel
theorem mj_d_139_4 : decode mj_m_139.2.1 4 = .ok (.iload_n 2, 1) := by decide +kernel
theorem mj_d_139_5 : decode mj_m_139.2.1 5 = .ok (.aload_n 0, 1) := by decide +kernel
theorem mj_d_139_6 : decode mj_m_139.2.1 6 = .ok (.getfield 76, 3) := by decide +kernel
theorem mj_d_139_9 : decode mj_m_139.2.1 9 = .ok (.if_icmp .ge 21, 3) := by decide +kernel
theorem mj_d_139_12 : decode mj_m_139.2.1 12 = .ok (.iload_n 1, 1) := by decide +kernel
theorem mj_d_139_13 : decode mj_m_139.2.1 13 = .ok (.aload_n 0, 1) := by decide +kernel
theorem mj_d_139_14 : decode mj_m_139.2.1 14 = .ok (.getfield 7, 3) := by decide +kernel
theorem mj_d_139_17 : decode mj_m_139.2.1 17 = .ok (.bipush 20, 2) := by decide +kernel
theorem mj_d_139_19 : decode mj_m_139.2.1 19 = .ok (.iload_n 2, 1) := by decide +kernel
theorem mj_d_139_20 : decode mj_m_139.2.1 20 = .ok (.iadd, 1) := by decide +kernel
theorem mj_d_139_21 : decode mj_m_139.2.1 21 = .ok (.iaload, 1) := by decide +kernel
theorem mj_d_139_22 : decode mj_m_139.2.1 22 = .ok (.iadd, 1) := by decide +kernel
theorem mj_d_139_23 : decode mj_m_139.2.1 23 = .ok (.istore_n 1, 1) := by decide +kernel
theorem mj_d_139_24 : decode mj_m_139.2.1 24 = .ok (.iinc 2 1, 3) := by decide +kernel
theorem mj_d_139_27 : decode mj_m_139.2.1 27 = .ok (.goto (-23), 3) := by decide +kernel
theorem mj_d_139_30 : decode mj_m_139.2.1 30 = .ok (.iload_n 1, 1) := by decide +kernel
theorem mj_d_139_31 : decode mj_m_139.2.1 31 = .ok (.ireturn, 1) := by decide +kernel
theorem mj_d_140_0 : decode mj_m_140.2.1 0 = .ok (.aload_n 0, 1) := by decide +kernel
theorem mj_d_140_1 : decode mj_m_140.2.1 1 = .ok (.iload_n 1, 1) := by decide +kernel
theorem mj_d_140_2 : decode mj_m_140.2.1 2 = .ok (.invokevirtual 174, 3) := by decide +kernel
theorem mj_d_140_5 : decode mj_m_140.2.1 5 = .ok (.ifCond .ne 6, 3) := by decide +kernel
theorem mj_d_140_8 : decode mj_m_140.2.1 8 = .ok (.ldc 177, 2) := by decide +kernel
theorem mj_d_140_10 : decode mj_m_140.2.1 10 = .ok (.ireturn, 1) := by decide +kernel
theorem mj_d_140_11 : decode mj_m_140.2.1 11 = .ok (.iload_n 2, 1) := by decide +kernel
theorem mj_d_140_12 : decode mj_m_140.2.1 12 = .ok (.tableswitch 67 0 3 #[32, 41, 51, 61], 32) := by decide +kernel
theorem mj_d_140_44 : decode mj_m_140.2.1 44 = .ok (.aload_n 0, 1) := by decide +kernel
theorem mj_d_140_45 : decode mj_m_140.2.1 45 = .ok (.getfield 7, 3) := by decide +kernel
theorem mj_d_140_48 : decode mj_m_140.2.1 48 = .ok (.iconst 2, 1) := by decide +kernel
theorem mj_d_140_49 : decode mj_m_140.2.1 49 = .ok (.iload_n 1, 1) := by decide +kernel
theorem mj_d_140_50 : decode mj_m_140.2.1 50 = .ok (.iadd, 1) := by decide +kernel
theorem mj_d_140_51 : decode mj_m_140.2.1 51 = .ok (.iaload, 1) := by decide +kernel
theorem mj_d_140_52 : decode mj_m_140.2.1 52 = .ok (.ireturn, 1) := by decide +kernel
theorem mj_d_140_53 : decode mj_m_140.2.1 53 = .ok (.aload_n 0, 1) := by decide +kernel
theorem mj_d_140_54 : decode mj_m_140.2.1 54 = .ok (.getfield 7, 3) := by decide +kernel
theorem mj_d_140_57 : decode mj_m_140.2.1 57 = .ok (.bipush 11, 2) := by decide +kernel
theorem mj_d_140_59 : decode mj_m_140.2.1 59 = .ok (.iload_n 1, 1) := by decide +kernel
theorem mj_d_140_60 : decode mj_m_140.2.1 60 = .ok (.iadd, 1) := by decide +kernel
theorem mj_d_140_61 : decode mj_m_140.2.1 61 = .ok (.iaload, 1) := by decide +kernel
theorem mj_d_140_62 : decode mj_m_140.2.1 62 = .ok (.ireturn, 1) := by decide +kernel
theorem mj_d_140_63 : decode mj_m_140.2.1 63 = .ok (.aload_n 0, 1) := by decide +kernel
theorem mj_d_140_64 : decode mj_m_140.2.1 64 = .ok (.getfield 7, 3) := by decide +kernel
theorem mj_d_140_67 : decode mj_m_140.2.1 67 = .ok (.bipush 20, 2) := by decide +kernel
theorem mj_d_140_69 : decode mj_m_140.2.1 69 = .ok (.iload_n 1, 1) := by decide +kernel
theorem mj_d_140_70 : decode mj_m_140.2.1 70 = .ok (.iadd, 1) := by decide +kernel
theorem mj_d_140_71 : decode mj_m_140.2.1 71 = .ok (.iaload, 1) := by decide +kernel
theorem mj_d_140_72 : decode mj_m_140.2.1 72 = .ok (.ireturn, 1) := by decide +kernel
theorem mj_d_140_73 : decode mj_m_140.2.1 73 = .ok (.aload_n 0, 1) := by decide +kernel
theorem mj_d_140_74 : decode mj_m_140.2.1 74 = .ok (.iload_n 1, 1) := by decide +kernel
theorem mj_d_140_75 : decode mj_m_140.2.1 75 = .ok (.invokevirtual 178, 3) := by decide +kernel
theorem mj_d_140_78 : decode mj_m_140.2.1 78 = .ok (.ireturn, 1) := by decide +kernel
theorem mj_d_140_79 : decode mj_m_140.2.1 79 = .ok (.ldc 88, 2) := by decide +kernel
theorem mj_d_140_81 : decode mj_m_140.2.1 81 = .ok (.ireturn, 1) := by decide +kernel
theorem mj_d_141_0 : decode mj_m_141.2.1 0 = .ok (.iload_n 1, 1) := by decide +kernel
theorem mj_d_141_1 : decode mj_m_141.2.1 1 = .ok (.i2l, 1) := by decide +kernel
theorem mj_d_141_2 : decode mj_m_141.2.1 2 = .ok (.lconst 0, 1) := by decide +kernel
theorem mj_d_141_3 : decode mj_m_141.2.1 3 = .ok (.aload_n 0, 1) := by decide +kernel
theorem mj_d_141_4 : decode mj_m_141.2.1 4 = .ok (.getfield 76, 3) := by decide +kernel
theorem mj_d_141_7 : decode mj_m_141.2.1 7 = .ok (.iconst 1, 1) := by decide +kernel
theorem mj_d_141_8 : decode mj_m_141.2.1 8 = .ok (.isub, 1) := by decide +kernel
theorem mj_d_141_9 : decode mj_m_141.2.1 9 = .ok (.i2l, 1) := by decide +kernel
theorem mj_d_141_10 : decode mj_m_141.2.1 10 = .ok (.invokestatic 79, 3) := by decide +kernel
theorem mj_d_141_13 : decode mj_m_141.2.1 13 = .ok (.ireturn, 1) := by decide +kernel
theorem mj_d_142_0 : decode mj_m_142.2.1 0 = .ok (.aload_n 0, 1) := by decide +kernel
theorem mj_d_142_1 : decode mj_m_142.2.1 1 = .ok (.getfield 7, 3) := by decide +kernel
theorem mj_d_142_4 : decode mj_m_142.2.1 4 = .ok (.bipush 20, 2) := by decide +kernel
theorem mj_d_142_6 : decode mj_m_142.2.1 6 = .ok (.iload_n 1, 1) := by decide +kernel
theorem mj_d_142_7 : decode mj_m_142.2.1 7 = .ok (.iadd, 1) := by decide +kernel
theorem mj_d_142_8 : decode mj_m_142.2.1 8 = .ok (.iaload, 1) := by decide +kernel
theorem mj_d_142_9 : decode mj_m_142.2.1 9 = .ok (.ifCond .ne 7, 3) := by decide +kernel
theorem mj_d_142_12 : decode mj_m_142.2.1 12 = .ok (.iconst 0, 1) := by decide +kernel
theorem mj_d_142_13 : decode mj_m_142.2.1 13 = .ok (.goto 27, 3) := by decide +kernel
theorem mj_d_142_16 : decode mj_m_142.2.1 16 = .ok (.aload_n 0, 1) := by decide +kernel
theorem mj_d_142_17 : decode mj_m_142.2.1 17 = .ok (.getfield 7, 3) := by decide +kernel
theorem mj_d_142_20 : decode mj_m_142.2.1 20 = .ok (.bipush 29, 2) := by decide +kernel
theorem mj_d_142_22 : decode mj_m_142.2.1 22 = .ok (.bipush 8, 2) := by decide +kernel
theorem mj_d_142_24 : decode mj_m_142.2.1 24 = .ok (.iload_n 1, 1) := by decide +kernel
theorem mj_d_142_25 : decode mj_m_142.2.1 25 = .ok (.imul, 1) := by decide +kernel
theorem mj_d_142_26 : decode mj_m_142.2.1 26 = .ok (.iadd, 1) := by decide +kernel
theorem mj_d_142_27 : decode mj_m_142.2.1 27 = .ok (.aload_n 0, 1) := by decide +kernel
theorem mj_d_142_28 : decode mj_m_142.2.1 28 = .ok (.getfield 7, 3) := by decide +kernel
theorem mj_d_142_31 : decode mj_m_142.2.1 31 = .ok (.bipush 20, 2) := by decide +kernel
theorem mj_d_142_33 : decode mj_m_142.2.1 33 = .ok (.iload_n 1, 1) := by decide +kernel
theorem mj_d_142_34 : decode mj_m_142.2.1 34 = .ok (.iadd, 1) := by decide +kernel
theorem mj_d_142_35 : decode mj_m_142.2.1 35 = .ok (.iaload, 1) := by decide +kernel
theorem mj_d_142_36 : decode mj_m_142.2.1 36 = .ok (.iadd, 1) := by decide +kernel
theorem mj_d_142_37 : decode mj_m_142.2.1 37 = .ok (.iconst 1, 1) := by decide +kernel
theorem mj_d_142_38 : decode mj_m_142.2.1 38 = .ok (.isub, 1) := by decide +kernel
theorem mj_d_142_39 : decode mj_m_142.2.1 39 = .ok (.iaload, 1) := by decide +kernel
theorem mj_d_142_40 : decode mj_m_142.2.1 40 = .ok (.ireturn, 1) := by decide +kernel
theorem mj_d_143_0 : decode mj_m_143.2.1 0 = .ok (.aload_n 0, 1) := by decide +kernel
theorem mj_d_143_1 : decode mj_m_143.2.1 1 = .ok (.iload_n 1, 1) := by decide +kernel
theorem mj_d_143_2 : decode mj_m_143.2.1 2 = .ok (.invokevirtual 174, 3) := by decide +kernel
theorem mj_d_143_5 : decode mj_m_143.2.1 5 = .ok (.ifCond .ne 6, 3) := by decide +kernel
theorem mj_d_143_8 : decode mj_m_143.2.1 8 = .ok (.ldc 177, 2) := by decide +kernel
theorem mj_d_143_10 : decode mj_m_143.2.1 10 = .ok (.ireturn, 1) := by decide +kernel
theorem mj_d_143_11 : decode mj_m_143.2.1 11 = .ok (.iload_n 2, 1) := by decide +kernel
theorem mj_d_143_12 : decode mj_m_143.2.1 12 = .ok (.i2l, 1) := by decide +kernel
theorem mj_d_143_13 : decode mj_m_143.2.1 13 = .ok (.lconst 0, 1) := by decide +kernel
theorem mj_d_143_14 : decode mj_m_143.2.1 14 = .ok (.ldc2_w 181, 3) := by decide +kernel
theorem mj_d_143_17 : decode mj_m_143.2.1 17 = .ok (.invokestatic 79, 3) := by decide +kernel
theorem mj_d_143_20 : decode mj_m_143.2.1 20 = .ok (.ifCond .eq 13, 3) := by decide +kernel
theorem mj_d_143_23 : decode mj_m_143.2.1 23 = .ok (.aload_n 0, 1) := by decide +kernel
theorem mj_d_143_24 : decode mj_m_143.2.1 24 = .ok (.iconst 0, 1) := by decide +kernel
theorem mj_d_143_25 : decode mj_m_143.2.1 25 = .ok (.iload_n 1, 1) := by decide +kernel
theorem mj_d_143_26 : decode mj_m_143.2.1 26 = .ok (.iload_n 2, 1) := by decide +kernel
theorem mj_d_143_27 : decode mj_m_143.2.1 27 = .ok (.invokevirtual 183, 3) := by decide +kernel
theorem mj_d_143_30 : decode mj_m_143.2.1 30 = .ok (.goto 5, 3) := by decide +kernel
theorem mj_d_143_33 : decode mj_m_143.2.1 33 = .ok (.ldc 88, 2) := by decide +kernel
theorem mj_d_143_35 : decode mj_m_143.2.1 35 = .ok (.ireturn, 1) := by decide +kernel
theorem mj_d_144_0 : decode mj_m_144.2.1 0 = .ok (.iload_n 3, 1) := by decide +kernel
theorem mj_d_144_1 : decode mj_m_144.2.1 1 = .ok (.aload_n 0, 1) := by decide +kernel
theorem mj_d_144_2 : decode mj_m_144.2.1 2 = .ok (.getfield 7, 3) := by decide +kernel
theorem mj_d_144_5 : decode mj_m_144.2.1 5 = .ok (.iload_n 1, 1) := by decide +kernel
theorem mj_d_144_6 : decode mj_m_144.2.1 6 = .ok (.bipush 20, 2) := by decide +kernel
theorem mj_d_144_8 : decode mj_m_144.2.1 8 = .ok (.iadd, 1) := by decide +kernel
theorem mj_d_144_9 : decode mj_m_144.2.1 9 = .ok (.iload_n 2, 1) := by decide +kernel
theorem mj_d_144_10 : decode mj_m_144.2.1 10 = .ok (.iadd, 1) := by decide +kernel
theorem mj_d_144_11 : decode mj_m_144.2.1 11 = .ok (.iaload, 1) := by decide +kernel
theorem mj_d_144_12 : decode mj_m_144.2.1 12 = .ok (.if_icmp .ge 22, 3) := by decide +kernel
theorem mj_d_144_15 : decode mj_m_144.2.1 15 = .ok (.aload_n 0, 1) := by decide +kernel
theorem mj_d_144_16 : decode mj_m_144.2.1 16 = .ok (.getfield 7, 3) := by decide +kernel
theorem mj_d_144_19 : decode mj_m_144.2.1 19 = .ok (.iload_n 1, 1) := by decide +kernel
theorem mj_d_144_20 : decode mj_m_144.2.1 20 = .ok (.bipush 29, 2) := by decide +kernel
theorem mj_d_144_22 : decode mj_m_144.2.1 22 = .ok (.iadd, 1) := by decide +kernel
theorem mj_d_144_23 : decode mj_m_144.2.1 23 = .ok (.bipush 8, 2) := by decide +kernel
theorem mj_d_144_25 : decode mj_m_144.2.1 25 = .ok (.iload_n 2, 1) := by decide +kernel
theorem mj_d_144_26 : decode mj_m_144.2.1 26 = .ok (.imul, 1) := by decide +kernel
theorem mj_d_144_27 : decode mj_m_144.2.1 27 = .ok (.iadd, 1) := by decide +kernel
theorem mj_d_144_28 : decode mj_m_144.2.1 28 = .ok (.iload_n 3, 1) := by decide +kernel
theorem mj_d_144_29 : decode mj_m_144.2.1 29 = .ok (.iadd, 1) := by decide +kernel
theorem mj_d_144_30 : decode mj_m_144.2.1 30 = .ok (.iaload, 1) := by decide +kernel
theorem mj_d_144_31 : decode mj_m_144.2.1 31 = .ok (.goto 4, 3) := by decide +kernel
theorem mj_d_144_34 : decode mj_m_144.2.1 34 = .ok (.iconst 0, 1) := by decide +kernel
theorem mj_d_144_35 : decode mj_m_144.2.1 35 = .ok (.ireturn, 1) := by decide +kernel
theorem mj_d_145_0 : decode mj_m_145.2.1 0 = .ok (.aload_n 0, 1) := by decide +kernel
theorem mj_d_145_1 : decode mj_m_145.2.1 1 = .ok (.iload_n 1, 1) := by decide +kernel
theorem mj_d_145_2 : decode mj_m_145.2.1 2 = .ok (.invokevirtual 187, 3) := by decide +kernel
theorem mj_d_145_5 : decode mj_m_145.2.1 5 = .ok (.ifCond .ne 6, 3) := by decide +kernel
theorem mj_d_145_8 : decode mj_m_145.2.1 8 = .ok (.ldc 177, 2) := by decide +kernel
theorem mj_d_145_10 : decode mj_m_145.2.1 10 = .ok (.ireturn, 1) := by decide +kernel
theorem mj_d_145_11 : decode mj_m_145.2.1 11 = .ok (.iload_n 2, 1) := by decide +kernel
theorem mj_d_145_12 : decode mj_m_145.2.1 12 = .ok (.ifCond .ne 15, 3) := by decide +kernel
theorem mj_d_145_15 : decode mj_m_145.2.1 15 = .ok (.aload_n 0, 1) := by decide +kernel
theorem mj_d_145_16 : decode mj_m_145.2.1 16 = .ok (.getfield 7, 3) := by decide +kernel
theorem mj_d_145_19 : decode mj_m_145.2.1 19 = .ok (.bipush 101, 2) := by decide +kernel
theorem mj_d_145_21 : decode mj_m_145.2.1 21 = .ok (.iload_n 1, 1) := by decide +kernel
theorem mj_d_145_22 : decode mj_m_145.2.1 22 = .ok (.iadd, 1) := by decide +kernel
theorem mj_d_145_23 : decode mj_m_145.2.1 23 = .ok (.iaload, 1) := by decide +kernel
theorem mj_d_145_24 : decode mj_m_145.2.1 24 = .ok (.goto 39, 3) := by decide +kernel
theorem mj_d_145_27 : decode mj_m_145.2.1 27 = .ok (.iload_n 2, 1) := by decide +kernel
theorem mj_d_145_28 : decode mj_m_145.2.1 28 = .ok (.iconst 1, 1) := by decide +kernel
theorem mj_d_145_29 : decode mj_m_145.2.1 29 = .ok (.if_icmp .ne 12, 3) := by decide +kernel
theorem mj_d_145_32 : decode mj_m_145.2.1 32 = .ok (.aload_n 0, 1) := by decide +kernel
theorem mj_d_145_33 : decode mj_m_145.2.1 33 = .ok (.getfield 17, 3) := by decide +kernel
theorem mj_d_145_36 : decode mj_m_145.2.1 36 = .ok (.iload_n 1, 1) := by decide +kernel
theorem mj_d_145_37 : decode mj_m_145.2.1 37 = .ok (.iaload, 1) := by decide +kernel
theorem mj_d_145_38 : decode mj_m_145.2.1 38 = .ok (.goto 25, 3) := by decide +kernel
theorem mj_d_145_41 : decode mj_m_145.2.1 41 = .ok (.iload_n 2, 1) := by decide +kernel
theorem mj_d_145_42 : decode mj_m_145.2.1 42 = .ok (.iconst 2, 1) := by decide +kernel
theorem mj_d_145_43 : decode mj_m_145.2.1 43 = .ok (.if_icmp .ne 18, 3) := by decide +kernel
theorem mj_d_145_46 : decode mj_m_145.2.1 46 = .ok (.aload_n 0, 1) := by decide +kernel
theorem mj_d_145_47 : decode mj_m_145.2.1 47 = .ok (.getfield 7, 3) := by decide +kernel
theorem mj_d_145_50 : decode mj_m_145.2.1 50 = .ok (.bipush 106, 2) := by decide +kernel
theorem mj_d_145_52 : decode mj_m_145.2.1 52 = .ok (.iload_n 1, 1) := by decide +kernel
theorem mj_d_145_53 : decode mj_m_145.2.1 53 = .ok (.iadd, 1) := by decide +kernel
theorem mj_d_145_54 : decode mj_m_145.2.1 54 = .ok (.iaload, 1) := by decide +kernel
theorem mj_d_145_55 : decode mj_m_145.2.1 55 = .ok (.ldc 190, 2) := by decide +kernel
theorem mj_d_145_57 : decode mj_m_145.2.1 57 = .ok (.iadd, 1) := by decide +kernel
theorem mj_d_145_58 : decode mj_m_145.2.1 58 = .ok (.goto 5, 3) := by decide +kernel
theorem mj_d_145_61 : decode mj_m_145.2.1 61 = .ok (.ldc 88, 2) := by decide +kernel
theorem mj_d_145_63 : decode mj_m_145.2.1 63 = .ok (.ireturn, 1) := by decide +kernel
theorem mj_d_146_0 : decode mj_m_146.2.1 0 = .ok (.iload_n 1, 1) := by decide +kernel
theorem mj_d_146_1 : decode mj_m_146.2.1 1 = .ok (.i2l, 1) := by decide +kernel
theorem mj_d_146_2 : decode mj_m_146.2.1 2 = .ok (.lconst 0, 1) := by decide +kernel
theorem mj_d_146_3 : decode mj_m_146.2.1 3 = .ok (.aload_n 0, 1) := by decide +kernel
theorem mj_d_146_4 : decode mj_m_146.2.1 4 = .ok (.getfield 83, 3) := by decide +kernel
theorem mj_d_146_7 : decode mj_m_146.2.1 7 = .ok (.iconst 1, 1) := by decide +kernel
theorem mj_d_146_8 : decode mj_m_146.2.1 8 = .ok (.isub, 1) := by decide +kernel
theorem mj_d_146_9 : decode mj_m_146.2.1 9 = .ok (.i2l, 1) := by decide +kernel
theorem mj_d_146_10 : decode mj_m_146.2.1 10 = .ok (.invokestatic 79, 3) := by decide +kernel
theorem mj_d_146_13 : decode mj_m_146.2.1 13 = .ok (.ireturn, 1) := by decide +kernel
theorem mj_d_149_0 : decode mj_m_149.2.1 0 = .ok (.iconst 0, 1) := by decide +kernel
theorem mj_d_149_1 : decode mj_m_149.2.1 1 = .ok (.istore_n 3, 1) := by decide +kernel
theorem mj_d_149_2 : decode mj_m_149.2.1 2 = .ok (.iload_n 3, 1) := by decide +kernel
theorem mj_d_149_3 : decode mj_m_149.2.1 3 = .ok (.bipush 112, 2) := by decide +kernel
theorem mj_d_149_5 : decode mj_m_149.2.1 5 = .ok (.if_icmp .ge 25, 3) := by decide +kernel
theorem mj_d_149_8 : decode mj_m_149.2.1 8 = .ok (.aload_n 0, 1) := by decide +kernel
theorem mj_d_149_9 : decode mj_m_149.2.1 9 = .ok (.getfield 7, 3) := by decide +kernel
theorem mj_d_149_12 : decode mj_m_149.2.1 12 = .ok (.iload_n 2, 1) := by decide +kernel
theorem mj_d_149_13 : decode mj_m_149.2.1 13 = .ok (.iload_n 3, 1) := by decide +kernel
theorem mj_d_149_14 : decode mj_m_149.2.1 14 = .ok (.iadd, 1) := by decide +kernel
theorem mj_d_149_15 : decode mj_m_149.2.1 15 = .ok (.aload_n 0, 1) := by decide +kernel
theorem mj_d_149_16 : decode mj_m_149.2.1 16 = .ok (.getfield 7, 3) := by decide +kernel
theorem mj_d_149_19 : decode mj_m_149.2.1 19 = .ok (.iload_n 1, 1) := by decide +kernel
theorem mj_d_149_20 : decode mj_m_149.2.1 20 = .ok (.iload_n 3, 1) := by decide +kernel
theorem mj_d_149_21 : decode mj_m_149.2.1 21 = .ok (.iadd, 1) := by decide +kernel
theorem mj_d_149_22 : decode mj_m_149.2.1 22 = .ok (.iaload, 1) := by decide +kernel
theorem mj_d_149_23 : decode mj_m_149.2.1 23 = .ok (.iastore, 1) := by decide +kernel
theorem mj_d_149_24 : decode mj_m_149.2.1 24 = .ok (.iinc 3 1, 3) := by decide +kernel
theorem mj_d_149_27 : decode mj_m_149.2.1 27 = .ok (.goto (-25), 3) := by decide +kernel
theorem mj_d_149_30 : decode mj_m_149.2.1 30 = .ok (.return_, 1) := by decide +kernel
theorem mj_d_151_0 : decode mj_m_151.2.1 0 = .ok (.iload_n 1, 1) := by decide +kernel
theorem mj_d_151_1 : decode mj_m_151.2.1 1 = .ok (.bipush 29, 2) := by decide +kernel
theorem mj_d_151_3 : decode mj_m_151.2.1 3 = .ok (.iadd, 1) := by decide +kernel
theorem mj_d_151_4 : decode mj_m_151.2.1 4 = .ok (.bipush 8, 2) := by decide +kernel
theorem mj_d_151_6 : decode mj_m_151.2.1 6 = .ok (.iload_n 2, 1) := by decide +kernel
theorem mj_d_151_7 : decode mj_m_151.2.1 7 = .ok (.imul, 1) := by decide +kernel
theorem mj_d_151_8 : decode mj_m_151.2.1 8 = .ok (.iadd, 1) := by decide +kernel
theorem mj_d_151_9 : decode mj_m_151.2.1 9 = .ok (.istore 4, 2) := by decide +kernel
theorem mj_d_151_11 : decode mj_m_151.2.1 11 = .ok (.aload_n 0, 1) := by decide +kernel
theorem mj_d_151_12 : decode mj_m_151.2.1 12 = .ok (.getfield 7, 3) := by decide +kernel
theorem mj_d_151_15 : decode mj_m_151.2.1 15 = .ok (.iload_n 1, 1) := by decide +kernel
theorem mj_d_151_16 : decode mj_m_151.2.1 16 = .ok (.bipush 20, 2) := by decide +kernel
theorem mj_d_151_18 : decode mj_m_151.2.1 18 = .ok (.iadd, 1) := by decide +kernel
theorem mj_d_151_19 : decode mj_m_151.2.1 19 = .ok (.iload_n 2, 1) := by decide +kernel
theorem mj_d_151_20 : decode mj_m_151.2.1 20 = .ok (.iadd, 1) := by decide +kernel
theorem mj_d_151_21 : decode mj_m_151.2.1 21 = .ok (.iaload, 1) := by decide +kernel
theorem mj_d_151_22 : decode mj_m_151.2.1 22 = .ok (.bipush 8, 2) := by decide +kernel
theorem mj_d_151_24 : decode mj_m_151.2.1 24 = .ok (.if_icmp .ne 56, 3) := by decide +kernel
theorem mj_d_151_27 : decode mj_m_151.2.1 27 = .ok (.iconst 0, 1) := by decide +kernel
theorem mj_d_151_28 : decode mj_m_151.2.1 28 = .ok (.istore 5, 2) := by decide +kernel
theorem mj_d_151_30 : decode mj_m_151.2.1 30 = .ok (.iload 5, 2) := by decide +kernel
theorem mj_d_151_32 : decode mj_m_151.2.1 32 = .ok (.bipush 7, 2) := by decide +kernel
theorem mj_d_151_34 : decode mj_m_151.2.1 34 = .ok (.if_icmp .ge 31, 3) := by decide +kernel
theorem mj_d_151_37 : decode mj_m_151.2.1 37 = .ok (.aload_n 0, 1) := by decide +kernel
theorem mj_d_151_38 : decode mj_m_151.2.1 38 = .ok (.getfield 7, 3) := by decide +kernel
theorem mj_d_151_41 : decode mj_m_151.2.1 41 = .ok (.iload 4, 2) := by decide +kernel
theorem mj_d_151_43 : decode mj_m_151.2.1 43 = .ok (.iload 5, 2) := by decide +kernel
theorem mj_d_151_45 : decode mj_m_151.2.1 45 = .ok (.iadd, 1) := by decide +kernel
theorem mj_d_151_46 : decode mj_m_151.2.1 46 = .ok (.aload_n 0, 1) := by decide +kernel
theorem mj_d_151_47 : decode mj_m_151.2.1 47 = .ok (.getfield 7, 3) := by decide +kernel
theorem mj_d_151_50 : decode mj_m_151.2.1 50 = .ok (.iload 4, 2) := by decide +kernel
theorem mj_d_151_52 : decode mj_m_151.2.1 52 = .ok (.iload 5, 2) := by decide +kernel
theorem mj_d_151_54 : decode mj_m_151.2.1 54 = .ok (.iadd, 1) := by decide +kernel
theorem mj_d_151_55 : decode mj_m_151.2.1 55 = .ok (.iconst 1, 1) := by decide +kernel
theorem mj_d_151_56 : decode mj_m_151.2.1 56 = .ok (.iadd, 1) := by decide +kernel
theorem mj_d_151_57 : decode mj_m_151.2.1 57 = .ok (.iaload, 1) := by decide +kernel
theorem mj_d_151_58 : decode mj_m_151.2.1 58 = .ok (.iastore, 1) := by decide +kernel
theorem mj_d_151_59 : decode mj_m_151.2.1 59 = .ok (.iinc 5 1, 3) := by decide +kernel
theorem mj_d_151_62 : decode mj_m_151.2.1 62 = .ok (.goto (-32), 3) := by decide +kernel
theorem mj_d_151_65 : decode mj_m_151.2.1 65 = .ok (.aload_n 0, 1) := by decide +kernel
theorem mj_d_151_66 : decode mj_m_151.2.1 66 = .ok (.getfield 7, 3) := by decide +kernel
theorem mj_d_151_69 : decode mj_m_151.2.1 69 = .ok (.iload_n 1, 1) := by decide +kernel
theorem mj_d_151_70 : decode mj_m_151.2.1 70 = .ok (.bipush 20, 2) := by decide +kernel
theorem mj_d_151_72 : decode mj_m_151.2.1 72 = .ok (.iadd, 1) := by decide +kernel
theorem mj_d_151_73 : decode mj_m_151.2.1 73 = .ok (.iload_n 2, 1) := by decide +kernel
theorem mj_d_151_74 : decode mj_m_151.2.1 74 = .ok (.iadd, 1) := by decide +kernel
theorem mj_d_151_75 : decode mj_m_151.2.1 75 = .ok (.dup2, 1) := by decide +kernel
theorem mj_d_151_76 : decode mj_m_151.2.1 76 = .ok (.iaload, 1) := by decide +kernel
theorem mj_d_151_77 : decode mj_m_151.2.1 77 = .ok (.iconst 1, 1) := by decide +kernel
theorem mj_d_151_78 : decode mj_m_151.2.1 78 = .ok (.isub, 1) := by decide +kernel
theorem mj_d_151_79 : decode mj_m_151.2.1 79 = .ok (.iastore, 1) := by decide +kernel
theorem mj_d_151_80 : decode mj_m_151.2.1 80 = .ok (.aload_n 0, 1) := by decide +kernel
theorem mj_d_151_81 : decode mj_m_151.2.1 81 = .ok (.getfield 7, 3) := by decide +kernel
theorem mj_d_151_84 : decode mj_m_151.2.1 84 = .ok (.iload 4, 2) := by decide +kernel
theorem mj_d_151_86 : decode mj_m_151.2.1 86 = .ok (.aload_n 0, 1) := by decide +kernel
theorem mj_d_151_87 : decode mj_m_151.2.1 87 = .ok (.getfield 7, 3) := by decide +kernel
theorem mj_d_151_90 : decode mj_m_151.2.1 90 = .ok (.iload_n 1, 1) := by decide +kernel
theorem mj_d_151_91 : decode mj_m_151.2.1 91 = .ok (.bipush 20, 2) := by decide +kernel
theorem mj_d_151_93 : decode mj_m_151.2.1 93 = .ok (.iadd, 1) := by decide +kernel
theorem mj_d_151_94 : decode mj_m_151.2.1 94 = .ok (.iload_n 2, 1) := by decide +kernel
theorem mj_d_151_95 : decode mj_m_151.2.1 95 = .ok (.iadd, 1) := by decide +kernel
theorem mj_d_151_96 : decode mj_m_151.2.1 96 = .ok (.iaload, 1) := by decide +kernel
theorem mj_d_151_97 : decode mj_m_151.2.1 97 = .ok (.iadd, 1) := by decide +kernel
theorem mj_d_151_98 : decode mj_m_151.2.1 98 = .ok (.iload_n 3, 1) := by decide +kernel
theorem mj_d_151_99 : decode mj_m_151.2.1 99 = .ok (.iastore, 1) := by decide +kernel
theorem mj_d_151_100 : decode mj_m_151.2.1 100 = .ok (.aload_n 0, 1) := by decide +kernel
theorem mj_d_151_101 : decode mj_m_151.2.1 101 = .ok (.getfield 7, 3) := by decide +kernel
theorem mj_d_151_104 : decode mj_m_151.2.1 104 = .ok (.iload_n 1, 1) := by decide +kernel
theorem mj_d_151_105 : decode mj_m_151.2.1 105 = .ok (.bipush 20, 2) := by decide +kernel
theorem mj_d_151_107 : decode mj_m_151.2.1 107 = .ok (.iadd, 1) := by decide +kernel
theorem mj_d_151_108 : decode mj_m_151.2.1 108 = .ok (.iload_n 2, 1) := by decide +kernel
theorem mj_d_151_109 : decode mj_m_151.2.1 109 = .ok (.iadd, 1) := by decide +kernel
theorem mj_d_151_110 : decode mj_m_151.2.1 110 = .ok (.dup2, 1) := by decide +kernel
theorem mj_d_151_111 : decode mj_m_151.2.1 111 = .ok (.iaload, 1) := by decide +kernel
theorem mj_d_151_112 : decode mj_m_151.2.1 112 = .ok (.iconst 1, 1) := by decide +kernel
theorem mj_d_151_113 : decode mj_m_151.2.1 113 = .ok (.iadd, 1) := by decide +kernel
theorem mj_d_151_114 : decode mj_m_151.2.1 114 = .ok (.iastore, 1) := by decide +kernel
theorem mj_d_151_115 : decode mj_m_151.2.1 115 = .ok (.return_, 1) := by decide +kernel
theorem mj_d_152_0 : decode mj_m_152.2.1 0 = .ok (.aload_n 0, 1) := by decide +kernel
theorem mj_d_152_1 : decode mj_m_152.2.1 1 = .ok (.getfield 156, 3) := by decide +kernel
theorem mj_d_152_4 : decode mj_m_152.2.1 4 = .ok (.iconst 1, 1) := by decide +kernel
theorem mj_d_152_5 : decode mj_m_152.2.1 5 = .ok (.if_icmp .ne 9, 3) := by decide +kernel
theorem mj_d_152_8 : decode mj_m_152.2.1 8 = .ok (.iload_n 1, 1) := by decide +kernel
theorem mj_d_152_9 : decode mj_m_152.2.1 9 = .ok (.iconst 1, 1) := by decide +kernel
theorem mj_d_152_10 : decode mj_m_152.2.1 10 = .ok (.iadd, 1) := by decide +kernel
theorem mj_d_152_11 : decode mj_m_152.2.1 11 = .ok (.goto 18, 3) := by decide +kernel
theorem mj_d_152_14 : decode mj_m_152.2.1 14 = .ok (.aload_n 0, 1) := by decide +kernel
theorem mj_d_152_15 : decode mj_m_152.2.1 15 = .ok (.getfield 156, 3) := by decide +kernel
theorem mj_d_152_18 : decode mj_m_152.2.1 18 = .ok (.iconst 2, 1) := by decide +kernel
theorem mj_d_152_19 : decode mj_m_152.2.1 19 = .ok (.if_icmp .ne 9, 3) := by decide +kernel
theorem mj_d_152_22 : decode mj_m_152.2.1 22 = .ok (.iload_n 1, 1) := by decide +kernel
theorem mj_d_152_23 : decode mj_m_152.2.1 23 = .ok (.iconst 1, 1) := by decide +kernel
theorem mj_d_152_24 : decode mj_m_152.2.1 24 = .ok (.isub, 1) := by decide +kernel
theorem mj_d_152_25 : decode mj_m_152.2.1 25 = .ok (.goto 4, 3) := by decide +kernel
theorem mj_d_152_28 : decode mj_m_152.2.1 28 = .ok (.iconst (-1), 1) := by decide +kernel
theorem mj_d_152_29 : decode mj_m_152.2.1 29 = .ok (.istore_n 2, 1) := by decide +kernel
theorem mj_d_152_30 : decode mj_m_152.2.1 30 = .ok (.aload_n 0, 1) := by decide +kernel
theorem mj_d_152_31 : decode mj_m_152.2.1 31 = .ok (.iload_n 2, 1) := by decide +kernel
theorem mj_d_152_32 : decode mj_m_152.2.1 32 = .ok (.invokevirtual 174, 3) := by decide +kernel
theorem mj_d_152_35 : decode mj_m_152.2.1 35 = .ok (.ifCond .eq 7, 3) := by decide +kernel
theorem mj_d_152_38 : decode mj_m_152.2.1 38 = .ok (.iload_n 2, 1) := by decide +kernel
theorem mj_d_152_39 : decode mj_m_152.2.1 39 = .ok (.goto 4, 3) := by decide +kernel
theorem mj_d_152_42 : decode mj_m_152.2.1 42 = .ok (.iconst (-1), 1) := by decide +kernel
theorem mj_d_152_43 : decode mj_m_152.2.1 43 = .ok (.ireturn, 1) := by decide +kernel
theorem mj_d_161_0 : decode mj_m_161.2.1 0 = .ok (.iload_n 0, 1) := by decide +kernel
theorem mj_d_161_1 : decode mj_m_161.2.1 1 = .ok (.iload_n 1, 1) := by decide +kernel
theorem mj_d_161_2 : decode mj_m_161.2.1 2 = .ok (.ishr, 1) := by decide +kernel
theorem mj_d_161_3 : decode mj_m_161.2.1 3 = .ok (.iconst 1, 1) := by decide +kernel
theorem mj_d_161_4 : decode mj_m_161.2.1 4 = .ok (.iand, 1) := by decide +kernel
theorem mj_d_161_5 : decode mj_m_161.2.1 5 = .ok (.iconst 1, 1) := by decide +kernel
theorem mj_d_161_6 : decode mj_m_161.2.1 6 = .ok (.if_icmp .ne 7, 3) := by decide +kernel
theorem mj_d_161_9 : decode mj_m_161.2.1 9 = .ok (.iconst 1, 1) := by decide +kernel
theorem mj_d_161_10 : decode mj_m_161.2.1 10 = .ok (.goto 4, 3) := by decide +kernel
theorem mj_d_161_13 : decode mj_m_161.2.1 13 = .ok (.iconst 0, 1) := by decide +kernel
theorem mj_d_161_14 : decode mj_m_161.2.1 14 = .ok (.ireturn, 1) := by decide +kernel
theorem mj_d_176_0 : decode mj_m_176.2.1 0 = .ok (.iconst 0, 1) := by decide +kernel
theorem mj_d_176_1 : decode mj_m_176.2.1 1 = .ok (.istore_n 1, 1) := by decide +kernel
theorem mj_d_176_2 : decode mj_m_176.2.1 2 = .ok (.iconst 0, 1) := by decide +kernel
theorem mj_d_176_3 : decode mj_m_176.2.1 3 = .ok (.istore_n 2, 1) := by decide +kernel
theorem mj_d_176_4 : decode mj_m_176.2.1 4 = .ok (.iload_n 2, 1) := by decide +kernel
theorem mj_d_176_5 : decode mj_m_176.2.1 5 = .ok (.bipush 9, 2) := by decide +kernel
theorem mj_d_176_7 : decode mj_m_176.2.1 7 = .ok (.if_icmp .ge 17, 3) := by decide +kernel
theorem mj_d_176_10 : decode mj_m_176.2.1 10 = .ok (.iload_n 1, 1) := by decide +kernel
theorem mj_d_176_11 : decode mj_m_176.2.1 11 = .ok (.iload_n 0, 1) := by decide +kernel
theorem mj_d_176_12 : decode mj_m_176.2.1 12 = .ok (.iload_n 2, 1) := by decide +kernel
theorem mj_d_176_13 : decode mj_m_176.2.1 13 = .ok (.ishr, 1) := by decide +kernel
theorem mj_d_176_14 : decode mj_m_176.2.1 14 = .ok (.iconst 1, 1) := by decide +kernel
theorem mj_d_176_15 : decode mj_m_176.2.1 15 = .ok (.iand, 1) := by decide +kernel
theorem mj_d_176_16 : decode mj_m_176.2.1 16 = .ok (.iadd, 1) := by decide +kernel
theorem mj_d_176_17 : decode mj_m_176.2.1 17 = .ok (.istore_n 1, 1) := by decide +kernel
theorem mj_d_176_18 : decode mj_m_176.2.1 18 = .ok (.iinc 2 1, 3) := by decide +kernel
theorem mj_d_176_21 : decode mj_m_176.2.1 21 = .ok (.goto (-17), 3) := by decide +kernel
theorem mj_d_176_24 : decode mj_m_176.2.1 24 = .ok (.iload_n 1, 1) := by decide +kernel
theorem mj_d_176_25 : decode mj_m_176.2.1 25 = .ok (.ireturn, 1) := by decide +kernel
def dc_R_in (s : sg_S) (a0 a1 a2 : Int) : Int := (if a0 < a1 then 0 else (if a2 < a0 then 0 else 1))
theorem df_R_in_0 (s : sg_S) (a0 a1 a2 : Int) : dc_R_in s a0 a1 a2 = 0 ∨ (a1 ≤ a0 ∧ a0 ≤ a2) := by
  unfold dc_R_in
  (repeat' split) <;> omega
set_option maxRecDepth 100000 in
theorem dt_R_in {h : mj_H} (hH : sy_H h) {a0 a1 a2 : Int} (b_a0 : (-2147483648) ≤ a0) (t_a0 : a0 ≤ 2147483647) (b_a1 : (-2147483648) ≤ a1) (t_a1 : a1 ≤ 2147483647) (b_a2 : (-2147483648) ≤ a2) (t_a2 : a2 ≤ 2147483647) : sy_wp (mj_m_126, 0, [(0, sy_l a0), (2, sy_l a1), (4, sy_l a2)], [], h) (dq1 h (0) (1) (dc_R_in (sy_rd h) a0 a1 a2)) := by
  unfold dc_R_in
  refine sy_st (S' := (mj_m_126, 1, [(0, sy_l a0), (2, sy_l a1), (4, sy_l a2)], [sy_l a0], h)) mj_d_126_0 (fun _ _ => rfl) ?_
  refine sy_st (S' := (mj_m_126, 2, [(0, sy_l a0), (2, sy_l a1), (4, sy_l a2)], [sy_l a1, sy_l a0], h)) mj_d_126_1 (fun _ _ => rfl) ?_
  refine sy_lc mj_d_126_2 mj_d_126_3 rfl ⟨by omega, by omega⟩ ⟨by omega, by omega⟩ (fun (c1 : a0 < a1) => ?_) (fun (c1 : ¬ (a0 < a1)) => ?_)
  · skip
    rw [if_pos c1]
    refine sy_st (S' := (mj_m_126, 18, [(0, sy_l a0), (2, sy_l a1), (4, sy_l a2)], [sy_i 0], h)) mj_d_126_17 (fun _ _ => rfl) ?_
    exact sy_retb mj_d_126_18 rfl ⟨by omega, by omega⟩ ⟨rfl, rfl, by omega, by omega⟩
  · skip
    rw [if_neg c1]
    refine sy_st (S' := (mj_m_126, 7, [(0, sy_l a0), (2, sy_l a1), (4, sy_l a2)], [sy_l a0], h)) mj_d_126_6 (fun _ _ => rfl) ?_
    refine sy_st (S' := (mj_m_126, 9, [(0, sy_l a0), (2, sy_l a1), (4, sy_l a2)], [sy_l a2, sy_l a0], h)) mj_d_126_7 (fun _ _ => rfl) ?_
    refine sy_lc mj_d_126_9 mj_d_126_10 rfl ⟨by omega, by omega⟩ ⟨by omega, by omega⟩ (fun (c2 : a2 < a0) => ?_) (fun (c2 : ¬ (a2 < a0)) => ?_)
    · skip
      rw [if_pos c2]
      refine sy_st (S' := (mj_m_126, 18, [(0, sy_l a0), (2, sy_l a1), (4, sy_l a2)], [sy_i 0], h)) mj_d_126_17 (fun _ _ => rfl) ?_
      exact sy_retb mj_d_126_18 rfl ⟨by omega, by omega⟩ ⟨rfl, rfl, by omega, by omega⟩
    · skip
      rw [if_neg c2]
      refine sy_st (S' := (mj_m_126, 14, [(0, sy_l a0), (2, sy_l a1), (4, sy_l a2)], [sy_i 1], h)) mj_d_126_13 (fun _ _ => rfl) ?_
      refine sy_st (S' := (mj_m_126, 18, [(0, sy_l a0), (2, sy_l a1), (4, sy_l a2)], [sy_i 1], h)) mj_d_126_14 (fun _ _ => rfl) ?_
      exact sy_retb mj_d_126_18 rfl ⟨by omega, by omega⟩ ⟨rfl, rfl, by omega, by omega⟩
def dc_R_has (s : sg_S) (a0 a1 : Int) : Int := (if (sy_and (sy_shr a0 a1) 1) = 1 then 1 else 0)
set_option maxRecDepth 100000 in
theorem dt_R_has {h : mj_H} (hH : sy_H h) {a0 a1 : Int} (b_a0 : (-2147483648) ≤ a0) (t_a0 : a0 ≤ 2147483647) (b_a1 : (-2147483648) ≤ a1) (t_a1 : a1 ≤ 2147483647) : sy_wp (mj_m_161, 0, [(0, sy_i a0), (1, sy_i a1)], [], h) (dq1 h (0) (1) (dc_R_has (sy_rd h) a0 a1)) := by
  unfold dc_R_has
  refine sy_st (S' := (mj_m_161, 1, [(0, sy_i a0), (1, sy_i a1)], [sy_i a0], h)) mj_d_161_0 (fun _ _ => rfl) ?_
  refine sy_st (S' := (mj_m_161, 2, [(0, sy_i a0), (1, sy_i a1)], [sy_i a1, sy_i a0], h)) mj_d_161_1 (fun _ _ => rfl) ?_
  refine sy_ishr mj_d_161_2 ?_
  have q1 := sg_shr_rng a0 a1
  refine sy_st (S' := (mj_m_161, 4, [(0, sy_i a0), (1, sy_i a1)], [sy_i 1, sy_i (sy_shr a0 a1)], h)) mj_d_161_3 (fun _ _ => rfl) ?_
  refine sy_iand mj_d_161_4 ?_
  have q2 := sg_and_r (sy_shr a0 a1) 1 (by decide) (by decide)
  refine sy_st (S' := (mj_m_161, 6, [(0, sy_i a0), (1, sy_i a1)], [sy_i 1, sy_i (sy_and (sy_shr a0 a1) 1)], h)) mj_d_161_5 (fun _ _ => rfl) ?_
  refine sy_icm mj_d_161_6 rfl ⟨by omega, by omega⟩ ⟨by omega, by omega⟩ (fun (c3 : ¬ ((sy_and (sy_shr a0 a1) 1) = 1)) => ?_) (fun (c3 : ¬ ¬ ((sy_and (sy_shr a0 a1) 1) = 1)) => ?_)
  · skip
    rw [if_neg c3]
    refine sy_st (S' := (mj_m_161, 14, [(0, sy_i a0), (1, sy_i a1)], [sy_i 0], h)) mj_d_161_13 (fun _ _ => rfl) ?_
    exact sy_retb mj_d_161_14 rfl ⟨by omega, by omega⟩ ⟨rfl, rfl, by omega, by omega⟩
  · skip
    rw [if_pos (Decidable.not_not.mp c3)]
    replace c3 := Decidable.not_not.mp c3
    refine sy_st (S' := (mj_m_161, 10, [(0, sy_i a0), (1, sy_i a1)], [sy_i 1], h)) mj_d_161_9 (fun _ _ => rfl) ?_
    refine sy_st (S' := (mj_m_161, 14, [(0, sy_i a0), (1, sy_i a1)], [sy_i 1], h)) mj_d_161_10 (fun _ _ => rfl) ?_
    exact sy_retb mj_d_161_14 rfl ⟨by omega, by omega⟩ ⟨rfl, rfl, by omega, by omega⟩
def dc_R_ones_4 (n : Nat) : sg_S → Int → Int → Int → Int := Nat.rec (fun (s : sg_S) l0 l1 l2 => 0) (fun _ ih => fun s l0 l1 l2 => (if 9 ≤ l2 then l1 else (ih s l0 (l1 + (sy_and (sy_shr l0 l2) 1)) (l2 + 1)))) n
theorem dc_R_ones_4_s (n : Nat) (s : sg_S) (l0 l1 l2 : Int) : dc_R_ones_4 (n + 1) s l0 l1 l2 = (if 9 ≤ l2 then l1 else ((dc_R_ones_4 n) s l0 (l1 + (sy_and (sy_shr l0 l2) 1)) (l2 + 1))) := rfl
def dc_R_ones (s : sg_S) (a0 : Int) : Int := (dc_R_ones_4 10 s a0 0 0)
set_option maxRecDepth 100000 in
theorem dt_R_ones_4 : ∀ (n : Nat) {h : mj_H} (hH : sy_H h) {l0 l1 l2 : Int} (b_l0 : (-2147483648) ≤ l0) (t_l0 : l0 ≤ 2147483647) (b_l1 : 0 ≤ l1) (t_l1 : l1 ≤ 9) (b_l2 : 0 ≤ l2) (t_l2 : l2 ≤ 9) (i0 : l1 ≤ l2) (hm : 9 - l2 < (n : Int)), sy_wp (mj_m_176, 4, [(0, sy_i l0), (1, sy_i l1), (2, sy_i l2)], [], h) (dq1 h (0) (9) (dc_R_ones_4 n (sy_rd h) l0 l1 l2)) := by
  intro n
  induction n with
  | zero =>
    intro h hH l0 l1 l2 b_l0 t_l0 b_l1 t_l1 b_l2 t_l2 i0 hm
    exact absurd hm (by omega)
  | succ n ih =>
    intro h hH l0 l1 l2 b_l0 t_l0 b_l1 t_l1 b_l2 t_l2 i0 hm
    rw [dc_R_ones_4_s]
    refine sy_st (S' := (mj_m_176, 5, [(0, sy_i l0), (1, sy_i l1), (2, sy_i l2)], [sy_i l2], h)) mj_d_176_4 (fun _ _ => rfl) ?_
    refine sy_bip mj_d_176_5 (by decide) ?_
    refine sy_icm mj_d_176_7 rfl ⟨by omega, by omega⟩ ⟨by omega, by omega⟩ (fun (c1 : 9 ≤ l2) => ?_) (fun (c1 : ¬ (9 ≤ l2)) => ?_)
    · skip
      rw [if_pos c1]
      refine sy_st (S' := (mj_m_176, 25, [(0, sy_i l0), (1, sy_i l1), (2, sy_i l2)], [sy_i l1], h)) mj_d_176_24 (fun _ _ => rfl) ?_
      exact sy_reti mj_d_176_25 rfl ⟨rfl, rfl, by omega, by omega⟩
    · skip
      rw [if_neg c1]
      refine sy_st (S' := (mj_m_176, 11, [(0, sy_i l0), (1, sy_i l1), (2, sy_i l2)], [sy_i l1], h)) mj_d_176_10 (fun _ _ => rfl) ?_
      refine sy_st (S' := (mj_m_176, 12, [(0, sy_i l0), (1, sy_i l1), (2, sy_i l2)], [sy_i l0, sy_i l1], h)) mj_d_176_11 (fun _ _ => rfl) ?_
      refine sy_st (S' := (mj_m_176, 13, [(0, sy_i l0), (1, sy_i l1), (2, sy_i l2)], [sy_i l2, sy_i l0, sy_i l1], h)) mj_d_176_12 (fun _ _ => rfl) ?_
      refine sy_ishr mj_d_176_13 ?_
      have q2 := sg_shr_rng l0 l2
      refine sy_st (S' := (mj_m_176, 15, [(0, sy_i l0), (1, sy_i l1), (2, sy_i l2)], [sy_i 1, sy_i (sy_shr l0 l2), sy_i l1], h)) mj_d_176_14 (fun _ _ => rfl) ?_
      refine sy_iand mj_d_176_15 ?_
      have q3 := sg_and_r (sy_shr l0 l2) 1 (by decide) (by decide)
      refine sy_add mj_d_176_16 ?_
      refine sy_st (S' := (mj_m_176, 18, [(1, sy_i (l1 + (sy_and (sy_shr l0 l2) 1))), (0, sy_i l0), (2, sy_i l2)], [], h)) mj_d_176_17 (fun _ _ => rfl) ?_
      refine sy_inc (a := l2) (lv' := [(2, sy_i (l2 + 1)), (1, sy_i (l1 + (sy_and (sy_shr l0 l2) 1))), (0, sy_i l0)]) mj_d_176_18 (Nat.le_of_ble_eq_true rfl) rfl rfl ?_
      refine sy_st (S' := (mj_m_176, 4, [(2, sy_i (l2 + 1)), (1, sy_i (l1 + (sy_and (sy_shr l0 l2) 1))), (0, sy_i l0)], [], h)) mj_d_176_21 (fun _ _ => rfl) ?_
      refine sy_lv (lv := [(0, sy_i l0), (1, sy_i (l1 + (sy_and (sy_shr l0 l2) 1))), (2, sy_i (l2 + 1))]) rfl ⟨rfl, rfl, rfl, trivial⟩ ?_
      exact ih hH (by first | omega | assumption) (by first | omega | assumption) (by first | omega | assumption) (by first | omega | assumption) (by first | omega | assumption) (by first | omega | assumption) (by first | omega | assumption) (by omega)
set_option maxRecDepth 100000 in
theorem dt_R_ones {h : mj_H} (hH : sy_H h) {a0 : Int} (b_a0 : (-2147483648) ≤ a0) (t_a0 : a0 ≤ 2147483647) : sy_wp (mj_m_176, 0, [(0, sy_i a0)], [], h) (dq1 h (0) (9) (dc_R_ones (sy_rd h) a0)) := by
  unfold dc_R_ones
  refine sy_st (S' := (mj_m_176, 1, [(0, sy_i a0)], [sy_i 0], h)) mj_d_176_0 (fun _ _ => rfl) ?_
  refine sy_st (S' := (mj_m_176, 2, [(1, sy_i 0), (0, sy_i a0)], [], h)) mj_d_176_1 (fun _ _ => rfl) ?_
  refine sy_st (S' := (mj_m_176, 3, [(1, sy_i 0), (0, sy_i a0)], [sy_i 0], h)) mj_d_176_2 (fun _ _ => rfl) ?_
  refine sy_st (S' := (mj_m_176, 4, [(2, sy_i 0), (1, sy_i 0), (0, sy_i a0)], [], h)) mj_d_176_3 (fun _ _ => rfl) ?_
  refine sy_lv (lv := [(0, sy_i a0), (1, sy_i 0), (2, sy_i 0)]) rfl ⟨rfl, rfl, rfl, trivial⟩ ?_
  exact dt_R_ones_4 10 hH (by first | omega | assumption) (by first | omega | assumption) (by first | omega | assumption) (by first | omega | assumption) (by first | omega | assumption) (by first | omega | assumption) (by first | omega | assumption) (by omega)
def dc_R_copy_2 (n : Nat) : sg_S → Int → Int → Int → sg_S := Nat.rec (fun (s : sg_S) l1 l2 l3 => s) (fun _ ih => fun s l1 l2 l3 => (if 112 ≤ l3 then s else (ih (sg_up s 235 ((l2 + l3).toNat) (s 235 ((l1 + l3).toNat))) l1 l2 (l3 + 1)))) n
theorem dc_R_copy_2_s (n : Nat) (s : sg_S) (l1 l2 l3 : Int) : dc_R_copy_2 (n + 1) s l1 l2 l3 = (if 112 ≤ l3 then s else ((dc_R_copy_2 n) (sg_up s 235 ((l2 + l3).toNat) (s 235 ((l1 + l3).toNat))) l1 l2 (l3 + 1))) := rfl
def dc_R_copy (s : sg_S) (a1 a2 : Int) : sg_S := (dc_R_copy_2 113 s a1 a2 0)
def dw_R_copy (a k : Nat) : Bool := (a == 235)
theorem dr_R_copy_2 (a k : Nat) (h : dw_R_copy a k = false) : ∀ (n : Nat) (s : sg_S) (l1 l2 l3 : Int), (dc_R_copy_2 n s l1 l2 l3) a k = s a k := by
  have h0 := h
  unfold dw_R_copy at h
  have h1 := h
  intro n
  induction n with
  | zero => intro s l1 l2 l3; rfl
  | succ n ih =>
    intro s l1 l2 l3
    rw [dc_R_copy_2_s]
    (repeat' split) <;> simp only [(fun s l z => sg_upa (s := s) (l := l) (z := z) (k := k) h1), ih]
theorem dr_R_copy (s : sg_S) (a1 a2 : Int) (a k : Nat) (h : dw_R_copy a k = false) : (dc_R_copy s a1 a2) a k = s a k := by
  have h0 := h
  unfold dw_R_copy at h
  have h1 := h
  unfold dc_R_copy
  (repeat' split) <;> simp only [(fun s l z => sg_upa (s := s) (l := l) (z := z) (k := k) h1), (dr_R_copy_2 a k h0)]
set_option maxRecDepth 100000 in
theorem dt_R_copy_2 : ∀ (n : Nat) {h : mj_H} (hH : sy_H h) {l1 l2 l3 : Int} (b_l1 : 0 ≤ l1) (t_l1 : l1 ≤ 3696) (b_l2 : 0 ≤ l2) (t_l2 : l2 ≤ 3696) (b_l3 : 0 ≤ l3) (t_l3 : l3 ≤ 112) (i0 : l1 % 112 = 0) (i1 : l2 % 112 = 0) (hm : 112 - l3 < (n : Int)), sy_wp (mj_m_149, 2, [(0, .ref 234), (1, sy_i l1), (2, sy_i l2), (3, sy_i l3)], [], h) (dq3 (dc_R_copy_2 n (sy_rd h) l1 l2 l3)) := by
  intro n
  induction n with
  | zero =>
    intro h hH l1 l2 l3 b_l1 t_l1 b_l2 t_l2 b_l3 t_l3 i0 i1 hm
    exact absurd hm (by omega)
  | succ n ih =>
    intro h hH l1 l2 l3 b_l1 t_l1 b_l2 t_l2 b_l3 t_l3 i0 i1 hm
    rw [dc_R_copy_2_s]
    refine sy_st (S' := (mj_m_149, 3, [(0, .ref 234), (1, sy_i l1), (2, sy_i l2), (3, sy_i l3)], [sy_i l3], h)) mj_d_149_2 (fun _ _ => rfl) ?_
    refine sy_bip mj_d_149_3 (by decide) ?_
    refine sy_icm mj_d_149_5 rfl ⟨by omega, by omega⟩ ⟨by omega, by omega⟩ (fun (c1 : 112 ≤ l3) => ?_) (fun (c1 : ¬ (112 ≤ l3)) => ?_)
    · skip
      rw [if_pos c1]
      exact sy_retv mj_d_149_30 rfl ⟨rfl, hH, rfl⟩
    · skip
      rw [if_neg c1]
      refine sy_st (S' := (mj_m_149, 9, [(0, .ref 234), (1, sy_i l1), (2, sy_i l2), (3, sy_i l3)], [.ref 234], h)) mj_d_149_8 (fun _ _ => rfl) ?_
      refine sy_gr2 (b := 235) mj_d_149_9 rfl rfl (by decide) rfl rfl hH ?_
      refine sy_st (S' := (mj_m_149, 13, [(0, .ref 234), (1, sy_i l1), (2, sy_i l2), (3, sy_i l3)], [sy_i l2, .ref 235], h)) mj_d_149_12 (fun _ _ => rfl) ?_
      refine sy_st (S' := (mj_m_149, 14, [(0, .ref 234), (1, sy_i l1), (2, sy_i l2), (3, sy_i l3)], [sy_i l3, sy_i l2, .ref 235], h)) mj_d_149_13 (fun _ _ => rfl) ?_
      refine sy_add mj_d_149_14 ?_
      refine sy_st (S' := (mj_m_149, 16, [(0, .ref 234), (1, sy_i l1), (2, sy_i l2), (3, sy_i l3)], [.ref 234, sy_i (l2 + l3), .ref 235], h)) mj_d_149_15 (fun _ _ => rfl) ?_
      refine sy_gr2 (b := 235) mj_d_149_16 rfl rfl (by decide) rfl rfl hH ?_
      refine sy_st (S' := (mj_m_149, 20, [(0, .ref 234), (1, sy_i l1), (2, sy_i l2), (3, sy_i l3)], [sy_i l1, .ref 235, sy_i (l2 + l3), .ref 235], h)) mj_d_149_19 (fun _ _ => rfl) ?_
      refine sy_st (S' := (mj_m_149, 21, [(0, .ref 234), (1, sy_i l1), (2, sy_i l2), (3, sy_i l3)], [sy_i l3, sy_i l1, .ref 235, sy_i (l2 + l3), .ref 235], h)) mj_d_149_20 (fun _ _ => rfl) ?_
      refine sy_add mj_d_149_21 ?_
      refine sg_iaC mj_d_149_22 (by omega) (by omega) hH ?_
      rintro _ rfl bx2
      refine sg_iasC (v := (sy_rd h 235 ((l1 + l3).toNat))) (l1 + l3) mj_d_149_23 (by omega) (by omega) (by omega) (by omega) bx2 hH ?_
      intro h3 th3 eh3
      refine sy_inc (a := l3) (lv' := [(3, sy_i (l3 + 1)), (0, .ref 234), (1, sy_i l1), (2, sy_i l2)]) mj_d_149_24 (Nat.le_of_ble_eq_true rfl) rfl rfl ?_
      refine sy_st (S' := (mj_m_149, 2, [(3, sy_i (l3 + 1)), (0, .ref 234), (1, sy_i l1), (2, sy_i l2)], [], h3)) mj_d_149_27 (fun _ _ => rfl) ?_
      refine sy_lv (lv := [(0, .ref 234), (1, sy_i l1), (2, sy_i l2), (3, sy_i (l3 + 1))]) rfl ⟨rfl, rfl, rfl, rfl, trivial⟩ ?_
      rw [← eh3]
      exact ih th3 (by first | omega | assumption) (by first | omega | assumption) (by first | omega | assumption) (by first | omega | assumption) (by first | omega | assumption) (by first | omega | assumption) (by first | omega | assumption) (by first | omega | assumption) (by omega)
set_option maxRecDepth 100000 in
theorem dt_R_copy {h : mj_H} (hH : sy_H h) {a1 a2 : Int} (b_a1 : 0 ≤ a1) (t_a1 : a1 ≤ 3696) (b_a2 : 0 ≤ a2) (t_a2 : a2 ≤ 3696) (i0 : a1 % 112 = 0) (i1 : a2 % 112 = 0) : sy_wp (mj_m_149, 0, [(0, .ref 234), (1, sy_i a1), (2, sy_i a2)], [], h) (dq3 (dc_R_copy (sy_rd h) a1 a2)) := by
  unfold dc_R_copy
  refine sy_st (S' := (mj_m_149, 1, [(0, .ref 234), (1, sy_i a1), (2, sy_i a2)], [sy_i 0], h)) mj_d_149_0 (fun _ _ => rfl) ?_
  refine sy_st (S' := (mj_m_149, 2, [(3, sy_i 0), (0, .ref 234), (1, sy_i a1), (2, sy_i a2)], [], h)) mj_d_149_1 (fun _ _ => rfl) ?_
  refine sy_lv (lv := [(0, .ref 234), (1, sy_i a1), (2, sy_i a2), (3, sy_i 0)]) rfl ⟨rfl, rfl, rfl, rfl, trivial⟩ ?_
  exact dt_R_copy_2 113 hH (by first | omega | assumption) (by first | omega | assumption) (by first | omega | assumption) (by first | omega | assumption) (by first | omega | assumption) (by first | omega | assumption) (by first | omega | assumption) (by first | omega | assumption) (by omega)
def dc_R_isHouse (s : sg_S) (a1 : Int) : Int := (dc_R_in s a1 0 ((s 234 6) - 1))
theorem df_R_isHouse_0 (s : sg_S) (a1 : Int) : dc_R_isHouse s a1 = 0 ∨ (0 ≤ a1 ∧ a1 < (s 234 6)) := by
  unfold dc_R_isHouse dc_R_in
  (repeat' split) <;> omega
set_option maxRecDepth 100000 in
theorem dt_R_isHouse {h : mj_H} (hH : sy_H h) {a1 : Int} (b_a1 : (-2147483648) ≤ a1) (t_a1 : a1 ≤ 2147483647) : sy_wp (mj_m_141, 0, [(0, .ref 234), (1, sy_i a1)], [], h) (dq1 h (0) (1) (dc_R_isHouse (sy_rd h) a1)) := by
  unfold dc_R_isHouse
  refine sy_st (S' := (mj_m_141, 1, [(0, .ref 234), (1, sy_i a1)], [sy_i a1], h)) mj_d_141_0 (fun _ _ => rfl) ?_
  refine sy_i2l mj_d_141_1 ⟨by omega, by omega⟩ ?_
  refine sy_st (S' := (mj_m_141, 3, [(0, .ref 234), (1, sy_i a1)], [sy_l 0, sy_l a1], h)) mj_d_141_2 (fun _ _ => rfl) ?_
  refine sy_st (S' := (mj_m_141, 4, [(0, .ref 234), (1, sy_i a1)], [.ref 234, sy_l 0, sy_l a1], h)) mj_d_141_3 (fun _ _ => rfl) ?_
  refine sy_gf mj_d_141_4 rfl rfl (by decide) rfl hH ?_
  intro x1 ex1 bx1 tx1
  replace ex1 : x1 = sy_rd h 234 6 := ex1
  subst ex1
  refine sy_st (S' := (mj_m_141, 8, [(0, .ref 234), (1, sy_i a1)], [sy_i 1, sy_i (sy_rd h 234 6), sy_l 0, sy_l a1], h)) mj_d_141_7 (fun _ _ => rfl) ?_
  refine sy_sub mj_d_141_8 ?_
  refine sy_i2l mj_d_141_9 ⟨by omega, by omega⟩ ?_
  refine sy_cs (M' := mj_m_126) (vs := [sy_l a1, sy_l 0, sy_l ((sy_rd h 234 6) - 1)]) (rest := []) mj_d_141_10 rfl rfl rfl rfl ⟨Nat.le_of_ble_eq_true rfl, Nat.le_of_ble_eq_true rfl, Nat.le_of_ble_eq_true rfl, Nat.le_of_ble_eq_true rfl, Nat.le_of_ble_eq_true rfl⟩ (dt_R_in (a0 := a1) (a1 := 0) (a2 := ((sy_rd h 234 6) - 1)) hH (by omega) (by omega) (by omega) (by omega) (by omega) (by omega)) ?_
  rintro _ _ ⟨rfl, rfl, b2, b2t⟩
  have q3 := df_R_in_0 (sy_rd h) a1 0 ((sy_rd h 234 6) - 1)
  show sy_wp (mj_m_141, 13, [(0, .ref 234), (1, sy_i a1)], [sy_i (dc_R_in (sy_rd h) a1 0 ((sy_rd h 234 6) - 1))], h) _
  exact sy_retb mj_d_141_13 rfl ⟨by omega, by omega⟩ ⟨rfl, rfl, by omega, by omega⟩
def dc_R_isSweep (s : sg_S) (a1 : Int) : Int := (dc_R_in s a1 0 ((s 234 7) - 1))
theorem df_R_isSweep_0 (s : sg_S) (a1 : Int) : dc_R_isSweep s a1 = 0 ∨ (0 ≤ a1 ∧ a1 < (s 234 7)) := by
  unfold dc_R_isSweep dc_R_in
  (repeat' split) <;> omega
set_option maxRecDepth 100000 in
theorem dt_R_isSweep {h : mj_H} (hH : sy_H h) {a1 : Int} (b_a1 : (-2147483648) ≤ a1) (t_a1 : a1 ≤ 2147483647) : sy_wp (mj_m_146, 0, [(0, .ref 234), (1, sy_i a1)], [], h) (dq1 h (0) (1) (dc_R_isSweep (sy_rd h) a1)) := by
  unfold dc_R_isSweep
  refine sy_st (S' := (mj_m_146, 1, [(0, .ref 234), (1, sy_i a1)], [sy_i a1], h)) mj_d_146_0 (fun _ _ => rfl) ?_
  refine sy_i2l mj_d_146_1 ⟨by omega, by omega⟩ ?_
  refine sy_st (S' := (mj_m_146, 3, [(0, .ref 234), (1, sy_i a1)], [sy_l 0, sy_l a1], h)) mj_d_146_2 (fun _ _ => rfl) ?_
  refine sy_st (S' := (mj_m_146, 4, [(0, .ref 234), (1, sy_i a1)], [.ref 234, sy_l 0, sy_l a1], h)) mj_d_146_3 (fun _ _ => rfl) ?_
  refine sy_gf mj_d_146_4 rfl rfl (by decide) rfl hH ?_
  intro x1 ex1 bx1 tx1
  replace ex1 : x1 = sy_rd h 234 7 := ex1
  subst ex1
  refine sy_st (S' := (mj_m_146, 8, [(0, .ref 234), (1, sy_i a1)], [sy_i 1, sy_i (sy_rd h 234 7), sy_l 0, sy_l a1], h)) mj_d_146_7 (fun _ _ => rfl) ?_
  refine sy_sub mj_d_146_8 ?_
  refine sy_i2l mj_d_146_9 ⟨by omega, by omega⟩ ?_
  refine sy_cs (M' := mj_m_126) (vs := [sy_l a1, sy_l 0, sy_l ((sy_rd h 234 7) - 1)]) (rest := []) mj_d_146_10 rfl rfl rfl rfl ⟨Nat.le_of_ble_eq_true rfl, Nat.le_of_ble_eq_true rfl, Nat.le_of_ble_eq_true rfl, Nat.le_of_ble_eq_true rfl, Nat.le_of_ble_eq_true rfl⟩ (dt_R_in (a0 := a1) (a1 := 0) (a2 := ((sy_rd h 234 7) - 1)) hH (by omega) (by omega) (by omega) (by omega) (by omega) (by omega)) ?_
  rintro _ _ ⟨rfl, rfl, b2, b2t⟩
  have q3 := df_R_in_0 (sy_rd h) a1 0 ((sy_rd h 234 7) - 1)
  show sy_wp (mj_m_146, 13, [(0, .ref 234), (1, sy_i a1)], [sy_i (dc_R_in (sy_rd h) a1 0 ((sy_rd h 234 7) - 1))], h) _
  exact sy_retb mj_d_146_13 rfl ⟨by omega, by omega⟩ ⟨rfl, rfl, by omega, by omega⟩
def dc_R_feed (s : sg_S) (a1 : Int) : sg_S × Int := (if (dc_R_in s a1 0 255) = 0 then (s, (-1000000002)) else (if (s 234 10) = 240 then (s, (-1000000004)) else ((sg_up (sg_up s 238 ((s 234 10).toNat) a1) 234 10 ((s 234 10) + 1)), ((s 234 10) + 1))))
def dw_R_feed (a k : Nat) : Bool := (a == 238) || (a == 234 && k == 10)
theorem dr_R_feed (s : sg_S) (a1 : Int) (a k : Nat) (h : dw_R_feed a k = false) : (dc_R_feed s a1).1 a k = s a k := by
  have h0 := h
  unfold dw_R_feed at h
  simp only [Bool.or_eq_false_iff] at h
  obtain ⟨h1, h2⟩ := h
  unfold dc_R_feed
  (repeat' split) <;> simp only [(fun s l z => sg_upa (s := s) (l := l) (z := z) (k := k) h1), (fun s z => sg_upf (s := s) (z := z) h2)]
set_option maxRecDepth 100000 in
theorem dt_R_feed {h : mj_H} (hH : sy_H h) {a1 : Int} (b_a1 : (-2147483648) ≤ a1) (t_a1 : a1 ≤ 2147483647) : sy_wp (mj_m_125, 0, [(0, .ref 234), (1, sy_i a1)], [], h) (dq2 (-2147483648) (2147483647) (dc_R_feed (sy_rd h) a1)) := by
  unfold dc_R_feed
  refine sy_st (S' := (mj_m_125, 1, [(0, .ref 234), (1, sy_i a1)], [sy_i a1], h)) mj_d_125_0 (fun _ _ => rfl) ?_
  refine sy_i2l mj_d_125_1 ⟨by omega, by omega⟩ ?_
  refine sy_st (S' := (mj_m_125, 3, [(0, .ref 234), (1, sy_i a1)], [sy_l 0, sy_l a1], h)) mj_d_125_2 (fun _ _ => rfl) ?_
  refine sy_ldc2 (n := 255) mj_d_125_3 rfl (by decide) ?_
  refine sy_cs (M' := mj_m_126) (vs := [sy_l a1, sy_l 0, sy_l 255]) (rest := []) mj_d_125_6 rfl rfl rfl rfl ⟨Nat.le_of_ble_eq_true rfl, Nat.le_of_ble_eq_true rfl, Nat.le_of_ble_eq_true rfl, Nat.le_of_ble_eq_true rfl, Nat.le_of_ble_eq_true rfl⟩ (dt_R_in (a0 := a1) (a1 := 0) (a2 := 255) hH (by omega) (by omega) (by omega) (by omega) (by omega) (by omega)) ?_
  rintro _ _ ⟨rfl, rfl, b1, b1t⟩
  have q2 := df_R_in_0 (sy_rd h) a1 0 255
  show sy_wp (mj_m_125, 9, [(0, .ref 234), (1, sy_i a1)], [sy_i (dc_R_in (sy_rd h) a1 0 255)], h) _
  refine sy_ifc mj_d_125_9 rfl ⟨by omega, by omega⟩ (fun (c3 : ¬ ((dc_R_in (sy_rd h) a1 0 255) = 0)) => ?_) (fun (c3 : ¬ ¬ ((dc_R_in (sy_rd h) a1 0 255) = 0)) => ?_)
  · skip
    rw [if_neg c3]
    refine sy_st (S' := (mj_m_125, 16, [(0, .ref 234), (1, sy_i a1)], [.ref 234], h)) mj_d_125_15 (fun _ _ => rfl) ?_
    refine sy_gf mj_d_125_16 rfl rfl (by decide) rfl hH ?_
    intro x4 ex4 bx4 tx4
    replace ex4 : x4 = sy_rd h 234 10 := ex4
    subst ex4
    refine sy_sip mj_d_125_19 (by decide) ?_
    refine sy_icm mj_d_125_22 rfl ⟨by omega, by omega⟩ ⟨by omega, by omega⟩ (fun (c5 : ¬ ((sy_rd h 234 10) = 240)) => ?_) (fun (c5 : ¬ ¬ ((sy_rd h 234 10) = 240)) => ?_)
    · skip
      rw [if_neg c5]
      refine sy_st (S' := (mj_m_125, 29, [(0, .ref 234), (1, sy_i a1)], [.ref 234], h)) mj_d_125_28 (fun _ _ => rfl) ?_
      refine sy_gr2 (b := 238) mj_d_125_29 rfl rfl (by decide) rfl rfl hH ?_
      refine sy_st (S' := (mj_m_125, 33, [(0, .ref 234), (1, sy_i a1)], [.ref 234, .ref 238], h)) mj_d_125_32 (fun _ _ => rfl) ?_
      refine sy_gf mj_d_125_33 rfl rfl (by decide) rfl hH ?_
      intro x6 ex6 bx6 tx6
      replace ex6 : x6 = sy_rd h 234 10 := ex6
      subst ex6
      refine sy_st (S' := (mj_m_125, 37, [(0, .ref 234), (1, sy_i a1)], [sy_i a1, sy_i (sy_rd h 234 10), .ref 238], h)) mj_d_125_36 (fun _ _ => rfl) ?_
      refine sg_ias (v := a1) mj_d_125_37 rfl (by decide) (by omega) (by omega) (ab_el_1 rfl _) hH (by omega) (by omega) ⟨by omega, by omega⟩ ?_
      intro h7 th7 eh7
      refine sy_st (S' := (mj_m_125, 39, [(0, .ref 234), (1, sy_i a1)], [.ref 234], h7)) mj_d_125_38 (fun _ _ => rfl) ?_
      refine sy_st (S' := (mj_m_125, 40, [(0, .ref 234), (1, sy_i a1)], [.ref 234, .ref 234], h7)) mj_d_125_39 (fun _ _ => rfl) ?_
      refine sy_gf mj_d_125_40 rfl rfl (by decide) rfl th7 ?_
      intro x8 ex8 bx8 tx8
      replace ex8 : x8 = sy_rd h7 234 10 := ex8
      rw [eh7, sg_na (by decide)] at ex8
      subst ex8
      refine sy_st (S' := (mj_m_125, 44, [(0, .ref 234), (1, sy_i a1)], [sy_i 1, sy_i (sy_rd h 234 10), .ref 234], h7)) mj_d_125_43 (fun _ _ => rfl) ?_
      refine sy_add mj_d_125_44 ?_
      refine sg_pf (z := ((sy_rd h 234 10) + 1)) mj_d_125_45 rfl rfl (by decide) (Or.inl rfl) rfl th7 (by omega) (by omega) ⟨by omega, by omega⟩ ?_
      intro h9 th9 eh9
      rw [eh7] at eh9
      refine sy_st (S' := (mj_m_125, 49, [(0, .ref 234), (1, sy_i a1)], [.ref 234], h9)) mj_d_125_48 (fun _ _ => rfl) ?_
      refine sy_gf mj_d_125_49 rfl rfl (by decide) rfl th9 ?_
      intro x10 ex10 bx10 tx10
      replace ex10 : x10 = sy_rd h9 234 10 := ex10
      rw [eh9, sg_eq] at ex10
      subst ex10
      exact sy_reti mj_d_125_52 rfl ⟨th9, eh9, rfl, by omega, by omega⟩
    · skip
      rw [if_pos (Decidable.not_not.mp c5)]
      replace c5 := Decidable.not_not.mp c5
      refine sy_ldc (n := -1000000004) mj_d_125_25 rfl (by decide) ?_
      exact sy_reti mj_d_125_27 rfl ⟨hH, rfl, rfl, by omega, by omega⟩
  · skip
    rw [if_pos (Decidable.not_not.mp c3)]
    replace c3 := Decidable.not_not.mp c3
    refine sy_ldc (n := -1000000002) mj_d_125_12 rfl (by decide) ?_
    exact sy_reti mj_d_125_14 rfl ⟨hH, rfl, rfl, by omega, by omega⟩
def dc_R_letterAt (s : sg_S) (a1 : Int) : Int := (if (s 234 10) ≤ a1 then (-1) else (s 238 ((a1).toNat)))
theorem df_R_letterAt_0 (s : sg_S) (a1 : Int) : dc_R_letterAt s a1 = -1 ∨ a1 < (s 234 10) := by
  unfold dc_R_letterAt
  (repeat' split) <;> omega
set_option maxRecDepth 100000 in
theorem dt_R_letterAt {h : mj_H} (hH : sy_H h) {a1 : Int} (b_a1 : 0 ≤ a1) (t_a1 : a1 ≤ 240) : sy_wp (mj_m_129, 0, [(0, .ref 234), (1, sy_i a1)], [], h) (dq1 h (-1) (255) (dc_R_letterAt (sy_rd h) a1)) := by
  unfold dc_R_letterAt
  have n234_10 := hH.bd (a := 234) (k := 10) rfl (by decide) rfl
  refine sy_st (S' := (mj_m_129, 1, [(0, .ref 234), (1, sy_i a1)], [sy_i a1], h)) mj_d_129_0 (fun _ _ => rfl) ?_
  refine sy_st (S' := (mj_m_129, 2, [(0, .ref 234), (1, sy_i a1)], [.ref 234, sy_i a1], h)) mj_d_129_1 (fun _ _ => rfl) ?_
  refine sy_gf mj_d_129_2 rfl rfl (by decide) rfl hH ?_
  intro x1 ex1 bx1 tx1
  replace ex1 : x1 = sy_rd h 234 10 := ex1
  subst ex1
  refine sy_icm mj_d_129_5 rfl ⟨by omega, by omega⟩ ⟨by omega, by omega⟩ (fun (c2 : (sy_rd h 234 10) ≤ a1) => ?_) (fun (c2 : ¬ ((sy_rd h 234 10) ≤ a1)) => ?_)
  · skip
    rw [if_pos c2]
    refine sy_st (S' := (mj_m_129, 18, [(0, .ref 234), (1, sy_i a1)], [sy_i (-1)], h)) mj_d_129_17 (fun _ _ => rfl) ?_
    exact sy_reti mj_d_129_18 rfl ⟨rfl, rfl, by omega, by omega⟩
  · skip
    rw [if_neg c2]
    refine sy_st (S' := (mj_m_129, 9, [(0, .ref 234), (1, sy_i a1)], [.ref 234], h)) mj_d_129_8 (fun _ _ => rfl) ?_
    refine sy_gr2 (b := 238) mj_d_129_9 rfl rfl (by decide) rfl rfl hH ?_
    refine sy_st (S' := (mj_m_129, 13, [(0, .ref 234), (1, sy_i a1)], [sy_i a1, .ref 238], h)) mj_d_129_12 (fun _ _ => rfl) ?_
    refine sy_ia mj_d_129_13 rfl (by decide) (by omega) (by omega) (ab_el_1 rfl _) hH ?_
    rintro _ rfl bx3 tx3
    refine sy_st (S' := (mj_m_129, 18, [(0, .ref 234), (1, sy_i a1)], [sy_i (sy_rd h 238 ((a1).toNat))], h)) mj_d_129_14 (fun _ _ => rfl) ?_
    exact sy_reti mj_d_129_18 rfl ⟨rfl, rfl, by omega, by omega⟩
def dc_R_here_0 (n : Nat) : sg_S → sg_S × Int := Nat.rec (fun (s : sg_S) => (s, 0)) (fun _ ih => fun s => (if (dc_R_letterAt s (s 234 11)) = 32 then (ih (sg_up s 234 11 ((s 234 11) + 1))) else ((sg_up s 234 12 (s 234 11)), (dc_R_letterAt (sg_up s 234 12 (s 234 11)) (s 234 11))))) n
theorem dc_R_here_0_s (n : Nat) (s : sg_S) : dc_R_here_0 (n + 1) s = (if (dc_R_letterAt s (s 234 11)) = 32 then ((dc_R_here_0 n) (sg_up s 234 11 ((s 234 11) + 1))) else ((sg_up s 234 12 (s 234 11)), (dc_R_letterAt (sg_up s 234 12 (s 234 11)) (s 234 11)))) := rfl
def dc_R_here (s : sg_S) : sg_S × Int := (dc_R_here_0 241 s)
def dw_R_here (a k : Nat) : Bool := (a == 234 && k == 12) || (a == 234 && k == 11)
theorem dr_R_here_0 (a k : Nat) (h : dw_R_here a k = false) : ∀ (n : Nat) (s : sg_S), (dc_R_here_0 n s).1 a k = s a k := by
  have h0 := h
  unfold dw_R_here at h
  simp only [Bool.or_eq_false_iff] at h
  obtain ⟨h1, h2⟩ := h
  intro n
  induction n with
  | zero => intro s; rfl
  | succ n ih =>
    intro s
    rw [dc_R_here_0_s]
    (repeat' split) <;> simp only [(fun s z => sg_upf (s := s) (z := z) h1), (fun s z => sg_upf (s := s) (z := z) h2), ih]
theorem dr_R_here (s : sg_S) (a k : Nat) (h : dw_R_here a k = false) : (dc_R_here s).1 a k = s a k := by
  have h0 := h
  unfold dw_R_here at h
  simp only [Bool.or_eq_false_iff] at h
  obtain ⟨h1, h2⟩ := h
  unfold dc_R_here
  (repeat' split) <;> simp only [(fun s z => sg_upf (s := s) (z := z) h1), (fun s z => sg_upf (s := s) (z := z) h2), (dr_R_here_0 a k h0)]
set_option maxRecDepth 100000 in
theorem dt_R_here_0 : ∀ (n : Nat) {h : mj_H} (hH : sy_H h) (hm : 240 - (sy_rd h 234 11) < (n : Int)), sy_wp (mj_m_128, 0, [(0, .ref 234)], [], h) (dq2 (-1) (255) (dc_R_here_0 n (sy_rd h))) := by
  intro n
  induction n with
  | zero =>
    intro h hH   hm
    have n234_10 := hH.bd (a := 234) (k := 10) rfl (by decide) rfl
    have n234_11 := hH.bd (a := 234) (k := 11) rfl (by decide) rfl
    exact absurd hm (by omega)
  | succ n ih =>
    intro h hH   hm
    rw [dc_R_here_0_s]
    have n234_10 := hH.bd (a := 234) (k := 10) rfl (by decide) rfl
    have n234_11 := hH.bd (a := 234) (k := 11) rfl (by decide) rfl
    refine sy_st (S' := (mj_m_128, 1, [(0, .ref 234)], [.ref 234], h)) mj_d_128_0 (fun _ _ => rfl) ?_
    refine sy_st (S' := (mj_m_128, 2, [(0, .ref 234)], [.ref 234, .ref 234], h)) mj_d_128_1 (fun _ _ => rfl) ?_
    refine sy_gf mj_d_128_2 rfl rfl (by decide) rfl hH ?_
    intro x1 ex1 bx1 tx1
    replace ex1 : x1 = sy_rd h 234 11 := ex1
    subst ex1
    refine sy_cv (M' := mj_m_129) (vs := [.ref 234, sy_i (sy_rd h 234 11)]) (rest := []) mj_d_128_5 rfl rfl rfl rfl hH rfl rfl ⟨by decide, ⟨Nat.le_of_ble_eq_true rfl, Nat.le_of_ble_eq_true rfl, Nat.le_of_ble_eq_true rfl, Nat.le_of_ble_eq_true rfl, Nat.le_of_ble_eq_true rfl⟩⟩ (dt_R_letterAt (a1 := (sy_rd h 234 11)) hH (by omega) (by omega)) ?_
    rintro _ _ ⟨rfl, rfl, b2, b2t⟩
    have q3 := df_R_letterAt_0 (sy_rd h) (sy_rd h 234 11)
    show sy_wp (mj_m_128, 8, [(0, .ref 234)], [sy_i (dc_R_letterAt (sy_rd h) (sy_rd h 234 11))], h) _
    refine sy_bip mj_d_128_8 (by decide) ?_
    refine sy_icm mj_d_128_10 rfl ⟨by omega, by omega⟩ ⟨by omega, by omega⟩ (fun (c4 : ¬ ((dc_R_letterAt (sy_rd h) (sy_rd h 234 11)) = 32)) => ?_) (fun (c4 : ¬ ¬ ((dc_R_letterAt (sy_rd h) (sy_rd h 234 11)) = 32)) => ?_)
    · skip
      rw [if_neg c4]
      refine sy_st (S' := (mj_m_128, 27, [(0, .ref 234)], [.ref 234], h)) mj_d_128_26 (fun _ _ => rfl) ?_
      refine sy_st (S' := (mj_m_128, 28, [(0, .ref 234)], [.ref 234, .ref 234], h)) mj_d_128_27 (fun _ _ => rfl) ?_
      refine sy_gf mj_d_128_28 rfl rfl (by decide) rfl hH ?_
      intro x5 ex5 bx5 tx5
      replace ex5 : x5 = sy_rd h 234 11 := ex5
      subst ex5
      refine sg_pf (z := (sy_rd h 234 11)) mj_d_128_31 rfl rfl (by decide) (Or.inl rfl) rfl hH (by omega) (by omega) ⟨by omega, by omega⟩ ?_
      intro h6 th6 eh6
      refine sy_st (S' := (mj_m_128, 35, [(0, .ref 234)], [.ref 234], h6)) mj_d_128_34 (fun _ _ => rfl) ?_
      refine sy_st (S' := (mj_m_128, 36, [(0, .ref 234)], [.ref 234, .ref 234], h6)) mj_d_128_35 (fun _ _ => rfl) ?_
      refine sy_gf mj_d_128_36 rfl rfl (by decide) rfl th6 ?_
      intro x7 ex7 bx7 tx7
      replace ex7 : x7 = sy_rd h6 234 11 := ex7
      rw [eh6, sg_nk (by decide)] at ex7
      subst ex7
      refine sy_cv (M' := mj_m_129) (vs := [.ref 234, sy_i (sy_rd h 234 11)]) (rest := []) mj_d_128_39 rfl rfl rfl rfl th6 rfl rfl ⟨by decide, ⟨Nat.le_of_ble_eq_true rfl, Nat.le_of_ble_eq_true rfl, Nat.le_of_ble_eq_true rfl, Nat.le_of_ble_eq_true rfl, Nat.le_of_ble_eq_true rfl⟩⟩ (dt_R_letterAt (a1 := (sy_rd h 234 11)) th6 (by omega) (by omega)) ?_
      rintro _ _ ⟨rfl, rfl, b8, b8t⟩
      rw [eh6] at b8 b8t ⊢
      have q9 := df_R_letterAt_0 (sg_up (sy_rd h) 234 12 (sy_rd h 234 11)) (sy_rd h 234 11)
      show sy_wp (mj_m_128, 42, [(0, .ref 234)], [sy_i (dc_R_letterAt (sg_up (sy_rd h) 234 12 (sy_rd h 234 11)) (sy_rd h 234 11))], h6) _
      exact sy_reti mj_d_128_42 rfl ⟨th6, eh6, rfl, by omega, by omega⟩
    · skip
      rw [if_pos (Decidable.not_not.mp c4)]
      replace c4 := Decidable.not_not.mp c4
      refine sy_st (S' := (mj_m_128, 14, [(0, .ref 234)], [.ref 234], h)) mj_d_128_13 (fun _ _ => rfl) ?_
      refine sy_st (S' := (mj_m_128, 15, [(0, .ref 234)], [.ref 234, .ref 234], h)) mj_d_128_14 (fun _ _ => rfl) ?_
      refine sy_gf mj_d_128_15 rfl rfl (by decide) rfl hH ?_
      intro x10 ex10 bx10 tx10
      replace ex10 : x10 = sy_rd h 234 11 := ex10
      subst ex10
      refine sy_st (S' := (mj_m_128, 19, [(0, .ref 234)], [sy_i 1, sy_i (sy_rd h 234 11), .ref 234], h)) mj_d_128_18 (fun _ _ => rfl) ?_
      refine sy_add mj_d_128_19 ?_
      refine sg_pf (z := ((sy_rd h 234 11) + 1)) mj_d_128_20 rfl rfl (by decide) (Or.inl rfl) rfl hH (by omega) (by omega) ⟨by omega, by omega⟩ ?_
      intro h11 th11 eh11
      refine sy_st (S' := (mj_m_128, 0, [(0, .ref 234)], [], h11)) mj_d_128_23 (fun _ _ => rfl) ?_
      refine sy_lv (lv := [(0, .ref 234)]) rfl ⟨rfl, trivial⟩ ?_
      rw [← eh11]
      exact ih th11 (by rw [eh11, sg_eq]; omega)
set_option maxRecDepth 100000 in
theorem dt_R_here {h : mj_H} (hH : sy_H h) : sy_wp (mj_m_128, 0, [(0, .ref 234)], [], h) (dq2 (-1) (255) (dc_R_here (sy_rd h))) := by
  unfold dc_R_here
  have n234_10 := hH.bd (a := 234) (k := 10) rfl (by decide) rfl
  have n234_11 := hH.bd (a := 234) (k := 11) rfl (by decide) rfl
  refine sy_lv (lv := [(0, .ref 234)]) rfl ⟨rfl, trivial⟩ ?_
  exact dt_R_here_0 241 hH (by omega)
def dc_R_fails (s : sg_S) (a1 a2 : Int) : sg_S × Int := ((sg_up (sg_up s 234 14 a1) 234 15 a2), 0)
def dw_R_fails (a k : Nat) : Bool := (a == 234 && k == 14) || (a == 234 && k == 15)
theorem dr_R_fails (s : sg_S) (a1 a2 : Int) (a k : Nat) (h : dw_R_fails a k = false) : (dc_R_fails s a1 a2).1 a k = s a k := by
  have h0 := h
  unfold dw_R_fails at h
  simp only [Bool.or_eq_false_iff] at h
  obtain ⟨h1, h2⟩ := h
  unfold dc_R_fails
  (repeat' split) <;> simp only [(fun s z => sg_upf (s := s) (z := z) h1), (fun s z => sg_upf (s := s) (z := z) h2)]
set_option maxRecDepth 100000 in
theorem dt_R_fails {h : mj_H} (hH : sy_H h) {a1 a2 : Int} (b_a1 : 1 ≤ a1) (t_a1 : a1 ≤ 3) (b_a2 : (-2147483648) ≤ a2) (t_a2 : a2 ≤ 2147483647) : sy_wp (mj_m_131, 0, [(0, .ref 234), (1, sy_i a1), (2, sy_i a2)], [], h) (dq2 (0) (0) (dc_R_fails (sy_rd h) a1 a2)) := by
  unfold dc_R_fails
  refine sy_st (S' := (mj_m_131, 1, [(0, .ref 234), (1, sy_i a1), (2, sy_i a2)], [.ref 234], h)) mj_d_131_0 (fun _ _ => rfl) ?_
  refine sy_st (S' := (mj_m_131, 2, [(0, .ref 234), (1, sy_i a1), (2, sy_i a2)], [sy_i a1, .ref 234], h)) mj_d_131_1 (fun _ _ => rfl) ?_
  refine sg_pf (z := a1) mj_d_131_2 rfl rfl (by decide) (Or.inl rfl) rfl hH (by omega) (by omega) ⟨by omega, by omega⟩ ?_
  intro h1 th1 eh1
  refine sy_st (S' := (mj_m_131, 6, [(0, .ref 234), (1, sy_i a1), (2, sy_i a2)], [.ref 234], h1)) mj_d_131_5 (fun _ _ => rfl) ?_
  refine sy_st (S' := (mj_m_131, 7, [(0, .ref 234), (1, sy_i a1), (2, sy_i a2)], [sy_i a2, .ref 234], h1)) mj_d_131_6 (fun _ _ => rfl) ?_
  refine sg_pf (z := a2) mj_d_131_7 rfl rfl (by decide) (Or.inl rfl) rfl th1 (by omega) (by omega) ⟨by omega, by omega⟩ ?_
  intro h2 th2 eh2
  rw [eh1] at eh2
  refine sy_st (S' := (mj_m_131, 11, [(0, .ref 234), (1, sy_i a1), (2, sy_i a2)], [sy_i 0], h2)) mj_d_131_10 (fun _ _ => rfl) ?_
  exact sy_retb mj_d_131_11 rfl ⟨by omega, by omega⟩ ⟨th2, eh2, rfl, by omega, by omega⟩
def dc_R_fault (s : sg_S) : Int := (s 234 15)
set_option maxRecDepth 100000 in
theorem dt_R_fault {h : mj_H} (hH : sy_H h) : sy_wp (mj_m_137, 0, [(0, .ref 234)], [], h) (dq1 h (-2147483648) (2147483647) (dc_R_fault (sy_rd h))) := by
  unfold dc_R_fault
  refine sy_st (S' := (mj_m_137, 1, [(0, .ref 234)], [.ref 234], h)) mj_d_137_0 (fun _ _ => rfl) ?_
  refine sy_gf mj_d_137_1 rfl rfl (by decide) rfl hH ?_
  intro x1 ex1 bx1 tx1
  replace ex1 : x1 = sy_rd h 234 15 := ex1
  subst ex1
  exact sy_reti mj_d_137_4 rfl ⟨rfl, rfl, by omega, by omega⟩
def dc_R_layersOfAll_4 (n : Nat) : sg_S → Int → Int → Int := Nat.rec (fun (s : sg_S) l1 l2 => 0) (fun _ ih => fun s l1 l2 => (if (s 234 6) ≤ l2 then l1 else (ih s (l1 + (s 235 ((20 + l2).toNat))) (l2 + 1)))) n
theorem dc_R_layersOfAll_4_s (n : Nat) (s : sg_S) (l1 l2 : Int) : dc_R_layersOfAll_4 (n + 1) s l1 l2 = (if (s 234 6) ≤ l2 then l1 else ((dc_R_layersOfAll_4 n) s (l1 + (s 235 ((20 + l2).toNat))) (l2 + 1))) := rfl
def dc_R_layersOfAll (s : sg_S) : Int := (dc_R_layersOfAll_4 10 s 0 0)
set_option maxRecDepth 100000 in
theorem dt_R_layersOfAll_4 : ∀ (n : Nat) {h : mj_H} (hH : sy_H h) {l1 l2 : Int} (b_l1 : 0 ≤ l1) (t_l1 : l1 ≤ 72) (b_l2 : 0 ≤ l2) (t_l2 : l2 ≤ 9) (i0 : l1 ≤ 8 * l2) (hm : 9 - l2 < (n : Int)), sy_wp (mj_m_139, 4, [(0, .ref 234), (1, sy_i l1), (2, sy_i l2)], [], h) (dq1 h (0) (72) (dc_R_layersOfAll_4 n (sy_rd h) l1 l2)) := by
  intro n
  induction n with
  | zero =>
    intro h hH l1 l2 b_l1 t_l1 b_l2 t_l2 i0 hm
    exact absurd hm (by omega)
  | succ n ih =>
    intro h hH l1 l2 b_l1 t_l1 b_l2 t_l2 i0 hm
    rw [dc_R_layersOfAll_4_s]
    refine sy_st (S' := (mj_m_139, 5, [(0, .ref 234), (1, sy_i l1), (2, sy_i l2)], [sy_i l2], h)) mj_d_139_4 (fun _ _ => rfl) ?_
    refine sy_st (S' := (mj_m_139, 6, [(0, .ref 234), (1, sy_i l1), (2, sy_i l2)], [.ref 234, sy_i l2], h)) mj_d_139_5 (fun _ _ => rfl) ?_
    refine sy_gf mj_d_139_6 rfl rfl (by decide) rfl hH ?_
    intro x1 ex1 bx1 tx1
    replace ex1 : x1 = sy_rd h 234 6 := ex1
    subst ex1
    refine sy_icm mj_d_139_9 rfl ⟨by omega, by omega⟩ ⟨by omega, by omega⟩ (fun (c2 : (sy_rd h 234 6) ≤ l2) => ?_) (fun (c2 : ¬ ((sy_rd h 234 6) ≤ l2)) => ?_)
    · skip
      rw [if_pos c2]
      refine sy_st (S' := (mj_m_139, 31, [(0, .ref 234), (1, sy_i l1), (2, sy_i l2)], [sy_i l1], h)) mj_d_139_30 (fun _ _ => rfl) ?_
      exact sy_reti mj_d_139_31 rfl ⟨rfl, rfl, by omega, by omega⟩
    · skip
      rw [if_neg c2]
      refine sy_st (S' := (mj_m_139, 13, [(0, .ref 234), (1, sy_i l1), (2, sy_i l2)], [sy_i l1], h)) mj_d_139_12 (fun _ _ => rfl) ?_
      refine sy_st (S' := (mj_m_139, 14, [(0, .ref 234), (1, sy_i l1), (2, sy_i l2)], [.ref 234, sy_i l1], h)) mj_d_139_13 (fun _ _ => rfl) ?_
      refine sy_gr2 (b := 235) mj_d_139_14 rfl rfl (by decide) rfl rfl hH ?_
      refine sy_bip mj_d_139_17 (by decide) ?_
      refine sy_st (S' := (mj_m_139, 20, [(0, .ref 234), (1, sy_i l1), (2, sy_i l2)], [sy_i l2, sy_i 20, .ref 235, sy_i l1], h)) mj_d_139_19 (fun _ _ => rfl) ?_
      refine sy_add mj_d_139_20 ?_
      refine sg_iaN (lo := 0) (hi := 8) 20 29 (by decide) mj_d_139_21 (by omega) (by omega) (by omega) (by omega) hH ?_
      rintro _ rfl bx3 tx3
      refine sy_add mj_d_139_22 ?_
      refine sy_st (S' := (mj_m_139, 24, [(1, sy_i (l1 + (sy_rd h 235 ((20 + l2).toNat)))), (0, .ref 234), (2, sy_i l2)], [], h)) mj_d_139_23 (fun _ _ => rfl) ?_
      refine sy_inc (a := l2) (lv' := [(2, sy_i (l2 + 1)), (1, sy_i (l1 + (sy_rd h 235 ((20 + l2).toNat)))), (0, .ref 234)]) mj_d_139_24 (Nat.le_of_ble_eq_true rfl) rfl rfl ?_
      refine sy_st (S' := (mj_m_139, 4, [(2, sy_i (l2 + 1)), (1, sy_i (l1 + (sy_rd h 235 ((20 + l2).toNat)))), (0, .ref 234)], [], h)) mj_d_139_27 (fun _ _ => rfl) ?_
      refine sy_lv (lv := [(0, .ref 234), (1, sy_i (l1 + (sy_rd h 235 ((20 + l2).toNat)))), (2, sy_i (l2 + 1))]) rfl ⟨rfl, rfl, rfl, trivial⟩ ?_
      exact ih hH (by first | omega | assumption) (by first | omega | assumption) (by first | omega | assumption) (by first | omega | assumption) (by first | omega | assumption) (by omega)
set_option maxRecDepth 100000 in
theorem dt_R_layersOfAll {h : mj_H} (hH : sy_H h) : sy_wp (mj_m_139, 0, [(0, .ref 234)], [], h) (dq1 h (0) (72) (dc_R_layersOfAll (sy_rd h))) := by
  unfold dc_R_layersOfAll
  refine sy_st (S' := (mj_m_139, 1, [(0, .ref 234)], [sy_i 0], h)) mj_d_139_0 (fun _ _ => rfl) ?_
  refine sy_st (S' := (mj_m_139, 2, [(1, sy_i 0), (0, .ref 234)], [], h)) mj_d_139_1 (fun _ _ => rfl) ?_
  refine sy_st (S' := (mj_m_139, 3, [(1, sy_i 0), (0, .ref 234)], [sy_i 0], h)) mj_d_139_2 (fun _ _ => rfl) ?_
  refine sy_st (S' := (mj_m_139, 4, [(2, sy_i 0), (1, sy_i 0), (0, .ref 234)], [], h)) mj_d_139_3 (fun _ _ => rfl) ?_
  refine sy_lv (lv := [(0, .ref 234), (1, sy_i 0), (2, sy_i 0)]) rfl ⟨rfl, rfl, rfl, trivial⟩ ?_
  exact dt_R_layersOfAll_4 10 hH (by first | omega | assumption) (by first | omega | assumption) (by first | omega | assumption) (by first | omega | assumption) (by first | omega | assumption) (by omega)
def dc_R_told (s : sg_S) (a1 : Int) : Int := (if a1 = 0 then (if (s 234 3) = 0 then 0 else 1) else (if a1 = 1 then (s 234 4) else (if a1 = 2 then (s 234 5) else (if a1 = 3 then (s 234 6) else (if a1 = 4 then (s 234 7) else (if a1 = 5 then (s 234 10) else (if a1 = 6 then (s 235 0) else (if a1 = 7 then (dc_R_layersOfAll s) else (if a1 = 8 then (s 235 1) else (if a1 = 9 then (s 234 31) else (if a1 = 10 then (s 234 35) else (if a1 = 11 then (s 234 2) else (-1000000002)))))))))))))
set_option maxRecDepth 100000 in
theorem dt_R_told {h : mj_H} (hH : sy_H h) {a1 : Int} (b_a1 : (-2147483648) ≤ a1) (t_a1 : a1 ≤ 2147483647) : sy_wp (mj_m_138, 0, [(0, .ref 234), (1, sy_i a1)], [], h) (dq1 h (-2147483648) (2147483647) (dc_R_told (sy_rd h) a1)) := by
  unfold dc_R_told
  refine sy_st (S' := (mj_m_138, 1, [(0, .ref 234), (1, sy_i a1)], [sy_i a1], h)) mj_d_138_0 (fun _ _ => rfl) ?_
  by_cases c1 : a1 = 0
  · skip
    rw [if_pos c1]
    refine sy_tbI (a := a1) mj_d_138_1 ⟨by omega, by omega⟩ (by omega) (by omega) (by rw [c1]; rfl) rfl ?_
    refine sy_st (S' := (mj_m_138, 65, [(0, .ref 234), (1, sy_i a1)], [.ref 234], h)) mj_d_138_64 (fun _ _ => rfl) ?_
    refine sy_gf mj_d_138_65 rfl rfl (by decide) rfl hH ?_
    intro x2 ex2 bx2 tx2
    replace ex2 : x2 = sy_rd h 234 3 := ex2
    subst ex2
    refine sy_ifc mj_d_138_68 rfl ⟨by omega, by omega⟩ (fun (c3 : (sy_rd h 234 3) = 0) => ?_) (fun (c3 : ¬ ((sy_rd h 234 3) = 0)) => ?_)
    · skip
      rw [if_pos c3]
      refine sy_st (S' := (mj_m_138, 76, [(0, .ref 234), (1, sy_i a1)], [sy_i 0], h)) mj_d_138_75 (fun _ _ => rfl) ?_
      exact sy_reti mj_d_138_76 rfl ⟨rfl, rfl, by omega, by omega⟩
    · skip
      rw [if_neg c3]
      refine sy_st (S' := (mj_m_138, 72, [(0, .ref 234), (1, sy_i a1)], [sy_i 1], h)) mj_d_138_71 (fun _ _ => rfl) ?_
      refine sy_st (S' := (mj_m_138, 76, [(0, .ref 234), (1, sy_i a1)], [sy_i 1], h)) mj_d_138_72 (fun _ _ => rfl) ?_
      exact sy_reti mj_d_138_76 rfl ⟨rfl, rfl, by omega, by omega⟩
  rw [if_neg c1]
  by_cases c4 : a1 = 1
  · skip
    rw [if_pos c4]
    refine sy_tbI (a := a1) mj_d_138_1 ⟨by omega, by omega⟩ (by omega) (by omega) (by rw [c4]; rfl) rfl ?_
    refine sy_st (S' := (mj_m_138, 78, [(0, .ref 234), (1, sy_i a1)], [.ref 234], h)) mj_d_138_77 (fun _ _ => rfl) ?_
    refine sy_gf mj_d_138_78 rfl rfl (by decide) rfl hH ?_
    intro x5 ex5 bx5 tx5
    replace ex5 : x5 = sy_rd h 234 4 := ex5
    subst ex5
    exact sy_reti mj_d_138_81 rfl ⟨rfl, rfl, by omega, by omega⟩
  rw [if_neg c4]
  by_cases c6 : a1 = 2
  · skip
    rw [if_pos c6]
    refine sy_tbI (a := a1) mj_d_138_1 ⟨by omega, by omega⟩ (by omega) (by omega) (by rw [c6]; rfl) rfl ?_
    refine sy_st (S' := (mj_m_138, 83, [(0, .ref 234), (1, sy_i a1)], [.ref 234], h)) mj_d_138_82 (fun _ _ => rfl) ?_
    refine sy_gf mj_d_138_83 rfl rfl (by decide) rfl hH ?_
    intro x7 ex7 bx7 tx7
    replace ex7 : x7 = sy_rd h 234 5 := ex7
    subst ex7
    exact sy_reti mj_d_138_86 rfl ⟨rfl, rfl, by omega, by omega⟩
  rw [if_neg c6]
  by_cases c8 : a1 = 3
  · skip
    rw [if_pos c8]
    refine sy_tbI (a := a1) mj_d_138_1 ⟨by omega, by omega⟩ (by omega) (by omega) (by rw [c8]; rfl) rfl ?_
    refine sy_st (S' := (mj_m_138, 88, [(0, .ref 234), (1, sy_i a1)], [.ref 234], h)) mj_d_138_87 (fun _ _ => rfl) ?_
    refine sy_gf mj_d_138_88 rfl rfl (by decide) rfl hH ?_
    intro x9 ex9 bx9 tx9
    replace ex9 : x9 = sy_rd h 234 6 := ex9
    subst ex9
    exact sy_reti mj_d_138_91 rfl ⟨rfl, rfl, by omega, by omega⟩
  rw [if_neg c8]
  by_cases c10 : a1 = 4
  · skip
    rw [if_pos c10]
    refine sy_tbI (a := a1) mj_d_138_1 ⟨by omega, by omega⟩ (by omega) (by omega) (by rw [c10]; rfl) rfl ?_
    refine sy_st (S' := (mj_m_138, 93, [(0, .ref 234), (1, sy_i a1)], [.ref 234], h)) mj_d_138_92 (fun _ _ => rfl) ?_
    refine sy_gf mj_d_138_93 rfl rfl (by decide) rfl hH ?_
    intro x11 ex11 bx11 tx11
    replace ex11 : x11 = sy_rd h 234 7 := ex11
    subst ex11
    exact sy_reti mj_d_138_96 rfl ⟨rfl, rfl, by omega, by omega⟩
  rw [if_neg c10]
  by_cases c12 : a1 = 5
  · skip
    rw [if_pos c12]
    refine sy_tbI (a := a1) mj_d_138_1 ⟨by omega, by omega⟩ (by omega) (by omega) (by rw [c12]; rfl) rfl ?_
    refine sy_st (S' := (mj_m_138, 98, [(0, .ref 234), (1, sy_i a1)], [.ref 234], h)) mj_d_138_97 (fun _ _ => rfl) ?_
    refine sy_gf mj_d_138_98 rfl rfl (by decide) rfl hH ?_
    intro x13 ex13 bx13 tx13
    replace ex13 : x13 = sy_rd h 234 10 := ex13
    subst ex13
    exact sy_reti mj_d_138_101 rfl ⟨rfl, rfl, by omega, by omega⟩
  rw [if_neg c12]
  by_cases c14 : a1 = 6
  · skip
    rw [if_pos c14]
    refine sy_tbI (a := a1) mj_d_138_1 ⟨by omega, by omega⟩ (by omega) (by omega) (by rw [c14]; rfl) rfl ?_
    refine sy_st (S' := (mj_m_138, 103, [(0, .ref 234), (1, sy_i a1)], [.ref 234], h)) mj_d_138_102 (fun _ _ => rfl) ?_
    refine sy_gr2 (b := 235) mj_d_138_103 rfl rfl (by decide) rfl rfl hH ?_
    refine sy_st (S' := (mj_m_138, 107, [(0, .ref 234), (1, sy_i a1)], [sy_i 0, .ref 235], h)) mj_d_138_106 (fun _ _ => rfl) ?_
    refine sg_iaT mj_d_138_107 (by omega) (by omega) hH ?_
    intro x15 ex15 bx15 tx15
    replace ex15 : x15 = sy_rd h 235 0 := ex15
    subst ex15
    exact sy_reti mj_d_138_108 rfl ⟨rfl, rfl, by omega, by omega⟩
  rw [if_neg c14]
  by_cases c16 : a1 = 7
  · skip
    rw [if_pos c16]
    refine sy_tbI (a := a1) mj_d_138_1 ⟨by omega, by omega⟩ (by omega) (by omega) (by rw [c16]; rfl) rfl ?_
    refine sy_st (S' := (mj_m_138, 110, [(0, .ref 234), (1, sy_i a1)], [.ref 234], h)) mj_d_138_109 (fun _ _ => rfl) ?_
    refine sy_cv (M' := mj_m_139) (vs := [.ref 234]) (rest := []) mj_d_138_110 rfl rfl rfl rfl hH rfl rfl ⟨by decide, ⟨Nat.le_of_ble_eq_true rfl, Nat.le_of_ble_eq_true rfl, Nat.le_of_ble_eq_true rfl, Nat.le_of_ble_eq_true rfl, Nat.le_of_ble_eq_true rfl⟩⟩ (dt_R_layersOfAll hH) ?_
    rintro _ _ ⟨rfl, rfl, b17, b17t⟩
    show sy_wp (mj_m_138, 113, [(0, .ref 234), (1, sy_i a1)], [sy_i (dc_R_layersOfAll (sy_rd h))], h) _
    exact sy_reti mj_d_138_113 rfl ⟨rfl, rfl, by omega, by omega⟩
  rw [if_neg c16]
  by_cases c18 : a1 = 8
  · skip
    rw [if_pos c18]
    refine sy_tbI (a := a1) mj_d_138_1 ⟨by omega, by omega⟩ (by omega) (by omega) (by rw [c18]; rfl) rfl ?_
    refine sy_st (S' := (mj_m_138, 115, [(0, .ref 234), (1, sy_i a1)], [.ref 234], h)) mj_d_138_114 (fun _ _ => rfl) ?_
    refine sy_gr2 (b := 235) mj_d_138_115 rfl rfl (by decide) rfl rfl hH ?_
    refine sy_st (S' := (mj_m_138, 119, [(0, .ref 234), (1, sy_i a1)], [sy_i 1, .ref 235], h)) mj_d_138_118 (fun _ _ => rfl) ?_
    refine sg_iaT mj_d_138_119 (by omega) (by omega) hH ?_
    intro x19 ex19 bx19 tx19
    replace ex19 : x19 = sy_rd h 235 1 := ex19
    subst ex19
    exact sy_reti mj_d_138_120 rfl ⟨rfl, rfl, by omega, by omega⟩
  rw [if_neg c18]
  by_cases c20 : a1 = 9
  · skip
    rw [if_pos c20]
    refine sy_tbI (a := a1) mj_d_138_1 ⟨by omega, by omega⟩ (by omega) (by omega) (by rw [c20]; rfl) rfl ?_
    refine sy_st (S' := (mj_m_138, 122, [(0, .ref 234), (1, sy_i a1)], [.ref 234], h)) mj_d_138_121 (fun _ _ => rfl) ?_
    refine sy_gf mj_d_138_122 rfl rfl (by decide) rfl hH ?_
    intro x21 ex21 bx21 tx21
    replace ex21 : x21 = sy_rd h 234 31 := ex21
    subst ex21
    exact sy_reti mj_d_138_125 rfl ⟨rfl, rfl, by omega, by omega⟩
  rw [if_neg c20]
  by_cases c22 : a1 = 10
  · skip
    rw [if_pos c22]
    refine sy_tbI (a := a1) mj_d_138_1 ⟨by omega, by omega⟩ (by omega) (by omega) (by rw [c22]; rfl) rfl ?_
    refine sy_st (S' := (mj_m_138, 127, [(0, .ref 234), (1, sy_i a1)], [.ref 234], h)) mj_d_138_126 (fun _ _ => rfl) ?_
    refine sy_gf mj_d_138_127 rfl rfl (by decide) rfl hH ?_
    intro x23 ex23 bx23 tx23
    replace ex23 : x23 = sy_rd h 234 35 := ex23
    subst ex23
    exact sy_reti mj_d_138_130 rfl ⟨rfl, rfl, by omega, by omega⟩
  rw [if_neg c22]
  by_cases c24 : a1 = 11
  · skip
    rw [if_pos c24]
    refine sy_tbI (a := a1) mj_d_138_1 ⟨by omega, by omega⟩ (by omega) (by omega) (by rw [c24]; rfl) rfl ?_
    refine sy_st (S' := (mj_m_138, 132, [(0, .ref 234), (1, sy_i a1)], [.ref 234], h)) mj_d_138_131 (fun _ _ => rfl) ?_
    refine sy_gf mj_d_138_132 rfl rfl (by decide) rfl hH ?_
    intro x25 ex25 bx25 tx25
    replace ex25 : x25 = sy_rd h 234 2 := ex25
    subst ex25
    exact sy_reti mj_d_138_135 rfl ⟨rfl, rfl, by omega, by omega⟩
  rw [if_neg c24]
  refine sy_tbO (a := a1) mj_d_138_1 rfl ⟨by omega, by omega⟩ (by omega) ?_
  refine sy_ldc (n := -1000000002) mj_d_138_136 rfl (by decide) ?_
  exact sy_reti mj_d_138_138 rfl ⟨rfl, rfl, by omega, by omega⟩
def dc_R_layerAt (s : sg_S) (a1 a2 a3 : Int) : Int := (if (s 235 (((a1 + 20) + a2).toNat)) ≤ a3 then 0 else (s 235 ((((a1 + 29) + (8 * a2)) + a3).toNat)))
set_option maxRecDepth 100000 in
theorem dt_R_layerAt {h : mj_H} (hH : sy_H h) {a1 a2 a3 : Int} (b_a1 : 0 ≤ a1) (t_a1 : a1 ≤ 112) (b_a2 : 0 ≤ a2) (t_a2 : a2 ≤ 8) (b_a3 : 0 ≤ a3) (t_a3 : a3 ≤ 7) (i0 : a1 % 112 = 0) : sy_wp (mj_m_144, 0, [(0, .ref 234), (1, sy_i a1), (2, sy_i a2), (3, sy_i a3)], [], h) (dq1 h (0) (7) (dc_R_layerAt (sy_rd h) a1 a2 a3)) := by
  unfold dc_R_layerAt
  refine sy_st (S' := (mj_m_144, 1, [(0, .ref 234), (1, sy_i a1), (2, sy_i a2), (3, sy_i a3)], [sy_i a3], h)) mj_d_144_0 (fun _ _ => rfl) ?_
  refine sy_st (S' := (mj_m_144, 2, [(0, .ref 234), (1, sy_i a1), (2, sy_i a2), (3, sy_i a3)], [.ref 234, sy_i a3], h)) mj_d_144_1 (fun _ _ => rfl) ?_
  refine sy_gr2 (b := 235) mj_d_144_2 rfl rfl (by decide) rfl rfl hH ?_
  refine sy_st (S' := (mj_m_144, 6, [(0, .ref 234), (1, sy_i a1), (2, sy_i a2), (3, sy_i a3)], [sy_i a1, .ref 235, sy_i a3], h)) mj_d_144_5 (fun _ _ => rfl) ?_
  refine sy_bip mj_d_144_6 (by decide) ?_
  refine sy_add mj_d_144_8 ?_
  refine sy_st (S' := (mj_m_144, 10, [(0, .ref 234), (1, sy_i a1), (2, sy_i a2), (3, sy_i a3)], [sy_i a2, sy_i (a1 + 20), .ref 235, sy_i a3], h)) mj_d_144_9 (fun _ _ => rfl) ?_
  refine sy_add mj_d_144_10 ?_
  refine sg_iaN (lo := 0) (hi := 8) 20 29 (by decide) mj_d_144_11 (by omega) (by omega) (by omega) (by omega) hH ?_
  rintro _ rfl bx1 tx1
  refine sy_icm mj_d_144_12 rfl ⟨by omega, by omega⟩ ⟨by omega, by omega⟩ (fun (c2 : (sy_rd h 235 (((a1 + 20) + a2).toNat)) ≤ a3) => ?_) (fun (c2 : ¬ ((sy_rd h 235 (((a1 + 20) + a2).toNat)) ≤ a3)) => ?_)
  · skip
    rw [if_pos c2]
    refine sy_st (S' := (mj_m_144, 35, [(0, .ref 234), (1, sy_i a1), (2, sy_i a2), (3, sy_i a3)], [sy_i 0], h)) mj_d_144_34 (fun _ _ => rfl) ?_
    exact sy_reti mj_d_144_35 rfl ⟨rfl, rfl, by omega, by omega⟩
  · skip
    rw [if_neg c2]
    refine sy_st (S' := (mj_m_144, 16, [(0, .ref 234), (1, sy_i a1), (2, sy_i a2), (3, sy_i a3)], [.ref 234], h)) mj_d_144_15 (fun _ _ => rfl) ?_
    refine sy_gr2 (b := 235) mj_d_144_16 rfl rfl (by decide) rfl rfl hH ?_
    refine sy_st (S' := (mj_m_144, 20, [(0, .ref 234), (1, sy_i a1), (2, sy_i a2), (3, sy_i a3)], [sy_i a1, .ref 235], h)) mj_d_144_19 (fun _ _ => rfl) ?_
    refine sy_bip mj_d_144_20 (by decide) ?_
    refine sy_add mj_d_144_22 ?_
    refine sy_bip mj_d_144_23 (by decide) ?_
    refine sy_st (S' := (mj_m_144, 26, [(0, .ref 234), (1, sy_i a1), (2, sy_i a2), (3, sy_i a3)], [sy_i a2, sy_i 8, sy_i (a1 + 29), .ref 235], h)) mj_d_144_25 (fun _ _ => rfl) ?_
    refine sy_mul mj_d_144_26 ?_
    refine sy_add mj_d_144_27 ?_
    refine sy_st (S' := (mj_m_144, 29, [(0, .ref 234), (1, sy_i a1), (2, sy_i a2), (3, sy_i a3)], [sy_i a3, sy_i ((a1 + 29) + (8 * a2)), .ref 235], h)) mj_d_144_28 (fun _ _ => rfl) ?_
    refine sy_add mj_d_144_29 ?_
    refine sg_iaN (lo := 0) (hi := 7) 29 101 (by decide) mj_d_144_30 (by omega) (by omega) (by omega) (by omega) hH ?_
    rintro _ rfl bx3 tx3
    refine sy_st (S' := (mj_m_144, 35, [(0, .ref 234), (1, sy_i a1), (2, sy_i a2), (3, sy_i a3)], [sy_i (sy_rd h 235 ((((a1 + 29) + (8 * a2)) + a3).toNat))], h)) mj_d_144_31 (fun _ _ => rfl) ?_
    exact sy_reti mj_d_144_35 rfl ⟨rfl, rfl, by omega, by omega⟩
def dc_R_newestOf (s : sg_S) (a1 : Int) : Int := (if (s 235 ((20 + a1).toNat)) = 0 then 0 else (s 235 ((((29 + (8 * a1)) + (s 235 ((20 + a1).toNat))) - 1).toNat)))
set_option maxRecDepth 100000 in
theorem dt_R_newestOf {h : mj_H} (hH : sy_H h) {a1 : Int} (b_a1 : 0 ≤ a1) (t_a1 : a1 ≤ 8) : sy_wp (mj_m_142, 0, [(0, .ref 234), (1, sy_i a1)], [], h) (dq1 h (0) (7) (dc_R_newestOf (sy_rd h) a1)) := by
  unfold dc_R_newestOf
  refine sy_st (S' := (mj_m_142, 1, [(0, .ref 234), (1, sy_i a1)], [.ref 234], h)) mj_d_142_0 (fun _ _ => rfl) ?_
  refine sy_gr2 (b := 235) mj_d_142_1 rfl rfl (by decide) rfl rfl hH ?_
  refine sy_bip mj_d_142_4 (by decide) ?_
  refine sy_st (S' := (mj_m_142, 7, [(0, .ref 234), (1, sy_i a1)], [sy_i a1, sy_i 20, .ref 235], h)) mj_d_142_6 (fun _ _ => rfl) ?_
  refine sy_add mj_d_142_7 ?_
  refine sg_iaN (lo := 0) (hi := 8) 20 29 (by decide) mj_d_142_8 (by omega) (by omega) (by omega) (by omega) hH ?_
  rintro _ rfl bx1 tx1
  refine sy_ifc mj_d_142_9 rfl ⟨by omega, by omega⟩ (fun (c2 : ¬ ((sy_rd h 235 ((20 + a1).toNat)) = 0)) => ?_) (fun (c2 : ¬ ¬ ((sy_rd h 235 ((20 + a1).toNat)) = 0)) => ?_)
  · skip
    rw [if_neg c2]
    refine sy_st (S' := (mj_m_142, 17, [(0, .ref 234), (1, sy_i a1)], [.ref 234], h)) mj_d_142_16 (fun _ _ => rfl) ?_
    refine sy_gr2 (b := 235) mj_d_142_17 rfl rfl (by decide) rfl rfl hH ?_
    refine sy_bip mj_d_142_20 (by decide) ?_
    refine sy_bip mj_d_142_22 (by decide) ?_
    refine sy_st (S' := (mj_m_142, 25, [(0, .ref 234), (1, sy_i a1)], [sy_i a1, sy_i 8, sy_i 29, .ref 235], h)) mj_d_142_24 (fun _ _ => rfl) ?_
    refine sy_mul mj_d_142_25 ?_
    refine sy_add mj_d_142_26 ?_
    refine sy_st (S' := (mj_m_142, 28, [(0, .ref 234), (1, sy_i a1)], [.ref 234, sy_i (29 + (8 * a1)), .ref 235], h)) mj_d_142_27 (fun _ _ => rfl) ?_
    refine sy_gr2 (b := 235) mj_d_142_28 rfl rfl (by decide) rfl rfl hH ?_
    refine sy_bip mj_d_142_31 (by decide) ?_
    refine sy_st (S' := (mj_m_142, 34, [(0, .ref 234), (1, sy_i a1)], [sy_i a1, sy_i 20, .ref 235, sy_i (29 + (8 * a1)), .ref 235], h)) mj_d_142_33 (fun _ _ => rfl) ?_
    refine sy_add mj_d_142_34 ?_
    refine sg_iaN (lo := 0) (hi := 8) 20 29 (by decide) mj_d_142_35 (by omega) (by omega) (by omega) (by omega) hH ?_
    rintro _ rfl bx3 tx3
    refine sy_add mj_d_142_36 ?_
    refine sy_st (S' := (mj_m_142, 38, [(0, .ref 234), (1, sy_i a1)], [sy_i 1, sy_i ((29 + (8 * a1)) + (sy_rd h 235 ((20 + a1).toNat))), .ref 235], h)) mj_d_142_37 (fun _ _ => rfl) ?_
    refine sy_sub mj_d_142_38 ?_
    refine sg_iaN (lo := 0) (hi := 7) 29 101 (by decide) mj_d_142_39 (by omega) (by omega) (by omega) (by omega) hH ?_
    rintro _ rfl bx4 tx4
    exact sy_reti mj_d_142_40 rfl ⟨rfl, rfl, by omega, by omega⟩
  · skip
    rw [if_pos (Decidable.not_not.mp c2)]
    replace c2 := Decidable.not_not.mp c2
    refine sy_st (S' := (mj_m_142, 13, [(0, .ref 234), (1, sy_i a1)], [sy_i 0], h)) mj_d_142_12 (fun _ _ => rfl) ?_
    refine sy_st (S' := (mj_m_142, 40, [(0, .ref 234), (1, sy_i a1)], [sy_i 0], h)) mj_d_142_13 (fun _ _ => rfl) ?_
    exact sy_reti mj_d_142_40 rfl ⟨rfl, rfl, by omega, by omega⟩
def dc_R_house (s : sg_S) (a1 a2 : Int) : Int := (if (dc_R_isHouse s a1) = 0 then (-1000000001) else (if a2 = 0 then (s 235 ((2 + a1).toNat)) else (if a2 = 1 then (s 235 ((11 + a1).toNat)) else (if a2 = 2 then (s 235 ((20 + a1).toNat)) else (if a2 = 3 then (dc_R_newestOf s a1) else (-1000000002))))))
set_option maxRecDepth 100000 in
theorem dt_R_house {h : mj_H} (hH : sy_H h) {a1 a2 : Int} (b_a1 : (-2147483648) ≤ a1) (t_a1 : a1 ≤ 2147483647) (b_a2 : (-2147483648) ≤ a2) (t_a2 : a2 ≤ 2147483647) : sy_wp (mj_m_140, 0, [(0, .ref 234), (1, sy_i a1), (2, sy_i a2)], [], h) (dq1 h (-2147483648) (2147483647) (dc_R_house (sy_rd h) a1 a2)) := by
  unfold dc_R_house
  have n234_6 := hH.bd (a := 234) (k := 6) rfl (by decide) rfl
  refine sy_st (S' := (mj_m_140, 1, [(0, .ref 234), (1, sy_i a1), (2, sy_i a2)], [.ref 234], h)) mj_d_140_0 (fun _ _ => rfl) ?_
  refine sy_st (S' := (mj_m_140, 2, [(0, .ref 234), (1, sy_i a1), (2, sy_i a2)], [sy_i a1, .ref 234], h)) mj_d_140_1 (fun _ _ => rfl) ?_
  refine sy_cv (M' := mj_m_141) (vs := [.ref 234, sy_i a1]) (rest := []) mj_d_140_2 rfl rfl rfl rfl hH rfl rfl ⟨by decide, ⟨Nat.le_of_ble_eq_true rfl, Nat.le_of_ble_eq_true rfl, Nat.le_of_ble_eq_true rfl, Nat.le_of_ble_eq_true rfl, Nat.le_of_ble_eq_true rfl⟩⟩ (dt_R_isHouse (a1 := a1) hH (by omega) (by omega)) ?_
  rintro _ _ ⟨rfl, rfl, b1, b1t⟩
  have q2 := df_R_isHouse_0 (sy_rd h) a1
  show sy_wp (mj_m_140, 5, [(0, .ref 234), (1, sy_i a1), (2, sy_i a2)], [sy_i (dc_R_isHouse (sy_rd h) a1)], h) _
  refine sy_ifc mj_d_140_5 rfl ⟨by omega, by omega⟩ (fun (c3 : ¬ ((dc_R_isHouse (sy_rd h) a1) = 0)) => ?_) (fun (c3 : ¬ ¬ ((dc_R_isHouse (sy_rd h) a1) = 0)) => ?_)
  · skip
    rw [if_neg c3]
    refine sy_st (S' := (mj_m_140, 12, [(0, .ref 234), (1, sy_i a1), (2, sy_i a2)], [sy_i a2], h)) mj_d_140_11 (fun _ _ => rfl) ?_
    by_cases c4 : a2 = 0
    · skip
      rw [if_pos c4]
      refine sy_tbI (a := a2) mj_d_140_12 ⟨by omega, by omega⟩ (by omega) (by omega) (by rw [c4]; rfl) rfl ?_
      refine sy_st (S' := (mj_m_140, 45, [(0, .ref 234), (1, sy_i a1), (2, sy_i a2)], [.ref 234], h)) mj_d_140_44 (fun _ _ => rfl) ?_
      refine sy_gr2 (b := 235) mj_d_140_45 rfl rfl (by decide) rfl rfl hH ?_
      refine sy_st (S' := (mj_m_140, 49, [(0, .ref 234), (1, sy_i a1), (2, sy_i a2)], [sy_i 2, .ref 235], h)) mj_d_140_48 (fun _ _ => rfl) ?_
      refine sy_st (S' := (mj_m_140, 50, [(0, .ref 234), (1, sy_i a1), (2, sy_i a2)], [sy_i a1, sy_i 2, .ref 235], h)) mj_d_140_49 (fun _ _ => rfl) ?_
      refine sy_add mj_d_140_50 ?_
      refine sg_iaN (lo := 0) (hi := 7) 2 11 (by decide) mj_d_140_51 (by omega) (by omega) (by omega) (by omega) hH ?_
      rintro _ rfl bx5 tx5
      exact sy_reti mj_d_140_52 rfl ⟨rfl, rfl, by omega, by omega⟩
    rw [if_neg c4]
    by_cases c6 : a2 = 1
    · skip
      rw [if_pos c6]
      refine sy_tbI (a := a2) mj_d_140_12 ⟨by omega, by omega⟩ (by omega) (by omega) (by rw [c6]; rfl) rfl ?_
      refine sy_st (S' := (mj_m_140, 54, [(0, .ref 234), (1, sy_i a1), (2, sy_i a2)], [.ref 234], h)) mj_d_140_53 (fun _ _ => rfl) ?_
      refine sy_gr2 (b := 235) mj_d_140_54 rfl rfl (by decide) rfl rfl hH ?_
      refine sy_bip mj_d_140_57 (by decide) ?_
      refine sy_st (S' := (mj_m_140, 60, [(0, .ref 234), (1, sy_i a1), (2, sy_i a2)], [sy_i a1, sy_i 11, .ref 235], h)) mj_d_140_59 (fun _ _ => rfl) ?_
      refine sy_add mj_d_140_60 ?_
      refine sg_iaR mj_d_140_61 (by omega) (by omega) (by omega) (by omega) hH ?_
      rintro _ rfl bx7 tx7
      exact sy_reti mj_d_140_62 rfl ⟨rfl, rfl, by omega, by omega⟩
    rw [if_neg c6]
    by_cases c8 : a2 = 2
    · skip
      rw [if_pos c8]
      refine sy_tbI (a := a2) mj_d_140_12 ⟨by omega, by omega⟩ (by omega) (by omega) (by rw [c8]; rfl) rfl ?_
      refine sy_st (S' := (mj_m_140, 64, [(0, .ref 234), (1, sy_i a1), (2, sy_i a2)], [.ref 234], h)) mj_d_140_63 (fun _ _ => rfl) ?_
      refine sy_gr2 (b := 235) mj_d_140_64 rfl rfl (by decide) rfl rfl hH ?_
      refine sy_bip mj_d_140_67 (by decide) ?_
      refine sy_st (S' := (mj_m_140, 70, [(0, .ref 234), (1, sy_i a1), (2, sy_i a2)], [sy_i a1, sy_i 20, .ref 235], h)) mj_d_140_69 (fun _ _ => rfl) ?_
      refine sy_add mj_d_140_70 ?_
      refine sg_iaN (lo := 0) (hi := 8) 20 29 (by decide) mj_d_140_71 (by omega) (by omega) (by omega) (by omega) hH ?_
      rintro _ rfl bx9 tx9
      exact sy_reti mj_d_140_72 rfl ⟨rfl, rfl, by omega, by omega⟩
    rw [if_neg c8]
    by_cases c10 : a2 = 3
    · skip
      rw [if_pos c10]
      refine sy_tbI (a := a2) mj_d_140_12 ⟨by omega, by omega⟩ (by omega) (by omega) (by rw [c10]; rfl) rfl ?_
      refine sy_st (S' := (mj_m_140, 74, [(0, .ref 234), (1, sy_i a1), (2, sy_i a2)], [.ref 234], h)) mj_d_140_73 (fun _ _ => rfl) ?_
      refine sy_st (S' := (mj_m_140, 75, [(0, .ref 234), (1, sy_i a1), (2, sy_i a2)], [sy_i a1, .ref 234], h)) mj_d_140_74 (fun _ _ => rfl) ?_
      refine sy_cv (M' := mj_m_142) (vs := [.ref 234, sy_i a1]) (rest := []) mj_d_140_75 rfl rfl rfl rfl hH rfl rfl ⟨by decide, ⟨Nat.le_of_ble_eq_true rfl, Nat.le_of_ble_eq_true rfl, Nat.le_of_ble_eq_true rfl, Nat.le_of_ble_eq_true rfl, Nat.le_of_ble_eq_true rfl⟩⟩ (dt_R_newestOf (a1 := a1) hH (by omega) (by omega)) ?_
      rintro _ _ ⟨rfl, rfl, b11, b11t⟩
      show sy_wp (mj_m_140, 78, [(0, .ref 234), (1, sy_i a1), (2, sy_i a2)], [sy_i (dc_R_newestOf (sy_rd h) a1)], h) _
      exact sy_reti mj_d_140_78 rfl ⟨rfl, rfl, by omega, by omega⟩
    rw [if_neg c10]
    refine sy_tbO (a := a2) mj_d_140_12 rfl ⟨by omega, by omega⟩ (by omega) ?_
    refine sy_ldc (n := -1000000002) mj_d_140_79 rfl (by decide) ?_
    exact sy_reti mj_d_140_81 rfl ⟨rfl, rfl, by omega, by omega⟩
  · skip
    rw [if_pos (Decidable.not_not.mp c3)]
    replace c3 := Decidable.not_not.mp c3
    refine sy_ldc (n := -1000000001) mj_d_140_8 rfl (by decide) ?_
    exact sy_reti mj_d_140_10 rfl ⟨rfl, rfl, by omega, by omega⟩
def dc_R_layer (s : sg_S) (a1 a2 : Int) : Int := (if (dc_R_isHouse s a1) = 0 then (-1000000001) else (if (dc_R_in s a2 0 7) = 0 then (-1000000002) else (dc_R_layerAt s 0 a1 a2)))
set_option maxRecDepth 100000 in
theorem dt_R_layer {h : mj_H} (hH : sy_H h) {a1 a2 : Int} (b_a1 : (-2147483648) ≤ a1) (t_a1 : a1 ≤ 2147483647) (b_a2 : (-2147483648) ≤ a2) (t_a2 : a2 ≤ 2147483647) : sy_wp (mj_m_143, 0, [(0, .ref 234), (1, sy_i a1), (2, sy_i a2)], [], h) (dq1 h (-2147483648) (2147483647) (dc_R_layer (sy_rd h) a1 a2)) := by
  unfold dc_R_layer
  have n234_6 := hH.bd (a := 234) (k := 6) rfl (by decide) rfl
  refine sy_st (S' := (mj_m_143, 1, [(0, .ref 234), (1, sy_i a1), (2, sy_i a2)], [.ref 234], h)) mj_d_143_0 (fun _ _ => rfl) ?_
  refine sy_st (S' := (mj_m_143, 2, [(0, .ref 234), (1, sy_i a1), (2, sy_i a2)], [sy_i a1, .ref 234], h)) mj_d_143_1 (fun _ _ => rfl) ?_
  refine sy_cv (M' := mj_m_141) (vs := [.ref 234, sy_i a1]) (rest := []) mj_d_143_2 rfl rfl rfl rfl hH rfl rfl ⟨by decide, ⟨Nat.le_of_ble_eq_true rfl, Nat.le_of_ble_eq_true rfl, Nat.le_of_ble_eq_true rfl, Nat.le_of_ble_eq_true rfl, Nat.le_of_ble_eq_true rfl⟩⟩ (dt_R_isHouse (a1 := a1) hH (by omega) (by omega)) ?_
  rintro _ _ ⟨rfl, rfl, b1, b1t⟩
  have q2 := df_R_isHouse_0 (sy_rd h) a1
  show sy_wp (mj_m_143, 5, [(0, .ref 234), (1, sy_i a1), (2, sy_i a2)], [sy_i (dc_R_isHouse (sy_rd h) a1)], h) _
  refine sy_ifc mj_d_143_5 rfl ⟨by omega, by omega⟩ (fun (c3 : ¬ ((dc_R_isHouse (sy_rd h) a1) = 0)) => ?_) (fun (c3 : ¬ ¬ ((dc_R_isHouse (sy_rd h) a1) = 0)) => ?_)
  · skip
    rw [if_neg c3]
    refine sy_st (S' := (mj_m_143, 12, [(0, .ref 234), (1, sy_i a1), (2, sy_i a2)], [sy_i a2], h)) mj_d_143_11 (fun _ _ => rfl) ?_
    refine sy_i2l mj_d_143_12 ⟨by omega, by omega⟩ ?_
    refine sy_st (S' := (mj_m_143, 14, [(0, .ref 234), (1, sy_i a1), (2, sy_i a2)], [sy_l 0, sy_l a2], h)) mj_d_143_13 (fun _ _ => rfl) ?_
    refine sy_ldc2 (n := 7) mj_d_143_14 rfl (by decide) ?_
    refine sy_cs (M' := mj_m_126) (vs := [sy_l a2, sy_l 0, sy_l 7]) (rest := []) mj_d_143_17 rfl rfl rfl rfl ⟨Nat.le_of_ble_eq_true rfl, Nat.le_of_ble_eq_true rfl, Nat.le_of_ble_eq_true rfl, Nat.le_of_ble_eq_true rfl, Nat.le_of_ble_eq_true rfl⟩ (dt_R_in (a0 := a2) (a1 := 0) (a2 := 7) hH (by omega) (by omega) (by omega) (by omega) (by omega) (by omega)) ?_
    rintro _ _ ⟨rfl, rfl, b4, b4t⟩
    have q5 := df_R_in_0 (sy_rd h) a2 0 7
    show sy_wp (mj_m_143, 20, [(0, .ref 234), (1, sy_i a1), (2, sy_i a2)], [sy_i (dc_R_in (sy_rd h) a2 0 7)], h) _
    refine sy_ifc mj_d_143_20 rfl ⟨by omega, by omega⟩ (fun (c6 : (dc_R_in (sy_rd h) a2 0 7) = 0) => ?_) (fun (c6 : ¬ ((dc_R_in (sy_rd h) a2 0 7) = 0)) => ?_)
    · skip
      rw [if_pos c6]
      refine sy_ldc (n := -1000000002) mj_d_143_33 rfl (by decide) ?_
      exact sy_reti mj_d_143_35 rfl ⟨rfl, rfl, by omega, by omega⟩
    · skip
      rw [if_neg c6]
      refine sy_st (S' := (mj_m_143, 24, [(0, .ref 234), (1, sy_i a1), (2, sy_i a2)], [.ref 234], h)) mj_d_143_23 (fun _ _ => rfl) ?_
      refine sy_st (S' := (mj_m_143, 25, [(0, .ref 234), (1, sy_i a1), (2, sy_i a2)], [sy_i 0, .ref 234], h)) mj_d_143_24 (fun _ _ => rfl) ?_
      refine sy_st (S' := (mj_m_143, 26, [(0, .ref 234), (1, sy_i a1), (2, sy_i a2)], [sy_i a1, sy_i 0, .ref 234], h)) mj_d_143_25 (fun _ _ => rfl) ?_
      refine sy_st (S' := (mj_m_143, 27, [(0, .ref 234), (1, sy_i a1), (2, sy_i a2)], [sy_i a2, sy_i a1, sy_i 0, .ref 234], h)) mj_d_143_26 (fun _ _ => rfl) ?_
      refine sy_cv (M' := mj_m_144) (vs := [.ref 234, sy_i 0, sy_i a1, sy_i a2]) (rest := []) mj_d_143_27 rfl rfl rfl rfl hH rfl rfl ⟨by decide, ⟨Nat.le_of_ble_eq_true rfl, Nat.le_of_ble_eq_true rfl, Nat.le_of_ble_eq_true rfl, Nat.le_of_ble_eq_true rfl, Nat.le_of_ble_eq_true rfl⟩⟩ (dt_R_layerAt (a1 := 0) (a2 := a1) (a3 := a2) hH (by omega) (by omega) (by omega) (by omega) (by omega) (by omega) (by first | omega | assumption)) ?_
      rintro _ _ ⟨rfl, rfl, b7, b7t⟩
      show sy_wp (mj_m_143, 30, [(0, .ref 234), (1, sy_i a1), (2, sy_i a2)], [sy_i (dc_R_layerAt (sy_rd h) 0 a1 a2)], h) _
      refine sy_st (S' := (mj_m_143, 35, [(0, .ref 234), (1, sy_i a1), (2, sy_i a2)], [sy_i (dc_R_layerAt (sy_rd h) 0 a1 a2)], h)) mj_d_143_30 (fun _ _ => rfl) ?_
      exact sy_reti mj_d_143_35 rfl ⟨rfl, rfl, by omega, by omega⟩
  · skip
    rw [if_pos (Decidable.not_not.mp c3)]
    replace c3 := Decidable.not_not.mp c3
    refine sy_ldc (n := -1000000001) mj_d_143_8 rfl (by decide) ?_
    exact sy_reti mj_d_143_10 rfl ⟨rfl, rfl, by omega, by omega⟩
def dc_R_sweep (s : sg_S) (a1 a2 : Int) : Int := (if (dc_R_isSweep s a1) = 0 then (-1000000001) else (if a2 = 0 then (sy_w (s 235 ((101 + a1).toNat))) else (if a2 = 1 then (sy_w (s 237 ((a1).toNat))) else (if a2 = 2 then (sy_w ((s 235 ((106 + a1).toNat)) + 100000)) else (sy_w (-1000000002))))))
set_option maxRecDepth 100000 in
theorem dt_R_sweep {h : mj_H} (hH : sy_H h) {a1 a2 : Int} (b_a1 : (-2147483648) ≤ a1) (t_a1 : a1 ≤ 2147483647) (b_a2 : (-2147483648) ≤ a2) (t_a2 : a2 ≤ 2147483647) : sy_wp (mj_m_145, 0, [(0, .ref 234), (1, sy_i a1), (2, sy_i a2)], [], h) (dq1 h (-2147483648) (2147483647) (dc_R_sweep (sy_rd h) a1 a2)) := by
  unfold dc_R_sweep
  have n234_7 := hH.bd (a := 234) (k := 7) rfl (by decide) rfl
  refine sy_st (S' := (mj_m_145, 1, [(0, .ref 234), (1, sy_i a1), (2, sy_i a2)], [.ref 234], h)) mj_d_145_0 (fun _ _ => rfl) ?_
  refine sy_st (S' := (mj_m_145, 2, [(0, .ref 234), (1, sy_i a1), (2, sy_i a2)], [sy_i a1, .ref 234], h)) mj_d_145_1 (fun _ _ => rfl) ?_
  refine sy_cv (M' := mj_m_146) (vs := [.ref 234, sy_i a1]) (rest := []) mj_d_145_2 rfl rfl rfl rfl hH rfl rfl ⟨by decide, ⟨Nat.le_of_ble_eq_true rfl, Nat.le_of_ble_eq_true rfl, Nat.le_of_ble_eq_true rfl, Nat.le_of_ble_eq_true rfl, Nat.le_of_ble_eq_true rfl⟩⟩ (dt_R_isSweep (a1 := a1) hH (by omega) (by omega)) ?_
  rintro _ _ ⟨rfl, rfl, b1, b1t⟩
  have q2 := df_R_isSweep_0 (sy_rd h) a1
  show sy_wp (mj_m_145, 5, [(0, .ref 234), (1, sy_i a1), (2, sy_i a2)], [sy_i (dc_R_isSweep (sy_rd h) a1)], h) _
  refine sy_ifc mj_d_145_5 rfl ⟨by omega, by omega⟩ (fun (c3 : ¬ ((dc_R_isSweep (sy_rd h) a1) = 0)) => ?_) (fun (c3 : ¬ ¬ ((dc_R_isSweep (sy_rd h) a1) = 0)) => ?_)
  · skip
    rw [if_neg c3]
    refine sy_st (S' := (mj_m_145, 12, [(0, .ref 234), (1, sy_i a1), (2, sy_i a2)], [sy_i a2], h)) mj_d_145_11 (fun _ _ => rfl) ?_
    refine sy_ifc mj_d_145_12 rfl ⟨by omega, by omega⟩ (fun (c4 : ¬ (a2 = 0)) => ?_) (fun (c4 : ¬ ¬ (a2 = 0)) => ?_)
    · skip
      rw [if_neg c4]
      refine sy_st (S' := (mj_m_145, 28, [(0, .ref 234), (1, sy_i a1), (2, sy_i a2)], [sy_i a2], h)) mj_d_145_27 (fun _ _ => rfl) ?_
      refine sy_st (S' := (mj_m_145, 29, [(0, .ref 234), (1, sy_i a1), (2, sy_i a2)], [sy_i 1, sy_i a2], h)) mj_d_145_28 (fun _ _ => rfl) ?_
      refine sy_icm mj_d_145_29 rfl ⟨by omega, by omega⟩ ⟨by omega, by omega⟩ (fun (c5 : ¬ (a2 = 1)) => ?_) (fun (c5 : ¬ ¬ (a2 = 1)) => ?_)
      · skip
        rw [if_neg c5]
        refine sy_st (S' := (mj_m_145, 42, [(0, .ref 234), (1, sy_i a1), (2, sy_i a2)], [sy_i a2], h)) mj_d_145_41 (fun _ _ => rfl) ?_
        refine sy_st (S' := (mj_m_145, 43, [(0, .ref 234), (1, sy_i a1), (2, sy_i a2)], [sy_i 2, sy_i a2], h)) mj_d_145_42 (fun _ _ => rfl) ?_
        refine sy_icm mj_d_145_43 rfl ⟨by omega, by omega⟩ ⟨by omega, by omega⟩ (fun (c6 : ¬ (a2 = 2)) => ?_) (fun (c6 : ¬ ¬ (a2 = 2)) => ?_)
        · skip
          rw [if_neg c6]
          refine sy_ldc (n := -1000000002) mj_d_145_61 rfl (by decide) ?_
          have wr := sy_w_rng (-1000000002)
          exact sg_retw mj_d_145_63 rfl ⟨rfl, rfl, by omega, by omega⟩
        · skip
          rw [if_pos (Decidable.not_not.mp c6)]
          replace c6 := Decidable.not_not.mp c6
          refine sy_st (S' := (mj_m_145, 47, [(0, .ref 234), (1, sy_i a1), (2, sy_i a2)], [.ref 234], h)) mj_d_145_46 (fun _ _ => rfl) ?_
          refine sy_gr2 (b := 235) mj_d_145_47 rfl rfl (by decide) rfl rfl hH ?_
          refine sy_bip mj_d_145_50 (by decide) ?_
          refine sy_st (S' := (mj_m_145, 53, [(0, .ref 234), (1, sy_i a1), (2, sy_i a2)], [sy_i a1, sy_i 106, .ref 235], h)) mj_d_145_52 (fun _ _ => rfl) ?_
          refine sy_add mj_d_145_53 ?_
          refine sg_iaT mj_d_145_54 (by omega) (by omega) hH ?_
          rintro _ rfl bx7 tx7
          refine sy_ldc (n := 100000) mj_d_145_55 rfl (by decide) ?_
          refine sy_add mj_d_145_57 ?_
          refine sy_st (S' := (mj_m_145, 63, [(0, .ref 234), (1, sy_i a1), (2, sy_i a2)], [sy_i ((sy_rd h 235 ((106 + a1).toNat)) + 100000)], h)) mj_d_145_58 (fun _ _ => rfl) ?_
          have wr := sy_w_rng ((sy_rd h 235 ((106 + a1).toNat)) + 100000)
          exact sg_retw mj_d_145_63 rfl ⟨rfl, rfl, by omega, by omega⟩
      · skip
        rw [if_pos (Decidable.not_not.mp c5)]
        replace c5 := Decidable.not_not.mp c5
        refine sy_st (S' := (mj_m_145, 33, [(0, .ref 234), (1, sy_i a1), (2, sy_i a2)], [.ref 234], h)) mj_d_145_32 (fun _ _ => rfl) ?_
        refine sy_gr2 (b := 237) mj_d_145_33 rfl rfl (by decide) rfl rfl hH ?_
        refine sy_st (S' := (mj_m_145, 37, [(0, .ref 234), (1, sy_i a1), (2, sy_i a2)], [sy_i a1, .ref 237], h)) mj_d_145_36 (fun _ _ => rfl) ?_
        refine sy_ia mj_d_145_37 rfl (by decide) (by omega) (by omega) (ab_el_1 rfl _) hH ?_
        rintro _ rfl bx8 tx8
        refine sy_st (S' := (mj_m_145, 63, [(0, .ref 234), (1, sy_i a1), (2, sy_i a2)], [sy_i (sy_rd h 237 ((a1).toNat))], h)) mj_d_145_38 (fun _ _ => rfl) ?_
        have wr := sy_w_rng (sy_rd h 237 ((a1).toNat))
        exact sg_retw mj_d_145_63 rfl ⟨rfl, rfl, by omega, by omega⟩
    · skip
      rw [if_pos (Decidable.not_not.mp c4)]
      replace c4 := Decidable.not_not.mp c4
      refine sy_st (S' := (mj_m_145, 16, [(0, .ref 234), (1, sy_i a1), (2, sy_i a2)], [.ref 234], h)) mj_d_145_15 (fun _ _ => rfl) ?_
      refine sy_gr2 (b := 235) mj_d_145_16 rfl rfl (by decide) rfl rfl hH ?_
      refine sy_bip mj_d_145_19 (by decide) ?_
      refine sy_st (S' := (mj_m_145, 22, [(0, .ref 234), (1, sy_i a1), (2, sy_i a2)], [sy_i a1, sy_i 101, .ref 235], h)) mj_d_145_21 (fun _ _ => rfl) ?_
      refine sy_add mj_d_145_22 ?_
      refine sg_iaN (lo := 0) (hi := 511) 101 106 (by decide) mj_d_145_23 (by omega) (by omega) (by omega) (by omega) hH ?_
      rintro _ rfl bx9 tx9
      refine sy_st (S' := (mj_m_145, 63, [(0, .ref 234), (1, sy_i a1), (2, sy_i a2)], [sy_i (sy_rd h 235 ((101 + a1).toNat))], h)) mj_d_145_24 (fun _ _ => rfl) ?_
      have wr := sy_w_rng (sy_rd h 235 ((101 + a1).toNat))
      exact sg_retw mj_d_145_63 rfl ⟨rfl, rfl, by omega, by omega⟩
  · skip
    rw [if_pos (Decidable.not_not.mp c3)]
    replace c3 := Decidable.not_not.mp c3
    refine sy_ldc (n := -1000000001) mj_d_145_8 rfl (by decide) ?_
    exact sy_reti mj_d_145_10 rfl ⟨rfl, rfl, by omega, by omega⟩
def dc_R_lays_30 (n : Nat) : sg_S → Int → Int → Int → Int → Int → sg_S := Nat.rec (fun (s : sg_S) l1 l2 l3 l4 l5 => s) (fun _ ih => fun s l1 l2 l3 l4 l5 => (if 7 ≤ l5 then (sg_up (sg_up (sg_up s 235 (((l1 + 20) + l2).toNat) ((s 235 (((l1 + 20) + l2).toNat)) - 1)) 235 ((l4 + ((s 235 (((l1 + 20) + l2).toNat)) - 1)).toNat) l3) 235 (((l1 + 20) + l2).toNat) (((s 235 (((l1 + 20) + l2).toNat)) - 1) + 1)) else (ih (sg_up s 235 ((l4 + l5).toNat) (s 235 (((l4 + l5) + 1).toNat))) l1 l2 l3 l4 (l5 + 1)))) n
theorem dc_R_lays_30_s (n : Nat) (s : sg_S) (l1 l2 l3 l4 l5 : Int) : dc_R_lays_30 (n + 1) s l1 l2 l3 l4 l5 = (if 7 ≤ l5 then (sg_up (sg_up (sg_up s 235 (((l1 + 20) + l2).toNat) ((s 235 (((l1 + 20) + l2).toNat)) - 1)) 235 ((l4 + ((s 235 (((l1 + 20) + l2).toNat)) - 1)).toNat) l3) 235 (((l1 + 20) + l2).toNat) (((s 235 (((l1 + 20) + l2).toNat)) - 1) + 1)) else ((dc_R_lays_30 n) (sg_up s 235 ((l4 + l5).toNat) (s 235 (((l4 + l5) + 1).toNat))) l1 l2 l3 l4 (l5 + 1))) := rfl
def dc_R_lays (s : sg_S) (a1 a2 a3 : Int) : sg_S := (if (s 235 (((a1 + 20) + a2).toNat)) = 8 then (dc_R_lays_30 8 s a1 a2 a3 ((a1 + 29) + (8 * a2)) 0) else (sg_up (sg_up s 235 ((((a1 + 29) + (8 * a2)) + (s 235 (((a1 + 20) + a2).toNat))).toNat) a3) 235 (((a1 + 20) + a2).toNat) ((s 235 (((a1 + 20) + a2).toNat)) + 1)))
def dw_R_lays (a k : Nat) : Bool := (a == 235)
theorem dr_R_lays_30 (a k : Nat) (h : dw_R_lays a k = false) : ∀ (n : Nat) (s : sg_S) (l1 l2 l3 l4 l5 : Int), (dc_R_lays_30 n s l1 l2 l3 l4 l5) a k = s a k := by
  have h0 := h
  unfold dw_R_lays at h
  have h1 := h
  intro n
  induction n with
  | zero => intro s l1 l2 l3 l4 l5; rfl
  | succ n ih =>
    intro s l1 l2 l3 l4 l5
    rw [dc_R_lays_30_s]
    (repeat' split) <;> simp only [(fun s l z => sg_upa (s := s) (l := l) (z := z) (k := k) h1), ih]
theorem dr_R_lays (s : sg_S) (a1 a2 a3 : Int) (a k : Nat) (h : dw_R_lays a k = false) : (dc_R_lays s a1 a2 a3) a k = s a k := by
  have h0 := h
  unfold dw_R_lays at h
  have h1 := h
  unfold dc_R_lays
  (repeat' split) <;> simp only [(fun s l z => sg_upa (s := s) (l := l) (z := z) (k := k) h1), (dr_R_lays_30 a k h0)]
set_option maxRecDepth 100000 in
theorem dt_R_lays_30 : ∀ (n : Nat) {h : mj_H} (hH : sy_H h) {l1 l2 l3 l4 l5 : Int} (b_l1 : 0 ≤ l1) (t_l1 : l1 ≤ 112) (b_l2 : 0 ≤ l2) (t_l2 : l2 ≤ 8) (b_l3 : 0 ≤ l3) (t_l3 : l3 ≤ 7) (b_l4 : (-2147483648) ≤ l4) (t_l4 : l4 ≤ 2147483647) (b_l5 : 0 ≤ l5) (t_l5 : l5 ≤ 7) (i0 : l1 % 112 = 0) (i1 : l4 = l1 + 29 + 8 * l2) (i2 : (sy_rd h 235 ((l1 + 20) + l2).toNat) = 8) (hm : 7 - l5 < (n : Int)), sy_wp (mj_m_151, 30, [(0, .ref 234), (1, sy_i l1), (2, sy_i l2), (3, sy_i l3), (4, sy_i l4), (5, sy_i l5)], [], h) (dq3 (dc_R_lays_30 n (sy_rd h) l1 l2 l3 l4 l5)) := by
  intro n
  induction n with
  | zero =>
    intro h hH l1 l2 l3 l4 l5 b_l1 t_l1 b_l2 t_l2 b_l3 t_l3 b_l4 t_l4 b_l5 t_l5 i0 i1 i2 hm
    exact absurd hm (by omega)
  | succ n ih =>
    intro h hH l1 l2 l3 l4 l5 b_l1 t_l1 b_l2 t_l2 b_l3 t_l3 b_l4 t_l4 b_l5 t_l5 i0 i1 i2 hm
    rw [dc_R_lays_30_s]
    refine sy_st (S' := (mj_m_151, 32, [(0, .ref 234), (1, sy_i l1), (2, sy_i l2), (3, sy_i l3), (4, sy_i l4), (5, sy_i l5)], [sy_i l5], h)) mj_d_151_30 (fun _ _ => rfl) ?_
    refine sy_bip mj_d_151_32 (by decide) ?_
    refine sy_icm mj_d_151_34 rfl ⟨by omega, by omega⟩ ⟨by omega, by omega⟩ (fun (c1 : 7 ≤ l5) => ?_) (fun (c1 : ¬ (7 ≤ l5)) => ?_)
    · skip
      rw [if_pos c1]
      refine sy_st (S' := (mj_m_151, 66, [(0, .ref 234), (1, sy_i l1), (2, sy_i l2), (3, sy_i l3), (4, sy_i l4), (5, sy_i l5)], [.ref 234], h)) mj_d_151_65 (fun _ _ => rfl) ?_
      refine sy_gr2 (b := 235) mj_d_151_66 rfl rfl (by decide) rfl rfl hH ?_
      refine sy_st (S' := (mj_m_151, 70, [(0, .ref 234), (1, sy_i l1), (2, sy_i l2), (3, sy_i l3), (4, sy_i l4), (5, sy_i l5)], [sy_i l1, .ref 235], h)) mj_d_151_69 (fun _ _ => rfl) ?_
      refine sy_bip mj_d_151_70 (by decide) ?_
      refine sy_add mj_d_151_72 ?_
      refine sy_st (S' := (mj_m_151, 74, [(0, .ref 234), (1, sy_i l1), (2, sy_i l2), (3, sy_i l3), (4, sy_i l4), (5, sy_i l5)], [sy_i l2, sy_i (l1 + 20), .ref 235], h)) mj_d_151_73 (fun _ _ => rfl) ?_
      refine sy_add mj_d_151_74 ?_
      refine sy_st (S' := (mj_m_151, 76, [(0, .ref 234), (1, sy_i l1), (2, sy_i l2), (3, sy_i l3), (4, sy_i l4), (5, sy_i l5)], [sy_i ((l1 + 20) + l2), .ref 235, sy_i ((l1 + 20) + l2), .ref 235], h)) mj_d_151_75 (fun _ _ => rfl) ?_
      refine sg_iaN (lo := 0) (hi := 8) 20 29 (by decide) mj_d_151_76 (by omega) (by omega) (by omega) (by omega) hH ?_
      rintro _ rfl bx2 tx2
      refine sy_st (S' := (mj_m_151, 78, [(0, .ref 234), (1, sy_i l1), (2, sy_i l2), (3, sy_i l3), (4, sy_i l4), (5, sy_i l5)], [sy_i 1, sy_i (sy_rd h 235 (((l1 + 20) + l2).toNat)), sy_i ((l1 + 20) + l2), .ref 235], h)) mj_d_151_77 (fun _ _ => rfl) ?_
      refine sy_sub mj_d_151_78 ?_
      refine sg_iasN (v := ((sy_rd h 235 (((l1 + 20) + l2).toNat)) - 1)) (lo := 0) (hi := 8) 20 29 (by decide) mj_d_151_79 (by omega) (by omega) (by omega) (by omega) (by omega) (by omega) hH ?_
      intro h3 th3 eh3
      refine sy_st (S' := (mj_m_151, 81, [(0, .ref 234), (1, sy_i l1), (2, sy_i l2), (3, sy_i l3), (4, sy_i l4), (5, sy_i l5)], [.ref 234], h3)) mj_d_151_80 (fun _ _ => rfl) ?_
      refine sy_gr2 (b := 235) mj_d_151_81 rfl rfl (by decide) rfl rfl th3 ?_
      refine sy_st (S' := (mj_m_151, 86, [(0, .ref 234), (1, sy_i l1), (2, sy_i l2), (3, sy_i l3), (4, sy_i l4), (5, sy_i l5)], [sy_i l4, .ref 235], h3)) mj_d_151_84 (fun _ _ => rfl) ?_
      refine sy_st (S' := (mj_m_151, 87, [(0, .ref 234), (1, sy_i l1), (2, sy_i l2), (3, sy_i l3), (4, sy_i l4), (5, sy_i l5)], [.ref 234, sy_i l4, .ref 235], h3)) mj_d_151_86 (fun _ _ => rfl) ?_
      refine sy_gr2 (b := 235) mj_d_151_87 rfl rfl (by decide) rfl rfl th3 ?_
      refine sy_st (S' := (mj_m_151, 91, [(0, .ref 234), (1, sy_i l1), (2, sy_i l2), (3, sy_i l3), (4, sy_i l4), (5, sy_i l5)], [sy_i l1, .ref 235, sy_i l4, .ref 235], h3)) mj_d_151_90 (fun _ _ => rfl) ?_
      refine sy_bip mj_d_151_91 (by decide) ?_
      refine sy_add mj_d_151_93 ?_
      refine sy_st (S' := (mj_m_151, 95, [(0, .ref 234), (1, sy_i l1), (2, sy_i l2), (3, sy_i l3), (4, sy_i l4), (5, sy_i l5)], [sy_i l2, sy_i (l1 + 20), .ref 235, sy_i l4, .ref 235], h3)) mj_d_151_94 (fun _ _ => rfl) ?_
      refine sy_add mj_d_151_95 ?_
      refine sg_iaN (lo := 0) (hi := 8) 20 29 (by decide) mj_d_151_96 (by omega) (by omega) (by omega) (by omega) th3 ?_
      intro x4 ex4 bx4 tx4
      rw [eh3, sg_eq] at ex4
      subst ex4
      refine sy_add mj_d_151_97 ?_
      refine sy_st (S' := (mj_m_151, 99, [(0, .ref 234), (1, sy_i l1), (2, sy_i l2), (3, sy_i l3), (4, sy_i l4), (5, sy_i l5)], [sy_i l3, sy_i (l4 + ((sy_rd h 235 (((l1 + 20) + l2).toNat)) - 1)), .ref 235], h3)) mj_d_151_98 (fun _ _ => rfl) ?_
      refine sg_iasN (v := l3) (lo := 0) (hi := 7) 29 101 (by decide) mj_d_151_99 (by omega) (by omega) (by omega) (by omega) (by omega) (by omega) th3 ?_
      intro h5 th5 eh5
      rw [eh3] at eh5
      refine sy_st (S' := (mj_m_151, 101, [(0, .ref 234), (1, sy_i l1), (2, sy_i l2), (3, sy_i l3), (4, sy_i l4), (5, sy_i l5)], [.ref 234], h5)) mj_d_151_100 (fun _ _ => rfl) ?_
      refine sy_gr2 (b := 235) mj_d_151_101 rfl rfl (by decide) rfl rfl th5 ?_
      refine sy_st (S' := (mj_m_151, 105, [(0, .ref 234), (1, sy_i l1), (2, sy_i l2), (3, sy_i l3), (4, sy_i l4), (5, sy_i l5)], [sy_i l1, .ref 235], h5)) mj_d_151_104 (fun _ _ => rfl) ?_
      refine sy_bip mj_d_151_105 (by decide) ?_
      refine sy_add mj_d_151_107 ?_
      refine sy_st (S' := (mj_m_151, 109, [(0, .ref 234), (1, sy_i l1), (2, sy_i l2), (3, sy_i l3), (4, sy_i l4), (5, sy_i l5)], [sy_i l2, sy_i (l1 + 20), .ref 235], h5)) mj_d_151_108 (fun _ _ => rfl) ?_
      refine sy_add mj_d_151_109 ?_
      refine sy_st (S' := (mj_m_151, 111, [(0, .ref 234), (1, sy_i l1), (2, sy_i l2), (3, sy_i l3), (4, sy_i l4), (5, sy_i l5)], [sy_i ((l1 + 20) + l2), .ref 235, sy_i ((l1 + 20) + l2), .ref 235], h5)) mj_d_151_110 (fun _ _ => rfl) ?_
      refine sg_iaN (lo := 0) (hi := 8) 20 29 (by decide) mj_d_151_111 (by omega) (by omega) (by omega) (by omega) th5 ?_
      intro x6 ex6 bx6 tx6
      rw [eh5, sg_nk (by omega), sg_eq] at ex6
      subst ex6
      refine sy_st (S' := (mj_m_151, 113, [(0, .ref 234), (1, sy_i l1), (2, sy_i l2), (3, sy_i l3), (4, sy_i l4), (5, sy_i l5)], [sy_i 1, sy_i ((sy_rd h 235 (((l1 + 20) + l2).toNat)) - 1), sy_i ((l1 + 20) + l2), .ref 235], h5)) mj_d_151_112 (fun _ _ => rfl) ?_
      refine sy_add mj_d_151_113 ?_
      refine sg_iasN (v := (((sy_rd h 235 (((l1 + 20) + l2).toNat)) - 1) + 1)) (lo := 0) (hi := 8) 20 29 (by decide) mj_d_151_114 (by omega) (by omega) (by omega) (by omega) (by omega) (by omega) th5 ?_
      intro h7 th7 eh7
      rw [eh5] at eh7
      exact sy_retv mj_d_151_115 rfl ⟨rfl, th7, eh7⟩
    · skip
      rw [if_neg c1]
      refine sy_st (S' := (mj_m_151, 38, [(0, .ref 234), (1, sy_i l1), (2, sy_i l2), (3, sy_i l3), (4, sy_i l4), (5, sy_i l5)], [.ref 234], h)) mj_d_151_37 (fun _ _ => rfl) ?_
      refine sy_gr2 (b := 235) mj_d_151_38 rfl rfl (by decide) rfl rfl hH ?_
      refine sy_st (S' := (mj_m_151, 43, [(0, .ref 234), (1, sy_i l1), (2, sy_i l2), (3, sy_i l3), (4, sy_i l4), (5, sy_i l5)], [sy_i l4, .ref 235], h)) mj_d_151_41 (fun _ _ => rfl) ?_
      refine sy_st (S' := (mj_m_151, 45, [(0, .ref 234), (1, sy_i l1), (2, sy_i l2), (3, sy_i l3), (4, sy_i l4), (5, sy_i l5)], [sy_i l5, sy_i l4, .ref 235], h)) mj_d_151_43 (fun _ _ => rfl) ?_
      refine sy_add mj_d_151_45 ?_
      refine sy_st (S' := (mj_m_151, 47, [(0, .ref 234), (1, sy_i l1), (2, sy_i l2), (3, sy_i l3), (4, sy_i l4), (5, sy_i l5)], [.ref 234, sy_i (l4 + l5), .ref 235], h)) mj_d_151_46 (fun _ _ => rfl) ?_
      refine sy_gr2 (b := 235) mj_d_151_47 rfl rfl (by decide) rfl rfl hH ?_
      refine sy_st (S' := (mj_m_151, 52, [(0, .ref 234), (1, sy_i l1), (2, sy_i l2), (3, sy_i l3), (4, sy_i l4), (5, sy_i l5)], [sy_i l4, .ref 235, sy_i (l4 + l5), .ref 235], h)) mj_d_151_50 (fun _ _ => rfl) ?_
      refine sy_st (S' := (mj_m_151, 54, [(0, .ref 234), (1, sy_i l1), (2, sy_i l2), (3, sy_i l3), (4, sy_i l4), (5, sy_i l5)], [sy_i l5, sy_i l4, .ref 235, sy_i (l4 + l5), .ref 235], h)) mj_d_151_52 (fun _ _ => rfl) ?_
      refine sy_add mj_d_151_54 ?_
      refine sy_st (S' := (mj_m_151, 56, [(0, .ref 234), (1, sy_i l1), (2, sy_i l2), (3, sy_i l3), (4, sy_i l4), (5, sy_i l5)], [sy_i 1, sy_i (l4 + l5), .ref 235, sy_i (l4 + l5), .ref 235], h)) mj_d_151_55 (fun _ _ => rfl) ?_
      refine sy_add mj_d_151_56 ?_
      refine sg_iaN (lo := 0) (hi := 7) 29 101 (by decide) mj_d_151_57 (by omega) (by omega) (by omega) (by omega) hH ?_
      rintro _ rfl bx8 tx8
      refine sg_iasN (v := (sy_rd h 235 (((l4 + l5) + 1).toNat))) (lo := 0) (hi := 7) 29 101 (by decide) mj_d_151_58 (by omega) (by omega) (by omega) (by omega) (by omega) (by omega) hH ?_
      intro h9 th9 eh9
      refine sy_inc (a := l5) (lv' := [(5, sy_i (l5 + 1)), (0, .ref 234), (1, sy_i l1), (2, sy_i l2), (3, sy_i l3), (4, sy_i l4)]) mj_d_151_59 (Nat.le_of_ble_eq_true rfl) rfl rfl ?_
      refine sy_st (S' := (mj_m_151, 30, [(5, sy_i (l5 + 1)), (0, .ref 234), (1, sy_i l1), (2, sy_i l2), (3, sy_i l3), (4, sy_i l4)], [], h9)) mj_d_151_62 (fun _ _ => rfl) ?_
      refine sy_lv (lv := [(0, .ref 234), (1, sy_i l1), (2, sy_i l2), (3, sy_i l3), (4, sy_i l4), (5, sy_i (l5 + 1))]) rfl ⟨rfl, rfl, rfl, rfl, rfl, rfl, trivial⟩ ?_
      rw [← eh9]
      exact ih th9 (by first | omega | assumption) (by first | omega | assumption) (by first | omega | assumption) (by first | omega | assumption) (by first | omega | assumption) (by first | omega | assumption) (by first | omega | assumption) (by first | omega | assumption) (by first | omega | assumption) (by first | omega | assumption) (by first | omega | assumption) (by first | omega | assumption) (by rw [eh9, sg_nk (by omega)]; exact i2) (by omega)
set_option maxRecDepth 100000 in
theorem dt_R_lays {h : mj_H} (hH : sy_H h) {a1 a2 a3 : Int} (b_a1 : 0 ≤ a1) (t_a1 : a1 ≤ 112) (b_a2 : 0 ≤ a2) (t_a2 : a2 ≤ 8) (b_a3 : 0 ≤ a3) (t_a3 : a3 ≤ 7) (i0 : a1 % 112 = 0) : sy_wp (mj_m_151, 0, [(0, .ref 234), (1, sy_i a1), (2, sy_i a2), (3, sy_i a3)], [], h) (dq3 (dc_R_lays (sy_rd h) a1 a2 a3)) := by
  unfold dc_R_lays
  refine sy_st (S' := (mj_m_151, 1, [(0, .ref 234), (1, sy_i a1), (2, sy_i a2), (3, sy_i a3)], [sy_i a1], h)) mj_d_151_0 (fun _ _ => rfl) ?_
  refine sy_bip mj_d_151_1 (by decide) ?_
  refine sy_add mj_d_151_3 ?_
  refine sy_bip mj_d_151_4 (by decide) ?_
  refine sy_st (S' := (mj_m_151, 7, [(0, .ref 234), (1, sy_i a1), (2, sy_i a2), (3, sy_i a3)], [sy_i a2, sy_i 8, sy_i (a1 + 29)], h)) mj_d_151_6 (fun _ _ => rfl) ?_
  refine sy_mul mj_d_151_7 ?_
  refine sy_add mj_d_151_8 ?_
  refine sy_st (S' := (mj_m_151, 11, [(4, sy_i ((a1 + 29) + (8 * a2))), (0, .ref 234), (1, sy_i a1), (2, sy_i a2), (3, sy_i a3)], [], h)) mj_d_151_9 (fun _ _ => rfl) ?_
  refine sy_st (S' := (mj_m_151, 12, [(4, sy_i ((a1 + 29) + (8 * a2))), (0, .ref 234), (1, sy_i a1), (2, sy_i a2), (3, sy_i a3)], [.ref 234], h)) mj_d_151_11 (fun _ _ => rfl) ?_
  refine sy_gr2 (b := 235) mj_d_151_12 rfl rfl (by decide) rfl rfl hH ?_
  refine sy_st (S' := (mj_m_151, 16, [(4, sy_i ((a1 + 29) + (8 * a2))), (0, .ref 234), (1, sy_i a1), (2, sy_i a2), (3, sy_i a3)], [sy_i a1, .ref 235], h)) mj_d_151_15 (fun _ _ => rfl) ?_
  refine sy_bip mj_d_151_16 (by decide) ?_
  refine sy_add mj_d_151_18 ?_
  refine sy_st (S' := (mj_m_151, 20, [(4, sy_i ((a1 + 29) + (8 * a2))), (0, .ref 234), (1, sy_i a1), (2, sy_i a2), (3, sy_i a3)], [sy_i a2, sy_i (a1 + 20), .ref 235], h)) mj_d_151_19 (fun _ _ => rfl) ?_
  refine sy_add mj_d_151_20 ?_
  refine sg_iaN (lo := 0) (hi := 8) 20 29 (by decide) mj_d_151_21 (by omega) (by omega) (by omega) (by omega) hH ?_
  rintro _ rfl bx1 tx1
  refine sy_bip mj_d_151_22 (by decide) ?_
  refine sy_icm mj_d_151_24 rfl ⟨by omega, by omega⟩ ⟨by omega, by omega⟩ (fun (c2 : ¬ ((sy_rd h 235 (((a1 + 20) + a2).toNat)) = 8)) => ?_) (fun (c2 : ¬ ¬ ((sy_rd h 235 (((a1 + 20) + a2).toNat)) = 8)) => ?_)
  · skip
    rw [if_neg c2]
    refine sy_st (S' := (mj_m_151, 81, [(4, sy_i ((a1 + 29) + (8 * a2))), (0, .ref 234), (1, sy_i a1), (2, sy_i a2), (3, sy_i a3)], [.ref 234], h)) mj_d_151_80 (fun _ _ => rfl) ?_
    refine sy_gr2 (b := 235) mj_d_151_81 rfl rfl (by decide) rfl rfl hH ?_
    refine sy_st (S' := (mj_m_151, 86, [(4, sy_i ((a1 + 29) + (8 * a2))), (0, .ref 234), (1, sy_i a1), (2, sy_i a2), (3, sy_i a3)], [sy_i ((a1 + 29) + (8 * a2)), .ref 235], h)) mj_d_151_84 (fun _ _ => rfl) ?_
    refine sy_st (S' := (mj_m_151, 87, [(4, sy_i ((a1 + 29) + (8 * a2))), (0, .ref 234), (1, sy_i a1), (2, sy_i a2), (3, sy_i a3)], [.ref 234, sy_i ((a1 + 29) + (8 * a2)), .ref 235], h)) mj_d_151_86 (fun _ _ => rfl) ?_
    refine sy_gr2 (b := 235) mj_d_151_87 rfl rfl (by decide) rfl rfl hH ?_
    refine sy_st (S' := (mj_m_151, 91, [(4, sy_i ((a1 + 29) + (8 * a2))), (0, .ref 234), (1, sy_i a1), (2, sy_i a2), (3, sy_i a3)], [sy_i a1, .ref 235, sy_i ((a1 + 29) + (8 * a2)), .ref 235], h)) mj_d_151_90 (fun _ _ => rfl) ?_
    refine sy_bip mj_d_151_91 (by decide) ?_
    refine sy_add mj_d_151_93 ?_
    refine sy_st (S' := (mj_m_151, 95, [(4, sy_i ((a1 + 29) + (8 * a2))), (0, .ref 234), (1, sy_i a1), (2, sy_i a2), (3, sy_i a3)], [sy_i a2, sy_i (a1 + 20), .ref 235, sy_i ((a1 + 29) + (8 * a2)), .ref 235], h)) mj_d_151_94 (fun _ _ => rfl) ?_
    refine sy_add mj_d_151_95 ?_
    refine sg_iaN (lo := 0) (hi := 8) 20 29 (by decide) mj_d_151_96 (by omega) (by omega) (by omega) (by omega) hH ?_
    rintro _ rfl bx3 tx3
    refine sy_add mj_d_151_97 ?_
    refine sy_st (S' := (mj_m_151, 99, [(4, sy_i ((a1 + 29) + (8 * a2))), (0, .ref 234), (1, sy_i a1), (2, sy_i a2), (3, sy_i a3)], [sy_i a3, sy_i (((a1 + 29) + (8 * a2)) + (sy_rd h 235 (((a1 + 20) + a2).toNat))), .ref 235], h)) mj_d_151_98 (fun _ _ => rfl) ?_
    refine sg_iasN (v := a3) (lo := 0) (hi := 7) 29 101 (by decide) mj_d_151_99 (by omega) (by omega) (by omega) (by omega) (by omega) (by omega) hH ?_
    intro h4 th4 eh4
    refine sy_st (S' := (mj_m_151, 101, [(4, sy_i ((a1 + 29) + (8 * a2))), (0, .ref 234), (1, sy_i a1), (2, sy_i a2), (3, sy_i a3)], [.ref 234], h4)) mj_d_151_100 (fun _ _ => rfl) ?_
    refine sy_gr2 (b := 235) mj_d_151_101 rfl rfl (by decide) rfl rfl th4 ?_
    refine sy_st (S' := (mj_m_151, 105, [(4, sy_i ((a1 + 29) + (8 * a2))), (0, .ref 234), (1, sy_i a1), (2, sy_i a2), (3, sy_i a3)], [sy_i a1, .ref 235], h4)) mj_d_151_104 (fun _ _ => rfl) ?_
    refine sy_bip mj_d_151_105 (by decide) ?_
    refine sy_add mj_d_151_107 ?_
    refine sy_st (S' := (mj_m_151, 109, [(4, sy_i ((a1 + 29) + (8 * a2))), (0, .ref 234), (1, sy_i a1), (2, sy_i a2), (3, sy_i a3)], [sy_i a2, sy_i (a1 + 20), .ref 235], h4)) mj_d_151_108 (fun _ _ => rfl) ?_
    refine sy_add mj_d_151_109 ?_
    refine sy_st (S' := (mj_m_151, 111, [(4, sy_i ((a1 + 29) + (8 * a2))), (0, .ref 234), (1, sy_i a1), (2, sy_i a2), (3, sy_i a3)], [sy_i ((a1 + 20) + a2), .ref 235, sy_i ((a1 + 20) + a2), .ref 235], h4)) mj_d_151_110 (fun _ _ => rfl) ?_
    refine sg_iaN (lo := 0) (hi := 8) 20 29 (by decide) mj_d_151_111 (by omega) (by omega) (by omega) (by omega) th4 ?_
    intro x5 ex5 bx5 tx5
    rw [eh4, sg_nk (by omega)] at ex5
    subst ex5
    refine sy_st (S' := (mj_m_151, 113, [(4, sy_i ((a1 + 29) + (8 * a2))), (0, .ref 234), (1, sy_i a1), (2, sy_i a2), (3, sy_i a3)], [sy_i 1, sy_i (sy_rd h 235 (((a1 + 20) + a2).toNat)), sy_i ((a1 + 20) + a2), .ref 235], h4)) mj_d_151_112 (fun _ _ => rfl) ?_
    refine sy_add mj_d_151_113 ?_
    refine sg_iasN (v := ((sy_rd h 235 (((a1 + 20) + a2).toNat)) + 1)) (lo := 0) (hi := 8) 20 29 (by decide) mj_d_151_114 (by omega) (by omega) (by omega) (by omega) (by omega) (by omega) th4 ?_
    intro h6 th6 eh6
    rw [eh4] at eh6
    exact sy_retv mj_d_151_115 rfl ⟨rfl, th6, eh6⟩
  · skip
    rw [if_pos (Decidable.not_not.mp c2)]
    replace c2 := Decidable.not_not.mp c2
    refine sy_st (S' := (mj_m_151, 28, [(4, sy_i ((a1 + 29) + (8 * a2))), (0, .ref 234), (1, sy_i a1), (2, sy_i a2), (3, sy_i a3)], [sy_i 0], h)) mj_d_151_27 (fun _ _ => rfl) ?_
    refine sy_st (S' := (mj_m_151, 30, [(5, sy_i 0), (4, sy_i ((a1 + 29) + (8 * a2))), (0, .ref 234), (1, sy_i a1), (2, sy_i a2), (3, sy_i a3)], [], h)) mj_d_151_28 (fun _ _ => rfl) ?_
    refine sy_lv (lv := [(0, .ref 234), (1, sy_i a1), (2, sy_i a2), (3, sy_i a3), (4, sy_i ((a1 + 29) + (8 * a2))), (5, sy_i 0)]) rfl ⟨rfl, rfl, rfl, rfl, rfl, rfl, trivial⟩ ?_
    exact dt_R_lays_30 8 hH (by first | omega | assumption) (by first | omega | assumption) (by first | omega | assumption) (by first | omega | assumption) (by first | omega | assumption) (by first | omega | assumption) (by first | omega | assumption) (by first | omega | assumption) (by first | omega | assumption) (by first | omega | assumption) (by first | omega | assumption) (by first | omega | assumption) (by first | omega | assumption) (by omega)
def dc_R_blownTo (s : sg_S) (a1 : Int) : Int := (if (s 234 4) = 1 then (if (dc_R_isHouse s (a1 + 1)) = 0 then (-1) else (a1 + 1)) else (if (s 234 4) = 2 then (if (dc_R_isHouse s (a1 - 1)) = 0 then (-1) else (a1 - 1)) else (if (dc_R_isHouse s (-1)) = 0 then (-1) else (-1))))
set_option maxRecDepth 100000 in
theorem dt_R_blownTo {h : mj_H} (hH : sy_H h) {a1 : Int} (b_a1 : 0 ≤ a1) (t_a1 : a1 ≤ 8) : sy_wp (mj_m_152, 0, [(0, .ref 234), (1, sy_i a1)], [], h) (dq1 h (-1) (8) (dc_R_blownTo (sy_rd h) a1)) := by
  unfold dc_R_blownTo
  have n234_6 := hH.bd (a := 234) (k := 6) rfl (by decide) rfl
  refine sy_st (S' := (mj_m_152, 1, [(0, .ref 234), (1, sy_i a1)], [.ref 234], h)) mj_d_152_0 (fun _ _ => rfl) ?_
  refine sy_gf mj_d_152_1 rfl rfl (by decide) rfl hH ?_
  intro x1 ex1 bx1 tx1
  replace ex1 : x1 = sy_rd h 234 4 := ex1
  subst ex1
  refine sy_st (S' := (mj_m_152, 5, [(0, .ref 234), (1, sy_i a1)], [sy_i 1, sy_i (sy_rd h 234 4)], h)) mj_d_152_4 (fun _ _ => rfl) ?_
  refine sy_icm mj_d_152_5 rfl ⟨by omega, by omega⟩ ⟨by omega, by omega⟩ (fun (c2 : ¬ ((sy_rd h 234 4) = 1)) => ?_) (fun (c2 : ¬ ¬ ((sy_rd h 234 4) = 1)) => ?_)
  · skip
    rw [if_neg c2]
    refine sy_st (S' := (mj_m_152, 15, [(0, .ref 234), (1, sy_i a1)], [.ref 234], h)) mj_d_152_14 (fun _ _ => rfl) ?_
    refine sy_gf mj_d_152_15 rfl rfl (by decide) rfl hH ?_
    intro x3 ex3 bx3 tx3
    replace ex3 : x3 = sy_rd h 234 4 := ex3
    subst ex3
    refine sy_st (S' := (mj_m_152, 19, [(0, .ref 234), (1, sy_i a1)], [sy_i 2, sy_i (sy_rd h 234 4)], h)) mj_d_152_18 (fun _ _ => rfl) ?_
    refine sy_icm mj_d_152_19 rfl ⟨by omega, by omega⟩ ⟨by omega, by omega⟩ (fun (c4 : ¬ ((sy_rd h 234 4) = 2)) => ?_) (fun (c4 : ¬ ¬ ((sy_rd h 234 4) = 2)) => ?_)
    · skip
      rw [if_neg c4]
      refine sy_st (S' := (mj_m_152, 29, [(0, .ref 234), (1, sy_i a1)], [sy_i (-1)], h)) mj_d_152_28 (fun _ _ => rfl) ?_
      refine sy_st (S' := (mj_m_152, 30, [(2, sy_i (-1)), (0, .ref 234), (1, sy_i a1)], [], h)) mj_d_152_29 (fun _ _ => rfl) ?_
      refine sy_st (S' := (mj_m_152, 31, [(2, sy_i (-1)), (0, .ref 234), (1, sy_i a1)], [.ref 234], h)) mj_d_152_30 (fun _ _ => rfl) ?_
      refine sy_st (S' := (mj_m_152, 32, [(2, sy_i (-1)), (0, .ref 234), (1, sy_i a1)], [sy_i (-1), .ref 234], h)) mj_d_152_31 (fun _ _ => rfl) ?_
      refine sy_cv (M' := mj_m_141) (vs := [.ref 234, sy_i (-1)]) (rest := []) mj_d_152_32 rfl rfl rfl rfl hH rfl rfl ⟨by decide, ⟨Nat.le_of_ble_eq_true rfl, Nat.le_of_ble_eq_true rfl, Nat.le_of_ble_eq_true rfl, Nat.le_of_ble_eq_true rfl, Nat.le_of_ble_eq_true rfl⟩⟩ (dt_R_isHouse (a1 := (-1)) hH (by omega) (by omega)) ?_
      rintro _ _ ⟨rfl, rfl, b5, b5t⟩
      have q6 := df_R_isHouse_0 (sy_rd h) (-1)
      show sy_wp (mj_m_152, 35, [(2, sy_i (-1)), (0, .ref 234), (1, sy_i a1)], [sy_i (dc_R_isHouse (sy_rd h) (-1))], h) _
      refine sy_ifc mj_d_152_35 rfl ⟨by omega, by omega⟩ (fun (c7 : (dc_R_isHouse (sy_rd h) (-1)) = 0) => ?_) (fun (c7 : ¬ ((dc_R_isHouse (sy_rd h) (-1)) = 0)) => ?_)
      · skip
        rw [if_pos c7]
        refine sy_st (S' := (mj_m_152, 43, [(2, sy_i (-1)), (0, .ref 234), (1, sy_i a1)], [sy_i (-1)], h)) mj_d_152_42 (fun _ _ => rfl) ?_
        exact sy_reti mj_d_152_43 rfl ⟨rfl, rfl, by omega, by omega⟩
      · skip
        rw [if_neg c7]
        refine sy_st (S' := (mj_m_152, 39, [(2, sy_i (-1)), (0, .ref 234), (1, sy_i a1)], [sy_i (-1)], h)) mj_d_152_38 (fun _ _ => rfl) ?_
        refine sy_st (S' := (mj_m_152, 43, [(2, sy_i (-1)), (0, .ref 234), (1, sy_i a1)], [sy_i (-1)], h)) mj_d_152_39 (fun _ _ => rfl) ?_
        exact sy_reti mj_d_152_43 rfl ⟨rfl, rfl, by omega, by omega⟩
    · skip
      rw [if_pos (Decidable.not_not.mp c4)]
      replace c4 := Decidable.not_not.mp c4
      refine sy_st (S' := (mj_m_152, 23, [(0, .ref 234), (1, sy_i a1)], [sy_i a1], h)) mj_d_152_22 (fun _ _ => rfl) ?_
      refine sy_st (S' := (mj_m_152, 24, [(0, .ref 234), (1, sy_i a1)], [sy_i 1, sy_i a1], h)) mj_d_152_23 (fun _ _ => rfl) ?_
      refine sy_sub mj_d_152_24 ?_
      refine sy_st (S' := (mj_m_152, 29, [(0, .ref 234), (1, sy_i a1)], [sy_i (a1 - 1)], h)) mj_d_152_25 (fun _ _ => rfl) ?_
      refine sy_st (S' := (mj_m_152, 30, [(2, sy_i (a1 - 1)), (0, .ref 234), (1, sy_i a1)], [], h)) mj_d_152_29 (fun _ _ => rfl) ?_
      refine sy_st (S' := (mj_m_152, 31, [(2, sy_i (a1 - 1)), (0, .ref 234), (1, sy_i a1)], [.ref 234], h)) mj_d_152_30 (fun _ _ => rfl) ?_
      refine sy_st (S' := (mj_m_152, 32, [(2, sy_i (a1 - 1)), (0, .ref 234), (1, sy_i a1)], [sy_i (a1 - 1), .ref 234], h)) mj_d_152_31 (fun _ _ => rfl) ?_
      refine sy_cv (M' := mj_m_141) (vs := [.ref 234, sy_i (a1 - 1)]) (rest := []) mj_d_152_32 rfl rfl rfl rfl hH rfl rfl ⟨by decide, ⟨Nat.le_of_ble_eq_true rfl, Nat.le_of_ble_eq_true rfl, Nat.le_of_ble_eq_true rfl, Nat.le_of_ble_eq_true rfl, Nat.le_of_ble_eq_true rfl⟩⟩ (dt_R_isHouse (a1 := (a1 - 1)) hH (by omega) (by omega)) ?_
      rintro _ _ ⟨rfl, rfl, b8, b8t⟩
      have q9 := df_R_isHouse_0 (sy_rd h) (a1 - 1)
      show sy_wp (mj_m_152, 35, [(2, sy_i (a1 - 1)), (0, .ref 234), (1, sy_i a1)], [sy_i (dc_R_isHouse (sy_rd h) (a1 - 1))], h) _
      refine sy_ifc mj_d_152_35 rfl ⟨by omega, by omega⟩ (fun (c10 : (dc_R_isHouse (sy_rd h) (a1 - 1)) = 0) => ?_) (fun (c10 : ¬ ((dc_R_isHouse (sy_rd h) (a1 - 1)) = 0)) => ?_)
      · skip
        rw [if_pos c10]
        refine sy_st (S' := (mj_m_152, 43, [(2, sy_i (a1 - 1)), (0, .ref 234), (1, sy_i a1)], [sy_i (-1)], h)) mj_d_152_42 (fun _ _ => rfl) ?_
        exact sy_reti mj_d_152_43 rfl ⟨rfl, rfl, by omega, by omega⟩
      · skip
        rw [if_neg c10]
        refine sy_st (S' := (mj_m_152, 39, [(2, sy_i (a1 - 1)), (0, .ref 234), (1, sy_i a1)], [sy_i (a1 - 1)], h)) mj_d_152_38 (fun _ _ => rfl) ?_
        refine sy_st (S' := (mj_m_152, 43, [(2, sy_i (a1 - 1)), (0, .ref 234), (1, sy_i a1)], [sy_i (a1 - 1)], h)) mj_d_152_39 (fun _ _ => rfl) ?_
        exact sy_reti mj_d_152_43 rfl ⟨rfl, rfl, by omega, by omega⟩
  · skip
    rw [if_pos (Decidable.not_not.mp c2)]
    replace c2 := Decidable.not_not.mp c2
    refine sy_st (S' := (mj_m_152, 9, [(0, .ref 234), (1, sy_i a1)], [sy_i a1], h)) mj_d_152_8 (fun _ _ => rfl) ?_
    refine sy_st (S' := (mj_m_152, 10, [(0, .ref 234), (1, sy_i a1)], [sy_i 1, sy_i a1], h)) mj_d_152_9 (fun _ _ => rfl) ?_
    refine sy_add mj_d_152_10 ?_
    refine sy_st (S' := (mj_m_152, 29, [(0, .ref 234), (1, sy_i a1)], [sy_i (a1 + 1)], h)) mj_d_152_11 (fun _ _ => rfl) ?_
    refine sy_st (S' := (mj_m_152, 30, [(2, sy_i (a1 + 1)), (0, .ref 234), (1, sy_i a1)], [], h)) mj_d_152_29 (fun _ _ => rfl) ?_
    refine sy_st (S' := (mj_m_152, 31, [(2, sy_i (a1 + 1)), (0, .ref 234), (1, sy_i a1)], [.ref 234], h)) mj_d_152_30 (fun _ _ => rfl) ?_
    refine sy_st (S' := (mj_m_152, 32, [(2, sy_i (a1 + 1)), (0, .ref 234), (1, sy_i a1)], [sy_i (a1 + 1), .ref 234], h)) mj_d_152_31 (fun _ _ => rfl) ?_
    refine sy_cv (M' := mj_m_141) (vs := [.ref 234, sy_i (a1 + 1)]) (rest := []) mj_d_152_32 rfl rfl rfl rfl hH rfl rfl ⟨by decide, ⟨Nat.le_of_ble_eq_true rfl, Nat.le_of_ble_eq_true rfl, Nat.le_of_ble_eq_true rfl, Nat.le_of_ble_eq_true rfl, Nat.le_of_ble_eq_true rfl⟩⟩ (dt_R_isHouse (a1 := (a1 + 1)) hH (by omega) (by omega)) ?_
    rintro _ _ ⟨rfl, rfl, b11, b11t⟩
    have q12 := df_R_isHouse_0 (sy_rd h) (a1 + 1)
    show sy_wp (mj_m_152, 35, [(2, sy_i (a1 + 1)), (0, .ref 234), (1, sy_i a1)], [sy_i (dc_R_isHouse (sy_rd h) (a1 + 1))], h) _
    refine sy_ifc mj_d_152_35 rfl ⟨by omega, by omega⟩ (fun (c13 : (dc_R_isHouse (sy_rd h) (a1 + 1)) = 0) => ?_) (fun (c13 : ¬ ((dc_R_isHouse (sy_rd h) (a1 + 1)) = 0)) => ?_)
    · skip
      rw [if_pos c13]
      refine sy_st (S' := (mj_m_152, 43, [(2, sy_i (a1 + 1)), (0, .ref 234), (1, sy_i a1)], [sy_i (-1)], h)) mj_d_152_42 (fun _ _ => rfl) ?_
      exact sy_reti mj_d_152_43 rfl ⟨rfl, rfl, by omega, by omega⟩
    · skip
      rw [if_neg c13]
      refine sy_st (S' := (mj_m_152, 39, [(2, sy_i (a1 + 1)), (0, .ref 234), (1, sy_i a1)], [sy_i (a1 + 1)], h)) mj_d_152_38 (fun _ _ => rfl) ?_
      refine sy_st (S' := (mj_m_152, 43, [(2, sy_i (a1 + 1)), (0, .ref 234), (1, sy_i a1)], [sy_i (a1 + 1)], h)) mj_d_152_39 (fun _ _ => rfl) ?_
      exact sy_reti mj_d_152_43 rfl ⟨rfl, rfl, by omega, by omega⟩
