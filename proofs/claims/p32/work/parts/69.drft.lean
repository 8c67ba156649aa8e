def mj_m_173 : mj_M := (⟨"SootMapsModel", "trade", "(III)I"⟩, prog_13_method_54_code, 8, (some .int), 10, 3, 1, 3, 69)
def mj_m_174 : mj_M := (⟨"SootMapsModel", "findTrade", "(II)I"⟩, prog_13_method_53_code, 6, (some .int), 10, 2, 1, 2, 44)
theorem mj_d_173_0 : decode mj_m_173.2.1 0 = .ok (.aload_n 0, 1) := by decide +kernel
theorem mj_d_173_1 : decode mj_m_173.2.1 1 = .ok (.iload_n 1, 1) := by decide +kernel
theorem mj_d_173_2 : decode mj_m_173.2.1 2 = .ok (.invokevirtual 187, 3) := by decide +kernel
theorem mj_d_173_5 : decode mj_m_173.2.1 5 = .ok (.ifCond .eq 34, 3) := by decide +kernel
theorem mj_d_173_8 : decode mj_m_173.2.1 8 = .ok (.iload_n 2, 1) := by decide +kernel
theorem mj_d_173_9 : decode mj_m_173.2.1 9 = .ok (.i2l, 1) := by decide +kernel
theorem mj_d_173_10 : decode mj_m_173.2.1 10 = .ok (.lconst 0, 1) := by decide +kernel
theorem mj_d_173_11 : decode mj_m_173.2.1 11 = .ok (.iconst 1, 1) := by decide +kernel
theorem mj_d_173_12 : decode mj_m_173.2.1 12 = .ok (.aload_n 0, 1) := by decide +kernel
theorem mj_d_173_13 : decode mj_m_173.2.1 13 = .ok (.getfield 76, 3) := by decide +kernel
theorem mj_d_173_16 : decode mj_m_173.2.1 16 = .ok (.ishl, 1) := by decide +kernel
theorem mj_d_173_17 : decode mj_m_173.2.1 17 = .ok (.iconst 1, 1) := by decide +kernel
theorem mj_d_173_18 : decode mj_m_173.2.1 18 = .ok (.isub, 1) := by decide +kernel
theorem mj_d_173_19 : decode mj_m_173.2.1 19 = .ok (.i2l, 1) := by decide +kernel
theorem mj_d_173_20 : decode mj_m_173.2.1 20 = .ok (.invokestatic 79, 3) := by decide +kernel
theorem mj_d_173_23 : decode mj_m_173.2.1 23 = .ok (.ifCond .eq 16, 3) := by decide +kernel
theorem mj_d_173_26 : decode mj_m_173.2.1 26 = .ok (.iload_n 3, 1) := by decide +kernel
theorem mj_d_173_27 : decode mj_m_173.2.1 27 = .ok (.iconst (-1), 1) := by decide +kernel
theorem mj_d_173_28 : decode mj_m_173.2.1 28 = .ok (.if_icmp .eq 14, 3) := by decide +kernel
theorem mj_d_173_31 : decode mj_m_173.2.1 31 = .ok (.aload_n 0, 1) := by decide +kernel
theorem mj_d_173_32 : decode mj_m_173.2.1 32 = .ok (.iload_n 3, 1) := by decide +kernel
theorem mj_d_173_33 : decode mj_m_173.2.1 33 = .ok (.invokevirtual 174, 3) := by decide +kernel
theorem mj_d_173_36 : decode mj_m_173.2.1 36 = .ok (.ifCond .ne 6, 3) := by decide +kernel
theorem mj_d_173_39 : decode mj_m_173.2.1 39 = .ok (.ldc 177, 2) := by decide +kernel
theorem mj_d_173_41 : decode mj_m_173.2.1 41 = .ok (.ireturn, 1) := by decide +kernel
theorem mj_d_173_42 : decode mj_m_173.2.1 42 = .ok (.iconst 0, 1) := by decide +kernel
theorem mj_d_173_43 : decode mj_m_173.2.1 43 = .ok (.istore 4, 2) := by decide +kernel
theorem mj_d_173_45 : decode mj_m_173.2.1 45 = .ok (.iconst 0, 1) := by decide +kernel
theorem mj_d_173_46 : decode mj_m_173.2.1 46 = .ok (.istore 5, 2) := by decide +kernel
theorem mj_d_173_48 : decode mj_m_173.2.1 48 = .ok (.iload 5, 2) := by decide +kernel
theorem mj_d_173_50 : decode mj_m_173.2.1 50 = .ok (.aload_n 0, 1) := by decide +kernel
theorem mj_d_173_51 : decode mj_m_173.2.1 51 = .ok (.getfield 76, 3) := by decide +kernel
theorem mj_d_173_54 : decode mj_m_173.2.1 54 = .ok (.if_icmp .ge 40, 3) := by decide +kernel
theorem mj_d_173_57 : decode mj_m_173.2.1 57 = .ok (.iload_n 2, 1) := by decide +kernel
theorem mj_d_173_58 : decode mj_m_173.2.1 58 = .ok (.iload 5, 2) := by decide +kernel
theorem mj_d_173_60 : decode mj_m_173.2.1 60 = .ok (.invokestatic 217, 3) := by decide +kernel
theorem mj_d_173_63 : decode mj_m_173.2.1 63 = .ok (.ifCond .eq 25, 3) := by decide +kernel
theorem mj_d_173_66 : decode mj_m_173.2.1 66 = .ok (.aload_n 0, 1) := by decide +kernel
theorem mj_d_173_67 : decode mj_m_173.2.1 67 = .ok (.iload_n 1, 1) := by decide +kernel
theorem mj_d_173_68 : decode mj_m_173.2.1 68 = .ok (.iload 5, 2) := by decide +kernel
theorem mj_d_173_70 : decode mj_m_173.2.1 70 = .ok (.invokevirtual 223, 3) := by decide +kernel
theorem mj_d_173_73 : decode mj_m_173.2.1 73 = .ok (.ifCond .ne 15, 3) := by decide +kernel
theorem mj_d_173_76 : decode mj_m_173.2.1 76 = .ok (.aload_n 0, 1) := by decide +kernel
theorem mj_d_173_77 : decode mj_m_173.2.1 77 = .ok (.getfield 39, 3) := by decide +kernel
theorem mj_d_173_80 : decode mj_m_173.2.1 80 = .ok (.iload 4, 2) := by decide +kernel
theorem mj_d_173_82 : decode mj_m_173.2.1 82 = .ok (.iload 5, 2) := by decide +kernel
theorem mj_d_173_84 : decode mj_m_173.2.1 84 = .ok (.iastore, 1) := by decide +kernel
theorem mj_d_173_85 : decode mj_m_173.2.1 85 = .ok (.iinc 4 1, 3) := by decide +kernel
theorem mj_d_173_88 : decode mj_m_173.2.1 88 = .ok (.iinc 5 1, 3) := by decide +kernel
theorem mj_d_173_91 : decode mj_m_173.2.1 91 = .ok (.goto (-43), 3) := by decide +kernel
theorem mj_d_173_94 : decode mj_m_173.2.1 94 = .ok (.aload_n 0, 1) := by decide +kernel
theorem mj_d_173_95 : decode mj_m_173.2.1 95 = .ok (.iload_n 1, 1) := by decide +kernel
theorem mj_d_173_96 : decode mj_m_173.2.1 96 = .ok (.iload 4, 2) := by decide +kernel
theorem mj_d_173_98 : decode mj_m_173.2.1 98 = .ok (.invokevirtual 259, 3) := by decide +kernel
theorem mj_d_173_101 : decode mj_m_173.2.1 101 = .ok (.istore 5, 2) := by decide +kernel
theorem mj_d_173_103 : decode mj_m_173.2.1 103 = .ok (.iload 5, 2) := by decide +kernel
theorem mj_d_173_105 : decode mj_m_173.2.1 105 = .ok (.ldc 254, 2) := by decide +kernel
theorem mj_d_173_107 : decode mj_m_173.2.1 107 = .ok (.if_icmp .ne 5, 3) := by decide +kernel
theorem mj_d_173_110 : decode mj_m_173.2.1 110 = .ok (.iconst (-1), 1) := by decide +kernel
theorem mj_d_173_111 : decode mj_m_173.2.1 111 = .ok (.ireturn, 1) := by decide +kernel
theorem mj_d_173_112 : decode mj_m_173.2.1 112 = .ok (.iconst (-1), 1) := by decide +kernel
theorem mj_d_173_113 : decode mj_m_173.2.1 113 = .ok (.istore 6, 2) := by decide +kernel
theorem mj_d_173_115 : decode mj_m_173.2.1 115 = .ok (.iconst 0, 1) := by decide +kernel
theorem mj_d_173_116 : decode mj_m_173.2.1 116 = .ok (.istore 7, 2) := by decide +kernel
theorem mj_d_173_118 : decode mj_m_173.2.1 118 = .ok (.iload 7, 2) := by decide +kernel
theorem mj_d_173_120 : decode mj_m_173.2.1 120 = .ok (.iload 4, 2) := by decide +kernel
theorem mj_d_173_122 : decode mj_m_173.2.1 122 = .ok (.if_icmp .ge 34, 3) := by decide +kernel
theorem mj_d_173_125 : decode mj_m_173.2.1 125 = .ok (.aload_n 0, 1) := by decide +kernel
theorem mj_d_173_126 : decode mj_m_173.2.1 126 = .ok (.getfield 39, 3) := by decide +kernel
theorem mj_d_173_129 : decode mj_m_173.2.1 129 = .ok (.iload 7, 2) := by decide +kernel
theorem mj_d_173_131 : decode mj_m_173.2.1 131 = .ok (.iaload, 1) := by decide +kernel
theorem mj_d_173_132 : decode mj_m_173.2.1 132 = .ok (.iload_n 3, 1) := by decide +kernel
theorem mj_d_173_133 : decode mj_m_173.2.1 133 = .ok (.if_icmp .ne 13, 3) := by decide +kernel
theorem mj_d_173_136 : decode mj_m_173.2.1 136 = .ok (.aload_n 0, 1) := by decide +kernel
theorem mj_d_173_137 : decode mj_m_173.2.1 137 = .ok (.getfield 45, 3) := by decide +kernel
theorem mj_d_173_140 : decode mj_m_173.2.1 140 = .ok (.iload 7, 2) := by decide +kernel
theorem mj_d_173_142 : decode mj_m_173.2.1 142 = .ok (.iaload, 1) := by decide +kernel
theorem mj_d_173_143 : decode mj_m_173.2.1 143 = .ok (.goto 5, 3) := by decide +kernel
theorem mj_d_173_146 : decode mj_m_173.2.1 146 = .ok (.iload 6, 2) := by decide +kernel
theorem mj_d_173_148 : decode mj_m_173.2.1 148 = .ok (.istore 6, 2) := by decide +kernel
theorem mj_d_173_150 : decode mj_m_173.2.1 150 = .ok (.iinc 7 1, 3) := by decide +kernel
theorem mj_d_173_153 : decode mj_m_173.2.1 153 = .ok (.goto (-35), 3) := by decide +kernel
theorem mj_d_173_156 : decode mj_m_173.2.1 156 = .ok (.iload_n 3, 1) := by decide +kernel
theorem mj_d_173_157 : decode mj_m_173.2.1 157 = .ok (.iconst (-1), 1) := by decide +kernel
theorem mj_d_173_158 : decode mj_m_173.2.1 158 = .ok (.if_icmp .ne 8, 3) := by decide +kernel
theorem mj_d_173_161 : decode mj_m_173.2.1 161 = .ok (.iload 5, 2) := by decide +kernel
theorem mj_d_173_163 : decode mj_m_173.2.1 163 = .ok (.goto 5, 3) := by decide +kernel
theorem mj_d_173_166 : decode mj_m_173.2.1 166 = .ok (.iload 6, 2) := by decide +kernel
theorem mj_d_173_168 : decode mj_m_173.2.1 168 = .ok (.ireturn, 1) := by decide +kernel
theorem mj_d_174_0 : decode mj_m_174.2.1 0 = .ok (.ldc 254, 2) := by decide +kernel
theorem mj_d_174_2 : decode mj_m_174.2.1 2 = .ok (.istore_n 3, 1) := by decide +kernel
theorem mj_d_174_3 : decode mj_m_174.2.1 3 = .ok (.iconst 0, 1) := by decide +kernel
theorem mj_d_174_4 : decode mj_m_174.2.1 4 = .ok (.istore 4, 2) := by decide +kernel
theorem mj_d_174_6 : decode mj_m_174.2.1 6 = .ok (.iconst 0, 1) := by decide +kernel
theorem mj_d_174_7 : decode mj_m_174.2.1 7 = .ok (.istore 5, 2) := by decide +kernel
theorem mj_d_174_9 : decode mj_m_174.2.1 9 = .ok (.iload 5, 2) := by decide +kernel
theorem mj_d_174_11 : decode mj_m_174.2.1 11 = .ok (.iconst 5, 1) := by decide +kernel
theorem mj_d_174_12 : decode mj_m_174.2.1 12 = .ok (.if_icmp .ge 17, 3) := by decide +kernel
theorem mj_d_174_15 : decode mj_m_174.2.1 15 = .ok (.aload_n 0, 1) := by decide +kernel
theorem mj_d_174_16 : decode mj_m_174.2.1 16 = .ok (.getfield 51, 3) := by decide +kernel
theorem mj_d_174_19 : decode mj_m_174.2.1 19 = .ok (.iload 5, 2) := by decide +kernel
theorem mj_d_174_21 : decode mj_m_174.2.1 21 = .ok (.iconst 0, 1) := by decide +kernel
theorem mj_d_174_22 : decode mj_m_174.2.1 22 = .ok (.iastore, 1) := by decide +kernel
theorem mj_d_174_23 : decode mj_m_174.2.1 23 = .ok (.iinc 5 1, 3) := by decide +kernel
theorem mj_d_174_26 : decode mj_m_174.2.1 26 = .ok (.goto (-17), 3) := by decide +kernel
theorem mj_d_174_29 : decode mj_m_174.2.1 29 = .ok (.aload_n 0, 1) := by decide +kernel
theorem mj_d_174_30 : decode mj_m_174.2.1 30 = .ok (.getfield 48, 3) := by decide +kernel
theorem mj_d_174_33 : decode mj_m_174.2.1 33 = .ok (.iconst 0, 1) := by decide +kernel
theorem mj_d_174_34 : decode mj_m_174.2.1 34 = .ok (.iconst 0, 1) := by decide +kernel
theorem mj_d_174_35 : decode mj_m_174.2.1 35 = .ok (.iastore, 1) := by decide +kernel
theorem mj_d_174_36 : decode mj_m_174.2.1 36 = .ok (.aload_n 0, 1) := by decide +kernel
theorem mj_d_174_37 : decode mj_m_174.2.1 37 = .ok (.getfield 42, 3) := by decide +kernel
theorem mj_d_174_40 : decode mj_m_174.2.1 40 = .ok (.iconst 0, 1) := by decide +kernel
theorem mj_d_174_41 : decode mj_m_174.2.1 41 = .ok (.iconst (-1), 1) := by decide +kernel
theorem mj_d_174_42 : decode mj_m_174.2.1 42 = .ok (.iastore, 1) := by decide +kernel
theorem mj_d_174_43 : decode mj_m_174.2.1 43 = .ok (.iload 4, 2) := by decide +kernel
theorem mj_d_174_45 : decode mj_m_174.2.1 45 = .ok (.ifCond .lt 234, 3) := by decide +kernel
theorem mj_d_174_48 : decode mj_m_174.2.1 48 = .ok (.iload 4, 2) := by decide +kernel
theorem mj_d_174_50 : decode mj_m_174.2.1 50 = .ok (.iload_n 2, 1) := by decide +kernel
theorem mj_d_174_51 : decode mj_m_174.2.1 51 = .ok (.if_icmp .ne 51, 3) := by decide +kernel
theorem mj_d_174_54 : decode mj_m_174.2.1 54 = .ok (.aload_n 0, 1) := by decide +kernel
theorem mj_d_174_55 : decode mj_m_174.2.1 55 = .ok (.getfield 48, 3) := by decide +kernel
theorem mj_d_174_58 : decode mj_m_174.2.1 58 = .ok (.iload 4, 2) := by decide +kernel
theorem mj_d_174_60 : decode mj_m_174.2.1 60 = .ok (.iaload, 1) := by decide +kernel
theorem mj_d_174_61 : decode mj_m_174.2.1 61 = .ok (.iload_n 3, 1) := by decide +kernel
theorem mj_d_174_62 : decode mj_m_174.2.1 62 = .ok (.if_icmp .ge 40, 3) := by decide +kernel
theorem mj_d_174_65 : decode mj_m_174.2.1 65 = .ok (.aload_n 0, 1) := by decide +kernel
theorem mj_d_174_66 : decode mj_m_174.2.1 66 = .ok (.getfield 48, 3) := by decide +kernel
theorem mj_d_174_69 : decode mj_m_174.2.1 69 = .ok (.iload 4, 2) := by decide +kernel
theorem mj_d_174_71 : decode mj_m_174.2.1 71 = .ok (.iaload, 1) := by decide +kernel
theorem mj_d_174_72 : decode mj_m_174.2.1 72 = .ok (.istore_n 3, 1) := by decide +kernel
theorem mj_d_174_73 : decode mj_m_174.2.1 73 = .ok (.iconst 0, 1) := by decide +kernel
theorem mj_d_174_74 : decode mj_m_174.2.1 74 = .ok (.istore 5, 2) := by decide +kernel
theorem mj_d_174_76 : decode mj_m_174.2.1 76 = .ok (.iload 5, 2) := by decide +kernel
theorem mj_d_174_78 : decode mj_m_174.2.1 78 = .ok (.iload_n 2, 1) := by decide +kernel
theorem mj_d_174_79 : decode mj_m_174.2.1 79 = .ok (.if_icmp .ge 23, 3) := by decide +kernel
theorem mj_d_174_82 : decode mj_m_174.2.1 82 = .ok (.aload_n 0, 1) := by decide +kernel
theorem mj_d_174_83 : decode mj_m_174.2.1 83 = .ok (.getfield 45, 3) := by decide +kernel
theorem mj_d_174_86 : decode mj_m_174.2.1 86 = .ok (.iload 5, 2) := by decide +kernel
theorem mj_d_174_88 : decode mj_m_174.2.1 88 = .ok (.aload_n 0, 1) := by decide +kernel
theorem mj_d_174_89 : decode mj_m_174.2.1 89 = .ok (.getfield 42, 3) := by decide +kernel
theorem mj_d_174_92 : decode mj_m_174.2.1 92 = .ok (.iload 5, 2) := by decide +kernel
theorem mj_d_174_94 : decode mj_m_174.2.1 94 = .ok (.iaload, 1) := by decide +kernel
theorem mj_d_174_95 : decode mj_m_174.2.1 95 = .ok (.iastore, 1) := by decide +kernel
theorem mj_d_174_96 : decode mj_m_174.2.1 96 = .ok (.iinc 5 1, 3) := by decide +kernel
theorem mj_d_174_99 : decode mj_m_174.2.1 99 = .ok (.goto (-23), 3) := by decide +kernel
theorem mj_d_174_102 : decode mj_m_174.2.1 102 = .ok (.aload_n 0, 1) := by decide +kernel
theorem mj_d_174_103 : decode mj_m_174.2.1 103 = .ok (.getfield 42, 3) := by decide +kernel
theorem mj_d_174_106 : decode mj_m_174.2.1 106 = .ok (.iload 4, 2) := by decide +kernel
theorem mj_d_174_108 : decode mj_m_174.2.1 108 = .ok (.iaload, 1) := by decide +kernel
theorem mj_d_174_109 : decode mj_m_174.2.1 109 = .ok (.iconst 1, 1) := by decide +kernel
theorem mj_d_174_110 : decode mj_m_174.2.1 110 = .ok (.iadd, 1) := by decide +kernel
theorem mj_d_174_111 : decode mj_m_174.2.1 111 = .ok (.istore 5, 2) := by decide +kernel
theorem mj_d_174_113 : decode mj_m_174.2.1 113 = .ok (.iload 4, 2) := by decide +kernel
theorem mj_d_174_115 : decode mj_m_174.2.1 115 = .ok (.iload_n 2, 1) := by decide +kernel
theorem mj_d_174_116 : decode mj_m_174.2.1 116 = .ok (.if_icmp .ge 59, 3) := by decide +kernel
theorem mj_d_174_119 : decode mj_m_174.2.1 119 = .ok (.iload 5, 2) := by decide +kernel
theorem mj_d_174_121 : decode mj_m_174.2.1 121 = .ok (.aload_n 0, 1) := by decide +kernel
theorem mj_d_174_122 : decode mj_m_174.2.1 122 = .ok (.getfield 83, 3) := by decide +kernel
theorem mj_d_174_125 : decode mj_m_174.2.1 125 = .ok (.if_icmp .ge 50, 3) := by decide +kernel
theorem mj_d_174_128 : decode mj_m_174.2.1 128 = .ok (.iload 5, 2) := by decide +kernel
theorem mj_d_174_130 : decode mj_m_174.2.1 130 = .ok (.iload_n 1, 1) := by decide +kernel
theorem mj_d_174_131 : decode mj_m_174.2.1 131 = .ok (.if_icmp .eq 38, 3) := by decide +kernel
theorem mj_d_174_134 : decode mj_m_174.2.1 134 = .ok (.aload_n 0, 1) := by decide +kernel
theorem mj_d_174_135 : decode mj_m_174.2.1 135 = .ok (.iload 5, 2) := by decide +kernel
theorem mj_d_174_137 : decode mj_m_174.2.1 137 = .ok (.aload_n 0, 1) := by decide +kernel
theorem mj_d_174_138 : decode mj_m_174.2.1 138 = .ok (.getfield 39, 3) := by decide +kernel
theorem mj_d_174_141 : decode mj_m_174.2.1 141 = .ok (.iload 4, 2) := by decide +kernel
theorem mj_d_174_143 : decode mj_m_174.2.1 143 = .ok (.iaload, 1) := by decide +kernel
theorem mj_d_174_144 : decode mj_m_174.2.1 144 = .ok (.invokevirtual 223, 3) := by decide +kernel
theorem mj_d_174_147 : decode mj_m_174.2.1 147 = .ok (.ifCond .eq 22, 3) := by decide +kernel
theorem mj_d_174_150 : decode mj_m_174.2.1 150 = .ok (.aload_n 0, 1) := by decide +kernel
theorem mj_d_174_151 : decode mj_m_174.2.1 151 = .ok (.getfield 48, 3) := by decide +kernel
theorem mj_d_174_154 : decode mj_m_174.2.1 154 = .ok (.iload 4, 2) := by decide +kernel
theorem mj_d_174_156 : decode mj_m_174.2.1 156 = .ok (.iaload, 1) := by decide +kernel
theorem mj_d_174_157 : decode mj_m_174.2.1 157 = .ok (.aload_n 0, 1) := by decide +kernel
theorem mj_d_174_158 : decode mj_m_174.2.1 158 = .ok (.iload_n 1, 1) := by decide +kernel
theorem mj_d_174_159 : decode mj_m_174.2.1 159 = .ok (.iload 5, 2) := by decide +kernel
theorem mj_d_174_161 : decode mj_m_174.2.1 161 = .ok (.invokevirtual 255, 3) := by decide +kernel
theorem mj_d_174_164 : decode mj_m_174.2.1 164 = .ok (.iadd, 1) := by decide +kernel
theorem mj_d_174_165 : decode mj_m_174.2.1 165 = .ok (.iload_n 3, 1) := by decide +kernel
theorem mj_d_174_166 : decode mj_m_174.2.1 166 = .ok (.if_icmp .lt 9, 3) := by decide +kernel
theorem mj_d_174_169 : decode mj_m_174.2.1 169 = .ok (.iinc 5 1, 3) := by decide +kernel
theorem mj_d_174_172 : decode mj_m_174.2.1 172 = .ok (.goto (-59), 3) := by decide +kernel
theorem mj_d_174_175 : decode mj_m_174.2.1 175 = .ok (.iload 4, 2) := by decide +kernel
theorem mj_d_174_177 : decode mj_m_174.2.1 177 = .ok (.iload_n 2, 1) := by decide +kernel
theorem mj_d_174_178 : decode mj_m_174.2.1 178 = .ok (.if_icmp .ge 70, 3) := by decide +kernel
theorem mj_d_174_181 : decode mj_m_174.2.1 181 = .ok (.iload 5, 2) := by decide +kernel
theorem mj_d_174_183 : decode mj_m_174.2.1 183 = .ok (.aload_n 0, 1) := by decide +kernel
theorem mj_d_174_184 : decode mj_m_174.2.1 184 = .ok (.getfield 83, 3) := by decide +kernel
theorem mj_d_174_187 : decode mj_m_174.2.1 187 = .ok (.if_icmp .ge 61, 3) := by decide +kernel
theorem mj_d_174_190 : decode mj_m_174.2.1 190 = .ok (.aload_n 0, 1) := by decide +kernel
theorem mj_d_174_191 : decode mj_m_174.2.1 191 = .ok (.getfield 48, 3) := by decide +kernel
theorem mj_d_174_194 : decode mj_m_174.2.1 194 = .ok (.iload 4, 2) := by decide +kernel
theorem mj_d_174_196 : decode mj_m_174.2.1 196 = .ok (.iconst 1, 1) := by decide +kernel
theorem mj_d_174_197 : decode mj_m_174.2.1 197 = .ok (.iadd, 1) := by decide +kernel
theorem mj_d_174_198 : decode mj_m_174.2.1 198 = .ok (.aload_n 0, 1) := by decide +kernel
theorem mj_d_174_199 : decode mj_m_174.2.1 199 = .ok (.getfield 48, 3) := by decide +kernel
theorem mj_d_174_202 : decode mj_m_174.2.1 202 = .ok (.iload 4, 2) := by decide +kernel
theorem mj_d_174_204 : decode mj_m_174.2.1 204 = .ok (.iaload, 1) := by decide +kernel
theorem mj_d_174_205 : decode mj_m_174.2.1 205 = .ok (.aload_n 0, 1) := by decide +kernel
theorem mj_d_174_206 : decode mj_m_174.2.1 206 = .ok (.iload_n 1, 1) := by decide +kernel
theorem mj_d_174_207 : decode mj_m_174.2.1 207 = .ok (.iload 5, 2) := by decide +kernel
theorem mj_d_174_209 : decode mj_m_174.2.1 209 = .ok (.invokevirtual 255, 3) := by decide +kernel
theorem mj_d_174_212 : decode mj_m_174.2.1 212 = .ok (.iadd, 1) := by decide +kernel
theorem mj_d_174_213 : decode mj_m_174.2.1 213 = .ok (.iastore, 1) := by decide +kernel
theorem mj_d_174_214 : decode mj_m_174.2.1 214 = .ok (.aload_n 0, 1) := by decide +kernel
theorem mj_d_174_215 : decode mj_m_174.2.1 215 = .ok (.getfield 51, 3) := by decide +kernel
theorem mj_d_174_218 : decode mj_m_174.2.1 218 = .ok (.iload 5, 2) := by decide +kernel
theorem mj_d_174_220 : decode mj_m_174.2.1 220 = .ok (.dup2, 1) := by decide +kernel
theorem mj_d_174_221 : decode mj_m_174.2.1 221 = .ok (.iaload, 1) := by decide +kernel
theorem mj_d_174_222 : decode mj_m_174.2.1 222 = .ok (.iconst 1, 1) := by decide +kernel
theorem mj_d_174_223 : decode mj_m_174.2.1 223 = .ok (.iadd, 1) := by decide +kernel
theorem mj_d_174_224 : decode mj_m_174.2.1 224 = .ok (.iastore, 1) := by decide +kernel
theorem mj_d_174_225 : decode mj_m_174.2.1 225 = .ok (.aload_n 0, 1) := by decide +kernel
theorem mj_d_174_226 : decode mj_m_174.2.1 226 = .ok (.getfield 42, 3) := by decide +kernel
theorem mj_d_174_229 : decode mj_m_174.2.1 229 = .ok (.iload 4, 2) := by decide +kernel
theorem mj_d_174_231 : decode mj_m_174.2.1 231 = .ok (.iload 5, 2) := by decide +kernel
theorem mj_d_174_233 : decode mj_m_174.2.1 233 = .ok (.iastore, 1) := by decide +kernel
theorem mj_d_174_234 : decode mj_m_174.2.1 234 = .ok (.iinc 4 1, 3) := by decide +kernel
theorem mj_d_174_237 : decode mj_m_174.2.1 237 = .ok (.aload_n 0, 1) := by decide +kernel
theorem mj_d_174_238 : decode mj_m_174.2.1 238 = .ok (.getfield 42, 3) := by decide +kernel
theorem mj_d_174_241 : decode mj_m_174.2.1 241 = .ok (.iload 4, 2) := by decide +kernel
theorem mj_d_174_243 : decode mj_m_174.2.1 243 = .ok (.iconst (-1), 1) := by decide +kernel
theorem mj_d_174_244 : decode mj_m_174.2.1 244 = .ok (.iastore, 1) := by decide +kernel
theorem mj_d_174_245 : decode mj_m_174.2.1 245 = .ok (.goto 31, 3) := by decide +kernel
theorem mj_d_174_248 : decode mj_m_174.2.1 248 = .ok (.iinc 4 (-1), 3) := by decide +kernel
theorem mj_d_174_251 : decode mj_m_174.2.1 251 = .ok (.aload_n 0, 1) := by decide +kernel
theorem mj_d_174_252 : decode mj_m_174.2.1 252 = .ok (.getfield 51, 3) := by decide +kernel
theorem mj_d_174_255 : decode mj_m_174.2.1 255 = .ok (.iload 4, 2) := by decide +kernel
theorem mj_d_174_257 : decode mj_m_174.2.1 257 = .ok (.ifCond .ge 7, 3) := by decide +kernel
theorem mj_d_174_260 : decode mj_m_174.2.1 260 = .ok (.iconst 0, 1) := by decide +kernel
theorem mj_d_174_261 : decode mj_m_174.2.1 261 = .ok (.goto 10, 3) := by decide +kernel
theorem mj_d_174_264 : decode mj_m_174.2.1 264 = .ok (.aload_n 0, 1) := by decide +kernel
theorem mj_d_174_265 : decode mj_m_174.2.1 265 = .ok (.getfield 42, 3) := by decide +kernel
theorem mj_d_174_268 : decode mj_m_174.2.1 268 = .ok (.iload 4, 2) := by decide +kernel
theorem mj_d_174_270 : decode mj_m_174.2.1 270 = .ok (.iaload, 1) := by decide +kernel
theorem mj_d_174_271 : decode mj_m_174.2.1 271 = .ok (.dup2, 1) := by decide +kernel
theorem mj_d_174_272 : decode mj_m_174.2.1 272 = .ok (.iaload, 1) := by decide +kernel
theorem mj_d_174_273 : decode mj_m_174.2.1 273 = .ok (.iconst 1, 1) := by decide +kernel
theorem mj_d_174_274 : decode mj_m_174.2.1 274 = .ok (.isub, 1) := by decide +kernel
theorem mj_d_174_275 : decode mj_m_174.2.1 275 = .ok (.iastore, 1) := by decide +kernel
theorem mj_d_174_276 : decode mj_m_174.2.1 276 = .ok (.goto (-233), 3) := by decide +kernel
theorem mj_d_174_279 : decode mj_m_174.2.1 279 = .ok (.iload_n 3, 1) := by decide +kernel
theorem mj_d_174_280 : decode mj_m_174.2.1 280 = .ok (.ireturn, 1) := by decide +kernel
def dc_R_findTrade_113 (k43 : sg_S → Int → Int → Int → Int → sg_S × Int) (n : Nat) : sg_S → Int → Int → Int → Int → Int → sg_S × Int := Nat.rec (fun (s : sg_S) l1 l2 l3 l4 l5 => (s, 0)) (fun _ ih => fun s l1 l2 l3 l4 l5 => (if l2 ≤ l4 then (if l2 ≤ l4 then (if 0 ≤ (l4 + (-1)) then (k43 (sg_up s 247 ((s 244 ((l4 + (-1)).toNat)).toNat) (sy_w ((s 247 ((s 244 ((l4 + (-1)).toNat)).toNat)) - 1))) l1 l2 l3 (l4 + (-1))) else (k43 (sg_up s 247 0 (sy_w ((s 247 0) - 1))) l1 l2 l3 (l4 + (-1)))) else (if (s 234 7) ≤ l5 then (if 0 ≤ (l4 + (-1)) then (k43 (sg_up s 247 ((s 244 ((l4 + (-1)).toNat)).toNat) (sy_w ((s 247 ((s 244 ((l4 + (-1)).toNat)).toNat)) - 1))) l1 l2 l3 (l4 + (-1))) else (k43 (sg_up s 247 0 (sy_w ((s 247 0) - 1))) l1 l2 l3 (l4 + (-1)))) else (k43 (sg_up (sg_up (sg_up (sg_up s 246 ((l4 + 1).toNat) ((s 246 ((l4).toNat)) + (dc_R_moreOf s l1 l5))) 247 ((l5).toNat) (sy_w ((s 247 ((l5).toNat)) + 1))) 244 ((l4).toNat) l5) 244 ((l4 + 1).toNat) (-1)) l1 l2 l3 (l4 + 1)))) else (if (s 234 7) ≤ l5 then (if l2 ≤ l4 then (if 0 ≤ (l4 + (-1)) then (k43 (sg_up s 247 ((s 244 ((l4 + (-1)).toNat)).toNat) (sy_w ((s 247 ((s 244 ((l4 + (-1)).toNat)).toNat)) - 1))) l1 l2 l3 (l4 + (-1))) else (k43 (sg_up s 247 0 (sy_w ((s 247 0) - 1))) l1 l2 l3 (l4 + (-1)))) else (if (s 234 7) ≤ l5 then (if 0 ≤ (l4 + (-1)) then (k43 (sg_up s 247 ((s 244 ((l4 + (-1)).toNat)).toNat) (sy_w ((s 247 ((s 244 ((l4 + (-1)).toNat)).toNat)) - 1))) l1 l2 l3 (l4 + (-1))) else (k43 (sg_up s 247 0 (sy_w ((s 247 0) - 1))) l1 l2 l3 (l4 + (-1)))) else (k43 (sg_up (sg_up (sg_up (sg_up s 246 ((l4 + 1).toNat) ((s 246 ((l4).toNat)) + (dc_R_moreOf s l1 l5))) 247 ((l5).toNat) (sy_w ((s 247 ((l5).toNat)) + 1))) 244 ((l4).toNat) l5) 244 ((l4 + 1).toNat) (-1)) l1 l2 l3 (l4 + 1)))) else (if l5 = l1 then (ih s l1 l2 l3 l4 (l5 + 1)) else (if (dc_R_isKnown s l5 (s 243 ((l4).toNat))) = 0 then (ih s l1 l2 l3 l4 (l5 + 1)) else (if ((s 246 ((l4).toNat)) + (dc_R_moreOf s l1 l5)) < l3 then (if l2 ≤ l4 then (if 0 ≤ (l4 + (-1)) then (k43 (sg_up s 247 ((s 244 ((l4 + (-1)).toNat)).toNat) (sy_w ((s 247 ((s 244 ((l4 + (-1)).toNat)).toNat)) - 1))) l1 l2 l3 (l4 + (-1))) else (k43 (sg_up s 247 0 (sy_w ((s 247 0) - 1))) l1 l2 l3 (l4 + (-1)))) else (if (s 234 7) ≤ l5 then (if 0 ≤ (l4 + (-1)) then (k43 (sg_up s 247 ((s 244 ((l4 + (-1)).toNat)).toNat) (sy_w ((s 247 ((s 244 ((l4 + (-1)).toNat)).toNat)) - 1))) l1 l2 l3 (l4 + (-1))) else (k43 (sg_up s 247 0 (sy_w ((s 247 0) - 1))) l1 l2 l3 (l4 + (-1)))) else (k43 (sg_up (sg_up (sg_up (sg_up s 246 ((l4 + 1).toNat) ((s 246 ((l4).toNat)) + (dc_R_moreOf s l1 l5))) 247 ((l5).toNat) (sy_w ((s 247 ((l5).toNat)) + 1))) 244 ((l4).toNat) l5) 244 ((l4 + 1).toNat) (-1)) l1 l2 l3 (l4 + 1)))) else (ih s l1 l2 l3 l4 (l5 + 1)))))))) n
theorem dc_R_findTrade_113_s (k43 : sg_S → Int → Int → Int → Int → sg_S × Int) (n : Nat) (s : sg_S) (l1 l2 l3 l4 l5 : Int) : dc_R_findTrade_113 k43 (n + 1) s l1 l2 l3 l4 l5 = (if l2 ≤ l4 then (if l2 ≤ l4 then (if 0 ≤ (l4 + (-1)) then (k43 (sg_up s 247 ((s 244 ((l4 + (-1)).toNat)).toNat) (sy_w ((s 247 ((s 244 ((l4 + (-1)).toNat)).toNat)) - 1))) l1 l2 l3 (l4 + (-1))) else (k43 (sg_up s 247 0 (sy_w ((s 247 0) - 1))) l1 l2 l3 (l4 + (-1)))) else (if (s 234 7) ≤ l5 then (if 0 ≤ (l4 + (-1)) then (k43 (sg_up s 247 ((s 244 ((l4 + (-1)).toNat)).toNat) (sy_w ((s 247 ((s 244 ((l4 + (-1)).toNat)).toNat)) - 1))) l1 l2 l3 (l4 + (-1))) else (k43 (sg_up s 247 0 (sy_w ((s 247 0) - 1))) l1 l2 l3 (l4 + (-1)))) else (k43 (sg_up (sg_up (sg_up (sg_up s 246 ((l4 + 1).toNat) ((s 246 ((l4).toNat)) + (dc_R_moreOf s l1 l5))) 247 ((l5).toNat) (sy_w ((s 247 ((l5).toNat)) + 1))) 244 ((l4).toNat) l5) 244 ((l4 + 1).toNat) (-1)) l1 l2 l3 (l4 + 1)))) else (if (s 234 7) ≤ l5 then (if l2 ≤ l4 then (if 0 ≤ (l4 + (-1)) then (k43 (sg_up s 247 ((s 244 ((l4 + (-1)).toNat)).toNat) (sy_w ((s 247 ((s 244 ((l4 + (-1)).toNat)).toNat)) - 1))) l1 l2 l3 (l4 + (-1))) else (k43 (sg_up s 247 0 (sy_w ((s 247 0) - 1))) l1 l2 l3 (l4 + (-1)))) else (if (s 234 7) ≤ l5 then (if 0 ≤ (l4 + (-1)) then (k43 (sg_up s 247 ((s 244 ((l4 + (-1)).toNat)).toNat) (sy_w ((s 247 ((s 244 ((l4 + (-1)).toNat)).toNat)) - 1))) l1 l2 l3 (l4 + (-1))) else (k43 (sg_up s 247 0 (sy_w ((s 247 0) - 1))) l1 l2 l3 (l4 + (-1)))) else (k43 (sg_up (sg_up (sg_up (sg_up s 246 ((l4 + 1).toNat) ((s 246 ((l4).toNat)) + (dc_R_moreOf s l1 l5))) 247 ((l5).toNat) (sy_w ((s 247 ((l5).toNat)) + 1))) 244 ((l4).toNat) l5) 244 ((l4 + 1).toNat) (-1)) l1 l2 l3 (l4 + 1)))) else (if l5 = l1 then ((dc_R_findTrade_113 k43 n) s l1 l2 l3 l4 (l5 + 1)) else (if (dc_R_isKnown s l5 (s 243 ((l4).toNat))) = 0 then ((dc_R_findTrade_113 k43 n) s l1 l2 l3 l4 (l5 + 1)) else (if ((s 246 ((l4).toNat)) + (dc_R_moreOf s l1 l5)) < l3 then (if l2 ≤ l4 then (if 0 ≤ (l4 + (-1)) then (k43 (sg_up s 247 ((s 244 ((l4 + (-1)).toNat)).toNat) (sy_w ((s 247 ((s 244 ((l4 + (-1)).toNat)).toNat)) - 1))) l1 l2 l3 (l4 + (-1))) else (k43 (sg_up s 247 0 (sy_w ((s 247 0) - 1))) l1 l2 l3 (l4 + (-1)))) else (if (s 234 7) ≤ l5 then (if 0 ≤ (l4 + (-1)) then (k43 (sg_up s 247 ((s 244 ((l4 + (-1)).toNat)).toNat) (sy_w ((s 247 ((s 244 ((l4 + (-1)).toNat)).toNat)) - 1))) l1 l2 l3 (l4 + (-1))) else (k43 (sg_up s 247 0 (sy_w ((s 247 0) - 1))) l1 l2 l3 (l4 + (-1)))) else (k43 (sg_up (sg_up (sg_up (sg_up s 246 ((l4 + 1).toNat) ((s 246 ((l4).toNat)) + (dc_R_moreOf s l1 l5))) 247 ((l5).toNat) (sy_w ((s 247 ((l5).toNat)) + 1))) 244 ((l4).toNat) l5) 244 ((l4 + 1).toNat) (-1)) l1 l2 l3 (l4 + 1)))) else ((dc_R_findTrade_113 k43 n) s l1 l2 l3 l4 (l5 + 1))))))) := rfl
def dc_R_findTrade_76 (k43 : sg_S → Int → Int → Int → Int → sg_S × Int) (n : Nat) : sg_S → Int → Int → Int → Int → Int → sg_S × Int := Nat.rec (fun (s : sg_S) l1 l2 l3 l4 l5 => (s, 0)) (fun _ ih => fun s l1 l2 l3 l4 l5 => (if l2 ≤ l5 then (dc_R_findTrade_113 k43 6 s l1 l2 l3 l4 ((s 244 ((l4).toNat)) + 1)) else (ih (sg_up s 245 ((l5).toNat) (s 244 ((l5).toNat))) l1 l2 l3 l4 (l5 + 1)))) n
theorem dc_R_findTrade_76_s (k43 : sg_S → Int → Int → Int → Int → sg_S × Int) (n : Nat) (s : sg_S) (l1 l2 l3 l4 l5 : Int) : dc_R_findTrade_76 k43 (n + 1) s l1 l2 l3 l4 l5 = (if l2 ≤ l5 then (dc_R_findTrade_113 k43 6 s l1 l2 l3 l4 ((s 244 ((l4).toNat)) + 1)) else ((dc_R_findTrade_76 k43 n) (sg_up s 245 ((l5).toNat) (s 244 ((l5).toNat))) l1 l2 l3 l4 (l5 + 1))) := rfl
def dc_R_findTrade_43 (n : Nat) : sg_S → Int → Int → Int → Int → sg_S × Int := Nat.rec (fun (s : sg_S) l1 l2 l3 l4 => (s, 0)) (fun _ ih => fun s l1 l2 l3 l4 => (if l4 < 0 then (s, l3) else (if l4 = l2 then (if l3 ≤ (s 246 ((l4).toNat)) then (dc_R_findTrade_113 ih 6 s l1 l2 l3 l4 ((s 244 ((l4).toNat)) + 1)) else (dc_R_findTrade_76 ih 10 s l1 l2 (s 246 ((l4).toNat)) l4 0)) else (dc_R_findTrade_113 ih 6 s l1 l2 l3 l4 ((s 244 ((l4).toNat)) + 1))))) n
theorem dc_R_findTrade_43_s (n : Nat) (s : sg_S) (l1 l2 l3 l4 : Int) : dc_R_findTrade_43 (n + 1) s l1 l2 l3 l4 = (if l4 < 0 then (s, l3) else (if l4 = l2 then (if l3 ≤ (s 246 ((l4).toNat)) then (dc_R_findTrade_113 (dc_R_findTrade_43 n) 6 s l1 l2 l3 l4 ((s 244 ((l4).toNat)) + 1)) else (dc_R_findTrade_76 (dc_R_findTrade_43 n) 10 s l1 l2 (s 246 ((l4).toNat)) l4 0)) else (dc_R_findTrade_113 (dc_R_findTrade_43 n) 6 s l1 l2 l3 l4 ((s 244 ((l4).toNat)) + 1)))) := rfl
def dc_R_findTrade_9 (n : Nat) : sg_S → Int → Int → Int → Int → Int → sg_S × Int := Nat.rec (fun (s : sg_S) l1 l2 l3 l4 l5 => (s, 0)) (fun _ ih => fun s l1 l2 l3 l4 l5 => (if 5 ≤ l5 then (dc_R_findTrade_43 3990767617 (sg_up (sg_up s 246 0 0) 244 0 (-1)) l1 l2 l3 l4) else (ih (sg_up s 247 ((l5).toNat) 0) l1 l2 l3 l4 (l5 + 1)))) n
theorem dc_R_findTrade_9_s (n : Nat) (s : sg_S) (l1 l2 l3 l4 l5 : Int) : dc_R_findTrade_9 (n + 1) s l1 l2 l3 l4 l5 = (if 5 ≤ l5 then (dc_R_findTrade_43 3990767617 (sg_up (sg_up s 246 0 0) 244 0 (-1)) l1 l2 l3 l4) else ((dc_R_findTrade_9 n) (sg_up s 247 ((l5).toNat) 0) l1 l2 l3 l4 (l5 + 1))) := rfl
def dc_R_findTrade (s : sg_S) (a1 a2 : Int) : sg_S × Int := (dc_R_findTrade_9 6 s a1 a2 1000000 0 0)
def dw_R_findTrade (a k : Nat) : Bool := (a == 246) || (a == 244) || (a == 247) || (a == 245)
theorem dr_R_findTrade_113 (a k : Nat) (h : dw_R_findTrade a k = false) {k43 : sg_S → Int → Int → Int → Int → sg_S × Int} (hk43 : ∀ s y0 y1 y2 y3, (k43 s y0 y1 y2 y3).1 a k = s a k) : ∀ (n : Nat) (s : sg_S) (l1 l2 l3 l4 l5 : Int), (dc_R_findTrade_113 k43 n s l1 l2 l3 l4 l5).1 a k = s a k := by
  have h0 := h
  unfold dw_R_findTrade at h
  simp only [Bool.or_eq_false_iff] at h
  obtain ⟨⟨⟨h1, h2⟩, h3⟩, h4⟩ := h
  intro n
  induction n with
  | zero => intro s l1 l2 l3 l4 l5; rfl
  | succ n ih =>
    intro s l1 l2 l3 l4 l5
    rw [dc_R_findTrade_113_s]
    (repeat' split) <;> simp only [(fun s l z => sg_upa (s := s) (l := l) (z := z) (k := k) h1), (fun s l z => sg_upa (s := s) (l := l) (z := z) (k := k) h2), (fun s l z => sg_upa (s := s) (l := l) (z := z) (k := k) h3), (fun s l z => sg_upa (s := s) (l := l) (z := z) (k := k) h4), ih, hk43]
theorem dr_R_findTrade_76 (a k : Nat) (h : dw_R_findTrade a k = false) {k43 : sg_S → Int → Int → Int → Int → sg_S × Int} (hk43 : ∀ s y0 y1 y2 y3, (k43 s y0 y1 y2 y3).1 a k = s a k) : ∀ (n : Nat) (s : sg_S) (l1 l2 l3 l4 l5 : Int), (dc_R_findTrade_76 k43 n s l1 l2 l3 l4 l5).1 a k = s a k := by
  have h0 := h
  unfold dw_R_findTrade at h
  simp only [Bool.or_eq_false_iff] at h
  obtain ⟨⟨⟨h1, h2⟩, h3⟩, h4⟩ := h
  intro n
  induction n with
  | zero => intro s l1 l2 l3 l4 l5; rfl
  | succ n ih =>
    intro s l1 l2 l3 l4 l5
    rw [dc_R_findTrade_76_s]
    (repeat' split) <;> simp only [(fun s l z => sg_upa (s := s) (l := l) (z := z) (k := k) h1), (fun s l z => sg_upa (s := s) (l := l) (z := z) (k := k) h2), (fun s l z => sg_upa (s := s) (l := l) (z := z) (k := k) h3), (fun s l z => sg_upa (s := s) (l := l) (z := z) (k := k) h4), ih, hk43, (dr_R_findTrade_113 a k h0 hk43)]
theorem dr_R_findTrade_43 (a k : Nat) (h : dw_R_findTrade a k = false) : ∀ (n : Nat) (s : sg_S) (l1 l2 l3 l4 : Int), (dc_R_findTrade_43 n s l1 l2 l3 l4).1 a k = s a k := by
  have h0 := h
  unfold dw_R_findTrade at h
  simp only [Bool.or_eq_false_iff] at h
  obtain ⟨⟨⟨h1, h2⟩, h3⟩, h4⟩ := h
  intro n
  induction n with
  | zero => intro s l1 l2 l3 l4; rfl
  | succ n ih =>
    intro s l1 l2 l3 l4
    rw [dc_R_findTrade_43_s]
    (repeat' split) <;> simp only [(fun s l z => sg_upa (s := s) (l := l) (z := z) (k := k) h1), (fun s l z => sg_upa (s := s) (l := l) (z := z) (k := k) h2), (fun s l z => sg_upa (s := s) (l := l) (z := z) (k := k) h3), (fun s l z => sg_upa (s := s) (l := l) (z := z) (k := k) h4), ih, (dr_R_findTrade_113 a k h0 ih), (dr_R_findTrade_76 a k h0 ih)]
theorem dr_R_findTrade_9 (a k : Nat) (h : dw_R_findTrade a k = false) : ∀ (n : Nat) (s : sg_S) (l1 l2 l3 l4 l5 : Int), (dc_R_findTrade_9 n s l1 l2 l3 l4 l5).1 a k = s a k := by
  have h0 := h
  unfold dw_R_findTrade at h
  simp only [Bool.or_eq_false_iff] at h
  obtain ⟨⟨⟨h1, h2⟩, h3⟩, h4⟩ := h
  intro n
  induction n with
  | zero => intro s l1 l2 l3 l4 l5; rfl
  | succ n ih =>
    intro s l1 l2 l3 l4 l5
    rw [dc_R_findTrade_9_s]
    (repeat' split) <;> simp only [(fun s l z => sg_upa (s := s) (l := l) (z := z) (k := k) h1), (fun s l z => sg_upa (s := s) (l := l) (z := z) (k := k) h2), (fun s l z => sg_upa (s := s) (l := l) (z := z) (k := k) h3), (fun s l z => sg_upa (s := s) (l := l) (z := z) (k := k) h4), ih, (dr_R_findTrade_43 a k h0)]
theorem dr_R_findTrade (s : sg_S) (a1 a2 : Int) (a k : Nat) (h : dw_R_findTrade a k = false) : (dc_R_findTrade s a1 a2).1 a k = s a k := by
  have h0 := h
  unfold dw_R_findTrade at h
  simp only [Bool.or_eq_false_iff] at h
  obtain ⟨⟨⟨h1, h2⟩, h3⟩, h4⟩ := h
  unfold dc_R_findTrade
  (repeat' split) <;> simp only [(fun s l z => sg_upa (s := s) (l := l) (z := z) (k := k) h1), (fun s l z => sg_upa (s := s) (l := l) (z := z) (k := k) h2), (fun s l z => sg_upa (s := s) (l := l) (z := z) (k := k) h3), (fun s l z => sg_upa (s := s) (l := l) (z := z) (k := k) h4), (dr_R_findTrade_43 a k h0), (dr_R_findTrade_9 a k h0)]
set_option maxRecDepth 100000 in
theorem dt_R_findTrade_113 {k43 : sg_S → Int → Int → Int → Int → sg_S × Int} {n43 : Nat} (hk43 : ∀ {h1 : mj_H}, sy_H h1 → ∀ {l1 l2 l3 l4 : Int}, 0 ≤ l1 → l1 ≤ 4 → 0 ≤ l2 → l2 ≤ 9 → 0 ≤ l3 → l3 ≤ 1000000 → (-1) ≤ l4 → l4 ≤ 9 → ft_I (sy_rd h1) l4 → l4 ≤ l2 → ((ft_M (sy_rd h1) l4 : Nat) : Int) < (n43 : Int) → sy_wp (mj_m_174, 43, [(0, .ref 234), (1, sy_i l1), (2, sy_i l2), (3, sy_i l3), (4, sy_i l4)], [], h1) (dq2 (0) (1000000) (k43 (sy_rd h1) l1 l2 l3 l4))) : ∀ (n : Nat) {h : mj_H} (hH : sy_H h) {l1 l2 l3 l4 l5 : Int} (b_l1 : 0 ≤ l1) (t_l1 : l1 ≤ 4) (b_l2 : 0 ≤ l2) (t_l2 : l2 ≤ 9) (b_l3 : 0 ≤ l3) (t_l3 : l3 ≤ 1000000) (b_l4 : 0 ≤ l4) (t_l4 : l4 ≤ 9) (b_l5 : 0 ≤ l5) (t_l5 : l5 ≤ 5) (i0 : ft_I (sy_rd h) l4) (i1 : l4 ≤ l2) (i2 : ((ft_M (sy_rd h) l4 : Nat) : Int) ≤ (n43 : Int)) (i3 : (sy_rd h 244 (l4).toNat) < l5) (hm : 5 - l5 < (n : Int)), sy_wp (mj_m_174, 113, [(0, .ref 234), (1, sy_i l1), (2, sy_i l2), (3, sy_i l3), (4, sy_i l4), (5, sy_i l5)], [], h) (dq2 (0) (1000000) (dc_R_findTrade_113 k43 n (sy_rd h) l1 l2 l3 l4 l5)) := by
  intro n
  induction n with
  | zero =>
    intro h hH l1 l2 l3 l4 l5 b_l1 t_l1 b_l2 t_l2 b_l3 t_l3 b_l4 t_l4 b_l5 t_l5 i0 i1 i2 i3 hm
    have n234_7 := hH.bd (a := 234) (k := 7) rfl (by decide) rfl
    exact absurd hm (by omega)
  | succ n ih =>
    intro h hH l1 l2 l3 l4 l5 b_l1 t_l1 b_l2 t_l2 b_l3 t_l3 b_l4 t_l4 b_l5 t_l5 i0 i1 i2 i3 hm
    rw [dc_R_findTrade_113_s]
    have n234_7 := hH.bd (a := 234) (k := 7) rfl (by decide) rfl
    have gb := hH.bd (a := 244) (k := (l4).toNat) rfl (by omega) (ab_el_1 rfl _)
    have cn := i0.2 (l4).toNat (by omega)
    refine sy_st (S' := (mj_m_174, 115, [(0, .ref 234), (1, sy_i l1), (2, sy_i l2), (3, sy_i l3), (4, sy_i l4), (5, sy_i l5)], [sy_i l4], h)) mj_d_174_113 (fun _ _ => rfl) ?_
    refine sy_st (S' := (mj_m_174, 116, [(0, .ref 234), (1, sy_i l1), (2, sy_i l2), (3, sy_i l3), (4, sy_i l4), (5, sy_i l5)], [sy_i l2, sy_i l4], h)) mj_d_174_115 (fun _ _ => rfl) ?_
    refine sy_icm mj_d_174_116 rfl ⟨by omega, by omega⟩ ⟨by omega, by omega⟩ (fun (c1 : l2 ≤ l4) => ?_) (fun (c1 : ¬ (l2 ≤ l4)) => ?_)
    · skip
      rw [if_pos c1]
      refine sy_st (S' := (mj_m_174, 177, [(0, .ref 234), (1, sy_i l1), (2, sy_i l2), (3, sy_i l3), (4, sy_i l4), (5, sy_i l5)], [sy_i l4], h)) mj_d_174_175 (fun _ _ => rfl) ?_
      refine sy_st (S' := (mj_m_174, 178, [(0, .ref 234), (1, sy_i l1), (2, sy_i l2), (3, sy_i l3), (4, sy_i l4), (5, sy_i l5)], [sy_i l2, sy_i l4], h)) mj_d_174_177 (fun _ _ => rfl) ?_
      refine sy_icm mj_d_174_178 rfl ⟨by omega, by omega⟩ ⟨by omega, by omega⟩ (fun (c2 : l2 ≤ l4) => ?_) (fun (c2 : ¬ (l2 ≤ l4)) => ?_)
      · skip
        rw [if_pos c2]
        refine sy_inc (a := l4) (lv' := [(4, sy_i (l4 + (-1))), (0, .ref 234), (1, sy_i l1), (2, sy_i l2), (3, sy_i l3), (5, sy_i l5)]) mj_d_174_248 (Nat.le_of_ble_eq_true rfl) rfl rfl ?_
        refine sy_st (S' := (mj_m_174, 252, [(4, sy_i (l4 + (-1))), (0, .ref 234), (1, sy_i l1), (2, sy_i l2), (3, sy_i l3), (5, sy_i l5)], [.ref 234], h)) mj_d_174_251 (fun _ _ => rfl) ?_
        refine sy_gr2 (b := 247) mj_d_174_252 rfl rfl (by decide) rfl rfl hH ?_
        refine sy_st (S' := (mj_m_174, 257, [(4, sy_i (l4 + (-1))), (0, .ref 234), (1, sy_i l1), (2, sy_i l2), (3, sy_i l3), (5, sy_i l5)], [sy_i (l4 + (-1)), .ref 247], h)) mj_d_174_255 (fun _ _ => rfl) ?_
        refine sy_ifc mj_d_174_257 rfl ⟨by omega, by omega⟩ (fun (c3 : 0 ≤ (l4 + (-1))) => ?_) (fun (c3 : ¬ (0 ≤ (l4 + (-1)))) => ?_)
        · skip
          rw [if_pos c3]
          have gm := i0.1 ((l4 + (-1))).toNat (by omega)
          refine sy_st (S' := (mj_m_174, 265, [(4, sy_i (l4 + (-1))), (0, .ref 234), (1, sy_i l1), (2, sy_i l2), (3, sy_i l3), (5, sy_i l5)], [.ref 234, .ref 247], h)) mj_d_174_264 (fun _ _ => rfl) ?_
          refine sy_gr2 (b := 244) mj_d_174_265 rfl rfl (by decide) rfl rfl hH ?_
          refine sy_st (S' := (mj_m_174, 270, [(4, sy_i (l4 + (-1))), (0, .ref 234), (1, sy_i l1), (2, sy_i l2), (3, sy_i l3), (5, sy_i l5)], [sy_i (l4 + (-1)), .ref 244, .ref 247], h)) mj_d_174_268 (fun _ _ => rfl) ?_
          refine sy_ia mj_d_174_270 rfl (by decide) (by omega) (by omega) (ab_el_1 rfl _) hH ?_
          rintro _ rfl bx4 tx4
          refine sy_st (S' := (mj_m_174, 272, [(4, sy_i (l4 + (-1))), (0, .ref 234), (1, sy_i l1), (2, sy_i l2), (3, sy_i l3), (5, sy_i l5)], [sy_i (sy_rd h 244 ((l4 + (-1)).toNat)), .ref 247, sy_i (sy_rd h 244 ((l4 + (-1)).toNat)), .ref 247], h)) mj_d_174_271 (fun _ _ => rfl) ?_
          refine sy_ia mj_d_174_272 rfl (by decide) (by omega) (by omega) (ab_el_1 rfl _) hH ?_
          rintro _ rfl bx5 tx5
          refine sy_st (S' := (mj_m_174, 274, [(4, sy_i (l4 + (-1))), (0, .ref 234), (1, sy_i l1), (2, sy_i l2), (3, sy_i l3), (5, sy_i l5)], [sy_i 1, sy_i (sy_rd h 247 ((sy_rd h 244 ((l4 + (-1)).toNat)).toNat)), sy_i (sy_rd h 244 ((l4 + (-1)).toNat)), .ref 247], h)) mj_d_174_273 (fun _ _ => rfl) ?_
          refine sy_sub mj_d_174_274 ?_
          refine sg_iasw (v := ((sy_rd h 247 ((sy_rd h 244 ((l4 + (-1)).toNat)).toNat)) - 1)) mj_d_174_275 rfl (by decide) (by omega) (by omega) (ab_el_1 rfl _) hH ?_
          intro h6 th6 eh6
          refine sy_st (S' := (mj_m_174, 43, [(4, sy_i (l4 + (-1))), (0, .ref 234), (1, sy_i l1), (2, sy_i l2), (3, sy_i l3), (5, sy_i l5)], [], h6)) mj_d_174_276 (fun _ _ => rfl) ?_
          refine sy_lv (lv := [(0, .ref 234), (1, sy_i l1), (2, sy_i l2), (3, sy_i l3), (4, sy_i (l4 + (-1)))]) rfl ⟨rfl, rfl, rfl, rfl, rfl, trivial⟩ ?_
          rw [← eh6]
          exact hk43 th6 (by first | omega | assumption) (by first | omega | assumption) (by first | omega | assumption) (by first | omega | assumption) (by first | omega | assumption) (by first | omega | assumption) (by first | omega | assumption) (by first | omega | assumption) (by rw [eh6]; exact (ft_ret i0 (by omega) (by omega) (by omega)).2) (by first | omega | assumption) (by rw [eh6]; exact Int.lt_of_lt_of_le (Int.ofNat_lt.mpr (ft_ret i0 (by omega) (by omega) (by omega)).1) i2)
        · skip
          rw [if_neg c3]
          refine sy_st (S' := (mj_m_174, 261, [(4, sy_i (l4 + (-1))), (0, .ref 234), (1, sy_i l1), (2, sy_i l2), (3, sy_i l3), (5, sy_i l5)], [sy_i 0, .ref 247], h)) mj_d_174_260 (fun _ _ => rfl) ?_
          refine sy_st (S' := (mj_m_174, 271, [(4, sy_i (l4 + (-1))), (0, .ref 234), (1, sy_i l1), (2, sy_i l2), (3, sy_i l3), (5, sy_i l5)], [sy_i 0, .ref 247], h)) mj_d_174_261 (fun _ _ => rfl) ?_
          refine sy_st (S' := (mj_m_174, 272, [(4, sy_i (l4 + (-1))), (0, .ref 234), (1, sy_i l1), (2, sy_i l2), (3, sy_i l3), (5, sy_i l5)], [sy_i 0, .ref 247, sy_i 0, .ref 247], h)) mj_d_174_271 (fun _ _ => rfl) ?_
          refine sy_ia mj_d_174_272 rfl (by decide) (by omega) (by omega) (ab_el_1 rfl _) hH ?_
          intro x7 ex7 bx7 tx7
          replace ex7 : x7 = sy_rd h 247 0 := ex7
          subst ex7
          refine sy_st (S' := (mj_m_174, 274, [(4, sy_i (l4 + (-1))), (0, .ref 234), (1, sy_i l1), (2, sy_i l2), (3, sy_i l3), (5, sy_i l5)], [sy_i 1, sy_i (sy_rd h 247 0), sy_i 0, .ref 247], h)) mj_d_174_273 (fun _ _ => rfl) ?_
          refine sy_sub mj_d_174_274 ?_
          refine sg_iasw (v := ((sy_rd h 247 0) - 1)) mj_d_174_275 rfl (by decide) (by omega) (by omega) (ab_el_1 rfl _) hH ?_
          intro h8 th8 eh8
          replace eh8 : sy_rd h8 = sg_up (sy_rd h) 247 0 (sy_w ((sy_rd h 247 0) - 1)) := eh8
          refine sy_st (S' := (mj_m_174, 43, [(4, sy_i (l4 + (-1))), (0, .ref 234), (1, sy_i l1), (2, sy_i l2), (3, sy_i l3), (5, sy_i l5)], [], h8)) mj_d_174_276 (fun _ _ => rfl) ?_
          refine sy_lv (lv := [(0, .ref 234), (1, sy_i l1), (2, sy_i l2), (3, sy_i l3), (4, sy_i (l4 + (-1)))]) rfl ⟨rfl, rfl, rfl, rfl, rfl, trivial⟩ ?_
          rw [← eh8]
          exact hk43 th8 (by first | omega | assumption) (by first | omega | assumption) (by first | omega | assumption) (by first | omega | assumption) (by first | omega | assumption) (by first | omega | assumption) (by first | omega | assumption) (by first | omega | assumption) (by rw [eh8]; exact (ft_ret i0 (by omega) (by omega) (by omega)).2) (by first | omega | assumption) (by rw [eh8]; exact Int.lt_of_lt_of_le (Int.ofNat_lt.mpr (ft_ret i0 (by omega) (by omega) (by omega)).1) i2)
      · skip
        rw [if_neg c2]
        refine sy_st (S' := (mj_m_174, 183, [(0, .ref 234), (1, sy_i l1), (2, sy_i l2), (3, sy_i l3), (4, sy_i l4), (5, sy_i l5)], [sy_i l5], h)) mj_d_174_181 (fun _ _ => rfl) ?_
        refine sy_st (S' := (mj_m_174, 184, [(0, .ref 234), (1, sy_i l1), (2, sy_i l2), (3, sy_i l3), (4, sy_i l4), (5, sy_i l5)], [.ref 234, sy_i l5], h)) mj_d_174_183 (fun _ _ => rfl) ?_
        refine sy_gf mj_d_174_184 rfl rfl (by decide) rfl hH ?_
        intro x9 ex9 bx9 tx9
        replace ex9 : x9 = sy_rd h 234 7 := ex9
        subst ex9
        refine sy_icm mj_d_174_187 rfl ⟨by omega, by omega⟩ ⟨by omega, by omega⟩ (fun (c10 : (sy_rd h 234 7) ≤ l5) => ?_) (fun (c10 : ¬ ((sy_rd h 234 7) ≤ l5)) => ?_)
        · skip
          rw [if_pos c10]
          refine sy_inc (a := l4) (lv' := [(4, sy_i (l4 + (-1))), (0, .ref 234), (1, sy_i l1), (2, sy_i l2), (3, sy_i l3), (5, sy_i l5)]) mj_d_174_248 (Nat.le_of_ble_eq_true rfl) rfl rfl ?_
          refine sy_st (S' := (mj_m_174, 252, [(4, sy_i (l4 + (-1))), (0, .ref 234), (1, sy_i l1), (2, sy_i l2), (3, sy_i l3), (5, sy_i l5)], [.ref 234], h)) mj_d_174_251 (fun _ _ => rfl) ?_
          refine sy_gr2 (b := 247) mj_d_174_252 rfl rfl (by decide) rfl rfl hH ?_
          refine sy_st (S' := (mj_m_174, 257, [(4, sy_i (l4 + (-1))), (0, .ref 234), (1, sy_i l1), (2, sy_i l2), (3, sy_i l3), (5, sy_i l5)], [sy_i (l4 + (-1)), .ref 247], h)) mj_d_174_255 (fun _ _ => rfl) ?_
          refine sy_ifc mj_d_174_257 rfl ⟨by omega, by omega⟩ (fun (c11 : 0 ≤ (l4 + (-1))) => ?_) (fun (c11 : ¬ (0 ≤ (l4 + (-1)))) => ?_)
          · skip
            rw [if_pos c11]
            have gm := i0.1 ((l4 + (-1))).toNat (by omega)
            refine sy_st (S' := (mj_m_174, 265, [(4, sy_i (l4 + (-1))), (0, .ref 234), (1, sy_i l1), (2, sy_i l2), (3, sy_i l3), (5, sy_i l5)], [.ref 234, .ref 247], h)) mj_d_174_264 (fun _ _ => rfl) ?_
            refine sy_gr2 (b := 244) mj_d_174_265 rfl rfl (by decide) rfl rfl hH ?_
            refine sy_st (S' := (mj_m_174, 270, [(4, sy_i (l4 + (-1))), (0, .ref 234), (1, sy_i l1), (2, sy_i l2), (3, sy_i l3), (5, sy_i l5)], [sy_i (l4 + (-1)), .ref 244, .ref 247], h)) mj_d_174_268 (fun _ _ => rfl) ?_
            refine sy_ia mj_d_174_270 rfl (by decide) (by omega) (by omega) (ab_el_1 rfl _) hH ?_
            rintro _ rfl bx12 tx12
            refine sy_st (S' := (mj_m_174, 272, [(4, sy_i (l4 + (-1))), (0, .ref 234), (1, sy_i l1), (2, sy_i l2), (3, sy_i l3), (5, sy_i l5)], [sy_i (sy_rd h 244 ((l4 + (-1)).toNat)), .ref 247, sy_i (sy_rd h 244 ((l4 + (-1)).toNat)), .ref 247], h)) mj_d_174_271 (fun _ _ => rfl) ?_
            refine sy_ia mj_d_174_272 rfl (by decide) (by omega) (by omega) (ab_el_1 rfl _) hH ?_
            rintro _ rfl bx13 tx13
            refine sy_st (S' := (mj_m_174, 274, [(4, sy_i (l4 + (-1))), (0, .ref 234), (1, sy_i l1), (2, sy_i l2), (3, sy_i l3), (5, sy_i l5)], [sy_i 1, sy_i (sy_rd h 247 ((sy_rd h 244 ((l4 + (-1)).toNat)).toNat)), sy_i (sy_rd h 244 ((l4 + (-1)).toNat)), .ref 247], h)) mj_d_174_273 (fun _ _ => rfl) ?_
            refine sy_sub mj_d_174_274 ?_
            refine sg_iasw (v := ((sy_rd h 247 ((sy_rd h 244 ((l4 + (-1)).toNat)).toNat)) - 1)) mj_d_174_275 rfl (by decide) (by omega) (by omega) (ab_el_1 rfl _) hH ?_
            intro h14 th14 eh14
            refine sy_st (S' := (mj_m_174, 43, [(4, sy_i (l4 + (-1))), (0, .ref 234), (1, sy_i l1), (2, sy_i l2), (3, sy_i l3), (5, sy_i l5)], [], h14)) mj_d_174_276 (fun _ _ => rfl) ?_
            refine sy_lv (lv := [(0, .ref 234), (1, sy_i l1), (2, sy_i l2), (3, sy_i l3), (4, sy_i (l4 + (-1)))]) rfl ⟨rfl, rfl, rfl, rfl, rfl, trivial⟩ ?_
            rw [← eh14]
            exact hk43 th14 (by first | omega | assumption) (by first | omega | assumption) (by first | omega | assumption) (by first | omega | assumption) (by first | omega | assumption) (by first | omega | assumption) (by first | omega | assumption) (by first | omega | assumption) (by rw [eh14]; exact (ft_ret i0 (by omega) (by omega) (by omega)).2) (by first | omega | assumption) (by rw [eh14]; exact Int.lt_of_lt_of_le (Int.ofNat_lt.mpr (ft_ret i0 (by omega) (by omega) (by omega)).1) i2)
          · skip
            rw [if_neg c11]
            refine sy_st (S' := (mj_m_174, 261, [(4, sy_i (l4 + (-1))), (0, .ref 234), (1, sy_i l1), (2, sy_i l2), (3, sy_i l3), (5, sy_i l5)], [sy_i 0, .ref 247], h)) mj_d_174_260 (fun _ _ => rfl) ?_
            refine sy_st (S' := (mj_m_174, 271, [(4, sy_i (l4 + (-1))), (0, .ref 234), (1, sy_i l1), (2, sy_i l2), (3, sy_i l3), (5, sy_i l5)], [sy_i 0, .ref 247], h)) mj_d_174_261 (fun _ _ => rfl) ?_
            refine sy_st (S' := (mj_m_174, 272, [(4, sy_i (l4 + (-1))), (0, .ref 234), (1, sy_i l1), (2, sy_i l2), (3, sy_i l3), (5, sy_i l5)], [sy_i 0, .ref 247, sy_i 0, .ref 247], h)) mj_d_174_271 (fun _ _ => rfl) ?_
            refine sy_ia mj_d_174_272 rfl (by decide) (by omega) (by omega) (ab_el_1 rfl _) hH ?_
            intro x15 ex15 bx15 tx15
            replace ex15 : x15 = sy_rd h 247 0 := ex15
            subst ex15
            refine sy_st (S' := (mj_m_174, 274, [(4, sy_i (l4 + (-1))), (0, .ref 234), (1, sy_i l1), (2, sy_i l2), (3, sy_i l3), (5, sy_i l5)], [sy_i 1, sy_i (sy_rd h 247 0), sy_i 0, .ref 247], h)) mj_d_174_273 (fun _ _ => rfl) ?_
            refine sy_sub mj_d_174_274 ?_
            refine sg_iasw (v := ((sy_rd h 247 0) - 1)) mj_d_174_275 rfl (by decide) (by omega) (by omega) (ab_el_1 rfl _) hH ?_
            intro h16 th16 eh16
            replace eh16 : sy_rd h16 = sg_up (sy_rd h) 247 0 (sy_w ((sy_rd h 247 0) - 1)) := eh16
            refine sy_st (S' := (mj_m_174, 43, [(4, sy_i (l4 + (-1))), (0, .ref 234), (1, sy_i l1), (2, sy_i l2), (3, sy_i l3), (5, sy_i l5)], [], h16)) mj_d_174_276 (fun _ _ => rfl) ?_
            refine sy_lv (lv := [(0, .ref 234), (1, sy_i l1), (2, sy_i l2), (3, sy_i l3), (4, sy_i (l4 + (-1)))]) rfl ⟨rfl, rfl, rfl, rfl, rfl, trivial⟩ ?_
            rw [← eh16]
            exact hk43 th16 (by first | omega | assumption) (by first | omega | assumption) (by first | omega | assumption) (by first | omega | assumption) (by first | omega | assumption) (by first | omega | assumption) (by first | omega | assumption) (by first | omega | assumption) (by rw [eh16]; exact (ft_ret i0 (by omega) (by omega) (by omega)).2) (by first | omega | assumption) (by rw [eh16]; exact Int.lt_of_lt_of_le (Int.ofNat_lt.mpr (ft_ret i0 (by omega) (by omega) (by omega)).1) i2)
        · skip
          rw [if_neg c10]
          refine sy_st (S' := (mj_m_174, 191, [(0, .ref 234), (1, sy_i l1), (2, sy_i l2), (3, sy_i l3), (4, sy_i l4), (5, sy_i l5)], [.ref 234], h)) mj_d_174_190 (fun _ _ => rfl) ?_
          refine sy_gr2 (b := 246) mj_d_174_191 rfl rfl (by decide) rfl rfl hH ?_
          refine sy_st (S' := (mj_m_174, 196, [(0, .ref 234), (1, sy_i l1), (2, sy_i l2), (3, sy_i l3), (4, sy_i l4), (5, sy_i l5)], [sy_i l4, .ref 246], h)) mj_d_174_194 (fun _ _ => rfl) ?_
          refine sy_st (S' := (mj_m_174, 197, [(0, .ref 234), (1, sy_i l1), (2, sy_i l2), (3, sy_i l3), (4, sy_i l4), (5, sy_i l5)], [sy_i 1, sy_i l4, .ref 246], h)) mj_d_174_196 (fun _ _ => rfl) ?_
          refine sy_add mj_d_174_197 ?_
          refine sy_st (S' := (mj_m_174, 199, [(0, .ref 234), (1, sy_i l1), (2, sy_i l2), (3, sy_i l3), (4, sy_i l4), (5, sy_i l5)], [.ref 234, sy_i (l4 + 1), .ref 246], h)) mj_d_174_198 (fun _ _ => rfl) ?_
          refine sy_gr2 (b := 246) mj_d_174_199 rfl rfl (by decide) rfl rfl hH ?_
          refine sy_st (S' := (mj_m_174, 204, [(0, .ref 234), (1, sy_i l1), (2, sy_i l2), (3, sy_i l3), (4, sy_i l4), (5, sy_i l5)], [sy_i l4, .ref 246, sy_i (l4 + 1), .ref 246], h)) mj_d_174_202 (fun _ _ => rfl) ?_
          refine sy_ia mj_d_174_204 rfl (by decide) (by omega) (by omega) (ab_el_1 rfl _) hH ?_
          rintro _ rfl bx17 tx17
          refine sy_st (S' := (mj_m_174, 206, [(0, .ref 234), (1, sy_i l1), (2, sy_i l2), (3, sy_i l3), (4, sy_i l4), (5, sy_i l5)], [.ref 234, sy_i (sy_rd h 246 ((l4).toNat)), sy_i (l4 + 1), .ref 246], h)) mj_d_174_205 (fun _ _ => rfl) ?_
          refine sy_st (S' := (mj_m_174, 207, [(0, .ref 234), (1, sy_i l1), (2, sy_i l2), (3, sy_i l3), (4, sy_i l4), (5, sy_i l5)], [sy_i l1, .ref 234, sy_i (sy_rd h 246 ((l4).toNat)), sy_i (l4 + 1), .ref 246], h)) mj_d_174_206 (fun _ _ => rfl) ?_
          refine sy_st (S' := (mj_m_174, 209, [(0, .ref 234), (1, sy_i l1), (2, sy_i l2), (3, sy_i l3), (4, sy_i l4), (5, sy_i l5)], [sy_i l5, sy_i l1, .ref 234, sy_i (sy_rd h 246 ((l4).toNat)), sy_i (l4 + 1), .ref 246], h)) mj_d_174_207 (fun _ _ => rfl) ?_
          refine sy_cv (M' := mj_m_175) (vs := [.ref 234, sy_i l1, sy_i l5]) (rest := [sy_i (sy_rd h 246 ((l4).toNat)), sy_i (l4 + 1), .ref 246]) mj_d_174_209 rfl rfl rfl rfl hH rfl rfl ⟨by decide, ⟨Nat.le_of_ble_eq_true rfl, Nat.le_of_ble_eq_true rfl, Nat.le_of_ble_eq_true rfl, Nat.le_of_ble_eq_true rfl, Nat.le_of_ble_eq_true rfl⟩⟩ (dt_R_moreOf (a1 := l1) (a2 := l5) hH (by omega) (by omega) (by omega) (by omega)) ?_
          rintro _ _ ⟨rfl, rfl, b18, b18t⟩
          show sy_wp (mj_m_174, 212, [(0, .ref 234), (1, sy_i l1), (2, sy_i l2), (3, sy_i l3), (4, sy_i l4), (5, sy_i l5)], [sy_i (dc_R_moreOf (sy_rd h) l1 l5), sy_i (sy_rd h 246 ((l4).toNat)), sy_i (l4 + 1), .ref 246], h) _
          refine sy_add mj_d_174_212 ?_
          refine sg_ias (v := ((sy_rd h 246 ((l4).toNat)) + (dc_R_moreOf (sy_rd h) l1 l5))) mj_d_174_213 rfl (by decide) (by omega) (by omega) (ab_el_1 rfl _) hH (by omega) (by omega) ⟨by omega, by omega⟩ ?_
          intro h19 th19 eh19
          refine sy_st (S' := (mj_m_174, 215, [(0, .ref 234), (1, sy_i l1), (2, sy_i l2), (3, sy_i l3), (4, sy_i l4), (5, sy_i l5)], [.ref 234], h19)) mj_d_174_214 (fun _ _ => rfl) ?_
          refine sy_gr2 (b := 247) mj_d_174_215 rfl rfl (by decide) rfl rfl th19 ?_
          refine sy_st (S' := (mj_m_174, 220, [(0, .ref 234), (1, sy_i l1), (2, sy_i l2), (3, sy_i l3), (4, sy_i l4), (5, sy_i l5)], [sy_i l5, .ref 247], h19)) mj_d_174_218 (fun _ _ => rfl) ?_
          refine sy_st (S' := (mj_m_174, 221, [(0, .ref 234), (1, sy_i l1), (2, sy_i l2), (3, sy_i l3), (4, sy_i l4), (5, sy_i l5)], [sy_i l5, .ref 247, sy_i l5, .ref 247], h19)) mj_d_174_220 (fun _ _ => rfl) ?_
          refine sy_ia mj_d_174_221 rfl (by decide) (by omega) (by omega) (ab_el_1 rfl _) th19 ?_
          intro x20 ex20 bx20 tx20
          rw [eh19, sg_na (by decide)] at ex20
          subst ex20
          refine sy_st (S' := (mj_m_174, 223, [(0, .ref 234), (1, sy_i l1), (2, sy_i l2), (3, sy_i l3), (4, sy_i l4), (5, sy_i l5)], [sy_i 1, sy_i (sy_rd h 247 ((l5).toNat)), sy_i l5, .ref 247], h19)) mj_d_174_222 (fun _ _ => rfl) ?_
          refine sy_add mj_d_174_223 ?_
          refine sg_iasw (v := ((sy_rd h 247 ((l5).toNat)) + 1)) mj_d_174_224 rfl (by decide) (by omega) (by omega) (ab_el_1 rfl _) th19 ?_
          intro h21 th21 eh21
          rw [eh19] at eh21
          refine sy_st (S' := (mj_m_174, 226, [(0, .ref 234), (1, sy_i l1), (2, sy_i l2), (3, sy_i l3), (4, sy_i l4), (5, sy_i l5)], [.ref 234], h21)) mj_d_174_225 (fun _ _ => rfl) ?_
          refine sy_gr2 (b := 244) mj_d_174_226 rfl rfl (by decide) rfl rfl th21 ?_
          refine sy_st (S' := (mj_m_174, 231, [(0, .ref 234), (1, sy_i l1), (2, sy_i l2), (3, sy_i l3), (4, sy_i l4), (5, sy_i l5)], [sy_i l4, .ref 244], h21)) mj_d_174_229 (fun _ _ => rfl) ?_
          refine sy_st (S' := (mj_m_174, 233, [(0, .ref 234), (1, sy_i l1), (2, sy_i l2), (3, sy_i l3), (4, sy_i l4), (5, sy_i l5)], [sy_i l5, sy_i l4, .ref 244], h21)) mj_d_174_231 (fun _ _ => rfl) ?_
          refine sg_ias (v := l5) mj_d_174_233 rfl (by decide) (by omega) (by omega) (ab_el_1 rfl _) th21 (by omega) (by omega) ⟨by omega, by omega⟩ ?_
          intro h22 th22 eh22
          rw [eh21] at eh22
          refine sy_inc (a := l4) (lv' := [(4, sy_i (l4 + 1)), (0, .ref 234), (1, sy_i l1), (2, sy_i l2), (3, sy_i l3), (5, sy_i l5)]) mj_d_174_234 (Nat.le_of_ble_eq_true rfl) rfl rfl ?_
          refine sy_st (S' := (mj_m_174, 238, [(4, sy_i (l4 + 1)), (0, .ref 234), (1, sy_i l1), (2, sy_i l2), (3, sy_i l3), (5, sy_i l5)], [.ref 234], h22)) mj_d_174_237 (fun _ _ => rfl) ?_
          refine sy_gr2 (b := 244) mj_d_174_238 rfl rfl (by decide) rfl rfl th22 ?_
          refine sy_st (S' := (mj_m_174, 243, [(4, sy_i (l4 + 1)), (0, .ref 234), (1, sy_i l1), (2, sy_i l2), (3, sy_i l3), (5, sy_i l5)], [sy_i (l4 + 1), .ref 244], h22)) mj_d_174_241 (fun _ _ => rfl) ?_
          refine sy_st (S' := (mj_m_174, 244, [(4, sy_i (l4 + 1)), (0, .ref 234), (1, sy_i l1), (2, sy_i l2), (3, sy_i l3), (5, sy_i l5)], [sy_i (-1), sy_i (l4 + 1), .ref 244], h22)) mj_d_174_243 (fun _ _ => rfl) ?_
          refine sg_ias (v := (-1)) mj_d_174_244 rfl (by decide) (by omega) (by omega) (ab_el_1 rfl _) th22 (by omega) (by omega) ⟨by omega, by omega⟩ ?_
          intro h23 th23 eh23
          rw [eh22] at eh23
          refine sy_st (S' := (mj_m_174, 276, [(4, sy_i (l4 + 1)), (0, .ref 234), (1, sy_i l1), (2, sy_i l2), (3, sy_i l3), (5, sy_i l5)], [], h23)) mj_d_174_245 (fun _ _ => rfl) ?_
          refine sy_st (S' := (mj_m_174, 43, [(4, sy_i (l4 + 1)), (0, .ref 234), (1, sy_i l1), (2, sy_i l2), (3, sy_i l3), (5, sy_i l5)], [], h23)) mj_d_174_276 (fun _ _ => rfl) ?_
          refine sy_lv (lv := [(0, .ref 234), (1, sy_i l1), (2, sy_i l2), (3, sy_i l3), (4, sy_i (l4 + 1))]) rfl ⟨rfl, rfl, rfl, rfl, rfl, trivial⟩ ?_
          rw [← eh23]
          exact hk43 th23 (by first | omega | assumption) (by first | omega | assumption) (by first | omega | assumption) (by first | omega | assumption) (by first | omega | assumption) (by first | omega | assumption) (by first | omega | assumption) (by first | omega | assumption) (by rw [eh23]; exact (ft_adv i0 (by omega) (by omega) (by omega) (by omega) i3 (by omega) (by omega) (by omega) (by omega)).2) (by first | omega | assumption) (by rw [eh23]; exact Int.lt_of_lt_of_le (Int.ofNat_lt.mpr (ft_adv i0 (by omega) (by omega) (by omega) (by omega) i3 (by omega) (by omega) (by omega) (by omega)).1) i2)
    · skip
      rw [if_neg c1]
      refine sy_st (S' := (mj_m_174, 121, [(0, .ref 234), (1, sy_i l1), (2, sy_i l2), (3, sy_i l3), (4, sy_i l4), (5, sy_i l5)], [sy_i l5], h)) mj_d_174_119 (fun _ _ => rfl) ?_
      refine sy_st (S' := (mj_m_174, 122, [(0, .ref 234), (1, sy_i l1), (2, sy_i l2), (3, sy_i l3), (4, sy_i l4), (5, sy_i l5)], [.ref 234, sy_i l5], h)) mj_d_174_121 (fun _ _ => rfl) ?_
      refine sy_gf mj_d_174_122 rfl rfl (by decide) rfl hH ?_
      intro x24 ex24 bx24 tx24
      replace ex24 : x24 = sy_rd h 234 7 := ex24
      subst ex24
      refine sy_icm mj_d_174_125 rfl ⟨by omega, by omega⟩ ⟨by omega, by omega⟩ (fun (c25 : (sy_rd h 234 7) ≤ l5) => ?_) (fun (c25 : ¬ ((sy_rd h 234 7) ≤ l5)) => ?_)
      · skip
        rw [if_pos c25]
        refine sy_st (S' := (mj_m_174, 177, [(0, .ref 234), (1, sy_i l1), (2, sy_i l2), (3, sy_i l3), (4, sy_i l4), (5, sy_i l5)], [sy_i l4], h)) mj_d_174_175 (fun _ _ => rfl) ?_
        refine sy_st (S' := (mj_m_174, 178, [(0, .ref 234), (1, sy_i l1), (2, sy_i l2), (3, sy_i l3), (4, sy_i l4), (5, sy_i l5)], [sy_i l2, sy_i l4], h)) mj_d_174_177 (fun _ _ => rfl) ?_
        refine sy_icm mj_d_174_178 rfl ⟨by omega, by omega⟩ ⟨by omega, by omega⟩ (fun (c26 : l2 ≤ l4) => ?_) (fun (c26 : ¬ (l2 ≤ l4)) => ?_)
        · skip
          rw [if_pos c26]
          refine sy_inc (a := l4) (lv' := [(4, sy_i (l4 + (-1))), (0, .ref 234), (1, sy_i l1), (2, sy_i l2), (3, sy_i l3), (5, sy_i l5)]) mj_d_174_248 (Nat.le_of_ble_eq_true rfl) rfl rfl ?_
          refine sy_st (S' := (mj_m_174, 252, [(4, sy_i (l4 + (-1))), (0, .ref 234), (1, sy_i l1), (2, sy_i l2), (3, sy_i l3), (5, sy_i l5)], [.ref 234], h)) mj_d_174_251 (fun _ _ => rfl) ?_
          refine sy_gr2 (b := 247) mj_d_174_252 rfl rfl (by decide) rfl rfl hH ?_
          refine sy_st (S' := (mj_m_174, 257, [(4, sy_i (l4 + (-1))), (0, .ref 234), (1, sy_i l1), (2, sy_i l2), (3, sy_i l3), (5, sy_i l5)], [sy_i (l4 + (-1)), .ref 247], h)) mj_d_174_255 (fun _ _ => rfl) ?_
          refine sy_ifc mj_d_174_257 rfl ⟨by omega, by omega⟩ (fun (c27 : 0 ≤ (l4 + (-1))) => ?_) (fun (c27 : ¬ (0 ≤ (l4 + (-1)))) => ?_)
          · skip
            rw [if_pos c27]
            have gm := i0.1 ((l4 + (-1))).toNat (by omega)
            refine sy_st (S' := (mj_m_174, 265, [(4, sy_i (l4 + (-1))), (0, .ref 234), (1, sy_i l1), (2, sy_i l2), (3, sy_i l3), (5, sy_i l5)], [.ref 234, .ref 247], h)) mj_d_174_264 (fun _ _ => rfl) ?_
            refine sy_gr2 (b := 244) mj_d_174_265 rfl rfl (by decide) rfl rfl hH ?_
            refine sy_st (S' := (mj_m_174, 270, [(4, sy_i (l4 + (-1))), (0, .ref 234), (1, sy_i l1), (2, sy_i l2), (3, sy_i l3), (5, sy_i l5)], [sy_i (l4 + (-1)), .ref 244, .ref 247], h)) mj_d_174_268 (fun _ _ => rfl) ?_
            refine sy_ia mj_d_174_270 rfl (by decide) (by omega) (by omega) (ab_el_1 rfl _) hH ?_
            rintro _ rfl bx28 tx28
            refine sy_st (S' := (mj_m_174, 272, [(4, sy_i (l4 + (-1))), (0, .ref 234), (1, sy_i l1), (2, sy_i l2), (3, sy_i l3), (5, sy_i l5)], [sy_i (sy_rd h 244 ((l4 + (-1)).toNat)), .ref 247, sy_i (sy_rd h 244 ((l4 + (-1)).toNat)), .ref 247], h)) mj_d_174_271 (fun _ _ => rfl) ?_
            refine sy_ia mj_d_174_272 rfl (by decide) (by omega) (by omega) (ab_el_1 rfl _) hH ?_
            rintro _ rfl bx29 tx29
            refine sy_st (S' := (mj_m_174, 274, [(4, sy_i (l4 + (-1))), (0, .ref 234), (1, sy_i l1), (2, sy_i l2), (3, sy_i l3), (5, sy_i l5)], [sy_i 1, sy_i (sy_rd h 247 ((sy_rd h 244 ((l4 + (-1)).toNat)).toNat)), sy_i (sy_rd h 244 ((l4 + (-1)).toNat)), .ref 247], h)) mj_d_174_273 (fun _ _ => rfl) ?_
            refine sy_sub mj_d_174_274 ?_
            refine sg_iasw (v := ((sy_rd h 247 ((sy_rd h 244 ((l4 + (-1)).toNat)).toNat)) - 1)) mj_d_174_275 rfl (by decide) (by omega) (by omega) (ab_el_1 rfl _) hH ?_
            intro h30 th30 eh30
            refine sy_st (S' := (mj_m_174, 43, [(4, sy_i (l4 + (-1))), (0, .ref 234), (1, sy_i l1), (2, sy_i l2), (3, sy_i l3), (5, sy_i l5)], [], h30)) mj_d_174_276 (fun _ _ => rfl) ?_
            refine sy_lv (lv := [(0, .ref 234), (1, sy_i l1), (2, sy_i l2), (3, sy_i l3), (4, sy_i (l4 + (-1)))]) rfl ⟨rfl, rfl, rfl, rfl, rfl, trivial⟩ ?_
            rw [← eh30]
            exact hk43 th30 (by first | omega | assumption) (by first | omega | assumption) (by first | omega | assumption) (by first | omega | assumption) (by first | omega | assumption) (by first | omega | assumption) (by first | omega | assumption) (by first | omega | assumption) (by rw [eh30]; exact (ft_ret i0 (by omega) (by omega) (by omega)).2) (by first | omega | assumption) (by rw [eh30]; exact Int.lt_of_lt_of_le (Int.ofNat_lt.mpr (ft_ret i0 (by omega) (by omega) (by omega)).1) i2)
          · skip
            rw [if_neg c27]
            refine sy_st (S' := (mj_m_174, 261, [(4, sy_i (l4 + (-1))), (0, .ref 234), (1, sy_i l1), (2, sy_i l2), (3, sy_i l3), (5, sy_i l5)], [sy_i 0, .ref 247], h)) mj_d_174_260 (fun _ _ => rfl) ?_
            refine sy_st (S' := (mj_m_174, 271, [(4, sy_i (l4 + (-1))), (0, .ref 234), (1, sy_i l1), (2, sy_i l2), (3, sy_i l3), (5, sy_i l5)], [sy_i 0, .ref 247], h)) mj_d_174_261 (fun _ _ => rfl) ?_
            refine sy_st (S' := (mj_m_174, 272, [(4, sy_i (l4 + (-1))), (0, .ref 234), (1, sy_i l1), (2, sy_i l2), (3, sy_i l3), (5, sy_i l5)], [sy_i 0, .ref 247, sy_i 0, .ref 247], h)) mj_d_174_271 (fun _ _ => rfl) ?_
            refine sy_ia mj_d_174_272 rfl (by decide) (by omega) (by omega) (ab_el_1 rfl _) hH ?_
            intro x31 ex31 bx31 tx31
            replace ex31 : x31 = sy_rd h 247 0 := ex31
            subst ex31
            refine sy_st (S' := (mj_m_174, 274, [(4, sy_i (l4 + (-1))), (0, .ref 234), (1, sy_i l1), (2, sy_i l2), (3, sy_i l3), (5, sy_i l5)], [sy_i 1, sy_i (sy_rd h 247 0), sy_i 0, .ref 247], h)) mj_d_174_273 (fun _ _ => rfl) ?_
            refine sy_sub mj_d_174_274 ?_
            refine sg_iasw (v := ((sy_rd h 247 0) - 1)) mj_d_174_275 rfl (by decide) (by omega) (by omega) (ab_el_1 rfl _) hH ?_
            intro h32 th32 eh32
            replace eh32 : sy_rd h32 = sg_up (sy_rd h) 247 0 (sy_w ((sy_rd h 247 0) - 1)) := eh32
            refine sy_st (S' := (mj_m_174, 43, [(4, sy_i (l4 + (-1))), (0, .ref 234), (1, sy_i l1), (2, sy_i l2), (3, sy_i l3), (5, sy_i l5)], [], h32)) mj_d_174_276 (fun _ _ => rfl) ?_
            refine sy_lv (lv := [(0, .ref 234), (1, sy_i l1), (2, sy_i l2), (3, sy_i l3), (4, sy_i (l4 + (-1)))]) rfl ⟨rfl, rfl, rfl, rfl, rfl, trivial⟩ ?_
            rw [← eh32]
            exact hk43 th32 (by first | omega | assumption) (by first | omega | assumption) (by first | omega | assumption) (by first | omega | assumption) (by first | omega | assumption) (by first | omega | assumption) (by first | omega | assumption) (by first | omega | assumption) (by rw [eh32]; exact (ft_ret i0 (by omega) (by omega) (by omega)).2) (by first | omega | assumption) (by rw [eh32]; exact Int.lt_of_lt_of_le (Int.ofNat_lt.mpr (ft_ret i0 (by omega) (by omega) (by omega)).1) i2)
        · skip
          rw [if_neg c26]
          refine sy_st (S' := (mj_m_174, 183, [(0, .ref 234), (1, sy_i l1), (2, sy_i l2), (3, sy_i l3), (4, sy_i l4), (5, sy_i l5)], [sy_i l5], h)) mj_d_174_181 (fun _ _ => rfl) ?_
          refine sy_st (S' := (mj_m_174, 184, [(0, .ref 234), (1, sy_i l1), (2, sy_i l2), (3, sy_i l3), (4, sy_i l4), (5, sy_i l5)], [.ref 234, sy_i l5], h)) mj_d_174_183 (fun _ _ => rfl) ?_
          refine sy_gf mj_d_174_184 rfl rfl (by decide) rfl hH ?_
          intro x33 ex33 bx33 tx33
          replace ex33 : x33 = sy_rd h 234 7 := ex33
          subst ex33
          refine sy_icm mj_d_174_187 rfl ⟨by omega, by omega⟩ ⟨by omega, by omega⟩ (fun (c34 : (sy_rd h 234 7) ≤ l5) => ?_) (fun (c34 : ¬ ((sy_rd h 234 7) ≤ l5)) => ?_)
          · skip
            rw [if_pos c34]
            refine sy_inc (a := l4) (lv' := [(4, sy_i (l4 + (-1))), (0, .ref 234), (1, sy_i l1), (2, sy_i l2), (3, sy_i l3), (5, sy_i l5)]) mj_d_174_248 (Nat.le_of_ble_eq_true rfl) rfl rfl ?_
            refine sy_st (S' := (mj_m_174, 252, [(4, sy_i (l4 + (-1))), (0, .ref 234), (1, sy_i l1), (2, sy_i l2), (3, sy_i l3), (5, sy_i l5)], [.ref 234], h)) mj_d_174_251 (fun _ _ => rfl) ?_
            refine sy_gr2 (b := 247) mj_d_174_252 rfl rfl (by decide) rfl rfl hH ?_
            refine sy_st (S' := (mj_m_174, 257, [(4, sy_i (l4 + (-1))), (0, .ref 234), (1, sy_i l1), (2, sy_i l2), (3, sy_i l3), (5, sy_i l5)], [sy_i (l4 + (-1)), .ref 247], h)) mj_d_174_255 (fun _ _ => rfl) ?_
            refine sy_ifc mj_d_174_257 rfl ⟨by omega, by omega⟩ (fun (c35 : 0 ≤ (l4 + (-1))) => ?_) (fun (c35 : ¬ (0 ≤ (l4 + (-1)))) => ?_)
            · skip
              rw [if_pos c35]
              have gm := i0.1 ((l4 + (-1))).toNat (by omega)
              refine sy_st (S' := (mj_m_174, 265, [(4, sy_i (l4 + (-1))), (0, .ref 234), (1, sy_i l1), (2, sy_i l2), (3, sy_i l3), (5, sy_i l5)], [.ref 234, .ref 247], h)) mj_d_174_264 (fun _ _ => rfl) ?_
              refine sy_gr2 (b := 244) mj_d_174_265 rfl rfl (by decide) rfl rfl hH ?_
              refine sy_st (S' := (mj_m_174, 270, [(4, sy_i (l4 + (-1))), (0, .ref 234), (1, sy_i l1), (2, sy_i l2), (3, sy_i l3), (5, sy_i l5)], [sy_i (l4 + (-1)), .ref 244, .ref 247], h)) mj_d_174_268 (fun _ _ => rfl) ?_
              refine sy_ia mj_d_174_270 rfl (by decide) (by omega) (by omega) (ab_el_1 rfl _) hH ?_
              rintro _ rfl bx36 tx36
              refine sy_st (S' := (mj_m_174, 272, [(4, sy_i (l4 + (-1))), (0, .ref 234), (1, sy_i l1), (2, sy_i l2), (3, sy_i l3), (5, sy_i l5)], [sy_i (sy_rd h 244 ((l4 + (-1)).toNat)), .ref 247, sy_i (sy_rd h 244 ((l4 + (-1)).toNat)), .ref 247], h)) mj_d_174_271 (fun _ _ => rfl) ?_
              refine sy_ia mj_d_174_272 rfl (by decide) (by omega) (by omega) (ab_el_1 rfl _) hH ?_
              rintro _ rfl bx37 tx37
              refine sy_st (S' := (mj_m_174, 274, [(4, sy_i (l4 + (-1))), (0, .ref 234), (1, sy_i l1), (2, sy_i l2), (3, sy_i l3), (5, sy_i l5)], [sy_i 1, sy_i (sy_rd h 247 ((sy_rd h 244 ((l4 + (-1)).toNat)).toNat)), sy_i (sy_rd h 244 ((l4 + (-1)).toNat)), .ref 247], h)) mj_d_174_273 (fun _ _ => rfl) ?_
              refine sy_sub mj_d_174_274 ?_
              refine sg_iasw (v := ((sy_rd h 247 ((sy_rd h 244 ((l4 + (-1)).toNat)).toNat)) - 1)) mj_d_174_275 rfl (by decide) (by omega) (by omega) (ab_el_1 rfl _) hH ?_
              intro h38 th38 eh38
              refine sy_st (S' := (mj_m_174, 43, [(4, sy_i (l4 + (-1))), (0, .ref 234), (1, sy_i l1), (2, sy_i l2), (3, sy_i l3), (5, sy_i l5)], [], h38)) mj_d_174_276 (fun _ _ => rfl) ?_
              refine sy_lv (lv := [(0, .ref 234), (1, sy_i l1), (2, sy_i l2), (3, sy_i l3), (4, sy_i (l4 + (-1)))]) rfl ⟨rfl, rfl, rfl, rfl, rfl, trivial⟩ ?_
              rw [← eh38]
              exact hk43 th38 (by first | omega | assumption) (by first | omega | assumption) (by first | omega | assumption) (by first | omega | assumption) (by first | omega | assumption) (by first | omega | assumption) (by first | omega | assumption) (by first | omega | assumption) (by rw [eh38]; exact (ft_ret i0 (by omega) (by omega) (by omega)).2) (by first | omega | assumption) (by rw [eh38]; exact Int.lt_of_lt_of_le (Int.ofNat_lt.mpr (ft_ret i0 (by omega) (by omega) (by omega)).1) i2)
            · skip
              rw [if_neg c35]
              refine sy_st (S' := (mj_m_174, 261, [(4, sy_i (l4 + (-1))), (0, .ref 234), (1, sy_i l1), (2, sy_i l2), (3, sy_i l3), (5, sy_i l5)], [sy_i 0, .ref 247], h)) mj_d_174_260 (fun _ _ => rfl) ?_
              refine sy_st (S' := (mj_m_174, 271, [(4, sy_i (l4 + (-1))), (0, .ref 234), (1, sy_i l1), (2, sy_i l2), (3, sy_i l3), (5, sy_i l5)], [sy_i 0, .ref 247], h)) mj_d_174_261 (fun _ _ => rfl) ?_
              refine sy_st (S' := (mj_m_174, 272, [(4, sy_i (l4 + (-1))), (0, .ref 234), (1, sy_i l1), (2, sy_i l2), (3, sy_i l3), (5, sy_i l5)], [sy_i 0, .ref 247, sy_i 0, .ref 247], h)) mj_d_174_271 (fun _ _ => rfl) ?_
              refine sy_ia mj_d_174_272 rfl (by decide) (by omega) (by omega) (ab_el_1 rfl _) hH ?_
              intro x39 ex39 bx39 tx39
              replace ex39 : x39 = sy_rd h 247 0 := ex39
              subst ex39
              refine sy_st (S' := (mj_m_174, 274, [(4, sy_i (l4 + (-1))), (0, .ref 234), (1, sy_i l1), (2, sy_i l2), (3, sy_i l3), (5, sy_i l5)], [sy_i 1, sy_i (sy_rd h 247 0), sy_i 0, .ref 247], h)) mj_d_174_273 (fun _ _ => rfl) ?_
              refine sy_sub mj_d_174_274 ?_
              refine sg_iasw (v := ((sy_rd h 247 0) - 1)) mj_d_174_275 rfl (by decide) (by omega) (by omega) (ab_el_1 rfl _) hH ?_
              intro h40 th40 eh40
              replace eh40 : sy_rd h40 = sg_up (sy_rd h) 247 0 (sy_w ((sy_rd h 247 0) - 1)) := eh40
              refine sy_st (S' := (mj_m_174, 43, [(4, sy_i (l4 + (-1))), (0, .ref 234), (1, sy_i l1), (2, sy_i l2), (3, sy_i l3), (5, sy_i l5)], [], h40)) mj_d_174_276 (fun _ _ => rfl) ?_
              refine sy_lv (lv := [(0, .ref 234), (1, sy_i l1), (2, sy_i l2), (3, sy_i l3), (4, sy_i (l4 + (-1)))]) rfl ⟨rfl, rfl, rfl, rfl, rfl, trivial⟩ ?_
              rw [← eh40]
              exact hk43 th40 (by first | omega | assumption) (by first | omega | assumption) (by first | omega | assumption) (by first | omega | assumption) (by first | omega | assumption) (by first | omega | assumption) (by first | omega | assumption) (by first | omega | assumption) (by rw [eh40]; exact (ft_ret i0 (by omega) (by omega) (by omega)).2) (by first | omega | assumption) (by rw [eh40]; exact Int.lt_of_lt_of_le (Int.ofNat_lt.mpr (ft_ret i0 (by omega) (by omega) (by omega)).1) i2)
          · skip
            rw [if_neg c34]
            refine sy_st (S' := (mj_m_174, 191, [(0, .ref 234), (1, sy_i l1), (2, sy_i l2), (3, sy_i l3), (4, sy_i l4), (5, sy_i l5)], [.ref 234], h)) mj_d_174_190 (fun _ _ => rfl) ?_
            refine sy_gr2 (b := 246) mj_d_174_191 rfl rfl (by decide) rfl rfl hH ?_
            refine sy_st (S' := (mj_m_174, 196, [(0, .ref 234), (1, sy_i l1), (2, sy_i l2), (3, sy_i l3), (4, sy_i l4), (5, sy_i l5)], [sy_i l4, .ref 246], h)) mj_d_174_194 (fun _ _ => rfl) ?_
            refine sy_st (S' := (mj_m_174, 197, [(0, .ref 234), (1, sy_i l1), (2, sy_i l2), (3, sy_i l3), (4, sy_i l4), (5, sy_i l5)], [sy_i 1, sy_i l4, .ref 246], h)) mj_d_174_196 (fun _ _ => rfl) ?_
            refine sy_add mj_d_174_197 ?_
            refine sy_st (S' := (mj_m_174, 199, [(0, .ref 234), (1, sy_i l1), (2, sy_i l2), (3, sy_i l3), (4, sy_i l4), (5, sy_i l5)], [.ref 234, sy_i (l4 + 1), .ref 246], h)) mj_d_174_198 (fun _ _ => rfl) ?_
            refine sy_gr2 (b := 246) mj_d_174_199 rfl rfl (by decide) rfl rfl hH ?_
            refine sy_st (S' := (mj_m_174, 204, [(0, .ref 234), (1, sy_i l1), (2, sy_i l2), (3, sy_i l3), (4, sy_i l4), (5, sy_i l5)], [sy_i l4, .ref 246, sy_i (l4 + 1), .ref 246], h)) mj_d_174_202 (fun _ _ => rfl) ?_
            refine sy_ia mj_d_174_204 rfl (by decide) (by omega) (by omega) (ab_el_1 rfl _) hH ?_
            rintro _ rfl bx41 tx41
            refine sy_st (S' := (mj_m_174, 206, [(0, .ref 234), (1, sy_i l1), (2, sy_i l2), (3, sy_i l3), (4, sy_i l4), (5, sy_i l5)], [.ref 234, sy_i (sy_rd h 246 ((l4).toNat)), sy_i (l4 + 1), .ref 246], h)) mj_d_174_205 (fun _ _ => rfl) ?_
            refine sy_st (S' := (mj_m_174, 207, [(0, .ref 234), (1, sy_i l1), (2, sy_i l2), (3, sy_i l3), (4, sy_i l4), (5, sy_i l5)], [sy_i l1, .ref 234, sy_i (sy_rd h 246 ((l4).toNat)), sy_i (l4 + 1), .ref 246], h)) mj_d_174_206 (fun _ _ => rfl) ?_
            refine sy_st (S' := (mj_m_174, 209, [(0, .ref 234), (1, sy_i l1), (2, sy_i l2), (3, sy_i l3), (4, sy_i l4), (5, sy_i l5)], [sy_i l5, sy_i l1, .ref 234, sy_i (sy_rd h 246 ((l4).toNat)), sy_i (l4 + 1), .ref 246], h)) mj_d_174_207 (fun _ _ => rfl) ?_
            refine sy_cv (M' := mj_m_175) (vs := [.ref 234, sy_i l1, sy_i l5]) (rest := [sy_i (sy_rd h 246 ((l4).toNat)), sy_i (l4 + 1), .ref 246]) mj_d_174_209 rfl rfl rfl rfl hH rfl rfl ⟨by decide, ⟨Nat.le_of_ble_eq_true rfl, Nat.le_of_ble_eq_true rfl, Nat.le_of_ble_eq_true rfl, Nat.le_of_ble_eq_true rfl, Nat.le_of_ble_eq_true rfl⟩⟩ (dt_R_moreOf (a1 := l1) (a2 := l5) hH (by omega) (by omega) (by omega) (by omega)) ?_
            rintro _ _ ⟨rfl, rfl, b42, b42t⟩
            show sy_wp (mj_m_174, 212, [(0, .ref 234), (1, sy_i l1), (2, sy_i l2), (3, sy_i l3), (4, sy_i l4), (5, sy_i l5)], [sy_i (dc_R_moreOf (sy_rd h) l1 l5), sy_i (sy_rd h 246 ((l4).toNat)), sy_i (l4 + 1), .ref 246], h) _
            refine sy_add mj_d_174_212 ?_
            refine sg_ias (v := ((sy_rd h 246 ((l4).toNat)) + (dc_R_moreOf (sy_rd h) l1 l5))) mj_d_174_213 rfl (by decide) (by omega) (by omega) (ab_el_1 rfl _) hH (by omega) (by omega) ⟨by omega, by omega⟩ ?_
            intro h43 th43 eh43
            refine sy_st (S' := (mj_m_174, 215, [(0, .ref 234), (1, sy_i l1), (2, sy_i l2), (3, sy_i l3), (4, sy_i l4), (5, sy_i l5)], [.ref 234], h43)) mj_d_174_214 (fun _ _ => rfl) ?_
            refine sy_gr2 (b := 247) mj_d_174_215 rfl rfl (by decide) rfl rfl th43 ?_
            refine sy_st (S' := (mj_m_174, 220, [(0, .ref 234), (1, sy_i l1), (2, sy_i l2), (3, sy_i l3), (4, sy_i l4), (5, sy_i l5)], [sy_i l5, .ref 247], h43)) mj_d_174_218 (fun _ _ => rfl) ?_
            refine sy_st (S' := (mj_m_174, 221, [(0, .ref 234), (1, sy_i l1), (2, sy_i l2), (3, sy_i l3), (4, sy_i l4), (5, sy_i l5)], [sy_i l5, .ref 247, sy_i l5, .ref 247], h43)) mj_d_174_220 (fun _ _ => rfl) ?_
            refine sy_ia mj_d_174_221 rfl (by decide) (by omega) (by omega) (ab_el_1 rfl _) th43 ?_
            intro x44 ex44 bx44 tx44
            rw [eh43, sg_na (by decide)] at ex44
            subst ex44
            refine sy_st (S' := (mj_m_174, 223, [(0, .ref 234), (1, sy_i l1), (2, sy_i l2), (3, sy_i l3), (4, sy_i l4), (5, sy_i l5)], [sy_i 1, sy_i (sy_rd h 247 ((l5).toNat)), sy_i l5, .ref 247], h43)) mj_d_174_222 (fun _ _ => rfl) ?_
            refine sy_add mj_d_174_223 ?_
            refine sg_iasw (v := ((sy_rd h 247 ((l5).toNat)) + 1)) mj_d_174_224 rfl (by decide) (by omega) (by omega) (ab_el_1 rfl _) th43 ?_
            intro h45 th45 eh45
            rw [eh43] at eh45
            refine sy_st (S' := (mj_m_174, 226, [(0, .ref 234), (1, sy_i l1), (2, sy_i l2), (3, sy_i l3), (4, sy_i l4), (5, sy_i l5)], [.ref 234], h45)) mj_d_174_225 (fun _ _ => rfl) ?_
            refine sy_gr2 (b := 244) mj_d_174_226 rfl rfl (by decide) rfl rfl th45 ?_
            refine sy_st (S' := (mj_m_174, 231, [(0, .ref 234), (1, sy_i l1), (2, sy_i l2), (3, sy_i l3), (4, sy_i l4), (5, sy_i l5)], [sy_i l4, .ref 244], h45)) mj_d_174_229 (fun _ _ => rfl) ?_
            refine sy_st (S' := (mj_m_174, 233, [(0, .ref 234), (1, sy_i l1), (2, sy_i l2), (3, sy_i l3), (4, sy_i l4), (5, sy_i l5)], [sy_i l5, sy_i l4, .ref 244], h45)) mj_d_174_231 (fun _ _ => rfl) ?_
            refine sg_ias (v := l5) mj_d_174_233 rfl (by decide) (by omega) (by omega) (ab_el_1 rfl _) th45 (by omega) (by omega) ⟨by omega, by omega⟩ ?_
            intro h46 th46 eh46
            rw [eh45] at eh46
            refine sy_inc (a := l4) (lv' := [(4, sy_i (l4 + 1)), (0, .ref 234), (1, sy_i l1), (2, sy_i l2), (3, sy_i l3), (5, sy_i l5)]) mj_d_174_234 (Nat.le_of_ble_eq_true rfl) rfl rfl ?_
            refine sy_st (S' := (mj_m_174, 238, [(4, sy_i (l4 + 1)), (0, .ref 234), (1, sy_i l1), (2, sy_i l2), (3, sy_i l3), (5, sy_i l5)], [.ref 234], h46)) mj_d_174_237 (fun _ _ => rfl) ?_
            refine sy_gr2 (b := 244) mj_d_174_238 rfl rfl (by decide) rfl rfl th46 ?_
            refine sy_st (S' := (mj_m_174, 243, [(4, sy_i (l4 + 1)), (0, .ref 234), (1, sy_i l1), (2, sy_i l2), (3, sy_i l3), (5, sy_i l5)], [sy_i (l4 + 1), .ref 244], h46)) mj_d_174_241 (fun _ _ => rfl) ?_
            refine sy_st (S' := (mj_m_174, 244, [(4, sy_i (l4 + 1)), (0, .ref 234), (1, sy_i l1), (2, sy_i l2), (3, sy_i l3), (5, sy_i l5)], [sy_i (-1), sy_i (l4 + 1), .ref 244], h46)) mj_d_174_243 (fun _ _ => rfl) ?_
            refine sg_ias (v := (-1)) mj_d_174_244 rfl (by decide) (by omega) (by omega) (ab_el_1 rfl _) th46 (by omega) (by omega) ⟨by omega, by omega⟩ ?_
            intro h47 th47 eh47
            rw [eh46] at eh47
            refine sy_st (S' := (mj_m_174, 276, [(4, sy_i (l4 + 1)), (0, .ref 234), (1, sy_i l1), (2, sy_i l2), (3, sy_i l3), (5, sy_i l5)], [], h47)) mj_d_174_245 (fun _ _ => rfl) ?_
            refine sy_st (S' := (mj_m_174, 43, [(4, sy_i (l4 + 1)), (0, .ref 234), (1, sy_i l1), (2, sy_i l2), (3, sy_i l3), (5, sy_i l5)], [], h47)) mj_d_174_276 (fun _ _ => rfl) ?_
            refine sy_lv (lv := [(0, .ref 234), (1, sy_i l1), (2, sy_i l2), (3, sy_i l3), (4, sy_i (l4 + 1))]) rfl ⟨rfl, rfl, rfl, rfl, rfl, trivial⟩ ?_
            rw [← eh47]
            exact hk43 th47 (by first | omega | assumption) (by first | omega | assumption) (by first | omega | assumption) (by first | omega | assumption) (by first | omega | assumption) (by first | omega | assumption) (by first | omega | assumption) (by first | omega | assumption) (by rw [eh47]; exact (ft_adv i0 (by omega) (by omega) (by omega) (by omega) i3 (by omega) (by omega) (by omega) (by omega)).2) (by first | omega | assumption) (by rw [eh47]; exact Int.lt_of_lt_of_le (Int.ofNat_lt.mpr (ft_adv i0 (by omega) (by omega) (by omega) (by omega) i3 (by omega) (by omega) (by omega) (by omega)).1) i2)
      · skip
        rw [if_neg c25]
        refine sy_st (S' := (mj_m_174, 130, [(0, .ref 234), (1, sy_i l1), (2, sy_i l2), (3, sy_i l3), (4, sy_i l4), (5, sy_i l5)], [sy_i l5], h)) mj_d_174_128 (fun _ _ => rfl) ?_
        refine sy_st (S' := (mj_m_174, 131, [(0, .ref 234), (1, sy_i l1), (2, sy_i l2), (3, sy_i l3), (4, sy_i l4), (5, sy_i l5)], [sy_i l1, sy_i l5], h)) mj_d_174_130 (fun _ _ => rfl) ?_
        refine sy_icm mj_d_174_131 rfl ⟨by omega, by omega⟩ ⟨by omega, by omega⟩ (fun (c48 : l5 = l1) => ?_) (fun (c48 : ¬ (l5 = l1)) => ?_)
        · skip
          rw [if_pos c48]
          refine sy_inc (a := l5) (lv' := [(5, sy_i (l5 + 1)), (0, .ref 234), (1, sy_i l1), (2, sy_i l2), (3, sy_i l3), (4, sy_i l4)]) mj_d_174_169 (Nat.le_of_ble_eq_true rfl) rfl rfl ?_
          refine sy_st (S' := (mj_m_174, 113, [(5, sy_i (l5 + 1)), (0, .ref 234), (1, sy_i l1), (2, sy_i l2), (3, sy_i l3), (4, sy_i l4)], [], h)) mj_d_174_172 (fun _ _ => rfl) ?_
          refine sy_lv (lv := [(0, .ref 234), (1, sy_i l1), (2, sy_i l2), (3, sy_i l3), (4, sy_i l4), (5, sy_i (l5 + 1))]) rfl ⟨rfl, rfl, rfl, rfl, rfl, rfl, trivial⟩ ?_
          exact ih hH (by first | omega | assumption) (by first | omega | assumption) (by first | omega | assumption) (by first | omega | assumption) (by first | omega | assumption) (by first | omega | assumption) (by first | omega | assumption) (by first | omega | assumption) (by first | omega | assumption) (by first | omega | assumption) (by first | omega | assumption) (by first | omega | assumption) (by first | omega | assumption) (by first | omega | assumption) (by omega)
        · skip
          rw [if_neg c48]
          refine sy_st (S' := (mj_m_174, 135, [(0, .ref 234), (1, sy_i l1), (2, sy_i l2), (3, sy_i l3), (4, sy_i l4), (5, sy_i l5)], [.ref 234], h)) mj_d_174_134 (fun _ _ => rfl) ?_
          refine sy_st (S' := (mj_m_174, 137, [(0, .ref 234), (1, sy_i l1), (2, sy_i l2), (3, sy_i l3), (4, sy_i l4), (5, sy_i l5)], [sy_i l5, .ref 234], h)) mj_d_174_135 (fun _ _ => rfl) ?_
          refine sy_st (S' := (mj_m_174, 138, [(0, .ref 234), (1, sy_i l1), (2, sy_i l2), (3, sy_i l3), (4, sy_i l4), (5, sy_i l5)], [.ref 234, sy_i l5, .ref 234], h)) mj_d_174_137 (fun _ _ => rfl) ?_
          refine sy_gr2 (b := 243) mj_d_174_138 rfl rfl (by decide) rfl rfl hH ?_
          refine sy_st (S' := (mj_m_174, 143, [(0, .ref 234), (1, sy_i l1), (2, sy_i l2), (3, sy_i l3), (4, sy_i l4), (5, sy_i l5)], [sy_i l4, .ref 243, sy_i l5, .ref 234], h)) mj_d_174_141 (fun _ _ => rfl) ?_
          refine sy_ia mj_d_174_143 rfl (by decide) (by omega) (by omega) (ab_el_1 rfl _) hH ?_
          rintro _ rfl bx49 tx49
          refine sy_cv (M' := mj_m_160) (vs := [.ref 234, sy_i l5, sy_i (sy_rd h 243 ((l4).toNat))]) (rest := []) mj_d_174_144 rfl rfl rfl rfl hH rfl rfl ⟨by decide, ⟨Nat.le_of_ble_eq_true rfl, Nat.le_of_ble_eq_true rfl, Nat.le_of_ble_eq_true rfl, Nat.le_of_ble_eq_true rfl, Nat.le_of_ble_eq_true rfl⟩⟩ (dt_R_isKnown (a1 := l5) (a2 := (sy_rd h 243 ((l4).toNat))) hH (by omega) (by omega) (by omega) (by omega)) ?_
          rintro _ _ ⟨rfl, rfl, b50, b50t⟩
          show sy_wp (mj_m_174, 147, [(0, .ref 234), (1, sy_i l1), (2, sy_i l2), (3, sy_i l3), (4, sy_i l4), (5, sy_i l5)], [sy_i (dc_R_isKnown (sy_rd h) l5 (sy_rd h 243 ((l4).toNat)))], h) _
          refine sy_ifc mj_d_174_147 rfl ⟨by omega, by omega⟩ (fun (c51 : (dc_R_isKnown (sy_rd h) l5 (sy_rd h 243 ((l4).toNat))) = 0) => ?_) (fun (c51 : ¬ ((dc_R_isKnown (sy_rd h) l5 (sy_rd h 243 ((l4).toNat))) = 0)) => ?_)
          · skip
            rw [if_pos c51]
            refine sy_inc (a := l5) (lv' := [(5, sy_i (l5 + 1)), (0, .ref 234), (1, sy_i l1), (2, sy_i l2), (3, sy_i l3), (4, sy_i l4)]) mj_d_174_169 (Nat.le_of_ble_eq_true rfl) rfl rfl ?_
            refine sy_st (S' := (mj_m_174, 113, [(5, sy_i (l5 + 1)), (0, .ref 234), (1, sy_i l1), (2, sy_i l2), (3, sy_i l3), (4, sy_i l4)], [], h)) mj_d_174_172 (fun _ _ => rfl) ?_
            refine sy_lv (lv := [(0, .ref 234), (1, sy_i l1), (2, sy_i l2), (3, sy_i l3), (4, sy_i l4), (5, sy_i (l5 + 1))]) rfl ⟨rfl, rfl, rfl, rfl, rfl, rfl, trivial⟩ ?_
            exact ih hH (by first | omega | assumption) (by first | omega | assumption) (by first | omega | assumption) (by first | omega | assumption) (by first | omega | assumption) (by first | omega | assumption) (by first | omega | assumption) (by first | omega | assumption) (by first | omega | assumption) (by first | omega | assumption) (by first | omega | assumption) (by first | omega | assumption) (by first | omega | assumption) (by first | omega | assumption) (by omega)
          · skip
            rw [if_neg c51]
            refine sy_st (S' := (mj_m_174, 151, [(0, .ref 234), (1, sy_i l1), (2, sy_i l2), (3, sy_i l3), (4, sy_i l4), (5, sy_i l5)], [.ref 234], h)) mj_d_174_150 (fun _ _ => rfl) ?_
            refine sy_gr2 (b := 246) mj_d_174_151 rfl rfl (by decide) rfl rfl hH ?_
            refine sy_st (S' := (mj_m_174, 156, [(0, .ref 234), (1, sy_i l1), (2, sy_i l2), (3, sy_i l3), (4, sy_i l4), (5, sy_i l5)], [sy_i l4, .ref 246], h)) mj_d_174_154 (fun _ _ => rfl) ?_
            refine sy_ia mj_d_174_156 rfl (by decide) (by omega) (by omega) (ab_el_1 rfl _) hH ?_
            rintro _ rfl bx52 tx52
            refine sy_st (S' := (mj_m_174, 158, [(0, .ref 234), (1, sy_i l1), (2, sy_i l2), (3, sy_i l3), (4, sy_i l4), (5, sy_i l5)], [.ref 234, sy_i (sy_rd h 246 ((l4).toNat))], h)) mj_d_174_157 (fun _ _ => rfl) ?_
            refine sy_st (S' := (mj_m_174, 159, [(0, .ref 234), (1, sy_i l1), (2, sy_i l2), (3, sy_i l3), (4, sy_i l4), (5, sy_i l5)], [sy_i l1, .ref 234, sy_i (sy_rd h 246 ((l4).toNat))], h)) mj_d_174_158 (fun _ _ => rfl) ?_
            refine sy_st (S' := (mj_m_174, 161, [(0, .ref 234), (1, sy_i l1), (2, sy_i l2), (3, sy_i l3), (4, sy_i l4), (5, sy_i l5)], [sy_i l5, sy_i l1, .ref 234, sy_i (sy_rd h 246 ((l4).toNat))], h)) mj_d_174_159 (fun _ _ => rfl) ?_
            refine sy_cv (M' := mj_m_175) (vs := [.ref 234, sy_i l1, sy_i l5]) (rest := [sy_i (sy_rd h 246 ((l4).toNat))]) mj_d_174_161 rfl rfl rfl rfl hH rfl rfl ⟨by decide, ⟨Nat.le_of_ble_eq_true rfl, Nat.le_of_ble_eq_true rfl, Nat.le_of_ble_eq_true rfl, Nat.le_of_ble_eq_true rfl, Nat.le_of_ble_eq_true rfl⟩⟩ (dt_R_moreOf (a1 := l1) (a2 := l5) hH (by omega) (by omega) (by omega) (by omega)) ?_
            rintro _ _ ⟨rfl, rfl, b53, b53t⟩
            show sy_wp (mj_m_174, 164, [(0, .ref 234), (1, sy_i l1), (2, sy_i l2), (3, sy_i l3), (4, sy_i l4), (5, sy_i l5)], [sy_i (dc_R_moreOf (sy_rd h) l1 l5), sy_i (sy_rd h 246 ((l4).toNat))], h) _
            refine sy_add mj_d_174_164 ?_
            refine sy_st (S' := (mj_m_174, 166, [(0, .ref 234), (1, sy_i l1), (2, sy_i l2), (3, sy_i l3), (4, sy_i l4), (5, sy_i l5)], [sy_i l3, sy_i ((sy_rd h 246 ((l4).toNat)) + (dc_R_moreOf (sy_rd h) l1 l5))], h)) mj_d_174_165 (fun _ _ => rfl) ?_
            refine sy_icm mj_d_174_166 rfl ⟨by omega, by omega⟩ ⟨by omega, by omega⟩ (fun (c54 : ((sy_rd h 246 ((l4).toNat)) + (dc_R_moreOf (sy_rd h) l1 l5)) < l3) => ?_) (fun (c54 : ¬ (((sy_rd h 246 ((l4).toNat)) + (dc_R_moreOf (sy_rd h) l1 l5)) < l3)) => ?_)
            · skip
              rw [if_pos c54]
              refine sy_st (S' := (mj_m_174, 177, [(0, .ref 234), (1, sy_i l1), (2, sy_i l2), (3, sy_i l3), (4, sy_i l4), (5, sy_i l5)], [sy_i l4], h)) mj_d_174_175 (fun _ _ => rfl) ?_
              refine sy_st (S' := (mj_m_174, 178, [(0, .ref 234), (1, sy_i l1), (2, sy_i l2), (3, sy_i l3), (4, sy_i l4), (5, sy_i l5)], [sy_i l2, sy_i l4], h)) mj_d_174_177 (fun _ _ => rfl) ?_
              refine sy_icm mj_d_174_178 rfl ⟨by omega, by omega⟩ ⟨by omega, by omega⟩ (fun (c55 : l2 ≤ l4) => ?_) (fun (c55 : ¬ (l2 ≤ l4)) => ?_)
              · skip
                rw [if_pos c55]
                refine sy_inc (a := l4) (lv' := [(4, sy_i (l4 + (-1))), (0, .ref 234), (1, sy_i l1), (2, sy_i l2), (3, sy_i l3), (5, sy_i l5)]) mj_d_174_248 (Nat.le_of_ble_eq_true rfl) rfl rfl ?_
                refine sy_st (S' := (mj_m_174, 252, [(4, sy_i (l4 + (-1))), (0, .ref 234), (1, sy_i l1), (2, sy_i l2), (3, sy_i l3), (5, sy_i l5)], [.ref 234], h)) mj_d_174_251 (fun _ _ => rfl) ?_
                refine sy_gr2 (b := 247) mj_d_174_252 rfl rfl (by decide) rfl rfl hH ?_
                refine sy_st (S' := (mj_m_174, 257, [(4, sy_i (l4 + (-1))), (0, .ref 234), (1, sy_i l1), (2, sy_i l2), (3, sy_i l3), (5, sy_i l5)], [sy_i (l4 + (-1)), .ref 247], h)) mj_d_174_255 (fun _ _ => rfl) ?_
                refine sy_ifc mj_d_174_257 rfl ⟨by omega, by omega⟩ (fun (c56 : 0 ≤ (l4 + (-1))) => ?_) (fun (c56 : ¬ (0 ≤ (l4 + (-1)))) => ?_)
                · skip
                  rw [if_pos c56]
                  have gm := i0.1 ((l4 + (-1))).toNat (by omega)
                  refine sy_st (S' := (mj_m_174, 265, [(4, sy_i (l4 + (-1))), (0, .ref 234), (1, sy_i l1), (2, sy_i l2), (3, sy_i l3), (5, sy_i l5)], [.ref 234, .ref 247], h)) mj_d_174_264 (fun _ _ => rfl) ?_
                  refine sy_gr2 (b := 244) mj_d_174_265 rfl rfl (by decide) rfl rfl hH ?_
                  refine sy_st (S' := (mj_m_174, 270, [(4, sy_i (l4 + (-1))), (0, .ref 234), (1, sy_i l1), (2, sy_i l2), (3, sy_i l3), (5, sy_i l5)], [sy_i (l4 + (-1)), .ref 244, .ref 247], h)) mj_d_174_268 (fun _ _ => rfl) ?_
                  refine sy_ia mj_d_174_270 rfl (by decide) (by omega) (by omega) (ab_el_1 rfl _) hH ?_
                  rintro _ rfl bx57 tx57
                  refine sy_st (S' := (mj_m_174, 272, [(4, sy_i (l4 + (-1))), (0, .ref 234), (1, sy_i l1), (2, sy_i l2), (3, sy_i l3), (5, sy_i l5)], [sy_i (sy_rd h 244 ((l4 + (-1)).toNat)), .ref 247, sy_i (sy_rd h 244 ((l4 + (-1)).toNat)), .ref 247], h)) mj_d_174_271 (fun _ _ => rfl) ?_
                  refine sy_ia mj_d_174_272 rfl (by decide) (by omega) (by omega) (ab_el_1 rfl _) hH ?_
                  rintro _ rfl bx58 tx58
                  refine sy_st (S' := (mj_m_174, 274, [(4, sy_i (l4 + (-1))), (0, .ref 234), (1, sy_i l1), (2, sy_i l2), (3, sy_i l3), (5, sy_i l5)], [sy_i 1, sy_i (sy_rd h 247 ((sy_rd h 244 ((l4 + (-1)).toNat)).toNat)), sy_i (sy_rd h 244 ((l4 + (-1)).toNat)), .ref 247], h)) mj_d_174_273 (fun _ _ => rfl) ?_
                  refine sy_sub mj_d_174_274 ?_
                  refine sg_iasw (v := ((sy_rd h 247 ((sy_rd h 244 ((l4 + (-1)).toNat)).toNat)) - 1)) mj_d_174_275 rfl (by decide) (by omega) (by omega) (ab_el_1 rfl _) hH ?_
                  intro h59 th59 eh59
                  refine sy_st (S' := (mj_m_174, 43, [(4, sy_i (l4 + (-1))), (0, .ref 234), (1, sy_i l1), (2, sy_i l2), (3, sy_i l3), (5, sy_i l5)], [], h59)) mj_d_174_276 (fun _ _ => rfl) ?_
                  refine sy_lv (lv := [(0, .ref 234), (1, sy_i l1), (2, sy_i l2), (3, sy_i l3), (4, sy_i (l4 + (-1)))]) rfl ⟨rfl, rfl, rfl, rfl, rfl, trivial⟩ ?_
                  rw [← eh59]
                  exact hk43 th59 (by first | omega | assumption) (by first | omega | assumption) (by first | omega | assumption) (by first | omega | assumption) (by first | omega | assumption) (by first | omega | assumption) (by first | omega | assumption) (by first | omega | assumption) (by rw [eh59]; exact (ft_ret i0 (by omega) (by omega) (by omega)).2) (by first | omega | assumption) (by rw [eh59]; exact Int.lt_of_lt_of_le (Int.ofNat_lt.mpr (ft_ret i0 (by omega) (by omega) (by omega)).1) i2)
                · skip
                  rw [if_neg c56]
                  refine sy_st (S' := (mj_m_174, 261, [(4, sy_i (l4 + (-1))), (0, .ref 234), (1, sy_i l1), (2, sy_i l2), (3, sy_i l3), (5, sy_i l5)], [sy_i 0, .ref 247], h)) mj_d_174_260 (fun _ _ => rfl) ?_
                  refine sy_st (S' := (mj_m_174, 271, [(4, sy_i (l4 + (-1))), (0, .ref 234), (1, sy_i l1), (2, sy_i l2), (3, sy_i l3), (5, sy_i l5)], [sy_i 0, .ref 247], h)) mj_d_174_261 (fun _ _ => rfl) ?_
                  refine sy_st (S' := (mj_m_174, 272, [(4, sy_i (l4 + (-1))), (0, .ref 234), (1, sy_i l1), (2, sy_i l2), (3, sy_i l3), (5, sy_i l5)], [sy_i 0, .ref 247, sy_i 0, .ref 247], h)) mj_d_174_271 (fun _ _ => rfl) ?_
                  refine sy_ia mj_d_174_272 rfl (by decide) (by omega) (by omega) (ab_el_1 rfl _) hH ?_
                  intro x60 ex60 bx60 tx60
                  replace ex60 : x60 = sy_rd h 247 0 := ex60
                  subst ex60
                  refine sy_st (S' := (mj_m_174, 274, [(4, sy_i (l4 + (-1))), (0, .ref 234), (1, sy_i l1), (2, sy_i l2), (3, sy_i l3), (5, sy_i l5)], [sy_i 1, sy_i (sy_rd h 247 0), sy_i 0, .ref 247], h)) mj_d_174_273 (fun _ _ => rfl) ?_
                  refine sy_sub mj_d_174_274 ?_
                  refine sg_iasw (v := ((sy_rd h 247 0) - 1)) mj_d_174_275 rfl (by decide) (by omega) (by omega) (ab_el_1 rfl _) hH ?_
                  intro h61 th61 eh61
                  replace eh61 : sy_rd h61 = sg_up (sy_rd h) 247 0 (sy_w ((sy_rd h 247 0) - 1)) := eh61
                  refine sy_st (S' := (mj_m_174, 43, [(4, sy_i (l4 + (-1))), (0, .ref 234), (1, sy_i l1), (2, sy_i l2), (3, sy_i l3), (5, sy_i l5)], [], h61)) mj_d_174_276 (fun _ _ => rfl) ?_
                  refine sy_lv (lv := [(0, .ref 234), (1, sy_i l1), (2, sy_i l2), (3, sy_i l3), (4, sy_i (l4 + (-1)))]) rfl ⟨rfl, rfl, rfl, rfl, rfl, trivial⟩ ?_
                  rw [← eh61]
                  exact hk43 th61 (by first | omega | assumption) (by first | omega | assumption) (by first | omega | assumption) (by first | omega | assumption) (by first | omega | assumption) (by first | omega | assumption) (by first | omega | assumption) (by first | omega | assumption) (by rw [eh61]; exact (ft_ret i0 (by omega) (by omega) (by omega)).2) (by first | omega | assumption) (by rw [eh61]; exact Int.lt_of_lt_of_le (Int.ofNat_lt.mpr (ft_ret i0 (by omega) (by omega) (by omega)).1) i2)
              · skip
                rw [if_neg c55]
                refine sy_st (S' := (mj_m_174, 183, [(0, .ref 234), (1, sy_i l1), (2, sy_i l2), (3, sy_i l3), (4, sy_i l4), (5, sy_i l5)], [sy_i l5], h)) mj_d_174_181 (fun _ _ => rfl) ?_
                refine sy_st (S' := (mj_m_174, 184, [(0, .ref 234), (1, sy_i l1), (2, sy_i l2), (3, sy_i l3), (4, sy_i l4), (5, sy_i l5)], [.ref 234, sy_i l5], h)) mj_d_174_183 (fun _ _ => rfl) ?_
                refine sy_gf mj_d_174_184 rfl rfl (by decide) rfl hH ?_
                intro x62 ex62 bx62 tx62
                replace ex62 : x62 = sy_rd h 234 7 := ex62
                subst ex62
                refine sy_icm mj_d_174_187 rfl ⟨by omega, by omega⟩ ⟨by omega, by omega⟩ (fun (c63 : (sy_rd h 234 7) ≤ l5) => ?_) (fun (c63 : ¬ ((sy_rd h 234 7) ≤ l5)) => ?_)
                · skip
                  rw [if_pos c63]
                  refine sy_inc (a := l4) (lv' := [(4, sy_i (l4 + (-1))), (0, .ref 234), (1, sy_i l1), (2, sy_i l2), (3, sy_i l3), (5, sy_i l5)]) mj_d_174_248 (Nat.le_of_ble_eq_true rfl) rfl rfl ?_
                  refine sy_st (S' := (mj_m_174, 252, [(4, sy_i (l4 + (-1))), (0, .ref 234), (1, sy_i l1), (2, sy_i l2), (3, sy_i l3), (5, sy_i l5)], [.ref 234], h)) mj_d_174_251 (fun _ _ => rfl) ?_
                  refine sy_gr2 (b := 247) mj_d_174_252 rfl rfl (by decide) rfl rfl hH ?_
                  refine sy_st (S' := (mj_m_174, 257, [(4, sy_i (l4 + (-1))), (0, .ref 234), (1, sy_i l1), (2, sy_i l2), (3, sy_i l3), (5, sy_i l5)], [sy_i (l4 + (-1)), .ref 247], h)) mj_d_174_255 (fun _ _ => rfl) ?_
                  refine sy_ifc mj_d_174_257 rfl ⟨by omega, by omega⟩ (fun (c64 : 0 ≤ (l4 + (-1))) => ?_) (fun (c64 : ¬ (0 ≤ (l4 + (-1)))) => ?_)
                  · skip
                    rw [if_pos c64]
                    have gm := i0.1 ((l4 + (-1))).toNat (by omega)
                    refine sy_st (S' := (mj_m_174, 265, [(4, sy_i (l4 + (-1))), (0, .ref 234), (1, sy_i l1), (2, sy_i l2), (3, sy_i l3), (5, sy_i l5)], [.ref 234, .ref 247], h)) mj_d_174_264 (fun _ _ => rfl) ?_
                    refine sy_gr2 (b := 244) mj_d_174_265 rfl rfl (by decide) rfl rfl hH ?_
                    refine sy_st (S' := (mj_m_174, 270, [(4, sy_i (l4 + (-1))), (0, .ref 234), (1, sy_i l1), (2, sy_i l2), (3, sy_i l3), (5, sy_i l5)], [sy_i (l4 + (-1)), .ref 244, .ref 247], h)) mj_d_174_268 (fun _ _ => rfl) ?_
                    refine sy_ia mj_d_174_270 rfl (by decide) (by omega) (by omega) (ab_el_1 rfl _) hH ?_
                    rintro _ rfl bx65 tx65
                    refine sy_st (S' := (mj_m_174, 272, [(4, sy_i (l4 + (-1))), (0, .ref 234), (1, sy_i l1), (2, sy_i l2), (3, sy_i l3), (5, sy_i l5)], [sy_i (sy_rd h 244 ((l4 + (-1)).toNat)), .ref 247, sy_i (sy_rd h 244 ((l4 + (-1)).toNat)), .ref 247], h)) mj_d_174_271 (fun _ _ => rfl) ?_
                    refine sy_ia mj_d_174_272 rfl (by decide) (by omega) (by omega) (ab_el_1 rfl _) hH ?_
                    rintro _ rfl bx66 tx66
                    refine sy_st (S' := (mj_m_174, 274, [(4, sy_i (l4 + (-1))), (0, .ref 234), (1, sy_i l1), (2, sy_i l2), (3, sy_i l3), (5, sy_i l5)], [sy_i 1, sy_i (sy_rd h 247 ((sy_rd h 244 ((l4 + (-1)).toNat)).toNat)), sy_i (sy_rd h 244 ((l4 + (-1)).toNat)), .ref 247], h)) mj_d_174_273 (fun _ _ => rfl) ?_
                    refine sy_sub mj_d_174_274 ?_
                    refine sg_iasw (v := ((sy_rd h 247 ((sy_rd h 244 ((l4 + (-1)).toNat)).toNat)) - 1)) mj_d_174_275 rfl (by decide) (by omega) (by omega) (ab_el_1 rfl _) hH ?_
                    intro h67 th67 eh67
                    refine sy_st (S' := (mj_m_174, 43, [(4, sy_i (l4 + (-1))), (0, .ref 234), (1, sy_i l1), (2, sy_i l2), (3, sy_i l3), (5, sy_i l5)], [], h67)) mj_d_174_276 (fun _ _ => rfl) ?_
                    refine sy_lv (lv := [(0, .ref 234), (1, sy_i l1), (2, sy_i l2), (3, sy_i l3), (4, sy_i (l4 + (-1)))]) rfl ⟨rfl, rfl, rfl, rfl, rfl, trivial⟩ ?_
                    rw [← eh67]
                    exact hk43 th67 (by first | omega | assumption) (by first | omega | assumption) (by first | omega | assumption) (by first | omega | assumption) (by first | omega | assumption) (by first | omega | assumption) (by first | omega | assumption) (by first | omega | assumption) (by rw [eh67]; exact (ft_ret i0 (by omega) (by omega) (by omega)).2) (by first | omega | assumption) (by rw [eh67]; exact Int.lt_of_lt_of_le (Int.ofNat_lt.mpr (ft_ret i0 (by omega) (by omega) (by omega)).1) i2)
                  · skip
                    rw [if_neg c64]
                    refine sy_st (S' := (mj_m_174, 261, [(4, sy_i (l4 + (-1))), (0, .ref 234), (1, sy_i l1), (2, sy_i l2), (3, sy_i l3), (5, sy_i l5)], [sy_i 0, .ref 247], h)) mj_d_174_260 (fun _ _ => rfl) ?_
                    refine sy_st (S' := (mj_m_174, 271, [(4, sy_i (l4 + (-1))), (0, .ref 234), (1, sy_i l1), (2, sy_i l2), (3, sy_i l3), (5, sy_i l5)], [sy_i 0, .ref 247], h)) mj_d_174_261 (fun _ _ => rfl) ?_
                    refine sy_st (S' := (mj_m_174, 272, [(4, sy_i (l4 + (-1))), (0, .ref 234), (1, sy_i l1), (2, sy_i l2), (3, sy_i l3), (5, sy_i l5)], [sy_i 0, .ref 247, sy_i 0, .ref 247], h)) mj_d_174_271 (fun _ _ => rfl) ?_
                    refine sy_ia mj_d_174_272 rfl (by decide) (by omega) (by omega) (ab_el_1 rfl _) hH ?_
                    intro x68 ex68 bx68 tx68
                    replace ex68 : x68 = sy_rd h 247 0 := ex68
                    subst ex68
                    refine sy_st (S' := (mj_m_174, 274, [(4, sy_i (l4 + (-1))), (0, .ref 234), (1, sy_i l1), (2, sy_i l2), (3, sy_i l3), (5, sy_i l5)], [sy_i 1, sy_i (sy_rd h 247 0), sy_i 0, .ref 247], h)) mj_d_174_273 (fun _ _ => rfl) ?_
                    refine sy_sub mj_d_174_274 ?_
                    refine sg_iasw (v := ((sy_rd h 247 0) - 1)) mj_d_174_275 rfl (by decide) (by omega) (by omega) (ab_el_1 rfl _) hH ?_
                    intro h69 th69 eh69
                    replace eh69 : sy_rd h69 = sg_up (sy_rd h) 247 0 (sy_w ((sy_rd h 247 0) - 1)) := eh69
                    refine sy_st (S' := (mj_m_174, 43, [(4, sy_i (l4 + (-1))), (0, .ref 234), (1, sy_i l1), (2, sy_i l2), (3, sy_i l3), (5, sy_i l5)], [], h69)) mj_d_174_276 (fun _ _ => rfl) ?_
                    refine sy_lv (lv := [(0, .ref 234), (1, sy_i l1), (2, sy_i l2), (3, sy_i l3), (4, sy_i (l4 + (-1)))]) rfl ⟨rfl, rfl, rfl, rfl, rfl, trivial⟩ ?_
                    rw [← eh69]
                    exact hk43 th69 (by first | omega | assumption) (by first | omega | assumption) (by first | omega | assumption) (by first | omega | assumption) (by first | omega | assumption) (by first | omega | assumption) (by first | omega | assumption) (by first | omega | assumption) (by rw [eh69]; exact (ft_ret i0 (by omega) (by omega) (by omega)).2) (by first | omega | assumption) (by rw [eh69]; exact Int.lt_of_lt_of_le (Int.ofNat_lt.mpr (ft_ret i0 (by omega) (by omega) (by omega)).1) i2)
                · skip
                  rw [if_neg c63]
                  refine sy_st (S' := (mj_m_174, 191, [(0, .ref 234), (1, sy_i l1), (2, sy_i l2), (3, sy_i l3), (4, sy_i l4), (5, sy_i l5)], [.ref 234], h)) mj_d_174_190 (fun _ _ => rfl) ?_
                  refine sy_gr2 (b := 246) mj_d_174_191 rfl rfl (by decide) rfl rfl hH ?_
                  refine sy_st (S' := (mj_m_174, 196, [(0, .ref 234), (1, sy_i l1), (2, sy_i l2), (3, sy_i l3), (4, sy_i l4), (5, sy_i l5)], [sy_i l4, .ref 246], h)) mj_d_174_194 (fun _ _ => rfl) ?_
                  refine sy_st (S' := (mj_m_174, 197, [(0, .ref 234), (1, sy_i l1), (2, sy_i l2), (3, sy_i l3), (4, sy_i l4), (5, sy_i l5)], [sy_i 1, sy_i l4, .ref 246], h)) mj_d_174_196 (fun _ _ => rfl) ?_
                  refine sy_add mj_d_174_197 ?_
                  refine sy_st (S' := (mj_m_174, 199, [(0, .ref 234), (1, sy_i l1), (2, sy_i l2), (3, sy_i l3), (4, sy_i l4), (5, sy_i l5)], [.ref 234, sy_i (l4 + 1), .ref 246], h)) mj_d_174_198 (fun _ _ => rfl) ?_
                  refine sy_gr2 (b := 246) mj_d_174_199 rfl rfl (by decide) rfl rfl hH ?_
                  refine sy_st (S' := (mj_m_174, 204, [(0, .ref 234), (1, sy_i l1), (2, sy_i l2), (3, sy_i l3), (4, sy_i l4), (5, sy_i l5)], [sy_i l4, .ref 246, sy_i (l4 + 1), .ref 246], h)) mj_d_174_202 (fun _ _ => rfl) ?_
                  refine sy_ia mj_d_174_204 rfl (by decide) (by omega) (by omega) (ab_el_1 rfl _) hH ?_
                  rintro _ rfl bx70 tx70
                  refine sy_st (S' := (mj_m_174, 206, [(0, .ref 234), (1, sy_i l1), (2, sy_i l2), (3, sy_i l3), (4, sy_i l4), (5, sy_i l5)], [.ref 234, sy_i (sy_rd h 246 ((l4).toNat)), sy_i (l4 + 1), .ref 246], h)) mj_d_174_205 (fun _ _ => rfl) ?_
                  refine sy_st (S' := (mj_m_174, 207, [(0, .ref 234), (1, sy_i l1), (2, sy_i l2), (3, sy_i l3), (4, sy_i l4), (5, sy_i l5)], [sy_i l1, .ref 234, sy_i (sy_rd h 246 ((l4).toNat)), sy_i (l4 + 1), .ref 246], h)) mj_d_174_206 (fun _ _ => rfl) ?_
                  refine sy_st (S' := (mj_m_174, 209, [(0, .ref 234), (1, sy_i l1), (2, sy_i l2), (3, sy_i l3), (4, sy_i l4), (5, sy_i l5)], [sy_i l5, sy_i l1, .ref 234, sy_i (sy_rd h 246 ((l4).toNat)), sy_i (l4 + 1), .ref 246], h)) mj_d_174_207 (fun _ _ => rfl) ?_
                  refine sy_cv (M' := mj_m_175) (vs := [.ref 234, sy_i l1, sy_i l5]) (rest := [sy_i (sy_rd h 246 ((l4).toNat)), sy_i (l4 + 1), .ref 246]) mj_d_174_209 rfl rfl rfl rfl hH rfl rfl ⟨by decide, ⟨Nat.le_of_ble_eq_true rfl, Nat.le_of_ble_eq_true rfl, Nat.le_of_ble_eq_true rfl, Nat.le_of_ble_eq_true rfl, Nat.le_of_ble_eq_true rfl⟩⟩ (dt_R_moreOf (a1 := l1) (a2 := l5) hH (by omega) (by omega) (by omega) (by omega)) ?_
                  rintro _ _ ⟨rfl, rfl, b71, b71t⟩
                  show sy_wp (mj_m_174, 212, [(0, .ref 234), (1, sy_i l1), (2, sy_i l2), (3, sy_i l3), (4, sy_i l4), (5, sy_i l5)], [sy_i (dc_R_moreOf (sy_rd h) l1 l5), sy_i (sy_rd h 246 ((l4).toNat)), sy_i (l4 + 1), .ref 246], h) _
                  refine sy_add mj_d_174_212 ?_
                  refine sg_ias (v := ((sy_rd h 246 ((l4).toNat)) + (dc_R_moreOf (sy_rd h) l1 l5))) mj_d_174_213 rfl (by decide) (by omega) (by omega) (ab_el_1 rfl _) hH (by omega) (by omega) ⟨by omega, by omega⟩ ?_
                  intro h72 th72 eh72
                  refine sy_st (S' := (mj_m_174, 215, [(0, .ref 234), (1, sy_i l1), (2, sy_i l2), (3, sy_i l3), (4, sy_i l4), (5, sy_i l5)], [.ref 234], h72)) mj_d_174_214 (fun _ _ => rfl) ?_
                  refine sy_gr2 (b := 247) mj_d_174_215 rfl rfl (by decide) rfl rfl th72 ?_
                  refine sy_st (S' := (mj_m_174, 220, [(0, .ref 234), (1, sy_i l1), (2, sy_i l2), (3, sy_i l3), (4, sy_i l4), (5, sy_i l5)], [sy_i l5, .ref 247], h72)) mj_d_174_218 (fun _ _ => rfl) ?_
                  refine sy_st (S' := (mj_m_174, 221, [(0, .ref 234), (1, sy_i l1), (2, sy_i l2), (3, sy_i l3), (4, sy_i l4), (5, sy_i l5)], [sy_i l5, .ref 247, sy_i l5, .ref 247], h72)) mj_d_174_220 (fun _ _ => rfl) ?_
                  refine sy_ia mj_d_174_221 rfl (by decide) (by omega) (by omega) (ab_el_1 rfl _) th72 ?_
                  intro x73 ex73 bx73 tx73
                  rw [eh72, sg_na (by decide)] at ex73
                  subst ex73
                  refine sy_st (S' := (mj_m_174, 223, [(0, .ref 234), (1, sy_i l1), (2, sy_i l2), (3, sy_i l3), (4, sy_i l4), (5, sy_i l5)], [sy_i 1, sy_i (sy_rd h 247 ((l5).toNat)), sy_i l5, .ref 247], h72)) mj_d_174_222 (fun _ _ => rfl) ?_
                  refine sy_add mj_d_174_223 ?_
                  refine sg_iasw (v := ((sy_rd h 247 ((l5).toNat)) + 1)) mj_d_174_224 rfl (by decide) (by omega) (by omega) (ab_el_1 rfl _) th72 ?_
                  intro h74 th74 eh74
                  rw [eh72] at eh74
                  refine sy_st (S' := (mj_m_174, 226, [(0, .ref 234), (1, sy_i l1), (2, sy_i l2), (3, sy_i l3), (4, sy_i l4), (5, sy_i l5)], [.ref 234], h74)) mj_d_174_225 (fun _ _ => rfl) ?_
                  refine sy_gr2 (b := 244) mj_d_174_226 rfl rfl (by decide) rfl rfl th74 ?_
                  refine sy_st (S' := (mj_m_174, 231, [(0, .ref 234), (1, sy_i l1), (2, sy_i l2), (3, sy_i l3), (4, sy_i l4), (5, sy_i l5)], [sy_i l4, .ref 244], h74)) mj_d_174_229 (fun _ _ => rfl) ?_
                  refine sy_st (S' := (mj_m_174, 233, [(0, .ref 234), (1, sy_i l1), (2, sy_i l2), (3, sy_i l3), (4, sy_i l4), (5, sy_i l5)], [sy_i l5, sy_i l4, .ref 244], h74)) mj_d_174_231 (fun _ _ => rfl) ?_
                  refine sg_ias (v := l5) mj_d_174_233 rfl (by decide) (by omega) (by omega) (ab_el_1 rfl _) th74 (by omega) (by omega) ⟨by omega, by omega⟩ ?_
                  intro h75 th75 eh75
                  rw [eh74] at eh75
                  refine sy_inc (a := l4) (lv' := [(4, sy_i (l4 + 1)), (0, .ref 234), (1, sy_i l1), (2, sy_i l2), (3, sy_i l3), (5, sy_i l5)]) mj_d_174_234 (Nat.le_of_ble_eq_true rfl) rfl rfl ?_
                  refine sy_st (S' := (mj_m_174, 238, [(4, sy_i (l4 + 1)), (0, .ref 234), (1, sy_i l1), (2, sy_i l2), (3, sy_i l3), (5, sy_i l5)], [.ref 234], h75)) mj_d_174_237 (fun _ _ => rfl) ?_
                  refine sy_gr2 (b := 244) mj_d_174_238 rfl rfl (by decide) rfl rfl th75 ?_
                  refine sy_st (S' := (mj_m_174, 243, [(4, sy_i (l4 + 1)), (0, .ref 234), (1, sy_i l1), (2, sy_i l2), (3, sy_i l3), (5, sy_i l5)], [sy_i (l4 + 1), .ref 244], h75)) mj_d_174_241 (fun _ _ => rfl) ?_
                  refine sy_st (S' := (mj_m_174, 244, [(4, sy_i (l4 + 1)), (0, .ref 234), (1, sy_i l1), (2, sy_i l2), (3, sy_i l3), (5, sy_i l5)], [sy_i (-1), sy_i (l4 + 1), .ref 244], h75)) mj_d_174_243 (fun _ _ => rfl) ?_
                  refine sg_ias (v := (-1)) mj_d_174_244 rfl (by decide) (by omega) (by omega) (ab_el_1 rfl _) th75 (by omega) (by omega) ⟨by omega, by omega⟩ ?_
                  intro h76 th76 eh76
                  rw [eh75] at eh76
                  refine sy_st (S' := (mj_m_174, 276, [(4, sy_i (l4 + 1)), (0, .ref 234), (1, sy_i l1), (2, sy_i l2), (3, sy_i l3), (5, sy_i l5)], [], h76)) mj_d_174_245 (fun _ _ => rfl) ?_
                  refine sy_st (S' := (mj_m_174, 43, [(4, sy_i (l4 + 1)), (0, .ref 234), (1, sy_i l1), (2, sy_i l2), (3, sy_i l3), (5, sy_i l5)], [], h76)) mj_d_174_276 (fun _ _ => rfl) ?_
                  refine sy_lv (lv := [(0, .ref 234), (1, sy_i l1), (2, sy_i l2), (3, sy_i l3), (4, sy_i (l4 + 1))]) rfl ⟨rfl, rfl, rfl, rfl, rfl, trivial⟩ ?_
                  rw [← eh76]
                  exact hk43 th76 (by first | omega | assumption) (by first | omega | assumption) (by first | omega | assumption) (by first | omega | assumption) (by first | omega | assumption) (by first | omega | assumption) (by first | omega | assumption) (by first | omega | assumption) (by rw [eh76]; exact (ft_adv i0 (by omega) (by omega) (by omega) (by omega) i3 (by omega) (by omega) (by omega) (by omega)).2) (by first | omega | assumption) (by rw [eh76]; exact Int.lt_of_lt_of_le (Int.ofNat_lt.mpr (ft_adv i0 (by omega) (by omega) (by omega) (by omega) i3 (by omega) (by omega) (by omega) (by omega)).1) i2)
            · skip
              rw [if_neg c54]
              refine sy_inc (a := l5) (lv' := [(5, sy_i (l5 + 1)), (0, .ref 234), (1, sy_i l1), (2, sy_i l2), (3, sy_i l3), (4, sy_i l4)]) mj_d_174_169 (Nat.le_of_ble_eq_true rfl) rfl rfl ?_
              refine sy_st (S' := (mj_m_174, 113, [(5, sy_i (l5 + 1)), (0, .ref 234), (1, sy_i l1), (2, sy_i l2), (3, sy_i l3), (4, sy_i l4)], [], h)) mj_d_174_172 (fun _ _ => rfl) ?_
              refine sy_lv (lv := [(0, .ref 234), (1, sy_i l1), (2, sy_i l2), (3, sy_i l3), (4, sy_i l4), (5, sy_i (l5 + 1))]) rfl ⟨rfl, rfl, rfl, rfl, rfl, rfl, trivial⟩ ?_
              exact ih hH (by first | omega | assumption) (by first | omega | assumption) (by first | omega | assumption) (by first | omega | assumption) (by first | omega | assumption) (by first | omega | assumption) (by first | omega | assumption) (by first | omega | assumption) (by first | omega | assumption) (by first | omega | assumption) (by first | omega | assumption) (by first | omega | assumption) (by first | omega | assumption) (by first | omega | assumption) (by omega)
set_option maxRecDepth 100000 in
theorem dt_R_findTrade_76 {k43 : sg_S → Int → Int → Int → Int → sg_S × Int} {n43 : Nat} (hk43 : ∀ {h1 : mj_H}, sy_H h1 → ∀ {l1 l2 l3 l4 : Int}, 0 ≤ l1 → l1 ≤ 4 → 0 ≤ l2 → l2 ≤ 9 → 0 ≤ l3 → l3 ≤ 1000000 → (-1) ≤ l4 → l4 ≤ 9 → ft_I (sy_rd h1) l4 → l4 ≤ l2 → ((ft_M (sy_rd h1) l4 : Nat) : Int) < (n43 : Int) → sy_wp (mj_m_174, 43, [(0, .ref 234), (1, sy_i l1), (2, sy_i l2), (3, sy_i l3), (4, sy_i l4)], [], h1) (dq2 (0) (1000000) (k43 (sy_rd h1) l1 l2 l3 l4))) : ∀ (n : Nat) {h : mj_H} (hH : sy_H h) {l1 l2 l3 l4 l5 : Int} (b_l1 : 0 ≤ l1) (t_l1 : l1 ≤ 4) (b_l2 : 0 ≤ l2) (t_l2 : l2 ≤ 9) (b_l3 : 0 ≤ l3) (t_l3 : l3 ≤ 1000000) (b_l4 : 0 ≤ l4) (t_l4 : l4 ≤ 9) (b_l5 : 0 ≤ l5) (t_l5 : l5 ≤ 9) (i0 : ft_I (sy_rd h) l4) (i1 : l4 = l2) (i2 : ((ft_M (sy_rd h) l4 : Nat) : Int) ≤ (n43 : Int)) (hm : 9 - l5 < (n : Int)), sy_wp (mj_m_174, 76, [(0, .ref 234), (1, sy_i l1), (2, sy_i l2), (3, sy_i l3), (4, sy_i l4), (5, sy_i l5)], [], h) (dq2 (0) (1000000) (dc_R_findTrade_76 k43 n (sy_rd h) l1 l2 l3 l4 l5)) := by
  intro n
  induction n with
  | zero =>
    intro h hH l1 l2 l3 l4 l5 b_l1 t_l1 b_l2 t_l2 b_l3 t_l3 b_l4 t_l4 b_l5 t_l5 i0 i1 i2 hm
    exact absurd hm (by omega)
  | succ n ih =>
    intro h hH l1 l2 l3 l4 l5 b_l1 t_l1 b_l2 t_l2 b_l3 t_l3 b_l4 t_l4 b_l5 t_l5 i0 i1 i2 hm
    rw [dc_R_findTrade_76_s]
    refine sy_st (S' := (mj_m_174, 78, [(0, .ref 234), (1, sy_i l1), (2, sy_i l2), (3, sy_i l3), (4, sy_i l4), (5, sy_i l5)], [sy_i l5], h)) mj_d_174_76 (fun _ _ => rfl) ?_
    refine sy_st (S' := (mj_m_174, 79, [(0, .ref 234), (1, sy_i l1), (2, sy_i l2), (3, sy_i l3), (4, sy_i l4), (5, sy_i l5)], [sy_i l2, sy_i l5], h)) mj_d_174_78 (fun _ _ => rfl) ?_
    refine sy_icm mj_d_174_79 rfl ⟨by omega, by omega⟩ ⟨by omega, by omega⟩ (fun (c1 : l2 ≤ l5) => ?_) (fun (c1 : ¬ (l2 ≤ l5)) => ?_)
    · skip
      rw [if_pos c1]
      refine sy_st (S' := (mj_m_174, 103, [(0, .ref 234), (1, sy_i l1), (2, sy_i l2), (3, sy_i l3), (4, sy_i l4), (5, sy_i l5)], [.ref 234], h)) mj_d_174_102 (fun _ _ => rfl) ?_
      refine sy_gr2 (b := 244) mj_d_174_103 rfl rfl (by decide) rfl rfl hH ?_
      refine sy_st (S' := (mj_m_174, 108, [(0, .ref 234), (1, sy_i l1), (2, sy_i l2), (3, sy_i l3), (4, sy_i l4), (5, sy_i l5)], [sy_i l4, .ref 244], h)) mj_d_174_106 (fun _ _ => rfl) ?_
      refine sy_ia mj_d_174_108 rfl (by decide) (by omega) (by omega) (ab_el_1 rfl _) hH ?_
      rintro _ rfl bx2 tx2
      refine sy_st (S' := (mj_m_174, 110, [(0, .ref 234), (1, sy_i l1), (2, sy_i l2), (3, sy_i l3), (4, sy_i l4), (5, sy_i l5)], [sy_i 1, sy_i (sy_rd h 244 ((l4).toNat))], h)) mj_d_174_109 (fun _ _ => rfl) ?_
      refine sy_add mj_d_174_110 ?_
      refine sy_st (S' := (mj_m_174, 113, [(5, sy_i ((sy_rd h 244 ((l4).toNat)) + 1)), (0, .ref 234), (1, sy_i l1), (2, sy_i l2), (3, sy_i l3), (4, sy_i l4)], [], h)) mj_d_174_111 (fun _ _ => rfl) ?_
      refine sy_lv (lv := [(0, .ref 234), (1, sy_i l1), (2, sy_i l2), (3, sy_i l3), (4, sy_i l4), (5, sy_i ((sy_rd h 244 ((l4).toNat)) + 1))]) rfl ⟨rfl, rfl, rfl, rfl, rfl, rfl, trivial⟩ ?_
      exact dt_R_findTrade_113 @hk43 6 hH (by first | omega | assumption) (by first | omega | assumption) (by first | omega | assumption) (by first | omega | assumption) (by first | omega | assumption) (by first | omega | assumption) (by first | omega | assumption) (by first | omega | assumption) (by first | omega | assumption) (by first | omega | assumption) (by first | omega | assumption) (by first | omega | assumption) (by first | omega | assumption) (by first | omega | assumption) (by omega)
    · skip
      rw [if_neg c1]
      have gk := i0.1 (l5).toNat (by omega)
      refine sy_st (S' := (mj_m_174, 83, [(0, .ref 234), (1, sy_i l1), (2, sy_i l2), (3, sy_i l3), (4, sy_i l4), (5, sy_i l5)], [.ref 234], h)) mj_d_174_82 (fun _ _ => rfl) ?_
      refine sy_gr2 (b := 245) mj_d_174_83 rfl rfl (by decide) rfl rfl hH ?_
      refine sy_st (S' := (mj_m_174, 88, [(0, .ref 234), (1, sy_i l1), (2, sy_i l2), (3, sy_i l3), (4, sy_i l4), (5, sy_i l5)], [sy_i l5, .ref 245], h)) mj_d_174_86 (fun _ _ => rfl) ?_
      refine sy_st (S' := (mj_m_174, 89, [(0, .ref 234), (1, sy_i l1), (2, sy_i l2), (3, sy_i l3), (4, sy_i l4), (5, sy_i l5)], [.ref 234, sy_i l5, .ref 245], h)) mj_d_174_88 (fun _ _ => rfl) ?_
      refine sy_gr2 (b := 244) mj_d_174_89 rfl rfl (by decide) rfl rfl hH ?_
      refine sy_st (S' := (mj_m_174, 94, [(0, .ref 234), (1, sy_i l1), (2, sy_i l2), (3, sy_i l3), (4, sy_i l4), (5, sy_i l5)], [sy_i l5, .ref 244, sy_i l5, .ref 245], h)) mj_d_174_92 (fun _ _ => rfl) ?_
      refine sy_ia mj_d_174_94 rfl (by decide) (by omega) (by omega) (ab_el_1 rfl _) hH ?_
      rintro _ rfl bx3 tx3
      refine sg_ias (v := (sy_rd h 244 ((l5).toNat))) mj_d_174_95 rfl (by decide) (by omega) (by omega) (ab_el_1 rfl _) hH (by omega) (by omega) ⟨by omega, by omega⟩ ?_
      intro h4 th4 eh4
      refine sy_inc (a := l5) (lv' := [(5, sy_i (l5 + 1)), (0, .ref 234), (1, sy_i l1), (2, sy_i l2), (3, sy_i l3), (4, sy_i l4)]) mj_d_174_96 (Nat.le_of_ble_eq_true rfl) rfl rfl ?_
      refine sy_st (S' := (mj_m_174, 76, [(5, sy_i (l5 + 1)), (0, .ref 234), (1, sy_i l1), (2, sy_i l2), (3, sy_i l3), (4, sy_i l4)], [], h4)) mj_d_174_99 (fun _ _ => rfl) ?_
      refine sy_lv (lv := [(0, .ref 234), (1, sy_i l1), (2, sy_i l2), (3, sy_i l3), (4, sy_i l4), (5, sy_i (l5 + 1))]) rfl ⟨rfl, rfl, rfl, rfl, rfl, rfl, trivial⟩ ?_
      rw [← eh4]
      exact ih th4 (by first | omega | assumption) (by first | omega | assumption) (by first | omega | assumption) (by first | omega | assumption) (by first | omega | assumption) (by first | omega | assumption) (by first | omega | assumption) (by first | omega | assumption) (by first | omega | assumption) (by first | omega | assumption) (by rw [eh4]; exact ft_I_up (by decide) (by decide) i0) (by first | omega | assumption) (by rw [eh4, ft_M_up (by decide)]; exact i2) (by omega)
set_option maxRecDepth 100000 in
theorem dt_R_findTrade_43 : ∀ (n : Nat) {h : mj_H} (hH : sy_H h) {l1 l2 l3 l4 : Int} (b_l1 : 0 ≤ l1) (t_l1 : l1 ≤ 4) (b_l2 : 0 ≤ l2) (t_l2 : l2 ≤ 9) (b_l3 : 0 ≤ l3) (t_l3 : l3 ≤ 1000000) (b_l4 : (-1) ≤ l4) (t_l4 : l4 ≤ 9) (i0 : ft_I (sy_rd h) l4) (i1 : l4 ≤ l2) (hm : ((ft_M (sy_rd h) l4 : Nat) : Int) < (n : Int)), sy_wp (mj_m_174, 43, [(0, .ref 234), (1, sy_i l1), (2, sy_i l2), (3, sy_i l3), (4, sy_i l4)], [], h) (dq2 (0) (1000000) (dc_R_findTrade_43 n (sy_rd h) l1 l2 l3 l4)) := by
  intro n
  induction n with
  | zero =>
    intro h hH l1 l2 l3 l4 b_l1 t_l1 b_l2 t_l2 b_l3 t_l3 b_l4 t_l4 i0 i1 hm
    exact absurd hm (by omega)
  | succ n ih =>
    intro h hH l1 l2 l3 l4 b_l1 t_l1 b_l2 t_l2 b_l3 t_l3 b_l4 t_l4 i0 i1 hm
    rw [dc_R_findTrade_43_s]
    refine sy_st (S' := (mj_m_174, 45, [(0, .ref 234), (1, sy_i l1), (2, sy_i l2), (3, sy_i l3), (4, sy_i l4)], [sy_i l4], h)) mj_d_174_43 (fun _ _ => rfl) ?_
    refine sy_ifc mj_d_174_45 rfl ⟨by omega, by omega⟩ (fun (c1 : l4 < 0) => ?_) (fun (c1 : ¬ (l4 < 0)) => ?_)
    · skip
      rw [if_pos c1]
      refine sy_st (S' := (mj_m_174, 280, [(0, .ref 234), (1, sy_i l1), (2, sy_i l2), (3, sy_i l3), (4, sy_i l4)], [sy_i l3], h)) mj_d_174_279 (fun _ _ => rfl) ?_
      exact sy_reti mj_d_174_280 rfl ⟨hH, rfl, rfl, by omega, by omega⟩
    · skip
      rw [if_neg c1]
      have cn := i0.2 (l4).toNat (by omega)
      refine sy_st (S' := (mj_m_174, 50, [(0, .ref 234), (1, sy_i l1), (2, sy_i l2), (3, sy_i l3), (4, sy_i l4)], [sy_i l4], h)) mj_d_174_48 (fun _ _ => rfl) ?_
      refine sy_st (S' := (mj_m_174, 51, [(0, .ref 234), (1, sy_i l1), (2, sy_i l2), (3, sy_i l3), (4, sy_i l4)], [sy_i l2, sy_i l4], h)) mj_d_174_50 (fun _ _ => rfl) ?_
      refine sy_icm mj_d_174_51 rfl ⟨by omega, by omega⟩ ⟨by omega, by omega⟩ (fun (c2 : ¬ (l4 = l2)) => ?_) (fun (c2 : ¬ ¬ (l4 = l2)) => ?_)
      · skip
        rw [if_neg c2]
        refine sy_st (S' := (mj_m_174, 103, [(0, .ref 234), (1, sy_i l1), (2, sy_i l2), (3, sy_i l3), (4, sy_i l4)], [.ref 234], h)) mj_d_174_102 (fun _ _ => rfl) ?_
        refine sy_gr2 (b := 244) mj_d_174_103 rfl rfl (by decide) rfl rfl hH ?_
        refine sy_st (S' := (mj_m_174, 108, [(0, .ref 234), (1, sy_i l1), (2, sy_i l2), (3, sy_i l3), (4, sy_i l4)], [sy_i l4, .ref 244], h)) mj_d_174_106 (fun _ _ => rfl) ?_
        refine sy_ia mj_d_174_108 rfl (by decide) (by omega) (by omega) (ab_el_1 rfl _) hH ?_
        rintro _ rfl bx3 tx3
        refine sy_st (S' := (mj_m_174, 110, [(0, .ref 234), (1, sy_i l1), (2, sy_i l2), (3, sy_i l3), (4, sy_i l4)], [sy_i 1, sy_i (sy_rd h 244 ((l4).toNat))], h)) mj_d_174_109 (fun _ _ => rfl) ?_
        refine sy_add mj_d_174_110 ?_
        refine sy_st (S' := (mj_m_174, 113, [(5, sy_i ((sy_rd h 244 ((l4).toNat)) + 1)), (0, .ref 234), (1, sy_i l1), (2, sy_i l2), (3, sy_i l3), (4, sy_i l4)], [], h)) mj_d_174_111 (fun _ _ => rfl) ?_
        refine sy_lv (lv := [(0, .ref 234), (1, sy_i l1), (2, sy_i l2), (3, sy_i l3), (4, sy_i l4), (5, sy_i ((sy_rd h 244 ((l4).toNat)) + 1))]) rfl ⟨rfl, rfl, rfl, rfl, rfl, rfl, trivial⟩ ?_
        exact dt_R_findTrade_113 @ih 6 hH (by first | omega | assumption) (by first | omega | assumption) (by first | omega | assumption) (by first | omega | assumption) (by first | omega | assumption) (by first | omega | assumption) (by first | omega | assumption) (by first | omega | assumption) (by first | omega | assumption) (by first | omega | assumption) (by first | omega | assumption) (by first | omega | assumption) (by first | omega | assumption) (by first | omega | assumption) (by omega)
      · skip
        rw [if_pos (Decidable.not_not.mp c2)]
        replace c2 := Decidable.not_not.mp c2
        refine sy_st (S' := (mj_m_174, 55, [(0, .ref 234), (1, sy_i l1), (2, sy_i l2), (3, sy_i l3), (4, sy_i l4)], [.ref 234], h)) mj_d_174_54 (fun _ _ => rfl) ?_
        refine sy_gr2 (b := 246) mj_d_174_55 rfl rfl (by decide) rfl rfl hH ?_
        refine sy_st (S' := (mj_m_174, 60, [(0, .ref 234), (1, sy_i l1), (2, sy_i l2), (3, sy_i l3), (4, sy_i l4)], [sy_i l4, .ref 246], h)) mj_d_174_58 (fun _ _ => rfl) ?_
        refine sy_ia mj_d_174_60 rfl (by decide) (by omega) (by omega) (ab_el_1 rfl _) hH ?_
        rintro _ rfl bx4 tx4
        refine sy_st (S' := (mj_m_174, 62, [(0, .ref 234), (1, sy_i l1), (2, sy_i l2), (3, sy_i l3), (4, sy_i l4)], [sy_i l3, sy_i (sy_rd h 246 ((l4).toNat))], h)) mj_d_174_61 (fun _ _ => rfl) ?_
        refine sy_icm mj_d_174_62 rfl ⟨by omega, by omega⟩ ⟨by omega, by omega⟩ (fun (c5 : l3 ≤ (sy_rd h 246 ((l4).toNat))) => ?_) (fun (c5 : ¬ (l3 ≤ (sy_rd h 246 ((l4).toNat)))) => ?_)
        · skip
          rw [if_pos c5]
          refine sy_st (S' := (mj_m_174, 103, [(0, .ref 234), (1, sy_i l1), (2, sy_i l2), (3, sy_i l3), (4, sy_i l4)], [.ref 234], h)) mj_d_174_102 (fun _ _ => rfl) ?_
          refine sy_gr2 (b := 244) mj_d_174_103 rfl rfl (by decide) rfl rfl hH ?_
          refine sy_st (S' := (mj_m_174, 108, [(0, .ref 234), (1, sy_i l1), (2, sy_i l2), (3, sy_i l3), (4, sy_i l4)], [sy_i l4, .ref 244], h)) mj_d_174_106 (fun _ _ => rfl) ?_
          refine sy_ia mj_d_174_108 rfl (by decide) (by omega) (by omega) (ab_el_1 rfl _) hH ?_
          rintro _ rfl bx6 tx6
          refine sy_st (S' := (mj_m_174, 110, [(0, .ref 234), (1, sy_i l1), (2, sy_i l2), (3, sy_i l3), (4, sy_i l4)], [sy_i 1, sy_i (sy_rd h 244 ((l4).toNat))], h)) mj_d_174_109 (fun _ _ => rfl) ?_
          refine sy_add mj_d_174_110 ?_
          refine sy_st (S' := (mj_m_174, 113, [(5, sy_i ((sy_rd h 244 ((l4).toNat)) + 1)), (0, .ref 234), (1, sy_i l1), (2, sy_i l2), (3, sy_i l3), (4, sy_i l4)], [], h)) mj_d_174_111 (fun _ _ => rfl) ?_
          refine sy_lv (lv := [(0, .ref 234), (1, sy_i l1), (2, sy_i l2), (3, sy_i l3), (4, sy_i l4), (5, sy_i ((sy_rd h 244 ((l4).toNat)) + 1))]) rfl ⟨rfl, rfl, rfl, rfl, rfl, rfl, trivial⟩ ?_
          exact dt_R_findTrade_113 @ih 6 hH (by first | omega | assumption) (by first | omega | assumption) (by first | omega | assumption) (by first | omega | assumption) (by first | omega | assumption) (by first | omega | assumption) (by first | omega | assumption) (by first | omega | assumption) (by first | omega | assumption) (by first | omega | assumption) (by first | omega | assumption) (by first | omega | assumption) (by first | omega | assumption) (by first | omega | assumption) (by omega)
        · skip
          rw [if_neg c5]
          refine sy_st (S' := (mj_m_174, 66, [(0, .ref 234), (1, sy_i l1), (2, sy_i l2), (3, sy_i l3), (4, sy_i l4)], [.ref 234], h)) mj_d_174_65 (fun _ _ => rfl) ?_
          refine sy_gr2 (b := 246) mj_d_174_66 rfl rfl (by decide) rfl rfl hH ?_
          refine sy_st (S' := (mj_m_174, 71, [(0, .ref 234), (1, sy_i l1), (2, sy_i l2), (3, sy_i l3), (4, sy_i l4)], [sy_i l4, .ref 246], h)) mj_d_174_69 (fun _ _ => rfl) ?_
          refine sy_ia mj_d_174_71 rfl (by decide) (by omega) (by omega) (ab_el_1 rfl _) hH ?_
          rintro _ rfl bx7 tx7
          refine sy_st (S' := (mj_m_174, 73, [(3, sy_i (sy_rd h 246 ((l4).toNat))), (0, .ref 234), (1, sy_i l1), (2, sy_i l2), (4, sy_i l4)], [], h)) mj_d_174_72 (fun _ _ => rfl) ?_
          refine sy_st (S' := (mj_m_174, 74, [(3, sy_i (sy_rd h 246 ((l4).toNat))), (0, .ref 234), (1, sy_i l1), (2, sy_i l2), (4, sy_i l4)], [sy_i 0], h)) mj_d_174_73 (fun _ _ => rfl) ?_
          refine sy_st (S' := (mj_m_174, 76, [(5, sy_i 0), (3, sy_i (sy_rd h 246 ((l4).toNat))), (0, .ref 234), (1, sy_i l1), (2, sy_i l2), (4, sy_i l4)], [], h)) mj_d_174_74 (fun _ _ => rfl) ?_
          refine sy_lv (lv := [(0, .ref 234), (1, sy_i l1), (2, sy_i l2), (3, sy_i (sy_rd h 246 ((l4).toNat))), (4, sy_i l4), (5, sy_i 0)]) rfl ⟨rfl, rfl, rfl, rfl, rfl, rfl, trivial⟩ ?_
          exact dt_R_findTrade_76 @ih 10 hH (by first | omega | assumption) (by first | omega | assumption) (by first | omega | assumption) (by first | omega | assumption) (by first | omega | assumption) (by first | omega | assumption) (by first | omega | assumption) (by first | omega | assumption) (by first | omega | assumption) (by first | omega | assumption) (by first | omega | assumption) (by first | omega | assumption) (by first | omega | assumption) (by omega)
set_option maxRecDepth 100000 in
theorem dt_R_findTrade_9 : ∀ (n : Nat) {h : mj_H} (hH : sy_H h) {l1 l2 l3 l4 l5 : Int} (b_l1 : 0 ≤ l1) (t_l1 : l1 ≤ 4) (b_l2 : 0 ≤ l2) (t_l2 : l2 ≤ 9) (b_l3 : 0 ≤ l3) (t_l3 : l3 ≤ 1000000) (b_l4 : 0 ≤ l4) (t_l4 : l4 ≤ 0) (b_l5 : 0 ≤ l5) (t_l5 : l5 ≤ 5) (hm : 5 - l5 < (n : Int)), sy_wp (mj_m_174, 9, [(0, .ref 234), (1, sy_i l1), (2, sy_i l2), (3, sy_i l3), (4, sy_i l4), (5, sy_i l5)], [], h) (dq2 (0) (1000000) (dc_R_findTrade_9 n (sy_rd h) l1 l2 l3 l4 l5)) := by
  intro n
  induction n with
  | zero =>
    intro h hH l1 l2 l3 l4 l5 b_l1 t_l1 b_l2 t_l2 b_l3 t_l3 b_l4 t_l4 b_l5 t_l5 hm
    exact absurd hm (by omega)
  | succ n ih =>
    intro h hH l1 l2 l3 l4 l5 b_l1 t_l1 b_l2 t_l2 b_l3 t_l3 b_l4 t_l4 b_l5 t_l5 hm
    rw [dc_R_findTrade_9_s]
    refine sy_st (S' := (mj_m_174, 11, [(0, .ref 234), (1, sy_i l1), (2, sy_i l2), (3, sy_i l3), (4, sy_i l4), (5, sy_i l5)], [sy_i l5], h)) mj_d_174_9 (fun _ _ => rfl) ?_
    refine sy_st (S' := (mj_m_174, 12, [(0, .ref 234), (1, sy_i l1), (2, sy_i l2), (3, sy_i l3), (4, sy_i l4), (5, sy_i l5)], [sy_i 5, sy_i l5], h)) mj_d_174_11 (fun _ _ => rfl) ?_
    refine sy_icm mj_d_174_12 rfl ⟨by omega, by omega⟩ ⟨by omega, by omega⟩ (fun (c1 : 5 ≤ l5) => ?_) (fun (c1 : ¬ (5 ≤ l5)) => ?_)
    · skip
      rw [if_pos c1]
      refine sy_st (S' := (mj_m_174, 30, [(0, .ref 234), (1, sy_i l1), (2, sy_i l2), (3, sy_i l3), (4, sy_i l4), (5, sy_i l5)], [.ref 234], h)) mj_d_174_29 (fun _ _ => rfl) ?_
      refine sy_gr2 (b := 246) mj_d_174_30 rfl rfl (by decide) rfl rfl hH ?_
      refine sy_st (S' := (mj_m_174, 34, [(0, .ref 234), (1, sy_i l1), (2, sy_i l2), (3, sy_i l3), (4, sy_i l4), (5, sy_i l5)], [sy_i 0, .ref 246], h)) mj_d_174_33 (fun _ _ => rfl) ?_
      refine sy_st (S' := (mj_m_174, 35, [(0, .ref 234), (1, sy_i l1), (2, sy_i l2), (3, sy_i l3), (4, sy_i l4), (5, sy_i l5)], [sy_i 0, sy_i 0, .ref 246], h)) mj_d_174_34 (fun _ _ => rfl) ?_
      refine sg_ias (v := 0) mj_d_174_35 rfl (by decide) (by omega) (by omega) (ab_el_1 rfl _) hH (by omega) (by omega) ⟨by omega, by omega⟩ ?_
      intro h2 th2 eh2
      replace eh2 : sy_rd h2 = sg_up (sy_rd h) 246 0 0 := eh2
      refine sy_st (S' := (mj_m_174, 37, [(0, .ref 234), (1, sy_i l1), (2, sy_i l2), (3, sy_i l3), (4, sy_i l4), (5, sy_i l5)], [.ref 234], h2)) mj_d_174_36 (fun _ _ => rfl) ?_
      refine sy_gr2 (b := 244) mj_d_174_37 rfl rfl (by decide) rfl rfl th2 ?_
      refine sy_st (S' := (mj_m_174, 41, [(0, .ref 234), (1, sy_i l1), (2, sy_i l2), (3, sy_i l3), (4, sy_i l4), (5, sy_i l5)], [sy_i 0, .ref 244], h2)) mj_d_174_40 (fun _ _ => rfl) ?_
      refine sy_st (S' := (mj_m_174, 42, [(0, .ref 234), (1, sy_i l1), (2, sy_i l2), (3, sy_i l3), (4, sy_i l4), (5, sy_i l5)], [sy_i (-1), sy_i 0, .ref 244], h2)) mj_d_174_41 (fun _ _ => rfl) ?_
      refine sg_ias (v := (-1)) mj_d_174_42 rfl (by decide) (by omega) (by omega) (ab_el_1 rfl _) th2 (by omega) (by omega) ⟨by omega, by omega⟩ ?_
      intro h3 th3 eh3
      replace eh3 : sy_rd h3 = sg_up (sy_rd h2) 244 0 (-1) := eh3
      rw [eh2] at eh3
      refine sy_lv (lv := [(0, .ref 234), (1, sy_i l1), (2, sy_i l2), (3, sy_i l3), (4, sy_i l4)]) rfl ⟨rfl, rfl, rfl, rfl, rfl, trivial⟩ ?_
      rw [← eh3]
      exact dt_R_findTrade_43 3990767617 th3 (by first | omega | assumption) (by first | omega | assumption) (by first | omega | assumption) (by first | omega | assumption) (by first | omega | assumption) (by first | omega | assumption) (by first | omega | assumption) (by first | omega | assumption) (by obtain rfl : l4 = 0 := (by omega); rw [eh3]; exact (ft_in _).1) (by first | omega | assumption) (by obtain rfl : l4 = 0 := (by omega); rw [eh3]; exact (ft_in _).2)
    · skip
      rw [if_neg c1]
      refine sy_st (S' := (mj_m_174, 16, [(0, .ref 234), (1, sy_i l1), (2, sy_i l2), (3, sy_i l3), (4, sy_i l4), (5, sy_i l5)], [.ref 234], h)) mj_d_174_15 (fun _ _ => rfl) ?_
      refine sy_gr2 (b := 247) mj_d_174_16 rfl rfl (by decide) rfl rfl hH ?_
      refine sy_st (S' := (mj_m_174, 21, [(0, .ref 234), (1, sy_i l1), (2, sy_i l2), (3, sy_i l3), (4, sy_i l4), (5, sy_i l5)], [sy_i l5, .ref 247], h)) mj_d_174_19 (fun _ _ => rfl) ?_
      refine sy_st (S' := (mj_m_174, 22, [(0, .ref 234), (1, sy_i l1), (2, sy_i l2), (3, sy_i l3), (4, sy_i l4), (5, sy_i l5)], [sy_i 0, sy_i l5, .ref 247], h)) mj_d_174_21 (fun _ _ => rfl) ?_
      refine sg_ias (v := 0) mj_d_174_22 rfl (by decide) (by omega) (by omega) (ab_el_1 rfl _) hH (by omega) (by omega) ⟨by omega, by omega⟩ ?_
      intro h4 th4 eh4
      refine sy_inc (a := l5) (lv' := [(5, sy_i (l5 + 1)), (0, .ref 234), (1, sy_i l1), (2, sy_i l2), (3, sy_i l3), (4, sy_i l4)]) mj_d_174_23 (Nat.le_of_ble_eq_true rfl) rfl rfl ?_
      refine sy_st (S' := (mj_m_174, 9, [(5, sy_i (l5 + 1)), (0, .ref 234), (1, sy_i l1), (2, sy_i l2), (3, sy_i l3), (4, sy_i l4)], [], h4)) mj_d_174_26 (fun _ _ => rfl) ?_
      refine sy_lv (lv := [(0, .ref 234), (1, sy_i l1), (2, sy_i l2), (3, sy_i l3), (4, sy_i l4), (5, sy_i (l5 + 1))]) rfl ⟨rfl, rfl, rfl, rfl, rfl, rfl, trivial⟩ ?_
      rw [← eh4]
      exact ih th4 (by first | omega | assumption) (by first | omega | assumption) (by first | omega | assumption) (by first | omega | assumption) (by first | omega | assumption) (by first | omega | assumption) (by first | omega | assumption) (by first | omega | assumption) (by first | omega | assumption) (by first | omega | assumption) (by omega)
set_option maxRecDepth 100000 in
theorem dt_R_findTrade {h : mj_H} (hH : sy_H h) {a1 a2 : Int} (b_a1 : 0 ≤ a1) (t_a1 : a1 ≤ 4) (b_a2 : 0 ≤ a2) (t_a2 : a2 ≤ 9) : sy_wp (mj_m_174, 0, [(0, .ref 234), (1, sy_i a1), (2, sy_i a2)], [], h) (dq2 (0) (1000000) (dc_R_findTrade (sy_rd h) a1 a2)) := by
  unfold dc_R_findTrade
  refine sy_ldc (n := 1000000) mj_d_174_0 rfl (by decide) ?_
  refine sy_st (S' := (mj_m_174, 3, [(3, sy_i 1000000), (0, .ref 234), (1, sy_i a1), (2, sy_i a2)], [], h)) mj_d_174_2 (fun _ _ => rfl) ?_
  refine sy_st (S' := (mj_m_174, 4, [(3, sy_i 1000000), (0, .ref 234), (1, sy_i a1), (2, sy_i a2)], [sy_i 0], h)) mj_d_174_3 (fun _ _ => rfl) ?_
  refine sy_st (S' := (mj_m_174, 6, [(4, sy_i 0), (3, sy_i 1000000), (0, .ref 234), (1, sy_i a1), (2, sy_i a2)], [], h)) mj_d_174_4 (fun _ _ => rfl) ?_
  refine sy_st (S' := (mj_m_174, 7, [(4, sy_i 0), (3, sy_i 1000000), (0, .ref 234), (1, sy_i a1), (2, sy_i a2)], [sy_i 0], h)) mj_d_174_6 (fun _ _ => rfl) ?_
  refine sy_st (S' := (mj_m_174, 9, [(5, sy_i 0), (4, sy_i 0), (3, sy_i 1000000), (0, .ref 234), (1, sy_i a1), (2, sy_i a2)], [], h)) mj_d_174_7 (fun _ _ => rfl) ?_
  refine sy_lv (lv := [(0, .ref 234), (1, sy_i a1), (2, sy_i a2), (3, sy_i 1000000), (4, sy_i 0), (5, sy_i 0)]) rfl ⟨rfl, rfl, rfl, rfl, rfl, rfl, trivial⟩ ?_
  exact dt_R_findTrade_9 6 hH (by first | omega | assumption) (by first | omega | assumption) (by first | omega | assumption) (by first | omega | assumption) (by first | omega | assumption) (by first | omega | assumption) (by first | omega | assumption) (by first | omega | assumption) (by first | omega | assumption) (by first | omega | assumption) (by omega)
def dc_R_trade_118 (n : Nat) : sg_S → Int → Int → Int → Int → Int → sg_S × Int := Nat.rec (fun (s : sg_S) l3 l4 l5 l6 l7 => (s, 0)) (fun _ ih => fun s l3 l4 l5 l6 l7 => (if l4 ≤ l7 then (if l3 = (-1) then (s, l5) else (s, l6)) else (if (s 243 ((l7).toNat)) = l3 then (ih s l3 l4 l5 (s 245 ((l7).toNat)) (l7 + 1)) else (ih s l3 l4 l5 l6 (l7 + 1))))) n
theorem dc_R_trade_118_s (n : Nat) (s : sg_S) (l3 l4 l5 l6 l7 : Int) : dc_R_trade_118 (n + 1) s l3 l4 l5 l6 l7 = (if l4 ≤ l7 then (if l3 = (-1) then (s, l5) else (s, l6)) else (if (s 243 ((l7).toNat)) = l3 then ((dc_R_trade_118 n) s l3 l4 l5 (s 245 ((l7).toNat)) (l7 + 1)) else ((dc_R_trade_118 n) s l3 l4 l5 l6 (l7 + 1)))) := rfl
def dc_R_trade_48 (n : Nat) : sg_S → Int → Int → Int → Int → Int → sg_S × Int := Nat.rec (fun (s : sg_S) l1 l2 l3 l4 l5 => (s, 0)) (fun _ ih => fun s l1 l2 l3 l4 l5 => (if (s 234 6) ≤ l5 then (if ((dc_R_findTrade s l1 l4).2) = 1000000 then ((dc_R_findTrade s l1 l4).1, (-1)) else (dc_R_trade_118 10 (dc_R_findTrade s l1 l4).1 l3 l4 ((dc_R_findTrade s l1 l4).2) (-1) 0)) else (if (dc_R_has s l2 l5) = 0 then (ih s l1 l2 l3 l4 (l5 + 1)) else (if (dc_R_isKnown s l1 l5) = 0 then (ih (sg_up s 243 ((l4).toNat) l5) l1 l2 l3 (l4 + 1) (l5 + 1)) else (ih s l1 l2 l3 l4 (l5 + 1)))))) n
theorem dc_R_trade_48_s (n : Nat) (s : sg_S) (l1 l2 l3 l4 l5 : Int) : dc_R_trade_48 (n + 1) s l1 l2 l3 l4 l5 = (if (s 234 6) ≤ l5 then (if ((dc_R_findTrade s l1 l4).2) = 1000000 then ((dc_R_findTrade s l1 l4).1, (-1)) else (dc_R_trade_118 10 (dc_R_findTrade s l1 l4).1 l3 l4 ((dc_R_findTrade s l1 l4).2) (-1) 0)) else (if (dc_R_has s l2 l5) = 0 then ((dc_R_trade_48 n) s l1 l2 l3 l4 (l5 + 1)) else (if (dc_R_isKnown s l1 l5) = 0 then ((dc_R_trade_48 n) (sg_up s 243 ((l4).toNat) l5) l1 l2 l3 (l4 + 1) (l5 + 1)) else ((dc_R_trade_48 n) s l1 l2 l3 l4 (l5 + 1))))) := rfl
def dc_R_trade (s : sg_S) (a1 a2 a3 : Int) : sg_S × Int := (if (dc_R_isSweep s a1) = 0 then (s, (-1000000001)) else (if (dc_R_in s a2 0 ((sy_shl 1 (s 234 6)) - 1)) = 0 then (s, (-1000000001)) else (if a3 = (-1) then (dc_R_trade_48 10 s a1 a2 a3 0 0) else (if (dc_R_isHouse s a3) = 0 then (s, (-1000000001)) else (dc_R_trade_48 10 s a1 a2 a3 0 0)))))
def dw_R_trade (a k : Nat) : Bool := dw_R_findTrade a k || (a == 243)
theorem dr_R_trade_118 (a k : Nat) (h : dw_R_trade a k = false) : ∀ (n : Nat) (s : sg_S) (l3 l4 l5 l6 l7 : Int), (dc_R_trade_118 n s l3 l4 l5 l6 l7).1 a k = s a k := by
  have h0 := h
  unfold dw_R_trade at h
  simp only [Bool.or_eq_false_iff] at h
  obtain ⟨h1, h2⟩ := h
  intro n
  induction n with
  | zero => intro s l3 l4 l5 l6 l7; rfl
  | succ n ih =>
    intro s l3 l4 l5 l6 l7
    rw [dc_R_trade_118_s]
    (repeat' split) <;> simp only [(fun s x0 x1 => dr_R_findTrade s x0 x1 a k h1), (fun s l z => sg_upa (s := s) (l := l) (z := z) (k := k) h2), ih]
theorem dr_R_trade_48 (a k : Nat) (h : dw_R_trade a k = false) : ∀ (n : Nat) (s : sg_S) (l1 l2 l3 l4 l5 : Int), (dc_R_trade_48 n s l1 l2 l3 l4 l5).1 a k = s a k := by
  have h0 := h
  unfold dw_R_trade at h
  simp only [Bool.or_eq_false_iff] at h
  obtain ⟨h1, h2⟩ := h
  intro n
  induction n with
  | zero => intro s l1 l2 l3 l4 l5; rfl
  | succ n ih =>
    intro s l1 l2 l3 l4 l5
    rw [dc_R_trade_48_s]
    (repeat' split) <;> simp only [(fun s x0 x1 => dr_R_findTrade s x0 x1 a k h1), (fun s l z => sg_upa (s := s) (l := l) (z := z) (k := k) h2), ih, (dr_R_trade_118 a k h0)]
theorem dr_R_trade (s : sg_S) (a1 a2 a3 : Int) (a k : Nat) (h : dw_R_trade a k = false) : (dc_R_trade s a1 a2 a3).1 a k = s a k := by
  have h0 := h
  unfold dw_R_trade at h
  simp only [Bool.or_eq_false_iff] at h
  obtain ⟨h1, h2⟩ := h
  unfold dc_R_trade
  (repeat' split) <;> simp only [(fun s x0 x1 => dr_R_findTrade s x0 x1 a k h1), (fun s l z => sg_upa (s := s) (l := l) (z := z) (k := k) h2), (dr_R_trade_118 a k h0), (dr_R_trade_48 a k h0)]
set_option maxRecDepth 100000 in
theorem dt_R_trade_118 : ∀ (n : Nat) {h : mj_H} (hH : sy_H h) {l3 l4 l5 l6 l7 : Int} (b_l3 : (-2147483648) ≤ l3) (t_l3 : l3 ≤ 2147483647) (b_l4 : 0 ≤ l4) (t_l4 : l4 ≤ 9) (b_l5 : 0 ≤ l5) (t_l5 : l5 ≤ 1000000) (b_l6 : (-1) ≤ l6) (t_l6 : l6 ≤ 4) (b_l7 : 0 ≤ l7) (t_l7 : l7 ≤ 9) (hm : 9 - l7 < (n : Int)), sy_wp (mj_m_173, 118, [(0, .ref 234), (3, sy_i l3), (4, sy_i l4), (5, sy_i l5), (6, sy_i l6), (7, sy_i l7)], [], h) (dq2 (-2147483648) (2147483647) (dc_R_trade_118 n (sy_rd h) l3 l4 l5 l6 l7)) := by
  intro n
  induction n with
  | zero =>
    intro h hH l3 l4 l5 l6 l7 b_l3 t_l3 b_l4 t_l4 b_l5 t_l5 b_l6 t_l6 b_l7 t_l7 hm
    exact absurd hm (by omega)
  | succ n ih =>
    intro h hH l3 l4 l5 l6 l7 b_l3 t_l3 b_l4 t_l4 b_l5 t_l5 b_l6 t_l6 b_l7 t_l7 hm
    rw [dc_R_trade_118_s]
    refine sy_st (S' := (mj_m_173, 120, [(0, .ref 234), (3, sy_i l3), (4, sy_i l4), (5, sy_i l5), (6, sy_i l6), (7, sy_i l7)], [sy_i l7], h)) mj_d_173_118 (fun _ _ => rfl) ?_
    refine sy_st (S' := (mj_m_173, 122, [(0, .ref 234), (3, sy_i l3), (4, sy_i l4), (5, sy_i l5), (6, sy_i l6), (7, sy_i l7)], [sy_i l4, sy_i l7], h)) mj_d_173_120 (fun _ _ => rfl) ?_
    refine sy_icm mj_d_173_122 rfl ⟨by omega, by omega⟩ ⟨by omega, by omega⟩ (fun (c1 : l4 ≤ l7) => ?_) (fun (c1 : ¬ (l4 ≤ l7)) => ?_)
    · skip
      rw [if_pos c1]
      refine sy_st (S' := (mj_m_173, 157, [(0, .ref 234), (3, sy_i l3), (4, sy_i l4), (5, sy_i l5), (6, sy_i l6), (7, sy_i l7)], [sy_i l3], h)) mj_d_173_156 (fun _ _ => rfl) ?_
      refine sy_st (S' := (mj_m_173, 158, [(0, .ref 234), (3, sy_i l3), (4, sy_i l4), (5, sy_i l5), (6, sy_i l6), (7, sy_i l7)], [sy_i (-1), sy_i l3], h)) mj_d_173_157 (fun _ _ => rfl) ?_
      refine sy_icm mj_d_173_158 rfl ⟨by omega, by omega⟩ ⟨by omega, by omega⟩ (fun (c2 : ¬ (l3 = (-1))) => ?_) (fun (c2 : ¬ ¬ (l3 = (-1))) => ?_)
      · skip
        rw [if_neg c2]
        refine sy_st (S' := (mj_m_173, 168, [(0, .ref 234), (3, sy_i l3), (4, sy_i l4), (5, sy_i l5), (6, sy_i l6), (7, sy_i l7)], [sy_i l6], h)) mj_d_173_166 (fun _ _ => rfl) ?_
        exact sy_reti mj_d_173_168 rfl ⟨hH, rfl, rfl, by omega, by omega⟩
      · skip
        rw [if_pos (Decidable.not_not.mp c2)]
        replace c2 := Decidable.not_not.mp c2
        refine sy_st (S' := (mj_m_173, 163, [(0, .ref 234), (3, sy_i l3), (4, sy_i l4), (5, sy_i l5), (6, sy_i l6), (7, sy_i l7)], [sy_i l5], h)) mj_d_173_161 (fun _ _ => rfl) ?_
        refine sy_st (S' := (mj_m_173, 168, [(0, .ref 234), (3, sy_i l3), (4, sy_i l4), (5, sy_i l5), (6, sy_i l6), (7, sy_i l7)], [sy_i l5], h)) mj_d_173_163 (fun _ _ => rfl) ?_
        exact sy_reti mj_d_173_168 rfl ⟨hH, rfl, rfl, by omega, by omega⟩
    · skip
      rw [if_neg c1]
      refine sy_st (S' := (mj_m_173, 126, [(0, .ref 234), (3, sy_i l3), (4, sy_i l4), (5, sy_i l5), (6, sy_i l6), (7, sy_i l7)], [.ref 234], h)) mj_d_173_125 (fun _ _ => rfl) ?_
      refine sy_gr2 (b := 243) mj_d_173_126 rfl rfl (by decide) rfl rfl hH ?_
      refine sy_st (S' := (mj_m_173, 131, [(0, .ref 234), (3, sy_i l3), (4, sy_i l4), (5, sy_i l5), (6, sy_i l6), (7, sy_i l7)], [sy_i l7, .ref 243], h)) mj_d_173_129 (fun _ _ => rfl) ?_
      refine sy_ia mj_d_173_131 rfl (by decide) (by omega) (by omega) (ab_el_1 rfl _) hH ?_
      rintro _ rfl bx3 tx3
      refine sy_st (S' := (mj_m_173, 133, [(0, .ref 234), (3, sy_i l3), (4, sy_i l4), (5, sy_i l5), (6, sy_i l6), (7, sy_i l7)], [sy_i l3, sy_i (sy_rd h 243 ((l7).toNat))], h)) mj_d_173_132 (fun _ _ => rfl) ?_
      refine sy_icm mj_d_173_133 rfl ⟨by omega, by omega⟩ ⟨by omega, by omega⟩ (fun (c4 : ¬ ((sy_rd h 243 ((l7).toNat)) = l3)) => ?_) (fun (c4 : ¬ ¬ ((sy_rd h 243 ((l7).toNat)) = l3)) => ?_)
      · skip
        rw [if_neg c4]
        refine sy_st (S' := (mj_m_173, 148, [(0, .ref 234), (3, sy_i l3), (4, sy_i l4), (5, sy_i l5), (6, sy_i l6), (7, sy_i l7)], [sy_i l6], h)) mj_d_173_146 (fun _ _ => rfl) ?_
        refine sy_st (S' := (mj_m_173, 150, [(6, sy_i l6), (0, .ref 234), (3, sy_i l3), (4, sy_i l4), (5, sy_i l5), (7, sy_i l7)], [], h)) mj_d_173_148 (fun _ _ => rfl) ?_
        refine sy_inc (a := l7) (lv' := [(7, sy_i (l7 + 1)), (6, sy_i l6), (0, .ref 234), (3, sy_i l3), (4, sy_i l4), (5, sy_i l5)]) mj_d_173_150 (Nat.le_of_ble_eq_true rfl) rfl rfl ?_
        refine sy_st (S' := (mj_m_173, 118, [(7, sy_i (l7 + 1)), (6, sy_i l6), (0, .ref 234), (3, sy_i l3), (4, sy_i l4), (5, sy_i l5)], [], h)) mj_d_173_153 (fun _ _ => rfl) ?_
        refine sy_lv (lv := [(0, .ref 234), (3, sy_i l3), (4, sy_i l4), (5, sy_i l5), (6, sy_i l6), (7, sy_i (l7 + 1))]) rfl ⟨rfl, rfl, rfl, rfl, rfl, rfl, trivial⟩ ?_
        exact ih hH (by first | omega | assumption) (by first | omega | assumption) (by first | omega | assumption) (by first | omega | assumption) (by first | omega | assumption) (by first | omega | assumption) (by first | omega | assumption) (by first | omega | assumption) (by first | omega | assumption) (by first | omega | assumption) (by omega)
      · skip
        rw [if_pos (Decidable.not_not.mp c4)]
        replace c4 := Decidable.not_not.mp c4
        refine sy_st (S' := (mj_m_173, 137, [(0, .ref 234), (3, sy_i l3), (4, sy_i l4), (5, sy_i l5), (6, sy_i l6), (7, sy_i l7)], [.ref 234], h)) mj_d_173_136 (fun _ _ => rfl) ?_
        refine sy_gr2 (b := 245) mj_d_173_137 rfl rfl (by decide) rfl rfl hH ?_
        refine sy_st (S' := (mj_m_173, 142, [(0, .ref 234), (3, sy_i l3), (4, sy_i l4), (5, sy_i l5), (6, sy_i l6), (7, sy_i l7)], [sy_i l7, .ref 245], h)) mj_d_173_140 (fun _ _ => rfl) ?_
        refine sy_ia mj_d_173_142 rfl (by decide) (by omega) (by omega) (ab_el_1 rfl _) hH ?_
        rintro _ rfl bx5 tx5
        refine sy_st (S' := (mj_m_173, 148, [(0, .ref 234), (3, sy_i l3), (4, sy_i l4), (5, sy_i l5), (6, sy_i l6), (7, sy_i l7)], [sy_i (sy_rd h 245 ((l7).toNat))], h)) mj_d_173_143 (fun _ _ => rfl) ?_
        refine sy_st (S' := (mj_m_173, 150, [(6, sy_i (sy_rd h 245 ((l7).toNat))), (0, .ref 234), (3, sy_i l3), (4, sy_i l4), (5, sy_i l5), (7, sy_i l7)], [], h)) mj_d_173_148 (fun _ _ => rfl) ?_
        refine sy_inc (a := l7) (lv' := [(7, sy_i (l7 + 1)), (6, sy_i (sy_rd h 245 ((l7).toNat))), (0, .ref 234), (3, sy_i l3), (4, sy_i l4), (5, sy_i l5)]) mj_d_173_150 (Nat.le_of_ble_eq_true rfl) rfl rfl ?_
        refine sy_st (S' := (mj_m_173, 118, [(7, sy_i (l7 + 1)), (6, sy_i (sy_rd h 245 ((l7).toNat))), (0, .ref 234), (3, sy_i l3), (4, sy_i l4), (5, sy_i l5)], [], h)) mj_d_173_153 (fun _ _ => rfl) ?_
        refine sy_lv (lv := [(0, .ref 234), (3, sy_i l3), (4, sy_i l4), (5, sy_i l5), (6, sy_i (sy_rd h 245 ((l7).toNat))), (7, sy_i (l7 + 1))]) rfl ⟨rfl, rfl, rfl, rfl, rfl, rfl, trivial⟩ ?_
        exact ih hH (by first | omega | assumption) (by first | omega | assumption) (by first | omega | assumption) (by first | omega | assumption) (by first | omega | assumption) (by first | omega | assumption) (by first | omega | assumption) (by first | omega | assumption) (by first | omega | assumption) (by first | omega | assumption) (by omega)
set_option maxRecDepth 100000 in
theorem dt_R_trade_48 : ∀ (n : Nat) {h : mj_H} (hH : sy_H h) {l1 l2 l3 l4 l5 : Int} (b_l1 : 0 ≤ l1) (t_l1 : l1 ≤ 4) (b_l2 : 0 ≤ l2) (t_l2 : l2 ≤ 511) (b_l3 : (-2147483648) ≤ l3) (t_l3 : l3 ≤ 2147483647) (b_l4 : 0 ≤ l4) (t_l4 : l4 ≤ 9) (b_l5 : 0 ≤ l5) (t_l5 : l5 ≤ 9) (i0 : l4 ≤ l5) (hm : 9 - l5 < (n : Int)), sy_wp (mj_m_173, 48, [(0, .ref 234), (1, sy_i l1), (2, sy_i l2), (3, sy_i l3), (4, sy_i l4), (5, sy_i l5)], [], h) (dq2 (-2147483648) (2147483647) (dc_R_trade_48 n (sy_rd h) l1 l2 l3 l4 l5)) := by
  intro n
  induction n with
  | zero =>
    intro h hH l1 l2 l3 l4 l5 b_l1 t_l1 b_l2 t_l2 b_l3 t_l3 b_l4 t_l4 b_l5 t_l5 i0 hm
    have n234_6 := hH.bd (a := 234) (k := 6) rfl (by decide) rfl
    exact absurd hm (by omega)
  | succ n ih =>
    intro h hH l1 l2 l3 l4 l5 b_l1 t_l1 b_l2 t_l2 b_l3 t_l3 b_l4 t_l4 b_l5 t_l5 i0 hm
    rw [dc_R_trade_48_s]
    have n234_6 := hH.bd (a := 234) (k := 6) rfl (by decide) rfl
    refine sy_st (S' := (mj_m_173, 50, [(0, .ref 234), (1, sy_i l1), (2, sy_i l2), (3, sy_i l3), (4, sy_i l4), (5, sy_i l5)], [sy_i l5], h)) mj_d_173_48 (fun _ _ => rfl) ?_
    refine sy_st (S' := (mj_m_173, 51, [(0, .ref 234), (1, sy_i l1), (2, sy_i l2), (3, sy_i l3), (4, sy_i l4), (5, sy_i l5)], [.ref 234, sy_i l5], h)) mj_d_173_50 (fun _ _ => rfl) ?_
    refine sy_gf mj_d_173_51 rfl rfl (by decide) rfl hH ?_
    intro x1 ex1 bx1 tx1
    replace ex1 : x1 = sy_rd h 234 6 := ex1
    subst ex1
    refine sy_icm mj_d_173_54 rfl ⟨by omega, by omega⟩ ⟨by omega, by omega⟩ (fun (c2 : (sy_rd h 234 6) ≤ l5) => ?_) (fun (c2 : ¬ ((sy_rd h 234 6) ≤ l5)) => ?_)
    · skip
      rw [if_pos c2]
      refine sy_st (S' := (mj_m_173, 95, [(0, .ref 234), (1, sy_i l1), (2, sy_i l2), (3, sy_i l3), (4, sy_i l4), (5, sy_i l5)], [.ref 234], h)) mj_d_173_94 (fun _ _ => rfl) ?_
      refine sy_st (S' := (mj_m_173, 96, [(0, .ref 234), (1, sy_i l1), (2, sy_i l2), (3, sy_i l3), (4, sy_i l4), (5, sy_i l5)], [sy_i l1, .ref 234], h)) mj_d_173_95 (fun _ _ => rfl) ?_
      refine sy_st (S' := (mj_m_173, 98, [(0, .ref 234), (1, sy_i l1), (2, sy_i l2), (3, sy_i l3), (4, sy_i l4), (5, sy_i l5)], [sy_i l4, sy_i l1, .ref 234], h)) mj_d_173_96 (fun _ _ => rfl) ?_
      refine sy_cv (M' := mj_m_174) (vs := [.ref 234, sy_i l1, sy_i l4]) (rest := []) mj_d_173_98 rfl rfl rfl rfl hH rfl rfl ⟨by decide, ⟨Nat.le_of_ble_eq_true rfl, Nat.le_of_ble_eq_true rfl, Nat.le_of_ble_eq_true rfl, Nat.le_of_ble_eq_true rfl, Nat.le_of_ble_eq_true rfl⟩⟩ (dt_R_findTrade (a1 := l1) (a2 := l4) hH (by omega) (by omega) (by omega) (by omega)) ?_
      rintro _ h3 ⟨th3, eh3, rfl, b4, b4t⟩
      show sy_wp (mj_m_173, 101, [(0, .ref 234), (1, sy_i l1), (2, sy_i l2), (3, sy_i l3), (4, sy_i l4), (5, sy_i l5)], [sy_i ((dc_R_findTrade (sy_rd h) l1 l4).2)], h3) _
      refine sy_st (S' := (mj_m_173, 103, [(5, sy_i ((dc_R_findTrade (sy_rd h) l1 l4).2)), (0, .ref 234), (1, sy_i l1), (2, sy_i l2), (3, sy_i l3), (4, sy_i l4)], [], h3)) mj_d_173_101 (fun _ _ => rfl) ?_
      refine sy_st (S' := (mj_m_173, 105, [(5, sy_i ((dc_R_findTrade (sy_rd h) l1 l4).2)), (0, .ref 234), (1, sy_i l1), (2, sy_i l2), (3, sy_i l3), (4, sy_i l4)], [sy_i ((dc_R_findTrade (sy_rd h) l1 l4).2)], h3)) mj_d_173_103 (fun _ _ => rfl) ?_
      refine sy_ldc (n := 1000000) mj_d_173_105 rfl (by decide) ?_
      refine sy_icm mj_d_173_107 rfl ⟨by omega, by omega⟩ ⟨by omega, by omega⟩ (fun (c5 : ¬ (((dc_R_findTrade (sy_rd h) l1 l4).2) = 1000000)) => ?_) (fun (c5 : ¬ ¬ (((dc_R_findTrade (sy_rd h) l1 l4).2) = 1000000)) => ?_)
      · skip
        rw [if_neg c5]
        refine sy_st (S' := (mj_m_173, 113, [(5, sy_i ((dc_R_findTrade (sy_rd h) l1 l4).2)), (0, .ref 234), (1, sy_i l1), (2, sy_i l2), (3, sy_i l3), (4, sy_i l4)], [sy_i (-1)], h3)) mj_d_173_112 (fun _ _ => rfl) ?_
        refine sy_st (S' := (mj_m_173, 115, [(6, sy_i (-1)), (5, sy_i ((dc_R_findTrade (sy_rd h) l1 l4).2)), (0, .ref 234), (1, sy_i l1), (2, sy_i l2), (3, sy_i l3), (4, sy_i l4)], [], h3)) mj_d_173_113 (fun _ _ => rfl) ?_
        refine sy_st (S' := (mj_m_173, 116, [(6, sy_i (-1)), (5, sy_i ((dc_R_findTrade (sy_rd h) l1 l4).2)), (0, .ref 234), (1, sy_i l1), (2, sy_i l2), (3, sy_i l3), (4, sy_i l4)], [sy_i 0], h3)) mj_d_173_115 (fun _ _ => rfl) ?_
        refine sy_st (S' := (mj_m_173, 118, [(7, sy_i 0), (6, sy_i (-1)), (5, sy_i ((dc_R_findTrade (sy_rd h) l1 l4).2)), (0, .ref 234), (1, sy_i l1), (2, sy_i l2), (3, sy_i l3), (4, sy_i l4)], [], h3)) mj_d_173_116 (fun _ _ => rfl) ?_
        refine sy_lv (lv := [(0, .ref 234), (3, sy_i l3), (4, sy_i l4), (5, sy_i ((dc_R_findTrade (sy_rd h) l1 l4).2)), (6, sy_i (-1)), (7, sy_i 0)]) rfl ⟨rfl, rfl, rfl, rfl, rfl, rfl, trivial⟩ ?_
        rw [← eh3]
        exact dt_R_trade_118 10 th3 (by first | omega | assumption) (by first | omega | assumption) (by first | omega | assumption) (by first | omega | assumption) (by first | omega | assumption) (by first | omega | assumption) (by first | omega | assumption) (by first | omega | assumption) (by first | omega | assumption) (by first | omega | assumption) (by omega)
      · skip
        rw [if_pos (Decidable.not_not.mp c5)]
        replace c5 := Decidable.not_not.mp c5
        refine sy_st (S' := (mj_m_173, 111, [(5, sy_i ((dc_R_findTrade (sy_rd h) l1 l4).2)), (0, .ref 234), (1, sy_i l1), (2, sy_i l2), (3, sy_i l3), (4, sy_i l4)], [sy_i (-1)], h3)) mj_d_173_110 (fun _ _ => rfl) ?_
        exact sy_reti mj_d_173_111 rfl ⟨th3, eh3, rfl, by omega, by omega⟩
    · skip
      rw [if_neg c2]
      refine sy_st (S' := (mj_m_173, 58, [(0, .ref 234), (1, sy_i l1), (2, sy_i l2), (3, sy_i l3), (4, sy_i l4), (5, sy_i l5)], [sy_i l2], h)) mj_d_173_57 (fun _ _ => rfl) ?_
      refine sy_st (S' := (mj_m_173, 60, [(0, .ref 234), (1, sy_i l1), (2, sy_i l2), (3, sy_i l3), (4, sy_i l4), (5, sy_i l5)], [sy_i l5, sy_i l2], h)) mj_d_173_58 (fun _ _ => rfl) ?_
      refine sy_cs (M' := mj_m_161) (vs := [sy_i l2, sy_i l5]) (rest := []) mj_d_173_60 rfl rfl rfl rfl ⟨Nat.le_of_ble_eq_true rfl, Nat.le_of_ble_eq_true rfl, Nat.le_of_ble_eq_true rfl, Nat.le_of_ble_eq_true rfl, Nat.le_of_ble_eq_true rfl⟩ (dt_R_has (a0 := l2) (a1 := l5) hH (by omega) (by omega) (by omega) (by omega)) ?_
      rintro _ _ ⟨rfl, rfl, b6, b6t⟩
      show sy_wp (mj_m_173, 63, [(0, .ref 234), (1, sy_i l1), (2, sy_i l2), (3, sy_i l3), (4, sy_i l4), (5, sy_i l5)], [sy_i (dc_R_has (sy_rd h) l2 l5)], h) _
      refine sy_ifc mj_d_173_63 rfl ⟨by omega, by omega⟩ (fun (c7 : (dc_R_has (sy_rd h) l2 l5) = 0) => ?_) (fun (c7 : ¬ ((dc_R_has (sy_rd h) l2 l5) = 0)) => ?_)
      · skip
        rw [if_pos c7]
        refine sy_inc (a := l5) (lv' := [(5, sy_i (l5 + 1)), (0, .ref 234), (1, sy_i l1), (2, sy_i l2), (3, sy_i l3), (4, sy_i l4)]) mj_d_173_88 (Nat.le_of_ble_eq_true rfl) rfl rfl ?_
        refine sy_st (S' := (mj_m_173, 48, [(5, sy_i (l5 + 1)), (0, .ref 234), (1, sy_i l1), (2, sy_i l2), (3, sy_i l3), (4, sy_i l4)], [], h)) mj_d_173_91 (fun _ _ => rfl) ?_
        refine sy_lv (lv := [(0, .ref 234), (1, sy_i l1), (2, sy_i l2), (3, sy_i l3), (4, sy_i l4), (5, sy_i (l5 + 1))]) rfl ⟨rfl, rfl, rfl, rfl, rfl, rfl, trivial⟩ ?_
        exact ih hH (by first | omega | assumption) (by first | omega | assumption) (by first | omega | assumption) (by first | omega | assumption) (by first | omega | assumption) (by first | omega | assumption) (by first | omega | assumption) (by first | omega | assumption) (by first | omega | assumption) (by first | omega | assumption) (by first | omega | assumption) (by omega)
      · skip
        rw [if_neg c7]
        refine sy_st (S' := (mj_m_173, 67, [(0, .ref 234), (1, sy_i l1), (2, sy_i l2), (3, sy_i l3), (4, sy_i l4), (5, sy_i l5)], [.ref 234], h)) mj_d_173_66 (fun _ _ => rfl) ?_
        refine sy_st (S' := (mj_m_173, 68, [(0, .ref 234), (1, sy_i l1), (2, sy_i l2), (3, sy_i l3), (4, sy_i l4), (5, sy_i l5)], [sy_i l1, .ref 234], h)) mj_d_173_67 (fun _ _ => rfl) ?_
        refine sy_st (S' := (mj_m_173, 70, [(0, .ref 234), (1, sy_i l1), (2, sy_i l2), (3, sy_i l3), (4, sy_i l4), (5, sy_i l5)], [sy_i l5, sy_i l1, .ref 234], h)) mj_d_173_68 (fun _ _ => rfl) ?_
        refine sy_cv (M' := mj_m_160) (vs := [.ref 234, sy_i l1, sy_i l5]) (rest := []) mj_d_173_70 rfl rfl rfl rfl hH rfl rfl ⟨by decide, ⟨Nat.le_of_ble_eq_true rfl, Nat.le_of_ble_eq_true rfl, Nat.le_of_ble_eq_true rfl, Nat.le_of_ble_eq_true rfl, Nat.le_of_ble_eq_true rfl⟩⟩ (dt_R_isKnown (a1 := l1) (a2 := l5) hH (by omega) (by omega) (by omega) (by omega)) ?_
        rintro _ _ ⟨rfl, rfl, b8, b8t⟩
        show sy_wp (mj_m_173, 73, [(0, .ref 234), (1, sy_i l1), (2, sy_i l2), (3, sy_i l3), (4, sy_i l4), (5, sy_i l5)], [sy_i (dc_R_isKnown (sy_rd h) l1 l5)], h) _
        refine sy_ifc mj_d_173_73 rfl ⟨by omega, by omega⟩ (fun (c9 : ¬ ((dc_R_isKnown (sy_rd h) l1 l5) = 0)) => ?_) (fun (c9 : ¬ ¬ ((dc_R_isKnown (sy_rd h) l1 l5) = 0)) => ?_)
        · skip
          rw [if_neg c9]
          refine sy_inc (a := l5) (lv' := [(5, sy_i (l5 + 1)), (0, .ref 234), (1, sy_i l1), (2, sy_i l2), (3, sy_i l3), (4, sy_i l4)]) mj_d_173_88 (Nat.le_of_ble_eq_true rfl) rfl rfl ?_
          refine sy_st (S' := (mj_m_173, 48, [(5, sy_i (l5 + 1)), (0, .ref 234), (1, sy_i l1), (2, sy_i l2), (3, sy_i l3), (4, sy_i l4)], [], h)) mj_d_173_91 (fun _ _ => rfl) ?_
          refine sy_lv (lv := [(0, .ref 234), (1, sy_i l1), (2, sy_i l2), (3, sy_i l3), (4, sy_i l4), (5, sy_i (l5 + 1))]) rfl ⟨rfl, rfl, rfl, rfl, rfl, rfl, trivial⟩ ?_
          exact ih hH (by first | omega | assumption) (by first | omega | assumption) (by first | omega | assumption) (by first | omega | assumption) (by first | omega | assumption) (by first | omega | assumption) (by first | omega | assumption) (by first | omega | assumption) (by first | omega | assumption) (by first | omega | assumption) (by first | omega | assumption) (by omega)
        · skip
          rw [if_pos (Decidable.not_not.mp c9)]
          replace c9 := Decidable.not_not.mp c9
          refine sy_st (S' := (mj_m_173, 77, [(0, .ref 234), (1, sy_i l1), (2, sy_i l2), (3, sy_i l3), (4, sy_i l4), (5, sy_i l5)], [.ref 234], h)) mj_d_173_76 (fun _ _ => rfl) ?_
          refine sy_gr2 (b := 243) mj_d_173_77 rfl rfl (by decide) rfl rfl hH ?_
          refine sy_st (S' := (mj_m_173, 82, [(0, .ref 234), (1, sy_i l1), (2, sy_i l2), (3, sy_i l3), (4, sy_i l4), (5, sy_i l5)], [sy_i l4, .ref 243], h)) mj_d_173_80 (fun _ _ => rfl) ?_
          refine sy_st (S' := (mj_m_173, 84, [(0, .ref 234), (1, sy_i l1), (2, sy_i l2), (3, sy_i l3), (4, sy_i l4), (5, sy_i l5)], [sy_i l5, sy_i l4, .ref 243], h)) mj_d_173_82 (fun _ _ => rfl) ?_
          refine sg_ias (v := l5) mj_d_173_84 rfl (by decide) (by omega) (by omega) (ab_el_1 rfl _) hH (by omega) (by omega) ⟨by omega, by omega⟩ ?_
          intro h10 th10 eh10
          refine sy_inc (a := l4) (lv' := [(4, sy_i (l4 + 1)), (0, .ref 234), (1, sy_i l1), (2, sy_i l2), (3, sy_i l3), (5, sy_i l5)]) mj_d_173_85 (Nat.le_of_ble_eq_true rfl) rfl rfl ?_
          refine sy_inc (a := l5) (lv' := [(5, sy_i (l5 + 1)), (4, sy_i (l4 + 1)), (0, .ref 234), (1, sy_i l1), (2, sy_i l2), (3, sy_i l3)]) mj_d_173_88 (Nat.le_of_ble_eq_true rfl) rfl rfl ?_
          refine sy_st (S' := (mj_m_173, 48, [(5, sy_i (l5 + 1)), (4, sy_i (l4 + 1)), (0, .ref 234), (1, sy_i l1), (2, sy_i l2), (3, sy_i l3)], [], h10)) mj_d_173_91 (fun _ _ => rfl) ?_
          refine sy_lv (lv := [(0, .ref 234), (1, sy_i l1), (2, sy_i l2), (3, sy_i l3), (4, sy_i (l4 + 1)), (5, sy_i (l5 + 1))]) rfl ⟨rfl, rfl, rfl, rfl, rfl, rfl, trivial⟩ ?_
          rw [← eh10]
          exact ih th10 (by first | omega | assumption) (by first | omega | assumption) (by first | omega | assumption) (by first | omega | assumption) (by first | omega | assumption) (by first | omega | assumption) (by first | omega | assumption) (by first | omega | assumption) (by first | omega | assumption) (by first | omega | assumption) (by first | omega | assumption) (by omega)
set_option maxRecDepth 100000 in
theorem dt_R_trade {h : mj_H} (hH : sy_H h) {a1 a2 a3 : Int} (b_a1 : (-2147483648) ≤ a1) (t_a1 : a1 ≤ 2147483647) (b_a2 : (-2147483648) ≤ a2) (t_a2 : a2 ≤ 2147483647) (b_a3 : (-2147483648) ≤ a3) (t_a3 : a3 ≤ 2147483647) : sy_wp (mj_m_173, 0, [(0, .ref 234), (1, sy_i a1), (2, sy_i a2), (3, sy_i a3)], [], h) (dq2 (-2147483648) (2147483647) (dc_R_trade (sy_rd h) a1 a2 a3)) := by
  unfold dc_R_trade
  have n234_6 := hH.bd (a := 234) (k := 6) rfl (by decide) rfl
  have n234_7 := hH.bd (a := 234) (k := 7) rfl (by decide) rfl
  refine sy_st (S' := (mj_m_173, 1, [(0, .ref 234), (1, sy_i a1), (2, sy_i a2), (3, sy_i a3)], [.ref 234], h)) mj_d_173_0 (fun _ _ => rfl) ?_
  refine sy_st (S' := (mj_m_173, 2, [(0, .ref 234), (1, sy_i a1), (2, sy_i a2), (3, sy_i a3)], [sy_i a1, .ref 234], h)) mj_d_173_1 (fun _ _ => rfl) ?_
  refine sy_cv (M' := mj_m_146) (vs := [.ref 234, sy_i a1]) (rest := []) mj_d_173_2 rfl rfl rfl rfl hH rfl rfl ⟨by decide, ⟨Nat.le_of_ble_eq_true rfl, Nat.le_of_ble_eq_true rfl, Nat.le_of_ble_eq_true rfl, Nat.le_of_ble_eq_true rfl, Nat.le_of_ble_eq_true rfl⟩⟩ (dt_R_isSweep (a1 := a1) hH (by omega) (by omega)) ?_
  rintro _ _ ⟨rfl, rfl, b1, b1t⟩
  have q2 := df_R_isSweep_0 (sy_rd h) a1
  show sy_wp (mj_m_173, 5, [(0, .ref 234), (1, sy_i a1), (2, sy_i a2), (3, sy_i a3)], [sy_i (dc_R_isSweep (sy_rd h) a1)], h) _
  refine sy_ifc mj_d_173_5 rfl ⟨by omega, by omega⟩ (fun (c3 : (dc_R_isSweep (sy_rd h) a1) = 0) => ?_) (fun (c3 : ¬ ((dc_R_isSweep (sy_rd h) a1) = 0)) => ?_)
  · skip
    rw [if_pos c3]
    refine sy_ldc (n := -1000000001) mj_d_173_39 rfl (by decide) ?_
    exact sy_reti mj_d_173_41 rfl ⟨hH, rfl, rfl, by omega, by omega⟩
  · skip
    rw [if_neg c3]
    refine sy_st (S' := (mj_m_173, 9, [(0, .ref 234), (1, sy_i a1), (2, sy_i a2), (3, sy_i a3)], [sy_i a2], h)) mj_d_173_8 (fun _ _ => rfl) ?_
    refine sy_i2l mj_d_173_9 ⟨by omega, by omega⟩ ?_
    refine sy_st (S' := (mj_m_173, 11, [(0, .ref 234), (1, sy_i a1), (2, sy_i a2), (3, sy_i a3)], [sy_l 0, sy_l a2], h)) mj_d_173_10 (fun _ _ => rfl) ?_
    refine sy_st (S' := (mj_m_173, 12, [(0, .ref 234), (1, sy_i a1), (2, sy_i a2), (3, sy_i a3)], [sy_i 1, sy_l 0, sy_l a2], h)) mj_d_173_11 (fun _ _ => rfl) ?_
    refine sy_st (S' := (mj_m_173, 13, [(0, .ref 234), (1, sy_i a1), (2, sy_i a2), (3, sy_i a3)], [.ref 234, sy_i 1, sy_l 0, sy_l a2], h)) mj_d_173_12 (fun _ _ => rfl) ?_
    refine sy_gf mj_d_173_13 rfl rfl (by decide) rfl hH ?_
    intro x4 ex4 bx4 tx4
    replace ex4 : x4 = sy_rd h 234 6 := ex4
    subst ex4
    refine sy_ishl mj_d_173_16 ?_
    have q5 := sg_shl10 (sy_rd h 234 6) (by omega) (by omega)
    refine sy_st (S' := (mj_m_173, 18, [(0, .ref 234), (1, sy_i a1), (2, sy_i a2), (3, sy_i a3)], [sy_i 1, sy_i (sy_shl 1 (sy_rd h 234 6)), sy_l 0, sy_l a2], h)) mj_d_173_17 (fun _ _ => rfl) ?_
    refine sy_sub mj_d_173_18 ?_
    refine sy_i2l mj_d_173_19 ⟨by omega, by omega⟩ ?_
    refine sy_cs (M' := mj_m_126) (vs := [sy_l a2, sy_l 0, sy_l ((sy_shl 1 (sy_rd h 234 6)) - 1)]) (rest := []) mj_d_173_20 rfl rfl rfl rfl ⟨Nat.le_of_ble_eq_true rfl, Nat.le_of_ble_eq_true rfl, Nat.le_of_ble_eq_true rfl, Nat.le_of_ble_eq_true rfl, Nat.le_of_ble_eq_true rfl⟩ (dt_R_in (a0 := a2) (a1 := 0) (a2 := ((sy_shl 1 (sy_rd h 234 6)) - 1)) hH (by omega) (by omega) (by omega) (by omega) (by omega) (by omega)) ?_
    rintro _ _ ⟨rfl, rfl, b6, b6t⟩
    have q7 := df_R_in_0 (sy_rd h) a2 0 ((sy_shl 1 (sy_rd h 234 6)) - 1)
    show sy_wp (mj_m_173, 23, [(0, .ref 234), (1, sy_i a1), (2, sy_i a2), (3, sy_i a3)], [sy_i (dc_R_in (sy_rd h) a2 0 ((sy_shl 1 (sy_rd h 234 6)) - 1))], h) _
    refine sy_ifc mj_d_173_23 rfl ⟨by omega, by omega⟩ (fun (c8 : (dc_R_in (sy_rd h) a2 0 ((sy_shl 1 (sy_rd h 234 6)) - 1)) = 0) => ?_) (fun (c8 : ¬ ((dc_R_in (sy_rd h) a2 0 ((sy_shl 1 (sy_rd h 234 6)) - 1)) = 0)) => ?_)
    · skip
      rw [if_pos c8]
      refine sy_ldc (n := -1000000001) mj_d_173_39 rfl (by decide) ?_
      exact sy_reti mj_d_173_41 rfl ⟨hH, rfl, rfl, by omega, by omega⟩
    · skip
      rw [if_neg c8]
      refine sy_st (S' := (mj_m_173, 27, [(0, .ref 234), (1, sy_i a1), (2, sy_i a2), (3, sy_i a3)], [sy_i a3], h)) mj_d_173_26 (fun _ _ => rfl) ?_
      refine sy_st (S' := (mj_m_173, 28, [(0, .ref 234), (1, sy_i a1), (2, sy_i a2), (3, sy_i a3)], [sy_i (-1), sy_i a3], h)) mj_d_173_27 (fun _ _ => rfl) ?_
      refine sy_icm mj_d_173_28 rfl ⟨by omega, by omega⟩ ⟨by omega, by omega⟩ (fun (c9 : a3 = (-1)) => ?_) (fun (c9 : ¬ (a3 = (-1))) => ?_)
      · skip
        rw [if_pos c9]
        refine sy_st (S' := (mj_m_173, 43, [(0, .ref 234), (1, sy_i a1), (2, sy_i a2), (3, sy_i a3)], [sy_i 0], h)) mj_d_173_42 (fun _ _ => rfl) ?_
        refine sy_st (S' := (mj_m_173, 45, [(4, sy_i 0), (0, .ref 234), (1, sy_i a1), (2, sy_i a2), (3, sy_i a3)], [], h)) mj_d_173_43 (fun _ _ => rfl) ?_
        refine sy_st (S' := (mj_m_173, 46, [(4, sy_i 0), (0, .ref 234), (1, sy_i a1), (2, sy_i a2), (3, sy_i a3)], [sy_i 0], h)) mj_d_173_45 (fun _ _ => rfl) ?_
        refine sy_st (S' := (mj_m_173, 48, [(5, sy_i 0), (4, sy_i 0), (0, .ref 234), (1, sy_i a1), (2, sy_i a2), (3, sy_i a3)], [], h)) mj_d_173_46 (fun _ _ => rfl) ?_
        refine sy_lv (lv := [(0, .ref 234), (1, sy_i a1), (2, sy_i a2), (3, sy_i a3), (4, sy_i 0), (5, sy_i 0)]) rfl ⟨rfl, rfl, rfl, rfl, rfl, rfl, trivial⟩ ?_
        exact dt_R_trade_48 10 hH (by first | omega | assumption) (by first | omega | assumption) (by first | omega | assumption) (by first | omega | assumption) (by first | omega | assumption) (by first | omega | assumption) (by first | omega | assumption) (by first | omega | assumption) (by first | omega | assumption) (by first | omega | assumption) (by first | omega | assumption) (by omega)
      · skip
        rw [if_neg c9]
        refine sy_st (S' := (mj_m_173, 32, [(0, .ref 234), (1, sy_i a1), (2, sy_i a2), (3, sy_i a3)], [.ref 234], h)) mj_d_173_31 (fun _ _ => rfl) ?_
        refine sy_st (S' := (mj_m_173, 33, [(0, .ref 234), (1, sy_i a1), (2, sy_i a2), (3, sy_i a3)], [sy_i a3, .ref 234], h)) mj_d_173_32 (fun _ _ => rfl) ?_
        refine sy_cv (M' := mj_m_141) (vs := [.ref 234, sy_i a3]) (rest := []) mj_d_173_33 rfl rfl rfl rfl hH rfl rfl ⟨by decide, ⟨Nat.le_of_ble_eq_true rfl, Nat.le_of_ble_eq_true rfl, Nat.le_of_ble_eq_true rfl, Nat.le_of_ble_eq_true rfl, Nat.le_of_ble_eq_true rfl⟩⟩ (dt_R_isHouse (a1 := a3) hH (by omega) (by omega)) ?_
        rintro _ _ ⟨rfl, rfl, b10, b10t⟩
        have q11 := df_R_isHouse_0 (sy_rd h) a3
        show sy_wp (mj_m_173, 36, [(0, .ref 234), (1, sy_i a1), (2, sy_i a2), (3, sy_i a3)], [sy_i (dc_R_isHouse (sy_rd h) a3)], h) _
        refine sy_ifc mj_d_173_36 rfl ⟨by omega, by omega⟩ (fun (c12 : ¬ ((dc_R_isHouse (sy_rd h) a3) = 0)) => ?_) (fun (c12 : ¬ ¬ ((dc_R_isHouse (sy_rd h) a3) = 0)) => ?_)
        · skip
          rw [if_neg c12]
          refine sy_st (S' := (mj_m_173, 43, [(0, .ref 234), (1, sy_i a1), (2, sy_i a2), (3, sy_i a3)], [sy_i 0], h)) mj_d_173_42 (fun _ _ => rfl) ?_
          refine sy_st (S' := (mj_m_173, 45, [(4, sy_i 0), (0, .ref 234), (1, sy_i a1), (2, sy_i a2), (3, sy_i a3)], [], h)) mj_d_173_43 (fun _ _ => rfl) ?_
          refine sy_st (S' := (mj_m_173, 46, [(4, sy_i 0), (0, .ref 234), (1, sy_i a1), (2, sy_i a2), (3, sy_i a3)], [sy_i 0], h)) mj_d_173_45 (fun _ _ => rfl) ?_
          refine sy_st (S' := (mj_m_173, 48, [(5, sy_i 0), (4, sy_i 0), (0, .ref 234), (1, sy_i a1), (2, sy_i a2), (3, sy_i a3)], [], h)) mj_d_173_46 (fun _ _ => rfl) ?_
          refine sy_lv (lv := [(0, .ref 234), (1, sy_i a1), (2, sy_i a2), (3, sy_i a3), (4, sy_i 0), (5, sy_i 0)]) rfl ⟨rfl, rfl, rfl, rfl, rfl, rfl, trivial⟩ ?_
          exact dt_R_trade_48 10 hH (by first | omega | assumption) (by first | omega | assumption) (by first | omega | assumption) (by first | omega | assumption) (by first | omega | assumption) (by first | omega | assumption) (by first | omega | assumption) (by first | omega | assumption) (by first | omega | assumption) (by first | omega | assumption) (by first | omega | assumption) (by omega)
        · skip
          rw [if_pos (Decidable.not_not.mp c12)]
          replace c12 := Decidable.not_not.mp c12
          refine sy_ldc (n := -1000000001) mj_d_173_39 rfl (by decide) ?_
          exact sy_reti mj_d_173_41 rfl ⟨hH, rfl, rfl, by omega, by omega⟩
