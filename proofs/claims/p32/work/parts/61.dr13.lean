theorem sg_ite1 {c : Prop} [Decidable c] (p q : sg_S × Int) (a k : Nat) : (if c then p else q).1 a k = if c then p.1 a k else q.1 a k := by split <;> rfl
def mj_m_130 : mj_M := (⟨"SootMapsModel", "takesClause", "()Z"⟩, prog_13_method_18_code, 5, (some .boolean), 10, 0, 1, 4, 83)
def mj_m_132 : mj_M := (⟨"SootMapsModel", "takesCity", "()Z"⟩, prog_13_method_15_code, 1, (some .boolean), 10, 0, 1, 3, 63)
def mj_m_134 : mj_M := (⟨"SootMapsModel", "takesHouse", "()Z"⟩, prog_13_method_16_code, 1, (some .boolean), 10, 0, 1, 3, 63)
def mj_m_135 : mj_M := (⟨"SootMapsModel", "takesSweep", "()Z"⟩, prog_13_method_17_code, 1, (some .boolean), 10, 0, 1, 3, 63)
theorem mj_d_130_0 : decode mj_m_130.2.1 0 = .ok (.aload_n 0, 1) := by decide +kernel
theorem mj_d_130_1 : decode mj_m_130.2.1 1 = .ok (.invokevirtual 106, 3) := by decide +kernel
theorem mj_d_130_4 : decode mj_m_130.2.1 4 = .ok (.istore_n 1, 1) := by decide +kernel
theorem mj_d_130_5 : decode mj_m_130.2.1 5 = .ok (.iload_n 1, 1) := by decide +kernel
theorem mj_d_130_6 : decode mj_m_130.2.1 6 = .ok (.bipush 99, 2) := by decide +kernel
theorem mj_d_130_8 : decode mj_m_130.2.1 8 = .ok (.if_icmp .eq 22, 3) := by decide +kernel
theorem mj_d_130_11 : decode mj_m_130.2.1 11 = .ok (.aload_n 0, 1) := by decide +kernel
theorem mj_d_130_12 : decode mj_m_130.2.1 12 = .ok (.getfield 121, 3) := by decide +kernel
theorem mj_d_130_15 : decode mj_m_130.2.1 15 = .ok (.ifCond .eq 19, 3) := by decide +kernel
theorem mj_d_130_18 : decode mj_m_130.2.1 18 = .ok (.iload_n 1, 1) := by decide +kernel
theorem mj_d_130_19 : decode mj_m_130.2.1 19 = .ok (.bipush 104, 2) := by decide +kernel
theorem mj_d_130_21 : decode mj_m_130.2.1 21 = .ok (.if_icmp .eq 9, 3) := by decide +kernel
theorem mj_d_130_24 : decode mj_m_130.2.1 24 = .ok (.iload_n 1, 1) := by decide +kernel
theorem mj_d_130_25 : decode mj_m_130.2.1 25 = .ok (.bipush 115, 2) := by decide +kernel
theorem mj_d_130_27 : decode mj_m_130.2.1 27 = .ok (.if_icmp .ne 7, 3) := by decide +kernel
theorem mj_d_130_30 : decode mj_m_130.2.1 30 = .ok (.iconst 1, 1) := by decide +kernel
theorem mj_d_130_31 : decode mj_m_130.2.1 31 = .ok (.goto 4, 3) := by decide +kernel
theorem mj_d_130_34 : decode mj_m_130.2.1 34 = .ok (.iconst 0, 1) := by decide +kernel
theorem mj_d_130_35 : decode mj_m_130.2.1 35 = .ok (.istore_n 2, 1) := by decide +kernel
theorem mj_d_130_36 : decode mj_m_130.2.1 36 = .ok (.iload_n 2, 1) := by decide +kernel
theorem mj_d_130_37 : decode mj_m_130.2.1 37 = .ok (.ifCond .ne 13, 3) := by decide +kernel
theorem mj_d_130_40 : decode mj_m_130.2.1 40 = .ok (.aload_n 0, 1) := by decide +kernel
theorem mj_d_130_41 : decode mj_m_130.2.1 41 = .ok (.iconst 1, 1) := by decide +kernel
theorem mj_d_130_42 : decode mj_m_130.2.1 42 = .ok (.aload_n 0, 1) := by decide +kernel
theorem mj_d_130_43 : decode mj_m_130.2.1 43 = .ok (.getfield 100, 3) := by decide +kernel
theorem mj_d_130_46 : decode mj_m_130.2.1 46 = .ok (.invokevirtual 110, 3) := by decide +kernel
theorem mj_d_130_49 : decode mj_m_130.2.1 49 = .ok (.ireturn, 1) := by decide +kernel
theorem mj_d_130_50 : decode mj_m_130.2.1 50 = .ok (.iload_n 1, 1) := by decide +kernel
theorem mj_d_130_51 : decode mj_m_130.2.1 51 = .ok (.bipush 99, 2) := by decide +kernel
theorem mj_d_130_53 : decode mj_m_130.2.1 53 = .ok (.if_icmp .ne 10, 3) := by decide +kernel
theorem mj_d_130_56 : decode mj_m_130.2.1 56 = .ok (.aload_n 0, 1) := by decide +kernel
theorem mj_d_130_57 : decode mj_m_130.2.1 57 = .ok (.getfield 121, 3) := by decide +kernel
theorem mj_d_130_60 : decode mj_m_130.2.1 60 = .ok (.goto 39, 3) := by decide +kernel
theorem mj_d_130_63 : decode mj_m_130.2.1 63 = .ok (.iload_n 1, 1) := by decide +kernel
theorem mj_d_130_64 : decode mj_m_130.2.1 64 = .ok (.bipush 104, 2) := by decide +kernel
theorem mj_d_130_66 : decode mj_m_130.2.1 66 = .ok (.if_icmp .ne 20, 3) := by decide +kernel
theorem mj_d_130_69 : decode mj_m_130.2.1 69 = .ok (.aload_n 0, 1) := by decide +kernel
theorem mj_d_130_70 : decode mj_m_130.2.1 70 = .ok (.getfield 133, 3) := by decide +kernel
theorem mj_d_130_73 : decode mj_m_130.2.1 73 = .ok (.bipush 9, 2) := by decide +kernel
theorem mj_d_130_75 : decode mj_m_130.2.1 75 = .ok (.if_icmp .ne 7, 3) := by decide +kernel
theorem mj_d_130_78 : decode mj_m_130.2.1 78 = .ok (.iconst 1, 1) := by decide +kernel
theorem mj_d_130_79 : decode mj_m_130.2.1 79 = .ok (.goto 20, 3) := by decide +kernel
theorem mj_d_130_82 : decode mj_m_130.2.1 82 = .ok (.iconst 0, 1) := by decide +kernel
theorem mj_d_130_83 : decode mj_m_130.2.1 83 = .ok (.goto 16, 3) := by decide +kernel
theorem mj_d_130_86 : decode mj_m_130.2.1 86 = .ok (.aload_n 0, 1) := by decide +kernel
theorem mj_d_130_87 : decode mj_m_130.2.1 87 = .ok (.getfield 136, 3) := by decide +kernel
theorem mj_d_130_90 : decode mj_m_130.2.1 90 = .ok (.iconst 5, 1) := by decide +kernel
theorem mj_d_130_91 : decode mj_m_130.2.1 91 = .ok (.if_icmp .ne 7, 3) := by decide +kernel
theorem mj_d_130_94 : decode mj_m_130.2.1 94 = .ok (.iconst 1, 1) := by decide +kernel
theorem mj_d_130_95 : decode mj_m_130.2.1 95 = .ok (.goto 4, 3) := by decide +kernel
theorem mj_d_130_98 : decode mj_m_130.2.1 98 = .ok (.iconst 0, 1) := by decide +kernel
theorem mj_d_130_99 : decode mj_m_130.2.1 99 = .ok (.istore_n 3, 1) := by decide +kernel
theorem mj_d_130_100 : decode mj_m_130.2.1 100 = .ok (.iload_n 3, 1) := by decide +kernel
theorem mj_d_130_101 : decode mj_m_130.2.1 101 = .ok (.ifCond .eq 13, 3) := by decide +kernel
theorem mj_d_130_104 : decode mj_m_130.2.1 104 = .ok (.aload_n 0, 1) := by decide +kernel
theorem mj_d_130_105 : decode mj_m_130.2.1 105 = .ok (.iconst 3, 1) := by decide +kernel
theorem mj_d_130_106 : decode mj_m_130.2.1 106 = .ok (.aload_n 0, 1) := by decide +kernel
theorem mj_d_130_107 : decode mj_m_130.2.1 107 = .ok (.getfield 100, 3) := by decide +kernel
theorem mj_d_130_110 : decode mj_m_130.2.1 110 = .ok (.invokevirtual 110, 3) := by decide +kernel
theorem mj_d_130_113 : decode mj_m_130.2.1 113 = .ok (.ireturn, 1) := by decide +kernel
theorem mj_d_130_114 : decode mj_m_130.2.1 114 = .ok (.aload_n 0, 1) := by decide +kernel
theorem mj_d_130_115 : decode mj_m_130.2.1 115 = .ok (.dup, 1) := by decide +kernel
theorem mj_d_130_116 : decode mj_m_130.2.1 116 = .ok (.getfield 93, 3) := by decide +kernel
theorem mj_d_130_119 : decode mj_m_130.2.1 119 = .ok (.iconst 1, 1) := by decide +kernel
theorem mj_d_130_120 : decode mj_m_130.2.1 120 = .ok (.iadd, 1) := by decide +kernel
theorem mj_d_130_121 : decode mj_m_130.2.1 121 = .ok (.putfield 93, 3) := by decide +kernel
theorem mj_d_130_124 : decode mj_m_130.2.1 124 = .ok (.iload_n 1, 1) := by decide +kernel
theorem mj_d_130_125 : decode mj_m_130.2.1 125 = .ok (.bipush 99, 2) := by decide +kernel
theorem mj_d_130_127 : decode mj_m_130.2.1 127 = .ok (.if_icmp .ne 10, 3) := by decide +kernel
theorem mj_d_130_130 : decode mj_m_130.2.1 130 = .ok (.aload_n 0, 1) := by decide +kernel
theorem mj_d_130_131 : decode mj_m_130.2.1 131 = .ok (.invokevirtual 139, 3) := by decide +kernel
theorem mj_d_130_134 : decode mj_m_130.2.1 134 = .ok (.goto 20, 3) := by decide +kernel
theorem mj_d_130_137 : decode mj_m_130.2.1 137 = .ok (.iload_n 1, 1) := by decide +kernel
theorem mj_d_130_138 : decode mj_m_130.2.1 138 = .ok (.bipush 104, 2) := by decide +kernel
theorem mj_d_130_140 : decode mj_m_130.2.1 140 = .ok (.if_icmp .ne 10, 3) := by decide +kernel
theorem mj_d_130_143 : decode mj_m_130.2.1 143 = .ok (.aload_n 0, 1) := by decide +kernel
theorem mj_d_130_144 : decode mj_m_130.2.1 144 = .ok (.invokevirtual 143, 3) := by decide +kernel
theorem mj_d_130_147 : decode mj_m_130.2.1 147 = .ok (.goto 7, 3) := by decide +kernel
theorem mj_d_130_150 : decode mj_m_130.2.1 150 = .ok (.aload_n 0, 1) := by decide +kernel
theorem mj_d_130_151 : decode mj_m_130.2.1 151 = .ok (.invokevirtual 146, 3) := by decide +kernel
theorem mj_d_130_154 : decode mj_m_130.2.1 154 = .ok (.istore 4, 2) := by decide +kernel
theorem mj_d_130_156 : decode mj_m_130.2.1 156 = .ok (.iload 4, 2) := by decide +kernel
theorem mj_d_130_158 : decode mj_m_130.2.1 158 = .ok (.ifCond .eq 16, 3) := by decide +kernel
theorem mj_d_130_161 : decode mj_m_130.2.1 161 = .ok (.aload_n 0, 1) := by decide +kernel
theorem mj_d_130_162 : decode mj_m_130.2.1 162 = .ok (.bipush 59, 2) := by decide +kernel
theorem mj_d_130_164 : decode mj_m_130.2.1 164 = .ok (.invokevirtual 149, 3) := by decide +kernel
theorem mj_d_130_167 : decode mj_m_130.2.1 167 = .ok (.ifCond .eq 7, 3) := by decide +kernel
theorem mj_d_130_170 : decode mj_m_130.2.1 170 = .ok (.iconst 1, 1) := by decide +kernel
theorem mj_d_130_171 : decode mj_m_130.2.1 171 = .ok (.goto 4, 3) := by decide +kernel
theorem mj_d_130_174 : decode mj_m_130.2.1 174 = .ok (.iconst 0, 1) := by decide +kernel
theorem mj_d_130_175 : decode mj_m_130.2.1 175 = .ok (.ireturn, 1) := by decide +kernel
theorem mj_d_132_0 : decode mj_m_132.2.1 0 = .ok (.aload_n 0, 1) := by decide +kernel
theorem mj_d_132_1 : decode mj_m_132.2.1 1 = .ok (.iconst 1, 1) := by decide +kernel
theorem mj_d_132_2 : decode mj_m_132.2.1 2 = .ok (.putfield 121, 3) := by decide +kernel
theorem mj_d_132_5 : decode mj_m_132.2.1 5 = .ok (.aload_n 0, 1) := by decide +kernel
theorem mj_d_132_6 : decode mj_m_132.2.1 6 = .ok (.iconst 0, 1) := by decide +kernel
theorem mj_d_132_7 : decode mj_m_132.2.1 7 = .ok (.iconst 2, 1) := by decide +kernel
theorem mj_d_132_8 : decode mj_m_132.2.1 8 = .ok (.invokevirtual 124, 3) := by decide +kernel
theorem mj_d_132_11 : decode mj_m_132.2.1 11 = .ok (.ifCond .ne 5, 3) := by decide +kernel
theorem mj_d_132_14 : decode mj_m_132.2.1 14 = .ok (.iconst 0, 1) := by decide +kernel
theorem mj_d_132_15 : decode mj_m_132.2.1 15 = .ok (.ireturn, 1) := by decide +kernel
theorem mj_d_132_16 : decode mj_m_132.2.1 16 = .ok (.aload_n 0, 1) := by decide +kernel
theorem mj_d_132_17 : decode mj_m_132.2.1 17 = .ok (.aload_n 0, 1) := by decide +kernel
theorem mj_d_132_18 : decode mj_m_132.2.1 18 = .ok (.getfield 118, 3) := by decide +kernel
theorem mj_d_132_21 : decode mj_m_132.2.1 21 = .ok (.putfield 127, 3) := by decide +kernel
theorem mj_d_132_24 : decode mj_m_132.2.1 24 = .ok (.aload_n 0, 1) := by decide +kernel
theorem mj_d_132_25 : decode mj_m_132.2.1 25 = .ok (.iconst 0, 1) := by decide +kernel
theorem mj_d_132_26 : decode mj_m_132.2.1 26 = .ok (.iconst 4, 1) := by decide +kernel
theorem mj_d_132_27 : decode mj_m_132.2.1 27 = .ok (.invokevirtual 124, 3) := by decide +kernel
theorem mj_d_132_30 : decode mj_m_132.2.1 30 = .ok (.ifCond .ne 5, 3) := by decide +kernel
theorem mj_d_132_33 : decode mj_m_132.2.1 33 = .ok (.iconst 0, 1) := by decide +kernel
theorem mj_d_132_34 : decode mj_m_132.2.1 34 = .ok (.ireturn, 1) := by decide +kernel
theorem mj_d_132_35 : decode mj_m_132.2.1 35 = .ok (.aload_n 0, 1) := by decide +kernel
theorem mj_d_132_36 : decode mj_m_132.2.1 36 = .ok (.aload_n 0, 1) := by decide +kernel
theorem mj_d_132_37 : decode mj_m_132.2.1 37 = .ok (.getfield 118, 3) := by decide +kernel
theorem mj_d_132_40 : decode mj_m_132.2.1 40 = .ok (.putfield 130, 3) := by decide +kernel
theorem mj_d_132_43 : decode mj_m_132.2.1 43 = .ok (.iconst 1, 1) := by decide +kernel
theorem mj_d_132_44 : decode mj_m_132.2.1 44 = .ok (.ireturn, 1) := by decide +kernel
theorem mj_d_134_0 : decode mj_m_134.2.1 0 = .ok (.aload_n 0, 1) := by decide +kernel
theorem mj_d_134_1 : decode mj_m_134.2.1 1 = .ok (.iconst 0, 1) := by decide +kernel
theorem mj_d_134_2 : decode mj_m_134.2.1 2 = .ok (.bipush 9, 2) := by decide +kernel
theorem mj_d_134_4 : decode mj_m_134.2.1 4 = .ok (.invokevirtual 124, 3) := by decide +kernel
theorem mj_d_134_7 : decode mj_m_134.2.1 7 = .ok (.ifCond .ne 5, 3) := by decide +kernel
theorem mj_d_134_10 : decode mj_m_134.2.1 10 = .ok (.iconst 0, 1) := by decide +kernel
theorem mj_d_134_11 : decode mj_m_134.2.1 11 = .ok (.ireturn, 1) := by decide +kernel
theorem mj_d_134_12 : decode mj_m_134.2.1 12 = .ok (.aload_n 0, 1) := by decide +kernel
theorem mj_d_134_13 : decode mj_m_134.2.1 13 = .ok (.getfield 118, 3) := by decide +kernel
theorem mj_d_134_16 : decode mj_m_134.2.1 16 = .ok (.bipush 9, 2) := by decide +kernel
theorem mj_d_134_18 : decode mj_m_134.2.1 18 = .ok (.if_icmp .eq 24, 3) := by decide +kernel
theorem mj_d_134_21 : decode mj_m_134.2.1 21 = .ok (.aload_n 0, 1) := by decide +kernel
theorem mj_d_134_22 : decode mj_m_134.2.1 22 = .ok (.getfield 118, 3) := by decide +kernel
theorem mj_d_134_25 : decode mj_m_134.2.1 25 = .ok (.aload_n 0, 1) := by decide +kernel
theorem mj_d_134_26 : decode mj_m_134.2.1 26 = .ok (.getfield 133, 3) := by decide +kernel
theorem mj_d_134_29 : decode mj_m_134.2.1 29 = .ok (.if_icmp .lt 13, 3) := by decide +kernel
theorem mj_d_134_32 : decode mj_m_134.2.1 32 = .ok (.aload_n 0, 1) := by decide +kernel
theorem mj_d_134_33 : decode mj_m_134.2.1 33 = .ok (.iconst 2, 1) := by decide +kernel
theorem mj_d_134_34 : decode mj_m_134.2.1 34 = .ok (.aload_n 0, 1) := by decide +kernel
theorem mj_d_134_35 : decode mj_m_134.2.1 35 = .ok (.getfield 100, 3) := by decide +kernel
theorem mj_d_134_38 : decode mj_m_134.2.1 38 = .ok (.invokevirtual 110, 3) := by decide +kernel
theorem mj_d_134_41 : decode mj_m_134.2.1 41 = .ok (.ireturn, 1) := by decide +kernel
theorem mj_d_134_42 : decode mj_m_134.2.1 42 = .ok (.aload_n 0, 1) := by decide +kernel
theorem mj_d_134_43 : decode mj_m_134.2.1 43 = .ok (.getfield 27, 3) := by decide +kernel
theorem mj_d_134_46 : decode mj_m_134.2.1 46 = .ok (.aload_n 0, 1) := by decide +kernel
theorem mj_d_134_47 : decode mj_m_134.2.1 47 = .ok (.getfield 133, 3) := by decide +kernel
theorem mj_d_134_50 : decode mj_m_134.2.1 50 = .ok (.aload_n 0, 1) := by decide +kernel
theorem mj_d_134_51 : decode mj_m_134.2.1 51 = .ok (.getfield 118, 3) := by decide +kernel
theorem mj_d_134_54 : decode mj_m_134.2.1 54 = .ok (.bipush 9, 2) := by decide +kernel
theorem mj_d_134_56 : decode mj_m_134.2.1 56 = .ok (.if_icmp .ne 7, 3) := by decide +kernel
theorem mj_d_134_59 : decode mj_m_134.2.1 59 = .ok (.iconst (-1), 1) := by decide +kernel
theorem mj_d_134_60 : decode mj_m_134.2.1 60 = .ok (.goto 7, 3) := by decide +kernel
theorem mj_d_134_63 : decode mj_m_134.2.1 63 = .ok (.aload_n 0, 1) := by decide +kernel
theorem mj_d_134_64 : decode mj_m_134.2.1 64 = .ok (.getfield 118, 3) := by decide +kernel
theorem mj_d_134_67 : decode mj_m_134.2.1 67 = .ok (.iastore, 1) := by decide +kernel
theorem mj_d_134_68 : decode mj_m_134.2.1 68 = .ok (.aload_n 0, 1) := by decide +kernel
theorem mj_d_134_69 : decode mj_m_134.2.1 69 = .ok (.iconst 0, 1) := by decide +kernel
theorem mj_d_134_70 : decode mj_m_134.2.1 70 = .ok (.bipush 7, 2) := by decide +kernel
theorem mj_d_134_72 : decode mj_m_134.2.1 72 = .ok (.invokevirtual 124, 3) := by decide +kernel
theorem mj_d_134_75 : decode mj_m_134.2.1 75 = .ok (.ifCond .ne 5, 3) := by decide +kernel
theorem mj_d_134_78 : decode mj_m_134.2.1 78 = .ok (.iconst 0, 1) := by decide +kernel
theorem mj_d_134_79 : decode mj_m_134.2.1 79 = .ok (.ireturn, 1) := by decide +kernel
theorem mj_d_134_80 : decode mj_m_134.2.1 80 = .ok (.aload_n 0, 1) := by decide +kernel
theorem mj_d_134_81 : decode mj_m_134.2.1 81 = .ok (.getfield 30, 3) := by decide +kernel
theorem mj_d_134_84 : decode mj_m_134.2.1 84 = .ok (.aload_n 0, 1) := by decide +kernel
theorem mj_d_134_85 : decode mj_m_134.2.1 85 = .ok (.getfield 133, 3) := by decide +kernel
theorem mj_d_134_88 : decode mj_m_134.2.1 88 = .ok (.aload_n 0, 1) := by decide +kernel
theorem mj_d_134_89 : decode mj_m_134.2.1 89 = .ok (.getfield 118, 3) := by decide +kernel
theorem mj_d_134_92 : decode mj_m_134.2.1 92 = .ok (.iastore, 1) := by decide +kernel
theorem mj_d_134_93 : decode mj_m_134.2.1 93 = .ok (.aload_n 0, 1) := by decide +kernel
theorem mj_d_134_94 : decode mj_m_134.2.1 94 = .ok (.dup, 1) := by decide +kernel
theorem mj_d_134_95 : decode mj_m_134.2.1 95 = .ok (.getfield 133, 3) := by decide +kernel
theorem mj_d_134_98 : decode mj_m_134.2.1 98 = .ok (.iconst 1, 1) := by decide +kernel
theorem mj_d_134_99 : decode mj_m_134.2.1 99 = .ok (.iadd, 1) := by decide +kernel
theorem mj_d_134_100 : decode mj_m_134.2.1 100 = .ok (.putfield 133, 3) := by decide +kernel
theorem mj_d_134_103 : decode mj_m_134.2.1 103 = .ok (.iconst 1, 1) := by decide +kernel
theorem mj_d_134_104 : decode mj_m_134.2.1 104 = .ok (.ireturn, 1) := by decide +kernel
theorem mj_d_135_0 : decode mj_m_135.2.1 0 = .ok (.aload_n 0, 1) := by decide +kernel
theorem mj_d_135_1 : decode mj_m_135.2.1 1 = .ok (.iconst 0, 1) := by decide +kernel
theorem mj_d_135_2 : decode mj_m_135.2.1 2 = .ok (.iconst 1, 1) := by decide +kernel
theorem mj_d_135_3 : decode mj_m_135.2.1 3 = .ok (.aload_n 0, 1) := by decide +kernel
theorem mj_d_135_4 : decode mj_m_135.2.1 4 = .ok (.getfield 133, 3) := by decide +kernel
theorem mj_d_135_7 : decode mj_m_135.2.1 7 = .ok (.ishl, 1) := by decide +kernel
theorem mj_d_135_8 : decode mj_m_135.2.1 8 = .ok (.iconst 1, 1) := by decide +kernel
theorem mj_d_135_9 : decode mj_m_135.2.1 9 = .ok (.isub, 1) := by decide +kernel
theorem mj_d_135_10 : decode mj_m_135.2.1 10 = .ok (.invokevirtual 124, 3) := by decide +kernel
theorem mj_d_135_13 : decode mj_m_135.2.1 13 = .ok (.ifCond .ne 5, 3) := by decide +kernel
theorem mj_d_135_16 : decode mj_m_135.2.1 16 = .ok (.iconst 0, 1) := by decide +kernel
theorem mj_d_135_17 : decode mj_m_135.2.1 17 = .ok (.ireturn, 1) := by decide +kernel
theorem mj_d_135_18 : decode mj_m_135.2.1 18 = .ok (.aload_n 0, 1) := by decide +kernel
theorem mj_d_135_19 : decode mj_m_135.2.1 19 = .ok (.getfield 33, 3) := by decide +kernel
theorem mj_d_135_22 : decode mj_m_135.2.1 22 = .ok (.aload_n 0, 1) := by decide +kernel
theorem mj_d_135_23 : decode mj_m_135.2.1 23 = .ok (.getfield 136, 3) := by decide +kernel
theorem mj_d_135_26 : decode mj_m_135.2.1 26 = .ok (.aload_n 0, 1) := by decide +kernel
theorem mj_d_135_27 : decode mj_m_135.2.1 27 = .ok (.getfield 118, 3) := by decide +kernel
theorem mj_d_135_30 : decode mj_m_135.2.1 30 = .ok (.iastore, 1) := by decide +kernel
theorem mj_d_135_31 : decode mj_m_135.2.1 31 = .ok (.aload_n 0, 1) := by decide +kernel
theorem mj_d_135_32 : decode mj_m_135.2.1 32 = .ok (.iconst 0, 1) := by decide +kernel
theorem mj_d_135_33 : decode mj_m_135.2.1 33 = .ok (.bipush 99, 2) := by decide +kernel
theorem mj_d_135_35 : decode mj_m_135.2.1 35 = .ok (.invokevirtual 124, 3) := by decide +kernel
theorem mj_d_135_38 : decode mj_m_135.2.1 38 = .ok (.ifCond .ne 5, 3) := by decide +kernel
theorem mj_d_135_41 : decode mj_m_135.2.1 41 = .ok (.iconst 0, 1) := by decide +kernel
theorem mj_d_135_42 : decode mj_m_135.2.1 42 = .ok (.ireturn, 1) := by decide +kernel
theorem mj_d_135_43 : decode mj_m_135.2.1 43 = .ok (.aload_n 0, 1) := by decide +kernel
theorem mj_d_135_44 : decode mj_m_135.2.1 44 = .ok (.getfield 36, 3) := by decide +kernel
theorem mj_d_135_47 : decode mj_m_135.2.1 47 = .ok (.aload_n 0, 1) := by decide +kernel
theorem mj_d_135_48 : decode mj_m_135.2.1 48 = .ok (.getfield 136, 3) := by decide +kernel
theorem mj_d_135_51 : decode mj_m_135.2.1 51 = .ok (.aload_n 0, 1) := by decide +kernel
theorem mj_d_135_52 : decode mj_m_135.2.1 52 = .ok (.getfield 118, 3) := by decide +kernel
theorem mj_d_135_55 : decode mj_m_135.2.1 55 = .ok (.iastore, 1) := by decide +kernel
theorem mj_d_135_56 : decode mj_m_135.2.1 56 = .ok (.aload_n 0, 1) := by decide +kernel
theorem mj_d_135_57 : decode mj_m_135.2.1 57 = .ok (.dup, 1) := by decide +kernel
theorem mj_d_135_58 : decode mj_m_135.2.1 58 = .ok (.getfield 136, 3) := by decide +kernel
theorem mj_d_135_61 : decode mj_m_135.2.1 61 = .ok (.iconst 1, 1) := by decide +kernel
theorem mj_d_135_62 : decode mj_m_135.2.1 62 = .ok (.iadd, 1) := by decide +kernel
theorem mj_d_135_63 : decode mj_m_135.2.1 63 = .ok (.putfield 136, 3) := by decide +kernel
theorem mj_d_135_66 : decode mj_m_135.2.1 66 = .ok (.iconst 1, 1) := by decide +kernel
theorem mj_d_135_67 : decode mj_m_135.2.1 67 = .ok (.ireturn, 1) := by decide +kernel
def dc_R_takesCity (s : sg_S) : sg_S × Int := (if ((dc_R_takesNumber (sg_up s 234 16 1) 0 2).2) = 0 then ((dc_R_takesNumber (sg_up s 234 16 1) 0 2).1, 0) else (if ((dc_R_takesNumber (sg_up (dc_R_takesNumber (sg_up s 234 16 1) 0 2).1 234 17 ((dc_R_takesNumber (sg_up s 234 16 1) 0 2).1 234 13)) 0 4).2) = 0 then ((dc_R_takesNumber (sg_up (dc_R_takesNumber (sg_up s 234 16 1) 0 2).1 234 17 ((dc_R_takesNumber (sg_up s 234 16 1) 0 2).1 234 13)) 0 4).1, 0) else ((sg_up (dc_R_takesNumber (sg_up (dc_R_takesNumber (sg_up s 234 16 1) 0 2).1 234 17 ((dc_R_takesNumber (sg_up s 234 16 1) 0 2).1 234 13)) 0 4).1 234 18 ((dc_R_takesNumber (sg_up (dc_R_takesNumber (sg_up s 234 16 1) 0 2).1 234 17 ((dc_R_takesNumber (sg_up s 234 16 1) 0 2).1 234 13)) 0 4).1 234 13)), 1)))
def dw_R_takesCity (a k : Nat) : Bool := (a == 234 && k == 16) || dw_R_takesNumber a k || (a == 234 && k == 17) || (a == 234 && k == 18)
theorem dr_R_takesCity (s : sg_S) (a k : Nat) (h : dw_R_takesCity a k = false) : (dc_R_takesCity s).1 a k = s a k := by
  have h0 := h
  unfold dw_R_takesCity at h
  simp only [Bool.or_eq_false_iff] at h
  obtain ⟨⟨⟨h1, h2⟩, h3⟩, h4⟩ := h
  unfold dc_R_takesCity
  (repeat' split) <;> simp only [(fun s z => sg_upf (s := s) (z := z) h1), (fun s x0 x1 => dr_R_takesNumber s x0 x1 a k h2), (fun s z => sg_upf (s := s) (z := z) h3), (fun s z => sg_upf (s := s) (z := z) h4)]
set_option maxRecDepth 100000 in
theorem dt_R_takesCity {h : mj_H} (hH : sy_H h) : sy_wp (mj_m_132, 0, [(0, .ref 234)], [], h) (dq2 (0) (1) (dc_R_takesCity (sy_rd h))) := by
  unfold dc_R_takesCity
  refine sy_st (S' := (mj_m_132, 1, [(0, .ref 234)], [.ref 234], h)) mj_d_132_0 (fun _ _ => rfl) ?_
  refine sy_st (S' := (mj_m_132, 2, [(0, .ref 234)], [sy_i 1, .ref 234], h)) mj_d_132_1 (fun _ _ => rfl) ?_
  refine sg_pf (z := 1) mj_d_132_2 rfl rfl (by decide) (Or.inr ⟨rfl, by omega, by omega⟩) rfl hH (by omega) (by omega) ⟨by omega, by omega⟩ ?_
  intro h1 th1 eh1
  refine sy_st (S' := (mj_m_132, 6, [(0, .ref 234)], [.ref 234], h1)) mj_d_132_5 (fun _ _ => rfl) ?_
  refine sy_st (S' := (mj_m_132, 7, [(0, .ref 234)], [sy_i 0, .ref 234], h1)) mj_d_132_6 (fun _ _ => rfl) ?_
  refine sy_st (S' := (mj_m_132, 8, [(0, .ref 234)], [sy_i 2, sy_i 0, .ref 234], h1)) mj_d_132_7 (fun _ _ => rfl) ?_
  refine sy_cv (M' := mj_m_133) (vs := [.ref 234, sy_i 0, sy_i 2]) (rest := []) mj_d_132_8 rfl rfl rfl rfl th1 rfl rfl ⟨by decide, ⟨Nat.le_of_ble_eq_true rfl, Nat.le_of_ble_eq_true rfl, Nat.le_of_ble_eq_true rfl, Nat.le_of_ble_eq_true rfl, Nat.le_of_ble_eq_true rfl⟩⟩ (dt_R_takesNumber (a1 := 0) (a2 := 2) th1 (by omega) (by omega) (by omega) (by omega)) ?_
  rintro _ h2 ⟨th2, eh2, rfl, b3, b3t⟩
  rw [eh1] at eh2 b3 b3t ⊢
  show sy_wp (mj_m_132, 11, [(0, .ref 234)], [sy_i ((dc_R_takesNumber (sg_up (sy_rd h) 234 16 1) 0 2).2)], h2) _
  have nx1 := rt_numX th1 eh1 0 2
  refine sy_ifc mj_d_132_11 rfl ⟨by omega, by omega⟩ (fun (c4 : ¬ (((dc_R_takesNumber (sg_up (sy_rd h) 234 16 1) 0 2).2) = 0)) => ?_) (fun (c4 : ¬ ¬ (((dc_R_takesNumber (sg_up (sy_rd h) 234 16 1) 0 2).2) = 0)) => ?_)
  · skip
    rw [if_neg c4]
    refine sy_st (S' := (mj_m_132, 17, [(0, .ref 234)], [.ref 234], h2)) mj_d_132_16 (fun _ _ => rfl) ?_
    refine sy_st (S' := (mj_m_132, 18, [(0, .ref 234)], [.ref 234, .ref 234], h2)) mj_d_132_17 (fun _ _ => rfl) ?_
    refine sy_gf mj_d_132_18 rfl rfl (by decide) rfl th2 ?_
    intro x5 ex5 bx5 tx5
    replace ex5 : x5 = sy_rd h2 234 13 := ex5
    rw [eh2] at ex5
    subst ex5
    refine sg_pf (z := ((dc_R_takesNumber (sg_up (sy_rd h) 234 16 1) 0 2).1 234 13)) mj_d_132_21 rfl rfl (by decide) (Or.inl rfl) rfl th2 (by omega) (by omega) ⟨by omega, by omega⟩ ?_
    intro h6 th6 eh6
    rw [eh2] at eh6
    refine sy_st (S' := (mj_m_132, 25, [(0, .ref 234)], [.ref 234], h6)) mj_d_132_24 (fun _ _ => rfl) ?_
    refine sy_st (S' := (mj_m_132, 26, [(0, .ref 234)], [sy_i 0, .ref 234], h6)) mj_d_132_25 (fun _ _ => rfl) ?_
    refine sy_st (S' := (mj_m_132, 27, [(0, .ref 234)], [sy_i 4, sy_i 0, .ref 234], h6)) mj_d_132_26 (fun _ _ => rfl) ?_
    refine sy_cv (M' := mj_m_133) (vs := [.ref 234, sy_i 0, sy_i 4]) (rest := []) mj_d_132_27 rfl rfl rfl rfl th6 rfl rfl ⟨by decide, ⟨Nat.le_of_ble_eq_true rfl, Nat.le_of_ble_eq_true rfl, Nat.le_of_ble_eq_true rfl, Nat.le_of_ble_eq_true rfl, Nat.le_of_ble_eq_true rfl⟩⟩ (dt_R_takesNumber (a1 := 0) (a2 := 4) th6 (by omega) (by omega) (by omega) (by omega)) ?_
    rintro _ h7 ⟨th7, eh7, rfl, b8, b8t⟩
    rw [eh6] at eh7 b8 b8t ⊢
    show sy_wp (mj_m_132, 30, [(0, .ref 234)], [sy_i ((dc_R_takesNumber (sg_up (dc_R_takesNumber (sg_up (sy_rd h) 234 16 1) 0 2).1 234 17 ((dc_R_takesNumber (sg_up (sy_rd h) 234 16 1) 0 2).1 234 13)) 0 4).2)], h7) _
    have nx2 := rt_numX th6 eh6 0 4
    refine sy_ifc mj_d_132_30 rfl ⟨by omega, by omega⟩ (fun (c9 : ¬ (((dc_R_takesNumber (sg_up (dc_R_takesNumber (sg_up (sy_rd h) 234 16 1) 0 2).1 234 17 ((dc_R_takesNumber (sg_up (sy_rd h) 234 16 1) 0 2).1 234 13)) 0 4).2) = 0)) => ?_) (fun (c9 : ¬ ¬ (((dc_R_takesNumber (sg_up (dc_R_takesNumber (sg_up (sy_rd h) 234 16 1) 0 2).1 234 17 ((dc_R_takesNumber (sg_up (sy_rd h) 234 16 1) 0 2).1 234 13)) 0 4).2) = 0)) => ?_)
    · skip
      rw [if_neg c9]
      refine sy_st (S' := (mj_m_132, 36, [(0, .ref 234)], [.ref 234], h7)) mj_d_132_35 (fun _ _ => rfl) ?_
      refine sy_st (S' := (mj_m_132, 37, [(0, .ref 234)], [.ref 234, .ref 234], h7)) mj_d_132_36 (fun _ _ => rfl) ?_
      refine sy_gf mj_d_132_37 rfl rfl (by decide) rfl th7 ?_
      intro x10 ex10 bx10 tx10
      replace ex10 : x10 = sy_rd h7 234 13 := ex10
      rw [eh7] at ex10
      subst ex10
      refine sg_pf (z := ((dc_R_takesNumber (sg_up (dc_R_takesNumber (sg_up (sy_rd h) 234 16 1) 0 2).1 234 17 ((dc_R_takesNumber (sg_up (sy_rd h) 234 16 1) 0 2).1 234 13)) 0 4).1 234 13)) mj_d_132_40 rfl rfl (by decide) (Or.inl rfl) rfl th7 (by omega) (by omega) ⟨by omega, by omega⟩ ?_
      intro h11 th11 eh11
      rw [eh7] at eh11
      refine sy_st (S' := (mj_m_132, 44, [(0, .ref 234)], [sy_i 1], h11)) mj_d_132_43 (fun _ _ => rfl) ?_
      exact sy_retb mj_d_132_44 rfl ⟨by omega, by omega⟩ ⟨th11, eh11, rfl, by omega, by omega⟩
    · skip
      rw [if_pos (Decidable.not_not.mp c9)]
      replace c9 := Decidable.not_not.mp c9
      refine sy_st (S' := (mj_m_132, 34, [(0, .ref 234)], [sy_i 0], h7)) mj_d_132_33 (fun _ _ => rfl) ?_
      exact sy_retb mj_d_132_34 rfl ⟨by omega, by omega⟩ ⟨th7, eh7, rfl, by omega, by omega⟩
  · skip
    rw [if_pos (Decidable.not_not.mp c4)]
    replace c4 := Decidable.not_not.mp c4
    refine sy_st (S' := (mj_m_132, 15, [(0, .ref 234)], [sy_i 0], h2)) mj_d_132_14 (fun _ _ => rfl) ?_
    exact sy_retb mj_d_132_15 rfl ⟨by omega, by omega⟩ ⟨th2, eh2, rfl, by omega, by omega⟩
def dc_R_takesHouse (s : sg_S) : sg_S × Int := (if ((dc_R_takesNumber s 0 9).2) = 0 then ((dc_R_takesNumber s 0 9).1, 0) else (if ((dc_R_takesNumber s 0 9).1 234 13) = 9 then (if ((dc_R_takesNumber s 0 9).1 234 13) = 9 then (if ((dc_R_takesNumber (sg_up (dc_R_takesNumber s 0 9).1 239 ((s 234 19).toNat) (-1)) 0 7).2) = 0 then ((dc_R_takesNumber (sg_up (dc_R_takesNumber s 0 9).1 239 ((s 234 19).toNat) (-1)) 0 7).1, 0) else ((sg_up (sg_up (dc_R_takesNumber (sg_up (dc_R_takesNumber s 0 9).1 239 ((s 234 19).toNat) (-1)) 0 7).1 240 ((s 234 19).toNat) ((dc_R_takesNumber (sg_up (dc_R_takesNumber s 0 9).1 239 ((s 234 19).toNat) (-1)) 0 7).1 234 13)) 234 19 ((s 234 19) + 1)), 1)) else (if ((dc_R_takesNumber (sg_up (dc_R_takesNumber s 0 9).1 239 ((s 234 19).toNat) ((dc_R_takesNumber s 0 9).1 234 13)) 0 7).2) = 0 then ((dc_R_takesNumber (sg_up (dc_R_takesNumber s 0 9).1 239 ((s 234 19).toNat) ((dc_R_takesNumber s 0 9).1 234 13)) 0 7).1, 0) else ((sg_up (sg_up (dc_R_takesNumber (sg_up (dc_R_takesNumber s 0 9).1 239 ((s 234 19).toNat) ((dc_R_takesNumber s 0 9).1 234 13)) 0 7).1 240 ((s 234 19).toNat) ((dc_R_takesNumber (sg_up (dc_R_takesNumber s 0 9).1 239 ((s 234 19).toNat) ((dc_R_takesNumber s 0 9).1 234 13)) 0 7).1 234 13)) 234 19 ((s 234 19) + 1)), 1))) else (if ((dc_R_takesNumber s 0 9).1 234 13) < (s 234 19) then (if ((dc_R_takesNumber s 0 9).1 234 13) = 9 then (if ((dc_R_takesNumber (sg_up (dc_R_takesNumber s 0 9).1 239 ((s 234 19).toNat) (-1)) 0 7).2) = 0 then ((dc_R_takesNumber (sg_up (dc_R_takesNumber s 0 9).1 239 ((s 234 19).toNat) (-1)) 0 7).1, 0) else ((sg_up (sg_up (dc_R_takesNumber (sg_up (dc_R_takesNumber s 0 9).1 239 ((s 234 19).toNat) (-1)) 0 7).1 240 ((s 234 19).toNat) ((dc_R_takesNumber (sg_up (dc_R_takesNumber s 0 9).1 239 ((s 234 19).toNat) (-1)) 0 7).1 234 13)) 234 19 ((s 234 19) + 1)), 1)) else (if ((dc_R_takesNumber (sg_up (dc_R_takesNumber s 0 9).1 239 ((s 234 19).toNat) ((dc_R_takesNumber s 0 9).1 234 13)) 0 7).2) = 0 then ((dc_R_takesNumber (sg_up (dc_R_takesNumber s 0 9).1 239 ((s 234 19).toNat) ((dc_R_takesNumber s 0 9).1 234 13)) 0 7).1, 0) else ((sg_up (sg_up (dc_R_takesNumber (sg_up (dc_R_takesNumber s 0 9).1 239 ((s 234 19).toNat) ((dc_R_takesNumber s 0 9).1 234 13)) 0 7).1 240 ((s 234 19).toNat) ((dc_R_takesNumber (sg_up (dc_R_takesNumber s 0 9).1 239 ((s 234 19).toNat) ((dc_R_takesNumber s 0 9).1 234 13)) 0 7).1 234 13)) 234 19 ((s 234 19) + 1)), 1))) else ((dc_R_fails (dc_R_takesNumber s 0 9).1 2 ((dc_R_takesNumber s 0 9).1 234 12)).1, (dc_R_fails (dc_R_takesNumber s 0 9).1 2 ((dc_R_takesNumber s 0 9).1 234 12)).2))))
def dw_R_takesHouse (a k : Nat) : Bool := dw_R_takesNumber a k || (a == 239) || (a == 240) || (a == 234 && k == 19) || dw_R_fails a k
theorem dr_R_takesHouse (s : sg_S) (a k : Nat) (h : dw_R_takesHouse a k = false) : (dc_R_takesHouse s).1 a k = s a k := by
  have h0 := h
  unfold dw_R_takesHouse at h
  simp only [Bool.or_eq_false_iff] at h
  obtain ⟨⟨⟨⟨h1, h2⟩, h3⟩, h4⟩, h5⟩ := h
  unfold dc_R_takesHouse
  (repeat' split) <;> simp only [(fun s x0 x1 => dr_R_takesNumber s x0 x1 a k h1), (fun s l z => sg_upa (s := s) (l := l) (z := z) (k := k) h2), (fun s l z => sg_upa (s := s) (l := l) (z := z) (k := k) h3), (fun s z => sg_upf (s := s) (z := z) h4), (fun s x0 x1 => dr_R_fails s x0 x1 a k h5)]
set_option maxRecDepth 100000 in
theorem dt_R_takesHouse {h : mj_H} (hH : sy_H h) (i0 : (sy_rd h 234 19) < 9) : sy_wp (mj_m_134, 0, [(0, .ref 234)], [], h) (dq2 (0) (1) (dc_R_takesHouse (sy_rd h))) := by
  unfold dc_R_takesHouse
  have n234_19 := hH.bd (a := 234) (k := 19) rfl (by decide) rfl
  refine sy_st (S' := (mj_m_134, 1, [(0, .ref 234)], [.ref 234], h)) mj_d_134_0 (fun _ _ => rfl) ?_
  refine sy_st (S' := (mj_m_134, 2, [(0, .ref 234)], [sy_i 0, .ref 234], h)) mj_d_134_1 (fun _ _ => rfl) ?_
  refine sy_bip mj_d_134_2 (by decide) ?_
  refine sy_cv (M' := mj_m_133) (vs := [.ref 234, sy_i 0, sy_i 9]) (rest := []) mj_d_134_4 rfl rfl rfl rfl hH rfl rfl ⟨by decide, ⟨Nat.le_of_ble_eq_true rfl, Nat.le_of_ble_eq_true rfl, Nat.le_of_ble_eq_true rfl, Nat.le_of_ble_eq_true rfl, Nat.le_of_ble_eq_true rfl⟩⟩ (dt_R_takesNumber (a1 := 0) (a2 := 9) hH (by omega) (by omega) (by omega) (by omega)) ?_
  rintro _ h1 ⟨th1, eh1, rfl, b2, b2t⟩
  show sy_wp (mj_m_134, 7, [(0, .ref 234)], [sy_i ((dc_R_takesNumber (sy_rd h) 0 9).2)], h1) _
  have nx1 := rt_numX hH rfl 0 9
  refine sy_ifc mj_d_134_7 rfl ⟨by omega, by omega⟩ (fun (c3 : ¬ (((dc_R_takesNumber (sy_rd h) 0 9).2) = 0)) => ?_) (fun (c3 : ¬ ¬ (((dc_R_takesNumber (sy_rd h) 0 9).2) = 0)) => ?_)
  · skip
    rw [if_neg c3]
    refine sy_st (S' := (mj_m_134, 13, [(0, .ref 234)], [.ref 234], h1)) mj_d_134_12 (fun _ _ => rfl) ?_
    refine sy_gf mj_d_134_13 rfl rfl (by decide) rfl th1 ?_
    intro x4 ex4 bx4 tx4
    replace ex4 : x4 = sy_rd h1 234 13 := ex4
    rw [eh1] at ex4
    subst ex4
    refine sy_bip mj_d_134_16 (by decide) ?_
    refine sy_icm mj_d_134_18 rfl ⟨by omega, by omega⟩ ⟨by omega, by omega⟩ (fun (c5 : ((dc_R_takesNumber (sy_rd h) 0 9).1 234 13) = 9) => ?_) (fun (c5 : ¬ (((dc_R_takesNumber (sy_rd h) 0 9).1 234 13) = 9)) => ?_)
    · skip
      rw [if_pos c5]
      refine sy_st (S' := (mj_m_134, 43, [(0, .ref 234)], [.ref 234], h1)) mj_d_134_42 (fun _ _ => rfl) ?_
      refine sy_gr2 (b := 239) mj_d_134_43 rfl rfl (by decide) rfl rfl th1 ?_
      refine sy_st (S' := (mj_m_134, 47, [(0, .ref 234)], [.ref 234, .ref 239], h1)) mj_d_134_46 (fun _ _ => rfl) ?_
      refine sy_gf mj_d_134_47 rfl rfl (by decide) rfl th1 ?_
      intro x6 ex6 bx6 tx6
      replace ex6 : x6 = sy_rd h1 234 19 := ex6
      rw [eh1, dr_R_takesNumber _ _ _ 234 19 rfl] at ex6
      subst ex6
      refine sy_st (S' := (mj_m_134, 51, [(0, .ref 234)], [.ref 234, sy_i (sy_rd h 234 19), .ref 239], h1)) mj_d_134_50 (fun _ _ => rfl) ?_
      refine sy_gf mj_d_134_51 rfl rfl (by decide) rfl th1 ?_
      intro x7 ex7 bx7 tx7
      replace ex7 : x7 = sy_rd h1 234 13 := ex7
      rw [eh1] at ex7
      subst ex7
      refine sy_bip mj_d_134_54 (by decide) ?_
      refine sy_icm mj_d_134_56 rfl ⟨by omega, by omega⟩ ⟨by omega, by omega⟩ (fun (c8 : ¬ (((dc_R_takesNumber (sy_rd h) 0 9).1 234 13) = 9)) => ?_) (fun (c8 : ¬ ¬ (((dc_R_takesNumber (sy_rd h) 0 9).1 234 13) = 9)) => ?_)
      · skip
        rw [if_neg c8]
        refine sy_st (S' := (mj_m_134, 64, [(0, .ref 234)], [.ref 234, sy_i (sy_rd h 234 19), .ref 239], h1)) mj_d_134_63 (fun _ _ => rfl) ?_
        refine sy_gf mj_d_134_64 rfl rfl (by decide) rfl th1 ?_
        intro x9 ex9 bx9 tx9
        replace ex9 : x9 = sy_rd h1 234 13 := ex9
        rw [eh1] at ex9
        subst ex9
        refine sg_iasQ (v := ((dc_R_takesNumber (sy_rd h) 0 9).1 234 13)) mj_d_134_67 (by omega) (by omega) th1 ⟨by omega, by omega, by omega⟩ ?_
        intro h10 th10 eh10
        rw [eh1] at eh10
        refine sy_st (S' := (mj_m_134, 69, [(0, .ref 234)], [.ref 234], h10)) mj_d_134_68 (fun _ _ => rfl) ?_
        refine sy_st (S' := (mj_m_134, 70, [(0, .ref 234)], [sy_i 0, .ref 234], h10)) mj_d_134_69 (fun _ _ => rfl) ?_
        refine sy_bip mj_d_134_70 (by decide) ?_
        refine sy_cv (M' := mj_m_133) (vs := [.ref 234, sy_i 0, sy_i 7]) (rest := []) mj_d_134_72 rfl rfl rfl rfl th10 rfl rfl ⟨by decide, ⟨Nat.le_of_ble_eq_true rfl, Nat.le_of_ble_eq_true rfl, Nat.le_of_ble_eq_true rfl, Nat.le_of_ble_eq_true rfl, Nat.le_of_ble_eq_true rfl⟩⟩ (dt_R_takesNumber (a1 := 0) (a2 := 7) th10 (by omega) (by omega) (by omega) (by omega)) ?_
        rintro _ h11 ⟨th11, eh11, rfl, b12, b12t⟩
        rw [eh10] at eh11 b12 b12t ⊢
        show sy_wp (mj_m_134, 75, [(0, .ref 234)], [sy_i ((dc_R_takesNumber (sg_up (dc_R_takesNumber (sy_rd h) 0 9).1 239 ((sy_rd h 234 19).toNat) ((dc_R_takesNumber (sy_rd h) 0 9).1 234 13)) 0 7).2)], h11) _
        have nx2 := rt_numX th10 eh10 0 7
        refine sy_ifc mj_d_134_75 rfl ⟨by omega, by omega⟩ (fun (c13 : ¬ (((dc_R_takesNumber (sg_up (dc_R_takesNumber (sy_rd h) 0 9).1 239 ((sy_rd h 234 19).toNat) ((dc_R_takesNumber (sy_rd h) 0 9).1 234 13)) 0 7).2) = 0)) => ?_) (fun (c13 : ¬ ¬ (((dc_R_takesNumber (sg_up (dc_R_takesNumber (sy_rd h) 0 9).1 239 ((sy_rd h 234 19).toNat) ((dc_R_takesNumber (sy_rd h) 0 9).1 234 13)) 0 7).2) = 0)) => ?_)
        · skip
          rw [if_neg c13]
          refine sy_st (S' := (mj_m_134, 81, [(0, .ref 234)], [.ref 234], h11)) mj_d_134_80 (fun _ _ => rfl) ?_
          refine sy_gr2 (b := 240) mj_d_134_81 rfl rfl (by decide) rfl rfl th11 ?_
          refine sy_st (S' := (mj_m_134, 85, [(0, .ref 234)], [.ref 234, .ref 240], h11)) mj_d_134_84 (fun _ _ => rfl) ?_
          refine sy_gf mj_d_134_85 rfl rfl (by decide) rfl th11 ?_
          intro x14 ex14 bx14 tx14
          replace ex14 : x14 = sy_rd h11 234 19 := ex14
          rw [eh11, dr_R_takesNumber _ _ _ 234 19 rfl, sg_na (by decide), dr_R_takesNumber _ _ _ 234 19 rfl] at ex14
          subst ex14
          refine sy_st (S' := (mj_m_134, 89, [(0, .ref 234)], [.ref 234, sy_i (sy_rd h 234 19), .ref 240], h11)) mj_d_134_88 (fun _ _ => rfl) ?_
          refine sy_gf mj_d_134_89 rfl rfl (by decide) rfl th11 ?_
          intro x15 ex15 bx15 tx15
          replace ex15 : x15 = sy_rd h11 234 13 := ex15
          rw [eh11] at ex15
          subst ex15
          refine sg_ias (v := ((dc_R_takesNumber (sg_up (dc_R_takesNumber (sy_rd h) 0 9).1 239 ((sy_rd h 234 19).toNat) ((dc_R_takesNumber (sy_rd h) 0 9).1 234 13)) 0 7).1 234 13)) mj_d_134_92 rfl (by decide) (by omega) (by omega) (ab_el_1 rfl _) th11 (by omega) (by omega) ⟨by omega, by omega⟩ ?_
          intro h16 th16 eh16
          rw [eh11] at eh16
          refine sy_st (S' := (mj_m_134, 94, [(0, .ref 234)], [.ref 234], h16)) mj_d_134_93 (fun _ _ => rfl) ?_
          refine sy_st (S' := (mj_m_134, 95, [(0, .ref 234)], [.ref 234, .ref 234], h16)) mj_d_134_94 (fun _ _ => rfl) ?_
          refine sy_gf mj_d_134_95 rfl rfl (by decide) rfl th16 ?_
          intro x17 ex17 bx17 tx17
          replace ex17 : x17 = sy_rd h16 234 19 := ex17
          rw [eh16, sg_na (by decide), dr_R_takesNumber _ _ _ 234 19 rfl, sg_na (by decide), dr_R_takesNumber _ _ _ 234 19 rfl] at ex17
          subst ex17
          refine sy_st (S' := (mj_m_134, 99, [(0, .ref 234)], [sy_i 1, sy_i (sy_rd h 234 19), .ref 234], h16)) mj_d_134_98 (fun _ _ => rfl) ?_
          refine sy_add mj_d_134_99 ?_
          refine sg_pf (z := ((sy_rd h 234 19) + 1)) mj_d_134_100 rfl rfl (by decide) (Or.inl rfl) rfl th16 (by omega) (by omega) ⟨by omega, by omega⟩ ?_
          intro h18 th18 eh18
          rw [eh16] at eh18
          refine sy_st (S' := (mj_m_134, 104, [(0, .ref 234)], [sy_i 1], h18)) mj_d_134_103 (fun _ _ => rfl) ?_
          exact sy_retb mj_d_134_104 rfl ⟨by omega, by omega⟩ ⟨th18, eh18, rfl, by omega, by omega⟩
        · skip
          rw [if_pos (Decidable.not_not.mp c13)]
          replace c13 := Decidable.not_not.mp c13
          refine sy_st (S' := (mj_m_134, 79, [(0, .ref 234)], [sy_i 0], h11)) mj_d_134_78 (fun _ _ => rfl) ?_
          exact sy_retb mj_d_134_79 rfl ⟨by omega, by omega⟩ ⟨th11, eh11, rfl, by omega, by omega⟩
      · skip
        rw [if_pos (Decidable.not_not.mp c8)]
        replace c8 := Decidable.not_not.mp c8
        refine sy_st (S' := (mj_m_134, 60, [(0, .ref 234)], [sy_i (-1), sy_i (sy_rd h 234 19), .ref 239], h1)) mj_d_134_59 (fun _ _ => rfl) ?_
        refine sy_st (S' := (mj_m_134, 67, [(0, .ref 234)], [sy_i (-1), sy_i (sy_rd h 234 19), .ref 239], h1)) mj_d_134_60 (fun _ _ => rfl) ?_
        refine sg_iasQ (v := (-1)) mj_d_134_67 (by omega) (by omega) th1 ⟨by omega, by omega, by omega⟩ ?_
        intro h19 th19 eh19
        rw [eh1] at eh19
        refine sy_st (S' := (mj_m_134, 69, [(0, .ref 234)], [.ref 234], h19)) mj_d_134_68 (fun _ _ => rfl) ?_
        refine sy_st (S' := (mj_m_134, 70, [(0, .ref 234)], [sy_i 0, .ref 234], h19)) mj_d_134_69 (fun _ _ => rfl) ?_
        refine sy_bip mj_d_134_70 (by decide) ?_
        refine sy_cv (M' := mj_m_133) (vs := [.ref 234, sy_i 0, sy_i 7]) (rest := []) mj_d_134_72 rfl rfl rfl rfl th19 rfl rfl ⟨by decide, ⟨Nat.le_of_ble_eq_true rfl, Nat.le_of_ble_eq_true rfl, Nat.le_of_ble_eq_true rfl, Nat.le_of_ble_eq_true rfl, Nat.le_of_ble_eq_true rfl⟩⟩ (dt_R_takesNumber (a1 := 0) (a2 := 7) th19 (by omega) (by omega) (by omega) (by omega)) ?_
        rintro _ h20 ⟨th20, eh20, rfl, b21, b21t⟩
        rw [eh19] at eh20 b21 b21t ⊢
        show sy_wp (mj_m_134, 75, [(0, .ref 234)], [sy_i ((dc_R_takesNumber (sg_up (dc_R_takesNumber (sy_rd h) 0 9).1 239 ((sy_rd h 234 19).toNat) (-1)) 0 7).2)], h20) _
        have nx2 := rt_numX th19 eh19 0 7
        refine sy_ifc mj_d_134_75 rfl ⟨by omega, by omega⟩ (fun (c22 : ¬ (((dc_R_takesNumber (sg_up (dc_R_takesNumber (sy_rd h) 0 9).1 239 ((sy_rd h 234 19).toNat) (-1)) 0 7).2) = 0)) => ?_) (fun (c22 : ¬ ¬ (((dc_R_takesNumber (sg_up (dc_R_takesNumber (sy_rd h) 0 9).1 239 ((sy_rd h 234 19).toNat) (-1)) 0 7).2) = 0)) => ?_)
        · skip
          rw [if_neg c22]
          refine sy_st (S' := (mj_m_134, 81, [(0, .ref 234)], [.ref 234], h20)) mj_d_134_80 (fun _ _ => rfl) ?_
          refine sy_gr2 (b := 240) mj_d_134_81 rfl rfl (by decide) rfl rfl th20 ?_
          refine sy_st (S' := (mj_m_134, 85, [(0, .ref 234)], [.ref 234, .ref 240], h20)) mj_d_134_84 (fun _ _ => rfl) ?_
          refine sy_gf mj_d_134_85 rfl rfl (by decide) rfl th20 ?_
          intro x23 ex23 bx23 tx23
          replace ex23 : x23 = sy_rd h20 234 19 := ex23
          rw [eh20, dr_R_takesNumber _ _ _ 234 19 rfl, sg_na (by decide), dr_R_takesNumber _ _ _ 234 19 rfl] at ex23
          subst ex23
          refine sy_st (S' := (mj_m_134, 89, [(0, .ref 234)], [.ref 234, sy_i (sy_rd h 234 19), .ref 240], h20)) mj_d_134_88 (fun _ _ => rfl) ?_
          refine sy_gf mj_d_134_89 rfl rfl (by decide) rfl th20 ?_
          intro x24 ex24 bx24 tx24
          replace ex24 : x24 = sy_rd h20 234 13 := ex24
          rw [eh20] at ex24
          subst ex24
          refine sg_ias (v := ((dc_R_takesNumber (sg_up (dc_R_takesNumber (sy_rd h) 0 9).1 239 ((sy_rd h 234 19).toNat) (-1)) 0 7).1 234 13)) mj_d_134_92 rfl (by decide) (by omega) (by omega) (ab_el_1 rfl _) th20 (by omega) (by omega) ⟨by omega, by omega⟩ ?_
          intro h25 th25 eh25
          rw [eh20] at eh25
          refine sy_st (S' := (mj_m_134, 94, [(0, .ref 234)], [.ref 234], h25)) mj_d_134_93 (fun _ _ => rfl) ?_
          refine sy_st (S' := (mj_m_134, 95, [(0, .ref 234)], [.ref 234, .ref 234], h25)) mj_d_134_94 (fun _ _ => rfl) ?_
          refine sy_gf mj_d_134_95 rfl rfl (by decide) rfl th25 ?_
          intro x26 ex26 bx26 tx26
          replace ex26 : x26 = sy_rd h25 234 19 := ex26
          rw [eh25, sg_na (by decide), dr_R_takesNumber _ _ _ 234 19 rfl, sg_na (by decide), dr_R_takesNumber _ _ _ 234 19 rfl] at ex26
          subst ex26
          refine sy_st (S' := (mj_m_134, 99, [(0, .ref 234)], [sy_i 1, sy_i (sy_rd h 234 19), .ref 234], h25)) mj_d_134_98 (fun _ _ => rfl) ?_
          refine sy_add mj_d_134_99 ?_
          refine sg_pf (z := ((sy_rd h 234 19) + 1)) mj_d_134_100 rfl rfl (by decide) (Or.inl rfl) rfl th25 (by omega) (by omega) ⟨by omega, by omega⟩ ?_
          intro h27 th27 eh27
          rw [eh25] at eh27
          refine sy_st (S' := (mj_m_134, 104, [(0, .ref 234)], [sy_i 1], h27)) mj_d_134_103 (fun _ _ => rfl) ?_
          exact sy_retb mj_d_134_104 rfl ⟨by omega, by omega⟩ ⟨th27, eh27, rfl, by omega, by omega⟩
        · skip
          rw [if_pos (Decidable.not_not.mp c22)]
          replace c22 := Decidable.not_not.mp c22
          refine sy_st (S' := (mj_m_134, 79, [(0, .ref 234)], [sy_i 0], h20)) mj_d_134_78 (fun _ _ => rfl) ?_
          exact sy_retb mj_d_134_79 rfl ⟨by omega, by omega⟩ ⟨th20, eh20, rfl, by omega, by omega⟩
    · skip
      rw [if_neg c5]
      refine sy_st (S' := (mj_m_134, 22, [(0, .ref 234)], [.ref 234], h1)) mj_d_134_21 (fun _ _ => rfl) ?_
      refine sy_gf mj_d_134_22 rfl rfl (by decide) rfl th1 ?_
      intro x28 ex28 bx28 tx28
      replace ex28 : x28 = sy_rd h1 234 13 := ex28
      rw [eh1] at ex28
      subst ex28
      refine sy_st (S' := (mj_m_134, 26, [(0, .ref 234)], [.ref 234, sy_i ((dc_R_takesNumber (sy_rd h) 0 9).1 234 13)], h1)) mj_d_134_25 (fun _ _ => rfl) ?_
      refine sy_gf mj_d_134_26 rfl rfl (by decide) rfl th1 ?_
      intro x29 ex29 bx29 tx29
      replace ex29 : x29 = sy_rd h1 234 19 := ex29
      rw [eh1, dr_R_takesNumber _ _ _ 234 19 rfl] at ex29
      subst ex29
      refine sy_icm mj_d_134_29 rfl ⟨by omega, by omega⟩ ⟨by omega, by omega⟩ (fun (c30 : ((dc_R_takesNumber (sy_rd h) 0 9).1 234 13) < (sy_rd h 234 19)) => ?_) (fun (c30 : ¬ (((dc_R_takesNumber (sy_rd h) 0 9).1 234 13) < (sy_rd h 234 19))) => ?_)
      · skip
        rw [if_pos c30]
        refine sy_st (S' := (mj_m_134, 43, [(0, .ref 234)], [.ref 234], h1)) mj_d_134_42 (fun _ _ => rfl) ?_
        refine sy_gr2 (b := 239) mj_d_134_43 rfl rfl (by decide) rfl rfl th1 ?_
        refine sy_st (S' := (mj_m_134, 47, [(0, .ref 234)], [.ref 234, .ref 239], h1)) mj_d_134_46 (fun _ _ => rfl) ?_
        refine sy_gf mj_d_134_47 rfl rfl (by decide) rfl th1 ?_
        intro x31 ex31 bx31 tx31
        replace ex31 : x31 = sy_rd h1 234 19 := ex31
        rw [eh1, dr_R_takesNumber _ _ _ 234 19 rfl] at ex31
        subst ex31
        refine sy_st (S' := (mj_m_134, 51, [(0, .ref 234)], [.ref 234, sy_i (sy_rd h 234 19), .ref 239], h1)) mj_d_134_50 (fun _ _ => rfl) ?_
        refine sy_gf mj_d_134_51 rfl rfl (by decide) rfl th1 ?_
        intro x32 ex32 bx32 tx32
        replace ex32 : x32 = sy_rd h1 234 13 := ex32
        rw [eh1] at ex32
        subst ex32
        refine sy_bip mj_d_134_54 (by decide) ?_
        refine sy_icm mj_d_134_56 rfl ⟨by omega, by omega⟩ ⟨by omega, by omega⟩ (fun (c33 : ¬ (((dc_R_takesNumber (sy_rd h) 0 9).1 234 13) = 9)) => ?_) (fun (c33 : ¬ ¬ (((dc_R_takesNumber (sy_rd h) 0 9).1 234 13) = 9)) => ?_)
        · skip
          rw [if_neg c33]
          refine sy_st (S' := (mj_m_134, 64, [(0, .ref 234)], [.ref 234, sy_i (sy_rd h 234 19), .ref 239], h1)) mj_d_134_63 (fun _ _ => rfl) ?_
          refine sy_gf mj_d_134_64 rfl rfl (by decide) rfl th1 ?_
          intro x34 ex34 bx34 tx34
          replace ex34 : x34 = sy_rd h1 234 13 := ex34
          rw [eh1] at ex34
          subst ex34
          refine sg_iasQ (v := ((dc_R_takesNumber (sy_rd h) 0 9).1 234 13)) mj_d_134_67 (by omega) (by omega) th1 ⟨by omega, by omega, by omega⟩ ?_
          intro h35 th35 eh35
          rw [eh1] at eh35
          refine sy_st (S' := (mj_m_134, 69, [(0, .ref 234)], [.ref 234], h35)) mj_d_134_68 (fun _ _ => rfl) ?_
          refine sy_st (S' := (mj_m_134, 70, [(0, .ref 234)], [sy_i 0, .ref 234], h35)) mj_d_134_69 (fun _ _ => rfl) ?_
          refine sy_bip mj_d_134_70 (by decide) ?_
          refine sy_cv (M' := mj_m_133) (vs := [.ref 234, sy_i 0, sy_i 7]) (rest := []) mj_d_134_72 rfl rfl rfl rfl th35 rfl rfl ⟨by decide, ⟨Nat.le_of_ble_eq_true rfl, Nat.le_of_ble_eq_true rfl, Nat.le_of_ble_eq_true rfl, Nat.le_of_ble_eq_true rfl, Nat.le_of_ble_eq_true rfl⟩⟩ (dt_R_takesNumber (a1 := 0) (a2 := 7) th35 (by omega) (by omega) (by omega) (by omega)) ?_
          rintro _ h36 ⟨th36, eh36, rfl, b37, b37t⟩
          rw [eh35] at eh36 b37 b37t ⊢
          show sy_wp (mj_m_134, 75, [(0, .ref 234)], [sy_i ((dc_R_takesNumber (sg_up (dc_R_takesNumber (sy_rd h) 0 9).1 239 ((sy_rd h 234 19).toNat) ((dc_R_takesNumber (sy_rd h) 0 9).1 234 13)) 0 7).2)], h36) _
          have nx2 := rt_numX th35 eh35 0 7
          refine sy_ifc mj_d_134_75 rfl ⟨by omega, by omega⟩ (fun (c38 : ¬ (((dc_R_takesNumber (sg_up (dc_R_takesNumber (sy_rd h) 0 9).1 239 ((sy_rd h 234 19).toNat) ((dc_R_takesNumber (sy_rd h) 0 9).1 234 13)) 0 7).2) = 0)) => ?_) (fun (c38 : ¬ ¬ (((dc_R_takesNumber (sg_up (dc_R_takesNumber (sy_rd h) 0 9).1 239 ((sy_rd h 234 19).toNat) ((dc_R_takesNumber (sy_rd h) 0 9).1 234 13)) 0 7).2) = 0)) => ?_)
          · skip
            rw [if_neg c38]
            refine sy_st (S' := (mj_m_134, 81, [(0, .ref 234)], [.ref 234], h36)) mj_d_134_80 (fun _ _ => rfl) ?_
            refine sy_gr2 (b := 240) mj_d_134_81 rfl rfl (by decide) rfl rfl th36 ?_
            refine sy_st (S' := (mj_m_134, 85, [(0, .ref 234)], [.ref 234, .ref 240], h36)) mj_d_134_84 (fun _ _ => rfl) ?_
            refine sy_gf mj_d_134_85 rfl rfl (by decide) rfl th36 ?_
            intro x39 ex39 bx39 tx39
            replace ex39 : x39 = sy_rd h36 234 19 := ex39
            rw [eh36, dr_R_takesNumber _ _ _ 234 19 rfl, sg_na (by decide), dr_R_takesNumber _ _ _ 234 19 rfl] at ex39
            subst ex39
            refine sy_st (S' := (mj_m_134, 89, [(0, .ref 234)], [.ref 234, sy_i (sy_rd h 234 19), .ref 240], h36)) mj_d_134_88 (fun _ _ => rfl) ?_
            refine sy_gf mj_d_134_89 rfl rfl (by decide) rfl th36 ?_
            intro x40 ex40 bx40 tx40
            replace ex40 : x40 = sy_rd h36 234 13 := ex40
            rw [eh36] at ex40
            subst ex40
            refine sg_ias (v := ((dc_R_takesNumber (sg_up (dc_R_takesNumber (sy_rd h) 0 9).1 239 ((sy_rd h 234 19).toNat) ((dc_R_takesNumber (sy_rd h) 0 9).1 234 13)) 0 7).1 234 13)) mj_d_134_92 rfl (by decide) (by omega) (by omega) (ab_el_1 rfl _) th36 (by omega) (by omega) ⟨by omega, by omega⟩ ?_
            intro h41 th41 eh41
            rw [eh36] at eh41
            refine sy_st (S' := (mj_m_134, 94, [(0, .ref 234)], [.ref 234], h41)) mj_d_134_93 (fun _ _ => rfl) ?_
            refine sy_st (S' := (mj_m_134, 95, [(0, .ref 234)], [.ref 234, .ref 234], h41)) mj_d_134_94 (fun _ _ => rfl) ?_
            refine sy_gf mj_d_134_95 rfl rfl (by decide) rfl th41 ?_
            intro x42 ex42 bx42 tx42
            replace ex42 : x42 = sy_rd h41 234 19 := ex42
            rw [eh41, sg_na (by decide), dr_R_takesNumber _ _ _ 234 19 rfl, sg_na (by decide), dr_R_takesNumber _ _ _ 234 19 rfl] at ex42
            subst ex42
            refine sy_st (S' := (mj_m_134, 99, [(0, .ref 234)], [sy_i 1, sy_i (sy_rd h 234 19), .ref 234], h41)) mj_d_134_98 (fun _ _ => rfl) ?_
            refine sy_add mj_d_134_99 ?_
            refine sg_pf (z := ((sy_rd h 234 19) + 1)) mj_d_134_100 rfl rfl (by decide) (Or.inl rfl) rfl th41 (by omega) (by omega) ⟨by omega, by omega⟩ ?_
            intro h43 th43 eh43
            rw [eh41] at eh43
            refine sy_st (S' := (mj_m_134, 104, [(0, .ref 234)], [sy_i 1], h43)) mj_d_134_103 (fun _ _ => rfl) ?_
            exact sy_retb mj_d_134_104 rfl ⟨by omega, by omega⟩ ⟨th43, eh43, rfl, by omega, by omega⟩
          · skip
            rw [if_pos (Decidable.not_not.mp c38)]
            replace c38 := Decidable.not_not.mp c38
            refine sy_st (S' := (mj_m_134, 79, [(0, .ref 234)], [sy_i 0], h36)) mj_d_134_78 (fun _ _ => rfl) ?_
            exact sy_retb mj_d_134_79 rfl ⟨by omega, by omega⟩ ⟨th36, eh36, rfl, by omega, by omega⟩
        · skip
          rw [if_pos (Decidable.not_not.mp c33)]
          replace c33 := Decidable.not_not.mp c33
          refine sy_st (S' := (mj_m_134, 60, [(0, .ref 234)], [sy_i (-1), sy_i (sy_rd h 234 19), .ref 239], h1)) mj_d_134_59 (fun _ _ => rfl) ?_
          refine sy_st (S' := (mj_m_134, 67, [(0, .ref 234)], [sy_i (-1), sy_i (sy_rd h 234 19), .ref 239], h1)) mj_d_134_60 (fun _ _ => rfl) ?_
          refine sg_iasQ (v := (-1)) mj_d_134_67 (by omega) (by omega) th1 ⟨by omega, by omega, by omega⟩ ?_
          intro h44 th44 eh44
          rw [eh1] at eh44
          refine sy_st (S' := (mj_m_134, 69, [(0, .ref 234)], [.ref 234], h44)) mj_d_134_68 (fun _ _ => rfl) ?_
          refine sy_st (S' := (mj_m_134, 70, [(0, .ref 234)], [sy_i 0, .ref 234], h44)) mj_d_134_69 (fun _ _ => rfl) ?_
          refine sy_bip mj_d_134_70 (by decide) ?_
          refine sy_cv (M' := mj_m_133) (vs := [.ref 234, sy_i 0, sy_i 7]) (rest := []) mj_d_134_72 rfl rfl rfl rfl th44 rfl rfl ⟨by decide, ⟨Nat.le_of_ble_eq_true rfl, Nat.le_of_ble_eq_true rfl, Nat.le_of_ble_eq_true rfl, Nat.le_of_ble_eq_true rfl, Nat.le_of_ble_eq_true rfl⟩⟩ (dt_R_takesNumber (a1 := 0) (a2 := 7) th44 (by omega) (by omega) (by omega) (by omega)) ?_
          rintro _ h45 ⟨th45, eh45, rfl, b46, b46t⟩
          rw [eh44] at eh45 b46 b46t ⊢
          show sy_wp (mj_m_134, 75, [(0, .ref 234)], [sy_i ((dc_R_takesNumber (sg_up (dc_R_takesNumber (sy_rd h) 0 9).1 239 ((sy_rd h 234 19).toNat) (-1)) 0 7).2)], h45) _
          have nx2 := rt_numX th44 eh44 0 7
          refine sy_ifc mj_d_134_75 rfl ⟨by omega, by omega⟩ (fun (c47 : ¬ (((dc_R_takesNumber (sg_up (dc_R_takesNumber (sy_rd h) 0 9).1 239 ((sy_rd h 234 19).toNat) (-1)) 0 7).2) = 0)) => ?_) (fun (c47 : ¬ ¬ (((dc_R_takesNumber (sg_up (dc_R_takesNumber (sy_rd h) 0 9).1 239 ((sy_rd h 234 19).toNat) (-1)) 0 7).2) = 0)) => ?_)
          · skip
            rw [if_neg c47]
            refine sy_st (S' := (mj_m_134, 81, [(0, .ref 234)], [.ref 234], h45)) mj_d_134_80 (fun _ _ => rfl) ?_
            refine sy_gr2 (b := 240) mj_d_134_81 rfl rfl (by decide) rfl rfl th45 ?_
            refine sy_st (S' := (mj_m_134, 85, [(0, .ref 234)], [.ref 234, .ref 240], h45)) mj_d_134_84 (fun _ _ => rfl) ?_
            refine sy_gf mj_d_134_85 rfl rfl (by decide) rfl th45 ?_
            intro x48 ex48 bx48 tx48
            replace ex48 : x48 = sy_rd h45 234 19 := ex48
            rw [eh45, dr_R_takesNumber _ _ _ 234 19 rfl, sg_na (by decide), dr_R_takesNumber _ _ _ 234 19 rfl] at ex48
            subst ex48
            refine sy_st (S' := (mj_m_134, 89, [(0, .ref 234)], [.ref 234, sy_i (sy_rd h 234 19), .ref 240], h45)) mj_d_134_88 (fun _ _ => rfl) ?_
            refine sy_gf mj_d_134_89 rfl rfl (by decide) rfl th45 ?_
            intro x49 ex49 bx49 tx49
            replace ex49 : x49 = sy_rd h45 234 13 := ex49
            rw [eh45] at ex49
            subst ex49
            refine sg_ias (v := ((dc_R_takesNumber (sg_up (dc_R_takesNumber (sy_rd h) 0 9).1 239 ((sy_rd h 234 19).toNat) (-1)) 0 7).1 234 13)) mj_d_134_92 rfl (by decide) (by omega) (by omega) (ab_el_1 rfl _) th45 (by omega) (by omega) ⟨by omega, by omega⟩ ?_
            intro h50 th50 eh50
            rw [eh45] at eh50
            refine sy_st (S' := (mj_m_134, 94, [(0, .ref 234)], [.ref 234], h50)) mj_d_134_93 (fun _ _ => rfl) ?_
            refine sy_st (S' := (mj_m_134, 95, [(0, .ref 234)], [.ref 234, .ref 234], h50)) mj_d_134_94 (fun _ _ => rfl) ?_
            refine sy_gf mj_d_134_95 rfl rfl (by decide) rfl th50 ?_
            intro x51 ex51 bx51 tx51
            replace ex51 : x51 = sy_rd h50 234 19 := ex51
            rw [eh50, sg_na (by decide), dr_R_takesNumber _ _ _ 234 19 rfl, sg_na (by decide), dr_R_takesNumber _ _ _ 234 19 rfl] at ex51
            subst ex51
            refine sy_st (S' := (mj_m_134, 99, [(0, .ref 234)], [sy_i 1, sy_i (sy_rd h 234 19), .ref 234], h50)) mj_d_134_98 (fun _ _ => rfl) ?_
            refine sy_add mj_d_134_99 ?_
            refine sg_pf (z := ((sy_rd h 234 19) + 1)) mj_d_134_100 rfl rfl (by decide) (Or.inl rfl) rfl th50 (by omega) (by omega) ⟨by omega, by omega⟩ ?_
            intro h52 th52 eh52
            rw [eh50] at eh52
            refine sy_st (S' := (mj_m_134, 104, [(0, .ref 234)], [sy_i 1], h52)) mj_d_134_103 (fun _ _ => rfl) ?_
            exact sy_retb mj_d_134_104 rfl ⟨by omega, by omega⟩ ⟨th52, eh52, rfl, by omega, by omega⟩
          · skip
            rw [if_pos (Decidable.not_not.mp c47)]
            replace c47 := Decidable.not_not.mp c47
            refine sy_st (S' := (mj_m_134, 79, [(0, .ref 234)], [sy_i 0], h45)) mj_d_134_78 (fun _ _ => rfl) ?_
            exact sy_retb mj_d_134_79 rfl ⟨by omega, by omega⟩ ⟨th45, eh45, rfl, by omega, by omega⟩
      · skip
        rw [if_neg c30]
        refine sy_st (S' := (mj_m_134, 33, [(0, .ref 234)], [.ref 234], h1)) mj_d_134_32 (fun _ _ => rfl) ?_
        refine sy_st (S' := (mj_m_134, 34, [(0, .ref 234)], [sy_i 2, .ref 234], h1)) mj_d_134_33 (fun _ _ => rfl) ?_
        refine sy_st (S' := (mj_m_134, 35, [(0, .ref 234)], [.ref 234, sy_i 2, .ref 234], h1)) mj_d_134_34 (fun _ _ => rfl) ?_
        refine sy_gf mj_d_134_35 rfl rfl (by decide) rfl th1 ?_
        intro x53 ex53 bx53 tx53
        replace ex53 : x53 = sy_rd h1 234 12 := ex53
        rw [eh1] at ex53
        subst ex53
        refine sy_cv (M' := mj_m_131) (vs := [.ref 234, sy_i 2, sy_i ((dc_R_takesNumber (sy_rd h) 0 9).1 234 12)]) (rest := []) mj_d_134_38 rfl rfl rfl rfl th1 rfl rfl ⟨by decide, ⟨Nat.le_of_ble_eq_true rfl, Nat.le_of_ble_eq_true rfl, Nat.le_of_ble_eq_true rfl, Nat.le_of_ble_eq_true rfl, Nat.le_of_ble_eq_true rfl⟩⟩ (dt_R_fails (a1 := 2) (a2 := ((dc_R_takesNumber (sy_rd h) 0 9).1 234 12)) th1 (by omega) (by omega) (by omega) (by omega)) ?_
        rintro _ h54 ⟨th54, eh54, rfl, b55, b55t⟩
        rw [eh1] at eh54 b55 b55t ⊢
        show sy_wp (mj_m_134, 41, [(0, .ref 234)], [sy_i ((dc_R_fails (dc_R_takesNumber (sy_rd h) 0 9).1 2 ((dc_R_takesNumber (sy_rd h) 0 9).1 234 12)).2)], h54) _
        exact sy_retb mj_d_134_41 rfl ⟨by omega, by omega⟩ ⟨th54, eh54, rfl, by omega, by omega⟩
  · skip
    rw [if_pos (Decidable.not_not.mp c3)]
    replace c3 := Decidable.not_not.mp c3
    refine sy_st (S' := (mj_m_134, 11, [(0, .ref 234)], [sy_i 0], h1)) mj_d_134_10 (fun _ _ => rfl) ?_
    exact sy_retb mj_d_134_11 rfl ⟨by omega, by omega⟩ ⟨th1, eh1, rfl, by omega, by omega⟩
def dc_R_takesSweep (s : sg_S) : sg_S × Int := (if ((dc_R_takesNumber s 0 ((sy_shl 1 (s 234 19)) - 1)).2) = 0 then ((dc_R_takesNumber s 0 ((sy_shl 1 (s 234 19)) - 1)).1, 0) else (if ((dc_R_takesNumber (sg_up (dc_R_takesNumber s 0 ((sy_shl 1 (s 234 19)) - 1)).1 241 ((s 234 22).toNat) ((dc_R_takesNumber s 0 ((sy_shl 1 (s 234 19)) - 1)).1 234 13)) 0 99).2) = 0 then ((dc_R_takesNumber (sg_up (dc_R_takesNumber s 0 ((sy_shl 1 (s 234 19)) - 1)).1 241 ((s 234 22).toNat) ((dc_R_takesNumber s 0 ((sy_shl 1 (s 234 19)) - 1)).1 234 13)) 0 99).1, 0) else ((sg_up (sg_up (dc_R_takesNumber (sg_up (dc_R_takesNumber s 0 ((sy_shl 1 (s 234 19)) - 1)).1 241 ((s 234 22).toNat) ((dc_R_takesNumber s 0 ((sy_shl 1 (s 234 19)) - 1)).1 234 13)) 0 99).1 242 ((s 234 22).toNat) ((dc_R_takesNumber (sg_up (dc_R_takesNumber s 0 ((sy_shl 1 (s 234 19)) - 1)).1 241 ((s 234 22).toNat) ((dc_R_takesNumber s 0 ((sy_shl 1 (s 234 19)) - 1)).1 234 13)) 0 99).1 234 13)) 234 22 ((s 234 22) + 1)), 1)))
def dw_R_takesSweep (a k : Nat) : Bool := dw_R_takesNumber a k || (a == 241) || (a == 242) || (a == 234 && k == 22)
theorem dr_R_takesSweep (s : sg_S) (a k : Nat) (h : dw_R_takesSweep a k = false) : (dc_R_takesSweep s).1 a k = s a k := by
  have h0 := h
  unfold dw_R_takesSweep at h
  simp only [Bool.or_eq_false_iff] at h
  obtain ⟨⟨⟨h1, h2⟩, h3⟩, h4⟩ := h
  unfold dc_R_takesSweep
  (repeat' split) <;> simp only [(fun s x0 x1 => dr_R_takesNumber s x0 x1 a k h1), (fun s l z => sg_upa (s := s) (l := l) (z := z) (k := k) h2), (fun s l z => sg_upa (s := s) (l := l) (z := z) (k := k) h3), (fun s z => sg_upf (s := s) (z := z) h4)]
set_option maxRecDepth 100000 in
theorem dt_R_takesSweep {h : mj_H} (hH : sy_H h) (i0 : (sy_rd h 234 22) < 5) : sy_wp (mj_m_135, 0, [(0, .ref 234)], [], h) (dq2 (0) (1) (dc_R_takesSweep (sy_rd h))) := by
  unfold dc_R_takesSweep
  have n234_22 := hH.bd (a := 234) (k := 22) rfl (by decide) rfl
  have n234_19 := hH.bd (a := 234) (k := 19) rfl (by decide) rfl
  refine sy_st (S' := (mj_m_135, 1, [(0, .ref 234)], [.ref 234], h)) mj_d_135_0 (fun _ _ => rfl) ?_
  refine sy_st (S' := (mj_m_135, 2, [(0, .ref 234)], [sy_i 0, .ref 234], h)) mj_d_135_1 (fun _ _ => rfl) ?_
  refine sy_st (S' := (mj_m_135, 3, [(0, .ref 234)], [sy_i 1, sy_i 0, .ref 234], h)) mj_d_135_2 (fun _ _ => rfl) ?_
  refine sy_st (S' := (mj_m_135, 4, [(0, .ref 234)], [.ref 234, sy_i 1, sy_i 0, .ref 234], h)) mj_d_135_3 (fun _ _ => rfl) ?_
  refine sy_gf mj_d_135_4 rfl rfl (by decide) rfl hH ?_
  intro x1 ex1 bx1 tx1
  replace ex1 : x1 = sy_rd h 234 19 := ex1
  subst ex1
  refine sy_ishl mj_d_135_7 ?_
  have q2 := sg_shl10 (sy_rd h 234 19) (by omega) (by omega)
  refine sy_st (S' := (mj_m_135, 9, [(0, .ref 234)], [sy_i 1, sy_i (sy_shl 1 (sy_rd h 234 19)), sy_i 0, .ref 234], h)) mj_d_135_8 (fun _ _ => rfl) ?_
  refine sy_sub mj_d_135_9 ?_
  refine sy_cv (M' := mj_m_133) (vs := [.ref 234, sy_i 0, sy_i ((sy_shl 1 (sy_rd h 234 19)) - 1)]) (rest := []) mj_d_135_10 rfl rfl rfl rfl hH rfl rfl ⟨by decide, ⟨Nat.le_of_ble_eq_true rfl, Nat.le_of_ble_eq_true rfl, Nat.le_of_ble_eq_true rfl, Nat.le_of_ble_eq_true rfl, Nat.le_of_ble_eq_true rfl⟩⟩ (dt_R_takesNumber (a1 := 0) (a2 := ((sy_shl 1 (sy_rd h 234 19)) - 1)) hH (by omega) (by omega) (by omega) (by omega)) ?_
  rintro _ h3 ⟨th3, eh3, rfl, b4, b4t⟩
  show sy_wp (mj_m_135, 13, [(0, .ref 234)], [sy_i ((dc_R_takesNumber (sy_rd h) 0 ((sy_shl 1 (sy_rd h 234 19)) - 1)).2)], h3) _
  have nx1 := rt_numX hH rfl 0 (sy_shl 1 (sy_rd h 234 19) - 1)
  refine sy_ifc mj_d_135_13 rfl ⟨by omega, by omega⟩ (fun (c5 : ¬ (((dc_R_takesNumber (sy_rd h) 0 ((sy_shl 1 (sy_rd h 234 19)) - 1)).2) = 0)) => ?_) (fun (c5 : ¬ ¬ (((dc_R_takesNumber (sy_rd h) 0 ((sy_shl 1 (sy_rd h 234 19)) - 1)).2) = 0)) => ?_)
  · skip
    rw [if_neg c5]
    refine sy_st (S' := (mj_m_135, 19, [(0, .ref 234)], [.ref 234], h3)) mj_d_135_18 (fun _ _ => rfl) ?_
    refine sy_gr2 (b := 241) mj_d_135_19 rfl rfl (by decide) rfl rfl th3 ?_
    refine sy_st (S' := (mj_m_135, 23, [(0, .ref 234)], [.ref 234, .ref 241], h3)) mj_d_135_22 (fun _ _ => rfl) ?_
    refine sy_gf mj_d_135_23 rfl rfl (by decide) rfl th3 ?_
    intro x6 ex6 bx6 tx6
    replace ex6 : x6 = sy_rd h3 234 22 := ex6
    rw [eh3, dr_R_takesNumber _ _ _ 234 22 rfl] at ex6
    subst ex6
    refine sy_st (S' := (mj_m_135, 27, [(0, .ref 234)], [.ref 234, sy_i (sy_rd h 234 22), .ref 241], h3)) mj_d_135_26 (fun _ _ => rfl) ?_
    refine sy_gf mj_d_135_27 rfl rfl (by decide) rfl th3 ?_
    intro x7 ex7 bx7 tx7
    replace ex7 : x7 = sy_rd h3 234 13 := ex7
    rw [eh3] at ex7
    subst ex7
    refine sg_ias (v := ((dc_R_takesNumber (sy_rd h) 0 ((sy_shl 1 (sy_rd h 234 19)) - 1)).1 234 13)) mj_d_135_30 rfl (by decide) (by omega) (by omega) (ab_el_1 rfl _) th3 (by omega) (by omega) ⟨by omega, by omega⟩ ?_
    intro h8 th8 eh8
    rw [eh3] at eh8
    refine sy_st (S' := (mj_m_135, 32, [(0, .ref 234)], [.ref 234], h8)) mj_d_135_31 (fun _ _ => rfl) ?_
    refine sy_st (S' := (mj_m_135, 33, [(0, .ref 234)], [sy_i 0, .ref 234], h8)) mj_d_135_32 (fun _ _ => rfl) ?_
    refine sy_bip mj_d_135_33 (by decide) ?_
    refine sy_cv (M' := mj_m_133) (vs := [.ref 234, sy_i 0, sy_i 99]) (rest := []) mj_d_135_35 rfl rfl rfl rfl th8 rfl rfl ⟨by decide, ⟨Nat.le_of_ble_eq_true rfl, Nat.le_of_ble_eq_true rfl, Nat.le_of_ble_eq_true rfl, Nat.le_of_ble_eq_true rfl, Nat.le_of_ble_eq_true rfl⟩⟩ (dt_R_takesNumber (a1 := 0) (a2 := 99) th8 (by omega) (by omega) (by omega) (by omega)) ?_
    rintro _ h9 ⟨th9, eh9, rfl, b10, b10t⟩
    rw [eh8] at eh9 b10 b10t ⊢
    show sy_wp (mj_m_135, 38, [(0, .ref 234)], [sy_i ((dc_R_takesNumber (sg_up (dc_R_takesNumber (sy_rd h) 0 ((sy_shl 1 (sy_rd h 234 19)) - 1)).1 241 ((sy_rd h 234 22).toNat) ((dc_R_takesNumber (sy_rd h) 0 ((sy_shl 1 (sy_rd h 234 19)) - 1)).1 234 13)) 0 99).2)], h9) _
    have nx2 := rt_numX th8 eh8 0 99
    refine sy_ifc mj_d_135_38 rfl ⟨by omega, by omega⟩ (fun (c11 : ¬ (((dc_R_takesNumber (sg_up (dc_R_takesNumber (sy_rd h) 0 ((sy_shl 1 (sy_rd h 234 19)) - 1)).1 241 ((sy_rd h 234 22).toNat) ((dc_R_takesNumber (sy_rd h) 0 ((sy_shl 1 (sy_rd h 234 19)) - 1)).1 234 13)) 0 99).2) = 0)) => ?_) (fun (c11 : ¬ ¬ (((dc_R_takesNumber (sg_up (dc_R_takesNumber (sy_rd h) 0 ((sy_shl 1 (sy_rd h 234 19)) - 1)).1 241 ((sy_rd h 234 22).toNat) ((dc_R_takesNumber (sy_rd h) 0 ((sy_shl 1 (sy_rd h 234 19)) - 1)).1 234 13)) 0 99).2) = 0)) => ?_)
    · skip
      rw [if_neg c11]
      refine sy_st (S' := (mj_m_135, 44, [(0, .ref 234)], [.ref 234], h9)) mj_d_135_43 (fun _ _ => rfl) ?_
      refine sy_gr2 (b := 242) mj_d_135_44 rfl rfl (by decide) rfl rfl th9 ?_
      refine sy_st (S' := (mj_m_135, 48, [(0, .ref 234)], [.ref 234, .ref 242], h9)) mj_d_135_47 (fun _ _ => rfl) ?_
      refine sy_gf mj_d_135_48 rfl rfl (by decide) rfl th9 ?_
      intro x12 ex12 bx12 tx12
      replace ex12 : x12 = sy_rd h9 234 22 := ex12
      rw [eh9, dr_R_takesNumber _ _ _ 234 22 rfl, sg_na (by decide), dr_R_takesNumber _ _ _ 234 22 rfl] at ex12
      subst ex12
      refine sy_st (S' := (mj_m_135, 52, [(0, .ref 234)], [.ref 234, sy_i (sy_rd h 234 22), .ref 242], h9)) mj_d_135_51 (fun _ _ => rfl) ?_
      refine sy_gf mj_d_135_52 rfl rfl (by decide) rfl th9 ?_
      intro x13 ex13 bx13 tx13
      replace ex13 : x13 = sy_rd h9 234 13 := ex13
      rw [eh9] at ex13
      subst ex13
      refine sg_ias (v := ((dc_R_takesNumber (sg_up (dc_R_takesNumber (sy_rd h) 0 ((sy_shl 1 (sy_rd h 234 19)) - 1)).1 241 ((sy_rd h 234 22).toNat) ((dc_R_takesNumber (sy_rd h) 0 ((sy_shl 1 (sy_rd h 234 19)) - 1)).1 234 13)) 0 99).1 234 13)) mj_d_135_55 rfl (by decide) (by omega) (by omega) (ab_el_1 rfl _) th9 (by omega) (by omega) ⟨by omega, by omega⟩ ?_
      intro h14 th14 eh14
      rw [eh9] at eh14
      refine sy_st (S' := (mj_m_135, 57, [(0, .ref 234)], [.ref 234], h14)) mj_d_135_56 (fun _ _ => rfl) ?_
      refine sy_st (S' := (mj_m_135, 58, [(0, .ref 234)], [.ref 234, .ref 234], h14)) mj_d_135_57 (fun _ _ => rfl) ?_
      refine sy_gf mj_d_135_58 rfl rfl (by decide) rfl th14 ?_
      intro x15 ex15 bx15 tx15
      replace ex15 : x15 = sy_rd h14 234 22 := ex15
      rw [eh14, sg_na (by decide), dr_R_takesNumber _ _ _ 234 22 rfl, sg_na (by decide), dr_R_takesNumber _ _ _ 234 22 rfl] at ex15
      subst ex15
      refine sy_st (S' := (mj_m_135, 62, [(0, .ref 234)], [sy_i 1, sy_i (sy_rd h 234 22), .ref 234], h14)) mj_d_135_61 (fun _ _ => rfl) ?_
      refine sy_add mj_d_135_62 ?_
      refine sg_pf (z := ((sy_rd h 234 22) + 1)) mj_d_135_63 rfl rfl (by decide) (Or.inl rfl) rfl th14 (by omega) (by omega) ⟨by omega, by omega⟩ ?_
      intro h16 th16 eh16
      rw [eh14] at eh16
      refine sy_st (S' := (mj_m_135, 67, [(0, .ref 234)], [sy_i 1], h16)) mj_d_135_66 (fun _ _ => rfl) ?_
      exact sy_retb mj_d_135_67 rfl ⟨by omega, by omega⟩ ⟨th16, eh16, rfl, by omega, by omega⟩
    · skip
      rw [if_pos (Decidable.not_not.mp c11)]
      replace c11 := Decidable.not_not.mp c11
      refine sy_st (S' := (mj_m_135, 42, [(0, .ref 234)], [sy_i 0], h9)) mj_d_135_41 (fun _ _ => rfl) ?_
      exact sy_retb mj_d_135_42 rfl ⟨by omega, by omega⟩ ⟨th9, eh9, rfl, by omega, by omega⟩
  · skip
    rw [if_pos (Decidable.not_not.mp c5)]
    replace c5 := Decidable.not_not.mp c5
    refine sy_st (S' := (mj_m_135, 17, [(0, .ref 234)], [sy_i 0], h3)) mj_d_135_16 (fun _ _ => rfl) ?_
    exact sy_retb mj_d_135_17 rfl ⟨by omega, by omega⟩ ⟨th3, eh3, rfl, by omega, by omega⟩
def dc_R_takesClause (s : sg_S) : sg_S × Int := (if ((dc_R_here s).2) = 99 then (if ((dc_R_here s).2) = 99 then (if (s 234 16) = 0 then (if ((dc_R_here s).2) = 99 then (if ((dc_R_takesCity (sg_up (dc_R_here s).1 234 11 (((dc_R_here s).1 234 11) + 1))).2) = 0 then ((dc_R_takesCity (sg_up (dc_R_here s).1 234 11 (((dc_R_here s).1 234 11) + 1))).1, 0) else (if ((dc_R_takes (dc_R_takesCity (sg_up (dc_R_here s).1 234 11 (((dc_R_here s).1 234 11) + 1))).1 59).2) = 0 then ((dc_R_takes (dc_R_takesCity (sg_up (dc_R_here s).1 234 11 (((dc_R_here s).1 234 11) + 1))).1 59).1, 0) else ((dc_R_takes (dc_R_takesCity (sg_up (dc_R_here s).1 234 11 (((dc_R_here s).1 234 11) + 1))).1 59).1, 1))) else (if ((dc_R_here s).2) = 104 then (if ((dc_R_takesHouse (sg_up (dc_R_here s).1 234 11 (((dc_R_here s).1 234 11) + 1))).2) = 0 then ((dc_R_takesHouse (sg_up (dc_R_here s).1 234 11 (((dc_R_here s).1 234 11) + 1))).1, 0) else (if ((dc_R_takes (dc_R_takesHouse (sg_up (dc_R_here s).1 234 11 (((dc_R_here s).1 234 11) + 1))).1 59).2) = 0 then ((dc_R_takes (dc_R_takesHouse (sg_up (dc_R_here s).1 234 11 (((dc_R_here s).1 234 11) + 1))).1 59).1, 0) else ((dc_R_takes (dc_R_takesHouse (sg_up (dc_R_here s).1 234 11 (((dc_R_here s).1 234 11) + 1))).1 59).1, 1))) else (if ((dc_R_takesSweep (sg_up (dc_R_here s).1 234 11 (((dc_R_here s).1 234 11) + 1))).2) = 0 then ((dc_R_takesSweep (sg_up (dc_R_here s).1 234 11 (((dc_R_here s).1 234 11) + 1))).1, 0) else (if ((dc_R_takes (dc_R_takesSweep (sg_up (dc_R_here s).1 234 11 (((dc_R_here s).1 234 11) + 1))).1 59).2) = 0 then ((dc_R_takes (dc_R_takesSweep (sg_up (dc_R_here s).1 234 11 (((dc_R_here s).1 234 11) + 1))).1 59).1, 0) else ((dc_R_takes (dc_R_takesSweep (sg_up (dc_R_here s).1 234 11 (((dc_R_here s).1 234 11) + 1))).1 59).1, 1))))) else ((dc_R_fails (dc_R_here s).1 3 ((dc_R_here s).1 234 12)).1, (dc_R_fails (dc_R_here s).1 3 ((dc_R_here s).1 234 12)).2)) else (if ((dc_R_here s).2) = 104 then (if (s 234 19) = 9 then ((dc_R_fails (dc_R_here s).1 3 ((dc_R_here s).1 234 12)).1, (dc_R_fails (dc_R_here s).1 3 ((dc_R_here s).1 234 12)).2) else (if ((dc_R_here s).2) = 99 then (if ((dc_R_takesCity (sg_up (dc_R_here s).1 234 11 (((dc_R_here s).1 234 11) + 1))).2) = 0 then ((dc_R_takesCity (sg_up (dc_R_here s).1 234 11 (((dc_R_here s).1 234 11) + 1))).1, 0) else (if ((dc_R_takes (dc_R_takesCity (sg_up (dc_R_here s).1 234 11 (((dc_R_here s).1 234 11) + 1))).1 59).2) = 0 then ((dc_R_takes (dc_R_takesCity (sg_up (dc_R_here s).1 234 11 (((dc_R_here s).1 234 11) + 1))).1 59).1, 0) else ((dc_R_takes (dc_R_takesCity (sg_up (dc_R_here s).1 234 11 (((dc_R_here s).1 234 11) + 1))).1 59).1, 1))) else (if ((dc_R_here s).2) = 104 then (if ((dc_R_takesHouse (sg_up (dc_R_here s).1 234 11 (((dc_R_here s).1 234 11) + 1))).2) = 0 then ((dc_R_takesHouse (sg_up (dc_R_here s).1 234 11 (((dc_R_here s).1 234 11) + 1))).1, 0) else (if ((dc_R_takes (dc_R_takesHouse (sg_up (dc_R_here s).1 234 11 (((dc_R_here s).1 234 11) + 1))).1 59).2) = 0 then ((dc_R_takes (dc_R_takesHouse (sg_up (dc_R_here s).1 234 11 (((dc_R_here s).1 234 11) + 1))).1 59).1, 0) else ((dc_R_takes (dc_R_takesHouse (sg_up (dc_R_here s).1 234 11 (((dc_R_here s).1 234 11) + 1))).1 59).1, 1))) else (if ((dc_R_takesSweep (sg_up (dc_R_here s).1 234 11 (((dc_R_here s).1 234 11) + 1))).2) = 0 then ((dc_R_takesSweep (sg_up (dc_R_here s).1 234 11 (((dc_R_here s).1 234 11) + 1))).1, 0) else (if ((dc_R_takes (dc_R_takesSweep (sg_up (dc_R_here s).1 234 11 (((dc_R_here s).1 234 11) + 1))).1 59).2) = 0 then ((dc_R_takes (dc_R_takesSweep (sg_up (dc_R_here s).1 234 11 (((dc_R_here s).1 234 11) + 1))).1 59).1, 0) else ((dc_R_takes (dc_R_takesSweep (sg_up (dc_R_here s).1 234 11 (((dc_R_here s).1 234 11) + 1))).1 59).1, 1)))))) else (if (s 234 22) = 5 then ((dc_R_fails (dc_R_here s).1 3 ((dc_R_here s).1 234 12)).1, (dc_R_fails (dc_R_here s).1 3 ((dc_R_here s).1 234 12)).2) else (if ((dc_R_here s).2) = 99 then (if ((dc_R_takesCity (sg_up (dc_R_here s).1 234 11 (((dc_R_here s).1 234 11) + 1))).2) = 0 then ((dc_R_takesCity (sg_up (dc_R_here s).1 234 11 (((dc_R_here s).1 234 11) + 1))).1, 0) else (if ((dc_R_takes (dc_R_takesCity (sg_up (dc_R_here s).1 234 11 (((dc_R_here s).1 234 11) + 1))).1 59).2) = 0 then ((dc_R_takes (dc_R_takesCity (sg_up (dc_R_here s).1 234 11 (((dc_R_here s).1 234 11) + 1))).1 59).1, 0) else ((dc_R_takes (dc_R_takesCity (sg_up (dc_R_here s).1 234 11 (((dc_R_here s).1 234 11) + 1))).1 59).1, 1))) else (if ((dc_R_here s).2) = 104 then (if ((dc_R_takesHouse (sg_up (dc_R_here s).1 234 11 (((dc_R_here s).1 234 11) + 1))).2) = 0 then ((dc_R_takesHouse (sg_up (dc_R_here s).1 234 11 (((dc_R_here s).1 234 11) + 1))).1, 0) else (if ((dc_R_takes (dc_R_takesHouse (sg_up (dc_R_here s).1 234 11 (((dc_R_here s).1 234 11) + 1))).1 59).2) = 0 then ((dc_R_takes (dc_R_takesHouse (sg_up (dc_R_here s).1 234 11 (((dc_R_here s).1 234 11) + 1))).1 59).1, 0) else ((dc_R_takes (dc_R_takesHouse (sg_up (dc_R_here s).1 234 11 (((dc_R_here s).1 234 11) + 1))).1 59).1, 1))) else (if ((dc_R_takesSweep (sg_up (dc_R_here s).1 234 11 (((dc_R_here s).1 234 11) + 1))).2) = 0 then ((dc_R_takesSweep (sg_up (dc_R_here s).1 234 11 (((dc_R_here s).1 234 11) + 1))).1, 0) else (if ((dc_R_takes (dc_R_takesSweep (sg_up (dc_R_here s).1 234 11 (((dc_R_here s).1 234 11) + 1))).1 59).2) = 0 then ((dc_R_takes (dc_R_takesSweep (sg_up (dc_R_here s).1 234 11 (((dc_R_here s).1 234 11) + 1))).1 59).1, 0) else ((dc_R_takes (dc_R_takesSweep (sg_up (dc_R_here s).1 234 11 (((dc_R_here s).1 234 11) + 1))).1 59).1, 1)))))))) else (if (s 234 16) = 0 then ((dc_R_fails (dc_R_here s).1 1 ((dc_R_here s).1 234 12)).1, (dc_R_fails (dc_R_here s).1 1 ((dc_R_here s).1 234 12)).2) else (if ((dc_R_here s).2) = 104 then (if ((dc_R_here s).2) = 99 then (if (s 234 16) = 0 then (if ((dc_R_here s).2) = 99 then (if ((dc_R_takesCity (sg_up (dc_R_here s).1 234 11 (((dc_R_here s).1 234 11) + 1))).2) = 0 then ((dc_R_takesCity (sg_up (dc_R_here s).1 234 11 (((dc_R_here s).1 234 11) + 1))).1, 0) else (if ((dc_R_takes (dc_R_takesCity (sg_up (dc_R_here s).1 234 11 (((dc_R_here s).1 234 11) + 1))).1 59).2) = 0 then ((dc_R_takes (dc_R_takesCity (sg_up (dc_R_here s).1 234 11 (((dc_R_here s).1 234 11) + 1))).1 59).1, 0) else ((dc_R_takes (dc_R_takesCity (sg_up (dc_R_here s).1 234 11 (((dc_R_here s).1 234 11) + 1))).1 59).1, 1))) else (if ((dc_R_here s).2) = 104 then (if ((dc_R_takesHouse (sg_up (dc_R_here s).1 234 11 (((dc_R_here s).1 234 11) + 1))).2) = 0 then ((dc_R_takesHouse (sg_up (dc_R_here s).1 234 11 (((dc_R_here s).1 234 11) + 1))).1, 0) else (if ((dc_R_takes (dc_R_takesHouse (sg_up (dc_R_here s).1 234 11 (((dc_R_here s).1 234 11) + 1))).1 59).2) = 0 then ((dc_R_takes (dc_R_takesHouse (sg_up (dc_R_here s).1 234 11 (((dc_R_here s).1 234 11) + 1))).1 59).1, 0) else ((dc_R_takes (dc_R_takesHouse (sg_up (dc_R_here s).1 234 11 (((dc_R_here s).1 234 11) + 1))).1 59).1, 1))) else (if ((dc_R_takesSweep (sg_up (dc_R_here s).1 234 11 (((dc_R_here s).1 234 11) + 1))).2) = 0 then ((dc_R_takesSweep (sg_up (dc_R_here s).1 234 11 (((dc_R_here s).1 234 11) + 1))).1, 0) else (if ((dc_R_takes (dc_R_takesSweep (sg_up (dc_R_here s).1 234 11 (((dc_R_here s).1 234 11) + 1))).1 59).2) = 0 then ((dc_R_takes (dc_R_takesSweep (sg_up (dc_R_here s).1 234 11 (((dc_R_here s).1 234 11) + 1))).1 59).1, 0) else ((dc_R_takes (dc_R_takesSweep (sg_up (dc_R_here s).1 234 11 (((dc_R_here s).1 234 11) + 1))).1 59).1, 1))))) else ((dc_R_fails (dc_R_here s).1 3 ((dc_R_here s).1 234 12)).1, (dc_R_fails (dc_R_here s).1 3 ((dc_R_here s).1 234 12)).2)) else (if ((dc_R_here s).2) = 104 then (if (s 234 19) = 9 then ((dc_R_fails (dc_R_here s).1 3 ((dc_R_here s).1 234 12)).1, (dc_R_fails (dc_R_here s).1 3 ((dc_R_here s).1 234 12)).2) else (if ((dc_R_here s).2) = 99 then (if ((dc_R_takesCity (sg_up (dc_R_here s).1 234 11 (((dc_R_here s).1 234 11) + 1))).2) = 0 then ((dc_R_takesCity (sg_up (dc_R_here s).1 234 11 (((dc_R_here s).1 234 11) + 1))).1, 0) else (if ((dc_R_takes (dc_R_takesCity (sg_up (dc_R_here s).1 234 11 (((dc_R_here s).1 234 11) + 1))).1 59).2) = 0 then ((dc_R_takes (dc_R_takesCity (sg_up (dc_R_here s).1 234 11 (((dc_R_here s).1 234 11) + 1))).1 59).1, 0) else ((dc_R_takes (dc_R_takesCity (sg_up (dc_R_here s).1 234 11 (((dc_R_here s).1 234 11) + 1))).1 59).1, 1))) else (if ((dc_R_here s).2) = 104 then (if ((dc_R_takesHouse (sg_up (dc_R_here s).1 234 11 (((dc_R_here s).1 234 11) + 1))).2) = 0 then ((dc_R_takesHouse (sg_up (dc_R_here s).1 234 11 (((dc_R_here s).1 234 11) + 1))).1, 0) else (if ((dc_R_takes (dc_R_takesHouse (sg_up (dc_R_here s).1 234 11 (((dc_R_here s).1 234 11) + 1))).1 59).2) = 0 then ((dc_R_takes (dc_R_takesHouse (sg_up (dc_R_here s).1 234 11 (((dc_R_here s).1 234 11) + 1))).1 59).1, 0) else ((dc_R_takes (dc_R_takesHouse (sg_up (dc_R_here s).1 234 11 (((dc_R_here s).1 234 11) + 1))).1 59).1, 1))) else (if ((dc_R_takesSweep (sg_up (dc_R_here s).1 234 11 (((dc_R_here s).1 234 11) + 1))).2) = 0 then ((dc_R_takesSweep (sg_up (dc_R_here s).1 234 11 (((dc_R_here s).1 234 11) + 1))).1, 0) else (if ((dc_R_takes (dc_R_takesSweep (sg_up (dc_R_here s).1 234 11 (((dc_R_here s).1 234 11) + 1))).1 59).2) = 0 then ((dc_R_takes (dc_R_takesSweep (sg_up (dc_R_here s).1 234 11 (((dc_R_here s).1 234 11) + 1))).1 59).1, 0) else ((dc_R_takes (dc_R_takesSweep (sg_up (dc_R_here s).1 234 11 (((dc_R_here s).1 234 11) + 1))).1 59).1, 1)))))) else (if (s 234 22) = 5 then ((dc_R_fails (dc_R_here s).1 3 ((dc_R_here s).1 234 12)).1, (dc_R_fails (dc_R_here s).1 3 ((dc_R_here s).1 234 12)).2) else (if ((dc_R_here s).2) = 99 then (if ((dc_R_takesCity (sg_up (dc_R_here s).1 234 11 (((dc_R_here s).1 234 11) + 1))).2) = 0 then ((dc_R_takesCity (sg_up (dc_R_here s).1 234 11 (((dc_R_here s).1 234 11) + 1))).1, 0) else (if ((dc_R_takes (dc_R_takesCity (sg_up (dc_R_here s).1 234 11 (((dc_R_here s).1 234 11) + 1))).1 59).2) = 0 then ((dc_R_takes (dc_R_takesCity (sg_up (dc_R_here s).1 234 11 (((dc_R_here s).1 234 11) + 1))).1 59).1, 0) else ((dc_R_takes (dc_R_takesCity (sg_up (dc_R_here s).1 234 11 (((dc_R_here s).1 234 11) + 1))).1 59).1, 1))) else (if ((dc_R_here s).2) = 104 then (if ((dc_R_takesHouse (sg_up (dc_R_here s).1 234 11 (((dc_R_here s).1 234 11) + 1))).2) = 0 then ((dc_R_takesHouse (sg_up (dc_R_here s).1 234 11 (((dc_R_here s).1 234 11) + 1))).1, 0) else (if ((dc_R_takes (dc_R_takesHouse (sg_up (dc_R_here s).1 234 11 (((dc_R_here s).1 234 11) + 1))).1 59).2) = 0 then ((dc_R_takes (dc_R_takesHouse (sg_up (dc_R_here s).1 234 11 (((dc_R_here s).1 234 11) + 1))).1 59).1, 0) else ((dc_R_takes (dc_R_takesHouse (sg_up (dc_R_here s).1 234 11 (((dc_R_here s).1 234 11) + 1))).1 59).1, 1))) else (if ((dc_R_takesSweep (sg_up (dc_R_here s).1 234 11 (((dc_R_here s).1 234 11) + 1))).2) = 0 then ((dc_R_takesSweep (sg_up (dc_R_here s).1 234 11 (((dc_R_here s).1 234 11) + 1))).1, 0) else (if ((dc_R_takes (dc_R_takesSweep (sg_up (dc_R_here s).1 234 11 (((dc_R_here s).1 234 11) + 1))).1 59).2) = 0 then ((dc_R_takes (dc_R_takesSweep (sg_up (dc_R_here s).1 234 11 (((dc_R_here s).1 234 11) + 1))).1 59).1, 0) else ((dc_R_takes (dc_R_takesSweep (sg_up (dc_R_here s).1 234 11 (((dc_R_here s).1 234 11) + 1))).1 59).1, 1)))))))) else (if ((dc_R_here s).2) = 115 then (if ((dc_R_here s).2) = 99 then (if (s 234 16) = 0 then (if ((dc_R_here s).2) = 99 then (if ((dc_R_takesCity (sg_up (dc_R_here s).1 234 11 (((dc_R_here s).1 234 11) + 1))).2) = 0 then ((dc_R_takesCity (sg_up (dc_R_here s).1 234 11 (((dc_R_here s).1 234 11) + 1))).1, 0) else (if ((dc_R_takes (dc_R_takesCity (sg_up (dc_R_here s).1 234 11 (((dc_R_here s).1 234 11) + 1))).1 59).2) = 0 then ((dc_R_takes (dc_R_takesCity (sg_up (dc_R_here s).1 234 11 (((dc_R_here s).1 234 11) + 1))).1 59).1, 0) else ((dc_R_takes (dc_R_takesCity (sg_up (dc_R_here s).1 234 11 (((dc_R_here s).1 234 11) + 1))).1 59).1, 1))) else (if ((dc_R_here s).2) = 104 then (if ((dc_R_takesHouse (sg_up (dc_R_here s).1 234 11 (((dc_R_here s).1 234 11) + 1))).2) = 0 then ((dc_R_takesHouse (sg_up (dc_R_here s).1 234 11 (((dc_R_here s).1 234 11) + 1))).1, 0) else (if ((dc_R_takes (dc_R_takesHouse (sg_up (dc_R_here s).1 234 11 (((dc_R_here s).1 234 11) + 1))).1 59).2) = 0 then ((dc_R_takes (dc_R_takesHouse (sg_up (dc_R_here s).1 234 11 (((dc_R_here s).1 234 11) + 1))).1 59).1, 0) else ((dc_R_takes (dc_R_takesHouse (sg_up (dc_R_here s).1 234 11 (((dc_R_here s).1 234 11) + 1))).1 59).1, 1))) else (if ((dc_R_takesSweep (sg_up (dc_R_here s).1 234 11 (((dc_R_here s).1 234 11) + 1))).2) = 0 then ((dc_R_takesSweep (sg_up (dc_R_here s).1 234 11 (((dc_R_here s).1 234 11) + 1))).1, 0) else (if ((dc_R_takes (dc_R_takesSweep (sg_up (dc_R_here s).1 234 11 (((dc_R_here s).1 234 11) + 1))).1 59).2) = 0 then ((dc_R_takes (dc_R_takesSweep (sg_up (dc_R_here s).1 234 11 (((dc_R_here s).1 234 11) + 1))).1 59).1, 0) else ((dc_R_takes (dc_R_takesSweep (sg_up (dc_R_here s).1 234 11 (((dc_R_here s).1 234 11) + 1))).1 59).1, 1))))) else ((dc_R_fails (dc_R_here s).1 3 ((dc_R_here s).1 234 12)).1, (dc_R_fails (dc_R_here s).1 3 ((dc_R_here s).1 234 12)).2)) else (if ((dc_R_here s).2) = 104 then (if (s 234 19) = 9 then ((dc_R_fails (dc_R_here s).1 3 ((dc_R_here s).1 234 12)).1, (dc_R_fails (dc_R_here s).1 3 ((dc_R_here s).1 234 12)).2) else (if ((dc_R_here s).2) = 99 then (if ((dc_R_takesCity (sg_up (dc_R_here s).1 234 11 (((dc_R_here s).1 234 11) + 1))).2) = 0 then ((dc_R_takesCity (sg_up (dc_R_here s).1 234 11 (((dc_R_here s).1 234 11) + 1))).1, 0) else (if ((dc_R_takes (dc_R_takesCity (sg_up (dc_R_here s).1 234 11 (((dc_R_here s).1 234 11) + 1))).1 59).2) = 0 then ((dc_R_takes (dc_R_takesCity (sg_up (dc_R_here s).1 234 11 (((dc_R_here s).1 234 11) + 1))).1 59).1, 0) else ((dc_R_takes (dc_R_takesCity (sg_up (dc_R_here s).1 234 11 (((dc_R_here s).1 234 11) + 1))).1 59).1, 1))) else (if ((dc_R_here s).2) = 104 then (if ((dc_R_takesHouse (sg_up (dc_R_here s).1 234 11 (((dc_R_here s).1 234 11) + 1))).2) = 0 then ((dc_R_takesHouse (sg_up (dc_R_here s).1 234 11 (((dc_R_here s).1 234 11) + 1))).1, 0) else (if ((dc_R_takes (dc_R_takesHouse (sg_up (dc_R_here s).1 234 11 (((dc_R_here s).1 234 11) + 1))).1 59).2) = 0 then ((dc_R_takes (dc_R_takesHouse (sg_up (dc_R_here s).1 234 11 (((dc_R_here s).1 234 11) + 1))).1 59).1, 0) else ((dc_R_takes (dc_R_takesHouse (sg_up (dc_R_here s).1 234 11 (((dc_R_here s).1 234 11) + 1))).1 59).1, 1))) else (if ((dc_R_takesSweep (sg_up (dc_R_here s).1 234 11 (((dc_R_here s).1 234 11) + 1))).2) = 0 then ((dc_R_takesSweep (sg_up (dc_R_here s).1 234 11 (((dc_R_here s).1 234 11) + 1))).1, 0) else (if ((dc_R_takes (dc_R_takesSweep (sg_up (dc_R_here s).1 234 11 (((dc_R_here s).1 234 11) + 1))).1 59).2) = 0 then ((dc_R_takes (dc_R_takesSweep (sg_up (dc_R_here s).1 234 11 (((dc_R_here s).1 234 11) + 1))).1 59).1, 0) else ((dc_R_takes (dc_R_takesSweep (sg_up (dc_R_here s).1 234 11 (((dc_R_here s).1 234 11) + 1))).1 59).1, 1)))))) else (if (s 234 22) = 5 then ((dc_R_fails (dc_R_here s).1 3 ((dc_R_here s).1 234 12)).1, (dc_R_fails (dc_R_here s).1 3 ((dc_R_here s).1 234 12)).2) else (if ((dc_R_here s).2) = 99 then (if ((dc_R_takesCity (sg_up (dc_R_here s).1 234 11 (((dc_R_here s).1 234 11) + 1))).2) = 0 then ((dc_R_takesCity (sg_up (dc_R_here s).1 234 11 (((dc_R_here s).1 234 11) + 1))).1, 0) else (if ((dc_R_takes (dc_R_takesCity (sg_up (dc_R_here s).1 234 11 (((dc_R_here s).1 234 11) + 1))).1 59).2) = 0 then ((dc_R_takes (dc_R_takesCity (sg_up (dc_R_here s).1 234 11 (((dc_R_here s).1 234 11) + 1))).1 59).1, 0) else ((dc_R_takes (dc_R_takesCity (sg_up (dc_R_here s).1 234 11 (((dc_R_here s).1 234 11) + 1))).1 59).1, 1))) else (if ((dc_R_here s).2) = 104 then (if ((dc_R_takesHouse (sg_up (dc_R_here s).1 234 11 (((dc_R_here s).1 234 11) + 1))).2) = 0 then ((dc_R_takesHouse (sg_up (dc_R_here s).1 234 11 (((dc_R_here s).1 234 11) + 1))).1, 0) else (if ((dc_R_takes (dc_R_takesHouse (sg_up (dc_R_here s).1 234 11 (((dc_R_here s).1 234 11) + 1))).1 59).2) = 0 then ((dc_R_takes (dc_R_takesHouse (sg_up (dc_R_here s).1 234 11 (((dc_R_here s).1 234 11) + 1))).1 59).1, 0) else ((dc_R_takes (dc_R_takesHouse (sg_up (dc_R_here s).1 234 11 (((dc_R_here s).1 234 11) + 1))).1 59).1, 1))) else (if ((dc_R_takesSweep (sg_up (dc_R_here s).1 234 11 (((dc_R_here s).1 234 11) + 1))).2) = 0 then ((dc_R_takesSweep (sg_up (dc_R_here s).1 234 11 (((dc_R_here s).1 234 11) + 1))).1, 0) else (if ((dc_R_takes (dc_R_takesSweep (sg_up (dc_R_here s).1 234 11 (((dc_R_here s).1 234 11) + 1))).1 59).2) = 0 then ((dc_R_takes (dc_R_takesSweep (sg_up (dc_R_here s).1 234 11 (((dc_R_here s).1 234 11) + 1))).1 59).1, 0) else ((dc_R_takes (dc_R_takesSweep (sg_up (dc_R_here s).1 234 11 (((dc_R_here s).1 234 11) + 1))).1 59).1, 1)))))))) else ((dc_R_fails (dc_R_here s).1 1 ((dc_R_here s).1 234 12)).1, (dc_R_fails (dc_R_here s).1 1 ((dc_R_here s).1 234 12)).2)))))
def dw_R_takesClause (a k : Nat) : Bool := dw_R_here a k || (a == 234 && k == 11) || dw_R_takesSweep a k || dw_R_takes a k || dw_R_takesHouse a k || dw_R_takesCity a k || dw_R_fails a k
theorem dr_R_takesClause (s : sg_S) (a k : Nat) (h : dw_R_takesClause a k = false) : (dc_R_takesClause s).1 a k = s a k := by
  have h0 := h
  unfold dw_R_takesClause at h
  simp only [Bool.or_eq_false_iff] at h
  obtain ⟨⟨⟨⟨⟨⟨h1, h2⟩, h3⟩, h4⟩, h5⟩, h6⟩, h7⟩ := h
  unfold dc_R_takesClause
  simp only [sg_ite1, ite_self, (fun s => dr_R_here s a k h1), (fun s z => sg_upf (s := s) (z := z) h2), (fun s => dr_R_takesSweep s a k h3), (fun s x0 => dr_R_takes s x0 a k h4), (fun s => dr_R_takesHouse s a k h5), (fun s => dr_R_takesCity s a k h6), (fun s x0 x1 => dr_R_fails s x0 x1 a k h7)]
set_option maxRecDepth 100000 in
theorem dt_R_takesClause {h : mj_H} (hH : sy_H h) : sy_wp (mj_m_130, 0, [(0, .ref 234)], [], h) (dq2 (0) (1) (dc_R_takesClause (sy_rd h))) := by
  unfold dc_R_takesClause
  have n234_19 := hH.bd (a := 234) (k := 19) rfl (by decide) rfl
  have n234_22 := hH.bd (a := 234) (k := 22) rfl (by decide) rfl
  refine sy_st (S' := (mj_m_130, 1, [(0, .ref 234)], [.ref 234], h)) mj_d_130_0 (fun _ _ => rfl) ?_
  refine sy_cv (M' := mj_m_128) (vs := [.ref 234]) (rest := []) mj_d_130_1 rfl rfl rfl rfl hH rfl rfl ⟨by decide, ⟨Nat.le_of_ble_eq_true rfl, Nat.le_of_ble_eq_true rfl, Nat.le_of_ble_eq_true rfl, Nat.le_of_ble_eq_true rfl, Nat.le_of_ble_eq_true rfl⟩⟩ (dt_R_here hH) ?_
  rintro _ h1 ⟨th1, eh1, rfl, b2, b2t⟩
  show sy_wp (mj_m_130, 4, [(0, .ref 234)], [sy_i ((dc_R_here (sy_rd h)).2)], h1) _
  have hx := rt_hereX hH rfl
  refine sy_st (S' := (mj_m_130, 5, [(1, sy_i ((dc_R_here (sy_rd h)).2)), (0, .ref 234)], [], h1)) mj_d_130_4 (fun _ _ => rfl) ?_
  refine sy_st (S' := (mj_m_130, 6, [(1, sy_i ((dc_R_here (sy_rd h)).2)), (0, .ref 234)], [sy_i ((dc_R_here (sy_rd h)).2)], h1)) mj_d_130_5 (fun _ _ => rfl) ?_
  refine sy_bip mj_d_130_6 (by decide) ?_
  refine sy_icm mj_d_130_8 rfl ⟨by omega, by omega⟩ ⟨by omega, by omega⟩ (fun (c3 : ((dc_R_here (sy_rd h)).2) = 99) => ?_) (fun (c3 : ¬ (((dc_R_here (sy_rd h)).2) = 99)) => ?_)
  · skip
    rw [if_pos c3]
    refine sy_st (S' := (mj_m_130, 31, [(1, sy_i ((dc_R_here (sy_rd h)).2)), (0, .ref 234)], [sy_i 1], h1)) mj_d_130_30 (fun _ _ => rfl) ?_
    refine sy_st (S' := (mj_m_130, 35, [(1, sy_i ((dc_R_here (sy_rd h)).2)), (0, .ref 234)], [sy_i 1], h1)) mj_d_130_31 (fun _ _ => rfl) ?_
    refine sy_st (S' := (mj_m_130, 36, [(2, sy_i 1), (1, sy_i ((dc_R_here (sy_rd h)).2)), (0, .ref 234)], [], h1)) mj_d_130_35 (fun _ _ => rfl) ?_
    refine sy_st (S' := (mj_m_130, 37, [(2, sy_i 1), (1, sy_i ((dc_R_here (sy_rd h)).2)), (0, .ref 234)], [sy_i 1], h1)) mj_d_130_36 (fun _ _ => rfl) ?_
    refine sy_ifc mj_d_130_37 rfl ⟨by omega, by omega⟩ (fun _ => ?_) (fun (q : ¬ (¬ (1 : Int) = 0)) => absurd (by decide) q)
    refine sy_st (S' := (mj_m_130, 51, [(2, sy_i 1), (1, sy_i ((dc_R_here (sy_rd h)).2)), (0, .ref 234)], [sy_i ((dc_R_here (sy_rd h)).2)], h1)) mj_d_130_50 (fun _ _ => rfl) ?_
    refine sy_bip mj_d_130_51 (by decide) ?_
    refine sy_icm mj_d_130_53 rfl ⟨by omega, by omega⟩ ⟨by omega, by omega⟩ (fun (c4 : ¬ (((dc_R_here (sy_rd h)).2) = 99)) => ?_) (fun (c4 : ¬ ¬ (((dc_R_here (sy_rd h)).2) = 99)) => ?_)
    · skip
      rw [if_neg c4]
      refine sy_st (S' := (mj_m_130, 64, [(2, sy_i 1), (1, sy_i ((dc_R_here (sy_rd h)).2)), (0, .ref 234)], [sy_i ((dc_R_here (sy_rd h)).2)], h1)) mj_d_130_63 (fun _ _ => rfl) ?_
      refine sy_bip mj_d_130_64 (by decide) ?_
      refine sy_icm mj_d_130_66 rfl ⟨by omega, by omega⟩ ⟨by omega, by omega⟩ (fun (c5 : ¬ (((dc_R_here (sy_rd h)).2) = 104)) => ?_) (fun (c5 : ¬ ¬ (((dc_R_here (sy_rd h)).2) = 104)) => ?_)
      · skip
        rw [if_neg c5]
        refine sy_st (S' := (mj_m_130, 87, [(2, sy_i 1), (1, sy_i ((dc_R_here (sy_rd h)).2)), (0, .ref 234)], [.ref 234], h1)) mj_d_130_86 (fun _ _ => rfl) ?_
        refine sy_gf mj_d_130_87 rfl rfl (by decide) rfl th1 ?_
        intro x6 ex6 bx6 tx6
        replace ex6 : x6 = sy_rd h1 234 22 := ex6
        rw [eh1, dr_R_here _ 234 22 rfl] at ex6
        subst ex6
        refine sy_st (S' := (mj_m_130, 91, [(2, sy_i 1), (1, sy_i ((dc_R_here (sy_rd h)).2)), (0, .ref 234)], [sy_i 5, sy_i (sy_rd h 234 22)], h1)) mj_d_130_90 (fun _ _ => rfl) ?_
        refine sy_icm mj_d_130_91 rfl ⟨by omega, by omega⟩ ⟨by omega, by omega⟩ (fun (c7 : ¬ ((sy_rd h 234 22) = 5)) => ?_) (fun (c7 : ¬ ¬ ((sy_rd h 234 22) = 5)) => ?_)
        · skip
          rw [if_neg c7]
          refine sy_st (S' := (mj_m_130, 99, [(2, sy_i 1), (1, sy_i ((dc_R_here (sy_rd h)).2)), (0, .ref 234)], [sy_i 0], h1)) mj_d_130_98 (fun _ _ => rfl) ?_
          refine sy_st (S' := (mj_m_130, 100, [(3, sy_i 0), (2, sy_i 1), (1, sy_i ((dc_R_here (sy_rd h)).2)), (0, .ref 234)], [], h1)) mj_d_130_99 (fun _ _ => rfl) ?_
          refine sy_st (S' := (mj_m_130, 101, [(3, sy_i 0), (2, sy_i 1), (1, sy_i ((dc_R_here (sy_rd h)).2)), (0, .ref 234)], [sy_i 0], h1)) mj_d_130_100 (fun _ _ => rfl) ?_
          refine sy_ifc mj_d_130_101 rfl ⟨by omega, by omega⟩ (fun _ => ?_) (fun (q : ¬ ((0 : Int) = 0)) => absurd (by decide) q)
          refine sy_st (S' := (mj_m_130, 115, [(3, sy_i 0), (2, sy_i 1), (1, sy_i ((dc_R_here (sy_rd h)).2)), (0, .ref 234)], [.ref 234], h1)) mj_d_130_114 (fun _ _ => rfl) ?_
          refine sy_st (S' := (mj_m_130, 116, [(3, sy_i 0), (2, sy_i 1), (1, sy_i ((dc_R_here (sy_rd h)).2)), (0, .ref 234)], [.ref 234, .ref 234], h1)) mj_d_130_115 (fun _ _ => rfl) ?_
          refine sy_gf mj_d_130_116 rfl rfl (by decide) rfl th1 ?_
          intro x8 ex8 bx8 tx8
          replace ex8 : x8 = sy_rd h1 234 11 := ex8
          rw [eh1] at ex8
          subst ex8
          refine sy_st (S' := (mj_m_130, 120, [(3, sy_i 0), (2, sy_i 1), (1, sy_i ((dc_R_here (sy_rd h)).2)), (0, .ref 234)], [sy_i 1, sy_i ((dc_R_here (sy_rd h)).1 234 11), .ref 234], h1)) mj_d_130_119 (fun _ _ => rfl) ?_
          refine sy_add mj_d_130_120 ?_
          refine sg_pf (z := (((dc_R_here (sy_rd h)).1 234 11) + 1)) mj_d_130_121 rfl rfl (by decide) (Or.inl rfl) rfl th1 (by omega) (by omega) ⟨by omega, by omega⟩ ?_
          intro h9 th9 eh9
          rw [eh1] at eh9
          refine sy_st (S' := (mj_m_130, 125, [(3, sy_i 0), (2, sy_i 1), (1, sy_i ((dc_R_here (sy_rd h)).2)), (0, .ref 234)], [sy_i ((dc_R_here (sy_rd h)).2)], h9)) mj_d_130_124 (fun _ _ => rfl) ?_
          refine sy_bip mj_d_130_125 (by decide) ?_
          refine sy_icm mj_d_130_127 rfl ⟨by omega, by omega⟩ ⟨by omega, by omega⟩ (fun (c10 : ¬ (((dc_R_here (sy_rd h)).2) = 99)) => ?_) (fun (c10 : ¬ ¬ (((dc_R_here (sy_rd h)).2) = 99)) => ?_)
          · skip
            rw [if_neg c10]
            refine sy_st (S' := (mj_m_130, 138, [(3, sy_i 0), (2, sy_i 1), (1, sy_i ((dc_R_here (sy_rd h)).2)), (0, .ref 234)], [sy_i ((dc_R_here (sy_rd h)).2)], h9)) mj_d_130_137 (fun _ _ => rfl) ?_
            refine sy_bip mj_d_130_138 (by decide) ?_
            refine sy_icm mj_d_130_140 rfl ⟨by omega, by omega⟩ ⟨by omega, by omega⟩ (fun (c11 : ¬ (((dc_R_here (sy_rd h)).2) = 104)) => ?_) (fun (c11 : ¬ ¬ (((dc_R_here (sy_rd h)).2) = 104)) => ?_)
            · skip
              rw [if_neg c11]
              refine sy_st (S' := (mj_m_130, 151, [(3, sy_i 0), (2, sy_i 1), (1, sy_i ((dc_R_here (sy_rd h)).2)), (0, .ref 234)], [.ref 234], h9)) mj_d_130_150 (fun _ _ => rfl) ?_
              refine sy_cv (M' := mj_m_135) (vs := [.ref 234]) (rest := []) mj_d_130_151 rfl rfl rfl rfl th9 rfl rfl ⟨by decide, ⟨Nat.le_of_ble_eq_true rfl, Nat.le_of_ble_eq_true rfl, Nat.le_of_ble_eq_true rfl, Nat.le_of_ble_eq_true rfl, Nat.le_of_ble_eq_true rfl⟩⟩ (dt_R_takesSweep th9 (by rw [eh9, sg_nk (by decide), dr_R_here _ 234 22 rfl]; omega)) ?_
              rintro _ h12 ⟨th12, eh12, rfl, b13, b13t⟩
              rw [eh9] at eh12 b13 b13t ⊢
              show sy_wp (mj_m_130, 154, [(3, sy_i 0), (2, sy_i 1), (1, sy_i ((dc_R_here (sy_rd h)).2)), (0, .ref 234)], [sy_i ((dc_R_takesSweep (sg_up (dc_R_here (sy_rd h)).1 234 11 (((dc_R_here (sy_rd h)).1 234 11) + 1))).2)], h12) _
              refine sy_st (S' := (mj_m_130, 156, [(4, sy_i ((dc_R_takesSweep (sg_up (dc_R_here (sy_rd h)).1 234 11 (((dc_R_here (sy_rd h)).1 234 11) + 1))).2)), (3, sy_i 0), (2, sy_i 1), (1, sy_i ((dc_R_here (sy_rd h)).2)), (0, .ref 234)], [], h12)) mj_d_130_154 (fun _ _ => rfl) ?_
              refine sy_st (S' := (mj_m_130, 158, [(4, sy_i ((dc_R_takesSweep (sg_up (dc_R_here (sy_rd h)).1 234 11 (((dc_R_here (sy_rd h)).1 234 11) + 1))).2)), (3, sy_i 0), (2, sy_i 1), (1, sy_i ((dc_R_here (sy_rd h)).2)), (0, .ref 234)], [sy_i ((dc_R_takesSweep (sg_up (dc_R_here (sy_rd h)).1 234 11 (((dc_R_here (sy_rd h)).1 234 11) + 1))).2)], h12)) mj_d_130_156 (fun _ _ => rfl) ?_
              refine sy_ifc mj_d_130_158 rfl ⟨by omega, by omega⟩ (fun (c14 : ((dc_R_takesSweep (sg_up (dc_R_here (sy_rd h)).1 234 11 (((dc_R_here (sy_rd h)).1 234 11) + 1))).2) = 0) => ?_) (fun (c14 : ¬ (((dc_R_takesSweep (sg_up (dc_R_here (sy_rd h)).1 234 11 (((dc_R_here (sy_rd h)).1 234 11) + 1))).2) = 0)) => ?_)
              · skip
                rw [if_pos c14]
                refine sy_st (S' := (mj_m_130, 175, [(4, sy_i ((dc_R_takesSweep (sg_up (dc_R_here (sy_rd h)).1 234 11 (((dc_R_here (sy_rd h)).1 234 11) + 1))).2)), (3, sy_i 0), (2, sy_i 1), (1, sy_i ((dc_R_here (sy_rd h)).2)), (0, .ref 234)], [sy_i 0], h12)) mj_d_130_174 (fun _ _ => rfl) ?_
                exact sy_retb mj_d_130_175 rfl ⟨by omega, by omega⟩ ⟨th12, eh12, rfl, by omega, by omega⟩
              · skip
                rw [if_neg c14]
                refine sy_st (S' := (mj_m_130, 162, [(4, sy_i ((dc_R_takesSweep (sg_up (dc_R_here (sy_rd h)).1 234 11 (((dc_R_here (sy_rd h)).1 234 11) + 1))).2)), (3, sy_i 0), (2, sy_i 1), (1, sy_i ((dc_R_here (sy_rd h)).2)), (0, .ref 234)], [.ref 234], h12)) mj_d_130_161 (fun _ _ => rfl) ?_
                refine sy_bip mj_d_130_162 (by decide) ?_
                refine sy_cv (M' := mj_m_136) (vs := [.ref 234, sy_i 59]) (rest := []) mj_d_130_164 rfl rfl rfl rfl th12 rfl rfl ⟨by decide, ⟨Nat.le_of_ble_eq_true rfl, Nat.le_of_ble_eq_true rfl, Nat.le_of_ble_eq_true rfl, Nat.le_of_ble_eq_true rfl, Nat.le_of_ble_eq_true rfl⟩⟩ (dt_R_takes (a1 := 59) th12 (by omega) (by omega)) ?_
                rintro _ h15 ⟨th15, eh15, rfl, b16, b16t⟩
                rw [eh12] at eh15 b16 b16t ⊢
                show sy_wp (mj_m_130, 167, [(4, sy_i ((dc_R_takesSweep (sg_up (dc_R_here (sy_rd h)).1 234 11 (((dc_R_here (sy_rd h)).1 234 11) + 1))).2)), (3, sy_i 0), (2, sy_i 1), (1, sy_i ((dc_R_here (sy_rd h)).2)), (0, .ref 234)], [sy_i ((dc_R_takes (dc_R_takesSweep (sg_up (dc_R_here (sy_rd h)).1 234 11 (((dc_R_here (sy_rd h)).1 234 11) + 1))).1 59).2)], h15) _
                refine sy_ifc mj_d_130_167 rfl ⟨by omega, by omega⟩ (fun (c17 : ((dc_R_takes (dc_R_takesSweep (sg_up (dc_R_here (sy_rd h)).1 234 11 (((dc_R_here (sy_rd h)).1 234 11) + 1))).1 59).2) = 0) => ?_) (fun (c17 : ¬ (((dc_R_takes (dc_R_takesSweep (sg_up (dc_R_here (sy_rd h)).1 234 11 (((dc_R_here (sy_rd h)).1 234 11) + 1))).1 59).2) = 0)) => ?_)
                · skip
                  rw [if_pos c17]
                  refine sy_st (S' := (mj_m_130, 175, [(4, sy_i ((dc_R_takesSweep (sg_up (dc_R_here (sy_rd h)).1 234 11 (((dc_R_here (sy_rd h)).1 234 11) + 1))).2)), (3, sy_i 0), (2, sy_i 1), (1, sy_i ((dc_R_here (sy_rd h)).2)), (0, .ref 234)], [sy_i 0], h15)) mj_d_130_174 (fun _ _ => rfl) ?_
                  exact sy_retb mj_d_130_175 rfl ⟨by omega, by omega⟩ ⟨th15, eh15, rfl, by omega, by omega⟩
                · skip
                  rw [if_neg c17]
                  refine sy_st (S' := (mj_m_130, 171, [(4, sy_i ((dc_R_takesSweep (sg_up (dc_R_here (sy_rd h)).1 234 11 (((dc_R_here (sy_rd h)).1 234 11) + 1))).2)), (3, sy_i 0), (2, sy_i 1), (1, sy_i ((dc_R_here (sy_rd h)).2)), (0, .ref 234)], [sy_i 1], h15)) mj_d_130_170 (fun _ _ => rfl) ?_
                  refine sy_st (S' := (mj_m_130, 175, [(4, sy_i ((dc_R_takesSweep (sg_up (dc_R_here (sy_rd h)).1 234 11 (((dc_R_here (sy_rd h)).1 234 11) + 1))).2)), (3, sy_i 0), (2, sy_i 1), (1, sy_i ((dc_R_here (sy_rd h)).2)), (0, .ref 234)], [sy_i 1], h15)) mj_d_130_171 (fun _ _ => rfl) ?_
                  exact sy_retb mj_d_130_175 rfl ⟨by omega, by omega⟩ ⟨th15, eh15, rfl, by omega, by omega⟩
            · skip
              rw [if_pos (Decidable.not_not.mp c11)]
              replace c11 := Decidable.not_not.mp c11
              refine sy_st (S' := (mj_m_130, 144, [(3, sy_i 0), (2, sy_i 1), (1, sy_i ((dc_R_here (sy_rd h)).2)), (0, .ref 234)], [.ref 234], h9)) mj_d_130_143 (fun _ _ => rfl) ?_
              refine sy_cv (M' := mj_m_134) (vs := [.ref 234]) (rest := []) mj_d_130_144 rfl rfl rfl rfl th9 rfl rfl ⟨by decide, ⟨Nat.le_of_ble_eq_true rfl, Nat.le_of_ble_eq_true rfl, Nat.le_of_ble_eq_true rfl, Nat.le_of_ble_eq_true rfl, Nat.le_of_ble_eq_true rfl⟩⟩ (dt_R_takesHouse th9 (by rw [eh9, sg_nk (by decide), dr_R_here _ 234 19 rfl]; omega)) ?_
              rintro _ h18 ⟨th18, eh18, rfl, b19, b19t⟩
              rw [eh9] at eh18 b19 b19t ⊢
              show sy_wp (mj_m_130, 147, [(3, sy_i 0), (2, sy_i 1), (1, sy_i ((dc_R_here (sy_rd h)).2)), (0, .ref 234)], [sy_i ((dc_R_takesHouse (sg_up (dc_R_here (sy_rd h)).1 234 11 (((dc_R_here (sy_rd h)).1 234 11) + 1))).2)], h18) _
              refine sy_st (S' := (mj_m_130, 154, [(3, sy_i 0), (2, sy_i 1), (1, sy_i ((dc_R_here (sy_rd h)).2)), (0, .ref 234)], [sy_i ((dc_R_takesHouse (sg_up (dc_R_here (sy_rd h)).1 234 11 (((dc_R_here (sy_rd h)).1 234 11) + 1))).2)], h18)) mj_d_130_147 (fun _ _ => rfl) ?_
              refine sy_st (S' := (mj_m_130, 156, [(4, sy_i ((dc_R_takesHouse (sg_up (dc_R_here (sy_rd h)).1 234 11 (((dc_R_here (sy_rd h)).1 234 11) + 1))).2)), (3, sy_i 0), (2, sy_i 1), (1, sy_i ((dc_R_here (sy_rd h)).2)), (0, .ref 234)], [], h18)) mj_d_130_154 (fun _ _ => rfl) ?_
              refine sy_st (S' := (mj_m_130, 158, [(4, sy_i ((dc_R_takesHouse (sg_up (dc_R_here (sy_rd h)).1 234 11 (((dc_R_here (sy_rd h)).1 234 11) + 1))).2)), (3, sy_i 0), (2, sy_i 1), (1, sy_i ((dc_R_here (sy_rd h)).2)), (0, .ref 234)], [sy_i ((dc_R_takesHouse (sg_up (dc_R_here (sy_rd h)).1 234 11 (((dc_R_here (sy_rd h)).1 234 11) + 1))).2)], h18)) mj_d_130_156 (fun _ _ => rfl) ?_
              refine sy_ifc mj_d_130_158 rfl ⟨by omega, by omega⟩ (fun (c20 : ((dc_R_takesHouse (sg_up (dc_R_here (sy_rd h)).1 234 11 (((dc_R_here (sy_rd h)).1 234 11) + 1))).2) = 0) => ?_) (fun (c20 : ¬ (((dc_R_takesHouse (sg_up (dc_R_here (sy_rd h)).1 234 11 (((dc_R_here (sy_rd h)).1 234 11) + 1))).2) = 0)) => ?_)
              · skip
                rw [if_pos c20]
                refine sy_st (S' := (mj_m_130, 175, [(4, sy_i ((dc_R_takesHouse (sg_up (dc_R_here (sy_rd h)).1 234 11 (((dc_R_here (sy_rd h)).1 234 11) + 1))).2)), (3, sy_i 0), (2, sy_i 1), (1, sy_i ((dc_R_here (sy_rd h)).2)), (0, .ref 234)], [sy_i 0], h18)) mj_d_130_174 (fun _ _ => rfl) ?_
                exact sy_retb mj_d_130_175 rfl ⟨by omega, by omega⟩ ⟨th18, eh18, rfl, by omega, by omega⟩
              · skip
                rw [if_neg c20]
                refine sy_st (S' := (mj_m_130, 162, [(4, sy_i ((dc_R_takesHouse (sg_up (dc_R_here (sy_rd h)).1 234 11 (((dc_R_here (sy_rd h)).1 234 11) + 1))).2)), (3, sy_i 0), (2, sy_i 1), (1, sy_i ((dc_R_here (sy_rd h)).2)), (0, .ref 234)], [.ref 234], h18)) mj_d_130_161 (fun _ _ => rfl) ?_
                refine sy_bip mj_d_130_162 (by decide) ?_
                refine sy_cv (M' := mj_m_136) (vs := [.ref 234, sy_i 59]) (rest := []) mj_d_130_164 rfl rfl rfl rfl th18 rfl rfl ⟨by decide, ⟨Nat.le_of_ble_eq_true rfl, Nat.le_of_ble_eq_true rfl, Nat.le_of_ble_eq_true rfl, Nat.le_of_ble_eq_true rfl, Nat.le_of_ble_eq_true rfl⟩⟩ (dt_R_takes (a1 := 59) th18 (by omega) (by omega)) ?_
                rintro _ h21 ⟨th21, eh21, rfl, b22, b22t⟩
                rw [eh18] at eh21 b22 b22t ⊢
                show sy_wp (mj_m_130, 167, [(4, sy_i ((dc_R_takesHouse (sg_up (dc_R_here (sy_rd h)).1 234 11 (((dc_R_here (sy_rd h)).1 234 11) + 1))).2)), (3, sy_i 0), (2, sy_i 1), (1, sy_i ((dc_R_here (sy_rd h)).2)), (0, .ref 234)], [sy_i ((dc_R_takes (dc_R_takesHouse (sg_up (dc_R_here (sy_rd h)).1 234 11 (((dc_R_here (sy_rd h)).1 234 11) + 1))).1 59).2)], h21) _
                refine sy_ifc mj_d_130_167 rfl ⟨by omega, by omega⟩ (fun (c23 : ((dc_R_takes (dc_R_takesHouse (sg_up (dc_R_here (sy_rd h)).1 234 11 (((dc_R_here (sy_rd h)).1 234 11) + 1))).1 59).2) = 0) => ?_) (fun (c23 : ¬ (((dc_R_takes (dc_R_takesHouse (sg_up (dc_R_here (sy_rd h)).1 234 11 (((dc_R_here (sy_rd h)).1 234 11) + 1))).1 59).2) = 0)) => ?_)
                · skip
                  rw [if_pos c23]
                  refine sy_st (S' := (mj_m_130, 175, [(4, sy_i ((dc_R_takesHouse (sg_up (dc_R_here (sy_rd h)).1 234 11 (((dc_R_here (sy_rd h)).1 234 11) + 1))).2)), (3, sy_i 0), (2, sy_i 1), (1, sy_i ((dc_R_here (sy_rd h)).2)), (0, .ref 234)], [sy_i 0], h21)) mj_d_130_174 (fun _ _ => rfl) ?_
                  exact sy_retb mj_d_130_175 rfl ⟨by omega, by omega⟩ ⟨th21, eh21, rfl, by omega, by omega⟩
                · skip
                  rw [if_neg c23]
                  refine sy_st (S' := (mj_m_130, 171, [(4, sy_i ((dc_R_takesHouse (sg_up (dc_R_here (sy_rd h)).1 234 11 (((dc_R_here (sy_rd h)).1 234 11) + 1))).2)), (3, sy_i 0), (2, sy_i 1), (1, sy_i ((dc_R_here (sy_rd h)).2)), (0, .ref 234)], [sy_i 1], h21)) mj_d_130_170 (fun _ _ => rfl) ?_
                  refine sy_st (S' := (mj_m_130, 175, [(4, sy_i ((dc_R_takesHouse (sg_up (dc_R_here (sy_rd h)).1 234 11 (((dc_R_here (sy_rd h)).1 234 11) + 1))).2)), (3, sy_i 0), (2, sy_i 1), (1, sy_i ((dc_R_here (sy_rd h)).2)), (0, .ref 234)], [sy_i 1], h21)) mj_d_130_171 (fun _ _ => rfl) ?_
                  exact sy_retb mj_d_130_175 rfl ⟨by omega, by omega⟩ ⟨th21, eh21, rfl, by omega, by omega⟩
          · skip
            rw [if_pos (Decidable.not_not.mp c10)]
            replace c10 := Decidable.not_not.mp c10
            refine sy_st (S' := (mj_m_130, 131, [(3, sy_i 0), (2, sy_i 1), (1, sy_i ((dc_R_here (sy_rd h)).2)), (0, .ref 234)], [.ref 234], h9)) mj_d_130_130 (fun _ _ => rfl) ?_
            refine sy_cv (M' := mj_m_132) (vs := [.ref 234]) (rest := []) mj_d_130_131 rfl rfl rfl rfl th9 rfl rfl ⟨by decide, ⟨Nat.le_of_ble_eq_true rfl, Nat.le_of_ble_eq_true rfl, Nat.le_of_ble_eq_true rfl, Nat.le_of_ble_eq_true rfl, Nat.le_of_ble_eq_true rfl⟩⟩ (dt_R_takesCity th9) ?_
            rintro _ h24 ⟨th24, eh24, rfl, b25, b25t⟩
            rw [eh9] at eh24 b25 b25t ⊢
            show sy_wp (mj_m_130, 134, [(3, sy_i 0), (2, sy_i 1), (1, sy_i ((dc_R_here (sy_rd h)).2)), (0, .ref 234)], [sy_i ((dc_R_takesCity (sg_up (dc_R_here (sy_rd h)).1 234 11 (((dc_R_here (sy_rd h)).1 234 11) + 1))).2)], h24) _
            refine sy_st (S' := (mj_m_130, 154, [(3, sy_i 0), (2, sy_i 1), (1, sy_i ((dc_R_here (sy_rd h)).2)), (0, .ref 234)], [sy_i ((dc_R_takesCity (sg_up (dc_R_here (sy_rd h)).1 234 11 (((dc_R_here (sy_rd h)).1 234 11) + 1))).2)], h24)) mj_d_130_134 (fun _ _ => rfl) ?_
            refine sy_st (S' := (mj_m_130, 156, [(4, sy_i ((dc_R_takesCity (sg_up (dc_R_here (sy_rd h)).1 234 11 (((dc_R_here (sy_rd h)).1 234 11) + 1))).2)), (3, sy_i 0), (2, sy_i 1), (1, sy_i ((dc_R_here (sy_rd h)).2)), (0, .ref 234)], [], h24)) mj_d_130_154 (fun _ _ => rfl) ?_
            refine sy_st (S' := (mj_m_130, 158, [(4, sy_i ((dc_R_takesCity (sg_up (dc_R_here (sy_rd h)).1 234 11 (((dc_R_here (sy_rd h)).1 234 11) + 1))).2)), (3, sy_i 0), (2, sy_i 1), (1, sy_i ((dc_R_here (sy_rd h)).2)), (0, .ref 234)], [sy_i ((dc_R_takesCity (sg_up (dc_R_here (sy_rd h)).1 234 11 (((dc_R_here (sy_rd h)).1 234 11) + 1))).2)], h24)) mj_d_130_156 (fun _ _ => rfl) ?_
            refine sy_ifc mj_d_130_158 rfl ⟨by omega, by omega⟩ (fun (c26 : ((dc_R_takesCity (sg_up (dc_R_here (sy_rd h)).1 234 11 (((dc_R_here (sy_rd h)).1 234 11) + 1))).2) = 0) => ?_) (fun (c26 : ¬ (((dc_R_takesCity (sg_up (dc_R_here (sy_rd h)).1 234 11 (((dc_R_here (sy_rd h)).1 234 11) + 1))).2) = 0)) => ?_)
            · skip
              rw [if_pos c26]
              refine sy_st (S' := (mj_m_130, 175, [(4, sy_i ((dc_R_takesCity (sg_up (dc_R_here (sy_rd h)).1 234 11 (((dc_R_here (sy_rd h)).1 234 11) + 1))).2)), (3, sy_i 0), (2, sy_i 1), (1, sy_i ((dc_R_here (sy_rd h)).2)), (0, .ref 234)], [sy_i 0], h24)) mj_d_130_174 (fun _ _ => rfl) ?_
              exact sy_retb mj_d_130_175 rfl ⟨by omega, by omega⟩ ⟨th24, eh24, rfl, by omega, by omega⟩
            · skip
              rw [if_neg c26]
              refine sy_st (S' := (mj_m_130, 162, [(4, sy_i ((dc_R_takesCity (sg_up (dc_R_here (sy_rd h)).1 234 11 (((dc_R_here (sy_rd h)).1 234 11) + 1))).2)), (3, sy_i 0), (2, sy_i 1), (1, sy_i ((dc_R_here (sy_rd h)).2)), (0, .ref 234)], [.ref 234], h24)) mj_d_130_161 (fun _ _ => rfl) ?_
              refine sy_bip mj_d_130_162 (by decide) ?_
              refine sy_cv (M' := mj_m_136) (vs := [.ref 234, sy_i 59]) (rest := []) mj_d_130_164 rfl rfl rfl rfl th24 rfl rfl ⟨by decide, ⟨Nat.le_of_ble_eq_true rfl, Nat.le_of_ble_eq_true rfl, Nat.le_of_ble_eq_true rfl, Nat.le_of_ble_eq_true rfl, Nat.le_of_ble_eq_true rfl⟩⟩ (dt_R_takes (a1 := 59) th24 (by omega) (by omega)) ?_
              rintro _ h27 ⟨th27, eh27, rfl, b28, b28t⟩
              rw [eh24] at eh27 b28 b28t ⊢
              show sy_wp (mj_m_130, 167, [(4, sy_i ((dc_R_takesCity (sg_up (dc_R_here (sy_rd h)).1 234 11 (((dc_R_here (sy_rd h)).1 234 11) + 1))).2)), (3, sy_i 0), (2, sy_i 1), (1, sy_i ((dc_R_here (sy_rd h)).2)), (0, .ref 234)], [sy_i ((dc_R_takes (dc_R_takesCity (sg_up (dc_R_here (sy_rd h)).1 234 11 (((dc_R_here (sy_rd h)).1 234 11) + 1))).1 59).2)], h27) _
              refine sy_ifc mj_d_130_167 rfl ⟨by omega, by omega⟩ (fun (c29 : ((dc_R_takes (dc_R_takesCity (sg_up (dc_R_here (sy_rd h)).1 234 11 (((dc_R_here (sy_rd h)).1 234 11) + 1))).1 59).2) = 0) => ?_) (fun (c29 : ¬ (((dc_R_takes (dc_R_takesCity (sg_up (dc_R_here (sy_rd h)).1 234 11 (((dc_R_here (sy_rd h)).1 234 11) + 1))).1 59).2) = 0)) => ?_)
              · skip
                rw [if_pos c29]
                refine sy_st (S' := (mj_m_130, 175, [(4, sy_i ((dc_R_takesCity (sg_up (dc_R_here (sy_rd h)).1 234 11 (((dc_R_here (sy_rd h)).1 234 11) + 1))).2)), (3, sy_i 0), (2, sy_i 1), (1, sy_i ((dc_R_here (sy_rd h)).2)), (0, .ref 234)], [sy_i 0], h27)) mj_d_130_174 (fun _ _ => rfl) ?_
                exact sy_retb mj_d_130_175 rfl ⟨by omega, by omega⟩ ⟨th27, eh27, rfl, by omega, by omega⟩
              · skip
                rw [if_neg c29]
                refine sy_st (S' := (mj_m_130, 171, [(4, sy_i ((dc_R_takesCity (sg_up (dc_R_here (sy_rd h)).1 234 11 (((dc_R_here (sy_rd h)).1 234 11) + 1))).2)), (3, sy_i 0), (2, sy_i 1), (1, sy_i ((dc_R_here (sy_rd h)).2)), (0, .ref 234)], [sy_i 1], h27)) mj_d_130_170 (fun _ _ => rfl) ?_
                refine sy_st (S' := (mj_m_130, 175, [(4, sy_i ((dc_R_takesCity (sg_up (dc_R_here (sy_rd h)).1 234 11 (((dc_R_here (sy_rd h)).1 234 11) + 1))).2)), (3, sy_i 0), (2, sy_i 1), (1, sy_i ((dc_R_here (sy_rd h)).2)), (0, .ref 234)], [sy_i 1], h27)) mj_d_130_171 (fun _ _ => rfl) ?_
                exact sy_retb mj_d_130_175 rfl ⟨by omega, by omega⟩ ⟨th27, eh27, rfl, by omega, by omega⟩
        · skip
          rw [if_pos (Decidable.not_not.mp c7)]
          replace c7 := Decidable.not_not.mp c7
          refine sy_st (S' := (mj_m_130, 95, [(2, sy_i 1), (1, sy_i ((dc_R_here (sy_rd h)).2)), (0, .ref 234)], [sy_i 1], h1)) mj_d_130_94 (fun _ _ => rfl) ?_
          refine sy_st (S' := (mj_m_130, 99, [(2, sy_i 1), (1, sy_i ((dc_R_here (sy_rd h)).2)), (0, .ref 234)], [sy_i 1], h1)) mj_d_130_95 (fun _ _ => rfl) ?_
          refine sy_st (S' := (mj_m_130, 100, [(3, sy_i 1), (2, sy_i 1), (1, sy_i ((dc_R_here (sy_rd h)).2)), (0, .ref 234)], [], h1)) mj_d_130_99 (fun _ _ => rfl) ?_
          refine sy_st (S' := (mj_m_130, 101, [(3, sy_i 1), (2, sy_i 1), (1, sy_i ((dc_R_here (sy_rd h)).2)), (0, .ref 234)], [sy_i 1], h1)) mj_d_130_100 (fun _ _ => rfl) ?_
          refine sy_ifc mj_d_130_101 rfl ⟨by omega, by omega⟩ (fun (q : (1 : Int) = 0) => absurd q (by decide)) (fun _ => ?_)
          refine sy_st (S' := (mj_m_130, 105, [(3, sy_i 1), (2, sy_i 1), (1, sy_i ((dc_R_here (sy_rd h)).2)), (0, .ref 234)], [.ref 234], h1)) mj_d_130_104 (fun _ _ => rfl) ?_
          refine sy_st (S' := (mj_m_130, 106, [(3, sy_i 1), (2, sy_i 1), (1, sy_i ((dc_R_here (sy_rd h)).2)), (0, .ref 234)], [sy_i 3, .ref 234], h1)) mj_d_130_105 (fun _ _ => rfl) ?_
          refine sy_st (S' := (mj_m_130, 107, [(3, sy_i 1), (2, sy_i 1), (1, sy_i ((dc_R_here (sy_rd h)).2)), (0, .ref 234)], [.ref 234, sy_i 3, .ref 234], h1)) mj_d_130_106 (fun _ _ => rfl) ?_
          refine sy_gf mj_d_130_107 rfl rfl (by decide) rfl th1 ?_
          intro x30 ex30 bx30 tx30
          replace ex30 : x30 = sy_rd h1 234 12 := ex30
          rw [eh1] at ex30
          subst ex30
          refine sy_cv (M' := mj_m_131) (vs := [.ref 234, sy_i 3, sy_i ((dc_R_here (sy_rd h)).1 234 12)]) (rest := []) mj_d_130_110 rfl rfl rfl rfl th1 rfl rfl ⟨by decide, ⟨Nat.le_of_ble_eq_true rfl, Nat.le_of_ble_eq_true rfl, Nat.le_of_ble_eq_true rfl, Nat.le_of_ble_eq_true rfl, Nat.le_of_ble_eq_true rfl⟩⟩ (dt_R_fails (a1 := 3) (a2 := ((dc_R_here (sy_rd h)).1 234 12)) th1 (by omega) (by omega) (by omega) (by omega)) ?_
          rintro _ h31 ⟨th31, eh31, rfl, b32, b32t⟩
          rw [eh1] at eh31 b32 b32t ⊢
          show sy_wp (mj_m_130, 113, [(3, sy_i 1), (2, sy_i 1), (1, sy_i ((dc_R_here (sy_rd h)).2)), (0, .ref 234)], [sy_i ((dc_R_fails (dc_R_here (sy_rd h)).1 3 ((dc_R_here (sy_rd h)).1 234 12)).2)], h31) _
          exact sy_retb mj_d_130_113 rfl ⟨by omega, by omega⟩ ⟨th31, eh31, rfl, by omega, by omega⟩
      · skip
        rw [if_pos (Decidable.not_not.mp c5)]
        replace c5 := Decidable.not_not.mp c5
        refine sy_st (S' := (mj_m_130, 70, [(2, sy_i 1), (1, sy_i ((dc_R_here (sy_rd h)).2)), (0, .ref 234)], [.ref 234], h1)) mj_d_130_69 (fun _ _ => rfl) ?_
        refine sy_gf mj_d_130_70 rfl rfl (by decide) rfl th1 ?_
        intro x33 ex33 bx33 tx33
        replace ex33 : x33 = sy_rd h1 234 19 := ex33
        rw [eh1, dr_R_here _ 234 19 rfl] at ex33
        subst ex33
        refine sy_bip mj_d_130_73 (by decide) ?_
        refine sy_icm mj_d_130_75 rfl ⟨by omega, by omega⟩ ⟨by omega, by omega⟩ (fun (c34 : ¬ ((sy_rd h 234 19) = 9)) => ?_) (fun (c34 : ¬ ¬ ((sy_rd h 234 19) = 9)) => ?_)
        · skip
          rw [if_neg c34]
          refine sy_st (S' := (mj_m_130, 83, [(2, sy_i 1), (1, sy_i ((dc_R_here (sy_rd h)).2)), (0, .ref 234)], [sy_i 0], h1)) mj_d_130_82 (fun _ _ => rfl) ?_
          refine sy_st (S' := (mj_m_130, 99, [(2, sy_i 1), (1, sy_i ((dc_R_here (sy_rd h)).2)), (0, .ref 234)], [sy_i 0], h1)) mj_d_130_83 (fun _ _ => rfl) ?_
          refine sy_st (S' := (mj_m_130, 100, [(3, sy_i 0), (2, sy_i 1), (1, sy_i ((dc_R_here (sy_rd h)).2)), (0, .ref 234)], [], h1)) mj_d_130_99 (fun _ _ => rfl) ?_
          refine sy_st (S' := (mj_m_130, 101, [(3, sy_i 0), (2, sy_i 1), (1, sy_i ((dc_R_here (sy_rd h)).2)), (0, .ref 234)], [sy_i 0], h1)) mj_d_130_100 (fun _ _ => rfl) ?_
          refine sy_ifc mj_d_130_101 rfl ⟨by omega, by omega⟩ (fun _ => ?_) (fun (q : ¬ ((0 : Int) = 0)) => absurd (by decide) q)
          refine sy_st (S' := (mj_m_130, 115, [(3, sy_i 0), (2, sy_i 1), (1, sy_i ((dc_R_here (sy_rd h)).2)), (0, .ref 234)], [.ref 234], h1)) mj_d_130_114 (fun _ _ => rfl) ?_
          refine sy_st (S' := (mj_m_130, 116, [(3, sy_i 0), (2, sy_i 1), (1, sy_i ((dc_R_here (sy_rd h)).2)), (0, .ref 234)], [.ref 234, .ref 234], h1)) mj_d_130_115 (fun _ _ => rfl) ?_
          refine sy_gf mj_d_130_116 rfl rfl (by decide) rfl th1 ?_
          intro x35 ex35 bx35 tx35
          replace ex35 : x35 = sy_rd h1 234 11 := ex35
          rw [eh1] at ex35
          subst ex35
          refine sy_st (S' := (mj_m_130, 120, [(3, sy_i 0), (2, sy_i 1), (1, sy_i ((dc_R_here (sy_rd h)).2)), (0, .ref 234)], [sy_i 1, sy_i ((dc_R_here (sy_rd h)).1 234 11), .ref 234], h1)) mj_d_130_119 (fun _ _ => rfl) ?_
          refine sy_add mj_d_130_120 ?_
          refine sg_pf (z := (((dc_R_here (sy_rd h)).1 234 11) + 1)) mj_d_130_121 rfl rfl (by decide) (Or.inl rfl) rfl th1 (by omega) (by omega) ⟨by omega, by omega⟩ ?_
          intro h36 th36 eh36
          rw [eh1] at eh36
          refine sy_st (S' := (mj_m_130, 125, [(3, sy_i 0), (2, sy_i 1), (1, sy_i ((dc_R_here (sy_rd h)).2)), (0, .ref 234)], [sy_i ((dc_R_here (sy_rd h)).2)], h36)) mj_d_130_124 (fun _ _ => rfl) ?_
          refine sy_bip mj_d_130_125 (by decide) ?_
          refine sy_icm mj_d_130_127 rfl ⟨by omega, by omega⟩ ⟨by omega, by omega⟩ (fun (c37 : ¬ (((dc_R_here (sy_rd h)).2) = 99)) => ?_) (fun (c37 : ¬ ¬ (((dc_R_here (sy_rd h)).2) = 99)) => ?_)
          · skip
            rw [if_neg c37]
            refine sy_st (S' := (mj_m_130, 138, [(3, sy_i 0), (2, sy_i 1), (1, sy_i ((dc_R_here (sy_rd h)).2)), (0, .ref 234)], [sy_i ((dc_R_here (sy_rd h)).2)], h36)) mj_d_130_137 (fun _ _ => rfl) ?_
            refine sy_bip mj_d_130_138 (by decide) ?_
            refine sy_icm mj_d_130_140 rfl ⟨by omega, by omega⟩ ⟨by omega, by omega⟩ (fun (c38 : ¬ (((dc_R_here (sy_rd h)).2) = 104)) => ?_) (fun (c38 : ¬ ¬ (((dc_R_here (sy_rd h)).2) = 104)) => ?_)
            · skip
              rw [if_neg c38]
              refine sy_st (S' := (mj_m_130, 151, [(3, sy_i 0), (2, sy_i 1), (1, sy_i ((dc_R_here (sy_rd h)).2)), (0, .ref 234)], [.ref 234], h36)) mj_d_130_150 (fun _ _ => rfl) ?_
              refine sy_cv (M' := mj_m_135) (vs := [.ref 234]) (rest := []) mj_d_130_151 rfl rfl rfl rfl th36 rfl rfl ⟨by decide, ⟨Nat.le_of_ble_eq_true rfl, Nat.le_of_ble_eq_true rfl, Nat.le_of_ble_eq_true rfl, Nat.le_of_ble_eq_true rfl, Nat.le_of_ble_eq_true rfl⟩⟩ (dt_R_takesSweep th36 (by rw [eh36, sg_nk (by decide), dr_R_here _ 234 22 rfl]; omega)) ?_
              rintro _ h39 ⟨th39, eh39, rfl, b40, b40t⟩
              rw [eh36] at eh39 b40 b40t ⊢
              show sy_wp (mj_m_130, 154, [(3, sy_i 0), (2, sy_i 1), (1, sy_i ((dc_R_here (sy_rd h)).2)), (0, .ref 234)], [sy_i ((dc_R_takesSweep (sg_up (dc_R_here (sy_rd h)).1 234 11 (((dc_R_here (sy_rd h)).1 234 11) + 1))).2)], h39) _
              refine sy_st (S' := (mj_m_130, 156, [(4, sy_i ((dc_R_takesSweep (sg_up (dc_R_here (sy_rd h)).1 234 11 (((dc_R_here (sy_rd h)).1 234 11) + 1))).2)), (3, sy_i 0), (2, sy_i 1), (1, sy_i ((dc_R_here (sy_rd h)).2)), (0, .ref 234)], [], h39)) mj_d_130_154 (fun _ _ => rfl) ?_
              refine sy_st (S' := (mj_m_130, 158, [(4, sy_i ((dc_R_takesSweep (sg_up (dc_R_here (sy_rd h)).1 234 11 (((dc_R_here (sy_rd h)).1 234 11) + 1))).2)), (3, sy_i 0), (2, sy_i 1), (1, sy_i ((dc_R_here (sy_rd h)).2)), (0, .ref 234)], [sy_i ((dc_R_takesSweep (sg_up (dc_R_here (sy_rd h)).1 234 11 (((dc_R_here (sy_rd h)).1 234 11) + 1))).2)], h39)) mj_d_130_156 (fun _ _ => rfl) ?_
              refine sy_ifc mj_d_130_158 rfl ⟨by omega, by omega⟩ (fun (c41 : ((dc_R_takesSweep (sg_up (dc_R_here (sy_rd h)).1 234 11 (((dc_R_here (sy_rd h)).1 234 11) + 1))).2) = 0) => ?_) (fun (c41 : ¬ (((dc_R_takesSweep (sg_up (dc_R_here (sy_rd h)).1 234 11 (((dc_R_here (sy_rd h)).1 234 11) + 1))).2) = 0)) => ?_)
              · skip
                rw [if_pos c41]
                refine sy_st (S' := (mj_m_130, 175, [(4, sy_i ((dc_R_takesSweep (sg_up (dc_R_here (sy_rd h)).1 234 11 (((dc_R_here (sy_rd h)).1 234 11) + 1))).2)), (3, sy_i 0), (2, sy_i 1), (1, sy_i ((dc_R_here (sy_rd h)).2)), (0, .ref 234)], [sy_i 0], h39)) mj_d_130_174 (fun _ _ => rfl) ?_
                exact sy_retb mj_d_130_175 rfl ⟨by omega, by omega⟩ ⟨th39, eh39, rfl, by omega, by omega⟩
              · skip
                rw [if_neg c41]
                refine sy_st (S' := (mj_m_130, 162, [(4, sy_i ((dc_R_takesSweep (sg_up (dc_R_here (sy_rd h)).1 234 11 (((dc_R_here (sy_rd h)).1 234 11) + 1))).2)), (3, sy_i 0), (2, sy_i 1), (1, sy_i ((dc_R_here (sy_rd h)).2)), (0, .ref 234)], [.ref 234], h39)) mj_d_130_161 (fun _ _ => rfl) ?_
                refine sy_bip mj_d_130_162 (by decide) ?_
                refine sy_cv (M' := mj_m_136) (vs := [.ref 234, sy_i 59]) (rest := []) mj_d_130_164 rfl rfl rfl rfl th39 rfl rfl ⟨by decide, ⟨Nat.le_of_ble_eq_true rfl, Nat.le_of_ble_eq_true rfl, Nat.le_of_ble_eq_true rfl, Nat.le_of_ble_eq_true rfl, Nat.le_of_ble_eq_true rfl⟩⟩ (dt_R_takes (a1 := 59) th39 (by omega) (by omega)) ?_
                rintro _ h42 ⟨th42, eh42, rfl, b43, b43t⟩
                rw [eh39] at eh42 b43 b43t ⊢
                show sy_wp (mj_m_130, 167, [(4, sy_i ((dc_R_takesSweep (sg_up (dc_R_here (sy_rd h)).1 234 11 (((dc_R_here (sy_rd h)).1 234 11) + 1))).2)), (3, sy_i 0), (2, sy_i 1), (1, sy_i ((dc_R_here (sy_rd h)).2)), (0, .ref 234)], [sy_i ((dc_R_takes (dc_R_takesSweep (sg_up (dc_R_here (sy_rd h)).1 234 11 (((dc_R_here (sy_rd h)).1 234 11) + 1))).1 59).2)], h42) _
                refine sy_ifc mj_d_130_167 rfl ⟨by omega, by omega⟩ (fun (c44 : ((dc_R_takes (dc_R_takesSweep (sg_up (dc_R_here (sy_rd h)).1 234 11 (((dc_R_here (sy_rd h)).1 234 11) + 1))).1 59).2) = 0) => ?_) (fun (c44 : ¬ (((dc_R_takes (dc_R_takesSweep (sg_up (dc_R_here (sy_rd h)).1 234 11 (((dc_R_here (sy_rd h)).1 234 11) + 1))).1 59).2) = 0)) => ?_)
                · skip
                  rw [if_pos c44]
                  refine sy_st (S' := (mj_m_130, 175, [(4, sy_i ((dc_R_takesSweep (sg_up (dc_R_here (sy_rd h)).1 234 11 (((dc_R_here (sy_rd h)).1 234 11) + 1))).2)), (3, sy_i 0), (2, sy_i 1), (1, sy_i ((dc_R_here (sy_rd h)).2)), (0, .ref 234)], [sy_i 0], h42)) mj_d_130_174 (fun _ _ => rfl) ?_
                  exact sy_retb mj_d_130_175 rfl ⟨by omega, by omega⟩ ⟨th42, eh42, rfl, by omega, by omega⟩
                · skip
                  rw [if_neg c44]
                  refine sy_st (S' := (mj_m_130, 171, [(4, sy_i ((dc_R_takesSweep (sg_up (dc_R_here (sy_rd h)).1 234 11 (((dc_R_here (sy_rd h)).1 234 11) + 1))).2)), (3, sy_i 0), (2, sy_i 1), (1, sy_i ((dc_R_here (sy_rd h)).2)), (0, .ref 234)], [sy_i 1], h42)) mj_d_130_170 (fun _ _ => rfl) ?_
                  refine sy_st (S' := (mj_m_130, 175, [(4, sy_i ((dc_R_takesSweep (sg_up (dc_R_here (sy_rd h)).1 234 11 (((dc_R_here (sy_rd h)).1 234 11) + 1))).2)), (3, sy_i 0), (2, sy_i 1), (1, sy_i ((dc_R_here (sy_rd h)).2)), (0, .ref 234)], [sy_i 1], h42)) mj_d_130_171 (fun _ _ => rfl) ?_
                  exact sy_retb mj_d_130_175 rfl ⟨by omega, by omega⟩ ⟨th42, eh42, rfl, by omega, by omega⟩
            · skip
              rw [if_pos (Decidable.not_not.mp c38)]
              replace c38 := Decidable.not_not.mp c38
              refine sy_st (S' := (mj_m_130, 144, [(3, sy_i 0), (2, sy_i 1), (1, sy_i ((dc_R_here (sy_rd h)).2)), (0, .ref 234)], [.ref 234], h36)) mj_d_130_143 (fun _ _ => rfl) ?_
              refine sy_cv (M' := mj_m_134) (vs := [.ref 234]) (rest := []) mj_d_130_144 rfl rfl rfl rfl th36 rfl rfl ⟨by decide, ⟨Nat.le_of_ble_eq_true rfl, Nat.le_of_ble_eq_true rfl, Nat.le_of_ble_eq_true rfl, Nat.le_of_ble_eq_true rfl, Nat.le_of_ble_eq_true rfl⟩⟩ (dt_R_takesHouse th36 (by rw [eh36, sg_nk (by decide), dr_R_here _ 234 19 rfl]; omega)) ?_
              rintro _ h45 ⟨th45, eh45, rfl, b46, b46t⟩
              rw [eh36] at eh45 b46 b46t ⊢
              show sy_wp (mj_m_130, 147, [(3, sy_i 0), (2, sy_i 1), (1, sy_i ((dc_R_here (sy_rd h)).2)), (0, .ref 234)], [sy_i ((dc_R_takesHouse (sg_up (dc_R_here (sy_rd h)).1 234 11 (((dc_R_here (sy_rd h)).1 234 11) + 1))).2)], h45) _
              refine sy_st (S' := (mj_m_130, 154, [(3, sy_i 0), (2, sy_i 1), (1, sy_i ((dc_R_here (sy_rd h)).2)), (0, .ref 234)], [sy_i ((dc_R_takesHouse (sg_up (dc_R_here (sy_rd h)).1 234 11 (((dc_R_here (sy_rd h)).1 234 11) + 1))).2)], h45)) mj_d_130_147 (fun _ _ => rfl) ?_
              refine sy_st (S' := (mj_m_130, 156, [(4, sy_i ((dc_R_takesHouse (sg_up (dc_R_here (sy_rd h)).1 234 11 (((dc_R_here (sy_rd h)).1 234 11) + 1))).2)), (3, sy_i 0), (2, sy_i 1), (1, sy_i ((dc_R_here (sy_rd h)).2)), (0, .ref 234)], [], h45)) mj_d_130_154 (fun _ _ => rfl) ?_
              refine sy_st (S' := (mj_m_130, 158, [(4, sy_i ((dc_R_takesHouse (sg_up (dc_R_here (sy_rd h)).1 234 11 (((dc_R_here (sy_rd h)).1 234 11) + 1))).2)), (3, sy_i 0), (2, sy_i 1), (1, sy_i ((dc_R_here (sy_rd h)).2)), (0, .ref 234)], [sy_i ((dc_R_takesHouse (sg_up (dc_R_here (sy_rd h)).1 234 11 (((dc_R_here (sy_rd h)).1 234 11) + 1))).2)], h45)) mj_d_130_156 (fun _ _ => rfl) ?_
              refine sy_ifc mj_d_130_158 rfl ⟨by omega, by omega⟩ (fun (c47 : ((dc_R_takesHouse (sg_up (dc_R_here (sy_rd h)).1 234 11 (((dc_R_here (sy_rd h)).1 234 11) + 1))).2) = 0) => ?_) (fun (c47 : ¬ (((dc_R_takesHouse (sg_up (dc_R_here (sy_rd h)).1 234 11 (((dc_R_here (sy_rd h)).1 234 11) + 1))).2) = 0)) => ?_)
              · skip
                rw [if_pos c47]
                refine sy_st (S' := (mj_m_130, 175, [(4, sy_i ((dc_R_takesHouse (sg_up (dc_R_here (sy_rd h)).1 234 11 (((dc_R_here (sy_rd h)).1 234 11) + 1))).2)), (3, sy_i 0), (2, sy_i 1), (1, sy_i ((dc_R_here (sy_rd h)).2)), (0, .ref 234)], [sy_i 0], h45)) mj_d_130_174 (fun _ _ => rfl) ?_
                exact sy_retb mj_d_130_175 rfl ⟨by omega, by omega⟩ ⟨th45, eh45, rfl, by omega, by omega⟩
              · skip
                rw [if_neg c47]
                refine sy_st (S' := (mj_m_130, 162, [(4, sy_i ((dc_R_takesHouse (sg_up (dc_R_here (sy_rd h)).1 234 11 (((dc_R_here (sy_rd h)).1 234 11) + 1))).2)), (3, sy_i 0), (2, sy_i 1), (1, sy_i ((dc_R_here (sy_rd h)).2)), (0, .ref 234)], [.ref 234], h45)) mj_d_130_161 (fun _ _ => rfl) ?_
                refine sy_bip mj_d_130_162 (by decide) ?_
                refine sy_cv (M' := mj_m_136) (vs := [.ref 234, sy_i 59]) (rest := []) mj_d_130_164 rfl rfl rfl rfl th45 rfl rfl ⟨by decide, ⟨Nat.le_of_ble_eq_true rfl, Nat.le_of_ble_eq_true rfl, Nat.le_of_ble_eq_true rfl, Nat.le_of_ble_eq_true rfl, Nat.le_of_ble_eq_true rfl⟩⟩ (dt_R_takes (a1 := 59) th45 (by omega) (by omega)) ?_
                rintro _ h48 ⟨th48, eh48, rfl, b49, b49t⟩
                rw [eh45] at eh48 b49 b49t ⊢
                show sy_wp (mj_m_130, 167, [(4, sy_i ((dc_R_takesHouse (sg_up (dc_R_here (sy_rd h)).1 234 11 (((dc_R_here (sy_rd h)).1 234 11) + 1))).2)), (3, sy_i 0), (2, sy_i 1), (1, sy_i ((dc_R_here (sy_rd h)).2)), (0, .ref 234)], [sy_i ((dc_R_takes (dc_R_takesHouse (sg_up (dc_R_here (sy_rd h)).1 234 11 (((dc_R_here (sy_rd h)).1 234 11) + 1))).1 59).2)], h48) _
                refine sy_ifc mj_d_130_167 rfl ⟨by omega, by omega⟩ (fun (c50 : ((dc_R_takes (dc_R_takesHouse (sg_up (dc_R_here (sy_rd h)).1 234 11 (((dc_R_here (sy_rd h)).1 234 11) + 1))).1 59).2) = 0) => ?_) (fun (c50 : ¬ (((dc_R_takes (dc_R_takesHouse (sg_up (dc_R_here (sy_rd h)).1 234 11 (((dc_R_here (sy_rd h)).1 234 11) + 1))).1 59).2) = 0)) => ?_)
                · skip
                  rw [if_pos c50]
                  refine sy_st (S' := (mj_m_130, 175, [(4, sy_i ((dc_R_takesHouse (sg_up (dc_R_here (sy_rd h)).1 234 11 (((dc_R_here (sy_rd h)).1 234 11) + 1))).2)), (3, sy_i 0), (2, sy_i 1), (1, sy_i ((dc_R_here (sy_rd h)).2)), (0, .ref 234)], [sy_i 0], h48)) mj_d_130_174 (fun _ _ => rfl) ?_
                  exact sy_retb mj_d_130_175 rfl ⟨by omega, by omega⟩ ⟨th48, eh48, rfl, by omega, by omega⟩
                · skip
                  rw [if_neg c50]
                  refine sy_st (S' := (mj_m_130, 171, [(4, sy_i ((dc_R_takesHouse (sg_up (dc_R_here (sy_rd h)).1 234 11 (((dc_R_here (sy_rd h)).1 234 11) + 1))).2)), (3, sy_i 0), (2, sy_i 1), (1, sy_i ((dc_R_here (sy_rd h)).2)), (0, .ref 234)], [sy_i 1], h48)) mj_d_130_170 (fun _ _ => rfl) ?_
                  refine sy_st (S' := (mj_m_130, 175, [(4, sy_i ((dc_R_takesHouse (sg_up (dc_R_here (sy_rd h)).1 234 11 (((dc_R_here (sy_rd h)).1 234 11) + 1))).2)), (3, sy_i 0), (2, sy_i 1), (1, sy_i ((dc_R_here (sy_rd h)).2)), (0, .ref 234)], [sy_i 1], h48)) mj_d_130_171 (fun _ _ => rfl) ?_
                  exact sy_retb mj_d_130_175 rfl ⟨by omega, by omega⟩ ⟨th48, eh48, rfl, by omega, by omega⟩
          · skip
            rw [if_pos (Decidable.not_not.mp c37)]
            replace c37 := Decidable.not_not.mp c37
            refine sy_st (S' := (mj_m_130, 131, [(3, sy_i 0), (2, sy_i 1), (1, sy_i ((dc_R_here (sy_rd h)).2)), (0, .ref 234)], [.ref 234], h36)) mj_d_130_130 (fun _ _ => rfl) ?_
            refine sy_cv (M' := mj_m_132) (vs := [.ref 234]) (rest := []) mj_d_130_131 rfl rfl rfl rfl th36 rfl rfl ⟨by decide, ⟨Nat.le_of_ble_eq_true rfl, Nat.le_of_ble_eq_true rfl, Nat.le_of_ble_eq_true rfl, Nat.le_of_ble_eq_true rfl, Nat.le_of_ble_eq_true rfl⟩⟩ (dt_R_takesCity th36) ?_
            rintro _ h51 ⟨th51, eh51, rfl, b52, b52t⟩
            rw [eh36] at eh51 b52 b52t ⊢
            show sy_wp (mj_m_130, 134, [(3, sy_i 0), (2, sy_i 1), (1, sy_i ((dc_R_here (sy_rd h)).2)), (0, .ref 234)], [sy_i ((dc_R_takesCity (sg_up (dc_R_here (sy_rd h)).1 234 11 (((dc_R_here (sy_rd h)).1 234 11) + 1))).2)], h51) _
            refine sy_st (S' := (mj_m_130, 154, [(3, sy_i 0), (2, sy_i 1), (1, sy_i ((dc_R_here (sy_rd h)).2)), (0, .ref 234)], [sy_i ((dc_R_takesCity (sg_up (dc_R_here (sy_rd h)).1 234 11 (((dc_R_here (sy_rd h)).1 234 11) + 1))).2)], h51)) mj_d_130_134 (fun _ _ => rfl) ?_
            refine sy_st (S' := (mj_m_130, 156, [(4, sy_i ((dc_R_takesCity (sg_up (dc_R_here (sy_rd h)).1 234 11 (((dc_R_here (sy_rd h)).1 234 11) + 1))).2)), (3, sy_i 0), (2, sy_i 1), (1, sy_i ((dc_R_here (sy_rd h)).2)), (0, .ref 234)], [], h51)) mj_d_130_154 (fun _ _ => rfl) ?_
            refine sy_st (S' := (mj_m_130, 158, [(4, sy_i ((dc_R_takesCity (sg_up (dc_R_here (sy_rd h)).1 234 11 (((dc_R_here (sy_rd h)).1 234 11) + 1))).2)), (3, sy_i 0), (2, sy_i 1), (1, sy_i ((dc_R_here (sy_rd h)).2)), (0, .ref 234)], [sy_i ((dc_R_takesCity (sg_up (dc_R_here (sy_rd h)).1 234 11 (((dc_R_here (sy_rd h)).1 234 11) + 1))).2)], h51)) mj_d_130_156 (fun _ _ => rfl) ?_
            refine sy_ifc mj_d_130_158 rfl ⟨by omega, by omega⟩ (fun (c53 : ((dc_R_takesCity (sg_up (dc_R_here (sy_rd h)).1 234 11 (((dc_R_here (sy_rd h)).1 234 11) + 1))).2) = 0) => ?_) (fun (c53 : ¬ (((dc_R_takesCity (sg_up (dc_R_here (sy_rd h)).1 234 11 (((dc_R_here (sy_rd h)).1 234 11) + 1))).2) = 0)) => ?_)
            · skip
              rw [if_pos c53]
              refine sy_st (S' := (mj_m_130, 175, [(4, sy_i ((dc_R_takesCity (sg_up (dc_R_here (sy_rd h)).1 234 11 (((dc_R_here (sy_rd h)).1 234 11) + 1))).2)), (3, sy_i 0), (2, sy_i 1), (1, sy_i ((dc_R_here (sy_rd h)).2)), (0, .ref 234)], [sy_i 0], h51)) mj_d_130_174 (fun _ _ => rfl) ?_
              exact sy_retb mj_d_130_175 rfl ⟨by omega, by omega⟩ ⟨th51, eh51, rfl, by omega, by omega⟩
            · skip
              rw [if_neg c53]
              refine sy_st (S' := (mj_m_130, 162, [(4, sy_i ((dc_R_takesCity (sg_up (dc_R_here (sy_rd h)).1 234 11 (((dc_R_here (sy_rd h)).1 234 11) + 1))).2)), (3, sy_i 0), (2, sy_i 1), (1, sy_i ((dc_R_here (sy_rd h)).2)), (0, .ref 234)], [.ref 234], h51)) mj_d_130_161 (fun _ _ => rfl) ?_
              refine sy_bip mj_d_130_162 (by decide) ?_
              refine sy_cv (M' := mj_m_136) (vs := [.ref 234, sy_i 59]) (rest := []) mj_d_130_164 rfl rfl rfl rfl th51 rfl rfl ⟨by decide, ⟨Nat.le_of_ble_eq_true rfl, Nat.le_of_ble_eq_true rfl, Nat.le_of_ble_eq_true rfl, Nat.le_of_ble_eq_true rfl, Nat.le_of_ble_eq_true rfl⟩⟩ (dt_R_takes (a1 := 59) th51 (by omega) (by omega)) ?_
              rintro _ h54 ⟨th54, eh54, rfl, b55, b55t⟩
              rw [eh51] at eh54 b55 b55t ⊢
              show sy_wp (mj_m_130, 167, [(4, sy_i ((dc_R_takesCity (sg_up (dc_R_here (sy_rd h)).1 234 11 (((dc_R_here (sy_rd h)).1 234 11) + 1))).2)), (3, sy_i 0), (2, sy_i 1), (1, sy_i ((dc_R_here (sy_rd h)).2)), (0, .ref 234)], [sy_i ((dc_R_takes (dc_R_takesCity (sg_up (dc_R_here (sy_rd h)).1 234 11 (((dc_R_here (sy_rd h)).1 234 11) + 1))).1 59).2)], h54) _
              refine sy_ifc mj_d_130_167 rfl ⟨by omega, by omega⟩ (fun (c56 : ((dc_R_takes (dc_R_takesCity (sg_up (dc_R_here (sy_rd h)).1 234 11 (((dc_R_here (sy_rd h)).1 234 11) + 1))).1 59).2) = 0) => ?_) (fun (c56 : ¬ (((dc_R_takes (dc_R_takesCity (sg_up (dc_R_here (sy_rd h)).1 234 11 (((dc_R_here (sy_rd h)).1 234 11) + 1))).1 59).2) = 0)) => ?_)
              · skip
                rw [if_pos c56]
                refine sy_st (S' := (mj_m_130, 175, [(4, sy_i ((dc_R_takesCity (sg_up (dc_R_here (sy_rd h)).1 234 11 (((dc_R_here (sy_rd h)).1 234 11) + 1))).2)), (3, sy_i 0), (2, sy_i 1), (1, sy_i ((dc_R_here (sy_rd h)).2)), (0, .ref 234)], [sy_i 0], h54)) mj_d_130_174 (fun _ _ => rfl) ?_
                exact sy_retb mj_d_130_175 rfl ⟨by omega, by omega⟩ ⟨th54, eh54, rfl, by omega, by omega⟩
              · skip
                rw [if_neg c56]
                refine sy_st (S' := (mj_m_130, 171, [(4, sy_i ((dc_R_takesCity (sg_up (dc_R_here (sy_rd h)).1 234 11 (((dc_R_here (sy_rd h)).1 234 11) + 1))).2)), (3, sy_i 0), (2, sy_i 1), (1, sy_i ((dc_R_here (sy_rd h)).2)), (0, .ref 234)], [sy_i 1], h54)) mj_d_130_170 (fun _ _ => rfl) ?_
                refine sy_st (S' := (mj_m_130, 175, [(4, sy_i ((dc_R_takesCity (sg_up (dc_R_here (sy_rd h)).1 234 11 (((dc_R_here (sy_rd h)).1 234 11) + 1))).2)), (3, sy_i 0), (2, sy_i 1), (1, sy_i ((dc_R_here (sy_rd h)).2)), (0, .ref 234)], [sy_i 1], h54)) mj_d_130_171 (fun _ _ => rfl) ?_
                exact sy_retb mj_d_130_175 rfl ⟨by omega, by omega⟩ ⟨th54, eh54, rfl, by omega, by omega⟩
        · skip
          rw [if_pos (Decidable.not_not.mp c34)]
          replace c34 := Decidable.not_not.mp c34
          refine sy_st (S' := (mj_m_130, 79, [(2, sy_i 1), (1, sy_i ((dc_R_here (sy_rd h)).2)), (0, .ref 234)], [sy_i 1], h1)) mj_d_130_78 (fun _ _ => rfl) ?_
          refine sy_st (S' := (mj_m_130, 99, [(2, sy_i 1), (1, sy_i ((dc_R_here (sy_rd h)).2)), (0, .ref 234)], [sy_i 1], h1)) mj_d_130_79 (fun _ _ => rfl) ?_
          refine sy_st (S' := (mj_m_130, 100, [(3, sy_i 1), (2, sy_i 1), (1, sy_i ((dc_R_here (sy_rd h)).2)), (0, .ref 234)], [], h1)) mj_d_130_99 (fun _ _ => rfl) ?_
          refine sy_st (S' := (mj_m_130, 101, [(3, sy_i 1), (2, sy_i 1), (1, sy_i ((dc_R_here (sy_rd h)).2)), (0, .ref 234)], [sy_i 1], h1)) mj_d_130_100 (fun _ _ => rfl) ?_
          refine sy_ifc mj_d_130_101 rfl ⟨by omega, by omega⟩ (fun (q : (1 : Int) = 0) => absurd q (by decide)) (fun _ => ?_)
          refine sy_st (S' := (mj_m_130, 105, [(3, sy_i 1), (2, sy_i 1), (1, sy_i ((dc_R_here (sy_rd h)).2)), (0, .ref 234)], [.ref 234], h1)) mj_d_130_104 (fun _ _ => rfl) ?_
          refine sy_st (S' := (mj_m_130, 106, [(3, sy_i 1), (2, sy_i 1), (1, sy_i ((dc_R_here (sy_rd h)).2)), (0, .ref 234)], [sy_i 3, .ref 234], h1)) mj_d_130_105 (fun _ _ => rfl) ?_
          refine sy_st (S' := (mj_m_130, 107, [(3, sy_i 1), (2, sy_i 1), (1, sy_i ((dc_R_here (sy_rd h)).2)), (0, .ref 234)], [.ref 234, sy_i 3, .ref 234], h1)) mj_d_130_106 (fun _ _ => rfl) ?_
          refine sy_gf mj_d_130_107 rfl rfl (by decide) rfl th1 ?_
          intro x57 ex57 bx57 tx57
          replace ex57 : x57 = sy_rd h1 234 12 := ex57
          rw [eh1] at ex57
          subst ex57
          refine sy_cv (M' := mj_m_131) (vs := [.ref 234, sy_i 3, sy_i ((dc_R_here (sy_rd h)).1 234 12)]) (rest := []) mj_d_130_110 rfl rfl rfl rfl th1 rfl rfl ⟨by decide, ⟨Nat.le_of_ble_eq_true rfl, Nat.le_of_ble_eq_true rfl, Nat.le_of_ble_eq_true rfl, Nat.le_of_ble_eq_true rfl, Nat.le_of_ble_eq_true rfl⟩⟩ (dt_R_fails (a1 := 3) (a2 := ((dc_R_here (sy_rd h)).1 234 12)) th1 (by omega) (by omega) (by omega) (by omega)) ?_
          rintro _ h58 ⟨th58, eh58, rfl, b59, b59t⟩
          rw [eh1] at eh58 b59 b59t ⊢
          show sy_wp (mj_m_130, 113, [(3, sy_i 1), (2, sy_i 1), (1, sy_i ((dc_R_here (sy_rd h)).2)), (0, .ref 234)], [sy_i ((dc_R_fails (dc_R_here (sy_rd h)).1 3 ((dc_R_here (sy_rd h)).1 234 12)).2)], h58) _
          exact sy_retb mj_d_130_113 rfl ⟨by omega, by omega⟩ ⟨th58, eh58, rfl, by omega, by omega⟩
    · skip
      rw [if_pos (Decidable.not_not.mp c4)]
      replace c4 := Decidable.not_not.mp c4
      refine sy_st (S' := (mj_m_130, 57, [(2, sy_i 1), (1, sy_i ((dc_R_here (sy_rd h)).2)), (0, .ref 234)], [.ref 234], h1)) mj_d_130_56 (fun _ _ => rfl) ?_
      refine sy_gf mj_d_130_57 rfl rfl (by decide) rfl th1 ?_
      intro x60 ex60 bx60 tx60
      replace ex60 : x60 = sy_rd h1 234 16 := ex60
      rw [eh1, dr_R_here _ 234 16 rfl] at ex60
      subst ex60
      refine sy_st (S' := (mj_m_130, 99, [(2, sy_i 1), (1, sy_i ((dc_R_here (sy_rd h)).2)), (0, .ref 234)], [sy_i (sy_rd h 234 16)], h1)) mj_d_130_60 (fun _ _ => rfl) ?_
      refine sy_st (S' := (mj_m_130, 100, [(3, sy_i (sy_rd h 234 16)), (2, sy_i 1), (1, sy_i ((dc_R_here (sy_rd h)).2)), (0, .ref 234)], [], h1)) mj_d_130_99 (fun _ _ => rfl) ?_
      refine sy_st (S' := (mj_m_130, 101, [(3, sy_i (sy_rd h 234 16)), (2, sy_i 1), (1, sy_i ((dc_R_here (sy_rd h)).2)), (0, .ref 234)], [sy_i (sy_rd h 234 16)], h1)) mj_d_130_100 (fun _ _ => rfl) ?_
      refine sy_ifc mj_d_130_101 rfl ⟨by omega, by omega⟩ (fun (c61 : (sy_rd h 234 16) = 0) => ?_) (fun (c61 : ¬ ((sy_rd h 234 16) = 0)) => ?_)
      · skip
        rw [if_pos c61]
        refine sy_st (S' := (mj_m_130, 115, [(3, sy_i (sy_rd h 234 16)), (2, sy_i 1), (1, sy_i ((dc_R_here (sy_rd h)).2)), (0, .ref 234)], [.ref 234], h1)) mj_d_130_114 (fun _ _ => rfl) ?_
        refine sy_st (S' := (mj_m_130, 116, [(3, sy_i (sy_rd h 234 16)), (2, sy_i 1), (1, sy_i ((dc_R_here (sy_rd h)).2)), (0, .ref 234)], [.ref 234, .ref 234], h1)) mj_d_130_115 (fun _ _ => rfl) ?_
        refine sy_gf mj_d_130_116 rfl rfl (by decide) rfl th1 ?_
        intro x62 ex62 bx62 tx62
        replace ex62 : x62 = sy_rd h1 234 11 := ex62
        rw [eh1] at ex62
        subst ex62
        refine sy_st (S' := (mj_m_130, 120, [(3, sy_i (sy_rd h 234 16)), (2, sy_i 1), (1, sy_i ((dc_R_here (sy_rd h)).2)), (0, .ref 234)], [sy_i 1, sy_i ((dc_R_here (sy_rd h)).1 234 11), .ref 234], h1)) mj_d_130_119 (fun _ _ => rfl) ?_
        refine sy_add mj_d_130_120 ?_
        refine sg_pf (z := (((dc_R_here (sy_rd h)).1 234 11) + 1)) mj_d_130_121 rfl rfl (by decide) (Or.inl rfl) rfl th1 (by omega) (by omega) ⟨by omega, by omega⟩ ?_
        intro h63 th63 eh63
        rw [eh1] at eh63
        refine sy_st (S' := (mj_m_130, 125, [(3, sy_i (sy_rd h 234 16)), (2, sy_i 1), (1, sy_i ((dc_R_here (sy_rd h)).2)), (0, .ref 234)], [sy_i ((dc_R_here (sy_rd h)).2)], h63)) mj_d_130_124 (fun _ _ => rfl) ?_
        refine sy_bip mj_d_130_125 (by decide) ?_
        refine sy_icm mj_d_130_127 rfl ⟨by omega, by omega⟩ ⟨by omega, by omega⟩ (fun (c64 : ¬ (((dc_R_here (sy_rd h)).2) = 99)) => ?_) (fun (c64 : ¬ ¬ (((dc_R_here (sy_rd h)).2) = 99)) => ?_)
        · skip
          rw [if_neg c64]
          refine sy_st (S' := (mj_m_130, 138, [(3, sy_i (sy_rd h 234 16)), (2, sy_i 1), (1, sy_i ((dc_R_here (sy_rd h)).2)), (0, .ref 234)], [sy_i ((dc_R_here (sy_rd h)).2)], h63)) mj_d_130_137 (fun _ _ => rfl) ?_
          refine sy_bip mj_d_130_138 (by decide) ?_
          refine sy_icm mj_d_130_140 rfl ⟨by omega, by omega⟩ ⟨by omega, by omega⟩ (fun (c65 : ¬ (((dc_R_here (sy_rd h)).2) = 104)) => ?_) (fun (c65 : ¬ ¬ (((dc_R_here (sy_rd h)).2) = 104)) => ?_)
          · skip
            rw [if_neg c65]
            refine sy_st (S' := (mj_m_130, 151, [(3, sy_i (sy_rd h 234 16)), (2, sy_i 1), (1, sy_i ((dc_R_here (sy_rd h)).2)), (0, .ref 234)], [.ref 234], h63)) mj_d_130_150 (fun _ _ => rfl) ?_
            refine sy_cv (M' := mj_m_135) (vs := [.ref 234]) (rest := []) mj_d_130_151 rfl rfl rfl rfl th63 rfl rfl ⟨by decide, ⟨Nat.le_of_ble_eq_true rfl, Nat.le_of_ble_eq_true rfl, Nat.le_of_ble_eq_true rfl, Nat.le_of_ble_eq_true rfl, Nat.le_of_ble_eq_true rfl⟩⟩ (dt_R_takesSweep th63 (by rw [eh63, sg_nk (by decide), dr_R_here _ 234 22 rfl]; omega)) ?_
            rintro _ h66 ⟨th66, eh66, rfl, b67, b67t⟩
            rw [eh63] at eh66 b67 b67t ⊢
            show sy_wp (mj_m_130, 154, [(3, sy_i (sy_rd h 234 16)), (2, sy_i 1), (1, sy_i ((dc_R_here (sy_rd h)).2)), (0, .ref 234)], [sy_i ((dc_R_takesSweep (sg_up (dc_R_here (sy_rd h)).1 234 11 (((dc_R_here (sy_rd h)).1 234 11) + 1))).2)], h66) _
            refine sy_st (S' := (mj_m_130, 156, [(4, sy_i ((dc_R_takesSweep (sg_up (dc_R_here (sy_rd h)).1 234 11 (((dc_R_here (sy_rd h)).1 234 11) + 1))).2)), (3, sy_i (sy_rd h 234 16)), (2, sy_i 1), (1, sy_i ((dc_R_here (sy_rd h)).2)), (0, .ref 234)], [], h66)) mj_d_130_154 (fun _ _ => rfl) ?_
            refine sy_st (S' := (mj_m_130, 158, [(4, sy_i ((dc_R_takesSweep (sg_up (dc_R_here (sy_rd h)).1 234 11 (((dc_R_here (sy_rd h)).1 234 11) + 1))).2)), (3, sy_i (sy_rd h 234 16)), (2, sy_i 1), (1, sy_i ((dc_R_here (sy_rd h)).2)), (0, .ref 234)], [sy_i ((dc_R_takesSweep (sg_up (dc_R_here (sy_rd h)).1 234 11 (((dc_R_here (sy_rd h)).1 234 11) + 1))).2)], h66)) mj_d_130_156 (fun _ _ => rfl) ?_
            refine sy_ifc mj_d_130_158 rfl ⟨by omega, by omega⟩ (fun (c68 : ((dc_R_takesSweep (sg_up (dc_R_here (sy_rd h)).1 234 11 (((dc_R_here (sy_rd h)).1 234 11) + 1))).2) = 0) => ?_) (fun (c68 : ¬ (((dc_R_takesSweep (sg_up (dc_R_here (sy_rd h)).1 234 11 (((dc_R_here (sy_rd h)).1 234 11) + 1))).2) = 0)) => ?_)
            · skip
              rw [if_pos c68]
              refine sy_st (S' := (mj_m_130, 175, [(4, sy_i ((dc_R_takesSweep (sg_up (dc_R_here (sy_rd h)).1 234 11 (((dc_R_here (sy_rd h)).1 234 11) + 1))).2)), (3, sy_i (sy_rd h 234 16)), (2, sy_i 1), (1, sy_i ((dc_R_here (sy_rd h)).2)), (0, .ref 234)], [sy_i 0], h66)) mj_d_130_174 (fun _ _ => rfl) ?_
              exact sy_retb mj_d_130_175 rfl ⟨by omega, by omega⟩ ⟨th66, eh66, rfl, by omega, by omega⟩
            · skip
              rw [if_neg c68]
              refine sy_st (S' := (mj_m_130, 162, [(4, sy_i ((dc_R_takesSweep (sg_up (dc_R_here (sy_rd h)).1 234 11 (((dc_R_here (sy_rd h)).1 234 11) + 1))).2)), (3, sy_i (sy_rd h 234 16)), (2, sy_i 1), (1, sy_i ((dc_R_here (sy_rd h)).2)), (0, .ref 234)], [.ref 234], h66)) mj_d_130_161 (fun _ _ => rfl) ?_
              refine sy_bip mj_d_130_162 (by decide) ?_
              refine sy_cv (M' := mj_m_136) (vs := [.ref 234, sy_i 59]) (rest := []) mj_d_130_164 rfl rfl rfl rfl th66 rfl rfl ⟨by decide, ⟨Nat.le_of_ble_eq_true rfl, Nat.le_of_ble_eq_true rfl, Nat.le_of_ble_eq_true rfl, Nat.le_of_ble_eq_true rfl, Nat.le_of_ble_eq_true rfl⟩⟩ (dt_R_takes (a1 := 59) th66 (by omega) (by omega)) ?_
              rintro _ h69 ⟨th69, eh69, rfl, b70, b70t⟩
              rw [eh66] at eh69 b70 b70t ⊢
              show sy_wp (mj_m_130, 167, [(4, sy_i ((dc_R_takesSweep (sg_up (dc_R_here (sy_rd h)).1 234 11 (((dc_R_here (sy_rd h)).1 234 11) + 1))).2)), (3, sy_i (sy_rd h 234 16)), (2, sy_i 1), (1, sy_i ((dc_R_here (sy_rd h)).2)), (0, .ref 234)], [sy_i ((dc_R_takes (dc_R_takesSweep (sg_up (dc_R_here (sy_rd h)).1 234 11 (((dc_R_here (sy_rd h)).1 234 11) + 1))).1 59).2)], h69) _
              refine sy_ifc mj_d_130_167 rfl ⟨by omega, by omega⟩ (fun (c71 : ((dc_R_takes (dc_R_takesSweep (sg_up (dc_R_here (sy_rd h)).1 234 11 (((dc_R_here (sy_rd h)).1 234 11) + 1))).1 59).2) = 0) => ?_) (fun (c71 : ¬ (((dc_R_takes (dc_R_takesSweep (sg_up (dc_R_here (sy_rd h)).1 234 11 (((dc_R_here (sy_rd h)).1 234 11) + 1))).1 59).2) = 0)) => ?_)
              · skip
                rw [if_pos c71]
                refine sy_st (S' := (mj_m_130, 175, [(4, sy_i ((dc_R_takesSweep (sg_up (dc_R_here (sy_rd h)).1 234 11 (((dc_R_here (sy_rd h)).1 234 11) + 1))).2)), (3, sy_i (sy_rd h 234 16)), (2, sy_i 1), (1, sy_i ((dc_R_here (sy_rd h)).2)), (0, .ref 234)], [sy_i 0], h69)) mj_d_130_174 (fun _ _ => rfl) ?_
                exact sy_retb mj_d_130_175 rfl ⟨by omega, by omega⟩ ⟨th69, eh69, rfl, by omega, by omega⟩
              · skip
                rw [if_neg c71]
                refine sy_st (S' := (mj_m_130, 171, [(4, sy_i ((dc_R_takesSweep (sg_up (dc_R_here (sy_rd h)).1 234 11 (((dc_R_here (sy_rd h)).1 234 11) + 1))).2)), (3, sy_i (sy_rd h 234 16)), (2, sy_i 1), (1, sy_i ((dc_R_here (sy_rd h)).2)), (0, .ref 234)], [sy_i 1], h69)) mj_d_130_170 (fun _ _ => rfl) ?_
                refine sy_st (S' := (mj_m_130, 175, [(4, sy_i ((dc_R_takesSweep (sg_up (dc_R_here (sy_rd h)).1 234 11 (((dc_R_here (sy_rd h)).1 234 11) + 1))).2)), (3, sy_i (sy_rd h 234 16)), (2, sy_i 1), (1, sy_i ((dc_R_here (sy_rd h)).2)), (0, .ref 234)], [sy_i 1], h69)) mj_d_130_171 (fun _ _ => rfl) ?_
                exact sy_retb mj_d_130_175 rfl ⟨by omega, by omega⟩ ⟨th69, eh69, rfl, by omega, by omega⟩
          · skip
            rw [if_pos (Decidable.not_not.mp c65)]
            replace c65 := Decidable.not_not.mp c65
            refine sy_st (S' := (mj_m_130, 144, [(3, sy_i (sy_rd h 234 16)), (2, sy_i 1), (1, sy_i ((dc_R_here (sy_rd h)).2)), (0, .ref 234)], [.ref 234], h63)) mj_d_130_143 (fun _ _ => rfl) ?_
            refine sy_cv (M' := mj_m_134) (vs := [.ref 234]) (rest := []) mj_d_130_144 rfl rfl rfl rfl th63 rfl rfl ⟨by decide, ⟨Nat.le_of_ble_eq_true rfl, Nat.le_of_ble_eq_true rfl, Nat.le_of_ble_eq_true rfl, Nat.le_of_ble_eq_true rfl, Nat.le_of_ble_eq_true rfl⟩⟩ (dt_R_takesHouse th63 (by rw [eh63, sg_nk (by decide), dr_R_here _ 234 19 rfl]; omega)) ?_
            rintro _ h72 ⟨th72, eh72, rfl, b73, b73t⟩
            rw [eh63] at eh72 b73 b73t ⊢
            show sy_wp (mj_m_130, 147, [(3, sy_i (sy_rd h 234 16)), (2, sy_i 1), (1, sy_i ((dc_R_here (sy_rd h)).2)), (0, .ref 234)], [sy_i ((dc_R_takesHouse (sg_up (dc_R_here (sy_rd h)).1 234 11 (((dc_R_here (sy_rd h)).1 234 11) + 1))).2)], h72) _
            refine sy_st (S' := (mj_m_130, 154, [(3, sy_i (sy_rd h 234 16)), (2, sy_i 1), (1, sy_i ((dc_R_here (sy_rd h)).2)), (0, .ref 234)], [sy_i ((dc_R_takesHouse (sg_up (dc_R_here (sy_rd h)).1 234 11 (((dc_R_here (sy_rd h)).1 234 11) + 1))).2)], h72)) mj_d_130_147 (fun _ _ => rfl) ?_
            refine sy_st (S' := (mj_m_130, 156, [(4, sy_i ((dc_R_takesHouse (sg_up (dc_R_here (sy_rd h)).1 234 11 (((dc_R_here (sy_rd h)).1 234 11) + 1))).2)), (3, sy_i (sy_rd h 234 16)), (2, sy_i 1), (1, sy_i ((dc_R_here (sy_rd h)).2)), (0, .ref 234)], [], h72)) mj_d_130_154 (fun _ _ => rfl) ?_
            refine sy_st (S' := (mj_m_130, 158, [(4, sy_i ((dc_R_takesHouse (sg_up (dc_R_here (sy_rd h)).1 234 11 (((dc_R_here (sy_rd h)).1 234 11) + 1))).2)), (3, sy_i (sy_rd h 234 16)), (2, sy_i 1), (1, sy_i ((dc_R_here (sy_rd h)).2)), (0, .ref 234)], [sy_i ((dc_R_takesHouse (sg_up (dc_R_here (sy_rd h)).1 234 11 (((dc_R_here (sy_rd h)).1 234 11) + 1))).2)], h72)) mj_d_130_156 (fun _ _ => rfl) ?_
            refine sy_ifc mj_d_130_158 rfl ⟨by omega, by omega⟩ (fun (c74 : ((dc_R_takesHouse (sg_up (dc_R_here (sy_rd h)).1 234 11 (((dc_R_here (sy_rd h)).1 234 11) + 1))).2) = 0) => ?_) (fun (c74 : ¬ (((dc_R_takesHouse (sg_up (dc_R_here (sy_rd h)).1 234 11 (((dc_R_here (sy_rd h)).1 234 11) + 1))).2) = 0)) => ?_)
            · skip
              rw [if_pos c74]
              refine sy_st (S' := (mj_m_130, 175, [(4, sy_i ((dc_R_takesHouse (sg_up (dc_R_here (sy_rd h)).1 234 11 (((dc_R_here (sy_rd h)).1 234 11) + 1))).2)), (3, sy_i (sy_rd h 234 16)), (2, sy_i 1), (1, sy_i ((dc_R_here (sy_rd h)).2)), (0, .ref 234)], [sy_i 0], h72)) mj_d_130_174 (fun _ _ => rfl) ?_
              exact sy_retb mj_d_130_175 rfl ⟨by omega, by omega⟩ ⟨th72, eh72, rfl, by omega, by omega⟩
            · skip
              rw [if_neg c74]
              refine sy_st (S' := (mj_m_130, 162, [(4, sy_i ((dc_R_takesHouse (sg_up (dc_R_here (sy_rd h)).1 234 11 (((dc_R_here (sy_rd h)).1 234 11) + 1))).2)), (3, sy_i (sy_rd h 234 16)), (2, sy_i 1), (1, sy_i ((dc_R_here (sy_rd h)).2)), (0, .ref 234)], [.ref 234], h72)) mj_d_130_161 (fun _ _ => rfl) ?_
              refine sy_bip mj_d_130_162 (by decide) ?_
              refine sy_cv (M' := mj_m_136) (vs := [.ref 234, sy_i 59]) (rest := []) mj_d_130_164 rfl rfl rfl rfl th72 rfl rfl ⟨by decide, ⟨Nat.le_of_ble_eq_true rfl, Nat.le_of_ble_eq_true rfl, Nat.le_of_ble_eq_true rfl, Nat.le_of_ble_eq_true rfl, Nat.le_of_ble_eq_true rfl⟩⟩ (dt_R_takes (a1 := 59) th72 (by omega) (by omega)) ?_
              rintro _ h75 ⟨th75, eh75, rfl, b76, b76t⟩
              rw [eh72] at eh75 b76 b76t ⊢
              show sy_wp (mj_m_130, 167, [(4, sy_i ((dc_R_takesHouse (sg_up (dc_R_here (sy_rd h)).1 234 11 (((dc_R_here (sy_rd h)).1 234 11) + 1))).2)), (3, sy_i (sy_rd h 234 16)), (2, sy_i 1), (1, sy_i ((dc_R_here (sy_rd h)).2)), (0, .ref 234)], [sy_i ((dc_R_takes (dc_R_takesHouse (sg_up (dc_R_here (sy_rd h)).1 234 11 (((dc_R_here (sy_rd h)).1 234 11) + 1))).1 59).2)], h75) _
              refine sy_ifc mj_d_130_167 rfl ⟨by omega, by omega⟩ (fun (c77 : ((dc_R_takes (dc_R_takesHouse (sg_up (dc_R_here (sy_rd h)).1 234 11 (((dc_R_here (sy_rd h)).1 234 11) + 1))).1 59).2) = 0) => ?_) (fun (c77 : ¬ (((dc_R_takes (dc_R_takesHouse (sg_up (dc_R_here (sy_rd h)).1 234 11 (((dc_R_here (sy_rd h)).1 234 11) + 1))).1 59).2) = 0)) => ?_)
              · skip
                rw [if_pos c77]
                refine sy_st (S' := (mj_m_130, 175, [(4, sy_i ((dc_R_takesHouse (sg_up (dc_R_here (sy_rd h)).1 234 11 (((dc_R_here (sy_rd h)).1 234 11) + 1))).2)), (3, sy_i (sy_rd h 234 16)), (2, sy_i 1), (1, sy_i ((dc_R_here (sy_rd h)).2)), (0, .ref 234)], [sy_i 0], h75)) mj_d_130_174 (fun _ _ => rfl) ?_
                exact sy_retb mj_d_130_175 rfl ⟨by omega, by omega⟩ ⟨th75, eh75, rfl, by omega, by omega⟩
              · skip
                rw [if_neg c77]
                refine sy_st (S' := (mj_m_130, 171, [(4, sy_i ((dc_R_takesHouse (sg_up (dc_R_here (sy_rd h)).1 234 11 (((dc_R_here (sy_rd h)).1 234 11) + 1))).2)), (3, sy_i (sy_rd h 234 16)), (2, sy_i 1), (1, sy_i ((dc_R_here (sy_rd h)).2)), (0, .ref 234)], [sy_i 1], h75)) mj_d_130_170 (fun _ _ => rfl) ?_
                refine sy_st (S' := (mj_m_130, 175, [(4, sy_i ((dc_R_takesHouse (sg_up (dc_R_here (sy_rd h)).1 234 11 (((dc_R_here (sy_rd h)).1 234 11) + 1))).2)), (3, sy_i (sy_rd h 234 16)), (2, sy_i 1), (1, sy_i ((dc_R_here (sy_rd h)).2)), (0, .ref 234)], [sy_i 1], h75)) mj_d_130_171 (fun _ _ => rfl) ?_
                exact sy_retb mj_d_130_175 rfl ⟨by omega, by omega⟩ ⟨th75, eh75, rfl, by omega, by omega⟩
        · skip
          rw [if_pos (Decidable.not_not.mp c64)]
          replace c64 := Decidable.not_not.mp c64
          refine sy_st (S' := (mj_m_130, 131, [(3, sy_i (sy_rd h 234 16)), (2, sy_i 1), (1, sy_i ((dc_R_here (sy_rd h)).2)), (0, .ref 234)], [.ref 234], h63)) mj_d_130_130 (fun _ _ => rfl) ?_
          refine sy_cv (M' := mj_m_132) (vs := [.ref 234]) (rest := []) mj_d_130_131 rfl rfl rfl rfl th63 rfl rfl ⟨by decide, ⟨Nat.le_of_ble_eq_true rfl, Nat.le_of_ble_eq_true rfl, Nat.le_of_ble_eq_true rfl, Nat.le_of_ble_eq_true rfl, Nat.le_of_ble_eq_true rfl⟩⟩ (dt_R_takesCity th63) ?_
          rintro _ h78 ⟨th78, eh78, rfl, b79, b79t⟩
          rw [eh63] at eh78 b79 b79t ⊢
          show sy_wp (mj_m_130, 134, [(3, sy_i (sy_rd h 234 16)), (2, sy_i 1), (1, sy_i ((dc_R_here (sy_rd h)).2)), (0, .ref 234)], [sy_i ((dc_R_takesCity (sg_up (dc_R_here (sy_rd h)).1 234 11 (((dc_R_here (sy_rd h)).1 234 11) + 1))).2)], h78) _
          refine sy_st (S' := (mj_m_130, 154, [(3, sy_i (sy_rd h 234 16)), (2, sy_i 1), (1, sy_i ((dc_R_here (sy_rd h)).2)), (0, .ref 234)], [sy_i ((dc_R_takesCity (sg_up (dc_R_here (sy_rd h)).1 234 11 (((dc_R_here (sy_rd h)).1 234 11) + 1))).2)], h78)) mj_d_130_134 (fun _ _ => rfl) ?_
          refine sy_st (S' := (mj_m_130, 156, [(4, sy_i ((dc_R_takesCity (sg_up (dc_R_here (sy_rd h)).1 234 11 (((dc_R_here (sy_rd h)).1 234 11) + 1))).2)), (3, sy_i (sy_rd h 234 16)), (2, sy_i 1), (1, sy_i ((dc_R_here (sy_rd h)).2)), (0, .ref 234)], [], h78)) mj_d_130_154 (fun _ _ => rfl) ?_
          refine sy_st (S' := (mj_m_130, 158, [(4, sy_i ((dc_R_takesCity (sg_up (dc_R_here (sy_rd h)).1 234 11 (((dc_R_here (sy_rd h)).1 234 11) + 1))).2)), (3, sy_i (sy_rd h 234 16)), (2, sy_i 1), (1, sy_i ((dc_R_here (sy_rd h)).2)), (0, .ref 234)], [sy_i ((dc_R_takesCity (sg_up (dc_R_here (sy_rd h)).1 234 11 (((dc_R_here (sy_rd h)).1 234 11) + 1))).2)], h78)) mj_d_130_156 (fun _ _ => rfl) ?_
          refine sy_ifc mj_d_130_158 rfl ⟨by omega, by omega⟩ (fun (c80 : ((dc_R_takesCity (sg_up (dc_R_here (sy_rd h)).1 234 11 (((dc_R_here (sy_rd h)).1 234 11) + 1))).2) = 0) => ?_) (fun (c80 : ¬ (((dc_R_takesCity (sg_up (dc_R_here (sy_rd h)).1 234 11 (((dc_R_here (sy_rd h)).1 234 11) + 1))).2) = 0)) => ?_)
          · skip
            rw [if_pos c80]
            refine sy_st (S' := (mj_m_130, 175, [(4, sy_i ((dc_R_takesCity (sg_up (dc_R_here (sy_rd h)).1 234 11 (((dc_R_here (sy_rd h)).1 234 11) + 1))).2)), (3, sy_i (sy_rd h 234 16)), (2, sy_i 1), (1, sy_i ((dc_R_here (sy_rd h)).2)), (0, .ref 234)], [sy_i 0], h78)) mj_d_130_174 (fun _ _ => rfl) ?_
            exact sy_retb mj_d_130_175 rfl ⟨by omega, by omega⟩ ⟨th78, eh78, rfl, by omega, by omega⟩
          · skip
            rw [if_neg c80]
            refine sy_st (S' := (mj_m_130, 162, [(4, sy_i ((dc_R_takesCity (sg_up (dc_R_here (sy_rd h)).1 234 11 (((dc_R_here (sy_rd h)).1 234 11) + 1))).2)), (3, sy_i (sy_rd h 234 16)), (2, sy_i 1), (1, sy_i ((dc_R_here (sy_rd h)).2)), (0, .ref 234)], [.ref 234], h78)) mj_d_130_161 (fun _ _ => rfl) ?_
            refine sy_bip mj_d_130_162 (by decide) ?_
            refine sy_cv (M' := mj_m_136) (vs := [.ref 234, sy_i 59]) (rest := []) mj_d_130_164 rfl rfl rfl rfl th78 rfl rfl ⟨by decide, ⟨Nat.le_of_ble_eq_true rfl, Nat.le_of_ble_eq_true rfl, Nat.le_of_ble_eq_true rfl, Nat.le_of_ble_eq_true rfl, Nat.le_of_ble_eq_true rfl⟩⟩ (dt_R_takes (a1 := 59) th78 (by omega) (by omega)) ?_
            rintro _ h81 ⟨th81, eh81, rfl, b82, b82t⟩
            rw [eh78] at eh81 b82 b82t ⊢
            show sy_wp (mj_m_130, 167, [(4, sy_i ((dc_R_takesCity (sg_up (dc_R_here (sy_rd h)).1 234 11 (((dc_R_here (sy_rd h)).1 234 11) + 1))).2)), (3, sy_i (sy_rd h 234 16)), (2, sy_i 1), (1, sy_i ((dc_R_here (sy_rd h)).2)), (0, .ref 234)], [sy_i ((dc_R_takes (dc_R_takesCity (sg_up (dc_R_here (sy_rd h)).1 234 11 (((dc_R_here (sy_rd h)).1 234 11) + 1))).1 59).2)], h81) _
            refine sy_ifc mj_d_130_167 rfl ⟨by omega, by omega⟩ (fun (c83 : ((dc_R_takes (dc_R_takesCity (sg_up (dc_R_here (sy_rd h)).1 234 11 (((dc_R_here (sy_rd h)).1 234 11) + 1))).1 59).2) = 0) => ?_) (fun (c83 : ¬ (((dc_R_takes (dc_R_takesCity (sg_up (dc_R_here (sy_rd h)).1 234 11 (((dc_R_here (sy_rd h)).1 234 11) + 1))).1 59).2) = 0)) => ?_)
            · skip
              rw [if_pos c83]
              refine sy_st (S' := (mj_m_130, 175, [(4, sy_i ((dc_R_takesCity (sg_up (dc_R_here (sy_rd h)).1 234 11 (((dc_R_here (sy_rd h)).1 234 11) + 1))).2)), (3, sy_i (sy_rd h 234 16)), (2, sy_i 1), (1, sy_i ((dc_R_here (sy_rd h)).2)), (0, .ref 234)], [sy_i 0], h81)) mj_d_130_174 (fun _ _ => rfl) ?_
              exact sy_retb mj_d_130_175 rfl ⟨by omega, by omega⟩ ⟨th81, eh81, rfl, by omega, by omega⟩
            · skip
              rw [if_neg c83]
              refine sy_st (S' := (mj_m_130, 171, [(4, sy_i ((dc_R_takesCity (sg_up (dc_R_here (sy_rd h)).1 234 11 (((dc_R_here (sy_rd h)).1 234 11) + 1))).2)), (3, sy_i (sy_rd h 234 16)), (2, sy_i 1), (1, sy_i ((dc_R_here (sy_rd h)).2)), (0, .ref 234)], [sy_i 1], h81)) mj_d_130_170 (fun _ _ => rfl) ?_
              refine sy_st (S' := (mj_m_130, 175, [(4, sy_i ((dc_R_takesCity (sg_up (dc_R_here (sy_rd h)).1 234 11 (((dc_R_here (sy_rd h)).1 234 11) + 1))).2)), (3, sy_i (sy_rd h 234 16)), (2, sy_i 1), (1, sy_i ((dc_R_here (sy_rd h)).2)), (0, .ref 234)], [sy_i 1], h81)) mj_d_130_171 (fun _ _ => rfl) ?_
              exact sy_retb mj_d_130_175 rfl ⟨by omega, by omega⟩ ⟨th81, eh81, rfl, by omega, by omega⟩
      · skip
        rw [if_neg c61]
        refine sy_st (S' := (mj_m_130, 105, [(3, sy_i (sy_rd h 234 16)), (2, sy_i 1), (1, sy_i ((dc_R_here (sy_rd h)).2)), (0, .ref 234)], [.ref 234], h1)) mj_d_130_104 (fun _ _ => rfl) ?_
        refine sy_st (S' := (mj_m_130, 106, [(3, sy_i (sy_rd h 234 16)), (2, sy_i 1), (1, sy_i ((dc_R_here (sy_rd h)).2)), (0, .ref 234)], [sy_i 3, .ref 234], h1)) mj_d_130_105 (fun _ _ => rfl) ?_
        refine sy_st (S' := (mj_m_130, 107, [(3, sy_i (sy_rd h 234 16)), (2, sy_i 1), (1, sy_i ((dc_R_here (sy_rd h)).2)), (0, .ref 234)], [.ref 234, sy_i 3, .ref 234], h1)) mj_d_130_106 (fun _ _ => rfl) ?_
        refine sy_gf mj_d_130_107 rfl rfl (by decide) rfl th1 ?_
        intro x84 ex84 bx84 tx84
        replace ex84 : x84 = sy_rd h1 234 12 := ex84
        rw [eh1] at ex84
        subst ex84
        refine sy_cv (M' := mj_m_131) (vs := [.ref 234, sy_i 3, sy_i ((dc_R_here (sy_rd h)).1 234 12)]) (rest := []) mj_d_130_110 rfl rfl rfl rfl th1 rfl rfl ⟨by decide, ⟨Nat.le_of_ble_eq_true rfl, Nat.le_of_ble_eq_true rfl, Nat.le_of_ble_eq_true rfl, Nat.le_of_ble_eq_true rfl, Nat.le_of_ble_eq_true rfl⟩⟩ (dt_R_fails (a1 := 3) (a2 := ((dc_R_here (sy_rd h)).1 234 12)) th1 (by omega) (by omega) (by omega) (by omega)) ?_
        rintro _ h85 ⟨th85, eh85, rfl, b86, b86t⟩
        rw [eh1] at eh85 b86 b86t ⊢
        show sy_wp (mj_m_130, 113, [(3, sy_i (sy_rd h 234 16)), (2, sy_i 1), (1, sy_i ((dc_R_here (sy_rd h)).2)), (0, .ref 234)], [sy_i ((dc_R_fails (dc_R_here (sy_rd h)).1 3 ((dc_R_here (sy_rd h)).1 234 12)).2)], h85) _
        exact sy_retb mj_d_130_113 rfl ⟨by omega, by omega⟩ ⟨th85, eh85, rfl, by omega, by omega⟩
  · skip
    rw [if_neg c3]
    refine sy_st (S' := (mj_m_130, 12, [(1, sy_i ((dc_R_here (sy_rd h)).2)), (0, .ref 234)], [.ref 234], h1)) mj_d_130_11 (fun _ _ => rfl) ?_
    refine sy_gf mj_d_130_12 rfl rfl (by decide) rfl th1 ?_
    intro x87 ex87 bx87 tx87
    replace ex87 : x87 = sy_rd h1 234 16 := ex87
    rw [eh1, dr_R_here _ 234 16 rfl] at ex87
    subst ex87
    refine sy_ifc mj_d_130_15 rfl ⟨by omega, by omega⟩ (fun (c88 : (sy_rd h 234 16) = 0) => ?_) (fun (c88 : ¬ ((sy_rd h 234 16) = 0)) => ?_)
    · skip
      rw [if_pos c88]
      refine sy_st (S' := (mj_m_130, 35, [(1, sy_i ((dc_R_here (sy_rd h)).2)), (0, .ref 234)], [sy_i 0], h1)) mj_d_130_34 (fun _ _ => rfl) ?_
      refine sy_st (S' := (mj_m_130, 36, [(2, sy_i 0), (1, sy_i ((dc_R_here (sy_rd h)).2)), (0, .ref 234)], [], h1)) mj_d_130_35 (fun _ _ => rfl) ?_
      refine sy_st (S' := (mj_m_130, 37, [(2, sy_i 0), (1, sy_i ((dc_R_here (sy_rd h)).2)), (0, .ref 234)], [sy_i 0], h1)) mj_d_130_36 (fun _ _ => rfl) ?_
      refine sy_ifc mj_d_130_37 rfl ⟨by omega, by omega⟩ (fun (q : ¬ (0 : Int) = 0) => absurd q (by decide)) (fun _ => ?_)
      refine sy_st (S' := (mj_m_130, 41, [(2, sy_i 0), (1, sy_i ((dc_R_here (sy_rd h)).2)), (0, .ref 234)], [.ref 234], h1)) mj_d_130_40 (fun _ _ => rfl) ?_
      refine sy_st (S' := (mj_m_130, 42, [(2, sy_i 0), (1, sy_i ((dc_R_here (sy_rd h)).2)), (0, .ref 234)], [sy_i 1, .ref 234], h1)) mj_d_130_41 (fun _ _ => rfl) ?_
      refine sy_st (S' := (mj_m_130, 43, [(2, sy_i 0), (1, sy_i ((dc_R_here (sy_rd h)).2)), (0, .ref 234)], [.ref 234, sy_i 1, .ref 234], h1)) mj_d_130_42 (fun _ _ => rfl) ?_
      refine sy_gf mj_d_130_43 rfl rfl (by decide) rfl th1 ?_
      intro x89 ex89 bx89 tx89
      replace ex89 : x89 = sy_rd h1 234 12 := ex89
      rw [eh1] at ex89
      subst ex89
      refine sy_cv (M' := mj_m_131) (vs := [.ref 234, sy_i 1, sy_i ((dc_R_here (sy_rd h)).1 234 12)]) (rest := []) mj_d_130_46 rfl rfl rfl rfl th1 rfl rfl ⟨by decide, ⟨Nat.le_of_ble_eq_true rfl, Nat.le_of_ble_eq_true rfl, Nat.le_of_ble_eq_true rfl, Nat.le_of_ble_eq_true rfl, Nat.le_of_ble_eq_true rfl⟩⟩ (dt_R_fails (a1 := 1) (a2 := ((dc_R_here (sy_rd h)).1 234 12)) th1 (by omega) (by omega) (by omega) (by omega)) ?_
      rintro _ h90 ⟨th90, eh90, rfl, b91, b91t⟩
      rw [eh1] at eh90 b91 b91t ⊢
      show sy_wp (mj_m_130, 49, [(2, sy_i 0), (1, sy_i ((dc_R_here (sy_rd h)).2)), (0, .ref 234)], [sy_i ((dc_R_fails (dc_R_here (sy_rd h)).1 1 ((dc_R_here (sy_rd h)).1 234 12)).2)], h90) _
      exact sy_retb mj_d_130_49 rfl ⟨by omega, by omega⟩ ⟨th90, eh90, rfl, by omega, by omega⟩
    · skip
      rw [if_neg c88]
      refine sy_st (S' := (mj_m_130, 19, [(1, sy_i ((dc_R_here (sy_rd h)).2)), (0, .ref 234)], [sy_i ((dc_R_here (sy_rd h)).2)], h1)) mj_d_130_18 (fun _ _ => rfl) ?_
      refine sy_bip mj_d_130_19 (by decide) ?_
      refine sy_icm mj_d_130_21 rfl ⟨by omega, by omega⟩ ⟨by omega, by omega⟩ (fun (c92 : ((dc_R_here (sy_rd h)).2) = 104) => ?_) (fun (c92 : ¬ (((dc_R_here (sy_rd h)).2) = 104)) => ?_)
      · skip
        rw [if_pos c92]
        refine sy_st (S' := (mj_m_130, 31, [(1, sy_i ((dc_R_here (sy_rd h)).2)), (0, .ref 234)], [sy_i 1], h1)) mj_d_130_30 (fun _ _ => rfl) ?_
        refine sy_st (S' := (mj_m_130, 35, [(1, sy_i ((dc_R_here (sy_rd h)).2)), (0, .ref 234)], [sy_i 1], h1)) mj_d_130_31 (fun _ _ => rfl) ?_
        refine sy_st (S' := (mj_m_130, 36, [(2, sy_i 1), (1, sy_i ((dc_R_here (sy_rd h)).2)), (0, .ref 234)], [], h1)) mj_d_130_35 (fun _ _ => rfl) ?_
        refine sy_st (S' := (mj_m_130, 37, [(2, sy_i 1), (1, sy_i ((dc_R_here (sy_rd h)).2)), (0, .ref 234)], [sy_i 1], h1)) mj_d_130_36 (fun _ _ => rfl) ?_
        refine sy_ifc mj_d_130_37 rfl ⟨by omega, by omega⟩ (fun _ => ?_) (fun (q : ¬ (¬ (1 : Int) = 0)) => absurd (by decide) q)
        refine sy_st (S' := (mj_m_130, 51, [(2, sy_i 1), (1, sy_i ((dc_R_here (sy_rd h)).2)), (0, .ref 234)], [sy_i ((dc_R_here (sy_rd h)).2)], h1)) mj_d_130_50 (fun _ _ => rfl) ?_
        refine sy_bip mj_d_130_51 (by decide) ?_
        refine sy_icm mj_d_130_53 rfl ⟨by omega, by omega⟩ ⟨by omega, by omega⟩ (fun (c93 : ¬ (((dc_R_here (sy_rd h)).2) = 99)) => ?_) (fun (c93 : ¬ ¬ (((dc_R_here (sy_rd h)).2) = 99)) => ?_)
        · skip
          rw [if_neg c93]
          refine sy_st (S' := (mj_m_130, 64, [(2, sy_i 1), (1, sy_i ((dc_R_here (sy_rd h)).2)), (0, .ref 234)], [sy_i ((dc_R_here (sy_rd h)).2)], h1)) mj_d_130_63 (fun _ _ => rfl) ?_
          refine sy_bip mj_d_130_64 (by decide) ?_
          refine sy_icm mj_d_130_66 rfl ⟨by omega, by omega⟩ ⟨by omega, by omega⟩ (fun (c94 : ¬ (((dc_R_here (sy_rd h)).2) = 104)) => ?_) (fun (c94 : ¬ ¬ (((dc_R_here (sy_rd h)).2) = 104)) => ?_)
          · skip
            rw [if_neg c94]
            refine sy_st (S' := (mj_m_130, 87, [(2, sy_i 1), (1, sy_i ((dc_R_here (sy_rd h)).2)), (0, .ref 234)], [.ref 234], h1)) mj_d_130_86 (fun _ _ => rfl) ?_
            refine sy_gf mj_d_130_87 rfl rfl (by decide) rfl th1 ?_
            intro x95 ex95 bx95 tx95
            replace ex95 : x95 = sy_rd h1 234 22 := ex95
            rw [eh1, dr_R_here _ 234 22 rfl] at ex95
            subst ex95
            refine sy_st (S' := (mj_m_130, 91, [(2, sy_i 1), (1, sy_i ((dc_R_here (sy_rd h)).2)), (0, .ref 234)], [sy_i 5, sy_i (sy_rd h 234 22)], h1)) mj_d_130_90 (fun _ _ => rfl) ?_
            refine sy_icm mj_d_130_91 rfl ⟨by omega, by omega⟩ ⟨by omega, by omega⟩ (fun (c96 : ¬ ((sy_rd h 234 22) = 5)) => ?_) (fun (c96 : ¬ ¬ ((sy_rd h 234 22) = 5)) => ?_)
            · skip
              rw [if_neg c96]
              refine sy_st (S' := (mj_m_130, 99, [(2, sy_i 1), (1, sy_i ((dc_R_here (sy_rd h)).2)), (0, .ref 234)], [sy_i 0], h1)) mj_d_130_98 (fun _ _ => rfl) ?_
              refine sy_st (S' := (mj_m_130, 100, [(3, sy_i 0), (2, sy_i 1), (1, sy_i ((dc_R_here (sy_rd h)).2)), (0, .ref 234)], [], h1)) mj_d_130_99 (fun _ _ => rfl) ?_
              refine sy_st (S' := (mj_m_130, 101, [(3, sy_i 0), (2, sy_i 1), (1, sy_i ((dc_R_here (sy_rd h)).2)), (0, .ref 234)], [sy_i 0], h1)) mj_d_130_100 (fun _ _ => rfl) ?_
              refine sy_ifc mj_d_130_101 rfl ⟨by omega, by omega⟩ (fun _ => ?_) (fun (q : ¬ ((0 : Int) = 0)) => absurd (by decide) q)
              refine sy_st (S' := (mj_m_130, 115, [(3, sy_i 0), (2, sy_i 1), (1, sy_i ((dc_R_here (sy_rd h)).2)), (0, .ref 234)], [.ref 234], h1)) mj_d_130_114 (fun _ _ => rfl) ?_
              refine sy_st (S' := (mj_m_130, 116, [(3, sy_i 0), (2, sy_i 1), (1, sy_i ((dc_R_here (sy_rd h)).2)), (0, .ref 234)], [.ref 234, .ref 234], h1)) mj_d_130_115 (fun _ _ => rfl) ?_
              refine sy_gf mj_d_130_116 rfl rfl (by decide) rfl th1 ?_
              intro x97 ex97 bx97 tx97
              replace ex97 : x97 = sy_rd h1 234 11 := ex97
              rw [eh1] at ex97
              subst ex97
              refine sy_st (S' := (mj_m_130, 120, [(3, sy_i 0), (2, sy_i 1), (1, sy_i ((dc_R_here (sy_rd h)).2)), (0, .ref 234)], [sy_i 1, sy_i ((dc_R_here (sy_rd h)).1 234 11), .ref 234], h1)) mj_d_130_119 (fun _ _ => rfl) ?_
              refine sy_add mj_d_130_120 ?_
              refine sg_pf (z := (((dc_R_here (sy_rd h)).1 234 11) + 1)) mj_d_130_121 rfl rfl (by decide) (Or.inl rfl) rfl th1 (by omega) (by omega) ⟨by omega, by omega⟩ ?_
              intro h98 th98 eh98
              rw [eh1] at eh98
              refine sy_st (S' := (mj_m_130, 125, [(3, sy_i 0), (2, sy_i 1), (1, sy_i ((dc_R_here (sy_rd h)).2)), (0, .ref 234)], [sy_i ((dc_R_here (sy_rd h)).2)], h98)) mj_d_130_124 (fun _ _ => rfl) ?_
              refine sy_bip mj_d_130_125 (by decide) ?_
              refine sy_icm mj_d_130_127 rfl ⟨by omega, by omega⟩ ⟨by omega, by omega⟩ (fun (c99 : ¬ (((dc_R_here (sy_rd h)).2) = 99)) => ?_) (fun (c99 : ¬ ¬ (((dc_R_here (sy_rd h)).2) = 99)) => ?_)
              · skip
                rw [if_neg c99]
                refine sy_st (S' := (mj_m_130, 138, [(3, sy_i 0), (2, sy_i 1), (1, sy_i ((dc_R_here (sy_rd h)).2)), (0, .ref 234)], [sy_i ((dc_R_here (sy_rd h)).2)], h98)) mj_d_130_137 (fun _ _ => rfl) ?_
                refine sy_bip mj_d_130_138 (by decide) ?_
                refine sy_icm mj_d_130_140 rfl ⟨by omega, by omega⟩ ⟨by omega, by omega⟩ (fun (c100 : ¬ (((dc_R_here (sy_rd h)).2) = 104)) => ?_) (fun (c100 : ¬ ¬ (((dc_R_here (sy_rd h)).2) = 104)) => ?_)
                · skip
                  rw [if_neg c100]
                  refine sy_st (S' := (mj_m_130, 151, [(3, sy_i 0), (2, sy_i 1), (1, sy_i ((dc_R_here (sy_rd h)).2)), (0, .ref 234)], [.ref 234], h98)) mj_d_130_150 (fun _ _ => rfl) ?_
                  refine sy_cv (M' := mj_m_135) (vs := [.ref 234]) (rest := []) mj_d_130_151 rfl rfl rfl rfl th98 rfl rfl ⟨by decide, ⟨Nat.le_of_ble_eq_true rfl, Nat.le_of_ble_eq_true rfl, Nat.le_of_ble_eq_true rfl, Nat.le_of_ble_eq_true rfl, Nat.le_of_ble_eq_true rfl⟩⟩ (dt_R_takesSweep th98 (by rw [eh98, sg_nk (by decide), dr_R_here _ 234 22 rfl]; omega)) ?_
                  rintro _ h101 ⟨th101, eh101, rfl, b102, b102t⟩
                  rw [eh98] at eh101 b102 b102t ⊢
                  show sy_wp (mj_m_130, 154, [(3, sy_i 0), (2, sy_i 1), (1, sy_i ((dc_R_here (sy_rd h)).2)), (0, .ref 234)], [sy_i ((dc_R_takesSweep (sg_up (dc_R_here (sy_rd h)).1 234 11 (((dc_R_here (sy_rd h)).1 234 11) + 1))).2)], h101) _
                  refine sy_st (S' := (mj_m_130, 156, [(4, sy_i ((dc_R_takesSweep (sg_up (dc_R_here (sy_rd h)).1 234 11 (((dc_R_here (sy_rd h)).1 234 11) + 1))).2)), (3, sy_i 0), (2, sy_i 1), (1, sy_i ((dc_R_here (sy_rd h)).2)), (0, .ref 234)], [], h101)) mj_d_130_154 (fun _ _ => rfl) ?_
                  refine sy_st (S' := (mj_m_130, 158, [(4, sy_i ((dc_R_takesSweep (sg_up (dc_R_here (sy_rd h)).1 234 11 (((dc_R_here (sy_rd h)).1 234 11) + 1))).2)), (3, sy_i 0), (2, sy_i 1), (1, sy_i ((dc_R_here (sy_rd h)).2)), (0, .ref 234)], [sy_i ((dc_R_takesSweep (sg_up (dc_R_here (sy_rd h)).1 234 11 (((dc_R_here (sy_rd h)).1 234 11) + 1))).2)], h101)) mj_d_130_156 (fun _ _ => rfl) ?_
                  refine sy_ifc mj_d_130_158 rfl ⟨by omega, by omega⟩ (fun (c103 : ((dc_R_takesSweep (sg_up (dc_R_here (sy_rd h)).1 234 11 (((dc_R_here (sy_rd h)).1 234 11) + 1))).2) = 0) => ?_) (fun (c103 : ¬ (((dc_R_takesSweep (sg_up (dc_R_here (sy_rd h)).1 234 11 (((dc_R_here (sy_rd h)).1 234 11) + 1))).2) = 0)) => ?_)
                  · skip
                    rw [if_pos c103]
                    refine sy_st (S' := (mj_m_130, 175, [(4, sy_i ((dc_R_takesSweep (sg_up (dc_R_here (sy_rd h)).1 234 11 (((dc_R_here (sy_rd h)).1 234 11) + 1))).2)), (3, sy_i 0), (2, sy_i 1), (1, sy_i ((dc_R_here (sy_rd h)).2)), (0, .ref 234)], [sy_i 0], h101)) mj_d_130_174 (fun _ _ => rfl) ?_
                    exact sy_retb mj_d_130_175 rfl ⟨by omega, by omega⟩ ⟨th101, eh101, rfl, by omega, by omega⟩
                  · skip
                    rw [if_neg c103]
                    refine sy_st (S' := (mj_m_130, 162, [(4, sy_i ((dc_R_takesSweep (sg_up (dc_R_here (sy_rd h)).1 234 11 (((dc_R_here (sy_rd h)).1 234 11) + 1))).2)), (3, sy_i 0), (2, sy_i 1), (1, sy_i ((dc_R_here (sy_rd h)).2)), (0, .ref 234)], [.ref 234], h101)) mj_d_130_161 (fun _ _ => rfl) ?_
                    refine sy_bip mj_d_130_162 (by decide) ?_
                    refine sy_cv (M' := mj_m_136) (vs := [.ref 234, sy_i 59]) (rest := []) mj_d_130_164 rfl rfl rfl rfl th101 rfl rfl ⟨by decide, ⟨Nat.le_of_ble_eq_true rfl, Nat.le_of_ble_eq_true rfl, Nat.le_of_ble_eq_true rfl, Nat.le_of_ble_eq_true rfl, Nat.le_of_ble_eq_true rfl⟩⟩ (dt_R_takes (a1 := 59) th101 (by omega) (by omega)) ?_
                    rintro _ h104 ⟨th104, eh104, rfl, b105, b105t⟩
                    rw [eh101] at eh104 b105 b105t ⊢
                    show sy_wp (mj_m_130, 167, [(4, sy_i ((dc_R_takesSweep (sg_up (dc_R_here (sy_rd h)).1 234 11 (((dc_R_here (sy_rd h)).1 234 11) + 1))).2)), (3, sy_i 0), (2, sy_i 1), (1, sy_i ((dc_R_here (sy_rd h)).2)), (0, .ref 234)], [sy_i ((dc_R_takes (dc_R_takesSweep (sg_up (dc_R_here (sy_rd h)).1 234 11 (((dc_R_here (sy_rd h)).1 234 11) + 1))).1 59).2)], h104) _
                    refine sy_ifc mj_d_130_167 rfl ⟨by omega, by omega⟩ (fun (c106 : ((dc_R_takes (dc_R_takesSweep (sg_up (dc_R_here (sy_rd h)).1 234 11 (((dc_R_here (sy_rd h)).1 234 11) + 1))).1 59).2) = 0) => ?_) (fun (c106 : ¬ (((dc_R_takes (dc_R_takesSweep (sg_up (dc_R_here (sy_rd h)).1 234 11 (((dc_R_here (sy_rd h)).1 234 11) + 1))).1 59).2) = 0)) => ?_)
                    · skip
                      rw [if_pos c106]
                      refine sy_st (S' := (mj_m_130, 175, [(4, sy_i ((dc_R_takesSweep (sg_up (dc_R_here (sy_rd h)).1 234 11 (((dc_R_here (sy_rd h)).1 234 11) + 1))).2)), (3, sy_i 0), (2, sy_i 1), (1, sy_i ((dc_R_here (sy_rd h)).2)), (0, .ref 234)], [sy_i 0], h104)) mj_d_130_174 (fun _ _ => rfl) ?_
                      exact sy_retb mj_d_130_175 rfl ⟨by omega, by omega⟩ ⟨th104, eh104, rfl, by omega, by omega⟩
                    · skip
                      rw [if_neg c106]
                      refine sy_st (S' := (mj_m_130, 171, [(4, sy_i ((dc_R_takesSweep (sg_up (dc_R_here (sy_rd h)).1 234 11 (((dc_R_here (sy_rd h)).1 234 11) + 1))).2)), (3, sy_i 0), (2, sy_i 1), (1, sy_i ((dc_R_here (sy_rd h)).2)), (0, .ref 234)], [sy_i 1], h104)) mj_d_130_170 (fun _ _ => rfl) ?_
                      refine sy_st (S' := (mj_m_130, 175, [(4, sy_i ((dc_R_takesSweep (sg_up (dc_R_here (sy_rd h)).1 234 11 (((dc_R_here (sy_rd h)).1 234 11) + 1))).2)), (3, sy_i 0), (2, sy_i 1), (1, sy_i ((dc_R_here (sy_rd h)).2)), (0, .ref 234)], [sy_i 1], h104)) mj_d_130_171 (fun _ _ => rfl) ?_
                      exact sy_retb mj_d_130_175 rfl ⟨by omega, by omega⟩ ⟨th104, eh104, rfl, by omega, by omega⟩
                · skip
                  rw [if_pos (Decidable.not_not.mp c100)]
                  replace c100 := Decidable.not_not.mp c100
                  refine sy_st (S' := (mj_m_130, 144, [(3, sy_i 0), (2, sy_i 1), (1, sy_i ((dc_R_here (sy_rd h)).2)), (0, .ref 234)], [.ref 234], h98)) mj_d_130_143 (fun _ _ => rfl) ?_
                  refine sy_cv (M' := mj_m_134) (vs := [.ref 234]) (rest := []) mj_d_130_144 rfl rfl rfl rfl th98 rfl rfl ⟨by decide, ⟨Nat.le_of_ble_eq_true rfl, Nat.le_of_ble_eq_true rfl, Nat.le_of_ble_eq_true rfl, Nat.le_of_ble_eq_true rfl, Nat.le_of_ble_eq_true rfl⟩⟩ (dt_R_takesHouse th98 (by rw [eh98, sg_nk (by decide), dr_R_here _ 234 19 rfl]; omega)) ?_
                  rintro _ h107 ⟨th107, eh107, rfl, b108, b108t⟩
                  rw [eh98] at eh107 b108 b108t ⊢
                  show sy_wp (mj_m_130, 147, [(3, sy_i 0), (2, sy_i 1), (1, sy_i ((dc_R_here (sy_rd h)).2)), (0, .ref 234)], [sy_i ((dc_R_takesHouse (sg_up (dc_R_here (sy_rd h)).1 234 11 (((dc_R_here (sy_rd h)).1 234 11) + 1))).2)], h107) _
                  refine sy_st (S' := (mj_m_130, 154, [(3, sy_i 0), (2, sy_i 1), (1, sy_i ((dc_R_here (sy_rd h)).2)), (0, .ref 234)], [sy_i ((dc_R_takesHouse (sg_up (dc_R_here (sy_rd h)).1 234 11 (((dc_R_here (sy_rd h)).1 234 11) + 1))).2)], h107)) mj_d_130_147 (fun _ _ => rfl) ?_
                  refine sy_st (S' := (mj_m_130, 156, [(4, sy_i ((dc_R_takesHouse (sg_up (dc_R_here (sy_rd h)).1 234 11 (((dc_R_here (sy_rd h)).1 234 11) + 1))).2)), (3, sy_i 0), (2, sy_i 1), (1, sy_i ((dc_R_here (sy_rd h)).2)), (0, .ref 234)], [], h107)) mj_d_130_154 (fun _ _ => rfl) ?_
                  refine sy_st (S' := (mj_m_130, 158, [(4, sy_i ((dc_R_takesHouse (sg_up (dc_R_here (sy_rd h)).1 234 11 (((dc_R_here (sy_rd h)).1 234 11) + 1))).2)), (3, sy_i 0), (2, sy_i 1), (1, sy_i ((dc_R_here (sy_rd h)).2)), (0, .ref 234)], [sy_i ((dc_R_takesHouse (sg_up (dc_R_here (sy_rd h)).1 234 11 (((dc_R_here (sy_rd h)).1 234 11) + 1))).2)], h107)) mj_d_130_156 (fun _ _ => rfl) ?_
                  refine sy_ifc mj_d_130_158 rfl ⟨by omega, by omega⟩ (fun (c109 : ((dc_R_takesHouse (sg_up (dc_R_here (sy_rd h)).1 234 11 (((dc_R_here (sy_rd h)).1 234 11) + 1))).2) = 0) => ?_) (fun (c109 : ¬ (((dc_R_takesHouse (sg_up (dc_R_here (sy_rd h)).1 234 11 (((dc_R_here (sy_rd h)).1 234 11) + 1))).2) = 0)) => ?_)
                  · skip
                    rw [if_pos c109]
                    refine sy_st (S' := (mj_m_130, 175, [(4, sy_i ((dc_R_takesHouse (sg_up (dc_R_here (sy_rd h)).1 234 11 (((dc_R_here (sy_rd h)).1 234 11) + 1))).2)), (3, sy_i 0), (2, sy_i 1), (1, sy_i ((dc_R_here (sy_rd h)).2)), (0, .ref 234)], [sy_i 0], h107)) mj_d_130_174 (fun _ _ => rfl) ?_
                    exact sy_retb mj_d_130_175 rfl ⟨by omega, by omega⟩ ⟨th107, eh107, rfl, by omega, by omega⟩
                  · skip
                    rw [if_neg c109]
                    refine sy_st (S' := (mj_m_130, 162, [(4, sy_i ((dc_R_takesHouse (sg_up (dc_R_here (sy_rd h)).1 234 11 (((dc_R_here (sy_rd h)).1 234 11) + 1))).2)), (3, sy_i 0), (2, sy_i 1), (1, sy_i ((dc_R_here (sy_rd h)).2)), (0, .ref 234)], [.ref 234], h107)) mj_d_130_161 (fun _ _ => rfl) ?_
                    refine sy_bip mj_d_130_162 (by decide) ?_
                    refine sy_cv (M' := mj_m_136) (vs := [.ref 234, sy_i 59]) (rest := []) mj_d_130_164 rfl rfl rfl rfl th107 rfl rfl ⟨by decide, ⟨Nat.le_of_ble_eq_true rfl, Nat.le_of_ble_eq_true rfl, Nat.le_of_ble_eq_true rfl, Nat.le_of_ble_eq_true rfl, Nat.le_of_ble_eq_true rfl⟩⟩ (dt_R_takes (a1 := 59) th107 (by omega) (by omega)) ?_
                    rintro _ h110 ⟨th110, eh110, rfl, b111, b111t⟩
                    rw [eh107] at eh110 b111 b111t ⊢
                    show sy_wp (mj_m_130, 167, [(4, sy_i ((dc_R_takesHouse (sg_up (dc_R_here (sy_rd h)).1 234 11 (((dc_R_here (sy_rd h)).1 234 11) + 1))).2)), (3, sy_i 0), (2, sy_i 1), (1, sy_i ((dc_R_here (sy_rd h)).2)), (0, .ref 234)], [sy_i ((dc_R_takes (dc_R_takesHouse (sg_up (dc_R_here (sy_rd h)).1 234 11 (((dc_R_here (sy_rd h)).1 234 11) + 1))).1 59).2)], h110) _
                    refine sy_ifc mj_d_130_167 rfl ⟨by omega, by omega⟩ (fun (c112 : ((dc_R_takes (dc_R_takesHouse (sg_up (dc_R_here (sy_rd h)).1 234 11 (((dc_R_here (sy_rd h)).1 234 11) + 1))).1 59).2) = 0) => ?_) (fun (c112 : ¬ (((dc_R_takes (dc_R_takesHouse (sg_up (dc_R_here (sy_rd h)).1 234 11 (((dc_R_here (sy_rd h)).1 234 11) + 1))).1 59).2) = 0)) => ?_)
                    · skip
                      rw [if_pos c112]
                      refine sy_st (S' := (mj_m_130, 175, [(4, sy_i ((dc_R_takesHouse (sg_up (dc_R_here (sy_rd h)).1 234 11 (((dc_R_here (sy_rd h)).1 234 11) + 1))).2)), (3, sy_i 0), (2, sy_i 1), (1, sy_i ((dc_R_here (sy_rd h)).2)), (0, .ref 234)], [sy_i 0], h110)) mj_d_130_174 (fun _ _ => rfl) ?_
                      exact sy_retb mj_d_130_175 rfl ⟨by omega, by omega⟩ ⟨th110, eh110, rfl, by omega, by omega⟩
                    · skip
                      rw [if_neg c112]
                      refine sy_st (S' := (mj_m_130, 171, [(4, sy_i ((dc_R_takesHouse (sg_up (dc_R_here (sy_rd h)).1 234 11 (((dc_R_here (sy_rd h)).1 234 11) + 1))).2)), (3, sy_i 0), (2, sy_i 1), (1, sy_i ((dc_R_here (sy_rd h)).2)), (0, .ref 234)], [sy_i 1], h110)) mj_d_130_170 (fun _ _ => rfl) ?_
                      refine sy_st (S' := (mj_m_130, 175, [(4, sy_i ((dc_R_takesHouse (sg_up (dc_R_here (sy_rd h)).1 234 11 (((dc_R_here (sy_rd h)).1 234 11) + 1))).2)), (3, sy_i 0), (2, sy_i 1), (1, sy_i ((dc_R_here (sy_rd h)).2)), (0, .ref 234)], [sy_i 1], h110)) mj_d_130_171 (fun _ _ => rfl) ?_
                      exact sy_retb mj_d_130_175 rfl ⟨by omega, by omega⟩ ⟨th110, eh110, rfl, by omega, by omega⟩
              · skip
                rw [if_pos (Decidable.not_not.mp c99)]
                replace c99 := Decidable.not_not.mp c99
                refine sy_st (S' := (mj_m_130, 131, [(3, sy_i 0), (2, sy_i 1), (1, sy_i ((dc_R_here (sy_rd h)).2)), (0, .ref 234)], [.ref 234], h98)) mj_d_130_130 (fun _ _ => rfl) ?_
                refine sy_cv (M' := mj_m_132) (vs := [.ref 234]) (rest := []) mj_d_130_131 rfl rfl rfl rfl th98 rfl rfl ⟨by decide, ⟨Nat.le_of_ble_eq_true rfl, Nat.le_of_ble_eq_true rfl, Nat.le_of_ble_eq_true rfl, Nat.le_of_ble_eq_true rfl, Nat.le_of_ble_eq_true rfl⟩⟩ (dt_R_takesCity th98) ?_
                rintro _ h113 ⟨th113, eh113, rfl, b114, b114t⟩
                rw [eh98] at eh113 b114 b114t ⊢
                show sy_wp (mj_m_130, 134, [(3, sy_i 0), (2, sy_i 1), (1, sy_i ((dc_R_here (sy_rd h)).2)), (0, .ref 234)], [sy_i ((dc_R_takesCity (sg_up (dc_R_here (sy_rd h)).1 234 11 (((dc_R_here (sy_rd h)).1 234 11) + 1))).2)], h113) _
                refine sy_st (S' := (mj_m_130, 154, [(3, sy_i 0), (2, sy_i 1), (1, sy_i ((dc_R_here (sy_rd h)).2)), (0, .ref 234)], [sy_i ((dc_R_takesCity (sg_up (dc_R_here (sy_rd h)).1 234 11 (((dc_R_here (sy_rd h)).1 234 11) + 1))).2)], h113)) mj_d_130_134 (fun _ _ => rfl) ?_
                refine sy_st (S' := (mj_m_130, 156, [(4, sy_i ((dc_R_takesCity (sg_up (dc_R_here (sy_rd h)).1 234 11 (((dc_R_here (sy_rd h)).1 234 11) + 1))).2)), (3, sy_i 0), (2, sy_i 1), (1, sy_i ((dc_R_here (sy_rd h)).2)), (0, .ref 234)], [], h113)) mj_d_130_154 (fun _ _ => rfl) ?_
                refine sy_st (S' := (mj_m_130, 158, [(4, sy_i ((dc_R_takesCity (sg_up (dc_R_here (sy_rd h)).1 234 11 (((dc_R_here (sy_rd h)).1 234 11) + 1))).2)), (3, sy_i 0), (2, sy_i 1), (1, sy_i ((dc_R_here (sy_rd h)).2)), (0, .ref 234)], [sy_i ((dc_R_takesCity (sg_up (dc_R_here (sy_rd h)).1 234 11 (((dc_R_here (sy_rd h)).1 234 11) + 1))).2)], h113)) mj_d_130_156 (fun _ _ => rfl) ?_
                refine sy_ifc mj_d_130_158 rfl ⟨by omega, by omega⟩ (fun (c115 : ((dc_R_takesCity (sg_up (dc_R_here (sy_rd h)).1 234 11 (((dc_R_here (sy_rd h)).1 234 11) + 1))).2) = 0) => ?_) (fun (c115 : ¬ (((dc_R_takesCity (sg_up (dc_R_here (sy_rd h)).1 234 11 (((dc_R_here (sy_rd h)).1 234 11) + 1))).2) = 0)) => ?_)
                · skip
                  rw [if_pos c115]
                  refine sy_st (S' := (mj_m_130, 175, [(4, sy_i ((dc_R_takesCity (sg_up (dc_R_here (sy_rd h)).1 234 11 (((dc_R_here (sy_rd h)).1 234 11) + 1))).2)), (3, sy_i 0), (2, sy_i 1), (1, sy_i ((dc_R_here (sy_rd h)).2)), (0, .ref 234)], [sy_i 0], h113)) mj_d_130_174 (fun _ _ => rfl) ?_
                  exact sy_retb mj_d_130_175 rfl ⟨by omega, by omega⟩ ⟨th113, eh113, rfl, by omega, by omega⟩
                · skip
                  rw [if_neg c115]
                  refine sy_st (S' := (mj_m_130, 162, [(4, sy_i ((dc_R_takesCity (sg_up (dc_R_here (sy_rd h)).1 234 11 (((dc_R_here (sy_rd h)).1 234 11) + 1))).2)), (3, sy_i 0), (2, sy_i 1), (1, sy_i ((dc_R_here (sy_rd h)).2)), (0, .ref 234)], [.ref 234], h113)) mj_d_130_161 (fun _ _ => rfl) ?_
                  refine sy_bip mj_d_130_162 (by decide) ?_
                  refine sy_cv (M' := mj_m_136) (vs := [.ref 234, sy_i 59]) (rest := []) mj_d_130_164 rfl rfl rfl rfl th113 rfl rfl ⟨by decide, ⟨Nat.le_of_ble_eq_true rfl, Nat.le_of_ble_eq_true rfl, Nat.le_of_ble_eq_true rfl, Nat.le_of_ble_eq_true rfl, Nat.le_of_ble_eq_true rfl⟩⟩ (dt_R_takes (a1 := 59) th113 (by omega) (by omega)) ?_
                  rintro _ h116 ⟨th116, eh116, rfl, b117, b117t⟩
                  rw [eh113] at eh116 b117 b117t ⊢
                  show sy_wp (mj_m_130, 167, [(4, sy_i ((dc_R_takesCity (sg_up (dc_R_here (sy_rd h)).1 234 11 (((dc_R_here (sy_rd h)).1 234 11) + 1))).2)), (3, sy_i 0), (2, sy_i 1), (1, sy_i ((dc_R_here (sy_rd h)).2)), (0, .ref 234)], [sy_i ((dc_R_takes (dc_R_takesCity (sg_up (dc_R_here (sy_rd h)).1 234 11 (((dc_R_here (sy_rd h)).1 234 11) + 1))).1 59).2)], h116) _
                  refine sy_ifc mj_d_130_167 rfl ⟨by omega, by omega⟩ (fun (c118 : ((dc_R_takes (dc_R_takesCity (sg_up (dc_R_here (sy_rd h)).1 234 11 (((dc_R_here (sy_rd h)).1 234 11) + 1))).1 59).2) = 0) => ?_) (fun (c118 : ¬ (((dc_R_takes (dc_R_takesCity (sg_up (dc_R_here (sy_rd h)).1 234 11 (((dc_R_here (sy_rd h)).1 234 11) + 1))).1 59).2) = 0)) => ?_)
                  · skip
                    rw [if_pos c118]
                    refine sy_st (S' := (mj_m_130, 175, [(4, sy_i ((dc_R_takesCity (sg_up (dc_R_here (sy_rd h)).1 234 11 (((dc_R_here (sy_rd h)).1 234 11) + 1))).2)), (3, sy_i 0), (2, sy_i 1), (1, sy_i ((dc_R_here (sy_rd h)).2)), (0, .ref 234)], [sy_i 0], h116)) mj_d_130_174 (fun _ _ => rfl) ?_
                    exact sy_retb mj_d_130_175 rfl ⟨by omega, by omega⟩ ⟨th116, eh116, rfl, by omega, by omega⟩
                  · skip
                    rw [if_neg c118]
                    refine sy_st (S' := (mj_m_130, 171, [(4, sy_i ((dc_R_takesCity (sg_up (dc_R_here (sy_rd h)).1 234 11 (((dc_R_here (sy_rd h)).1 234 11) + 1))).2)), (3, sy_i 0), (2, sy_i 1), (1, sy_i ((dc_R_here (sy_rd h)).2)), (0, .ref 234)], [sy_i 1], h116)) mj_d_130_170 (fun _ _ => rfl) ?_
                    refine sy_st (S' := (mj_m_130, 175, [(4, sy_i ((dc_R_takesCity (sg_up (dc_R_here (sy_rd h)).1 234 11 (((dc_R_here (sy_rd h)).1 234 11) + 1))).2)), (3, sy_i 0), (2, sy_i 1), (1, sy_i ((dc_R_here (sy_rd h)).2)), (0, .ref 234)], [sy_i 1], h116)) mj_d_130_171 (fun _ _ => rfl) ?_
                    exact sy_retb mj_d_130_175 rfl ⟨by omega, by omega⟩ ⟨th116, eh116, rfl, by omega, by omega⟩
            · skip
              rw [if_pos (Decidable.not_not.mp c96)]
              replace c96 := Decidable.not_not.mp c96
              refine sy_st (S' := (mj_m_130, 95, [(2, sy_i 1), (1, sy_i ((dc_R_here (sy_rd h)).2)), (0, .ref 234)], [sy_i 1], h1)) mj_d_130_94 (fun _ _ => rfl) ?_
              refine sy_st (S' := (mj_m_130, 99, [(2, sy_i 1), (1, sy_i ((dc_R_here (sy_rd h)).2)), (0, .ref 234)], [sy_i 1], h1)) mj_d_130_95 (fun _ _ => rfl) ?_
              refine sy_st (S' := (mj_m_130, 100, [(3, sy_i 1), (2, sy_i 1), (1, sy_i ((dc_R_here (sy_rd h)).2)), (0, .ref 234)], [], h1)) mj_d_130_99 (fun _ _ => rfl) ?_
              refine sy_st (S' := (mj_m_130, 101, [(3, sy_i 1), (2, sy_i 1), (1, sy_i ((dc_R_here (sy_rd h)).2)), (0, .ref 234)], [sy_i 1], h1)) mj_d_130_100 (fun _ _ => rfl) ?_
              refine sy_ifc mj_d_130_101 rfl ⟨by omega, by omega⟩ (fun (q : (1 : Int) = 0) => absurd q (by decide)) (fun _ => ?_)
              refine sy_st (S' := (mj_m_130, 105, [(3, sy_i 1), (2, sy_i 1), (1, sy_i ((dc_R_here (sy_rd h)).2)), (0, .ref 234)], [.ref 234], h1)) mj_d_130_104 (fun _ _ => rfl) ?_
              refine sy_st (S' := (mj_m_130, 106, [(3, sy_i 1), (2, sy_i 1), (1, sy_i ((dc_R_here (sy_rd h)).2)), (0, .ref 234)], [sy_i 3, .ref 234], h1)) mj_d_130_105 (fun _ _ => rfl) ?_
              refine sy_st (S' := (mj_m_130, 107, [(3, sy_i 1), (2, sy_i 1), (1, sy_i ((dc_R_here (sy_rd h)).2)), (0, .ref 234)], [.ref 234, sy_i 3, .ref 234], h1)) mj_d_130_106 (fun _ _ => rfl) ?_
              refine sy_gf mj_d_130_107 rfl rfl (by decide) rfl th1 ?_
              intro x119 ex119 bx119 tx119
              replace ex119 : x119 = sy_rd h1 234 12 := ex119
              rw [eh1] at ex119
              subst ex119
              refine sy_cv (M' := mj_m_131) (vs := [.ref 234, sy_i 3, sy_i ((dc_R_here (sy_rd h)).1 234 12)]) (rest := []) mj_d_130_110 rfl rfl rfl rfl th1 rfl rfl ⟨by decide, ⟨Nat.le_of_ble_eq_true rfl, Nat.le_of_ble_eq_true rfl, Nat.le_of_ble_eq_true rfl, Nat.le_of_ble_eq_true rfl, Nat.le_of_ble_eq_true rfl⟩⟩ (dt_R_fails (a1 := 3) (a2 := ((dc_R_here (sy_rd h)).1 234 12)) th1 (by omega) (by omega) (by omega) (by omega)) ?_
              rintro _ h120 ⟨th120, eh120, rfl, b121, b121t⟩
              rw [eh1] at eh120 b121 b121t ⊢
              show sy_wp (mj_m_130, 113, [(3, sy_i 1), (2, sy_i 1), (1, sy_i ((dc_R_here (sy_rd h)).2)), (0, .ref 234)], [sy_i ((dc_R_fails (dc_R_here (sy_rd h)).1 3 ((dc_R_here (sy_rd h)).1 234 12)).2)], h120) _
              exact sy_retb mj_d_130_113 rfl ⟨by omega, by omega⟩ ⟨th120, eh120, rfl, by omega, by omega⟩
          · skip
            rw [if_pos (Decidable.not_not.mp c94)]
            replace c94 := Decidable.not_not.mp c94
            refine sy_st (S' := (mj_m_130, 70, [(2, sy_i 1), (1, sy_i ((dc_R_here (sy_rd h)).2)), (0, .ref 234)], [.ref 234], h1)) mj_d_130_69 (fun _ _ => rfl) ?_
            refine sy_gf mj_d_130_70 rfl rfl (by decide) rfl th1 ?_
            intro x122 ex122 bx122 tx122
            replace ex122 : x122 = sy_rd h1 234 19 := ex122
            rw [eh1, dr_R_here _ 234 19 rfl] at ex122
            subst ex122
            refine sy_bip mj_d_130_73 (by decide) ?_
            refine sy_icm mj_d_130_75 rfl ⟨by omega, by omega⟩ ⟨by omega, by omega⟩ (fun (c123 : ¬ ((sy_rd h 234 19) = 9)) => ?_) (fun (c123 : ¬ ¬ ((sy_rd h 234 19) = 9)) => ?_)
            · skip
              rw [if_neg c123]
              refine sy_st (S' := (mj_m_130, 83, [(2, sy_i 1), (1, sy_i ((dc_R_here (sy_rd h)).2)), (0, .ref 234)], [sy_i 0], h1)) mj_d_130_82 (fun _ _ => rfl) ?_
              refine sy_st (S' := (mj_m_130, 99, [(2, sy_i 1), (1, sy_i ((dc_R_here (sy_rd h)).2)), (0, .ref 234)], [sy_i 0], h1)) mj_d_130_83 (fun _ _ => rfl) ?_
              refine sy_st (S' := (mj_m_130, 100, [(3, sy_i 0), (2, sy_i 1), (1, sy_i ((dc_R_here (sy_rd h)).2)), (0, .ref 234)], [], h1)) mj_d_130_99 (fun _ _ => rfl) ?_
              refine sy_st (S' := (mj_m_130, 101, [(3, sy_i 0), (2, sy_i 1), (1, sy_i ((dc_R_here (sy_rd h)).2)), (0, .ref 234)], [sy_i 0], h1)) mj_d_130_100 (fun _ _ => rfl) ?_
              refine sy_ifc mj_d_130_101 rfl ⟨by omega, by omega⟩ (fun _ => ?_) (fun (q : ¬ ((0 : Int) = 0)) => absurd (by decide) q)
              refine sy_st (S' := (mj_m_130, 115, [(3, sy_i 0), (2, sy_i 1), (1, sy_i ((dc_R_here (sy_rd h)).2)), (0, .ref 234)], [.ref 234], h1)) mj_d_130_114 (fun _ _ => rfl) ?_
              refine sy_st (S' := (mj_m_130, 116, [(3, sy_i 0), (2, sy_i 1), (1, sy_i ((dc_R_here (sy_rd h)).2)), (0, .ref 234)], [.ref 234, .ref 234], h1)) mj_d_130_115 (fun _ _ => rfl) ?_
              refine sy_gf mj_d_130_116 rfl rfl (by decide) rfl th1 ?_
              intro x124 ex124 bx124 tx124
              replace ex124 : x124 = sy_rd h1 234 11 := ex124
              rw [eh1] at ex124
              subst ex124
              refine sy_st (S' := (mj_m_130, 120, [(3, sy_i 0), (2, sy_i 1), (1, sy_i ((dc_R_here (sy_rd h)).2)), (0, .ref 234)], [sy_i 1, sy_i ((dc_R_here (sy_rd h)).1 234 11), .ref 234], h1)) mj_d_130_119 (fun _ _ => rfl) ?_
              refine sy_add mj_d_130_120 ?_
              refine sg_pf (z := (((dc_R_here (sy_rd h)).1 234 11) + 1)) mj_d_130_121 rfl rfl (by decide) (Or.inl rfl) rfl th1 (by omega) (by omega) ⟨by omega, by omega⟩ ?_
              intro h125 th125 eh125
              rw [eh1] at eh125
              refine sy_st (S' := (mj_m_130, 125, [(3, sy_i 0), (2, sy_i 1), (1, sy_i ((dc_R_here (sy_rd h)).2)), (0, .ref 234)], [sy_i ((dc_R_here (sy_rd h)).2)], h125)) mj_d_130_124 (fun _ _ => rfl) ?_
              refine sy_bip mj_d_130_125 (by decide) ?_
              refine sy_icm mj_d_130_127 rfl ⟨by omega, by omega⟩ ⟨by omega, by omega⟩ (fun (c126 : ¬ (((dc_R_here (sy_rd h)).2) = 99)) => ?_) (fun (c126 : ¬ ¬ (((dc_R_here (sy_rd h)).2) = 99)) => ?_)
              · skip
                rw [if_neg c126]
                refine sy_st (S' := (mj_m_130, 138, [(3, sy_i 0), (2, sy_i 1), (1, sy_i ((dc_R_here (sy_rd h)).2)), (0, .ref 234)], [sy_i ((dc_R_here (sy_rd h)).2)], h125)) mj_d_130_137 (fun _ _ => rfl) ?_
                refine sy_bip mj_d_130_138 (by decide) ?_
                refine sy_icm mj_d_130_140 rfl ⟨by omega, by omega⟩ ⟨by omega, by omega⟩ (fun (c127 : ¬ (((dc_R_here (sy_rd h)).2) = 104)) => ?_) (fun (c127 : ¬ ¬ (((dc_R_here (sy_rd h)).2) = 104)) => ?_)
                · skip
                  rw [if_neg c127]
                  refine sy_st (S' := (mj_m_130, 151, [(3, sy_i 0), (2, sy_i 1), (1, sy_i ((dc_R_here (sy_rd h)).2)), (0, .ref 234)], [.ref 234], h125)) mj_d_130_150 (fun _ _ => rfl) ?_
                  refine sy_cv (M' := mj_m_135) (vs := [.ref 234]) (rest := []) mj_d_130_151 rfl rfl rfl rfl th125 rfl rfl ⟨by decide, ⟨Nat.le_of_ble_eq_true rfl, Nat.le_of_ble_eq_true rfl, Nat.le_of_ble_eq_true rfl, Nat.le_of_ble_eq_true rfl, Nat.le_of_ble_eq_true rfl⟩⟩ (dt_R_takesSweep th125 (by rw [eh125, sg_nk (by decide), dr_R_here _ 234 22 rfl]; omega)) ?_
                  rintro _ h128 ⟨th128, eh128, rfl, b129, b129t⟩
                  rw [eh125] at eh128 b129 b129t ⊢
                  show sy_wp (mj_m_130, 154, [(3, sy_i 0), (2, sy_i 1), (1, sy_i ((dc_R_here (sy_rd h)).2)), (0, .ref 234)], [sy_i ((dc_R_takesSweep (sg_up (dc_R_here (sy_rd h)).1 234 11 (((dc_R_here (sy_rd h)).1 234 11) + 1))).2)], h128) _
                  refine sy_st (S' := (mj_m_130, 156, [(4, sy_i ((dc_R_takesSweep (sg_up (dc_R_here (sy_rd h)).1 234 11 (((dc_R_here (sy_rd h)).1 234 11) + 1))).2)), (3, sy_i 0), (2, sy_i 1), (1, sy_i ((dc_R_here (sy_rd h)).2)), (0, .ref 234)], [], h128)) mj_d_130_154 (fun _ _ => rfl) ?_
                  refine sy_st (S' := (mj_m_130, 158, [(4, sy_i ((dc_R_takesSweep (sg_up (dc_R_here (sy_rd h)).1 234 11 (((dc_R_here (sy_rd h)).1 234 11) + 1))).2)), (3, sy_i 0), (2, sy_i 1), (1, sy_i ((dc_R_here (sy_rd h)).2)), (0, .ref 234)], [sy_i ((dc_R_takesSweep (sg_up (dc_R_here (sy_rd h)).1 234 11 (((dc_R_here (sy_rd h)).1 234 11) + 1))).2)], h128)) mj_d_130_156 (fun _ _ => rfl) ?_
                  refine sy_ifc mj_d_130_158 rfl ⟨by omega, by omega⟩ (fun (c130 : ((dc_R_takesSweep (sg_up (dc_R_here (sy_rd h)).1 234 11 (((dc_R_here (sy_rd h)).1 234 11) + 1))).2) = 0) => ?_) (fun (c130 : ¬ (((dc_R_takesSweep (sg_up (dc_R_here (sy_rd h)).1 234 11 (((dc_R_here (sy_rd h)).1 234 11) + 1))).2) = 0)) => ?_)
                  · skip
                    rw [if_pos c130]
                    refine sy_st (S' := (mj_m_130, 175, [(4, sy_i ((dc_R_takesSweep (sg_up (dc_R_here (sy_rd h)).1 234 11 (((dc_R_here (sy_rd h)).1 234 11) + 1))).2)), (3, sy_i 0), (2, sy_i 1), (1, sy_i ((dc_R_here (sy_rd h)).2)), (0, .ref 234)], [sy_i 0], h128)) mj_d_130_174 (fun _ _ => rfl) ?_
                    exact sy_retb mj_d_130_175 rfl ⟨by omega, by omega⟩ ⟨th128, eh128, rfl, by omega, by omega⟩
                  · skip
                    rw [if_neg c130]
                    refine sy_st (S' := (mj_m_130, 162, [(4, sy_i ((dc_R_takesSweep (sg_up (dc_R_here (sy_rd h)).1 234 11 (((dc_R_here (sy_rd h)).1 234 11) + 1))).2)), (3, sy_i 0), (2, sy_i 1), (1, sy_i ((dc_R_here (sy_rd h)).2)), (0, .ref 234)], [.ref 234], h128)) mj_d_130_161 (fun _ _ => rfl) ?_
                    refine sy_bip mj_d_130_162 (by decide) ?_
                    refine sy_cv (M' := mj_m_136) (vs := [.ref 234, sy_i 59]) (rest := []) mj_d_130_164 rfl rfl rfl rfl th128 rfl rfl ⟨by decide, ⟨Nat.le_of_ble_eq_true rfl, Nat.le_of_ble_eq_true rfl, Nat.le_of_ble_eq_true rfl, Nat.le_of_ble_eq_true rfl, Nat.le_of_ble_eq_true rfl⟩⟩ (dt_R_takes (a1 := 59) th128 (by omega) (by omega)) ?_
                    rintro _ h131 ⟨th131, eh131, rfl, b132, b132t⟩
                    rw [eh128] at eh131 b132 b132t ⊢
                    show sy_wp (mj_m_130, 167, [(4, sy_i ((dc_R_takesSweep (sg_up (dc_R_here (sy_rd h)).1 234 11 (((dc_R_here (sy_rd h)).1 234 11) + 1))).2)), (3, sy_i 0), (2, sy_i 1), (1, sy_i ((dc_R_here (sy_rd h)).2)), (0, .ref 234)], [sy_i ((dc_R_takes (dc_R_takesSweep (sg_up (dc_R_here (sy_rd h)).1 234 11 (((dc_R_here (sy_rd h)).1 234 11) + 1))).1 59).2)], h131) _
                    refine sy_ifc mj_d_130_167 rfl ⟨by omega, by omega⟩ (fun (c133 : ((dc_R_takes (dc_R_takesSweep (sg_up (dc_R_here (sy_rd h)).1 234 11 (((dc_R_here (sy_rd h)).1 234 11) + 1))).1 59).2) = 0) => ?_) (fun (c133 : ¬ (((dc_R_takes (dc_R_takesSweep (sg_up (dc_R_here (sy_rd h)).1 234 11 (((dc_R_here (sy_rd h)).1 234 11) + 1))).1 59).2) = 0)) => ?_)
                    · skip
                      rw [if_pos c133]
                      refine sy_st (S' := (mj_m_130, 175, [(4, sy_i ((dc_R_takesSweep (sg_up (dc_R_here (sy_rd h)).1 234 11 (((dc_R_here (sy_rd h)).1 234 11) + 1))).2)), (3, sy_i 0), (2, sy_i 1), (1, sy_i ((dc_R_here (sy_rd h)).2)), (0, .ref 234)], [sy_i 0], h131)) mj_d_130_174 (fun _ _ => rfl) ?_
                      exact sy_retb mj_d_130_175 rfl ⟨by omega, by omega⟩ ⟨th131, eh131, rfl, by omega, by omega⟩
                    · skip
                      rw [if_neg c133]
                      refine sy_st (S' := (mj_m_130, 171, [(4, sy_i ((dc_R_takesSweep (sg_up (dc_R_here (sy_rd h)).1 234 11 (((dc_R_here (sy_rd h)).1 234 11) + 1))).2)), (3, sy_i 0), (2, sy_i 1), (1, sy_i ((dc_R_here (sy_rd h)).2)), (0, .ref 234)], [sy_i 1], h131)) mj_d_130_170 (fun _ _ => rfl) ?_
                      refine sy_st (S' := (mj_m_130, 175, [(4, sy_i ((dc_R_takesSweep (sg_up (dc_R_here (sy_rd h)).1 234 11 (((dc_R_here (sy_rd h)).1 234 11) + 1))).2)), (3, sy_i 0), (2, sy_i 1), (1, sy_i ((dc_R_here (sy_rd h)).2)), (0, .ref 234)], [sy_i 1], h131)) mj_d_130_171 (fun _ _ => rfl) ?_
                      exact sy_retb mj_d_130_175 rfl ⟨by omega, by omega⟩ ⟨th131, eh131, rfl, by omega, by omega⟩
                · skip
                  rw [if_pos (Decidable.not_not.mp c127)]
                  replace c127 := Decidable.not_not.mp c127
                  refine sy_st (S' := (mj_m_130, 144, [(3, sy_i 0), (2, sy_i 1), (1, sy_i ((dc_R_here (sy_rd h)).2)), (0, .ref 234)], [.ref 234], h125)) mj_d_130_143 (fun _ _ => rfl) ?_
                  refine sy_cv (M' := mj_m_134) (vs := [.ref 234]) (rest := []) mj_d_130_144 rfl rfl rfl rfl th125 rfl rfl ⟨by decide, ⟨Nat.le_of_ble_eq_true rfl, Nat.le_of_ble_eq_true rfl, Nat.le_of_ble_eq_true rfl, Nat.le_of_ble_eq_true rfl, Nat.le_of_ble_eq_true rfl⟩⟩ (dt_R_takesHouse th125 (by rw [eh125, sg_nk (by decide), dr_R_here _ 234 19 rfl]; omega)) ?_
                  rintro _ h134 ⟨th134, eh134, rfl, b135, b135t⟩
                  rw [eh125] at eh134 b135 b135t ⊢
                  show sy_wp (mj_m_130, 147, [(3, sy_i 0), (2, sy_i 1), (1, sy_i ((dc_R_here (sy_rd h)).2)), (0, .ref 234)], [sy_i ((dc_R_takesHouse (sg_up (dc_R_here (sy_rd h)).1 234 11 (((dc_R_here (sy_rd h)).1 234 11) + 1))).2)], h134) _
                  refine sy_st (S' := (mj_m_130, 154, [(3, sy_i 0), (2, sy_i 1), (1, sy_i ((dc_R_here (sy_rd h)).2)), (0, .ref 234)], [sy_i ((dc_R_takesHouse (sg_up (dc_R_here (sy_rd h)).1 234 11 (((dc_R_here (sy_rd h)).1 234 11) + 1))).2)], h134)) mj_d_130_147 (fun _ _ => rfl) ?_
                  refine sy_st (S' := (mj_m_130, 156, [(4, sy_i ((dc_R_takesHouse (sg_up (dc_R_here (sy_rd h)).1 234 11 (((dc_R_here (sy_rd h)).1 234 11) + 1))).2)), (3, sy_i 0), (2, sy_i 1), (1, sy_i ((dc_R_here (sy_rd h)).2)), (0, .ref 234)], [], h134)) mj_d_130_154 (fun _ _ => rfl) ?_
                  refine sy_st (S' := (mj_m_130, 158, [(4, sy_i ((dc_R_takesHouse (sg_up (dc_R_here (sy_rd h)).1 234 11 (((dc_R_here (sy_rd h)).1 234 11) + 1))).2)), (3, sy_i 0), (2, sy_i 1), (1, sy_i ((dc_R_here (sy_rd h)).2)), (0, .ref 234)], [sy_i ((dc_R_takesHouse (sg_up (dc_R_here (sy_rd h)).1 234 11 (((dc_R_here (sy_rd h)).1 234 11) + 1))).2)], h134)) mj_d_130_156 (fun _ _ => rfl) ?_
                  refine sy_ifc mj_d_130_158 rfl ⟨by omega, by omega⟩ (fun (c136 : ((dc_R_takesHouse (sg_up (dc_R_here (sy_rd h)).1 234 11 (((dc_R_here (sy_rd h)).1 234 11) + 1))).2) = 0) => ?_) (fun (c136 : ¬ (((dc_R_takesHouse (sg_up (dc_R_here (sy_rd h)).1 234 11 (((dc_R_here (sy_rd h)).1 234 11) + 1))).2) = 0)) => ?_)
                  · skip
                    rw [if_pos c136]
                    refine sy_st (S' := (mj_m_130, 175, [(4, sy_i ((dc_R_takesHouse (sg_up (dc_R_here (sy_rd h)).1 234 11 (((dc_R_here (sy_rd h)).1 234 11) + 1))).2)), (3, sy_i 0), (2, sy_i 1), (1, sy_i ((dc_R_here (sy_rd h)).2)), (0, .ref 234)], [sy_i 0], h134)) mj_d_130_174 (fun _ _ => rfl) ?_
                    exact sy_retb mj_d_130_175 rfl ⟨by omega, by omega⟩ ⟨th134, eh134, rfl, by omega, by omega⟩
                  · skip
                    rw [if_neg c136]
                    refine sy_st (S' := (mj_m_130, 162, [(4, sy_i ((dc_R_takesHouse (sg_up (dc_R_here (sy_rd h)).1 234 11 (((dc_R_here (sy_rd h)).1 234 11) + 1))).2)), (3, sy_i 0), (2, sy_i 1), (1, sy_i ((dc_R_here (sy_rd h)).2)), (0, .ref 234)], [.ref 234], h134)) mj_d_130_161 (fun _ _ => rfl) ?_
                    refine sy_bip mj_d_130_162 (by decide) ?_
                    refine sy_cv (M' := mj_m_136) (vs := [.ref 234, sy_i 59]) (rest := []) mj_d_130_164 rfl rfl rfl rfl th134 rfl rfl ⟨by decide, ⟨Nat.le_of_ble_eq_true rfl, Nat.le_of_ble_eq_true rfl, Nat.le_of_ble_eq_true rfl, Nat.le_of_ble_eq_true rfl, Nat.le_of_ble_eq_true rfl⟩⟩ (dt_R_takes (a1 := 59) th134 (by omega) (by omega)) ?_
                    rintro _ h137 ⟨th137, eh137, rfl, b138, b138t⟩
                    rw [eh134] at eh137 b138 b138t ⊢
                    show sy_wp (mj_m_130, 167, [(4, sy_i ((dc_R_takesHouse (sg_up (dc_R_here (sy_rd h)).1 234 11 (((dc_R_here (sy_rd h)).1 234 11) + 1))).2)), (3, sy_i 0), (2, sy_i 1), (1, sy_i ((dc_R_here (sy_rd h)).2)), (0, .ref 234)], [sy_i ((dc_R_takes (dc_R_takesHouse (sg_up (dc_R_here (sy_rd h)).1 234 11 (((dc_R_here (sy_rd h)).1 234 11) + 1))).1 59).2)], h137) _
                    refine sy_ifc mj_d_130_167 rfl ⟨by omega, by omega⟩ (fun (c139 : ((dc_R_takes (dc_R_takesHouse (sg_up (dc_R_here (sy_rd h)).1 234 11 (((dc_R_here (sy_rd h)).1 234 11) + 1))).1 59).2) = 0) => ?_) (fun (c139 : ¬ (((dc_R_takes (dc_R_takesHouse (sg_up (dc_R_here (sy_rd h)).1 234 11 (((dc_R_here (sy_rd h)).1 234 11) + 1))).1 59).2) = 0)) => ?_)
                    · skip
                      rw [if_pos c139]
                      refine sy_st (S' := (mj_m_130, 175, [(4, sy_i ((dc_R_takesHouse (sg_up (dc_R_here (sy_rd h)).1 234 11 (((dc_R_here (sy_rd h)).1 234 11) + 1))).2)), (3, sy_i 0), (2, sy_i 1), (1, sy_i ((dc_R_here (sy_rd h)).2)), (0, .ref 234)], [sy_i 0], h137)) mj_d_130_174 (fun _ _ => rfl) ?_
                      exact sy_retb mj_d_130_175 rfl ⟨by omega, by omega⟩ ⟨th137, eh137, rfl, by omega, by omega⟩
                    · skip
                      rw [if_neg c139]
                      refine sy_st (S' := (mj_m_130, 171, [(4, sy_i ((dc_R_takesHouse (sg_up (dc_R_here (sy_rd h)).1 234 11 (((dc_R_here (sy_rd h)).1 234 11) + 1))).2)), (3, sy_i 0), (2, sy_i 1), (1, sy_i ((dc_R_here (sy_rd h)).2)), (0, .ref 234)], [sy_i 1], h137)) mj_d_130_170 (fun _ _ => rfl) ?_
                      refine sy_st (S' := (mj_m_130, 175, [(4, sy_i ((dc_R_takesHouse (sg_up (dc_R_here (sy_rd h)).1 234 11 (((dc_R_here (sy_rd h)).1 234 11) + 1))).2)), (3, sy_i 0), (2, sy_i 1), (1, sy_i ((dc_R_here (sy_rd h)).2)), (0, .ref 234)], [sy_i 1], h137)) mj_d_130_171 (fun _ _ => rfl) ?_
                      exact sy_retb mj_d_130_175 rfl ⟨by omega, by omega⟩ ⟨th137, eh137, rfl, by omega, by omega⟩
              · skip
                rw [if_pos (Decidable.not_not.mp c126)]
                replace c126 := Decidable.not_not.mp c126
                refine sy_st (S' := (mj_m_130, 131, [(3, sy_i 0), (2, sy_i 1), (1, sy_i ((dc_R_here (sy_rd h)).2)), (0, .ref 234)], [.ref 234], h125)) mj_d_130_130 (fun _ _ => rfl) ?_
                refine sy_cv (M' := mj_m_132) (vs := [.ref 234]) (rest := []) mj_d_130_131 rfl rfl rfl rfl th125 rfl rfl ⟨by decide, ⟨Nat.le_of_ble_eq_true rfl, Nat.le_of_ble_eq_true rfl, Nat.le_of_ble_eq_true rfl, Nat.le_of_ble_eq_true rfl, Nat.le_of_ble_eq_true rfl⟩⟩ (dt_R_takesCity th125) ?_
                rintro _ h140 ⟨th140, eh140, rfl, b141, b141t⟩
                rw [eh125] at eh140 b141 b141t ⊢
                show sy_wp (mj_m_130, 134, [(3, sy_i 0), (2, sy_i 1), (1, sy_i ((dc_R_here (sy_rd h)).2)), (0, .ref 234)], [sy_i ((dc_R_takesCity (sg_up (dc_R_here (sy_rd h)).1 234 11 (((dc_R_here (sy_rd h)).1 234 11) + 1))).2)], h140) _
                refine sy_st (S' := (mj_m_130, 154, [(3, sy_i 0), (2, sy_i 1), (1, sy_i ((dc_R_here (sy_rd h)).2)), (0, .ref 234)], [sy_i ((dc_R_takesCity (sg_up (dc_R_here (sy_rd h)).1 234 11 (((dc_R_here (sy_rd h)).1 234 11) + 1))).2)], h140)) mj_d_130_134 (fun _ _ => rfl) ?_
                refine sy_st (S' := (mj_m_130, 156, [(4, sy_i ((dc_R_takesCity (sg_up (dc_R_here (sy_rd h)).1 234 11 (((dc_R_here (sy_rd h)).1 234 11) + 1))).2)), (3, sy_i 0), (2, sy_i 1), (1, sy_i ((dc_R_here (sy_rd h)).2)), (0, .ref 234)], [], h140)) mj_d_130_154 (fun _ _ => rfl) ?_
                refine sy_st (S' := (mj_m_130, 158, [(4, sy_i ((dc_R_takesCity (sg_up (dc_R_here (sy_rd h)).1 234 11 (((dc_R_here (sy_rd h)).1 234 11) + 1))).2)), (3, sy_i 0), (2, sy_i 1), (1, sy_i ((dc_R_here (sy_rd h)).2)), (0, .ref 234)], [sy_i ((dc_R_takesCity (sg_up (dc_R_here (sy_rd h)).1 234 11 (((dc_R_here (sy_rd h)).1 234 11) + 1))).2)], h140)) mj_d_130_156 (fun _ _ => rfl) ?_
                refine sy_ifc mj_d_130_158 rfl ⟨by omega, by omega⟩ (fun (c142 : ((dc_R_takesCity (sg_up (dc_R_here (sy_rd h)).1 234 11 (((dc_R_here (sy_rd h)).1 234 11) + 1))).2) = 0) => ?_) (fun (c142 : ¬ (((dc_R_takesCity (sg_up (dc_R_here (sy_rd h)).1 234 11 (((dc_R_here (sy_rd h)).1 234 11) + 1))).2) = 0)) => ?_)
                · skip
                  rw [if_pos c142]
                  refine sy_st (S' := (mj_m_130, 175, [(4, sy_i ((dc_R_takesCity (sg_up (dc_R_here (sy_rd h)).1 234 11 (((dc_R_here (sy_rd h)).1 234 11) + 1))).2)), (3, sy_i 0), (2, sy_i 1), (1, sy_i ((dc_R_here (sy_rd h)).2)), (0, .ref 234)], [sy_i 0], h140)) mj_d_130_174 (fun _ _ => rfl) ?_
                  exact sy_retb mj_d_130_175 rfl ⟨by omega, by omega⟩ ⟨th140, eh140, rfl, by omega, by omega⟩
                · skip
                  rw [if_neg c142]
                  refine sy_st (S' := (mj_m_130, 162, [(4, sy_i ((dc_R_takesCity (sg_up (dc_R_here (sy_rd h)).1 234 11 (((dc_R_here (sy_rd h)).1 234 11) + 1))).2)), (3, sy_i 0), (2, sy_i 1), (1, sy_i ((dc_R_here (sy_rd h)).2)), (0, .ref 234)], [.ref 234], h140)) mj_d_130_161 (fun _ _ => rfl) ?_
                  refine sy_bip mj_d_130_162 (by decide) ?_
                  refine sy_cv (M' := mj_m_136) (vs := [.ref 234, sy_i 59]) (rest := []) mj_d_130_164 rfl rfl rfl rfl th140 rfl rfl ⟨by decide, ⟨Nat.le_of_ble_eq_true rfl, Nat.le_of_ble_eq_true rfl, Nat.le_of_ble_eq_true rfl, Nat.le_of_ble_eq_true rfl, Nat.le_of_ble_eq_true rfl⟩⟩ (dt_R_takes (a1 := 59) th140 (by omega) (by omega)) ?_
                  rintro _ h143 ⟨th143, eh143, rfl, b144, b144t⟩
                  rw [eh140] at eh143 b144 b144t ⊢
                  show sy_wp (mj_m_130, 167, [(4, sy_i ((dc_R_takesCity (sg_up (dc_R_here (sy_rd h)).1 234 11 (((dc_R_here (sy_rd h)).1 234 11) + 1))).2)), (3, sy_i 0), (2, sy_i 1), (1, sy_i ((dc_R_here (sy_rd h)).2)), (0, .ref 234)], [sy_i ((dc_R_takes (dc_R_takesCity (sg_up (dc_R_here (sy_rd h)).1 234 11 (((dc_R_here (sy_rd h)).1 234 11) + 1))).1 59).2)], h143) _
                  refine sy_ifc mj_d_130_167 rfl ⟨by omega, by omega⟩ (fun (c145 : ((dc_R_takes (dc_R_takesCity (sg_up (dc_R_here (sy_rd h)).1 234 11 (((dc_R_here (sy_rd h)).1 234 11) + 1))).1 59).2) = 0) => ?_) (fun (c145 : ¬ (((dc_R_takes (dc_R_takesCity (sg_up (dc_R_here (sy_rd h)).1 234 11 (((dc_R_here (sy_rd h)).1 234 11) + 1))).1 59).2) = 0)) => ?_)
                  · skip
                    rw [if_pos c145]
                    refine sy_st (S' := (mj_m_130, 175, [(4, sy_i ((dc_R_takesCity (sg_up (dc_R_here (sy_rd h)).1 234 11 (((dc_R_here (sy_rd h)).1 234 11) + 1))).2)), (3, sy_i 0), (2, sy_i 1), (1, sy_i ((dc_R_here (sy_rd h)).2)), (0, .ref 234)], [sy_i 0], h143)) mj_d_130_174 (fun _ _ => rfl) ?_
                    exact sy_retb mj_d_130_175 rfl ⟨by omega, by omega⟩ ⟨th143, eh143, rfl, by omega, by omega⟩
                  · skip
                    rw [if_neg c145]
                    refine sy_st (S' := (mj_m_130, 171, [(4, sy_i ((dc_R_takesCity (sg_up (dc_R_here (sy_rd h)).1 234 11 (((dc_R_here (sy_rd h)).1 234 11) + 1))).2)), (3, sy_i 0), (2, sy_i 1), (1, sy_i ((dc_R_here (sy_rd h)).2)), (0, .ref 234)], [sy_i 1], h143)) mj_d_130_170 (fun _ _ => rfl) ?_
                    refine sy_st (S' := (mj_m_130, 175, [(4, sy_i ((dc_R_takesCity (sg_up (dc_R_here (sy_rd h)).1 234 11 (((dc_R_here (sy_rd h)).1 234 11) + 1))).2)), (3, sy_i 0), (2, sy_i 1), (1, sy_i ((dc_R_here (sy_rd h)).2)), (0, .ref 234)], [sy_i 1], h143)) mj_d_130_171 (fun _ _ => rfl) ?_
                    exact sy_retb mj_d_130_175 rfl ⟨by omega, by omega⟩ ⟨th143, eh143, rfl, by omega, by omega⟩
            · skip
              rw [if_pos (Decidable.not_not.mp c123)]
              replace c123 := Decidable.not_not.mp c123
              refine sy_st (S' := (mj_m_130, 79, [(2, sy_i 1), (1, sy_i ((dc_R_here (sy_rd h)).2)), (0, .ref 234)], [sy_i 1], h1)) mj_d_130_78 (fun _ _ => rfl) ?_
              refine sy_st (S' := (mj_m_130, 99, [(2, sy_i 1), (1, sy_i ((dc_R_here (sy_rd h)).2)), (0, .ref 234)], [sy_i 1], h1)) mj_d_130_79 (fun _ _ => rfl) ?_
              refine sy_st (S' := (mj_m_130, 100, [(3, sy_i 1), (2, sy_i 1), (1, sy_i ((dc_R_here (sy_rd h)).2)), (0, .ref 234)], [], h1)) mj_d_130_99 (fun _ _ => rfl) ?_
              refine sy_st (S' := (mj_m_130, 101, [(3, sy_i 1), (2, sy_i 1), (1, sy_i ((dc_R_here (sy_rd h)).2)), (0, .ref 234)], [sy_i 1], h1)) mj_d_130_100 (fun _ _ => rfl) ?_
              refine sy_ifc mj_d_130_101 rfl ⟨by omega, by omega⟩ (fun (q : (1 : Int) = 0) => absurd q (by decide)) (fun _ => ?_)
              refine sy_st (S' := (mj_m_130, 105, [(3, sy_i 1), (2, sy_i 1), (1, sy_i ((dc_R_here (sy_rd h)).2)), (0, .ref 234)], [.ref 234], h1)) mj_d_130_104 (fun _ _ => rfl) ?_
              refine sy_st (S' := (mj_m_130, 106, [(3, sy_i 1), (2, sy_i 1), (1, sy_i ((dc_R_here (sy_rd h)).2)), (0, .ref 234)], [sy_i 3, .ref 234], h1)) mj_d_130_105 (fun _ _ => rfl) ?_
              refine sy_st (S' := (mj_m_130, 107, [(3, sy_i 1), (2, sy_i 1), (1, sy_i ((dc_R_here (sy_rd h)).2)), (0, .ref 234)], [.ref 234, sy_i 3, .ref 234], h1)) mj_d_130_106 (fun _ _ => rfl) ?_
              refine sy_gf mj_d_130_107 rfl rfl (by decide) rfl th1 ?_
              intro x146 ex146 bx146 tx146
              replace ex146 : x146 = sy_rd h1 234 12 := ex146
              rw [eh1] at ex146
              subst ex146
              refine sy_cv (M' := mj_m_131) (vs := [.ref 234, sy_i 3, sy_i ((dc_R_here (sy_rd h)).1 234 12)]) (rest := []) mj_d_130_110 rfl rfl rfl rfl th1 rfl rfl ⟨by decide, ⟨Nat.le_of_ble_eq_true rfl, Nat.le_of_ble_eq_true rfl, Nat.le_of_ble_eq_true rfl, Nat.le_of_ble_eq_true rfl, Nat.le_of_ble_eq_true rfl⟩⟩ (dt_R_fails (a1 := 3) (a2 := ((dc_R_here (sy_rd h)).1 234 12)) th1 (by omega) (by omega) (by omega) (by omega)) ?_
              rintro _ h147 ⟨th147, eh147, rfl, b148, b148t⟩
              rw [eh1] at eh147 b148 b148t ⊢
              show sy_wp (mj_m_130, 113, [(3, sy_i 1), (2, sy_i 1), (1, sy_i ((dc_R_here (sy_rd h)).2)), (0, .ref 234)], [sy_i ((dc_R_fails (dc_R_here (sy_rd h)).1 3 ((dc_R_here (sy_rd h)).1 234 12)).2)], h147) _
              exact sy_retb mj_d_130_113 rfl ⟨by omega, by omega⟩ ⟨th147, eh147, rfl, by omega, by omega⟩
        · skip
          rw [if_pos (Decidable.not_not.mp c93)]
          replace c93 := Decidable.not_not.mp c93
          refine sy_st (S' := (mj_m_130, 57, [(2, sy_i 1), (1, sy_i ((dc_R_here (sy_rd h)).2)), (0, .ref 234)], [.ref 234], h1)) mj_d_130_56 (fun _ _ => rfl) ?_
          refine sy_gf mj_d_130_57 rfl rfl (by decide) rfl th1 ?_
          intro x149 ex149 bx149 tx149
          replace ex149 : x149 = sy_rd h1 234 16 := ex149
          rw [eh1, dr_R_here _ 234 16 rfl] at ex149
          subst ex149
          refine sy_st (S' := (mj_m_130, 99, [(2, sy_i 1), (1, sy_i ((dc_R_here (sy_rd h)).2)), (0, .ref 234)], [sy_i (sy_rd h 234 16)], h1)) mj_d_130_60 (fun _ _ => rfl) ?_
          refine sy_st (S' := (mj_m_130, 100, [(3, sy_i (sy_rd h 234 16)), (2, sy_i 1), (1, sy_i ((dc_R_here (sy_rd h)).2)), (0, .ref 234)], [], h1)) mj_d_130_99 (fun _ _ => rfl) ?_
          refine sy_st (S' := (mj_m_130, 101, [(3, sy_i (sy_rd h 234 16)), (2, sy_i 1), (1, sy_i ((dc_R_here (sy_rd h)).2)), (0, .ref 234)], [sy_i (sy_rd h 234 16)], h1)) mj_d_130_100 (fun _ _ => rfl) ?_
          refine sy_ifc mj_d_130_101 rfl ⟨by omega, by omega⟩ (fun (c150 : (sy_rd h 234 16) = 0) => ?_) (fun (c150 : ¬ ((sy_rd h 234 16) = 0)) => ?_)
          · skip
            rw [if_pos c150]
            refine sy_st (S' := (mj_m_130, 115, [(3, sy_i (sy_rd h 234 16)), (2, sy_i 1), (1, sy_i ((dc_R_here (sy_rd h)).2)), (0, .ref 234)], [.ref 234], h1)) mj_d_130_114 (fun _ _ => rfl) ?_
            refine sy_st (S' := (mj_m_130, 116, [(3, sy_i (sy_rd h 234 16)), (2, sy_i 1), (1, sy_i ((dc_R_here (sy_rd h)).2)), (0, .ref 234)], [.ref 234, .ref 234], h1)) mj_d_130_115 (fun _ _ => rfl) ?_
            refine sy_gf mj_d_130_116 rfl rfl (by decide) rfl th1 ?_
            intro x151 ex151 bx151 tx151
            replace ex151 : x151 = sy_rd h1 234 11 := ex151
            rw [eh1] at ex151
            subst ex151
            refine sy_st (S' := (mj_m_130, 120, [(3, sy_i (sy_rd h 234 16)), (2, sy_i 1), (1, sy_i ((dc_R_here (sy_rd h)).2)), (0, .ref 234)], [sy_i 1, sy_i ((dc_R_here (sy_rd h)).1 234 11), .ref 234], h1)) mj_d_130_119 (fun _ _ => rfl) ?_
            refine sy_add mj_d_130_120 ?_
            refine sg_pf (z := (((dc_R_here (sy_rd h)).1 234 11) + 1)) mj_d_130_121 rfl rfl (by decide) (Or.inl rfl) rfl th1 (by omega) (by omega) ⟨by omega, by omega⟩ ?_
            intro h152 th152 eh152
            rw [eh1] at eh152
            refine sy_st (S' := (mj_m_130, 125, [(3, sy_i (sy_rd h 234 16)), (2, sy_i 1), (1, sy_i ((dc_R_here (sy_rd h)).2)), (0, .ref 234)], [sy_i ((dc_R_here (sy_rd h)).2)], h152)) mj_d_130_124 (fun _ _ => rfl) ?_
            refine sy_bip mj_d_130_125 (by decide) ?_
            refine sy_icm mj_d_130_127 rfl ⟨by omega, by omega⟩ ⟨by omega, by omega⟩ (fun (c153 : ¬ (((dc_R_here (sy_rd h)).2) = 99)) => ?_) (fun (c153 : ¬ ¬ (((dc_R_here (sy_rd h)).2) = 99)) => ?_)
            · skip
              rw [if_neg c153]
              refine sy_st (S' := (mj_m_130, 138, [(3, sy_i (sy_rd h 234 16)), (2, sy_i 1), (1, sy_i ((dc_R_here (sy_rd h)).2)), (0, .ref 234)], [sy_i ((dc_R_here (sy_rd h)).2)], h152)) mj_d_130_137 (fun _ _ => rfl) ?_
              refine sy_bip mj_d_130_138 (by decide) ?_
              refine sy_icm mj_d_130_140 rfl ⟨by omega, by omega⟩ ⟨by omega, by omega⟩ (fun (c154 : ¬ (((dc_R_here (sy_rd h)).2) = 104)) => ?_) (fun (c154 : ¬ ¬ (((dc_R_here (sy_rd h)).2) = 104)) => ?_)
              · skip
                rw [if_neg c154]
                refine sy_st (S' := (mj_m_130, 151, [(3, sy_i (sy_rd h 234 16)), (2, sy_i 1), (1, sy_i ((dc_R_here (sy_rd h)).2)), (0, .ref 234)], [.ref 234], h152)) mj_d_130_150 (fun _ _ => rfl) ?_
                refine sy_cv (M' := mj_m_135) (vs := [.ref 234]) (rest := []) mj_d_130_151 rfl rfl rfl rfl th152 rfl rfl ⟨by decide, ⟨Nat.le_of_ble_eq_true rfl, Nat.le_of_ble_eq_true rfl, Nat.le_of_ble_eq_true rfl, Nat.le_of_ble_eq_true rfl, Nat.le_of_ble_eq_true rfl⟩⟩ (dt_R_takesSweep th152 (by rw [eh152, sg_nk (by decide), dr_R_here _ 234 22 rfl]; omega)) ?_
                rintro _ h155 ⟨th155, eh155, rfl, b156, b156t⟩
                rw [eh152] at eh155 b156 b156t ⊢
                show sy_wp (mj_m_130, 154, [(3, sy_i (sy_rd h 234 16)), (2, sy_i 1), (1, sy_i ((dc_R_here (sy_rd h)).2)), (0, .ref 234)], [sy_i ((dc_R_takesSweep (sg_up (dc_R_here (sy_rd h)).1 234 11 (((dc_R_here (sy_rd h)).1 234 11) + 1))).2)], h155) _
                refine sy_st (S' := (mj_m_130, 156, [(4, sy_i ((dc_R_takesSweep (sg_up (dc_R_here (sy_rd h)).1 234 11 (((dc_R_here (sy_rd h)).1 234 11) + 1))).2)), (3, sy_i (sy_rd h 234 16)), (2, sy_i 1), (1, sy_i ((dc_R_here (sy_rd h)).2)), (0, .ref 234)], [], h155)) mj_d_130_154 (fun _ _ => rfl) ?_
                refine sy_st (S' := (mj_m_130, 158, [(4, sy_i ((dc_R_takesSweep (sg_up (dc_R_here (sy_rd h)).1 234 11 (((dc_R_here (sy_rd h)).1 234 11) + 1))).2)), (3, sy_i (sy_rd h 234 16)), (2, sy_i 1), (1, sy_i ((dc_R_here (sy_rd h)).2)), (0, .ref 234)], [sy_i ((dc_R_takesSweep (sg_up (dc_R_here (sy_rd h)).1 234 11 (((dc_R_here (sy_rd h)).1 234 11) + 1))).2)], h155)) mj_d_130_156 (fun _ _ => rfl) ?_
                refine sy_ifc mj_d_130_158 rfl ⟨by omega, by omega⟩ (fun (c157 : ((dc_R_takesSweep (sg_up (dc_R_here (sy_rd h)).1 234 11 (((dc_R_here (sy_rd h)).1 234 11) + 1))).2) = 0) => ?_) (fun (c157 : ¬ (((dc_R_takesSweep (sg_up (dc_R_here (sy_rd h)).1 234 11 (((dc_R_here (sy_rd h)).1 234 11) + 1))).2) = 0)) => ?_)
                · skip
                  rw [if_pos c157]
                  refine sy_st (S' := (mj_m_130, 175, [(4, sy_i ((dc_R_takesSweep (sg_up (dc_R_here (sy_rd h)).1 234 11 (((dc_R_here (sy_rd h)).1 234 11) + 1))).2)), (3, sy_i (sy_rd h 234 16)), (2, sy_i 1), (1, sy_i ((dc_R_here (sy_rd h)).2)), (0, .ref 234)], [sy_i 0], h155)) mj_d_130_174 (fun _ _ => rfl) ?_
                  exact sy_retb mj_d_130_175 rfl ⟨by omega, by omega⟩ ⟨th155, eh155, rfl, by omega, by omega⟩
                · skip
                  rw [if_neg c157]
                  refine sy_st (S' := (mj_m_130, 162, [(4, sy_i ((dc_R_takesSweep (sg_up (dc_R_here (sy_rd h)).1 234 11 (((dc_R_here (sy_rd h)).1 234 11) + 1))).2)), (3, sy_i (sy_rd h 234 16)), (2, sy_i 1), (1, sy_i ((dc_R_here (sy_rd h)).2)), (0, .ref 234)], [.ref 234], h155)) mj_d_130_161 (fun _ _ => rfl) ?_
                  refine sy_bip mj_d_130_162 (by decide) ?_
                  refine sy_cv (M' := mj_m_136) (vs := [.ref 234, sy_i 59]) (rest := []) mj_d_130_164 rfl rfl rfl rfl th155 rfl rfl ⟨by decide, ⟨Nat.le_of_ble_eq_true rfl, Nat.le_of_ble_eq_true rfl, Nat.le_of_ble_eq_true rfl, Nat.le_of_ble_eq_true rfl, Nat.le_of_ble_eq_true rfl⟩⟩ (dt_R_takes (a1 := 59) th155 (by omega) (by omega)) ?_
                  rintro _ h158 ⟨th158, eh158, rfl, b159, b159t⟩
                  rw [eh155] at eh158 b159 b159t ⊢
                  show sy_wp (mj_m_130, 167, [(4, sy_i ((dc_R_takesSweep (sg_up (dc_R_here (sy_rd h)).1 234 11 (((dc_R_here (sy_rd h)).1 234 11) + 1))).2)), (3, sy_i (sy_rd h 234 16)), (2, sy_i 1), (1, sy_i ((dc_R_here (sy_rd h)).2)), (0, .ref 234)], [sy_i ((dc_R_takes (dc_R_takesSweep (sg_up (dc_R_here (sy_rd h)).1 234 11 (((dc_R_here (sy_rd h)).1 234 11) + 1))).1 59).2)], h158) _
                  refine sy_ifc mj_d_130_167 rfl ⟨by omega, by omega⟩ (fun (c160 : ((dc_R_takes (dc_R_takesSweep (sg_up (dc_R_here (sy_rd h)).1 234 11 (((dc_R_here (sy_rd h)).1 234 11) + 1))).1 59).2) = 0) => ?_) (fun (c160 : ¬ (((dc_R_takes (dc_R_takesSweep (sg_up (dc_R_here (sy_rd h)).1 234 11 (((dc_R_here (sy_rd h)).1 234 11) + 1))).1 59).2) = 0)) => ?_)
                  · skip
                    rw [if_pos c160]
                    refine sy_st (S' := (mj_m_130, 175, [(4, sy_i ((dc_R_takesSweep (sg_up (dc_R_here (sy_rd h)).1 234 11 (((dc_R_here (sy_rd h)).1 234 11) + 1))).2)), (3, sy_i (sy_rd h 234 16)), (2, sy_i 1), (1, sy_i ((dc_R_here (sy_rd h)).2)), (0, .ref 234)], [sy_i 0], h158)) mj_d_130_174 (fun _ _ => rfl) ?_
                    exact sy_retb mj_d_130_175 rfl ⟨by omega, by omega⟩ ⟨th158, eh158, rfl, by omega, by omega⟩
                  · skip
                    rw [if_neg c160]
                    refine sy_st (S' := (mj_m_130, 171, [(4, sy_i ((dc_R_takesSweep (sg_up (dc_R_here (sy_rd h)).1 234 11 (((dc_R_here (sy_rd h)).1 234 11) + 1))).2)), (3, sy_i (sy_rd h 234 16)), (2, sy_i 1), (1, sy_i ((dc_R_here (sy_rd h)).2)), (0, .ref 234)], [sy_i 1], h158)) mj_d_130_170 (fun _ _ => rfl) ?_
                    refine sy_st (S' := (mj_m_130, 175, [(4, sy_i ((dc_R_takesSweep (sg_up (dc_R_here (sy_rd h)).1 234 11 (((dc_R_here (sy_rd h)).1 234 11) + 1))).2)), (3, sy_i (sy_rd h 234 16)), (2, sy_i 1), (1, sy_i ((dc_R_here (sy_rd h)).2)), (0, .ref 234)], [sy_i 1], h158)) mj_d_130_171 (fun _ _ => rfl) ?_
                    exact sy_retb mj_d_130_175 rfl ⟨by omega, by omega⟩ ⟨th158, eh158, rfl, by omega, by omega⟩
              · skip
                rw [if_pos (Decidable.not_not.mp c154)]
                replace c154 := Decidable.not_not.mp c154
                refine sy_st (S' := (mj_m_130, 144, [(3, sy_i (sy_rd h 234 16)), (2, sy_i 1), (1, sy_i ((dc_R_here (sy_rd h)).2)), (0, .ref 234)], [.ref 234], h152)) mj_d_130_143 (fun _ _ => rfl) ?_
                refine sy_cv (M' := mj_m_134) (vs := [.ref 234]) (rest := []) mj_d_130_144 rfl rfl rfl rfl th152 rfl rfl ⟨by decide, ⟨Nat.le_of_ble_eq_true rfl, Nat.le_of_ble_eq_true rfl, Nat.le_of_ble_eq_true rfl, Nat.le_of_ble_eq_true rfl, Nat.le_of_ble_eq_true rfl⟩⟩ (dt_R_takesHouse th152 (by rw [eh152, sg_nk (by decide), dr_R_here _ 234 19 rfl]; omega)) ?_
                rintro _ h161 ⟨th161, eh161, rfl, b162, b162t⟩
                rw [eh152] at eh161 b162 b162t ⊢
                show sy_wp (mj_m_130, 147, [(3, sy_i (sy_rd h 234 16)), (2, sy_i 1), (1, sy_i ((dc_R_here (sy_rd h)).2)), (0, .ref 234)], [sy_i ((dc_R_takesHouse (sg_up (dc_R_here (sy_rd h)).1 234 11 (((dc_R_here (sy_rd h)).1 234 11) + 1))).2)], h161) _
                refine sy_st (S' := (mj_m_130, 154, [(3, sy_i (sy_rd h 234 16)), (2, sy_i 1), (1, sy_i ((dc_R_here (sy_rd h)).2)), (0, .ref 234)], [sy_i ((dc_R_takesHouse (sg_up (dc_R_here (sy_rd h)).1 234 11 (((dc_R_here (sy_rd h)).1 234 11) + 1))).2)], h161)) mj_d_130_147 (fun _ _ => rfl) ?_
                refine sy_st (S' := (mj_m_130, 156, [(4, sy_i ((dc_R_takesHouse (sg_up (dc_R_here (sy_rd h)).1 234 11 (((dc_R_here (sy_rd h)).1 234 11) + 1))).2)), (3, sy_i (sy_rd h 234 16)), (2, sy_i 1), (1, sy_i ((dc_R_here (sy_rd h)).2)), (0, .ref 234)], [], h161)) mj_d_130_154 (fun _ _ => rfl) ?_
                refine sy_st (S' := (mj_m_130, 158, [(4, sy_i ((dc_R_takesHouse (sg_up (dc_R_here (sy_rd h)).1 234 11 (((dc_R_here (sy_rd h)).1 234 11) + 1))).2)), (3, sy_i (sy_rd h 234 16)), (2, sy_i 1), (1, sy_i ((dc_R_here (sy_rd h)).2)), (0, .ref 234)], [sy_i ((dc_R_takesHouse (sg_up (dc_R_here (sy_rd h)).1 234 11 (((dc_R_here (sy_rd h)).1 234 11) + 1))).2)], h161)) mj_d_130_156 (fun _ _ => rfl) ?_
                refine sy_ifc mj_d_130_158 rfl ⟨by omega, by omega⟩ (fun (c163 : ((dc_R_takesHouse (sg_up (dc_R_here (sy_rd h)).1 234 11 (((dc_R_here (sy_rd h)).1 234 11) + 1))).2) = 0) => ?_) (fun (c163 : ¬ (((dc_R_takesHouse (sg_up (dc_R_here (sy_rd h)).1 234 11 (((dc_R_here (sy_rd h)).1 234 11) + 1))).2) = 0)) => ?_)
                · skip
                  rw [if_pos c163]
                  refine sy_st (S' := (mj_m_130, 175, [(4, sy_i ((dc_R_takesHouse (sg_up (dc_R_here (sy_rd h)).1 234 11 (((dc_R_here (sy_rd h)).1 234 11) + 1))).2)), (3, sy_i (sy_rd h 234 16)), (2, sy_i 1), (1, sy_i ((dc_R_here (sy_rd h)).2)), (0, .ref 234)], [sy_i 0], h161)) mj_d_130_174 (fun _ _ => rfl) ?_
                  exact sy_retb mj_d_130_175 rfl ⟨by omega, by omega⟩ ⟨th161, eh161, rfl, by omega, by omega⟩
                · skip
                  rw [if_neg c163]
                  refine sy_st (S' := (mj_m_130, 162, [(4, sy_i ((dc_R_takesHouse (sg_up (dc_R_here (sy_rd h)).1 234 11 (((dc_R_here (sy_rd h)).1 234 11) + 1))).2)), (3, sy_i (sy_rd h 234 16)), (2, sy_i 1), (1, sy_i ((dc_R_here (sy_rd h)).2)), (0, .ref 234)], [.ref 234], h161)) mj_d_130_161 (fun _ _ => rfl) ?_
                  refine sy_bip mj_d_130_162 (by decide) ?_
                  refine sy_cv (M' := mj_m_136) (vs := [.ref 234, sy_i 59]) (rest := []) mj_d_130_164 rfl rfl rfl rfl th161 rfl rfl ⟨by decide, ⟨Nat.le_of_ble_eq_true rfl, Nat.le_of_ble_eq_true rfl, Nat.le_of_ble_eq_true rfl, Nat.le_of_ble_eq_true rfl, Nat.le_of_ble_eq_true rfl⟩⟩ (dt_R_takes (a1 := 59) th161 (by omega) (by omega)) ?_
                  rintro _ h164 ⟨th164, eh164, rfl, b165, b165t⟩
                  rw [eh161] at eh164 b165 b165t ⊢
                  show sy_wp (mj_m_130, 167, [(4, sy_i ((dc_R_takesHouse (sg_up (dc_R_here (sy_rd h)).1 234 11 (((dc_R_here (sy_rd h)).1 234 11) + 1))).2)), (3, sy_i (sy_rd h 234 16)), (2, sy_i 1), (1, sy_i ((dc_R_here (sy_rd h)).2)), (0, .ref 234)], [sy_i ((dc_R_takes (dc_R_takesHouse (sg_up (dc_R_here (sy_rd h)).1 234 11 (((dc_R_here (sy_rd h)).1 234 11) + 1))).1 59).2)], h164) _
                  refine sy_ifc mj_d_130_167 rfl ⟨by omega, by omega⟩ (fun (c166 : ((dc_R_takes (dc_R_takesHouse (sg_up (dc_R_here (sy_rd h)).1 234 11 (((dc_R_here (sy_rd h)).1 234 11) + 1))).1 59).2) = 0) => ?_) (fun (c166 : ¬ (((dc_R_takes (dc_R_takesHouse (sg_up (dc_R_here (sy_rd h)).1 234 11 (((dc_R_here (sy_rd h)).1 234 11) + 1))).1 59).2) = 0)) => ?_)
                  · skip
                    rw [if_pos c166]
                    refine sy_st (S' := (mj_m_130, 175, [(4, sy_i ((dc_R_takesHouse (sg_up (dc_R_here (sy_rd h)).1 234 11 (((dc_R_here (sy_rd h)).1 234 11) + 1))).2)), (3, sy_i (sy_rd h 234 16)), (2, sy_i 1), (1, sy_i ((dc_R_here (sy_rd h)).2)), (0, .ref 234)], [sy_i 0], h164)) mj_d_130_174 (fun _ _ => rfl) ?_
                    exact sy_retb mj_d_130_175 rfl ⟨by omega, by omega⟩ ⟨th164, eh164, rfl, by omega, by omega⟩
                  · skip
                    rw [if_neg c166]
                    refine sy_st (S' := (mj_m_130, 171, [(4, sy_i ((dc_R_takesHouse (sg_up (dc_R_here (sy_rd h)).1 234 11 (((dc_R_here (sy_rd h)).1 234 11) + 1))).2)), (3, sy_i (sy_rd h 234 16)), (2, sy_i 1), (1, sy_i ((dc_R_here (sy_rd h)).2)), (0, .ref 234)], [sy_i 1], h164)) mj_d_130_170 (fun _ _ => rfl) ?_
                    refine sy_st (S' := (mj_m_130, 175, [(4, sy_i ((dc_R_takesHouse (sg_up (dc_R_here (sy_rd h)).1 234 11 (((dc_R_here (sy_rd h)).1 234 11) + 1))).2)), (3, sy_i (sy_rd h 234 16)), (2, sy_i 1), (1, sy_i ((dc_R_here (sy_rd h)).2)), (0, .ref 234)], [sy_i 1], h164)) mj_d_130_171 (fun _ _ => rfl) ?_
                    exact sy_retb mj_d_130_175 rfl ⟨by omega, by omega⟩ ⟨th164, eh164, rfl, by omega, by omega⟩
            · skip
              rw [if_pos (Decidable.not_not.mp c153)]
              replace c153 := Decidable.not_not.mp c153
              refine sy_st (S' := (mj_m_130, 131, [(3, sy_i (sy_rd h 234 16)), (2, sy_i 1), (1, sy_i ((dc_R_here (sy_rd h)).2)), (0, .ref 234)], [.ref 234], h152)) mj_d_130_130 (fun _ _ => rfl) ?_
              refine sy_cv (M' := mj_m_132) (vs := [.ref 234]) (rest := []) mj_d_130_131 rfl rfl rfl rfl th152 rfl rfl ⟨by decide, ⟨Nat.le_of_ble_eq_true rfl, Nat.le_of_ble_eq_true rfl, Nat.le_of_ble_eq_true rfl, Nat.le_of_ble_eq_true rfl, Nat.le_of_ble_eq_true rfl⟩⟩ (dt_R_takesCity th152) ?_
              rintro _ h167 ⟨th167, eh167, rfl, b168, b168t⟩
              rw [eh152] at eh167 b168 b168t ⊢
              show sy_wp (mj_m_130, 134, [(3, sy_i (sy_rd h 234 16)), (2, sy_i 1), (1, sy_i ((dc_R_here (sy_rd h)).2)), (0, .ref 234)], [sy_i ((dc_R_takesCity (sg_up (dc_R_here (sy_rd h)).1 234 11 (((dc_R_here (sy_rd h)).1 234 11) + 1))).2)], h167) _
              refine sy_st (S' := (mj_m_130, 154, [(3, sy_i (sy_rd h 234 16)), (2, sy_i 1), (1, sy_i ((dc_R_here (sy_rd h)).2)), (0, .ref 234)], [sy_i ((dc_R_takesCity (sg_up (dc_R_here (sy_rd h)).1 234 11 (((dc_R_here (sy_rd h)).1 234 11) + 1))).2)], h167)) mj_d_130_134 (fun _ _ => rfl) ?_
              refine sy_st (S' := (mj_m_130, 156, [(4, sy_i ((dc_R_takesCity (sg_up (dc_R_here (sy_rd h)).1 234 11 (((dc_R_here (sy_rd h)).1 234 11) + 1))).2)), (3, sy_i (sy_rd h 234 16)), (2, sy_i 1), (1, sy_i ((dc_R_here (sy_rd h)).2)), (0, .ref 234)], [], h167)) mj_d_130_154 (fun _ _ => rfl) ?_
              refine sy_st (S' := (mj_m_130, 158, [(4, sy_i ((dc_R_takesCity (sg_up (dc_R_here (sy_rd h)).1 234 11 (((dc_R_here (sy_rd h)).1 234 11) + 1))).2)), (3, sy_i (sy_rd h 234 16)), (2, sy_i 1), (1, sy_i ((dc_R_here (sy_rd h)).2)), (0, .ref 234)], [sy_i ((dc_R_takesCity (sg_up (dc_R_here (sy_rd h)).1 234 11 (((dc_R_here (sy_rd h)).1 234 11) + 1))).2)], h167)) mj_d_130_156 (fun _ _ => rfl) ?_
              refine sy_ifc mj_d_130_158 rfl ⟨by omega, by omega⟩ (fun (c169 : ((dc_R_takesCity (sg_up (dc_R_here (sy_rd h)).1 234 11 (((dc_R_here (sy_rd h)).1 234 11) + 1))).2) = 0) => ?_) (fun (c169 : ¬ (((dc_R_takesCity (sg_up (dc_R_here (sy_rd h)).1 234 11 (((dc_R_here (sy_rd h)).1 234 11) + 1))).2) = 0)) => ?_)
              · skip
                rw [if_pos c169]
                refine sy_st (S' := (mj_m_130, 175, [(4, sy_i ((dc_R_takesCity (sg_up (dc_R_here (sy_rd h)).1 234 11 (((dc_R_here (sy_rd h)).1 234 11) + 1))).2)), (3, sy_i (sy_rd h 234 16)), (2, sy_i 1), (1, sy_i ((dc_R_here (sy_rd h)).2)), (0, .ref 234)], [sy_i 0], h167)) mj_d_130_174 (fun _ _ => rfl) ?_
                exact sy_retb mj_d_130_175 rfl ⟨by omega, by omega⟩ ⟨th167, eh167, rfl, by omega, by omega⟩
              · skip
                rw [if_neg c169]
                refine sy_st (S' := (mj_m_130, 162, [(4, sy_i ((dc_R_takesCity (sg_up (dc_R_here (sy_rd h)).1 234 11 (((dc_R_here (sy_rd h)).1 234 11) + 1))).2)), (3, sy_i (sy_rd h 234 16)), (2, sy_i 1), (1, sy_i ((dc_R_here (sy_rd h)).2)), (0, .ref 234)], [.ref 234], h167)) mj_d_130_161 (fun _ _ => rfl) ?_
                refine sy_bip mj_d_130_162 (by decide) ?_
                refine sy_cv (M' := mj_m_136) (vs := [.ref 234, sy_i 59]) (rest := []) mj_d_130_164 rfl rfl rfl rfl th167 rfl rfl ⟨by decide, ⟨Nat.le_of_ble_eq_true rfl, Nat.le_of_ble_eq_true rfl, Nat.le_of_ble_eq_true rfl, Nat.le_of_ble_eq_true rfl, Nat.le_of_ble_eq_true rfl⟩⟩ (dt_R_takes (a1 := 59) th167 (by omega) (by omega)) ?_
                rintro _ h170 ⟨th170, eh170, rfl, b171, b171t⟩
                rw [eh167] at eh170 b171 b171t ⊢
                show sy_wp (mj_m_130, 167, [(4, sy_i ((dc_R_takesCity (sg_up (dc_R_here (sy_rd h)).1 234 11 (((dc_R_here (sy_rd h)).1 234 11) + 1))).2)), (3, sy_i (sy_rd h 234 16)), (2, sy_i 1), (1, sy_i ((dc_R_here (sy_rd h)).2)), (0, .ref 234)], [sy_i ((dc_R_takes (dc_R_takesCity (sg_up (dc_R_here (sy_rd h)).1 234 11 (((dc_R_here (sy_rd h)).1 234 11) + 1))).1 59).2)], h170) _
                refine sy_ifc mj_d_130_167 rfl ⟨by omega, by omega⟩ (fun (c172 : ((dc_R_takes (dc_R_takesCity (sg_up (dc_R_here (sy_rd h)).1 234 11 (((dc_R_here (sy_rd h)).1 234 11) + 1))).1 59).2) = 0) => ?_) (fun (c172 : ¬ (((dc_R_takes (dc_R_takesCity (sg_up (dc_R_here (sy_rd h)).1 234 11 (((dc_R_here (sy_rd h)).1 234 11) + 1))).1 59).2) = 0)) => ?_)
                · skip
                  rw [if_pos c172]
                  refine sy_st (S' := (mj_m_130, 175, [(4, sy_i ((dc_R_takesCity (sg_up (dc_R_here (sy_rd h)).1 234 11 (((dc_R_here (sy_rd h)).1 234 11) + 1))).2)), (3, sy_i (sy_rd h 234 16)), (2, sy_i 1), (1, sy_i ((dc_R_here (sy_rd h)).2)), (0, .ref 234)], [sy_i 0], h170)) mj_d_130_174 (fun _ _ => rfl) ?_
                  exact sy_retb mj_d_130_175 rfl ⟨by omega, by omega⟩ ⟨th170, eh170, rfl, by omega, by omega⟩
                · skip
                  rw [if_neg c172]
                  refine sy_st (S' := (mj_m_130, 171, [(4, sy_i ((dc_R_takesCity (sg_up (dc_R_here (sy_rd h)).1 234 11 (((dc_R_here (sy_rd h)).1 234 11) + 1))).2)), (3, sy_i (sy_rd h 234 16)), (2, sy_i 1), (1, sy_i ((dc_R_here (sy_rd h)).2)), (0, .ref 234)], [sy_i 1], h170)) mj_d_130_170 (fun _ _ => rfl) ?_
                  refine sy_st (S' := (mj_m_130, 175, [(4, sy_i ((dc_R_takesCity (sg_up (dc_R_here (sy_rd h)).1 234 11 (((dc_R_here (sy_rd h)).1 234 11) + 1))).2)), (3, sy_i (sy_rd h 234 16)), (2, sy_i 1), (1, sy_i ((dc_R_here (sy_rd h)).2)), (0, .ref 234)], [sy_i 1], h170)) mj_d_130_171 (fun _ _ => rfl) ?_
                  exact sy_retb mj_d_130_175 rfl ⟨by omega, by omega⟩ ⟨th170, eh170, rfl, by omega, by omega⟩
          · skip
            rw [if_neg c150]
            refine sy_st (S' := (mj_m_130, 105, [(3, sy_i (sy_rd h 234 16)), (2, sy_i 1), (1, sy_i ((dc_R_here (sy_rd h)).2)), (0, .ref 234)], [.ref 234], h1)) mj_d_130_104 (fun _ _ => rfl) ?_
            refine sy_st (S' := (mj_m_130, 106, [(3, sy_i (sy_rd h 234 16)), (2, sy_i 1), (1, sy_i ((dc_R_here (sy_rd h)).2)), (0, .ref 234)], [sy_i 3, .ref 234], h1)) mj_d_130_105 (fun _ _ => rfl) ?_
            refine sy_st (S' := (mj_m_130, 107, [(3, sy_i (sy_rd h 234 16)), (2, sy_i 1), (1, sy_i ((dc_R_here (sy_rd h)).2)), (0, .ref 234)], [.ref 234, sy_i 3, .ref 234], h1)) mj_d_130_106 (fun _ _ => rfl) ?_
            refine sy_gf mj_d_130_107 rfl rfl (by decide) rfl th1 ?_
            intro x173 ex173 bx173 tx173
            replace ex173 : x173 = sy_rd h1 234 12 := ex173
            rw [eh1] at ex173
            subst ex173
            refine sy_cv (M' := mj_m_131) (vs := [.ref 234, sy_i 3, sy_i ((dc_R_here (sy_rd h)).1 234 12)]) (rest := []) mj_d_130_110 rfl rfl rfl rfl th1 rfl rfl ⟨by decide, ⟨Nat.le_of_ble_eq_true rfl, Nat.le_of_ble_eq_true rfl, Nat.le_of_ble_eq_true rfl, Nat.le_of_ble_eq_true rfl, Nat.le_of_ble_eq_true rfl⟩⟩ (dt_R_fails (a1 := 3) (a2 := ((dc_R_here (sy_rd h)).1 234 12)) th1 (by omega) (by omega) (by omega) (by omega)) ?_
            rintro _ h174 ⟨th174, eh174, rfl, b175, b175t⟩
            rw [eh1] at eh174 b175 b175t ⊢
            show sy_wp (mj_m_130, 113, [(3, sy_i (sy_rd h 234 16)), (2, sy_i 1), (1, sy_i ((dc_R_here (sy_rd h)).2)), (0, .ref 234)], [sy_i ((dc_R_fails (dc_R_here (sy_rd h)).1 3 ((dc_R_here (sy_rd h)).1 234 12)).2)], h174) _
            exact sy_retb mj_d_130_113 rfl ⟨by omega, by omega⟩ ⟨th174, eh174, rfl, by omega, by omega⟩
      · skip
        rw [if_neg c92]
        refine sy_st (S' := (mj_m_130, 25, [(1, sy_i ((dc_R_here (sy_rd h)).2)), (0, .ref 234)], [sy_i ((dc_R_here (sy_rd h)).2)], h1)) mj_d_130_24 (fun _ _ => rfl) ?_
        refine sy_bip mj_d_130_25 (by decide) ?_
        refine sy_icm mj_d_130_27 rfl ⟨by omega, by omega⟩ ⟨by omega, by omega⟩ (fun (c176 : ¬ (((dc_R_here (sy_rd h)).2) = 115)) => ?_) (fun (c176 : ¬ ¬ (((dc_R_here (sy_rd h)).2) = 115)) => ?_)
        · skip
          rw [if_neg c176]
          refine sy_st (S' := (mj_m_130, 35, [(1, sy_i ((dc_R_here (sy_rd h)).2)), (0, .ref 234)], [sy_i 0], h1)) mj_d_130_34 (fun _ _ => rfl) ?_
          refine sy_st (S' := (mj_m_130, 36, [(2, sy_i 0), (1, sy_i ((dc_R_here (sy_rd h)).2)), (0, .ref 234)], [], h1)) mj_d_130_35 (fun _ _ => rfl) ?_
          refine sy_st (S' := (mj_m_130, 37, [(2, sy_i 0), (1, sy_i ((dc_R_here (sy_rd h)).2)), (0, .ref 234)], [sy_i 0], h1)) mj_d_130_36 (fun _ _ => rfl) ?_
          refine sy_ifc mj_d_130_37 rfl ⟨by omega, by omega⟩ (fun (q : ¬ (0 : Int) = 0) => absurd q (by decide)) (fun _ => ?_)
          refine sy_st (S' := (mj_m_130, 41, [(2, sy_i 0), (1, sy_i ((dc_R_here (sy_rd h)).2)), (0, .ref 234)], [.ref 234], h1)) mj_d_130_40 (fun _ _ => rfl) ?_
          refine sy_st (S' := (mj_m_130, 42, [(2, sy_i 0), (1, sy_i ((dc_R_here (sy_rd h)).2)), (0, .ref 234)], [sy_i 1, .ref 234], h1)) mj_d_130_41 (fun _ _ => rfl) ?_
          refine sy_st (S' := (mj_m_130, 43, [(2, sy_i 0), (1, sy_i ((dc_R_here (sy_rd h)).2)), (0, .ref 234)], [.ref 234, sy_i 1, .ref 234], h1)) mj_d_130_42 (fun _ _ => rfl) ?_
          refine sy_gf mj_d_130_43 rfl rfl (by decide) rfl th1 ?_
          intro x177 ex177 bx177 tx177
          replace ex177 : x177 = sy_rd h1 234 12 := ex177
          rw [eh1] at ex177
          subst ex177
          refine sy_cv (M' := mj_m_131) (vs := [.ref 234, sy_i 1, sy_i ((dc_R_here (sy_rd h)).1 234 12)]) (rest := []) mj_d_130_46 rfl rfl rfl rfl th1 rfl rfl ⟨by decide, ⟨Nat.le_of_ble_eq_true rfl, Nat.le_of_ble_eq_true rfl, Nat.le_of_ble_eq_true rfl, Nat.le_of_ble_eq_true rfl, Nat.le_of_ble_eq_true rfl⟩⟩ (dt_R_fails (a1 := 1) (a2 := ((dc_R_here (sy_rd h)).1 234 12)) th1 (by omega) (by omega) (by omega) (by omega)) ?_
          rintro _ h178 ⟨th178, eh178, rfl, b179, b179t⟩
          rw [eh1] at eh178 b179 b179t ⊢
          show sy_wp (mj_m_130, 49, [(2, sy_i 0), (1, sy_i ((dc_R_here (sy_rd h)).2)), (0, .ref 234)], [sy_i ((dc_R_fails (dc_R_here (sy_rd h)).1 1 ((dc_R_here (sy_rd h)).1 234 12)).2)], h178) _
          exact sy_retb mj_d_130_49 rfl ⟨by omega, by omega⟩ ⟨th178, eh178, rfl, by omega, by omega⟩
        · skip
          rw [if_pos (Decidable.not_not.mp c176)]
          replace c176 := Decidable.not_not.mp c176
          refine sy_st (S' := (mj_m_130, 31, [(1, sy_i ((dc_R_here (sy_rd h)).2)), (0, .ref 234)], [sy_i 1], h1)) mj_d_130_30 (fun _ _ => rfl) ?_
          refine sy_st (S' := (mj_m_130, 35, [(1, sy_i ((dc_R_here (sy_rd h)).2)), (0, .ref 234)], [sy_i 1], h1)) mj_d_130_31 (fun _ _ => rfl) ?_
          refine sy_st (S' := (mj_m_130, 36, [(2, sy_i 1), (1, sy_i ((dc_R_here (sy_rd h)).2)), (0, .ref 234)], [], h1)) mj_d_130_35 (fun _ _ => rfl) ?_
          refine sy_st (S' := (mj_m_130, 37, [(2, sy_i 1), (1, sy_i ((dc_R_here (sy_rd h)).2)), (0, .ref 234)], [sy_i 1], h1)) mj_d_130_36 (fun _ _ => rfl) ?_
          refine sy_ifc mj_d_130_37 rfl ⟨by omega, by omega⟩ (fun _ => ?_) (fun (q : ¬ (¬ (1 : Int) = 0)) => absurd (by decide) q)
          refine sy_st (S' := (mj_m_130, 51, [(2, sy_i 1), (1, sy_i ((dc_R_here (sy_rd h)).2)), (0, .ref 234)], [sy_i ((dc_R_here (sy_rd h)).2)], h1)) mj_d_130_50 (fun _ _ => rfl) ?_
          refine sy_bip mj_d_130_51 (by decide) ?_
          refine sy_icm mj_d_130_53 rfl ⟨by omega, by omega⟩ ⟨by omega, by omega⟩ (fun (c180 : ¬ (((dc_R_here (sy_rd h)).2) = 99)) => ?_) (fun (c180 : ¬ ¬ (((dc_R_here (sy_rd h)).2) = 99)) => ?_)
          · skip
            rw [if_neg c180]
            refine sy_st (S' := (mj_m_130, 64, [(2, sy_i 1), (1, sy_i ((dc_R_here (sy_rd h)).2)), (0, .ref 234)], [sy_i ((dc_R_here (sy_rd h)).2)], h1)) mj_d_130_63 (fun _ _ => rfl) ?_
            refine sy_bip mj_d_130_64 (by decide) ?_
            refine sy_icm mj_d_130_66 rfl ⟨by omega, by omega⟩ ⟨by omega, by omega⟩ (fun (c181 : ¬ (((dc_R_here (sy_rd h)).2) = 104)) => ?_) (fun (c181 : ¬ ¬ (((dc_R_here (sy_rd h)).2) = 104)) => ?_)
            · skip
              rw [if_neg c181]
              refine sy_st (S' := (mj_m_130, 87, [(2, sy_i 1), (1, sy_i ((dc_R_here (sy_rd h)).2)), (0, .ref 234)], [.ref 234], h1)) mj_d_130_86 (fun _ _ => rfl) ?_
              refine sy_gf mj_d_130_87 rfl rfl (by decide) rfl th1 ?_
              intro x182 ex182 bx182 tx182
              replace ex182 : x182 = sy_rd h1 234 22 := ex182
              rw [eh1, dr_R_here _ 234 22 rfl] at ex182
              subst ex182
              refine sy_st (S' := (mj_m_130, 91, [(2, sy_i 1), (1, sy_i ((dc_R_here (sy_rd h)).2)), (0, .ref 234)], [sy_i 5, sy_i (sy_rd h 234 22)], h1)) mj_d_130_90 (fun _ _ => rfl) ?_
              refine sy_icm mj_d_130_91 rfl ⟨by omega, by omega⟩ ⟨by omega, by omega⟩ (fun (c183 : ¬ ((sy_rd h 234 22) = 5)) => ?_) (fun (c183 : ¬ ¬ ((sy_rd h 234 22) = 5)) => ?_)
              · skip
                rw [if_neg c183]
                refine sy_st (S' := (mj_m_130, 99, [(2, sy_i 1), (1, sy_i ((dc_R_here (sy_rd h)).2)), (0, .ref 234)], [sy_i 0], h1)) mj_d_130_98 (fun _ _ => rfl) ?_
                refine sy_st (S' := (mj_m_130, 100, [(3, sy_i 0), (2, sy_i 1), (1, sy_i ((dc_R_here (sy_rd h)).2)), (0, .ref 234)], [], h1)) mj_d_130_99 (fun _ _ => rfl) ?_
                refine sy_st (S' := (mj_m_130, 101, [(3, sy_i 0), (2, sy_i 1), (1, sy_i ((dc_R_here (sy_rd h)).2)), (0, .ref 234)], [sy_i 0], h1)) mj_d_130_100 (fun _ _ => rfl) ?_
                refine sy_ifc mj_d_130_101 rfl ⟨by omega, by omega⟩ (fun _ => ?_) (fun (q : ¬ ((0 : Int) = 0)) => absurd (by decide) q)
                refine sy_st (S' := (mj_m_130, 115, [(3, sy_i 0), (2, sy_i 1), (1, sy_i ((dc_R_here (sy_rd h)).2)), (0, .ref 234)], [.ref 234], h1)) mj_d_130_114 (fun _ _ => rfl) ?_
                refine sy_st (S' := (mj_m_130, 116, [(3, sy_i 0), (2, sy_i 1), (1, sy_i ((dc_R_here (sy_rd h)).2)), (0, .ref 234)], [.ref 234, .ref 234], h1)) mj_d_130_115 (fun _ _ => rfl) ?_
                refine sy_gf mj_d_130_116 rfl rfl (by decide) rfl th1 ?_
                intro x184 ex184 bx184 tx184
                replace ex184 : x184 = sy_rd h1 234 11 := ex184
                rw [eh1] at ex184
                subst ex184
                refine sy_st (S' := (mj_m_130, 120, [(3, sy_i 0), (2, sy_i 1), (1, sy_i ((dc_R_here (sy_rd h)).2)), (0, .ref 234)], [sy_i 1, sy_i ((dc_R_here (sy_rd h)).1 234 11), .ref 234], h1)) mj_d_130_119 (fun _ _ => rfl) ?_
                refine sy_add mj_d_130_120 ?_
                refine sg_pf (z := (((dc_R_here (sy_rd h)).1 234 11) + 1)) mj_d_130_121 rfl rfl (by decide) (Or.inl rfl) rfl th1 (by omega) (by omega) ⟨by omega, by omega⟩ ?_
                intro h185 th185 eh185
                rw [eh1] at eh185
                refine sy_st (S' := (mj_m_130, 125, [(3, sy_i 0), (2, sy_i 1), (1, sy_i ((dc_R_here (sy_rd h)).2)), (0, .ref 234)], [sy_i ((dc_R_here (sy_rd h)).2)], h185)) mj_d_130_124 (fun _ _ => rfl) ?_
                refine sy_bip mj_d_130_125 (by decide) ?_
                refine sy_icm mj_d_130_127 rfl ⟨by omega, by omega⟩ ⟨by omega, by omega⟩ (fun (c186 : ¬ (((dc_R_here (sy_rd h)).2) = 99)) => ?_) (fun (c186 : ¬ ¬ (((dc_R_here (sy_rd h)).2) = 99)) => ?_)
                · skip
                  rw [if_neg c186]
                  refine sy_st (S' := (mj_m_130, 138, [(3, sy_i 0), (2, sy_i 1), (1, sy_i ((dc_R_here (sy_rd h)).2)), (0, .ref 234)], [sy_i ((dc_R_here (sy_rd h)).2)], h185)) mj_d_130_137 (fun _ _ => rfl) ?_
                  refine sy_bip mj_d_130_138 (by decide) ?_
                  refine sy_icm mj_d_130_140 rfl ⟨by omega, by omega⟩ ⟨by omega, by omega⟩ (fun (c187 : ¬ (((dc_R_here (sy_rd h)).2) = 104)) => ?_) (fun (c187 : ¬ ¬ (((dc_R_here (sy_rd h)).2) = 104)) => ?_)
                  · skip
                    rw [if_neg c187]
                    refine sy_st (S' := (mj_m_130, 151, [(3, sy_i 0), (2, sy_i 1), (1, sy_i ((dc_R_here (sy_rd h)).2)), (0, .ref 234)], [.ref 234], h185)) mj_d_130_150 (fun _ _ => rfl) ?_
                    refine sy_cv (M' := mj_m_135) (vs := [.ref 234]) (rest := []) mj_d_130_151 rfl rfl rfl rfl th185 rfl rfl ⟨by decide, ⟨Nat.le_of_ble_eq_true rfl, Nat.le_of_ble_eq_true rfl, Nat.le_of_ble_eq_true rfl, Nat.le_of_ble_eq_true rfl, Nat.le_of_ble_eq_true rfl⟩⟩ (dt_R_takesSweep th185 (by rw [eh185, sg_nk (by decide), dr_R_here _ 234 22 rfl]; omega)) ?_
                    rintro _ h188 ⟨th188, eh188, rfl, b189, b189t⟩
                    rw [eh185] at eh188 b189 b189t ⊢
                    show sy_wp (mj_m_130, 154, [(3, sy_i 0), (2, sy_i 1), (1, sy_i ((dc_R_here (sy_rd h)).2)), (0, .ref 234)], [sy_i ((dc_R_takesSweep (sg_up (dc_R_here (sy_rd h)).1 234 11 (((dc_R_here (sy_rd h)).1 234 11) + 1))).2)], h188) _
                    refine sy_st (S' := (mj_m_130, 156, [(4, sy_i ((dc_R_takesSweep (sg_up (dc_R_here (sy_rd h)).1 234 11 (((dc_R_here (sy_rd h)).1 234 11) + 1))).2)), (3, sy_i 0), (2, sy_i 1), (1, sy_i ((dc_R_here (sy_rd h)).2)), (0, .ref 234)], [], h188)) mj_d_130_154 (fun _ _ => rfl) ?_
                    refine sy_st (S' := (mj_m_130, 158, [(4, sy_i ((dc_R_takesSweep (sg_up (dc_R_here (sy_rd h)).1 234 11 (((dc_R_here (sy_rd h)).1 234 11) + 1))).2)), (3, sy_i 0), (2, sy_i 1), (1, sy_i ((dc_R_here (sy_rd h)).2)), (0, .ref 234)], [sy_i ((dc_R_takesSweep (sg_up (dc_R_here (sy_rd h)).1 234 11 (((dc_R_here (sy_rd h)).1 234 11) + 1))).2)], h188)) mj_d_130_156 (fun _ _ => rfl) ?_
                    refine sy_ifc mj_d_130_158 rfl ⟨by omega, by omega⟩ (fun (c190 : ((dc_R_takesSweep (sg_up (dc_R_here (sy_rd h)).1 234 11 (((dc_R_here (sy_rd h)).1 234 11) + 1))).2) = 0) => ?_) (fun (c190 : ¬ (((dc_R_takesSweep (sg_up (dc_R_here (sy_rd h)).1 234 11 (((dc_R_here (sy_rd h)).1 234 11) + 1))).2) = 0)) => ?_)
                    · skip
                      rw [if_pos c190]
                      refine sy_st (S' := (mj_m_130, 175, [(4, sy_i ((dc_R_takesSweep (sg_up (dc_R_here (sy_rd h)).1 234 11 (((dc_R_here (sy_rd h)).1 234 11) + 1))).2)), (3, sy_i 0), (2, sy_i 1), (1, sy_i ((dc_R_here (sy_rd h)).2)), (0, .ref 234)], [sy_i 0], h188)) mj_d_130_174 (fun _ _ => rfl) ?_
                      exact sy_retb mj_d_130_175 rfl ⟨by omega, by omega⟩ ⟨th188, eh188, rfl, by omega, by omega⟩
                    · skip
                      rw [if_neg c190]
                      refine sy_st (S' := (mj_m_130, 162, [(4, sy_i ((dc_R_takesSweep (sg_up (dc_R_here (sy_rd h)).1 234 11 (((dc_R_here (sy_rd h)).1 234 11) + 1))).2)), (3, sy_i 0), (2, sy_i 1), (1, sy_i ((dc_R_here (sy_rd h)).2)), (0, .ref 234)], [.ref 234], h188)) mj_d_130_161 (fun _ _ => rfl) ?_
                      refine sy_bip mj_d_130_162 (by decide) ?_
                      refine sy_cv (M' := mj_m_136) (vs := [.ref 234, sy_i 59]) (rest := []) mj_d_130_164 rfl rfl rfl rfl th188 rfl rfl ⟨by decide, ⟨Nat.le_of_ble_eq_true rfl, Nat.le_of_ble_eq_true rfl, Nat.le_of_ble_eq_true rfl, Nat.le_of_ble_eq_true rfl, Nat.le_of_ble_eq_true rfl⟩⟩ (dt_R_takes (a1 := 59) th188 (by omega) (by omega)) ?_
                      rintro _ h191 ⟨th191, eh191, rfl, b192, b192t⟩
                      rw [eh188] at eh191 b192 b192t ⊢
                      show sy_wp (mj_m_130, 167, [(4, sy_i ((dc_R_takesSweep (sg_up (dc_R_here (sy_rd h)).1 234 11 (((dc_R_here (sy_rd h)).1 234 11) + 1))).2)), (3, sy_i 0), (2, sy_i 1), (1, sy_i ((dc_R_here (sy_rd h)).2)), (0, .ref 234)], [sy_i ((dc_R_takes (dc_R_takesSweep (sg_up (dc_R_here (sy_rd h)).1 234 11 (((dc_R_here (sy_rd h)).1 234 11) + 1))).1 59).2)], h191) _
                      refine sy_ifc mj_d_130_167 rfl ⟨by omega, by omega⟩ (fun (c193 : ((dc_R_takes (dc_R_takesSweep (sg_up (dc_R_here (sy_rd h)).1 234 11 (((dc_R_here (sy_rd h)).1 234 11) + 1))).1 59).2) = 0) => ?_) (fun (c193 : ¬ (((dc_R_takes (dc_R_takesSweep (sg_up (dc_R_here (sy_rd h)).1 234 11 (((dc_R_here (sy_rd h)).1 234 11) + 1))).1 59).2) = 0)) => ?_)
                      · skip
                        rw [if_pos c193]
                        refine sy_st (S' := (mj_m_130, 175, [(4, sy_i ((dc_R_takesSweep (sg_up (dc_R_here (sy_rd h)).1 234 11 (((dc_R_here (sy_rd h)).1 234 11) + 1))).2)), (3, sy_i 0), (2, sy_i 1), (1, sy_i ((dc_R_here (sy_rd h)).2)), (0, .ref 234)], [sy_i 0], h191)) mj_d_130_174 (fun _ _ => rfl) ?_
                        exact sy_retb mj_d_130_175 rfl ⟨by omega, by omega⟩ ⟨th191, eh191, rfl, by omega, by omega⟩
                      · skip
                        rw [if_neg c193]
                        refine sy_st (S' := (mj_m_130, 171, [(4, sy_i ((dc_R_takesSweep (sg_up (dc_R_here (sy_rd h)).1 234 11 (((dc_R_here (sy_rd h)).1 234 11) + 1))).2)), (3, sy_i 0), (2, sy_i 1), (1, sy_i ((dc_R_here (sy_rd h)).2)), (0, .ref 234)], [sy_i 1], h191)) mj_d_130_170 (fun _ _ => rfl) ?_
                        refine sy_st (S' := (mj_m_130, 175, [(4, sy_i ((dc_R_takesSweep (sg_up (dc_R_here (sy_rd h)).1 234 11 (((dc_R_here (sy_rd h)).1 234 11) + 1))).2)), (3, sy_i 0), (2, sy_i 1), (1, sy_i ((dc_R_here (sy_rd h)).2)), (0, .ref 234)], [sy_i 1], h191)) mj_d_130_171 (fun _ _ => rfl) ?_
                        exact sy_retb mj_d_130_175 rfl ⟨by omega, by omega⟩ ⟨th191, eh191, rfl, by omega, by omega⟩
                  · skip
                    rw [if_pos (Decidable.not_not.mp c187)]
                    replace c187 := Decidable.not_not.mp c187
                    refine sy_st (S' := (mj_m_130, 144, [(3, sy_i 0), (2, sy_i 1), (1, sy_i ((dc_R_here (sy_rd h)).2)), (0, .ref 234)], [.ref 234], h185)) mj_d_130_143 (fun _ _ => rfl) ?_
                    refine sy_cv (M' := mj_m_134) (vs := [.ref 234]) (rest := []) mj_d_130_144 rfl rfl rfl rfl th185 rfl rfl ⟨by decide, ⟨Nat.le_of_ble_eq_true rfl, Nat.le_of_ble_eq_true rfl, Nat.le_of_ble_eq_true rfl, Nat.le_of_ble_eq_true rfl, Nat.le_of_ble_eq_true rfl⟩⟩ (dt_R_takesHouse th185 (by rw [eh185, sg_nk (by decide), dr_R_here _ 234 19 rfl]; omega)) ?_
                    rintro _ h194 ⟨th194, eh194, rfl, b195, b195t⟩
                    rw [eh185] at eh194 b195 b195t ⊢
                    show sy_wp (mj_m_130, 147, [(3, sy_i 0), (2, sy_i 1), (1, sy_i ((dc_R_here (sy_rd h)).2)), (0, .ref 234)], [sy_i ((dc_R_takesHouse (sg_up (dc_R_here (sy_rd h)).1 234 11 (((dc_R_here (sy_rd h)).1 234 11) + 1))).2)], h194) _
                    refine sy_st (S' := (mj_m_130, 154, [(3, sy_i 0), (2, sy_i 1), (1, sy_i ((dc_R_here (sy_rd h)).2)), (0, .ref 234)], [sy_i ((dc_R_takesHouse (sg_up (dc_R_here (sy_rd h)).1 234 11 (((dc_R_here (sy_rd h)).1 234 11) + 1))).2)], h194)) mj_d_130_147 (fun _ _ => rfl) ?_
                    refine sy_st (S' := (mj_m_130, 156, [(4, sy_i ((dc_R_takesHouse (sg_up (dc_R_here (sy_rd h)).1 234 11 (((dc_R_here (sy_rd h)).1 234 11) + 1))).2)), (3, sy_i 0), (2, sy_i 1), (1, sy_i ((dc_R_here (sy_rd h)).2)), (0, .ref 234)], [], h194)) mj_d_130_154 (fun _ _ => rfl) ?_
                    refine sy_st (S' := (mj_m_130, 158, [(4, sy_i ((dc_R_takesHouse (sg_up (dc_R_here (sy_rd h)).1 234 11 (((dc_R_here (sy_rd h)).1 234 11) + 1))).2)), (3, sy_i 0), (2, sy_i 1), (1, sy_i ((dc_R_here (sy_rd h)).2)), (0, .ref 234)], [sy_i ((dc_R_takesHouse (sg_up (dc_R_here (sy_rd h)).1 234 11 (((dc_R_here (sy_rd h)).1 234 11) + 1))).2)], h194)) mj_d_130_156 (fun _ _ => rfl) ?_
                    refine sy_ifc mj_d_130_158 rfl ⟨by omega, by omega⟩ (fun (c196 : ((dc_R_takesHouse (sg_up (dc_R_here (sy_rd h)).1 234 11 (((dc_R_here (sy_rd h)).1 234 11) + 1))).2) = 0) => ?_) (fun (c196 : ¬ (((dc_R_takesHouse (sg_up (dc_R_here (sy_rd h)).1 234 11 (((dc_R_here (sy_rd h)).1 234 11) + 1))).2) = 0)) => ?_)
                    · skip
                      rw [if_pos c196]
                      refine sy_st (S' := (mj_m_130, 175, [(4, sy_i ((dc_R_takesHouse (sg_up (dc_R_here (sy_rd h)).1 234 11 (((dc_R_here (sy_rd h)).1 234 11) + 1))).2)), (3, sy_i 0), (2, sy_i 1), (1, sy_i ((dc_R_here (sy_rd h)).2)), (0, .ref 234)], [sy_i 0], h194)) mj_d_130_174 (fun _ _ => rfl) ?_
                      exact sy_retb mj_d_130_175 rfl ⟨by omega, by omega⟩ ⟨th194, eh194, rfl, by omega, by omega⟩
                    · skip
                      rw [if_neg c196]
                      refine sy_st (S' := (mj_m_130, 162, [(4, sy_i ((dc_R_takesHouse (sg_up (dc_R_here (sy_rd h)).1 234 11 (((dc_R_here (sy_rd h)).1 234 11) + 1))).2)), (3, sy_i 0), (2, sy_i 1), (1, sy_i ((dc_R_here (sy_rd h)).2)), (0, .ref 234)], [.ref 234], h194)) mj_d_130_161 (fun _ _ => rfl) ?_
                      refine sy_bip mj_d_130_162 (by decide) ?_
                      refine sy_cv (M' := mj_m_136) (vs := [.ref 234, sy_i 59]) (rest := []) mj_d_130_164 rfl rfl rfl rfl th194 rfl rfl ⟨by decide, ⟨Nat.le_of_ble_eq_true rfl, Nat.le_of_ble_eq_true rfl, Nat.le_of_ble_eq_true rfl, Nat.le_of_ble_eq_true rfl, Nat.le_of_ble_eq_true rfl⟩⟩ (dt_R_takes (a1 := 59) th194 (by omega) (by omega)) ?_
                      rintro _ h197 ⟨th197, eh197, rfl, b198, b198t⟩
                      rw [eh194] at eh197 b198 b198t ⊢
                      show sy_wp (mj_m_130, 167, [(4, sy_i ((dc_R_takesHouse (sg_up (dc_R_here (sy_rd h)).1 234 11 (((dc_R_here (sy_rd h)).1 234 11) + 1))).2)), (3, sy_i 0), (2, sy_i 1), (1, sy_i ((dc_R_here (sy_rd h)).2)), (0, .ref 234)], [sy_i ((dc_R_takes (dc_R_takesHouse (sg_up (dc_R_here (sy_rd h)).1 234 11 (((dc_R_here (sy_rd h)).1 234 11) + 1))).1 59).2)], h197) _
                      refine sy_ifc mj_d_130_167 rfl ⟨by omega, by omega⟩ (fun (c199 : ((dc_R_takes (dc_R_takesHouse (sg_up (dc_R_here (sy_rd h)).1 234 11 (((dc_R_here (sy_rd h)).1 234 11) + 1))).1 59).2) = 0) => ?_) (fun (c199 : ¬ (((dc_R_takes (dc_R_takesHouse (sg_up (dc_R_here (sy_rd h)).1 234 11 (((dc_R_here (sy_rd h)).1 234 11) + 1))).1 59).2) = 0)) => ?_)
                      · skip
                        rw [if_pos c199]
                        refine sy_st (S' := (mj_m_130, 175, [(4, sy_i ((dc_R_takesHouse (sg_up (dc_R_here (sy_rd h)).1 234 11 (((dc_R_here (sy_rd h)).1 234 11) + 1))).2)), (3, sy_i 0), (2, sy_i 1), (1, sy_i ((dc_R_here (sy_rd h)).2)), (0, .ref 234)], [sy_i 0], h197)) mj_d_130_174 (fun _ _ => rfl) ?_
                        exact sy_retb mj_d_130_175 rfl ⟨by omega, by omega⟩ ⟨th197, eh197, rfl, by omega, by omega⟩
                      · skip
                        rw [if_neg c199]
                        refine sy_st (S' := (mj_m_130, 171, [(4, sy_i ((dc_R_takesHouse (sg_up (dc_R_here (sy_rd h)).1 234 11 (((dc_R_here (sy_rd h)).1 234 11) + 1))).2)), (3, sy_i 0), (2, sy_i 1), (1, sy_i ((dc_R_here (sy_rd h)).2)), (0, .ref 234)], [sy_i 1], h197)) mj_d_130_170 (fun _ _ => rfl) ?_
                        refine sy_st (S' := (mj_m_130, 175, [(4, sy_i ((dc_R_takesHouse (sg_up (dc_R_here (sy_rd h)).1 234 11 (((dc_R_here (sy_rd h)).1 234 11) + 1))).2)), (3, sy_i 0), (2, sy_i 1), (1, sy_i ((dc_R_here (sy_rd h)).2)), (0, .ref 234)], [sy_i 1], h197)) mj_d_130_171 (fun _ _ => rfl) ?_
                        exact sy_retb mj_d_130_175 rfl ⟨by omega, by omega⟩ ⟨th197, eh197, rfl, by omega, by omega⟩
                · skip
                  rw [if_pos (Decidable.not_not.mp c186)]
                  replace c186 := Decidable.not_not.mp c186
                  refine sy_st (S' := (mj_m_130, 131, [(3, sy_i 0), (2, sy_i 1), (1, sy_i ((dc_R_here (sy_rd h)).2)), (0, .ref 234)], [.ref 234], h185)) mj_d_130_130 (fun _ _ => rfl) ?_
                  refine sy_cv (M' := mj_m_132) (vs := [.ref 234]) (rest := []) mj_d_130_131 rfl rfl rfl rfl th185 rfl rfl ⟨by decide, ⟨Nat.le_of_ble_eq_true rfl, Nat.le_of_ble_eq_true rfl, Nat.le_of_ble_eq_true rfl, Nat.le_of_ble_eq_true rfl, Nat.le_of_ble_eq_true rfl⟩⟩ (dt_R_takesCity th185) ?_
                  rintro _ h200 ⟨th200, eh200, rfl, b201, b201t⟩
                  rw [eh185] at eh200 b201 b201t ⊢
                  show sy_wp (mj_m_130, 134, [(3, sy_i 0), (2, sy_i 1), (1, sy_i ((dc_R_here (sy_rd h)).2)), (0, .ref 234)], [sy_i ((dc_R_takesCity (sg_up (dc_R_here (sy_rd h)).1 234 11 (((dc_R_here (sy_rd h)).1 234 11) + 1))).2)], h200) _
                  refine sy_st (S' := (mj_m_130, 154, [(3, sy_i 0), (2, sy_i 1), (1, sy_i ((dc_R_here (sy_rd h)).2)), (0, .ref 234)], [sy_i ((dc_R_takesCity (sg_up (dc_R_here (sy_rd h)).1 234 11 (((dc_R_here (sy_rd h)).1 234 11) + 1))).2)], h200)) mj_d_130_134 (fun _ _ => rfl) ?_
                  refine sy_st (S' := (mj_m_130, 156, [(4, sy_i ((dc_R_takesCity (sg_up (dc_R_here (sy_rd h)).1 234 11 (((dc_R_here (sy_rd h)).1 234 11) + 1))).2)), (3, sy_i 0), (2, sy_i 1), (1, sy_i ((dc_R_here (sy_rd h)).2)), (0, .ref 234)], [], h200)) mj_d_130_154 (fun _ _ => rfl) ?_
                  refine sy_st (S' := (mj_m_130, 158, [(4, sy_i ((dc_R_takesCity (sg_up (dc_R_here (sy_rd h)).1 234 11 (((dc_R_here (sy_rd h)).1 234 11) + 1))).2)), (3, sy_i 0), (2, sy_i 1), (1, sy_i ((dc_R_here (sy_rd h)).2)), (0, .ref 234)], [sy_i ((dc_R_takesCity (sg_up (dc_R_here (sy_rd h)).1 234 11 (((dc_R_here (sy_rd h)).1 234 11) + 1))).2)], h200)) mj_d_130_156 (fun _ _ => rfl) ?_
                  refine sy_ifc mj_d_130_158 rfl ⟨by omega, by omega⟩ (fun (c202 : ((dc_R_takesCity (sg_up (dc_R_here (sy_rd h)).1 234 11 (((dc_R_here (sy_rd h)).1 234 11) + 1))).2) = 0) => ?_) (fun (c202 : ¬ (((dc_R_takesCity (sg_up (dc_R_here (sy_rd h)).1 234 11 (((dc_R_here (sy_rd h)).1 234 11) + 1))).2) = 0)) => ?_)
                  · skip
                    rw [if_pos c202]
                    refine sy_st (S' := (mj_m_130, 175, [(4, sy_i ((dc_R_takesCity (sg_up (dc_R_here (sy_rd h)).1 234 11 (((dc_R_here (sy_rd h)).1 234 11) + 1))).2)), (3, sy_i 0), (2, sy_i 1), (1, sy_i ((dc_R_here (sy_rd h)).2)), (0, .ref 234)], [sy_i 0], h200)) mj_d_130_174 (fun _ _ => rfl) ?_
                    exact sy_retb mj_d_130_175 rfl ⟨by omega, by omega⟩ ⟨th200, eh200, rfl, by omega, by omega⟩
                  · skip
                    rw [if_neg c202]
                    refine sy_st (S' := (mj_m_130, 162, [(4, sy_i ((dc_R_takesCity (sg_up (dc_R_here (sy_rd h)).1 234 11 (((dc_R_here (sy_rd h)).1 234 11) + 1))).2)), (3, sy_i 0), (2, sy_i 1), (1, sy_i ((dc_R_here (sy_rd h)).2)), (0, .ref 234)], [.ref 234], h200)) mj_d_130_161 (fun _ _ => rfl) ?_
                    refine sy_bip mj_d_130_162 (by decide) ?_
                    refine sy_cv (M' := mj_m_136) (vs := [.ref 234, sy_i 59]) (rest := []) mj_d_130_164 rfl rfl rfl rfl th200 rfl rfl ⟨by decide, ⟨Nat.le_of_ble_eq_true rfl, Nat.le_of_ble_eq_true rfl, Nat.le_of_ble_eq_true rfl, Nat.le_of_ble_eq_true rfl, Nat.le_of_ble_eq_true rfl⟩⟩ (dt_R_takes (a1 := 59) th200 (by omega) (by omega)) ?_
                    rintro _ h203 ⟨th203, eh203, rfl, b204, b204t⟩
                    rw [eh200] at eh203 b204 b204t ⊢
                    show sy_wp (mj_m_130, 167, [(4, sy_i ((dc_R_takesCity (sg_up (dc_R_here (sy_rd h)).1 234 11 (((dc_R_here (sy_rd h)).1 234 11) + 1))).2)), (3, sy_i 0), (2, sy_i 1), (1, sy_i ((dc_R_here (sy_rd h)).2)), (0, .ref 234)], [sy_i ((dc_R_takes (dc_R_takesCity (sg_up (dc_R_here (sy_rd h)).1 234 11 (((dc_R_here (sy_rd h)).1 234 11) + 1))).1 59).2)], h203) _
                    refine sy_ifc mj_d_130_167 rfl ⟨by omega, by omega⟩ (fun (c205 : ((dc_R_takes (dc_R_takesCity (sg_up (dc_R_here (sy_rd h)).1 234 11 (((dc_R_here (sy_rd h)).1 234 11) + 1))).1 59).2) = 0) => ?_) (fun (c205 : ¬ (((dc_R_takes (dc_R_takesCity (sg_up (dc_R_here (sy_rd h)).1 234 11 (((dc_R_here (sy_rd h)).1 234 11) + 1))).1 59).2) = 0)) => ?_)
                    · skip
                      rw [if_pos c205]
                      refine sy_st (S' := (mj_m_130, 175, [(4, sy_i ((dc_R_takesCity (sg_up (dc_R_here (sy_rd h)).1 234 11 (((dc_R_here (sy_rd h)).1 234 11) + 1))).2)), (3, sy_i 0), (2, sy_i 1), (1, sy_i ((dc_R_here (sy_rd h)).2)), (0, .ref 234)], [sy_i 0], h203)) mj_d_130_174 (fun _ _ => rfl) ?_
                      exact sy_retb mj_d_130_175 rfl ⟨by omega, by omega⟩ ⟨th203, eh203, rfl, by omega, by omega⟩
                    · skip
                      rw [if_neg c205]
                      refine sy_st (S' := (mj_m_130, 171, [(4, sy_i ((dc_R_takesCity (sg_up (dc_R_here (sy_rd h)).1 234 11 (((dc_R_here (sy_rd h)).1 234 11) + 1))).2)), (3, sy_i 0), (2, sy_i 1), (1, sy_i ((dc_R_here (sy_rd h)).2)), (0, .ref 234)], [sy_i 1], h203)) mj_d_130_170 (fun _ _ => rfl) ?_
                      refine sy_st (S' := (mj_m_130, 175, [(4, sy_i ((dc_R_takesCity (sg_up (dc_R_here (sy_rd h)).1 234 11 (((dc_R_here (sy_rd h)).1 234 11) + 1))).2)), (3, sy_i 0), (2, sy_i 1), (1, sy_i ((dc_R_here (sy_rd h)).2)), (0, .ref 234)], [sy_i 1], h203)) mj_d_130_171 (fun _ _ => rfl) ?_
                      exact sy_retb mj_d_130_175 rfl ⟨by omega, by omega⟩ ⟨th203, eh203, rfl, by omega, by omega⟩
              · skip
                rw [if_pos (Decidable.not_not.mp c183)]
                replace c183 := Decidable.not_not.mp c183
                refine sy_st (S' := (mj_m_130, 95, [(2, sy_i 1), (1, sy_i ((dc_R_here (sy_rd h)).2)), (0, .ref 234)], [sy_i 1], h1)) mj_d_130_94 (fun _ _ => rfl) ?_
                refine sy_st (S' := (mj_m_130, 99, [(2, sy_i 1), (1, sy_i ((dc_R_here (sy_rd h)).2)), (0, .ref 234)], [sy_i 1], h1)) mj_d_130_95 (fun _ _ => rfl) ?_
                refine sy_st (S' := (mj_m_130, 100, [(3, sy_i 1), (2, sy_i 1), (1, sy_i ((dc_R_here (sy_rd h)).2)), (0, .ref 234)], [], h1)) mj_d_130_99 (fun _ _ => rfl) ?_
                refine sy_st (S' := (mj_m_130, 101, [(3, sy_i 1), (2, sy_i 1), (1, sy_i ((dc_R_here (sy_rd h)).2)), (0, .ref 234)], [sy_i 1], h1)) mj_d_130_100 (fun _ _ => rfl) ?_
                refine sy_ifc mj_d_130_101 rfl ⟨by omega, by omega⟩ (fun (q : (1 : Int) = 0) => absurd q (by decide)) (fun _ => ?_)
                refine sy_st (S' := (mj_m_130, 105, [(3, sy_i 1), (2, sy_i 1), (1, sy_i ((dc_R_here (sy_rd h)).2)), (0, .ref 234)], [.ref 234], h1)) mj_d_130_104 (fun _ _ => rfl) ?_
                refine sy_st (S' := (mj_m_130, 106, [(3, sy_i 1), (2, sy_i 1), (1, sy_i ((dc_R_here (sy_rd h)).2)), (0, .ref 234)], [sy_i 3, .ref 234], h1)) mj_d_130_105 (fun _ _ => rfl) ?_
                refine sy_st (S' := (mj_m_130, 107, [(3, sy_i 1), (2, sy_i 1), (1, sy_i ((dc_R_here (sy_rd h)).2)), (0, .ref 234)], [.ref 234, sy_i 3, .ref 234], h1)) mj_d_130_106 (fun _ _ => rfl) ?_
                refine sy_gf mj_d_130_107 rfl rfl (by decide) rfl th1 ?_
                intro x206 ex206 bx206 tx206
                replace ex206 : x206 = sy_rd h1 234 12 := ex206
                rw [eh1] at ex206
                subst ex206
                refine sy_cv (M' := mj_m_131) (vs := [.ref 234, sy_i 3, sy_i ((dc_R_here (sy_rd h)).1 234 12)]) (rest := []) mj_d_130_110 rfl rfl rfl rfl th1 rfl rfl ⟨by decide, ⟨Nat.le_of_ble_eq_true rfl, Nat.le_of_ble_eq_true rfl, Nat.le_of_ble_eq_true rfl, Nat.le_of_ble_eq_true rfl, Nat.le_of_ble_eq_true rfl⟩⟩ (dt_R_fails (a1 := 3) (a2 := ((dc_R_here (sy_rd h)).1 234 12)) th1 (by omega) (by omega) (by omega) (by omega)) ?_
                rintro _ h207 ⟨th207, eh207, rfl, b208, b208t⟩
                rw [eh1] at eh207 b208 b208t ⊢
                show sy_wp (mj_m_130, 113, [(3, sy_i 1), (2, sy_i 1), (1, sy_i ((dc_R_here (sy_rd h)).2)), (0, .ref 234)], [sy_i ((dc_R_fails (dc_R_here (sy_rd h)).1 3 ((dc_R_here (sy_rd h)).1 234 12)).2)], h207) _
                exact sy_retb mj_d_130_113 rfl ⟨by omega, by omega⟩ ⟨th207, eh207, rfl, by omega, by omega⟩
            · skip
              rw [if_pos (Decidable.not_not.mp c181)]
              replace c181 := Decidable.not_not.mp c181
              refine sy_st (S' := (mj_m_130, 70, [(2, sy_i 1), (1, sy_i ((dc_R_here (sy_rd h)).2)), (0, .ref 234)], [.ref 234], h1)) mj_d_130_69 (fun _ _ => rfl) ?_
              refine sy_gf mj_d_130_70 rfl rfl (by decide) rfl th1 ?_
              intro x209 ex209 bx209 tx209
              replace ex209 : x209 = sy_rd h1 234 19 := ex209
              rw [eh1, dr_R_here _ 234 19 rfl] at ex209
              subst ex209
              refine sy_bip mj_d_130_73 (by decide) ?_
              refine sy_icm mj_d_130_75 rfl ⟨by omega, by omega⟩ ⟨by omega, by omega⟩ (fun (c210 : ¬ ((sy_rd h 234 19) = 9)) => ?_) (fun (c210 : ¬ ¬ ((sy_rd h 234 19) = 9)) => ?_)
              · skip
                rw [if_neg c210]
                refine sy_st (S' := (mj_m_130, 83, [(2, sy_i 1), (1, sy_i ((dc_R_here (sy_rd h)).2)), (0, .ref 234)], [sy_i 0], h1)) mj_d_130_82 (fun _ _ => rfl) ?_
                refine sy_st (S' := (mj_m_130, 99, [(2, sy_i 1), (1, sy_i ((dc_R_here (sy_rd h)).2)), (0, .ref 234)], [sy_i 0], h1)) mj_d_130_83 (fun _ _ => rfl) ?_
                refine sy_st (S' := (mj_m_130, 100, [(3, sy_i 0), (2, sy_i 1), (1, sy_i ((dc_R_here (sy_rd h)).2)), (0, .ref 234)], [], h1)) mj_d_130_99 (fun _ _ => rfl) ?_
                refine sy_st (S' := (mj_m_130, 101, [(3, sy_i 0), (2, sy_i 1), (1, sy_i ((dc_R_here (sy_rd h)).2)), (0, .ref 234)], [sy_i 0], h1)) mj_d_130_100 (fun _ _ => rfl) ?_
                refine sy_ifc mj_d_130_101 rfl ⟨by omega, by omega⟩ (fun _ => ?_) (fun (q : ¬ ((0 : Int) = 0)) => absurd (by decide) q)
                refine sy_st (S' := (mj_m_130, 115, [(3, sy_i 0), (2, sy_i 1), (1, sy_i ((dc_R_here (sy_rd h)).2)), (0, .ref 234)], [.ref 234], h1)) mj_d_130_114 (fun _ _ => rfl) ?_
                refine sy_st (S' := (mj_m_130, 116, [(3, sy_i 0), (2, sy_i 1), (1, sy_i ((dc_R_here (sy_rd h)).2)), (0, .ref 234)], [.ref 234, .ref 234], h1)) mj_d_130_115 (fun _ _ => rfl) ?_
                refine sy_gf mj_d_130_116 rfl rfl (by decide) rfl th1 ?_
                intro x211 ex211 bx211 tx211
                replace ex211 : x211 = sy_rd h1 234 11 := ex211
                rw [eh1] at ex211
                subst ex211
                refine sy_st (S' := (mj_m_130, 120, [(3, sy_i 0), (2, sy_i 1), (1, sy_i ((dc_R_here (sy_rd h)).2)), (0, .ref 234)], [sy_i 1, sy_i ((dc_R_here (sy_rd h)).1 234 11), .ref 234], h1)) mj_d_130_119 (fun _ _ => rfl) ?_
                refine sy_add mj_d_130_120 ?_
                refine sg_pf (z := (((dc_R_here (sy_rd h)).1 234 11) + 1)) mj_d_130_121 rfl rfl (by decide) (Or.inl rfl) rfl th1 (by omega) (by omega) ⟨by omega, by omega⟩ ?_
                intro h212 th212 eh212
                rw [eh1] at eh212
                refine sy_st (S' := (mj_m_130, 125, [(3, sy_i 0), (2, sy_i 1), (1, sy_i ((dc_R_here (sy_rd h)).2)), (0, .ref 234)], [sy_i ((dc_R_here (sy_rd h)).2)], h212)) mj_d_130_124 (fun _ _ => rfl) ?_
                refine sy_bip mj_d_130_125 (by decide) ?_
                refine sy_icm mj_d_130_127 rfl ⟨by omega, by omega⟩ ⟨by omega, by omega⟩ (fun (c213 : ¬ (((dc_R_here (sy_rd h)).2) = 99)) => ?_) (fun (c213 : ¬ ¬ (((dc_R_here (sy_rd h)).2) = 99)) => ?_)
                · skip
                  rw [if_neg c213]
                  refine sy_st (S' := (mj_m_130, 138, [(3, sy_i 0), (2, sy_i 1), (1, sy_i ((dc_R_here (sy_rd h)).2)), (0, .ref 234)], [sy_i ((dc_R_here (sy_rd h)).2)], h212)) mj_d_130_137 (fun _ _ => rfl) ?_
                  refine sy_bip mj_d_130_138 (by decide) ?_
                  refine sy_icm mj_d_130_140 rfl ⟨by omega, by omega⟩ ⟨by omega, by omega⟩ (fun (c214 : ¬ (((dc_R_here (sy_rd h)).2) = 104)) => ?_) (fun (c214 : ¬ ¬ (((dc_R_here (sy_rd h)).2) = 104)) => ?_)
                  · skip
                    rw [if_neg c214]
                    refine sy_st (S' := (mj_m_130, 151, [(3, sy_i 0), (2, sy_i 1), (1, sy_i ((dc_R_here (sy_rd h)).2)), (0, .ref 234)], [.ref 234], h212)) mj_d_130_150 (fun _ _ => rfl) ?_
                    refine sy_cv (M' := mj_m_135) (vs := [.ref 234]) (rest := []) mj_d_130_151 rfl rfl rfl rfl th212 rfl rfl ⟨by decide, ⟨Nat.le_of_ble_eq_true rfl, Nat.le_of_ble_eq_true rfl, Nat.le_of_ble_eq_true rfl, Nat.le_of_ble_eq_true rfl, Nat.le_of_ble_eq_true rfl⟩⟩ (dt_R_takesSweep th212 (by rw [eh212, sg_nk (by decide), dr_R_here _ 234 22 rfl]; omega)) ?_
                    rintro _ h215 ⟨th215, eh215, rfl, b216, b216t⟩
                    rw [eh212] at eh215 b216 b216t ⊢
                    show sy_wp (mj_m_130, 154, [(3, sy_i 0), (2, sy_i 1), (1, sy_i ((dc_R_here (sy_rd h)).2)), (0, .ref 234)], [sy_i ((dc_R_takesSweep (sg_up (dc_R_here (sy_rd h)).1 234 11 (((dc_R_here (sy_rd h)).1 234 11) + 1))).2)], h215) _
                    refine sy_st (S' := (mj_m_130, 156, [(4, sy_i ((dc_R_takesSweep (sg_up (dc_R_here (sy_rd h)).1 234 11 (((dc_R_here (sy_rd h)).1 234 11) + 1))).2)), (3, sy_i 0), (2, sy_i 1), (1, sy_i ((dc_R_here (sy_rd h)).2)), (0, .ref 234)], [], h215)) mj_d_130_154 (fun _ _ => rfl) ?_
                    refine sy_st (S' := (mj_m_130, 158, [(4, sy_i ((dc_R_takesSweep (sg_up (dc_R_here (sy_rd h)).1 234 11 (((dc_R_here (sy_rd h)).1 234 11) + 1))).2)), (3, sy_i 0), (2, sy_i 1), (1, sy_i ((dc_R_here (sy_rd h)).2)), (0, .ref 234)], [sy_i ((dc_R_takesSweep (sg_up (dc_R_here (sy_rd h)).1 234 11 (((dc_R_here (sy_rd h)).1 234 11) + 1))).2)], h215)) mj_d_130_156 (fun _ _ => rfl) ?_
                    refine sy_ifc mj_d_130_158 rfl ⟨by omega, by omega⟩ (fun (c217 : ((dc_R_takesSweep (sg_up (dc_R_here (sy_rd h)).1 234 11 (((dc_R_here (sy_rd h)).1 234 11) + 1))).2) = 0) => ?_) (fun (c217 : ¬ (((dc_R_takesSweep (sg_up (dc_R_here (sy_rd h)).1 234 11 (((dc_R_here (sy_rd h)).1 234 11) + 1))).2) = 0)) => ?_)
                    · skip
                      rw [if_pos c217]
                      refine sy_st (S' := (mj_m_130, 175, [(4, sy_i ((dc_R_takesSweep (sg_up (dc_R_here (sy_rd h)).1 234 11 (((dc_R_here (sy_rd h)).1 234 11) + 1))).2)), (3, sy_i 0), (2, sy_i 1), (1, sy_i ((dc_R_here (sy_rd h)).2)), (0, .ref 234)], [sy_i 0], h215)) mj_d_130_174 (fun _ _ => rfl) ?_
                      exact sy_retb mj_d_130_175 rfl ⟨by omega, by omega⟩ ⟨th215, eh215, rfl, by omega, by omega⟩
                    · skip
                      rw [if_neg c217]
                      refine sy_st (S' := (mj_m_130, 162, [(4, sy_i ((dc_R_takesSweep (sg_up (dc_R_here (sy_rd h)).1 234 11 (((dc_R_here (sy_rd h)).1 234 11) + 1))).2)), (3, sy_i 0), (2, sy_i 1), (1, sy_i ((dc_R_here (sy_rd h)).2)), (0, .ref 234)], [.ref 234], h215)) mj_d_130_161 (fun _ _ => rfl) ?_
                      refine sy_bip mj_d_130_162 (by decide) ?_
                      refine sy_cv (M' := mj_m_136) (vs := [.ref 234, sy_i 59]) (rest := []) mj_d_130_164 rfl rfl rfl rfl th215 rfl rfl ⟨by decide, ⟨Nat.le_of_ble_eq_true rfl, Nat.le_of_ble_eq_true rfl, Nat.le_of_ble_eq_true rfl, Nat.le_of_ble_eq_true rfl, Nat.le_of_ble_eq_true rfl⟩⟩ (dt_R_takes (a1 := 59) th215 (by omega) (by omega)) ?_
                      rintro _ h218 ⟨th218, eh218, rfl, b219, b219t⟩
                      rw [eh215] at eh218 b219 b219t ⊢
                      show sy_wp (mj_m_130, 167, [(4, sy_i ((dc_R_takesSweep (sg_up (dc_R_here (sy_rd h)).1 234 11 (((dc_R_here (sy_rd h)).1 234 11) + 1))).2)), (3, sy_i 0), (2, sy_i 1), (1, sy_i ((dc_R_here (sy_rd h)).2)), (0, .ref 234)], [sy_i ((dc_R_takes (dc_R_takesSweep (sg_up (dc_R_here (sy_rd h)).1 234 11 (((dc_R_here (sy_rd h)).1 234 11) + 1))).1 59).2)], h218) _
                      refine sy_ifc mj_d_130_167 rfl ⟨by omega, by omega⟩ (fun (c220 : ((dc_R_takes (dc_R_takesSweep (sg_up (dc_R_here (sy_rd h)).1 234 11 (((dc_R_here (sy_rd h)).1 234 11) + 1))).1 59).2) = 0) => ?_) (fun (c220 : ¬ (((dc_R_takes (dc_R_takesSweep (sg_up (dc_R_here (sy_rd h)).1 234 11 (((dc_R_here (sy_rd h)).1 234 11) + 1))).1 59).2) = 0)) => ?_)
                      · skip
                        rw [if_pos c220]
                        refine sy_st (S' := (mj_m_130, 175, [(4, sy_i ((dc_R_takesSweep (sg_up (dc_R_here (sy_rd h)).1 234 11 (((dc_R_here (sy_rd h)).1 234 11) + 1))).2)), (3, sy_i 0), (2, sy_i 1), (1, sy_i ((dc_R_here (sy_rd h)).2)), (0, .ref 234)], [sy_i 0], h218)) mj_d_130_174 (fun _ _ => rfl) ?_
                        exact sy_retb mj_d_130_175 rfl ⟨by omega, by omega⟩ ⟨th218, eh218, rfl, by omega, by omega⟩
                      · skip
                        rw [if_neg c220]
                        refine sy_st (S' := (mj_m_130, 171, [(4, sy_i ((dc_R_takesSweep (sg_up (dc_R_here (sy_rd h)).1 234 11 (((dc_R_here (sy_rd h)).1 234 11) + 1))).2)), (3, sy_i 0), (2, sy_i 1), (1, sy_i ((dc_R_here (sy_rd h)).2)), (0, .ref 234)], [sy_i 1], h218)) mj_d_130_170 (fun _ _ => rfl) ?_
                        refine sy_st (S' := (mj_m_130, 175, [(4, sy_i ((dc_R_takesSweep (sg_up (dc_R_here (sy_rd h)).1 234 11 (((dc_R_here (sy_rd h)).1 234 11) + 1))).2)), (3, sy_i 0), (2, sy_i 1), (1, sy_i ((dc_R_here (sy_rd h)).2)), (0, .ref 234)], [sy_i 1], h218)) mj_d_130_171 (fun _ _ => rfl) ?_
                        exact sy_retb mj_d_130_175 rfl ⟨by omega, by omega⟩ ⟨th218, eh218, rfl, by omega, by omega⟩
                  · skip
                    rw [if_pos (Decidable.not_not.mp c214)]
                    replace c214 := Decidable.not_not.mp c214
                    refine sy_st (S' := (mj_m_130, 144, [(3, sy_i 0), (2, sy_i 1), (1, sy_i ((dc_R_here (sy_rd h)).2)), (0, .ref 234)], [.ref 234], h212)) mj_d_130_143 (fun _ _ => rfl) ?_
                    refine sy_cv (M' := mj_m_134) (vs := [.ref 234]) (rest := []) mj_d_130_144 rfl rfl rfl rfl th212 rfl rfl ⟨by decide, ⟨Nat.le_of_ble_eq_true rfl, Nat.le_of_ble_eq_true rfl, Nat.le_of_ble_eq_true rfl, Nat.le_of_ble_eq_true rfl, Nat.le_of_ble_eq_true rfl⟩⟩ (dt_R_takesHouse th212 (by rw [eh212, sg_nk (by decide), dr_R_here _ 234 19 rfl]; omega)) ?_
                    rintro _ h221 ⟨th221, eh221, rfl, b222, b222t⟩
                    rw [eh212] at eh221 b222 b222t ⊢
                    show sy_wp (mj_m_130, 147, [(3, sy_i 0), (2, sy_i 1), (1, sy_i ((dc_R_here (sy_rd h)).2)), (0, .ref 234)], [sy_i ((dc_R_takesHouse (sg_up (dc_R_here (sy_rd h)).1 234 11 (((dc_R_here (sy_rd h)).1 234 11) + 1))).2)], h221) _
                    refine sy_st (S' := (mj_m_130, 154, [(3, sy_i 0), (2, sy_i 1), (1, sy_i ((dc_R_here (sy_rd h)).2)), (0, .ref 234)], [sy_i ((dc_R_takesHouse (sg_up (dc_R_here (sy_rd h)).1 234 11 (((dc_R_here (sy_rd h)).1 234 11) + 1))).2)], h221)) mj_d_130_147 (fun _ _ => rfl) ?_
                    refine sy_st (S' := (mj_m_130, 156, [(4, sy_i ((dc_R_takesHouse (sg_up (dc_R_here (sy_rd h)).1 234 11 (((dc_R_here (sy_rd h)).1 234 11) + 1))).2)), (3, sy_i 0), (2, sy_i 1), (1, sy_i ((dc_R_here (sy_rd h)).2)), (0, .ref 234)], [], h221)) mj_d_130_154 (fun _ _ => rfl) ?_
                    refine sy_st (S' := (mj_m_130, 158, [(4, sy_i ((dc_R_takesHouse (sg_up (dc_R_here (sy_rd h)).1 234 11 (((dc_R_here (sy_rd h)).1 234 11) + 1))).2)), (3, sy_i 0), (2, sy_i 1), (1, sy_i ((dc_R_here (sy_rd h)).2)), (0, .ref 234)], [sy_i ((dc_R_takesHouse (sg_up (dc_R_here (sy_rd h)).1 234 11 (((dc_R_here (sy_rd h)).1 234 11) + 1))).2)], h221)) mj_d_130_156 (fun _ _ => rfl) ?_
                    refine sy_ifc mj_d_130_158 rfl ⟨by omega, by omega⟩ (fun (c223 : ((dc_R_takesHouse (sg_up (dc_R_here (sy_rd h)).1 234 11 (((dc_R_here (sy_rd h)).1 234 11) + 1))).2) = 0) => ?_) (fun (c223 : ¬ (((dc_R_takesHouse (sg_up (dc_R_here (sy_rd h)).1 234 11 (((dc_R_here (sy_rd h)).1 234 11) + 1))).2) = 0)) => ?_)
                    · skip
                      rw [if_pos c223]
                      refine sy_st (S' := (mj_m_130, 175, [(4, sy_i ((dc_R_takesHouse (sg_up (dc_R_here (sy_rd h)).1 234 11 (((dc_R_here (sy_rd h)).1 234 11) + 1))).2)), (3, sy_i 0), (2, sy_i 1), (1, sy_i ((dc_R_here (sy_rd h)).2)), (0, .ref 234)], [sy_i 0], h221)) mj_d_130_174 (fun _ _ => rfl) ?_
                      exact sy_retb mj_d_130_175 rfl ⟨by omega, by omega⟩ ⟨th221, eh221, rfl, by omega, by omega⟩
                    · skip
                      rw [if_neg c223]
                      refine sy_st (S' := (mj_m_130, 162, [(4, sy_i ((dc_R_takesHouse (sg_up (dc_R_here (sy_rd h)).1 234 11 (((dc_R_here (sy_rd h)).1 234 11) + 1))).2)), (3, sy_i 0), (2, sy_i 1), (1, sy_i ((dc_R_here (sy_rd h)).2)), (0, .ref 234)], [.ref 234], h221)) mj_d_130_161 (fun _ _ => rfl) ?_
                      refine sy_bip mj_d_130_162 (by decide) ?_
                      refine sy_cv (M' := mj_m_136) (vs := [.ref 234, sy_i 59]) (rest := []) mj_d_130_164 rfl rfl rfl rfl th221 rfl rfl ⟨by decide, ⟨Nat.le_of_ble_eq_true rfl, Nat.le_of_ble_eq_true rfl, Nat.le_of_ble_eq_true rfl, Nat.le_of_ble_eq_true rfl, Nat.le_of_ble_eq_true rfl⟩⟩ (dt_R_takes (a1 := 59) th221 (by omega) (by omega)) ?_
                      rintro _ h224 ⟨th224, eh224, rfl, b225, b225t⟩
                      rw [eh221] at eh224 b225 b225t ⊢
                      show sy_wp (mj_m_130, 167, [(4, sy_i ((dc_R_takesHouse (sg_up (dc_R_here (sy_rd h)).1 234 11 (((dc_R_here (sy_rd h)).1 234 11) + 1))).2)), (3, sy_i 0), (2, sy_i 1), (1, sy_i ((dc_R_here (sy_rd h)).2)), (0, .ref 234)], [sy_i ((dc_R_takes (dc_R_takesHouse (sg_up (dc_R_here (sy_rd h)).1 234 11 (((dc_R_here (sy_rd h)).1 234 11) + 1))).1 59).2)], h224) _
                      refine sy_ifc mj_d_130_167 rfl ⟨by omega, by omega⟩ (fun (c226 : ((dc_R_takes (dc_R_takesHouse (sg_up (dc_R_here (sy_rd h)).1 234 11 (((dc_R_here (sy_rd h)).1 234 11) + 1))).1 59).2) = 0) => ?_) (fun (c226 : ¬ (((dc_R_takes (dc_R_takesHouse (sg_up (dc_R_here (sy_rd h)).1 234 11 (((dc_R_here (sy_rd h)).1 234 11) + 1))).1 59).2) = 0)) => ?_)
                      · skip
                        rw [if_pos c226]
                        refine sy_st (S' := (mj_m_130, 175, [(4, sy_i ((dc_R_takesHouse (sg_up (dc_R_here (sy_rd h)).1 234 11 (((dc_R_here (sy_rd h)).1 234 11) + 1))).2)), (3, sy_i 0), (2, sy_i 1), (1, sy_i ((dc_R_here (sy_rd h)).2)), (0, .ref 234)], [sy_i 0], h224)) mj_d_130_174 (fun _ _ => rfl) ?_
                        exact sy_retb mj_d_130_175 rfl ⟨by omega, by omega⟩ ⟨th224, eh224, rfl, by omega, by omega⟩
                      · skip
                        rw [if_neg c226]
                        refine sy_st (S' := (mj_m_130, 171, [(4, sy_i ((dc_R_takesHouse (sg_up (dc_R_here (sy_rd h)).1 234 11 (((dc_R_here (sy_rd h)).1 234 11) + 1))).2)), (3, sy_i 0), (2, sy_i 1), (1, sy_i ((dc_R_here (sy_rd h)).2)), (0, .ref 234)], [sy_i 1], h224)) mj_d_130_170 (fun _ _ => rfl) ?_
                        refine sy_st (S' := (mj_m_130, 175, [(4, sy_i ((dc_R_takesHouse (sg_up (dc_R_here (sy_rd h)).1 234 11 (((dc_R_here (sy_rd h)).1 234 11) + 1))).2)), (3, sy_i 0), (2, sy_i 1), (1, sy_i ((dc_R_here (sy_rd h)).2)), (0, .ref 234)], [sy_i 1], h224)) mj_d_130_171 (fun _ _ => rfl) ?_
                        exact sy_retb mj_d_130_175 rfl ⟨by omega, by omega⟩ ⟨th224, eh224, rfl, by omega, by omega⟩
                · skip
                  rw [if_pos (Decidable.not_not.mp c213)]
                  replace c213 := Decidable.not_not.mp c213
                  refine sy_st (S' := (mj_m_130, 131, [(3, sy_i 0), (2, sy_i 1), (1, sy_i ((dc_R_here (sy_rd h)).2)), (0, .ref 234)], [.ref 234], h212)) mj_d_130_130 (fun _ _ => rfl) ?_
                  refine sy_cv (M' := mj_m_132) (vs := [.ref 234]) (rest := []) mj_d_130_131 rfl rfl rfl rfl th212 rfl rfl ⟨by decide, ⟨Nat.le_of_ble_eq_true rfl, Nat.le_of_ble_eq_true rfl, Nat.le_of_ble_eq_true rfl, Nat.le_of_ble_eq_true rfl, Nat.le_of_ble_eq_true rfl⟩⟩ (dt_R_takesCity th212) ?_
                  rintro _ h227 ⟨th227, eh227, rfl, b228, b228t⟩
                  rw [eh212] at eh227 b228 b228t ⊢
                  show sy_wp (mj_m_130, 134, [(3, sy_i 0), (2, sy_i 1), (1, sy_i ((dc_R_here (sy_rd h)).2)), (0, .ref 234)], [sy_i ((dc_R_takesCity (sg_up (dc_R_here (sy_rd h)).1 234 11 (((dc_R_here (sy_rd h)).1 234 11) + 1))).2)], h227) _
                  refine sy_st (S' := (mj_m_130, 154, [(3, sy_i 0), (2, sy_i 1), (1, sy_i ((dc_R_here (sy_rd h)).2)), (0, .ref 234)], [sy_i ((dc_R_takesCity (sg_up (dc_R_here (sy_rd h)).1 234 11 (((dc_R_here (sy_rd h)).1 234 11) + 1))).2)], h227)) mj_d_130_134 (fun _ _ => rfl) ?_
                  refine sy_st (S' := (mj_m_130, 156, [(4, sy_i ((dc_R_takesCity (sg_up (dc_R_here (sy_rd h)).1 234 11 (((dc_R_here (sy_rd h)).1 234 11) + 1))).2)), (3, sy_i 0), (2, sy_i 1), (1, sy_i ((dc_R_here (sy_rd h)).2)), (0, .ref 234)], [], h227)) mj_d_130_154 (fun _ _ => rfl) ?_
                  refine sy_st (S' := (mj_m_130, 158, [(4, sy_i ((dc_R_takesCity (sg_up (dc_R_here (sy_rd h)).1 234 11 (((dc_R_here (sy_rd h)).1 234 11) + 1))).2)), (3, sy_i 0), (2, sy_i 1), (1, sy_i ((dc_R_here (sy_rd h)).2)), (0, .ref 234)], [sy_i ((dc_R_takesCity (sg_up (dc_R_here (sy_rd h)).1 234 11 (((dc_R_here (sy_rd h)).1 234 11) + 1))).2)], h227)) mj_d_130_156 (fun _ _ => rfl) ?_
                  refine sy_ifc mj_d_130_158 rfl ⟨by omega, by omega⟩ (fun (c229 : ((dc_R_takesCity (sg_up (dc_R_here (sy_rd h)).1 234 11 (((dc_R_here (sy_rd h)).1 234 11) + 1))).2) = 0) => ?_) (fun (c229 : ¬ (((dc_R_takesCity (sg_up (dc_R_here (sy_rd h)).1 234 11 (((dc_R_here (sy_rd h)).1 234 11) + 1))).2) = 0)) => ?_)
                  · skip
                    rw [if_pos c229]
                    refine sy_st (S' := (mj_m_130, 175, [(4, sy_i ((dc_R_takesCity (sg_up (dc_R_here (sy_rd h)).1 234 11 (((dc_R_here (sy_rd h)).1 234 11) + 1))).2)), (3, sy_i 0), (2, sy_i 1), (1, sy_i ((dc_R_here (sy_rd h)).2)), (0, .ref 234)], [sy_i 0], h227)) mj_d_130_174 (fun _ _ => rfl) ?_
                    exact sy_retb mj_d_130_175 rfl ⟨by omega, by omega⟩ ⟨th227, eh227, rfl, by omega, by omega⟩
                  · skip
                    rw [if_neg c229]
                    refine sy_st (S' := (mj_m_130, 162, [(4, sy_i ((dc_R_takesCity (sg_up (dc_R_here (sy_rd h)).1 234 11 (((dc_R_here (sy_rd h)).1 234 11) + 1))).2)), (3, sy_i 0), (2, sy_i 1), (1, sy_i ((dc_R_here (sy_rd h)).2)), (0, .ref 234)], [.ref 234], h227)) mj_d_130_161 (fun _ _ => rfl) ?_
                    refine sy_bip mj_d_130_162 (by decide) ?_
                    refine sy_cv (M' := mj_m_136) (vs := [.ref 234, sy_i 59]) (rest := []) mj_d_130_164 rfl rfl rfl rfl th227 rfl rfl ⟨by decide, ⟨Nat.le_of_ble_eq_true rfl, Nat.le_of_ble_eq_true rfl, Nat.le_of_ble_eq_true rfl, Nat.le_of_ble_eq_true rfl, Nat.le_of_ble_eq_true rfl⟩⟩ (dt_R_takes (a1 := 59) th227 (by omega) (by omega)) ?_
                    rintro _ h230 ⟨th230, eh230, rfl, b231, b231t⟩
                    rw [eh227] at eh230 b231 b231t ⊢
                    show sy_wp (mj_m_130, 167, [(4, sy_i ((dc_R_takesCity (sg_up (dc_R_here (sy_rd h)).1 234 11 (((dc_R_here (sy_rd h)).1 234 11) + 1))).2)), (3, sy_i 0), (2, sy_i 1), (1, sy_i ((dc_R_here (sy_rd h)).2)), (0, .ref 234)], [sy_i ((dc_R_takes (dc_R_takesCity (sg_up (dc_R_here (sy_rd h)).1 234 11 (((dc_R_here (sy_rd h)).1 234 11) + 1))).1 59).2)], h230) _
                    refine sy_ifc mj_d_130_167 rfl ⟨by omega, by omega⟩ (fun (c232 : ((dc_R_takes (dc_R_takesCity (sg_up (dc_R_here (sy_rd h)).1 234 11 (((dc_R_here (sy_rd h)).1 234 11) + 1))).1 59).2) = 0) => ?_) (fun (c232 : ¬ (((dc_R_takes (dc_R_takesCity (sg_up (dc_R_here (sy_rd h)).1 234 11 (((dc_R_here (sy_rd h)).1 234 11) + 1))).1 59).2) = 0)) => ?_)
                    · skip
                      rw [if_pos c232]
                      refine sy_st (S' := (mj_m_130, 175, [(4, sy_i ((dc_R_takesCity (sg_up (dc_R_here (sy_rd h)).1 234 11 (((dc_R_here (sy_rd h)).1 234 11) + 1))).2)), (3, sy_i 0), (2, sy_i 1), (1, sy_i ((dc_R_here (sy_rd h)).2)), (0, .ref 234)], [sy_i 0], h230)) mj_d_130_174 (fun _ _ => rfl) ?_
                      exact sy_retb mj_d_130_175 rfl ⟨by omega, by omega⟩ ⟨th230, eh230, rfl, by omega, by omega⟩
                    · skip
                      rw [if_neg c232]
                      refine sy_st (S' := (mj_m_130, 171, [(4, sy_i ((dc_R_takesCity (sg_up (dc_R_here (sy_rd h)).1 234 11 (((dc_R_here (sy_rd h)).1 234 11) + 1))).2)), (3, sy_i 0), (2, sy_i 1), (1, sy_i ((dc_R_here (sy_rd h)).2)), (0, .ref 234)], [sy_i 1], h230)) mj_d_130_170 (fun _ _ => rfl) ?_
                      refine sy_st (S' := (mj_m_130, 175, [(4, sy_i ((dc_R_takesCity (sg_up (dc_R_here (sy_rd h)).1 234 11 (((dc_R_here (sy_rd h)).1 234 11) + 1))).2)), (3, sy_i 0), (2, sy_i 1), (1, sy_i ((dc_R_here (sy_rd h)).2)), (0, .ref 234)], [sy_i 1], h230)) mj_d_130_171 (fun _ _ => rfl) ?_
                      exact sy_retb mj_d_130_175 rfl ⟨by omega, by omega⟩ ⟨th230, eh230, rfl, by omega, by omega⟩
              · skip
                rw [if_pos (Decidable.not_not.mp c210)]
                replace c210 := Decidable.not_not.mp c210
                refine sy_st (S' := (mj_m_130, 79, [(2, sy_i 1), (1, sy_i ((dc_R_here (sy_rd h)).2)), (0, .ref 234)], [sy_i 1], h1)) mj_d_130_78 (fun _ _ => rfl) ?_
                refine sy_st (S' := (mj_m_130, 99, [(2, sy_i 1), (1, sy_i ((dc_R_here (sy_rd h)).2)), (0, .ref 234)], [sy_i 1], h1)) mj_d_130_79 (fun _ _ => rfl) ?_
                refine sy_st (S' := (mj_m_130, 100, [(3, sy_i 1), (2, sy_i 1), (1, sy_i ((dc_R_here (sy_rd h)).2)), (0, .ref 234)], [], h1)) mj_d_130_99 (fun _ _ => rfl) ?_
                refine sy_st (S' := (mj_m_130, 101, [(3, sy_i 1), (2, sy_i 1), (1, sy_i ((dc_R_here (sy_rd h)).2)), (0, .ref 234)], [sy_i 1], h1)) mj_d_130_100 (fun _ _ => rfl) ?_
                refine sy_ifc mj_d_130_101 rfl ⟨by omega, by omega⟩ (fun (q : (1 : Int) = 0) => absurd q (by decide)) (fun _ => ?_)
                refine sy_st (S' := (mj_m_130, 105, [(3, sy_i 1), (2, sy_i 1), (1, sy_i ((dc_R_here (sy_rd h)).2)), (0, .ref 234)], [.ref 234], h1)) mj_d_130_104 (fun _ _ => rfl) ?_
                refine sy_st (S' := (mj_m_130, 106, [(3, sy_i 1), (2, sy_i 1), (1, sy_i ((dc_R_here (sy_rd h)).2)), (0, .ref 234)], [sy_i 3, .ref 234], h1)) mj_d_130_105 (fun _ _ => rfl) ?_
                refine sy_st (S' := (mj_m_130, 107, [(3, sy_i 1), (2, sy_i 1), (1, sy_i ((dc_R_here (sy_rd h)).2)), (0, .ref 234)], [.ref 234, sy_i 3, .ref 234], h1)) mj_d_130_106 (fun _ _ => rfl) ?_
                refine sy_gf mj_d_130_107 rfl rfl (by decide) rfl th1 ?_
                intro x233 ex233 bx233 tx233
                replace ex233 : x233 = sy_rd h1 234 12 := ex233
                rw [eh1] at ex233
                subst ex233
                refine sy_cv (M' := mj_m_131) (vs := [.ref 234, sy_i 3, sy_i ((dc_R_here (sy_rd h)).1 234 12)]) (rest := []) mj_d_130_110 rfl rfl rfl rfl th1 rfl rfl ⟨by decide, ⟨Nat.le_of_ble_eq_true rfl, Nat.le_of_ble_eq_true rfl, Nat.le_of_ble_eq_true rfl, Nat.le_of_ble_eq_true rfl, Nat.le_of_ble_eq_true rfl⟩⟩ (dt_R_fails (a1 := 3) (a2 := ((dc_R_here (sy_rd h)).1 234 12)) th1 (by omega) (by omega) (by omega) (by omega)) ?_
                rintro _ h234 ⟨th234, eh234, rfl, b235, b235t⟩
                rw [eh1] at eh234 b235 b235t ⊢
                show sy_wp (mj_m_130, 113, [(3, sy_i 1), (2, sy_i 1), (1, sy_i ((dc_R_here (sy_rd h)).2)), (0, .ref 234)], [sy_i ((dc_R_fails (dc_R_here (sy_rd h)).1 3 ((dc_R_here (sy_rd h)).1 234 12)).2)], h234) _
                exact sy_retb mj_d_130_113 rfl ⟨by omega, by omega⟩ ⟨th234, eh234, rfl, by omega, by omega⟩
          · skip
            rw [if_pos (Decidable.not_not.mp c180)]
            replace c180 := Decidable.not_not.mp c180
            refine sy_st (S' := (mj_m_130, 57, [(2, sy_i 1), (1, sy_i ((dc_R_here (sy_rd h)).2)), (0, .ref 234)], [.ref 234], h1)) mj_d_130_56 (fun _ _ => rfl) ?_
            refine sy_gf mj_d_130_57 rfl rfl (by decide) rfl th1 ?_
            intro x236 ex236 bx236 tx236
            replace ex236 : x236 = sy_rd h1 234 16 := ex236
            rw [eh1, dr_R_here _ 234 16 rfl] at ex236
            subst ex236
            refine sy_st (S' := (mj_m_130, 99, [(2, sy_i 1), (1, sy_i ((dc_R_here (sy_rd h)).2)), (0, .ref 234)], [sy_i (sy_rd h 234 16)], h1)) mj_d_130_60 (fun _ _ => rfl) ?_
            refine sy_st (S' := (mj_m_130, 100, [(3, sy_i (sy_rd h 234 16)), (2, sy_i 1), (1, sy_i ((dc_R_here (sy_rd h)).2)), (0, .ref 234)], [], h1)) mj_d_130_99 (fun _ _ => rfl) ?_
            refine sy_st (S' := (mj_m_130, 101, [(3, sy_i (sy_rd h 234 16)), (2, sy_i 1), (1, sy_i ((dc_R_here (sy_rd h)).2)), (0, .ref 234)], [sy_i (sy_rd h 234 16)], h1)) mj_d_130_100 (fun _ _ => rfl) ?_
            refine sy_ifc mj_d_130_101 rfl ⟨by omega, by omega⟩ (fun (c237 : (sy_rd h 234 16) = 0) => ?_) (fun (c237 : ¬ ((sy_rd h 234 16) = 0)) => ?_)
            · skip
              rw [if_pos c237]
              refine sy_st (S' := (mj_m_130, 115, [(3, sy_i (sy_rd h 234 16)), (2, sy_i 1), (1, sy_i ((dc_R_here (sy_rd h)).2)), (0, .ref 234)], [.ref 234], h1)) mj_d_130_114 (fun _ _ => rfl) ?_
              refine sy_st (S' := (mj_m_130, 116, [(3, sy_i (sy_rd h 234 16)), (2, sy_i 1), (1, sy_i ((dc_R_here (sy_rd h)).2)), (0, .ref 234)], [.ref 234, .ref 234], h1)) mj_d_130_115 (fun _ _ => rfl) ?_
              refine sy_gf mj_d_130_116 rfl rfl (by decide) rfl th1 ?_
              intro x238 ex238 bx238 tx238
              replace ex238 : x238 = sy_rd h1 234 11 := ex238
              rw [eh1] at ex238
              subst ex238
              refine sy_st (S' := (mj_m_130, 120, [(3, sy_i (sy_rd h 234 16)), (2, sy_i 1), (1, sy_i ((dc_R_here (sy_rd h)).2)), (0, .ref 234)], [sy_i 1, sy_i ((dc_R_here (sy_rd h)).1 234 11), .ref 234], h1)) mj_d_130_119 (fun _ _ => rfl) ?_
              refine sy_add mj_d_130_120 ?_
              refine sg_pf (z := (((dc_R_here (sy_rd h)).1 234 11) + 1)) mj_d_130_121 rfl rfl (by decide) (Or.inl rfl) rfl th1 (by omega) (by omega) ⟨by omega, by omega⟩ ?_
              intro h239 th239 eh239
              rw [eh1] at eh239
              refine sy_st (S' := (mj_m_130, 125, [(3, sy_i (sy_rd h 234 16)), (2, sy_i 1), (1, sy_i ((dc_R_here (sy_rd h)).2)), (0, .ref 234)], [sy_i ((dc_R_here (sy_rd h)).2)], h239)) mj_d_130_124 (fun _ _ => rfl) ?_
              refine sy_bip mj_d_130_125 (by decide) ?_
              refine sy_icm mj_d_130_127 rfl ⟨by omega, by omega⟩ ⟨by omega, by omega⟩ (fun (c240 : ¬ (((dc_R_here (sy_rd h)).2) = 99)) => ?_) (fun (c240 : ¬ ¬ (((dc_R_here (sy_rd h)).2) = 99)) => ?_)
              · skip
                rw [if_neg c240]
                refine sy_st (S' := (mj_m_130, 138, [(3, sy_i (sy_rd h 234 16)), (2, sy_i 1), (1, sy_i ((dc_R_here (sy_rd h)).2)), (0, .ref 234)], [sy_i ((dc_R_here (sy_rd h)).2)], h239)) mj_d_130_137 (fun _ _ => rfl) ?_
                refine sy_bip mj_d_130_138 (by decide) ?_
                refine sy_icm mj_d_130_140 rfl ⟨by omega, by omega⟩ ⟨by omega, by omega⟩ (fun (c241 : ¬ (((dc_R_here (sy_rd h)).2) = 104)) => ?_) (fun (c241 : ¬ ¬ (((dc_R_here (sy_rd h)).2) = 104)) => ?_)
                · skip
                  rw [if_neg c241]
                  refine sy_st (S' := (mj_m_130, 151, [(3, sy_i (sy_rd h 234 16)), (2, sy_i 1), (1, sy_i ((dc_R_here (sy_rd h)).2)), (0, .ref 234)], [.ref 234], h239)) mj_d_130_150 (fun _ _ => rfl) ?_
                  refine sy_cv (M' := mj_m_135) (vs := [.ref 234]) (rest := []) mj_d_130_151 rfl rfl rfl rfl th239 rfl rfl ⟨by decide, ⟨Nat.le_of_ble_eq_true rfl, Nat.le_of_ble_eq_true rfl, Nat.le_of_ble_eq_true rfl, Nat.le_of_ble_eq_true rfl, Nat.le_of_ble_eq_true rfl⟩⟩ (dt_R_takesSweep th239 (by rw [eh239, sg_nk (by decide), dr_R_here _ 234 22 rfl]; omega)) ?_
                  rintro _ h242 ⟨th242, eh242, rfl, b243, b243t⟩
                  rw [eh239] at eh242 b243 b243t ⊢
                  show sy_wp (mj_m_130, 154, [(3, sy_i (sy_rd h 234 16)), (2, sy_i 1), (1, sy_i ((dc_R_here (sy_rd h)).2)), (0, .ref 234)], [sy_i ((dc_R_takesSweep (sg_up (dc_R_here (sy_rd h)).1 234 11 (((dc_R_here (sy_rd h)).1 234 11) + 1))).2)], h242) _
                  refine sy_st (S' := (mj_m_130, 156, [(4, sy_i ((dc_R_takesSweep (sg_up (dc_R_here (sy_rd h)).1 234 11 (((dc_R_here (sy_rd h)).1 234 11) + 1))).2)), (3, sy_i (sy_rd h 234 16)), (2, sy_i 1), (1, sy_i ((dc_R_here (sy_rd h)).2)), (0, .ref 234)], [], h242)) mj_d_130_154 (fun _ _ => rfl) ?_
                  refine sy_st (S' := (mj_m_130, 158, [(4, sy_i ((dc_R_takesSweep (sg_up (dc_R_here (sy_rd h)).1 234 11 (((dc_R_here (sy_rd h)).1 234 11) + 1))).2)), (3, sy_i (sy_rd h 234 16)), (2, sy_i 1), (1, sy_i ((dc_R_here (sy_rd h)).2)), (0, .ref 234)], [sy_i ((dc_R_takesSweep (sg_up (dc_R_here (sy_rd h)).1 234 11 (((dc_R_here (sy_rd h)).1 234 11) + 1))).2)], h242)) mj_d_130_156 (fun _ _ => rfl) ?_
                  refine sy_ifc mj_d_130_158 rfl ⟨by omega, by omega⟩ (fun (c244 : ((dc_R_takesSweep (sg_up (dc_R_here (sy_rd h)).1 234 11 (((dc_R_here (sy_rd h)).1 234 11) + 1))).2) = 0) => ?_) (fun (c244 : ¬ (((dc_R_takesSweep (sg_up (dc_R_here (sy_rd h)).1 234 11 (((dc_R_here (sy_rd h)).1 234 11) + 1))).2) = 0)) => ?_)
                  · skip
                    rw [if_pos c244]
                    refine sy_st (S' := (mj_m_130, 175, [(4, sy_i ((dc_R_takesSweep (sg_up (dc_R_here (sy_rd h)).1 234 11 (((dc_R_here (sy_rd h)).1 234 11) + 1))).2)), (3, sy_i (sy_rd h 234 16)), (2, sy_i 1), (1, sy_i ((dc_R_here (sy_rd h)).2)), (0, .ref 234)], [sy_i 0], h242)) mj_d_130_174 (fun _ _ => rfl) ?_
                    exact sy_retb mj_d_130_175 rfl ⟨by omega, by omega⟩ ⟨th242, eh242, rfl, by omega, by omega⟩
                  · skip
                    rw [if_neg c244]
                    refine sy_st (S' := (mj_m_130, 162, [(4, sy_i ((dc_R_takesSweep (sg_up (dc_R_here (sy_rd h)).1 234 11 (((dc_R_here (sy_rd h)).1 234 11) + 1))).2)), (3, sy_i (sy_rd h 234 16)), (2, sy_i 1), (1, sy_i ((dc_R_here (sy_rd h)).2)), (0, .ref 234)], [.ref 234], h242)) mj_d_130_161 (fun _ _ => rfl) ?_
                    refine sy_bip mj_d_130_162 (by decide) ?_
                    refine sy_cv (M' := mj_m_136) (vs := [.ref 234, sy_i 59]) (rest := []) mj_d_130_164 rfl rfl rfl rfl th242 rfl rfl ⟨by decide, ⟨Nat.le_of_ble_eq_true rfl, Nat.le_of_ble_eq_true rfl, Nat.le_of_ble_eq_true rfl, Nat.le_of_ble_eq_true rfl, Nat.le_of_ble_eq_true rfl⟩⟩ (dt_R_takes (a1 := 59) th242 (by omega) (by omega)) ?_
                    rintro _ h245 ⟨th245, eh245, rfl, b246, b246t⟩
                    rw [eh242] at eh245 b246 b246t ⊢
                    show sy_wp (mj_m_130, 167, [(4, sy_i ((dc_R_takesSweep (sg_up (dc_R_here (sy_rd h)).1 234 11 (((dc_R_here (sy_rd h)).1 234 11) + 1))).2)), (3, sy_i (sy_rd h 234 16)), (2, sy_i 1), (1, sy_i ((dc_R_here (sy_rd h)).2)), (0, .ref 234)], [sy_i ((dc_R_takes (dc_R_takesSweep (sg_up (dc_R_here (sy_rd h)).1 234 11 (((dc_R_here (sy_rd h)).1 234 11) + 1))).1 59).2)], h245) _
                    refine sy_ifc mj_d_130_167 rfl ⟨by omega, by omega⟩ (fun (c247 : ((dc_R_takes (dc_R_takesSweep (sg_up (dc_R_here (sy_rd h)).1 234 11 (((dc_R_here (sy_rd h)).1 234 11) + 1))).1 59).2) = 0) => ?_) (fun (c247 : ¬ (((dc_R_takes (dc_R_takesSweep (sg_up (dc_R_here (sy_rd h)).1 234 11 (((dc_R_here (sy_rd h)).1 234 11) + 1))).1 59).2) = 0)) => ?_)
                    · skip
                      rw [if_pos c247]
                      refine sy_st (S' := (mj_m_130, 175, [(4, sy_i ((dc_R_takesSweep (sg_up (dc_R_here (sy_rd h)).1 234 11 (((dc_R_here (sy_rd h)).1 234 11) + 1))).2)), (3, sy_i (sy_rd h 234 16)), (2, sy_i 1), (1, sy_i ((dc_R_here (sy_rd h)).2)), (0, .ref 234)], [sy_i 0], h245)) mj_d_130_174 (fun _ _ => rfl) ?_
                      exact sy_retb mj_d_130_175 rfl ⟨by omega, by omega⟩ ⟨th245, eh245, rfl, by omega, by omega⟩
                    · skip
                      rw [if_neg c247]
                      refine sy_st (S' := (mj_m_130, 171, [(4, sy_i ((dc_R_takesSweep (sg_up (dc_R_here (sy_rd h)).1 234 11 (((dc_R_here (sy_rd h)).1 234 11) + 1))).2)), (3, sy_i (sy_rd h 234 16)), (2, sy_i 1), (1, sy_i ((dc_R_here (sy_rd h)).2)), (0, .ref 234)], [sy_i 1], h245)) mj_d_130_170 (fun _ _ => rfl) ?_
                      refine sy_st (S' := (mj_m_130, 175, [(4, sy_i ((dc_R_takesSweep (sg_up (dc_R_here (sy_rd h)).1 234 11 (((dc_R_here (sy_rd h)).1 234 11) + 1))).2)), (3, sy_i (sy_rd h 234 16)), (2, sy_i 1), (1, sy_i ((dc_R_here (sy_rd h)).2)), (0, .ref 234)], [sy_i 1], h245)) mj_d_130_171 (fun _ _ => rfl) ?_
                      exact sy_retb mj_d_130_175 rfl ⟨by omega, by omega⟩ ⟨th245, eh245, rfl, by omega, by omega⟩
                · skip
                  rw [if_pos (Decidable.not_not.mp c241)]
                  replace c241 := Decidable.not_not.mp c241
                  refine sy_st (S' := (mj_m_130, 144, [(3, sy_i (sy_rd h 234 16)), (2, sy_i 1), (1, sy_i ((dc_R_here (sy_rd h)).2)), (0, .ref 234)], [.ref 234], h239)) mj_d_130_143 (fun _ _ => rfl) ?_
                  refine sy_cv (M' := mj_m_134) (vs := [.ref 234]) (rest := []) mj_d_130_144 rfl rfl rfl rfl th239 rfl rfl ⟨by decide, ⟨Nat.le_of_ble_eq_true rfl, Nat.le_of_ble_eq_true rfl, Nat.le_of_ble_eq_true rfl, Nat.le_of_ble_eq_true rfl, Nat.le_of_ble_eq_true rfl⟩⟩ (dt_R_takesHouse th239 (by rw [eh239, sg_nk (by decide), dr_R_here _ 234 19 rfl]; omega)) ?_
                  rintro _ h248 ⟨th248, eh248, rfl, b249, b249t⟩
                  rw [eh239] at eh248 b249 b249t ⊢
                  show sy_wp (mj_m_130, 147, [(3, sy_i (sy_rd h 234 16)), (2, sy_i 1), (1, sy_i ((dc_R_here (sy_rd h)).2)), (0, .ref 234)], [sy_i ((dc_R_takesHouse (sg_up (dc_R_here (sy_rd h)).1 234 11 (((dc_R_here (sy_rd h)).1 234 11) + 1))).2)], h248) _
                  refine sy_st (S' := (mj_m_130, 154, [(3, sy_i (sy_rd h 234 16)), (2, sy_i 1), (1, sy_i ((dc_R_here (sy_rd h)).2)), (0, .ref 234)], [sy_i ((dc_R_takesHouse (sg_up (dc_R_here (sy_rd h)).1 234 11 (((dc_R_here (sy_rd h)).1 234 11) + 1))).2)], h248)) mj_d_130_147 (fun _ _ => rfl) ?_
                  refine sy_st (S' := (mj_m_130, 156, [(4, sy_i ((dc_R_takesHouse (sg_up (dc_R_here (sy_rd h)).1 234 11 (((dc_R_here (sy_rd h)).1 234 11) + 1))).2)), (3, sy_i (sy_rd h 234 16)), (2, sy_i 1), (1, sy_i ((dc_R_here (sy_rd h)).2)), (0, .ref 234)], [], h248)) mj_d_130_154 (fun _ _ => rfl) ?_
                  refine sy_st (S' := (mj_m_130, 158, [(4, sy_i ((dc_R_takesHouse (sg_up (dc_R_here (sy_rd h)).1 234 11 (((dc_R_here (sy_rd h)).1 234 11) + 1))).2)), (3, sy_i (sy_rd h 234 16)), (2, sy_i 1), (1, sy_i ((dc_R_here (sy_rd h)).2)), (0, .ref 234)], [sy_i ((dc_R_takesHouse (sg_up (dc_R_here (sy_rd h)).1 234 11 (((dc_R_here (sy_rd h)).1 234 11) + 1))).2)], h248)) mj_d_130_156 (fun _ _ => rfl) ?_
                  refine sy_ifc mj_d_130_158 rfl ⟨by omega, by omega⟩ (fun (c250 : ((dc_R_takesHouse (sg_up (dc_R_here (sy_rd h)).1 234 11 (((dc_R_here (sy_rd h)).1 234 11) + 1))).2) = 0) => ?_) (fun (c250 : ¬ (((dc_R_takesHouse (sg_up (dc_R_here (sy_rd h)).1 234 11 (((dc_R_here (sy_rd h)).1 234 11) + 1))).2) = 0)) => ?_)
                  · skip
                    rw [if_pos c250]
                    refine sy_st (S' := (mj_m_130, 175, [(4, sy_i ((dc_R_takesHouse (sg_up (dc_R_here (sy_rd h)).1 234 11 (((dc_R_here (sy_rd h)).1 234 11) + 1))).2)), (3, sy_i (sy_rd h 234 16)), (2, sy_i 1), (1, sy_i ((dc_R_here (sy_rd h)).2)), (0, .ref 234)], [sy_i 0], h248)) mj_d_130_174 (fun _ _ => rfl) ?_
                    exact sy_retb mj_d_130_175 rfl ⟨by omega, by omega⟩ ⟨th248, eh248, rfl, by omega, by omega⟩
                  · skip
                    rw [if_neg c250]
                    refine sy_st (S' := (mj_m_130, 162, [(4, sy_i ((dc_R_takesHouse (sg_up (dc_R_here (sy_rd h)).1 234 11 (((dc_R_here (sy_rd h)).1 234 11) + 1))).2)), (3, sy_i (sy_rd h 234 16)), (2, sy_i 1), (1, sy_i ((dc_R_here (sy_rd h)).2)), (0, .ref 234)], [.ref 234], h248)) mj_d_130_161 (fun _ _ => rfl) ?_
                    refine sy_bip mj_d_130_162 (by decide) ?_
                    refine sy_cv (M' := mj_m_136) (vs := [.ref 234, sy_i 59]) (rest := []) mj_d_130_164 rfl rfl rfl rfl th248 rfl rfl ⟨by decide, ⟨Nat.le_of_ble_eq_true rfl, Nat.le_of_ble_eq_true rfl, Nat.le_of_ble_eq_true rfl, Nat.le_of_ble_eq_true rfl, Nat.le_of_ble_eq_true rfl⟩⟩ (dt_R_takes (a1 := 59) th248 (by omega) (by omega)) ?_
                    rintro _ h251 ⟨th251, eh251, rfl, b252, b252t⟩
                    rw [eh248] at eh251 b252 b252t ⊢
                    show sy_wp (mj_m_130, 167, [(4, sy_i ((dc_R_takesHouse (sg_up (dc_R_here (sy_rd h)).1 234 11 (((dc_R_here (sy_rd h)).1 234 11) + 1))).2)), (3, sy_i (sy_rd h 234 16)), (2, sy_i 1), (1, sy_i ((dc_R_here (sy_rd h)).2)), (0, .ref 234)], [sy_i ((dc_R_takes (dc_R_takesHouse (sg_up (dc_R_here (sy_rd h)).1 234 11 (((dc_R_here (sy_rd h)).1 234 11) + 1))).1 59).2)], h251) _
                    refine sy_ifc mj_d_130_167 rfl ⟨by omega, by omega⟩ (fun (c253 : ((dc_R_takes (dc_R_takesHouse (sg_up (dc_R_here (sy_rd h)).1 234 11 (((dc_R_here (sy_rd h)).1 234 11) + 1))).1 59).2) = 0) => ?_) (fun (c253 : ¬ (((dc_R_takes (dc_R_takesHouse (sg_up (dc_R_here (sy_rd h)).1 234 11 (((dc_R_here (sy_rd h)).1 234 11) + 1))).1 59).2) = 0)) => ?_)
                    · skip
                      rw [if_pos c253]
                      refine sy_st (S' := (mj_m_130, 175, [(4, sy_i ((dc_R_takesHouse (sg_up (dc_R_here (sy_rd h)).1 234 11 (((dc_R_here (sy_rd h)).1 234 11) + 1))).2)), (3, sy_i (sy_rd h 234 16)), (2, sy_i 1), (1, sy_i ((dc_R_here (sy_rd h)).2)), (0, .ref 234)], [sy_i 0], h251)) mj_d_130_174 (fun _ _ => rfl) ?_
                      exact sy_retb mj_d_130_175 rfl ⟨by omega, by omega⟩ ⟨th251, eh251, rfl, by omega, by omega⟩
                    · skip
                      rw [if_neg c253]
                      refine sy_st (S' := (mj_m_130, 171, [(4, sy_i ((dc_R_takesHouse (sg_up (dc_R_here (sy_rd h)).1 234 11 (((dc_R_here (sy_rd h)).1 234 11) + 1))).2)), (3, sy_i (sy_rd h 234 16)), (2, sy_i 1), (1, sy_i ((dc_R_here (sy_rd h)).2)), (0, .ref 234)], [sy_i 1], h251)) mj_d_130_170 (fun _ _ => rfl) ?_
                      refine sy_st (S' := (mj_m_130, 175, [(4, sy_i ((dc_R_takesHouse (sg_up (dc_R_here (sy_rd h)).1 234 11 (((dc_R_here (sy_rd h)).1 234 11) + 1))).2)), (3, sy_i (sy_rd h 234 16)), (2, sy_i 1), (1, sy_i ((dc_R_here (sy_rd h)).2)), (0, .ref 234)], [sy_i 1], h251)) mj_d_130_171 (fun _ _ => rfl) ?_
                      exact sy_retb mj_d_130_175 rfl ⟨by omega, by omega⟩ ⟨th251, eh251, rfl, by omega, by omega⟩
              · skip
                rw [if_pos (Decidable.not_not.mp c240)]
                replace c240 := Decidable.not_not.mp c240
                refine sy_st (S' := (mj_m_130, 131, [(3, sy_i (sy_rd h 234 16)), (2, sy_i 1), (1, sy_i ((dc_R_here (sy_rd h)).2)), (0, .ref 234)], [.ref 234], h239)) mj_d_130_130 (fun _ _ => rfl) ?_
                refine sy_cv (M' := mj_m_132) (vs := [.ref 234]) (rest := []) mj_d_130_131 rfl rfl rfl rfl th239 rfl rfl ⟨by decide, ⟨Nat.le_of_ble_eq_true rfl, Nat.le_of_ble_eq_true rfl, Nat.le_of_ble_eq_true rfl, Nat.le_of_ble_eq_true rfl, Nat.le_of_ble_eq_true rfl⟩⟩ (dt_R_takesCity th239) ?_
                rintro _ h254 ⟨th254, eh254, rfl, b255, b255t⟩
                rw [eh239] at eh254 b255 b255t ⊢
                show sy_wp (mj_m_130, 134, [(3, sy_i (sy_rd h 234 16)), (2, sy_i 1), (1, sy_i ((dc_R_here (sy_rd h)).2)), (0, .ref 234)], [sy_i ((dc_R_takesCity (sg_up (dc_R_here (sy_rd h)).1 234 11 (((dc_R_here (sy_rd h)).1 234 11) + 1))).2)], h254) _
                refine sy_st (S' := (mj_m_130, 154, [(3, sy_i (sy_rd h 234 16)), (2, sy_i 1), (1, sy_i ((dc_R_here (sy_rd h)).2)), (0, .ref 234)], [sy_i ((dc_R_takesCity (sg_up (dc_R_here (sy_rd h)).1 234 11 (((dc_R_here (sy_rd h)).1 234 11) + 1))).2)], h254)) mj_d_130_134 (fun _ _ => rfl) ?_
                refine sy_st (S' := (mj_m_130, 156, [(4, sy_i ((dc_R_takesCity (sg_up (dc_R_here (sy_rd h)).1 234 11 (((dc_R_here (sy_rd h)).1 234 11) + 1))).2)), (3, sy_i (sy_rd h 234 16)), (2, sy_i 1), (1, sy_i ((dc_R_here (sy_rd h)).2)), (0, .ref 234)], [], h254)) mj_d_130_154 (fun _ _ => rfl) ?_
                refine sy_st (S' := (mj_m_130, 158, [(4, sy_i ((dc_R_takesCity (sg_up (dc_R_here (sy_rd h)).1 234 11 (((dc_R_here (sy_rd h)).1 234 11) + 1))).2)), (3, sy_i (sy_rd h 234 16)), (2, sy_i 1), (1, sy_i ((dc_R_here (sy_rd h)).2)), (0, .ref 234)], [sy_i ((dc_R_takesCity (sg_up (dc_R_here (sy_rd h)).1 234 11 (((dc_R_here (sy_rd h)).1 234 11) + 1))).2)], h254)) mj_d_130_156 (fun _ _ => rfl) ?_
                refine sy_ifc mj_d_130_158 rfl ⟨by omega, by omega⟩ (fun (c256 : ((dc_R_takesCity (sg_up (dc_R_here (sy_rd h)).1 234 11 (((dc_R_here (sy_rd h)).1 234 11) + 1))).2) = 0) => ?_) (fun (c256 : ¬ (((dc_R_takesCity (sg_up (dc_R_here (sy_rd h)).1 234 11 (((dc_R_here (sy_rd h)).1 234 11) + 1))).2) = 0)) => ?_)
                · skip
                  rw [if_pos c256]
                  refine sy_st (S' := (mj_m_130, 175, [(4, sy_i ((dc_R_takesCity (sg_up (dc_R_here (sy_rd h)).1 234 11 (((dc_R_here (sy_rd h)).1 234 11) + 1))).2)), (3, sy_i (sy_rd h 234 16)), (2, sy_i 1), (1, sy_i ((dc_R_here (sy_rd h)).2)), (0, .ref 234)], [sy_i 0], h254)) mj_d_130_174 (fun _ _ => rfl) ?_
                  exact sy_retb mj_d_130_175 rfl ⟨by omega, by omega⟩ ⟨th254, eh254, rfl, by omega, by omega⟩
                · skip
                  rw [if_neg c256]
                  refine sy_st (S' := (mj_m_130, 162, [(4, sy_i ((dc_R_takesCity (sg_up (dc_R_here (sy_rd h)).1 234 11 (((dc_R_here (sy_rd h)).1 234 11) + 1))).2)), (3, sy_i (sy_rd h 234 16)), (2, sy_i 1), (1, sy_i ((dc_R_here (sy_rd h)).2)), (0, .ref 234)], [.ref 234], h254)) mj_d_130_161 (fun _ _ => rfl) ?_
                  refine sy_bip mj_d_130_162 (by decide) ?_
                  refine sy_cv (M' := mj_m_136) (vs := [.ref 234, sy_i 59]) (rest := []) mj_d_130_164 rfl rfl rfl rfl th254 rfl rfl ⟨by decide, ⟨Nat.le_of_ble_eq_true rfl, Nat.le_of_ble_eq_true rfl, Nat.le_of_ble_eq_true rfl, Nat.le_of_ble_eq_true rfl, Nat.le_of_ble_eq_true rfl⟩⟩ (dt_R_takes (a1 := 59) th254 (by omega) (by omega)) ?_
                  rintro _ h257 ⟨th257, eh257, rfl, b258, b258t⟩
                  rw [eh254] at eh257 b258 b258t ⊢
                  show sy_wp (mj_m_130, 167, [(4, sy_i ((dc_R_takesCity (sg_up (dc_R_here (sy_rd h)).1 234 11 (((dc_R_here (sy_rd h)).1 234 11) + 1))).2)), (3, sy_i (sy_rd h 234 16)), (2, sy_i 1), (1, sy_i ((dc_R_here (sy_rd h)).2)), (0, .ref 234)], [sy_i ((dc_R_takes (dc_R_takesCity (sg_up (dc_R_here (sy_rd h)).1 234 11 (((dc_R_here (sy_rd h)).1 234 11) + 1))).1 59).2)], h257) _
                  refine sy_ifc mj_d_130_167 rfl ⟨by omega, by omega⟩ (fun (c259 : ((dc_R_takes (dc_R_takesCity (sg_up (dc_R_here (sy_rd h)).1 234 11 (((dc_R_here (sy_rd h)).1 234 11) + 1))).1 59).2) = 0) => ?_) (fun (c259 : ¬ (((dc_R_takes (dc_R_takesCity (sg_up (dc_R_here (sy_rd h)).1 234 11 (((dc_R_here (sy_rd h)).1 234 11) + 1))).1 59).2) = 0)) => ?_)
                  · skip
                    rw [if_pos c259]
                    refine sy_st (S' := (mj_m_130, 175, [(4, sy_i ((dc_R_takesCity (sg_up (dc_R_here (sy_rd h)).1 234 11 (((dc_R_here (sy_rd h)).1 234 11) + 1))).2)), (3, sy_i (sy_rd h 234 16)), (2, sy_i 1), (1, sy_i ((dc_R_here (sy_rd h)).2)), (0, .ref 234)], [sy_i 0], h257)) mj_d_130_174 (fun _ _ => rfl) ?_
                    exact sy_retb mj_d_130_175 rfl ⟨by omega, by omega⟩ ⟨th257, eh257, rfl, by omega, by omega⟩
                  · skip
                    rw [if_neg c259]
                    refine sy_st (S' := (mj_m_130, 171, [(4, sy_i ((dc_R_takesCity (sg_up (dc_R_here (sy_rd h)).1 234 11 (((dc_R_here (sy_rd h)).1 234 11) + 1))).2)), (3, sy_i (sy_rd h 234 16)), (2, sy_i 1), (1, sy_i ((dc_R_here (sy_rd h)).2)), (0, .ref 234)], [sy_i 1], h257)) mj_d_130_170 (fun _ _ => rfl) ?_
                    refine sy_st (S' := (mj_m_130, 175, [(4, sy_i ((dc_R_takesCity (sg_up (dc_R_here (sy_rd h)).1 234 11 (((dc_R_here (sy_rd h)).1 234 11) + 1))).2)), (3, sy_i (sy_rd h 234 16)), (2, sy_i 1), (1, sy_i ((dc_R_here (sy_rd h)).2)), (0, .ref 234)], [sy_i 1], h257)) mj_d_130_171 (fun _ _ => rfl) ?_
                    exact sy_retb mj_d_130_175 rfl ⟨by omega, by omega⟩ ⟨th257, eh257, rfl, by omega, by omega⟩
            · skip
              rw [if_neg c237]
              refine sy_st (S' := (mj_m_130, 105, [(3, sy_i (sy_rd h 234 16)), (2, sy_i 1), (1, sy_i ((dc_R_here (sy_rd h)).2)), (0, .ref 234)], [.ref 234], h1)) mj_d_130_104 (fun _ _ => rfl) ?_
              refine sy_st (S' := (mj_m_130, 106, [(3, sy_i (sy_rd h 234 16)), (2, sy_i 1), (1, sy_i ((dc_R_here (sy_rd h)).2)), (0, .ref 234)], [sy_i 3, .ref 234], h1)) mj_d_130_105 (fun _ _ => rfl) ?_
              refine sy_st (S' := (mj_m_130, 107, [(3, sy_i (sy_rd h 234 16)), (2, sy_i 1), (1, sy_i ((dc_R_here (sy_rd h)).2)), (0, .ref 234)], [.ref 234, sy_i 3, .ref 234], h1)) mj_d_130_106 (fun _ _ => rfl) ?_
              refine sy_gf mj_d_130_107 rfl rfl (by decide) rfl th1 ?_
              intro x260 ex260 bx260 tx260
              replace ex260 : x260 = sy_rd h1 234 12 := ex260
              rw [eh1] at ex260
              subst ex260
              refine sy_cv (M' := mj_m_131) (vs := [.ref 234, sy_i 3, sy_i ((dc_R_here (sy_rd h)).1 234 12)]) (rest := []) mj_d_130_110 rfl rfl rfl rfl th1 rfl rfl ⟨by decide, ⟨Nat.le_of_ble_eq_true rfl, Nat.le_of_ble_eq_true rfl, Nat.le_of_ble_eq_true rfl, Nat.le_of_ble_eq_true rfl, Nat.le_of_ble_eq_true rfl⟩⟩ (dt_R_fails (a1 := 3) (a2 := ((dc_R_here (sy_rd h)).1 234 12)) th1 (by omega) (by omega) (by omega) (by omega)) ?_
              rintro _ h261 ⟨th261, eh261, rfl, b262, b262t⟩
              rw [eh1] at eh261 b262 b262t ⊢
              show sy_wp (mj_m_130, 113, [(3, sy_i (sy_rd h 234 16)), (2, sy_i 1), (1, sy_i ((dc_R_here (sy_rd h)).2)), (0, .ref 234)], [sy_i ((dc_R_fails (dc_R_here (sy_rd h)).1 3 ((dc_R_here (sy_rd h)).1 234 12)).2)], h261) _
              exact sy_retb mj_d_130_113 rfl ⟨by omega, by omega⟩ ⟨th261, eh261, rfl, by omega, by omega⟩
