def mj_m_86 : mj_M := (⟨"SootMaps", "trade", "(III)I"⟩, prog_1_method_21_code, 4, (some .int), 9, 3, 1, 5, 124)
def mj_m_87 : mj_M := (⟨"SootMaps$Bargain", "settle", "(IILSootMaps$Streets;LSootMaps$Plan;)Z"⟩, prog_2_method_2_code, 7, (some .boolean), 0, 4, 1, 4, 98)
def mj_m_88 : mj_M := (⟨"SootMaps$Bargain", "listNeeds", "(IILSootMaps$Streets;LSootMaps$Plan;)V"⟩, prog_2_method_5_code, 6, none, 0, 4, 1, 2, 48)
def mj_m_89 : mj_M := (⟨"SootMaps$Bargain", "othersWhoKnow", "(IILSootMaps$Streets;LSootMaps$Plan;)I"⟩, prog_2_method_6_code, 6, (some .int), 0, 4, 0, 1, 23)
def mj_m_90 : mj_M := (⟨"SootMaps$Bargain", "listTallies", "(IILSootMaps$Streets;LSootMaps$Plan;)V"⟩, prog_2_method_7_code, 9, none, 0, 4, 1, 1, 22)
def mj_m_92 : mj_M := (⟨"SootMaps$Bargain", "countCosts", "(ILSootMaps$Plan;)V"⟩, prog_2_method_8_code, 4, none, 0, 2, 1, 3, 75)
def mj_m_93 : mj_M := (⟨"SootMaps$Bargain", "cheapestGiver", "(IILSootMaps$Plan;)I"⟩, prog_2_method_11_code, 8, (some .int), 0, 3, 1, 2, 48)
def mj_m_94 : mj_M := (⟨"SootMaps$Bargain", "costBy", "(IIILSootMaps$Plan;)I"⟩, prog_2_method_10_code, 6, (some .int), 0, 4, 1, 1, 23)
def mj_m_95 : mj_M := (⟨"SootMaps$Bargain", "isFree", "(II)Z"⟩, prog_2_method_9_code, 4, (some .boolean), 0, 2, 1, 0, 0)
def mj_m_96 : mj_M := (⟨"SootMaps$Bargain", "leastPaid", "()I"⟩, prog_2_method_3_code, 1, (some .int), 0, 0, 1, 0, 0)
def mj_m_97 : mj_M := (⟨"SootMaps$Bargain", "giverOf", "(ILSootMaps$Plan;)I"⟩, prog_2_method_4_code, 6, (some .int), 0, 2, 1, 3, 75)
theorem mj_d_86_0 : decode mj_m_86.2.1 0 = .ok (.aload_n 0, 1) := by decide +kernel
theorem mj_d_86_1 : decode mj_m_86.2.1 1 = .ok (.iload_n 1, 1) := by decide +kernel
theorem mj_d_86_2 : decode mj_m_86.2.1 2 = .ok (.invokevirtual 163, 3) := by decide +kernel
theorem mj_d_86_5 : decode mj_m_86.2.1 5 = .ok (.ifCond .eq 33, 3) := by decide +kernel
theorem mj_d_86_8 : decode mj_m_86.2.1 8 = .ok (.iload_n 2, 1) := by decide +kernel
theorem mj_d_86_9 : decode mj_m_86.2.1 9 = .ok (.ifCond .lt 29, 3) := by decide +kernel
theorem mj_d_86_12 : decode mj_m_86.2.1 12 = .ok (.iload_n 2, 1) := by decide +kernel
theorem mj_d_86_13 : decode mj_m_86.2.1 13 = .ok (.iconst 1, 1) := by decide +kernel
theorem mj_d_86_14 : decode mj_m_86.2.1 14 = .ok (.aload_n 0, 1) := by decide +kernel
theorem mj_d_86_15 : decode mj_m_86.2.1 15 = .ok (.getfield 19, 3) := by decide +kernel
theorem mj_d_86_18 : decode mj_m_86.2.1 18 = .ok (.getfield 102, 3) := by decide +kernel
theorem mj_d_86_21 : decode mj_m_86.2.1 21 = .ok (.ishl, 1) := by decide +kernel
theorem mj_d_86_22 : decode mj_m_86.2.1 22 = .ok (.if_icmp .ge 16, 3) := by decide +kernel
theorem mj_d_86_25 : decode mj_m_86.2.1 25 = .ok (.iload_n 3, 1) := by decide +kernel
theorem mj_d_86_26 : decode mj_m_86.2.1 26 = .ok (.iconst (-1), 1) := by decide +kernel
theorem mj_d_86_27 : decode mj_m_86.2.1 27 = .ok (.if_icmp .eq 14, 3) := by decide +kernel
theorem mj_d_86_30 : decode mj_m_86.2.1 30 = .ok (.aload_n 0, 1) := by decide +kernel
theorem mj_d_86_31 : decode mj_m_86.2.1 31 = .ok (.iload_n 3, 1) := by decide +kernel
theorem mj_d_86_32 : decode mj_m_86.2.1 32 = .ok (.invokevirtual 135, 3) := by decide +kernel
theorem mj_d_86_35 : decode mj_m_86.2.1 35 = .ok (.ifCond .ne 6, 3) := by decide +kernel
theorem mj_d_86_38 : decode mj_m_86.2.1 38 = .ok (.ldc 139, 2) := by decide +kernel
theorem mj_d_86_40 : decode mj_m_86.2.1 40 = .ok (.ireturn, 1) := by decide +kernel
theorem mj_d_86_41 : decode mj_m_86.2.1 41 = .ok (.aload_n 0, 1) := by decide +kernel
theorem mj_d_86_42 : decode mj_m_86.2.1 42 = .ok (.getfield 68, 3) := by decide +kernel
theorem mj_d_86_45 : decode mj_m_86.2.1 45 = .ok (.iload_n 1, 1) := by decide +kernel
theorem mj_d_86_46 : decode mj_m_86.2.1 46 = .ok (.iload_n 2, 1) := by decide +kernel
theorem mj_d_86_47 : decode mj_m_86.2.1 47 = .ok (.aload_n 0, 1) := by decide +kernel
theorem mj_d_86_48 : decode mj_m_86.2.1 48 = .ok (.getfield 26, 3) := by decide +kernel
theorem mj_d_86_51 : decode mj_m_86.2.1 51 = .ok (.aload_n 0, 1) := by decide +kernel
theorem mj_d_86_52 : decode mj_m_86.2.1 52 = .ok (.getfield 19, 3) := by decide +kernel
theorem mj_d_86_55 : decode mj_m_86.2.1 55 = .ok (.invokevirtual 232, 3) := by decide +kernel
theorem mj_d_86_58 : decode mj_m_86.2.1 58 = .ok (.ifCond .ne 5, 3) := by decide +kernel
theorem mj_d_86_61 : decode mj_m_86.2.1 61 = .ok (.iconst (-1), 1) := by decide +kernel
theorem mj_d_86_62 : decode mj_m_86.2.1 62 = .ok (.ireturn, 1) := by decide +kernel
theorem mj_d_86_63 : decode mj_m_86.2.1 63 = .ok (.iload_n 3, 1) := by decide +kernel
theorem mj_d_86_64 : decode mj_m_86.2.1 64 = .ok (.iconst (-1), 1) := by decide +kernel
theorem mj_d_86_65 : decode mj_m_86.2.1 65 = .ok (.if_icmp .ne 13, 3) := by decide +kernel
theorem mj_d_86_68 : decode mj_m_86.2.1 68 = .ok (.aload_n 0, 1) := by decide +kernel
theorem mj_d_86_69 : decode mj_m_86.2.1 69 = .ok (.getfield 68, 3) := by decide +kernel
theorem mj_d_86_72 : decode mj_m_86.2.1 72 = .ok (.invokevirtual 236, 3) := by decide +kernel
theorem mj_d_86_75 : decode mj_m_86.2.1 75 = .ok (.goto 15, 3) := by decide +kernel
theorem mj_d_86_78 : decode mj_m_86.2.1 78 = .ok (.aload_n 0, 1) := by decide +kernel
theorem mj_d_86_79 : decode mj_m_86.2.1 79 = .ok (.getfield 68, 3) := by decide +kernel
theorem mj_d_86_82 : decode mj_m_86.2.1 82 = .ok (.iload_n 3, 1) := by decide +kernel
theorem mj_d_86_83 : decode mj_m_86.2.1 83 = .ok (.aload_n 0, 1) := by decide +kernel
theorem mj_d_86_84 : decode mj_m_86.2.1 84 = .ok (.getfield 19, 3) := by decide +kernel
theorem mj_d_86_87 : decode mj_m_86.2.1 87 = .ok (.invokevirtual 239, 3) := by decide +kernel
theorem mj_d_86_90 : decode mj_m_86.2.1 90 = .ok (.ireturn, 1) := by decide +kernel
theorem mj_d_87_0 : decode mj_m_87.2.1 0 = .ok (.iload_n 2, 1) := by decide +kernel
theorem mj_d_87_1 : decode mj_m_87.2.1 1 = .ok (.aload_n 3, 1) := by decide +kernel
theorem mj_d_87_2 : decode mj_m_87.2.1 2 = .ok (.getfield 30, 3) := by decide +kernel
theorem mj_d_87_5 : decode mj_m_87.2.1 5 = .ok (.iload_n 1, 1) := by decide +kernel
theorem mj_d_87_6 : decode mj_m_87.2.1 6 = .ok (.iaload, 1) := by decide +kernel
theorem mj_d_87_7 : decode mj_m_87.2.1 7 = .ok (.iconst (-1), 1) := by decide +kernel
theorem mj_d_87_8 : decode mj_m_87.2.1 8 = .ok (.ixor, 1) := by decide +kernel
theorem mj_d_87_9 : decode mj_m_87.2.1 9 = .ok (.iand, 1) := by decide +kernel
theorem mj_d_87_10 : decode mj_m_87.2.1 10 = .ok (.istore 5, 2) := by decide +kernel
theorem mj_d_87_12 : decode mj_m_87.2.1 12 = .ok (.aload_n 0, 1) := by decide +kernel
theorem mj_d_87_13 : decode mj_m_87.2.1 13 = .ok (.iload_n 1, 1) := by decide +kernel
theorem mj_d_87_14 : decode mj_m_87.2.1 14 = .ok (.iload 5, 2) := by decide +kernel
theorem mj_d_87_16 : decode mj_m_87.2.1 16 = .ok (.aload_n 3, 1) := by decide +kernel
theorem mj_d_87_17 : decode mj_m_87.2.1 17 = .ok (.aload 4, 2) := by decide +kernel
theorem mj_d_87_19 : decode mj_m_87.2.1 19 = .ok (.invokevirtual 35, 3) := by decide +kernel
theorem mj_d_87_22 : decode mj_m_87.2.1 22 = .ok (.iconst 0, 1) := by decide +kernel
theorem mj_d_87_23 : decode mj_m_87.2.1 23 = .ok (.istore 6, 2) := by decide +kernel
theorem mj_d_87_25 : decode mj_m_87.2.1 25 = .ok (.iload 6, 2) := by decide +kernel
theorem mj_d_87_27 : decode mj_m_87.2.1 27 = .ok (.aload_n 0, 1) := by decide +kernel
theorem mj_d_87_28 : decode mj_m_87.2.1 28 = .ok (.getfield 39, 3) := by decide +kernel
theorem mj_d_87_31 : decode mj_m_87.2.1 31 = .ok (.if_icmp .ge 21, 3) := by decide +kernel
theorem mj_d_87_34 : decode mj_m_87.2.1 34 = .ok (.aload_n 0, 1) := by decide +kernel
theorem mj_d_87_35 : decode mj_m_87.2.1 35 = .ok (.getfield 15, 3) := by decide +kernel
theorem mj_d_87_38 : decode mj_m_87.2.1 38 = .ok (.iload 6, 2) := by decide +kernel
theorem mj_d_87_40 : decode mj_m_87.2.1 40 = .ok (.iaload, 1) := by decide +kernel
theorem mj_d_87_41 : decode mj_m_87.2.1 41 = .ok (.ifCond .ne 5, 3) := by decide +kernel
theorem mj_d_87_44 : decode mj_m_87.2.1 44 = .ok (.iconst 0, 1) := by decide +kernel
theorem mj_d_87_45 : decode mj_m_87.2.1 45 = .ok (.ireturn, 1) := by decide +kernel
theorem mj_d_87_46 : decode mj_m_87.2.1 46 = .ok (.iinc 6 1, 3) := by decide +kernel
theorem mj_d_87_49 : decode mj_m_87.2.1 49 = .ok (.goto (-24), 3) := by decide +kernel
theorem mj_d_87_52 : decode mj_m_87.2.1 52 = .ok (.aload_n 0, 1) := by decide +kernel
theorem mj_d_87_53 : decode mj_m_87.2.1 53 = .ok (.iload_n 1, 1) := by decide +kernel
theorem mj_d_87_54 : decode mj_m_87.2.1 54 = .ok (.iload 5, 2) := by decide +kernel
theorem mj_d_87_56 : decode mj_m_87.2.1 56 = .ok (.aload_n 3, 1) := by decide +kernel
theorem mj_d_87_57 : decode mj_m_87.2.1 57 = .ok (.aload 4, 2) := by decide +kernel
theorem mj_d_87_59 : decode mj_m_87.2.1 59 = .ok (.invokevirtual 43, 3) := by decide +kernel
theorem mj_d_87_62 : decode mj_m_87.2.1 62 = .ok (.aload_n 0, 1) := by decide +kernel
theorem mj_d_87_63 : decode mj_m_87.2.1 63 = .ok (.getfield 39, 3) := by decide +kernel
theorem mj_d_87_66 : decode mj_m_87.2.1 66 = .ok (.iconst 1, 1) := by decide +kernel
theorem mj_d_87_67 : decode mj_m_87.2.1 67 = .ok (.iadd, 1) := by decide +kernel
theorem mj_d_87_68 : decode mj_m_87.2.1 68 = .ok (.aload_n 0, 1) := by decide +kernel
theorem mj_d_87_69 : decode mj_m_87.2.1 69 = .ok (.getfield 46, 3) := by decide +kernel
theorem mj_d_87_72 : decode mj_m_87.2.1 72 = .ok (.imul, 1) := by decide +kernel
theorem mj_d_87_73 : decode mj_m_87.2.1 73 = .ok (.sipush 3750, 3) := by decide +kernel
theorem mj_d_87_76 : decode mj_m_87.2.1 76 = .ok (.if_icmp .le 5, 3) := by decide +kernel
theorem mj_d_87_79 : decode mj_m_87.2.1 79 = .ok (.iconst 0, 1) := by decide +kernel
theorem mj_d_87_80 : decode mj_m_87.2.1 80 = .ok (.ireturn, 1) := by decide +kernel
theorem mj_d_87_81 : decode mj_m_87.2.1 81 = .ok (.iconst 0, 1) := by decide +kernel
theorem mj_d_87_82 : decode mj_m_87.2.1 82 = .ok (.istore 6, 2) := by decide +kernel
theorem mj_d_87_84 : decode mj_m_87.2.1 84 = .ok (.iload 6, 2) := by decide +kernel
theorem mj_d_87_86 : decode mj_m_87.2.1 86 = .ok (.aload_n 0, 1) := by decide +kernel
theorem mj_d_87_87 : decode mj_m_87.2.1 87 = .ok (.getfield 46, 3) := by decide +kernel
theorem mj_d_87_90 : decode mj_m_87.2.1 90 = .ok (.if_icmp .ge 27, 3) := by decide +kernel
theorem mj_d_87_93 : decode mj_m_87.2.1 93 = .ok (.aload_n 0, 1) := by decide +kernel
theorem mj_d_87_94 : decode mj_m_87.2.1 94 = .ok (.getfield 27, 3) := by decide +kernel
theorem mj_d_87_97 : decode mj_m_87.2.1 97 = .ok (.aload_n 0, 1) := by decide +kernel
theorem mj_d_87_98 : decode mj_m_87.2.1 98 = .ok (.getfield 39, 3) := by decide +kernel
theorem mj_d_87_101 : decode mj_m_87.2.1 101 = .ok (.aload_n 0, 1) := by decide +kernel
theorem mj_d_87_102 : decode mj_m_87.2.1 102 = .ok (.getfield 46, 3) := by decide +kernel
theorem mj_d_87_105 : decode mj_m_87.2.1 105 = .ok (.imul, 1) := by decide +kernel
theorem mj_d_87_106 : decode mj_m_87.2.1 106 = .ok (.iload 6, 2) := by decide +kernel
theorem mj_d_87_108 : decode mj_m_87.2.1 108 = .ok (.iadd, 1) := by decide +kernel
theorem mj_d_87_109 : decode mj_m_87.2.1 109 = .ok (.iconst 0, 1) := by decide +kernel
theorem mj_d_87_110 : decode mj_m_87.2.1 110 = .ok (.iastore, 1) := by decide +kernel
theorem mj_d_87_111 : decode mj_m_87.2.1 111 = .ok (.iinc 6 1, 3) := by decide +kernel
theorem mj_d_87_114 : decode mj_m_87.2.1 114 = .ok (.goto (-30), 3) := by decide +kernel
theorem mj_d_87_117 : decode mj_m_87.2.1 117 = .ok (.aload_n 0, 1) := by decide +kernel
theorem mj_d_87_118 : decode mj_m_87.2.1 118 = .ok (.getfield 39, 3) := by decide +kernel
theorem mj_d_87_121 : decode mj_m_87.2.1 121 = .ok (.iconst 1, 1) := by decide +kernel
theorem mj_d_87_122 : decode mj_m_87.2.1 122 = .ok (.isub, 1) := by decide +kernel
theorem mj_d_87_123 : decode mj_m_87.2.1 123 = .ok (.istore 6, 2) := by decide +kernel
theorem mj_d_87_125 : decode mj_m_87.2.1 125 = .ok (.iload 6, 2) := by decide +kernel
theorem mj_d_87_127 : decode mj_m_87.2.1 127 = .ok (.ifCond .lt 17, 3) := by decide +kernel
theorem mj_d_87_130 : decode mj_m_87.2.1 130 = .ok (.aload_n 0, 1) := by decide +kernel
theorem mj_d_87_131 : decode mj_m_87.2.1 131 = .ok (.iload 6, 2) := by decide +kernel
theorem mj_d_87_133 : decode mj_m_87.2.1 133 = .ok (.aload 4, 2) := by decide +kernel
theorem mj_d_87_135 : decode mj_m_87.2.1 135 = .ok (.invokevirtual 49, 3) := by decide +kernel
theorem mj_d_87_138 : decode mj_m_87.2.1 138 = .ok (.iinc 6 (-1), 3) := by decide +kernel
theorem mj_d_87_141 : decode mj_m_87.2.1 141 = .ok (.goto (-16), 3) := by decide +kernel
theorem mj_d_87_144 : decode mj_m_87.2.1 144 = .ok (.iconst 1, 1) := by decide +kernel
theorem mj_d_87_145 : decode mj_m_87.2.1 145 = .ok (.ireturn, 1) := by decide +kernel
theorem mj_d_88_0 : decode mj_m_88.2.1 0 = .ok (.aload_n 0, 1) := by decide +kernel
theorem mj_d_88_1 : decode mj_m_88.2.1 1 = .ok (.iconst 0, 1) := by decide +kernel
theorem mj_d_88_2 : decode mj_m_88.2.1 2 = .ok (.putfield 39, 3) := by decide +kernel
theorem mj_d_88_5 : decode mj_m_88.2.1 5 = .ok (.iconst 0, 1) := by decide +kernel
theorem mj_d_88_6 : decode mj_m_88.2.1 6 = .ok (.istore 5, 2) := by decide +kernel
theorem mj_d_88_8 : decode mj_m_88.2.1 8 = .ok (.iload 5, 2) := by decide +kernel
theorem mj_d_88_10 : decode mj_m_88.2.1 10 = .ok (.aload 4, 2) := by decide +kernel
theorem mj_d_88_12 : decode mj_m_88.2.1 12 = .ok (.getfield 61, 3) := by decide +kernel
theorem mj_d_88_15 : decode mj_m_88.2.1 15 = .ok (.if_icmp .ge 58, 3) := by decide +kernel
theorem mj_d_88_18 : decode mj_m_88.2.1 18 = .ok (.iload_n 2, 1) := by decide +kernel
theorem mj_d_88_19 : decode mj_m_88.2.1 19 = .ok (.iload 5, 2) := by decide +kernel
theorem mj_d_88_21 : decode mj_m_88.2.1 21 = .ok (.ishr, 1) := by decide +kernel
theorem mj_d_88_22 : decode mj_m_88.2.1 22 = .ok (.iconst 1, 1) := by decide +kernel
theorem mj_d_88_23 : decode mj_m_88.2.1 23 = .ok (.iand, 1) := by decide +kernel
theorem mj_d_88_24 : decode mj_m_88.2.1 24 = .ok (.iconst 1, 1) := by decide +kernel
theorem mj_d_88_25 : decode mj_m_88.2.1 25 = .ok (.if_icmp .ne 42, 3) := by decide +kernel
theorem mj_d_88_28 : decode mj_m_88.2.1 28 = .ok (.aload_n 0, 1) := by decide +kernel
theorem mj_d_88_29 : decode mj_m_88.2.1 29 = .ok (.getfield 11, 3) := by decide +kernel
theorem mj_d_88_32 : decode mj_m_88.2.1 32 = .ok (.aload_n 0, 1) := by decide +kernel
theorem mj_d_88_33 : decode mj_m_88.2.1 33 = .ok (.getfield 39, 3) := by decide +kernel
theorem mj_d_88_36 : decode mj_m_88.2.1 36 = .ok (.iload 5, 2) := by decide +kernel
theorem mj_d_88_38 : decode mj_m_88.2.1 38 = .ok (.iastore, 1) := by decide +kernel
theorem mj_d_88_39 : decode mj_m_88.2.1 39 = .ok (.aload_n 0, 1) := by decide +kernel
theorem mj_d_88_40 : decode mj_m_88.2.1 40 = .ok (.getfield 15, 3) := by decide +kernel
theorem mj_d_88_43 : decode mj_m_88.2.1 43 = .ok (.aload_n 0, 1) := by decide +kernel
theorem mj_d_88_44 : decode mj_m_88.2.1 44 = .ok (.getfield 39, 3) := by decide +kernel
theorem mj_d_88_47 : decode mj_m_88.2.1 47 = .ok (.iload 5, 2) := by decide +kernel
theorem mj_d_88_49 : decode mj_m_88.2.1 49 = .ok (.iload_n 1, 1) := by decide +kernel
theorem mj_d_88_50 : decode mj_m_88.2.1 50 = .ok (.aload_n 3, 1) := by decide +kernel
theorem mj_d_88_51 : decode mj_m_88.2.1 51 = .ok (.aload 4, 2) := by decide +kernel
theorem mj_d_88_53 : decode mj_m_88.2.1 53 = .ok (.invokestatic 66, 3) := by decide +kernel
theorem mj_d_88_56 : decode mj_m_88.2.1 56 = .ok (.iastore, 1) := by decide +kernel
theorem mj_d_88_57 : decode mj_m_88.2.1 57 = .ok (.aload_n 0, 1) := by decide +kernel
theorem mj_d_88_58 : decode mj_m_88.2.1 58 = .ok (.dup, 1) := by decide +kernel
theorem mj_d_88_59 : decode mj_m_88.2.1 59 = .ok (.getfield 39, 3) := by decide +kernel
theorem mj_d_88_62 : decode mj_m_88.2.1 62 = .ok (.iconst 1, 1) := by decide +kernel
theorem mj_d_88_63 : decode mj_m_88.2.1 63 = .ok (.iadd, 1) := by decide +kernel
theorem mj_d_88_64 : decode mj_m_88.2.1 64 = .ok (.putfield 39, 3) := by decide +kernel
theorem mj_d_88_67 : decode mj_m_88.2.1 67 = .ok (.iinc 5 1, 3) := by decide +kernel
theorem mj_d_88_70 : decode mj_m_88.2.1 70 = .ok (.goto (-62), 3) := by decide +kernel
theorem mj_d_88_73 : decode mj_m_88.2.1 73 = .ok (.return_, 1) := by decide +kernel
theorem mj_d_89_0 : decode mj_m_89.2.1 0 = .ok (.iconst 0, 1) := by decide +kernel
theorem mj_d_89_1 : decode mj_m_89.2.1 1 = .ok (.istore 4, 2) := by decide +kernel
theorem mj_d_89_3 : decode mj_m_89.2.1 3 = .ok (.iconst 0, 1) := by decide +kernel
theorem mj_d_89_4 : decode mj_m_89.2.1 4 = .ok (.istore 5, 2) := by decide +kernel
theorem mj_d_89_6 : decode mj_m_89.2.1 6 = .ok (.iload 5, 2) := by decide +kernel
theorem mj_d_89_8 : decode mj_m_89.2.1 8 = .ok (.aload_n 3, 1) := by decide +kernel
theorem mj_d_89_9 : decode mj_m_89.2.1 9 = .ok (.getfield 70, 3) := by decide +kernel
theorem mj_d_89_12 : decode mj_m_89.2.1 12 = .ok (.if_icmp .ge 35, 3) := by decide +kernel
theorem mj_d_89_15 : decode mj_m_89.2.1 15 = .ok (.iload 5, 2) := by decide +kernel
theorem mj_d_89_17 : decode mj_m_89.2.1 17 = .ok (.iload_n 1, 1) := by decide +kernel
theorem mj_d_89_18 : decode mj_m_89.2.1 18 = .ok (.if_icmp .eq 23, 3) := by decide +kernel
theorem mj_d_89_21 : decode mj_m_89.2.1 21 = .ok (.aload_n 2, 1) := by decide +kernel
theorem mj_d_89_22 : decode mj_m_89.2.1 22 = .ok (.iload 5, 2) := by decide +kernel
theorem mj_d_89_24 : decode mj_m_89.2.1 24 = .ok (.iload_n 1, 1) := by decide +kernel
theorem mj_d_89_25 : decode mj_m_89.2.1 25 = .ok (.iload_n 0, 1) := by decide +kernel
theorem mj_d_89_26 : decode mj_m_89.2.1 26 = .ok (.invokevirtual 73, 3) := by decide +kernel
theorem mj_d_89_29 : decode mj_m_89.2.1 29 = .ok (.ifCond .eq 12, 3) := by decide +kernel
theorem mj_d_89_32 : decode mj_m_89.2.1 32 = .ok (.iload 4, 2) := by decide +kernel
theorem mj_d_89_34 : decode mj_m_89.2.1 34 = .ok (.iconst 1, 1) := by decide +kernel
theorem mj_d_89_35 : decode mj_m_89.2.1 35 = .ok (.iload 5, 2) := by decide +kernel
theorem mj_d_89_37 : decode mj_m_89.2.1 37 = .ok (.ishl, 1) := by decide +kernel
theorem mj_d_89_38 : decode mj_m_89.2.1 38 = .ok (.ior, 1) := by decide +kernel
theorem mj_d_89_39 : decode mj_m_89.2.1 39 = .ok (.istore 4, 2) := by decide +kernel
theorem mj_d_89_41 : decode mj_m_89.2.1 41 = .ok (.iinc 5 1, 3) := by decide +kernel
theorem mj_d_89_44 : decode mj_m_89.2.1 44 = .ok (.goto (-38), 3) := by decide +kernel
theorem mj_d_89_47 : decode mj_m_89.2.1 47 = .ok (.iload 4, 2) := by decide +kernel
theorem mj_d_89_49 : decode mj_m_89.2.1 49 = .ok (.ireturn, 1) := by decide +kernel
theorem mj_d_90_0 : decode mj_m_90.2.1 0 = .ok (.aload_n 0, 1) := by decide +kernel
theorem mj_d_90_1 : decode mj_m_90.2.1 1 = .ok (.iconst 1, 1) := by decide +kernel
theorem mj_d_90_2 : decode mj_m_90.2.1 2 = .ok (.putfield 46, 3) := by decide +kernel
theorem mj_d_90_5 : decode mj_m_90.2.1 5 = .ok (.aload_n 0, 1) := by decide +kernel
theorem mj_d_90_6 : decode mj_m_90.2.1 6 = .ok (.getfield 24, 3) := by decide +kernel
theorem mj_d_90_9 : decode mj_m_90.2.1 9 = .ok (.iconst 0, 1) := by decide +kernel
theorem mj_d_90_10 : decode mj_m_90.2.1 10 = .ok (.iconst 0, 1) := by decide +kernel
theorem mj_d_90_11 : decode mj_m_90.2.1 11 = .ok (.iastore, 1) := by decide +kernel
theorem mj_d_90_12 : decode mj_m_90.2.1 12 = .ok (.iconst 0, 1) := by decide +kernel
theorem mj_d_90_13 : decode mj_m_90.2.1 13 = .ok (.istore 5, 2) := by decide +kernel
theorem mj_d_90_15 : decode mj_m_90.2.1 15 = .ok (.iload 5, 2) := by decide +kernel
theorem mj_d_90_17 : decode mj_m_90.2.1 17 = .ok (.aload 4, 2) := by decide +kernel
theorem mj_d_90_19 : decode mj_m_90.2.1 19 = .ok (.getfield 70, 3) := by decide +kernel
theorem mj_d_90_22 : decode mj_m_90.2.1 22 = .ok (.if_icmp .ge 141, 3) := by decide +kernel
theorem mj_d_90_25 : decode mj_m_90.2.1 25 = .ok (.aload_n 3, 1) := by decide +kernel
theorem mj_d_90_26 : decode mj_m_90.2.1 26 = .ok (.getfield 30, 3) := by decide +kernel
theorem mj_d_90_29 : decode mj_m_90.2.1 29 = .ok (.iload_n 1, 1) := by decide +kernel
theorem mj_d_90_30 : decode mj_m_90.2.1 30 = .ok (.iaload, 1) := by decide +kernel
theorem mj_d_90_31 : decode mj_m_90.2.1 31 = .ok (.aload_n 3, 1) := by decide +kernel
theorem mj_d_90_32 : decode mj_m_90.2.1 32 = .ok (.getfield 30, 3) := by decide +kernel
theorem mj_d_90_35 : decode mj_m_90.2.1 35 = .ok (.iload 5, 2) := by decide +kernel
theorem mj_d_90_37 : decode mj_m_90.2.1 37 = .ok (.iaload, 1) := by decide +kernel
theorem mj_d_90_38 : decode mj_m_90.2.1 38 = .ok (.iconst (-1), 1) := by decide +kernel
theorem mj_d_90_39 : decode mj_m_90.2.1 39 = .ok (.ixor, 1) := by decide +kernel
theorem mj_d_90_40 : decode mj_m_90.2.1 40 = .ok (.iand, 1) := by decide +kernel
theorem mj_d_90_41 : decode mj_m_90.2.1 41 = .ok (.invokestatic 77, 3) := by decide +kernel
theorem mj_d_90_44 : decode mj_m_90.2.1 44 = .ok (.istore 6, 2) := by decide +kernel
theorem mj_d_90_46 : decode mj_m_90.2.1 46 = .ok (.iload_n 2, 1) := by decide +kernel
theorem mj_d_90_47 : decode mj_m_90.2.1 47 = .ok (.aload_n 3, 1) := by decide +kernel
theorem mj_d_90_48 : decode mj_m_90.2.1 48 = .ok (.getfield 30, 3) := by decide +kernel
theorem mj_d_90_51 : decode mj_m_90.2.1 51 = .ok (.iload 5, 2) := by decide +kernel
theorem mj_d_90_53 : decode mj_m_90.2.1 53 = .ok (.iaload, 1) := by decide +kernel
theorem mj_d_90_54 : decode mj_m_90.2.1 54 = .ok (.iand, 1) := by decide +kernel
theorem mj_d_90_55 : decode mj_m_90.2.1 55 = .ok (.invokestatic 77, 3) := by decide +kernel
theorem mj_d_90_58 : decode mj_m_90.2.1 58 = .ok (.istore 7, 2) := by decide +kernel
theorem mj_d_90_60 : decode mj_m_90.2.1 60 = .ok (.aload_n 0, 1) := by decide +kernel
theorem mj_d_90_61 : decode mj_m_90.2.1 61 = .ok (.getfield 18, 3) := by decide +kernel
theorem mj_d_90_64 : decode mj_m_90.2.1 64 = .ok (.iload 5, 2) := by decide +kernel
theorem mj_d_90_66 : decode mj_m_90.2.1 66 = .ok (.iload 6, 2) := by decide +kernel
theorem mj_d_90_68 : decode mj_m_90.2.1 68 = .ok (.iload 7, 2) := by decide +kernel
theorem mj_d_90_70 : decode mj_m_90.2.1 70 = .ok (.invokestatic 83, 3) := by decide +kernel
theorem mj_d_90_73 : decode mj_m_90.2.1 73 = .ok (.iastore, 1) := by decide +kernel
theorem mj_d_90_74 : decode mj_m_90.2.1 74 = .ok (.aload_n 0, 1) := by decide +kernel
theorem mj_d_90_75 : decode mj_m_90.2.1 75 = .ok (.getfield 21, 3) := by decide +kernel
theorem mj_d_90_78 : decode mj_m_90.2.1 78 = .ok (.iload 5, 2) := by decide +kernel
theorem mj_d_90_80 : decode mj_m_90.2.1 80 = .ok (.aload_n 0, 1) := by decide +kernel
theorem mj_d_90_81 : decode mj_m_90.2.1 81 = .ok (.getfield 46, 3) := by decide +kernel
theorem mj_d_90_84 : decode mj_m_90.2.1 84 = .ok (.iastore, 1) := by decide +kernel
theorem mj_d_90_85 : decode mj_m_90.2.1 85 = .ok (.aload_n 0, 1) := by decide +kernel
theorem mj_d_90_86 : decode mj_m_90.2.1 86 = .ok (.aload_n 0, 1) := by decide +kernel
theorem mj_d_90_87 : decode mj_m_90.2.1 87 = .ok (.getfield 46, 3) := by decide +kernel
theorem mj_d_90_90 : decode mj_m_90.2.1 90 = .ok (.aload_n 0, 1) := by decide +kernel
theorem mj_d_90_91 : decode mj_m_90.2.1 91 = .ok (.getfield 18, 3) := by decide +kernel
theorem mj_d_90_94 : decode mj_m_90.2.1 94 = .ok (.iload 5, 2) := by decide +kernel
theorem mj_d_90_96 : decode mj_m_90.2.1 96 = .ok (.iaload, 1) := by decide +kernel
theorem mj_d_90_97 : decode mj_m_90.2.1 97 = .ok (.iconst 1, 1) := by decide +kernel
theorem mj_d_90_98 : decode mj_m_90.2.1 98 = .ok (.iadd, 1) := by decide +kernel
theorem mj_d_90_99 : decode mj_m_90.2.1 99 = .ok (.imul, 1) := by decide +kernel
theorem mj_d_90_100 : decode mj_m_90.2.1 100 = .ok (.sipush 625, 3) := by decide +kernel
theorem mj_d_90_103 : decode mj_m_90.2.1 103 = .ok (.invokestatic 83, 3) := by decide +kernel
theorem mj_d_90_106 : decode mj_m_90.2.1 106 = .ok (.putfield 46, 3) := by decide +kernel
theorem mj_d_90_109 : decode mj_m_90.2.1 109 = .ok (.aload_n 0, 1) := by decide +kernel
theorem mj_d_90_110 : decode mj_m_90.2.1 110 = .ok (.getfield 21, 3) := by decide +kernel
theorem mj_d_90_113 : decode mj_m_90.2.1 113 = .ok (.iload 5, 2) := by decide +kernel
theorem mj_d_90_115 : decode mj_m_90.2.1 115 = .ok (.iaload, 1) := by decide +kernel
theorem mj_d_90_116 : decode mj_m_90.2.1 116 = .ok (.istore 8, 2) := by decide +kernel
theorem mj_d_90_118 : decode mj_m_90.2.1 118 = .ok (.iload 8, 2) := by decide +kernel
theorem mj_d_90_120 : decode mj_m_90.2.1 120 = .ok (.aload_n 0, 1) := by decide +kernel
theorem mj_d_90_121 : decode mj_m_90.2.1 121 = .ok (.getfield 46, 3) := by decide +kernel
theorem mj_d_90_124 : decode mj_m_90.2.1 124 = .ok (.if_icmp .ge 33, 3) := by decide +kernel
theorem mj_d_90_127 : decode mj_m_90.2.1 127 = .ok (.aload_n 0, 1) := by decide +kernel
theorem mj_d_90_128 : decode mj_m_90.2.1 128 = .ok (.getfield 24, 3) := by decide +kernel
theorem mj_d_90_131 : decode mj_m_90.2.1 131 = .ok (.iload 8, 2) := by decide +kernel
theorem mj_d_90_133 : decode mj_m_90.2.1 133 = .ok (.aload_n 0, 1) := by decide +kernel
theorem mj_d_90_134 : decode mj_m_90.2.1 134 = .ok (.getfield 24, 3) := by decide +kernel
theorem mj_d_90_137 : decode mj_m_90.2.1 137 = .ok (.iload 8, 2) := by decide +kernel
theorem mj_d_90_139 : decode mj_m_90.2.1 139 = .ok (.aload_n 0, 1) := by decide +kernel
theorem mj_d_90_140 : decode mj_m_90.2.1 140 = .ok (.getfield 21, 3) := by decide +kernel
theorem mj_d_90_143 : decode mj_m_90.2.1 143 = .ok (.iload 5, 2) := by decide +kernel
theorem mj_d_90_145 : decode mj_m_90.2.1 145 = .ok (.iaload, 1) := by decide +kernel
theorem mj_d_90_146 : decode mj_m_90.2.1 146 = .ok (.isub, 1) := by decide +kernel
theorem mj_d_90_147 : decode mj_m_90.2.1 147 = .ok (.iaload, 1) := by decide +kernel
theorem mj_d_90_148 : decode mj_m_90.2.1 148 = .ok (.iconst 1, 1) := by decide +kernel
theorem mj_d_90_149 : decode mj_m_90.2.1 149 = .ok (.iadd, 1) := by decide +kernel
theorem mj_d_90_150 : decode mj_m_90.2.1 150 = .ok (.iastore, 1) := by decide +kernel
theorem mj_d_90_151 : decode mj_m_90.2.1 151 = .ok (.iinc 8 1, 3) := by decide +kernel
theorem mj_d_90_154 : decode mj_m_90.2.1 154 = .ok (.goto (-36), 3) := by decide +kernel
theorem mj_d_90_157 : decode mj_m_90.2.1 157 = .ok (.iinc 5 1, 3) := by decide +kernel
theorem mj_d_90_160 : decode mj_m_90.2.1 160 = .ok (.goto (-145), 3) := by decide +kernel
theorem mj_d_90_163 : decode mj_m_90.2.1 163 = .ok (.return_, 1) := by decide +kernel
theorem mj_d_92_0 : decode mj_m_92.2.1 0 = .ok (.iconst 0, 1) := by decide +kernel
theorem mj_d_92_1 : decode mj_m_92.2.1 1 = .ok (.istore_n 3, 1) := by decide +kernel
theorem mj_d_92_2 : decode mj_m_92.2.1 2 = .ok (.iload_n 3, 1) := by decide +kernel
theorem mj_d_92_3 : decode mj_m_92.2.1 3 = .ok (.aload_n 0, 1) := by decide +kernel
theorem mj_d_92_4 : decode mj_m_92.2.1 4 = .ok (.getfield 46, 3) := by decide +kernel
theorem mj_d_92_7 : decode mj_m_92.2.1 7 = .ok (.if_icmp .ge 46, 3) := by decide +kernel
theorem mj_d_92_10 : decode mj_m_92.2.1 10 = .ok (.aload_n 0, 1) := by decide +kernel
theorem mj_d_92_11 : decode mj_m_92.2.1 11 = .ok (.getfield 24, 3) := by decide +kernel
theorem mj_d_92_14 : decode mj_m_92.2.1 14 = .ok (.iload_n 3, 1) := by decide +kernel
theorem mj_d_92_15 : decode mj_m_92.2.1 15 = .ok (.iaload, 1) := by decide +kernel
theorem mj_d_92_16 : decode mj_m_92.2.1 16 = .ok (.iload_n 1, 1) := by decide +kernel
theorem mj_d_92_17 : decode mj_m_92.2.1 17 = .ok (.if_icmp .gt 30, 3) := by decide +kernel
theorem mj_d_92_20 : decode mj_m_92.2.1 20 = .ok (.aload_n 0, 1) := by decide +kernel
theorem mj_d_92_21 : decode mj_m_92.2.1 21 = .ok (.getfield 27, 3) := by decide +kernel
theorem mj_d_92_24 : decode mj_m_92.2.1 24 = .ok (.iload_n 1, 1) := by decide +kernel
theorem mj_d_92_25 : decode mj_m_92.2.1 25 = .ok (.aload_n 0, 1) := by decide +kernel
theorem mj_d_92_26 : decode mj_m_92.2.1 26 = .ok (.getfield 46, 3) := by decide +kernel
theorem mj_d_92_29 : decode mj_m_92.2.1 29 = .ok (.imul, 1) := by decide +kernel
theorem mj_d_92_30 : decode mj_m_92.2.1 30 = .ok (.iload_n 3, 1) := by decide +kernel
theorem mj_d_92_31 : decode mj_m_92.2.1 31 = .ok (.iadd, 1) := by decide +kernel
theorem mj_d_92_32 : decode mj_m_92.2.1 32 = .ok (.aload_n 0, 1) := by decide +kernel
theorem mj_d_92_33 : decode mj_m_92.2.1 33 = .ok (.aload_n 0, 1) := by decide +kernel
theorem mj_d_92_34 : decode mj_m_92.2.1 34 = .ok (.iload_n 1, 1) := by decide +kernel
theorem mj_d_92_35 : decode mj_m_92.2.1 35 = .ok (.iload_n 3, 1) := by decide +kernel
theorem mj_d_92_36 : decode mj_m_92.2.1 36 = .ok (.aload_n 2, 1) := by decide +kernel
theorem mj_d_92_37 : decode mj_m_92.2.1 37 = .ok (.invokevirtual 53, 3) := by decide +kernel
theorem mj_d_92_40 : decode mj_m_92.2.1 40 = .ok (.iload_n 1, 1) := by decide +kernel
theorem mj_d_92_41 : decode mj_m_92.2.1 41 = .ok (.iload_n 3, 1) := by decide +kernel
theorem mj_d_92_42 : decode mj_m_92.2.1 42 = .ok (.aload_n 2, 1) := by decide +kernel
theorem mj_d_92_43 : decode mj_m_92.2.1 43 = .ok (.invokevirtual 89, 3) := by decide +kernel
theorem mj_d_92_46 : decode mj_m_92.2.1 46 = .ok (.iastore, 1) := by decide +kernel
theorem mj_d_92_47 : decode mj_m_92.2.1 47 = .ok (.iinc 3 1, 3) := by decide +kernel
theorem mj_d_92_50 : decode mj_m_92.2.1 50 = .ok (.goto (-48), 3) := by decide +kernel
theorem mj_d_92_53 : decode mj_m_92.2.1 53 = .ok (.return_, 1) := by decide +kernel
theorem mj_d_93_0 : decode mj_m_93.2.1 0 = .ok (.iconst 0, 1) := by decide +kernel
theorem mj_d_93_1 : decode mj_m_93.2.1 1 = .ok (.istore 4, 2) := by decide +kernel
theorem mj_d_93_3 : decode mj_m_93.2.1 3 = .ok (.sipush 1000, 3) := by decide +kernel
theorem mj_d_93_6 : decode mj_m_93.2.1 6 = .ok (.istore 5, 2) := by decide +kernel
theorem mj_d_93_8 : decode mj_m_93.2.1 8 = .ok (.iconst 0, 1) := by decide +kernel
theorem mj_d_93_9 : decode mj_m_93.2.1 9 = .ok (.istore 6, 2) := by decide +kernel
theorem mj_d_93_11 : decode mj_m_93.2.1 11 = .ok (.iload 6, 2) := by decide +kernel
theorem mj_d_93_13 : decode mj_m_93.2.1 13 = .ok (.aload_n 3, 1) := by decide +kernel
theorem mj_d_93_14 : decode mj_m_93.2.1 14 = .ok (.getfield 70, 3) := by decide +kernel
theorem mj_d_93_17 : decode mj_m_93.2.1 17 = .ok (.if_icmp .ge 50, 3) := by decide +kernel
theorem mj_d_93_20 : decode mj_m_93.2.1 20 = .ok (.aload_n 0, 1) := by decide +kernel
theorem mj_d_93_21 : decode mj_m_93.2.1 21 = .ok (.getfield 15, 3) := by decide +kernel
theorem mj_d_93_24 : decode mj_m_93.2.1 24 = .ok (.iload_n 1, 1) := by decide +kernel
theorem mj_d_93_25 : decode mj_m_93.2.1 25 = .ok (.iaload, 1) := by decide +kernel
theorem mj_d_93_26 : decode mj_m_93.2.1 26 = .ok (.iload 6, 2) := by decide +kernel
theorem mj_d_93_28 : decode mj_m_93.2.1 28 = .ok (.ishr, 1) := by decide +kernel
theorem mj_d_93_29 : decode mj_m_93.2.1 29 = .ok (.iconst 1, 1) := by decide +kernel
theorem mj_d_93_30 : decode mj_m_93.2.1 30 = .ok (.iand, 1) := by decide +kernel
theorem mj_d_93_31 : decode mj_m_93.2.1 31 = .ok (.iconst 1, 1) := by decide +kernel
theorem mj_d_93_32 : decode mj_m_93.2.1 32 = .ok (.if_icmp .ne 29, 3) := by decide +kernel
theorem mj_d_93_35 : decode mj_m_93.2.1 35 = .ok (.aload_n 0, 1) := by decide +kernel
theorem mj_d_93_36 : decode mj_m_93.2.1 36 = .ok (.iload 6, 2) := by decide +kernel
theorem mj_d_93_38 : decode mj_m_93.2.1 38 = .ok (.iload_n 1, 1) := by decide +kernel
theorem mj_d_93_39 : decode mj_m_93.2.1 39 = .ok (.iload_n 2, 1) := by decide +kernel
theorem mj_d_93_40 : decode mj_m_93.2.1 40 = .ok (.aload_n 3, 1) := by decide +kernel
theorem mj_d_93_41 : decode mj_m_93.2.1 41 = .ok (.invokevirtual 89, 3) := by decide +kernel
theorem mj_d_93_44 : decode mj_m_93.2.1 44 = .ok (.istore 7, 2) := by decide +kernel
theorem mj_d_93_46 : decode mj_m_93.2.1 46 = .ok (.iload 7, 2) := by decide +kernel
theorem mj_d_93_48 : decode mj_m_93.2.1 48 = .ok (.iload 5, 2) := by decide +kernel
theorem mj_d_93_50 : decode mj_m_93.2.1 50 = .ok (.if_icmp .ge 11, 3) := by decide +kernel
theorem mj_d_93_53 : decode mj_m_93.2.1 53 = .ok (.iload 7, 2) := by decide +kernel
theorem mj_d_93_55 : decode mj_m_93.2.1 55 = .ok (.istore 5, 2) := by decide +kernel
theorem mj_d_93_57 : decode mj_m_93.2.1 57 = .ok (.iload 6, 2) := by decide +kernel
theorem mj_d_93_59 : decode mj_m_93.2.1 59 = .ok (.istore 4, 2) := by decide +kernel
theorem mj_d_93_61 : decode mj_m_93.2.1 61 = .ok (.iinc 6 1, 3) := by decide +kernel
theorem mj_d_93_64 : decode mj_m_93.2.1 64 = .ok (.goto (-53), 3) := by decide +kernel
theorem mj_d_93_67 : decode mj_m_93.2.1 67 = .ok (.iload 4, 2) := by decide +kernel
theorem mj_d_93_69 : decode mj_m_93.2.1 69 = .ok (.ireturn, 1) := by decide +kernel
theorem mj_d_94_0 : decode mj_m_94.2.1 0 = .ok (.iload_n 2, 1) := by decide +kernel
theorem mj_d_94_1 : decode mj_m_94.2.1 1 = .ok (.iconst 1, 1) := by decide +kernel
theorem mj_d_94_2 : decode mj_m_94.2.1 2 = .ok (.iadd, 1) := by decide +kernel
theorem mj_d_94_3 : decode mj_m_94.2.1 3 = .ok (.aload_n 0, 1) := by decide +kernel
theorem mj_d_94_4 : decode mj_m_94.2.1 4 = .ok (.getfield 46, 3) := by decide +kernel
theorem mj_d_94_7 : decode mj_m_94.2.1 7 = .ok (.imul, 1) := by decide +kernel
theorem mj_d_94_8 : decode mj_m_94.2.1 8 = .ok (.iload_n 3, 1) := by decide +kernel
theorem mj_d_94_9 : decode mj_m_94.2.1 9 = .ok (.iadd, 1) := by decide +kernel
theorem mj_d_94_10 : decode mj_m_94.2.1 10 = .ok (.istore 5, 2) := by decide +kernel
theorem mj_d_94_12 : decode mj_m_94.2.1 12 = .ok (.aload_n 0, 1) := by decide +kernel
theorem mj_d_94_13 : decode mj_m_94.2.1 13 = .ok (.iload_n 1, 1) := by decide +kernel
theorem mj_d_94_14 : decode mj_m_94.2.1 14 = .ok (.iload_n 3, 1) := by decide +kernel
theorem mj_d_94_15 : decode mj_m_94.2.1 15 = .ok (.invokevirtual 57, 3) := by decide +kernel
theorem mj_d_94_18 : decode mj_m_94.2.1 18 = .ok (.ifCond .eq 20, 3) := by decide +kernel
theorem mj_d_94_21 : decode mj_m_94.2.1 21 = .ok (.aload_n 0, 1) := by decide +kernel
theorem mj_d_94_22 : decode mj_m_94.2.1 22 = .ok (.getfield 27, 3) := by decide +kernel
theorem mj_d_94_25 : decode mj_m_94.2.1 25 = .ok (.iload 5, 2) := by decide +kernel
theorem mj_d_94_27 : decode mj_m_94.2.1 27 = .ok (.aload_n 0, 1) := by decide +kernel
theorem mj_d_94_28 : decode mj_m_94.2.1 28 = .ok (.getfield 21, 3) := by decide +kernel
theorem mj_d_94_31 : decode mj_m_94.2.1 31 = .ok (.iload_n 1, 1) := by decide +kernel
theorem mj_d_94_32 : decode mj_m_94.2.1 32 = .ok (.iaload, 1) := by decide +kernel
theorem mj_d_94_33 : decode mj_m_94.2.1 33 = .ok (.iadd, 1) := by decide +kernel
theorem mj_d_94_34 : decode mj_m_94.2.1 34 = .ok (.iaload, 1) := by decide +kernel
theorem mj_d_94_35 : decode mj_m_94.2.1 35 = .ok (.goto 18, 3) := by decide +kernel
theorem mj_d_94_38 : decode mj_m_94.2.1 38 = .ok (.aload 4, 2) := by decide +kernel
theorem mj_d_94_40 : decode mj_m_94.2.1 40 = .ok (.getfield 93, 3) := by decide +kernel
theorem mj_d_94_43 : decode mj_m_94.2.1 43 = .ok (.iload_n 1, 1) := by decide +kernel
theorem mj_d_94_44 : decode mj_m_94.2.1 44 = .ok (.iaload, 1) := by decide +kernel
theorem mj_d_94_45 : decode mj_m_94.2.1 45 = .ok (.aload_n 0, 1) := by decide +kernel
theorem mj_d_94_46 : decode mj_m_94.2.1 46 = .ok (.getfield 27, 3) := by decide +kernel
theorem mj_d_94_49 : decode mj_m_94.2.1 49 = .ok (.iload 5, 2) := by decide +kernel
theorem mj_d_94_51 : decode mj_m_94.2.1 51 = .ok (.iaload, 1) := by decide +kernel
theorem mj_d_94_52 : decode mj_m_94.2.1 52 = .ok (.iadd, 1) := by decide +kernel
theorem mj_d_94_53 : decode mj_m_94.2.1 53 = .ok (.ireturn, 1) := by decide +kernel
theorem mj_d_95_0 : decode mj_m_95.2.1 0 = .ok (.aload_n 0, 1) := by decide +kernel
theorem mj_d_95_1 : decode mj_m_95.2.1 1 = .ok (.getfield 18, 3) := by decide +kernel
theorem mj_d_95_4 : decode mj_m_95.2.1 4 = .ok (.iload_n 1, 1) := by decide +kernel
theorem mj_d_95_5 : decode mj_m_95.2.1 5 = .ok (.iaload, 1) := by decide +kernel
theorem mj_d_95_6 : decode mj_m_95.2.1 6 = .ok (.iconst 1, 1) := by decide +kernel
theorem mj_d_95_7 : decode mj_m_95.2.1 7 = .ok (.iadd, 1) := by decide +kernel
theorem mj_d_95_8 : decode mj_m_95.2.1 8 = .ok (.istore_n 3, 1) := by decide +kernel
theorem mj_d_95_9 : decode mj_m_95.2.1 9 = .ok (.aload_n 0, 1) := by decide +kernel
theorem mj_d_95_10 : decode mj_m_95.2.1 10 = .ok (.getfield 21, 3) := by decide +kernel
theorem mj_d_95_13 : decode mj_m_95.2.1 13 = .ok (.iload_n 1, 1) := by decide +kernel
theorem mj_d_95_14 : decode mj_m_95.2.1 14 = .ok (.iaload, 1) := by decide +kernel
theorem mj_d_95_15 : decode mj_m_95.2.1 15 = .ok (.ifCond .le 30, 3) := by decide +kernel
theorem mj_d_95_18 : decode mj_m_95.2.1 18 = .ok (.iload_n 3, 1) := by decide +kernel
theorem mj_d_95_19 : decode mj_m_95.2.1 19 = .ok (.ifCond .le 26, 3) := by decide +kernel
theorem mj_d_95_22 : decode mj_m_95.2.1 22 = .ok (.iload_n 2, 1) := by decide +kernel
theorem mj_d_95_23 : decode mj_m_95.2.1 23 = .ok (.aload_n 0, 1) := by decide +kernel
theorem mj_d_95_24 : decode mj_m_95.2.1 24 = .ok (.getfield 21, 3) := by decide +kernel
theorem mj_d_95_27 : decode mj_m_95.2.1 27 = .ok (.iload_n 1, 1) := by decide +kernel
theorem mj_d_95_28 : decode mj_m_95.2.1 28 = .ok (.iaload, 1) := by decide +kernel
theorem mj_d_95_29 : decode mj_m_95.2.1 29 = .ok (.idiv, 1) := by decide +kernel
theorem mj_d_95_30 : decode mj_m_95.2.1 30 = .ok (.iload_n 3, 1) := by decide +kernel
theorem mj_d_95_31 : decode mj_m_95.2.1 31 = .ok (.irem, 1) := by decide +kernel
theorem mj_d_95_32 : decode mj_m_95.2.1 32 = .ok (.aload_n 0, 1) := by decide +kernel
theorem mj_d_95_33 : decode mj_m_95.2.1 33 = .ok (.getfield 18, 3) := by decide +kernel
theorem mj_d_95_36 : decode mj_m_95.2.1 36 = .ok (.iload_n 1, 1) := by decide +kernel
theorem mj_d_95_37 : decode mj_m_95.2.1 37 = .ok (.iaload, 1) := by decide +kernel
theorem mj_d_95_38 : decode mj_m_95.2.1 38 = .ok (.if_icmp .ge 7, 3) := by decide +kernel
theorem mj_d_95_41 : decode mj_m_95.2.1 41 = .ok (.iconst 1, 1) := by decide +kernel
theorem mj_d_95_42 : decode mj_m_95.2.1 42 = .ok (.goto 4, 3) := by decide +kernel
theorem mj_d_95_45 : decode mj_m_95.2.1 45 = .ok (.iconst 0, 1) := by decide +kernel
theorem mj_d_95_46 : decode mj_m_95.2.1 46 = .ok (.ireturn, 1) := by decide +kernel
theorem mj_d_96_0 : decode mj_m_96.2.1 0 = .ok (.aload_n 0, 1) := by decide +kernel
theorem mj_d_96_1 : decode mj_m_96.2.1 1 = .ok (.getfield 27, 3) := by decide +kernel
theorem mj_d_96_4 : decode mj_m_96.2.1 4 = .ok (.iconst 0, 1) := by decide +kernel
theorem mj_d_96_5 : decode mj_m_96.2.1 5 = .ok (.iaload, 1) := by decide +kernel
theorem mj_d_96_6 : decode mj_m_96.2.1 6 = .ok (.ireturn, 1) := by decide +kernel
theorem mj_d_97_0 : decode mj_m_97.2.1 0 = .ok (.iconst 0, 1) := by decide +kernel
theorem mj_d_97_1 : decode mj_m_97.2.1 1 = .ok (.istore_n 3, 1) := by decide +kernel
theorem mj_d_97_2 : decode mj_m_97.2.1 2 = .ok (.iconst 0, 1) := by decide +kernel
theorem mj_d_97_3 : decode mj_m_97.2.1 3 = .ok (.istore 4, 2) := by decide +kernel
theorem mj_d_97_5 : decode mj_m_97.2.1 5 = .ok (.iload 4, 2) := by decide +kernel
theorem mj_d_97_7 : decode mj_m_97.2.1 7 = .ok (.aload_n 0, 1) := by decide +kernel
theorem mj_d_97_8 : decode mj_m_97.2.1 8 = .ok (.getfield 39, 3) := by decide +kernel
theorem mj_d_97_11 : decode mj_m_97.2.1 11 = .ok (.if_icmp .ge 57, 3) := by decide +kernel
theorem mj_d_97_14 : decode mj_m_97.2.1 14 = .ok (.aload_n 0, 1) := by decide +kernel
theorem mj_d_97_15 : decode mj_m_97.2.1 15 = .ok (.iload 4, 2) := by decide +kernel
theorem mj_d_97_17 : decode mj_m_97.2.1 17 = .ok (.iload_n 3, 1) := by decide +kernel
theorem mj_d_97_18 : decode mj_m_97.2.1 18 = .ok (.aload_n 2, 1) := by decide +kernel
theorem mj_d_97_19 : decode mj_m_97.2.1 19 = .ok (.invokevirtual 53, 3) := by decide +kernel
theorem mj_d_97_22 : decode mj_m_97.2.1 22 = .ok (.istore 5, 2) := by decide +kernel
theorem mj_d_97_24 : decode mj_m_97.2.1 24 = .ok (.aload_n 0, 1) := by decide +kernel
theorem mj_d_97_25 : decode mj_m_97.2.1 25 = .ok (.getfield 11, 3) := by decide +kernel
theorem mj_d_97_28 : decode mj_m_97.2.1 28 = .ok (.iload 4, 2) := by decide +kernel
theorem mj_d_97_30 : decode mj_m_97.2.1 30 = .ok (.iaload, 1) := by decide +kernel
theorem mj_d_97_31 : decode mj_m_97.2.1 31 = .ok (.iload_n 1, 1) := by decide +kernel
theorem mj_d_97_32 : decode mj_m_97.2.1 32 = .ok (.if_icmp .ne 6, 3) := by decide +kernel
theorem mj_d_97_35 : decode mj_m_97.2.1 35 = .ok (.iload 5, 2) := by decide +kernel
theorem mj_d_97_37 : decode mj_m_97.2.1 37 = .ok (.ireturn, 1) := by decide +kernel
theorem mj_d_97_38 : decode mj_m_97.2.1 38 = .ok (.aload_n 0, 1) := by decide +kernel
theorem mj_d_97_39 : decode mj_m_97.2.1 39 = .ok (.iload 5, 2) := by decide +kernel
theorem mj_d_97_41 : decode mj_m_97.2.1 41 = .ok (.iload_n 3, 1) := by decide +kernel
theorem mj_d_97_42 : decode mj_m_97.2.1 42 = .ok (.invokevirtual 57, 3) := by decide +kernel
theorem mj_d_97_45 : decode mj_m_97.2.1 45 = .ok (.ifCond .eq 15, 3) := by decide +kernel
theorem mj_d_97_48 : decode mj_m_97.2.1 48 = .ok (.iload_n 3, 1) := by decide +kernel
theorem mj_d_97_49 : decode mj_m_97.2.1 49 = .ok (.aload_n 0, 1) := by decide +kernel
theorem mj_d_97_50 : decode mj_m_97.2.1 50 = .ok (.getfield 21, 3) := by decide +kernel
theorem mj_d_97_53 : decode mj_m_97.2.1 53 = .ok (.iload 5, 2) := by decide +kernel
theorem mj_d_97_55 : decode mj_m_97.2.1 55 = .ok (.iaload, 1) := by decide +kernel
theorem mj_d_97_56 : decode mj_m_97.2.1 56 = .ok (.iadd, 1) := by decide +kernel
theorem mj_d_97_57 : decode mj_m_97.2.1 57 = .ok (.goto 4, 3) := by decide +kernel
theorem mj_d_97_60 : decode mj_m_97.2.1 60 = .ok (.iload_n 3, 1) := by decide +kernel
theorem mj_d_97_61 : decode mj_m_97.2.1 61 = .ok (.istore_n 3, 1) := by decide +kernel
theorem mj_d_97_62 : decode mj_m_97.2.1 62 = .ok (.iinc 4 1, 3) := by decide +kernel
theorem mj_d_97_65 : decode mj_m_97.2.1 65 = .ok (.goto (-60), 3) := by decide +kernel
theorem mj_d_97_68 : decode mj_m_97.2.1 68 = .ok (.iconst (-1), 1) := by decide +kernel
theorem mj_d_97_69 : decode mj_m_97.2.1 69 = .ok (.ireturn, 1) := by decide +kernel
def dc_Ba_othersWhoKnow_6 (n : Nat) : sg_S → Int → Int → Int → Int → Int := Nat.rec (fun (s : sg_S) l0 l1 l4 l5 => 0) (fun _ ih => fun s l0 l1 l4 l5 => (if (s 8 4) ≤ l5 then l4 else (if l5 = l1 then (ih s l0 l1 l4 (l5 + 1)) else (if (dc_St_canGive s l5 l1 l0) = 0 then (ih s l0 l1 l4 (l5 + 1)) else (ih s l0 l1 (sy_or l4 (sy_shl 1 l5)) (l5 + 1)))))) n
theorem dc_Ba_othersWhoKnow_6_s (n : Nat) (s : sg_S) (l0 l1 l4 l5 : Int) : dc_Ba_othersWhoKnow_6 (n + 1) s l0 l1 l4 l5 = (if (s 8 4) ≤ l5 then l4 else (if l5 = l1 then ((dc_Ba_othersWhoKnow_6 n) s l0 l1 l4 (l5 + 1)) else (if (dc_St_canGive s l5 l1 l0) = 0 then ((dc_Ba_othersWhoKnow_6 n) s l0 l1 l4 (l5 + 1)) else ((dc_Ba_othersWhoKnow_6 n) s l0 l1 (sy_or l4 (sy_shl 1 l5)) (l5 + 1))))) := rfl
def dc_Ba_othersWhoKnow (s : sg_S) (a0 a1 : Int) : Int := (dc_Ba_othersWhoKnow_6 6 s a0 a1 0 0)
set_option maxRecDepth 100000 in
theorem dt_Ba_othersWhoKnow_6 : ∀ (n : Nat) {h : mj_H} (hH : sy_H h) {l0 l1 l4 l5 : Int} (b_l0 : 0 ≤ l0) (t_l0 : l0 ≤ 8) (b_l1 : 0 ≤ l1) (t_l1 : l1 ≤ 4) (b_l4 : 0 ≤ l4) (t_l4 : l4 ≤ 31) (b_l5 : 0 ≤ l5) (t_l5 : l5 ≤ 5) (hm : 5 - l5 < (n : Int)), sy_wp (mj_m_89, 6, [(0, sy_i l0), (1, sy_i l1), (2, .ref 13), (3, .ref 8), (4, sy_i l4), (5, sy_i l5)], [], h) (dq1 h (0) (31) (dc_Ba_othersWhoKnow_6 n (sy_rd h) l0 l1 l4 l5)) := by
  intro n
  induction n with
  | zero =>
    intro h hH l0 l1 l4 l5 b_l0 t_l0 b_l1 t_l1 b_l4 t_l4 b_l5 t_l5 hm
    have n8_4 := hH.bd (a := 8) (k := 4) rfl (by decide) rfl
    exact absurd hm (by omega)
  | succ n ih =>
    intro h hH l0 l1 l4 l5 b_l0 t_l0 b_l1 t_l1 b_l4 t_l4 b_l5 t_l5 hm
    rw [dc_Ba_othersWhoKnow_6_s]
    have n8_4 := hH.bd (a := 8) (k := 4) rfl (by decide) rfl
    refine sy_st (S' := (mj_m_89, 8, [(0, sy_i l0), (1, sy_i l1), (2, .ref 13), (3, .ref 8), (4, sy_i l4), (5, sy_i l5)], [sy_i l5], h)) mj_d_89_6 (fun _ _ => rfl) ?_
    refine sy_st (S' := (mj_m_89, 9, [(0, sy_i l0), (1, sy_i l1), (2, .ref 13), (3, .ref 8), (4, sy_i l4), (5, sy_i l5)], [.ref 8, sy_i l5], h)) mj_d_89_8 (fun _ _ => rfl) ?_
    refine sy_gf mj_d_89_9 rfl rfl (by decide) rfl hH ?_
    intro x1 ex1 bx1 tx1
    replace ex1 : x1 = sy_rd h 8 4 := ex1
    subst ex1
    refine sy_icm mj_d_89_12 rfl ⟨by omega, by omega⟩ ⟨by omega, by omega⟩ (fun (c2 : (sy_rd h 8 4) ≤ l5) => ?_) (fun (c2 : ¬ ((sy_rd h 8 4) ≤ l5)) => ?_)
    · skip
      rw [if_pos c2]
      refine sy_st (S' := (mj_m_89, 49, [(0, sy_i l0), (1, sy_i l1), (2, .ref 13), (3, .ref 8), (4, sy_i l4), (5, sy_i l5)], [sy_i l4], h)) mj_d_89_47 (fun _ _ => rfl) ?_
      exact sy_reti mj_d_89_49 rfl ⟨rfl, rfl, by omega, by omega⟩
    · skip
      rw [if_neg c2]
      refine sy_st (S' := (mj_m_89, 17, [(0, sy_i l0), (1, sy_i l1), (2, .ref 13), (3, .ref 8), (4, sy_i l4), (5, sy_i l5)], [sy_i l5], h)) mj_d_89_15 (fun _ _ => rfl) ?_
      refine sy_st (S' := (mj_m_89, 18, [(0, sy_i l0), (1, sy_i l1), (2, .ref 13), (3, .ref 8), (4, sy_i l4), (5, sy_i l5)], [sy_i l1, sy_i l5], h)) mj_d_89_17 (fun _ _ => rfl) ?_
      refine sy_icm mj_d_89_18 rfl ⟨by omega, by omega⟩ ⟨by omega, by omega⟩ (fun (c3 : l5 = l1) => ?_) (fun (c3 : ¬ (l5 = l1)) => ?_)
      · skip
        rw [if_pos c3]
        refine sy_inc (a := l5) (lv' := [(5, sy_i (l5 + 1)), (0, sy_i l0), (1, sy_i l1), (2, .ref 13), (3, .ref 8), (4, sy_i l4)]) mj_d_89_41 (Nat.le_of_ble_eq_true rfl) rfl rfl ?_
        refine sy_st (S' := (mj_m_89, 6, [(5, sy_i (l5 + 1)), (0, sy_i l0), (1, sy_i l1), (2, .ref 13), (3, .ref 8), (4, sy_i l4)], [], h)) mj_d_89_44 (fun _ _ => rfl) ?_
        refine sy_lv (lv := [(0, sy_i l0), (1, sy_i l1), (2, .ref 13), (3, .ref 8), (4, sy_i l4), (5, sy_i (l5 + 1))]) rfl ⟨rfl, rfl, rfl, rfl, rfl, rfl, trivial⟩ ?_
        exact ih hH (by first | omega | assumption) (by first | omega | assumption) (by first | omega | assumption) (by first | omega | assumption) (by first | omega | assumption) (by first | omega | assumption) (by first | omega | assumption) (by first | omega | assumption) (by omega)
      · skip
        rw [if_neg c3]
        refine sy_st (S' := (mj_m_89, 22, [(0, sy_i l0), (1, sy_i l1), (2, .ref 13), (3, .ref 8), (4, sy_i l4), (5, sy_i l5)], [.ref 13], h)) mj_d_89_21 (fun _ _ => rfl) ?_
        refine sy_st (S' := (mj_m_89, 24, [(0, sy_i l0), (1, sy_i l1), (2, .ref 13), (3, .ref 8), (4, sy_i l4), (5, sy_i l5)], [sy_i l5, .ref 13], h)) mj_d_89_22 (fun _ _ => rfl) ?_
        refine sy_st (S' := (mj_m_89, 25, [(0, sy_i l0), (1, sy_i l1), (2, .ref 13), (3, .ref 8), (4, sy_i l4), (5, sy_i l5)], [sy_i l1, sy_i l5, .ref 13], h)) mj_d_89_24 (fun _ _ => rfl) ?_
        refine sy_st (S' := (mj_m_89, 26, [(0, sy_i l0), (1, sy_i l1), (2, .ref 13), (3, .ref 8), (4, sy_i l4), (5, sy_i l5)], [sy_i l0, sy_i l1, sy_i l5, .ref 13], h)) mj_d_89_25 (fun _ _ => rfl) ?_
        refine sy_cv (M' := mj_m_62) (vs := [.ref 13, sy_i l5, sy_i l1, sy_i l0]) (rest := []) mj_d_89_26 rfl rfl rfl rfl hH rfl rfl ⟨by decide, ⟨Nat.le_of_ble_eq_true rfl, Nat.le_of_ble_eq_true rfl, Nat.le_of_ble_eq_true rfl, Nat.le_of_ble_eq_true rfl, Nat.le_of_ble_eq_true rfl⟩⟩ (dt_St_canGive (a1 := l5) (a2 := l1) (a3 := l0) hH (by omega) (by omega) (by omega) (by omega) (by omega) (by omega)) ?_
        rintro _ _ ⟨rfl, rfl, b4, b4t⟩
        show sy_wp (mj_m_89, 29, [(0, sy_i l0), (1, sy_i l1), (2, .ref 13), (3, .ref 8), (4, sy_i l4), (5, sy_i l5)], [sy_i (dc_St_canGive (sy_rd h) l5 l1 l0)], h) _
        refine sy_ifc mj_d_89_29 rfl ⟨by omega, by omega⟩ (fun (c5 : (dc_St_canGive (sy_rd h) l5 l1 l0) = 0) => ?_) (fun (c5 : ¬ ((dc_St_canGive (sy_rd h) l5 l1 l0) = 0)) => ?_)
        · skip
          rw [if_pos c5]
          refine sy_inc (a := l5) (lv' := [(5, sy_i (l5 + 1)), (0, sy_i l0), (1, sy_i l1), (2, .ref 13), (3, .ref 8), (4, sy_i l4)]) mj_d_89_41 (Nat.le_of_ble_eq_true rfl) rfl rfl ?_
          refine sy_st (S' := (mj_m_89, 6, [(5, sy_i (l5 + 1)), (0, sy_i l0), (1, sy_i l1), (2, .ref 13), (3, .ref 8), (4, sy_i l4)], [], h)) mj_d_89_44 (fun _ _ => rfl) ?_
          refine sy_lv (lv := [(0, sy_i l0), (1, sy_i l1), (2, .ref 13), (3, .ref 8), (4, sy_i l4), (5, sy_i (l5 + 1))]) rfl ⟨rfl, rfl, rfl, rfl, rfl, rfl, trivial⟩ ?_
          exact ih hH (by first | omega | assumption) (by first | omega | assumption) (by first | omega | assumption) (by first | omega | assumption) (by first | omega | assumption) (by first | omega | assumption) (by first | omega | assumption) (by first | omega | assumption) (by omega)
        · skip
          rw [if_neg c5]
          refine sy_st (S' := (mj_m_89, 34, [(0, sy_i l0), (1, sy_i l1), (2, .ref 13), (3, .ref 8), (4, sy_i l4), (5, sy_i l5)], [sy_i l4], h)) mj_d_89_32 (fun _ _ => rfl) ?_
          refine sy_st (S' := (mj_m_89, 35, [(0, sy_i l0), (1, sy_i l1), (2, .ref 13), (3, .ref 8), (4, sy_i l4), (5, sy_i l5)], [sy_i 1, sy_i l4], h)) mj_d_89_34 (fun _ _ => rfl) ?_
          refine sy_st (S' := (mj_m_89, 37, [(0, sy_i l0), (1, sy_i l1), (2, .ref 13), (3, .ref 8), (4, sy_i l4), (5, sy_i l5)], [sy_i l5, sy_i 1, sy_i l4], h)) mj_d_89_35 (fun _ _ => rfl) ?_
          refine sy_ishl mj_d_89_37 ?_
          have q6 := sg_shl5 l5 (by omega) (by omega)
          refine sy_ior mj_d_89_38 ?_
          have q7 := sg_or5 l4 (sy_shl 1 l5) (by omega) (by omega) (by omega) (by omega)
          refine sy_st (S' := (mj_m_89, 41, [(4, sy_i (sy_or l4 (sy_shl 1 l5))), (0, sy_i l0), (1, sy_i l1), (2, .ref 13), (3, .ref 8), (5, sy_i l5)], [], h)) mj_d_89_39 (fun _ _ => rfl) ?_
          refine sy_inc (a := l5) (lv' := [(5, sy_i (l5 + 1)), (4, sy_i (sy_or l4 (sy_shl 1 l5))), (0, sy_i l0), (1, sy_i l1), (2, .ref 13), (3, .ref 8)]) mj_d_89_41 (Nat.le_of_ble_eq_true rfl) rfl rfl ?_
          refine sy_st (S' := (mj_m_89, 6, [(5, sy_i (l5 + 1)), (4, sy_i (sy_or l4 (sy_shl 1 l5))), (0, sy_i l0), (1, sy_i l1), (2, .ref 13), (3, .ref 8)], [], h)) mj_d_89_44 (fun _ _ => rfl) ?_
          refine sy_lv (lv := [(0, sy_i l0), (1, sy_i l1), (2, .ref 13), (3, .ref 8), (4, sy_i (sy_or l4 (sy_shl 1 l5))), (5, sy_i (l5 + 1))]) rfl ⟨rfl, rfl, rfl, rfl, rfl, rfl, trivial⟩ ?_
          exact ih hH (by first | omega | assumption) (by first | omega | assumption) (by first | omega | assumption) (by first | omega | assumption) (by first | omega | assumption) (by first | omega | assumption) (by first | omega | assumption) (by first | omega | assumption) (by omega)
set_option maxRecDepth 100000 in
theorem dt_Ba_othersWhoKnow {h : mj_H} (hH : sy_H h) {a0 a1 : Int} (b_a0 : 0 ≤ a0) (t_a0 : a0 ≤ 8) (b_a1 : 0 ≤ a1) (t_a1 : a1 ≤ 4) : sy_wp (mj_m_89, 0, [(0, sy_i a0), (1, sy_i a1), (2, .ref 13), (3, .ref 8)], [], h) (dq1 h (0) (31) (dc_Ba_othersWhoKnow (sy_rd h) a0 a1)) := by
  unfold dc_Ba_othersWhoKnow
  have n8_4 := hH.bd (a := 8) (k := 4) rfl (by decide) rfl
  refine sy_st (S' := (mj_m_89, 1, [(0, sy_i a0), (1, sy_i a1), (2, .ref 13), (3, .ref 8)], [sy_i 0], h)) mj_d_89_0 (fun _ _ => rfl) ?_
  refine sy_st (S' := (mj_m_89, 3, [(4, sy_i 0), (0, sy_i a0), (1, sy_i a1), (2, .ref 13), (3, .ref 8)], [], h)) mj_d_89_1 (fun _ _ => rfl) ?_
  refine sy_st (S' := (mj_m_89, 4, [(4, sy_i 0), (0, sy_i a0), (1, sy_i a1), (2, .ref 13), (3, .ref 8)], [sy_i 0], h)) mj_d_89_3 (fun _ _ => rfl) ?_
  refine sy_st (S' := (mj_m_89, 6, [(5, sy_i 0), (4, sy_i 0), (0, sy_i a0), (1, sy_i a1), (2, .ref 13), (3, .ref 8)], [], h)) mj_d_89_4 (fun _ _ => rfl) ?_
  refine sy_lv (lv := [(0, sy_i a0), (1, sy_i a1), (2, .ref 13), (3, .ref 8), (4, sy_i 0), (5, sy_i 0)]) rfl ⟨rfl, rfl, rfl, rfl, rfl, rfl, trivial⟩ ?_
  exact dt_Ba_othersWhoKnow_6 6 hH (by first | omega | assumption) (by first | omega | assumption) (by first | omega | assumption) (by first | omega | assumption) (by first | omega | assumption) (by first | omega | assumption) (by first | omega | assumption) (by first | omega | assumption) (by omega)
def dc_Ba_listNeeds_8 (n : Nat) : sg_S → Int → Int → Int → sg_S := Nat.rec (fun (s : sg_S) l1 l2 l5 => s) (fun _ ih => fun s l1 l2 l5 => (if (s 8 3) ≤ l5 then s else (if (sy_and (sy_shr l2 l5) 1) = 1 then (ih (sg_up (sg_up (sg_up s 228 ((s 227 6).toNat) l5) 229 ((s 227 6).toNat) (dc_Ba_othersWhoKnow (sg_up s 228 ((s 227 6).toNat) l5) l5 l1)) 227 6 ((s 227 6) + 1)) l1 l2 (l5 + 1)) else (ih s l1 l2 (l5 + 1))))) n
theorem dc_Ba_listNeeds_8_s (n : Nat) (s : sg_S) (l1 l2 l5 : Int) : dc_Ba_listNeeds_8 (n + 1) s l1 l2 l5 = (if (s 8 3) ≤ l5 then s else (if (sy_and (sy_shr l2 l5) 1) = 1 then ((dc_Ba_listNeeds_8 n) (sg_up (sg_up (sg_up s 228 ((s 227 6).toNat) l5) 229 ((s 227 6).toNat) (dc_Ba_othersWhoKnow (sg_up s 228 ((s 227 6).toNat) l5) l5 l1)) 227 6 ((s 227 6) + 1)) l1 l2 (l5 + 1)) else ((dc_Ba_listNeeds_8 n) s l1 l2 (l5 + 1)))) := rfl
def dc_Ba_listNeeds (s : sg_S) (a1 a2 : Int) : sg_S := (dc_Ba_listNeeds_8 10 (sg_up s 227 6 0) a1 a2 0)
def dw_Ba_listNeeds (a k : Nat) : Bool := (a == 227 && k == 6) || (a == 228) || (a == 229)
theorem dr_Ba_listNeeds_8 (a k : Nat) (h : dw_Ba_listNeeds a k = false) : ∀ (n : Nat) (s : sg_S) (l1 l2 l5 : Int), (dc_Ba_listNeeds_8 n s l1 l2 l5) a k = s a k := by
  have h0 := h
  unfold dw_Ba_listNeeds at h
  simp only [Bool.or_eq_false_iff] at h
  obtain ⟨⟨h1, h2⟩, h3⟩ := h
  intro n
  induction n with
  | zero => intro s l1 l2 l5; rfl
  | succ n ih =>
    intro s l1 l2 l5
    rw [dc_Ba_listNeeds_8_s]
    (repeat' split) <;> simp only [(fun s z => sg_upf (s := s) (z := z) h1), (fun s l z => sg_upa (s := s) (l := l) (z := z) (k := k) h2), (fun s l z => sg_upa (s := s) (l := l) (z := z) (k := k) h3), ih]
theorem dr_Ba_listNeeds (s : sg_S) (a1 a2 : Int) (a k : Nat) (h : dw_Ba_listNeeds a k = false) : (dc_Ba_listNeeds s a1 a2) a k = s a k := by
  have h0 := h
  unfold dw_Ba_listNeeds at h
  simp only [Bool.or_eq_false_iff] at h
  obtain ⟨⟨h1, h2⟩, h3⟩ := h
  unfold dc_Ba_listNeeds
  (repeat' split) <;> simp only [(fun s z => sg_upf (s := s) (z := z) h1), (fun s l z => sg_upa (s := s) (l := l) (z := z) (k := k) h2), (fun s l z => sg_upa (s := s) (l := l) (z := z) (k := k) h3), (dr_Ba_listNeeds_8 a k h0)]
set_option maxRecDepth 100000 in
theorem dt_Ba_listNeeds_8 : ∀ (n : Nat) {h : mj_H} (hH : sy_H h) {l1 l2 l5 : Int} (b_l1 : 0 ≤ l1) (t_l1 : l1 ≤ 4) (b_l2 : (-2147483648) ≤ l2) (t_l2 : l2 ≤ 2147483647) (b_l5 : 0 ≤ l5) (t_l5 : l5 ≤ 9) (i0 : (sy_rd h 227 6) ≤ l5) (hm : 9 - l5 < (n : Int)), sy_wp (mj_m_88, 8, [(0, .ref 227), (1, sy_i l1), (2, sy_i l2), (3, .ref 13), (4, .ref 8), (5, sy_i l5)], [], h) (dq3 (dc_Ba_listNeeds_8 n (sy_rd h) l1 l2 l5)) := by
  intro n
  induction n with
  | zero =>
    intro h hH l1 l2 l5 b_l1 t_l1 b_l2 t_l2 b_l5 t_l5 i0 hm
    have n8_3 := hH.bd (a := 8) (k := 3) rfl (by decide) rfl
    have n227_6 := hH.bd (a := 227) (k := 6) rfl (by decide) rfl
    exact absurd hm (by omega)
  | succ n ih =>
    intro h hH l1 l2 l5 b_l1 t_l1 b_l2 t_l2 b_l5 t_l5 i0 hm
    rw [dc_Ba_listNeeds_8_s]
    have n8_3 := hH.bd (a := 8) (k := 3) rfl (by decide) rfl
    have n227_6 := hH.bd (a := 227) (k := 6) rfl (by decide) rfl
    refine sy_st (S' := (mj_m_88, 10, [(0, .ref 227), (1, sy_i l1), (2, sy_i l2), (3, .ref 13), (4, .ref 8), (5, sy_i l5)], [sy_i l5], h)) mj_d_88_8 (fun _ _ => rfl) ?_
    refine sy_st (S' := (mj_m_88, 12, [(0, .ref 227), (1, sy_i l1), (2, sy_i l2), (3, .ref 13), (4, .ref 8), (5, sy_i l5)], [.ref 8, sy_i l5], h)) mj_d_88_10 (fun _ _ => rfl) ?_
    refine sy_gf mj_d_88_12 rfl rfl (by decide) rfl hH ?_
    intro x1 ex1 bx1 tx1
    replace ex1 : x1 = sy_rd h 8 3 := ex1
    subst ex1
    refine sy_icm mj_d_88_15 rfl ⟨by omega, by omega⟩ ⟨by omega, by omega⟩ (fun (c2 : (sy_rd h 8 3) ≤ l5) => ?_) (fun (c2 : ¬ ((sy_rd h 8 3) ≤ l5)) => ?_)
    · skip
      rw [if_pos c2]
      exact sy_retv mj_d_88_73 rfl ⟨rfl, hH, rfl⟩
    · skip
      rw [if_neg c2]
      refine sy_st (S' := (mj_m_88, 19, [(0, .ref 227), (1, sy_i l1), (2, sy_i l2), (3, .ref 13), (4, .ref 8), (5, sy_i l5)], [sy_i l2], h)) mj_d_88_18 (fun _ _ => rfl) ?_
      refine sy_st (S' := (mj_m_88, 21, [(0, .ref 227), (1, sy_i l1), (2, sy_i l2), (3, .ref 13), (4, .ref 8), (5, sy_i l5)], [sy_i l5, sy_i l2], h)) mj_d_88_19 (fun _ _ => rfl) ?_
      refine sy_ishr mj_d_88_21 ?_
      have q3 := sg_shr_rng l2 l5
      refine sy_st (S' := (mj_m_88, 23, [(0, .ref 227), (1, sy_i l1), (2, sy_i l2), (3, .ref 13), (4, .ref 8), (5, sy_i l5)], [sy_i 1, sy_i (sy_shr l2 l5)], h)) mj_d_88_22 (fun _ _ => rfl) ?_
      refine sy_iand mj_d_88_23 ?_
      have q4 := sg_and_r (sy_shr l2 l5) 1 (by decide) (by decide)
      refine sy_st (S' := (mj_m_88, 25, [(0, .ref 227), (1, sy_i l1), (2, sy_i l2), (3, .ref 13), (4, .ref 8), (5, sy_i l5)], [sy_i 1, sy_i (sy_and (sy_shr l2 l5) 1)], h)) mj_d_88_24 (fun _ _ => rfl) ?_
      refine sy_icm mj_d_88_25 rfl ⟨by omega, by omega⟩ ⟨by omega, by omega⟩ (fun (c5 : ¬ ((sy_and (sy_shr l2 l5) 1) = 1)) => ?_) (fun (c5 : ¬ ¬ ((sy_and (sy_shr l2 l5) 1) = 1)) => ?_)
      · skip
        rw [if_neg c5]
        refine sy_inc (a := l5) (lv' := [(5, sy_i (l5 + 1)), (0, .ref 227), (1, sy_i l1), (2, sy_i l2), (3, .ref 13), (4, .ref 8)]) mj_d_88_67 (Nat.le_of_ble_eq_true rfl) rfl rfl ?_
        refine sy_st (S' := (mj_m_88, 8, [(5, sy_i (l5 + 1)), (0, .ref 227), (1, sy_i l1), (2, sy_i l2), (3, .ref 13), (4, .ref 8)], [], h)) mj_d_88_70 (fun _ _ => rfl) ?_
        refine sy_lv (lv := [(0, .ref 227), (1, sy_i l1), (2, sy_i l2), (3, .ref 13), (4, .ref 8), (5, sy_i (l5 + 1))]) rfl ⟨rfl, rfl, rfl, rfl, rfl, rfl, trivial⟩ ?_
        exact ih hH (by first | omega | assumption) (by first | omega | assumption) (by first | omega | assumption) (by first | omega | assumption) (by first | omega | assumption) (by first | omega | assumption) (by first | omega | (rw [rfl, sg_eq]; omega)) (by omega)
      · skip
        rw [if_pos (Decidable.not_not.mp c5)]
        replace c5 := Decidable.not_not.mp c5
        refine sy_st (S' := (mj_m_88, 29, [(0, .ref 227), (1, sy_i l1), (2, sy_i l2), (3, .ref 13), (4, .ref 8), (5, sy_i l5)], [.ref 227], h)) mj_d_88_28 (fun _ _ => rfl) ?_
        refine sy_gr2 (b := 228) mj_d_88_29 rfl rfl (by decide) rfl rfl hH ?_
        refine sy_st (S' := (mj_m_88, 33, [(0, .ref 227), (1, sy_i l1), (2, sy_i l2), (3, .ref 13), (4, .ref 8), (5, sy_i l5)], [.ref 227, .ref 228], h)) mj_d_88_32 (fun _ _ => rfl) ?_
        refine sy_gf mj_d_88_33 rfl rfl (by decide) rfl hH ?_
        intro x6 ex6 bx6 tx6
        replace ex6 : x6 = sy_rd h 227 6 := ex6
        subst ex6
        refine sy_st (S' := (mj_m_88, 38, [(0, .ref 227), (1, sy_i l1), (2, sy_i l2), (3, .ref 13), (4, .ref 8), (5, sy_i l5)], [sy_i l5, sy_i (sy_rd h 227 6), .ref 228], h)) mj_d_88_36 (fun _ _ => rfl) ?_
        refine sg_ias (v := l5) mj_d_88_38 rfl (by decide) (by omega) (by omega) (ab_el_1 rfl _) hH (by omega) (by omega) ⟨by omega, by omega⟩ ?_
        intro h7 th7 eh7
        refine sy_st (S' := (mj_m_88, 40, [(0, .ref 227), (1, sy_i l1), (2, sy_i l2), (3, .ref 13), (4, .ref 8), (5, sy_i l5)], [.ref 227], h7)) mj_d_88_39 (fun _ _ => rfl) ?_
        refine sy_gr2 (b := 229) mj_d_88_40 rfl rfl (by decide) rfl rfl th7 ?_
        refine sy_st (S' := (mj_m_88, 44, [(0, .ref 227), (1, sy_i l1), (2, sy_i l2), (3, .ref 13), (4, .ref 8), (5, sy_i l5)], [.ref 227, .ref 229], h7)) mj_d_88_43 (fun _ _ => rfl) ?_
        refine sy_gf mj_d_88_44 rfl rfl (by decide) rfl th7 ?_
        intro x8 ex8 bx8 tx8
        replace ex8 : x8 = sy_rd h7 227 6 := ex8
        rw [eh7, sg_na (by decide)] at ex8
        subst ex8
        refine sy_st (S' := (mj_m_88, 49, [(0, .ref 227), (1, sy_i l1), (2, sy_i l2), (3, .ref 13), (4, .ref 8), (5, sy_i l5)], [sy_i l5, sy_i (sy_rd h 227 6), .ref 229], h7)) mj_d_88_47 (fun _ _ => rfl) ?_
        refine sy_st (S' := (mj_m_88, 50, [(0, .ref 227), (1, sy_i l1), (2, sy_i l2), (3, .ref 13), (4, .ref 8), (5, sy_i l5)], [sy_i l1, sy_i l5, sy_i (sy_rd h 227 6), .ref 229], h7)) mj_d_88_49 (fun _ _ => rfl) ?_
        refine sy_st (S' := (mj_m_88, 51, [(0, .ref 227), (1, sy_i l1), (2, sy_i l2), (3, .ref 13), (4, .ref 8), (5, sy_i l5)], [.ref 13, sy_i l1, sy_i l5, sy_i (sy_rd h 227 6), .ref 229], h7)) mj_d_88_50 (fun _ _ => rfl) ?_
        refine sy_st (S' := (mj_m_88, 53, [(0, .ref 227), (1, sy_i l1), (2, sy_i l2), (3, .ref 13), (4, .ref 8), (5, sy_i l5)], [.ref 8, .ref 13, sy_i l1, sy_i l5, sy_i (sy_rd h 227 6), .ref 229], h7)) mj_d_88_51 (fun _ _ => rfl) ?_
        refine sy_cs (M' := mj_m_89) (vs := [sy_i l5, sy_i l1, .ref 13, .ref 8]) (rest := [sy_i (sy_rd h 227 6), .ref 229]) mj_d_88_53 rfl rfl rfl rfl ⟨Nat.le_of_ble_eq_true rfl, Nat.le_of_ble_eq_true rfl, Nat.le_of_ble_eq_true rfl, Nat.le_of_ble_eq_true rfl, Nat.le_of_ble_eq_true rfl⟩ (dt_Ba_othersWhoKnow (a0 := l5) (a1 := l1) th7 (by omega) (by omega) (by omega) (by omega)) ?_
        rintro _ _ ⟨rfl, rfl, b9, b9t⟩
        rw [eh7] at b9 b9t ⊢
        show sy_wp (mj_m_88, 56, [(0, .ref 227), (1, sy_i l1), (2, sy_i l2), (3, .ref 13), (4, .ref 8), (5, sy_i l5)], [sy_i (dc_Ba_othersWhoKnow (sg_up (sy_rd h) 228 ((sy_rd h 227 6).toNat) l5) l5 l1), sy_i (sy_rd h 227 6), .ref 229], h7) _
        refine sg_ias (v := (dc_Ba_othersWhoKnow (sg_up (sy_rd h) 228 ((sy_rd h 227 6).toNat) l5) l5 l1)) mj_d_88_56 rfl (by decide) (by omega) (by omega) (ab_el_1 rfl _) th7 (by omega) (by omega) ⟨by omega, by omega⟩ ?_
        intro h10 th10 eh10
        rw [eh7] at eh10
        refine sy_st (S' := (mj_m_88, 58, [(0, .ref 227), (1, sy_i l1), (2, sy_i l2), (3, .ref 13), (4, .ref 8), (5, sy_i l5)], [.ref 227], h10)) mj_d_88_57 (fun _ _ => rfl) ?_
        refine sy_st (S' := (mj_m_88, 59, [(0, .ref 227), (1, sy_i l1), (2, sy_i l2), (3, .ref 13), (4, .ref 8), (5, sy_i l5)], [.ref 227, .ref 227], h10)) mj_d_88_58 (fun _ _ => rfl) ?_
        refine sy_gf mj_d_88_59 rfl rfl (by decide) rfl th10 ?_
        intro x11 ex11 bx11 tx11
        replace ex11 : x11 = sy_rd h10 227 6 := ex11
        rw [eh10, sg_na (by decide), sg_na (by decide)] at ex11
        subst ex11
        refine sy_st (S' := (mj_m_88, 63, [(0, .ref 227), (1, sy_i l1), (2, sy_i l2), (3, .ref 13), (4, .ref 8), (5, sy_i l5)], [sy_i 1, sy_i (sy_rd h 227 6), .ref 227], h10)) mj_d_88_62 (fun _ _ => rfl) ?_
        refine sy_add mj_d_88_63 ?_
        refine sg_pf (z := ((sy_rd h 227 6) + 1)) mj_d_88_64 rfl rfl (by decide) (Or.inl rfl) rfl th10 (by omega) (by omega) ⟨by omega, by omega⟩ ?_
        intro h12 th12 eh12
        rw [eh10] at eh12
        refine sy_inc (a := l5) (lv' := [(5, sy_i (l5 + 1)), (0, .ref 227), (1, sy_i l1), (2, sy_i l2), (3, .ref 13), (4, .ref 8)]) mj_d_88_67 (Nat.le_of_ble_eq_true rfl) rfl rfl ?_
        refine sy_st (S' := (mj_m_88, 8, [(5, sy_i (l5 + 1)), (0, .ref 227), (1, sy_i l1), (2, sy_i l2), (3, .ref 13), (4, .ref 8)], [], h12)) mj_d_88_70 (fun _ _ => rfl) ?_
        refine sy_lv (lv := [(0, .ref 227), (1, sy_i l1), (2, sy_i l2), (3, .ref 13), (4, .ref 8), (5, sy_i (l5 + 1))]) rfl ⟨rfl, rfl, rfl, rfl, rfl, rfl, trivial⟩ ?_
        rw [← eh12]
        exact ih th12 (by first | omega | assumption) (by first | omega | assumption) (by first | omega | assumption) (by first | omega | assumption) (by first | omega | assumption) (by first | omega | assumption) (by first | omega | (rw [eh12, sg_eq]; omega)) (by omega)
set_option maxRecDepth 100000 in
theorem dt_Ba_listNeeds {h : mj_H} (hH : sy_H h) {a1 a2 : Int} (b_a1 : 0 ≤ a1) (t_a1 : a1 ≤ 4) (b_a2 : (-2147483648) ≤ a2) (t_a2 : a2 ≤ 2147483647) : sy_wp (mj_m_88, 0, [(0, .ref 227), (1, sy_i a1), (2, sy_i a2), (3, .ref 13), (4, .ref 8)], [], h) (dq3 (dc_Ba_listNeeds (sy_rd h) a1 a2)) := by
  unfold dc_Ba_listNeeds
  refine sy_st (S' := (mj_m_88, 1, [(0, .ref 227), (1, sy_i a1), (2, sy_i a2), (3, .ref 13), (4, .ref 8)], [.ref 227], h)) mj_d_88_0 (fun _ _ => rfl) ?_
  refine sy_st (S' := (mj_m_88, 2, [(0, .ref 227), (1, sy_i a1), (2, sy_i a2), (3, .ref 13), (4, .ref 8)], [sy_i 0, .ref 227], h)) mj_d_88_1 (fun _ _ => rfl) ?_
  refine sg_pf (z := 0) mj_d_88_2 rfl rfl (by decide) (Or.inl rfl) rfl hH (by omega) (by omega) ⟨by omega, by omega⟩ ?_
  intro h1 th1 eh1
  refine sy_st (S' := (mj_m_88, 6, [(0, .ref 227), (1, sy_i a1), (2, sy_i a2), (3, .ref 13), (4, .ref 8)], [sy_i 0], h1)) mj_d_88_5 (fun _ _ => rfl) ?_
  refine sy_st (S' := (mj_m_88, 8, [(5, sy_i 0), (0, .ref 227), (1, sy_i a1), (2, sy_i a2), (3, .ref 13), (4, .ref 8)], [], h1)) mj_d_88_6 (fun _ _ => rfl) ?_
  refine sy_lv (lv := [(0, .ref 227), (1, sy_i a1), (2, sy_i a2), (3, .ref 13), (4, .ref 8), (5, sy_i 0)]) rfl ⟨rfl, rfl, rfl, rfl, rfl, rfl, trivial⟩ ?_
  rw [← eh1]
  exact dt_Ba_listNeeds_8 10 th1 (by first | omega | assumption) (by first | omega | assumption) (by first | omega | assumption) (by first | omega | assumption) (by first | omega | assumption) (by first | omega | assumption) (by rw [eh1, sg_eq]; omega) (by omega)
def dc_Ba_listTallies_118 (k15 : sg_S → Int → Int → Int → sg_S) (n : Nat) : sg_S → Int → Int → Int → Int → sg_S := Nat.rec (fun (s : sg_S) l1 l2 l5 l8 => s) (fun _ ih => fun s l1 l2 l5 l8 => (if (s 227 7) ≤ l8 then (k15 s l1 l2 (l5 + 1)) else (ih (sg_up s 232 ((l8).toNat) (sy_w ((s 232 ((l8 - (s 231 ((l5).toNat))).toNat)) + 1))) l1 l2 l5 (l8 + 1)))) n
theorem dc_Ba_listTallies_118_s (k15 : sg_S → Int → Int → Int → sg_S) (n : Nat) (s : sg_S) (l1 l2 l5 l8 : Int) : dc_Ba_listTallies_118 k15 (n + 1) s l1 l2 l5 l8 = (if (s 227 7) ≤ l8 then (k15 s l1 l2 (l5 + 1)) else ((dc_Ba_listTallies_118 k15 n) (sg_up s 232 ((l8).toNat) (sy_w ((s 232 ((l8 - (s 231 ((l5).toNat))).toNat)) + 1))) l1 l2 l5 (l8 + 1))) := rfl
def dc_Ba_listTallies_15 (n : Nat) : sg_S → Int → Int → Int → sg_S := Nat.rec (fun (s : sg_S) l1 l2 l5 => s) (fun _ ih => fun s l1 l2 l5 => (if (s 8 4) ≤ l5 then s else (dc_Ba_listTallies_118 ih 626 (sg_up (sg_up (sg_up s 230 ((l5).toNat) (min (dc_Integer_bitCount s (sy_and (s 17 ((l1).toNat)) (sy_xor (s 17 ((l5).toNat)) (-1)))) (dc_Integer_bitCount s (sy_and l2 (s 17 ((l5).toNat)))))) 231 ((l5).toNat) (s 227 7)) 227 7 (min ((s 227 7) * ((min (dc_Integer_bitCount s (sy_and (s 17 ((l1).toNat)) (sy_xor (s 17 ((l5).toNat)) (-1)))) (dc_Integer_bitCount s (sy_and l2 (s 17 ((l5).toNat))))) + 1)) 625)) l1 l2 l5 (s 227 7)))) n
theorem dc_Ba_listTallies_15_s (n : Nat) (s : sg_S) (l1 l2 l5 : Int) : dc_Ba_listTallies_15 (n + 1) s l1 l2 l5 = (if (s 8 4) ≤ l5 then s else (dc_Ba_listTallies_118 (dc_Ba_listTallies_15 n) 626 (sg_up (sg_up (sg_up s 230 ((l5).toNat) (min (dc_Integer_bitCount s (sy_and (s 17 ((l1).toNat)) (sy_xor (s 17 ((l5).toNat)) (-1)))) (dc_Integer_bitCount s (sy_and l2 (s 17 ((l5).toNat)))))) 231 ((l5).toNat) (s 227 7)) 227 7 (min ((s 227 7) * ((min (dc_Integer_bitCount s (sy_and (s 17 ((l1).toNat)) (sy_xor (s 17 ((l5).toNat)) (-1)))) (dc_Integer_bitCount s (sy_and l2 (s 17 ((l5).toNat))))) + 1)) 625)) l1 l2 l5 (s 227 7))) := rfl
def dc_Ba_listTallies (s : sg_S) (a1 a2 : Int) : sg_S := (dc_Ba_listTallies_15 6 (sg_up (sg_up s 227 7 1) 232 0 0) a1 a2 0)
def dw_Ba_listTallies (a k : Nat) : Bool := (a == 227 && k == 7) || (a == 232) || (a == 230) || (a == 231)
theorem dr_Ba_listTallies_118 (a k : Nat) (h : dw_Ba_listTallies a k = false) {k15 : sg_S → Int → Int → Int → sg_S} (hk15 : ∀ s y0 y1 y2, (k15 s y0 y1 y2) a k = s a k) : ∀ (n : Nat) (s : sg_S) (l1 l2 l5 l8 : Int), (dc_Ba_listTallies_118 k15 n s l1 l2 l5 l8) a k = s a k := by
  have h0 := h
  unfold dw_Ba_listTallies at h
  simp only [Bool.or_eq_false_iff] at h
  obtain ⟨⟨⟨h1, h2⟩, h3⟩, h4⟩ := h
  intro n
  induction n with
  | zero => intro s l1 l2 l5 l8; rfl
  | succ n ih =>
    intro s l1 l2 l5 l8
    rw [dc_Ba_listTallies_118_s]
    (repeat' split) <;> simp only [(fun s z => sg_upf (s := s) (z := z) h1), (fun s l z => sg_upa (s := s) (l := l) (z := z) (k := k) h2), (fun s l z => sg_upa (s := s) (l := l) (z := z) (k := k) h3), (fun s l z => sg_upa (s := s) (l := l) (z := z) (k := k) h4), ih, hk15]
theorem dr_Ba_listTallies_15 (a k : Nat) (h : dw_Ba_listTallies a k = false) : ∀ (n : Nat) (s : sg_S) (l1 l2 l5 : Int), (dc_Ba_listTallies_15 n s l1 l2 l5) a k = s a k := by
  have h0 := h
  unfold dw_Ba_listTallies at h
  simp only [Bool.or_eq_false_iff] at h
  obtain ⟨⟨⟨h1, h2⟩, h3⟩, h4⟩ := h
  intro n
  induction n with
  | zero => intro s l1 l2 l5; rfl
  | succ n ih =>
    intro s l1 l2 l5
    rw [dc_Ba_listTallies_15_s]
    (repeat' split) <;> simp only [(fun s z => sg_upf (s := s) (z := z) h1), (fun s l z => sg_upa (s := s) (l := l) (z := z) (k := k) h2), (fun s l z => sg_upa (s := s) (l := l) (z := z) (k := k) h3), (fun s l z => sg_upa (s := s) (l := l) (z := z) (k := k) h4), ih, (dr_Ba_listTallies_118 a k h0 ih)]
theorem dr_Ba_listTallies (s : sg_S) (a1 a2 : Int) (a k : Nat) (h : dw_Ba_listTallies a k = false) : (dc_Ba_listTallies s a1 a2) a k = s a k := by
  have h0 := h
  unfold dw_Ba_listTallies at h
  simp only [Bool.or_eq_false_iff] at h
  obtain ⟨⟨⟨h1, h2⟩, h3⟩, h4⟩ := h
  unfold dc_Ba_listTallies
  (repeat' split) <;> simp only [(fun s z => sg_upf (s := s) (z := z) h1), (fun s l z => sg_upa (s := s) (l := l) (z := z) (k := k) h2), (fun s l z => sg_upa (s := s) (l := l) (z := z) (k := k) h3), (fun s l z => sg_upa (s := s) (l := l) (z := z) (k := k) h4), (dr_Ba_listTallies_15 a k h0)]
set_option maxRecDepth 100000 in
theorem dt_Ba_listTallies_118 {k15 : sg_S → Int → Int → Int → sg_S} {n15 : Nat} (hk15 : ∀ {h1 : mj_H}, sy_H h1 → ∀ {l1 l2 l5 : Int}, 0 ≤ l1 → l1 ≤ 4 → 0 ≤ l2 → l2 ≤ 511 → 0 ≤ l5 → l5 ≤ 5 → ba_mrz (sy_rd h1) l5 → (sy_rd h1 227 7) ≤ ba_cap l5 l1 → sy_and l2 (sy_rd h1 17 (l1).toNat) = 0 → 5 - l5 < (n15 : Int) → sy_wp (mj_m_90, 15, [(0, .ref 227), (1, sy_i l1), (2, sy_i l2), (3, .ref 13), (4, .ref 8), (5, sy_i l5)], [], h1) (dq5 (fun σ => ba_mr σ) (k15 (sy_rd h1) l1 l2 l5))) : ∀ (n : Nat) {h : mj_H} (hH : sy_H h) {l1 l2 l5 l8 : Int} (b_l1 : 0 ≤ l1) (t_l1 : l1 ≤ 4) (b_l2 : 0 ≤ l2) (t_l2 : l2 ≤ 511) (b_l5 : 0 ≤ l5) (t_l5 : l5 ≤ 4) (b_l8 : 0 ≤ l8) (t_l8 : l8 ≤ 625) (i0 : ba_mrz (sy_rd h) (l5 + 1)) (i1 : (sy_rd h 227 7) ≤ ba_cap (l5 + 1) l1) (i2 : sy_and l2 (sy_rd h 17 (l1).toNat) = 0) (i3 : (sy_rd h 231 (l5).toNat) ≤ l8) (i4 : 1 ≤ (sy_rd h 231 (l5).toNat)) (i5 : 5 - (l5 + 1) < (n15 : Int)) (hm : 625 - l8 < (n : Int)), sy_wp (mj_m_90, 118, [(0, .ref 227), (1, sy_i l1), (2, sy_i l2), (3, .ref 13), (4, .ref 8), (5, sy_i l5), (8, sy_i l8)], [], h) (dq5 (fun σ => ba_mr σ) (dc_Ba_listTallies_118 k15 n (sy_rd h) l1 l2 l5 l8)) := by
  intro n
  induction n with
  | zero =>
    intro h hH l1 l2 l5 l8 b_l1 t_l1 b_l2 t_l2 b_l5 t_l5 b_l8 t_l8 i0 i1 i2 i3 i4 i5 hm
    have n227_7 := hH.bd (a := 227) (k := 7) rfl (by decide) rfl
    exact absurd hm (by omega)
  | succ n ih =>
    intro h hH l1 l2 l5 l8 b_l1 t_l1 b_l2 t_l2 b_l5 t_l5 b_l8 t_l8 i0 i1 i2 i3 i4 i5 hm
    rw [dc_Ba_listTallies_118_s]
    have n227_7 := hH.bd (a := 227) (k := 7) rfl (by decide) rfl
    refine sy_st (S' := (mj_m_90, 120, [(0, .ref 227), (1, sy_i l1), (2, sy_i l2), (3, .ref 13), (4, .ref 8), (5, sy_i l5), (8, sy_i l8)], [sy_i l8], h)) mj_d_90_118 (fun _ _ => rfl) ?_
    refine sy_st (S' := (mj_m_90, 121, [(0, .ref 227), (1, sy_i l1), (2, sy_i l2), (3, .ref 13), (4, .ref 8), (5, sy_i l5), (8, sy_i l8)], [.ref 227, sy_i l8], h)) mj_d_90_120 (fun _ _ => rfl) ?_
    refine sy_gf mj_d_90_121 rfl rfl (by decide) rfl hH ?_
    intro x1 ex1 bx1 tx1
    replace ex1 : x1 = sy_rd h 227 7 := ex1
    subst ex1
    refine sy_icm mj_d_90_124 rfl ⟨by omega, by omega⟩ ⟨by omega, by omega⟩ (fun (c2 : (sy_rd h 227 7) ≤ l8) => ?_) (fun (c2 : ¬ ((sy_rd h 227 7) ≤ l8)) => ?_)
    · skip
      rw [if_pos c2]
      refine sy_inc (a := l5) (lv' := [(5, sy_i (l5 + 1)), (0, .ref 227), (1, sy_i l1), (2, sy_i l2), (3, .ref 13), (4, .ref 8), (8, sy_i l8)]) mj_d_90_157 (Nat.le_of_ble_eq_true rfl) rfl rfl ?_
      refine sy_st (S' := (mj_m_90, 15, [(5, sy_i (l5 + 1)), (0, .ref 227), (1, sy_i l1), (2, sy_i l2), (3, .ref 13), (4, .ref 8), (8, sy_i l8)], [], h)) mj_d_90_160 (fun _ _ => rfl) ?_
      refine sy_lv (lv := [(0, .ref 227), (1, sy_i l1), (2, sy_i l2), (3, .ref 13), (4, .ref 8), (5, sy_i (l5 + 1))]) rfl ⟨rfl, rfl, rfl, rfl, rfl, rfl, trivial⟩ ?_
      exact hk15 hH (by first | omega | assumption) (by first | omega | assumption) (by first | omega | assumption) (by first | omega | assumption) (by first | omega | assumption) (by first | omega | assumption) (by first | omega | assumption) (by first | omega | assumption) (by first | omega | assumption) (by omega)
    · skip
      rw [if_neg c2]
      refine sy_st (S' := (mj_m_90, 128, [(0, .ref 227), (1, sy_i l1), (2, sy_i l2), (3, .ref 13), (4, .ref 8), (5, sy_i l5), (8, sy_i l8)], [.ref 227], h)) mj_d_90_127 (fun _ _ => rfl) ?_
      refine sy_gr2 (b := 232) mj_d_90_128 rfl rfl (by decide) rfl rfl hH ?_
      refine sy_st (S' := (mj_m_90, 133, [(0, .ref 227), (1, sy_i l1), (2, sy_i l2), (3, .ref 13), (4, .ref 8), (5, sy_i l5), (8, sy_i l8)], [sy_i l8, .ref 232], h)) mj_d_90_131 (fun _ _ => rfl) ?_
      refine sy_st (S' := (mj_m_90, 134, [(0, .ref 227), (1, sy_i l1), (2, sy_i l2), (3, .ref 13), (4, .ref 8), (5, sy_i l5), (8, sy_i l8)], [.ref 227, sy_i l8, .ref 232], h)) mj_d_90_133 (fun _ _ => rfl) ?_
      refine sy_gr2 (b := 232) mj_d_90_134 rfl rfl (by decide) rfl rfl hH ?_
      refine sy_st (S' := (mj_m_90, 139, [(0, .ref 227), (1, sy_i l1), (2, sy_i l2), (3, .ref 13), (4, .ref 8), (5, sy_i l5), (8, sy_i l8)], [sy_i l8, .ref 232, sy_i l8, .ref 232], h)) mj_d_90_137 (fun _ _ => rfl) ?_
      refine sy_st (S' := (mj_m_90, 140, [(0, .ref 227), (1, sy_i l1), (2, sy_i l2), (3, .ref 13), (4, .ref 8), (5, sy_i l5), (8, sy_i l8)], [.ref 227, sy_i l8, .ref 232, sy_i l8, .ref 232], h)) mj_d_90_139 (fun _ _ => rfl) ?_
      refine sy_gr2 (b := 231) mj_d_90_140 rfl rfl (by decide) rfl rfl hH ?_
      refine sy_st (S' := (mj_m_90, 145, [(0, .ref 227), (1, sy_i l1), (2, sy_i l2), (3, .ref 13), (4, .ref 8), (5, sy_i l5), (8, sy_i l8)], [sy_i l5, .ref 231, sy_i l8, .ref 232, sy_i l8, .ref 232], h)) mj_d_90_143 (fun _ _ => rfl) ?_
      refine sy_ia mj_d_90_145 rfl (by decide) (by omega) (by omega) (ab_el_1 rfl _) hH ?_
      rintro _ rfl bx3 tx3
      refine sy_sub mj_d_90_146 ?_
      refine sy_ia mj_d_90_147 rfl (by decide) (by omega) (by omega) (ab_el_1 rfl _) hH ?_
      rintro _ rfl bx4 tx4
      refine sy_st (S' := (mj_m_90, 149, [(0, .ref 227), (1, sy_i l1), (2, sy_i l2), (3, .ref 13), (4, .ref 8), (5, sy_i l5), (8, sy_i l8)], [sy_i 1, sy_i (sy_rd h 232 ((l8 - (sy_rd h 231 ((l5).toNat))).toNat)), sy_i l8, .ref 232], h)) mj_d_90_148 (fun _ _ => rfl) ?_
      refine sy_add mj_d_90_149 ?_
      refine sg_iasw (v := ((sy_rd h 232 ((l8 - (sy_rd h 231 ((l5).toNat))).toNat)) + 1)) mj_d_90_150 rfl (by decide) (by omega) (by omega) (ab_el_1 rfl _) hH ?_
      intro h5 th5 eh5
      refine sy_inc (a := l8) (lv' := [(8, sy_i (l8 + 1)), (0, .ref 227), (1, sy_i l1), (2, sy_i l2), (3, .ref 13), (4, .ref 8), (5, sy_i l5)]) mj_d_90_151 (Nat.le_of_ble_eq_true rfl) rfl rfl ?_
      refine sy_st (S' := (mj_m_90, 118, [(8, sy_i (l8 + 1)), (0, .ref 227), (1, sy_i l1), (2, sy_i l2), (3, .ref 13), (4, .ref 8), (5, sy_i l5)], [], h5)) mj_d_90_154 (fun _ _ => rfl) ?_
      refine sy_lv (lv := [(0, .ref 227), (1, sy_i l1), (2, sy_i l2), (3, .ref 13), (4, .ref 8), (5, sy_i l5), (8, sy_i (l8 + 1))]) rfl ⟨rfl, rfl, rfl, rfl, rfl, rfl, rfl, trivial⟩ ?_
      rw [← eh5]
      exact ih th5 (by first | omega | assumption) (by first | omega | assumption) (by first | omega | assumption) (by first | omega | assumption) (by first | omega | assumption) (by first | omega | assumption) (by first | omega | assumption) (by first | omega | assumption) (by rw [eh5]; exact ba_mrz_up (by decide) (by decide) (by decide) i0) (by rw [eh5, sg_na (by decide)]; omega) (by rw [eh5, sg_na (by decide)]; exact i2) (by rw [eh5, sg_na (by decide)]; omega) (by rw [eh5, sg_na (by decide)]; omega) (by first | omega | assumption) (by omega)
set_option maxRecDepth 100000 in
theorem dt_Ba_listTallies_15 : ∀ (n : Nat) {h : mj_H} (hH : sy_H h) {l1 l2 l5 : Int} (b_l1 : 0 ≤ l1) (t_l1 : l1 ≤ 4) (b_l2 : 0 ≤ l2) (t_l2 : l2 ≤ 511) (b_l5 : 0 ≤ l5) (t_l5 : l5 ≤ 5) (i0 : ba_mrz (sy_rd h) l5) (i1 : (sy_rd h 227 7) ≤ ba_cap l5 l1) (i2 : sy_and l2 (sy_rd h 17 (l1).toNat) = 0) (hm : 5 - l5 < (n : Int)), sy_wp (mj_m_90, 15, [(0, .ref 227), (1, sy_i l1), (2, sy_i l2), (3, .ref 13), (4, .ref 8), (5, sy_i l5)], [], h) (dq5 (fun σ => ba_mr σ) (dc_Ba_listTallies_15 n (sy_rd h) l1 l2 l5)) := by
  intro n
  induction n with
  | zero =>
    intro h hH l1 l2 l5 b_l1 t_l1 b_l2 t_l2 b_l5 t_l5 i0 i1 i2 hm
    have n227_7 := hH.bd (a := 227) (k := 7) rfl (by decide) rfl
    have n8_4 := hH.bd (a := 8) (k := 4) rfl (by decide) rfl
    exact absurd hm (by omega)
  | succ n ih =>
    intro h hH l1 l2 l5 b_l1 t_l1 b_l2 t_l2 b_l5 t_l5 i0 i1 i2 hm
    rw [dc_Ba_listTallies_15_s]
    have n227_7 := hH.bd (a := 227) (k := 7) rfl (by decide) rfl
    have n8_4 := hH.bd (a := 8) (k := 4) rfl (by decide) rfl
    refine sy_st (S' := (mj_m_90, 17, [(0, .ref 227), (1, sy_i l1), (2, sy_i l2), (3, .ref 13), (4, .ref 8), (5, sy_i l5)], [sy_i l5], h)) mj_d_90_15 (fun _ _ => rfl) ?_
    refine sy_st (S' := (mj_m_90, 19, [(0, .ref 227), (1, sy_i l1), (2, sy_i l2), (3, .ref 13), (4, .ref 8), (5, sy_i l5)], [.ref 8, sy_i l5], h)) mj_d_90_17 (fun _ _ => rfl) ?_
    refine sy_gf mj_d_90_19 rfl rfl (by decide) rfl hH ?_
    intro x1 ex1 bx1 tx1
    replace ex1 : x1 = sy_rd h 8 4 := ex1
    subst ex1
    refine sy_icm mj_d_90_22 rfl ⟨by omega, by omega⟩ ⟨by omega, by omega⟩ (fun (c2 : (sy_rd h 8 4) ≤ l5) => ?_) (fun (c2 : ¬ ((sy_rd h 8 4) ≤ l5)) => ?_)
    · skip
      rw [if_pos c2]
      exact sy_retv mj_d_90_163 rfl ⟨rfl, hH, rfl, by exact ba_mr_of i0 (by omega)⟩
    · skip
      rw [if_neg c2]
      refine sy_st (S' := (mj_m_90, 26, [(0, .ref 227), (1, sy_i l1), (2, sy_i l2), (3, .ref 13), (4, .ref 8), (5, sy_i l5)], [.ref 13], h)) mj_d_90_25 (fun _ _ => rfl) ?_
      refine sy_gr2 (b := 17) mj_d_90_26 rfl rfl (by decide) rfl rfl hH ?_
      refine sy_st (S' := (mj_m_90, 30, [(0, .ref 227), (1, sy_i l1), (2, sy_i l2), (3, .ref 13), (4, .ref 8), (5, sy_i l5)], [sy_i l1, .ref 17], h)) mj_d_90_29 (fun _ _ => rfl) ?_
      refine sy_ia mj_d_90_30 rfl (by decide) (by omega) (by omega) (ab_el_1 rfl _) hH ?_
      rintro _ rfl bx3 tx3
      refine sy_st (S' := (mj_m_90, 32, [(0, .ref 227), (1, sy_i l1), (2, sy_i l2), (3, .ref 13), (4, .ref 8), (5, sy_i l5)], [.ref 13, sy_i (sy_rd h 17 ((l1).toNat))], h)) mj_d_90_31 (fun _ _ => rfl) ?_
      refine sy_gr2 (b := 17) mj_d_90_32 rfl rfl (by decide) rfl rfl hH ?_
      refine sy_st (S' := (mj_m_90, 37, [(0, .ref 227), (1, sy_i l1), (2, sy_i l2), (3, .ref 13), (4, .ref 8), (5, sy_i l5)], [sy_i l5, .ref 17, sy_i (sy_rd h 17 ((l1).toNat))], h)) mj_d_90_35 (fun _ _ => rfl) ?_
      refine sy_ia mj_d_90_37 rfl (by decide) (by omega) (by omega) (ab_el_1 rfl _) hH ?_
      rintro _ rfl bx4 tx4
      refine sy_st (S' := (mj_m_90, 39, [(0, .ref 227), (1, sy_i l1), (2, sy_i l2), (3, .ref 13), (4, .ref 8), (5, sy_i l5)], [sy_i (-1), sy_i (sy_rd h 17 ((l5).toNat)), sy_i (sy_rd h 17 ((l1).toNat))], h)) mj_d_90_38 (fun _ _ => rfl) ?_
      refine sy_ixor mj_d_90_39 ?_
      have q5 := sg_xor_f (sy_rd h 17 ((l5).toNat)) (-1)
      refine sy_iand mj_d_90_40 ?_
      have q6 := sg_and_rng (sy_rd h 17 ((l1).toNat)) (sy_xor (sy_rd h 17 ((l5).toNat)) (-1))
      refine sy_cs (M' := mj_m_91) (vs := [sy_i (sy_and (sy_rd h 17 ((l1).toNat)) (sy_xor (sy_rd h 17 ((l5).toNat)) (-1)))]) (rest := []) mj_d_90_41 rfl rfl rfl rfl ⟨Nat.le_of_ble_eq_true rfl, Nat.le_of_ble_eq_true rfl, Nat.le_of_ble_eq_true rfl, Nat.le_of_ble_eq_true rfl, Nat.le_of_ble_eq_true rfl⟩ (dt_Integer_bitCount (a0 := (sy_and (sy_rd h 17 ((l1).toNat)) (sy_xor (sy_rd h 17 ((l5).toNat)) (-1)))) hH (by omega) (by omega)) ?_
      rintro _ _ ⟨rfl, rfl, b7, b7t⟩
      show sy_wp (mj_m_90, 44, [(0, .ref 227), (1, sy_i l1), (2, sy_i l2), (3, .ref 13), (4, .ref 8), (5, sy_i l5)], [sy_i (dc_Integer_bitCount (sy_rd h) (sy_and (sy_rd h 17 ((l1).toNat)) (sy_xor (sy_rd h 17 ((l5).toNat)) (-1))))], h) _
      refine sy_st (S' := (mj_m_90, 46, [(6, sy_i (dc_Integer_bitCount (sy_rd h) (sy_and (sy_rd h 17 ((l1).toNat)) (sy_xor (sy_rd h 17 ((l5).toNat)) (-1))))), (0, .ref 227), (1, sy_i l1), (2, sy_i l2), (3, .ref 13), (4, .ref 8), (5, sy_i l5)], [], h)) mj_d_90_44 (fun _ _ => rfl) ?_
      refine sy_st (S' := (mj_m_90, 47, [(6, sy_i (dc_Integer_bitCount (sy_rd h) (sy_and (sy_rd h 17 ((l1).toNat)) (sy_xor (sy_rd h 17 ((l5).toNat)) (-1))))), (0, .ref 227), (1, sy_i l1), (2, sy_i l2), (3, .ref 13), (4, .ref 8), (5, sy_i l5)], [sy_i l2], h)) mj_d_90_46 (fun _ _ => rfl) ?_
      refine sy_st (S' := (mj_m_90, 48, [(6, sy_i (dc_Integer_bitCount (sy_rd h) (sy_and (sy_rd h 17 ((l1).toNat)) (sy_xor (sy_rd h 17 ((l5).toNat)) (-1))))), (0, .ref 227), (1, sy_i l1), (2, sy_i l2), (3, .ref 13), (4, .ref 8), (5, sy_i l5)], [.ref 13, sy_i l2], h)) mj_d_90_47 (fun _ _ => rfl) ?_
      refine sy_gr2 (b := 17) mj_d_90_48 rfl rfl (by decide) rfl rfl hH ?_
      refine sy_st (S' := (mj_m_90, 53, [(6, sy_i (dc_Integer_bitCount (sy_rd h) (sy_and (sy_rd h 17 ((l1).toNat)) (sy_xor (sy_rd h 17 ((l5).toNat)) (-1))))), (0, .ref 227), (1, sy_i l1), (2, sy_i l2), (3, .ref 13), (4, .ref 8), (5, sy_i l5)], [sy_i l5, .ref 17, sy_i l2], h)) mj_d_90_51 (fun _ _ => rfl) ?_
      refine sy_ia mj_d_90_53 rfl (by decide) (by omega) (by omega) (ab_el_1 rfl _) hH ?_
      rintro _ rfl bx8 tx8
      refine sy_iand mj_d_90_54 ?_
      have q9 := sg_and_rng l2 (sy_rd h 17 ((l5).toNat))
      refine sy_cs (M' := mj_m_91) (vs := [sy_i (sy_and l2 (sy_rd h 17 ((l5).toNat)))]) (rest := []) mj_d_90_55 rfl rfl rfl rfl ⟨Nat.le_of_ble_eq_true rfl, Nat.le_of_ble_eq_true rfl, Nat.le_of_ble_eq_true rfl, Nat.le_of_ble_eq_true rfl, Nat.le_of_ble_eq_true rfl⟩ (dt_Integer_bitCount (a0 := (sy_and l2 (sy_rd h 17 ((l5).toNat)))) hH (by omega) (by omega)) ?_
      rintro _ _ ⟨rfl, rfl, b10, b10t⟩
      show sy_wp (mj_m_90, 58, [(6, sy_i (dc_Integer_bitCount (sy_rd h) (sy_and (sy_rd h 17 ((l1).toNat)) (sy_xor (sy_rd h 17 ((l5).toNat)) (-1))))), (0, .ref 227), (1, sy_i l1), (2, sy_i l2), (3, .ref 13), (4, .ref 8), (5, sy_i l5)], [sy_i (dc_Integer_bitCount (sy_rd h) (sy_and l2 (sy_rd h 17 ((l5).toNat))))], h) _
      refine sy_st (S' := (mj_m_90, 60, [(7, sy_i (dc_Integer_bitCount (sy_rd h) (sy_and l2 (sy_rd h 17 ((l5).toNat))))), (6, sy_i (dc_Integer_bitCount (sy_rd h) (sy_and (sy_rd h 17 ((l1).toNat)) (sy_xor (sy_rd h 17 ((l5).toNat)) (-1))))), (0, .ref 227), (1, sy_i l1), (2, sy_i l2), (3, .ref 13), (4, .ref 8), (5, sy_i l5)], [], h)) mj_d_90_58 (fun _ _ => rfl) ?_
      have pw := ba_pop (sy_rd h) (sy_rd h 17 (l1).toNat) l2 (sy_xor (sy_rd h 17 (l5).toNat) (-1)) (sy_rd h 17 (l5).toNat) (by omega) (by omega) (by omega) (by omega) i2
      have pz : l5 = l1 → dc_Integer_bitCount (sy_rd h) (sy_and (sy_rd h 17 (l1).toNat) (sy_xor (sy_rd h 17 (l5).toNat) (-1))) = 0 := fun q => by rw [q]; exact ba_pop0 _ _ (by omega) (by omega)
      have t1 := i0.1
      refine sy_st (S' := (mj_m_90, 61, [(7, sy_i (dc_Integer_bitCount (sy_rd h) (sy_and l2 (sy_rd h 17 ((l5).toNat))))), (6, sy_i (dc_Integer_bitCount (sy_rd h) (sy_and (sy_rd h 17 ((l1).toNat)) (sy_xor (sy_rd h 17 ((l5).toNat)) (-1))))), (0, .ref 227), (1, sy_i l1), (2, sy_i l2), (3, .ref 13), (4, .ref 8), (5, sy_i l5)], [.ref 227], h)) mj_d_90_60 (fun _ _ => rfl) ?_
      refine sy_gr2 (b := 230) mj_d_90_61 rfl rfl (by decide) rfl rfl hH ?_
      refine sy_st (S' := (mj_m_90, 66, [(7, sy_i (dc_Integer_bitCount (sy_rd h) (sy_and l2 (sy_rd h 17 ((l5).toNat))))), (6, sy_i (dc_Integer_bitCount (sy_rd h) (sy_and (sy_rd h 17 ((l1).toNat)) (sy_xor (sy_rd h 17 ((l5).toNat)) (-1))))), (0, .ref 227), (1, sy_i l1), (2, sy_i l2), (3, .ref 13), (4, .ref 8), (5, sy_i l5)], [sy_i l5, .ref 230], h)) mj_d_90_64 (fun _ _ => rfl) ?_
      refine sy_st (S' := (mj_m_90, 68, [(7, sy_i (dc_Integer_bitCount (sy_rd h) (sy_and l2 (sy_rd h 17 ((l5).toNat))))), (6, sy_i (dc_Integer_bitCount (sy_rd h) (sy_and (sy_rd h 17 ((l1).toNat)) (sy_xor (sy_rd h 17 ((l5).toNat)) (-1))))), (0, .ref 227), (1, sy_i l1), (2, sy_i l2), (3, .ref 13), (4, .ref 8), (5, sy_i l5)], [sy_i (dc_Integer_bitCount (sy_rd h) (sy_and (sy_rd h 17 ((l1).toNat)) (sy_xor (sy_rd h 17 ((l5).toNat)) (-1)))), sy_i l5, .ref 230], h)) mj_d_90_66 (fun _ _ => rfl) ?_
      refine sy_st (S' := (mj_m_90, 70, [(7, sy_i (dc_Integer_bitCount (sy_rd h) (sy_and l2 (sy_rd h 17 ((l5).toNat))))), (6, sy_i (dc_Integer_bitCount (sy_rd h) (sy_and (sy_rd h 17 ((l1).toNat)) (sy_xor (sy_rd h 17 ((l5).toNat)) (-1))))), (0, .ref 227), (1, sy_i l1), (2, sy_i l2), (3, .ref 13), (4, .ref 8), (5, sy_i l5)], [sy_i (dc_Integer_bitCount (sy_rd h) (sy_and l2 (sy_rd h 17 ((l5).toNat)))), sy_i (dc_Integer_bitCount (sy_rd h) (sy_and (sy_rd h 17 ((l1).toNat)) (sy_xor (sy_rd h 17 ((l5).toNat)) (-1)))), sy_i l5, .ref 230], h)) mj_d_90_68 (fun _ _ => rfl) ?_
      refine sy_mn mj_d_90_70 rfl ⟨Nat.le_of_ble_eq_true rfl, Nat.le_of_ble_eq_true rfl⟩ ⟨by omega, by omega⟩ ⟨by omega, by omega⟩ ?_
      refine sg_ias (v := (min (dc_Integer_bitCount (sy_rd h) (sy_and (sy_rd h 17 ((l1).toNat)) (sy_xor (sy_rd h 17 ((l5).toNat)) (-1)))) (dc_Integer_bitCount (sy_rd h) (sy_and l2 (sy_rd h 17 ((l5).toNat)))))) mj_d_90_73 rfl (by decide) (by omega) (by omega) (ab_el_1 rfl _) hH (by omega) (by omega) ⟨by omega, by omega⟩ ?_
      intro h11 th11 eh11
      refine sy_st (S' := (mj_m_90, 75, [(7, sy_i (dc_Integer_bitCount (sy_rd h) (sy_and l2 (sy_rd h 17 ((l5).toNat))))), (6, sy_i (dc_Integer_bitCount (sy_rd h) (sy_and (sy_rd h 17 ((l1).toNat)) (sy_xor (sy_rd h 17 ((l5).toNat)) (-1))))), (0, .ref 227), (1, sy_i l1), (2, sy_i l2), (3, .ref 13), (4, .ref 8), (5, sy_i l5)], [.ref 227], h11)) mj_d_90_74 (fun _ _ => rfl) ?_
      refine sy_gr2 (b := 231) mj_d_90_75 rfl rfl (by decide) rfl rfl th11 ?_
      refine sy_st (S' := (mj_m_90, 80, [(7, sy_i (dc_Integer_bitCount (sy_rd h) (sy_and l2 (sy_rd h 17 ((l5).toNat))))), (6, sy_i (dc_Integer_bitCount (sy_rd h) (sy_and (sy_rd h 17 ((l1).toNat)) (sy_xor (sy_rd h 17 ((l5).toNat)) (-1))))), (0, .ref 227), (1, sy_i l1), (2, sy_i l2), (3, .ref 13), (4, .ref 8), (5, sy_i l5)], [sy_i l5, .ref 231], h11)) mj_d_90_78 (fun _ _ => rfl) ?_
      refine sy_st (S' := (mj_m_90, 81, [(7, sy_i (dc_Integer_bitCount (sy_rd h) (sy_and l2 (sy_rd h 17 ((l5).toNat))))), (6, sy_i (dc_Integer_bitCount (sy_rd h) (sy_and (sy_rd h 17 ((l1).toNat)) (sy_xor (sy_rd h 17 ((l5).toNat)) (-1))))), (0, .ref 227), (1, sy_i l1), (2, sy_i l2), (3, .ref 13), (4, .ref 8), (5, sy_i l5)], [.ref 227, sy_i l5, .ref 231], h11)) mj_d_90_80 (fun _ _ => rfl) ?_
      refine sy_gf mj_d_90_81 rfl rfl (by decide) rfl th11 ?_
      intro x12 ex12 bx12 tx12
      replace ex12 : x12 = sy_rd h11 227 7 := ex12
      rw [eh11, sg_na (by decide)] at ex12
      subst ex12
      refine sg_ias (v := (sy_rd h 227 7)) mj_d_90_84 rfl (by decide) (by omega) (by omega) (ab_el_1 rfl _) th11 (by omega) (by omega) ⟨by omega, by omega⟩ ?_
      intro h13 th13 eh13
      rw [eh11] at eh13
      have cs := ba_cap_step (T := sy_rd h 227 7) (sw := min (dc_Integer_bitCount (sy_rd h) (sy_and (sy_rd h 17 ((l1).toNat)) (sy_xor (sy_rd h 17 ((l5).toNat)) (-1)))) (dc_Integer_bitCount (sy_rd h) (sy_and l2 (sy_rd h 17 ((l5).toNat))))) (z := l5) (s := l1) (by omega) (by omega) (by omega) (by omega) (by omega) i1 (by omega) (by omega) (fun q => by have := pz q; omega)
      refine sy_st (S' := (mj_m_90, 86, [(7, sy_i (dc_Integer_bitCount (sy_rd h) (sy_and l2 (sy_rd h 17 ((l5).toNat))))), (6, sy_i (dc_Integer_bitCount (sy_rd h) (sy_and (sy_rd h 17 ((l1).toNat)) (sy_xor (sy_rd h 17 ((l5).toNat)) (-1))))), (0, .ref 227), (1, sy_i l1), (2, sy_i l2), (3, .ref 13), (4, .ref 8), (5, sy_i l5)], [.ref 227], h13)) mj_d_90_85 (fun _ _ => rfl) ?_
      refine sy_st (S' := (mj_m_90, 87, [(7, sy_i (dc_Integer_bitCount (sy_rd h) (sy_and l2 (sy_rd h 17 ((l5).toNat))))), (6, sy_i (dc_Integer_bitCount (sy_rd h) (sy_and (sy_rd h 17 ((l1).toNat)) (sy_xor (sy_rd h 17 ((l5).toNat)) (-1))))), (0, .ref 227), (1, sy_i l1), (2, sy_i l2), (3, .ref 13), (4, .ref 8), (5, sy_i l5)], [.ref 227, .ref 227], h13)) mj_d_90_86 (fun _ _ => rfl) ?_
      refine sy_gf mj_d_90_87 rfl rfl (by decide) rfl th13 ?_
      intro x14 ex14 bx14 tx14
      replace ex14 : x14 = sy_rd h13 227 7 := ex14
      rw [eh13, sg_na (by decide), sg_na (by decide)] at ex14
      subst ex14
      refine sy_st (S' := (mj_m_90, 91, [(7, sy_i (dc_Integer_bitCount (sy_rd h) (sy_and l2 (sy_rd h 17 ((l5).toNat))))), (6, sy_i (dc_Integer_bitCount (sy_rd h) (sy_and (sy_rd h 17 ((l1).toNat)) (sy_xor (sy_rd h 17 ((l5).toNat)) (-1))))), (0, .ref 227), (1, sy_i l1), (2, sy_i l2), (3, .ref 13), (4, .ref 8), (5, sy_i l5)], [.ref 227, sy_i (sy_rd h 227 7), .ref 227], h13)) mj_d_90_90 (fun _ _ => rfl) ?_
      refine sy_gr2 (b := 230) mj_d_90_91 rfl rfl (by decide) rfl rfl th13 ?_
      refine sy_st (S' := (mj_m_90, 96, [(7, sy_i (dc_Integer_bitCount (sy_rd h) (sy_and l2 (sy_rd h 17 ((l5).toNat))))), (6, sy_i (dc_Integer_bitCount (sy_rd h) (sy_and (sy_rd h 17 ((l1).toNat)) (sy_xor (sy_rd h 17 ((l5).toNat)) (-1))))), (0, .ref 227), (1, sy_i l1), (2, sy_i l2), (3, .ref 13), (4, .ref 8), (5, sy_i l5)], [sy_i l5, .ref 230, sy_i (sy_rd h 227 7), .ref 227], h13)) mj_d_90_94 (fun _ _ => rfl) ?_
      refine sy_ia mj_d_90_96 rfl (by decide) (by omega) (by omega) (ab_el_1 rfl _) th13 ?_
      intro x15 ex15 bx15 tx15
      rw [eh13, sg_na (by decide), sg_eq] at ex15
      subst ex15
      refine sy_st (S' := (mj_m_90, 98, [(7, sy_i (dc_Integer_bitCount (sy_rd h) (sy_and l2 (sy_rd h 17 ((l5).toNat))))), (6, sy_i (dc_Integer_bitCount (sy_rd h) (sy_and (sy_rd h 17 ((l1).toNat)) (sy_xor (sy_rd h 17 ((l5).toNat)) (-1))))), (0, .ref 227), (1, sy_i l1), (2, sy_i l2), (3, .ref 13), (4, .ref 8), (5, sy_i l5)], [sy_i 1, sy_i (min (dc_Integer_bitCount (sy_rd h) (sy_and (sy_rd h 17 ((l1).toNat)) (sy_xor (sy_rd h 17 ((l5).toNat)) (-1)))) (dc_Integer_bitCount (sy_rd h) (sy_and l2 (sy_rd h 17 ((l5).toNat))))), sy_i (sy_rd h 227 7), .ref 227], h13)) mj_d_90_97 (fun _ _ => rfl) ?_
      refine sy_add mj_d_90_98 ?_
      refine sy_mul mj_d_90_99 ?_
      have q16 := sg_mul_f (sy_rd h 227 7) ((min (dc_Integer_bitCount (sy_rd h) (sy_and (sy_rd h 17 ((l1).toNat)) (sy_xor (sy_rd h 17 ((l5).toNat)) (-1)))) (dc_Integer_bitCount (sy_rd h) (sy_and l2 (sy_rd h 17 ((l5).toNat))))) + 1)
      refine sy_sip mj_d_90_100 (by decide) ?_
      refine sy_mn mj_d_90_103 rfl ⟨Nat.le_of_ble_eq_true rfl, Nat.le_of_ble_eq_true rfl⟩ ⟨by omega, by omega⟩ ⟨by omega, by omega⟩ ?_
      refine sg_pf (z := (min ((sy_rd h 227 7) * ((min (dc_Integer_bitCount (sy_rd h) (sy_and (sy_rd h 17 ((l1).toNat)) (sy_xor (sy_rd h 17 ((l5).toNat)) (-1)))) (dc_Integer_bitCount (sy_rd h) (sy_and l2 (sy_rd h 17 ((l5).toNat))))) + 1)) 625)) mj_d_90_106 rfl rfl (by decide) (Or.inl rfl) rfl th13 (by omega) (by omega) ⟨by omega, by omega⟩ ?_
      intro h17 th17 eh17
      rw [eh13] at eh17
      refine sy_st (S' := (mj_m_90, 110, [(7, sy_i (dc_Integer_bitCount (sy_rd h) (sy_and l2 (sy_rd h 17 ((l5).toNat))))), (6, sy_i (dc_Integer_bitCount (sy_rd h) (sy_and (sy_rd h 17 ((l1).toNat)) (sy_xor (sy_rd h 17 ((l5).toNat)) (-1))))), (0, .ref 227), (1, sy_i l1), (2, sy_i l2), (3, .ref 13), (4, .ref 8), (5, sy_i l5)], [.ref 227], h17)) mj_d_90_109 (fun _ _ => rfl) ?_
      refine sy_gr2 (b := 231) mj_d_90_110 rfl rfl (by decide) rfl rfl th17 ?_
      refine sy_st (S' := (mj_m_90, 115, [(7, sy_i (dc_Integer_bitCount (sy_rd h) (sy_and l2 (sy_rd h 17 ((l5).toNat))))), (6, sy_i (dc_Integer_bitCount (sy_rd h) (sy_and (sy_rd h 17 ((l1).toNat)) (sy_xor (sy_rd h 17 ((l5).toNat)) (-1))))), (0, .ref 227), (1, sy_i l1), (2, sy_i l2), (3, .ref 13), (4, .ref 8), (5, sy_i l5)], [sy_i l5, .ref 231], h17)) mj_d_90_113 (fun _ _ => rfl) ?_
      refine sy_ia mj_d_90_115 rfl (by decide) (by omega) (by omega) (ab_el_1 rfl _) th17 ?_
      intro x18 ex18 bx18 tx18
      rw [eh17, sg_na (by decide), sg_eq] at ex18
      subst ex18
      refine sy_st (S' := (mj_m_90, 118, [(8, sy_i (sy_rd h 227 7)), (7, sy_i (dc_Integer_bitCount (sy_rd h) (sy_and l2 (sy_rd h 17 ((l5).toNat))))), (6, sy_i (dc_Integer_bitCount (sy_rd h) (sy_and (sy_rd h 17 ((l1).toNat)) (sy_xor (sy_rd h 17 ((l5).toNat)) (-1))))), (0, .ref 227), (1, sy_i l1), (2, sy_i l2), (3, .ref 13), (4, .ref 8), (5, sy_i l5)], [], h17)) mj_d_90_116 (fun _ _ => rfl) ?_
      refine sy_lv (lv := [(0, .ref 227), (1, sy_i l1), (2, sy_i l2), (3, .ref 13), (4, .ref 8), (5, sy_i l5), (8, sy_i (sy_rd h 227 7))]) rfl ⟨rfl, rfl, rfl, rfl, rfl, rfl, rfl, trivial⟩ ?_
      rw [← eh17]
      exact dt_Ba_listTallies_118 @ih 626 th17 (by first | omega | assumption) (by first | omega | assumption) (by first | omega | assumption) (by first | omega | assumption) (by first | omega | assumption) (by first | omega | assumption) (by first | omega | assumption) (by first | omega | assumption) (by rw [eh17]; exact ba_mrz_step (by omega) i0 (by omega) (by omega)) (by rw [eh17, sg_eq]; omega) (by rw [eh17, sg_na (by decide), sg_na (by decide), sg_na (by decide)]; exact i2) (by rw [eh17, sg_na (by decide), sg_eq]; omega) (by rw [eh17, sg_na (by decide), sg_eq]; omega) (by first | omega | assumption) (by omega)
set_option maxRecDepth 100000 in
theorem dt_Ba_listTallies {h : mj_H} (hH : sy_H h) {a1 a2 : Int} (b_a1 : 0 ≤ a1) (t_a1 : a1 ≤ 4) (b_a2 : 0 ≤ a2) (t_a2 : a2 ≤ 511) (i0 : sy_and a2 (sy_rd h 17 (a1).toNat) = 0) : sy_wp (mj_m_90, 0, [(0, .ref 227), (1, sy_i a1), (2, sy_i a2), (3, .ref 13), (4, .ref 8)], [], h) (dq5 (fun σ => ba_mr σ) (dc_Ba_listTallies (sy_rd h) a1 a2)) := by
  unfold dc_Ba_listTallies
  refine sy_st (S' := (mj_m_90, 1, [(0, .ref 227), (1, sy_i a1), (2, sy_i a2), (3, .ref 13), (4, .ref 8)], [.ref 227], h)) mj_d_90_0 (fun _ _ => rfl) ?_
  refine sy_st (S' := (mj_m_90, 2, [(0, .ref 227), (1, sy_i a1), (2, sy_i a2), (3, .ref 13), (4, .ref 8)], [sy_i 1, .ref 227], h)) mj_d_90_1 (fun _ _ => rfl) ?_
  refine sg_pf (z := 1) mj_d_90_2 rfl rfl (by decide) (Or.inl rfl) rfl hH (by omega) (by omega) ⟨by omega, by omega⟩ ?_
  intro h1 th1 eh1
  refine sy_st (S' := (mj_m_90, 6, [(0, .ref 227), (1, sy_i a1), (2, sy_i a2), (3, .ref 13), (4, .ref 8)], [.ref 227], h1)) mj_d_90_5 (fun _ _ => rfl) ?_
  refine sy_gr2 (b := 232) mj_d_90_6 rfl rfl (by decide) rfl rfl th1 ?_
  refine sy_st (S' := (mj_m_90, 10, [(0, .ref 227), (1, sy_i a1), (2, sy_i a2), (3, .ref 13), (4, .ref 8)], [sy_i 0, .ref 232], h1)) mj_d_90_9 (fun _ _ => rfl) ?_
  refine sy_st (S' := (mj_m_90, 11, [(0, .ref 227), (1, sy_i a1), (2, sy_i a2), (3, .ref 13), (4, .ref 8)], [sy_i 0, sy_i 0, .ref 232], h1)) mj_d_90_10 (fun _ _ => rfl) ?_
  refine sg_ias (v := 0) mj_d_90_11 rfl (by decide) (by omega) (by omega) (ab_el_1 rfl _) th1 (by omega) (by omega) ⟨by omega, by omega⟩ ?_
  intro h2 th2 eh2
  replace eh2 : sy_rd h2 = sg_up (sy_rd h1) 232 0 0 := eh2
  rw [eh1] at eh2
  refine sy_st (S' := (mj_m_90, 13, [(0, .ref 227), (1, sy_i a1), (2, sy_i a2), (3, .ref 13), (4, .ref 8)], [sy_i 0], h2)) mj_d_90_12 (fun _ _ => rfl) ?_
  refine sy_st (S' := (mj_m_90, 15, [(5, sy_i 0), (0, .ref 227), (1, sy_i a1), (2, sy_i a2), (3, .ref 13), (4, .ref 8)], [], h2)) mj_d_90_13 (fun _ _ => rfl) ?_
  refine sy_lv (lv := [(0, .ref 227), (1, sy_i a1), (2, sy_i a2), (3, .ref 13), (4, .ref 8), (5, sy_i 0)]) rfl ⟨rfl, rfl, rfl, rfl, rfl, rfl, trivial⟩ ?_
  rw [← eh2]
  exact dt_Ba_listTallies_15 6 th2 (by first | omega | assumption) (by first | omega | assumption) (by first | omega | assumption) (by first | omega | assumption) (by first | omega | assumption) (by first | omega | assumption) (by rw [eh2]; exact ba_in0 _) (by rw [eh2]; exact ba_in1 _ _ (by omega)) (by rw [eh2, sg_na (by decide), sg_na (by decide)]; exact i0) (by omega)
def dc_Ba_isFree (s : sg_S) (a1 a2 : Int) : Int := (if (s 231 ((a1).toNat)) ≤ 0 then 0 else (if ((s 230 ((a1).toNat)) + 1) ≤ 0 then 0 else (if (s 230 ((a1).toNat)) ≤ ((a2 / (s 231 ((a1).toNat))) % ((s 230 ((a1).toNat)) + 1)) then 0 else 1)))
set_option maxRecDepth 100000 in
theorem dt_Ba_isFree {h : mj_H} (hH : sy_H h) {a1 a2 : Int} (b_a1 : 0 ≤ a1) (t_a1 : a1 ≤ 4) (b_a2 : 0 ≤ a2) (t_a2 : a2 ≤ 625) : sy_wp (mj_m_95, 0, [(0, .ref 227), (1, sy_i a1), (2, sy_i a2)], [], h) (dq1 h (0) (1) (dc_Ba_isFree (sy_rd h) a1 a2)) := by
  unfold dc_Ba_isFree
  refine sy_st (S' := (mj_m_95, 1, [(0, .ref 227), (1, sy_i a1), (2, sy_i a2)], [.ref 227], h)) mj_d_95_0 (fun _ _ => rfl) ?_
  refine sy_gr2 (b := 230) mj_d_95_1 rfl rfl (by decide) rfl rfl hH ?_
  refine sy_st (S' := (mj_m_95, 5, [(0, .ref 227), (1, sy_i a1), (2, sy_i a2)], [sy_i a1, .ref 230], h)) mj_d_95_4 (fun _ _ => rfl) ?_
  refine sy_ia mj_d_95_5 rfl (by decide) (by omega) (by omega) (ab_el_1 rfl _) hH ?_
  rintro _ rfl bx1 tx1
  refine sy_st (S' := (mj_m_95, 7, [(0, .ref 227), (1, sy_i a1), (2, sy_i a2)], [sy_i 1, sy_i (sy_rd h 230 ((a1).toNat))], h)) mj_d_95_6 (fun _ _ => rfl) ?_
  refine sy_add mj_d_95_7 ?_
  refine sy_st (S' := (mj_m_95, 9, [(3, sy_i ((sy_rd h 230 ((a1).toNat)) + 1)), (0, .ref 227), (1, sy_i a1), (2, sy_i a2)], [], h)) mj_d_95_8 (fun _ _ => rfl) ?_
  refine sy_st (S' := (mj_m_95, 10, [(3, sy_i ((sy_rd h 230 ((a1).toNat)) + 1)), (0, .ref 227), (1, sy_i a1), (2, sy_i a2)], [.ref 227], h)) mj_d_95_9 (fun _ _ => rfl) ?_
  refine sy_gr2 (b := 231) mj_d_95_10 rfl rfl (by decide) rfl rfl hH ?_
  refine sy_st (S' := (mj_m_95, 14, [(3, sy_i ((sy_rd h 230 ((a1).toNat)) + 1)), (0, .ref 227), (1, sy_i a1), (2, sy_i a2)], [sy_i a1, .ref 231], h)) mj_d_95_13 (fun _ _ => rfl) ?_
  refine sy_ia mj_d_95_14 rfl (by decide) (by omega) (by omega) (ab_el_1 rfl _) hH ?_
  rintro _ rfl bx2 tx2
  refine sy_ifc mj_d_95_15 rfl ⟨by omega, by omega⟩ (fun (c3 : (sy_rd h 231 ((a1).toNat)) ≤ 0) => ?_) (fun (c3 : ¬ ((sy_rd h 231 ((a1).toNat)) ≤ 0)) => ?_)
  · skip
    rw [if_pos c3]
    refine sy_st (S' := (mj_m_95, 46, [(3, sy_i ((sy_rd h 230 ((a1).toNat)) + 1)), (0, .ref 227), (1, sy_i a1), (2, sy_i a2)], [sy_i 0], h)) mj_d_95_45 (fun _ _ => rfl) ?_
    exact sy_retb mj_d_95_46 rfl ⟨by omega, by omega⟩ ⟨rfl, rfl, by omega, by omega⟩
  · skip
    rw [if_neg c3]
    refine sy_st (S' := (mj_m_95, 19, [(3, sy_i ((sy_rd h 230 ((a1).toNat)) + 1)), (0, .ref 227), (1, sy_i a1), (2, sy_i a2)], [sy_i ((sy_rd h 230 ((a1).toNat)) + 1)], h)) mj_d_95_18 (fun _ _ => rfl) ?_
    refine sy_ifc mj_d_95_19 rfl ⟨by omega, by omega⟩ (fun (c4 : ((sy_rd h 230 ((a1).toNat)) + 1) ≤ 0) => ?_) (fun (c4 : ¬ (((sy_rd h 230 ((a1).toNat)) + 1) ≤ 0)) => ?_)
    · skip
      rw [if_pos c4]
      refine sy_st (S' := (mj_m_95, 46, [(3, sy_i ((sy_rd h 230 ((a1).toNat)) + 1)), (0, .ref 227), (1, sy_i a1), (2, sy_i a2)], [sy_i 0], h)) mj_d_95_45 (fun _ _ => rfl) ?_
      exact sy_retb mj_d_95_46 rfl ⟨by omega, by omega⟩ ⟨rfl, rfl, by omega, by omega⟩
    · skip
      rw [if_neg c4]
      refine sy_st (S' := (mj_m_95, 23, [(3, sy_i ((sy_rd h 230 ((a1).toNat)) + 1)), (0, .ref 227), (1, sy_i a1), (2, sy_i a2)], [sy_i a2], h)) mj_d_95_22 (fun _ _ => rfl) ?_
      refine sy_st (S' := (mj_m_95, 24, [(3, sy_i ((sy_rd h 230 ((a1).toNat)) + 1)), (0, .ref 227), (1, sy_i a1), (2, sy_i a2)], [.ref 227, sy_i a2], h)) mj_d_95_23 (fun _ _ => rfl) ?_
      refine sy_gr2 (b := 231) mj_d_95_24 rfl rfl (by decide) rfl rfl hH ?_
      refine sy_st (S' := (mj_m_95, 28, [(3, sy_i ((sy_rd h 230 ((a1).toNat)) + 1)), (0, .ref 227), (1, sy_i a1), (2, sy_i a2)], [sy_i a1, .ref 231, sy_i a2], h)) mj_d_95_27 (fun _ _ => rfl) ?_
      refine sy_ia mj_d_95_28 rfl (by decide) (by omega) (by omega) (ab_el_1 rfl _) hH ?_
      rintro _ rfl bx5 tx5
      refine sy_div mj_d_95_29 ⟨by omega, by omega⟩ ⟨by omega, by omega⟩ ?_
      have q6 := sg_div_f a2 (sy_rd h 231 ((a1).toNat))
      refine sy_st (S' := (mj_m_95, 31, [(3, sy_i ((sy_rd h 230 ((a1).toNat)) + 1)), (0, .ref 227), (1, sy_i a1), (2, sy_i a2)], [sy_i ((sy_rd h 230 ((a1).toNat)) + 1), sy_i (a2 / (sy_rd h 231 ((a1).toNat)))], h)) mj_d_95_30 (fun _ _ => rfl) ?_
      refine sy_rem mj_d_95_31 ⟨by omega, by omega⟩ ⟨by omega, by omega⟩ ?_
      have q7 := sg_rem_f (a2 / (sy_rd h 231 ((a1).toNat))) ((sy_rd h 230 ((a1).toNat)) + 1)
      refine sy_st (S' := (mj_m_95, 33, [(3, sy_i ((sy_rd h 230 ((a1).toNat)) + 1)), (0, .ref 227), (1, sy_i a1), (2, sy_i a2)], [.ref 227, sy_i ((a2 / (sy_rd h 231 ((a1).toNat))) % ((sy_rd h 230 ((a1).toNat)) + 1))], h)) mj_d_95_32 (fun _ _ => rfl) ?_
      refine sy_gr2 (b := 230) mj_d_95_33 rfl rfl (by decide) rfl rfl hH ?_
      refine sy_st (S' := (mj_m_95, 37, [(3, sy_i ((sy_rd h 230 ((a1).toNat)) + 1)), (0, .ref 227), (1, sy_i a1), (2, sy_i a2)], [sy_i a1, .ref 230, sy_i ((a2 / (sy_rd h 231 ((a1).toNat))) % ((sy_rd h 230 ((a1).toNat)) + 1))], h)) mj_d_95_36 (fun _ _ => rfl) ?_
      refine sy_ia mj_d_95_37 rfl (by decide) (by omega) (by omega) (ab_el_1 rfl _) hH ?_
      rintro _ rfl bx8 tx8
      refine sy_icm mj_d_95_38 rfl ⟨by omega, by omega⟩ ⟨by omega, by omega⟩ (fun (c9 : (sy_rd h 230 ((a1).toNat)) ≤ ((a2 / (sy_rd h 231 ((a1).toNat))) % ((sy_rd h 230 ((a1).toNat)) + 1))) => ?_) (fun (c9 : ¬ ((sy_rd h 230 ((a1).toNat)) ≤ ((a2 / (sy_rd h 231 ((a1).toNat))) % ((sy_rd h 230 ((a1).toNat)) + 1)))) => ?_)
      · skip
        rw [if_pos c9]
        refine sy_st (S' := (mj_m_95, 46, [(3, sy_i ((sy_rd h 230 ((a1).toNat)) + 1)), (0, .ref 227), (1, sy_i a1), (2, sy_i a2)], [sy_i 0], h)) mj_d_95_45 (fun _ _ => rfl) ?_
        exact sy_retb mj_d_95_46 rfl ⟨by omega, by omega⟩ ⟨rfl, rfl, by omega, by omega⟩
      · skip
        rw [if_neg c9]
        refine sy_st (S' := (mj_m_95, 42, [(3, sy_i ((sy_rd h 230 ((a1).toNat)) + 1)), (0, .ref 227), (1, sy_i a1), (2, sy_i a2)], [sy_i 1], h)) mj_d_95_41 (fun _ _ => rfl) ?_
        refine sy_st (S' := (mj_m_95, 46, [(3, sy_i ((sy_rd h 230 ((a1).toNat)) + 1)), (0, .ref 227), (1, sy_i a1), (2, sy_i a2)], [sy_i 1], h)) mj_d_95_42 (fun _ _ => rfl) ?_
        exact sy_retb mj_d_95_46 rfl ⟨by omega, by omega⟩ ⟨rfl, rfl, by omega, by omega⟩
theorem ba_free {s : sg_S} (hm : ba_mr s) {z t : Int} (h1 : 0 ≤ z) (h2 : z < s 8 4) (h3 : 0 ≤ t) (h4 : t < s 227 7) : dc_Ba_isFree s z t = 0 ∨ t + s 231 z.toNat < s 227 7 := by
  obtain ⟨g1, g2, m, gm⟩ := hm.2 z.toNat (by omega)
  unfold dc_Ba_isFree
  (repeat' split)
  all_goals first | exact Or.inl rfl | (right; rw [gm]; exact ba_num g1 (by omega) h3 (by omega) (by omega))
def dc_Ba_costBy (s : sg_S) (a1 a2 a3 : Int) : Int := (if (dc_Ba_isFree s a1 a3) = 0 then (sy_w ((s 12 ((a1).toNat)) + (s 233 ((((a2 + 1) * (s 227 7)) + a3).toNat)))) else (sy_w (s 233 (((((a2 + 1) * (s 227 7)) + a3) + (s 231 ((a1).toNat))).toNat))))
set_option maxRecDepth 100000 in
theorem dt_Ba_costBy {h : mj_H} (hH : sy_H h) {a1 a2 a3 : Int} (b_a1 : 0 ≤ a1) (t_a1 : a1 ≤ 4) (b_a2 : 0 ≤ a2) (t_a2 : a2 ≤ 8) (b_a3 : 0 ≤ a3) (t_a3 : a3 ≤ 624) (i0 : ba_ok (sy_rd h)) (i1 : a1 < (sy_rd h 8 4)) (i2 : a2 < (sy_rd h 227 6)) (i3 : a3 < (sy_rd h 227 7)) : sy_wp (mj_m_94, 0, [(0, .ref 227), (1, sy_i a1), (2, sy_i a2), (3, sy_i a3), (4, .ref 8)], [], h) (dq1 h (-2147483648) (2147483647) (dc_Ba_costBy (sy_rd h) a1 a2 a3)) := by
  unfold dc_Ba_costBy
  have n227_6 := hH.bd (a := 227) (k := 6) rfl (by decide) rfl
  have n227_7 := hH.bd (a := 227) (k := 7) rfl (by decide) rfl
  have ix := ba_ix i0 b_a2 i2 b_a3 i3
  refine sy_st (S' := (mj_m_94, 1, [(0, .ref 227), (1, sy_i a1), (2, sy_i a2), (3, sy_i a3), (4, .ref 8)], [sy_i a2], h)) mj_d_94_0 (fun _ _ => rfl) ?_
  refine sy_st (S' := (mj_m_94, 2, [(0, .ref 227), (1, sy_i a1), (2, sy_i a2), (3, sy_i a3), (4, .ref 8)], [sy_i 1, sy_i a2], h)) mj_d_94_1 (fun _ _ => rfl) ?_
  refine sy_add mj_d_94_2 ?_
  refine sy_st (S' := (mj_m_94, 4, [(0, .ref 227), (1, sy_i a1), (2, sy_i a2), (3, sy_i a3), (4, .ref 8)], [.ref 227, sy_i (a2 + 1)], h)) mj_d_94_3 (fun _ _ => rfl) ?_
  refine sy_gf mj_d_94_4 rfl rfl (by decide) rfl hH ?_
  intro x1 ex1 bx1 tx1
  replace ex1 : x1 = sy_rd h 227 7 := ex1
  subst ex1
  refine sy_mul mj_d_94_7 ?_
  have q2 := sg_mul_f (a2 + 1) (sy_rd h 227 7)
  refine sy_st (S' := (mj_m_94, 9, [(0, .ref 227), (1, sy_i a1), (2, sy_i a2), (3, sy_i a3), (4, .ref 8)], [sy_i a3, sy_i ((a2 + 1) * (sy_rd h 227 7))], h)) mj_d_94_8 (fun _ _ => rfl) ?_
  refine sy_add mj_d_94_9 ?_
  refine sy_st (S' := (mj_m_94, 12, [(5, sy_i (((a2 + 1) * (sy_rd h 227 7)) + a3)), (0, .ref 227), (1, sy_i a1), (2, sy_i a2), (3, sy_i a3), (4, .ref 8)], [], h)) mj_d_94_10 (fun _ _ => rfl) ?_
  refine sy_st (S' := (mj_m_94, 13, [(5, sy_i (((a2 + 1) * (sy_rd h 227 7)) + a3)), (0, .ref 227), (1, sy_i a1), (2, sy_i a2), (3, sy_i a3), (4, .ref 8)], [.ref 227], h)) mj_d_94_12 (fun _ _ => rfl) ?_
  refine sy_st (S' := (mj_m_94, 14, [(5, sy_i (((a2 + 1) * (sy_rd h 227 7)) + a3)), (0, .ref 227), (1, sy_i a1), (2, sy_i a2), (3, sy_i a3), (4, .ref 8)], [sy_i a1, .ref 227], h)) mj_d_94_13 (fun _ _ => rfl) ?_
  refine sy_st (S' := (mj_m_94, 15, [(5, sy_i (((a2 + 1) * (sy_rd h 227 7)) + a3)), (0, .ref 227), (1, sy_i a1), (2, sy_i a2), (3, sy_i a3), (4, .ref 8)], [sy_i a3, sy_i a1, .ref 227], h)) mj_d_94_14 (fun _ _ => rfl) ?_
  refine sy_cv (M' := mj_m_95) (vs := [.ref 227, sy_i a1, sy_i a3]) (rest := []) mj_d_94_15 rfl rfl rfl rfl hH rfl rfl ⟨by decide, ⟨Nat.le_of_ble_eq_true rfl, Nat.le_of_ble_eq_true rfl, Nat.le_of_ble_eq_true rfl, Nat.le_of_ble_eq_true rfl, Nat.le_of_ble_eq_true rfl⟩⟩ (dt_Ba_isFree (a1 := a1) (a2 := a3) hH (by omega) (by omega) (by omega) (by omega)) ?_
  rintro _ _ ⟨rfl, rfl, b3, b3t⟩
  show sy_wp (mj_m_94, 18, [(5, sy_i (((a2 + 1) * (sy_rd h 227 7)) + a3)), (0, .ref 227), (1, sy_i a1), (2, sy_i a2), (3, sy_i a3), (4, .ref 8)], [sy_i (dc_Ba_isFree (sy_rd h) a1 a3)], h) _
  have fr := ba_free i0.1 b_a1 i1 b_a3 i3
  refine sy_ifc mj_d_94_18 rfl ⟨by omega, by omega⟩ (fun (c4 : (dc_Ba_isFree (sy_rd h) a1 a3) = 0) => ?_) (fun (c4 : ¬ ((dc_Ba_isFree (sy_rd h) a1 a3) = 0)) => ?_)
  · skip
    rw [if_pos c4]
    refine sy_st (S' := (mj_m_94, 40, [(5, sy_i (((a2 + 1) * (sy_rd h 227 7)) + a3)), (0, .ref 227), (1, sy_i a1), (2, sy_i a2), (3, sy_i a3), (4, .ref 8)], [.ref 8], h)) mj_d_94_38 (fun _ _ => rfl) ?_
    refine sy_gr2 (b := 12) mj_d_94_40 rfl rfl (by decide) rfl rfl hH ?_
    refine sy_st (S' := (mj_m_94, 44, [(5, sy_i (((a2 + 1) * (sy_rd h 227 7)) + a3)), (0, .ref 227), (1, sy_i a1), (2, sy_i a2), (3, sy_i a3), (4, .ref 8)], [sy_i a1, .ref 12], h)) mj_d_94_43 (fun _ _ => rfl) ?_
    refine sy_ia mj_d_94_44 rfl (by decide) (by omega) (by omega) (ab_el_1 rfl _) hH ?_
    rintro _ rfl bx5 tx5
    refine sy_st (S' := (mj_m_94, 46, [(5, sy_i (((a2 + 1) * (sy_rd h 227 7)) + a3)), (0, .ref 227), (1, sy_i a1), (2, sy_i a2), (3, sy_i a3), (4, .ref 8)], [.ref 227, sy_i (sy_rd h 12 ((a1).toNat))], h)) mj_d_94_45 (fun _ _ => rfl) ?_
    refine sy_gr2 (b := 233) mj_d_94_46 rfl rfl (by decide) rfl rfl hH ?_
    refine sy_st (S' := (mj_m_94, 51, [(5, sy_i (((a2 + 1) * (sy_rd h 227 7)) + a3)), (0, .ref 227), (1, sy_i a1), (2, sy_i a2), (3, sy_i a3), (4, .ref 8)], [sy_i (((a2 + 1) * (sy_rd h 227 7)) + a3), .ref 233, sy_i (sy_rd h 12 ((a1).toNat))], h)) mj_d_94_49 (fun _ _ => rfl) ?_
    refine sy_ia mj_d_94_51 rfl (by decide) (by omega) (by omega) (ab_el_1 rfl _) hH ?_
    rintro _ rfl bx6 tx6
    refine sy_add mj_d_94_52 ?_
    have wr := sy_w_rng ((sy_rd h 12 ((a1).toNat)) + (sy_rd h 233 ((((a2 + 1) * (sy_rd h 227 7)) + a3).toNat)))
    exact sg_retw mj_d_94_53 rfl ⟨rfl, rfl, by omega, by omega⟩
  · skip
    rw [if_neg c4]
    refine sy_st (S' := (mj_m_94, 22, [(5, sy_i (((a2 + 1) * (sy_rd h 227 7)) + a3)), (0, .ref 227), (1, sy_i a1), (2, sy_i a2), (3, sy_i a3), (4, .ref 8)], [.ref 227], h)) mj_d_94_21 (fun _ _ => rfl) ?_
    refine sy_gr2 (b := 233) mj_d_94_22 rfl rfl (by decide) rfl rfl hH ?_
    refine sy_st (S' := (mj_m_94, 27, [(5, sy_i (((a2 + 1) * (sy_rd h 227 7)) + a3)), (0, .ref 227), (1, sy_i a1), (2, sy_i a2), (3, sy_i a3), (4, .ref 8)], [sy_i (((a2 + 1) * (sy_rd h 227 7)) + a3), .ref 233], h)) mj_d_94_25 (fun _ _ => rfl) ?_
    refine sy_st (S' := (mj_m_94, 28, [(5, sy_i (((a2 + 1) * (sy_rd h 227 7)) + a3)), (0, .ref 227), (1, sy_i a1), (2, sy_i a2), (3, sy_i a3), (4, .ref 8)], [.ref 227, sy_i (((a2 + 1) * (sy_rd h 227 7)) + a3), .ref 233], h)) mj_d_94_27 (fun _ _ => rfl) ?_
    refine sy_gr2 (b := 231) mj_d_94_28 rfl rfl (by decide) rfl rfl hH ?_
    refine sy_st (S' := (mj_m_94, 32, [(5, sy_i (((a2 + 1) * (sy_rd h 227 7)) + a3)), (0, .ref 227), (1, sy_i a1), (2, sy_i a2), (3, sy_i a3), (4, .ref 8)], [sy_i a1, .ref 231, sy_i (((a2 + 1) * (sy_rd h 227 7)) + a3), .ref 233], h)) mj_d_94_31 (fun _ _ => rfl) ?_
    refine sy_ia mj_d_94_32 rfl (by decide) (by omega) (by omega) (ab_el_1 rfl _) hH ?_
    rintro _ rfl bx7 tx7
    refine sy_add mj_d_94_33 ?_
    refine sy_ia mj_d_94_34 rfl (by decide) (by omega) (by omega) (ab_el_1 rfl _) hH ?_
    rintro _ rfl bx8 tx8
    refine sy_st (S' := (mj_m_94, 53, [(5, sy_i (((a2 + 1) * (sy_rd h 227 7)) + a3)), (0, .ref 227), (1, sy_i a1), (2, sy_i a2), (3, sy_i a3), (4, .ref 8)], [sy_i (sy_rd h 233 (((((a2 + 1) * (sy_rd h 227 7)) + a3) + (sy_rd h 231 ((a1).toNat))).toNat))], h)) mj_d_94_35 (fun _ _ => rfl) ?_
    have wr := sy_w_rng (sy_rd h 233 (((((a2 + 1) * (sy_rd h 227 7)) + a3) + (sy_rd h 231 ((a1).toNat))).toNat))
    exact sg_retw mj_d_94_53 rfl ⟨rfl, rfl, by omega, by omega⟩
def dc_Ba_cheapestGiver_11 (n : Nat) : sg_S → Int → Int → Int → Int → Int → Int := Nat.rec (fun (s : sg_S) l1 l2 l4 l5 l6 => 0) (fun _ ih => fun s l1 l2 l4 l5 l6 => (if (s 8 4) ≤ l6 then l4 else (if (sy_and (sy_shr (s 229 ((l1).toNat)) l6) 1) = 1 then (if l5 ≤ (dc_Ba_costBy s l6 l1 l2) then (ih s l1 l2 l4 l5 (l6 + 1)) else (ih s l1 l2 l6 (dc_Ba_costBy s l6 l1 l2) (l6 + 1))) else (ih s l1 l2 l4 l5 (l6 + 1))))) n
theorem dc_Ba_cheapestGiver_11_s (n : Nat) (s : sg_S) (l1 l2 l4 l5 l6 : Int) : dc_Ba_cheapestGiver_11 (n + 1) s l1 l2 l4 l5 l6 = (if (s 8 4) ≤ l6 then l4 else (if (sy_and (sy_shr (s 229 ((l1).toNat)) l6) 1) = 1 then (if l5 ≤ (dc_Ba_costBy s l6 l1 l2) then ((dc_Ba_cheapestGiver_11 n) s l1 l2 l4 l5 (l6 + 1)) else ((dc_Ba_cheapestGiver_11 n) s l1 l2 l6 (dc_Ba_costBy s l6 l1 l2) (l6 + 1))) else ((dc_Ba_cheapestGiver_11 n) s l1 l2 l4 l5 (l6 + 1)))) := rfl
def dc_Ba_cheapestGiver (s : sg_S) (a1 a2 : Int) : Int := (dc_Ba_cheapestGiver_11 6 s a1 a2 0 1000 0)
set_option maxRecDepth 100000 in
theorem dt_Ba_cheapestGiver_11 : ∀ (n : Nat) {h : mj_H} (hH : sy_H h) {l1 l2 l4 l5 l6 : Int} (b_l1 : 0 ≤ l1) (t_l1 : l1 ≤ 8) (b_l2 : 0 ≤ l2) (t_l2 : l2 ≤ 624) (b_l4 : 0 ≤ l4) (t_l4 : l4 ≤ 4) (b_l5 : (-2147483648) ≤ l5) (t_l5 : l5 ≤ 2147483647) (b_l6 : 0 ≤ l6) (t_l6 : l6 ≤ 5) (i0 : ba_ok (sy_rd h)) (i1 : l1 < (sy_rd h 227 6)) (i2 : l2 < (sy_rd h 227 7)) (i3 : l4 < (sy_rd h 8 4)) (hm : 5 - l6 < (n : Int)), sy_wp (mj_m_93, 11, [(0, .ref 227), (1, sy_i l1), (2, sy_i l2), (3, .ref 8), (4, sy_i l4), (5, sy_i l5), (6, sy_i l6)], [], h) (dq1 h (0) ((sy_rd h 8 4) - 1) (dc_Ba_cheapestGiver_11 n (sy_rd h) l1 l2 l4 l5 l6)) := by
  intro n
  induction n with
  | zero =>
    intro h hH l1 l2 l4 l5 l6 b_l1 t_l1 b_l2 t_l2 b_l4 t_l4 b_l5 t_l5 b_l6 t_l6 i0 i1 i2 i3 hm
    have n8_4 := hH.bd (a := 8) (k := 4) rfl (by decide) rfl
    exact absurd hm (by omega)
  | succ n ih =>
    intro h hH l1 l2 l4 l5 l6 b_l1 t_l1 b_l2 t_l2 b_l4 t_l4 b_l5 t_l5 b_l6 t_l6 i0 i1 i2 i3 hm
    rw [dc_Ba_cheapestGiver_11_s]
    have n8_4 := hH.bd (a := 8) (k := 4) rfl (by decide) rfl
    refine sy_st (S' := (mj_m_93, 13, [(0, .ref 227), (1, sy_i l1), (2, sy_i l2), (3, .ref 8), (4, sy_i l4), (5, sy_i l5), (6, sy_i l6)], [sy_i l6], h)) mj_d_93_11 (fun _ _ => rfl) ?_
    refine sy_st (S' := (mj_m_93, 14, [(0, .ref 227), (1, sy_i l1), (2, sy_i l2), (3, .ref 8), (4, sy_i l4), (5, sy_i l5), (6, sy_i l6)], [.ref 8, sy_i l6], h)) mj_d_93_13 (fun _ _ => rfl) ?_
    refine sy_gf mj_d_93_14 rfl rfl (by decide) rfl hH ?_
    intro x1 ex1 bx1 tx1
    replace ex1 : x1 = sy_rd h 8 4 := ex1
    subst ex1
    refine sy_icm mj_d_93_17 rfl ⟨by omega, by omega⟩ ⟨by omega, by omega⟩ (fun (c2 : (sy_rd h 8 4) ≤ l6) => ?_) (fun (c2 : ¬ ((sy_rd h 8 4) ≤ l6)) => ?_)
    · skip
      rw [if_pos c2]
      refine sy_st (S' := (mj_m_93, 69, [(0, .ref 227), (1, sy_i l1), (2, sy_i l2), (3, .ref 8), (4, sy_i l4), (5, sy_i l5), (6, sy_i l6)], [sy_i l4], h)) mj_d_93_67 (fun _ _ => rfl) ?_
      exact sy_reti mj_d_93_69 rfl ⟨rfl, rfl, by omega, by omega⟩
    · skip
      rw [if_neg c2]
      refine sy_st (S' := (mj_m_93, 21, [(0, .ref 227), (1, sy_i l1), (2, sy_i l2), (3, .ref 8), (4, sy_i l4), (5, sy_i l5), (6, sy_i l6)], [.ref 227], h)) mj_d_93_20 (fun _ _ => rfl) ?_
      refine sy_gr2 (b := 229) mj_d_93_21 rfl rfl (by decide) rfl rfl hH ?_
      refine sy_st (S' := (mj_m_93, 25, [(0, .ref 227), (1, sy_i l1), (2, sy_i l2), (3, .ref 8), (4, sy_i l4), (5, sy_i l5), (6, sy_i l6)], [sy_i l1, .ref 229], h)) mj_d_93_24 (fun _ _ => rfl) ?_
      refine sy_ia mj_d_93_25 rfl (by decide) (by omega) (by omega) (ab_el_1 rfl _) hH ?_
      rintro _ rfl bx3 tx3
      refine sy_st (S' := (mj_m_93, 28, [(0, .ref 227), (1, sy_i l1), (2, sy_i l2), (3, .ref 8), (4, sy_i l4), (5, sy_i l5), (6, sy_i l6)], [sy_i l6, sy_i (sy_rd h 229 ((l1).toNat))], h)) mj_d_93_26 (fun _ _ => rfl) ?_
      refine sy_ishr mj_d_93_28 ?_
      have q4 := sg_shr_rng (sy_rd h 229 ((l1).toNat)) l6
      refine sy_st (S' := (mj_m_93, 30, [(0, .ref 227), (1, sy_i l1), (2, sy_i l2), (3, .ref 8), (4, sy_i l4), (5, sy_i l5), (6, sy_i l6)], [sy_i 1, sy_i (sy_shr (sy_rd h 229 ((l1).toNat)) l6)], h)) mj_d_93_29 (fun _ _ => rfl) ?_
      refine sy_iand mj_d_93_30 ?_
      have q5 := sg_and_r (sy_shr (sy_rd h 229 ((l1).toNat)) l6) 1 (by decide) (by decide)
      refine sy_st (S' := (mj_m_93, 32, [(0, .ref 227), (1, sy_i l1), (2, sy_i l2), (3, .ref 8), (4, sy_i l4), (5, sy_i l5), (6, sy_i l6)], [sy_i 1, sy_i (sy_and (sy_shr (sy_rd h 229 ((l1).toNat)) l6) 1)], h)) mj_d_93_31 (fun _ _ => rfl) ?_
      refine sy_icm mj_d_93_32 rfl ⟨by omega, by omega⟩ ⟨by omega, by omega⟩ (fun (c6 : ¬ ((sy_and (sy_shr (sy_rd h 229 ((l1).toNat)) l6) 1) = 1)) => ?_) (fun (c6 : ¬ ¬ ((sy_and (sy_shr (sy_rd h 229 ((l1).toNat)) l6) 1) = 1)) => ?_)
      · skip
        rw [if_neg c6]
        refine sy_inc (a := l6) (lv' := [(6, sy_i (l6 + 1)), (0, .ref 227), (1, sy_i l1), (2, sy_i l2), (3, .ref 8), (4, sy_i l4), (5, sy_i l5)]) mj_d_93_61 (Nat.le_of_ble_eq_true rfl) rfl rfl ?_
        refine sy_st (S' := (mj_m_93, 11, [(6, sy_i (l6 + 1)), (0, .ref 227), (1, sy_i l1), (2, sy_i l2), (3, .ref 8), (4, sy_i l4), (5, sy_i l5)], [], h)) mj_d_93_64 (fun _ _ => rfl) ?_
        refine sy_lv (lv := [(0, .ref 227), (1, sy_i l1), (2, sy_i l2), (3, .ref 8), (4, sy_i l4), (5, sy_i l5), (6, sy_i (l6 + 1))]) rfl ⟨rfl, rfl, rfl, rfl, rfl, rfl, rfl, trivial⟩ ?_
        exact ih hH (by first | omega | assumption) (by first | omega | assumption) (by first | omega | assumption) (by first | omega | assumption) (by first | omega | assumption) (by first | omega | assumption) (by first | omega | assumption) (by first | omega | assumption) (by first | omega | assumption) (by first | omega | assumption) (by first | omega | assumption) (by first | omega | assumption) (by first | omega | assumption) (by first | omega | assumption) (by omega)
      · skip
        rw [if_pos (Decidable.not_not.mp c6)]
        replace c6 := Decidable.not_not.mp c6
        refine sy_st (S' := (mj_m_93, 36, [(0, .ref 227), (1, sy_i l1), (2, sy_i l2), (3, .ref 8), (4, sy_i l4), (5, sy_i l5), (6, sy_i l6)], [.ref 227], h)) mj_d_93_35 (fun _ _ => rfl) ?_
        refine sy_st (S' := (mj_m_93, 38, [(0, .ref 227), (1, sy_i l1), (2, sy_i l2), (3, .ref 8), (4, sy_i l4), (5, sy_i l5), (6, sy_i l6)], [sy_i l6, .ref 227], h)) mj_d_93_36 (fun _ _ => rfl) ?_
        refine sy_st (S' := (mj_m_93, 39, [(0, .ref 227), (1, sy_i l1), (2, sy_i l2), (3, .ref 8), (4, sy_i l4), (5, sy_i l5), (6, sy_i l6)], [sy_i l1, sy_i l6, .ref 227], h)) mj_d_93_38 (fun _ _ => rfl) ?_
        refine sy_st (S' := (mj_m_93, 40, [(0, .ref 227), (1, sy_i l1), (2, sy_i l2), (3, .ref 8), (4, sy_i l4), (5, sy_i l5), (6, sy_i l6)], [sy_i l2, sy_i l1, sy_i l6, .ref 227], h)) mj_d_93_39 (fun _ _ => rfl) ?_
        refine sy_st (S' := (mj_m_93, 41, [(0, .ref 227), (1, sy_i l1), (2, sy_i l2), (3, .ref 8), (4, sy_i l4), (5, sy_i l5), (6, sy_i l6)], [.ref 8, sy_i l2, sy_i l1, sy_i l6, .ref 227], h)) mj_d_93_40 (fun _ _ => rfl) ?_
        refine sy_cv (M' := mj_m_94) (vs := [.ref 227, sy_i l6, sy_i l1, sy_i l2, .ref 8]) (rest := []) mj_d_93_41 rfl rfl rfl rfl hH rfl rfl ⟨by decide, ⟨Nat.le_of_ble_eq_true rfl, Nat.le_of_ble_eq_true rfl, Nat.le_of_ble_eq_true rfl, Nat.le_of_ble_eq_true rfl, Nat.le_of_ble_eq_true rfl⟩⟩ (dt_Ba_costBy (a1 := l6) (a2 := l1) (a3 := l2) hH (by omega) (by omega) (by omega) (by omega) (by omega) (by omega) (by first | omega | assumption) (by first | omega | assumption) (by first | omega | assumption) (by first | omega | assumption)) ?_
        rintro _ _ ⟨rfl, rfl, b7, b7t⟩
        show sy_wp (mj_m_93, 44, [(0, .ref 227), (1, sy_i l1), (2, sy_i l2), (3, .ref 8), (4, sy_i l4), (5, sy_i l5), (6, sy_i l6)], [sy_i (dc_Ba_costBy (sy_rd h) l6 l1 l2)], h) _
        refine sy_st (S' := (mj_m_93, 46, [(7, sy_i (dc_Ba_costBy (sy_rd h) l6 l1 l2)), (0, .ref 227), (1, sy_i l1), (2, sy_i l2), (3, .ref 8), (4, sy_i l4), (5, sy_i l5), (6, sy_i l6)], [], h)) mj_d_93_44 (fun _ _ => rfl) ?_
        refine sy_st (S' := (mj_m_93, 48, [(7, sy_i (dc_Ba_costBy (sy_rd h) l6 l1 l2)), (0, .ref 227), (1, sy_i l1), (2, sy_i l2), (3, .ref 8), (4, sy_i l4), (5, sy_i l5), (6, sy_i l6)], [sy_i (dc_Ba_costBy (sy_rd h) l6 l1 l2)], h)) mj_d_93_46 (fun _ _ => rfl) ?_
        refine sy_st (S' := (mj_m_93, 50, [(7, sy_i (dc_Ba_costBy (sy_rd h) l6 l1 l2)), (0, .ref 227), (1, sy_i l1), (2, sy_i l2), (3, .ref 8), (4, sy_i l4), (5, sy_i l5), (6, sy_i l6)], [sy_i l5, sy_i (dc_Ba_costBy (sy_rd h) l6 l1 l2)], h)) mj_d_93_48 (fun _ _ => rfl) ?_
        refine sy_icm mj_d_93_50 rfl ⟨by omega, by omega⟩ ⟨by omega, by omega⟩ (fun (c8 : l5 ≤ (dc_Ba_costBy (sy_rd h) l6 l1 l2)) => ?_) (fun (c8 : ¬ (l5 ≤ (dc_Ba_costBy (sy_rd h) l6 l1 l2))) => ?_)
        · skip
          rw [if_pos c8]
          refine sy_inc (a := l6) (lv' := [(6, sy_i (l6 + 1)), (7, sy_i (dc_Ba_costBy (sy_rd h) l6 l1 l2)), (0, .ref 227), (1, sy_i l1), (2, sy_i l2), (3, .ref 8), (4, sy_i l4), (5, sy_i l5)]) mj_d_93_61 (Nat.le_of_ble_eq_true rfl) rfl rfl ?_
          refine sy_st (S' := (mj_m_93, 11, [(6, sy_i (l6 + 1)), (7, sy_i (dc_Ba_costBy (sy_rd h) l6 l1 l2)), (0, .ref 227), (1, sy_i l1), (2, sy_i l2), (3, .ref 8), (4, sy_i l4), (5, sy_i l5)], [], h)) mj_d_93_64 (fun _ _ => rfl) ?_
          refine sy_lv (lv := [(0, .ref 227), (1, sy_i l1), (2, sy_i l2), (3, .ref 8), (4, sy_i l4), (5, sy_i l5), (6, sy_i (l6 + 1))]) rfl ⟨rfl, rfl, rfl, rfl, rfl, rfl, rfl, trivial⟩ ?_
          exact ih hH (by first | omega | assumption) (by first | omega | assumption) (by first | omega | assumption) (by first | omega | assumption) (by first | omega | assumption) (by first | omega | assumption) (by first | omega | assumption) (by first | omega | assumption) (by first | omega | assumption) (by first | omega | assumption) (by first | omega | assumption) (by first | omega | assumption) (by first | omega | assumption) (by first | omega | assumption) (by omega)
        · skip
          rw [if_neg c8]
          refine sy_st (S' := (mj_m_93, 55, [(7, sy_i (dc_Ba_costBy (sy_rd h) l6 l1 l2)), (0, .ref 227), (1, sy_i l1), (2, sy_i l2), (3, .ref 8), (4, sy_i l4), (5, sy_i l5), (6, sy_i l6)], [sy_i (dc_Ba_costBy (sy_rd h) l6 l1 l2)], h)) mj_d_93_53 (fun _ _ => rfl) ?_
          refine sy_st (S' := (mj_m_93, 57, [(5, sy_i (dc_Ba_costBy (sy_rd h) l6 l1 l2)), (7, sy_i (dc_Ba_costBy (sy_rd h) l6 l1 l2)), (0, .ref 227), (1, sy_i l1), (2, sy_i l2), (3, .ref 8), (4, sy_i l4), (6, sy_i l6)], [], h)) mj_d_93_55 (fun _ _ => rfl) ?_
          refine sy_st (S' := (mj_m_93, 59, [(5, sy_i (dc_Ba_costBy (sy_rd h) l6 l1 l2)), (7, sy_i (dc_Ba_costBy (sy_rd h) l6 l1 l2)), (0, .ref 227), (1, sy_i l1), (2, sy_i l2), (3, .ref 8), (4, sy_i l4), (6, sy_i l6)], [sy_i l6], h)) mj_d_93_57 (fun _ _ => rfl) ?_
          refine sy_st (S' := (mj_m_93, 61, [(4, sy_i l6), (5, sy_i (dc_Ba_costBy (sy_rd h) l6 l1 l2)), (7, sy_i (dc_Ba_costBy (sy_rd h) l6 l1 l2)), (0, .ref 227), (1, sy_i l1), (2, sy_i l2), (3, .ref 8), (6, sy_i l6)], [], h)) mj_d_93_59 (fun _ _ => rfl) ?_
          refine sy_inc (a := l6) (lv' := [(6, sy_i (l6 + 1)), (4, sy_i l6), (5, sy_i (dc_Ba_costBy (sy_rd h) l6 l1 l2)), (7, sy_i (dc_Ba_costBy (sy_rd h) l6 l1 l2)), (0, .ref 227), (1, sy_i l1), (2, sy_i l2), (3, .ref 8)]) mj_d_93_61 (Nat.le_of_ble_eq_true rfl) rfl rfl ?_
          refine sy_st (S' := (mj_m_93, 11, [(6, sy_i (l6 + 1)), (4, sy_i l6), (5, sy_i (dc_Ba_costBy (sy_rd h) l6 l1 l2)), (7, sy_i (dc_Ba_costBy (sy_rd h) l6 l1 l2)), (0, .ref 227), (1, sy_i l1), (2, sy_i l2), (3, .ref 8)], [], h)) mj_d_93_64 (fun _ _ => rfl) ?_
          refine sy_lv (lv := [(0, .ref 227), (1, sy_i l1), (2, sy_i l2), (3, .ref 8), (4, sy_i l6), (5, sy_i (dc_Ba_costBy (sy_rd h) l6 l1 l2)), (6, sy_i (l6 + 1))]) rfl ⟨rfl, rfl, rfl, rfl, rfl, rfl, rfl, trivial⟩ ?_
          exact ih hH (by first | omega | assumption) (by first | omega | assumption) (by first | omega | assumption) (by first | omega | assumption) (by first | omega | assumption) (by first | omega | assumption) (by first | omega | assumption) (by first | omega | assumption) (by first | omega | assumption) (by first | omega | assumption) (by first | omega | assumption) (by first | omega | assumption) (by first | omega | assumption) (by first | omega | assumption) (by omega)
set_option maxRecDepth 100000 in
theorem dt_Ba_cheapestGiver {h : mj_H} (hH : sy_H h) {a1 a2 : Int} (b_a1 : 0 ≤ a1) (t_a1 : a1 ≤ 8) (b_a2 : 0 ≤ a2) (t_a2 : a2 ≤ 624) (i0 : ba_ok (sy_rd h)) (i1 : a1 < (sy_rd h 227 6)) (i2 : a2 < (sy_rd h 227 7)) : sy_wp (mj_m_93, 0, [(0, .ref 227), (1, sy_i a1), (2, sy_i a2), (3, .ref 8)], [], h) (dq1 h (0) ((sy_rd h 8 4) - 1) (dc_Ba_cheapestGiver (sy_rd h) a1 a2)) := by
  unfold dc_Ba_cheapestGiver
  have n8_4 := hH.bd (a := 8) (k := 4) rfl (by decide) rfl
  have s0 := i0.2.2
  refine sy_st (S' := (mj_m_93, 1, [(0, .ref 227), (1, sy_i a1), (2, sy_i a2), (3, .ref 8)], [sy_i 0], h)) mj_d_93_0 (fun _ _ => rfl) ?_
  refine sy_st (S' := (mj_m_93, 3, [(4, sy_i 0), (0, .ref 227), (1, sy_i a1), (2, sy_i a2), (3, .ref 8)], [], h)) mj_d_93_1 (fun _ _ => rfl) ?_
  refine sy_sip mj_d_93_3 (by decide) ?_
  refine sy_st (S' := (mj_m_93, 8, [(5, sy_i 1000), (4, sy_i 0), (0, .ref 227), (1, sy_i a1), (2, sy_i a2), (3, .ref 8)], [], h)) mj_d_93_6 (fun _ _ => rfl) ?_
  refine sy_st (S' := (mj_m_93, 9, [(5, sy_i 1000), (4, sy_i 0), (0, .ref 227), (1, sy_i a1), (2, sy_i a2), (3, .ref 8)], [sy_i 0], h)) mj_d_93_8 (fun _ _ => rfl) ?_
  refine sy_st (S' := (mj_m_93, 11, [(6, sy_i 0), (5, sy_i 1000), (4, sy_i 0), (0, .ref 227), (1, sy_i a1), (2, sy_i a2), (3, .ref 8)], [], h)) mj_d_93_9 (fun _ _ => rfl) ?_
  refine sy_lv (lv := [(0, .ref 227), (1, sy_i a1), (2, sy_i a2), (3, .ref 8), (4, sy_i 0), (5, sy_i 1000), (6, sy_i 0)]) rfl ⟨rfl, rfl, rfl, rfl, rfl, rfl, rfl, trivial⟩ ?_
  exact dt_Ba_cheapestGiver_11 6 hH (by first | omega | assumption) (by first | omega | assumption) (by first | omega | assumption) (by first | omega | assumption) (by first | omega | assumption) (by first | omega | assumption) (by first | omega | assumption) (by first | omega | assumption) (by first | omega | assumption) (by first | omega | assumption) (by first | omega | assumption) (by first | omega | assumption) (by first | omega | assumption) (by first | omega | assumption) (by omega)
def dc_Ba_countCosts_2 (n : Nat) : sg_S → Int → Int → sg_S := Nat.rec (fun (s : sg_S) l1 l3 => s) (fun _ ih => fun s l1 l3 => (if (s 227 7) ≤ l3 then s else (if l1 < (s 232 ((l3).toNat)) then (ih s l1 (l3 + 1)) else (ih (sg_up s 233 (((l1 * (s 227 7)) + l3).toNat) (sy_w (dc_Ba_costBy s (dc_Ba_cheapestGiver s l1 l3) l1 l3))) l1 (l3 + 1))))) n
theorem dc_Ba_countCosts_2_s (n : Nat) (s : sg_S) (l1 l3 : Int) : dc_Ba_countCosts_2 (n + 1) s l1 l3 = (if (s 227 7) ≤ l3 then s else (if l1 < (s 232 ((l3).toNat)) then ((dc_Ba_countCosts_2 n) s l1 (l3 + 1)) else ((dc_Ba_countCosts_2 n) (sg_up s 233 (((l1 * (s 227 7)) + l3).toNat) (sy_w (dc_Ba_costBy s (dc_Ba_cheapestGiver s l1 l3) l1 l3))) l1 (l3 + 1)))) := rfl
def dc_Ba_countCosts (s : sg_S) (a1 : Int) : sg_S := (dc_Ba_countCosts_2 626 s a1 0)
def dw_Ba_countCosts (a k : Nat) : Bool := (a == 233)
theorem dr_Ba_countCosts_2 (a k : Nat) (h : dw_Ba_countCosts a k = false) : ∀ (n : Nat) (s : sg_S) (l1 l3 : Int), (dc_Ba_countCosts_2 n s l1 l3) a k = s a k := by
  have h0 := h
  unfold dw_Ba_countCosts at h
  have h1 := h
  intro n
  induction n with
  | zero => intro s l1 l3; rfl
  | succ n ih =>
    intro s l1 l3
    rw [dc_Ba_countCosts_2_s]
    (repeat' split) <;> simp only [(fun s l z => sg_upa (s := s) (l := l) (z := z) (k := k) h1), ih]
theorem dr_Ba_countCosts (s : sg_S) (a1 : Int) (a k : Nat) (h : dw_Ba_countCosts a k = false) : (dc_Ba_countCosts s a1) a k = s a k := by
  have h0 := h
  unfold dw_Ba_countCosts at h
  have h1 := h
  unfold dc_Ba_countCosts
  (repeat' split) <;> simp only [(fun s l z => sg_upa (s := s) (l := l) (z := z) (k := k) h1), (dr_Ba_countCosts_2 a k h0)]
set_option maxRecDepth 100000 in
theorem dt_Ba_countCosts_2 : ∀ (n : Nat) {h : mj_H} (hH : sy_H h) {l1 l3 : Int} (b_l1 : 0 ≤ l1) (t_l1 : l1 ≤ 8) (b_l3 : 0 ≤ l3) (t_l3 : l3 ≤ 625) (i0 : ba_ok (sy_rd h)) (i1 : l1 < (sy_rd h 227 6)) (hm : 625 - l3 < (n : Int)), sy_wp (mj_m_92, 2, [(0, .ref 227), (1, sy_i l1), (2, .ref 8), (3, sy_i l3)], [], h) (dq5 (fun σ => ba_ok σ) (dc_Ba_countCosts_2 n (sy_rd h) l1 l3)) := by
  intro n
  induction n with
  | zero =>
    intro h hH l1 l3 b_l1 t_l1 b_l3 t_l3 i0 i1 hm
    have n227_7 := hH.bd (a := 227) (k := 7) rfl (by decide) rfl
    have n8_4 := hH.bd (a := 8) (k := 4) rfl (by decide) rfl
    exact absurd hm (by omega)
  | succ n ih =>
    intro h hH l1 l3 b_l1 t_l1 b_l3 t_l3 i0 i1 hm
    rw [dc_Ba_countCosts_2_s]
    have n227_7 := hH.bd (a := 227) (k := 7) rfl (by decide) rfl
    have n8_4 := hH.bd (a := 8) (k := 4) rfl (by decide) rfl
    refine sy_st (S' := (mj_m_92, 3, [(0, .ref 227), (1, sy_i l1), (2, .ref 8), (3, sy_i l3)], [sy_i l3], h)) mj_d_92_2 (fun _ _ => rfl) ?_
    refine sy_st (S' := (mj_m_92, 4, [(0, .ref 227), (1, sy_i l1), (2, .ref 8), (3, sy_i l3)], [.ref 227, sy_i l3], h)) mj_d_92_3 (fun _ _ => rfl) ?_
    refine sy_gf mj_d_92_4 rfl rfl (by decide) rfl hH ?_
    intro x1 ex1 bx1 tx1
    replace ex1 : x1 = sy_rd h 227 7 := ex1
    subst ex1
    refine sy_icm mj_d_92_7 rfl ⟨by omega, by omega⟩ ⟨by omega, by omega⟩ (fun (c2 : (sy_rd h 227 7) ≤ l3) => ?_) (fun (c2 : ¬ ((sy_rd h 227 7) ≤ l3)) => ?_)
    · skip
      rw [if_pos c2]
      exact sy_retv mj_d_92_53 rfl ⟨rfl, hH, rfl, by exact i0⟩
    · skip
      rw [if_neg c2]
      refine sy_st (S' := (mj_m_92, 11, [(0, .ref 227), (1, sy_i l1), (2, .ref 8), (3, sy_i l3)], [.ref 227], h)) mj_d_92_10 (fun _ _ => rfl) ?_
      refine sy_gr2 (b := 232) mj_d_92_11 rfl rfl (by decide) rfl rfl hH ?_
      refine sy_st (S' := (mj_m_92, 15, [(0, .ref 227), (1, sy_i l1), (2, .ref 8), (3, sy_i l3)], [sy_i l3, .ref 232], h)) mj_d_92_14 (fun _ _ => rfl) ?_
      refine sy_ia mj_d_92_15 rfl (by decide) (by omega) (by omega) (ab_el_1 rfl _) hH ?_
      rintro _ rfl bx3 tx3
      refine sy_st (S' := (mj_m_92, 17, [(0, .ref 227), (1, sy_i l1), (2, .ref 8), (3, sy_i l3)], [sy_i l1, sy_i (sy_rd h 232 ((l3).toNat))], h)) mj_d_92_16 (fun _ _ => rfl) ?_
      refine sy_icm mj_d_92_17 rfl ⟨by omega, by omega⟩ ⟨by omega, by omega⟩ (fun (c4 : l1 < (sy_rd h 232 ((l3).toNat))) => ?_) (fun (c4 : ¬ (l1 < (sy_rd h 232 ((l3).toNat)))) => ?_)
      · skip
        rw [if_pos c4]
        refine sy_inc (a := l3) (lv' := [(3, sy_i (l3 + 1)), (0, .ref 227), (1, sy_i l1), (2, .ref 8)]) mj_d_92_47 (Nat.le_of_ble_eq_true rfl) rfl rfl ?_
        refine sy_st (S' := (mj_m_92, 2, [(3, sy_i (l3 + 1)), (0, .ref 227), (1, sy_i l1), (2, .ref 8)], [], h)) mj_d_92_50 (fun _ _ => rfl) ?_
        refine sy_lv (lv := [(0, .ref 227), (1, sy_i l1), (2, .ref 8), (3, sy_i (l3 + 1))]) rfl ⟨rfl, rfl, rfl, rfl, trivial⟩ ?_
        exact ih hH (by first | omega | assumption) (by first | omega | assumption) (by first | omega | assumption) (by first | omega | assumption) (by first | exact i0 | (rw [rfl]; exact ba_ok_up i0)) (by first | omega | (rw [rfl, sg_na (by decide)]; omega)) (by omega)
      · skip
        rw [if_neg c4]
        have ix := ba_ix i0 b_l1 i1 b_l3 (by omega)
        refine sy_st (S' := (mj_m_92, 21, [(0, .ref 227), (1, sy_i l1), (2, .ref 8), (3, sy_i l3)], [.ref 227], h)) mj_d_92_20 (fun _ _ => rfl) ?_
        refine sy_gr2 (b := 233) mj_d_92_21 rfl rfl (by decide) rfl rfl hH ?_
        refine sy_st (S' := (mj_m_92, 25, [(0, .ref 227), (1, sy_i l1), (2, .ref 8), (3, sy_i l3)], [sy_i l1, .ref 233], h)) mj_d_92_24 (fun _ _ => rfl) ?_
        refine sy_st (S' := (mj_m_92, 26, [(0, .ref 227), (1, sy_i l1), (2, .ref 8), (3, sy_i l3)], [.ref 227, sy_i l1, .ref 233], h)) mj_d_92_25 (fun _ _ => rfl) ?_
        refine sy_gf mj_d_92_26 rfl rfl (by decide) rfl hH ?_
        intro x5 ex5 bx5 tx5
        replace ex5 : x5 = sy_rd h 227 7 := ex5
        subst ex5
        refine sy_mul mj_d_92_29 ?_
        have q6 := sg_mul_f l1 (sy_rd h 227 7)
        refine sy_st (S' := (mj_m_92, 31, [(0, .ref 227), (1, sy_i l1), (2, .ref 8), (3, sy_i l3)], [sy_i l3, sy_i (l1 * (sy_rd h 227 7)), .ref 233], h)) mj_d_92_30 (fun _ _ => rfl) ?_
        refine sy_add mj_d_92_31 ?_
        refine sy_st (S' := (mj_m_92, 33, [(0, .ref 227), (1, sy_i l1), (2, .ref 8), (3, sy_i l3)], [.ref 227, sy_i ((l1 * (sy_rd h 227 7)) + l3), .ref 233], h)) mj_d_92_32 (fun _ _ => rfl) ?_
        refine sy_st (S' := (mj_m_92, 34, [(0, .ref 227), (1, sy_i l1), (2, .ref 8), (3, sy_i l3)], [.ref 227, .ref 227, sy_i ((l1 * (sy_rd h 227 7)) + l3), .ref 233], h)) mj_d_92_33 (fun _ _ => rfl) ?_
        refine sy_st (S' := (mj_m_92, 35, [(0, .ref 227), (1, sy_i l1), (2, .ref 8), (3, sy_i l3)], [sy_i l1, .ref 227, .ref 227, sy_i ((l1 * (sy_rd h 227 7)) + l3), .ref 233], h)) mj_d_92_34 (fun _ _ => rfl) ?_
        refine sy_st (S' := (mj_m_92, 36, [(0, .ref 227), (1, sy_i l1), (2, .ref 8), (3, sy_i l3)], [sy_i l3, sy_i l1, .ref 227, .ref 227, sy_i ((l1 * (sy_rd h 227 7)) + l3), .ref 233], h)) mj_d_92_35 (fun _ _ => rfl) ?_
        refine sy_st (S' := (mj_m_92, 37, [(0, .ref 227), (1, sy_i l1), (2, .ref 8), (3, sy_i l3)], [.ref 8, sy_i l3, sy_i l1, .ref 227, .ref 227, sy_i ((l1 * (sy_rd h 227 7)) + l3), .ref 233], h)) mj_d_92_36 (fun _ _ => rfl) ?_
        refine sy_cv (M' := mj_m_93) (vs := [.ref 227, sy_i l1, sy_i l3, .ref 8]) (rest := [.ref 227, sy_i ((l1 * (sy_rd h 227 7)) + l3), .ref 233]) mj_d_92_37 rfl rfl rfl rfl hH rfl rfl ⟨by decide, ⟨Nat.le_of_ble_eq_true rfl, Nat.le_of_ble_eq_true rfl, Nat.le_of_ble_eq_true rfl, Nat.le_of_ble_eq_true rfl, Nat.le_of_ble_eq_true rfl⟩⟩ (dt_Ba_cheapestGiver (a1 := l1) (a2 := l3) hH (by omega) (by omega) (by omega) (by omega) (by first | omega | assumption) (by first | omega | assumption) (by first | omega | assumption)) ?_
        rintro _ _ ⟨rfl, rfl, b7, b7t⟩
        show sy_wp (mj_m_92, 40, [(0, .ref 227), (1, sy_i l1), (2, .ref 8), (3, sy_i l3)], [sy_i (dc_Ba_cheapestGiver (sy_rd h) l1 l3), .ref 227, sy_i ((l1 * (sy_rd h 227 7)) + l3), .ref 233], h) _
        refine sy_st (S' := (mj_m_92, 41, [(0, .ref 227), (1, sy_i l1), (2, .ref 8), (3, sy_i l3)], [sy_i l1, sy_i (dc_Ba_cheapestGiver (sy_rd h) l1 l3), .ref 227, sy_i ((l1 * (sy_rd h 227 7)) + l3), .ref 233], h)) mj_d_92_40 (fun _ _ => rfl) ?_
        refine sy_st (S' := (mj_m_92, 42, [(0, .ref 227), (1, sy_i l1), (2, .ref 8), (3, sy_i l3)], [sy_i l3, sy_i l1, sy_i (dc_Ba_cheapestGiver (sy_rd h) l1 l3), .ref 227, sy_i ((l1 * (sy_rd h 227 7)) + l3), .ref 233], h)) mj_d_92_41 (fun _ _ => rfl) ?_
        refine sy_st (S' := (mj_m_92, 43, [(0, .ref 227), (1, sy_i l1), (2, .ref 8), (3, sy_i l3)], [.ref 8, sy_i l3, sy_i l1, sy_i (dc_Ba_cheapestGiver (sy_rd h) l1 l3), .ref 227, sy_i ((l1 * (sy_rd h 227 7)) + l3), .ref 233], h)) mj_d_92_42 (fun _ _ => rfl) ?_
        refine sy_cv (M' := mj_m_94) (vs := [.ref 227, sy_i (dc_Ba_cheapestGiver (sy_rd h) l1 l3), sy_i l1, sy_i l3, .ref 8]) (rest := [sy_i ((l1 * (sy_rd h 227 7)) + l3), .ref 233]) mj_d_92_43 rfl rfl rfl rfl hH rfl rfl ⟨by decide, ⟨Nat.le_of_ble_eq_true rfl, Nat.le_of_ble_eq_true rfl, Nat.le_of_ble_eq_true rfl, Nat.le_of_ble_eq_true rfl, Nat.le_of_ble_eq_true rfl⟩⟩ (dt_Ba_costBy (a1 := (dc_Ba_cheapestGiver (sy_rd h) l1 l3)) (a2 := l1) (a3 := l3) hH (by omega) (by omega) (by omega) (by omega) (by omega) (by omega) (by first | omega | assumption) (by first | omega | assumption) (by first | omega | assumption) (by first | omega | assumption)) ?_
        rintro _ _ ⟨rfl, rfl, b8, b8t⟩
        show sy_wp (mj_m_92, 46, [(0, .ref 227), (1, sy_i l1), (2, .ref 8), (3, sy_i l3)], [sy_i (dc_Ba_costBy (sy_rd h) (dc_Ba_cheapestGiver (sy_rd h) l1 l3) l1 l3), sy_i ((l1 * (sy_rd h 227 7)) + l3), .ref 233], h) _
        refine sg_iasw (v := (dc_Ba_costBy (sy_rd h) (dc_Ba_cheapestGiver (sy_rd h) l1 l3) l1 l3)) mj_d_92_46 rfl (by decide) (by omega) (by omega) (ab_el_1 rfl _) hH ?_
        intro h9 th9 eh9
        refine sy_inc (a := l3) (lv' := [(3, sy_i (l3 + 1)), (0, .ref 227), (1, sy_i l1), (2, .ref 8)]) mj_d_92_47 (Nat.le_of_ble_eq_true rfl) rfl rfl ?_
        refine sy_st (S' := (mj_m_92, 2, [(3, sy_i (l3 + 1)), (0, .ref 227), (1, sy_i l1), (2, .ref 8)], [], h9)) mj_d_92_50 (fun _ _ => rfl) ?_
        refine sy_lv (lv := [(0, .ref 227), (1, sy_i l1), (2, .ref 8), (3, sy_i (l3 + 1))]) rfl ⟨rfl, rfl, rfl, rfl, trivial⟩ ?_
        rw [← eh9]
        exact ih th9 (by first | omega | assumption) (by first | omega | assumption) (by first | omega | assumption) (by first | omega | assumption) (by first | exact i0 | (rw [eh9]; exact ba_ok_up i0)) (by first | omega | (rw [eh9, sg_na (by decide)]; omega)) (by omega)
set_option maxRecDepth 100000 in
theorem dt_Ba_countCosts {h : mj_H} (hH : sy_H h) {a1 : Int} (b_a1 : 0 ≤ a1) (t_a1 : a1 ≤ 8) (i0 : ba_ok (sy_rd h)) (i1 : a1 < (sy_rd h 227 6)) : sy_wp (mj_m_92, 0, [(0, .ref 227), (1, sy_i a1), (2, .ref 8)], [], h) (dq5 (fun σ => ba_ok σ) (dc_Ba_countCosts (sy_rd h) a1)) := by
  unfold dc_Ba_countCosts
  refine sy_st (S' := (mj_m_92, 1, [(0, .ref 227), (1, sy_i a1), (2, .ref 8)], [sy_i 0], h)) mj_d_92_0 (fun _ _ => rfl) ?_
  refine sy_st (S' := (mj_m_92, 2, [(3, sy_i 0), (0, .ref 227), (1, sy_i a1), (2, .ref 8)], [], h)) mj_d_92_1 (fun _ _ => rfl) ?_
  refine sy_lv (lv := [(0, .ref 227), (1, sy_i a1), (2, .ref 8), (3, sy_i 0)]) rfl ⟨rfl, rfl, rfl, rfl, trivial⟩ ?_
  exact dt_Ba_countCosts_2 626 hH (by first | omega | assumption) (by first | omega | assumption) (by first | omega | assumption) (by first | omega | assumption) (by first | omega | assumption) (by first | omega | assumption) (by omega)
def dc_Ba_settle_125 (n : Nat) : sg_S → Int → sg_S × Int := Nat.rec (fun (s : sg_S) l6 => (s, 0)) (fun _ ih => fun s l6 => (if l6 < 0 then (s, 1) else (ih (dc_Ba_countCosts s l6) (l6 + (-1))))) n
theorem dc_Ba_settle_125_s (n : Nat) (s : sg_S) (l6 : Int) : dc_Ba_settle_125 (n + 1) s l6 = (if l6 < 0 then (s, 1) else ((dc_Ba_settle_125 n) (dc_Ba_countCosts s l6) (l6 + (-1)))) := rfl
def dc_Ba_settle_84 (n : Nat) : sg_S → Int → sg_S × Int := Nat.rec (fun (s : sg_S) l6 => (s, 0)) (fun _ ih => fun s l6 => (if (s 227 7) ≤ l6 then (dc_Ba_settle_125 10 s ((s 227 6) - 1)) else (ih (sg_up s 233 ((((s 227 6) * (s 227 7)) + l6).toNat) 0) (l6 + 1)))) n
theorem dc_Ba_settle_84_s (n : Nat) (s : sg_S) (l6 : Int) : dc_Ba_settle_84 (n + 1) s l6 = (if (s 227 7) ≤ l6 then (dc_Ba_settle_125 10 s ((s 227 6) - 1)) else ((dc_Ba_settle_84 n) (sg_up s 233 ((((s 227 6) * (s 227 7)) + l6).toNat) 0) (l6 + 1))) := rfl
def dc_Ba_settle_25 (n : Nat) : sg_S → Int → Int → Int → sg_S × Int := Nat.rec (fun (s : sg_S) l1 l5 l6 => (s, 0)) (fun _ ih => fun s l1 l5 l6 => (if (s 227 6) ≤ l6 then (if (((s 227 6) + 1) * ((dc_Ba_listTallies s l1 l5) 227 7)) ≤ 3750 then (dc_Ba_settle_84 626 (dc_Ba_listTallies s l1 l5) 0) else ((dc_Ba_listTallies s l1 l5), 0)) else (if (s 229 ((l6).toNat)) = 0 then (s, 0) else (ih s l1 l5 (l6 + 1))))) n
theorem dc_Ba_settle_25_s (n : Nat) (s : sg_S) (l1 l5 l6 : Int) : dc_Ba_settle_25 (n + 1) s l1 l5 l6 = (if (s 227 6) ≤ l6 then (if (((s 227 6) + 1) * ((dc_Ba_listTallies s l1 l5) 227 7)) ≤ 3750 then (dc_Ba_settle_84 626 (dc_Ba_listTallies s l1 l5) 0) else ((dc_Ba_listTallies s l1 l5), 0)) else (if (s 229 ((l6).toNat)) = 0 then (s, 0) else ((dc_Ba_settle_25 n) s l1 l5 (l6 + 1)))) := rfl
def dc_Ba_settle (s : sg_S) (a1 a2 : Int) : sg_S × Int := (dc_Ba_settle_25 10 (dc_Ba_listNeeds s a1 (sy_and a2 (sy_xor (s 17 ((a1).toNat)) (-1)))) a1 (sy_and a2 (sy_xor (s 17 ((a1).toNat)) (-1))) 0)
def dw_Ba_settle (a k : Nat) : Bool := dw_Ba_listNeeds a k || dw_Ba_listTallies a k || (a == 233) || dw_Ba_countCosts a k
theorem dr_Ba_settle_125 (a k : Nat) (h : dw_Ba_settle a k = false) : ∀ (n : Nat) (s : sg_S) (l6 : Int), (dc_Ba_settle_125 n s l6).1 a k = s a k := by
  have h0 := h
  unfold dw_Ba_settle at h
  simp only [Bool.or_eq_false_iff] at h
  obtain ⟨⟨⟨h1, h2⟩, h3⟩, h4⟩ := h
  intro n
  induction n with
  | zero => intro s l6; rfl
  | succ n ih =>
    intro s l6
    rw [dc_Ba_settle_125_s]
    (repeat' split) <;> simp only [(fun s x0 x1 => dr_Ba_listNeeds s x0 x1 a k h1), (fun s x0 x1 => dr_Ba_listTallies s x0 x1 a k h2), (fun s l z => sg_upa (s := s) (l := l) (z := z) (k := k) h3), (fun s x0 => dr_Ba_countCosts s x0 a k h4), ih]
theorem dr_Ba_settle_84 (a k : Nat) (h : dw_Ba_settle a k = false) : ∀ (n : Nat) (s : sg_S) (l6 : Int), (dc_Ba_settle_84 n s l6).1 a k = s a k := by
  have h0 := h
  unfold dw_Ba_settle at h
  simp only [Bool.or_eq_false_iff] at h
  obtain ⟨⟨⟨h1, h2⟩, h3⟩, h4⟩ := h
  intro n
  induction n with
  | zero => intro s l6; rfl
  | succ n ih =>
    intro s l6
    rw [dc_Ba_settle_84_s]
    (repeat' split) <;> simp only [(fun s x0 x1 => dr_Ba_listNeeds s x0 x1 a k h1), (fun s x0 x1 => dr_Ba_listTallies s x0 x1 a k h2), (fun s l z => sg_upa (s := s) (l := l) (z := z) (k := k) h3), (fun s x0 => dr_Ba_countCosts s x0 a k h4), ih, (dr_Ba_settle_125 a k h0)]
theorem dr_Ba_settle_25 (a k : Nat) (h : dw_Ba_settle a k = false) : ∀ (n : Nat) (s : sg_S) (l1 l5 l6 : Int), (dc_Ba_settle_25 n s l1 l5 l6).1 a k = s a k := by
  have h0 := h
  unfold dw_Ba_settle at h
  simp only [Bool.or_eq_false_iff] at h
  obtain ⟨⟨⟨h1, h2⟩, h3⟩, h4⟩ := h
  intro n
  induction n with
  | zero => intro s l1 l5 l6; rfl
  | succ n ih =>
    intro s l1 l5 l6
    rw [dc_Ba_settle_25_s]
    (repeat' split) <;> simp only [(fun s x0 x1 => dr_Ba_listNeeds s x0 x1 a k h1), (fun s x0 x1 => dr_Ba_listTallies s x0 x1 a k h2), (fun s l z => sg_upa (s := s) (l := l) (z := z) (k := k) h3), (fun s x0 => dr_Ba_countCosts s x0 a k h4), ih, (dr_Ba_settle_125 a k h0), (dr_Ba_settle_84 a k h0)]
theorem dr_Ba_settle (s : sg_S) (a1 a2 : Int) (a k : Nat) (h : dw_Ba_settle a k = false) : (dc_Ba_settle s a1 a2).1 a k = s a k := by
  have h0 := h
  unfold dw_Ba_settle at h
  simp only [Bool.or_eq_false_iff] at h
  obtain ⟨⟨⟨h1, h2⟩, h3⟩, h4⟩ := h
  unfold dc_Ba_settle
  (repeat' split) <;> simp only [(fun s x0 x1 => dr_Ba_listNeeds s x0 x1 a k h1), (fun s x0 x1 => dr_Ba_listTallies s x0 x1 a k h2), (fun s l z => sg_upa (s := s) (l := l) (z := z) (k := k) h3), (fun s x0 => dr_Ba_countCosts s x0 a k h4), (dr_Ba_settle_125 a k h0), (dr_Ba_settle_84 a k h0), (dr_Ba_settle_25 a k h0)]
set_option maxRecDepth 100000 in
theorem dt_Ba_settle_125 : ∀ (n : Nat) {h : mj_H} (hH : sy_H h) {l6 : Int} (b_l6 : (-1) ≤ l6) (t_l6 : l6 ≤ 8) (i0 : ba_ok (sy_rd h)) (i1 : l6 < (sy_rd h 227 6)) (hm : l6 + 1 < (n : Int)), sy_wp (mj_m_87, 125, [(0, .ref 227), (4, .ref 8), (6, sy_i l6)], [], h) (dq4 (fun σ ρ => ρ = 0 ∨ ba_ok σ) (0) (1) (dc_Ba_settle_125 n (sy_rd h) l6)) := by
  intro n
  induction n with
  | zero =>
    intro h hH l6 b_l6 t_l6 i0 i1 hm
    exact absurd hm (by omega)
  | succ n ih =>
    intro h hH l6 b_l6 t_l6 i0 i1 hm
    rw [dc_Ba_settle_125_s]
    refine sy_st (S' := (mj_m_87, 127, [(0, .ref 227), (4, .ref 8), (6, sy_i l6)], [sy_i l6], h)) mj_d_87_125 (fun _ _ => rfl) ?_
    refine sy_ifc mj_d_87_127 rfl ⟨by omega, by omega⟩ (fun (c1 : l6 < 0) => ?_) (fun (c1 : ¬ (l6 < 0)) => ?_)
    · skip
      rw [if_pos c1]
      refine sy_st (S' := (mj_m_87, 145, [(0, .ref 227), (4, .ref 8), (6, sy_i l6)], [sy_i 1], h)) mj_d_87_144 (fun _ _ => rfl) ?_
      exact sy_retb mj_d_87_145 rfl ⟨by omega, by omega⟩ ⟨hH, rfl, rfl, by omega, by omega, by exact Or.inr i0⟩
    · skip
      rw [if_neg c1]
      refine sy_st (S' := (mj_m_87, 131, [(0, .ref 227), (4, .ref 8), (6, sy_i l6)], [.ref 227], h)) mj_d_87_130 (fun _ _ => rfl) ?_
      refine sy_st (S' := (mj_m_87, 133, [(0, .ref 227), (4, .ref 8), (6, sy_i l6)], [sy_i l6, .ref 227], h)) mj_d_87_131 (fun _ _ => rfl) ?_
      refine sy_st (S' := (mj_m_87, 135, [(0, .ref 227), (4, .ref 8), (6, sy_i l6)], [.ref 8, sy_i l6, .ref 227], h)) mj_d_87_133 (fun _ _ => rfl) ?_
      refine sy_cv (M' := mj_m_92) (vs := [.ref 227, sy_i l6, .ref 8]) (rest := []) mj_d_87_135 rfl rfl rfl rfl hH rfl rfl ⟨by decide, ⟨Nat.le_of_ble_eq_true rfl, Nat.le_of_ble_eq_true rfl, Nat.le_of_ble_eq_true rfl, Nat.le_of_ble_eq_true rfl, Nat.le_of_ble_eq_true rfl⟩⟩ (dt_Ba_countCosts (a1 := l6) hH (by omega) (by omega) (by first | omega | assumption) (by first | omega | assumption)) ?_
      rintro _ h2 ⟨rfl, th2, eh2, nh2⟩
      show sy_wp (mj_m_87, 138, [(0, .ref 227), (4, .ref 8), (6, sy_i l6)], [], h2) _
      refine sy_inc (a := l6) (lv' := [(6, sy_i (l6 + (-1))), (0, .ref 227), (4, .ref 8)]) mj_d_87_138 (Nat.le_of_ble_eq_true rfl) rfl rfl ?_
      refine sy_st (S' := (mj_m_87, 125, [(6, sy_i (l6 + (-1))), (0, .ref 227), (4, .ref 8)], [], h2)) mj_d_87_141 (fun _ _ => rfl) ?_
      refine sy_lv (lv := [(0, .ref 227), (4, .ref 8), (6, sy_i (l6 + (-1)))]) rfl ⟨rfl, rfl, rfl, trivial⟩ ?_
      rw [← eh2]
      exact ih th2 (by first | omega | assumption) (by first | omega | assumption) (by rw [eh2]; exact nh2) (by rw [eh2, dr_Ba_countCosts _ _ 227 6 rfl]; omega) (by omega)
set_option maxRecDepth 100000 in
theorem dt_Ba_settle_84 : ∀ (n : Nat) {h : mj_H} (hH : sy_H h) {l6 : Int} (b_l6 : 0 ≤ l6) (t_l6 : l6 ≤ 625) (i0 : ba_ok (sy_rd h)) (hm : 625 - l6 < (n : Int)), sy_wp (mj_m_87, 84, [(0, .ref 227), (4, .ref 8), (6, sy_i l6)], [], h) (dq4 (fun σ ρ => ρ = 0 ∨ ba_ok σ) (0) (1) (dc_Ba_settle_84 n (sy_rd h) l6)) := by
  intro n
  induction n with
  | zero =>
    intro h hH l6 b_l6 t_l6 i0 hm
    have n227_6 := hH.bd (a := 227) (k := 6) rfl (by decide) rfl
    have n227_7 := hH.bd (a := 227) (k := 7) rfl (by decide) rfl
    exact absurd hm (by omega)
  | succ n ih =>
    intro h hH l6 b_l6 t_l6 i0 hm
    rw [dc_Ba_settle_84_s]
    have n227_6 := hH.bd (a := 227) (k := 6) rfl (by decide) rfl
    have n227_7 := hH.bd (a := 227) (k := 7) rfl (by decide) rfl
    refine sy_st (S' := (mj_m_87, 86, [(0, .ref 227), (4, .ref 8), (6, sy_i l6)], [sy_i l6], h)) mj_d_87_84 (fun _ _ => rfl) ?_
    refine sy_st (S' := (mj_m_87, 87, [(0, .ref 227), (4, .ref 8), (6, sy_i l6)], [.ref 227, sy_i l6], h)) mj_d_87_86 (fun _ _ => rfl) ?_
    refine sy_gf mj_d_87_87 rfl rfl (by decide) rfl hH ?_
    intro x1 ex1 bx1 tx1
    replace ex1 : x1 = sy_rd h 227 7 := ex1
    subst ex1
    refine sy_icm mj_d_87_90 rfl ⟨by omega, by omega⟩ ⟨by omega, by omega⟩ (fun (c2 : (sy_rd h 227 7) ≤ l6) => ?_) (fun (c2 : ¬ ((sy_rd h 227 7) ≤ l6)) => ?_)
    · skip
      rw [if_pos c2]
      refine sy_st (S' := (mj_m_87, 118, [(0, .ref 227), (4, .ref 8), (6, sy_i l6)], [.ref 227], h)) mj_d_87_117 (fun _ _ => rfl) ?_
      refine sy_gf mj_d_87_118 rfl rfl (by decide) rfl hH ?_
      intro x3 ex3 bx3 tx3
      replace ex3 : x3 = sy_rd h 227 6 := ex3
      subst ex3
      refine sy_st (S' := (mj_m_87, 122, [(0, .ref 227), (4, .ref 8), (6, sy_i l6)], [sy_i 1, sy_i (sy_rd h 227 6)], h)) mj_d_87_121 (fun _ _ => rfl) ?_
      refine sy_sub mj_d_87_122 ?_
      refine sy_st (S' := (mj_m_87, 125, [(6, sy_i ((sy_rd h 227 6) - 1)), (0, .ref 227), (4, .ref 8)], [], h)) mj_d_87_123 (fun _ _ => rfl) ?_
      refine sy_lv (lv := [(0, .ref 227), (4, .ref 8), (6, sy_i ((sy_rd h 227 6) - 1))]) rfl ⟨rfl, rfl, rfl, trivial⟩ ?_
      exact dt_Ba_settle_125 10 hH (by first | omega | assumption) (by first | omega | assumption) (by first | omega | assumption) (by first | omega | assumption) (by omega)
    · skip
      rw [if_neg c2]
      have ix := ba_ix3 (t := l6) i0 (by omega) (by omega) (by omega)
      refine sy_st (S' := (mj_m_87, 94, [(0, .ref 227), (4, .ref 8), (6, sy_i l6)], [.ref 227], h)) mj_d_87_93 (fun _ _ => rfl) ?_
      refine sy_gr2 (b := 233) mj_d_87_94 rfl rfl (by decide) rfl rfl hH ?_
      refine sy_st (S' := (mj_m_87, 98, [(0, .ref 227), (4, .ref 8), (6, sy_i l6)], [.ref 227, .ref 233], h)) mj_d_87_97 (fun _ _ => rfl) ?_
      refine sy_gf mj_d_87_98 rfl rfl (by decide) rfl hH ?_
      intro x4 ex4 bx4 tx4
      replace ex4 : x4 = sy_rd h 227 6 := ex4
      subst ex4
      refine sy_st (S' := (mj_m_87, 102, [(0, .ref 227), (4, .ref 8), (6, sy_i l6)], [.ref 227, sy_i (sy_rd h 227 6), .ref 233], h)) mj_d_87_101 (fun _ _ => rfl) ?_
      refine sy_gf mj_d_87_102 rfl rfl (by decide) rfl hH ?_
      intro x5 ex5 bx5 tx5
      replace ex5 : x5 = sy_rd h 227 7 := ex5
      subst ex5
      refine sy_mul mj_d_87_105 ?_
      have q6 := sg_mul_f (sy_rd h 227 6) (sy_rd h 227 7)
      refine sy_st (S' := (mj_m_87, 108, [(0, .ref 227), (4, .ref 8), (6, sy_i l6)], [sy_i l6, sy_i ((sy_rd h 227 6) * (sy_rd h 227 7)), .ref 233], h)) mj_d_87_106 (fun _ _ => rfl) ?_
      refine sy_add mj_d_87_108 ?_
      refine sy_st (S' := (mj_m_87, 110, [(0, .ref 227), (4, .ref 8), (6, sy_i l6)], [sy_i 0, sy_i (((sy_rd h 227 6) * (sy_rd h 227 7)) + l6), .ref 233], h)) mj_d_87_109 (fun _ _ => rfl) ?_
      refine sg_ias (v := 0) mj_d_87_110 rfl (by decide) (by omega) (by omega) (ab_el_1 rfl _) hH (by omega) (by omega) ⟨by omega, by omega⟩ ?_
      intro h7 th7 eh7
      refine sy_inc (a := l6) (lv' := [(6, sy_i (l6 + 1)), (0, .ref 227), (4, .ref 8)]) mj_d_87_111 (Nat.le_of_ble_eq_true rfl) rfl rfl ?_
      refine sy_st (S' := (mj_m_87, 84, [(6, sy_i (l6 + 1)), (0, .ref 227), (4, .ref 8)], [], h7)) mj_d_87_114 (fun _ _ => rfl) ?_
      refine sy_lv (lv := [(0, .ref 227), (4, .ref 8), (6, sy_i (l6 + 1))]) rfl ⟨rfl, rfl, rfl, trivial⟩ ?_
      rw [← eh7]
      exact ih th7 (by first | omega | assumption) (by first | omega | assumption) (by rw [eh7]; exact ba_ok_up i0) (by omega)
set_option maxRecDepth 100000 in
theorem dt_Ba_settle_25 : ∀ (n : Nat) {h : mj_H} (hH : sy_H h) {l1 l5 l6 : Int} (b_l1 : 0 ≤ l1) (t_l1 : l1 ≤ 4) (b_l5 : 0 ≤ l5) (t_l5 : l5 ≤ 511) (b_l6 : 0 ≤ l6) (t_l6 : l6 ≤ 9) (i0 : l1 < (sy_rd h 8 4)) (i1 : sy_and l5 (sy_rd h 17 (l1).toNat) = 0) (hm : 9 - l6 < (n : Int)), sy_wp (mj_m_87, 25, [(0, .ref 227), (1, sy_i l1), (3, .ref 13), (4, .ref 8), (5, sy_i l5), (6, sy_i l6)], [], h) (dq4 (fun σ ρ => ρ = 0 ∨ ba_ok σ) (0) (1) (dc_Ba_settle_25 n (sy_rd h) l1 l5 l6)) := by
  intro n
  induction n with
  | zero =>
    intro h hH l1 l5 l6 b_l1 t_l1 b_l5 t_l5 b_l6 t_l6 i0 i1 hm
    have n227_6 := hH.bd (a := 227) (k := 6) rfl (by decide) rfl
    exact absurd hm (by omega)
  | succ n ih =>
    intro h hH l1 l5 l6 b_l1 t_l1 b_l5 t_l5 b_l6 t_l6 i0 i1 hm
    rw [dc_Ba_settle_25_s]
    have n227_6 := hH.bd (a := 227) (k := 6) rfl (by decide) rfl
    refine sy_st (S' := (mj_m_87, 27, [(0, .ref 227), (1, sy_i l1), (3, .ref 13), (4, .ref 8), (5, sy_i l5), (6, sy_i l6)], [sy_i l6], h)) mj_d_87_25 (fun _ _ => rfl) ?_
    refine sy_st (S' := (mj_m_87, 28, [(0, .ref 227), (1, sy_i l1), (3, .ref 13), (4, .ref 8), (5, sy_i l5), (6, sy_i l6)], [.ref 227, sy_i l6], h)) mj_d_87_27 (fun _ _ => rfl) ?_
    refine sy_gf mj_d_87_28 rfl rfl (by decide) rfl hH ?_
    intro x1 ex1 bx1 tx1
    replace ex1 : x1 = sy_rd h 227 6 := ex1
    subst ex1
    refine sy_icm mj_d_87_31 rfl ⟨by omega, by omega⟩ ⟨by omega, by omega⟩ (fun (c2 : (sy_rd h 227 6) ≤ l6) => ?_) (fun (c2 : ¬ ((sy_rd h 227 6) ≤ l6)) => ?_)
    · skip
      rw [if_pos c2]
      refine sy_st (S' := (mj_m_87, 53, [(0, .ref 227), (1, sy_i l1), (3, .ref 13), (4, .ref 8), (5, sy_i l5), (6, sy_i l6)], [.ref 227], h)) mj_d_87_52 (fun _ _ => rfl) ?_
      refine sy_st (S' := (mj_m_87, 54, [(0, .ref 227), (1, sy_i l1), (3, .ref 13), (4, .ref 8), (5, sy_i l5), (6, sy_i l6)], [sy_i l1, .ref 227], h)) mj_d_87_53 (fun _ _ => rfl) ?_
      refine sy_st (S' := (mj_m_87, 56, [(0, .ref 227), (1, sy_i l1), (3, .ref 13), (4, .ref 8), (5, sy_i l5), (6, sy_i l6)], [sy_i l5, sy_i l1, .ref 227], h)) mj_d_87_54 (fun _ _ => rfl) ?_
      refine sy_st (S' := (mj_m_87, 57, [(0, .ref 227), (1, sy_i l1), (3, .ref 13), (4, .ref 8), (5, sy_i l5), (6, sy_i l6)], [.ref 13, sy_i l5, sy_i l1, .ref 227], h)) mj_d_87_56 (fun _ _ => rfl) ?_
      refine sy_st (S' := (mj_m_87, 59, [(0, .ref 227), (1, sy_i l1), (3, .ref 13), (4, .ref 8), (5, sy_i l5), (6, sy_i l6)], [.ref 8, .ref 13, sy_i l5, sy_i l1, .ref 227], h)) mj_d_87_57 (fun _ _ => rfl) ?_
      refine sy_cv (M' := mj_m_90) (vs := [.ref 227, sy_i l1, sy_i l5, .ref 13, .ref 8]) (rest := []) mj_d_87_59 rfl rfl rfl rfl hH rfl rfl ⟨by decide, ⟨Nat.le_of_ble_eq_true rfl, Nat.le_of_ble_eq_true rfl, Nat.le_of_ble_eq_true rfl, Nat.le_of_ble_eq_true rfl, Nat.le_of_ble_eq_true rfl⟩⟩ (dt_Ba_listTallies (a1 := l1) (a2 := l5) hH (by omega) (by omega) (by omega) (by omega) (by first | omega | assumption)) ?_
      rintro _ h3 ⟨rfl, th3, eh3, nh3⟩
      show sy_wp (mj_m_87, 62, [(0, .ref 227), (1, sy_i l1), (3, .ref 13), (4, .ref 8), (5, sy_i l5), (6, sy_i l6)], [], h3) _
      refine sy_st (S' := (mj_m_87, 63, [(0, .ref 227), (1, sy_i l1), (3, .ref 13), (4, .ref 8), (5, sy_i l5), (6, sy_i l6)], [.ref 227], h3)) mj_d_87_62 (fun _ _ => rfl) ?_
      refine sy_gf mj_d_87_63 rfl rfl (by decide) rfl th3 ?_
      intro x5 ex5 bx5 tx5
      replace ex5 : x5 = sy_rd h3 227 6 := ex5
      rw [eh3, dr_Ba_listTallies _ _ _ 227 6 rfl] at ex5
      subst ex5
      refine sy_st (S' := (mj_m_87, 67, [(0, .ref 227), (1, sy_i l1), (3, .ref 13), (4, .ref 8), (5, sy_i l5), (6, sy_i l6)], [sy_i 1, sy_i (sy_rd h 227 6)], h3)) mj_d_87_66 (fun _ _ => rfl) ?_
      refine sy_add mj_d_87_67 ?_
      refine sy_st (S' := (mj_m_87, 69, [(0, .ref 227), (1, sy_i l1), (3, .ref 13), (4, .ref 8), (5, sy_i l5), (6, sy_i l6)], [.ref 227, sy_i ((sy_rd h 227 6) + 1)], h3)) mj_d_87_68 (fun _ _ => rfl) ?_
      refine sy_gf mj_d_87_69 rfl rfl (by decide) rfl th3 ?_
      intro x6 ex6 bx6 tx6
      replace ex6 : x6 = sy_rd h3 227 7 := ex6
      rw [eh3] at ex6
      subst ex6
      have mm := ba_mul ((sy_rd h 227 6) + 1) ((dc_Ba_listTallies (sy_rd h) l1 l5) 227 7) (by omega) (by omega) (by omega) (by omega)
      refine sy_mul mj_d_87_72 ?_
      have q7 := sg_mul_f ((sy_rd h 227 6) + 1) ((dc_Ba_listTallies (sy_rd h) l1 l5) 227 7)
      refine sy_sip mj_d_87_73 (by decide) ?_
      refine sy_icm mj_d_87_76 rfl ⟨by omega, by omega⟩ ⟨by omega, by omega⟩ (fun (c8 : (((sy_rd h 227 6) + 1) * ((dc_Ba_listTallies (sy_rd h) l1 l5) 227 7)) ≤ 3750) => ?_) (fun (c8 : ¬ ((((sy_rd h 227 6) + 1) * ((dc_Ba_listTallies (sy_rd h) l1 l5) 227 7)) ≤ 3750)) => ?_)
      · skip
        rw [if_pos c8]
        refine sy_st (S' := (mj_m_87, 82, [(0, .ref 227), (1, sy_i l1), (3, .ref 13), (4, .ref 8), (5, sy_i l5), (6, sy_i l6)], [sy_i 0], h3)) mj_d_87_81 (fun _ _ => rfl) ?_
        refine sy_st (S' := (mj_m_87, 84, [(6, sy_i 0), (0, .ref 227), (1, sy_i l1), (3, .ref 13), (4, .ref 8), (5, sy_i l5)], [], h3)) mj_d_87_82 (fun _ _ => rfl) ?_
        refine sy_lv (lv := [(0, .ref 227), (4, .ref 8), (6, sy_i 0)]) rfl ⟨rfl, rfl, rfl, trivial⟩ ?_
        rw [← eh3]
        exact dt_Ba_settle_84 626 th3 (by first | omega | assumption) (by first | omega | assumption) (by rw [eh3]; exact ba_ok_of nh3 (dr_Ba_listTallies _ _ _ 227 6 rfl) (dr_Ba_listTallies _ _ _ 8 4 rfl) (by omega) (by omega)) (by omega)
      · skip
        rw [if_neg c8]
        refine sy_st (S' := (mj_m_87, 80, [(0, .ref 227), (1, sy_i l1), (3, .ref 13), (4, .ref 8), (5, sy_i l5), (6, sy_i l6)], [sy_i 0], h3)) mj_d_87_79 (fun _ _ => rfl) ?_
        exact sy_retb mj_d_87_80 rfl ⟨by omega, by omega⟩ ⟨th3, eh3, rfl, by omega, by omega, by exact Or.inl rfl⟩
    · skip
      rw [if_neg c2]
      refine sy_st (S' := (mj_m_87, 35, [(0, .ref 227), (1, sy_i l1), (3, .ref 13), (4, .ref 8), (5, sy_i l5), (6, sy_i l6)], [.ref 227], h)) mj_d_87_34 (fun _ _ => rfl) ?_
      refine sy_gr2 (b := 229) mj_d_87_35 rfl rfl (by decide) rfl rfl hH ?_
      refine sy_st (S' := (mj_m_87, 40, [(0, .ref 227), (1, sy_i l1), (3, .ref 13), (4, .ref 8), (5, sy_i l5), (6, sy_i l6)], [sy_i l6, .ref 229], h)) mj_d_87_38 (fun _ _ => rfl) ?_
      refine sy_ia mj_d_87_40 rfl (by decide) (by omega) (by omega) (ab_el_1 rfl _) hH ?_
      rintro _ rfl bx9 tx9
      refine sy_ifc mj_d_87_41 rfl ⟨by omega, by omega⟩ (fun (c10 : ¬ ((sy_rd h 229 ((l6).toNat)) = 0)) => ?_) (fun (c10 : ¬ ¬ ((sy_rd h 229 ((l6).toNat)) = 0)) => ?_)
      · skip
        rw [if_neg c10]
        refine sy_inc (a := l6) (lv' := [(6, sy_i (l6 + 1)), (0, .ref 227), (1, sy_i l1), (3, .ref 13), (4, .ref 8), (5, sy_i l5)]) mj_d_87_46 (Nat.le_of_ble_eq_true rfl) rfl rfl ?_
        refine sy_st (S' := (mj_m_87, 25, [(6, sy_i (l6 + 1)), (0, .ref 227), (1, sy_i l1), (3, .ref 13), (4, .ref 8), (5, sy_i l5)], [], h)) mj_d_87_49 (fun _ _ => rfl) ?_
        refine sy_lv (lv := [(0, .ref 227), (1, sy_i l1), (3, .ref 13), (4, .ref 8), (5, sy_i l5), (6, sy_i (l6 + 1))]) rfl ⟨rfl, rfl, rfl, rfl, rfl, rfl, trivial⟩ ?_
        exact ih hH (by first | omega | assumption) (by first | omega | assumption) (by first | omega | assumption) (by first | omega | assumption) (by first | omega | assumption) (by first | omega | assumption) (by first | omega | assumption) (by first | omega | assumption) (by omega)
      · skip
        rw [if_pos (Decidable.not_not.mp c10)]
        replace c10 := Decidable.not_not.mp c10
        refine sy_st (S' := (mj_m_87, 45, [(0, .ref 227), (1, sy_i l1), (3, .ref 13), (4, .ref 8), (5, sy_i l5), (6, sy_i l6)], [sy_i 0], h)) mj_d_87_44 (fun _ _ => rfl) ?_
        exact sy_retb mj_d_87_45 rfl ⟨by omega, by omega⟩ ⟨hH, rfl, rfl, by omega, by omega, by exact Or.inl rfl⟩
set_option maxRecDepth 100000 in
theorem dt_Ba_settle {h : mj_H} (hH : sy_H h) {a1 a2 : Int} (b_a1 : 0 ≤ a1) (t_a1 : a1 ≤ 4) (b_a2 : 0 ≤ a2) (t_a2 : a2 ≤ 511) (i0 : a1 < (sy_rd h 8 4)) : sy_wp (mj_m_87, 0, [(0, .ref 227), (1, sy_i a1), (2, sy_i a2), (3, .ref 13), (4, .ref 8)], [], h) (dq4 (fun σ ρ => ρ = 0 ∨ ba_ok σ) (0) (1) (dc_Ba_settle (sy_rd h) a1 a2)) := by
  unfold dc_Ba_settle
  refine sy_st (S' := (mj_m_87, 1, [(0, .ref 227), (1, sy_i a1), (2, sy_i a2), (3, .ref 13), (4, .ref 8)], [sy_i a2], h)) mj_d_87_0 (fun _ _ => rfl) ?_
  refine sy_st (S' := (mj_m_87, 2, [(0, .ref 227), (1, sy_i a1), (2, sy_i a2), (3, .ref 13), (4, .ref 8)], [.ref 13, sy_i a2], h)) mj_d_87_1 (fun _ _ => rfl) ?_
  refine sy_gr2 (b := 17) mj_d_87_2 rfl rfl (by decide) rfl rfl hH ?_
  refine sy_st (S' := (mj_m_87, 6, [(0, .ref 227), (1, sy_i a1), (2, sy_i a2), (3, .ref 13), (4, .ref 8)], [sy_i a1, .ref 17, sy_i a2], h)) mj_d_87_5 (fun _ _ => rfl) ?_
  refine sy_ia mj_d_87_6 rfl (by decide) (by omega) (by omega) (ab_el_1 rfl _) hH ?_
  rintro _ rfl bx1 tx1
  refine sy_st (S' := (mj_m_87, 8, [(0, .ref 227), (1, sy_i a1), (2, sy_i a2), (3, .ref 13), (4, .ref 8)], [sy_i (-1), sy_i (sy_rd h 17 ((a1).toNat)), sy_i a2], h)) mj_d_87_7 (fun _ _ => rfl) ?_
  refine sy_ixor mj_d_87_8 ?_
  have q2 := sg_xor_f (sy_rd h 17 ((a1).toNat)) (-1)
  refine sy_iand mj_d_87_9 ?_
  have q3 := sg_and_rng a2 (sy_xor (sy_rd h 17 ((a1).toNat)) (-1))
  have ms := ba_and_l a2 (sy_xor (sy_rd h 17 (a1).toNat) (-1)) (by omega) (by omega)
  have md := ba_dis a2 (sy_rd h 17 (a1).toNat) (by omega) (by omega)
  refine sy_st (S' := (mj_m_87, 12, [(5, sy_i (sy_and a2 (sy_xor (sy_rd h 17 ((a1).toNat)) (-1)))), (0, .ref 227), (1, sy_i a1), (2, sy_i a2), (3, .ref 13), (4, .ref 8)], [], h)) mj_d_87_10 (fun _ _ => rfl) ?_
  refine sy_st (S' := (mj_m_87, 13, [(5, sy_i (sy_and a2 (sy_xor (sy_rd h 17 ((a1).toNat)) (-1)))), (0, .ref 227), (1, sy_i a1), (2, sy_i a2), (3, .ref 13), (4, .ref 8)], [.ref 227], h)) mj_d_87_12 (fun _ _ => rfl) ?_
  refine sy_st (S' := (mj_m_87, 14, [(5, sy_i (sy_and a2 (sy_xor (sy_rd h 17 ((a1).toNat)) (-1)))), (0, .ref 227), (1, sy_i a1), (2, sy_i a2), (3, .ref 13), (4, .ref 8)], [sy_i a1, .ref 227], h)) mj_d_87_13 (fun _ _ => rfl) ?_
  refine sy_st (S' := (mj_m_87, 16, [(5, sy_i (sy_and a2 (sy_xor (sy_rd h 17 ((a1).toNat)) (-1)))), (0, .ref 227), (1, sy_i a1), (2, sy_i a2), (3, .ref 13), (4, .ref 8)], [sy_i (sy_and a2 (sy_xor (sy_rd h 17 ((a1).toNat)) (-1))), sy_i a1, .ref 227], h)) mj_d_87_14 (fun _ _ => rfl) ?_
  refine sy_st (S' := (mj_m_87, 17, [(5, sy_i (sy_and a2 (sy_xor (sy_rd h 17 ((a1).toNat)) (-1)))), (0, .ref 227), (1, sy_i a1), (2, sy_i a2), (3, .ref 13), (4, .ref 8)], [.ref 13, sy_i (sy_and a2 (sy_xor (sy_rd h 17 ((a1).toNat)) (-1))), sy_i a1, .ref 227], h)) mj_d_87_16 (fun _ _ => rfl) ?_
  refine sy_st (S' := (mj_m_87, 19, [(5, sy_i (sy_and a2 (sy_xor (sy_rd h 17 ((a1).toNat)) (-1)))), (0, .ref 227), (1, sy_i a1), (2, sy_i a2), (3, .ref 13), (4, .ref 8)], [.ref 8, .ref 13, sy_i (sy_and a2 (sy_xor (sy_rd h 17 ((a1).toNat)) (-1))), sy_i a1, .ref 227], h)) mj_d_87_17 (fun _ _ => rfl) ?_
  refine sy_cv (M' := mj_m_88) (vs := [.ref 227, sy_i a1, sy_i (sy_and a2 (sy_xor (sy_rd h 17 ((a1).toNat)) (-1))), .ref 13, .ref 8]) (rest := []) mj_d_87_19 rfl rfl rfl rfl hH rfl rfl ⟨by decide, ⟨Nat.le_of_ble_eq_true rfl, Nat.le_of_ble_eq_true rfl, Nat.le_of_ble_eq_true rfl, Nat.le_of_ble_eq_true rfl, Nat.le_of_ble_eq_true rfl⟩⟩ (dt_Ba_listNeeds (a1 := a1) (a2 := (sy_and a2 (sy_xor (sy_rd h 17 ((a1).toNat)) (-1)))) hH (by omega) (by omega) (by omega) (by omega)) ?_
  rintro _ h4 ⟨rfl, th4, eh4⟩
  show sy_wp (mj_m_87, 22, [(5, sy_i (sy_and a2 (sy_xor (sy_rd h 17 ((a1).toNat)) (-1)))), (0, .ref 227), (1, sy_i a1), (2, sy_i a2), (3, .ref 13), (4, .ref 8)], [], h4) _
  refine sy_st (S' := (mj_m_87, 23, [(5, sy_i (sy_and a2 (sy_xor (sy_rd h 17 ((a1).toNat)) (-1)))), (0, .ref 227), (1, sy_i a1), (2, sy_i a2), (3, .ref 13), (4, .ref 8)], [sy_i 0], h4)) mj_d_87_22 (fun _ _ => rfl) ?_
  refine sy_st (S' := (mj_m_87, 25, [(6, sy_i 0), (5, sy_i (sy_and a2 (sy_xor (sy_rd h 17 ((a1).toNat)) (-1)))), (0, .ref 227), (1, sy_i a1), (2, sy_i a2), (3, .ref 13), (4, .ref 8)], [], h4)) mj_d_87_23 (fun _ _ => rfl) ?_
  refine sy_lv (lv := [(0, .ref 227), (1, sy_i a1), (3, .ref 13), (4, .ref 8), (5, sy_i (sy_and a2 (sy_xor (sy_rd h 17 ((a1).toNat)) (-1)))), (6, sy_i 0)]) rfl ⟨rfl, rfl, rfl, rfl, rfl, rfl, trivial⟩ ?_
  rw [← eh4]
  exact dt_Ba_settle_25 10 th4 (by first | omega | assumption) (by first | omega | assumption) (by first | omega | assumption) (by first | omega | assumption) (by first | omega | assumption) (by first | omega | assumption) (by rw [eh4, dr_Ba_listNeeds _ _ _ 8 4 rfl]; exact i0) (by rw [eh4, dr_Ba_listNeeds _ _ _ 17 _ rfl]; exact md) (by omega)
def dc_Ba_leastPaid (s : sg_S) : Int := (s 233 0)
set_option maxRecDepth 100000 in
theorem dt_Ba_leastPaid {h : mj_H} (hH : sy_H h) : sy_wp (mj_m_96, 0, [(0, .ref 227)], [], h) (dq1 h (-2147483648) (2147483647) (dc_Ba_leastPaid (sy_rd h))) := by
  unfold dc_Ba_leastPaid
  refine sy_st (S' := (mj_m_96, 1, [(0, .ref 227)], [.ref 227], h)) mj_d_96_0 (fun _ _ => rfl) ?_
  refine sy_gr2 (b := 233) mj_d_96_1 rfl rfl (by decide) rfl rfl hH ?_
  refine sy_st (S' := (mj_m_96, 5, [(0, .ref 227)], [sy_i 0, .ref 233], h)) mj_d_96_4 (fun _ _ => rfl) ?_
  refine sy_ia mj_d_96_5 rfl (by decide) (by omega) (by omega) (ab_el_1 rfl _) hH ?_
  intro x1 ex1 bx1 tx1
  replace ex1 : x1 = sy_rd h 233 0 := ex1
  subst ex1
  exact sy_reti mj_d_96_6 rfl ⟨rfl, rfl, by omega, by omega⟩
def dc_Ba_giverOf_5 (n : Nat) : sg_S → Int → Int → Int → Int := Nat.rec (fun (s : sg_S) l1 l3 l4 => 0) (fun _ ih => fun s l1 l3 l4 => (if (s 227 6) ≤ l4 then (-1) else (if (s 228 ((l4).toNat)) = l1 then (dc_Ba_cheapestGiver s l4 l3) else (if (dc_Ba_isFree s (dc_Ba_cheapestGiver s l4 l3) l3) = 0 then (ih s l1 l3 (l4 + 1)) else (ih s l1 (l3 + (s 231 ((dc_Ba_cheapestGiver s l4 l3).toNat))) (l4 + 1)))))) n
theorem dc_Ba_giverOf_5_s (n : Nat) (s : sg_S) (l1 l3 l4 : Int) : dc_Ba_giverOf_5 (n + 1) s l1 l3 l4 = (if (s 227 6) ≤ l4 then (-1) else (if (s 228 ((l4).toNat)) = l1 then (dc_Ba_cheapestGiver s l4 l3) else (if (dc_Ba_isFree s (dc_Ba_cheapestGiver s l4 l3) l3) = 0 then ((dc_Ba_giverOf_5 n) s l1 l3 (l4 + 1)) else ((dc_Ba_giverOf_5 n) s l1 (l3 + (s 231 ((dc_Ba_cheapestGiver s l4 l3).toNat))) (l4 + 1))))) := rfl
def dc_Ba_giverOf (s : sg_S) (a1 : Int) : Int := (dc_Ba_giverOf_5 10 s a1 0 0)
set_option maxRecDepth 100000 in
theorem dt_Ba_giverOf_5 : ∀ (n : Nat) {h : mj_H} (hH : sy_H h) {l1 l3 l4 : Int} (b_l1 : (-2147483648) ≤ l1) (t_l1 : l1 ≤ 2147483647) (b_l3 : 0 ≤ l3) (t_l3 : l3 ≤ 624) (b_l4 : 0 ≤ l4) (t_l4 : l4 ≤ 9) (i0 : ba_ok (sy_rd h)) (i1 : l3 < (sy_rd h 227 7)) (hm : 9 - l4 < (n : Int)), sy_wp (mj_m_97, 5, [(0, .ref 227), (1, sy_i l1), (2, .ref 8), (3, sy_i l3), (4, sy_i l4)], [], h) (dq1 h (-1) (4) (dc_Ba_giverOf_5 n (sy_rd h) l1 l3 l4)) := by
  intro n
  induction n with
  | zero =>
    intro h hH l1 l3 l4 b_l1 t_l1 b_l3 t_l3 b_l4 t_l4 i0 i1 hm
    have n227_6 := hH.bd (a := 227) (k := 6) rfl (by decide) rfl
    have n227_7 := hH.bd (a := 227) (k := 7) rfl (by decide) rfl
    have n8_4 := hH.bd (a := 8) (k := 4) rfl (by decide) rfl
    exact absurd hm (by omega)
  | succ n ih =>
    intro h hH l1 l3 l4 b_l1 t_l1 b_l3 t_l3 b_l4 t_l4 i0 i1 hm
    rw [dc_Ba_giverOf_5_s]
    have n227_6 := hH.bd (a := 227) (k := 6) rfl (by decide) rfl
    have n227_7 := hH.bd (a := 227) (k := 7) rfl (by decide) rfl
    have n8_4 := hH.bd (a := 8) (k := 4) rfl (by decide) rfl
    refine sy_st (S' := (mj_m_97, 7, [(0, .ref 227), (1, sy_i l1), (2, .ref 8), (3, sy_i l3), (4, sy_i l4)], [sy_i l4], h)) mj_d_97_5 (fun _ _ => rfl) ?_
    refine sy_st (S' := (mj_m_97, 8, [(0, .ref 227), (1, sy_i l1), (2, .ref 8), (3, sy_i l3), (4, sy_i l4)], [.ref 227, sy_i l4], h)) mj_d_97_7 (fun _ _ => rfl) ?_
    refine sy_gf mj_d_97_8 rfl rfl (by decide) rfl hH ?_
    intro x1 ex1 bx1 tx1
    replace ex1 : x1 = sy_rd h 227 6 := ex1
    subst ex1
    refine sy_icm mj_d_97_11 rfl ⟨by omega, by omega⟩ ⟨by omega, by omega⟩ (fun (c2 : (sy_rd h 227 6) ≤ l4) => ?_) (fun (c2 : ¬ ((sy_rd h 227 6) ≤ l4)) => ?_)
    · skip
      rw [if_pos c2]
      refine sy_st (S' := (mj_m_97, 69, [(0, .ref 227), (1, sy_i l1), (2, .ref 8), (3, sy_i l3), (4, sy_i l4)], [sy_i (-1)], h)) mj_d_97_68 (fun _ _ => rfl) ?_
      exact sy_reti mj_d_97_69 rfl ⟨rfl, rfl, by omega, by omega⟩
    · skip
      rw [if_neg c2]
      refine sy_st (S' := (mj_m_97, 15, [(0, .ref 227), (1, sy_i l1), (2, .ref 8), (3, sy_i l3), (4, sy_i l4)], [.ref 227], h)) mj_d_97_14 (fun _ _ => rfl) ?_
      refine sy_st (S' := (mj_m_97, 17, [(0, .ref 227), (1, sy_i l1), (2, .ref 8), (3, sy_i l3), (4, sy_i l4)], [sy_i l4, .ref 227], h)) mj_d_97_15 (fun _ _ => rfl) ?_
      refine sy_st (S' := (mj_m_97, 18, [(0, .ref 227), (1, sy_i l1), (2, .ref 8), (3, sy_i l3), (4, sy_i l4)], [sy_i l3, sy_i l4, .ref 227], h)) mj_d_97_17 (fun _ _ => rfl) ?_
      refine sy_st (S' := (mj_m_97, 19, [(0, .ref 227), (1, sy_i l1), (2, .ref 8), (3, sy_i l3), (4, sy_i l4)], [.ref 8, sy_i l3, sy_i l4, .ref 227], h)) mj_d_97_18 (fun _ _ => rfl) ?_
      refine sy_cv (M' := mj_m_93) (vs := [.ref 227, sy_i l4, sy_i l3, .ref 8]) (rest := []) mj_d_97_19 rfl rfl rfl rfl hH rfl rfl ⟨by decide, ⟨Nat.le_of_ble_eq_true rfl, Nat.le_of_ble_eq_true rfl, Nat.le_of_ble_eq_true rfl, Nat.le_of_ble_eq_true rfl, Nat.le_of_ble_eq_true rfl⟩⟩ (dt_Ba_cheapestGiver (a1 := l4) (a2 := l3) hH (by omega) (by omega) (by omega) (by omega) (by first | omega | assumption) (by first | omega | assumption) (by first | omega | assumption)) ?_
      rintro _ _ ⟨rfl, rfl, b3, b3t⟩
      show sy_wp (mj_m_97, 22, [(0, .ref 227), (1, sy_i l1), (2, .ref 8), (3, sy_i l3), (4, sy_i l4)], [sy_i (dc_Ba_cheapestGiver (sy_rd h) l4 l3)], h) _
      refine sy_st (S' := (mj_m_97, 24, [(5, sy_i (dc_Ba_cheapestGiver (sy_rd h) l4 l3)), (0, .ref 227), (1, sy_i l1), (2, .ref 8), (3, sy_i l3), (4, sy_i l4)], [], h)) mj_d_97_22 (fun _ _ => rfl) ?_
      refine sy_st (S' := (mj_m_97, 25, [(5, sy_i (dc_Ba_cheapestGiver (sy_rd h) l4 l3)), (0, .ref 227), (1, sy_i l1), (2, .ref 8), (3, sy_i l3), (4, sy_i l4)], [.ref 227], h)) mj_d_97_24 (fun _ _ => rfl) ?_
      refine sy_gr2 (b := 228) mj_d_97_25 rfl rfl (by decide) rfl rfl hH ?_
      refine sy_st (S' := (mj_m_97, 30, [(5, sy_i (dc_Ba_cheapestGiver (sy_rd h) l4 l3)), (0, .ref 227), (1, sy_i l1), (2, .ref 8), (3, sy_i l3), (4, sy_i l4)], [sy_i l4, .ref 228], h)) mj_d_97_28 (fun _ _ => rfl) ?_
      refine sy_ia mj_d_97_30 rfl (by decide) (by omega) (by omega) (ab_el_1 rfl _) hH ?_
      rintro _ rfl bx4 tx4
      refine sy_st (S' := (mj_m_97, 32, [(5, sy_i (dc_Ba_cheapestGiver (sy_rd h) l4 l3)), (0, .ref 227), (1, sy_i l1), (2, .ref 8), (3, sy_i l3), (4, sy_i l4)], [sy_i l1, sy_i (sy_rd h 228 ((l4).toNat))], h)) mj_d_97_31 (fun _ _ => rfl) ?_
      refine sy_icm mj_d_97_32 rfl ⟨by omega, by omega⟩ ⟨by omega, by omega⟩ (fun (c5 : ¬ ((sy_rd h 228 ((l4).toNat)) = l1)) => ?_) (fun (c5 : ¬ ¬ ((sy_rd h 228 ((l4).toNat)) = l1)) => ?_)
      · skip
        rw [if_neg c5]
        have fr := ba_free (z := (dc_Ba_cheapestGiver (sy_rd h) l4 l3)) (t := l3) i0.1 (by omega) (by omega) (by omega) (by omega)
        refine sy_st (S' := (mj_m_97, 39, [(5, sy_i (dc_Ba_cheapestGiver (sy_rd h) l4 l3)), (0, .ref 227), (1, sy_i l1), (2, .ref 8), (3, sy_i l3), (4, sy_i l4)], [.ref 227], h)) mj_d_97_38 (fun _ _ => rfl) ?_
        refine sy_st (S' := (mj_m_97, 41, [(5, sy_i (dc_Ba_cheapestGiver (sy_rd h) l4 l3)), (0, .ref 227), (1, sy_i l1), (2, .ref 8), (3, sy_i l3), (4, sy_i l4)], [sy_i (dc_Ba_cheapestGiver (sy_rd h) l4 l3), .ref 227], h)) mj_d_97_39 (fun _ _ => rfl) ?_
        refine sy_st (S' := (mj_m_97, 42, [(5, sy_i (dc_Ba_cheapestGiver (sy_rd h) l4 l3)), (0, .ref 227), (1, sy_i l1), (2, .ref 8), (3, sy_i l3), (4, sy_i l4)], [sy_i l3, sy_i (dc_Ba_cheapestGiver (sy_rd h) l4 l3), .ref 227], h)) mj_d_97_41 (fun _ _ => rfl) ?_
        refine sy_cv (M' := mj_m_95) (vs := [.ref 227, sy_i (dc_Ba_cheapestGiver (sy_rd h) l4 l3), sy_i l3]) (rest := []) mj_d_97_42 rfl rfl rfl rfl hH rfl rfl ⟨by decide, ⟨Nat.le_of_ble_eq_true rfl, Nat.le_of_ble_eq_true rfl, Nat.le_of_ble_eq_true rfl, Nat.le_of_ble_eq_true rfl, Nat.le_of_ble_eq_true rfl⟩⟩ (dt_Ba_isFree (a1 := (dc_Ba_cheapestGiver (sy_rd h) l4 l3)) (a2 := l3) hH (by omega) (by omega) (by omega) (by omega)) ?_
        rintro _ _ ⟨rfl, rfl, b6, b6t⟩
        show sy_wp (mj_m_97, 45, [(5, sy_i (dc_Ba_cheapestGiver (sy_rd h) l4 l3)), (0, .ref 227), (1, sy_i l1), (2, .ref 8), (3, sy_i l3), (4, sy_i l4)], [sy_i (dc_Ba_isFree (sy_rd h) (dc_Ba_cheapestGiver (sy_rd h) l4 l3) l3)], h) _
        refine sy_ifc mj_d_97_45 rfl ⟨by omega, by omega⟩ (fun (c7 : (dc_Ba_isFree (sy_rd h) (dc_Ba_cheapestGiver (sy_rd h) l4 l3) l3) = 0) => ?_) (fun (c7 : ¬ ((dc_Ba_isFree (sy_rd h) (dc_Ba_cheapestGiver (sy_rd h) l4 l3) l3) = 0)) => ?_)
        · skip
          rw [if_pos c7]
          refine sy_st (S' := (mj_m_97, 61, [(5, sy_i (dc_Ba_cheapestGiver (sy_rd h) l4 l3)), (0, .ref 227), (1, sy_i l1), (2, .ref 8), (3, sy_i l3), (4, sy_i l4)], [sy_i l3], h)) mj_d_97_60 (fun _ _ => rfl) ?_
          refine sy_st (S' := (mj_m_97, 62, [(3, sy_i l3), (5, sy_i (dc_Ba_cheapestGiver (sy_rd h) l4 l3)), (0, .ref 227), (1, sy_i l1), (2, .ref 8), (4, sy_i l4)], [], h)) mj_d_97_61 (fun _ _ => rfl) ?_
          refine sy_inc (a := l4) (lv' := [(4, sy_i (l4 + 1)), (3, sy_i l3), (5, sy_i (dc_Ba_cheapestGiver (sy_rd h) l4 l3)), (0, .ref 227), (1, sy_i l1), (2, .ref 8)]) mj_d_97_62 (Nat.le_of_ble_eq_true rfl) rfl rfl ?_
          refine sy_st (S' := (mj_m_97, 5, [(4, sy_i (l4 + 1)), (3, sy_i l3), (5, sy_i (dc_Ba_cheapestGiver (sy_rd h) l4 l3)), (0, .ref 227), (1, sy_i l1), (2, .ref 8)], [], h)) mj_d_97_65 (fun _ _ => rfl) ?_
          refine sy_lv (lv := [(0, .ref 227), (1, sy_i l1), (2, .ref 8), (3, sy_i l3), (4, sy_i (l4 + 1))]) rfl ⟨rfl, rfl, rfl, rfl, rfl, trivial⟩ ?_
          exact ih hH (by first | omega | assumption) (by first | omega | assumption) (by first | omega | assumption) (by first | omega | assumption) (by first | omega | assumption) (by first | omega | assumption) (by first | omega | assumption) (by first | omega | assumption) (by omega)
        · skip
          rw [if_neg c7]
          refine sy_st (S' := (mj_m_97, 49, [(5, sy_i (dc_Ba_cheapestGiver (sy_rd h) l4 l3)), (0, .ref 227), (1, sy_i l1), (2, .ref 8), (3, sy_i l3), (4, sy_i l4)], [sy_i l3], h)) mj_d_97_48 (fun _ _ => rfl) ?_
          refine sy_st (S' := (mj_m_97, 50, [(5, sy_i (dc_Ba_cheapestGiver (sy_rd h) l4 l3)), (0, .ref 227), (1, sy_i l1), (2, .ref 8), (3, sy_i l3), (4, sy_i l4)], [.ref 227, sy_i l3], h)) mj_d_97_49 (fun _ _ => rfl) ?_
          refine sy_gr2 (b := 231) mj_d_97_50 rfl rfl (by decide) rfl rfl hH ?_
          refine sy_st (S' := (mj_m_97, 55, [(5, sy_i (dc_Ba_cheapestGiver (sy_rd h) l4 l3)), (0, .ref 227), (1, sy_i l1), (2, .ref 8), (3, sy_i l3), (4, sy_i l4)], [sy_i (dc_Ba_cheapestGiver (sy_rd h) l4 l3), .ref 231, sy_i l3], h)) mj_d_97_53 (fun _ _ => rfl) ?_
          refine sy_ia mj_d_97_55 rfl (by decide) (by omega) (by omega) (ab_el_1 rfl _) hH ?_
          rintro _ rfl bx8 tx8
          refine sy_add mj_d_97_56 ?_
          refine sy_st (S' := (mj_m_97, 61, [(5, sy_i (dc_Ba_cheapestGiver (sy_rd h) l4 l3)), (0, .ref 227), (1, sy_i l1), (2, .ref 8), (3, sy_i l3), (4, sy_i l4)], [sy_i (l3 + (sy_rd h 231 ((dc_Ba_cheapestGiver (sy_rd h) l4 l3).toNat)))], h)) mj_d_97_57 (fun _ _ => rfl) ?_
          refine sy_st (S' := (mj_m_97, 62, [(3, sy_i (l3 + (sy_rd h 231 ((dc_Ba_cheapestGiver (sy_rd h) l4 l3).toNat)))), (5, sy_i (dc_Ba_cheapestGiver (sy_rd h) l4 l3)), (0, .ref 227), (1, sy_i l1), (2, .ref 8), (4, sy_i l4)], [], h)) mj_d_97_61 (fun _ _ => rfl) ?_
          refine sy_inc (a := l4) (lv' := [(4, sy_i (l4 + 1)), (3, sy_i (l3 + (sy_rd h 231 ((dc_Ba_cheapestGiver (sy_rd h) l4 l3).toNat)))), (5, sy_i (dc_Ba_cheapestGiver (sy_rd h) l4 l3)), (0, .ref 227), (1, sy_i l1), (2, .ref 8)]) mj_d_97_62 (Nat.le_of_ble_eq_true rfl) rfl rfl ?_
          refine sy_st (S' := (mj_m_97, 5, [(4, sy_i (l4 + 1)), (3, sy_i (l3 + (sy_rd h 231 ((dc_Ba_cheapestGiver (sy_rd h) l4 l3).toNat)))), (5, sy_i (dc_Ba_cheapestGiver (sy_rd h) l4 l3)), (0, .ref 227), (1, sy_i l1), (2, .ref 8)], [], h)) mj_d_97_65 (fun _ _ => rfl) ?_
          refine sy_lv (lv := [(0, .ref 227), (1, sy_i l1), (2, .ref 8), (3, sy_i (l3 + (sy_rd h 231 ((dc_Ba_cheapestGiver (sy_rd h) l4 l3).toNat)))), (4, sy_i (l4 + 1))]) rfl ⟨rfl, rfl, rfl, rfl, rfl, trivial⟩ ?_
          exact ih hH (by first | omega | assumption) (by first | omega | assumption) (by first | omega | assumption) (by first | omega | assumption) (by first | omega | assumption) (by first | omega | assumption) (by first | omega | assumption) (by first | omega | assumption) (by omega)
      · skip
        rw [if_pos (Decidable.not_not.mp c5)]
        replace c5 := Decidable.not_not.mp c5
        refine sy_st (S' := (mj_m_97, 37, [(5, sy_i (dc_Ba_cheapestGiver (sy_rd h) l4 l3)), (0, .ref 227), (1, sy_i l1), (2, .ref 8), (3, sy_i l3), (4, sy_i l4)], [sy_i (dc_Ba_cheapestGiver (sy_rd h) l4 l3)], h)) mj_d_97_35 (fun _ _ => rfl) ?_
        exact sy_reti mj_d_97_37 rfl ⟨rfl, rfl, by omega, by omega⟩
set_option maxRecDepth 100000 in
theorem dt_Ba_giverOf {h : mj_H} (hH : sy_H h) {a1 : Int} (b_a1 : (-2147483648) ≤ a1) (t_a1 : a1 ≤ 2147483647) (i0 : ba_ok (sy_rd h)) : sy_wp (mj_m_97, 0, [(0, .ref 227), (1, sy_i a1), (2, .ref 8)], [], h) (dq1 h (-1) (4) (dc_Ba_giverOf (sy_rd h) a1)) := by
  unfold dc_Ba_giverOf
  have t1 := i0.1.1
  refine sy_st (S' := (mj_m_97, 1, [(0, .ref 227), (1, sy_i a1), (2, .ref 8)], [sy_i 0], h)) mj_d_97_0 (fun _ _ => rfl) ?_
  refine sy_st (S' := (mj_m_97, 2, [(3, sy_i 0), (0, .ref 227), (1, sy_i a1), (2, .ref 8)], [], h)) mj_d_97_1 (fun _ _ => rfl) ?_
  refine sy_st (S' := (mj_m_97, 3, [(3, sy_i 0), (0, .ref 227), (1, sy_i a1), (2, .ref 8)], [sy_i 0], h)) mj_d_97_2 (fun _ _ => rfl) ?_
  refine sy_st (S' := (mj_m_97, 5, [(4, sy_i 0), (3, sy_i 0), (0, .ref 227), (1, sy_i a1), (2, .ref 8)], [], h)) mj_d_97_3 (fun _ _ => rfl) ?_
  refine sy_lv (lv := [(0, .ref 227), (1, sy_i a1), (2, .ref 8), (3, sy_i 0), (4, sy_i 0)]) rfl ⟨rfl, rfl, rfl, rfl, rfl, trivial⟩ ?_
  exact dt_Ba_giverOf_5 10 hH (by first | omega | assumption) (by first | omega | assumption) (by first | omega | assumption) (by first | omega | assumption) (by first | omega | assumption) (by first | omega | assumption) (by first | omega | assumption) (by first | omega | assumption) (by omega)
def dc_C_trade (s : sg_S) (a1 a2 a3 : Int) : sg_S × Int := (if (dc_C_isSweep s a1) = 0 then (s, (-1000000001)) else (if a2 < 0 then (s, (-1000000001)) else (if (sy_shl 1 (s 8 3)) ≤ a2 then (s, (-1000000001)) else (if a3 = (-1) then (if ((dc_Ba_settle s a1 a2).2) = 0 then ((dc_Ba_settle s a1 a2).1, (-1)) else (if a3 = (-1) then ((dc_Ba_settle s a1 a2).1, (dc_Ba_leastPaid (dc_Ba_settle s a1 a2).1)) else ((dc_Ba_settle s a1 a2).1, (dc_Ba_giverOf (dc_Ba_settle s a1 a2).1 a3)))) else (if (dc_C_isHouse s a3) = 0 then (s, (-1000000001)) else (if ((dc_Ba_settle s a1 a2).2) = 0 then ((dc_Ba_settle s a1 a2).1, (-1)) else (if a3 = (-1) then ((dc_Ba_settle s a1 a2).1, (dc_Ba_leastPaid (dc_Ba_settle s a1 a2).1)) else ((dc_Ba_settle s a1 a2).1, (dc_Ba_giverOf (dc_Ba_settle s a1 a2).1 a3)))))))))
def dw_C_trade (a k : Nat) : Bool := dw_Ba_settle a k
theorem dr_C_trade (s : sg_S) (a1 a2 a3 : Int) (a k : Nat) (h : dw_C_trade a k = false) : (dc_C_trade s a1 a2 a3).1 a k = s a k := by
  have h0 := h
  unfold dw_C_trade at h
  have h1 := h
  unfold dc_C_trade
  (repeat' split) <;> simp only [(fun s x0 x1 => dr_Ba_settle s x0 x1 a k h1)]
set_option maxRecDepth 100000 in
theorem dt_C_trade {h : mj_H} (hH : sy_H h) {a1 a2 a3 : Int} (b_a1 : (-2147483648) ≤ a1) (t_a1 : a1 ≤ 2147483647) (b_a2 : (-2147483648) ≤ a2) (t_a2 : a2 ≤ 2147483647) (b_a3 : (-2147483648) ≤ a3) (t_a3 : a3 ≤ 2147483647) : sy_wp (mj_m_86, 0, [(0, .ref 0), (1, sy_i a1), (2, sy_i a2), (3, sy_i a3)], [], h) (dq2 (-2147483648) (2147483647) (dc_C_trade (sy_rd h) a1 a2 a3)) := by
  unfold dc_C_trade
  have n8_3 := hH.bd (a := 8) (k := 3) rfl (by decide) rfl
  have n8_4 := hH.bd (a := 8) (k := 4) rfl (by decide) rfl
  refine sy_st (S' := (mj_m_86, 1, [(0, .ref 0), (1, sy_i a1), (2, sy_i a2), (3, sy_i a3)], [.ref 0], h)) mj_d_86_0 (fun _ _ => rfl) ?_
  refine sy_st (S' := (mj_m_86, 2, [(0, .ref 0), (1, sy_i a1), (2, sy_i a2), (3, sy_i a3)], [sy_i a1, .ref 0], h)) mj_d_86_1 (fun _ _ => rfl) ?_
  refine sy_cv (M' := mj_m_44) (vs := [.ref 0, sy_i a1]) (rest := []) mj_d_86_2 rfl rfl rfl rfl hH rfl rfl ⟨by decide, ⟨Nat.le_of_ble_eq_true rfl, Nat.le_of_ble_eq_true rfl, Nat.le_of_ble_eq_true rfl, Nat.le_of_ble_eq_true rfl, Nat.le_of_ble_eq_true rfl⟩⟩ (dt_C_isSweep (a1 := a1) hH (by omega) (by omega)) ?_
  rintro _ _ ⟨rfl, rfl, b1, b1t⟩
  have q2 := df_C_isSweep_0 (sy_rd h) a1
  show sy_wp (mj_m_86, 5, [(0, .ref 0), (1, sy_i a1), (2, sy_i a2), (3, sy_i a3)], [sy_i (dc_C_isSweep (sy_rd h) a1)], h) _
  refine sy_ifc mj_d_86_5 rfl ⟨by omega, by omega⟩ (fun (c3 : (dc_C_isSweep (sy_rd h) a1) = 0) => ?_) (fun (c3 : ¬ ((dc_C_isSweep (sy_rd h) a1) = 0)) => ?_)
  · skip
    rw [if_pos c3]
    refine sy_ldc (n := -1000000001) mj_d_86_38 rfl (by decide) ?_
    exact sy_reti mj_d_86_40 rfl ⟨hH, rfl, rfl, by omega, by omega⟩
  · skip
    rw [if_neg c3]
    refine sy_st (S' := (mj_m_86, 9, [(0, .ref 0), (1, sy_i a1), (2, sy_i a2), (3, sy_i a3)], [sy_i a2], h)) mj_d_86_8 (fun _ _ => rfl) ?_
    refine sy_ifc mj_d_86_9 rfl ⟨by omega, by omega⟩ (fun (c4 : a2 < 0) => ?_) (fun (c4 : ¬ (a2 < 0)) => ?_)
    · skip
      rw [if_pos c4]
      refine sy_ldc (n := -1000000001) mj_d_86_38 rfl (by decide) ?_
      exact sy_reti mj_d_86_40 rfl ⟨hH, rfl, rfl, by omega, by omega⟩
    · skip
      rw [if_neg c4]
      refine sy_st (S' := (mj_m_86, 13, [(0, .ref 0), (1, sy_i a1), (2, sy_i a2), (3, sy_i a3)], [sy_i a2], h)) mj_d_86_12 (fun _ _ => rfl) ?_
      refine sy_st (S' := (mj_m_86, 14, [(0, .ref 0), (1, sy_i a1), (2, sy_i a2), (3, sy_i a3)], [sy_i 1, sy_i a2], h)) mj_d_86_13 (fun _ _ => rfl) ?_
      refine sy_st (S' := (mj_m_86, 15, [(0, .ref 0), (1, sy_i a1), (2, sy_i a2), (3, sy_i a3)], [.ref 0, sy_i 1, sy_i a2], h)) mj_d_86_14 (fun _ _ => rfl) ?_
      refine sy_gr2 (b := 8) mj_d_86_15 rfl rfl (by decide) rfl rfl hH ?_
      refine sy_gf mj_d_86_18 rfl rfl (by decide) rfl hH ?_
      intro x5 ex5 bx5 tx5
      replace ex5 : x5 = sy_rd h 8 3 := ex5
      subst ex5
      refine sy_ishl mj_d_86_21 ?_
      have q6 := sg_shl10 (sy_rd h 8 3) (by omega) (by omega)
      refine sy_icm mj_d_86_22 rfl ⟨by omega, by omega⟩ ⟨by omega, by omega⟩ (fun (c7 : (sy_shl 1 (sy_rd h 8 3)) ≤ a2) => ?_) (fun (c7 : ¬ ((sy_shl 1 (sy_rd h 8 3)) ≤ a2)) => ?_)
      · skip
        rw [if_pos c7]
        refine sy_ldc (n := -1000000001) mj_d_86_38 rfl (by decide) ?_
        exact sy_reti mj_d_86_40 rfl ⟨hH, rfl, rfl, by omega, by omega⟩
      · skip
        rw [if_neg c7]
        refine sy_st (S' := (mj_m_86, 26, [(0, .ref 0), (1, sy_i a1), (2, sy_i a2), (3, sy_i a3)], [sy_i a3], h)) mj_d_86_25 (fun _ _ => rfl) ?_
        refine sy_st (S' := (mj_m_86, 27, [(0, .ref 0), (1, sy_i a1), (2, sy_i a2), (3, sy_i a3)], [sy_i (-1), sy_i a3], h)) mj_d_86_26 (fun _ _ => rfl) ?_
        refine sy_icm mj_d_86_27 rfl ⟨by omega, by omega⟩ ⟨by omega, by omega⟩ (fun (c8 : a3 = (-1)) => ?_) (fun (c8 : ¬ (a3 = (-1))) => ?_)
        · skip
          rw [if_pos c8]
          refine sy_st (S' := (mj_m_86, 42, [(0, .ref 0), (1, sy_i a1), (2, sy_i a2), (3, sy_i a3)], [.ref 0], h)) mj_d_86_41 (fun _ _ => rfl) ?_
          refine sy_gr2 (b := 227) mj_d_86_42 rfl rfl (by decide) rfl rfl hH ?_
          refine sy_st (S' := (mj_m_86, 46, [(0, .ref 0), (1, sy_i a1), (2, sy_i a2), (3, sy_i a3)], [sy_i a1, .ref 227], h)) mj_d_86_45 (fun _ _ => rfl) ?_
          refine sy_st (S' := (mj_m_86, 47, [(0, .ref 0), (1, sy_i a1), (2, sy_i a2), (3, sy_i a3)], [sy_i a2, sy_i a1, .ref 227], h)) mj_d_86_46 (fun _ _ => rfl) ?_
          refine sy_st (S' := (mj_m_86, 48, [(0, .ref 0), (1, sy_i a1), (2, sy_i a2), (3, sy_i a3)], [.ref 0, sy_i a2, sy_i a1, .ref 227], h)) mj_d_86_47 (fun _ _ => rfl) ?_
          refine sy_gr2 (b := 13) mj_d_86_48 rfl rfl (by decide) rfl rfl hH ?_
          refine sy_st (S' := (mj_m_86, 52, [(0, .ref 0), (1, sy_i a1), (2, sy_i a2), (3, sy_i a3)], [.ref 0, .ref 13, sy_i a2, sy_i a1, .ref 227], h)) mj_d_86_51 (fun _ _ => rfl) ?_
          refine sy_gr2 (b := 8) mj_d_86_52 rfl rfl (by decide) rfl rfl hH ?_
          refine sy_cv (M' := mj_m_87) (vs := [.ref 227, sy_i a1, sy_i a2, .ref 13, .ref 8]) (rest := []) mj_d_86_55 rfl rfl rfl rfl hH rfl rfl ⟨by decide, ⟨Nat.le_of_ble_eq_true rfl, Nat.le_of_ble_eq_true rfl, Nat.le_of_ble_eq_true rfl, Nat.le_of_ble_eq_true rfl, Nat.le_of_ble_eq_true rfl⟩⟩ (dt_Ba_settle (a1 := a1) (a2 := a2) hH (by omega) (by omega) (by omega) (by omega) (by first | omega | assumption)) ?_
          rintro _ h9 ⟨th9, eh9, rfl, b10, b10t, nh9⟩
          show sy_wp (mj_m_86, 58, [(0, .ref 0), (1, sy_i a1), (2, sy_i a2), (3, sy_i a3)], [sy_i ((dc_Ba_settle (sy_rd h) a1 a2).2)], h9) _
          refine sy_ifc mj_d_86_58 rfl ⟨by omega, by omega⟩ (fun (c11 : ¬ (((dc_Ba_settle (sy_rd h) a1 a2).2) = 0)) => ?_) (fun (c11 : ¬ ¬ (((dc_Ba_settle (sy_rd h) a1 a2).2) = 0)) => ?_)
          · skip
            rw [if_neg c11]
            refine sy_st (S' := (mj_m_86, 64, [(0, .ref 0), (1, sy_i a1), (2, sy_i a2), (3, sy_i a3)], [sy_i a3], h9)) mj_d_86_63 (fun _ _ => rfl) ?_
            refine sy_st (S' := (mj_m_86, 65, [(0, .ref 0), (1, sy_i a1), (2, sy_i a2), (3, sy_i a3)], [sy_i (-1), sy_i a3], h9)) mj_d_86_64 (fun _ _ => rfl) ?_
            refine sy_icm mj_d_86_65 rfl ⟨by omega, by omega⟩ ⟨by omega, by omega⟩ (fun (c12 : ¬ (a3 = (-1))) => ?_) (fun (c12 : ¬ ¬ (a3 = (-1))) => ?_)
            · skip
              rw [if_neg c12]
              refine sy_st (S' := (mj_m_86, 79, [(0, .ref 0), (1, sy_i a1), (2, sy_i a2), (3, sy_i a3)], [.ref 0], h9)) mj_d_86_78 (fun _ _ => rfl) ?_
              refine sy_gr2 (b := 227) mj_d_86_79 rfl rfl (by decide) rfl rfl th9 ?_
              refine sy_st (S' := (mj_m_86, 83, [(0, .ref 0), (1, sy_i a1), (2, sy_i a2), (3, sy_i a3)], [sy_i a3, .ref 227], h9)) mj_d_86_82 (fun _ _ => rfl) ?_
              refine sy_st (S' := (mj_m_86, 84, [(0, .ref 0), (1, sy_i a1), (2, sy_i a2), (3, sy_i a3)], [.ref 0, sy_i a3, .ref 227], h9)) mj_d_86_83 (fun _ _ => rfl) ?_
              refine sy_gr2 (b := 8) mj_d_86_84 rfl rfl (by decide) rfl rfl th9 ?_
              refine sy_cv (M' := mj_m_97) (vs := [.ref 227, sy_i a3, .ref 8]) (rest := []) mj_d_86_87 rfl rfl rfl rfl th9 rfl rfl ⟨by decide, ⟨Nat.le_of_ble_eq_true rfl, Nat.le_of_ble_eq_true rfl, Nat.le_of_ble_eq_true rfl, Nat.le_of_ble_eq_true rfl, Nat.le_of_ble_eq_true rfl⟩⟩ (dt_Ba_giverOf (a1 := a3) th9 (by omega) (by omega) (by rcases nh9 with q | q <;> first | (exfalso; omega) | (rw [eh9]; exact q))) ?_
              rintro _ _ ⟨rfl, rfl, b13, b13t⟩
              rw [eh9] at b13 b13t ⊢
              show sy_wp (mj_m_86, 90, [(0, .ref 0), (1, sy_i a1), (2, sy_i a2), (3, sy_i a3)], [sy_i (dc_Ba_giverOf (dc_Ba_settle (sy_rd h) a1 a2).1 a3)], h9) _
              exact sy_reti mj_d_86_90 rfl ⟨th9, eh9, rfl, by omega, by omega⟩
            · skip
              rw [if_pos (Decidable.not_not.mp c12)]
              replace c12 := Decidable.not_not.mp c12
              refine sy_st (S' := (mj_m_86, 69, [(0, .ref 0), (1, sy_i a1), (2, sy_i a2), (3, sy_i a3)], [.ref 0], h9)) mj_d_86_68 (fun _ _ => rfl) ?_
              refine sy_gr2 (b := 227) mj_d_86_69 rfl rfl (by decide) rfl rfl th9 ?_
              refine sy_cv (M' := mj_m_96) (vs := [.ref 227]) (rest := []) mj_d_86_72 rfl rfl rfl rfl th9 rfl rfl ⟨by decide, ⟨Nat.le_of_ble_eq_true rfl, Nat.le_of_ble_eq_true rfl, Nat.le_of_ble_eq_true rfl, Nat.le_of_ble_eq_true rfl, Nat.le_of_ble_eq_true rfl⟩⟩ (dt_Ba_leastPaid th9) ?_
              rintro _ _ ⟨rfl, rfl, b14, b14t⟩
              rw [eh9] at b14 b14t ⊢
              show sy_wp (mj_m_86, 75, [(0, .ref 0), (1, sy_i a1), (2, sy_i a2), (3, sy_i a3)], [sy_i (dc_Ba_leastPaid (dc_Ba_settle (sy_rd h) a1 a2).1)], h9) _
              refine sy_st (S' := (mj_m_86, 90, [(0, .ref 0), (1, sy_i a1), (2, sy_i a2), (3, sy_i a3)], [sy_i (dc_Ba_leastPaid (dc_Ba_settle (sy_rd h) a1 a2).1)], h9)) mj_d_86_75 (fun _ _ => rfl) ?_
              exact sy_reti mj_d_86_90 rfl ⟨th9, eh9, rfl, by omega, by omega⟩
          · skip
            rw [if_pos (Decidable.not_not.mp c11)]
            replace c11 := Decidable.not_not.mp c11
            refine sy_st (S' := (mj_m_86, 62, [(0, .ref 0), (1, sy_i a1), (2, sy_i a2), (3, sy_i a3)], [sy_i (-1)], h9)) mj_d_86_61 (fun _ _ => rfl) ?_
            exact sy_reti mj_d_86_62 rfl ⟨th9, eh9, rfl, by omega, by omega⟩
        · skip
          rw [if_neg c8]
          refine sy_st (S' := (mj_m_86, 31, [(0, .ref 0), (1, sy_i a1), (2, sy_i a2), (3, sy_i a3)], [.ref 0], h)) mj_d_86_30 (fun _ _ => rfl) ?_
          refine sy_st (S' := (mj_m_86, 32, [(0, .ref 0), (1, sy_i a1), (2, sy_i a2), (3, sy_i a3)], [sy_i a3, .ref 0], h)) mj_d_86_31 (fun _ _ => rfl) ?_
          refine sy_cv (M' := mj_m_39) (vs := [.ref 0, sy_i a3]) (rest := []) mj_d_86_32 rfl rfl rfl rfl hH rfl rfl ⟨by decide, ⟨Nat.le_of_ble_eq_true rfl, Nat.le_of_ble_eq_true rfl, Nat.le_of_ble_eq_true rfl, Nat.le_of_ble_eq_true rfl, Nat.le_of_ble_eq_true rfl⟩⟩ (dt_C_isHouse (a1 := a3) hH (by omega) (by omega)) ?_
          rintro _ _ ⟨rfl, rfl, b15, b15t⟩
          have q16 := df_C_isHouse_0 (sy_rd h) a3
          show sy_wp (mj_m_86, 35, [(0, .ref 0), (1, sy_i a1), (2, sy_i a2), (3, sy_i a3)], [sy_i (dc_C_isHouse (sy_rd h) a3)], h) _
          refine sy_ifc mj_d_86_35 rfl ⟨by omega, by omega⟩ (fun (c17 : ¬ ((dc_C_isHouse (sy_rd h) a3) = 0)) => ?_) (fun (c17 : ¬ ¬ ((dc_C_isHouse (sy_rd h) a3) = 0)) => ?_)
          · skip
            rw [if_neg c17]
            refine sy_st (S' := (mj_m_86, 42, [(0, .ref 0), (1, sy_i a1), (2, sy_i a2), (3, sy_i a3)], [.ref 0], h)) mj_d_86_41 (fun _ _ => rfl) ?_
            refine sy_gr2 (b := 227) mj_d_86_42 rfl rfl (by decide) rfl rfl hH ?_
            refine sy_st (S' := (mj_m_86, 46, [(0, .ref 0), (1, sy_i a1), (2, sy_i a2), (3, sy_i a3)], [sy_i a1, .ref 227], h)) mj_d_86_45 (fun _ _ => rfl) ?_
            refine sy_st (S' := (mj_m_86, 47, [(0, .ref 0), (1, sy_i a1), (2, sy_i a2), (3, sy_i a3)], [sy_i a2, sy_i a1, .ref 227], h)) mj_d_86_46 (fun _ _ => rfl) ?_
            refine sy_st (S' := (mj_m_86, 48, [(0, .ref 0), (1, sy_i a1), (2, sy_i a2), (3, sy_i a3)], [.ref 0, sy_i a2, sy_i a1, .ref 227], h)) mj_d_86_47 (fun _ _ => rfl) ?_
            refine sy_gr2 (b := 13) mj_d_86_48 rfl rfl (by decide) rfl rfl hH ?_
            refine sy_st (S' := (mj_m_86, 52, [(0, .ref 0), (1, sy_i a1), (2, sy_i a2), (3, sy_i a3)], [.ref 0, .ref 13, sy_i a2, sy_i a1, .ref 227], h)) mj_d_86_51 (fun _ _ => rfl) ?_
            refine sy_gr2 (b := 8) mj_d_86_52 rfl rfl (by decide) rfl rfl hH ?_
            refine sy_cv (M' := mj_m_87) (vs := [.ref 227, sy_i a1, sy_i a2, .ref 13, .ref 8]) (rest := []) mj_d_86_55 rfl rfl rfl rfl hH rfl rfl ⟨by decide, ⟨Nat.le_of_ble_eq_true rfl, Nat.le_of_ble_eq_true rfl, Nat.le_of_ble_eq_true rfl, Nat.le_of_ble_eq_true rfl, Nat.le_of_ble_eq_true rfl⟩⟩ (dt_Ba_settle (a1 := a1) (a2 := a2) hH (by omega) (by omega) (by omega) (by omega) (by first | omega | assumption)) ?_
            rintro _ h18 ⟨th18, eh18, rfl, b19, b19t, nh18⟩
            show sy_wp (mj_m_86, 58, [(0, .ref 0), (1, sy_i a1), (2, sy_i a2), (3, sy_i a3)], [sy_i ((dc_Ba_settle (sy_rd h) a1 a2).2)], h18) _
            refine sy_ifc mj_d_86_58 rfl ⟨by omega, by omega⟩ (fun (c20 : ¬ (((dc_Ba_settle (sy_rd h) a1 a2).2) = 0)) => ?_) (fun (c20 : ¬ ¬ (((dc_Ba_settle (sy_rd h) a1 a2).2) = 0)) => ?_)
            · skip
              rw [if_neg c20]
              refine sy_st (S' := (mj_m_86, 64, [(0, .ref 0), (1, sy_i a1), (2, sy_i a2), (3, sy_i a3)], [sy_i a3], h18)) mj_d_86_63 (fun _ _ => rfl) ?_
              refine sy_st (S' := (mj_m_86, 65, [(0, .ref 0), (1, sy_i a1), (2, sy_i a2), (3, sy_i a3)], [sy_i (-1), sy_i a3], h18)) mj_d_86_64 (fun _ _ => rfl) ?_
              refine sy_icm mj_d_86_65 rfl ⟨by omega, by omega⟩ ⟨by omega, by omega⟩ (fun (c21 : ¬ (a3 = (-1))) => ?_) (fun (c21 : ¬ ¬ (a3 = (-1))) => ?_)
              · skip
                rw [if_neg c21]
                refine sy_st (S' := (mj_m_86, 79, [(0, .ref 0), (1, sy_i a1), (2, sy_i a2), (3, sy_i a3)], [.ref 0], h18)) mj_d_86_78 (fun _ _ => rfl) ?_
                refine sy_gr2 (b := 227) mj_d_86_79 rfl rfl (by decide) rfl rfl th18 ?_
                refine sy_st (S' := (mj_m_86, 83, [(0, .ref 0), (1, sy_i a1), (2, sy_i a2), (3, sy_i a3)], [sy_i a3, .ref 227], h18)) mj_d_86_82 (fun _ _ => rfl) ?_
                refine sy_st (S' := (mj_m_86, 84, [(0, .ref 0), (1, sy_i a1), (2, sy_i a2), (3, sy_i a3)], [.ref 0, sy_i a3, .ref 227], h18)) mj_d_86_83 (fun _ _ => rfl) ?_
                refine sy_gr2 (b := 8) mj_d_86_84 rfl rfl (by decide) rfl rfl th18 ?_
                refine sy_cv (M' := mj_m_97) (vs := [.ref 227, sy_i a3, .ref 8]) (rest := []) mj_d_86_87 rfl rfl rfl rfl th18 rfl rfl ⟨by decide, ⟨Nat.le_of_ble_eq_true rfl, Nat.le_of_ble_eq_true rfl, Nat.le_of_ble_eq_true rfl, Nat.le_of_ble_eq_true rfl, Nat.le_of_ble_eq_true rfl⟩⟩ (dt_Ba_giverOf (a1 := a3) th18 (by omega) (by omega) (by rcases nh18 with q | q <;> first | (exfalso; omega) | (rw [eh18]; exact q))) ?_
                rintro _ _ ⟨rfl, rfl, b22, b22t⟩
                rw [eh18] at b22 b22t ⊢
                show sy_wp (mj_m_86, 90, [(0, .ref 0), (1, sy_i a1), (2, sy_i a2), (3, sy_i a3)], [sy_i (dc_Ba_giverOf (dc_Ba_settle (sy_rd h) a1 a2).1 a3)], h18) _
                exact sy_reti mj_d_86_90 rfl ⟨th18, eh18, rfl, by omega, by omega⟩
              · skip
                rw [if_pos (Decidable.not_not.mp c21)]
                replace c21 := Decidable.not_not.mp c21
                refine sy_st (S' := (mj_m_86, 69, [(0, .ref 0), (1, sy_i a1), (2, sy_i a2), (3, sy_i a3)], [.ref 0], h18)) mj_d_86_68 (fun _ _ => rfl) ?_
                refine sy_gr2 (b := 227) mj_d_86_69 rfl rfl (by decide) rfl rfl th18 ?_
                refine sy_cv (M' := mj_m_96) (vs := [.ref 227]) (rest := []) mj_d_86_72 rfl rfl rfl rfl th18 rfl rfl ⟨by decide, ⟨Nat.le_of_ble_eq_true rfl, Nat.le_of_ble_eq_true rfl, Nat.le_of_ble_eq_true rfl, Nat.le_of_ble_eq_true rfl, Nat.le_of_ble_eq_true rfl⟩⟩ (dt_Ba_leastPaid th18) ?_
                rintro _ _ ⟨rfl, rfl, b23, b23t⟩
                rw [eh18] at b23 b23t ⊢
                show sy_wp (mj_m_86, 75, [(0, .ref 0), (1, sy_i a1), (2, sy_i a2), (3, sy_i a3)], [sy_i (dc_Ba_leastPaid (dc_Ba_settle (sy_rd h) a1 a2).1)], h18) _
                refine sy_st (S' := (mj_m_86, 90, [(0, .ref 0), (1, sy_i a1), (2, sy_i a2), (3, sy_i a3)], [sy_i (dc_Ba_leastPaid (dc_Ba_settle (sy_rd h) a1 a2).1)], h18)) mj_d_86_75 (fun _ _ => rfl) ?_
                exact sy_reti mj_d_86_90 rfl ⟨th18, eh18, rfl, by omega, by omega⟩
            · skip
              rw [if_pos (Decidable.not_not.mp c20)]
              replace c20 := Decidable.not_not.mp c20
              refine sy_st (S' := (mj_m_86, 62, [(0, .ref 0), (1, sy_i a1), (2, sy_i a2), (3, sy_i a3)], [sy_i (-1)], h18)) mj_d_86_61 (fun _ _ => rfl) ?_
              exact sy_reti mj_d_86_62 rfl ⟨th18, eh18, rfl, by omega, by omega⟩
          · skip
            rw [if_pos (Decidable.not_not.mp c17)]
            replace c17 := Decidable.not_not.mp c17
            refine sy_ldc (n := -1000000001) mj_d_86_38 rfl (by decide) ?_
            exact sy_reti mj_d_86_40 rfl ⟨hH, rfl, rfl, by omega, by omega⟩
