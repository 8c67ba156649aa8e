def mj_m_150 : mj_M := (⟨"SootMapsModel", "passes", "(I)V"⟩, prog_13_method_30_code, 5, none, 10, 1, 1, 3, 68)
def mj_m_169 : mj_M := (⟨"SootMapsModel", "flues", "(II)I"⟩, prog_13_method_51_code, 3, (some .int), 10, 2, 1, 4, 91)
def mj_m_170 : mj_M := (⟨"SootMapsModel", "sootOf", "(I)I"⟩, prog_13_method_48_code, 4, (some .int), 10, 1, 1, 3, 68)
def mj_m_171 : mj_M := (⟨"SootMapsModel", "heatOf", "(I)I"⟩, prog_13_method_49_code, 5, (some .int), 10, 1, 1, 1, 21)
def mj_m_172 : mj_M := (⟨"SootMapsModel", "likeOf", "(I)I"⟩, prog_13_method_50_code, 6, (some .int), 10, 1, 1, 1, 23)
def mj_m_180 : mj_M := (⟨"SootMapsModel", "brushes", "(II)I"⟩, prog_13_method_58_code, 9, (some .int), 10, 2, 1, 4, 91)
def mj_m_183 : mj_M := (⟨"SootMapsModel", "next", "(II)I"⟩, prog_13_method_61_code, 10, (some .int), 10, 2, 1, 4, 91)
theorem mj_d_150_0 : decode mj_m_150.2.1 0 = .ok (.iconst 0, 1) := by decide +kernel
theorem mj_d_150_1 : decode mj_m_150.2.1 1 = .ok (.istore_n 2, 1) := by decide +kernel
theorem mj_d_150_2 : decode mj_m_150.2.1 2 = .ok (.iload_n 2, 1) := by decide +kernel
theorem mj_d_150_3 : decode mj_m_150.2.1 3 = .ok (.aload_n 0, 1) := by decide +kernel
theorem mj_d_150_4 : decode mj_m_150.2.1 4 = .ok (.getfield 76, 3) := by decide +kernel
theorem mj_d_150_7 : decode mj_m_150.2.1 7 = .ok (.if_icmp .ge 78, 3) := by decide +kernel
theorem mj_d_150_10 : decode mj_m_150.2.1 10 = .ok (.aload_n 0, 1) := by decide +kernel
theorem mj_d_150_11 : decode mj_m_150.2.1 11 = .ok (.getfield 7, 3) := by decide +kernel
theorem mj_d_150_14 : decode mj_m_150.2.1 14 = .ok (.iload_n 1, 1) := by decide +kernel
theorem mj_d_150_15 : decode mj_m_150.2.1 15 = .ok (.iconst 2, 1) := by decide +kernel
theorem mj_d_150_16 : decode mj_m_150.2.1 16 = .ok (.iadd, 1) := by decide +kernel
theorem mj_d_150_17 : decode mj_m_150.2.1 17 = .ok (.iload_n 2, 1) := by decide +kernel
theorem mj_d_150_18 : decode mj_m_150.2.1 18 = .ok (.iadd, 1) := by decide +kernel
theorem mj_d_150_19 : decode mj_m_150.2.1 19 = .ok (.iaload, 1) := by decide +kernel
theorem mj_d_150_20 : decode mj_m_150.2.1 20 = .ok (.istore_n 3, 1) := by decide +kernel
theorem mj_d_150_21 : decode mj_m_150.2.1 21 = .ok (.iload_n 3, 1) := by decide +kernel
theorem mj_d_150_22 : decode mj_m_150.2.1 22 = .ok (.ifCond .le 57, 3) := by decide +kernel
theorem mj_d_150_25 : decode mj_m_150.2.1 25 = .ok (.iload_n 2, 1) := by decide +kernel
theorem mj_d_150_26 : decode mj_m_150.2.1 26 = .ok (.istore 4, 2) := by decide +kernel
theorem mj_d_150_28 : decode mj_m_150.2.1 28 = .ok (.iload 4, 2) := by decide +kernel
theorem mj_d_150_30 : decode mj_m_150.2.1 30 = .ok (.iconst (-1), 1) := by decide +kernel
theorem mj_d_150_31 : decode mj_m_150.2.1 31 = .ok (.if_icmp .eq 28, 3) := by decide +kernel
theorem mj_d_150_34 : decode mj_m_150.2.1 34 = .ok (.aload_n 0, 1) := by decide +kernel
theorem mj_d_150_35 : decode mj_m_150.2.1 35 = .ok (.iload_n 1, 1) := by decide +kernel
theorem mj_d_150_36 : decode mj_m_150.2.1 36 = .ok (.iload 4, 2) := by decide +kernel
theorem mj_d_150_38 : decode mj_m_150.2.1 38 = .ok (.iload_n 3, 1) := by decide +kernel
theorem mj_d_150_39 : decode mj_m_150.2.1 39 = .ok (.invokevirtual 191, 3) := by decide +kernel
theorem mj_d_150_42 : decode mj_m_150.2.1 42 = .ok (.aload_n 0, 1) := by decide +kernel
theorem mj_d_150_43 : decode mj_m_150.2.1 43 = .ok (.getfield 7, 3) := by decide +kernel
theorem mj_d_150_46 : decode mj_m_150.2.1 46 = .ok (.iload_n 1, 1) := by decide +kernel
theorem mj_d_150_47 : decode mj_m_150.2.1 47 = .ok (.bipush 11, 2) := by decide +kernel
theorem mj_d_150_49 : decode mj_m_150.2.1 49 = .ok (.iadd, 1) := by decide +kernel
theorem mj_d_150_50 : decode mj_m_150.2.1 50 = .ok (.iload 4, 2) := by decide +kernel
theorem mj_d_150_52 : decode mj_m_150.2.1 52 = .ok (.iadd, 1) := by decide +kernel
theorem mj_d_150_53 : decode mj_m_150.2.1 53 = .ok (.iaload, 1) := by decide +kernel
theorem mj_d_150_54 : decode mj_m_150.2.1 54 = .ok (.istore 4, 2) := by decide +kernel
theorem mj_d_150_56 : decode mj_m_150.2.1 56 = .ok (.goto (-28), 3) := by decide +kernel
theorem mj_d_150_59 : decode mj_m_150.2.1 59 = .ok (.aload_n 0, 1) := by decide +kernel
theorem mj_d_150_60 : decode mj_m_150.2.1 60 = .ok (.iload_n 2, 1) := by decide +kernel
theorem mj_d_150_61 : decode mj_m_150.2.1 61 = .ok (.invokevirtual 195, 3) := by decide +kernel
theorem mj_d_150_64 : decode mj_m_150.2.1 64 = .ok (.iconst (-1), 1) := by decide +kernel
theorem mj_d_150_65 : decode mj_m_150.2.1 65 = .ok (.if_icmp .eq 14, 3) := by decide +kernel
theorem mj_d_150_68 : decode mj_m_150.2.1 68 = .ok (.aload_n 0, 1) := by decide +kernel
theorem mj_d_150_69 : decode mj_m_150.2.1 69 = .ok (.iload_n 1, 1) := by decide +kernel
theorem mj_d_150_70 : decode mj_m_150.2.1 70 = .ok (.aload_n 0, 1) := by decide +kernel
theorem mj_d_150_71 : decode mj_m_150.2.1 71 = .ok (.iload_n 2, 1) := by decide +kernel
theorem mj_d_150_72 : decode mj_m_150.2.1 72 = .ok (.invokevirtual 195, 3) := by decide +kernel
theorem mj_d_150_75 : decode mj_m_150.2.1 75 = .ok (.iload_n 3, 1) := by decide +kernel
theorem mj_d_150_76 : decode mj_m_150.2.1 76 = .ok (.invokevirtual 191, 3) := by decide +kernel
theorem mj_d_150_79 : decode mj_m_150.2.1 79 = .ok (.iinc 2 1, 3) := by decide +kernel
theorem mj_d_150_82 : decode mj_m_150.2.1 82 = .ok (.goto (-80), 3) := by decide +kernel
theorem mj_d_150_85 : decode mj_m_150.2.1 85 = .ok (.aload_n 0, 1) := by decide +kernel
theorem mj_d_150_86 : decode mj_m_150.2.1 86 = .ok (.getfield 7, 3) := by decide +kernel
theorem mj_d_150_89 : decode mj_m_150.2.1 89 = .ok (.iload_n 1, 1) := by decide +kernel
theorem mj_d_150_90 : decode mj_m_150.2.1 90 = .ok (.iconst 0, 1) := by decide +kernel
theorem mj_d_150_91 : decode mj_m_150.2.1 91 = .ok (.iadd, 1) := by decide +kernel
theorem mj_d_150_92 : decode mj_m_150.2.1 92 = .ok (.dup2, 1) := by decide +kernel
theorem mj_d_150_93 : decode mj_m_150.2.1 93 = .ok (.iaload, 1) := by decide +kernel
theorem mj_d_150_94 : decode mj_m_150.2.1 94 = .ok (.iconst 1, 1) := by decide +kernel
theorem mj_d_150_95 : decode mj_m_150.2.1 95 = .ok (.iadd, 1) := by decide +kernel
theorem mj_d_150_96 : decode mj_m_150.2.1 96 = .ok (.iastore, 1) := by decide +kernel
theorem mj_d_150_97 : decode mj_m_150.2.1 97 = .ok (.return_, 1) := by decide +kernel
theorem mj_d_169_0 : decode mj_m_169.2.1 0 = .ok (.aload_n 0, 1) := by decide +kernel
theorem mj_d_169_1 : decode mj_m_169.2.1 1 = .ok (.iload_n 1, 1) := by decide +kernel
theorem mj_d_169_2 : decode mj_m_169.2.1 2 = .ok (.invokevirtual 174, 3) := by decide +kernel
theorem mj_d_169_5 : decode mj_m_169.2.1 5 = .ok (.ifCond .ne 6, 3) := by decide +kernel
theorem mj_d_169_8 : decode mj_m_169.2.1 8 = .ok (.ldc 177, 2) := by decide +kernel
theorem mj_d_169_10 : decode mj_m_169.2.1 10 = .ok (.ireturn, 1) := by decide +kernel
theorem mj_d_169_11 : decode mj_m_169.2.1 11 = .ok (.iload_n 2, 1) := by decide +kernel
theorem mj_d_169_12 : decode mj_m_169.2.1 12 = .ok (.tableswitch 61 0 2 #[28, 49, 55], 28) := by decide +kernel
theorem mj_d_169_40 : decode mj_m_169.2.1 40 = .ok (.aload_n 0, 1) := by decide +kernel
theorem mj_d_169_41 : decode mj_m_169.2.1 41 = .ok (.getfield 7, 3) := by decide +kernel
theorem mj_d_169_44 : decode mj_m_169.2.1 44 = .ok (.iconst 2, 1) := by decide +kernel
theorem mj_d_169_45 : decode mj_m_169.2.1 45 = .ok (.iload_n 1, 1) := by decide +kernel
theorem mj_d_169_46 : decode mj_m_169.2.1 46 = .ok (.iadd, 1) := by decide +kernel
theorem mj_d_169_47 : decode mj_m_169.2.1 47 = .ok (.iaload, 1) := by decide +kernel
theorem mj_d_169_48 : decode mj_m_169.2.1 48 = .ok (.ifCond .ne 7, 3) := by decide +kernel
theorem mj_d_169_51 : decode mj_m_169.2.1 51 = .ok (.iconst 0, 1) := by decide +kernel
theorem mj_d_169_52 : decode mj_m_169.2.1 52 = .ok (.goto 8, 3) := by decide +kernel
theorem mj_d_169_55 : decode mj_m_169.2.1 55 = .ok (.aload_n 0, 1) := by decide +kernel
theorem mj_d_169_56 : decode mj_m_169.2.1 56 = .ok (.iload_n 1, 1) := by decide +kernel
theorem mj_d_169_57 : decode mj_m_169.2.1 57 = .ok (.invokevirtual 242, 3) := by decide +kernel
theorem mj_d_169_60 : decode mj_m_169.2.1 60 = .ok (.ireturn, 1) := by decide +kernel
theorem mj_d_169_61 : decode mj_m_169.2.1 61 = .ok (.aload_n 0, 1) := by decide +kernel
theorem mj_d_169_62 : decode mj_m_169.2.1 62 = .ok (.iload_n 1, 1) := by decide +kernel
theorem mj_d_169_63 : decode mj_m_169.2.1 63 = .ok (.invokevirtual 245, 3) := by decide +kernel
theorem mj_d_169_66 : decode mj_m_169.2.1 66 = .ok (.ireturn, 1) := by decide +kernel
theorem mj_d_169_67 : decode mj_m_169.2.1 67 = .ok (.aload_n 0, 1) := by decide +kernel
theorem mj_d_169_68 : decode mj_m_169.2.1 68 = .ok (.iload_n 1, 1) := by decide +kernel
theorem mj_d_169_69 : decode mj_m_169.2.1 69 = .ok (.invokevirtual 248, 3) := by decide +kernel
theorem mj_d_169_72 : decode mj_m_169.2.1 72 = .ok (.ireturn, 1) := by decide +kernel
theorem mj_d_169_73 : decode mj_m_169.2.1 73 = .ok (.ldc 88, 2) := by decide +kernel
theorem mj_d_169_75 : decode mj_m_169.2.1 75 = .ok (.ireturn, 1) := by decide +kernel
theorem mj_d_170_0 : decode mj_m_170.2.1 0 = .ok (.aload_n 0, 1) := by decide +kernel
theorem mj_d_170_1 : decode mj_m_170.2.1 1 = .ok (.iload_n 1, 1) := by decide +kernel
theorem mj_d_170_2 : decode mj_m_170.2.1 2 = .ok (.invokevirtual 195, 3) := by decide +kernel
theorem mj_d_170_5 : decode mj_m_170.2.1 5 = .ok (.iconst (-1), 1) := by decide +kernel
theorem mj_d_170_6 : decode mj_m_170.2.1 6 = .ok (.if_icmp .ne 7, 3) := by decide +kernel
theorem mj_d_170_9 : decode mj_m_170.2.1 9 = .ok (.iconst 0, 1) := by decide +kernel
theorem mj_d_170_10 : decode mj_m_170.2.1 10 = .ok (.goto 10, 3) := by decide +kernel
theorem mj_d_170_13 : decode mj_m_170.2.1 13 = .ok (.iconst 1, 1) := by decide +kernel
theorem mj_d_170_14 : decode mj_m_170.2.1 14 = .ok (.aload_n 0, 1) := by decide +kernel
theorem mj_d_170_15 : decode mj_m_170.2.1 15 = .ok (.iload_n 1, 1) := by decide +kernel
theorem mj_d_170_16 : decode mj_m_170.2.1 16 = .ok (.invokevirtual 195, 3) := by decide +kernel
theorem mj_d_170_19 : decode mj_m_170.2.1 19 = .ok (.ishl, 1) := by decide +kernel
theorem mj_d_170_20 : decode mj_m_170.2.1 20 = .ok (.istore_n 2, 1) := by decide +kernel
theorem mj_d_170_21 : decode mj_m_170.2.1 21 = .ok (.iload_n 1, 1) := by decide +kernel
theorem mj_d_170_22 : decode mj_m_170.2.1 22 = .ok (.istore_n 3, 1) := by decide +kernel
theorem mj_d_170_23 : decode mj_m_170.2.1 23 = .ok (.iload_n 3, 1) := by decide +kernel
theorem mj_d_170_24 : decode mj_m_170.2.1 24 = .ok (.iconst (-1), 1) := by decide +kernel
theorem mj_d_170_25 : decode mj_m_170.2.1 25 = .ok (.if_icmp .eq 22, 3) := by decide +kernel
theorem mj_d_170_28 : decode mj_m_170.2.1 28 = .ok (.iload_n 2, 1) := by decide +kernel
theorem mj_d_170_29 : decode mj_m_170.2.1 29 = .ok (.iconst 1, 1) := by decide +kernel
theorem mj_d_170_30 : decode mj_m_170.2.1 30 = .ok (.iload_n 3, 1) := by decide +kernel
theorem mj_d_170_31 : decode mj_m_170.2.1 31 = .ok (.ishl, 1) := by decide +kernel
theorem mj_d_170_32 : decode mj_m_170.2.1 32 = .ok (.ior, 1) := by decide +kernel
theorem mj_d_170_33 : decode mj_m_170.2.1 33 = .ok (.istore_n 2, 1) := by decide +kernel
theorem mj_d_170_34 : decode mj_m_170.2.1 34 = .ok (.aload_n 0, 1) := by decide +kernel
theorem mj_d_170_35 : decode mj_m_170.2.1 35 = .ok (.getfield 7, 3) := by decide +kernel
theorem mj_d_170_38 : decode mj_m_170.2.1 38 = .ok (.bipush 11, 2) := by decide +kernel
theorem mj_d_170_40 : decode mj_m_170.2.1 40 = .ok (.iload_n 3, 1) := by decide +kernel
theorem mj_d_170_41 : decode mj_m_170.2.1 41 = .ok (.iadd, 1) := by decide +kernel
theorem mj_d_170_42 : decode mj_m_170.2.1 42 = .ok (.iaload, 1) := by decide +kernel
theorem mj_d_170_43 : decode mj_m_170.2.1 43 = .ok (.istore_n 3, 1) := by decide +kernel
theorem mj_d_170_44 : decode mj_m_170.2.1 44 = .ok (.goto (-21), 3) := by decide +kernel
theorem mj_d_170_47 : decode mj_m_170.2.1 47 = .ok (.iload_n 2, 1) := by decide +kernel
theorem mj_d_170_48 : decode mj_m_170.2.1 48 = .ok (.ireturn, 1) := by decide +kernel
theorem mj_d_171_0 : decode mj_m_171.2.1 0 = .ok (.iconst 0, 1) := by decide +kernel
theorem mj_d_171_1 : decode mj_m_171.2.1 1 = .ok (.istore_n 2, 1) := by decide +kernel
theorem mj_d_171_2 : decode mj_m_171.2.1 2 = .ok (.iload_n 1, 1) := by decide +kernel
theorem mj_d_171_3 : decode mj_m_171.2.1 3 = .ok (.iconst 1, 1) := by decide +kernel
theorem mj_d_171_4 : decode mj_m_171.2.1 4 = .ok (.iadd, 1) := by decide +kernel
theorem mj_d_171_5 : decode mj_m_171.2.1 5 = .ok (.istore_n 3, 1) := by decide +kernel
theorem mj_d_171_6 : decode mj_m_171.2.1 6 = .ok (.iload_n 3, 1) := by decide +kernel
theorem mj_d_171_7 : decode mj_m_171.2.1 7 = .ok (.aload_n 0, 1) := by decide +kernel
theorem mj_d_171_8 : decode mj_m_171.2.1 8 = .ok (.getfield 76, 3) := by decide +kernel
theorem mj_d_171_11 : decode mj_m_171.2.1 11 = .ok (.if_icmp .ge 51, 3) := by decide +kernel
theorem mj_d_171_14 : decode mj_m_171.2.1 14 = .ok (.aload_n 0, 1) := by decide +kernel
theorem mj_d_171_15 : decode mj_m_171.2.1 15 = .ok (.getfield 7, 3) := by decide +kernel
theorem mj_d_171_18 : decode mj_m_171.2.1 18 = .ok (.bipush 11, 2) := by decide +kernel
theorem mj_d_171_20 : decode mj_m_171.2.1 20 = .ok (.iload_n 3, 1) := by decide +kernel
theorem mj_d_171_21 : decode mj_m_171.2.1 21 = .ok (.iadd, 1) := by decide +kernel
theorem mj_d_171_22 : decode mj_m_171.2.1 22 = .ok (.iaload, 1) := by decide +kernel
theorem mj_d_171_23 : decode mj_m_171.2.1 23 = .ok (.istore 4, 2) := by decide +kernel
theorem mj_d_171_25 : decode mj_m_171.2.1 25 = .ok (.iload_n 2, 1) := by decide +kernel
theorem mj_d_171_26 : decode mj_m_171.2.1 26 = .ok (.iload 4, 2) := by decide +kernel
theorem mj_d_171_28 : decode mj_m_171.2.1 28 = .ok (.iload_n 1, 1) := by decide +kernel
theorem mj_d_171_29 : decode mj_m_171.2.1 29 = .ok (.if_icmp .eq 18, 3) := by decide +kernel
theorem mj_d_171_32 : decode mj_m_171.2.1 32 = .ok (.iload 4, 2) := by decide +kernel
theorem mj_d_171_34 : decode mj_m_171.2.1 34 = .ok (.iconst (-1), 1) := by decide +kernel
theorem mj_d_171_35 : decode mj_m_171.2.1 35 = .ok (.if_icmp .eq 18, 3) := by decide +kernel
theorem mj_d_171_38 : decode mj_m_171.2.1 38 = .ok (.iload_n 2, 1) := by decide +kernel
theorem mj_d_171_39 : decode mj_m_171.2.1 39 = .ok (.iload 4, 2) := by decide +kernel
theorem mj_d_171_41 : decode mj_m_171.2.1 41 = .ok (.invokestatic 217, 3) := by decide +kernel
theorem mj_d_171_44 : decode mj_m_171.2.1 44 = .ok (.ifCond .eq 9, 3) := by decide +kernel
theorem mj_d_171_47 : decode mj_m_171.2.1 47 = .ok (.iconst 1, 1) := by decide +kernel
theorem mj_d_171_48 : decode mj_m_171.2.1 48 = .ok (.iload_n 3, 1) := by decide +kernel
theorem mj_d_171_49 : decode mj_m_171.2.1 49 = .ok (.ishl, 1) := by decide +kernel
theorem mj_d_171_50 : decode mj_m_171.2.1 50 = .ok (.goto 4, 3) := by decide +kernel
theorem mj_d_171_53 : decode mj_m_171.2.1 53 = .ok (.iconst 0, 1) := by decide +kernel
theorem mj_d_171_54 : decode mj_m_171.2.1 54 = .ok (.ior, 1) := by decide +kernel
theorem mj_d_171_55 : decode mj_m_171.2.1 55 = .ok (.istore_n 2, 1) := by decide +kernel
theorem mj_d_171_56 : decode mj_m_171.2.1 56 = .ok (.iinc 3 1, 3) := by decide +kernel
theorem mj_d_171_59 : decode mj_m_171.2.1 59 = .ok (.goto (-53), 3) := by decide +kernel
theorem mj_d_171_62 : decode mj_m_171.2.1 62 = .ok (.iload_n 2, 1) := by decide +kernel
theorem mj_d_171_63 : decode mj_m_171.2.1 63 = .ok (.ireturn, 1) := by decide +kernel
theorem mj_d_172_0 : decode mj_m_172.2.1 0 = .ok (.iconst 0, 1) := by decide +kernel
theorem mj_d_172_1 : decode mj_m_172.2.1 1 = .ok (.istore_n 2, 1) := by decide +kernel
theorem mj_d_172_2 : decode mj_m_172.2.1 2 = .ok (.iconst 0, 1) := by decide +kernel
theorem mj_d_172_3 : decode mj_m_172.2.1 3 = .ok (.istore_n 3, 1) := by decide +kernel
theorem mj_d_172_4 : decode mj_m_172.2.1 4 = .ok (.iload_n 3, 1) := by decide +kernel
theorem mj_d_172_5 : decode mj_m_172.2.1 5 = .ok (.aload_n 0, 1) := by decide +kernel
theorem mj_d_172_6 : decode mj_m_172.2.1 6 = .ok (.getfield 76, 3) := by decide +kernel
theorem mj_d_172_9 : decode mj_m_172.2.1 9 = .ok (.if_icmp .ge 74, 3) := by decide +kernel
theorem mj_d_172_12 : decode mj_m_172.2.1 12 = .ok (.iconst 1, 1) := by decide +kernel
theorem mj_d_172_13 : decode mj_m_172.2.1 13 = .ok (.istore 4, 2) := by decide +kernel
theorem mj_d_172_15 : decode mj_m_172.2.1 15 = .ok (.iconst 0, 1) := by decide +kernel
theorem mj_d_172_16 : decode mj_m_172.2.1 16 = .ok (.istore 5, 2) := by decide +kernel
theorem mj_d_172_18 : decode mj_m_172.2.1 18 = .ok (.iload 5, 2) := by decide +kernel
theorem mj_d_172_20 : decode mj_m_172.2.1 20 = .ok (.bipush 8, 2) := by decide +kernel
theorem mj_d_172_22 : decode mj_m_172.2.1 22 = .ok (.if_icmp .ge 40, 3) := by decide +kernel
theorem mj_d_172_25 : decode mj_m_172.2.1 25 = .ok (.iload 4, 2) := by decide +kernel
theorem mj_d_172_27 : decode mj_m_172.2.1 27 = .ok (.ifCond .eq 26, 3) := by decide +kernel
theorem mj_d_172_30 : decode mj_m_172.2.1 30 = .ok (.aload_n 0, 1) := by decide +kernel
theorem mj_d_172_31 : decode mj_m_172.2.1 31 = .ok (.iconst 0, 1) := by decide +kernel
theorem mj_d_172_32 : decode mj_m_172.2.1 32 = .ok (.iload_n 3, 1) := by decide +kernel
theorem mj_d_172_33 : decode mj_m_172.2.1 33 = .ok (.iload 5, 2) := by decide +kernel
theorem mj_d_172_35 : decode mj_m_172.2.1 35 = .ok (.invokevirtual 183, 3) := by decide +kernel
theorem mj_d_172_38 : decode mj_m_172.2.1 38 = .ok (.aload_n 0, 1) := by decide +kernel
theorem mj_d_172_39 : decode mj_m_172.2.1 39 = .ok (.iconst 0, 1) := by decide +kernel
theorem mj_d_172_40 : decode mj_m_172.2.1 40 = .ok (.iload_n 1, 1) := by decide +kernel
theorem mj_d_172_41 : decode mj_m_172.2.1 41 = .ok (.iload 5, 2) := by decide +kernel
theorem mj_d_172_43 : decode mj_m_172.2.1 43 = .ok (.invokevirtual 183, 3) := by decide +kernel
theorem mj_d_172_46 : decode mj_m_172.2.1 46 = .ok (.if_icmp .ne 7, 3) := by decide +kernel
theorem mj_d_172_49 : decode mj_m_172.2.1 49 = .ok (.iconst 1, 1) := by decide +kernel
theorem mj_d_172_50 : decode mj_m_172.2.1 50 = .ok (.goto 4, 3) := by decide +kernel
theorem mj_d_172_53 : decode mj_m_172.2.1 53 = .ok (.iconst 0, 1) := by decide +kernel
theorem mj_d_172_54 : decode mj_m_172.2.1 54 = .ok (.istore 4, 2) := by decide +kernel
theorem mj_d_172_56 : decode mj_m_172.2.1 56 = .ok (.iinc 5 1, 3) := by decide +kernel
theorem mj_d_172_59 : decode mj_m_172.2.1 59 = .ok (.goto (-41), 3) := by decide +kernel
theorem mj_d_172_62 : decode mj_m_172.2.1 62 = .ok (.iload_n 2, 1) := by decide +kernel
theorem mj_d_172_63 : decode mj_m_172.2.1 63 = .ok (.iload 4, 2) := by decide +kernel
theorem mj_d_172_65 : decode mj_m_172.2.1 65 = .ok (.ifCond .eq 9, 3) := by decide +kernel
theorem mj_d_172_68 : decode mj_m_172.2.1 68 = .ok (.iconst 1, 1) := by decide +kernel
theorem mj_d_172_69 : decode mj_m_172.2.1 69 = .ok (.iload_n 3, 1) := by decide +kernel
theorem mj_d_172_70 : decode mj_m_172.2.1 70 = .ok (.ishl, 1) := by decide +kernel
theorem mj_d_172_71 : decode mj_m_172.2.1 71 = .ok (.goto 4, 3) := by decide +kernel
theorem mj_d_172_74 : decode mj_m_172.2.1 74 = .ok (.iconst 0, 1) := by decide +kernel
theorem mj_d_172_75 : decode mj_m_172.2.1 75 = .ok (.ior, 1) := by decide +kernel
theorem mj_d_172_76 : decode mj_m_172.2.1 76 = .ok (.istore_n 2, 1) := by decide +kernel
theorem mj_d_172_77 : decode mj_m_172.2.1 77 = .ok (.iinc 3 1, 3) := by decide +kernel
theorem mj_d_172_80 : decode mj_m_172.2.1 80 = .ok (.goto (-76), 3) := by decide +kernel
theorem mj_d_172_83 : decode mj_m_172.2.1 83 = .ok (.iload_n 2, 1) := by decide +kernel
theorem mj_d_172_84 : decode mj_m_172.2.1 84 = .ok (.ireturn, 1) := by decide +kernel
theorem mj_d_180_0 : decode mj_m_180.2.1 0 = .ok (.iload_n 1, 1) := by decide +kernel
theorem mj_d_180_1 : decode mj_m_180.2.1 1 = .ok (.i2l, 1) := by decide +kernel
theorem mj_d_180_2 : decode mj_m_180.2.1 2 = .ok (.lconst 1, 1) := by decide +kernel
theorem mj_d_180_3 : decode mj_m_180.2.1 3 = .ok (.ldc2_w 181, 3) := by decide +kernel
theorem mj_d_180_6 : decode mj_m_180.2.1 6 = .ok (.invokestatic 79, 3) := by decide +kernel
theorem mj_d_180_9 : decode mj_m_180.2.1 9 = .ok (.ifCond .eq 13, 3) := by decide +kernel
theorem mj_d_180_12 : decode mj_m_180.2.1 12 = .ok (.iload_n 2, 1) := by decide +kernel
theorem mj_d_180_13 : decode mj_m_180.2.1 13 = .ok (.i2l, 1) := by decide +kernel
theorem mj_d_180_14 : decode mj_m_180.2.1 14 = .ok (.lconst 0, 1) := by decide +kernel
theorem mj_d_180_15 : decode mj_m_180.2.1 15 = .ok (.lconst 1, 1) := by decide +kernel
theorem mj_d_180_16 : decode mj_m_180.2.1 16 = .ok (.invokestatic 79, 3) := by decide +kernel
theorem mj_d_180_19 : decode mj_m_180.2.1 19 = .ok (.ifCond .ne 6, 3) := by decide +kernel
theorem mj_d_180_22 : decode mj_m_180.2.1 22 = .ok (.ldc 88, 2) := by decide +kernel
theorem mj_d_180_24 : decode mj_m_180.2.1 24 = .ok (.ireturn, 1) := by decide +kernel
theorem mj_d_180_25 : decode mj_m_180.2.1 25 = .ok (.iconst 0, 1) := by decide +kernel
theorem mj_d_180_26 : decode mj_m_180.2.1 26 = .ok (.istore_n 3, 1) := by decide +kernel
theorem mj_d_180_27 : decode mj_m_180.2.1 27 = .ok (.iconst (-1), 1) := by decide +kernel
theorem mj_d_180_28 : decode mj_m_180.2.1 28 = .ok (.istore 4, 2) := by decide +kernel
theorem mj_d_180_30 : decode mj_m_180.2.1 30 = .ok (.iconst 0, 1) := by decide +kernel
theorem mj_d_180_31 : decode mj_m_180.2.1 31 = .ok (.istore 5, 2) := by decide +kernel
theorem mj_d_180_33 : decode mj_m_180.2.1 33 = .ok (.iconst 0, 1) := by decide +kernel
theorem mj_d_180_34 : decode mj_m_180.2.1 34 = .ok (.istore 6, 2) := by decide +kernel
theorem mj_d_180_36 : decode mj_m_180.2.1 36 = .ok (.iload 6, 2) := by decide +kernel
theorem mj_d_180_38 : decode mj_m_180.2.1 38 = .ok (.aload_n 0, 1) := by decide +kernel
theorem mj_d_180_39 : decode mj_m_180.2.1 39 = .ok (.getfield 76, 3) := by decide +kernel
theorem mj_d_180_42 : decode mj_m_180.2.1 42 = .ok (.if_icmp .ge 126, 3) := by decide +kernel
theorem mj_d_180_45 : decode mj_m_180.2.1 45 = .ok (.iconst 0, 1) := by decide +kernel
theorem mj_d_180_46 : decode mj_m_180.2.1 46 = .ok (.istore 7, 2) := by decide +kernel
theorem mj_d_180_48 : decode mj_m_180.2.1 48 = .ok (.iconst 0, 1) := by decide +kernel
theorem mj_d_180_49 : decode mj_m_180.2.1 49 = .ok (.istore 8, 2) := by decide +kernel
theorem mj_d_180_51 : decode mj_m_180.2.1 51 = .ok (.iload 8, 2) := by decide +kernel
theorem mj_d_180_53 : decode mj_m_180.2.1 53 = .ok (.bipush 8, 2) := by decide +kernel
theorem mj_d_180_55 : decode mj_m_180.2.1 55 = .ok (.if_icmp .ge 34, 3) := by decide +kernel
theorem mj_d_180_58 : decode mj_m_180.2.1 58 = .ok (.iload 7, 2) := by decide +kernel
theorem mj_d_180_60 : decode mj_m_180.2.1 60 = .ok (.ifCond .ne 16, 3) := by decide +kernel
theorem mj_d_180_63 : decode mj_m_180.2.1 63 = .ok (.aload_n 0, 1) := by decide +kernel
theorem mj_d_180_64 : decode mj_m_180.2.1 64 = .ok (.iconst 0, 1) := by decide +kernel
theorem mj_d_180_65 : decode mj_m_180.2.1 65 = .ok (.iload 6, 2) := by decide +kernel
theorem mj_d_180_67 : decode mj_m_180.2.1 67 = .ok (.iload 8, 2) := by decide +kernel
theorem mj_d_180_69 : decode mj_m_180.2.1 69 = .ok (.invokevirtual 183, 3) := by decide +kernel
theorem mj_d_180_72 : decode mj_m_180.2.1 72 = .ok (.iload_n 1, 1) := by decide +kernel
theorem mj_d_180_73 : decode mj_m_180.2.1 73 = .ok (.if_icmp .ne 7, 3) := by decide +kernel
theorem mj_d_180_76 : decode mj_m_180.2.1 76 = .ok (.iconst 1, 1) := by decide +kernel
theorem mj_d_180_77 : decode mj_m_180.2.1 77 = .ok (.goto 4, 3) := by decide +kernel
theorem mj_d_180_80 : decode mj_m_180.2.1 80 = .ok (.iconst 0, 1) := by decide +kernel
theorem mj_d_180_81 : decode mj_m_180.2.1 81 = .ok (.istore 7, 2) := by decide +kernel
theorem mj_d_180_83 : decode mj_m_180.2.1 83 = .ok (.iinc 8 1, 3) := by decide +kernel
theorem mj_d_180_86 : decode mj_m_180.2.1 86 = .ok (.goto (-35), 3) := by decide +kernel
theorem mj_d_180_89 : decode mj_m_180.2.1 89 = .ok (.iload_n 3, 1) := by decide +kernel
theorem mj_d_180_90 : decode mj_m_180.2.1 90 = .ok (.iload 7, 2) := by decide +kernel
theorem mj_d_180_92 : decode mj_m_180.2.1 92 = .ok (.ifCond .eq 7, 3) := by decide +kernel
theorem mj_d_180_95 : decode mj_m_180.2.1 95 = .ok (.iconst 1, 1) := by decide +kernel
theorem mj_d_180_96 : decode mj_m_180.2.1 96 = .ok (.goto 4, 3) := by decide +kernel
theorem mj_d_180_99 : decode mj_m_180.2.1 99 = .ok (.iconst 0, 1) := by decide +kernel
theorem mj_d_180_100 : decode mj_m_180.2.1 100 = .ok (.iadd, 1) := by decide +kernel
theorem mj_d_180_101 : decode mj_m_180.2.1 101 = .ok (.istore_n 3, 1) := by decide +kernel
theorem mj_d_180_102 : decode mj_m_180.2.1 102 = .ok (.aload_n 0, 1) := by decide +kernel
theorem mj_d_180_103 : decode mj_m_180.2.1 103 = .ok (.getfield 7, 3) := by decide +kernel
theorem mj_d_180_106 : decode mj_m_180.2.1 106 = .ok (.iconst 2, 1) := by decide +kernel
theorem mj_d_180_107 : decode mj_m_180.2.1 107 = .ok (.iload 6, 2) := by decide +kernel
theorem mj_d_180_109 : decode mj_m_180.2.1 109 = .ok (.iadd, 1) := by decide +kernel
theorem mj_d_180_110 : decode mj_m_180.2.1 110 = .ok (.iaload, 1) := by decide +kernel
theorem mj_d_180_111 : decode mj_m_180.2.1 111 = .ok (.iload_n 1, 1) := by decide +kernel
theorem mj_d_180_112 : decode mj_m_180.2.1 112 = .ok (.if_icmp .ne 15, 3) := by decide +kernel
theorem mj_d_180_115 : decode mj_m_180.2.1 115 = .ok (.aload_n 0, 1) := by decide +kernel
theorem mj_d_180_116 : decode mj_m_180.2.1 116 = .ok (.iload 6, 2) := by decide +kernel
theorem mj_d_180_118 : decode mj_m_180.2.1 118 = .ok (.invokevirtual 242, 3) := by decide +kernel
theorem mj_d_180_121 : decode mj_m_180.2.1 121 = .ok (.invokestatic 251, 3) := by decide +kernel
theorem mj_d_180_124 : decode mj_m_180.2.1 124 = .ok (.goto 4, 3) := by decide +kernel
theorem mj_d_180_127 : decode mj_m_180.2.1 127 = .ok (.iconst 0, 1) := by decide +kernel
theorem mj_d_180_128 : decode mj_m_180.2.1 128 = .ok (.istore 8, 2) := by decide +kernel
theorem mj_d_180_130 : decode mj_m_180.2.1 130 = .ok (.iload 8, 2) := by decide +kernel
theorem mj_d_180_132 : decode mj_m_180.2.1 132 = .ok (.iload 5, 2) := by decide +kernel
theorem mj_d_180_134 : decode mj_m_180.2.1 134 = .ok (.if_icmp .le 8, 3) := by decide +kernel
theorem mj_d_180_137 : decode mj_m_180.2.1 137 = .ok (.iload 6, 2) := by decide +kernel
theorem mj_d_180_139 : decode mj_m_180.2.1 139 = .ok (.goto 5, 3) := by decide +kernel
theorem mj_d_180_142 : decode mj_m_180.2.1 142 = .ok (.iload 4, 2) := by decide +kernel
theorem mj_d_180_144 : decode mj_m_180.2.1 144 = .ok (.istore 4, 2) := by decide +kernel
theorem mj_d_180_146 : decode mj_m_180.2.1 146 = .ok (.iload 8, 2) := by decide +kernel
theorem mj_d_180_148 : decode mj_m_180.2.1 148 = .ok (.iload 5, 2) := by decide +kernel
theorem mj_d_180_150 : decode mj_m_180.2.1 150 = .ok (.if_icmp .le 8, 3) := by decide +kernel
theorem mj_d_180_153 : decode mj_m_180.2.1 153 = .ok (.iload 8, 2) := by decide +kernel
theorem mj_d_180_155 : decode mj_m_180.2.1 155 = .ok (.goto 5, 3) := by decide +kernel
theorem mj_d_180_158 : decode mj_m_180.2.1 158 = .ok (.iload 5, 2) := by decide +kernel
theorem mj_d_180_160 : decode mj_m_180.2.1 160 = .ok (.istore 5, 2) := by decide +kernel
theorem mj_d_180_162 : decode mj_m_180.2.1 162 = .ok (.iinc 6 1, 3) := by decide +kernel
theorem mj_d_180_165 : decode mj_m_180.2.1 165 = .ok (.goto (-129), 3) := by decide +kernel
theorem mj_d_180_168 : decode mj_m_180.2.1 168 = .ok (.iload_n 2, 1) := by decide +kernel
theorem mj_d_180_169 : decode mj_m_180.2.1 169 = .ok (.ifCond .ne 7, 3) := by decide +kernel
theorem mj_d_180_172 : decode mj_m_180.2.1 172 = .ok (.iload_n 3, 1) := by decide +kernel
theorem mj_d_180_173 : decode mj_m_180.2.1 173 = .ok (.goto 5, 3) := by decide +kernel
theorem mj_d_180_176 : decode mj_m_180.2.1 176 = .ok (.iload 4, 2) := by decide +kernel
theorem mj_d_180_178 : decode mj_m_180.2.1 178 = .ok (.ireturn, 1) := by decide +kernel
theorem mj_d_183_0 : decode mj_m_183.2.1 0 = .ok (.iload_n 1, 1) := by decide +kernel
theorem mj_d_183_1 : decode mj_m_183.2.1 1 = .ok (.i2l, 1) := by decide +kernel
theorem mj_d_183_2 : decode mj_m_183.2.1 2 = .ok (.lconst 1, 1) := by decide +kernel
theorem mj_d_183_3 : decode mj_m_183.2.1 3 = .ok (.ldc2_w 181, 3) := by decide +kernel
theorem mj_d_183_6 : decode mj_m_183.2.1 6 = .ok (.invokestatic 79, 3) := by decide +kernel
theorem mj_d_183_9 : decode mj_m_183.2.1 9 = .ok (.ifCond .eq 13, 3) := by decide +kernel
theorem mj_d_183_12 : decode mj_m_183.2.1 12 = .ok (.iload_n 2, 1) := by decide +kernel
theorem mj_d_183_13 : decode mj_m_183.2.1 13 = .ok (.i2l, 1) := by decide +kernel
theorem mj_d_183_14 : decode mj_m_183.2.1 14 = .ok (.lconst 0, 1) := by decide +kernel
theorem mj_d_183_15 : decode mj_m_183.2.1 15 = .ok (.lconst 1, 1) := by decide +kernel
theorem mj_d_183_16 : decode mj_m_183.2.1 16 = .ok (.invokestatic 79, 3) := by decide +kernel
theorem mj_d_183_19 : decode mj_m_183.2.1 19 = .ok (.ifCond .ne 6, 3) := by decide +kernel
theorem mj_d_183_22 : decode mj_m_183.2.1 22 = .ok (.ldc 88, 2) := by decide +kernel
theorem mj_d_183_24 : decode mj_m_183.2.1 24 = .ok (.ireturn, 1) := by decide +kernel
theorem mj_d_183_25 : decode mj_m_183.2.1 25 = .ok (.iconst 0, 1) := by decide +kernel
theorem mj_d_183_26 : decode mj_m_183.2.1 26 = .ok (.istore_n 3, 1) := by decide +kernel
theorem mj_d_183_27 : decode mj_m_183.2.1 27 = .ok (.iconst 0, 1) := by decide +kernel
theorem mj_d_183_28 : decode mj_m_183.2.1 28 = .ok (.istore 4, 2) := by decide +kernel
theorem mj_d_183_30 : decode mj_m_183.2.1 30 = .ok (.iload 4, 2) := by decide +kernel
theorem mj_d_183_32 : decode mj_m_183.2.1 32 = .ok (.aload_n 0, 1) := by decide +kernel
theorem mj_d_183_33 : decode mj_m_183.2.1 33 = .ok (.getfield 76, 3) := by decide +kernel
theorem mj_d_183_36 : decode mj_m_183.2.1 36 = .ok (.if_icmp .ge 95, 3) := by decide +kernel
theorem mj_d_183_39 : decode mj_m_183.2.1 39 = .ok (.iconst 1, 1) := by decide +kernel
theorem mj_d_183_40 : decode mj_m_183.2.1 40 = .ok (.istore 5, 2) := by decide +kernel
theorem mj_d_183_42 : decode mj_m_183.2.1 42 = .ok (.iconst 0, 1) := by decide +kernel
theorem mj_d_183_43 : decode mj_m_183.2.1 43 = .ok (.istore 6, 2) := by decide +kernel
theorem mj_d_183_45 : decode mj_m_183.2.1 45 = .ok (.iload 6, 2) := by decide +kernel
theorem mj_d_183_47 : decode mj_m_183.2.1 47 = .ok (.aload_n 0, 1) := by decide +kernel
theorem mj_d_183_48 : decode mj_m_183.2.1 48 = .ok (.getfield 162, 3) := by decide +kernel
theorem mj_d_183_51 : decode mj_m_183.2.1 51 = .ok (.if_icmp .ge 58, 3) := by decide +kernel
theorem mj_d_183_54 : decode mj_m_183.2.1 54 = .ok (.iload 5, 2) := by decide +kernel
theorem mj_d_183_56 : decode mj_m_183.2.1 56 = .ok (.ifCond .eq 44, 3) := by decide +kernel
theorem mj_d_183_59 : decode mj_m_183.2.1 59 = .ok (.aload_n 0, 1) := by decide +kernel
theorem mj_d_183_60 : decode mj_m_183.2.1 60 = .ok (.getfield 60, 3) := by decide +kernel
theorem mj_d_183_63 : decode mj_m_183.2.1 63 = .ok (.iload 6, 2) := by decide +kernel
theorem mj_d_183_65 : decode mj_m_183.2.1 65 = .ok (.iaload, 1) := by decide +kernel
theorem mj_d_183_66 : decode mj_m_183.2.1 66 = .ok (.iload_n 1, 1) := by decide +kernel
theorem mj_d_183_67 : decode mj_m_183.2.1 67 = .ok (.if_icmp .ne 29, 3) := by decide +kernel
theorem mj_d_183_70 : decode mj_m_183.2.1 70 = .ok (.aload_n 0, 1) := by decide +kernel
theorem mj_d_183_71 : decode mj_m_183.2.1 71 = .ok (.iload 4, 2) := by decide +kernel
theorem mj_d_183_73 : decode mj_m_183.2.1 73 = .ok (.invokevirtual 242, 3) := by decide +kernel
theorem mj_d_183_76 : decode mj_m_183.2.1 76 = .ok (.aload_n 0, 1) := by decide +kernel
theorem mj_d_183_77 : decode mj_m_183.2.1 77 = .ok (.getfield 57, 3) := by decide +kernel
theorem mj_d_183_80 : decode mj_m_183.2.1 80 = .ok (.iload 6, 2) := by decide +kernel
theorem mj_d_183_82 : decode mj_m_183.2.1 82 = .ok (.iaload, 1) := by decide +kernel
theorem mj_d_183_83 : decode mj_m_183.2.1 83 = .ok (.invokestatic 217, 3) := by decide +kernel
theorem mj_d_183_86 : decode mj_m_183.2.1 86 = .ok (.aload_n 0, 1) := by decide +kernel
theorem mj_d_183_87 : decode mj_m_183.2.1 87 = .ok (.getfield 63, 3) := by decide +kernel
theorem mj_d_183_90 : decode mj_m_183.2.1 90 = .ok (.iload 6, 2) := by decide +kernel
theorem mj_d_183_92 : decode mj_m_183.2.1 92 = .ok (.baload, 1) := by decide +kernel
theorem mj_d_183_93 : decode mj_m_183.2.1 93 = .ok (.if_icmp .ne 7, 3) := by decide +kernel
theorem mj_d_183_96 : decode mj_m_183.2.1 96 = .ok (.iconst 1, 1) := by decide +kernel
theorem mj_d_183_97 : decode mj_m_183.2.1 97 = .ok (.goto 4, 3) := by decide +kernel
theorem mj_d_183_100 : decode mj_m_183.2.1 100 = .ok (.iconst 0, 1) := by decide +kernel
theorem mj_d_183_101 : decode mj_m_183.2.1 101 = .ok (.istore 5, 2) := by decide +kernel
theorem mj_d_183_103 : decode mj_m_183.2.1 103 = .ok (.iinc 6 1, 3) := by decide +kernel
theorem mj_d_183_106 : decode mj_m_183.2.1 106 = .ok (.goto (-61), 3) := by decide +kernel
theorem mj_d_183_109 : decode mj_m_183.2.1 109 = .ok (.iload_n 3, 1) := by decide +kernel
theorem mj_d_183_110 : decode mj_m_183.2.1 110 = .ok (.iload 5, 2) := by decide +kernel
theorem mj_d_183_112 : decode mj_m_183.2.1 112 = .ok (.ifCond .eq 10, 3) := by decide +kernel
theorem mj_d_183_115 : decode mj_m_183.2.1 115 = .ok (.iconst 1, 1) := by decide +kernel
theorem mj_d_183_116 : decode mj_m_183.2.1 116 = .ok (.iload 4, 2) := by decide +kernel
theorem mj_d_183_118 : decode mj_m_183.2.1 118 = .ok (.ishl, 1) := by decide +kernel
theorem mj_d_183_119 : decode mj_m_183.2.1 119 = .ok (.goto 4, 3) := by decide +kernel
theorem mj_d_183_122 : decode mj_m_183.2.1 122 = .ok (.iconst 0, 1) := by decide +kernel
theorem mj_d_183_123 : decode mj_m_183.2.1 123 = .ok (.ior, 1) := by decide +kernel
theorem mj_d_183_124 : decode mj_m_183.2.1 124 = .ok (.istore_n 3, 1) := by decide +kernel
theorem mj_d_183_125 : decode mj_m_183.2.1 125 = .ok (.iinc 4 1, 3) := by decide +kernel
theorem mj_d_183_128 : decode mj_m_183.2.1 128 = .ok (.goto (-98), 3) := by decide +kernel
theorem mj_d_183_131 : decode mj_m_183.2.1 131 = .ok (.iload_n 2, 1) := by decide +kernel
theorem mj_d_183_132 : decode mj_m_183.2.1 132 = .ok (.ifCond .ne 5, 3) := by decide +kernel
theorem mj_d_183_135 : decode mj_m_183.2.1 135 = .ok (.iload_n 3, 1) := by decide +kernel
theorem mj_d_183_136 : decode mj_m_183.2.1 136 = .ok (.ireturn, 1) := by decide +kernel
theorem mj_d_183_137 : decode mj_m_183.2.1 137 = .ok (.iconst (-1), 1) := by decide +kernel
theorem mj_d_183_138 : decode mj_m_183.2.1 138 = .ok (.istore 4, 2) := by decide +kernel
theorem mj_d_183_140 : decode mj_m_183.2.1 140 = .ok (.iload_n 3, 1) := by decide +kernel
theorem mj_d_183_141 : decode mj_m_183.2.1 141 = .ok (.invokestatic 251, 3) := by decide +kernel
theorem mj_d_183_144 : decode mj_m_183.2.1 144 = .ok (.istore 5, 2) := by decide +kernel
theorem mj_d_183_146 : decode mj_m_183.2.1 146 = .ok (.iconst 0, 1) := by decide +kernel
theorem mj_d_183_147 : decode mj_m_183.2.1 147 = .ok (.istore 6, 2) := by decide +kernel
theorem mj_d_183_149 : decode mj_m_183.2.1 149 = .ok (.iload 6, 2) := by decide +kernel
theorem mj_d_183_151 : decode mj_m_183.2.1 151 = .ok (.aload_n 0, 1) := by decide +kernel
theorem mj_d_183_152 : decode mj_m_183.2.1 152 = .ok (.getfield 76, 3) := by decide +kernel
theorem mj_d_183_155 : decode mj_m_183.2.1 155 = .ok (.if_icmp .ge 120, 3) := by decide +kernel
theorem mj_d_183_158 : decode mj_m_183.2.1 158 = .ok (.iconst 0, 1) := by decide +kernel
theorem mj_d_183_159 : decode mj_m_183.2.1 159 = .ok (.istore 7, 2) := by decide +kernel
theorem mj_d_183_161 : decode mj_m_183.2.1 161 = .ok (.iconst 0, 1) := by decide +kernel
theorem mj_d_183_162 : decode mj_m_183.2.1 162 = .ok (.istore 8, 2) := by decide +kernel
theorem mj_d_183_164 : decode mj_m_183.2.1 164 = .ok (.iload 8, 2) := by decide +kernel
theorem mj_d_183_166 : decode mj_m_183.2.1 166 = .ok (.aload_n 0, 1) := by decide +kernel
theorem mj_d_183_167 : decode mj_m_183.2.1 167 = .ok (.getfield 76, 3) := by decide +kernel
theorem mj_d_183_170 : decode mj_m_183.2.1 170 = .ok (.if_icmp .ge 42, 3) := by decide +kernel
theorem mj_d_183_173 : decode mj_m_183.2.1 173 = .ok (.iload 7, 2) := by decide +kernel
theorem mj_d_183_175 : decode mj_m_183.2.1 175 = .ok (.iload_n 3, 1) := by decide +kernel
theorem mj_d_183_176 : decode mj_m_183.2.1 176 = .ok (.iload 8, 2) := by decide +kernel
theorem mj_d_183_178 : decode mj_m_183.2.1 178 = .ok (.invokestatic 217, 3) := by decide +kernel
theorem mj_d_183_181 : decode mj_m_183.2.1 181 = .ok (.ifCond .eq 21, 3) := by decide +kernel
theorem mj_d_183_184 : decode mj_m_183.2.1 184 = .ok (.aload_n 0, 1) := by decide +kernel
theorem mj_d_183_185 : decode mj_m_183.2.1 185 = .ok (.iload 8, 2) := by decide +kernel
theorem mj_d_183_187 : decode mj_m_183.2.1 187 = .ok (.invokevirtual 242, 3) := by decide +kernel
theorem mj_d_183_190 : decode mj_m_183.2.1 190 = .ok (.iload 6, 2) := by decide +kernel
theorem mj_d_183_192 : decode mj_m_183.2.1 192 = .ok (.invokestatic 217, 3) := by decide +kernel
theorem mj_d_183_195 : decode mj_m_183.2.1 195 = .ok (.ifCond .eq 7, 3) := by decide +kernel
theorem mj_d_183_198 : decode mj_m_183.2.1 198 = .ok (.iconst 1, 1) := by decide +kernel
theorem mj_d_183_199 : decode mj_m_183.2.1 199 = .ok (.goto 4, 3) := by decide +kernel
theorem mj_d_183_202 : decode mj_m_183.2.1 202 = .ok (.iconst 0, 1) := by decide +kernel
theorem mj_d_183_203 : decode mj_m_183.2.1 203 = .ok (.iadd, 1) := by decide +kernel
theorem mj_d_183_204 : decode mj_m_183.2.1 204 = .ok (.istore 7, 2) := by decide +kernel
theorem mj_d_183_206 : decode mj_m_183.2.1 206 = .ok (.iinc 8 1, 3) := by decide +kernel
theorem mj_d_183_209 : decode mj_m_183.2.1 209 = .ok (.goto (-45), 3) := by decide +kernel
theorem mj_d_183_212 : decode mj_m_183.2.1 212 = .ok (.iload_n 3, 1) := by decide +kernel
theorem mj_d_183_213 : decode mj_m_183.2.1 213 = .ok (.invokestatic 251, 3) := by decide +kernel
theorem mj_d_183_216 : decode mj_m_183.2.1 216 = .ok (.iload 7, 2) := by decide +kernel
theorem mj_d_183_218 : decode mj_m_183.2.1 218 = .ok (.isub, 1) := by decide +kernel
theorem mj_d_183_219 : decode mj_m_183.2.1 219 = .ok (.istore 8, 2) := by decide +kernel
theorem mj_d_183_221 : decode mj_m_183.2.1 221 = .ok (.iload 7, 2) := by decide +kernel
theorem mj_d_183_223 : decode mj_m_183.2.1 223 = .ok (.iload 8, 2) := by decide +kernel
theorem mj_d_183_225 : decode mj_m_183.2.1 225 = .ok (.if_icmp .le 8, 3) := by decide +kernel
theorem mj_d_183_228 : decode mj_m_183.2.1 228 = .ok (.iload 7, 2) := by decide +kernel
theorem mj_d_183_230 : decode mj_m_183.2.1 230 = .ok (.goto 5, 3) := by decide +kernel
theorem mj_d_183_233 : decode mj_m_183.2.1 233 = .ok (.iload 8, 2) := by decide +kernel
theorem mj_d_183_235 : decode mj_m_183.2.1 235 = .ok (.istore 9, 2) := by decide +kernel
theorem mj_d_183_237 : decode mj_m_183.2.1 237 = .ok (.iload 9, 2) := by decide +kernel
theorem mj_d_183_239 : decode mj_m_183.2.1 239 = .ok (.iload 5, 2) := by decide +kernel
theorem mj_d_183_241 : decode mj_m_183.2.1 241 = .ok (.if_icmp .ge 8, 3) := by decide +kernel
theorem mj_d_183_244 : decode mj_m_183.2.1 244 = .ok (.iload 6, 2) := by decide +kernel
theorem mj_d_183_246 : decode mj_m_183.2.1 246 = .ok (.goto 5, 3) := by decide +kernel
theorem mj_d_183_249 : decode mj_m_183.2.1 249 = .ok (.iload 4, 2) := by decide +kernel
theorem mj_d_183_251 : decode mj_m_183.2.1 251 = .ok (.istore 4, 2) := by decide +kernel
theorem mj_d_183_253 : decode mj_m_183.2.1 253 = .ok (.iload 9, 2) := by decide +kernel
theorem mj_d_183_255 : decode mj_m_183.2.1 255 = .ok (.iload 5, 2) := by decide +kernel
theorem mj_d_183_257 : decode mj_m_183.2.1 257 = .ok (.if_icmp .ge 8, 3) := by decide +kernel
theorem mj_d_183_260 : decode mj_m_183.2.1 260 = .ok (.iload 9, 2) := by decide +kernel
theorem mj_d_183_262 : decode mj_m_183.2.1 262 = .ok (.goto 5, 3) := by decide +kernel
theorem mj_d_183_265 : decode mj_m_183.2.1 265 = .ok (.iload 5, 2) := by decide +kernel
theorem mj_d_183_267 : decode mj_m_183.2.1 267 = .ok (.istore 5, 2) := by decide +kernel
theorem mj_d_183_269 : decode mj_m_183.2.1 269 = .ok (.iinc 6 1, 3) := by decide +kernel
theorem mj_d_183_272 : decode mj_m_183.2.1 272 = .ok (.goto (-123), 3) := by decide +kernel
theorem mj_d_183_275 : decode mj_m_183.2.1 275 = .ok (.iload 4, 2) := by decide +kernel
theorem mj_d_183_277 : decode mj_m_183.2.1 277 = .ok (.ireturn, 1) := by decide +kernel
def dc_R_passes_28 (k2 : sg_S → Int → Int → sg_S) (n : Nat) : sg_S → Int → Int → Int → Int → sg_S := Nat.rec (fun (s : sg_S) l1 l2 l3 l4 => s) (fun _ ih => fun s l1 l2 l3 l4 => (if l4 = (-1) then (if (dc_R_blownTo s l2) = (-1) then (k2 s l1 (l2 + 1)) else (k2 (dc_R_lays s l1 (dc_R_blownTo s l2) l3) l1 (l2 + 1))) else (ih (dc_R_lays s l1 l4 l3) l1 l2 l3 ((dc_R_lays s l1 l4 l3) 235 (((l1 + 11) + l4).toNat))))) n
theorem dc_R_passes_28_s (k2 : sg_S → Int → Int → sg_S) (n : Nat) (s : sg_S) (l1 l2 l3 l4 : Int) : dc_R_passes_28 k2 (n + 1) s l1 l2 l3 l4 = (if l4 = (-1) then (if (dc_R_blownTo s l2) = (-1) then (k2 s l1 (l2 + 1)) else (k2 (dc_R_lays s l1 (dc_R_blownTo s l2) l3) l1 (l2 + 1))) else ((dc_R_passes_28 k2 n) (dc_R_lays s l1 l4 l3) l1 l2 l3 ((dc_R_lays s l1 l4 l3) 235 (((l1 + 11) + l4).toNat)))) := rfl
def dc_R_passes_2 (n : Nat) : sg_S → Int → Int → sg_S := Nat.rec (fun (s : sg_S) l1 l2 => s) (fun _ ih => fun s l1 l2 => (if (s 234 6) ≤ l2 then (sg_up s 235 ((l1 + 0).toNat) (sy_w ((s 235 ((l1 + 0).toNat)) + 1))) else (if (s 235 (((l1 + 2) + l2).toNat)) ≤ 0 then (ih s l1 (l2 + 1)) else (dc_R_passes_28 ih 10 s l1 l2 (s 235 (((l1 + 2) + l2).toNat)) l2)))) n
theorem dc_R_passes_2_s (n : Nat) (s : sg_S) (l1 l2 : Int) : dc_R_passes_2 (n + 1) s l1 l2 = (if (s 234 6) ≤ l2 then (sg_up s 235 ((l1 + 0).toNat) (sy_w ((s 235 ((l1 + 0).toNat)) + 1))) else (if (s 235 (((l1 + 2) + l2).toNat)) ≤ 0 then ((dc_R_passes_2 n) s l1 (l2 + 1)) else (dc_R_passes_28 (dc_R_passes_2 n) 10 s l1 l2 (s 235 (((l1 + 2) + l2).toNat)) l2))) := rfl
def dc_R_passes (s : sg_S) (a1 : Int) : sg_S := (dc_R_passes_2 10 s a1 0)
def dw_R_passes (a k : Nat) : Bool := (a == 235) || dw_R_lays a k
theorem dr_R_passes_28 (a k : Nat) (h : dw_R_passes a k = false) {k2 : sg_S → Int → Int → sg_S} (hk2 : ∀ s y0 y1, (k2 s y0 y1) a k = s a k) : ∀ (n : Nat) (s : sg_S) (l1 l2 l3 l4 : Int), (dc_R_passes_28 k2 n s l1 l2 l3 l4) a k = s a k := by
  have h0 := h
  unfold dw_R_passes at h
  simp only [Bool.or_eq_false_iff] at h
  obtain ⟨h1, h2⟩ := h
  intro n
  induction n with
  | zero => intro s l1 l2 l3 l4; rfl
  | succ n ih =>
    intro s l1 l2 l3 l4
    rw [dc_R_passes_28_s]
    (repeat' split) <;> simp only [(fun s l z => sg_upa (s := s) (l := l) (z := z) (k := k) h1), (fun s x0 x1 x2 => dr_R_lays s x0 x1 x2 a k h2), ih, hk2]
theorem dr_R_passes_2 (a k : Nat) (h : dw_R_passes a k = false) : ∀ (n : Nat) (s : sg_S) (l1 l2 : Int), (dc_R_passes_2 n s l1 l2) a k = s a k := by
  have h0 := h
  unfold dw_R_passes at h
  simp only [Bool.or_eq_false_iff] at h
  obtain ⟨h1, h2⟩ := h
  intro n
  induction n with
  | zero => intro s l1 l2; rfl
  | succ n ih =>
    intro s l1 l2
    rw [dc_R_passes_2_s]
    (repeat' split) <;> simp only [(fun s l z => sg_upa (s := s) (l := l) (z := z) (k := k) h1), (fun s x0 x1 x2 => dr_R_lays s x0 x1 x2 a k h2), ih, (dr_R_passes_28 a k h0 ih)]
theorem dr_R_passes (s : sg_S) (a1 : Int) (a k : Nat) (h : dw_R_passes a k = false) : (dc_R_passes s a1) a k = s a k := by
  have h0 := h
  unfold dw_R_passes at h
  simp only [Bool.or_eq_false_iff] at h
  obtain ⟨h1, h2⟩ := h
  unfold dc_R_passes
  (repeat' split) <;> simp only [(fun s l z => sg_upa (s := s) (l := l) (z := z) (k := k) h1), (fun s x0 x1 x2 => dr_R_lays s x0 x1 x2 a k h2), (dr_R_passes_2 a k h0)]
set_option maxRecDepth 100000 in
theorem dt_R_passes_28 {k2 : sg_S → Int → Int → sg_S} {n2 : Nat} (hk2 : ∀ {h1 : mj_H}, sy_H h1 → ∀ {l1 l2 : Int}, 0 ≤ l1 → l1 ≤ 112 → 0 ≤ l2 → l2 ≤ 9 → l1 % 112 = 0 → (sy_rd h1 234 6) ≤ 0 ∨ (sy_rd h1 235 (l1 + 11).toNat) = -1 → 9 - l2 < (n2 : Int) → sy_wp (mj_m_150, 2, [(0, .ref 234), (1, sy_i l1), (2, sy_i l2)], [], h1) (dq3 (k2 (sy_rd h1) l1 l2))) : ∀ (n : Nat) {h : mj_H} (hH : sy_H h) {l1 l2 l3 l4 : Int} (b_l1 : 0 ≤ l1) (t_l1 : l1 ≤ 112) (b_l2 : 0 ≤ l2) (t_l2 : l2 ≤ 8) (b_l3 : 0 ≤ l3) (t_l3 : l3 ≤ 7) (b_l4 : (-1) ≤ l4) (t_l4 : l4 ≤ 8) (i0 : l1 % 112 = 0) (i1 : (sy_rd h 235 (l1 + 11).toNat) = -1) (i2 : 9 - (l2 + 1) < (n2 : Int)) (hm : l4 + 1 < (n : Int)), sy_wp (mj_m_150, 28, [(0, .ref 234), (1, sy_i l1), (2, sy_i l2), (3, sy_i l3), (4, sy_i l4)], [], h) (dq3 (dc_R_passes_28 k2 n (sy_rd h) l1 l2 l3 l4)) := by
  intro n
  induction n with
  | zero =>
    intro h hH l1 l2 l3 l4 b_l1 t_l1 b_l2 t_l2 b_l3 t_l3 b_l4 t_l4 i0 i1 i2 hm
    exact absurd hm (by omega)
  | succ n ih =>
    intro h hH l1 l2 l3 l4 b_l1 t_l1 b_l2 t_l2 b_l3 t_l3 b_l4 t_l4 i0 i1 i2 hm
    rw [dc_R_passes_28_s]
    refine sy_st (S' := (mj_m_150, 30, [(0, .ref 234), (1, sy_i l1), (2, sy_i l2), (3, sy_i l3), (4, sy_i l4)], [sy_i l4], h)) mj_d_150_28 (fun _ _ => rfl) ?_
    refine sy_st (S' := (mj_m_150, 31, [(0, .ref 234), (1, sy_i l1), (2, sy_i l2), (3, sy_i l3), (4, sy_i l4)], [sy_i (-1), sy_i l4], h)) mj_d_150_30 (fun _ _ => rfl) ?_
    refine sy_icm mj_d_150_31 rfl ⟨by omega, by omega⟩ ⟨by omega, by omega⟩ (fun (c1 : l4 = (-1)) => ?_) (fun (c1 : ¬ (l4 = (-1))) => ?_)
    · skip
      rw [if_pos c1]
      refine sy_st (S' := (mj_m_150, 60, [(0, .ref 234), (1, sy_i l1), (2, sy_i l2), (3, sy_i l3), (4, sy_i l4)], [.ref 234], h)) mj_d_150_59 (fun _ _ => rfl) ?_
      refine sy_st (S' := (mj_m_150, 61, [(0, .ref 234), (1, sy_i l1), (2, sy_i l2), (3, sy_i l3), (4, sy_i l4)], [sy_i l2, .ref 234], h)) mj_d_150_60 (fun _ _ => rfl) ?_
      refine sy_cv (M' := mj_m_152) (vs := [.ref 234, sy_i l2]) (rest := []) mj_d_150_61 rfl rfl rfl rfl hH rfl rfl ⟨by decide, ⟨Nat.le_of_ble_eq_true rfl, Nat.le_of_ble_eq_true rfl, Nat.le_of_ble_eq_true rfl, Nat.le_of_ble_eq_true rfl, Nat.le_of_ble_eq_true rfl⟩⟩ (dt_R_blownTo (a1 := l2) hH (by omega) (by omega)) ?_
      rintro _ _ ⟨rfl, rfl, b2, b2t⟩
      show sy_wp (mj_m_150, 64, [(0, .ref 234), (1, sy_i l1), (2, sy_i l2), (3, sy_i l3), (4, sy_i l4)], [sy_i (dc_R_blownTo (sy_rd h) l2)], h) _
      refine sy_st (S' := (mj_m_150, 65, [(0, .ref 234), (1, sy_i l1), (2, sy_i l2), (3, sy_i l3), (4, sy_i l4)], [sy_i (-1), sy_i (dc_R_blownTo (sy_rd h) l2)], h)) mj_d_150_64 (fun _ _ => rfl) ?_
      refine sy_icm mj_d_150_65 rfl ⟨by omega, by omega⟩ ⟨by omega, by omega⟩ (fun (c3 : (dc_R_blownTo (sy_rd h) l2) = (-1)) => ?_) (fun (c3 : ¬ ((dc_R_blownTo (sy_rd h) l2) = (-1))) => ?_)
      · skip
        rw [if_pos c3]
        refine sy_inc (a := l2) (lv' := [(2, sy_i (l2 + 1)), (0, .ref 234), (1, sy_i l1), (3, sy_i l3), (4, sy_i l4)]) mj_d_150_79 (Nat.le_of_ble_eq_true rfl) rfl rfl ?_
        refine sy_st (S' := (mj_m_150, 2, [(2, sy_i (l2 + 1)), (0, .ref 234), (1, sy_i l1), (3, sy_i l3), (4, sy_i l4)], [], h)) mj_d_150_82 (fun _ _ => rfl) ?_
        refine sy_lv (lv := [(0, .ref 234), (1, sy_i l1), (2, sy_i (l2 + 1))]) rfl ⟨rfl, rfl, rfl, trivial⟩ ?_
        exact hk2 hH (by first | omega | assumption) (by first | omega | assumption) (by first | omega | assumption) (by first | omega | assumption) (by first | omega | assumption) (by first | omega | (right; rw [rfl, dfh_lays hH (by omega) (by omega) (by omega) (by omega) (by omega) _ (by omega)]; exact i1)) (by omega)
      · skip
        rw [if_neg c3]
        refine sy_st (S' := (mj_m_150, 69, [(0, .ref 234), (1, sy_i l1), (2, sy_i l2), (3, sy_i l3), (4, sy_i l4)], [.ref 234], h)) mj_d_150_68 (fun _ _ => rfl) ?_
        refine sy_st (S' := (mj_m_150, 70, [(0, .ref 234), (1, sy_i l1), (2, sy_i l2), (3, sy_i l3), (4, sy_i l4)], [sy_i l1, .ref 234], h)) mj_d_150_69 (fun _ _ => rfl) ?_
        refine sy_st (S' := (mj_m_150, 71, [(0, .ref 234), (1, sy_i l1), (2, sy_i l2), (3, sy_i l3), (4, sy_i l4)], [.ref 234, sy_i l1, .ref 234], h)) mj_d_150_70 (fun _ _ => rfl) ?_
        refine sy_st (S' := (mj_m_150, 72, [(0, .ref 234), (1, sy_i l1), (2, sy_i l2), (3, sy_i l3), (4, sy_i l4)], [sy_i l2, .ref 234, sy_i l1, .ref 234], h)) mj_d_150_71 (fun _ _ => rfl) ?_
        refine sy_cv (M' := mj_m_152) (vs := [.ref 234, sy_i l2]) (rest := [sy_i l1, .ref 234]) mj_d_150_72 rfl rfl rfl rfl hH rfl rfl ⟨by decide, ⟨Nat.le_of_ble_eq_true rfl, Nat.le_of_ble_eq_true rfl, Nat.le_of_ble_eq_true rfl, Nat.le_of_ble_eq_true rfl, Nat.le_of_ble_eq_true rfl⟩⟩ (dt_R_blownTo (a1 := l2) hH (by omega) (by omega)) ?_
        rintro _ _ ⟨rfl, rfl, b4, b4t⟩
        show sy_wp (mj_m_150, 75, [(0, .ref 234), (1, sy_i l1), (2, sy_i l2), (3, sy_i l3), (4, sy_i l4)], [sy_i (dc_R_blownTo (sy_rd h) l2), sy_i l1, .ref 234], h) _
        refine sy_st (S' := (mj_m_150, 76, [(0, .ref 234), (1, sy_i l1), (2, sy_i l2), (3, sy_i l3), (4, sy_i l4)], [sy_i l3, sy_i (dc_R_blownTo (sy_rd h) l2), sy_i l1, .ref 234], h)) mj_d_150_75 (fun _ _ => rfl) ?_
        refine sy_cv (M' := mj_m_151) (vs := [.ref 234, sy_i l1, sy_i (dc_R_blownTo (sy_rd h) l2), sy_i l3]) (rest := []) mj_d_150_76 rfl rfl rfl rfl hH rfl rfl ⟨by decide, ⟨Nat.le_of_ble_eq_true rfl, Nat.le_of_ble_eq_true rfl, Nat.le_of_ble_eq_true rfl, Nat.le_of_ble_eq_true rfl, Nat.le_of_ble_eq_true rfl⟩⟩ (dt_R_lays (a1 := l1) (a2 := (dc_R_blownTo (sy_rd h) l2)) (a3 := l3) hH (by omega) (by omega) (by omega) (by omega) (by omega) (by omega) (by first | omega | assumption)) ?_
        rintro _ h5 ⟨rfl, th5, eh5⟩
        show sy_wp (mj_m_150, 79, [(0, .ref 234), (1, sy_i l1), (2, sy_i l2), (3, sy_i l3), (4, sy_i l4)], [], h5) _
        refine sy_inc (a := l2) (lv' := [(2, sy_i (l2 + 1)), (0, .ref 234), (1, sy_i l1), (3, sy_i l3), (4, sy_i l4)]) mj_d_150_79 (Nat.le_of_ble_eq_true rfl) rfl rfl ?_
        refine sy_st (S' := (mj_m_150, 2, [(2, sy_i (l2 + 1)), (0, .ref 234), (1, sy_i l1), (3, sy_i l3), (4, sy_i l4)], [], h5)) mj_d_150_82 (fun _ _ => rfl) ?_
        refine sy_lv (lv := [(0, .ref 234), (1, sy_i l1), (2, sy_i (l2 + 1))]) rfl ⟨rfl, rfl, rfl, trivial⟩ ?_
        rw [← eh5]
        exact hk2 th5 (by first | omega | assumption) (by first | omega | assumption) (by first | omega | assumption) (by first | omega | assumption) (by first | omega | assumption) (by first | omega | (right; rw [eh5, dfh_lays hH (by omega) (by omega) (by omega) (by omega) (by omega) _ (by omega)]; exact i1)) (by omega)
    · skip
      rw [if_neg c1]
      refine sy_st (S' := (mj_m_150, 35, [(0, .ref 234), (1, sy_i l1), (2, sy_i l2), (3, sy_i l3), (4, sy_i l4)], [.ref 234], h)) mj_d_150_34 (fun _ _ => rfl) ?_
      refine sy_st (S' := (mj_m_150, 36, [(0, .ref 234), (1, sy_i l1), (2, sy_i l2), (3, sy_i l3), (4, sy_i l4)], [sy_i l1, .ref 234], h)) mj_d_150_35 (fun _ _ => rfl) ?_
      refine sy_st (S' := (mj_m_150, 38, [(0, .ref 234), (1, sy_i l1), (2, sy_i l2), (3, sy_i l3), (4, sy_i l4)], [sy_i l4, sy_i l1, .ref 234], h)) mj_d_150_36 (fun _ _ => rfl) ?_
      refine sy_st (S' := (mj_m_150, 39, [(0, .ref 234), (1, sy_i l1), (2, sy_i l2), (3, sy_i l3), (4, sy_i l4)], [sy_i l3, sy_i l4, sy_i l1, .ref 234], h)) mj_d_150_38 (fun _ _ => rfl) ?_
      refine sy_cv (M' := mj_m_151) (vs := [.ref 234, sy_i l1, sy_i l4, sy_i l3]) (rest := []) mj_d_150_39 rfl rfl rfl rfl hH rfl rfl ⟨by decide, ⟨Nat.le_of_ble_eq_true rfl, Nat.le_of_ble_eq_true rfl, Nat.le_of_ble_eq_true rfl, Nat.le_of_ble_eq_true rfl, Nat.le_of_ble_eq_true rfl⟩⟩ (dt_R_lays (a1 := l1) (a2 := l4) (a3 := l3) hH (by omega) (by omega) (by omega) (by omega) (by omega) (by omega) (by first | omega | assumption)) ?_
      rintro _ h7 ⟨rfl, th7, eh7⟩
      show sy_wp (mj_m_150, 42, [(0, .ref 234), (1, sy_i l1), (2, sy_i l2), (3, sy_i l3), (4, sy_i l4)], [], h7) _
      have f9 : l4 = 0 → dc_R_lays (sy_rd h) l1 l4 l3 235 (((l1 + 11) + l4).toNat) = -1 := fun q => by subst q; rw [Int.add_zero, dfh_lays hH (by omega) (by omega) (by omega) (by omega) (by omega) _ (by omega)]; exact i1
      refine sy_st (S' := (mj_m_150, 43, [(0, .ref 234), (1, sy_i l1), (2, sy_i l2), (3, sy_i l3), (4, sy_i l4)], [.ref 234], h7)) mj_d_150_42 (fun _ _ => rfl) ?_
      refine sy_gr2 (b := 235) mj_d_150_43 rfl rfl (by decide) rfl rfl th7 ?_
      refine sy_st (S' := (mj_m_150, 47, [(0, .ref 234), (1, sy_i l1), (2, sy_i l2), (3, sy_i l3), (4, sy_i l4)], [sy_i l1, .ref 235], h7)) mj_d_150_46 (fun _ _ => rfl) ?_
      refine sy_bip mj_d_150_47 (by decide) ?_
      refine sy_add mj_d_150_49 ?_
      refine sy_st (S' := (mj_m_150, 52, [(0, .ref 234), (1, sy_i l1), (2, sy_i l2), (3, sy_i l3), (4, sy_i l4)], [sy_i l4, sy_i (l1 + 11), .ref 235], h7)) mj_d_150_50 (fun _ _ => rfl) ?_
      refine sy_add mj_d_150_52 ?_
      refine sg_iaR mj_d_150_53 (by omega) (by omega) (by omega) (by omega) th7 ?_
      intro x9 ex9 bx9 tx9
      rw [eh7] at ex9
      subst ex9
      refine sy_st (S' := (mj_m_150, 56, [(4, sy_i ((dc_R_lays (sy_rd h) l1 l4 l3) 235 (((l1 + 11) + l4).toNat))), (0, .ref 234), (1, sy_i l1), (2, sy_i l2), (3, sy_i l3)], [], h7)) mj_d_150_54 (fun _ _ => rfl) ?_
      refine sy_st (S' := (mj_m_150, 28, [(4, sy_i ((dc_R_lays (sy_rd h) l1 l4 l3) 235 (((l1 + 11) + l4).toNat))), (0, .ref 234), (1, sy_i l1), (2, sy_i l2), (3, sy_i l3)], [], h7)) mj_d_150_56 (fun _ _ => rfl) ?_
      refine sy_lv (lv := [(0, .ref 234), (1, sy_i l1), (2, sy_i l2), (3, sy_i l3), (4, sy_i ((dc_R_lays (sy_rd h) l1 l4 l3) 235 (((l1 + 11) + l4).toNat)))]) rfl ⟨rfl, rfl, rfl, rfl, rfl, trivial⟩ ?_
      have key := ih (l1 := l1) (l2 := l2) (l3 := l3) (l4 := ((dc_R_lays (sy_rd h) l1 l4 l3) 235 (((l1 + 11) + l4).toNat))) th7 (by first | omega | assumption) (by first | omega | assumption) (by first | omega | assumption) (by first | omega | assumption) (by first | omega | assumption) (by first | omega | assumption) (by first | omega | assumption) (by first | omega | assumption) (by first | omega | assumption) (by rw [eh7, dfh_lays hH (by omega) (by omega) (by omega) (by omega) (by omega) _ (by omega)]; exact i1) (by first | omega | assumption) (by omega)
      rw [eh7] at key
      exact key
set_option maxRecDepth 100000 in
theorem dt_R_passes_2 : ∀ (n : Nat) {h : mj_H} (hH : sy_H h) {l1 l2 : Int} (b_l1 : 0 ≤ l1) (t_l1 : l1 ≤ 112) (b_l2 : 0 ≤ l2) (t_l2 : l2 ≤ 9) (i0 : l1 % 112 = 0) (i1 : (sy_rd h 234 6) ≤ 0 ∨ (sy_rd h 235 (l1 + 11).toNat) = -1) (hm : 9 - l2 < (n : Int)), sy_wp (mj_m_150, 2, [(0, .ref 234), (1, sy_i l1), (2, sy_i l2)], [], h) (dq3 (dc_R_passes_2 n (sy_rd h) l1 l2)) := by
  intro n
  induction n with
  | zero =>
    intro h hH l1 l2 b_l1 t_l1 b_l2 t_l2 i0 i1 hm
    exact absurd hm (by omega)
  | succ n ih =>
    intro h hH l1 l2 b_l1 t_l1 b_l2 t_l2 i0 i1 hm
    rw [dc_R_passes_2_s]
    refine sy_st (S' := (mj_m_150, 3, [(0, .ref 234), (1, sy_i l1), (2, sy_i l2)], [sy_i l2], h)) mj_d_150_2 (fun _ _ => rfl) ?_
    refine sy_st (S' := (mj_m_150, 4, [(0, .ref 234), (1, sy_i l1), (2, sy_i l2)], [.ref 234, sy_i l2], h)) mj_d_150_3 (fun _ _ => rfl) ?_
    refine sy_gf mj_d_150_4 rfl rfl (by decide) rfl hH ?_
    intro x1 ex1 bx1 tx1
    replace ex1 : x1 = sy_rd h 234 6 := ex1
    subst ex1
    refine sy_icm mj_d_150_7 rfl ⟨by omega, by omega⟩ ⟨by omega, by omega⟩ (fun (c2 : (sy_rd h 234 6) ≤ l2) => ?_) (fun (c2 : ¬ ((sy_rd h 234 6) ≤ l2)) => ?_)
    · skip
      rw [if_pos c2]
      refine sy_st (S' := (mj_m_150, 86, [(0, .ref 234), (1, sy_i l1), (2, sy_i l2)], [.ref 234], h)) mj_d_150_85 (fun _ _ => rfl) ?_
      refine sy_gr2 (b := 235) mj_d_150_86 rfl rfl (by decide) rfl rfl hH ?_
      refine sy_st (S' := (mj_m_150, 90, [(0, .ref 234), (1, sy_i l1), (2, sy_i l2)], [sy_i l1, .ref 235], h)) mj_d_150_89 (fun _ _ => rfl) ?_
      refine sy_st (S' := (mj_m_150, 91, [(0, .ref 234), (1, sy_i l1), (2, sy_i l2)], [sy_i 0, sy_i l1, .ref 235], h)) mj_d_150_90 (fun _ _ => rfl) ?_
      refine sy_add mj_d_150_91 ?_
      refine sy_st (S' := (mj_m_150, 93, [(0, .ref 234), (1, sy_i l1), (2, sy_i l2)], [sy_i (l1 + 0), .ref 235, sy_i (l1 + 0), .ref 235], h)) mj_d_150_92 (fun _ _ => rfl) ?_
      refine sg_iaT mj_d_150_93 (by omega) (by omega) hH ?_
      rintro _ rfl bx3 tx3
      refine sy_st (S' := (mj_m_150, 95, [(0, .ref 234), (1, sy_i l1), (2, sy_i l2)], [sy_i 1, sy_i (sy_rd h 235 ((l1 + 0).toNat)), sy_i (l1 + 0), .ref 235], h)) mj_d_150_94 (fun _ _ => rfl) ?_
      refine sy_add mj_d_150_95 ?_
      refine sg_iasV (v := ((sy_rd h 235 ((l1 + 0).toNat)) + 1)) mj_d_150_96 (by omega) (by omega) (by omega) hH ?_
      intro h4 th4 eh4
      exact sy_retv mj_d_150_97 rfl ⟨rfl, th4, eh4⟩
    · skip
      rw [if_neg c2]
      refine sy_st (S' := (mj_m_150, 11, [(0, .ref 234), (1, sy_i l1), (2, sy_i l2)], [.ref 234], h)) mj_d_150_10 (fun _ _ => rfl) ?_
      refine sy_gr2 (b := 235) mj_d_150_11 rfl rfl (by decide) rfl rfl hH ?_
      refine sy_st (S' := (mj_m_150, 15, [(0, .ref 234), (1, sy_i l1), (2, sy_i l2)], [sy_i l1, .ref 235], h)) mj_d_150_14 (fun _ _ => rfl) ?_
      refine sy_st (S' := (mj_m_150, 16, [(0, .ref 234), (1, sy_i l1), (2, sy_i l2)], [sy_i 2, sy_i l1, .ref 235], h)) mj_d_150_15 (fun _ _ => rfl) ?_
      refine sy_add mj_d_150_16 ?_
      refine sy_st (S' := (mj_m_150, 18, [(0, .ref 234), (1, sy_i l1), (2, sy_i l2)], [sy_i l2, sy_i (l1 + 2), .ref 235], h)) mj_d_150_17 (fun _ _ => rfl) ?_
      refine sy_add mj_d_150_18 ?_
      refine sg_iaN (lo := 0) (hi := 7) 2 11 (by decide) mj_d_150_19 (by omega) (by omega) (by omega) (by omega) hH ?_
      rintro _ rfl bx5 tx5
      refine sy_st (S' := (mj_m_150, 21, [(3, sy_i (sy_rd h 235 (((l1 + 2) + l2).toNat))), (0, .ref 234), (1, sy_i l1), (2, sy_i l2)], [], h)) mj_d_150_20 (fun _ _ => rfl) ?_
      refine sy_st (S' := (mj_m_150, 22, [(3, sy_i (sy_rd h 235 (((l1 + 2) + l2).toNat))), (0, .ref 234), (1, sy_i l1), (2, sy_i l2)], [sy_i (sy_rd h 235 (((l1 + 2) + l2).toNat))], h)) mj_d_150_21 (fun _ _ => rfl) ?_
      refine sy_ifc mj_d_150_22 rfl ⟨by omega, by omega⟩ (fun (c6 : (sy_rd h 235 (((l1 + 2) + l2).toNat)) ≤ 0) => ?_) (fun (c6 : ¬ ((sy_rd h 235 (((l1 + 2) + l2).toNat)) ≤ 0)) => ?_)
      · skip
        rw [if_pos c6]
        refine sy_inc (a := l2) (lv' := [(2, sy_i (l2 + 1)), (3, sy_i (sy_rd h 235 (((l1 + 2) + l2).toNat))), (0, .ref 234), (1, sy_i l1)]) mj_d_150_79 (Nat.le_of_ble_eq_true rfl) rfl rfl ?_
        refine sy_st (S' := (mj_m_150, 2, [(2, sy_i (l2 + 1)), (3, sy_i (sy_rd h 235 (((l1 + 2) + l2).toNat))), (0, .ref 234), (1, sy_i l1)], [], h)) mj_d_150_82 (fun _ _ => rfl) ?_
        refine sy_lv (lv := [(0, .ref 234), (1, sy_i l1), (2, sy_i (l2 + 1))]) rfl ⟨rfl, rfl, rfl, trivial⟩ ?_
        exact ih hH (by first | omega | assumption) (by first | omega | assumption) (by first | omega | assumption) (by first | omega | assumption) (by first | omega | assumption) (by first | omega | assumption) (by omega)
      · skip
        rw [if_neg c6]
        refine sy_st (S' := (mj_m_150, 26, [(3, sy_i (sy_rd h 235 (((l1 + 2) + l2).toNat))), (0, .ref 234), (1, sy_i l1), (2, sy_i l2)], [sy_i l2], h)) mj_d_150_25 (fun _ _ => rfl) ?_
        refine sy_st (S' := (mj_m_150, 28, [(4, sy_i l2), (3, sy_i (sy_rd h 235 (((l1 + 2) + l2).toNat))), (0, .ref 234), (1, sy_i l1), (2, sy_i l2)], [], h)) mj_d_150_26 (fun _ _ => rfl) ?_
        refine sy_lv (lv := [(0, .ref 234), (1, sy_i l1), (2, sy_i l2), (3, sy_i (sy_rd h 235 (((l1 + 2) + l2).toNat))), (4, sy_i l2)]) rfl ⟨rfl, rfl, rfl, rfl, rfl, trivial⟩ ?_
        exact dt_R_passes_28 @ih 10 hH (by first | omega | assumption) (by first | omega | assumption) (by first | omega | assumption) (by first | omega | assumption) (by first | omega | assumption) (by first | omega | assumption) (by first | omega | assumption) (by first | omega | assumption) (by first | omega | assumption) (by first | omega | assumption) (by first | omega | assumption) (by omega)
set_option maxRecDepth 100000 in
theorem dt_R_passes {h : mj_H} (hH : sy_H h) {a1 : Int} (b_a1 : 0 ≤ a1) (t_a1 : a1 ≤ 112) (i0 : a1 % 112 = 0) (i1 : (sy_rd h 234 6) ≤ 0 ∨ (sy_rd h 235 (a1 + 11).toNat) = -1) : sy_wp (mj_m_150, 0, [(0, .ref 234), (1, sy_i a1)], [], h) (dq3 (dc_R_passes (sy_rd h) a1)) := by
  unfold dc_R_passes
  refine sy_st (S' := (mj_m_150, 1, [(0, .ref 234), (1, sy_i a1)], [sy_i 0], h)) mj_d_150_0 (fun _ _ => rfl) ?_
  refine sy_st (S' := (mj_m_150, 2, [(2, sy_i 0), (0, .ref 234), (1, sy_i a1)], [], h)) mj_d_150_1 (fun _ _ => rfl) ?_
  refine sy_lv (lv := [(0, .ref 234), (1, sy_i a1), (2, sy_i 0)]) rfl ⟨rfl, rfl, rfl, trivial⟩ ?_
  exact dt_R_passes_2 10 hH (by first | omega | assumption) (by first | omega | assumption) (by first | omega | assumption) (by first | omega | assumption) (by first | omega | assumption) (by first | omega | assumption) (by omega)
def dc_R_sootOf_23 (n : Nat) : sg_S → Int → Int → Int := Nat.rec (fun (s : sg_S) l2 l3 => 0) (fun _ ih => fun s l2 l3 => (if l3 = (-1) then l2 else (ih s (sy_or l2 (sy_shl 1 l3)) (s 235 ((11 + l3).toNat))))) n
theorem dc_R_sootOf_23_s (n : Nat) (s : sg_S) (l2 l3 : Int) : dc_R_sootOf_23 (n + 1) s l2 l3 = (if l3 = (-1) then l2 else ((dc_R_sootOf_23 n) s (sy_or l2 (sy_shl 1 l3)) (s 235 ((11 + l3).toNat)))) := rfl
def dc_R_sootOf (s : sg_S) (a1 : Int) : Int := (if (dc_R_blownTo s a1) = (-1) then (dc_R_sootOf_23 10 s 0 a1) else (dc_R_sootOf_23 10 s (sy_shl 1 (dc_R_blownTo s a1)) a1))
set_option maxRecDepth 100000 in
theorem dt_R_sootOf_23 : ∀ (n : Nat) {h : mj_H} (hH : sy_H h) {l2 l3 : Int} (b_l2 : 0 ≤ l2) (t_l2 : l2 ≤ 511) (b_l3 : (-1) ≤ l3) (t_l3 : l3 ≤ 8) (i0 : (sy_rd h 235 11) = -1) (hm : l3 + 1 < (n : Int)), sy_wp (mj_m_170, 23, [(0, .ref 234), (2, sy_i l2), (3, sy_i l3)], [], h) (dq1 h (0) (511) (dc_R_sootOf_23 n (sy_rd h) l2 l3)) := by
  intro n
  induction n with
  | zero =>
    intro h hH l2 l3 b_l2 t_l2 b_l3 t_l3 i0 hm
    exact absurd hm (by omega)
  | succ n ih =>
    intro h hH l2 l3 b_l2 t_l2 b_l3 t_l3 i0 hm
    rw [dc_R_sootOf_23_s]
    refine sy_st (S' := (mj_m_170, 24, [(0, .ref 234), (2, sy_i l2), (3, sy_i l3)], [sy_i l3], h)) mj_d_170_23 (fun _ _ => rfl) ?_
    refine sy_st (S' := (mj_m_170, 25, [(0, .ref 234), (2, sy_i l2), (3, sy_i l3)], [sy_i (-1), sy_i l3], h)) mj_d_170_24 (fun _ _ => rfl) ?_
    refine sy_icm mj_d_170_25 rfl ⟨by omega, by omega⟩ ⟨by omega, by omega⟩ (fun (c1 : l3 = (-1)) => ?_) (fun (c1 : ¬ (l3 = (-1))) => ?_)
    · skip
      rw [if_pos c1]
      refine sy_st (S' := (mj_m_170, 48, [(0, .ref 234), (2, sy_i l2), (3, sy_i l3)], [sy_i l2], h)) mj_d_170_47 (fun _ _ => rfl) ?_
      exact sy_reti mj_d_170_48 rfl ⟨rfl, rfl, by omega, by omega⟩
    · skip
      rw [if_neg c1]
      have f9 : l3 = 0 → sy_rd h 235 ((11 + l3).toNat) = -1 := fun q => by subst q; exact i0
      refine sy_st (S' := (mj_m_170, 29, [(0, .ref 234), (2, sy_i l2), (3, sy_i l3)], [sy_i l2], h)) mj_d_170_28 (fun _ _ => rfl) ?_
      refine sy_st (S' := (mj_m_170, 30, [(0, .ref 234), (2, sy_i l2), (3, sy_i l3)], [sy_i 1, sy_i l2], h)) mj_d_170_29 (fun _ _ => rfl) ?_
      refine sy_st (S' := (mj_m_170, 31, [(0, .ref 234), (2, sy_i l2), (3, sy_i l3)], [sy_i l3, sy_i 1, sy_i l2], h)) mj_d_170_30 (fun _ _ => rfl) ?_
      refine sy_ishl mj_d_170_31 ?_
      have q2 := sg_shl9 l3 (by omega) (by omega)
      refine sy_ior mj_d_170_32 ?_
      have q3 := sg_or9 l2 (sy_shl 1 l3) (by omega) (by omega) (by omega) (by omega)
      refine sy_st (S' := (mj_m_170, 34, [(2, sy_i (sy_or l2 (sy_shl 1 l3))), (0, .ref 234), (3, sy_i l3)], [], h)) mj_d_170_33 (fun _ _ => rfl) ?_
      refine sy_st (S' := (mj_m_170, 35, [(2, sy_i (sy_or l2 (sy_shl 1 l3))), (0, .ref 234), (3, sy_i l3)], [.ref 234], h)) mj_d_170_34 (fun _ _ => rfl) ?_
      refine sy_gr2 (b := 235) mj_d_170_35 rfl rfl (by decide) rfl rfl hH ?_
      refine sy_bip mj_d_170_38 (by decide) ?_
      refine sy_st (S' := (mj_m_170, 41, [(2, sy_i (sy_or l2 (sy_shl 1 l3))), (0, .ref 234), (3, sy_i l3)], [sy_i l3, sy_i 11, .ref 235], h)) mj_d_170_40 (fun _ _ => rfl) ?_
      refine sy_add mj_d_170_41 ?_
      refine sg_iaR mj_d_170_42 (by omega) (by omega) (by omega) (by omega) hH ?_
      rintro _ rfl bx4 tx4
      refine sy_st (S' := (mj_m_170, 44, [(3, sy_i (sy_rd h 235 ((11 + l3).toNat))), (2, sy_i (sy_or l2 (sy_shl 1 l3))), (0, .ref 234)], [], h)) mj_d_170_43 (fun _ _ => rfl) ?_
      refine sy_st (S' := (mj_m_170, 23, [(3, sy_i (sy_rd h 235 ((11 + l3).toNat))), (2, sy_i (sy_or l2 (sy_shl 1 l3))), (0, .ref 234)], [], h)) mj_d_170_44 (fun _ _ => rfl) ?_
      refine sy_lv (lv := [(0, .ref 234), (2, sy_i (sy_or l2 (sy_shl 1 l3))), (3, sy_i (sy_rd h 235 ((11 + l3).toNat)))]) rfl ⟨rfl, rfl, rfl, trivial⟩ ?_
      exact ih hH (by first | omega | assumption) (by first | omega | assumption) (by first | omega | assumption) (by first | omega | assumption) (by first | omega | assumption) (by omega)
set_option maxRecDepth 100000 in
theorem dt_R_sootOf {h : mj_H} (hH : sy_H h) {a1 : Int} (b_a1 : 0 ≤ a1) (t_a1 : a1 ≤ 8) (i0 : (sy_rd h 235 11) = -1) : sy_wp (mj_m_170, 0, [(0, .ref 234), (1, sy_i a1)], [], h) (dq1 h (0) (511) (dc_R_sootOf (sy_rd h) a1)) := by
  unfold dc_R_sootOf
  refine sy_st (S' := (mj_m_170, 1, [(0, .ref 234), (1, sy_i a1)], [.ref 234], h)) mj_d_170_0 (fun _ _ => rfl) ?_
  refine sy_st (S' := (mj_m_170, 2, [(0, .ref 234), (1, sy_i a1)], [sy_i a1, .ref 234], h)) mj_d_170_1 (fun _ _ => rfl) ?_
  refine sy_cv (M' := mj_m_152) (vs := [.ref 234, sy_i a1]) (rest := []) mj_d_170_2 rfl rfl rfl rfl hH rfl rfl ⟨by decide, ⟨Nat.le_of_ble_eq_true rfl, Nat.le_of_ble_eq_true rfl, Nat.le_of_ble_eq_true rfl, Nat.le_of_ble_eq_true rfl, Nat.le_of_ble_eq_true rfl⟩⟩ (dt_R_blownTo (a1 := a1) hH (by omega) (by omega)) ?_
  rintro _ _ ⟨rfl, rfl, b1, b1t⟩
  show sy_wp (mj_m_170, 5, [(0, .ref 234), (1, sy_i a1)], [sy_i (dc_R_blownTo (sy_rd h) a1)], h) _
  refine sy_st (S' := (mj_m_170, 6, [(0, .ref 234), (1, sy_i a1)], [sy_i (-1), sy_i (dc_R_blownTo (sy_rd h) a1)], h)) mj_d_170_5 (fun _ _ => rfl) ?_
  refine sy_icm mj_d_170_6 rfl ⟨by omega, by omega⟩ ⟨by omega, by omega⟩ (fun (c2 : ¬ ((dc_R_blownTo (sy_rd h) a1) = (-1))) => ?_) (fun (c2 : ¬ ¬ ((dc_R_blownTo (sy_rd h) a1) = (-1))) => ?_)
  · skip
    rw [if_neg c2]
    refine sy_st (S' := (mj_m_170, 14, [(0, .ref 234), (1, sy_i a1)], [sy_i 1], h)) mj_d_170_13 (fun _ _ => rfl) ?_
    refine sy_st (S' := (mj_m_170, 15, [(0, .ref 234), (1, sy_i a1)], [.ref 234, sy_i 1], h)) mj_d_170_14 (fun _ _ => rfl) ?_
    refine sy_st (S' := (mj_m_170, 16, [(0, .ref 234), (1, sy_i a1)], [sy_i a1, .ref 234, sy_i 1], h)) mj_d_170_15 (fun _ _ => rfl) ?_
    refine sy_cv (M' := mj_m_152) (vs := [.ref 234, sy_i a1]) (rest := [sy_i 1]) mj_d_170_16 rfl rfl rfl rfl hH rfl rfl ⟨by decide, ⟨Nat.le_of_ble_eq_true rfl, Nat.le_of_ble_eq_true rfl, Nat.le_of_ble_eq_true rfl, Nat.le_of_ble_eq_true rfl, Nat.le_of_ble_eq_true rfl⟩⟩ (dt_R_blownTo (a1 := a1) hH (by omega) (by omega)) ?_
    rintro _ _ ⟨rfl, rfl, b3, b3t⟩
    show sy_wp (mj_m_170, 19, [(0, .ref 234), (1, sy_i a1)], [sy_i (dc_R_blownTo (sy_rd h) a1), sy_i 1], h) _
    refine sy_ishl mj_d_170_19 ?_
    have q4 := sg_shl9 (dc_R_blownTo (sy_rd h) a1) (by omega) (by omega)
    refine sy_st (S' := (mj_m_170, 21, [(2, sy_i (sy_shl 1 (dc_R_blownTo (sy_rd h) a1))), (0, .ref 234), (1, sy_i a1)], [], h)) mj_d_170_20 (fun _ _ => rfl) ?_
    refine sy_st (S' := (mj_m_170, 22, [(2, sy_i (sy_shl 1 (dc_R_blownTo (sy_rd h) a1))), (0, .ref 234), (1, sy_i a1)], [sy_i a1], h)) mj_d_170_21 (fun _ _ => rfl) ?_
    refine sy_st (S' := (mj_m_170, 23, [(3, sy_i a1), (2, sy_i (sy_shl 1 (dc_R_blownTo (sy_rd h) a1))), (0, .ref 234), (1, sy_i a1)], [], h)) mj_d_170_22 (fun _ _ => rfl) ?_
    refine sy_lv (lv := [(0, .ref 234), (2, sy_i (sy_shl 1 (dc_R_blownTo (sy_rd h) a1))), (3, sy_i a1)]) rfl ⟨rfl, rfl, rfl, trivial⟩ ?_
    exact dt_R_sootOf_23 10 hH (by first | omega | assumption) (by first | omega | assumption) (by first | omega | assumption) (by first | omega | assumption) (by first | omega | assumption) (by omega)
  · skip
    rw [if_pos (Decidable.not_not.mp c2)]
    replace c2 := Decidable.not_not.mp c2
    refine sy_st (S' := (mj_m_170, 10, [(0, .ref 234), (1, sy_i a1)], [sy_i 0], h)) mj_d_170_9 (fun _ _ => rfl) ?_
    refine sy_st (S' := (mj_m_170, 20, [(0, .ref 234), (1, sy_i a1)], [sy_i 0], h)) mj_d_170_10 (fun _ _ => rfl) ?_
    refine sy_st (S' := (mj_m_170, 21, [(2, sy_i 0), (0, .ref 234), (1, sy_i a1)], [], h)) mj_d_170_20 (fun _ _ => rfl) ?_
    refine sy_st (S' := (mj_m_170, 22, [(2, sy_i 0), (0, .ref 234), (1, sy_i a1)], [sy_i a1], h)) mj_d_170_21 (fun _ _ => rfl) ?_
    refine sy_st (S' := (mj_m_170, 23, [(3, sy_i a1), (2, sy_i 0), (0, .ref 234), (1, sy_i a1)], [], h)) mj_d_170_22 (fun _ _ => rfl) ?_
    refine sy_lv (lv := [(0, .ref 234), (2, sy_i 0), (3, sy_i a1)]) rfl ⟨rfl, rfl, rfl, trivial⟩ ?_
    exact dt_R_sootOf_23 10 hH (by first | omega | assumption) (by first | omega | assumption) (by first | omega | assumption) (by first | omega | assumption) (by first | omega | assumption) (by omega)
def dc_R_heatOf_6 (n : Nat) : sg_S → Int → Int → Int → Int := Nat.rec (fun (s : sg_S) l1 l2 l3 => 0) (fun _ ih => fun s l1 l2 l3 => (if (s 234 6) ≤ l3 then l2 else (if (s 235 ((11 + l3).toNat)) = l1 then (ih s l1 (sy_or l2 (sy_shl 1 l3)) (l3 + 1)) else (if (s 235 ((11 + l3).toNat)) = (-1) then (ih s l1 (sy_or l2 0) (l3 + 1)) else (if (dc_R_has s l2 (s 235 ((11 + l3).toNat))) = 0 then (ih s l1 (sy_or l2 0) (l3 + 1)) else (ih s l1 (sy_or l2 (sy_shl 1 l3)) (l3 + 1))))))) n
theorem dc_R_heatOf_6_s (n : Nat) (s : sg_S) (l1 l2 l3 : Int) : dc_R_heatOf_6 (n + 1) s l1 l2 l3 = (if (s 234 6) ≤ l3 then l2 else (if (s 235 ((11 + l3).toNat)) = l1 then ((dc_R_heatOf_6 n) s l1 (sy_or l2 (sy_shl 1 l3)) (l3 + 1)) else (if (s 235 ((11 + l3).toNat)) = (-1) then ((dc_R_heatOf_6 n) s l1 (sy_or l2 0) (l3 + 1)) else (if (dc_R_has s l2 (s 235 ((11 + l3).toNat))) = 0 then ((dc_R_heatOf_6 n) s l1 (sy_or l2 0) (l3 + 1)) else ((dc_R_heatOf_6 n) s l1 (sy_or l2 (sy_shl 1 l3)) (l3 + 1)))))) := rfl
def dc_R_heatOf (s : sg_S) (a1 : Int) : Int := (dc_R_heatOf_6 10 s a1 0 (a1 + 1))
set_option maxRecDepth 100000 in
theorem dt_R_heatOf_6 : ∀ (n : Nat) {h : mj_H} (hH : sy_H h) {l1 l2 l3 : Int} (b_l1 : 0 ≤ l1) (t_l1 : l1 ≤ 8) (b_l2 : 0 ≤ l2) (t_l2 : l2 ≤ 511) (b_l3 : 1 ≤ l3) (t_l3 : l3 ≤ 9) (hm : 9 - l3 < (n : Int)), sy_wp (mj_m_171, 6, [(0, .ref 234), (1, sy_i l1), (2, sy_i l2), (3, sy_i l3)], [], h) (dq1 h (0) (511) (dc_R_heatOf_6 n (sy_rd h) l1 l2 l3)) := by
  intro n
  induction n with
  | zero =>
    intro h hH l1 l2 l3 b_l1 t_l1 b_l2 t_l2 b_l3 t_l3 hm
    exact absurd hm (by omega)
  | succ n ih =>
    intro h hH l1 l2 l3 b_l1 t_l1 b_l2 t_l2 b_l3 t_l3 hm
    rw [dc_R_heatOf_6_s]
    refine sy_st (S' := (mj_m_171, 7, [(0, .ref 234), (1, sy_i l1), (2, sy_i l2), (3, sy_i l3)], [sy_i l3], h)) mj_d_171_6 (fun _ _ => rfl) ?_
    refine sy_st (S' := (mj_m_171, 8, [(0, .ref 234), (1, sy_i l1), (2, sy_i l2), (3, sy_i l3)], [.ref 234, sy_i l3], h)) mj_d_171_7 (fun _ _ => rfl) ?_
    refine sy_gf mj_d_171_8 rfl rfl (by decide) rfl hH ?_
    intro x1 ex1 bx1 tx1
    replace ex1 : x1 = sy_rd h 234 6 := ex1
    subst ex1
    refine sy_icm mj_d_171_11 rfl ⟨by omega, by omega⟩ ⟨by omega, by omega⟩ (fun (c2 : (sy_rd h 234 6) ≤ l3) => ?_) (fun (c2 : ¬ ((sy_rd h 234 6) ≤ l3)) => ?_)
    · skip
      rw [if_pos c2]
      refine sy_st (S' := (mj_m_171, 63, [(0, .ref 234), (1, sy_i l1), (2, sy_i l2), (3, sy_i l3)], [sy_i l2], h)) mj_d_171_62 (fun _ _ => rfl) ?_
      exact sy_reti mj_d_171_63 rfl ⟨rfl, rfl, by omega, by omega⟩
    · skip
      rw [if_neg c2]
      refine sy_st (S' := (mj_m_171, 15, [(0, .ref 234), (1, sy_i l1), (2, sy_i l2), (3, sy_i l3)], [.ref 234], h)) mj_d_171_14 (fun _ _ => rfl) ?_
      refine sy_gr2 (b := 235) mj_d_171_15 rfl rfl (by decide) rfl rfl hH ?_
      refine sy_bip mj_d_171_18 (by decide) ?_
      refine sy_st (S' := (mj_m_171, 21, [(0, .ref 234), (1, sy_i l1), (2, sy_i l2), (3, sy_i l3)], [sy_i l3, sy_i 11, .ref 235], h)) mj_d_171_20 (fun _ _ => rfl) ?_
      refine sy_add mj_d_171_21 ?_
      refine sg_iaR mj_d_171_22 (by omega) (by omega) (by omega) (by omega) hH ?_
      rintro _ rfl bx3 tx3
      refine sy_st (S' := (mj_m_171, 25, [(4, sy_i (sy_rd h 235 ((11 + l3).toNat))), (0, .ref 234), (1, sy_i l1), (2, sy_i l2), (3, sy_i l3)], [], h)) mj_d_171_23 (fun _ _ => rfl) ?_
      refine sy_st (S' := (mj_m_171, 26, [(4, sy_i (sy_rd h 235 ((11 + l3).toNat))), (0, .ref 234), (1, sy_i l1), (2, sy_i l2), (3, sy_i l3)], [sy_i l2], h)) mj_d_171_25 (fun _ _ => rfl) ?_
      refine sy_st (S' := (mj_m_171, 28, [(4, sy_i (sy_rd h 235 ((11 + l3).toNat))), (0, .ref 234), (1, sy_i l1), (2, sy_i l2), (3, sy_i l3)], [sy_i (sy_rd h 235 ((11 + l3).toNat)), sy_i l2], h)) mj_d_171_26 (fun _ _ => rfl) ?_
      refine sy_st (S' := (mj_m_171, 29, [(4, sy_i (sy_rd h 235 ((11 + l3).toNat))), (0, .ref 234), (1, sy_i l1), (2, sy_i l2), (3, sy_i l3)], [sy_i l1, sy_i (sy_rd h 235 ((11 + l3).toNat)), sy_i l2], h)) mj_d_171_28 (fun _ _ => rfl) ?_
      refine sy_icm mj_d_171_29 rfl ⟨by omega, by omega⟩ ⟨by omega, by omega⟩ (fun (c4 : (sy_rd h 235 ((11 + l3).toNat)) = l1) => ?_) (fun (c4 : ¬ ((sy_rd h 235 ((11 + l3).toNat)) = l1)) => ?_)
      · skip
        rw [if_pos c4]
        refine sy_st (S' := (mj_m_171, 48, [(4, sy_i (sy_rd h 235 ((11 + l3).toNat))), (0, .ref 234), (1, sy_i l1), (2, sy_i l2), (3, sy_i l3)], [sy_i 1, sy_i l2], h)) mj_d_171_47 (fun _ _ => rfl) ?_
        refine sy_st (S' := (mj_m_171, 49, [(4, sy_i (sy_rd h 235 ((11 + l3).toNat))), (0, .ref 234), (1, sy_i l1), (2, sy_i l2), (3, sy_i l3)], [sy_i l3, sy_i 1, sy_i l2], h)) mj_d_171_48 (fun _ _ => rfl) ?_
        refine sy_ishl mj_d_171_49 ?_
        have q5 := sg_shl9 l3 (by omega) (by omega)
        refine sy_st (S' := (mj_m_171, 54, [(4, sy_i (sy_rd h 235 ((11 + l3).toNat))), (0, .ref 234), (1, sy_i l1), (2, sy_i l2), (3, sy_i l3)], [sy_i (sy_shl 1 l3), sy_i l2], h)) mj_d_171_50 (fun _ _ => rfl) ?_
        refine sy_ior mj_d_171_54 ?_
        have q6 := sg_or9 l2 (sy_shl 1 l3) (by omega) (by omega) (by omega) (by omega)
        refine sy_st (S' := (mj_m_171, 56, [(2, sy_i (sy_or l2 (sy_shl 1 l3))), (4, sy_i (sy_rd h 235 ((11 + l3).toNat))), (0, .ref 234), (1, sy_i l1), (3, sy_i l3)], [], h)) mj_d_171_55 (fun _ _ => rfl) ?_
        refine sy_inc (a := l3) (lv' := [(3, sy_i (l3 + 1)), (2, sy_i (sy_or l2 (sy_shl 1 l3))), (4, sy_i (sy_rd h 235 ((11 + l3).toNat))), (0, .ref 234), (1, sy_i l1)]) mj_d_171_56 (Nat.le_of_ble_eq_true rfl) rfl rfl ?_
        refine sy_st (S' := (mj_m_171, 6, [(3, sy_i (l3 + 1)), (2, sy_i (sy_or l2 (sy_shl 1 l3))), (4, sy_i (sy_rd h 235 ((11 + l3).toNat))), (0, .ref 234), (1, sy_i l1)], [], h)) mj_d_171_59 (fun _ _ => rfl) ?_
        refine sy_lv (lv := [(0, .ref 234), (1, sy_i l1), (2, sy_i (sy_or l2 (sy_shl 1 l3))), (3, sy_i (l3 + 1))]) rfl ⟨rfl, rfl, rfl, rfl, trivial⟩ ?_
        exact ih hH (by first | omega | assumption) (by first | omega | assumption) (by first | omega | assumption) (by first | omega | assumption) (by first | omega | assumption) (by first | omega | assumption) (by omega)
      · skip
        rw [if_neg c4]
        refine sy_st (S' := (mj_m_171, 34, [(4, sy_i (sy_rd h 235 ((11 + l3).toNat))), (0, .ref 234), (1, sy_i l1), (2, sy_i l2), (3, sy_i l3)], [sy_i (sy_rd h 235 ((11 + l3).toNat)), sy_i l2], h)) mj_d_171_32 (fun _ _ => rfl) ?_
        refine sy_st (S' := (mj_m_171, 35, [(4, sy_i (sy_rd h 235 ((11 + l3).toNat))), (0, .ref 234), (1, sy_i l1), (2, sy_i l2), (3, sy_i l3)], [sy_i (-1), sy_i (sy_rd h 235 ((11 + l3).toNat)), sy_i l2], h)) mj_d_171_34 (fun _ _ => rfl) ?_
        refine sy_icm mj_d_171_35 rfl ⟨by omega, by omega⟩ ⟨by omega, by omega⟩ (fun (c7 : (sy_rd h 235 ((11 + l3).toNat)) = (-1)) => ?_) (fun (c7 : ¬ ((sy_rd h 235 ((11 + l3).toNat)) = (-1))) => ?_)
        · skip
          rw [if_pos c7]
          refine sy_st (S' := (mj_m_171, 54, [(4, sy_i (sy_rd h 235 ((11 + l3).toNat))), (0, .ref 234), (1, sy_i l1), (2, sy_i l2), (3, sy_i l3)], [sy_i 0, sy_i l2], h)) mj_d_171_53 (fun _ _ => rfl) ?_
          refine sy_ior mj_d_171_54 ?_
          have q8 := sg_or9 l2 0 (by omega) (by omega) (by omega) (by omega)
          refine sy_st (S' := (mj_m_171, 56, [(2, sy_i (sy_or l2 0)), (4, sy_i (sy_rd h 235 ((11 + l3).toNat))), (0, .ref 234), (1, sy_i l1), (3, sy_i l3)], [], h)) mj_d_171_55 (fun _ _ => rfl) ?_
          refine sy_inc (a := l3) (lv' := [(3, sy_i (l3 + 1)), (2, sy_i (sy_or l2 0)), (4, sy_i (sy_rd h 235 ((11 + l3).toNat))), (0, .ref 234), (1, sy_i l1)]) mj_d_171_56 (Nat.le_of_ble_eq_true rfl) rfl rfl ?_
          refine sy_st (S' := (mj_m_171, 6, [(3, sy_i (l3 + 1)), (2, sy_i (sy_or l2 0)), (4, sy_i (sy_rd h 235 ((11 + l3).toNat))), (0, .ref 234), (1, sy_i l1)], [], h)) mj_d_171_59 (fun _ _ => rfl) ?_
          refine sy_lv (lv := [(0, .ref 234), (1, sy_i l1), (2, sy_i (sy_or l2 0)), (3, sy_i (l3 + 1))]) rfl ⟨rfl, rfl, rfl, rfl, trivial⟩ ?_
          exact ih hH (by first | omega | assumption) (by first | omega | assumption) (by first | omega | assumption) (by first | omega | assumption) (by first | omega | assumption) (by first | omega | assumption) (by omega)
        · skip
          rw [if_neg c7]
          refine sy_st (S' := (mj_m_171, 39, [(4, sy_i (sy_rd h 235 ((11 + l3).toNat))), (0, .ref 234), (1, sy_i l1), (2, sy_i l2), (3, sy_i l3)], [sy_i l2, sy_i l2], h)) mj_d_171_38 (fun _ _ => rfl) ?_
          refine sy_st (S' := (mj_m_171, 41, [(4, sy_i (sy_rd h 235 ((11 + l3).toNat))), (0, .ref 234), (1, sy_i l1), (2, sy_i l2), (3, sy_i l3)], [sy_i (sy_rd h 235 ((11 + l3).toNat)), sy_i l2, sy_i l2], h)) mj_d_171_39 (fun _ _ => rfl) ?_
          refine sy_cs (M' := mj_m_161) (vs := [sy_i l2, sy_i (sy_rd h 235 ((11 + l3).toNat))]) (rest := [sy_i l2]) mj_d_171_41 rfl rfl rfl rfl ⟨Nat.le_of_ble_eq_true rfl, Nat.le_of_ble_eq_true rfl, Nat.le_of_ble_eq_true rfl, Nat.le_of_ble_eq_true rfl, Nat.le_of_ble_eq_true rfl⟩ (dt_R_has (a0 := l2) (a1 := (sy_rd h 235 ((11 + l3).toNat))) hH (by omega) (by omega) (by omega) (by omega)) ?_
          rintro _ _ ⟨rfl, rfl, b9, b9t⟩
          show sy_wp (mj_m_171, 44, [(4, sy_i (sy_rd h 235 ((11 + l3).toNat))), (0, .ref 234), (1, sy_i l1), (2, sy_i l2), (3, sy_i l3)], [sy_i (dc_R_has (sy_rd h) l2 (sy_rd h 235 ((11 + l3).toNat))), sy_i l2], h) _
          refine sy_ifc mj_d_171_44 rfl ⟨by omega, by omega⟩ (fun (c10 : (dc_R_has (sy_rd h) l2 (sy_rd h 235 ((11 + l3).toNat))) = 0) => ?_) (fun (c10 : ¬ ((dc_R_has (sy_rd h) l2 (sy_rd h 235 ((11 + l3).toNat))) = 0)) => ?_)
          · skip
            rw [if_pos c10]
            refine sy_st (S' := (mj_m_171, 54, [(4, sy_i (sy_rd h 235 ((11 + l3).toNat))), (0, .ref 234), (1, sy_i l1), (2, sy_i l2), (3, sy_i l3)], [sy_i 0, sy_i l2], h)) mj_d_171_53 (fun _ _ => rfl) ?_
            refine sy_ior mj_d_171_54 ?_
            have q11 := sg_or9 l2 0 (by omega) (by omega) (by omega) (by omega)
            refine sy_st (S' := (mj_m_171, 56, [(2, sy_i (sy_or l2 0)), (4, sy_i (sy_rd h 235 ((11 + l3).toNat))), (0, .ref 234), (1, sy_i l1), (3, sy_i l3)], [], h)) mj_d_171_55 (fun _ _ => rfl) ?_
            refine sy_inc (a := l3) (lv' := [(3, sy_i (l3 + 1)), (2, sy_i (sy_or l2 0)), (4, sy_i (sy_rd h 235 ((11 + l3).toNat))), (0, .ref 234), (1, sy_i l1)]) mj_d_171_56 (Nat.le_of_ble_eq_true rfl) rfl rfl ?_
            refine sy_st (S' := (mj_m_171, 6, [(3, sy_i (l3 + 1)), (2, sy_i (sy_or l2 0)), (4, sy_i (sy_rd h 235 ((11 + l3).toNat))), (0, .ref 234), (1, sy_i l1)], [], h)) mj_d_171_59 (fun _ _ => rfl) ?_
            refine sy_lv (lv := [(0, .ref 234), (1, sy_i l1), (2, sy_i (sy_or l2 0)), (3, sy_i (l3 + 1))]) rfl ⟨rfl, rfl, rfl, rfl, trivial⟩ ?_
            exact ih hH (by first | omega | assumption) (by first | omega | assumption) (by first | omega | assumption) (by first | omega | assumption) (by first | omega | assumption) (by first | omega | assumption) (by omega)
          · skip
            rw [if_neg c10]
            refine sy_st (S' := (mj_m_171, 48, [(4, sy_i (sy_rd h 235 ((11 + l3).toNat))), (0, .ref 234), (1, sy_i l1), (2, sy_i l2), (3, sy_i l3)], [sy_i 1, sy_i l2], h)) mj_d_171_47 (fun _ _ => rfl) ?_
            refine sy_st (S' := (mj_m_171, 49, [(4, sy_i (sy_rd h 235 ((11 + l3).toNat))), (0, .ref 234), (1, sy_i l1), (2, sy_i l2), (3, sy_i l3)], [sy_i l3, sy_i 1, sy_i l2], h)) mj_d_171_48 (fun _ _ => rfl) ?_
            refine sy_ishl mj_d_171_49 ?_
            have q12 := sg_shl9 l3 (by omega) (by omega)
            refine sy_st (S' := (mj_m_171, 54, [(4, sy_i (sy_rd h 235 ((11 + l3).toNat))), (0, .ref 234), (1, sy_i l1), (2, sy_i l2), (3, sy_i l3)], [sy_i (sy_shl 1 l3), sy_i l2], h)) mj_d_171_50 (fun _ _ => rfl) ?_
            refine sy_ior mj_d_171_54 ?_
            have q13 := sg_or9 l2 (sy_shl 1 l3) (by omega) (by omega) (by omega) (by omega)
            refine sy_st (S' := (mj_m_171, 56, [(2, sy_i (sy_or l2 (sy_shl 1 l3))), (4, sy_i (sy_rd h 235 ((11 + l3).toNat))), (0, .ref 234), (1, sy_i l1), (3, sy_i l3)], [], h)) mj_d_171_55 (fun _ _ => rfl) ?_
            refine sy_inc (a := l3) (lv' := [(3, sy_i (l3 + 1)), (2, sy_i (sy_or l2 (sy_shl 1 l3))), (4, sy_i (sy_rd h 235 ((11 + l3).toNat))), (0, .ref 234), (1, sy_i l1)]) mj_d_171_56 (Nat.le_of_ble_eq_true rfl) rfl rfl ?_
            refine sy_st (S' := (mj_m_171, 6, [(3, sy_i (l3 + 1)), (2, sy_i (sy_or l2 (sy_shl 1 l3))), (4, sy_i (sy_rd h 235 ((11 + l3).toNat))), (0, .ref 234), (1, sy_i l1)], [], h)) mj_d_171_59 (fun _ _ => rfl) ?_
            refine sy_lv (lv := [(0, .ref 234), (1, sy_i l1), (2, sy_i (sy_or l2 (sy_shl 1 l3))), (3, sy_i (l3 + 1))]) rfl ⟨rfl, rfl, rfl, rfl, trivial⟩ ?_
            exact ih hH (by first | omega | assumption) (by first | omega | assumption) (by first | omega | assumption) (by first | omega | assumption) (by first | omega | assumption) (by first | omega | assumption) (by omega)
set_option maxRecDepth 100000 in
theorem dt_R_heatOf {h : mj_H} (hH : sy_H h) {a1 : Int} (b_a1 : 0 ≤ a1) (t_a1 : a1 ≤ 8) : sy_wp (mj_m_171, 0, [(0, .ref 234), (1, sy_i a1)], [], h) (dq1 h (0) (511) (dc_R_heatOf (sy_rd h) a1)) := by
  unfold dc_R_heatOf
  refine sy_st (S' := (mj_m_171, 1, [(0, .ref 234), (1, sy_i a1)], [sy_i 0], h)) mj_d_171_0 (fun _ _ => rfl) ?_
  refine sy_st (S' := (mj_m_171, 2, [(2, sy_i 0), (0, .ref 234), (1, sy_i a1)], [], h)) mj_d_171_1 (fun _ _ => rfl) ?_
  refine sy_st (S' := (mj_m_171, 3, [(2, sy_i 0), (0, .ref 234), (1, sy_i a1)], [sy_i a1], h)) mj_d_171_2 (fun _ _ => rfl) ?_
  refine sy_st (S' := (mj_m_171, 4, [(2, sy_i 0), (0, .ref 234), (1, sy_i a1)], [sy_i 1, sy_i a1], h)) mj_d_171_3 (fun _ _ => rfl) ?_
  refine sy_add mj_d_171_4 ?_
  refine sy_st (S' := (mj_m_171, 6, [(3, sy_i (a1 + 1)), (2, sy_i 0), (0, .ref 234), (1, sy_i a1)], [], h)) mj_d_171_5 (fun _ _ => rfl) ?_
  refine sy_lv (lv := [(0, .ref 234), (1, sy_i a1), (2, sy_i 0), (3, sy_i (a1 + 1))]) rfl ⟨rfl, rfl, rfl, rfl, trivial⟩ ?_
  exact dt_R_heatOf_6 10 hH (by first | omega | assumption) (by first | omega | assumption) (by first | omega | assumption) (by first | omega | assumption) (by first | omega | assumption) (by first | omega | assumption) (by omega)
def dc_R_likeOf_18 (k4 : sg_S → Int → Int → Int → Int) (n : Nat) : sg_S → Int → Int → Int → Int → Int → Int := Nat.rec (fun (s : sg_S) l1 l2 l3 l4 l5 => 0) (fun _ ih => fun s l1 l2 l3 l4 l5 => (if 8 ≤ l5 then (if l4 = 0 then (k4 s l1 (sy_or l2 0) (l3 + 1)) else (k4 s l1 (sy_or l2 (sy_shl 1 l3)) (l3 + 1))) else (if l4 = 0 then (ih s l1 l2 l3 0 (l5 + 1)) else (if (dc_R_layerAt s 0 l3 l5) = (dc_R_layerAt s 0 l1 l5) then (ih s l1 l2 l3 1 (l5 + 1)) else (ih s l1 l2 l3 0 (l5 + 1)))))) n
theorem dc_R_likeOf_18_s (k4 : sg_S → Int → Int → Int → Int) (n : Nat) (s : sg_S) (l1 l2 l3 l4 l5 : Int) : dc_R_likeOf_18 k4 (n + 1) s l1 l2 l3 l4 l5 = (if 8 ≤ l5 then (if l4 = 0 then (k4 s l1 (sy_or l2 0) (l3 + 1)) else (k4 s l1 (sy_or l2 (sy_shl 1 l3)) (l3 + 1))) else (if l4 = 0 then ((dc_R_likeOf_18 k4 n) s l1 l2 l3 0 (l5 + 1)) else (if (dc_R_layerAt s 0 l3 l5) = (dc_R_layerAt s 0 l1 l5) then ((dc_R_likeOf_18 k4 n) s l1 l2 l3 1 (l5 + 1)) else ((dc_R_likeOf_18 k4 n) s l1 l2 l3 0 (l5 + 1))))) := rfl
def dc_R_likeOf_4 (n : Nat) : sg_S → Int → Int → Int → Int := Nat.rec (fun (s : sg_S) l1 l2 l3 => 0) (fun _ ih => fun s l1 l2 l3 => (if (s 234 6) ≤ l3 then l2 else (dc_R_likeOf_18 ih 9 s l1 l2 l3 1 0))) n
theorem dc_R_likeOf_4_s (n : Nat) (s : sg_S) (l1 l2 l3 : Int) : dc_R_likeOf_4 (n + 1) s l1 l2 l3 = (if (s 234 6) ≤ l3 then l2 else (dc_R_likeOf_18 (dc_R_likeOf_4 n) 9 s l1 l2 l3 1 0)) := rfl
def dc_R_likeOf (s : sg_S) (a1 : Int) : Int := (dc_R_likeOf_4 10 s a1 0 0)
set_option maxRecDepth 100000 in
theorem dt_R_likeOf_18 {k4 : sg_S → Int → Int → Int → Int} {n4 : Nat} (hk4 : ∀ {h1 : mj_H}, sy_H h1 → ∀ {l1 l2 l3 : Int}, 0 ≤ l1 → l1 ≤ 8 → 0 ≤ l2 → l2 ≤ 511 → 0 ≤ l3 → l3 ≤ 9 → 9 - l3 < (n4 : Int) → sy_wp (mj_m_172, 4, [(0, .ref 234), (1, sy_i l1), (2, sy_i l2), (3, sy_i l3)], [], h1) (dq1 h1 (0) (511) (k4 (sy_rd h1) l1 l2 l3))) : ∀ (n : Nat) {h : mj_H} (hH : sy_H h) {l1 l2 l3 l4 l5 : Int} (b_l1 : 0 ≤ l1) (t_l1 : l1 ≤ 8) (b_l2 : 0 ≤ l2) (t_l2 : l2 ≤ 511) (b_l3 : 0 ≤ l3) (t_l3 : l3 ≤ 8) (b_l4 : 0 ≤ l4) (t_l4 : l4 ≤ 1) (b_l5 : 0 ≤ l5) (t_l5 : l5 ≤ 8) (i0 : 9 - (l3 + 1) < (n4 : Int)) (hm : 8 - l5 < (n : Int)), sy_wp (mj_m_172, 18, [(0, .ref 234), (1, sy_i l1), (2, sy_i l2), (3, sy_i l3), (4, sy_i l4), (5, sy_i l5)], [], h) (dq1 h (0) (511) (dc_R_likeOf_18 k4 n (sy_rd h) l1 l2 l3 l4 l5)) := by
  intro n
  induction n with
  | zero =>
    intro h hH l1 l2 l3 l4 l5 b_l1 t_l1 b_l2 t_l2 b_l3 t_l3 b_l4 t_l4 b_l5 t_l5 i0 hm
    exact absurd hm (by omega)
  | succ n ih =>
    intro h hH l1 l2 l3 l4 l5 b_l1 t_l1 b_l2 t_l2 b_l3 t_l3 b_l4 t_l4 b_l5 t_l5 i0 hm
    rw [dc_R_likeOf_18_s]
    refine sy_st (S' := (mj_m_172, 20, [(0, .ref 234), (1, sy_i l1), (2, sy_i l2), (3, sy_i l3), (4, sy_i l4), (5, sy_i l5)], [sy_i l5], h)) mj_d_172_18 (fun _ _ => rfl) ?_
    refine sy_bip mj_d_172_20 (by decide) ?_
    refine sy_icm mj_d_172_22 rfl ⟨by omega, by omega⟩ ⟨by omega, by omega⟩ (fun (c1 : 8 ≤ l5) => ?_) (fun (c1 : ¬ (8 ≤ l5)) => ?_)
    · skip
      rw [if_pos c1]
      refine sy_st (S' := (mj_m_172, 63, [(0, .ref 234), (1, sy_i l1), (2, sy_i l2), (3, sy_i l3), (4, sy_i l4), (5, sy_i l5)], [sy_i l2], h)) mj_d_172_62 (fun _ _ => rfl) ?_
      refine sy_st (S' := (mj_m_172, 65, [(0, .ref 234), (1, sy_i l1), (2, sy_i l2), (3, sy_i l3), (4, sy_i l4), (5, sy_i l5)], [sy_i l4, sy_i l2], h)) mj_d_172_63 (fun _ _ => rfl) ?_
      refine sy_ifc mj_d_172_65 rfl ⟨by omega, by omega⟩ (fun (c2 : l4 = 0) => ?_) (fun (c2 : ¬ (l4 = 0)) => ?_)
      · skip
        rw [if_pos c2]
        refine sy_st (S' := (mj_m_172, 75, [(0, .ref 234), (1, sy_i l1), (2, sy_i l2), (3, sy_i l3), (4, sy_i l4), (5, sy_i l5)], [sy_i 0, sy_i l2], h)) mj_d_172_74 (fun _ _ => rfl) ?_
        refine sy_ior mj_d_172_75 ?_
        have q3 := sg_or9 l2 0 (by omega) (by omega) (by omega) (by omega)
        refine sy_st (S' := (mj_m_172, 77, [(2, sy_i (sy_or l2 0)), (0, .ref 234), (1, sy_i l1), (3, sy_i l3), (4, sy_i l4), (5, sy_i l5)], [], h)) mj_d_172_76 (fun _ _ => rfl) ?_
        refine sy_inc (a := l3) (lv' := [(3, sy_i (l3 + 1)), (2, sy_i (sy_or l2 0)), (0, .ref 234), (1, sy_i l1), (4, sy_i l4), (5, sy_i l5)]) mj_d_172_77 (Nat.le_of_ble_eq_true rfl) rfl rfl ?_
        refine sy_st (S' := (mj_m_172, 4, [(3, sy_i (l3 + 1)), (2, sy_i (sy_or l2 0)), (0, .ref 234), (1, sy_i l1), (4, sy_i l4), (5, sy_i l5)], [], h)) mj_d_172_80 (fun _ _ => rfl) ?_
        refine sy_lv (lv := [(0, .ref 234), (1, sy_i l1), (2, sy_i (sy_or l2 0)), (3, sy_i (l3 + 1))]) rfl ⟨rfl, rfl, rfl, rfl, trivial⟩ ?_
        exact hk4 hH (by first | omega | assumption) (by first | omega | assumption) (by first | omega | assumption) (by first | omega | assumption) (by first | omega | assumption) (by first | omega | assumption) (by omega)
      · skip
        rw [if_neg c2]
        refine sy_st (S' := (mj_m_172, 69, [(0, .ref 234), (1, sy_i l1), (2, sy_i l2), (3, sy_i l3), (4, sy_i l4), (5, sy_i l5)], [sy_i 1, sy_i l2], h)) mj_d_172_68 (fun _ _ => rfl) ?_
        refine sy_st (S' := (mj_m_172, 70, [(0, .ref 234), (1, sy_i l1), (2, sy_i l2), (3, sy_i l3), (4, sy_i l4), (5, sy_i l5)], [sy_i l3, sy_i 1, sy_i l2], h)) mj_d_172_69 (fun _ _ => rfl) ?_
        refine sy_ishl mj_d_172_70 ?_
        have q4 := sg_shl9 l3 (by omega) (by omega)
        refine sy_st (S' := (mj_m_172, 75, [(0, .ref 234), (1, sy_i l1), (2, sy_i l2), (3, sy_i l3), (4, sy_i l4), (5, sy_i l5)], [sy_i (sy_shl 1 l3), sy_i l2], h)) mj_d_172_71 (fun _ _ => rfl) ?_
        refine sy_ior mj_d_172_75 ?_
        have q5 := sg_or9 l2 (sy_shl 1 l3) (by omega) (by omega) (by omega) (by omega)
        refine sy_st (S' := (mj_m_172, 77, [(2, sy_i (sy_or l2 (sy_shl 1 l3))), (0, .ref 234), (1, sy_i l1), (3, sy_i l3), (4, sy_i l4), (5, sy_i l5)], [], h)) mj_d_172_76 (fun _ _ => rfl) ?_
        refine sy_inc (a := l3) (lv' := [(3, sy_i (l3 + 1)), (2, sy_i (sy_or l2 (sy_shl 1 l3))), (0, .ref 234), (1, sy_i l1), (4, sy_i l4), (5, sy_i l5)]) mj_d_172_77 (Nat.le_of_ble_eq_true rfl) rfl rfl ?_
        refine sy_st (S' := (mj_m_172, 4, [(3, sy_i (l3 + 1)), (2, sy_i (sy_or l2 (sy_shl 1 l3))), (0, .ref 234), (1, sy_i l1), (4, sy_i l4), (5, sy_i l5)], [], h)) mj_d_172_80 (fun _ _ => rfl) ?_
        refine sy_lv (lv := [(0, .ref 234), (1, sy_i l1), (2, sy_i (sy_or l2 (sy_shl 1 l3))), (3, sy_i (l3 + 1))]) rfl ⟨rfl, rfl, rfl, rfl, trivial⟩ ?_
        exact hk4 hH (by first | omega | assumption) (by first | omega | assumption) (by first | omega | assumption) (by first | omega | assumption) (by first | omega | assumption) (by first | omega | assumption) (by omega)
    · skip
      rw [if_neg c1]
      refine sy_st (S' := (mj_m_172, 27, [(0, .ref 234), (1, sy_i l1), (2, sy_i l2), (3, sy_i l3), (4, sy_i l4), (5, sy_i l5)], [sy_i l4], h)) mj_d_172_25 (fun _ _ => rfl) ?_
      refine sy_ifc mj_d_172_27 rfl ⟨by omega, by omega⟩ (fun (c6 : l4 = 0) => ?_) (fun (c6 : ¬ (l4 = 0)) => ?_)
      · skip
        rw [if_pos c6]
        refine sy_st (S' := (mj_m_172, 54, [(0, .ref 234), (1, sy_i l1), (2, sy_i l2), (3, sy_i l3), (4, sy_i l4), (5, sy_i l5)], [sy_i 0], h)) mj_d_172_53 (fun _ _ => rfl) ?_
        refine sy_st (S' := (mj_m_172, 56, [(4, sy_i 0), (0, .ref 234), (1, sy_i l1), (2, sy_i l2), (3, sy_i l3), (5, sy_i l5)], [], h)) mj_d_172_54 (fun _ _ => rfl) ?_
        refine sy_inc (a := l5) (lv' := [(5, sy_i (l5 + 1)), (4, sy_i 0), (0, .ref 234), (1, sy_i l1), (2, sy_i l2), (3, sy_i l3)]) mj_d_172_56 (Nat.le_of_ble_eq_true rfl) rfl rfl ?_
        refine sy_st (S' := (mj_m_172, 18, [(5, sy_i (l5 + 1)), (4, sy_i 0), (0, .ref 234), (1, sy_i l1), (2, sy_i l2), (3, sy_i l3)], [], h)) mj_d_172_59 (fun _ _ => rfl) ?_
        refine sy_lv (lv := [(0, .ref 234), (1, sy_i l1), (2, sy_i l2), (3, sy_i l3), (4, sy_i 0), (5, sy_i (l5 + 1))]) rfl ⟨rfl, rfl, rfl, rfl, rfl, rfl, trivial⟩ ?_
        exact ih hH (by first | omega | assumption) (by first | omega | assumption) (by first | omega | assumption) (by first | omega | assumption) (by first | omega | assumption) (by first | omega | assumption) (by first | omega | assumption) (by first | omega | assumption) (by first | omega | assumption) (by first | omega | assumption) (by first | omega | assumption) (by omega)
      · skip
        rw [if_neg c6]
        refine sy_st (S' := (mj_m_172, 31, [(0, .ref 234), (1, sy_i l1), (2, sy_i l2), (3, sy_i l3), (4, sy_i l4), (5, sy_i l5)], [.ref 234], h)) mj_d_172_30 (fun _ _ => rfl) ?_
        refine sy_st (S' := (mj_m_172, 32, [(0, .ref 234), (1, sy_i l1), (2, sy_i l2), (3, sy_i l3), (4, sy_i l4), (5, sy_i l5)], [sy_i 0, .ref 234], h)) mj_d_172_31 (fun _ _ => rfl) ?_
        refine sy_st (S' := (mj_m_172, 33, [(0, .ref 234), (1, sy_i l1), (2, sy_i l2), (3, sy_i l3), (4, sy_i l4), (5, sy_i l5)], [sy_i l3, sy_i 0, .ref 234], h)) mj_d_172_32 (fun _ _ => rfl) ?_
        refine sy_st (S' := (mj_m_172, 35, [(0, .ref 234), (1, sy_i l1), (2, sy_i l2), (3, sy_i l3), (4, sy_i l4), (5, sy_i l5)], [sy_i l5, sy_i l3, sy_i 0, .ref 234], h)) mj_d_172_33 (fun _ _ => rfl) ?_
        refine sy_cv (M' := mj_m_144) (vs := [.ref 234, sy_i 0, sy_i l3, sy_i l5]) (rest := []) mj_d_172_35 rfl rfl rfl rfl hH rfl rfl ⟨by decide, ⟨Nat.le_of_ble_eq_true rfl, Nat.le_of_ble_eq_true rfl, Nat.le_of_ble_eq_true rfl, Nat.le_of_ble_eq_true rfl, Nat.le_of_ble_eq_true rfl⟩⟩ (dt_R_layerAt (a1 := 0) (a2 := l3) (a3 := l5) hH (by omega) (by omega) (by omega) (by omega) (by omega) (by omega) (by first | omega | assumption)) ?_
        rintro _ _ ⟨rfl, rfl, b7, b7t⟩
        show sy_wp (mj_m_172, 38, [(0, .ref 234), (1, sy_i l1), (2, sy_i l2), (3, sy_i l3), (4, sy_i l4), (5, sy_i l5)], [sy_i (dc_R_layerAt (sy_rd h) 0 l3 l5)], h) _
        refine sy_st (S' := (mj_m_172, 39, [(0, .ref 234), (1, sy_i l1), (2, sy_i l2), (3, sy_i l3), (4, sy_i l4), (5, sy_i l5)], [.ref 234, sy_i (dc_R_layerAt (sy_rd h) 0 l3 l5)], h)) mj_d_172_38 (fun _ _ => rfl) ?_
        refine sy_st (S' := (mj_m_172, 40, [(0, .ref 234), (1, sy_i l1), (2, sy_i l2), (3, sy_i l3), (4, sy_i l4), (5, sy_i l5)], [sy_i 0, .ref 234, sy_i (dc_R_layerAt (sy_rd h) 0 l3 l5)], h)) mj_d_172_39 (fun _ _ => rfl) ?_
        refine sy_st (S' := (mj_m_172, 41, [(0, .ref 234), (1, sy_i l1), (2, sy_i l2), (3, sy_i l3), (4, sy_i l4), (5, sy_i l5)], [sy_i l1, sy_i 0, .ref 234, sy_i (dc_R_layerAt (sy_rd h) 0 l3 l5)], h)) mj_d_172_40 (fun _ _ => rfl) ?_
        refine sy_st (S' := (mj_m_172, 43, [(0, .ref 234), (1, sy_i l1), (2, sy_i l2), (3, sy_i l3), (4, sy_i l4), (5, sy_i l5)], [sy_i l5, sy_i l1, sy_i 0, .ref 234, sy_i (dc_R_layerAt (sy_rd h) 0 l3 l5)], h)) mj_d_172_41 (fun _ _ => rfl) ?_
        refine sy_cv (M' := mj_m_144) (vs := [.ref 234, sy_i 0, sy_i l1, sy_i l5]) (rest := [sy_i (dc_R_layerAt (sy_rd h) 0 l3 l5)]) mj_d_172_43 rfl rfl rfl rfl hH rfl rfl ⟨by decide, ⟨Nat.le_of_ble_eq_true rfl, Nat.le_of_ble_eq_true rfl, Nat.le_of_ble_eq_true rfl, Nat.le_of_ble_eq_true rfl, Nat.le_of_ble_eq_true rfl⟩⟩ (dt_R_layerAt (a1 := 0) (a2 := l1) (a3 := l5) hH (by omega) (by omega) (by omega) (by omega) (by omega) (by omega) (by first | omega | assumption)) ?_
        rintro _ _ ⟨rfl, rfl, b8, b8t⟩
        show sy_wp (mj_m_172, 46, [(0, .ref 234), (1, sy_i l1), (2, sy_i l2), (3, sy_i l3), (4, sy_i l4), (5, sy_i l5)], [sy_i (dc_R_layerAt (sy_rd h) 0 l1 l5), sy_i (dc_R_layerAt (sy_rd h) 0 l3 l5)], h) _
        refine sy_icm mj_d_172_46 rfl ⟨by omega, by omega⟩ ⟨by omega, by omega⟩ (fun (c9 : ¬ ((dc_R_layerAt (sy_rd h) 0 l3 l5) = (dc_R_layerAt (sy_rd h) 0 l1 l5))) => ?_) (fun (c9 : ¬ ¬ ((dc_R_layerAt (sy_rd h) 0 l3 l5) = (dc_R_layerAt (sy_rd h) 0 l1 l5))) => ?_)
        · skip
          rw [if_neg c9]
          refine sy_st (S' := (mj_m_172, 54, [(0, .ref 234), (1, sy_i l1), (2, sy_i l2), (3, sy_i l3), (4, sy_i l4), (5, sy_i l5)], [sy_i 0], h)) mj_d_172_53 (fun _ _ => rfl) ?_
          refine sy_st (S' := (mj_m_172, 56, [(4, sy_i 0), (0, .ref 234), (1, sy_i l1), (2, sy_i l2), (3, sy_i l3), (5, sy_i l5)], [], h)) mj_d_172_54 (fun _ _ => rfl) ?_
          refine sy_inc (a := l5) (lv' := [(5, sy_i (l5 + 1)), (4, sy_i 0), (0, .ref 234), (1, sy_i l1), (2, sy_i l2), (3, sy_i l3)]) mj_d_172_56 (Nat.le_of_ble_eq_true rfl) rfl rfl ?_
          refine sy_st (S' := (mj_m_172, 18, [(5, sy_i (l5 + 1)), (4, sy_i 0), (0, .ref 234), (1, sy_i l1), (2, sy_i l2), (3, sy_i l3)], [], h)) mj_d_172_59 (fun _ _ => rfl) ?_
          refine sy_lv (lv := [(0, .ref 234), (1, sy_i l1), (2, sy_i l2), (3, sy_i l3), (4, sy_i 0), (5, sy_i (l5 + 1))]) rfl ⟨rfl, rfl, rfl, rfl, rfl, rfl, trivial⟩ ?_
          exact ih hH (by first | omega | assumption) (by first | omega | assumption) (by first | omega | assumption) (by first | omega | assumption) (by first | omega | assumption) (by first | omega | assumption) (by first | omega | assumption) (by first | omega | assumption) (by first | omega | assumption) (by first | omega | assumption) (by first | omega | assumption) (by omega)
        · skip
          rw [if_pos (Decidable.not_not.mp c9)]
          replace c9 := Decidable.not_not.mp c9
          refine sy_st (S' := (mj_m_172, 50, [(0, .ref 234), (1, sy_i l1), (2, sy_i l2), (3, sy_i l3), (4, sy_i l4), (5, sy_i l5)], [sy_i 1], h)) mj_d_172_49 (fun _ _ => rfl) ?_
          refine sy_st (S' := (mj_m_172, 54, [(0, .ref 234), (1, sy_i l1), (2, sy_i l2), (3, sy_i l3), (4, sy_i l4), (5, sy_i l5)], [sy_i 1], h)) mj_d_172_50 (fun _ _ => rfl) ?_
          refine sy_st (S' := (mj_m_172, 56, [(4, sy_i 1), (0, .ref 234), (1, sy_i l1), (2, sy_i l2), (3, sy_i l3), (5, sy_i l5)], [], h)) mj_d_172_54 (fun _ _ => rfl) ?_
          refine sy_inc (a := l5) (lv' := [(5, sy_i (l5 + 1)), (4, sy_i 1), (0, .ref 234), (1, sy_i l1), (2, sy_i l2), (3, sy_i l3)]) mj_d_172_56 (Nat.le_of_ble_eq_true rfl) rfl rfl ?_
          refine sy_st (S' := (mj_m_172, 18, [(5, sy_i (l5 + 1)), (4, sy_i 1), (0, .ref 234), (1, sy_i l1), (2, sy_i l2), (3, sy_i l3)], [], h)) mj_d_172_59 (fun _ _ => rfl) ?_
          refine sy_lv (lv := [(0, .ref 234), (1, sy_i l1), (2, sy_i l2), (3, sy_i l3), (4, sy_i 1), (5, sy_i (l5 + 1))]) rfl ⟨rfl, rfl, rfl, rfl, rfl, rfl, trivial⟩ ?_
          exact ih hH (by first | omega | assumption) (by first | omega | assumption) (by first | omega | assumption) (by first | omega | assumption) (by first | omega | assumption) (by first | omega | assumption) (by first | omega | assumption) (by first | omega | assumption) (by first | omega | assumption) (by first | omega | assumption) (by first | omega | assumption) (by omega)
set_option maxRecDepth 100000 in
theorem dt_R_likeOf_4 : ∀ (n : Nat) {h : mj_H} (hH : sy_H h) {l1 l2 l3 : Int} (b_l1 : 0 ≤ l1) (t_l1 : l1 ≤ 8) (b_l2 : 0 ≤ l2) (t_l2 : l2 ≤ 511) (b_l3 : 0 ≤ l3) (t_l3 : l3 ≤ 9) (hm : 9 - l3 < (n : Int)), sy_wp (mj_m_172, 4, [(0, .ref 234), (1, sy_i l1), (2, sy_i l2), (3, sy_i l3)], [], h) (dq1 h (0) (511) (dc_R_likeOf_4 n (sy_rd h) l1 l2 l3)) := by
  intro n
  induction n with
  | zero =>
    intro h hH l1 l2 l3 b_l1 t_l1 b_l2 t_l2 b_l3 t_l3 hm
    exact absurd hm (by omega)
  | succ n ih =>
    intro h hH l1 l2 l3 b_l1 t_l1 b_l2 t_l2 b_l3 t_l3 hm
    rw [dc_R_likeOf_4_s]
    refine sy_st (S' := (mj_m_172, 5, [(0, .ref 234), (1, sy_i l1), (2, sy_i l2), (3, sy_i l3)], [sy_i l3], h)) mj_d_172_4 (fun _ _ => rfl) ?_
    refine sy_st (S' := (mj_m_172, 6, [(0, .ref 234), (1, sy_i l1), (2, sy_i l2), (3, sy_i l3)], [.ref 234, sy_i l3], h)) mj_d_172_5 (fun _ _ => rfl) ?_
    refine sy_gf mj_d_172_6 rfl rfl (by decide) rfl hH ?_
    intro x1 ex1 bx1 tx1
    replace ex1 : x1 = sy_rd h 234 6 := ex1
    subst ex1
    refine sy_icm mj_d_172_9 rfl ⟨by omega, by omega⟩ ⟨by omega, by omega⟩ (fun (c2 : (sy_rd h 234 6) ≤ l3) => ?_) (fun (c2 : ¬ ((sy_rd h 234 6) ≤ l3)) => ?_)
    · skip
      rw [if_pos c2]
      refine sy_st (S' := (mj_m_172, 84, [(0, .ref 234), (1, sy_i l1), (2, sy_i l2), (3, sy_i l3)], [sy_i l2], h)) mj_d_172_83 (fun _ _ => rfl) ?_
      exact sy_reti mj_d_172_84 rfl ⟨rfl, rfl, by omega, by omega⟩
    · skip
      rw [if_neg c2]
      refine sy_st (S' := (mj_m_172, 13, [(0, .ref 234), (1, sy_i l1), (2, sy_i l2), (3, sy_i l3)], [sy_i 1], h)) mj_d_172_12 (fun _ _ => rfl) ?_
      refine sy_st (S' := (mj_m_172, 15, [(4, sy_i 1), (0, .ref 234), (1, sy_i l1), (2, sy_i l2), (3, sy_i l3)], [], h)) mj_d_172_13 (fun _ _ => rfl) ?_
      refine sy_st (S' := (mj_m_172, 16, [(4, sy_i 1), (0, .ref 234), (1, sy_i l1), (2, sy_i l2), (3, sy_i l3)], [sy_i 0], h)) mj_d_172_15 (fun _ _ => rfl) ?_
      refine sy_st (S' := (mj_m_172, 18, [(5, sy_i 0), (4, sy_i 1), (0, .ref 234), (1, sy_i l1), (2, sy_i l2), (3, sy_i l3)], [], h)) mj_d_172_16 (fun _ _ => rfl) ?_
      refine sy_lv (lv := [(0, .ref 234), (1, sy_i l1), (2, sy_i l2), (3, sy_i l3), (4, sy_i 1), (5, sy_i 0)]) rfl ⟨rfl, rfl, rfl, rfl, rfl, rfl, trivial⟩ ?_
      exact dt_R_likeOf_18 @ih 9 hH (by first | omega | assumption) (by first | omega | assumption) (by first | omega | assumption) (by first | omega | assumption) (by first | omega | assumption) (by first | omega | assumption) (by first | omega | assumption) (by first | omega | assumption) (by first | omega | assumption) (by first | omega | assumption) (by first | omega | assumption) (by omega)
set_option maxRecDepth 100000 in
theorem dt_R_likeOf {h : mj_H} (hH : sy_H h) {a1 : Int} (b_a1 : 0 ≤ a1) (t_a1 : a1 ≤ 8) : sy_wp (mj_m_172, 0, [(0, .ref 234), (1, sy_i a1)], [], h) (dq1 h (0) (511) (dc_R_likeOf (sy_rd h) a1)) := by
  unfold dc_R_likeOf
  refine sy_st (S' := (mj_m_172, 1, [(0, .ref 234), (1, sy_i a1)], [sy_i 0], h)) mj_d_172_0 (fun _ _ => rfl) ?_
  refine sy_st (S' := (mj_m_172, 2, [(2, sy_i 0), (0, .ref 234), (1, sy_i a1)], [], h)) mj_d_172_1 (fun _ _ => rfl) ?_
  refine sy_st (S' := (mj_m_172, 3, [(2, sy_i 0), (0, .ref 234), (1, sy_i a1)], [sy_i 0], h)) mj_d_172_2 (fun _ _ => rfl) ?_
  refine sy_st (S' := (mj_m_172, 4, [(3, sy_i 0), (2, sy_i 0), (0, .ref 234), (1, sy_i a1)], [], h)) mj_d_172_3 (fun _ _ => rfl) ?_
  refine sy_lv (lv := [(0, .ref 234), (1, sy_i a1), (2, sy_i 0), (3, sy_i 0)]) rfl ⟨rfl, rfl, rfl, rfl, trivial⟩ ?_
  exact dt_R_likeOf_4 10 hH (by first | omega | assumption) (by first | omega | assumption) (by first | omega | assumption) (by first | omega | assumption) (by first | omega | assumption) (by first | omega | assumption) (by omega)
def dc_R_flues (s : sg_S) (a1 a2 : Int) : Int := (if (dc_R_isHouse s a1) = 0 then (-1000000001) else (if a2 = 0 then (if (s 235 ((2 + a1).toNat)) = 0 then 0 else (dc_R_sootOf s a1)) else (if a2 = 1 then (dc_R_heatOf s a1) else (if a2 = 2 then (dc_R_likeOf s a1) else (-1000000002)))))
set_option maxRecDepth 100000 in
theorem dt_R_flues {h : mj_H} (hH : sy_H h) {a1 a2 : Int} (b_a1 : (-2147483648) ≤ a1) (t_a1 : a1 ≤ 2147483647) (b_a2 : (-2147483648) ≤ a2) (t_a2 : a2 ≤ 2147483647) (i0 : (sy_rd h 234 6) ≤ 0 ∨ (sy_rd h 235 11) = -1) : sy_wp (mj_m_169, 0, [(0, .ref 234), (1, sy_i a1), (2, sy_i a2)], [], h) (dq1 h (-2147483648) (2147483647) (dc_R_flues (sy_rd h) a1 a2)) := by
  unfold dc_R_flues
  have n234_6 := hH.bd (a := 234) (k := 6) rfl (by decide) rfl
  refine sy_st (S' := (mj_m_169, 1, [(0, .ref 234), (1, sy_i a1), (2, sy_i a2)], [.ref 234], h)) mj_d_169_0 (fun _ _ => rfl) ?_
  refine sy_st (S' := (mj_m_169, 2, [(0, .ref 234), (1, sy_i a1), (2, sy_i a2)], [sy_i a1, .ref 234], h)) mj_d_169_1 (fun _ _ => rfl) ?_
  refine sy_cv (M' := mj_m_141) (vs := [.ref 234, sy_i a1]) (rest := []) mj_d_169_2 rfl rfl rfl rfl hH rfl rfl ⟨by decide, ⟨Nat.le_of_ble_eq_true rfl, Nat.le_of_ble_eq_true rfl, Nat.le_of_ble_eq_true rfl, Nat.le_of_ble_eq_true rfl, Nat.le_of_ble_eq_true rfl⟩⟩ (dt_R_isHouse (a1 := a1) hH (by omega) (by omega)) ?_
  rintro _ _ ⟨rfl, rfl, b1, b1t⟩
  have q2 := df_R_isHouse_0 (sy_rd h) a1
  show sy_wp (mj_m_169, 5, [(0, .ref 234), (1, sy_i a1), (2, sy_i a2)], [sy_i (dc_R_isHouse (sy_rd h) a1)], h) _
  refine sy_ifc mj_d_169_5 rfl ⟨by omega, by omega⟩ (fun (c3 : ¬ ((dc_R_isHouse (sy_rd h) a1) = 0)) => ?_) (fun (c3 : ¬ ¬ ((dc_R_isHouse (sy_rd h) a1) = 0)) => ?_)
  · skip
    rw [if_neg c3]
    refine sy_st (S' := (mj_m_169, 12, [(0, .ref 234), (1, sy_i a1), (2, sy_i a2)], [sy_i a2], h)) mj_d_169_11 (fun _ _ => rfl) ?_
    by_cases c4 : a2 = 0
    · skip
      rw [if_pos c4]
      refine sy_tbI (a := a2) mj_d_169_12 ⟨by omega, by omega⟩ (by omega) (by omega) (by rw [c4]; rfl) rfl ?_
      refine sy_st (S' := (mj_m_169, 41, [(0, .ref 234), (1, sy_i a1), (2, sy_i a2)], [.ref 234], h)) mj_d_169_40 (fun _ _ => rfl) ?_
      refine sy_gr2 (b := 235) mj_d_169_41 rfl rfl (by decide) rfl rfl hH ?_
      refine sy_st (S' := (mj_m_169, 45, [(0, .ref 234), (1, sy_i a1), (2, sy_i a2)], [sy_i 2, .ref 235], h)) mj_d_169_44 (fun _ _ => rfl) ?_
      refine sy_st (S' := (mj_m_169, 46, [(0, .ref 234), (1, sy_i a1), (2, sy_i a2)], [sy_i a1, sy_i 2, .ref 235], h)) mj_d_169_45 (fun _ _ => rfl) ?_
      refine sy_add mj_d_169_46 ?_
      refine sg_iaN (lo := 0) (hi := 7) 2 11 (by decide) mj_d_169_47 (by omega) (by omega) (by omega) (by omega) hH ?_
      rintro _ rfl bx5 tx5
      refine sy_ifc mj_d_169_48 rfl ⟨by omega, by omega⟩ (fun (c6 : ¬ ((sy_rd h 235 ((2 + a1).toNat)) = 0)) => ?_) (fun (c6 : ¬ ¬ ((sy_rd h 235 ((2 + a1).toNat)) = 0)) => ?_)
      · skip
        rw [if_neg c6]
        refine sy_st (S' := (mj_m_169, 56, [(0, .ref 234), (1, sy_i a1), (2, sy_i a2)], [.ref 234], h)) mj_d_169_55 (fun _ _ => rfl) ?_
        refine sy_st (S' := (mj_m_169, 57, [(0, .ref 234), (1, sy_i a1), (2, sy_i a2)], [sy_i a1, .ref 234], h)) mj_d_169_56 (fun _ _ => rfl) ?_
        refine sy_cv (M' := mj_m_170) (vs := [.ref 234, sy_i a1]) (rest := []) mj_d_169_57 rfl rfl rfl rfl hH rfl rfl ⟨by decide, ⟨Nat.le_of_ble_eq_true rfl, Nat.le_of_ble_eq_true rfl, Nat.le_of_ble_eq_true rfl, Nat.le_of_ble_eq_true rfl, Nat.le_of_ble_eq_true rfl⟩⟩ (dt_R_sootOf (a1 := a1) hH (by omega) (by omega) (by first | omega | assumption)) ?_
        rintro _ _ ⟨rfl, rfl, b7, b7t⟩
        show sy_wp (mj_m_169, 60, [(0, .ref 234), (1, sy_i a1), (2, sy_i a2)], [sy_i (dc_R_sootOf (sy_rd h) a1)], h) _
        exact sy_reti mj_d_169_60 rfl ⟨rfl, rfl, by omega, by omega⟩
      · skip
        rw [if_pos (Decidable.not_not.mp c6)]
        replace c6 := Decidable.not_not.mp c6
        refine sy_st (S' := (mj_m_169, 52, [(0, .ref 234), (1, sy_i a1), (2, sy_i a2)], [sy_i 0], h)) mj_d_169_51 (fun _ _ => rfl) ?_
        refine sy_st (S' := (mj_m_169, 60, [(0, .ref 234), (1, sy_i a1), (2, sy_i a2)], [sy_i 0], h)) mj_d_169_52 (fun _ _ => rfl) ?_
        exact sy_reti mj_d_169_60 rfl ⟨rfl, rfl, by omega, by omega⟩
    rw [if_neg c4]
    by_cases c8 : a2 = 1
    · skip
      rw [if_pos c8]
      refine sy_tbI (a := a2) mj_d_169_12 ⟨by omega, by omega⟩ (by omega) (by omega) (by rw [c8]; rfl) rfl ?_
      refine sy_st (S' := (mj_m_169, 62, [(0, .ref 234), (1, sy_i a1), (2, sy_i a2)], [.ref 234], h)) mj_d_169_61 (fun _ _ => rfl) ?_
      refine sy_st (S' := (mj_m_169, 63, [(0, .ref 234), (1, sy_i a1), (2, sy_i a2)], [sy_i a1, .ref 234], h)) mj_d_169_62 (fun _ _ => rfl) ?_
      refine sy_cv (M' := mj_m_171) (vs := [.ref 234, sy_i a1]) (rest := []) mj_d_169_63 rfl rfl rfl rfl hH rfl rfl ⟨by decide, ⟨Nat.le_of_ble_eq_true rfl, Nat.le_of_ble_eq_true rfl, Nat.le_of_ble_eq_true rfl, Nat.le_of_ble_eq_true rfl, Nat.le_of_ble_eq_true rfl⟩⟩ (dt_R_heatOf (a1 := a1) hH (by omega) (by omega)) ?_
      rintro _ _ ⟨rfl, rfl, b9, b9t⟩
      show sy_wp (mj_m_169, 66, [(0, .ref 234), (1, sy_i a1), (2, sy_i a2)], [sy_i (dc_R_heatOf (sy_rd h) a1)], h) _
      exact sy_reti mj_d_169_66 rfl ⟨rfl, rfl, by omega, by omega⟩
    rw [if_neg c8]
    by_cases c10 : a2 = 2
    · skip
      rw [if_pos c10]
      refine sy_tbI (a := a2) mj_d_169_12 ⟨by omega, by omega⟩ (by omega) (by omega) (by rw [c10]; rfl) rfl ?_
      refine sy_st (S' := (mj_m_169, 68, [(0, .ref 234), (1, sy_i a1), (2, sy_i a2)], [.ref 234], h)) mj_d_169_67 (fun _ _ => rfl) ?_
      refine sy_st (S' := (mj_m_169, 69, [(0, .ref 234), (1, sy_i a1), (2, sy_i a2)], [sy_i a1, .ref 234], h)) mj_d_169_68 (fun _ _ => rfl) ?_
      refine sy_cv (M' := mj_m_172) (vs := [.ref 234, sy_i a1]) (rest := []) mj_d_169_69 rfl rfl rfl rfl hH rfl rfl ⟨by decide, ⟨Nat.le_of_ble_eq_true rfl, Nat.le_of_ble_eq_true rfl, Nat.le_of_ble_eq_true rfl, Nat.le_of_ble_eq_true rfl, Nat.le_of_ble_eq_true rfl⟩⟩ (dt_R_likeOf (a1 := a1) hH (by omega) (by omega)) ?_
      rintro _ _ ⟨rfl, rfl, b11, b11t⟩
      show sy_wp (mj_m_169, 72, [(0, .ref 234), (1, sy_i a1), (2, sy_i a2)], [sy_i (dc_R_likeOf (sy_rd h) a1)], h) _
      exact sy_reti mj_d_169_72 rfl ⟨rfl, rfl, by omega, by omega⟩
    rw [if_neg c10]
    refine sy_tbO (a := a2) mj_d_169_12 rfl ⟨by omega, by omega⟩ (by omega) ?_
    refine sy_ldc (n := -1000000002) mj_d_169_73 rfl (by decide) ?_
    exact sy_reti mj_d_169_75 rfl ⟨rfl, rfl, by omega, by omega⟩
  · skip
    rw [if_pos (Decidable.not_not.mp c3)]
    replace c3 := Decidable.not_not.mp c3
    refine sy_ldc (n := -1000000001) mj_d_169_8 rfl (by decide) ?_
    exact sy_reti mj_d_169_10 rfl ⟨rfl, rfl, by omega, by omega⟩
def dc_R_brushes_51 (k36 : sg_S → Int → Int → Int → Int → Int → Int → Int) (n : Nat) : sg_S → Int → Int → Int → Int → Int → Int → Int → Int → Int := Nat.rec (fun (s : sg_S) l1 l2 l3 l4 l5 l6 l7 l8 => 0) (fun _ ih => fun s l1 l2 l3 l4 l5 l6 l7 l8 => (if 8 ≤ l8 then (if l7 = 0 then (if (s 235 ((2 + l6).toNat)) = l1 then (if (dc_R_ones s (dc_R_sootOf s l6)) ≤ l5 then (if (dc_R_ones s (dc_R_sootOf s l6)) ≤ l5 then (k36 s l1 l2 (l3 + 0) l4 l5 (l6 + 1)) else (k36 s l1 l2 (l3 + 0) l4 (dc_R_ones s (dc_R_sootOf s l6)) (l6 + 1))) else (if (dc_R_ones s (dc_R_sootOf s l6)) ≤ l5 then (k36 s l1 l2 (l3 + 0) l6 l5 (l6 + 1)) else (k36 s l1 l2 (l3 + 0) l6 (dc_R_ones s (dc_R_sootOf s l6)) (l6 + 1)))) else (if 0 ≤ l5 then (if 0 ≤ l5 then (k36 s l1 l2 (l3 + 0) l4 l5 (l6 + 1)) else (k36 s l1 l2 (l3 + 0) l4 0 (l6 + 1))) else (if 0 ≤ l5 then (k36 s l1 l2 (l3 + 0) l6 l5 (l6 + 1)) else (k36 s l1 l2 (l3 + 0) l6 0 (l6 + 1))))) else (if (s 235 ((2 + l6).toNat)) = l1 then (if (dc_R_ones s (dc_R_sootOf s l6)) ≤ l5 then (if (dc_R_ones s (dc_R_sootOf s l6)) ≤ l5 then (k36 s l1 l2 (l3 + 1) l4 l5 (l6 + 1)) else (k36 s l1 l2 (l3 + 1) l4 (dc_R_ones s (dc_R_sootOf s l6)) (l6 + 1))) else (if (dc_R_ones s (dc_R_sootOf s l6)) ≤ l5 then (k36 s l1 l2 (l3 + 1) l6 l5 (l6 + 1)) else (k36 s l1 l2 (l3 + 1) l6 (dc_R_ones s (dc_R_sootOf s l6)) (l6 + 1)))) else (if 0 ≤ l5 then (if 0 ≤ l5 then (k36 s l1 l2 (l3 + 1) l4 l5 (l6 + 1)) else (k36 s l1 l2 (l3 + 1) l4 0 (l6 + 1))) else (if 0 ≤ l5 then (k36 s l1 l2 (l3 + 1) l6 l5 (l6 + 1)) else (k36 s l1 l2 (l3 + 1) l6 0 (l6 + 1)))))) else (if l7 = 0 then (if (dc_R_layerAt s 0 l6 l8) = l1 then (ih s l1 l2 l3 l4 l5 l6 1 (l8 + 1)) else (ih s l1 l2 l3 l4 l5 l6 0 (l8 + 1))) else (ih s l1 l2 l3 l4 l5 l6 1 (l8 + 1))))) n
theorem dc_R_brushes_51_s (k36 : sg_S → Int → Int → Int → Int → Int → Int → Int) (n : Nat) (s : sg_S) (l1 l2 l3 l4 l5 l6 l7 l8 : Int) : dc_R_brushes_51 k36 (n + 1) s l1 l2 l3 l4 l5 l6 l7 l8 = (if 8 ≤ l8 then (if l7 = 0 then (if (s 235 ((2 + l6).toNat)) = l1 then (if (dc_R_ones s (dc_R_sootOf s l6)) ≤ l5 then (if (dc_R_ones s (dc_R_sootOf s l6)) ≤ l5 then (k36 s l1 l2 (l3 + 0) l4 l5 (l6 + 1)) else (k36 s l1 l2 (l3 + 0) l4 (dc_R_ones s (dc_R_sootOf s l6)) (l6 + 1))) else (if (dc_R_ones s (dc_R_sootOf s l6)) ≤ l5 then (k36 s l1 l2 (l3 + 0) l6 l5 (l6 + 1)) else (k36 s l1 l2 (l3 + 0) l6 (dc_R_ones s (dc_R_sootOf s l6)) (l6 + 1)))) else (if 0 ≤ l5 then (if 0 ≤ l5 then (k36 s l1 l2 (l3 + 0) l4 l5 (l6 + 1)) else (k36 s l1 l2 (l3 + 0) l4 0 (l6 + 1))) else (if 0 ≤ l5 then (k36 s l1 l2 (l3 + 0) l6 l5 (l6 + 1)) else (k36 s l1 l2 (l3 + 0) l6 0 (l6 + 1))))) else (if (s 235 ((2 + l6).toNat)) = l1 then (if (dc_R_ones s (dc_R_sootOf s l6)) ≤ l5 then (if (dc_R_ones s (dc_R_sootOf s l6)) ≤ l5 then (k36 s l1 l2 (l3 + 1) l4 l5 (l6 + 1)) else (k36 s l1 l2 (l3 + 1) l4 (dc_R_ones s (dc_R_sootOf s l6)) (l6 + 1))) else (if (dc_R_ones s (dc_R_sootOf s l6)) ≤ l5 then (k36 s l1 l2 (l3 + 1) l6 l5 (l6 + 1)) else (k36 s l1 l2 (l3 + 1) l6 (dc_R_ones s (dc_R_sootOf s l6)) (l6 + 1)))) else (if 0 ≤ l5 then (if 0 ≤ l5 then (k36 s l1 l2 (l3 + 1) l4 l5 (l6 + 1)) else (k36 s l1 l2 (l3 + 1) l4 0 (l6 + 1))) else (if 0 ≤ l5 then (k36 s l1 l2 (l3 + 1) l6 l5 (l6 + 1)) else (k36 s l1 l2 (l3 + 1) l6 0 (l6 + 1)))))) else (if l7 = 0 then (if (dc_R_layerAt s 0 l6 l8) = l1 then ((dc_R_brushes_51 k36 n) s l1 l2 l3 l4 l5 l6 1 (l8 + 1)) else ((dc_R_brushes_51 k36 n) s l1 l2 l3 l4 l5 l6 0 (l8 + 1))) else ((dc_R_brushes_51 k36 n) s l1 l2 l3 l4 l5 l6 1 (l8 + 1)))) := rfl
def dc_R_brushes_36 (n : Nat) : sg_S → Int → Int → Int → Int → Int → Int → Int := Nat.rec (fun (s : sg_S) l1 l2 l3 l4 l5 l6 => 0) (fun _ ih => fun s l1 l2 l3 l4 l5 l6 => (if (s 234 6) ≤ l6 then (if l2 = 0 then l3 else l4) else (dc_R_brushes_51 ih 9 s l1 l2 l3 l4 l5 l6 0 0))) n
theorem dc_R_brushes_36_s (n : Nat) (s : sg_S) (l1 l2 l3 l4 l5 l6 : Int) : dc_R_brushes_36 (n + 1) s l1 l2 l3 l4 l5 l6 = (if (s 234 6) ≤ l6 then (if l2 = 0 then l3 else l4) else (dc_R_brushes_51 (dc_R_brushes_36 n) 9 s l1 l2 l3 l4 l5 l6 0 0)) := rfl
def dc_R_brushes (s : sg_S) (a1 a2 : Int) : Int := (if (dc_R_in s a1 1 7) = 0 then (-1000000002) else (if (dc_R_in s a2 0 1) = 0 then (-1000000002) else (dc_R_brushes_36 10 s a1 a2 0 (-1) 0 0)))
set_option maxRecDepth 100000 in
theorem dt_R_brushes_51 {k36 : sg_S → Int → Int → Int → Int → Int → Int → Int} {n36 : Nat} (hk36 : ∀ {h1 : mj_H}, sy_H h1 → ∀ {l1 l2 l3 l4 l5 l6 : Int}, 1 ≤ l1 → l1 ≤ 7 → 0 ≤ l2 → l2 ≤ 1 → 0 ≤ l3 → l3 ≤ 9 → (-1) ≤ l4 → l4 ≤ 8 → 0 ≤ l5 → l5 ≤ 9 → 0 ≤ l6 → l6 ≤ 9 → l3 ≤ l6 → (sy_rd h1 234 6) ≤ 0 ∨ (sy_rd h1 235 11) = -1 → 9 - l6 < (n36 : Int) → sy_wp (mj_m_180, 36, [(0, .ref 234), (1, sy_i l1), (2, sy_i l2), (3, sy_i l3), (4, sy_i l4), (5, sy_i l5), (6, sy_i l6)], [], h1) (dq1 h1 (-2147483648) (2147483647) (k36 (sy_rd h1) l1 l2 l3 l4 l5 l6))) : ∀ (n : Nat) {h : mj_H} (hH : sy_H h) {l1 l2 l3 l4 l5 l6 l7 l8 : Int} (b_l1 : 1 ≤ l1) (t_l1 : l1 ≤ 7) (b_l2 : 0 ≤ l2) (t_l2 : l2 ≤ 1) (b_l3 : 0 ≤ l3) (t_l3 : l3 ≤ 9) (b_l4 : (-1) ≤ l4) (t_l4 : l4 ≤ 8) (b_l5 : 0 ≤ l5) (t_l5 : l5 ≤ 9) (b_l6 : 0 ≤ l6) (t_l6 : l6 ≤ 8) (b_l7 : 0 ≤ l7) (t_l7 : l7 ≤ 1) (b_l8 : 0 ≤ l8) (t_l8 : l8 ≤ 8) (i0 : l3 ≤ l6) (i1 : (sy_rd h 235 11) = -1) (i2 : 9 - (l6 + 1) < (n36 : Int)) (hm : 8 - l8 < (n : Int)), sy_wp (mj_m_180, 51, [(0, .ref 234), (1, sy_i l1), (2, sy_i l2), (3, sy_i l3), (4, sy_i l4), (5, sy_i l5), (6, sy_i l6), (7, sy_i l7), (8, sy_i l8)], [], h) (dq1 h (-2147483648) (2147483647) (dc_R_brushes_51 k36 n (sy_rd h) l1 l2 l3 l4 l5 l6 l7 l8)) := by
  intro n
  induction n with
  | zero =>
    intro h hH l1 l2 l3 l4 l5 l6 l7 l8 b_l1 t_l1 b_l2 t_l2 b_l3 t_l3 b_l4 t_l4 b_l5 t_l5 b_l6 t_l6 b_l7 t_l7 b_l8 t_l8 i0 i1 i2 hm
    exact absurd hm (by omega)
  | succ n ih =>
    intro h hH l1 l2 l3 l4 l5 l6 l7 l8 b_l1 t_l1 b_l2 t_l2 b_l3 t_l3 b_l4 t_l4 b_l5 t_l5 b_l6 t_l6 b_l7 t_l7 b_l8 t_l8 i0 i1 i2 hm
    rw [dc_R_brushes_51_s]
    refine sy_st (S' := (mj_m_180, 53, [(0, .ref 234), (1, sy_i l1), (2, sy_i l2), (3, sy_i l3), (4, sy_i l4), (5, sy_i l5), (6, sy_i l6), (7, sy_i l7), (8, sy_i l8)], [sy_i l8], h)) mj_d_180_51 (fun _ _ => rfl) ?_
    refine sy_bip mj_d_180_53 (by decide) ?_
    refine sy_icm mj_d_180_55 rfl ⟨by omega, by omega⟩ ⟨by omega, by omega⟩ (fun (c1 : 8 ≤ l8) => ?_) (fun (c1 : ¬ (8 ≤ l8)) => ?_)
    · skip
      rw [if_pos c1]
      refine sy_st (S' := (mj_m_180, 90, [(0, .ref 234), (1, sy_i l1), (2, sy_i l2), (3, sy_i l3), (4, sy_i l4), (5, sy_i l5), (6, sy_i l6), (7, sy_i l7), (8, sy_i l8)], [sy_i l3], h)) mj_d_180_89 (fun _ _ => rfl) ?_
      refine sy_st (S' := (mj_m_180, 92, [(0, .ref 234), (1, sy_i l1), (2, sy_i l2), (3, sy_i l3), (4, sy_i l4), (5, sy_i l5), (6, sy_i l6), (7, sy_i l7), (8, sy_i l8)], [sy_i l7, sy_i l3], h)) mj_d_180_90 (fun _ _ => rfl) ?_
      refine sy_ifc mj_d_180_92 rfl ⟨by omega, by omega⟩ (fun (c2 : l7 = 0) => ?_) (fun (c2 : ¬ (l7 = 0)) => ?_)
      · skip
        rw [if_pos c2]
        refine sy_st (S' := (mj_m_180, 100, [(0, .ref 234), (1, sy_i l1), (2, sy_i l2), (3, sy_i l3), (4, sy_i l4), (5, sy_i l5), (6, sy_i l6), (7, sy_i l7), (8, sy_i l8)], [sy_i 0, sy_i l3], h)) mj_d_180_99 (fun _ _ => rfl) ?_
        refine sy_add mj_d_180_100 ?_
        refine sy_st (S' := (mj_m_180, 102, [(3, sy_i (l3 + 0)), (0, .ref 234), (1, sy_i l1), (2, sy_i l2), (4, sy_i l4), (5, sy_i l5), (6, sy_i l6), (7, sy_i l7), (8, sy_i l8)], [], h)) mj_d_180_101 (fun _ _ => rfl) ?_
        refine sy_st (S' := (mj_m_180, 103, [(3, sy_i (l3 + 0)), (0, .ref 234), (1, sy_i l1), (2, sy_i l2), (4, sy_i l4), (5, sy_i l5), (6, sy_i l6), (7, sy_i l7), (8, sy_i l8)], [.ref 234], h)) mj_d_180_102 (fun _ _ => rfl) ?_
        refine sy_gr2 (b := 235) mj_d_180_103 rfl rfl (by decide) rfl rfl hH ?_
        refine sy_st (S' := (mj_m_180, 107, [(3, sy_i (l3 + 0)), (0, .ref 234), (1, sy_i l1), (2, sy_i l2), (4, sy_i l4), (5, sy_i l5), (6, sy_i l6), (7, sy_i l7), (8, sy_i l8)], [sy_i 2, .ref 235], h)) mj_d_180_106 (fun _ _ => rfl) ?_
        refine sy_st (S' := (mj_m_180, 109, [(3, sy_i (l3 + 0)), (0, .ref 234), (1, sy_i l1), (2, sy_i l2), (4, sy_i l4), (5, sy_i l5), (6, sy_i l6), (7, sy_i l7), (8, sy_i l8)], [sy_i l6, sy_i 2, .ref 235], h)) mj_d_180_107 (fun _ _ => rfl) ?_
        refine sy_add mj_d_180_109 ?_
        refine sg_iaN (lo := 0) (hi := 7) 2 11 (by decide) mj_d_180_110 (by omega) (by omega) (by omega) (by omega) hH ?_
        rintro _ rfl bx3 tx3
        refine sy_st (S' := (mj_m_180, 112, [(3, sy_i (l3 + 0)), (0, .ref 234), (1, sy_i l1), (2, sy_i l2), (4, sy_i l4), (5, sy_i l5), (6, sy_i l6), (7, sy_i l7), (8, sy_i l8)], [sy_i l1, sy_i (sy_rd h 235 ((2 + l6).toNat))], h)) mj_d_180_111 (fun _ _ => rfl) ?_
        refine sy_icm mj_d_180_112 rfl ⟨by omega, by omega⟩ ⟨by omega, by omega⟩ (fun (c4 : ¬ ((sy_rd h 235 ((2 + l6).toNat)) = l1)) => ?_) (fun (c4 : ¬ ¬ ((sy_rd h 235 ((2 + l6).toNat)) = l1)) => ?_)
        · skip
          rw [if_neg c4]
          refine sy_st (S' := (mj_m_180, 128, [(3, sy_i (l3 + 0)), (0, .ref 234), (1, sy_i l1), (2, sy_i l2), (4, sy_i l4), (5, sy_i l5), (6, sy_i l6), (7, sy_i l7), (8, sy_i l8)], [sy_i 0], h)) mj_d_180_127 (fun _ _ => rfl) ?_
          refine sy_st (S' := (mj_m_180, 130, [(8, sy_i 0), (3, sy_i (l3 + 0)), (0, .ref 234), (1, sy_i l1), (2, sy_i l2), (4, sy_i l4), (5, sy_i l5), (6, sy_i l6), (7, sy_i l7)], [], h)) mj_d_180_128 (fun _ _ => rfl) ?_
          refine sy_st (S' := (mj_m_180, 132, [(8, sy_i 0), (3, sy_i (l3 + 0)), (0, .ref 234), (1, sy_i l1), (2, sy_i l2), (4, sy_i l4), (5, sy_i l5), (6, sy_i l6), (7, sy_i l7)], [sy_i 0], h)) mj_d_180_130 (fun _ _ => rfl) ?_
          refine sy_st (S' := (mj_m_180, 134, [(8, sy_i 0), (3, sy_i (l3 + 0)), (0, .ref 234), (1, sy_i l1), (2, sy_i l2), (4, sy_i l4), (5, sy_i l5), (6, sy_i l6), (7, sy_i l7)], [sy_i l5, sy_i 0], h)) mj_d_180_132 (fun _ _ => rfl) ?_
          refine sy_icm mj_d_180_134 rfl ⟨by omega, by omega⟩ ⟨by omega, by omega⟩ (fun (c5 : 0 ≤ l5) => ?_) (fun (c5 : ¬ (0 ≤ l5)) => ?_)
          · skip
            rw [if_pos c5]
            refine sy_st (S' := (mj_m_180, 144, [(8, sy_i 0), (3, sy_i (l3 + 0)), (0, .ref 234), (1, sy_i l1), (2, sy_i l2), (4, sy_i l4), (5, sy_i l5), (6, sy_i l6), (7, sy_i l7)], [sy_i l4], h)) mj_d_180_142 (fun _ _ => rfl) ?_
            refine sy_st (S' := (mj_m_180, 146, [(4, sy_i l4), (8, sy_i 0), (3, sy_i (l3 + 0)), (0, .ref 234), (1, sy_i l1), (2, sy_i l2), (5, sy_i l5), (6, sy_i l6), (7, sy_i l7)], [], h)) mj_d_180_144 (fun _ _ => rfl) ?_
            refine sy_st (S' := (mj_m_180, 148, [(4, sy_i l4), (8, sy_i 0), (3, sy_i (l3 + 0)), (0, .ref 234), (1, sy_i l1), (2, sy_i l2), (5, sy_i l5), (6, sy_i l6), (7, sy_i l7)], [sy_i 0], h)) mj_d_180_146 (fun _ _ => rfl) ?_
            refine sy_st (S' := (mj_m_180, 150, [(4, sy_i l4), (8, sy_i 0), (3, sy_i (l3 + 0)), (0, .ref 234), (1, sy_i l1), (2, sy_i l2), (5, sy_i l5), (6, sy_i l6), (7, sy_i l7)], [sy_i l5, sy_i 0], h)) mj_d_180_148 (fun _ _ => rfl) ?_
            refine sy_icm mj_d_180_150 rfl ⟨by omega, by omega⟩ ⟨by omega, by omega⟩ (fun (c6 : 0 ≤ l5) => ?_) (fun (c6 : ¬ (0 ≤ l5)) => ?_)
            · skip
              rw [if_pos c6]
              refine sy_st (S' := (mj_m_180, 160, [(4, sy_i l4), (8, sy_i 0), (3, sy_i (l3 + 0)), (0, .ref 234), (1, sy_i l1), (2, sy_i l2), (5, sy_i l5), (6, sy_i l6), (7, sy_i l7)], [sy_i l5], h)) mj_d_180_158 (fun _ _ => rfl) ?_
              refine sy_st (S' := (mj_m_180, 162, [(5, sy_i l5), (4, sy_i l4), (8, sy_i 0), (3, sy_i (l3 + 0)), (0, .ref 234), (1, sy_i l1), (2, sy_i l2), (6, sy_i l6), (7, sy_i l7)], [], h)) mj_d_180_160 (fun _ _ => rfl) ?_
              refine sy_inc (a := l6) (lv' := [(6, sy_i (l6 + 1)), (5, sy_i l5), (4, sy_i l4), (8, sy_i 0), (3, sy_i (l3 + 0)), (0, .ref 234), (1, sy_i l1), (2, sy_i l2), (7, sy_i l7)]) mj_d_180_162 (Nat.le_of_ble_eq_true rfl) rfl rfl ?_
              refine sy_st (S' := (mj_m_180, 36, [(6, sy_i (l6 + 1)), (5, sy_i l5), (4, sy_i l4), (8, sy_i 0), (3, sy_i (l3 + 0)), (0, .ref 234), (1, sy_i l1), (2, sy_i l2), (7, sy_i l7)], [], h)) mj_d_180_165 (fun _ _ => rfl) ?_
              refine sy_lv (lv := [(0, .ref 234), (1, sy_i l1), (2, sy_i l2), (3, sy_i (l3 + 0)), (4, sy_i l4), (5, sy_i l5), (6, sy_i (l6 + 1))]) rfl ⟨rfl, rfl, rfl, rfl, rfl, rfl, rfl, trivial⟩ ?_
              exact hk36 hH (by first | omega | assumption) (by first | omega | assumption) (by first | omega | assumption) (by first | omega | assumption) (by first | omega | assumption) (by first | omega | assumption) (by first | omega | assumption) (by first | omega | assumption) (by first | omega | assumption) (by first | omega | assumption) (by first | omega | assumption) (by first | omega | assumption) (by first | omega | assumption) (by first | omega | assumption) (by omega)
            · skip
              rw [if_neg c6]
              refine sy_st (S' := (mj_m_180, 155, [(4, sy_i l4), (8, sy_i 0), (3, sy_i (l3 + 0)), (0, .ref 234), (1, sy_i l1), (2, sy_i l2), (5, sy_i l5), (6, sy_i l6), (7, sy_i l7)], [sy_i 0], h)) mj_d_180_153 (fun _ _ => rfl) ?_
              refine sy_st (S' := (mj_m_180, 160, [(4, sy_i l4), (8, sy_i 0), (3, sy_i (l3 + 0)), (0, .ref 234), (1, sy_i l1), (2, sy_i l2), (5, sy_i l5), (6, sy_i l6), (7, sy_i l7)], [sy_i 0], h)) mj_d_180_155 (fun _ _ => rfl) ?_
              refine sy_st (S' := (mj_m_180, 162, [(5, sy_i 0), (4, sy_i l4), (8, sy_i 0), (3, sy_i (l3 + 0)), (0, .ref 234), (1, sy_i l1), (2, sy_i l2), (6, sy_i l6), (7, sy_i l7)], [], h)) mj_d_180_160 (fun _ _ => rfl) ?_
              refine sy_inc (a := l6) (lv' := [(6, sy_i (l6 + 1)), (5, sy_i 0), (4, sy_i l4), (8, sy_i 0), (3, sy_i (l3 + 0)), (0, .ref 234), (1, sy_i l1), (2, sy_i l2), (7, sy_i l7)]) mj_d_180_162 (Nat.le_of_ble_eq_true rfl) rfl rfl ?_
              refine sy_st (S' := (mj_m_180, 36, [(6, sy_i (l6 + 1)), (5, sy_i 0), (4, sy_i l4), (8, sy_i 0), (3, sy_i (l3 + 0)), (0, .ref 234), (1, sy_i l1), (2, sy_i l2), (7, sy_i l7)], [], h)) mj_d_180_165 (fun _ _ => rfl) ?_
              refine sy_lv (lv := [(0, .ref 234), (1, sy_i l1), (2, sy_i l2), (3, sy_i (l3 + 0)), (4, sy_i l4), (5, sy_i 0), (6, sy_i (l6 + 1))]) rfl ⟨rfl, rfl, rfl, rfl, rfl, rfl, rfl, trivial⟩ ?_
              exact hk36 hH (by first | omega | assumption) (by first | omega | assumption) (by first | omega | assumption) (by first | omega | assumption) (by first | omega | assumption) (by first | omega | assumption) (by first | omega | assumption) (by first | omega | assumption) (by first | omega | assumption) (by first | omega | assumption) (by first | omega | assumption) (by first | omega | assumption) (by first | omega | assumption) (by first | omega | assumption) (by omega)
          · skip
            rw [if_neg c5]
            refine sy_st (S' := (mj_m_180, 139, [(8, sy_i 0), (3, sy_i (l3 + 0)), (0, .ref 234), (1, sy_i l1), (2, sy_i l2), (4, sy_i l4), (5, sy_i l5), (6, sy_i l6), (7, sy_i l7)], [sy_i l6], h)) mj_d_180_137 (fun _ _ => rfl) ?_
            refine sy_st (S' := (mj_m_180, 144, [(8, sy_i 0), (3, sy_i (l3 + 0)), (0, .ref 234), (1, sy_i l1), (2, sy_i l2), (4, sy_i l4), (5, sy_i l5), (6, sy_i l6), (7, sy_i l7)], [sy_i l6], h)) mj_d_180_139 (fun _ _ => rfl) ?_
            refine sy_st (S' := (mj_m_180, 146, [(4, sy_i l6), (8, sy_i 0), (3, sy_i (l3 + 0)), (0, .ref 234), (1, sy_i l1), (2, sy_i l2), (5, sy_i l5), (6, sy_i l6), (7, sy_i l7)], [], h)) mj_d_180_144 (fun _ _ => rfl) ?_
            refine sy_st (S' := (mj_m_180, 148, [(4, sy_i l6), (8, sy_i 0), (3, sy_i (l3 + 0)), (0, .ref 234), (1, sy_i l1), (2, sy_i l2), (5, sy_i l5), (6, sy_i l6), (7, sy_i l7)], [sy_i 0], h)) mj_d_180_146 (fun _ _ => rfl) ?_
            refine sy_st (S' := (mj_m_180, 150, [(4, sy_i l6), (8, sy_i 0), (3, sy_i (l3 + 0)), (0, .ref 234), (1, sy_i l1), (2, sy_i l2), (5, sy_i l5), (6, sy_i l6), (7, sy_i l7)], [sy_i l5, sy_i 0], h)) mj_d_180_148 (fun _ _ => rfl) ?_
            refine sy_icm mj_d_180_150 rfl ⟨by omega, by omega⟩ ⟨by omega, by omega⟩ (fun (c7 : 0 ≤ l5) => ?_) (fun (c7 : ¬ (0 ≤ l5)) => ?_)
            · skip
              rw [if_pos c7]
              refine sy_st (S' := (mj_m_180, 160, [(4, sy_i l6), (8, sy_i 0), (3, sy_i (l3 + 0)), (0, .ref 234), (1, sy_i l1), (2, sy_i l2), (5, sy_i l5), (6, sy_i l6), (7, sy_i l7)], [sy_i l5], h)) mj_d_180_158 (fun _ _ => rfl) ?_
              refine sy_st (S' := (mj_m_180, 162, [(5, sy_i l5), (4, sy_i l6), (8, sy_i 0), (3, sy_i (l3 + 0)), (0, .ref 234), (1, sy_i l1), (2, sy_i l2), (6, sy_i l6), (7, sy_i l7)], [], h)) mj_d_180_160 (fun _ _ => rfl) ?_
              refine sy_inc (a := l6) (lv' := [(6, sy_i (l6 + 1)), (5, sy_i l5), (4, sy_i l6), (8, sy_i 0), (3, sy_i (l3 + 0)), (0, .ref 234), (1, sy_i l1), (2, sy_i l2), (7, sy_i l7)]) mj_d_180_162 (Nat.le_of_ble_eq_true rfl) rfl rfl ?_
              refine sy_st (S' := (mj_m_180, 36, [(6, sy_i (l6 + 1)), (5, sy_i l5), (4, sy_i l6), (8, sy_i 0), (3, sy_i (l3 + 0)), (0, .ref 234), (1, sy_i l1), (2, sy_i l2), (7, sy_i l7)], [], h)) mj_d_180_165 (fun _ _ => rfl) ?_
              refine sy_lv (lv := [(0, .ref 234), (1, sy_i l1), (2, sy_i l2), (3, sy_i (l3 + 0)), (4, sy_i l6), (5, sy_i l5), (6, sy_i (l6 + 1))]) rfl ⟨rfl, rfl, rfl, rfl, rfl, rfl, rfl, trivial⟩ ?_
              exact hk36 hH (by first | omega | assumption) (by first | omega | assumption) (by first | omega | assumption) (by first | omega | assumption) (by first | omega | assumption) (by first | omega | assumption) (by first | omega | assumption) (by first | omega | assumption) (by first | omega | assumption) (by first | omega | assumption) (by first | omega | assumption) (by first | omega | assumption) (by first | omega | assumption) (by first | omega | assumption) (by omega)
            · skip
              rw [if_neg c7]
              refine sy_st (S' := (mj_m_180, 155, [(4, sy_i l6), (8, sy_i 0), (3, sy_i (l3 + 0)), (0, .ref 234), (1, sy_i l1), (2, sy_i l2), (5, sy_i l5), (6, sy_i l6), (7, sy_i l7)], [sy_i 0], h)) mj_d_180_153 (fun _ _ => rfl) ?_
              refine sy_st (S' := (mj_m_180, 160, [(4, sy_i l6), (8, sy_i 0), (3, sy_i (l3 + 0)), (0, .ref 234), (1, sy_i l1), (2, sy_i l2), (5, sy_i l5), (6, sy_i l6), (7, sy_i l7)], [sy_i 0], h)) mj_d_180_155 (fun _ _ => rfl) ?_
              refine sy_st (S' := (mj_m_180, 162, [(5, sy_i 0), (4, sy_i l6), (8, sy_i 0), (3, sy_i (l3 + 0)), (0, .ref 234), (1, sy_i l1), (2, sy_i l2), (6, sy_i l6), (7, sy_i l7)], [], h)) mj_d_180_160 (fun _ _ => rfl) ?_
              refine sy_inc (a := l6) (lv' := [(6, sy_i (l6 + 1)), (5, sy_i 0), (4, sy_i l6), (8, sy_i 0), (3, sy_i (l3 + 0)), (0, .ref 234), (1, sy_i l1), (2, sy_i l2), (7, sy_i l7)]) mj_d_180_162 (Nat.le_of_ble_eq_true rfl) rfl rfl ?_
              refine sy_st (S' := (mj_m_180, 36, [(6, sy_i (l6 + 1)), (5, sy_i 0), (4, sy_i l6), (8, sy_i 0), (3, sy_i (l3 + 0)), (0, .ref 234), (1, sy_i l1), (2, sy_i l2), (7, sy_i l7)], [], h)) mj_d_180_165 (fun _ _ => rfl) ?_
              refine sy_lv (lv := [(0, .ref 234), (1, sy_i l1), (2, sy_i l2), (3, sy_i (l3 + 0)), (4, sy_i l6), (5, sy_i 0), (6, sy_i (l6 + 1))]) rfl ⟨rfl, rfl, rfl, rfl, rfl, rfl, rfl, trivial⟩ ?_
              exact hk36 hH (by first | omega | assumption) (by first | omega | assumption) (by first | omega | assumption) (by first | omega | assumption) (by first | omega | assumption) (by first | omega | assumption) (by first | omega | assumption) (by first | omega | assumption) (by first | omega | assumption) (by first | omega | assumption) (by first | omega | assumption) (by first | omega | assumption) (by first | omega | assumption) (by first | omega | assumption) (by omega)
        · skip
          rw [if_pos (Decidable.not_not.mp c4)]
          replace c4 := Decidable.not_not.mp c4
          refine sy_st (S' := (mj_m_180, 116, [(3, sy_i (l3 + 0)), (0, .ref 234), (1, sy_i l1), (2, sy_i l2), (4, sy_i l4), (5, sy_i l5), (6, sy_i l6), (7, sy_i l7), (8, sy_i l8)], [.ref 234], h)) mj_d_180_115 (fun _ _ => rfl) ?_
          refine sy_st (S' := (mj_m_180, 118, [(3, sy_i (l3 + 0)), (0, .ref 234), (1, sy_i l1), (2, sy_i l2), (4, sy_i l4), (5, sy_i l5), (6, sy_i l6), (7, sy_i l7), (8, sy_i l8)], [sy_i l6, .ref 234], h)) mj_d_180_116 (fun _ _ => rfl) ?_
          refine sy_cv (M' := mj_m_170) (vs := [.ref 234, sy_i l6]) (rest := []) mj_d_180_118 rfl rfl rfl rfl hH rfl rfl ⟨by decide, ⟨Nat.le_of_ble_eq_true rfl, Nat.le_of_ble_eq_true rfl, Nat.le_of_ble_eq_true rfl, Nat.le_of_ble_eq_true rfl, Nat.le_of_ble_eq_true rfl⟩⟩ (dt_R_sootOf (a1 := l6) hH (by omega) (by omega) (by first | omega | assumption)) ?_
          rintro _ _ ⟨rfl, rfl, b8, b8t⟩
          show sy_wp (mj_m_180, 121, [(3, sy_i (l3 + 0)), (0, .ref 234), (1, sy_i l1), (2, sy_i l2), (4, sy_i l4), (5, sy_i l5), (6, sy_i l6), (7, sy_i l7), (8, sy_i l8)], [sy_i (dc_R_sootOf (sy_rd h) l6)], h) _
          refine sy_cs (M' := mj_m_176) (vs := [sy_i (dc_R_sootOf (sy_rd h) l6)]) (rest := []) mj_d_180_121 rfl rfl rfl rfl ⟨Nat.le_of_ble_eq_true rfl, Nat.le_of_ble_eq_true rfl, Nat.le_of_ble_eq_true rfl, Nat.le_of_ble_eq_true rfl, Nat.le_of_ble_eq_true rfl⟩ (dt_R_ones (a0 := (dc_R_sootOf (sy_rd h) l6)) hH (by omega) (by omega)) ?_
          rintro _ _ ⟨rfl, rfl, b9, b9t⟩
          show sy_wp (mj_m_180, 124, [(3, sy_i (l3 + 0)), (0, .ref 234), (1, sy_i l1), (2, sy_i l2), (4, sy_i l4), (5, sy_i l5), (6, sy_i l6), (7, sy_i l7), (8, sy_i l8)], [sy_i (dc_R_ones (sy_rd h) (dc_R_sootOf (sy_rd h) l6))], h) _
          refine sy_st (S' := (mj_m_180, 128, [(3, sy_i (l3 + 0)), (0, .ref 234), (1, sy_i l1), (2, sy_i l2), (4, sy_i l4), (5, sy_i l5), (6, sy_i l6), (7, sy_i l7), (8, sy_i l8)], [sy_i (dc_R_ones (sy_rd h) (dc_R_sootOf (sy_rd h) l6))], h)) mj_d_180_124 (fun _ _ => rfl) ?_
          refine sy_st (S' := (mj_m_180, 130, [(8, sy_i (dc_R_ones (sy_rd h) (dc_R_sootOf (sy_rd h) l6))), (3, sy_i (l3 + 0)), (0, .ref 234), (1, sy_i l1), (2, sy_i l2), (4, sy_i l4), (5, sy_i l5), (6, sy_i l6), (7, sy_i l7)], [], h)) mj_d_180_128 (fun _ _ => rfl) ?_
          refine sy_st (S' := (mj_m_180, 132, [(8, sy_i (dc_R_ones (sy_rd h) (dc_R_sootOf (sy_rd h) l6))), (3, sy_i (l3 + 0)), (0, .ref 234), (1, sy_i l1), (2, sy_i l2), (4, sy_i l4), (5, sy_i l5), (6, sy_i l6), (7, sy_i l7)], [sy_i (dc_R_ones (sy_rd h) (dc_R_sootOf (sy_rd h) l6))], h)) mj_d_180_130 (fun _ _ => rfl) ?_
          refine sy_st (S' := (mj_m_180, 134, [(8, sy_i (dc_R_ones (sy_rd h) (dc_R_sootOf (sy_rd h) l6))), (3, sy_i (l3 + 0)), (0, .ref 234), (1, sy_i l1), (2, sy_i l2), (4, sy_i l4), (5, sy_i l5), (6, sy_i l6), (7, sy_i l7)], [sy_i l5, sy_i (dc_R_ones (sy_rd h) (dc_R_sootOf (sy_rd h) l6))], h)) mj_d_180_132 (fun _ _ => rfl) ?_
          refine sy_icm mj_d_180_134 rfl ⟨by omega, by omega⟩ ⟨by omega, by omega⟩ (fun (c10 : (dc_R_ones (sy_rd h) (dc_R_sootOf (sy_rd h) l6)) ≤ l5) => ?_) (fun (c10 : ¬ ((dc_R_ones (sy_rd h) (dc_R_sootOf (sy_rd h) l6)) ≤ l5)) => ?_)
          · skip
            rw [if_pos c10]
            refine sy_st (S' := (mj_m_180, 144, [(8, sy_i (dc_R_ones (sy_rd h) (dc_R_sootOf (sy_rd h) l6))), (3, sy_i (l3 + 0)), (0, .ref 234), (1, sy_i l1), (2, sy_i l2), (4, sy_i l4), (5, sy_i l5), (6, sy_i l6), (7, sy_i l7)], [sy_i l4], h)) mj_d_180_142 (fun _ _ => rfl) ?_
            refine sy_st (S' := (mj_m_180, 146, [(4, sy_i l4), (8, sy_i (dc_R_ones (sy_rd h) (dc_R_sootOf (sy_rd h) l6))), (3, sy_i (l3 + 0)), (0, .ref 234), (1, sy_i l1), (2, sy_i l2), (5, sy_i l5), (6, sy_i l6), (7, sy_i l7)], [], h)) mj_d_180_144 (fun _ _ => rfl) ?_
            refine sy_st (S' := (mj_m_180, 148, [(4, sy_i l4), (8, sy_i (dc_R_ones (sy_rd h) (dc_R_sootOf (sy_rd h) l6))), (3, sy_i (l3 + 0)), (0, .ref 234), (1, sy_i l1), (2, sy_i l2), (5, sy_i l5), (6, sy_i l6), (7, sy_i l7)], [sy_i (dc_R_ones (sy_rd h) (dc_R_sootOf (sy_rd h) l6))], h)) mj_d_180_146 (fun _ _ => rfl) ?_
            refine sy_st (S' := (mj_m_180, 150, [(4, sy_i l4), (8, sy_i (dc_R_ones (sy_rd h) (dc_R_sootOf (sy_rd h) l6))), (3, sy_i (l3 + 0)), (0, .ref 234), (1, sy_i l1), (2, sy_i l2), (5, sy_i l5), (6, sy_i l6), (7, sy_i l7)], [sy_i l5, sy_i (dc_R_ones (sy_rd h) (dc_R_sootOf (sy_rd h) l6))], h)) mj_d_180_148 (fun _ _ => rfl) ?_
            refine sy_icm mj_d_180_150 rfl ⟨by omega, by omega⟩ ⟨by omega, by omega⟩ (fun (c11 : (dc_R_ones (sy_rd h) (dc_R_sootOf (sy_rd h) l6)) ≤ l5) => ?_) (fun (c11 : ¬ ((dc_R_ones (sy_rd h) (dc_R_sootOf (sy_rd h) l6)) ≤ l5)) => ?_)
            · skip
              rw [if_pos c11]
              refine sy_st (S' := (mj_m_180, 160, [(4, sy_i l4), (8, sy_i (dc_R_ones (sy_rd h) (dc_R_sootOf (sy_rd h) l6))), (3, sy_i (l3 + 0)), (0, .ref 234), (1, sy_i l1), (2, sy_i l2), (5, sy_i l5), (6, sy_i l6), (7, sy_i l7)], [sy_i l5], h)) mj_d_180_158 (fun _ _ => rfl) ?_
              refine sy_st (S' := (mj_m_180, 162, [(5, sy_i l5), (4, sy_i l4), (8, sy_i (dc_R_ones (sy_rd h) (dc_R_sootOf (sy_rd h) l6))), (3, sy_i (l3 + 0)), (0, .ref 234), (1, sy_i l1), (2, sy_i l2), (6, sy_i l6), (7, sy_i l7)], [], h)) mj_d_180_160 (fun _ _ => rfl) ?_
              refine sy_inc (a := l6) (lv' := [(6, sy_i (l6 + 1)), (5, sy_i l5), (4, sy_i l4), (8, sy_i (dc_R_ones (sy_rd h) (dc_R_sootOf (sy_rd h) l6))), (3, sy_i (l3 + 0)), (0, .ref 234), (1, sy_i l1), (2, sy_i l2), (7, sy_i l7)]) mj_d_180_162 (Nat.le_of_ble_eq_true rfl) rfl rfl ?_
              refine sy_st (S' := (mj_m_180, 36, [(6, sy_i (l6 + 1)), (5, sy_i l5), (4, sy_i l4), (8, sy_i (dc_R_ones (sy_rd h) (dc_R_sootOf (sy_rd h) l6))), (3, sy_i (l3 + 0)), (0, .ref 234), (1, sy_i l1), (2, sy_i l2), (7, sy_i l7)], [], h)) mj_d_180_165 (fun _ _ => rfl) ?_
              refine sy_lv (lv := [(0, .ref 234), (1, sy_i l1), (2, sy_i l2), (3, sy_i (l3 + 0)), (4, sy_i l4), (5, sy_i l5), (6, sy_i (l6 + 1))]) rfl ⟨rfl, rfl, rfl, rfl, rfl, rfl, rfl, trivial⟩ ?_
              exact hk36 hH (by first | omega | assumption) (by first | omega | assumption) (by first | omega | assumption) (by first | omega | assumption) (by first | omega | assumption) (by first | omega | assumption) (by first | omega | assumption) (by first | omega | assumption) (by first | omega | assumption) (by first | omega | assumption) (by first | omega | assumption) (by first | omega | assumption) (by first | omega | assumption) (by first | omega | assumption) (by omega)
            · skip
              rw [if_neg c11]
              refine sy_st (S' := (mj_m_180, 155, [(4, sy_i l4), (8, sy_i (dc_R_ones (sy_rd h) (dc_R_sootOf (sy_rd h) l6))), (3, sy_i (l3 + 0)), (0, .ref 234), (1, sy_i l1), (2, sy_i l2), (5, sy_i l5), (6, sy_i l6), (7, sy_i l7)], [sy_i (dc_R_ones (sy_rd h) (dc_R_sootOf (sy_rd h) l6))], h)) mj_d_180_153 (fun _ _ => rfl) ?_
              refine sy_st (S' := (mj_m_180, 160, [(4, sy_i l4), (8, sy_i (dc_R_ones (sy_rd h) (dc_R_sootOf (sy_rd h) l6))), (3, sy_i (l3 + 0)), (0, .ref 234), (1, sy_i l1), (2, sy_i l2), (5, sy_i l5), (6, sy_i l6), (7, sy_i l7)], [sy_i (dc_R_ones (sy_rd h) (dc_R_sootOf (sy_rd h) l6))], h)) mj_d_180_155 (fun _ _ => rfl) ?_
              refine sy_st (S' := (mj_m_180, 162, [(5, sy_i (dc_R_ones (sy_rd h) (dc_R_sootOf (sy_rd h) l6))), (4, sy_i l4), (8, sy_i (dc_R_ones (sy_rd h) (dc_R_sootOf (sy_rd h) l6))), (3, sy_i (l3 + 0)), (0, .ref 234), (1, sy_i l1), (2, sy_i l2), (6, sy_i l6), (7, sy_i l7)], [], h)) mj_d_180_160 (fun _ _ => rfl) ?_
              refine sy_inc (a := l6) (lv' := [(6, sy_i (l6 + 1)), (5, sy_i (dc_R_ones (sy_rd h) (dc_R_sootOf (sy_rd h) l6))), (4, sy_i l4), (8, sy_i (dc_R_ones (sy_rd h) (dc_R_sootOf (sy_rd h) l6))), (3, sy_i (l3 + 0)), (0, .ref 234), (1, sy_i l1), (2, sy_i l2), (7, sy_i l7)]) mj_d_180_162 (Nat.le_of_ble_eq_true rfl) rfl rfl ?_
              refine sy_st (S' := (mj_m_180, 36, [(6, sy_i (l6 + 1)), (5, sy_i (dc_R_ones (sy_rd h) (dc_R_sootOf (sy_rd h) l6))), (4, sy_i l4), (8, sy_i (dc_R_ones (sy_rd h) (dc_R_sootOf (sy_rd h) l6))), (3, sy_i (l3 + 0)), (0, .ref 234), (1, sy_i l1), (2, sy_i l2), (7, sy_i l7)], [], h)) mj_d_180_165 (fun _ _ => rfl) ?_
              refine sy_lv (lv := [(0, .ref 234), (1, sy_i l1), (2, sy_i l2), (3, sy_i (l3 + 0)), (4, sy_i l4), (5, sy_i (dc_R_ones (sy_rd h) (dc_R_sootOf (sy_rd h) l6))), (6, sy_i (l6 + 1))]) rfl ⟨rfl, rfl, rfl, rfl, rfl, rfl, rfl, trivial⟩ ?_
              exact hk36 hH (by first | omega | assumption) (by first | omega | assumption) (by first | omega | assumption) (by first | omega | assumption) (by first | omega | assumption) (by first | omega | assumption) (by first | omega | assumption) (by first | omega | assumption) (by first | omega | assumption) (by first | omega | assumption) (by first | omega | assumption) (by first | omega | assumption) (by first | omega | assumption) (by first | omega | assumption) (by omega)
          · skip
            rw [if_neg c10]
            refine sy_st (S' := (mj_m_180, 139, [(8, sy_i (dc_R_ones (sy_rd h) (dc_R_sootOf (sy_rd h) l6))), (3, sy_i (l3 + 0)), (0, .ref 234), (1, sy_i l1), (2, sy_i l2), (4, sy_i l4), (5, sy_i l5), (6, sy_i l6), (7, sy_i l7)], [sy_i l6], h)) mj_d_180_137 (fun _ _ => rfl) ?_
            refine sy_st (S' := (mj_m_180, 144, [(8, sy_i (dc_R_ones (sy_rd h) (dc_R_sootOf (sy_rd h) l6))), (3, sy_i (l3 + 0)), (0, .ref 234), (1, sy_i l1), (2, sy_i l2), (4, sy_i l4), (5, sy_i l5), (6, sy_i l6), (7, sy_i l7)], [sy_i l6], h)) mj_d_180_139 (fun _ _ => rfl) ?_
            refine sy_st (S' := (mj_m_180, 146, [(4, sy_i l6), (8, sy_i (dc_R_ones (sy_rd h) (dc_R_sootOf (sy_rd h) l6))), (3, sy_i (l3 + 0)), (0, .ref 234), (1, sy_i l1), (2, sy_i l2), (5, sy_i l5), (6, sy_i l6), (7, sy_i l7)], [], h)) mj_d_180_144 (fun _ _ => rfl) ?_
            refine sy_st (S' := (mj_m_180, 148, [(4, sy_i l6), (8, sy_i (dc_R_ones (sy_rd h) (dc_R_sootOf (sy_rd h) l6))), (3, sy_i (l3 + 0)), (0, .ref 234), (1, sy_i l1), (2, sy_i l2), (5, sy_i l5), (6, sy_i l6), (7, sy_i l7)], [sy_i (dc_R_ones (sy_rd h) (dc_R_sootOf (sy_rd h) l6))], h)) mj_d_180_146 (fun _ _ => rfl) ?_
            refine sy_st (S' := (mj_m_180, 150, [(4, sy_i l6), (8, sy_i (dc_R_ones (sy_rd h) (dc_R_sootOf (sy_rd h) l6))), (3, sy_i (l3 + 0)), (0, .ref 234), (1, sy_i l1), (2, sy_i l2), (5, sy_i l5), (6, sy_i l6), (7, sy_i l7)], [sy_i l5, sy_i (dc_R_ones (sy_rd h) (dc_R_sootOf (sy_rd h) l6))], h)) mj_d_180_148 (fun _ _ => rfl) ?_
            refine sy_icm mj_d_180_150 rfl ⟨by omega, by omega⟩ ⟨by omega, by omega⟩ (fun (c12 : (dc_R_ones (sy_rd h) (dc_R_sootOf (sy_rd h) l6)) ≤ l5) => ?_) (fun (c12 : ¬ ((dc_R_ones (sy_rd h) (dc_R_sootOf (sy_rd h) l6)) ≤ l5)) => ?_)
            · skip
              rw [if_pos c12]
              refine sy_st (S' := (mj_m_180, 160, [(4, sy_i l6), (8, sy_i (dc_R_ones (sy_rd h) (dc_R_sootOf (sy_rd h) l6))), (3, sy_i (l3 + 0)), (0, .ref 234), (1, sy_i l1), (2, sy_i l2), (5, sy_i l5), (6, sy_i l6), (7, sy_i l7)], [sy_i l5], h)) mj_d_180_158 (fun _ _ => rfl) ?_
              refine sy_st (S' := (mj_m_180, 162, [(5, sy_i l5), (4, sy_i l6), (8, sy_i (dc_R_ones (sy_rd h) (dc_R_sootOf (sy_rd h) l6))), (3, sy_i (l3 + 0)), (0, .ref 234), (1, sy_i l1), (2, sy_i l2), (6, sy_i l6), (7, sy_i l7)], [], h)) mj_d_180_160 (fun _ _ => rfl) ?_
              refine sy_inc (a := l6) (lv' := [(6, sy_i (l6 + 1)), (5, sy_i l5), (4, sy_i l6), (8, sy_i (dc_R_ones (sy_rd h) (dc_R_sootOf (sy_rd h) l6))), (3, sy_i (l3 + 0)), (0, .ref 234), (1, sy_i l1), (2, sy_i l2), (7, sy_i l7)]) mj_d_180_162 (Nat.le_of_ble_eq_true rfl) rfl rfl ?_
              refine sy_st (S' := (mj_m_180, 36, [(6, sy_i (l6 + 1)), (5, sy_i l5), (4, sy_i l6), (8, sy_i (dc_R_ones (sy_rd h) (dc_R_sootOf (sy_rd h) l6))), (3, sy_i (l3 + 0)), (0, .ref 234), (1, sy_i l1), (2, sy_i l2), (7, sy_i l7)], [], h)) mj_d_180_165 (fun _ _ => rfl) ?_
              refine sy_lv (lv := [(0, .ref 234), (1, sy_i l1), (2, sy_i l2), (3, sy_i (l3 + 0)), (4, sy_i l6), (5, sy_i l5), (6, sy_i (l6 + 1))]) rfl ⟨rfl, rfl, rfl, rfl, rfl, rfl, rfl, trivial⟩ ?_
              exact hk36 hH (by first | omega | assumption) (by first | omega | assumption) (by first | omega | assumption) (by first | omega | assumption) (by first | omega | assumption) (by first | omega | assumption) (by first | omega | assumption) (by first | omega | assumption) (by first | omega | assumption) (by first | omega | assumption) (by first | omega | assumption) (by first | omega | assumption) (by first | omega | assumption) (by first | omega | assumption) (by omega)
            · skip
              rw [if_neg c12]
              refine sy_st (S' := (mj_m_180, 155, [(4, sy_i l6), (8, sy_i (dc_R_ones (sy_rd h) (dc_R_sootOf (sy_rd h) l6))), (3, sy_i (l3 + 0)), (0, .ref 234), (1, sy_i l1), (2, sy_i l2), (5, sy_i l5), (6, sy_i l6), (7, sy_i l7)], [sy_i (dc_R_ones (sy_rd h) (dc_R_sootOf (sy_rd h) l6))], h)) mj_d_180_153 (fun _ _ => rfl) ?_
              refine sy_st (S' := (mj_m_180, 160, [(4, sy_i l6), (8, sy_i (dc_R_ones (sy_rd h) (dc_R_sootOf (sy_rd h) l6))), (3, sy_i (l3 + 0)), (0, .ref 234), (1, sy_i l1), (2, sy_i l2), (5, sy_i l5), (6, sy_i l6), (7, sy_i l7)], [sy_i (dc_R_ones (sy_rd h) (dc_R_sootOf (sy_rd h) l6))], h)) mj_d_180_155 (fun _ _ => rfl) ?_
              refine sy_st (S' := (mj_m_180, 162, [(5, sy_i (dc_R_ones (sy_rd h) (dc_R_sootOf (sy_rd h) l6))), (4, sy_i l6), (8, sy_i (dc_R_ones (sy_rd h) (dc_R_sootOf (sy_rd h) l6))), (3, sy_i (l3 + 0)), (0, .ref 234), (1, sy_i l1), (2, sy_i l2), (6, sy_i l6), (7, sy_i l7)], [], h)) mj_d_180_160 (fun _ _ => rfl) ?_
              refine sy_inc (a := l6) (lv' := [(6, sy_i (l6 + 1)), (5, sy_i (dc_R_ones (sy_rd h) (dc_R_sootOf (sy_rd h) l6))), (4, sy_i l6), (8, sy_i (dc_R_ones (sy_rd h) (dc_R_sootOf (sy_rd h) l6))), (3, sy_i (l3 + 0)), (0, .ref 234), (1, sy_i l1), (2, sy_i l2), (7, sy_i l7)]) mj_d_180_162 (Nat.le_of_ble_eq_true rfl) rfl rfl ?_
              refine sy_st (S' := (mj_m_180, 36, [(6, sy_i (l6 + 1)), (5, sy_i (dc_R_ones (sy_rd h) (dc_R_sootOf (sy_rd h) l6))), (4, sy_i l6), (8, sy_i (dc_R_ones (sy_rd h) (dc_R_sootOf (sy_rd h) l6))), (3, sy_i (l3 + 0)), (0, .ref 234), (1, sy_i l1), (2, sy_i l2), (7, sy_i l7)], [], h)) mj_d_180_165 (fun _ _ => rfl) ?_
              refine sy_lv (lv := [(0, .ref 234), (1, sy_i l1), (2, sy_i l2), (3, sy_i (l3 + 0)), (4, sy_i l6), (5, sy_i (dc_R_ones (sy_rd h) (dc_R_sootOf (sy_rd h) l6))), (6, sy_i (l6 + 1))]) rfl ⟨rfl, rfl, rfl, rfl, rfl, rfl, rfl, trivial⟩ ?_
              exact hk36 hH (by first | omega | assumption) (by first | omega | assumption) (by first | omega | assumption) (by first | omega | assumption) (by first | omega | assumption) (by first | omega | assumption) (by first | omega | assumption) (by first | omega | assumption) (by first | omega | assumption) (by first | omega | assumption) (by first | omega | assumption) (by first | omega | assumption) (by first | omega | assumption) (by first | omega | assumption) (by omega)
      · skip
        rw [if_neg c2]
        refine sy_st (S' := (mj_m_180, 96, [(0, .ref 234), (1, sy_i l1), (2, sy_i l2), (3, sy_i l3), (4, sy_i l4), (5, sy_i l5), (6, sy_i l6), (7, sy_i l7), (8, sy_i l8)], [sy_i 1, sy_i l3], h)) mj_d_180_95 (fun _ _ => rfl) ?_
        refine sy_st (S' := (mj_m_180, 100, [(0, .ref 234), (1, sy_i l1), (2, sy_i l2), (3, sy_i l3), (4, sy_i l4), (5, sy_i l5), (6, sy_i l6), (7, sy_i l7), (8, sy_i l8)], [sy_i 1, sy_i l3], h)) mj_d_180_96 (fun _ _ => rfl) ?_
        refine sy_add mj_d_180_100 ?_
        refine sy_st (S' := (mj_m_180, 102, [(3, sy_i (l3 + 1)), (0, .ref 234), (1, sy_i l1), (2, sy_i l2), (4, sy_i l4), (5, sy_i l5), (6, sy_i l6), (7, sy_i l7), (8, sy_i l8)], [], h)) mj_d_180_101 (fun _ _ => rfl) ?_
        refine sy_st (S' := (mj_m_180, 103, [(3, sy_i (l3 + 1)), (0, .ref 234), (1, sy_i l1), (2, sy_i l2), (4, sy_i l4), (5, sy_i l5), (6, sy_i l6), (7, sy_i l7), (8, sy_i l8)], [.ref 234], h)) mj_d_180_102 (fun _ _ => rfl) ?_
        refine sy_gr2 (b := 235) mj_d_180_103 rfl rfl (by decide) rfl rfl hH ?_
        refine sy_st (S' := (mj_m_180, 107, [(3, sy_i (l3 + 1)), (0, .ref 234), (1, sy_i l1), (2, sy_i l2), (4, sy_i l4), (5, sy_i l5), (6, sy_i l6), (7, sy_i l7), (8, sy_i l8)], [sy_i 2, .ref 235], h)) mj_d_180_106 (fun _ _ => rfl) ?_
        refine sy_st (S' := (mj_m_180, 109, [(3, sy_i (l3 + 1)), (0, .ref 234), (1, sy_i l1), (2, sy_i l2), (4, sy_i l4), (5, sy_i l5), (6, sy_i l6), (7, sy_i l7), (8, sy_i l8)], [sy_i l6, sy_i 2, .ref 235], h)) mj_d_180_107 (fun _ _ => rfl) ?_
        refine sy_add mj_d_180_109 ?_
        refine sg_iaN (lo := 0) (hi := 7) 2 11 (by decide) mj_d_180_110 (by omega) (by omega) (by omega) (by omega) hH ?_
        rintro _ rfl bx13 tx13
        refine sy_st (S' := (mj_m_180, 112, [(3, sy_i (l3 + 1)), (0, .ref 234), (1, sy_i l1), (2, sy_i l2), (4, sy_i l4), (5, sy_i l5), (6, sy_i l6), (7, sy_i l7), (8, sy_i l8)], [sy_i l1, sy_i (sy_rd h 235 ((2 + l6).toNat))], h)) mj_d_180_111 (fun _ _ => rfl) ?_
        refine sy_icm mj_d_180_112 rfl ⟨by omega, by omega⟩ ⟨by omega, by omega⟩ (fun (c14 : ¬ ((sy_rd h 235 ((2 + l6).toNat)) = l1)) => ?_) (fun (c14 : ¬ ¬ ((sy_rd h 235 ((2 + l6).toNat)) = l1)) => ?_)
        · skip
          rw [if_neg c14]
          refine sy_st (S' := (mj_m_180, 128, [(3, sy_i (l3 + 1)), (0, .ref 234), (1, sy_i l1), (2, sy_i l2), (4, sy_i l4), (5, sy_i l5), (6, sy_i l6), (7, sy_i l7), (8, sy_i l8)], [sy_i 0], h)) mj_d_180_127 (fun _ _ => rfl) ?_
          refine sy_st (S' := (mj_m_180, 130, [(8, sy_i 0), (3, sy_i (l3 + 1)), (0, .ref 234), (1, sy_i l1), (2, sy_i l2), (4, sy_i l4), (5, sy_i l5), (6, sy_i l6), (7, sy_i l7)], [], h)) mj_d_180_128 (fun _ _ => rfl) ?_
          refine sy_st (S' := (mj_m_180, 132, [(8, sy_i 0), (3, sy_i (l3 + 1)), (0, .ref 234), (1, sy_i l1), (2, sy_i l2), (4, sy_i l4), (5, sy_i l5), (6, sy_i l6), (7, sy_i l7)], [sy_i 0], h)) mj_d_180_130 (fun _ _ => rfl) ?_
          refine sy_st (S' := (mj_m_180, 134, [(8, sy_i 0), (3, sy_i (l3 + 1)), (0, .ref 234), (1, sy_i l1), (2, sy_i l2), (4, sy_i l4), (5, sy_i l5), (6, sy_i l6), (7, sy_i l7)], [sy_i l5, sy_i 0], h)) mj_d_180_132 (fun _ _ => rfl) ?_
          refine sy_icm mj_d_180_134 rfl ⟨by omega, by omega⟩ ⟨by omega, by omega⟩ (fun (c15 : 0 ≤ l5) => ?_) (fun (c15 : ¬ (0 ≤ l5)) => ?_)
          · skip
            rw [if_pos c15]
            refine sy_st (S' := (mj_m_180, 144, [(8, sy_i 0), (3, sy_i (l3 + 1)), (0, .ref 234), (1, sy_i l1), (2, sy_i l2), (4, sy_i l4), (5, sy_i l5), (6, sy_i l6), (7, sy_i l7)], [sy_i l4], h)) mj_d_180_142 (fun _ _ => rfl) ?_
            refine sy_st (S' := (mj_m_180, 146, [(4, sy_i l4), (8, sy_i 0), (3, sy_i (l3 + 1)), (0, .ref 234), (1, sy_i l1), (2, sy_i l2), (5, sy_i l5), (6, sy_i l6), (7, sy_i l7)], [], h)) mj_d_180_144 (fun _ _ => rfl) ?_
            refine sy_st (S' := (mj_m_180, 148, [(4, sy_i l4), (8, sy_i 0), (3, sy_i (l3 + 1)), (0, .ref 234), (1, sy_i l1), (2, sy_i l2), (5, sy_i l5), (6, sy_i l6), (7, sy_i l7)], [sy_i 0], h)) mj_d_180_146 (fun _ _ => rfl) ?_
            refine sy_st (S' := (mj_m_180, 150, [(4, sy_i l4), (8, sy_i 0), (3, sy_i (l3 + 1)), (0, .ref 234), (1, sy_i l1), (2, sy_i l2), (5, sy_i l5), (6, sy_i l6), (7, sy_i l7)], [sy_i l5, sy_i 0], h)) mj_d_180_148 (fun _ _ => rfl) ?_
            refine sy_icm mj_d_180_150 rfl ⟨by omega, by omega⟩ ⟨by omega, by omega⟩ (fun (c16 : 0 ≤ l5) => ?_) (fun (c16 : ¬ (0 ≤ l5)) => ?_)
            · skip
              rw [if_pos c16]
              refine sy_st (S' := (mj_m_180, 160, [(4, sy_i l4), (8, sy_i 0), (3, sy_i (l3 + 1)), (0, .ref 234), (1, sy_i l1), (2, sy_i l2), (5, sy_i l5), (6, sy_i l6), (7, sy_i l7)], [sy_i l5], h)) mj_d_180_158 (fun _ _ => rfl) ?_
              refine sy_st (S' := (mj_m_180, 162, [(5, sy_i l5), (4, sy_i l4), (8, sy_i 0), (3, sy_i (l3 + 1)), (0, .ref 234), (1, sy_i l1), (2, sy_i l2), (6, sy_i l6), (7, sy_i l7)], [], h)) mj_d_180_160 (fun _ _ => rfl) ?_
              refine sy_inc (a := l6) (lv' := [(6, sy_i (l6 + 1)), (5, sy_i l5), (4, sy_i l4), (8, sy_i 0), (3, sy_i (l3 + 1)), (0, .ref 234), (1, sy_i l1), (2, sy_i l2), (7, sy_i l7)]) mj_d_180_162 (Nat.le_of_ble_eq_true rfl) rfl rfl ?_
              refine sy_st (S' := (mj_m_180, 36, [(6, sy_i (l6 + 1)), (5, sy_i l5), (4, sy_i l4), (8, sy_i 0), (3, sy_i (l3 + 1)), (0, .ref 234), (1, sy_i l1), (2, sy_i l2), (7, sy_i l7)], [], h)) mj_d_180_165 (fun _ _ => rfl) ?_
              refine sy_lv (lv := [(0, .ref 234), (1, sy_i l1), (2, sy_i l2), (3, sy_i (l3 + 1)), (4, sy_i l4), (5, sy_i l5), (6, sy_i (l6 + 1))]) rfl ⟨rfl, rfl, rfl, rfl, rfl, rfl, rfl, trivial⟩ ?_
              exact hk36 hH (by first | omega | assumption) (by first | omega | assumption) (by first | omega | assumption) (by first | omega | assumption) (by first | omega | assumption) (by first | omega | assumption) (by first | omega | assumption) (by first | omega | assumption) (by first | omega | assumption) (by first | omega | assumption) (by first | omega | assumption) (by first | omega | assumption) (by first | omega | assumption) (by first | omega | assumption) (by omega)
            · skip
              rw [if_neg c16]
              refine sy_st (S' := (mj_m_180, 155, [(4, sy_i l4), (8, sy_i 0), (3, sy_i (l3 + 1)), (0, .ref 234), (1, sy_i l1), (2, sy_i l2), (5, sy_i l5), (6, sy_i l6), (7, sy_i l7)], [sy_i 0], h)) mj_d_180_153 (fun _ _ => rfl) ?_
              refine sy_st (S' := (mj_m_180, 160, [(4, sy_i l4), (8, sy_i 0), (3, sy_i (l3 + 1)), (0, .ref 234), (1, sy_i l1), (2, sy_i l2), (5, sy_i l5), (6, sy_i l6), (7, sy_i l7)], [sy_i 0], h)) mj_d_180_155 (fun _ _ => rfl) ?_
              refine sy_st (S' := (mj_m_180, 162, [(5, sy_i 0), (4, sy_i l4), (8, sy_i 0), (3, sy_i (l3 + 1)), (0, .ref 234), (1, sy_i l1), (2, sy_i l2), (6, sy_i l6), (7, sy_i l7)], [], h)) mj_d_180_160 (fun _ _ => rfl) ?_
              refine sy_inc (a := l6) (lv' := [(6, sy_i (l6 + 1)), (5, sy_i 0), (4, sy_i l4), (8, sy_i 0), (3, sy_i (l3 + 1)), (0, .ref 234), (1, sy_i l1), (2, sy_i l2), (7, sy_i l7)]) mj_d_180_162 (Nat.le_of_ble_eq_true rfl) rfl rfl ?_
              refine sy_st (S' := (mj_m_180, 36, [(6, sy_i (l6 + 1)), (5, sy_i 0), (4, sy_i l4), (8, sy_i 0), (3, sy_i (l3 + 1)), (0, .ref 234), (1, sy_i l1), (2, sy_i l2), (7, sy_i l7)], [], h)) mj_d_180_165 (fun _ _ => rfl) ?_
              refine sy_lv (lv := [(0, .ref 234), (1, sy_i l1), (2, sy_i l2), (3, sy_i (l3 + 1)), (4, sy_i l4), (5, sy_i 0), (6, sy_i (l6 + 1))]) rfl ⟨rfl, rfl, rfl, rfl, rfl, rfl, rfl, trivial⟩ ?_
              exact hk36 hH (by first | omega | assumption) (by first | omega | assumption) (by first | omega | assumption) (by first | omega | assumption) (by first | omega | assumption) (by first | omega | assumption) (by first | omega | assumption) (by first | omega | assumption) (by first | omega | assumption) (by first | omega | assumption) (by first | omega | assumption) (by first | omega | assumption) (by first | omega | assumption) (by first | omega | assumption) (by omega)
          · skip
            rw [if_neg c15]
            refine sy_st (S' := (mj_m_180, 139, [(8, sy_i 0), (3, sy_i (l3 + 1)), (0, .ref 234), (1, sy_i l1), (2, sy_i l2), (4, sy_i l4), (5, sy_i l5), (6, sy_i l6), (7, sy_i l7)], [sy_i l6], h)) mj_d_180_137 (fun _ _ => rfl) ?_
            refine sy_st (S' := (mj_m_180, 144, [(8, sy_i 0), (3, sy_i (l3 + 1)), (0, .ref 234), (1, sy_i l1), (2, sy_i l2), (4, sy_i l4), (5, sy_i l5), (6, sy_i l6), (7, sy_i l7)], [sy_i l6], h)) mj_d_180_139 (fun _ _ => rfl) ?_
            refine sy_st (S' := (mj_m_180, 146, [(4, sy_i l6), (8, sy_i 0), (3, sy_i (l3 + 1)), (0, .ref 234), (1, sy_i l1), (2, sy_i l2), (5, sy_i l5), (6, sy_i l6), (7, sy_i l7)], [], h)) mj_d_180_144 (fun _ _ => rfl) ?_
            refine sy_st (S' := (mj_m_180, 148, [(4, sy_i l6), (8, sy_i 0), (3, sy_i (l3 + 1)), (0, .ref 234), (1, sy_i l1), (2, sy_i l2), (5, sy_i l5), (6, sy_i l6), (7, sy_i l7)], [sy_i 0], h)) mj_d_180_146 (fun _ _ => rfl) ?_
            refine sy_st (S' := (mj_m_180, 150, [(4, sy_i l6), (8, sy_i 0), (3, sy_i (l3 + 1)), (0, .ref 234), (1, sy_i l1), (2, sy_i l2), (5, sy_i l5), (6, sy_i l6), (7, sy_i l7)], [sy_i l5, sy_i 0], h)) mj_d_180_148 (fun _ _ => rfl) ?_
            refine sy_icm mj_d_180_150 rfl ⟨by omega, by omega⟩ ⟨by omega, by omega⟩ (fun (c17 : 0 ≤ l5) => ?_) (fun (c17 : ¬ (0 ≤ l5)) => ?_)
            · skip
              rw [if_pos c17]
              refine sy_st (S' := (mj_m_180, 160, [(4, sy_i l6), (8, sy_i 0), (3, sy_i (l3 + 1)), (0, .ref 234), (1, sy_i l1), (2, sy_i l2), (5, sy_i l5), (6, sy_i l6), (7, sy_i l7)], [sy_i l5], h)) mj_d_180_158 (fun _ _ => rfl) ?_
              refine sy_st (S' := (mj_m_180, 162, [(5, sy_i l5), (4, sy_i l6), (8, sy_i 0), (3, sy_i (l3 + 1)), (0, .ref 234), (1, sy_i l1), (2, sy_i l2), (6, sy_i l6), (7, sy_i l7)], [], h)) mj_d_180_160 (fun _ _ => rfl) ?_
              refine sy_inc (a := l6) (lv' := [(6, sy_i (l6 + 1)), (5, sy_i l5), (4, sy_i l6), (8, sy_i 0), (3, sy_i (l3 + 1)), (0, .ref 234), (1, sy_i l1), (2, sy_i l2), (7, sy_i l7)]) mj_d_180_162 (Nat.le_of_ble_eq_true rfl) rfl rfl ?_
              refine sy_st (S' := (mj_m_180, 36, [(6, sy_i (l6 + 1)), (5, sy_i l5), (4, sy_i l6), (8, sy_i 0), (3, sy_i (l3 + 1)), (0, .ref 234), (1, sy_i l1), (2, sy_i l2), (7, sy_i l7)], [], h)) mj_d_180_165 (fun _ _ => rfl) ?_
              refine sy_lv (lv := [(0, .ref 234), (1, sy_i l1), (2, sy_i l2), (3, sy_i (l3 + 1)), (4, sy_i l6), (5, sy_i l5), (6, sy_i (l6 + 1))]) rfl ⟨rfl, rfl, rfl, rfl, rfl, rfl, rfl, trivial⟩ ?_
              exact hk36 hH (by first | omega | assumption) (by first | omega | assumption) (by first | omega | assumption) (by first | omega | assumption) (by first | omega | assumption) (by first | omega | assumption) (by first | omega | assumption) (by first | omega | assumption) (by first | omega | assumption) (by first | omega | assumption) (by first | omega | assumption) (by first | omega | assumption) (by first | omega | assumption) (by first | omega | assumption) (by omega)
            · skip
              rw [if_neg c17]
              refine sy_st (S' := (mj_m_180, 155, [(4, sy_i l6), (8, sy_i 0), (3, sy_i (l3 + 1)), (0, .ref 234), (1, sy_i l1), (2, sy_i l2), (5, sy_i l5), (6, sy_i l6), (7, sy_i l7)], [sy_i 0], h)) mj_d_180_153 (fun _ _ => rfl) ?_
              refine sy_st (S' := (mj_m_180, 160, [(4, sy_i l6), (8, sy_i 0), (3, sy_i (l3 + 1)), (0, .ref 234), (1, sy_i l1), (2, sy_i l2), (5, sy_i l5), (6, sy_i l6), (7, sy_i l7)], [sy_i 0], h)) mj_d_180_155 (fun _ _ => rfl) ?_
              refine sy_st (S' := (mj_m_180, 162, [(5, sy_i 0), (4, sy_i l6), (8, sy_i 0), (3, sy_i (l3 + 1)), (0, .ref 234), (1, sy_i l1), (2, sy_i l2), (6, sy_i l6), (7, sy_i l7)], [], h)) mj_d_180_160 (fun _ _ => rfl) ?_
              refine sy_inc (a := l6) (lv' := [(6, sy_i (l6 + 1)), (5, sy_i 0), (4, sy_i l6), (8, sy_i 0), (3, sy_i (l3 + 1)), (0, .ref 234), (1, sy_i l1), (2, sy_i l2), (7, sy_i l7)]) mj_d_180_162 (Nat.le_of_ble_eq_true rfl) rfl rfl ?_
              refine sy_st (S' := (mj_m_180, 36, [(6, sy_i (l6 + 1)), (5, sy_i 0), (4, sy_i l6), (8, sy_i 0), (3, sy_i (l3 + 1)), (0, .ref 234), (1, sy_i l1), (2, sy_i l2), (7, sy_i l7)], [], h)) mj_d_180_165 (fun _ _ => rfl) ?_
              refine sy_lv (lv := [(0, .ref 234), (1, sy_i l1), (2, sy_i l2), (3, sy_i (l3 + 1)), (4, sy_i l6), (5, sy_i 0), (6, sy_i (l6 + 1))]) rfl ⟨rfl, rfl, rfl, rfl, rfl, rfl, rfl, trivial⟩ ?_
              exact hk36 hH (by first | omega | assumption) (by first | omega | assumption) (by first | omega | assumption) (by first | omega | assumption) (by first | omega | assumption) (by first | omega | assumption) (by first | omega | assumption) (by first | omega | assumption) (by first | omega | assumption) (by first | omega | assumption) (by first | omega | assumption) (by first | omega | assumption) (by first | omega | assumption) (by first | omega | assumption) (by omega)
        · skip
          rw [if_pos (Decidable.not_not.mp c14)]
          replace c14 := Decidable.not_not.mp c14
          refine sy_st (S' := (mj_m_180, 116, [(3, sy_i (l3 + 1)), (0, .ref 234), (1, sy_i l1), (2, sy_i l2), (4, sy_i l4), (5, sy_i l5), (6, sy_i l6), (7, sy_i l7), (8, sy_i l8)], [.ref 234], h)) mj_d_180_115 (fun _ _ => rfl) ?_
          refine sy_st (S' := (mj_m_180, 118, [(3, sy_i (l3 + 1)), (0, .ref 234), (1, sy_i l1), (2, sy_i l2), (4, sy_i l4), (5, sy_i l5), (6, sy_i l6), (7, sy_i l7), (8, sy_i l8)], [sy_i l6, .ref 234], h)) mj_d_180_116 (fun _ _ => rfl) ?_
          refine sy_cv (M' := mj_m_170) (vs := [.ref 234, sy_i l6]) (rest := []) mj_d_180_118 rfl rfl rfl rfl hH rfl rfl ⟨by decide, ⟨Nat.le_of_ble_eq_true rfl, Nat.le_of_ble_eq_true rfl, Nat.le_of_ble_eq_true rfl, Nat.le_of_ble_eq_true rfl, Nat.le_of_ble_eq_true rfl⟩⟩ (dt_R_sootOf (a1 := l6) hH (by omega) (by omega) (by first | omega | assumption)) ?_
          rintro _ _ ⟨rfl, rfl, b18, b18t⟩
          show sy_wp (mj_m_180, 121, [(3, sy_i (l3 + 1)), (0, .ref 234), (1, sy_i l1), (2, sy_i l2), (4, sy_i l4), (5, sy_i l5), (6, sy_i l6), (7, sy_i l7), (8, sy_i l8)], [sy_i (dc_R_sootOf (sy_rd h) l6)], h) _
          refine sy_cs (M' := mj_m_176) (vs := [sy_i (dc_R_sootOf (sy_rd h) l6)]) (rest := []) mj_d_180_121 rfl rfl rfl rfl ⟨Nat.le_of_ble_eq_true rfl, Nat.le_of_ble_eq_true rfl, Nat.le_of_ble_eq_true rfl, Nat.le_of_ble_eq_true rfl, Nat.le_of_ble_eq_true rfl⟩ (dt_R_ones (a0 := (dc_R_sootOf (sy_rd h) l6)) hH (by omega) (by omega)) ?_
          rintro _ _ ⟨rfl, rfl, b19, b19t⟩
          show sy_wp (mj_m_180, 124, [(3, sy_i (l3 + 1)), (0, .ref 234), (1, sy_i l1), (2, sy_i l2), (4, sy_i l4), (5, sy_i l5), (6, sy_i l6), (7, sy_i l7), (8, sy_i l8)], [sy_i (dc_R_ones (sy_rd h) (dc_R_sootOf (sy_rd h) l6))], h) _
          refine sy_st (S' := (mj_m_180, 128, [(3, sy_i (l3 + 1)), (0, .ref 234), (1, sy_i l1), (2, sy_i l2), (4, sy_i l4), (5, sy_i l5), (6, sy_i l6), (7, sy_i l7), (8, sy_i l8)], [sy_i (dc_R_ones (sy_rd h) (dc_R_sootOf (sy_rd h) l6))], h)) mj_d_180_124 (fun _ _ => rfl) ?_
          refine sy_st (S' := (mj_m_180, 130, [(8, sy_i (dc_R_ones (sy_rd h) (dc_R_sootOf (sy_rd h) l6))), (3, sy_i (l3 + 1)), (0, .ref 234), (1, sy_i l1), (2, sy_i l2), (4, sy_i l4), (5, sy_i l5), (6, sy_i l6), (7, sy_i l7)], [], h)) mj_d_180_128 (fun _ _ => rfl) ?_
          refine sy_st (S' := (mj_m_180, 132, [(8, sy_i (dc_R_ones (sy_rd h) (dc_R_sootOf (sy_rd h) l6))), (3, sy_i (l3 + 1)), (0, .ref 234), (1, sy_i l1), (2, sy_i l2), (4, sy_i l4), (5, sy_i l5), (6, sy_i l6), (7, sy_i l7)], [sy_i (dc_R_ones (sy_rd h) (dc_R_sootOf (sy_rd h) l6))], h)) mj_d_180_130 (fun _ _ => rfl) ?_
          refine sy_st (S' := (mj_m_180, 134, [(8, sy_i (dc_R_ones (sy_rd h) (dc_R_sootOf (sy_rd h) l6))), (3, sy_i (l3 + 1)), (0, .ref 234), (1, sy_i l1), (2, sy_i l2), (4, sy_i l4), (5, sy_i l5), (6, sy_i l6), (7, sy_i l7)], [sy_i l5, sy_i (dc_R_ones (sy_rd h) (dc_R_sootOf (sy_rd h) l6))], h)) mj_d_180_132 (fun _ _ => rfl) ?_
          refine sy_icm mj_d_180_134 rfl ⟨by omega, by omega⟩ ⟨by omega, by omega⟩ (fun (c20 : (dc_R_ones (sy_rd h) (dc_R_sootOf (sy_rd h) l6)) ≤ l5) => ?_) (fun (c20 : ¬ ((dc_R_ones (sy_rd h) (dc_R_sootOf (sy_rd h) l6)) ≤ l5)) => ?_)
          · skip
            rw [if_pos c20]
            refine sy_st (S' := (mj_m_180, 144, [(8, sy_i (dc_R_ones (sy_rd h) (dc_R_sootOf (sy_rd h) l6))), (3, sy_i (l3 + 1)), (0, .ref 234), (1, sy_i l1), (2, sy_i l2), (4, sy_i l4), (5, sy_i l5), (6, sy_i l6), (7, sy_i l7)], [sy_i l4], h)) mj_d_180_142 (fun _ _ => rfl) ?_
            refine sy_st (S' := (mj_m_180, 146, [(4, sy_i l4), (8, sy_i (dc_R_ones (sy_rd h) (dc_R_sootOf (sy_rd h) l6))), (3, sy_i (l3 + 1)), (0, .ref 234), (1, sy_i l1), (2, sy_i l2), (5, sy_i l5), (6, sy_i l6), (7, sy_i l7)], [], h)) mj_d_180_144 (fun _ _ => rfl) ?_
            refine sy_st (S' := (mj_m_180, 148, [(4, sy_i l4), (8, sy_i (dc_R_ones (sy_rd h) (dc_R_sootOf (sy_rd h) l6))), (3, sy_i (l3 + 1)), (0, .ref 234), (1, sy_i l1), (2, sy_i l2), (5, sy_i l5), (6, sy_i l6), (7, sy_i l7)], [sy_i (dc_R_ones (sy_rd h) (dc_R_sootOf (sy_rd h) l6))], h)) mj_d_180_146 (fun _ _ => rfl) ?_
            refine sy_st (S' := (mj_m_180, 150, [(4, sy_i l4), (8, sy_i (dc_R_ones (sy_rd h) (dc_R_sootOf (sy_rd h) l6))), (3, sy_i (l3 + 1)), (0, .ref 234), (1, sy_i l1), (2, sy_i l2), (5, sy_i l5), (6, sy_i l6), (7, sy_i l7)], [sy_i l5, sy_i (dc_R_ones (sy_rd h) (dc_R_sootOf (sy_rd h) l6))], h)) mj_d_180_148 (fun _ _ => rfl) ?_
            refine sy_icm mj_d_180_150 rfl ⟨by omega, by omega⟩ ⟨by omega, by omega⟩ (fun (c21 : (dc_R_ones (sy_rd h) (dc_R_sootOf (sy_rd h) l6)) ≤ l5) => ?_) (fun (c21 : ¬ ((dc_R_ones (sy_rd h) (dc_R_sootOf (sy_rd h) l6)) ≤ l5)) => ?_)
            · skip
              rw [if_pos c21]
              refine sy_st (S' := (mj_m_180, 160, [(4, sy_i l4), (8, sy_i (dc_R_ones (sy_rd h) (dc_R_sootOf (sy_rd h) l6))), (3, sy_i (l3 + 1)), (0, .ref 234), (1, sy_i l1), (2, sy_i l2), (5, sy_i l5), (6, sy_i l6), (7, sy_i l7)], [sy_i l5], h)) mj_d_180_158 (fun _ _ => rfl) ?_
              refine sy_st (S' := (mj_m_180, 162, [(5, sy_i l5), (4, sy_i l4), (8, sy_i (dc_R_ones (sy_rd h) (dc_R_sootOf (sy_rd h) l6))), (3, sy_i (l3 + 1)), (0, .ref 234), (1, sy_i l1), (2, sy_i l2), (6, sy_i l6), (7, sy_i l7)], [], h)) mj_d_180_160 (fun _ _ => rfl) ?_
              refine sy_inc (a := l6) (lv' := [(6, sy_i (l6 + 1)), (5, sy_i l5), (4, sy_i l4), (8, sy_i (dc_R_ones (sy_rd h) (dc_R_sootOf (sy_rd h) l6))), (3, sy_i (l3 + 1)), (0, .ref 234), (1, sy_i l1), (2, sy_i l2), (7, sy_i l7)]) mj_d_180_162 (Nat.le_of_ble_eq_true rfl) rfl rfl ?_
              refine sy_st (S' := (mj_m_180, 36, [(6, sy_i (l6 + 1)), (5, sy_i l5), (4, sy_i l4), (8, sy_i (dc_R_ones (sy_rd h) (dc_R_sootOf (sy_rd h) l6))), (3, sy_i (l3 + 1)), (0, .ref 234), (1, sy_i l1), (2, sy_i l2), (7, sy_i l7)], [], h)) mj_d_180_165 (fun _ _ => rfl) ?_
              refine sy_lv (lv := [(0, .ref 234), (1, sy_i l1), (2, sy_i l2), (3, sy_i (l3 + 1)), (4, sy_i l4), (5, sy_i l5), (6, sy_i (l6 + 1))]) rfl ⟨rfl, rfl, rfl, rfl, rfl, rfl, rfl, trivial⟩ ?_
              exact hk36 hH (by first | omega | assumption) (by first | omega | assumption) (by first | omega | assumption) (by first | omega | assumption) (by first | omega | assumption) (by first | omega | assumption) (by first | omega | assumption) (by first | omega | assumption) (by first | omega | assumption) (by first | omega | assumption) (by first | omega | assumption) (by first | omega | assumption) (by first | omega | assumption) (by first | omega | assumption) (by omega)
            · skip
              rw [if_neg c21]
              refine sy_st (S' := (mj_m_180, 155, [(4, sy_i l4), (8, sy_i (dc_R_ones (sy_rd h) (dc_R_sootOf (sy_rd h) l6))), (3, sy_i (l3 + 1)), (0, .ref 234), (1, sy_i l1), (2, sy_i l2), (5, sy_i l5), (6, sy_i l6), (7, sy_i l7)], [sy_i (dc_R_ones (sy_rd h) (dc_R_sootOf (sy_rd h) l6))], h)) mj_d_180_153 (fun _ _ => rfl) ?_
              refine sy_st (S' := (mj_m_180, 160, [(4, sy_i l4), (8, sy_i (dc_R_ones (sy_rd h) (dc_R_sootOf (sy_rd h) l6))), (3, sy_i (l3 + 1)), (0, .ref 234), (1, sy_i l1), (2, sy_i l2), (5, sy_i l5), (6, sy_i l6), (7, sy_i l7)], [sy_i (dc_R_ones (sy_rd h) (dc_R_sootOf (sy_rd h) l6))], h)) mj_d_180_155 (fun _ _ => rfl) ?_
              refine sy_st (S' := (mj_m_180, 162, [(5, sy_i (dc_R_ones (sy_rd h) (dc_R_sootOf (sy_rd h) l6))), (4, sy_i l4), (8, sy_i (dc_R_ones (sy_rd h) (dc_R_sootOf (sy_rd h) l6))), (3, sy_i (l3 + 1)), (0, .ref 234), (1, sy_i l1), (2, sy_i l2), (6, sy_i l6), (7, sy_i l7)], [], h)) mj_d_180_160 (fun _ _ => rfl) ?_
              refine sy_inc (a := l6) (lv' := [(6, sy_i (l6 + 1)), (5, sy_i (dc_R_ones (sy_rd h) (dc_R_sootOf (sy_rd h) l6))), (4, sy_i l4), (8, sy_i (dc_R_ones (sy_rd h) (dc_R_sootOf (sy_rd h) l6))), (3, sy_i (l3 + 1)), (0, .ref 234), (1, sy_i l1), (2, sy_i l2), (7, sy_i l7)]) mj_d_180_162 (Nat.le_of_ble_eq_true rfl) rfl rfl ?_
              refine sy_st (S' := (mj_m_180, 36, [(6, sy_i (l6 + 1)), (5, sy_i (dc_R_ones (sy_rd h) (dc_R_sootOf (sy_rd h) l6))), (4, sy_i l4), (8, sy_i (dc_R_ones (sy_rd h) (dc_R_sootOf (sy_rd h) l6))), (3, sy_i (l3 + 1)), (0, .ref 234), (1, sy_i l1), (2, sy_i l2), (7, sy_i l7)], [], h)) mj_d_180_165 (fun _ _ => rfl) ?_
              refine sy_lv (lv := [(0, .ref 234), (1, sy_i l1), (2, sy_i l2), (3, sy_i (l3 + 1)), (4, sy_i l4), (5, sy_i (dc_R_ones (sy_rd h) (dc_R_sootOf (sy_rd h) l6))), (6, sy_i (l6 + 1))]) rfl ⟨rfl, rfl, rfl, rfl, rfl, rfl, rfl, trivial⟩ ?_
              exact hk36 hH (by first | omega | assumption) (by first | omega | assumption) (by first | omega | assumption) (by first | omega | assumption) (by first | omega | assumption) (by first | omega | assumption) (by first | omega | assumption) (by first | omega | assumption) (by first | omega | assumption) (by first | omega | assumption) (by first | omega | assumption) (by first | omega | assumption) (by first | omega | assumption) (by first | omega | assumption) (by omega)
          · skip
            rw [if_neg c20]
            refine sy_st (S' := (mj_m_180, 139, [(8, sy_i (dc_R_ones (sy_rd h) (dc_R_sootOf (sy_rd h) l6))), (3, sy_i (l3 + 1)), (0, .ref 234), (1, sy_i l1), (2, sy_i l2), (4, sy_i l4), (5, sy_i l5), (6, sy_i l6), (7, sy_i l7)], [sy_i l6], h)) mj_d_180_137 (fun _ _ => rfl) ?_
            refine sy_st (S' := (mj_m_180, 144, [(8, sy_i (dc_R_ones (sy_rd h) (dc_R_sootOf (sy_rd h) l6))), (3, sy_i (l3 + 1)), (0, .ref 234), (1, sy_i l1), (2, sy_i l2), (4, sy_i l4), (5, sy_i l5), (6, sy_i l6), (7, sy_i l7)], [sy_i l6], h)) mj_d_180_139 (fun _ _ => rfl) ?_
            refine sy_st (S' := (mj_m_180, 146, [(4, sy_i l6), (8, sy_i (dc_R_ones (sy_rd h) (dc_R_sootOf (sy_rd h) l6))), (3, sy_i (l3 + 1)), (0, .ref 234), (1, sy_i l1), (2, sy_i l2), (5, sy_i l5), (6, sy_i l6), (7, sy_i l7)], [], h)) mj_d_180_144 (fun _ _ => rfl) ?_
            refine sy_st (S' := (mj_m_180, 148, [(4, sy_i l6), (8, sy_i (dc_R_ones (sy_rd h) (dc_R_sootOf (sy_rd h) l6))), (3, sy_i (l3 + 1)), (0, .ref 234), (1, sy_i l1), (2, sy_i l2), (5, sy_i l5), (6, sy_i l6), (7, sy_i l7)], [sy_i (dc_R_ones (sy_rd h) (dc_R_sootOf (sy_rd h) l6))], h)) mj_d_180_146 (fun _ _ => rfl) ?_
            refine sy_st (S' := (mj_m_180, 150, [(4, sy_i l6), (8, sy_i (dc_R_ones (sy_rd h) (dc_R_sootOf (sy_rd h) l6))), (3, sy_i (l3 + 1)), (0, .ref 234), (1, sy_i l1), (2, sy_i l2), (5, sy_i l5), (6, sy_i l6), (7, sy_i l7)], [sy_i l5, sy_i (dc_R_ones (sy_rd h) (dc_R_sootOf (sy_rd h) l6))], h)) mj_d_180_148 (fun _ _ => rfl) ?_
            refine sy_icm mj_d_180_150 rfl ⟨by omega, by omega⟩ ⟨by omega, by omega⟩ (fun (c22 : (dc_R_ones (sy_rd h) (dc_R_sootOf (sy_rd h) l6)) ≤ l5) => ?_) (fun (c22 : ¬ ((dc_R_ones (sy_rd h) (dc_R_sootOf (sy_rd h) l6)) ≤ l5)) => ?_)
            · skip
              rw [if_pos c22]
              refine sy_st (S' := (mj_m_180, 160, [(4, sy_i l6), (8, sy_i (dc_R_ones (sy_rd h) (dc_R_sootOf (sy_rd h) l6))), (3, sy_i (l3 + 1)), (0, .ref 234), (1, sy_i l1), (2, sy_i l2), (5, sy_i l5), (6, sy_i l6), (7, sy_i l7)], [sy_i l5], h)) mj_d_180_158 (fun _ _ => rfl) ?_
              refine sy_st (S' := (mj_m_180, 162, [(5, sy_i l5), (4, sy_i l6), (8, sy_i (dc_R_ones (sy_rd h) (dc_R_sootOf (sy_rd h) l6))), (3, sy_i (l3 + 1)), (0, .ref 234), (1, sy_i l1), (2, sy_i l2), (6, sy_i l6), (7, sy_i l7)], [], h)) mj_d_180_160 (fun _ _ => rfl) ?_
              refine sy_inc (a := l6) (lv' := [(6, sy_i (l6 + 1)), (5, sy_i l5), (4, sy_i l6), (8, sy_i (dc_R_ones (sy_rd h) (dc_R_sootOf (sy_rd h) l6))), (3, sy_i (l3 + 1)), (0, .ref 234), (1, sy_i l1), (2, sy_i l2), (7, sy_i l7)]) mj_d_180_162 (Nat.le_of_ble_eq_true rfl) rfl rfl ?_
              refine sy_st (S' := (mj_m_180, 36, [(6, sy_i (l6 + 1)), (5, sy_i l5), (4, sy_i l6), (8, sy_i (dc_R_ones (sy_rd h) (dc_R_sootOf (sy_rd h) l6))), (3, sy_i (l3 + 1)), (0, .ref 234), (1, sy_i l1), (2, sy_i l2), (7, sy_i l7)], [], h)) mj_d_180_165 (fun _ _ => rfl) ?_
              refine sy_lv (lv := [(0, .ref 234), (1, sy_i l1), (2, sy_i l2), (3, sy_i (l3 + 1)), (4, sy_i l6), (5, sy_i l5), (6, sy_i (l6 + 1))]) rfl ⟨rfl, rfl, rfl, rfl, rfl, rfl, rfl, trivial⟩ ?_
              exact hk36 hH (by first | omega | assumption) (by first | omega | assumption) (by first | omega | assumption) (by first | omega | assumption) (by first | omega | assumption) (by first | omega | assumption) (by first | omega | assumption) (by first | omega | assumption) (by first | omega | assumption) (by first | omega | assumption) (by first | omega | assumption) (by first | omega | assumption) (by first | omega | assumption) (by first | omega | assumption) (by omega)
            · skip
              rw [if_neg c22]
              refine sy_st (S' := (mj_m_180, 155, [(4, sy_i l6), (8, sy_i (dc_R_ones (sy_rd h) (dc_R_sootOf (sy_rd h) l6))), (3, sy_i (l3 + 1)), (0, .ref 234), (1, sy_i l1), (2, sy_i l2), (5, sy_i l5), (6, sy_i l6), (7, sy_i l7)], [sy_i (dc_R_ones (sy_rd h) (dc_R_sootOf (sy_rd h) l6))], h)) mj_d_180_153 (fun _ _ => rfl) ?_
              refine sy_st (S' := (mj_m_180, 160, [(4, sy_i l6), (8, sy_i (dc_R_ones (sy_rd h) (dc_R_sootOf (sy_rd h) l6))), (3, sy_i (l3 + 1)), (0, .ref 234), (1, sy_i l1), (2, sy_i l2), (5, sy_i l5), (6, sy_i l6), (7, sy_i l7)], [sy_i (dc_R_ones (sy_rd h) (dc_R_sootOf (sy_rd h) l6))], h)) mj_d_180_155 (fun _ _ => rfl) ?_
              refine sy_st (S' := (mj_m_180, 162, [(5, sy_i (dc_R_ones (sy_rd h) (dc_R_sootOf (sy_rd h) l6))), (4, sy_i l6), (8, sy_i (dc_R_ones (sy_rd h) (dc_R_sootOf (sy_rd h) l6))), (3, sy_i (l3 + 1)), (0, .ref 234), (1, sy_i l1), (2, sy_i l2), (6, sy_i l6), (7, sy_i l7)], [], h)) mj_d_180_160 (fun _ _ => rfl) ?_
              refine sy_inc (a := l6) (lv' := [(6, sy_i (l6 + 1)), (5, sy_i (dc_R_ones (sy_rd h) (dc_R_sootOf (sy_rd h) l6))), (4, sy_i l6), (8, sy_i (dc_R_ones (sy_rd h) (dc_R_sootOf (sy_rd h) l6))), (3, sy_i (l3 + 1)), (0, .ref 234), (1, sy_i l1), (2, sy_i l2), (7, sy_i l7)]) mj_d_180_162 (Nat.le_of_ble_eq_true rfl) rfl rfl ?_
              refine sy_st (S' := (mj_m_180, 36, [(6, sy_i (l6 + 1)), (5, sy_i (dc_R_ones (sy_rd h) (dc_R_sootOf (sy_rd h) l6))), (4, sy_i l6), (8, sy_i (dc_R_ones (sy_rd h) (dc_R_sootOf (sy_rd h) l6))), (3, sy_i (l3 + 1)), (0, .ref 234), (1, sy_i l1), (2, sy_i l2), (7, sy_i l7)], [], h)) mj_d_180_165 (fun _ _ => rfl) ?_
              refine sy_lv (lv := [(0, .ref 234), (1, sy_i l1), (2, sy_i l2), (3, sy_i (l3 + 1)), (4, sy_i l6), (5, sy_i (dc_R_ones (sy_rd h) (dc_R_sootOf (sy_rd h) l6))), (6, sy_i (l6 + 1))]) rfl ⟨rfl, rfl, rfl, rfl, rfl, rfl, rfl, trivial⟩ ?_
              exact hk36 hH (by first | omega | assumption) (by first | omega | assumption) (by first | omega | assumption) (by first | omega | assumption) (by first | omega | assumption) (by first | omega | assumption) (by first | omega | assumption) (by first | omega | assumption) (by first | omega | assumption) (by first | omega | assumption) (by first | omega | assumption) (by first | omega | assumption) (by first | omega | assumption) (by first | omega | assumption) (by omega)
    · skip
      rw [if_neg c1]
      refine sy_st (S' := (mj_m_180, 60, [(0, .ref 234), (1, sy_i l1), (2, sy_i l2), (3, sy_i l3), (4, sy_i l4), (5, sy_i l5), (6, sy_i l6), (7, sy_i l7), (8, sy_i l8)], [sy_i l7], h)) mj_d_180_58 (fun _ _ => rfl) ?_
      refine sy_ifc mj_d_180_60 rfl ⟨by omega, by omega⟩ (fun (c23 : ¬ (l7 = 0)) => ?_) (fun (c23 : ¬ ¬ (l7 = 0)) => ?_)
      · skip
        rw [if_neg c23]
        refine sy_st (S' := (mj_m_180, 77, [(0, .ref 234), (1, sy_i l1), (2, sy_i l2), (3, sy_i l3), (4, sy_i l4), (5, sy_i l5), (6, sy_i l6), (7, sy_i l7), (8, sy_i l8)], [sy_i 1], h)) mj_d_180_76 (fun _ _ => rfl) ?_
        refine sy_st (S' := (mj_m_180, 81, [(0, .ref 234), (1, sy_i l1), (2, sy_i l2), (3, sy_i l3), (4, sy_i l4), (5, sy_i l5), (6, sy_i l6), (7, sy_i l7), (8, sy_i l8)], [sy_i 1], h)) mj_d_180_77 (fun _ _ => rfl) ?_
        refine sy_st (S' := (mj_m_180, 83, [(7, sy_i 1), (0, .ref 234), (1, sy_i l1), (2, sy_i l2), (3, sy_i l3), (4, sy_i l4), (5, sy_i l5), (6, sy_i l6), (8, sy_i l8)], [], h)) mj_d_180_81 (fun _ _ => rfl) ?_
        refine sy_inc (a := l8) (lv' := [(8, sy_i (l8 + 1)), (7, sy_i 1), (0, .ref 234), (1, sy_i l1), (2, sy_i l2), (3, sy_i l3), (4, sy_i l4), (5, sy_i l5), (6, sy_i l6)]) mj_d_180_83 (Nat.le_of_ble_eq_true rfl) rfl rfl ?_
        refine sy_st (S' := (mj_m_180, 51, [(8, sy_i (l8 + 1)), (7, sy_i 1), (0, .ref 234), (1, sy_i l1), (2, sy_i l2), (3, sy_i l3), (4, sy_i l4), (5, sy_i l5), (6, sy_i l6)], [], h)) mj_d_180_86 (fun _ _ => rfl) ?_
        refine sy_lv (lv := [(0, .ref 234), (1, sy_i l1), (2, sy_i l2), (3, sy_i l3), (4, sy_i l4), (5, sy_i l5), (6, sy_i l6), (7, sy_i 1), (8, sy_i (l8 + 1))]) rfl ⟨rfl, rfl, rfl, rfl, rfl, rfl, rfl, rfl, rfl, trivial⟩ ?_
        exact ih hH (by first | omega | assumption) (by first | omega | assumption) (by first | omega | assumption) (by first | omega | assumption) (by first | omega | assumption) (by first | omega | assumption) (by first | omega | assumption) (by first | omega | assumption) (by first | omega | assumption) (by first | omega | assumption) (by first | omega | assumption) (by first | omega | assumption) (by first | omega | assumption) (by first | omega | assumption) (by first | omega | assumption) (by first | omega | assumption) (by first | omega | assumption) (by first | omega | assumption) (by first | omega | assumption) (by omega)
      · skip
        rw [if_pos (Decidable.not_not.mp c23)]
        replace c23 := Decidable.not_not.mp c23
        refine sy_st (S' := (mj_m_180, 64, [(0, .ref 234), (1, sy_i l1), (2, sy_i l2), (3, sy_i l3), (4, sy_i l4), (5, sy_i l5), (6, sy_i l6), (7, sy_i l7), (8, sy_i l8)], [.ref 234], h)) mj_d_180_63 (fun _ _ => rfl) ?_
        refine sy_st (S' := (mj_m_180, 65, [(0, .ref 234), (1, sy_i l1), (2, sy_i l2), (3, sy_i l3), (4, sy_i l4), (5, sy_i l5), (6, sy_i l6), (7, sy_i l7), (8, sy_i l8)], [sy_i 0, .ref 234], h)) mj_d_180_64 (fun _ _ => rfl) ?_
        refine sy_st (S' := (mj_m_180, 67, [(0, .ref 234), (1, sy_i l1), (2, sy_i l2), (3, sy_i l3), (4, sy_i l4), (5, sy_i l5), (6, sy_i l6), (7, sy_i l7), (8, sy_i l8)], [sy_i l6, sy_i 0, .ref 234], h)) mj_d_180_65 (fun _ _ => rfl) ?_
        refine sy_st (S' := (mj_m_180, 69, [(0, .ref 234), (1, sy_i l1), (2, sy_i l2), (3, sy_i l3), (4, sy_i l4), (5, sy_i l5), (6, sy_i l6), (7, sy_i l7), (8, sy_i l8)], [sy_i l8, sy_i l6, sy_i 0, .ref 234], h)) mj_d_180_67 (fun _ _ => rfl) ?_
        refine sy_cv (M' := mj_m_144) (vs := [.ref 234, sy_i 0, sy_i l6, sy_i l8]) (rest := []) mj_d_180_69 rfl rfl rfl rfl hH rfl rfl ⟨by decide, ⟨Nat.le_of_ble_eq_true rfl, Nat.le_of_ble_eq_true rfl, Nat.le_of_ble_eq_true rfl, Nat.le_of_ble_eq_true rfl, Nat.le_of_ble_eq_true rfl⟩⟩ (dt_R_layerAt (a1 := 0) (a2 := l6) (a3 := l8) hH (by omega) (by omega) (by omega) (by omega) (by omega) (by omega) (by first | omega | assumption)) ?_
        rintro _ _ ⟨rfl, rfl, b24, b24t⟩
        show sy_wp (mj_m_180, 72, [(0, .ref 234), (1, sy_i l1), (2, sy_i l2), (3, sy_i l3), (4, sy_i l4), (5, sy_i l5), (6, sy_i l6), (7, sy_i l7), (8, sy_i l8)], [sy_i (dc_R_layerAt (sy_rd h) 0 l6 l8)], h) _
        refine sy_st (S' := (mj_m_180, 73, [(0, .ref 234), (1, sy_i l1), (2, sy_i l2), (3, sy_i l3), (4, sy_i l4), (5, sy_i l5), (6, sy_i l6), (7, sy_i l7), (8, sy_i l8)], [sy_i l1, sy_i (dc_R_layerAt (sy_rd h) 0 l6 l8)], h)) mj_d_180_72 (fun _ _ => rfl) ?_
        refine sy_icm mj_d_180_73 rfl ⟨by omega, by omega⟩ ⟨by omega, by omega⟩ (fun (c25 : ¬ ((dc_R_layerAt (sy_rd h) 0 l6 l8) = l1)) => ?_) (fun (c25 : ¬ ¬ ((dc_R_layerAt (sy_rd h) 0 l6 l8) = l1)) => ?_)
        · skip
          rw [if_neg c25]
          refine sy_st (S' := (mj_m_180, 81, [(0, .ref 234), (1, sy_i l1), (2, sy_i l2), (3, sy_i l3), (4, sy_i l4), (5, sy_i l5), (6, sy_i l6), (7, sy_i l7), (8, sy_i l8)], [sy_i 0], h)) mj_d_180_80 (fun _ _ => rfl) ?_
          refine sy_st (S' := (mj_m_180, 83, [(7, sy_i 0), (0, .ref 234), (1, sy_i l1), (2, sy_i l2), (3, sy_i l3), (4, sy_i l4), (5, sy_i l5), (6, sy_i l6), (8, sy_i l8)], [], h)) mj_d_180_81 (fun _ _ => rfl) ?_
          refine sy_inc (a := l8) (lv' := [(8, sy_i (l8 + 1)), (7, sy_i 0), (0, .ref 234), (1, sy_i l1), (2, sy_i l2), (3, sy_i l3), (4, sy_i l4), (5, sy_i l5), (6, sy_i l6)]) mj_d_180_83 (Nat.le_of_ble_eq_true rfl) rfl rfl ?_
          refine sy_st (S' := (mj_m_180, 51, [(8, sy_i (l8 + 1)), (7, sy_i 0), (0, .ref 234), (1, sy_i l1), (2, sy_i l2), (3, sy_i l3), (4, sy_i l4), (5, sy_i l5), (6, sy_i l6)], [], h)) mj_d_180_86 (fun _ _ => rfl) ?_
          refine sy_lv (lv := [(0, .ref 234), (1, sy_i l1), (2, sy_i l2), (3, sy_i l3), (4, sy_i l4), (5, sy_i l5), (6, sy_i l6), (7, sy_i 0), (8, sy_i (l8 + 1))]) rfl ⟨rfl, rfl, rfl, rfl, rfl, rfl, rfl, rfl, rfl, trivial⟩ ?_
          exact ih hH (by first | omega | assumption) (by first | omega | assumption) (by first | omega | assumption) (by first | omega | assumption) (by first | omega | assumption) (by first | omega | assumption) (by first | omega | assumption) (by first | omega | assumption) (by first | omega | assumption) (by first | omega | assumption) (by first | omega | assumption) (by first | omega | assumption) (by first | omega | assumption) (by first | omega | assumption) (by first | omega | assumption) (by first | omega | assumption) (by first | omega | assumption) (by first | omega | assumption) (by first | omega | assumption) (by omega)
        · skip
          rw [if_pos (Decidable.not_not.mp c25)]
          replace c25 := Decidable.not_not.mp c25
          refine sy_st (S' := (mj_m_180, 77, [(0, .ref 234), (1, sy_i l1), (2, sy_i l2), (3, sy_i l3), (4, sy_i l4), (5, sy_i l5), (6, sy_i l6), (7, sy_i l7), (8, sy_i l8)], [sy_i 1], h)) mj_d_180_76 (fun _ _ => rfl) ?_
          refine sy_st (S' := (mj_m_180, 81, [(0, .ref 234), (1, sy_i l1), (2, sy_i l2), (3, sy_i l3), (4, sy_i l4), (5, sy_i l5), (6, sy_i l6), (7, sy_i l7), (8, sy_i l8)], [sy_i 1], h)) mj_d_180_77 (fun _ _ => rfl) ?_
          refine sy_st (S' := (mj_m_180, 83, [(7, sy_i 1), (0, .ref 234), (1, sy_i l1), (2, sy_i l2), (3, sy_i l3), (4, sy_i l4), (5, sy_i l5), (6, sy_i l6), (8, sy_i l8)], [], h)) mj_d_180_81 (fun _ _ => rfl) ?_
          refine sy_inc (a := l8) (lv' := [(8, sy_i (l8 + 1)), (7, sy_i 1), (0, .ref 234), (1, sy_i l1), (2, sy_i l2), (3, sy_i l3), (4, sy_i l4), (5, sy_i l5), (6, sy_i l6)]) mj_d_180_83 (Nat.le_of_ble_eq_true rfl) rfl rfl ?_
          refine sy_st (S' := (mj_m_180, 51, [(8, sy_i (l8 + 1)), (7, sy_i 1), (0, .ref 234), (1, sy_i l1), (2, sy_i l2), (3, sy_i l3), (4, sy_i l4), (5, sy_i l5), (6, sy_i l6)], [], h)) mj_d_180_86 (fun _ _ => rfl) ?_
          refine sy_lv (lv := [(0, .ref 234), (1, sy_i l1), (2, sy_i l2), (3, sy_i l3), (4, sy_i l4), (5, sy_i l5), (6, sy_i l6), (7, sy_i 1), (8, sy_i (l8 + 1))]) rfl ⟨rfl, rfl, rfl, rfl, rfl, rfl, rfl, rfl, rfl, trivial⟩ ?_
          exact ih hH (by first | omega | assumption) (by first | omega | assumption) (by first | omega | assumption) (by first | omega | assumption) (by first | omega | assumption) (by first | omega | assumption) (by first | omega | assumption) (by first | omega | assumption) (by first | omega | assumption) (by first | omega | assumption) (by first | omega | assumption) (by first | omega | assumption) (by first | omega | assumption) (by first | omega | assumption) (by first | omega | assumption) (by first | omega | assumption) (by first | omega | assumption) (by first | omega | assumption) (by first | omega | assumption) (by omega)
set_option maxRecDepth 100000 in
theorem dt_R_brushes_36 : ∀ (n : Nat) {h : mj_H} (hH : sy_H h) {l1 l2 l3 l4 l5 l6 : Int} (b_l1 : 1 ≤ l1) (t_l1 : l1 ≤ 7) (b_l2 : 0 ≤ l2) (t_l2 : l2 ≤ 1) (b_l3 : 0 ≤ l3) (t_l3 : l3 ≤ 9) (b_l4 : (-1) ≤ l4) (t_l4 : l4 ≤ 8) (b_l5 : 0 ≤ l5) (t_l5 : l5 ≤ 9) (b_l6 : 0 ≤ l6) (t_l6 : l6 ≤ 9) (i0 : l3 ≤ l6) (i1 : (sy_rd h 234 6) ≤ 0 ∨ (sy_rd h 235 11) = -1) (hm : 9 - l6 < (n : Int)), sy_wp (mj_m_180, 36, [(0, .ref 234), (1, sy_i l1), (2, sy_i l2), (3, sy_i l3), (4, sy_i l4), (5, sy_i l5), (6, sy_i l6)], [], h) (dq1 h (-2147483648) (2147483647) (dc_R_brushes_36 n (sy_rd h) l1 l2 l3 l4 l5 l6)) := by
  intro n
  induction n with
  | zero =>
    intro h hH l1 l2 l3 l4 l5 l6 b_l1 t_l1 b_l2 t_l2 b_l3 t_l3 b_l4 t_l4 b_l5 t_l5 b_l6 t_l6 i0 i1 hm
    exact absurd hm (by omega)
  | succ n ih =>
    intro h hH l1 l2 l3 l4 l5 l6 b_l1 t_l1 b_l2 t_l2 b_l3 t_l3 b_l4 t_l4 b_l5 t_l5 b_l6 t_l6 i0 i1 hm
    rw [dc_R_brushes_36_s]
    refine sy_st (S' := (mj_m_180, 38, [(0, .ref 234), (1, sy_i l1), (2, sy_i l2), (3, sy_i l3), (4, sy_i l4), (5, sy_i l5), (6, sy_i l6)], [sy_i l6], h)) mj_d_180_36 (fun _ _ => rfl) ?_
    refine sy_st (S' := (mj_m_180, 39, [(0, .ref 234), (1, sy_i l1), (2, sy_i l2), (3, sy_i l3), (4, sy_i l4), (5, sy_i l5), (6, sy_i l6)], [.ref 234, sy_i l6], h)) mj_d_180_38 (fun _ _ => rfl) ?_
    refine sy_gf mj_d_180_39 rfl rfl (by decide) rfl hH ?_
    intro x1 ex1 bx1 tx1
    replace ex1 : x1 = sy_rd h 234 6 := ex1
    subst ex1
    refine sy_icm mj_d_180_42 rfl ⟨by omega, by omega⟩ ⟨by omega, by omega⟩ (fun (c2 : (sy_rd h 234 6) ≤ l6) => ?_) (fun (c2 : ¬ ((sy_rd h 234 6) ≤ l6)) => ?_)
    · skip
      rw [if_pos c2]
      refine sy_st (S' := (mj_m_180, 169, [(0, .ref 234), (1, sy_i l1), (2, sy_i l2), (3, sy_i l3), (4, sy_i l4), (5, sy_i l5), (6, sy_i l6)], [sy_i l2], h)) mj_d_180_168 (fun _ _ => rfl) ?_
      refine sy_ifc mj_d_180_169 rfl ⟨by omega, by omega⟩ (fun (c3 : ¬ (l2 = 0)) => ?_) (fun (c3 : ¬ ¬ (l2 = 0)) => ?_)
      · skip
        rw [if_neg c3]
        refine sy_st (S' := (mj_m_180, 178, [(0, .ref 234), (1, sy_i l1), (2, sy_i l2), (3, sy_i l3), (4, sy_i l4), (5, sy_i l5), (6, sy_i l6)], [sy_i l4], h)) mj_d_180_176 (fun _ _ => rfl) ?_
        exact sy_reti mj_d_180_178 rfl ⟨rfl, rfl, by omega, by omega⟩
      · skip
        rw [if_pos (Decidable.not_not.mp c3)]
        replace c3 := Decidable.not_not.mp c3
        refine sy_st (S' := (mj_m_180, 173, [(0, .ref 234), (1, sy_i l1), (2, sy_i l2), (3, sy_i l3), (4, sy_i l4), (5, sy_i l5), (6, sy_i l6)], [sy_i l3], h)) mj_d_180_172 (fun _ _ => rfl) ?_
        refine sy_st (S' := (mj_m_180, 178, [(0, .ref 234), (1, sy_i l1), (2, sy_i l2), (3, sy_i l3), (4, sy_i l4), (5, sy_i l5), (6, sy_i l6)], [sy_i l3], h)) mj_d_180_173 (fun _ _ => rfl) ?_
        exact sy_reti mj_d_180_178 rfl ⟨rfl, rfl, by omega, by omega⟩
    · skip
      rw [if_neg c2]
      refine sy_st (S' := (mj_m_180, 46, [(0, .ref 234), (1, sy_i l1), (2, sy_i l2), (3, sy_i l3), (4, sy_i l4), (5, sy_i l5), (6, sy_i l6)], [sy_i 0], h)) mj_d_180_45 (fun _ _ => rfl) ?_
      refine sy_st (S' := (mj_m_180, 48, [(7, sy_i 0), (0, .ref 234), (1, sy_i l1), (2, sy_i l2), (3, sy_i l3), (4, sy_i l4), (5, sy_i l5), (6, sy_i l6)], [], h)) mj_d_180_46 (fun _ _ => rfl) ?_
      refine sy_st (S' := (mj_m_180, 49, [(7, sy_i 0), (0, .ref 234), (1, sy_i l1), (2, sy_i l2), (3, sy_i l3), (4, sy_i l4), (5, sy_i l5), (6, sy_i l6)], [sy_i 0], h)) mj_d_180_48 (fun _ _ => rfl) ?_
      refine sy_st (S' := (mj_m_180, 51, [(8, sy_i 0), (7, sy_i 0), (0, .ref 234), (1, sy_i l1), (2, sy_i l2), (3, sy_i l3), (4, sy_i l4), (5, sy_i l5), (6, sy_i l6)], [], h)) mj_d_180_49 (fun _ _ => rfl) ?_
      refine sy_lv (lv := [(0, .ref 234), (1, sy_i l1), (2, sy_i l2), (3, sy_i l3), (4, sy_i l4), (5, sy_i l5), (6, sy_i l6), (7, sy_i 0), (8, sy_i 0)]) rfl ⟨rfl, rfl, rfl, rfl, rfl, rfl, rfl, rfl, rfl, trivial⟩ ?_
      exact dt_R_brushes_51 @ih 9 hH (by first | omega | assumption) (by first | omega | assumption) (by first | omega | assumption) (by first | omega | assumption) (by first | omega | assumption) (by first | omega | assumption) (by first | omega | assumption) (by first | omega | assumption) (by first | omega | assumption) (by first | omega | assumption) (by first | omega | assumption) (by first | omega | assumption) (by first | omega | assumption) (by first | omega | assumption) (by first | omega | assumption) (by first | omega | assumption) (by first | omega | assumption) (by first | omega | assumption) (by first | omega | assumption) (by omega)
set_option maxRecDepth 100000 in
theorem dt_R_brushes {h : mj_H} (hH : sy_H h) {a1 a2 : Int} (b_a1 : (-2147483648) ≤ a1) (t_a1 : a1 ≤ 2147483647) (b_a2 : (-2147483648) ≤ a2) (t_a2 : a2 ≤ 2147483647) (i0 : (sy_rd h 234 6) ≤ 0 ∨ (sy_rd h 235 11) = -1) : sy_wp (mj_m_180, 0, [(0, .ref 234), (1, sy_i a1), (2, sy_i a2)], [], h) (dq1 h (-2147483648) (2147483647) (dc_R_brushes (sy_rd h) a1 a2)) := by
  unfold dc_R_brushes
  refine sy_st (S' := (mj_m_180, 1, [(0, .ref 234), (1, sy_i a1), (2, sy_i a2)], [sy_i a1], h)) mj_d_180_0 (fun _ _ => rfl) ?_
  refine sy_i2l mj_d_180_1 ⟨by omega, by omega⟩ ?_
  refine sy_st (S' := (mj_m_180, 3, [(0, .ref 234), (1, sy_i a1), (2, sy_i a2)], [sy_l 1, sy_l a1], h)) mj_d_180_2 (fun _ _ => rfl) ?_
  refine sy_ldc2 (n := 7) mj_d_180_3 rfl (by decide) ?_
  refine sy_cs (M' := mj_m_126) (vs := [sy_l a1, sy_l 1, sy_l 7]) (rest := []) mj_d_180_6 rfl rfl rfl rfl ⟨Nat.le_of_ble_eq_true rfl, Nat.le_of_ble_eq_true rfl, Nat.le_of_ble_eq_true rfl, Nat.le_of_ble_eq_true rfl, Nat.le_of_ble_eq_true rfl⟩ (dt_R_in (a0 := a1) (a1 := 1) (a2 := 7) hH (by omega) (by omega) (by omega) (by omega) (by omega) (by omega)) ?_
  rintro _ _ ⟨rfl, rfl, b1, b1t⟩
  have q2 := df_R_in_0 (sy_rd h) a1 1 7
  show sy_wp (mj_m_180, 9, [(0, .ref 234), (1, sy_i a1), (2, sy_i a2)], [sy_i (dc_R_in (sy_rd h) a1 1 7)], h) _
  refine sy_ifc mj_d_180_9 rfl ⟨by omega, by omega⟩ (fun (c3 : (dc_R_in (sy_rd h) a1 1 7) = 0) => ?_) (fun (c3 : ¬ ((dc_R_in (sy_rd h) a1 1 7) = 0)) => ?_)
  · skip
    rw [if_pos c3]
    refine sy_ldc (n := -1000000002) mj_d_180_22 rfl (by decide) ?_
    exact sy_reti mj_d_180_24 rfl ⟨rfl, rfl, by omega, by omega⟩
  · skip
    rw [if_neg c3]
    refine sy_st (S' := (mj_m_180, 13, [(0, .ref 234), (1, sy_i a1), (2, sy_i a2)], [sy_i a2], h)) mj_d_180_12 (fun _ _ => rfl) ?_
    refine sy_i2l mj_d_180_13 ⟨by omega, by omega⟩ ?_
    refine sy_st (S' := (mj_m_180, 15, [(0, .ref 234), (1, sy_i a1), (2, sy_i a2)], [sy_l 0, sy_l a2], h)) mj_d_180_14 (fun _ _ => rfl) ?_
    refine sy_st (S' := (mj_m_180, 16, [(0, .ref 234), (1, sy_i a1), (2, sy_i a2)], [sy_l 1, sy_l 0, sy_l a2], h)) mj_d_180_15 (fun _ _ => rfl) ?_
    refine sy_cs (M' := mj_m_126) (vs := [sy_l a2, sy_l 0, sy_l 1]) (rest := []) mj_d_180_16 rfl rfl rfl rfl ⟨Nat.le_of_ble_eq_true rfl, Nat.le_of_ble_eq_true rfl, Nat.le_of_ble_eq_true rfl, Nat.le_of_ble_eq_true rfl, Nat.le_of_ble_eq_true rfl⟩ (dt_R_in (a0 := a2) (a1 := 0) (a2 := 1) hH (by omega) (by omega) (by omega) (by omega) (by omega) (by omega)) ?_
    rintro _ _ ⟨rfl, rfl, b4, b4t⟩
    have q5 := df_R_in_0 (sy_rd h) a2 0 1
    show sy_wp (mj_m_180, 19, [(0, .ref 234), (1, sy_i a1), (2, sy_i a2)], [sy_i (dc_R_in (sy_rd h) a2 0 1)], h) _
    refine sy_ifc mj_d_180_19 rfl ⟨by omega, by omega⟩ (fun (c6 : ¬ ((dc_R_in (sy_rd h) a2 0 1) = 0)) => ?_) (fun (c6 : ¬ ¬ ((dc_R_in (sy_rd h) a2 0 1) = 0)) => ?_)
    · skip
      rw [if_neg c6]
      refine sy_st (S' := (mj_m_180, 26, [(0, .ref 234), (1, sy_i a1), (2, sy_i a2)], [sy_i 0], h)) mj_d_180_25 (fun _ _ => rfl) ?_
      refine sy_st (S' := (mj_m_180, 27, [(3, sy_i 0), (0, .ref 234), (1, sy_i a1), (2, sy_i a2)], [], h)) mj_d_180_26 (fun _ _ => rfl) ?_
      refine sy_st (S' := (mj_m_180, 28, [(3, sy_i 0), (0, .ref 234), (1, sy_i a1), (2, sy_i a2)], [sy_i (-1)], h)) mj_d_180_27 (fun _ _ => rfl) ?_
      refine sy_st (S' := (mj_m_180, 30, [(4, sy_i (-1)), (3, sy_i 0), (0, .ref 234), (1, sy_i a1), (2, sy_i a2)], [], h)) mj_d_180_28 (fun _ _ => rfl) ?_
      refine sy_st (S' := (mj_m_180, 31, [(4, sy_i (-1)), (3, sy_i 0), (0, .ref 234), (1, sy_i a1), (2, sy_i a2)], [sy_i 0], h)) mj_d_180_30 (fun _ _ => rfl) ?_
      refine sy_st (S' := (mj_m_180, 33, [(5, sy_i 0), (4, sy_i (-1)), (3, sy_i 0), (0, .ref 234), (1, sy_i a1), (2, sy_i a2)], [], h)) mj_d_180_31 (fun _ _ => rfl) ?_
      refine sy_st (S' := (mj_m_180, 34, [(5, sy_i 0), (4, sy_i (-1)), (3, sy_i 0), (0, .ref 234), (1, sy_i a1), (2, sy_i a2)], [sy_i 0], h)) mj_d_180_33 (fun _ _ => rfl) ?_
      refine sy_st (S' := (mj_m_180, 36, [(6, sy_i 0), (5, sy_i 0), (4, sy_i (-1)), (3, sy_i 0), (0, .ref 234), (1, sy_i a1), (2, sy_i a2)], [], h)) mj_d_180_34 (fun _ _ => rfl) ?_
      refine sy_lv (lv := [(0, .ref 234), (1, sy_i a1), (2, sy_i a2), (3, sy_i 0), (4, sy_i (-1)), (5, sy_i 0), (6, sy_i 0)]) rfl ⟨rfl, rfl, rfl, rfl, rfl, rfl, rfl, trivial⟩ ?_
      exact dt_R_brushes_36 10 hH (by first | omega | assumption) (by first | omega | assumption) (by first | omega | assumption) (by first | omega | assumption) (by first | omega | assumption) (by first | omega | assumption) (by first | omega | assumption) (by first | omega | assumption) (by first | omega | assumption) (by first | omega | assumption) (by first | omega | assumption) (by first | omega | assumption) (by first | omega | assumption) (by first | omega | assumption) (by omega)
    · skip
      rw [if_pos (Decidable.not_not.mp c6)]
      replace c6 := Decidable.not_not.mp c6
      refine sy_ldc (n := -1000000002) mj_d_180_22 rfl (by decide) ?_
      exact sy_reti mj_d_180_24 rfl ⟨rfl, rfl, by omega, by omega⟩
def dc_R_next_45 (k30 : sg_S → Int → Int → Int → Int → Int) (n : Nat) : sg_S → Int → Int → Int → Int → Int → Int → Int := Nat.rec (fun (s : sg_S) l1 l2 l3 l4 l5 l6 => 0) (fun _ ih => fun s l1 l2 l3 l4 l5 l6 => (if (s 234 31) ≤ l6 then (if l5 = 0 then (k30 s l1 l2 (sy_or l3 0) (l4 + 1)) else (k30 s l1 l2 (sy_or l3 (sy_shl 1 l4)) (l4 + 1))) else (if l5 = 0 then (ih s l1 l2 l3 l4 0 (l6 + 1)) else (if (s 250 ((l6).toNat)) = l1 then (if (dc_R_has s (dc_R_sootOf s l4) (s 249 ((l6).toNat))) = (s 251 ((l6).toNat)) then (ih s l1 l2 l3 l4 1 (l6 + 1)) else (ih s l1 l2 l3 l4 0 (l6 + 1))) else (ih s l1 l2 l3 l4 1 (l6 + 1)))))) n
theorem dc_R_next_45_s (k30 : sg_S → Int → Int → Int → Int → Int) (n : Nat) (s : sg_S) (l1 l2 l3 l4 l5 l6 : Int) : dc_R_next_45 k30 (n + 1) s l1 l2 l3 l4 l5 l6 = (if (s 234 31) ≤ l6 then (if l5 = 0 then (k30 s l1 l2 (sy_or l3 0) (l4 + 1)) else (k30 s l1 l2 (sy_or l3 (sy_shl 1 l4)) (l4 + 1))) else (if l5 = 0 then ((dc_R_next_45 k30 n) s l1 l2 l3 l4 0 (l6 + 1)) else (if (s 250 ((l6).toNat)) = l1 then (if (dc_R_has s (dc_R_sootOf s l4) (s 249 ((l6).toNat))) = (s 251 ((l6).toNat)) then ((dc_R_next_45 k30 n) s l1 l2 l3 l4 1 (l6 + 1)) else ((dc_R_next_45 k30 n) s l1 l2 l3 l4 0 (l6 + 1))) else ((dc_R_next_45 k30 n) s l1 l2 l3 l4 1 (l6 + 1))))) := rfl
def dc_R_next_164 (k149 : sg_S → Int → Int → Int → Int → Int) (n : Nat) : sg_S → Int → Int → Int → Int → Int → Int → Int := Nat.rec (fun (s : sg_S) l3 l4 l5 l6 l7 l8 => 0) (fun _ ih => fun s l3 l4 l5 l6 l7 l8 => (if (s 234 6) ≤ l8 then (if l7 ≤ ((dc_R_ones s l3) - l7) then (if l5 ≤ ((dc_R_ones s l3) - l7) then (if l5 ≤ ((dc_R_ones s l3) - l7) then (k149 s l3 l4 l5 (l6 + 1)) else (k149 s l3 l4 ((dc_R_ones s l3) - l7) (l6 + 1))) else (if l5 ≤ ((dc_R_ones s l3) - l7) then (k149 s l3 l6 l5 (l6 + 1)) else (k149 s l3 l6 ((dc_R_ones s l3) - l7) (l6 + 1)))) else (if l5 ≤ l7 then (if l5 ≤ l7 then (k149 s l3 l4 l5 (l6 + 1)) else (k149 s l3 l4 l7 (l6 + 1))) else (if l5 ≤ l7 then (k149 s l3 l6 l5 (l6 + 1)) else (k149 s l3 l6 l7 (l6 + 1))))) else (if (dc_R_has s l3 l8) = 0 then (ih s l3 l4 l5 l6 (l7 + 0) (l8 + 1)) else (if (dc_R_has s (dc_R_sootOf s l8) l6) = 0 then (ih s l3 l4 l5 l6 (l7 + 0) (l8 + 1)) else (ih s l3 l4 l5 l6 (l7 + 1) (l8 + 1)))))) n
theorem dc_R_next_164_s (k149 : sg_S → Int → Int → Int → Int → Int) (n : Nat) (s : sg_S) (l3 l4 l5 l6 l7 l8 : Int) : dc_R_next_164 k149 (n + 1) s l3 l4 l5 l6 l7 l8 = (if (s 234 6) ≤ l8 then (if l7 ≤ ((dc_R_ones s l3) - l7) then (if l5 ≤ ((dc_R_ones s l3) - l7) then (if l5 ≤ ((dc_R_ones s l3) - l7) then (k149 s l3 l4 l5 (l6 + 1)) else (k149 s l3 l4 ((dc_R_ones s l3) - l7) (l6 + 1))) else (if l5 ≤ ((dc_R_ones s l3) - l7) then (k149 s l3 l6 l5 (l6 + 1)) else (k149 s l3 l6 ((dc_R_ones s l3) - l7) (l6 + 1)))) else (if l5 ≤ l7 then (if l5 ≤ l7 then (k149 s l3 l4 l5 (l6 + 1)) else (k149 s l3 l4 l7 (l6 + 1))) else (if l5 ≤ l7 then (k149 s l3 l6 l5 (l6 + 1)) else (k149 s l3 l6 l7 (l6 + 1))))) else (if (dc_R_has s l3 l8) = 0 then ((dc_R_next_164 k149 n) s l3 l4 l5 l6 (l7 + 0) (l8 + 1)) else (if (dc_R_has s (dc_R_sootOf s l8) l6) = 0 then ((dc_R_next_164 k149 n) s l3 l4 l5 l6 (l7 + 0) (l8 + 1)) else ((dc_R_next_164 k149 n) s l3 l4 l5 l6 (l7 + 1) (l8 + 1))))) := rfl
def dc_R_next_149 (n : Nat) : sg_S → Int → Int → Int → Int → Int := Nat.rec (fun (s : sg_S) l3 l4 l5 l6 => 0) (fun _ ih => fun s l3 l4 l5 l6 => (if (s 234 6) ≤ l6 then l4 else (dc_R_next_164 ih 10 s l3 l4 l5 l6 0 0))) n
theorem dc_R_next_149_s (n : Nat) (s : sg_S) (l3 l4 l5 l6 : Int) : dc_R_next_149 (n + 1) s l3 l4 l5 l6 = (if (s 234 6) ≤ l6 then l4 else (dc_R_next_164 (dc_R_next_149 n) 10 s l3 l4 l5 l6 0 0)) := rfl
def dc_R_next_30 (n : Nat) : sg_S → Int → Int → Int → Int → Int := Nat.rec (fun (s : sg_S) l1 l2 l3 l4 => 0) (fun _ ih => fun s l1 l2 l3 l4 => (if (s 234 6) ≤ l4 then (if l2 = 0 then l3 else (dc_R_next_149 10 s l3 (-1) (dc_R_ones s l3) 0)) else (dc_R_next_45 ih 7 s l1 l2 l3 l4 1 0))) n
theorem dc_R_next_30_s (n : Nat) (s : sg_S) (l1 l2 l3 l4 : Int) : dc_R_next_30 (n + 1) s l1 l2 l3 l4 = (if (s 234 6) ≤ l4 then (if l2 = 0 then l3 else (dc_R_next_149 10 s l3 (-1) (dc_R_ones s l3) 0)) else (dc_R_next_45 (dc_R_next_30 n) 7 s l1 l2 l3 l4 1 0)) := rfl
def dc_R_next (s : sg_S) (a1 a2 : Int) : Int := (if (dc_R_in s a1 1 7) = 0 then (-1000000002) else (if (dc_R_in s a2 0 1) = 0 then (-1000000002) else (dc_R_next_30 10 s a1 a2 0 0)))
set_option maxRecDepth 100000 in
theorem dt_R_next_45 {k30 : sg_S → Int → Int → Int → Int → Int} {n30 : Nat} (hk30 : ∀ {h1 : mj_H}, sy_H h1 → ∀ {l1 l2 l3 l4 : Int}, 1 ≤ l1 → l1 ≤ 7 → 0 ≤ l2 → l2 ≤ 1 → 0 ≤ l3 → l3 ≤ 511 → 0 ≤ l4 → l4 ≤ 9 → (sy_rd h1 234 6) ≤ 0 ∨ (sy_rd h1 235 11) = -1 → 9 - l4 < (n30 : Int) → sy_wp (mj_m_183, 30, [(0, .ref 234), (1, sy_i l1), (2, sy_i l2), (3, sy_i l3), (4, sy_i l4)], [], h1) (dq1 h1 (-2147483648) (2147483647) (k30 (sy_rd h1) l1 l2 l3 l4))) : ∀ (n : Nat) {h : mj_H} (hH : sy_H h) {l1 l2 l3 l4 l5 l6 : Int} (b_l1 : 1 ≤ l1) (t_l1 : l1 ≤ 7) (b_l2 : 0 ≤ l2) (t_l2 : l2 ≤ 1) (b_l3 : 0 ≤ l3) (t_l3 : l3 ≤ 511) (b_l4 : 0 ≤ l4) (t_l4 : l4 ≤ 8) (b_l5 : 0 ≤ l5) (t_l5 : l5 ≤ 1) (b_l6 : 0 ≤ l6) (t_l6 : l6 ≤ 6) (i0 : (sy_rd h 235 11) = -1) (i1 : 9 - (l4 + 1) < (n30 : Int)) (hm : 6 - l6 < (n : Int)), sy_wp (mj_m_183, 45, [(0, .ref 234), (1, sy_i l1), (2, sy_i l2), (3, sy_i l3), (4, sy_i l4), (5, sy_i l5), (6, sy_i l6)], [], h) (dq1 h (-2147483648) (2147483647) (dc_R_next_45 k30 n (sy_rd h) l1 l2 l3 l4 l5 l6)) := by
  intro n
  induction n with
  | zero =>
    intro h hH l1 l2 l3 l4 l5 l6 b_l1 t_l1 b_l2 t_l2 b_l3 t_l3 b_l4 t_l4 b_l5 t_l5 b_l6 t_l6 i0 i1 hm
    exact absurd hm (by omega)
  | succ n ih =>
    intro h hH l1 l2 l3 l4 l5 l6 b_l1 t_l1 b_l2 t_l2 b_l3 t_l3 b_l4 t_l4 b_l5 t_l5 b_l6 t_l6 i0 i1 hm
    rw [dc_R_next_45_s]
    refine sy_st (S' := (mj_m_183, 47, [(0, .ref 234), (1, sy_i l1), (2, sy_i l2), (3, sy_i l3), (4, sy_i l4), (5, sy_i l5), (6, sy_i l6)], [sy_i l6], h)) mj_d_183_45 (fun _ _ => rfl) ?_
    refine sy_st (S' := (mj_m_183, 48, [(0, .ref 234), (1, sy_i l1), (2, sy_i l2), (3, sy_i l3), (4, sy_i l4), (5, sy_i l5), (6, sy_i l6)], [.ref 234, sy_i l6], h)) mj_d_183_47 (fun _ _ => rfl) ?_
    refine sy_gf mj_d_183_48 rfl rfl (by decide) rfl hH ?_
    intro x1 ex1 bx1 tx1
    replace ex1 : x1 = sy_rd h 234 31 := ex1
    subst ex1
    refine sy_icm mj_d_183_51 rfl ⟨by omega, by omega⟩ ⟨by omega, by omega⟩ (fun (c2 : (sy_rd h 234 31) ≤ l6) => ?_) (fun (c2 : ¬ ((sy_rd h 234 31) ≤ l6)) => ?_)
    · skip
      rw [if_pos c2]
      refine sy_st (S' := (mj_m_183, 110, [(0, .ref 234), (1, sy_i l1), (2, sy_i l2), (3, sy_i l3), (4, sy_i l4), (5, sy_i l5), (6, sy_i l6)], [sy_i l3], h)) mj_d_183_109 (fun _ _ => rfl) ?_
      refine sy_st (S' := (mj_m_183, 112, [(0, .ref 234), (1, sy_i l1), (2, sy_i l2), (3, sy_i l3), (4, sy_i l4), (5, sy_i l5), (6, sy_i l6)], [sy_i l5, sy_i l3], h)) mj_d_183_110 (fun _ _ => rfl) ?_
      refine sy_ifc mj_d_183_112 rfl ⟨by omega, by omega⟩ (fun (c3 : l5 = 0) => ?_) (fun (c3 : ¬ (l5 = 0)) => ?_)
      · skip
        rw [if_pos c3]
        refine sy_st (S' := (mj_m_183, 123, [(0, .ref 234), (1, sy_i l1), (2, sy_i l2), (3, sy_i l3), (4, sy_i l4), (5, sy_i l5), (6, sy_i l6)], [sy_i 0, sy_i l3], h)) mj_d_183_122 (fun _ _ => rfl) ?_
        refine sy_ior mj_d_183_123 ?_
        have q4 := sg_or9 l3 0 (by omega) (by omega) (by omega) (by omega)
        refine sy_st (S' := (mj_m_183, 125, [(3, sy_i (sy_or l3 0)), (0, .ref 234), (1, sy_i l1), (2, sy_i l2), (4, sy_i l4), (5, sy_i l5), (6, sy_i l6)], [], h)) mj_d_183_124 (fun _ _ => rfl) ?_
        refine sy_inc (a := l4) (lv' := [(4, sy_i (l4 + 1)), (3, sy_i (sy_or l3 0)), (0, .ref 234), (1, sy_i l1), (2, sy_i l2), (5, sy_i l5), (6, sy_i l6)]) mj_d_183_125 (Nat.le_of_ble_eq_true rfl) rfl rfl ?_
        refine sy_st (S' := (mj_m_183, 30, [(4, sy_i (l4 + 1)), (3, sy_i (sy_or l3 0)), (0, .ref 234), (1, sy_i l1), (2, sy_i l2), (5, sy_i l5), (6, sy_i l6)], [], h)) mj_d_183_128 (fun _ _ => rfl) ?_
        refine sy_lv (lv := [(0, .ref 234), (1, sy_i l1), (2, sy_i l2), (3, sy_i (sy_or l3 0)), (4, sy_i (l4 + 1))]) rfl ⟨rfl, rfl, rfl, rfl, rfl, trivial⟩ ?_
        exact hk30 hH (by first | omega | assumption) (by first | omega | assumption) (by first | omega | assumption) (by first | omega | assumption) (by first | omega | assumption) (by first | omega | assumption) (by first | omega | assumption) (by first | omega | assumption) (by first | omega | assumption) (by omega)
      · skip
        rw [if_neg c3]
        refine sy_st (S' := (mj_m_183, 116, [(0, .ref 234), (1, sy_i l1), (2, sy_i l2), (3, sy_i l3), (4, sy_i l4), (5, sy_i l5), (6, sy_i l6)], [sy_i 1, sy_i l3], h)) mj_d_183_115 (fun _ _ => rfl) ?_
        refine sy_st (S' := (mj_m_183, 118, [(0, .ref 234), (1, sy_i l1), (2, sy_i l2), (3, sy_i l3), (4, sy_i l4), (5, sy_i l5), (6, sy_i l6)], [sy_i l4, sy_i 1, sy_i l3], h)) mj_d_183_116 (fun _ _ => rfl) ?_
        refine sy_ishl mj_d_183_118 ?_
        have q5 := sg_shl9 l4 (by omega) (by omega)
        refine sy_st (S' := (mj_m_183, 123, [(0, .ref 234), (1, sy_i l1), (2, sy_i l2), (3, sy_i l3), (4, sy_i l4), (5, sy_i l5), (6, sy_i l6)], [sy_i (sy_shl 1 l4), sy_i l3], h)) mj_d_183_119 (fun _ _ => rfl) ?_
        refine sy_ior mj_d_183_123 ?_
        have q6 := sg_or9 l3 (sy_shl 1 l4) (by omega) (by omega) (by omega) (by omega)
        refine sy_st (S' := (mj_m_183, 125, [(3, sy_i (sy_or l3 (sy_shl 1 l4))), (0, .ref 234), (1, sy_i l1), (2, sy_i l2), (4, sy_i l4), (5, sy_i l5), (6, sy_i l6)], [], h)) mj_d_183_124 (fun _ _ => rfl) ?_
        refine sy_inc (a := l4) (lv' := [(4, sy_i (l4 + 1)), (3, sy_i (sy_or l3 (sy_shl 1 l4))), (0, .ref 234), (1, sy_i l1), (2, sy_i l2), (5, sy_i l5), (6, sy_i l6)]) mj_d_183_125 (Nat.le_of_ble_eq_true rfl) rfl rfl ?_
        refine sy_st (S' := (mj_m_183, 30, [(4, sy_i (l4 + 1)), (3, sy_i (sy_or l3 (sy_shl 1 l4))), (0, .ref 234), (1, sy_i l1), (2, sy_i l2), (5, sy_i l5), (6, sy_i l6)], [], h)) mj_d_183_128 (fun _ _ => rfl) ?_
        refine sy_lv (lv := [(0, .ref 234), (1, sy_i l1), (2, sy_i l2), (3, sy_i (sy_or l3 (sy_shl 1 l4))), (4, sy_i (l4 + 1))]) rfl ⟨rfl, rfl, rfl, rfl, rfl, trivial⟩ ?_
        exact hk30 hH (by first | omega | assumption) (by first | omega | assumption) (by first | omega | assumption) (by first | omega | assumption) (by first | omega | assumption) (by first | omega | assumption) (by first | omega | assumption) (by first | omega | assumption) (by first | omega | assumption) (by omega)
    · skip
      rw [if_neg c2]
      refine sy_st (S' := (mj_m_183, 56, [(0, .ref 234), (1, sy_i l1), (2, sy_i l2), (3, sy_i l3), (4, sy_i l4), (5, sy_i l5), (6, sy_i l6)], [sy_i l5], h)) mj_d_183_54 (fun _ _ => rfl) ?_
      refine sy_ifc mj_d_183_56 rfl ⟨by omega, by omega⟩ (fun (c7 : l5 = 0) => ?_) (fun (c7 : ¬ (l5 = 0)) => ?_)
      · skip
        rw [if_pos c7]
        refine sy_st (S' := (mj_m_183, 101, [(0, .ref 234), (1, sy_i l1), (2, sy_i l2), (3, sy_i l3), (4, sy_i l4), (5, sy_i l5), (6, sy_i l6)], [sy_i 0], h)) mj_d_183_100 (fun _ _ => rfl) ?_
        refine sy_st (S' := (mj_m_183, 103, [(5, sy_i 0), (0, .ref 234), (1, sy_i l1), (2, sy_i l2), (3, sy_i l3), (4, sy_i l4), (6, sy_i l6)], [], h)) mj_d_183_101 (fun _ _ => rfl) ?_
        refine sy_inc (a := l6) (lv' := [(6, sy_i (l6 + 1)), (5, sy_i 0), (0, .ref 234), (1, sy_i l1), (2, sy_i l2), (3, sy_i l3), (4, sy_i l4)]) mj_d_183_103 (Nat.le_of_ble_eq_true rfl) rfl rfl ?_
        refine sy_st (S' := (mj_m_183, 45, [(6, sy_i (l6 + 1)), (5, sy_i 0), (0, .ref 234), (1, sy_i l1), (2, sy_i l2), (3, sy_i l3), (4, sy_i l4)], [], h)) mj_d_183_106 (fun _ _ => rfl) ?_
        refine sy_lv (lv := [(0, .ref 234), (1, sy_i l1), (2, sy_i l2), (3, sy_i l3), (4, sy_i l4), (5, sy_i 0), (6, sy_i (l6 + 1))]) rfl ⟨rfl, rfl, rfl, rfl, rfl, rfl, rfl, trivial⟩ ?_
        exact ih hH (by first | omega | assumption) (by first | omega | assumption) (by first | omega | assumption) (by first | omega | assumption) (by first | omega | assumption) (by first | omega | assumption) (by first | omega | assumption) (by first | omega | assumption) (by first | omega | assumption) (by first | omega | assumption) (by first | omega | assumption) (by first | omega | assumption) (by first | omega | assumption) (by first | omega | assumption) (by omega)
      · skip
        rw [if_neg c7]
        refine sy_st (S' := (mj_m_183, 60, [(0, .ref 234), (1, sy_i l1), (2, sy_i l2), (3, sy_i l3), (4, sy_i l4), (5, sy_i l5), (6, sy_i l6)], [.ref 234], h)) mj_d_183_59 (fun _ _ => rfl) ?_
        refine sy_gr2 (b := 250) mj_d_183_60 rfl rfl (by decide) rfl rfl hH ?_
        refine sy_st (S' := (mj_m_183, 65, [(0, .ref 234), (1, sy_i l1), (2, sy_i l2), (3, sy_i l3), (4, sy_i l4), (5, sy_i l5), (6, sy_i l6)], [sy_i l6, .ref 250], h)) mj_d_183_63 (fun _ _ => rfl) ?_
        refine sy_ia mj_d_183_65 rfl (by decide) (by omega) (by omega) (ab_el_1 rfl _) hH ?_
        rintro _ rfl bx8 tx8
        refine sy_st (S' := (mj_m_183, 67, [(0, .ref 234), (1, sy_i l1), (2, sy_i l2), (3, sy_i l3), (4, sy_i l4), (5, sy_i l5), (6, sy_i l6)], [sy_i l1, sy_i (sy_rd h 250 ((l6).toNat))], h)) mj_d_183_66 (fun _ _ => rfl) ?_
        refine sy_icm mj_d_183_67 rfl ⟨by omega, by omega⟩ ⟨by omega, by omega⟩ (fun (c9 : ¬ ((sy_rd h 250 ((l6).toNat)) = l1)) => ?_) (fun (c9 : ¬ ¬ ((sy_rd h 250 ((l6).toNat)) = l1)) => ?_)
        · skip
          rw [if_neg c9]
          refine sy_st (S' := (mj_m_183, 97, [(0, .ref 234), (1, sy_i l1), (2, sy_i l2), (3, sy_i l3), (4, sy_i l4), (5, sy_i l5), (6, sy_i l6)], [sy_i 1], h)) mj_d_183_96 (fun _ _ => rfl) ?_
          refine sy_st (S' := (mj_m_183, 101, [(0, .ref 234), (1, sy_i l1), (2, sy_i l2), (3, sy_i l3), (4, sy_i l4), (5, sy_i l5), (6, sy_i l6)], [sy_i 1], h)) mj_d_183_97 (fun _ _ => rfl) ?_
          refine sy_st (S' := (mj_m_183, 103, [(5, sy_i 1), (0, .ref 234), (1, sy_i l1), (2, sy_i l2), (3, sy_i l3), (4, sy_i l4), (6, sy_i l6)], [], h)) mj_d_183_101 (fun _ _ => rfl) ?_
          refine sy_inc (a := l6) (lv' := [(6, sy_i (l6 + 1)), (5, sy_i 1), (0, .ref 234), (1, sy_i l1), (2, sy_i l2), (3, sy_i l3), (4, sy_i l4)]) mj_d_183_103 (Nat.le_of_ble_eq_true rfl) rfl rfl ?_
          refine sy_st (S' := (mj_m_183, 45, [(6, sy_i (l6 + 1)), (5, sy_i 1), (0, .ref 234), (1, sy_i l1), (2, sy_i l2), (3, sy_i l3), (4, sy_i l4)], [], h)) mj_d_183_106 (fun _ _ => rfl) ?_
          refine sy_lv (lv := [(0, .ref 234), (1, sy_i l1), (2, sy_i l2), (3, sy_i l3), (4, sy_i l4), (5, sy_i 1), (6, sy_i (l6 + 1))]) rfl ⟨rfl, rfl, rfl, rfl, rfl, rfl, rfl, trivial⟩ ?_
          exact ih hH (by first | omega | assumption) (by first | omega | assumption) (by first | omega | assumption) (by first | omega | assumption) (by first | omega | assumption) (by first | omega | assumption) (by first | omega | assumption) (by first | omega | assumption) (by first | omega | assumption) (by first | omega | assumption) (by first | omega | assumption) (by first | omega | assumption) (by first | omega | assumption) (by first | omega | assumption) (by omega)
        · skip
          rw [if_pos (Decidable.not_not.mp c9)]
          replace c9 := Decidable.not_not.mp c9
          refine sy_st (S' := (mj_m_183, 71, [(0, .ref 234), (1, sy_i l1), (2, sy_i l2), (3, sy_i l3), (4, sy_i l4), (5, sy_i l5), (6, sy_i l6)], [.ref 234], h)) mj_d_183_70 (fun _ _ => rfl) ?_
          refine sy_st (S' := (mj_m_183, 73, [(0, .ref 234), (1, sy_i l1), (2, sy_i l2), (3, sy_i l3), (4, sy_i l4), (5, sy_i l5), (6, sy_i l6)], [sy_i l4, .ref 234], h)) mj_d_183_71 (fun _ _ => rfl) ?_
          refine sy_cv (M' := mj_m_170) (vs := [.ref 234, sy_i l4]) (rest := []) mj_d_183_73 rfl rfl rfl rfl hH rfl rfl ⟨by decide, ⟨Nat.le_of_ble_eq_true rfl, Nat.le_of_ble_eq_true rfl, Nat.le_of_ble_eq_true rfl, Nat.le_of_ble_eq_true rfl, Nat.le_of_ble_eq_true rfl⟩⟩ (dt_R_sootOf (a1 := l4) hH (by omega) (by omega) (by first | omega | assumption)) ?_
          rintro _ _ ⟨rfl, rfl, b10, b10t⟩
          show sy_wp (mj_m_183, 76, [(0, .ref 234), (1, sy_i l1), (2, sy_i l2), (3, sy_i l3), (4, sy_i l4), (5, sy_i l5), (6, sy_i l6)], [sy_i (dc_R_sootOf (sy_rd h) l4)], h) _
          refine sy_st (S' := (mj_m_183, 77, [(0, .ref 234), (1, sy_i l1), (2, sy_i l2), (3, sy_i l3), (4, sy_i l4), (5, sy_i l5), (6, sy_i l6)], [.ref 234, sy_i (dc_R_sootOf (sy_rd h) l4)], h)) mj_d_183_76 (fun _ _ => rfl) ?_
          refine sy_gr2 (b := 249) mj_d_183_77 rfl rfl (by decide) rfl rfl hH ?_
          refine sy_st (S' := (mj_m_183, 82, [(0, .ref 234), (1, sy_i l1), (2, sy_i l2), (3, sy_i l3), (4, sy_i l4), (5, sy_i l5), (6, sy_i l6)], [sy_i l6, .ref 249, sy_i (dc_R_sootOf (sy_rd h) l4)], h)) mj_d_183_80 (fun _ _ => rfl) ?_
          refine sy_ia mj_d_183_82 rfl (by decide) (by omega) (by omega) (ab_el_1 rfl _) hH ?_
          rintro _ rfl bx11 tx11
          refine sy_cs (M' := mj_m_161) (vs := [sy_i (dc_R_sootOf (sy_rd h) l4), sy_i (sy_rd h 249 ((l6).toNat))]) (rest := []) mj_d_183_83 rfl rfl rfl rfl ⟨Nat.le_of_ble_eq_true rfl, Nat.le_of_ble_eq_true rfl, Nat.le_of_ble_eq_true rfl, Nat.le_of_ble_eq_true rfl, Nat.le_of_ble_eq_true rfl⟩ (dt_R_has (a0 := (dc_R_sootOf (sy_rd h) l4)) (a1 := (sy_rd h 249 ((l6).toNat))) hH (by omega) (by omega) (by omega) (by omega)) ?_
          rintro _ _ ⟨rfl, rfl, b12, b12t⟩
          show sy_wp (mj_m_183, 86, [(0, .ref 234), (1, sy_i l1), (2, sy_i l2), (3, sy_i l3), (4, sy_i l4), (5, sy_i l5), (6, sy_i l6)], [sy_i (dc_R_has (sy_rd h) (dc_R_sootOf (sy_rd h) l4) (sy_rd h 249 ((l6).toNat)))], h) _
          refine sy_st (S' := (mj_m_183, 87, [(0, .ref 234), (1, sy_i l1), (2, sy_i l2), (3, sy_i l3), (4, sy_i l4), (5, sy_i l5), (6, sy_i l6)], [.ref 234, sy_i (dc_R_has (sy_rd h) (dc_R_sootOf (sy_rd h) l4) (sy_rd h 249 ((l6).toNat)))], h)) mj_d_183_86 (fun _ _ => rfl) ?_
          refine sy_gr2 (b := 251) mj_d_183_87 rfl rfl (by decide) rfl rfl hH ?_
          refine sy_st (S' := (mj_m_183, 92, [(0, .ref 234), (1, sy_i l1), (2, sy_i l2), (3, sy_i l3), (4, sy_i l4), (5, sy_i l5), (6, sy_i l6)], [sy_i l6, .ref 251, sy_i (dc_R_has (sy_rd h) (dc_R_sootOf (sy_rd h) l4) (sy_rd h 249 ((l6).toNat)))], h)) mj_d_183_90 (fun _ _ => rfl) ?_
          refine sy_ba mj_d_183_92 rfl (by decide) (by omega) (by omega) (ab_el_1 rfl _) hH ?_
          rintro _ rfl bx13 tx13
          refine sy_icm mj_d_183_93 rfl ⟨by omega, by omega⟩ ⟨by omega, by omega⟩ (fun (c14 : ¬ ((dc_R_has (sy_rd h) (dc_R_sootOf (sy_rd h) l4) (sy_rd h 249 ((l6).toNat))) = (sy_rd h 251 ((l6).toNat)))) => ?_) (fun (c14 : ¬ ¬ ((dc_R_has (sy_rd h) (dc_R_sootOf (sy_rd h) l4) (sy_rd h 249 ((l6).toNat))) = (sy_rd h 251 ((l6).toNat)))) => ?_)
          · skip
            rw [if_neg c14]
            refine sy_st (S' := (mj_m_183, 101, [(0, .ref 234), (1, sy_i l1), (2, sy_i l2), (3, sy_i l3), (4, sy_i l4), (5, sy_i l5), (6, sy_i l6)], [sy_i 0], h)) mj_d_183_100 (fun _ _ => rfl) ?_
            refine sy_st (S' := (mj_m_183, 103, [(5, sy_i 0), (0, .ref 234), (1, sy_i l1), (2, sy_i l2), (3, sy_i l3), (4, sy_i l4), (6, sy_i l6)], [], h)) mj_d_183_101 (fun _ _ => rfl) ?_
            refine sy_inc (a := l6) (lv' := [(6, sy_i (l6 + 1)), (5, sy_i 0), (0, .ref 234), (1, sy_i l1), (2, sy_i l2), (3, sy_i l3), (4, sy_i l4)]) mj_d_183_103 (Nat.le_of_ble_eq_true rfl) rfl rfl ?_
            refine sy_st (S' := (mj_m_183, 45, [(6, sy_i (l6 + 1)), (5, sy_i 0), (0, .ref 234), (1, sy_i l1), (2, sy_i l2), (3, sy_i l3), (4, sy_i l4)], [], h)) mj_d_183_106 (fun _ _ => rfl) ?_
            refine sy_lv (lv := [(0, .ref 234), (1, sy_i l1), (2, sy_i l2), (3, sy_i l3), (4, sy_i l4), (5, sy_i 0), (6, sy_i (l6 + 1))]) rfl ⟨rfl, rfl, rfl, rfl, rfl, rfl, rfl, trivial⟩ ?_
            exact ih hH (by first | omega | assumption) (by first | omega | assumption) (by first | omega | assumption) (by first | omega | assumption) (by first | omega | assumption) (by first | omega | assumption) (by first | omega | assumption) (by first | omega | assumption) (by first | omega | assumption) (by first | omega | assumption) (by first | omega | assumption) (by first | omega | assumption) (by first | omega | assumption) (by first | omega | assumption) (by omega)
          · skip
            rw [if_pos (Decidable.not_not.mp c14)]
            replace c14 := Decidable.not_not.mp c14
            refine sy_st (S' := (mj_m_183, 97, [(0, .ref 234), (1, sy_i l1), (2, sy_i l2), (3, sy_i l3), (4, sy_i l4), (5, sy_i l5), (6, sy_i l6)], [sy_i 1], h)) mj_d_183_96 (fun _ _ => rfl) ?_
            refine sy_st (S' := (mj_m_183, 101, [(0, .ref 234), (1, sy_i l1), (2, sy_i l2), (3, sy_i l3), (4, sy_i l4), (5, sy_i l5), (6, sy_i l6)], [sy_i 1], h)) mj_d_183_97 (fun _ _ => rfl) ?_
            refine sy_st (S' := (mj_m_183, 103, [(5, sy_i 1), (0, .ref 234), (1, sy_i l1), (2, sy_i l2), (3, sy_i l3), (4, sy_i l4), (6, sy_i l6)], [], h)) mj_d_183_101 (fun _ _ => rfl) ?_
            refine sy_inc (a := l6) (lv' := [(6, sy_i (l6 + 1)), (5, sy_i 1), (0, .ref 234), (1, sy_i l1), (2, sy_i l2), (3, sy_i l3), (4, sy_i l4)]) mj_d_183_103 (Nat.le_of_ble_eq_true rfl) rfl rfl ?_
            refine sy_st (S' := (mj_m_183, 45, [(6, sy_i (l6 + 1)), (5, sy_i 1), (0, .ref 234), (1, sy_i l1), (2, sy_i l2), (3, sy_i l3), (4, sy_i l4)], [], h)) mj_d_183_106 (fun _ _ => rfl) ?_
            refine sy_lv (lv := [(0, .ref 234), (1, sy_i l1), (2, sy_i l2), (3, sy_i l3), (4, sy_i l4), (5, sy_i 1), (6, sy_i (l6 + 1))]) rfl ⟨rfl, rfl, rfl, rfl, rfl, rfl, rfl, trivial⟩ ?_
            exact ih hH (by first | omega | assumption) (by first | omega | assumption) (by first | omega | assumption) (by first | omega | assumption) (by first | omega | assumption) (by first | omega | assumption) (by first | omega | assumption) (by first | omega | assumption) (by first | omega | assumption) (by first | omega | assumption) (by first | omega | assumption) (by first | omega | assumption) (by first | omega | assumption) (by first | omega | assumption) (by omega)
set_option maxRecDepth 100000 in
theorem dt_R_next_164 {k149 : sg_S → Int → Int → Int → Int → Int} {n149 : Nat} (hk149 : ∀ {h1 : mj_H}, sy_H h1 → ∀ {l3 l4 l5 l6 : Int}, 0 ≤ l3 → l3 ≤ 511 → (-1) ≤ l4 → l4 ≤ 8 → (-100) ≤ l5 → l5 ≤ 100 → 0 ≤ l6 → l6 ≤ 9 → (sy_rd h1 234 6) ≤ 0 ∨ (sy_rd h1 235 11) = -1 → 9 - l6 < (n149 : Int) → sy_wp (mj_m_183, 149, [(0, .ref 234), (3, sy_i l3), (4, sy_i l4), (5, sy_i l5), (6, sy_i l6)], [], h1) (dq1 h1 (-2147483648) (2147483647) (k149 (sy_rd h1) l3 l4 l5 l6))) : ∀ (n : Nat) {h : mj_H} (hH : sy_H h) {l3 l4 l5 l6 l7 l8 : Int} (b_l3 : 0 ≤ l3) (t_l3 : l3 ≤ 511) (b_l4 : (-1) ≤ l4) (t_l4 : l4 ≤ 8) (b_l5 : (-100) ≤ l5) (t_l5 : l5 ≤ 100) (b_l6 : 0 ≤ l6) (t_l6 : l6 ≤ 8) (b_l7 : 0 ≤ l7) (t_l7 : l7 ≤ 9) (b_l8 : 0 ≤ l8) (t_l8 : l8 ≤ 9) (i0 : l7 ≤ l8) (i1 : (sy_rd h 235 11) = -1) (i2 : 9 - (l6 + 1) < (n149 : Int)) (hm : 9 - l8 < (n : Int)), sy_wp (mj_m_183, 164, [(0, .ref 234), (3, sy_i l3), (4, sy_i l4), (5, sy_i l5), (6, sy_i l6), (7, sy_i l7), (8, sy_i l8)], [], h) (dq1 h (-2147483648) (2147483647) (dc_R_next_164 k149 n (sy_rd h) l3 l4 l5 l6 l7 l8)) := by
  intro n
  induction n with
  | zero =>
    intro h hH l3 l4 l5 l6 l7 l8 b_l3 t_l3 b_l4 t_l4 b_l5 t_l5 b_l6 t_l6 b_l7 t_l7 b_l8 t_l8 i0 i1 i2 hm
    exact absurd hm (by omega)
  | succ n ih =>
    intro h hH l3 l4 l5 l6 l7 l8 b_l3 t_l3 b_l4 t_l4 b_l5 t_l5 b_l6 t_l6 b_l7 t_l7 b_l8 t_l8 i0 i1 i2 hm
    rw [dc_R_next_164_s]
    refine sy_st (S' := (mj_m_183, 166, [(0, .ref 234), (3, sy_i l3), (4, sy_i l4), (5, sy_i l5), (6, sy_i l6), (7, sy_i l7), (8, sy_i l8)], [sy_i l8], h)) mj_d_183_164 (fun _ _ => rfl) ?_
    refine sy_st (S' := (mj_m_183, 167, [(0, .ref 234), (3, sy_i l3), (4, sy_i l4), (5, sy_i l5), (6, sy_i l6), (7, sy_i l7), (8, sy_i l8)], [.ref 234, sy_i l8], h)) mj_d_183_166 (fun _ _ => rfl) ?_
    refine sy_gf mj_d_183_167 rfl rfl (by decide) rfl hH ?_
    intro x1 ex1 bx1 tx1
    replace ex1 : x1 = sy_rd h 234 6 := ex1
    subst ex1
    refine sy_icm mj_d_183_170 rfl ⟨by omega, by omega⟩ ⟨by omega, by omega⟩ (fun (c2 : (sy_rd h 234 6) ≤ l8) => ?_) (fun (c2 : ¬ ((sy_rd h 234 6) ≤ l8)) => ?_)
    · skip
      rw [if_pos c2]
      refine sy_st (S' := (mj_m_183, 213, [(0, .ref 234), (3, sy_i l3), (4, sy_i l4), (5, sy_i l5), (6, sy_i l6), (7, sy_i l7), (8, sy_i l8)], [sy_i l3], h)) mj_d_183_212 (fun _ _ => rfl) ?_
      refine sy_cs (M' := mj_m_176) (vs := [sy_i l3]) (rest := []) mj_d_183_213 rfl rfl rfl rfl ⟨Nat.le_of_ble_eq_true rfl, Nat.le_of_ble_eq_true rfl, Nat.le_of_ble_eq_true rfl, Nat.le_of_ble_eq_true rfl, Nat.le_of_ble_eq_true rfl⟩ (dt_R_ones (a0 := l3) hH (by omega) (by omega)) ?_
      rintro _ _ ⟨rfl, rfl, b3, b3t⟩
      show sy_wp (mj_m_183, 216, [(0, .ref 234), (3, sy_i l3), (4, sy_i l4), (5, sy_i l5), (6, sy_i l6), (7, sy_i l7), (8, sy_i l8)], [sy_i (dc_R_ones (sy_rd h) l3)], h) _
      refine sy_st (S' := (mj_m_183, 218, [(0, .ref 234), (3, sy_i l3), (4, sy_i l4), (5, sy_i l5), (6, sy_i l6), (7, sy_i l7), (8, sy_i l8)], [sy_i l7, sy_i (dc_R_ones (sy_rd h) l3)], h)) mj_d_183_216 (fun _ _ => rfl) ?_
      refine sy_sub mj_d_183_218 ?_
      refine sy_st (S' := (mj_m_183, 221, [(8, sy_i ((dc_R_ones (sy_rd h) l3) - l7)), (0, .ref 234), (3, sy_i l3), (4, sy_i l4), (5, sy_i l5), (6, sy_i l6), (7, sy_i l7)], [], h)) mj_d_183_219 (fun _ _ => rfl) ?_
      refine sy_st (S' := (mj_m_183, 223, [(8, sy_i ((dc_R_ones (sy_rd h) l3) - l7)), (0, .ref 234), (3, sy_i l3), (4, sy_i l4), (5, sy_i l5), (6, sy_i l6), (7, sy_i l7)], [sy_i l7], h)) mj_d_183_221 (fun _ _ => rfl) ?_
      refine sy_st (S' := (mj_m_183, 225, [(8, sy_i ((dc_R_ones (sy_rd h) l3) - l7)), (0, .ref 234), (3, sy_i l3), (4, sy_i l4), (5, sy_i l5), (6, sy_i l6), (7, sy_i l7)], [sy_i ((dc_R_ones (sy_rd h) l3) - l7), sy_i l7], h)) mj_d_183_223 (fun _ _ => rfl) ?_
      refine sy_icm mj_d_183_225 rfl ⟨by omega, by omega⟩ ⟨by omega, by omega⟩ (fun (c4 : l7 ≤ ((dc_R_ones (sy_rd h) l3) - l7)) => ?_) (fun (c4 : ¬ (l7 ≤ ((dc_R_ones (sy_rd h) l3) - l7))) => ?_)
      · skip
        rw [if_pos c4]
        refine sy_st (S' := (mj_m_183, 235, [(8, sy_i ((dc_R_ones (sy_rd h) l3) - l7)), (0, .ref 234), (3, sy_i l3), (4, sy_i l4), (5, sy_i l5), (6, sy_i l6), (7, sy_i l7)], [sy_i ((dc_R_ones (sy_rd h) l3) - l7)], h)) mj_d_183_233 (fun _ _ => rfl) ?_
        refine sy_st (S' := (mj_m_183, 237, [(9, sy_i ((dc_R_ones (sy_rd h) l3) - l7)), (8, sy_i ((dc_R_ones (sy_rd h) l3) - l7)), (0, .ref 234), (3, sy_i l3), (4, sy_i l4), (5, sy_i l5), (6, sy_i l6), (7, sy_i l7)], [], h)) mj_d_183_235 (fun _ _ => rfl) ?_
        refine sy_st (S' := (mj_m_183, 239, [(9, sy_i ((dc_R_ones (sy_rd h) l3) - l7)), (8, sy_i ((dc_R_ones (sy_rd h) l3) - l7)), (0, .ref 234), (3, sy_i l3), (4, sy_i l4), (5, sy_i l5), (6, sy_i l6), (7, sy_i l7)], [sy_i ((dc_R_ones (sy_rd h) l3) - l7)], h)) mj_d_183_237 (fun _ _ => rfl) ?_
        refine sy_st (S' := (mj_m_183, 241, [(9, sy_i ((dc_R_ones (sy_rd h) l3) - l7)), (8, sy_i ((dc_R_ones (sy_rd h) l3) - l7)), (0, .ref 234), (3, sy_i l3), (4, sy_i l4), (5, sy_i l5), (6, sy_i l6), (7, sy_i l7)], [sy_i l5, sy_i ((dc_R_ones (sy_rd h) l3) - l7)], h)) mj_d_183_239 (fun _ _ => rfl) ?_
        refine sy_icm mj_d_183_241 rfl ⟨by omega, by omega⟩ ⟨by omega, by omega⟩ (fun (c5 : l5 ≤ ((dc_R_ones (sy_rd h) l3) - l7)) => ?_) (fun (c5 : ¬ (l5 ≤ ((dc_R_ones (sy_rd h) l3) - l7))) => ?_)
        · skip
          rw [if_pos c5]
          refine sy_st (S' := (mj_m_183, 251, [(9, sy_i ((dc_R_ones (sy_rd h) l3) - l7)), (8, sy_i ((dc_R_ones (sy_rd h) l3) - l7)), (0, .ref 234), (3, sy_i l3), (4, sy_i l4), (5, sy_i l5), (6, sy_i l6), (7, sy_i l7)], [sy_i l4], h)) mj_d_183_249 (fun _ _ => rfl) ?_
          refine sy_st (S' := (mj_m_183, 253, [(4, sy_i l4), (9, sy_i ((dc_R_ones (sy_rd h) l3) - l7)), (8, sy_i ((dc_R_ones (sy_rd h) l3) - l7)), (0, .ref 234), (3, sy_i l3), (5, sy_i l5), (6, sy_i l6), (7, sy_i l7)], [], h)) mj_d_183_251 (fun _ _ => rfl) ?_
          refine sy_st (S' := (mj_m_183, 255, [(4, sy_i l4), (9, sy_i ((dc_R_ones (sy_rd h) l3) - l7)), (8, sy_i ((dc_R_ones (sy_rd h) l3) - l7)), (0, .ref 234), (3, sy_i l3), (5, sy_i l5), (6, sy_i l6), (7, sy_i l7)], [sy_i ((dc_R_ones (sy_rd h) l3) - l7)], h)) mj_d_183_253 (fun _ _ => rfl) ?_
          refine sy_st (S' := (mj_m_183, 257, [(4, sy_i l4), (9, sy_i ((dc_R_ones (sy_rd h) l3) - l7)), (8, sy_i ((dc_R_ones (sy_rd h) l3) - l7)), (0, .ref 234), (3, sy_i l3), (5, sy_i l5), (6, sy_i l6), (7, sy_i l7)], [sy_i l5, sy_i ((dc_R_ones (sy_rd h) l3) - l7)], h)) mj_d_183_255 (fun _ _ => rfl) ?_
          refine sy_icm mj_d_183_257 rfl ⟨by omega, by omega⟩ ⟨by omega, by omega⟩ (fun (c6 : l5 ≤ ((dc_R_ones (sy_rd h) l3) - l7)) => ?_) (fun (c6 : ¬ (l5 ≤ ((dc_R_ones (sy_rd h) l3) - l7))) => ?_)
          · skip
            rw [if_pos c6]
            refine sy_st (S' := (mj_m_183, 267, [(4, sy_i l4), (9, sy_i ((dc_R_ones (sy_rd h) l3) - l7)), (8, sy_i ((dc_R_ones (sy_rd h) l3) - l7)), (0, .ref 234), (3, sy_i l3), (5, sy_i l5), (6, sy_i l6), (7, sy_i l7)], [sy_i l5], h)) mj_d_183_265 (fun _ _ => rfl) ?_
            refine sy_st (S' := (mj_m_183, 269, [(5, sy_i l5), (4, sy_i l4), (9, sy_i ((dc_R_ones (sy_rd h) l3) - l7)), (8, sy_i ((dc_R_ones (sy_rd h) l3) - l7)), (0, .ref 234), (3, sy_i l3), (6, sy_i l6), (7, sy_i l7)], [], h)) mj_d_183_267 (fun _ _ => rfl) ?_
            refine sy_inc (a := l6) (lv' := [(6, sy_i (l6 + 1)), (5, sy_i l5), (4, sy_i l4), (9, sy_i ((dc_R_ones (sy_rd h) l3) - l7)), (8, sy_i ((dc_R_ones (sy_rd h) l3) - l7)), (0, .ref 234), (3, sy_i l3), (7, sy_i l7)]) mj_d_183_269 (Nat.le_of_ble_eq_true rfl) rfl rfl ?_
            refine sy_st (S' := (mj_m_183, 149, [(6, sy_i (l6 + 1)), (5, sy_i l5), (4, sy_i l4), (9, sy_i ((dc_R_ones (sy_rd h) l3) - l7)), (8, sy_i ((dc_R_ones (sy_rd h) l3) - l7)), (0, .ref 234), (3, sy_i l3), (7, sy_i l7)], [], h)) mj_d_183_272 (fun _ _ => rfl) ?_
            refine sy_lv (lv := [(0, .ref 234), (3, sy_i l3), (4, sy_i l4), (5, sy_i l5), (6, sy_i (l6 + 1))]) rfl ⟨rfl, rfl, rfl, rfl, rfl, trivial⟩ ?_
            exact hk149 hH (by first | omega | assumption) (by first | omega | assumption) (by first | omega | assumption) (by first | omega | assumption) (by first | omega | assumption) (by first | omega | assumption) (by first | omega | assumption) (by first | omega | assumption) (by first | omega | assumption) (by omega)
          · skip
            rw [if_neg c6]
            refine sy_st (S' := (mj_m_183, 262, [(4, sy_i l4), (9, sy_i ((dc_R_ones (sy_rd h) l3) - l7)), (8, sy_i ((dc_R_ones (sy_rd h) l3) - l7)), (0, .ref 234), (3, sy_i l3), (5, sy_i l5), (6, sy_i l6), (7, sy_i l7)], [sy_i ((dc_R_ones (sy_rd h) l3) - l7)], h)) mj_d_183_260 (fun _ _ => rfl) ?_
            refine sy_st (S' := (mj_m_183, 267, [(4, sy_i l4), (9, sy_i ((dc_R_ones (sy_rd h) l3) - l7)), (8, sy_i ((dc_R_ones (sy_rd h) l3) - l7)), (0, .ref 234), (3, sy_i l3), (5, sy_i l5), (6, sy_i l6), (7, sy_i l7)], [sy_i ((dc_R_ones (sy_rd h) l3) - l7)], h)) mj_d_183_262 (fun _ _ => rfl) ?_
            refine sy_st (S' := (mj_m_183, 269, [(5, sy_i ((dc_R_ones (sy_rd h) l3) - l7)), (4, sy_i l4), (9, sy_i ((dc_R_ones (sy_rd h) l3) - l7)), (8, sy_i ((dc_R_ones (sy_rd h) l3) - l7)), (0, .ref 234), (3, sy_i l3), (6, sy_i l6), (7, sy_i l7)], [], h)) mj_d_183_267 (fun _ _ => rfl) ?_
            refine sy_inc (a := l6) (lv' := [(6, sy_i (l6 + 1)), (5, sy_i ((dc_R_ones (sy_rd h) l3) - l7)), (4, sy_i l4), (9, sy_i ((dc_R_ones (sy_rd h) l3) - l7)), (8, sy_i ((dc_R_ones (sy_rd h) l3) - l7)), (0, .ref 234), (3, sy_i l3), (7, sy_i l7)]) mj_d_183_269 (Nat.le_of_ble_eq_true rfl) rfl rfl ?_
            refine sy_st (S' := (mj_m_183, 149, [(6, sy_i (l6 + 1)), (5, sy_i ((dc_R_ones (sy_rd h) l3) - l7)), (4, sy_i l4), (9, sy_i ((dc_R_ones (sy_rd h) l3) - l7)), (8, sy_i ((dc_R_ones (sy_rd h) l3) - l7)), (0, .ref 234), (3, sy_i l3), (7, sy_i l7)], [], h)) mj_d_183_272 (fun _ _ => rfl) ?_
            refine sy_lv (lv := [(0, .ref 234), (3, sy_i l3), (4, sy_i l4), (5, sy_i ((dc_R_ones (sy_rd h) l3) - l7)), (6, sy_i (l6 + 1))]) rfl ⟨rfl, rfl, rfl, rfl, rfl, trivial⟩ ?_
            exact hk149 hH (by first | omega | assumption) (by first | omega | assumption) (by first | omega | assumption) (by first | omega | assumption) (by first | omega | assumption) (by first | omega | assumption) (by first | omega | assumption) (by first | omega | assumption) (by first | omega | assumption) (by omega)
        · skip
          rw [if_neg c5]
          refine sy_st (S' := (mj_m_183, 246, [(9, sy_i ((dc_R_ones (sy_rd h) l3) - l7)), (8, sy_i ((dc_R_ones (sy_rd h) l3) - l7)), (0, .ref 234), (3, sy_i l3), (4, sy_i l4), (5, sy_i l5), (6, sy_i l6), (7, sy_i l7)], [sy_i l6], h)) mj_d_183_244 (fun _ _ => rfl) ?_
          refine sy_st (S' := (mj_m_183, 251, [(9, sy_i ((dc_R_ones (sy_rd h) l3) - l7)), (8, sy_i ((dc_R_ones (sy_rd h) l3) - l7)), (0, .ref 234), (3, sy_i l3), (4, sy_i l4), (5, sy_i l5), (6, sy_i l6), (7, sy_i l7)], [sy_i l6], h)) mj_d_183_246 (fun _ _ => rfl) ?_
          refine sy_st (S' := (mj_m_183, 253, [(4, sy_i l6), (9, sy_i ((dc_R_ones (sy_rd h) l3) - l7)), (8, sy_i ((dc_R_ones (sy_rd h) l3) - l7)), (0, .ref 234), (3, sy_i l3), (5, sy_i l5), (6, sy_i l6), (7, sy_i l7)], [], h)) mj_d_183_251 (fun _ _ => rfl) ?_
          refine sy_st (S' := (mj_m_183, 255, [(4, sy_i l6), (9, sy_i ((dc_R_ones (sy_rd h) l3) - l7)), (8, sy_i ((dc_R_ones (sy_rd h) l3) - l7)), (0, .ref 234), (3, sy_i l3), (5, sy_i l5), (6, sy_i l6), (7, sy_i l7)], [sy_i ((dc_R_ones (sy_rd h) l3) - l7)], h)) mj_d_183_253 (fun _ _ => rfl) ?_
          refine sy_st (S' := (mj_m_183, 257, [(4, sy_i l6), (9, sy_i ((dc_R_ones (sy_rd h) l3) - l7)), (8, sy_i ((dc_R_ones (sy_rd h) l3) - l7)), (0, .ref 234), (3, sy_i l3), (5, sy_i l5), (6, sy_i l6), (7, sy_i l7)], [sy_i l5, sy_i ((dc_R_ones (sy_rd h) l3) - l7)], h)) mj_d_183_255 (fun _ _ => rfl) ?_
          refine sy_icm mj_d_183_257 rfl ⟨by omega, by omega⟩ ⟨by omega, by omega⟩ (fun (c7 : l5 ≤ ((dc_R_ones (sy_rd h) l3) - l7)) => ?_) (fun (c7 : ¬ (l5 ≤ ((dc_R_ones (sy_rd h) l3) - l7))) => ?_)
          · skip
            rw [if_pos c7]
            refine sy_st (S' := (mj_m_183, 267, [(4, sy_i l6), (9, sy_i ((dc_R_ones (sy_rd h) l3) - l7)), (8, sy_i ((dc_R_ones (sy_rd h) l3) - l7)), (0, .ref 234), (3, sy_i l3), (5, sy_i l5), (6, sy_i l6), (7, sy_i l7)], [sy_i l5], h)) mj_d_183_265 (fun _ _ => rfl) ?_
            refine sy_st (S' := (mj_m_183, 269, [(5, sy_i l5), (4, sy_i l6), (9, sy_i ((dc_R_ones (sy_rd h) l3) - l7)), (8, sy_i ((dc_R_ones (sy_rd h) l3) - l7)), (0, .ref 234), (3, sy_i l3), (6, sy_i l6), (7, sy_i l7)], [], h)) mj_d_183_267 (fun _ _ => rfl) ?_
            refine sy_inc (a := l6) (lv' := [(6, sy_i (l6 + 1)), (5, sy_i l5), (4, sy_i l6), (9, sy_i ((dc_R_ones (sy_rd h) l3) - l7)), (8, sy_i ((dc_R_ones (sy_rd h) l3) - l7)), (0, .ref 234), (3, sy_i l3), (7, sy_i l7)]) mj_d_183_269 (Nat.le_of_ble_eq_true rfl) rfl rfl ?_
            refine sy_st (S' := (mj_m_183, 149, [(6, sy_i (l6 + 1)), (5, sy_i l5), (4, sy_i l6), (9, sy_i ((dc_R_ones (sy_rd h) l3) - l7)), (8, sy_i ((dc_R_ones (sy_rd h) l3) - l7)), (0, .ref 234), (3, sy_i l3), (7, sy_i l7)], [], h)) mj_d_183_272 (fun _ _ => rfl) ?_
            refine sy_lv (lv := [(0, .ref 234), (3, sy_i l3), (4, sy_i l6), (5, sy_i l5), (6, sy_i (l6 + 1))]) rfl ⟨rfl, rfl, rfl, rfl, rfl, trivial⟩ ?_
            exact hk149 hH (by first | omega | assumption) (by first | omega | assumption) (by first | omega | assumption) (by first | omega | assumption) (by first | omega | assumption) (by first | omega | assumption) (by first | omega | assumption) (by first | omega | assumption) (by first | omega | assumption) (by omega)
          · skip
            rw [if_neg c7]
            refine sy_st (S' := (mj_m_183, 262, [(4, sy_i l6), (9, sy_i ((dc_R_ones (sy_rd h) l3) - l7)), (8, sy_i ((dc_R_ones (sy_rd h) l3) - l7)), (0, .ref 234), (3, sy_i l3), (5, sy_i l5), (6, sy_i l6), (7, sy_i l7)], [sy_i ((dc_R_ones (sy_rd h) l3) - l7)], h)) mj_d_183_260 (fun _ _ => rfl) ?_
            refine sy_st (S' := (mj_m_183, 267, [(4, sy_i l6), (9, sy_i ((dc_R_ones (sy_rd h) l3) - l7)), (8, sy_i ((dc_R_ones (sy_rd h) l3) - l7)), (0, .ref 234), (3, sy_i l3), (5, sy_i l5), (6, sy_i l6), (7, sy_i l7)], [sy_i ((dc_R_ones (sy_rd h) l3) - l7)], h)) mj_d_183_262 (fun _ _ => rfl) ?_
            refine sy_st (S' := (mj_m_183, 269, [(5, sy_i ((dc_R_ones (sy_rd h) l3) - l7)), (4, sy_i l6), (9, sy_i ((dc_R_ones (sy_rd h) l3) - l7)), (8, sy_i ((dc_R_ones (sy_rd h) l3) - l7)), (0, .ref 234), (3, sy_i l3), (6, sy_i l6), (7, sy_i l7)], [], h)) mj_d_183_267 (fun _ _ => rfl) ?_
            refine sy_inc (a := l6) (lv' := [(6, sy_i (l6 + 1)), (5, sy_i ((dc_R_ones (sy_rd h) l3) - l7)), (4, sy_i l6), (9, sy_i ((dc_R_ones (sy_rd h) l3) - l7)), (8, sy_i ((dc_R_ones (sy_rd h) l3) - l7)), (0, .ref 234), (3, sy_i l3), (7, sy_i l7)]) mj_d_183_269 (Nat.le_of_ble_eq_true rfl) rfl rfl ?_
            refine sy_st (S' := (mj_m_183, 149, [(6, sy_i (l6 + 1)), (5, sy_i ((dc_R_ones (sy_rd h) l3) - l7)), (4, sy_i l6), (9, sy_i ((dc_R_ones (sy_rd h) l3) - l7)), (8, sy_i ((dc_R_ones (sy_rd h) l3) - l7)), (0, .ref 234), (3, sy_i l3), (7, sy_i l7)], [], h)) mj_d_183_272 (fun _ _ => rfl) ?_
            refine sy_lv (lv := [(0, .ref 234), (3, sy_i l3), (4, sy_i l6), (5, sy_i ((dc_R_ones (sy_rd h) l3) - l7)), (6, sy_i (l6 + 1))]) rfl ⟨rfl, rfl, rfl, rfl, rfl, trivial⟩ ?_
            exact hk149 hH (by first | omega | assumption) (by first | omega | assumption) (by first | omega | assumption) (by first | omega | assumption) (by first | omega | assumption) (by first | omega | assumption) (by first | omega | assumption) (by first | omega | assumption) (by first | omega | assumption) (by omega)
      · skip
        rw [if_neg c4]
        refine sy_st (S' := (mj_m_183, 230, [(8, sy_i ((dc_R_ones (sy_rd h) l3) - l7)), (0, .ref 234), (3, sy_i l3), (4, sy_i l4), (5, sy_i l5), (6, sy_i l6), (7, sy_i l7)], [sy_i l7], h)) mj_d_183_228 (fun _ _ => rfl) ?_
        refine sy_st (S' := (mj_m_183, 235, [(8, sy_i ((dc_R_ones (sy_rd h) l3) - l7)), (0, .ref 234), (3, sy_i l3), (4, sy_i l4), (5, sy_i l5), (6, sy_i l6), (7, sy_i l7)], [sy_i l7], h)) mj_d_183_230 (fun _ _ => rfl) ?_
        refine sy_st (S' := (mj_m_183, 237, [(9, sy_i l7), (8, sy_i ((dc_R_ones (sy_rd h) l3) - l7)), (0, .ref 234), (3, sy_i l3), (4, sy_i l4), (5, sy_i l5), (6, sy_i l6), (7, sy_i l7)], [], h)) mj_d_183_235 (fun _ _ => rfl) ?_
        refine sy_st (S' := (mj_m_183, 239, [(9, sy_i l7), (8, sy_i ((dc_R_ones (sy_rd h) l3) - l7)), (0, .ref 234), (3, sy_i l3), (4, sy_i l4), (5, sy_i l5), (6, sy_i l6), (7, sy_i l7)], [sy_i l7], h)) mj_d_183_237 (fun _ _ => rfl) ?_
        refine sy_st (S' := (mj_m_183, 241, [(9, sy_i l7), (8, sy_i ((dc_R_ones (sy_rd h) l3) - l7)), (0, .ref 234), (3, sy_i l3), (4, sy_i l4), (5, sy_i l5), (6, sy_i l6), (7, sy_i l7)], [sy_i l5, sy_i l7], h)) mj_d_183_239 (fun _ _ => rfl) ?_
        refine sy_icm mj_d_183_241 rfl ⟨by omega, by omega⟩ ⟨by omega, by omega⟩ (fun (c8 : l5 ≤ l7) => ?_) (fun (c8 : ¬ (l5 ≤ l7)) => ?_)
        · skip
          rw [if_pos c8]
          refine sy_st (S' := (mj_m_183, 251, [(9, sy_i l7), (8, sy_i ((dc_R_ones (sy_rd h) l3) - l7)), (0, .ref 234), (3, sy_i l3), (4, sy_i l4), (5, sy_i l5), (6, sy_i l6), (7, sy_i l7)], [sy_i l4], h)) mj_d_183_249 (fun _ _ => rfl) ?_
          refine sy_st (S' := (mj_m_183, 253, [(4, sy_i l4), (9, sy_i l7), (8, sy_i ((dc_R_ones (sy_rd h) l3) - l7)), (0, .ref 234), (3, sy_i l3), (5, sy_i l5), (6, sy_i l6), (7, sy_i l7)], [], h)) mj_d_183_251 (fun _ _ => rfl) ?_
          refine sy_st (S' := (mj_m_183, 255, [(4, sy_i l4), (9, sy_i l7), (8, sy_i ((dc_R_ones (sy_rd h) l3) - l7)), (0, .ref 234), (3, sy_i l3), (5, sy_i l5), (6, sy_i l6), (7, sy_i l7)], [sy_i l7], h)) mj_d_183_253 (fun _ _ => rfl) ?_
          refine sy_st (S' := (mj_m_183, 257, [(4, sy_i l4), (9, sy_i l7), (8, sy_i ((dc_R_ones (sy_rd h) l3) - l7)), (0, .ref 234), (3, sy_i l3), (5, sy_i l5), (6, sy_i l6), (7, sy_i l7)], [sy_i l5, sy_i l7], h)) mj_d_183_255 (fun _ _ => rfl) ?_
          refine sy_icm mj_d_183_257 rfl ⟨by omega, by omega⟩ ⟨by omega, by omega⟩ (fun (c9 : l5 ≤ l7) => ?_) (fun (c9 : ¬ (l5 ≤ l7)) => ?_)
          · skip
            rw [if_pos c9]
            refine sy_st (S' := (mj_m_183, 267, [(4, sy_i l4), (9, sy_i l7), (8, sy_i ((dc_R_ones (sy_rd h) l3) - l7)), (0, .ref 234), (3, sy_i l3), (5, sy_i l5), (6, sy_i l6), (7, sy_i l7)], [sy_i l5], h)) mj_d_183_265 (fun _ _ => rfl) ?_
            refine sy_st (S' := (mj_m_183, 269, [(5, sy_i l5), (4, sy_i l4), (9, sy_i l7), (8, sy_i ((dc_R_ones (sy_rd h) l3) - l7)), (0, .ref 234), (3, sy_i l3), (6, sy_i l6), (7, sy_i l7)], [], h)) mj_d_183_267 (fun _ _ => rfl) ?_
            refine sy_inc (a := l6) (lv' := [(6, sy_i (l6 + 1)), (5, sy_i l5), (4, sy_i l4), (9, sy_i l7), (8, sy_i ((dc_R_ones (sy_rd h) l3) - l7)), (0, .ref 234), (3, sy_i l3), (7, sy_i l7)]) mj_d_183_269 (Nat.le_of_ble_eq_true rfl) rfl rfl ?_
            refine sy_st (S' := (mj_m_183, 149, [(6, sy_i (l6 + 1)), (5, sy_i l5), (4, sy_i l4), (9, sy_i l7), (8, sy_i ((dc_R_ones (sy_rd h) l3) - l7)), (0, .ref 234), (3, sy_i l3), (7, sy_i l7)], [], h)) mj_d_183_272 (fun _ _ => rfl) ?_
            refine sy_lv (lv := [(0, .ref 234), (3, sy_i l3), (4, sy_i l4), (5, sy_i l5), (6, sy_i (l6 + 1))]) rfl ⟨rfl, rfl, rfl, rfl, rfl, trivial⟩ ?_
            exact hk149 hH (by first | omega | assumption) (by first | omega | assumption) (by first | omega | assumption) (by first | omega | assumption) (by first | omega | assumption) (by first | omega | assumption) (by first | omega | assumption) (by first | omega | assumption) (by first | omega | assumption) (by omega)
          · skip
            rw [if_neg c9]
            refine sy_st (S' := (mj_m_183, 262, [(4, sy_i l4), (9, sy_i l7), (8, sy_i ((dc_R_ones (sy_rd h) l3) - l7)), (0, .ref 234), (3, sy_i l3), (5, sy_i l5), (6, sy_i l6), (7, sy_i l7)], [sy_i l7], h)) mj_d_183_260 (fun _ _ => rfl) ?_
            refine sy_st (S' := (mj_m_183, 267, [(4, sy_i l4), (9, sy_i l7), (8, sy_i ((dc_R_ones (sy_rd h) l3) - l7)), (0, .ref 234), (3, sy_i l3), (5, sy_i l5), (6, sy_i l6), (7, sy_i l7)], [sy_i l7], h)) mj_d_183_262 (fun _ _ => rfl) ?_
            refine sy_st (S' := (mj_m_183, 269, [(5, sy_i l7), (4, sy_i l4), (9, sy_i l7), (8, sy_i ((dc_R_ones (sy_rd h) l3) - l7)), (0, .ref 234), (3, sy_i l3), (6, sy_i l6), (7, sy_i l7)], [], h)) mj_d_183_267 (fun _ _ => rfl) ?_
            refine sy_inc (a := l6) (lv' := [(6, sy_i (l6 + 1)), (5, sy_i l7), (4, sy_i l4), (9, sy_i l7), (8, sy_i ((dc_R_ones (sy_rd h) l3) - l7)), (0, .ref 234), (3, sy_i l3), (7, sy_i l7)]) mj_d_183_269 (Nat.le_of_ble_eq_true rfl) rfl rfl ?_
            refine sy_st (S' := (mj_m_183, 149, [(6, sy_i (l6 + 1)), (5, sy_i l7), (4, sy_i l4), (9, sy_i l7), (8, sy_i ((dc_R_ones (sy_rd h) l3) - l7)), (0, .ref 234), (3, sy_i l3), (7, sy_i l7)], [], h)) mj_d_183_272 (fun _ _ => rfl) ?_
            refine sy_lv (lv := [(0, .ref 234), (3, sy_i l3), (4, sy_i l4), (5, sy_i l7), (6, sy_i (l6 + 1))]) rfl ⟨rfl, rfl, rfl, rfl, rfl, trivial⟩ ?_
            exact hk149 hH (by first | omega | assumption) (by first | omega | assumption) (by first | omega | assumption) (by first | omega | assumption) (by first | omega | assumption) (by first | omega | assumption) (by first | omega | assumption) (by first | omega | assumption) (by first | omega | assumption) (by omega)
        · skip
          rw [if_neg c8]
          refine sy_st (S' := (mj_m_183, 246, [(9, sy_i l7), (8, sy_i ((dc_R_ones (sy_rd h) l3) - l7)), (0, .ref 234), (3, sy_i l3), (4, sy_i l4), (5, sy_i l5), (6, sy_i l6), (7, sy_i l7)], [sy_i l6], h)) mj_d_183_244 (fun _ _ => rfl) ?_
          refine sy_st (S' := (mj_m_183, 251, [(9, sy_i l7), (8, sy_i ((dc_R_ones (sy_rd h) l3) - l7)), (0, .ref 234), (3, sy_i l3), (4, sy_i l4), (5, sy_i l5), (6, sy_i l6), (7, sy_i l7)], [sy_i l6], h)) mj_d_183_246 (fun _ _ => rfl) ?_
          refine sy_st (S' := (mj_m_183, 253, [(4, sy_i l6), (9, sy_i l7), (8, sy_i ((dc_R_ones (sy_rd h) l3) - l7)), (0, .ref 234), (3, sy_i l3), (5, sy_i l5), (6, sy_i l6), (7, sy_i l7)], [], h)) mj_d_183_251 (fun _ _ => rfl) ?_
          refine sy_st (S' := (mj_m_183, 255, [(4, sy_i l6), (9, sy_i l7), (8, sy_i ((dc_R_ones (sy_rd h) l3) - l7)), (0, .ref 234), (3, sy_i l3), (5, sy_i l5), (6, sy_i l6), (7, sy_i l7)], [sy_i l7], h)) mj_d_183_253 (fun _ _ => rfl) ?_
          refine sy_st (S' := (mj_m_183, 257, [(4, sy_i l6), (9, sy_i l7), (8, sy_i ((dc_R_ones (sy_rd h) l3) - l7)), (0, .ref 234), (3, sy_i l3), (5, sy_i l5), (6, sy_i l6), (7, sy_i l7)], [sy_i l5, sy_i l7], h)) mj_d_183_255 (fun _ _ => rfl) ?_
          refine sy_icm mj_d_183_257 rfl ⟨by omega, by omega⟩ ⟨by omega, by omega⟩ (fun (c10 : l5 ≤ l7) => ?_) (fun (c10 : ¬ (l5 ≤ l7)) => ?_)
          · skip
            rw [if_pos c10]
            refine sy_st (S' := (mj_m_183, 267, [(4, sy_i l6), (9, sy_i l7), (8, sy_i ((dc_R_ones (sy_rd h) l3) - l7)), (0, .ref 234), (3, sy_i l3), (5, sy_i l5), (6, sy_i l6), (7, sy_i l7)], [sy_i l5], h)) mj_d_183_265 (fun _ _ => rfl) ?_
            refine sy_st (S' := (mj_m_183, 269, [(5, sy_i l5), (4, sy_i l6), (9, sy_i l7), (8, sy_i ((dc_R_ones (sy_rd h) l3) - l7)), (0, .ref 234), (3, sy_i l3), (6, sy_i l6), (7, sy_i l7)], [], h)) mj_d_183_267 (fun _ _ => rfl) ?_
            refine sy_inc (a := l6) (lv' := [(6, sy_i (l6 + 1)), (5, sy_i l5), (4, sy_i l6), (9, sy_i l7), (8, sy_i ((dc_R_ones (sy_rd h) l3) - l7)), (0, .ref 234), (3, sy_i l3), (7, sy_i l7)]) mj_d_183_269 (Nat.le_of_ble_eq_true rfl) rfl rfl ?_
            refine sy_st (S' := (mj_m_183, 149, [(6, sy_i (l6 + 1)), (5, sy_i l5), (4, sy_i l6), (9, sy_i l7), (8, sy_i ((dc_R_ones (sy_rd h) l3) - l7)), (0, .ref 234), (3, sy_i l3), (7, sy_i l7)], [], h)) mj_d_183_272 (fun _ _ => rfl) ?_
            refine sy_lv (lv := [(0, .ref 234), (3, sy_i l3), (4, sy_i l6), (5, sy_i l5), (6, sy_i (l6 + 1))]) rfl ⟨rfl, rfl, rfl, rfl, rfl, trivial⟩ ?_
            exact hk149 hH (by first | omega | assumption) (by first | omega | assumption) (by first | omega | assumption) (by first | omega | assumption) (by first | omega | assumption) (by first | omega | assumption) (by first | omega | assumption) (by first | omega | assumption) (by first | omega | assumption) (by omega)
          · skip
            rw [if_neg c10]
            refine sy_st (S' := (mj_m_183, 262, [(4, sy_i l6), (9, sy_i l7), (8, sy_i ((dc_R_ones (sy_rd h) l3) - l7)), (0, .ref 234), (3, sy_i l3), (5, sy_i l5), (6, sy_i l6), (7, sy_i l7)], [sy_i l7], h)) mj_d_183_260 (fun _ _ => rfl) ?_
            refine sy_st (S' := (mj_m_183, 267, [(4, sy_i l6), (9, sy_i l7), (8, sy_i ((dc_R_ones (sy_rd h) l3) - l7)), (0, .ref 234), (3, sy_i l3), (5, sy_i l5), (6, sy_i l6), (7, sy_i l7)], [sy_i l7], h)) mj_d_183_262 (fun _ _ => rfl) ?_
            refine sy_st (S' := (mj_m_183, 269, [(5, sy_i l7), (4, sy_i l6), (9, sy_i l7), (8, sy_i ((dc_R_ones (sy_rd h) l3) - l7)), (0, .ref 234), (3, sy_i l3), (6, sy_i l6), (7, sy_i l7)], [], h)) mj_d_183_267 (fun _ _ => rfl) ?_
            refine sy_inc (a := l6) (lv' := [(6, sy_i (l6 + 1)), (5, sy_i l7), (4, sy_i l6), (9, sy_i l7), (8, sy_i ((dc_R_ones (sy_rd h) l3) - l7)), (0, .ref 234), (3, sy_i l3), (7, sy_i l7)]) mj_d_183_269 (Nat.le_of_ble_eq_true rfl) rfl rfl ?_
            refine sy_st (S' := (mj_m_183, 149, [(6, sy_i (l6 + 1)), (5, sy_i l7), (4, sy_i l6), (9, sy_i l7), (8, sy_i ((dc_R_ones (sy_rd h) l3) - l7)), (0, .ref 234), (3, sy_i l3), (7, sy_i l7)], [], h)) mj_d_183_272 (fun _ _ => rfl) ?_
            refine sy_lv (lv := [(0, .ref 234), (3, sy_i l3), (4, sy_i l6), (5, sy_i l7), (6, sy_i (l6 + 1))]) rfl ⟨rfl, rfl, rfl, rfl, rfl, trivial⟩ ?_
            exact hk149 hH (by first | omega | assumption) (by first | omega | assumption) (by first | omega | assumption) (by first | omega | assumption) (by first | omega | assumption) (by first | omega | assumption) (by first | omega | assumption) (by first | omega | assumption) (by first | omega | assumption) (by omega)
    · skip
      rw [if_neg c2]
      refine sy_st (S' := (mj_m_183, 175, [(0, .ref 234), (3, sy_i l3), (4, sy_i l4), (5, sy_i l5), (6, sy_i l6), (7, sy_i l7), (8, sy_i l8)], [sy_i l7], h)) mj_d_183_173 (fun _ _ => rfl) ?_
      refine sy_st (S' := (mj_m_183, 176, [(0, .ref 234), (3, sy_i l3), (4, sy_i l4), (5, sy_i l5), (6, sy_i l6), (7, sy_i l7), (8, sy_i l8)], [sy_i l3, sy_i l7], h)) mj_d_183_175 (fun _ _ => rfl) ?_
      refine sy_st (S' := (mj_m_183, 178, [(0, .ref 234), (3, sy_i l3), (4, sy_i l4), (5, sy_i l5), (6, sy_i l6), (7, sy_i l7), (8, sy_i l8)], [sy_i l8, sy_i l3, sy_i l7], h)) mj_d_183_176 (fun _ _ => rfl) ?_
      refine sy_cs (M' := mj_m_161) (vs := [sy_i l3, sy_i l8]) (rest := [sy_i l7]) mj_d_183_178 rfl rfl rfl rfl ⟨Nat.le_of_ble_eq_true rfl, Nat.le_of_ble_eq_true rfl, Nat.le_of_ble_eq_true rfl, Nat.le_of_ble_eq_true rfl, Nat.le_of_ble_eq_true rfl⟩ (dt_R_has (a0 := l3) (a1 := l8) hH (by omega) (by omega) (by omega) (by omega)) ?_
      rintro _ _ ⟨rfl, rfl, b11, b11t⟩
      show sy_wp (mj_m_183, 181, [(0, .ref 234), (3, sy_i l3), (4, sy_i l4), (5, sy_i l5), (6, sy_i l6), (7, sy_i l7), (8, sy_i l8)], [sy_i (dc_R_has (sy_rd h) l3 l8), sy_i l7], h) _
      refine sy_ifc mj_d_183_181 rfl ⟨by omega, by omega⟩ (fun (c12 : (dc_R_has (sy_rd h) l3 l8) = 0) => ?_) (fun (c12 : ¬ ((dc_R_has (sy_rd h) l3 l8) = 0)) => ?_)
      · skip
        rw [if_pos c12]
        refine sy_st (S' := (mj_m_183, 203, [(0, .ref 234), (3, sy_i l3), (4, sy_i l4), (5, sy_i l5), (6, sy_i l6), (7, sy_i l7), (8, sy_i l8)], [sy_i 0, sy_i l7], h)) mj_d_183_202 (fun _ _ => rfl) ?_
        refine sy_add mj_d_183_203 ?_
        refine sy_st (S' := (mj_m_183, 206, [(7, sy_i (l7 + 0)), (0, .ref 234), (3, sy_i l3), (4, sy_i l4), (5, sy_i l5), (6, sy_i l6), (8, sy_i l8)], [], h)) mj_d_183_204 (fun _ _ => rfl) ?_
        refine sy_inc (a := l8) (lv' := [(8, sy_i (l8 + 1)), (7, sy_i (l7 + 0)), (0, .ref 234), (3, sy_i l3), (4, sy_i l4), (5, sy_i l5), (6, sy_i l6)]) mj_d_183_206 (Nat.le_of_ble_eq_true rfl) rfl rfl ?_
        refine sy_st (S' := (mj_m_183, 164, [(8, sy_i (l8 + 1)), (7, sy_i (l7 + 0)), (0, .ref 234), (3, sy_i l3), (4, sy_i l4), (5, sy_i l5), (6, sy_i l6)], [], h)) mj_d_183_209 (fun _ _ => rfl) ?_
        refine sy_lv (lv := [(0, .ref 234), (3, sy_i l3), (4, sy_i l4), (5, sy_i l5), (6, sy_i l6), (7, sy_i (l7 + 0)), (8, sy_i (l8 + 1))]) rfl ⟨rfl, rfl, rfl, rfl, rfl, rfl, rfl, trivial⟩ ?_
        exact ih hH (by first | omega | assumption) (by first | omega | assumption) (by first | omega | assumption) (by first | omega | assumption) (by first | omega | assumption) (by first | omega | assumption) (by first | omega | assumption) (by first | omega | assumption) (by first | omega | assumption) (by first | omega | assumption) (by first | omega | assumption) (by first | omega | assumption) (by first | omega | assumption) (by first | omega | assumption) (by first | omega | assumption) (by omega)
      · skip
        rw [if_neg c12]
        refine sy_st (S' := (mj_m_183, 185, [(0, .ref 234), (3, sy_i l3), (4, sy_i l4), (5, sy_i l5), (6, sy_i l6), (7, sy_i l7), (8, sy_i l8)], [.ref 234, sy_i l7], h)) mj_d_183_184 (fun _ _ => rfl) ?_
        refine sy_st (S' := (mj_m_183, 187, [(0, .ref 234), (3, sy_i l3), (4, sy_i l4), (5, sy_i l5), (6, sy_i l6), (7, sy_i l7), (8, sy_i l8)], [sy_i l8, .ref 234, sy_i l7], h)) mj_d_183_185 (fun _ _ => rfl) ?_
        refine sy_cv (M' := mj_m_170) (vs := [.ref 234, sy_i l8]) (rest := [sy_i l7]) mj_d_183_187 rfl rfl rfl rfl hH rfl rfl ⟨by decide, ⟨Nat.le_of_ble_eq_true rfl, Nat.le_of_ble_eq_true rfl, Nat.le_of_ble_eq_true rfl, Nat.le_of_ble_eq_true rfl, Nat.le_of_ble_eq_true rfl⟩⟩ (dt_R_sootOf (a1 := l8) hH (by omega) (by omega) (by first | omega | assumption)) ?_
        rintro _ _ ⟨rfl, rfl, b13, b13t⟩
        show sy_wp (mj_m_183, 190, [(0, .ref 234), (3, sy_i l3), (4, sy_i l4), (5, sy_i l5), (6, sy_i l6), (7, sy_i l7), (8, sy_i l8)], [sy_i (dc_R_sootOf (sy_rd h) l8), sy_i l7], h) _
        refine sy_st (S' := (mj_m_183, 192, [(0, .ref 234), (3, sy_i l3), (4, sy_i l4), (5, sy_i l5), (6, sy_i l6), (7, sy_i l7), (8, sy_i l8)], [sy_i l6, sy_i (dc_R_sootOf (sy_rd h) l8), sy_i l7], h)) mj_d_183_190 (fun _ _ => rfl) ?_
        refine sy_cs (M' := mj_m_161) (vs := [sy_i (dc_R_sootOf (sy_rd h) l8), sy_i l6]) (rest := [sy_i l7]) mj_d_183_192 rfl rfl rfl rfl ⟨Nat.le_of_ble_eq_true rfl, Nat.le_of_ble_eq_true rfl, Nat.le_of_ble_eq_true rfl, Nat.le_of_ble_eq_true rfl, Nat.le_of_ble_eq_true rfl⟩ (dt_R_has (a0 := (dc_R_sootOf (sy_rd h) l8)) (a1 := l6) hH (by omega) (by omega) (by omega) (by omega)) ?_
        rintro _ _ ⟨rfl, rfl, b14, b14t⟩
        show sy_wp (mj_m_183, 195, [(0, .ref 234), (3, sy_i l3), (4, sy_i l4), (5, sy_i l5), (6, sy_i l6), (7, sy_i l7), (8, sy_i l8)], [sy_i (dc_R_has (sy_rd h) (dc_R_sootOf (sy_rd h) l8) l6), sy_i l7], h) _
        refine sy_ifc mj_d_183_195 rfl ⟨by omega, by omega⟩ (fun (c15 : (dc_R_has (sy_rd h) (dc_R_sootOf (sy_rd h) l8) l6) = 0) => ?_) (fun (c15 : ¬ ((dc_R_has (sy_rd h) (dc_R_sootOf (sy_rd h) l8) l6) = 0)) => ?_)
        · skip
          rw [if_pos c15]
          refine sy_st (S' := (mj_m_183, 203, [(0, .ref 234), (3, sy_i l3), (4, sy_i l4), (5, sy_i l5), (6, sy_i l6), (7, sy_i l7), (8, sy_i l8)], [sy_i 0, sy_i l7], h)) mj_d_183_202 (fun _ _ => rfl) ?_
          refine sy_add mj_d_183_203 ?_
          refine sy_st (S' := (mj_m_183, 206, [(7, sy_i (l7 + 0)), (0, .ref 234), (3, sy_i l3), (4, sy_i l4), (5, sy_i l5), (6, sy_i l6), (8, sy_i l8)], [], h)) mj_d_183_204 (fun _ _ => rfl) ?_
          refine sy_inc (a := l8) (lv' := [(8, sy_i (l8 + 1)), (7, sy_i (l7 + 0)), (0, .ref 234), (3, sy_i l3), (4, sy_i l4), (5, sy_i l5), (6, sy_i l6)]) mj_d_183_206 (Nat.le_of_ble_eq_true rfl) rfl rfl ?_
          refine sy_st (S' := (mj_m_183, 164, [(8, sy_i (l8 + 1)), (7, sy_i (l7 + 0)), (0, .ref 234), (3, sy_i l3), (4, sy_i l4), (5, sy_i l5), (6, sy_i l6)], [], h)) mj_d_183_209 (fun _ _ => rfl) ?_
          refine sy_lv (lv := [(0, .ref 234), (3, sy_i l3), (4, sy_i l4), (5, sy_i l5), (6, sy_i l6), (7, sy_i (l7 + 0)), (8, sy_i (l8 + 1))]) rfl ⟨rfl, rfl, rfl, rfl, rfl, rfl, rfl, trivial⟩ ?_
          exact ih hH (by first | omega | assumption) (by first | omega | assumption) (by first | omega | assumption) (by first | omega | assumption) (by first | omega | assumption) (by first | omega | assumption) (by first | omega | assumption) (by first | omega | assumption) (by first | omega | assumption) (by first | omega | assumption) (by first | omega | assumption) (by first | omega | assumption) (by first | omega | assumption) (by first | omega | assumption) (by first | omega | assumption) (by omega)
        · skip
          rw [if_neg c15]
          refine sy_st (S' := (mj_m_183, 199, [(0, .ref 234), (3, sy_i l3), (4, sy_i l4), (5, sy_i l5), (6, sy_i l6), (7, sy_i l7), (8, sy_i l8)], [sy_i 1, sy_i l7], h)) mj_d_183_198 (fun _ _ => rfl) ?_
          refine sy_st (S' := (mj_m_183, 203, [(0, .ref 234), (3, sy_i l3), (4, sy_i l4), (5, sy_i l5), (6, sy_i l6), (7, sy_i l7), (8, sy_i l8)], [sy_i 1, sy_i l7], h)) mj_d_183_199 (fun _ _ => rfl) ?_
          refine sy_add mj_d_183_203 ?_
          refine sy_st (S' := (mj_m_183, 206, [(7, sy_i (l7 + 1)), (0, .ref 234), (3, sy_i l3), (4, sy_i l4), (5, sy_i l5), (6, sy_i l6), (8, sy_i l8)], [], h)) mj_d_183_204 (fun _ _ => rfl) ?_
          refine sy_inc (a := l8) (lv' := [(8, sy_i (l8 + 1)), (7, sy_i (l7 + 1)), (0, .ref 234), (3, sy_i l3), (4, sy_i l4), (5, sy_i l5), (6, sy_i l6)]) mj_d_183_206 (Nat.le_of_ble_eq_true rfl) rfl rfl ?_
          refine sy_st (S' := (mj_m_183, 164, [(8, sy_i (l8 + 1)), (7, sy_i (l7 + 1)), (0, .ref 234), (3, sy_i l3), (4, sy_i l4), (5, sy_i l5), (6, sy_i l6)], [], h)) mj_d_183_209 (fun _ _ => rfl) ?_
          refine sy_lv (lv := [(0, .ref 234), (3, sy_i l3), (4, sy_i l4), (5, sy_i l5), (6, sy_i l6), (7, sy_i (l7 + 1)), (8, sy_i (l8 + 1))]) rfl ⟨rfl, rfl, rfl, rfl, rfl, rfl, rfl, trivial⟩ ?_
          exact ih hH (by first | omega | assumption) (by first | omega | assumption) (by first | omega | assumption) (by first | omega | assumption) (by first | omega | assumption) (by first | omega | assumption) (by first | omega | assumption) (by first | omega | assumption) (by first | omega | assumption) (by first | omega | assumption) (by first | omega | assumption) (by first | omega | assumption) (by first | omega | assumption) (by first | omega | assumption) (by first | omega | assumption) (by omega)
set_option maxRecDepth 100000 in
theorem dt_R_next_149 : ∀ (n : Nat) {h : mj_H} (hH : sy_H h) {l3 l4 l5 l6 : Int} (b_l3 : 0 ≤ l3) (t_l3 : l3 ≤ 511) (b_l4 : (-1) ≤ l4) (t_l4 : l4 ≤ 8) (b_l5 : (-100) ≤ l5) (t_l5 : l5 ≤ 100) (b_l6 : 0 ≤ l6) (t_l6 : l6 ≤ 9) (i0 : (sy_rd h 234 6) ≤ 0 ∨ (sy_rd h 235 11) = -1) (hm : 9 - l6 < (n : Int)), sy_wp (mj_m_183, 149, [(0, .ref 234), (3, sy_i l3), (4, sy_i l4), (5, sy_i l5), (6, sy_i l6)], [], h) (dq1 h (-2147483648) (2147483647) (dc_R_next_149 n (sy_rd h) l3 l4 l5 l6)) := by
  intro n
  induction n with
  | zero =>
    intro h hH l3 l4 l5 l6 b_l3 t_l3 b_l4 t_l4 b_l5 t_l5 b_l6 t_l6 i0 hm
    exact absurd hm (by omega)
  | succ n ih =>
    intro h hH l3 l4 l5 l6 b_l3 t_l3 b_l4 t_l4 b_l5 t_l5 b_l6 t_l6 i0 hm
    rw [dc_R_next_149_s]
    refine sy_st (S' := (mj_m_183, 151, [(0, .ref 234), (3, sy_i l3), (4, sy_i l4), (5, sy_i l5), (6, sy_i l6)], [sy_i l6], h)) mj_d_183_149 (fun _ _ => rfl) ?_
    refine sy_st (S' := (mj_m_183, 152, [(0, .ref 234), (3, sy_i l3), (4, sy_i l4), (5, sy_i l5), (6, sy_i l6)], [.ref 234, sy_i l6], h)) mj_d_183_151 (fun _ _ => rfl) ?_
    refine sy_gf mj_d_183_152 rfl rfl (by decide) rfl hH ?_
    intro x1 ex1 bx1 tx1
    replace ex1 : x1 = sy_rd h 234 6 := ex1
    subst ex1
    refine sy_icm mj_d_183_155 rfl ⟨by omega, by omega⟩ ⟨by omega, by omega⟩ (fun (c2 : (sy_rd h 234 6) ≤ l6) => ?_) (fun (c2 : ¬ ((sy_rd h 234 6) ≤ l6)) => ?_)
    · skip
      rw [if_pos c2]
      refine sy_st (S' := (mj_m_183, 277, [(0, .ref 234), (3, sy_i l3), (4, sy_i l4), (5, sy_i l5), (6, sy_i l6)], [sy_i l4], h)) mj_d_183_275 (fun _ _ => rfl) ?_
      exact sy_reti mj_d_183_277 rfl ⟨rfl, rfl, by omega, by omega⟩
    · skip
      rw [if_neg c2]
      refine sy_st (S' := (mj_m_183, 159, [(0, .ref 234), (3, sy_i l3), (4, sy_i l4), (5, sy_i l5), (6, sy_i l6)], [sy_i 0], h)) mj_d_183_158 (fun _ _ => rfl) ?_
      refine sy_st (S' := (mj_m_183, 161, [(7, sy_i 0), (0, .ref 234), (3, sy_i l3), (4, sy_i l4), (5, sy_i l5), (6, sy_i l6)], [], h)) mj_d_183_159 (fun _ _ => rfl) ?_
      refine sy_st (S' := (mj_m_183, 162, [(7, sy_i 0), (0, .ref 234), (3, sy_i l3), (4, sy_i l4), (5, sy_i l5), (6, sy_i l6)], [sy_i 0], h)) mj_d_183_161 (fun _ _ => rfl) ?_
      refine sy_st (S' := (mj_m_183, 164, [(8, sy_i 0), (7, sy_i 0), (0, .ref 234), (3, sy_i l3), (4, sy_i l4), (5, sy_i l5), (6, sy_i l6)], [], h)) mj_d_183_162 (fun _ _ => rfl) ?_
      refine sy_lv (lv := [(0, .ref 234), (3, sy_i l3), (4, sy_i l4), (5, sy_i l5), (6, sy_i l6), (7, sy_i 0), (8, sy_i 0)]) rfl ⟨rfl, rfl, rfl, rfl, rfl, rfl, rfl, trivial⟩ ?_
      exact dt_R_next_164 @ih 10 hH (by first | omega | assumption) (by first | omega | assumption) (by first | omega | assumption) (by first | omega | assumption) (by first | omega | assumption) (by first | omega | assumption) (by first | omega | assumption) (by first | omega | assumption) (by first | omega | assumption) (by first | omega | assumption) (by first | omega | assumption) (by first | omega | assumption) (by first | omega | assumption) (by first | omega | assumption) (by first | omega | assumption) (by omega)
set_option maxRecDepth 100000 in
theorem dt_R_next_30 : ∀ (n : Nat) {h : mj_H} (hH : sy_H h) {l1 l2 l3 l4 : Int} (b_l1 : 1 ≤ l1) (t_l1 : l1 ≤ 7) (b_l2 : 0 ≤ l2) (t_l2 : l2 ≤ 1) (b_l3 : 0 ≤ l3) (t_l3 : l3 ≤ 511) (b_l4 : 0 ≤ l4) (t_l4 : l4 ≤ 9) (i0 : (sy_rd h 234 6) ≤ 0 ∨ (sy_rd h 235 11) = -1) (hm : 9 - l4 < (n : Int)), sy_wp (mj_m_183, 30, [(0, .ref 234), (1, sy_i l1), (2, sy_i l2), (3, sy_i l3), (4, sy_i l4)], [], h) (dq1 h (-2147483648) (2147483647) (dc_R_next_30 n (sy_rd h) l1 l2 l3 l4)) := by
  intro n
  induction n with
  | zero =>
    intro h hH l1 l2 l3 l4 b_l1 t_l1 b_l2 t_l2 b_l3 t_l3 b_l4 t_l4 i0 hm
    exact absurd hm (by omega)
  | succ n ih =>
    intro h hH l1 l2 l3 l4 b_l1 t_l1 b_l2 t_l2 b_l3 t_l3 b_l4 t_l4 i0 hm
    rw [dc_R_next_30_s]
    refine sy_st (S' := (mj_m_183, 32, [(0, .ref 234), (1, sy_i l1), (2, sy_i l2), (3, sy_i l3), (4, sy_i l4)], [sy_i l4], h)) mj_d_183_30 (fun _ _ => rfl) ?_
    refine sy_st (S' := (mj_m_183, 33, [(0, .ref 234), (1, sy_i l1), (2, sy_i l2), (3, sy_i l3), (4, sy_i l4)], [.ref 234, sy_i l4], h)) mj_d_183_32 (fun _ _ => rfl) ?_
    refine sy_gf mj_d_183_33 rfl rfl (by decide) rfl hH ?_
    intro x1 ex1 bx1 tx1
    replace ex1 : x1 = sy_rd h 234 6 := ex1
    subst ex1
    refine sy_icm mj_d_183_36 rfl ⟨by omega, by omega⟩ ⟨by omega, by omega⟩ (fun (c2 : (sy_rd h 234 6) ≤ l4) => ?_) (fun (c2 : ¬ ((sy_rd h 234 6) ≤ l4)) => ?_)
    · skip
      rw [if_pos c2]
      refine sy_st (S' := (mj_m_183, 132, [(0, .ref 234), (1, sy_i l1), (2, sy_i l2), (3, sy_i l3), (4, sy_i l4)], [sy_i l2], h)) mj_d_183_131 (fun _ _ => rfl) ?_
      refine sy_ifc mj_d_183_132 rfl ⟨by omega, by omega⟩ (fun (c3 : ¬ (l2 = 0)) => ?_) (fun (c3 : ¬ ¬ (l2 = 0)) => ?_)
      · skip
        rw [if_neg c3]
        refine sy_st (S' := (mj_m_183, 138, [(0, .ref 234), (1, sy_i l1), (2, sy_i l2), (3, sy_i l3), (4, sy_i l4)], [sy_i (-1)], h)) mj_d_183_137 (fun _ _ => rfl) ?_
        refine sy_st (S' := (mj_m_183, 140, [(4, sy_i (-1)), (0, .ref 234), (1, sy_i l1), (2, sy_i l2), (3, sy_i l3)], [], h)) mj_d_183_138 (fun _ _ => rfl) ?_
        refine sy_st (S' := (mj_m_183, 141, [(4, sy_i (-1)), (0, .ref 234), (1, sy_i l1), (2, sy_i l2), (3, sy_i l3)], [sy_i l3], h)) mj_d_183_140 (fun _ _ => rfl) ?_
        refine sy_cs (M' := mj_m_176) (vs := [sy_i l3]) (rest := []) mj_d_183_141 rfl rfl rfl rfl ⟨Nat.le_of_ble_eq_true rfl, Nat.le_of_ble_eq_true rfl, Nat.le_of_ble_eq_true rfl, Nat.le_of_ble_eq_true rfl, Nat.le_of_ble_eq_true rfl⟩ (dt_R_ones (a0 := l3) hH (by omega) (by omega)) ?_
        rintro _ _ ⟨rfl, rfl, b4, b4t⟩
        show sy_wp (mj_m_183, 144, [(4, sy_i (-1)), (0, .ref 234), (1, sy_i l1), (2, sy_i l2), (3, sy_i l3)], [sy_i (dc_R_ones (sy_rd h) l3)], h) _
        refine sy_st (S' := (mj_m_183, 146, [(5, sy_i (dc_R_ones (sy_rd h) l3)), (4, sy_i (-1)), (0, .ref 234), (1, sy_i l1), (2, sy_i l2), (3, sy_i l3)], [], h)) mj_d_183_144 (fun _ _ => rfl) ?_
        refine sy_st (S' := (mj_m_183, 147, [(5, sy_i (dc_R_ones (sy_rd h) l3)), (4, sy_i (-1)), (0, .ref 234), (1, sy_i l1), (2, sy_i l2), (3, sy_i l3)], [sy_i 0], h)) mj_d_183_146 (fun _ _ => rfl) ?_
        refine sy_st (S' := (mj_m_183, 149, [(6, sy_i 0), (5, sy_i (dc_R_ones (sy_rd h) l3)), (4, sy_i (-1)), (0, .ref 234), (1, sy_i l1), (2, sy_i l2), (3, sy_i l3)], [], h)) mj_d_183_147 (fun _ _ => rfl) ?_
        refine sy_lv (lv := [(0, .ref 234), (3, sy_i l3), (4, sy_i (-1)), (5, sy_i (dc_R_ones (sy_rd h) l3)), (6, sy_i 0)]) rfl ⟨rfl, rfl, rfl, rfl, rfl, trivial⟩ ?_
        exact dt_R_next_149 10 hH (by first | omega | assumption) (by first | omega | assumption) (by first | omega | assumption) (by first | omega | assumption) (by first | omega | assumption) (by first | omega | assumption) (by first | omega | assumption) (by first | omega | assumption) (by first | omega | assumption) (by omega)
      · skip
        rw [if_pos (Decidable.not_not.mp c3)]
        replace c3 := Decidable.not_not.mp c3
        refine sy_st (S' := (mj_m_183, 136, [(0, .ref 234), (1, sy_i l1), (2, sy_i l2), (3, sy_i l3), (4, sy_i l4)], [sy_i l3], h)) mj_d_183_135 (fun _ _ => rfl) ?_
        exact sy_reti mj_d_183_136 rfl ⟨rfl, rfl, by omega, by omega⟩
    · skip
      rw [if_neg c2]
      refine sy_st (S' := (mj_m_183, 40, [(0, .ref 234), (1, sy_i l1), (2, sy_i l2), (3, sy_i l3), (4, sy_i l4)], [sy_i 1], h)) mj_d_183_39 (fun _ _ => rfl) ?_
      refine sy_st (S' := (mj_m_183, 42, [(5, sy_i 1), (0, .ref 234), (1, sy_i l1), (2, sy_i l2), (3, sy_i l3), (4, sy_i l4)], [], h)) mj_d_183_40 (fun _ _ => rfl) ?_
      refine sy_st (S' := (mj_m_183, 43, [(5, sy_i 1), (0, .ref 234), (1, sy_i l1), (2, sy_i l2), (3, sy_i l3), (4, sy_i l4)], [sy_i 0], h)) mj_d_183_42 (fun _ _ => rfl) ?_
      refine sy_st (S' := (mj_m_183, 45, [(6, sy_i 0), (5, sy_i 1), (0, .ref 234), (1, sy_i l1), (2, sy_i l2), (3, sy_i l3), (4, sy_i l4)], [], h)) mj_d_183_43 (fun _ _ => rfl) ?_
      refine sy_lv (lv := [(0, .ref 234), (1, sy_i l1), (2, sy_i l2), (3, sy_i l3), (4, sy_i l4), (5, sy_i 1), (6, sy_i 0)]) rfl ⟨rfl, rfl, rfl, rfl, rfl, rfl, rfl, trivial⟩ ?_
      exact dt_R_next_45 @ih 7 hH (by first | omega | assumption) (by first | omega | assumption) (by first | omega | assumption) (by first | omega | assumption) (by first | omega | assumption) (by first | omega | assumption) (by first | omega | assumption) (by first | omega | assumption) (by first | omega | assumption) (by first | omega | assumption) (by first | omega | assumption) (by first | omega | assumption) (by first | omega | assumption) (by first | omega | assumption) (by omega)
set_option maxRecDepth 100000 in
theorem dt_R_next {h : mj_H} (hH : sy_H h) {a1 a2 : Int} (b_a1 : (-2147483648) ≤ a1) (t_a1 : a1 ≤ 2147483647) (b_a2 : (-2147483648) ≤ a2) (t_a2 : a2 ≤ 2147483647) (i0 : (sy_rd h 234 6) ≤ 0 ∨ (sy_rd h 235 11) = -1) : sy_wp (mj_m_183, 0, [(0, .ref 234), (1, sy_i a1), (2, sy_i a2)], [], h) (dq1 h (-2147483648) (2147483647) (dc_R_next (sy_rd h) a1 a2)) := by
  unfold dc_R_next
  refine sy_st (S' := (mj_m_183, 1, [(0, .ref 234), (1, sy_i a1), (2, sy_i a2)], [sy_i a1], h)) mj_d_183_0 (fun _ _ => rfl) ?_
  refine sy_i2l mj_d_183_1 ⟨by omega, by omega⟩ ?_
  refine sy_st (S' := (mj_m_183, 3, [(0, .ref 234), (1, sy_i a1), (2, sy_i a2)], [sy_l 1, sy_l a1], h)) mj_d_183_2 (fun _ _ => rfl) ?_
  refine sy_ldc2 (n := 7) mj_d_183_3 rfl (by decide) ?_
  refine sy_cs (M' := mj_m_126) (vs := [sy_l a1, sy_l 1, sy_l 7]) (rest := []) mj_d_183_6 rfl rfl rfl rfl ⟨Nat.le_of_ble_eq_true rfl, Nat.le_of_ble_eq_true rfl, Nat.le_of_ble_eq_true rfl, Nat.le_of_ble_eq_true rfl, Nat.le_of_ble_eq_true rfl⟩ (dt_R_in (a0 := a1) (a1 := 1) (a2 := 7) hH (by omega) (by omega) (by omega) (by omega) (by omega) (by omega)) ?_
  rintro _ _ ⟨rfl, rfl, b1, b1t⟩
  have q2 := df_R_in_0 (sy_rd h) a1 1 7
  show sy_wp (mj_m_183, 9, [(0, .ref 234), (1, sy_i a1), (2, sy_i a2)], [sy_i (dc_R_in (sy_rd h) a1 1 7)], h) _
  refine sy_ifc mj_d_183_9 rfl ⟨by omega, by omega⟩ (fun (c3 : (dc_R_in (sy_rd h) a1 1 7) = 0) => ?_) (fun (c3 : ¬ ((dc_R_in (sy_rd h) a1 1 7) = 0)) => ?_)
  · skip
    rw [if_pos c3]
    refine sy_ldc (n := -1000000002) mj_d_183_22 rfl (by decide) ?_
    exact sy_reti mj_d_183_24 rfl ⟨rfl, rfl, by omega, by omega⟩
  · skip
    rw [if_neg c3]
    refine sy_st (S' := (mj_m_183, 13, [(0, .ref 234), (1, sy_i a1), (2, sy_i a2)], [sy_i a2], h)) mj_d_183_12 (fun _ _ => rfl) ?_
    refine sy_i2l mj_d_183_13 ⟨by omega, by omega⟩ ?_
    refine sy_st (S' := (mj_m_183, 15, [(0, .ref 234), (1, sy_i a1), (2, sy_i a2)], [sy_l 0, sy_l a2], h)) mj_d_183_14 (fun _ _ => rfl) ?_
    refine sy_st (S' := (mj_m_183, 16, [(0, .ref 234), (1, sy_i a1), (2, sy_i a2)], [sy_l 1, sy_l 0, sy_l a2], h)) mj_d_183_15 (fun _ _ => rfl) ?_
    refine sy_cs (M' := mj_m_126) (vs := [sy_l a2, sy_l 0, sy_l 1]) (rest := []) mj_d_183_16 rfl rfl rfl rfl ⟨Nat.le_of_ble_eq_true rfl, Nat.le_of_ble_eq_true rfl, Nat.le_of_ble_eq_true rfl, Nat.le_of_ble_eq_true rfl, Nat.le_of_ble_eq_true rfl⟩ (dt_R_in (a0 := a2) (a1 := 0) (a2 := 1) hH (by omega) (by omega) (by omega) (by omega) (by omega) (by omega)) ?_
    rintro _ _ ⟨rfl, rfl, b4, b4t⟩
    have q5 := df_R_in_0 (sy_rd h) a2 0 1
    show sy_wp (mj_m_183, 19, [(0, .ref 234), (1, sy_i a1), (2, sy_i a2)], [sy_i (dc_R_in (sy_rd h) a2 0 1)], h) _
    refine sy_ifc mj_d_183_19 rfl ⟨by omega, by omega⟩ (fun (c6 : ¬ ((dc_R_in (sy_rd h) a2 0 1) = 0)) => ?_) (fun (c6 : ¬ ¬ ((dc_R_in (sy_rd h) a2 0 1) = 0)) => ?_)
    · skip
      rw [if_neg c6]
      refine sy_st (S' := (mj_m_183, 26, [(0, .ref 234), (1, sy_i a1), (2, sy_i a2)], [sy_i 0], h)) mj_d_183_25 (fun _ _ => rfl) ?_
      refine sy_st (S' := (mj_m_183, 27, [(3, sy_i 0), (0, .ref 234), (1, sy_i a1), (2, sy_i a2)], [], h)) mj_d_183_26 (fun _ _ => rfl) ?_
      refine sy_st (S' := (mj_m_183, 28, [(3, sy_i 0), (0, .ref 234), (1, sy_i a1), (2, sy_i a2)], [sy_i 0], h)) mj_d_183_27 (fun _ _ => rfl) ?_
      refine sy_st (S' := (mj_m_183, 30, [(4, sy_i 0), (3, sy_i 0), (0, .ref 234), (1, sy_i a1), (2, sy_i a2)], [], h)) mj_d_183_28 (fun _ _ => rfl) ?_
      refine sy_lv (lv := [(0, .ref 234), (1, sy_i a1), (2, sy_i a2), (3, sy_i 0), (4, sy_i 0)]) rfl ⟨rfl, rfl, rfl, rfl, rfl, trivial⟩ ?_
      exact dt_R_next_30 10 hH (by first | omega | assumption) (by first | omega | assumption) (by first | omega | assumption) (by first | omega | assumption) (by first | omega | assumption) (by first | omega | assumption) (by first | omega | assumption) (by first | omega | assumption) (by first | omega | assumption) (by omega)
    · skip
      rw [if_pos (Decidable.not_not.mp c6)]
      replace c6 := Decidable.not_not.mp c6
      refine sy_ldc (n := -1000000002) mj_d_183_22 rfl (by decide) ?_
      exact sy_reti mj_d_183_24 rfl ⟨rfl, rfl, by omega, by omega⟩
