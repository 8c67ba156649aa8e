def mj_m_11 : mj_M := (⟨"SootMaps$Text", "add", "(C)I"⟩, prog_11_method_2_code, 2, (some .int), 8, 1, 1, 0, 0)
def mj_m_15 : mj_M := (⟨"SootMaps$Text", "skipBlanks", "()V"⟩, prog_11_method_5_code, 2, none, 8, 0, 1, 1, 20)
def mj_m_16 : mj_M := (⟨"SootMaps$Text", "letter", "()C"⟩, prog_11_method_4_code, 1, (some .char), 8, 0, 1, 0, 0)
def mj_m_18 : mj_M := (⟨"SootMaps$Text", "mayBegin", "(C)Z"⟩, prog_11_method_8_code, 2, (some .boolean), 8, 1, 1, 0, 0)
def mj_m_19 : mj_M := (⟨"SootMaps$Text", "fail", "(II)V"⟩, prog_11_method_6_code, 3, none, 8, 2, 1, 0, 0)
def mj_m_20 : mj_M := (⟨"SootMaps$Text", "isOneTooMany", "(C)Z"⟩, prog_11_method_9_code, 2, (some .boolean), 8, 1, 1, 0, 0)
def mj_m_23 : mj_M := (⟨"SootMaps$Text", "readNumber", "(I)I"⟩, prog_11_method_12_code, 6, (some .int), 8, 1, 1, 1, 22)
def mj_m_24 : mj_M := (⟨"SootMaps$Text", "isFigure", "(C)Z"⟩, prog_11_method_13_code, 1, (some .boolean), 8, 1, 0, 0, 0)
def mj_m_25 : mj_M := (⟨"SootMaps$Text", "readEnd", "()V"⟩, prog_11_method_14_code, 1, none, 8, 0, 1, 2, 41)
theorem mj_d_11_0 : decode mj_m_11.2.1 0 = .ok (.aload_n 0, 1) := by decide +kernel
theorem mj_d_11_1 : decode mj_m_11.2.1 1 = .ok (.getfield 26, 3) := by decide +kernel
theorem mj_d_11_4 : decode mj_m_11.2.1 4 = .ok (.ifCond .lt 13, 3) := by decide +kernel
theorem mj_d_11_7 : decode mj_m_11.2.1 7 = .ok (.aload_n 0, 1) := by decide +kernel
theorem mj_d_11_8 : decode mj_m_11.2.1 8 = .ok (.getfield 26, 3) := by decide +kernel
theorem mj_d_11_11 : decode mj_m_11.2.1 11 = .ok (.sipush 240, 3) := by decide +kernel
theorem mj_d_11_14 : decode mj_m_11.2.1 14 = .ok (.if_icmp .lt 6, 3) := by decide +kernel
theorem mj_d_11_17 : decode mj_m_11.2.1 17 = .ok (.ldc 29, 2) := by decide +kernel
theorem mj_d_11_19 : decode mj_m_11.2.1 19 = .ok (.ireturn, 1) := by decide +kernel
theorem mj_d_11_20 : decode mj_m_11.2.1 20 = .ok (.aload_n 0, 1) := by decide +kernel
theorem mj_d_11_21 : decode mj_m_11.2.1 21 = .ok (.getfield 9, 3) := by decide +kernel
theorem mj_d_11_24 : decode mj_m_11.2.1 24 = .ok (.aload_n 0, 1) := by decide +kernel
theorem mj_d_11_25 : decode mj_m_11.2.1 25 = .ok (.getfield 26, 3) := by decide +kernel
theorem mj_d_11_28 : decode mj_m_11.2.1 28 = .ok (.iload_n 1, 1) := by decide +kernel
theorem mj_d_11_29 : decode mj_m_11.2.1 29 = .ok (.castore, 1) := by decide +kernel
theorem mj_d_11_30 : decode mj_m_11.2.1 30 = .ok (.aload_n 0, 1) := by decide +kernel
theorem mj_d_11_31 : decode mj_m_11.2.1 31 = .ok (.dup, 1) := by decide +kernel
theorem mj_d_11_32 : decode mj_m_11.2.1 32 = .ok (.getfield 26, 3) := by decide +kernel
theorem mj_d_11_35 : decode mj_m_11.2.1 35 = .ok (.iconst 1, 1) := by decide +kernel
theorem mj_d_11_36 : decode mj_m_11.2.1 36 = .ok (.iadd, 1) := by decide +kernel
theorem mj_d_11_37 : decode mj_m_11.2.1 37 = .ok (.putfield 26, 3) := by decide +kernel
theorem mj_d_11_40 : decode mj_m_11.2.1 40 = .ok (.aload_n 0, 1) := by decide +kernel
theorem mj_d_11_41 : decode mj_m_11.2.1 41 = .ok (.getfield 26, 3) := by decide +kernel
theorem mj_d_11_44 : decode mj_m_11.2.1 44 = .ok (.ireturn, 1) := by decide +kernel
theorem mj_d_15_0 : decode mj_m_15.2.1 0 = .ok (.iconst 0, 1) := by decide +kernel
theorem mj_d_15_1 : decode mj_m_15.2.1 1 = .ok (.istore_n 1, 1) := by decide +kernel
theorem mj_d_15_2 : decode mj_m_15.2.1 2 = .ok (.iload_n 1, 1) := by decide +kernel
theorem mj_d_15_3 : decode mj_m_15.2.1 3 = .ok (.sipush 240, 3) := by decide +kernel
theorem mj_d_15_6 : decode mj_m_15.2.1 6 = .ok (.if_icmp .ge 28, 3) := by decide +kernel
theorem mj_d_15_9 : decode mj_m_15.2.1 9 = .ok (.aload_n 0, 1) := by decide +kernel
theorem mj_d_15_10 : decode mj_m_15.2.1 10 = .ok (.invokevirtual 45, 3) := by decide +kernel
theorem mj_d_15_13 : decode mj_m_15.2.1 13 = .ok (.bipush 32, 2) := by decide +kernel
theorem mj_d_15_15 : decode mj_m_15.2.1 15 = .ok (.if_icmp .ne 19, 3) := by decide +kernel
theorem mj_d_15_18 : decode mj_m_15.2.1 18 = .ok (.aload_n 0, 1) := by decide +kernel
theorem mj_d_15_19 : decode mj_m_15.2.1 19 = .ok (.dup, 1) := by decide +kernel
theorem mj_d_15_20 : decode mj_m_15.2.1 20 = .ok (.getfield 30, 3) := by decide +kernel
theorem mj_d_15_23 : decode mj_m_15.2.1 23 = .ok (.iconst 1, 1) := by decide +kernel
theorem mj_d_15_24 : decode mj_m_15.2.1 24 = .ok (.iadd, 1) := by decide +kernel
theorem mj_d_15_25 : decode mj_m_15.2.1 25 = .ok (.putfield 30, 3) := by decide +kernel
theorem mj_d_15_28 : decode mj_m_15.2.1 28 = .ok (.iinc 1 1, 3) := by decide +kernel
theorem mj_d_15_31 : decode mj_m_15.2.1 31 = .ok (.goto (-29), 3) := by decide +kernel
theorem mj_d_15_34 : decode mj_m_15.2.1 34 = .ok (.return_, 1) := by decide +kernel
theorem mj_d_16_0 : decode mj_m_16.2.1 0 = .ok (.aload_n 0, 1) := by decide +kernel
theorem mj_d_16_1 : decode mj_m_16.2.1 1 = .ok (.getfield 30, 3) := by decide +kernel
theorem mj_d_16_4 : decode mj_m_16.2.1 4 = .ok (.ifCond .lt 36, 3) := by decide +kernel
theorem mj_d_16_7 : decode mj_m_16.2.1 7 = .ok (.aload_n 0, 1) := by decide +kernel
theorem mj_d_16_8 : decode mj_m_16.2.1 8 = .ok (.getfield 30, 3) := by decide +kernel
theorem mj_d_16_11 : decode mj_m_16.2.1 11 = .ok (.aload_n 0, 1) := by decide +kernel
theorem mj_d_16_12 : decode mj_m_16.2.1 12 = .ok (.getfield 26, 3) := by decide +kernel
theorem mj_d_16_15 : decode mj_m_16.2.1 15 = .ok (.if_icmp .ge 25, 3) := by decide +kernel
theorem mj_d_16_18 : decode mj_m_16.2.1 18 = .ok (.aload_n 0, 1) := by decide +kernel
theorem mj_d_16_19 : decode mj_m_16.2.1 19 = .ok (.getfield 30, 3) := by decide +kernel
theorem mj_d_16_22 : decode mj_m_16.2.1 22 = .ok (.sipush 240, 3) := by decide +kernel
theorem mj_d_16_25 : decode mj_m_16.2.1 25 = .ok (.if_icmp .ge 15, 3) := by decide +kernel
theorem mj_d_16_28 : decode mj_m_16.2.1 28 = .ok (.aload_n 0, 1) := by decide +kernel
theorem mj_d_16_29 : decode mj_m_16.2.1 29 = .ok (.getfield 9, 3) := by decide +kernel
theorem mj_d_16_32 : decode mj_m_16.2.1 32 = .ok (.aload_n 0, 1) := by decide +kernel
theorem mj_d_16_33 : decode mj_m_16.2.1 33 = .ok (.getfield 30, 3) := by decide +kernel
theorem mj_d_16_36 : decode mj_m_16.2.1 36 = .ok (.caload, 1) := by decide +kernel
theorem mj_d_16_37 : decode mj_m_16.2.1 37 = .ok (.goto 4, 3) := by decide +kernel
theorem mj_d_16_40 : decode mj_m_16.2.1 40 = .ok (.iconst 0, 1) := by decide +kernel
theorem mj_d_16_41 : decode mj_m_16.2.1 41 = .ok (.ireturn, 1) := by decide +kernel
theorem mj_d_18_0 : decode mj_m_18.2.1 0 = .ok (.iload_n 1, 1) := by decide +kernel
theorem mj_d_18_1 : decode mj_m_18.2.1 1 = .ok (.bipush 99, 2) := by decide +kernel
theorem mj_d_18_3 : decode mj_m_18.2.1 3 = .ok (.if_icmp .eq 25, 3) := by decide +kernel
theorem mj_d_18_6 : decode mj_m_18.2.1 6 = .ok (.aload_n 0, 1) := by decide +kernel
theorem mj_d_18_7 : decode mj_m_18.2.1 7 = .ok (.getfield 18, 3) := by decide +kernel
theorem mj_d_18_10 : decode mj_m_18.2.1 10 = .ok (.getfield 64, 3) := by decide +kernel
theorem mj_d_18_13 : decode mj_m_18.2.1 13 = .ok (.ifCond .eq 19, 3) := by decide +kernel
theorem mj_d_18_16 : decode mj_m_18.2.1 16 = .ok (.iload_n 1, 1) := by decide +kernel
theorem mj_d_18_17 : decode mj_m_18.2.1 17 = .ok (.bipush 104, 2) := by decide +kernel
theorem mj_d_18_19 : decode mj_m_18.2.1 19 = .ok (.if_icmp .eq 9, 3) := by decide +kernel
theorem mj_d_18_22 : decode mj_m_18.2.1 22 = .ok (.iload_n 1, 1) := by decide +kernel
theorem mj_d_18_23 : decode mj_m_18.2.1 23 = .ok (.bipush 115, 2) := by decide +kernel
theorem mj_d_18_25 : decode mj_m_18.2.1 25 = .ok (.if_icmp .ne 7, 3) := by decide +kernel
theorem mj_d_18_28 : decode mj_m_18.2.1 28 = .ok (.iconst 1, 1) := by decide +kernel
theorem mj_d_18_29 : decode mj_m_18.2.1 29 = .ok (.goto 4, 3) := by decide +kernel
theorem mj_d_18_32 : decode mj_m_18.2.1 32 = .ok (.iconst 0, 1) := by decide +kernel
theorem mj_d_18_33 : decode mj_m_18.2.1 33 = .ok (.ireturn, 1) := by decide +kernel
theorem mj_d_19_0 : decode mj_m_19.2.1 0 = .ok (.aload_n 0, 1) := by decide +kernel
theorem mj_d_19_1 : decode mj_m_19.2.1 1 = .ok (.getfield 33, 3) := by decide +kernel
theorem mj_d_19_4 : decode mj_m_19.2.1 4 = .ok (.ifCond .ne 13, 3) := by decide +kernel
theorem mj_d_19_7 : decode mj_m_19.2.1 7 = .ok (.aload_n 0, 1) := by decide +kernel
theorem mj_d_19_8 : decode mj_m_19.2.1 8 = .ok (.iload_n 1, 1) := by decide +kernel
theorem mj_d_19_9 : decode mj_m_19.2.1 9 = .ok (.putfield 33, 3) := by decide +kernel
theorem mj_d_19_12 : decode mj_m_19.2.1 12 = .ok (.aload_n 0, 1) := by decide +kernel
theorem mj_d_19_13 : decode mj_m_19.2.1 13 = .ok (.iload_n 2, 1) := by decide +kernel
theorem mj_d_19_14 : decode mj_m_19.2.1 14 = .ok (.putfield 22, 3) := by decide +kernel
theorem mj_d_19_17 : decode mj_m_19.2.1 17 = .ok (.return_, 1) := by decide +kernel
theorem mj_d_20_0 : decode mj_m_20.2.1 0 = .ok (.iload_n 1, 1) := by decide +kernel
theorem mj_d_20_1 : decode mj_m_20.2.1 1 = .ok (.bipush 99, 2) := by decide +kernel
theorem mj_d_20_3 : decode mj_m_20.2.1 3 = .ok (.if_icmp .ne 13, 3) := by decide +kernel
theorem mj_d_20_6 : decode mj_m_20.2.1 6 = .ok (.aload_n 0, 1) := by decide +kernel
theorem mj_d_20_7 : decode mj_m_20.2.1 7 = .ok (.getfield 18, 3) := by decide +kernel
theorem mj_d_20_10 : decode mj_m_20.2.1 10 = .ok (.getfield 64, 3) := by decide +kernel
theorem mj_d_20_13 : decode mj_m_20.2.1 13 = .ok (.ifCond .ne 38, 3) := by decide +kernel
theorem mj_d_20_16 : decode mj_m_20.2.1 16 = .ok (.iload_n 1, 1) := by decide +kernel
theorem mj_d_20_17 : decode mj_m_20.2.1 17 = .ok (.bipush 104, 2) := by decide +kernel
theorem mj_d_20_19 : decode mj_m_20.2.1 19 = .ok (.if_icmp .ne 15, 3) := by decide +kernel
theorem mj_d_20_22 : decode mj_m_20.2.1 22 = .ok (.aload_n 0, 1) := by decide +kernel
theorem mj_d_20_23 : decode mj_m_20.2.1 23 = .ok (.getfield 18, 3) := by decide +kernel
theorem mj_d_20_26 : decode mj_m_20.2.1 26 = .ok (.getfield 68, 3) := by decide +kernel
theorem mj_d_20_29 : decode mj_m_20.2.1 29 = .ok (.bipush 9, 2) := by decide +kernel
theorem mj_d_20_31 : decode mj_m_20.2.1 31 = .ok (.if_icmp .ge 20, 3) := by decide +kernel
theorem mj_d_20_34 : decode mj_m_20.2.1 34 = .ok (.iload_n 1, 1) := by decide +kernel
theorem mj_d_20_35 : decode mj_m_20.2.1 35 = .ok (.bipush 115, 2) := by decide +kernel
theorem mj_d_20_37 : decode mj_m_20.2.1 37 = .ok (.if_icmp .ne 18, 3) := by decide +kernel
theorem mj_d_20_40 : decode mj_m_20.2.1 40 = .ok (.aload_n 0, 1) := by decide +kernel
theorem mj_d_20_41 : decode mj_m_20.2.1 41 = .ok (.getfield 18, 3) := by decide +kernel
theorem mj_d_20_44 : decode mj_m_20.2.1 44 = .ok (.getfield 71, 3) := by decide +kernel
theorem mj_d_20_47 : decode mj_m_20.2.1 47 = .ok (.iconst 5, 1) := by decide +kernel
theorem mj_d_20_48 : decode mj_m_20.2.1 48 = .ok (.if_icmp .lt 7, 3) := by decide +kernel
theorem mj_d_20_51 : decode mj_m_20.2.1 51 = .ok (.iconst 1, 1) := by decide +kernel
theorem mj_d_20_52 : decode mj_m_20.2.1 52 = .ok (.goto 4, 3) := by decide +kernel
theorem mj_d_20_55 : decode mj_m_20.2.1 55 = .ok (.iconst 0, 1) := by decide +kernel
theorem mj_d_20_56 : decode mj_m_20.2.1 56 = .ok (.ireturn, 1) := by decide +kernel
theorem mj_d_23_0 : decode mj_m_23.2.1 0 = .ok (.aload_n 0, 1) := by decide +kernel
theorem mj_d_23_1 : decode mj_m_23.2.1 1 = .ok (.getfield 30, 3) := by decide +kernel
theorem mj_d_23_4 : decode mj_m_23.2.1 4 = .ok (.istore_n 2, 1) := by decide +kernel
theorem mj_d_23_5 : decode mj_m_23.2.1 5 = .ok (.iconst 0, 1) := by decide +kernel
theorem mj_d_23_6 : decode mj_m_23.2.1 6 = .ok (.istore_n 3, 1) := by decide +kernel
theorem mj_d_23_7 : decode mj_m_23.2.1 7 = .ok (.iconst 0, 1) := by decide +kernel
theorem mj_d_23_8 : decode mj_m_23.2.1 8 = .ok (.istore 4, 2) := by decide +kernel
theorem mj_d_23_10 : decode mj_m_23.2.1 10 = .ok (.iconst 0, 1) := by decide +kernel
theorem mj_d_23_11 : decode mj_m_23.2.1 11 = .ok (.istore 5, 2) := by decide +kernel
theorem mj_d_23_13 : decode mj_m_23.2.1 13 = .ok (.iload 5, 2) := by decide +kernel
theorem mj_d_23_15 : decode mj_m_23.2.1 15 = .ok (.sipush 240, 3) := by decide +kernel
theorem mj_d_23_18 : decode mj_m_23.2.1 18 = .ok (.if_icmp .ge 51, 3) := by decide +kernel
theorem mj_d_23_21 : decode mj_m_23.2.1 21 = .ok (.aload_n 0, 1) := by decide +kernel
theorem mj_d_23_22 : decode mj_m_23.2.1 22 = .ok (.invokevirtual 45, 3) := by decide +kernel
theorem mj_d_23_25 : decode mj_m_23.2.1 25 = .ok (.invokestatic 94, 3) := by decide +kernel
theorem mj_d_23_28 : decode mj_m_23.2.1 28 = .ok (.ifCond .eq 41, 3) := by decide +kernel
theorem mj_d_23_31 : decode mj_m_23.2.1 31 = .ok (.iinc 4 1, 3) := by decide +kernel
theorem mj_d_23_34 : decode mj_m_23.2.1 34 = .ok (.iload 4, 2) := by decide +kernel
theorem mj_d_23_36 : decode mj_m_23.2.1 36 = .ok (.iconst 3, 1) := by decide +kernel
theorem mj_d_23_37 : decode mj_m_23.2.1 37 = .ok (.if_icmp .gt 16, 3) := by decide +kernel
theorem mj_d_23_40 : decode mj_m_23.2.1 40 = .ok (.iload_n 3, 1) := by decide +kernel
theorem mj_d_23_41 : decode mj_m_23.2.1 41 = .ok (.bipush 10, 2) := by decide +kernel
theorem mj_d_23_43 : decode mj_m_23.2.1 43 = .ok (.imul, 1) := by decide +kernel
theorem mj_d_23_44 : decode mj_m_23.2.1 44 = .ok (.aload_n 0, 1) := by decide +kernel
theorem mj_d_23_45 : decode mj_m_23.2.1 45 = .ok (.invokevirtual 45, 3) := by decide +kernel
theorem mj_d_23_48 : decode mj_m_23.2.1 48 = .ok (.bipush 48, 2) := by decide +kernel
theorem mj_d_23_50 : decode mj_m_23.2.1 50 = .ok (.isub, 1) := by decide +kernel
theorem mj_d_23_51 : decode mj_m_23.2.1 51 = .ok (.iadd, 1) := by decide +kernel
theorem mj_d_23_52 : decode mj_m_23.2.1 52 = .ok (.istore_n 3, 1) := by decide +kernel
theorem mj_d_23_53 : decode mj_m_23.2.1 53 = .ok (.aload_n 0, 1) := by decide +kernel
theorem mj_d_23_54 : decode mj_m_23.2.1 54 = .ok (.dup, 1) := by decide +kernel
theorem mj_d_23_55 : decode mj_m_23.2.1 55 = .ok (.getfield 30, 3) := by decide +kernel
theorem mj_d_23_58 : decode mj_m_23.2.1 58 = .ok (.iconst 1, 1) := by decide +kernel
theorem mj_d_23_59 : decode mj_m_23.2.1 59 = .ok (.iadd, 1) := by decide +kernel
theorem mj_d_23_60 : decode mj_m_23.2.1 60 = .ok (.putfield 30, 3) := by decide +kernel
theorem mj_d_23_63 : decode mj_m_23.2.1 63 = .ok (.iinc 5 1, 3) := by decide +kernel
theorem mj_d_23_66 : decode mj_m_23.2.1 66 = .ok (.goto (-53), 3) := by decide +kernel
theorem mj_d_23_69 : decode mj_m_23.2.1 69 = .ok (.iload 4, 2) := by decide +kernel
theorem mj_d_23_71 : decode mj_m_23.2.1 71 = .ok (.ifCond .ne 12, 3) := by decide +kernel
theorem mj_d_23_74 : decode mj_m_23.2.1 74 = .ok (.aload_n 0, 1) := by decide +kernel
theorem mj_d_23_75 : decode mj_m_23.2.1 75 = .ok (.iconst 1, 1) := by decide +kernel
theorem mj_d_23_76 : decode mj_m_23.2.1 76 = .ok (.iload_n 2, 1) := by decide +kernel
theorem mj_d_23_77 : decode mj_m_23.2.1 77 = .ok (.invokevirtual 53, 3) := by decide +kernel
theorem mj_d_23_80 : decode mj_m_23.2.1 80 = .ok (.goto 20, 3) := by decide +kernel
theorem mj_d_23_83 : decode mj_m_23.2.1 83 = .ok (.iload 4, 2) := by decide +kernel
theorem mj_d_23_85 : decode mj_m_23.2.1 85 = .ok (.iconst 3, 1) := by decide +kernel
theorem mj_d_23_86 : decode mj_m_23.2.1 86 = .ok (.if_icmp .gt 8, 3) := by decide +kernel
theorem mj_d_23_89 : decode mj_m_23.2.1 89 = .ok (.iload_n 3, 1) := by decide +kernel
theorem mj_d_23_90 : decode mj_m_23.2.1 90 = .ok (.iload_n 1, 1) := by decide +kernel
theorem mj_d_23_91 : decode mj_m_23.2.1 91 = .ok (.if_icmp .le 9, 3) := by decide +kernel
theorem mj_d_23_94 : decode mj_m_23.2.1 94 = .ok (.aload_n 0, 1) := by decide +kernel
theorem mj_d_23_95 : decode mj_m_23.2.1 95 = .ok (.iconst 2, 1) := by decide +kernel
theorem mj_d_23_96 : decode mj_m_23.2.1 96 = .ok (.iload_n 2, 1) := by decide +kernel
theorem mj_d_23_97 : decode mj_m_23.2.1 97 = .ok (.invokevirtual 53, 3) := by decide +kernel
theorem mj_d_23_100 : decode mj_m_23.2.1 100 = .ok (.iload_n 3, 1) := by decide +kernel
theorem mj_d_23_101 : decode mj_m_23.2.1 101 = .ok (.ireturn, 1) := by decide +kernel
theorem mj_d_24_0 : decode mj_m_24.2.1 0 = .ok (.iload_n 0, 1) := by decide +kernel
theorem mj_d_24_1 : decode mj_m_24.2.1 1 = .ok (.bipush 48, 2) := by decide +kernel
theorem mj_d_24_3 : decode mj_m_24.2.1 3 = .ok (.if_icmp .lt 13, 3) := by decide +kernel
theorem mj_d_24_6 : decode mj_m_24.2.1 6 = .ok (.iload_n 0, 1) := by decide +kernel
theorem mj_d_24_7 : decode mj_m_24.2.1 7 = .ok (.bipush 57, 2) := by decide +kernel
theorem mj_d_24_9 : decode mj_m_24.2.1 9 = .ok (.if_icmp .gt 7, 3) := by decide +kernel
theorem mj_d_24_12 : decode mj_m_24.2.1 12 = .ok (.iconst 1, 1) := by decide +kernel
theorem mj_d_24_13 : decode mj_m_24.2.1 13 = .ok (.goto 4, 3) := by decide +kernel
theorem mj_d_24_16 : decode mj_m_24.2.1 16 = .ok (.iconst 0, 1) := by decide +kernel
theorem mj_d_24_17 : decode mj_m_24.2.1 17 = .ok (.ireturn, 1) := by decide +kernel
theorem mj_d_25_0 : decode mj_m_25.2.1 0 = .ok (.aload_n 0, 1) := by decide +kernel
theorem mj_d_25_1 : decode mj_m_25.2.1 1 = .ok (.invokevirtual 39, 3) := by decide +kernel
theorem mj_d_25_4 : decode mj_m_25.2.1 4 = .ok (.aload_n 0, 1) := by decide +kernel
theorem mj_d_25_5 : decode mj_m_25.2.1 5 = .ok (.invokevirtual 45, 3) := by decide +kernel
theorem mj_d_25_8 : decode mj_m_25.2.1 8 = .ok (.bipush 59, 2) := by decide +kernel
theorem mj_d_25_10 : decode mj_m_25.2.1 10 = .ok (.if_icmp .ne 16, 3) := by decide +kernel
theorem mj_d_25_13 : decode mj_m_25.2.1 13 = .ok (.aload_n 0, 1) := by decide +kernel
theorem mj_d_25_14 : decode mj_m_25.2.1 14 = .ok (.dup, 1) := by decide +kernel
theorem mj_d_25_15 : decode mj_m_25.2.1 15 = .ok (.getfield 30, 3) := by decide +kernel
theorem mj_d_25_18 : decode mj_m_25.2.1 18 = .ok (.iconst 1, 1) := by decide +kernel
theorem mj_d_25_19 : decode mj_m_25.2.1 19 = .ok (.iadd, 1) := by decide +kernel
theorem mj_d_25_20 : decode mj_m_25.2.1 20 = .ok (.putfield 30, 3) := by decide +kernel
theorem mj_d_25_23 : decode mj_m_25.2.1 23 = .ok (.goto 12, 3) := by decide +kernel
theorem mj_d_25_26 : decode mj_m_25.2.1 26 = .ok (.aload_n 0, 1) := by decide +kernel
theorem mj_d_25_27 : decode mj_m_25.2.1 27 = .ok (.iconst 1, 1) := by decide +kernel
theorem mj_d_25_28 : decode mj_m_25.2.1 28 = .ok (.aload_n 0, 1) := by decide +kernel
theorem mj_d_25_29 : decode mj_m_25.2.1 29 = .ok (.getfield 30, 3) := by decide +kernel
theorem mj_d_25_32 : decode mj_m_25.2.1 32 = .ok (.invokevirtual 53, 3) := by decide +kernel
theorem mj_d_25_35 : decode mj_m_25.2.1 35 = .ok (.return_, 1) := by decide +kernel
def dc_Text_add (s : sg_S) (a1 : Int) : sg_S × Int := (if (s 1 2) < 0 then (s, (-1000000004)) else (if (s 1 2) < 240 then ((sg_up (sg_up s 2 ((s 1 2).toNat) a1) 1 2 ((s 1 2) + 1)), ((s 1 2) + 1)) else (s, (-1000000004))))
set_option maxRecDepth 100000 in
theorem dt_Text_add {h : mj_H} (hH : sy_H h) {a1 : Int} (b_a1 : 0 ≤ a1) (t_a1 : a1 ≤ 65535) : sy_wp (mj_m_11, 0, [(0, .ref 1), (1, sy_i a1)], [], h) (dq2 (-1000000004) (240) (dc_Text_add (sy_rd h) a1)) := by
  unfold dc_Text_add
  refine sy_st (S' := (mj_m_11, 1, [(0, .ref 1), (1, sy_i a1)], [.ref 1], h)) mj_d_11_0 (fun _ _ => rfl) ?_
  refine sy_gf mj_d_11_1 rfl rfl (by decide) rfl hH ?_
  rintro _ rfl bx1 tx1
  refine sy_ifc mj_d_11_4 rfl ⟨by omega, by omega⟩ (fun (c2 : (sy_rd h 1 2) < 0) => ?_) (fun (c2 : ¬ ((sy_rd h 1 2) < 0)) => ?_)
  · skip
    rw [if_pos c2]
    refine sy_ldc (n := -1000000004) mj_d_11_17 rfl (by decide) ?_
    exact sy_reti mj_d_11_19 rfl ⟨hH, rfl, rfl, by omega, by omega⟩
  · skip
    rw [if_neg c2]
    refine sy_st (S' := (mj_m_11, 8, [(0, .ref 1), (1, sy_i a1)], [.ref 1], h)) mj_d_11_7 (fun _ _ => rfl) ?_
    refine sy_gf mj_d_11_8 rfl rfl (by decide) rfl hH ?_
    rintro _ rfl bx3 tx3
    refine sy_sip mj_d_11_11 (by decide) ?_
    refine sy_icm mj_d_11_14 rfl ⟨by omega, by omega⟩ ⟨by omega, by omega⟩ (fun (c4 : (sy_rd h 1 2) < 240) => ?_) (fun (c4 : ¬ ((sy_rd h 1 2) < 240)) => ?_)
    · skip
      rw [if_pos c4]
      refine sy_st (S' := (mj_m_11, 21, [(0, .ref 1), (1, sy_i a1)], [.ref 1], h)) mj_d_11_20 (fun _ _ => rfl) ?_
      refine sy_gr2 (b := 2) mj_d_11_21 rfl rfl (by decide) rfl rfl hH ?_
      refine sy_st (S' := (mj_m_11, 25, [(0, .ref 1), (1, sy_i a1)], [.ref 1, .ref 2], h)) mj_d_11_24 (fun _ _ => rfl) ?_
      refine sy_gf mj_d_11_25 rfl rfl (by decide) rfl hH ?_
      rintro _ rfl bx5 tx5
      refine sy_st (S' := (mj_m_11, 29, [(0, .ref 1), (1, sy_i a1)], [sy_i a1, sy_i (sy_rd h 1 2), .ref 2], h)) mj_d_11_28 (fun _ _ => rfl) ?_
      refine sg_cas (v := a1) mj_d_11_29 rfl (by decide) (by omega) (by omega) (ab_el_1 rfl _) hH (by omega) (by omega) ⟨by omega, by omega⟩ ?_
      intro h6 th6 eh6
      refine sy_st (S' := (mj_m_11, 31, [(0, .ref 1), (1, sy_i a1)], [.ref 1], h6)) mj_d_11_30 (fun _ _ => rfl) ?_
      refine sy_st (S' := (mj_m_11, 32, [(0, .ref 1), (1, sy_i a1)], [.ref 1, .ref 1], h6)) mj_d_11_31 (fun _ _ => rfl) ?_
      refine sy_gf mj_d_11_32 rfl rfl (by decide) rfl th6 ?_
      intro x7 ex7 bx7 tx7
      rw [eh6, sg_na (by decide)] at ex7
      subst ex7
      refine sy_st (S' := (mj_m_11, 36, [(0, .ref 1), (1, sy_i a1)], [sy_i 1, sy_i (sy_rd h 1 2), .ref 1], h6)) mj_d_11_35 (fun _ _ => rfl) ?_
      refine sy_add mj_d_11_36 ?_
      refine sg_pf (z := ((sy_rd h 1 2) + 1)) mj_d_11_37 rfl rfl (by decide) (Or.inl rfl) rfl th6 (by omega) (by omega) ⟨by omega, by omega⟩ ?_
      intro h8 th8 eh8
      rw [eh6] at eh8
      refine sy_st (S' := (mj_m_11, 41, [(0, .ref 1), (1, sy_i a1)], [.ref 1], h8)) mj_d_11_40 (fun _ _ => rfl) ?_
      refine sy_gf mj_d_11_41 rfl rfl (by decide) rfl th8 ?_
      intro x9 ex9 bx9 tx9
      rw [eh8, sg_eq] at ex9
      subst ex9
      exact sy_reti mj_d_11_44 rfl ⟨th8, eh8, rfl, by omega, by omega⟩
    · skip
      rw [if_neg c4]
      refine sy_ldc (n := -1000000004) mj_d_11_17 rfl (by decide) ?_
      exact sy_reti mj_d_11_19 rfl ⟨hH, rfl, rfl, by omega, by omega⟩
def dc_Text_letter (s : sg_S) : Int := (if (s 1 3) < 0 then 0 else (if (s 1 2) ≤ (s 1 3) then 0 else (if 240 ≤ (s 1 3) then 0 else (s 2 ((s 1 3).toNat)))))
set_option maxRecDepth 100000 in
theorem dt_Text_letter {h : mj_H} (hH : sy_H h) : sy_wp (mj_m_16, 0, [(0, .ref 1)], [], h) (dq1 h (0) (65535) (dc_Text_letter (sy_rd h))) := by
  unfold dc_Text_letter
  refine sy_st (S' := (mj_m_16, 1, [(0, .ref 1)], [.ref 1], h)) mj_d_16_0 (fun _ _ => rfl) ?_
  refine sy_gf mj_d_16_1 rfl rfl (by decide) rfl hH ?_
  rintro _ rfl bx1 tx1
  refine sy_ifc mj_d_16_4 rfl ⟨by omega, by omega⟩ (fun (c2 : (sy_rd h 1 3) < 0) => ?_) (fun (c2 : ¬ ((sy_rd h 1 3) < 0)) => ?_)
  · skip
    rw [if_pos c2]
    refine sy_st (S' := (mj_m_16, 41, [(0, .ref 1)], [sy_i 0], h)) mj_d_16_40 (fun _ _ => rfl) ?_
    exact sy_retc mj_d_16_41 rfl ⟨by omega, by omega⟩ ⟨rfl, rfl, by omega, by omega⟩
  · skip
    rw [if_neg c2]
    refine sy_st (S' := (mj_m_16, 8, [(0, .ref 1)], [.ref 1], h)) mj_d_16_7 (fun _ _ => rfl) ?_
    refine sy_gf mj_d_16_8 rfl rfl (by decide) rfl hH ?_
    rintro _ rfl bx3 tx3
    refine sy_st (S' := (mj_m_16, 12, [(0, .ref 1)], [.ref 1, sy_i (sy_rd h 1 3)], h)) mj_d_16_11 (fun _ _ => rfl) ?_
    refine sy_gf mj_d_16_12 rfl rfl (by decide) rfl hH ?_
    rintro _ rfl bx4 tx4
    refine sy_icm mj_d_16_15 rfl ⟨by omega, by omega⟩ ⟨by omega, by omega⟩ (fun (c5 : (sy_rd h 1 2) ≤ (sy_rd h 1 3)) => ?_) (fun (c5 : ¬ ((sy_rd h 1 2) ≤ (sy_rd h 1 3))) => ?_)
    · skip
      rw [if_pos c5]
      refine sy_st (S' := (mj_m_16, 41, [(0, .ref 1)], [sy_i 0], h)) mj_d_16_40 (fun _ _ => rfl) ?_
      exact sy_retc mj_d_16_41 rfl ⟨by omega, by omega⟩ ⟨rfl, rfl, by omega, by omega⟩
    · skip
      rw [if_neg c5]
      refine sy_st (S' := (mj_m_16, 19, [(0, .ref 1)], [.ref 1], h)) mj_d_16_18 (fun _ _ => rfl) ?_
      refine sy_gf mj_d_16_19 rfl rfl (by decide) rfl hH ?_
      rintro _ rfl bx6 tx6
      refine sy_sip mj_d_16_22 (by decide) ?_
      refine sy_icm mj_d_16_25 rfl ⟨by omega, by omega⟩ ⟨by omega, by omega⟩ (fun (c7 : 240 ≤ (sy_rd h 1 3)) => ?_) (fun (c7 : ¬ (240 ≤ (sy_rd h 1 3))) => ?_)
      · skip
        rw [if_pos c7]
        refine sy_st (S' := (mj_m_16, 41, [(0, .ref 1)], [sy_i 0], h)) mj_d_16_40 (fun _ _ => rfl) ?_
        exact sy_retc mj_d_16_41 rfl ⟨by omega, by omega⟩ ⟨rfl, rfl, by omega, by omega⟩
      · skip
        rw [if_neg c7]
        refine sy_st (S' := (mj_m_16, 29, [(0, .ref 1)], [.ref 1], h)) mj_d_16_28 (fun _ _ => rfl) ?_
        refine sy_gr2 (b := 2) mj_d_16_29 rfl rfl (by decide) rfl rfl hH ?_
        refine sy_st (S' := (mj_m_16, 33, [(0, .ref 1)], [.ref 1, .ref 2], h)) mj_d_16_32 (fun _ _ => rfl) ?_
        refine sy_gf mj_d_16_33 rfl rfl (by decide) rfl hH ?_
        rintro _ rfl bx8 tx8
        refine sy_ca mj_d_16_36 rfl (by decide) (by omega) (by omega) (ab_el_1 rfl _) hH ?_
        rintro _ rfl bx9 tx9
        refine sy_st (S' := (mj_m_16, 41, [(0, .ref 1)], [sy_i (sy_rd h 2 ((sy_rd h 1 3).toNat))], h)) mj_d_16_37 (fun _ _ => rfl) ?_
        exact sy_retc mj_d_16_41 rfl ⟨by omega, by omega⟩ ⟨rfl, rfl, by omega, by omega⟩
def dc_Text_skipBlanks_2 (n : Nat) : sg_S → Int → sg_S := Nat.rec (fun (s : sg_S) l1 => s) (fun _ ih => fun s l1 => (if 240 ≤ l1 then s else (if (dc_Text_letter s) = 32 then (ih (sg_up s 1 3 (sy_w ((s 1 3) + 1))) (l1 + 1)) else s))) n
theorem dc_Text_skipBlanks_2_s (n : Nat) (s : sg_S) (l1 : Int) : dc_Text_skipBlanks_2 (n + 1) s l1 = (if 240 ≤ l1 then s else (if (dc_Text_letter s) = 32 then ((dc_Text_skipBlanks_2 n) (sg_up s 1 3 (sy_w ((s 1 3) + 1))) (l1 + 1)) else s)) := rfl
def dc_Text_skipBlanks (s : sg_S) : sg_S := (dc_Text_skipBlanks_2 241 s 0)
set_option maxRecDepth 100000 in
theorem dt_Text_skipBlanks_2 : ∀ (n : Nat) {h : mj_H} (hH : sy_H h) {l1 : Int} (b_l1 : 0 ≤ l1) (t_l1 : l1 ≤ 240) (hm : 240 - l1 < (n : Int)), sy_wp (mj_m_15, 2, [(0, .ref 1), (1, sy_i l1)], [], h) (dq3 (dc_Text_skipBlanks_2 n (sy_rd h) l1)) := by
  intro n
  induction n with
  | zero =>
    intro h hH l1 b_l1 t_l1 hm
    exact absurd hm (by omega)
  | succ n ih =>
    intro h hH l1 b_l1 t_l1 hm
    rw [dc_Text_skipBlanks_2_s]
    refine sy_st (S' := (mj_m_15, 3, [(0, .ref 1), (1, sy_i l1)], [sy_i l1], h)) mj_d_15_2 (fun _ _ => rfl) ?_
    refine sy_sip mj_d_15_3 (by decide) ?_
    refine sy_icm mj_d_15_6 rfl ⟨by omega, by omega⟩ ⟨by omega, by omega⟩ (fun (c1 : 240 ≤ l1) => ?_) (fun (c1 : ¬ (240 ≤ l1)) => ?_)
    · skip
      rw [if_pos c1]
      exact sy_retv mj_d_15_34 rfl ⟨rfl, hH, rfl⟩
    · skip
      rw [if_neg c1]
      refine sy_st (S' := (mj_m_15, 10, [(0, .ref 1), (1, sy_i l1)], [.ref 1], h)) mj_d_15_9 (fun _ _ => rfl) ?_
      refine sy_cv (M' := mj_m_16) (vs := [.ref 1]) (rest := []) mj_d_15_10 rfl rfl rfl rfl hH rfl rfl ⟨by decide, ⟨Nat.le_of_ble_eq_true rfl, Nat.le_of_ble_eq_true rfl, Nat.le_of_ble_eq_true rfl, Nat.le_of_ble_eq_true rfl, Nat.le_of_ble_eq_true rfl⟩⟩ (dt_Text_letter hH) ?_
      rintro _ _ ⟨rfl, rfl, b2, b2t⟩
      show sy_wp (mj_m_15, 13, [(0, .ref 1), (1, sy_i l1)], [sy_i (dc_Text_letter (sy_rd h))], h) _
      refine sy_bip mj_d_15_13 (by decide) ?_
      refine sy_icm mj_d_15_15 rfl ⟨by omega, by omega⟩ ⟨by omega, by omega⟩ (fun (c3 : ¬ ((dc_Text_letter (sy_rd h)) = 32)) => ?_) (fun (c3 : ¬ ¬ ((dc_Text_letter (sy_rd h)) = 32)) => ?_)
      · skip
        rw [if_neg c3]
        exact sy_retv mj_d_15_34 rfl ⟨rfl, hH, rfl⟩
      · skip
        rw [if_pos (Decidable.not_not.mp c3)]
        replace c3 := Decidable.not_not.mp c3
        refine sy_st (S' := (mj_m_15, 19, [(0, .ref 1), (1, sy_i l1)], [.ref 1], h)) mj_d_15_18 (fun _ _ => rfl) ?_
        refine sy_st (S' := (mj_m_15, 20, [(0, .ref 1), (1, sy_i l1)], [.ref 1, .ref 1], h)) mj_d_15_19 (fun _ _ => rfl) ?_
        refine sy_gf mj_d_15_20 rfl rfl (by decide) rfl hH ?_
        rintro _ rfl bx4 tx4
        refine sy_st (S' := (mj_m_15, 24, [(0, .ref 1), (1, sy_i l1)], [sy_i 1, sy_i (sy_rd h 1 3), .ref 1], h)) mj_d_15_23 (fun _ _ => rfl) ?_
        refine sy_add mj_d_15_24 ?_
        refine sg_pfw (z := ((sy_rd h 1 3) + 1)) mj_d_15_25 rfl rfl (by decide) rfl rfl hH ?_
        intro h5 th5 eh5
        refine sy_inc (a := l1) (lv' := [(1, sy_i (l1 + 1)), (0, .ref 1)]) mj_d_15_28 (Nat.le_of_ble_eq_true rfl) rfl rfl ?_
        refine sy_st (S' := (mj_m_15, 2, [(1, sy_i (l1 + 1)), (0, .ref 1)], [], h5)) mj_d_15_31 (fun _ _ => rfl) ?_
        refine sy_lv (lv := [(0, .ref 1), (1, sy_i (l1 + 1))]) rfl ⟨rfl, rfl, trivial⟩ ?_
        rw [← eh5]
        exact ih th5 (by first | omega | assumption) (by first | omega | assumption) (by omega)
set_option maxRecDepth 100000 in
theorem dt_Text_skipBlanks {h : mj_H} (hH : sy_H h) : sy_wp (mj_m_15, 0, [(0, .ref 1)], [], h) (dq3 (dc_Text_skipBlanks (sy_rd h))) := by
  unfold dc_Text_skipBlanks
  refine sy_st (S' := (mj_m_15, 1, [(0, .ref 1)], [sy_i 0], h)) mj_d_15_0 (fun _ _ => rfl) ?_
  refine sy_st (S' := (mj_m_15, 2, [(1, sy_i 0), (0, .ref 1)], [], h)) mj_d_15_1 (fun _ _ => rfl) ?_
  refine sy_lv (lv := [(0, .ref 1), (1, sy_i 0)]) rfl ⟨rfl, rfl, trivial⟩ ?_
  exact dt_Text_skipBlanks_2 241 hH (by first | omega | assumption) (by first | omega | assumption) (by omega)
def dc_Text_fail (s : sg_S) (a1 a2 : Int) : sg_S := (if (s 1 4) = 0 then (sg_up (sg_up s 1 4 a1) 1 5 a2) else s)
set_option maxRecDepth 100000 in
theorem dt_Text_fail {h : mj_H} (hH : sy_H h) {a1 a2 : Int} (b_a1 : 1 ≤ a1) (t_a1 : a1 ≤ 3) (b_a2 : (-2147483648) ≤ a2) (t_a2 : a2 ≤ 2147483647) : sy_wp (mj_m_19, 0, [(0, .ref 1), (1, sy_i a1), (2, sy_i a2)], [], h) (dq3 (dc_Text_fail (sy_rd h) a1 a2)) := by
  unfold dc_Text_fail
  refine sy_st (S' := (mj_m_19, 1, [(0, .ref 1), (1, sy_i a1), (2, sy_i a2)], [.ref 1], h)) mj_d_19_0 (fun _ _ => rfl) ?_
  refine sy_gf mj_d_19_1 rfl rfl (by decide) rfl hH ?_
  rintro _ rfl bx1 tx1
  refine sy_ifc mj_d_19_4 rfl ⟨by omega, by omega⟩ (fun (c2 : ¬ ((sy_rd h 1 4) = 0)) => ?_) (fun (c2 : ¬ ¬ ((sy_rd h 1 4) = 0)) => ?_)
  · skip
    rw [if_neg c2]
    exact sy_retv mj_d_19_17 rfl ⟨rfl, hH, rfl⟩
  · skip
    rw [if_pos (Decidable.not_not.mp c2)]
    replace c2 := Decidable.not_not.mp c2
    refine sy_st (S' := (mj_m_19, 8, [(0, .ref 1), (1, sy_i a1), (2, sy_i a2)], [.ref 1], h)) mj_d_19_7 (fun _ _ => rfl) ?_
    refine sy_st (S' := (mj_m_19, 9, [(0, .ref 1), (1, sy_i a1), (2, sy_i a2)], [sy_i a1, .ref 1], h)) mj_d_19_8 (fun _ _ => rfl) ?_
    refine sg_pf (z := a1) mj_d_19_9 rfl rfl (by decide) (Or.inl rfl) rfl hH (by omega) (by omega) ⟨by omega, by omega⟩ ?_
    intro h3 th3 eh3
    refine sy_st (S' := (mj_m_19, 13, [(0, .ref 1), (1, sy_i a1), (2, sy_i a2)], [.ref 1], h3)) mj_d_19_12 (fun _ _ => rfl) ?_
    refine sy_st (S' := (mj_m_19, 14, [(0, .ref 1), (1, sy_i a1), (2, sy_i a2)], [sy_i a2, .ref 1], h3)) mj_d_19_13 (fun _ _ => rfl) ?_
    refine sg_pf (z := a2) mj_d_19_14 rfl rfl (by decide) (Or.inl rfl) rfl th3 (by omega) (by omega) ⟨by omega, by omega⟩ ?_
    intro h4 th4 eh4
    rw [eh3] at eh4
    exact sy_retv mj_d_19_17 rfl ⟨rfl, th4, eh4⟩
def dc_Text_mayBegin (s : sg_S) (a1 : Int) : Int := (if a1 = 99 then 1 else (if (s 3 0) = 0 then 0 else (if a1 = 104 then 1 else (if a1 = 115 then 1 else 0))))
set_option maxRecDepth 100000 in
theorem dt_Text_mayBegin {h : mj_H} (hH : sy_H h) {a1 : Int} (b_a1 : 0 ≤ a1) (t_a1 : a1 ≤ 65535) : sy_wp (mj_m_18, 0, [(0, .ref 1), (1, sy_i a1)], [], h) (dq1 h (0) (1) (dc_Text_mayBegin (sy_rd h) a1)) := by
  unfold dc_Text_mayBegin
  refine sy_st (S' := (mj_m_18, 1, [(0, .ref 1), (1, sy_i a1)], [sy_i a1], h)) mj_d_18_0 (fun _ _ => rfl) ?_
  refine sy_bip mj_d_18_1 (by decide) ?_
  refine sy_icm mj_d_18_3 rfl ⟨by omega, by omega⟩ ⟨by omega, by omega⟩ (fun (c1 : a1 = 99) => ?_) (fun (c1 : ¬ (a1 = 99)) => ?_)
  · skip
    rw [if_pos c1]
    refine sy_st (S' := (mj_m_18, 29, [(0, .ref 1), (1, sy_i a1)], [sy_i 1], h)) mj_d_18_28 (fun _ _ => rfl) ?_
    refine sy_st (S' := (mj_m_18, 33, [(0, .ref 1), (1, sy_i a1)], [sy_i 1], h)) mj_d_18_29 (fun _ _ => rfl) ?_
    exact sy_retb mj_d_18_33 rfl ⟨by omega, by omega⟩ ⟨rfl, rfl, by omega, by omega⟩
  · skip
    rw [if_neg c1]
    refine sy_st (S' := (mj_m_18, 7, [(0, .ref 1), (1, sy_i a1)], [.ref 1], h)) mj_d_18_6 (fun _ _ => rfl) ?_
    refine sy_gr2 (b := 3) mj_d_18_7 rfl rfl (by decide) rfl rfl hH ?_
    refine sy_gf mj_d_18_10 rfl rfl (by decide) rfl hH ?_
    rintro _ rfl bx2 tx2
    refine sy_ifc mj_d_18_13 rfl ⟨by omega, by omega⟩ (fun (c3 : (sy_rd h 3 0) = 0) => ?_) (fun (c3 : ¬ ((sy_rd h 3 0) = 0)) => ?_)
    · skip
      rw [if_pos c3]
      refine sy_st (S' := (mj_m_18, 33, [(0, .ref 1), (1, sy_i a1)], [sy_i 0], h)) mj_d_18_32 (fun _ _ => rfl) ?_
      exact sy_retb mj_d_18_33 rfl ⟨by omega, by omega⟩ ⟨rfl, rfl, by omega, by omega⟩
    · skip
      rw [if_neg c3]
      refine sy_st (S' := (mj_m_18, 17, [(0, .ref 1), (1, sy_i a1)], [sy_i a1], h)) mj_d_18_16 (fun _ _ => rfl) ?_
      refine sy_bip mj_d_18_17 (by decide) ?_
      refine sy_icm mj_d_18_19 rfl ⟨by omega, by omega⟩ ⟨by omega, by omega⟩ (fun (c4 : a1 = 104) => ?_) (fun (c4 : ¬ (a1 = 104)) => ?_)
      · skip
        rw [if_pos c4]
        refine sy_st (S' := (mj_m_18, 29, [(0, .ref 1), (1, sy_i a1)], [sy_i 1], h)) mj_d_18_28 (fun _ _ => rfl) ?_
        refine sy_st (S' := (mj_m_18, 33, [(0, .ref 1), (1, sy_i a1)], [sy_i 1], h)) mj_d_18_29 (fun _ _ => rfl) ?_
        exact sy_retb mj_d_18_33 rfl ⟨by omega, by omega⟩ ⟨rfl, rfl, by omega, by omega⟩
      · skip
        rw [if_neg c4]
        refine sy_st (S' := (mj_m_18, 23, [(0, .ref 1), (1, sy_i a1)], [sy_i a1], h)) mj_d_18_22 (fun _ _ => rfl) ?_
        refine sy_bip mj_d_18_23 (by decide) ?_
        refine sy_icm mj_d_18_25 rfl ⟨by omega, by omega⟩ ⟨by omega, by omega⟩ (fun (c5 : ¬ (a1 = 115)) => ?_) (fun (c5 : ¬ ¬ (a1 = 115)) => ?_)
        · skip
          rw [if_neg c5]
          refine sy_st (S' := (mj_m_18, 33, [(0, .ref 1), (1, sy_i a1)], [sy_i 0], h)) mj_d_18_32 (fun _ _ => rfl) ?_
          exact sy_retb mj_d_18_33 rfl ⟨by omega, by omega⟩ ⟨rfl, rfl, by omega, by omega⟩
        · skip
          rw [if_pos (Decidable.not_not.mp c5)]
          replace c5 := Decidable.not_not.mp c5
          refine sy_st (S' := (mj_m_18, 29, [(0, .ref 1), (1, sy_i a1)], [sy_i 1], h)) mj_d_18_28 (fun _ _ => rfl) ?_
          refine sy_st (S' := (mj_m_18, 33, [(0, .ref 1), (1, sy_i a1)], [sy_i 1], h)) mj_d_18_29 (fun _ _ => rfl) ?_
          exact sy_retb mj_d_18_33 rfl ⟨by omega, by omega⟩ ⟨rfl, rfl, by omega, by omega⟩
def dc_Text_isOneTooMany (s : sg_S) (a1 : Int) : Int := (if a1 = 99 then (if (s 3 0) = 0 then (if a1 = 104 then (if 9 ≤ (s 3 3) then 1 else (if a1 = 115 then (if (s 3 4) < 5 then 0 else 1) else 0)) else (if a1 = 115 then (if (s 3 4) < 5 then 0 else 1) else 0)) else 1) else (if a1 = 104 then (if 9 ≤ (s 3 3) then 1 else (if a1 = 115 then (if (s 3 4) < 5 then 0 else 1) else 0)) else (if a1 = 115 then (if (s 3 4) < 5 then 0 else 1) else 0)))
set_option maxRecDepth 100000 in
theorem dt_Text_isOneTooMany {h : mj_H} (hH : sy_H h) {a1 : Int} (b_a1 : 0 ≤ a1) (t_a1 : a1 ≤ 65535) : sy_wp (mj_m_20, 0, [(0, .ref 1), (1, sy_i a1)], [], h) (dq1 h (0) (1) (dc_Text_isOneTooMany (sy_rd h) a1)) := by
  unfold dc_Text_isOneTooMany
  refine sy_st (S' := (mj_m_20, 1, [(0, .ref 1), (1, sy_i a1)], [sy_i a1], h)) mj_d_20_0 (fun _ _ => rfl) ?_
  refine sy_bip mj_d_20_1 (by decide) ?_
  refine sy_icm mj_d_20_3 rfl ⟨by omega, by omega⟩ ⟨by omega, by omega⟩ (fun (c1 : ¬ (a1 = 99)) => ?_) (fun (c1 : ¬ ¬ (a1 = 99)) => ?_)
  · skip
    rw [if_neg c1]
    refine sy_st (S' := (mj_m_20, 17, [(0, .ref 1), (1, sy_i a1)], [sy_i a1], h)) mj_d_20_16 (fun _ _ => rfl) ?_
    refine sy_bip mj_d_20_17 (by decide) ?_
    refine sy_icm mj_d_20_19 rfl ⟨by omega, by omega⟩ ⟨by omega, by omega⟩ (fun (c2 : ¬ (a1 = 104)) => ?_) (fun (c2 : ¬ ¬ (a1 = 104)) => ?_)
    · skip
      rw [if_neg c2]
      refine sy_st (S' := (mj_m_20, 35, [(0, .ref 1), (1, sy_i a1)], [sy_i a1], h)) mj_d_20_34 (fun _ _ => rfl) ?_
      refine sy_bip mj_d_20_35 (by decide) ?_
      refine sy_icm mj_d_20_37 rfl ⟨by omega, by omega⟩ ⟨by omega, by omega⟩ (fun (c3 : ¬ (a1 = 115)) => ?_) (fun (c3 : ¬ ¬ (a1 = 115)) => ?_)
      · skip
        rw [if_neg c3]
        refine sy_st (S' := (mj_m_20, 56, [(0, .ref 1), (1, sy_i a1)], [sy_i 0], h)) mj_d_20_55 (fun _ _ => rfl) ?_
        exact sy_retb mj_d_20_56 rfl ⟨by omega, by omega⟩ ⟨rfl, rfl, by omega, by omega⟩
      · skip
        rw [if_pos (Decidable.not_not.mp c3)]
        replace c3 := Decidable.not_not.mp c3
        refine sy_st (S' := (mj_m_20, 41, [(0, .ref 1), (1, sy_i a1)], [.ref 1], h)) mj_d_20_40 (fun _ _ => rfl) ?_
        refine sy_gr2 (b := 3) mj_d_20_41 rfl rfl (by decide) rfl rfl hH ?_
        refine sy_gf mj_d_20_44 rfl rfl (by decide) rfl hH ?_
        rintro _ rfl bx4 tx4
        refine sy_st (S' := (mj_m_20, 48, [(0, .ref 1), (1, sy_i a1)], [sy_i 5, sy_i (sy_rd h 3 4)], h)) mj_d_20_47 (fun _ _ => rfl) ?_
        refine sy_icm mj_d_20_48 rfl ⟨by omega, by omega⟩ ⟨by omega, by omega⟩ (fun (c5 : (sy_rd h 3 4) < 5) => ?_) (fun (c5 : ¬ ((sy_rd h 3 4) < 5)) => ?_)
        · skip
          rw [if_pos c5]
          refine sy_st (S' := (mj_m_20, 56, [(0, .ref 1), (1, sy_i a1)], [sy_i 0], h)) mj_d_20_55 (fun _ _ => rfl) ?_
          exact sy_retb mj_d_20_56 rfl ⟨by omega, by omega⟩ ⟨rfl, rfl, by omega, by omega⟩
        · skip
          rw [if_neg c5]
          refine sy_st (S' := (mj_m_20, 52, [(0, .ref 1), (1, sy_i a1)], [sy_i 1], h)) mj_d_20_51 (fun _ _ => rfl) ?_
          refine sy_st (S' := (mj_m_20, 56, [(0, .ref 1), (1, sy_i a1)], [sy_i 1], h)) mj_d_20_52 (fun _ _ => rfl) ?_
          exact sy_retb mj_d_20_56 rfl ⟨by omega, by omega⟩ ⟨rfl, rfl, by omega, by omega⟩
    · skip
      rw [if_pos (Decidable.not_not.mp c2)]
      replace c2 := Decidable.not_not.mp c2
      refine sy_st (S' := (mj_m_20, 23, [(0, .ref 1), (1, sy_i a1)], [.ref 1], h)) mj_d_20_22 (fun _ _ => rfl) ?_
      refine sy_gr2 (b := 3) mj_d_20_23 rfl rfl (by decide) rfl rfl hH ?_
      refine sy_gf mj_d_20_26 rfl rfl (by decide) rfl hH ?_
      rintro _ rfl bx6 tx6
      refine sy_bip mj_d_20_29 (by decide) ?_
      refine sy_icm mj_d_20_31 rfl ⟨by omega, by omega⟩ ⟨by omega, by omega⟩ (fun (c7 : 9 ≤ (sy_rd h 3 3)) => ?_) (fun (c7 : ¬ (9 ≤ (sy_rd h 3 3))) => ?_)
      · skip
        rw [if_pos c7]
        refine sy_st (S' := (mj_m_20, 52, [(0, .ref 1), (1, sy_i a1)], [sy_i 1], h)) mj_d_20_51 (fun _ _ => rfl) ?_
        refine sy_st (S' := (mj_m_20, 56, [(0, .ref 1), (1, sy_i a1)], [sy_i 1], h)) mj_d_20_52 (fun _ _ => rfl) ?_
        exact sy_retb mj_d_20_56 rfl ⟨by omega, by omega⟩ ⟨rfl, rfl, by omega, by omega⟩
      · skip
        rw [if_neg c7]
        refine sy_st (S' := (mj_m_20, 35, [(0, .ref 1), (1, sy_i a1)], [sy_i a1], h)) mj_d_20_34 (fun _ _ => rfl) ?_
        refine sy_bip mj_d_20_35 (by decide) ?_
        refine sy_icm mj_d_20_37 rfl ⟨by omega, by omega⟩ ⟨by omega, by omega⟩ (fun (c8 : ¬ (a1 = 115)) => ?_) (fun (c8 : ¬ ¬ (a1 = 115)) => ?_)
        · skip
          rw [if_neg c8]
          refine sy_st (S' := (mj_m_20, 56, [(0, .ref 1), (1, sy_i a1)], [sy_i 0], h)) mj_d_20_55 (fun _ _ => rfl) ?_
          exact sy_retb mj_d_20_56 rfl ⟨by omega, by omega⟩ ⟨rfl, rfl, by omega, by omega⟩
        · skip
          rw [if_pos (Decidable.not_not.mp c8)]
          replace c8 := Decidable.not_not.mp c8
          refine sy_st (S' := (mj_m_20, 41, [(0, .ref 1), (1, sy_i a1)], [.ref 1], h)) mj_d_20_40 (fun _ _ => rfl) ?_
          refine sy_gr2 (b := 3) mj_d_20_41 rfl rfl (by decide) rfl rfl hH ?_
          refine sy_gf mj_d_20_44 rfl rfl (by decide) rfl hH ?_
          rintro _ rfl bx9 tx9
          refine sy_st (S' := (mj_m_20, 48, [(0, .ref 1), (1, sy_i a1)], [sy_i 5, sy_i (sy_rd h 3 4)], h)) mj_d_20_47 (fun _ _ => rfl) ?_
          refine sy_icm mj_d_20_48 rfl ⟨by omega, by omega⟩ ⟨by omega, by omega⟩ (fun (c10 : (sy_rd h 3 4) < 5) => ?_) (fun (c10 : ¬ ((sy_rd h 3 4) < 5)) => ?_)
          · skip
            rw [if_pos c10]
            refine sy_st (S' := (mj_m_20, 56, [(0, .ref 1), (1, sy_i a1)], [sy_i 0], h)) mj_d_20_55 (fun _ _ => rfl) ?_
            exact sy_retb mj_d_20_56 rfl ⟨by omega, by omega⟩ ⟨rfl, rfl, by omega, by omega⟩
          · skip
            rw [if_neg c10]
            refine sy_st (S' := (mj_m_20, 52, [(0, .ref 1), (1, sy_i a1)], [sy_i 1], h)) mj_d_20_51 (fun _ _ => rfl) ?_
            refine sy_st (S' := (mj_m_20, 56, [(0, .ref 1), (1, sy_i a1)], [sy_i 1], h)) mj_d_20_52 (fun _ _ => rfl) ?_
            exact sy_retb mj_d_20_56 rfl ⟨by omega, by omega⟩ ⟨rfl, rfl, by omega, by omega⟩
  · skip
    rw [if_pos (Decidable.not_not.mp c1)]
    replace c1 := Decidable.not_not.mp c1
    refine sy_st (S' := (mj_m_20, 7, [(0, .ref 1), (1, sy_i a1)], [.ref 1], h)) mj_d_20_6 (fun _ _ => rfl) ?_
    refine sy_gr2 (b := 3) mj_d_20_7 rfl rfl (by decide) rfl rfl hH ?_
    refine sy_gf mj_d_20_10 rfl rfl (by decide) rfl hH ?_
    rintro _ rfl bx11 tx11
    refine sy_ifc mj_d_20_13 rfl ⟨by omega, by omega⟩ (fun (c12 : ¬ ((sy_rd h 3 0) = 0)) => ?_) (fun (c12 : ¬ ¬ ((sy_rd h 3 0) = 0)) => ?_)
    · skip
      rw [if_neg c12]
      refine sy_st (S' := (mj_m_20, 52, [(0, .ref 1), (1, sy_i a1)], [sy_i 1], h)) mj_d_20_51 (fun _ _ => rfl) ?_
      refine sy_st (S' := (mj_m_20, 56, [(0, .ref 1), (1, sy_i a1)], [sy_i 1], h)) mj_d_20_52 (fun _ _ => rfl) ?_
      exact sy_retb mj_d_20_56 rfl ⟨by omega, by omega⟩ ⟨rfl, rfl, by omega, by omega⟩
    · skip
      rw [if_pos (Decidable.not_not.mp c12)]
      replace c12 := Decidable.not_not.mp c12
      refine sy_st (S' := (mj_m_20, 17, [(0, .ref 1), (1, sy_i a1)], [sy_i a1], h)) mj_d_20_16 (fun _ _ => rfl) ?_
      refine sy_bip mj_d_20_17 (by decide) ?_
      refine sy_icm mj_d_20_19 rfl ⟨by omega, by omega⟩ ⟨by omega, by omega⟩ (fun (c13 : ¬ (a1 = 104)) => ?_) (fun (c13 : ¬ ¬ (a1 = 104)) => ?_)
      · skip
        rw [if_neg c13]
        refine sy_st (S' := (mj_m_20, 35, [(0, .ref 1), (1, sy_i a1)], [sy_i a1], h)) mj_d_20_34 (fun _ _ => rfl) ?_
        refine sy_bip mj_d_20_35 (by decide) ?_
        refine sy_icm mj_d_20_37 rfl ⟨by omega, by omega⟩ ⟨by omega, by omega⟩ (fun (c14 : ¬ (a1 = 115)) => ?_) (fun (c14 : ¬ ¬ (a1 = 115)) => ?_)
        · skip
          rw [if_neg c14]
          refine sy_st (S' := (mj_m_20, 56, [(0, .ref 1), (1, sy_i a1)], [sy_i 0], h)) mj_d_20_55 (fun _ _ => rfl) ?_
          exact sy_retb mj_d_20_56 rfl ⟨by omega, by omega⟩ ⟨rfl, rfl, by omega, by omega⟩
        · skip
          rw [if_pos (Decidable.not_not.mp c14)]
          replace c14 := Decidable.not_not.mp c14
          refine sy_st (S' := (mj_m_20, 41, [(0, .ref 1), (1, sy_i a1)], [.ref 1], h)) mj_d_20_40 (fun _ _ => rfl) ?_
          refine sy_gr2 (b := 3) mj_d_20_41 rfl rfl (by decide) rfl rfl hH ?_
          refine sy_gf mj_d_20_44 rfl rfl (by decide) rfl hH ?_
          rintro _ rfl bx15 tx15
          refine sy_st (S' := (mj_m_20, 48, [(0, .ref 1), (1, sy_i a1)], [sy_i 5, sy_i (sy_rd h 3 4)], h)) mj_d_20_47 (fun _ _ => rfl) ?_
          refine sy_icm mj_d_20_48 rfl ⟨by omega, by omega⟩ ⟨by omega, by omega⟩ (fun (c16 : (sy_rd h 3 4) < 5) => ?_) (fun (c16 : ¬ ((sy_rd h 3 4) < 5)) => ?_)
          · skip
            rw [if_pos c16]
            refine sy_st (S' := (mj_m_20, 56, [(0, .ref 1), (1, sy_i a1)], [sy_i 0], h)) mj_d_20_55 (fun _ _ => rfl) ?_
            exact sy_retb mj_d_20_56 rfl ⟨by omega, by omega⟩ ⟨rfl, rfl, by omega, by omega⟩
          · skip
            rw [if_neg c16]
            refine sy_st (S' := (mj_m_20, 52, [(0, .ref 1), (1, sy_i a1)], [sy_i 1], h)) mj_d_20_51 (fun _ _ => rfl) ?_
            refine sy_st (S' := (mj_m_20, 56, [(0, .ref 1), (1, sy_i a1)], [sy_i 1], h)) mj_d_20_52 (fun _ _ => rfl) ?_
            exact sy_retb mj_d_20_56 rfl ⟨by omega, by omega⟩ ⟨rfl, rfl, by omega, by omega⟩
      · skip
        rw [if_pos (Decidable.not_not.mp c13)]
        replace c13 := Decidable.not_not.mp c13
        refine sy_st (S' := (mj_m_20, 23, [(0, .ref 1), (1, sy_i a1)], [.ref 1], h)) mj_d_20_22 (fun _ _ => rfl) ?_
        refine sy_gr2 (b := 3) mj_d_20_23 rfl rfl (by decide) rfl rfl hH ?_
        refine sy_gf mj_d_20_26 rfl rfl (by decide) rfl hH ?_
        rintro _ rfl bx17 tx17
        refine sy_bip mj_d_20_29 (by decide) ?_
        refine sy_icm mj_d_20_31 rfl ⟨by omega, by omega⟩ ⟨by omega, by omega⟩ (fun (c18 : 9 ≤ (sy_rd h 3 3)) => ?_) (fun (c18 : ¬ (9 ≤ (sy_rd h 3 3))) => ?_)
        · skip
          rw [if_pos c18]
          refine sy_st (S' := (mj_m_20, 52, [(0, .ref 1), (1, sy_i a1)], [sy_i 1], h)) mj_d_20_51 (fun _ _ => rfl) ?_
          refine sy_st (S' := (mj_m_20, 56, [(0, .ref 1), (1, sy_i a1)], [sy_i 1], h)) mj_d_20_52 (fun _ _ => rfl) ?_
          exact sy_retb mj_d_20_56 rfl ⟨by omega, by omega⟩ ⟨rfl, rfl, by omega, by omega⟩
        · skip
          rw [if_neg c18]
          refine sy_st (S' := (mj_m_20, 35, [(0, .ref 1), (1, sy_i a1)], [sy_i a1], h)) mj_d_20_34 (fun _ _ => rfl) ?_
          refine sy_bip mj_d_20_35 (by decide) ?_
          refine sy_icm mj_d_20_37 rfl ⟨by omega, by omega⟩ ⟨by omega, by omega⟩ (fun (c19 : ¬ (a1 = 115)) => ?_) (fun (c19 : ¬ ¬ (a1 = 115)) => ?_)
          · skip
            rw [if_neg c19]
            refine sy_st (S' := (mj_m_20, 56, [(0, .ref 1), (1, sy_i a1)], [sy_i 0], h)) mj_d_20_55 (fun _ _ => rfl) ?_
            exact sy_retb mj_d_20_56 rfl ⟨by omega, by omega⟩ ⟨rfl, rfl, by omega, by omega⟩
          · skip
            rw [if_pos (Decidable.not_not.mp c19)]
            replace c19 := Decidable.not_not.mp c19
            refine sy_st (S' := (mj_m_20, 41, [(0, .ref 1), (1, sy_i a1)], [.ref 1], h)) mj_d_20_40 (fun _ _ => rfl) ?_
            refine sy_gr2 (b := 3) mj_d_20_41 rfl rfl (by decide) rfl rfl hH ?_
            refine sy_gf mj_d_20_44 rfl rfl (by decide) rfl hH ?_
            rintro _ rfl bx20 tx20
            refine sy_st (S' := (mj_m_20, 48, [(0, .ref 1), (1, sy_i a1)], [sy_i 5, sy_i (sy_rd h 3 4)], h)) mj_d_20_47 (fun _ _ => rfl) ?_
            refine sy_icm mj_d_20_48 rfl ⟨by omega, by omega⟩ ⟨by omega, by omega⟩ (fun (c21 : (sy_rd h 3 4) < 5) => ?_) (fun (c21 : ¬ ((sy_rd h 3 4) < 5)) => ?_)
            · skip
              rw [if_pos c21]
              refine sy_st (S' := (mj_m_20, 56, [(0, .ref 1), (1, sy_i a1)], [sy_i 0], h)) mj_d_20_55 (fun _ _ => rfl) ?_
              exact sy_retb mj_d_20_56 rfl ⟨by omega, by omega⟩ ⟨rfl, rfl, by omega, by omega⟩
            · skip
              rw [if_neg c21]
              refine sy_st (S' := (mj_m_20, 52, [(0, .ref 1), (1, sy_i a1)], [sy_i 1], h)) mj_d_20_51 (fun _ _ => rfl) ?_
              refine sy_st (S' := (mj_m_20, 56, [(0, .ref 1), (1, sy_i a1)], [sy_i 1], h)) mj_d_20_52 (fun _ _ => rfl) ?_
              exact sy_retb mj_d_20_56 rfl ⟨by omega, by omega⟩ ⟨rfl, rfl, by omega, by omega⟩
def dc_Text_isFigure (s : sg_S) (a0 : Int) : Int := (if a0 < 48 then 0 else (if 57 < a0 then 0 else 1))
theorem df_Text_isFigure_0 (s : sg_S) (a0 : Int) : dc_Text_isFigure s a0 = 0 ∨ (48 ≤ a0 ∧ a0 ≤ 57) := by
  unfold dc_Text_isFigure
  (repeat' split) <;> omega
set_option maxRecDepth 100000 in
theorem dt_Text_isFigure {h : mj_H} (hH : sy_H h) {a0 : Int} (b_a0 : 0 ≤ a0) (t_a0 : a0 ≤ 65535) : sy_wp (mj_m_24, 0, [(0, sy_i a0)], [], h) (dq1 h (0) (1) (dc_Text_isFigure (sy_rd h) a0)) := by
  unfold dc_Text_isFigure
  refine sy_st (S' := (mj_m_24, 1, [(0, sy_i a0)], [sy_i a0], h)) mj_d_24_0 (fun _ _ => rfl) ?_
  refine sy_bip mj_d_24_1 (by decide) ?_
  refine sy_icm mj_d_24_3 rfl ⟨by omega, by omega⟩ ⟨by omega, by omega⟩ (fun (c1 : a0 < 48) => ?_) (fun (c1 : ¬ (a0 < 48)) => ?_)
  · skip
    rw [if_pos c1]
    refine sy_st (S' := (mj_m_24, 17, [(0, sy_i a0)], [sy_i 0], h)) mj_d_24_16 (fun _ _ => rfl) ?_
    exact sy_retb mj_d_24_17 rfl ⟨by omega, by omega⟩ ⟨rfl, rfl, by omega, by omega⟩
  · skip
    rw [if_neg c1]
    refine sy_st (S' := (mj_m_24, 7, [(0, sy_i a0)], [sy_i a0], h)) mj_d_24_6 (fun _ _ => rfl) ?_
    refine sy_bip mj_d_24_7 (by decide) ?_
    refine sy_icm mj_d_24_9 rfl ⟨by omega, by omega⟩ ⟨by omega, by omega⟩ (fun (c2 : 57 < a0) => ?_) (fun (c2 : ¬ (57 < a0)) => ?_)
    · skip
      rw [if_pos c2]
      refine sy_st (S' := (mj_m_24, 17, [(0, sy_i a0)], [sy_i 0], h)) mj_d_24_16 (fun _ _ => rfl) ?_
      exact sy_retb mj_d_24_17 rfl ⟨by omega, by omega⟩ ⟨rfl, rfl, by omega, by omega⟩
    · skip
      rw [if_neg c2]
      refine sy_st (S' := (mj_m_24, 13, [(0, sy_i a0)], [sy_i 1], h)) mj_d_24_12 (fun _ _ => rfl) ?_
      refine sy_st (S' := (mj_m_24, 17, [(0, sy_i a0)], [sy_i 1], h)) mj_d_24_13 (fun _ _ => rfl) ?_
      exact sy_retb mj_d_24_17 rfl ⟨by omega, by omega⟩ ⟨rfl, rfl, by omega, by omega⟩
def dc_Text_readNumber_13 (n : Nat) : sg_S → Int → Int → Int → Int → Int → sg_S × Int := Nat.rec (fun (s : sg_S) l1 l2 l3 l4 l5 => (s, 0)) (fun _ ih => fun s l1 l2 l3 l4 l5 => (if 240 ≤ l5 then (if l4 = 0 then ((dc_Text_fail s 1 l2), l3) else (if 3 < l4 then ((dc_Text_fail s 2 l2), l3) else (if l3 ≤ l1 then (s, l3) else ((dc_Text_fail s 2 l2), l3)))) else (if (dc_Text_isFigure s (dc_Text_letter s)) = 0 then (if l4 = 0 then ((dc_Text_fail s 1 l2), l3) else (if 3 < l4 then ((dc_Text_fail s 2 l2), l3) else (if l3 ≤ l1 then (s, l3) else ((dc_Text_fail s 2 l2), l3)))) else (if 3 < (l4 + 1) then (ih (sg_up s 1 3 (sy_w ((s 1 3) + 1))) l1 l2 l3 (l4 + 1) (l5 + 1)) else (ih (sg_up s 1 3 (sy_w ((s 1 3) + 1))) l1 l2 ((l3 * 10) + ((dc_Text_letter s) - 48)) (l4 + 1) (l5 + 1)))))) n
theorem dc_Text_readNumber_13_s (n : Nat) (s : sg_S) (l1 l2 l3 l4 l5 : Int) : dc_Text_readNumber_13 (n + 1) s l1 l2 l3 l4 l5 = (if 240 ≤ l5 then (if l4 = 0 then ((dc_Text_fail s 1 l2), l3) else (if 3 < l4 then ((dc_Text_fail s 2 l2), l3) else (if l3 ≤ l1 then (s, l3) else ((dc_Text_fail s 2 l2), l3)))) else (if (dc_Text_isFigure s (dc_Text_letter s)) = 0 then (if l4 = 0 then ((dc_Text_fail s 1 l2), l3) else (if 3 < l4 then ((dc_Text_fail s 2 l2), l3) else (if l3 ≤ l1 then (s, l3) else ((dc_Text_fail s 2 l2), l3)))) else (if 3 < (l4 + 1) then ((dc_Text_readNumber_13 n) (sg_up s 1 3 (sy_w ((s 1 3) + 1))) l1 l2 l3 (l4 + 1) (l5 + 1)) else ((dc_Text_readNumber_13 n) (sg_up s 1 3 (sy_w ((s 1 3) + 1))) l1 l2 ((l3 * 10) + ((dc_Text_letter s) - 48)) (l4 + 1) (l5 + 1))))) := rfl
def dc_Text_readNumber (s : sg_S) (a1 : Int) : sg_S × Int := (dc_Text_readNumber_13 241 s a1 (s 1 3) 0 0 0)
set_option maxRecDepth 100000 in
theorem dt_Text_readNumber_13 : ∀ (n : Nat) {h : mj_H} (hH : sy_H h) {l1 l2 l3 l4 l5 : Int} (b_l1 : (-2147483648) ≤ l1) (t_l1 : l1 ≤ 2147483647) (b_l2 : (-2147483648) ≤ l2) (t_l2 : l2 ≤ 2147483647) (b_l3 : 0 ≤ l3) (t_l3 : l3 ≤ 999) (b_l4 : 0 ≤ l4) (t_l4 : l4 ≤ 240) (b_l5 : 0 ≤ l5) (t_l5 : l5 ≤ 240) (i0 : (l4 = 0 → l3 = 0)) (i1 : (l4 = 1 → l3 ≤ 9)) (i2 : (l4 = 2 → l3 ≤ 99)) (i3 : l4 ≤ l5) (hm : 240 - l5 < (n : Int)), sy_wp (mj_m_23, 13, [(0, .ref 1), (1, sy_i l1), (2, sy_i l2), (3, sy_i l3), (4, sy_i l4), (5, sy_i l5)], [], h) (dq2 (0) (999) (dc_Text_readNumber_13 n (sy_rd h) l1 l2 l3 l4 l5)) := by
  intro n
  induction n with
  | zero =>
    intro h hH l1 l2 l3 l4 l5 b_l1 t_l1 b_l2 t_l2 b_l3 t_l3 b_l4 t_l4 b_l5 t_l5 i0 i1 i2 i3 hm
    exact absurd hm (by omega)
  | succ n ih =>
    intro h hH l1 l2 l3 l4 l5 b_l1 t_l1 b_l2 t_l2 b_l3 t_l3 b_l4 t_l4 b_l5 t_l5 i0 i1 i2 i3 hm
    rw [dc_Text_readNumber_13_s]
    refine sy_st (S' := (mj_m_23, 15, [(0, .ref 1), (1, sy_i l1), (2, sy_i l2), (3, sy_i l3), (4, sy_i l4), (5, sy_i l5)], [sy_i l5], h)) mj_d_23_13 (fun _ _ => rfl) ?_
    refine sy_sip mj_d_23_15 (by decide) ?_
    refine sy_icm mj_d_23_18 rfl ⟨by omega, by omega⟩ ⟨by omega, by omega⟩ (fun (c1 : 240 ≤ l5) => ?_) (fun (c1 : ¬ (240 ≤ l5)) => ?_)
    · skip
      rw [if_pos c1]
      refine sy_st (S' := (mj_m_23, 71, [(0, .ref 1), (1, sy_i l1), (2, sy_i l2), (3, sy_i l3), (4, sy_i l4), (5, sy_i l5)], [sy_i l4], h)) mj_d_23_69 (fun _ _ => rfl) ?_
      refine sy_ifc mj_d_23_71 rfl ⟨by omega, by omega⟩ (fun (c2 : ¬ (l4 = 0)) => ?_) (fun (c2 : ¬ ¬ (l4 = 0)) => ?_)
      · skip
        rw [if_neg c2]
        refine sy_st (S' := (mj_m_23, 85, [(0, .ref 1), (1, sy_i l1), (2, sy_i l2), (3, sy_i l3), (4, sy_i l4), (5, sy_i l5)], [sy_i l4], h)) mj_d_23_83 (fun _ _ => rfl) ?_
        refine sy_st (S' := (mj_m_23, 86, [(0, .ref 1), (1, sy_i l1), (2, sy_i l2), (3, sy_i l3), (4, sy_i l4), (5, sy_i l5)], [sy_i 3, sy_i l4], h)) mj_d_23_85 (fun _ _ => rfl) ?_
        refine sy_icm mj_d_23_86 rfl ⟨by omega, by omega⟩ ⟨by omega, by omega⟩ (fun (c3 : 3 < l4) => ?_) (fun (c3 : ¬ (3 < l4)) => ?_)
        · skip
          rw [if_pos c3]
          refine sy_st (S' := (mj_m_23, 95, [(0, .ref 1), (1, sy_i l1), (2, sy_i l2), (3, sy_i l3), (4, sy_i l4), (5, sy_i l5)], [.ref 1], h)) mj_d_23_94 (fun _ _ => rfl) ?_
          refine sy_st (S' := (mj_m_23, 96, [(0, .ref 1), (1, sy_i l1), (2, sy_i l2), (3, sy_i l3), (4, sy_i l4), (5, sy_i l5)], [sy_i 2, .ref 1], h)) mj_d_23_95 (fun _ _ => rfl) ?_
          refine sy_st (S' := (mj_m_23, 97, [(0, .ref 1), (1, sy_i l1), (2, sy_i l2), (3, sy_i l3), (4, sy_i l4), (5, sy_i l5)], [sy_i l2, sy_i 2, .ref 1], h)) mj_d_23_96 (fun _ _ => rfl) ?_
          refine sy_cv (M' := mj_m_19) (vs := [.ref 1, sy_i 2, sy_i l2]) (rest := []) mj_d_23_97 rfl rfl rfl rfl hH rfl rfl ⟨by decide, ⟨Nat.le_of_ble_eq_true rfl, Nat.le_of_ble_eq_true rfl, Nat.le_of_ble_eq_true rfl, Nat.le_of_ble_eq_true rfl, Nat.le_of_ble_eq_true rfl⟩⟩ (dt_Text_fail (a1 := 2) (a2 := l2) hH (by omega) (by omega) (by omega) (by omega)) ?_
          rintro _ h4 ⟨rfl, th4, eh4⟩
          show sy_wp (mj_m_23, 100, [(0, .ref 1), (1, sy_i l1), (2, sy_i l2), (3, sy_i l3), (4, sy_i l4), (5, sy_i l5)], [], h4) _
          refine sy_st (S' := (mj_m_23, 101, [(0, .ref 1), (1, sy_i l1), (2, sy_i l2), (3, sy_i l3), (4, sy_i l4), (5, sy_i l5)], [sy_i l3], h4)) mj_d_23_100 (fun _ _ => rfl) ?_
          exact sy_reti mj_d_23_101 rfl ⟨th4, eh4, rfl, by omega, by omega⟩
        · skip
          rw [if_neg c3]
          refine sy_st (S' := (mj_m_23, 90, [(0, .ref 1), (1, sy_i l1), (2, sy_i l2), (3, sy_i l3), (4, sy_i l4), (5, sy_i l5)], [sy_i l3], h)) mj_d_23_89 (fun _ _ => rfl) ?_
          refine sy_st (S' := (mj_m_23, 91, [(0, .ref 1), (1, sy_i l1), (2, sy_i l2), (3, sy_i l3), (4, sy_i l4), (5, sy_i l5)], [sy_i l1, sy_i l3], h)) mj_d_23_90 (fun _ _ => rfl) ?_
          refine sy_icm mj_d_23_91 rfl ⟨by omega, by omega⟩ ⟨by omega, by omega⟩ (fun (c6 : l3 ≤ l1) => ?_) (fun (c6 : ¬ (l3 ≤ l1)) => ?_)
          · skip
            rw [if_pos c6]
            refine sy_st (S' := (mj_m_23, 101, [(0, .ref 1), (1, sy_i l1), (2, sy_i l2), (3, sy_i l3), (4, sy_i l4), (5, sy_i l5)], [sy_i l3], h)) mj_d_23_100 (fun _ _ => rfl) ?_
            exact sy_reti mj_d_23_101 rfl ⟨hH, rfl, rfl, by omega, by omega⟩
          · skip
            rw [if_neg c6]
            refine sy_st (S' := (mj_m_23, 95, [(0, .ref 1), (1, sy_i l1), (2, sy_i l2), (3, sy_i l3), (4, sy_i l4), (5, sy_i l5)], [.ref 1], h)) mj_d_23_94 (fun _ _ => rfl) ?_
            refine sy_st (S' := (mj_m_23, 96, [(0, .ref 1), (1, sy_i l1), (2, sy_i l2), (3, sy_i l3), (4, sy_i l4), (5, sy_i l5)], [sy_i 2, .ref 1], h)) mj_d_23_95 (fun _ _ => rfl) ?_
            refine sy_st (S' := (mj_m_23, 97, [(0, .ref 1), (1, sy_i l1), (2, sy_i l2), (3, sy_i l3), (4, sy_i l4), (5, sy_i l5)], [sy_i l2, sy_i 2, .ref 1], h)) mj_d_23_96 (fun _ _ => rfl) ?_
            refine sy_cv (M' := mj_m_19) (vs := [.ref 1, sy_i 2, sy_i l2]) (rest := []) mj_d_23_97 rfl rfl rfl rfl hH rfl rfl ⟨by decide, ⟨Nat.le_of_ble_eq_true rfl, Nat.le_of_ble_eq_true rfl, Nat.le_of_ble_eq_true rfl, Nat.le_of_ble_eq_true rfl, Nat.le_of_ble_eq_true rfl⟩⟩ (dt_Text_fail (a1 := 2) (a2 := l2) hH (by omega) (by omega) (by omega) (by omega)) ?_
            rintro _ h7 ⟨rfl, th7, eh7⟩
            show sy_wp (mj_m_23, 100, [(0, .ref 1), (1, sy_i l1), (2, sy_i l2), (3, sy_i l3), (4, sy_i l4), (5, sy_i l5)], [], h7) _
            refine sy_st (S' := (mj_m_23, 101, [(0, .ref 1), (1, sy_i l1), (2, sy_i l2), (3, sy_i l3), (4, sy_i l4), (5, sy_i l5)], [sy_i l3], h7)) mj_d_23_100 (fun _ _ => rfl) ?_
            exact sy_reti mj_d_23_101 rfl ⟨th7, eh7, rfl, by omega, by omega⟩
      · skip
        rw [if_pos (Decidable.not_not.mp c2)]
        replace c2 := Decidable.not_not.mp c2
        refine sy_st (S' := (mj_m_23, 75, [(0, .ref 1), (1, sy_i l1), (2, sy_i l2), (3, sy_i l3), (4, sy_i l4), (5, sy_i l5)], [.ref 1], h)) mj_d_23_74 (fun _ _ => rfl) ?_
        refine sy_st (S' := (mj_m_23, 76, [(0, .ref 1), (1, sy_i l1), (2, sy_i l2), (3, sy_i l3), (4, sy_i l4), (5, sy_i l5)], [sy_i 1, .ref 1], h)) mj_d_23_75 (fun _ _ => rfl) ?_
        refine sy_st (S' := (mj_m_23, 77, [(0, .ref 1), (1, sy_i l1), (2, sy_i l2), (3, sy_i l3), (4, sy_i l4), (5, sy_i l5)], [sy_i l2, sy_i 1, .ref 1], h)) mj_d_23_76 (fun _ _ => rfl) ?_
        refine sy_cv (M' := mj_m_19) (vs := [.ref 1, sy_i 1, sy_i l2]) (rest := []) mj_d_23_77 rfl rfl rfl rfl hH rfl rfl ⟨by decide, ⟨Nat.le_of_ble_eq_true rfl, Nat.le_of_ble_eq_true rfl, Nat.le_of_ble_eq_true rfl, Nat.le_of_ble_eq_true rfl, Nat.le_of_ble_eq_true rfl⟩⟩ (dt_Text_fail (a1 := 1) (a2 := l2) hH (by omega) (by omega) (by omega) (by omega)) ?_
        rintro _ h9 ⟨rfl, th9, eh9⟩
        show sy_wp (mj_m_23, 80, [(0, .ref 1), (1, sy_i l1), (2, sy_i l2), (3, sy_i l3), (4, sy_i l4), (5, sy_i l5)], [], h9) _
        refine sy_st (S' := (mj_m_23, 100, [(0, .ref 1), (1, sy_i l1), (2, sy_i l2), (3, sy_i l3), (4, sy_i l4), (5, sy_i l5)], [], h9)) mj_d_23_80 (fun _ _ => rfl) ?_
        refine sy_st (S' := (mj_m_23, 101, [(0, .ref 1), (1, sy_i l1), (2, sy_i l2), (3, sy_i l3), (4, sy_i l4), (5, sy_i l5)], [sy_i l3], h9)) mj_d_23_100 (fun _ _ => rfl) ?_
        exact sy_reti mj_d_23_101 rfl ⟨th9, eh9, rfl, by omega, by omega⟩
    · skip
      rw [if_neg c1]
      refine sy_st (S' := (mj_m_23, 22, [(0, .ref 1), (1, sy_i l1), (2, sy_i l2), (3, sy_i l3), (4, sy_i l4), (5, sy_i l5)], [.ref 1], h)) mj_d_23_21 (fun _ _ => rfl) ?_
      refine sy_cv (M' := mj_m_16) (vs := [.ref 1]) (rest := []) mj_d_23_22 rfl rfl rfl rfl hH rfl rfl ⟨by decide, ⟨Nat.le_of_ble_eq_true rfl, Nat.le_of_ble_eq_true rfl, Nat.le_of_ble_eq_true rfl, Nat.le_of_ble_eq_true rfl, Nat.le_of_ble_eq_true rfl⟩⟩ (dt_Text_letter hH) ?_
      rintro _ _ ⟨rfl, rfl, b11, b11t⟩
      show sy_wp (mj_m_23, 25, [(0, .ref 1), (1, sy_i l1), (2, sy_i l2), (3, sy_i l3), (4, sy_i l4), (5, sy_i l5)], [sy_i (dc_Text_letter (sy_rd h))], h) _
      refine sy_cs (M' := mj_m_24) (vs := [sy_i (dc_Text_letter (sy_rd h))]) (rest := []) mj_d_23_25 rfl rfl rfl rfl ⟨Nat.le_of_ble_eq_true rfl, Nat.le_of_ble_eq_true rfl, Nat.le_of_ble_eq_true rfl, Nat.le_of_ble_eq_true rfl, Nat.le_of_ble_eq_true rfl⟩ (dt_Text_isFigure (a0 := (dc_Text_letter (sy_rd h))) hH (by omega) (by omega)) ?_
      rintro _ _ ⟨rfl, rfl, b12, b12t⟩
      have q13 := df_Text_isFigure_0 (sy_rd h) (dc_Text_letter (sy_rd h))
      show sy_wp (mj_m_23, 28, [(0, .ref 1), (1, sy_i l1), (2, sy_i l2), (3, sy_i l3), (4, sy_i l4), (5, sy_i l5)], [sy_i (dc_Text_isFigure (sy_rd h) (dc_Text_letter (sy_rd h)))], h) _
      refine sy_ifc mj_d_23_28 rfl ⟨by omega, by omega⟩ (fun (c14 : (dc_Text_isFigure (sy_rd h) (dc_Text_letter (sy_rd h))) = 0) => ?_) (fun (c14 : ¬ ((dc_Text_isFigure (sy_rd h) (dc_Text_letter (sy_rd h))) = 0)) => ?_)
      · skip
        rw [if_pos c14]
        refine sy_st (S' := (mj_m_23, 71, [(0, .ref 1), (1, sy_i l1), (2, sy_i l2), (3, sy_i l3), (4, sy_i l4), (5, sy_i l5)], [sy_i l4], h)) mj_d_23_69 (fun _ _ => rfl) ?_
        refine sy_ifc mj_d_23_71 rfl ⟨by omega, by omega⟩ (fun (c15 : ¬ (l4 = 0)) => ?_) (fun (c15 : ¬ ¬ (l4 = 0)) => ?_)
        · skip
          rw [if_neg c15]
          refine sy_st (S' := (mj_m_23, 85, [(0, .ref 1), (1, sy_i l1), (2, sy_i l2), (3, sy_i l3), (4, sy_i l4), (5, sy_i l5)], [sy_i l4], h)) mj_d_23_83 (fun _ _ => rfl) ?_
          refine sy_st (S' := (mj_m_23, 86, [(0, .ref 1), (1, sy_i l1), (2, sy_i l2), (3, sy_i l3), (4, sy_i l4), (5, sy_i l5)], [sy_i 3, sy_i l4], h)) mj_d_23_85 (fun _ _ => rfl) ?_
          refine sy_icm mj_d_23_86 rfl ⟨by omega, by omega⟩ ⟨by omega, by omega⟩ (fun (c16 : 3 < l4) => ?_) (fun (c16 : ¬ (3 < l4)) => ?_)
          · skip
            rw [if_pos c16]
            refine sy_st (S' := (mj_m_23, 95, [(0, .ref 1), (1, sy_i l1), (2, sy_i l2), (3, sy_i l3), (4, sy_i l4), (5, sy_i l5)], [.ref 1], h)) mj_d_23_94 (fun _ _ => rfl) ?_
            refine sy_st (S' := (mj_m_23, 96, [(0, .ref 1), (1, sy_i l1), (2, sy_i l2), (3, sy_i l3), (4, sy_i l4), (5, sy_i l5)], [sy_i 2, .ref 1], h)) mj_d_23_95 (fun _ _ => rfl) ?_
            refine sy_st (S' := (mj_m_23, 97, [(0, .ref 1), (1, sy_i l1), (2, sy_i l2), (3, sy_i l3), (4, sy_i l4), (5, sy_i l5)], [sy_i l2, sy_i 2, .ref 1], h)) mj_d_23_96 (fun _ _ => rfl) ?_
            refine sy_cv (M' := mj_m_19) (vs := [.ref 1, sy_i 2, sy_i l2]) (rest := []) mj_d_23_97 rfl rfl rfl rfl hH rfl rfl ⟨by decide, ⟨Nat.le_of_ble_eq_true rfl, Nat.le_of_ble_eq_true rfl, Nat.le_of_ble_eq_true rfl, Nat.le_of_ble_eq_true rfl, Nat.le_of_ble_eq_true rfl⟩⟩ (dt_Text_fail (a1 := 2) (a2 := l2) hH (by omega) (by omega) (by omega) (by omega)) ?_
            rintro _ h17 ⟨rfl, th17, eh17⟩
            show sy_wp (mj_m_23, 100, [(0, .ref 1), (1, sy_i l1), (2, sy_i l2), (3, sy_i l3), (4, sy_i l4), (5, sy_i l5)], [], h17) _
            refine sy_st (S' := (mj_m_23, 101, [(0, .ref 1), (1, sy_i l1), (2, sy_i l2), (3, sy_i l3), (4, sy_i l4), (5, sy_i l5)], [sy_i l3], h17)) mj_d_23_100 (fun _ _ => rfl) ?_
            exact sy_reti mj_d_23_101 rfl ⟨th17, eh17, rfl, by omega, by omega⟩
          · skip
            rw [if_neg c16]
            refine sy_st (S' := (mj_m_23, 90, [(0, .ref 1), (1, sy_i l1), (2, sy_i l2), (3, sy_i l3), (4, sy_i l4), (5, sy_i l5)], [sy_i l3], h)) mj_d_23_89 (fun _ _ => rfl) ?_
            refine sy_st (S' := (mj_m_23, 91, [(0, .ref 1), (1, sy_i l1), (2, sy_i l2), (3, sy_i l3), (4, sy_i l4), (5, sy_i l5)], [sy_i l1, sy_i l3], h)) mj_d_23_90 (fun _ _ => rfl) ?_
            refine sy_icm mj_d_23_91 rfl ⟨by omega, by omega⟩ ⟨by omega, by omega⟩ (fun (c19 : l3 ≤ l1) => ?_) (fun (c19 : ¬ (l3 ≤ l1)) => ?_)
            · skip
              rw [if_pos c19]
              refine sy_st (S' := (mj_m_23, 101, [(0, .ref 1), (1, sy_i l1), (2, sy_i l2), (3, sy_i l3), (4, sy_i l4), (5, sy_i l5)], [sy_i l3], h)) mj_d_23_100 (fun _ _ => rfl) ?_
              exact sy_reti mj_d_23_101 rfl ⟨hH, rfl, rfl, by omega, by omega⟩
            · skip
              rw [if_neg c19]
              refine sy_st (S' := (mj_m_23, 95, [(0, .ref 1), (1, sy_i l1), (2, sy_i l2), (3, sy_i l3), (4, sy_i l4), (5, sy_i l5)], [.ref 1], h)) mj_d_23_94 (fun _ _ => rfl) ?_
              refine sy_st (S' := (mj_m_23, 96, [(0, .ref 1), (1, sy_i l1), (2, sy_i l2), (3, sy_i l3), (4, sy_i l4), (5, sy_i l5)], [sy_i 2, .ref 1], h)) mj_d_23_95 (fun _ _ => rfl) ?_
              refine sy_st (S' := (mj_m_23, 97, [(0, .ref 1), (1, sy_i l1), (2, sy_i l2), (3, sy_i l3), (4, sy_i l4), (5, sy_i l5)], [sy_i l2, sy_i 2, .ref 1], h)) mj_d_23_96 (fun _ _ => rfl) ?_
              refine sy_cv (M' := mj_m_19) (vs := [.ref 1, sy_i 2, sy_i l2]) (rest := []) mj_d_23_97 rfl rfl rfl rfl hH rfl rfl ⟨by decide, ⟨Nat.le_of_ble_eq_true rfl, Nat.le_of_ble_eq_true rfl, Nat.le_of_ble_eq_true rfl, Nat.le_of_ble_eq_true rfl, Nat.le_of_ble_eq_true rfl⟩⟩ (dt_Text_fail (a1 := 2) (a2 := l2) hH (by omega) (by omega) (by omega) (by omega)) ?_
              rintro _ h20 ⟨rfl, th20, eh20⟩
              show sy_wp (mj_m_23, 100, [(0, .ref 1), (1, sy_i l1), (2, sy_i l2), (3, sy_i l3), (4, sy_i l4), (5, sy_i l5)], [], h20) _
              refine sy_st (S' := (mj_m_23, 101, [(0, .ref 1), (1, sy_i l1), (2, sy_i l2), (3, sy_i l3), (4, sy_i l4), (5, sy_i l5)], [sy_i l3], h20)) mj_d_23_100 (fun _ _ => rfl) ?_
              exact sy_reti mj_d_23_101 rfl ⟨th20, eh20, rfl, by omega, by omega⟩
        · skip
          rw [if_pos (Decidable.not_not.mp c15)]
          replace c15 := Decidable.not_not.mp c15
          refine sy_st (S' := (mj_m_23, 75, [(0, .ref 1), (1, sy_i l1), (2, sy_i l2), (3, sy_i l3), (4, sy_i l4), (5, sy_i l5)], [.ref 1], h)) mj_d_23_74 (fun _ _ => rfl) ?_
          refine sy_st (S' := (mj_m_23, 76, [(0, .ref 1), (1, sy_i l1), (2, sy_i l2), (3, sy_i l3), (4, sy_i l4), (5, sy_i l5)], [sy_i 1, .ref 1], h)) mj_d_23_75 (fun _ _ => rfl) ?_
          refine sy_st (S' := (mj_m_23, 77, [(0, .ref 1), (1, sy_i l1), (2, sy_i l2), (3, sy_i l3), (4, sy_i l4), (5, sy_i l5)], [sy_i l2, sy_i 1, .ref 1], h)) mj_d_23_76 (fun _ _ => rfl) ?_
          refine sy_cv (M' := mj_m_19) (vs := [.ref 1, sy_i 1, sy_i l2]) (rest := []) mj_d_23_77 rfl rfl rfl rfl hH rfl rfl ⟨by decide, ⟨Nat.le_of_ble_eq_true rfl, Nat.le_of_ble_eq_true rfl, Nat.le_of_ble_eq_true rfl, Nat.le_of_ble_eq_true rfl, Nat.le_of_ble_eq_true rfl⟩⟩ (dt_Text_fail (a1 := 1) (a2 := l2) hH (by omega) (by omega) (by omega) (by omega)) ?_
          rintro _ h22 ⟨rfl, th22, eh22⟩
          show sy_wp (mj_m_23, 80, [(0, .ref 1), (1, sy_i l1), (2, sy_i l2), (3, sy_i l3), (4, sy_i l4), (5, sy_i l5)], [], h22) _
          refine sy_st (S' := (mj_m_23, 100, [(0, .ref 1), (1, sy_i l1), (2, sy_i l2), (3, sy_i l3), (4, sy_i l4), (5, sy_i l5)], [], h22)) mj_d_23_80 (fun _ _ => rfl) ?_
          refine sy_st (S' := (mj_m_23, 101, [(0, .ref 1), (1, sy_i l1), (2, sy_i l2), (3, sy_i l3), (4, sy_i l4), (5, sy_i l5)], [sy_i l3], h22)) mj_d_23_100 (fun _ _ => rfl) ?_
          exact sy_reti mj_d_23_101 rfl ⟨th22, eh22, rfl, by omega, by omega⟩
      · skip
        rw [if_neg c14]
        refine sy_inc (a := l4) (lv' := [(4, sy_i (l4 + 1)), (0, .ref 1), (1, sy_i l1), (2, sy_i l2), (3, sy_i l3), (5, sy_i l5)]) mj_d_23_31 (Nat.le_of_ble_eq_true rfl) rfl rfl ?_
        refine sy_st (S' := (mj_m_23, 36, [(4, sy_i (l4 + 1)), (0, .ref 1), (1, sy_i l1), (2, sy_i l2), (3, sy_i l3), (5, sy_i l5)], [sy_i (l4 + 1)], h)) mj_d_23_34 (fun _ _ => rfl) ?_
        refine sy_st (S' := (mj_m_23, 37, [(4, sy_i (l4 + 1)), (0, .ref 1), (1, sy_i l1), (2, sy_i l2), (3, sy_i l3), (5, sy_i l5)], [sy_i 3, sy_i (l4 + 1)], h)) mj_d_23_36 (fun _ _ => rfl) ?_
        refine sy_icm mj_d_23_37 rfl ⟨by omega, by omega⟩ ⟨by omega, by omega⟩ (fun (c24 : 3 < (l4 + 1)) => ?_) (fun (c24 : ¬ (3 < (l4 + 1))) => ?_)
        · skip
          rw [if_pos c24]
          refine sy_st (S' := (mj_m_23, 54, [(4, sy_i (l4 + 1)), (0, .ref 1), (1, sy_i l1), (2, sy_i l2), (3, sy_i l3), (5, sy_i l5)], [.ref 1], h)) mj_d_23_53 (fun _ _ => rfl) ?_
          refine sy_st (S' := (mj_m_23, 55, [(4, sy_i (l4 + 1)), (0, .ref 1), (1, sy_i l1), (2, sy_i l2), (3, sy_i l3), (5, sy_i l5)], [.ref 1, .ref 1], h)) mj_d_23_54 (fun _ _ => rfl) ?_
          refine sy_gf mj_d_23_55 rfl rfl (by decide) rfl hH ?_
          rintro _ rfl bx25 tx25
          refine sy_st (S' := (mj_m_23, 59, [(4, sy_i (l4 + 1)), (0, .ref 1), (1, sy_i l1), (2, sy_i l2), (3, sy_i l3), (5, sy_i l5)], [sy_i 1, sy_i (sy_rd h 1 3), .ref 1], h)) mj_d_23_58 (fun _ _ => rfl) ?_
          refine sy_add mj_d_23_59 ?_
          refine sg_pfw (z := ((sy_rd h 1 3) + 1)) mj_d_23_60 rfl rfl (by decide) rfl rfl hH ?_
          intro h26 th26 eh26
          refine sy_inc (a := l5) (lv' := [(5, sy_i (l5 + 1)), (4, sy_i (l4 + 1)), (0, .ref 1), (1, sy_i l1), (2, sy_i l2), (3, sy_i l3)]) mj_d_23_63 (Nat.le_of_ble_eq_true rfl) rfl rfl ?_
          refine sy_st (S' := (mj_m_23, 13, [(5, sy_i (l5 + 1)), (4, sy_i (l4 + 1)), (0, .ref 1), (1, sy_i l1), (2, sy_i l2), (3, sy_i l3)], [], h26)) mj_d_23_66 (fun _ _ => rfl) ?_
          refine sy_lv (lv := [(0, .ref 1), (1, sy_i l1), (2, sy_i l2), (3, sy_i l3), (4, sy_i (l4 + 1)), (5, sy_i (l5 + 1))]) rfl ⟨rfl, rfl, rfl, rfl, rfl, rfl, trivial⟩ ?_
          rw [← eh26]
          exact ih th26 (by first | omega | assumption) (by first | omega | assumption) (by first | omega | assumption) (by first | omega | assumption) (by first | omega | assumption) (by first | omega | assumption) (by first | omega | assumption) (by first | omega | assumption) (by first | omega | assumption) (by first | omega | assumption) (by first | omega | assumption) (by first | omega | assumption) (by first | omega | assumption) (by first | omega | assumption) (by omega)
        · skip
          rw [if_neg c24]
          refine sy_st (S' := (mj_m_23, 41, [(4, sy_i (l4 + 1)), (0, .ref 1), (1, sy_i l1), (2, sy_i l2), (3, sy_i l3), (5, sy_i l5)], [sy_i l3], h)) mj_d_23_40 (fun _ _ => rfl) ?_
          refine sy_bip mj_d_23_41 (by decide) ?_
          refine sy_mul mj_d_23_43 ?_
          refine sy_st (S' := (mj_m_23, 45, [(4, sy_i (l4 + 1)), (0, .ref 1), (1, sy_i l1), (2, sy_i l2), (3, sy_i l3), (5, sy_i l5)], [.ref 1, sy_i (l3 * 10)], h)) mj_d_23_44 (fun _ _ => rfl) ?_
          refine sy_cv (M' := mj_m_16) (vs := [.ref 1]) (rest := [sy_i (l3 * 10)]) mj_d_23_45 rfl rfl rfl rfl hH rfl rfl ⟨by decide, ⟨Nat.le_of_ble_eq_true rfl, Nat.le_of_ble_eq_true rfl, Nat.le_of_ble_eq_true rfl, Nat.le_of_ble_eq_true rfl, Nat.le_of_ble_eq_true rfl⟩⟩ (dt_Text_letter hH) ?_
          rintro _ _ ⟨rfl, rfl, b27, b27t⟩
          show sy_wp (mj_m_23, 48, [(4, sy_i (l4 + 1)), (0, .ref 1), (1, sy_i l1), (2, sy_i l2), (3, sy_i l3), (5, sy_i l5)], [sy_i (dc_Text_letter (sy_rd h)), sy_i (l3 * 10)], h) _
          refine sy_bip mj_d_23_48 (by decide) ?_
          refine sy_sub mj_d_23_50 ?_
          refine sy_add mj_d_23_51 ?_
          refine sy_st (S' := (mj_m_23, 53, [(3, sy_i ((l3 * 10) + ((dc_Text_letter (sy_rd h)) - 48))), (4, sy_i (l4 + 1)), (0, .ref 1), (1, sy_i l1), (2, sy_i l2), (5, sy_i l5)], [], h)) mj_d_23_52 (fun _ _ => rfl) ?_
          refine sy_st (S' := (mj_m_23, 54, [(3, sy_i ((l3 * 10) + ((dc_Text_letter (sy_rd h)) - 48))), (4, sy_i (l4 + 1)), (0, .ref 1), (1, sy_i l1), (2, sy_i l2), (5, sy_i l5)], [.ref 1], h)) mj_d_23_53 (fun _ _ => rfl) ?_
          refine sy_st (S' := (mj_m_23, 55, [(3, sy_i ((l3 * 10) + ((dc_Text_letter (sy_rd h)) - 48))), (4, sy_i (l4 + 1)), (0, .ref 1), (1, sy_i l1), (2, sy_i l2), (5, sy_i l5)], [.ref 1, .ref 1], h)) mj_d_23_54 (fun _ _ => rfl) ?_
          refine sy_gf mj_d_23_55 rfl rfl (by decide) rfl hH ?_
          rintro _ rfl bx28 tx28
          refine sy_st (S' := (mj_m_23, 59, [(3, sy_i ((l3 * 10) + ((dc_Text_letter (sy_rd h)) - 48))), (4, sy_i (l4 + 1)), (0, .ref 1), (1, sy_i l1), (2, sy_i l2), (5, sy_i l5)], [sy_i 1, sy_i (sy_rd h 1 3), .ref 1], h)) mj_d_23_58 (fun _ _ => rfl) ?_
          refine sy_add mj_d_23_59 ?_
          refine sg_pfw (z := ((sy_rd h 1 3) + 1)) mj_d_23_60 rfl rfl (by decide) rfl rfl hH ?_
          intro h29 th29 eh29
          refine sy_inc (a := l5) (lv' := [(5, sy_i (l5 + 1)), (3, sy_i ((l3 * 10) + ((dc_Text_letter (sy_rd h)) - 48))), (4, sy_i (l4 + 1)), (0, .ref 1), (1, sy_i l1), (2, sy_i l2)]) mj_d_23_63 (Nat.le_of_ble_eq_true rfl) rfl rfl ?_
          refine sy_st (S' := (mj_m_23, 13, [(5, sy_i (l5 + 1)), (3, sy_i ((l3 * 10) + ((dc_Text_letter (sy_rd h)) - 48))), (4, sy_i (l4 + 1)), (0, .ref 1), (1, sy_i l1), (2, sy_i l2)], [], h29)) mj_d_23_66 (fun _ _ => rfl) ?_
          refine sy_lv (lv := [(0, .ref 1), (1, sy_i l1), (2, sy_i l2), (3, sy_i ((l3 * 10) + ((dc_Text_letter (sy_rd h)) - 48))), (4, sy_i (l4 + 1)), (5, sy_i (l5 + 1))]) rfl ⟨rfl, rfl, rfl, rfl, rfl, rfl, trivial⟩ ?_
          rw [← eh29]
          exact ih th29 (by first | omega | assumption) (by first | omega | assumption) (by first | omega | assumption) (by first | omega | assumption) (by first | omega | assumption) (by first | omega | assumption) (by first | omega | assumption) (by first | omega | assumption) (by first | omega | assumption) (by first | omega | assumption) (by first | omega | assumption) (by first | omega | assumption) (by first | omega | assumption) (by first | omega | assumption) (by omega)
set_option maxRecDepth 100000 in
theorem dt_Text_readNumber {h : mj_H} (hH : sy_H h) {a1 : Int} (b_a1 : (-2147483648) ≤ a1) (t_a1 : a1 ≤ 2147483647) : sy_wp (mj_m_23, 0, [(0, .ref 1), (1, sy_i a1)], [], h) (dq2 (0) (999) (dc_Text_readNumber (sy_rd h) a1)) := by
  unfold dc_Text_readNumber
  refine sy_st (S' := (mj_m_23, 1, [(0, .ref 1), (1, sy_i a1)], [.ref 1], h)) mj_d_23_0 (fun _ _ => rfl) ?_
  refine sy_gf mj_d_23_1 rfl rfl (by decide) rfl hH ?_
  rintro _ rfl bx1 tx1
  refine sy_st (S' := (mj_m_23, 5, [(2, sy_i (sy_rd h 1 3)), (0, .ref 1), (1, sy_i a1)], [], h)) mj_d_23_4 (fun _ _ => rfl) ?_
  refine sy_st (S' := (mj_m_23, 6, [(2, sy_i (sy_rd h 1 3)), (0, .ref 1), (1, sy_i a1)], [sy_i 0], h)) mj_d_23_5 (fun _ _ => rfl) ?_
  refine sy_st (S' := (mj_m_23, 7, [(3, sy_i 0), (2, sy_i (sy_rd h 1 3)), (0, .ref 1), (1, sy_i a1)], [], h)) mj_d_23_6 (fun _ _ => rfl) ?_
  refine sy_st (S' := (mj_m_23, 8, [(3, sy_i 0), (2, sy_i (sy_rd h 1 3)), (0, .ref 1), (1, sy_i a1)], [sy_i 0], h)) mj_d_23_7 (fun _ _ => rfl) ?_
  refine sy_st (S' := (mj_m_23, 10, [(4, sy_i 0), (3, sy_i 0), (2, sy_i (sy_rd h 1 3)), (0, .ref 1), (1, sy_i a1)], [], h)) mj_d_23_8 (fun _ _ => rfl) ?_
  refine sy_st (S' := (mj_m_23, 11, [(4, sy_i 0), (3, sy_i 0), (2, sy_i (sy_rd h 1 3)), (0, .ref 1), (1, sy_i a1)], [sy_i 0], h)) mj_d_23_10 (fun _ _ => rfl) ?_
  refine sy_st (S' := (mj_m_23, 13, [(5, sy_i 0), (4, sy_i 0), (3, sy_i 0), (2, sy_i (sy_rd h 1 3)), (0, .ref 1), (1, sy_i a1)], [], h)) mj_d_23_11 (fun _ _ => rfl) ?_
  refine sy_lv (lv := [(0, .ref 1), (1, sy_i a1), (2, sy_i (sy_rd h 1 3)), (3, sy_i 0), (4, sy_i 0), (5, sy_i 0)]) rfl ⟨rfl, rfl, rfl, rfl, rfl, rfl, trivial⟩ ?_
  exact dt_Text_readNumber_13 241 hH (by first | omega | assumption) (by first | omega | assumption) (by first | omega | assumption) (by first | omega | assumption) (by first | omega | assumption) (by first | omega | assumption) (by first | omega | assumption) (by first | omega | assumption) (by first | omega | assumption) (by first | omega | assumption) (by first | omega | assumption) (by first | omega | assumption) (by first | omega | assumption) (by first | omega | assumption) (by omega)
def dc_Text_readEnd (s : sg_S) : sg_S := (if (dc_Text_letter (dc_Text_skipBlanks s)) = 59 then (sg_up (dc_Text_skipBlanks s) 1 3 (sy_w (((dc_Text_skipBlanks s) 1 3) + 1))) else (dc_Text_fail (dc_Text_skipBlanks s) 1 ((dc_Text_skipBlanks s) 1 3)))
set_option maxRecDepth 100000 in
theorem dt_Text_readEnd {h : mj_H} (hH : sy_H h) : sy_wp (mj_m_25, 0, [(0, .ref 1)], [], h) (dq3 (dc_Text_readEnd (sy_rd h))) := by
  unfold dc_Text_readEnd
  refine sy_st (S' := (mj_m_25, 1, [(0, .ref 1)], [.ref 1], h)) mj_d_25_0 (fun _ _ => rfl) ?_
  refine sy_cv (M' := mj_m_15) (vs := [.ref 1]) (rest := []) mj_d_25_1 rfl rfl rfl rfl hH rfl rfl ⟨by decide, ⟨Nat.le_of_ble_eq_true rfl, Nat.le_of_ble_eq_true rfl, Nat.le_of_ble_eq_true rfl, Nat.le_of_ble_eq_true rfl, Nat.le_of_ble_eq_true rfl⟩⟩ (dt_Text_skipBlanks hH) ?_
  rintro _ h1 ⟨rfl, th1, eh1⟩
  show sy_wp (mj_m_25, 4, [(0, .ref 1)], [], h1) _
  refine sy_st (S' := (mj_m_25, 5, [(0, .ref 1)], [.ref 1], h1)) mj_d_25_4 (fun _ _ => rfl) ?_
  refine sy_cv (M' := mj_m_16) (vs := [.ref 1]) (rest := []) mj_d_25_5 rfl rfl rfl rfl th1 rfl rfl ⟨by decide, ⟨Nat.le_of_ble_eq_true rfl, Nat.le_of_ble_eq_true rfl, Nat.le_of_ble_eq_true rfl, Nat.le_of_ble_eq_true rfl, Nat.le_of_ble_eq_true rfl⟩⟩ (dt_Text_letter th1) ?_
  rintro _ _ ⟨rfl, rfl, b3, b3t⟩
  rw [eh1] at b3 b3t ⊢
  show sy_wp (mj_m_25, 8, [(0, .ref 1)], [sy_i (dc_Text_letter (dc_Text_skipBlanks (sy_rd h)))], h1) _
  refine sy_bip mj_d_25_8 (by decide) ?_
  refine sy_icm mj_d_25_10 rfl ⟨by omega, by omega⟩ ⟨by omega, by omega⟩ (fun (c4 : ¬ ((dc_Text_letter (dc_Text_skipBlanks (sy_rd h))) = 59)) => ?_) (fun (c4 : ¬ ¬ ((dc_Text_letter (dc_Text_skipBlanks (sy_rd h))) = 59)) => ?_)
  · skip
    rw [if_neg c4]
    refine sy_st (S' := (mj_m_25, 27, [(0, .ref 1)], [.ref 1], h1)) mj_d_25_26 (fun _ _ => rfl) ?_
    refine sy_st (S' := (mj_m_25, 28, [(0, .ref 1)], [sy_i 1, .ref 1], h1)) mj_d_25_27 (fun _ _ => rfl) ?_
    refine sy_st (S' := (mj_m_25, 29, [(0, .ref 1)], [.ref 1, sy_i 1, .ref 1], h1)) mj_d_25_28 (fun _ _ => rfl) ?_
    refine sy_gf mj_d_25_29 rfl rfl (by decide) rfl th1 ?_
    intro x5 ex5 bx5 tx5
    rw [eh1] at ex5
    subst ex5
    refine sy_cv (M' := mj_m_19) (vs := [.ref 1, sy_i 1, sy_i ((dc_Text_skipBlanks (sy_rd h)) 1 3)]) (rest := []) mj_d_25_32 rfl rfl rfl rfl th1 rfl rfl ⟨by decide, ⟨Nat.le_of_ble_eq_true rfl, Nat.le_of_ble_eq_true rfl, Nat.le_of_ble_eq_true rfl, Nat.le_of_ble_eq_true rfl, Nat.le_of_ble_eq_true rfl⟩⟩ (dt_Text_fail (a1 := 1) (a2 := ((dc_Text_skipBlanks (sy_rd h)) 1 3)) th1 (by omega) (by omega) (by omega) (by omega)) ?_
    rintro _ h6 ⟨rfl, th6, eh6⟩
    rw [eh1] at eh6
    show sy_wp (mj_m_25, 35, [(0, .ref 1)], [], h6) _
    exact sy_retv mj_d_25_35 rfl ⟨rfl, th6, eh6⟩
  · skip
    rw [if_pos (Decidable.not_not.mp c4)]
    replace c4 := Decidable.not_not.mp c4
    refine sy_st (S' := (mj_m_25, 14, [(0, .ref 1)], [.ref 1], h1)) mj_d_25_13 (fun _ _ => rfl) ?_
    refine sy_st (S' := (mj_m_25, 15, [(0, .ref 1)], [.ref 1, .ref 1], h1)) mj_d_25_14 (fun _ _ => rfl) ?_
    refine sy_gf mj_d_25_15 rfl rfl (by decide) rfl th1 ?_
    intro x8 ex8 bx8 tx8
    rw [eh1] at ex8
    subst ex8
    refine sy_st (S' := (mj_m_25, 19, [(0, .ref 1)], [sy_i 1, sy_i ((dc_Text_skipBlanks (sy_rd h)) 1 3), .ref 1], h1)) mj_d_25_18 (fun _ _ => rfl) ?_
    refine sy_add mj_d_25_19 ?_
    refine sg_pfw (z := (((dc_Text_skipBlanks (sy_rd h)) 1 3) + 1)) mj_d_25_20 rfl rfl (by decide) rfl rfl th1 ?_
    intro h9 th9 eh9
    rw [eh1] at eh9
    refine sy_st (S' := (mj_m_25, 35, [(0, .ref 1)], [], h9)) mj_d_25_23 (fun _ _ => rfl) ?_
    exact sy_retv mj_d_25_35 rfl ⟨rfl, th9, eh9⟩
