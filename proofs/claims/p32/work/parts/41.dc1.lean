def mj_m_14 : mj_M := (⟨"SootMaps$Plan", "clear", "()V"⟩, prog_6_method_2_code, 1, none, 4, 0, 1, 0, 0)
def mj_m_26 : mj_M := (⟨"SootMaps$Plan", "tellCity", "(II)V"⟩, prog_6_method_4_code, 3, none, 4, 2, 1, 0, 0)
def mj_m_27 : mj_M := (⟨"SootMaps$Plan", "tellHouse", "(II)V"⟩, prog_6_method_5_code, 3, none, 4, 2, 1, 0, 0)
def mj_m_28 : mj_M := (⟨"SootMaps$Plan", "tellSweep", "(II)V"⟩, prog_6_method_6_code, 3, none, 4, 2, 1, 0, 0)
def mj_m_29 : mj_M := (⟨"SootMaps$Plan", "copyFrom", "(LSootMaps$Plan;)V"⟩, prog_6_method_3_code, 2, none, 4, 1, 1, 1, 26)
def mj_m_36 : mj_M := (⟨"SootMaps$Soot", "layers", "(I)I"⟩, prog_9_method_5_code, 3, (some .int), 11, 1, 0, 1, 21)
def mj_m_37 : mj_M := (⟨"SootMaps$Soot", "fromNewest", "(II)I"⟩, prog_9_method_8_code, 2, (some .int), 11, 2, 0, 0, 0)
def mj_m_40 : mj_M := (⟨"SootMaps$Soot", "newest", "(I)I"⟩, prog_9_method_6_code, 1, (some .int), 11, 1, 0, 1, 21)
def mj_m_42 : mj_M := (⟨"SootMaps$Soot", "fromOldest", "(II)I"⟩, prog_9_method_7_code, 3, (some .int), 11, 2, 0, 2, 43)
def mj_m_52 : mj_M := (⟨"SootMaps$Soot", "laid", "(II)I"⟩, prog_9_method_2_code, 2, (some .int), 11, 2, 0, 0, 0)
def mj_m_53 : mj_M := (⟨"SootMaps$Plan", "neighbour", "(I)I"⟩, prog_6_method_7_code, 3, (some .int), 4, 1, 1, 0, 0)
def mj_m_57 : mj_M := (⟨"SootMaps$Soot", "washed", "(II)I"⟩, prog_9_method_4_code, 2, (some .int), 11, 2, 0, 0, 0)
def mj_m_78 : mj_M := (⟨"SootMaps$Soot", "heaped", "(III)I"⟩, prog_9_method_3_code, 3, (some .int), 11, 3, 0, 0, 0)
def mj_m_103 : mj_M := (⟨"SootMaps$Soot", "holds", "(II)Z"⟩, prog_9_method_9_code, 3, (some .boolean), 11, 2, 0, 1, 21)
theorem mj_d_14_0 : decode mj_m_14.2.1 0 = .ok (.aload_n 0, 1) := by decide +kernel
theorem mj_d_14_1 : decode mj_m_14.2.1 1 = .ok (.iconst 0, 1) := by decide +kernel
theorem mj_d_14_2 : decode mj_m_14.2.1 2 = .ok (.putfield 24, 3) := by decide +kernel
theorem mj_d_14_5 : decode mj_m_14.2.1 5 = .ok (.aload_n 0, 1) := by decide +kernel
theorem mj_d_14_6 : decode mj_m_14.2.1 6 = .ok (.iconst 0, 1) := by decide +kernel
theorem mj_d_14_7 : decode mj_m_14.2.1 7 = .ok (.putfield 28, 3) := by decide +kernel
theorem mj_d_14_10 : decode mj_m_14.2.1 10 = .ok (.aload_n 0, 1) := by decide +kernel
theorem mj_d_14_11 : decode mj_m_14.2.1 11 = .ok (.iconst 0, 1) := by decide +kernel
theorem mj_d_14_12 : decode mj_m_14.2.1 12 = .ok (.putfield 32, 3) := by decide +kernel
theorem mj_d_14_15 : decode mj_m_14.2.1 15 = .ok (.aload_n 0, 1) := by decide +kernel
theorem mj_d_14_16 : decode mj_m_14.2.1 16 = .ok (.iconst 0, 1) := by decide +kernel
theorem mj_d_14_17 : decode mj_m_14.2.1 17 = .ok (.putfield 35, 3) := by decide +kernel
theorem mj_d_14_20 : decode mj_m_14.2.1 20 = .ok (.aload_n 0, 1) := by decide +kernel
theorem mj_d_14_21 : decode mj_m_14.2.1 21 = .ok (.iconst 0, 1) := by decide +kernel
theorem mj_d_14_22 : decode mj_m_14.2.1 22 = .ok (.putfield 38, 3) := by decide +kernel
theorem mj_d_14_25 : decode mj_m_14.2.1 25 = .ok (.return_, 1) := by decide +kernel
theorem mj_d_26_0 : decode mj_m_26.2.1 0 = .ok (.aload_n 0, 1) := by decide +kernel
theorem mj_d_26_1 : decode mj_m_26.2.1 1 = .ok (.iconst 1, 1) := by decide +kernel
theorem mj_d_26_2 : decode mj_m_26.2.1 2 = .ok (.putfield 24, 3) := by decide +kernel
theorem mj_d_26_5 : decode mj_m_26.2.1 5 = .ok (.aload_n 0, 1) := by decide +kernel
theorem mj_d_26_6 : decode mj_m_26.2.1 6 = .ok (.iload_n 1, 1) := by decide +kernel
theorem mj_d_26_7 : decode mj_m_26.2.1 7 = .ok (.putfield 28, 3) := by decide +kernel
theorem mj_d_26_10 : decode mj_m_26.2.1 10 = .ok (.aload_n 0, 1) := by decide +kernel
theorem mj_d_26_11 : decode mj_m_26.2.1 11 = .ok (.iload_n 2, 1) := by decide +kernel
theorem mj_d_26_12 : decode mj_m_26.2.1 12 = .ok (.putfield 32, 3) := by decide +kernel
theorem mj_d_26_15 : decode mj_m_26.2.1 15 = .ok (.return_, 1) := by decide +kernel
theorem mj_d_27_0 : decode mj_m_27.2.1 0 = .ok (.aload_n 0, 1) := by decide +kernel
theorem mj_d_27_1 : decode mj_m_27.2.1 1 = .ok (.getfield 35, 3) := by decide +kernel
theorem mj_d_27_4 : decode mj_m_27.2.1 4 = .ok (.bipush 9, 2) := by decide +kernel
theorem mj_d_27_6 : decode mj_m_27.2.1 6 = .ok (.if_icmp .ge 43, 3) := by decide +kernel
theorem mj_d_27_9 : decode mj_m_27.2.1 9 = .ok (.aload_n 0, 1) := by decide +kernel
theorem mj_d_27_10 : decode mj_m_27.2.1 10 = .ok (.getfield 9, 3) := by decide +kernel
theorem mj_d_27_13 : decode mj_m_27.2.1 13 = .ok (.aload_n 0, 1) := by decide +kernel
theorem mj_d_27_14 : decode mj_m_27.2.1 14 = .ok (.getfield 35, 3) := by decide +kernel
theorem mj_d_27_17 : decode mj_m_27.2.1 17 = .ok (.iload_n 1, 1) := by decide +kernel
theorem mj_d_27_18 : decode mj_m_27.2.1 18 = .ok (.bipush 9, 2) := by decide +kernel
theorem mj_d_27_20 : decode mj_m_27.2.1 20 = .ok (.if_icmp .ne 7, 3) := by decide +kernel
theorem mj_d_27_23 : decode mj_m_27.2.1 23 = .ok (.iconst (-1), 1) := by decide +kernel
theorem mj_d_27_24 : decode mj_m_27.2.1 24 = .ok (.goto 4, 3) := by decide +kernel
theorem mj_d_27_27 : decode mj_m_27.2.1 27 = .ok (.iload_n 1, 1) := by decide +kernel
theorem mj_d_27_28 : decode mj_m_27.2.1 28 = .ok (.iastore, 1) := by decide +kernel
theorem mj_d_27_29 : decode mj_m_27.2.1 29 = .ok (.aload_n 0, 1) := by decide +kernel
theorem mj_d_27_30 : decode mj_m_27.2.1 30 = .ok (.getfield 15, 3) := by decide +kernel
theorem mj_d_27_33 : decode mj_m_27.2.1 33 = .ok (.aload_n 0, 1) := by decide +kernel
theorem mj_d_27_34 : decode mj_m_27.2.1 34 = .ok (.getfield 35, 3) := by decide +kernel
theorem mj_d_27_37 : decode mj_m_27.2.1 37 = .ok (.iload_n 2, 1) := by decide +kernel
theorem mj_d_27_38 : decode mj_m_27.2.1 38 = .ok (.iastore, 1) := by decide +kernel
theorem mj_d_27_39 : decode mj_m_27.2.1 39 = .ok (.aload_n 0, 1) := by decide +kernel
theorem mj_d_27_40 : decode mj_m_27.2.1 40 = .ok (.dup, 1) := by decide +kernel
theorem mj_d_27_41 : decode mj_m_27.2.1 41 = .ok (.getfield 35, 3) := by decide +kernel
theorem mj_d_27_44 : decode mj_m_27.2.1 44 = .ok (.iconst 1, 1) := by decide +kernel
theorem mj_d_27_45 : decode mj_m_27.2.1 45 = .ok (.iadd, 1) := by decide +kernel
theorem mj_d_27_46 : decode mj_m_27.2.1 46 = .ok (.putfield 35, 3) := by decide +kernel
theorem mj_d_27_49 : decode mj_m_27.2.1 49 = .ok (.return_, 1) := by decide +kernel
theorem mj_d_28_0 : decode mj_m_28.2.1 0 = .ok (.aload_n 0, 1) := by decide +kernel
theorem mj_d_28_1 : decode mj_m_28.2.1 1 = .ok (.getfield 38, 3) := by decide +kernel
theorem mj_d_28_4 : decode mj_m_28.2.1 4 = .ok (.iconst 5, 1) := by decide +kernel
theorem mj_d_28_5 : decode mj_m_28.2.1 5 = .ok (.if_icmp .ge 33, 3) := by decide +kernel
theorem mj_d_28_8 : decode mj_m_28.2.1 8 = .ok (.aload_n 0, 1) := by decide +kernel
theorem mj_d_28_9 : decode mj_m_28.2.1 9 = .ok (.getfield 18, 3) := by decide +kernel
theorem mj_d_28_12 : decode mj_m_28.2.1 12 = .ok (.aload_n 0, 1) := by decide +kernel
theorem mj_d_28_13 : decode mj_m_28.2.1 13 = .ok (.getfield 38, 3) := by decide +kernel
theorem mj_d_28_16 : decode mj_m_28.2.1 16 = .ok (.iload_n 1, 1) := by decide +kernel
theorem mj_d_28_17 : decode mj_m_28.2.1 17 = .ok (.iastore, 1) := by decide +kernel
theorem mj_d_28_18 : decode mj_m_28.2.1 18 = .ok (.aload_n 0, 1) := by decide +kernel
theorem mj_d_28_19 : decode mj_m_28.2.1 19 = .ok (.getfield 21, 3) := by decide +kernel
theorem mj_d_28_22 : decode mj_m_28.2.1 22 = .ok (.aload_n 0, 1) := by decide +kernel
theorem mj_d_28_23 : decode mj_m_28.2.1 23 = .ok (.getfield 38, 3) := by decide +kernel
theorem mj_d_28_26 : decode mj_m_28.2.1 26 = .ok (.iload_n 2, 1) := by decide +kernel
theorem mj_d_28_27 : decode mj_m_28.2.1 27 = .ok (.iastore, 1) := by decide +kernel
theorem mj_d_28_28 : decode mj_m_28.2.1 28 = .ok (.aload_n 0, 1) := by decide +kernel
theorem mj_d_28_29 : decode mj_m_28.2.1 29 = .ok (.dup, 1) := by decide +kernel
theorem mj_d_28_30 : decode mj_m_28.2.1 30 = .ok (.getfield 38, 3) := by decide +kernel
theorem mj_d_28_33 : decode mj_m_28.2.1 33 = .ok (.iconst 1, 1) := by decide +kernel
theorem mj_d_28_34 : decode mj_m_28.2.1 34 = .ok (.iadd, 1) := by decide +kernel
theorem mj_d_28_35 : decode mj_m_28.2.1 35 = .ok (.putfield 38, 3) := by decide +kernel
theorem mj_d_28_38 : decode mj_m_28.2.1 38 = .ok (.return_, 1) := by decide +kernel
theorem mj_d_29_0 : decode mj_m_29.2.1 0 = .ok (.aload_n 0, 1) := by decide +kernel
theorem mj_d_29_1 : decode mj_m_29.2.1 1 = .ok (.aload_n 1, 1) := by decide +kernel
theorem mj_d_29_2 : decode mj_m_29.2.1 2 = .ok (.getfield 24, 3) := by decide +kernel
theorem mj_d_29_5 : decode mj_m_29.2.1 5 = .ok (.putfield 24, 3) := by decide +kernel
theorem mj_d_29_8 : decode mj_m_29.2.1 8 = .ok (.aload_n 0, 1) := by decide +kernel
theorem mj_d_29_9 : decode mj_m_29.2.1 9 = .ok (.aload_n 1, 1) := by decide +kernel
theorem mj_d_29_10 : decode mj_m_29.2.1 10 = .ok (.getfield 28, 3) := by decide +kernel
theorem mj_d_29_13 : decode mj_m_29.2.1 13 = .ok (.putfield 28, 3) := by decide +kernel
theorem mj_d_29_16 : decode mj_m_29.2.1 16 = .ok (.aload_n 0, 1) := by decide +kernel
theorem mj_d_29_17 : decode mj_m_29.2.1 17 = .ok (.aload_n 1, 1) := by decide +kernel
theorem mj_d_29_18 : decode mj_m_29.2.1 18 = .ok (.getfield 32, 3) := by decide +kernel
theorem mj_d_29_21 : decode mj_m_29.2.1 21 = .ok (.putfield 32, 3) := by decide +kernel
theorem mj_d_29_24 : decode mj_m_29.2.1 24 = .ok (.aload_n 0, 1) := by decide +kernel
theorem mj_d_29_25 : decode mj_m_29.2.1 25 = .ok (.aload_n 1, 1) := by decide +kernel
theorem mj_d_29_26 : decode mj_m_29.2.1 26 = .ok (.getfield 35, 3) := by decide +kernel
theorem mj_d_29_29 : decode mj_m_29.2.1 29 = .ok (.putfield 35, 3) := by decide +kernel
theorem mj_d_29_32 : decode mj_m_29.2.1 32 = .ok (.aload_n 0, 1) := by decide +kernel
theorem mj_d_29_33 : decode mj_m_29.2.1 33 = .ok (.aload_n 1, 1) := by decide +kernel
theorem mj_d_29_34 : decode mj_m_29.2.1 34 = .ok (.getfield 38, 3) := by decide +kernel
theorem mj_d_29_37 : decode mj_m_29.2.1 37 = .ok (.putfield 38, 3) := by decide +kernel
theorem mj_d_29_40 : decode mj_m_29.2.1 40 = .ok (.aload_n 1, 1) := by decide +kernel
theorem mj_d_29_41 : decode mj_m_29.2.1 41 = .ok (.getfield 9, 3) := by decide +kernel
theorem mj_d_29_44 : decode mj_m_29.2.1 44 = .ok (.iconst 0, 1) := by decide +kernel
theorem mj_d_29_45 : decode mj_m_29.2.1 45 = .ok (.aload_n 0, 1) := by decide +kernel
theorem mj_d_29_46 : decode mj_m_29.2.1 46 = .ok (.getfield 9, 3) := by decide +kernel
theorem mj_d_29_49 : decode mj_m_29.2.1 49 = .ok (.iconst 0, 1) := by decide +kernel
theorem mj_d_29_50 : decode mj_m_29.2.1 50 = .ok (.bipush 9, 2) := by decide +kernel
theorem mj_d_29_52 : decode mj_m_29.2.1 52 = .ok (.invokestatic 41, 3) := by decide +kernel
theorem mj_d_29_55 : decode mj_m_29.2.1 55 = .ok (.aload_n 1, 1) := by decide +kernel
theorem mj_d_29_56 : decode mj_m_29.2.1 56 = .ok (.getfield 15, 3) := by decide +kernel
theorem mj_d_29_59 : decode mj_m_29.2.1 59 = .ok (.iconst 0, 1) := by decide +kernel
theorem mj_d_29_60 : decode mj_m_29.2.1 60 = .ok (.aload_n 0, 1) := by decide +kernel
theorem mj_d_29_61 : decode mj_m_29.2.1 61 = .ok (.getfield 15, 3) := by decide +kernel
theorem mj_d_29_64 : decode mj_m_29.2.1 64 = .ok (.iconst 0, 1) := by decide +kernel
theorem mj_d_29_65 : decode mj_m_29.2.1 65 = .ok (.bipush 9, 2) := by decide +kernel
theorem mj_d_29_67 : decode mj_m_29.2.1 67 = .ok (.invokestatic 41, 3) := by decide +kernel
theorem mj_d_29_70 : decode mj_m_29.2.1 70 = .ok (.aload_n 1, 1) := by decide +kernel
theorem mj_d_29_71 : decode mj_m_29.2.1 71 = .ok (.getfield 18, 3) := by decide +kernel
theorem mj_d_29_74 : decode mj_m_29.2.1 74 = .ok (.iconst 0, 1) := by decide +kernel
theorem mj_d_29_75 : decode mj_m_29.2.1 75 = .ok (.aload_n 0, 1) := by decide +kernel
theorem mj_d_29_76 : decode mj_m_29.2.1 76 = .ok (.getfield 18, 3) := by decide +kernel
theorem mj_d_29_79 : decode mj_m_29.2.1 79 = .ok (.iconst 0, 1) := by decide +kernel
theorem mj_d_29_80 : decode mj_m_29.2.1 80 = .ok (.iconst 5, 1) := by decide +kernel
theorem mj_d_29_81 : decode mj_m_29.2.1 81 = .ok (.invokestatic 41, 3) := by decide +kernel
theorem mj_d_29_84 : decode mj_m_29.2.1 84 = .ok (.aload_n 1, 1) := by decide +kernel
theorem mj_d_29_85 : decode mj_m_29.2.1 85 = .ok (.getfield 21, 3) := by decide +kernel
theorem mj_d_29_88 : decode mj_m_29.2.1 88 = .ok (.iconst 0, 1) := by decide +kernel
theorem mj_d_29_89 : decode mj_m_29.2.1 89 = .ok (.aload_n 0, 1) := by decide +kernel
theorem mj_d_29_90 : decode mj_m_29.2.1 90 = .ok (.getfield 21, 3) := by decide +kernel
theorem mj_d_29_93 : decode mj_m_29.2.1 93 = .ok (.iconst 0, 1) := by decide +kernel
theorem mj_d_29_94 : decode mj_m_29.2.1 94 = .ok (.iconst 5, 1) := by decide +kernel
theorem mj_d_29_95 : decode mj_m_29.2.1 95 = .ok (.invokestatic 41, 3) := by decide +kernel
theorem mj_d_29_98 : decode mj_m_29.2.1 98 = .ok (.return_, 1) := by decide +kernel
theorem mj_d_36_0 : decode mj_m_36.2.1 0 = .ok (.iconst 0, 1) := by decide +kernel
theorem mj_d_36_1 : decode mj_m_36.2.1 1 = .ok (.istore_n 1, 1) := by decide +kernel
theorem mj_d_36_2 : decode mj_m_36.2.1 2 = .ok (.iconst 0, 1) := by decide +kernel
theorem mj_d_36_3 : decode mj_m_36.2.1 3 = .ok (.istore_n 2, 1) := by decide +kernel
theorem mj_d_36_4 : decode mj_m_36.2.1 4 = .ok (.iload_n 2, 1) := by decide +kernel
theorem mj_d_36_5 : decode mj_m_36.2.1 5 = .ok (.bipush 8, 2) := by decide +kernel
theorem mj_d_36_7 : decode mj_m_36.2.1 7 = .ok (.if_icmp .ge 20, 3) := by decide +kernel
theorem mj_d_36_10 : decode mj_m_36.2.1 10 = .ok (.iload_n 0, 1) := by decide +kernel
theorem mj_d_36_11 : decode mj_m_36.2.1 11 = .ok (.iload_n 2, 1) := by decide +kernel
theorem mj_d_36_12 : decode mj_m_36.2.1 12 = .ok (.invokestatic 10, 3) := by decide +kernel
theorem mj_d_36_15 : decode mj_m_36.2.1 15 = .ok (.ifCond .eq 6, 3) := by decide +kernel
theorem mj_d_36_18 : decode mj_m_36.2.1 18 = .ok (.iinc 1 1, 3) := by decide +kernel
theorem mj_d_36_21 : decode mj_m_36.2.1 21 = .ok (.iinc 2 1, 3) := by decide +kernel
theorem mj_d_36_24 : decode mj_m_36.2.1 24 = .ok (.goto (-20), 3) := by decide +kernel
theorem mj_d_36_27 : decode mj_m_36.2.1 27 = .ok (.iload_n 1, 1) := by decide +kernel
theorem mj_d_36_28 : decode mj_m_36.2.1 28 = .ok (.ireturn, 1) := by decide +kernel
theorem mj_d_37_0 : decode mj_m_37.2.1 0 = .ok (.iload_n 0, 1) := by decide +kernel
theorem mj_d_37_1 : decode mj_m_37.2.1 1 = .ok (.iconst 3, 1) := by decide +kernel
theorem mj_d_37_2 : decode mj_m_37.2.1 2 = .ok (.iload_n 1, 1) := by decide +kernel
theorem mj_d_37_3 : decode mj_m_37.2.1 3 = .ok (.imul, 1) := by decide +kernel
theorem mj_d_37_4 : decode mj_m_37.2.1 4 = .ok (.ishr, 1) := by decide +kernel
theorem mj_d_37_5 : decode mj_m_37.2.1 5 = .ok (.bipush 7, 2) := by decide +kernel
theorem mj_d_37_7 : decode mj_m_37.2.1 7 = .ok (.iand, 1) := by decide +kernel
theorem mj_d_37_8 : decode mj_m_37.2.1 8 = .ok (.ireturn, 1) := by decide +kernel
theorem mj_d_40_0 : decode mj_m_40.2.1 0 = .ok (.iload_n 0, 1) := by decide +kernel
theorem mj_d_40_1 : decode mj_m_40.2.1 1 = .ok (.iconst 0, 1) := by decide +kernel
theorem mj_d_40_2 : decode mj_m_40.2.1 2 = .ok (.invokestatic 10, 3) := by decide +kernel
theorem mj_d_40_5 : decode mj_m_40.2.1 5 = .ok (.ireturn, 1) := by decide +kernel
theorem mj_d_42_0 : decode mj_m_42.2.1 0 = .ok (.iload_n 0, 1) := by decide +kernel
theorem mj_d_42_1 : decode mj_m_42.2.1 1 = .ok (.invokestatic 16, 3) := by decide +kernel
theorem mj_d_42_4 : decode mj_m_42.2.1 4 = .ok (.iconst 1, 1) := by decide +kernel
theorem mj_d_42_5 : decode mj_m_42.2.1 5 = .ok (.isub, 1) := by decide +kernel
theorem mj_d_42_6 : decode mj_m_42.2.1 6 = .ok (.iload_n 1, 1) := by decide +kernel
theorem mj_d_42_7 : decode mj_m_42.2.1 7 = .ok (.isub, 1) := by decide +kernel
theorem mj_d_42_8 : decode mj_m_42.2.1 8 = .ok (.istore_n 2, 1) := by decide +kernel
theorem mj_d_42_9 : decode mj_m_42.2.1 9 = .ok (.iload_n 2, 1) := by decide +kernel
theorem mj_d_42_10 : decode mj_m_42.2.1 10 = .ok (.ifCond .ge 7, 3) := by decide +kernel
theorem mj_d_42_13 : decode mj_m_42.2.1 13 = .ok (.iconst 0, 1) := by decide +kernel
theorem mj_d_42_14 : decode mj_m_42.2.1 14 = .ok (.goto 8, 3) := by decide +kernel
theorem mj_d_42_17 : decode mj_m_42.2.1 17 = .ok (.iload_n 0, 1) := by decide +kernel
theorem mj_d_42_18 : decode mj_m_42.2.1 18 = .ok (.iload_n 2, 1) := by decide +kernel
theorem mj_d_42_19 : decode mj_m_42.2.1 19 = .ok (.invokestatic 10, 3) := by decide +kernel
theorem mj_d_42_22 : decode mj_m_42.2.1 22 = .ok (.ireturn, 1) := by decide +kernel
theorem mj_d_52_0 : decode mj_m_52.2.1 0 = .ok (.iload_n 0, 1) := by decide +kernel
theorem mj_d_52_1 : decode mj_m_52.2.1 1 = .ok (.iconst 3, 1) := by decide +kernel
theorem mj_d_52_2 : decode mj_m_52.2.1 2 = .ok (.ishl, 1) := by decide +kernel
theorem mj_d_52_3 : decode mj_m_52.2.1 3 = .ok (.iload_n 1, 1) := by decide +kernel
theorem mj_d_52_4 : decode mj_m_52.2.1 4 = .ok (.ior, 1) := by decide +kernel
theorem mj_d_52_5 : decode mj_m_52.2.1 5 = .ok (.ldc 9, 2) := by decide +kernel
theorem mj_d_52_7 : decode mj_m_52.2.1 7 = .ok (.iand, 1) := by decide +kernel
theorem mj_d_52_8 : decode mj_m_52.2.1 8 = .ok (.ireturn, 1) := by decide +kernel
theorem mj_d_53_0 : decode mj_m_53.2.1 0 = .ok (.aload_n 0, 1) := by decide +kernel
theorem mj_d_53_1 : decode mj_m_53.2.1 1 = .ok (.getfield 28, 3) := by decide +kernel
theorem mj_d_53_4 : decode mj_m_53.2.1 4 = .ok (.iconst 1, 1) := by decide +kernel
theorem mj_d_53_5 : decode mj_m_53.2.1 5 = .ok (.if_icmp .ne 9, 3) := by decide +kernel
theorem mj_d_53_8 : decode mj_m_53.2.1 8 = .ok (.iload_n 1, 1) := by decide +kernel
theorem mj_d_53_9 : decode mj_m_53.2.1 9 = .ok (.iconst 1, 1) := by decide +kernel
theorem mj_d_53_10 : decode mj_m_53.2.1 10 = .ok (.iadd, 1) := by decide +kernel
theorem mj_d_53_11 : decode mj_m_53.2.1 11 = .ok (.goto 18, 3) := by decide +kernel
theorem mj_d_53_14 : decode mj_m_53.2.1 14 = .ok (.aload_n 0, 1) := by decide +kernel
theorem mj_d_53_15 : decode mj_m_53.2.1 15 = .ok (.getfield 28, 3) := by decide +kernel
theorem mj_d_53_18 : decode mj_m_53.2.1 18 = .ok (.iconst 2, 1) := by decide +kernel
theorem mj_d_53_19 : decode mj_m_53.2.1 19 = .ok (.if_icmp .ne 9, 3) := by decide +kernel
theorem mj_d_53_22 : decode mj_m_53.2.1 22 = .ok (.iload_n 1, 1) := by decide +kernel
theorem mj_d_53_23 : decode mj_m_53.2.1 23 = .ok (.iconst 1, 1) := by decide +kernel
theorem mj_d_53_24 : decode mj_m_53.2.1 24 = .ok (.isub, 1) := by decide +kernel
theorem mj_d_53_25 : decode mj_m_53.2.1 25 = .ok (.goto 4, 3) := by decide +kernel
theorem mj_d_53_28 : decode mj_m_53.2.1 28 = .ok (.iconst (-1), 1) := by decide +kernel
theorem mj_d_53_29 : decode mj_m_53.2.1 29 = .ok (.istore_n 2, 1) := by decide +kernel
theorem mj_d_53_30 : decode mj_m_53.2.1 30 = .ok (.iload_n 2, 1) := by decide +kernel
theorem mj_d_53_31 : decode mj_m_53.2.1 31 = .ok (.ifCond .lt 15, 3) := by decide +kernel
theorem mj_d_53_34 : decode mj_m_53.2.1 34 = .ok (.iload_n 2, 1) := by decide +kernel
theorem mj_d_53_35 : decode mj_m_53.2.1 35 = .ok (.aload_n 0, 1) := by decide +kernel
theorem mj_d_53_36 : decode mj_m_53.2.1 36 = .ok (.getfield 35, 3) := by decide +kernel
theorem mj_d_53_39 : decode mj_m_53.2.1 39 = .ok (.if_icmp .ge 7, 3) := by decide +kernel
theorem mj_d_53_42 : decode mj_m_53.2.1 42 = .ok (.iload_n 2, 1) := by decide +kernel
theorem mj_d_53_43 : decode mj_m_53.2.1 43 = .ok (.goto 4, 3) := by decide +kernel
theorem mj_d_53_46 : decode mj_m_53.2.1 46 = .ok (.iconst (-1), 1) := by decide +kernel
theorem mj_d_53_47 : decode mj_m_53.2.1 47 = .ok (.ireturn, 1) := by decide +kernel
theorem mj_d_57_0 : decode mj_m_57.2.1 0 = .ok (.iload_n 1, 1) := by decide +kernel
theorem mj_d_57_1 : decode mj_m_57.2.1 1 = .ok (.bipush 8, 2) := by decide +kernel
theorem mj_d_57_3 : decode mj_m_57.2.1 3 = .ok (.if_icmp .lt 7, 3) := by decide +kernel
theorem mj_d_57_6 : decode mj_m_57.2.1 6 = .ok (.iconst 0, 1) := by decide +kernel
theorem mj_d_57_7 : decode mj_m_57.2.1 7 = .ok (.goto 8, 3) := by decide +kernel
theorem mj_d_57_10 : decode mj_m_57.2.1 10 = .ok (.iload_n 0, 1) := by decide +kernel
theorem mj_d_57_11 : decode mj_m_57.2.1 11 = .ok (.iconst 3, 1) := by decide +kernel
theorem mj_d_57_12 : decode mj_m_57.2.1 12 = .ok (.iload_n 1, 1) := by decide +kernel
theorem mj_d_57_13 : decode mj_m_57.2.1 13 = .ok (.imul, 1) := by decide +kernel
theorem mj_d_57_14 : decode mj_m_57.2.1 14 = .ok (.ishr, 1) := by decide +kernel
theorem mj_d_57_15 : decode mj_m_57.2.1 15 = .ok (.ireturn, 1) := by decide +kernel
theorem mj_d_78_0 : decode mj_m_78.2.1 0 = .ok (.iload_n 2, 1) := by decide +kernel
theorem mj_d_78_1 : decode mj_m_78.2.1 1 = .ok (.bipush 8, 2) := by decide +kernel
theorem mj_d_78_3 : decode mj_m_78.2.1 3 = .ok (.if_icmp .lt 5, 3) := by decide +kernel
theorem mj_d_78_6 : decode mj_m_78.2.1 6 = .ok (.iload_n 1, 1) := by decide +kernel
theorem mj_d_78_7 : decode mj_m_78.2.1 7 = .ok (.ireturn, 1) := by decide +kernel
theorem mj_d_78_8 : decode mj_m_78.2.1 8 = .ok (.iload_n 0, 1) := by decide +kernel
theorem mj_d_78_9 : decode mj_m_78.2.1 9 = .ok (.iconst 3, 1) := by decide +kernel
theorem mj_d_78_10 : decode mj_m_78.2.1 10 = .ok (.iload_n 2, 1) := by decide +kernel
theorem mj_d_78_11 : decode mj_m_78.2.1 11 = .ok (.imul, 1) := by decide +kernel
theorem mj_d_78_12 : decode mj_m_78.2.1 12 = .ok (.ishl, 1) := by decide +kernel
theorem mj_d_78_13 : decode mj_m_78.2.1 13 = .ok (.iload_n 1, 1) := by decide +kernel
theorem mj_d_78_14 : decode mj_m_78.2.1 14 = .ok (.ior, 1) := by decide +kernel
theorem mj_d_78_15 : decode mj_m_78.2.1 15 = .ok (.ldc 9, 2) := by decide +kernel
theorem mj_d_78_17 : decode mj_m_78.2.1 17 = .ok (.iand, 1) := by decide +kernel
theorem mj_d_78_18 : decode mj_m_78.2.1 18 = .ok (.ireturn, 1) := by decide +kernel
theorem mj_d_103_0 : decode mj_m_103.2.1 0 = .ok (.iconst 0, 1) := by decide +kernel
theorem mj_d_103_1 : decode mj_m_103.2.1 1 = .ok (.istore_n 2, 1) := by decide +kernel
theorem mj_d_103_2 : decode mj_m_103.2.1 2 = .ok (.iload_n 2, 1) := by decide +kernel
theorem mj_d_103_3 : decode mj_m_103.2.1 3 = .ok (.bipush 8, 2) := by decide +kernel
theorem mj_d_103_5 : decode mj_m_103.2.1 5 = .ok (.if_icmp .ge 20, 3) := by decide +kernel
theorem mj_d_103_8 : decode mj_m_103.2.1 8 = .ok (.iload_n 0, 1) := by decide +kernel
theorem mj_d_103_9 : decode mj_m_103.2.1 9 = .ok (.iload_n 2, 1) := by decide +kernel
theorem mj_d_103_10 : decode mj_m_103.2.1 10 = .ok (.invokestatic 10, 3) := by decide +kernel
theorem mj_d_103_13 : decode mj_m_103.2.1 13 = .ok (.iload_n 1, 1) := by decide +kernel
theorem mj_d_103_14 : decode mj_m_103.2.1 14 = .ok (.if_icmp .ne 5, 3) := by decide +kernel
theorem mj_d_103_17 : decode mj_m_103.2.1 17 = .ok (.iconst 1, 1) := by decide +kernel
theorem mj_d_103_18 : decode mj_m_103.2.1 18 = .ok (.ireturn, 1) := by decide +kernel
theorem mj_d_103_19 : decode mj_m_103.2.1 19 = .ok (.iinc 2 1, 3) := by decide +kernel
theorem mj_d_103_22 : decode mj_m_103.2.1 22 = .ok (.goto (-20), 3) := by decide +kernel
theorem mj_d_103_25 : decode mj_m_103.2.1 25 = .ok (.iconst 0, 1) := by decide +kernel
theorem mj_d_103_26 : decode mj_m_103.2.1 26 = .ok (.ireturn, 1) := by decide +kernel
def dc_Soot_fromNewest (s : sg_S) (a0 a1 : Int) : Int := (sy_and (sy_shr a0 (3 * a1)) 7)
set_option maxRecDepth 100000 in
theorem dt_Soot_fromNewest {h : mj_H} (hH : sy_H h) {a0 a1 : Int} (b_a0 : 0 ≤ a0) (t_a0 : a0 ≤ 16777215) (b_a1 : (-2147483648) ≤ a1) (t_a1 : a1 ≤ 2147483647) : sy_wp (mj_m_37, 0, [(0, sy_i a0), (1, sy_i a1)], [], h) (dq1 h (0) (7) (dc_Soot_fromNewest (sy_rd h) a0 a1)) := by
  unfold dc_Soot_fromNewest
  refine sy_st (S' := (mj_m_37, 1, [(0, sy_i a0), (1, sy_i a1)], [sy_i a0], h)) mj_d_37_0 (fun _ _ => rfl) ?_
  refine sy_st (S' := (mj_m_37, 2, [(0, sy_i a0), (1, sy_i a1)], [sy_i 3, sy_i a0], h)) mj_d_37_1 (fun _ _ => rfl) ?_
  refine sy_st (S' := (mj_m_37, 3, [(0, sy_i a0), (1, sy_i a1)], [sy_i a1, sy_i 3, sy_i a0], h)) mj_d_37_2 (fun _ _ => rfl) ?_
  refine sy_mul mj_d_37_3 ?_
  refine sy_ishr mj_d_37_4 ?_
  have q1 := sg_shr_f a0 (3 * a1)
  refine sy_bip mj_d_37_5 (by decide) ?_
  refine sy_iand mj_d_37_7 ?_
  have q2 := sg_and_f (sy_shr a0 (3 * a1)) 7
  exact sy_reti mj_d_37_8 rfl ⟨rfl, rfl, by omega, by omega⟩
def dc_Soot_laid (s : sg_S) (a0 a1 : Int) : Int := (sy_and (sy_or (sy_shl a0 3) a1) 16777215)
set_option maxRecDepth 100000 in
theorem dt_Soot_laid {h : mj_H} (hH : sy_H h) {a0 a1 : Int} (b_a0 : 0 ≤ a0) (t_a0 : a0 ≤ 16777215) (b_a1 : 0 ≤ a1) (t_a1 : a1 ≤ 7) : sy_wp (mj_m_52, 0, [(0, sy_i a0), (1, sy_i a1)], [], h) (dq1 h (0) (16777215) (dc_Soot_laid (sy_rd h) a0 a1)) := by
  unfold dc_Soot_laid
  refine sy_st (S' := (mj_m_52, 1, [(0, sy_i a0), (1, sy_i a1)], [sy_i a0], h)) mj_d_52_0 (fun _ _ => rfl) ?_
  refine sy_st (S' := (mj_m_52, 2, [(0, sy_i a0), (1, sy_i a1)], [sy_i 3, sy_i a0], h)) mj_d_52_1 (fun _ _ => rfl) ?_
  refine sy_ishl mj_d_52_2 ?_
  have q1 := sg_shl_f a0 3
  refine sy_st (S' := (mj_m_52, 4, [(0, sy_i a0), (1, sy_i a1)], [sy_i a1, sy_i (sy_shl a0 3)], h)) mj_d_52_3 (fun _ _ => rfl) ?_
  refine sy_ior mj_d_52_4 ?_
  have q2 := sg_or_f (sy_shl a0 3) a1
  refine sy_ldc (n := 16777215) mj_d_52_5 rfl (by decide) ?_
  refine sy_iand mj_d_52_7 ?_
  have q3 := sg_and_f (sy_or (sy_shl a0 3) a1) 16777215
  exact sy_reti mj_d_52_8 rfl ⟨rfl, rfl, by omega, by omega⟩
def dc_Soot_heaped (s : sg_S) (a0 a1 a2 : Int) : Int := (if a2 < 8 then (sy_and (sy_or (sy_shl a0 (3 * a2)) a1) 16777215) else a1)
set_option maxRecDepth 100000 in
theorem dt_Soot_heaped {h : mj_H} (hH : sy_H h) {a0 a1 a2 : Int} (b_a0 : 0 ≤ a0) (t_a0 : a0 ≤ 16777215) (b_a1 : 0 ≤ a1) (t_a1 : a1 ≤ 16777215) (b_a2 : (-2147483648) ≤ a2) (t_a2 : a2 ≤ 2147483647) : sy_wp (mj_m_78, 0, [(0, sy_i a0), (1, sy_i a1), (2, sy_i a2)], [], h) (dq1 h (0) (16777215) (dc_Soot_heaped (sy_rd h) a0 a1 a2)) := by
  unfold dc_Soot_heaped
  refine sy_st (S' := (mj_m_78, 1, [(0, sy_i a0), (1, sy_i a1), (2, sy_i a2)], [sy_i a2], h)) mj_d_78_0 (fun _ _ => rfl) ?_
  refine sy_bip mj_d_78_1 (by decide) ?_
  refine sy_icm mj_d_78_3 rfl ⟨by omega, by omega⟩ ⟨by omega, by omega⟩ (fun (c1 : a2 < 8) => ?_) (fun (c1 : ¬ (a2 < 8)) => ?_)
  · skip
    rw [if_pos c1]
    refine sy_st (S' := (mj_m_78, 9, [(0, sy_i a0), (1, sy_i a1), (2, sy_i a2)], [sy_i a0], h)) mj_d_78_8 (fun _ _ => rfl) ?_
    refine sy_st (S' := (mj_m_78, 10, [(0, sy_i a0), (1, sy_i a1), (2, sy_i a2)], [sy_i 3, sy_i a0], h)) mj_d_78_9 (fun _ _ => rfl) ?_
    refine sy_st (S' := (mj_m_78, 11, [(0, sy_i a0), (1, sy_i a1), (2, sy_i a2)], [sy_i a2, sy_i 3, sy_i a0], h)) mj_d_78_10 (fun _ _ => rfl) ?_
    refine sy_mul mj_d_78_11 ?_
    refine sy_ishl mj_d_78_12 ?_
    have q2 := sg_shl_f a0 (3 * a2)
    refine sy_st (S' := (mj_m_78, 14, [(0, sy_i a0), (1, sy_i a1), (2, sy_i a2)], [sy_i a1, sy_i (sy_shl a0 (3 * a2))], h)) mj_d_78_13 (fun _ _ => rfl) ?_
    refine sy_ior mj_d_78_14 ?_
    have q3 := sg_or_f (sy_shl a0 (3 * a2)) a1
    refine sy_ldc (n := 16777215) mj_d_78_15 rfl (by decide) ?_
    refine sy_iand mj_d_78_17 ?_
    have q4 := sg_and_f (sy_or (sy_shl a0 (3 * a2)) a1) 16777215
    exact sy_reti mj_d_78_18 rfl ⟨rfl, rfl, by omega, by omega⟩
  · skip
    rw [if_neg c1]
    refine sy_st (S' := (mj_m_78, 7, [(0, sy_i a0), (1, sy_i a1), (2, sy_i a2)], [sy_i a1], h)) mj_d_78_6 (fun _ _ => rfl) ?_
    exact sy_reti mj_d_78_7 rfl ⟨rfl, rfl, by omega, by omega⟩
def dc_Soot_washed (s : sg_S) (a0 a1 : Int) : Int := (if a1 < 8 then (sy_shr a0 (3 * a1)) else 0)
set_option maxRecDepth 100000 in
theorem dt_Soot_washed {h : mj_H} (hH : sy_H h) {a0 a1 : Int} (b_a0 : 0 ≤ a0) (t_a0 : a0 ≤ 16777215) (b_a1 : (-2147483648) ≤ a1) (t_a1 : a1 ≤ 2147483647) : sy_wp (mj_m_57, 0, [(0, sy_i a0), (1, sy_i a1)], [], h) (dq1 h (0) (16777215) (dc_Soot_washed (sy_rd h) a0 a1)) := by
  unfold dc_Soot_washed
  refine sy_st (S' := (mj_m_57, 1, [(0, sy_i a0), (1, sy_i a1)], [sy_i a1], h)) mj_d_57_0 (fun _ _ => rfl) ?_
  refine sy_bip mj_d_57_1 (by decide) ?_
  refine sy_icm mj_d_57_3 rfl ⟨by omega, by omega⟩ ⟨by omega, by omega⟩ (fun (c1 : a1 < 8) => ?_) (fun (c1 : ¬ (a1 < 8)) => ?_)
  · skip
    rw [if_pos c1]
    refine sy_st (S' := (mj_m_57, 11, [(0, sy_i a0), (1, sy_i a1)], [sy_i a0], h)) mj_d_57_10 (fun _ _ => rfl) ?_
    refine sy_st (S' := (mj_m_57, 12, [(0, sy_i a0), (1, sy_i a1)], [sy_i 3, sy_i a0], h)) mj_d_57_11 (fun _ _ => rfl) ?_
    refine sy_st (S' := (mj_m_57, 13, [(0, sy_i a0), (1, sy_i a1)], [sy_i a1, sy_i 3, sy_i a0], h)) mj_d_57_12 (fun _ _ => rfl) ?_
    refine sy_mul mj_d_57_13 ?_
    refine sy_ishr mj_d_57_14 ?_
    have q2 := sg_shr_f a0 (3 * a1)
    exact sy_reti mj_d_57_15 rfl ⟨rfl, rfl, by omega, by omega⟩
  · skip
    rw [if_neg c1]
    refine sy_st (S' := (mj_m_57, 7, [(0, sy_i a0), (1, sy_i a1)], [sy_i 0], h)) mj_d_57_6 (fun _ _ => rfl) ?_
    refine sy_st (S' := (mj_m_57, 15, [(0, sy_i a0), (1, sy_i a1)], [sy_i 0], h)) mj_d_57_7 (fun _ _ => rfl) ?_
    exact sy_reti mj_d_57_15 rfl ⟨rfl, rfl, by omega, by omega⟩
def dc_Soot_layers_4 (n : Nat) : sg_S → Int → Int → Int → Int := Nat.rec (fun (s : sg_S) l0 l1 l2 => 0) (fun _ ih => fun s l0 l1 l2 => (if 8 ≤ l2 then l1 else (if (dc_Soot_fromNewest s l0 l2) = 0 then (ih s l0 l1 (l2 + 1)) else (ih s l0 (l1 + 1) (l2 + 1))))) n
theorem dc_Soot_layers_4_s (n : Nat) (s : sg_S) (l0 l1 l2 : Int) : dc_Soot_layers_4 (n + 1) s l0 l1 l2 = (if 8 ≤ l2 then l1 else (if (dc_Soot_fromNewest s l0 l2) = 0 then ((dc_Soot_layers_4 n) s l0 l1 (l2 + 1)) else ((dc_Soot_layers_4 n) s l0 (l1 + 1) (l2 + 1)))) := rfl
def dc_Soot_layers (s : sg_S) (a0 : Int) : Int := (dc_Soot_layers_4 9 s a0 0 0)
set_option maxRecDepth 100000 in
theorem dt_Soot_layers_4 : ∀ (n : Nat) {h : mj_H} (hH : sy_H h) {l0 l1 l2 : Int} (b_l0 : 0 ≤ l0) (t_l0 : l0 ≤ 16777215) (b_l1 : 0 ≤ l1) (t_l1 : l1 ≤ 8) (b_l2 : 0 ≤ l2) (t_l2 : l2 ≤ 8) (i0 : l1 ≤ l2) (hm : 8 - l2 < (n : Int)), sy_wp (mj_m_36, 4, [(0, sy_i l0), (1, sy_i l1), (2, sy_i l2)], [], h) (dq1 h (0) (8) (dc_Soot_layers_4 n (sy_rd h) l0 l1 l2)) := by
  intro n
  induction n with
  | zero =>
    intro h hH l0 l1 l2 b_l0 t_l0 b_l1 t_l1 b_l2 t_l2 i0 hm
    exact absurd hm (by omega)
  | succ n ih =>
    intro h hH l0 l1 l2 b_l0 t_l0 b_l1 t_l1 b_l2 t_l2 i0 hm
    rw [dc_Soot_layers_4_s]
    refine sy_st (S' := (mj_m_36, 5, [(0, sy_i l0), (1, sy_i l1), (2, sy_i l2)], [sy_i l2], h)) mj_d_36_4 (fun _ _ => rfl) ?_
    refine sy_bip mj_d_36_5 (by decide) ?_
    refine sy_icm mj_d_36_7 rfl ⟨by omega, by omega⟩ ⟨by omega, by omega⟩ (fun (c1 : 8 ≤ l2) => ?_) (fun (c1 : ¬ (8 ≤ l2)) => ?_)
    · skip
      rw [if_pos c1]
      refine sy_st (S' := (mj_m_36, 28, [(0, sy_i l0), (1, sy_i l1), (2, sy_i l2)], [sy_i l1], h)) mj_d_36_27 (fun _ _ => rfl) ?_
      exact sy_reti mj_d_36_28 rfl ⟨rfl, rfl, by omega, by omega⟩
    · skip
      rw [if_neg c1]
      refine sy_st (S' := (mj_m_36, 11, [(0, sy_i l0), (1, sy_i l1), (2, sy_i l2)], [sy_i l0], h)) mj_d_36_10 (fun _ _ => rfl) ?_
      refine sy_st (S' := (mj_m_36, 12, [(0, sy_i l0), (1, sy_i l1), (2, sy_i l2)], [sy_i l2, sy_i l0], h)) mj_d_36_11 (fun _ _ => rfl) ?_
      refine sy_cs (M' := mj_m_37) (vs := [sy_i l0, sy_i l2]) (rest := []) mj_d_36_12 rfl rfl rfl rfl ⟨Nat.le_of_ble_eq_true rfl, Nat.le_of_ble_eq_true rfl, Nat.le_of_ble_eq_true rfl, Nat.le_of_ble_eq_true rfl, Nat.le_of_ble_eq_true rfl⟩ (dt_Soot_fromNewest (a0 := l0) (a1 := l2) hH (by omega) (by omega) (by omega) (by omega)) ?_
      rintro _ _ ⟨rfl, rfl, b2, b2t⟩
      show sy_wp (mj_m_36, 15, [(0, sy_i l0), (1, sy_i l1), (2, sy_i l2)], [sy_i (dc_Soot_fromNewest (sy_rd h) l0 l2)], h) _
      refine sy_ifc mj_d_36_15 rfl ⟨by omega, by omega⟩ (fun (c3 : (dc_Soot_fromNewest (sy_rd h) l0 l2) = 0) => ?_) (fun (c3 : ¬ ((dc_Soot_fromNewest (sy_rd h) l0 l2) = 0)) => ?_)
      · skip
        rw [if_pos c3]
        refine sy_inc (a := l2) (lv' := [(2, sy_i (l2 + 1)), (0, sy_i l0), (1, sy_i l1)]) mj_d_36_21 (Nat.le_of_ble_eq_true rfl) rfl rfl ?_
        refine sy_st (S' := (mj_m_36, 4, [(2, sy_i (l2 + 1)), (0, sy_i l0), (1, sy_i l1)], [], h)) mj_d_36_24 (fun _ _ => rfl) ?_
        refine sy_lv (lv := [(0, sy_i l0), (1, sy_i l1), (2, sy_i (l2 + 1))]) rfl ⟨rfl, rfl, rfl, trivial⟩ ?_
        exact ih hH (by first | omega | assumption) (by first | omega | assumption) (by first | omega | assumption) (by first | omega | assumption) (by first | omega | assumption) (by first | omega | assumption) (by first | omega | assumption) (by omega)
      · skip
        rw [if_neg c3]
        refine sy_inc (a := l1) (lv' := [(1, sy_i (l1 + 1)), (0, sy_i l0), (2, sy_i l2)]) mj_d_36_18 (Nat.le_of_ble_eq_true rfl) rfl rfl ?_
        refine sy_inc (a := l2) (lv' := [(2, sy_i (l2 + 1)), (1, sy_i (l1 + 1)), (0, sy_i l0)]) mj_d_36_21 (Nat.le_of_ble_eq_true rfl) rfl rfl ?_
        refine sy_st (S' := (mj_m_36, 4, [(2, sy_i (l2 + 1)), (1, sy_i (l1 + 1)), (0, sy_i l0)], [], h)) mj_d_36_24 (fun _ _ => rfl) ?_
        refine sy_lv (lv := [(0, sy_i l0), (1, sy_i (l1 + 1)), (2, sy_i (l2 + 1))]) rfl ⟨rfl, rfl, rfl, trivial⟩ ?_
        exact ih hH (by first | omega | assumption) (by first | omega | assumption) (by first | omega | assumption) (by first | omega | assumption) (by first | omega | assumption) (by first | omega | assumption) (by first | omega | assumption) (by omega)
set_option maxRecDepth 100000 in
theorem dt_Soot_layers {h : mj_H} (hH : sy_H h) {a0 : Int} (b_a0 : 0 ≤ a0) (t_a0 : a0 ≤ 16777215) : sy_wp (mj_m_36, 0, [(0, sy_i a0)], [], h) (dq1 h (0) (8) (dc_Soot_layers (sy_rd h) a0)) := by
  unfold dc_Soot_layers
  refine sy_st (S' := (mj_m_36, 1, [(0, sy_i a0)], [sy_i 0], h)) mj_d_36_0 (fun _ _ => rfl) ?_
  refine sy_st (S' := (mj_m_36, 2, [(1, sy_i 0), (0, sy_i a0)], [], h)) mj_d_36_1 (fun _ _ => rfl) ?_
  refine sy_st (S' := (mj_m_36, 3, [(1, sy_i 0), (0, sy_i a0)], [sy_i 0], h)) mj_d_36_2 (fun _ _ => rfl) ?_
  refine sy_st (S' := (mj_m_36, 4, [(2, sy_i 0), (1, sy_i 0), (0, sy_i a0)], [], h)) mj_d_36_3 (fun _ _ => rfl) ?_
  refine sy_lv (lv := [(0, sy_i a0), (1, sy_i 0), (2, sy_i 0)]) rfl ⟨rfl, rfl, rfl, trivial⟩ ?_
  exact dt_Soot_layers_4 9 hH (by first | omega | assumption) (by first | omega | assumption) (by first | omega | assumption) (by first | omega | assumption) (by first | omega | assumption) (by first | omega | assumption) (by first | omega | assumption) (by omega)
def dc_Soot_newest (s : sg_S) (a0 : Int) : Int := (dc_Soot_fromNewest s a0 0)
set_option maxRecDepth 100000 in
theorem dt_Soot_newest {h : mj_H} (hH : sy_H h) {a0 : Int} (b_a0 : 0 ≤ a0) (t_a0 : a0 ≤ 16777215) : sy_wp (mj_m_40, 0, [(0, sy_i a0)], [], h) (dq1 h (0) (7) (dc_Soot_newest (sy_rd h) a0)) := by
  unfold dc_Soot_newest
  refine sy_st (S' := (mj_m_40, 1, [(0, sy_i a0)], [sy_i a0], h)) mj_d_40_0 (fun _ _ => rfl) ?_
  refine sy_st (S' := (mj_m_40, 2, [(0, sy_i a0)], [sy_i 0, sy_i a0], h)) mj_d_40_1 (fun _ _ => rfl) ?_
  refine sy_cs (M' := mj_m_37) (vs := [sy_i a0, sy_i 0]) (rest := []) mj_d_40_2 rfl rfl rfl rfl ⟨Nat.le_of_ble_eq_true rfl, Nat.le_of_ble_eq_true rfl, Nat.le_of_ble_eq_true rfl, Nat.le_of_ble_eq_true rfl, Nat.le_of_ble_eq_true rfl⟩ (dt_Soot_fromNewest (a0 := a0) (a1 := 0) hH (by omega) (by omega) (by omega) (by omega)) ?_
  rintro _ _ ⟨rfl, rfl, b1, b1t⟩
  show sy_wp (mj_m_40, 5, [(0, sy_i a0)], [sy_i (dc_Soot_fromNewest (sy_rd h) a0 0)], h) _
  exact sy_reti mj_d_40_5 rfl ⟨rfl, rfl, by omega, by omega⟩
def dc_Soot_fromOldest (s : sg_S) (a0 a1 : Int) : Int := (if 0 ≤ (((dc_Soot_layers s a0) - 1) - a1) then (dc_Soot_fromNewest s a0 (((dc_Soot_layers s a0) - 1) - a1)) else 0)
set_option maxRecDepth 100000 in
theorem dt_Soot_fromOldest {h : mj_H} (hH : sy_H h) {a0 a1 : Int} (b_a0 : 0 ≤ a0) (t_a0 : a0 ≤ 16777215) (b_a1 : 0 ≤ a1) (t_a1 : a1 ≤ 7) : sy_wp (mj_m_42, 0, [(0, sy_i a0), (1, sy_i a1)], [], h) (dq1 h (0) (7) (dc_Soot_fromOldest (sy_rd h) a0 a1)) := by
  unfold dc_Soot_fromOldest
  refine sy_st (S' := (mj_m_42, 1, [(0, sy_i a0), (1, sy_i a1)], [sy_i a0], h)) mj_d_42_0 (fun _ _ => rfl) ?_
  refine sy_cs (M' := mj_m_36) (vs := [sy_i a0]) (rest := []) mj_d_42_1 rfl rfl rfl rfl ⟨Nat.le_of_ble_eq_true rfl, Nat.le_of_ble_eq_true rfl, Nat.le_of_ble_eq_true rfl, Nat.le_of_ble_eq_true rfl, Nat.le_of_ble_eq_true rfl⟩ (dt_Soot_layers (a0 := a0) hH (by omega) (by omega)) ?_
  rintro _ _ ⟨rfl, rfl, b1, b1t⟩
  show sy_wp (mj_m_42, 4, [(0, sy_i a0), (1, sy_i a1)], [sy_i (dc_Soot_layers (sy_rd h) a0)], h) _
  refine sy_st (S' := (mj_m_42, 5, [(0, sy_i a0), (1, sy_i a1)], [sy_i 1, sy_i (dc_Soot_layers (sy_rd h) a0)], h)) mj_d_42_4 (fun _ _ => rfl) ?_
  refine sy_sub mj_d_42_5 ?_
  refine sy_st (S' := (mj_m_42, 7, [(0, sy_i a0), (1, sy_i a1)], [sy_i a1, sy_i ((dc_Soot_layers (sy_rd h) a0) - 1)], h)) mj_d_42_6 (fun _ _ => rfl) ?_
  refine sy_sub mj_d_42_7 ?_
  refine sy_st (S' := (mj_m_42, 9, [(2, sy_i (((dc_Soot_layers (sy_rd h) a0) - 1) - a1)), (0, sy_i a0), (1, sy_i a1)], [], h)) mj_d_42_8 (fun _ _ => rfl) ?_
  refine sy_st (S' := (mj_m_42, 10, [(2, sy_i (((dc_Soot_layers (sy_rd h) a0) - 1) - a1)), (0, sy_i a0), (1, sy_i a1)], [sy_i (((dc_Soot_layers (sy_rd h) a0) - 1) - a1)], h)) mj_d_42_9 (fun _ _ => rfl) ?_
  refine sy_ifc mj_d_42_10 rfl ⟨by omega, by omega⟩ (fun (c2 : 0 ≤ (((dc_Soot_layers (sy_rd h) a0) - 1) - a1)) => ?_) (fun (c2 : ¬ (0 ≤ (((dc_Soot_layers (sy_rd h) a0) - 1) - a1))) => ?_)
  · skip
    rw [if_pos c2]
    refine sy_st (S' := (mj_m_42, 18, [(2, sy_i (((dc_Soot_layers (sy_rd h) a0) - 1) - a1)), (0, sy_i a0), (1, sy_i a1)], [sy_i a0], h)) mj_d_42_17 (fun _ _ => rfl) ?_
    refine sy_st (S' := (mj_m_42, 19, [(2, sy_i (((dc_Soot_layers (sy_rd h) a0) - 1) - a1)), (0, sy_i a0), (1, sy_i a1)], [sy_i (((dc_Soot_layers (sy_rd h) a0) - 1) - a1), sy_i a0], h)) mj_d_42_18 (fun _ _ => rfl) ?_
    refine sy_cs (M' := mj_m_37) (vs := [sy_i a0, sy_i (((dc_Soot_layers (sy_rd h) a0) - 1) - a1)]) (rest := []) mj_d_42_19 rfl rfl rfl rfl ⟨Nat.le_of_ble_eq_true rfl, Nat.le_of_ble_eq_true rfl, Nat.le_of_ble_eq_true rfl, Nat.le_of_ble_eq_true rfl, Nat.le_of_ble_eq_true rfl⟩ (dt_Soot_fromNewest (a0 := a0) (a1 := (((dc_Soot_layers (sy_rd h) a0) - 1) - a1)) hH (by omega) (by omega) (by omega) (by omega)) ?_
    rintro _ _ ⟨rfl, rfl, b3, b3t⟩
    show sy_wp (mj_m_42, 22, [(2, sy_i (((dc_Soot_layers (sy_rd h) a0) - 1) - a1)), (0, sy_i a0), (1, sy_i a1)], [sy_i (dc_Soot_fromNewest (sy_rd h) a0 (((dc_Soot_layers (sy_rd h) a0) - 1) - a1))], h) _
    exact sy_reti mj_d_42_22 rfl ⟨rfl, rfl, by omega, by omega⟩
  · skip
    rw [if_neg c2]
    refine sy_st (S' := (mj_m_42, 14, [(2, sy_i (((dc_Soot_layers (sy_rd h) a0) - 1) - a1)), (0, sy_i a0), (1, sy_i a1)], [sy_i 0], h)) mj_d_42_13 (fun _ _ => rfl) ?_
    refine sy_st (S' := (mj_m_42, 22, [(2, sy_i (((dc_Soot_layers (sy_rd h) a0) - 1) - a1)), (0, sy_i a0), (1, sy_i a1)], [sy_i 0], h)) mj_d_42_14 (fun _ _ => rfl) ?_
    exact sy_reti mj_d_42_22 rfl ⟨rfl, rfl, by omega, by omega⟩
def dc_Soot_holds_2 (n : Nat) : sg_S → Int → Int → Int → Int := Nat.rec (fun (s : sg_S) l0 l1 l2 => 0) (fun _ ih => fun s l0 l1 l2 => (if 8 ≤ l2 then 0 else (if (dc_Soot_fromNewest s l0 l2) = l1 then 1 else (ih s l0 l1 (l2 + 1))))) n
theorem dc_Soot_holds_2_s (n : Nat) (s : sg_S) (l0 l1 l2 : Int) : dc_Soot_holds_2 (n + 1) s l0 l1 l2 = (if 8 ≤ l2 then 0 else (if (dc_Soot_fromNewest s l0 l2) = l1 then 1 else ((dc_Soot_holds_2 n) s l0 l1 (l2 + 1)))) := rfl
def dc_Soot_holds (s : sg_S) (a0 a1 : Int) : Int := (dc_Soot_holds_2 9 s a0 a1 0)
set_option maxRecDepth 100000 in
theorem dt_Soot_holds_2 : ∀ (n : Nat) {h : mj_H} (hH : sy_H h) {l0 l1 l2 : Int} (b_l0 : 0 ≤ l0) (t_l0 : l0 ≤ 16777215) (b_l1 : (-2147483648) ≤ l1) (t_l1 : l1 ≤ 2147483647) (b_l2 : 0 ≤ l2) (t_l2 : l2 ≤ 8) (hm : 8 - l2 < (n : Int)), sy_wp (mj_m_103, 2, [(0, sy_i l0), (1, sy_i l1), (2, sy_i l2)], [], h) (dq1 h (0) (1) (dc_Soot_holds_2 n (sy_rd h) l0 l1 l2)) := by
  intro n
  induction n with
  | zero =>
    intro h hH l0 l1 l2 b_l0 t_l0 b_l1 t_l1 b_l2 t_l2 hm
    exact absurd hm (by omega)
  | succ n ih =>
    intro h hH l0 l1 l2 b_l0 t_l0 b_l1 t_l1 b_l2 t_l2 hm
    rw [dc_Soot_holds_2_s]
    refine sy_st (S' := (mj_m_103, 3, [(0, sy_i l0), (1, sy_i l1), (2, sy_i l2)], [sy_i l2], h)) mj_d_103_2 (fun _ _ => rfl) ?_
    refine sy_bip mj_d_103_3 (by decide) ?_
    refine sy_icm mj_d_103_5 rfl ⟨by omega, by omega⟩ ⟨by omega, by omega⟩ (fun (c1 : 8 ≤ l2) => ?_) (fun (c1 : ¬ (8 ≤ l2)) => ?_)
    · skip
      rw [if_pos c1]
      refine sy_st (S' := (mj_m_103, 26, [(0, sy_i l0), (1, sy_i l1), (2, sy_i l2)], [sy_i 0], h)) mj_d_103_25 (fun _ _ => rfl) ?_
      exact sy_retb mj_d_103_26 rfl ⟨by omega, by omega⟩ ⟨rfl, rfl, by omega, by omega⟩
    · skip
      rw [if_neg c1]
      refine sy_st (S' := (mj_m_103, 9, [(0, sy_i l0), (1, sy_i l1), (2, sy_i l2)], [sy_i l0], h)) mj_d_103_8 (fun _ _ => rfl) ?_
      refine sy_st (S' := (mj_m_103, 10, [(0, sy_i l0), (1, sy_i l1), (2, sy_i l2)], [sy_i l2, sy_i l0], h)) mj_d_103_9 (fun _ _ => rfl) ?_
      refine sy_cs (M' := mj_m_37) (vs := [sy_i l0, sy_i l2]) (rest := []) mj_d_103_10 rfl rfl rfl rfl ⟨Nat.le_of_ble_eq_true rfl, Nat.le_of_ble_eq_true rfl, Nat.le_of_ble_eq_true rfl, Nat.le_of_ble_eq_true rfl, Nat.le_of_ble_eq_true rfl⟩ (dt_Soot_fromNewest (a0 := l0) (a1 := l2) hH (by omega) (by omega) (by omega) (by omega)) ?_
      rintro _ _ ⟨rfl, rfl, b2, b2t⟩
      show sy_wp (mj_m_103, 13, [(0, sy_i l0), (1, sy_i l1), (2, sy_i l2)], [sy_i (dc_Soot_fromNewest (sy_rd h) l0 l2)], h) _
      refine sy_st (S' := (mj_m_103, 14, [(0, sy_i l0), (1, sy_i l1), (2, sy_i l2)], [sy_i l1, sy_i (dc_Soot_fromNewest (sy_rd h) l0 l2)], h)) mj_d_103_13 (fun _ _ => rfl) ?_
      refine sy_icm mj_d_103_14 rfl ⟨by omega, by omega⟩ ⟨by omega, by omega⟩ (fun (c3 : ¬ ((dc_Soot_fromNewest (sy_rd h) l0 l2) = l1)) => ?_) (fun (c3 : ¬ ¬ ((dc_Soot_fromNewest (sy_rd h) l0 l2) = l1)) => ?_)
      · skip
        rw [if_neg c3]
        refine sy_inc (a := l2) (lv' := [(2, sy_i (l2 + 1)), (0, sy_i l0), (1, sy_i l1)]) mj_d_103_19 (Nat.le_of_ble_eq_true rfl) rfl rfl ?_
        refine sy_st (S' := (mj_m_103, 2, [(2, sy_i (l2 + 1)), (0, sy_i l0), (1, sy_i l1)], [], h)) mj_d_103_22 (fun _ _ => rfl) ?_
        refine sy_lv (lv := [(0, sy_i l0), (1, sy_i l1), (2, sy_i (l2 + 1))]) rfl ⟨rfl, rfl, rfl, trivial⟩ ?_
        exact ih hH (by first | omega | assumption) (by first | omega | assumption) (by first | omega | assumption) (by first | omega | assumption) (by first | omega | assumption) (by first | omega | assumption) (by omega)
      · skip
        rw [if_pos (Decidable.not_not.mp c3)]
        replace c3 := Decidable.not_not.mp c3
        refine sy_st (S' := (mj_m_103, 18, [(0, sy_i l0), (1, sy_i l1), (2, sy_i l2)], [sy_i 1], h)) mj_d_103_17 (fun _ _ => rfl) ?_
        exact sy_retb mj_d_103_18 rfl ⟨by omega, by omega⟩ ⟨rfl, rfl, by omega, by omega⟩
set_option maxRecDepth 100000 in
theorem dt_Soot_holds {h : mj_H} (hH : sy_H h) {a0 a1 : Int} (b_a0 : 0 ≤ a0) (t_a0 : a0 ≤ 16777215) (b_a1 : (-2147483648) ≤ a1) (t_a1 : a1 ≤ 2147483647) : sy_wp (mj_m_103, 0, [(0, sy_i a0), (1, sy_i a1)], [], h) (dq1 h (0) (1) (dc_Soot_holds (sy_rd h) a0 a1)) := by
  unfold dc_Soot_holds
  refine sy_st (S' := (mj_m_103, 1, [(0, sy_i a0), (1, sy_i a1)], [sy_i 0], h)) mj_d_103_0 (fun _ _ => rfl) ?_
  refine sy_st (S' := (mj_m_103, 2, [(2, sy_i 0), (0, sy_i a0), (1, sy_i a1)], [], h)) mj_d_103_1 (fun _ _ => rfl) ?_
  refine sy_lv (lv := [(0, sy_i a0), (1, sy_i a1), (2, sy_i 0)]) rfl ⟨rfl, rfl, rfl, trivial⟩ ?_
  exact dt_Soot_holds_2 9 hH (by first | omega | assumption) (by first | omega | assumption) (by first | omega | assumption) (by first | omega | assumption) (by first | omega | assumption) (by first | omega | assumption) (by omega)
def dc_Plan_clear (s : sg_S) : sg_S := (sg_up (sg_up (sg_up (sg_up (sg_up s 3 0 0) 3 1 0) 3 2 0) 3 3 0) 3 4 0)
set_option maxRecDepth 100000 in
theorem dt_Plan_clear {h : mj_H} (hH : sy_H h) : sy_wp (mj_m_14, 0, [(0, .ref 3)], [], h) (dq3 (dc_Plan_clear (sy_rd h))) := by
  unfold dc_Plan_clear
  refine sy_st (S' := (mj_m_14, 1, [(0, .ref 3)], [.ref 3], h)) mj_d_14_0 (fun _ _ => rfl) ?_
  refine sy_st (S' := (mj_m_14, 2, [(0, .ref 3)], [sy_i 0, .ref 3], h)) mj_d_14_1 (fun _ _ => rfl) ?_
  refine sg_pf (z := 0) mj_d_14_2 rfl rfl (by decide) (Or.inr ⟨rfl, by omega, by omega⟩) rfl hH (by omega) (by omega) ⟨by omega, by omega⟩ ?_
  intro h1 th1 eh1
  refine sy_st (S' := (mj_m_14, 6, [(0, .ref 3)], [.ref 3], h1)) mj_d_14_5 (fun _ _ => rfl) ?_
  refine sy_st (S' := (mj_m_14, 7, [(0, .ref 3)], [sy_i 0, .ref 3], h1)) mj_d_14_6 (fun _ _ => rfl) ?_
  refine sg_pf (z := 0) mj_d_14_7 rfl rfl (by decide) (Or.inl rfl) rfl th1 (by omega) (by omega) ⟨by omega, by omega⟩ ?_
  intro h2 th2 eh2
  rw [eh1] at eh2
  refine sy_st (S' := (mj_m_14, 11, [(0, .ref 3)], [.ref 3], h2)) mj_d_14_10 (fun _ _ => rfl) ?_
  refine sy_st (S' := (mj_m_14, 12, [(0, .ref 3)], [sy_i 0, .ref 3], h2)) mj_d_14_11 (fun _ _ => rfl) ?_
  refine sg_pf (z := 0) mj_d_14_12 rfl rfl (by decide) (Or.inl rfl) rfl th2 (by omega) (by omega) ⟨by omega, by omega⟩ ?_
  intro h3 th3 eh3
  rw [eh2] at eh3
  refine sy_st (S' := (mj_m_14, 16, [(0, .ref 3)], [.ref 3], h3)) mj_d_14_15 (fun _ _ => rfl) ?_
  refine sy_st (S' := (mj_m_14, 17, [(0, .ref 3)], [sy_i 0, .ref 3], h3)) mj_d_14_16 (fun _ _ => rfl) ?_
  refine sg_pf (z := 0) mj_d_14_17 rfl rfl (by decide) (Or.inl rfl) rfl th3 (by omega) (by omega) ⟨by omega, by omega⟩ ?_
  intro h4 th4 eh4
  rw [eh3] at eh4
  refine sy_st (S' := (mj_m_14, 21, [(0, .ref 3)], [.ref 3], h4)) mj_d_14_20 (fun _ _ => rfl) ?_
  refine sy_st (S' := (mj_m_14, 22, [(0, .ref 3)], [sy_i 0, .ref 3], h4)) mj_d_14_21 (fun _ _ => rfl) ?_
  refine sg_pf (z := 0) mj_d_14_22 rfl rfl (by decide) (Or.inl rfl) rfl th4 (by omega) (by omega) ⟨by omega, by omega⟩ ?_
  intro h5 th5 eh5
  rw [eh4] at eh5
  exact sy_retv mj_d_14_25 rfl ⟨rfl, th5, eh5⟩
def dc_Plan_copyFrom (s : sg_S) : sg_S := (sg_cp (sg_cp (sg_cp (sg_cp (sg_up (sg_up (sg_up (sg_up (sg_up s 8 0 (s 3 0)) 8 1 (s 3 1)) 8 2 (s 3 2)) 8 3 (s 3 3)) 8 4 (s 3 4)) 4 9) 5 10) 6 11) 7 12)
set_option maxRecDepth 100000 in
theorem dt_Plan_copyFrom {h : mj_H} (hH : sy_H h) : sy_wp (mj_m_29, 0, [(0, .ref 8), (1, .ref 3)], [], h) (dq3 (dc_Plan_copyFrom (sy_rd h))) := by
  unfold dc_Plan_copyFrom
  refine sy_st (S' := (mj_m_29, 1, [(0, .ref 8), (1, .ref 3)], [.ref 8], h)) mj_d_29_0 (fun _ _ => rfl) ?_
  refine sy_st (S' := (mj_m_29, 2, [(0, .ref 8), (1, .ref 3)], [.ref 3, .ref 8], h)) mj_d_29_1 (fun _ _ => rfl) ?_
  refine sy_gf mj_d_29_2 rfl rfl (by decide) rfl hH ?_
  rintro _ rfl bx1 tx1
  refine sg_pf (z := (sy_rd h 3 0)) mj_d_29_5 rfl rfl (by decide) (Or.inr ⟨rfl, by omega, by omega⟩) rfl hH (by omega) (by omega) ⟨by omega, by omega⟩ ?_
  intro h2 th2 eh2
  refine sy_st (S' := (mj_m_29, 9, [(0, .ref 8), (1, .ref 3)], [.ref 8], h2)) mj_d_29_8 (fun _ _ => rfl) ?_
  refine sy_st (S' := (mj_m_29, 10, [(0, .ref 8), (1, .ref 3)], [.ref 3, .ref 8], h2)) mj_d_29_9 (fun _ _ => rfl) ?_
  refine sy_gf mj_d_29_10 rfl rfl (by decide) rfl th2 ?_
  intro x3 ex3 bx3 tx3
  rw [eh2, sg_na (by decide)] at ex3
  subst ex3
  refine sg_pf (z := (sy_rd h 3 1)) mj_d_29_13 rfl rfl (by decide) (Or.inl rfl) rfl th2 (by omega) (by omega) ⟨by omega, by omega⟩ ?_
  intro h4 th4 eh4
  rw [eh2] at eh4
  refine sy_st (S' := (mj_m_29, 17, [(0, .ref 8), (1, .ref 3)], [.ref 8], h4)) mj_d_29_16 (fun _ _ => rfl) ?_
  refine sy_st (S' := (mj_m_29, 18, [(0, .ref 8), (1, .ref 3)], [.ref 3, .ref 8], h4)) mj_d_29_17 (fun _ _ => rfl) ?_
  refine sy_gf mj_d_29_18 rfl rfl (by decide) rfl th4 ?_
  intro x5 ex5 bx5 tx5
  rw [eh4, sg_na (by decide), sg_na (by decide)] at ex5
  subst ex5
  refine sg_pf (z := (sy_rd h 3 2)) mj_d_29_21 rfl rfl (by decide) (Or.inl rfl) rfl th4 (by omega) (by omega) ⟨by omega, by omega⟩ ?_
  intro h6 th6 eh6
  rw [eh4] at eh6
  refine sy_st (S' := (mj_m_29, 25, [(0, .ref 8), (1, .ref 3)], [.ref 8], h6)) mj_d_29_24 (fun _ _ => rfl) ?_
  refine sy_st (S' := (mj_m_29, 26, [(0, .ref 8), (1, .ref 3)], [.ref 3, .ref 8], h6)) mj_d_29_25 (fun _ _ => rfl) ?_
  refine sy_gf mj_d_29_26 rfl rfl (by decide) rfl th6 ?_
  intro x7 ex7 bx7 tx7
  rw [eh6, sg_na (by decide), sg_na (by decide), sg_na (by decide)] at ex7
  subst ex7
  refine sg_pf (z := (sy_rd h 3 3)) mj_d_29_29 rfl rfl (by decide) (Or.inl rfl) rfl th6 (by omega) (by omega) ⟨by omega, by omega⟩ ?_
  intro h8 th8 eh8
  rw [eh6] at eh8
  refine sy_st (S' := (mj_m_29, 33, [(0, .ref 8), (1, .ref 3)], [.ref 8], h8)) mj_d_29_32 (fun _ _ => rfl) ?_
  refine sy_st (S' := (mj_m_29, 34, [(0, .ref 8), (1, .ref 3)], [.ref 3, .ref 8], h8)) mj_d_29_33 (fun _ _ => rfl) ?_
  refine sy_gf mj_d_29_34 rfl rfl (by decide) rfl th8 ?_
  intro x9 ex9 bx9 tx9
  rw [eh8, sg_na (by decide), sg_na (by decide), sg_na (by decide), sg_na (by decide)] at ex9
  subst ex9
  refine sg_pf (z := (sy_rd h 3 4)) mj_d_29_37 rfl rfl (by decide) (Or.inl rfl) rfl th8 (by omega) (by omega) ⟨by omega, by omega⟩ ?_
  intro h10 th10 eh10
  rw [eh8] at eh10
  refine sy_st (S' := (mj_m_29, 41, [(0, .ref 8), (1, .ref 3)], [.ref 3], h10)) mj_d_29_40 (fun _ _ => rfl) ?_
  refine sy_gr2 (b := 4) mj_d_29_41 rfl rfl (by decide) rfl rfl th10 ?_
  refine sy_st (S' := (mj_m_29, 45, [(0, .ref 8), (1, .ref 3)], [sy_i 0, .ref 4], h10)) mj_d_29_44 (fun _ _ => rfl) ?_
  refine sy_st (S' := (mj_m_29, 46, [(0, .ref 8), (1, .ref 3)], [.ref 8, sy_i 0, .ref 4], h10)) mj_d_29_45 (fun _ _ => rfl) ?_
  refine sy_gr2 (b := 9) mj_d_29_46 rfl rfl (by decide) rfl rfl th10 ?_
  refine sy_st (S' := (mj_m_29, 50, [(0, .ref 8), (1, .ref 3)], [sy_i 0, .ref 9, sy_i 0, .ref 4], h10)) mj_d_29_49 (fun _ _ => rfl) ?_
  refine sy_bip mj_d_29_50 (by decide) ?_
  refine sg_ac (ln := 9) mj_d_29_52 rfl rfl rfl (by decide) ⟨by decide, by decide⟩ th10 ?_
  intro h11 th11 eh11
  rw [eh10] at eh11
  refine sy_st (S' := (mj_m_29, 56, [(0, .ref 8), (1, .ref 3)], [.ref 3], h11)) mj_d_29_55 (fun _ _ => rfl) ?_
  refine sy_gr2 (b := 5) mj_d_29_56 rfl rfl (by decide) rfl rfl th11 ?_
  refine sy_st (S' := (mj_m_29, 60, [(0, .ref 8), (1, .ref 3)], [sy_i 0, .ref 5], h11)) mj_d_29_59 (fun _ _ => rfl) ?_
  refine sy_st (S' := (mj_m_29, 61, [(0, .ref 8), (1, .ref 3)], [.ref 8, sy_i 0, .ref 5], h11)) mj_d_29_60 (fun _ _ => rfl) ?_
  refine sy_gr2 (b := 10) mj_d_29_61 rfl rfl (by decide) rfl rfl th11 ?_
  refine sy_st (S' := (mj_m_29, 65, [(0, .ref 8), (1, .ref 3)], [sy_i 0, .ref 10, sy_i 0, .ref 5], h11)) mj_d_29_64 (fun _ _ => rfl) ?_
  refine sy_bip mj_d_29_65 (by decide) ?_
  refine sg_ac (ln := 9) mj_d_29_67 rfl rfl rfl (by decide) ⟨by decide, by decide⟩ th11 ?_
  intro h12 th12 eh12
  rw [eh11] at eh12
  refine sy_st (S' := (mj_m_29, 71, [(0, .ref 8), (1, .ref 3)], [.ref 3], h12)) mj_d_29_70 (fun _ _ => rfl) ?_
  refine sy_gr2 (b := 6) mj_d_29_71 rfl rfl (by decide) rfl rfl th12 ?_
  refine sy_st (S' := (mj_m_29, 75, [(0, .ref 8), (1, .ref 3)], [sy_i 0, .ref 6], h12)) mj_d_29_74 (fun _ _ => rfl) ?_
  refine sy_st (S' := (mj_m_29, 76, [(0, .ref 8), (1, .ref 3)], [.ref 8, sy_i 0, .ref 6], h12)) mj_d_29_75 (fun _ _ => rfl) ?_
  refine sy_gr2 (b := 11) mj_d_29_76 rfl rfl (by decide) rfl rfl th12 ?_
  refine sy_st (S' := (mj_m_29, 80, [(0, .ref 8), (1, .ref 3)], [sy_i 0, .ref 11, sy_i 0, .ref 6], h12)) mj_d_29_79 (fun _ _ => rfl) ?_
  refine sy_st (S' := (mj_m_29, 81, [(0, .ref 8), (1, .ref 3)], [sy_i 5, sy_i 0, .ref 11, sy_i 0, .ref 6], h12)) mj_d_29_80 (fun _ _ => rfl) ?_
  refine sg_ac (ln := 5) mj_d_29_81 rfl rfl rfl (by decide) ⟨by decide, by decide⟩ th12 ?_
  intro h13 th13 eh13
  rw [eh12] at eh13
  refine sy_st (S' := (mj_m_29, 85, [(0, .ref 8), (1, .ref 3)], [.ref 3], h13)) mj_d_29_84 (fun _ _ => rfl) ?_
  refine sy_gr2 (b := 7) mj_d_29_85 rfl rfl (by decide) rfl rfl th13 ?_
  refine sy_st (S' := (mj_m_29, 89, [(0, .ref 8), (1, .ref 3)], [sy_i 0, .ref 7], h13)) mj_d_29_88 (fun _ _ => rfl) ?_
  refine sy_st (S' := (mj_m_29, 90, [(0, .ref 8), (1, .ref 3)], [.ref 8, sy_i 0, .ref 7], h13)) mj_d_29_89 (fun _ _ => rfl) ?_
  refine sy_gr2 (b := 12) mj_d_29_90 rfl rfl (by decide) rfl rfl th13 ?_
  refine sy_st (S' := (mj_m_29, 94, [(0, .ref 8), (1, .ref 3)], [sy_i 0, .ref 12, sy_i 0, .ref 7], h13)) mj_d_29_93 (fun _ _ => rfl) ?_
  refine sy_st (S' := (mj_m_29, 95, [(0, .ref 8), (1, .ref 3)], [sy_i 5, sy_i 0, .ref 12, sy_i 0, .ref 7], h13)) mj_d_29_94 (fun _ _ => rfl) ?_
  refine sg_ac (ln := 5) mj_d_29_95 rfl rfl rfl (by decide) ⟨by decide, by decide⟩ th13 ?_
  intro h14 th14 eh14
  rw [eh13] at eh14
  exact sy_retv mj_d_29_98 rfl ⟨rfl, th14, eh14⟩
def dc_Plan_tellCity (s : sg_S) (a1 a2 : Int) : sg_S := (sg_up (sg_up (sg_up s 3 0 1) 3 1 a1) 3 2 a2)
set_option maxRecDepth 100000 in
theorem dt_Plan_tellCity {h : mj_H} (hH : sy_H h) {a1 a2 : Int} (b_a1 : 0 ≤ a1) (t_a1 : a1 ≤ 2) (b_a2 : 0 ≤ a2) (t_a2 : a2 ≤ 4) : sy_wp (mj_m_26, 0, [(0, .ref 3), (1, sy_i a1), (2, sy_i a2)], [], h) (dq3 (dc_Plan_tellCity (sy_rd h) a1 a2)) := by
  unfold dc_Plan_tellCity
  refine sy_st (S' := (mj_m_26, 1, [(0, .ref 3), (1, sy_i a1), (2, sy_i a2)], [.ref 3], h)) mj_d_26_0 (fun _ _ => rfl) ?_
  refine sy_st (S' := (mj_m_26, 2, [(0, .ref 3), (1, sy_i a1), (2, sy_i a2)], [sy_i 1, .ref 3], h)) mj_d_26_1 (fun _ _ => rfl) ?_
  refine sg_pf (z := 1) mj_d_26_2 rfl rfl (by decide) (Or.inr ⟨rfl, by omega, by omega⟩) rfl hH (by omega) (by omega) ⟨by omega, by omega⟩ ?_
  intro h1 th1 eh1
  refine sy_st (S' := (mj_m_26, 6, [(0, .ref 3), (1, sy_i a1), (2, sy_i a2)], [.ref 3], h1)) mj_d_26_5 (fun _ _ => rfl) ?_
  refine sy_st (S' := (mj_m_26, 7, [(0, .ref 3), (1, sy_i a1), (2, sy_i a2)], [sy_i a1, .ref 3], h1)) mj_d_26_6 (fun _ _ => rfl) ?_
  refine sg_pf (z := a1) mj_d_26_7 rfl rfl (by decide) (Or.inl rfl) rfl th1 (by omega) (by omega) ⟨by omega, by omega⟩ ?_
  intro h2 th2 eh2
  rw [eh1] at eh2
  refine sy_st (S' := (mj_m_26, 11, [(0, .ref 3), (1, sy_i a1), (2, sy_i a2)], [.ref 3], h2)) mj_d_26_10 (fun _ _ => rfl) ?_
  refine sy_st (S' := (mj_m_26, 12, [(0, .ref 3), (1, sy_i a1), (2, sy_i a2)], [sy_i a2, .ref 3], h2)) mj_d_26_11 (fun _ _ => rfl) ?_
  refine sg_pf (z := a2) mj_d_26_12 rfl rfl (by decide) (Or.inl rfl) rfl th2 (by omega) (by omega) ⟨by omega, by omega⟩ ?_
  intro h3 th3 eh3
  rw [eh2] at eh3
  exact sy_retv mj_d_26_15 rfl ⟨rfl, th3, eh3⟩
def dc_Plan_tellHouse (s : sg_S) (a1 a2 : Int) : sg_S := (if 9 ≤ (s 3 3) then s else (if a1 = 9 then (sg_up (sg_up (sg_up s 4 ((s 3 3).toNat) (-1)) 5 ((s 3 3).toNat) a2) 3 3 ((s 3 3) + 1)) else (sg_up (sg_up (sg_up s 4 ((s 3 3).toNat) a1) 5 ((s 3 3).toNat) a2) 3 3 ((s 3 3) + 1))))
set_option maxRecDepth 100000 in
theorem dt_Plan_tellHouse {h : mj_H} (hH : sy_H h) {a1 a2 : Int} (b_a1 : 0 ≤ a1) (t_a1 : a1 ≤ 9) (b_a2 : 0 ≤ a2) (t_a2 : a2 ≤ 7) : sy_wp (mj_m_27, 0, [(0, .ref 3), (1, sy_i a1), (2, sy_i a2)], [], h) (dq3 (dc_Plan_tellHouse (sy_rd h) a1 a2)) := by
  unfold dc_Plan_tellHouse
  refine sy_st (S' := (mj_m_27, 1, [(0, .ref 3), (1, sy_i a1), (2, sy_i a2)], [.ref 3], h)) mj_d_27_0 (fun _ _ => rfl) ?_
  refine sy_gf mj_d_27_1 rfl rfl (by decide) rfl hH ?_
  rintro _ rfl bx1 tx1
  refine sy_bip mj_d_27_4 (by decide) ?_
  refine sy_icm mj_d_27_6 rfl ⟨by omega, by omega⟩ ⟨by omega, by omega⟩ (fun (c2 : 9 ≤ (sy_rd h 3 3)) => ?_) (fun (c2 : ¬ (9 ≤ (sy_rd h 3 3))) => ?_)
  · skip
    rw [if_pos c2]
    exact sy_retv mj_d_27_49 rfl ⟨rfl, hH, rfl⟩
  · skip
    rw [if_neg c2]
    refine sy_st (S' := (mj_m_27, 10, [(0, .ref 3), (1, sy_i a1), (2, sy_i a2)], [.ref 3], h)) mj_d_27_9 (fun _ _ => rfl) ?_
    refine sy_gr2 (b := 4) mj_d_27_10 rfl rfl (by decide) rfl rfl hH ?_
    refine sy_st (S' := (mj_m_27, 14, [(0, .ref 3), (1, sy_i a1), (2, sy_i a2)], [.ref 3, .ref 4], h)) mj_d_27_13 (fun _ _ => rfl) ?_
    refine sy_gf mj_d_27_14 rfl rfl (by decide) rfl hH ?_
    rintro _ rfl bx3 tx3
    refine sy_st (S' := (mj_m_27, 18, [(0, .ref 3), (1, sy_i a1), (2, sy_i a2)], [sy_i a1, sy_i (sy_rd h 3 3), .ref 4], h)) mj_d_27_17 (fun _ _ => rfl) ?_
    refine sy_bip mj_d_27_18 (by decide) ?_
    refine sy_icm mj_d_27_20 rfl ⟨by omega, by omega⟩ ⟨by omega, by omega⟩ (fun (c4 : ¬ (a1 = 9)) => ?_) (fun (c4 : ¬ ¬ (a1 = 9)) => ?_)
    · skip
      rw [if_neg c4]
      refine sy_st (S' := (mj_m_27, 28, [(0, .ref 3), (1, sy_i a1), (2, sy_i a2)], [sy_i a1, sy_i (sy_rd h 3 3), .ref 4], h)) mj_d_27_27 (fun _ _ => rfl) ?_
      refine sg_ias (v := a1) mj_d_27_28 rfl (by decide) (by omega) (by omega) (ab_el_1 rfl _) hH (by omega) (by omega) ⟨by omega, by omega⟩ ?_
      intro h5 th5 eh5
      refine sy_st (S' := (mj_m_27, 30, [(0, .ref 3), (1, sy_i a1), (2, sy_i a2)], [.ref 3], h5)) mj_d_27_29 (fun _ _ => rfl) ?_
      refine sy_gr2 (b := 5) mj_d_27_30 rfl rfl (by decide) rfl rfl th5 ?_
      refine sy_st (S' := (mj_m_27, 34, [(0, .ref 3), (1, sy_i a1), (2, sy_i a2)], [.ref 3, .ref 5], h5)) mj_d_27_33 (fun _ _ => rfl) ?_
      refine sy_gf mj_d_27_34 rfl rfl (by decide) rfl th5 ?_
      intro x6 ex6 bx6 tx6
      rw [eh5, sg_na (by decide)] at ex6
      subst ex6
      refine sy_st (S' := (mj_m_27, 38, [(0, .ref 3), (1, sy_i a1), (2, sy_i a2)], [sy_i a2, sy_i (sy_rd h 3 3), .ref 5], h5)) mj_d_27_37 (fun _ _ => rfl) ?_
      refine sg_ias (v := a2) mj_d_27_38 rfl (by decide) (by omega) (by omega) (ab_el_1 rfl _) th5 (by omega) (by omega) ⟨by omega, by omega⟩ ?_
      intro h7 th7 eh7
      rw [eh5] at eh7
      refine sy_st (S' := (mj_m_27, 40, [(0, .ref 3), (1, sy_i a1), (2, sy_i a2)], [.ref 3], h7)) mj_d_27_39 (fun _ _ => rfl) ?_
      refine sy_st (S' := (mj_m_27, 41, [(0, .ref 3), (1, sy_i a1), (2, sy_i a2)], [.ref 3, .ref 3], h7)) mj_d_27_40 (fun _ _ => rfl) ?_
      refine sy_gf mj_d_27_41 rfl rfl (by decide) rfl th7 ?_
      intro x8 ex8 bx8 tx8
      rw [eh7, sg_na (by decide), sg_na (by decide)] at ex8
      subst ex8
      refine sy_st (S' := (mj_m_27, 45, [(0, .ref 3), (1, sy_i a1), (2, sy_i a2)], [sy_i 1, sy_i (sy_rd h 3 3), .ref 3], h7)) mj_d_27_44 (fun _ _ => rfl) ?_
      refine sy_add mj_d_27_45 ?_
      refine sg_pf (z := ((sy_rd h 3 3) + 1)) mj_d_27_46 rfl rfl (by decide) (Or.inl rfl) rfl th7 (by omega) (by omega) ⟨by omega, by omega⟩ ?_
      intro h9 th9 eh9
      rw [eh7] at eh9
      exact sy_retv mj_d_27_49 rfl ⟨rfl, th9, eh9⟩
    · skip
      rw [if_pos (Decidable.not_not.mp c4)]
      replace c4 := Decidable.not_not.mp c4
      refine sy_st (S' := (mj_m_27, 24, [(0, .ref 3), (1, sy_i a1), (2, sy_i a2)], [sy_i (-1), sy_i (sy_rd h 3 3), .ref 4], h)) mj_d_27_23 (fun _ _ => rfl) ?_
      refine sy_st (S' := (mj_m_27, 28, [(0, .ref 3), (1, sy_i a1), (2, sy_i a2)], [sy_i (-1), sy_i (sy_rd h 3 3), .ref 4], h)) mj_d_27_24 (fun _ _ => rfl) ?_
      refine sg_ias (v := (-1)) mj_d_27_28 rfl (by decide) (by omega) (by omega) (ab_el_1 rfl _) hH (by omega) (by omega) ⟨by omega, by omega⟩ ?_
      intro h10 th10 eh10
      refine sy_st (S' := (mj_m_27, 30, [(0, .ref 3), (1, sy_i a1), (2, sy_i a2)], [.ref 3], h10)) mj_d_27_29 (fun _ _ => rfl) ?_
      refine sy_gr2 (b := 5) mj_d_27_30 rfl rfl (by decide) rfl rfl th10 ?_
      refine sy_st (S' := (mj_m_27, 34, [(0, .ref 3), (1, sy_i a1), (2, sy_i a2)], [.ref 3, .ref 5], h10)) mj_d_27_33 (fun _ _ => rfl) ?_
      refine sy_gf mj_d_27_34 rfl rfl (by decide) rfl th10 ?_
      intro x11 ex11 bx11 tx11
      rw [eh10, sg_na (by decide)] at ex11
      subst ex11
      refine sy_st (S' := (mj_m_27, 38, [(0, .ref 3), (1, sy_i a1), (2, sy_i a2)], [sy_i a2, sy_i (sy_rd h 3 3), .ref 5], h10)) mj_d_27_37 (fun _ _ => rfl) ?_
      refine sg_ias (v := a2) mj_d_27_38 rfl (by decide) (by omega) (by omega) (ab_el_1 rfl _) th10 (by omega) (by omega) ⟨by omega, by omega⟩ ?_
      intro h12 th12 eh12
      rw [eh10] at eh12
      refine sy_st (S' := (mj_m_27, 40, [(0, .ref 3), (1, sy_i a1), (2, sy_i a2)], [.ref 3], h12)) mj_d_27_39 (fun _ _ => rfl) ?_
      refine sy_st (S' := (mj_m_27, 41, [(0, .ref 3), (1, sy_i a1), (2, sy_i a2)], [.ref 3, .ref 3], h12)) mj_d_27_40 (fun _ _ => rfl) ?_
      refine sy_gf mj_d_27_41 rfl rfl (by decide) rfl th12 ?_
      intro x13 ex13 bx13 tx13
      rw [eh12, sg_na (by decide), sg_na (by decide)] at ex13
      subst ex13
      refine sy_st (S' := (mj_m_27, 45, [(0, .ref 3), (1, sy_i a1), (2, sy_i a2)], [sy_i 1, sy_i (sy_rd h 3 3), .ref 3], h12)) mj_d_27_44 (fun _ _ => rfl) ?_
      refine sy_add mj_d_27_45 ?_
      refine sg_pf (z := ((sy_rd h 3 3) + 1)) mj_d_27_46 rfl rfl (by decide) (Or.inl rfl) rfl th12 (by omega) (by omega) ⟨by omega, by omega⟩ ?_
      intro h14 th14 eh14
      rw [eh12] at eh14
      exact sy_retv mj_d_27_49 rfl ⟨rfl, th14, eh14⟩
def dc_Plan_tellSweep (s : sg_S) (a1 a2 : Int) : sg_S := (if 5 ≤ (s 3 4) then s else (sg_up (sg_up (sg_up s 6 ((s 3 4).toNat) a1) 7 ((s 3 4).toNat) a2) 3 4 ((s 3 4) + 1)))
set_option maxRecDepth 100000 in
theorem dt_Plan_tellSweep {h : mj_H} (hH : sy_H h) {a1 a2 : Int} (b_a1 : 0 ≤ a1) (t_a1 : a1 ≤ 511) (b_a2 : 0 ≤ a2) (t_a2 : a2 ≤ 99) : sy_wp (mj_m_28, 0, [(0, .ref 3), (1, sy_i a1), (2, sy_i a2)], [], h) (dq3 (dc_Plan_tellSweep (sy_rd h) a1 a2)) := by
  unfold dc_Plan_tellSweep
  refine sy_st (S' := (mj_m_28, 1, [(0, .ref 3), (1, sy_i a1), (2, sy_i a2)], [.ref 3], h)) mj_d_28_0 (fun _ _ => rfl) ?_
  refine sy_gf mj_d_28_1 rfl rfl (by decide) rfl hH ?_
  rintro _ rfl bx1 tx1
  refine sy_st (S' := (mj_m_28, 5, [(0, .ref 3), (1, sy_i a1), (2, sy_i a2)], [sy_i 5, sy_i (sy_rd h 3 4)], h)) mj_d_28_4 (fun _ _ => rfl) ?_
  refine sy_icm mj_d_28_5 rfl ⟨by omega, by omega⟩ ⟨by omega, by omega⟩ (fun (c2 : 5 ≤ (sy_rd h 3 4)) => ?_) (fun (c2 : ¬ (5 ≤ (sy_rd h 3 4))) => ?_)
  · skip
    rw [if_pos c2]
    exact sy_retv mj_d_28_38 rfl ⟨rfl, hH, rfl⟩
  · skip
    rw [if_neg c2]
    refine sy_st (S' := (mj_m_28, 9, [(0, .ref 3), (1, sy_i a1), (2, sy_i a2)], [.ref 3], h)) mj_d_28_8 (fun _ _ => rfl) ?_
    refine sy_gr2 (b := 6) mj_d_28_9 rfl rfl (by decide) rfl rfl hH ?_
    refine sy_st (S' := (mj_m_28, 13, [(0, .ref 3), (1, sy_i a1), (2, sy_i a2)], [.ref 3, .ref 6], h)) mj_d_28_12 (fun _ _ => rfl) ?_
    refine sy_gf mj_d_28_13 rfl rfl (by decide) rfl hH ?_
    rintro _ rfl bx3 tx3
    refine sy_st (S' := (mj_m_28, 17, [(0, .ref 3), (1, sy_i a1), (2, sy_i a2)], [sy_i a1, sy_i (sy_rd h 3 4), .ref 6], h)) mj_d_28_16 (fun _ _ => rfl) ?_
    refine sg_ias (v := a1) mj_d_28_17 rfl (by decide) (by omega) (by omega) (ab_el_1 rfl _) hH (by omega) (by omega) ⟨by omega, by omega⟩ ?_
    intro h4 th4 eh4
    refine sy_st (S' := (mj_m_28, 19, [(0, .ref 3), (1, sy_i a1), (2, sy_i a2)], [.ref 3], h4)) mj_d_28_18 (fun _ _ => rfl) ?_
    refine sy_gr2 (b := 7) mj_d_28_19 rfl rfl (by decide) rfl rfl th4 ?_
    refine sy_st (S' := (mj_m_28, 23, [(0, .ref 3), (1, sy_i a1), (2, sy_i a2)], [.ref 3, .ref 7], h4)) mj_d_28_22 (fun _ _ => rfl) ?_
    refine sy_gf mj_d_28_23 rfl rfl (by decide) rfl th4 ?_
    intro x5 ex5 bx5 tx5
    rw [eh4, sg_na (by decide)] at ex5
    subst ex5
    refine sy_st (S' := (mj_m_28, 27, [(0, .ref 3), (1, sy_i a1), (2, sy_i a2)], [sy_i a2, sy_i (sy_rd h 3 4), .ref 7], h4)) mj_d_28_26 (fun _ _ => rfl) ?_
    refine sg_ias (v := a2) mj_d_28_27 rfl (by decide) (by omega) (by omega) (ab_el_1 rfl _) th4 (by omega) (by omega) ⟨by omega, by omega⟩ ?_
    intro h6 th6 eh6
    rw [eh4] at eh6
    refine sy_st (S' := (mj_m_28, 29, [(0, .ref 3), (1, sy_i a1), (2, sy_i a2)], [.ref 3], h6)) mj_d_28_28 (fun _ _ => rfl) ?_
    refine sy_st (S' := (mj_m_28, 30, [(0, .ref 3), (1, sy_i a1), (2, sy_i a2)], [.ref 3, .ref 3], h6)) mj_d_28_29 (fun _ _ => rfl) ?_
    refine sy_gf mj_d_28_30 rfl rfl (by decide) rfl th6 ?_
    intro x7 ex7 bx7 tx7
    rw [eh6, sg_na (by decide), sg_na (by decide)] at ex7
    subst ex7
    refine sy_st (S' := (mj_m_28, 34, [(0, .ref 3), (1, sy_i a1), (2, sy_i a2)], [sy_i 1, sy_i (sy_rd h 3 4), .ref 3], h6)) mj_d_28_33 (fun _ _ => rfl) ?_
    refine sy_add mj_d_28_34 ?_
    refine sg_pf (z := ((sy_rd h 3 4) + 1)) mj_d_28_35 rfl rfl (by decide) (Or.inl rfl) rfl th6 (by omega) (by omega) ⟨by omega, by omega⟩ ?_
    intro h8 th8 eh8
    rw [eh6] at eh8
    exact sy_retv mj_d_28_38 rfl ⟨rfl, th8, eh8⟩
def dc_Plan_neighbour (s : sg_S) (a1 : Int) : Int := (if (s 8 1) = 1 then (if (a1 + 1) < 0 then (-1) else (if (s 8 3) ≤ (a1 + 1) then (-1) else (a1 + 1))) else (if (s 8 1) = 2 then (if (a1 - 1) < 0 then (-1) else (if (s 8 3) ≤ (a1 - 1) then (-1) else (a1 - 1))) else (-1)))
set_option maxRecDepth 100000 in
theorem dt_Plan_neighbour {h : mj_H} (hH : sy_H h) {a1 : Int} (b_a1 : 0 ≤ a1) (t_a1 : a1 ≤ 8) : sy_wp (mj_m_53, 0, [(0, .ref 8), (1, sy_i a1)], [], h) (dq1 h (-1) (8) (dc_Plan_neighbour (sy_rd h) a1)) := by
  unfold dc_Plan_neighbour
  refine sy_st (S' := (mj_m_53, 1, [(0, .ref 8), (1, sy_i a1)], [.ref 8], h)) mj_d_53_0 (fun _ _ => rfl) ?_
  refine sy_gf mj_d_53_1 rfl rfl (by decide) rfl hH ?_
  rintro _ rfl bx1 tx1
  refine sy_st (S' := (mj_m_53, 5, [(0, .ref 8), (1, sy_i a1)], [sy_i 1, sy_i (sy_rd h 8 1)], h)) mj_d_53_4 (fun _ _ => rfl) ?_
  refine sy_icm mj_d_53_5 rfl ⟨by omega, by omega⟩ ⟨by omega, by omega⟩ (fun (c2 : ¬ ((sy_rd h 8 1) = 1)) => ?_) (fun (c2 : ¬ ¬ ((sy_rd h 8 1) = 1)) => ?_)
  · skip
    rw [if_neg c2]
    refine sy_st (S' := (mj_m_53, 15, [(0, .ref 8), (1, sy_i a1)], [.ref 8], h)) mj_d_53_14 (fun _ _ => rfl) ?_
    refine sy_gf mj_d_53_15 rfl rfl (by decide) rfl hH ?_
    rintro _ rfl bx3 tx3
    refine sy_st (S' := (mj_m_53, 19, [(0, .ref 8), (1, sy_i a1)], [sy_i 2, sy_i (sy_rd h 8 1)], h)) mj_d_53_18 (fun _ _ => rfl) ?_
    refine sy_icm mj_d_53_19 rfl ⟨by omega, by omega⟩ ⟨by omega, by omega⟩ (fun (c4 : ¬ ((sy_rd h 8 1) = 2)) => ?_) (fun (c4 : ¬ ¬ ((sy_rd h 8 1) = 2)) => ?_)
    · skip
      rw [if_neg c4]
      refine sy_st (S' := (mj_m_53, 29, [(0, .ref 8), (1, sy_i a1)], [sy_i (-1)], h)) mj_d_53_28 (fun _ _ => rfl) ?_
      refine sy_st (S' := (mj_m_53, 30, [(2, sy_i (-1)), (0, .ref 8), (1, sy_i a1)], [], h)) mj_d_53_29 (fun _ _ => rfl) ?_
      refine sy_st (S' := (mj_m_53, 31, [(2, sy_i (-1)), (0, .ref 8), (1, sy_i a1)], [sy_i (-1)], h)) mj_d_53_30 (fun _ _ => rfl) ?_
      refine sy_ifc mj_d_53_31 rfl ⟨by omega, by omega⟩ (fun _ => ?_) (fun (q : ¬ (((-1) : Int) < 0)) => absurd (by decide) q)
      refine sy_st (S' := (mj_m_53, 47, [(2, sy_i (-1)), (0, .ref 8), (1, sy_i a1)], [sy_i (-1)], h)) mj_d_53_46 (fun _ _ => rfl) ?_
      exact sy_reti mj_d_53_47 rfl ⟨rfl, rfl, by omega, by omega⟩
    · skip
      rw [if_pos (Decidable.not_not.mp c4)]
      replace c4 := Decidable.not_not.mp c4
      refine sy_st (S' := (mj_m_53, 23, [(0, .ref 8), (1, sy_i a1)], [sy_i a1], h)) mj_d_53_22 (fun _ _ => rfl) ?_
      refine sy_st (S' := (mj_m_53, 24, [(0, .ref 8), (1, sy_i a1)], [sy_i 1, sy_i a1], h)) mj_d_53_23 (fun _ _ => rfl) ?_
      refine sy_sub mj_d_53_24 ?_
      refine sy_st (S' := (mj_m_53, 29, [(0, .ref 8), (1, sy_i a1)], [sy_i (a1 - 1)], h)) mj_d_53_25 (fun _ _ => rfl) ?_
      refine sy_st (S' := (mj_m_53, 30, [(2, sy_i (a1 - 1)), (0, .ref 8), (1, sy_i a1)], [], h)) mj_d_53_29 (fun _ _ => rfl) ?_
      refine sy_st (S' := (mj_m_53, 31, [(2, sy_i (a1 - 1)), (0, .ref 8), (1, sy_i a1)], [sy_i (a1 - 1)], h)) mj_d_53_30 (fun _ _ => rfl) ?_
      refine sy_ifc mj_d_53_31 rfl ⟨by omega, by omega⟩ (fun (c5 : (a1 - 1) < 0) => ?_) (fun (c5 : ¬ ((a1 - 1) < 0)) => ?_)
      · skip
        rw [if_pos c5]
        refine sy_st (S' := (mj_m_53, 47, [(2, sy_i (a1 - 1)), (0, .ref 8), (1, sy_i a1)], [sy_i (-1)], h)) mj_d_53_46 (fun _ _ => rfl) ?_
        exact sy_reti mj_d_53_47 rfl ⟨rfl, rfl, by omega, by omega⟩
      · skip
        rw [if_neg c5]
        refine sy_st (S' := (mj_m_53, 35, [(2, sy_i (a1 - 1)), (0, .ref 8), (1, sy_i a1)], [sy_i (a1 - 1)], h)) mj_d_53_34 (fun _ _ => rfl) ?_
        refine sy_st (S' := (mj_m_53, 36, [(2, sy_i (a1 - 1)), (0, .ref 8), (1, sy_i a1)], [.ref 8, sy_i (a1 - 1)], h)) mj_d_53_35 (fun _ _ => rfl) ?_
        refine sy_gf mj_d_53_36 rfl rfl (by decide) rfl hH ?_
        rintro _ rfl bx6 tx6
        refine sy_icm mj_d_53_39 rfl ⟨by omega, by omega⟩ ⟨by omega, by omega⟩ (fun (c7 : (sy_rd h 8 3) ≤ (a1 - 1)) => ?_) (fun (c7 : ¬ ((sy_rd h 8 3) ≤ (a1 - 1))) => ?_)
        · skip
          rw [if_pos c7]
          refine sy_st (S' := (mj_m_53, 47, [(2, sy_i (a1 - 1)), (0, .ref 8), (1, sy_i a1)], [sy_i (-1)], h)) mj_d_53_46 (fun _ _ => rfl) ?_
          exact sy_reti mj_d_53_47 rfl ⟨rfl, rfl, by omega, by omega⟩
        · skip
          rw [if_neg c7]
          refine sy_st (S' := (mj_m_53, 43, [(2, sy_i (a1 - 1)), (0, .ref 8), (1, sy_i a1)], [sy_i (a1 - 1)], h)) mj_d_53_42 (fun _ _ => rfl) ?_
          refine sy_st (S' := (mj_m_53, 47, [(2, sy_i (a1 - 1)), (0, .ref 8), (1, sy_i a1)], [sy_i (a1 - 1)], h)) mj_d_53_43 (fun _ _ => rfl) ?_
          exact sy_reti mj_d_53_47 rfl ⟨rfl, rfl, by omega, by omega⟩
  · skip
    rw [if_pos (Decidable.not_not.mp c2)]
    replace c2 := Decidable.not_not.mp c2
    refine sy_st (S' := (mj_m_53, 9, [(0, .ref 8), (1, sy_i a1)], [sy_i a1], h)) mj_d_53_8 (fun _ _ => rfl) ?_
    refine sy_st (S' := (mj_m_53, 10, [(0, .ref 8), (1, sy_i a1)], [sy_i 1, sy_i a1], h)) mj_d_53_9 (fun _ _ => rfl) ?_
    refine sy_add mj_d_53_10 ?_
    refine sy_st (S' := (mj_m_53, 29, [(0, .ref 8), (1, sy_i a1)], [sy_i (a1 + 1)], h)) mj_d_53_11 (fun _ _ => rfl) ?_
    refine sy_st (S' := (mj_m_53, 30, [(2, sy_i (a1 + 1)), (0, .ref 8), (1, sy_i a1)], [], h)) mj_d_53_29 (fun _ _ => rfl) ?_
    refine sy_st (S' := (mj_m_53, 31, [(2, sy_i (a1 + 1)), (0, .ref 8), (1, sy_i a1)], [sy_i (a1 + 1)], h)) mj_d_53_30 (fun _ _ => rfl) ?_
    refine sy_ifc mj_d_53_31 rfl ⟨by omega, by omega⟩ (fun (c8 : (a1 + 1) < 0) => ?_) (fun (c8 : ¬ ((a1 + 1) < 0)) => ?_)
    · skip
      rw [if_pos c8]
      refine sy_st (S' := (mj_m_53, 47, [(2, sy_i (a1 + 1)), (0, .ref 8), (1, sy_i a1)], [sy_i (-1)], h)) mj_d_53_46 (fun _ _ => rfl) ?_
      exact sy_reti mj_d_53_47 rfl ⟨rfl, rfl, by omega, by omega⟩
    · skip
      rw [if_neg c8]
      refine sy_st (S' := (mj_m_53, 35, [(2, sy_i (a1 + 1)), (0, .ref 8), (1, sy_i a1)], [sy_i (a1 + 1)], h)) mj_d_53_34 (fun _ _ => rfl) ?_
      refine sy_st (S' := (mj_m_53, 36, [(2, sy_i (a1 + 1)), (0, .ref 8), (1, sy_i a1)], [.ref 8, sy_i (a1 + 1)], h)) mj_d_53_35 (fun _ _ => rfl) ?_
      refine sy_gf mj_d_53_36 rfl rfl (by decide) rfl hH ?_
      rintro _ rfl bx9 tx9
      refine sy_icm mj_d_53_39 rfl ⟨by omega, by omega⟩ ⟨by omega, by omega⟩ (fun (c10 : (sy_rd h 8 3) ≤ (a1 + 1)) => ?_) (fun (c10 : ¬ ((sy_rd h 8 3) ≤ (a1 + 1))) => ?_)
      · skip
        rw [if_pos c10]
        refine sy_st (S' := (mj_m_53, 47, [(2, sy_i (a1 + 1)), (0, .ref 8), (1, sy_i a1)], [sy_i (-1)], h)) mj_d_53_46 (fun _ _ => rfl) ?_
        exact sy_reti mj_d_53_47 rfl ⟨rfl, rfl, by omega, by omega⟩
      · skip
        rw [if_neg c10]
        refine sy_st (S' := (mj_m_53, 43, [(2, sy_i (a1 + 1)), (0, .ref 8), (1, sy_i a1)], [sy_i (a1 + 1)], h)) mj_d_53_42 (fun _ _ => rfl) ?_
        refine sy_st (S' := (mj_m_53, 47, [(2, sy_i (a1 + 1)), (0, .ref 8), (1, sy_i a1)], [sy_i (a1 + 1)], h)) mj_d_53_43 (fun _ _ => rfl) ?_
        exact sy_reti mj_d_53_47 rfl ⟨rfl, rfl, by omega, by omega⟩
