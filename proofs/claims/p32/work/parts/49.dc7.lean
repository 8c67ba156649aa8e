theorem df_first_f (s : sg_S) (a1 : Int) : (dc_Text_readFirst s a1).1 1 4 = 0 → (a1 = 99 → (dc_Text_readFirst s a1).2 ≤ 2) ∧ (a1 = 104 → (dc_Text_readFirst s a1).2 ≤ 9) ∧ (dc_Text_readFirst s a1).2 ≤ 511 := by
  have f1 := df_num_f s 2
  have f2 := df_num_f s 9
  have f3 := df_num_f s 511
  have g := fun (s' : sg_S) => df_fail_f s' 2 (s 1 3)
  have g1 := g (dc_Text_readNumber s 2).1
  have g2 := g (dc_Text_readNumber s 9).1
  have g3 := g (dc_Text_readNumber s 511).1
  unfold dc_Text_readFirst
  (repeat' split) <;> (try dsimp only) <;> omega
theorem df_Text_mayBegin_0 (s : sg_S) (a1 : Int) : dc_Text_mayBegin s a1 = 0 ∨ a1 = 99 ∨ a1 = 104 ∨ a1 = 115 := by
  unfold dc_Text_mayBegin
  (repeat' split) <;> omega
theorem df_C_areTwoSweeps_0 (s : sg_S) (a1 a2 : Int) : dc_C_areTwoSweeps s a1 a2 = 0 ∨ (0 ≤ a1 ∧ a1 < s 8 4 ∧ 0 ≤ a2 ∧ a2 < s 8 4) := by
  have h1 := df_C_isSweep_0 s a1
  have h2 := df_C_isSweep_0 s a2
  unfold dc_C_areTwoSweeps
  (repeat' split) <;> omega
def mj_m_10 : mj_M := (⟨"SootMaps", "feed", "(I)I"⟩, prog_1_method_2_code, 2, (some .int), 9, 1, 1, 1, 21)
def mj_m_12 : mj_M := (⟨"SootMaps", "city", "()I"⟩, prog_1_method_3_code, 1, (some .int), 9, 0, 1, 6, 136)
def mj_m_13 : mj_M := (⟨"SootMaps$Text", "readAll", "()V"⟩, prog_11_method_3_code, 2, none, 8, 0, 1, 5, 115)
def mj_m_17 : mj_M := (⟨"SootMaps$Text", "readClause", "()V"⟩, prog_11_method_7_code, 2, none, 8, 0, 1, 4, 94)
def mj_m_21 : mj_M := (⟨"SootMaps$Text", "readNumbersOf", "(C)V"⟩, prog_11_method_10_code, 4, none, 8, 1, 1, 3, 71)
def mj_m_60 : mj_M := (⟨"SootMaps", "swap", "(IIII)I"⟩, prog_1_method_14_code, 5, (some .int), 9, 4, 1, 3, 68)
def mj_m_64 : mj_M := (⟨"SootMaps", "pay", "(III)I"⟩, prog_1_method_15_code, 5, (some .int), 9, 3, 1, 3, 68)
theorem mj_d_10_0 : decode mj_m_10.2.1 0 = .ok (.iload_n 1, 1) := by decide +kernel
theorem mj_d_10_1 : decode mj_m_10.2.1 1 = .ok (.ifCond .lt 10, 3) := by decide +kernel
theorem mj_d_10_4 : decode mj_m_10.2.1 4 = .ok (.iload_n 1, 1) := by decide +kernel
theorem mj_d_10_5 : decode mj_m_10.2.1 5 = .ok (.sipush 255, 3) := by decide +kernel
theorem mj_d_10_8 : decode mj_m_10.2.1 8 = .ok (.if_icmp .le 6, 3) := by decide +kernel
theorem mj_d_10_11 : decode mj_m_10.2.1 11 = .ok (.ldc 72, 2) := by decide +kernel
theorem mj_d_10_13 : decode mj_m_10.2.1 13 = .ok (.ireturn, 1) := by decide +kernel
theorem mj_d_10_14 : decode mj_m_10.2.1 14 = .ok (.aload_n 0, 1) := by decide +kernel
theorem mj_d_10_15 : decode mj_m_10.2.1 15 = .ok (.getfield 12, 3) := by decide +kernel
theorem mj_d_10_18 : decode mj_m_10.2.1 18 = .ok (.iload_n 1, 1) := by decide +kernel
theorem mj_d_10_19 : decode mj_m_10.2.1 19 = .ok (.i2c, 1) := by decide +kernel
theorem mj_d_10_20 : decode mj_m_10.2.1 20 = .ok (.invokevirtual 73, 3) := by decide +kernel
theorem mj_d_10_23 : decode mj_m_10.2.1 23 = .ok (.ireturn, 1) := by decide +kernel
theorem mj_d_12_0 : decode mj_m_12.2.1 0 = .ok (.aload_n 0, 1) := by decide +kernel
theorem mj_d_12_1 : decode mj_m_12.2.1 1 = .ok (.getfield 12, 3) := by decide +kernel
theorem mj_d_12_4 : decode mj_m_12.2.1 4 = .ok (.invokevirtual 77, 3) := by decide +kernel
theorem mj_d_12_7 : decode mj_m_12.2.1 7 = .ok (.aload_n 0, 1) := by decide +kernel
theorem mj_d_12_8 : decode mj_m_12.2.1 8 = .ok (.getfield 12, 3) := by decide +kernel
theorem mj_d_12_11 : decode mj_m_12.2.1 11 = .ok (.getfield 80, 3) := by decide +kernel
theorem mj_d_12_14 : decode mj_m_12.2.1 14 = .ok (.ifCond .eq 14, 3) := by decide +kernel
theorem mj_d_12_17 : decode mj_m_12.2.1 17 = .ok (.bipush (-10), 2) := by decide +kernel
theorem mj_d_12_19 : decode mj_m_12.2.1 19 = .ok (.aload_n 0, 1) := by decide +kernel
theorem mj_d_12_20 : decode mj_m_12.2.1 20 = .ok (.getfield 12, 3) := by decide +kernel
theorem mj_d_12_23 : decode mj_m_12.2.1 23 = .ok (.getfield 80, 3) := by decide +kernel
theorem mj_d_12_26 : decode mj_m_12.2.1 26 = .ok (.isub, 1) := by decide +kernel
theorem mj_d_12_27 : decode mj_m_12.2.1 27 = .ok (.ireturn, 1) := by decide +kernel
theorem mj_d_12_28 : decode mj_m_12.2.1 28 = .ok (.aload_n 0, 1) := by decide +kernel
theorem mj_d_12_29 : decode mj_m_12.2.1 29 = .ok (.getfield 19, 3) := by decide +kernel
theorem mj_d_12_32 : decode mj_m_12.2.1 32 = .ok (.aload_n 0, 1) := by decide +kernel
theorem mj_d_12_33 : decode mj_m_12.2.1 33 = .ok (.getfield 12, 3) := by decide +kernel
theorem mj_d_12_36 : decode mj_m_12.2.1 36 = .ok (.getfield 84, 3) := by decide +kernel
theorem mj_d_12_39 : decode mj_m_12.2.1 39 = .ok (.invokevirtual 87, 3) := by decide +kernel
theorem mj_d_12_42 : decode mj_m_12.2.1 42 = .ok (.aload_n 0, 1) := by decide +kernel
theorem mj_d_12_43 : decode mj_m_12.2.1 43 = .ok (.getfield 26, 3) := by decide +kernel
theorem mj_d_12_46 : decode mj_m_12.2.1 46 = .ok (.aload_n 0, 1) := by decide +kernel
theorem mj_d_12_47 : decode mj_m_12.2.1 47 = .ok (.getfield 19, 3) := by decide +kernel
theorem mj_d_12_50 : decode mj_m_12.2.1 50 = .ok (.invokevirtual 91, 3) := by decide +kernel
theorem mj_d_12_53 : decode mj_m_12.2.1 53 = .ok (.aload_n 0, 1) := by decide +kernel
theorem mj_d_12_54 : decode mj_m_12.2.1 54 = .ok (.getfield 33, 3) := by decide +kernel
theorem mj_d_12_57 : decode mj_m_12.2.1 57 = .ok (.invokevirtual 94, 3) := by decide +kernel
theorem mj_d_12_60 : decode mj_m_12.2.1 60 = .ok (.aload_n 0, 1) := by decide +kernel
theorem mj_d_12_61 : decode mj_m_12.2.1 61 = .ok (.getfield 40, 3) := by decide +kernel
theorem mj_d_12_64 : decode mj_m_12.2.1 64 = .ok (.invokevirtual 97, 3) := by decide +kernel
theorem mj_d_12_67 : decode mj_m_12.2.1 67 = .ok (.aload_n 0, 1) := by decide +kernel
theorem mj_d_12_68 : decode mj_m_12.2.1 68 = .ok (.getfield 47, 3) := by decide +kernel
theorem mj_d_12_71 : decode mj_m_12.2.1 71 = .ok (.iconst 0, 1) := by decide +kernel
theorem mj_d_12_72 : decode mj_m_12.2.1 72 = .ok (.putfield 98, 3) := by decide +kernel
theorem mj_d_12_75 : decode mj_m_12.2.1 75 = .ok (.aload_n 0, 1) := by decide +kernel
theorem mj_d_12_76 : decode mj_m_12.2.1 76 = .ok (.getfield 54, 3) := by decide +kernel
theorem mj_d_12_79 : decode mj_m_12.2.1 79 = .ok (.iconst 0, 1) := by decide +kernel
theorem mj_d_12_80 : decode mj_m_12.2.1 80 = .ok (.putfield 101, 3) := by decide +kernel
theorem mj_d_12_83 : decode mj_m_12.2.1 83 = .ok (.aload_n 0, 1) := by decide +kernel
theorem mj_d_12_84 : decode mj_m_12.2.1 84 = .ok (.getfield 19, 3) := by decide +kernel
theorem mj_d_12_87 : decode mj_m_12.2.1 87 = .ok (.getfield 102, 3) := by decide +kernel
theorem mj_d_12_90 : decode mj_m_12.2.1 90 = .ok (.ireturn, 1) := by decide +kernel
theorem mj_d_13_0 : decode mj_m_13.2.1 0 = .ok (.aload_n 0, 1) := by decide +kernel
theorem mj_d_13_1 : decode mj_m_13.2.1 1 = .ok (.iconst 0, 1) := by decide +kernel
theorem mj_d_13_2 : decode mj_m_13.2.1 2 = .ok (.putfield 30, 3) := by decide +kernel
theorem mj_d_13_5 : decode mj_m_13.2.1 5 = .ok (.aload_n 0, 1) := by decide +kernel
theorem mj_d_13_6 : decode mj_m_13.2.1 6 = .ok (.iconst 0, 1) := by decide +kernel
theorem mj_d_13_7 : decode mj_m_13.2.1 7 = .ok (.putfield 33, 3) := by decide +kernel
theorem mj_d_13_10 : decode mj_m_13.2.1 10 = .ok (.aload_n 0, 1) := by decide +kernel
theorem mj_d_13_11 : decode mj_m_13.2.1 11 = .ok (.iconst (-1), 1) := by decide +kernel
theorem mj_d_13_12 : decode mj_m_13.2.1 12 = .ok (.putfield 22, 3) := by decide +kernel
theorem mj_d_13_15 : decode mj_m_13.2.1 15 = .ok (.aload_n 0, 1) := by decide +kernel
theorem mj_d_13_16 : decode mj_m_13.2.1 16 = .ok (.getfield 18, 3) := by decide +kernel
theorem mj_d_13_19 : decode mj_m_13.2.1 19 = .ok (.invokevirtual 36, 3) := by decide +kernel
theorem mj_d_13_22 : decode mj_m_13.2.1 22 = .ok (.iconst 0, 1) := by decide +kernel
theorem mj_d_13_23 : decode mj_m_13.2.1 23 = .ok (.istore_n 1, 1) := by decide +kernel
theorem mj_d_13_24 : decode mj_m_13.2.1 24 = .ok (.iload_n 1, 1) := by decide +kernel
theorem mj_d_13_25 : decode mj_m_13.2.1 25 = .ok (.sipush 240, 3) := by decide +kernel
theorem mj_d_13_28 : decode mj_m_13.2.1 28 = .ok (.if_icmp .ge 38, 3) := by decide +kernel
theorem mj_d_13_31 : decode mj_m_13.2.1 31 = .ok (.aload_n 0, 1) := by decide +kernel
theorem mj_d_13_32 : decode mj_m_13.2.1 32 = .ok (.getfield 33, 3) := by decide +kernel
theorem mj_d_13_35 : decode mj_m_13.2.1 35 = .ok (.ifCond .ne 31, 3) := by decide +kernel
theorem mj_d_13_38 : decode mj_m_13.2.1 38 = .ok (.aload_n 0, 1) := by decide +kernel
theorem mj_d_13_39 : decode mj_m_13.2.1 39 = .ok (.invokevirtual 39, 3) := by decide +kernel
theorem mj_d_13_42 : decode mj_m_13.2.1 42 = .ok (.aload_n 0, 1) := by decide +kernel
theorem mj_d_13_43 : decode mj_m_13.2.1 43 = .ok (.getfield 30, 3) := by decide +kernel
theorem mj_d_13_46 : decode mj_m_13.2.1 46 = .ok (.aload_n 0, 1) := by decide +kernel
theorem mj_d_13_47 : decode mj_m_13.2.1 47 = .ok (.getfield 26, 3) := by decide +kernel
theorem mj_d_13_50 : decode mj_m_13.2.1 50 = .ok (.if_icmp .lt 6, 3) := by decide +kernel
theorem mj_d_13_53 : decode mj_m_13.2.1 53 = .ok (.goto 13, 3) := by decide +kernel
theorem mj_d_13_56 : decode mj_m_13.2.1 56 = .ok (.aload_n 0, 1) := by decide +kernel
theorem mj_d_13_57 : decode mj_m_13.2.1 57 = .ok (.invokevirtual 42, 3) := by decide +kernel
theorem mj_d_13_60 : decode mj_m_13.2.1 60 = .ok (.iinc 1 1, 3) := by decide +kernel
theorem mj_d_13_63 : decode mj_m_13.2.1 63 = .ok (.goto (-39), 3) := by decide +kernel
theorem mj_d_13_66 : decode mj_m_13.2.1 66 = .ok (.aload_n 0, 1) := by decide +kernel
theorem mj_d_13_67 : decode mj_m_13.2.1 67 = .ok (.iconst 0, 1) := by decide +kernel
theorem mj_d_13_68 : decode mj_m_13.2.1 68 = .ok (.putfield 26, 3) := by decide +kernel
theorem mj_d_13_71 : decode mj_m_13.2.1 71 = .ok (.return_, 1) := by decide +kernel
theorem mj_d_17_0 : decode mj_m_17.2.1 0 = .ok (.aload_n 0, 1) := by decide +kernel
theorem mj_d_17_1 : decode mj_m_17.2.1 1 = .ok (.invokevirtual 45, 3) := by decide +kernel
theorem mj_d_17_4 : decode mj_m_17.2.1 4 = .ok (.istore_n 1, 1) := by decide +kernel
theorem mj_d_17_5 : decode mj_m_17.2.1 5 = .ok (.aload_n 0, 1) := by decide +kernel
theorem mj_d_17_6 : decode mj_m_17.2.1 6 = .ok (.iload_n 1, 1) := by decide +kernel
theorem mj_d_17_7 : decode mj_m_17.2.1 7 = .ok (.invokevirtual 49, 3) := by decide +kernel
theorem mj_d_17_10 : decode mj_m_17.2.1 10 = .ok (.ifCond .ne 15, 3) := by decide +kernel
theorem mj_d_17_13 : decode mj_m_17.2.1 13 = .ok (.aload_n 0, 1) := by decide +kernel
theorem mj_d_17_14 : decode mj_m_17.2.1 14 = .ok (.iconst 1, 1) := by decide +kernel
theorem mj_d_17_15 : decode mj_m_17.2.1 15 = .ok (.aload_n 0, 1) := by decide +kernel
theorem mj_d_17_16 : decode mj_m_17.2.1 16 = .ok (.getfield 30, 3) := by decide +kernel
theorem mj_d_17_19 : decode mj_m_17.2.1 19 = .ok (.invokevirtual 53, 3) := by decide +kernel
theorem mj_d_17_22 : decode mj_m_17.2.1 22 = .ok (.goto 38, 3) := by decide +kernel
theorem mj_d_17_25 : decode mj_m_17.2.1 25 = .ok (.aload_n 0, 1) := by decide +kernel
theorem mj_d_17_26 : decode mj_m_17.2.1 26 = .ok (.iload_n 1, 1) := by decide +kernel
theorem mj_d_17_27 : decode mj_m_17.2.1 27 = .ok (.invokevirtual 57, 3) := by decide +kernel
theorem mj_d_17_30 : decode mj_m_17.2.1 30 = .ok (.ifCond .eq 15, 3) := by decide +kernel
theorem mj_d_17_33 : decode mj_m_17.2.1 33 = .ok (.aload_n 0, 1) := by decide +kernel
theorem mj_d_17_34 : decode mj_m_17.2.1 34 = .ok (.iconst 3, 1) := by decide +kernel
theorem mj_d_17_35 : decode mj_m_17.2.1 35 = .ok (.aload_n 0, 1) := by decide +kernel
theorem mj_d_17_36 : decode mj_m_17.2.1 36 = .ok (.getfield 30, 3) := by decide +kernel
theorem mj_d_17_39 : decode mj_m_17.2.1 39 = .ok (.invokevirtual 53, 3) := by decide +kernel
theorem mj_d_17_42 : decode mj_m_17.2.1 42 = .ok (.goto 18, 3) := by decide +kernel
theorem mj_d_17_45 : decode mj_m_17.2.1 45 = .ok (.aload_n 0, 1) := by decide +kernel
theorem mj_d_17_46 : decode mj_m_17.2.1 46 = .ok (.dup, 1) := by decide +kernel
theorem mj_d_17_47 : decode mj_m_17.2.1 47 = .ok (.getfield 30, 3) := by decide +kernel
theorem mj_d_17_50 : decode mj_m_17.2.1 50 = .ok (.iconst 1, 1) := by decide +kernel
theorem mj_d_17_51 : decode mj_m_17.2.1 51 = .ok (.iadd, 1) := by decide +kernel
theorem mj_d_17_52 : decode mj_m_17.2.1 52 = .ok (.putfield 30, 3) := by decide +kernel
theorem mj_d_17_55 : decode mj_m_17.2.1 55 = .ok (.aload_n 0, 1) := by decide +kernel
theorem mj_d_17_56 : decode mj_m_17.2.1 56 = .ok (.iload_n 1, 1) := by decide +kernel
theorem mj_d_17_57 : decode mj_m_17.2.1 57 = .ok (.invokevirtual 60, 3) := by decide +kernel
theorem mj_d_17_60 : decode mj_m_17.2.1 60 = .ok (.return_, 1) := by decide +kernel
theorem mj_d_21_0 : decode mj_m_21.2.1 0 = .ok (.aload_n 0, 1) := by decide +kernel
theorem mj_d_21_1 : decode mj_m_21.2.1 1 = .ok (.invokevirtual 39, 3) := by decide +kernel
theorem mj_d_21_4 : decode mj_m_21.2.1 4 = .ok (.aload_n 0, 1) := by decide +kernel
theorem mj_d_21_5 : decode mj_m_21.2.1 5 = .ok (.iload_n 1, 1) := by decide +kernel
theorem mj_d_21_6 : decode mj_m_21.2.1 6 = .ok (.invokevirtual 74, 3) := by decide +kernel
theorem mj_d_21_9 : decode mj_m_21.2.1 9 = .ok (.istore_n 2, 1) := by decide +kernel
theorem mj_d_21_10 : decode mj_m_21.2.1 10 = .ok (.aload_n 0, 1) := by decide +kernel
theorem mj_d_21_11 : decode mj_m_21.2.1 11 = .ok (.invokevirtual 39, 3) := by decide +kernel
theorem mj_d_21_14 : decode mj_m_21.2.1 14 = .ok (.aload_n 0, 1) := by decide +kernel
theorem mj_d_21_15 : decode mj_m_21.2.1 15 = .ok (.getfield 33, 3) := by decide +kernel
theorem mj_d_21_18 : decode mj_m_21.2.1 18 = .ok (.ifCond .eq 7, 3) := by decide +kernel
theorem mj_d_21_21 : decode mj_m_21.2.1 21 = .ok (.iconst 0, 1) := by decide +kernel
theorem mj_d_21_22 : decode mj_m_21.2.1 22 = .ok (.goto 30, 3) := by decide +kernel
theorem mj_d_21_25 : decode mj_m_21.2.1 25 = .ok (.aload_n 0, 1) := by decide +kernel
theorem mj_d_21_26 : decode mj_m_21.2.1 26 = .ok (.iload_n 1, 1) := by decide +kernel
theorem mj_d_21_27 : decode mj_m_21.2.1 27 = .ok (.bipush 99, 2) := by decide +kernel
theorem mj_d_21_29 : decode mj_m_21.2.1 29 = .ok (.if_icmp .ne 7, 3) := by decide +kernel
theorem mj_d_21_32 : decode mj_m_21.2.1 32 = .ok (.iconst 4, 1) := by decide +kernel
theorem mj_d_21_33 : decode mj_m_21.2.1 33 = .ok (.goto 16, 3) := by decide +kernel
theorem mj_d_21_36 : decode mj_m_21.2.1 36 = .ok (.iload_n 1, 1) := by decide +kernel
theorem mj_d_21_37 : decode mj_m_21.2.1 37 = .ok (.bipush 104, 2) := by decide +kernel
theorem mj_d_21_39 : decode mj_m_21.2.1 39 = .ok (.if_icmp .ne 8, 3) := by decide +kernel
theorem mj_d_21_42 : decode mj_m_21.2.1 42 = .ok (.bipush 7, 2) := by decide +kernel
theorem mj_d_21_44 : decode mj_m_21.2.1 44 = .ok (.goto 5, 3) := by decide +kernel
theorem mj_d_21_47 : decode mj_m_21.2.1 47 = .ok (.bipush 99, 2) := by decide +kernel
theorem mj_d_21_49 : decode mj_m_21.2.1 49 = .ok (.invokevirtual 78, 3) := by decide +kernel
theorem mj_d_21_52 : decode mj_m_21.2.1 52 = .ok (.istore_n 3, 1) := by decide +kernel
theorem mj_d_21_53 : decode mj_m_21.2.1 53 = .ok (.aload_n 0, 1) := by decide +kernel
theorem mj_d_21_54 : decode mj_m_21.2.1 54 = .ok (.getfield 33, 3) := by decide +kernel
theorem mj_d_21_57 : decode mj_m_21.2.1 57 = .ok (.ifCond .ne 7, 3) := by decide +kernel
theorem mj_d_21_60 : decode mj_m_21.2.1 60 = .ok (.aload_n 0, 1) := by decide +kernel
theorem mj_d_21_61 : decode mj_m_21.2.1 61 = .ok (.invokevirtual 82, 3) := by decide +kernel
theorem mj_d_21_64 : decode mj_m_21.2.1 64 = .ok (.aload_n 0, 1) := by decide +kernel
theorem mj_d_21_65 : decode mj_m_21.2.1 65 = .ok (.getfield 33, 3) := by decide +kernel
theorem mj_d_21_68 : decode mj_m_21.2.1 68 = .ok (.ifCond .eq 4, 3) := by decide +kernel
theorem mj_d_21_71 : decode mj_m_21.2.1 71 = .ok (.return_, 1) := by decide +kernel
theorem mj_d_21_72 : decode mj_m_21.2.1 72 = .ok (.iload_n 1, 1) := by decide +kernel
theorem mj_d_21_73 : decode mj_m_21.2.1 73 = .ok (.bipush 99, 2) := by decide +kernel
theorem mj_d_21_75 : decode mj_m_21.2.1 75 = .ok (.if_icmp .ne 15, 3) := by decide +kernel
theorem mj_d_21_78 : decode mj_m_21.2.1 78 = .ok (.aload_n 0, 1) := by decide +kernel
theorem mj_d_21_79 : decode mj_m_21.2.1 79 = .ok (.getfield 18, 3) := by decide +kernel
theorem mj_d_21_82 : decode mj_m_21.2.1 82 = .ok (.iload_n 2, 1) := by decide +kernel
theorem mj_d_21_83 : decode mj_m_21.2.1 83 = .ok (.iload_n 3, 1) := by decide +kernel
theorem mj_d_21_84 : decode mj_m_21.2.1 84 = .ok (.invokevirtual 85, 3) := by decide +kernel
theorem mj_d_21_87 : decode mj_m_21.2.1 87 = .ok (.goto 30, 3) := by decide +kernel
theorem mj_d_21_90 : decode mj_m_21.2.1 90 = .ok (.iload_n 1, 1) := by decide +kernel
theorem mj_d_21_91 : decode mj_m_21.2.1 91 = .ok (.bipush 104, 2) := by decide +kernel
theorem mj_d_21_93 : decode mj_m_21.2.1 93 = .ok (.if_icmp .ne 15, 3) := by decide +kernel
theorem mj_d_21_96 : decode mj_m_21.2.1 96 = .ok (.aload_n 0, 1) := by decide +kernel
theorem mj_d_21_97 : decode mj_m_21.2.1 97 = .ok (.getfield 18, 3) := by decide +kernel
theorem mj_d_21_100 : decode mj_m_21.2.1 100 = .ok (.iload_n 2, 1) := by decide +kernel
theorem mj_d_21_101 : decode mj_m_21.2.1 101 = .ok (.iload_n 3, 1) := by decide +kernel
theorem mj_d_21_102 : decode mj_m_21.2.1 102 = .ok (.invokevirtual 88, 3) := by decide +kernel
theorem mj_d_21_105 : decode mj_m_21.2.1 105 = .ok (.goto 12, 3) := by decide +kernel
theorem mj_d_21_108 : decode mj_m_21.2.1 108 = .ok (.aload_n 0, 1) := by decide +kernel
theorem mj_d_21_109 : decode mj_m_21.2.1 109 = .ok (.getfield 18, 3) := by decide +kernel
theorem mj_d_21_112 : decode mj_m_21.2.1 112 = .ok (.iload_n 2, 1) := by decide +kernel
theorem mj_d_21_113 : decode mj_m_21.2.1 113 = .ok (.iload_n 3, 1) := by decide +kernel
theorem mj_d_21_114 : decode mj_m_21.2.1 114 = .ok (.invokevirtual 91, 3) := by decide +kernel
theorem mj_d_21_117 : decode mj_m_21.2.1 117 = .ok (.return_, 1) := by decide +kernel
theorem mj_d_60_0 : decode mj_m_60.2.1 0 = .ok (.aload_n 0, 1) := by decide +kernel
theorem mj_d_60_1 : decode mj_m_60.2.1 1 = .ok (.iload_n 1, 1) := by decide +kernel
theorem mj_d_60_2 : decode mj_m_60.2.1 2 = .ok (.iload_n 3, 1) := by decide +kernel
theorem mj_d_60_3 : decode mj_m_60.2.1 3 = .ok (.invokevirtual 190, 3) := by decide +kernel
theorem mj_d_60_6 : decode mj_m_60.2.1 6 = .ok (.ifCond .eq 26, 3) := by decide +kernel
theorem mj_d_60_9 : decode mj_m_60.2.1 9 = .ok (.aload_n 0, 1) := by decide +kernel
theorem mj_d_60_10 : decode mj_m_60.2.1 10 = .ok (.iload_n 2, 1) := by decide +kernel
theorem mj_d_60_11 : decode mj_m_60.2.1 11 = .ok (.invokevirtual 135, 3) := by decide +kernel
theorem mj_d_60_14 : decode mj_m_60.2.1 14 = .ok (.ifCond .eq 18, 3) := by decide +kernel
theorem mj_d_60_17 : decode mj_m_60.2.1 17 = .ok (.aload_n 0, 1) := by decide +kernel
theorem mj_d_60_18 : decode mj_m_60.2.1 18 = .ok (.iload 4, 2) := by decide +kernel
theorem mj_d_60_20 : decode mj_m_60.2.1 20 = .ok (.invokevirtual 135, 3) := by decide +kernel
theorem mj_d_60_23 : decode mj_m_60.2.1 23 = .ok (.ifCond .eq 9, 3) := by decide +kernel
theorem mj_d_60_26 : decode mj_m_60.2.1 26 = .ok (.iload_n 2, 1) := by decide +kernel
theorem mj_d_60_27 : decode mj_m_60.2.1 27 = .ok (.iload 4, 2) := by decide +kernel
theorem mj_d_60_29 : decode mj_m_60.2.1 29 = .ok (.if_icmp .ne 6, 3) := by decide +kernel
theorem mj_d_60_32 : decode mj_m_60.2.1 32 = .ok (.ldc 139, 2) := by decide +kernel
theorem mj_d_60_34 : decode mj_m_60.2.1 34 = .ok (.ireturn, 1) := by decide +kernel
theorem mj_d_60_35 : decode mj_m_60.2.1 35 = .ok (.aload_n 0, 1) := by decide +kernel
theorem mj_d_60_36 : decode mj_m_60.2.1 36 = .ok (.getfield 26, 3) := by decide +kernel
theorem mj_d_60_39 : decode mj_m_60.2.1 39 = .ok (.iload_n 1, 1) := by decide +kernel
theorem mj_d_60_40 : decode mj_m_60.2.1 40 = .ok (.iload_n 3, 1) := by decide +kernel
theorem mj_d_60_41 : decode mj_m_60.2.1 41 = .ok (.iload_n 2, 1) := by decide +kernel
theorem mj_d_60_42 : decode mj_m_60.2.1 42 = .ok (.invokevirtual 194, 3) := by decide +kernel
theorem mj_d_60_45 : decode mj_m_60.2.1 45 = .ok (.ifCond .eq 17, 3) := by decide +kernel
theorem mj_d_60_48 : decode mj_m_60.2.1 48 = .ok (.aload_n 0, 1) := by decide +kernel
theorem mj_d_60_49 : decode mj_m_60.2.1 49 = .ok (.getfield 26, 3) := by decide +kernel
theorem mj_d_60_52 : decode mj_m_60.2.1 52 = .ok (.iload_n 3, 1) := by decide +kernel
theorem mj_d_60_53 : decode mj_m_60.2.1 53 = .ok (.iload_n 1, 1) := by decide +kernel
theorem mj_d_60_54 : decode mj_m_60.2.1 54 = .ok (.iload 4, 2) := by decide +kernel
theorem mj_d_60_56 : decode mj_m_60.2.1 56 = .ok (.invokevirtual 194, 3) := by decide +kernel
theorem mj_d_60_59 : decode mj_m_60.2.1 59 = .ok (.ifCond .ne 6, 3) := by decide +kernel
theorem mj_d_60_62 : decode mj_m_60.2.1 62 = .ok (.ldc 186, 2) := by decide +kernel
theorem mj_d_60_64 : decode mj_m_60.2.1 64 = .ok (.ireturn, 1) := by decide +kernel
theorem mj_d_60_65 : decode mj_m_60.2.1 65 = .ok (.aload_n 0, 1) := by decide +kernel
theorem mj_d_60_66 : decode mj_m_60.2.1 66 = .ok (.getfield 33, 3) := by decide +kernel
theorem mj_d_60_69 : decode mj_m_60.2.1 69 = .ok (.aload_n 0, 1) := by decide +kernel
theorem mj_d_60_70 : decode mj_m_60.2.1 70 = .ok (.getfield 26, 3) := by decide +kernel
theorem mj_d_60_73 : decode mj_m_60.2.1 73 = .ok (.invokevirtual 179, 3) := by decide +kernel
theorem mj_d_60_76 : decode mj_m_60.2.1 76 = .ok (.aload_n 0, 1) := by decide +kernel
theorem mj_d_60_77 : decode mj_m_60.2.1 77 = .ok (.getfield 26, 3) := by decide +kernel
theorem mj_d_60_80 : decode mj_m_60.2.1 80 = .ok (.iload_n 3, 1) := by decide +kernel
theorem mj_d_60_81 : decode mj_m_60.2.1 81 = .ok (.iload_n 2, 1) := by decide +kernel
theorem mj_d_60_82 : decode mj_m_60.2.1 82 = .ok (.invokevirtual 198, 3) := by decide +kernel
theorem mj_d_60_85 : decode mj_m_60.2.1 85 = .ok (.aload_n 0, 1) := by decide +kernel
theorem mj_d_60_86 : decode mj_m_60.2.1 86 = .ok (.getfield 26, 3) := by decide +kernel
theorem mj_d_60_89 : decode mj_m_60.2.1 89 = .ok (.iload_n 1, 1) := by decide +kernel
theorem mj_d_60_90 : decode mj_m_60.2.1 90 = .ok (.iload 4, 2) := by decide +kernel
theorem mj_d_60_92 : decode mj_m_60.2.1 92 = .ok (.invokevirtual 198, 3) := by decide +kernel
theorem mj_d_60_95 : decode mj_m_60.2.1 95 = .ok (.aload_n 0, 1) := by decide +kernel
theorem mj_d_60_96 : decode mj_m_60.2.1 96 = .ok (.getfield 26, 3) := by decide +kernel
theorem mj_d_60_99 : decode mj_m_60.2.1 99 = .ok (.getfield 166, 3) := by decide +kernel
theorem mj_d_60_102 : decode mj_m_60.2.1 102 = .ok (.iload_n 1, 1) := by decide +kernel
theorem mj_d_60_103 : decode mj_m_60.2.1 103 = .ok (.iaload, 1) := by decide +kernel
theorem mj_d_60_104 : decode mj_m_60.2.1 104 = .ok (.ireturn, 1) := by decide +kernel
theorem mj_d_64_0 : decode mj_m_64.2.1 0 = .ok (.aload_n 0, 1) := by decide +kernel
theorem mj_d_64_1 : decode mj_m_64.2.1 1 = .ok (.iload_n 1, 1) := by decide +kernel
theorem mj_d_64_2 : decode mj_m_64.2.1 2 = .ok (.iload_n 2, 1) := by decide +kernel
theorem mj_d_64_3 : decode mj_m_64.2.1 3 = .ok (.invokevirtual 190, 3) := by decide +kernel
theorem mj_d_64_6 : decode mj_m_64.2.1 6 = .ok (.ifCond .eq 11, 3) := by decide +kernel
theorem mj_d_64_9 : decode mj_m_64.2.1 9 = .ok (.aload_n 0, 1) := by decide +kernel
theorem mj_d_64_10 : decode mj_m_64.2.1 10 = .ok (.iload_n 3, 1) := by decide +kernel
theorem mj_d_64_11 : decode mj_m_64.2.1 11 = .ok (.invokevirtual 135, 3) := by decide +kernel
theorem mj_d_64_14 : decode mj_m_64.2.1 14 = .ok (.ifCond .ne 6, 3) := by decide +kernel
theorem mj_d_64_17 : decode mj_m_64.2.1 17 = .ok (.ldc 139, 2) := by decide +kernel
theorem mj_d_64_19 : decode mj_m_64.2.1 19 = .ok (.ireturn, 1) := by decide +kernel
theorem mj_d_64_20 : decode mj_m_64.2.1 20 = .ok (.aload_n 0, 1) := by decide +kernel
theorem mj_d_64_21 : decode mj_m_64.2.1 21 = .ok (.getfield 26, 3) := by decide +kernel
theorem mj_d_64_24 : decode mj_m_64.2.1 24 = .ok (.iload_n 2, 1) := by decide +kernel
theorem mj_d_64_25 : decode mj_m_64.2.1 25 = .ok (.iload_n 1, 1) := by decide +kernel
theorem mj_d_64_26 : decode mj_m_64.2.1 26 = .ok (.iload_n 3, 1) := by decide +kernel
theorem mj_d_64_27 : decode mj_m_64.2.1 27 = .ok (.invokevirtual 194, 3) := by decide +kernel
theorem mj_d_64_30 : decode mj_m_64.2.1 30 = .ok (.ifCond .ne 6, 3) := by decide +kernel
theorem mj_d_64_33 : decode mj_m_64.2.1 33 = .ok (.ldc 186, 2) := by decide +kernel
theorem mj_d_64_35 : decode mj_m_64.2.1 35 = .ok (.ireturn, 1) := by decide +kernel
theorem mj_d_64_36 : decode mj_m_64.2.1 36 = .ok (.aload_n 0, 1) := by decide +kernel
theorem mj_d_64_37 : decode mj_m_64.2.1 37 = .ok (.getfield 33, 3) := by decide +kernel
theorem mj_d_64_40 : decode mj_m_64.2.1 40 = .ok (.aload_n 0, 1) := by decide +kernel
theorem mj_d_64_41 : decode mj_m_64.2.1 41 = .ok (.getfield 26, 3) := by decide +kernel
theorem mj_d_64_44 : decode mj_m_64.2.1 44 = .ok (.invokevirtual 179, 3) := by decide +kernel
theorem mj_d_64_47 : decode mj_m_64.2.1 47 = .ok (.aload_n 0, 1) := by decide +kernel
theorem mj_d_64_48 : decode mj_m_64.2.1 48 = .ok (.getfield 19, 3) := by decide +kernel
theorem mj_d_64_51 : decode mj_m_64.2.1 51 = .ok (.getfield 169, 3) := by decide +kernel
theorem mj_d_64_54 : decode mj_m_64.2.1 54 = .ok (.iload_n 2, 1) := by decide +kernel
theorem mj_d_64_55 : decode mj_m_64.2.1 55 = .ok (.iaload, 1) := by decide +kernel
theorem mj_d_64_56 : decode mj_m_64.2.1 56 = .ok (.istore 4, 2) := by decide +kernel
theorem mj_d_64_58 : decode mj_m_64.2.1 58 = .ok (.aload_n 0, 1) := by decide +kernel
theorem mj_d_64_59 : decode mj_m_64.2.1 59 = .ok (.getfield 26, 3) := by decide +kernel
theorem mj_d_64_62 : decode mj_m_64.2.1 62 = .ok (.iload_n 1, 1) := by decide +kernel
theorem mj_d_64_63 : decode mj_m_64.2.1 63 = .ok (.iload_n 3, 1) := by decide +kernel
theorem mj_d_64_64 : decode mj_m_64.2.1 64 = .ok (.invokevirtual 198, 3) := by decide +kernel
theorem mj_d_64_67 : decode mj_m_64.2.1 67 = .ok (.aload_n 0, 1) := by decide +kernel
theorem mj_d_64_68 : decode mj_m_64.2.1 68 = .ok (.getfield 26, 3) := by decide +kernel
theorem mj_d_64_71 : decode mj_m_64.2.1 71 = .ok (.getfield 172, 3) := by decide +kernel
theorem mj_d_64_74 : decode mj_m_64.2.1 74 = .ok (.iload_n 1, 1) := by decide +kernel
theorem mj_d_64_75 : decode mj_m_64.2.1 75 = .ok (.dup2, 1) := by decide +kernel
theorem mj_d_64_76 : decode mj_m_64.2.1 76 = .ok (.iaload, 1) := by decide +kernel
theorem mj_d_64_77 : decode mj_m_64.2.1 77 = .ok (.iload 4, 2) := by decide +kernel
theorem mj_d_64_79 : decode mj_m_64.2.1 79 = .ok (.isub, 1) := by decide +kernel
theorem mj_d_64_80 : decode mj_m_64.2.1 80 = .ok (.iastore, 1) := by decide +kernel
theorem mj_d_64_81 : decode mj_m_64.2.1 81 = .ok (.aload_n 0, 1) := by decide +kernel
theorem mj_d_64_82 : decode mj_m_64.2.1 82 = .ok (.getfield 26, 3) := by decide +kernel
theorem mj_d_64_85 : decode mj_m_64.2.1 85 = .ok (.getfield 172, 3) := by decide +kernel
theorem mj_d_64_88 : decode mj_m_64.2.1 88 = .ok (.iload_n 2, 1) := by decide +kernel
theorem mj_d_64_89 : decode mj_m_64.2.1 89 = .ok (.dup2, 1) := by decide +kernel
theorem mj_d_64_90 : decode mj_m_64.2.1 90 = .ok (.iaload, 1) := by decide +kernel
theorem mj_d_64_91 : decode mj_m_64.2.1 91 = .ok (.iload 4, 2) := by decide +kernel
theorem mj_d_64_93 : decode mj_m_64.2.1 93 = .ok (.iadd, 1) := by decide +kernel
theorem mj_d_64_94 : decode mj_m_64.2.1 94 = .ok (.iastore, 1) := by decide +kernel
theorem mj_d_64_95 : decode mj_m_64.2.1 95 = .ok (.aload_n 0, 1) := by decide +kernel
theorem mj_d_64_96 : decode mj_m_64.2.1 96 = .ok (.getfield 26, 3) := by decide +kernel
theorem mj_d_64_99 : decode mj_m_64.2.1 99 = .ok (.dup, 1) := by decide +kernel
theorem mj_d_64_100 : decode mj_m_64.2.1 100 = .ok (.getfield 131, 3) := by decide +kernel
theorem mj_d_64_103 : decode mj_m_64.2.1 103 = .ok (.iload 4, 2) := by decide +kernel
theorem mj_d_64_105 : decode mj_m_64.2.1 105 = .ok (.iadd, 1) := by decide +kernel
theorem mj_d_64_106 : decode mj_m_64.2.1 106 = .ok (.putfield 131, 3) := by decide +kernel
theorem mj_d_64_109 : decode mj_m_64.2.1 109 = .ok (.iload 4, 2) := by decide +kernel
theorem mj_d_64_111 : decode mj_m_64.2.1 111 = .ok (.ireturn, 1) := by decide +kernel
def dc_Text_readNumbersOf (s : sg_S) (a1 : Int) : sg_S := (if ((dc_Text_skipBlanks (dc_Text_readFirst (dc_Text_skipBlanks s) a1).1) 1 4) = 0 then (if a1 = 99 then (if ((dc_Text_readNumber (dc_Text_skipBlanks (dc_Text_readFirst (dc_Text_skipBlanks s) a1).1) 4).1 1 4) = 0 then (if ((dc_Text_readEnd (dc_Text_readNumber (dc_Text_skipBlanks (dc_Text_readFirst (dc_Text_skipBlanks s) a1).1) 4).1) 1 4) = 0 then (if a1 = 99 then (dc_Plan_tellCity (dc_Text_readEnd (dc_Text_readNumber (dc_Text_skipBlanks (dc_Text_readFirst (dc_Text_skipBlanks s) a1).1) 4).1) ((dc_Text_readFirst (dc_Text_skipBlanks s) a1).2) ((dc_Text_readNumber (dc_Text_skipBlanks (dc_Text_readFirst (dc_Text_skipBlanks s) a1).1) 4).2)) else (if a1 = 104 then (dc_Plan_tellHouse (dc_Text_readEnd (dc_Text_readNumber (dc_Text_skipBlanks (dc_Text_readFirst (dc_Text_skipBlanks s) a1).1) 4).1) ((dc_Text_readFirst (dc_Text_skipBlanks s) a1).2) ((dc_Text_readNumber (dc_Text_skipBlanks (dc_Text_readFirst (dc_Text_skipBlanks s) a1).1) 4).2)) else (dc_Plan_tellSweep (dc_Text_readEnd (dc_Text_readNumber (dc_Text_skipBlanks (dc_Text_readFirst (dc_Text_skipBlanks s) a1).1) 4).1) ((dc_Text_readFirst (dc_Text_skipBlanks s) a1).2) ((dc_Text_readNumber (dc_Text_skipBlanks (dc_Text_readFirst (dc_Text_skipBlanks s) a1).1) 4).2)))) else (dc_Text_readEnd (dc_Text_readNumber (dc_Text_skipBlanks (dc_Text_readFirst (dc_Text_skipBlanks s) a1).1) 4).1)) else (if ((dc_Text_readNumber (dc_Text_skipBlanks (dc_Text_readFirst (dc_Text_skipBlanks s) a1).1) 4).1 1 4) = 0 then (if a1 = 99 then (dc_Plan_tellCity (dc_Text_readNumber (dc_Text_skipBlanks (dc_Text_readFirst (dc_Text_skipBlanks s) a1).1) 4).1 ((dc_Text_readFirst (dc_Text_skipBlanks s) a1).2) ((dc_Text_readNumber (dc_Text_skipBlanks (dc_Text_readFirst (dc_Text_skipBlanks s) a1).1) 4).2)) else (if a1 = 104 then (dc_Plan_tellHouse (dc_Text_readNumber (dc_Text_skipBlanks (dc_Text_readFirst (dc_Text_skipBlanks s) a1).1) 4).1 ((dc_Text_readFirst (dc_Text_skipBlanks s) a1).2) ((dc_Text_readNumber (dc_Text_skipBlanks (dc_Text_readFirst (dc_Text_skipBlanks s) a1).1) 4).2)) else (dc_Plan_tellSweep (dc_Text_readNumber (dc_Text_skipBlanks (dc_Text_readFirst (dc_Text_skipBlanks s) a1).1) 4).1 ((dc_Text_readFirst (dc_Text_skipBlanks s) a1).2) ((dc_Text_readNumber (dc_Text_skipBlanks (dc_Text_readFirst (dc_Text_skipBlanks s) a1).1) 4).2)))) else (dc_Text_readNumber (dc_Text_skipBlanks (dc_Text_readFirst (dc_Text_skipBlanks s) a1).1) 4).1)) else (if a1 = 104 then (if ((dc_Text_readNumber (dc_Text_skipBlanks (dc_Text_readFirst (dc_Text_skipBlanks s) a1).1) 7).1 1 4) = 0 then (if ((dc_Text_readEnd (dc_Text_readNumber (dc_Text_skipBlanks (dc_Text_readFirst (dc_Text_skipBlanks s) a1).1) 7).1) 1 4) = 0 then (if a1 = 99 then (dc_Plan_tellCity (dc_Text_readEnd (dc_Text_readNumber (dc_Text_skipBlanks (dc_Text_readFirst (dc_Text_skipBlanks s) a1).1) 7).1) ((dc_Text_readFirst (dc_Text_skipBlanks s) a1).2) ((dc_Text_readNumber (dc_Text_skipBlanks (dc_Text_readFirst (dc_Text_skipBlanks s) a1).1) 7).2)) else (if a1 = 104 then (dc_Plan_tellHouse (dc_Text_readEnd (dc_Text_readNumber (dc_Text_skipBlanks (dc_Text_readFirst (dc_Text_skipBlanks s) a1).1) 7).1) ((dc_Text_readFirst (dc_Text_skipBlanks s) a1).2) ((dc_Text_readNumber (dc_Text_skipBlanks (dc_Text_readFirst (dc_Text_skipBlanks s) a1).1) 7).2)) else (dc_Plan_tellSweep (dc_Text_readEnd (dc_Text_readNumber (dc_Text_skipBlanks (dc_Text_readFirst (dc_Text_skipBlanks s) a1).1) 7).1) ((dc_Text_readFirst (dc_Text_skipBlanks s) a1).2) ((dc_Text_readNumber (dc_Text_skipBlanks (dc_Text_readFirst (dc_Text_skipBlanks s) a1).1) 7).2)))) else (dc_Text_readEnd (dc_Text_readNumber (dc_Text_skipBlanks (dc_Text_readFirst (dc_Text_skipBlanks s) a1).1) 7).1)) else (if ((dc_Text_readNumber (dc_Text_skipBlanks (dc_Text_readFirst (dc_Text_skipBlanks s) a1).1) 7).1 1 4) = 0 then (if a1 = 99 then (dc_Plan_tellCity (dc_Text_readNumber (dc_Text_skipBlanks (dc_Text_readFirst (dc_Text_skipBlanks s) a1).1) 7).1 ((dc_Text_readFirst (dc_Text_skipBlanks s) a1).2) ((dc_Text_readNumber (dc_Text_skipBlanks (dc_Text_readFirst (dc_Text_skipBlanks s) a1).1) 7).2)) else (if a1 = 104 then (dc_Plan_tellHouse (dc_Text_readNumber (dc_Text_skipBlanks (dc_Text_readFirst (dc_Text_skipBlanks s) a1).1) 7).1 ((dc_Text_readFirst (dc_Text_skipBlanks s) a1).2) ((dc_Text_readNumber (dc_Text_skipBlanks (dc_Text_readFirst (dc_Text_skipBlanks s) a1).1) 7).2)) else (dc_Plan_tellSweep (dc_Text_readNumber (dc_Text_skipBlanks (dc_Text_readFirst (dc_Text_skipBlanks s) a1).1) 7).1 ((dc_Text_readFirst (dc_Text_skipBlanks s) a1).2) ((dc_Text_readNumber (dc_Text_skipBlanks (dc_Text_readFirst (dc_Text_skipBlanks s) a1).1) 7).2)))) else (dc_Text_readNumber (dc_Text_skipBlanks (dc_Text_readFirst (dc_Text_skipBlanks s) a1).1) 7).1)) else (if ((dc_Text_readNumber (dc_Text_skipBlanks (dc_Text_readFirst (dc_Text_skipBlanks s) a1).1) 99).1 1 4) = 0 then (if ((dc_Text_readEnd (dc_Text_readNumber (dc_Text_skipBlanks (dc_Text_readFirst (dc_Text_skipBlanks s) a1).1) 99).1) 1 4) = 0 then (if a1 = 99 then (dc_Plan_tellCity (dc_Text_readEnd (dc_Text_readNumber (dc_Text_skipBlanks (dc_Text_readFirst (dc_Text_skipBlanks s) a1).1) 99).1) ((dc_Text_readFirst (dc_Text_skipBlanks s) a1).2) ((dc_Text_readNumber (dc_Text_skipBlanks (dc_Text_readFirst (dc_Text_skipBlanks s) a1).1) 99).2)) else (if a1 = 104 then (dc_Plan_tellHouse (dc_Text_readEnd (dc_Text_readNumber (dc_Text_skipBlanks (dc_Text_readFirst (dc_Text_skipBlanks s) a1).1) 99).1) ((dc_Text_readFirst (dc_Text_skipBlanks s) a1).2) ((dc_Text_readNumber (dc_Text_skipBlanks (dc_Text_readFirst (dc_Text_skipBlanks s) a1).1) 99).2)) else (dc_Plan_tellSweep (dc_Text_readEnd (dc_Text_readNumber (dc_Text_skipBlanks (dc_Text_readFirst (dc_Text_skipBlanks s) a1).1) 99).1) ((dc_Text_readFirst (dc_Text_skipBlanks s) a1).2) ((dc_Text_readNumber (dc_Text_skipBlanks (dc_Text_readFirst (dc_Text_skipBlanks s) a1).1) 99).2)))) else (dc_Text_readEnd (dc_Text_readNumber (dc_Text_skipBlanks (dc_Text_readFirst (dc_Text_skipBlanks s) a1).1) 99).1)) else (if ((dc_Text_readNumber (dc_Text_skipBlanks (dc_Text_readFirst (dc_Text_skipBlanks s) a1).1) 99).1 1 4) = 0 then (if a1 = 99 then (dc_Plan_tellCity (dc_Text_readNumber (dc_Text_skipBlanks (dc_Text_readFirst (dc_Text_skipBlanks s) a1).1) 99).1 ((dc_Text_readFirst (dc_Text_skipBlanks s) a1).2) ((dc_Text_readNumber (dc_Text_skipBlanks (dc_Text_readFirst (dc_Text_skipBlanks s) a1).1) 99).2)) else (if a1 = 104 then (dc_Plan_tellHouse (dc_Text_readNumber (dc_Text_skipBlanks (dc_Text_readFirst (dc_Text_skipBlanks s) a1).1) 99).1 ((dc_Text_readFirst (dc_Text_skipBlanks s) a1).2) ((dc_Text_readNumber (dc_Text_skipBlanks (dc_Text_readFirst (dc_Text_skipBlanks s) a1).1) 99).2)) else (dc_Plan_tellSweep (dc_Text_readNumber (dc_Text_skipBlanks (dc_Text_readFirst (dc_Text_skipBlanks s) a1).1) 99).1 ((dc_Text_readFirst (dc_Text_skipBlanks s) a1).2) ((dc_Text_readNumber (dc_Text_skipBlanks (dc_Text_readFirst (dc_Text_skipBlanks s) a1).1) 99).2)))) else (dc_Text_readNumber (dc_Text_skipBlanks (dc_Text_readFirst (dc_Text_skipBlanks s) a1).1) 99).1)))) else (if ((dc_Text_skipBlanks (dc_Text_readFirst (dc_Text_skipBlanks s) a1).1) 1 4) = 0 then (if ((dc_Text_readEnd (dc_Text_skipBlanks (dc_Text_readFirst (dc_Text_skipBlanks s) a1).1)) 1 4) = 0 then (if a1 = 99 then (dc_Plan_tellCity (dc_Text_readEnd (dc_Text_skipBlanks (dc_Text_readFirst (dc_Text_skipBlanks s) a1).1)) ((dc_Text_readFirst (dc_Text_skipBlanks s) a1).2) 0) else (if a1 = 104 then (dc_Plan_tellHouse (dc_Text_readEnd (dc_Text_skipBlanks (dc_Text_readFirst (dc_Text_skipBlanks s) a1).1)) ((dc_Text_readFirst (dc_Text_skipBlanks s) a1).2) 0) else (dc_Plan_tellSweep (dc_Text_readEnd (dc_Text_skipBlanks (dc_Text_readFirst (dc_Text_skipBlanks s) a1).1)) ((dc_Text_readFirst (dc_Text_skipBlanks s) a1).2) 0))) else (dc_Text_readEnd (dc_Text_skipBlanks (dc_Text_readFirst (dc_Text_skipBlanks s) a1).1))) else (if ((dc_Text_skipBlanks (dc_Text_readFirst (dc_Text_skipBlanks s) a1).1) 1 4) = 0 then (if a1 = 99 then (dc_Plan_tellCity (dc_Text_skipBlanks (dc_Text_readFirst (dc_Text_skipBlanks s) a1).1) ((dc_Text_readFirst (dc_Text_skipBlanks s) a1).2) 0) else (if a1 = 104 then (dc_Plan_tellHouse (dc_Text_skipBlanks (dc_Text_readFirst (dc_Text_skipBlanks s) a1).1) ((dc_Text_readFirst (dc_Text_skipBlanks s) a1).2) 0) else (dc_Plan_tellSweep (dc_Text_skipBlanks (dc_Text_readFirst (dc_Text_skipBlanks s) a1).1) ((dc_Text_readFirst (dc_Text_skipBlanks s) a1).2) 0))) else (dc_Text_skipBlanks (dc_Text_readFirst (dc_Text_skipBlanks s) a1).1))))
set_option maxRecDepth 100000 in
theorem dt_Text_readNumbersOf {h : mj_H} (hH : sy_H h) {a1 : Int} (b_a1 : 0 ≤ a1) (t_a1 : a1 ≤ 65535) (i0 : a1 = 99 ∨ a1 = 104 ∨ a1 = 115) : sy_wp (mj_m_21, 0, [(0, .ref 1), (1, sy_i a1)], [], h) (dq3 (dc_Text_readNumbersOf (sy_rd h) a1)) := by
  unfold dc_Text_readNumbersOf
  refine sy_st (S' := (mj_m_21, 1, [(0, .ref 1), (1, sy_i a1)], [.ref 1], h)) mj_d_21_0 (fun _ _ => rfl) ?_
  refine sy_cv (M' := mj_m_15) (vs := [.ref 1]) (rest := []) mj_d_21_1 rfl rfl rfl rfl hH rfl rfl ⟨by decide, ⟨Nat.le_of_ble_eq_true rfl, Nat.le_of_ble_eq_true rfl, Nat.le_of_ble_eq_true rfl, Nat.le_of_ble_eq_true rfl, Nat.le_of_ble_eq_true rfl⟩⟩ (dt_Text_skipBlanks hH) ?_
  rintro _ h1 ⟨rfl, th1, eh1⟩
  have q3 := df_skip_f (sy_rd h)
  show sy_wp (mj_m_21, 4, [(0, .ref 1), (1, sy_i a1)], [], h1) _
  refine sy_st (S' := (mj_m_21, 5, [(0, .ref 1), (1, sy_i a1)], [.ref 1], h1)) mj_d_21_4 (fun _ _ => rfl) ?_
  refine sy_st (S' := (mj_m_21, 6, [(0, .ref 1), (1, sy_i a1)], [sy_i a1, .ref 1], h1)) mj_d_21_5 (fun _ _ => rfl) ?_
  refine sy_cv (M' := mj_m_22) (vs := [.ref 1, sy_i a1]) (rest := []) mj_d_21_6 rfl rfl rfl rfl th1 rfl rfl ⟨by decide, ⟨Nat.le_of_ble_eq_true rfl, Nat.le_of_ble_eq_true rfl, Nat.le_of_ble_eq_true rfl, Nat.le_of_ble_eq_true rfl, Nat.le_of_ble_eq_true rfl⟩⟩ (dt_Text_readFirst (a1 := a1) th1 (by omega) (by omega)) ?_
  rintro _ h4 ⟨th4, eh4, rfl, b5, b5t⟩
  rw [eh1] at eh4 b5 b5t ⊢
  have q6 := df_first_f (dc_Text_skipBlanks (sy_rd h)) a1
  show sy_wp (mj_m_21, 9, [(0, .ref 1), (1, sy_i a1)], [sy_i ((dc_Text_readFirst (dc_Text_skipBlanks (sy_rd h)) a1).2)], h4) _
  refine sy_st (S' := (mj_m_21, 10, [(2, sy_i ((dc_Text_readFirst (dc_Text_skipBlanks (sy_rd h)) a1).2)), (0, .ref 1), (1, sy_i a1)], [], h4)) mj_d_21_9 (fun _ _ => rfl) ?_
  refine sy_st (S' := (mj_m_21, 11, [(2, sy_i ((dc_Text_readFirst (dc_Text_skipBlanks (sy_rd h)) a1).2)), (0, .ref 1), (1, sy_i a1)], [.ref 1], h4)) mj_d_21_10 (fun _ _ => rfl) ?_
  refine sy_cv (M' := mj_m_15) (vs := [.ref 1]) (rest := []) mj_d_21_11 rfl rfl rfl rfl th4 rfl rfl ⟨by decide, ⟨Nat.le_of_ble_eq_true rfl, Nat.le_of_ble_eq_true rfl, Nat.le_of_ble_eq_true rfl, Nat.le_of_ble_eq_true rfl, Nat.le_of_ble_eq_true rfl⟩⟩ (dt_Text_skipBlanks th4) ?_
  rintro _ h7 ⟨rfl, th7, eh7⟩
  rw [eh4] at eh7
  have q9 := df_skip_f (dc_Text_readFirst (dc_Text_skipBlanks (sy_rd h)) a1).1
  show sy_wp (mj_m_21, 14, [(2, sy_i ((dc_Text_readFirst (dc_Text_skipBlanks (sy_rd h)) a1).2)), (0, .ref 1), (1, sy_i a1)], [], h7) _
  refine sy_st (S' := (mj_m_21, 15, [(2, sy_i ((dc_Text_readFirst (dc_Text_skipBlanks (sy_rd h)) a1).2)), (0, .ref 1), (1, sy_i a1)], [.ref 1], h7)) mj_d_21_14 (fun _ _ => rfl) ?_
  refine sy_gf mj_d_21_15 rfl rfl (by decide) rfl th7 ?_
  intro x10 ex10 bx10 tx10
  rw [eh7] at ex10
  subst ex10
  refine sy_ifc mj_d_21_18 rfl ⟨by omega, by omega⟩ (fun (c11 : ((dc_Text_skipBlanks (dc_Text_readFirst (dc_Text_skipBlanks (sy_rd h)) a1).1) 1 4) = 0) => ?_) (fun (c11 : ¬ (((dc_Text_skipBlanks (dc_Text_readFirst (dc_Text_skipBlanks (sy_rd h)) a1).1) 1 4) = 0)) => ?_)
  · skip
    rw [if_pos c11]
    refine sy_st (S' := (mj_m_21, 26, [(2, sy_i ((dc_Text_readFirst (dc_Text_skipBlanks (sy_rd h)) a1).2)), (0, .ref 1), (1, sy_i a1)], [.ref 1], h7)) mj_d_21_25 (fun _ _ => rfl) ?_
    refine sy_st (S' := (mj_m_21, 27, [(2, sy_i ((dc_Text_readFirst (dc_Text_skipBlanks (sy_rd h)) a1).2)), (0, .ref 1), (1, sy_i a1)], [sy_i a1, .ref 1], h7)) mj_d_21_26 (fun _ _ => rfl) ?_
    refine sy_bip mj_d_21_27 (by decide) ?_
    refine sy_icm mj_d_21_29 rfl ⟨by omega, by omega⟩ ⟨by omega, by omega⟩ (fun (c12 : ¬ (a1 = 99)) => ?_) (fun (c12 : ¬ ¬ (a1 = 99)) => ?_)
    · skip
      rw [if_neg c12]
      refine sy_st (S' := (mj_m_21, 37, [(2, sy_i ((dc_Text_readFirst (dc_Text_skipBlanks (sy_rd h)) a1).2)), (0, .ref 1), (1, sy_i a1)], [sy_i a1, .ref 1], h7)) mj_d_21_36 (fun _ _ => rfl) ?_
      refine sy_bip mj_d_21_37 (by decide) ?_
      refine sy_icm mj_d_21_39 rfl ⟨by omega, by omega⟩ ⟨by omega, by omega⟩ (fun (c13 : ¬ (a1 = 104)) => ?_) (fun (c13 : ¬ ¬ (a1 = 104)) => ?_)
      · skip
        rw [if_neg c13]
        refine sy_bip mj_d_21_47 (by decide) ?_
        refine sy_cv (M' := mj_m_23) (vs := [.ref 1, sy_i 99]) (rest := []) mj_d_21_49 rfl rfl rfl rfl th7 rfl rfl ⟨by decide, ⟨Nat.le_of_ble_eq_true rfl, Nat.le_of_ble_eq_true rfl, Nat.le_of_ble_eq_true rfl, Nat.le_of_ble_eq_true rfl, Nat.le_of_ble_eq_true rfl⟩⟩ (dt_Text_readNumber (a1 := 99) th7 (by omega) (by omega)) ?_
        rintro _ h14 ⟨th14, eh14, rfl, b15, b15t⟩
        rw [eh7] at eh14 b15 b15t ⊢
        have q16 := df_num_f (dc_Text_skipBlanks (dc_Text_readFirst (dc_Text_skipBlanks (sy_rd h)) a1).1) 99
        show sy_wp (mj_m_21, 52, [(2, sy_i ((dc_Text_readFirst (dc_Text_skipBlanks (sy_rd h)) a1).2)), (0, .ref 1), (1, sy_i a1)], [sy_i ((dc_Text_readNumber (dc_Text_skipBlanks (dc_Text_readFirst (dc_Text_skipBlanks (sy_rd h)) a1).1) 99).2)], h14) _
        refine sy_st (S' := (mj_m_21, 53, [(3, sy_i ((dc_Text_readNumber (dc_Text_skipBlanks (dc_Text_readFirst (dc_Text_skipBlanks (sy_rd h)) a1).1) 99).2)), (2, sy_i ((dc_Text_readFirst (dc_Text_skipBlanks (sy_rd h)) a1).2)), (0, .ref 1), (1, sy_i a1)], [], h14)) mj_d_21_52 (fun _ _ => rfl) ?_
        refine sy_st (S' := (mj_m_21, 54, [(3, sy_i ((dc_Text_readNumber (dc_Text_skipBlanks (dc_Text_readFirst (dc_Text_skipBlanks (sy_rd h)) a1).1) 99).2)), (2, sy_i ((dc_Text_readFirst (dc_Text_skipBlanks (sy_rd h)) a1).2)), (0, .ref 1), (1, sy_i a1)], [.ref 1], h14)) mj_d_21_53 (fun _ _ => rfl) ?_
        refine sy_gf mj_d_21_54 rfl rfl (by decide) rfl th14 ?_
        intro x17 ex17 bx17 tx17
        rw [eh14] at ex17
        subst ex17
        refine sy_ifc mj_d_21_57 rfl ⟨by omega, by omega⟩ (fun (c18 : ¬ (((dc_Text_readNumber (dc_Text_skipBlanks (dc_Text_readFirst (dc_Text_skipBlanks (sy_rd h)) a1).1) 99).1 1 4) = 0)) => ?_) (fun (c18 : ¬ ¬ (((dc_Text_readNumber (dc_Text_skipBlanks (dc_Text_readFirst (dc_Text_skipBlanks (sy_rd h)) a1).1) 99).1 1 4) = 0)) => ?_)
        · skip
          rw [if_neg c18]
          refine sy_st (S' := (mj_m_21, 65, [(3, sy_i ((dc_Text_readNumber (dc_Text_skipBlanks (dc_Text_readFirst (dc_Text_skipBlanks (sy_rd h)) a1).1) 99).2)), (2, sy_i ((dc_Text_readFirst (dc_Text_skipBlanks (sy_rd h)) a1).2)), (0, .ref 1), (1, sy_i a1)], [.ref 1], h14)) mj_d_21_64 (fun _ _ => rfl) ?_
          refine sy_gf mj_d_21_65 rfl rfl (by decide) rfl th14 ?_
          intro x19 ex19 bx19 tx19
          rw [eh14] at ex19
          subst ex19
          refine sy_ifc mj_d_21_68 rfl ⟨by omega, by omega⟩ (fun (c20 : ((dc_Text_readNumber (dc_Text_skipBlanks (dc_Text_readFirst (dc_Text_skipBlanks (sy_rd h)) a1).1) 99).1 1 4) = 0) => ?_) (fun (c20 : ¬ (((dc_Text_readNumber (dc_Text_skipBlanks (dc_Text_readFirst (dc_Text_skipBlanks (sy_rd h)) a1).1) 99).1 1 4) = 0)) => ?_)
          · skip
            rw [if_pos c20]
            refine sy_st (S' := (mj_m_21, 73, [(3, sy_i ((dc_Text_readNumber (dc_Text_skipBlanks (dc_Text_readFirst (dc_Text_skipBlanks (sy_rd h)) a1).1) 99).2)), (2, sy_i ((dc_Text_readFirst (dc_Text_skipBlanks (sy_rd h)) a1).2)), (0, .ref 1), (1, sy_i a1)], [sy_i a1], h14)) mj_d_21_72 (fun _ _ => rfl) ?_
            refine sy_bip mj_d_21_73 (by decide) ?_
            refine sy_icm mj_d_21_75 rfl ⟨by omega, by omega⟩ ⟨by omega, by omega⟩ (fun (c21 : ¬ (a1 = 99)) => ?_) (fun (c21 : ¬ ¬ (a1 = 99)) => ?_)
            · skip
              rw [if_neg c21]
              refine sy_st (S' := (mj_m_21, 91, [(3, sy_i ((dc_Text_readNumber (dc_Text_skipBlanks (dc_Text_readFirst (dc_Text_skipBlanks (sy_rd h)) a1).1) 99).2)), (2, sy_i ((dc_Text_readFirst (dc_Text_skipBlanks (sy_rd h)) a1).2)), (0, .ref 1), (1, sy_i a1)], [sy_i a1], h14)) mj_d_21_90 (fun _ _ => rfl) ?_
              refine sy_bip mj_d_21_91 (by decide) ?_
              refine sy_icm mj_d_21_93 rfl ⟨by omega, by omega⟩ ⟨by omega, by omega⟩ (fun (c22 : ¬ (a1 = 104)) => ?_) (fun (c22 : ¬ ¬ (a1 = 104)) => ?_)
              · skip
                rw [if_neg c22]
                refine sy_st (S' := (mj_m_21, 109, [(3, sy_i ((dc_Text_readNumber (dc_Text_skipBlanks (dc_Text_readFirst (dc_Text_skipBlanks (sy_rd h)) a1).1) 99).2)), (2, sy_i ((dc_Text_readFirst (dc_Text_skipBlanks (sy_rd h)) a1).2)), (0, .ref 1), (1, sy_i a1)], [.ref 1], h14)) mj_d_21_108 (fun _ _ => rfl) ?_
                refine sy_gr2 (b := 3) mj_d_21_109 rfl rfl (by decide) rfl rfl th14 ?_
                refine sy_st (S' := (mj_m_21, 113, [(3, sy_i ((dc_Text_readNumber (dc_Text_skipBlanks (dc_Text_readFirst (dc_Text_skipBlanks (sy_rd h)) a1).1) 99).2)), (2, sy_i ((dc_Text_readFirst (dc_Text_skipBlanks (sy_rd h)) a1).2)), (0, .ref 1), (1, sy_i a1)], [sy_i ((dc_Text_readFirst (dc_Text_skipBlanks (sy_rd h)) a1).2), .ref 3], h14)) mj_d_21_112 (fun _ _ => rfl) ?_
                refine sy_st (S' := (mj_m_21, 114, [(3, sy_i ((dc_Text_readNumber (dc_Text_skipBlanks (dc_Text_readFirst (dc_Text_skipBlanks (sy_rd h)) a1).1) 99).2)), (2, sy_i ((dc_Text_readFirst (dc_Text_skipBlanks (sy_rd h)) a1).2)), (0, .ref 1), (1, sy_i a1)], [sy_i ((dc_Text_readNumber (dc_Text_skipBlanks (dc_Text_readFirst (dc_Text_skipBlanks (sy_rd h)) a1).1) 99).2), sy_i ((dc_Text_readFirst (dc_Text_skipBlanks (sy_rd h)) a1).2), .ref 3], h14)) mj_d_21_113 (fun _ _ => rfl) ?_
                refine sy_cv (M' := mj_m_28) (vs := [.ref 3, sy_i ((dc_Text_readFirst (dc_Text_skipBlanks (sy_rd h)) a1).2), sy_i ((dc_Text_readNumber (dc_Text_skipBlanks (dc_Text_readFirst (dc_Text_skipBlanks (sy_rd h)) a1).1) 99).2)]) (rest := []) mj_d_21_114 rfl rfl rfl rfl th14 rfl rfl ⟨by decide, ⟨Nat.le_of_ble_eq_true rfl, Nat.le_of_ble_eq_true rfl, Nat.le_of_ble_eq_true rfl, Nat.le_of_ble_eq_true rfl, Nat.le_of_ble_eq_true rfl⟩⟩ (dt_Plan_tellSweep (a1 := (dc_Text_readFirst (dc_Text_skipBlanks (sy_rd h)) a1).2) (a2 := (dc_Text_readNumber (dc_Text_skipBlanks (dc_Text_readFirst (dc_Text_skipBlanks (sy_rd h)) a1).1) 99).2) th14 (by omega) (by omega) (by omega) (by omega)) ?_
                rintro _ h23 ⟨rfl, th23, eh23⟩
                rw [eh14] at eh23
                show sy_wp (mj_m_21, 117, [(3, sy_i ((dc_Text_readNumber (dc_Text_skipBlanks (dc_Text_readFirst (dc_Text_skipBlanks (sy_rd h)) a1).1) 99).2)), (2, sy_i ((dc_Text_readFirst (dc_Text_skipBlanks (sy_rd h)) a1).2)), (0, .ref 1), (1, sy_i a1)], [], h23) _
                exact sy_retv mj_d_21_117 rfl ⟨rfl, th23, eh23⟩
              · skip
                rw [if_pos (Decidable.not_not.mp c22)]
                replace c22 := Decidable.not_not.mp c22
                refine sy_st (S' := (mj_m_21, 97, [(3, sy_i ((dc_Text_readNumber (dc_Text_skipBlanks (dc_Text_readFirst (dc_Text_skipBlanks (sy_rd h)) a1).1) 99).2)), (2, sy_i ((dc_Text_readFirst (dc_Text_skipBlanks (sy_rd h)) a1).2)), (0, .ref 1), (1, sy_i a1)], [.ref 1], h14)) mj_d_21_96 (fun _ _ => rfl) ?_
                refine sy_gr2 (b := 3) mj_d_21_97 rfl rfl (by decide) rfl rfl th14 ?_
                refine sy_st (S' := (mj_m_21, 101, [(3, sy_i ((dc_Text_readNumber (dc_Text_skipBlanks (dc_Text_readFirst (dc_Text_skipBlanks (sy_rd h)) a1).1) 99).2)), (2, sy_i ((dc_Text_readFirst (dc_Text_skipBlanks (sy_rd h)) a1).2)), (0, .ref 1), (1, sy_i a1)], [sy_i ((dc_Text_readFirst (dc_Text_skipBlanks (sy_rd h)) a1).2), .ref 3], h14)) mj_d_21_100 (fun _ _ => rfl) ?_
                refine sy_st (S' := (mj_m_21, 102, [(3, sy_i ((dc_Text_readNumber (dc_Text_skipBlanks (dc_Text_readFirst (dc_Text_skipBlanks (sy_rd h)) a1).1) 99).2)), (2, sy_i ((dc_Text_readFirst (dc_Text_skipBlanks (sy_rd h)) a1).2)), (0, .ref 1), (1, sy_i a1)], [sy_i ((dc_Text_readNumber (dc_Text_skipBlanks (dc_Text_readFirst (dc_Text_skipBlanks (sy_rd h)) a1).1) 99).2), sy_i ((dc_Text_readFirst (dc_Text_skipBlanks (sy_rd h)) a1).2), .ref 3], h14)) mj_d_21_101 (fun _ _ => rfl) ?_
                refine sy_cv (M' := mj_m_27) (vs := [.ref 3, sy_i ((dc_Text_readFirst (dc_Text_skipBlanks (sy_rd h)) a1).2), sy_i ((dc_Text_readNumber (dc_Text_skipBlanks (dc_Text_readFirst (dc_Text_skipBlanks (sy_rd h)) a1).1) 99).2)]) (rest := []) mj_d_21_102 rfl rfl rfl rfl th14 rfl rfl ⟨by decide, ⟨Nat.le_of_ble_eq_true rfl, Nat.le_of_ble_eq_true rfl, Nat.le_of_ble_eq_true rfl, Nat.le_of_ble_eq_true rfl, Nat.le_of_ble_eq_true rfl⟩⟩ (dt_Plan_tellHouse (a1 := (dc_Text_readFirst (dc_Text_skipBlanks (sy_rd h)) a1).2) (a2 := (dc_Text_readNumber (dc_Text_skipBlanks (dc_Text_readFirst (dc_Text_skipBlanks (sy_rd h)) a1).1) 99).2) th14 (by omega) (by omega) (by omega) (by omega)) ?_
                rintro _ h25 ⟨rfl, th25, eh25⟩
                rw [eh14] at eh25
                show sy_wp (mj_m_21, 105, [(3, sy_i ((dc_Text_readNumber (dc_Text_skipBlanks (dc_Text_readFirst (dc_Text_skipBlanks (sy_rd h)) a1).1) 99).2)), (2, sy_i ((dc_Text_readFirst (dc_Text_skipBlanks (sy_rd h)) a1).2)), (0, .ref 1), (1, sy_i a1)], [], h25) _
                refine sy_st (S' := (mj_m_21, 117, [(3, sy_i ((dc_Text_readNumber (dc_Text_skipBlanks (dc_Text_readFirst (dc_Text_skipBlanks (sy_rd h)) a1).1) 99).2)), (2, sy_i ((dc_Text_readFirst (dc_Text_skipBlanks (sy_rd h)) a1).2)), (0, .ref 1), (1, sy_i a1)], [], h25)) mj_d_21_105 (fun _ _ => rfl) ?_
                exact sy_retv mj_d_21_117 rfl ⟨rfl, th25, eh25⟩
            · skip
              rw [if_pos (Decidable.not_not.mp c21)]
              replace c21 := Decidable.not_not.mp c21
              refine sy_st (S' := (mj_m_21, 79, [(3, sy_i ((dc_Text_readNumber (dc_Text_skipBlanks (dc_Text_readFirst (dc_Text_skipBlanks (sy_rd h)) a1).1) 99).2)), (2, sy_i ((dc_Text_readFirst (dc_Text_skipBlanks (sy_rd h)) a1).2)), (0, .ref 1), (1, sy_i a1)], [.ref 1], h14)) mj_d_21_78 (fun _ _ => rfl) ?_
              refine sy_gr2 (b := 3) mj_d_21_79 rfl rfl (by decide) rfl rfl th14 ?_
              refine sy_st (S' := (mj_m_21, 83, [(3, sy_i ((dc_Text_readNumber (dc_Text_skipBlanks (dc_Text_readFirst (dc_Text_skipBlanks (sy_rd h)) a1).1) 99).2)), (2, sy_i ((dc_Text_readFirst (dc_Text_skipBlanks (sy_rd h)) a1).2)), (0, .ref 1), (1, sy_i a1)], [sy_i ((dc_Text_readFirst (dc_Text_skipBlanks (sy_rd h)) a1).2), .ref 3], h14)) mj_d_21_82 (fun _ _ => rfl) ?_
              refine sy_st (S' := (mj_m_21, 84, [(3, sy_i ((dc_Text_readNumber (dc_Text_skipBlanks (dc_Text_readFirst (dc_Text_skipBlanks (sy_rd h)) a1).1) 99).2)), (2, sy_i ((dc_Text_readFirst (dc_Text_skipBlanks (sy_rd h)) a1).2)), (0, .ref 1), (1, sy_i a1)], [sy_i ((dc_Text_readNumber (dc_Text_skipBlanks (dc_Text_readFirst (dc_Text_skipBlanks (sy_rd h)) a1).1) 99).2), sy_i ((dc_Text_readFirst (dc_Text_skipBlanks (sy_rd h)) a1).2), .ref 3], h14)) mj_d_21_83 (fun _ _ => rfl) ?_
              refine sy_cv (M' := mj_m_26) (vs := [.ref 3, sy_i ((dc_Text_readFirst (dc_Text_skipBlanks (sy_rd h)) a1).2), sy_i ((dc_Text_readNumber (dc_Text_skipBlanks (dc_Text_readFirst (dc_Text_skipBlanks (sy_rd h)) a1).1) 99).2)]) (rest := []) mj_d_21_84 rfl rfl rfl rfl th14 rfl rfl ⟨by decide, ⟨Nat.le_of_ble_eq_true rfl, Nat.le_of_ble_eq_true rfl, Nat.le_of_ble_eq_true rfl, Nat.le_of_ble_eq_true rfl, Nat.le_of_ble_eq_true rfl⟩⟩ (dt_Plan_tellCity (a1 := (dc_Text_readFirst (dc_Text_skipBlanks (sy_rd h)) a1).2) (a2 := (dc_Text_readNumber (dc_Text_skipBlanks (dc_Text_readFirst (dc_Text_skipBlanks (sy_rd h)) a1).1) 99).2) th14 (by omega) (by omega) (by omega) (by omega)) ?_
              rintro _ h27 ⟨rfl, th27, eh27⟩
              rw [eh14] at eh27
              show sy_wp (mj_m_21, 87, [(3, sy_i ((dc_Text_readNumber (dc_Text_skipBlanks (dc_Text_readFirst (dc_Text_skipBlanks (sy_rd h)) a1).1) 99).2)), (2, sy_i ((dc_Text_readFirst (dc_Text_skipBlanks (sy_rd h)) a1).2)), (0, .ref 1), (1, sy_i a1)], [], h27) _
              refine sy_st (S' := (mj_m_21, 117, [(3, sy_i ((dc_Text_readNumber (dc_Text_skipBlanks (dc_Text_readFirst (dc_Text_skipBlanks (sy_rd h)) a1).1) 99).2)), (2, sy_i ((dc_Text_readFirst (dc_Text_skipBlanks (sy_rd h)) a1).2)), (0, .ref 1), (1, sy_i a1)], [], h27)) mj_d_21_87 (fun _ _ => rfl) ?_
              exact sy_retv mj_d_21_117 rfl ⟨rfl, th27, eh27⟩
          · skip
            rw [if_neg c20]
            exact sy_retv mj_d_21_71 rfl ⟨rfl, th14, eh14⟩
        · skip
          rw [if_pos (Decidable.not_not.mp c18)]
          replace c18 := Decidable.not_not.mp c18
          refine sy_st (S' := (mj_m_21, 61, [(3, sy_i ((dc_Text_readNumber (dc_Text_skipBlanks (dc_Text_readFirst (dc_Text_skipBlanks (sy_rd h)) a1).1) 99).2)), (2, sy_i ((dc_Text_readFirst (dc_Text_skipBlanks (sy_rd h)) a1).2)), (0, .ref 1), (1, sy_i a1)], [.ref 1], h14)) mj_d_21_60 (fun _ _ => rfl) ?_
          refine sy_cv (M' := mj_m_25) (vs := [.ref 1]) (rest := []) mj_d_21_61 rfl rfl rfl rfl th14 rfl rfl ⟨by decide, ⟨Nat.le_of_ble_eq_true rfl, Nat.le_of_ble_eq_true rfl, Nat.le_of_ble_eq_true rfl, Nat.le_of_ble_eq_true rfl, Nat.le_of_ble_eq_true rfl⟩⟩ (dt_Text_readEnd th14) ?_
          rintro _ h29 ⟨rfl, th29, eh29⟩
          rw [eh14] at eh29
          have q31 := df_end_f (dc_Text_readNumber (dc_Text_skipBlanks (dc_Text_readFirst (dc_Text_skipBlanks (sy_rd h)) a1).1) 99).1
          show sy_wp (mj_m_21, 64, [(3, sy_i ((dc_Text_readNumber (dc_Text_skipBlanks (dc_Text_readFirst (dc_Text_skipBlanks (sy_rd h)) a1).1) 99).2)), (2, sy_i ((dc_Text_readFirst (dc_Text_skipBlanks (sy_rd h)) a1).2)), (0, .ref 1), (1, sy_i a1)], [], h29) _
          refine sy_st (S' := (mj_m_21, 65, [(3, sy_i ((dc_Text_readNumber (dc_Text_skipBlanks (dc_Text_readFirst (dc_Text_skipBlanks (sy_rd h)) a1).1) 99).2)), (2, sy_i ((dc_Text_readFirst (dc_Text_skipBlanks (sy_rd h)) a1).2)), (0, .ref 1), (1, sy_i a1)], [.ref 1], h29)) mj_d_21_64 (fun _ _ => rfl) ?_
          refine sy_gf mj_d_21_65 rfl rfl (by decide) rfl th29 ?_
          intro x32 ex32 bx32 tx32
          rw [eh29] at ex32
          subst ex32
          refine sy_ifc mj_d_21_68 rfl ⟨by omega, by omega⟩ (fun (c33 : ((dc_Text_readEnd (dc_Text_readNumber (dc_Text_skipBlanks (dc_Text_readFirst (dc_Text_skipBlanks (sy_rd h)) a1).1) 99).1) 1 4) = 0) => ?_) (fun (c33 : ¬ (((dc_Text_readEnd (dc_Text_readNumber (dc_Text_skipBlanks (dc_Text_readFirst (dc_Text_skipBlanks (sy_rd h)) a1).1) 99).1) 1 4) = 0)) => ?_)
          · skip
            rw [if_pos c33]
            refine sy_st (S' := (mj_m_21, 73, [(3, sy_i ((dc_Text_readNumber (dc_Text_skipBlanks (dc_Text_readFirst (dc_Text_skipBlanks (sy_rd h)) a1).1) 99).2)), (2, sy_i ((dc_Text_readFirst (dc_Text_skipBlanks (sy_rd h)) a1).2)), (0, .ref 1), (1, sy_i a1)], [sy_i a1], h29)) mj_d_21_72 (fun _ _ => rfl) ?_
            refine sy_bip mj_d_21_73 (by decide) ?_
            refine sy_icm mj_d_21_75 rfl ⟨by omega, by omega⟩ ⟨by omega, by omega⟩ (fun (c34 : ¬ (a1 = 99)) => ?_) (fun (c34 : ¬ ¬ (a1 = 99)) => ?_)
            · skip
              rw [if_neg c34]
              refine sy_st (S' := (mj_m_21, 91, [(3, sy_i ((dc_Text_readNumber (dc_Text_skipBlanks (dc_Text_readFirst (dc_Text_skipBlanks (sy_rd h)) a1).1) 99).2)), (2, sy_i ((dc_Text_readFirst (dc_Text_skipBlanks (sy_rd h)) a1).2)), (0, .ref 1), (1, sy_i a1)], [sy_i a1], h29)) mj_d_21_90 (fun _ _ => rfl) ?_
              refine sy_bip mj_d_21_91 (by decide) ?_
              refine sy_icm mj_d_21_93 rfl ⟨by omega, by omega⟩ ⟨by omega, by omega⟩ (fun (c35 : ¬ (a1 = 104)) => ?_) (fun (c35 : ¬ ¬ (a1 = 104)) => ?_)
              · skip
                rw [if_neg c35]
                refine sy_st (S' := (mj_m_21, 109, [(3, sy_i ((dc_Text_readNumber (dc_Text_skipBlanks (dc_Text_readFirst (dc_Text_skipBlanks (sy_rd h)) a1).1) 99).2)), (2, sy_i ((dc_Text_readFirst (dc_Text_skipBlanks (sy_rd h)) a1).2)), (0, .ref 1), (1, sy_i a1)], [.ref 1], h29)) mj_d_21_108 (fun _ _ => rfl) ?_
                refine sy_gr2 (b := 3) mj_d_21_109 rfl rfl (by decide) rfl rfl th29 ?_
                refine sy_st (S' := (mj_m_21, 113, [(3, sy_i ((dc_Text_readNumber (dc_Text_skipBlanks (dc_Text_readFirst (dc_Text_skipBlanks (sy_rd h)) a1).1) 99).2)), (2, sy_i ((dc_Text_readFirst (dc_Text_skipBlanks (sy_rd h)) a1).2)), (0, .ref 1), (1, sy_i a1)], [sy_i ((dc_Text_readFirst (dc_Text_skipBlanks (sy_rd h)) a1).2), .ref 3], h29)) mj_d_21_112 (fun _ _ => rfl) ?_
                refine sy_st (S' := (mj_m_21, 114, [(3, sy_i ((dc_Text_readNumber (dc_Text_skipBlanks (dc_Text_readFirst (dc_Text_skipBlanks (sy_rd h)) a1).1) 99).2)), (2, sy_i ((dc_Text_readFirst (dc_Text_skipBlanks (sy_rd h)) a1).2)), (0, .ref 1), (1, sy_i a1)], [sy_i ((dc_Text_readNumber (dc_Text_skipBlanks (dc_Text_readFirst (dc_Text_skipBlanks (sy_rd h)) a1).1) 99).2), sy_i ((dc_Text_readFirst (dc_Text_skipBlanks (sy_rd h)) a1).2), .ref 3], h29)) mj_d_21_113 (fun _ _ => rfl) ?_
                refine sy_cv (M' := mj_m_28) (vs := [.ref 3, sy_i ((dc_Text_readFirst (dc_Text_skipBlanks (sy_rd h)) a1).2), sy_i ((dc_Text_readNumber (dc_Text_skipBlanks (dc_Text_readFirst (dc_Text_skipBlanks (sy_rd h)) a1).1) 99).2)]) (rest := []) mj_d_21_114 rfl rfl rfl rfl th29 rfl rfl ⟨by decide, ⟨Nat.le_of_ble_eq_true rfl, Nat.le_of_ble_eq_true rfl, Nat.le_of_ble_eq_true rfl, Nat.le_of_ble_eq_true rfl, Nat.le_of_ble_eq_true rfl⟩⟩ (dt_Plan_tellSweep (a1 := (dc_Text_readFirst (dc_Text_skipBlanks (sy_rd h)) a1).2) (a2 := (dc_Text_readNumber (dc_Text_skipBlanks (dc_Text_readFirst (dc_Text_skipBlanks (sy_rd h)) a1).1) 99).2) th29 (by omega) (by omega) (by omega) (by omega)) ?_
                rintro _ h36 ⟨rfl, th36, eh36⟩
                rw [eh29] at eh36
                show sy_wp (mj_m_21, 117, [(3, sy_i ((dc_Text_readNumber (dc_Text_skipBlanks (dc_Text_readFirst (dc_Text_skipBlanks (sy_rd h)) a1).1) 99).2)), (2, sy_i ((dc_Text_readFirst (dc_Text_skipBlanks (sy_rd h)) a1).2)), (0, .ref 1), (1, sy_i a1)], [], h36) _
                exact sy_retv mj_d_21_117 rfl ⟨rfl, th36, eh36⟩
              · skip
                rw [if_pos (Decidable.not_not.mp c35)]
                replace c35 := Decidable.not_not.mp c35
                refine sy_st (S' := (mj_m_21, 97, [(3, sy_i ((dc_Text_readNumber (dc_Text_skipBlanks (dc_Text_readFirst (dc_Text_skipBlanks (sy_rd h)) a1).1) 99).2)), (2, sy_i ((dc_Text_readFirst (dc_Text_skipBlanks (sy_rd h)) a1).2)), (0, .ref 1), (1, sy_i a1)], [.ref 1], h29)) mj_d_21_96 (fun _ _ => rfl) ?_
                refine sy_gr2 (b := 3) mj_d_21_97 rfl rfl (by decide) rfl rfl th29 ?_
                refine sy_st (S' := (mj_m_21, 101, [(3, sy_i ((dc_Text_readNumber (dc_Text_skipBlanks (dc_Text_readFirst (dc_Text_skipBlanks (sy_rd h)) a1).1) 99).2)), (2, sy_i ((dc_Text_readFirst (dc_Text_skipBlanks (sy_rd h)) a1).2)), (0, .ref 1), (1, sy_i a1)], [sy_i ((dc_Text_readFirst (dc_Text_skipBlanks (sy_rd h)) a1).2), .ref 3], h29)) mj_d_21_100 (fun _ _ => rfl) ?_
                refine sy_st (S' := (mj_m_21, 102, [(3, sy_i ((dc_Text_readNumber (dc_Text_skipBlanks (dc_Text_readFirst (dc_Text_skipBlanks (sy_rd h)) a1).1) 99).2)), (2, sy_i ((dc_Text_readFirst (dc_Text_skipBlanks (sy_rd h)) a1).2)), (0, .ref 1), (1, sy_i a1)], [sy_i ((dc_Text_readNumber (dc_Text_skipBlanks (dc_Text_readFirst (dc_Text_skipBlanks (sy_rd h)) a1).1) 99).2), sy_i ((dc_Text_readFirst (dc_Text_skipBlanks (sy_rd h)) a1).2), .ref 3], h29)) mj_d_21_101 (fun _ _ => rfl) ?_
                refine sy_cv (M' := mj_m_27) (vs := [.ref 3, sy_i ((dc_Text_readFirst (dc_Text_skipBlanks (sy_rd h)) a1).2), sy_i ((dc_Text_readNumber (dc_Text_skipBlanks (dc_Text_readFirst (dc_Text_skipBlanks (sy_rd h)) a1).1) 99).2)]) (rest := []) mj_d_21_102 rfl rfl rfl rfl th29 rfl rfl ⟨by decide, ⟨Nat.le_of_ble_eq_true rfl, Nat.le_of_ble_eq_true rfl, Nat.le_of_ble_eq_true rfl, Nat.le_of_ble_eq_true rfl, Nat.le_of_ble_eq_true rfl⟩⟩ (dt_Plan_tellHouse (a1 := (dc_Text_readFirst (dc_Text_skipBlanks (sy_rd h)) a1).2) (a2 := (dc_Text_readNumber (dc_Text_skipBlanks (dc_Text_readFirst (dc_Text_skipBlanks (sy_rd h)) a1).1) 99).2) th29 (by omega) (by omega) (by omega) (by omega)) ?_
                rintro _ h38 ⟨rfl, th38, eh38⟩
                rw [eh29] at eh38
                show sy_wp (mj_m_21, 105, [(3, sy_i ((dc_Text_readNumber (dc_Text_skipBlanks (dc_Text_readFirst (dc_Text_skipBlanks (sy_rd h)) a1).1) 99).2)), (2, sy_i ((dc_Text_readFirst (dc_Text_skipBlanks (sy_rd h)) a1).2)), (0, .ref 1), (1, sy_i a1)], [], h38) _
                refine sy_st (S' := (mj_m_21, 117, [(3, sy_i ((dc_Text_readNumber (dc_Text_skipBlanks (dc_Text_readFirst (dc_Text_skipBlanks (sy_rd h)) a1).1) 99).2)), (2, sy_i ((dc_Text_readFirst (dc_Text_skipBlanks (sy_rd h)) a1).2)), (0, .ref 1), (1, sy_i a1)], [], h38)) mj_d_21_105 (fun _ _ => rfl) ?_
                exact sy_retv mj_d_21_117 rfl ⟨rfl, th38, eh38⟩
            · skip
              rw [if_pos (Decidable.not_not.mp c34)]
              replace c34 := Decidable.not_not.mp c34
              refine sy_st (S' := (mj_m_21, 79, [(3, sy_i ((dc_Text_readNumber (dc_Text_skipBlanks (dc_Text_readFirst (dc_Text_skipBlanks (sy_rd h)) a1).1) 99).2)), (2, sy_i ((dc_Text_readFirst (dc_Text_skipBlanks (sy_rd h)) a1).2)), (0, .ref 1), (1, sy_i a1)], [.ref 1], h29)) mj_d_21_78 (fun _ _ => rfl) ?_
              refine sy_gr2 (b := 3) mj_d_21_79 rfl rfl (by decide) rfl rfl th29 ?_
              refine sy_st (S' := (mj_m_21, 83, [(3, sy_i ((dc_Text_readNumber (dc_Text_skipBlanks (dc_Text_readFirst (dc_Text_skipBlanks (sy_rd h)) a1).1) 99).2)), (2, sy_i ((dc_Text_readFirst (dc_Text_skipBlanks (sy_rd h)) a1).2)), (0, .ref 1), (1, sy_i a1)], [sy_i ((dc_Text_readFirst (dc_Text_skipBlanks (sy_rd h)) a1).2), .ref 3], h29)) mj_d_21_82 (fun _ _ => rfl) ?_
              refine sy_st (S' := (mj_m_21, 84, [(3, sy_i ((dc_Text_readNumber (dc_Text_skipBlanks (dc_Text_readFirst (dc_Text_skipBlanks (sy_rd h)) a1).1) 99).2)), (2, sy_i ((dc_Text_readFirst (dc_Text_skipBlanks (sy_rd h)) a1).2)), (0, .ref 1), (1, sy_i a1)], [sy_i ((dc_Text_readNumber (dc_Text_skipBlanks (dc_Text_readFirst (dc_Text_skipBlanks (sy_rd h)) a1).1) 99).2), sy_i ((dc_Text_readFirst (dc_Text_skipBlanks (sy_rd h)) a1).2), .ref 3], h29)) mj_d_21_83 (fun _ _ => rfl) ?_
              refine sy_cv (M' := mj_m_26) (vs := [.ref 3, sy_i ((dc_Text_readFirst (dc_Text_skipBlanks (sy_rd h)) a1).2), sy_i ((dc_Text_readNumber (dc_Text_skipBlanks (dc_Text_readFirst (dc_Text_skipBlanks (sy_rd h)) a1).1) 99).2)]) (rest := []) mj_d_21_84 rfl rfl rfl rfl th29 rfl rfl ⟨by decide, ⟨Nat.le_of_ble_eq_true rfl, Nat.le_of_ble_eq_true rfl, Nat.le_of_ble_eq_true rfl, Nat.le_of_ble_eq_true rfl, Nat.le_of_ble_eq_true rfl⟩⟩ (dt_Plan_tellCity (a1 := (dc_Text_readFirst (dc_Text_skipBlanks (sy_rd h)) a1).2) (a2 := (dc_Text_readNumber (dc_Text_skipBlanks (dc_Text_readFirst (dc_Text_skipBlanks (sy_rd h)) a1).1) 99).2) th29 (by omega) (by omega) (by omega) (by omega)) ?_
              rintro _ h40 ⟨rfl, th40, eh40⟩
              rw [eh29] at eh40
              show sy_wp (mj_m_21, 87, [(3, sy_i ((dc_Text_readNumber (dc_Text_skipBlanks (dc_Text_readFirst (dc_Text_skipBlanks (sy_rd h)) a1).1) 99).2)), (2, sy_i ((dc_Text_readFirst (dc_Text_skipBlanks (sy_rd h)) a1).2)), (0, .ref 1), (1, sy_i a1)], [], h40) _
              refine sy_st (S' := (mj_m_21, 117, [(3, sy_i ((dc_Text_readNumber (dc_Text_skipBlanks (dc_Text_readFirst (dc_Text_skipBlanks (sy_rd h)) a1).1) 99).2)), (2, sy_i ((dc_Text_readFirst (dc_Text_skipBlanks (sy_rd h)) a1).2)), (0, .ref 1), (1, sy_i a1)], [], h40)) mj_d_21_87 (fun _ _ => rfl) ?_
              exact sy_retv mj_d_21_117 rfl ⟨rfl, th40, eh40⟩
          · skip
            rw [if_neg c33]
            exact sy_retv mj_d_21_71 rfl ⟨rfl, th29, eh29⟩
      · skip
        rw [if_pos (Decidable.not_not.mp c13)]
        replace c13 := Decidable.not_not.mp c13
        refine sy_bip mj_d_21_42 (by decide) ?_
        refine sy_st (S' := (mj_m_21, 49, [(2, sy_i ((dc_Text_readFirst (dc_Text_skipBlanks (sy_rd h)) a1).2)), (0, .ref 1), (1, sy_i a1)], [sy_i 7, .ref 1], h7)) mj_d_21_44 (fun _ _ => rfl) ?_
        refine sy_cv (M' := mj_m_23) (vs := [.ref 1, sy_i 7]) (rest := []) mj_d_21_49 rfl rfl rfl rfl th7 rfl rfl ⟨by decide, ⟨Nat.le_of_ble_eq_true rfl, Nat.le_of_ble_eq_true rfl, Nat.le_of_ble_eq_true rfl, Nat.le_of_ble_eq_true rfl, Nat.le_of_ble_eq_true rfl⟩⟩ (dt_Text_readNumber (a1 := 7) th7 (by omega) (by omega)) ?_
        rintro _ h42 ⟨th42, eh42, rfl, b43, b43t⟩
        rw [eh7] at eh42 b43 b43t ⊢
        have q44 := df_num_f (dc_Text_skipBlanks (dc_Text_readFirst (dc_Text_skipBlanks (sy_rd h)) a1).1) 7
        show sy_wp (mj_m_21, 52, [(2, sy_i ((dc_Text_readFirst (dc_Text_skipBlanks (sy_rd h)) a1).2)), (0, .ref 1), (1, sy_i a1)], [sy_i ((dc_Text_readNumber (dc_Text_skipBlanks (dc_Text_readFirst (dc_Text_skipBlanks (sy_rd h)) a1).1) 7).2)], h42) _
        refine sy_st (S' := (mj_m_21, 53, [(3, sy_i ((dc_Text_readNumber (dc_Text_skipBlanks (dc_Text_readFirst (dc_Text_skipBlanks (sy_rd h)) a1).1) 7).2)), (2, sy_i ((dc_Text_readFirst (dc_Text_skipBlanks (sy_rd h)) a1).2)), (0, .ref 1), (1, sy_i a1)], [], h42)) mj_d_21_52 (fun _ _ => rfl) ?_
        refine sy_st (S' := (mj_m_21, 54, [(3, sy_i ((dc_Text_readNumber (dc_Text_skipBlanks (dc_Text_readFirst (dc_Text_skipBlanks (sy_rd h)) a1).1) 7).2)), (2, sy_i ((dc_Text_readFirst (dc_Text_skipBlanks (sy_rd h)) a1).2)), (0, .ref 1), (1, sy_i a1)], [.ref 1], h42)) mj_d_21_53 (fun _ _ => rfl) ?_
        refine sy_gf mj_d_21_54 rfl rfl (by decide) rfl th42 ?_
        intro x45 ex45 bx45 tx45
        rw [eh42] at ex45
        subst ex45
        refine sy_ifc mj_d_21_57 rfl ⟨by omega, by omega⟩ (fun (c46 : ¬ (((dc_Text_readNumber (dc_Text_skipBlanks (dc_Text_readFirst (dc_Text_skipBlanks (sy_rd h)) a1).1) 7).1 1 4) = 0)) => ?_) (fun (c46 : ¬ ¬ (((dc_Text_readNumber (dc_Text_skipBlanks (dc_Text_readFirst (dc_Text_skipBlanks (sy_rd h)) a1).1) 7).1 1 4) = 0)) => ?_)
        · skip
          rw [if_neg c46]
          refine sy_st (S' := (mj_m_21, 65, [(3, sy_i ((dc_Text_readNumber (dc_Text_skipBlanks (dc_Text_readFirst (dc_Text_skipBlanks (sy_rd h)) a1).1) 7).2)), (2, sy_i ((dc_Text_readFirst (dc_Text_skipBlanks (sy_rd h)) a1).2)), (0, .ref 1), (1, sy_i a1)], [.ref 1], h42)) mj_d_21_64 (fun _ _ => rfl) ?_
          refine sy_gf mj_d_21_65 rfl rfl (by decide) rfl th42 ?_
          intro x47 ex47 bx47 tx47
          rw [eh42] at ex47
          subst ex47
          refine sy_ifc mj_d_21_68 rfl ⟨by omega, by omega⟩ (fun (c48 : ((dc_Text_readNumber (dc_Text_skipBlanks (dc_Text_readFirst (dc_Text_skipBlanks (sy_rd h)) a1).1) 7).1 1 4) = 0) => ?_) (fun (c48 : ¬ (((dc_Text_readNumber (dc_Text_skipBlanks (dc_Text_readFirst (dc_Text_skipBlanks (sy_rd h)) a1).1) 7).1 1 4) = 0)) => ?_)
          · skip
            rw [if_pos c48]
            refine sy_st (S' := (mj_m_21, 73, [(3, sy_i ((dc_Text_readNumber (dc_Text_skipBlanks (dc_Text_readFirst (dc_Text_skipBlanks (sy_rd h)) a1).1) 7).2)), (2, sy_i ((dc_Text_readFirst (dc_Text_skipBlanks (sy_rd h)) a1).2)), (0, .ref 1), (1, sy_i a1)], [sy_i a1], h42)) mj_d_21_72 (fun _ _ => rfl) ?_
            refine sy_bip mj_d_21_73 (by decide) ?_
            refine sy_icm mj_d_21_75 rfl ⟨by omega, by omega⟩ ⟨by omega, by omega⟩ (fun (c49 : ¬ (a1 = 99)) => ?_) (fun (c49 : ¬ ¬ (a1 = 99)) => ?_)
            · skip
              rw [if_neg c49]
              refine sy_st (S' := (mj_m_21, 91, [(3, sy_i ((dc_Text_readNumber (dc_Text_skipBlanks (dc_Text_readFirst (dc_Text_skipBlanks (sy_rd h)) a1).1) 7).2)), (2, sy_i ((dc_Text_readFirst (dc_Text_skipBlanks (sy_rd h)) a1).2)), (0, .ref 1), (1, sy_i a1)], [sy_i a1], h42)) mj_d_21_90 (fun _ _ => rfl) ?_
              refine sy_bip mj_d_21_91 (by decide) ?_
              refine sy_icm mj_d_21_93 rfl ⟨by omega, by omega⟩ ⟨by omega, by omega⟩ (fun (c50 : ¬ (a1 = 104)) => ?_) (fun (c50 : ¬ ¬ (a1 = 104)) => ?_)
              · skip
                rw [if_neg c50]
                refine sy_st (S' := (mj_m_21, 109, [(3, sy_i ((dc_Text_readNumber (dc_Text_skipBlanks (dc_Text_readFirst (dc_Text_skipBlanks (sy_rd h)) a1).1) 7).2)), (2, sy_i ((dc_Text_readFirst (dc_Text_skipBlanks (sy_rd h)) a1).2)), (0, .ref 1), (1, sy_i a1)], [.ref 1], h42)) mj_d_21_108 (fun _ _ => rfl) ?_
                refine sy_gr2 (b := 3) mj_d_21_109 rfl rfl (by decide) rfl rfl th42 ?_
                refine sy_st (S' := (mj_m_21, 113, [(3, sy_i ((dc_Text_readNumber (dc_Text_skipBlanks (dc_Text_readFirst (dc_Text_skipBlanks (sy_rd h)) a1).1) 7).2)), (2, sy_i ((dc_Text_readFirst (dc_Text_skipBlanks (sy_rd h)) a1).2)), (0, .ref 1), (1, sy_i a1)], [sy_i ((dc_Text_readFirst (dc_Text_skipBlanks (sy_rd h)) a1).2), .ref 3], h42)) mj_d_21_112 (fun _ _ => rfl) ?_
                refine sy_st (S' := (mj_m_21, 114, [(3, sy_i ((dc_Text_readNumber (dc_Text_skipBlanks (dc_Text_readFirst (dc_Text_skipBlanks (sy_rd h)) a1).1) 7).2)), (2, sy_i ((dc_Text_readFirst (dc_Text_skipBlanks (sy_rd h)) a1).2)), (0, .ref 1), (1, sy_i a1)], [sy_i ((dc_Text_readNumber (dc_Text_skipBlanks (dc_Text_readFirst (dc_Text_skipBlanks (sy_rd h)) a1).1) 7).2), sy_i ((dc_Text_readFirst (dc_Text_skipBlanks (sy_rd h)) a1).2), .ref 3], h42)) mj_d_21_113 (fun _ _ => rfl) ?_
                refine sy_cv (M' := mj_m_28) (vs := [.ref 3, sy_i ((dc_Text_readFirst (dc_Text_skipBlanks (sy_rd h)) a1).2), sy_i ((dc_Text_readNumber (dc_Text_skipBlanks (dc_Text_readFirst (dc_Text_skipBlanks (sy_rd h)) a1).1) 7).2)]) (rest := []) mj_d_21_114 rfl rfl rfl rfl th42 rfl rfl ⟨by decide, ⟨Nat.le_of_ble_eq_true rfl, Nat.le_of_ble_eq_true rfl, Nat.le_of_ble_eq_true rfl, Nat.le_of_ble_eq_true rfl, Nat.le_of_ble_eq_true rfl⟩⟩ (dt_Plan_tellSweep (a1 := (dc_Text_readFirst (dc_Text_skipBlanks (sy_rd h)) a1).2) (a2 := (dc_Text_readNumber (dc_Text_skipBlanks (dc_Text_readFirst (dc_Text_skipBlanks (sy_rd h)) a1).1) 7).2) th42 (by omega) (by omega) (by omega) (by omega)) ?_
                rintro _ h51 ⟨rfl, th51, eh51⟩
                rw [eh42] at eh51
                show sy_wp (mj_m_21, 117, [(3, sy_i ((dc_Text_readNumber (dc_Text_skipBlanks (dc_Text_readFirst (dc_Text_skipBlanks (sy_rd h)) a1).1) 7).2)), (2, sy_i ((dc_Text_readFirst (dc_Text_skipBlanks (sy_rd h)) a1).2)), (0, .ref 1), (1, sy_i a1)], [], h51) _
                exact sy_retv mj_d_21_117 rfl ⟨rfl, th51, eh51⟩
              · skip
                rw [if_pos (Decidable.not_not.mp c50)]
                replace c50 := Decidable.not_not.mp c50
                refine sy_st (S' := (mj_m_21, 97, [(3, sy_i ((dc_Text_readNumber (dc_Text_skipBlanks (dc_Text_readFirst (dc_Text_skipBlanks (sy_rd h)) a1).1) 7).2)), (2, sy_i ((dc_Text_readFirst (dc_Text_skipBlanks (sy_rd h)) a1).2)), (0, .ref 1), (1, sy_i a1)], [.ref 1], h42)) mj_d_21_96 (fun _ _ => rfl) ?_
                refine sy_gr2 (b := 3) mj_d_21_97 rfl rfl (by decide) rfl rfl th42 ?_
                refine sy_st (S' := (mj_m_21, 101, [(3, sy_i ((dc_Text_readNumber (dc_Text_skipBlanks (dc_Text_readFirst (dc_Text_skipBlanks (sy_rd h)) a1).1) 7).2)), (2, sy_i ((dc_Text_readFirst (dc_Text_skipBlanks (sy_rd h)) a1).2)), (0, .ref 1), (1, sy_i a1)], [sy_i ((dc_Text_readFirst (dc_Text_skipBlanks (sy_rd h)) a1).2), .ref 3], h42)) mj_d_21_100 (fun _ _ => rfl) ?_
                refine sy_st (S' := (mj_m_21, 102, [(3, sy_i ((dc_Text_readNumber (dc_Text_skipBlanks (dc_Text_readFirst (dc_Text_skipBlanks (sy_rd h)) a1).1) 7).2)), (2, sy_i ((dc_Text_readFirst (dc_Text_skipBlanks (sy_rd h)) a1).2)), (0, .ref 1), (1, sy_i a1)], [sy_i ((dc_Text_readNumber (dc_Text_skipBlanks (dc_Text_readFirst (dc_Text_skipBlanks (sy_rd h)) a1).1) 7).2), sy_i ((dc_Text_readFirst (dc_Text_skipBlanks (sy_rd h)) a1).2), .ref 3], h42)) mj_d_21_101 (fun _ _ => rfl) ?_
                refine sy_cv (M' := mj_m_27) (vs := [.ref 3, sy_i ((dc_Text_readFirst (dc_Text_skipBlanks (sy_rd h)) a1).2), sy_i ((dc_Text_readNumber (dc_Text_skipBlanks (dc_Text_readFirst (dc_Text_skipBlanks (sy_rd h)) a1).1) 7).2)]) (rest := []) mj_d_21_102 rfl rfl rfl rfl th42 rfl rfl ⟨by decide, ⟨Nat.le_of_ble_eq_true rfl, Nat.le_of_ble_eq_true rfl, Nat.le_of_ble_eq_true rfl, Nat.le_of_ble_eq_true rfl, Nat.le_of_ble_eq_true rfl⟩⟩ (dt_Plan_tellHouse (a1 := (dc_Text_readFirst (dc_Text_skipBlanks (sy_rd h)) a1).2) (a2 := (dc_Text_readNumber (dc_Text_skipBlanks (dc_Text_readFirst (dc_Text_skipBlanks (sy_rd h)) a1).1) 7).2) th42 (by omega) (by omega) (by omega) (by omega)) ?_
                rintro _ h53 ⟨rfl, th53, eh53⟩
                rw [eh42] at eh53
                show sy_wp (mj_m_21, 105, [(3, sy_i ((dc_Text_readNumber (dc_Text_skipBlanks (dc_Text_readFirst (dc_Text_skipBlanks (sy_rd h)) a1).1) 7).2)), (2, sy_i ((dc_Text_readFirst (dc_Text_skipBlanks (sy_rd h)) a1).2)), (0, .ref 1), (1, sy_i a1)], [], h53) _
                refine sy_st (S' := (mj_m_21, 117, [(3, sy_i ((dc_Text_readNumber (dc_Text_skipBlanks (dc_Text_readFirst (dc_Text_skipBlanks (sy_rd h)) a1).1) 7).2)), (2, sy_i ((dc_Text_readFirst (dc_Text_skipBlanks (sy_rd h)) a1).2)), (0, .ref 1), (1, sy_i a1)], [], h53)) mj_d_21_105 (fun _ _ => rfl) ?_
                exact sy_retv mj_d_21_117 rfl ⟨rfl, th53, eh53⟩
            · skip
              rw [if_pos (Decidable.not_not.mp c49)]
              replace c49 := Decidable.not_not.mp c49
              refine sy_st (S' := (mj_m_21, 79, [(3, sy_i ((dc_Text_readNumber (dc_Text_skipBlanks (dc_Text_readFirst (dc_Text_skipBlanks (sy_rd h)) a1).1) 7).2)), (2, sy_i ((dc_Text_readFirst (dc_Text_skipBlanks (sy_rd h)) a1).2)), (0, .ref 1), (1, sy_i a1)], [.ref 1], h42)) mj_d_21_78 (fun _ _ => rfl) ?_
              refine sy_gr2 (b := 3) mj_d_21_79 rfl rfl (by decide) rfl rfl th42 ?_
              refine sy_st (S' := (mj_m_21, 83, [(3, sy_i ((dc_Text_readNumber (dc_Text_skipBlanks (dc_Text_readFirst (dc_Text_skipBlanks (sy_rd h)) a1).1) 7).2)), (2, sy_i ((dc_Text_readFirst (dc_Text_skipBlanks (sy_rd h)) a1).2)), (0, .ref 1), (1, sy_i a1)], [sy_i ((dc_Text_readFirst (dc_Text_skipBlanks (sy_rd h)) a1).2), .ref 3], h42)) mj_d_21_82 (fun _ _ => rfl) ?_
              refine sy_st (S' := (mj_m_21, 84, [(3, sy_i ((dc_Text_readNumber (dc_Text_skipBlanks (dc_Text_readFirst (dc_Text_skipBlanks (sy_rd h)) a1).1) 7).2)), (2, sy_i ((dc_Text_readFirst (dc_Text_skipBlanks (sy_rd h)) a1).2)), (0, .ref 1), (1, sy_i a1)], [sy_i ((dc_Text_readNumber (dc_Text_skipBlanks (dc_Text_readFirst (dc_Text_skipBlanks (sy_rd h)) a1).1) 7).2), sy_i ((dc_Text_readFirst (dc_Text_skipBlanks (sy_rd h)) a1).2), .ref 3], h42)) mj_d_21_83 (fun _ _ => rfl) ?_
              refine sy_cv (M' := mj_m_26) (vs := [.ref 3, sy_i ((dc_Text_readFirst (dc_Text_skipBlanks (sy_rd h)) a1).2), sy_i ((dc_Text_readNumber (dc_Text_skipBlanks (dc_Text_readFirst (dc_Text_skipBlanks (sy_rd h)) a1).1) 7).2)]) (rest := []) mj_d_21_84 rfl rfl rfl rfl th42 rfl rfl ⟨by decide, ⟨Nat.le_of_ble_eq_true rfl, Nat.le_of_ble_eq_true rfl, Nat.le_of_ble_eq_true rfl, Nat.le_of_ble_eq_true rfl, Nat.le_of_ble_eq_true rfl⟩⟩ (dt_Plan_tellCity (a1 := (dc_Text_readFirst (dc_Text_skipBlanks (sy_rd h)) a1).2) (a2 := (dc_Text_readNumber (dc_Text_skipBlanks (dc_Text_readFirst (dc_Text_skipBlanks (sy_rd h)) a1).1) 7).2) th42 (by omega) (by omega) (by omega) (by omega)) ?_
              rintro _ h55 ⟨rfl, th55, eh55⟩
              rw [eh42] at eh55
              show sy_wp (mj_m_21, 87, [(3, sy_i ((dc_Text_readNumber (dc_Text_skipBlanks (dc_Text_readFirst (dc_Text_skipBlanks (sy_rd h)) a1).1) 7).2)), (2, sy_i ((dc_Text_readFirst (dc_Text_skipBlanks (sy_rd h)) a1).2)), (0, .ref 1), (1, sy_i a1)], [], h55) _
              refine sy_st (S' := (mj_m_21, 117, [(3, sy_i ((dc_Text_readNumber (dc_Text_skipBlanks (dc_Text_readFirst (dc_Text_skipBlanks (sy_rd h)) a1).1) 7).2)), (2, sy_i ((dc_Text_readFirst (dc_Text_skipBlanks (sy_rd h)) a1).2)), (0, .ref 1), (1, sy_i a1)], [], h55)) mj_d_21_87 (fun _ _ => rfl) ?_
              exact sy_retv mj_d_21_117 rfl ⟨rfl, th55, eh55⟩
          · skip
            rw [if_neg c48]
            exact sy_retv mj_d_21_71 rfl ⟨rfl, th42, eh42⟩
        · skip
          rw [if_pos (Decidable.not_not.mp c46)]
          replace c46 := Decidable.not_not.mp c46
          refine sy_st (S' := (mj_m_21, 61, [(3, sy_i ((dc_Text_readNumber (dc_Text_skipBlanks (dc_Text_readFirst (dc_Text_skipBlanks (sy_rd h)) a1).1) 7).2)), (2, sy_i ((dc_Text_readFirst (dc_Text_skipBlanks (sy_rd h)) a1).2)), (0, .ref 1), (1, sy_i a1)], [.ref 1], h42)) mj_d_21_60 (fun _ _ => rfl) ?_
          refine sy_cv (M' := mj_m_25) (vs := [.ref 1]) (rest := []) mj_d_21_61 rfl rfl rfl rfl th42 rfl rfl ⟨by decide, ⟨Nat.le_of_ble_eq_true rfl, Nat.le_of_ble_eq_true rfl, Nat.le_of_ble_eq_true rfl, Nat.le_of_ble_eq_true rfl, Nat.le_of_ble_eq_true rfl⟩⟩ (dt_Text_readEnd th42) ?_
          rintro _ h57 ⟨rfl, th57, eh57⟩
          rw [eh42] at eh57
          have q59 := df_end_f (dc_Text_readNumber (dc_Text_skipBlanks (dc_Text_readFirst (dc_Text_skipBlanks (sy_rd h)) a1).1) 7).1
          show sy_wp (mj_m_21, 64, [(3, sy_i ((dc_Text_readNumber (dc_Text_skipBlanks (dc_Text_readFirst (dc_Text_skipBlanks (sy_rd h)) a1).1) 7).2)), (2, sy_i ((dc_Text_readFirst (dc_Text_skipBlanks (sy_rd h)) a1).2)), (0, .ref 1), (1, sy_i a1)], [], h57) _
          refine sy_st (S' := (mj_m_21, 65, [(3, sy_i ((dc_Text_readNumber (dc_Text_skipBlanks (dc_Text_readFirst (dc_Text_skipBlanks (sy_rd h)) a1).1) 7).2)), (2, sy_i ((dc_Text_readFirst (dc_Text_skipBlanks (sy_rd h)) a1).2)), (0, .ref 1), (1, sy_i a1)], [.ref 1], h57)) mj_d_21_64 (fun _ _ => rfl) ?_
          refine sy_gf mj_d_21_65 rfl rfl (by decide) rfl th57 ?_
          intro x60 ex60 bx60 tx60
          rw [eh57] at ex60
          subst ex60
          refine sy_ifc mj_d_21_68 rfl ⟨by omega, by omega⟩ (fun (c61 : ((dc_Text_readEnd (dc_Text_readNumber (dc_Text_skipBlanks (dc_Text_readFirst (dc_Text_skipBlanks (sy_rd h)) a1).1) 7).1) 1 4) = 0) => ?_) (fun (c61 : ¬ (((dc_Text_readEnd (dc_Text_readNumber (dc_Text_skipBlanks (dc_Text_readFirst (dc_Text_skipBlanks (sy_rd h)) a1).1) 7).1) 1 4) = 0)) => ?_)
          · skip
            rw [if_pos c61]
            refine sy_st (S' := (mj_m_21, 73, [(3, sy_i ((dc_Text_readNumber (dc_Text_skipBlanks (dc_Text_readFirst (dc_Text_skipBlanks (sy_rd h)) a1).1) 7).2)), (2, sy_i ((dc_Text_readFirst (dc_Text_skipBlanks (sy_rd h)) a1).2)), (0, .ref 1), (1, sy_i a1)], [sy_i a1], h57)) mj_d_21_72 (fun _ _ => rfl) ?_
            refine sy_bip mj_d_21_73 (by decide) ?_
            refine sy_icm mj_d_21_75 rfl ⟨by omega, by omega⟩ ⟨by omega, by omega⟩ (fun (c62 : ¬ (a1 = 99)) => ?_) (fun (c62 : ¬ ¬ (a1 = 99)) => ?_)
            · skip
              rw [if_neg c62]
              refine sy_st (S' := (mj_m_21, 91, [(3, sy_i ((dc_Text_readNumber (dc_Text_skipBlanks (dc_Text_readFirst (dc_Text_skipBlanks (sy_rd h)) a1).1) 7).2)), (2, sy_i ((dc_Text_readFirst (dc_Text_skipBlanks (sy_rd h)) a1).2)), (0, .ref 1), (1, sy_i a1)], [sy_i a1], h57)) mj_d_21_90 (fun _ _ => rfl) ?_
              refine sy_bip mj_d_21_91 (by decide) ?_
              refine sy_icm mj_d_21_93 rfl ⟨by omega, by omega⟩ ⟨by omega, by omega⟩ (fun (c63 : ¬ (a1 = 104)) => ?_) (fun (c63 : ¬ ¬ (a1 = 104)) => ?_)
              · skip
                rw [if_neg c63]
                refine sy_st (S' := (mj_m_21, 109, [(3, sy_i ((dc_Text_readNumber (dc_Text_skipBlanks (dc_Text_readFirst (dc_Text_skipBlanks (sy_rd h)) a1).1) 7).2)), (2, sy_i ((dc_Text_readFirst (dc_Text_skipBlanks (sy_rd h)) a1).2)), (0, .ref 1), (1, sy_i a1)], [.ref 1], h57)) mj_d_21_108 (fun _ _ => rfl) ?_
                refine sy_gr2 (b := 3) mj_d_21_109 rfl rfl (by decide) rfl rfl th57 ?_
                refine sy_st (S' := (mj_m_21, 113, [(3, sy_i ((dc_Text_readNumber (dc_Text_skipBlanks (dc_Text_readFirst (dc_Text_skipBlanks (sy_rd h)) a1).1) 7).2)), (2, sy_i ((dc_Text_readFirst (dc_Text_skipBlanks (sy_rd h)) a1).2)), (0, .ref 1), (1, sy_i a1)], [sy_i ((dc_Text_readFirst (dc_Text_skipBlanks (sy_rd h)) a1).2), .ref 3], h57)) mj_d_21_112 (fun _ _ => rfl) ?_
                refine sy_st (S' := (mj_m_21, 114, [(3, sy_i ((dc_Text_readNumber (dc_Text_skipBlanks (dc_Text_readFirst (dc_Text_skipBlanks (sy_rd h)) a1).1) 7).2)), (2, sy_i ((dc_Text_readFirst (dc_Text_skipBlanks (sy_rd h)) a1).2)), (0, .ref 1), (1, sy_i a1)], [sy_i ((dc_Text_readNumber (dc_Text_skipBlanks (dc_Text_readFirst (dc_Text_skipBlanks (sy_rd h)) a1).1) 7).2), sy_i ((dc_Text_readFirst (dc_Text_skipBlanks (sy_rd h)) a1).2), .ref 3], h57)) mj_d_21_113 (fun _ _ => rfl) ?_
                refine sy_cv (M' := mj_m_28) (vs := [.ref 3, sy_i ((dc_Text_readFirst (dc_Text_skipBlanks (sy_rd h)) a1).2), sy_i ((dc_Text_readNumber (dc_Text_skipBlanks (dc_Text_readFirst (dc_Text_skipBlanks (sy_rd h)) a1).1) 7).2)]) (rest := []) mj_d_21_114 rfl rfl rfl rfl th57 rfl rfl ⟨by decide, ⟨Nat.le_of_ble_eq_true rfl, Nat.le_of_ble_eq_true rfl, Nat.le_of_ble_eq_true rfl, Nat.le_of_ble_eq_true rfl, Nat.le_of_ble_eq_true rfl⟩⟩ (dt_Plan_tellSweep (a1 := (dc_Text_readFirst (dc_Text_skipBlanks (sy_rd h)) a1).2) (a2 := (dc_Text_readNumber (dc_Text_skipBlanks (dc_Text_readFirst (dc_Text_skipBlanks (sy_rd h)) a1).1) 7).2) th57 (by omega) (by omega) (by omega) (by omega)) ?_
                rintro _ h64 ⟨rfl, th64, eh64⟩
                rw [eh57] at eh64
                show sy_wp (mj_m_21, 117, [(3, sy_i ((dc_Text_readNumber (dc_Text_skipBlanks (dc_Text_readFirst (dc_Text_skipBlanks (sy_rd h)) a1).1) 7).2)), (2, sy_i ((dc_Text_readFirst (dc_Text_skipBlanks (sy_rd h)) a1).2)), (0, .ref 1), (1, sy_i a1)], [], h64) _
                exact sy_retv mj_d_21_117 rfl ⟨rfl, th64, eh64⟩
              · skip
                rw [if_pos (Decidable.not_not.mp c63)]
                replace c63 := Decidable.not_not.mp c63
                refine sy_st (S' := (mj_m_21, 97, [(3, sy_i ((dc_Text_readNumber (dc_Text_skipBlanks (dc_Text_readFirst (dc_Text_skipBlanks (sy_rd h)) a1).1) 7).2)), (2, sy_i ((dc_Text_readFirst (dc_Text_skipBlanks (sy_rd h)) a1).2)), (0, .ref 1), (1, sy_i a1)], [.ref 1], h57)) mj_d_21_96 (fun _ _ => rfl) ?_
                refine sy_gr2 (b := 3) mj_d_21_97 rfl rfl (by decide) rfl rfl th57 ?_
                refine sy_st (S' := (mj_m_21, 101, [(3, sy_i ((dc_Text_readNumber (dc_Text_skipBlanks (dc_Text_readFirst (dc_Text_skipBlanks (sy_rd h)) a1).1) 7).2)), (2, sy_i ((dc_Text_readFirst (dc_Text_skipBlanks (sy_rd h)) a1).2)), (0, .ref 1), (1, sy_i a1)], [sy_i ((dc_Text_readFirst (dc_Text_skipBlanks (sy_rd h)) a1).2), .ref 3], h57)) mj_d_21_100 (fun _ _ => rfl) ?_
                refine sy_st (S' := (mj_m_21, 102, [(3, sy_i ((dc_Text_readNumber (dc_Text_skipBlanks (dc_Text_readFirst (dc_Text_skipBlanks (sy_rd h)) a1).1) 7).2)), (2, sy_i ((dc_Text_readFirst (dc_Text_skipBlanks (sy_rd h)) a1).2)), (0, .ref 1), (1, sy_i a1)], [sy_i ((dc_Text_readNumber (dc_Text_skipBlanks (dc_Text_readFirst (dc_Text_skipBlanks (sy_rd h)) a1).1) 7).2), sy_i ((dc_Text_readFirst (dc_Text_skipBlanks (sy_rd h)) a1).2), .ref 3], h57)) mj_d_21_101 (fun _ _ => rfl) ?_
                refine sy_cv (M' := mj_m_27) (vs := [.ref 3, sy_i ((dc_Text_readFirst (dc_Text_skipBlanks (sy_rd h)) a1).2), sy_i ((dc_Text_readNumber (dc_Text_skipBlanks (dc_Text_readFirst (dc_Text_skipBlanks (sy_rd h)) a1).1) 7).2)]) (rest := []) mj_d_21_102 rfl rfl rfl rfl th57 rfl rfl ⟨by decide, ⟨Nat.le_of_ble_eq_true rfl, Nat.le_of_ble_eq_true rfl, Nat.le_of_ble_eq_true rfl, Nat.le_of_ble_eq_true rfl, Nat.le_of_ble_eq_true rfl⟩⟩ (dt_Plan_tellHouse (a1 := (dc_Text_readFirst (dc_Text_skipBlanks (sy_rd h)) a1).2) (a2 := (dc_Text_readNumber (dc_Text_skipBlanks (dc_Text_readFirst (dc_Text_skipBlanks (sy_rd h)) a1).1) 7).2) th57 (by omega) (by omega) (by omega) (by omega)) ?_
                rintro _ h66 ⟨rfl, th66, eh66⟩
                rw [eh57] at eh66
                show sy_wp (mj_m_21, 105, [(3, sy_i ((dc_Text_readNumber (dc_Text_skipBlanks (dc_Text_readFirst (dc_Text_skipBlanks (sy_rd h)) a1).1) 7).2)), (2, sy_i ((dc_Text_readFirst (dc_Text_skipBlanks (sy_rd h)) a1).2)), (0, .ref 1), (1, sy_i a1)], [], h66) _
                refine sy_st (S' := (mj_m_21, 117, [(3, sy_i ((dc_Text_readNumber (dc_Text_skipBlanks (dc_Text_readFirst (dc_Text_skipBlanks (sy_rd h)) a1).1) 7).2)), (2, sy_i ((dc_Text_readFirst (dc_Text_skipBlanks (sy_rd h)) a1).2)), (0, .ref 1), (1, sy_i a1)], [], h66)) mj_d_21_105 (fun _ _ => rfl) ?_
                exact sy_retv mj_d_21_117 rfl ⟨rfl, th66, eh66⟩
            · skip
              rw [if_pos (Decidable.not_not.mp c62)]
              replace c62 := Decidable.not_not.mp c62
              refine sy_st (S' := (mj_m_21, 79, [(3, sy_i ((dc_Text_readNumber (dc_Text_skipBlanks (dc_Text_readFirst (dc_Text_skipBlanks (sy_rd h)) a1).1) 7).2)), (2, sy_i ((dc_Text_readFirst (dc_Text_skipBlanks (sy_rd h)) a1).2)), (0, .ref 1), (1, sy_i a1)], [.ref 1], h57)) mj_d_21_78 (fun _ _ => rfl) ?_
              refine sy_gr2 (b := 3) mj_d_21_79 rfl rfl (by decide) rfl rfl th57 ?_
              refine sy_st (S' := (mj_m_21, 83, [(3, sy_i ((dc_Text_readNumber (dc_Text_skipBlanks (dc_Text_readFirst (dc_Text_skipBlanks (sy_rd h)) a1).1) 7).2)), (2, sy_i ((dc_Text_readFirst (dc_Text_skipBlanks (sy_rd h)) a1).2)), (0, .ref 1), (1, sy_i a1)], [sy_i ((dc_Text_readFirst (dc_Text_skipBlanks (sy_rd h)) a1).2), .ref 3], h57)) mj_d_21_82 (fun _ _ => rfl) ?_
              refine sy_st (S' := (mj_m_21, 84, [(3, sy_i ((dc_Text_readNumber (dc_Text_skipBlanks (dc_Text_readFirst (dc_Text_skipBlanks (sy_rd h)) a1).1) 7).2)), (2, sy_i ((dc_Text_readFirst (dc_Text_skipBlanks (sy_rd h)) a1).2)), (0, .ref 1), (1, sy_i a1)], [sy_i ((dc_Text_readNumber (dc_Text_skipBlanks (dc_Text_readFirst (dc_Text_skipBlanks (sy_rd h)) a1).1) 7).2), sy_i ((dc_Text_readFirst (dc_Text_skipBlanks (sy_rd h)) a1).2), .ref 3], h57)) mj_d_21_83 (fun _ _ => rfl) ?_
              refine sy_cv (M' := mj_m_26) (vs := [.ref 3, sy_i ((dc_Text_readFirst (dc_Text_skipBlanks (sy_rd h)) a1).2), sy_i ((dc_Text_readNumber (dc_Text_skipBlanks (dc_Text_readFirst (dc_Text_skipBlanks (sy_rd h)) a1).1) 7).2)]) (rest := []) mj_d_21_84 rfl rfl rfl rfl th57 rfl rfl ⟨by decide, ⟨Nat.le_of_ble_eq_true rfl, Nat.le_of_ble_eq_true rfl, Nat.le_of_ble_eq_true rfl, Nat.le_of_ble_eq_true rfl, Nat.le_of_ble_eq_true rfl⟩⟩ (dt_Plan_tellCity (a1 := (dc_Text_readFirst (dc_Text_skipBlanks (sy_rd h)) a1).2) (a2 := (dc_Text_readNumber (dc_Text_skipBlanks (dc_Text_readFirst (dc_Text_skipBlanks (sy_rd h)) a1).1) 7).2) th57 (by omega) (by omega) (by omega) (by omega)) ?_
              rintro _ h68 ⟨rfl, th68, eh68⟩
              rw [eh57] at eh68
              show sy_wp (mj_m_21, 87, [(3, sy_i ((dc_Text_readNumber (dc_Text_skipBlanks (dc_Text_readFirst (dc_Text_skipBlanks (sy_rd h)) a1).1) 7).2)), (2, sy_i ((dc_Text_readFirst (dc_Text_skipBlanks (sy_rd h)) a1).2)), (0, .ref 1), (1, sy_i a1)], [], h68) _
              refine sy_st (S' := (mj_m_21, 117, [(3, sy_i ((dc_Text_readNumber (dc_Text_skipBlanks (dc_Text_readFirst (dc_Text_skipBlanks (sy_rd h)) a1).1) 7).2)), (2, sy_i ((dc_Text_readFirst (dc_Text_skipBlanks (sy_rd h)) a1).2)), (0, .ref 1), (1, sy_i a1)], [], h68)) mj_d_21_87 (fun _ _ => rfl) ?_
              exact sy_retv mj_d_21_117 rfl ⟨rfl, th68, eh68⟩
          · skip
            rw [if_neg c61]
            exact sy_retv mj_d_21_71 rfl ⟨rfl, th57, eh57⟩
    · skip
      rw [if_pos (Decidable.not_not.mp c12)]
      replace c12 := Decidable.not_not.mp c12
      refine sy_st (S' := (mj_m_21, 33, [(2, sy_i ((dc_Text_readFirst (dc_Text_skipBlanks (sy_rd h)) a1).2)), (0, .ref 1), (1, sy_i a1)], [sy_i 4, .ref 1], h7)) mj_d_21_32 (fun _ _ => rfl) ?_
      refine sy_st (S' := (mj_m_21, 49, [(2, sy_i ((dc_Text_readFirst (dc_Text_skipBlanks (sy_rd h)) a1).2)), (0, .ref 1), (1, sy_i a1)], [sy_i 4, .ref 1], h7)) mj_d_21_33 (fun _ _ => rfl) ?_
      refine sy_cv (M' := mj_m_23) (vs := [.ref 1, sy_i 4]) (rest := []) mj_d_21_49 rfl rfl rfl rfl th7 rfl rfl ⟨by decide, ⟨Nat.le_of_ble_eq_true rfl, Nat.le_of_ble_eq_true rfl, Nat.le_of_ble_eq_true rfl, Nat.le_of_ble_eq_true rfl, Nat.le_of_ble_eq_true rfl⟩⟩ (dt_Text_readNumber (a1 := 4) th7 (by omega) (by omega)) ?_
      rintro _ h70 ⟨th70, eh70, rfl, b71, b71t⟩
      rw [eh7] at eh70 b71 b71t ⊢
      have q72 := df_num_f (dc_Text_skipBlanks (dc_Text_readFirst (dc_Text_skipBlanks (sy_rd h)) a1).1) 4
      show sy_wp (mj_m_21, 52, [(2, sy_i ((dc_Text_readFirst (dc_Text_skipBlanks (sy_rd h)) a1).2)), (0, .ref 1), (1, sy_i a1)], [sy_i ((dc_Text_readNumber (dc_Text_skipBlanks (dc_Text_readFirst (dc_Text_skipBlanks (sy_rd h)) a1).1) 4).2)], h70) _
      refine sy_st (S' := (mj_m_21, 53, [(3, sy_i ((dc_Text_readNumber (dc_Text_skipBlanks (dc_Text_readFirst (dc_Text_skipBlanks (sy_rd h)) a1).1) 4).2)), (2, sy_i ((dc_Text_readFirst (dc_Text_skipBlanks (sy_rd h)) a1).2)), (0, .ref 1), (1, sy_i a1)], [], h70)) mj_d_21_52 (fun _ _ => rfl) ?_
      refine sy_st (S' := (mj_m_21, 54, [(3, sy_i ((dc_Text_readNumber (dc_Text_skipBlanks (dc_Text_readFirst (dc_Text_skipBlanks (sy_rd h)) a1).1) 4).2)), (2, sy_i ((dc_Text_readFirst (dc_Text_skipBlanks (sy_rd h)) a1).2)), (0, .ref 1), (1, sy_i a1)], [.ref 1], h70)) mj_d_21_53 (fun _ _ => rfl) ?_
      refine sy_gf mj_d_21_54 rfl rfl (by decide) rfl th70 ?_
      intro x73 ex73 bx73 tx73
      rw [eh70] at ex73
      subst ex73
      refine sy_ifc mj_d_21_57 rfl ⟨by omega, by omega⟩ (fun (c74 : ¬ (((dc_Text_readNumber (dc_Text_skipBlanks (dc_Text_readFirst (dc_Text_skipBlanks (sy_rd h)) a1).1) 4).1 1 4) = 0)) => ?_) (fun (c74 : ¬ ¬ (((dc_Text_readNumber (dc_Text_skipBlanks (dc_Text_readFirst (dc_Text_skipBlanks (sy_rd h)) a1).1) 4).1 1 4) = 0)) => ?_)
      · skip
        rw [if_neg c74]
        refine sy_st (S' := (mj_m_21, 65, [(3, sy_i ((dc_Text_readNumber (dc_Text_skipBlanks (dc_Text_readFirst (dc_Text_skipBlanks (sy_rd h)) a1).1) 4).2)), (2, sy_i ((dc_Text_readFirst (dc_Text_skipBlanks (sy_rd h)) a1).2)), (0, .ref 1), (1, sy_i a1)], [.ref 1], h70)) mj_d_21_64 (fun _ _ => rfl) ?_
        refine sy_gf mj_d_21_65 rfl rfl (by decide) rfl th70 ?_
        intro x75 ex75 bx75 tx75
        rw [eh70] at ex75
        subst ex75
        refine sy_ifc mj_d_21_68 rfl ⟨by omega, by omega⟩ (fun (c76 : ((dc_Text_readNumber (dc_Text_skipBlanks (dc_Text_readFirst (dc_Text_skipBlanks (sy_rd h)) a1).1) 4).1 1 4) = 0) => ?_) (fun (c76 : ¬ (((dc_Text_readNumber (dc_Text_skipBlanks (dc_Text_readFirst (dc_Text_skipBlanks (sy_rd h)) a1).1) 4).1 1 4) = 0)) => ?_)
        · skip
          rw [if_pos c76]
          refine sy_st (S' := (mj_m_21, 73, [(3, sy_i ((dc_Text_readNumber (dc_Text_skipBlanks (dc_Text_readFirst (dc_Text_skipBlanks (sy_rd h)) a1).1) 4).2)), (2, sy_i ((dc_Text_readFirst (dc_Text_skipBlanks (sy_rd h)) a1).2)), (0, .ref 1), (1, sy_i a1)], [sy_i a1], h70)) mj_d_21_72 (fun _ _ => rfl) ?_
          refine sy_bip mj_d_21_73 (by decide) ?_
          refine sy_icm mj_d_21_75 rfl ⟨by omega, by omega⟩ ⟨by omega, by omega⟩ (fun (c77 : ¬ (a1 = 99)) => ?_) (fun (c77 : ¬ ¬ (a1 = 99)) => ?_)
          · skip
            rw [if_neg c77]
            refine sy_st (S' := (mj_m_21, 91, [(3, sy_i ((dc_Text_readNumber (dc_Text_skipBlanks (dc_Text_readFirst (dc_Text_skipBlanks (sy_rd h)) a1).1) 4).2)), (2, sy_i ((dc_Text_readFirst (dc_Text_skipBlanks (sy_rd h)) a1).2)), (0, .ref 1), (1, sy_i a1)], [sy_i a1], h70)) mj_d_21_90 (fun _ _ => rfl) ?_
            refine sy_bip mj_d_21_91 (by decide) ?_
            refine sy_icm mj_d_21_93 rfl ⟨by omega, by omega⟩ ⟨by omega, by omega⟩ (fun (c78 : ¬ (a1 = 104)) => ?_) (fun (c78 : ¬ ¬ (a1 = 104)) => ?_)
            · skip
              rw [if_neg c78]
              refine sy_st (S' := (mj_m_21, 109, [(3, sy_i ((dc_Text_readNumber (dc_Text_skipBlanks (dc_Text_readFirst (dc_Text_skipBlanks (sy_rd h)) a1).1) 4).2)), (2, sy_i ((dc_Text_readFirst (dc_Text_skipBlanks (sy_rd h)) a1).2)), (0, .ref 1), (1, sy_i a1)], [.ref 1], h70)) mj_d_21_108 (fun _ _ => rfl) ?_
              refine sy_gr2 (b := 3) mj_d_21_109 rfl rfl (by decide) rfl rfl th70 ?_
              refine sy_st (S' := (mj_m_21, 113, [(3, sy_i ((dc_Text_readNumber (dc_Text_skipBlanks (dc_Text_readFirst (dc_Text_skipBlanks (sy_rd h)) a1).1) 4).2)), (2, sy_i ((dc_Text_readFirst (dc_Text_skipBlanks (sy_rd h)) a1).2)), (0, .ref 1), (1, sy_i a1)], [sy_i ((dc_Text_readFirst (dc_Text_skipBlanks (sy_rd h)) a1).2), .ref 3], h70)) mj_d_21_112 (fun _ _ => rfl) ?_
              refine sy_st (S' := (mj_m_21, 114, [(3, sy_i ((dc_Text_readNumber (dc_Text_skipBlanks (dc_Text_readFirst (dc_Text_skipBlanks (sy_rd h)) a1).1) 4).2)), (2, sy_i ((dc_Text_readFirst (dc_Text_skipBlanks (sy_rd h)) a1).2)), (0, .ref 1), (1, sy_i a1)], [sy_i ((dc_Text_readNumber (dc_Text_skipBlanks (dc_Text_readFirst (dc_Text_skipBlanks (sy_rd h)) a1).1) 4).2), sy_i ((dc_Text_readFirst (dc_Text_skipBlanks (sy_rd h)) a1).2), .ref 3], h70)) mj_d_21_113 (fun _ _ => rfl) ?_
              refine sy_cv (M' := mj_m_28) (vs := [.ref 3, sy_i ((dc_Text_readFirst (dc_Text_skipBlanks (sy_rd h)) a1).2), sy_i ((dc_Text_readNumber (dc_Text_skipBlanks (dc_Text_readFirst (dc_Text_skipBlanks (sy_rd h)) a1).1) 4).2)]) (rest := []) mj_d_21_114 rfl rfl rfl rfl th70 rfl rfl ⟨by decide, ⟨Nat.le_of_ble_eq_true rfl, Nat.le_of_ble_eq_true rfl, Nat.le_of_ble_eq_true rfl, Nat.le_of_ble_eq_true rfl, Nat.le_of_ble_eq_true rfl⟩⟩ (dt_Plan_tellSweep (a1 := (dc_Text_readFirst (dc_Text_skipBlanks (sy_rd h)) a1).2) (a2 := (dc_Text_readNumber (dc_Text_skipBlanks (dc_Text_readFirst (dc_Text_skipBlanks (sy_rd h)) a1).1) 4).2) th70 (by omega) (by omega) (by omega) (by omega)) ?_
              rintro _ h79 ⟨rfl, th79, eh79⟩
              rw [eh70] at eh79
              show sy_wp (mj_m_21, 117, [(3, sy_i ((dc_Text_readNumber (dc_Text_skipBlanks (dc_Text_readFirst (dc_Text_skipBlanks (sy_rd h)) a1).1) 4).2)), (2, sy_i ((dc_Text_readFirst (dc_Text_skipBlanks (sy_rd h)) a1).2)), (0, .ref 1), (1, sy_i a1)], [], h79) _
              exact sy_retv mj_d_21_117 rfl ⟨rfl, th79, eh79⟩
            · skip
              rw [if_pos (Decidable.not_not.mp c78)]
              replace c78 := Decidable.not_not.mp c78
              refine sy_st (S' := (mj_m_21, 97, [(3, sy_i ((dc_Text_readNumber (dc_Text_skipBlanks (dc_Text_readFirst (dc_Text_skipBlanks (sy_rd h)) a1).1) 4).2)), (2, sy_i ((dc_Text_readFirst (dc_Text_skipBlanks (sy_rd h)) a1).2)), (0, .ref 1), (1, sy_i a1)], [.ref 1], h70)) mj_d_21_96 (fun _ _ => rfl) ?_
              refine sy_gr2 (b := 3) mj_d_21_97 rfl rfl (by decide) rfl rfl th70 ?_
              refine sy_st (S' := (mj_m_21, 101, [(3, sy_i ((dc_Text_readNumber (dc_Text_skipBlanks (dc_Text_readFirst (dc_Text_skipBlanks (sy_rd h)) a1).1) 4).2)), (2, sy_i ((dc_Text_readFirst (dc_Text_skipBlanks (sy_rd h)) a1).2)), (0, .ref 1), (1, sy_i a1)], [sy_i ((dc_Text_readFirst (dc_Text_skipBlanks (sy_rd h)) a1).2), .ref 3], h70)) mj_d_21_100 (fun _ _ => rfl) ?_
              refine sy_st (S' := (mj_m_21, 102, [(3, sy_i ((dc_Text_readNumber (dc_Text_skipBlanks (dc_Text_readFirst (dc_Text_skipBlanks (sy_rd h)) a1).1) 4).2)), (2, sy_i ((dc_Text_readFirst (dc_Text_skipBlanks (sy_rd h)) a1).2)), (0, .ref 1), (1, sy_i a1)], [sy_i ((dc_Text_readNumber (dc_Text_skipBlanks (dc_Text_readFirst (dc_Text_skipBlanks (sy_rd h)) a1).1) 4).2), sy_i ((dc_Text_readFirst (dc_Text_skipBlanks (sy_rd h)) a1).2), .ref 3], h70)) mj_d_21_101 (fun _ _ => rfl) ?_
              refine sy_cv (M' := mj_m_27) (vs := [.ref 3, sy_i ((dc_Text_readFirst (dc_Text_skipBlanks (sy_rd h)) a1).2), sy_i ((dc_Text_readNumber (dc_Text_skipBlanks (dc_Text_readFirst (dc_Text_skipBlanks (sy_rd h)) a1).1) 4).2)]) (rest := []) mj_d_21_102 rfl rfl rfl rfl th70 rfl rfl ⟨by decide, ⟨Nat.le_of_ble_eq_true rfl, Nat.le_of_ble_eq_true rfl, Nat.le_of_ble_eq_true rfl, Nat.le_of_ble_eq_true rfl, Nat.le_of_ble_eq_true rfl⟩⟩ (dt_Plan_tellHouse (a1 := (dc_Text_readFirst (dc_Text_skipBlanks (sy_rd h)) a1).2) (a2 := (dc_Text_readNumber (dc_Text_skipBlanks (dc_Text_readFirst (dc_Text_skipBlanks (sy_rd h)) a1).1) 4).2) th70 (by omega) (by omega) (by omega) (by omega)) ?_
              rintro _ h81 ⟨rfl, th81, eh81⟩
              rw [eh70] at eh81
              show sy_wp (mj_m_21, 105, [(3, sy_i ((dc_Text_readNumber (dc_Text_skipBlanks (dc_Text_readFirst (dc_Text_skipBlanks (sy_rd h)) a1).1) 4).2)), (2, sy_i ((dc_Text_readFirst (dc_Text_skipBlanks (sy_rd h)) a1).2)), (0, .ref 1), (1, sy_i a1)], [], h81) _
              refine sy_st (S' := (mj_m_21, 117, [(3, sy_i ((dc_Text_readNumber (dc_Text_skipBlanks (dc_Text_readFirst (dc_Text_skipBlanks (sy_rd h)) a1).1) 4).2)), (2, sy_i ((dc_Text_readFirst (dc_Text_skipBlanks (sy_rd h)) a1).2)), (0, .ref 1), (1, sy_i a1)], [], h81)) mj_d_21_105 (fun _ _ => rfl) ?_
              exact sy_retv mj_d_21_117 rfl ⟨rfl, th81, eh81⟩
          · skip
            rw [if_pos (Decidable.not_not.mp c77)]
            replace c77 := Decidable.not_not.mp c77
            refine sy_st (S' := (mj_m_21, 79, [(3, sy_i ((dc_Text_readNumber (dc_Text_skipBlanks (dc_Text_readFirst (dc_Text_skipBlanks (sy_rd h)) a1).1) 4).2)), (2, sy_i ((dc_Text_readFirst (dc_Text_skipBlanks (sy_rd h)) a1).2)), (0, .ref 1), (1, sy_i a1)], [.ref 1], h70)) mj_d_21_78 (fun _ _ => rfl) ?_
            refine sy_gr2 (b := 3) mj_d_21_79 rfl rfl (by decide) rfl rfl th70 ?_
            refine sy_st (S' := (mj_m_21, 83, [(3, sy_i ((dc_Text_readNumber (dc_Text_skipBlanks (dc_Text_readFirst (dc_Text_skipBlanks (sy_rd h)) a1).1) 4).2)), (2, sy_i ((dc_Text_readFirst (dc_Text_skipBlanks (sy_rd h)) a1).2)), (0, .ref 1), (1, sy_i a1)], [sy_i ((dc_Text_readFirst (dc_Text_skipBlanks (sy_rd h)) a1).2), .ref 3], h70)) mj_d_21_82 (fun _ _ => rfl) ?_
            refine sy_st (S' := (mj_m_21, 84, [(3, sy_i ((dc_Text_readNumber (dc_Text_skipBlanks (dc_Text_readFirst (dc_Text_skipBlanks (sy_rd h)) a1).1) 4).2)), (2, sy_i ((dc_Text_readFirst (dc_Text_skipBlanks (sy_rd h)) a1).2)), (0, .ref 1), (1, sy_i a1)], [sy_i ((dc_Text_readNumber (dc_Text_skipBlanks (dc_Text_readFirst (dc_Text_skipBlanks (sy_rd h)) a1).1) 4).2), sy_i ((dc_Text_readFirst (dc_Text_skipBlanks (sy_rd h)) a1).2), .ref 3], h70)) mj_d_21_83 (fun _ _ => rfl) ?_
            refine sy_cv (M' := mj_m_26) (vs := [.ref 3, sy_i ((dc_Text_readFirst (dc_Text_skipBlanks (sy_rd h)) a1).2), sy_i ((dc_Text_readNumber (dc_Text_skipBlanks (dc_Text_readFirst (dc_Text_skipBlanks (sy_rd h)) a1).1) 4).2)]) (rest := []) mj_d_21_84 rfl rfl rfl rfl th70 rfl rfl ⟨by decide, ⟨Nat.le_of_ble_eq_true rfl, Nat.le_of_ble_eq_true rfl, Nat.le_of_ble_eq_true rfl, Nat.le_of_ble_eq_true rfl, Nat.le_of_ble_eq_true rfl⟩⟩ (dt_Plan_tellCity (a1 := (dc_Text_readFirst (dc_Text_skipBlanks (sy_rd h)) a1).2) (a2 := (dc_Text_readNumber (dc_Text_skipBlanks (dc_Text_readFirst (dc_Text_skipBlanks (sy_rd h)) a1).1) 4).2) th70 (by omega) (by omega) (by omega) (by omega)) ?_
            rintro _ h83 ⟨rfl, th83, eh83⟩
            rw [eh70] at eh83
            show sy_wp (mj_m_21, 87, [(3, sy_i ((dc_Text_readNumber (dc_Text_skipBlanks (dc_Text_readFirst (dc_Text_skipBlanks (sy_rd h)) a1).1) 4).2)), (2, sy_i ((dc_Text_readFirst (dc_Text_skipBlanks (sy_rd h)) a1).2)), (0, .ref 1), (1, sy_i a1)], [], h83) _
            refine sy_st (S' := (mj_m_21, 117, [(3, sy_i ((dc_Text_readNumber (dc_Text_skipBlanks (dc_Text_readFirst (dc_Text_skipBlanks (sy_rd h)) a1).1) 4).2)), (2, sy_i ((dc_Text_readFirst (dc_Text_skipBlanks (sy_rd h)) a1).2)), (0, .ref 1), (1, sy_i a1)], [], h83)) mj_d_21_87 (fun _ _ => rfl) ?_
            exact sy_retv mj_d_21_117 rfl ⟨rfl, th83, eh83⟩
        · skip
          rw [if_neg c76]
          exact sy_retv mj_d_21_71 rfl ⟨rfl, th70, eh70⟩
      · skip
        rw [if_pos (Decidable.not_not.mp c74)]
        replace c74 := Decidable.not_not.mp c74
        refine sy_st (S' := (mj_m_21, 61, [(3, sy_i ((dc_Text_readNumber (dc_Text_skipBlanks (dc_Text_readFirst (dc_Text_skipBlanks (sy_rd h)) a1).1) 4).2)), (2, sy_i ((dc_Text_readFirst (dc_Text_skipBlanks (sy_rd h)) a1).2)), (0, .ref 1), (1, sy_i a1)], [.ref 1], h70)) mj_d_21_60 (fun _ _ => rfl) ?_
        refine sy_cv (M' := mj_m_25) (vs := [.ref 1]) (rest := []) mj_d_21_61 rfl rfl rfl rfl th70 rfl rfl ⟨by decide, ⟨Nat.le_of_ble_eq_true rfl, Nat.le_of_ble_eq_true rfl, Nat.le_of_ble_eq_true rfl, Nat.le_of_ble_eq_true rfl, Nat.le_of_ble_eq_true rfl⟩⟩ (dt_Text_readEnd th70) ?_
        rintro _ h85 ⟨rfl, th85, eh85⟩
        rw [eh70] at eh85
        have q87 := df_end_f (dc_Text_readNumber (dc_Text_skipBlanks (dc_Text_readFirst (dc_Text_skipBlanks (sy_rd h)) a1).1) 4).1
        show sy_wp (mj_m_21, 64, [(3, sy_i ((dc_Text_readNumber (dc_Text_skipBlanks (dc_Text_readFirst (dc_Text_skipBlanks (sy_rd h)) a1).1) 4).2)), (2, sy_i ((dc_Text_readFirst (dc_Text_skipBlanks (sy_rd h)) a1).2)), (0, .ref 1), (1, sy_i a1)], [], h85) _
        refine sy_st (S' := (mj_m_21, 65, [(3, sy_i ((dc_Text_readNumber (dc_Text_skipBlanks (dc_Text_readFirst (dc_Text_skipBlanks (sy_rd h)) a1).1) 4).2)), (2, sy_i ((dc_Text_readFirst (dc_Text_skipBlanks (sy_rd h)) a1).2)), (0, .ref 1), (1, sy_i a1)], [.ref 1], h85)) mj_d_21_64 (fun _ _ => rfl) ?_
        refine sy_gf mj_d_21_65 rfl rfl (by decide) rfl th85 ?_
        intro x88 ex88 bx88 tx88
        rw [eh85] at ex88
        subst ex88
        refine sy_ifc mj_d_21_68 rfl ⟨by omega, by omega⟩ (fun (c89 : ((dc_Text_readEnd (dc_Text_readNumber (dc_Text_skipBlanks (dc_Text_readFirst (dc_Text_skipBlanks (sy_rd h)) a1).1) 4).1) 1 4) = 0) => ?_) (fun (c89 : ¬ (((dc_Text_readEnd (dc_Text_readNumber (dc_Text_skipBlanks (dc_Text_readFirst (dc_Text_skipBlanks (sy_rd h)) a1).1) 4).1) 1 4) = 0)) => ?_)
        · skip
          rw [if_pos c89]
          refine sy_st (S' := (mj_m_21, 73, [(3, sy_i ((dc_Text_readNumber (dc_Text_skipBlanks (dc_Text_readFirst (dc_Text_skipBlanks (sy_rd h)) a1).1) 4).2)), (2, sy_i ((dc_Text_readFirst (dc_Text_skipBlanks (sy_rd h)) a1).2)), (0, .ref 1), (1, sy_i a1)], [sy_i a1], h85)) mj_d_21_72 (fun _ _ => rfl) ?_
          refine sy_bip mj_d_21_73 (by decide) ?_
          refine sy_icm mj_d_21_75 rfl ⟨by omega, by omega⟩ ⟨by omega, by omega⟩ (fun (c90 : ¬ (a1 = 99)) => ?_) (fun (c90 : ¬ ¬ (a1 = 99)) => ?_)
          · skip
            rw [if_neg c90]
            refine sy_st (S' := (mj_m_21, 91, [(3, sy_i ((dc_Text_readNumber (dc_Text_skipBlanks (dc_Text_readFirst (dc_Text_skipBlanks (sy_rd h)) a1).1) 4).2)), (2, sy_i ((dc_Text_readFirst (dc_Text_skipBlanks (sy_rd h)) a1).2)), (0, .ref 1), (1, sy_i a1)], [sy_i a1], h85)) mj_d_21_90 (fun _ _ => rfl) ?_
            refine sy_bip mj_d_21_91 (by decide) ?_
            refine sy_icm mj_d_21_93 rfl ⟨by omega, by omega⟩ ⟨by omega, by omega⟩ (fun (c91 : ¬ (a1 = 104)) => ?_) (fun (c91 : ¬ ¬ (a1 = 104)) => ?_)
            · skip
              rw [if_neg c91]
              refine sy_st (S' := (mj_m_21, 109, [(3, sy_i ((dc_Text_readNumber (dc_Text_skipBlanks (dc_Text_readFirst (dc_Text_skipBlanks (sy_rd h)) a1).1) 4).2)), (2, sy_i ((dc_Text_readFirst (dc_Text_skipBlanks (sy_rd h)) a1).2)), (0, .ref 1), (1, sy_i a1)], [.ref 1], h85)) mj_d_21_108 (fun _ _ => rfl) ?_
              refine sy_gr2 (b := 3) mj_d_21_109 rfl rfl (by decide) rfl rfl th85 ?_
              refine sy_st (S' := (mj_m_21, 113, [(3, sy_i ((dc_Text_readNumber (dc_Text_skipBlanks (dc_Text_readFirst (dc_Text_skipBlanks (sy_rd h)) a1).1) 4).2)), (2, sy_i ((dc_Text_readFirst (dc_Text_skipBlanks (sy_rd h)) a1).2)), (0, .ref 1), (1, sy_i a1)], [sy_i ((dc_Text_readFirst (dc_Text_skipBlanks (sy_rd h)) a1).2), .ref 3], h85)) mj_d_21_112 (fun _ _ => rfl) ?_
              refine sy_st (S' := (mj_m_21, 114, [(3, sy_i ((dc_Text_readNumber (dc_Text_skipBlanks (dc_Text_readFirst (dc_Text_skipBlanks (sy_rd h)) a1).1) 4).2)), (2, sy_i ((dc_Text_readFirst (dc_Text_skipBlanks (sy_rd h)) a1).2)), (0, .ref 1), (1, sy_i a1)], [sy_i ((dc_Text_readNumber (dc_Text_skipBlanks (dc_Text_readFirst (dc_Text_skipBlanks (sy_rd h)) a1).1) 4).2), sy_i ((dc_Text_readFirst (dc_Text_skipBlanks (sy_rd h)) a1).2), .ref 3], h85)) mj_d_21_113 (fun _ _ => rfl) ?_
              refine sy_cv (M' := mj_m_28) (vs := [.ref 3, sy_i ((dc_Text_readFirst (dc_Text_skipBlanks (sy_rd h)) a1).2), sy_i ((dc_Text_readNumber (dc_Text_skipBlanks (dc_Text_readFirst (dc_Text_skipBlanks (sy_rd h)) a1).1) 4).2)]) (rest := []) mj_d_21_114 rfl rfl rfl rfl th85 rfl rfl ⟨by decide, ⟨Nat.le_of_ble_eq_true rfl, Nat.le_of_ble_eq_true rfl, Nat.le_of_ble_eq_true rfl, Nat.le_of_ble_eq_true rfl, Nat.le_of_ble_eq_true rfl⟩⟩ (dt_Plan_tellSweep (a1 := (dc_Text_readFirst (dc_Text_skipBlanks (sy_rd h)) a1).2) (a2 := (dc_Text_readNumber (dc_Text_skipBlanks (dc_Text_readFirst (dc_Text_skipBlanks (sy_rd h)) a1).1) 4).2) th85 (by omega) (by omega) (by omega) (by omega)) ?_
              rintro _ h92 ⟨rfl, th92, eh92⟩
              rw [eh85] at eh92
              show sy_wp (mj_m_21, 117, [(3, sy_i ((dc_Text_readNumber (dc_Text_skipBlanks (dc_Text_readFirst (dc_Text_skipBlanks (sy_rd h)) a1).1) 4).2)), (2, sy_i ((dc_Text_readFirst (dc_Text_skipBlanks (sy_rd h)) a1).2)), (0, .ref 1), (1, sy_i a1)], [], h92) _
              exact sy_retv mj_d_21_117 rfl ⟨rfl, th92, eh92⟩
            · skip
              rw [if_pos (Decidable.not_not.mp c91)]
              replace c91 := Decidable.not_not.mp c91
              refine sy_st (S' := (mj_m_21, 97, [(3, sy_i ((dc_Text_readNumber (dc_Text_skipBlanks (dc_Text_readFirst (dc_Text_skipBlanks (sy_rd h)) a1).1) 4).2)), (2, sy_i ((dc_Text_readFirst (dc_Text_skipBlanks (sy_rd h)) a1).2)), (0, .ref 1), (1, sy_i a1)], [.ref 1], h85)) mj_d_21_96 (fun _ _ => rfl) ?_
              refine sy_gr2 (b := 3) mj_d_21_97 rfl rfl (by decide) rfl rfl th85 ?_
              refine sy_st (S' := (mj_m_21, 101, [(3, sy_i ((dc_Text_readNumber (dc_Text_skipBlanks (dc_Text_readFirst (dc_Text_skipBlanks (sy_rd h)) a1).1) 4).2)), (2, sy_i ((dc_Text_readFirst (dc_Text_skipBlanks (sy_rd h)) a1).2)), (0, .ref 1), (1, sy_i a1)], [sy_i ((dc_Text_readFirst (dc_Text_skipBlanks (sy_rd h)) a1).2), .ref 3], h85)) mj_d_21_100 (fun _ _ => rfl) ?_
              refine sy_st (S' := (mj_m_21, 102, [(3, sy_i ((dc_Text_readNumber (dc_Text_skipBlanks (dc_Text_readFirst (dc_Text_skipBlanks (sy_rd h)) a1).1) 4).2)), (2, sy_i ((dc_Text_readFirst (dc_Text_skipBlanks (sy_rd h)) a1).2)), (0, .ref 1), (1, sy_i a1)], [sy_i ((dc_Text_readNumber (dc_Text_skipBlanks (dc_Text_readFirst (dc_Text_skipBlanks (sy_rd h)) a1).1) 4).2), sy_i ((dc_Text_readFirst (dc_Text_skipBlanks (sy_rd h)) a1).2), .ref 3], h85)) mj_d_21_101 (fun _ _ => rfl) ?_
              refine sy_cv (M' := mj_m_27) (vs := [.ref 3, sy_i ((dc_Text_readFirst (dc_Text_skipBlanks (sy_rd h)) a1).2), sy_i ((dc_Text_readNumber (dc_Text_skipBlanks (dc_Text_readFirst (dc_Text_skipBlanks (sy_rd h)) a1).1) 4).2)]) (rest := []) mj_d_21_102 rfl rfl rfl rfl th85 rfl rfl ⟨by decide, ⟨Nat.le_of_ble_eq_true rfl, Nat.le_of_ble_eq_true rfl, Nat.le_of_ble_eq_true rfl, Nat.le_of_ble_eq_true rfl, Nat.le_of_ble_eq_true rfl⟩⟩ (dt_Plan_tellHouse (a1 := (dc_Text_readFirst (dc_Text_skipBlanks (sy_rd h)) a1).2) (a2 := (dc_Text_readNumber (dc_Text_skipBlanks (dc_Text_readFirst (dc_Text_skipBlanks (sy_rd h)) a1).1) 4).2) th85 (by omega) (by omega) (by omega) (by omega)) ?_
              rintro _ h94 ⟨rfl, th94, eh94⟩
              rw [eh85] at eh94
              show sy_wp (mj_m_21, 105, [(3, sy_i ((dc_Text_readNumber (dc_Text_skipBlanks (dc_Text_readFirst (dc_Text_skipBlanks (sy_rd h)) a1).1) 4).2)), (2, sy_i ((dc_Text_readFirst (dc_Text_skipBlanks (sy_rd h)) a1).2)), (0, .ref 1), (1, sy_i a1)], [], h94) _
              refine sy_st (S' := (mj_m_21, 117, [(3, sy_i ((dc_Text_readNumber (dc_Text_skipBlanks (dc_Text_readFirst (dc_Text_skipBlanks (sy_rd h)) a1).1) 4).2)), (2, sy_i ((dc_Text_readFirst (dc_Text_skipBlanks (sy_rd h)) a1).2)), (0, .ref 1), (1, sy_i a1)], [], h94)) mj_d_21_105 (fun _ _ => rfl) ?_
              exact sy_retv mj_d_21_117 rfl ⟨rfl, th94, eh94⟩
          · skip
            rw [if_pos (Decidable.not_not.mp c90)]
            replace c90 := Decidable.not_not.mp c90
            refine sy_st (S' := (mj_m_21, 79, [(3, sy_i ((dc_Text_readNumber (dc_Text_skipBlanks (dc_Text_readFirst (dc_Text_skipBlanks (sy_rd h)) a1).1) 4).2)), (2, sy_i ((dc_Text_readFirst (dc_Text_skipBlanks (sy_rd h)) a1).2)), (0, .ref 1), (1, sy_i a1)], [.ref 1], h85)) mj_d_21_78 (fun _ _ => rfl) ?_
            refine sy_gr2 (b := 3) mj_d_21_79 rfl rfl (by decide) rfl rfl th85 ?_
            refine sy_st (S' := (mj_m_21, 83, [(3, sy_i ((dc_Text_readNumber (dc_Text_skipBlanks (dc_Text_readFirst (dc_Text_skipBlanks (sy_rd h)) a1).1) 4).2)), (2, sy_i ((dc_Text_readFirst (dc_Text_skipBlanks (sy_rd h)) a1).2)), (0, .ref 1), (1, sy_i a1)], [sy_i ((dc_Text_readFirst (dc_Text_skipBlanks (sy_rd h)) a1).2), .ref 3], h85)) mj_d_21_82 (fun _ _ => rfl) ?_
            refine sy_st (S' := (mj_m_21, 84, [(3, sy_i ((dc_Text_readNumber (dc_Text_skipBlanks (dc_Text_readFirst (dc_Text_skipBlanks (sy_rd h)) a1).1) 4).2)), (2, sy_i ((dc_Text_readFirst (dc_Text_skipBlanks (sy_rd h)) a1).2)), (0, .ref 1), (1, sy_i a1)], [sy_i ((dc_Text_readNumber (dc_Text_skipBlanks (dc_Text_readFirst (dc_Text_skipBlanks (sy_rd h)) a1).1) 4).2), sy_i ((dc_Text_readFirst (dc_Text_skipBlanks (sy_rd h)) a1).2), .ref 3], h85)) mj_d_21_83 (fun _ _ => rfl) ?_
            refine sy_cv (M' := mj_m_26) (vs := [.ref 3, sy_i ((dc_Text_readFirst (dc_Text_skipBlanks (sy_rd h)) a1).2), sy_i ((dc_Text_readNumber (dc_Text_skipBlanks (dc_Text_readFirst (dc_Text_skipBlanks (sy_rd h)) a1).1) 4).2)]) (rest := []) mj_d_21_84 rfl rfl rfl rfl th85 rfl rfl ⟨by decide, ⟨Nat.le_of_ble_eq_true rfl, Nat.le_of_ble_eq_true rfl, Nat.le_of_ble_eq_true rfl, Nat.le_of_ble_eq_true rfl, Nat.le_of_ble_eq_true rfl⟩⟩ (dt_Plan_tellCity (a1 := (dc_Text_readFirst (dc_Text_skipBlanks (sy_rd h)) a1).2) (a2 := (dc_Text_readNumber (dc_Text_skipBlanks (dc_Text_readFirst (dc_Text_skipBlanks (sy_rd h)) a1).1) 4).2) th85 (by omega) (by omega) (by omega) (by omega)) ?_
            rintro _ h96 ⟨rfl, th96, eh96⟩
            rw [eh85] at eh96
            show sy_wp (mj_m_21, 87, [(3, sy_i ((dc_Text_readNumber (dc_Text_skipBlanks (dc_Text_readFirst (dc_Text_skipBlanks (sy_rd h)) a1).1) 4).2)), (2, sy_i ((dc_Text_readFirst (dc_Text_skipBlanks (sy_rd h)) a1).2)), (0, .ref 1), (1, sy_i a1)], [], h96) _
            refine sy_st (S' := (mj_m_21, 117, [(3, sy_i ((dc_Text_readNumber (dc_Text_skipBlanks (dc_Text_readFirst (dc_Text_skipBlanks (sy_rd h)) a1).1) 4).2)), (2, sy_i ((dc_Text_readFirst (dc_Text_skipBlanks (sy_rd h)) a1).2)), (0, .ref 1), (1, sy_i a1)], [], h96)) mj_d_21_87 (fun _ _ => rfl) ?_
            exact sy_retv mj_d_21_117 rfl ⟨rfl, th96, eh96⟩
        · skip
          rw [if_neg c89]
          exact sy_retv mj_d_21_71 rfl ⟨rfl, th85, eh85⟩
  · skip
    rw [if_neg c11]
    refine sy_st (S' := (mj_m_21, 22, [(2, sy_i ((dc_Text_readFirst (dc_Text_skipBlanks (sy_rd h)) a1).2)), (0, .ref 1), (1, sy_i a1)], [sy_i 0], h7)) mj_d_21_21 (fun _ _ => rfl) ?_
    refine sy_st (S' := (mj_m_21, 52, [(2, sy_i ((dc_Text_readFirst (dc_Text_skipBlanks (sy_rd h)) a1).2)), (0, .ref 1), (1, sy_i a1)], [sy_i 0], h7)) mj_d_21_22 (fun _ _ => rfl) ?_
    refine sy_st (S' := (mj_m_21, 53, [(3, sy_i 0), (2, sy_i ((dc_Text_readFirst (dc_Text_skipBlanks (sy_rd h)) a1).2)), (0, .ref 1), (1, sy_i a1)], [], h7)) mj_d_21_52 (fun _ _ => rfl) ?_
    refine sy_st (S' := (mj_m_21, 54, [(3, sy_i 0), (2, sy_i ((dc_Text_readFirst (dc_Text_skipBlanks (sy_rd h)) a1).2)), (0, .ref 1), (1, sy_i a1)], [.ref 1], h7)) mj_d_21_53 (fun _ _ => rfl) ?_
    refine sy_gf mj_d_21_54 rfl rfl (by decide) rfl th7 ?_
    intro x98 ex98 bx98 tx98
    rw [eh7] at ex98
    subst ex98
    refine sy_ifc mj_d_21_57 rfl ⟨by omega, by omega⟩ (fun (c99 : ¬ (((dc_Text_skipBlanks (dc_Text_readFirst (dc_Text_skipBlanks (sy_rd h)) a1).1) 1 4) = 0)) => ?_) (fun (c99 : ¬ ¬ (((dc_Text_skipBlanks (dc_Text_readFirst (dc_Text_skipBlanks (sy_rd h)) a1).1) 1 4) = 0)) => ?_)
    · skip
      rw [if_neg c99]
      refine sy_st (S' := (mj_m_21, 65, [(3, sy_i 0), (2, sy_i ((dc_Text_readFirst (dc_Text_skipBlanks (sy_rd h)) a1).2)), (0, .ref 1), (1, sy_i a1)], [.ref 1], h7)) mj_d_21_64 (fun _ _ => rfl) ?_
      refine sy_gf mj_d_21_65 rfl rfl (by decide) rfl th7 ?_
      intro x100 ex100 bx100 tx100
      rw [eh7] at ex100
      subst ex100
      refine sy_ifc mj_d_21_68 rfl ⟨by omega, by omega⟩ (fun (c101 : ((dc_Text_skipBlanks (dc_Text_readFirst (dc_Text_skipBlanks (sy_rd h)) a1).1) 1 4) = 0) => ?_) (fun (c101 : ¬ (((dc_Text_skipBlanks (dc_Text_readFirst (dc_Text_skipBlanks (sy_rd h)) a1).1) 1 4) = 0)) => ?_)
      · skip
        rw [if_pos c101]
        refine sy_st (S' := (mj_m_21, 73, [(3, sy_i 0), (2, sy_i ((dc_Text_readFirst (dc_Text_skipBlanks (sy_rd h)) a1).2)), (0, .ref 1), (1, sy_i a1)], [sy_i a1], h7)) mj_d_21_72 (fun _ _ => rfl) ?_
        refine sy_bip mj_d_21_73 (by decide) ?_
        refine sy_icm mj_d_21_75 rfl ⟨by omega, by omega⟩ ⟨by omega, by omega⟩ (fun (c102 : ¬ (a1 = 99)) => ?_) (fun (c102 : ¬ ¬ (a1 = 99)) => ?_)
        · skip
          rw [if_neg c102]
          refine sy_st (S' := (mj_m_21, 91, [(3, sy_i 0), (2, sy_i ((dc_Text_readFirst (dc_Text_skipBlanks (sy_rd h)) a1).2)), (0, .ref 1), (1, sy_i a1)], [sy_i a1], h7)) mj_d_21_90 (fun _ _ => rfl) ?_
          refine sy_bip mj_d_21_91 (by decide) ?_
          refine sy_icm mj_d_21_93 rfl ⟨by omega, by omega⟩ ⟨by omega, by omega⟩ (fun (c103 : ¬ (a1 = 104)) => ?_) (fun (c103 : ¬ ¬ (a1 = 104)) => ?_)
          · skip
            rw [if_neg c103]
            refine sy_st (S' := (mj_m_21, 109, [(3, sy_i 0), (2, sy_i ((dc_Text_readFirst (dc_Text_skipBlanks (sy_rd h)) a1).2)), (0, .ref 1), (1, sy_i a1)], [.ref 1], h7)) mj_d_21_108 (fun _ _ => rfl) ?_
            refine sy_gr2 (b := 3) mj_d_21_109 rfl rfl (by decide) rfl rfl th7 ?_
            refine sy_st (S' := (mj_m_21, 113, [(3, sy_i 0), (2, sy_i ((dc_Text_readFirst (dc_Text_skipBlanks (sy_rd h)) a1).2)), (0, .ref 1), (1, sy_i a1)], [sy_i ((dc_Text_readFirst (dc_Text_skipBlanks (sy_rd h)) a1).2), .ref 3], h7)) mj_d_21_112 (fun _ _ => rfl) ?_
            refine sy_st (S' := (mj_m_21, 114, [(3, sy_i 0), (2, sy_i ((dc_Text_readFirst (dc_Text_skipBlanks (sy_rd h)) a1).2)), (0, .ref 1), (1, sy_i a1)], [sy_i 0, sy_i ((dc_Text_readFirst (dc_Text_skipBlanks (sy_rd h)) a1).2), .ref 3], h7)) mj_d_21_113 (fun _ _ => rfl) ?_
            refine sy_cv (M' := mj_m_28) (vs := [.ref 3, sy_i ((dc_Text_readFirst (dc_Text_skipBlanks (sy_rd h)) a1).2), sy_i 0]) (rest := []) mj_d_21_114 rfl rfl rfl rfl th7 rfl rfl ⟨by decide, ⟨Nat.le_of_ble_eq_true rfl, Nat.le_of_ble_eq_true rfl, Nat.le_of_ble_eq_true rfl, Nat.le_of_ble_eq_true rfl, Nat.le_of_ble_eq_true rfl⟩⟩ (dt_Plan_tellSweep (a1 := (dc_Text_readFirst (dc_Text_skipBlanks (sy_rd h)) a1).2) (a2 := 0) th7 (by omega) (by omega) (by omega) (by omega)) ?_
            rintro _ h104 ⟨rfl, th104, eh104⟩
            rw [eh7] at eh104
            show sy_wp (mj_m_21, 117, [(3, sy_i 0), (2, sy_i ((dc_Text_readFirst (dc_Text_skipBlanks (sy_rd h)) a1).2)), (0, .ref 1), (1, sy_i a1)], [], h104) _
            exact sy_retv mj_d_21_117 rfl ⟨rfl, th104, eh104⟩
          · skip
            rw [if_pos (Decidable.not_not.mp c103)]
            replace c103 := Decidable.not_not.mp c103
            refine sy_st (S' := (mj_m_21, 97, [(3, sy_i 0), (2, sy_i ((dc_Text_readFirst (dc_Text_skipBlanks (sy_rd h)) a1).2)), (0, .ref 1), (1, sy_i a1)], [.ref 1], h7)) mj_d_21_96 (fun _ _ => rfl) ?_
            refine sy_gr2 (b := 3) mj_d_21_97 rfl rfl (by decide) rfl rfl th7 ?_
            refine sy_st (S' := (mj_m_21, 101, [(3, sy_i 0), (2, sy_i ((dc_Text_readFirst (dc_Text_skipBlanks (sy_rd h)) a1).2)), (0, .ref 1), (1, sy_i a1)], [sy_i ((dc_Text_readFirst (dc_Text_skipBlanks (sy_rd h)) a1).2), .ref 3], h7)) mj_d_21_100 (fun _ _ => rfl) ?_
            refine sy_st (S' := (mj_m_21, 102, [(3, sy_i 0), (2, sy_i ((dc_Text_readFirst (dc_Text_skipBlanks (sy_rd h)) a1).2)), (0, .ref 1), (1, sy_i a1)], [sy_i 0, sy_i ((dc_Text_readFirst (dc_Text_skipBlanks (sy_rd h)) a1).2), .ref 3], h7)) mj_d_21_101 (fun _ _ => rfl) ?_
            refine sy_cv (M' := mj_m_27) (vs := [.ref 3, sy_i ((dc_Text_readFirst (dc_Text_skipBlanks (sy_rd h)) a1).2), sy_i 0]) (rest := []) mj_d_21_102 rfl rfl rfl rfl th7 rfl rfl ⟨by decide, ⟨Nat.le_of_ble_eq_true rfl, Nat.le_of_ble_eq_true rfl, Nat.le_of_ble_eq_true rfl, Nat.le_of_ble_eq_true rfl, Nat.le_of_ble_eq_true rfl⟩⟩ (dt_Plan_tellHouse (a1 := (dc_Text_readFirst (dc_Text_skipBlanks (sy_rd h)) a1).2) (a2 := 0) th7 (by omega) (by omega) (by omega) (by omega)) ?_
            rintro _ h106 ⟨rfl, th106, eh106⟩
            rw [eh7] at eh106
            show sy_wp (mj_m_21, 105, [(3, sy_i 0), (2, sy_i ((dc_Text_readFirst (dc_Text_skipBlanks (sy_rd h)) a1).2)), (0, .ref 1), (1, sy_i a1)], [], h106) _
            refine sy_st (S' := (mj_m_21, 117, [(3, sy_i 0), (2, sy_i ((dc_Text_readFirst (dc_Text_skipBlanks (sy_rd h)) a1).2)), (0, .ref 1), (1, sy_i a1)], [], h106)) mj_d_21_105 (fun _ _ => rfl) ?_
            exact sy_retv mj_d_21_117 rfl ⟨rfl, th106, eh106⟩
        · skip
          rw [if_pos (Decidable.not_not.mp c102)]
          replace c102 := Decidable.not_not.mp c102
          refine sy_st (S' := (mj_m_21, 79, [(3, sy_i 0), (2, sy_i ((dc_Text_readFirst (dc_Text_skipBlanks (sy_rd h)) a1).2)), (0, .ref 1), (1, sy_i a1)], [.ref 1], h7)) mj_d_21_78 (fun _ _ => rfl) ?_
          refine sy_gr2 (b := 3) mj_d_21_79 rfl rfl (by decide) rfl rfl th7 ?_
          refine sy_st (S' := (mj_m_21, 83, [(3, sy_i 0), (2, sy_i ((dc_Text_readFirst (dc_Text_skipBlanks (sy_rd h)) a1).2)), (0, .ref 1), (1, sy_i a1)], [sy_i ((dc_Text_readFirst (dc_Text_skipBlanks (sy_rd h)) a1).2), .ref 3], h7)) mj_d_21_82 (fun _ _ => rfl) ?_
          refine sy_st (S' := (mj_m_21, 84, [(3, sy_i 0), (2, sy_i ((dc_Text_readFirst (dc_Text_skipBlanks (sy_rd h)) a1).2)), (0, .ref 1), (1, sy_i a1)], [sy_i 0, sy_i ((dc_Text_readFirst (dc_Text_skipBlanks (sy_rd h)) a1).2), .ref 3], h7)) mj_d_21_83 (fun _ _ => rfl) ?_
          refine sy_cv (M' := mj_m_26) (vs := [.ref 3, sy_i ((dc_Text_readFirst (dc_Text_skipBlanks (sy_rd h)) a1).2), sy_i 0]) (rest := []) mj_d_21_84 rfl rfl rfl rfl th7 rfl rfl ⟨by decide, ⟨Nat.le_of_ble_eq_true rfl, Nat.le_of_ble_eq_true rfl, Nat.le_of_ble_eq_true rfl, Nat.le_of_ble_eq_true rfl, Nat.le_of_ble_eq_true rfl⟩⟩ (dt_Plan_tellCity (a1 := (dc_Text_readFirst (dc_Text_skipBlanks (sy_rd h)) a1).2) (a2 := 0) th7 (by omega) (by omega) (by omega) (by omega)) ?_
          rintro _ h108 ⟨rfl, th108, eh108⟩
          rw [eh7] at eh108
          show sy_wp (mj_m_21, 87, [(3, sy_i 0), (2, sy_i ((dc_Text_readFirst (dc_Text_skipBlanks (sy_rd h)) a1).2)), (0, .ref 1), (1, sy_i a1)], [], h108) _
          refine sy_st (S' := (mj_m_21, 117, [(3, sy_i 0), (2, sy_i ((dc_Text_readFirst (dc_Text_skipBlanks (sy_rd h)) a1).2)), (0, .ref 1), (1, sy_i a1)], [], h108)) mj_d_21_87 (fun _ _ => rfl) ?_
          exact sy_retv mj_d_21_117 rfl ⟨rfl, th108, eh108⟩
      · skip
        rw [if_neg c101]
        exact sy_retv mj_d_21_71 rfl ⟨rfl, th7, eh7⟩
    · skip
      rw [if_pos (Decidable.not_not.mp c99)]
      replace c99 := Decidable.not_not.mp c99
      refine sy_st (S' := (mj_m_21, 61, [(3, sy_i 0), (2, sy_i ((dc_Text_readFirst (dc_Text_skipBlanks (sy_rd h)) a1).2)), (0, .ref 1), (1, sy_i a1)], [.ref 1], h7)) mj_d_21_60 (fun _ _ => rfl) ?_
      refine sy_cv (M' := mj_m_25) (vs := [.ref 1]) (rest := []) mj_d_21_61 rfl rfl rfl rfl th7 rfl rfl ⟨by decide, ⟨Nat.le_of_ble_eq_true rfl, Nat.le_of_ble_eq_true rfl, Nat.le_of_ble_eq_true rfl, Nat.le_of_ble_eq_true rfl, Nat.le_of_ble_eq_true rfl⟩⟩ (dt_Text_readEnd th7) ?_
      rintro _ h110 ⟨rfl, th110, eh110⟩
      rw [eh7] at eh110
      have q112 := df_end_f (dc_Text_skipBlanks (dc_Text_readFirst (dc_Text_skipBlanks (sy_rd h)) a1).1)
      show sy_wp (mj_m_21, 64, [(3, sy_i 0), (2, sy_i ((dc_Text_readFirst (dc_Text_skipBlanks (sy_rd h)) a1).2)), (0, .ref 1), (1, sy_i a1)], [], h110) _
      refine sy_st (S' := (mj_m_21, 65, [(3, sy_i 0), (2, sy_i ((dc_Text_readFirst (dc_Text_skipBlanks (sy_rd h)) a1).2)), (0, .ref 1), (1, sy_i a1)], [.ref 1], h110)) mj_d_21_64 (fun _ _ => rfl) ?_
      refine sy_gf mj_d_21_65 rfl rfl (by decide) rfl th110 ?_
      intro x113 ex113 bx113 tx113
      rw [eh110] at ex113
      subst ex113
      refine sy_ifc mj_d_21_68 rfl ⟨by omega, by omega⟩ (fun (c114 : ((dc_Text_readEnd (dc_Text_skipBlanks (dc_Text_readFirst (dc_Text_skipBlanks (sy_rd h)) a1).1)) 1 4) = 0) => ?_) (fun (c114 : ¬ (((dc_Text_readEnd (dc_Text_skipBlanks (dc_Text_readFirst (dc_Text_skipBlanks (sy_rd h)) a1).1)) 1 4) = 0)) => ?_)
      · skip
        rw [if_pos c114]
        refine sy_st (S' := (mj_m_21, 73, [(3, sy_i 0), (2, sy_i ((dc_Text_readFirst (dc_Text_skipBlanks (sy_rd h)) a1).2)), (0, .ref 1), (1, sy_i a1)], [sy_i a1], h110)) mj_d_21_72 (fun _ _ => rfl) ?_
        refine sy_bip mj_d_21_73 (by decide) ?_
        refine sy_icm mj_d_21_75 rfl ⟨by omega, by omega⟩ ⟨by omega, by omega⟩ (fun (c115 : ¬ (a1 = 99)) => ?_) (fun (c115 : ¬ ¬ (a1 = 99)) => ?_)
        · skip
          rw [if_neg c115]
          refine sy_st (S' := (mj_m_21, 91, [(3, sy_i 0), (2, sy_i ((dc_Text_readFirst (dc_Text_skipBlanks (sy_rd h)) a1).2)), (0, .ref 1), (1, sy_i a1)], [sy_i a1], h110)) mj_d_21_90 (fun _ _ => rfl) ?_
          refine sy_bip mj_d_21_91 (by decide) ?_
          refine sy_icm mj_d_21_93 rfl ⟨by omega, by omega⟩ ⟨by omega, by omega⟩ (fun (c116 : ¬ (a1 = 104)) => ?_) (fun (c116 : ¬ ¬ (a1 = 104)) => ?_)
          · skip
            rw [if_neg c116]
            refine sy_st (S' := (mj_m_21, 109, [(3, sy_i 0), (2, sy_i ((dc_Text_readFirst (dc_Text_skipBlanks (sy_rd h)) a1).2)), (0, .ref 1), (1, sy_i a1)], [.ref 1], h110)) mj_d_21_108 (fun _ _ => rfl) ?_
            refine sy_gr2 (b := 3) mj_d_21_109 rfl rfl (by decide) rfl rfl th110 ?_
            refine sy_st (S' := (mj_m_21, 113, [(3, sy_i 0), (2, sy_i ((dc_Text_readFirst (dc_Text_skipBlanks (sy_rd h)) a1).2)), (0, .ref 1), (1, sy_i a1)], [sy_i ((dc_Text_readFirst (dc_Text_skipBlanks (sy_rd h)) a1).2), .ref 3], h110)) mj_d_21_112 (fun _ _ => rfl) ?_
            refine sy_st (S' := (mj_m_21, 114, [(3, sy_i 0), (2, sy_i ((dc_Text_readFirst (dc_Text_skipBlanks (sy_rd h)) a1).2)), (0, .ref 1), (1, sy_i a1)], [sy_i 0, sy_i ((dc_Text_readFirst (dc_Text_skipBlanks (sy_rd h)) a1).2), .ref 3], h110)) mj_d_21_113 (fun _ _ => rfl) ?_
            refine sy_cv (M' := mj_m_28) (vs := [.ref 3, sy_i ((dc_Text_readFirst (dc_Text_skipBlanks (sy_rd h)) a1).2), sy_i 0]) (rest := []) mj_d_21_114 rfl rfl rfl rfl th110 rfl rfl ⟨by decide, ⟨Nat.le_of_ble_eq_true rfl, Nat.le_of_ble_eq_true rfl, Nat.le_of_ble_eq_true rfl, Nat.le_of_ble_eq_true rfl, Nat.le_of_ble_eq_true rfl⟩⟩ (dt_Plan_tellSweep (a1 := (dc_Text_readFirst (dc_Text_skipBlanks (sy_rd h)) a1).2) (a2 := 0) th110 (by omega) (by omega) (by omega) (by omega)) ?_
            rintro _ h117 ⟨rfl, th117, eh117⟩
            rw [eh110] at eh117
            show sy_wp (mj_m_21, 117, [(3, sy_i 0), (2, sy_i ((dc_Text_readFirst (dc_Text_skipBlanks (sy_rd h)) a1).2)), (0, .ref 1), (1, sy_i a1)], [], h117) _
            exact sy_retv mj_d_21_117 rfl ⟨rfl, th117, eh117⟩
          · skip
            rw [if_pos (Decidable.not_not.mp c116)]
            replace c116 := Decidable.not_not.mp c116
            refine sy_st (S' := (mj_m_21, 97, [(3, sy_i 0), (2, sy_i ((dc_Text_readFirst (dc_Text_skipBlanks (sy_rd h)) a1).2)), (0, .ref 1), (1, sy_i a1)], [.ref 1], h110)) mj_d_21_96 (fun _ _ => rfl) ?_
            refine sy_gr2 (b := 3) mj_d_21_97 rfl rfl (by decide) rfl rfl th110 ?_
            refine sy_st (S' := (mj_m_21, 101, [(3, sy_i 0), (2, sy_i ((dc_Text_readFirst (dc_Text_skipBlanks (sy_rd h)) a1).2)), (0, .ref 1), (1, sy_i a1)], [sy_i ((dc_Text_readFirst (dc_Text_skipBlanks (sy_rd h)) a1).2), .ref 3], h110)) mj_d_21_100 (fun _ _ => rfl) ?_
            refine sy_st (S' := (mj_m_21, 102, [(3, sy_i 0), (2, sy_i ((dc_Text_readFirst (dc_Text_skipBlanks (sy_rd h)) a1).2)), (0, .ref 1), (1, sy_i a1)], [sy_i 0, sy_i ((dc_Text_readFirst (dc_Text_skipBlanks (sy_rd h)) a1).2), .ref 3], h110)) mj_d_21_101 (fun _ _ => rfl) ?_
            refine sy_cv (M' := mj_m_27) (vs := [.ref 3, sy_i ((dc_Text_readFirst (dc_Text_skipBlanks (sy_rd h)) a1).2), sy_i 0]) (rest := []) mj_d_21_102 rfl rfl rfl rfl th110 rfl rfl ⟨by decide, ⟨Nat.le_of_ble_eq_true rfl, Nat.le_of_ble_eq_true rfl, Nat.le_of_ble_eq_true rfl, Nat.le_of_ble_eq_true rfl, Nat.le_of_ble_eq_true rfl⟩⟩ (dt_Plan_tellHouse (a1 := (dc_Text_readFirst (dc_Text_skipBlanks (sy_rd h)) a1).2) (a2 := 0) th110 (by omega) (by omega) (by omega) (by omega)) ?_
            rintro _ h119 ⟨rfl, th119, eh119⟩
            rw [eh110] at eh119
            show sy_wp (mj_m_21, 105, [(3, sy_i 0), (2, sy_i ((dc_Text_readFirst (dc_Text_skipBlanks (sy_rd h)) a1).2)), (0, .ref 1), (1, sy_i a1)], [], h119) _
            refine sy_st (S' := (mj_m_21, 117, [(3, sy_i 0), (2, sy_i ((dc_Text_readFirst (dc_Text_skipBlanks (sy_rd h)) a1).2)), (0, .ref 1), (1, sy_i a1)], [], h119)) mj_d_21_105 (fun _ _ => rfl) ?_
            exact sy_retv mj_d_21_117 rfl ⟨rfl, th119, eh119⟩
        · skip
          rw [if_pos (Decidable.not_not.mp c115)]
          replace c115 := Decidable.not_not.mp c115
          refine sy_st (S' := (mj_m_21, 79, [(3, sy_i 0), (2, sy_i ((dc_Text_readFirst (dc_Text_skipBlanks (sy_rd h)) a1).2)), (0, .ref 1), (1, sy_i a1)], [.ref 1], h110)) mj_d_21_78 (fun _ _ => rfl) ?_
          refine sy_gr2 (b := 3) mj_d_21_79 rfl rfl (by decide) rfl rfl th110 ?_
          refine sy_st (S' := (mj_m_21, 83, [(3, sy_i 0), (2, sy_i ((dc_Text_readFirst (dc_Text_skipBlanks (sy_rd h)) a1).2)), (0, .ref 1), (1, sy_i a1)], [sy_i ((dc_Text_readFirst (dc_Text_skipBlanks (sy_rd h)) a1).2), .ref 3], h110)) mj_d_21_82 (fun _ _ => rfl) ?_
          refine sy_st (S' := (mj_m_21, 84, [(3, sy_i 0), (2, sy_i ((dc_Text_readFirst (dc_Text_skipBlanks (sy_rd h)) a1).2)), (0, .ref 1), (1, sy_i a1)], [sy_i 0, sy_i ((dc_Text_readFirst (dc_Text_skipBlanks (sy_rd h)) a1).2), .ref 3], h110)) mj_d_21_83 (fun _ _ => rfl) ?_
          refine sy_cv (M' := mj_m_26) (vs := [.ref 3, sy_i ((dc_Text_readFirst (dc_Text_skipBlanks (sy_rd h)) a1).2), sy_i 0]) (rest := []) mj_d_21_84 rfl rfl rfl rfl th110 rfl rfl ⟨by decide, ⟨Nat.le_of_ble_eq_true rfl, Nat.le_of_ble_eq_true rfl, Nat.le_of_ble_eq_true rfl, Nat.le_of_ble_eq_true rfl, Nat.le_of_ble_eq_true rfl⟩⟩ (dt_Plan_tellCity (a1 := (dc_Text_readFirst (dc_Text_skipBlanks (sy_rd h)) a1).2) (a2 := 0) th110 (by omega) (by omega) (by omega) (by omega)) ?_
          rintro _ h121 ⟨rfl, th121, eh121⟩
          rw [eh110] at eh121
          show sy_wp (mj_m_21, 87, [(3, sy_i 0), (2, sy_i ((dc_Text_readFirst (dc_Text_skipBlanks (sy_rd h)) a1).2)), (0, .ref 1), (1, sy_i a1)], [], h121) _
          refine sy_st (S' := (mj_m_21, 117, [(3, sy_i 0), (2, sy_i ((dc_Text_readFirst (dc_Text_skipBlanks (sy_rd h)) a1).2)), (0, .ref 1), (1, sy_i a1)], [], h121)) mj_d_21_87 (fun _ _ => rfl) ?_
          exact sy_retv mj_d_21_117 rfl ⟨rfl, th121, eh121⟩
      · skip
        rw [if_neg c114]
        exact sy_retv mj_d_21_71 rfl ⟨rfl, th110, eh110⟩
def dc_Text_readClause (s : sg_S) : sg_S := (if (dc_Text_mayBegin s (dc_Text_letter s)) = 0 then (dc_Text_fail s 1 (s 1 3)) else (if (dc_Text_isOneTooMany s (dc_Text_letter s)) = 0 then (dc_Text_readNumbersOf (sg_up s 1 3 (sy_w ((s 1 3) + 1))) (dc_Text_letter s)) else (dc_Text_fail s 3 (s 1 3))))
set_option maxRecDepth 100000 in
theorem dt_Text_readClause {h : mj_H} (hH : sy_H h) : sy_wp (mj_m_17, 0, [(0, .ref 1)], [], h) (dq3 (dc_Text_readClause (sy_rd h))) := by
  unfold dc_Text_readClause
  refine sy_st (S' := (mj_m_17, 1, [(0, .ref 1)], [.ref 1], h)) mj_d_17_0 (fun _ _ => rfl) ?_
  refine sy_cv (M' := mj_m_16) (vs := [.ref 1]) (rest := []) mj_d_17_1 rfl rfl rfl rfl hH rfl rfl ⟨by decide, ⟨Nat.le_of_ble_eq_true rfl, Nat.le_of_ble_eq_true rfl, Nat.le_of_ble_eq_true rfl, Nat.le_of_ble_eq_true rfl, Nat.le_of_ble_eq_true rfl⟩⟩ (dt_Text_letter hH) ?_
  rintro _ _ ⟨rfl, rfl, b1, b1t⟩
  show sy_wp (mj_m_17, 4, [(0, .ref 1)], [sy_i (dc_Text_letter (sy_rd h))], h) _
  refine sy_st (S' := (mj_m_17, 5, [(1, sy_i (dc_Text_letter (sy_rd h))), (0, .ref 1)], [], h)) mj_d_17_4 (fun _ _ => rfl) ?_
  refine sy_st (S' := (mj_m_17, 6, [(1, sy_i (dc_Text_letter (sy_rd h))), (0, .ref 1)], [.ref 1], h)) mj_d_17_5 (fun _ _ => rfl) ?_
  refine sy_st (S' := (mj_m_17, 7, [(1, sy_i (dc_Text_letter (sy_rd h))), (0, .ref 1)], [sy_i (dc_Text_letter (sy_rd h)), .ref 1], h)) mj_d_17_6 (fun _ _ => rfl) ?_
  refine sy_cv (M' := mj_m_18) (vs := [.ref 1, sy_i (dc_Text_letter (sy_rd h))]) (rest := []) mj_d_17_7 rfl rfl rfl rfl hH rfl rfl ⟨by decide, ⟨Nat.le_of_ble_eq_true rfl, Nat.le_of_ble_eq_true rfl, Nat.le_of_ble_eq_true rfl, Nat.le_of_ble_eq_true rfl, Nat.le_of_ble_eq_true rfl⟩⟩ (dt_Text_mayBegin (a1 := (dc_Text_letter (sy_rd h))) hH (by omega) (by omega)) ?_
  rintro _ _ ⟨rfl, rfl, b2, b2t⟩
  have q3 := df_Text_mayBegin_0 (sy_rd h) (dc_Text_letter (sy_rd h))
  show sy_wp (mj_m_17, 10, [(1, sy_i (dc_Text_letter (sy_rd h))), (0, .ref 1)], [sy_i (dc_Text_mayBegin (sy_rd h) (dc_Text_letter (sy_rd h)))], h) _
  refine sy_ifc mj_d_17_10 rfl ⟨by omega, by omega⟩ (fun (c4 : ¬ ((dc_Text_mayBegin (sy_rd h) (dc_Text_letter (sy_rd h))) = 0)) => ?_) (fun (c4 : ¬ ¬ ((dc_Text_mayBegin (sy_rd h) (dc_Text_letter (sy_rd h))) = 0)) => ?_)
  · skip
    rw [if_neg c4]
    refine sy_st (S' := (mj_m_17, 26, [(1, sy_i (dc_Text_letter (sy_rd h))), (0, .ref 1)], [.ref 1], h)) mj_d_17_25 (fun _ _ => rfl) ?_
    refine sy_st (S' := (mj_m_17, 27, [(1, sy_i (dc_Text_letter (sy_rd h))), (0, .ref 1)], [sy_i (dc_Text_letter (sy_rd h)), .ref 1], h)) mj_d_17_26 (fun _ _ => rfl) ?_
    refine sy_cv (M' := mj_m_20) (vs := [.ref 1, sy_i (dc_Text_letter (sy_rd h))]) (rest := []) mj_d_17_27 rfl rfl rfl rfl hH rfl rfl ⟨by decide, ⟨Nat.le_of_ble_eq_true rfl, Nat.le_of_ble_eq_true rfl, Nat.le_of_ble_eq_true rfl, Nat.le_of_ble_eq_true rfl, Nat.le_of_ble_eq_true rfl⟩⟩ (dt_Text_isOneTooMany (a1 := (dc_Text_letter (sy_rd h))) hH (by omega) (by omega)) ?_
    rintro _ _ ⟨rfl, rfl, b5, b5t⟩
    show sy_wp (mj_m_17, 30, [(1, sy_i (dc_Text_letter (sy_rd h))), (0, .ref 1)], [sy_i (dc_Text_isOneTooMany (sy_rd h) (dc_Text_letter (sy_rd h)))], h) _
    refine sy_ifc mj_d_17_30 rfl ⟨by omega, by omega⟩ (fun (c6 : (dc_Text_isOneTooMany (sy_rd h) (dc_Text_letter (sy_rd h))) = 0) => ?_) (fun (c6 : ¬ ((dc_Text_isOneTooMany (sy_rd h) (dc_Text_letter (sy_rd h))) = 0)) => ?_)
    · skip
      rw [if_pos c6]
      refine sy_st (S' := (mj_m_17, 46, [(1, sy_i (dc_Text_letter (sy_rd h))), (0, .ref 1)], [.ref 1], h)) mj_d_17_45 (fun _ _ => rfl) ?_
      refine sy_st (S' := (mj_m_17, 47, [(1, sy_i (dc_Text_letter (sy_rd h))), (0, .ref 1)], [.ref 1, .ref 1], h)) mj_d_17_46 (fun _ _ => rfl) ?_
      refine sy_gf mj_d_17_47 rfl rfl (by decide) rfl hH ?_
      rintro _ rfl bx7 tx7
      refine sy_st (S' := (mj_m_17, 51, [(1, sy_i (dc_Text_letter (sy_rd h))), (0, .ref 1)], [sy_i 1, sy_i (sy_rd h 1 3), .ref 1], h)) mj_d_17_50 (fun _ _ => rfl) ?_
      refine sy_add mj_d_17_51 ?_
      refine sg_pfw (z := ((sy_rd h 1 3) + 1)) mj_d_17_52 rfl rfl (by decide) rfl rfl hH ?_
      intro h8 th8 eh8
      refine sy_st (S' := (mj_m_17, 56, [(1, sy_i (dc_Text_letter (sy_rd h))), (0, .ref 1)], [.ref 1], h8)) mj_d_17_55 (fun _ _ => rfl) ?_
      refine sy_st (S' := (mj_m_17, 57, [(1, sy_i (dc_Text_letter (sy_rd h))), (0, .ref 1)], [sy_i (dc_Text_letter (sy_rd h)), .ref 1], h8)) mj_d_17_56 (fun _ _ => rfl) ?_
      refine sy_cv (M' := mj_m_21) (vs := [.ref 1, sy_i (dc_Text_letter (sy_rd h))]) (rest := []) mj_d_17_57 rfl rfl rfl rfl th8 rfl rfl ⟨by decide, ⟨Nat.le_of_ble_eq_true rfl, Nat.le_of_ble_eq_true rfl, Nat.le_of_ble_eq_true rfl, Nat.le_of_ble_eq_true rfl, Nat.le_of_ble_eq_true rfl⟩⟩ (dt_Text_readNumbersOf (a1 := (dc_Text_letter (sy_rd h))) th8 (by omega) (by omega) (by first | omega | assumption)) ?_
      rintro _ h9 ⟨rfl, th9, eh9⟩
      rw [eh8] at eh9
      show sy_wp (mj_m_17, 60, [(1, sy_i (dc_Text_letter (sy_rd h))), (0, .ref 1)], [], h9) _
      exact sy_retv mj_d_17_60 rfl ⟨rfl, th9, eh9⟩
    · skip
      rw [if_neg c6]
      refine sy_st (S' := (mj_m_17, 34, [(1, sy_i (dc_Text_letter (sy_rd h))), (0, .ref 1)], [.ref 1], h)) mj_d_17_33 (fun _ _ => rfl) ?_
      refine sy_st (S' := (mj_m_17, 35, [(1, sy_i (dc_Text_letter (sy_rd h))), (0, .ref 1)], [sy_i 3, .ref 1], h)) mj_d_17_34 (fun _ _ => rfl) ?_
      refine sy_st (S' := (mj_m_17, 36, [(1, sy_i (dc_Text_letter (sy_rd h))), (0, .ref 1)], [.ref 1, sy_i 3, .ref 1], h)) mj_d_17_35 (fun _ _ => rfl) ?_
      refine sy_gf mj_d_17_36 rfl rfl (by decide) rfl hH ?_
      rintro _ rfl bx11 tx11
      refine sy_cv (M' := mj_m_19) (vs := [.ref 1, sy_i 3, sy_i (sy_rd h 1 3)]) (rest := []) mj_d_17_39 rfl rfl rfl rfl hH rfl rfl ⟨by decide, ⟨Nat.le_of_ble_eq_true rfl, Nat.le_of_ble_eq_true rfl, Nat.le_of_ble_eq_true rfl, Nat.le_of_ble_eq_true rfl, Nat.le_of_ble_eq_true rfl⟩⟩ (dt_Text_fail (a1 := 3) (a2 := (sy_rd h 1 3)) hH (by omega) (by omega) (by omega) (by omega)) ?_
      rintro _ h12 ⟨rfl, th12, eh12⟩
      show sy_wp (mj_m_17, 42, [(1, sy_i (dc_Text_letter (sy_rd h))), (0, .ref 1)], [], h12) _
      refine sy_st (S' := (mj_m_17, 60, [(1, sy_i (dc_Text_letter (sy_rd h))), (0, .ref 1)], [], h12)) mj_d_17_42 (fun _ _ => rfl) ?_
      exact sy_retv mj_d_17_60 rfl ⟨rfl, th12, eh12⟩
  · skip
    rw [if_pos (Decidable.not_not.mp c4)]
    replace c4 := Decidable.not_not.mp c4
    refine sy_st (S' := (mj_m_17, 14, [(1, sy_i (dc_Text_letter (sy_rd h))), (0, .ref 1)], [.ref 1], h)) mj_d_17_13 (fun _ _ => rfl) ?_
    refine sy_st (S' := (mj_m_17, 15, [(1, sy_i (dc_Text_letter (sy_rd h))), (0, .ref 1)], [sy_i 1, .ref 1], h)) mj_d_17_14 (fun _ _ => rfl) ?_
    refine sy_st (S' := (mj_m_17, 16, [(1, sy_i (dc_Text_letter (sy_rd h))), (0, .ref 1)], [.ref 1, sy_i 1, .ref 1], h)) mj_d_17_15 (fun _ _ => rfl) ?_
    refine sy_gf mj_d_17_16 rfl rfl (by decide) rfl hH ?_
    rintro _ rfl bx14 tx14
    refine sy_cv (M' := mj_m_19) (vs := [.ref 1, sy_i 1, sy_i (sy_rd h 1 3)]) (rest := []) mj_d_17_19 rfl rfl rfl rfl hH rfl rfl ⟨by decide, ⟨Nat.le_of_ble_eq_true rfl, Nat.le_of_ble_eq_true rfl, Nat.le_of_ble_eq_true rfl, Nat.le_of_ble_eq_true rfl, Nat.le_of_ble_eq_true rfl⟩⟩ (dt_Text_fail (a1 := 1) (a2 := (sy_rd h 1 3)) hH (by omega) (by omega) (by omega) (by omega)) ?_
    rintro _ h15 ⟨rfl, th15, eh15⟩
    show sy_wp (mj_m_17, 22, [(1, sy_i (dc_Text_letter (sy_rd h))), (0, .ref 1)], [], h15) _
    refine sy_st (S' := (mj_m_17, 60, [(1, sy_i (dc_Text_letter (sy_rd h))), (0, .ref 1)], [], h15)) mj_d_17_22 (fun _ _ => rfl) ?_
    exact sy_retv mj_d_17_60 rfl ⟨rfl, th15, eh15⟩
def dc_Text_readAll_24 (n : Nat) : sg_S → Int → sg_S := Nat.rec (fun (s : sg_S) l1 => s) (fun _ ih => fun s l1 => (if 240 ≤ l1 then (sg_up s 1 2 0) else (if (s 1 4) = 0 then (if ((dc_Text_skipBlanks s) 1 3) < ((dc_Text_skipBlanks s) 1 2) then (ih (dc_Text_readClause (dc_Text_skipBlanks s)) (l1 + 1)) else (sg_up (dc_Text_skipBlanks s) 1 2 0)) else (sg_up s 1 2 0)))) n
theorem dc_Text_readAll_24_s (n : Nat) (s : sg_S) (l1 : Int) : dc_Text_readAll_24 (n + 1) s l1 = (if 240 ≤ l1 then (sg_up s 1 2 0) else (if (s 1 4) = 0 then (if ((dc_Text_skipBlanks s) 1 3) < ((dc_Text_skipBlanks s) 1 2) then ((dc_Text_readAll_24 n) (dc_Text_readClause (dc_Text_skipBlanks s)) (l1 + 1)) else (sg_up (dc_Text_skipBlanks s) 1 2 0)) else (sg_up s 1 2 0))) := rfl
def dc_Text_readAll (s : sg_S) : sg_S := (dc_Text_readAll_24 241 (dc_Plan_clear (sg_up (sg_up (sg_up s 1 3 0) 1 4 0) 1 5 (-1))) 0)
set_option maxRecDepth 100000 in
theorem dt_Text_readAll_24 : ∀ (n : Nat) {h : mj_H} (hH : sy_H h) {l1 : Int} (b_l1 : 0 ≤ l1) (t_l1 : l1 ≤ 240) (hm : 240 - l1 < (n : Int)), sy_wp (mj_m_13, 24, [(0, .ref 1), (1, sy_i l1)], [], h) (dq3 (dc_Text_readAll_24 n (sy_rd h) l1)) := by
  intro n
  induction n with
  | zero =>
    intro h hH l1 b_l1 t_l1 hm
    exact absurd hm (by omega)
  | succ n ih =>
    intro h hH l1 b_l1 t_l1 hm
    rw [dc_Text_readAll_24_s]
    refine sy_st (S' := (mj_m_13, 25, [(0, .ref 1), (1, sy_i l1)], [sy_i l1], h)) mj_d_13_24 (fun _ _ => rfl) ?_
    refine sy_sip mj_d_13_25 (by decide) ?_
    refine sy_icm mj_d_13_28 rfl ⟨by omega, by omega⟩ ⟨by omega, by omega⟩ (fun (c1 : 240 ≤ l1) => ?_) (fun (c1 : ¬ (240 ≤ l1)) => ?_)
    · skip
      rw [if_pos c1]
      refine sy_st (S' := (mj_m_13, 67, [(0, .ref 1), (1, sy_i l1)], [.ref 1], h)) mj_d_13_66 (fun _ _ => rfl) ?_
      refine sy_st (S' := (mj_m_13, 68, [(0, .ref 1), (1, sy_i l1)], [sy_i 0, .ref 1], h)) mj_d_13_67 (fun _ _ => rfl) ?_
      refine sg_pf (z := 0) mj_d_13_68 rfl rfl (by decide) (Or.inl rfl) rfl hH (by omega) (by omega) ⟨by omega, by omega⟩ ?_
      intro h2 th2 eh2
      exact sy_retv mj_d_13_71 rfl ⟨rfl, th2, eh2⟩
    · skip
      rw [if_neg c1]
      refine sy_st (S' := (mj_m_13, 32, [(0, .ref 1), (1, sy_i l1)], [.ref 1], h)) mj_d_13_31 (fun _ _ => rfl) ?_
      refine sy_gf mj_d_13_32 rfl rfl (by decide) rfl hH ?_
      rintro _ rfl bx3 tx3
      refine sy_ifc mj_d_13_35 rfl ⟨by omega, by omega⟩ (fun (c4 : ¬ ((sy_rd h 1 4) = 0)) => ?_) (fun (c4 : ¬ ¬ ((sy_rd h 1 4) = 0)) => ?_)
      · skip
        rw [if_neg c4]
        refine sy_st (S' := (mj_m_13, 67, [(0, .ref 1), (1, sy_i l1)], [.ref 1], h)) mj_d_13_66 (fun _ _ => rfl) ?_
        refine sy_st (S' := (mj_m_13, 68, [(0, .ref 1), (1, sy_i l1)], [sy_i 0, .ref 1], h)) mj_d_13_67 (fun _ _ => rfl) ?_
        refine sg_pf (z := 0) mj_d_13_68 rfl rfl (by decide) (Or.inl rfl) rfl hH (by omega) (by omega) ⟨by omega, by omega⟩ ?_
        intro h5 th5 eh5
        exact sy_retv mj_d_13_71 rfl ⟨rfl, th5, eh5⟩
      · skip
        rw [if_pos (Decidable.not_not.mp c4)]
        replace c4 := Decidable.not_not.mp c4
        refine sy_st (S' := (mj_m_13, 39, [(0, .ref 1), (1, sy_i l1)], [.ref 1], h)) mj_d_13_38 (fun _ _ => rfl) ?_
        refine sy_cv (M' := mj_m_15) (vs := [.ref 1]) (rest := []) mj_d_13_39 rfl rfl rfl rfl hH rfl rfl ⟨by decide, ⟨Nat.le_of_ble_eq_true rfl, Nat.le_of_ble_eq_true rfl, Nat.le_of_ble_eq_true rfl, Nat.le_of_ble_eq_true rfl, Nat.le_of_ble_eq_true rfl⟩⟩ (dt_Text_skipBlanks hH) ?_
        rintro _ h6 ⟨rfl, th6, eh6⟩
        have q8 := df_skip_f (sy_rd h)
        show sy_wp (mj_m_13, 42, [(0, .ref 1), (1, sy_i l1)], [], h6) _
        refine sy_st (S' := (mj_m_13, 43, [(0, .ref 1), (1, sy_i l1)], [.ref 1], h6)) mj_d_13_42 (fun _ _ => rfl) ?_
        refine sy_gf mj_d_13_43 rfl rfl (by decide) rfl th6 ?_
        intro x9 ex9 bx9 tx9
        rw [eh6] at ex9
        subst ex9
        refine sy_st (S' := (mj_m_13, 47, [(0, .ref 1), (1, sy_i l1)], [.ref 1, sy_i ((dc_Text_skipBlanks (sy_rd h)) 1 3)], h6)) mj_d_13_46 (fun _ _ => rfl) ?_
        refine sy_gf mj_d_13_47 rfl rfl (by decide) rfl th6 ?_
        intro x10 ex10 bx10 tx10
        rw [eh6] at ex10
        subst ex10
        refine sy_icm mj_d_13_50 rfl ⟨by omega, by omega⟩ ⟨by omega, by omega⟩ (fun (c11 : ((dc_Text_skipBlanks (sy_rd h)) 1 3) < ((dc_Text_skipBlanks (sy_rd h)) 1 2)) => ?_) (fun (c11 : ¬ (((dc_Text_skipBlanks (sy_rd h)) 1 3) < ((dc_Text_skipBlanks (sy_rd h)) 1 2))) => ?_)
        · skip
          rw [if_pos c11]
          refine sy_st (S' := (mj_m_13, 57, [(0, .ref 1), (1, sy_i l1)], [.ref 1], h6)) mj_d_13_56 (fun _ _ => rfl) ?_
          refine sy_cv (M' := mj_m_17) (vs := [.ref 1]) (rest := []) mj_d_13_57 rfl rfl rfl rfl th6 rfl rfl ⟨by decide, ⟨Nat.le_of_ble_eq_true rfl, Nat.le_of_ble_eq_true rfl, Nat.le_of_ble_eq_true rfl, Nat.le_of_ble_eq_true rfl, Nat.le_of_ble_eq_true rfl⟩⟩ (dt_Text_readClause th6) ?_
          rintro _ h12 ⟨rfl, th12, eh12⟩
          rw [eh6] at eh12
          show sy_wp (mj_m_13, 60, [(0, .ref 1), (1, sy_i l1)], [], h12) _
          refine sy_inc (a := l1) (lv' := [(1, sy_i (l1 + 1)), (0, .ref 1)]) mj_d_13_60 (Nat.le_of_ble_eq_true rfl) rfl rfl ?_
          refine sy_st (S' := (mj_m_13, 24, [(1, sy_i (l1 + 1)), (0, .ref 1)], [], h12)) mj_d_13_63 (fun _ _ => rfl) ?_
          refine sy_lv (lv := [(0, .ref 1), (1, sy_i (l1 + 1))]) rfl ⟨rfl, rfl, trivial⟩ ?_
          rw [← eh12]
          exact ih th12 (by first | omega | assumption) (by first | omega | assumption) (by omega)
        · skip
          rw [if_neg c11]
          refine sy_st (S' := (mj_m_13, 66, [(0, .ref 1), (1, sy_i l1)], [], h6)) mj_d_13_53 (fun _ _ => rfl) ?_
          refine sy_st (S' := (mj_m_13, 67, [(0, .ref 1), (1, sy_i l1)], [.ref 1], h6)) mj_d_13_66 (fun _ _ => rfl) ?_
          refine sy_st (S' := (mj_m_13, 68, [(0, .ref 1), (1, sy_i l1)], [sy_i 0, .ref 1], h6)) mj_d_13_67 (fun _ _ => rfl) ?_
          refine sg_pf (z := 0) mj_d_13_68 rfl rfl (by decide) (Or.inl rfl) rfl th6 (by omega) (by omega) ⟨by omega, by omega⟩ ?_
          intro h14 th14 eh14
          rw [eh6] at eh14
          exact sy_retv mj_d_13_71 rfl ⟨rfl, th14, eh14⟩
set_option maxRecDepth 100000 in
theorem dt_Text_readAll {h : mj_H} (hH : sy_H h) : sy_wp (mj_m_13, 0, [(0, .ref 1)], [], h) (dq3 (dc_Text_readAll (sy_rd h))) := by
  unfold dc_Text_readAll
  refine sy_st (S' := (mj_m_13, 1, [(0, .ref 1)], [.ref 1], h)) mj_d_13_0 (fun _ _ => rfl) ?_
  refine sy_st (S' := (mj_m_13, 2, [(0, .ref 1)], [sy_i 0, .ref 1], h)) mj_d_13_1 (fun _ _ => rfl) ?_
  refine sg_pf (z := 0) mj_d_13_2 rfl rfl (by decide) (Or.inl rfl) rfl hH (by omega) (by omega) ⟨by omega, by omega⟩ ?_
  intro h1 th1 eh1
  refine sy_st (S' := (mj_m_13, 6, [(0, .ref 1)], [.ref 1], h1)) mj_d_13_5 (fun _ _ => rfl) ?_
  refine sy_st (S' := (mj_m_13, 7, [(0, .ref 1)], [sy_i 0, .ref 1], h1)) mj_d_13_6 (fun _ _ => rfl) ?_
  refine sg_pf (z := 0) mj_d_13_7 rfl rfl (by decide) (Or.inl rfl) rfl th1 (by omega) (by omega) ⟨by omega, by omega⟩ ?_
  intro h2 th2 eh2
  rw [eh1] at eh2
  refine sy_st (S' := (mj_m_13, 11, [(0, .ref 1)], [.ref 1], h2)) mj_d_13_10 (fun _ _ => rfl) ?_
  refine sy_st (S' := (mj_m_13, 12, [(0, .ref 1)], [sy_i (-1), .ref 1], h2)) mj_d_13_11 (fun _ _ => rfl) ?_
  refine sg_pf (z := (-1)) mj_d_13_12 rfl rfl (by decide) (Or.inl rfl) rfl th2 (by omega) (by omega) ⟨by omega, by omega⟩ ?_
  intro h3 th3 eh3
  rw [eh2] at eh3
  refine sy_st (S' := (mj_m_13, 16, [(0, .ref 1)], [.ref 1], h3)) mj_d_13_15 (fun _ _ => rfl) ?_
  refine sy_gr2 (b := 3) mj_d_13_16 rfl rfl (by decide) rfl rfl th3 ?_
  refine sy_cv (M' := mj_m_14) (vs := [.ref 3]) (rest := []) mj_d_13_19 rfl rfl rfl rfl th3 rfl rfl ⟨by decide, ⟨Nat.le_of_ble_eq_true rfl, Nat.le_of_ble_eq_true rfl, Nat.le_of_ble_eq_true rfl, Nat.le_of_ble_eq_true rfl, Nat.le_of_ble_eq_true rfl⟩⟩ (dt_Plan_clear th3) ?_
  rintro _ h4 ⟨rfl, th4, eh4⟩
  rw [eh3] at eh4
  show sy_wp (mj_m_13, 22, [(0, .ref 1)], [], h4) _
  refine sy_st (S' := (mj_m_13, 23, [(0, .ref 1)], [sy_i 0], h4)) mj_d_13_22 (fun _ _ => rfl) ?_
  refine sy_st (S' := (mj_m_13, 24, [(1, sy_i 0), (0, .ref 1)], [], h4)) mj_d_13_23 (fun _ _ => rfl) ?_
  refine sy_lv (lv := [(0, .ref 1), (1, sy_i 0)]) rfl ⟨rfl, rfl, trivial⟩ ?_
  rw [← eh4]
  exact dt_Text_readAll_24 241 th4 (by first | omega | assumption) (by first | omega | assumption) (by omega)
def dc_C_feed (s : sg_S) (a1 : Int) : sg_S × Int := (if a1 < 0 then (s, (-1000000002)) else (if a1 ≤ 255 then ((dc_Text_add s a1).1, (dc_Text_add s a1).2) else (s, (-1000000002))))
set_option maxRecDepth 100000 in
theorem dt_C_feed {h : mj_H} (hH : sy_H h) {a1 : Int} (b_a1 : (-2147483648) ≤ a1) (t_a1 : a1 ≤ 2147483647) : sy_wp (mj_m_10, 0, [(0, .ref 0), (1, sy_i a1)], [], h) (dq2 (-2147483648) (2147483647) (dc_C_feed (sy_rd h) a1)) := by
  unfold dc_C_feed
  refine sy_st (S' := (mj_m_10, 1, [(0, .ref 0), (1, sy_i a1)], [sy_i a1], h)) mj_d_10_0 (fun _ _ => rfl) ?_
  refine sy_ifc mj_d_10_1 rfl ⟨by omega, by omega⟩ (fun (c1 : a1 < 0) => ?_) (fun (c1 : ¬ (a1 < 0)) => ?_)
  · skip
    rw [if_pos c1]
    refine sy_ldc (n := -1000000002) mj_d_10_11 rfl (by decide) ?_
    exact sy_reti mj_d_10_13 rfl ⟨hH, rfl, rfl, by omega, by omega⟩
  · skip
    rw [if_neg c1]
    refine sy_st (S' := (mj_m_10, 5, [(0, .ref 0), (1, sy_i a1)], [sy_i a1], h)) mj_d_10_4 (fun _ _ => rfl) ?_
    refine sy_sip mj_d_10_5 (by decide) ?_
    refine sy_icm mj_d_10_8 rfl ⟨by omega, by omega⟩ ⟨by omega, by omega⟩ (fun (c2 : a1 ≤ 255) => ?_) (fun (c2 : ¬ (a1 ≤ 255)) => ?_)
    · skip
      rw [if_pos c2]
      refine sy_st (S' := (mj_m_10, 15, [(0, .ref 0), (1, sy_i a1)], [.ref 0], h)) mj_d_10_14 (fun _ _ => rfl) ?_
      refine sy_gr2 (b := 1) mj_d_10_15 rfl rfl (by decide) rfl rfl hH ?_
      refine sy_st (S' := (mj_m_10, 19, [(0, .ref 0), (1, sy_i a1)], [sy_i a1, .ref 1], h)) mj_d_10_18 (fun _ _ => rfl) ?_
      refine sy_i2c mj_d_10_19 ⟨by omega, by omega⟩ ?_
      refine sy_cv (M' := mj_m_11) (vs := [.ref 1, sy_i a1]) (rest := []) mj_d_10_20 rfl rfl rfl rfl hH rfl rfl ⟨by decide, ⟨Nat.le_of_ble_eq_true rfl, Nat.le_of_ble_eq_true rfl, Nat.le_of_ble_eq_true rfl, Nat.le_of_ble_eq_true rfl, Nat.le_of_ble_eq_true rfl⟩⟩ (dt_Text_add (a1 := a1) hH (by omega) (by omega)) ?_
      rintro _ h3 ⟨th3, eh3, rfl, b4, b4t⟩
      show sy_wp (mj_m_10, 23, [(0, .ref 0), (1, sy_i a1)], [sy_i ((dc_Text_add (sy_rd h) a1).2)], h3) _
      exact sy_reti mj_d_10_23 rfl ⟨th3, eh3, rfl, by omega, by omega⟩
    · skip
      rw [if_neg c2]
      refine sy_ldc (n := -1000000002) mj_d_10_11 rfl (by decide) ?_
      exact sy_reti mj_d_10_13 rfl ⟨hH, rfl, rfl, by omega, by omega⟩
def dc_C_city (s : sg_S) : sg_S × Int := (if ((dc_Text_readAll s) 1 4) = 0 then ((sg_up (sg_up (dc_Im_forget (dc_Past_forget (dc_St_begin (dc_Plan_copyFrom (dc_Text_readAll s))))) 217 3 0) 221 2 0), ((dc_Im_forget (dc_Past_forget (dc_St_begin (dc_Plan_copyFrom (dc_Text_readAll s))))) 8 3)) else ((dc_Text_readAll s), ((-10) - ((dc_Text_readAll s) 1 4))))
set_option maxRecDepth 100000 in
theorem dt_C_city {h : mj_H} (hH : sy_H h) : sy_wp (mj_m_12, 0, [(0, .ref 0)], [], h) (dq2 (-2147483648) (2147483647) (dc_C_city (sy_rd h))) := by
  unfold dc_C_city
  refine sy_st (S' := (mj_m_12, 1, [(0, .ref 0)], [.ref 0], h)) mj_d_12_0 (fun _ _ => rfl) ?_
  refine sy_gr2 (b := 1) mj_d_12_1 rfl rfl (by decide) rfl rfl hH ?_
  refine sy_cv (M' := mj_m_13) (vs := [.ref 1]) (rest := []) mj_d_12_4 rfl rfl rfl rfl hH rfl rfl ⟨by decide, ⟨Nat.le_of_ble_eq_true rfl, Nat.le_of_ble_eq_true rfl, Nat.le_of_ble_eq_true rfl, Nat.le_of_ble_eq_true rfl, Nat.le_of_ble_eq_true rfl⟩⟩ (dt_Text_readAll hH) ?_
  rintro _ h1 ⟨rfl, th1, eh1⟩
  show sy_wp (mj_m_12, 7, [(0, .ref 0)], [], h1) _
  refine sy_st (S' := (mj_m_12, 8, [(0, .ref 0)], [.ref 0], h1)) mj_d_12_7 (fun _ _ => rfl) ?_
  refine sy_gr2 (b := 1) mj_d_12_8 rfl rfl (by decide) rfl rfl th1 ?_
  refine sy_gf mj_d_12_11 rfl rfl (by decide) rfl th1 ?_
  intro x3 ex3 bx3 tx3
  rw [eh1] at ex3
  subst ex3
  refine sy_ifc mj_d_12_14 rfl ⟨by omega, by omega⟩ (fun (c4 : ((dc_Text_readAll (sy_rd h)) 1 4) = 0) => ?_) (fun (c4 : ¬ (((dc_Text_readAll (sy_rd h)) 1 4) = 0)) => ?_)
  · skip
    rw [if_pos c4]
    refine sy_st (S' := (mj_m_12, 29, [(0, .ref 0)], [.ref 0], h1)) mj_d_12_28 (fun _ _ => rfl) ?_
    refine sy_gr2 (b := 8) mj_d_12_29 rfl rfl (by decide) rfl rfl th1 ?_
    refine sy_st (S' := (mj_m_12, 33, [(0, .ref 0)], [.ref 0, .ref 8], h1)) mj_d_12_32 (fun _ _ => rfl) ?_
    refine sy_gr2 (b := 1) mj_d_12_33 rfl rfl (by decide) rfl rfl th1 ?_
    refine sy_gr2 (b := 3) mj_d_12_36 rfl rfl (by decide) rfl rfl th1 ?_
    refine sy_cv (M' := mj_m_29) (vs := [.ref 8, .ref 3]) (rest := []) mj_d_12_39 rfl rfl rfl rfl th1 rfl rfl ⟨by decide, ⟨Nat.le_of_ble_eq_true rfl, Nat.le_of_ble_eq_true rfl, Nat.le_of_ble_eq_true rfl, Nat.le_of_ble_eq_true rfl, Nat.le_of_ble_eq_true rfl⟩⟩ (dt_Plan_copyFrom th1) ?_
    rintro _ h5 ⟨rfl, th5, eh5⟩
    rw [eh1] at eh5
    show sy_wp (mj_m_12, 42, [(0, .ref 0)], [], h5) _
    refine sy_st (S' := (mj_m_12, 43, [(0, .ref 0)], [.ref 0], h5)) mj_d_12_42 (fun _ _ => rfl) ?_
    refine sy_gr2 (b := 13) mj_d_12_43 rfl rfl (by decide) rfl rfl th5 ?_
    refine sy_st (S' := (mj_m_12, 47, [(0, .ref 0)], [.ref 0, .ref 13], h5)) mj_d_12_46 (fun _ _ => rfl) ?_
    refine sy_gr2 (b := 8) mj_d_12_47 rfl rfl (by decide) rfl rfl th5 ?_
    refine sy_cv (M' := mj_m_30) (vs := [.ref 13, .ref 8]) (rest := []) mj_d_12_50 rfl rfl rfl rfl th5 rfl rfl ⟨by decide, ⟨Nat.le_of_ble_eq_true rfl, Nat.le_of_ble_eq_true rfl, Nat.le_of_ble_eq_true rfl, Nat.le_of_ble_eq_true rfl, Nat.le_of_ble_eq_true rfl⟩⟩ (dt_St_begin th5) ?_
    rintro _ h7 ⟨rfl, th7, eh7⟩
    rw [eh5] at eh7
    show sy_wp (mj_m_12, 53, [(0, .ref 0)], [], h7) _
    refine sy_st (S' := (mj_m_12, 54, [(0, .ref 0)], [.ref 0], h7)) mj_d_12_53 (fun _ _ => rfl) ?_
    refine sy_gr2 (b := 19) mj_d_12_54 rfl rfl (by decide) rfl rfl th7 ?_
    refine sy_cv (M' := mj_m_31) (vs := [.ref 19]) (rest := []) mj_d_12_57 rfl rfl rfl rfl th7 rfl rfl ⟨by decide, ⟨Nat.le_of_ble_eq_true rfl, Nat.le_of_ble_eq_true rfl, Nat.le_of_ble_eq_true rfl, Nat.le_of_ble_eq_true rfl, Nat.le_of_ble_eq_true rfl⟩⟩ (dt_Past_forget th7) ?_
    rintro _ h9 ⟨rfl, th9, eh9⟩
    rw [eh7] at eh9
    show sy_wp (mj_m_12, 60, [(0, .ref 0)], [], h9) _
    refine sy_st (S' := (mj_m_12, 61, [(0, .ref 0)], [.ref 0], h9)) mj_d_12_60 (fun _ _ => rfl) ?_
    refine sy_gr2 (b := 201) mj_d_12_61 rfl rfl (by decide) rfl rfl th9 ?_
    refine sy_cv (M' := mj_m_32) (vs := [.ref 201]) (rest := []) mj_d_12_64 rfl rfl rfl rfl th9 rfl rfl ⟨by decide, ⟨Nat.le_of_ble_eq_true rfl, Nat.le_of_ble_eq_true rfl, Nat.le_of_ble_eq_true rfl, Nat.le_of_ble_eq_true rfl, Nat.le_of_ble_eq_true rfl⟩⟩ (dt_Im_forget th9) ?_
    rintro _ h11 ⟨rfl, th11, eh11⟩
    rw [eh9] at eh11
    show sy_wp (mj_m_12, 67, [(0, .ref 0)], [], h11) _
    refine sy_st (S' := (mj_m_12, 68, [(0, .ref 0)], [.ref 0], h11)) mj_d_12_67 (fun _ _ => rfl) ?_
    refine sy_gr2 (b := 217) mj_d_12_68 rfl rfl (by decide) rfl rfl th11 ?_
    refine sy_st (S' := (mj_m_12, 72, [(0, .ref 0)], [sy_i 0, .ref 217], h11)) mj_d_12_71 (fun _ _ => rfl) ?_
    refine sg_pf (z := 0) mj_d_12_72 rfl rfl (by decide) (Or.inl rfl) rfl th11 (by omega) (by omega) ⟨by omega, by omega⟩ ?_
    intro h13 th13 eh13
    rw [eh11] at eh13
    refine sy_st (S' := (mj_m_12, 76, [(0, .ref 0)], [.ref 0], h13)) mj_d_12_75 (fun _ _ => rfl) ?_
    refine sy_gr2 (b := 221) mj_d_12_76 rfl rfl (by decide) rfl rfl th13 ?_
    refine sy_st (S' := (mj_m_12, 80, [(0, .ref 0)], [sy_i 0, .ref 221], h13)) mj_d_12_79 (fun _ _ => rfl) ?_
    refine sg_pf (z := 0) mj_d_12_80 rfl rfl (by decide) (Or.inl rfl) rfl th13 (by omega) (by omega) ⟨by omega, by omega⟩ ?_
    intro h14 th14 eh14
    rw [eh13] at eh14
    refine sy_st (S' := (mj_m_12, 84, [(0, .ref 0)], [.ref 0], h14)) mj_d_12_83 (fun _ _ => rfl) ?_
    refine sy_gr2 (b := 8) mj_d_12_84 rfl rfl (by decide) rfl rfl th14 ?_
    refine sy_gf mj_d_12_87 rfl rfl (by decide) rfl th14 ?_
    intro x15 ex15 bx15 tx15
    rw [eh14, sg_na (by decide), sg_na (by decide)] at ex15
    subst ex15
    exact sy_reti mj_d_12_90 rfl ⟨th14, eh14, rfl, by omega, by omega⟩
  · skip
    rw [if_neg c4]
    refine sy_bip mj_d_12_17 (by decide) ?_
    refine sy_st (S' := (mj_m_12, 20, [(0, .ref 0)], [.ref 0, sy_i (-10)], h1)) mj_d_12_19 (fun _ _ => rfl) ?_
    refine sy_gr2 (b := 1) mj_d_12_20 rfl rfl (by decide) rfl rfl th1 ?_
    refine sy_gf mj_d_12_23 rfl rfl (by decide) rfl th1 ?_
    intro x16 ex16 bx16 tx16
    rw [eh1] at ex16
    subst ex16
    refine sy_sub mj_d_12_26 ?_
    exact sy_reti mj_d_12_27 rfl ⟨th1, eh1, rfl, by omega, by omega⟩
def dc_C_swap (s : sg_S) (a1 a2 a3 a4 : Int) : sg_S × Int := (if (dc_C_areTwoSweeps s a1 a3) = 0 then (s, (-1000000001)) else (if (dc_C_isHouse s a2) = 0 then (s, (-1000000001)) else (if (dc_C_isHouse s a4) = 0 then (s, (-1000000001)) else (if a2 = a4 then (s, (-1000000001)) else (if (dc_St_canGive s a1 a3 a2) = 0 then (s, (-1000000003)) else (if (dc_St_canGive s a3 a1 a4) = 0 then (s, (-1000000003)) else ((dc_St_learn (dc_St_learn (dc_Past_remember s) a3 a2) a1 a4), ((dc_St_learn (dc_St_learn (dc_Past_remember s) a3 a2) a1 a4) 17 ((a1).toNat)))))))))
set_option maxRecDepth 100000 in
theorem dt_C_swap {h : mj_H} (hH : sy_H h) {a1 a2 a3 a4 : Int} (b_a1 : (-2147483648) ≤ a1) (t_a1 : a1 ≤ 2147483647) (b_a2 : (-2147483648) ≤ a2) (t_a2 : a2 ≤ 2147483647) (b_a3 : (-2147483648) ≤ a3) (t_a3 : a3 ≤ 2147483647) (b_a4 : (-2147483648) ≤ a4) (t_a4 : a4 ≤ 2147483647) : sy_wp (mj_m_60, 0, [(0, .ref 0), (1, sy_i a1), (2, sy_i a2), (3, sy_i a3), (4, sy_i a4)], [], h) (dq2 (-2147483648) (2147483647) (dc_C_swap (sy_rd h) a1 a2 a3 a4)) := by
  unfold dc_C_swap
  have n8_3 := hH.bd (a := 8) (k := 3) rfl (by decide) rfl
  have n8_4 := hH.bd (a := 8) (k := 4) rfl (by decide) rfl
  refine sy_st (S' := (mj_m_60, 1, [(0, .ref 0), (1, sy_i a1), (2, sy_i a2), (3, sy_i a3), (4, sy_i a4)], [.ref 0], h)) mj_d_60_0 (fun _ _ => rfl) ?_
  refine sy_st (S' := (mj_m_60, 2, [(0, .ref 0), (1, sy_i a1), (2, sy_i a2), (3, sy_i a3), (4, sy_i a4)], [sy_i a1, .ref 0], h)) mj_d_60_1 (fun _ _ => rfl) ?_
  refine sy_st (S' := (mj_m_60, 3, [(0, .ref 0), (1, sy_i a1), (2, sy_i a2), (3, sy_i a3), (4, sy_i a4)], [sy_i a3, sy_i a1, .ref 0], h)) mj_d_60_2 (fun _ _ => rfl) ?_
  refine sy_cv (M' := mj_m_61) (vs := [.ref 0, sy_i a1, sy_i a3]) (rest := []) mj_d_60_3 rfl rfl rfl rfl hH rfl rfl ⟨by decide, ⟨Nat.le_of_ble_eq_true rfl, Nat.le_of_ble_eq_true rfl, Nat.le_of_ble_eq_true rfl, Nat.le_of_ble_eq_true rfl, Nat.le_of_ble_eq_true rfl⟩⟩ (dt_C_areTwoSweeps (a1 := a1) (a2 := a3) hH (by omega) (by omega) (by omega) (by omega)) ?_
  rintro _ _ ⟨rfl, rfl, b1, b1t⟩
  have q2 := df_C_areTwoSweeps_0 (sy_rd h) a1 a3
  show sy_wp (mj_m_60, 6, [(0, .ref 0), (1, sy_i a1), (2, sy_i a2), (3, sy_i a3), (4, sy_i a4)], [sy_i (dc_C_areTwoSweeps (sy_rd h) a1 a3)], h) _
  refine sy_ifc mj_d_60_6 rfl ⟨by omega, by omega⟩ (fun (c3 : (dc_C_areTwoSweeps (sy_rd h) a1 a3) = 0) => ?_) (fun (c3 : ¬ ((dc_C_areTwoSweeps (sy_rd h) a1 a3) = 0)) => ?_)
  · skip
    rw [if_pos c3]
    refine sy_ldc (n := -1000000001) mj_d_60_32 rfl (by decide) ?_
    exact sy_reti mj_d_60_34 rfl ⟨hH, rfl, rfl, by omega, by omega⟩
  · skip
    rw [if_neg c3]
    refine sy_st (S' := (mj_m_60, 10, [(0, .ref 0), (1, sy_i a1), (2, sy_i a2), (3, sy_i a3), (4, sy_i a4)], [.ref 0], h)) mj_d_60_9 (fun _ _ => rfl) ?_
    refine sy_st (S' := (mj_m_60, 11, [(0, .ref 0), (1, sy_i a1), (2, sy_i a2), (3, sy_i a3), (4, sy_i a4)], [sy_i a2, .ref 0], h)) mj_d_60_10 (fun _ _ => rfl) ?_
    refine sy_cv (M' := mj_m_39) (vs := [.ref 0, sy_i a2]) (rest := []) mj_d_60_11 rfl rfl rfl rfl hH rfl rfl ⟨by decide, ⟨Nat.le_of_ble_eq_true rfl, Nat.le_of_ble_eq_true rfl, Nat.le_of_ble_eq_true rfl, Nat.le_of_ble_eq_true rfl, Nat.le_of_ble_eq_true rfl⟩⟩ (dt_C_isHouse (a1 := a2) hH (by omega) (by omega)) ?_
    rintro _ _ ⟨rfl, rfl, b4, b4t⟩
    have q5 := df_C_isHouse_0 (sy_rd h) a2
    show sy_wp (mj_m_60, 14, [(0, .ref 0), (1, sy_i a1), (2, sy_i a2), (3, sy_i a3), (4, sy_i a4)], [sy_i (dc_C_isHouse (sy_rd h) a2)], h) _
    refine sy_ifc mj_d_60_14 rfl ⟨by omega, by omega⟩ (fun (c6 : (dc_C_isHouse (sy_rd h) a2) = 0) => ?_) (fun (c6 : ¬ ((dc_C_isHouse (sy_rd h) a2) = 0)) => ?_)
    · skip
      rw [if_pos c6]
      refine sy_ldc (n := -1000000001) mj_d_60_32 rfl (by decide) ?_
      exact sy_reti mj_d_60_34 rfl ⟨hH, rfl, rfl, by omega, by omega⟩
    · skip
      rw [if_neg c6]
      refine sy_st (S' := (mj_m_60, 18, [(0, .ref 0), (1, sy_i a1), (2, sy_i a2), (3, sy_i a3), (4, sy_i a4)], [.ref 0], h)) mj_d_60_17 (fun _ _ => rfl) ?_
      refine sy_st (S' := (mj_m_60, 20, [(0, .ref 0), (1, sy_i a1), (2, sy_i a2), (3, sy_i a3), (4, sy_i a4)], [sy_i a4, .ref 0], h)) mj_d_60_18 (fun _ _ => rfl) ?_
      refine sy_cv (M' := mj_m_39) (vs := [.ref 0, sy_i a4]) (rest := []) mj_d_60_20 rfl rfl rfl rfl hH rfl rfl ⟨by decide, ⟨Nat.le_of_ble_eq_true rfl, Nat.le_of_ble_eq_true rfl, Nat.le_of_ble_eq_true rfl, Nat.le_of_ble_eq_true rfl, Nat.le_of_ble_eq_true rfl⟩⟩ (dt_C_isHouse (a1 := a4) hH (by omega) (by omega)) ?_
      rintro _ _ ⟨rfl, rfl, b7, b7t⟩
      have q8 := df_C_isHouse_0 (sy_rd h) a4
      show sy_wp (mj_m_60, 23, [(0, .ref 0), (1, sy_i a1), (2, sy_i a2), (3, sy_i a3), (4, sy_i a4)], [sy_i (dc_C_isHouse (sy_rd h) a4)], h) _
      refine sy_ifc mj_d_60_23 rfl ⟨by omega, by omega⟩ (fun (c9 : (dc_C_isHouse (sy_rd h) a4) = 0) => ?_) (fun (c9 : ¬ ((dc_C_isHouse (sy_rd h) a4) = 0)) => ?_)
      · skip
        rw [if_pos c9]
        refine sy_ldc (n := -1000000001) mj_d_60_32 rfl (by decide) ?_
        exact sy_reti mj_d_60_34 rfl ⟨hH, rfl, rfl, by omega, by omega⟩
      · skip
        rw [if_neg c9]
        refine sy_st (S' := (mj_m_60, 27, [(0, .ref 0), (1, sy_i a1), (2, sy_i a2), (3, sy_i a3), (4, sy_i a4)], [sy_i a2], h)) mj_d_60_26 (fun _ _ => rfl) ?_
        refine sy_st (S' := (mj_m_60, 29, [(0, .ref 0), (1, sy_i a1), (2, sy_i a2), (3, sy_i a3), (4, sy_i a4)], [sy_i a4, sy_i a2], h)) mj_d_60_27 (fun _ _ => rfl) ?_
        refine sy_icm mj_d_60_29 rfl ⟨by omega, by omega⟩ ⟨by omega, by omega⟩ (fun (c10 : ¬ (a2 = a4)) => ?_) (fun (c10 : ¬ ¬ (a2 = a4)) => ?_)
        · skip
          rw [if_neg c10]
          refine sy_st (S' := (mj_m_60, 36, [(0, .ref 0), (1, sy_i a1), (2, sy_i a2), (3, sy_i a3), (4, sy_i a4)], [.ref 0], h)) mj_d_60_35 (fun _ _ => rfl) ?_
          refine sy_gr2 (b := 13) mj_d_60_36 rfl rfl (by decide) rfl rfl hH ?_
          refine sy_st (S' := (mj_m_60, 40, [(0, .ref 0), (1, sy_i a1), (2, sy_i a2), (3, sy_i a3), (4, sy_i a4)], [sy_i a1, .ref 13], h)) mj_d_60_39 (fun _ _ => rfl) ?_
          refine sy_st (S' := (mj_m_60, 41, [(0, .ref 0), (1, sy_i a1), (2, sy_i a2), (3, sy_i a3), (4, sy_i a4)], [sy_i a3, sy_i a1, .ref 13], h)) mj_d_60_40 (fun _ _ => rfl) ?_
          refine sy_st (S' := (mj_m_60, 42, [(0, .ref 0), (1, sy_i a1), (2, sy_i a2), (3, sy_i a3), (4, sy_i a4)], [sy_i a2, sy_i a3, sy_i a1, .ref 13], h)) mj_d_60_41 (fun _ _ => rfl) ?_
          refine sy_cv (M' := mj_m_62) (vs := [.ref 13, sy_i a1, sy_i a3, sy_i a2]) (rest := []) mj_d_60_42 rfl rfl rfl rfl hH rfl rfl ⟨by decide, ⟨Nat.le_of_ble_eq_true rfl, Nat.le_of_ble_eq_true rfl, Nat.le_of_ble_eq_true rfl, Nat.le_of_ble_eq_true rfl, Nat.le_of_ble_eq_true rfl⟩⟩ (dt_St_canGive (a1 := a1) (a2 := a3) (a3 := a2) hH (by omega) (by omega) (by omega) (by omega) (by omega) (by omega)) ?_
          rintro _ _ ⟨rfl, rfl, b11, b11t⟩
          show sy_wp (mj_m_60, 45, [(0, .ref 0), (1, sy_i a1), (2, sy_i a2), (3, sy_i a3), (4, sy_i a4)], [sy_i (dc_St_canGive (sy_rd h) a1 a3 a2)], h) _
          refine sy_ifc mj_d_60_45 rfl ⟨by omega, by omega⟩ (fun (c12 : (dc_St_canGive (sy_rd h) a1 a3 a2) = 0) => ?_) (fun (c12 : ¬ ((dc_St_canGive (sy_rd h) a1 a3 a2) = 0)) => ?_)
          · skip
            rw [if_pos c12]
            refine sy_ldc (n := -1000000003) mj_d_60_62 rfl (by decide) ?_
            exact sy_reti mj_d_60_64 rfl ⟨hH, rfl, rfl, by omega, by omega⟩
          · skip
            rw [if_neg c12]
            refine sy_st (S' := (mj_m_60, 49, [(0, .ref 0), (1, sy_i a1), (2, sy_i a2), (3, sy_i a3), (4, sy_i a4)], [.ref 0], h)) mj_d_60_48 (fun _ _ => rfl) ?_
            refine sy_gr2 (b := 13) mj_d_60_49 rfl rfl (by decide) rfl rfl hH ?_
            refine sy_st (S' := (mj_m_60, 53, [(0, .ref 0), (1, sy_i a1), (2, sy_i a2), (3, sy_i a3), (4, sy_i a4)], [sy_i a3, .ref 13], h)) mj_d_60_52 (fun _ _ => rfl) ?_
            refine sy_st (S' := (mj_m_60, 54, [(0, .ref 0), (1, sy_i a1), (2, sy_i a2), (3, sy_i a3), (4, sy_i a4)], [sy_i a1, sy_i a3, .ref 13], h)) mj_d_60_53 (fun _ _ => rfl) ?_
            refine sy_st (S' := (mj_m_60, 56, [(0, .ref 0), (1, sy_i a1), (2, sy_i a2), (3, sy_i a3), (4, sy_i a4)], [sy_i a4, sy_i a1, sy_i a3, .ref 13], h)) mj_d_60_54 (fun _ _ => rfl) ?_
            refine sy_cv (M' := mj_m_62) (vs := [.ref 13, sy_i a3, sy_i a1, sy_i a4]) (rest := []) mj_d_60_56 rfl rfl rfl rfl hH rfl rfl ⟨by decide, ⟨Nat.le_of_ble_eq_true rfl, Nat.le_of_ble_eq_true rfl, Nat.le_of_ble_eq_true rfl, Nat.le_of_ble_eq_true rfl, Nat.le_of_ble_eq_true rfl⟩⟩ (dt_St_canGive (a1 := a3) (a2 := a1) (a3 := a4) hH (by omega) (by omega) (by omega) (by omega) (by omega) (by omega)) ?_
            rintro _ _ ⟨rfl, rfl, b13, b13t⟩
            show sy_wp (mj_m_60, 59, [(0, .ref 0), (1, sy_i a1), (2, sy_i a2), (3, sy_i a3), (4, sy_i a4)], [sy_i (dc_St_canGive (sy_rd h) a3 a1 a4)], h) _
            refine sy_ifc mj_d_60_59 rfl ⟨by omega, by omega⟩ (fun (c14 : ¬ ((dc_St_canGive (sy_rd h) a3 a1 a4) = 0)) => ?_) (fun (c14 : ¬ ¬ ((dc_St_canGive (sy_rd h) a3 a1 a4) = 0)) => ?_)
            · skip
              rw [if_neg c14]
              refine sy_st (S' := (mj_m_60, 66, [(0, .ref 0), (1, sy_i a1), (2, sy_i a2), (3, sy_i a3), (4, sy_i a4)], [.ref 0], h)) mj_d_60_65 (fun _ _ => rfl) ?_
              refine sy_gr2 (b := 19) mj_d_60_66 rfl rfl (by decide) rfl rfl hH ?_
              refine sy_st (S' := (mj_m_60, 70, [(0, .ref 0), (1, sy_i a1), (2, sy_i a2), (3, sy_i a3), (4, sy_i a4)], [.ref 0, .ref 19], h)) mj_d_60_69 (fun _ _ => rfl) ?_
              refine sy_gr2 (b := 13) mj_d_60_70 rfl rfl (by decide) rfl rfl hH ?_
              refine sy_cv (M' := mj_m_47) (vs := [.ref 19, .ref 13]) (rest := []) mj_d_60_73 rfl rfl rfl rfl hH rfl rfl ⟨by decide, ⟨Nat.le_of_ble_eq_true rfl, Nat.le_of_ble_eq_true rfl, Nat.le_of_ble_eq_true rfl, Nat.le_of_ble_eq_true rfl, Nat.le_of_ble_eq_true rfl⟩⟩ (dt_Past_remember hH) ?_
              rintro _ h15 ⟨rfl, th15, eh15⟩
              show sy_wp (mj_m_60, 76, [(0, .ref 0), (1, sy_i a1), (2, sy_i a2), (3, sy_i a3), (4, sy_i a4)], [], h15) _
              refine sy_st (S' := (mj_m_60, 77, [(0, .ref 0), (1, sy_i a1), (2, sy_i a2), (3, sy_i a3), (4, sy_i a4)], [.ref 0], h15)) mj_d_60_76 (fun _ _ => rfl) ?_
              refine sy_gr2 (b := 13) mj_d_60_77 rfl rfl (by decide) rfl rfl th15 ?_
              refine sy_st (S' := (mj_m_60, 81, [(0, .ref 0), (1, sy_i a1), (2, sy_i a2), (3, sy_i a3), (4, sy_i a4)], [sy_i a3, .ref 13], h15)) mj_d_60_80 (fun _ _ => rfl) ?_
              refine sy_st (S' := (mj_m_60, 82, [(0, .ref 0), (1, sy_i a1), (2, sy_i a2), (3, sy_i a3), (4, sy_i a4)], [sy_i a2, sy_i a3, .ref 13], h15)) mj_d_60_81 (fun _ _ => rfl) ?_
              refine sy_cv (M' := mj_m_63) (vs := [.ref 13, sy_i a3, sy_i a2]) (rest := []) mj_d_60_82 rfl rfl rfl rfl th15 rfl rfl ⟨by decide, ⟨Nat.le_of_ble_eq_true rfl, Nat.le_of_ble_eq_true rfl, Nat.le_of_ble_eq_true rfl, Nat.le_of_ble_eq_true rfl, Nat.le_of_ble_eq_true rfl⟩⟩ (dt_St_learn (a1 := a3) (a2 := a2) th15 (by omega) (by omega) (by omega) (by omega)) ?_
              rintro _ h17 ⟨rfl, th17, eh17⟩
              rw [eh15] at eh17
              show sy_wp (mj_m_60, 85, [(0, .ref 0), (1, sy_i a1), (2, sy_i a2), (3, sy_i a3), (4, sy_i a4)], [], h17) _
              refine sy_st (S' := (mj_m_60, 86, [(0, .ref 0), (1, sy_i a1), (2, sy_i a2), (3, sy_i a3), (4, sy_i a4)], [.ref 0], h17)) mj_d_60_85 (fun _ _ => rfl) ?_
              refine sy_gr2 (b := 13) mj_d_60_86 rfl rfl (by decide) rfl rfl th17 ?_
              refine sy_st (S' := (mj_m_60, 90, [(0, .ref 0), (1, sy_i a1), (2, sy_i a2), (3, sy_i a3), (4, sy_i a4)], [sy_i a1, .ref 13], h17)) mj_d_60_89 (fun _ _ => rfl) ?_
              refine sy_st (S' := (mj_m_60, 92, [(0, .ref 0), (1, sy_i a1), (2, sy_i a2), (3, sy_i a3), (4, sy_i a4)], [sy_i a4, sy_i a1, .ref 13], h17)) mj_d_60_90 (fun _ _ => rfl) ?_
              refine sy_cv (M' := mj_m_63) (vs := [.ref 13, sy_i a1, sy_i a4]) (rest := []) mj_d_60_92 rfl rfl rfl rfl th17 rfl rfl ⟨by decide, ⟨Nat.le_of_ble_eq_true rfl, Nat.le_of_ble_eq_true rfl, Nat.le_of_ble_eq_true rfl, Nat.le_of_ble_eq_true rfl, Nat.le_of_ble_eq_true rfl⟩⟩ (dt_St_learn (a1 := a1) (a2 := a4) th17 (by omega) (by omega) (by omega) (by omega)) ?_
              rintro _ h19 ⟨rfl, th19, eh19⟩
              rw [eh17] at eh19
              show sy_wp (mj_m_60, 95, [(0, .ref 0), (1, sy_i a1), (2, sy_i a2), (3, sy_i a3), (4, sy_i a4)], [], h19) _
              refine sy_st (S' := (mj_m_60, 96, [(0, .ref 0), (1, sy_i a1), (2, sy_i a2), (3, sy_i a3), (4, sy_i a4)], [.ref 0], h19)) mj_d_60_95 (fun _ _ => rfl) ?_
              refine sy_gr2 (b := 13) mj_d_60_96 rfl rfl (by decide) rfl rfl th19 ?_
              refine sy_gr2 (b := 17) mj_d_60_99 rfl rfl (by decide) rfl rfl th19 ?_
              refine sy_st (S' := (mj_m_60, 103, [(0, .ref 0), (1, sy_i a1), (2, sy_i a2), (3, sy_i a3), (4, sy_i a4)], [sy_i a1, .ref 17], h19)) mj_d_60_102 (fun _ _ => rfl) ?_
              refine sy_ia mj_d_60_103 rfl (by decide) (by omega) (by omega) (ab_el_1 rfl _) th19 ?_
              intro x21 ex21 bx21 tx21
              rw [eh19] at ex21
              subst ex21
              exact sy_reti mj_d_60_104 rfl ⟨th19, eh19, rfl, by omega, by omega⟩
            · skip
              rw [if_pos (Decidable.not_not.mp c14)]
              replace c14 := Decidable.not_not.mp c14
              refine sy_ldc (n := -1000000003) mj_d_60_62 rfl (by decide) ?_
              exact sy_reti mj_d_60_64 rfl ⟨hH, rfl, rfl, by omega, by omega⟩
        · skip
          rw [if_pos (Decidable.not_not.mp c10)]
          replace c10 := Decidable.not_not.mp c10
          refine sy_ldc (n := -1000000001) mj_d_60_32 rfl (by decide) ?_
          exact sy_reti mj_d_60_34 rfl ⟨hH, rfl, rfl, by omega, by omega⟩
def dc_C_pay (s : sg_S) (a1 a2 a3 : Int) : sg_S × Int := (if (dc_C_areTwoSweeps s a1 a2) = 0 then (s, (-1000000001)) else (if (dc_C_isHouse s a3) = 0 then (s, (-1000000001)) else (if (dc_St_canGive s a2 a1 a3) = 0 then (s, (-1000000003)) else ((sg_up (sg_up (sg_up (dc_St_learn (dc_Past_remember s) a1 a3) 18 ((a1).toNat) (sy_w (((dc_St_learn (dc_Past_remember s) a1 a3) 18 ((a1).toNat)) - ((dc_Past_remember s) 12 ((a2).toNat))))) 18 ((a2).toNat) (sy_w (((sg_up (dc_St_learn (dc_Past_remember s) a1 a3) 18 ((a1).toNat) (sy_w (((dc_St_learn (dc_Past_remember s) a1 a3) 18 ((a1).toNat)) - ((dc_Past_remember s) 12 ((a2).toNat))))) 18 ((a2).toNat)) + ((dc_Past_remember s) 12 ((a2).toNat))))) 13 6 (sy_w (((dc_St_learn (dc_Past_remember s) a1 a3) 13 6) + ((dc_Past_remember s) 12 ((a2).toNat))))), ((dc_Past_remember s) 12 ((a2).toNat))))))
set_option maxRecDepth 100000 in
theorem dt_C_pay {h : mj_H} (hH : sy_H h) {a1 a2 a3 : Int} (b_a1 : (-2147483648) ≤ a1) (t_a1 : a1 ≤ 2147483647) (b_a2 : (-2147483648) ≤ a2) (t_a2 : a2 ≤ 2147483647) (b_a3 : (-2147483648) ≤ a3) (t_a3 : a3 ≤ 2147483647) : sy_wp (mj_m_64, 0, [(0, .ref 0), (1, sy_i a1), (2, sy_i a2), (3, sy_i a3)], [], h) (dq2 (-2147483648) (2147483647) (dc_C_pay (sy_rd h) a1 a2 a3)) := by
  unfold dc_C_pay
  have n8_3 := hH.bd (a := 8) (k := 3) rfl (by decide) rfl
  have n8_4 := hH.bd (a := 8) (k := 4) rfl (by decide) rfl
  refine sy_st (S' := (mj_m_64, 1, [(0, .ref 0), (1, sy_i a1), (2, sy_i a2), (3, sy_i a3)], [.ref 0], h)) mj_d_64_0 (fun _ _ => rfl) ?_
  refine sy_st (S' := (mj_m_64, 2, [(0, .ref 0), (1, sy_i a1), (2, sy_i a2), (3, sy_i a3)], [sy_i a1, .ref 0], h)) mj_d_64_1 (fun _ _ => rfl) ?_
  refine sy_st (S' := (mj_m_64, 3, [(0, .ref 0), (1, sy_i a1), (2, sy_i a2), (3, sy_i a3)], [sy_i a2, sy_i a1, .ref 0], h)) mj_d_64_2 (fun _ _ => rfl) ?_
  refine sy_cv (M' := mj_m_61) (vs := [.ref 0, sy_i a1, sy_i a2]) (rest := []) mj_d_64_3 rfl rfl rfl rfl hH rfl rfl ⟨by decide, ⟨Nat.le_of_ble_eq_true rfl, Nat.le_of_ble_eq_true rfl, Nat.le_of_ble_eq_true rfl, Nat.le_of_ble_eq_true rfl, Nat.le_of_ble_eq_true rfl⟩⟩ (dt_C_areTwoSweeps (a1 := a1) (a2 := a2) hH (by omega) (by omega) (by omega) (by omega)) ?_
  rintro _ _ ⟨rfl, rfl, b1, b1t⟩
  have q2 := df_C_areTwoSweeps_0 (sy_rd h) a1 a2
  show sy_wp (mj_m_64, 6, [(0, .ref 0), (1, sy_i a1), (2, sy_i a2), (3, sy_i a3)], [sy_i (dc_C_areTwoSweeps (sy_rd h) a1 a2)], h) _
  refine sy_ifc mj_d_64_6 rfl ⟨by omega, by omega⟩ (fun (c3 : (dc_C_areTwoSweeps (sy_rd h) a1 a2) = 0) => ?_) (fun (c3 : ¬ ((dc_C_areTwoSweeps (sy_rd h) a1 a2) = 0)) => ?_)
  · skip
    rw [if_pos c3]
    refine sy_ldc (n := -1000000001) mj_d_64_17 rfl (by decide) ?_
    exact sy_reti mj_d_64_19 rfl ⟨hH, rfl, rfl, by omega, by omega⟩
  · skip
    rw [if_neg c3]
    refine sy_st (S' := (mj_m_64, 10, [(0, .ref 0), (1, sy_i a1), (2, sy_i a2), (3, sy_i a3)], [.ref 0], h)) mj_d_64_9 (fun _ _ => rfl) ?_
    refine sy_st (S' := (mj_m_64, 11, [(0, .ref 0), (1, sy_i a1), (2, sy_i a2), (3, sy_i a3)], [sy_i a3, .ref 0], h)) mj_d_64_10 (fun _ _ => rfl) ?_
    refine sy_cv (M' := mj_m_39) (vs := [.ref 0, sy_i a3]) (rest := []) mj_d_64_11 rfl rfl rfl rfl hH rfl rfl ⟨by decide, ⟨Nat.le_of_ble_eq_true rfl, Nat.le_of_ble_eq_true rfl, Nat.le_of_ble_eq_true rfl, Nat.le_of_ble_eq_true rfl, Nat.le_of_ble_eq_true rfl⟩⟩ (dt_C_isHouse (a1 := a3) hH (by omega) (by omega)) ?_
    rintro _ _ ⟨rfl, rfl, b4, b4t⟩
    have q5 := df_C_isHouse_0 (sy_rd h) a3
    show sy_wp (mj_m_64, 14, [(0, .ref 0), (1, sy_i a1), (2, sy_i a2), (3, sy_i a3)], [sy_i (dc_C_isHouse (sy_rd h) a3)], h) _
    refine sy_ifc mj_d_64_14 rfl ⟨by omega, by omega⟩ (fun (c6 : ¬ ((dc_C_isHouse (sy_rd h) a3) = 0)) => ?_) (fun (c6 : ¬ ¬ ((dc_C_isHouse (sy_rd h) a3) = 0)) => ?_)
    · skip
      rw [if_neg c6]
      refine sy_st (S' := (mj_m_64, 21, [(0, .ref 0), (1, sy_i a1), (2, sy_i a2), (3, sy_i a3)], [.ref 0], h)) mj_d_64_20 (fun _ _ => rfl) ?_
      refine sy_gr2 (b := 13) mj_d_64_21 rfl rfl (by decide) rfl rfl hH ?_
      refine sy_st (S' := (mj_m_64, 25, [(0, .ref 0), (1, sy_i a1), (2, sy_i a2), (3, sy_i a3)], [sy_i a2, .ref 13], h)) mj_d_64_24 (fun _ _ => rfl) ?_
      refine sy_st (S' := (mj_m_64, 26, [(0, .ref 0), (1, sy_i a1), (2, sy_i a2), (3, sy_i a3)], [sy_i a1, sy_i a2, .ref 13], h)) mj_d_64_25 (fun _ _ => rfl) ?_
      refine sy_st (S' := (mj_m_64, 27, [(0, .ref 0), (1, sy_i a1), (2, sy_i a2), (3, sy_i a3)], [sy_i a3, sy_i a1, sy_i a2, .ref 13], h)) mj_d_64_26 (fun _ _ => rfl) ?_
      refine sy_cv (M' := mj_m_62) (vs := [.ref 13, sy_i a2, sy_i a1, sy_i a3]) (rest := []) mj_d_64_27 rfl rfl rfl rfl hH rfl rfl ⟨by decide, ⟨Nat.le_of_ble_eq_true rfl, Nat.le_of_ble_eq_true rfl, Nat.le_of_ble_eq_true rfl, Nat.le_of_ble_eq_true rfl, Nat.le_of_ble_eq_true rfl⟩⟩ (dt_St_canGive (a1 := a2) (a2 := a1) (a3 := a3) hH (by omega) (by omega) (by omega) (by omega) (by omega) (by omega)) ?_
      rintro _ _ ⟨rfl, rfl, b7, b7t⟩
      show sy_wp (mj_m_64, 30, [(0, .ref 0), (1, sy_i a1), (2, sy_i a2), (3, sy_i a3)], [sy_i (dc_St_canGive (sy_rd h) a2 a1 a3)], h) _
      refine sy_ifc mj_d_64_30 rfl ⟨by omega, by omega⟩ (fun (c8 : ¬ ((dc_St_canGive (sy_rd h) a2 a1 a3) = 0)) => ?_) (fun (c8 : ¬ ¬ ((dc_St_canGive (sy_rd h) a2 a1 a3) = 0)) => ?_)
      · skip
        rw [if_neg c8]
        refine sy_st (S' := (mj_m_64, 37, [(0, .ref 0), (1, sy_i a1), (2, sy_i a2), (3, sy_i a3)], [.ref 0], h)) mj_d_64_36 (fun _ _ => rfl) ?_
        refine sy_gr2 (b := 19) mj_d_64_37 rfl rfl (by decide) rfl rfl hH ?_
        refine sy_st (S' := (mj_m_64, 41, [(0, .ref 0), (1, sy_i a1), (2, sy_i a2), (3, sy_i a3)], [.ref 0, .ref 19], h)) mj_d_64_40 (fun _ _ => rfl) ?_
        refine sy_gr2 (b := 13) mj_d_64_41 rfl rfl (by decide) rfl rfl hH ?_
        refine sy_cv (M' := mj_m_47) (vs := [.ref 19, .ref 13]) (rest := []) mj_d_64_44 rfl rfl rfl rfl hH rfl rfl ⟨by decide, ⟨Nat.le_of_ble_eq_true rfl, Nat.le_of_ble_eq_true rfl, Nat.le_of_ble_eq_true rfl, Nat.le_of_ble_eq_true rfl, Nat.le_of_ble_eq_true rfl⟩⟩ (dt_Past_remember hH) ?_
        rintro _ h9 ⟨rfl, th9, eh9⟩
        show sy_wp (mj_m_64, 47, [(0, .ref 0), (1, sy_i a1), (2, sy_i a2), (3, sy_i a3)], [], h9) _
        refine sy_st (S' := (mj_m_64, 48, [(0, .ref 0), (1, sy_i a1), (2, sy_i a2), (3, sy_i a3)], [.ref 0], h9)) mj_d_64_47 (fun _ _ => rfl) ?_
        refine sy_gr2 (b := 8) mj_d_64_48 rfl rfl (by decide) rfl rfl th9 ?_
        refine sy_gr2 (b := 12) mj_d_64_51 rfl rfl (by decide) rfl rfl th9 ?_
        refine sy_st (S' := (mj_m_64, 55, [(0, .ref 0), (1, sy_i a1), (2, sy_i a2), (3, sy_i a3)], [sy_i a2, .ref 12], h9)) mj_d_64_54 (fun _ _ => rfl) ?_
        refine sy_ia mj_d_64_55 rfl (by decide) (by omega) (by omega) (ab_el_1 rfl _) th9 ?_
        intro x11 ex11 bx11 tx11
        rw [eh9] at ex11
        subst ex11
        refine sy_st (S' := (mj_m_64, 58, [(4, sy_i ((dc_Past_remember (sy_rd h)) 12 ((a2).toNat))), (0, .ref 0), (1, sy_i a1), (2, sy_i a2), (3, sy_i a3)], [], h9)) mj_d_64_56 (fun _ _ => rfl) ?_
        refine sy_st (S' := (mj_m_64, 59, [(4, sy_i ((dc_Past_remember (sy_rd h)) 12 ((a2).toNat))), (0, .ref 0), (1, sy_i a1), (2, sy_i a2), (3, sy_i a3)], [.ref 0], h9)) mj_d_64_58 (fun _ _ => rfl) ?_
        refine sy_gr2 (b := 13) mj_d_64_59 rfl rfl (by decide) rfl rfl th9 ?_
        refine sy_st (S' := (mj_m_64, 63, [(4, sy_i ((dc_Past_remember (sy_rd h)) 12 ((a2).toNat))), (0, .ref 0), (1, sy_i a1), (2, sy_i a2), (3, sy_i a3)], [sy_i a1, .ref 13], h9)) mj_d_64_62 (fun _ _ => rfl) ?_
        refine sy_st (S' := (mj_m_64, 64, [(4, sy_i ((dc_Past_remember (sy_rd h)) 12 ((a2).toNat))), (0, .ref 0), (1, sy_i a1), (2, sy_i a2), (3, sy_i a3)], [sy_i a3, sy_i a1, .ref 13], h9)) mj_d_64_63 (fun _ _ => rfl) ?_
        refine sy_cv (M' := mj_m_63) (vs := [.ref 13, sy_i a1, sy_i a3]) (rest := []) mj_d_64_64 rfl rfl rfl rfl th9 rfl rfl ⟨by decide, ⟨Nat.le_of_ble_eq_true rfl, Nat.le_of_ble_eq_true rfl, Nat.le_of_ble_eq_true rfl, Nat.le_of_ble_eq_true rfl, Nat.le_of_ble_eq_true rfl⟩⟩ (dt_St_learn (a1 := a1) (a2 := a3) th9 (by omega) (by omega) (by omega) (by omega)) ?_
        rintro _ h12 ⟨rfl, th12, eh12⟩
        rw [eh9] at eh12
        show sy_wp (mj_m_64, 67, [(4, sy_i ((dc_Past_remember (sy_rd h)) 12 ((a2).toNat))), (0, .ref 0), (1, sy_i a1), (2, sy_i a2), (3, sy_i a3)], [], h12) _
        refine sy_st (S' := (mj_m_64, 68, [(4, sy_i ((dc_Past_remember (sy_rd h)) 12 ((a2).toNat))), (0, .ref 0), (1, sy_i a1), (2, sy_i a2), (3, sy_i a3)], [.ref 0], h12)) mj_d_64_67 (fun _ _ => rfl) ?_
        refine sy_gr2 (b := 13) mj_d_64_68 rfl rfl (by decide) rfl rfl th12 ?_
        refine sy_gr2 (b := 18) mj_d_64_71 rfl rfl (by decide) rfl rfl th12 ?_
        refine sy_st (S' := (mj_m_64, 75, [(4, sy_i ((dc_Past_remember (sy_rd h)) 12 ((a2).toNat))), (0, .ref 0), (1, sy_i a1), (2, sy_i a2), (3, sy_i a3)], [sy_i a1, .ref 18], h12)) mj_d_64_74 (fun _ _ => rfl) ?_
        refine sy_st (S' := (mj_m_64, 76, [(4, sy_i ((dc_Past_remember (sy_rd h)) 12 ((a2).toNat))), (0, .ref 0), (1, sy_i a1), (2, sy_i a2), (3, sy_i a3)], [sy_i a1, .ref 18, sy_i a1, .ref 18], h12)) mj_d_64_75 (fun _ _ => rfl) ?_
        refine sy_ia mj_d_64_76 rfl (by decide) (by omega) (by omega) (ab_el_1 rfl _) th12 ?_
        intro x14 ex14 bx14 tx14
        rw [eh12] at ex14
        subst ex14
        refine sy_st (S' := (mj_m_64, 79, [(4, sy_i ((dc_Past_remember (sy_rd h)) 12 ((a2).toNat))), (0, .ref 0), (1, sy_i a1), (2, sy_i a2), (3, sy_i a3)], [sy_i ((dc_Past_remember (sy_rd h)) 12 ((a2).toNat)), sy_i ((dc_St_learn (dc_Past_remember (sy_rd h)) a1 a3) 18 ((a1).toNat)), sy_i a1, .ref 18], h12)) mj_d_64_77 (fun _ _ => rfl) ?_
        refine sy_sub mj_d_64_79 ?_
        refine sg_iasw (v := (((dc_St_learn (dc_Past_remember (sy_rd h)) a1 a3) 18 ((a1).toNat)) - ((dc_Past_remember (sy_rd h)) 12 ((a2).toNat)))) mj_d_64_80 rfl (by decide) (by omega) (by omega) (ab_el_1 rfl _) th12 ?_
        intro h15 th15 eh15
        rw [eh12] at eh15
        refine sy_st (S' := (mj_m_64, 82, [(4, sy_i ((dc_Past_remember (sy_rd h)) 12 ((a2).toNat))), (0, .ref 0), (1, sy_i a1), (2, sy_i a2), (3, sy_i a3)], [.ref 0], h15)) mj_d_64_81 (fun _ _ => rfl) ?_
        refine sy_gr2 (b := 13) mj_d_64_82 rfl rfl (by decide) rfl rfl th15 ?_
        refine sy_gr2 (b := 18) mj_d_64_85 rfl rfl (by decide) rfl rfl th15 ?_
        refine sy_st (S' := (mj_m_64, 89, [(4, sy_i ((dc_Past_remember (sy_rd h)) 12 ((a2).toNat))), (0, .ref 0), (1, sy_i a1), (2, sy_i a2), (3, sy_i a3)], [sy_i a2, .ref 18], h15)) mj_d_64_88 (fun _ _ => rfl) ?_
        refine sy_st (S' := (mj_m_64, 90, [(4, sy_i ((dc_Past_remember (sy_rd h)) 12 ((a2).toNat))), (0, .ref 0), (1, sy_i a1), (2, sy_i a2), (3, sy_i a3)], [sy_i a2, .ref 18, sy_i a2, .ref 18], h15)) mj_d_64_89 (fun _ _ => rfl) ?_
        refine sy_ia mj_d_64_90 rfl (by decide) (by omega) (by omega) (ab_el_1 rfl _) th15 ?_
        intro x16 ex16 bx16 tx16
        rw [eh15] at ex16
        subst ex16
        refine sy_st (S' := (mj_m_64, 93, [(4, sy_i ((dc_Past_remember (sy_rd h)) 12 ((a2).toNat))), (0, .ref 0), (1, sy_i a1), (2, sy_i a2), (3, sy_i a3)], [sy_i ((dc_Past_remember (sy_rd h)) 12 ((a2).toNat)), sy_i ((sg_up (dc_St_learn (dc_Past_remember (sy_rd h)) a1 a3) 18 ((a1).toNat) (sy_w (((dc_St_learn (dc_Past_remember (sy_rd h)) a1 a3) 18 ((a1).toNat)) - ((dc_Past_remember (sy_rd h)) 12 ((a2).toNat))))) 18 ((a2).toNat)), sy_i a2, .ref 18], h15)) mj_d_64_91 (fun _ _ => rfl) ?_
        refine sy_add mj_d_64_93 ?_
        refine sg_iasw (v := (((sg_up (dc_St_learn (dc_Past_remember (sy_rd h)) a1 a3) 18 ((a1).toNat) (sy_w (((dc_St_learn (dc_Past_remember (sy_rd h)) a1 a3) 18 ((a1).toNat)) - ((dc_Past_remember (sy_rd h)) 12 ((a2).toNat))))) 18 ((a2).toNat)) + ((dc_Past_remember (sy_rd h)) 12 ((a2).toNat)))) mj_d_64_94 rfl (by decide) (by omega) (by omega) (ab_el_1 rfl _) th15 ?_
        intro h17 th17 eh17
        rw [eh15] at eh17
        refine sy_st (S' := (mj_m_64, 96, [(4, sy_i ((dc_Past_remember (sy_rd h)) 12 ((a2).toNat))), (0, .ref 0), (1, sy_i a1), (2, sy_i a2), (3, sy_i a3)], [.ref 0], h17)) mj_d_64_95 (fun _ _ => rfl) ?_
        refine sy_gr2 (b := 13) mj_d_64_96 rfl rfl (by decide) rfl rfl th17 ?_
        refine sy_st (S' := (mj_m_64, 100, [(4, sy_i ((dc_Past_remember (sy_rd h)) 12 ((a2).toNat))), (0, .ref 0), (1, sy_i a1), (2, sy_i a2), (3, sy_i a3)], [.ref 13, .ref 13], h17)) mj_d_64_99 (fun _ _ => rfl) ?_
        refine sy_gf mj_d_64_100 rfl rfl (by decide) rfl th17 ?_
        intro x18 ex18 bx18 tx18
        rw [eh17, sg_na (by decide), sg_na (by decide)] at ex18
        subst ex18
        refine sy_st (S' := (mj_m_64, 105, [(4, sy_i ((dc_Past_remember (sy_rd h)) 12 ((a2).toNat))), (0, .ref 0), (1, sy_i a1), (2, sy_i a2), (3, sy_i a3)], [sy_i ((dc_Past_remember (sy_rd h)) 12 ((a2).toNat)), sy_i ((dc_St_learn (dc_Past_remember (sy_rd h)) a1 a3) 13 6), .ref 13], h17)) mj_d_64_103 (fun _ _ => rfl) ?_
        refine sy_add mj_d_64_105 ?_
        refine sg_pfw (z := (((dc_St_learn (dc_Past_remember (sy_rd h)) a1 a3) 13 6) + ((dc_Past_remember (sy_rd h)) 12 ((a2).toNat)))) mj_d_64_106 rfl rfl (by decide) rfl rfl th17 ?_
        intro h19 th19 eh19
        rw [eh17] at eh19
        refine sy_st (S' := (mj_m_64, 111, [(4, sy_i ((dc_Past_remember (sy_rd h)) 12 ((a2).toNat))), (0, .ref 0), (1, sy_i a1), (2, sy_i a2), (3, sy_i a3)], [sy_i ((dc_Past_remember (sy_rd h)) 12 ((a2).toNat))], h19)) mj_d_64_109 (fun _ _ => rfl) ?_
        exact sy_reti mj_d_64_111 rfl ⟨th19, eh19, rfl, by omega, by omega⟩
      · skip
        rw [if_pos (Decidable.not_not.mp c8)]
        replace c8 := Decidable.not_not.mp c8
        refine sy_ldc (n := -1000000003) mj_d_64_33 rfl (by decide) ?_
        exact sy_reti mj_d_64_35 rfl ⟨hH, rfl, rfl, by omega, by omega⟩
    · skip
      rw [if_pos (Decidable.not_not.mp c6)]
      replace c6 := Decidable.not_not.mp c6
      refine sy_ldc (n := -1000000001) mj_d_64_17 rfl (by decide) ?_
      exact sy_reti mj_d_64_19 rfl ⟨hH, rfl, rfl, by omega, by omega⟩
