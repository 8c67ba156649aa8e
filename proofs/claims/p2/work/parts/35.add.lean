def mj_m_11 : mj_M := (⟨"SootMaps$Text", "add", "(C)I"⟩, prog_11_method_2_code, 2, (some .int), 8, 1, 1, 0, 0)
def mj_m_16 : mj_M := (⟨"SootMaps$Text", "letter", "()C"⟩, prog_11_method_4_code, 1, (some .char), 8, 0, 1, 0, 0)
def mj_m_27 : mj_M := (⟨"SootMaps$Plan", "tellHouse", "(II)V"⟩, prog_6_method_5_code, 3, none, 4, 2, 1, 0, 0)
def mj_m_28 : mj_M := (⟨"SootMaps$Plan", "tellSweep", "(II)V"⟩, prog_6_method_6_code, 3, none, 4, 2, 1, 0, 0)
def mj_m_107 : mj_M := (⟨"SootMaps$Sights", "add", "(IIZ)I"⟩, prog_8_method_2_code, 4, (some .int), 6, 3, 1, 0, 0)
def mj_m_114 : mj_M := (⟨"SootMaps$Book", "add", "(II)I"⟩, prog_3_method_2_code, 3, (some .int), 1, 2, 1, 0, 0)
theorem mj_d_11_0 : decode mj_m_11.2.1 0 = .ok (.aload_n 0, 1) := by decide +kernel
theorem mj_d_11_1 : decode mj_m_11.2.1 1 = .ok (.getfield 26, 3) := by decide +kernel
theorem mj_d_11_4 : decode mj_m_11.2.1 4 = .ok (.ifCond .lt 13, 3) := by decide +kernel
theorem mj_d_11_7 : decode mj_m_11.2.1 7 = .ok (.aload_n 0, 1) := by decide +kernel
theorem mj_d_11_8 : decode mj_m_11.2.1 8 = .ok (.getfield 26, 3) := by decide +kernel
theorem mj_d_11_11 : decode mj_m_11.2.1 11 = .ok (.sipush 240, 3) := by decide +kernel
theorem mj_d_11_14 : decode mj_m_11.2.1 14 = .ok (.if_icmp .lt 6, 3) := by decide +kernel
theorem mj_d_11_17 : decode mj_m_11.2.1 17 = .ok (.ldc 29, 2) := by decide +kernel
theorem mj_d_11_19 : decode mj_m_11.2.1 19 = .ok (.ireturn, 1) := by decide +kernel
theorem mj_d_11_20 : decode mj_m_11.2.1 20 = .ok (.aload_n 0, 1) := by decide +kernel
theorem mj_d_11_21 : decode mj_m_11.2.1 21 = .ok (.getfield 9, 3) := by decide +kernel
theorem mj_d_11_24 : decode mj_m_11.2.1 24 = .ok (.aload_n 0, 1) := by decide +kernel
theorem mj_d_11_25 : decode mj_m_11.2.1 25 = .ok (.getfield 26, 3) := by decide +kernel
theorem mj_d_11_28 : decode mj_m_11.2.1 28 = .ok (.iload_n 1, 1) := by decide +kernel
theorem mj_d_11_29 : decode mj_m_11.2.1 29 = .ok (.castore, 1) := by decide +kernel
theorem mj_d_11_30 : decode mj_m_11.2.1 30 = .ok (.aload_n 0, 1) := by decide +kernel
theorem mj_d_11_31 : decode mj_m_11.2.1 31 = .ok (.dup, 1) := by decide +kernel
theorem mj_d_11_32 : decode mj_m_11.2.1 32 = .ok (.getfield 26, 3) := by decide +kernel
theorem mj_d_11_35 : decode mj_m_11.2.1 35 = .ok (.iconst 1, 1) := by decide +kernel
theorem mj_d_11_36 : decode mj_m_11.2.1 36 = .ok (.iadd, 1) := by decide +kernel
theorem mj_d_11_37 : decode mj_m_11.2.1 37 = .ok (.putfield 26, 3) := by decide +kernel
theorem mj_d_11_40 : decode mj_m_11.2.1 40 = .ok (.aload_n 0, 1) := by decide +kernel
theorem mj_d_11_41 : decode mj_m_11.2.1 41 = .ok (.getfield 26, 3) := by decide +kernel
theorem mj_d_11_44 : decode mj_m_11.2.1 44 = .ok (.ireturn, 1) := by decide +kernel
theorem mj_d_16_0 : decode mj_m_16.2.1 0 = .ok (.aload_n 0, 1) := by decide +kernel
theorem mj_d_16_1 : decode mj_m_16.2.1 1 = .ok (.getfield 30, 3) := by decide +kernel
theorem mj_d_16_4 : decode mj_m_16.2.1 4 = .ok (.ifCond .lt 36, 3) := by decide +kernel
theorem mj_d_16_7 : decode mj_m_16.2.1 7 = .ok (.aload_n 0, 1) := by decide +kernel
theorem mj_d_16_8 : decode mj_m_16.2.1 8 = .ok (.getfield 30, 3) := by decide +kernel
theorem mj_d_16_11 : decode mj_m_16.2.1 11 = .ok (.aload_n 0, 1) := by decide +kernel
theorem mj_d_16_12 : decode mj_m_16.2.1 12 = .ok (.getfield 26, 3) := by decide +kernel
theorem mj_d_16_15 : decode mj_m_16.2.1 15 = .ok (.if_icmp .ge 25, 3) := by decide +kernel
theorem mj_d_16_18 : decode mj_m_16.2.1 18 = .ok (.aload_n 0, 1) := by decide +kernel
theorem mj_d_16_19 : decode mj_m_16.2.1 19 = .ok (.getfield 30, 3) := by decide +kernel
theorem mj_d_16_22 : decode mj_m_16.2.1 22 = .ok (.sipush 240, 3) := by decide +kernel
theorem mj_d_16_25 : decode mj_m_16.2.1 25 = .ok (.if_icmp .ge 15, 3) := by decide +kernel
theorem mj_d_16_28 : decode mj_m_16.2.1 28 = .ok (.aload_n 0, 1) := by decide +kernel
theorem mj_d_16_29 : decode mj_m_16.2.1 29 = .ok (.getfield 9, 3) := by decide +kernel
theorem mj_d_16_32 : decode mj_m_16.2.1 32 = .ok (.aload_n 0, 1) := by decide +kernel
theorem mj_d_16_33 : decode mj_m_16.2.1 33 = .ok (.getfield 30, 3) := by decide +kernel
theorem mj_d_16_36 : decode mj_m_16.2.1 36 = .ok (.caload, 1) := by decide +kernel
theorem mj_d_16_37 : decode mj_m_16.2.1 37 = .ok (.goto 4, 3) := by decide +kernel
theorem mj_d_16_40 : decode mj_m_16.2.1 40 = .ok (.iconst 0, 1) := by decide +kernel
theorem mj_d_16_41 : decode mj_m_16.2.1 41 = .ok (.ireturn, 1) := by decide +kernel
theorem mj_d_27_0 : decode mj_m_27.2.1 0 = .ok (.aload_n 0, 1) := by decide +kernel
theorem mj_d_27_1 : decode mj_m_27.2.1 1 = .ok (.getfield 35, 3) := by decide +kernel
theorem mj_d_27_4 : decode mj_m_27.2.1 4 = .ok (.bipush 9, 2) := by decide +kernel
theorem mj_d_27_6 : decode mj_m_27.2.1 6 = .ok (.if_icmp .ge 43, 3) := by decide +kernel
theorem mj_d_27_9 : decode mj_m_27.2.1 9 = .ok (.aload_n 0, 1) := by decide +kernel
theorem mj_d_27_10 : decode mj_m_27.2.1 10 = .ok (.getfield 9, 3) := by decide +kernel
theorem mj_d_27_13 : decode mj_m_27.2.1 13 = .ok (.aload_n 0, 1) := by decide +kernel
theorem mj_d_27_14 : decode mj_m_27.2.1 14 = .ok (.getfield 35, 3) := by decide +kernel
theorem mj_d_27_17 : decode mj_m_27.2.1 17 = .ok (.iload_n 1, 1) := by decide +kernel
theorem mj_d_27_18 : decode mj_m_27.2.1 18 = .ok (.bipush 9, 2) := by decide +kernel
theorem mj_d_27_20 : decode mj_m_27.2.1 20 = .ok (.if_icmp .ne 7, 3) := by decide +kernel
theorem mj_d_27_23 : decode mj_m_27.2.1 23 = .ok (.iconst (-1), 1) := by decide +kernel
theorem mj_d_27_24 : decode mj_m_27.2.1 24 = .ok (.goto 4, 3) := by decide +kernel
theorem mj_d_27_27 : decode mj_m_27.2.1 27 = .ok (.iload_n 1, 1) := by decide +kernel
theorem mj_d_27_28 : decode mj_m_27.2.1 28 = .ok (.iastore, 1) := by decide +kernel
theorem mj_d_27_29 : decode mj_m_27.2.1 29 = .ok (.aload_n 0, 1) := by decide +kernel
theorem mj_d_27_30 : decode mj_m_27.2.1 30 = .ok (.getfield 15, 3) := by decide +kernel
theorem mj_d_27_33 : decode mj_m_27.2.1 33 = .ok (.aload_n 0, 1) := by decide +kernel
theorem mj_d_27_34 : decode mj_m_27.2.1 34 = .ok (.getfield 35, 3) := by decide +kernel
theorem mj_d_27_37 : decode mj_m_27.2.1 37 = .ok (.iload_n 2, 1) := by decide +kernel
theorem mj_d_27_38 : decode mj_m_27.2.1 38 = .ok (.iastore, 1) := by decide +kernel
theorem mj_d_27_39 : decode mj_m_27.2.1 39 = .ok (.aload_n 0, 1) := by decide +kernel
theorem mj_d_27_40 : decode mj_m_27.2.1 40 = .ok (.dup, 1) := by decide +kernel
theorem mj_d_27_41 : decode mj_m_27.2.1 41 = .ok (.getfield 35, 3) := by decide +kernel
theorem mj_d_27_44 : decode mj_m_27.2.1 44 = .ok (.iconst 1, 1) := by decide +kernel
theorem mj_d_27_45 : decode mj_m_27.2.1 45 = .ok (.iadd, 1) := by decide +kernel
theorem mj_d_27_46 : decode mj_m_27.2.1 46 = .ok (.putfield 35, 3) := by decide +kernel
theorem mj_d_27_49 : decode mj_m_27.2.1 49 = .ok (.return_, 1) := by decide +kernel
theorem mj_d_28_0 : decode mj_m_28.2.1 0 = .ok (.aload_n 0, 1) := by decide +kernel
theorem mj_d_28_1 : decode mj_m_28.2.1 1 = .ok (.getfield 38, 3) := by decide +kernel
theorem mj_d_28_4 : decode mj_m_28.2.1 4 = .ok (.iconst 5, 1) := by decide +kernel
theorem mj_d_28_5 : decode mj_m_28.2.1 5 = .ok (.if_icmp .ge 33, 3) := by decide +kernel
theorem mj_d_28_8 : decode mj_m_28.2.1 8 = .ok (.aload_n 0, 1) := by decide +kernel
theorem mj_d_28_9 : decode mj_m_28.2.1 9 = .ok (.getfield 18, 3) := by decide +kernel
theorem mj_d_28_12 : decode mj_m_28.2.1 12 = .ok (.aload_n 0, 1) := by decide +kernel
theorem mj_d_28_13 : decode mj_m_28.2.1 13 = .ok (.getfield 38, 3) := by decide +kernel
theorem mj_d_28_16 : decode mj_m_28.2.1 16 = .ok (.iload_n 1, 1) := by decide +kernel
theorem mj_d_28_17 : decode mj_m_28.2.1 17 = .ok (.iastore, 1) := by decide +kernel
theorem mj_d_28_18 : decode mj_m_28.2.1 18 = .ok (.aload_n 0, 1) := by decide +kernel
theorem mj_d_28_19 : decode mj_m_28.2.1 19 = .ok (.getfield 21, 3) := by decide +kernel
theorem mj_d_28_22 : decode mj_m_28.2.1 22 = .ok (.aload_n 0, 1) := by decide +kernel
theorem mj_d_28_23 : decode mj_m_28.2.1 23 = .ok (.getfield 38, 3) := by decide +kernel
theorem mj_d_28_26 : decode mj_m_28.2.1 26 = .ok (.iload_n 2, 1) := by decide +kernel
theorem mj_d_28_27 : decode mj_m_28.2.1 27 = .ok (.iastore, 1) := by decide +kernel
theorem mj_d_28_28 : decode mj_m_28.2.1 28 = .ok (.aload_n 0, 1) := by decide +kernel
theorem mj_d_28_29 : decode mj_m_28.2.1 29 = .ok (.dup, 1) := by decide +kernel
theorem mj_d_28_30 : decode mj_m_28.2.1 30 = .ok (.getfield 38, 3) := by decide +kernel
theorem mj_d_28_33 : decode mj_m_28.2.1 33 = .ok (.iconst 1, 1) := by decide +kernel
theorem mj_d_28_34 : decode mj_m_28.2.1 34 = .ok (.iadd, 1) := by decide +kernel
theorem mj_d_28_35 : decode mj_m_28.2.1 35 = .ok (.putfield 38, 3) := by decide +kernel
theorem mj_d_28_38 : decode mj_m_28.2.1 38 = .ok (.return_, 1) := by decide +kernel
theorem mj_d_107_0 : decode mj_m_107.2.1 0 = .ok (.aload_n 0, 1) := by decide +kernel
theorem mj_d_107_1 : decode mj_m_107.2.1 1 = .ok (.getfield 22, 3) := by decide +kernel
theorem mj_d_107_4 : decode mj_m_107.2.1 4 = .ok (.ifCond .lt 12, 3) := by decide +kernel
theorem mj_d_107_7 : decode mj_m_107.2.1 7 = .ok (.aload_n 0, 1) := by decide +kernel
theorem mj_d_107_8 : decode mj_m_107.2.1 8 = .ok (.getfield 22, 3) := by decide +kernel
theorem mj_d_107_11 : decode mj_m_107.2.1 11 = .ok (.bipush 6, 2) := by decide +kernel
theorem mj_d_107_13 : decode mj_m_107.2.1 13 = .ok (.if_icmp .lt 6, 3) := by decide +kernel
theorem mj_d_107_16 : decode mj_m_107.2.1 16 = .ok (.ldc 26, 2) := by decide +kernel
theorem mj_d_107_18 : decode mj_m_107.2.1 18 = .ok (.ireturn, 1) := by decide +kernel
theorem mj_d_107_19 : decode mj_m_107.2.1 19 = .ok (.aload_n 0, 1) := by decide +kernel
theorem mj_d_107_20 : decode mj_m_107.2.1 20 = .ok (.getfield 9, 3) := by decide +kernel
theorem mj_d_107_23 : decode mj_m_107.2.1 23 = .ok (.aload_n 0, 1) := by decide +kernel
theorem mj_d_107_24 : decode mj_m_107.2.1 24 = .ok (.getfield 22, 3) := by decide +kernel
theorem mj_d_107_27 : decode mj_m_107.2.1 27 = .ok (.iload_n 1, 1) := by decide +kernel
theorem mj_d_107_28 : decode mj_m_107.2.1 28 = .ok (.iastore, 1) := by decide +kernel
theorem mj_d_107_29 : decode mj_m_107.2.1 29 = .ok (.aload_n 0, 1) := by decide +kernel
theorem mj_d_107_30 : decode mj_m_107.2.1 30 = .ok (.getfield 15, 3) := by decide +kernel
theorem mj_d_107_33 : decode mj_m_107.2.1 33 = .ok (.aload_n 0, 1) := by decide +kernel
theorem mj_d_107_34 : decode mj_m_107.2.1 34 = .ok (.getfield 22, 3) := by decide +kernel
theorem mj_d_107_37 : decode mj_m_107.2.1 37 = .ok (.iload_n 2, 1) := by decide +kernel
theorem mj_d_107_38 : decode mj_m_107.2.1 38 = .ok (.iastore, 1) := by decide +kernel
theorem mj_d_107_39 : decode mj_m_107.2.1 39 = .ok (.aload_n 0, 1) := by decide +kernel
theorem mj_d_107_40 : decode mj_m_107.2.1 40 = .ok (.getfield 18, 3) := by decide +kernel
theorem mj_d_107_43 : decode mj_m_107.2.1 43 = .ok (.aload_n 0, 1) := by decide +kernel
theorem mj_d_107_44 : decode mj_m_107.2.1 44 = .ok (.getfield 22, 3) := by decide +kernel
theorem mj_d_107_47 : decode mj_m_107.2.1 47 = .ok (.iload_n 3, 1) := by decide +kernel
theorem mj_d_107_48 : decode mj_m_107.2.1 48 = .ok (.bastore, 1) := by decide +kernel
theorem mj_d_107_49 : decode mj_m_107.2.1 49 = .ok (.aload_n 0, 1) := by decide +kernel
theorem mj_d_107_50 : decode mj_m_107.2.1 50 = .ok (.dup, 1) := by decide +kernel
theorem mj_d_107_51 : decode mj_m_107.2.1 51 = .ok (.getfield 22, 3) := by decide +kernel
theorem mj_d_107_54 : decode mj_m_107.2.1 54 = .ok (.iconst 1, 1) := by decide +kernel
theorem mj_d_107_55 : decode mj_m_107.2.1 55 = .ok (.iadd, 1) := by decide +kernel
theorem mj_d_107_56 : decode mj_m_107.2.1 56 = .ok (.putfield 22, 3) := by decide +kernel
theorem mj_d_107_59 : decode mj_m_107.2.1 59 = .ok (.aload_n 0, 1) := by decide +kernel
theorem mj_d_107_60 : decode mj_m_107.2.1 60 = .ok (.getfield 22, 3) := by decide +kernel
theorem mj_d_107_63 : decode mj_m_107.2.1 63 = .ok (.ireturn, 1) := by decide +kernel
theorem mj_d_114_0 : decode mj_m_114.2.1 0 = .ok (.aload_n 0, 1) := by decide +kernel
theorem mj_d_114_1 : decode mj_m_114.2.1 1 = .ok (.getfield 18, 3) := by decide +kernel
theorem mj_d_114_4 : decode mj_m_114.2.1 4 = .ok (.ifCond .lt 12, 3) := by decide +kernel
theorem mj_d_114_7 : decode mj_m_114.2.1 7 = .ok (.aload_n 0, 1) := by decide +kernel
theorem mj_d_114_8 : decode mj_m_114.2.1 8 = .ok (.getfield 18, 3) := by decide +kernel
theorem mj_d_114_11 : decode mj_m_114.2.1 11 = .ok (.bipush 20, 2) := by decide +kernel
theorem mj_d_114_13 : decode mj_m_114.2.1 13 = .ok (.if_icmp .lt 6, 3) := by decide +kernel
theorem mj_d_114_16 : decode mj_m_114.2.1 16 = .ok (.ldc 22, 2) := by decide +kernel
theorem mj_d_114_18 : decode mj_m_114.2.1 18 = .ok (.ireturn, 1) := by decide +kernel
theorem mj_d_114_19 : decode mj_m_114.2.1 19 = .ok (.aload_n 0, 1) := by decide +kernel
theorem mj_d_114_20 : decode mj_m_114.2.1 20 = .ok (.getfield 9, 3) := by decide +kernel
theorem mj_d_114_23 : decode mj_m_114.2.1 23 = .ok (.aload_n 0, 1) := by decide +kernel
theorem mj_d_114_24 : decode mj_m_114.2.1 24 = .ok (.getfield 18, 3) := by decide +kernel
theorem mj_d_114_27 : decode mj_m_114.2.1 27 = .ok (.iload_n 1, 1) := by decide +kernel
theorem mj_d_114_28 : decode mj_m_114.2.1 28 = .ok (.iastore, 1) := by decide +kernel
theorem mj_d_114_29 : decode mj_m_114.2.1 29 = .ok (.aload_n 0, 1) := by decide +kernel
theorem mj_d_114_30 : decode mj_m_114.2.1 30 = .ok (.getfield 15, 3) := by decide +kernel
theorem mj_d_114_33 : decode mj_m_114.2.1 33 = .ok (.aload_n 0, 1) := by decide +kernel
theorem mj_d_114_34 : decode mj_m_114.2.1 34 = .ok (.getfield 18, 3) := by decide +kernel
theorem mj_d_114_37 : decode mj_m_114.2.1 37 = .ok (.iload_n 2, 1) := by decide +kernel
theorem mj_d_114_38 : decode mj_m_114.2.1 38 = .ok (.iastore, 1) := by decide +kernel
theorem mj_d_114_39 : decode mj_m_114.2.1 39 = .ok (.aload_n 0, 1) := by decide +kernel
theorem mj_d_114_40 : decode mj_m_114.2.1 40 = .ok (.dup, 1) := by decide +kernel
theorem mj_d_114_41 : decode mj_m_114.2.1 41 = .ok (.getfield 18, 3) := by decide +kernel
theorem mj_d_114_44 : decode mj_m_114.2.1 44 = .ok (.iconst 1, 1) := by decide +kernel
theorem mj_d_114_45 : decode mj_m_114.2.1 45 = .ok (.iadd, 1) := by decide +kernel
theorem mj_d_114_46 : decode mj_m_114.2.1 46 = .ok (.putfield 18, 3) := by decide +kernel
theorem mj_d_114_49 : decode mj_m_114.2.1 49 = .ok (.aload_n 0, 1) := by decide +kernel
theorem mj_d_114_50 : decode mj_m_114.2.1 50 = .ok (.getfield 18, 3) := by decide +kernel
theorem mj_d_114_53 : decode mj_m_114.2.1 53 = .ok (.ireturn, 1) := by decide +kernel
def ab_s_107_m_d : ab_M := (107, [(2, 217, 0, 0), (0, 0, 8, 0), (0, 0, 7, 0), (0, 0, 1, 0)], [(some (0, -1000000004, 6, 0), [(2, 217, 0, 0), (0, 0, 8, 0), (0, 0, 7, 0), (0, 0, 1, 0)])])
set_option maxRecDepth 100000 in
theorem ab_s_107_m : ab_sum ab_ty ab_TT ab_s_107_m_d := by
  intro M vs h hM ha0 hH
  obtain rfl := Option.some.inj (hM : some mj_m_107 = some M)
  clear hM
  obtain ⟨v0, vs1, rfl, m0, ha1⟩ := sy_args1 ha0
  obtain rfl := sy_ref (a := 217) (by decide +kernel) m0
  obtain ⟨v1, vs2, rfl, m1, ha2⟩ := sy_args1 ha1
  obtain ⟨z1, rfl, az1, bz1, cz1, dz1⟩ := sy_int m1
  obtain ⟨v2, vs3, rfl, m2, ha3⟩ := sy_args1 ha2
  obtain ⟨z2, rfl, az2, bz2, cz2, dz2⟩ := sy_int m2
  obtain ⟨v3, vs4, rfl, m3, ha4⟩ := sy_args1 ha3
  obtain ⟨z3, rfl, az3, bz3, cz3, dz3⟩ := sy_int m3
  obtain rfl := sy_args0 ha4
  show sy_wp (mj_m_107, 0, [(0, .ref 217), (1, sy_i z1), (2, sy_i z2), (3, sy_i z3)], [], h) (fun r h' => sy_H h' ∧ ∃ out ∈ ab_s_107_m_d.2.2, ab_ret ab_ty out.1 r ∧ ab_args ab_ty out.2 _)
  refine sy_st (S' := (mj_m_107, 1, [(0, .ref 217), (1, sy_i z1), (2, sy_i z2), (3, sy_i z3)], [.ref 217], h)) mj_d_107_0 (fun _ _ => rfl) ?_
  refine sy_gf mj_d_107_1 rfl rfl (by decide) rfl hH ?_
  intro x1 ex1 bx1 tx1
  refine sy_ifc mj_d_107_4 rfl ⟨by omega, by omega⟩ (fun (c2 : x1 < 0) => ?_) (fun (c2 : ¬ (x1 < 0)) => ?_)
  · skip
    refine sy_ldc (n := -1000000004) mj_d_107_16 rfl (by decide) ?_
    refine sy_reti mj_d_107_18 rfl ?_
    exact ⟨hH, _, List.mem_cons_self, sy_m (by omega) (by omega) ⟨by omega, by omega⟩, ha0⟩
  · skip
    refine sy_st (S' := (mj_m_107, 8, [(0, .ref 217), (1, sy_i z1), (2, sy_i z2), (3, sy_i z3)], [.ref 217], h)) mj_d_107_7 (fun _ _ => rfl) ?_
    refine sy_gf mj_d_107_8 rfl rfl (by decide) rfl hH ?_
    intro x3 ex3 bx3 tx3
    have qx3 : x3 = x1 := by rw [ex3, ex1]
    refine sy_bip mj_d_107_11 (by decide) ?_
    refine sy_icm mj_d_107_13 rfl ⟨by omega, by omega⟩ ⟨by omega, by omega⟩ (fun (c4 : x3 < 6) => ?_) (fun (c4 : ¬ (x3 < 6)) => ?_)
    · skip
      refine sy_st (S' := (mj_m_107, 20, [(0, .ref 217), (1, sy_i z1), (2, sy_i z2), (3, sy_i z3)], [.ref 217], h)) mj_d_107_19 (fun _ _ => rfl) ?_
      refine sy_gr (b := 218) mj_d_107_20 rfl rfl (by decide) rfl (by decide +kernel) hH ?_
      refine sy_st (S' := (mj_m_107, 24, [(0, .ref 217), (1, sy_i z1), (2, sy_i z2), (3, sy_i z3)], [.ref 217, .ref 218], h)) mj_d_107_23 (fun _ _ => rfl) ?_
      refine sy_gf mj_d_107_24 rfl rfl (by decide) rfl hH ?_
      intro x5 ex5 bx5 tx5
      have qx5 : x5 = x3 := by rw [ex5, ex3]
      refine sy_st (S' := (mj_m_107, 28, [(0, .ref 217), (1, sy_i z1), (2, sy_i z2), (3, sy_i z3)], [sy_i z1, sy_i x5, .ref 218], h)) mj_d_107_27 (fun _ _ => rfl) ?_
      refine sy_ias (v := z1) mj_d_107_28 rfl (by decide) (by omega) (by omega) (ab_el_1 rfl _) hH (by omega) (by omega) ⟨by omega, by omega⟩ ?_
      intro h6 eh6 th6
      refine sy_st (S' := (mj_m_107, 30, [(0, .ref 217), (1, sy_i z1), (2, sy_i z2), (3, sy_i z3)], [.ref 217], h6)) mj_d_107_29 (fun _ _ => rfl) ?_
      refine sy_gr (b := 219) mj_d_107_30 rfl rfl (by decide) rfl (by decide +kernel) th6 ?_
      refine sy_st (S' := (mj_m_107, 34, [(0, .ref 217), (1, sy_i z1), (2, sy_i z2), (3, sy_i z3)], [.ref 217, .ref 219], h6)) mj_d_107_33 (fun _ _ => rfl) ?_
      refine sy_gf mj_d_107_34 rfl rfl (by decide) rfl th6 ?_
      intro x7 ex7 bx7 tx7
      have qx7 : x7 = x5 := by rw [ex7, eh6, sy_rd_ne (Or.inl (by decide)), ex5]
      refine sy_st (S' := (mj_m_107, 38, [(0, .ref 217), (1, sy_i z1), (2, sy_i z2), (3, sy_i z3)], [sy_i z2, sy_i x7, .ref 219], h6)) mj_d_107_37 (fun _ _ => rfl) ?_
      refine sy_ias (v := z2) mj_d_107_38 rfl (by decide) (by omega) (by omega) (ab_el_1 rfl _) th6 (by omega) (by omega) ⟨by omega, by omega⟩ ?_
      intro h8 eh8 th8
      refine sy_st (S' := (mj_m_107, 40, [(0, .ref 217), (1, sy_i z1), (2, sy_i z2), (3, sy_i z3)], [.ref 217], h8)) mj_d_107_39 (fun _ _ => rfl) ?_
      refine sy_gr (b := 220) mj_d_107_40 rfl rfl (by decide) rfl (by decide +kernel) th8 ?_
      refine sy_st (S' := (mj_m_107, 44, [(0, .ref 217), (1, sy_i z1), (2, sy_i z2), (3, sy_i z3)], [.ref 217, .ref 220], h8)) mj_d_107_43 (fun _ _ => rfl) ?_
      refine sy_gf mj_d_107_44 rfl rfl (by decide) rfl th8 ?_
      intro x9 ex9 bx9 tx9
      have qx9 : x9 = x5 := by rw [ex9, eh8, sy_rd_ne (Or.inl (by decide)), eh6, sy_rd_ne (Or.inl (by decide)), ex5]
      refine sy_st (S' := (mj_m_107, 48, [(0, .ref 217), (1, sy_i z1), (2, sy_i z2), (3, sy_i z3)], [sy_i z3, sy_i x9, .ref 220], h8)) mj_d_107_47 (fun _ _ => rfl) ?_
      refine sy_bas (v := z3) mj_d_107_48 rfl (by decide) (by omega) (by omega) (ab_el_1 rfl _) th8 (by omega) (by omega) ⟨by omega, by omega⟩ ?_
      intro h10 eh10 th10
      refine sy_st (S' := (mj_m_107, 50, [(0, .ref 217), (1, sy_i z1), (2, sy_i z2), (3, sy_i z3)], [.ref 217], h10)) mj_d_107_49 (fun _ _ => rfl) ?_
      refine sy_st (S' := (mj_m_107, 51, [(0, .ref 217), (1, sy_i z1), (2, sy_i z2), (3, sy_i z3)], [.ref 217, .ref 217], h10)) mj_d_107_50 (fun _ _ => rfl) ?_
      refine sy_gf mj_d_107_51 rfl rfl (by decide) rfl th10 ?_
      intro x11 ex11 bx11 tx11
      have qx11 : x11 = x5 := by rw [ex11, eh10, sy_rd_ne (Or.inl (by decide)), eh8, sy_rd_ne (Or.inl (by decide)), eh6, sy_rd_ne (Or.inl (by decide)), ex5]
      refine sy_st (S' := (mj_m_107, 55, [(0, .ref 217), (1, sy_i z1), (2, sy_i z2), (3, sy_i z3)], [sy_i 1, sy_i x11, .ref 217], h10)) mj_d_107_54 (fun _ _ => rfl) ?_
      refine sy_add mj_d_107_55 ?_
      refine sy_pf (z := x11 + 1) mj_d_107_56 rfl rfl (by decide) (Or.inl rfl) rfl th10 (by omega) (by omega) ⟨by omega, by omega⟩ ?_
      intro h12 eh12 th12
      refine sy_st (S' := (mj_m_107, 60, [(0, .ref 217), (1, sy_i z1), (2, sy_i z2), (3, sy_i z3)], [.ref 217], h12)) mj_d_107_59 (fun _ _ => rfl) ?_
      refine sy_gf mj_d_107_60 rfl rfl (by decide) rfl th12 ?_
      intro x13 ex13 bx13 tx13
      have qx13 : x13 = x11 + 1 := by rw [ex13, eh12, sy_rd_same th10 rfl (by decide) ⟨by omega, by omega⟩]
      refine sy_reti mj_d_107_63 rfl ?_
      exact ⟨th12, _, List.mem_cons_self, sy_m (by omega) (by omega) ⟨by omega, by omega⟩, ha0⟩
    · skip
      refine sy_ldc (n := -1000000004) mj_d_107_16 rfl (by decide) ?_
      refine sy_reti mj_d_107_18 rfl ?_
      exact ⟨hH, _, List.mem_cons_self, sy_m (by omega) (by omega) ⟨by omega, by omega⟩, ha0⟩
def ab_s_114_m_d : ab_M := (114, [(2, 221, 0, 0), (0, 0, 8, 0), (0, 0, 7, 0)], [(some (0, -1000000004, 20, 0), [(2, 221, 0, 0), (0, 0, 8, 0), (0, 0, 7, 0)])])
set_option maxRecDepth 100000 in
theorem ab_s_114_m : ab_sum ab_ty ab_TT ab_s_114_m_d := by
  intro M vs h hM ha0 hH
  obtain rfl := Option.some.inj (hM : some mj_m_114 = some M)
  clear hM
  obtain ⟨v0, vs1, rfl, m0, ha1⟩ := sy_args1 ha0
  obtain rfl := sy_ref (a := 221) (by decide +kernel) m0
  obtain ⟨v1, vs2, rfl, m1, ha2⟩ := sy_args1 ha1
  obtain ⟨z1, rfl, az1, bz1, cz1, dz1⟩ := sy_int m1
  obtain ⟨v2, vs3, rfl, m2, ha3⟩ := sy_args1 ha2
  obtain ⟨z2, rfl, az2, bz2, cz2, dz2⟩ := sy_int m2
  obtain rfl := sy_args0 ha3
  show sy_wp (mj_m_114, 0, [(0, .ref 221), (1, sy_i z1), (2, sy_i z2)], [], h) (fun r h' => sy_H h' ∧ ∃ out ∈ ab_s_114_m_d.2.2, ab_ret ab_ty out.1 r ∧ ab_args ab_ty out.2 _)
  refine sy_st (S' := (mj_m_114, 1, [(0, .ref 221), (1, sy_i z1), (2, sy_i z2)], [.ref 221], h)) mj_d_114_0 (fun _ _ => rfl) ?_
  refine sy_gf mj_d_114_1 rfl rfl (by decide) rfl hH ?_
  intro x1 ex1 bx1 tx1
  refine sy_ifc mj_d_114_4 rfl ⟨by omega, by omega⟩ (fun (c2 : x1 < 0) => ?_) (fun (c2 : ¬ (x1 < 0)) => ?_)
  · skip
    refine sy_ldc (n := -1000000004) mj_d_114_16 rfl (by decide) ?_
    refine sy_reti mj_d_114_18 rfl ?_
    exact ⟨hH, _, List.mem_cons_self, sy_m (by omega) (by omega) ⟨by omega, by omega⟩, ha0⟩
  · skip
    refine sy_st (S' := (mj_m_114, 8, [(0, .ref 221), (1, sy_i z1), (2, sy_i z2)], [.ref 221], h)) mj_d_114_7 (fun _ _ => rfl) ?_
    refine sy_gf mj_d_114_8 rfl rfl (by decide) rfl hH ?_
    intro x3 ex3 bx3 tx3
    have qx3 : x3 = x1 := by rw [ex3, ex1]
    refine sy_bip mj_d_114_11 (by decide) ?_
    refine sy_icm mj_d_114_13 rfl ⟨by omega, by omega⟩ ⟨by omega, by omega⟩ (fun (c4 : x3 < 20) => ?_) (fun (c4 : ¬ (x3 < 20)) => ?_)
    · skip
      refine sy_st (S' := (mj_m_114, 20, [(0, .ref 221), (1, sy_i z1), (2, sy_i z2)], [.ref 221], h)) mj_d_114_19 (fun _ _ => rfl) ?_
      refine sy_gr (b := 222) mj_d_114_20 rfl rfl (by decide) rfl (by decide +kernel) hH ?_
      refine sy_st (S' := (mj_m_114, 24, [(0, .ref 221), (1, sy_i z1), (2, sy_i z2)], [.ref 221, .ref 222], h)) mj_d_114_23 (fun _ _ => rfl) ?_
      refine sy_gf mj_d_114_24 rfl rfl (by decide) rfl hH ?_
      intro x5 ex5 bx5 tx5
      have qx5 : x5 = x3 := by rw [ex5, ex3]
      refine sy_st (S' := (mj_m_114, 28, [(0, .ref 221), (1, sy_i z1), (2, sy_i z2)], [sy_i z1, sy_i x5, .ref 222], h)) mj_d_114_27 (fun _ _ => rfl) ?_
      refine sy_ias (v := z1) mj_d_114_28 rfl (by decide) (by omega) (by omega) (ab_el_1 rfl _) hH (by omega) (by omega) ⟨by omega, by omega⟩ ?_
      intro h6 eh6 th6
      refine sy_st (S' := (mj_m_114, 30, [(0, .ref 221), (1, sy_i z1), (2, sy_i z2)], [.ref 221], h6)) mj_d_114_29 (fun _ _ => rfl) ?_
      refine sy_gr (b := 223) mj_d_114_30 rfl rfl (by decide) rfl (by decide +kernel) th6 ?_
      refine sy_st (S' := (mj_m_114, 34, [(0, .ref 221), (1, sy_i z1), (2, sy_i z2)], [.ref 221, .ref 223], h6)) mj_d_114_33 (fun _ _ => rfl) ?_
      refine sy_gf mj_d_114_34 rfl rfl (by decide) rfl th6 ?_
      intro x7 ex7 bx7 tx7
      have qx7 : x7 = x5 := by rw [ex7, eh6, sy_rd_ne (Or.inl (by decide)), ex5]
      refine sy_st (S' := (mj_m_114, 38, [(0, .ref 221), (1, sy_i z1), (2, sy_i z2)], [sy_i z2, sy_i x7, .ref 223], h6)) mj_d_114_37 (fun _ _ => rfl) ?_
      refine sy_ias (v := z2) mj_d_114_38 rfl (by decide) (by omega) (by omega) (ab_el_1 rfl _) th6 (by omega) (by omega) ⟨by omega, by omega⟩ ?_
      intro h8 eh8 th8
      refine sy_st (S' := (mj_m_114, 40, [(0, .ref 221), (1, sy_i z1), (2, sy_i z2)], [.ref 221], h8)) mj_d_114_39 (fun _ _ => rfl) ?_
      refine sy_st (S' := (mj_m_114, 41, [(0, .ref 221), (1, sy_i z1), (2, sy_i z2)], [.ref 221, .ref 221], h8)) mj_d_114_40 (fun _ _ => rfl) ?_
      refine sy_gf mj_d_114_41 rfl rfl (by decide) rfl th8 ?_
      intro x9 ex9 bx9 tx9
      have qx9 : x9 = x5 := by rw [ex9, eh8, sy_rd_ne (Or.inl (by decide)), eh6, sy_rd_ne (Or.inl (by decide)), ex5]
      refine sy_st (S' := (mj_m_114, 45, [(0, .ref 221), (1, sy_i z1), (2, sy_i z2)], [sy_i 1, sy_i x9, .ref 221], h8)) mj_d_114_44 (fun _ _ => rfl) ?_
      refine sy_add mj_d_114_45 ?_
      refine sy_pf (z := x9 + 1) mj_d_114_46 rfl rfl (by decide) (Or.inl rfl) rfl th8 (by omega) (by omega) ⟨by omega, by omega⟩ ?_
      intro h10 eh10 th10
      refine sy_st (S' := (mj_m_114, 50, [(0, .ref 221), (1, sy_i z1), (2, sy_i z2)], [.ref 221], h10)) mj_d_114_49 (fun _ _ => rfl) ?_
      refine sy_gf mj_d_114_50 rfl rfl (by decide) rfl th10 ?_
      intro x11 ex11 bx11 tx11
      have qx11 : x11 = x9 + 1 := by rw [ex11, eh10, sy_rd_same th8 rfl (by decide) ⟨by omega, by omega⟩]
      refine sy_reti mj_d_114_53 rfl ?_
      exact ⟨th10, _, List.mem_cons_self, sy_m (by omega) (by omega) ⟨by omega, by omega⟩, ha0⟩
    · skip
      refine sy_ldc (n := -1000000004) mj_d_114_16 rfl (by decide) ?_
      refine sy_reti mj_d_114_18 rfl ?_
      exact ⟨hH, _, List.mem_cons_self, sy_m (by omega) (by omega) ⟨by omega, by omega⟩, ha0⟩
def ab_s_11_m_d : ab_M := (11, [(2, 1, 0, 0), (0, 0, 65535, 0)], [(some (0, -1000000004, 240, 0), [(2, 1, 0, 0), (0, 0, 65535, 0)])])
set_option maxRecDepth 100000 in
theorem ab_s_11_m : ab_sum ab_ty ab_TT ab_s_11_m_d := by
  intro M vs h hM ha0 hH
  obtain rfl := Option.some.inj (hM : some mj_m_11 = some M)
  clear hM
  obtain ⟨v0, vs1, rfl, m0, ha1⟩ := sy_args1 ha0
  obtain rfl := sy_ref (a := 1) (by decide +kernel) m0
  obtain ⟨v1, vs2, rfl, m1, ha2⟩ := sy_args1 ha1
  obtain ⟨z1, rfl, az1, bz1, cz1, dz1⟩ := sy_int m1
  obtain rfl := sy_args0 ha2
  show sy_wp (mj_m_11, 0, [(0, .ref 1), (1, sy_i z1)], [], h) (fun r h' => sy_H h' ∧ ∃ out ∈ ab_s_11_m_d.2.2, ab_ret ab_ty out.1 r ∧ ab_args ab_ty out.2 _)
  refine sy_st (S' := (mj_m_11, 1, [(0, .ref 1), (1, sy_i z1)], [.ref 1], h)) mj_d_11_0 (fun _ _ => rfl) ?_
  refine sy_gf mj_d_11_1 rfl rfl (by decide) rfl hH ?_
  intro x1 ex1 bx1 tx1
  refine sy_ifc mj_d_11_4 rfl ⟨by omega, by omega⟩ (fun (c2 : x1 < 0) => ?_) (fun (c2 : ¬ (x1 < 0)) => ?_)
  · skip
    refine sy_ldc (n := -1000000004) mj_d_11_17 rfl (by decide) ?_
    refine sy_reti mj_d_11_19 rfl ?_
    exact ⟨hH, _, List.mem_cons_self, sy_m (by omega) (by omega) ⟨by omega, by omega⟩, ha0⟩
  · skip
    refine sy_st (S' := (mj_m_11, 8, [(0, .ref 1), (1, sy_i z1)], [.ref 1], h)) mj_d_11_7 (fun _ _ => rfl) ?_
    refine sy_gf mj_d_11_8 rfl rfl (by decide) rfl hH ?_
    intro x3 ex3 bx3 tx3
    have qx3 : x3 = x1 := by rw [ex3, ex1]
    refine sy_sip mj_d_11_11 (by decide) ?_
    refine sy_icm mj_d_11_14 rfl ⟨by omega, by omega⟩ ⟨by omega, by omega⟩ (fun (c4 : x3 < 240) => ?_) (fun (c4 : ¬ (x3 < 240)) => ?_)
    · skip
      refine sy_st (S' := (mj_m_11, 21, [(0, .ref 1), (1, sy_i z1)], [.ref 1], h)) mj_d_11_20 (fun _ _ => rfl) ?_
      refine sy_gr (b := 2) mj_d_11_21 rfl rfl (by decide) rfl (by decide +kernel) hH ?_
      refine sy_st (S' := (mj_m_11, 25, [(0, .ref 1), (1, sy_i z1)], [.ref 1, .ref 2], h)) mj_d_11_24 (fun _ _ => rfl) ?_
      refine sy_gf mj_d_11_25 rfl rfl (by decide) rfl hH ?_
      intro x5 ex5 bx5 tx5
      have qx5 : x5 = x3 := by rw [ex5, ex3]
      refine sy_st (S' := (mj_m_11, 29, [(0, .ref 1), (1, sy_i z1)], [sy_i z1, sy_i x5, .ref 2], h)) mj_d_11_28 (fun _ _ => rfl) ?_
      refine sy_cas (v := z1) mj_d_11_29 rfl (by decide) (by omega) (by omega) (ab_el_1 rfl _) hH (by omega) (by omega) ⟨by omega, by omega⟩ ?_
      intro h6 eh6 th6
      refine sy_st (S' := (mj_m_11, 31, [(0, .ref 1), (1, sy_i z1)], [.ref 1], h6)) mj_d_11_30 (fun _ _ => rfl) ?_
      refine sy_st (S' := (mj_m_11, 32, [(0, .ref 1), (1, sy_i z1)], [.ref 1, .ref 1], h6)) mj_d_11_31 (fun _ _ => rfl) ?_
      refine sy_gf mj_d_11_32 rfl rfl (by decide) rfl th6 ?_
      intro x7 ex7 bx7 tx7
      have qx7 : x7 = x5 := by rw [ex7, eh6, sy_rd_ne (Or.inl (by decide)), ex5]
      refine sy_st (S' := (mj_m_11, 36, [(0, .ref 1), (1, sy_i z1)], [sy_i 1, sy_i x7, .ref 1], h6)) mj_d_11_35 (fun _ _ => rfl) ?_
      refine sy_add mj_d_11_36 ?_
      refine sy_pf (z := x7 + 1) mj_d_11_37 rfl rfl (by decide) (Or.inl rfl) rfl th6 (by omega) (by omega) ⟨by omega, by omega⟩ ?_
      intro h8 eh8 th8
      refine sy_st (S' := (mj_m_11, 41, [(0, .ref 1), (1, sy_i z1)], [.ref 1], h8)) mj_d_11_40 (fun _ _ => rfl) ?_
      refine sy_gf mj_d_11_41 rfl rfl (by decide) rfl th8 ?_
      intro x9 ex9 bx9 tx9
      have qx9 : x9 = x7 + 1 := by rw [ex9, eh8, sy_rd_same th6 rfl (by decide) ⟨by omega, by omega⟩]
      refine sy_reti mj_d_11_44 rfl ?_
      exact ⟨th8, _, List.mem_cons_self, sy_m (by omega) (by omega) ⟨by omega, by omega⟩, ha0⟩
    · skip
      refine sy_ldc (n := -1000000004) mj_d_11_17 rfl (by decide) ?_
      refine sy_reti mj_d_11_19 rfl ?_
      exact ⟨hH, _, List.mem_cons_self, sy_m (by omega) (by omega) ⟨by omega, by omega⟩, ha0⟩
def ab_s_27_m_d : ab_M := (27, [(2, 3, 0, 0), (0, 0, 9, 0), (0, 0, 7, 0)], [(none, [(2, 3, 0, 0), (0, 0, 9, 0), (0, 0, 7, 0)])])
set_option maxRecDepth 100000 in
theorem ab_s_27_m : ab_sum ab_ty ab_TT ab_s_27_m_d := by
  intro M vs h hM ha0 hH
  obtain rfl := Option.some.inj (hM : some mj_m_27 = some M)
  clear hM
  obtain ⟨v0, vs1, rfl, m0, ha1⟩ := sy_args1 ha0
  obtain rfl := sy_ref (a := 3) (by decide +kernel) m0
  obtain ⟨v1, vs2, rfl, m1, ha2⟩ := sy_args1 ha1
  obtain ⟨z1, rfl, az1, bz1, cz1, dz1⟩ := sy_int m1
  obtain ⟨v2, vs3, rfl, m2, ha3⟩ := sy_args1 ha2
  obtain ⟨z2, rfl, az2, bz2, cz2, dz2⟩ := sy_int m2
  obtain rfl := sy_args0 ha3
  show sy_wp (mj_m_27, 0, [(0, .ref 3), (1, sy_i z1), (2, sy_i z2)], [], h) (fun r h' => sy_H h' ∧ ∃ out ∈ ab_s_27_m_d.2.2, ab_ret ab_ty out.1 r ∧ ab_args ab_ty out.2 _)
  refine sy_st (S' := (mj_m_27, 1, [(0, .ref 3), (1, sy_i z1), (2, sy_i z2)], [.ref 3], h)) mj_d_27_0 (fun _ _ => rfl) ?_
  refine sy_gf mj_d_27_1 rfl rfl (by decide) rfl hH ?_
  intro x1 ex1 bx1 tx1
  refine sy_bip mj_d_27_4 (by decide) ?_
  refine sy_icm mj_d_27_6 rfl ⟨by omega, by omega⟩ ⟨by omega, by omega⟩ (fun (c2 : 9 ≤ x1) => ?_) (fun (c2 : ¬ (9 ≤ x1)) => ?_)
  · skip
    exact sy_retv mj_d_27_49 rfl ⟨hH, _, List.mem_cons_self, trivial, ha0⟩
  · skip
    refine sy_st (S' := (mj_m_27, 10, [(0, .ref 3), (1, sy_i z1), (2, sy_i z2)], [.ref 3], h)) mj_d_27_9 (fun _ _ => rfl) ?_
    refine sy_gr (b := 4) mj_d_27_10 rfl rfl (by decide) rfl (by decide +kernel) hH ?_
    refine sy_st (S' := (mj_m_27, 14, [(0, .ref 3), (1, sy_i z1), (2, sy_i z2)], [.ref 3, .ref 4], h)) mj_d_27_13 (fun _ _ => rfl) ?_
    refine sy_gf mj_d_27_14 rfl rfl (by decide) rfl hH ?_
    intro x3 ex3 bx3 tx3
    have qx3 : x3 = x1 := by rw [ex3, ex1]
    refine sy_st (S' := (mj_m_27, 18, [(0, .ref 3), (1, sy_i z1), (2, sy_i z2)], [sy_i z1, sy_i x3, .ref 4], h)) mj_d_27_17 (fun _ _ => rfl) ?_
    refine sy_bip mj_d_27_18 (by decide) ?_
    refine sy_icm mj_d_27_20 rfl ⟨by omega, by omega⟩ ⟨by omega, by omega⟩ (fun (c4 : ¬ z1 = 9) => ?_) (fun (c4 : ¬ (¬ z1 = 9)) => ?_)
    · skip
      refine sy_st (S' := (mj_m_27, 28, [(0, .ref 3), (1, sy_i z1), (2, sy_i z2)], [sy_i z1, sy_i x3, .ref 4], h)) mj_d_27_27 (fun _ _ => rfl) ?_
      refine sy_ias (v := z1) mj_d_27_28 rfl (by decide) (by omega) (by omega) (ab_el_1 rfl _) hH (by omega) (by omega) ⟨by omega, by omega⟩ ?_
      intro h5 eh5 th5
      refine sy_st (S' := (mj_m_27, 30, [(0, .ref 3), (1, sy_i z1), (2, sy_i z2)], [.ref 3], h5)) mj_d_27_29 (fun _ _ => rfl) ?_
      refine sy_gr (b := 5) mj_d_27_30 rfl rfl (by decide) rfl (by decide +kernel) th5 ?_
      refine sy_st (S' := (mj_m_27, 34, [(0, .ref 3), (1, sy_i z1), (2, sy_i z2)], [.ref 3, .ref 5], h5)) mj_d_27_33 (fun _ _ => rfl) ?_
      refine sy_gf mj_d_27_34 rfl rfl (by decide) rfl th5 ?_
      intro x6 ex6 bx6 tx6
      have qx6 : x6 = x3 := by rw [ex6, eh5, sy_rd_ne (Or.inl (by decide)), ex3]
      refine sy_st (S' := (mj_m_27, 38, [(0, .ref 3), (1, sy_i z1), (2, sy_i z2)], [sy_i z2, sy_i x6, .ref 5], h5)) mj_d_27_37 (fun _ _ => rfl) ?_
      refine sy_ias (v := z2) mj_d_27_38 rfl (by decide) (by omega) (by omega) (ab_el_1 rfl _) th5 (by omega) (by omega) ⟨by omega, by omega⟩ ?_
      intro h7 eh7 th7
      refine sy_st (S' := (mj_m_27, 40, [(0, .ref 3), (1, sy_i z1), (2, sy_i z2)], [.ref 3], h7)) mj_d_27_39 (fun _ _ => rfl) ?_
      refine sy_st (S' := (mj_m_27, 41, [(0, .ref 3), (1, sy_i z1), (2, sy_i z2)], [.ref 3, .ref 3], h7)) mj_d_27_40 (fun _ _ => rfl) ?_
      refine sy_gf mj_d_27_41 rfl rfl (by decide) rfl th7 ?_
      intro x8 ex8 bx8 tx8
      have qx8 : x8 = x3 := by rw [ex8, eh7, sy_rd_ne (Or.inl (by decide)), eh5, sy_rd_ne (Or.inl (by decide)), ex3]
      refine sy_st (S' := (mj_m_27, 45, [(0, .ref 3), (1, sy_i z1), (2, sy_i z2)], [sy_i 1, sy_i x8, .ref 3], h7)) mj_d_27_44 (fun _ _ => rfl) ?_
      refine sy_add mj_d_27_45 ?_
      refine sy_pf (z := x8 + 1) mj_d_27_46 rfl rfl (by decide) (Or.inl rfl) rfl th7 (by omega) (by omega) ⟨by omega, by omega⟩ ?_
      intro h9 eh9 th9
      exact sy_retv mj_d_27_49 rfl ⟨th9, _, List.mem_cons_self, trivial, ha0⟩
    · skip
      refine sy_st (S' := (mj_m_27, 24, [(0, .ref 3), (1, sy_i z1), (2, sy_i z2)], [sy_i (-1), sy_i x3, .ref 4], h)) mj_d_27_23 (fun _ _ => rfl) ?_
      refine sy_st (S' := (mj_m_27, 28, [(0, .ref 3), (1, sy_i z1), (2, sy_i z2)], [sy_i (-1), sy_i x3, .ref 4], h)) mj_d_27_24 (fun _ _ => rfl) ?_
      refine sy_ias (v := (-1)) mj_d_27_28 rfl (by decide) (by omega) (by omega) (ab_el_1 rfl _) hH (by omega) (by omega) ⟨by omega, by omega⟩ ?_
      intro h10 eh10 th10
      refine sy_st (S' := (mj_m_27, 30, [(0, .ref 3), (1, sy_i z1), (2, sy_i z2)], [.ref 3], h10)) mj_d_27_29 (fun _ _ => rfl) ?_
      refine sy_gr (b := 5) mj_d_27_30 rfl rfl (by decide) rfl (by decide +kernel) th10 ?_
      refine sy_st (S' := (mj_m_27, 34, [(0, .ref 3), (1, sy_i z1), (2, sy_i z2)], [.ref 3, .ref 5], h10)) mj_d_27_33 (fun _ _ => rfl) ?_
      refine sy_gf mj_d_27_34 rfl rfl (by decide) rfl th10 ?_
      intro x11 ex11 bx11 tx11
      have qx11 : x11 = x3 := by rw [ex11, eh10, sy_rd_ne (Or.inl (by decide)), ex3]
      refine sy_st (S' := (mj_m_27, 38, [(0, .ref 3), (1, sy_i z1), (2, sy_i z2)], [sy_i z2, sy_i x11, .ref 5], h10)) mj_d_27_37 (fun _ _ => rfl) ?_
      refine sy_ias (v := z2) mj_d_27_38 rfl (by decide) (by omega) (by omega) (ab_el_1 rfl _) th10 (by omega) (by omega) ⟨by omega, by omega⟩ ?_
      intro h12 eh12 th12
      refine sy_st (S' := (mj_m_27, 40, [(0, .ref 3), (1, sy_i z1), (2, sy_i z2)], [.ref 3], h12)) mj_d_27_39 (fun _ _ => rfl) ?_
      refine sy_st (S' := (mj_m_27, 41, [(0, .ref 3), (1, sy_i z1), (2, sy_i z2)], [.ref 3, .ref 3], h12)) mj_d_27_40 (fun _ _ => rfl) ?_
      refine sy_gf mj_d_27_41 rfl rfl (by decide) rfl th12 ?_
      intro x13 ex13 bx13 tx13
      have qx13 : x13 = x3 := by rw [ex13, eh12, sy_rd_ne (Or.inl (by decide)), eh10, sy_rd_ne (Or.inl (by decide)), ex3]
      refine sy_st (S' := (mj_m_27, 45, [(0, .ref 3), (1, sy_i z1), (2, sy_i z2)], [sy_i 1, sy_i x13, .ref 3], h12)) mj_d_27_44 (fun _ _ => rfl) ?_
      refine sy_add mj_d_27_45 ?_
      refine sy_pf (z := x13 + 1) mj_d_27_46 rfl rfl (by decide) (Or.inl rfl) rfl th12 (by omega) (by omega) ⟨by omega, by omega⟩ ?_
      intro h14 eh14 th14
      exact sy_retv mj_d_27_49 rfl ⟨th14, _, List.mem_cons_self, trivial, ha0⟩
def ab_s_28_m_d : ab_M := (28, [(2, 3, 0, 0), (0, 0, 511, 0), (0, 0, 99, 0)], [(none, [(2, 3, 0, 0), (0, 0, 511, 0), (0, 0, 99, 0)])])
set_option maxRecDepth 100000 in
theorem ab_s_28_m : ab_sum ab_ty ab_TT ab_s_28_m_d := by
  intro M vs h hM ha0 hH
  obtain rfl := Option.some.inj (hM : some mj_m_28 = some M)
  clear hM
  obtain ⟨v0, vs1, rfl, m0, ha1⟩ := sy_args1 ha0
  obtain rfl := sy_ref (a := 3) (by decide +kernel) m0
  obtain ⟨v1, vs2, rfl, m1, ha2⟩ := sy_args1 ha1
  obtain ⟨z1, rfl, az1, bz1, cz1, dz1⟩ := sy_int m1
  obtain ⟨v2, vs3, rfl, m2, ha3⟩ := sy_args1 ha2
  obtain ⟨z2, rfl, az2, bz2, cz2, dz2⟩ := sy_int m2
  obtain rfl := sy_args0 ha3
  show sy_wp (mj_m_28, 0, [(0, .ref 3), (1, sy_i z1), (2, sy_i z2)], [], h) (fun r h' => sy_H h' ∧ ∃ out ∈ ab_s_28_m_d.2.2, ab_ret ab_ty out.1 r ∧ ab_args ab_ty out.2 _)
  refine sy_st (S' := (mj_m_28, 1, [(0, .ref 3), (1, sy_i z1), (2, sy_i z2)], [.ref 3], h)) mj_d_28_0 (fun _ _ => rfl) ?_
  refine sy_gf mj_d_28_1 rfl rfl (by decide) rfl hH ?_
  intro x1 ex1 bx1 tx1
  refine sy_st (S' := (mj_m_28, 5, [(0, .ref 3), (1, sy_i z1), (2, sy_i z2)], [sy_i 5, sy_i x1], h)) mj_d_28_4 (fun _ _ => rfl) ?_
  refine sy_icm mj_d_28_5 rfl ⟨by omega, by omega⟩ ⟨by omega, by omega⟩ (fun (c2 : 5 ≤ x1) => ?_) (fun (c2 : ¬ (5 ≤ x1)) => ?_)
  · skip
    exact sy_retv mj_d_28_38 rfl ⟨hH, _, List.mem_cons_self, trivial, ha0⟩
  · skip
    refine sy_st (S' := (mj_m_28, 9, [(0, .ref 3), (1, sy_i z1), (2, sy_i z2)], [.ref 3], h)) mj_d_28_8 (fun _ _ => rfl) ?_
    refine sy_gr (b := 6) mj_d_28_9 rfl rfl (by decide) rfl (by decide +kernel) hH ?_
    refine sy_st (S' := (mj_m_28, 13, [(0, .ref 3), (1, sy_i z1), (2, sy_i z2)], [.ref 3, .ref 6], h)) mj_d_28_12 (fun _ _ => rfl) ?_
    refine sy_gf mj_d_28_13 rfl rfl (by decide) rfl hH ?_
    intro x3 ex3 bx3 tx3
    have qx3 : x3 = x1 := by rw [ex3, ex1]
    refine sy_st (S' := (mj_m_28, 17, [(0, .ref 3), (1, sy_i z1), (2, sy_i z2)], [sy_i z1, sy_i x3, .ref 6], h)) mj_d_28_16 (fun _ _ => rfl) ?_
    refine sy_ias (v := z1) mj_d_28_17 rfl (by decide) (by omega) (by omega) (ab_el_1 rfl _) hH (by omega) (by omega) ⟨by omega, by omega⟩ ?_
    intro h4 eh4 th4
    refine sy_st (S' := (mj_m_28, 19, [(0, .ref 3), (1, sy_i z1), (2, sy_i z2)], [.ref 3], h4)) mj_d_28_18 (fun _ _ => rfl) ?_
    refine sy_gr (b := 7) mj_d_28_19 rfl rfl (by decide) rfl (by decide +kernel) th4 ?_
    refine sy_st (S' := (mj_m_28, 23, [(0, .ref 3), (1, sy_i z1), (2, sy_i z2)], [.ref 3, .ref 7], h4)) mj_d_28_22 (fun _ _ => rfl) ?_
    refine sy_gf mj_d_28_23 rfl rfl (by decide) rfl th4 ?_
    intro x5 ex5 bx5 tx5
    have qx5 : x5 = x3 := by rw [ex5, eh4, sy_rd_ne (Or.inl (by decide)), ex3]
    refine sy_st (S' := (mj_m_28, 27, [(0, .ref 3), (1, sy_i z1), (2, sy_i z2)], [sy_i z2, sy_i x5, .ref 7], h4)) mj_d_28_26 (fun _ _ => rfl) ?_
    refine sy_ias (v := z2) mj_d_28_27 rfl (by decide) (by omega) (by omega) (ab_el_1 rfl _) th4 (by omega) (by omega) ⟨by omega, by omega⟩ ?_
    intro h6 eh6 th6
    refine sy_st (S' := (mj_m_28, 29, [(0, .ref 3), (1, sy_i z1), (2, sy_i z2)], [.ref 3], h6)) mj_d_28_28 (fun _ _ => rfl) ?_
    refine sy_st (S' := (mj_m_28, 30, [(0, .ref 3), (1, sy_i z1), (2, sy_i z2)], [.ref 3, .ref 3], h6)) mj_d_28_29 (fun _ _ => rfl) ?_
    refine sy_gf mj_d_28_30 rfl rfl (by decide) rfl th6 ?_
    intro x7 ex7 bx7 tx7
    have qx7 : x7 = x3 := by rw [ex7, eh6, sy_rd_ne (Or.inl (by decide)), eh4, sy_rd_ne (Or.inl (by decide)), ex3]
    refine sy_st (S' := (mj_m_28, 34, [(0, .ref 3), (1, sy_i z1), (2, sy_i z2)], [sy_i 1, sy_i x7, .ref 3], h6)) mj_d_28_33 (fun _ _ => rfl) ?_
    refine sy_add mj_d_28_34 ?_
    refine sy_pf (z := x7 + 1) mj_d_28_35 rfl rfl (by decide) (Or.inl rfl) rfl th6 (by omega) (by omega) ⟨by omega, by omega⟩ ?_
    intro h8 eh8 th8
    exact sy_retv mj_d_28_38 rfl ⟨th8, _, List.mem_cons_self, trivial, ha0⟩
def ab_s_16_m_d : ab_M := (16, [(2, 1, 0, 0)], [(some (0, 0, 65535, 0), [(2, 1, 0, 0)])])
set_option maxRecDepth 100000 in
theorem ab_s_16_m : ab_sum ab_ty ab_TT ab_s_16_m_d := by
  intro M vs h hM ha0 hH
  obtain rfl := Option.some.inj (hM : some mj_m_16 = some M)
  clear hM
  obtain ⟨v0, vs1, rfl, m0, ha1⟩ := sy_args1 ha0
  obtain rfl := sy_ref (a := 1) (by decide +kernel) m0
  obtain rfl := sy_args0 ha1
  show sy_wp (mj_m_16, 0, [(0, .ref 1)], [], h) (fun r h' => sy_H h' ∧ ∃ out ∈ ab_s_16_m_d.2.2, ab_ret ab_ty out.1 r ∧ ab_args ab_ty out.2 _)
  refine sy_st (S' := (mj_m_16, 1, [(0, .ref 1)], [.ref 1], h)) mj_d_16_0 (fun _ _ => rfl) ?_
  refine sy_gf mj_d_16_1 rfl rfl (by decide) rfl hH ?_
  intro x1 ex1 bx1 tx1
  refine sy_ifc mj_d_16_4 rfl ⟨by omega, by omega⟩ (fun (c2 : x1 < 0) => ?_) (fun (c2 : ¬ (x1 < 0)) => ?_)
  · skip
    refine sy_st (S' := (mj_m_16, 41, [(0, .ref 1)], [sy_i 0], h)) mj_d_16_40 (fun _ _ => rfl) ?_
    refine sy_retc mj_d_16_41 rfl ⟨by omega, by omega⟩ ?_
    exact ⟨hH, _, List.mem_cons_self, sy_m (by omega) (by omega) ⟨by omega, by omega⟩, ha0⟩
  · skip
    refine sy_st (S' := (mj_m_16, 8, [(0, .ref 1)], [.ref 1], h)) mj_d_16_7 (fun _ _ => rfl) ?_
    refine sy_gf mj_d_16_8 rfl rfl (by decide) rfl hH ?_
    intro x3 ex3 bx3 tx3
    have qx3 : x3 = x1 := by rw [ex3, ex1]
    refine sy_st (S' := (mj_m_16, 12, [(0, .ref 1)], [.ref 1, sy_i x3], h)) mj_d_16_11 (fun _ _ => rfl) ?_
    refine sy_gf mj_d_16_12 rfl rfl (by decide) rfl hH ?_
    intro x4 ex4 bx4 tx4
    refine sy_icm mj_d_16_15 rfl ⟨by omega, by omega⟩ ⟨by omega, by omega⟩ (fun (c5 : x4 ≤ x3) => ?_) (fun (c5 : ¬ (x4 ≤ x3)) => ?_)
    · skip
      refine sy_st (S' := (mj_m_16, 41, [(0, .ref 1)], [sy_i 0], h)) mj_d_16_40 (fun _ _ => rfl) ?_
      refine sy_retc mj_d_16_41 rfl ⟨by omega, by omega⟩ ?_
      exact ⟨hH, _, List.mem_cons_self, sy_m (by omega) (by omega) ⟨by omega, by omega⟩, ha0⟩
    · skip
      refine sy_st (S' := (mj_m_16, 19, [(0, .ref 1)], [.ref 1], h)) mj_d_16_18 (fun _ _ => rfl) ?_
      refine sy_gf mj_d_16_19 rfl rfl (by decide) rfl hH ?_
      intro x6 ex6 bx6 tx6
      have qx6 : x6 = x3 := by rw [ex6, ex3]
      refine sy_sip mj_d_16_22 (by decide) ?_
      refine sy_icm mj_d_16_25 rfl ⟨by omega, by omega⟩ ⟨by omega, by omega⟩ (fun (c7 : 240 ≤ x6) => ?_) (fun (c7 : ¬ (240 ≤ x6)) => ?_)
      · skip
        refine sy_st (S' := (mj_m_16, 41, [(0, .ref 1)], [sy_i 0], h)) mj_d_16_40 (fun _ _ => rfl) ?_
        refine sy_retc mj_d_16_41 rfl ⟨by omega, by omega⟩ ?_
        exact ⟨hH, _, List.mem_cons_self, sy_m (by omega) (by omega) ⟨by omega, by omega⟩, ha0⟩
      · skip
        refine sy_st (S' := (mj_m_16, 29, [(0, .ref 1)], [.ref 1], h)) mj_d_16_28 (fun _ _ => rfl) ?_
        refine sy_gr (b := 2) mj_d_16_29 rfl rfl (by decide) rfl (by decide +kernel) hH ?_
        refine sy_st (S' := (mj_m_16, 33, [(0, .ref 1)], [.ref 1, .ref 2], h)) mj_d_16_32 (fun _ _ => rfl) ?_
        refine sy_gf mj_d_16_33 rfl rfl (by decide) rfl hH ?_
        intro x8 ex8 bx8 tx8
        have qx8 : x8 = x6 := by rw [ex8, ex6]
        refine sy_ca mj_d_16_36 rfl (by decide) (by omega) (by omega) (ab_el_1 rfl _) hH ?_
        intro x9 ex9 bx9 tx9
        refine sy_st (S' := (mj_m_16, 41, [(0, .ref 1)], [sy_i x9], h)) mj_d_16_37 (fun _ _ => rfl) ?_
        refine sy_retc mj_d_16_41 rfl ⟨by omega, by omega⟩ ?_
        exact ⟨hH, _, List.mem_cons_self, sy_m (by omega) (by omega) ⟨by omega, by omega⟩, ha0⟩
