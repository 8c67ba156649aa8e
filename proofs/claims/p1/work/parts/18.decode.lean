theorem mj_d_10_0 : decode mj_m_10.2.1 0 = .ok (.iload_n 1, 1) := by decide +kernel
theorem mj_d_10_1 : decode mj_m_10.2.1 1 = .ok (.ifCond .lt 10, 3) := by decide +kernel
theorem mj_d_10_4 : decode mj_m_10.2.1 4 = .ok (.iload_n 1, 1) := by decide +kernel
theorem mj_d_10_5 : decode mj_m_10.2.1 5 = .ok (.sipush 255, 3) := by decide +kernel
theorem mj_d_10_8 : decode mj_m_10.2.1 8 = .ok (.if_icmp .le 6, 3) := by decide +kernel
theorem mj_d_10_11 : decode mj_m_10.2.1 11 = .ok (.ldc 72, 2) := by decide +kernel
theorem mj_d_10_13 : decode mj_m_10.2.1 13 = .ok (.ireturn, 1) := by decide +kernel
theorem mj_d_10_14 : decode mj_m_10.2.1 14 = .ok (.aload_n 0, 1) := by decide +kernel
theorem mj_d_10_15 : decode mj_m_10.2.1 15 = .ok (.getfield 12, 3) := by decide +kernel
theorem mj_d_10_18 : decode mj_m_10.2.1 18 = .ok (.iload_n 1, 1) := by decide +kernel
theorem mj_d_10_19 : decode mj_m_10.2.1 19 = .ok (.i2c, 1) := by decide +kernel
theorem mj_d_10_20 : decode mj_m_10.2.1 20 = .ok (.invokevirtual 73, 3) := by decide +kernel
theorem mj_d_10_23 : decode mj_m_10.2.1 23 = .ok (.ireturn, 1) := by decide +kernel
theorem mj_d_11_0 : decode mj_m_11.2.1 0 = .ok (.aload_n 0, 1) := by decide +kernel
theorem mj_d_11_1 : decode mj_m_11.2.1 1 = .ok (.getfield 26, 3) := by decide +kernel
theorem mj_d_11_4 : decode mj_m_11.2.1 4 = .ok (.ifCond .lt 13, 3) := by decide +kernel
theorem mj_d_11_7 : decode mj_m_11.2.1 7 = .ok (.aload_n 0, 1) := by decide +kernel
theorem mj_d_11_8 : decode mj_m_11.2.1 8 = .ok (.getfield 26, 3) := by decide +kernel
theorem mj_d_11_11 : decode mj_m_11.2.1 11 = .ok (.sipush 240, 3) := by decide +kernel
theorem mj_d_11_14 : decode mj_m_11.2.1 14 = .ok (.if_icmp .lt 6, 3) := by decide +kernel
theorem mj_d_11_20 : decode mj_m_11.2.1 20 = .ok (.aload_n 0, 1) := by decide +kernel
theorem mj_d_11_21 : decode mj_m_11.2.1 21 = .ok (.getfield 9, 3) := by decide +kernel
theorem mj_d_11_24 : decode mj_m_11.2.1 24 = .ok (.aload_n 0, 1) := by decide +kernel
theorem mj_d_11_25 : decode mj_m_11.2.1 25 = .ok (.getfield 26, 3) := by decide +kernel
theorem mj_d_11_28 : decode mj_m_11.2.1 28 = .ok (.iload_n 1, 1) := by decide +kernel
theorem mj_d_11_29 : decode mj_m_11.2.1 29 = .ok (.castore, 1) := by decide +kernel
theorem mj_d_11_30 : decode mj_m_11.2.1 30 = .ok (.aload_n 0, 1) := by decide +kernel
theorem mj_d_11_31 : decode mj_m_11.2.1 31 = .ok (.dup, 1) := by decide +kernel
theorem mj_d_11_32 : decode mj_m_11.2.1 32 = .ok (.getfield 26, 3) := by decide +kernel
theorem mj_d_11_35 : decode mj_m_11.2.1 35 = .ok (.iconst 1, 1) := by decide +kernel
theorem mj_d_11_36 : decode mj_m_11.2.1 36 = .ok (.iadd, 1) := by decide +kernel
theorem mj_d_11_37 : decode mj_m_11.2.1 37 = .ok (.putfield 26, 3) := by decide +kernel
theorem mj_d_11_40 : decode mj_m_11.2.1 40 = .ok (.aload_n 0, 1) := by decide +kernel
theorem mj_d_11_41 : decode mj_m_11.2.1 41 = .ok (.getfield 26, 3) := by decide +kernel
theorem mj_d_11_44 : decode mj_m_11.2.1 44 = .ok (.ireturn, 1) := by decide +kernel
theorem mj_d_34_0 : decode mj_m_34.2.1 0 = .ok (.iload_n 1, 1) := by decide +kernel
theorem mj_d_34_1 : decode mj_m_34.2.1 1 = .ok (.tableswitch 167 0 11 #[63, 79, 87, 95, 103, 111, 119, 127, 135, 143, 151, 159], 63) := by decide +kernel
theorem mj_d_34_168 : decode mj_m_34.2.1 168 = .ok (.ldc 72, 2) := by decide +kernel
theorem mj_d_34_170 : decode mj_m_34.2.1 170 = .ok (.ireturn, 1) := by decide +kernel
theorem mj_d_38_0 : decode mj_m_38.2.1 0 = .ok (.aload_n 0, 1) := by decide +kernel
theorem mj_d_38_1 : decode mj_m_38.2.1 1 = .ok (.iload_n 1, 1) := by decide +kernel
theorem mj_d_38_2 : decode mj_m_38.2.1 2 = .ok (.invokevirtual 135, 3) := by decide +kernel
theorem mj_d_38_5 : decode mj_m_38.2.1 5 = .ok (.ifCond .ne 6, 3) := by decide +kernel
theorem mj_d_38_8 : decode mj_m_38.2.1 8 = .ok (.ldc 139, 2) := by decide +kernel
theorem mj_d_38_10 : decode mj_m_38.2.1 10 = .ok (.ireturn, 1) := by decide +kernel
theorem mj_d_39_0 : decode mj_m_39.2.1 0 = .ok (.iload_n 1, 1) := by decide +kernel
theorem mj_d_39_1 : decode mj_m_39.2.1 1 = .ok (.ifCond .lt 18, 3) := by decide +kernel
theorem mj_d_39_4 : decode mj_m_39.2.1 4 = .ok (.iload_n 1, 1) := by decide +kernel
theorem mj_d_39_5 : decode mj_m_39.2.1 5 = .ok (.aload_n 0, 1) := by decide +kernel
theorem mj_d_39_6 : decode mj_m_39.2.1 6 = .ok (.getfield 19, 3) := by decide +kernel
theorem mj_d_39_9 : decode mj_m_39.2.1 9 = .ok (.getfield 102, 3) := by decide +kernel
theorem mj_d_39_12 : decode mj_m_39.2.1 12 = .ok (.if_icmp .ge 7, 3) := by decide +kernel
theorem mj_d_39_19 : decode mj_m_39.2.1 19 = .ok (.iconst 0, 1) := by decide +kernel
theorem mj_d_39_20 : decode mj_m_39.2.1 20 = .ok (.ireturn, 1) := by decide +kernel
theorem mj_d_41_0 : decode mj_m_41.2.1 0 = .ok (.aload_n 0, 1) := by decide +kernel
theorem mj_d_41_1 : decode mj_m_41.2.1 1 = .ok (.iload_n 1, 1) := by decide +kernel
theorem mj_d_41_2 : decode mj_m_41.2.1 2 = .ok (.invokevirtual 135, 3) := by decide +kernel
theorem mj_d_41_5 : decode mj_m_41.2.1 5 = .ok (.ifCond .ne 6, 3) := by decide +kernel
theorem mj_d_41_8 : decode mj_m_41.2.1 8 = .ok (.ldc 139, 2) := by decide +kernel
theorem mj_d_41_10 : decode mj_m_41.2.1 10 = .ok (.ireturn, 1) := by decide +kernel
theorem mj_d_43_0 : decode mj_m_43.2.1 0 = .ok (.aload_n 0, 1) := by decide +kernel
theorem mj_d_43_1 : decode mj_m_43.2.1 1 = .ok (.iload_n 1, 1) := by decide +kernel
theorem mj_d_43_2 : decode mj_m_43.2.1 2 = .ok (.invokevirtual 163, 3) := by decide +kernel
theorem mj_d_43_5 : decode mj_m_43.2.1 5 = .ok (.ifCond .ne 6, 3) := by decide +kernel
theorem mj_d_43_8 : decode mj_m_43.2.1 8 = .ok (.ldc 139, 2) := by decide +kernel
theorem mj_d_43_10 : decode mj_m_43.2.1 10 = .ok (.ireturn, 1) := by decide +kernel
theorem mj_d_44_0 : decode mj_m_44.2.1 0 = .ok (.iload_n 1, 1) := by decide +kernel
theorem mj_d_44_1 : decode mj_m_44.2.1 1 = .ok (.ifCond .lt 18, 3) := by decide +kernel
theorem mj_d_44_4 : decode mj_m_44.2.1 4 = .ok (.iload_n 1, 1) := by decide +kernel
theorem mj_d_44_5 : decode mj_m_44.2.1 5 = .ok (.aload_n 0, 1) := by decide +kernel
theorem mj_d_44_6 : decode mj_m_44.2.1 6 = .ok (.getfield 19, 3) := by decide +kernel
theorem mj_d_44_9 : decode mj_m_44.2.1 9 = .ok (.getfield 118, 3) := by decide +kernel
theorem mj_d_44_12 : decode mj_m_44.2.1 12 = .ok (.if_icmp .ge 7, 3) := by decide +kernel
theorem mj_d_44_19 : decode mj_m_44.2.1 19 = .ok (.iconst 0, 1) := by decide +kernel
theorem mj_d_44_20 : decode mj_m_44.2.1 20 = .ok (.ireturn, 1) := by decide +kernel
theorem mj_d_45_0 : decode mj_m_45.2.1 0 = .ok (.aload_n 0, 1) := by decide +kernel
theorem mj_d_45_1 : decode mj_m_45.2.1 1 = .ok (.iload_n 1, 1) := by decide +kernel
theorem mj_d_45_2 : decode mj_m_45.2.1 2 = .ok (.invokevirtual 176, 3) := by decide +kernel
theorem mj_d_45_5 : decode mj_m_45.2.1 5 = .ok (.istore_n 2, 1) := by decide +kernel
theorem mj_d_45_6 : decode mj_m_45.2.1 6 = .ok (.iload_n 2, 1) := by decide +kernel
theorem mj_d_45_7 : decode mj_m_45.2.1 7 = .ok (.ifCond .eq 5, 3) := by decide +kernel
theorem mj_d_45_10 : decode mj_m_45.2.1 10 = .ok (.iload_n 2, 1) := by decide +kernel
theorem mj_d_45_11 : decode mj_m_45.2.1 11 = .ok (.ireturn, 1) := by decide +kernel
theorem mj_d_46_0 : decode mj_m_46.2.1 0 = .ok (.iload_n 1, 1) := by decide +kernel
theorem mj_d_46_1 : decode mj_m_46.2.1 1 = .ok (.iconst 1, 1) := by decide +kernel
theorem mj_d_46_2 : decode mj_m_46.2.1 2 = .ok (.if_icmp .lt 9, 3) := by decide +kernel
theorem mj_d_46_5 : decode mj_m_46.2.1 5 = .ok (.iload_n 1, 1) := by decide +kernel
theorem mj_d_46_6 : decode mj_m_46.2.1 6 = .ok (.bipush 30, 2) := by decide +kernel
theorem mj_d_46_8 : decode mj_m_46.2.1 8 = .ok (.if_icmp .le 6, 3) := by decide +kernel
theorem mj_d_46_11 : decode mj_m_46.2.1 11 = .ok (.ldc 72, 2) := by decide +kernel
theorem mj_d_46_13 : decode mj_m_46.2.1 13 = .ok (.ireturn, 1) := by decide +kernel
theorem mj_d_46_14 : decode mj_m_46.2.1 14 = .ok (.aload_n 0, 1) := by decide +kernel
theorem mj_d_46_15 : decode mj_m_46.2.1 15 = .ok (.getfield 19, 3) := by decide +kernel
theorem mj_d_46_18 : decode mj_m_46.2.1 18 = .ok (.getfield 108, 3) := by decide +kernel
theorem mj_d_46_21 : decode mj_m_46.2.1 21 = .ok (.ifCond .ne 6, 3) := by decide +kernel
theorem mj_d_46_24 : decode mj_m_46.2.1 24 = .ok (.ldc 186, 2) := by decide +kernel
theorem mj_d_46_26 : decode mj_m_46.2.1 26 = .ok (.ireturn, 1) := by decide +kernel
theorem mj_d_53_0 : decode mj_m_53.2.1 0 = .ok (.aload_n 0, 1) := by decide +kernel
theorem mj_d_53_1 : decode mj_m_53.2.1 1 = .ok (.iload_n 1, 1) := by decide +kernel
theorem mj_d_53_2 : decode mj_m_53.2.1 2 = .ok (.invokevirtual 135, 3) := by decide +kernel
theorem mj_d_53_5 : decode mj_m_53.2.1 5 = .ok (.ifCond .ne 6, 3) := by decide +kernel
theorem mj_d_53_8 : decode mj_m_53.2.1 8 = .ok (.ldc 139, 2) := by decide +kernel
theorem mj_d_53_10 : decode mj_m_53.2.1 10 = .ok (.ireturn, 1) := by decide +kernel
theorem mj_d_57_0 : decode mj_m_57.2.1 0 = .ok (.aload_n 0, 1) := by decide +kernel
theorem mj_d_57_1 : decode mj_m_57.2.1 1 = .ok (.iload_n 1, 1) := by decide +kernel
theorem mj_d_57_2 : decode mj_m_57.2.1 2 = .ok (.invokevirtual 135, 3) := by decide +kernel
theorem mj_d_57_5 : decode mj_m_57.2.1 5 = .ok (.ifCond .ne 6, 3) := by decide +kernel
theorem mj_d_57_8 : decode mj_m_57.2.1 8 = .ok (.ldc 139, 2) := by decide +kernel
theorem mj_d_57_10 : decode mj_m_57.2.1 10 = .ok (.ireturn, 1) := by decide +kernel
theorem mj_d_58_0 : decode mj_m_58.2.1 0 = .ok (.aload_n 0, 1) := by decide +kernel
theorem mj_d_58_1 : decode mj_m_58.2.1 1 = .ok (.iload_n 1, 1) := by decide +kernel
theorem mj_d_58_2 : decode mj_m_58.2.1 2 = .ok (.invokevirtual 135, 3) := by decide +kernel
theorem mj_d_58_5 : decode mj_m_58.2.1 5 = .ok (.ifCond .eq 13, 3) := by decide +kernel
theorem mj_d_58_18 : decode mj_m_58.2.1 18 = .ok (.ldc 139, 2) := by decide +kernel
theorem mj_d_58_20 : decode mj_m_58.2.1 20 = .ok (.ireturn, 1) := by decide +kernel
theorem mj_d_59_0 : decode mj_m_59.2.1 0 = .ok (.aload_n 0, 1) := by decide +kernel
theorem mj_d_59_1 : decode mj_m_59.2.1 1 = .ok (.iload_n 1, 1) := by decide +kernel
theorem mj_d_59_2 : decode mj_m_59.2.1 2 = .ok (.iload_n 3, 1) := by decide +kernel
theorem mj_d_59_3 : decode mj_m_59.2.1 3 = .ok (.invokevirtual 190, 3) := by decide +kernel
theorem mj_d_59_6 : decode mj_m_59.2.1 6 = .ok (.ifCond .eq 26, 3) := by decide +kernel
theorem mj_d_59_32 : decode mj_m_59.2.1 32 = .ok (.ldc 139, 2) := by decide +kernel
theorem mj_d_59_34 : decode mj_m_59.2.1 34 = .ok (.ireturn, 1) := by decide +kernel
theorem mj_d_60_0 : decode mj_m_60.2.1 0 = .ok (.aload_n 0, 1) := by decide +kernel
theorem mj_d_60_1 : decode mj_m_60.2.1 1 = .ok (.iload_n 1, 1) := by decide +kernel
theorem mj_d_60_2 : decode mj_m_60.2.1 2 = .ok (.invokevirtual 163, 3) := by decide +kernel
theorem mj_d_60_5 : decode mj_m_60.2.1 5 = .ok (.ifCond .eq 20, 3) := by decide +kernel
theorem mj_d_60_25 : decode mj_m_60.2.1 25 = .ok (.iconst 0, 1) := by decide +kernel
theorem mj_d_60_26 : decode mj_m_60.2.1 26 = .ok (.ireturn, 1) := by decide +kernel
theorem mj_d_63_0 : decode mj_m_63.2.1 0 = .ok (.aload_n 0, 1) := by decide +kernel
theorem mj_d_63_1 : decode mj_m_63.2.1 1 = .ok (.iload_n 1, 1) := by decide +kernel
theorem mj_d_63_2 : decode mj_m_63.2.1 2 = .ok (.iload_n 2, 1) := by decide +kernel
theorem mj_d_63_3 : decode mj_m_63.2.1 3 = .ok (.invokevirtual 190, 3) := by decide +kernel
theorem mj_d_63_6 : decode mj_m_63.2.1 6 = .ok (.ifCond .eq 11, 3) := by decide +kernel
theorem mj_d_63_17 : decode mj_m_63.2.1 17 = .ok (.ldc 139, 2) := by decide +kernel
theorem mj_d_63_19 : decode mj_m_63.2.1 19 = .ok (.ireturn, 1) := by decide +kernel
theorem mj_d_64_0 : decode mj_m_64.2.1 0 = .ok (.aload_n 0, 1) := by decide +kernel
theorem mj_d_64_1 : decode mj_m_64.2.1 1 = .ok (.iload_n 1, 1) := by decide +kernel
theorem mj_d_64_2 : decode mj_m_64.2.1 2 = .ok (.invokevirtual 176, 3) := by decide +kernel
theorem mj_d_64_5 : decode mj_m_64.2.1 5 = .ok (.istore_n 2, 1) := by decide +kernel
theorem mj_d_64_6 : decode mj_m_64.2.1 6 = .ok (.iload_n 2, 1) := by decide +kernel
theorem mj_d_64_7 : decode mj_m_64.2.1 7 = .ok (.ifCond .eq 5, 3) := by decide +kernel
theorem mj_d_64_10 : decode mj_m_64.2.1 10 = .ok (.iload_n 2, 1) := by decide +kernel
theorem mj_d_64_11 : decode mj_m_64.2.1 11 = .ok (.ireturn, 1) := by decide +kernel
theorem mj_d_67_0 : decode mj_m_67.2.1 0 = .ok (.iload_n 1, 1) := by decide +kernel
theorem mj_d_67_1 : decode mj_m_67.2.1 1 = .ok (.iconst 1, 1) := by decide +kernel
theorem mj_d_67_2 : decode mj_m_67.2.1 2 = .ok (.if_icmp .lt 9, 3) := by decide +kernel
theorem mj_d_67_5 : decode mj_m_67.2.1 5 = .ok (.iload_n 1, 1) := by decide +kernel
theorem mj_d_67_6 : decode mj_m_67.2.1 6 = .ok (.bipush 30, 2) := by decide +kernel
theorem mj_d_67_8 : decode mj_m_67.2.1 8 = .ok (.if_icmp .le 6, 3) := by decide +kernel
theorem mj_d_67_11 : decode mj_m_67.2.1 11 = .ok (.ldc 72, 2) := by decide +kernel
theorem mj_d_67_13 : decode mj_m_67.2.1 13 = .ok (.ireturn, 1) := by decide +kernel
theorem mj_d_67_14 : decode mj_m_67.2.1 14 = .ok (.iload_n 1, 1) := by decide +kernel
theorem mj_d_67_15 : decode mj_m_67.2.1 15 = .ok (.aload_n 0, 1) := by decide +kernel
theorem mj_d_67_16 : decode mj_m_67.2.1 16 = .ok (.getfield 33, 3) := by decide +kernel
theorem mj_d_67_19 : decode mj_m_67.2.1 19 = .ok (.getfield 134, 3) := by decide +kernel
theorem mj_d_67_22 : decode mj_m_67.2.1 22 = .ok (.if_icmp .le 6, 3) := by decide +kernel
theorem mj_d_67_25 : decode mj_m_67.2.1 25 = .ok (.ldc 186, 2) := by decide +kernel
theorem mj_d_67_27 : decode mj_m_67.2.1 27 = .ok (.ireturn, 1) := by decide +kernel
theorem mj_d_69_0 : decode mj_m_69.2.1 0 = .ok (.aload_n 0, 1) := by decide +kernel
theorem mj_d_69_1 : decode mj_m_69.2.1 1 = .ok (.iload_n 1, 1) := by decide +kernel
theorem mj_d_69_2 : decode mj_m_69.2.1 2 = .ok (.invokevirtual 135, 3) := by decide +kernel
theorem mj_d_69_5 : decode mj_m_69.2.1 5 = .ok (.ifCond .ne 6, 3) := by decide +kernel
theorem mj_d_69_8 : decode mj_m_69.2.1 8 = .ok (.ldc 139, 2) := by decide +kernel
theorem mj_d_69_10 : decode mj_m_69.2.1 10 = .ok (.ireturn, 1) := by decide +kernel
theorem mj_d_79_0 : decode mj_m_79.2.1 0 = .ok (.aload_n 0, 1) := by decide +kernel
theorem mj_d_79_1 : decode mj_m_79.2.1 1 = .ok (.iload_n 1, 1) := by decide +kernel
theorem mj_d_79_2 : decode mj_m_79.2.1 2 = .ok (.invokevirtual 135, 3) := by decide +kernel
theorem mj_d_79_5 : decode mj_m_79.2.1 5 = .ok (.ifCond .ne 6, 3) := by decide +kernel
theorem mj_d_79_8 : decode mj_m_79.2.1 8 = .ok (.ldc 139, 2) := by decide +kernel
theorem mj_d_79_10 : decode mj_m_79.2.1 10 = .ok (.ireturn, 1) := by decide +kernel
theorem mj_d_81_0 : decode mj_m_81.2.1 0 = .ok (.aload_n 0, 1) := by decide +kernel
theorem mj_d_81_1 : decode mj_m_81.2.1 1 = .ok (.iload_n 1, 1) := by decide +kernel
theorem mj_d_81_2 : decode mj_m_81.2.1 2 = .ok (.invokevirtual 135, 3) := by decide +kernel
theorem mj_d_81_5 : decode mj_m_81.2.1 5 = .ok (.ifCond .ne 6, 3) := by decide +kernel
theorem mj_d_81_8 : decode mj_m_81.2.1 8 = .ok (.ldc 139, 2) := by decide +kernel
theorem mj_d_81_10 : decode mj_m_81.2.1 10 = .ok (.ireturn, 1) := by decide +kernel
theorem mj_d_85_0 : decode mj_m_85.2.1 0 = .ok (.aload_n 0, 1) := by decide +kernel
theorem mj_d_85_1 : decode mj_m_85.2.1 1 = .ok (.iload_n 1, 1) := by decide +kernel
theorem mj_d_85_2 : decode mj_m_85.2.1 2 = .ok (.invokevirtual 163, 3) := by decide +kernel
theorem mj_d_85_5 : decode mj_m_85.2.1 5 = .ok (.ifCond .eq 33, 3) := by decide +kernel
theorem mj_d_85_38 : decode mj_m_85.2.1 38 = .ok (.ldc 139, 2) := by decide +kernel
theorem mj_d_85_40 : decode mj_m_85.2.1 40 = .ok (.ireturn, 1) := by decide +kernel
theorem mj_d_90_0 : decode mj_m_90.2.1 0 = .ok (.iload_n 0, 1) := by decide +kernel
theorem mj_d_90_1 : decode mj_m_90.2.1 1 = .ok (.iload_n 0, 1) := by decide +kernel
theorem mj_d_90_2 : decode mj_m_90.2.1 2 = .ok (.iconst 1, 1) := by decide +kernel
theorem mj_d_90_3 : decode mj_m_90.2.1 3 = .ok (.iushr, 1) := by decide +kernel
theorem mj_d_90_4 : decode mj_m_90.2.1 4 = .ok (.ldc_w 265, 3) := by decide +kernel
theorem mj_d_90_7 : decode mj_m_90.2.1 7 = .ok (.iand, 1) := by decide +kernel
theorem mj_d_90_8 : decode mj_m_90.2.1 8 = .ok (.isub, 1) := by decide +kernel
theorem mj_d_90_9 : decode mj_m_90.2.1 9 = .ok (.istore_n 0, 1) := by decide +kernel
theorem mj_d_90_10 : decode mj_m_90.2.1 10 = .ok (.iload_n 0, 1) := by decide +kernel
theorem mj_d_90_11 : decode mj_m_90.2.1 11 = .ok (.ldc_w 266, 3) := by decide +kernel
theorem mj_d_90_14 : decode mj_m_90.2.1 14 = .ok (.iand, 1) := by decide +kernel
theorem mj_d_90_15 : decode mj_m_90.2.1 15 = .ok (.iload_n 0, 1) := by decide +kernel
theorem mj_d_90_16 : decode mj_m_90.2.1 16 = .ok (.iconst 2, 1) := by decide +kernel
theorem mj_d_90_17 : decode mj_m_90.2.1 17 = .ok (.iushr, 1) := by decide +kernel
theorem mj_d_90_18 : decode mj_m_90.2.1 18 = .ok (.ldc_w 266, 3) := by decide +kernel
theorem mj_d_90_21 : decode mj_m_90.2.1 21 = .ok (.iand, 1) := by decide +kernel
theorem mj_d_90_22 : decode mj_m_90.2.1 22 = .ok (.iadd, 1) := by decide +kernel
theorem mj_d_90_23 : decode mj_m_90.2.1 23 = .ok (.istore_n 0, 1) := by decide +kernel
theorem mj_d_90_24 : decode mj_m_90.2.1 24 = .ok (.iload_n 0, 1) := by decide +kernel
theorem mj_d_90_25 : decode mj_m_90.2.1 25 = .ok (.iload_n 0, 1) := by decide +kernel
theorem mj_d_90_26 : decode mj_m_90.2.1 26 = .ok (.iconst 4, 1) := by decide +kernel
theorem mj_d_90_27 : decode mj_m_90.2.1 27 = .ok (.iushr, 1) := by decide +kernel
theorem mj_d_90_28 : decode mj_m_90.2.1 28 = .ok (.iadd, 1) := by decide +kernel
theorem mj_d_90_29 : decode mj_m_90.2.1 29 = .ok (.ldc_w 267, 3) := by decide +kernel
theorem mj_d_90_32 : decode mj_m_90.2.1 32 = .ok (.iand, 1) := by decide +kernel
theorem mj_d_90_33 : decode mj_m_90.2.1 33 = .ok (.istore_n 0, 1) := by decide +kernel
theorem mj_d_90_34 : decode mj_m_90.2.1 34 = .ok (.iload_n 0, 1) := by decide +kernel
theorem mj_d_90_35 : decode mj_m_90.2.1 35 = .ok (.iload_n 0, 1) := by decide +kernel
theorem mj_d_90_36 : decode mj_m_90.2.1 36 = .ok (.bipush 8, 2) := by decide +kernel
theorem mj_d_90_38 : decode mj_m_90.2.1 38 = .ok (.iushr, 1) := by decide +kernel
theorem mj_d_90_39 : decode mj_m_90.2.1 39 = .ok (.iadd, 1) := by decide +kernel
theorem mj_d_90_40 : decode mj_m_90.2.1 40 = .ok (.istore_n 0, 1) := by decide +kernel
theorem mj_d_90_41 : decode mj_m_90.2.1 41 = .ok (.iload_n 0, 1) := by decide +kernel
theorem mj_d_90_42 : decode mj_m_90.2.1 42 = .ok (.iload_n 0, 1) := by decide +kernel
theorem mj_d_90_43 : decode mj_m_90.2.1 43 = .ok (.bipush 16, 2) := by decide +kernel
theorem mj_d_90_45 : decode mj_m_90.2.1 45 = .ok (.iushr, 1) := by decide +kernel
theorem mj_d_90_46 : decode mj_m_90.2.1 46 = .ok (.iadd, 1) := by decide +kernel
theorem mj_d_90_47 : decode mj_m_90.2.1 47 = .ok (.istore_n 0, 1) := by decide +kernel
theorem mj_d_90_48 : decode mj_m_90.2.1 48 = .ok (.iload_n 0, 1) := by decide +kernel
theorem mj_d_90_49 : decode mj_m_90.2.1 49 = .ok (.bipush 63, 2) := by decide +kernel
theorem mj_d_90_51 : decode mj_m_90.2.1 51 = .ok (.iand, 1) := by decide +kernel
theorem mj_d_90_52 : decode mj_m_90.2.1 52 = .ok (.ireturn, 1) := by decide +kernel
theorem mj_d_97_0 : decode mj_m_97.2.1 0 = .ok (.iconst 0, 1) := by decide +kernel
theorem mj_d_97_1 : decode mj_m_97.2.1 1 = .ok (.istore_n 2, 1) := by decide +kernel
theorem mj_d_97_2 : decode mj_m_97.2.1 2 = .ok (.iload_n 2, 1) := by decide +kernel
theorem mj_d_97_3 : decode mj_m_97.2.1 3 = .ok (.aload_n 0, 1) := by decide +kernel
theorem mj_d_97_4 : decode mj_m_97.2.1 4 = .ok (.getfield 19, 3) := by decide +kernel
theorem mj_d_97_7 : decode mj_m_97.2.1 7 = .ok (.getfield 118, 3) := by decide +kernel
theorem mj_d_97_10 : decode mj_m_97.2.1 10 = .ok (.if_icmp .ge 61, 3) := by decide +kernel
theorem mj_d_97_71 : decode mj_m_97.2.1 71 = .ok (.iconst (-1), 1) := by decide +kernel
theorem mj_d_97_72 : decode mj_m_97.2.1 72 = .ok (.ireturn, 1) := by decide +kernel
theorem mj_d_100_0 : decode mj_m_100.2.1 0 = .ok (.iload_n 1, 1) := by decide +kernel
theorem mj_d_100_1 : decode mj_m_100.2.1 1 = .ok (.iconst 1, 1) := by decide +kernel
theorem mj_d_100_2 : decode mj_m_100.2.1 2 = .ok (.if_icmp .lt 9, 3) := by decide +kernel
theorem mj_d_100_5 : decode mj_m_100.2.1 5 = .ok (.iload_n 1, 1) := by decide +kernel
theorem mj_d_100_6 : decode mj_m_100.2.1 6 = .ok (.bipush 7, 2) := by decide +kernel
theorem mj_d_100_8 : decode mj_m_100.2.1 8 = .ok (.if_icmp .le 6, 3) := by decide +kernel
theorem mj_d_100_11 : decode mj_m_100.2.1 11 = .ok (.ldc 72, 2) := by decide +kernel
theorem mj_d_100_13 : decode mj_m_100.2.1 13 = .ok (.ireturn, 1) := by decide +kernel
theorem mj_d_100_14 : decode mj_m_100.2.1 14 = .ok (.iload_n 2, 1) := by decide +kernel
theorem mj_d_100_15 : decode mj_m_100.2.1 15 = .ok (.lookupswitch 47 #[(0, 25), (1, 41)], 25) := by decide +kernel
theorem mj_d_100_40 : decode mj_m_100.2.1 40 = .ok (.aload_n 0, 1) := by decide +kernel
theorem mj_d_100_41 : decode mj_m_100.2.1 41 = .ok (.getfield 26, 3) := by decide +kernel
theorem mj_d_100_44 : decode mj_m_100.2.1 44 = .ok (.iload_n 1, 1) := by decide +kernel
theorem mj_d_100_45 : decode mj_m_100.2.1 45 = .ok (.aload_n 0, 1) := by decide +kernel
theorem mj_d_100_46 : decode mj_m_100.2.1 46 = .ok (.getfield 19, 3) := by decide +kernel
theorem mj_d_100_49 : decode mj_m_100.2.1 49 = .ok (.getfield 102, 3) := by decide +kernel
theorem mj_d_100_52 : decode mj_m_100.2.1 52 = .ok (.invokevirtual 249, 3) := by decide +kernel
theorem mj_d_100_55 : decode mj_m_100.2.1 55 = .ok (.ireturn, 1) := by decide +kernel
theorem mj_d_100_56 : decode mj_m_100.2.1 56 = .ok (.aload_n 0, 1) := by decide +kernel
theorem mj_d_100_57 : decode mj_m_100.2.1 57 = .ok (.iload_n 1, 1) := by decide +kernel
theorem mj_d_100_58 : decode mj_m_100.2.1 58 = .ok (.invokevirtual 252, 3) := by decide +kernel
theorem mj_d_100_61 : decode mj_m_100.2.1 61 = .ok (.ireturn, 1) := by decide +kernel
theorem mj_d_100_62 : decode mj_m_100.2.1 62 = .ok (.ldc 72, 2) := by decide +kernel
theorem mj_d_100_64 : decode mj_m_100.2.1 64 = .ok (.ireturn, 1) := by decide +kernel
theorem mj_d_101_0 : decode mj_m_101.2.1 0 = .ok (.iconst 0, 1) := by decide +kernel
theorem mj_d_101_1 : decode mj_m_101.2.1 1 = .ok (.istore_n 3, 1) := by decide +kernel
theorem mj_d_101_2 : decode mj_m_101.2.1 2 = .ok (.iconst 0, 1) := by decide +kernel
theorem mj_d_101_3 : decode mj_m_101.2.1 3 = .ok (.istore 4, 2) := by decide +kernel
theorem mj_d_101_5 : decode mj_m_101.2.1 5 = .ok (.iload 4, 2) := by decide +kernel
theorem mj_d_101_7 : decode mj_m_101.2.1 7 = .ok (.iload_n 2, 1) := by decide +kernel
theorem mj_d_101_8 : decode mj_m_101.2.1 8 = .ok (.if_icmp .ge 26, 3) := by decide +kernel
theorem mj_d_101_34 : decode mj_m_101.2.1 34 = .ok (.iload_n 3, 1) := by decide +kernel
theorem mj_d_101_35 : decode mj_m_101.2.1 35 = .ok (.ireturn, 1) := by decide +kernel
theorem mj_d_103_0 : decode mj_m_103.2.1 0 = .ok (.iconst (-1), 1) := by decide +kernel
theorem mj_d_103_1 : decode mj_m_103.2.1 1 = .ok (.istore_n 2, 1) := by decide +kernel
theorem mj_d_103_2 : decode mj_m_103.2.1 2 = .ok (.iconst 0, 1) := by decide +kernel
theorem mj_d_103_3 : decode mj_m_103.2.1 3 = .ok (.istore_n 3, 1) := by decide +kernel
theorem mj_d_103_4 : decode mj_m_103.2.1 4 = .ok (.iconst 0, 1) := by decide +kernel
theorem mj_d_103_5 : decode mj_m_103.2.1 5 = .ok (.istore 4, 2) := by decide +kernel
theorem mj_d_103_7 : decode mj_m_103.2.1 7 = .ok (.iload 4, 2) := by decide +kernel
theorem mj_d_103_9 : decode mj_m_103.2.1 9 = .ok (.aload_n 0, 1) := by decide +kernel
theorem mj_d_103_10 : decode mj_m_103.2.1 10 = .ok (.getfield 19, 3) := by decide +kernel
theorem mj_d_103_13 : decode mj_m_103.2.1 13 = .ok (.getfield 102, 3) := by decide +kernel
theorem mj_d_103_16 : decode mj_m_103.2.1 16 = .ok (.if_icmp .ge 57, 3) := by decide +kernel
theorem mj_d_103_73 : decode mj_m_103.2.1 73 = .ok (.iload_n 2, 1) := by decide +kernel
theorem mj_d_103_74 : decode mj_m_103.2.1 74 = .ok (.ireturn, 1) := by decide +kernel
theorem mj_d_105_0 : decode mj_m_105.2.1 0 = .ok (.aload_n 0, 1) := by decide +kernel
theorem mj_d_105_1 : decode mj_m_105.2.1 1 = .ok (.iload_n 1, 1) := by decide +kernel
theorem mj_d_105_2 : decode mj_m_105.2.1 2 = .ok (.invokevirtual 135, 3) := by decide +kernel
theorem mj_d_105_5 : decode mj_m_105.2.1 5 = .ok (.ifCond .ne 6, 3) := by decide +kernel
theorem mj_d_105_8 : decode mj_m_105.2.1 8 = .ok (.ldc 139, 2) := by decide +kernel
theorem mj_d_105_10 : decode mj_m_105.2.1 10 = .ok (.ireturn, 1) := by decide +kernel
theorem mj_d_107_0 : decode mj_m_107.2.1 0 = .ok (.iload_n 1, 1) := by decide +kernel
theorem mj_d_107_1 : decode mj_m_107.2.1 1 = .ok (.iconst 1, 1) := by decide +kernel
theorem mj_d_107_2 : decode mj_m_107.2.1 2 = .ok (.if_icmp .lt 9, 3) := by decide +kernel
theorem mj_d_107_5 : decode mj_m_107.2.1 5 = .ok (.iload_n 1, 1) := by decide +kernel
theorem mj_d_107_6 : decode mj_m_107.2.1 6 = .ok (.bipush 7, 2) := by decide +kernel
theorem mj_d_107_8 : decode mj_m_107.2.1 8 = .ok (.if_icmp .le 6, 3) := by decide +kernel
theorem mj_d_107_11 : decode mj_m_107.2.1 11 = .ok (.ldc 72, 2) := by decide +kernel
theorem mj_d_107_13 : decode mj_m_107.2.1 13 = .ok (.ireturn, 1) := by decide +kernel
theorem mj_d_107_14 : decode mj_m_107.2.1 14 = .ok (.iload_n 2, 1) := by decide +kernel
theorem mj_d_107_15 : decode mj_m_107.2.1 15 = .ok (.lookupswitch 41 #[(0, 25), (1, 31)], 25) := by decide +kernel
theorem mj_d_107_40 : decode mj_m_107.2.1 40 = .ok (.aload_n 0, 1) := by decide +kernel
theorem mj_d_107_41 : decode mj_m_107.2.1 41 = .ok (.iload_n 1, 1) := by decide +kernel
theorem mj_d_107_42 : decode mj_m_107.2.1 42 = .ok (.invokevirtual 267, 3) := by decide +kernel
theorem mj_d_107_45 : decode mj_m_107.2.1 45 = .ok (.ireturn, 1) := by decide +kernel
theorem mj_d_107_46 : decode mj_m_107.2.1 46 = .ok (.aload_n 0, 1) := by decide +kernel
theorem mj_d_107_47 : decode mj_m_107.2.1 47 = .ok (.aload_n 0, 1) := by decide +kernel
theorem mj_d_107_48 : decode mj_m_107.2.1 48 = .ok (.iload_n 1, 1) := by decide +kernel
theorem mj_d_107_49 : decode mj_m_107.2.1 49 = .ok (.invokevirtual 267, 3) := by decide +kernel
theorem mj_d_107_52 : decode mj_m_107.2.1 52 = .ok (.invokevirtual 270, 3) := by decide +kernel
theorem mj_d_107_55 : decode mj_m_107.2.1 55 = .ok (.ireturn, 1) := by decide +kernel
theorem mj_d_107_56 : decode mj_m_107.2.1 56 = .ok (.ldc 72, 2) := by decide +kernel
theorem mj_d_107_58 : decode mj_m_107.2.1 58 = .ok (.ireturn, 1) := by decide +kernel
theorem mj_d_108_0 : decode mj_m_108.2.1 0 = .ok (.iconst 0, 1) := by decide +kernel
theorem mj_d_108_1 : decode mj_m_108.2.1 1 = .ok (.istore_n 2, 1) := by decide +kernel
theorem mj_d_108_2 : decode mj_m_108.2.1 2 = .ok (.iconst 0, 1) := by decide +kernel
theorem mj_d_108_3 : decode mj_m_108.2.1 3 = .ok (.istore_n 3, 1) := by decide +kernel
theorem mj_d_108_4 : decode mj_m_108.2.1 4 = .ok (.iload_n 3, 1) := by decide +kernel
theorem mj_d_108_5 : decode mj_m_108.2.1 5 = .ok (.aload_n 0, 1) := by decide +kernel
theorem mj_d_108_6 : decode mj_m_108.2.1 6 = .ok (.getfield 19, 3) := by decide +kernel
theorem mj_d_108_9 : decode mj_m_108.2.1 9 = .ok (.getfield 102, 3) := by decide +kernel
theorem mj_d_108_12 : decode mj_m_108.2.1 12 = .ok (.if_icmp .ge 38, 3) := by decide +kernel
theorem mj_d_108_50 : decode mj_m_108.2.1 50 = .ok (.iload_n 2, 1) := by decide +kernel
theorem mj_d_108_51 : decode mj_m_108.2.1 51 = .ok (.ireturn, 1) := by decide +kernel
theorem mj_d_110_0 : decode mj_m_110.2.1 0 = .ok (.iload_n 1, 1) := by decide +kernel
theorem mj_d_110_1 : decode mj_m_110.2.1 1 = .ok (.invokestatic 299, 3) := by decide +kernel
theorem mj_d_110_4 : decode mj_m_110.2.1 4 = .ok (.istore_n 2, 1) := by decide +kernel
theorem mj_d_110_5 : decode mj_m_110.2.1 5 = .ok (.iconst (-1), 1) := by decide +kernel
theorem mj_d_110_6 : decode mj_m_110.2.1 6 = .ok (.istore_n 3, 1) := by decide +kernel
theorem mj_d_110_7 : decode mj_m_110.2.1 7 = .ok (.iload_n 2, 1) := by decide +kernel
theorem mj_d_110_8 : decode mj_m_110.2.1 8 = .ok (.istore 4, 2) := by decide +kernel
theorem mj_d_110_10 : decode mj_m_110.2.1 10 = .ok (.iconst 0, 1) := by decide +kernel
theorem mj_d_110_11 : decode mj_m_110.2.1 11 = .ok (.istore 5, 2) := by decide +kernel
theorem mj_d_110_13 : decode mj_m_110.2.1 13 = .ok (.iload 5, 2) := by decide +kernel
theorem mj_d_110_15 : decode mj_m_110.2.1 15 = .ok (.aload_n 0, 1) := by decide +kernel
theorem mj_d_110_16 : decode mj_m_110.2.1 16 = .ok (.getfield 19, 3) := by decide +kernel
theorem mj_d_110_19 : decode mj_m_110.2.1 19 = .ok (.getfield 102, 3) := by decide +kernel
theorem mj_d_110_22 : decode mj_m_110.2.1 22 = .ok (.if_icmp .ge 43, 3) := by decide +kernel
theorem mj_d_110_65 : decode mj_m_110.2.1 65 = .ok (.iload_n 3, 1) := by decide +kernel
theorem mj_d_110_66 : decode mj_m_110.2.1 66 = .ok (.ireturn, 1) := by decide +kernel
theorem mj_d_112_0 : decode mj_m_112.2.1 0 = .ok (.aload_n 0, 1) := by decide +kernel
theorem mj_d_112_1 : decode mj_m_112.2.1 1 = .ok (.iload_n 1, 1) := by decide +kernel
theorem mj_d_112_2 : decode mj_m_112.2.1 2 = .ok (.invokevirtual 135, 3) := by decide +kernel
theorem mj_d_112_5 : decode mj_m_112.2.1 5 = .ok (.ifCond .ne 6, 3) := by decide +kernel
theorem mj_d_112_8 : decode mj_m_112.2.1 8 = .ok (.ldc 139, 2) := by decide +kernel
theorem mj_d_112_10 : decode mj_m_112.2.1 10 = .ok (.ireturn, 1) := by decide +kernel
theorem mj_d_117_0 : decode mj_m_117.2.1 0 = .ok (.iload_n 1, 1) := by decide +kernel
theorem mj_d_117_1 : decode mj_m_117.2.1 1 = .ok (.ifCond .ge 6, 3) := by decide +kernel
theorem mj_d_117_4 : decode mj_m_117.2.1 4 = .ok (.ldc 72, 2) := by decide +kernel
theorem mj_d_117_6 : decode mj_m_117.2.1 6 = .ok (.ireturn, 1) := by decide +kernel
theorem mj_d_117_7 : decode mj_m_117.2.1 7 = .ok (.aload_n 0, 1) := by decide +kernel
theorem mj_d_117_8 : decode mj_m_117.2.1 8 = .ok (.getfield 279, 3) := by decide +kernel
theorem mj_d_117_11 : decode mj_m_117.2.1 11 = .ok (.istore_n 2, 1) := by decide +kernel
theorem mj_d_117_12 : decode mj_m_117.2.1 12 = .ok (.aload_n 0, 1) := by decide +kernel
theorem mj_d_117_13 : decode mj_m_117.2.1 13 = .ok (.iload_n 1, 1) := by decide +kernel
theorem mj_d_117_14 : decode mj_m_117.2.1 14 = .ok (.putfield 279, 3) := by decide +kernel
theorem mj_d_117_17 : decode mj_m_117.2.1 17 = .ok (.iload_n 2, 1) := by decide +kernel
theorem mj_d_117_18 : decode mj_m_117.2.1 18 = .ok (.ireturn, 1) := by decide +kernel
theorem mj_d_118_0 : decode mj_m_118.2.1 0 = .ok (.iload_n 1, 1) := by decide +kernel
theorem mj_d_118_1 : decode mj_m_118.2.1 1 = .ok (.ifCond .lt 8, 3) := by decide +kernel
theorem mj_d_118_4 : decode mj_m_118.2.1 4 = .ok (.iload_n 1, 1) := by decide +kernel
theorem mj_d_118_5 : decode mj_m_118.2.1 5 = .ok (.iconst 2, 1) := by decide +kernel
theorem mj_d_118_6 : decode mj_m_118.2.1 6 = .ok (.if_icmp .lt 6, 3) := by decide +kernel
theorem mj_d_118_9 : decode mj_m_118.2.1 9 = .ok (.ldc 139, 2) := by decide +kernel
theorem mj_d_118_11 : decode mj_m_118.2.1 11 = .ok (.ireturn, 1) := by decide +kernel
theorem mj_d_120_0 : decode mj_m_120.2.1 0 = .ok (.iload_n 1, 1) := by decide +kernel
theorem mj_d_120_1 : decode mj_m_120.2.1 1 = .ok (.ifCond .lt 8, 3) := by decide +kernel
theorem mj_d_120_4 : decode mj_m_120.2.1 4 = .ok (.iload_n 1, 1) := by decide +kernel
theorem mj_d_120_5 : decode mj_m_120.2.1 5 = .ok (.iconst 2, 1) := by decide +kernel
theorem mj_d_120_6 : decode mj_m_120.2.1 6 = .ok (.if_icmp .lt 6, 3) := by decide +kernel
theorem mj_d_120_9 : decode mj_m_120.2.1 9 = .ok (.ldc 139, 2) := by decide +kernel
theorem mj_d_120_11 : decode mj_m_120.2.1 11 = .ok (.ireturn, 1) := by decide +kernel
theorem mj_d_124_0 : decode mj_m_124.2.1 0 = .ok (.iload_n 1, 1) := by decide +kernel
theorem mj_d_124_1 : decode mj_m_124.2.1 1 = .ok (.i2l, 1) := by decide +kernel
theorem mj_d_124_2 : decode mj_m_124.2.1 2 = .ok (.lconst 0, 1) := by decide +kernel
theorem mj_d_124_3 : decode mj_m_124.2.1 3 = .ok (.ldc2_w 86, 3) := by decide +kernel
theorem mj_d_124_6 : decode mj_m_124.2.1 6 = .ok (.invokestatic 79, 3) := by decide +kernel
theorem mj_d_124_9 : decode mj_m_124.2.1 9 = .ok (.ifCond .ne 6, 3) := by decide +kernel
theorem mj_d_124_12 : decode mj_m_124.2.1 12 = .ok (.ldc 88, 2) := by decide +kernel
theorem mj_d_124_14 : decode mj_m_124.2.1 14 = .ok (.ireturn, 1) := by decide +kernel
theorem mj_d_124_15 : decode mj_m_124.2.1 15 = .ok (.aload_n 0, 1) := by decide +kernel
theorem mj_d_124_16 : decode mj_m_124.2.1 16 = .ok (.getfield 89, 3) := by decide +kernel
theorem mj_d_124_19 : decode mj_m_124.2.1 19 = .ok (.sipush 240, 3) := by decide +kernel
theorem mj_d_124_22 : decode mj_m_124.2.1 22 = .ok (.if_icmp .ne 6, 3) := by decide +kernel
theorem mj_d_124_28 : decode mj_m_124.2.1 28 = .ok (.aload_n 0, 1) := by decide +kernel
theorem mj_d_124_29 : decode mj_m_124.2.1 29 = .ok (.getfield 20, 3) := by decide +kernel
theorem mj_d_124_32 : decode mj_m_124.2.1 32 = .ok (.aload_n 0, 1) := by decide +kernel
theorem mj_d_124_33 : decode mj_m_124.2.1 33 = .ok (.getfield 89, 3) := by decide +kernel
theorem mj_d_124_36 : decode mj_m_124.2.1 36 = .ok (.iload_n 1, 1) := by decide +kernel
theorem mj_d_124_37 : decode mj_m_124.2.1 37 = .ok (.iastore, 1) := by decide +kernel
theorem mj_d_124_38 : decode mj_m_124.2.1 38 = .ok (.aload_n 0, 1) := by decide +kernel
theorem mj_d_124_39 : decode mj_m_124.2.1 39 = .ok (.dup, 1) := by decide +kernel
theorem mj_d_124_40 : decode mj_m_124.2.1 40 = .ok (.getfield 89, 3) := by decide +kernel
theorem mj_d_124_43 : decode mj_m_124.2.1 43 = .ok (.iconst 1, 1) := by decide +kernel
theorem mj_d_124_44 : decode mj_m_124.2.1 44 = .ok (.iadd, 1) := by decide +kernel
theorem mj_d_124_45 : decode mj_m_124.2.1 45 = .ok (.putfield 89, 3) := by decide +kernel
theorem mj_d_124_48 : decode mj_m_124.2.1 48 = .ok (.aload_n 0, 1) := by decide +kernel
theorem mj_d_124_49 : decode mj_m_124.2.1 49 = .ok (.getfield 89, 3) := by decide +kernel
theorem mj_d_124_52 : decode mj_m_124.2.1 52 = .ok (.ireturn, 1) := by decide +kernel
theorem mj_d_125_0 : decode mj_m_125.2.1 0 = .ok (.lload_n 0, 1) := by decide +kernel
theorem mj_d_125_1 : decode mj_m_125.2.1 1 = .ok (.lload_n 2, 1) := by decide +kernel
theorem mj_d_125_2 : decode mj_m_125.2.1 2 = .ok (.lcmp, 1) := by decide +kernel
theorem mj_d_125_3 : decode mj_m_125.2.1 3 = .ok (.ifCond .lt 14, 3) := by decide +kernel
theorem mj_d_125_6 : decode mj_m_125.2.1 6 = .ok (.lload_n 0, 1) := by decide +kernel
theorem mj_d_125_7 : decode mj_m_125.2.1 7 = .ok (.lload 4, 2) := by decide +kernel
theorem mj_d_125_9 : decode mj_m_125.2.1 9 = .ok (.lcmp, 1) := by decide +kernel
theorem mj_d_125_10 : decode mj_m_125.2.1 10 = .ok (.ifCond .gt 7, 3) := by decide +kernel
theorem mj_d_125_13 : decode mj_m_125.2.1 13 = .ok (.iconst 1, 1) := by decide +kernel
theorem mj_d_125_14 : decode mj_m_125.2.1 14 = .ok (.goto 4, 3) := by decide +kernel
theorem mj_d_125_17 : decode mj_m_125.2.1 17 = .ok (.iconst 0, 1) := by decide +kernel
theorem mj_d_125_18 : decode mj_m_125.2.1 18 = .ok (.ireturn, 1) := by decide +kernel
theorem mj_d_137_0 : decode mj_m_137.2.1 0 = .ok (.iload_n 1, 1) := by decide +kernel
theorem mj_d_137_1 : decode mj_m_137.2.1 1 = .ok (.tableswitch 135 0 11 #[63, 76, 81, 86, 91, 96, 101, 108, 113, 120, 125, 130], 63) := by decide +kernel
theorem mj_d_137_136 : decode mj_m_137.2.1 136 = .ok (.ldc 88, 2) := by decide +kernel
theorem mj_d_137_138 : decode mj_m_137.2.1 138 = .ok (.ireturn, 1) := by decide +kernel
theorem mj_d_139_0 : decode mj_m_139.2.1 0 = .ok (.aload_n 0, 1) := by decide +kernel
theorem mj_d_139_1 : decode mj_m_139.2.1 1 = .ok (.iload_n 1, 1) := by decide +kernel
theorem mj_d_139_2 : decode mj_m_139.2.1 2 = .ok (.invokevirtual 174, 3) := by decide +kernel
theorem mj_d_139_5 : decode mj_m_139.2.1 5 = .ok (.ifCond .ne 6, 3) := by decide +kernel
theorem mj_d_139_8 : decode mj_m_139.2.1 8 = .ok (.ldc 177, 2) := by decide +kernel
theorem mj_d_139_10 : decode mj_m_139.2.1 10 = .ok (.ireturn, 1) := by decide +kernel
theorem mj_d_140_0 : decode mj_m_140.2.1 0 = .ok (.iload_n 1, 1) := by decide +kernel
theorem mj_d_140_1 : decode mj_m_140.2.1 1 = .ok (.i2l, 1) := by decide +kernel
theorem mj_d_140_2 : decode mj_m_140.2.1 2 = .ok (.lconst 0, 1) := by decide +kernel
theorem mj_d_140_3 : decode mj_m_140.2.1 3 = .ok (.aload_n 0, 1) := by decide +kernel
theorem mj_d_140_4 : decode mj_m_140.2.1 4 = .ok (.getfield 76, 3) := by decide +kernel
theorem mj_d_140_7 : decode mj_m_140.2.1 7 = .ok (.iconst 1, 1) := by decide +kernel
theorem mj_d_140_8 : decode mj_m_140.2.1 8 = .ok (.isub, 1) := by decide +kernel
theorem mj_d_140_9 : decode mj_m_140.2.1 9 = .ok (.i2l, 1) := by decide +kernel
theorem mj_d_140_10 : decode mj_m_140.2.1 10 = .ok (.invokestatic 79, 3) := by decide +kernel
theorem mj_d_140_13 : decode mj_m_140.2.1 13 = .ok (.ireturn, 1) := by decide +kernel
theorem mj_d_142_0 : decode mj_m_142.2.1 0 = .ok (.aload_n 0, 1) := by decide +kernel
theorem mj_d_142_1 : decode mj_m_142.2.1 1 = .ok (.iload_n 1, 1) := by decide +kernel
theorem mj_d_142_2 : decode mj_m_142.2.1 2 = .ok (.invokevirtual 174, 3) := by decide +kernel
theorem mj_d_142_5 : decode mj_m_142.2.1 5 = .ok (.ifCond .ne 6, 3) := by decide +kernel
theorem mj_d_142_8 : decode mj_m_142.2.1 8 = .ok (.ldc 177, 2) := by decide +kernel
theorem mj_d_142_10 : decode mj_m_142.2.1 10 = .ok (.ireturn, 1) := by decide +kernel
theorem mj_d_144_0 : decode mj_m_144.2.1 0 = .ok (.aload_n 0, 1) := by decide +kernel
theorem mj_d_144_1 : decode mj_m_144.2.1 1 = .ok (.iload_n 1, 1) := by decide +kernel
theorem mj_d_144_2 : decode mj_m_144.2.1 2 = .ok (.invokevirtual 187, 3) := by decide +kernel
theorem mj_d_144_5 : decode mj_m_144.2.1 5 = .ok (.ifCond .ne 6, 3) := by decide +kernel
theorem mj_d_144_8 : decode mj_m_144.2.1 8 = .ok (.ldc 177, 2) := by decide +kernel
theorem mj_d_144_10 : decode mj_m_144.2.1 10 = .ok (.ireturn, 1) := by decide +kernel
theorem mj_d_145_0 : decode mj_m_145.2.1 0 = .ok (.iload_n 1, 1) := by decide +kernel
theorem mj_d_145_1 : decode mj_m_145.2.1 1 = .ok (.i2l, 1) := by decide +kernel
theorem mj_d_145_2 : decode mj_m_145.2.1 2 = .ok (.lconst 0, 1) := by decide +kernel
theorem mj_d_145_3 : decode mj_m_145.2.1 3 = .ok (.aload_n 0, 1) := by decide +kernel
theorem mj_d_145_4 : decode mj_m_145.2.1 4 = .ok (.getfield 83, 3) := by decide +kernel
theorem mj_d_145_7 : decode mj_m_145.2.1 7 = .ok (.iconst 1, 1) := by decide +kernel
theorem mj_d_145_8 : decode mj_m_145.2.1 8 = .ok (.isub, 1) := by decide +kernel
theorem mj_d_145_9 : decode mj_m_145.2.1 9 = .ok (.i2l, 1) := by decide +kernel
theorem mj_d_145_10 : decode mj_m_145.2.1 10 = .ok (.invokestatic 79, 3) := by decide +kernel
theorem mj_d_145_13 : decode mj_m_145.2.1 13 = .ok (.ireturn, 1) := by decide +kernel
theorem mj_d_146_0 : decode mj_m_146.2.1 0 = .ok (.iload_n 1, 1) := by decide +kernel
theorem mj_d_146_1 : decode mj_m_146.2.1 1 = .ok (.i2l, 1) := by decide +kernel
theorem mj_d_146_2 : decode mj_m_146.2.1 2 = .ok (.lconst 1, 1) := by decide +kernel
theorem mj_d_146_3 : decode mj_m_146.2.1 3 = .ok (.ldc2_w 202, 3) := by decide +kernel
theorem mj_d_146_6 : decode mj_m_146.2.1 6 = .ok (.invokestatic 79, 3) := by decide +kernel
theorem mj_d_146_9 : decode mj_m_146.2.1 9 = .ok (.ifCond .ne 6, 3) := by decide +kernel
theorem mj_d_146_12 : decode mj_m_146.2.1 12 = .ok (.ldc 88, 2) := by decide +kernel
theorem mj_d_146_14 : decode mj_m_146.2.1 14 = .ok (.ireturn, 1) := by decide +kernel
theorem mj_d_146_15 : decode mj_m_146.2.1 15 = .ok (.aload_n 0, 1) := by decide +kernel
theorem mj_d_146_16 : decode mj_m_146.2.1 16 = .ok (.getfield 72, 3) := by decide +kernel
theorem mj_d_146_19 : decode mj_m_146.2.1 19 = .ok (.ifCond .ne 6, 3) := by decide +kernel
theorem mj_d_146_22 : decode mj_m_146.2.1 22 = .ok (.ldc 204, 2) := by decide +kernel
theorem mj_d_146_24 : decode mj_m_146.2.1 24 = .ok (.ireturn, 1) := by decide +kernel
theorem mj_d_152_0 : decode mj_m_152.2.1 0 = .ok (.aload_n 0, 1) := by decide +kernel
theorem mj_d_152_1 : decode mj_m_152.2.1 1 = .ok (.iload_n 1, 1) := by decide +kernel
theorem mj_d_152_2 : decode mj_m_152.2.1 2 = .ok (.invokevirtual 174, 3) := by decide +kernel
theorem mj_d_152_5 : decode mj_m_152.2.1 5 = .ok (.ifCond .ne 6, 3) := by decide +kernel
theorem mj_d_152_8 : decode mj_m_152.2.1 8 = .ok (.ldc 177, 2) := by decide +kernel
theorem mj_d_152_10 : decode mj_m_152.2.1 10 = .ok (.ireturn, 1) := by decide +kernel
theorem mj_d_155_0 : decode mj_m_155.2.1 0 = .ok (.aload_n 0, 1) := by decide +kernel
theorem mj_d_155_1 : decode mj_m_155.2.1 1 = .ok (.iload_n 1, 1) := by decide +kernel
theorem mj_d_155_2 : decode mj_m_155.2.1 2 = .ok (.invokevirtual 174, 3) := by decide +kernel
theorem mj_d_155_5 : decode mj_m_155.2.1 5 = .ok (.ifCond .ne 6, 3) := by decide +kernel
theorem mj_d_155_8 : decode mj_m_155.2.1 8 = .ok (.ldc 177, 2) := by decide +kernel
theorem mj_d_155_10 : decode mj_m_155.2.1 10 = .ok (.ireturn, 1) := by decide +kernel
theorem mj_d_156_0 : decode mj_m_156.2.1 0 = .ok (.aload_n 0, 1) := by decide +kernel
theorem mj_d_156_1 : decode mj_m_156.2.1 1 = .ok (.iload_n 1, 1) := by decide +kernel
theorem mj_d_156_2 : decode mj_m_156.2.1 2 = .ok (.invokevirtual 174, 3) := by decide +kernel
theorem mj_d_156_5 : decode mj_m_156.2.1 5 = .ok (.ifCond .eq 18, 3) := by decide +kernel
theorem mj_d_156_23 : decode mj_m_156.2.1 23 = .ok (.ldc 177, 2) := by decide +kernel
theorem mj_d_156_25 : decode mj_m_156.2.1 25 = .ok (.ireturn, 1) := by decide +kernel
theorem mj_d_157_0 : decode mj_m_157.2.1 0 = .ok (.aload_n 0, 1) := by decide +kernel
theorem mj_d_157_1 : decode mj_m_157.2.1 1 = .ok (.iload_n 1, 1) := by decide +kernel
theorem mj_d_157_2 : decode mj_m_157.2.1 2 = .ok (.iload_n 3, 1) := by decide +kernel
theorem mj_d_157_3 : decode mj_m_157.2.1 3 = .ok (.invokevirtual 220, 3) := by decide +kernel
theorem mj_d_157_6 : decode mj_m_157.2.1 6 = .ok (.ifCond .eq 20, 3) := by decide +kernel
theorem mj_d_157_26 : decode mj_m_157.2.1 26 = .ok (.ldc 177, 2) := by decide +kernel
theorem mj_d_157_28 : decode mj_m_157.2.1 28 = .ok (.ireturn, 1) := by decide +kernel
theorem mj_d_158_0 : decode mj_m_158.2.1 0 = .ok (.aload_n 0, 1) := by decide +kernel
theorem mj_d_158_1 : decode mj_m_158.2.1 1 = .ok (.iload_n 1, 1) := by decide +kernel
theorem mj_d_158_2 : decode mj_m_158.2.1 2 = .ok (.invokevirtual 187, 3) := by decide +kernel
theorem mj_d_158_5 : decode mj_m_158.2.1 5 = .ok (.ifCond .eq 20, 3) := by decide +kernel
theorem mj_d_158_25 : decode mj_m_158.2.1 25 = .ok (.iconst 0, 1) := by decide +kernel
theorem mj_d_158_26 : decode mj_m_158.2.1 26 = .ok (.ireturn, 1) := by decide +kernel
theorem mj_d_161_0 : decode mj_m_161.2.1 0 = .ok (.aload_n 0, 1) := by decide +kernel
theorem mj_d_161_1 : decode mj_m_161.2.1 1 = .ok (.iload_n 1, 1) := by decide +kernel
theorem mj_d_161_2 : decode mj_m_161.2.1 2 = .ok (.iload_n 2, 1) := by decide +kernel
theorem mj_d_161_3 : decode mj_m_161.2.1 3 = .ok (.invokevirtual 220, 3) := by decide +kernel
theorem mj_d_161_6 : decode mj_m_161.2.1 6 = .ok (.ifCond .eq 11, 3) := by decide +kernel
theorem mj_d_161_17 : decode mj_m_161.2.1 17 = .ok (.ldc 177, 2) := by decide +kernel
theorem mj_d_161_19 : decode mj_m_161.2.1 19 = .ok (.ireturn, 1) := by decide +kernel
theorem mj_d_162_0 : decode mj_m_162.2.1 0 = .ok (.iload_n 1, 1) := by decide +kernel
theorem mj_d_162_1 : decode mj_m_162.2.1 1 = .ok (.i2l, 1) := by decide +kernel
theorem mj_d_162_2 : decode mj_m_162.2.1 2 = .ok (.lconst 1, 1) := by decide +kernel
theorem mj_d_162_3 : decode mj_m_162.2.1 3 = .ok (.ldc2_w 202, 3) := by decide +kernel
theorem mj_d_162_6 : decode mj_m_162.2.1 6 = .ok (.invokestatic 79, 3) := by decide +kernel
theorem mj_d_162_9 : decode mj_m_162.2.1 9 = .ok (.ifCond .ne 6, 3) := by decide +kernel
theorem mj_d_162_12 : decode mj_m_162.2.1 12 = .ok (.ldc 88, 2) := by decide +kernel
theorem mj_d_162_14 : decode mj_m_162.2.1 14 = .ok (.ireturn, 1) := by decide +kernel
theorem mj_d_162_15 : decode mj_m_162.2.1 15 = .ok (.aload_n 0, 1) := by decide +kernel
theorem mj_d_162_16 : decode mj_m_162.2.1 16 = .ok (.getfield 72, 3) := by decide +kernel
theorem mj_d_162_19 : decode mj_m_162.2.1 19 = .ok (.ifCond .ne 6, 3) := by decide +kernel
theorem mj_d_162_22 : decode mj_m_162.2.1 22 = .ok (.ldc 204, 2) := by decide +kernel
theorem mj_d_162_24 : decode mj_m_162.2.1 24 = .ok (.ireturn, 1) := by decide +kernel
theorem mj_d_164_0 : decode mj_m_164.2.1 0 = .ok (.iload_n 1, 1) := by decide +kernel
theorem mj_d_164_1 : decode mj_m_164.2.1 1 = .ok (.i2l, 1) := by decide +kernel
theorem mj_d_164_2 : decode mj_m_164.2.1 2 = .ok (.lconst 1, 1) := by decide +kernel
theorem mj_d_164_3 : decode mj_m_164.2.1 3 = .ok (.ldc2_w 202, 3) := by decide +kernel
theorem mj_d_164_6 : decode mj_m_164.2.1 6 = .ok (.invokestatic 79, 3) := by decide +kernel
theorem mj_d_164_9 : decode mj_m_164.2.1 9 = .ok (.ifCond .ne 6, 3) := by decide +kernel
theorem mj_d_164_12 : decode mj_m_164.2.1 12 = .ok (.ldc 88, 2) := by decide +kernel
theorem mj_d_164_14 : decode mj_m_164.2.1 14 = .ok (.ireturn, 1) := by decide +kernel
theorem mj_d_164_15 : decode mj_m_164.2.1 15 = .ok (.iload_n 1, 1) := by decide +kernel
theorem mj_d_164_16 : decode mj_m_164.2.1 16 = .ok (.aload_n 0, 1) := by decide +kernel
theorem mj_d_164_17 : decode mj_m_164.2.1 17 = .ok (.getfield 168, 3) := by decide +kernel
theorem mj_d_164_20 : decode mj_m_164.2.1 20 = .ok (.if_icmp .le 6, 3) := by decide +kernel
theorem mj_d_164_23 : decode mj_m_164.2.1 23 = .ok (.ldc 204, 2) := by decide +kernel
theorem mj_d_164_25 : decode mj_m_164.2.1 25 = .ok (.ireturn, 1) := by decide +kernel
theorem mj_d_165_0 : decode mj_m_165.2.1 0 = .ok (.aload_n 0, 1) := by decide +kernel
theorem mj_d_165_1 : decode mj_m_165.2.1 1 = .ok (.iload_n 1, 1) := by decide +kernel
theorem mj_d_165_2 : decode mj_m_165.2.1 2 = .ok (.invokevirtual 174, 3) := by decide +kernel
theorem mj_d_165_5 : decode mj_m_165.2.1 5 = .ok (.ifCond .ne 6, 3) := by decide +kernel
theorem mj_d_165_8 : decode mj_m_165.2.1 8 = .ok (.ldc 177, 2) := by decide +kernel
theorem mj_d_165_10 : decode mj_m_165.2.1 10 = .ok (.ireturn, 1) := by decide +kernel
theorem mj_d_167_0 : decode mj_m_167.2.1 0 = .ok (.aload_n 0, 1) := by decide +kernel
theorem mj_d_167_1 : decode mj_m_167.2.1 1 = .ok (.iload_n 1, 1) := by decide +kernel
theorem mj_d_167_2 : decode mj_m_167.2.1 2 = .ok (.invokevirtual 174, 3) := by decide +kernel
theorem mj_d_167_5 : decode mj_m_167.2.1 5 = .ok (.ifCond .ne 6, 3) := by decide +kernel
theorem mj_d_167_8 : decode mj_m_167.2.1 8 = .ok (.ldc 177, 2) := by decide +kernel
theorem mj_d_167_10 : decode mj_m_167.2.1 10 = .ok (.ireturn, 1) := by decide +kernel
theorem mj_d_168_0 : decode mj_m_168.2.1 0 = .ok (.aload_n 0, 1) := by decide +kernel
theorem mj_d_168_1 : decode mj_m_168.2.1 1 = .ok (.iload_n 1, 1) := by decide +kernel
theorem mj_d_168_2 : decode mj_m_168.2.1 2 = .ok (.invokevirtual 174, 3) := by decide +kernel
theorem mj_d_168_5 : decode mj_m_168.2.1 5 = .ok (.ifCond .ne 6, 3) := by decide +kernel
theorem mj_d_168_8 : decode mj_m_168.2.1 8 = .ok (.ldc 177, 2) := by decide +kernel
theorem mj_d_168_10 : decode mj_m_168.2.1 10 = .ok (.ireturn, 1) := by decide +kernel
theorem mj_d_172_0 : decode mj_m_172.2.1 0 = .ok (.aload_n 0, 1) := by decide +kernel
theorem mj_d_172_1 : decode mj_m_172.2.1 1 = .ok (.iload_n 1, 1) := by decide +kernel
theorem mj_d_172_2 : decode mj_m_172.2.1 2 = .ok (.invokevirtual 187, 3) := by decide +kernel
theorem mj_d_172_5 : decode mj_m_172.2.1 5 = .ok (.ifCond .eq 34, 3) := by decide +kernel
theorem mj_d_172_39 : decode mj_m_172.2.1 39 = .ok (.ldc 177, 2) := by decide +kernel
theorem mj_d_172_41 : decode mj_m_172.2.1 41 = .ok (.ireturn, 1) := by decide +kernel
theorem mj_d_175_0 : decode mj_m_175.2.1 0 = .ok (.iconst 0, 1) := by decide +kernel
theorem mj_d_175_1 : decode mj_m_175.2.1 1 = .ok (.istore_n 1, 1) := by decide +kernel
theorem mj_d_175_2 : decode mj_m_175.2.1 2 = .ok (.iconst 0, 1) := by decide +kernel
theorem mj_d_175_3 : decode mj_m_175.2.1 3 = .ok (.istore_n 2, 1) := by decide +kernel
theorem mj_d_175_4 : decode mj_m_175.2.1 4 = .ok (.iload_n 2, 1) := by decide +kernel
theorem mj_d_175_5 : decode mj_m_175.2.1 5 = .ok (.bipush 9, 2) := by decide +kernel
theorem mj_d_175_7 : decode mj_m_175.2.1 7 = .ok (.if_icmp .ge 17, 3) := by decide +kernel
theorem mj_d_175_10 : decode mj_m_175.2.1 10 = .ok (.iload_n 1, 1) := by decide +kernel
theorem mj_d_175_11 : decode mj_m_175.2.1 11 = .ok (.iload_n 0, 1) := by decide +kernel
theorem mj_d_175_12 : decode mj_m_175.2.1 12 = .ok (.iload_n 2, 1) := by decide +kernel
theorem mj_d_175_13 : decode mj_m_175.2.1 13 = .ok (.ishr, 1) := by decide +kernel
theorem mj_d_175_14 : decode mj_m_175.2.1 14 = .ok (.iconst 1, 1) := by decide +kernel
theorem mj_d_175_15 : decode mj_m_175.2.1 15 = .ok (.iand, 1) := by decide +kernel
theorem mj_d_175_16 : decode mj_m_175.2.1 16 = .ok (.iadd, 1) := by decide +kernel
theorem mj_d_175_17 : decode mj_m_175.2.1 17 = .ok (.istore_n 1, 1) := by decide +kernel
theorem mj_d_175_18 : decode mj_m_175.2.1 18 = .ok (.iinc 2 1, 3) := by decide +kernel
theorem mj_d_175_21 : decode mj_m_175.2.1 21 = .ok (.goto (-17), 3) := by decide +kernel
theorem mj_d_175_24 : decode mj_m_175.2.1 24 = .ok (.iload_n 1, 1) := by decide +kernel
theorem mj_d_175_25 : decode mj_m_175.2.1 25 = .ok (.ireturn, 1) := by decide +kernel
theorem mj_d_176_0 : decode mj_m_176.2.1 0 = .ok (.aload_n 0, 1) := by decide +kernel
theorem mj_d_176_1 : decode mj_m_176.2.1 1 = .ok (.getfield 83, 3) := by decide +kernel
theorem mj_d_176_4 : decode mj_m_176.2.1 4 = .ok (.istore_n 2, 1) := by decide +kernel
theorem mj_d_176_5 : decode mj_m_176.2.1 5 = .ok (.iconst 2, 1) := by decide +kernel
theorem mj_d_176_6 : decode mj_m_176.2.1 6 = .ok (.istore_n 3, 1) := by decide +kernel
theorem mj_d_176_7 : decode mj_m_176.2.1 7 = .ok (.iload_n 3, 1) := by decide +kernel
theorem mj_d_176_8 : decode mj_m_176.2.1 8 = .ok (.aload_n 0, 1) := by decide +kernel
theorem mj_d_176_9 : decode mj_m_176.2.1 9 = .ok (.getfield 83, 3) := by decide +kernel
theorem mj_d_176_12 : decode mj_m_176.2.1 12 = .ok (.if_icmp .gt 74, 3) := by decide +kernel
theorem mj_d_176_86 : decode mj_m_176.2.1 86 = .ok (.iconst (-1), 1) := by decide +kernel
theorem mj_d_176_87 : decode mj_m_176.2.1 87 = .ok (.ireturn, 1) := by decide +kernel
theorem mj_d_179_0 : decode mj_m_179.2.1 0 = .ok (.iload_n 1, 1) := by decide +kernel
theorem mj_d_179_1 : decode mj_m_179.2.1 1 = .ok (.i2l, 1) := by decide +kernel
theorem mj_d_179_2 : decode mj_m_179.2.1 2 = .ok (.lconst 1, 1) := by decide +kernel
theorem mj_d_179_3 : decode mj_m_179.2.1 3 = .ok (.ldc2_w 181, 3) := by decide +kernel
theorem mj_d_179_6 : decode mj_m_179.2.1 6 = .ok (.invokestatic 79, 3) := by decide +kernel
theorem mj_d_179_9 : decode mj_m_179.2.1 9 = .ok (.ifCond .eq 13, 3) := by decide +kernel
theorem mj_d_179_12 : decode mj_m_179.2.1 12 = .ok (.iload_n 2, 1) := by decide +kernel
theorem mj_d_179_13 : decode mj_m_179.2.1 13 = .ok (.i2l, 1) := by decide +kernel
theorem mj_d_179_14 : decode mj_m_179.2.1 14 = .ok (.lconst 0, 1) := by decide +kernel
theorem mj_d_179_15 : decode mj_m_179.2.1 15 = .ok (.lconst 1, 1) := by decide +kernel
theorem mj_d_179_16 : decode mj_m_179.2.1 16 = .ok (.invokestatic 79, 3) := by decide +kernel
theorem mj_d_179_19 : decode mj_m_179.2.1 19 = .ok (.ifCond .ne 6, 3) := by decide +kernel
theorem mj_d_179_22 : decode mj_m_179.2.1 22 = .ok (.ldc 88, 2) := by decide +kernel
theorem mj_d_179_24 : decode mj_m_179.2.1 24 = .ok (.ireturn, 1) := by decide +kernel
theorem mj_d_179_25 : decode mj_m_179.2.1 25 = .ok (.iconst 0, 1) := by decide +kernel
theorem mj_d_179_26 : decode mj_m_179.2.1 26 = .ok (.istore_n 3, 1) := by decide +kernel
theorem mj_d_179_27 : decode mj_m_179.2.1 27 = .ok (.iconst (-1), 1) := by decide +kernel
theorem mj_d_179_28 : decode mj_m_179.2.1 28 = .ok (.istore 4, 2) := by decide +kernel
theorem mj_d_179_30 : decode mj_m_179.2.1 30 = .ok (.iconst 0, 1) := by decide +kernel
theorem mj_d_179_31 : decode mj_m_179.2.1 31 = .ok (.istore 5, 2) := by decide +kernel
theorem mj_d_179_33 : decode mj_m_179.2.1 33 = .ok (.iconst 0, 1) := by decide +kernel
theorem mj_d_179_34 : decode mj_m_179.2.1 34 = .ok (.istore 6, 2) := by decide +kernel
theorem mj_d_179_36 : decode mj_m_179.2.1 36 = .ok (.iload 6, 2) := by decide +kernel
theorem mj_d_179_38 : decode mj_m_179.2.1 38 = .ok (.aload_n 0, 1) := by decide +kernel
theorem mj_d_179_39 : decode mj_m_179.2.1 39 = .ok (.getfield 76, 3) := by decide +kernel
theorem mj_d_179_42 : decode mj_m_179.2.1 42 = .ok (.if_icmp .ge 126, 3) := by decide +kernel
theorem mj_d_179_168 : decode mj_m_179.2.1 168 = .ok (.iload_n 2, 1) := by decide +kernel
theorem mj_d_179_169 : decode mj_m_179.2.1 169 = .ok (.ifCond .ne 7, 3) := by decide +kernel
theorem mj_d_179_172 : decode mj_m_179.2.1 172 = .ok (.iload_n 3, 1) := by decide +kernel
theorem mj_d_179_173 : decode mj_m_179.2.1 173 = .ok (.goto 5, 3) := by decide +kernel
theorem mj_d_179_176 : decode mj_m_179.2.1 176 = .ok (.iload 4, 2) := by decide +kernel
theorem mj_d_179_178 : decode mj_m_179.2.1 178 = .ok (.ireturn, 1) := by decide +kernel
theorem mj_d_181_0 : decode mj_m_181.2.1 0 = .ok (.aload_n 0, 1) := by decide +kernel
theorem mj_d_181_1 : decode mj_m_181.2.1 1 = .ok (.iload_n 1, 1) := by decide +kernel
theorem mj_d_181_2 : decode mj_m_181.2.1 2 = .ok (.invokevirtual 174, 3) := by decide +kernel
theorem mj_d_181_5 : decode mj_m_181.2.1 5 = .ok (.ifCond .ne 6, 3) := by decide +kernel
theorem mj_d_181_8 : decode mj_m_181.2.1 8 = .ok (.ldc 177, 2) := by decide +kernel
theorem mj_d_181_10 : decode mj_m_181.2.1 10 = .ok (.ireturn, 1) := by decide +kernel
theorem mj_d_182_0 : decode mj_m_182.2.1 0 = .ok (.iload_n 1, 1) := by decide +kernel
theorem mj_d_182_1 : decode mj_m_182.2.1 1 = .ok (.i2l, 1) := by decide +kernel
theorem mj_d_182_2 : decode mj_m_182.2.1 2 = .ok (.lconst 1, 1) := by decide +kernel
theorem mj_d_182_3 : decode mj_m_182.2.1 3 = .ok (.ldc2_w 181, 3) := by decide +kernel
theorem mj_d_182_6 : decode mj_m_182.2.1 6 = .ok (.invokestatic 79, 3) := by decide +kernel
theorem mj_d_182_9 : decode mj_m_182.2.1 9 = .ok (.ifCond .eq 13, 3) := by decide +kernel
theorem mj_d_182_12 : decode mj_m_182.2.1 12 = .ok (.iload_n 2, 1) := by decide +kernel
theorem mj_d_182_13 : decode mj_m_182.2.1 13 = .ok (.i2l, 1) := by decide +kernel
theorem mj_d_182_14 : decode mj_m_182.2.1 14 = .ok (.lconst 0, 1) := by decide +kernel
theorem mj_d_182_15 : decode mj_m_182.2.1 15 = .ok (.lconst 1, 1) := by decide +kernel
theorem mj_d_182_16 : decode mj_m_182.2.1 16 = .ok (.invokestatic 79, 3) := by decide +kernel
theorem mj_d_182_19 : decode mj_m_182.2.1 19 = .ok (.ifCond .ne 6, 3) := by decide +kernel
theorem mj_d_182_22 : decode mj_m_182.2.1 22 = .ok (.ldc 88, 2) := by decide +kernel
theorem mj_d_182_24 : decode mj_m_182.2.1 24 = .ok (.ireturn, 1) := by decide +kernel
theorem mj_d_182_25 : decode mj_m_182.2.1 25 = .ok (.iconst 0, 1) := by decide +kernel
theorem mj_d_182_26 : decode mj_m_182.2.1 26 = .ok (.istore_n 3, 1) := by decide +kernel
theorem mj_d_182_27 : decode mj_m_182.2.1 27 = .ok (.iconst 0, 1) := by decide +kernel
theorem mj_d_182_28 : decode mj_m_182.2.1 28 = .ok (.istore 4, 2) := by decide +kernel
theorem mj_d_182_30 : decode mj_m_182.2.1 30 = .ok (.iload 4, 2) := by decide +kernel
theorem mj_d_182_32 : decode mj_m_182.2.1 32 = .ok (.aload_n 0, 1) := by decide +kernel
theorem mj_d_182_33 : decode mj_m_182.2.1 33 = .ok (.getfield 76, 3) := by decide +kernel
theorem mj_d_182_36 : decode mj_m_182.2.1 36 = .ok (.if_icmp .ge 95, 3) := by decide +kernel
theorem mj_d_182_131 : decode mj_m_182.2.1 131 = .ok (.iload_n 2, 1) := by decide +kernel
theorem mj_d_182_132 : decode mj_m_182.2.1 132 = .ok (.ifCond .ne 5, 3) := by decide +kernel
theorem mj_d_182_135 : decode mj_m_182.2.1 135 = .ok (.iload_n 3, 1) := by decide +kernel
theorem mj_d_182_136 : decode mj_m_182.2.1 136 = .ok (.ireturn, 1) := by decide +kernel
theorem mj_d_182_137 : decode mj_m_182.2.1 137 = .ok (.iconst (-1), 1) := by decide +kernel
theorem mj_d_182_138 : decode mj_m_182.2.1 138 = .ok (.istore 4, 2) := by decide +kernel
theorem mj_d_182_140 : decode mj_m_182.2.1 140 = .ok (.iload_n 3, 1) := by decide +kernel
theorem mj_d_182_141 : decode mj_m_182.2.1 141 = .ok (.invokestatic 251, 3) := by decide +kernel
theorem mj_d_182_144 : decode mj_m_182.2.1 144 = .ok (.istore 5, 2) := by decide +kernel
theorem mj_d_182_146 : decode mj_m_182.2.1 146 = .ok (.iconst 0, 1) := by decide +kernel
theorem mj_d_182_147 : decode mj_m_182.2.1 147 = .ok (.istore 6, 2) := by decide +kernel
theorem mj_d_182_149 : decode mj_m_182.2.1 149 = .ok (.iload 6, 2) := by decide +kernel
theorem mj_d_182_151 : decode mj_m_182.2.1 151 = .ok (.aload_n 0, 1) := by decide +kernel
theorem mj_d_182_152 : decode mj_m_182.2.1 152 = .ok (.getfield 76, 3) := by decide +kernel
theorem mj_d_182_155 : decode mj_m_182.2.1 155 = .ok (.if_icmp .ge 120, 3) := by decide +kernel
theorem mj_d_182_275 : decode mj_m_182.2.1 275 = .ok (.iload 4, 2) := by decide +kernel
theorem mj_d_182_277 : decode mj_m_182.2.1 277 = .ok (.ireturn, 1) := by decide +kernel
theorem mj_d_183_0 : decode mj_m_183.2.1 0 = .ok (.aload_n 0, 1) := by decide +kernel
theorem mj_d_183_1 : decode mj_m_183.2.1 1 = .ok (.iload_n 1, 1) := by decide +kernel
theorem mj_d_183_2 : decode mj_m_183.2.1 2 = .ok (.invokevirtual 174, 3) := by decide +kernel
theorem mj_d_183_5 : decode mj_m_183.2.1 5 = .ok (.ifCond .ne 6, 3) := by decide +kernel
theorem mj_d_183_8 : decode mj_m_183.2.1 8 = .ok (.ldc 177, 2) := by decide +kernel
theorem mj_d_183_10 : decode mj_m_183.2.1 10 = .ok (.ireturn, 1) := by decide +kernel
theorem mj_d_186_0 : decode mj_m_186.2.1 0 = .ok (.iload_n 1, 1) := by decide +kernel
theorem mj_d_186_1 : decode mj_m_186.2.1 1 = .ok (.ifCond .ge 6, 3) := by decide +kernel
theorem mj_d_186_4 : decode mj_m_186.2.1 4 = .ok (.ldc 88, 2) := by decide +kernel
theorem mj_d_186_6 : decode mj_m_186.2.1 6 = .ok (.ireturn, 1) := by decide +kernel
theorem mj_d_186_7 : decode mj_m_186.2.1 7 = .ok (.aload_n 0, 1) := by decide +kernel
theorem mj_d_186_8 : decode mj_m_186.2.1 8 = .ok (.getfield 7, 3) := by decide +kernel
theorem mj_d_186_11 : decode mj_m_186.2.1 11 = .ok (.bipush 111, 2) := by decide +kernel
theorem mj_d_186_13 : decode mj_m_186.2.1 13 = .ok (.iaload, 1) := by decide +kernel
theorem mj_d_186_14 : decode mj_m_186.2.1 14 = .ok (.istore_n 2, 1) := by decide +kernel
theorem mj_d_186_15 : decode mj_m_186.2.1 15 = .ok (.aload_n 0, 1) := by decide +kernel
theorem mj_d_186_16 : decode mj_m_186.2.1 16 = .ok (.getfield 7, 3) := by decide +kernel
theorem mj_d_186_19 : decode mj_m_186.2.1 19 = .ok (.bipush 111, 2) := by decide +kernel
theorem mj_d_186_21 : decode mj_m_186.2.1 21 = .ok (.iload_n 1, 1) := by decide +kernel
theorem mj_d_186_22 : decode mj_m_186.2.1 22 = .ok (.iastore, 1) := by decide +kernel
theorem mj_d_186_23 : decode mj_m_186.2.1 23 = .ok (.iload_n 2, 1) := by decide +kernel
theorem mj_d_186_24 : decode mj_m_186.2.1 24 = .ok (.ireturn, 1) := by decide +kernel
theorem mj_d_187_0 : decode mj_m_187.2.1 0 = .ok (.iload_n 1, 1) := by decide +kernel
theorem mj_d_187_1 : decode mj_m_187.2.1 1 = .ok (.i2l, 1) := by decide +kernel
theorem mj_d_187_2 : decode mj_m_187.2.1 2 = .ok (.lconst 0, 1) := by decide +kernel
theorem mj_d_187_3 : decode mj_m_187.2.1 3 = .ok (.lconst 1, 1) := by decide +kernel
theorem mj_d_187_4 : decode mj_m_187.2.1 4 = .ok (.invokestatic 79, 3) := by decide +kernel
theorem mj_d_187_7 : decode mj_m_187.2.1 7 = .ok (.ifCond .ne 6, 3) := by decide +kernel
theorem mj_d_187_10 : decode mj_m_187.2.1 10 = .ok (.ldc 177, 2) := by decide +kernel
theorem mj_d_187_12 : decode mj_m_187.2.1 12 = .ok (.ireturn, 1) := by decide +kernel
theorem mj_d_188_0 : decode mj_m_188.2.1 0 = .ok (.iload_n 1, 1) := by decide +kernel
theorem mj_d_188_1 : decode mj_m_188.2.1 1 = .ok (.i2l, 1) := by decide +kernel
theorem mj_d_188_2 : decode mj_m_188.2.1 2 = .ok (.lconst 0, 1) := by decide +kernel
theorem mj_d_188_3 : decode mj_m_188.2.1 3 = .ok (.lconst 1, 1) := by decide +kernel
theorem mj_d_188_4 : decode mj_m_188.2.1 4 = .ok (.invokestatic 79, 3) := by decide +kernel
theorem mj_d_188_7 : decode mj_m_188.2.1 7 = .ok (.ifCond .ne 6, 3) := by decide +kernel
theorem mj_d_188_10 : decode mj_m_188.2.1 10 = .ok (.ldc 177, 2) := by decide +kernel
theorem mj_d_188_12 : decode mj_m_188.2.1 12 = .ok (.ireturn, 1) := by decide +kernel
