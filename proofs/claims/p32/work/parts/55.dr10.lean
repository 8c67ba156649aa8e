theorem gG_minds {h h1 : mj_H} (hH : sy_H h) {x : sg_S} (ex : sy_rd h = x) (e : sy_rd h1 = dc_R_minds x) (hg : sy_rd h 234 6 ≤ 0 ∨ sy_rd h 235 11 = -1) : sy_rd h1 234 6 ≤ 0 ∨ sy_rd h1 235 11 = -1 := by
  have := hH.bd (a := 234) (k := 2) rfl (by decide) rfl
  rw [e, ← ex, dr_R_minds _ 234 6 rfl, rb_minds _ 11 (by decide) (by omega)]
  exact hg
theorem gG_passes {h h1 : mj_H} (hH : sy_H h) {x : sg_S} (ex : sy_rd h = x) (e : sy_rd h1 = dc_R_passes x 0) (hg : sy_rd h 234 6 ≤ 0 ∨ sy_rd h 235 11 = -1) : sy_rd h1 234 6 ≤ 0 ∨ sy_rd h1 235 11 = -1 := by
  rw [e, ← ex, dr_R_passes _ 0 234 6 rfl, rb_passes _ 0 11 (by omega) (rb_of hH (by omega) (by omega) (by omega)) (by omega)]
  exact hg
theorem gG_draw {h h1 : mj_H} (_ : sy_H h) {x : sg_S} {n : Int} (ex : sy_rd h = x) (e : sy_rd h1 = (dc_R_draw x n).1) (hg : sy_rd h 234 6 ≤ 0 ∨ sy_rd h 235 11 = -1) : sy_rd h1 234 6 ≤ 0 ∨ sy_rd h1 235 11 = -1 := by
  rw [e, ← ex]
  unfold dc_R_draw
  dsimp only
  rw [sg_na (by decide), sg_nk (by decide)]
  exact hg
theorem gG_burns {h h1 : mj_H} (_ : sy_H h) {x : sg_S} {z v : Int} (ex : sy_rd h = x) (e : sy_rd h1 = sg_up x 235 z.toNat v) (q1 : 0 ≤ z) (q2 : z < 11) (hg : sy_rd h 234 6 ≤ 0 ∨ sy_rd h 235 11 = -1) : sy_rd h1 234 6 ≤ 0 ∨ sy_rd h1 235 11 = -1 := by
  rw [e, ← ex, sg_na (by decide), sg_nk (by omega)]
  exact hg
theorem rb_washes (k : Nat) (hk : (k : Int) < 20 ∨ 29 ≤ (k : Int)) (n : Nat) : ∀ (s : sg_S) (l1 l2 : Int), 0 ≤ l2 → s 234 6 ≤ 9 → (dc_R_washes_4 n s l1 l2).1 235 k = s 235 k := by
  induction n with
  | zero => intros; rfl
  | succ n ih =>
    intro s l1 l2 h1 h2
    rw [dc_R_washes_4_s]
    split
    · rfl
    · split
      · rw [ih _ _ _ (by omega) (by rw [sg_na (by decide)]; exact h2), sg_nk (by omega)]
      · rw [ih _ _ _ (by omega) (by rw [sg_na (by decide)]; exact h2), sg_nk (by omega)]
theorem gG_washes {h h1 : mj_H} (hH : sy_H h) {x : sg_S} (ex : sy_rd h = x) (e : sy_rd h1 = (dc_R_washes x).1) (hg : sy_rd h 234 6 ≤ 0 ∨ sy_rd h 235 11 = -1) : sy_rd h1 234 6 ≤ 0 ∨ sy_rd h1 235 11 = -1 := by
  have := hH.bd (a := 234) (k := 6) rfl (by decide) rfl
  rw [e, ← ex, dr_R_washes _ 234 6 rfl]
  unfold dc_R_washes
  rw [rb_washes 11 (by omega) _ _ _ _ (by omega) (by omega)]
  exact hg
theorem gT_copy {h h1 : mj_H} (e : sy_rd h1 = dc_R_copy (sy_rd h) 0 112) (hg : sy_rd h 234 6 ≤ 0 ∨ sy_rd h 235 11 = -1) : sy_rd h1 234 6 ≤ 0 ∨ sy_rd h1 235 123 = -1 := by
  have := rb_copy_in (sy_rd h) 0 112 11 (by omega) (by omega) (by omega) (by omega) (by omega)
  rw [e, dr_R_copy _ _ _ 234 6 rfl]
  rcases hg with q | q
  · exact Or.inl q
  · exact Or.inr (this.trans q)
theorem gT_many {h h1 : mj_H} {z v : Int} (e : sy_rd h1 = sg_up (sy_rd h) 235 z.toNat v) (q1 : 0 ≤ z) (q2 : 124 ≤ z) (hg : sy_rd h 234 6 ≤ 0 ∨ sy_rd h 235 123 = -1) : sy_rd h1 234 6 ≤ 0 ∨ sy_rd h1 235 123 = -1 := by
  rw [e, sg_na (by decide), sg_nk (by omega)]
  exact hg
theorem gT_burns {h h1 : mj_H} {z v : Int} (e : sy_rd h1 = sg_up (sy_rd h) 235 z.toNat v) (q1 : 0 ≤ z) (q2 : z < 123) (hg : sy_rd h 234 6 ≤ 0 ∨ sy_rd h 235 123 = -1) : sy_rd h1 234 6 ≤ 0 ∨ sy_rd h1 235 123 = -1 := by
  rw [e, sg_na (by decide), sg_nk (by omega)]
  exact hg
theorem gT_passes {h h1 : mj_H} (hH : sy_H h) {x : sg_S} (ex : sy_rd h = x) (e : sy_rd h1 = dc_R_passes x 112) (hg : sy_rd h 234 6 ≤ 0 ∨ sy_rd h 235 123 = -1) : sy_rd h1 234 6 ≤ 0 ∨ sy_rd h1 235 123 = -1 := by
  rw [e, ← ex, dr_R_passes _ 112 234 6 rfl, rb_passes _ 112 123 (by omega) (rb_of hH (by omega) (by omega) (by omega)) (by omega)]
  exact hg
def mj_m_147 : mj_M := (⟨"SootMapsModel", "month", "(I)I"⟩, prog_13_method_32_code, 3, (some .int), 10, 1, 1, 4, 92)
def mj_m_163 : mj_M := (⟨"SootMapsModel", "drift", "(I)I"⟩, prog_13_method_43_code, 4, (some .int), 10, 1, 1, 4, 92)
def mj_m_167 : mj_M := (⟨"SootMapsModel", "isSo", "(III)Z"⟩, prog_13_method_45_code, 6, (some .boolean), 10, 3, 1, 4, 92)
theorem mj_d_147_0 : decode mj_m_147.2.1 0 = .ok (.iload_n 1, 1) := by decide +kernel
theorem mj_d_147_1 : decode mj_m_147.2.1 1 = .ok (.i2l, 1) := by decide +kernel
theorem mj_d_147_2 : decode mj_m_147.2.1 2 = .ok (.lconst 1, 1) := by decide +kernel
theorem mj_d_147_3 : decode mj_m_147.2.1 3 = .ok (.ldc2_w 202, 3) := by decide +kernel
theorem mj_d_147_6 : decode mj_m_147.2.1 6 = .ok (.invokestatic 79, 3) := by decide +kernel
theorem mj_d_147_9 : decode mj_m_147.2.1 9 = .ok (.ifCond .ne 6, 3) := by decide +kernel
theorem mj_d_147_12 : decode mj_m_147.2.1 12 = .ok (.ldc 88, 2) := by decide +kernel
theorem mj_d_147_14 : decode mj_m_147.2.1 14 = .ok (.ireturn, 1) := by decide +kernel
theorem mj_d_147_15 : decode mj_m_147.2.1 15 = .ok (.aload_n 0, 1) := by decide +kernel
theorem mj_d_147_16 : decode mj_m_147.2.1 16 = .ok (.getfield 72, 3) := by decide +kernel
theorem mj_d_147_19 : decode mj_m_147.2.1 19 = .ok (.ifCond .ne 6, 3) := by decide +kernel
theorem mj_d_147_22 : decode mj_m_147.2.1 22 = .ok (.ldc 204, 2) := by decide +kernel
theorem mj_d_147_24 : decode mj_m_147.2.1 24 = .ok (.ireturn, 1) := by decide +kernel
theorem mj_d_147_25 : decode mj_m_147.2.1 25 = .ok (.aload_n 0, 1) := by decide +kernel
theorem mj_d_147_26 : decode mj_m_147.2.1 26 = .ok (.getfield 7, 3) := by decide +kernel
theorem mj_d_147_29 : decode mj_m_147.2.1 29 = .ok (.iconst 0, 1) := by decide +kernel
theorem mj_d_147_30 : decode mj_m_147.2.1 30 = .ok (.iaload, 1) := by decide +kernel
theorem mj_d_147_31 : decode mj_m_147.2.1 31 = .ok (.sipush 9000, 3) := by decide +kernel
theorem mj_d_147_34 : decode mj_m_147.2.1 34 = .ok (.if_icmp .le 6, 3) := by decide +kernel
theorem mj_d_147_37 : decode mj_m_147.2.1 37 = .ok (.ldc 92, 2) := by decide +kernel
theorem mj_d_147_39 : decode mj_m_147.2.1 39 = .ok (.ireturn, 1) := by decide +kernel
theorem mj_d_147_40 : decode mj_m_147.2.1 40 = .ok (.iconst 0, 1) := by decide +kernel
theorem mj_d_147_41 : decode mj_m_147.2.1 41 = .ok (.istore_n 2, 1) := by decide +kernel
theorem mj_d_147_42 : decode mj_m_147.2.1 42 = .ok (.iload_n 2, 1) := by decide +kernel
theorem mj_d_147_43 : decode mj_m_147.2.1 43 = .ok (.iload_n 1, 1) := by decide +kernel
theorem mj_d_147_44 : decode mj_m_147.2.1 44 = .ok (.if_icmp .ge 18, 3) := by decide +kernel
theorem mj_d_147_47 : decode mj_m_147.2.1 47 = .ok (.aload_n 0, 1) := by decide +kernel
theorem mj_d_147_48 : decode mj_m_147.2.1 48 = .ok (.invokevirtual 205, 3) := by decide +kernel
theorem mj_d_147_51 : decode mj_m_147.2.1 51 = .ok (.aload_n 0, 1) := by decide +kernel
theorem mj_d_147_52 : decode mj_m_147.2.1 52 = .ok (.iconst 0, 1) := by decide +kernel
theorem mj_d_147_53 : decode mj_m_147.2.1 53 = .ok (.invokevirtual 208, 3) := by decide +kernel
theorem mj_d_147_56 : decode mj_m_147.2.1 56 = .ok (.iinc 2 1, 3) := by decide +kernel
theorem mj_d_147_59 : decode mj_m_147.2.1 59 = .ok (.goto (-17), 3) := by decide +kernel
theorem mj_d_147_62 : decode mj_m_147.2.1 62 = .ok (.aload_n 0, 1) := by decide +kernel
theorem mj_d_147_63 : decode mj_m_147.2.1 63 = .ok (.invokevirtual 171, 3) := by decide +kernel
theorem mj_d_147_66 : decode mj_m_147.2.1 66 = .ok (.ireturn, 1) := by decide +kernel
theorem mj_d_163_0 : decode mj_m_163.2.1 0 = .ok (.iload_n 1, 1) := by decide +kernel
theorem mj_d_163_1 : decode mj_m_163.2.1 1 = .ok (.i2l, 1) := by decide +kernel
theorem mj_d_163_2 : decode mj_m_163.2.1 2 = .ok (.lconst 1, 1) := by decide +kernel
theorem mj_d_163_3 : decode mj_m_163.2.1 3 = .ok (.ldc2_w 202, 3) := by decide +kernel
theorem mj_d_163_6 : decode mj_m_163.2.1 6 = .ok (.invokestatic 79, 3) := by decide +kernel
theorem mj_d_163_9 : decode mj_m_163.2.1 9 = .ok (.ifCond .ne 6, 3) := by decide +kernel
theorem mj_d_163_12 : decode mj_m_163.2.1 12 = .ok (.ldc 88, 2) := by decide +kernel
theorem mj_d_163_14 : decode mj_m_163.2.1 14 = .ok (.ireturn, 1) := by decide +kernel
theorem mj_d_163_15 : decode mj_m_163.2.1 15 = .ok (.aload_n 0, 1) := by decide +kernel
theorem mj_d_163_16 : decode mj_m_163.2.1 16 = .ok (.getfield 72, 3) := by decide +kernel
theorem mj_d_163_19 : decode mj_m_163.2.1 19 = .ok (.ifCond .ne 6, 3) := by decide +kernel
theorem mj_d_163_22 : decode mj_m_163.2.1 22 = .ok (.ldc 204, 2) := by decide +kernel
theorem mj_d_163_24 : decode mj_m_163.2.1 24 = .ok (.ireturn, 1) := by decide +kernel
theorem mj_d_163_25 : decode mj_m_163.2.1 25 = .ok (.aload_n 0, 1) := by decide +kernel
theorem mj_d_163_26 : decode mj_m_163.2.1 26 = .ok (.getfield 7, 3) := by decide +kernel
theorem mj_d_163_29 : decode mj_m_163.2.1 29 = .ok (.iconst 0, 1) := by decide +kernel
theorem mj_d_163_30 : decode mj_m_163.2.1 30 = .ok (.iaload, 1) := by decide +kernel
theorem mj_d_163_31 : decode mj_m_163.2.1 31 = .ok (.sipush 9000, 3) := by decide +kernel
theorem mj_d_163_34 : decode mj_m_163.2.1 34 = .ok (.if_icmp .le 6, 3) := by decide +kernel
theorem mj_d_163_37 : decode mj_m_163.2.1 37 = .ok (.ldc 92, 2) := by decide +kernel
theorem mj_d_163_39 : decode mj_m_163.2.1 39 = .ok (.ireturn, 1) := by decide +kernel
theorem mj_d_163_40 : decode mj_m_163.2.1 40 = .ok (.iconst 0, 1) := by decide +kernel
theorem mj_d_163_41 : decode mj_m_163.2.1 41 = .ok (.istore_n 2, 1) := by decide +kernel
theorem mj_d_163_42 : decode mj_m_163.2.1 42 = .ok (.iload_n 2, 1) := by decide +kernel
theorem mj_d_163_43 : decode mj_m_163.2.1 43 = .ok (.iload_n 1, 1) := by decide +kernel
theorem mj_d_163_44 : decode mj_m_163.2.1 44 = .ok (.if_icmp .ge 61, 3) := by decide +kernel
theorem mj_d_163_47 : decode mj_m_163.2.1 47 = .ok (.aload_n 0, 1) := by decide +kernel
theorem mj_d_163_48 : decode mj_m_163.2.1 48 = .ok (.invokevirtual 205, 3) := by decide +kernel
theorem mj_d_163_51 : decode mj_m_163.2.1 51 = .ok (.aload_n 0, 1) := by decide +kernel
theorem mj_d_163_52 : decode mj_m_163.2.1 52 = .ok (.getfield 76, 3) := by decide +kernel
theorem mj_d_163_55 : decode mj_m_163.2.1 55 = .ok (.ifCond .le 26, 3) := by decide +kernel
theorem mj_d_163_58 : decode mj_m_163.2.1 58 = .ok (.aload_n 0, 1) := by decide +kernel
theorem mj_d_163_59 : decode mj_m_163.2.1 59 = .ok (.aload_n 0, 1) := by decide +kernel
theorem mj_d_163_60 : decode mj_m_163.2.1 60 = .ok (.getfield 76, 3) := by decide +kernel
theorem mj_d_163_63 : decode mj_m_163.2.1 63 = .ok (.invokevirtual 233, 3) := by decide +kernel
theorem mj_d_163_66 : decode mj_m_163.2.1 66 = .ok (.istore_n 3, 1) := by decide +kernel
theorem mj_d_163_67 : decode mj_m_163.2.1 67 = .ok (.aload_n 0, 1) := by decide +kernel
theorem mj_d_163_68 : decode mj_m_163.2.1 68 = .ok (.getfield 7, 3) := by decide +kernel
theorem mj_d_163_71 : decode mj_m_163.2.1 71 = .ok (.iconst 2, 1) := by decide +kernel
theorem mj_d_163_72 : decode mj_m_163.2.1 72 = .ok (.iload_n 3, 1) := by decide +kernel
theorem mj_d_163_73 : decode mj_m_163.2.1 73 = .ok (.iadd, 1) := by decide +kernel
theorem mj_d_163_74 : decode mj_m_163.2.1 74 = .ok (.aload_n 0, 1) := by decide +kernel
theorem mj_d_163_75 : decode mj_m_163.2.1 75 = .ok (.bipush 8, 2) := by decide +kernel
theorem mj_d_163_77 : decode mj_m_163.2.1 77 = .ok (.invokevirtual 233, 3) := by decide +kernel
theorem mj_d_163_80 : decode mj_m_163.2.1 80 = .ok (.iastore, 1) := by decide +kernel
theorem mj_d_163_81 : decode mj_m_163.2.1 81 = .ok (.aload_n 0, 1) := by decide +kernel
theorem mj_d_163_82 : decode mj_m_163.2.1 82 = .ok (.iconst 0, 1) := by decide +kernel
theorem mj_d_163_83 : decode mj_m_163.2.1 83 = .ok (.invokevirtual 208, 3) := by decide +kernel
theorem mj_d_163_86 : decode mj_m_163.2.1 86 = .ok (.aload_n 0, 1) := by decide +kernel
theorem mj_d_163_87 : decode mj_m_163.2.1 87 = .ok (.iconst 4, 1) := by decide +kernel
theorem mj_d_163_88 : decode mj_m_163.2.1 88 = .ok (.invokevirtual 233, 3) := by decide +kernel
theorem mj_d_163_91 : decode mj_m_163.2.1 91 = .ok (.ifCond .ne 8, 3) := by decide +kernel
theorem mj_d_163_94 : decode mj_m_163.2.1 94 = .ok (.aload_n 0, 1) := by decide +kernel
theorem mj_d_163_95 : decode mj_m_163.2.1 95 = .ok (.invokevirtual 212, 3) := by decide +kernel
theorem mj_d_163_98 : decode mj_m_163.2.1 98 = .ok (.pop, 1) := by decide +kernel
theorem mj_d_163_99 : decode mj_m_163.2.1 99 = .ok (.iinc 2 1, 3) := by decide +kernel
theorem mj_d_163_102 : decode mj_m_163.2.1 102 = .ok (.goto (-60), 3) := by decide +kernel
theorem mj_d_163_105 : decode mj_m_163.2.1 105 = .ok (.aload_n 0, 1) := by decide +kernel
theorem mj_d_163_106 : decode mj_m_163.2.1 106 = .ok (.invokevirtual 171, 3) := by decide +kernel
theorem mj_d_163_109 : decode mj_m_163.2.1 109 = .ok (.ireturn, 1) := by decide +kernel
theorem mj_d_167_0 : decode mj_m_167.2.1 0 = .ok (.aload_n 0, 1) := by decide +kernel
theorem mj_d_167_1 : decode mj_m_167.2.1 1 = .ok (.iconst 0, 1) := by decide +kernel
theorem mj_d_167_2 : decode mj_m_167.2.1 2 = .ok (.bipush 112, 2) := by decide +kernel
theorem mj_d_167_4 : decode mj_m_167.2.1 4 = .ok (.invokevirtual 198, 3) := by decide +kernel
theorem mj_d_167_7 : decode mj_m_167.2.1 7 = .ok (.iconst 0, 1) := by decide +kernel
theorem mj_d_167_8 : decode mj_m_167.2.1 8 = .ok (.istore 4, 2) := by decide +kernel
theorem mj_d_167_10 : decode mj_m_167.2.1 10 = .ok (.iload 4, 2) := by decide +kernel
theorem mj_d_167_12 : decode mj_m_167.2.1 12 = .ok (.aload_n 0, 1) := by decide +kernel
theorem mj_d_167_13 : decode mj_m_167.2.1 13 = .ok (.getfield 76, 3) := by decide +kernel
theorem mj_d_167_16 : decode mj_m_167.2.1 16 = .ok (.if_icmp .ge 21, 3) := by decide +kernel
theorem mj_d_167_19 : decode mj_m_167.2.1 19 = .ok (.aload_n 0, 1) := by decide +kernel
theorem mj_d_167_20 : decode mj_m_167.2.1 20 = .ok (.getfield 7, 3) := by decide +kernel
theorem mj_d_167_23 : decode mj_m_167.2.1 23 = .ok (.sipush 132, 3) := by decide +kernel
theorem mj_d_167_26 : decode mj_m_167.2.1 26 = .ok (.iload 4, 2) := by decide +kernel
theorem mj_d_167_28 : decode mj_m_167.2.1 28 = .ok (.iadd, 1) := by decide +kernel
theorem mj_d_167_29 : decode mj_m_167.2.1 29 = .ok (.iconst 0, 1) := by decide +kernel
theorem mj_d_167_30 : decode mj_m_167.2.1 30 = .ok (.iastore, 1) := by decide +kernel
theorem mj_d_167_31 : decode mj_m_167.2.1 31 = .ok (.iinc 4 1, 3) := by decide +kernel
theorem mj_d_167_34 : decode mj_m_167.2.1 34 = .ok (.goto (-24), 3) := by decide +kernel
theorem mj_d_167_37 : decode mj_m_167.2.1 37 = .ok (.iload_n 2, 1) := by decide +kernel
theorem mj_d_167_38 : decode mj_m_167.2.1 38 = .ok (.iconst 1, 1) := by decide +kernel
theorem mj_d_167_39 : decode mj_m_167.2.1 39 = .ok (.isub, 1) := by decide +kernel
theorem mj_d_167_40 : decode mj_m_167.2.1 40 = .ok (.istore 4, 2) := by decide +kernel
theorem mj_d_167_42 : decode mj_m_167.2.1 42 = .ok (.iload 4, 2) := by decide +kernel
theorem mj_d_167_44 : decode mj_m_167.2.1 44 = .ok (.ifCond .lt 33, 3) := by decide +kernel
theorem mj_d_167_47 : decode mj_m_167.2.1 47 = .ok (.aload_n 0, 1) := by decide +kernel
theorem mj_d_167_48 : decode mj_m_167.2.1 48 = .ok (.getfield 7, 3) := by decide +kernel
theorem mj_d_167_51 : decode mj_m_167.2.1 51 = .ok (.bipush 114, 2) := by decide +kernel
theorem mj_d_167_53 : decode mj_m_167.2.1 53 = .ok (.iload_n 1, 1) := by decide +kernel
theorem mj_d_167_54 : decode mj_m_167.2.1 54 = .ok (.iadd, 1) := by decide +kernel
theorem mj_d_167_55 : decode mj_m_167.2.1 55 = .ok (.iload_n 3, 1) := by decide +kernel
theorem mj_d_167_56 : decode mj_m_167.2.1 56 = .ok (.iconst 3, 1) := by decide +kernel
theorem mj_d_167_57 : decode mj_m_167.2.1 57 = .ok (.iload 4, 2) := by decide +kernel
theorem mj_d_167_59 : decode mj_m_167.2.1 59 = .ok (.imul, 1) := by decide +kernel
theorem mj_d_167_60 : decode mj_m_167.2.1 60 = .ok (.ishr, 1) := by decide +kernel
theorem mj_d_167_61 : decode mj_m_167.2.1 61 = .ok (.bipush 7, 2) := by decide +kernel
theorem mj_d_167_63 : decode mj_m_167.2.1 63 = .ok (.iand, 1) := by decide +kernel
theorem mj_d_167_64 : decode mj_m_167.2.1 64 = .ok (.iastore, 1) := by decide +kernel
theorem mj_d_167_65 : decode mj_m_167.2.1 65 = .ok (.aload_n 0, 1) := by decide +kernel
theorem mj_d_167_66 : decode mj_m_167.2.1 66 = .ok (.bipush 112, 2) := by decide +kernel
theorem mj_d_167_68 : decode mj_m_167.2.1 68 = .ok (.invokevirtual 208, 3) := by decide +kernel
theorem mj_d_167_71 : decode mj_m_167.2.1 71 = .ok (.iinc 4 (-1), 3) := by decide +kernel
theorem mj_d_167_74 : decode mj_m_167.2.1 74 = .ok (.goto (-32), 3) := by decide +kernel
theorem mj_d_167_77 : decode mj_m_167.2.1 77 = .ok (.aload_n 0, 1) := by decide +kernel
theorem mj_d_167_78 : decode mj_m_167.2.1 78 = .ok (.getfield 7, 3) := by decide +kernel
theorem mj_d_167_81 : decode mj_m_167.2.1 81 = .ok (.sipush 132, 3) := by decide +kernel
theorem mj_d_167_84 : decode mj_m_167.2.1 84 = .ok (.iload_n 1, 1) := by decide +kernel
theorem mj_d_167_85 : decode mj_m_167.2.1 85 = .ok (.iadd, 1) := by decide +kernel
theorem mj_d_167_86 : decode mj_m_167.2.1 86 = .ok (.iaload, 1) := by decide +kernel
theorem mj_d_167_87 : decode mj_m_167.2.1 87 = .ok (.aload_n 0, 1) := by decide +kernel
theorem mj_d_167_88 : decode mj_m_167.2.1 88 = .ok (.getfield 7, 3) := by decide +kernel
theorem mj_d_167_91 : decode mj_m_167.2.1 91 = .ok (.bipush 20, 2) := by decide +kernel
theorem mj_d_167_93 : decode mj_m_167.2.1 93 = .ok (.iload_n 1, 1) := by decide +kernel
theorem mj_d_167_94 : decode mj_m_167.2.1 94 = .ok (.iadd, 1) := by decide +kernel
theorem mj_d_167_95 : decode mj_m_167.2.1 95 = .ok (.iaload, 1) := by decide +kernel
theorem mj_d_167_96 : decode mj_m_167.2.1 96 = .ok (.if_icmp .ne 7, 3) := by decide +kernel
theorem mj_d_167_99 : decode mj_m_167.2.1 99 = .ok (.iconst 1, 1) := by decide +kernel
theorem mj_d_167_100 : decode mj_m_167.2.1 100 = .ok (.goto 4, 3) := by decide +kernel
theorem mj_d_167_103 : decode mj_m_167.2.1 103 = .ok (.iconst 0, 1) := by decide +kernel
theorem mj_d_167_104 : decode mj_m_167.2.1 104 = .ok (.istore 4, 2) := by decide +kernel
theorem mj_d_167_106 : decode mj_m_167.2.1 106 = .ok (.iconst 0, 1) := by decide +kernel
theorem mj_d_167_107 : decode mj_m_167.2.1 107 = .ok (.istore 5, 2) := by decide +kernel
theorem mj_d_167_109 : decode mj_m_167.2.1 109 = .ok (.iload 5, 2) := by decide +kernel
theorem mj_d_167_111 : decode mj_m_167.2.1 111 = .ok (.bipush 8, 2) := by decide +kernel
theorem mj_d_167_113 : decode mj_m_167.2.1 113 = .ok (.if_icmp .ge 41, 3) := by decide +kernel
theorem mj_d_167_116 : decode mj_m_167.2.1 116 = .ok (.iload 4, 2) := by decide +kernel
theorem mj_d_167_118 : decode mj_m_167.2.1 118 = .ok (.ifCond .eq 27, 3) := by decide +kernel
theorem mj_d_167_121 : decode mj_m_167.2.1 121 = .ok (.aload_n 0, 1) := by decide +kernel
theorem mj_d_167_122 : decode mj_m_167.2.1 122 = .ok (.bipush 112, 2) := by decide +kernel
theorem mj_d_167_124 : decode mj_m_167.2.1 124 = .ok (.iload_n 1, 1) := by decide +kernel
theorem mj_d_167_125 : decode mj_m_167.2.1 125 = .ok (.iload 5, 2) := by decide +kernel
theorem mj_d_167_127 : decode mj_m_167.2.1 127 = .ok (.invokevirtual 183, 3) := by decide +kernel
theorem mj_d_167_130 : decode mj_m_167.2.1 130 = .ok (.aload_n 0, 1) := by decide +kernel
theorem mj_d_167_131 : decode mj_m_167.2.1 131 = .ok (.iconst 0, 1) := by decide +kernel
theorem mj_d_167_132 : decode mj_m_167.2.1 132 = .ok (.iload_n 1, 1) := by decide +kernel
theorem mj_d_167_133 : decode mj_m_167.2.1 133 = .ok (.iload 5, 2) := by decide +kernel
theorem mj_d_167_135 : decode mj_m_167.2.1 135 = .ok (.invokevirtual 183, 3) := by decide +kernel
theorem mj_d_167_138 : decode mj_m_167.2.1 138 = .ok (.if_icmp .ne 7, 3) := by decide +kernel
theorem mj_d_167_141 : decode mj_m_167.2.1 141 = .ok (.iconst 1, 1) := by decide +kernel
theorem mj_d_167_142 : decode mj_m_167.2.1 142 = .ok (.goto 4, 3) := by decide +kernel
theorem mj_d_167_145 : decode mj_m_167.2.1 145 = .ok (.iconst 0, 1) := by decide +kernel
theorem mj_d_167_146 : decode mj_m_167.2.1 146 = .ok (.istore 4, 2) := by decide +kernel
theorem mj_d_167_148 : decode mj_m_167.2.1 148 = .ok (.iinc 5 1, 3) := by decide +kernel
theorem mj_d_167_151 : decode mj_m_167.2.1 151 = .ok (.goto (-42), 3) := by decide +kernel
theorem mj_d_167_154 : decode mj_m_167.2.1 154 = .ok (.iload 4, 2) := by decide +kernel
theorem mj_d_167_156 : decode mj_m_167.2.1 156 = .ok (.ireturn, 1) := by decide +kernel
def dc_R_month_42 (n : Nat) : sg_S → Int → Int → sg_S × Int := Nat.rec (fun (s : sg_S) l1 l2 => (s, 0)) (fun _ ih => fun s l1 l2 => (if l1 ≤ l2 then (s, (dc_R_layersOfAll s)) else (ih (dc_R_passes (dc_R_minds s) 0) l1 (l2 + 1)))) n
theorem dc_R_month_42_s (n : Nat) (s : sg_S) (l1 l2 : Int) : dc_R_month_42 (n + 1) s l1 l2 = (if l1 ≤ l2 then (s, (dc_R_layersOfAll s)) else ((dc_R_month_42 n) (dc_R_passes (dc_R_minds s) 0) l1 (l2 + 1))) := rfl
def dc_R_month (s : sg_S) (a1 : Int) : sg_S × Int := (if (dc_R_in s a1 1 30) = 0 then (s, (-1000000002)) else (if (s 234 3) = 0 then (s, (-1000000003)) else (if (s 235 0) ≤ 9000 then (dc_R_month_42 31 s a1 0) else (s, (-1000000004)))))
def dw_R_month (a k : Nat) : Bool := dw_R_minds a k || dw_R_passes a k
theorem dr_R_month_42 (a k : Nat) (h : dw_R_month a k = false) : ∀ (n : Nat) (s : sg_S) (l1 l2 : Int), (dc_R_month_42 n s l1 l2).1 a k = s a k := by
  have h0 := h
  unfold dw_R_month at h
  simp only [Bool.or_eq_false_iff] at h
  obtain ⟨h1, h2⟩ := h
  intro n
  induction n with
  | zero => intro s l1 l2; rfl
  | succ n ih =>
    intro s l1 l2
    rw [dc_R_month_42_s]
    (repeat' split) <;> simp only [(fun s => dr_R_minds s a k h1), (fun s x0 => dr_R_passes s x0 a k h2), ih]
theorem dr_R_month (s : sg_S) (a1 : Int) (a k : Nat) (h : dw_R_month a k = false) : (dc_R_month s a1).1 a k = s a k := by
  have h0 := h
  unfold dw_R_month at h
  simp only [Bool.or_eq_false_iff] at h
  obtain ⟨h1, h2⟩ := h
  unfold dc_R_month
  (repeat' split) <;> simp only [(fun s => dr_R_minds s a k h1), (fun s x0 => dr_R_passes s x0 a k h2), (dr_R_month_42 a k h0)]
set_option maxRecDepth 100000 in
theorem dt_R_month_42 : ∀ (n : Nat) {h : mj_H} (hH : sy_H h) {l1 l2 : Int} (b_l1 : 1 ≤ l1) (t_l1 : l1 ≤ 30) (b_l2 : 0 ≤ l2) (t_l2 : l2 ≤ 30) (i0 : (sy_rd h 234 6) ≤ 0 ∨ (sy_rd h 235 11) = -1) (hm : 30 - l2 < (n : Int)), sy_wp (mj_m_147, 42, [(0, .ref 234), (1, sy_i l1), (2, sy_i l2)], [], h) (dq2 (-1000000004) (72) (dc_R_month_42 n (sy_rd h) l1 l2)) := by
  intro n
  induction n with
  | zero =>
    intro h hH l1 l2 b_l1 t_l1 b_l2 t_l2 i0 hm
    exact absurd hm (by omega)
  | succ n ih =>
    intro h hH l1 l2 b_l1 t_l1 b_l2 t_l2 i0 hm
    rw [dc_R_month_42_s]
    refine sy_st (S' := (mj_m_147, 43, [(0, .ref 234), (1, sy_i l1), (2, sy_i l2)], [sy_i l2], h)) mj_d_147_42 (fun _ _ => rfl) ?_
    refine sy_st (S' := (mj_m_147, 44, [(0, .ref 234), (1, sy_i l1), (2, sy_i l2)], [sy_i l1, sy_i l2], h)) mj_d_147_43 (fun _ _ => rfl) ?_
    refine sy_icm mj_d_147_44 rfl ⟨by omega, by omega⟩ ⟨by omega, by omega⟩ (fun (c1 : l1 ≤ l2) => ?_) (fun (c1 : ¬ (l1 ≤ l2)) => ?_)
    · skip
      rw [if_pos c1]
      refine sy_st (S' := (mj_m_147, 63, [(0, .ref 234), (1, sy_i l1), (2, sy_i l2)], [.ref 234], h)) mj_d_147_62 (fun _ _ => rfl) ?_
      refine sy_cv (M' := mj_m_139) (vs := [.ref 234]) (rest := []) mj_d_147_63 rfl rfl rfl rfl hH rfl rfl ⟨by decide, ⟨Nat.le_of_ble_eq_true rfl, Nat.le_of_ble_eq_true rfl, Nat.le_of_ble_eq_true rfl, Nat.le_of_ble_eq_true rfl, Nat.le_of_ble_eq_true rfl⟩⟩ (dt_R_layersOfAll hH) ?_
      rintro _ _ ⟨rfl, rfl, b2, b2t⟩
      show sy_wp (mj_m_147, 66, [(0, .ref 234), (1, sy_i l1), (2, sy_i l2)], [sy_i (dc_R_layersOfAll (sy_rd h))], h) _
      exact sy_reti mj_d_147_66 rfl ⟨hH, rfl, rfl, by omega, by omega⟩
    · skip
      rw [if_neg c1]
      refine sy_st (S' := (mj_m_147, 48, [(0, .ref 234), (1, sy_i l1), (2, sy_i l2)], [.ref 234], h)) mj_d_147_47 (fun _ _ => rfl) ?_
      refine sy_cv (M' := mj_m_148) (vs := [.ref 234]) (rest := []) mj_d_147_48 rfl rfl rfl rfl hH rfl rfl ⟨by decide, ⟨Nat.le_of_ble_eq_true rfl, Nat.le_of_ble_eq_true rfl, Nat.le_of_ble_eq_true rfl, Nat.le_of_ble_eq_true rfl, Nat.le_of_ble_eq_true rfl⟩⟩ (dt_R_minds hH) ?_
      rintro _ h3 ⟨rfl, th3, eh3⟩
      show sy_wp (mj_m_147, 51, [(0, .ref 234), (1, sy_i l1), (2, sy_i l2)], [], h3) _
      have g1 : sy_rd h3 234 6 ≤ 0 ∨ sy_rd h3 235 11 = -1 := gG_minds hH rfl eh3 i0
      refine sy_st (S' := (mj_m_147, 52, [(0, .ref 234), (1, sy_i l1), (2, sy_i l2)], [.ref 234], h3)) mj_d_147_51 (fun _ _ => rfl) ?_
      refine sy_st (S' := (mj_m_147, 53, [(0, .ref 234), (1, sy_i l1), (2, sy_i l2)], [sy_i 0, .ref 234], h3)) mj_d_147_52 (fun _ _ => rfl) ?_
      refine sy_cv (M' := mj_m_150) (vs := [.ref 234, sy_i 0]) (rest := []) mj_d_147_53 rfl rfl rfl rfl th3 rfl rfl ⟨by decide, ⟨Nat.le_of_ble_eq_true rfl, Nat.le_of_ble_eq_true rfl, Nat.le_of_ble_eq_true rfl, Nat.le_of_ble_eq_true rfl, Nat.le_of_ble_eq_true rfl⟩⟩ (dt_R_passes (a1 := 0) th3 (by omega) (by omega) (by first | omega | assumption) g1) ?_
      rintro _ h5 ⟨rfl, th5, eh5⟩
      rw [eh3] at eh5
      show sy_wp (mj_m_147, 56, [(0, .ref 234), (1, sy_i l1), (2, sy_i l2)], [], h5) _
      have g2 : sy_rd h5 234 6 ≤ 0 ∨ sy_rd h5 235 11 = -1 := gG_passes th3 eh3 eh5 g1
      refine sy_inc (a := l2) (lv' := [(2, sy_i (l2 + 1)), (0, .ref 234), (1, sy_i l1)]) mj_d_147_56 (Nat.le_of_ble_eq_true rfl) rfl rfl ?_
      refine sy_st (S' := (mj_m_147, 42, [(2, sy_i (l2 + 1)), (0, .ref 234), (1, sy_i l1)], [], h5)) mj_d_147_59 (fun _ _ => rfl) ?_
      refine sy_lv (lv := [(0, .ref 234), (1, sy_i l1), (2, sy_i (l2 + 1))]) rfl ⟨rfl, rfl, rfl, trivial⟩ ?_
      rw [← eh5]
      exact ih th5 (by first | omega | assumption) (by first | omega | assumption) (by first | omega | assumption) (by first | omega | assumption) (by first | omega | assumption) (by omega)
set_option maxRecDepth 100000 in
theorem dt_R_month {h : mj_H} (hH : sy_H h) {a1 : Int} (b_a1 : (-2147483648) ≤ a1) (t_a1 : a1 ≤ 2147483647) (i0 : (sy_rd h 234 6) ≤ 0 ∨ (sy_rd h 235 11) = -1) : sy_wp (mj_m_147, 0, [(0, .ref 234), (1, sy_i a1)], [], h) (dq2 (-1000000004) (72) (dc_R_month (sy_rd h) a1)) := by
  unfold dc_R_month
  refine sy_st (S' := (mj_m_147, 1, [(0, .ref 234), (1, sy_i a1)], [sy_i a1], h)) mj_d_147_0 (fun _ _ => rfl) ?_
  refine sy_i2l mj_d_147_1 ⟨by omega, by omega⟩ ?_
  refine sy_st (S' := (mj_m_147, 3, [(0, .ref 234), (1, sy_i a1)], [sy_l 1, sy_l a1], h)) mj_d_147_2 (fun _ _ => rfl) ?_
  refine sy_ldc2 (n := 30) mj_d_147_3 rfl (by decide) ?_
  refine sy_cs (M' := mj_m_126) (vs := [sy_l a1, sy_l 1, sy_l 30]) (rest := []) mj_d_147_6 rfl rfl rfl rfl ⟨Nat.le_of_ble_eq_true rfl, Nat.le_of_ble_eq_true rfl, Nat.le_of_ble_eq_true rfl, Nat.le_of_ble_eq_true rfl, Nat.le_of_ble_eq_true rfl⟩ (dt_R_in (a0 := a1) (a1 := 1) (a2 := 30) hH (by omega) (by omega) (by omega) (by omega) (by omega) (by omega)) ?_
  rintro _ _ ⟨rfl, rfl, b1, b1t⟩
  have q2 := df_R_in_0 (sy_rd h) a1 1 30
  show sy_wp (mj_m_147, 9, [(0, .ref 234), (1, sy_i a1)], [sy_i (dc_R_in (sy_rd h) a1 1 30)], h) _
  refine sy_ifc mj_d_147_9 rfl ⟨by omega, by omega⟩ (fun (c3 : ¬ ((dc_R_in (sy_rd h) a1 1 30) = 0)) => ?_) (fun (c3 : ¬ ¬ ((dc_R_in (sy_rd h) a1 1 30) = 0)) => ?_)
  · skip
    rw [if_neg c3]
    refine sy_st (S' := (mj_m_147, 16, [(0, .ref 234), (1, sy_i a1)], [.ref 234], h)) mj_d_147_15 (fun _ _ => rfl) ?_
    refine sy_gf mj_d_147_16 rfl rfl (by decide) rfl hH ?_
    intro x4 ex4 bx4 tx4
    replace ex4 : x4 = sy_rd h 234 3 := ex4
    subst ex4
    refine sy_ifc mj_d_147_19 rfl ⟨by omega, by omega⟩ (fun (c5 : ¬ ((sy_rd h 234 3) = 0)) => ?_) (fun (c5 : ¬ ¬ ((sy_rd h 234 3) = 0)) => ?_)
    · skip
      rw [if_neg c5]
      refine sy_st (S' := (mj_m_147, 26, [(0, .ref 234), (1, sy_i a1)], [.ref 234], h)) mj_d_147_25 (fun _ _ => rfl) ?_
      refine sy_gr2 (b := 235) mj_d_147_26 rfl rfl (by decide) rfl rfl hH ?_
      refine sy_st (S' := (mj_m_147, 30, [(0, .ref 234), (1, sy_i a1)], [sy_i 0, .ref 235], h)) mj_d_147_29 (fun _ _ => rfl) ?_
      refine sg_iaT mj_d_147_30 (by omega) (by omega) hH ?_
      intro x6 ex6 bx6 tx6
      replace ex6 : x6 = sy_rd h 235 0 := ex6
      subst ex6
      refine sy_sip mj_d_147_31 (by decide) ?_
      refine sy_icm mj_d_147_34 rfl ⟨by omega, by omega⟩ ⟨by omega, by omega⟩ (fun (c7 : (sy_rd h 235 0) ≤ 9000) => ?_) (fun (c7 : ¬ ((sy_rd h 235 0) ≤ 9000)) => ?_)
      · skip
        rw [if_pos c7]
        refine sy_st (S' := (mj_m_147, 41, [(0, .ref 234), (1, sy_i a1)], [sy_i 0], h)) mj_d_147_40 (fun _ _ => rfl) ?_
        refine sy_st (S' := (mj_m_147, 42, [(2, sy_i 0), (0, .ref 234), (1, sy_i a1)], [], h)) mj_d_147_41 (fun _ _ => rfl) ?_
        refine sy_lv (lv := [(0, .ref 234), (1, sy_i a1), (2, sy_i 0)]) rfl ⟨rfl, rfl, rfl, trivial⟩ ?_
        exact dt_R_month_42 31 hH (by first | omega | assumption) (by first | omega | assumption) (by first | omega | assumption) (by first | omega | assumption) (by first | omega | assumption) (by omega)
      · skip
        rw [if_neg c7]
        refine sy_ldc (n := -1000000004) mj_d_147_37 rfl (by decide) ?_
        exact sy_reti mj_d_147_39 rfl ⟨hH, rfl, rfl, by omega, by omega⟩
    · skip
      rw [if_pos (Decidable.not_not.mp c5)]
      replace c5 := Decidable.not_not.mp c5
      refine sy_ldc (n := -1000000003) mj_d_147_22 rfl (by decide) ?_
      exact sy_reti mj_d_147_24 rfl ⟨hH, rfl, rfl, by omega, by omega⟩
  · skip
    rw [if_pos (Decidable.not_not.mp c3)]
    replace c3 := Decidable.not_not.mp c3
    refine sy_ldc (n := -1000000002) mj_d_147_12 rfl (by decide) ?_
    exact sy_reti mj_d_147_14 rfl ⟨hH, rfl, rfl, by omega, by omega⟩
def dc_R_drift_42 (n : Nat) : sg_S → Int → Int → sg_S × Int := Nat.rec (fun (s : sg_S) l1 l2 => (s, 0)) (fun _ ih => fun s l1 l2 => (if l1 ≤ l2 then (s, (dc_R_layersOfAll s)) else (if (s 234 6) ≤ 0 then (if ((dc_R_draw (dc_R_passes (dc_R_minds s) 0) 4).2) = 0 then (ih (dc_R_washes (dc_R_draw (dc_R_passes (dc_R_minds s) 0) 4).1).1 l1 (l2 + 1)) else (ih (dc_R_draw (dc_R_passes (dc_R_minds s) 0) 4).1 l1 (l2 + 1))) else (if ((dc_R_draw (dc_R_passes (sg_up (dc_R_draw (dc_R_draw (dc_R_minds s) (s 234 6)).1 8).1 235 ((2 + ((dc_R_draw (dc_R_minds s) (s 234 6)).2)).toNat) ((dc_R_draw (dc_R_draw (dc_R_minds s) (s 234 6)).1 8).2)) 0) 4).2) = 0 then (ih (dc_R_washes (dc_R_draw (dc_R_passes (sg_up (dc_R_draw (dc_R_draw (dc_R_minds s) (s 234 6)).1 8).1 235 ((2 + ((dc_R_draw (dc_R_minds s) (s 234 6)).2)).toNat) ((dc_R_draw (dc_R_draw (dc_R_minds s) (s 234 6)).1 8).2)) 0) 4).1).1 l1 (l2 + 1)) else (ih (dc_R_draw (dc_R_passes (sg_up (dc_R_draw (dc_R_draw (dc_R_minds s) (s 234 6)).1 8).1 235 ((2 + ((dc_R_draw (dc_R_minds s) (s 234 6)).2)).toNat) ((dc_R_draw (dc_R_draw (dc_R_minds s) (s 234 6)).1 8).2)) 0) 4).1 l1 (l2 + 1)))))) n
theorem dc_R_drift_42_s (n : Nat) (s : sg_S) (l1 l2 : Int) : dc_R_drift_42 (n + 1) s l1 l2 = (if l1 ≤ l2 then (s, (dc_R_layersOfAll s)) else (if (s 234 6) ≤ 0 then (if ((dc_R_draw (dc_R_passes (dc_R_minds s) 0) 4).2) = 0 then ((dc_R_drift_42 n) (dc_R_washes (dc_R_draw (dc_R_passes (dc_R_minds s) 0) 4).1).1 l1 (l2 + 1)) else ((dc_R_drift_42 n) (dc_R_draw (dc_R_passes (dc_R_minds s) 0) 4).1 l1 (l2 + 1))) else (if ((dc_R_draw (dc_R_passes (sg_up (dc_R_draw (dc_R_draw (dc_R_minds s) (s 234 6)).1 8).1 235 ((2 + ((dc_R_draw (dc_R_minds s) (s 234 6)).2)).toNat) ((dc_R_draw (dc_R_draw (dc_R_minds s) (s 234 6)).1 8).2)) 0) 4).2) = 0 then ((dc_R_drift_42 n) (dc_R_washes (dc_R_draw (dc_R_passes (sg_up (dc_R_draw (dc_R_draw (dc_R_minds s) (s 234 6)).1 8).1 235 ((2 + ((dc_R_draw (dc_R_minds s) (s 234 6)).2)).toNat) ((dc_R_draw (dc_R_draw (dc_R_minds s) (s 234 6)).1 8).2)) 0) 4).1).1 l1 (l2 + 1)) else ((dc_R_drift_42 n) (dc_R_draw (dc_R_passes (sg_up (dc_R_draw (dc_R_draw (dc_R_minds s) (s 234 6)).1 8).1 235 ((2 + ((dc_R_draw (dc_R_minds s) (s 234 6)).2)).toNat) ((dc_R_draw (dc_R_draw (dc_R_minds s) (s 234 6)).1 8).2)) 0) 4).1 l1 (l2 + 1))))) := rfl
def dc_R_drift (s : sg_S) (a1 : Int) : sg_S × Int := (if (dc_R_in s a1 1 30) = 0 then (s, (-1000000002)) else (if (s 234 3) = 0 then (s, (-1000000003)) else (if (s 235 0) ≤ 9000 then (dc_R_drift_42 31 s a1 0) else (s, (-1000000004)))))
def dw_R_drift (a k : Nat) : Bool := dw_R_minds a k || dw_R_passes a k || dw_R_draw a k || dw_R_washes a k || (a == 235)
theorem dr_R_drift_42 (a k : Nat) (h : dw_R_drift a k = false) : ∀ (n : Nat) (s : sg_S) (l1 l2 : Int), (dc_R_drift_42 n s l1 l2).1 a k = s a k := by
  have h0 := h
  unfold dw_R_drift at h
  simp only [Bool.or_eq_false_iff] at h
  obtain ⟨⟨⟨⟨h1, h2⟩, h3⟩, h4⟩, h5⟩ := h
  intro n
  induction n with
  | zero => intro s l1 l2; rfl
  | succ n ih =>
    intro s l1 l2
    rw [dc_R_drift_42_s]
    (repeat' split) <;> simp only [(fun s => dr_R_minds s a k h1), (fun s x0 => dr_R_passes s x0 a k h2), (fun s x0 => dr_R_draw s x0 a k h3), (fun s => dr_R_washes s a k h4), (fun s l z => sg_upa (s := s) (l := l) (z := z) (k := k) h5), ih]
theorem dr_R_drift (s : sg_S) (a1 : Int) (a k : Nat) (h : dw_R_drift a k = false) : (dc_R_drift s a1).1 a k = s a k := by
  have h0 := h
  unfold dw_R_drift at h
  simp only [Bool.or_eq_false_iff] at h
  obtain ⟨⟨⟨⟨h1, h2⟩, h3⟩, h4⟩, h5⟩ := h
  unfold dc_R_drift
  (repeat' split) <;> simp only [(fun s => dr_R_minds s a k h1), (fun s x0 => dr_R_passes s x0 a k h2), (fun s x0 => dr_R_draw s x0 a k h3), (fun s => dr_R_washes s a k h4), (fun s l z => sg_upa (s := s) (l := l) (z := z) (k := k) h5), (dr_R_drift_42 a k h0)]
set_option maxRecDepth 100000 in
theorem dt_R_drift_42 : ∀ (n : Nat) {h : mj_H} (hH : sy_H h) {l1 l2 : Int} (b_l1 : 1 ≤ l1) (t_l1 : l1 ≤ 30) (b_l2 : 0 ≤ l2) (t_l2 : l2 ≤ 30) (i0 : (sy_rd h 234 6) ≤ 0 ∨ (sy_rd h 235 11) = -1) (hm : 30 - l2 < (n : Int)), sy_wp (mj_m_163, 42, [(0, .ref 234), (1, sy_i l1), (2, sy_i l2)], [], h) (dq2 (-1000000004) (72) (dc_R_drift_42 n (sy_rd h) l1 l2)) := by
  intro n
  induction n with
  | zero =>
    intro h hH l1 l2 b_l1 t_l1 b_l2 t_l2 i0 hm
    exact absurd hm (by omega)
  | succ n ih =>
    intro h hH l1 l2 b_l1 t_l1 b_l2 t_l2 i0 hm
    rw [dc_R_drift_42_s]
    refine sy_st (S' := (mj_m_163, 43, [(0, .ref 234), (1, sy_i l1), (2, sy_i l2)], [sy_i l2], h)) mj_d_163_42 (fun _ _ => rfl) ?_
    refine sy_st (S' := (mj_m_163, 44, [(0, .ref 234), (1, sy_i l1), (2, sy_i l2)], [sy_i l1, sy_i l2], h)) mj_d_163_43 (fun _ _ => rfl) ?_
    refine sy_icm mj_d_163_44 rfl ⟨by omega, by omega⟩ ⟨by omega, by omega⟩ (fun (c1 : l1 ≤ l2) => ?_) (fun (c1 : ¬ (l1 ≤ l2)) => ?_)
    · skip
      rw [if_pos c1]
      refine sy_st (S' := (mj_m_163, 106, [(0, .ref 234), (1, sy_i l1), (2, sy_i l2)], [.ref 234], h)) mj_d_163_105 (fun _ _ => rfl) ?_
      refine sy_cv (M' := mj_m_139) (vs := [.ref 234]) (rest := []) mj_d_163_106 rfl rfl rfl rfl hH rfl rfl ⟨by decide, ⟨Nat.le_of_ble_eq_true rfl, Nat.le_of_ble_eq_true rfl, Nat.le_of_ble_eq_true rfl, Nat.le_of_ble_eq_true rfl, Nat.le_of_ble_eq_true rfl⟩⟩ (dt_R_layersOfAll hH) ?_
      rintro _ _ ⟨rfl, rfl, b2, b2t⟩
      show sy_wp (mj_m_163, 109, [(0, .ref 234), (1, sy_i l1), (2, sy_i l2)], [sy_i (dc_R_layersOfAll (sy_rd h))], h) _
      exact sy_reti mj_d_163_109 rfl ⟨hH, rfl, rfl, by omega, by omega⟩
    · skip
      rw [if_neg c1]
      refine sy_st (S' := (mj_m_163, 48, [(0, .ref 234), (1, sy_i l1), (2, sy_i l2)], [.ref 234], h)) mj_d_163_47 (fun _ _ => rfl) ?_
      refine sy_cv (M' := mj_m_148) (vs := [.ref 234]) (rest := []) mj_d_163_48 rfl rfl rfl rfl hH rfl rfl ⟨by decide, ⟨Nat.le_of_ble_eq_true rfl, Nat.le_of_ble_eq_true rfl, Nat.le_of_ble_eq_true rfl, Nat.le_of_ble_eq_true rfl, Nat.le_of_ble_eq_true rfl⟩⟩ (dt_R_minds hH) ?_
      rintro _ h3 ⟨rfl, th3, eh3⟩
      show sy_wp (mj_m_163, 51, [(0, .ref 234), (1, sy_i l1), (2, sy_i l2)], [], h3) _
      have g1 : sy_rd h3 234 6 ≤ 0 ∨ sy_rd h3 235 11 = -1 := gG_minds hH rfl eh3 i0
      refine sy_st (S' := (mj_m_163, 52, [(0, .ref 234), (1, sy_i l1), (2, sy_i l2)], [.ref 234], h3)) mj_d_163_51 (fun _ _ => rfl) ?_
      refine sy_gf mj_d_163_52 rfl rfl (by decide) rfl th3 ?_
      intro x5 ex5 bx5 tx5
      replace ex5 : x5 = sy_rd h3 234 6 := ex5
      rw [eh3, dr_R_minds _ 234 6 rfl] at ex5
      subst ex5
      refine sy_ifc mj_d_163_55 rfl ⟨by omega, by omega⟩ (fun (c6 : (sy_rd h 234 6) ≤ 0) => ?_) (fun (c6 : ¬ ((sy_rd h 234 6) ≤ 0)) => ?_)
      · skip
        rw [if_pos c6]
        have g9 : sy_rd h3 234 6 ≤ 0 ∨ sy_rd h3 235 11 = -1 := by first | exact g1 | exact gG_burns hH rfl eh3 (by omega) (by omega) g3
        refine sy_st (S' := (mj_m_163, 82, [(0, .ref 234), (1, sy_i l1), (2, sy_i l2)], [.ref 234], h3)) mj_d_163_81 (fun _ _ => rfl) ?_
        refine sy_st (S' := (mj_m_163, 83, [(0, .ref 234), (1, sy_i l1), (2, sy_i l2)], [sy_i 0, .ref 234], h3)) mj_d_163_82 (fun _ _ => rfl) ?_
        refine sy_cv (M' := mj_m_150) (vs := [.ref 234, sy_i 0]) (rest := []) mj_d_163_83 rfl rfl rfl rfl th3 rfl rfl ⟨by decide, ⟨Nat.le_of_ble_eq_true rfl, Nat.le_of_ble_eq_true rfl, Nat.le_of_ble_eq_true rfl, Nat.le_of_ble_eq_true rfl, Nat.le_of_ble_eq_true rfl⟩⟩ (dt_R_passes (a1 := 0) th3 (by omega) (by omega) (by first | omega | assumption) g9) ?_
        rintro _ h7 ⟨rfl, th7, eh7⟩
        rw [eh3] at eh7
        show sy_wp (mj_m_163, 86, [(0, .ref 234), (1, sy_i l1), (2, sy_i l2)], [], h7) _
        have g10 : sy_rd h7 234 6 ≤ 0 ∨ sy_rd h7 235 11 = -1 := gG_passes th3 eh3 eh7 g9
        refine sy_st (S' := (mj_m_163, 87, [(0, .ref 234), (1, sy_i l1), (2, sy_i l2)], [.ref 234], h7)) mj_d_163_86 (fun _ _ => rfl) ?_
        refine sy_st (S' := (mj_m_163, 88, [(0, .ref 234), (1, sy_i l1), (2, sy_i l2)], [sy_i 4, .ref 234], h7)) mj_d_163_87 (fun _ _ => rfl) ?_
        refine sy_cv (M' := mj_m_164) (vs := [.ref 234, sy_i 4]) (rest := []) mj_d_163_88 rfl rfl rfl rfl th7 rfl rfl ⟨by decide, ⟨Nat.le_of_ble_eq_true rfl, Nat.le_of_ble_eq_true rfl, Nat.le_of_ble_eq_true rfl, Nat.le_of_ble_eq_true rfl, Nat.le_of_ble_eq_true rfl⟩⟩ (dt_R_draw (a1 := 4) th7 (by omega) (by omega)) ?_
        rintro _ h9 ⟨th9, eh9, rfl, b10, b10t⟩
        rw [eh7] at eh9 b10 b10t ⊢
        show sy_wp (mj_m_163, 91, [(0, .ref 234), (1, sy_i l1), (2, sy_i l2)], [sy_i ((dc_R_draw (dc_R_passes (dc_R_minds (sy_rd h)) 0) 4).2)], h9) _
        have g11 : sy_rd h9 234 6 ≤ 0 ∨ sy_rd h9 235 11 = -1 := gG_draw th7 eh7 eh9 g10
        refine sy_ifc mj_d_163_91 rfl ⟨by omega, by omega⟩ (fun (c11 : ¬ (((dc_R_draw (dc_R_passes (dc_R_minds (sy_rd h)) 0) 4).2) = 0)) => ?_) (fun (c11 : ¬ ¬ (((dc_R_draw (dc_R_passes (dc_R_minds (sy_rd h)) 0) 4).2) = 0)) => ?_)
        · skip
          rw [if_neg c11]
          refine sy_inc (a := l2) (lv' := [(2, sy_i (l2 + 1)), (0, .ref 234), (1, sy_i l1)]) mj_d_163_99 (Nat.le_of_ble_eq_true rfl) rfl rfl ?_
          refine sy_st (S' := (mj_m_163, 42, [(2, sy_i (l2 + 1)), (0, .ref 234), (1, sy_i l1)], [], h9)) mj_d_163_102 (fun _ _ => rfl) ?_
          refine sy_lv (lv := [(0, .ref 234), (1, sy_i l1), (2, sy_i (l2 + 1))]) rfl ⟨rfl, rfl, rfl, trivial⟩ ?_
          rw [← eh9]
          exact ih th9 (by first | omega | assumption) (by first | omega | assumption) (by first | omega | assumption) (by first | omega | assumption) (by first | exact g12 | exact g11) (by omega)
        · skip
          rw [if_pos (Decidable.not_not.mp c11)]
          replace c11 := Decidable.not_not.mp c11
          refine sy_st (S' := (mj_m_163, 95, [(0, .ref 234), (1, sy_i l1), (2, sy_i l2)], [.ref 234], h9)) mj_d_163_94 (fun _ _ => rfl) ?_
          refine sy_cv (M' := mj_m_155) (vs := [.ref 234]) (rest := []) mj_d_163_95 rfl rfl rfl rfl th9 rfl rfl ⟨by decide, ⟨Nat.le_of_ble_eq_true rfl, Nat.le_of_ble_eq_true rfl, Nat.le_of_ble_eq_true rfl, Nat.le_of_ble_eq_true rfl, Nat.le_of_ble_eq_true rfl⟩⟩ (dt_R_washes th9) ?_
          rintro _ h12 ⟨th12, eh12, rfl, b13, b13t⟩
          rw [eh9] at eh12 b13 b13t ⊢
          show sy_wp (mj_m_163, 98, [(0, .ref 234), (1, sy_i l1), (2, sy_i l2)], [sy_i ((dc_R_washes (dc_R_draw (dc_R_passes (dc_R_minds (sy_rd h)) 0) 4).1).2)], h12) _
          have g12 : sy_rd h12 234 6 ≤ 0 ∨ sy_rd h12 235 11 = -1 := gG_washes th9 eh9 eh12 g11
          refine sy_st (S' := (mj_m_163, 99, [(0, .ref 234), (1, sy_i l1), (2, sy_i l2)], [], h12)) mj_d_163_98 (fun _ _ => rfl) ?_
          refine sy_inc (a := l2) (lv' := [(2, sy_i (l2 + 1)), (0, .ref 234), (1, sy_i l1)]) mj_d_163_99 (Nat.le_of_ble_eq_true rfl) rfl rfl ?_
          refine sy_st (S' := (mj_m_163, 42, [(2, sy_i (l2 + 1)), (0, .ref 234), (1, sy_i l1)], [], h12)) mj_d_163_102 (fun _ _ => rfl) ?_
          refine sy_lv (lv := [(0, .ref 234), (1, sy_i l1), (2, sy_i (l2 + 1))]) rfl ⟨rfl, rfl, rfl, trivial⟩ ?_
          rw [← eh12]
          exact ih th12 (by first | omega | assumption) (by first | omega | assumption) (by first | omega | assumption) (by first | omega | assumption) (by first | exact g12 | exact g11) (by omega)
      · skip
        rw [if_neg c6]
        refine sy_st (S' := (mj_m_163, 59, [(0, .ref 234), (1, sy_i l1), (2, sy_i l2)], [.ref 234], h3)) mj_d_163_58 (fun _ _ => rfl) ?_
        refine sy_st (S' := (mj_m_163, 60, [(0, .ref 234), (1, sy_i l1), (2, sy_i l2)], [.ref 234, .ref 234], h3)) mj_d_163_59 (fun _ _ => rfl) ?_
        refine sy_gf mj_d_163_60 rfl rfl (by decide) rfl th3 ?_
        intro x14 ex14 bx14 tx14
        replace ex14 : x14 = sy_rd h3 234 6 := ex14
        rw [eh3, dr_R_minds _ 234 6 rfl] at ex14
        subst ex14
        refine sy_cv (M' := mj_m_164) (vs := [.ref 234, sy_i (sy_rd h 234 6)]) (rest := []) mj_d_163_63 rfl rfl rfl rfl th3 rfl rfl ⟨by decide, ⟨Nat.le_of_ble_eq_true rfl, Nat.le_of_ble_eq_true rfl, Nat.le_of_ble_eq_true rfl, Nat.le_of_ble_eq_true rfl, Nat.le_of_ble_eq_true rfl⟩⟩ (dt_R_draw (a1 := (sy_rd h 234 6)) th3 (by omega) (by omega)) ?_
        rintro _ h15 ⟨th15, eh15, rfl, b16, b16t⟩
        rw [eh3] at eh15 b16 b16t ⊢
        show sy_wp (mj_m_163, 66, [(0, .ref 234), (1, sy_i l1), (2, sy_i l2)], [sy_i ((dc_R_draw (dc_R_minds (sy_rd h)) (sy_rd h 234 6)).2)], h15) _
        have g2 : sy_rd h15 234 6 ≤ 0 ∨ sy_rd h15 235 11 = -1 := gG_draw th3 eh3 eh15 g1
        refine sy_st (S' := (mj_m_163, 67, [(3, sy_i ((dc_R_draw (dc_R_minds (sy_rd h)) (sy_rd h 234 6)).2)), (0, .ref 234), (1, sy_i l1), (2, sy_i l2)], [], h15)) mj_d_163_66 (fun _ _ => rfl) ?_
        refine sy_st (S' := (mj_m_163, 68, [(3, sy_i ((dc_R_draw (dc_R_minds (sy_rd h)) (sy_rd h 234 6)).2)), (0, .ref 234), (1, sy_i l1), (2, sy_i l2)], [.ref 234], h15)) mj_d_163_67 (fun _ _ => rfl) ?_
        refine sy_gr2 (b := 235) mj_d_163_68 rfl rfl (by decide) rfl rfl th15 ?_
        refine sy_st (S' := (mj_m_163, 72, [(3, sy_i ((dc_R_draw (dc_R_minds (sy_rd h)) (sy_rd h 234 6)).2)), (0, .ref 234), (1, sy_i l1), (2, sy_i l2)], [sy_i 2, .ref 235], h15)) mj_d_163_71 (fun _ _ => rfl) ?_
        refine sy_st (S' := (mj_m_163, 73, [(3, sy_i ((dc_R_draw (dc_R_minds (sy_rd h)) (sy_rd h 234 6)).2)), (0, .ref 234), (1, sy_i l1), (2, sy_i l2)], [sy_i ((dc_R_draw (dc_R_minds (sy_rd h)) (sy_rd h 234 6)).2), sy_i 2, .ref 235], h15)) mj_d_163_72 (fun _ _ => rfl) ?_
        refine sy_add mj_d_163_73 ?_
        refine sy_st (S' := (mj_m_163, 75, [(3, sy_i ((dc_R_draw (dc_R_minds (sy_rd h)) (sy_rd h 234 6)).2)), (0, .ref 234), (1, sy_i l1), (2, sy_i l2)], [.ref 234, sy_i (2 + ((dc_R_draw (dc_R_minds (sy_rd h)) (sy_rd h 234 6)).2)), .ref 235], h15)) mj_d_163_74 (fun _ _ => rfl) ?_
        refine sy_bip mj_d_163_75 (by decide) ?_
        refine sy_cv (M' := mj_m_164) (vs := [.ref 234, sy_i 8]) (rest := [sy_i (2 + ((dc_R_draw (dc_R_minds (sy_rd h)) (sy_rd h 234 6)).2)), .ref 235]) mj_d_163_77 rfl rfl rfl rfl th15 rfl rfl ⟨by decide, ⟨Nat.le_of_ble_eq_true rfl, Nat.le_of_ble_eq_true rfl, Nat.le_of_ble_eq_true rfl, Nat.le_of_ble_eq_true rfl, Nat.le_of_ble_eq_true rfl⟩⟩ (dt_R_draw (a1 := 8) th15 (by omega) (by omega)) ?_
        rintro _ h17 ⟨th17, eh17, rfl, b18, b18t⟩
        rw [eh15] at eh17 b18 b18t ⊢
        show sy_wp (mj_m_163, 80, [(3, sy_i ((dc_R_draw (dc_R_minds (sy_rd h)) (sy_rd h 234 6)).2)), (0, .ref 234), (1, sy_i l1), (2, sy_i l2)], [sy_i ((dc_R_draw (dc_R_draw (dc_R_minds (sy_rd h)) (sy_rd h 234 6)).1 8).2), sy_i (2 + ((dc_R_draw (dc_R_minds (sy_rd h)) (sy_rd h 234 6)).2)), .ref 235], h17) _
        have g3 : sy_rd h17 234 6 ≤ 0 ∨ sy_rd h17 235 11 = -1 := gG_draw th15 eh15 eh17 g2
        refine sg_iasN (v := (dc_R_draw (dc_R_draw (dc_R_minds (sy_rd h)) (sy_rd h 234 6)).1 8).2) (lo := 0) (hi := 7) 2 11 (by decide) mj_d_163_80 (by omega) (by omega) (by omega) (by omega) (by omega) (by omega) th17 ?_
        intro h19 th19 eh19
        rw [eh17] at eh19
        have g9 : sy_rd h19 234 6 ≤ 0 ∨ sy_rd h19 235 11 = -1 := by first | exact g1 | exact gG_burns th17 eh17 eh19 (by omega) (by omega) g3
        refine sy_st (S' := (mj_m_163, 82, [(3, sy_i ((dc_R_draw (dc_R_minds (sy_rd h)) (sy_rd h 234 6)).2)), (0, .ref 234), (1, sy_i l1), (2, sy_i l2)], [.ref 234], h19)) mj_d_163_81 (fun _ _ => rfl) ?_
        refine sy_st (S' := (mj_m_163, 83, [(3, sy_i ((dc_R_draw (dc_R_minds (sy_rd h)) (sy_rd h 234 6)).2)), (0, .ref 234), (1, sy_i l1), (2, sy_i l2)], [sy_i 0, .ref 234], h19)) mj_d_163_82 (fun _ _ => rfl) ?_
        refine sy_cv (M' := mj_m_150) (vs := [.ref 234, sy_i 0]) (rest := []) mj_d_163_83 rfl rfl rfl rfl th19 rfl rfl ⟨by decide, ⟨Nat.le_of_ble_eq_true rfl, Nat.le_of_ble_eq_true rfl, Nat.le_of_ble_eq_true rfl, Nat.le_of_ble_eq_true rfl, Nat.le_of_ble_eq_true rfl⟩⟩ (dt_R_passes (a1 := 0) th19 (by omega) (by omega) (by first | omega | assumption) g9) ?_
        rintro _ h20 ⟨rfl, th20, eh20⟩
        rw [eh19] at eh20
        show sy_wp (mj_m_163, 86, [(3, sy_i ((dc_R_draw (dc_R_minds (sy_rd h)) (sy_rd h 234 6)).2)), (0, .ref 234), (1, sy_i l1), (2, sy_i l2)], [], h20) _
        have g10 : sy_rd h20 234 6 ≤ 0 ∨ sy_rd h20 235 11 = -1 := gG_passes th19 eh19 eh20 g9
        refine sy_st (S' := (mj_m_163, 87, [(3, sy_i ((dc_R_draw (dc_R_minds (sy_rd h)) (sy_rd h 234 6)).2)), (0, .ref 234), (1, sy_i l1), (2, sy_i l2)], [.ref 234], h20)) mj_d_163_86 (fun _ _ => rfl) ?_
        refine sy_st (S' := (mj_m_163, 88, [(3, sy_i ((dc_R_draw (dc_R_minds (sy_rd h)) (sy_rd h 234 6)).2)), (0, .ref 234), (1, sy_i l1), (2, sy_i l2)], [sy_i 4, .ref 234], h20)) mj_d_163_87 (fun _ _ => rfl) ?_
        refine sy_cv (M' := mj_m_164) (vs := [.ref 234, sy_i 4]) (rest := []) mj_d_163_88 rfl rfl rfl rfl th20 rfl rfl ⟨by decide, ⟨Nat.le_of_ble_eq_true rfl, Nat.le_of_ble_eq_true rfl, Nat.le_of_ble_eq_true rfl, Nat.le_of_ble_eq_true rfl, Nat.le_of_ble_eq_true rfl⟩⟩ (dt_R_draw (a1 := 4) th20 (by omega) (by omega)) ?_
        rintro _ h22 ⟨th22, eh22, rfl, b23, b23t⟩
        rw [eh20] at eh22 b23 b23t ⊢
        show sy_wp (mj_m_163, 91, [(3, sy_i ((dc_R_draw (dc_R_minds (sy_rd h)) (sy_rd h 234 6)).2)), (0, .ref 234), (1, sy_i l1), (2, sy_i l2)], [sy_i ((dc_R_draw (dc_R_passes (sg_up (dc_R_draw (dc_R_draw (dc_R_minds (sy_rd h)) (sy_rd h 234 6)).1 8).1 235 ((2 + ((dc_R_draw (dc_R_minds (sy_rd h)) (sy_rd h 234 6)).2)).toNat) ((dc_R_draw (dc_R_draw (dc_R_minds (sy_rd h)) (sy_rd h 234 6)).1 8).2)) 0) 4).2)], h22) _
        have g11 : sy_rd h22 234 6 ≤ 0 ∨ sy_rd h22 235 11 = -1 := gG_draw th20 eh20 eh22 g10
        refine sy_ifc mj_d_163_91 rfl ⟨by omega, by omega⟩ (fun (c24 : ¬ (((dc_R_draw (dc_R_passes (sg_up (dc_R_draw (dc_R_draw (dc_R_minds (sy_rd h)) (sy_rd h 234 6)).1 8).1 235 ((2 + ((dc_R_draw (dc_R_minds (sy_rd h)) (sy_rd h 234 6)).2)).toNat) ((dc_R_draw (dc_R_draw (dc_R_minds (sy_rd h)) (sy_rd h 234 6)).1 8).2)) 0) 4).2) = 0)) => ?_) (fun (c24 : ¬ ¬ (((dc_R_draw (dc_R_passes (sg_up (dc_R_draw (dc_R_draw (dc_R_minds (sy_rd h)) (sy_rd h 234 6)).1 8).1 235 ((2 + ((dc_R_draw (dc_R_minds (sy_rd h)) (sy_rd h 234 6)).2)).toNat) ((dc_R_draw (dc_R_draw (dc_R_minds (sy_rd h)) (sy_rd h 234 6)).1 8).2)) 0) 4).2) = 0)) => ?_)
        · skip
          rw [if_neg c24]
          refine sy_inc (a := l2) (lv' := [(2, sy_i (l2 + 1)), (3, sy_i ((dc_R_draw (dc_R_minds (sy_rd h)) (sy_rd h 234 6)).2)), (0, .ref 234), (1, sy_i l1)]) mj_d_163_99 (Nat.le_of_ble_eq_true rfl) rfl rfl ?_
          refine sy_st (S' := (mj_m_163, 42, [(2, sy_i (l2 + 1)), (3, sy_i ((dc_R_draw (dc_R_minds (sy_rd h)) (sy_rd h 234 6)).2)), (0, .ref 234), (1, sy_i l1)], [], h22)) mj_d_163_102 (fun _ _ => rfl) ?_
          refine sy_lv (lv := [(0, .ref 234), (1, sy_i l1), (2, sy_i (l2 + 1))]) rfl ⟨rfl, rfl, rfl, trivial⟩ ?_
          rw [← eh22]
          exact ih th22 (by first | omega | assumption) (by first | omega | assumption) (by first | omega | assumption) (by first | omega | assumption) (by first | exact g12 | exact g11) (by omega)
        · skip
          rw [if_pos (Decidable.not_not.mp c24)]
          replace c24 := Decidable.not_not.mp c24
          refine sy_st (S' := (mj_m_163, 95, [(3, sy_i ((dc_R_draw (dc_R_minds (sy_rd h)) (sy_rd h 234 6)).2)), (0, .ref 234), (1, sy_i l1), (2, sy_i l2)], [.ref 234], h22)) mj_d_163_94 (fun _ _ => rfl) ?_
          refine sy_cv (M' := mj_m_155) (vs := [.ref 234]) (rest := []) mj_d_163_95 rfl rfl rfl rfl th22 rfl rfl ⟨by decide, ⟨Nat.le_of_ble_eq_true rfl, Nat.le_of_ble_eq_true rfl, Nat.le_of_ble_eq_true rfl, Nat.le_of_ble_eq_true rfl, Nat.le_of_ble_eq_true rfl⟩⟩ (dt_R_washes th22) ?_
          rintro _ h25 ⟨th25, eh25, rfl, b26, b26t⟩
          rw [eh22] at eh25 b26 b26t ⊢
          show sy_wp (mj_m_163, 98, [(3, sy_i ((dc_R_draw (dc_R_minds (sy_rd h)) (sy_rd h 234 6)).2)), (0, .ref 234), (1, sy_i l1), (2, sy_i l2)], [sy_i ((dc_R_washes (dc_R_draw (dc_R_passes (sg_up (dc_R_draw (dc_R_draw (dc_R_minds (sy_rd h)) (sy_rd h 234 6)).1 8).1 235 ((2 + ((dc_R_draw (dc_R_minds (sy_rd h)) (sy_rd h 234 6)).2)).toNat) ((dc_R_draw (dc_R_draw (dc_R_minds (sy_rd h)) (sy_rd h 234 6)).1 8).2)) 0) 4).1).2)], h25) _
          have g12 : sy_rd h25 234 6 ≤ 0 ∨ sy_rd h25 235 11 = -1 := gG_washes th22 eh22 eh25 g11
          refine sy_st (S' := (mj_m_163, 99, [(3, sy_i ((dc_R_draw (dc_R_minds (sy_rd h)) (sy_rd h 234 6)).2)), (0, .ref 234), (1, sy_i l1), (2, sy_i l2)], [], h25)) mj_d_163_98 (fun _ _ => rfl) ?_
          refine sy_inc (a := l2) (lv' := [(2, sy_i (l2 + 1)), (3, sy_i ((dc_R_draw (dc_R_minds (sy_rd h)) (sy_rd h 234 6)).2)), (0, .ref 234), (1, sy_i l1)]) mj_d_163_99 (Nat.le_of_ble_eq_true rfl) rfl rfl ?_
          refine sy_st (S' := (mj_m_163, 42, [(2, sy_i (l2 + 1)), (3, sy_i ((dc_R_draw (dc_R_minds (sy_rd h)) (sy_rd h 234 6)).2)), (0, .ref 234), (1, sy_i l1)], [], h25)) mj_d_163_102 (fun _ _ => rfl) ?_
          refine sy_lv (lv := [(0, .ref 234), (1, sy_i l1), (2, sy_i (l2 + 1))]) rfl ⟨rfl, rfl, rfl, trivial⟩ ?_
          rw [← eh25]
          exact ih th25 (by first | omega | assumption) (by first | omega | assumption) (by first | omega | assumption) (by first | omega | assumption) (by first | exact g12 | exact g11) (by omega)
set_option maxRecDepth 100000 in
theorem dt_R_drift {h : mj_H} (hH : sy_H h) {a1 : Int} (b_a1 : (-2147483648) ≤ a1) (t_a1 : a1 ≤ 2147483647) (i0 : (sy_rd h 234 6) ≤ 0 ∨ (sy_rd h 235 11) = -1) : sy_wp (mj_m_163, 0, [(0, .ref 234), (1, sy_i a1)], [], h) (dq2 (-1000000004) (72) (dc_R_drift (sy_rd h) a1)) := by
  unfold dc_R_drift
  refine sy_st (S' := (mj_m_163, 1, [(0, .ref 234), (1, sy_i a1)], [sy_i a1], h)) mj_d_163_0 (fun _ _ => rfl) ?_
  refine sy_i2l mj_d_163_1 ⟨by omega, by omega⟩ ?_
  refine sy_st (S' := (mj_m_163, 3, [(0, .ref 234), (1, sy_i a1)], [sy_l 1, sy_l a1], h)) mj_d_163_2 (fun _ _ => rfl) ?_
  refine sy_ldc2 (n := 30) mj_d_163_3 rfl (by decide) ?_
  refine sy_cs (M' := mj_m_126) (vs := [sy_l a1, sy_l 1, sy_l 30]) (rest := []) mj_d_163_6 rfl rfl rfl rfl ⟨Nat.le_of_ble_eq_true rfl, Nat.le_of_ble_eq_true rfl, Nat.le_of_ble_eq_true rfl, Nat.le_of_ble_eq_true rfl, Nat.le_of_ble_eq_true rfl⟩ (dt_R_in (a0 := a1) (a1 := 1) (a2 := 30) hH (by omega) (by omega) (by omega) (by omega) (by omega) (by omega)) ?_
  rintro _ _ ⟨rfl, rfl, b1, b1t⟩
  have q2 := df_R_in_0 (sy_rd h) a1 1 30
  show sy_wp (mj_m_163, 9, [(0, .ref 234), (1, sy_i a1)], [sy_i (dc_R_in (sy_rd h) a1 1 30)], h) _
  refine sy_ifc mj_d_163_9 rfl ⟨by omega, by omega⟩ (fun (c3 : ¬ ((dc_R_in (sy_rd h) a1 1 30) = 0)) => ?_) (fun (c3 : ¬ ¬ ((dc_R_in (sy_rd h) a1 1 30) = 0)) => ?_)
  · skip
    rw [if_neg c3]
    refine sy_st (S' := (mj_m_163, 16, [(0, .ref 234), (1, sy_i a1)], [.ref 234], h)) mj_d_163_15 (fun _ _ => rfl) ?_
    refine sy_gf mj_d_163_16 rfl rfl (by decide) rfl hH ?_
    intro x4 ex4 bx4 tx4
    replace ex4 : x4 = sy_rd h 234 3 := ex4
    subst ex4
    refine sy_ifc mj_d_163_19 rfl ⟨by omega, by omega⟩ (fun (c5 : ¬ ((sy_rd h 234 3) = 0)) => ?_) (fun (c5 : ¬ ¬ ((sy_rd h 234 3) = 0)) => ?_)
    · skip
      rw [if_neg c5]
      refine sy_st (S' := (mj_m_163, 26, [(0, .ref 234), (1, sy_i a1)], [.ref 234], h)) mj_d_163_25 (fun _ _ => rfl) ?_
      refine sy_gr2 (b := 235) mj_d_163_26 rfl rfl (by decide) rfl rfl hH ?_
      refine sy_st (S' := (mj_m_163, 30, [(0, .ref 234), (1, sy_i a1)], [sy_i 0, .ref 235], h)) mj_d_163_29 (fun _ _ => rfl) ?_
      refine sg_iaT mj_d_163_30 (by omega) (by omega) hH ?_
      intro x6 ex6 bx6 tx6
      replace ex6 : x6 = sy_rd h 235 0 := ex6
      subst ex6
      refine sy_sip mj_d_163_31 (by decide) ?_
      refine sy_icm mj_d_163_34 rfl ⟨by omega, by omega⟩ ⟨by omega, by omega⟩ (fun (c7 : (sy_rd h 235 0) ≤ 9000) => ?_) (fun (c7 : ¬ ((sy_rd h 235 0) ≤ 9000)) => ?_)
      · skip
        rw [if_pos c7]
        refine sy_st (S' := (mj_m_163, 41, [(0, .ref 234), (1, sy_i a1)], [sy_i 0], h)) mj_d_163_40 (fun _ _ => rfl) ?_
        refine sy_st (S' := (mj_m_163, 42, [(2, sy_i 0), (0, .ref 234), (1, sy_i a1)], [], h)) mj_d_163_41 (fun _ _ => rfl) ?_
        refine sy_lv (lv := [(0, .ref 234), (1, sy_i a1), (2, sy_i 0)]) rfl ⟨rfl, rfl, rfl, trivial⟩ ?_
        exact dt_R_drift_42 31 hH (by first | omega | assumption) (by first | omega | assumption) (by first | omega | assumption) (by first | omega | assumption) (by first | omega | assumption) (by omega)
      · skip
        rw [if_neg c7]
        refine sy_ldc (n := -1000000004) mj_d_163_37 rfl (by decide) ?_
        exact sy_reti mj_d_163_39 rfl ⟨hH, rfl, rfl, by omega, by omega⟩
    · skip
      rw [if_pos (Decidable.not_not.mp c5)]
      replace c5 := Decidable.not_not.mp c5
      refine sy_ldc (n := -1000000003) mj_d_163_22 rfl (by decide) ?_
      exact sy_reti mj_d_163_24 rfl ⟨hH, rfl, rfl, by omega, by omega⟩
  · skip
    rw [if_pos (Decidable.not_not.mp c3)]
    replace c3 := Decidable.not_not.mp c3
    refine sy_ldc (n := -1000000002) mj_d_163_12 rfl (by decide) ?_
    exact sy_reti mj_d_163_14 rfl ⟨hH, rfl, rfl, by omega, by omega⟩
def dc_R_isSo_109 (n : Nat) : sg_S → Int → Int → Int → sg_S × Int := Nat.rec (fun (s : sg_S) l1 l4 l5 => (s, 0)) (fun _ ih => fun s l1 l4 l5 => (if 8 ≤ l5 then (s, l4) else (if l4 = 0 then (ih s l1 0 (l5 + 1)) else (if (dc_R_layerAt s 112 l1 l5) = (dc_R_layerAt s 0 l1 l5) then (ih s l1 1 (l5 + 1)) else (ih s l1 0 (l5 + 1)))))) n
theorem dc_R_isSo_109_s (n : Nat) (s : sg_S) (l1 l4 l5 : Int) : dc_R_isSo_109 (n + 1) s l1 l4 l5 = (if 8 ≤ l5 then (s, l4) else (if l4 = 0 then ((dc_R_isSo_109 n) s l1 0 (l5 + 1)) else (if (dc_R_layerAt s 112 l1 l5) = (dc_R_layerAt s 0 l1 l5) then ((dc_R_isSo_109 n) s l1 1 (l5 + 1)) else ((dc_R_isSo_109 n) s l1 0 (l5 + 1))))) := rfl
def dc_R_isSo_42 (n : Nat) : sg_S → Int → Int → Int → sg_S × Int := Nat.rec (fun (s : sg_S) l1 l3 l4 => (s, 0)) (fun _ ih => fun s l1 l3 l4 => (if l4 < 0 then (if (s 235 ((132 + l1).toNat)) = (s 235 ((20 + l1).toNat)) then (dc_R_isSo_109 9 s l1 1 0) else (dc_R_isSo_109 9 s l1 0 0)) else (ih (dc_R_passes (sg_up s 235 ((114 + l1).toNat) (sy_and (sy_shr l3 (3 * l4)) 7)) 112) l1 l3 (l4 + (-1))))) n
theorem dc_R_isSo_42_s (n : Nat) (s : sg_S) (l1 l3 l4 : Int) : dc_R_isSo_42 (n + 1) s l1 l3 l4 = (if l4 < 0 then (if (s 235 ((132 + l1).toNat)) = (s 235 ((20 + l1).toNat)) then (dc_R_isSo_109 9 s l1 1 0) else (dc_R_isSo_109 9 s l1 0 0)) else ((dc_R_isSo_42 n) (dc_R_passes (sg_up s 235 ((114 + l1).toNat) (sy_and (sy_shr l3 (3 * l4)) 7)) 112) l1 l3 (l4 + (-1)))) := rfl
def dc_R_isSo_10 (n : Nat) : sg_S → Int → Int → Int → Int → sg_S × Int := Nat.rec (fun (s : sg_S) l1 l2 l3 l4 => (s, 0)) (fun _ ih => fun s l1 l2 l3 l4 => (if (s 234 6) ≤ l4 then (dc_R_isSo_42 4 s l1 l3 (l2 - 1)) else (ih (sg_up s 235 ((132 + l4).toNat) 0) l1 l2 l3 (l4 + 1)))) n
theorem dc_R_isSo_10_s (n : Nat) (s : sg_S) (l1 l2 l3 l4 : Int) : dc_R_isSo_10 (n + 1) s l1 l2 l3 l4 = (if (s 234 6) ≤ l4 then (dc_R_isSo_42 4 s l1 l3 (l2 - 1)) else ((dc_R_isSo_10 n) (sg_up s 235 ((132 + l4).toNat) 0) l1 l2 l3 (l4 + 1))) := rfl
def dc_R_isSo (s : sg_S) (a1 a2 a3 : Int) : sg_S × Int := (dc_R_isSo_10 10 (dc_R_copy s 0 112) a1 a2 a3 0)
def dw_R_isSo (a k : Nat) : Bool := dw_R_copy a k || (a == 235) || dw_R_passes a k
theorem dr_R_isSo_109 (a k : Nat) (h : dw_R_isSo a k = false) : ∀ (n : Nat) (s : sg_S) (l1 l4 l5 : Int), (dc_R_isSo_109 n s l1 l4 l5).1 a k = s a k := by
  have h0 := h
  unfold dw_R_isSo at h
  simp only [Bool.or_eq_false_iff] at h
  obtain ⟨⟨h1, h2⟩, h3⟩ := h
  intro n
  induction n with
  | zero => intro s l1 l4 l5; rfl
  | succ n ih =>
    intro s l1 l4 l5
    rw [dc_R_isSo_109_s]
    (repeat' split) <;> simp only [(fun s x0 x1 => dr_R_copy s x0 x1 a k h1), (fun s l z => sg_upa (s := s) (l := l) (z := z) (k := k) h2), (fun s x0 => dr_R_passes s x0 a k h3), ih]
theorem dr_R_isSo_42 (a k : Nat) (h : dw_R_isSo a k = false) : ∀ (n : Nat) (s : sg_S) (l1 l3 l4 : Int), (dc_R_isSo_42 n s l1 l3 l4).1 a k = s a k := by
  have h0 := h
  unfold dw_R_isSo at h
  simp only [Bool.or_eq_false_iff] at h
  obtain ⟨⟨h1, h2⟩, h3⟩ := h
  intro n
  induction n with
  | zero => intro s l1 l3 l4; rfl
  | succ n ih =>
    intro s l1 l3 l4
    rw [dc_R_isSo_42_s]
    (repeat' split) <;> simp only [(fun s x0 x1 => dr_R_copy s x0 x1 a k h1), (fun s l z => sg_upa (s := s) (l := l) (z := z) (k := k) h2), (fun s x0 => dr_R_passes s x0 a k h3), ih, (dr_R_isSo_109 a k h0)]
theorem dr_R_isSo_10 (a k : Nat) (h : dw_R_isSo a k = false) : ∀ (n : Nat) (s : sg_S) (l1 l2 l3 l4 : Int), (dc_R_isSo_10 n s l1 l2 l3 l4).1 a k = s a k := by
  have h0 := h
  unfold dw_R_isSo at h
  simp only [Bool.or_eq_false_iff] at h
  obtain ⟨⟨h1, h2⟩, h3⟩ := h
  intro n
  induction n with
  | zero => intro s l1 l2 l3 l4; rfl
  | succ n ih =>
    intro s l1 l2 l3 l4
    rw [dc_R_isSo_10_s]
    (repeat' split) <;> simp only [(fun s x0 x1 => dr_R_copy s x0 x1 a k h1), (fun s l z => sg_upa (s := s) (l := l) (z := z) (k := k) h2), (fun s x0 => dr_R_passes s x0 a k h3), ih, (dr_R_isSo_109 a k h0), (dr_R_isSo_42 a k h0)]
theorem dr_R_isSo (s : sg_S) (a1 a2 a3 : Int) (a k : Nat) (h : dw_R_isSo a k = false) : (dc_R_isSo s a1 a2 a3).1 a k = s a k := by
  have h0 := h
  unfold dw_R_isSo at h
  simp only [Bool.or_eq_false_iff] at h
  obtain ⟨⟨h1, h2⟩, h3⟩ := h
  unfold dc_R_isSo
  (repeat' split) <;> simp only [(fun s x0 x1 => dr_R_copy s x0 x1 a k h1), (fun s l z => sg_upa (s := s) (l := l) (z := z) (k := k) h2), (fun s x0 => dr_R_passes s x0 a k h3), (dr_R_isSo_109 a k h0), (dr_R_isSo_42 a k h0), (dr_R_isSo_10 a k h0)]
set_option maxRecDepth 100000 in
theorem dt_R_isSo_109 : ∀ (n : Nat) {h : mj_H} (hH : sy_H h) {l1 l4 l5 : Int} (b_l1 : 0 ≤ l1) (t_l1 : l1 ≤ 8) (b_l4 : 0 ≤ l4) (t_l4 : l4 ≤ 1) (b_l5 : 0 ≤ l5) (t_l5 : l5 ≤ 8) (hm : 8 - l5 < (n : Int)), sy_wp (mj_m_167, 109, [(0, .ref 234), (1, sy_i l1), (4, sy_i l4), (5, sy_i l5)], [], h) (dq2 (0) (1) (dc_R_isSo_109 n (sy_rd h) l1 l4 l5)) := by
  intro n
  induction n with
  | zero =>
    intro h hH l1 l4 l5 b_l1 t_l1 b_l4 t_l4 b_l5 t_l5 hm
    exact absurd hm (by omega)
  | succ n ih =>
    intro h hH l1 l4 l5 b_l1 t_l1 b_l4 t_l4 b_l5 t_l5 hm
    rw [dc_R_isSo_109_s]
    refine sy_st (S' := (mj_m_167, 111, [(0, .ref 234), (1, sy_i l1), (4, sy_i l4), (5, sy_i l5)], [sy_i l5], h)) mj_d_167_109 (fun _ _ => rfl) ?_
    refine sy_bip mj_d_167_111 (by decide) ?_
    refine sy_icm mj_d_167_113 rfl ⟨by omega, by omega⟩ ⟨by omega, by omega⟩ (fun (c1 : 8 ≤ l5) => ?_) (fun (c1 : ¬ (8 ≤ l5)) => ?_)
    · skip
      rw [if_pos c1]
      refine sy_st (S' := (mj_m_167, 156, [(0, .ref 234), (1, sy_i l1), (4, sy_i l4), (5, sy_i l5)], [sy_i l4], h)) mj_d_167_154 (fun _ _ => rfl) ?_
      exact sy_retb mj_d_167_156 rfl ⟨by omega, by omega⟩ ⟨hH, rfl, rfl, by omega, by omega⟩
    · skip
      rw [if_neg c1]
      refine sy_st (S' := (mj_m_167, 118, [(0, .ref 234), (1, sy_i l1), (4, sy_i l4), (5, sy_i l5)], [sy_i l4], h)) mj_d_167_116 (fun _ _ => rfl) ?_
      refine sy_ifc mj_d_167_118 rfl ⟨by omega, by omega⟩ (fun (c2 : l4 = 0) => ?_) (fun (c2 : ¬ (l4 = 0)) => ?_)
      · skip
        rw [if_pos c2]
        refine sy_st (S' := (mj_m_167, 146, [(0, .ref 234), (1, sy_i l1), (4, sy_i l4), (5, sy_i l5)], [sy_i 0], h)) mj_d_167_145 (fun _ _ => rfl) ?_
        refine sy_st (S' := (mj_m_167, 148, [(4, sy_i 0), (0, .ref 234), (1, sy_i l1), (5, sy_i l5)], [], h)) mj_d_167_146 (fun _ _ => rfl) ?_
        refine sy_inc (a := l5) (lv' := [(5, sy_i (l5 + 1)), (4, sy_i 0), (0, .ref 234), (1, sy_i l1)]) mj_d_167_148 (Nat.le_of_ble_eq_true rfl) rfl rfl ?_
        refine sy_st (S' := (mj_m_167, 109, [(5, sy_i (l5 + 1)), (4, sy_i 0), (0, .ref 234), (1, sy_i l1)], [], h)) mj_d_167_151 (fun _ _ => rfl) ?_
        refine sy_lv (lv := [(0, .ref 234), (1, sy_i l1), (4, sy_i 0), (5, sy_i (l5 + 1))]) rfl ⟨rfl, rfl, rfl, rfl, trivial⟩ ?_
        exact ih hH (by first | omega | assumption) (by first | omega | assumption) (by first | omega | assumption) (by first | omega | assumption) (by first | omega | assumption) (by first | omega | assumption) (by omega)
      · skip
        rw [if_neg c2]
        refine sy_st (S' := (mj_m_167, 122, [(0, .ref 234), (1, sy_i l1), (4, sy_i l4), (5, sy_i l5)], [.ref 234], h)) mj_d_167_121 (fun _ _ => rfl) ?_
        refine sy_bip mj_d_167_122 (by decide) ?_
        refine sy_st (S' := (mj_m_167, 125, [(0, .ref 234), (1, sy_i l1), (4, sy_i l4), (5, sy_i l5)], [sy_i l1, sy_i 112, .ref 234], h)) mj_d_167_124 (fun _ _ => rfl) ?_
        refine sy_st (S' := (mj_m_167, 127, [(0, .ref 234), (1, sy_i l1), (4, sy_i l4), (5, sy_i l5)], [sy_i l5, sy_i l1, sy_i 112, .ref 234], h)) mj_d_167_125 (fun _ _ => rfl) ?_
        refine sy_cv (M' := mj_m_144) (vs := [.ref 234, sy_i 112, sy_i l1, sy_i l5]) (rest := []) mj_d_167_127 rfl rfl rfl rfl hH rfl rfl ⟨by decide, ⟨Nat.le_of_ble_eq_true rfl, Nat.le_of_ble_eq_true rfl, Nat.le_of_ble_eq_true rfl, Nat.le_of_ble_eq_true rfl, Nat.le_of_ble_eq_true rfl⟩⟩ (dt_R_layerAt (a1 := 112) (a2 := l1) (a3 := l5) hH (by omega) (by omega) (by omega) (by omega) (by omega) (by omega) (by first | omega | assumption)) ?_
        rintro _ _ ⟨rfl, rfl, b3, b3t⟩
        show sy_wp (mj_m_167, 130, [(0, .ref 234), (1, sy_i l1), (4, sy_i l4), (5, sy_i l5)], [sy_i (dc_R_layerAt (sy_rd h) 112 l1 l5)], h) _
        refine sy_st (S' := (mj_m_167, 131, [(0, .ref 234), (1, sy_i l1), (4, sy_i l4), (5, sy_i l5)], [.ref 234, sy_i (dc_R_layerAt (sy_rd h) 112 l1 l5)], h)) mj_d_167_130 (fun _ _ => rfl) ?_
        refine sy_st (S' := (mj_m_167, 132, [(0, .ref 234), (1, sy_i l1), (4, sy_i l4), (5, sy_i l5)], [sy_i 0, .ref 234, sy_i (dc_R_layerAt (sy_rd h) 112 l1 l5)], h)) mj_d_167_131 (fun _ _ => rfl) ?_
        refine sy_st (S' := (mj_m_167, 133, [(0, .ref 234), (1, sy_i l1), (4, sy_i l4), (5, sy_i l5)], [sy_i l1, sy_i 0, .ref 234, sy_i (dc_R_layerAt (sy_rd h) 112 l1 l5)], h)) mj_d_167_132 (fun _ _ => rfl) ?_
        refine sy_st (S' := (mj_m_167, 135, [(0, .ref 234), (1, sy_i l1), (4, sy_i l4), (5, sy_i l5)], [sy_i l5, sy_i l1, sy_i 0, .ref 234, sy_i (dc_R_layerAt (sy_rd h) 112 l1 l5)], h)) mj_d_167_133 (fun _ _ => rfl) ?_
        refine sy_cv (M' := mj_m_144) (vs := [.ref 234, sy_i 0, sy_i l1, sy_i l5]) (rest := [sy_i (dc_R_layerAt (sy_rd h) 112 l1 l5)]) mj_d_167_135 rfl rfl rfl rfl hH rfl rfl ⟨by decide, ⟨Nat.le_of_ble_eq_true rfl, Nat.le_of_ble_eq_true rfl, Nat.le_of_ble_eq_true rfl, Nat.le_of_ble_eq_true rfl, Nat.le_of_ble_eq_true rfl⟩⟩ (dt_R_layerAt (a1 := 0) (a2 := l1) (a3 := l5) hH (by omega) (by omega) (by omega) (by omega) (by omega) (by omega) (by first | omega | assumption)) ?_
        rintro _ _ ⟨rfl, rfl, b4, b4t⟩
        show sy_wp (mj_m_167, 138, [(0, .ref 234), (1, sy_i l1), (4, sy_i l4), (5, sy_i l5)], [sy_i (dc_R_layerAt (sy_rd h) 0 l1 l5), sy_i (dc_R_layerAt (sy_rd h) 112 l1 l5)], h) _
        refine sy_icm mj_d_167_138 rfl ⟨by omega, by omega⟩ ⟨by omega, by omega⟩ (fun (c5 : ¬ ((dc_R_layerAt (sy_rd h) 112 l1 l5) = (dc_R_layerAt (sy_rd h) 0 l1 l5))) => ?_) (fun (c5 : ¬ ¬ ((dc_R_layerAt (sy_rd h) 112 l1 l5) = (dc_R_layerAt (sy_rd h) 0 l1 l5))) => ?_)
        · skip
          rw [if_neg c5]
          refine sy_st (S' := (mj_m_167, 146, [(0, .ref 234), (1, sy_i l1), (4, sy_i l4), (5, sy_i l5)], [sy_i 0], h)) mj_d_167_145 (fun _ _ => rfl) ?_
          refine sy_st (S' := (mj_m_167, 148, [(4, sy_i 0), (0, .ref 234), (1, sy_i l1), (5, sy_i l5)], [], h)) mj_d_167_146 (fun _ _ => rfl) ?_
          refine sy_inc (a := l5) (lv' := [(5, sy_i (l5 + 1)), (4, sy_i 0), (0, .ref 234), (1, sy_i l1)]) mj_d_167_148 (Nat.le_of_ble_eq_true rfl) rfl rfl ?_
          refine sy_st (S' := (mj_m_167, 109, [(5, sy_i (l5 + 1)), (4, sy_i 0), (0, .ref 234), (1, sy_i l1)], [], h)) mj_d_167_151 (fun _ _ => rfl) ?_
          refine sy_lv (lv := [(0, .ref 234), (1, sy_i l1), (4, sy_i 0), (5, sy_i (l5 + 1))]) rfl ⟨rfl, rfl, rfl, rfl, trivial⟩ ?_
          exact ih hH (by first | omega | assumption) (by first | omega | assumption) (by first | omega | assumption) (by first | omega | assumption) (by first | omega | assumption) (by first | omega | assumption) (by omega)
        · skip
          rw [if_pos (Decidable.not_not.mp c5)]
          replace c5 := Decidable.not_not.mp c5
          refine sy_st (S' := (mj_m_167, 142, [(0, .ref 234), (1, sy_i l1), (4, sy_i l4), (5, sy_i l5)], [sy_i 1], h)) mj_d_167_141 (fun _ _ => rfl) ?_
          refine sy_st (S' := (mj_m_167, 146, [(0, .ref 234), (1, sy_i l1), (4, sy_i l4), (5, sy_i l5)], [sy_i 1], h)) mj_d_167_142 (fun _ _ => rfl) ?_
          refine sy_st (S' := (mj_m_167, 148, [(4, sy_i 1), (0, .ref 234), (1, sy_i l1), (5, sy_i l5)], [], h)) mj_d_167_146 (fun _ _ => rfl) ?_
          refine sy_inc (a := l5) (lv' := [(5, sy_i (l5 + 1)), (4, sy_i 1), (0, .ref 234), (1, sy_i l1)]) mj_d_167_148 (Nat.le_of_ble_eq_true rfl) rfl rfl ?_
          refine sy_st (S' := (mj_m_167, 109, [(5, sy_i (l5 + 1)), (4, sy_i 1), (0, .ref 234), (1, sy_i l1)], [], h)) mj_d_167_151 (fun _ _ => rfl) ?_
          refine sy_lv (lv := [(0, .ref 234), (1, sy_i l1), (4, sy_i 1), (5, sy_i (l5 + 1))]) rfl ⟨rfl, rfl, rfl, rfl, trivial⟩ ?_
          exact ih hH (by first | omega | assumption) (by first | omega | assumption) (by first | omega | assumption) (by first | omega | assumption) (by first | omega | assumption) (by first | omega | assumption) (by omega)
set_option maxRecDepth 100000 in
theorem dt_R_isSo_42 : ∀ (n : Nat) {h : mj_H} (hH : sy_H h) {l1 l3 l4 : Int} (b_l1 : 0 ≤ l1) (t_l1 : l1 ≤ 8) (b_l3 : (-2147483648) ≤ l3) (t_l3 : l3 ≤ 2147483647) (b_l4 : (-1) ≤ l4) (t_l4 : l4 ≤ 2) (i0 : (sy_rd h 234 6) ≤ 0 ∨ (sy_rd h 235 123) = -1) (hm : l4 + 1 < (n : Int)), sy_wp (mj_m_167, 42, [(0, .ref 234), (1, sy_i l1), (3, sy_i l3), (4, sy_i l4)], [], h) (dq2 (0) (1) (dc_R_isSo_42 n (sy_rd h) l1 l3 l4)) := by
  intro n
  induction n with
  | zero =>
    intro h hH l1 l3 l4 b_l1 t_l1 b_l3 t_l3 b_l4 t_l4 i0 hm
    exact absurd hm (by omega)
  | succ n ih =>
    intro h hH l1 l3 l4 b_l1 t_l1 b_l3 t_l3 b_l4 t_l4 i0 hm
    rw [dc_R_isSo_42_s]
    refine sy_st (S' := (mj_m_167, 44, [(0, .ref 234), (1, sy_i l1), (3, sy_i l3), (4, sy_i l4)], [sy_i l4], h)) mj_d_167_42 (fun _ _ => rfl) ?_
    refine sy_ifc mj_d_167_44 rfl ⟨by omega, by omega⟩ (fun (c1 : l4 < 0) => ?_) (fun (c1 : ¬ (l4 < 0)) => ?_)
    · skip
      rw [if_pos c1]
      refine sy_st (S' := (mj_m_167, 78, [(0, .ref 234), (1, sy_i l1), (3, sy_i l3), (4, sy_i l4)], [.ref 234], h)) mj_d_167_77 (fun _ _ => rfl) ?_
      refine sy_gr2 (b := 235) mj_d_167_78 rfl rfl (by decide) rfl rfl hH ?_
      refine sy_sip mj_d_167_81 (by decide) ?_
      refine sy_st (S' := (mj_m_167, 85, [(0, .ref 234), (1, sy_i l1), (3, sy_i l3), (4, sy_i l4)], [sy_i l1, sy_i 132, .ref 235], h)) mj_d_167_84 (fun _ _ => rfl) ?_
      refine sy_add mj_d_167_85 ?_
      refine sg_iaN (lo := 0) (hi := 8) 20 29 (by decide) mj_d_167_86 (by omega) (by omega) (by omega) (by omega) hH ?_
      rintro _ rfl bx2 tx2
      refine sy_st (S' := (mj_m_167, 88, [(0, .ref 234), (1, sy_i l1), (3, sy_i l3), (4, sy_i l4)], [.ref 234, sy_i (sy_rd h 235 ((132 + l1).toNat))], h)) mj_d_167_87 (fun _ _ => rfl) ?_
      refine sy_gr2 (b := 235) mj_d_167_88 rfl rfl (by decide) rfl rfl hH ?_
      refine sy_bip mj_d_167_91 (by decide) ?_
      refine sy_st (S' := (mj_m_167, 94, [(0, .ref 234), (1, sy_i l1), (3, sy_i l3), (4, sy_i l4)], [sy_i l1, sy_i 20, .ref 235, sy_i (sy_rd h 235 ((132 + l1).toNat))], h)) mj_d_167_93 (fun _ _ => rfl) ?_
      refine sy_add mj_d_167_94 ?_
      refine sg_iaN (lo := 0) (hi := 8) 20 29 (by decide) mj_d_167_95 (by omega) (by omega) (by omega) (by omega) hH ?_
      rintro _ rfl bx3 tx3
      refine sy_icm mj_d_167_96 rfl ⟨by omega, by omega⟩ ⟨by omega, by omega⟩ (fun (c4 : ¬ ((sy_rd h 235 ((132 + l1).toNat)) = (sy_rd h 235 ((20 + l1).toNat)))) => ?_) (fun (c4 : ¬ ¬ ((sy_rd h 235 ((132 + l1).toNat)) = (sy_rd h 235 ((20 + l1).toNat)))) => ?_)
      · skip
        rw [if_neg c4]
        refine sy_st (S' := (mj_m_167, 104, [(0, .ref 234), (1, sy_i l1), (3, sy_i l3), (4, sy_i l4)], [sy_i 0], h)) mj_d_167_103 (fun _ _ => rfl) ?_
        refine sy_st (S' := (mj_m_167, 106, [(4, sy_i 0), (0, .ref 234), (1, sy_i l1), (3, sy_i l3)], [], h)) mj_d_167_104 (fun _ _ => rfl) ?_
        refine sy_st (S' := (mj_m_167, 107, [(4, sy_i 0), (0, .ref 234), (1, sy_i l1), (3, sy_i l3)], [sy_i 0], h)) mj_d_167_106 (fun _ _ => rfl) ?_
        refine sy_st (S' := (mj_m_167, 109, [(5, sy_i 0), (4, sy_i 0), (0, .ref 234), (1, sy_i l1), (3, sy_i l3)], [], h)) mj_d_167_107 (fun _ _ => rfl) ?_
        refine sy_lv (lv := [(0, .ref 234), (1, sy_i l1), (4, sy_i 0), (5, sy_i 0)]) rfl ⟨rfl, rfl, rfl, rfl, trivial⟩ ?_
        exact dt_R_isSo_109 9 hH (by first | omega | assumption) (by first | omega | assumption) (by first | omega | assumption) (by first | omega | assumption) (by first | omega | assumption) (by first | omega | assumption) (by omega)
      · skip
        rw [if_pos (Decidable.not_not.mp c4)]
        replace c4 := Decidable.not_not.mp c4
        refine sy_st (S' := (mj_m_167, 100, [(0, .ref 234), (1, sy_i l1), (3, sy_i l3), (4, sy_i l4)], [sy_i 1], h)) mj_d_167_99 (fun _ _ => rfl) ?_
        refine sy_st (S' := (mj_m_167, 104, [(0, .ref 234), (1, sy_i l1), (3, sy_i l3), (4, sy_i l4)], [sy_i 1], h)) mj_d_167_100 (fun _ _ => rfl) ?_
        refine sy_st (S' := (mj_m_167, 106, [(4, sy_i 1), (0, .ref 234), (1, sy_i l1), (3, sy_i l3)], [], h)) mj_d_167_104 (fun _ _ => rfl) ?_
        refine sy_st (S' := (mj_m_167, 107, [(4, sy_i 1), (0, .ref 234), (1, sy_i l1), (3, sy_i l3)], [sy_i 0], h)) mj_d_167_106 (fun _ _ => rfl) ?_
        refine sy_st (S' := (mj_m_167, 109, [(5, sy_i 0), (4, sy_i 1), (0, .ref 234), (1, sy_i l1), (3, sy_i l3)], [], h)) mj_d_167_107 (fun _ _ => rfl) ?_
        refine sy_lv (lv := [(0, .ref 234), (1, sy_i l1), (4, sy_i 1), (5, sy_i 0)]) rfl ⟨rfl, rfl, rfl, rfl, trivial⟩ ?_
        exact dt_R_isSo_109 9 hH (by first | omega | assumption) (by first | omega | assumption) (by first | omega | assumption) (by first | omega | assumption) (by first | omega | assumption) (by first | omega | assumption) (by omega)
    · skip
      rw [if_neg c1]
      refine sy_st (S' := (mj_m_167, 48, [(0, .ref 234), (1, sy_i l1), (3, sy_i l3), (4, sy_i l4)], [.ref 234], h)) mj_d_167_47 (fun _ _ => rfl) ?_
      refine sy_gr2 (b := 235) mj_d_167_48 rfl rfl (by decide) rfl rfl hH ?_
      refine sy_bip mj_d_167_51 (by decide) ?_
      refine sy_st (S' := (mj_m_167, 54, [(0, .ref 234), (1, sy_i l1), (3, sy_i l3), (4, sy_i l4)], [sy_i l1, sy_i 114, .ref 235], h)) mj_d_167_53 (fun _ _ => rfl) ?_
      refine sy_add mj_d_167_54 ?_
      refine sy_st (S' := (mj_m_167, 56, [(0, .ref 234), (1, sy_i l1), (3, sy_i l3), (4, sy_i l4)], [sy_i l3, sy_i (114 + l1), .ref 235], h)) mj_d_167_55 (fun _ _ => rfl) ?_
      refine sy_st (S' := (mj_m_167, 57, [(0, .ref 234), (1, sy_i l1), (3, sy_i l3), (4, sy_i l4)], [sy_i 3, sy_i l3, sy_i (114 + l1), .ref 235], h)) mj_d_167_56 (fun _ _ => rfl) ?_
      refine sy_st (S' := (mj_m_167, 59, [(0, .ref 234), (1, sy_i l1), (3, sy_i l3), (4, sy_i l4)], [sy_i l4, sy_i 3, sy_i l3, sy_i (114 + l1), .ref 235], h)) mj_d_167_57 (fun _ _ => rfl) ?_
      refine sy_mul mj_d_167_59 ?_
      refine sy_ishr mj_d_167_60 ?_
      have q5 := sg_shr_rng l3 (3 * l4)
      refine sy_bip mj_d_167_61 (by decide) ?_
      refine sy_iand mj_d_167_63 ?_
      have q6 := sg_and_r (sy_shr l3 (3 * l4)) 7 (by decide) (by decide)
      refine sg_iasN (v := (sy_and (sy_shr l3 (3 * l4)) 7)) (lo := 0) (hi := 7) 2 11 (by decide) mj_d_167_64 (by omega) (by omega) (by omega) (by omega) (by omega) (by omega) hH ?_
      intro h7 th7 eh7
      have g3 : sy_rd h7 234 6 ≤ 0 ∨ sy_rd h7 235 123 = -1 := gT_burns eh7 (by omega) (by omega) i0
      refine sy_st (S' := (mj_m_167, 66, [(0, .ref 234), (1, sy_i l1), (3, sy_i l3), (4, sy_i l4)], [.ref 234], h7)) mj_d_167_65 (fun _ _ => rfl) ?_
      refine sy_bip mj_d_167_66 (by decide) ?_
      refine sy_cv (M' := mj_m_150) (vs := [.ref 234, sy_i 112]) (rest := []) mj_d_167_68 rfl rfl rfl rfl th7 rfl rfl ⟨by decide, ⟨Nat.le_of_ble_eq_true rfl, Nat.le_of_ble_eq_true rfl, Nat.le_of_ble_eq_true rfl, Nat.le_of_ble_eq_true rfl, Nat.le_of_ble_eq_true rfl⟩⟩ (dt_R_passes (a1 := 112) th7 (by omega) (by omega) (by first | omega | assumption) g3) ?_
      rintro _ h8 ⟨rfl, th8, eh8⟩
      rw [eh7] at eh8
      show sy_wp (mj_m_167, 71, [(0, .ref 234), (1, sy_i l1), (3, sy_i l3), (4, sy_i l4)], [], h8) _
      have g4 : sy_rd h8 234 6 ≤ 0 ∨ sy_rd h8 235 123 = -1 := gT_passes th7 eh7 eh8 g3
      refine sy_inc (a := l4) (lv' := [(4, sy_i (l4 + (-1))), (0, .ref 234), (1, sy_i l1), (3, sy_i l3)]) mj_d_167_71 (Nat.le_of_ble_eq_true rfl) rfl rfl ?_
      refine sy_st (S' := (mj_m_167, 42, [(4, sy_i (l4 + (-1))), (0, .ref 234), (1, sy_i l1), (3, sy_i l3)], [], h8)) mj_d_167_74 (fun _ _ => rfl) ?_
      refine sy_lv (lv := [(0, .ref 234), (1, sy_i l1), (3, sy_i l3), (4, sy_i (l4 + (-1)))]) rfl ⟨rfl, rfl, rfl, rfl, trivial⟩ ?_
      rw [← eh8]
      exact ih th8 (by first | omega | assumption) (by first | omega | assumption) (by first | omega | assumption) (by first | omega | assumption) (by first | omega | assumption) (by first | omega | assumption) (by exact g4) (by omega)
set_option maxRecDepth 100000 in
theorem dt_R_isSo_10 : ∀ (n : Nat) {h : mj_H} (hH : sy_H h) {l1 l2 l3 l4 : Int} (b_l1 : 0 ≤ l1) (t_l1 : l1 ≤ 8) (b_l2 : 1 ≤ l2) (t_l2 : l2 ≤ 3) (b_l3 : (-2147483648) ≤ l3) (t_l3 : l3 ≤ 2147483647) (b_l4 : 0 ≤ l4) (t_l4 : l4 ≤ 9) (i0 : (sy_rd h 234 6) ≤ 0 ∨ (sy_rd h 235 123) = -1) (hm : 9 - l4 < (n : Int)), sy_wp (mj_m_167, 10, [(0, .ref 234), (1, sy_i l1), (2, sy_i l2), (3, sy_i l3), (4, sy_i l4)], [], h) (dq2 (0) (1) (dc_R_isSo_10 n (sy_rd h) l1 l2 l3 l4)) := by
  intro n
  induction n with
  | zero =>
    intro h hH l1 l2 l3 l4 b_l1 t_l1 b_l2 t_l2 b_l3 t_l3 b_l4 t_l4 i0 hm
    exact absurd hm (by omega)
  | succ n ih =>
    intro h hH l1 l2 l3 l4 b_l1 t_l1 b_l2 t_l2 b_l3 t_l3 b_l4 t_l4 i0 hm
    rw [dc_R_isSo_10_s]
    refine sy_st (S' := (mj_m_167, 12, [(0, .ref 234), (1, sy_i l1), (2, sy_i l2), (3, sy_i l3), (4, sy_i l4)], [sy_i l4], h)) mj_d_167_10 (fun _ _ => rfl) ?_
    refine sy_st (S' := (mj_m_167, 13, [(0, .ref 234), (1, sy_i l1), (2, sy_i l2), (3, sy_i l3), (4, sy_i l4)], [.ref 234, sy_i l4], h)) mj_d_167_12 (fun _ _ => rfl) ?_
    refine sy_gf mj_d_167_13 rfl rfl (by decide) rfl hH ?_
    intro x1 ex1 bx1 tx1
    replace ex1 : x1 = sy_rd h 234 6 := ex1
    subst ex1
    refine sy_icm mj_d_167_16 rfl ⟨by omega, by omega⟩ ⟨by omega, by omega⟩ (fun (c2 : (sy_rd h 234 6) ≤ l4) => ?_) (fun (c2 : ¬ ((sy_rd h 234 6) ≤ l4)) => ?_)
    · skip
      rw [if_pos c2]
      refine sy_st (S' := (mj_m_167, 38, [(0, .ref 234), (1, sy_i l1), (2, sy_i l2), (3, sy_i l3), (4, sy_i l4)], [sy_i l2], h)) mj_d_167_37 (fun _ _ => rfl) ?_
      refine sy_st (S' := (mj_m_167, 39, [(0, .ref 234), (1, sy_i l1), (2, sy_i l2), (3, sy_i l3), (4, sy_i l4)], [sy_i 1, sy_i l2], h)) mj_d_167_38 (fun _ _ => rfl) ?_
      refine sy_sub mj_d_167_39 ?_
      refine sy_st (S' := (mj_m_167, 42, [(4, sy_i (l2 - 1)), (0, .ref 234), (1, sy_i l1), (2, sy_i l2), (3, sy_i l3)], [], h)) mj_d_167_40 (fun _ _ => rfl) ?_
      refine sy_lv (lv := [(0, .ref 234), (1, sy_i l1), (3, sy_i l3), (4, sy_i (l2 - 1))]) rfl ⟨rfl, rfl, rfl, rfl, trivial⟩ ?_
      exact dt_R_isSo_42 4 hH (by first | omega | assumption) (by first | omega | assumption) (by first | omega | assumption) (by first | omega | assumption) (by first | omega | assumption) (by first | omega | assumption) (by exact i0) (by omega)
    · skip
      rw [if_neg c2]
      refine sy_st (S' := (mj_m_167, 20, [(0, .ref 234), (1, sy_i l1), (2, sy_i l2), (3, sy_i l3), (4, sy_i l4)], [.ref 234], h)) mj_d_167_19 (fun _ _ => rfl) ?_
      refine sy_gr2 (b := 235) mj_d_167_20 rfl rfl (by decide) rfl rfl hH ?_
      refine sy_sip mj_d_167_23 (by decide) ?_
      refine sy_st (S' := (mj_m_167, 28, [(0, .ref 234), (1, sy_i l1), (2, sy_i l2), (3, sy_i l3), (4, sy_i l4)], [sy_i l4, sy_i 132, .ref 235], h)) mj_d_167_26 (fun _ _ => rfl) ?_
      refine sy_add mj_d_167_28 ?_
      refine sy_st (S' := (mj_m_167, 30, [(0, .ref 234), (1, sy_i l1), (2, sy_i l2), (3, sy_i l3), (4, sy_i l4)], [sy_i 0, sy_i (132 + l4), .ref 235], h)) mj_d_167_29 (fun _ _ => rfl) ?_
      refine sg_ias0 mj_d_167_30 (by omega) (by omega) hH ?_
      intro h3 th3 eh3
      have g2 : sy_rd h3 234 6 ≤ 0 ∨ sy_rd h3 235 123 = -1 := gT_many eh3 (by omega) (by omega) i0
      refine sy_inc (a := l4) (lv' := [(4, sy_i (l4 + 1)), (0, .ref 234), (1, sy_i l1), (2, sy_i l2), (3, sy_i l3)]) mj_d_167_31 (Nat.le_of_ble_eq_true rfl) rfl rfl ?_
      refine sy_st (S' := (mj_m_167, 10, [(4, sy_i (l4 + 1)), (0, .ref 234), (1, sy_i l1), (2, sy_i l2), (3, sy_i l3)], [], h3)) mj_d_167_34 (fun _ _ => rfl) ?_
      refine sy_lv (lv := [(0, .ref 234), (1, sy_i l1), (2, sy_i l2), (3, sy_i l3), (4, sy_i (l4 + 1))]) rfl ⟨rfl, rfl, rfl, rfl, rfl, trivial⟩ ?_
      rw [← eh3]
      exact ih th3 (by first | omega | assumption) (by first | omega | assumption) (by first | omega | assumption) (by first | omega | assumption) (by first | omega | assumption) (by first | omega | assumption) (by first | omega | assumption) (by first | omega | assumption) (by exact g2) (by omega)
set_option maxRecDepth 100000 in
theorem dt_R_isSo {h : mj_H} (hH : sy_H h) {a1 a2 a3 : Int} (b_a1 : 0 ≤ a1) (t_a1 : a1 ≤ 8) (b_a2 : 1 ≤ a2) (t_a2 : a2 ≤ 3) (b_a3 : (-2147483648) ≤ a3) (t_a3 : a3 ≤ 2147483647) (i0 : (sy_rd h 234 6) ≤ 0 ∨ (sy_rd h 235 11) = -1) : sy_wp (mj_m_167, 0, [(0, .ref 234), (1, sy_i a1), (2, sy_i a2), (3, sy_i a3)], [], h) (dq2 (0) (1) (dc_R_isSo (sy_rd h) a1 a2 a3)) := by
  unfold dc_R_isSo
  refine sy_st (S' := (mj_m_167, 1, [(0, .ref 234), (1, sy_i a1), (2, sy_i a2), (3, sy_i a3)], [.ref 234], h)) mj_d_167_0 (fun _ _ => rfl) ?_
  refine sy_st (S' := (mj_m_167, 2, [(0, .ref 234), (1, sy_i a1), (2, sy_i a2), (3, sy_i a3)], [sy_i 0, .ref 234], h)) mj_d_167_1 (fun _ _ => rfl) ?_
  refine sy_bip mj_d_167_2 (by decide) ?_
  refine sy_cv (M' := mj_m_149) (vs := [.ref 234, sy_i 0, sy_i 112]) (rest := []) mj_d_167_4 rfl rfl rfl rfl hH rfl rfl ⟨by decide, ⟨Nat.le_of_ble_eq_true rfl, Nat.le_of_ble_eq_true rfl, Nat.le_of_ble_eq_true rfl, Nat.le_of_ble_eq_true rfl, Nat.le_of_ble_eq_true rfl⟩⟩ (dt_R_copy (a1 := 0) (a2 := 112) hH (by omega) (by omega) (by omega) (by omega) (by first | omega | assumption) (by first | omega | assumption)) ?_
  rintro _ h1 ⟨rfl, th1, eh1⟩
  show sy_wp (mj_m_167, 7, [(0, .ref 234), (1, sy_i a1), (2, sy_i a2), (3, sy_i a3)], [], h1) _
  have g1 : sy_rd h1 234 6 ≤ 0 ∨ sy_rd h1 235 123 = -1 := gT_copy eh1 i0
  refine sy_st (S' := (mj_m_167, 8, [(0, .ref 234), (1, sy_i a1), (2, sy_i a2), (3, sy_i a3)], [sy_i 0], h1)) mj_d_167_7 (fun _ _ => rfl) ?_
  refine sy_st (S' := (mj_m_167, 10, [(4, sy_i 0), (0, .ref 234), (1, sy_i a1), (2, sy_i a2), (3, sy_i a3)], [], h1)) mj_d_167_8 (fun _ _ => rfl) ?_
  refine sy_lv (lv := [(0, .ref 234), (1, sy_i a1), (2, sy_i a2), (3, sy_i a3), (4, sy_i 0)]) rfl ⟨rfl, rfl, rfl, rfl, rfl, trivial⟩ ?_
  rw [← eh1]
  exact dt_R_isSo_10 10 th1 (by first | omega | assumption) (by first | omega | assumption) (by first | omega | assumption) (by first | omega | assumption) (by first | omega | assumption) (by first | omega | assumption) (by first | omega | assumption) (by first | omega | assumption) (by exact g1) (by omega)
