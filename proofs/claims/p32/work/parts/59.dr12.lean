def mj_m_133 : mj_M := (⟨"SootMapsModel", "takesNumber", "(II)Z"⟩, prog_13_method_14_code, 3, (some .boolean), 10, 2, 1, 2, 41)
def mj_m_136 : mj_M := (⟨"SootMapsModel", "takes", "(I)Z"⟩, prog_13_method_13_code, 2, (some .boolean), 10, 1, 1, 2, 41)
theorem mj_d_133_0 : decode mj_m_133.2.1 0 = .ok (.aload_n 0, 1) := by decide +kernel
theorem mj_d_133_1 : decode mj_m_133.2.1 1 = .ok (.invokevirtual 106, 3) := by decide +kernel
theorem mj_d_133_4 : decode mj_m_133.2.1 4 = .ok (.i2l, 1) := by decide +kernel
theorem mj_d_133_5 : decode mj_m_133.2.1 5 = .ok (.ldc2_w 114, 3) := by decide +kernel
theorem mj_d_133_8 : decode mj_m_133.2.1 8 = .ok (.ldc2_w 116, 3) := by decide +kernel
theorem mj_d_133_11 : decode mj_m_133.2.1 11 = .ok (.invokestatic 79, 3) := by decide +kernel
theorem mj_d_133_14 : decode mj_m_133.2.1 14 = .ok (.ifCond .ne 13, 3) := by decide +kernel
theorem mj_d_133_17 : decode mj_m_133.2.1 17 = .ok (.aload_n 0, 1) := by decide +kernel
theorem mj_d_133_18 : decode mj_m_133.2.1 18 = .ok (.iconst 1, 1) := by decide +kernel
theorem mj_d_133_19 : decode mj_m_133.2.1 19 = .ok (.aload_n 0, 1) := by decide +kernel
theorem mj_d_133_20 : decode mj_m_133.2.1 20 = .ok (.getfield 100, 3) := by decide +kernel
theorem mj_d_133_23 : decode mj_m_133.2.1 23 = .ok (.invokevirtual 110, 3) := by decide +kernel
theorem mj_d_133_26 : decode mj_m_133.2.1 26 = .ok (.ireturn, 1) := by decide +kernel
theorem mj_d_133_27 : decode mj_m_133.2.1 27 = .ok (.aload_n 0, 1) := by decide +kernel
theorem mj_d_133_28 : decode mj_m_133.2.1 28 = .ok (.iconst 0, 1) := by decide +kernel
theorem mj_d_133_29 : decode mj_m_133.2.1 29 = .ok (.putfield 118, 3) := by decide +kernel
theorem mj_d_133_32 : decode mj_m_133.2.1 32 = .ok (.aload_n 0, 1) := by decide +kernel
theorem mj_d_133_33 : decode mj_m_133.2.1 33 = .ok (.aload_n 0, 1) := by decide +kernel
theorem mj_d_133_34 : decode mj_m_133.2.1 34 = .ok (.getfield 93, 3) := by decide +kernel
theorem mj_d_133_37 : decode mj_m_133.2.1 37 = .ok (.invokevirtual 96, 3) := by decide +kernel
theorem mj_d_133_40 : decode mj_m_133.2.1 40 = .ok (.i2l, 1) := by decide +kernel
theorem mj_d_133_41 : decode mj_m_133.2.1 41 = .ok (.ldc2_w 114, 3) := by decide +kernel
theorem mj_d_133_44 : decode mj_m_133.2.1 44 = .ok (.ldc2_w 116, 3) := by decide +kernel
theorem mj_d_133_47 : decode mj_m_133.2.1 47 = .ok (.invokestatic 79, 3) := by decide +kernel
theorem mj_d_133_50 : decode mj_m_133.2.1 50 = .ok (.ifCond .eq 59, 3) := by decide +kernel
theorem mj_d_133_53 : decode mj_m_133.2.1 53 = .ok (.aload_n 0, 1) := by decide +kernel
theorem mj_d_133_54 : decode mj_m_133.2.1 54 = .ok (.aload_n 0, 1) := by decide +kernel
theorem mj_d_133_55 : decode mj_m_133.2.1 55 = .ok (.getfield 93, 3) := by decide +kernel
theorem mj_d_133_58 : decode mj_m_133.2.1 58 = .ok (.aload_n 0, 1) := by decide +kernel
theorem mj_d_133_59 : decode mj_m_133.2.1 59 = .ok (.getfield 100, 3) := by decide +kernel
theorem mj_d_133_62 : decode mj_m_133.2.1 62 = .ok (.isub, 1) := by decide +kernel
theorem mj_d_133_63 : decode mj_m_133.2.1 63 = .ok (.iconst 3, 1) := by decide +kernel
theorem mj_d_133_64 : decode mj_m_133.2.1 64 = .ok (.if_icmp .ge 25, 3) := by decide +kernel
theorem mj_d_133_67 : decode mj_m_133.2.1 67 = .ok (.bipush 10, 2) := by decide +kernel
theorem mj_d_133_69 : decode mj_m_133.2.1 69 = .ok (.aload_n 0, 1) := by decide +kernel
theorem mj_d_133_70 : decode mj_m_133.2.1 70 = .ok (.getfield 118, 3) := by decide +kernel
theorem mj_d_133_73 : decode mj_m_133.2.1 73 = .ok (.imul, 1) := by decide +kernel
theorem mj_d_133_74 : decode mj_m_133.2.1 74 = .ok (.aload_n 0, 1) := by decide +kernel
theorem mj_d_133_75 : decode mj_m_133.2.1 75 = .ok (.aload_n 0, 1) := by decide +kernel
theorem mj_d_133_76 : decode mj_m_133.2.1 76 = .ok (.getfield 93, 3) := by decide +kernel
theorem mj_d_133_79 : decode mj_m_133.2.1 79 = .ok (.invokevirtual 96, 3) := by decide +kernel
theorem mj_d_133_82 : decode mj_m_133.2.1 82 = .ok (.iadd, 1) := by decide +kernel
theorem mj_d_133_83 : decode mj_m_133.2.1 83 = .ok (.bipush 48, 2) := by decide +kernel
theorem mj_d_133_85 : decode mj_m_133.2.1 85 = .ok (.isub, 1) := by decide +kernel
theorem mj_d_133_86 : decode mj_m_133.2.1 86 = .ok (.goto 7, 3) := by decide +kernel
theorem mj_d_133_89 : decode mj_m_133.2.1 89 = .ok (.aload_n 0, 1) := by decide +kernel
theorem mj_d_133_90 : decode mj_m_133.2.1 90 = .ok (.getfield 118, 3) := by decide +kernel
theorem mj_d_133_93 : decode mj_m_133.2.1 93 = .ok (.putfield 118, 3) := by decide +kernel
theorem mj_d_133_96 : decode mj_m_133.2.1 96 = .ok (.aload_n 0, 1) := by decide +kernel
theorem mj_d_133_97 : decode mj_m_133.2.1 97 = .ok (.dup, 1) := by decide +kernel
theorem mj_d_133_98 : decode mj_m_133.2.1 98 = .ok (.getfield 93, 3) := by decide +kernel
theorem mj_d_133_101 : decode mj_m_133.2.1 101 = .ok (.iconst 1, 1) := by decide +kernel
theorem mj_d_133_102 : decode mj_m_133.2.1 102 = .ok (.iadd, 1) := by decide +kernel
theorem mj_d_133_103 : decode mj_m_133.2.1 103 = .ok (.putfield 93, 3) := by decide +kernel
theorem mj_d_133_106 : decode mj_m_133.2.1 106 = .ok (.goto (-74), 3) := by decide +kernel
theorem mj_d_133_109 : decode mj_m_133.2.1 109 = .ok (.aload_n 0, 1) := by decide +kernel
theorem mj_d_133_110 : decode mj_m_133.2.1 110 = .ok (.getfield 93, 3) := by decide +kernel
theorem mj_d_133_113 : decode mj_m_133.2.1 113 = .ok (.aload_n 0, 1) := by decide +kernel
theorem mj_d_133_114 : decode mj_m_133.2.1 114 = .ok (.getfield 100, 3) := by decide +kernel
theorem mj_d_133_117 : decode mj_m_133.2.1 117 = .ok (.isub, 1) := by decide +kernel
theorem mj_d_133_118 : decode mj_m_133.2.1 118 = .ok (.iconst 4, 1) := by decide +kernel
theorem mj_d_133_119 : decode mj_m_133.2.1 119 = .ok (.if_icmp .ge 18, 3) := by decide +kernel
theorem mj_d_133_122 : decode mj_m_133.2.1 122 = .ok (.aload_n 0, 1) := by decide +kernel
theorem mj_d_133_123 : decode mj_m_133.2.1 123 = .ok (.getfield 118, 3) := by decide +kernel
theorem mj_d_133_126 : decode mj_m_133.2.1 126 = .ok (.i2l, 1) := by decide +kernel
theorem mj_d_133_127 : decode mj_m_133.2.1 127 = .ok (.iload_n 1, 1) := by decide +kernel
theorem mj_d_133_128 : decode mj_m_133.2.1 128 = .ok (.i2l, 1) := by decide +kernel
theorem mj_d_133_129 : decode mj_m_133.2.1 129 = .ok (.iload_n 2, 1) := by decide +kernel
theorem mj_d_133_130 : decode mj_m_133.2.1 130 = .ok (.i2l, 1) := by decide +kernel
theorem mj_d_133_131 : decode mj_m_133.2.1 131 = .ok (.invokestatic 79, 3) := by decide +kernel
theorem mj_d_133_134 : decode mj_m_133.2.1 134 = .ok (.ifCond .ne 15, 3) := by decide +kernel
theorem mj_d_133_137 : decode mj_m_133.2.1 137 = .ok (.aload_n 0, 1) := by decide +kernel
theorem mj_d_133_138 : decode mj_m_133.2.1 138 = .ok (.iconst 2, 1) := by decide +kernel
theorem mj_d_133_139 : decode mj_m_133.2.1 139 = .ok (.aload_n 0, 1) := by decide +kernel
theorem mj_d_133_140 : decode mj_m_133.2.1 140 = .ok (.getfield 100, 3) := by decide +kernel
theorem mj_d_133_143 : decode mj_m_133.2.1 143 = .ok (.invokevirtual 110, 3) := by decide +kernel
theorem mj_d_133_146 : decode mj_m_133.2.1 146 = .ok (.ifCond .eq 7, 3) := by decide +kernel
theorem mj_d_133_149 : decode mj_m_133.2.1 149 = .ok (.iconst 1, 1) := by decide +kernel
theorem mj_d_133_150 : decode mj_m_133.2.1 150 = .ok (.goto 4, 3) := by decide +kernel
theorem mj_d_133_153 : decode mj_m_133.2.1 153 = .ok (.iconst 0, 1) := by decide +kernel
theorem mj_d_133_154 : decode mj_m_133.2.1 154 = .ok (.ireturn, 1) := by decide +kernel
theorem mj_d_136_0 : decode mj_m_136.2.1 0 = .ok (.aload_n 0, 1) := by decide +kernel
theorem mj_d_136_1 : decode mj_m_136.2.1 1 = .ok (.invokevirtual 106, 3) := by decide +kernel
theorem mj_d_136_4 : decode mj_m_136.2.1 4 = .ok (.iload_n 1, 1) := by decide +kernel
theorem mj_d_136_5 : decode mj_m_136.2.1 5 = .ok (.if_icmp .eq 13, 3) := by decide +kernel
theorem mj_d_136_8 : decode mj_m_136.2.1 8 = .ok (.aload_n 0, 1) := by decide +kernel
theorem mj_d_136_9 : decode mj_m_136.2.1 9 = .ok (.iconst 1, 1) := by decide +kernel
theorem mj_d_136_10 : decode mj_m_136.2.1 10 = .ok (.aload_n 0, 1) := by decide +kernel
theorem mj_d_136_11 : decode mj_m_136.2.1 11 = .ok (.getfield 100, 3) := by decide +kernel
theorem mj_d_136_14 : decode mj_m_136.2.1 14 = .ok (.invokevirtual 110, 3) := by decide +kernel
theorem mj_d_136_17 : decode mj_m_136.2.1 17 = .ok (.ireturn, 1) := by decide +kernel
theorem mj_d_136_18 : decode mj_m_136.2.1 18 = .ok (.aload_n 0, 1) := by decide +kernel
theorem mj_d_136_19 : decode mj_m_136.2.1 19 = .ok (.dup, 1) := by decide +kernel
theorem mj_d_136_20 : decode mj_m_136.2.1 20 = .ok (.getfield 93, 3) := by decide +kernel
theorem mj_d_136_23 : decode mj_m_136.2.1 23 = .ok (.iconst 1, 1) := by decide +kernel
theorem mj_d_136_24 : decode mj_m_136.2.1 24 = .ok (.iadd, 1) := by decide +kernel
theorem mj_d_136_25 : decode mj_m_136.2.1 25 = .ok (.putfield 93, 3) := by decide +kernel
theorem mj_d_136_28 : decode mj_m_136.2.1 28 = .ok (.iconst 1, 1) := by decide +kernel
theorem mj_d_136_29 : decode mj_m_136.2.1 29 = .ok (.ireturn, 1) := by decide +kernel
def dc_R_takes (s : sg_S) (a1 : Int) : sg_S × Int := (if ((dc_R_here s).2) = a1 then ((sg_up (dc_R_here s).1 234 11 (((dc_R_here s).1 234 11) + 1)), 1) else ((dc_R_fails (dc_R_here s).1 1 ((dc_R_here s).1 234 12)).1, (dc_R_fails (dc_R_here s).1 1 ((dc_R_here s).1 234 12)).2))
def dw_R_takes (a k : Nat) : Bool := dw_R_here a k || (a == 234 && k == 11) || dw_R_fails a k
theorem dr_R_takes (s : sg_S) (a1 : Int) (a k : Nat) (h : dw_R_takes a k = false) : (dc_R_takes s a1).1 a k = s a k := by
  have h0 := h
  unfold dw_R_takes at h
  simp only [Bool.or_eq_false_iff] at h
  obtain ⟨⟨h1, h2⟩, h3⟩ := h
  unfold dc_R_takes
  (repeat' split) <;> simp only [(fun s => dr_R_here s a k h1), (fun s z => sg_upf (s := s) (z := z) h2), (fun s x0 x1 => dr_R_fails s x0 x1 a k h3)]
set_option maxRecDepth 100000 in
theorem dt_R_takes {h : mj_H} (hH : sy_H h) {a1 : Int} (b_a1 : 59 ≤ a1) (t_a1 : a1 ≤ 59) : sy_wp (mj_m_136, 0, [(0, .ref 234), (1, sy_i a1)], [], h) (dq2 (0) (1) (dc_R_takes (sy_rd h) a1)) := by
  unfold dc_R_takes
  refine sy_st (S' := (mj_m_136, 1, [(0, .ref 234), (1, sy_i a1)], [.ref 234], h)) mj_d_136_0 (fun _ _ => rfl) ?_
  refine sy_cv (M' := mj_m_128) (vs := [.ref 234]) (rest := []) mj_d_136_1 rfl rfl rfl rfl hH rfl rfl ⟨by decide, ⟨Nat.le_of_ble_eq_true rfl, Nat.le_of_ble_eq_true rfl, Nat.le_of_ble_eq_true rfl, Nat.le_of_ble_eq_true rfl, Nat.le_of_ble_eq_true rfl⟩⟩ (dt_R_here hH) ?_
  rintro _ h1 ⟨th1, eh1, rfl, b2, b2t⟩
  show sy_wp (mj_m_136, 4, [(0, .ref 234), (1, sy_i a1)], [sy_i ((dc_R_here (sy_rd h)).2)], h1) _
  have hx := rt_hereX hH rfl
  refine sy_st (S' := (mj_m_136, 5, [(0, .ref 234), (1, sy_i a1)], [sy_i a1, sy_i ((dc_R_here (sy_rd h)).2)], h1)) mj_d_136_4 (fun _ _ => rfl) ?_
  refine sy_icm mj_d_136_5 rfl ⟨by omega, by omega⟩ ⟨by omega, by omega⟩ (fun (c3 : ((dc_R_here (sy_rd h)).2) = a1) => ?_) (fun (c3 : ¬ (((dc_R_here (sy_rd h)).2) = a1)) => ?_)
  · skip
    rw [if_pos c3]
    refine sy_st (S' := (mj_m_136, 19, [(0, .ref 234), (1, sy_i a1)], [.ref 234], h1)) mj_d_136_18 (fun _ _ => rfl) ?_
    refine sy_st (S' := (mj_m_136, 20, [(0, .ref 234), (1, sy_i a1)], [.ref 234, .ref 234], h1)) mj_d_136_19 (fun _ _ => rfl) ?_
    refine sy_gf mj_d_136_20 rfl rfl (by decide) rfl th1 ?_
    intro x4 ex4 bx4 tx4
    replace ex4 : x4 = sy_rd h1 234 11 := ex4
    rw [eh1] at ex4
    subst ex4
    refine sy_st (S' := (mj_m_136, 24, [(0, .ref 234), (1, sy_i a1)], [sy_i 1, sy_i ((dc_R_here (sy_rd h)).1 234 11), .ref 234], h1)) mj_d_136_23 (fun _ _ => rfl) ?_
    refine sy_add mj_d_136_24 ?_
    refine sg_pf (z := (((dc_R_here (sy_rd h)).1 234 11) + 1)) mj_d_136_25 rfl rfl (by decide) (Or.inl rfl) rfl th1 (by omega) (by omega) ⟨by omega, by omega⟩ ?_
    intro h5 th5 eh5
    rw [eh1] at eh5
    refine sy_st (S' := (mj_m_136, 29, [(0, .ref 234), (1, sy_i a1)], [sy_i 1], h5)) mj_d_136_28 (fun _ _ => rfl) ?_
    exact sy_retb mj_d_136_29 rfl ⟨by omega, by omega⟩ ⟨th5, eh5, rfl, by omega, by omega⟩
  · skip
    rw [if_neg c3]
    refine sy_st (S' := (mj_m_136, 9, [(0, .ref 234), (1, sy_i a1)], [.ref 234], h1)) mj_d_136_8 (fun _ _ => rfl) ?_
    refine sy_st (S' := (mj_m_136, 10, [(0, .ref 234), (1, sy_i a1)], [sy_i 1, .ref 234], h1)) mj_d_136_9 (fun _ _ => rfl) ?_
    refine sy_st (S' := (mj_m_136, 11, [(0, .ref 234), (1, sy_i a1)], [.ref 234, sy_i 1, .ref 234], h1)) mj_d_136_10 (fun _ _ => rfl) ?_
    refine sy_gf mj_d_136_11 rfl rfl (by decide) rfl th1 ?_
    intro x6 ex6 bx6 tx6
    replace ex6 : x6 = sy_rd h1 234 12 := ex6
    rw [eh1] at ex6
    subst ex6
    refine sy_cv (M' := mj_m_131) (vs := [.ref 234, sy_i 1, sy_i ((dc_R_here (sy_rd h)).1 234 12)]) (rest := []) mj_d_136_14 rfl rfl rfl rfl th1 rfl rfl ⟨by decide, ⟨Nat.le_of_ble_eq_true rfl, Nat.le_of_ble_eq_true rfl, Nat.le_of_ble_eq_true rfl, Nat.le_of_ble_eq_true rfl, Nat.le_of_ble_eq_true rfl⟩⟩ (dt_R_fails (a1 := 1) (a2 := ((dc_R_here (sy_rd h)).1 234 12)) th1 (by omega) (by omega) (by omega) (by omega)) ?_
    rintro _ h7 ⟨th7, eh7, rfl, b8, b8t⟩
    rw [eh1] at eh7 b8 b8t ⊢
    show sy_wp (mj_m_136, 17, [(0, .ref 234), (1, sy_i a1)], [sy_i ((dc_R_fails (dc_R_here (sy_rd h)).1 1 ((dc_R_here (sy_rd h)).1 234 12)).2)], h7) _
    exact sy_retb mj_d_136_17 rfl ⟨by omega, by omega⟩ ⟨th7, eh7, rfl, by omega, by omega⟩
def dc_R_takesNumber_32 (n : Nat) : sg_S → Int → Int → sg_S × Int := Nat.rec (fun (s : sg_S) l1 l2 => (s, 0)) (fun _ ih => fun s l1 l2 => (if (dc_R_in s (dc_R_letterAt s (s 234 11)) 48 57) = 0 then (if 4 ≤ ((s 234 11) - (s 234 12)) then (if ((dc_R_fails s 2 (s 234 12)).2) = 0 then ((dc_R_fails s 2 (s 234 12)).1, 0) else ((dc_R_fails s 2 (s 234 12)).1, 1)) else (if (dc_R_in s (s 234 13) l1 l2) = 0 then (if ((dc_R_fails s 2 (s 234 12)).2) = 0 then ((dc_R_fails s 2 (s 234 12)).1, 0) else ((dc_R_fails s 2 (s 234 12)).1, 1)) else (s, 1))) else (if 3 ≤ ((s 234 11) - (s 234 12)) then (ih (sg_up (sg_up s 234 13 (s 234 13)) 234 11 ((s 234 11) + 1)) l1 l2) else (ih (sg_up (sg_up s 234 13 (sy_w (((10 * (s 234 13)) + (dc_R_letterAt s (s 234 11))) - 48))) 234 11 ((s 234 11) + 1)) l1 l2)))) n
theorem dc_R_takesNumber_32_s (n : Nat) (s : sg_S) (l1 l2 : Int) : dc_R_takesNumber_32 (n + 1) s l1 l2 = (if (dc_R_in s (dc_R_letterAt s (s 234 11)) 48 57) = 0 then (if 4 ≤ ((s 234 11) - (s 234 12)) then (if ((dc_R_fails s 2 (s 234 12)).2) = 0 then ((dc_R_fails s 2 (s 234 12)).1, 0) else ((dc_R_fails s 2 (s 234 12)).1, 1)) else (if (dc_R_in s (s 234 13) l1 l2) = 0 then (if ((dc_R_fails s 2 (s 234 12)).2) = 0 then ((dc_R_fails s 2 (s 234 12)).1, 0) else ((dc_R_fails s 2 (s 234 12)).1, 1)) else (s, 1))) else (if 3 ≤ ((s 234 11) - (s 234 12)) then ((dc_R_takesNumber_32 n) (sg_up (sg_up s 234 13 (s 234 13)) 234 11 ((s 234 11) + 1)) l1 l2) else ((dc_R_takesNumber_32 n) (sg_up (sg_up s 234 13 (sy_w (((10 * (s 234 13)) + (dc_R_letterAt s (s 234 11))) - 48))) 234 11 ((s 234 11) + 1)) l1 l2))) := rfl
def dc_R_takesNumber (s : sg_S) (a1 a2 : Int) : sg_S × Int := (if (dc_R_in (dc_R_here s).1 ((dc_R_here s).2) 48 57) = 0 then ((dc_R_fails (dc_R_here s).1 1 ((dc_R_here s).1 234 12)).1, (dc_R_fails (dc_R_here s).1 1 ((dc_R_here s).1 234 12)).2) else (dc_R_takesNumber_32 241 (sg_up (dc_R_here s).1 234 13 0) a1 a2))
def dw_R_takesNumber (a k : Nat) : Bool := dw_R_here a k || (a == 234 && k == 13) || dw_R_fails a k || (a == 234 && k == 11)
theorem dr_R_takesNumber_32 (a k : Nat) (h : dw_R_takesNumber a k = false) : ∀ (n : Nat) (s : sg_S) (l1 l2 : Int), (dc_R_takesNumber_32 n s l1 l2).1 a k = s a k := by
  have h0 := h
  unfold dw_R_takesNumber at h
  simp only [Bool.or_eq_false_iff] at h
  obtain ⟨⟨⟨h1, h2⟩, h3⟩, h4⟩ := h
  intro n
  induction n with
  | zero => intro s l1 l2; rfl
  | succ n ih =>
    intro s l1 l2
    rw [dc_R_takesNumber_32_s]
    (repeat' split) <;> simp only [(fun s => dr_R_here s a k h1), (fun s z => sg_upf (s := s) (z := z) h2), (fun s x0 x1 => dr_R_fails s x0 x1 a k h3), (fun s z => sg_upf (s := s) (z := z) h4), ih]
theorem dr_R_takesNumber (s : sg_S) (a1 a2 : Int) (a k : Nat) (h : dw_R_takesNumber a k = false) : (dc_R_takesNumber s a1 a2).1 a k = s a k := by
  have h0 := h
  unfold dw_R_takesNumber at h
  simp only [Bool.or_eq_false_iff] at h
  obtain ⟨⟨⟨h1, h2⟩, h3⟩, h4⟩ := h
  unfold dc_R_takesNumber
  (repeat' split) <;> simp only [(fun s => dr_R_here s a k h1), (fun s z => sg_upf (s := s) (z := z) h2), (fun s x0 x1 => dr_R_fails s x0 x1 a k h3), (fun s z => sg_upf (s := s) (z := z) h4), (dr_R_takesNumber_32 a k h0)]
set_option maxRecDepth 100000 in
theorem dt_R_takesNumber_32 : ∀ (n : Nat) {h : mj_H} (hH : sy_H h) {l1 l2 : Int} (b_l1 : 0 ≤ l1) (t_l1 : l1 ≤ 0) (b_l2 : 0 ≤ l2) (t_l2 : l2 ≤ 511) (hm : 240 - (sy_rd h 234 11) < (n : Int)), sy_wp (mj_m_133, 32, [(0, .ref 234), (1, sy_i l1), (2, sy_i l2)], [], h) (dq2 (0) (1) (dc_R_takesNumber_32 n (sy_rd h) l1 l2)) := by
  intro n
  induction n with
  | zero =>
    intro h hH l1 l2 b_l1 t_l1 b_l2 t_l2 hm
    have n234_10 := hH.bd (a := 234) (k := 10) rfl (by decide) rfl
    have n234_11 := hH.bd (a := 234) (k := 11) rfl (by decide) rfl
    exact absurd hm (by omega)
  | succ n ih =>
    intro h hH l1 l2 b_l1 t_l1 b_l2 t_l2 hm
    rw [dc_R_takesNumber_32_s]
    have n234_10 := hH.bd (a := 234) (k := 10) rfl (by decide) rfl
    have n234_11 := hH.bd (a := 234) (k := 11) rfl (by decide) rfl
    refine sy_st (S' := (mj_m_133, 33, [(0, .ref 234), (1, sy_i l1), (2, sy_i l2)], [.ref 234], h)) mj_d_133_32 (fun _ _ => rfl) ?_
    refine sy_st (S' := (mj_m_133, 34, [(0, .ref 234), (1, sy_i l1), (2, sy_i l2)], [.ref 234, .ref 234], h)) mj_d_133_33 (fun _ _ => rfl) ?_
    refine sy_gf mj_d_133_34 rfl rfl (by decide) rfl hH ?_
    intro x1 ex1 bx1 tx1
    replace ex1 : x1 = sy_rd h 234 11 := ex1
    subst ex1
    refine sy_cv (M' := mj_m_129) (vs := [.ref 234, sy_i (sy_rd h 234 11)]) (rest := []) mj_d_133_37 rfl rfl rfl rfl hH rfl rfl ⟨by decide, ⟨Nat.le_of_ble_eq_true rfl, Nat.le_of_ble_eq_true rfl, Nat.le_of_ble_eq_true rfl, Nat.le_of_ble_eq_true rfl, Nat.le_of_ble_eq_true rfl⟩⟩ (dt_R_letterAt (a1 := (sy_rd h 234 11)) hH (by omega) (by omega)) ?_
    rintro _ _ ⟨rfl, rfl, b2, b2t⟩
    have q3 := df_R_letterAt_0 (sy_rd h) (sy_rd h 234 11)
    show sy_wp (mj_m_133, 40, [(0, .ref 234), (1, sy_i l1), (2, sy_i l2)], [sy_i (dc_R_letterAt (sy_rd h) (sy_rd h 234 11))], h) _
    refine sy_i2l mj_d_133_40 ⟨by omega, by omega⟩ ?_
    refine sy_ldc2 (n := 48) mj_d_133_41 rfl (by decide) ?_
    refine sy_ldc2 (n := 57) mj_d_133_44 rfl (by decide) ?_
    refine sy_cs (M' := mj_m_126) (vs := [sy_l (dc_R_letterAt (sy_rd h) (sy_rd h 234 11)), sy_l 48, sy_l 57]) (rest := []) mj_d_133_47 rfl rfl rfl rfl ⟨Nat.le_of_ble_eq_true rfl, Nat.le_of_ble_eq_true rfl, Nat.le_of_ble_eq_true rfl, Nat.le_of_ble_eq_true rfl, Nat.le_of_ble_eq_true rfl⟩ (dt_R_in (a0 := (dc_R_letterAt (sy_rd h) (sy_rd h 234 11))) (a1 := 48) (a2 := 57) hH (by omega) (by omega) (by omega) (by omega) (by omega) (by omega)) ?_
    rintro _ _ ⟨rfl, rfl, b4, b4t⟩
    have q5 := df_R_in_0 (sy_rd h) (dc_R_letterAt (sy_rd h) (sy_rd h 234 11)) 48 57
    show sy_wp (mj_m_133, 50, [(0, .ref 234), (1, sy_i l1), (2, sy_i l2)], [sy_i (dc_R_in (sy_rd h) (dc_R_letterAt (sy_rd h) (sy_rd h 234 11)) 48 57)], h) _
    refine sy_ifc mj_d_133_50 rfl ⟨by omega, by omega⟩ (fun (c6 : (dc_R_in (sy_rd h) (dc_R_letterAt (sy_rd h) (sy_rd h 234 11)) 48 57) = 0) => ?_) (fun (c6 : ¬ ((dc_R_in (sy_rd h) (dc_R_letterAt (sy_rd h) (sy_rd h 234 11)) 48 57) = 0)) => ?_)
    · skip
      rw [if_pos c6]
      refine sy_st (S' := (mj_m_133, 110, [(0, .ref 234), (1, sy_i l1), (2, sy_i l2)], [.ref 234], h)) mj_d_133_109 (fun _ _ => rfl) ?_
      refine sy_gf mj_d_133_110 rfl rfl (by decide) rfl hH ?_
      intro x7 ex7 bx7 tx7
      replace ex7 : x7 = sy_rd h 234 11 := ex7
      subst ex7
      refine sy_st (S' := (mj_m_133, 114, [(0, .ref 234), (1, sy_i l1), (2, sy_i l2)], [.ref 234, sy_i (sy_rd h 234 11)], h)) mj_d_133_113 (fun _ _ => rfl) ?_
      refine sy_gf mj_d_133_114 rfl rfl (by decide) rfl hH ?_
      intro x8 ex8 bx8 tx8
      replace ex8 : x8 = sy_rd h 234 12 := ex8
      subst ex8
      refine sy_sub mj_d_133_117 ?_
      refine sy_st (S' := (mj_m_133, 119, [(0, .ref 234), (1, sy_i l1), (2, sy_i l2)], [sy_i 4, sy_i ((sy_rd h 234 11) - (sy_rd h 234 12))], h)) mj_d_133_118 (fun _ _ => rfl) ?_
      refine sy_icm mj_d_133_119 rfl ⟨by omega, by omega⟩ ⟨by omega, by omega⟩ (fun (c9 : 4 ≤ ((sy_rd h 234 11) - (sy_rd h 234 12))) => ?_) (fun (c9 : ¬ (4 ≤ ((sy_rd h 234 11) - (sy_rd h 234 12)))) => ?_)
      · skip
        rw [if_pos c9]
        refine sy_st (S' := (mj_m_133, 138, [(0, .ref 234), (1, sy_i l1), (2, sy_i l2)], [.ref 234], h)) mj_d_133_137 (fun _ _ => rfl) ?_
        refine sy_st (S' := (mj_m_133, 139, [(0, .ref 234), (1, sy_i l1), (2, sy_i l2)], [sy_i 2, .ref 234], h)) mj_d_133_138 (fun _ _ => rfl) ?_
        refine sy_st (S' := (mj_m_133, 140, [(0, .ref 234), (1, sy_i l1), (2, sy_i l2)], [.ref 234, sy_i 2, .ref 234], h)) mj_d_133_139 (fun _ _ => rfl) ?_
        refine sy_gf mj_d_133_140 rfl rfl (by decide) rfl hH ?_
        intro x10 ex10 bx10 tx10
        replace ex10 : x10 = sy_rd h 234 12 := ex10
        subst ex10
        refine sy_cv (M' := mj_m_131) (vs := [.ref 234, sy_i 2, sy_i (sy_rd h 234 12)]) (rest := []) mj_d_133_143 rfl rfl rfl rfl hH rfl rfl ⟨by decide, ⟨Nat.le_of_ble_eq_true rfl, Nat.le_of_ble_eq_true rfl, Nat.le_of_ble_eq_true rfl, Nat.le_of_ble_eq_true rfl, Nat.le_of_ble_eq_true rfl⟩⟩ (dt_R_fails (a1 := 2) (a2 := (sy_rd h 234 12)) hH (by omega) (by omega) (by omega) (by omega)) ?_
        rintro _ h11 ⟨th11, eh11, rfl, b12, b12t⟩
        show sy_wp (mj_m_133, 146, [(0, .ref 234), (1, sy_i l1), (2, sy_i l2)], [sy_i ((dc_R_fails (sy_rd h) 2 (sy_rd h 234 12)).2)], h11) _
        refine sy_ifc mj_d_133_146 rfl ⟨by omega, by omega⟩ (fun (c13 : ((dc_R_fails (sy_rd h) 2 (sy_rd h 234 12)).2) = 0) => ?_) (fun (c13 : ¬ (((dc_R_fails (sy_rd h) 2 (sy_rd h 234 12)).2) = 0)) => ?_)
        · skip
          rw [if_pos c13]
          refine sy_st (S' := (mj_m_133, 154, [(0, .ref 234), (1, sy_i l1), (2, sy_i l2)], [sy_i 0], h11)) mj_d_133_153 (fun _ _ => rfl) ?_
          exact sy_retb mj_d_133_154 rfl ⟨by omega, by omega⟩ ⟨th11, eh11, rfl, by omega, by omega⟩
        · skip
          rw [if_neg c13]
          refine sy_st (S' := (mj_m_133, 150, [(0, .ref 234), (1, sy_i l1), (2, sy_i l2)], [sy_i 1], h11)) mj_d_133_149 (fun _ _ => rfl) ?_
          refine sy_st (S' := (mj_m_133, 154, [(0, .ref 234), (1, sy_i l1), (2, sy_i l2)], [sy_i 1], h11)) mj_d_133_150 (fun _ _ => rfl) ?_
          exact sy_retb mj_d_133_154 rfl ⟨by omega, by omega⟩ ⟨th11, eh11, rfl, by omega, by omega⟩
      · skip
        rw [if_neg c9]
        refine sy_st (S' := (mj_m_133, 123, [(0, .ref 234), (1, sy_i l1), (2, sy_i l2)], [.ref 234], h)) mj_d_133_122 (fun _ _ => rfl) ?_
        refine sy_gf mj_d_133_123 rfl rfl (by decide) rfl hH ?_
        intro x14 ex14 bx14 tx14
        replace ex14 : x14 = sy_rd h 234 13 := ex14
        subst ex14
        refine sy_i2l mj_d_133_126 ⟨by omega, by omega⟩ ?_
        refine sy_st (S' := (mj_m_133, 128, [(0, .ref 234), (1, sy_i l1), (2, sy_i l2)], [sy_i l1, sy_l (sy_rd h 234 13)], h)) mj_d_133_127 (fun _ _ => rfl) ?_
        refine sy_i2l mj_d_133_128 ⟨by omega, by omega⟩ ?_
        refine sy_st (S' := (mj_m_133, 130, [(0, .ref 234), (1, sy_i l1), (2, sy_i l2)], [sy_i l2, sy_l l1, sy_l (sy_rd h 234 13)], h)) mj_d_133_129 (fun _ _ => rfl) ?_
        refine sy_i2l mj_d_133_130 ⟨by omega, by omega⟩ ?_
        refine sy_cs (M' := mj_m_126) (vs := [sy_l (sy_rd h 234 13), sy_l l1, sy_l l2]) (rest := []) mj_d_133_131 rfl rfl rfl rfl ⟨Nat.le_of_ble_eq_true rfl, Nat.le_of_ble_eq_true rfl, Nat.le_of_ble_eq_true rfl, Nat.le_of_ble_eq_true rfl, Nat.le_of_ble_eq_true rfl⟩ (dt_R_in (a0 := (sy_rd h 234 13)) (a1 := l1) (a2 := l2) hH (by omega) (by omega) (by omega) (by omega) (by omega) (by omega)) ?_
        rintro _ _ ⟨rfl, rfl, b15, b15t⟩
        have q16 := df_R_in_0 (sy_rd h) (sy_rd h 234 13) l1 l2
        show sy_wp (mj_m_133, 134, [(0, .ref 234), (1, sy_i l1), (2, sy_i l2)], [sy_i (dc_R_in (sy_rd h) (sy_rd h 234 13) l1 l2)], h) _
        refine sy_ifc mj_d_133_134 rfl ⟨by omega, by omega⟩ (fun (c17 : ¬ ((dc_R_in (sy_rd h) (sy_rd h 234 13) l1 l2) = 0)) => ?_) (fun (c17 : ¬ ¬ ((dc_R_in (sy_rd h) (sy_rd h 234 13) l1 l2) = 0)) => ?_)
        · skip
          rw [if_neg c17]
          refine sy_st (S' := (mj_m_133, 150, [(0, .ref 234), (1, sy_i l1), (2, sy_i l2)], [sy_i 1], h)) mj_d_133_149 (fun _ _ => rfl) ?_
          refine sy_st (S' := (mj_m_133, 154, [(0, .ref 234), (1, sy_i l1), (2, sy_i l2)], [sy_i 1], h)) mj_d_133_150 (fun _ _ => rfl) ?_
          exact sy_retb mj_d_133_154 rfl ⟨by omega, by omega⟩ ⟨hH, rfl, rfl, by omega, by omega⟩
        · skip
          rw [if_pos (Decidable.not_not.mp c17)]
          replace c17 := Decidable.not_not.mp c17
          refine sy_st (S' := (mj_m_133, 138, [(0, .ref 234), (1, sy_i l1), (2, sy_i l2)], [.ref 234], h)) mj_d_133_137 (fun _ _ => rfl) ?_
          refine sy_st (S' := (mj_m_133, 139, [(0, .ref 234), (1, sy_i l1), (2, sy_i l2)], [sy_i 2, .ref 234], h)) mj_d_133_138 (fun _ _ => rfl) ?_
          refine sy_st (S' := (mj_m_133, 140, [(0, .ref 234), (1, sy_i l1), (2, sy_i l2)], [.ref 234, sy_i 2, .ref 234], h)) mj_d_133_139 (fun _ _ => rfl) ?_
          refine sy_gf mj_d_133_140 rfl rfl (by decide) rfl hH ?_
          intro x18 ex18 bx18 tx18
          replace ex18 : x18 = sy_rd h 234 12 := ex18
          subst ex18
          refine sy_cv (M' := mj_m_131) (vs := [.ref 234, sy_i 2, sy_i (sy_rd h 234 12)]) (rest := []) mj_d_133_143 rfl rfl rfl rfl hH rfl rfl ⟨by decide, ⟨Nat.le_of_ble_eq_true rfl, Nat.le_of_ble_eq_true rfl, Nat.le_of_ble_eq_true rfl, Nat.le_of_ble_eq_true rfl, Nat.le_of_ble_eq_true rfl⟩⟩ (dt_R_fails (a1 := 2) (a2 := (sy_rd h 234 12)) hH (by omega) (by omega) (by omega) (by omega)) ?_
          rintro _ h19 ⟨th19, eh19, rfl, b20, b20t⟩
          show sy_wp (mj_m_133, 146, [(0, .ref 234), (1, sy_i l1), (2, sy_i l2)], [sy_i ((dc_R_fails (sy_rd h) 2 (sy_rd h 234 12)).2)], h19) _
          refine sy_ifc mj_d_133_146 rfl ⟨by omega, by omega⟩ (fun (c21 : ((dc_R_fails (sy_rd h) 2 (sy_rd h 234 12)).2) = 0) => ?_) (fun (c21 : ¬ (((dc_R_fails (sy_rd h) 2 (sy_rd h 234 12)).2) = 0)) => ?_)
          · skip
            rw [if_pos c21]
            refine sy_st (S' := (mj_m_133, 154, [(0, .ref 234), (1, sy_i l1), (2, sy_i l2)], [sy_i 0], h19)) mj_d_133_153 (fun _ _ => rfl) ?_
            exact sy_retb mj_d_133_154 rfl ⟨by omega, by omega⟩ ⟨th19, eh19, rfl, by omega, by omega⟩
          · skip
            rw [if_neg c21]
            refine sy_st (S' := (mj_m_133, 150, [(0, .ref 234), (1, sy_i l1), (2, sy_i l2)], [sy_i 1], h19)) mj_d_133_149 (fun _ _ => rfl) ?_
            refine sy_st (S' := (mj_m_133, 154, [(0, .ref 234), (1, sy_i l1), (2, sy_i l2)], [sy_i 1], h19)) mj_d_133_150 (fun _ _ => rfl) ?_
            exact sy_retb mj_d_133_154 rfl ⟨by omega, by omega⟩ ⟨th19, eh19, rfl, by omega, by omega⟩
    · skip
      rw [if_neg c6]
      refine sy_st (S' := (mj_m_133, 54, [(0, .ref 234), (1, sy_i l1), (2, sy_i l2)], [.ref 234], h)) mj_d_133_53 (fun _ _ => rfl) ?_
      refine sy_st (S' := (mj_m_133, 55, [(0, .ref 234), (1, sy_i l1), (2, sy_i l2)], [.ref 234, .ref 234], h)) mj_d_133_54 (fun _ _ => rfl) ?_
      refine sy_gf mj_d_133_55 rfl rfl (by decide) rfl hH ?_
      intro x22 ex22 bx22 tx22
      replace ex22 : x22 = sy_rd h 234 11 := ex22
      subst ex22
      refine sy_st (S' := (mj_m_133, 59, [(0, .ref 234), (1, sy_i l1), (2, sy_i l2)], [.ref 234, sy_i (sy_rd h 234 11), .ref 234], h)) mj_d_133_58 (fun _ _ => rfl) ?_
      refine sy_gf mj_d_133_59 rfl rfl (by decide) rfl hH ?_
      intro x23 ex23 bx23 tx23
      replace ex23 : x23 = sy_rd h 234 12 := ex23
      subst ex23
      refine sy_sub mj_d_133_62 ?_
      refine sy_st (S' := (mj_m_133, 64, [(0, .ref 234), (1, sy_i l1), (2, sy_i l2)], [sy_i 3, sy_i ((sy_rd h 234 11) - (sy_rd h 234 12)), .ref 234], h)) mj_d_133_63 (fun _ _ => rfl) ?_
      refine sy_icm mj_d_133_64 rfl ⟨by omega, by omega⟩ ⟨by omega, by omega⟩ (fun (c24 : 3 ≤ ((sy_rd h 234 11) - (sy_rd h 234 12))) => ?_) (fun (c24 : ¬ (3 ≤ ((sy_rd h 234 11) - (sy_rd h 234 12)))) => ?_)
      · skip
        rw [if_pos c24]
        refine sy_st (S' := (mj_m_133, 90, [(0, .ref 234), (1, sy_i l1), (2, sy_i l2)], [.ref 234, .ref 234], h)) mj_d_133_89 (fun _ _ => rfl) ?_
        refine sy_gf mj_d_133_90 rfl rfl (by decide) rfl hH ?_
        intro x25 ex25 bx25 tx25
        replace ex25 : x25 = sy_rd h 234 13 := ex25
        subst ex25
        refine sg_pf (z := (sy_rd h 234 13)) mj_d_133_93 rfl rfl (by decide) (Or.inl rfl) rfl hH (by omega) (by omega) ⟨by omega, by omega⟩ ?_
        intro h26 th26 eh26
        refine sy_st (S' := (mj_m_133, 97, [(0, .ref 234), (1, sy_i l1), (2, sy_i l2)], [.ref 234], h26)) mj_d_133_96 (fun _ _ => rfl) ?_
        refine sy_st (S' := (mj_m_133, 98, [(0, .ref 234), (1, sy_i l1), (2, sy_i l2)], [.ref 234, .ref 234], h26)) mj_d_133_97 (fun _ _ => rfl) ?_
        refine sy_gf mj_d_133_98 rfl rfl (by decide) rfl th26 ?_
        intro x27 ex27 bx27 tx27
        replace ex27 : x27 = sy_rd h26 234 11 := ex27
        rw [eh26, sg_nk (by decide)] at ex27
        subst ex27
        refine sy_st (S' := (mj_m_133, 102, [(0, .ref 234), (1, sy_i l1), (2, sy_i l2)], [sy_i 1, sy_i (sy_rd h 234 11), .ref 234], h26)) mj_d_133_101 (fun _ _ => rfl) ?_
        refine sy_add mj_d_133_102 ?_
        refine sg_pf (z := ((sy_rd h 234 11) + 1)) mj_d_133_103 rfl rfl (by decide) (Or.inl rfl) rfl th26 (by omega) (by omega) ⟨by omega, by omega⟩ ?_
        intro h28 th28 eh28
        rw [eh26] at eh28
        refine sy_st (S' := (mj_m_133, 32, [(0, .ref 234), (1, sy_i l1), (2, sy_i l2)], [], h28)) mj_d_133_106 (fun _ _ => rfl) ?_
        refine sy_lv (lv := [(0, .ref 234), (1, sy_i l1), (2, sy_i l2)]) rfl ⟨rfl, rfl, rfl, trivial⟩ ?_
        rw [← eh28]
        exact ih th28 (by first | omega | assumption) (by first | omega | assumption) (by first | omega | assumption) (by first | omega | assumption) (by rw [eh28, sg_eq]; omega)
      · skip
        rw [if_neg c24]
        refine sy_bip mj_d_133_67 (by decide) ?_
        refine sy_st (S' := (mj_m_133, 70, [(0, .ref 234), (1, sy_i l1), (2, sy_i l2)], [.ref 234, sy_i 10, .ref 234], h)) mj_d_133_69 (fun _ _ => rfl) ?_
        refine sy_gf mj_d_133_70 rfl rfl (by decide) rfl hH ?_
        intro x29 ex29 bx29 tx29
        replace ex29 : x29 = sy_rd h 234 13 := ex29
        subst ex29
        refine sy_mul mj_d_133_73 ?_
        refine sy_st (S' := (mj_m_133, 75, [(0, .ref 234), (1, sy_i l1), (2, sy_i l2)], [.ref 234, sy_i (10 * (sy_rd h 234 13)), .ref 234], h)) mj_d_133_74 (fun _ _ => rfl) ?_
        refine sy_st (S' := (mj_m_133, 76, [(0, .ref 234), (1, sy_i l1), (2, sy_i l2)], [.ref 234, .ref 234, sy_i (10 * (sy_rd h 234 13)), .ref 234], h)) mj_d_133_75 (fun _ _ => rfl) ?_
        refine sy_gf mj_d_133_76 rfl rfl (by decide) rfl hH ?_
        intro x30 ex30 bx30 tx30
        replace ex30 : x30 = sy_rd h 234 11 := ex30
        subst ex30
        refine sy_cv (M' := mj_m_129) (vs := [.ref 234, sy_i (sy_rd h 234 11)]) (rest := [sy_i (10 * (sy_rd h 234 13)), .ref 234]) mj_d_133_79 rfl rfl rfl rfl hH rfl rfl ⟨by decide, ⟨Nat.le_of_ble_eq_true rfl, Nat.le_of_ble_eq_true rfl, Nat.le_of_ble_eq_true rfl, Nat.le_of_ble_eq_true rfl, Nat.le_of_ble_eq_true rfl⟩⟩ (dt_R_letterAt (a1 := (sy_rd h 234 11)) hH (by omega) (by omega)) ?_
        rintro _ _ ⟨rfl, rfl, b31, b31t⟩
        have q32 := df_R_letterAt_0 (sy_rd h) (sy_rd h 234 11)
        show sy_wp (mj_m_133, 82, [(0, .ref 234), (1, sy_i l1), (2, sy_i l2)], [sy_i (dc_R_letterAt (sy_rd h) (sy_rd h 234 11)), sy_i (10 * (sy_rd h 234 13)), .ref 234], h) _
        refine sy_add mj_d_133_82 ?_
        refine sy_bip mj_d_133_83 (by decide) ?_
        refine sy_sub mj_d_133_85 ?_
        refine sy_st (S' := (mj_m_133, 93, [(0, .ref 234), (1, sy_i l1), (2, sy_i l2)], [sy_i (((10 * (sy_rd h 234 13)) + (dc_R_letterAt (sy_rd h) (sy_rd h 234 11))) - 48), .ref 234], h)) mj_d_133_86 (fun _ _ => rfl) ?_
        refine sg_pfw (z := (((10 * (sy_rd h 234 13)) + (dc_R_letterAt (sy_rd h) (sy_rd h 234 11))) - 48)) mj_d_133_93 rfl rfl (by decide) rfl rfl hH ?_
        intro h33 th33 eh33
        refine sy_st (S' := (mj_m_133, 97, [(0, .ref 234), (1, sy_i l1), (2, sy_i l2)], [.ref 234], h33)) mj_d_133_96 (fun _ _ => rfl) ?_
        refine sy_st (S' := (mj_m_133, 98, [(0, .ref 234), (1, sy_i l1), (2, sy_i l2)], [.ref 234, .ref 234], h33)) mj_d_133_97 (fun _ _ => rfl) ?_
        refine sy_gf mj_d_133_98 rfl rfl (by decide) rfl th33 ?_
        intro x34 ex34 bx34 tx34
        replace ex34 : x34 = sy_rd h33 234 11 := ex34
        rw [eh33, sg_nk (by decide)] at ex34
        subst ex34
        refine sy_st (S' := (mj_m_133, 102, [(0, .ref 234), (1, sy_i l1), (2, sy_i l2)], [sy_i 1, sy_i (sy_rd h 234 11), .ref 234], h33)) mj_d_133_101 (fun _ _ => rfl) ?_
        refine sy_add mj_d_133_102 ?_
        refine sg_pf (z := ((sy_rd h 234 11) + 1)) mj_d_133_103 rfl rfl (by decide) (Or.inl rfl) rfl th33 (by omega) (by omega) ⟨by omega, by omega⟩ ?_
        intro h35 th35 eh35
        rw [eh33] at eh35
        refine sy_st (S' := (mj_m_133, 32, [(0, .ref 234), (1, sy_i l1), (2, sy_i l2)], [], h35)) mj_d_133_106 (fun _ _ => rfl) ?_
        refine sy_lv (lv := [(0, .ref 234), (1, sy_i l1), (2, sy_i l2)]) rfl ⟨rfl, rfl, rfl, trivial⟩ ?_
        rw [← eh35]
        exact ih th35 (by first | omega | assumption) (by first | omega | assumption) (by first | omega | assumption) (by first | omega | assumption) (by rw [eh35, sg_eq]; omega)
set_option maxRecDepth 100000 in
theorem dt_R_takesNumber {h : mj_H} (hH : sy_H h) {a1 a2 : Int} (b_a1 : 0 ≤ a1) (t_a1 : a1 ≤ 0) (b_a2 : 0 ≤ a2) (t_a2 : a2 ≤ 511) : sy_wp (mj_m_133, 0, [(0, .ref 234), (1, sy_i a1), (2, sy_i a2)], [], h) (dq2 (0) (1) (dc_R_takesNumber (sy_rd h) a1 a2)) := by
  unfold dc_R_takesNumber
  refine sy_st (S' := (mj_m_133, 1, [(0, .ref 234), (1, sy_i a1), (2, sy_i a2)], [.ref 234], h)) mj_d_133_0 (fun _ _ => rfl) ?_
  refine sy_cv (M' := mj_m_128) (vs := [.ref 234]) (rest := []) mj_d_133_1 rfl rfl rfl rfl hH rfl rfl ⟨by decide, ⟨Nat.le_of_ble_eq_true rfl, Nat.le_of_ble_eq_true rfl, Nat.le_of_ble_eq_true rfl, Nat.le_of_ble_eq_true rfl, Nat.le_of_ble_eq_true rfl⟩⟩ (dt_R_here hH) ?_
  rintro _ h1 ⟨th1, eh1, rfl, b2, b2t⟩
  show sy_wp (mj_m_133, 4, [(0, .ref 234), (1, sy_i a1), (2, sy_i a2)], [sy_i ((dc_R_here (sy_rd h)).2)], h1) _
  refine sy_i2l mj_d_133_4 ⟨by omega, by omega⟩ ?_
  refine sy_ldc2 (n := 48) mj_d_133_5 rfl (by decide) ?_
  refine sy_ldc2 (n := 57) mj_d_133_8 rfl (by decide) ?_
  refine sy_cs (M' := mj_m_126) (vs := [sy_l ((dc_R_here (sy_rd h)).2), sy_l 48, sy_l 57]) (rest := []) mj_d_133_11 rfl rfl rfl rfl ⟨Nat.le_of_ble_eq_true rfl, Nat.le_of_ble_eq_true rfl, Nat.le_of_ble_eq_true rfl, Nat.le_of_ble_eq_true rfl, Nat.le_of_ble_eq_true rfl⟩ (dt_R_in (a0 := (dc_R_here (sy_rd h)).2) (a1 := 48) (a2 := 57) th1 (by omega) (by omega) (by omega) (by omega) (by omega) (by omega)) ?_
  rintro _ _ ⟨rfl, rfl, b3, b3t⟩
  rw [eh1] at b3 b3t ⊢
  have q4 := df_R_in_0 (dc_R_here (sy_rd h)).1 ((dc_R_here (sy_rd h)).2) 48 57
  show sy_wp (mj_m_133, 14, [(0, .ref 234), (1, sy_i a1), (2, sy_i a2)], [sy_i (dc_R_in (dc_R_here (sy_rd h)).1 ((dc_R_here (sy_rd h)).2) 48 57)], h1) _
  refine sy_ifc mj_d_133_14 rfl ⟨by omega, by omega⟩ (fun (c5 : ¬ ((dc_R_in (dc_R_here (sy_rd h)).1 ((dc_R_here (sy_rd h)).2) 48 57) = 0)) => ?_) (fun (c5 : ¬ ¬ ((dc_R_in (dc_R_here (sy_rd h)).1 ((dc_R_here (sy_rd h)).2) 48 57) = 0)) => ?_)
  · skip
    rw [if_neg c5]
    refine sy_st (S' := (mj_m_133, 28, [(0, .ref 234), (1, sy_i a1), (2, sy_i a2)], [.ref 234], h1)) mj_d_133_27 (fun _ _ => rfl) ?_
    refine sy_st (S' := (mj_m_133, 29, [(0, .ref 234), (1, sy_i a1), (2, sy_i a2)], [sy_i 0, .ref 234], h1)) mj_d_133_28 (fun _ _ => rfl) ?_
    refine sg_pf (z := 0) mj_d_133_29 rfl rfl (by decide) (Or.inl rfl) rfl th1 (by omega) (by omega) ⟨by omega, by omega⟩ ?_
    intro h6 th6 eh6
    rw [eh1] at eh6
    refine sy_lv (lv := [(0, .ref 234), (1, sy_i a1), (2, sy_i a2)]) rfl ⟨rfl, rfl, rfl, trivial⟩ ?_
    rw [← eh6]
    exact dt_R_takesNumber_32 241 th6 (by first | omega | assumption) (by first | omega | assumption) (by first | omega | assumption) (by first | omega | assumption) (by have := (th6).bd (a := 234) (k := 11) rfl (by decide) rfl; omega)
  · skip
    rw [if_pos (Decidable.not_not.mp c5)]
    replace c5 := Decidable.not_not.mp c5
    refine sy_st (S' := (mj_m_133, 18, [(0, .ref 234), (1, sy_i a1), (2, sy_i a2)], [.ref 234], h1)) mj_d_133_17 (fun _ _ => rfl) ?_
    refine sy_st (S' := (mj_m_133, 19, [(0, .ref 234), (1, sy_i a1), (2, sy_i a2)], [sy_i 1, .ref 234], h1)) mj_d_133_18 (fun _ _ => rfl) ?_
    refine sy_st (S' := (mj_m_133, 20, [(0, .ref 234), (1, sy_i a1), (2, sy_i a2)], [.ref 234, sy_i 1, .ref 234], h1)) mj_d_133_19 (fun _ _ => rfl) ?_
    refine sy_gf mj_d_133_20 rfl rfl (by decide) rfl th1 ?_
    intro x7 ex7 bx7 tx7
    replace ex7 : x7 = sy_rd h1 234 12 := ex7
    rw [eh1] at ex7
    subst ex7
    refine sy_cv (M' := mj_m_131) (vs := [.ref 234, sy_i 1, sy_i ((dc_R_here (sy_rd h)).1 234 12)]) (rest := []) mj_d_133_23 rfl rfl rfl rfl th1 rfl rfl ⟨by decide, ⟨Nat.le_of_ble_eq_true rfl, Nat.le_of_ble_eq_true rfl, Nat.le_of_ble_eq_true rfl, Nat.le_of_ble_eq_true rfl, Nat.le_of_ble_eq_true rfl⟩⟩ (dt_R_fails (a1 := 1) (a2 := ((dc_R_here (sy_rd h)).1 234 12)) th1 (by omega) (by omega) (by omega) (by omega)) ?_
    rintro _ h8 ⟨th8, eh8, rfl, b9, b9t⟩
    rw [eh1] at eh8 b9 b9t ⊢
    show sy_wp (mj_m_133, 26, [(0, .ref 234), (1, sy_i a1), (2, sy_i a2)], [sy_i ((dc_R_fails (dc_R_here (sy_rd h)).1 1 ((dc_R_here (sy_rd h)).1 234 12)).2)], h8) _
    exact sy_retb mj_d_133_26 rfl ⟨by omega, by omega⟩ ⟨th8, eh8, rfl, by omega, by omega⟩
