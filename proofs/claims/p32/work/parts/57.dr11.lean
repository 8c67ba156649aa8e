def mj_m_166 : mj_M := (⟨"SootMapsModel", "burned", "(III)I"⟩, prog_13_method_46_code, 7, (some .int), 10, 3, 1, 5, 117)
def mj_m_168 : mj_M := (⟨"SootMapsModel", "sure", "(III)I"⟩, prog_13_method_47_code, 6, (some .int), 10, 3, 1, 5, 117)
theorem mj_d_166_0 : decode mj_m_166.2.1 0 = .ok (.aload_n 0, 1) := by decide +kernel
theorem mj_d_166_1 : decode mj_m_166.2.1 1 = .ok (.iload_n 1, 1) := by decide +kernel
theorem mj_d_166_2 : decode mj_m_166.2.1 2 = .ok (.invokevirtual 174, 3) := by decide +kernel
theorem mj_d_166_5 : decode mj_m_166.2.1 5 = .ok (.ifCond .ne 6, 3) := by decide +kernel
theorem mj_d_166_8 : decode mj_m_166.2.1 8 = .ok (.ldc 177, 2) := by decide +kernel
theorem mj_d_166_10 : decode mj_m_166.2.1 10 = .ok (.ireturn, 1) := by decide +kernel
theorem mj_d_166_11 : decode mj_m_166.2.1 11 = .ok (.iload_n 2, 1) := by decide +kernel
theorem mj_d_166_12 : decode mj_m_166.2.1 12 = .ok (.i2l, 1) := by decide +kernel
theorem mj_d_166_13 : decode mj_m_166.2.1 13 = .ok (.lconst 1, 1) := by decide +kernel
theorem mj_d_166_14 : decode mj_m_166.2.1 14 = .ok (.ldc2_w 236, 3) := by decide +kernel
theorem mj_d_166_17 : decode mj_m_166.2.1 17 = .ok (.invokestatic 79, 3) := by decide +kernel
theorem mj_d_166_20 : decode mj_m_166.2.1 20 = .ok (.ifCond .ne 6, 3) := by decide +kernel
theorem mj_d_166_23 : decode mj_m_166.2.1 23 = .ok (.ldc 88, 2) := by decide +kernel
theorem mj_d_166_25 : decode mj_m_166.2.1 25 = .ok (.ireturn, 1) := by decide +kernel
theorem mj_d_166_26 : decode mj_m_166.2.1 26 = .ok (.iconst 0, 1) := by decide +kernel
theorem mj_d_166_27 : decode mj_m_166.2.1 27 = .ok (.istore 4, 2) := by decide +kernel
theorem mj_d_166_29 : decode mj_m_166.2.1 29 = .ok (.iconst (-1), 1) := by decide +kernel
theorem mj_d_166_30 : decode mj_m_166.2.1 30 = .ok (.istore 5, 2) := by decide +kernel
theorem mj_d_166_32 : decode mj_m_166.2.1 32 = .ok (.iconst 0, 1) := by decide +kernel
theorem mj_d_166_33 : decode mj_m_166.2.1 33 = .ok (.istore 6, 2) := by decide +kernel
theorem mj_d_166_35 : decode mj_m_166.2.1 35 = .ok (.iload 6, 2) := by decide +kernel
theorem mj_d_166_37 : decode mj_m_166.2.1 37 = .ok (.iconst 1, 1) := by decide +kernel
theorem mj_d_166_38 : decode mj_m_166.2.1 38 = .ok (.iconst 3, 1) := by decide +kernel
theorem mj_d_166_39 : decode mj_m_166.2.1 39 = .ok (.iload_n 2, 1) := by decide +kernel
theorem mj_d_166_40 : decode mj_m_166.2.1 40 = .ok (.imul, 1) := by decide +kernel
theorem mj_d_166_41 : decode mj_m_166.2.1 41 = .ok (.ishl, 1) := by decide +kernel
theorem mj_d_166_42 : decode mj_m_166.2.1 42 = .ok (.if_icmp .ge 38, 3) := by decide +kernel
theorem mj_d_166_45 : decode mj_m_166.2.1 45 = .ok (.aload_n 0, 1) := by decide +kernel
theorem mj_d_166_46 : decode mj_m_166.2.1 46 = .ok (.iload_n 1, 1) := by decide +kernel
theorem mj_d_166_47 : decode mj_m_166.2.1 47 = .ok (.iload_n 2, 1) := by decide +kernel
theorem mj_d_166_48 : decode mj_m_166.2.1 48 = .ok (.iload 6, 2) := by decide +kernel
theorem mj_d_166_50 : decode mj_m_166.2.1 50 = .ok (.invokevirtual 238, 3) := by decide +kernel
theorem mj_d_166_53 : decode mj_m_166.2.1 53 = .ok (.ifCond .eq 21, 3) := by decide +kernel
theorem mj_d_166_56 : decode mj_m_166.2.1 56 = .ok (.iload 4, 2) := by decide +kernel
theorem mj_d_166_58 : decode mj_m_166.2.1 58 = .ok (.iload_n 3, 1) := by decide +kernel
theorem mj_d_166_59 : decode mj_m_166.2.1 59 = .ok (.if_icmp .ne 8, 3) := by decide +kernel
theorem mj_d_166_62 : decode mj_m_166.2.1 62 = .ok (.iload 6, 2) := by decide +kernel
theorem mj_d_166_64 : decode mj_m_166.2.1 64 = .ok (.goto 5, 3) := by decide +kernel
theorem mj_d_166_67 : decode mj_m_166.2.1 67 = .ok (.iload 5, 2) := by decide +kernel
theorem mj_d_166_69 : decode mj_m_166.2.1 69 = .ok (.istore 5, 2) := by decide +kernel
theorem mj_d_166_71 : decode mj_m_166.2.1 71 = .ok (.iinc 4 1, 3) := by decide +kernel
theorem mj_d_166_74 : decode mj_m_166.2.1 74 = .ok (.iinc 6 1, 3) := by decide +kernel
theorem mj_d_166_77 : decode mj_m_166.2.1 77 = .ok (.goto (-42), 3) := by decide +kernel
theorem mj_d_166_80 : decode mj_m_166.2.1 80 = .ok (.iload_n 3, 1) := by decide +kernel
theorem mj_d_166_81 : decode mj_m_166.2.1 81 = .ok (.iconst (-1), 1) := by decide +kernel
theorem mj_d_166_82 : decode mj_m_166.2.1 82 = .ok (.if_icmp .ne 8, 3) := by decide +kernel
theorem mj_d_166_85 : decode mj_m_166.2.1 85 = .ok (.iload 4, 2) := by decide +kernel
theorem mj_d_166_87 : decode mj_m_166.2.1 87 = .ok (.goto 5, 3) := by decide +kernel
theorem mj_d_166_90 : decode mj_m_166.2.1 90 = .ok (.iload 5, 2) := by decide +kernel
theorem mj_d_166_92 : decode mj_m_166.2.1 92 = .ok (.ireturn, 1) := by decide +kernel
theorem mj_d_168_0 : decode mj_m_168.2.1 0 = .ok (.aload_n 0, 1) := by decide +kernel
theorem mj_d_168_1 : decode mj_m_168.2.1 1 = .ok (.iload_n 1, 1) := by decide +kernel
theorem mj_d_168_2 : decode mj_m_168.2.1 2 = .ok (.invokevirtual 174, 3) := by decide +kernel
theorem mj_d_168_5 : decode mj_m_168.2.1 5 = .ok (.ifCond .ne 6, 3) := by decide +kernel
theorem mj_d_168_8 : decode mj_m_168.2.1 8 = .ok (.ldc 177, 2) := by decide +kernel
theorem mj_d_168_10 : decode mj_m_168.2.1 10 = .ok (.ireturn, 1) := by decide +kernel
theorem mj_d_168_11 : decode mj_m_168.2.1 11 = .ok (.iload_n 2, 1) := by decide +kernel
theorem mj_d_168_12 : decode mj_m_168.2.1 12 = .ok (.i2l, 1) := by decide +kernel
theorem mj_d_168_13 : decode mj_m_168.2.1 13 = .ok (.lconst 1, 1) := by decide +kernel
theorem mj_d_168_14 : decode mj_m_168.2.1 14 = .ok (.ldc2_w 236, 3) := by decide +kernel
theorem mj_d_168_17 : decode mj_m_168.2.1 17 = .ok (.invokestatic 79, 3) := by decide +kernel
theorem mj_d_168_20 : decode mj_m_168.2.1 20 = .ok (.ifCond .eq 14, 3) := by decide +kernel
theorem mj_d_168_23 : decode mj_m_168.2.1 23 = .ok (.iload_n 3, 1) := by decide +kernel
theorem mj_d_168_24 : decode mj_m_168.2.1 24 = .ok (.i2l, 1) := by decide +kernel
theorem mj_d_168_25 : decode mj_m_168.2.1 25 = .ok (.lconst 1, 1) := by decide +kernel
theorem mj_d_168_26 : decode mj_m_168.2.1 26 = .ok (.iload_n 2, 1) := by decide +kernel
theorem mj_d_168_27 : decode mj_m_168.2.1 27 = .ok (.i2l, 1) := by decide +kernel
theorem mj_d_168_28 : decode mj_m_168.2.1 28 = .ok (.invokestatic 79, 3) := by decide +kernel
theorem mj_d_168_31 : decode mj_m_168.2.1 31 = .ok (.ifCond .ne 6, 3) := by decide +kernel
theorem mj_d_168_34 : decode mj_m_168.2.1 34 = .ok (.ldc 88, 2) := by decide +kernel
theorem mj_d_168_36 : decode mj_m_168.2.1 36 = .ok (.ireturn, 1) := by decide +kernel
theorem mj_d_168_37 : decode mj_m_168.2.1 37 = .ok (.iconst 0, 1) := by decide +kernel
theorem mj_d_168_38 : decode mj_m_168.2.1 38 = .ok (.istore 4, 2) := by decide +kernel
theorem mj_d_168_40 : decode mj_m_168.2.1 40 = .ok (.iconst 0, 1) := by decide +kernel
theorem mj_d_168_41 : decode mj_m_168.2.1 41 = .ok (.istore 5, 2) := by decide +kernel
theorem mj_d_168_43 : decode mj_m_168.2.1 43 = .ok (.iload 5, 2) := by decide +kernel
theorem mj_d_168_45 : decode mj_m_168.2.1 45 = .ok (.iconst 1, 1) := by decide +kernel
theorem mj_d_168_46 : decode mj_m_168.2.1 46 = .ok (.iconst 3, 1) := by decide +kernel
theorem mj_d_168_47 : decode mj_m_168.2.1 47 = .ok (.iload_n 2, 1) := by decide +kernel
theorem mj_d_168_48 : decode mj_m_168.2.1 48 = .ok (.imul, 1) := by decide +kernel
theorem mj_d_168_49 : decode mj_m_168.2.1 49 = .ok (.ishl, 1) := by decide +kernel
theorem mj_d_168_50 : decode mj_m_168.2.1 50 = .ok (.if_icmp .ge 42, 3) := by decide +kernel
theorem mj_d_168_53 : decode mj_m_168.2.1 53 = .ok (.iload 4, 2) := by decide +kernel
theorem mj_d_168_55 : decode mj_m_168.2.1 55 = .ok (.aload_n 0, 1) := by decide +kernel
theorem mj_d_168_56 : decode mj_m_168.2.1 56 = .ok (.iload_n 1, 1) := by decide +kernel
theorem mj_d_168_57 : decode mj_m_168.2.1 57 = .ok (.iload_n 2, 1) := by decide +kernel
theorem mj_d_168_58 : decode mj_m_168.2.1 58 = .ok (.iload 5, 2) := by decide +kernel
theorem mj_d_168_60 : decode mj_m_168.2.1 60 = .ok (.invokevirtual 238, 3) := by decide +kernel
theorem mj_d_168_63 : decode mj_m_168.2.1 63 = .ok (.ifCond .eq 19, 3) := by decide +kernel
theorem mj_d_168_66 : decode mj_m_168.2.1 66 = .ok (.iconst 1, 1) := by decide +kernel
theorem mj_d_168_67 : decode mj_m_168.2.1 67 = .ok (.iload 5, 2) := by decide +kernel
theorem mj_d_168_69 : decode mj_m_168.2.1 69 = .ok (.iconst 3, 1) := by decide +kernel
theorem mj_d_168_70 : decode mj_m_168.2.1 70 = .ok (.iload_n 2, 1) := by decide +kernel
theorem mj_d_168_71 : decode mj_m_168.2.1 71 = .ok (.iload_n 3, 1) := by decide +kernel
theorem mj_d_168_72 : decode mj_m_168.2.1 72 = .ok (.isub, 1) := by decide +kernel
theorem mj_d_168_73 : decode mj_m_168.2.1 73 = .ok (.imul, 1) := by decide +kernel
theorem mj_d_168_74 : decode mj_m_168.2.1 74 = .ok (.ishr, 1) := by decide +kernel
theorem mj_d_168_75 : decode mj_m_168.2.1 75 = .ok (.bipush 7, 2) := by decide +kernel
theorem mj_d_168_77 : decode mj_m_168.2.1 77 = .ok (.iand, 1) := by decide +kernel
theorem mj_d_168_78 : decode mj_m_168.2.1 78 = .ok (.ishl, 1) := by decide +kernel
theorem mj_d_168_79 : decode mj_m_168.2.1 79 = .ok (.goto 4, 3) := by decide +kernel
theorem mj_d_168_82 : decode mj_m_168.2.1 82 = .ok (.iconst 0, 1) := by decide +kernel
theorem mj_d_168_83 : decode mj_m_168.2.1 83 = .ok (.ior, 1) := by decide +kernel
theorem mj_d_168_84 : decode mj_m_168.2.1 84 = .ok (.istore 4, 2) := by decide +kernel
theorem mj_d_168_86 : decode mj_m_168.2.1 86 = .ok (.iinc 5 1, 3) := by decide +kernel
theorem mj_d_168_89 : decode mj_m_168.2.1 89 = .ok (.goto (-46), 3) := by decide +kernel
theorem mj_d_168_92 : decode mj_m_168.2.1 92 = .ok (.iconst 0, 1) := by decide +kernel
theorem mj_d_168_93 : decode mj_m_168.2.1 93 = .ok (.istore 5, 2) := by decide +kernel
theorem mj_d_168_95 : decode mj_m_168.2.1 95 = .ok (.iload 5, 2) := by decide +kernel
theorem mj_d_168_97 : decode mj_m_168.2.1 97 = .ok (.bipush 8, 2) := by decide +kernel
theorem mj_d_168_99 : decode mj_m_168.2.1 99 = .ok (.if_icmp .ge 21, 3) := by decide +kernel
theorem mj_d_168_102 : decode mj_m_168.2.1 102 = .ok (.iload 4, 2) := by decide +kernel
theorem mj_d_168_104 : decode mj_m_168.2.1 104 = .ok (.iconst 1, 1) := by decide +kernel
theorem mj_d_168_105 : decode mj_m_168.2.1 105 = .ok (.iload 5, 2) := by decide +kernel
theorem mj_d_168_107 : decode mj_m_168.2.1 107 = .ok (.ishl, 1) := by decide +kernel
theorem mj_d_168_108 : decode mj_m_168.2.1 108 = .ok (.if_icmp .ne 6, 3) := by decide +kernel
theorem mj_d_168_111 : decode mj_m_168.2.1 111 = .ok (.iload 5, 2) := by decide +kernel
theorem mj_d_168_113 : decode mj_m_168.2.1 113 = .ok (.ireturn, 1) := by decide +kernel
theorem mj_d_168_114 : decode mj_m_168.2.1 114 = .ok (.iinc 5 1, 3) := by decide +kernel
theorem mj_d_168_117 : decode mj_m_168.2.1 117 = .ok (.goto (-22), 3) := by decide +kernel
theorem mj_d_168_120 : decode mj_m_168.2.1 120 = .ok (.iconst (-1), 1) := by decide +kernel
theorem mj_d_168_121 : decode mj_m_168.2.1 121 = .ok (.ireturn, 1) := by decide +kernel
def dc_R_burned_35 (n : Nat) : sg_S → Int → Int → Int → Int → Int → Int → sg_S × Int := Nat.rec (fun (s : sg_S) l1 l2 l3 l4 l5 l6 => (s, 0)) (fun _ ih => fun s l1 l2 l3 l4 l5 l6 => (if (sy_shl 1 (3 * l2)) ≤ l6 then (if l3 = (-1) then (s, l4) else (s, l5)) else (if ((dc_R_isSo s l1 l2 l6).2) = 0 then (ih (dc_R_isSo s l1 l2 l6).1 l1 l2 l3 l4 l5 (l6 + 1)) else (if l4 = l3 then (ih (dc_R_isSo s l1 l2 l6).1 l1 l2 l3 (l4 + 1) l6 (l6 + 1)) else (ih (dc_R_isSo s l1 l2 l6).1 l1 l2 l3 (l4 + 1) l5 (l6 + 1)))))) n
theorem dc_R_burned_35_s (n : Nat) (s : sg_S) (l1 l2 l3 l4 l5 l6 : Int) : dc_R_burned_35 (n + 1) s l1 l2 l3 l4 l5 l6 = (if (sy_shl 1 (3 * l2)) ≤ l6 then (if l3 = (-1) then (s, l4) else (s, l5)) else (if ((dc_R_isSo s l1 l2 l6).2) = 0 then ((dc_R_burned_35 n) (dc_R_isSo s l1 l2 l6).1 l1 l2 l3 l4 l5 (l6 + 1)) else (if l4 = l3 then ((dc_R_burned_35 n) (dc_R_isSo s l1 l2 l6).1 l1 l2 l3 (l4 + 1) l6 (l6 + 1)) else ((dc_R_burned_35 n) (dc_R_isSo s l1 l2 l6).1 l1 l2 l3 (l4 + 1) l5 (l6 + 1))))) := rfl
def dc_R_burned (s : sg_S) (a1 a2 a3 : Int) : sg_S × Int := (if (dc_R_isHouse s a1) = 0 then (s, (-1000000001)) else (if (dc_R_in s a2 1 3) = 0 then (s, (-1000000002)) else (dc_R_burned_35 513 s a1 a2 a3 0 (-1) 0)))
def dw_R_burned (a k : Nat) : Bool := dw_R_isSo a k
theorem dr_R_burned_35 (a k : Nat) (h : dw_R_burned a k = false) : ∀ (n : Nat) (s : sg_S) (l1 l2 l3 l4 l5 l6 : Int), (dc_R_burned_35 n s l1 l2 l3 l4 l5 l6).1 a k = s a k := by
  have h0 := h
  unfold dw_R_burned at h
  have h1 := h
  intro n
  induction n with
  | zero => intro s l1 l2 l3 l4 l5 l6; rfl
  | succ n ih =>
    intro s l1 l2 l3 l4 l5 l6
    rw [dc_R_burned_35_s]
    (repeat' split) <;> simp only [(fun s x0 x1 x2 => dr_R_isSo s x0 x1 x2 a k h1), ih]
theorem dr_R_burned (s : sg_S) (a1 a2 a3 : Int) (a k : Nat) (h : dw_R_burned a k = false) : (dc_R_burned s a1 a2 a3).1 a k = s a k := by
  have h0 := h
  unfold dw_R_burned at h
  have h1 := h
  unfold dc_R_burned
  (repeat' split) <;> simp only [(fun s x0 x1 x2 => dr_R_isSo s x0 x1 x2 a k h1), (dr_R_burned_35 a k h0)]
set_option maxRecDepth 100000 in
theorem dt_R_burned_35 : ∀ (n : Nat) {h : mj_H} (hH : sy_H h) {l1 l2 l3 l4 l5 l6 : Int} (b_l1 : 0 ≤ l1) (t_l1 : l1 ≤ 8) (b_l2 : 1 ≤ l2) (t_l2 : l2 ≤ 3) (b_l3 : (-2147483648) ≤ l3) (t_l3 : l3 ≤ 2147483647) (b_l4 : 0 ≤ l4) (t_l4 : l4 ≤ 512) (b_l5 : (-1) ≤ l5) (t_l5 : l5 ≤ 511) (b_l6 : 0 ≤ l6) (t_l6 : l6 ≤ 512) (i0 : l4 ≤ l6) (i1 : (sy_rd h 234 6) ≤ 0 ∨ (sy_rd h 235 11) = -1) (hm : 512 - l6 < (n : Int)), sy_wp (mj_m_166, 35, [(0, .ref 234), (1, sy_i l1), (2, sy_i l2), (3, sy_i l3), (4, sy_i l4), (5, sy_i l5), (6, sy_i l6)], [], h) (dq2 (-2147483648) (2147483647) (dc_R_burned_35 n (sy_rd h) l1 l2 l3 l4 l5 l6)) := by
  intro n
  induction n with
  | zero =>
    intro h hH l1 l2 l3 l4 l5 l6 b_l1 t_l1 b_l2 t_l2 b_l3 t_l3 b_l4 t_l4 b_l5 t_l5 b_l6 t_l6 i0 i1 hm
    exact absurd hm (by omega)
  | succ n ih =>
    intro h hH l1 l2 l3 l4 l5 l6 b_l1 t_l1 b_l2 t_l2 b_l3 t_l3 b_l4 t_l4 b_l5 t_l5 b_l6 t_l6 i0 i1 hm
    rw [dc_R_burned_35_s]
    refine sy_st (S' := (mj_m_166, 37, [(0, .ref 234), (1, sy_i l1), (2, sy_i l2), (3, sy_i l3), (4, sy_i l4), (5, sy_i l5), (6, sy_i l6)], [sy_i l6], h)) mj_d_166_35 (fun _ _ => rfl) ?_
    refine sy_st (S' := (mj_m_166, 38, [(0, .ref 234), (1, sy_i l1), (2, sy_i l2), (3, sy_i l3), (4, sy_i l4), (5, sy_i l5), (6, sy_i l6)], [sy_i 1, sy_i l6], h)) mj_d_166_37 (fun _ _ => rfl) ?_
    refine sy_st (S' := (mj_m_166, 39, [(0, .ref 234), (1, sy_i l1), (2, sy_i l2), (3, sy_i l3), (4, sy_i l4), (5, sy_i l5), (6, sy_i l6)], [sy_i 3, sy_i 1, sy_i l6], h)) mj_d_166_38 (fun _ _ => rfl) ?_
    refine sy_st (S' := (mj_m_166, 40, [(0, .ref 234), (1, sy_i l1), (2, sy_i l2), (3, sy_i l3), (4, sy_i l4), (5, sy_i l5), (6, sy_i l6)], [sy_i l2, sy_i 3, sy_i 1, sy_i l6], h)) mj_d_166_39 (fun _ _ => rfl) ?_
    refine sy_mul mj_d_166_40 ?_
    refine sy_ishl mj_d_166_41 ?_
    have q1 := sg_shl10 (3 * l2) (by omega) (by omega)
    refine sy_icm mj_d_166_42 rfl ⟨by omega, by omega⟩ ⟨by omega, by omega⟩ (fun (c2 : (sy_shl 1 (3 * l2)) ≤ l6) => ?_) (fun (c2 : ¬ ((sy_shl 1 (3 * l2)) ≤ l6)) => ?_)
    · skip
      rw [if_pos c2]
      refine sy_st (S' := (mj_m_166, 81, [(0, .ref 234), (1, sy_i l1), (2, sy_i l2), (3, sy_i l3), (4, sy_i l4), (5, sy_i l5), (6, sy_i l6)], [sy_i l3], h)) mj_d_166_80 (fun _ _ => rfl) ?_
      refine sy_st (S' := (mj_m_166, 82, [(0, .ref 234), (1, sy_i l1), (2, sy_i l2), (3, sy_i l3), (4, sy_i l4), (5, sy_i l5), (6, sy_i l6)], [sy_i (-1), sy_i l3], h)) mj_d_166_81 (fun _ _ => rfl) ?_
      refine sy_icm mj_d_166_82 rfl ⟨by omega, by omega⟩ ⟨by omega, by omega⟩ (fun (c3 : ¬ (l3 = (-1))) => ?_) (fun (c3 : ¬ ¬ (l3 = (-1))) => ?_)
      · skip
        rw [if_neg c3]
        refine sy_st (S' := (mj_m_166, 92, [(0, .ref 234), (1, sy_i l1), (2, sy_i l2), (3, sy_i l3), (4, sy_i l4), (5, sy_i l5), (6, sy_i l6)], [sy_i l5], h)) mj_d_166_90 (fun _ _ => rfl) ?_
        exact sy_reti mj_d_166_92 rfl ⟨hH, rfl, rfl, by omega, by omega⟩
      · skip
        rw [if_pos (Decidable.not_not.mp c3)]
        replace c3 := Decidable.not_not.mp c3
        refine sy_st (S' := (mj_m_166, 87, [(0, .ref 234), (1, sy_i l1), (2, sy_i l2), (3, sy_i l3), (4, sy_i l4), (5, sy_i l5), (6, sy_i l6)], [sy_i l4], h)) mj_d_166_85 (fun _ _ => rfl) ?_
        refine sy_st (S' := (mj_m_166, 92, [(0, .ref 234), (1, sy_i l1), (2, sy_i l2), (3, sy_i l3), (4, sy_i l4), (5, sy_i l5), (6, sy_i l6)], [sy_i l4], h)) mj_d_166_87 (fun _ _ => rfl) ?_
        exact sy_reti mj_d_166_92 rfl ⟨hH, rfl, rfl, by omega, by omega⟩
    · skip
      rw [if_neg c2]
      refine sy_st (S' := (mj_m_166, 46, [(0, .ref 234), (1, sy_i l1), (2, sy_i l2), (3, sy_i l3), (4, sy_i l4), (5, sy_i l5), (6, sy_i l6)], [.ref 234], h)) mj_d_166_45 (fun _ _ => rfl) ?_
      refine sy_st (S' := (mj_m_166, 47, [(0, .ref 234), (1, sy_i l1), (2, sy_i l2), (3, sy_i l3), (4, sy_i l4), (5, sy_i l5), (6, sy_i l6)], [sy_i l1, .ref 234], h)) mj_d_166_46 (fun _ _ => rfl) ?_
      refine sy_st (S' := (mj_m_166, 48, [(0, .ref 234), (1, sy_i l1), (2, sy_i l2), (3, sy_i l3), (4, sy_i l4), (5, sy_i l5), (6, sy_i l6)], [sy_i l2, sy_i l1, .ref 234], h)) mj_d_166_47 (fun _ _ => rfl) ?_
      refine sy_st (S' := (mj_m_166, 50, [(0, .ref 234), (1, sy_i l1), (2, sy_i l2), (3, sy_i l3), (4, sy_i l4), (5, sy_i l5), (6, sy_i l6)], [sy_i l6, sy_i l2, sy_i l1, .ref 234], h)) mj_d_166_48 (fun _ _ => rfl) ?_
      refine sy_cv (M' := mj_m_167) (vs := [.ref 234, sy_i l1, sy_i l2, sy_i l6]) (rest := []) mj_d_166_50 rfl rfl rfl rfl hH rfl rfl ⟨by decide, ⟨Nat.le_of_ble_eq_true rfl, Nat.le_of_ble_eq_true rfl, Nat.le_of_ble_eq_true rfl, Nat.le_of_ble_eq_true rfl, Nat.le_of_ble_eq_true rfl⟩⟩ (dt_R_isSo (a1 := l1) (a2 := l2) (a3 := l6) hH (by omega) (by omega) (by omega) (by omega) (by omega) (by omega) (by first | omega | assumption)) ?_
      rintro _ h4 ⟨th4, eh4, rfl, b5, b5t⟩
      show sy_wp (mj_m_166, 53, [(0, .ref 234), (1, sy_i l1), (2, sy_i l2), (3, sy_i l3), (4, sy_i l4), (5, sy_i l5), (6, sy_i l6)], [sy_i ((dc_R_isSo (sy_rd h) l1 l2 l6).2)], h4) _
      have g1 : sy_rd h4 234 6 ≤ 0 ∨ sy_rd h4 235 11 = -1 := gG_isSo hH eh4 (by omega) (by omega) i1
      refine sy_ifc mj_d_166_53 rfl ⟨by omega, by omega⟩ (fun (c6 : ((dc_R_isSo (sy_rd h) l1 l2 l6).2) = 0) => ?_) (fun (c6 : ¬ (((dc_R_isSo (sy_rd h) l1 l2 l6).2) = 0)) => ?_)
      · skip
        rw [if_pos c6]
        refine sy_inc (a := l6) (lv' := [(6, sy_i (l6 + 1)), (0, .ref 234), (1, sy_i l1), (2, sy_i l2), (3, sy_i l3), (4, sy_i l4), (5, sy_i l5)]) mj_d_166_74 (Nat.le_of_ble_eq_true rfl) rfl rfl ?_
        refine sy_st (S' := (mj_m_166, 35, [(6, sy_i (l6 + 1)), (0, .ref 234), (1, sy_i l1), (2, sy_i l2), (3, sy_i l3), (4, sy_i l4), (5, sy_i l5)], [], h4)) mj_d_166_77 (fun _ _ => rfl) ?_
        refine sy_lv (lv := [(0, .ref 234), (1, sy_i l1), (2, sy_i l2), (3, sy_i l3), (4, sy_i l4), (5, sy_i l5), (6, sy_i (l6 + 1))]) rfl ⟨rfl, rfl, rfl, rfl, rfl, rfl, rfl, trivial⟩ ?_
        rw [← eh4]
        exact ih th4 (by first | omega | assumption) (by first | omega | assumption) (by first | omega | assumption) (by first | omega | assumption) (by first | omega | assumption) (by first | omega | assumption) (by first | omega | assumption) (by first | omega | assumption) (by first | omega | assumption) (by first | omega | assumption) (by first | omega | assumption) (by first | omega | assumption) (by first | omega | assumption) (by first | omega | assumption) (by omega)
      · skip
        rw [if_neg c6]
        refine sy_st (S' := (mj_m_166, 58, [(0, .ref 234), (1, sy_i l1), (2, sy_i l2), (3, sy_i l3), (4, sy_i l4), (5, sy_i l5), (6, sy_i l6)], [sy_i l4], h4)) mj_d_166_56 (fun _ _ => rfl) ?_
        refine sy_st (S' := (mj_m_166, 59, [(0, .ref 234), (1, sy_i l1), (2, sy_i l2), (3, sy_i l3), (4, sy_i l4), (5, sy_i l5), (6, sy_i l6)], [sy_i l3, sy_i l4], h4)) mj_d_166_58 (fun _ _ => rfl) ?_
        refine sy_icm mj_d_166_59 rfl ⟨by omega, by omega⟩ ⟨by omega, by omega⟩ (fun (c7 : ¬ (l4 = l3)) => ?_) (fun (c7 : ¬ ¬ (l4 = l3)) => ?_)
        · skip
          rw [if_neg c7]
          refine sy_st (S' := (mj_m_166, 69, [(0, .ref 234), (1, sy_i l1), (2, sy_i l2), (3, sy_i l3), (4, sy_i l4), (5, sy_i l5), (6, sy_i l6)], [sy_i l5], h4)) mj_d_166_67 (fun _ _ => rfl) ?_
          refine sy_st (S' := (mj_m_166, 71, [(5, sy_i l5), (0, .ref 234), (1, sy_i l1), (2, sy_i l2), (3, sy_i l3), (4, sy_i l4), (6, sy_i l6)], [], h4)) mj_d_166_69 (fun _ _ => rfl) ?_
          refine sy_inc (a := l4) (lv' := [(4, sy_i (l4 + 1)), (5, sy_i l5), (0, .ref 234), (1, sy_i l1), (2, sy_i l2), (3, sy_i l3), (6, sy_i l6)]) mj_d_166_71 (Nat.le_of_ble_eq_true rfl) rfl rfl ?_
          refine sy_inc (a := l6) (lv' := [(6, sy_i (l6 + 1)), (4, sy_i (l4 + 1)), (5, sy_i l5), (0, .ref 234), (1, sy_i l1), (2, sy_i l2), (3, sy_i l3)]) mj_d_166_74 (Nat.le_of_ble_eq_true rfl) rfl rfl ?_
          refine sy_st (S' := (mj_m_166, 35, [(6, sy_i (l6 + 1)), (4, sy_i (l4 + 1)), (5, sy_i l5), (0, .ref 234), (1, sy_i l1), (2, sy_i l2), (3, sy_i l3)], [], h4)) mj_d_166_77 (fun _ _ => rfl) ?_
          refine sy_lv (lv := [(0, .ref 234), (1, sy_i l1), (2, sy_i l2), (3, sy_i l3), (4, sy_i (l4 + 1)), (5, sy_i l5), (6, sy_i (l6 + 1))]) rfl ⟨rfl, rfl, rfl, rfl, rfl, rfl, rfl, trivial⟩ ?_
          rw [← eh4]
          exact ih th4 (by first | omega | assumption) (by first | omega | assumption) (by first | omega | assumption) (by first | omega | assumption) (by first | omega | assumption) (by first | omega | assumption) (by first | omega | assumption) (by first | omega | assumption) (by first | omega | assumption) (by first | omega | assumption) (by first | omega | assumption) (by first | omega | assumption) (by first | omega | assumption) (by first | omega | assumption) (by omega)
        · skip
          rw [if_pos (Decidable.not_not.mp c7)]
          replace c7 := Decidable.not_not.mp c7
          refine sy_st (S' := (mj_m_166, 64, [(0, .ref 234), (1, sy_i l1), (2, sy_i l2), (3, sy_i l3), (4, sy_i l4), (5, sy_i l5), (6, sy_i l6)], [sy_i l6], h4)) mj_d_166_62 (fun _ _ => rfl) ?_
          refine sy_st (S' := (mj_m_166, 69, [(0, .ref 234), (1, sy_i l1), (2, sy_i l2), (3, sy_i l3), (4, sy_i l4), (5, sy_i l5), (6, sy_i l6)], [sy_i l6], h4)) mj_d_166_64 (fun _ _ => rfl) ?_
          refine sy_st (S' := (mj_m_166, 71, [(5, sy_i l6), (0, .ref 234), (1, sy_i l1), (2, sy_i l2), (3, sy_i l3), (4, sy_i l4), (6, sy_i l6)], [], h4)) mj_d_166_69 (fun _ _ => rfl) ?_
          refine sy_inc (a := l4) (lv' := [(4, sy_i (l4 + 1)), (5, sy_i l6), (0, .ref 234), (1, sy_i l1), (2, sy_i l2), (3, sy_i l3), (6, sy_i l6)]) mj_d_166_71 (Nat.le_of_ble_eq_true rfl) rfl rfl ?_
          refine sy_inc (a := l6) (lv' := [(6, sy_i (l6 + 1)), (4, sy_i (l4 + 1)), (5, sy_i l6), (0, .ref 234), (1, sy_i l1), (2, sy_i l2), (3, sy_i l3)]) mj_d_166_74 (Nat.le_of_ble_eq_true rfl) rfl rfl ?_
          refine sy_st (S' := (mj_m_166, 35, [(6, sy_i (l6 + 1)), (4, sy_i (l4 + 1)), (5, sy_i l6), (0, .ref 234), (1, sy_i l1), (2, sy_i l2), (3, sy_i l3)], [], h4)) mj_d_166_77 (fun _ _ => rfl) ?_
          refine sy_lv (lv := [(0, .ref 234), (1, sy_i l1), (2, sy_i l2), (3, sy_i l3), (4, sy_i (l4 + 1)), (5, sy_i l6), (6, sy_i (l6 + 1))]) rfl ⟨rfl, rfl, rfl, rfl, rfl, rfl, rfl, trivial⟩ ?_
          rw [← eh4]
          exact ih th4 (by first | omega | assumption) (by first | omega | assumption) (by first | omega | assumption) (by first | omega | assumption) (by first | omega | assumption) (by first | omega | assumption) (by first | omega | assumption) (by first | omega | assumption) (by first | omega | assumption) (by first | omega | assumption) (by first | omega | assumption) (by first | omega | assumption) (by first | omega | assumption) (by first | omega | assumption) (by omega)
set_option maxRecDepth 100000 in
theorem dt_R_burned {h : mj_H} (hH : sy_H h) {a1 a2 a3 : Int} (b_a1 : (-2147483648) ≤ a1) (t_a1 : a1 ≤ 2147483647) (b_a2 : (-2147483648) ≤ a2) (t_a2 : a2 ≤ 2147483647) (b_a3 : (-2147483648) ≤ a3) (t_a3 : a3 ≤ 2147483647) (i0 : (sy_rd h 234 6) ≤ 0 ∨ (sy_rd h 235 11) = -1) : sy_wp (mj_m_166, 0, [(0, .ref 234), (1, sy_i a1), (2, sy_i a2), (3, sy_i a3)], [], h) (dq2 (-2147483648) (2147483647) (dc_R_burned (sy_rd h) a1 a2 a3)) := by
  unfold dc_R_burned
  have n234_6 := hH.bd (a := 234) (k := 6) rfl (by decide) rfl
  refine sy_st (S' := (mj_m_166, 1, [(0, .ref 234), (1, sy_i a1), (2, sy_i a2), (3, sy_i a3)], [.ref 234], h)) mj_d_166_0 (fun _ _ => rfl) ?_
  refine sy_st (S' := (mj_m_166, 2, [(0, .ref 234), (1, sy_i a1), (2, sy_i a2), (3, sy_i a3)], [sy_i a1, .ref 234], h)) mj_d_166_1 (fun _ _ => rfl) ?_
  refine sy_cv (M' := mj_m_141) (vs := [.ref 234, sy_i a1]) (rest := []) mj_d_166_2 rfl rfl rfl rfl hH rfl rfl ⟨by decide, ⟨Nat.le_of_ble_eq_true rfl, Nat.le_of_ble_eq_true rfl, Nat.le_of_ble_eq_true rfl, Nat.le_of_ble_eq_true rfl, Nat.le_of_ble_eq_true rfl⟩⟩ (dt_R_isHouse (a1 := a1) hH (by omega) (by omega)) ?_
  rintro _ _ ⟨rfl, rfl, b1, b1t⟩
  have q2 := df_R_isHouse_0 (sy_rd h) a1
  show sy_wp (mj_m_166, 5, [(0, .ref 234), (1, sy_i a1), (2, sy_i a2), (3, sy_i a3)], [sy_i (dc_R_isHouse (sy_rd h) a1)], h) _
  refine sy_ifc mj_d_166_5 rfl ⟨by omega, by omega⟩ (fun (c3 : ¬ ((dc_R_isHouse (sy_rd h) a1) = 0)) => ?_) (fun (c3 : ¬ ¬ ((dc_R_isHouse (sy_rd h) a1) = 0)) => ?_)
  · skip
    rw [if_neg c3]
    refine sy_st (S' := (mj_m_166, 12, [(0, .ref 234), (1, sy_i a1), (2, sy_i a2), (3, sy_i a3)], [sy_i a2], h)) mj_d_166_11 (fun _ _ => rfl) ?_
    refine sy_i2l mj_d_166_12 ⟨by omega, by omega⟩ ?_
    refine sy_st (S' := (mj_m_166, 14, [(0, .ref 234), (1, sy_i a1), (2, sy_i a2), (3, sy_i a3)], [sy_l 1, sy_l a2], h)) mj_d_166_13 (fun _ _ => rfl) ?_
    refine sy_ldc2 (n := 3) mj_d_166_14 rfl (by decide) ?_
    refine sy_cs (M' := mj_m_126) (vs := [sy_l a2, sy_l 1, sy_l 3]) (rest := []) mj_d_166_17 rfl rfl rfl rfl ⟨Nat.le_of_ble_eq_true rfl, Nat.le_of_ble_eq_true rfl, Nat.le_of_ble_eq_true rfl, Nat.le_of_ble_eq_true rfl, Nat.le_of_ble_eq_true rfl⟩ (dt_R_in (a0 := a2) (a1 := 1) (a2 := 3) hH (by omega) (by omega) (by omega) (by omega) (by omega) (by omega)) ?_
    rintro _ _ ⟨rfl, rfl, b4, b4t⟩
    have q5 := df_R_in_0 (sy_rd h) a2 1 3
    show sy_wp (mj_m_166, 20, [(0, .ref 234), (1, sy_i a1), (2, sy_i a2), (3, sy_i a3)], [sy_i (dc_R_in (sy_rd h) a2 1 3)], h) _
    refine sy_ifc mj_d_166_20 rfl ⟨by omega, by omega⟩ (fun (c6 : ¬ ((dc_R_in (sy_rd h) a2 1 3) = 0)) => ?_) (fun (c6 : ¬ ¬ ((dc_R_in (sy_rd h) a2 1 3) = 0)) => ?_)
    · skip
      rw [if_neg c6]
      refine sy_st (S' := (mj_m_166, 27, [(0, .ref 234), (1, sy_i a1), (2, sy_i a2), (3, sy_i a3)], [sy_i 0], h)) mj_d_166_26 (fun _ _ => rfl) ?_
      refine sy_st (S' := (mj_m_166, 29, [(4, sy_i 0), (0, .ref 234), (1, sy_i a1), (2, sy_i a2), (3, sy_i a3)], [], h)) mj_d_166_27 (fun _ _ => rfl) ?_
      refine sy_st (S' := (mj_m_166, 30, [(4, sy_i 0), (0, .ref 234), (1, sy_i a1), (2, sy_i a2), (3, sy_i a3)], [sy_i (-1)], h)) mj_d_166_29 (fun _ _ => rfl) ?_
      refine sy_st (S' := (mj_m_166, 32, [(5, sy_i (-1)), (4, sy_i 0), (0, .ref 234), (1, sy_i a1), (2, sy_i a2), (3, sy_i a3)], [], h)) mj_d_166_30 (fun _ _ => rfl) ?_
      refine sy_st (S' := (mj_m_166, 33, [(5, sy_i (-1)), (4, sy_i 0), (0, .ref 234), (1, sy_i a1), (2, sy_i a2), (3, sy_i a3)], [sy_i 0], h)) mj_d_166_32 (fun _ _ => rfl) ?_
      refine sy_st (S' := (mj_m_166, 35, [(6, sy_i 0), (5, sy_i (-1)), (4, sy_i 0), (0, .ref 234), (1, sy_i a1), (2, sy_i a2), (3, sy_i a3)], [], h)) mj_d_166_33 (fun _ _ => rfl) ?_
      refine sy_lv (lv := [(0, .ref 234), (1, sy_i a1), (2, sy_i a2), (3, sy_i a3), (4, sy_i 0), (5, sy_i (-1)), (6, sy_i 0)]) rfl ⟨rfl, rfl, rfl, rfl, rfl, rfl, rfl, trivial⟩ ?_
      exact dt_R_burned_35 513 hH (by first | omega | assumption) (by first | omega | assumption) (by first | omega | assumption) (by first | omega | assumption) (by first | omega | assumption) (by first | omega | assumption) (by first | omega | assumption) (by first | omega | assumption) (by first | omega | assumption) (by first | omega | assumption) (by first | omega | assumption) (by first | omega | assumption) (by first | omega | assumption) (by first | omega | assumption) (by omega)
    · skip
      rw [if_pos (Decidable.not_not.mp c6)]
      replace c6 := Decidable.not_not.mp c6
      refine sy_ldc (n := -1000000002) mj_d_166_23 rfl (by decide) ?_
      exact sy_reti mj_d_166_25 rfl ⟨hH, rfl, rfl, by omega, by omega⟩
  · skip
    rw [if_pos (Decidable.not_not.mp c3)]
    replace c3 := Decidable.not_not.mp c3
    refine sy_ldc (n := -1000000001) mj_d_166_8 rfl (by decide) ?_
    exact sy_reti mj_d_166_10 rfl ⟨hH, rfl, rfl, by omega, by omega⟩
def dc_R_sure_95 (n : Nat) : sg_S → Int → Int → sg_S × Int := Nat.rec (fun (s : sg_S) l4 l5 => (s, 0)) (fun _ ih => fun s l4 l5 => (if 8 ≤ l5 then (s, (-1)) else (if l4 = (sy_shl 1 l5) then (s, l5) else (ih s l4 (l5 + 1))))) n
theorem dc_R_sure_95_s (n : Nat) (s : sg_S) (l4 l5 : Int) : dc_R_sure_95 (n + 1) s l4 l5 = (if 8 ≤ l5 then (s, (-1)) else (if l4 = (sy_shl 1 l5) then (s, l5) else ((dc_R_sure_95 n) s l4 (l5 + 1)))) := rfl
def dc_R_sure_43 (n : Nat) : sg_S → Int → Int → Int → Int → Int → sg_S × Int := Nat.rec (fun (s : sg_S) l1 l2 l3 l4 l5 => (s, 0)) (fun _ ih => fun s l1 l2 l3 l4 l5 => (if (sy_shl 1 (3 * l2)) ≤ l5 then (dc_R_sure_95 9 s l4 0) else (if ((dc_R_isSo s l1 l2 l5).2) = 0 then (ih (dc_R_isSo s l1 l2 l5).1 l1 l2 l3 (sy_or l4 0) (l5 + 1)) else (ih (dc_R_isSo s l1 l2 l5).1 l1 l2 l3 (sy_or l4 (sy_shl 1 (sy_and (sy_shr l5 (3 * (l2 - l3))) 7))) (l5 + 1))))) n
theorem dc_R_sure_43_s (n : Nat) (s : sg_S) (l1 l2 l3 l4 l5 : Int) : dc_R_sure_43 (n + 1) s l1 l2 l3 l4 l5 = (if (sy_shl 1 (3 * l2)) ≤ l5 then (dc_R_sure_95 9 s l4 0) else (if ((dc_R_isSo s l1 l2 l5).2) = 0 then ((dc_R_sure_43 n) (dc_R_isSo s l1 l2 l5).1 l1 l2 l3 (sy_or l4 0) (l5 + 1)) else ((dc_R_sure_43 n) (dc_R_isSo s l1 l2 l5).1 l1 l2 l3 (sy_or l4 (sy_shl 1 (sy_and (sy_shr l5 (3 * (l2 - l3))) 7))) (l5 + 1)))) := rfl
def dc_R_sure (s : sg_S) (a1 a2 a3 : Int) : sg_S × Int := (if (dc_R_isHouse s a1) = 0 then (s, (-1000000001)) else (if (dc_R_in s a2 1 3) = 0 then (s, (-1000000002)) else (if (dc_R_in s a3 1 a2) = 0 then (s, (-1000000002)) else (dc_R_sure_43 513 s a1 a2 a3 0 0))))
def dw_R_sure (a k : Nat) : Bool := dw_R_isSo a k
theorem dr_R_sure_95 (a k : Nat) (h : dw_R_sure a k = false) : ∀ (n : Nat) (s : sg_S) (l4 l5 : Int), (dc_R_sure_95 n s l4 l5).1 a k = s a k := by
  have h0 := h
  unfold dw_R_sure at h
  have h1 := h
  intro n
  induction n with
  | zero => intro s l4 l5; rfl
  | succ n ih =>
    intro s l4 l5
    rw [dc_R_sure_95_s]
    (repeat' split) <;> simp only [(fun s x0 x1 x2 => dr_R_isSo s x0 x1 x2 a k h1), ih]
theorem dr_R_sure_43 (a k : Nat) (h : dw_R_sure a k = false) : ∀ (n : Nat) (s : sg_S) (l1 l2 l3 l4 l5 : Int), (dc_R_sure_43 n s l1 l2 l3 l4 l5).1 a k = s a k := by
  have h0 := h
  unfold dw_R_sure at h
  have h1 := h
  intro n
  induction n with
  | zero => intro s l1 l2 l3 l4 l5; rfl
  | succ n ih =>
    intro s l1 l2 l3 l4 l5
    rw [dc_R_sure_43_s]
    (repeat' split) <;> simp only [(fun s x0 x1 x2 => dr_R_isSo s x0 x1 x2 a k h1), ih, (dr_R_sure_95 a k h0)]
theorem dr_R_sure (s : sg_S) (a1 a2 a3 : Int) (a k : Nat) (h : dw_R_sure a k = false) : (dc_R_sure s a1 a2 a3).1 a k = s a k := by
  have h0 := h
  unfold dw_R_sure at h
  have h1 := h
  unfold dc_R_sure
  (repeat' split) <;> simp only [(fun s x0 x1 x2 => dr_R_isSo s x0 x1 x2 a k h1), (dr_R_sure_95 a k h0), (dr_R_sure_43 a k h0)]
set_option maxRecDepth 100000 in
theorem dt_R_sure_95 : ∀ (n : Nat) {h : mj_H} (hH : sy_H h) {l4 l5 : Int} (b_l4 : 0 ≤ l4) (t_l4 : l4 ≤ 511) (b_l5 : 0 ≤ l5) (t_l5 : l5 ≤ 8) (hm : 8 - l5 < (n : Int)), sy_wp (mj_m_168, 95, [(4, sy_i l4), (5, sy_i l5)], [], h) (dq2 (-2147483648) (2147483647) (dc_R_sure_95 n (sy_rd h) l4 l5)) := by
  intro n
  induction n with
  | zero =>
    intro h hH l4 l5 b_l4 t_l4 b_l5 t_l5 hm
    exact absurd hm (by omega)
  | succ n ih =>
    intro h hH l4 l5 b_l4 t_l4 b_l5 t_l5 hm
    rw [dc_R_sure_95_s]
    refine sy_st (S' := (mj_m_168, 97, [(4, sy_i l4), (5, sy_i l5)], [sy_i l5], h)) mj_d_168_95 (fun _ _ => rfl) ?_
    refine sy_bip mj_d_168_97 (by decide) ?_
    refine sy_icm mj_d_168_99 rfl ⟨by omega, by omega⟩ ⟨by omega, by omega⟩ (fun (c1 : 8 ≤ l5) => ?_) (fun (c1 : ¬ (8 ≤ l5)) => ?_)
    · skip
      rw [if_pos c1]
      refine sy_st (S' := (mj_m_168, 121, [(4, sy_i l4), (5, sy_i l5)], [sy_i (-1)], h)) mj_d_168_120 (fun _ _ => rfl) ?_
      exact sy_reti mj_d_168_121 rfl ⟨hH, rfl, rfl, by omega, by omega⟩
    · skip
      rw [if_neg c1]
      refine sy_st (S' := (mj_m_168, 104, [(4, sy_i l4), (5, sy_i l5)], [sy_i l4], h)) mj_d_168_102 (fun _ _ => rfl) ?_
      refine sy_st (S' := (mj_m_168, 105, [(4, sy_i l4), (5, sy_i l5)], [sy_i 1, sy_i l4], h)) mj_d_168_104 (fun _ _ => rfl) ?_
      refine sy_st (S' := (mj_m_168, 107, [(4, sy_i l4), (5, sy_i l5)], [sy_i l5, sy_i 1, sy_i l4], h)) mj_d_168_105 (fun _ _ => rfl) ?_
      refine sy_ishl mj_d_168_107 ?_
      have q2 := sg_shl9 l5 (by omega) (by omega)
      refine sy_icm mj_d_168_108 rfl ⟨by omega, by omega⟩ ⟨by omega, by omega⟩ (fun (c3 : ¬ (l4 = (sy_shl 1 l5))) => ?_) (fun (c3 : ¬ ¬ (l4 = (sy_shl 1 l5))) => ?_)
      · skip
        rw [if_neg c3]
        refine sy_inc (a := l5) (lv' := [(5, sy_i (l5 + 1)), (4, sy_i l4)]) mj_d_168_114 (Nat.le_of_ble_eq_true rfl) rfl rfl ?_
        refine sy_st (S' := (mj_m_168, 95, [(5, sy_i (l5 + 1)), (4, sy_i l4)], [], h)) mj_d_168_117 (fun _ _ => rfl) ?_
        refine sy_lv (lv := [(4, sy_i l4), (5, sy_i (l5 + 1))]) rfl ⟨rfl, rfl, trivial⟩ ?_
        exact ih hH (by first | omega | assumption) (by first | omega | assumption) (by first | omega | assumption) (by first | omega | assumption) (by omega)
      · skip
        rw [if_pos (Decidable.not_not.mp c3)]
        replace c3 := Decidable.not_not.mp c3
        refine sy_st (S' := (mj_m_168, 113, [(4, sy_i l4), (5, sy_i l5)], [sy_i l5], h)) mj_d_168_111 (fun _ _ => rfl) ?_
        exact sy_reti mj_d_168_113 rfl ⟨hH, rfl, rfl, by omega, by omega⟩
set_option maxRecDepth 100000 in
theorem dt_R_sure_43 : ∀ (n : Nat) {h : mj_H} (hH : sy_H h) {l1 l2 l3 l4 l5 : Int} (b_l1 : 0 ≤ l1) (t_l1 : l1 ≤ 8) (b_l2 : 1 ≤ l2) (t_l2 : l2 ≤ 3) (b_l3 : 1 ≤ l3) (t_l3 : l3 ≤ 3) (b_l4 : 0 ≤ l4) (t_l4 : l4 ≤ 511) (b_l5 : 0 ≤ l5) (t_l5 : l5 ≤ 512) (i0 : (sy_rd h 234 6) ≤ 0 ∨ (sy_rd h 235 11) = -1) (hm : 512 - l5 < (n : Int)), sy_wp (mj_m_168, 43, [(0, .ref 234), (1, sy_i l1), (2, sy_i l2), (3, sy_i l3), (4, sy_i l4), (5, sy_i l5)], [], h) (dq2 (-2147483648) (2147483647) (dc_R_sure_43 n (sy_rd h) l1 l2 l3 l4 l5)) := by
  intro n
  induction n with
  | zero =>
    intro h hH l1 l2 l3 l4 l5 b_l1 t_l1 b_l2 t_l2 b_l3 t_l3 b_l4 t_l4 b_l5 t_l5 i0 hm
    exact absurd hm (by omega)
  | succ n ih =>
    intro h hH l1 l2 l3 l4 l5 b_l1 t_l1 b_l2 t_l2 b_l3 t_l3 b_l4 t_l4 b_l5 t_l5 i0 hm
    rw [dc_R_sure_43_s]
    refine sy_st (S' := (mj_m_168, 45, [(0, .ref 234), (1, sy_i l1), (2, sy_i l2), (3, sy_i l3), (4, sy_i l4), (5, sy_i l5)], [sy_i l5], h)) mj_d_168_43 (fun _ _ => rfl) ?_
    refine sy_st (S' := (mj_m_168, 46, [(0, .ref 234), (1, sy_i l1), (2, sy_i l2), (3, sy_i l3), (4, sy_i l4), (5, sy_i l5)], [sy_i 1, sy_i l5], h)) mj_d_168_45 (fun _ _ => rfl) ?_
    refine sy_st (S' := (mj_m_168, 47, [(0, .ref 234), (1, sy_i l1), (2, sy_i l2), (3, sy_i l3), (4, sy_i l4), (5, sy_i l5)], [sy_i 3, sy_i 1, sy_i l5], h)) mj_d_168_46 (fun _ _ => rfl) ?_
    refine sy_st (S' := (mj_m_168, 48, [(0, .ref 234), (1, sy_i l1), (2, sy_i l2), (3, sy_i l3), (4, sy_i l4), (5, sy_i l5)], [sy_i l2, sy_i 3, sy_i 1, sy_i l5], h)) mj_d_168_47 (fun _ _ => rfl) ?_
    refine sy_mul mj_d_168_48 ?_
    refine sy_ishl mj_d_168_49 ?_
    have q1 := sg_shl10 (3 * l2) (by omega) (by omega)
    refine sy_icm mj_d_168_50 rfl ⟨by omega, by omega⟩ ⟨by omega, by omega⟩ (fun (c2 : (sy_shl 1 (3 * l2)) ≤ l5) => ?_) (fun (c2 : ¬ ((sy_shl 1 (3 * l2)) ≤ l5)) => ?_)
    · skip
      rw [if_pos c2]
      refine sy_st (S' := (mj_m_168, 93, [(0, .ref 234), (1, sy_i l1), (2, sy_i l2), (3, sy_i l3), (4, sy_i l4), (5, sy_i l5)], [sy_i 0], h)) mj_d_168_92 (fun _ _ => rfl) ?_
      refine sy_st (S' := (mj_m_168, 95, [(5, sy_i 0), (0, .ref 234), (1, sy_i l1), (2, sy_i l2), (3, sy_i l3), (4, sy_i l4)], [], h)) mj_d_168_93 (fun _ _ => rfl) ?_
      refine sy_lv (lv := [(4, sy_i l4), (5, sy_i 0)]) rfl ⟨rfl, rfl, trivial⟩ ?_
      exact dt_R_sure_95 9 hH (by first | omega | assumption) (by first | omega | assumption) (by first | omega | assumption) (by first | omega | assumption) (by omega)
    · skip
      rw [if_neg c2]
      refine sy_st (S' := (mj_m_168, 55, [(0, .ref 234), (1, sy_i l1), (2, sy_i l2), (3, sy_i l3), (4, sy_i l4), (5, sy_i l5)], [sy_i l4], h)) mj_d_168_53 (fun _ _ => rfl) ?_
      refine sy_st (S' := (mj_m_168, 56, [(0, .ref 234), (1, sy_i l1), (2, sy_i l2), (3, sy_i l3), (4, sy_i l4), (5, sy_i l5)], [.ref 234, sy_i l4], h)) mj_d_168_55 (fun _ _ => rfl) ?_
      refine sy_st (S' := (mj_m_168, 57, [(0, .ref 234), (1, sy_i l1), (2, sy_i l2), (3, sy_i l3), (4, sy_i l4), (5, sy_i l5)], [sy_i l1, .ref 234, sy_i l4], h)) mj_d_168_56 (fun _ _ => rfl) ?_
      refine sy_st (S' := (mj_m_168, 58, [(0, .ref 234), (1, sy_i l1), (2, sy_i l2), (3, sy_i l3), (4, sy_i l4), (5, sy_i l5)], [sy_i l2, sy_i l1, .ref 234, sy_i l4], h)) mj_d_168_57 (fun _ _ => rfl) ?_
      refine sy_st (S' := (mj_m_168, 60, [(0, .ref 234), (1, sy_i l1), (2, sy_i l2), (3, sy_i l3), (4, sy_i l4), (5, sy_i l5)], [sy_i l5, sy_i l2, sy_i l1, .ref 234, sy_i l4], h)) mj_d_168_58 (fun _ _ => rfl) ?_
      refine sy_cv (M' := mj_m_167) (vs := [.ref 234, sy_i l1, sy_i l2, sy_i l5]) (rest := [sy_i l4]) mj_d_168_60 rfl rfl rfl rfl hH rfl rfl ⟨by decide, ⟨Nat.le_of_ble_eq_true rfl, Nat.le_of_ble_eq_true rfl, Nat.le_of_ble_eq_true rfl, Nat.le_of_ble_eq_true rfl, Nat.le_of_ble_eq_true rfl⟩⟩ (dt_R_isSo (a1 := l1) (a2 := l2) (a3 := l5) hH (by omega) (by omega) (by omega) (by omega) (by omega) (by omega) (by first | omega | assumption)) ?_
      rintro _ h3 ⟨th3, eh3, rfl, b4, b4t⟩
      show sy_wp (mj_m_168, 63, [(0, .ref 234), (1, sy_i l1), (2, sy_i l2), (3, sy_i l3), (4, sy_i l4), (5, sy_i l5)], [sy_i ((dc_R_isSo (sy_rd h) l1 l2 l5).2), sy_i l4], h3) _
      have g1 : sy_rd h3 234 6 ≤ 0 ∨ sy_rd h3 235 11 = -1 := gG_isSo hH eh3 (by omega) (by omega) i0
      refine sy_ifc mj_d_168_63 rfl ⟨by omega, by omega⟩ (fun (c5 : ((dc_R_isSo (sy_rd h) l1 l2 l5).2) = 0) => ?_) (fun (c5 : ¬ (((dc_R_isSo (sy_rd h) l1 l2 l5).2) = 0)) => ?_)
      · skip
        rw [if_pos c5]
        refine sy_st (S' := (mj_m_168, 83, [(0, .ref 234), (1, sy_i l1), (2, sy_i l2), (3, sy_i l3), (4, sy_i l4), (5, sy_i l5)], [sy_i 0, sy_i l4], h3)) mj_d_168_82 (fun _ _ => rfl) ?_
        refine sy_ior mj_d_168_83 ?_
        have q6 := sg_or9 l4 0 (by omega) (by omega) (by omega) (by omega)
        refine sy_st (S' := (mj_m_168, 86, [(4, sy_i (sy_or l4 0)), (0, .ref 234), (1, sy_i l1), (2, sy_i l2), (3, sy_i l3), (5, sy_i l5)], [], h3)) mj_d_168_84 (fun _ _ => rfl) ?_
        refine sy_inc (a := l5) (lv' := [(5, sy_i (l5 + 1)), (4, sy_i (sy_or l4 0)), (0, .ref 234), (1, sy_i l1), (2, sy_i l2), (3, sy_i l3)]) mj_d_168_86 (Nat.le_of_ble_eq_true rfl) rfl rfl ?_
        refine sy_st (S' := (mj_m_168, 43, [(5, sy_i (l5 + 1)), (4, sy_i (sy_or l4 0)), (0, .ref 234), (1, sy_i l1), (2, sy_i l2), (3, sy_i l3)], [], h3)) mj_d_168_89 (fun _ _ => rfl) ?_
        refine sy_lv (lv := [(0, .ref 234), (1, sy_i l1), (2, sy_i l2), (3, sy_i l3), (4, sy_i (sy_or l4 0)), (5, sy_i (l5 + 1))]) rfl ⟨rfl, rfl, rfl, rfl, rfl, rfl, trivial⟩ ?_
        rw [← eh3]
        exact ih th3 (by first | omega | assumption) (by first | omega | assumption) (by first | omega | assumption) (by first | omega | assumption) (by first | omega | assumption) (by first | omega | assumption) (by first | omega | assumption) (by first | omega | assumption) (by first | omega | assumption) (by first | omega | assumption) (by first | omega | assumption) (by omega)
      · skip
        rw [if_neg c5]
        refine sy_st (S' := (mj_m_168, 67, [(0, .ref 234), (1, sy_i l1), (2, sy_i l2), (3, sy_i l3), (4, sy_i l4), (5, sy_i l5)], [sy_i 1, sy_i l4], h3)) mj_d_168_66 (fun _ _ => rfl) ?_
        refine sy_st (S' := (mj_m_168, 69, [(0, .ref 234), (1, sy_i l1), (2, sy_i l2), (3, sy_i l3), (4, sy_i l4), (5, sy_i l5)], [sy_i l5, sy_i 1, sy_i l4], h3)) mj_d_168_67 (fun _ _ => rfl) ?_
        refine sy_st (S' := (mj_m_168, 70, [(0, .ref 234), (1, sy_i l1), (2, sy_i l2), (3, sy_i l3), (4, sy_i l4), (5, sy_i l5)], [sy_i 3, sy_i l5, sy_i 1, sy_i l4], h3)) mj_d_168_69 (fun _ _ => rfl) ?_
        refine sy_st (S' := (mj_m_168, 71, [(0, .ref 234), (1, sy_i l1), (2, sy_i l2), (3, sy_i l3), (4, sy_i l4), (5, sy_i l5)], [sy_i l2, sy_i 3, sy_i l5, sy_i 1, sy_i l4], h3)) mj_d_168_70 (fun _ _ => rfl) ?_
        refine sy_st (S' := (mj_m_168, 72, [(0, .ref 234), (1, sy_i l1), (2, sy_i l2), (3, sy_i l3), (4, sy_i l4), (5, sy_i l5)], [sy_i l3, sy_i l2, sy_i 3, sy_i l5, sy_i 1, sy_i l4], h3)) mj_d_168_71 (fun _ _ => rfl) ?_
        refine sy_sub mj_d_168_72 ?_
        refine sy_mul mj_d_168_73 ?_
        refine sy_ishr mj_d_168_74 ?_
        have q7 := sg_shr_rng l5 (3 * (l2 - l3))
        refine sy_bip mj_d_168_75 (by decide) ?_
        refine sy_iand mj_d_168_77 ?_
        have q8 := sg_and_r (sy_shr l5 (3 * (l2 - l3))) 7 (by decide) (by decide)
        refine sy_ishl mj_d_168_78 ?_
        have q9 := sg_shl9 (sy_and (sy_shr l5 (3 * (l2 - l3))) 7) (by omega) (by omega)
        refine sy_st (S' := (mj_m_168, 83, [(0, .ref 234), (1, sy_i l1), (2, sy_i l2), (3, sy_i l3), (4, sy_i l4), (5, sy_i l5)], [sy_i (sy_shl 1 (sy_and (sy_shr l5 (3 * (l2 - l3))) 7)), sy_i l4], h3)) mj_d_168_79 (fun _ _ => rfl) ?_
        refine sy_ior mj_d_168_83 ?_
        have q10 := sg_or9 l4 (sy_shl 1 (sy_and (sy_shr l5 (3 * (l2 - l3))) 7)) (by omega) (by omega) (by omega) (by omega)
        refine sy_st (S' := (mj_m_168, 86, [(4, sy_i (sy_or l4 (sy_shl 1 (sy_and (sy_shr l5 (3 * (l2 - l3))) 7)))), (0, .ref 234), (1, sy_i l1), (2, sy_i l2), (3, sy_i l3), (5, sy_i l5)], [], h3)) mj_d_168_84 (fun _ _ => rfl) ?_
        refine sy_inc (a := l5) (lv' := [(5, sy_i (l5 + 1)), (4, sy_i (sy_or l4 (sy_shl 1 (sy_and (sy_shr l5 (3 * (l2 - l3))) 7)))), (0, .ref 234), (1, sy_i l1), (2, sy_i l2), (3, sy_i l3)]) mj_d_168_86 (Nat.le_of_ble_eq_true rfl) rfl rfl ?_
        refine sy_st (S' := (mj_m_168, 43, [(5, sy_i (l5 + 1)), (4, sy_i (sy_or l4 (sy_shl 1 (sy_and (sy_shr l5 (3 * (l2 - l3))) 7)))), (0, .ref 234), (1, sy_i l1), (2, sy_i l2), (3, sy_i l3)], [], h3)) mj_d_168_89 (fun _ _ => rfl) ?_
        refine sy_lv (lv := [(0, .ref 234), (1, sy_i l1), (2, sy_i l2), (3, sy_i l3), (4, sy_i (sy_or l4 (sy_shl 1 (sy_and (sy_shr l5 (3 * (l2 - l3))) 7)))), (5, sy_i (l5 + 1))]) rfl ⟨rfl, rfl, rfl, rfl, rfl, rfl, trivial⟩ ?_
        rw [← eh3]
        exact ih th3 (by first | omega | assumption) (by first | omega | assumption) (by first | omega | assumption) (by first | omega | assumption) (by first | omega | assumption) (by first | omega | assumption) (by first | omega | assumption) (by first | omega | assumption) (by first | omega | assumption) (by first | omega | assumption) (by first | omega | assumption) (by omega)
set_option maxRecDepth 100000 in
theorem dt_R_sure {h : mj_H} (hH : sy_H h) {a1 a2 a3 : Int} (b_a1 : (-2147483648) ≤ a1) (t_a1 : a1 ≤ 2147483647) (b_a2 : (-2147483648) ≤ a2) (t_a2 : a2 ≤ 2147483647) (b_a3 : (-2147483648) ≤ a3) (t_a3 : a3 ≤ 2147483647) (i0 : (sy_rd h 234 6) ≤ 0 ∨ (sy_rd h 235 11) = -1) : sy_wp (mj_m_168, 0, [(0, .ref 234), (1, sy_i a1), (2, sy_i a2), (3, sy_i a3)], [], h) (dq2 (-2147483648) (2147483647) (dc_R_sure (sy_rd h) a1 a2 a3)) := by
  unfold dc_R_sure
  have n234_6 := hH.bd (a := 234) (k := 6) rfl (by decide) rfl
  refine sy_st (S' := (mj_m_168, 1, [(0, .ref 234), (1, sy_i a1), (2, sy_i a2), (3, sy_i a3)], [.ref 234], h)) mj_d_168_0 (fun _ _ => rfl) ?_
  refine sy_st (S' := (mj_m_168, 2, [(0, .ref 234), (1, sy_i a1), (2, sy_i a2), (3, sy_i a3)], [sy_i a1, .ref 234], h)) mj_d_168_1 (fun _ _ => rfl) ?_
  refine sy_cv (M' := mj_m_141) (vs := [.ref 234, sy_i a1]) (rest := []) mj_d_168_2 rfl rfl rfl rfl hH rfl rfl ⟨by decide, ⟨Nat.le_of_ble_eq_true rfl, Nat.le_of_ble_eq_true rfl, Nat.le_of_ble_eq_true rfl, Nat.le_of_ble_eq_true rfl, Nat.le_of_ble_eq_true rfl⟩⟩ (dt_R_isHouse (a1 := a1) hH (by omega) (by omega)) ?_
  rintro _ _ ⟨rfl, rfl, b1, b1t⟩
  have q2 := df_R_isHouse_0 (sy_rd h) a1
  show sy_wp (mj_m_168, 5, [(0, .ref 234), (1, sy_i a1), (2, sy_i a2), (3, sy_i a3)], [sy_i (dc_R_isHouse (sy_rd h) a1)], h) _
  refine sy_ifc mj_d_168_5 rfl ⟨by omega, by omega⟩ (fun (c3 : ¬ ((dc_R_isHouse (sy_rd h) a1) = 0)) => ?_) (fun (c3 : ¬ ¬ ((dc_R_isHouse (sy_rd h) a1) = 0)) => ?_)
  · skip
    rw [if_neg c3]
    refine sy_st (S' := (mj_m_168, 12, [(0, .ref 234), (1, sy_i a1), (2, sy_i a2), (3, sy_i a3)], [sy_i a2], h)) mj_d_168_11 (fun _ _ => rfl) ?_
    refine sy_i2l mj_d_168_12 ⟨by omega, by omega⟩ ?_
    refine sy_st (S' := (mj_m_168, 14, [(0, .ref 234), (1, sy_i a1), (2, sy_i a2), (3, sy_i a3)], [sy_l 1, sy_l a2], h)) mj_d_168_13 (fun _ _ => rfl) ?_
    refine sy_ldc2 (n := 3) mj_d_168_14 rfl (by decide) ?_
    refine sy_cs (M' := mj_m_126) (vs := [sy_l a2, sy_l 1, sy_l 3]) (rest := []) mj_d_168_17 rfl rfl rfl rfl ⟨Nat.le_of_ble_eq_true rfl, Nat.le_of_ble_eq_true rfl, Nat.le_of_ble_eq_true rfl, Nat.le_of_ble_eq_true rfl, Nat.le_of_ble_eq_true rfl⟩ (dt_R_in (a0 := a2) (a1 := 1) (a2 := 3) hH (by omega) (by omega) (by omega) (by omega) (by omega) (by omega)) ?_
    rintro _ _ ⟨rfl, rfl, b4, b4t⟩
    have q5 := df_R_in_0 (sy_rd h) a2 1 3
    show sy_wp (mj_m_168, 20, [(0, .ref 234), (1, sy_i a1), (2, sy_i a2), (3, sy_i a3)], [sy_i (dc_R_in (sy_rd h) a2 1 3)], h) _
    refine sy_ifc mj_d_168_20 rfl ⟨by omega, by omega⟩ (fun (c6 : (dc_R_in (sy_rd h) a2 1 3) = 0) => ?_) (fun (c6 : ¬ ((dc_R_in (sy_rd h) a2 1 3) = 0)) => ?_)
    · skip
      rw [if_pos c6]
      refine sy_ldc (n := -1000000002) mj_d_168_34 rfl (by decide) ?_
      exact sy_reti mj_d_168_36 rfl ⟨hH, rfl, rfl, by omega, by omega⟩
    · skip
      rw [if_neg c6]
      refine sy_st (S' := (mj_m_168, 24, [(0, .ref 234), (1, sy_i a1), (2, sy_i a2), (3, sy_i a3)], [sy_i a3], h)) mj_d_168_23 (fun _ _ => rfl) ?_
      refine sy_i2l mj_d_168_24 ⟨by omega, by omega⟩ ?_
      refine sy_st (S' := (mj_m_168, 26, [(0, .ref 234), (1, sy_i a1), (2, sy_i a2), (3, sy_i a3)], [sy_l 1, sy_l a3], h)) mj_d_168_25 (fun _ _ => rfl) ?_
      refine sy_st (S' := (mj_m_168, 27, [(0, .ref 234), (1, sy_i a1), (2, sy_i a2), (3, sy_i a3)], [sy_i a2, sy_l 1, sy_l a3], h)) mj_d_168_26 (fun _ _ => rfl) ?_
      refine sy_i2l mj_d_168_27 ⟨by omega, by omega⟩ ?_
      refine sy_cs (M' := mj_m_126) (vs := [sy_l a3, sy_l 1, sy_l a2]) (rest := []) mj_d_168_28 rfl rfl rfl rfl ⟨Nat.le_of_ble_eq_true rfl, Nat.le_of_ble_eq_true rfl, Nat.le_of_ble_eq_true rfl, Nat.le_of_ble_eq_true rfl, Nat.le_of_ble_eq_true rfl⟩ (dt_R_in (a0 := a3) (a1 := 1) (a2 := a2) hH (by omega) (by omega) (by omega) (by omega) (by omega) (by omega)) ?_
      rintro _ _ ⟨rfl, rfl, b7, b7t⟩
      have q8 := df_R_in_0 (sy_rd h) a3 1 a2
      show sy_wp (mj_m_168, 31, [(0, .ref 234), (1, sy_i a1), (2, sy_i a2), (3, sy_i a3)], [sy_i (dc_R_in (sy_rd h) a3 1 a2)], h) _
      refine sy_ifc mj_d_168_31 rfl ⟨by omega, by omega⟩ (fun (c9 : ¬ ((dc_R_in (sy_rd h) a3 1 a2) = 0)) => ?_) (fun (c9 : ¬ ¬ ((dc_R_in (sy_rd h) a3 1 a2) = 0)) => ?_)
      · skip
        rw [if_neg c9]
        refine sy_st (S' := (mj_m_168, 38, [(0, .ref 234), (1, sy_i a1), (2, sy_i a2), (3, sy_i a3)], [sy_i 0], h)) mj_d_168_37 (fun _ _ => rfl) ?_
        refine sy_st (S' := (mj_m_168, 40, [(4, sy_i 0), (0, .ref 234), (1, sy_i a1), (2, sy_i a2), (3, sy_i a3)], [], h)) mj_d_168_38 (fun _ _ => rfl) ?_
        refine sy_st (S' := (mj_m_168, 41, [(4, sy_i 0), (0, .ref 234), (1, sy_i a1), (2, sy_i a2), (3, sy_i a3)], [sy_i 0], h)) mj_d_168_40 (fun _ _ => rfl) ?_
        refine sy_st (S' := (mj_m_168, 43, [(5, sy_i 0), (4, sy_i 0), (0, .ref 234), (1, sy_i a1), (2, sy_i a2), (3, sy_i a3)], [], h)) mj_d_168_41 (fun _ _ => rfl) ?_
        refine sy_lv (lv := [(0, .ref 234), (1, sy_i a1), (2, sy_i a2), (3, sy_i a3), (4, sy_i 0), (5, sy_i 0)]) rfl ⟨rfl, rfl, rfl, rfl, rfl, rfl, trivial⟩ ?_
        exact dt_R_sure_43 513 hH (by first | omega | assumption) (by first | omega | assumption) (by first | omega | assumption) (by first | omega | assumption) (by first | omega | assumption) (by first | omega | assumption) (by first | omega | assumption) (by first | omega | assumption) (by first | omega | assumption) (by first | omega | assumption) (by first | omega | assumption) (by omega)
      · skip
        rw [if_pos (Decidable.not_not.mp c9)]
        replace c9 := Decidable.not_not.mp c9
        refine sy_ldc (n := -1000000002) mj_d_168_34 rfl (by decide) ?_
        exact sy_reti mj_d_168_36 rfl ⟨hH, rfl, rfl, by omega, by omega⟩
  · skip
    rw [if_pos (Decidable.not_not.mp c3)]
    replace c3 := Decidable.not_not.mp c3
    refine sy_ldc (n := -1000000001) mj_d_168_8 rfl (by decide) ?_
    exact sy_reti mj_d_168_10 rfl ⟨hH, rfl, rfl, by omega, by omega⟩
