def mj_m_22 : mj_M := (⟨"SootMaps$Text", "readFirst", "(C)I"⟩, prog_11_method_11_code, 5, (some .int), 8, 1, 1, 2, 47)
theorem mj_d_22_0 : decode mj_m_22.2.1 0 = .ok (.aload_n 0, 1) := by decide +kernel
theorem mj_d_22_1 : decode mj_m_22.2.1 1 = .ok (.getfield 30, 3) := by decide +kernel
theorem mj_d_22_4 : decode mj_m_22.2.1 4 = .ok (.istore_n 2, 1) := by decide +kernel
theorem mj_d_22_5 : decode mj_m_22.2.1 5 = .ok (.aload_n 0, 1) := by decide +kernel
theorem mj_d_22_6 : decode mj_m_22.2.1 6 = .ok (.iload_n 1, 1) := by decide +kernel
theorem mj_d_22_7 : decode mj_m_22.2.1 7 = .ok (.bipush 99, 2) := by decide +kernel
theorem mj_d_22_9 : decode mj_m_22.2.1 9 = .ok (.if_icmp .ne 7, 3) := by decide +kernel
theorem mj_d_22_12 : decode mj_m_22.2.1 12 = .ok (.iconst 2, 1) := by decide +kernel
theorem mj_d_22_13 : decode mj_m_22.2.1 13 = .ok (.goto 17, 3) := by decide +kernel
theorem mj_d_22_16 : decode mj_m_22.2.1 16 = .ok (.iload_n 1, 1) := by decide +kernel
theorem mj_d_22_17 : decode mj_m_22.2.1 17 = .ok (.bipush 104, 2) := by decide +kernel
theorem mj_d_22_19 : decode mj_m_22.2.1 19 = .ok (.if_icmp .ne 8, 3) := by decide +kernel
theorem mj_d_22_22 : decode mj_m_22.2.1 22 = .ok (.bipush 9, 2) := by decide +kernel
theorem mj_d_22_24 : decode mj_m_22.2.1 24 = .ok (.goto 6, 3) := by decide +kernel
theorem mj_d_22_27 : decode mj_m_22.2.1 27 = .ok (.sipush 511, 3) := by decide +kernel
theorem mj_d_22_30 : decode mj_m_22.2.1 30 = .ok (.invokevirtual 78, 3) := by decide +kernel
theorem mj_d_22_33 : decode mj_m_22.2.1 33 = .ok (.istore_n 3, 1) := by decide +kernel
theorem mj_d_22_34 : decode mj_m_22.2.1 34 = .ok (.iload_n 1, 1) := by decide +kernel
theorem mj_d_22_35 : decode mj_m_22.2.1 35 = .ok (.bipush 104, 2) := by decide +kernel
theorem mj_d_22_37 : decode mj_m_22.2.1 37 = .ok (.if_icmp .ne 28, 3) := by decide +kernel
theorem mj_d_22_40 : decode mj_m_22.2.1 40 = .ok (.iload_n 3, 1) := by decide +kernel
theorem mj_d_22_41 : decode mj_m_22.2.1 41 = .ok (.bipush 9, 2) := by decide +kernel
theorem mj_d_22_43 : decode mj_m_22.2.1 43 = .ok (.if_icmp .eq 14, 3) := by decide +kernel
theorem mj_d_22_46 : decode mj_m_22.2.1 46 = .ok (.iload_n 3, 1) := by decide +kernel
theorem mj_d_22_47 : decode mj_m_22.2.1 47 = .ok (.aload_n 0, 1) := by decide +kernel
theorem mj_d_22_48 : decode mj_m_22.2.1 48 = .ok (.getfield 18, 3) := by decide +kernel
theorem mj_d_22_51 : decode mj_m_22.2.1 51 = .ok (.getfield 68, 3) := by decide +kernel
theorem mj_d_22_54 : decode mj_m_22.2.1 54 = .ok (.if_icmp .ge 7, 3) := by decide +kernel
theorem mj_d_22_57 : decode mj_m_22.2.1 57 = .ok (.iconst 1, 1) := by decide +kernel
theorem mj_d_22_58 : decode mj_m_22.2.1 58 = .ok (.goto 31, 3) := by decide +kernel
theorem mj_d_22_61 : decode mj_m_22.2.1 61 = .ok (.iconst 0, 1) := by decide +kernel
theorem mj_d_22_62 : decode mj_m_22.2.1 62 = .ok (.goto 27, 3) := by decide +kernel
theorem mj_d_22_65 : decode mj_m_22.2.1 65 = .ok (.iload_n 1, 1) := by decide +kernel
theorem mj_d_22_66 : decode mj_m_22.2.1 66 = .ok (.bipush 115, 2) := by decide +kernel
theorem mj_d_22_68 : decode mj_m_22.2.1 68 = .ok (.if_icmp .ne 16, 3) := by decide +kernel
theorem mj_d_22_71 : decode mj_m_22.2.1 71 = .ok (.iload_n 3, 1) := by decide +kernel
theorem mj_d_22_72 : decode mj_m_22.2.1 72 = .ok (.iconst 1, 1) := by decide +kernel
theorem mj_d_22_73 : decode mj_m_22.2.1 73 = .ok (.aload_n 0, 1) := by decide +kernel
theorem mj_d_22_74 : decode mj_m_22.2.1 74 = .ok (.getfield 18, 3) := by decide +kernel
theorem mj_d_22_77 : decode mj_m_22.2.1 77 = .ok (.getfield 68, 3) := by decide +kernel
theorem mj_d_22_80 : decode mj_m_22.2.1 80 = .ok (.ishl, 1) := by decide +kernel
theorem mj_d_22_81 : decode mj_m_22.2.1 81 = .ok (.if_icmp .ge 7, 3) := by decide +kernel
theorem mj_d_22_84 : decode mj_m_22.2.1 84 = .ok (.iconst 1, 1) := by decide +kernel
theorem mj_d_22_85 : decode mj_m_22.2.1 85 = .ok (.goto 4, 3) := by decide +kernel
theorem mj_d_22_88 : decode mj_m_22.2.1 88 = .ok (.iconst 0, 1) := by decide +kernel
theorem mj_d_22_89 : decode mj_m_22.2.1 89 = .ok (.istore 4, 2) := by decide +kernel
theorem mj_d_22_91 : decode mj_m_22.2.1 91 = .ok (.iload 4, 2) := by decide +kernel
theorem mj_d_22_93 : decode mj_m_22.2.1 93 = .ok (.ifCond .ne 9, 3) := by decide +kernel
theorem mj_d_22_96 : decode mj_m_22.2.1 96 = .ok (.aload_n 0, 1) := by decide +kernel
theorem mj_d_22_97 : decode mj_m_22.2.1 97 = .ok (.iconst 2, 1) := by decide +kernel
theorem mj_d_22_98 : decode mj_m_22.2.1 98 = .ok (.iload_n 2, 1) := by decide +kernel
theorem mj_d_22_99 : decode mj_m_22.2.1 99 = .ok (.invokevirtual 53, 3) := by decide +kernel
theorem mj_d_22_102 : decode mj_m_22.2.1 102 = .ok (.iload_n 3, 1) := by decide +kernel
theorem mj_d_22_103 : decode mj_m_22.2.1 103 = .ok (.ireturn, 1) := by decide +kernel
def dc_Text_readFirst (s : sg_S) (a1 : Int) : sg_S × Int := (if a1 = 99 then (if a1 = 104 then (if ((dc_Text_readNumber s 2).2) = 9 then ((dc_Text_readNumber s 2).1, (dc_Text_readNumber s 2).2) else (if ((dc_Text_readNumber s 2).1 3 3) ≤ ((dc_Text_readNumber s 2).2) then ((dc_Text_fail (dc_Text_readNumber s 2).1 2 (s 1 3)), (dc_Text_readNumber s 2).2) else ((dc_Text_readNumber s 2).1, (dc_Text_readNumber s 2).2))) else (if a1 = 115 then (if (sy_shl 1 ((dc_Text_readNumber s 2).1 3 3)) ≤ ((dc_Text_readNumber s 2).2) then ((dc_Text_fail (dc_Text_readNumber s 2).1 2 (s 1 3)), (dc_Text_readNumber s 2).2) else ((dc_Text_readNumber s 2).1, (dc_Text_readNumber s 2).2)) else ((dc_Text_readNumber s 2).1, (dc_Text_readNumber s 2).2))) else (if a1 = 104 then (if a1 = 104 then (if ((dc_Text_readNumber s 9).2) = 9 then ((dc_Text_readNumber s 9).1, (dc_Text_readNumber s 9).2) else (if ((dc_Text_readNumber s 9).1 3 3) ≤ ((dc_Text_readNumber s 9).2) then ((dc_Text_fail (dc_Text_readNumber s 9).1 2 (s 1 3)), (dc_Text_readNumber s 9).2) else ((dc_Text_readNumber s 9).1, (dc_Text_readNumber s 9).2))) else (if a1 = 115 then (if (sy_shl 1 ((dc_Text_readNumber s 9).1 3 3)) ≤ ((dc_Text_readNumber s 9).2) then ((dc_Text_fail (dc_Text_readNumber s 9).1 2 (s 1 3)), (dc_Text_readNumber s 9).2) else ((dc_Text_readNumber s 9).1, (dc_Text_readNumber s 9).2)) else ((dc_Text_readNumber s 9).1, (dc_Text_readNumber s 9).2))) else (if a1 = 104 then (if ((dc_Text_readNumber s 511).2) = 9 then ((dc_Text_readNumber s 511).1, (dc_Text_readNumber s 511).2) else (if ((dc_Text_readNumber s 511).1 3 3) ≤ ((dc_Text_readNumber s 511).2) then ((dc_Text_fail (dc_Text_readNumber s 511).1 2 (s 1 3)), (dc_Text_readNumber s 511).2) else ((dc_Text_readNumber s 511).1, (dc_Text_readNumber s 511).2))) else (if a1 = 115 then (if (sy_shl 1 ((dc_Text_readNumber s 511).1 3 3)) ≤ ((dc_Text_readNumber s 511).2) then ((dc_Text_fail (dc_Text_readNumber s 511).1 2 (s 1 3)), (dc_Text_readNumber s 511).2) else ((dc_Text_readNumber s 511).1, (dc_Text_readNumber s 511).2)) else ((dc_Text_readNumber s 511).1, (dc_Text_readNumber s 511).2)))))
set_option maxRecDepth 100000 in
theorem dt_Text_readFirst {h : mj_H} (hH : sy_H h) {a1 : Int} (b_a1 : 0 ≤ a1) (t_a1 : a1 ≤ 65535) : sy_wp (mj_m_22, 0, [(0, .ref 1), (1, sy_i a1)], [], h) (dq2 (0) (999) (dc_Text_readFirst (sy_rd h) a1)) := by
  unfold dc_Text_readFirst
  have n3_3 := hH.bd (a := 3) (k := 3) rfl (by decide) rfl
  refine sy_st (S' := (mj_m_22, 1, [(0, .ref 1), (1, sy_i a1)], [.ref 1], h)) mj_d_22_0 (fun _ _ => rfl) ?_
  refine sy_gf mj_d_22_1 rfl rfl (by decide) rfl hH ?_
  rintro _ rfl bx1 tx1
  refine sy_st (S' := (mj_m_22, 5, [(2, sy_i (sy_rd h 1 3)), (0, .ref 1), (1, sy_i a1)], [], h)) mj_d_22_4 (fun _ _ => rfl) ?_
  refine sy_st (S' := (mj_m_22, 6, [(2, sy_i (sy_rd h 1 3)), (0, .ref 1), (1, sy_i a1)], [.ref 1], h)) mj_d_22_5 (fun _ _ => rfl) ?_
  refine sy_st (S' := (mj_m_22, 7, [(2, sy_i (sy_rd h 1 3)), (0, .ref 1), (1, sy_i a1)], [sy_i a1, .ref 1], h)) mj_d_22_6 (fun _ _ => rfl) ?_
  refine sy_bip mj_d_22_7 (by decide) ?_
  refine sy_icm mj_d_22_9 rfl ⟨by omega, by omega⟩ ⟨by omega, by omega⟩ (fun (c2 : ¬ (a1 = 99)) => ?_) (fun (c2 : ¬ ¬ (a1 = 99)) => ?_)
  · skip
    rw [if_neg c2]
    refine sy_st (S' := (mj_m_22, 17, [(2, sy_i (sy_rd h 1 3)), (0, .ref 1), (1, sy_i a1)], [sy_i a1, .ref 1], h)) mj_d_22_16 (fun _ _ => rfl) ?_
    refine sy_bip mj_d_22_17 (by decide) ?_
    refine sy_icm mj_d_22_19 rfl ⟨by omega, by omega⟩ ⟨by omega, by omega⟩ (fun (c3 : ¬ (a1 = 104)) => ?_) (fun (c3 : ¬ ¬ (a1 = 104)) => ?_)
    · skip
      rw [if_neg c3]
      refine sy_sip mj_d_22_27 (by decide) ?_
      refine sy_cv (M' := mj_m_23) (vs := [.ref 1, sy_i 511]) (rest := []) mj_d_22_30 rfl rfl rfl rfl hH rfl rfl ⟨by decide, ⟨Nat.le_of_ble_eq_true rfl, Nat.le_of_ble_eq_true rfl, Nat.le_of_ble_eq_true rfl, Nat.le_of_ble_eq_true rfl, Nat.le_of_ble_eq_true rfl⟩⟩ (dt_Text_readNumber (a1 := 511) hH (by omega) (by omega)) ?_
      rintro _ h4 ⟨th4, eh4, rfl, b5, b5t⟩
      have q6 := df_num_f (sy_rd h) 511
      show sy_wp (mj_m_22, 33, [(2, sy_i (sy_rd h 1 3)), (0, .ref 1), (1, sy_i a1)], [sy_i ((dc_Text_readNumber (sy_rd h) 511).2)], h4) _
      refine sy_st (S' := (mj_m_22, 34, [(3, sy_i ((dc_Text_readNumber (sy_rd h) 511).2)), (2, sy_i (sy_rd h 1 3)), (0, .ref 1), (1, sy_i a1)], [], h4)) mj_d_22_33 (fun _ _ => rfl) ?_
      refine sy_st (S' := (mj_m_22, 35, [(3, sy_i ((dc_Text_readNumber (sy_rd h) 511).2)), (2, sy_i (sy_rd h 1 3)), (0, .ref 1), (1, sy_i a1)], [sy_i a1], h4)) mj_d_22_34 (fun _ _ => rfl) ?_
      refine sy_bip mj_d_22_35 (by decide) ?_
      refine sy_icm mj_d_22_37 rfl ⟨by omega, by omega⟩ ⟨by omega, by omega⟩ (fun (c7 : ¬ (a1 = 104)) => ?_) (fun (c7 : ¬ ¬ (a1 = 104)) => ?_)
      · skip
        rw [if_neg c7]
        refine sy_st (S' := (mj_m_22, 66, [(3, sy_i ((dc_Text_readNumber (sy_rd h) 511).2)), (2, sy_i (sy_rd h 1 3)), (0, .ref 1), (1, sy_i a1)], [sy_i a1], h4)) mj_d_22_65 (fun _ _ => rfl) ?_
        refine sy_bip mj_d_22_66 (by decide) ?_
        refine sy_icm mj_d_22_68 rfl ⟨by omega, by omega⟩ ⟨by omega, by omega⟩ (fun (c8 : ¬ (a1 = 115)) => ?_) (fun (c8 : ¬ ¬ (a1 = 115)) => ?_)
        · skip
          rw [if_neg c8]
          refine sy_st (S' := (mj_m_22, 85, [(3, sy_i ((dc_Text_readNumber (sy_rd h) 511).2)), (2, sy_i (sy_rd h 1 3)), (0, .ref 1), (1, sy_i a1)], [sy_i 1], h4)) mj_d_22_84 (fun _ _ => rfl) ?_
          refine sy_st (S' := (mj_m_22, 89, [(3, sy_i ((dc_Text_readNumber (sy_rd h) 511).2)), (2, sy_i (sy_rd h 1 3)), (0, .ref 1), (1, sy_i a1)], [sy_i 1], h4)) mj_d_22_85 (fun _ _ => rfl) ?_
          refine sy_st (S' := (mj_m_22, 91, [(4, sy_i 1), (3, sy_i ((dc_Text_readNumber (sy_rd h) 511).2)), (2, sy_i (sy_rd h 1 3)), (0, .ref 1), (1, sy_i a1)], [], h4)) mj_d_22_89 (fun _ _ => rfl) ?_
          refine sy_st (S' := (mj_m_22, 93, [(4, sy_i 1), (3, sy_i ((dc_Text_readNumber (sy_rd h) 511).2)), (2, sy_i (sy_rd h 1 3)), (0, .ref 1), (1, sy_i a1)], [sy_i 1], h4)) mj_d_22_91 (fun _ _ => rfl) ?_
          refine sy_ifc mj_d_22_93 rfl ⟨by omega, by omega⟩ (fun _ => ?_) (fun (q : ¬ (¬ (1 : Int) = 0)) => absurd (by decide) q)
          refine sy_st (S' := (mj_m_22, 103, [(4, sy_i 1), (3, sy_i ((dc_Text_readNumber (sy_rd h) 511).2)), (2, sy_i (sy_rd h 1 3)), (0, .ref 1), (1, sy_i a1)], [sy_i ((dc_Text_readNumber (sy_rd h) 511).2)], h4)) mj_d_22_102 (fun _ _ => rfl) ?_
          exact sy_reti mj_d_22_103 rfl ⟨th4, eh4, rfl, by omega, by omega⟩
        · skip
          rw [if_pos (Decidable.not_not.mp c8)]
          replace c8 := Decidable.not_not.mp c8
          refine sy_st (S' := (mj_m_22, 72, [(3, sy_i ((dc_Text_readNumber (sy_rd h) 511).2)), (2, sy_i (sy_rd h 1 3)), (0, .ref 1), (1, sy_i a1)], [sy_i ((dc_Text_readNumber (sy_rd h) 511).2)], h4)) mj_d_22_71 (fun _ _ => rfl) ?_
          refine sy_st (S' := (mj_m_22, 73, [(3, sy_i ((dc_Text_readNumber (sy_rd h) 511).2)), (2, sy_i (sy_rd h 1 3)), (0, .ref 1), (1, sy_i a1)], [sy_i 1, sy_i ((dc_Text_readNumber (sy_rd h) 511).2)], h4)) mj_d_22_72 (fun _ _ => rfl) ?_
          refine sy_st (S' := (mj_m_22, 74, [(3, sy_i ((dc_Text_readNumber (sy_rd h) 511).2)), (2, sy_i (sy_rd h 1 3)), (0, .ref 1), (1, sy_i a1)], [.ref 1, sy_i 1, sy_i ((dc_Text_readNumber (sy_rd h) 511).2)], h4)) mj_d_22_73 (fun _ _ => rfl) ?_
          refine sy_gr2 (b := 3) mj_d_22_74 rfl rfl (by decide) rfl rfl th4 ?_
          refine sy_gf mj_d_22_77 rfl rfl (by decide) rfl th4 ?_
          intro x9 ex9 bx9 tx9
          rw [eh4] at ex9
          subst ex9
          refine sy_ishl mj_d_22_80 ?_
          have q10 := sg_shl_f 1 ((dc_Text_readNumber (sy_rd h) 511).1 3 3)
          refine sy_icm mj_d_22_81 rfl ⟨by omega, by omega⟩ ⟨by omega, by omega⟩ (fun (c11 : (sy_shl 1 ((dc_Text_readNumber (sy_rd h) 511).1 3 3)) ≤ ((dc_Text_readNumber (sy_rd h) 511).2)) => ?_) (fun (c11 : ¬ ((sy_shl 1 ((dc_Text_readNumber (sy_rd h) 511).1 3 3)) ≤ ((dc_Text_readNumber (sy_rd h) 511).2))) => ?_)
          · skip
            rw [if_pos c11]
            refine sy_st (S' := (mj_m_22, 89, [(3, sy_i ((dc_Text_readNumber (sy_rd h) 511).2)), (2, sy_i (sy_rd h 1 3)), (0, .ref 1), (1, sy_i a1)], [sy_i 0], h4)) mj_d_22_88 (fun _ _ => rfl) ?_
            refine sy_st (S' := (mj_m_22, 91, [(4, sy_i 0), (3, sy_i ((dc_Text_readNumber (sy_rd h) 511).2)), (2, sy_i (sy_rd h 1 3)), (0, .ref 1), (1, sy_i a1)], [], h4)) mj_d_22_89 (fun _ _ => rfl) ?_
            refine sy_st (S' := (mj_m_22, 93, [(4, sy_i 0), (3, sy_i ((dc_Text_readNumber (sy_rd h) 511).2)), (2, sy_i (sy_rd h 1 3)), (0, .ref 1), (1, sy_i a1)], [sy_i 0], h4)) mj_d_22_91 (fun _ _ => rfl) ?_
            refine sy_ifc mj_d_22_93 rfl ⟨by omega, by omega⟩ (fun (q : ¬ (0 : Int) = 0) => absurd q (by decide)) (fun _ => ?_)
            refine sy_st (S' := (mj_m_22, 97, [(4, sy_i 0), (3, sy_i ((dc_Text_readNumber (sy_rd h) 511).2)), (2, sy_i (sy_rd h 1 3)), (0, .ref 1), (1, sy_i a1)], [.ref 1], h4)) mj_d_22_96 (fun _ _ => rfl) ?_
            refine sy_st (S' := (mj_m_22, 98, [(4, sy_i 0), (3, sy_i ((dc_Text_readNumber (sy_rd h) 511).2)), (2, sy_i (sy_rd h 1 3)), (0, .ref 1), (1, sy_i a1)], [sy_i 2, .ref 1], h4)) mj_d_22_97 (fun _ _ => rfl) ?_
            refine sy_st (S' := (mj_m_22, 99, [(4, sy_i 0), (3, sy_i ((dc_Text_readNumber (sy_rd h) 511).2)), (2, sy_i (sy_rd h 1 3)), (0, .ref 1), (1, sy_i a1)], [sy_i (sy_rd h 1 3), sy_i 2, .ref 1], h4)) mj_d_22_98 (fun _ _ => rfl) ?_
            refine sy_cv (M' := mj_m_19) (vs := [.ref 1, sy_i 2, sy_i (sy_rd h 1 3)]) (rest := []) mj_d_22_99 rfl rfl rfl rfl th4 rfl rfl ⟨by decide, ⟨Nat.le_of_ble_eq_true rfl, Nat.le_of_ble_eq_true rfl, Nat.le_of_ble_eq_true rfl, Nat.le_of_ble_eq_true rfl, Nat.le_of_ble_eq_true rfl⟩⟩ (dt_Text_fail (a1 := 2) (a2 := (sy_rd h 1 3)) th4 (by omega) (by omega) (by omega) (by omega)) ?_
            rintro _ h12 ⟨rfl, th12, eh12⟩
            rw [eh4] at eh12
            show sy_wp (mj_m_22, 102, [(4, sy_i 0), (3, sy_i ((dc_Text_readNumber (sy_rd h) 511).2)), (2, sy_i (sy_rd h 1 3)), (0, .ref 1), (1, sy_i a1)], [], h12) _
            refine sy_st (S' := (mj_m_22, 103, [(4, sy_i 0), (3, sy_i ((dc_Text_readNumber (sy_rd h) 511).2)), (2, sy_i (sy_rd h 1 3)), (0, .ref 1), (1, sy_i a1)], [sy_i ((dc_Text_readNumber (sy_rd h) 511).2)], h12)) mj_d_22_102 (fun _ _ => rfl) ?_
            exact sy_reti mj_d_22_103 rfl ⟨th12, eh12, rfl, by omega, by omega⟩
          · skip
            rw [if_neg c11]
            refine sy_st (S' := (mj_m_22, 85, [(3, sy_i ((dc_Text_readNumber (sy_rd h) 511).2)), (2, sy_i (sy_rd h 1 3)), (0, .ref 1), (1, sy_i a1)], [sy_i 1], h4)) mj_d_22_84 (fun _ _ => rfl) ?_
            refine sy_st (S' := (mj_m_22, 89, [(3, sy_i ((dc_Text_readNumber (sy_rd h) 511).2)), (2, sy_i (sy_rd h 1 3)), (0, .ref 1), (1, sy_i a1)], [sy_i 1], h4)) mj_d_22_85 (fun _ _ => rfl) ?_
            refine sy_st (S' := (mj_m_22, 91, [(4, sy_i 1), (3, sy_i ((dc_Text_readNumber (sy_rd h) 511).2)), (2, sy_i (sy_rd h 1 3)), (0, .ref 1), (1, sy_i a1)], [], h4)) mj_d_22_89 (fun _ _ => rfl) ?_
            refine sy_st (S' := (mj_m_22, 93, [(4, sy_i 1), (3, sy_i ((dc_Text_readNumber (sy_rd h) 511).2)), (2, sy_i (sy_rd h 1 3)), (0, .ref 1), (1, sy_i a1)], [sy_i 1], h4)) mj_d_22_91 (fun _ _ => rfl) ?_
            refine sy_ifc mj_d_22_93 rfl ⟨by omega, by omega⟩ (fun _ => ?_) (fun (q : ¬ (¬ (1 : Int) = 0)) => absurd (by decide) q)
            refine sy_st (S' := (mj_m_22, 103, [(4, sy_i 1), (3, sy_i ((dc_Text_readNumber (sy_rd h) 511).2)), (2, sy_i (sy_rd h 1 3)), (0, .ref 1), (1, sy_i a1)], [sy_i ((dc_Text_readNumber (sy_rd h) 511).2)], h4)) mj_d_22_102 (fun _ _ => rfl) ?_
            exact sy_reti mj_d_22_103 rfl ⟨th4, eh4, rfl, by omega, by omega⟩
      · skip
        rw [if_pos (Decidable.not_not.mp c7)]
        replace c7 := Decidable.not_not.mp c7
        refine sy_st (S' := (mj_m_22, 41, [(3, sy_i ((dc_Text_readNumber (sy_rd h) 511).2)), (2, sy_i (sy_rd h 1 3)), (0, .ref 1), (1, sy_i a1)], [sy_i ((dc_Text_readNumber (sy_rd h) 511).2)], h4)) mj_d_22_40 (fun _ _ => rfl) ?_
        refine sy_bip mj_d_22_41 (by decide) ?_
        refine sy_icm mj_d_22_43 rfl ⟨by omega, by omega⟩ ⟨by omega, by omega⟩ (fun (c14 : ((dc_Text_readNumber (sy_rd h) 511).2) = 9) => ?_) (fun (c14 : ¬ (((dc_Text_readNumber (sy_rd h) 511).2) = 9)) => ?_)
        · skip
          rw [if_pos c14]
          refine sy_st (S' := (mj_m_22, 58, [(3, sy_i ((dc_Text_readNumber (sy_rd h) 511).2)), (2, sy_i (sy_rd h 1 3)), (0, .ref 1), (1, sy_i a1)], [sy_i 1], h4)) mj_d_22_57 (fun _ _ => rfl) ?_
          refine sy_st (S' := (mj_m_22, 89, [(3, sy_i ((dc_Text_readNumber (sy_rd h) 511).2)), (2, sy_i (sy_rd h 1 3)), (0, .ref 1), (1, sy_i a1)], [sy_i 1], h4)) mj_d_22_58 (fun _ _ => rfl) ?_
          refine sy_st (S' := (mj_m_22, 91, [(4, sy_i 1), (3, sy_i ((dc_Text_readNumber (sy_rd h) 511).2)), (2, sy_i (sy_rd h 1 3)), (0, .ref 1), (1, sy_i a1)], [], h4)) mj_d_22_89 (fun _ _ => rfl) ?_
          refine sy_st (S' := (mj_m_22, 93, [(4, sy_i 1), (3, sy_i ((dc_Text_readNumber (sy_rd h) 511).2)), (2, sy_i (sy_rd h 1 3)), (0, .ref 1), (1, sy_i a1)], [sy_i 1], h4)) mj_d_22_91 (fun _ _ => rfl) ?_
          refine sy_ifc mj_d_22_93 rfl ⟨by omega, by omega⟩ (fun _ => ?_) (fun (q : ¬ (¬ (1 : Int) = 0)) => absurd (by decide) q)
          refine sy_st (S' := (mj_m_22, 103, [(4, sy_i 1), (3, sy_i ((dc_Text_readNumber (sy_rd h) 511).2)), (2, sy_i (sy_rd h 1 3)), (0, .ref 1), (1, sy_i a1)], [sy_i ((dc_Text_readNumber (sy_rd h) 511).2)], h4)) mj_d_22_102 (fun _ _ => rfl) ?_
          exact sy_reti mj_d_22_103 rfl ⟨th4, eh4, rfl, by omega, by omega⟩
        · skip
          rw [if_neg c14]
          refine sy_st (S' := (mj_m_22, 47, [(3, sy_i ((dc_Text_readNumber (sy_rd h) 511).2)), (2, sy_i (sy_rd h 1 3)), (0, .ref 1), (1, sy_i a1)], [sy_i ((dc_Text_readNumber (sy_rd h) 511).2)], h4)) mj_d_22_46 (fun _ _ => rfl) ?_
          refine sy_st (S' := (mj_m_22, 48, [(3, sy_i ((dc_Text_readNumber (sy_rd h) 511).2)), (2, sy_i (sy_rd h 1 3)), (0, .ref 1), (1, sy_i a1)], [.ref 1, sy_i ((dc_Text_readNumber (sy_rd h) 511).2)], h4)) mj_d_22_47 (fun _ _ => rfl) ?_
          refine sy_gr2 (b := 3) mj_d_22_48 rfl rfl (by decide) rfl rfl th4 ?_
          refine sy_gf mj_d_22_51 rfl rfl (by decide) rfl th4 ?_
          intro x15 ex15 bx15 tx15
          rw [eh4] at ex15
          subst ex15
          refine sy_icm mj_d_22_54 rfl ⟨by omega, by omega⟩ ⟨by omega, by omega⟩ (fun (c16 : ((dc_Text_readNumber (sy_rd h) 511).1 3 3) ≤ ((dc_Text_readNumber (sy_rd h) 511).2)) => ?_) (fun (c16 : ¬ (((dc_Text_readNumber (sy_rd h) 511).1 3 3) ≤ ((dc_Text_readNumber (sy_rd h) 511).2))) => ?_)
          · skip
            rw [if_pos c16]
            refine sy_st (S' := (mj_m_22, 62, [(3, sy_i ((dc_Text_readNumber (sy_rd h) 511).2)), (2, sy_i (sy_rd h 1 3)), (0, .ref 1), (1, sy_i a1)], [sy_i 0], h4)) mj_d_22_61 (fun _ _ => rfl) ?_
            refine sy_st (S' := (mj_m_22, 89, [(3, sy_i ((dc_Text_readNumber (sy_rd h) 511).2)), (2, sy_i (sy_rd h 1 3)), (0, .ref 1), (1, sy_i a1)], [sy_i 0], h4)) mj_d_22_62 (fun _ _ => rfl) ?_
            refine sy_st (S' := (mj_m_22, 91, [(4, sy_i 0), (3, sy_i ((dc_Text_readNumber (sy_rd h) 511).2)), (2, sy_i (sy_rd h 1 3)), (0, .ref 1), (1, sy_i a1)], [], h4)) mj_d_22_89 (fun _ _ => rfl) ?_
            refine sy_st (S' := (mj_m_22, 93, [(4, sy_i 0), (3, sy_i ((dc_Text_readNumber (sy_rd h) 511).2)), (2, sy_i (sy_rd h 1 3)), (0, .ref 1), (1, sy_i a1)], [sy_i 0], h4)) mj_d_22_91 (fun _ _ => rfl) ?_
            refine sy_ifc mj_d_22_93 rfl ⟨by omega, by omega⟩ (fun (q : ¬ (0 : Int) = 0) => absurd q (by decide)) (fun _ => ?_)
            refine sy_st (S' := (mj_m_22, 97, [(4, sy_i 0), (3, sy_i ((dc_Text_readNumber (sy_rd h) 511).2)), (2, sy_i (sy_rd h 1 3)), (0, .ref 1), (1, sy_i a1)], [.ref 1], h4)) mj_d_22_96 (fun _ _ => rfl) ?_
            refine sy_st (S' := (mj_m_22, 98, [(4, sy_i 0), (3, sy_i ((dc_Text_readNumber (sy_rd h) 511).2)), (2, sy_i (sy_rd h 1 3)), (0, .ref 1), (1, sy_i a1)], [sy_i 2, .ref 1], h4)) mj_d_22_97 (fun _ _ => rfl) ?_
            refine sy_st (S' := (mj_m_22, 99, [(4, sy_i 0), (3, sy_i ((dc_Text_readNumber (sy_rd h) 511).2)), (2, sy_i (sy_rd h 1 3)), (0, .ref 1), (1, sy_i a1)], [sy_i (sy_rd h 1 3), sy_i 2, .ref 1], h4)) mj_d_22_98 (fun _ _ => rfl) ?_
            refine sy_cv (M' := mj_m_19) (vs := [.ref 1, sy_i 2, sy_i (sy_rd h 1 3)]) (rest := []) mj_d_22_99 rfl rfl rfl rfl th4 rfl rfl ⟨by decide, ⟨Nat.le_of_ble_eq_true rfl, Nat.le_of_ble_eq_true rfl, Nat.le_of_ble_eq_true rfl, Nat.le_of_ble_eq_true rfl, Nat.le_of_ble_eq_true rfl⟩⟩ (dt_Text_fail (a1 := 2) (a2 := (sy_rd h 1 3)) th4 (by omega) (by omega) (by omega) (by omega)) ?_
            rintro _ h17 ⟨rfl, th17, eh17⟩
            rw [eh4] at eh17
            show sy_wp (mj_m_22, 102, [(4, sy_i 0), (3, sy_i ((dc_Text_readNumber (sy_rd h) 511).2)), (2, sy_i (sy_rd h 1 3)), (0, .ref 1), (1, sy_i a1)], [], h17) _
            refine sy_st (S' := (mj_m_22, 103, [(4, sy_i 0), (3, sy_i ((dc_Text_readNumber (sy_rd h) 511).2)), (2, sy_i (sy_rd h 1 3)), (0, .ref 1), (1, sy_i a1)], [sy_i ((dc_Text_readNumber (sy_rd h) 511).2)], h17)) mj_d_22_102 (fun _ _ => rfl) ?_
            exact sy_reti mj_d_22_103 rfl ⟨th17, eh17, rfl, by omega, by omega⟩
          · skip
            rw [if_neg c16]
            refine sy_st (S' := (mj_m_22, 58, [(3, sy_i ((dc_Text_readNumber (sy_rd h) 511).2)), (2, sy_i (sy_rd h 1 3)), (0, .ref 1), (1, sy_i a1)], [sy_i 1], h4)) mj_d_22_57 (fun _ _ => rfl) ?_
            refine sy_st (S' := (mj_m_22, 89, [(3, sy_i ((dc_Text_readNumber (sy_rd h) 511).2)), (2, sy_i (sy_rd h 1 3)), (0, .ref 1), (1, sy_i a1)], [sy_i 1], h4)) mj_d_22_58 (fun _ _ => rfl) ?_
            refine sy_st (S' := (mj_m_22, 91, [(4, sy_i 1), (3, sy_i ((dc_Text_readNumber (sy_rd h) 511).2)), (2, sy_i (sy_rd h 1 3)), (0, .ref 1), (1, sy_i a1)], [], h4)) mj_d_22_89 (fun _ _ => rfl) ?_
            refine sy_st (S' := (mj_m_22, 93, [(4, sy_i 1), (3, sy_i ((dc_Text_readNumber (sy_rd h) 511).2)), (2, sy_i (sy_rd h 1 3)), (0, .ref 1), (1, sy_i a1)], [sy_i 1], h4)) mj_d_22_91 (fun _ _ => rfl) ?_
            refine sy_ifc mj_d_22_93 rfl ⟨by omega, by omega⟩ (fun _ => ?_) (fun (q : ¬ (¬ (1 : Int) = 0)) => absurd (by decide) q)
            refine sy_st (S' := (mj_m_22, 103, [(4, sy_i 1), (3, sy_i ((dc_Text_readNumber (sy_rd h) 511).2)), (2, sy_i (sy_rd h 1 3)), (0, .ref 1), (1, sy_i a1)], [sy_i ((dc_Text_readNumber (sy_rd h) 511).2)], h4)) mj_d_22_102 (fun _ _ => rfl) ?_
            exact sy_reti mj_d_22_103 rfl ⟨th4, eh4, rfl, by omega, by omega⟩
    · skip
      rw [if_pos (Decidable.not_not.mp c3)]
      replace c3 := Decidable.not_not.mp c3
      refine sy_bip mj_d_22_22 (by decide) ?_
      refine sy_st (S' := (mj_m_22, 30, [(2, sy_i (sy_rd h 1 3)), (0, .ref 1), (1, sy_i a1)], [sy_i 9, .ref 1], h)) mj_d_22_24 (fun _ _ => rfl) ?_
      refine sy_cv (M' := mj_m_23) (vs := [.ref 1, sy_i 9]) (rest := []) mj_d_22_30 rfl rfl rfl rfl hH rfl rfl ⟨by decide, ⟨Nat.le_of_ble_eq_true rfl, Nat.le_of_ble_eq_true rfl, Nat.le_of_ble_eq_true rfl, Nat.le_of_ble_eq_true rfl, Nat.le_of_ble_eq_true rfl⟩⟩ (dt_Text_readNumber (a1 := 9) hH (by omega) (by omega)) ?_
      rintro _ h19 ⟨th19, eh19, rfl, b20, b20t⟩
      have q21 := df_num_f (sy_rd h) 9
      show sy_wp (mj_m_22, 33, [(2, sy_i (sy_rd h 1 3)), (0, .ref 1), (1, sy_i a1)], [sy_i ((dc_Text_readNumber (sy_rd h) 9).2)], h19) _
      refine sy_st (S' := (mj_m_22, 34, [(3, sy_i ((dc_Text_readNumber (sy_rd h) 9).2)), (2, sy_i (sy_rd h 1 3)), (0, .ref 1), (1, sy_i a1)], [], h19)) mj_d_22_33 (fun _ _ => rfl) ?_
      refine sy_st (S' := (mj_m_22, 35, [(3, sy_i ((dc_Text_readNumber (sy_rd h) 9).2)), (2, sy_i (sy_rd h 1 3)), (0, .ref 1), (1, sy_i a1)], [sy_i a1], h19)) mj_d_22_34 (fun _ _ => rfl) ?_
      refine sy_bip mj_d_22_35 (by decide) ?_
      refine sy_icm mj_d_22_37 rfl ⟨by omega, by omega⟩ ⟨by omega, by omega⟩ (fun (c22 : ¬ (a1 = 104)) => ?_) (fun (c22 : ¬ ¬ (a1 = 104)) => ?_)
      · skip
        rw [if_neg c22]
        refine sy_st (S' := (mj_m_22, 66, [(3, sy_i ((dc_Text_readNumber (sy_rd h) 9).2)), (2, sy_i (sy_rd h 1 3)), (0, .ref 1), (1, sy_i a1)], [sy_i a1], h19)) mj_d_22_65 (fun _ _ => rfl) ?_
        refine sy_bip mj_d_22_66 (by decide) ?_
        refine sy_icm mj_d_22_68 rfl ⟨by omega, by omega⟩ ⟨by omega, by omega⟩ (fun (c23 : ¬ (a1 = 115)) => ?_) (fun (c23 : ¬ ¬ (a1 = 115)) => ?_)
        · skip
          rw [if_neg c23]
          refine sy_st (S' := (mj_m_22, 85, [(3, sy_i ((dc_Text_readNumber (sy_rd h) 9).2)), (2, sy_i (sy_rd h 1 3)), (0, .ref 1), (1, sy_i a1)], [sy_i 1], h19)) mj_d_22_84 (fun _ _ => rfl) ?_
          refine sy_st (S' := (mj_m_22, 89, [(3, sy_i ((dc_Text_readNumber (sy_rd h) 9).2)), (2, sy_i (sy_rd h 1 3)), (0, .ref 1), (1, sy_i a1)], [sy_i 1], h19)) mj_d_22_85 (fun _ _ => rfl) ?_
          refine sy_st (S' := (mj_m_22, 91, [(4, sy_i 1), (3, sy_i ((dc_Text_readNumber (sy_rd h) 9).2)), (2, sy_i (sy_rd h 1 3)), (0, .ref 1), (1, sy_i a1)], [], h19)) mj_d_22_89 (fun _ _ => rfl) ?_
          refine sy_st (S' := (mj_m_22, 93, [(4, sy_i 1), (3, sy_i ((dc_Text_readNumber (sy_rd h) 9).2)), (2, sy_i (sy_rd h 1 3)), (0, .ref 1), (1, sy_i a1)], [sy_i 1], h19)) mj_d_22_91 (fun _ _ => rfl) ?_
          refine sy_ifc mj_d_22_93 rfl ⟨by omega, by omega⟩ (fun _ => ?_) (fun (q : ¬ (¬ (1 : Int) = 0)) => absurd (by decide) q)
          refine sy_st (S' := (mj_m_22, 103, [(4, sy_i 1), (3, sy_i ((dc_Text_readNumber (sy_rd h) 9).2)), (2, sy_i (sy_rd h 1 3)), (0, .ref 1), (1, sy_i a1)], [sy_i ((dc_Text_readNumber (sy_rd h) 9).2)], h19)) mj_d_22_102 (fun _ _ => rfl) ?_
          exact sy_reti mj_d_22_103 rfl ⟨th19, eh19, rfl, by omega, by omega⟩
        · skip
          rw [if_pos (Decidable.not_not.mp c23)]
          replace c23 := Decidable.not_not.mp c23
          refine sy_st (S' := (mj_m_22, 72, [(3, sy_i ((dc_Text_readNumber (sy_rd h) 9).2)), (2, sy_i (sy_rd h 1 3)), (0, .ref 1), (1, sy_i a1)], [sy_i ((dc_Text_readNumber (sy_rd h) 9).2)], h19)) mj_d_22_71 (fun _ _ => rfl) ?_
          refine sy_st (S' := (mj_m_22, 73, [(3, sy_i ((dc_Text_readNumber (sy_rd h) 9).2)), (2, sy_i (sy_rd h 1 3)), (0, .ref 1), (1, sy_i a1)], [sy_i 1, sy_i ((dc_Text_readNumber (sy_rd h) 9).2)], h19)) mj_d_22_72 (fun _ _ => rfl) ?_
          refine sy_st (S' := (mj_m_22, 74, [(3, sy_i ((dc_Text_readNumber (sy_rd h) 9).2)), (2, sy_i (sy_rd h 1 3)), (0, .ref 1), (1, sy_i a1)], [.ref 1, sy_i 1, sy_i ((dc_Text_readNumber (sy_rd h) 9).2)], h19)) mj_d_22_73 (fun _ _ => rfl) ?_
          refine sy_gr2 (b := 3) mj_d_22_74 rfl rfl (by decide) rfl rfl th19 ?_
          refine sy_gf mj_d_22_77 rfl rfl (by decide) rfl th19 ?_
          intro x24 ex24 bx24 tx24
          rw [eh19] at ex24
          subst ex24
          refine sy_ishl mj_d_22_80 ?_
          have q25 := sg_shl_f 1 ((dc_Text_readNumber (sy_rd h) 9).1 3 3)
          refine sy_icm mj_d_22_81 rfl ⟨by omega, by omega⟩ ⟨by omega, by omega⟩ (fun (c26 : (sy_shl 1 ((dc_Text_readNumber (sy_rd h) 9).1 3 3)) ≤ ((dc_Text_readNumber (sy_rd h) 9).2)) => ?_) (fun (c26 : ¬ ((sy_shl 1 ((dc_Text_readNumber (sy_rd h) 9).1 3 3)) ≤ ((dc_Text_readNumber (sy_rd h) 9).2))) => ?_)
          · skip
            rw [if_pos c26]
            refine sy_st (S' := (mj_m_22, 89, [(3, sy_i ((dc_Text_readNumber (sy_rd h) 9).2)), (2, sy_i (sy_rd h 1 3)), (0, .ref 1), (1, sy_i a1)], [sy_i 0], h19)) mj_d_22_88 (fun _ _ => rfl) ?_
            refine sy_st (S' := (mj_m_22, 91, [(4, sy_i 0), (3, sy_i ((dc_Text_readNumber (sy_rd h) 9).2)), (2, sy_i (sy_rd h 1 3)), (0, .ref 1), (1, sy_i a1)], [], h19)) mj_d_22_89 (fun _ _ => rfl) ?_
            refine sy_st (S' := (mj_m_22, 93, [(4, sy_i 0), (3, sy_i ((dc_Text_readNumber (sy_rd h) 9).2)), (2, sy_i (sy_rd h 1 3)), (0, .ref 1), (1, sy_i a1)], [sy_i 0], h19)) mj_d_22_91 (fun _ _ => rfl) ?_
            refine sy_ifc mj_d_22_93 rfl ⟨by omega, by omega⟩ (fun (q : ¬ (0 : Int) = 0) => absurd q (by decide)) (fun _ => ?_)
            refine sy_st (S' := (mj_m_22, 97, [(4, sy_i 0), (3, sy_i ((dc_Text_readNumber (sy_rd h) 9).2)), (2, sy_i (sy_rd h 1 3)), (0, .ref 1), (1, sy_i a1)], [.ref 1], h19)) mj_d_22_96 (fun _ _ => rfl) ?_
            refine sy_st (S' := (mj_m_22, 98, [(4, sy_i 0), (3, sy_i ((dc_Text_readNumber (sy_rd h) 9).2)), (2, sy_i (sy_rd h 1 3)), (0, .ref 1), (1, sy_i a1)], [sy_i 2, .ref 1], h19)) mj_d_22_97 (fun _ _ => rfl) ?_
            refine sy_st (S' := (mj_m_22, 99, [(4, sy_i 0), (3, sy_i ((dc_Text_readNumber (sy_rd h) 9).2)), (2, sy_i (sy_rd h 1 3)), (0, .ref 1), (1, sy_i a1)], [sy_i (sy_rd h 1 3), sy_i 2, .ref 1], h19)) mj_d_22_98 (fun _ _ => rfl) ?_
            refine sy_cv (M' := mj_m_19) (vs := [.ref 1, sy_i 2, sy_i (sy_rd h 1 3)]) (rest := []) mj_d_22_99 rfl rfl rfl rfl th19 rfl rfl ⟨by decide, ⟨Nat.le_of_ble_eq_true rfl, Nat.le_of_ble_eq_true rfl, Nat.le_of_ble_eq_true rfl, Nat.le_of_ble_eq_true rfl, Nat.le_of_ble_eq_true rfl⟩⟩ (dt_Text_fail (a1 := 2) (a2 := (sy_rd h 1 3)) th19 (by omega) (by omega) (by omega) (by omega)) ?_
            rintro _ h27 ⟨rfl, th27, eh27⟩
            rw [eh19] at eh27
            show sy_wp (mj_m_22, 102, [(4, sy_i 0), (3, sy_i ((dc_Text_readNumber (sy_rd h) 9).2)), (2, sy_i (sy_rd h 1 3)), (0, .ref 1), (1, sy_i a1)], [], h27) _
            refine sy_st (S' := (mj_m_22, 103, [(4, sy_i 0), (3, sy_i ((dc_Text_readNumber (sy_rd h) 9).2)), (2, sy_i (sy_rd h 1 3)), (0, .ref 1), (1, sy_i a1)], [sy_i ((dc_Text_readNumber (sy_rd h) 9).2)], h27)) mj_d_22_102 (fun _ _ => rfl) ?_
            exact sy_reti mj_d_22_103 rfl ⟨th27, eh27, rfl, by omega, by omega⟩
          · skip
            rw [if_neg c26]
            refine sy_st (S' := (mj_m_22, 85, [(3, sy_i ((dc_Text_readNumber (sy_rd h) 9).2)), (2, sy_i (sy_rd h 1 3)), (0, .ref 1), (1, sy_i a1)], [sy_i 1], h19)) mj_d_22_84 (fun _ _ => rfl) ?_
            refine sy_st (S' := (mj_m_22, 89, [(3, sy_i ((dc_Text_readNumber (sy_rd h) 9).2)), (2, sy_i (sy_rd h 1 3)), (0, .ref 1), (1, sy_i a1)], [sy_i 1], h19)) mj_d_22_85 (fun _ _ => rfl) ?_
            refine sy_st (S' := (mj_m_22, 91, [(4, sy_i 1), (3, sy_i ((dc_Text_readNumber (sy_rd h) 9).2)), (2, sy_i (sy_rd h 1 3)), (0, .ref 1), (1, sy_i a1)], [], h19)) mj_d_22_89 (fun _ _ => rfl) ?_
            refine sy_st (S' := (mj_m_22, 93, [(4, sy_i 1), (3, sy_i ((dc_Text_readNumber (sy_rd h) 9).2)), (2, sy_i (sy_rd h 1 3)), (0, .ref 1), (1, sy_i a1)], [sy_i 1], h19)) mj_d_22_91 (fun _ _ => rfl) ?_
            refine sy_ifc mj_d_22_93 rfl ⟨by omega, by omega⟩ (fun _ => ?_) (fun (q : ¬ (¬ (1 : Int) = 0)) => absurd (by decide) q)
            refine sy_st (S' := (mj_m_22, 103, [(4, sy_i 1), (3, sy_i ((dc_Text_readNumber (sy_rd h) 9).2)), (2, sy_i (sy_rd h 1 3)), (0, .ref 1), (1, sy_i a1)], [sy_i ((dc_Text_readNumber (sy_rd h) 9).2)], h19)) mj_d_22_102 (fun _ _ => rfl) ?_
            exact sy_reti mj_d_22_103 rfl ⟨th19, eh19, rfl, by omega, by omega⟩
      · skip
        rw [if_pos (Decidable.not_not.mp c22)]
        replace c22 := Decidable.not_not.mp c22
        refine sy_st (S' := (mj_m_22, 41, [(3, sy_i ((dc_Text_readNumber (sy_rd h) 9).2)), (2, sy_i (sy_rd h 1 3)), (0, .ref 1), (1, sy_i a1)], [sy_i ((dc_Text_readNumber (sy_rd h) 9).2)], h19)) mj_d_22_40 (fun _ _ => rfl) ?_
        refine sy_bip mj_d_22_41 (by decide) ?_
        refine sy_icm mj_d_22_43 rfl ⟨by omega, by omega⟩ ⟨by omega, by omega⟩ (fun (c29 : ((dc_Text_readNumber (sy_rd h) 9).2) = 9) => ?_) (fun (c29 : ¬ (((dc_Text_readNumber (sy_rd h) 9).2) = 9)) => ?_)
        · skip
          rw [if_pos c29]
          refine sy_st (S' := (mj_m_22, 58, [(3, sy_i ((dc_Text_readNumber (sy_rd h) 9).2)), (2, sy_i (sy_rd h 1 3)), (0, .ref 1), (1, sy_i a1)], [sy_i 1], h19)) mj_d_22_57 (fun _ _ => rfl) ?_
          refine sy_st (S' := (mj_m_22, 89, [(3, sy_i ((dc_Text_readNumber (sy_rd h) 9).2)), (2, sy_i (sy_rd h 1 3)), (0, .ref 1), (1, sy_i a1)], [sy_i 1], h19)) mj_d_22_58 (fun _ _ => rfl) ?_
          refine sy_st (S' := (mj_m_22, 91, [(4, sy_i 1), (3, sy_i ((dc_Text_readNumber (sy_rd h) 9).2)), (2, sy_i (sy_rd h 1 3)), (0, .ref 1), (1, sy_i a1)], [], h19)) mj_d_22_89 (fun _ _ => rfl) ?_
          refine sy_st (S' := (mj_m_22, 93, [(4, sy_i 1), (3, sy_i ((dc_Text_readNumber (sy_rd h) 9).2)), (2, sy_i (sy_rd h 1 3)), (0, .ref 1), (1, sy_i a1)], [sy_i 1], h19)) mj_d_22_91 (fun _ _ => rfl) ?_
          refine sy_ifc mj_d_22_93 rfl ⟨by omega, by omega⟩ (fun _ => ?_) (fun (q : ¬ (¬ (1 : Int) = 0)) => absurd (by decide) q)
          refine sy_st (S' := (mj_m_22, 103, [(4, sy_i 1), (3, sy_i ((dc_Text_readNumber (sy_rd h) 9).2)), (2, sy_i (sy_rd h 1 3)), (0, .ref 1), (1, sy_i a1)], [sy_i ((dc_Text_readNumber (sy_rd h) 9).2)], h19)) mj_d_22_102 (fun _ _ => rfl) ?_
          exact sy_reti mj_d_22_103 rfl ⟨th19, eh19, rfl, by omega, by omega⟩
        · skip
          rw [if_neg c29]
          refine sy_st (S' := (mj_m_22, 47, [(3, sy_i ((dc_Text_readNumber (sy_rd h) 9).2)), (2, sy_i (sy_rd h 1 3)), (0, .ref 1), (1, sy_i a1)], [sy_i ((dc_Text_readNumber (sy_rd h) 9).2)], h19)) mj_d_22_46 (fun _ _ => rfl) ?_
          refine sy_st (S' := (mj_m_22, 48, [(3, sy_i ((dc_Text_readNumber (sy_rd h) 9).2)), (2, sy_i (sy_rd h 1 3)), (0, .ref 1), (1, sy_i a1)], [.ref 1, sy_i ((dc_Text_readNumber (sy_rd h) 9).2)], h19)) mj_d_22_47 (fun _ _ => rfl) ?_
          refine sy_gr2 (b := 3) mj_d_22_48 rfl rfl (by decide) rfl rfl th19 ?_
          refine sy_gf mj_d_22_51 rfl rfl (by decide) rfl th19 ?_
          intro x30 ex30 bx30 tx30
          rw [eh19] at ex30
          subst ex30
          refine sy_icm mj_d_22_54 rfl ⟨by omega, by omega⟩ ⟨by omega, by omega⟩ (fun (c31 : ((dc_Text_readNumber (sy_rd h) 9).1 3 3) ≤ ((dc_Text_readNumber (sy_rd h) 9).2)) => ?_) (fun (c31 : ¬ (((dc_Text_readNumber (sy_rd h) 9).1 3 3) ≤ ((dc_Text_readNumber (sy_rd h) 9).2))) => ?_)
          · skip
            rw [if_pos c31]
            refine sy_st (S' := (mj_m_22, 62, [(3, sy_i ((dc_Text_readNumber (sy_rd h) 9).2)), (2, sy_i (sy_rd h 1 3)), (0, .ref 1), (1, sy_i a1)], [sy_i 0], h19)) mj_d_22_61 (fun _ _ => rfl) ?_
            refine sy_st (S' := (mj_m_22, 89, [(3, sy_i ((dc_Text_readNumber (sy_rd h) 9).2)), (2, sy_i (sy_rd h 1 3)), (0, .ref 1), (1, sy_i a1)], [sy_i 0], h19)) mj_d_22_62 (fun _ _ => rfl) ?_
            refine sy_st (S' := (mj_m_22, 91, [(4, sy_i 0), (3, sy_i ((dc_Text_readNumber (sy_rd h) 9).2)), (2, sy_i (sy_rd h 1 3)), (0, .ref 1), (1, sy_i a1)], [], h19)) mj_d_22_89 (fun _ _ => rfl) ?_
            refine sy_st (S' := (mj_m_22, 93, [(4, sy_i 0), (3, sy_i ((dc_Text_readNumber (sy_rd h) 9).2)), (2, sy_i (sy_rd h 1 3)), (0, .ref 1), (1, sy_i a1)], [sy_i 0], h19)) mj_d_22_91 (fun _ _ => rfl) ?_
            refine sy_ifc mj_d_22_93 rfl ⟨by omega, by omega⟩ (fun (q : ¬ (0 : Int) = 0) => absurd q (by decide)) (fun _ => ?_)
            refine sy_st (S' := (mj_m_22, 97, [(4, sy_i 0), (3, sy_i ((dc_Text_readNumber (sy_rd h) 9).2)), (2, sy_i (sy_rd h 1 3)), (0, .ref 1), (1, sy_i a1)], [.ref 1], h19)) mj_d_22_96 (fun _ _ => rfl) ?_
            refine sy_st (S' := (mj_m_22, 98, [(4, sy_i 0), (3, sy_i ((dc_Text_readNumber (sy_rd h) 9).2)), (2, sy_i (sy_rd h 1 3)), (0, .ref 1), (1, sy_i a1)], [sy_i 2, .ref 1], h19)) mj_d_22_97 (fun _ _ => rfl) ?_
            refine sy_st (S' := (mj_m_22, 99, [(4, sy_i 0), (3, sy_i ((dc_Text_readNumber (sy_rd h) 9).2)), (2, sy_i (sy_rd h 1 3)), (0, .ref 1), (1, sy_i a1)], [sy_i (sy_rd h 1 3), sy_i 2, .ref 1], h19)) mj_d_22_98 (fun _ _ => rfl) ?_
            refine sy_cv (M' := mj_m_19) (vs := [.ref 1, sy_i 2, sy_i (sy_rd h 1 3)]) (rest := []) mj_d_22_99 rfl rfl rfl rfl th19 rfl rfl ⟨by decide, ⟨Nat.le_of_ble_eq_true rfl, Nat.le_of_ble_eq_true rfl, Nat.le_of_ble_eq_true rfl, Nat.le_of_ble_eq_true rfl, Nat.le_of_ble_eq_true rfl⟩⟩ (dt_Text_fail (a1 := 2) (a2 := (sy_rd h 1 3)) th19 (by omega) (by omega) (by omega) (by omega)) ?_
            rintro _ h32 ⟨rfl, th32, eh32⟩
            rw [eh19] at eh32
            show sy_wp (mj_m_22, 102, [(4, sy_i 0), (3, sy_i ((dc_Text_readNumber (sy_rd h) 9).2)), (2, sy_i (sy_rd h 1 3)), (0, .ref 1), (1, sy_i a1)], [], h32) _
            refine sy_st (S' := (mj_m_22, 103, [(4, sy_i 0), (3, sy_i ((dc_Text_readNumber (sy_rd h) 9).2)), (2, sy_i (sy_rd h 1 3)), (0, .ref 1), (1, sy_i a1)], [sy_i ((dc_Text_readNumber (sy_rd h) 9).2)], h32)) mj_d_22_102 (fun _ _ => rfl) ?_
            exact sy_reti mj_d_22_103 rfl ⟨th32, eh32, rfl, by omega, by omega⟩
          · skip
            rw [if_neg c31]
            refine sy_st (S' := (mj_m_22, 58, [(3, sy_i ((dc_Text_readNumber (sy_rd h) 9).2)), (2, sy_i (sy_rd h 1 3)), (0, .ref 1), (1, sy_i a1)], [sy_i 1], h19)) mj_d_22_57 (fun _ _ => rfl) ?_
            refine sy_st (S' := (mj_m_22, 89, [(3, sy_i ((dc_Text_readNumber (sy_rd h) 9).2)), (2, sy_i (sy_rd h 1 3)), (0, .ref 1), (1, sy_i a1)], [sy_i 1], h19)) mj_d_22_58 (fun _ _ => rfl) ?_
            refine sy_st (S' := (mj_m_22, 91, [(4, sy_i 1), (3, sy_i ((dc_Text_readNumber (sy_rd h) 9).2)), (2, sy_i (sy_rd h 1 3)), (0, .ref 1), (1, sy_i a1)], [], h19)) mj_d_22_89 (fun _ _ => rfl) ?_
            refine sy_st (S' := (mj_m_22, 93, [(4, sy_i 1), (3, sy_i ((dc_Text_readNumber (sy_rd h) 9).2)), (2, sy_i (sy_rd h 1 3)), (0, .ref 1), (1, sy_i a1)], [sy_i 1], h19)) mj_d_22_91 (fun _ _ => rfl) ?_
            refine sy_ifc mj_d_22_93 rfl ⟨by omega, by omega⟩ (fun _ => ?_) (fun (q : ¬ (¬ (1 : Int) = 0)) => absurd (by decide) q)
            refine sy_st (S' := (mj_m_22, 103, [(4, sy_i 1), (3, sy_i ((dc_Text_readNumber (sy_rd h) 9).2)), (2, sy_i (sy_rd h 1 3)), (0, .ref 1), (1, sy_i a1)], [sy_i ((dc_Text_readNumber (sy_rd h) 9).2)], h19)) mj_d_22_102 (fun _ _ => rfl) ?_
            exact sy_reti mj_d_22_103 rfl ⟨th19, eh19, rfl, by omega, by omega⟩
  · skip
    rw [if_pos (Decidable.not_not.mp c2)]
    replace c2 := Decidable.not_not.mp c2
    refine sy_st (S' := (mj_m_22, 13, [(2, sy_i (sy_rd h 1 3)), (0, .ref 1), (1, sy_i a1)], [sy_i 2, .ref 1], h)) mj_d_22_12 (fun _ _ => rfl) ?_
    refine sy_st (S' := (mj_m_22, 30, [(2, sy_i (sy_rd h 1 3)), (0, .ref 1), (1, sy_i a1)], [sy_i 2, .ref 1], h)) mj_d_22_13 (fun _ _ => rfl) ?_
    refine sy_cv (M' := mj_m_23) (vs := [.ref 1, sy_i 2]) (rest := []) mj_d_22_30 rfl rfl rfl rfl hH rfl rfl ⟨by decide, ⟨Nat.le_of_ble_eq_true rfl, Nat.le_of_ble_eq_true rfl, Nat.le_of_ble_eq_true rfl, Nat.le_of_ble_eq_true rfl, Nat.le_of_ble_eq_true rfl⟩⟩ (dt_Text_readNumber (a1 := 2) hH (by omega) (by omega)) ?_
    rintro _ h34 ⟨th34, eh34, rfl, b35, b35t⟩
    have q36 := df_num_f (sy_rd h) 2
    show sy_wp (mj_m_22, 33, [(2, sy_i (sy_rd h 1 3)), (0, .ref 1), (1, sy_i a1)], [sy_i ((dc_Text_readNumber (sy_rd h) 2).2)], h34) _
    refine sy_st (S' := (mj_m_22, 34, [(3, sy_i ((dc_Text_readNumber (sy_rd h) 2).2)), (2, sy_i (sy_rd h 1 3)), (0, .ref 1), (1, sy_i a1)], [], h34)) mj_d_22_33 (fun _ _ => rfl) ?_
    refine sy_st (S' := (mj_m_22, 35, [(3, sy_i ((dc_Text_readNumber (sy_rd h) 2).2)), (2, sy_i (sy_rd h 1 3)), (0, .ref 1), (1, sy_i a1)], [sy_i a1], h34)) mj_d_22_34 (fun _ _ => rfl) ?_
    refine sy_bip mj_d_22_35 (by decide) ?_
    refine sy_icm mj_d_22_37 rfl ⟨by omega, by omega⟩ ⟨by omega, by omega⟩ (fun (c37 : ¬ (a1 = 104)) => ?_) (fun (c37 : ¬ ¬ (a1 = 104)) => ?_)
    · skip
      rw [if_neg c37]
      refine sy_st (S' := (mj_m_22, 66, [(3, sy_i ((dc_Text_readNumber (sy_rd h) 2).2)), (2, sy_i (sy_rd h 1 3)), (0, .ref 1), (1, sy_i a1)], [sy_i a1], h34)) mj_d_22_65 (fun _ _ => rfl) ?_
      refine sy_bip mj_d_22_66 (by decide) ?_
      refine sy_icm mj_d_22_68 rfl ⟨by omega, by omega⟩ ⟨by omega, by omega⟩ (fun (c38 : ¬ (a1 = 115)) => ?_) (fun (c38 : ¬ ¬ (a1 = 115)) => ?_)
      · skip
        rw [if_neg c38]
        refine sy_st (S' := (mj_m_22, 85, [(3, sy_i ((dc_Text_readNumber (sy_rd h) 2).2)), (2, sy_i (sy_rd h 1 3)), (0, .ref 1), (1, sy_i a1)], [sy_i 1], h34)) mj_d_22_84 (fun _ _ => rfl) ?_
        refine sy_st (S' := (mj_m_22, 89, [(3, sy_i ((dc_Text_readNumber (sy_rd h) 2).2)), (2, sy_i (sy_rd h 1 3)), (0, .ref 1), (1, sy_i a1)], [sy_i 1], h34)) mj_d_22_85 (fun _ _ => rfl) ?_
        refine sy_st (S' := (mj_m_22, 91, [(4, sy_i 1), (3, sy_i ((dc_Text_readNumber (sy_rd h) 2).2)), (2, sy_i (sy_rd h 1 3)), (0, .ref 1), (1, sy_i a1)], [], h34)) mj_d_22_89 (fun _ _ => rfl) ?_
        refine sy_st (S' := (mj_m_22, 93, [(4, sy_i 1), (3, sy_i ((dc_Text_readNumber (sy_rd h) 2).2)), (2, sy_i (sy_rd h 1 3)), (0, .ref 1), (1, sy_i a1)], [sy_i 1], h34)) mj_d_22_91 (fun _ _ => rfl) ?_
        refine sy_ifc mj_d_22_93 rfl ⟨by omega, by omega⟩ (fun _ => ?_) (fun (q : ¬ (¬ (1 : Int) = 0)) => absurd (by decide) q)
        refine sy_st (S' := (mj_m_22, 103, [(4, sy_i 1), (3, sy_i ((dc_Text_readNumber (sy_rd h) 2).2)), (2, sy_i (sy_rd h 1 3)), (0, .ref 1), (1, sy_i a1)], [sy_i ((dc_Text_readNumber (sy_rd h) 2).2)], h34)) mj_d_22_102 (fun _ _ => rfl) ?_
        exact sy_reti mj_d_22_103 rfl ⟨th34, eh34, rfl, by omega, by omega⟩
      · skip
        rw [if_pos (Decidable.not_not.mp c38)]
        replace c38 := Decidable.not_not.mp c38
        refine sy_st (S' := (mj_m_22, 72, [(3, sy_i ((dc_Text_readNumber (sy_rd h) 2).2)), (2, sy_i (sy_rd h 1 3)), (0, .ref 1), (1, sy_i a1)], [sy_i ((dc_Text_readNumber (sy_rd h) 2).2)], h34)) mj_d_22_71 (fun _ _ => rfl) ?_
        refine sy_st (S' := (mj_m_22, 73, [(3, sy_i ((dc_Text_readNumber (sy_rd h) 2).2)), (2, sy_i (sy_rd h 1 3)), (0, .ref 1), (1, sy_i a1)], [sy_i 1, sy_i ((dc_Text_readNumber (sy_rd h) 2).2)], h34)) mj_d_22_72 (fun _ _ => rfl) ?_
        refine sy_st (S' := (mj_m_22, 74, [(3, sy_i ((dc_Text_readNumber (sy_rd h) 2).2)), (2, sy_i (sy_rd h 1 3)), (0, .ref 1), (1, sy_i a1)], [.ref 1, sy_i 1, sy_i ((dc_Text_readNumber (sy_rd h) 2).2)], h34)) mj_d_22_73 (fun _ _ => rfl) ?_
        refine sy_gr2 (b := 3) mj_d_22_74 rfl rfl (by decide) rfl rfl th34 ?_
        refine sy_gf mj_d_22_77 rfl rfl (by decide) rfl th34 ?_
        intro x39 ex39 bx39 tx39
        rw [eh34] at ex39
        subst ex39
        refine sy_ishl mj_d_22_80 ?_
        have q40 := sg_shl_f 1 ((dc_Text_readNumber (sy_rd h) 2).1 3 3)
        refine sy_icm mj_d_22_81 rfl ⟨by omega, by omega⟩ ⟨by omega, by omega⟩ (fun (c41 : (sy_shl 1 ((dc_Text_readNumber (sy_rd h) 2).1 3 3)) ≤ ((dc_Text_readNumber (sy_rd h) 2).2)) => ?_) (fun (c41 : ¬ ((sy_shl 1 ((dc_Text_readNumber (sy_rd h) 2).1 3 3)) ≤ ((dc_Text_readNumber (sy_rd h) 2).2))) => ?_)
        · skip
          rw [if_pos c41]
          refine sy_st (S' := (mj_m_22, 89, [(3, sy_i ((dc_Text_readNumber (sy_rd h) 2).2)), (2, sy_i (sy_rd h 1 3)), (0, .ref 1), (1, sy_i a1)], [sy_i 0], h34)) mj_d_22_88 (fun _ _ => rfl) ?_
          refine sy_st (S' := (mj_m_22, 91, [(4, sy_i 0), (3, sy_i ((dc_Text_readNumber (sy_rd h) 2).2)), (2, sy_i (sy_rd h 1 3)), (0, .ref 1), (1, sy_i a1)], [], h34)) mj_d_22_89 (fun _ _ => rfl) ?_
          refine sy_st (S' := (mj_m_22, 93, [(4, sy_i 0), (3, sy_i ((dc_Text_readNumber (sy_rd h) 2).2)), (2, sy_i (sy_rd h 1 3)), (0, .ref 1), (1, sy_i a1)], [sy_i 0], h34)) mj_d_22_91 (fun _ _ => rfl) ?_
          refine sy_ifc mj_d_22_93 rfl ⟨by omega, by omega⟩ (fun (q : ¬ (0 : Int) = 0) => absurd q (by decide)) (fun _ => ?_)
          refine sy_st (S' := (mj_m_22, 97, [(4, sy_i 0), (3, sy_i ((dc_Text_readNumber (sy_rd h) 2).2)), (2, sy_i (sy_rd h 1 3)), (0, .ref 1), (1, sy_i a1)], [.ref 1], h34)) mj_d_22_96 (fun _ _ => rfl) ?_
          refine sy_st (S' := (mj_m_22, 98, [(4, sy_i 0), (3, sy_i ((dc_Text_readNumber (sy_rd h) 2).2)), (2, sy_i (sy_rd h 1 3)), (0, .ref 1), (1, sy_i a1)], [sy_i 2, .ref 1], h34)) mj_d_22_97 (fun _ _ => rfl) ?_
          refine sy_st (S' := (mj_m_22, 99, [(4, sy_i 0), (3, sy_i ((dc_Text_readNumber (sy_rd h) 2).2)), (2, sy_i (sy_rd h 1 3)), (0, .ref 1), (1, sy_i a1)], [sy_i (sy_rd h 1 3), sy_i 2, .ref 1], h34)) mj_d_22_98 (fun _ _ => rfl) ?_
          refine sy_cv (M' := mj_m_19) (vs := [.ref 1, sy_i 2, sy_i (sy_rd h 1 3)]) (rest := []) mj_d_22_99 rfl rfl rfl rfl th34 rfl rfl ⟨by decide, ⟨Nat.le_of_ble_eq_true rfl, Nat.le_of_ble_eq_true rfl, Nat.le_of_ble_eq_true rfl, Nat.le_of_ble_eq_true rfl, Nat.le_of_ble_eq_true rfl⟩⟩ (dt_Text_fail (a1 := 2) (a2 := (sy_rd h 1 3)) th34 (by omega) (by omega) (by omega) (by omega)) ?_
          rintro _ h42 ⟨rfl, th42, eh42⟩
          rw [eh34] at eh42
          show sy_wp (mj_m_22, 102, [(4, sy_i 0), (3, sy_i ((dc_Text_readNumber (sy_rd h) 2).2)), (2, sy_i (sy_rd h 1 3)), (0, .ref 1), (1, sy_i a1)], [], h42) _
          refine sy_st (S' := (mj_m_22, 103, [(4, sy_i 0), (3, sy_i ((dc_Text_readNumber (sy_rd h) 2).2)), (2, sy_i (sy_rd h 1 3)), (0, .ref 1), (1, sy_i a1)], [sy_i ((dc_Text_readNumber (sy_rd h) 2).2)], h42)) mj_d_22_102 (fun _ _ => rfl) ?_
          exact sy_reti mj_d_22_103 rfl ⟨th42, eh42, rfl, by omega, by omega⟩
        · skip
          rw [if_neg c41]
          refine sy_st (S' := (mj_m_22, 85, [(3, sy_i ((dc_Text_readNumber (sy_rd h) 2).2)), (2, sy_i (sy_rd h 1 3)), (0, .ref 1), (1, sy_i a1)], [sy_i 1], h34)) mj_d_22_84 (fun _ _ => rfl) ?_
          refine sy_st (S' := (mj_m_22, 89, [(3, sy_i ((dc_Text_readNumber (sy_rd h) 2).2)), (2, sy_i (sy_rd h 1 3)), (0, .ref 1), (1, sy_i a1)], [sy_i 1], h34)) mj_d_22_85 (fun _ _ => rfl) ?_
          refine sy_st (S' := (mj_m_22, 91, [(4, sy_i 1), (3, sy_i ((dc_Text_readNumber (sy_rd h) 2).2)), (2, sy_i (sy_rd h 1 3)), (0, .ref 1), (1, sy_i a1)], [], h34)) mj_d_22_89 (fun _ _ => rfl) ?_
          refine sy_st (S' := (mj_m_22, 93, [(4, sy_i 1), (3, sy_i ((dc_Text_readNumber (sy_rd h) 2).2)), (2, sy_i (sy_rd h 1 3)), (0, .ref 1), (1, sy_i a1)], [sy_i 1], h34)) mj_d_22_91 (fun _ _ => rfl) ?_
          refine sy_ifc mj_d_22_93 rfl ⟨by omega, by omega⟩ (fun _ => ?_) (fun (q : ¬ (¬ (1 : Int) = 0)) => absurd (by decide) q)
          refine sy_st (S' := (mj_m_22, 103, [(4, sy_i 1), (3, sy_i ((dc_Text_readNumber (sy_rd h) 2).2)), (2, sy_i (sy_rd h 1 3)), (0, .ref 1), (1, sy_i a1)], [sy_i ((dc_Text_readNumber (sy_rd h) 2).2)], h34)) mj_d_22_102 (fun _ _ => rfl) ?_
          exact sy_reti mj_d_22_103 rfl ⟨th34, eh34, rfl, by omega, by omega⟩
    · skip
      rw [if_pos (Decidable.not_not.mp c37)]
      replace c37 := Decidable.not_not.mp c37
      refine sy_st (S' := (mj_m_22, 41, [(3, sy_i ((dc_Text_readNumber (sy_rd h) 2).2)), (2, sy_i (sy_rd h 1 3)), (0, .ref 1), (1, sy_i a1)], [sy_i ((dc_Text_readNumber (sy_rd h) 2).2)], h34)) mj_d_22_40 (fun _ _ => rfl) ?_
      refine sy_bip mj_d_22_41 (by decide) ?_
      refine sy_icm mj_d_22_43 rfl ⟨by omega, by omega⟩ ⟨by omega, by omega⟩ (fun (c44 : ((dc_Text_readNumber (sy_rd h) 2).2) = 9) => ?_) (fun (c44 : ¬ (((dc_Text_readNumber (sy_rd h) 2).2) = 9)) => ?_)
      · skip
        rw [if_pos c44]
        refine sy_st (S' := (mj_m_22, 58, [(3, sy_i ((dc_Text_readNumber (sy_rd h) 2).2)), (2, sy_i (sy_rd h 1 3)), (0, .ref 1), (1, sy_i a1)], [sy_i 1], h34)) mj_d_22_57 (fun _ _ => rfl) ?_
        refine sy_st (S' := (mj_m_22, 89, [(3, sy_i ((dc_Text_readNumber (sy_rd h) 2).2)), (2, sy_i (sy_rd h 1 3)), (0, .ref 1), (1, sy_i a1)], [sy_i 1], h34)) mj_d_22_58 (fun _ _ => rfl) ?_
        refine sy_st (S' := (mj_m_22, 91, [(4, sy_i 1), (3, sy_i ((dc_Text_readNumber (sy_rd h) 2).2)), (2, sy_i (sy_rd h 1 3)), (0, .ref 1), (1, sy_i a1)], [], h34)) mj_d_22_89 (fun _ _ => rfl) ?_
        refine sy_st (S' := (mj_m_22, 93, [(4, sy_i 1), (3, sy_i ((dc_Text_readNumber (sy_rd h) 2).2)), (2, sy_i (sy_rd h 1 3)), (0, .ref 1), (1, sy_i a1)], [sy_i 1], h34)) mj_d_22_91 (fun _ _ => rfl) ?_
        refine sy_ifc mj_d_22_93 rfl ⟨by omega, by omega⟩ (fun _ => ?_) (fun (q : ¬ (¬ (1 : Int) = 0)) => absurd (by decide) q)
        refine sy_st (S' := (mj_m_22, 103, [(4, sy_i 1), (3, sy_i ((dc_Text_readNumber (sy_rd h) 2).2)), (2, sy_i (sy_rd h 1 3)), (0, .ref 1), (1, sy_i a1)], [sy_i ((dc_Text_readNumber (sy_rd h) 2).2)], h34)) mj_d_22_102 (fun _ _ => rfl) ?_
        exact sy_reti mj_d_22_103 rfl ⟨th34, eh34, rfl, by omega, by omega⟩
      · skip
        rw [if_neg c44]
        refine sy_st (S' := (mj_m_22, 47, [(3, sy_i ((dc_Text_readNumber (sy_rd h) 2).2)), (2, sy_i (sy_rd h 1 3)), (0, .ref 1), (1, sy_i a1)], [sy_i ((dc_Text_readNumber (sy_rd h) 2).2)], h34)) mj_d_22_46 (fun _ _ => rfl) ?_
        refine sy_st (S' := (mj_m_22, 48, [(3, sy_i ((dc_Text_readNumber (sy_rd h) 2).2)), (2, sy_i (sy_rd h 1 3)), (0, .ref 1), (1, sy_i a1)], [.ref 1, sy_i ((dc_Text_readNumber (sy_rd h) 2).2)], h34)) mj_d_22_47 (fun _ _ => rfl) ?_
        refine sy_gr2 (b := 3) mj_d_22_48 rfl rfl (by decide) rfl rfl th34 ?_
        refine sy_gf mj_d_22_51 rfl rfl (by decide) rfl th34 ?_
        intro x45 ex45 bx45 tx45
        rw [eh34] at ex45
        subst ex45
        refine sy_icm mj_d_22_54 rfl ⟨by omega, by omega⟩ ⟨by omega, by omega⟩ (fun (c46 : ((dc_Text_readNumber (sy_rd h) 2).1 3 3) ≤ ((dc_Text_readNumber (sy_rd h) 2).2)) => ?_) (fun (c46 : ¬ (((dc_Text_readNumber (sy_rd h) 2).1 3 3) ≤ ((dc_Text_readNumber (sy_rd h) 2).2))) => ?_)
        · skip
          rw [if_pos c46]
          refine sy_st (S' := (mj_m_22, 62, [(3, sy_i ((dc_Text_readNumber (sy_rd h) 2).2)), (2, sy_i (sy_rd h 1 3)), (0, .ref 1), (1, sy_i a1)], [sy_i 0], h34)) mj_d_22_61 (fun _ _ => rfl) ?_
          refine sy_st (S' := (mj_m_22, 89, [(3, sy_i ((dc_Text_readNumber (sy_rd h) 2).2)), (2, sy_i (sy_rd h 1 3)), (0, .ref 1), (1, sy_i a1)], [sy_i 0], h34)) mj_d_22_62 (fun _ _ => rfl) ?_
          refine sy_st (S' := (mj_m_22, 91, [(4, sy_i 0), (3, sy_i ((dc_Text_readNumber (sy_rd h) 2).2)), (2, sy_i (sy_rd h 1 3)), (0, .ref 1), (1, sy_i a1)], [], h34)) mj_d_22_89 (fun _ _ => rfl) ?_
          refine sy_st (S' := (mj_m_22, 93, [(4, sy_i 0), (3, sy_i ((dc_Text_readNumber (sy_rd h) 2).2)), (2, sy_i (sy_rd h 1 3)), (0, .ref 1), (1, sy_i a1)], [sy_i 0], h34)) mj_d_22_91 (fun _ _ => rfl) ?_
          refine sy_ifc mj_d_22_93 rfl ⟨by omega, by omega⟩ (fun (q : ¬ (0 : Int) = 0) => absurd q (by decide)) (fun _ => ?_)
          refine sy_st (S' := (mj_m_22, 97, [(4, sy_i 0), (3, sy_i ((dc_Text_readNumber (sy_rd h) 2).2)), (2, sy_i (sy_rd h 1 3)), (0, .ref 1), (1, sy_i a1)], [.ref 1], h34)) mj_d_22_96 (fun _ _ => rfl) ?_
          refine sy_st (S' := (mj_m_22, 98, [(4, sy_i 0), (3, sy_i ((dc_Text_readNumber (sy_rd h) 2).2)), (2, sy_i (sy_rd h 1 3)), (0, .ref 1), (1, sy_i a1)], [sy_i 2, .ref 1], h34)) mj_d_22_97 (fun _ _ => rfl) ?_
          refine sy_st (S' := (mj_m_22, 99, [(4, sy_i 0), (3, sy_i ((dc_Text_readNumber (sy_rd h) 2).2)), (2, sy_i (sy_rd h 1 3)), (0, .ref 1), (1, sy_i a1)], [sy_i (sy_rd h 1 3), sy_i 2, .ref 1], h34)) mj_d_22_98 (fun _ _ => rfl) ?_
          refine sy_cv (M' := mj_m_19) (vs := [.ref 1, sy_i 2, sy_i (sy_rd h 1 3)]) (rest := []) mj_d_22_99 rfl rfl rfl rfl th34 rfl rfl ⟨by decide, ⟨Nat.le_of_ble_eq_true rfl, Nat.le_of_ble_eq_true rfl, Nat.le_of_ble_eq_true rfl, Nat.le_of_ble_eq_true rfl, Nat.le_of_ble_eq_true rfl⟩⟩ (dt_Text_fail (a1 := 2) (a2 := (sy_rd h 1 3)) th34 (by omega) (by omega) (by omega) (by omega)) ?_
          rintro _ h47 ⟨rfl, th47, eh47⟩
          rw [eh34] at eh47
          show sy_wp (mj_m_22, 102, [(4, sy_i 0), (3, sy_i ((dc_Text_readNumber (sy_rd h) 2).2)), (2, sy_i (sy_rd h 1 3)), (0, .ref 1), (1, sy_i a1)], [], h47) _
          refine sy_st (S' := (mj_m_22, 103, [(4, sy_i 0), (3, sy_i ((dc_Text_readNumber (sy_rd h) 2).2)), (2, sy_i (sy_rd h 1 3)), (0, .ref 1), (1, sy_i a1)], [sy_i ((dc_Text_readNumber (sy_rd h) 2).2)], h47)) mj_d_22_102 (fun _ _ => rfl) ?_
          exact sy_reti mj_d_22_103 rfl ⟨th47, eh47, rfl, by omega, by omega⟩
        · skip
          rw [if_neg c46]
          refine sy_st (S' := (mj_m_22, 58, [(3, sy_i ((dc_Text_readNumber (sy_rd h) 2).2)), (2, sy_i (sy_rd h 1 3)), (0, .ref 1), (1, sy_i a1)], [sy_i 1], h34)) mj_d_22_57 (fun _ _ => rfl) ?_
          refine sy_st (S' := (mj_m_22, 89, [(3, sy_i ((dc_Text_readNumber (sy_rd h) 2).2)), (2, sy_i (sy_rd h 1 3)), (0, .ref 1), (1, sy_i a1)], [sy_i 1], h34)) mj_d_22_58 (fun _ _ => rfl) ?_
          refine sy_st (S' := (mj_m_22, 91, [(4, sy_i 1), (3, sy_i ((dc_Text_readNumber (sy_rd h) 2).2)), (2, sy_i (sy_rd h 1 3)), (0, .ref 1), (1, sy_i a1)], [], h34)) mj_d_22_89 (fun _ _ => rfl) ?_
          refine sy_st (S' := (mj_m_22, 93, [(4, sy_i 1), (3, sy_i ((dc_Text_readNumber (sy_rd h) 2).2)), (2, sy_i (sy_rd h 1 3)), (0, .ref 1), (1, sy_i a1)], [sy_i 1], h34)) mj_d_22_91 (fun _ _ => rfl) ?_
          refine sy_ifc mj_d_22_93 rfl ⟨by omega, by omega⟩ (fun _ => ?_) (fun (q : ¬ (¬ (1 : Int) = 0)) => absurd (by decide) q)
          refine sy_st (S' := (mj_m_22, 103, [(4, sy_i 1), (3, sy_i ((dc_Text_readNumber (sy_rd h) 2).2)), (2, sy_i (sy_rd h 1 3)), (0, .ref 1), (1, sy_i a1)], [sy_i ((dc_Text_readNumber (sy_rd h) 2).2)], h34)) mj_d_22_102 (fun _ _ => rfl) ?_
          exact sy_reti mj_d_22_103 rfl ⟨th34, eh34, rfl, by omega, by omega⟩
