def mj_m_48 : mj_M := (⟨"java/lang/Math", "floorMod", "(II)I"⟩, prog_15_method_50_code, 3, (some .int), 14, 2, 0, 0, 0)
theorem mj_d_48_0 : decode mj_m_48.2.1 0 = .ok (.iload_n 0, 1) := by decide +kernel
theorem mj_d_48_1 : decode mj_m_48.2.1 1 = .ok (.iload_n 1, 1) := by decide +kernel
theorem mj_d_48_2 : decode mj_m_48.2.1 2 = .ok (.irem, 1) := by decide +kernel
theorem mj_d_48_3 : decode mj_m_48.2.1 3 = .ok (.istore_n 2, 1) := by decide +kernel
theorem mj_d_48_4 : decode mj_m_48.2.1 4 = .ok (.iload_n 0, 1) := by decide +kernel
theorem mj_d_48_5 : decode mj_m_48.2.1 5 = .ok (.iload_n 1, 1) := by decide +kernel
theorem mj_d_48_6 : decode mj_m_48.2.1 6 = .ok (.ixor, 1) := by decide +kernel
theorem mj_d_48_7 : decode mj_m_48.2.1 7 = .ok (.ifCond .ge 11, 3) := by decide +kernel
theorem mj_d_48_10 : decode mj_m_48.2.1 10 = .ok (.iload_n 2, 1) := by decide +kernel
theorem mj_d_48_11 : decode mj_m_48.2.1 11 = .ok (.ifCond .eq 7, 3) := by decide +kernel
theorem mj_d_48_14 : decode mj_m_48.2.1 14 = .ok (.iload_n 2, 1) := by decide +kernel
theorem mj_d_48_15 : decode mj_m_48.2.1 15 = .ok (.iload_n 1, 1) := by decide +kernel
theorem mj_d_48_16 : decode mj_m_48.2.1 16 = .ok (.iadd, 1) := by decide +kernel
theorem mj_d_48_17 : decode mj_m_48.2.1 17 = .ok (.ireturn, 1) := by decide +kernel
theorem mj_d_48_18 : decode mj_m_48.2.1 18 = .ok (.iload_n 2, 1) := by decide +kernel
theorem mj_d_48_19 : decode mj_m_48.2.1 19 = .ok (.ireturn, 1) := by decide +kernel
def dc_Math_floorMod0 (s : sg_S) (a0 a1 : Int) : Int := (if 0 ≤ (sy_xor a0 a1) then (a0.tmod a1) else (if (a0.tmod a1) = 0 then (a0.tmod a1) else ((a0.tmod a1) + a1)))
set_option maxRecDepth 100000 in
theorem dt_Math_floorMod0 {h : mj_H} (hH : sy_H h) {a0 a1 : Int} (b_a0 : (-60) ≤ a0) (t_a0 : a0 ≤ 60) (b_a1 : 30 ≤ a1) (t_a1 : a1 ≤ 30) : sy_wp (mj_m_48, 0, [(0, sy_i a0), (1, sy_i a1)], [], h) (dq1 h (-2147483648) (2147483647) (dc_Math_floorMod0 (sy_rd h) a0 a1)) := by
  unfold dc_Math_floorMod0
  refine sy_st (S' := (mj_m_48, 1, [(0, sy_i a0), (1, sy_i a1)], [sy_i a0], h)) mj_d_48_0 (fun _ _ => rfl) ?_
  refine sy_st (S' := (mj_m_48, 2, [(0, sy_i a0), (1, sy_i a1)], [sy_i a1, sy_i a0], h)) mj_d_48_1 (fun _ _ => rfl) ?_
  have q1 := sg_tmod_f a0 a1
  refine sg_rem mj_d_48_2 ⟨by omega, by omega⟩ ⟨by omega, by omega⟩ ?_
  refine sy_st (S' := (mj_m_48, 4, [(2, sy_i (a0.tmod a1)), (0, sy_i a0), (1, sy_i a1)], [], h)) mj_d_48_3 (fun _ _ => rfl) ?_
  refine sy_st (S' := (mj_m_48, 5, [(2, sy_i (a0.tmod a1)), (0, sy_i a0), (1, sy_i a1)], [sy_i a0], h)) mj_d_48_4 (fun _ _ => rfl) ?_
  refine sy_st (S' := (mj_m_48, 6, [(2, sy_i (a0.tmod a1)), (0, sy_i a0), (1, sy_i a1)], [sy_i a1, sy_i a0], h)) mj_d_48_5 (fun _ _ => rfl) ?_
  refine sy_ixor mj_d_48_6 ?_
  have q2 := sg_xor_f a0 a1
  refine sy_ifc mj_d_48_7 rfl ⟨by omega, by omega⟩ (fun (c3 : 0 ≤ (sy_xor a0 a1)) => ?_) (fun (c3 : ¬ (0 ≤ (sy_xor a0 a1))) => ?_)
  · skip
    rw [if_pos c3]
    refine sy_st (S' := (mj_m_48, 19, [(2, sy_i (a0.tmod a1)), (0, sy_i a0), (1, sy_i a1)], [sy_i (a0.tmod a1)], h)) mj_d_48_18 (fun _ _ => rfl) ?_
    exact sy_reti mj_d_48_19 rfl ⟨rfl, rfl, by omega, by omega⟩
  · skip
    rw [if_neg c3]
    refine sy_st (S' := (mj_m_48, 11, [(2, sy_i (a0.tmod a1)), (0, sy_i a0), (1, sy_i a1)], [sy_i (a0.tmod a1)], h)) mj_d_48_10 (fun _ _ => rfl) ?_
    refine sy_ifc mj_d_48_11 rfl ⟨by omega, by omega⟩ (fun (c4 : (a0.tmod a1) = 0) => ?_) (fun (c4 : ¬ ((a0.tmod a1) = 0)) => ?_)
    · skip
      rw [if_pos c4]
      refine sy_st (S' := (mj_m_48, 19, [(2, sy_i (a0.tmod a1)), (0, sy_i a0), (1, sy_i a1)], [sy_i (a0.tmod a1)], h)) mj_d_48_18 (fun _ _ => rfl) ?_
      exact sy_reti mj_d_48_19 rfl ⟨rfl, rfl, by omega, by omega⟩
    · skip
      rw [if_neg c4]
      refine sy_st (S' := (mj_m_48, 15, [(2, sy_i (a0.tmod a1)), (0, sy_i a0), (1, sy_i a1)], [sy_i (a0.tmod a1)], h)) mj_d_48_14 (fun _ _ => rfl) ?_
      refine sy_st (S' := (mj_m_48, 16, [(2, sy_i (a0.tmod a1)), (0, sy_i a0), (1, sy_i a1)], [sy_i a1, sy_i (a0.tmod a1)], h)) mj_d_48_15 (fun _ _ => rfl) ?_
      refine sy_add mj_d_48_16 ?_
      exact sy_reti mj_d_48_17 rfl ⟨rfl, rfl, by omega, by omega⟩
theorem sg_fm : ∀ n : Nat, n < 121 → dc_Math_floorMod0 (fun _ _ => 0) ((n : Int) - 60) 30 = ((n : Int) - 60) % 30 := by decide +kernel
def dc_Math_floorMod (_ : sg_S) (a0 a1 : Int) : Int := a0 % a1
theorem dt_Math_floorMod {h : mj_H} (hH : sy_H h) {a0 a1 : Int} (b0 : -60 ≤ a0) (t0 : a0 ≤ 60) (b1 : 30 ≤ a1) (t1 : a1 ≤ 30) : sy_wp (mj_m_48, 0, [(0, sy_i a0), (1, sy_i a1)], [], h) (dq1 h 0 29 (dc_Math_floorMod (sy_rd h) a0 a1)) := by
  obtain rfl : a1 = 30 := by omega
  refine (dt_Math_floorMod0 hH b0 t0 b1 t1).mono ?_
  rintro r h' ⟨rfl, rfl, -, -⟩
  have e : dc_Math_floorMod0 (sy_rd h) a0 30 = dc_Math_floorMod (sy_rd h) a0 30 := by
    have := sg_fm (a0 + 60).toNat (by omega)
    rw [Int.toNat_of_nonneg (by omega), show a0 + 60 - 60 = a0 by omega] at this
    exact this
  refine ⟨rfl, by rw [e], ?_, ?_⟩ <;> unfold dc_Math_floorMod <;> omega
