set_option maxRecDepth 1000000 in
set_option maxHeartbeats 4000000 in
theorem mj_op_feed (a : Int32) : ∃ (r : Int32) (h1 h2 : mj_H), mj_runs (mj_m_10, 0, [(0, .ref 0), (1, .int a)], [], mj_h0) (some (.int r)) h1 ∧ mj_runs (mj_m_124, 0, [(0, .ref 234), (1, .int a)], [], h1) (some (.int r)) h2 ∧ mj_sz h2 := by
  by_cases c0 : a.toInt < 0
  · refine ⟨(Int32.ofInt (-1000000002)), mj_h0, mj_h0, ?_, ?_, ?_⟩
    · refine mj_runs.step (S' := (mj_m_10, 1, [(0, .ref 0), (1, .int a)], [.int a], mj_h0)) (mj_one_of mj_d_10_0 fun _ _ => rfl) ?_
      refine mj_runs.step (S' := (mj_m_10, 11, [(0, .ref 0), (1, .int a)], [], mj_h0)) (mj_one_ifT mj_d_10_1 rfl (mj_cT_lt (rfl : (a).toInt = (a).toInt) (show ((0 : Int32)).toInt = 0 by decide) (by omega))) ?_
      refine mj_runs.step (S' := (mj_m_10, 13, [(0, .ref 0), (1, .int a)], [.int (Int32.ofInt (-1000000002))], mj_h0)) (mj_one_of mj_d_10_11 fun _ _ => rfl) ?_
      exact mj_runs.ret (mj_ret_of mj_d_10_13 fun _ _ => rfl)
    · refine mj_runs.step (S' := (mj_m_124, 1, [(0, .ref 234), (1, .int a)], [.int a], mj_h0)) (mj_one_of mj_d_124_0 fun _ _ => rfl) ?_
      refine mj_runs.step (S' := (mj_m_124, 2, [(0, .ref 234), (1, .int a)], [.long (a).toInt64], mj_h0)) (mj_one_of mj_d_124_1 fun _ _ => rfl) ?_
      refine mj_runs.step (S' := (mj_m_124, 3, [(0, .ref 234), (1, .int a)], [.long (0 : Int64), .long (a).toInt64], mj_h0)) (mj_one_of mj_d_124_2 fun _ _ => rfl) ?_
      refine mj_runs.step (S' := (mj_m_124, 6, [(0, .ref 234), (1, .int a)], [.long (255 : Int64), .long (0 : Int64), .long (a).toInt64], mj_h0)) (mj_one_of mj_d_124_3 fun _ _ => rfl) ?_
      refine mj_runs.call (S1 := (mj_m_125, 0, [(0, .long (a).toInt64), (2, .long (0 : Int64)), (4, .long (255 : Int64))], [], mj_h0)) (r1 := (some (.int (0 : Int32)))) (h1 := mj_h0) (mj_calls_s mj_d_124_6 rfl rfl rfl rfl ⟨Nat.le_of_ble_eq_true rfl, Nat.le_of_ble_eq_true rfl, Nat.le_of_ble_eq_true rfl, Nat.le_of_ble_eq_true rfl, Nat.le_of_ble_eq_true rfl⟩) ?_ ?_
      · refine mj_runs.step (S' := (mj_m_125, 1, [(0, .long (a).toInt64), (2, .long (0 : Int64)), (4, .long (255 : Int64))], [.long (a).toInt64], mj_h0)) (mj_one_of mj_d_125_0 fun _ _ => rfl) ?_
        refine mj_runs.step (S' := (mj_m_125, 2, [(0, .long (a).toInt64), (2, .long (0 : Int64)), (4, .long (255 : Int64))], [.long (0 : Int64), .long (a).toInt64], mj_h0)) (mj_one_of mj_d_125_1 fun _ _ => rfl) ?_
        refine mj_runs.step (S' := (mj_m_125, 3, [(0, .long (a).toInt64), (2, .long (0 : Int64)), (4, .long (255 : Int64))], [.int (lg_cmp (a).toInt64 (0 : Int64))], mj_h0)) (mj_one_of mj_d_125_2 fun _ _ => rfl) ?_
        refine mj_runs.step (S' := (mj_m_125, 17, [(0, .long (a).toInt64), (2, .long (0 : Int64)), (4, .long (255 : Int64))], [], mj_h0)) (mj_one_ifT mj_d_125_3 rfl (mj_lgT_lt (mj_l32 a) (show ((0 : Int64)).toInt = 0 by decide) (by omega))) ?_
        refine mj_runs.step (S' := (mj_m_125, 18, [(0, .long (a).toInt64), (2, .long (0 : Int64)), (4, .long (255 : Int64))], [.int (0 : Int32)], mj_h0)) (mj_one_of mj_d_125_17 fun _ _ => rfl) ?_
        exact mj_runs.ret (mj_ret_of mj_d_125_18 fun _ _ => rfl)
      show mj_runs (mj_m_124, 9, [(0, .ref 234), (1, .int a)], [.int (0 : Int32)], mj_h0) _ _
      refine mj_runs.step (S' := (mj_m_124, 12, [(0, .ref 234), (1, .int a)], [], mj_h0)) (mj_one_of mj_d_124_9 fun _ _ => rfl) ?_
      refine mj_runs.step (S' := (mj_m_124, 14, [(0, .ref 234), (1, .int a)], [.int (Int32.ofInt (-1000000002))], mj_h0)) (mj_one_of mj_d_124_12 fun _ _ => rfl) ?_
      exact mj_runs.ret (mj_ret_of mj_d_124_14 fun _ _ => rfl)
    · exact mj_sz0
  · by_cases c1 : a.toInt ≤ 255
    · refine ⟨(1 : Int32), ((mj_h0.set 2 (101, ((List.replicate 240 (.int (0 : Int32))).set 0 (narrow .char (.int ((a).toUInt32 % 65536).toInt32))))).set 1 (8, [.ref 2, .ref 3, .int (1 : Int32), .int (0 : Int32), .int (0 : Int32), .int (Int32.ofInt (-1))])), ((((mj_h0.set 2 (101, ((List.replicate 240 (.int (0 : Int32))).set 0 (narrow .char (.int ((a).toUInt32 % 65536).toInt32))))).set 1 (8, [.ref 2, .ref 3, .int (1 : Int32), .int (0 : Int32), .int (0 : Int32), .int (Int32.ofInt (-1))])).set 238 (100, ((List.replicate 240 (.int (0 : Int32))).set 0 (.int a)))).set 234 (10, [.ref 235, .ref 236, .int (0 : Int32), .int (0 : Int32), .int (0 : Int32), .int (0 : Int32), .int (0 : Int32), .int (0 : Int32), .ref 237, .ref 238, .int (1 : Int32), .int (0 : Int32), .int (0 : Int32), .int (0 : Int32), .int (0 : Int32), .int (Int32.ofInt (-1)), .int (0 : Int32), .int (0 : Int32), .int (0 : Int32), .int (0 : Int32), .ref 239, .ref 240, .int (0 : Int32), .ref 241, .ref 242, .ref 243, .ref 244, .ref 245, .ref 246, .ref 247, .ref 248, .int (0 : Int32), .ref 249, .ref 250, .ref 251, .int (0 : Int32), .ref 252, .ref 253])), ?_, ?_, ?_⟩
      · refine mj_runs.step (S' := (mj_m_10, 1, [(0, .ref 0), (1, .int a)], [.int a], mj_h0)) (mj_one_of mj_d_10_0 fun _ _ => rfl) ?_
        refine mj_runs.step (S' := (mj_m_10, 4, [(0, .ref 0), (1, .int a)], [], mj_h0)) (mj_one_ifF mj_d_10_1 (t := 11) rfl (mj_cF_lt (rfl : (a).toInt = (a).toInt) (show ((0 : Int32)).toInt = 0 by decide) (by omega))) ?_
        refine mj_runs.step (S' := (mj_m_10, 5, [(0, .ref 0), (1, .int a)], [.int a], mj_h0)) (mj_one_of mj_d_10_4 fun _ _ => rfl) ?_
        refine mj_runs.step (S' := (mj_m_10, 8, [(0, .ref 0), (1, .int a)], [.int (255 : Int32), .int a], mj_h0)) (mj_one_of mj_d_10_5 fun _ _ => rfl) ?_
        refine mj_runs.step (S' := (mj_m_10, 14, [(0, .ref 0), (1, .int a)], [], mj_h0)) (mj_one_icmpT mj_d_10_8 rfl (mj_cT_le (rfl : (a).toInt = (a).toInt) (show ((255 : Int32)).toInt = 255 by decide) (by omega))) ?_
        refine mj_runs.step (S' := (mj_m_10, 15, [(0, .ref 0), (1, .int a)], [.ref 0], mj_h0)) (mj_one_of mj_d_10_14 fun _ _ => rfl) ?_
        refine mj_runs.step (S' := (mj_m_10, 18, [(0, .ref 0), (1, .int a)], [.ref 1], mj_h0)) (mj_one_of mj_d_10_15 fun _ _ => rfl) ?_
        refine mj_runs.step (S' := (mj_m_10, 19, [(0, .ref 0), (1, .int a)], [.int a, .ref 1], mj_h0)) (mj_one_of mj_d_10_18 fun _ _ => rfl) ?_
        refine mj_runs.step (S' := (mj_m_10, 20, [(0, .ref 0), (1, .int a)], [.int ((a).toUInt32 % 65536).toInt32, .ref 1], mj_h0)) (mj_one_of mj_d_10_19 fun _ _ => rfl) ?_
        refine mj_runs.call (S1 := (mj_m_11, 0, [(0, .ref 1), (1, .int ((a).toUInt32 % 65536).toInt32)], [], mj_h0)) (r1 := (some (.int (1 : Int32)))) (h1 := ((mj_h0.set 2 (101, ((List.replicate 240 (.int (0 : Int32))).set 0 (narrow .char (.int ((a).toUInt32 % 65536).toInt32))))).set 1 (8, [.ref 2, .ref 3, .int (1 : Int32), .int (0 : Int32), .int (0 : Int32), .int (Int32.ofInt (-1))]))) (mj_calls_v mj_d_10_20 rfl rfl rfl rfl rfl rfl ⟨Nat.le_of_ble_eq_true rfl, ⟨Nat.le_of_ble_eq_true rfl, Nat.le_of_ble_eq_true rfl, Nat.le_of_ble_eq_true rfl, Nat.le_of_ble_eq_true rfl, Nat.le_of_ble_eq_true rfl⟩⟩) ?_ ?_
        · refine mj_runs.step (S' := (mj_m_11, 1, [(0, .ref 1), (1, .int ((a).toUInt32 % 65536).toInt32)], [.ref 1], mj_h0)) (mj_one_of mj_d_11_0 fun _ _ => rfl) ?_
          refine mj_runs.step (S' := (mj_m_11, 4, [(0, .ref 1), (1, .int ((a).toUInt32 % 65536).toInt32)], [.int (0 : Int32)], mj_h0)) (mj_one_of mj_d_11_1 fun _ _ => rfl) ?_
          refine mj_runs.step (S' := (mj_m_11, 7, [(0, .ref 1), (1, .int ((a).toUInt32 % 65536).toInt32)], [], mj_h0)) (mj_one_of mj_d_11_4 fun _ _ => rfl) ?_
          refine mj_runs.step (S' := (mj_m_11, 8, [(0, .ref 1), (1, .int ((a).toUInt32 % 65536).toInt32)], [.ref 1], mj_h0)) (mj_one_of mj_d_11_7 fun _ _ => rfl) ?_
          refine mj_runs.step (S' := (mj_m_11, 11, [(0, .ref 1), (1, .int ((a).toUInt32 % 65536).toInt32)], [.int (0 : Int32)], mj_h0)) (mj_one_of mj_d_11_8 fun _ _ => rfl) ?_
          refine mj_runs.step (S' := (mj_m_11, 14, [(0, .ref 1), (1, .int ((a).toUInt32 % 65536).toInt32)], [.int (240 : Int32), .int (0 : Int32)], mj_h0)) (mj_one_of mj_d_11_11 fun _ _ => rfl) ?_
          refine mj_runs.step (S' := (mj_m_11, 20, [(0, .ref 1), (1, .int ((a).toUInt32 % 65536).toInt32)], [], mj_h0)) (mj_one_of mj_d_11_14 fun _ _ => rfl) ?_
          refine mj_runs.step (S' := (mj_m_11, 21, [(0, .ref 1), (1, .int ((a).toUInt32 % 65536).toInt32)], [.ref 1], mj_h0)) (mj_one_of mj_d_11_20 fun _ _ => rfl) ?_
          refine mj_runs.step (S' := (mj_m_11, 24, [(0, .ref 1), (1, .int ((a).toUInt32 % 65536).toInt32)], [.ref 2], mj_h0)) (mj_one_of mj_d_11_21 fun _ _ => rfl) ?_
          refine mj_runs.step (S' := (mj_m_11, 25, [(0, .ref 1), (1, .int ((a).toUInt32 % 65536).toInt32)], [.ref 1, .ref 2], mj_h0)) (mj_one_of mj_d_11_24 fun _ _ => rfl) ?_
          refine mj_runs.step (S' := (mj_m_11, 28, [(0, .ref 1), (1, .int ((a).toUInt32 % 65536).toInt32)], [.int (0 : Int32), .ref 2], mj_h0)) (mj_one_of mj_d_11_25 fun _ _ => rfl) ?_
          refine mj_runs.step (S' := (mj_m_11, 29, [(0, .ref 1), (1, .int ((a).toUInt32 % 65536).toInt32)], [.int ((a).toUInt32 % 65536).toInt32, .int (0 : Int32), .ref 2], mj_h0)) (mj_one_of mj_d_11_28 fun _ _ => rfl) ?_
          refine mj_runs.step (S' := (mj_m_11, 30, [(0, .ref 1), (1, .int ((a).toUInt32 % 65536).toInt32)], [], (mj_h0.set 2 (101, ((List.replicate 240 (.int (0 : Int32))).set 0 (narrow .char (.int ((a).toUInt32 % 65536).toInt32))))))) (mj_one_of mj_d_11_29 fun _ _ => rfl) ?_
          refine mj_runs.step (S' := (mj_m_11, 31, [(0, .ref 1), (1, .int ((a).toUInt32 % 65536).toInt32)], [.ref 1], (mj_h0.set 2 (101, ((List.replicate 240 (.int (0 : Int32))).set 0 (narrow .char (.int ((a).toUInt32 % 65536).toInt32))))))) (mj_one_of mj_d_11_30 fun _ _ => rfl) ?_
          refine mj_runs.step (S' := (mj_m_11, 32, [(0, .ref 1), (1, .int ((a).toUInt32 % 65536).toInt32)], [.ref 1, .ref 1], (mj_h0.set 2 (101, ((List.replicate 240 (.int (0 : Int32))).set 0 (narrow .char (.int ((a).toUInt32 % 65536).toInt32))))))) (mj_one_of mj_d_11_31 fun _ _ => rfl) ?_
          refine mj_runs.step (S' := (mj_m_11, 35, [(0, .ref 1), (1, .int ((a).toUInt32 % 65536).toInt32)], [.int (0 : Int32), .ref 1], (mj_h0.set 2 (101, ((List.replicate 240 (.int (0 : Int32))).set 0 (narrow .char (.int ((a).toUInt32 % 65536).toInt32))))))) (mj_one_of mj_d_11_32 fun _ _ => rfl) ?_
          refine mj_runs.step (S' := (mj_m_11, 36, [(0, .ref 1), (1, .int ((a).toUInt32 % 65536).toInt32)], [.int (1 : Int32), .int (0 : Int32), .ref 1], (mj_h0.set 2 (101, ((List.replicate 240 (.int (0 : Int32))).set 0 (narrow .char (.int ((a).toUInt32 % 65536).toInt32))))))) (mj_one_of mj_d_11_35 fun _ _ => rfl) ?_
          refine mj_runs.step (S' := (mj_m_11, 37, [(0, .ref 1), (1, .int ((a).toUInt32 % 65536).toInt32)], [.int (1 : Int32), .ref 1], (mj_h0.set 2 (101, ((List.replicate 240 (.int (0 : Int32))).set 0 (narrow .char (.int ((a).toUInt32 % 65536).toInt32))))))) (mj_one_of mj_d_11_36 fun _ _ => rfl) ?_
          refine mj_runs.step (S' := (mj_m_11, 40, [(0, .ref 1), (1, .int ((a).toUInt32 % 65536).toInt32)], [], ((mj_h0.set 2 (101, ((List.replicate 240 (.int (0 : Int32))).set 0 (narrow .char (.int ((a).toUInt32 % 65536).toInt32))))).set 1 (8, [.ref 2, .ref 3, .int (1 : Int32), .int (0 : Int32), .int (0 : Int32), .int (Int32.ofInt (-1))])))) (mj_one_of mj_d_11_37 fun _ _ => rfl) ?_
          refine mj_runs.step (S' := (mj_m_11, 41, [(0, .ref 1), (1, .int ((a).toUInt32 % 65536).toInt32)], [.ref 1], ((mj_h0.set 2 (101, ((List.replicate 240 (.int (0 : Int32))).set 0 (narrow .char (.int ((a).toUInt32 % 65536).toInt32))))).set 1 (8, [.ref 2, .ref 3, .int (1 : Int32), .int (0 : Int32), .int (0 : Int32), .int (Int32.ofInt (-1))])))) (mj_one_of mj_d_11_40 fun _ _ => rfl) ?_
          refine mj_runs.step (S' := (mj_m_11, 44, [(0, .ref 1), (1, .int ((a).toUInt32 % 65536).toInt32)], [.int (1 : Int32)], ((mj_h0.set 2 (101, ((List.replicate 240 (.int (0 : Int32))).set 0 (narrow .char (.int ((a).toUInt32 % 65536).toInt32))))).set 1 (8, [.ref 2, .ref 3, .int (1 : Int32), .int (0 : Int32), .int (0 : Int32), .int (Int32.ofInt (-1))])))) (mj_one_of mj_d_11_41 fun _ _ => rfl) ?_
          exact mj_runs.ret (mj_ret_of mj_d_11_44 fun _ _ => rfl)
        show mj_runs (mj_m_10, 23, [(0, .ref 0), (1, .int a)], [.int (1 : Int32)], ((mj_h0.set 2 (101, ((List.replicate 240 (.int (0 : Int32))).set 0 (narrow .char (.int ((a).toUInt32 % 65536).toInt32))))).set 1 (8, [.ref 2, .ref 3, .int (1 : Int32), .int (0 : Int32), .int (0 : Int32), .int (Int32.ofInt (-1))]))) _ _
        exact mj_runs.ret (mj_ret_of mj_d_10_23 fun _ _ => rfl)
      · refine mj_runs.step (S' := (mj_m_124, 1, [(0, .ref 234), (1, .int a)], [.int a], ((mj_h0.set 2 (101, ((List.replicate 240 (.int (0 : Int32))).set 0 (narrow .char (.int ((a).toUInt32 % 65536).toInt32))))).set 1 (8, [.ref 2, .ref 3, .int (1 : Int32), .int (0 : Int32), .int (0 : Int32), .int (Int32.ofInt (-1))])))) (mj_one_of mj_d_124_0 fun _ _ => rfl) ?_
        refine mj_runs.step (S' := (mj_m_124, 2, [(0, .ref 234), (1, .int a)], [.long (a).toInt64], ((mj_h0.set 2 (101, ((List.replicate 240 (.int (0 : Int32))).set 0 (narrow .char (.int ((a).toUInt32 % 65536).toInt32))))).set 1 (8, [.ref 2, .ref 3, .int (1 : Int32), .int (0 : Int32), .int (0 : Int32), .int (Int32.ofInt (-1))])))) (mj_one_of mj_d_124_1 fun _ _ => rfl) ?_
        refine mj_runs.step (S' := (mj_m_124, 3, [(0, .ref 234), (1, .int a)], [.long (0 : Int64), .long (a).toInt64], ((mj_h0.set 2 (101, ((List.replicate 240 (.int (0 : Int32))).set 0 (narrow .char (.int ((a).toUInt32 % 65536).toInt32))))).set 1 (8, [.ref 2, .ref 3, .int (1 : Int32), .int (0 : Int32), .int (0 : Int32), .int (Int32.ofInt (-1))])))) (mj_one_of mj_d_124_2 fun _ _ => rfl) ?_
        refine mj_runs.step (S' := (mj_m_124, 6, [(0, .ref 234), (1, .int a)], [.long (255 : Int64), .long (0 : Int64), .long (a).toInt64], ((mj_h0.set 2 (101, ((List.replicate 240 (.int (0 : Int32))).set 0 (narrow .char (.int ((a).toUInt32 % 65536).toInt32))))).set 1 (8, [.ref 2, .ref 3, .int (1 : Int32), .int (0 : Int32), .int (0 : Int32), .int (Int32.ofInt (-1))])))) (mj_one_of mj_d_124_3 fun _ _ => rfl) ?_
        refine mj_runs.call (S1 := (mj_m_125, 0, [(0, .long (a).toInt64), (2, .long (0 : Int64)), (4, .long (255 : Int64))], [], ((mj_h0.set 2 (101, ((List.replicate 240 (.int (0 : Int32))).set 0 (narrow .char (.int ((a).toUInt32 % 65536).toInt32))))).set 1 (8, [.ref 2, .ref 3, .int (1 : Int32), .int (0 : Int32), .int (0 : Int32), .int (Int32.ofInt (-1))])))) (r1 := (some (.int (1 : Int32)))) (h1 := ((mj_h0.set 2 (101, ((List.replicate 240 (.int (0 : Int32))).set 0 (narrow .char (.int ((a).toUInt32 % 65536).toInt32))))).set 1 (8, [.ref 2, .ref 3, .int (1 : Int32), .int (0 : Int32), .int (0 : Int32), .int (Int32.ofInt (-1))]))) (mj_calls_s mj_d_124_6 rfl rfl rfl rfl ⟨Nat.le_of_ble_eq_true rfl, Nat.le_of_ble_eq_true rfl, Nat.le_of_ble_eq_true rfl, Nat.le_of_ble_eq_true rfl, Nat.le_of_ble_eq_true rfl⟩) ?_ ?_
        · refine mj_runs.step (S' := (mj_m_125, 1, [(0, .long (a).toInt64), (2, .long (0 : Int64)), (4, .long (255 : Int64))], [.long (a).toInt64], ((mj_h0.set 2 (101, ((List.replicate 240 (.int (0 : Int32))).set 0 (narrow .char (.int ((a).toUInt32 % 65536).toInt32))))).set 1 (8, [.ref 2, .ref 3, .int (1 : Int32), .int (0 : Int32), .int (0 : Int32), .int (Int32.ofInt (-1))])))) (mj_one_of mj_d_125_0 fun _ _ => rfl) ?_
          refine mj_runs.step (S' := (mj_m_125, 2, [(0, .long (a).toInt64), (2, .long (0 : Int64)), (4, .long (255 : Int64))], [.long (0 : Int64), .long (a).toInt64], ((mj_h0.set 2 (101, ((List.replicate 240 (.int (0 : Int32))).set 0 (narrow .char (.int ((a).toUInt32 % 65536).toInt32))))).set 1 (8, [.ref 2, .ref 3, .int (1 : Int32), .int (0 : Int32), .int (0 : Int32), .int (Int32.ofInt (-1))])))) (mj_one_of mj_d_125_1 fun _ _ => rfl) ?_
          refine mj_runs.step (S' := (mj_m_125, 3, [(0, .long (a).toInt64), (2, .long (0 : Int64)), (4, .long (255 : Int64))], [.int (lg_cmp (a).toInt64 (0 : Int64))], ((mj_h0.set 2 (101, ((List.replicate 240 (.int (0 : Int32))).set 0 (narrow .char (.int ((a).toUInt32 % 65536).toInt32))))).set 1 (8, [.ref 2, .ref 3, .int (1 : Int32), .int (0 : Int32), .int (0 : Int32), .int (Int32.ofInt (-1))])))) (mj_one_of mj_d_125_2 fun _ _ => rfl) ?_
          refine mj_runs.step (S' := (mj_m_125, 6, [(0, .long (a).toInt64), (2, .long (0 : Int64)), (4, .long (255 : Int64))], [], ((mj_h0.set 2 (101, ((List.replicate 240 (.int (0 : Int32))).set 0 (narrow .char (.int ((a).toUInt32 % 65536).toInt32))))).set 1 (8, [.ref 2, .ref 3, .int (1 : Int32), .int (0 : Int32), .int (0 : Int32), .int (Int32.ofInt (-1))])))) (mj_one_ifF mj_d_125_3 (t := 17) rfl (mj_lgF_lt (mj_l32 a) (show ((0 : Int64)).toInt = 0 by decide) (by omega))) ?_
          refine mj_runs.step (S' := (mj_m_125, 7, [(0, .long (a).toInt64), (2, .long (0 : Int64)), (4, .long (255 : Int64))], [.long (a).toInt64], ((mj_h0.set 2 (101, ((List.replicate 240 (.int (0 : Int32))).set 0 (narrow .char (.int ((a).toUInt32 % 65536).toInt32))))).set 1 (8, [.ref 2, .ref 3, .int (1 : Int32), .int (0 : Int32), .int (0 : Int32), .int (Int32.ofInt (-1))])))) (mj_one_of mj_d_125_6 fun _ _ => rfl) ?_
          refine mj_runs.step (S' := (mj_m_125, 9, [(0, .long (a).toInt64), (2, .long (0 : Int64)), (4, .long (255 : Int64))], [.long (255 : Int64), .long (a).toInt64], ((mj_h0.set 2 (101, ((List.replicate 240 (.int (0 : Int32))).set 0 (narrow .char (.int ((a).toUInt32 % 65536).toInt32))))).set 1 (8, [.ref 2, .ref 3, .int (1 : Int32), .int (0 : Int32), .int (0 : Int32), .int (Int32.ofInt (-1))])))) (mj_one_of mj_d_125_7 fun _ _ => rfl) ?_
          refine mj_runs.step (S' := (mj_m_125, 10, [(0, .long (a).toInt64), (2, .long (0 : Int64)), (4, .long (255 : Int64))], [.int (lg_cmp (a).toInt64 (255 : Int64))], ((mj_h0.set 2 (101, ((List.replicate 240 (.int (0 : Int32))).set 0 (narrow .char (.int ((a).toUInt32 % 65536).toInt32))))).set 1 (8, [.ref 2, .ref 3, .int (1 : Int32), .int (0 : Int32), .int (0 : Int32), .int (Int32.ofInt (-1))])))) (mj_one_of mj_d_125_9 fun _ _ => rfl) ?_
          refine mj_runs.step (S' := (mj_m_125, 13, [(0, .long (a).toInt64), (2, .long (0 : Int64)), (4, .long (255 : Int64))], [], ((mj_h0.set 2 (101, ((List.replicate 240 (.int (0 : Int32))).set 0 (narrow .char (.int ((a).toUInt32 % 65536).toInt32))))).set 1 (8, [.ref 2, .ref 3, .int (1 : Int32), .int (0 : Int32), .int (0 : Int32), .int (Int32.ofInt (-1))])))) (mj_one_ifF mj_d_125_10 (t := 17) rfl (mj_lgF_gt (mj_l32 a) (show ((255 : Int64)).toInt = 255 by decide) (by omega))) ?_
          refine mj_runs.step (S' := (mj_m_125, 14, [(0, .long (a).toInt64), (2, .long (0 : Int64)), (4, .long (255 : Int64))], [.int (1 : Int32)], ((mj_h0.set 2 (101, ((List.replicate 240 (.int (0 : Int32))).set 0 (narrow .char (.int ((a).toUInt32 % 65536).toInt32))))).set 1 (8, [.ref 2, .ref 3, .int (1 : Int32), .int (0 : Int32), .int (0 : Int32), .int (Int32.ofInt (-1))])))) (mj_one_of mj_d_125_13 fun _ _ => rfl) ?_
          refine mj_runs.step (S' := (mj_m_125, 18, [(0, .long (a).toInt64), (2, .long (0 : Int64)), (4, .long (255 : Int64))], [.int (1 : Int32)], ((mj_h0.set 2 (101, ((List.replicate 240 (.int (0 : Int32))).set 0 (narrow .char (.int ((a).toUInt32 % 65536).toInt32))))).set 1 (8, [.ref 2, .ref 3, .int (1 : Int32), .int (0 : Int32), .int (0 : Int32), .int (Int32.ofInt (-1))])))) (mj_one_of mj_d_125_14 fun _ _ => rfl) ?_
          exact mj_runs.ret (mj_ret_of mj_d_125_18 fun _ _ => rfl)
        show mj_runs (mj_m_124, 9, [(0, .ref 234), (1, .int a)], [.int (1 : Int32)], ((mj_h0.set 2 (101, ((List.replicate 240 (.int (0 : Int32))).set 0 (narrow .char (.int ((a).toUInt32 % 65536).toInt32))))).set 1 (8, [.ref 2, .ref 3, .int (1 : Int32), .int (0 : Int32), .int (0 : Int32), .int (Int32.ofInt (-1))]))) _ _
        refine mj_runs.step (S' := (mj_m_124, 15, [(0, .ref 234), (1, .int a)], [], ((mj_h0.set 2 (101, ((List.replicate 240 (.int (0 : Int32))).set 0 (narrow .char (.int ((a).toUInt32 % 65536).toInt32))))).set 1 (8, [.ref 2, .ref 3, .int (1 : Int32), .int (0 : Int32), .int (0 : Int32), .int (Int32.ofInt (-1))])))) (mj_one_of mj_d_124_9 fun _ _ => rfl) ?_
        refine mj_runs.step (S' := (mj_m_124, 16, [(0, .ref 234), (1, .int a)], [.ref 234], ((mj_h0.set 2 (101, ((List.replicate 240 (.int (0 : Int32))).set 0 (narrow .char (.int ((a).toUInt32 % 65536).toInt32))))).set 1 (8, [.ref 2, .ref 3, .int (1 : Int32), .int (0 : Int32), .int (0 : Int32), .int (Int32.ofInt (-1))])))) (mj_one_of mj_d_124_15 fun _ _ => rfl) ?_
        refine mj_runs.step (S' := (mj_m_124, 19, [(0, .ref 234), (1, .int a)], [.int (0 : Int32)], ((mj_h0.set 2 (101, ((List.replicate 240 (.int (0 : Int32))).set 0 (narrow .char (.int ((a).toUInt32 % 65536).toInt32))))).set 1 (8, [.ref 2, .ref 3, .int (1 : Int32), .int (0 : Int32), .int (0 : Int32), .int (Int32.ofInt (-1))])))) (mj_one_of mj_d_124_16 fun _ _ => rfl) ?_
        refine mj_runs.step (S' := (mj_m_124, 22, [(0, .ref 234), (1, .int a)], [.int (240 : Int32), .int (0 : Int32)], ((mj_h0.set 2 (101, ((List.replicate 240 (.int (0 : Int32))).set 0 (narrow .char (.int ((a).toUInt32 % 65536).toInt32))))).set 1 (8, [.ref 2, .ref 3, .int (1 : Int32), .int (0 : Int32), .int (0 : Int32), .int (Int32.ofInt (-1))])))) (mj_one_of mj_d_124_19 fun _ _ => rfl) ?_
        refine mj_runs.step (S' := (mj_m_124, 28, [(0, .ref 234), (1, .int a)], [], ((mj_h0.set 2 (101, ((List.replicate 240 (.int (0 : Int32))).set 0 (narrow .char (.int ((a).toUInt32 % 65536).toInt32))))).set 1 (8, [.ref 2, .ref 3, .int (1 : Int32), .int (0 : Int32), .int (0 : Int32), .int (Int32.ofInt (-1))])))) (mj_one_of mj_d_124_22 fun _ _ => rfl) ?_
        refine mj_runs.step (S' := (mj_m_124, 29, [(0, .ref 234), (1, .int a)], [.ref 234], ((mj_h0.set 2 (101, ((List.replicate 240 (.int (0 : Int32))).set 0 (narrow .char (.int ((a).toUInt32 % 65536).toInt32))))).set 1 (8, [.ref 2, .ref 3, .int (1 : Int32), .int (0 : Int32), .int (0 : Int32), .int (Int32.ofInt (-1))])))) (mj_one_of mj_d_124_28 fun _ _ => rfl) ?_
        refine mj_runs.step (S' := (mj_m_124, 32, [(0, .ref 234), (1, .int a)], [.ref 238], ((mj_h0.set 2 (101, ((List.replicate 240 (.int (0 : Int32))).set 0 (narrow .char (.int ((a).toUInt32 % 65536).toInt32))))).set 1 (8, [.ref 2, .ref 3, .int (1 : Int32), .int (0 : Int32), .int (0 : Int32), .int (Int32.ofInt (-1))])))) (mj_one_of mj_d_124_29 fun _ _ => rfl) ?_
        refine mj_runs.step (S' := (mj_m_124, 33, [(0, .ref 234), (1, .int a)], [.ref 234, .ref 238], ((mj_h0.set 2 (101, ((List.replicate 240 (.int (0 : Int32))).set 0 (narrow .char (.int ((a).toUInt32 % 65536).toInt32))))).set 1 (8, [.ref 2, .ref 3, .int (1 : Int32), .int (0 : Int32), .int (0 : Int32), .int (Int32.ofInt (-1))])))) (mj_one_of mj_d_124_32 fun _ _ => rfl) ?_
        refine mj_runs.step (S' := (mj_m_124, 36, [(0, .ref 234), (1, .int a)], [.int (0 : Int32), .ref 238], ((mj_h0.set 2 (101, ((List.replicate 240 (.int (0 : Int32))).set 0 (narrow .char (.int ((a).toUInt32 % 65536).toInt32))))).set 1 (8, [.ref 2, .ref 3, .int (1 : Int32), .int (0 : Int32), .int (0 : Int32), .int (Int32.ofInt (-1))])))) (mj_one_of mj_d_124_33 fun _ _ => rfl) ?_
        refine mj_runs.step (S' := (mj_m_124, 37, [(0, .ref 234), (1, .int a)], [.int a, .int (0 : Int32), .ref 238], ((mj_h0.set 2 (101, ((List.replicate 240 (.int (0 : Int32))).set 0 (narrow .char (.int ((a).toUInt32 % 65536).toInt32))))).set 1 (8, [.ref 2, .ref 3, .int (1 : Int32), .int (0 : Int32), .int (0 : Int32), .int (Int32.ofInt (-1))])))) (mj_one_of mj_d_124_36 fun _ _ => rfl) ?_
        refine mj_runs.step (S' := (mj_m_124, 38, [(0, .ref 234), (1, .int a)], [], (((mj_h0.set 2 (101, ((List.replicate 240 (.int (0 : Int32))).set 0 (narrow .char (.int ((a).toUInt32 % 65536).toInt32))))).set 1 (8, [.ref 2, .ref 3, .int (1 : Int32), .int (0 : Int32), .int (0 : Int32), .int (Int32.ofInt (-1))])).set 238 (100, ((List.replicate 240 (.int (0 : Int32))).set 0 (.int a)))))) (mj_one_of mj_d_124_37 fun _ _ => rfl) ?_
        refine mj_runs.step (S' := (mj_m_124, 39, [(0, .ref 234), (1, .int a)], [.ref 234], (((mj_h0.set 2 (101, ((List.replicate 240 (.int (0 : Int32))).set 0 (narrow .char (.int ((a).toUInt32 % 65536).toInt32))))).set 1 (8, [.ref 2, .ref 3, .int (1 : Int32), .int (0 : Int32), .int (0 : Int32), .int (Int32.ofInt (-1))])).set 238 (100, ((List.replicate 240 (.int (0 : Int32))).set 0 (.int a)))))) (mj_one_of mj_d_124_38 fun _ _ => rfl) ?_
        refine mj_runs.step (S' := (mj_m_124, 40, [(0, .ref 234), (1, .int a)], [.ref 234, .ref 234], (((mj_h0.set 2 (101, ((List.replicate 240 (.int (0 : Int32))).set 0 (narrow .char (.int ((a).toUInt32 % 65536).toInt32))))).set 1 (8, [.ref 2, .ref 3, .int (1 : Int32), .int (0 : Int32), .int (0 : Int32), .int (Int32.ofInt (-1))])).set 238 (100, ((List.replicate 240 (.int (0 : Int32))).set 0 (.int a)))))) (mj_one_of mj_d_124_39 fun _ _ => rfl) ?_
        refine mj_runs.step (S' := (mj_m_124, 43, [(0, .ref 234), (1, .int a)], [.int (0 : Int32), .ref 234], (((mj_h0.set 2 (101, ((List.replicate 240 (.int (0 : Int32))).set 0 (narrow .char (.int ((a).toUInt32 % 65536).toInt32))))).set 1 (8, [.ref 2, .ref 3, .int (1 : Int32), .int (0 : Int32), .int (0 : Int32), .int (Int32.ofInt (-1))])).set 238 (100, ((List.replicate 240 (.int (0 : Int32))).set 0 (.int a)))))) (mj_one_of mj_d_124_40 fun _ _ => rfl) ?_
        refine mj_runs.step (S' := (mj_m_124, 44, [(0, .ref 234), (1, .int a)], [.int (1 : Int32), .int (0 : Int32), .ref 234], (((mj_h0.set 2 (101, ((List.replicate 240 (.int (0 : Int32))).set 0 (narrow .char (.int ((a).toUInt32 % 65536).toInt32))))).set 1 (8, [.ref 2, .ref 3, .int (1 : Int32), .int (0 : Int32), .int (0 : Int32), .int (Int32.ofInt (-1))])).set 238 (100, ((List.replicate 240 (.int (0 : Int32))).set 0 (.int a)))))) (mj_one_of mj_d_124_43 fun _ _ => rfl) ?_
        refine mj_runs.step (S' := (mj_m_124, 45, [(0, .ref 234), (1, .int a)], [.int (1 : Int32), .ref 234], (((mj_h0.set 2 (101, ((List.replicate 240 (.int (0 : Int32))).set 0 (narrow .char (.int ((a).toUInt32 % 65536).toInt32))))).set 1 (8, [.ref 2, .ref 3, .int (1 : Int32), .int (0 : Int32), .int (0 : Int32), .int (Int32.ofInt (-1))])).set 238 (100, ((List.replicate 240 (.int (0 : Int32))).set 0 (.int a)))))) (mj_one_of mj_d_124_44 fun _ _ => rfl) ?_
        refine mj_runs.step (S' := (mj_m_124, 48, [(0, .ref 234), (1, .int a)], [], ((((mj_h0.set 2 (101, ((List.replicate 240 (.int (0 : Int32))).set 0 (narrow .char (.int ((a).toUInt32 % 65536).toInt32))))).set 1 (8, [.ref 2, .ref 3, .int (1 : Int32), .int (0 : Int32), .int (0 : Int32), .int (Int32.ofInt (-1))])).set 238 (100, ((List.replicate 240 (.int (0 : Int32))).set 0 (.int a)))).set 234 (10, [.ref 235, .ref 236, .int (0 : Int32), .int (0 : Int32), .int (0 : Int32), .int (0 : Int32), .int (0 : Int32), .int (0 : Int32), .ref 237, .ref 238, .int (1 : Int32), .int (0 : Int32), .int (0 : Int32), .int (0 : Int32), .int (0 : Int32), .int (Int32.ofInt (-1)), .int (0 : Int32), .int (0 : Int32), .int (0 : Int32), .int (0 : Int32), .ref 239, .ref 240, .int (0 : Int32), .ref 241, .ref 242, .ref 243, .ref 244, .ref 245, .ref 246, .ref 247, .ref 248, .int (0 : Int32), .ref 249, .ref 250, .ref 251, .int (0 : Int32), .ref 252, .ref 253])))) (mj_one_of mj_d_124_45 fun _ _ => rfl) ?_
        refine mj_runs.step (S' := (mj_m_124, 49, [(0, .ref 234), (1, .int a)], [.ref 234], ((((mj_h0.set 2 (101, ((List.replicate 240 (.int (0 : Int32))).set 0 (narrow .char (.int ((a).toUInt32 % 65536).toInt32))))).set 1 (8, [.ref 2, .ref 3, .int (1 : Int32), .int (0 : Int32), .int (0 : Int32), .int (Int32.ofInt (-1))])).set 238 (100, ((List.replicate 240 (.int (0 : Int32))).set 0 (.int a)))).set 234 (10, [.ref 235, .ref 236, .int (0 : Int32), .int (0 : Int32), .int (0 : Int32), .int (0 : Int32), .int (0 : Int32), .int (0 : Int32), .ref 237, .ref 238, .int (1 : Int32), .int (0 : Int32), .int (0 : Int32), .int (0 : Int32), .int (0 : Int32), .int (Int32.ofInt (-1)), .int (0 : Int32), .int (0 : Int32), .int (0 : Int32), .int (0 : Int32), .ref 239, .ref 240, .int (0 : Int32), .ref 241, .ref 242, .ref 243, .ref 244, .ref 245, .ref 246, .ref 247, .ref 248, .int (0 : Int32), .ref 249, .ref 250, .ref 251, .int (0 : Int32), .ref 252, .ref 253])))) (mj_one_of mj_d_124_48 fun _ _ => rfl) ?_
        refine mj_runs.step (S' := (mj_m_124, 52, [(0, .ref 234), (1, .int a)], [.int (1 : Int32)], ((((mj_h0.set 2 (101, ((List.replicate 240 (.int (0 : Int32))).set 0 (narrow .char (.int ((a).toUInt32 % 65536).toInt32))))).set 1 (8, [.ref 2, .ref 3, .int (1 : Int32), .int (0 : Int32), .int (0 : Int32), .int (Int32.ofInt (-1))])).set 238 (100, ((List.replicate 240 (.int (0 : Int32))).set 0 (.int a)))).set 234 (10, [.ref 235, .ref 236, .int (0 : Int32), .int (0 : Int32), .int (0 : Int32), .int (0 : Int32), .int (0 : Int32), .int (0 : Int32), .ref 237, .ref 238, .int (1 : Int32), .int (0 : Int32), .int (0 : Int32), .int (0 : Int32), .int (0 : Int32), .int (Int32.ofInt (-1)), .int (0 : Int32), .int (0 : Int32), .int (0 : Int32), .int (0 : Int32), .ref 239, .ref 240, .int (0 : Int32), .ref 241, .ref 242, .ref 243, .ref 244, .ref 245, .ref 246, .ref 247, .ref 248, .int (0 : Int32), .ref 249, .ref 250, .ref 251, .int (0 : Int32), .ref 252, .ref 253])))) (mj_one_of mj_d_124_49 fun _ _ => rfl) ?_
        exact mj_runs.ret (mj_ret_of mj_d_124_52 fun _ _ => rfl)
      · exact mj_sz_set rfl rfl (mj_sz_set rfl rfl (mj_sz_set rfl rfl (mj_sz_set rfl rfl (mj_sz0))))
    · refine ⟨(Int32.ofInt (-1000000002)), mj_h0, mj_h0, ?_, ?_, ?_⟩
      · refine mj_runs.step (S' := (mj_m_10, 1, [(0, .ref 0), (1, .int a)], [.int a], mj_h0)) (mj_one_of mj_d_10_0 fun _ _ => rfl) ?_
        refine mj_runs.step (S' := (mj_m_10, 4, [(0, .ref 0), (1, .int a)], [], mj_h0)) (mj_one_ifF mj_d_10_1 (t := 11) rfl (mj_cF_lt (rfl : (a).toInt = (a).toInt) (show ((0 : Int32)).toInt = 0 by decide) (by omega))) ?_
        refine mj_runs.step (S' := (mj_m_10, 5, [(0, .ref 0), (1, .int a)], [.int a], mj_h0)) (mj_one_of mj_d_10_4 fun _ _ => rfl) ?_
        refine mj_runs.step (S' := (mj_m_10, 8, [(0, .ref 0), (1, .int a)], [.int (255 : Int32), .int a], mj_h0)) (mj_one_of mj_d_10_5 fun _ _ => rfl) ?_
        refine mj_runs.step (S' := (mj_m_10, 11, [(0, .ref 0), (1, .int a)], [], mj_h0)) (mj_one_icmpF mj_d_10_8 (t := 14) rfl (mj_cF_le (rfl : (a).toInt = (a).toInt) (show ((255 : Int32)).toInt = 255 by decide) (by omega))) ?_
        refine mj_runs.step (S' := (mj_m_10, 13, [(0, .ref 0), (1, .int a)], [.int (Int32.ofInt (-1000000002))], mj_h0)) (mj_one_of mj_d_10_11 fun _ _ => rfl) ?_
        exact mj_runs.ret (mj_ret_of mj_d_10_13 fun _ _ => rfl)
      · refine mj_runs.step (S' := (mj_m_124, 1, [(0, .ref 234), (1, .int a)], [.int a], mj_h0)) (mj_one_of mj_d_124_0 fun _ _ => rfl) ?_
        refine mj_runs.step (S' := (mj_m_124, 2, [(0, .ref 234), (1, .int a)], [.long (a).toInt64], mj_h0)) (mj_one_of mj_d_124_1 fun _ _ => rfl) ?_
        refine mj_runs.step (S' := (mj_m_124, 3, [(0, .ref 234), (1, .int a)], [.long (0 : Int64), .long (a).toInt64], mj_h0)) (mj_one_of mj_d_124_2 fun _ _ => rfl) ?_
        refine mj_runs.step (S' := (mj_m_124, 6, [(0, .ref 234), (1, .int a)], [.long (255 : Int64), .long (0 : Int64), .long (a).toInt64], mj_h0)) (mj_one_of mj_d_124_3 fun _ _ => rfl) ?_
        refine mj_runs.call (S1 := (mj_m_125, 0, [(0, .long (a).toInt64), (2, .long (0 : Int64)), (4, .long (255 : Int64))], [], mj_h0)) (r1 := (some (.int (0 : Int32)))) (h1 := mj_h0) (mj_calls_s mj_d_124_6 rfl rfl rfl rfl ⟨Nat.le_of_ble_eq_true rfl, Nat.le_of_ble_eq_true rfl, Nat.le_of_ble_eq_true rfl, Nat.le_of_ble_eq_true rfl, Nat.le_of_ble_eq_true rfl⟩) ?_ ?_
        · refine mj_runs.step (S' := (mj_m_125, 1, [(0, .long (a).toInt64), (2, .long (0 : Int64)), (4, .long (255 : Int64))], [.long (a).toInt64], mj_h0)) (mj_one_of mj_d_125_0 fun _ _ => rfl) ?_
          refine mj_runs.step (S' := (mj_m_125, 2, [(0, .long (a).toInt64), (2, .long (0 : Int64)), (4, .long (255 : Int64))], [.long (0 : Int64), .long (a).toInt64], mj_h0)) (mj_one_of mj_d_125_1 fun _ _ => rfl) ?_
          refine mj_runs.step (S' := (mj_m_125, 3, [(0, .long (a).toInt64), (2, .long (0 : Int64)), (4, .long (255 : Int64))], [.int (lg_cmp (a).toInt64 (0 : Int64))], mj_h0)) (mj_one_of mj_d_125_2 fun _ _ => rfl) ?_
          refine mj_runs.step (S' := (mj_m_125, 6, [(0, .long (a).toInt64), (2, .long (0 : Int64)), (4, .long (255 : Int64))], [], mj_h0)) (mj_one_ifF mj_d_125_3 (t := 17) rfl (mj_lgF_lt (mj_l32 a) (show ((0 : Int64)).toInt = 0 by decide) (by omega))) ?_
          refine mj_runs.step (S' := (mj_m_125, 7, [(0, .long (a).toInt64), (2, .long (0 : Int64)), (4, .long (255 : Int64))], [.long (a).toInt64], mj_h0)) (mj_one_of mj_d_125_6 fun _ _ => rfl) ?_
          refine mj_runs.step (S' := (mj_m_125, 9, [(0, .long (a).toInt64), (2, .long (0 : Int64)), (4, .long (255 : Int64))], [.long (255 : Int64), .long (a).toInt64], mj_h0)) (mj_one_of mj_d_125_7 fun _ _ => rfl) ?_
          refine mj_runs.step (S' := (mj_m_125, 10, [(0, .long (a).toInt64), (2, .long (0 : Int64)), (4, .long (255 : Int64))], [.int (lg_cmp (a).toInt64 (255 : Int64))], mj_h0)) (mj_one_of mj_d_125_9 fun _ _ => rfl) ?_
          refine mj_runs.step (S' := (mj_m_125, 17, [(0, .long (a).toInt64), (2, .long (0 : Int64)), (4, .long (255 : Int64))], [], mj_h0)) (mj_one_ifT mj_d_125_10 rfl (mj_lgT_gt (mj_l32 a) (show ((255 : Int64)).toInt = 255 by decide) (by omega))) ?_
          refine mj_runs.step (S' := (mj_m_125, 18, [(0, .long (a).toInt64), (2, .long (0 : Int64)), (4, .long (255 : Int64))], [.int (0 : Int32)], mj_h0)) (mj_one_of mj_d_125_17 fun _ _ => rfl) ?_
          exact mj_runs.ret (mj_ret_of mj_d_125_18 fun _ _ => rfl)
        show mj_runs (mj_m_124, 9, [(0, .ref 234), (1, .int a)], [.int (0 : Int32)], mj_h0) _ _
        refine mj_runs.step (S' := (mj_m_124, 12, [(0, .ref 234), (1, .int a)], [], mj_h0)) (mj_one_of mj_d_124_9 fun _ _ => rfl) ?_
        refine mj_runs.step (S' := (mj_m_124, 14, [(0, .ref 234), (1, .int a)], [.int (Int32.ofInt (-1000000002))], mj_h0)) (mj_one_of mj_d_124_12 fun _ _ => rfl) ?_
        exact mj_runs.ret (mj_ret_of mj_d_124_14 fun _ _ => rfl)
      · exact mj_sz0
set_option maxRecDepth 1000000 in
set_option maxHeartbeats 4000000 in
theorem mj_op_city : ∃ (r : Int32) (h1 h2 : mj_H), mj_runs (mj_m_12, 0, [(0, .ref 0)], [], mj_h0) (some (.int r)) h1 ∧ mj_runs (mj_m_126, 0, [(0, .ref 234)], [], h1) (some (.int r)) h2 ∧ mj_sz h2 := by
  refine ⟨(0 : Int32), mj_h0, mj_h0, ⟨3000, by decide +kernel⟩, ⟨3000, by decide +kernel⟩, by unfold mj_sz; decide +kernel⟩
set_option maxRecDepth 1000000 in
set_option maxHeartbeats 4000000 in
theorem mj_op_fault : ∃ (r : Int32) (h1 h2 : mj_H), mj_runs (mj_m_33, 0, [(0, .ref 0)], [], mj_h0) (some (.int r)) h1 ∧ mj_runs (mj_m_136, 0, [(0, .ref 234)], [], h1) (some (.int r)) h2 ∧ mj_sz h2 := by
  refine ⟨(Int32.ofInt (-1)), mj_h0, mj_h0, ⟨3000, by decide +kernel⟩, ⟨3000, by decide +kernel⟩, by unfold mj_sz; decide +kernel⟩
set_option maxRecDepth 1000000 in
set_option maxHeartbeats 4000000 in
theorem mj_op_told (a : Int32) : ∃ (r : Int32) (h1 h2 : mj_H), mj_runs (mj_m_34, 0, [(0, .ref 0), (1, .int a)], [], mj_h0) (some (.int r)) h1 ∧ mj_runs (mj_m_137, 0, [(0, .ref 234), (1, .int a)], [], h1) (some (.int r)) h2 ∧ mj_sz h2 := by
  by_cases c0 : a.toInt = 0
  · obtain rfl : a = (0 : Int32) := Int32.toInt_inj.mp (by rw [show ((0 : Int32)).toInt = 0 by decide]; omega)
    refine ⟨(0 : Int32), mj_h0, mj_h0, ⟨3000, by decide +kernel⟩, ⟨3000, by decide +kernel⟩, by unfold mj_sz; decide +kernel⟩
  · by_cases c1 : a.toInt = 1
    · obtain rfl : a = (1 : Int32) := Int32.toInt_inj.mp (by rw [show ((1 : Int32)).toInt = 1 by decide]; omega)
      refine ⟨(0 : Int32), mj_h0, mj_h0, ⟨3000, by decide +kernel⟩, ⟨3000, by decide +kernel⟩, by unfold mj_sz; decide +kernel⟩
    · by_cases c2 : a.toInt = 2
      · obtain rfl : a = (2 : Int32) := Int32.toInt_inj.mp (by rw [show ((2 : Int32)).toInt = 2 by decide]; omega)
        refine ⟨(0 : Int32), mj_h0, mj_h0, ⟨3000, by decide +kernel⟩, ⟨3000, by decide +kernel⟩, by unfold mj_sz; decide +kernel⟩
      · by_cases c3 : a.toInt = 3
        · obtain rfl : a = (3 : Int32) := Int32.toInt_inj.mp (by rw [show ((3 : Int32)).toInt = 3 by decide]; omega)
          refine ⟨(0 : Int32), mj_h0, mj_h0, ⟨3000, by decide +kernel⟩, ⟨3000, by decide +kernel⟩, by unfold mj_sz; decide +kernel⟩
        · by_cases c4 : a.toInt = 4
          · obtain rfl : a = (4 : Int32) := Int32.toInt_inj.mp (by rw [show ((4 : Int32)).toInt = 4 by decide]; omega)
            refine ⟨(0 : Int32), mj_h0, mj_h0, ⟨3000, by decide +kernel⟩, ⟨3000, by decide +kernel⟩, by unfold mj_sz; decide +kernel⟩
          · by_cases c5 : a.toInt = 5
            · obtain rfl : a = (5 : Int32) := Int32.toInt_inj.mp (by rw [show ((5 : Int32)).toInt = 5 by decide]; omega)
              refine ⟨(0 : Int32), mj_h0, mj_h0, ⟨3000, by decide +kernel⟩, ⟨3000, by decide +kernel⟩, by unfold mj_sz; decide +kernel⟩
            · by_cases c6 : a.toInt = 6
              · obtain rfl : a = (6 : Int32) := Int32.toInt_inj.mp (by rw [show ((6 : Int32)).toInt = 6 by decide]; omega)
                refine ⟨(0 : Int32), mj_h0, mj_h0, ⟨3000, by decide +kernel⟩, ⟨3000, by decide +kernel⟩, by unfold mj_sz; decide +kernel⟩
              · by_cases c7 : a.toInt = 7
                · obtain rfl : a = (7 : Int32) := Int32.toInt_inj.mp (by rw [show ((7 : Int32)).toInt = 7 by decide]; omega)
                  refine ⟨(0 : Int32), mj_h0, mj_h0, ⟨3000, by decide +kernel⟩, ⟨3000, by decide +kernel⟩, by unfold mj_sz; decide +kernel⟩
                · by_cases c8 : a.toInt = 8
                  · obtain rfl : a = (8 : Int32) := Int32.toInt_inj.mp (by rw [show ((8 : Int32)).toInt = 8 by decide]; omega)
                    refine ⟨(0 : Int32), mj_h0, mj_h0, ⟨3000, by decide +kernel⟩, ⟨3000, by decide +kernel⟩, by unfold mj_sz; decide +kernel⟩
                  · by_cases c9 : a.toInt = 9
                    · obtain rfl : a = (9 : Int32) := Int32.toInt_inj.mp (by rw [show ((9 : Int32)).toInt = 9 by decide]; omega)
                      refine ⟨(0 : Int32), mj_h0, mj_h0, ⟨3000, by decide +kernel⟩, ⟨3000, by decide +kernel⟩, by unfold mj_sz; decide +kernel⟩
                    · by_cases c10 : a.toInt = 10
                      · obtain rfl : a = (10 : Int32) := Int32.toInt_inj.mp (by rw [show ((10 : Int32)).toInt = 10 by decide]; omega)
                        refine ⟨(0 : Int32), mj_h0, mj_h0, ⟨3000, by decide +kernel⟩, ⟨3000, by decide +kernel⟩, by unfold mj_sz; decide +kernel⟩
                      · by_cases c11 : a.toInt = 11
                        · obtain rfl : a = (11 : Int32) := Int32.toInt_inj.mp (by rw [show ((11 : Int32)).toInt = 11 by decide]; omega)
                          refine ⟨(0 : Int32), mj_h0, mj_h0, ⟨3000, by decide +kernel⟩, ⟨3000, by decide +kernel⟩, by unfold mj_sz; decide +kernel⟩
                        · refine ⟨(Int32.ofInt (-1000000002)), mj_h0, mj_h0, ?_, ?_, ?_⟩
                          · refine mj_runs.step (S' := (mj_m_34, 1, [(0, .ref 0), (1, .int a)], [.int a], mj_h0)) (mj_one_of mj_d_34_0 fun _ _ => rfl) ?_
                            refine mj_runs.step (S' := (mj_m_34, 168, [(0, .ref 0), (1, .int a)], [], mj_h0)) (mj_one_tblOut mj_d_34_1 rfl (by omega)) ?_
                            refine mj_runs.step (S' := (mj_m_34, 170, [(0, .ref 0), (1, .int a)], [.int (Int32.ofInt (-1000000002))], mj_h0)) (mj_one_of mj_d_34_168 fun _ _ => rfl) ?_
                            exact mj_runs.ret (mj_ret_of mj_d_34_170 fun _ _ => rfl)
                          · refine mj_runs.step (S' := (mj_m_137, 1, [(0, .ref 234), (1, .int a)], [.int a], mj_h0)) (mj_one_of mj_d_137_0 fun _ _ => rfl) ?_
                            refine mj_runs.step (S' := (mj_m_137, 136, [(0, .ref 234), (1, .int a)], [], mj_h0)) (mj_one_tblOut mj_d_137_1 rfl (by omega)) ?_
                            refine mj_runs.step (S' := (mj_m_137, 138, [(0, .ref 234), (1, .int a)], [.int (Int32.ofInt (-1000000002))], mj_h0)) (mj_one_of mj_d_137_136 fun _ _ => rfl) ?_
                            exact mj_runs.ret (mj_ret_of mj_d_137_138 fun _ _ => rfl)
                          · exact mj_sz0
set_option maxRecDepth 1000000 in
set_option maxHeartbeats 4000000 in
theorem mj_op_house (a b : Int32) : ∃ (r : Int32) (h1 h2 : mj_H), mj_runs (mj_m_38, 0, [(0, .ref 0), (1, .int a), (2, .int b)], [], mj_h0) (some (.int r)) h1 ∧ mj_runs (mj_m_139, 0, [(0, .ref 234), (1, .int a), (2, .int b)], [], h1) (some (.int r)) h2 ∧ mj_sz h2 := by
  by_cases c0 : a.toInt < 0
  · refine ⟨(Int32.ofInt (-1000000001)), mj_h0, mj_h0, ?_, ?_, ?_⟩
    · refine mj_runs.step (S' := (mj_m_38, 1, [(0, .ref 0), (1, .int a), (2, .int b)], [.ref 0], mj_h0)) (mj_one_of mj_d_38_0 fun _ _ => rfl) ?_
      refine mj_runs.step (S' := (mj_m_38, 2, [(0, .ref 0), (1, .int a), (2, .int b)], [.int a, .ref 0], mj_h0)) (mj_one_of mj_d_38_1 fun _ _ => rfl) ?_
      refine mj_runs.call (S1 := (mj_m_39, 0, [(0, .ref 0), (1, .int a)], [], mj_h0)) (r1 := (some (.int (0 : Int32)))) (h1 := mj_h0) (mj_calls_v mj_d_38_2 rfl rfl rfl rfl rfl rfl ⟨Nat.le_of_ble_eq_true rfl, ⟨Nat.le_of_ble_eq_true rfl, Nat.le_of_ble_eq_true rfl, Nat.le_of_ble_eq_true rfl, Nat.le_of_ble_eq_true rfl, Nat.le_of_ble_eq_true rfl⟩⟩) ?_ ?_
      · refine mj_runs.step (S' := (mj_m_39, 1, [(0, .ref 0), (1, .int a)], [.int a], mj_h0)) (mj_one_of mj_d_39_0 fun _ _ => rfl) ?_
        refine mj_runs.step (S' := (mj_m_39, 19, [(0, .ref 0), (1, .int a)], [], mj_h0)) (mj_one_ifT mj_d_39_1 rfl (mj_cT_lt (rfl : (a).toInt = (a).toInt) (show ((0 : Int32)).toInt = 0 by decide) (by omega))) ?_
        refine mj_runs.step (S' := (mj_m_39, 20, [(0, .ref 0), (1, .int a)], [.int (0 : Int32)], mj_h0)) (mj_one_of mj_d_39_19 fun _ _ => rfl) ?_
        exact mj_runs.ret (mj_ret_of mj_d_39_20 fun _ _ => rfl)
      show mj_runs (mj_m_38, 5, [(0, .ref 0), (1, .int a), (2, .int b)], [.int (0 : Int32)], mj_h0) _ _
      refine mj_runs.step (S' := (mj_m_38, 8, [(0, .ref 0), (1, .int a), (2, .int b)], [], mj_h0)) (mj_one_of mj_d_38_5 fun _ _ => rfl) ?_
      refine mj_runs.step (S' := (mj_m_38, 10, [(0, .ref 0), (1, .int a), (2, .int b)], [.int (Int32.ofInt (-1000000001))], mj_h0)) (mj_one_of mj_d_38_8 fun _ _ => rfl) ?_
      exact mj_runs.ret (mj_ret_of mj_d_38_10 fun _ _ => rfl)
    · refine mj_runs.step (S' := (mj_m_139, 1, [(0, .ref 234), (1, .int a), (2, .int b)], [.ref 234], mj_h0)) (mj_one_of mj_d_139_0 fun _ _ => rfl) ?_
      refine mj_runs.step (S' := (mj_m_139, 2, [(0, .ref 234), (1, .int a), (2, .int b)], [.int a, .ref 234], mj_h0)) (mj_one_of mj_d_139_1 fun _ _ => rfl) ?_
      refine mj_runs.call (S1 := (mj_m_140, 0, [(0, .ref 234), (1, .int a)], [], mj_h0)) (r1 := (some (.int (0 : Int32)))) (h1 := mj_h0) (mj_calls_v mj_d_139_2 rfl rfl rfl rfl rfl rfl ⟨Nat.le_of_ble_eq_true rfl, ⟨Nat.le_of_ble_eq_true rfl, Nat.le_of_ble_eq_true rfl, Nat.le_of_ble_eq_true rfl, Nat.le_of_ble_eq_true rfl, Nat.le_of_ble_eq_true rfl⟩⟩) ?_ ?_
      · refine mj_runs.step (S' := (mj_m_140, 1, [(0, .ref 234), (1, .int a)], [.int a], mj_h0)) (mj_one_of mj_d_140_0 fun _ _ => rfl) ?_
        refine mj_runs.step (S' := (mj_m_140, 2, [(0, .ref 234), (1, .int a)], [.long (a).toInt64], mj_h0)) (mj_one_of mj_d_140_1 fun _ _ => rfl) ?_
        refine mj_runs.step (S' := (mj_m_140, 3, [(0, .ref 234), (1, .int a)], [.long (0 : Int64), .long (a).toInt64], mj_h0)) (mj_one_of mj_d_140_2 fun _ _ => rfl) ?_
        refine mj_runs.step (S' := (mj_m_140, 4, [(0, .ref 234), (1, .int a)], [.ref 234, .long (0 : Int64), .long (a).toInt64], mj_h0)) (mj_one_of mj_d_140_3 fun _ _ => rfl) ?_
        refine mj_runs.step (S' := (mj_m_140, 7, [(0, .ref 234), (1, .int a)], [.int (0 : Int32), .long (0 : Int64), .long (a).toInt64], mj_h0)) (mj_one_of mj_d_140_4 fun _ _ => rfl) ?_
        refine mj_runs.step (S' := (mj_m_140, 8, [(0, .ref 234), (1, .int a)], [.int (1 : Int32), .int (0 : Int32), .long (0 : Int64), .long (a).toInt64], mj_h0)) (mj_one_of mj_d_140_7 fun _ _ => rfl) ?_
        refine mj_runs.step (S' := (mj_m_140, 9, [(0, .ref 234), (1, .int a)], [.int (Int32.ofInt (-1)), .long (0 : Int64), .long (a).toInt64], mj_h0)) (mj_one_of mj_d_140_8 fun _ _ => rfl) ?_
        refine mj_runs.step (S' := (mj_m_140, 10, [(0, .ref 234), (1, .int a)], [.long (Int64.ofInt (-1)), .long (0 : Int64), .long (a).toInt64], mj_h0)) (mj_one_of mj_d_140_9 fun _ _ => rfl) ?_
        refine mj_runs.call (S1 := (mj_m_125, 0, [(0, .long (a).toInt64), (2, .long (0 : Int64)), (4, .long (Int64.ofInt (-1)))], [], mj_h0)) (r1 := (some (.int (0 : Int32)))) (h1 := mj_h0) (mj_calls_s mj_d_140_10 rfl rfl rfl rfl ⟨Nat.le_of_ble_eq_true rfl, Nat.le_of_ble_eq_true rfl, Nat.le_of_ble_eq_true rfl, Nat.le_of_ble_eq_true rfl, Nat.le_of_ble_eq_true rfl⟩) ?_ ?_
        · refine mj_runs.step (S' := (mj_m_125, 1, [(0, .long (a).toInt64), (2, .long (0 : Int64)), (4, .long (Int64.ofInt (-1)))], [.long (a).toInt64], mj_h0)) (mj_one_of mj_d_125_0 fun _ _ => rfl) ?_
          refine mj_runs.step (S' := (mj_m_125, 2, [(0, .long (a).toInt64), (2, .long (0 : Int64)), (4, .long (Int64.ofInt (-1)))], [.long (0 : Int64), .long (a).toInt64], mj_h0)) (mj_one_of mj_d_125_1 fun _ _ => rfl) ?_
          refine mj_runs.step (S' := (mj_m_125, 3, [(0, .long (a).toInt64), (2, .long (0 : Int64)), (4, .long (Int64.ofInt (-1)))], [.int (lg_cmp (a).toInt64 (0 : Int64))], mj_h0)) (mj_one_of mj_d_125_2 fun _ _ => rfl) ?_
          refine mj_runs.step (S' := (mj_m_125, 17, [(0, .long (a).toInt64), (2, .long (0 : Int64)), (4, .long (Int64.ofInt (-1)))], [], mj_h0)) (mj_one_ifT mj_d_125_3 rfl (mj_lgT_lt (mj_l32 a) (show ((0 : Int64)).toInt = 0 by decide) (by omega))) ?_
          refine mj_runs.step (S' := (mj_m_125, 18, [(0, .long (a).toInt64), (2, .long (0 : Int64)), (4, .long (Int64.ofInt (-1)))], [.int (0 : Int32)], mj_h0)) (mj_one_of mj_d_125_17 fun _ _ => rfl) ?_
          exact mj_runs.ret (mj_ret_of mj_d_125_18 fun _ _ => rfl)
        show mj_runs (mj_m_140, 13, [(0, .ref 234), (1, .int a)], [.int (0 : Int32)], mj_h0) _ _
        exact mj_runs.ret (mj_ret_of mj_d_140_13 fun _ _ => rfl)
      show mj_runs (mj_m_139, 5, [(0, .ref 234), (1, .int a), (2, .int b)], [.int (0 : Int32)], mj_h0) _ _
      refine mj_runs.step (S' := (mj_m_139, 8, [(0, .ref 234), (1, .int a), (2, .int b)], [], mj_h0)) (mj_one_of mj_d_139_5 fun _ _ => rfl) ?_
      refine mj_runs.step (S' := (mj_m_139, 10, [(0, .ref 234), (1, .int a), (2, .int b)], [.int (Int32.ofInt (-1000000001))], mj_h0)) (mj_one_of mj_d_139_8 fun _ _ => rfl) ?_
      exact mj_runs.ret (mj_ret_of mj_d_139_10 fun _ _ => rfl)
    · exact mj_sz0
  · refine ⟨(Int32.ofInt (-1000000001)), mj_h0, mj_h0, ?_, ?_, ?_⟩
    · refine mj_runs.step (S' := (mj_m_38, 1, [(0, .ref 0), (1, .int a), (2, .int b)], [.ref 0], mj_h0)) (mj_one_of mj_d_38_0 fun _ _ => rfl) ?_
      refine mj_runs.step (S' := (mj_m_38, 2, [(0, .ref 0), (1, .int a), (2, .int b)], [.int a, .ref 0], mj_h0)) (mj_one_of mj_d_38_1 fun _ _ => rfl) ?_
      refine mj_runs.call (S1 := (mj_m_39, 0, [(0, .ref 0), (1, .int a)], [], mj_h0)) (r1 := (some (.int (0 : Int32)))) (h1 := mj_h0) (mj_calls_v mj_d_38_2 rfl rfl rfl rfl rfl rfl ⟨Nat.le_of_ble_eq_true rfl, ⟨Nat.le_of_ble_eq_true rfl, Nat.le_of_ble_eq_true rfl, Nat.le_of_ble_eq_true rfl, Nat.le_of_ble_eq_true rfl, Nat.le_of_ble_eq_true rfl⟩⟩) ?_ ?_
      · refine mj_runs.step (S' := (mj_m_39, 1, [(0, .ref 0), (1, .int a)], [.int a], mj_h0)) (mj_one_of mj_d_39_0 fun _ _ => rfl) ?_
        refine mj_runs.step (S' := (mj_m_39, 4, [(0, .ref 0), (1, .int a)], [], mj_h0)) (mj_one_ifF mj_d_39_1 (t := 19) rfl (mj_cF_lt (rfl : (a).toInt = (a).toInt) (show ((0 : Int32)).toInt = 0 by decide) (by omega))) ?_
        refine mj_runs.step (S' := (mj_m_39, 5, [(0, .ref 0), (1, .int a)], [.int a], mj_h0)) (mj_one_of mj_d_39_4 fun _ _ => rfl) ?_
        refine mj_runs.step (S' := (mj_m_39, 6, [(0, .ref 0), (1, .int a)], [.ref 0, .int a], mj_h0)) (mj_one_of mj_d_39_5 fun _ _ => rfl) ?_
        refine mj_runs.step (S' := (mj_m_39, 9, [(0, .ref 0), (1, .int a)], [.ref 8, .int a], mj_h0)) (mj_one_of mj_d_39_6 fun _ _ => rfl) ?_
        refine mj_runs.step (S' := (mj_m_39, 12, [(0, .ref 0), (1, .int a)], [.int (0 : Int32), .int a], mj_h0)) (mj_one_of mj_d_39_9 fun _ _ => rfl) ?_
        refine mj_runs.step (S' := (mj_m_39, 19, [(0, .ref 0), (1, .int a)], [], mj_h0)) (mj_one_icmpT mj_d_39_12 rfl (mj_cT_ge (rfl : (a).toInt = (a).toInt) (show ((0 : Int32)).toInt = 0 by decide) (by omega))) ?_
        refine mj_runs.step (S' := (mj_m_39, 20, [(0, .ref 0), (1, .int a)], [.int (0 : Int32)], mj_h0)) (mj_one_of mj_d_39_19 fun _ _ => rfl) ?_
        exact mj_runs.ret (mj_ret_of mj_d_39_20 fun _ _ => rfl)
      show mj_runs (mj_m_38, 5, [(0, .ref 0), (1, .int a), (2, .int b)], [.int (0 : Int32)], mj_h0) _ _
      refine mj_runs.step (S' := (mj_m_38, 8, [(0, .ref 0), (1, .int a), (2, .int b)], [], mj_h0)) (mj_one_of mj_d_38_5 fun _ _ => rfl) ?_
      refine mj_runs.step (S' := (mj_m_38, 10, [(0, .ref 0), (1, .int a), (2, .int b)], [.int (Int32.ofInt (-1000000001))], mj_h0)) (mj_one_of mj_d_38_8 fun _ _ => rfl) ?_
      exact mj_runs.ret (mj_ret_of mj_d_38_10 fun _ _ => rfl)
    · refine mj_runs.step (S' := (mj_m_139, 1, [(0, .ref 234), (1, .int a), (2, .int b)], [.ref 234], mj_h0)) (mj_one_of mj_d_139_0 fun _ _ => rfl) ?_
      refine mj_runs.step (S' := (mj_m_139, 2, [(0, .ref 234), (1, .int a), (2, .int b)], [.int a, .ref 234], mj_h0)) (mj_one_of mj_d_139_1 fun _ _ => rfl) ?_
      refine mj_runs.call (S1 := (mj_m_140, 0, [(0, .ref 234), (1, .int a)], [], mj_h0)) (r1 := (some (.int (0 : Int32)))) (h1 := mj_h0) (mj_calls_v mj_d_139_2 rfl rfl rfl rfl rfl rfl ⟨Nat.le_of_ble_eq_true rfl, ⟨Nat.le_of_ble_eq_true rfl, Nat.le_of_ble_eq_true rfl, Nat.le_of_ble_eq_true rfl, Nat.le_of_ble_eq_true rfl, Nat.le_of_ble_eq_true rfl⟩⟩) ?_ ?_
      · refine mj_runs.step (S' := (mj_m_140, 1, [(0, .ref 234), (1, .int a)], [.int a], mj_h0)) (mj_one_of mj_d_140_0 fun _ _ => rfl) ?_
        refine mj_runs.step (S' := (mj_m_140, 2, [(0, .ref 234), (1, .int a)], [.long (a).toInt64], mj_h0)) (mj_one_of mj_d_140_1 fun _ _ => rfl) ?_
        refine mj_runs.step (S' := (mj_m_140, 3, [(0, .ref 234), (1, .int a)], [.long (0 : Int64), .long (a).toInt64], mj_h0)) (mj_one_of mj_d_140_2 fun _ _ => rfl) ?_
        refine mj_runs.step (S' := (mj_m_140, 4, [(0, .ref 234), (1, .int a)], [.ref 234, .long (0 : Int64), .long (a).toInt64], mj_h0)) (mj_one_of mj_d_140_3 fun _ _ => rfl) ?_
        refine mj_runs.step (S' := (mj_m_140, 7, [(0, .ref 234), (1, .int a)], [.int (0 : Int32), .long (0 : Int64), .long (a).toInt64], mj_h0)) (mj_one_of mj_d_140_4 fun _ _ => rfl) ?_
        refine mj_runs.step (S' := (mj_m_140, 8, [(0, .ref 234), (1, .int a)], [.int (1 : Int32), .int (0 : Int32), .long (0 : Int64), .long (a).toInt64], mj_h0)) (mj_one_of mj_d_140_7 fun _ _ => rfl) ?_
        refine mj_runs.step (S' := (mj_m_140, 9, [(0, .ref 234), (1, .int a)], [.int (Int32.ofInt (-1)), .long (0 : Int64), .long (a).toInt64], mj_h0)) (mj_one_of mj_d_140_8 fun _ _ => rfl) ?_
        refine mj_runs.step (S' := (mj_m_140, 10, [(0, .ref 234), (1, .int a)], [.long (Int64.ofInt (-1)), .long (0 : Int64), .long (a).toInt64], mj_h0)) (mj_one_of mj_d_140_9 fun _ _ => rfl) ?_
        refine mj_runs.call (S1 := (mj_m_125, 0, [(0, .long (a).toInt64), (2, .long (0 : Int64)), (4, .long (Int64.ofInt (-1)))], [], mj_h0)) (r1 := (some (.int (0 : Int32)))) (h1 := mj_h0) (mj_calls_s mj_d_140_10 rfl rfl rfl rfl ⟨Nat.le_of_ble_eq_true rfl, Nat.le_of_ble_eq_true rfl, Nat.le_of_ble_eq_true rfl, Nat.le_of_ble_eq_true rfl, Nat.le_of_ble_eq_true rfl⟩) ?_ ?_
        · refine mj_runs.step (S' := (mj_m_125, 1, [(0, .long (a).toInt64), (2, .long (0 : Int64)), (4, .long (Int64.ofInt (-1)))], [.long (a).toInt64], mj_h0)) (mj_one_of mj_d_125_0 fun _ _ => rfl) ?_
          refine mj_runs.step (S' := (mj_m_125, 2, [(0, .long (a).toInt64), (2, .long (0 : Int64)), (4, .long (Int64.ofInt (-1)))], [.long (0 : Int64), .long (a).toInt64], mj_h0)) (mj_one_of mj_d_125_1 fun _ _ => rfl) ?_
          refine mj_runs.step (S' := (mj_m_125, 3, [(0, .long (a).toInt64), (2, .long (0 : Int64)), (4, .long (Int64.ofInt (-1)))], [.int (lg_cmp (a).toInt64 (0 : Int64))], mj_h0)) (mj_one_of mj_d_125_2 fun _ _ => rfl) ?_
          refine mj_runs.step (S' := (mj_m_125, 6, [(0, .long (a).toInt64), (2, .long (0 : Int64)), (4, .long (Int64.ofInt (-1)))], [], mj_h0)) (mj_one_ifF mj_d_125_3 (t := 17) rfl (mj_lgF_lt (mj_l32 a) (show ((0 : Int64)).toInt = 0 by decide) (by omega))) ?_
          refine mj_runs.step (S' := (mj_m_125, 7, [(0, .long (a).toInt64), (2, .long (0 : Int64)), (4, .long (Int64.ofInt (-1)))], [.long (a).toInt64], mj_h0)) (mj_one_of mj_d_125_6 fun _ _ => rfl) ?_
          refine mj_runs.step (S' := (mj_m_125, 9, [(0, .long (a).toInt64), (2, .long (0 : Int64)), (4, .long (Int64.ofInt (-1)))], [.long (Int64.ofInt (-1)), .long (a).toInt64], mj_h0)) (mj_one_of mj_d_125_7 fun _ _ => rfl) ?_
          refine mj_runs.step (S' := (mj_m_125, 10, [(0, .long (a).toInt64), (2, .long (0 : Int64)), (4, .long (Int64.ofInt (-1)))], [.int (lg_cmp (a).toInt64 (Int64.ofInt (-1)))], mj_h0)) (mj_one_of mj_d_125_9 fun _ _ => rfl) ?_
          refine mj_runs.step (S' := (mj_m_125, 17, [(0, .long (a).toInt64), (2, .long (0 : Int64)), (4, .long (Int64.ofInt (-1)))], [], mj_h0)) (mj_one_ifT mj_d_125_10 rfl (mj_lgT_gt (mj_l32 a) (show ((Int64.ofInt (-1))).toInt = -1 by decide) (by omega))) ?_
          refine mj_runs.step (S' := (mj_m_125, 18, [(0, .long (a).toInt64), (2, .long (0 : Int64)), (4, .long (Int64.ofInt (-1)))], [.int (0 : Int32)], mj_h0)) (mj_one_of mj_d_125_17 fun _ _ => rfl) ?_
          exact mj_runs.ret (mj_ret_of mj_d_125_18 fun _ _ => rfl)
        show mj_runs (mj_m_140, 13, [(0, .ref 234), (1, .int a)], [.int (0 : Int32)], mj_h0) _ _
        exact mj_runs.ret (mj_ret_of mj_d_140_13 fun _ _ => rfl)
      show mj_runs (mj_m_139, 5, [(0, .ref 234), (1, .int a), (2, .int b)], [.int (0 : Int32)], mj_h0) _ _
      refine mj_runs.step (S' := (mj_m_139, 8, [(0, .ref 234), (1, .int a), (2, .int b)], [], mj_h0)) (mj_one_of mj_d_139_5 fun _ _ => rfl) ?_
      refine mj_runs.step (S' := (mj_m_139, 10, [(0, .ref 234), (1, .int a), (2, .int b)], [.int (Int32.ofInt (-1000000001))], mj_h0)) (mj_one_of mj_d_139_8 fun _ _ => rfl) ?_
      exact mj_runs.ret (mj_ret_of mj_d_139_10 fun _ _ => rfl)
    · exact mj_sz0
set_option maxRecDepth 1000000 in
set_option maxHeartbeats 4000000 in
theorem mj_op_layer (a b : Int32) : ∃ (r : Int32) (h1 h2 : mj_H), mj_runs (mj_m_41, 0, [(0, .ref 0), (1, .int a), (2, .int b)], [], mj_h0) (some (.int r)) h1 ∧ mj_runs (mj_m_142, 0, [(0, .ref 234), (1, .int a), (2, .int b)], [], h1) (some (.int r)) h2 ∧ mj_sz h2 := by
  by_cases c0 : a.toInt < 0
  · refine ⟨(Int32.ofInt (-1000000001)), mj_h0, mj_h0, ?_, ?_, ?_⟩
    · refine mj_runs.step (S' := (mj_m_41, 1, [(0, .ref 0), (1, .int a), (2, .int b)], [.ref 0], mj_h0)) (mj_one_of mj_d_41_0 fun _ _ => rfl) ?_
      refine mj_runs.step (S' := (mj_m_41, 2, [(0, .ref 0), (1, .int a), (2, .int b)], [.int a, .ref 0], mj_h0)) (mj_one_of mj_d_41_1 fun _ _ => rfl) ?_
      refine mj_runs.call (S1 := (mj_m_39, 0, [(0, .ref 0), (1, .int a)], [], mj_h0)) (r1 := (some (.int (0 : Int32)))) (h1 := mj_h0) (mj_calls_v mj_d_41_2 rfl rfl rfl rfl rfl rfl ⟨Nat.le_of_ble_eq_true rfl, ⟨Nat.le_of_ble_eq_true rfl, Nat.le_of_ble_eq_true rfl, Nat.le_of_ble_eq_true rfl, Nat.le_of_ble_eq_true rfl, Nat.le_of_ble_eq_true rfl⟩⟩) ?_ ?_
      · refine mj_runs.step (S' := (mj_m_39, 1, [(0, .ref 0), (1, .int a)], [.int a], mj_h0)) (mj_one_of mj_d_39_0 fun _ _ => rfl) ?_
        refine mj_runs.step (S' := (mj_m_39, 19, [(0, .ref 0), (1, .int a)], [], mj_h0)) (mj_one_ifT mj_d_39_1 rfl (mj_cT_lt (rfl : (a).toInt = (a).toInt) (show ((0 : Int32)).toInt = 0 by decide) (by omega))) ?_
        refine mj_runs.step (S' := (mj_m_39, 20, [(0, .ref 0), (1, .int a)], [.int (0 : Int32)], mj_h0)) (mj_one_of mj_d_39_19 fun _ _ => rfl) ?_
        exact mj_runs.ret (mj_ret_of mj_d_39_20 fun _ _ => rfl)
      show mj_runs (mj_m_41, 5, [(0, .ref 0), (1, .int a), (2, .int b)], [.int (0 : Int32)], mj_h0) _ _
      refine mj_runs.step (S' := (mj_m_41, 8, [(0, .ref 0), (1, .int a), (2, .int b)], [], mj_h0)) (mj_one_of mj_d_41_5 fun _ _ => rfl) ?_
      refine mj_runs.step (S' := (mj_m_41, 10, [(0, .ref 0), (1, .int a), (2, .int b)], [.int (Int32.ofInt (-1000000001))], mj_h0)) (mj_one_of mj_d_41_8 fun _ _ => rfl) ?_
      exact mj_runs.ret (mj_ret_of mj_d_41_10 fun _ _ => rfl)
    · refine mj_runs.step (S' := (mj_m_142, 1, [(0, .ref 234), (1, .int a), (2, .int b)], [.ref 234], mj_h0)) (mj_one_of mj_d_142_0 fun _ _ => rfl) ?_
      refine mj_runs.step (S' := (mj_m_142, 2, [(0, .ref 234), (1, .int a), (2, .int b)], [.int a, .ref 234], mj_h0)) (mj_one_of mj_d_142_1 fun _ _ => rfl) ?_
      refine mj_runs.call (S1 := (mj_m_140, 0, [(0, .ref 234), (1, .int a)], [], mj_h0)) (r1 := (some (.int (0 : Int32)))) (h1 := mj_h0) (mj_calls_v mj_d_142_2 rfl rfl rfl rfl rfl rfl ⟨Nat.le_of_ble_eq_true rfl, ⟨Nat.le_of_ble_eq_true rfl, Nat.le_of_ble_eq_true rfl, Nat.le_of_ble_eq_true rfl, Nat.le_of_ble_eq_true rfl, Nat.le_of_ble_eq_true rfl⟩⟩) ?_ ?_
      · refine mj_runs.step (S' := (mj_m_140, 1, [(0, .ref 234), (1, .int a)], [.int a], mj_h0)) (mj_one_of mj_d_140_0 fun _ _ => rfl) ?_
        refine mj_runs.step (S' := (mj_m_140, 2, [(0, .ref 234), (1, .int a)], [.long (a).toInt64], mj_h0)) (mj_one_of mj_d_140_1 fun _ _ => rfl) ?_
        refine mj_runs.step (S' := (mj_m_140, 3, [(0, .ref 234), (1, .int a)], [.long (0 : Int64), .long (a).toInt64], mj_h0)) (mj_one_of mj_d_140_2 fun _ _ => rfl) ?_
        refine mj_runs.step (S' := (mj_m_140, 4, [(0, .ref 234), (1, .int a)], [.ref 234, .long (0 : Int64), .long (a).toInt64], mj_h0)) (mj_one_of mj_d_140_3 fun _ _ => rfl) ?_
        refine mj_runs.step (S' := (mj_m_140, 7, [(0, .ref 234), (1, .int a)], [.int (0 : Int32), .long (0 : Int64), .long (a).toInt64], mj_h0)) (mj_one_of mj_d_140_4 fun _ _ => rfl) ?_
        refine mj_runs.step (S' := (mj_m_140, 8, [(0, .ref 234), (1, .int a)], [.int (1 : Int32), .int (0 : Int32), .long (0 : Int64), .long (a).toInt64], mj_h0)) (mj_one_of mj_d_140_7 fun _ _ => rfl) ?_
        refine mj_runs.step (S' := (mj_m_140, 9, [(0, .ref 234), (1, .int a)], [.int (Int32.ofInt (-1)), .long (0 : Int64), .long (a).toInt64], mj_h0)) (mj_one_of mj_d_140_8 fun _ _ => rfl) ?_
        refine mj_runs.step (S' := (mj_m_140, 10, [(0, .ref 234), (1, .int a)], [.long (Int64.ofInt (-1)), .long (0 : Int64), .long (a).toInt64], mj_h0)) (mj_one_of mj_d_140_9 fun _ _ => rfl) ?_
        refine mj_runs.call (S1 := (mj_m_125, 0, [(0, .long (a).toInt64), (2, .long (0 : Int64)), (4, .long (Int64.ofInt (-1)))], [], mj_h0)) (r1 := (some (.int (0 : Int32)))) (h1 := mj_h0) (mj_calls_s mj_d_140_10 rfl rfl rfl rfl ⟨Nat.le_of_ble_eq_true rfl, Nat.le_of_ble_eq_true rfl, Nat.le_of_ble_eq_true rfl, Nat.le_of_ble_eq_true rfl, Nat.le_of_ble_eq_true rfl⟩) ?_ ?_
        · refine mj_runs.step (S' := (mj_m_125, 1, [(0, .long (a).toInt64), (2, .long (0 : Int64)), (4, .long (Int64.ofInt (-1)))], [.long (a).toInt64], mj_h0)) (mj_one_of mj_d_125_0 fun _ _ => rfl) ?_
          refine mj_runs.step (S' := (mj_m_125, 2, [(0, .long (a).toInt64), (2, .long (0 : Int64)), (4, .long (Int64.ofInt (-1)))], [.long (0 : Int64), .long (a).toInt64], mj_h0)) (mj_one_of mj_d_125_1 fun _ _ => rfl) ?_
          refine mj_runs.step (S' := (mj_m_125, 3, [(0, .long (a).toInt64), (2, .long (0 : Int64)), (4, .long (Int64.ofInt (-1)))], [.int (lg_cmp (a).toInt64 (0 : Int64))], mj_h0)) (mj_one_of mj_d_125_2 fun _ _ => rfl) ?_
          refine mj_runs.step (S' := (mj_m_125, 17, [(0, .long (a).toInt64), (2, .long (0 : Int64)), (4, .long (Int64.ofInt (-1)))], [], mj_h0)) (mj_one_ifT mj_d_125_3 rfl (mj_lgT_lt (mj_l32 a) (show ((0 : Int64)).toInt = 0 by decide) (by omega))) ?_
          refine mj_runs.step (S' := (mj_m_125, 18, [(0, .long (a).toInt64), (2, .long (0 : Int64)), (4, .long (Int64.ofInt (-1)))], [.int (0 : Int32)], mj_h0)) (mj_one_of mj_d_125_17 fun _ _ => rfl) ?_
          exact mj_runs.ret (mj_ret_of mj_d_125_18 fun _ _ => rfl)
        show mj_runs (mj_m_140, 13, [(0, .ref 234), (1, .int a)], [.int (0 : Int32)], mj_h0) _ _
        exact mj_runs.ret (mj_ret_of mj_d_140_13 fun _ _ => rfl)
      show mj_runs (mj_m_142, 5, [(0, .ref 234), (1, .int a), (2, .int b)], [.int (0 : Int32)], mj_h0) _ _
      refine mj_runs.step (S' := (mj_m_142, 8, [(0, .ref 234), (1, .int a), (2, .int b)], [], mj_h0)) (mj_one_of mj_d_142_5 fun _ _ => rfl) ?_
      refine mj_runs.step (S' := (mj_m_142, 10, [(0, .ref 234), (1, .int a), (2, .int b)], [.int (Int32.ofInt (-1000000001))], mj_h0)) (mj_one_of mj_d_142_8 fun _ _ => rfl) ?_
      exact mj_runs.ret (mj_ret_of mj_d_142_10 fun _ _ => rfl)
    · exact mj_sz0
  · refine ⟨(Int32.ofInt (-1000000001)), mj_h0, mj_h0, ?_, ?_, ?_⟩
    · refine mj_runs.step (S' := (mj_m_41, 1, [(0, .ref 0), (1, .int a), (2, .int b)], [.ref 0], mj_h0)) (mj_one_of mj_d_41_0 fun _ _ => rfl) ?_
      refine mj_runs.step (S' := (mj_m_41, 2, [(0, .ref 0), (1, .int a), (2, .int b)], [.int a, .ref 0], mj_h0)) (mj_one_of mj_d_41_1 fun _ _ => rfl) ?_
      refine mj_runs.call (S1 := (mj_m_39, 0, [(0, .ref 0), (1, .int a)], [], mj_h0)) (r1 := (some (.int (0 : Int32)))) (h1 := mj_h0) (mj_calls_v mj_d_41_2 rfl rfl rfl rfl rfl rfl ⟨Nat.le_of_ble_eq_true rfl, ⟨Nat.le_of_ble_eq_true rfl, Nat.le_of_ble_eq_true rfl, Nat.le_of_ble_eq_true rfl, Nat.le_of_ble_eq_true rfl, Nat.le_of_ble_eq_true rfl⟩⟩) ?_ ?_
      · refine mj_runs.step (S' := (mj_m_39, 1, [(0, .ref 0), (1, .int a)], [.int a], mj_h0)) (mj_one_of mj_d_39_0 fun _ _ => rfl) ?_
        refine mj_runs.step (S' := (mj_m_39, 4, [(0, .ref 0), (1, .int a)], [], mj_h0)) (mj_one_ifF mj_d_39_1 (t := 19) rfl (mj_cF_lt (rfl : (a).toInt = (a).toInt) (show ((0 : Int32)).toInt = 0 by decide) (by omega))) ?_
        refine mj_runs.step (S' := (mj_m_39, 5, [(0, .ref 0), (1, .int a)], [.int a], mj_h0)) (mj_one_of mj_d_39_4 fun _ _ => rfl) ?_
        refine mj_runs.step (S' := (mj_m_39, 6, [(0, .ref 0), (1, .int a)], [.ref 0, .int a], mj_h0)) (mj_one_of mj_d_39_5 fun _ _ => rfl) ?_
        refine mj_runs.step (S' := (mj_m_39, 9, [(0, .ref 0), (1, .int a)], [.ref 8, .int a], mj_h0)) (mj_one_of mj_d_39_6 fun _ _ => rfl) ?_
        refine mj_runs.step (S' := (mj_m_39, 12, [(0, .ref 0), (1, .int a)], [.int (0 : Int32), .int a], mj_h0)) (mj_one_of mj_d_39_9 fun _ _ => rfl) ?_
        refine mj_runs.step (S' := (mj_m_39, 19, [(0, .ref 0), (1, .int a)], [], mj_h0)) (mj_one_icmpT mj_d_39_12 rfl (mj_cT_ge (rfl : (a).toInt = (a).toInt) (show ((0 : Int32)).toInt = 0 by decide) (by omega))) ?_
        refine mj_runs.step (S' := (mj_m_39, 20, [(0, .ref 0), (1, .int a)], [.int (0 : Int32)], mj_h0)) (mj_one_of mj_d_39_19 fun _ _ => rfl) ?_
        exact mj_runs.ret (mj_ret_of mj_d_39_20 fun _ _ => rfl)
      show mj_runs (mj_m_41, 5, [(0, .ref 0), (1, .int a), (2, .int b)], [.int (0 : Int32)], mj_h0) _ _
      refine mj_runs.step (S' := (mj_m_41, 8, [(0, .ref 0), (1, .int a), (2, .int b)], [], mj_h0)) (mj_one_of mj_d_41_5 fun _ _ => rfl) ?_
      refine mj_runs.step (S' := (mj_m_41, 10, [(0, .ref 0), (1, .int a), (2, .int b)], [.int (Int32.ofInt (-1000000001))], mj_h0)) (mj_one_of mj_d_41_8 fun _ _ => rfl) ?_
      exact mj_runs.ret (mj_ret_of mj_d_41_10 fun _ _ => rfl)
    · refine mj_runs.step (S' := (mj_m_142, 1, [(0, .ref 234), (1, .int a), (2, .int b)], [.ref 234], mj_h0)) (mj_one_of mj_d_142_0 fun _ _ => rfl) ?_
      refine mj_runs.step (S' := (mj_m_142, 2, [(0, .ref 234), (1, .int a), (2, .int b)], [.int a, .ref 234], mj_h0)) (mj_one_of mj_d_142_1 fun _ _ => rfl) ?_
      refine mj_runs.call (S1 := (mj_m_140, 0, [(0, .ref 234), (1, .int a)], [], mj_h0)) (r1 := (some (.int (0 : Int32)))) (h1 := mj_h0) (mj_calls_v mj_d_142_2 rfl rfl rfl rfl rfl rfl ⟨Nat.le_of_ble_eq_true rfl, ⟨Nat.le_of_ble_eq_true rfl, Nat.le_of_ble_eq_true rfl, Nat.le_of_ble_eq_true rfl, Nat.le_of_ble_eq_true rfl, Nat.le_of_ble_eq_true rfl⟩⟩) ?_ ?_
      · refine mj_runs.step (S' := (mj_m_140, 1, [(0, .ref 234), (1, .int a)], [.int a], mj_h0)) (mj_one_of mj_d_140_0 fun _ _ => rfl) ?_
        refine mj_runs.step (S' := (mj_m_140, 2, [(0, .ref 234), (1, .int a)], [.long (a).toInt64], mj_h0)) (mj_one_of mj_d_140_1 fun _ _ => rfl) ?_
        refine mj_runs.step (S' := (mj_m_140, 3, [(0, .ref 234), (1, .int a)], [.long (0 : Int64), .long (a).toInt64], mj_h0)) (mj_one_of mj_d_140_2 fun _ _ => rfl) ?_
        refine mj_runs.step (S' := (mj_m_140, 4, [(0, .ref 234), (1, .int a)], [.ref 234, .long (0 : Int64), .long (a).toInt64], mj_h0)) (mj_one_of mj_d_140_3 fun _ _ => rfl) ?_
        refine mj_runs.step (S' := (mj_m_140, 7, [(0, .ref 234), (1, .int a)], [.int (0 : Int32), .long (0 : Int64), .long (a).toInt64], mj_h0)) (mj_one_of mj_d_140_4 fun _ _ => rfl) ?_
        refine mj_runs.step (S' := (mj_m_140, 8, [(0, .ref 234), (1, .int a)], [.int (1 : Int32), .int (0 : Int32), .long (0 : Int64), .long (a).toInt64], mj_h0)) (mj_one_of mj_d_140_7 fun _ _ => rfl) ?_
        refine mj_runs.step (S' := (mj_m_140, 9, [(0, .ref 234), (1, .int a)], [.int (Int32.ofInt (-1)), .long (0 : Int64), .long (a).toInt64], mj_h0)) (mj_one_of mj_d_140_8 fun _ _ => rfl) ?_
        refine mj_runs.step (S' := (mj_m_140, 10, [(0, .ref 234), (1, .int a)], [.long (Int64.ofInt (-1)), .long (0 : Int64), .long (a).toInt64], mj_h0)) (mj_one_of mj_d_140_9 fun _ _ => rfl) ?_
        refine mj_runs.call (S1 := (mj_m_125, 0, [(0, .long (a).toInt64), (2, .long (0 : Int64)), (4, .long (Int64.ofInt (-1)))], [], mj_h0)) (r1 := (some (.int (0 : Int32)))) (h1 := mj_h0) (mj_calls_s mj_d_140_10 rfl rfl rfl rfl ⟨Nat.le_of_ble_eq_true rfl, Nat.le_of_ble_eq_true rfl, Nat.le_of_ble_eq_true rfl, Nat.le_of_ble_eq_true rfl, Nat.le_of_ble_eq_true rfl⟩) ?_ ?_
        · refine mj_runs.step (S' := (mj_m_125, 1, [(0, .long (a).toInt64), (2, .long (0 : Int64)), (4, .long (Int64.ofInt (-1)))], [.long (a).toInt64], mj_h0)) (mj_one_of mj_d_125_0 fun _ _ => rfl) ?_
          refine mj_runs.step (S' := (mj_m_125, 2, [(0, .long (a).toInt64), (2, .long (0 : Int64)), (4, .long (Int64.ofInt (-1)))], [.long (0 : Int64), .long (a).toInt64], mj_h0)) (mj_one_of mj_d_125_1 fun _ _ => rfl) ?_
          refine mj_runs.step (S' := (mj_m_125, 3, [(0, .long (a).toInt64), (2, .long (0 : Int64)), (4, .long (Int64.ofInt (-1)))], [.int (lg_cmp (a).toInt64 (0 : Int64))], mj_h0)) (mj_one_of mj_d_125_2 fun _ _ => rfl) ?_
          refine mj_runs.step (S' := (mj_m_125, 6, [(0, .long (a).toInt64), (2, .long (0 : Int64)), (4, .long (Int64.ofInt (-1)))], [], mj_h0)) (mj_one_ifF mj_d_125_3 (t := 17) rfl (mj_lgF_lt (mj_l32 a) (show ((0 : Int64)).toInt = 0 by decide) (by omega))) ?_
          refine mj_runs.step (S' := (mj_m_125, 7, [(0, .long (a).toInt64), (2, .long (0 : Int64)), (4, .long (Int64.ofInt (-1)))], [.long (a).toInt64], mj_h0)) (mj_one_of mj_d_125_6 fun _ _ => rfl) ?_
          refine mj_runs.step (S' := (mj_m_125, 9, [(0, .long (a).toInt64), (2, .long (0 : Int64)), (4, .long (Int64.ofInt (-1)))], [.long (Int64.ofInt (-1)), .long (a).toInt64], mj_h0)) (mj_one_of mj_d_125_7 fun _ _ => rfl) ?_
          refine mj_runs.step (S' := (mj_m_125, 10, [(0, .long (a).toInt64), (2, .long (0 : Int64)), (4, .long (Int64.ofInt (-1)))], [.int (lg_cmp (a).toInt64 (Int64.ofInt (-1)))], mj_h0)) (mj_one_of mj_d_125_9 fun _ _ => rfl) ?_
          refine mj_runs.step (S' := (mj_m_125, 17, [(0, .long (a).toInt64), (2, .long (0 : Int64)), (4, .long (Int64.ofInt (-1)))], [], mj_h0)) (mj_one_ifT mj_d_125_10 rfl (mj_lgT_gt (mj_l32 a) (show ((Int64.ofInt (-1))).toInt = -1 by decide) (by omega))) ?_
          refine mj_runs.step (S' := (mj_m_125, 18, [(0, .long (a).toInt64), (2, .long (0 : Int64)), (4, .long (Int64.ofInt (-1)))], [.int (0 : Int32)], mj_h0)) (mj_one_of mj_d_125_17 fun _ _ => rfl) ?_
          exact mj_runs.ret (mj_ret_of mj_d_125_18 fun _ _ => rfl)
        show mj_runs (mj_m_140, 13, [(0, .ref 234), (1, .int a)], [.int (0 : Int32)], mj_h0) _ _
        exact mj_runs.ret (mj_ret_of mj_d_140_13 fun _ _ => rfl)
      show mj_runs (mj_m_142, 5, [(0, .ref 234), (1, .int a), (2, .int b)], [.int (0 : Int32)], mj_h0) _ _
      refine mj_runs.step (S' := (mj_m_142, 8, [(0, .ref 234), (1, .int a), (2, .int b)], [], mj_h0)) (mj_one_of mj_d_142_5 fun _ _ => rfl) ?_
      refine mj_runs.step (S' := (mj_m_142, 10, [(0, .ref 234), (1, .int a), (2, .int b)], [.int (Int32.ofInt (-1000000001))], mj_h0)) (mj_one_of mj_d_142_8 fun _ _ => rfl) ?_
      exact mj_runs.ret (mj_ret_of mj_d_142_10 fun _ _ => rfl)
    · exact mj_sz0
