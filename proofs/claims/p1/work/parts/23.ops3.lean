set_option maxRecDepth 1000000 in
set_option maxHeartbeats 4000000 in
theorem mj_op_flues (a b : Int32) : ∃ (r : Int32) (h1 h2 : mj_H), mj_runs (mj_m_81, 0, [(0, .ref 0), (1, .int a), (2, .int b)], [], mj_h0) (some (.int r)) h1 ∧ mj_runs (mj_m_168, 0, [(0, .ref 234), (1, .int a), (2, .int b)], [], h1) (some (.int r)) h2 ∧ mj_sz h2 := by
  by_cases c0 : a.toInt < 0
  · refine ⟨(Int32.ofInt (-1000000001)), mj_h0, mj_h0, ?_, ?_, ?_⟩
    · refine mj_runs.step (S' := (mj_m_81, 1, [(0, .ref 0), (1, .int a), (2, .int b)], [.ref 0], mj_h0)) (mj_one_of mj_d_81_0 fun _ _ => rfl) ?_
      refine mj_runs.step (S' := (mj_m_81, 2, [(0, .ref 0), (1, .int a), (2, .int b)], [.int a, .ref 0], mj_h0)) (mj_one_of mj_d_81_1 fun _ _ => rfl) ?_
      refine mj_runs.call (S1 := (mj_m_39, 0, [(0, .ref 0), (1, .int a)], [], mj_h0)) (r1 := (some (.int (0 : Int32)))) (h1 := mj_h0) (mj_calls_v mj_d_81_2 rfl rfl rfl rfl rfl rfl ⟨Nat.le_of_ble_eq_true rfl, ⟨Nat.le_of_ble_eq_true rfl, Nat.le_of_ble_eq_true rfl, Nat.le_of_ble_eq_true rfl, Nat.le_of_ble_eq_true rfl, Nat.le_of_ble_eq_true rfl⟩⟩) ?_ ?_
      · refine mj_runs.step (S' := (mj_m_39, 1, [(0, .ref 0), (1, .int a)], [.int a], mj_h0)) (mj_one_of mj_d_39_0 fun _ _ => rfl) ?_
        refine mj_runs.step (S' := (mj_m_39, 19, [(0, .ref 0), (1, .int a)], [], mj_h0)) (mj_one_ifT mj_d_39_1 rfl (mj_cT_lt (rfl : (a).toInt = (a).toInt) (show ((0 : Int32)).toInt = 0 by decide) (by omega))) ?_
        refine mj_runs.step (S' := (mj_m_39, 20, [(0, .ref 0), (1, .int a)], [.int (0 : Int32)], mj_h0)) (mj_one_of mj_d_39_19 fun _ _ => rfl) ?_
        exact mj_runs.ret (mj_ret_of mj_d_39_20 fun _ _ => rfl)
      show mj_runs (mj_m_81, 5, [(0, .ref 0), (1, .int a), (2, .int b)], [.int (0 : Int32)], mj_h0) _ _
      refine mj_runs.step (S' := (mj_m_81, 8, [(0, .ref 0), (1, .int a), (2, .int b)], [], mj_h0)) (mj_one_of mj_d_81_5 fun _ _ => rfl) ?_
      refine mj_runs.step (S' := (mj_m_81, 10, [(0, .ref 0), (1, .int a), (2, .int b)], [.int (Int32.ofInt (-1000000001))], mj_h0)) (mj_one_of mj_d_81_8 fun _ _ => rfl) ?_
      exact mj_runs.ret (mj_ret_of mj_d_81_10 fun _ _ => rfl)
    · refine mj_runs.step (S' := (mj_m_168, 1, [(0, .ref 234), (1, .int a), (2, .int b)], [.ref 234], mj_h0)) (mj_one_of mj_d_168_0 fun _ _ => rfl) ?_
      refine mj_runs.step (S' := (mj_m_168, 2, [(0, .ref 234), (1, .int a), (2, .int b)], [.int a, .ref 234], mj_h0)) (mj_one_of mj_d_168_1 fun _ _ => rfl) ?_
      refine mj_runs.call (S1 := (mj_m_140, 0, [(0, .ref 234), (1, .int a)], [], mj_h0)) (r1 := (some (.int (0 : Int32)))) (h1 := mj_h0) (mj_calls_v mj_d_168_2 rfl rfl rfl rfl rfl rfl ⟨Nat.le_of_ble_eq_true rfl, ⟨Nat.le_of_ble_eq_true rfl, Nat.le_of_ble_eq_true rfl, Nat.le_of_ble_eq_true rfl, Nat.le_of_ble_eq_true rfl, Nat.le_of_ble_eq_true rfl⟩⟩) ?_ ?_
      · refine mj_runs.step (S' := (mj_m_140, 1, [(0, .ref 234), (1, .int a)], [.int a], mj_h0)) (mj_one_of mj_d_140_0 fun _ _ => rfl) ?_
        refine mj_runs.step (S' := (mj_m_140, 2, [(0, .ref 234), (1, .int a)], [.long (a).toInt64], mj_h0)) (mj_one_of mj_d_140_1 fun _ _ => rfl) ?_
        refine mj_runs.step (S' := (mj_m_140, 3, [(0, .ref 234), (1, .int a)], [.long (0 : Int64), .long (a).toInt64], mj_h0)) (mj_one_of mj_d_140_2 fun _ _ => rfl) ?_
        refine mj_runs.step (S' := (mj_m_140, 4, [(0, .ref 234), (1, .int a)], [.ref 234, .long (0 : Int64), .long (a).toInt64], mj_h0)) (mj_one_of mj_d_140_3 fun _ _ => rfl) ?_
        refine mj_runs.step (S' := (mj_m_140, 7, [(0, .ref 234), (1, .int a)], [.int (0 : Int32), .long (0 : Int64), .long (a).toInt64], mj_h0)) (mj_one_of mj_d_140_4 fun _ _ => rfl) ?_
        refine mj_runs.step (S' := (mj_m_140, 8, [(0, .ref 234), (1, .int a)], [.int (1 : Int32), .int (0 : Int32), .long (0 : Int64), .long (a).toInt64], mj_h0)) (mj_one_of mj_d_140_7 fun _ _ => rfl) ?_
        refine mj_runs.step (S' := (mj_m_140, 9, [(0, .ref 234), (1, .int a)], [.int (Int32.ofInt (-1)), .long (0 : Int64), .long (a).toInt64], mj_h0)) (mj_one_of mj_d_140_8 fun _ _ => rfl) ?_
        refine mj_runs.step (S' := (mj_m_140, 10, [(0, .ref 234), (1, .int a)], [.long (Int64.ofInt (-1)), .long (0 : Int64), .long (a).toInt64], mj_h0)) (mj_one_of mj_d_140_9 fun _ _ => rfl) ?_
        refine mj_runs.call (S1 := (mj_m_125, 0, [(0, .long (a).toInt64), (2, .long (0 : Int64)), (4, .long (Int64.ofInt (-1)))], [], mj_h0)) (r1 := (some (.int (0 : Int32)))) (h1 := mj_h0) (mj_calls_s mj_d_140_10 rfl rfl rfl rfl ⟨Nat.le_of_ble_eq_true rfl, Nat.le_of_ble_eq_true rfl, Nat.le_of_ble_eq_true rfl, Nat.le_of_ble_eq_true rfl, Nat.le_of_ble_eq_true rfl⟩) ?_ ?_
        · refine mj_runs.step (S' := (mj_m_125, 1, [(0, .long (a).toInt64), (2, .long (0 : Int64)), (4, .long (Int64.ofInt (-1)))], [.long (a).toInt64], mj_h0)) (mj_one_of mj_d_125_0 fun _ _ => rfl) ?_
          refine mj_runs.step (S' := (mj_m_125, 2, [(0, .long (a).toInt64), (2, .long (0 : Int64)), (4, .long (Int64.ofInt (-1)))], [.long (0 : Int64), .long (a).toInt64], mj_h0)) (mj_one_of mj_d_125_1 fun _ _ => rfl) ?_
          refine mj_runs.step (S' := (mj_m_125, 3, [(0, .long (a).toInt64), (2, .long (0 : Int64)), (4, .long (Int64.ofInt (-1)))], [.int (lg_cmp (a).toInt64 (0 : Int64))], mj_h0)) (mj_one_of mj_d_125_2 fun _ _ => rfl) ?_
          refine mj_runs.step (S' := (mj_m_125, 17, [(0, .long (a).toInt64), (2, .long (0 : Int64)), (4, .long (Int64.ofInt (-1)))], [], mj_h0)) (mj_one_ifT mj_d_125_3 rfl (mj_lgT_lt (mj_l32 a) (show ((0 : Int64)).toInt = 0 by decide) (by omega))) ?_
          refine mj_runs.step (S' := (mj_m_125, 18, [(0, .long (a).toInt64), (2, .long (0 : Int64)), (4, .long (Int64.ofInt (-1)))], [.int (0 : Int32)], mj_h0)) (mj_one_of mj_d_125_17 fun _ _ => rfl) ?_
          exact mj_runs.ret (mj_ret_of mj_d_125_18 fun _ _ => rfl)
        show mj_runs (mj_m_140, 13, [(0, .ref 234), (1, .int a)], [.int (0 : Int32)], mj_h0) _ _
        exact mj_runs.ret (mj_ret_of mj_d_140_13 fun _ _ => rfl)
      show mj_runs (mj_m_168, 5, [(0, .ref 234), (1, .int a), (2, .int b)], [.int (0 : Int32)], mj_h0) _ _
      refine mj_runs.step (S' := (mj_m_168, 8, [(0, .ref 234), (1, .int a), (2, .int b)], [], mj_h0)) (mj_one_of mj_d_168_5 fun _ _ => rfl) ?_
      refine mj_runs.step (S' := (mj_m_168, 10, [(0, .ref 234), (1, .int a), (2, .int b)], [.int (Int32.ofInt (-1000000001))], mj_h0)) (mj_one_of mj_d_168_8 fun _ _ => rfl) ?_
      exact mj_runs.ret (mj_ret_of mj_d_168_10 fun _ _ => rfl)
    · exact mj_sz0
  · refine ⟨(Int32.ofInt (-1000000001)), mj_h0, mj_h0, ?_, ?_, ?_⟩
    · refine mj_runs.step (S' := (mj_m_81, 1, [(0, .ref 0), (1, .int a), (2, .int b)], [.ref 0], mj_h0)) (mj_one_of mj_d_81_0 fun _ _ => rfl) ?_
      refine mj_runs.step (S' := (mj_m_81, 2, [(0, .ref 0), (1, .int a), (2, .int b)], [.int a, .ref 0], mj_h0)) (mj_one_of mj_d_81_1 fun _ _ => rfl) ?_
      refine mj_runs.call (S1 := (mj_m_39, 0, [(0, .ref 0), (1, .int a)], [], mj_h0)) (r1 := (some (.int (0 : Int32)))) (h1 := mj_h0) (mj_calls_v mj_d_81_2 rfl rfl rfl rfl rfl rfl ⟨Nat.le_of_ble_eq_true rfl, ⟨Nat.le_of_ble_eq_true rfl, Nat.le_of_ble_eq_true rfl, Nat.le_of_ble_eq_true rfl, Nat.le_of_ble_eq_true rfl, Nat.le_of_ble_eq_true rfl⟩⟩) ?_ ?_
      · refine mj_runs.step (S' := (mj_m_39, 1, [(0, .ref 0), (1, .int a)], [.int a], mj_h0)) (mj_one_of mj_d_39_0 fun _ _ => rfl) ?_
        refine mj_runs.step (S' := (mj_m_39, 4, [(0, .ref 0), (1, .int a)], [], mj_h0)) (mj_one_ifF mj_d_39_1 (t := 19) rfl (mj_cF_lt (rfl : (a).toInt = (a).toInt) (show ((0 : Int32)).toInt = 0 by decide) (by omega))) ?_
        refine mj_runs.step (S' := (mj_m_39, 5, [(0, .ref 0), (1, .int a)], [.int a], mj_h0)) (mj_one_of mj_d_39_4 fun _ _ => rfl) ?_
        refine mj_runs.step (S' := (mj_m_39, 6, [(0, .ref 0), (1, .int a)], [.ref 0, .int a], mj_h0)) (mj_one_of mj_d_39_5 fun _ _ => rfl) ?_
        refine mj_runs.step (S' := (mj_m_39, 9, [(0, .ref 0), (1, .int a)], [.ref 8, .int a], mj_h0)) (mj_one_of mj_d_39_6 fun _ _ => rfl) ?_
        refine mj_runs.step (S' := (mj_m_39, 12, [(0, .ref 0), (1, .int a)], [.int (0 : Int32), .int a], mj_h0)) (mj_one_of mj_d_39_9 fun _ _ => rfl) ?_
        refine mj_runs.step (S' := (mj_m_39, 19, [(0, .ref 0), (1, .int a)], [], mj_h0)) (mj_one_icmpT mj_d_39_12 rfl (mj_cT_ge (rfl : (a).toInt = (a).toInt) (show ((0 : Int32)).toInt = 0 by decide) (by omega))) ?_
        refine mj_runs.step (S' := (mj_m_39, 20, [(0, .ref 0), (1, .int a)], [.int (0 : Int32)], mj_h0)) (mj_one_of mj_d_39_19 fun _ _ => rfl) ?_
        exact mj_runs.ret (mj_ret_of mj_d_39_20 fun _ _ => rfl)
      show mj_runs (mj_m_81, 5, [(0, .ref 0), (1, .int a), (2, .int b)], [.int (0 : Int32)], mj_h0) _ _
      refine mj_runs.step (S' := (mj_m_81, 8, [(0, .ref 0), (1, .int a), (2, .int b)], [], mj_h0)) (mj_one_of mj_d_81_5 fun _ _ => rfl) ?_
      refine mj_runs.step (S' := (mj_m_81, 10, [(0, .ref 0), (1, .int a), (2, .int b)], [.int (Int32.ofInt (-1000000001))], mj_h0)) (mj_one_of mj_d_81_8 fun _ _ => rfl) ?_
      exact mj_runs.ret (mj_ret_of mj_d_81_10 fun _ _ => rfl)
    · refine mj_runs.step (S' := (mj_m_168, 1, [(0, .ref 234), (1, .int a), (2, .int b)], [.ref 234], mj_h0)) (mj_one_of mj_d_168_0 fun _ _ => rfl) ?_
      refine mj_runs.step (S' := (mj_m_168, 2, [(0, .ref 234), (1, .int a), (2, .int b)], [.int a, .ref 234], mj_h0)) (mj_one_of mj_d_168_1 fun _ _ => rfl) ?_
      refine mj_runs.call (S1 := (mj_m_140, 0, [(0, .ref 234), (1, .int a)], [], mj_h0)) (r1 := (some (.int (0 : Int32)))) (h1 := mj_h0) (mj_calls_v mj_d_168_2 rfl rfl rfl rfl rfl rfl ⟨Nat.le_of_ble_eq_true rfl, ⟨Nat.le_of_ble_eq_true rfl, Nat.le_of_ble_eq_true rfl, Nat.le_of_ble_eq_true rfl, Nat.le_of_ble_eq_true rfl, Nat.le_of_ble_eq_true rfl⟩⟩) ?_ ?_
      · refine mj_runs.step (S' := (mj_m_140, 1, [(0, .ref 234), (1, .int a)], [.int a], mj_h0)) (mj_one_of mj_d_140_0 fun _ _ => rfl) ?_
        refine mj_runs.step (S' := (mj_m_140, 2, [(0, .ref 234), (1, .int a)], [.long (a).toInt64], mj_h0)) (mj_one_of mj_d_140_1 fun _ _ => rfl) ?_
        refine mj_runs.step (S' := (mj_m_140, 3, [(0, .ref 234), (1, .int a)], [.long (0 : Int64), .long (a).toInt64], mj_h0)) (mj_one_of mj_d_140_2 fun _ _ => rfl) ?_
        refine mj_runs.step (S' := (mj_m_140, 4, [(0, .ref 234), (1, .int a)], [.ref 234, .long (0 : Int64), .long (a).toInt64], mj_h0)) (mj_one_of mj_d_140_3 fun _ _ => rfl) ?_
        refine mj_runs.step (S' := (mj_m_140, 7, [(0, .ref 234), (1, .int a)], [.int (0 : Int32), .long (0 : Int64), .long (a).toInt64], mj_h0)) (mj_one_of mj_d_140_4 fun _ _ => rfl) ?_
        refine mj_runs.step (S' := (mj_m_140, 8, [(0, .ref 234), (1, .int a)], [.int (1 : Int32), .int (0 : Int32), .long (0 : Int64), .long (a).toInt64], mj_h0)) (mj_one_of mj_d_140_7 fun _ _ => rfl) ?_
        refine mj_runs.step (S' := (mj_m_140, 9, [(0, .ref 234), (1, .int a)], [.int (Int32.ofInt (-1)), .long (0 : Int64), .long (a).toInt64], mj_h0)) (mj_one_of mj_d_140_8 fun _ _ => rfl) ?_
        refine mj_runs.step (S' := (mj_m_140, 10, [(0, .ref 234), (1, .int a)], [.long (Int64.ofInt (-1)), .long (0 : Int64), .long (a).toInt64], mj_h0)) (mj_one_of mj_d_140_9 fun _ _ => rfl) ?_
        refine mj_runs.call (S1 := (mj_m_125, 0, [(0, .long (a).toInt64), (2, .long (0 : Int64)), (4, .long (Int64.ofInt (-1)))], [], mj_h0)) (r1 := (some (.int (0 : Int32)))) (h1 := mj_h0) (mj_calls_s mj_d_140_10 rfl rfl rfl rfl ⟨Nat.le_of_ble_eq_true rfl, Nat.le_of_ble_eq_true rfl, Nat.le_of_ble_eq_true rfl, Nat.le_of_ble_eq_true rfl, Nat.le_of_ble_eq_true rfl⟩) ?_ ?_
        · refine mj_runs.step (S' := (mj_m_125, 1, [(0, .long (a).toInt64), (2, .long (0 : Int64)), (4, .long (Int64.ofInt (-1)))], [.long (a).toInt64], mj_h0)) (mj_one_of mj_d_125_0 fun _ _ => rfl) ?_
          refine mj_runs.step (S' := (mj_m_125, 2, [(0, .long (a).toInt64), (2, .long (0 : Int64)), (4, .long (Int64.ofInt (-1)))], [.long (0 : Int64), .long (a).toInt64], mj_h0)) (mj_one_of mj_d_125_1 fun _ _ => rfl) ?_
          refine mj_runs.step (S' := (mj_m_125, 3, [(0, .long (a).toInt64), (2, .long (0 : Int64)), (4, .long (Int64.ofInt (-1)))], [.int (lg_cmp (a).toInt64 (0 : Int64))], mj_h0)) (mj_one_of mj_d_125_2 fun _ _ => rfl) ?_
          refine mj_runs.step (S' := (mj_m_125, 6, [(0, .long (a).toInt64), (2, .long (0 : Int64)), (4, .long (Int64.ofInt (-1)))], [], mj_h0)) (mj_one_ifF mj_d_125_3 (t := 17) rfl (mj_lgF_lt (mj_l32 a) (show ((0 : Int64)).toInt = 0 by decide) (by omega))) ?_
          refine mj_runs.step (S' := (mj_m_125, 7, [(0, .long (a).toInt64), (2, .long (0 : Int64)), (4, .long (Int64.ofInt (-1)))], [.long (a).toInt64], mj_h0)) (mj_one_of mj_d_125_6 fun _ _ => rfl) ?_
          refine mj_runs.step (S' := (mj_m_125, 9, [(0, .long (a).toInt64), (2, .long (0 : Int64)), (4, .long (Int64.ofInt (-1)))], [.long (Int64.ofInt (-1)), .long (a).toInt64], mj_h0)) (mj_one_of mj_d_125_7 fun _ _ => rfl) ?_
          refine mj_runs.step (S' := (mj_m_125, 10, [(0, .long (a).toInt64), (2, .long (0 : Int64)), (4, .long (Int64.ofInt (-1)))], [.int (lg_cmp (a).toInt64 (Int64.ofInt (-1)))], mj_h0)) (mj_one_of mj_d_125_9 fun _ _ => rfl) ?_
          refine mj_runs.step (S' := (mj_m_125, 17, [(0, .long (a).toInt64), (2, .long (0 : Int64)), (4, .long (Int64.ofInt (-1)))], [], mj_h0)) (mj_one_ifT mj_d_125_10 rfl (mj_lgT_gt (mj_l32 a) (show ((Int64.ofInt (-1))).toInt = -1 by decide) (by omega))) ?_
          refine mj_runs.step (S' := (mj_m_125, 18, [(0, .long (a).toInt64), (2, .long (0 : Int64)), (4, .long (Int64.ofInt (-1)))], [.int (0 : Int32)], mj_h0)) (mj_one_of mj_d_125_17 fun _ _ => rfl) ?_
          exact mj_runs.ret (mj_ret_of mj_d_125_18 fun _ _ => rfl)
        show mj_runs (mj_m_140, 13, [(0, .ref 234), (1, .int a)], [.int (0 : Int32)], mj_h0) _ _
        exact mj_runs.ret (mj_ret_of mj_d_140_13 fun _ _ => rfl)
      show mj_runs (mj_m_168, 5, [(0, .ref 234), (1, .int a), (2, .int b)], [.int (0 : Int32)], mj_h0) _ _
      refine mj_runs.step (S' := (mj_m_168, 8, [(0, .ref 234), (1, .int a), (2, .int b)], [], mj_h0)) (mj_one_of mj_d_168_5 fun _ _ => rfl) ?_
      refine mj_runs.step (S' := (mj_m_168, 10, [(0, .ref 234), (1, .int a), (2, .int b)], [.int (Int32.ofInt (-1000000001))], mj_h0)) (mj_one_of mj_d_168_8 fun _ _ => rfl) ?_
      exact mj_runs.ret (mj_ret_of mj_d_168_10 fun _ _ => rfl)
    · exact mj_sz0
set_option maxRecDepth 1000000 in
set_option maxHeartbeats 4000000 in
theorem mj_op_trade (a b c : Int32) : ∃ (r : Int32) (h1 h2 : mj_H), mj_runs (mj_m_85, 0, [(0, .ref 0), (1, .int a), (2, .int b), (3, .int c)], [], mj_h0) (some (.int r)) h1 ∧ mj_runs (mj_m_172, 0, [(0, .ref 234), (1, .int a), (2, .int b), (3, .int c)], [], h1) (some (.int r)) h2 ∧ mj_sz h2 := by
  by_cases c0 : a.toInt < 0
  · refine ⟨(Int32.ofInt (-1000000001)), mj_h0, mj_h0, ?_, ?_, ?_⟩
    · refine mj_runs.step (S' := (mj_m_85, 1, [(0, .ref 0), (1, .int a), (2, .int b), (3, .int c)], [.ref 0], mj_h0)) (mj_one_of mj_d_85_0 fun _ _ => rfl) ?_
      refine mj_runs.step (S' := (mj_m_85, 2, [(0, .ref 0), (1, .int a), (2, .int b), (3, .int c)], [.int a, .ref 0], mj_h0)) (mj_one_of mj_d_85_1 fun _ _ => rfl) ?_
      refine mj_runs.call (S1 := (mj_m_44, 0, [(0, .ref 0), (1, .int a)], [], mj_h0)) (r1 := (some (.int (0 : Int32)))) (h1 := mj_h0) (mj_calls_v mj_d_85_2 rfl rfl rfl rfl rfl rfl ⟨Nat.le_of_ble_eq_true rfl, ⟨Nat.le_of_ble_eq_true rfl, Nat.le_of_ble_eq_true rfl, Nat.le_of_ble_eq_true rfl, Nat.le_of_ble_eq_true rfl, Nat.le_of_ble_eq_true rfl⟩⟩) ?_ ?_
      · refine mj_runs.step (S' := (mj_m_44, 1, [(0, .ref 0), (1, .int a)], [.int a], mj_h0)) (mj_one_of mj_d_44_0 fun _ _ => rfl) ?_
        refine mj_runs.step (S' := (mj_m_44, 19, [(0, .ref 0), (1, .int a)], [], mj_h0)) (mj_one_ifT mj_d_44_1 rfl (mj_cT_lt (rfl : (a).toInt = (a).toInt) (show ((0 : Int32)).toInt = 0 by decide) (by omega))) ?_
        refine mj_runs.step (S' := (mj_m_44, 20, [(0, .ref 0), (1, .int a)], [.int (0 : Int32)], mj_h0)) (mj_one_of mj_d_44_19 fun _ _ => rfl) ?_
        exact mj_runs.ret (mj_ret_of mj_d_44_20 fun _ _ => rfl)
      show mj_runs (mj_m_85, 5, [(0, .ref 0), (1, .int a), (2, .int b), (3, .int c)], [.int (0 : Int32)], mj_h0) _ _
      refine mj_runs.step (S' := (mj_m_85, 38, [(0, .ref 0), (1, .int a), (2, .int b), (3, .int c)], [], mj_h0)) (mj_one_of mj_d_85_5 fun _ _ => rfl) ?_
      refine mj_runs.step (S' := (mj_m_85, 40, [(0, .ref 0), (1, .int a), (2, .int b), (3, .int c)], [.int (Int32.ofInt (-1000000001))], mj_h0)) (mj_one_of mj_d_85_38 fun _ _ => rfl) ?_
      exact mj_runs.ret (mj_ret_of mj_d_85_40 fun _ _ => rfl)
    · refine mj_runs.step (S' := (mj_m_172, 1, [(0, .ref 234), (1, .int a), (2, .int b), (3, .int c)], [.ref 234], mj_h0)) (mj_one_of mj_d_172_0 fun _ _ => rfl) ?_
      refine mj_runs.step (S' := (mj_m_172, 2, [(0, .ref 234), (1, .int a), (2, .int b), (3, .int c)], [.int a, .ref 234], mj_h0)) (mj_one_of mj_d_172_1 fun _ _ => rfl) ?_
      refine mj_runs.call (S1 := (mj_m_145, 0, [(0, .ref 234), (1, .int a)], [], mj_h0)) (r1 := (some (.int (0 : Int32)))) (h1 := mj_h0) (mj_calls_v mj_d_172_2 rfl rfl rfl rfl rfl rfl ⟨Nat.le_of_ble_eq_true rfl, ⟨Nat.le_of_ble_eq_true rfl, Nat.le_of_ble_eq_true rfl, Nat.le_of_ble_eq_true rfl, Nat.le_of_ble_eq_true rfl, Nat.le_of_ble_eq_true rfl⟩⟩) ?_ ?_
      · refine mj_runs.step (S' := (mj_m_145, 1, [(0, .ref 234), (1, .int a)], [.int a], mj_h0)) (mj_one_of mj_d_145_0 fun _ _ => rfl) ?_
        refine mj_runs.step (S' := (mj_m_145, 2, [(0, .ref 234), (1, .int a)], [.long (a).toInt64], mj_h0)) (mj_one_of mj_d_145_1 fun _ _ => rfl) ?_
        refine mj_runs.step (S' := (mj_m_145, 3, [(0, .ref 234), (1, .int a)], [.long (0 : Int64), .long (a).toInt64], mj_h0)) (mj_one_of mj_d_145_2 fun _ _ => rfl) ?_
        refine mj_runs.step (S' := (mj_m_145, 4, [(0, .ref 234), (1, .int a)], [.ref 234, .long (0 : Int64), .long (a).toInt64], mj_h0)) (mj_one_of mj_d_145_3 fun _ _ => rfl) ?_
        refine mj_runs.step (S' := (mj_m_145, 7, [(0, .ref 234), (1, .int a)], [.int (0 : Int32), .long (0 : Int64), .long (a).toInt64], mj_h0)) (mj_one_of mj_d_145_4 fun _ _ => rfl) ?_
        refine mj_runs.step (S' := (mj_m_145, 8, [(0, .ref 234), (1, .int a)], [.int (1 : Int32), .int (0 : Int32), .long (0 : Int64), .long (a).toInt64], mj_h0)) (mj_one_of mj_d_145_7 fun _ _ => rfl) ?_
        refine mj_runs.step (S' := (mj_m_145, 9, [(0, .ref 234), (1, .int a)], [.int (Int32.ofInt (-1)), .long (0 : Int64), .long (a).toInt64], mj_h0)) (mj_one_of mj_d_145_8 fun _ _ => rfl) ?_
        refine mj_runs.step (S' := (mj_m_145, 10, [(0, .ref 234), (1, .int a)], [.long (Int64.ofInt (-1)), .long (0 : Int64), .long (a).toInt64], mj_h0)) (mj_one_of mj_d_145_9 fun _ _ => rfl) ?_
        refine mj_runs.call (S1 := (mj_m_125, 0, [(0, .long (a).toInt64), (2, .long (0 : Int64)), (4, .long (Int64.ofInt (-1)))], [], mj_h0)) (r1 := (some (.int (0 : Int32)))) (h1 := mj_h0) (mj_calls_s mj_d_145_10 rfl rfl rfl rfl ⟨Nat.le_of_ble_eq_true rfl, Nat.le_of_ble_eq_true rfl, Nat.le_of_ble_eq_true rfl, Nat.le_of_ble_eq_true rfl, Nat.le_of_ble_eq_true rfl⟩) ?_ ?_
        · refine mj_runs.step (S' := (mj_m_125, 1, [(0, .long (a).toInt64), (2, .long (0 : Int64)), (4, .long (Int64.ofInt (-1)))], [.long (a).toInt64], mj_h0)) (mj_one_of mj_d_125_0 fun _ _ => rfl) ?_
          refine mj_runs.step (S' := (mj_m_125, 2, [(0, .long (a).toInt64), (2, .long (0 : Int64)), (4, .long (Int64.ofInt (-1)))], [.long (0 : Int64), .long (a).toInt64], mj_h0)) (mj_one_of mj_d_125_1 fun _ _ => rfl) ?_
          refine mj_runs.step (S' := (mj_m_125, 3, [(0, .long (a).toInt64), (2, .long (0 : Int64)), (4, .long (Int64.ofInt (-1)))], [.int (lg_cmp (a).toInt64 (0 : Int64))], mj_h0)) (mj_one_of mj_d_125_2 fun _ _ => rfl) ?_
          refine mj_runs.step (S' := (mj_m_125, 17, [(0, .long (a).toInt64), (2, .long (0 : Int64)), (4, .long (Int64.ofInt (-1)))], [], mj_h0)) (mj_one_ifT mj_d_125_3 rfl (mj_lgT_lt (mj_l32 a) (show ((0 : Int64)).toInt = 0 by decide) (by omega))) ?_
          refine mj_runs.step (S' := (mj_m_125, 18, [(0, .long (a).toInt64), (2, .long (0 : Int64)), (4, .long (Int64.ofInt (-1)))], [.int (0 : Int32)], mj_h0)) (mj_one_of mj_d_125_17 fun _ _ => rfl) ?_
          exact mj_runs.ret (mj_ret_of mj_d_125_18 fun _ _ => rfl)
        show mj_runs (mj_m_145, 13, [(0, .ref 234), (1, .int a)], [.int (0 : Int32)], mj_h0) _ _
        exact mj_runs.ret (mj_ret_of mj_d_145_13 fun _ _ => rfl)
      show mj_runs (mj_m_172, 5, [(0, .ref 234), (1, .int a), (2, .int b), (3, .int c)], [.int (0 : Int32)], mj_h0) _ _
      refine mj_runs.step (S' := (mj_m_172, 39, [(0, .ref 234), (1, .int a), (2, .int b), (3, .int c)], [], mj_h0)) (mj_one_of mj_d_172_5 fun _ _ => rfl) ?_
      refine mj_runs.step (S' := (mj_m_172, 41, [(0, .ref 234), (1, .int a), (2, .int b), (3, .int c)], [.int (Int32.ofInt (-1000000001))], mj_h0)) (mj_one_of mj_d_172_39 fun _ _ => rfl) ?_
      exact mj_runs.ret (mj_ret_of mj_d_172_41 fun _ _ => rfl)
    · exact mj_sz0
  · refine ⟨(Int32.ofInt (-1000000001)), mj_h0, mj_h0, ?_, ?_, ?_⟩
    · refine mj_runs.step (S' := (mj_m_85, 1, [(0, .ref 0), (1, .int a), (2, .int b), (3, .int c)], [.ref 0], mj_h0)) (mj_one_of mj_d_85_0 fun _ _ => rfl) ?_
      refine mj_runs.step (S' := (mj_m_85, 2, [(0, .ref 0), (1, .int a), (2, .int b), (3, .int c)], [.int a, .ref 0], mj_h0)) (mj_one_of mj_d_85_1 fun _ _ => rfl) ?_
      refine mj_runs.call (S1 := (mj_m_44, 0, [(0, .ref 0), (1, .int a)], [], mj_h0)) (r1 := (some (.int (0 : Int32)))) (h1 := mj_h0) (mj_calls_v mj_d_85_2 rfl rfl rfl rfl rfl rfl ⟨Nat.le_of_ble_eq_true rfl, ⟨Nat.le_of_ble_eq_true rfl, Nat.le_of_ble_eq_true rfl, Nat.le_of_ble_eq_true rfl, Nat.le_of_ble_eq_true rfl, Nat.le_of_ble_eq_true rfl⟩⟩) ?_ ?_
      · refine mj_runs.step (S' := (mj_m_44, 1, [(0, .ref 0), (1, .int a)], [.int a], mj_h0)) (mj_one_of mj_d_44_0 fun _ _ => rfl) ?_
        refine mj_runs.step (S' := (mj_m_44, 4, [(0, .ref 0), (1, .int a)], [], mj_h0)) (mj_one_ifF mj_d_44_1 (t := 19) rfl (mj_cF_lt (rfl : (a).toInt = (a).toInt) (show ((0 : Int32)).toInt = 0 by decide) (by omega))) ?_
        refine mj_runs.step (S' := (mj_m_44, 5, [(0, .ref 0), (1, .int a)], [.int a], mj_h0)) (mj_one_of mj_d_44_4 fun _ _ => rfl) ?_
        refine mj_runs.step (S' := (mj_m_44, 6, [(0, .ref 0), (1, .int a)], [.ref 0, .int a], mj_h0)) (mj_one_of mj_d_44_5 fun _ _ => rfl) ?_
        refine mj_runs.step (S' := (mj_m_44, 9, [(0, .ref 0), (1, .int a)], [.ref 8, .int a], mj_h0)) (mj_one_of mj_d_44_6 fun _ _ => rfl) ?_
        refine mj_runs.step (S' := (mj_m_44, 12, [(0, .ref 0), (1, .int a)], [.int (0 : Int32), .int a], mj_h0)) (mj_one_of mj_d_44_9 fun _ _ => rfl) ?_
        refine mj_runs.step (S' := (mj_m_44, 19, [(0, .ref 0), (1, .int a)], [], mj_h0)) (mj_one_icmpT mj_d_44_12 rfl (mj_cT_ge (rfl : (a).toInt = (a).toInt) (show ((0 : Int32)).toInt = 0 by decide) (by omega))) ?_
        refine mj_runs.step (S' := (mj_m_44, 20, [(0, .ref 0), (1, .int a)], [.int (0 : Int32)], mj_h0)) (mj_one_of mj_d_44_19 fun _ _ => rfl) ?_
        exact mj_runs.ret (mj_ret_of mj_d_44_20 fun _ _ => rfl)
      show mj_runs (mj_m_85, 5, [(0, .ref 0), (1, .int a), (2, .int b), (3, .int c)], [.int (0 : Int32)], mj_h0) _ _
      refine mj_runs.step (S' := (mj_m_85, 38, [(0, .ref 0), (1, .int a), (2, .int b), (3, .int c)], [], mj_h0)) (mj_one_of mj_d_85_5 fun _ _ => rfl) ?_
      refine mj_runs.step (S' := (mj_m_85, 40, [(0, .ref 0), (1, .int a), (2, .int b), (3, .int c)], [.int (Int32.ofInt (-1000000001))], mj_h0)) (mj_one_of mj_d_85_38 fun _ _ => rfl) ?_
      exact mj_runs.ret (mj_ret_of mj_d_85_40 fun _ _ => rfl)
    · refine mj_runs.step (S' := (mj_m_172, 1, [(0, .ref 234), (1, .int a), (2, .int b), (3, .int c)], [.ref 234], mj_h0)) (mj_one_of mj_d_172_0 fun _ _ => rfl) ?_
      refine mj_runs.step (S' := (mj_m_172, 2, [(0, .ref 234), (1, .int a), (2, .int b), (3, .int c)], [.int a, .ref 234], mj_h0)) (mj_one_of mj_d_172_1 fun _ _ => rfl) ?_
      refine mj_runs.call (S1 := (mj_m_145, 0, [(0, .ref 234), (1, .int a)], [], mj_h0)) (r1 := (some (.int (0 : Int32)))) (h1 := mj_h0) (mj_calls_v mj_d_172_2 rfl rfl rfl rfl rfl rfl ⟨Nat.le_of_ble_eq_true rfl, ⟨Nat.le_of_ble_eq_true rfl, Nat.le_of_ble_eq_true rfl, Nat.le_of_ble_eq_true rfl, Nat.le_of_ble_eq_true rfl, Nat.le_of_ble_eq_true rfl⟩⟩) ?_ ?_
      · refine mj_runs.step (S' := (mj_m_145, 1, [(0, .ref 234), (1, .int a)], [.int a], mj_h0)) (mj_one_of mj_d_145_0 fun _ _ => rfl) ?_
        refine mj_runs.step (S' := (mj_m_145, 2, [(0, .ref 234), (1, .int a)], [.long (a).toInt64], mj_h0)) (mj_one_of mj_d_145_1 fun _ _ => rfl) ?_
        refine mj_runs.step (S' := (mj_m_145, 3, [(0, .ref 234), (1, .int a)], [.long (0 : Int64), .long (a).toInt64], mj_h0)) (mj_one_of mj_d_145_2 fun _ _ => rfl) ?_
        refine mj_runs.step (S' := (mj_m_145, 4, [(0, .ref 234), (1, .int a)], [.ref 234, .long (0 : Int64), .long (a).toInt64], mj_h0)) (mj_one_of mj_d_145_3 fun _ _ => rfl) ?_
        refine mj_runs.step (S' := (mj_m_145, 7, [(0, .ref 234), (1, .int a)], [.int (0 : Int32), .long (0 : Int64), .long (a).toInt64], mj_h0)) (mj_one_of mj_d_145_4 fun _ _ => rfl) ?_
        refine mj_runs.step (S' := (mj_m_145, 8, [(0, .ref 234), (1, .int a)], [.int (1 : Int32), .int (0 : Int32), .long (0 : Int64), .long (a).toInt64], mj_h0)) (mj_one_of mj_d_145_7 fun _ _ => rfl) ?_
        refine mj_runs.step (S' := (mj_m_145, 9, [(0, .ref 234), (1, .int a)], [.int (Int32.ofInt (-1)), .long (0 : Int64), .long (a).toInt64], mj_h0)) (mj_one_of mj_d_145_8 fun _ _ => rfl) ?_
        refine mj_runs.step (S' := (mj_m_145, 10, [(0, .ref 234), (1, .int a)], [.long (Int64.ofInt (-1)), .long (0 : Int64), .long (a).toInt64], mj_h0)) (mj_one_of mj_d_145_9 fun _ _ => rfl) ?_
        refine mj_runs.call (S1 := (mj_m_125, 0, [(0, .long (a).toInt64), (2, .long (0 : Int64)), (4, .long (Int64.ofInt (-1)))], [], mj_h0)) (r1 := (some (.int (0 : Int32)))) (h1 := mj_h0) (mj_calls_s mj_d_145_10 rfl rfl rfl rfl ⟨Nat.le_of_ble_eq_true rfl, Nat.le_of_ble_eq_true rfl, Nat.le_of_ble_eq_true rfl, Nat.le_of_ble_eq_true rfl, Nat.le_of_ble_eq_true rfl⟩) ?_ ?_
        · refine mj_runs.step (S' := (mj_m_125, 1, [(0, .long (a).toInt64), (2, .long (0 : Int64)), (4, .long (Int64.ofInt (-1)))], [.long (a).toInt64], mj_h0)) (mj_one_of mj_d_125_0 fun _ _ => rfl) ?_
          refine mj_runs.step (S' := (mj_m_125, 2, [(0, .long (a).toInt64), (2, .long (0 : Int64)), (4, .long (Int64.ofInt (-1)))], [.long (0 : Int64), .long (a).toInt64], mj_h0)) (mj_one_of mj_d_125_1 fun _ _ => rfl) ?_
          refine mj_runs.step (S' := (mj_m_125, 3, [(0, .long (a).toInt64), (2, .long (0 : Int64)), (4, .long (Int64.ofInt (-1)))], [.int (lg_cmp (a).toInt64 (0 : Int64))], mj_h0)) (mj_one_of mj_d_125_2 fun _ _ => rfl) ?_
          refine mj_runs.step (S' := (mj_m_125, 6, [(0, .long (a).toInt64), (2, .long (0 : Int64)), (4, .long (Int64.ofInt (-1)))], [], mj_h0)) (mj_one_ifF mj_d_125_3 (t := 17) rfl (mj_lgF_lt (mj_l32 a) (show ((0 : Int64)).toInt = 0 by decide) (by omega))) ?_
          refine mj_runs.step (S' := (mj_m_125, 7, [(0, .long (a).toInt64), (2, .long (0 : Int64)), (4, .long (Int64.ofInt (-1)))], [.long (a).toInt64], mj_h0)) (mj_one_of mj_d_125_6 fun _ _ => rfl) ?_
          refine mj_runs.step (S' := (mj_m_125, 9, [(0, .long (a).toInt64), (2, .long (0 : Int64)), (4, .long (Int64.ofInt (-1)))], [.long (Int64.ofInt (-1)), .long (a).toInt64], mj_h0)) (mj_one_of mj_d_125_7 fun _ _ => rfl) ?_
          refine mj_runs.step (S' := (mj_m_125, 10, [(0, .long (a).toInt64), (2, .long (0 : Int64)), (4, .long (Int64.ofInt (-1)))], [.int (lg_cmp (a).toInt64 (Int64.ofInt (-1)))], mj_h0)) (mj_one_of mj_d_125_9 fun _ _ => rfl) ?_
          refine mj_runs.step (S' := (mj_m_125, 17, [(0, .long (a).toInt64), (2, .long (0 : Int64)), (4, .long (Int64.ofInt (-1)))], [], mj_h0)) (mj_one_ifT mj_d_125_10 rfl (mj_lgT_gt (mj_l32 a) (show ((Int64.ofInt (-1))).toInt = -1 by decide) (by omega))) ?_
          refine mj_runs.step (S' := (mj_m_125, 18, [(0, .long (a).toInt64), (2, .long (0 : Int64)), (4, .long (Int64.ofInt (-1)))], [.int (0 : Int32)], mj_h0)) (mj_one_of mj_d_125_17 fun _ _ => rfl) ?_
          exact mj_runs.ret (mj_ret_of mj_d_125_18 fun _ _ => rfl)
        show mj_runs (mj_m_145, 13, [(0, .ref 234), (1, .int a)], [.int (0 : Int32)], mj_h0) _ _
        exact mj_runs.ret (mj_ret_of mj_d_145_13 fun _ _ => rfl)
      show mj_runs (mj_m_172, 5, [(0, .ref 234), (1, .int a), (2, .int b), (3, .int c)], [.int (0 : Int32)], mj_h0) _ _
      refine mj_runs.step (S' := (mj_m_172, 39, [(0, .ref 234), (1, .int a), (2, .int b), (3, .int c)], [], mj_h0)) (mj_one_of mj_d_172_5 fun _ _ => rfl) ?_
      refine mj_runs.step (S' := (mj_m_172, 41, [(0, .ref 234), (1, .int a), (2, .int b), (3, .int c)], [.int (Int32.ofInt (-1000000001))], mj_h0)) (mj_one_of mj_d_172_39 fun _ _ => rfl) ?_
      exact mj_runs.ret (mj_ret_of mj_d_172_41 fun _ _ => rfl)
    · exact mj_sz0
set_option maxRecDepth 1000000 in
set_option maxHeartbeats 4000000 in
theorem mj_op_ring (a : Int32) : ∃ (r : Int32) (h1 h2 : mj_H), mj_runs (mj_m_97, 0, [(0, .ref 0), (1, .int a)], [], mj_h0) (some (.int r)) h1 ∧ mj_runs (mj_m_176, 0, [(0, .ref 234), (1, .int a)], [], h1) (some (.int r)) h2 ∧ mj_sz h2 := by
  refine ⟨(Int32.ofInt (-1)), mj_h0, mj_h0, ?_, ?_, ?_⟩
  · refine mj_runs.step (S' := (mj_m_97, 1, [(0, .ref 0), (1, .int a)], [.int (0 : Int32)], mj_h0)) (mj_one_of mj_d_97_0 fun _ _ => rfl) ?_
    refine mj_runs.step (S' := (mj_m_97, 2, [(2, .int (0 : Int32)), (0, .ref 0), (1, .int a)], [], mj_h0)) (mj_one_of mj_d_97_1 fun _ _ => rfl) ?_
    refine mj_runs.step (S' := (mj_m_97, 3, [(2, .int (0 : Int32)), (0, .ref 0), (1, .int a)], [.int (0 : Int32)], mj_h0)) (mj_one_of mj_d_97_2 fun _ _ => rfl) ?_
    refine mj_runs.step (S' := (mj_m_97, 4, [(2, .int (0 : Int32)), (0, .ref 0), (1, .int a)], [.ref 0, .int (0 : Int32)], mj_h0)) (mj_one_of mj_d_97_3 fun _ _ => rfl) ?_
    refine mj_runs.step (S' := (mj_m_97, 7, [(2, .int (0 : Int32)), (0, .ref 0), (1, .int a)], [.ref 8, .int (0 : Int32)], mj_h0)) (mj_one_of mj_d_97_4 fun _ _ => rfl) ?_
    refine mj_runs.step (S' := (mj_m_97, 10, [(2, .int (0 : Int32)), (0, .ref 0), (1, .int a)], [.int (0 : Int32), .int (0 : Int32)], mj_h0)) (mj_one_of mj_d_97_7 fun _ _ => rfl) ?_
    refine mj_runs.step (S' := (mj_m_97, 71, [(2, .int (0 : Int32)), (0, .ref 0), (1, .int a)], [], mj_h0)) (mj_one_of mj_d_97_10 fun _ _ => rfl) ?_
    refine mj_runs.step (S' := (mj_m_97, 72, [(2, .int (0 : Int32)), (0, .ref 0), (1, .int a)], [.int (Int32.ofInt (-1))], mj_h0)) (mj_one_of mj_d_97_71 fun _ _ => rfl) ?_
    exact mj_runs.ret (mj_ret_of mj_d_97_72 fun _ _ => rfl)
  · refine mj_runs.step (S' := (mj_m_176, 1, [(0, .ref 234), (1, .int a)], [.ref 234], mj_h0)) (mj_one_of mj_d_176_0 fun _ _ => rfl) ?_
    refine mj_runs.step (S' := (mj_m_176, 4, [(0, .ref 234), (1, .int a)], [.int (0 : Int32)], mj_h0)) (mj_one_of mj_d_176_1 fun _ _ => rfl) ?_
    refine mj_runs.step (S' := (mj_m_176, 5, [(2, .int (0 : Int32)), (0, .ref 234), (1, .int a)], [], mj_h0)) (mj_one_of mj_d_176_4 fun _ _ => rfl) ?_
    refine mj_runs.step (S' := (mj_m_176, 6, [(2, .int (0 : Int32)), (0, .ref 234), (1, .int a)], [.int (2 : Int32)], mj_h0)) (mj_one_of mj_d_176_5 fun _ _ => rfl) ?_
    refine mj_runs.step (S' := (mj_m_176, 7, [(3, .int (2 : Int32)), (2, .int (0 : Int32)), (0, .ref 234), (1, .int a)], [], mj_h0)) (mj_one_of mj_d_176_6 fun _ _ => rfl) ?_
    refine mj_runs.step (S' := (mj_m_176, 8, [(3, .int (2 : Int32)), (2, .int (0 : Int32)), (0, .ref 234), (1, .int a)], [.int (2 : Int32)], mj_h0)) (mj_one_of mj_d_176_7 fun _ _ => rfl) ?_
    refine mj_runs.step (S' := (mj_m_176, 9, [(3, .int (2 : Int32)), (2, .int (0 : Int32)), (0, .ref 234), (1, .int a)], [.ref 234, .int (2 : Int32)], mj_h0)) (mj_one_of mj_d_176_8 fun _ _ => rfl) ?_
    refine mj_runs.step (S' := (mj_m_176, 12, [(3, .int (2 : Int32)), (2, .int (0 : Int32)), (0, .ref 234), (1, .int a)], [.int (0 : Int32), .int (2 : Int32)], mj_h0)) (mj_one_of mj_d_176_9 fun _ _ => rfl) ?_
    refine mj_runs.step (S' := (mj_m_176, 86, [(3, .int (2 : Int32)), (2, .int (0 : Int32)), (0, .ref 234), (1, .int a)], [], mj_h0)) (mj_one_of mj_d_176_12 fun _ _ => rfl) ?_
    refine mj_runs.step (S' := (mj_m_176, 87, [(3, .int (2 : Int32)), (2, .int (0 : Int32)), (0, .ref 234), (1, .int a)], [.int (Int32.ofInt (-1))], mj_h0)) (mj_one_of mj_d_176_86 fun _ _ => rfl) ?_
    exact mj_runs.ret (mj_ret_of mj_d_176_87 fun _ _ => rfl)
  · exact mj_sz0
set_option maxRecDepth 1000000 in
set_option maxHeartbeats 4000000 in
theorem mj_op_brushes (a b : Int32) : ∃ (r : Int32) (h1 h2 : mj_H), mj_runs (mj_m_100, 0, [(0, .ref 0), (1, .int a), (2, .int b)], [], mj_h0) (some (.int r)) h1 ∧ mj_runs (mj_m_179, 0, [(0, .ref 234), (1, .int a), (2, .int b)], [], h1) (some (.int r)) h2 ∧ mj_sz h2 := by
  by_cases c0 : a.toInt < 1
  · refine ⟨(Int32.ofInt (-1000000002)), mj_h0, mj_h0, ?_, ?_, ?_⟩
    · refine mj_runs.step (S' := (mj_m_100, 1, [(0, .ref 0), (1, .int a), (2, .int b)], [.int a], mj_h0)) (mj_one_of mj_d_100_0 fun _ _ => rfl) ?_
      refine mj_runs.step (S' := (mj_m_100, 2, [(0, .ref 0), (1, .int a), (2, .int b)], [.int (1 : Int32), .int a], mj_h0)) (mj_one_of mj_d_100_1 fun _ _ => rfl) ?_
      refine mj_runs.step (S' := (mj_m_100, 11, [(0, .ref 0), (1, .int a), (2, .int b)], [], mj_h0)) (mj_one_icmpT mj_d_100_2 rfl (mj_cT_lt (rfl : (a).toInt = (a).toInt) (show ((1 : Int32)).toInt = 1 by decide) (by omega))) ?_
      refine mj_runs.step (S' := (mj_m_100, 13, [(0, .ref 0), (1, .int a), (2, .int b)], [.int (Int32.ofInt (-1000000002))], mj_h0)) (mj_one_of mj_d_100_11 fun _ _ => rfl) ?_
      exact mj_runs.ret (mj_ret_of mj_d_100_13 fun _ _ => rfl)
    · refine mj_runs.step (S' := (mj_m_179, 1, [(0, .ref 234), (1, .int a), (2, .int b)], [.int a], mj_h0)) (mj_one_of mj_d_179_0 fun _ _ => rfl) ?_
      refine mj_runs.step (S' := (mj_m_179, 2, [(0, .ref 234), (1, .int a), (2, .int b)], [.long (a).toInt64], mj_h0)) (mj_one_of mj_d_179_1 fun _ _ => rfl) ?_
      refine mj_runs.step (S' := (mj_m_179, 3, [(0, .ref 234), (1, .int a), (2, .int b)], [.long (1 : Int64), .long (a).toInt64], mj_h0)) (mj_one_of mj_d_179_2 fun _ _ => rfl) ?_
      refine mj_runs.step (S' := (mj_m_179, 6, [(0, .ref 234), (1, .int a), (2, .int b)], [.long (7 : Int64), .long (1 : Int64), .long (a).toInt64], mj_h0)) (mj_one_of mj_d_179_3 fun _ _ => rfl) ?_
      refine mj_runs.call (S1 := (mj_m_125, 0, [(0, .long (a).toInt64), (2, .long (1 : Int64)), (4, .long (7 : Int64))], [], mj_h0)) (r1 := (some (.int (0 : Int32)))) (h1 := mj_h0) (mj_calls_s mj_d_179_6 rfl rfl rfl rfl ⟨Nat.le_of_ble_eq_true rfl, Nat.le_of_ble_eq_true rfl, Nat.le_of_ble_eq_true rfl, Nat.le_of_ble_eq_true rfl, Nat.le_of_ble_eq_true rfl⟩) ?_ ?_
      · refine mj_runs.step (S' := (mj_m_125, 1, [(0, .long (a).toInt64), (2, .long (1 : Int64)), (4, .long (7 : Int64))], [.long (a).toInt64], mj_h0)) (mj_one_of mj_d_125_0 fun _ _ => rfl) ?_
        refine mj_runs.step (S' := (mj_m_125, 2, [(0, .long (a).toInt64), (2, .long (1 : Int64)), (4, .long (7 : Int64))], [.long (1 : Int64), .long (a).toInt64], mj_h0)) (mj_one_of mj_d_125_1 fun _ _ => rfl) ?_
        refine mj_runs.step (S' := (mj_m_125, 3, [(0, .long (a).toInt64), (2, .long (1 : Int64)), (4, .long (7 : Int64))], [.int (lg_cmp (a).toInt64 (1 : Int64))], mj_h0)) (mj_one_of mj_d_125_2 fun _ _ => rfl) ?_
        refine mj_runs.step (S' := (mj_m_125, 17, [(0, .long (a).toInt64), (2, .long (1 : Int64)), (4, .long (7 : Int64))], [], mj_h0)) (mj_one_ifT mj_d_125_3 rfl (mj_lgT_lt (mj_l32 a) (show ((1 : Int64)).toInt = 1 by decide) (by omega))) ?_
        refine mj_runs.step (S' := (mj_m_125, 18, [(0, .long (a).toInt64), (2, .long (1 : Int64)), (4, .long (7 : Int64))], [.int (0 : Int32)], mj_h0)) (mj_one_of mj_d_125_17 fun _ _ => rfl) ?_
        exact mj_runs.ret (mj_ret_of mj_d_125_18 fun _ _ => rfl)
      show mj_runs (mj_m_179, 9, [(0, .ref 234), (1, .int a), (2, .int b)], [.int (0 : Int32)], mj_h0) _ _
      refine mj_runs.step (S' := (mj_m_179, 22, [(0, .ref 234), (1, .int a), (2, .int b)], [], mj_h0)) (mj_one_of mj_d_179_9 fun _ _ => rfl) ?_
      refine mj_runs.step (S' := (mj_m_179, 24, [(0, .ref 234), (1, .int a), (2, .int b)], [.int (Int32.ofInt (-1000000002))], mj_h0)) (mj_one_of mj_d_179_22 fun _ _ => rfl) ?_
      exact mj_runs.ret (mj_ret_of mj_d_179_24 fun _ _ => rfl)
    · exact mj_sz0
  · by_cases c1 : a.toInt ≤ 7
    · by_cases c2 : b.toInt = 0
      · obtain rfl : b = (0 : Int32) := Int32.toInt_inj.mp (by rw [show ((0 : Int32)).toInt = 0 by decide]; omega)
        refine ⟨(0 : Int32), mj_h0, mj_h0, ?_, ?_, ?_⟩
        · refine mj_runs.step (S' := (mj_m_100, 1, [(0, .ref 0), (1, .int a), (2, .int (0 : Int32))], [.int a], mj_h0)) (mj_one_of mj_d_100_0 fun _ _ => rfl) ?_
          refine mj_runs.step (S' := (mj_m_100, 2, [(0, .ref 0), (1, .int a), (2, .int (0 : Int32))], [.int (1 : Int32), .int a], mj_h0)) (mj_one_of mj_d_100_1 fun _ _ => rfl) ?_
          refine mj_runs.step (S' := (mj_m_100, 5, [(0, .ref 0), (1, .int a), (2, .int (0 : Int32))], [], mj_h0)) (mj_one_icmpF mj_d_100_2 (t := 11) rfl (mj_cF_lt (rfl : (a).toInt = (a).toInt) (show ((1 : Int32)).toInt = 1 by decide) (by omega))) ?_
          refine mj_runs.step (S' := (mj_m_100, 6, [(0, .ref 0), (1, .int a), (2, .int (0 : Int32))], [.int a], mj_h0)) (mj_one_of mj_d_100_5 fun _ _ => rfl) ?_
          refine mj_runs.step (S' := (mj_m_100, 8, [(0, .ref 0), (1, .int a), (2, .int (0 : Int32))], [.int (7 : Int32), .int a], mj_h0)) (mj_one_of mj_d_100_6 fun _ _ => rfl) ?_
          refine mj_runs.step (S' := (mj_m_100, 14, [(0, .ref 0), (1, .int a), (2, .int (0 : Int32))], [], mj_h0)) (mj_one_icmpT mj_d_100_8 rfl (mj_cT_le (rfl : (a).toInt = (a).toInt) (show ((7 : Int32)).toInt = 7 by decide) (by omega))) ?_
          refine mj_runs.step (S' := (mj_m_100, 15, [(0, .ref 0), (1, .int a), (2, .int (0 : Int32))], [.int (0 : Int32)], mj_h0)) (mj_one_of mj_d_100_14 fun _ _ => rfl) ?_
          refine mj_runs.step (S' := (mj_m_100, 40, [(0, .ref 0), (1, .int a), (2, .int (0 : Int32))], [], mj_h0)) (mj_one_of mj_d_100_15 fun _ _ => rfl) ?_
          refine mj_runs.step (S' := (mj_m_100, 41, [(0, .ref 0), (1, .int a), (2, .int (0 : Int32))], [.ref 0], mj_h0)) (mj_one_of mj_d_100_40 fun _ _ => rfl) ?_
          refine mj_runs.step (S' := (mj_m_100, 44, [(0, .ref 0), (1, .int a), (2, .int (0 : Int32))], [.ref 13], mj_h0)) (mj_one_of mj_d_100_41 fun _ _ => rfl) ?_
          refine mj_runs.step (S' := (mj_m_100, 45, [(0, .ref 0), (1, .int a), (2, .int (0 : Int32))], [.int a, .ref 13], mj_h0)) (mj_one_of mj_d_100_44 fun _ _ => rfl) ?_
          refine mj_runs.step (S' := (mj_m_100, 46, [(0, .ref 0), (1, .int a), (2, .int (0 : Int32))], [.ref 0, .int a, .ref 13], mj_h0)) (mj_one_of mj_d_100_45 fun _ _ => rfl) ?_
          refine mj_runs.step (S' := (mj_m_100, 49, [(0, .ref 0), (1, .int a), (2, .int (0 : Int32))], [.ref 8, .int a, .ref 13], mj_h0)) (mj_one_of mj_d_100_46 fun _ _ => rfl) ?_
          refine mj_runs.step (S' := (mj_m_100, 52, [(0, .ref 0), (1, .int a), (2, .int (0 : Int32))], [.int (0 : Int32), .int a, .ref 13], mj_h0)) (mj_one_of mj_d_100_49 fun _ _ => rfl) ?_
          refine mj_runs.call (S1 := (mj_m_101, 0, [(0, .ref 13), (1, .int a), (2, .int (0 : Int32))], [], mj_h0)) (r1 := (some (.int (0 : Int32)))) (h1 := mj_h0) (mj_calls_v mj_d_100_52 rfl rfl rfl rfl rfl rfl ⟨Nat.le_of_ble_eq_true rfl, ⟨Nat.le_of_ble_eq_true rfl, Nat.le_of_ble_eq_true rfl, Nat.le_of_ble_eq_true rfl, Nat.le_of_ble_eq_true rfl, Nat.le_of_ble_eq_true rfl⟩⟩) ?_ ?_
          · refine mj_runs.step (S' := (mj_m_101, 1, [(0, .ref 13), (1, .int a), (2, .int (0 : Int32))], [.int (0 : Int32)], mj_h0)) (mj_one_of mj_d_101_0 fun _ _ => rfl) ?_
            refine mj_runs.step (S' := (mj_m_101, 2, [(3, .int (0 : Int32)), (0, .ref 13), (1, .int a), (2, .int (0 : Int32))], [], mj_h0)) (mj_one_of mj_d_101_1 fun _ _ => rfl) ?_
            refine mj_runs.step (S' := (mj_m_101, 3, [(3, .int (0 : Int32)), (0, .ref 13), (1, .int a), (2, .int (0 : Int32))], [.int (0 : Int32)], mj_h0)) (mj_one_of mj_d_101_2 fun _ _ => rfl) ?_
            refine mj_runs.step (S' := (mj_m_101, 5, [(4, .int (0 : Int32)), (3, .int (0 : Int32)), (0, .ref 13), (1, .int a), (2, .int (0 : Int32))], [], mj_h0)) (mj_one_of mj_d_101_3 fun _ _ => rfl) ?_
            refine mj_runs.step (S' := (mj_m_101, 7, [(4, .int (0 : Int32)), (3, .int (0 : Int32)), (0, .ref 13), (1, .int a), (2, .int (0 : Int32))], [.int (0 : Int32)], mj_h0)) (mj_one_of mj_d_101_5 fun _ _ => rfl) ?_
            refine mj_runs.step (S' := (mj_m_101, 8, [(4, .int (0 : Int32)), (3, .int (0 : Int32)), (0, .ref 13), (1, .int a), (2, .int (0 : Int32))], [.int (0 : Int32), .int (0 : Int32)], mj_h0)) (mj_one_of mj_d_101_7 fun _ _ => rfl) ?_
            refine mj_runs.step (S' := (mj_m_101, 34, [(4, .int (0 : Int32)), (3, .int (0 : Int32)), (0, .ref 13), (1, .int a), (2, .int (0 : Int32))], [], mj_h0)) (mj_one_of mj_d_101_8 fun _ _ => rfl) ?_
            refine mj_runs.step (S' := (mj_m_101, 35, [(4, .int (0 : Int32)), (3, .int (0 : Int32)), (0, .ref 13), (1, .int a), (2, .int (0 : Int32))], [.int (0 : Int32)], mj_h0)) (mj_one_of mj_d_101_34 fun _ _ => rfl) ?_
            exact mj_runs.ret (mj_ret_of mj_d_101_35 fun _ _ => rfl)
          show mj_runs (mj_m_100, 55, [(0, .ref 0), (1, .int a), (2, .int (0 : Int32))], [.int (0 : Int32)], mj_h0) _ _
          exact mj_runs.ret (mj_ret_of mj_d_100_55 fun _ _ => rfl)
        · refine mj_runs.step (S' := (mj_m_179, 1, [(0, .ref 234), (1, .int a), (2, .int (0 : Int32))], [.int a], mj_h0)) (mj_one_of mj_d_179_0 fun _ _ => rfl) ?_
          refine mj_runs.step (S' := (mj_m_179, 2, [(0, .ref 234), (1, .int a), (2, .int (0 : Int32))], [.long (a).toInt64], mj_h0)) (mj_one_of mj_d_179_1 fun _ _ => rfl) ?_
          refine mj_runs.step (S' := (mj_m_179, 3, [(0, .ref 234), (1, .int a), (2, .int (0 : Int32))], [.long (1 : Int64), .long (a).toInt64], mj_h0)) (mj_one_of mj_d_179_2 fun _ _ => rfl) ?_
          refine mj_runs.step (S' := (mj_m_179, 6, [(0, .ref 234), (1, .int a), (2, .int (0 : Int32))], [.long (7 : Int64), .long (1 : Int64), .long (a).toInt64], mj_h0)) (mj_one_of mj_d_179_3 fun _ _ => rfl) ?_
          refine mj_runs.call (S1 := (mj_m_125, 0, [(0, .long (a).toInt64), (2, .long (1 : Int64)), (4, .long (7 : Int64))], [], mj_h0)) (r1 := (some (.int (1 : Int32)))) (h1 := mj_h0) (mj_calls_s mj_d_179_6 rfl rfl rfl rfl ⟨Nat.le_of_ble_eq_true rfl, Nat.le_of_ble_eq_true rfl, Nat.le_of_ble_eq_true rfl, Nat.le_of_ble_eq_true rfl, Nat.le_of_ble_eq_true rfl⟩) ?_ ?_
          · refine mj_runs.step (S' := (mj_m_125, 1, [(0, .long (a).toInt64), (2, .long (1 : Int64)), (4, .long (7 : Int64))], [.long (a).toInt64], mj_h0)) (mj_one_of mj_d_125_0 fun _ _ => rfl) ?_
            refine mj_runs.step (S' := (mj_m_125, 2, [(0, .long (a).toInt64), (2, .long (1 : Int64)), (4, .long (7 : Int64))], [.long (1 : Int64), .long (a).toInt64], mj_h0)) (mj_one_of mj_d_125_1 fun _ _ => rfl) ?_
            refine mj_runs.step (S' := (mj_m_125, 3, [(0, .long (a).toInt64), (2, .long (1 : Int64)), (4, .long (7 : Int64))], [.int (lg_cmp (a).toInt64 (1 : Int64))], mj_h0)) (mj_one_of mj_d_125_2 fun _ _ => rfl) ?_
            refine mj_runs.step (S' := (mj_m_125, 6, [(0, .long (a).toInt64), (2, .long (1 : Int64)), (4, .long (7 : Int64))], [], mj_h0)) (mj_one_ifF mj_d_125_3 (t := 17) rfl (mj_lgF_lt (mj_l32 a) (show ((1 : Int64)).toInt = 1 by decide) (by omega))) ?_
            refine mj_runs.step (S' := (mj_m_125, 7, [(0, .long (a).toInt64), (2, .long (1 : Int64)), (4, .long (7 : Int64))], [.long (a).toInt64], mj_h0)) (mj_one_of mj_d_125_6 fun _ _ => rfl) ?_
            refine mj_runs.step (S' := (mj_m_125, 9, [(0, .long (a).toInt64), (2, .long (1 : Int64)), (4, .long (7 : Int64))], [.long (7 : Int64), .long (a).toInt64], mj_h0)) (mj_one_of mj_d_125_7 fun _ _ => rfl) ?_
            refine mj_runs.step (S' := (mj_m_125, 10, [(0, .long (a).toInt64), (2, .long (1 : Int64)), (4, .long (7 : Int64))], [.int (lg_cmp (a).toInt64 (7 : Int64))], mj_h0)) (mj_one_of mj_d_125_9 fun _ _ => rfl) ?_
            refine mj_runs.step (S' := (mj_m_125, 13, [(0, .long (a).toInt64), (2, .long (1 : Int64)), (4, .long (7 : Int64))], [], mj_h0)) (mj_one_ifF mj_d_125_10 (t := 17) rfl (mj_lgF_gt (mj_l32 a) (show ((7 : Int64)).toInt = 7 by decide) (by omega))) ?_
            refine mj_runs.step (S' := (mj_m_125, 14, [(0, .long (a).toInt64), (2, .long (1 : Int64)), (4, .long (7 : Int64))], [.int (1 : Int32)], mj_h0)) (mj_one_of mj_d_125_13 fun _ _ => rfl) ?_
            refine mj_runs.step (S' := (mj_m_125, 18, [(0, .long (a).toInt64), (2, .long (1 : Int64)), (4, .long (7 : Int64))], [.int (1 : Int32)], mj_h0)) (mj_one_of mj_d_125_14 fun _ _ => rfl) ?_
            exact mj_runs.ret (mj_ret_of mj_d_125_18 fun _ _ => rfl)
          show mj_runs (mj_m_179, 9, [(0, .ref 234), (1, .int a), (2, .int (0 : Int32))], [.int (1 : Int32)], mj_h0) _ _
          refine mj_runs.step (S' := (mj_m_179, 12, [(0, .ref 234), (1, .int a), (2, .int (0 : Int32))], [], mj_h0)) (mj_one_of mj_d_179_9 fun _ _ => rfl) ?_
          refine mj_runs.step (S' := (mj_m_179, 13, [(0, .ref 234), (1, .int a), (2, .int (0 : Int32))], [.int (0 : Int32)], mj_h0)) (mj_one_of mj_d_179_12 fun _ _ => rfl) ?_
          refine mj_runs.step (S' := (mj_m_179, 14, [(0, .ref 234), (1, .int a), (2, .int (0 : Int32))], [.long (0 : Int64)], mj_h0)) (mj_one_of mj_d_179_13 fun _ _ => rfl) ?_
          refine mj_runs.step (S' := (mj_m_179, 15, [(0, .ref 234), (1, .int a), (2, .int (0 : Int32))], [.long (0 : Int64), .long (0 : Int64)], mj_h0)) (mj_one_of mj_d_179_14 fun _ _ => rfl) ?_
          refine mj_runs.step (S' := (mj_m_179, 16, [(0, .ref 234), (1, .int a), (2, .int (0 : Int32))], [.long (1 : Int64), .long (0 : Int64), .long (0 : Int64)], mj_h0)) (mj_one_of mj_d_179_15 fun _ _ => rfl) ?_
          refine mj_runs.call (S1 := (mj_m_125, 0, [(0, .long (0 : Int64)), (2, .long (0 : Int64)), (4, .long (1 : Int64))], [], mj_h0)) (r1 := (some (.int (1 : Int32)))) (h1 := mj_h0) (mj_calls_s mj_d_179_16 rfl rfl rfl rfl ⟨Nat.le_of_ble_eq_true rfl, Nat.le_of_ble_eq_true rfl, Nat.le_of_ble_eq_true rfl, Nat.le_of_ble_eq_true rfl, Nat.le_of_ble_eq_true rfl⟩) ?_ ?_
          · refine mj_runs.step (S' := (mj_m_125, 1, [(0, .long (0 : Int64)), (2, .long (0 : Int64)), (4, .long (1 : Int64))], [.long (0 : Int64)], mj_h0)) (mj_one_of mj_d_125_0 fun _ _ => rfl) ?_
            refine mj_runs.step (S' := (mj_m_125, 2, [(0, .long (0 : Int64)), (2, .long (0 : Int64)), (4, .long (1 : Int64))], [.long (0 : Int64), .long (0 : Int64)], mj_h0)) (mj_one_of mj_d_125_1 fun _ _ => rfl) ?_
            refine mj_runs.step (S' := (mj_m_125, 3, [(0, .long (0 : Int64)), (2, .long (0 : Int64)), (4, .long (1 : Int64))], [.int (0 : Int32)], mj_h0)) (mj_one_of mj_d_125_2 fun _ _ => rfl) ?_
            refine mj_runs.step (S' := (mj_m_125, 6, [(0, .long (0 : Int64)), (2, .long (0 : Int64)), (4, .long (1 : Int64))], [], mj_h0)) (mj_one_of mj_d_125_3 fun _ _ => rfl) ?_
            refine mj_runs.step (S' := (mj_m_125, 7, [(0, .long (0 : Int64)), (2, .long (0 : Int64)), (4, .long (1 : Int64))], [.long (0 : Int64)], mj_h0)) (mj_one_of mj_d_125_6 fun _ _ => rfl) ?_
            refine mj_runs.step (S' := (mj_m_125, 9, [(0, .long (0 : Int64)), (2, .long (0 : Int64)), (4, .long (1 : Int64))], [.long (1 : Int64), .long (0 : Int64)], mj_h0)) (mj_one_of mj_d_125_7 fun _ _ => rfl) ?_
            refine mj_runs.step (S' := (mj_m_125, 10, [(0, .long (0 : Int64)), (2, .long (0 : Int64)), (4, .long (1 : Int64))], [.int (Int32.ofInt (-1))], mj_h0)) (mj_one_of mj_d_125_9 fun _ _ => rfl) ?_
            refine mj_runs.step (S' := (mj_m_125, 13, [(0, .long (0 : Int64)), (2, .long (0 : Int64)), (4, .long (1 : Int64))], [], mj_h0)) (mj_one_of mj_d_125_10 fun _ _ => rfl) ?_
            refine mj_runs.step (S' := (mj_m_125, 14, [(0, .long (0 : Int64)), (2, .long (0 : Int64)), (4, .long (1 : Int64))], [.int (1 : Int32)], mj_h0)) (mj_one_of mj_d_125_13 fun _ _ => rfl) ?_
            refine mj_runs.step (S' := (mj_m_125, 18, [(0, .long (0 : Int64)), (2, .long (0 : Int64)), (4, .long (1 : Int64))], [.int (1 : Int32)], mj_h0)) (mj_one_of mj_d_125_14 fun _ _ => rfl) ?_
            exact mj_runs.ret (mj_ret_of mj_d_125_18 fun _ _ => rfl)
          show mj_runs (mj_m_179, 19, [(0, .ref 234), (1, .int a), (2, .int (0 : Int32))], [.int (1 : Int32)], mj_h0) _ _
          refine mj_runs.step (S' := (mj_m_179, 25, [(0, .ref 234), (1, .int a), (2, .int (0 : Int32))], [], mj_h0)) (mj_one_of mj_d_179_19 fun _ _ => rfl) ?_
          refine mj_runs.step (S' := (mj_m_179, 26, [(0, .ref 234), (1, .int a), (2, .int (0 : Int32))], [.int (0 : Int32)], mj_h0)) (mj_one_of mj_d_179_25 fun _ _ => rfl) ?_
          refine mj_runs.step (S' := (mj_m_179, 27, [(3, .int (0 : Int32)), (0, .ref 234), (1, .int a), (2, .int (0 : Int32))], [], mj_h0)) (mj_one_of mj_d_179_26 fun _ _ => rfl) ?_
          refine mj_runs.step (S' := (mj_m_179, 28, [(3, .int (0 : Int32)), (0, .ref 234), (1, .int a), (2, .int (0 : Int32))], [.int (Int32.ofInt (-1))], mj_h0)) (mj_one_of mj_d_179_27 fun _ _ => rfl) ?_
          refine mj_runs.step (S' := (mj_m_179, 30, [(4, .int (Int32.ofInt (-1))), (3, .int (0 : Int32)), (0, .ref 234), (1, .int a), (2, .int (0 : Int32))], [], mj_h0)) (mj_one_of mj_d_179_28 fun _ _ => rfl) ?_
          refine mj_runs.step (S' := (mj_m_179, 31, [(4, .int (Int32.ofInt (-1))), (3, .int (0 : Int32)), (0, .ref 234), (1, .int a), (2, .int (0 : Int32))], [.int (0 : Int32)], mj_h0)) (mj_one_of mj_d_179_30 fun _ _ => rfl) ?_
          refine mj_runs.step (S' := (mj_m_179, 33, [(5, .int (0 : Int32)), (4, .int (Int32.ofInt (-1))), (3, .int (0 : Int32)), (0, .ref 234), (1, .int a), (2, .int (0 : Int32))], [], mj_h0)) (mj_one_of mj_d_179_31 fun _ _ => rfl) ?_
          refine mj_runs.step (S' := (mj_m_179, 34, [(5, .int (0 : Int32)), (4, .int (Int32.ofInt (-1))), (3, .int (0 : Int32)), (0, .ref 234), (1, .int a), (2, .int (0 : Int32))], [.int (0 : Int32)], mj_h0)) (mj_one_of mj_d_179_33 fun _ _ => rfl) ?_
          refine mj_runs.step (S' := (mj_m_179, 36, [(6, .int (0 : Int32)), (5, .int (0 : Int32)), (4, .int (Int32.ofInt (-1))), (3, .int (0 : Int32)), (0, .ref 234), (1, .int a), (2, .int (0 : Int32))], [], mj_h0)) (mj_one_of mj_d_179_34 fun _ _ => rfl) ?_
          refine mj_runs.step (S' := (mj_m_179, 38, [(6, .int (0 : Int32)), (5, .int (0 : Int32)), (4, .int (Int32.ofInt (-1))), (3, .int (0 : Int32)), (0, .ref 234), (1, .int a), (2, .int (0 : Int32))], [.int (0 : Int32)], mj_h0)) (mj_one_of mj_d_179_36 fun _ _ => rfl) ?_
          refine mj_runs.step (S' := (mj_m_179, 39, [(6, .int (0 : Int32)), (5, .int (0 : Int32)), (4, .int (Int32.ofInt (-1))), (3, .int (0 : Int32)), (0, .ref 234), (1, .int a), (2, .int (0 : Int32))], [.ref 234, .int (0 : Int32)], mj_h0)) (mj_one_of mj_d_179_38 fun _ _ => rfl) ?_
          refine mj_runs.step (S' := (mj_m_179, 42, [(6, .int (0 : Int32)), (5, .int (0 : Int32)), (4, .int (Int32.ofInt (-1))), (3, .int (0 : Int32)), (0, .ref 234), (1, .int a), (2, .int (0 : Int32))], [.int (0 : Int32), .int (0 : Int32)], mj_h0)) (mj_one_of mj_d_179_39 fun _ _ => rfl) ?_
          refine mj_runs.step (S' := (mj_m_179, 168, [(6, .int (0 : Int32)), (5, .int (0 : Int32)), (4, .int (Int32.ofInt (-1))), (3, .int (0 : Int32)), (0, .ref 234), (1, .int a), (2, .int (0 : Int32))], [], mj_h0)) (mj_one_of mj_d_179_42 fun _ _ => rfl) ?_
          refine mj_runs.step (S' := (mj_m_179, 169, [(6, .int (0 : Int32)), (5, .int (0 : Int32)), (4, .int (Int32.ofInt (-1))), (3, .int (0 : Int32)), (0, .ref 234), (1, .int a), (2, .int (0 : Int32))], [.int (0 : Int32)], mj_h0)) (mj_one_of mj_d_179_168 fun _ _ => rfl) ?_
          refine mj_runs.step (S' := (mj_m_179, 172, [(6, .int (0 : Int32)), (5, .int (0 : Int32)), (4, .int (Int32.ofInt (-1))), (3, .int (0 : Int32)), (0, .ref 234), (1, .int a), (2, .int (0 : Int32))], [], mj_h0)) (mj_one_of mj_d_179_169 fun _ _ => rfl) ?_
          refine mj_runs.step (S' := (mj_m_179, 173, [(6, .int (0 : Int32)), (5, .int (0 : Int32)), (4, .int (Int32.ofInt (-1))), (3, .int (0 : Int32)), (0, .ref 234), (1, .int a), (2, .int (0 : Int32))], [.int (0 : Int32)], mj_h0)) (mj_one_of mj_d_179_172 fun _ _ => rfl) ?_
          refine mj_runs.step (S' := (mj_m_179, 178, [(6, .int (0 : Int32)), (5, .int (0 : Int32)), (4, .int (Int32.ofInt (-1))), (3, .int (0 : Int32)), (0, .ref 234), (1, .int a), (2, .int (0 : Int32))], [.int (0 : Int32)], mj_h0)) (mj_one_of mj_d_179_173 fun _ _ => rfl) ?_
          exact mj_runs.ret (mj_ret_of mj_d_179_178 fun _ _ => rfl)
        · exact mj_sz0
      · by_cases c3 : b.toInt = 1
        · obtain rfl : b = (1 : Int32) := Int32.toInt_inj.mp (by rw [show ((1 : Int32)).toInt = 1 by decide]; omega)
          refine ⟨(Int32.ofInt (-1)), mj_h0, mj_h0, ?_, ?_, ?_⟩
          · refine mj_runs.step (S' := (mj_m_100, 1, [(0, .ref 0), (1, .int a), (2, .int (1 : Int32))], [.int a], mj_h0)) (mj_one_of mj_d_100_0 fun _ _ => rfl) ?_
            refine mj_runs.step (S' := (mj_m_100, 2, [(0, .ref 0), (1, .int a), (2, .int (1 : Int32))], [.int (1 : Int32), .int a], mj_h0)) (mj_one_of mj_d_100_1 fun _ _ => rfl) ?_
            refine mj_runs.step (S' := (mj_m_100, 5, [(0, .ref 0), (1, .int a), (2, .int (1 : Int32))], [], mj_h0)) (mj_one_icmpF mj_d_100_2 (t := 11) rfl (mj_cF_lt (rfl : (a).toInt = (a).toInt) (show ((1 : Int32)).toInt = 1 by decide) (by omega))) ?_
            refine mj_runs.step (S' := (mj_m_100, 6, [(0, .ref 0), (1, .int a), (2, .int (1 : Int32))], [.int a], mj_h0)) (mj_one_of mj_d_100_5 fun _ _ => rfl) ?_
            refine mj_runs.step (S' := (mj_m_100, 8, [(0, .ref 0), (1, .int a), (2, .int (1 : Int32))], [.int (7 : Int32), .int a], mj_h0)) (mj_one_of mj_d_100_6 fun _ _ => rfl) ?_
            refine mj_runs.step (S' := (mj_m_100, 14, [(0, .ref 0), (1, .int a), (2, .int (1 : Int32))], [], mj_h0)) (mj_one_icmpT mj_d_100_8 rfl (mj_cT_le (rfl : (a).toInt = (a).toInt) (show ((7 : Int32)).toInt = 7 by decide) (by omega))) ?_
            refine mj_runs.step (S' := (mj_m_100, 15, [(0, .ref 0), (1, .int a), (2, .int (1 : Int32))], [.int (1 : Int32)], mj_h0)) (mj_one_of mj_d_100_14 fun _ _ => rfl) ?_
            refine mj_runs.step (S' := (mj_m_100, 56, [(0, .ref 0), (1, .int a), (2, .int (1 : Int32))], [], mj_h0)) (mj_one_of mj_d_100_15 fun _ _ => rfl) ?_
            refine mj_runs.step (S' := (mj_m_100, 57, [(0, .ref 0), (1, .int a), (2, .int (1 : Int32))], [.ref 0], mj_h0)) (mj_one_of mj_d_100_56 fun _ _ => rfl) ?_
            refine mj_runs.step (S' := (mj_m_100, 58, [(0, .ref 0), (1, .int a), (2, .int (1 : Int32))], [.int a, .ref 0], mj_h0)) (mj_one_of mj_d_100_57 fun _ _ => rfl) ?_
            refine mj_runs.call (S1 := (mj_m_103, 0, [(0, .ref 0), (1, .int a)], [], mj_h0)) (r1 := (some (.int (Int32.ofInt (-1))))) (h1 := mj_h0) (mj_calls_v mj_d_100_58 rfl rfl rfl rfl rfl rfl ⟨Nat.le_of_ble_eq_true rfl, ⟨Nat.le_of_ble_eq_true rfl, Nat.le_of_ble_eq_true rfl, Nat.le_of_ble_eq_true rfl, Nat.le_of_ble_eq_true rfl, Nat.le_of_ble_eq_true rfl⟩⟩) ?_ ?_
            · refine mj_runs.step (S' := (mj_m_103, 1, [(0, .ref 0), (1, .int a)], [.int (Int32.ofInt (-1))], mj_h0)) (mj_one_of mj_d_103_0 fun _ _ => rfl) ?_
              refine mj_runs.step (S' := (mj_m_103, 2, [(2, .int (Int32.ofInt (-1))), (0, .ref 0), (1, .int a)], [], mj_h0)) (mj_one_of mj_d_103_1 fun _ _ => rfl) ?_
              refine mj_runs.step (S' := (mj_m_103, 3, [(2, .int (Int32.ofInt (-1))), (0, .ref 0), (1, .int a)], [.int (0 : Int32)], mj_h0)) (mj_one_of mj_d_103_2 fun _ _ => rfl) ?_
              refine mj_runs.step (S' := (mj_m_103, 4, [(3, .int (0 : Int32)), (2, .int (Int32.ofInt (-1))), (0, .ref 0), (1, .int a)], [], mj_h0)) (mj_one_of mj_d_103_3 fun _ _ => rfl) ?_
              refine mj_runs.step (S' := (mj_m_103, 5, [(3, .int (0 : Int32)), (2, .int (Int32.ofInt (-1))), (0, .ref 0), (1, .int a)], [.int (0 : Int32)], mj_h0)) (mj_one_of mj_d_103_4 fun _ _ => rfl) ?_
              refine mj_runs.step (S' := (mj_m_103, 7, [(4, .int (0 : Int32)), (3, .int (0 : Int32)), (2, .int (Int32.ofInt (-1))), (0, .ref 0), (1, .int a)], [], mj_h0)) (mj_one_of mj_d_103_5 fun _ _ => rfl) ?_
              refine mj_runs.step (S' := (mj_m_103, 9, [(4, .int (0 : Int32)), (3, .int (0 : Int32)), (2, .int (Int32.ofInt (-1))), (0, .ref 0), (1, .int a)], [.int (0 : Int32)], mj_h0)) (mj_one_of mj_d_103_7 fun _ _ => rfl) ?_
              refine mj_runs.step (S' := (mj_m_103, 10, [(4, .int (0 : Int32)), (3, .int (0 : Int32)), (2, .int (Int32.ofInt (-1))), (0, .ref 0), (1, .int a)], [.ref 0, .int (0 : Int32)], mj_h0)) (mj_one_of mj_d_103_9 fun _ _ => rfl) ?_
              refine mj_runs.step (S' := (mj_m_103, 13, [(4, .int (0 : Int32)), (3, .int (0 : Int32)), (2, .int (Int32.ofInt (-1))), (0, .ref 0), (1, .int a)], [.ref 8, .int (0 : Int32)], mj_h0)) (mj_one_of mj_d_103_10 fun _ _ => rfl) ?_
              refine mj_runs.step (S' := (mj_m_103, 16, [(4, .int (0 : Int32)), (3, .int (0 : Int32)), (2, .int (Int32.ofInt (-1))), (0, .ref 0), (1, .int a)], [.int (0 : Int32), .int (0 : Int32)], mj_h0)) (mj_one_of mj_d_103_13 fun _ _ => rfl) ?_
              refine mj_runs.step (S' := (mj_m_103, 73, [(4, .int (0 : Int32)), (3, .int (0 : Int32)), (2, .int (Int32.ofInt (-1))), (0, .ref 0), (1, .int a)], [], mj_h0)) (mj_one_of mj_d_103_16 fun _ _ => rfl) ?_
              refine mj_runs.step (S' := (mj_m_103, 74, [(4, .int (0 : Int32)), (3, .int (0 : Int32)), (2, .int (Int32.ofInt (-1))), (0, .ref 0), (1, .int a)], [.int (Int32.ofInt (-1))], mj_h0)) (mj_one_of mj_d_103_73 fun _ _ => rfl) ?_
              exact mj_runs.ret (mj_ret_of mj_d_103_74 fun _ _ => rfl)
            show mj_runs (mj_m_100, 61, [(0, .ref 0), (1, .int a), (2, .int (1 : Int32))], [.int (Int32.ofInt (-1))], mj_h0) _ _
            exact mj_runs.ret (mj_ret_of mj_d_100_61 fun _ _ => rfl)
          · refine mj_runs.step (S' := (mj_m_179, 1, [(0, .ref 234), (1, .int a), (2, .int (1 : Int32))], [.int a], mj_h0)) (mj_one_of mj_d_179_0 fun _ _ => rfl) ?_
            refine mj_runs.step (S' := (mj_m_179, 2, [(0, .ref 234), (1, .int a), (2, .int (1 : Int32))], [.long (a).toInt64], mj_h0)) (mj_one_of mj_d_179_1 fun _ _ => rfl) ?_
            refine mj_runs.step (S' := (mj_m_179, 3, [(0, .ref 234), (1, .int a), (2, .int (1 : Int32))], [.long (1 : Int64), .long (a).toInt64], mj_h0)) (mj_one_of mj_d_179_2 fun _ _ => rfl) ?_
            refine mj_runs.step (S' := (mj_m_179, 6, [(0, .ref 234), (1, .int a), (2, .int (1 : Int32))], [.long (7 : Int64), .long (1 : Int64), .long (a).toInt64], mj_h0)) (mj_one_of mj_d_179_3 fun _ _ => rfl) ?_
            refine mj_runs.call (S1 := (mj_m_125, 0, [(0, .long (a).toInt64), (2, .long (1 : Int64)), (4, .long (7 : Int64))], [], mj_h0)) (r1 := (some (.int (1 : Int32)))) (h1 := mj_h0) (mj_calls_s mj_d_179_6 rfl rfl rfl rfl ⟨Nat.le_of_ble_eq_true rfl, Nat.le_of_ble_eq_true rfl, Nat.le_of_ble_eq_true rfl, Nat.le_of_ble_eq_true rfl, Nat.le_of_ble_eq_true rfl⟩) ?_ ?_
            · refine mj_runs.step (S' := (mj_m_125, 1, [(0, .long (a).toInt64), (2, .long (1 : Int64)), (4, .long (7 : Int64))], [.long (a).toInt64], mj_h0)) (mj_one_of mj_d_125_0 fun _ _ => rfl) ?_
              refine mj_runs.step (S' := (mj_m_125, 2, [(0, .long (a).toInt64), (2, .long (1 : Int64)), (4, .long (7 : Int64))], [.long (1 : Int64), .long (a).toInt64], mj_h0)) (mj_one_of mj_d_125_1 fun _ _ => rfl) ?_
              refine mj_runs.step (S' := (mj_m_125, 3, [(0, .long (a).toInt64), (2, .long (1 : Int64)), (4, .long (7 : Int64))], [.int (lg_cmp (a).toInt64 (1 : Int64))], mj_h0)) (mj_one_of mj_d_125_2 fun _ _ => rfl) ?_
              refine mj_runs.step (S' := (mj_m_125, 6, [(0, .long (a).toInt64), (2, .long (1 : Int64)), (4, .long (7 : Int64))], [], mj_h0)) (mj_one_ifF mj_d_125_3 (t := 17) rfl (mj_lgF_lt (mj_l32 a) (show ((1 : Int64)).toInt = 1 by decide) (by omega))) ?_
              refine mj_runs.step (S' := (mj_m_125, 7, [(0, .long (a).toInt64), (2, .long (1 : Int64)), (4, .long (7 : Int64))], [.long (a).toInt64], mj_h0)) (mj_one_of mj_d_125_6 fun _ _ => rfl) ?_
              refine mj_runs.step (S' := (mj_m_125, 9, [(0, .long (a).toInt64), (2, .long (1 : Int64)), (4, .long (7 : Int64))], [.long (7 : Int64), .long (a).toInt64], mj_h0)) (mj_one_of mj_d_125_7 fun _ _ => rfl) ?_
              refine mj_runs.step (S' := (mj_m_125, 10, [(0, .long (a).toInt64), (2, .long (1 : Int64)), (4, .long (7 : Int64))], [.int (lg_cmp (a).toInt64 (7 : Int64))], mj_h0)) (mj_one_of mj_d_125_9 fun _ _ => rfl) ?_
              refine mj_runs.step (S' := (mj_m_125, 13, [(0, .long (a).toInt64), (2, .long (1 : Int64)), (4, .long (7 : Int64))], [], mj_h0)) (mj_one_ifF mj_d_125_10 (t := 17) rfl (mj_lgF_gt (mj_l32 a) (show ((7 : Int64)).toInt = 7 by decide) (by omega))) ?_
              refine mj_runs.step (S' := (mj_m_125, 14, [(0, .long (a).toInt64), (2, .long (1 : Int64)), (4, .long (7 : Int64))], [.int (1 : Int32)], mj_h0)) (mj_one_of mj_d_125_13 fun _ _ => rfl) ?_
              refine mj_runs.step (S' := (mj_m_125, 18, [(0, .long (a).toInt64), (2, .long (1 : Int64)), (4, .long (7 : Int64))], [.int (1 : Int32)], mj_h0)) (mj_one_of mj_d_125_14 fun _ _ => rfl) ?_
              exact mj_runs.ret (mj_ret_of mj_d_125_18 fun _ _ => rfl)
            show mj_runs (mj_m_179, 9, [(0, .ref 234), (1, .int a), (2, .int (1 : Int32))], [.int (1 : Int32)], mj_h0) _ _
            refine mj_runs.step (S' := (mj_m_179, 12, [(0, .ref 234), (1, .int a), (2, .int (1 : Int32))], [], mj_h0)) (mj_one_of mj_d_179_9 fun _ _ => rfl) ?_
            refine mj_runs.step (S' := (mj_m_179, 13, [(0, .ref 234), (1, .int a), (2, .int (1 : Int32))], [.int (1 : Int32)], mj_h0)) (mj_one_of mj_d_179_12 fun _ _ => rfl) ?_
            refine mj_runs.step (S' := (mj_m_179, 14, [(0, .ref 234), (1, .int a), (2, .int (1 : Int32))], [.long (1 : Int64)], mj_h0)) (mj_one_of mj_d_179_13 fun _ _ => rfl) ?_
            refine mj_runs.step (S' := (mj_m_179, 15, [(0, .ref 234), (1, .int a), (2, .int (1 : Int32))], [.long (0 : Int64), .long (1 : Int64)], mj_h0)) (mj_one_of mj_d_179_14 fun _ _ => rfl) ?_
            refine mj_runs.step (S' := (mj_m_179, 16, [(0, .ref 234), (1, .int a), (2, .int (1 : Int32))], [.long (1 : Int64), .long (0 : Int64), .long (1 : Int64)], mj_h0)) (mj_one_of mj_d_179_15 fun _ _ => rfl) ?_
            refine mj_runs.call (S1 := (mj_m_125, 0, [(0, .long (1 : Int64)), (2, .long (0 : Int64)), (4, .long (1 : Int64))], [], mj_h0)) (r1 := (some (.int (1 : Int32)))) (h1 := mj_h0) (mj_calls_s mj_d_179_16 rfl rfl rfl rfl ⟨Nat.le_of_ble_eq_true rfl, Nat.le_of_ble_eq_true rfl, Nat.le_of_ble_eq_true rfl, Nat.le_of_ble_eq_true rfl, Nat.le_of_ble_eq_true rfl⟩) ?_ ?_
            · refine mj_runs.step (S' := (mj_m_125, 1, [(0, .long (1 : Int64)), (2, .long (0 : Int64)), (4, .long (1 : Int64))], [.long (1 : Int64)], mj_h0)) (mj_one_of mj_d_125_0 fun _ _ => rfl) ?_
              refine mj_runs.step (S' := (mj_m_125, 2, [(0, .long (1 : Int64)), (2, .long (0 : Int64)), (4, .long (1 : Int64))], [.long (0 : Int64), .long (1 : Int64)], mj_h0)) (mj_one_of mj_d_125_1 fun _ _ => rfl) ?_
              refine mj_runs.step (S' := (mj_m_125, 3, [(0, .long (1 : Int64)), (2, .long (0 : Int64)), (4, .long (1 : Int64))], [.int (1 : Int32)], mj_h0)) (mj_one_of mj_d_125_2 fun _ _ => rfl) ?_
              refine mj_runs.step (S' := (mj_m_125, 6, [(0, .long (1 : Int64)), (2, .long (0 : Int64)), (4, .long (1 : Int64))], [], mj_h0)) (mj_one_of mj_d_125_3 fun _ _ => rfl) ?_
              refine mj_runs.step (S' := (mj_m_125, 7, [(0, .long (1 : Int64)), (2, .long (0 : Int64)), (4, .long (1 : Int64))], [.long (1 : Int64)], mj_h0)) (mj_one_of mj_d_125_6 fun _ _ => rfl) ?_
              refine mj_runs.step (S' := (mj_m_125, 9, [(0, .long (1 : Int64)), (2, .long (0 : Int64)), (4, .long (1 : Int64))], [.long (1 : Int64), .long (1 : Int64)], mj_h0)) (mj_one_of mj_d_125_7 fun _ _ => rfl) ?_
              refine mj_runs.step (S' := (mj_m_125, 10, [(0, .long (1 : Int64)), (2, .long (0 : Int64)), (4, .long (1 : Int64))], [.int (0 : Int32)], mj_h0)) (mj_one_of mj_d_125_9 fun _ _ => rfl) ?_
              refine mj_runs.step (S' := (mj_m_125, 13, [(0, .long (1 : Int64)), (2, .long (0 : Int64)), (4, .long (1 : Int64))], [], mj_h0)) (mj_one_of mj_d_125_10 fun _ _ => rfl) ?_
              refine mj_runs.step (S' := (mj_m_125, 14, [(0, .long (1 : Int64)), (2, .long (0 : Int64)), (4, .long (1 : Int64))], [.int (1 : Int32)], mj_h0)) (mj_one_of mj_d_125_13 fun _ _ => rfl) ?_
              refine mj_runs.step (S' := (mj_m_125, 18, [(0, .long (1 : Int64)), (2, .long (0 : Int64)), (4, .long (1 : Int64))], [.int (1 : Int32)], mj_h0)) (mj_one_of mj_d_125_14 fun _ _ => rfl) ?_
              exact mj_runs.ret (mj_ret_of mj_d_125_18 fun _ _ => rfl)
            show mj_runs (mj_m_179, 19, [(0, .ref 234), (1, .int a), (2, .int (1 : Int32))], [.int (1 : Int32)], mj_h0) _ _
            refine mj_runs.step (S' := (mj_m_179, 25, [(0, .ref 234), (1, .int a), (2, .int (1 : Int32))], [], mj_h0)) (mj_one_of mj_d_179_19 fun _ _ => rfl) ?_
            refine mj_runs.step (S' := (mj_m_179, 26, [(0, .ref 234), (1, .int a), (2, .int (1 : Int32))], [.int (0 : Int32)], mj_h0)) (mj_one_of mj_d_179_25 fun _ _ => rfl) ?_
            refine mj_runs.step (S' := (mj_m_179, 27, [(3, .int (0 : Int32)), (0, .ref 234), (1, .int a), (2, .int (1 : Int32))], [], mj_h0)) (mj_one_of mj_d_179_26 fun _ _ => rfl) ?_
            refine mj_runs.step (S' := (mj_m_179, 28, [(3, .int (0 : Int32)), (0, .ref 234), (1, .int a), (2, .int (1 : Int32))], [.int (Int32.ofInt (-1))], mj_h0)) (mj_one_of mj_d_179_27 fun _ _ => rfl) ?_
            refine mj_runs.step (S' := (mj_m_179, 30, [(4, .int (Int32.ofInt (-1))), (3, .int (0 : Int32)), (0, .ref 234), (1, .int a), (2, .int (1 : Int32))], [], mj_h0)) (mj_one_of mj_d_179_28 fun _ _ => rfl) ?_
            refine mj_runs.step (S' := (mj_m_179, 31, [(4, .int (Int32.ofInt (-1))), (3, .int (0 : Int32)), (0, .ref 234), (1, .int a), (2, .int (1 : Int32))], [.int (0 : Int32)], mj_h0)) (mj_one_of mj_d_179_30 fun _ _ => rfl) ?_
            refine mj_runs.step (S' := (mj_m_179, 33, [(5, .int (0 : Int32)), (4, .int (Int32.ofInt (-1))), (3, .int (0 : Int32)), (0, .ref 234), (1, .int a), (2, .int (1 : Int32))], [], mj_h0)) (mj_one_of mj_d_179_31 fun _ _ => rfl) ?_
            refine mj_runs.step (S' := (mj_m_179, 34, [(5, .int (0 : Int32)), (4, .int (Int32.ofInt (-1))), (3, .int (0 : Int32)), (0, .ref 234), (1, .int a), (2, .int (1 : Int32))], [.int (0 : Int32)], mj_h0)) (mj_one_of mj_d_179_33 fun _ _ => rfl) ?_
            refine mj_runs.step (S' := (mj_m_179, 36, [(6, .int (0 : Int32)), (5, .int (0 : Int32)), (4, .int (Int32.ofInt (-1))), (3, .int (0 : Int32)), (0, .ref 234), (1, .int a), (2, .int (1 : Int32))], [], mj_h0)) (mj_one_of mj_d_179_34 fun _ _ => rfl) ?_
            refine mj_runs.step (S' := (mj_m_179, 38, [(6, .int (0 : Int32)), (5, .int (0 : Int32)), (4, .int (Int32.ofInt (-1))), (3, .int (0 : Int32)), (0, .ref 234), (1, .int a), (2, .int (1 : Int32))], [.int (0 : Int32)], mj_h0)) (mj_one_of mj_d_179_36 fun _ _ => rfl) ?_
            refine mj_runs.step (S' := (mj_m_179, 39, [(6, .int (0 : Int32)), (5, .int (0 : Int32)), (4, .int (Int32.ofInt (-1))), (3, .int (0 : Int32)), (0, .ref 234), (1, .int a), (2, .int (1 : Int32))], [.ref 234, .int (0 : Int32)], mj_h0)) (mj_one_of mj_d_179_38 fun _ _ => rfl) ?_
            refine mj_runs.step (S' := (mj_m_179, 42, [(6, .int (0 : Int32)), (5, .int (0 : Int32)), (4, .int (Int32.ofInt (-1))), (3, .int (0 : Int32)), (0, .ref 234), (1, .int a), (2, .int (1 : Int32))], [.int (0 : Int32), .int (0 : Int32)], mj_h0)) (mj_one_of mj_d_179_39 fun _ _ => rfl) ?_
            refine mj_runs.step (S' := (mj_m_179, 168, [(6, .int (0 : Int32)), (5, .int (0 : Int32)), (4, .int (Int32.ofInt (-1))), (3, .int (0 : Int32)), (0, .ref 234), (1, .int a), (2, .int (1 : Int32))], [], mj_h0)) (mj_one_of mj_d_179_42 fun _ _ => rfl) ?_
            refine mj_runs.step (S' := (mj_m_179, 169, [(6, .int (0 : Int32)), (5, .int (0 : Int32)), (4, .int (Int32.ofInt (-1))), (3, .int (0 : Int32)), (0, .ref 234), (1, .int a), (2, .int (1 : Int32))], [.int (1 : Int32)], mj_h0)) (mj_one_of mj_d_179_168 fun _ _ => rfl) ?_
            refine mj_runs.step (S' := (mj_m_179, 176, [(6, .int (0 : Int32)), (5, .int (0 : Int32)), (4, .int (Int32.ofInt (-1))), (3, .int (0 : Int32)), (0, .ref 234), (1, .int a), (2, .int (1 : Int32))], [], mj_h0)) (mj_one_of mj_d_179_169 fun _ _ => rfl) ?_
            refine mj_runs.step (S' := (mj_m_179, 178, [(6, .int (0 : Int32)), (5, .int (0 : Int32)), (4, .int (Int32.ofInt (-1))), (3, .int (0 : Int32)), (0, .ref 234), (1, .int a), (2, .int (1 : Int32))], [.int (Int32.ofInt (-1))], mj_h0)) (mj_one_of mj_d_179_176 fun _ _ => rfl) ?_
            exact mj_runs.ret (mj_ret_of mj_d_179_178 fun _ _ => rfl)
          · exact mj_sz0
        · by_cases c4 : b.toInt < 0
          · refine ⟨(Int32.ofInt (-1000000002)), mj_h0, mj_h0, ?_, ?_, ?_⟩
            · refine mj_runs.step (S' := (mj_m_100, 1, [(0, .ref 0), (1, .int a), (2, .int b)], [.int a], mj_h0)) (mj_one_of mj_d_100_0 fun _ _ => rfl) ?_
              refine mj_runs.step (S' := (mj_m_100, 2, [(0, .ref 0), (1, .int a), (2, .int b)], [.int (1 : Int32), .int a], mj_h0)) (mj_one_of mj_d_100_1 fun _ _ => rfl) ?_
              refine mj_runs.step (S' := (mj_m_100, 5, [(0, .ref 0), (1, .int a), (2, .int b)], [], mj_h0)) (mj_one_icmpF mj_d_100_2 (t := 11) rfl (mj_cF_lt (rfl : (a).toInt = (a).toInt) (show ((1 : Int32)).toInt = 1 by decide) (by omega))) ?_
              refine mj_runs.step (S' := (mj_m_100, 6, [(0, .ref 0), (1, .int a), (2, .int b)], [.int a], mj_h0)) (mj_one_of mj_d_100_5 fun _ _ => rfl) ?_
              refine mj_runs.step (S' := (mj_m_100, 8, [(0, .ref 0), (1, .int a), (2, .int b)], [.int (7 : Int32), .int a], mj_h0)) (mj_one_of mj_d_100_6 fun _ _ => rfl) ?_
              refine mj_runs.step (S' := (mj_m_100, 14, [(0, .ref 0), (1, .int a), (2, .int b)], [], mj_h0)) (mj_one_icmpT mj_d_100_8 rfl (mj_cT_le (rfl : (a).toInt = (a).toInt) (show ((7 : Int32)).toInt = 7 by decide) (by omega))) ?_
              refine mj_runs.step (S' := (mj_m_100, 15, [(0, .ref 0), (1, .int a), (2, .int b)], [.int b], mj_h0)) (mj_one_of mj_d_100_14 fun _ _ => rfl) ?_
              refine mj_runs.step (S' := (mj_m_100, 62, [(0, .ref 0), (1, .int a), (2, .int b)], [], mj_h0)) (mj_one_look (off := 47) mj_d_100_15 (by decide) (by simp only [Op.lookupswitch.offset]; (repeat' first | rfl | split | (exfalso; omega))) rfl) ?_
              refine mj_runs.step (S' := (mj_m_100, 64, [(0, .ref 0), (1, .int a), (2, .int b)], [.int (Int32.ofInt (-1000000002))], mj_h0)) (mj_one_of mj_d_100_62 fun _ _ => rfl) ?_
              exact mj_runs.ret (mj_ret_of mj_d_100_64 fun _ _ => rfl)
            · refine mj_runs.step (S' := (mj_m_179, 1, [(0, .ref 234), (1, .int a), (2, .int b)], [.int a], mj_h0)) (mj_one_of mj_d_179_0 fun _ _ => rfl) ?_
              refine mj_runs.step (S' := (mj_m_179, 2, [(0, .ref 234), (1, .int a), (2, .int b)], [.long (a).toInt64], mj_h0)) (mj_one_of mj_d_179_1 fun _ _ => rfl) ?_
              refine mj_runs.step (S' := (mj_m_179, 3, [(0, .ref 234), (1, .int a), (2, .int b)], [.long (1 : Int64), .long (a).toInt64], mj_h0)) (mj_one_of mj_d_179_2 fun _ _ => rfl) ?_
              refine mj_runs.step (S' := (mj_m_179, 6, [(0, .ref 234), (1, .int a), (2, .int b)], [.long (7 : Int64), .long (1 : Int64), .long (a).toInt64], mj_h0)) (mj_one_of mj_d_179_3 fun _ _ => rfl) ?_
              refine mj_runs.call (S1 := (mj_m_125, 0, [(0, .long (a).toInt64), (2, .long (1 : Int64)), (4, .long (7 : Int64))], [], mj_h0)) (r1 := (some (.int (1 : Int32)))) (h1 := mj_h0) (mj_calls_s mj_d_179_6 rfl rfl rfl rfl ⟨Nat.le_of_ble_eq_true rfl, Nat.le_of_ble_eq_true rfl, Nat.le_of_ble_eq_true rfl, Nat.le_of_ble_eq_true rfl, Nat.le_of_ble_eq_true rfl⟩) ?_ ?_
              · refine mj_runs.step (S' := (mj_m_125, 1, [(0, .long (a).toInt64), (2, .long (1 : Int64)), (4, .long (7 : Int64))], [.long (a).toInt64], mj_h0)) (mj_one_of mj_d_125_0 fun _ _ => rfl) ?_
                refine mj_runs.step (S' := (mj_m_125, 2, [(0, .long (a).toInt64), (2, .long (1 : Int64)), (4, .long (7 : Int64))], [.long (1 : Int64), .long (a).toInt64], mj_h0)) (mj_one_of mj_d_125_1 fun _ _ => rfl) ?_
                refine mj_runs.step (S' := (mj_m_125, 3, [(0, .long (a).toInt64), (2, .long (1 : Int64)), (4, .long (7 : Int64))], [.int (lg_cmp (a).toInt64 (1 : Int64))], mj_h0)) (mj_one_of mj_d_125_2 fun _ _ => rfl) ?_
                refine mj_runs.step (S' := (mj_m_125, 6, [(0, .long (a).toInt64), (2, .long (1 : Int64)), (4, .long (7 : Int64))], [], mj_h0)) (mj_one_ifF mj_d_125_3 (t := 17) rfl (mj_lgF_lt (mj_l32 a) (show ((1 : Int64)).toInt = 1 by decide) (by omega))) ?_
                refine mj_runs.step (S' := (mj_m_125, 7, [(0, .long (a).toInt64), (2, .long (1 : Int64)), (4, .long (7 : Int64))], [.long (a).toInt64], mj_h0)) (mj_one_of mj_d_125_6 fun _ _ => rfl) ?_
                refine mj_runs.step (S' := (mj_m_125, 9, [(0, .long (a).toInt64), (2, .long (1 : Int64)), (4, .long (7 : Int64))], [.long (7 : Int64), .long (a).toInt64], mj_h0)) (mj_one_of mj_d_125_7 fun _ _ => rfl) ?_
                refine mj_runs.step (S' := (mj_m_125, 10, [(0, .long (a).toInt64), (2, .long (1 : Int64)), (4, .long (7 : Int64))], [.int (lg_cmp (a).toInt64 (7 : Int64))], mj_h0)) (mj_one_of mj_d_125_9 fun _ _ => rfl) ?_
                refine mj_runs.step (S' := (mj_m_125, 13, [(0, .long (a).toInt64), (2, .long (1 : Int64)), (4, .long (7 : Int64))], [], mj_h0)) (mj_one_ifF mj_d_125_10 (t := 17) rfl (mj_lgF_gt (mj_l32 a) (show ((7 : Int64)).toInt = 7 by decide) (by omega))) ?_
                refine mj_runs.step (S' := (mj_m_125, 14, [(0, .long (a).toInt64), (2, .long (1 : Int64)), (4, .long (7 : Int64))], [.int (1 : Int32)], mj_h0)) (mj_one_of mj_d_125_13 fun _ _ => rfl) ?_
                refine mj_runs.step (S' := (mj_m_125, 18, [(0, .long (a).toInt64), (2, .long (1 : Int64)), (4, .long (7 : Int64))], [.int (1 : Int32)], mj_h0)) (mj_one_of mj_d_125_14 fun _ _ => rfl) ?_
                exact mj_runs.ret (mj_ret_of mj_d_125_18 fun _ _ => rfl)
              show mj_runs (mj_m_179, 9, [(0, .ref 234), (1, .int a), (2, .int b)], [.int (1 : Int32)], mj_h0) _ _
              refine mj_runs.step (S' := (mj_m_179, 12, [(0, .ref 234), (1, .int a), (2, .int b)], [], mj_h0)) (mj_one_of mj_d_179_9 fun _ _ => rfl) ?_
              refine mj_runs.step (S' := (mj_m_179, 13, [(0, .ref 234), (1, .int a), (2, .int b)], [.int b], mj_h0)) (mj_one_of mj_d_179_12 fun _ _ => rfl) ?_
              refine mj_runs.step (S' := (mj_m_179, 14, [(0, .ref 234), (1, .int a), (2, .int b)], [.long (b).toInt64], mj_h0)) (mj_one_of mj_d_179_13 fun _ _ => rfl) ?_
              refine mj_runs.step (S' := (mj_m_179, 15, [(0, .ref 234), (1, .int a), (2, .int b)], [.long (0 : Int64), .long (b).toInt64], mj_h0)) (mj_one_of mj_d_179_14 fun _ _ => rfl) ?_
              refine mj_runs.step (S' := (mj_m_179, 16, [(0, .ref 234), (1, .int a), (2, .int b)], [.long (1 : Int64), .long (0 : Int64), .long (b).toInt64], mj_h0)) (mj_one_of mj_d_179_15 fun _ _ => rfl) ?_
              refine mj_runs.call (S1 := (mj_m_125, 0, [(0, .long (b).toInt64), (2, .long (0 : Int64)), (4, .long (1 : Int64))], [], mj_h0)) (r1 := (some (.int (0 : Int32)))) (h1 := mj_h0) (mj_calls_s mj_d_179_16 rfl rfl rfl rfl ⟨Nat.le_of_ble_eq_true rfl, Nat.le_of_ble_eq_true rfl, Nat.le_of_ble_eq_true rfl, Nat.le_of_ble_eq_true rfl, Nat.le_of_ble_eq_true rfl⟩) ?_ ?_
              · refine mj_runs.step (S' := (mj_m_125, 1, [(0, .long (b).toInt64), (2, .long (0 : Int64)), (4, .long (1 : Int64))], [.long (b).toInt64], mj_h0)) (mj_one_of mj_d_125_0 fun _ _ => rfl) ?_
                refine mj_runs.step (S' := (mj_m_125, 2, [(0, .long (b).toInt64), (2, .long (0 : Int64)), (4, .long (1 : Int64))], [.long (0 : Int64), .long (b).toInt64], mj_h0)) (mj_one_of mj_d_125_1 fun _ _ => rfl) ?_
                refine mj_runs.step (S' := (mj_m_125, 3, [(0, .long (b).toInt64), (2, .long (0 : Int64)), (4, .long (1 : Int64))], [.int (lg_cmp (b).toInt64 (0 : Int64))], mj_h0)) (mj_one_of mj_d_125_2 fun _ _ => rfl) ?_
                refine mj_runs.step (S' := (mj_m_125, 17, [(0, .long (b).toInt64), (2, .long (0 : Int64)), (4, .long (1 : Int64))], [], mj_h0)) (mj_one_ifT mj_d_125_3 rfl (mj_lgT_lt (mj_l32 b) (show ((0 : Int64)).toInt = 0 by decide) (by omega))) ?_
                refine mj_runs.step (S' := (mj_m_125, 18, [(0, .long (b).toInt64), (2, .long (0 : Int64)), (4, .long (1 : Int64))], [.int (0 : Int32)], mj_h0)) (mj_one_of mj_d_125_17 fun _ _ => rfl) ?_
                exact mj_runs.ret (mj_ret_of mj_d_125_18 fun _ _ => rfl)
              show mj_runs (mj_m_179, 19, [(0, .ref 234), (1, .int a), (2, .int b)], [.int (0 : Int32)], mj_h0) _ _
              refine mj_runs.step (S' := (mj_m_179, 22, [(0, .ref 234), (1, .int a), (2, .int b)], [], mj_h0)) (mj_one_of mj_d_179_19 fun _ _ => rfl) ?_
              refine mj_runs.step (S' := (mj_m_179, 24, [(0, .ref 234), (1, .int a), (2, .int b)], [.int (Int32.ofInt (-1000000002))], mj_h0)) (mj_one_of mj_d_179_22 fun _ _ => rfl) ?_
              exact mj_runs.ret (mj_ret_of mj_d_179_24 fun _ _ => rfl)
            · exact mj_sz0
          · refine ⟨(Int32.ofInt (-1000000002)), mj_h0, mj_h0, ?_, ?_, ?_⟩
            · refine mj_runs.step (S' := (mj_m_100, 1, [(0, .ref 0), (1, .int a), (2, .int b)], [.int a], mj_h0)) (mj_one_of mj_d_100_0 fun _ _ => rfl) ?_
              refine mj_runs.step (S' := (mj_m_100, 2, [(0, .ref 0), (1, .int a), (2, .int b)], [.int (1 : Int32), .int a], mj_h0)) (mj_one_of mj_d_100_1 fun _ _ => rfl) ?_
              refine mj_runs.step (S' := (mj_m_100, 5, [(0, .ref 0), (1, .int a), (2, .int b)], [], mj_h0)) (mj_one_icmpF mj_d_100_2 (t := 11) rfl (mj_cF_lt (rfl : (a).toInt = (a).toInt) (show ((1 : Int32)).toInt = 1 by decide) (by omega))) ?_
              refine mj_runs.step (S' := (mj_m_100, 6, [(0, .ref 0), (1, .int a), (2, .int b)], [.int a], mj_h0)) (mj_one_of mj_d_100_5 fun _ _ => rfl) ?_
              refine mj_runs.step (S' := (mj_m_100, 8, [(0, .ref 0), (1, .int a), (2, .int b)], [.int (7 : Int32), .int a], mj_h0)) (mj_one_of mj_d_100_6 fun _ _ => rfl) ?_
              refine mj_runs.step (S' := (mj_m_100, 14, [(0, .ref 0), (1, .int a), (2, .int b)], [], mj_h0)) (mj_one_icmpT mj_d_100_8 rfl (mj_cT_le (rfl : (a).toInt = (a).toInt) (show ((7 : Int32)).toInt = 7 by decide) (by omega))) ?_
              refine mj_runs.step (S' := (mj_m_100, 15, [(0, .ref 0), (1, .int a), (2, .int b)], [.int b], mj_h0)) (mj_one_of mj_d_100_14 fun _ _ => rfl) ?_
              refine mj_runs.step (S' := (mj_m_100, 62, [(0, .ref 0), (1, .int a), (2, .int b)], [], mj_h0)) (mj_one_look (off := 47) mj_d_100_15 (by decide) (by simp only [Op.lookupswitch.offset]; (repeat' first | rfl | split | (exfalso; omega))) rfl) ?_
              refine mj_runs.step (S' := (mj_m_100, 64, [(0, .ref 0), (1, .int a), (2, .int b)], [.int (Int32.ofInt (-1000000002))], mj_h0)) (mj_one_of mj_d_100_62 fun _ _ => rfl) ?_
              exact mj_runs.ret (mj_ret_of mj_d_100_64 fun _ _ => rfl)
            · refine mj_runs.step (S' := (mj_m_179, 1, [(0, .ref 234), (1, .int a), (2, .int b)], [.int a], mj_h0)) (mj_one_of mj_d_179_0 fun _ _ => rfl) ?_
              refine mj_runs.step (S' := (mj_m_179, 2, [(0, .ref 234), (1, .int a), (2, .int b)], [.long (a).toInt64], mj_h0)) (mj_one_of mj_d_179_1 fun _ _ => rfl) ?_
              refine mj_runs.step (S' := (mj_m_179, 3, [(0, .ref 234), (1, .int a), (2, .int b)], [.long (1 : Int64), .long (a).toInt64], mj_h0)) (mj_one_of mj_d_179_2 fun _ _ => rfl) ?_
              refine mj_runs.step (S' := (mj_m_179, 6, [(0, .ref 234), (1, .int a), (2, .int b)], [.long (7 : Int64), .long (1 : Int64), .long (a).toInt64], mj_h0)) (mj_one_of mj_d_179_3 fun _ _ => rfl) ?_
              refine mj_runs.call (S1 := (mj_m_125, 0, [(0, .long (a).toInt64), (2, .long (1 : Int64)), (4, .long (7 : Int64))], [], mj_h0)) (r1 := (some (.int (1 : Int32)))) (h1 := mj_h0) (mj_calls_s mj_d_179_6 rfl rfl rfl rfl ⟨Nat.le_of_ble_eq_true rfl, Nat.le_of_ble_eq_true rfl, Nat.le_of_ble_eq_true rfl, Nat.le_of_ble_eq_true rfl, Nat.le_of_ble_eq_true rfl⟩) ?_ ?_
              · refine mj_runs.step (S' := (mj_m_125, 1, [(0, .long (a).toInt64), (2, .long (1 : Int64)), (4, .long (7 : Int64))], [.long (a).toInt64], mj_h0)) (mj_one_of mj_d_125_0 fun _ _ => rfl) ?_
                refine mj_runs.step (S' := (mj_m_125, 2, [(0, .long (a).toInt64), (2, .long (1 : Int64)), (4, .long (7 : Int64))], [.long (1 : Int64), .long (a).toInt64], mj_h0)) (mj_one_of mj_d_125_1 fun _ _ => rfl) ?_
                refine mj_runs.step (S' := (mj_m_125, 3, [(0, .long (a).toInt64), (2, .long (1 : Int64)), (4, .long (7 : Int64))], [.int (lg_cmp (a).toInt64 (1 : Int64))], mj_h0)) (mj_one_of mj_d_125_2 fun _ _ => rfl) ?_
                refine mj_runs.step (S' := (mj_m_125, 6, [(0, .long (a).toInt64), (2, .long (1 : Int64)), (4, .long (7 : Int64))], [], mj_h0)) (mj_one_ifF mj_d_125_3 (t := 17) rfl (mj_lgF_lt (mj_l32 a) (show ((1 : Int64)).toInt = 1 by decide) (by omega))) ?_
                refine mj_runs.step (S' := (mj_m_125, 7, [(0, .long (a).toInt64), (2, .long (1 : Int64)), (4, .long (7 : Int64))], [.long (a).toInt64], mj_h0)) (mj_one_of mj_d_125_6 fun _ _ => rfl) ?_
                refine mj_runs.step (S' := (mj_m_125, 9, [(0, .long (a).toInt64), (2, .long (1 : Int64)), (4, .long (7 : Int64))], [.long (7 : Int64), .long (a).toInt64], mj_h0)) (mj_one_of mj_d_125_7 fun _ _ => rfl) ?_
                refine mj_runs.step (S' := (mj_m_125, 10, [(0, .long (a).toInt64), (2, .long (1 : Int64)), (4, .long (7 : Int64))], [.int (lg_cmp (a).toInt64 (7 : Int64))], mj_h0)) (mj_one_of mj_d_125_9 fun _ _ => rfl) ?_
                refine mj_runs.step (S' := (mj_m_125, 13, [(0, .long (a).toInt64), (2, .long (1 : Int64)), (4, .long (7 : Int64))], [], mj_h0)) (mj_one_ifF mj_d_125_10 (t := 17) rfl (mj_lgF_gt (mj_l32 a) (show ((7 : Int64)).toInt = 7 by decide) (by omega))) ?_
                refine mj_runs.step (S' := (mj_m_125, 14, [(0, .long (a).toInt64), (2, .long (1 : Int64)), (4, .long (7 : Int64))], [.int (1 : Int32)], mj_h0)) (mj_one_of mj_d_125_13 fun _ _ => rfl) ?_
                refine mj_runs.step (S' := (mj_m_125, 18, [(0, .long (a).toInt64), (2, .long (1 : Int64)), (4, .long (7 : Int64))], [.int (1 : Int32)], mj_h0)) (mj_one_of mj_d_125_14 fun _ _ => rfl) ?_
                exact mj_runs.ret (mj_ret_of mj_d_125_18 fun _ _ => rfl)
              show mj_runs (mj_m_179, 9, [(0, .ref 234), (1, .int a), (2, .int b)], [.int (1 : Int32)], mj_h0) _ _
              refine mj_runs.step (S' := (mj_m_179, 12, [(0, .ref 234), (1, .int a), (2, .int b)], [], mj_h0)) (mj_one_of mj_d_179_9 fun _ _ => rfl) ?_
              refine mj_runs.step (S' := (mj_m_179, 13, [(0, .ref 234), (1, .int a), (2, .int b)], [.int b], mj_h0)) (mj_one_of mj_d_179_12 fun _ _ => rfl) ?_
              refine mj_runs.step (S' := (mj_m_179, 14, [(0, .ref 234), (1, .int a), (2, .int b)], [.long (b).toInt64], mj_h0)) (mj_one_of mj_d_179_13 fun _ _ => rfl) ?_
              refine mj_runs.step (S' := (mj_m_179, 15, [(0, .ref 234), (1, .int a), (2, .int b)], [.long (0 : Int64), .long (b).toInt64], mj_h0)) (mj_one_of mj_d_179_14 fun _ _ => rfl) ?_
              refine mj_runs.step (S' := (mj_m_179, 16, [(0, .ref 234), (1, .int a), (2, .int b)], [.long (1 : Int64), .long (0 : Int64), .long (b).toInt64], mj_h0)) (mj_one_of mj_d_179_15 fun _ _ => rfl) ?_
              refine mj_runs.call (S1 := (mj_m_125, 0, [(0, .long (b).toInt64), (2, .long (0 : Int64)), (4, .long (1 : Int64))], [], mj_h0)) (r1 := (some (.int (0 : Int32)))) (h1 := mj_h0) (mj_calls_s mj_d_179_16 rfl rfl rfl rfl ⟨Nat.le_of_ble_eq_true rfl, Nat.le_of_ble_eq_true rfl, Nat.le_of_ble_eq_true rfl, Nat.le_of_ble_eq_true rfl, Nat.le_of_ble_eq_true rfl⟩) ?_ ?_
              · refine mj_runs.step (S' := (mj_m_125, 1, [(0, .long (b).toInt64), (2, .long (0 : Int64)), (4, .long (1 : Int64))], [.long (b).toInt64], mj_h0)) (mj_one_of mj_d_125_0 fun _ _ => rfl) ?_
                refine mj_runs.step (S' := (mj_m_125, 2, [(0, .long (b).toInt64), (2, .long (0 : Int64)), (4, .long (1 : Int64))], [.long (0 : Int64), .long (b).toInt64], mj_h0)) (mj_one_of mj_d_125_1 fun _ _ => rfl) ?_
                refine mj_runs.step (S' := (mj_m_125, 3, [(0, .long (b).toInt64), (2, .long (0 : Int64)), (4, .long (1 : Int64))], [.int (lg_cmp (b).toInt64 (0 : Int64))], mj_h0)) (mj_one_of mj_d_125_2 fun _ _ => rfl) ?_
                refine mj_runs.step (S' := (mj_m_125, 6, [(0, .long (b).toInt64), (2, .long (0 : Int64)), (4, .long (1 : Int64))], [], mj_h0)) (mj_one_ifF mj_d_125_3 (t := 17) rfl (mj_lgF_lt (mj_l32 b) (show ((0 : Int64)).toInt = 0 by decide) (by omega))) ?_
                refine mj_runs.step (S' := (mj_m_125, 7, [(0, .long (b).toInt64), (2, .long (0 : Int64)), (4, .long (1 : Int64))], [.long (b).toInt64], mj_h0)) (mj_one_of mj_d_125_6 fun _ _ => rfl) ?_
                refine mj_runs.step (S' := (mj_m_125, 9, [(0, .long (b).toInt64), (2, .long (0 : Int64)), (4, .long (1 : Int64))], [.long (1 : Int64), .long (b).toInt64], mj_h0)) (mj_one_of mj_d_125_7 fun _ _ => rfl) ?_
                refine mj_runs.step (S' := (mj_m_125, 10, [(0, .long (b).toInt64), (2, .long (0 : Int64)), (4, .long (1 : Int64))], [.int (lg_cmp (b).toInt64 (1 : Int64))], mj_h0)) (mj_one_of mj_d_125_9 fun _ _ => rfl) ?_
                refine mj_runs.step (S' := (mj_m_125, 17, [(0, .long (b).toInt64), (2, .long (0 : Int64)), (4, .long (1 : Int64))], [], mj_h0)) (mj_one_ifT mj_d_125_10 rfl (mj_lgT_gt (mj_l32 b) (show ((1 : Int64)).toInt = 1 by decide) (by omega))) ?_
                refine mj_runs.step (S' := (mj_m_125, 18, [(0, .long (b).toInt64), (2, .long (0 : Int64)), (4, .long (1 : Int64))], [.int (0 : Int32)], mj_h0)) (mj_one_of mj_d_125_17 fun _ _ => rfl) ?_
                exact mj_runs.ret (mj_ret_of mj_d_125_18 fun _ _ => rfl)
              show mj_runs (mj_m_179, 19, [(0, .ref 234), (1, .int a), (2, .int b)], [.int (0 : Int32)], mj_h0) _ _
              refine mj_runs.step (S' := (mj_m_179, 22, [(0, .ref 234), (1, .int a), (2, .int b)], [], mj_h0)) (mj_one_of mj_d_179_19 fun _ _ => rfl) ?_
              refine mj_runs.step (S' := (mj_m_179, 24, [(0, .ref 234), (1, .int a), (2, .int b)], [.int (Int32.ofInt (-1000000002))], mj_h0)) (mj_one_of mj_d_179_22 fun _ _ => rfl) ?_
              exact mj_runs.ret (mj_ret_of mj_d_179_24 fun _ _ => rfl)
            · exact mj_sz0
    · refine ⟨(Int32.ofInt (-1000000002)), mj_h0, mj_h0, ?_, ?_, ?_⟩
      · refine mj_runs.step (S' := (mj_m_100, 1, [(0, .ref 0), (1, .int a), (2, .int b)], [.int a], mj_h0)) (mj_one_of mj_d_100_0 fun _ _ => rfl) ?_
        refine mj_runs.step (S' := (mj_m_100, 2, [(0, .ref 0), (1, .int a), (2, .int b)], [.int (1 : Int32), .int a], mj_h0)) (mj_one_of mj_d_100_1 fun _ _ => rfl) ?_
        refine mj_runs.step (S' := (mj_m_100, 5, [(0, .ref 0), (1, .int a), (2, .int b)], [], mj_h0)) (mj_one_icmpF mj_d_100_2 (t := 11) rfl (mj_cF_lt (rfl : (a).toInt = (a).toInt) (show ((1 : Int32)).toInt = 1 by decide) (by omega))) ?_
        refine mj_runs.step (S' := (mj_m_100, 6, [(0, .ref 0), (1, .int a), (2, .int b)], [.int a], mj_h0)) (mj_one_of mj_d_100_5 fun _ _ => rfl) ?_
        refine mj_runs.step (S' := (mj_m_100, 8, [(0, .ref 0), (1, .int a), (2, .int b)], [.int (7 : Int32), .int a], mj_h0)) (mj_one_of mj_d_100_6 fun _ _ => rfl) ?_
        refine mj_runs.step (S' := (mj_m_100, 11, [(0, .ref 0), (1, .int a), (2, .int b)], [], mj_h0)) (mj_one_icmpF mj_d_100_8 (t := 14) rfl (mj_cF_le (rfl : (a).toInt = (a).toInt) (show ((7 : Int32)).toInt = 7 by decide) (by omega))) ?_
        refine mj_runs.step (S' := (mj_m_100, 13, [(0, .ref 0), (1, .int a), (2, .int b)], [.int (Int32.ofInt (-1000000002))], mj_h0)) (mj_one_of mj_d_100_11 fun _ _ => rfl) ?_
        exact mj_runs.ret (mj_ret_of mj_d_100_13 fun _ _ => rfl)
      · refine mj_runs.step (S' := (mj_m_179, 1, [(0, .ref 234), (1, .int a), (2, .int b)], [.int a], mj_h0)) (mj_one_of mj_d_179_0 fun _ _ => rfl) ?_
        refine mj_runs.step (S' := (mj_m_179, 2, [(0, .ref 234), (1, .int a), (2, .int b)], [.long (a).toInt64], mj_h0)) (mj_one_of mj_d_179_1 fun _ _ => rfl) ?_
        refine mj_runs.step (S' := (mj_m_179, 3, [(0, .ref 234), (1, .int a), (2, .int b)], [.long (1 : Int64), .long (a).toInt64], mj_h0)) (mj_one_of mj_d_179_2 fun _ _ => rfl) ?_
        refine mj_runs.step (S' := (mj_m_179, 6, [(0, .ref 234), (1, .int a), (2, .int b)], [.long (7 : Int64), .long (1 : Int64), .long (a).toInt64], mj_h0)) (mj_one_of mj_d_179_3 fun _ _ => rfl) ?_
        refine mj_runs.call (S1 := (mj_m_125, 0, [(0, .long (a).toInt64), (2, .long (1 : Int64)), (4, .long (7 : Int64))], [], mj_h0)) (r1 := (some (.int (0 : Int32)))) (h1 := mj_h0) (mj_calls_s mj_d_179_6 rfl rfl rfl rfl ⟨Nat.le_of_ble_eq_true rfl, Nat.le_of_ble_eq_true rfl, Nat.le_of_ble_eq_true rfl, Nat.le_of_ble_eq_true rfl, Nat.le_of_ble_eq_true rfl⟩) ?_ ?_
        · refine mj_runs.step (S' := (mj_m_125, 1, [(0, .long (a).toInt64), (2, .long (1 : Int64)), (4, .long (7 : Int64))], [.long (a).toInt64], mj_h0)) (mj_one_of mj_d_125_0 fun _ _ => rfl) ?_
          refine mj_runs.step (S' := (mj_m_125, 2, [(0, .long (a).toInt64), (2, .long (1 : Int64)), (4, .long (7 : Int64))], [.long (1 : Int64), .long (a).toInt64], mj_h0)) (mj_one_of mj_d_125_1 fun _ _ => rfl) ?_
          refine mj_runs.step (S' := (mj_m_125, 3, [(0, .long (a).toInt64), (2, .long (1 : Int64)), (4, .long (7 : Int64))], [.int (lg_cmp (a).toInt64 (1 : Int64))], mj_h0)) (mj_one_of mj_d_125_2 fun _ _ => rfl) ?_
          refine mj_runs.step (S' := (mj_m_125, 6, [(0, .long (a).toInt64), (2, .long (1 : Int64)), (4, .long (7 : Int64))], [], mj_h0)) (mj_one_ifF mj_d_125_3 (t := 17) rfl (mj_lgF_lt (mj_l32 a) (show ((1 : Int64)).toInt = 1 by decide) (by omega))) ?_
          refine mj_runs.step (S' := (mj_m_125, 7, [(0, .long (a).toInt64), (2, .long (1 : Int64)), (4, .long (7 : Int64))], [.long (a).toInt64], mj_h0)) (mj_one_of mj_d_125_6 fun _ _ => rfl) ?_
          refine mj_runs.step (S' := (mj_m_125, 9, [(0, .long (a).toInt64), (2, .long (1 : Int64)), (4, .long (7 : Int64))], [.long (7 : Int64), .long (a).toInt64], mj_h0)) (mj_one_of mj_d_125_7 fun _ _ => rfl) ?_
          refine mj_runs.step (S' := (mj_m_125, 10, [(0, .long (a).toInt64), (2, .long (1 : Int64)), (4, .long (7 : Int64))], [.int (lg_cmp (a).toInt64 (7 : Int64))], mj_h0)) (mj_one_of mj_d_125_9 fun _ _ => rfl) ?_
          refine mj_runs.step (S' := (mj_m_125, 17, [(0, .long (a).toInt64), (2, .long (1 : Int64)), (4, .long (7 : Int64))], [], mj_h0)) (mj_one_ifT mj_d_125_10 rfl (mj_lgT_gt (mj_l32 a) (show ((7 : Int64)).toInt = 7 by decide) (by omega))) ?_
          refine mj_runs.step (S' := (mj_m_125, 18, [(0, .long (a).toInt64), (2, .long (1 : Int64)), (4, .long (7 : Int64))], [.int (0 : Int32)], mj_h0)) (mj_one_of mj_d_125_17 fun _ _ => rfl) ?_
          exact mj_runs.ret (mj_ret_of mj_d_125_18 fun _ _ => rfl)
        show mj_runs (mj_m_179, 9, [(0, .ref 234), (1, .int a), (2, .int b)], [.int (0 : Int32)], mj_h0) _ _
        refine mj_runs.step (S' := (mj_m_179, 22, [(0, .ref 234), (1, .int a), (2, .int b)], [], mj_h0)) (mj_one_of mj_d_179_9 fun _ _ => rfl) ?_
        refine mj_runs.step (S' := (mj_m_179, 24, [(0, .ref 234), (1, .int a), (2, .int b)], [.int (Int32.ofInt (-1000000002))], mj_h0)) (mj_one_of mj_d_179_22 fun _ _ => rfl) ?_
        exact mj_runs.ret (mj_ret_of mj_d_179_24 fun _ _ => rfl)
      · exact mj_sz0
set_option maxRecDepth 1000000 in
set_option maxHeartbeats 4000000 in
theorem mj_op_see (a b c : Int32) : ∃ (r : Int32) (h1 h2 : mj_H), mj_runs (mj_m_105, 0, [(0, .ref 0), (1, .int a), (2, .int b), (3, .int c)], [], mj_h0) (some (.int r)) h1 ∧ mj_runs (mj_m_181, 0, [(0, .ref 234), (1, .int a), (2, .int b), (3, .int c)], [], h1) (some (.int r)) h2 ∧ mj_sz h2 := by
  by_cases c0 : a.toInt < 0
  · refine ⟨(Int32.ofInt (-1000000001)), mj_h0, mj_h0, ?_, ?_, ?_⟩
    · refine mj_runs.step (S' := (mj_m_105, 1, [(0, .ref 0), (1, .int a), (2, .int b), (3, .int c)], [.ref 0], mj_h0)) (mj_one_of mj_d_105_0 fun _ _ => rfl) ?_
      refine mj_runs.step (S' := (mj_m_105, 2, [(0, .ref 0), (1, .int a), (2, .int b), (3, .int c)], [.int a, .ref 0], mj_h0)) (mj_one_of mj_d_105_1 fun _ _ => rfl) ?_
      refine mj_runs.call (S1 := (mj_m_39, 0, [(0, .ref 0), (1, .int a)], [], mj_h0)) (r1 := (some (.int (0 : Int32)))) (h1 := mj_h0) (mj_calls_v mj_d_105_2 rfl rfl rfl rfl rfl rfl ⟨Nat.le_of_ble_eq_true rfl, ⟨Nat.le_of_ble_eq_true rfl, Nat.le_of_ble_eq_true rfl, Nat.le_of_ble_eq_true rfl, Nat.le_of_ble_eq_true rfl, Nat.le_of_ble_eq_true rfl⟩⟩) ?_ ?_
      · refine mj_runs.step (S' := (mj_m_39, 1, [(0, .ref 0), (1, .int a)], [.int a], mj_h0)) (mj_one_of mj_d_39_0 fun _ _ => rfl) ?_
        refine mj_runs.step (S' := (mj_m_39, 19, [(0, .ref 0), (1, .int a)], [], mj_h0)) (mj_one_ifT mj_d_39_1 rfl (mj_cT_lt (rfl : (a).toInt = (a).toInt) (show ((0 : Int32)).toInt = 0 by decide) (by omega))) ?_
        refine mj_runs.step (S' := (mj_m_39, 20, [(0, .ref 0), (1, .int a)], [.int (0 : Int32)], mj_h0)) (mj_one_of mj_d_39_19 fun _ _ => rfl) ?_
        exact mj_runs.ret (mj_ret_of mj_d_39_20 fun _ _ => rfl)
      show mj_runs (mj_m_105, 5, [(0, .ref 0), (1, .int a), (2, .int b), (3, .int c)], [.int (0 : Int32)], mj_h0) _ _
      refine mj_runs.step (S' := (mj_m_105, 8, [(0, .ref 0), (1, .int a), (2, .int b), (3, .int c)], [], mj_h0)) (mj_one_of mj_d_105_5 fun _ _ => rfl) ?_
      refine mj_runs.step (S' := (mj_m_105, 10, [(0, .ref 0), (1, .int a), (2, .int b), (3, .int c)], [.int (Int32.ofInt (-1000000001))], mj_h0)) (mj_one_of mj_d_105_8 fun _ _ => rfl) ?_
      exact mj_runs.ret (mj_ret_of mj_d_105_10 fun _ _ => rfl)
    · refine mj_runs.step (S' := (mj_m_181, 1, [(0, .ref 234), (1, .int a), (2, .int b), (3, .int c)], [.ref 234], mj_h0)) (mj_one_of mj_d_181_0 fun _ _ => rfl) ?_
      refine mj_runs.step (S' := (mj_m_181, 2, [(0, .ref 234), (1, .int a), (2, .int b), (3, .int c)], [.int a, .ref 234], mj_h0)) (mj_one_of mj_d_181_1 fun _ _ => rfl) ?_
      refine mj_runs.call (S1 := (mj_m_140, 0, [(0, .ref 234), (1, .int a)], [], mj_h0)) (r1 := (some (.int (0 : Int32)))) (h1 := mj_h0) (mj_calls_v mj_d_181_2 rfl rfl rfl rfl rfl rfl ⟨Nat.le_of_ble_eq_true rfl, ⟨Nat.le_of_ble_eq_true rfl, Nat.le_of_ble_eq_true rfl, Nat.le_of_ble_eq_true rfl, Nat.le_of_ble_eq_true rfl, Nat.le_of_ble_eq_true rfl⟩⟩) ?_ ?_
      · refine mj_runs.step (S' := (mj_m_140, 1, [(0, .ref 234), (1, .int a)], [.int a], mj_h0)) (mj_one_of mj_d_140_0 fun _ _ => rfl) ?_
        refine mj_runs.step (S' := (mj_m_140, 2, [(0, .ref 234), (1, .int a)], [.long (a).toInt64], mj_h0)) (mj_one_of mj_d_140_1 fun _ _ => rfl) ?_
        refine mj_runs.step (S' := (mj_m_140, 3, [(0, .ref 234), (1, .int a)], [.long (0 : Int64), .long (a).toInt64], mj_h0)) (mj_one_of mj_d_140_2 fun _ _ => rfl) ?_
        refine mj_runs.step (S' := (mj_m_140, 4, [(0, .ref 234), (1, .int a)], [.ref 234, .long (0 : Int64), .long (a).toInt64], mj_h0)) (mj_one_of mj_d_140_3 fun _ _ => rfl) ?_
        refine mj_runs.step (S' := (mj_m_140, 7, [(0, .ref 234), (1, .int a)], [.int (0 : Int32), .long (0 : Int64), .long (a).toInt64], mj_h0)) (mj_one_of mj_d_140_4 fun _ _ => rfl) ?_
        refine mj_runs.step (S' := (mj_m_140, 8, [(0, .ref 234), (1, .int a)], [.int (1 : Int32), .int (0 : Int32), .long (0 : Int64), .long (a).toInt64], mj_h0)) (mj_one_of mj_d_140_7 fun _ _ => rfl) ?_
        refine mj_runs.step (S' := (mj_m_140, 9, [(0, .ref 234), (1, .int a)], [.int (Int32.ofInt (-1)), .long (0 : Int64), .long (a).toInt64], mj_h0)) (mj_one_of mj_d_140_8 fun _ _ => rfl) ?_
        refine mj_runs.step (S' := (mj_m_140, 10, [(0, .ref 234), (1, .int a)], [.long (Int64.ofInt (-1)), .long (0 : Int64), .long (a).toInt64], mj_h0)) (mj_one_of mj_d_140_9 fun _ _ => rfl) ?_
        refine mj_runs.call (S1 := (mj_m_125, 0, [(0, .long (a).toInt64), (2, .long (0 : Int64)), (4, .long (Int64.ofInt (-1)))], [], mj_h0)) (r1 := (some (.int (0 : Int32)))) (h1 := mj_h0) (mj_calls_s mj_d_140_10 rfl rfl rfl rfl ⟨Nat.le_of_ble_eq_true rfl, Nat.le_of_ble_eq_true rfl, Nat.le_of_ble_eq_true rfl, Nat.le_of_ble_eq_true rfl, Nat.le_of_ble_eq_true rfl⟩) ?_ ?_
        · refine mj_runs.step (S' := (mj_m_125, 1, [(0, .long (a).toInt64), (2, .long (0 : Int64)), (4, .long (Int64.ofInt (-1)))], [.long (a).toInt64], mj_h0)) (mj_one_of mj_d_125_0 fun _ _ => rfl) ?_
          refine mj_runs.step (S' := (mj_m_125, 2, [(0, .long (a).toInt64), (2, .long (0 : Int64)), (4, .long (Int64.ofInt (-1)))], [.long (0 : Int64), .long (a).toInt64], mj_h0)) (mj_one_of mj_d_125_1 fun _ _ => rfl) ?_
          refine mj_runs.step (S' := (mj_m_125, 3, [(0, .long (a).toInt64), (2, .long (0 : Int64)), (4, .long (Int64.ofInt (-1)))], [.int (lg_cmp (a).toInt64 (0 : Int64))], mj_h0)) (mj_one_of mj_d_125_2 fun _ _ => rfl) ?_
          refine mj_runs.step (S' := (mj_m_125, 17, [(0, .long (a).toInt64), (2, .long (0 : Int64)), (4, .long (Int64.ofInt (-1)))], [], mj_h0)) (mj_one_ifT mj_d_125_3 rfl (mj_lgT_lt (mj_l32 a) (show ((0 : Int64)).toInt = 0 by decide) (by omega))) ?_
          refine mj_runs.step (S' := (mj_m_125, 18, [(0, .long (a).toInt64), (2, .long (0 : Int64)), (4, .long (Int64.ofInt (-1)))], [.int (0 : Int32)], mj_h0)) (mj_one_of mj_d_125_17 fun _ _ => rfl) ?_
          exact mj_runs.ret (mj_ret_of mj_d_125_18 fun _ _ => rfl)
        show mj_runs (mj_m_140, 13, [(0, .ref 234), (1, .int a)], [.int (0 : Int32)], mj_h0) _ _
        exact mj_runs.ret (mj_ret_of mj_d_140_13 fun _ _ => rfl)
      show mj_runs (mj_m_181, 5, [(0, .ref 234), (1, .int a), (2, .int b), (3, .int c)], [.int (0 : Int32)], mj_h0) _ _
      refine mj_runs.step (S' := (mj_m_181, 8, [(0, .ref 234), (1, .int a), (2, .int b), (3, .int c)], [], mj_h0)) (mj_one_of mj_d_181_5 fun _ _ => rfl) ?_
      refine mj_runs.step (S' := (mj_m_181, 10, [(0, .ref 234), (1, .int a), (2, .int b), (3, .int c)], [.int (Int32.ofInt (-1000000001))], mj_h0)) (mj_one_of mj_d_181_8 fun _ _ => rfl) ?_
      exact mj_runs.ret (mj_ret_of mj_d_181_10 fun _ _ => rfl)
    · exact mj_sz0
  · refine ⟨(Int32.ofInt (-1000000001)), mj_h0, mj_h0, ?_, ?_, ?_⟩
    · refine mj_runs.step (S' := (mj_m_105, 1, [(0, .ref 0), (1, .int a), (2, .int b), (3, .int c)], [.ref 0], mj_h0)) (mj_one_of mj_d_105_0 fun _ _ => rfl) ?_
      refine mj_runs.step (S' := (mj_m_105, 2, [(0, .ref 0), (1, .int a), (2, .int b), (3, .int c)], [.int a, .ref 0], mj_h0)) (mj_one_of mj_d_105_1 fun _ _ => rfl) ?_
      refine mj_runs.call (S1 := (mj_m_39, 0, [(0, .ref 0), (1, .int a)], [], mj_h0)) (r1 := (some (.int (0 : Int32)))) (h1 := mj_h0) (mj_calls_v mj_d_105_2 rfl rfl rfl rfl rfl rfl ⟨Nat.le_of_ble_eq_true rfl, ⟨Nat.le_of_ble_eq_true rfl, Nat.le_of_ble_eq_true rfl, Nat.le_of_ble_eq_true rfl, Nat.le_of_ble_eq_true rfl, Nat.le_of_ble_eq_true rfl⟩⟩) ?_ ?_
      · refine mj_runs.step (S' := (mj_m_39, 1, [(0, .ref 0), (1, .int a)], [.int a], mj_h0)) (mj_one_of mj_d_39_0 fun _ _ => rfl) ?_
        refine mj_runs.step (S' := (mj_m_39, 4, [(0, .ref 0), (1, .int a)], [], mj_h0)) (mj_one_ifF mj_d_39_1 (t := 19) rfl (mj_cF_lt (rfl : (a).toInt = (a).toInt) (show ((0 : Int32)).toInt = 0 by decide) (by omega))) ?_
        refine mj_runs.step (S' := (mj_m_39, 5, [(0, .ref 0), (1, .int a)], [.int a], mj_h0)) (mj_one_of mj_d_39_4 fun _ _ => rfl) ?_
        refine mj_runs.step (S' := (mj_m_39, 6, [(0, .ref 0), (1, .int a)], [.ref 0, .int a], mj_h0)) (mj_one_of mj_d_39_5 fun _ _ => rfl) ?_
        refine mj_runs.step (S' := (mj_m_39, 9, [(0, .ref 0), (1, .int a)], [.ref 8, .int a], mj_h0)) (mj_one_of mj_d_39_6 fun _ _ => rfl) ?_
        refine mj_runs.step (S' := (mj_m_39, 12, [(0, .ref 0), (1, .int a)], [.int (0 : Int32), .int a], mj_h0)) (mj_one_of mj_d_39_9 fun _ _ => rfl) ?_
        refine mj_runs.step (S' := (mj_m_39, 19, [(0, .ref 0), (1, .int a)], [], mj_h0)) (mj_one_icmpT mj_d_39_12 rfl (mj_cT_ge (rfl : (a).toInt = (a).toInt) (show ((0 : Int32)).toInt = 0 by decide) (by omega))) ?_
        refine mj_runs.step (S' := (mj_m_39, 20, [(0, .ref 0), (1, .int a)], [.int (0 : Int32)], mj_h0)) (mj_one_of mj_d_39_19 fun _ _ => rfl) ?_
        exact mj_runs.ret (mj_ret_of mj_d_39_20 fun _ _ => rfl)
      show mj_runs (mj_m_105, 5, [(0, .ref 0), (1, .int a), (2, .int b), (3, .int c)], [.int (0 : Int32)], mj_h0) _ _
      refine mj_runs.step (S' := (mj_m_105, 8, [(0, .ref 0), (1, .int a), (2, .int b), (3, .int c)], [], mj_h0)) (mj_one_of mj_d_105_5 fun _ _ => rfl) ?_
      refine mj_runs.step (S' := (mj_m_105, 10, [(0, .ref 0), (1, .int a), (2, .int b), (3, .int c)], [.int (Int32.ofInt (-1000000001))], mj_h0)) (mj_one_of mj_d_105_8 fun _ _ => rfl) ?_
      exact mj_runs.ret (mj_ret_of mj_d_105_10 fun _ _ => rfl)
    · refine mj_runs.step (S' := (mj_m_181, 1, [(0, .ref 234), (1, .int a), (2, .int b), (3, .int c)], [.ref 234], mj_h0)) (mj_one_of mj_d_181_0 fun _ _ => rfl) ?_
      refine mj_runs.step (S' := (mj_m_181, 2, [(0, .ref 234), (1, .int a), (2, .int b), (3, .int c)], [.int a, .ref 234], mj_h0)) (mj_one_of mj_d_181_1 fun _ _ => rfl) ?_
      refine mj_runs.call (S1 := (mj_m_140, 0, [(0, .ref 234), (1, .int a)], [], mj_h0)) (r1 := (some (.int (0 : Int32)))) (h1 := mj_h0) (mj_calls_v mj_d_181_2 rfl rfl rfl rfl rfl rfl ⟨Nat.le_of_ble_eq_true rfl, ⟨Nat.le_of_ble_eq_true rfl, Nat.le_of_ble_eq_true rfl, Nat.le_of_ble_eq_true rfl, Nat.le_of_ble_eq_true rfl, Nat.le_of_ble_eq_true rfl⟩⟩) ?_ ?_
      · refine mj_runs.step (S' := (mj_m_140, 1, [(0, .ref 234), (1, .int a)], [.int a], mj_h0)) (mj_one_of mj_d_140_0 fun _ _ => rfl) ?_
        refine mj_runs.step (S' := (mj_m_140, 2, [(0, .ref 234), (1, .int a)], [.long (a).toInt64], mj_h0)) (mj_one_of mj_d_140_1 fun _ _ => rfl) ?_
        refine mj_runs.step (S' := (mj_m_140, 3, [(0, .ref 234), (1, .int a)], [.long (0 : Int64), .long (a).toInt64], mj_h0)) (mj_one_of mj_d_140_2 fun _ _ => rfl) ?_
        refine mj_runs.step (S' := (mj_m_140, 4, [(0, .ref 234), (1, .int a)], [.ref 234, .long (0 : Int64), .long (a).toInt64], mj_h0)) (mj_one_of mj_d_140_3 fun _ _ => rfl) ?_
        refine mj_runs.step (S' := (mj_m_140, 7, [(0, .ref 234), (1, .int a)], [.int (0 : Int32), .long (0 : Int64), .long (a).toInt64], mj_h0)) (mj_one_of mj_d_140_4 fun _ _ => rfl) ?_
        refine mj_runs.step (S' := (mj_m_140, 8, [(0, .ref 234), (1, .int a)], [.int (1 : Int32), .int (0 : Int32), .long (0 : Int64), .long (a).toInt64], mj_h0)) (mj_one_of mj_d_140_7 fun _ _ => rfl) ?_
        refine mj_runs.step (S' := (mj_m_140, 9, [(0, .ref 234), (1, .int a)], [.int (Int32.ofInt (-1)), .long (0 : Int64), .long (a).toInt64], mj_h0)) (mj_one_of mj_d_140_8 fun _ _ => rfl) ?_
        refine mj_runs.step (S' := (mj_m_140, 10, [(0, .ref 234), (1, .int a)], [.long (Int64.ofInt (-1)), .long (0 : Int64), .long (a).toInt64], mj_h0)) (mj_one_of mj_d_140_9 fun _ _ => rfl) ?_
        refine mj_runs.call (S1 := (mj_m_125, 0, [(0, .long (a).toInt64), (2, .long (0 : Int64)), (4, .long (Int64.ofInt (-1)))], [], mj_h0)) (r1 := (some (.int (0 : Int32)))) (h1 := mj_h0) (mj_calls_s mj_d_140_10 rfl rfl rfl rfl ⟨Nat.le_of_ble_eq_true rfl, Nat.le_of_ble_eq_true rfl, Nat.le_of_ble_eq_true rfl, Nat.le_of_ble_eq_true rfl, Nat.le_of_ble_eq_true rfl⟩) ?_ ?_
        · refine mj_runs.step (S' := (mj_m_125, 1, [(0, .long (a).toInt64), (2, .long (0 : Int64)), (4, .long (Int64.ofInt (-1)))], [.long (a).toInt64], mj_h0)) (mj_one_of mj_d_125_0 fun _ _ => rfl) ?_
          refine mj_runs.step (S' := (mj_m_125, 2, [(0, .long (a).toInt64), (2, .long (0 : Int64)), (4, .long (Int64.ofInt (-1)))], [.long (0 : Int64), .long (a).toInt64], mj_h0)) (mj_one_of mj_d_125_1 fun _ _ => rfl) ?_
          refine mj_runs.step (S' := (mj_m_125, 3, [(0, .long (a).toInt64), (2, .long (0 : Int64)), (4, .long (Int64.ofInt (-1)))], [.int (lg_cmp (a).toInt64 (0 : Int64))], mj_h0)) (mj_one_of mj_d_125_2 fun _ _ => rfl) ?_
          refine mj_runs.step (S' := (mj_m_125, 6, [(0, .long (a).toInt64), (2, .long (0 : Int64)), (4, .long (Int64.ofInt (-1)))], [], mj_h0)) (mj_one_ifF mj_d_125_3 (t := 17) rfl (mj_lgF_lt (mj_l32 a) (show ((0 : Int64)).toInt = 0 by decide) (by omega))) ?_
          refine mj_runs.step (S' := (mj_m_125, 7, [(0, .long (a).toInt64), (2, .long (0 : Int64)), (4, .long (Int64.ofInt (-1)))], [.long (a).toInt64], mj_h0)) (mj_one_of mj_d_125_6 fun _ _ => rfl) ?_
          refine mj_runs.step (S' := (mj_m_125, 9, [(0, .long (a).toInt64), (2, .long (0 : Int64)), (4, .long (Int64.ofInt (-1)))], [.long (Int64.ofInt (-1)), .long (a).toInt64], mj_h0)) (mj_one_of mj_d_125_7 fun _ _ => rfl) ?_
          refine mj_runs.step (S' := (mj_m_125, 10, [(0, .long (a).toInt64), (2, .long (0 : Int64)), (4, .long (Int64.ofInt (-1)))], [.int (lg_cmp (a).toInt64 (Int64.ofInt (-1)))], mj_h0)) (mj_one_of mj_d_125_9 fun _ _ => rfl) ?_
          refine mj_runs.step (S' := (mj_m_125, 17, [(0, .long (a).toInt64), (2, .long (0 : Int64)), (4, .long (Int64.ofInt (-1)))], [], mj_h0)) (mj_one_ifT mj_d_125_10 rfl (mj_lgT_gt (mj_l32 a) (show ((Int64.ofInt (-1))).toInt = -1 by decide) (by omega))) ?_
          refine mj_runs.step (S' := (mj_m_125, 18, [(0, .long (a).toInt64), (2, .long (0 : Int64)), (4, .long (Int64.ofInt (-1)))], [.int (0 : Int32)], mj_h0)) (mj_one_of mj_d_125_17 fun _ _ => rfl) ?_
          exact mj_runs.ret (mj_ret_of mj_d_125_18 fun _ _ => rfl)
        show mj_runs (mj_m_140, 13, [(0, .ref 234), (1, .int a)], [.int (0 : Int32)], mj_h0) _ _
        exact mj_runs.ret (mj_ret_of mj_d_140_13 fun _ _ => rfl)
      show mj_runs (mj_m_181, 5, [(0, .ref 234), (1, .int a), (2, .int b), (3, .int c)], [.int (0 : Int32)], mj_h0) _ _
      refine mj_runs.step (S' := (mj_m_181, 8, [(0, .ref 234), (1, .int a), (2, .int b), (3, .int c)], [], mj_h0)) (mj_one_of mj_d_181_5 fun _ _ => rfl) ?_
      refine mj_runs.step (S' := (mj_m_181, 10, [(0, .ref 234), (1, .int a), (2, .int b), (3, .int c)], [.int (Int32.ofInt (-1000000001))], mj_h0)) (mj_one_of mj_d_181_8 fun _ _ => rfl) ?_
      exact mj_runs.ret (mj_ret_of mj_d_181_10 fun _ _ => rfl)
    · exact mj_sz0
set_option maxRecDepth 1000000 in
set_option maxHeartbeats 4000000 in
theorem mj_op_next (a b : Int32) : ∃ (r : Int32) (h1 h2 : mj_H), mj_runs (mj_m_107, 0, [(0, .ref 0), (1, .int a), (2, .int b)], [], mj_h0) (some (.int r)) h1 ∧ mj_runs (mj_m_182, 0, [(0, .ref 234), (1, .int a), (2, .int b)], [], h1) (some (.int r)) h2 ∧ mj_sz h2 := by
  by_cases c0 : a.toInt < 1
  · refine ⟨(Int32.ofInt (-1000000002)), mj_h0, mj_h0, ?_, ?_, ?_⟩
    · refine mj_runs.step (S' := (mj_m_107, 1, [(0, .ref 0), (1, .int a), (2, .int b)], [.int a], mj_h0)) (mj_one_of mj_d_107_0 fun _ _ => rfl) ?_
      refine mj_runs.step (S' := (mj_m_107, 2, [(0, .ref 0), (1, .int a), (2, .int b)], [.int (1 : Int32), .int a], mj_h0)) (mj_one_of mj_d_107_1 fun _ _ => rfl) ?_
      refine mj_runs.step (S' := (mj_m_107, 11, [(0, .ref 0), (1, .int a), (2, .int b)], [], mj_h0)) (mj_one_icmpT mj_d_107_2 rfl (mj_cT_lt (rfl : (a).toInt = (a).toInt) (show ((1 : Int32)).toInt = 1 by decide) (by omega))) ?_
      refine mj_runs.step (S' := (mj_m_107, 13, [(0, .ref 0), (1, .int a), (2, .int b)], [.int (Int32.ofInt (-1000000002))], mj_h0)) (mj_one_of mj_d_107_11 fun _ _ => rfl) ?_
      exact mj_runs.ret (mj_ret_of mj_d_107_13 fun _ _ => rfl)
    · refine mj_runs.step (S' := (mj_m_182, 1, [(0, .ref 234), (1, .int a), (2, .int b)], [.int a], mj_h0)) (mj_one_of mj_d_182_0 fun _ _ => rfl) ?_
      refine mj_runs.step (S' := (mj_m_182, 2, [(0, .ref 234), (1, .int a), (2, .int b)], [.long (a).toInt64], mj_h0)) (mj_one_of mj_d_182_1 fun _ _ => rfl) ?_
      refine mj_runs.step (S' := (mj_m_182, 3, [(0, .ref 234), (1, .int a), (2, .int b)], [.long (1 : Int64), .long (a).toInt64], mj_h0)) (mj_one_of mj_d_182_2 fun _ _ => rfl) ?_
      refine mj_runs.step (S' := (mj_m_182, 6, [(0, .ref 234), (1, .int a), (2, .int b)], [.long (7 : Int64), .long (1 : Int64), .long (a).toInt64], mj_h0)) (mj_one_of mj_d_182_3 fun _ _ => rfl) ?_
      refine mj_runs.call (S1 := (mj_m_125, 0, [(0, .long (a).toInt64), (2, .long (1 : Int64)), (4, .long (7 : Int64))], [], mj_h0)) (r1 := (some (.int (0 : Int32)))) (h1 := mj_h0) (mj_calls_s mj_d_182_6 rfl rfl rfl rfl ⟨Nat.le_of_ble_eq_true rfl, Nat.le_of_ble_eq_true rfl, Nat.le_of_ble_eq_true rfl, Nat.le_of_ble_eq_true rfl, Nat.le_of_ble_eq_true rfl⟩) ?_ ?_
      · refine mj_runs.step (S' := (mj_m_125, 1, [(0, .long (a).toInt64), (2, .long (1 : Int64)), (4, .long (7 : Int64))], [.long (a).toInt64], mj_h0)) (mj_one_of mj_d_125_0 fun _ _ => rfl) ?_
        refine mj_runs.step (S' := (mj_m_125, 2, [(0, .long (a).toInt64), (2, .long (1 : Int64)), (4, .long (7 : Int64))], [.long (1 : Int64), .long (a).toInt64], mj_h0)) (mj_one_of mj_d_125_1 fun _ _ => rfl) ?_
        refine mj_runs.step (S' := (mj_m_125, 3, [(0, .long (a).toInt64), (2, .long (1 : Int64)), (4, .long (7 : Int64))], [.int (lg_cmp (a).toInt64 (1 : Int64))], mj_h0)) (mj_one_of mj_d_125_2 fun _ _ => rfl) ?_
        refine mj_runs.step (S' := (mj_m_125, 17, [(0, .long (a).toInt64), (2, .long (1 : Int64)), (4, .long (7 : Int64))], [], mj_h0)) (mj_one_ifT mj_d_125_3 rfl (mj_lgT_lt (mj_l32 a) (show ((1 : Int64)).toInt = 1 by decide) (by omega))) ?_
        refine mj_runs.step (S' := (mj_m_125, 18, [(0, .long (a).toInt64), (2, .long (1 : Int64)), (4, .long (7 : Int64))], [.int (0 : Int32)], mj_h0)) (mj_one_of mj_d_125_17 fun _ _ => rfl) ?_
        exact mj_runs.ret (mj_ret_of mj_d_125_18 fun _ _ => rfl)
      show mj_runs (mj_m_182, 9, [(0, .ref 234), (1, .int a), (2, .int b)], [.int (0 : Int32)], mj_h0) _ _
      refine mj_runs.step (S' := (mj_m_182, 22, [(0, .ref 234), (1, .int a), (2, .int b)], [], mj_h0)) (mj_one_of mj_d_182_9 fun _ _ => rfl) ?_
      refine mj_runs.step (S' := (mj_m_182, 24, [(0, .ref 234), (1, .int a), (2, .int b)], [.int (Int32.ofInt (-1000000002))], mj_h0)) (mj_one_of mj_d_182_22 fun _ _ => rfl) ?_
      exact mj_runs.ret (mj_ret_of mj_d_182_24 fun _ _ => rfl)
    · exact mj_sz0
  · by_cases c1 : a.toInt ≤ 7
    · by_cases c2 : b.toInt = 0
      · obtain rfl : b = (0 : Int32) := Int32.toInt_inj.mp (by rw [show ((0 : Int32)).toInt = 0 by decide]; omega)
        refine ⟨(0 : Int32), mj_h0, mj_h0, ?_, ?_, ?_⟩
        · refine mj_runs.step (S' := (mj_m_107, 1, [(0, .ref 0), (1, .int a), (2, .int (0 : Int32))], [.int a], mj_h0)) (mj_one_of mj_d_107_0 fun _ _ => rfl) ?_
          refine mj_runs.step (S' := (mj_m_107, 2, [(0, .ref 0), (1, .int a), (2, .int (0 : Int32))], [.int (1 : Int32), .int a], mj_h0)) (mj_one_of mj_d_107_1 fun _ _ => rfl) ?_
          refine mj_runs.step (S' := (mj_m_107, 5, [(0, .ref 0), (1, .int a), (2, .int (0 : Int32))], [], mj_h0)) (mj_one_icmpF mj_d_107_2 (t := 11) rfl (mj_cF_lt (rfl : (a).toInt = (a).toInt) (show ((1 : Int32)).toInt = 1 by decide) (by omega))) ?_
          refine mj_runs.step (S' := (mj_m_107, 6, [(0, .ref 0), (1, .int a), (2, .int (0 : Int32))], [.int a], mj_h0)) (mj_one_of mj_d_107_5 fun _ _ => rfl) ?_
          refine mj_runs.step (S' := (mj_m_107, 8, [(0, .ref 0), (1, .int a), (2, .int (0 : Int32))], [.int (7 : Int32), .int a], mj_h0)) (mj_one_of mj_d_107_6 fun _ _ => rfl) ?_
          refine mj_runs.step (S' := (mj_m_107, 14, [(0, .ref 0), (1, .int a), (2, .int (0 : Int32))], [], mj_h0)) (mj_one_icmpT mj_d_107_8 rfl (mj_cT_le (rfl : (a).toInt = (a).toInt) (show ((7 : Int32)).toInt = 7 by decide) (by omega))) ?_
          refine mj_runs.step (S' := (mj_m_107, 15, [(0, .ref 0), (1, .int a), (2, .int (0 : Int32))], [.int (0 : Int32)], mj_h0)) (mj_one_of mj_d_107_14 fun _ _ => rfl) ?_
          refine mj_runs.step (S' := (mj_m_107, 40, [(0, .ref 0), (1, .int a), (2, .int (0 : Int32))], [], mj_h0)) (mj_one_of mj_d_107_15 fun _ _ => rfl) ?_
          refine mj_runs.step (S' := (mj_m_107, 41, [(0, .ref 0), (1, .int a), (2, .int (0 : Int32))], [.ref 0], mj_h0)) (mj_one_of mj_d_107_40 fun _ _ => rfl) ?_
          refine mj_runs.step (S' := (mj_m_107, 42, [(0, .ref 0), (1, .int a), (2, .int (0 : Int32))], [.int a, .ref 0], mj_h0)) (mj_one_of mj_d_107_41 fun _ _ => rfl) ?_
          refine mj_runs.call (S1 := (mj_m_108, 0, [(0, .ref 0), (1, .int a)], [], mj_h0)) (r1 := (some (.int (0 : Int32)))) (h1 := mj_h0) (mj_calls_v mj_d_107_42 rfl rfl rfl rfl rfl rfl ⟨Nat.le_of_ble_eq_true rfl, ⟨Nat.le_of_ble_eq_true rfl, Nat.le_of_ble_eq_true rfl, Nat.le_of_ble_eq_true rfl, Nat.le_of_ble_eq_true rfl, Nat.le_of_ble_eq_true rfl⟩⟩) ?_ ?_
          · refine mj_runs.step (S' := (mj_m_108, 1, [(0, .ref 0), (1, .int a)], [.int (0 : Int32)], mj_h0)) (mj_one_of mj_d_108_0 fun _ _ => rfl) ?_
            refine mj_runs.step (S' := (mj_m_108, 2, [(2, .int (0 : Int32)), (0, .ref 0), (1, .int a)], [], mj_h0)) (mj_one_of mj_d_108_1 fun _ _ => rfl) ?_
            refine mj_runs.step (S' := (mj_m_108, 3, [(2, .int (0 : Int32)), (0, .ref 0), (1, .int a)], [.int (0 : Int32)], mj_h0)) (mj_one_of mj_d_108_2 fun _ _ => rfl) ?_
            refine mj_runs.step (S' := (mj_m_108, 4, [(3, .int (0 : Int32)), (2, .int (0 : Int32)), (0, .ref 0), (1, .int a)], [], mj_h0)) (mj_one_of mj_d_108_3 fun _ _ => rfl) ?_
            refine mj_runs.step (S' := (mj_m_108, 5, [(3, .int (0 : Int32)), (2, .int (0 : Int32)), (0, .ref 0), (1, .int a)], [.int (0 : Int32)], mj_h0)) (mj_one_of mj_d_108_4 fun _ _ => rfl) ?_
            refine mj_runs.step (S' := (mj_m_108, 6, [(3, .int (0 : Int32)), (2, .int (0 : Int32)), (0, .ref 0), (1, .int a)], [.ref 0, .int (0 : Int32)], mj_h0)) (mj_one_of mj_d_108_5 fun _ _ => rfl) ?_
            refine mj_runs.step (S' := (mj_m_108, 9, [(3, .int (0 : Int32)), (2, .int (0 : Int32)), (0, .ref 0), (1, .int a)], [.ref 8, .int (0 : Int32)], mj_h0)) (mj_one_of mj_d_108_6 fun _ _ => rfl) ?_
            refine mj_runs.step (S' := (mj_m_108, 12, [(3, .int (0 : Int32)), (2, .int (0 : Int32)), (0, .ref 0), (1, .int a)], [.int (0 : Int32), .int (0 : Int32)], mj_h0)) (mj_one_of mj_d_108_9 fun _ _ => rfl) ?_
            refine mj_runs.step (S' := (mj_m_108, 50, [(3, .int (0 : Int32)), (2, .int (0 : Int32)), (0, .ref 0), (1, .int a)], [], mj_h0)) (mj_one_of mj_d_108_12 fun _ _ => rfl) ?_
            refine mj_runs.step (S' := (mj_m_108, 51, [(3, .int (0 : Int32)), (2, .int (0 : Int32)), (0, .ref 0), (1, .int a)], [.int (0 : Int32)], mj_h0)) (mj_one_of mj_d_108_50 fun _ _ => rfl) ?_
            exact mj_runs.ret (mj_ret_of mj_d_108_51 fun _ _ => rfl)
          show mj_runs (mj_m_107, 45, [(0, .ref 0), (1, .int a), (2, .int (0 : Int32))], [.int (0 : Int32)], mj_h0) _ _
          exact mj_runs.ret (mj_ret_of mj_d_107_45 fun _ _ => rfl)
        · refine mj_runs.step (S' := (mj_m_182, 1, [(0, .ref 234), (1, .int a), (2, .int (0 : Int32))], [.int a], mj_h0)) (mj_one_of mj_d_182_0 fun _ _ => rfl) ?_
          refine mj_runs.step (S' := (mj_m_182, 2, [(0, .ref 234), (1, .int a), (2, .int (0 : Int32))], [.long (a).toInt64], mj_h0)) (mj_one_of mj_d_182_1 fun _ _ => rfl) ?_
          refine mj_runs.step (S' := (mj_m_182, 3, [(0, .ref 234), (1, .int a), (2, .int (0 : Int32))], [.long (1 : Int64), .long (a).toInt64], mj_h0)) (mj_one_of mj_d_182_2 fun _ _ => rfl) ?_
          refine mj_runs.step (S' := (mj_m_182, 6, [(0, .ref 234), (1, .int a), (2, .int (0 : Int32))], [.long (7 : Int64), .long (1 : Int64), .long (a).toInt64], mj_h0)) (mj_one_of mj_d_182_3 fun _ _ => rfl) ?_
          refine mj_runs.call (S1 := (mj_m_125, 0, [(0, .long (a).toInt64), (2, .long (1 : Int64)), (4, .long (7 : Int64))], [], mj_h0)) (r1 := (some (.int (1 : Int32)))) (h1 := mj_h0) (mj_calls_s mj_d_182_6 rfl rfl rfl rfl ⟨Nat.le_of_ble_eq_true rfl, Nat.le_of_ble_eq_true rfl, Nat.le_of_ble_eq_true rfl, Nat.le_of_ble_eq_true rfl, Nat.le_of_ble_eq_true rfl⟩) ?_ ?_
          · refine mj_runs.step (S' := (mj_m_125, 1, [(0, .long (a).toInt64), (2, .long (1 : Int64)), (4, .long (7 : Int64))], [.long (a).toInt64], mj_h0)) (mj_one_of mj_d_125_0 fun _ _ => rfl) ?_
            refine mj_runs.step (S' := (mj_m_125, 2, [(0, .long (a).toInt64), (2, .long (1 : Int64)), (4, .long (7 : Int64))], [.long (1 : Int64), .long (a).toInt64], mj_h0)) (mj_one_of mj_d_125_1 fun _ _ => rfl) ?_
            refine mj_runs.step (S' := (mj_m_125, 3, [(0, .long (a).toInt64), (2, .long (1 : Int64)), (4, .long (7 : Int64))], [.int (lg_cmp (a).toInt64 (1 : Int64))], mj_h0)) (mj_one_of mj_d_125_2 fun _ _ => rfl) ?_
            refine mj_runs.step (S' := (mj_m_125, 6, [(0, .long (a).toInt64), (2, .long (1 : Int64)), (4, .long (7 : Int64))], [], mj_h0)) (mj_one_ifF mj_d_125_3 (t := 17) rfl (mj_lgF_lt (mj_l32 a) (show ((1 : Int64)).toInt = 1 by decide) (by omega))) ?_
            refine mj_runs.step (S' := (mj_m_125, 7, [(0, .long (a).toInt64), (2, .long (1 : Int64)), (4, .long (7 : Int64))], [.long (a).toInt64], mj_h0)) (mj_one_of mj_d_125_6 fun _ _ => rfl) ?_
            refine mj_runs.step (S' := (mj_m_125, 9, [(0, .long (a).toInt64), (2, .long (1 : Int64)), (4, .long (7 : Int64))], [.long (7 : Int64), .long (a).toInt64], mj_h0)) (mj_one_of mj_d_125_7 fun _ _ => rfl) ?_
            refine mj_runs.step (S' := (mj_m_125, 10, [(0, .long (a).toInt64), (2, .long (1 : Int64)), (4, .long (7 : Int64))], [.int (lg_cmp (a).toInt64 (7 : Int64))], mj_h0)) (mj_one_of mj_d_125_9 fun _ _ => rfl) ?_
            refine mj_runs.step (S' := (mj_m_125, 13, [(0, .long (a).toInt64), (2, .long (1 : Int64)), (4, .long (7 : Int64))], [], mj_h0)) (mj_one_ifF mj_d_125_10 (t := 17) rfl (mj_lgF_gt (mj_l32 a) (show ((7 : Int64)).toInt = 7 by decide) (by omega))) ?_
            refine mj_runs.step (S' := (mj_m_125, 14, [(0, .long (a).toInt64), (2, .long (1 : Int64)), (4, .long (7 : Int64))], [.int (1 : Int32)], mj_h0)) (mj_one_of mj_d_125_13 fun _ _ => rfl) ?_
            refine mj_runs.step (S' := (mj_m_125, 18, [(0, .long (a).toInt64), (2, .long (1 : Int64)), (4, .long (7 : Int64))], [.int (1 : Int32)], mj_h0)) (mj_one_of mj_d_125_14 fun _ _ => rfl) ?_
            exact mj_runs.ret (mj_ret_of mj_d_125_18 fun _ _ => rfl)
          show mj_runs (mj_m_182, 9, [(0, .ref 234), (1, .int a), (2, .int (0 : Int32))], [.int (1 : Int32)], mj_h0) _ _
          refine mj_runs.step (S' := (mj_m_182, 12, [(0, .ref 234), (1, .int a), (2, .int (0 : Int32))], [], mj_h0)) (mj_one_of mj_d_182_9 fun _ _ => rfl) ?_
          refine mj_runs.step (S' := (mj_m_182, 13, [(0, .ref 234), (1, .int a), (2, .int (0 : Int32))], [.int (0 : Int32)], mj_h0)) (mj_one_of mj_d_182_12 fun _ _ => rfl) ?_
          refine mj_runs.step (S' := (mj_m_182, 14, [(0, .ref 234), (1, .int a), (2, .int (0 : Int32))], [.long (0 : Int64)], mj_h0)) (mj_one_of mj_d_182_13 fun _ _ => rfl) ?_
          refine mj_runs.step (S' := (mj_m_182, 15, [(0, .ref 234), (1, .int a), (2, .int (0 : Int32))], [.long (0 : Int64), .long (0 : Int64)], mj_h0)) (mj_one_of mj_d_182_14 fun _ _ => rfl) ?_
          refine mj_runs.step (S' := (mj_m_182, 16, [(0, .ref 234), (1, .int a), (2, .int (0 : Int32))], [.long (1 : Int64), .long (0 : Int64), .long (0 : Int64)], mj_h0)) (mj_one_of mj_d_182_15 fun _ _ => rfl) ?_
          refine mj_runs.call (S1 := (mj_m_125, 0, [(0, .long (0 : Int64)), (2, .long (0 : Int64)), (4, .long (1 : Int64))], [], mj_h0)) (r1 := (some (.int (1 : Int32)))) (h1 := mj_h0) (mj_calls_s mj_d_182_16 rfl rfl rfl rfl ⟨Nat.le_of_ble_eq_true rfl, Nat.le_of_ble_eq_true rfl, Nat.le_of_ble_eq_true rfl, Nat.le_of_ble_eq_true rfl, Nat.le_of_ble_eq_true rfl⟩) ?_ ?_
          · refine mj_runs.step (S' := (mj_m_125, 1, [(0, .long (0 : Int64)), (2, .long (0 : Int64)), (4, .long (1 : Int64))], [.long (0 : Int64)], mj_h0)) (mj_one_of mj_d_125_0 fun _ _ => rfl) ?_
            refine mj_runs.step (S' := (mj_m_125, 2, [(0, .long (0 : Int64)), (2, .long (0 : Int64)), (4, .long (1 : Int64))], [.long (0 : Int64), .long (0 : Int64)], mj_h0)) (mj_one_of mj_d_125_1 fun _ _ => rfl) ?_
            refine mj_runs.step (S' := (mj_m_125, 3, [(0, .long (0 : Int64)), (2, .long (0 : Int64)), (4, .long (1 : Int64))], [.int (0 : Int32)], mj_h0)) (mj_one_of mj_d_125_2 fun _ _ => rfl) ?_
            refine mj_runs.step (S' := (mj_m_125, 6, [(0, .long (0 : Int64)), (2, .long (0 : Int64)), (4, .long (1 : Int64))], [], mj_h0)) (mj_one_of mj_d_125_3 fun _ _ => rfl) ?_
            refine mj_runs.step (S' := (mj_m_125, 7, [(0, .long (0 : Int64)), (2, .long (0 : Int64)), (4, .long (1 : Int64))], [.long (0 : Int64)], mj_h0)) (mj_one_of mj_d_125_6 fun _ _ => rfl) ?_
            refine mj_runs.step (S' := (mj_m_125, 9, [(0, .long (0 : Int64)), (2, .long (0 : Int64)), (4, .long (1 : Int64))], [.long (1 : Int64), .long (0 : Int64)], mj_h0)) (mj_one_of mj_d_125_7 fun _ _ => rfl) ?_
            refine mj_runs.step (S' := (mj_m_125, 10, [(0, .long (0 : Int64)), (2, .long (0 : Int64)), (4, .long (1 : Int64))], [.int (Int32.ofInt (-1))], mj_h0)) (mj_one_of mj_d_125_9 fun _ _ => rfl) ?_
            refine mj_runs.step (S' := (mj_m_125, 13, [(0, .long (0 : Int64)), (2, .long (0 : Int64)), (4, .long (1 : Int64))], [], mj_h0)) (mj_one_of mj_d_125_10 fun _ _ => rfl) ?_
            refine mj_runs.step (S' := (mj_m_125, 14, [(0, .long (0 : Int64)), (2, .long (0 : Int64)), (4, .long (1 : Int64))], [.int (1 : Int32)], mj_h0)) (mj_one_of mj_d_125_13 fun _ _ => rfl) ?_
            refine mj_runs.step (S' := (mj_m_125, 18, [(0, .long (0 : Int64)), (2, .long (0 : Int64)), (4, .long (1 : Int64))], [.int (1 : Int32)], mj_h0)) (mj_one_of mj_d_125_14 fun _ _ => rfl) ?_
            exact mj_runs.ret (mj_ret_of mj_d_125_18 fun _ _ => rfl)
          show mj_runs (mj_m_182, 19, [(0, .ref 234), (1, .int a), (2, .int (0 : Int32))], [.int (1 : Int32)], mj_h0) _ _
          refine mj_runs.step (S' := (mj_m_182, 25, [(0, .ref 234), (1, .int a), (2, .int (0 : Int32))], [], mj_h0)) (mj_one_of mj_d_182_19 fun _ _ => rfl) ?_
          refine mj_runs.step (S' := (mj_m_182, 26, [(0, .ref 234), (1, .int a), (2, .int (0 : Int32))], [.int (0 : Int32)], mj_h0)) (mj_one_of mj_d_182_25 fun _ _ => rfl) ?_
          refine mj_runs.step (S' := (mj_m_182, 27, [(3, .int (0 : Int32)), (0, .ref 234), (1, .int a), (2, .int (0 : Int32))], [], mj_h0)) (mj_one_of mj_d_182_26 fun _ _ => rfl) ?_
          refine mj_runs.step (S' := (mj_m_182, 28, [(3, .int (0 : Int32)), (0, .ref 234), (1, .int a), (2, .int (0 : Int32))], [.int (0 : Int32)], mj_h0)) (mj_one_of mj_d_182_27 fun _ _ => rfl) ?_
          refine mj_runs.step (S' := (mj_m_182, 30, [(4, .int (0 : Int32)), (3, .int (0 : Int32)), (0, .ref 234), (1, .int a), (2, .int (0 : Int32))], [], mj_h0)) (mj_one_of mj_d_182_28 fun _ _ => rfl) ?_
          refine mj_runs.step (S' := (mj_m_182, 32, [(4, .int (0 : Int32)), (3, .int (0 : Int32)), (0, .ref 234), (1, .int a), (2, .int (0 : Int32))], [.int (0 : Int32)], mj_h0)) (mj_one_of mj_d_182_30 fun _ _ => rfl) ?_
          refine mj_runs.step (S' := (mj_m_182, 33, [(4, .int (0 : Int32)), (3, .int (0 : Int32)), (0, .ref 234), (1, .int a), (2, .int (0 : Int32))], [.ref 234, .int (0 : Int32)], mj_h0)) (mj_one_of mj_d_182_32 fun _ _ => rfl) ?_
          refine mj_runs.step (S' := (mj_m_182, 36, [(4, .int (0 : Int32)), (3, .int (0 : Int32)), (0, .ref 234), (1, .int a), (2, .int (0 : Int32))], [.int (0 : Int32), .int (0 : Int32)], mj_h0)) (mj_one_of mj_d_182_33 fun _ _ => rfl) ?_
          refine mj_runs.step (S' := (mj_m_182, 131, [(4, .int (0 : Int32)), (3, .int (0 : Int32)), (0, .ref 234), (1, .int a), (2, .int (0 : Int32))], [], mj_h0)) (mj_one_of mj_d_182_36 fun _ _ => rfl) ?_
          refine mj_runs.step (S' := (mj_m_182, 132, [(4, .int (0 : Int32)), (3, .int (0 : Int32)), (0, .ref 234), (1, .int a), (2, .int (0 : Int32))], [.int (0 : Int32)], mj_h0)) (mj_one_of mj_d_182_131 fun _ _ => rfl) ?_
          refine mj_runs.step (S' := (mj_m_182, 135, [(4, .int (0 : Int32)), (3, .int (0 : Int32)), (0, .ref 234), (1, .int a), (2, .int (0 : Int32))], [], mj_h0)) (mj_one_of mj_d_182_132 fun _ _ => rfl) ?_
          refine mj_runs.step (S' := (mj_m_182, 136, [(4, .int (0 : Int32)), (3, .int (0 : Int32)), (0, .ref 234), (1, .int a), (2, .int (0 : Int32))], [.int (0 : Int32)], mj_h0)) (mj_one_of mj_d_182_135 fun _ _ => rfl) ?_
          exact mj_runs.ret (mj_ret_of mj_d_182_136 fun _ _ => rfl)
        · exact mj_sz0
      · by_cases c3 : b.toInt = 1
        · obtain rfl : b = (1 : Int32) := Int32.toInt_inj.mp (by rw [show ((1 : Int32)).toInt = 1 by decide]; omega)
          refine ⟨(Int32.ofInt (-1)), mj_h0, mj_h0, ?_, ?_, ?_⟩
          · refine mj_runs.step (S' := (mj_m_107, 1, [(0, .ref 0), (1, .int a), (2, .int (1 : Int32))], [.int a], mj_h0)) (mj_one_of mj_d_107_0 fun _ _ => rfl) ?_
            refine mj_runs.step (S' := (mj_m_107, 2, [(0, .ref 0), (1, .int a), (2, .int (1 : Int32))], [.int (1 : Int32), .int a], mj_h0)) (mj_one_of mj_d_107_1 fun _ _ => rfl) ?_
            refine mj_runs.step (S' := (mj_m_107, 5, [(0, .ref 0), (1, .int a), (2, .int (1 : Int32))], [], mj_h0)) (mj_one_icmpF mj_d_107_2 (t := 11) rfl (mj_cF_lt (rfl : (a).toInt = (a).toInt) (show ((1 : Int32)).toInt = 1 by decide) (by omega))) ?_
            refine mj_runs.step (S' := (mj_m_107, 6, [(0, .ref 0), (1, .int a), (2, .int (1 : Int32))], [.int a], mj_h0)) (mj_one_of mj_d_107_5 fun _ _ => rfl) ?_
            refine mj_runs.step (S' := (mj_m_107, 8, [(0, .ref 0), (1, .int a), (2, .int (1 : Int32))], [.int (7 : Int32), .int a], mj_h0)) (mj_one_of mj_d_107_6 fun _ _ => rfl) ?_
            refine mj_runs.step (S' := (mj_m_107, 14, [(0, .ref 0), (1, .int a), (2, .int (1 : Int32))], [], mj_h0)) (mj_one_icmpT mj_d_107_8 rfl (mj_cT_le (rfl : (a).toInt = (a).toInt) (show ((7 : Int32)).toInt = 7 by decide) (by omega))) ?_
            refine mj_runs.step (S' := (mj_m_107, 15, [(0, .ref 0), (1, .int a), (2, .int (1 : Int32))], [.int (1 : Int32)], mj_h0)) (mj_one_of mj_d_107_14 fun _ _ => rfl) ?_
            refine mj_runs.step (S' := (mj_m_107, 46, [(0, .ref 0), (1, .int a), (2, .int (1 : Int32))], [], mj_h0)) (mj_one_of mj_d_107_15 fun _ _ => rfl) ?_
            refine mj_runs.step (S' := (mj_m_107, 47, [(0, .ref 0), (1, .int a), (2, .int (1 : Int32))], [.ref 0], mj_h0)) (mj_one_of mj_d_107_46 fun _ _ => rfl) ?_
            refine mj_runs.step (S' := (mj_m_107, 48, [(0, .ref 0), (1, .int a), (2, .int (1 : Int32))], [.ref 0, .ref 0], mj_h0)) (mj_one_of mj_d_107_47 fun _ _ => rfl) ?_
            refine mj_runs.step (S' := (mj_m_107, 49, [(0, .ref 0), (1, .int a), (2, .int (1 : Int32))], [.int a, .ref 0, .ref 0], mj_h0)) (mj_one_of mj_d_107_48 fun _ _ => rfl) ?_
            refine mj_runs.call (S1 := (mj_m_108, 0, [(0, .ref 0), (1, .int a)], [], mj_h0)) (r1 := (some (.int (0 : Int32)))) (h1 := mj_h0) (mj_calls_v mj_d_107_49 rfl rfl rfl rfl rfl rfl ⟨Nat.le_of_ble_eq_true rfl, ⟨Nat.le_of_ble_eq_true rfl, Nat.le_of_ble_eq_true rfl, Nat.le_of_ble_eq_true rfl, Nat.le_of_ble_eq_true rfl, Nat.le_of_ble_eq_true rfl⟩⟩) ?_ ?_
            · refine mj_runs.step (S' := (mj_m_108, 1, [(0, .ref 0), (1, .int a)], [.int (0 : Int32)], mj_h0)) (mj_one_of mj_d_108_0 fun _ _ => rfl) ?_
              refine mj_runs.step (S' := (mj_m_108, 2, [(2, .int (0 : Int32)), (0, .ref 0), (1, .int a)], [], mj_h0)) (mj_one_of mj_d_108_1 fun _ _ => rfl) ?_
              refine mj_runs.step (S' := (mj_m_108, 3, [(2, .int (0 : Int32)), (0, .ref 0), (1, .int a)], [.int (0 : Int32)], mj_h0)) (mj_one_of mj_d_108_2 fun _ _ => rfl) ?_
              refine mj_runs.step (S' := (mj_m_108, 4, [(3, .int (0 : Int32)), (2, .int (0 : Int32)), (0, .ref 0), (1, .int a)], [], mj_h0)) (mj_one_of mj_d_108_3 fun _ _ => rfl) ?_
              refine mj_runs.step (S' := (mj_m_108, 5, [(3, .int (0 : Int32)), (2, .int (0 : Int32)), (0, .ref 0), (1, .int a)], [.int (0 : Int32)], mj_h0)) (mj_one_of mj_d_108_4 fun _ _ => rfl) ?_
              refine mj_runs.step (S' := (mj_m_108, 6, [(3, .int (0 : Int32)), (2, .int (0 : Int32)), (0, .ref 0), (1, .int a)], [.ref 0, .int (0 : Int32)], mj_h0)) (mj_one_of mj_d_108_5 fun _ _ => rfl) ?_
              refine mj_runs.step (S' := (mj_m_108, 9, [(3, .int (0 : Int32)), (2, .int (0 : Int32)), (0, .ref 0), (1, .int a)], [.ref 8, .int (0 : Int32)], mj_h0)) (mj_one_of mj_d_108_6 fun _ _ => rfl) ?_
              refine mj_runs.step (S' := (mj_m_108, 12, [(3, .int (0 : Int32)), (2, .int (0 : Int32)), (0, .ref 0), (1, .int a)], [.int (0 : Int32), .int (0 : Int32)], mj_h0)) (mj_one_of mj_d_108_9 fun _ _ => rfl) ?_
              refine mj_runs.step (S' := (mj_m_108, 50, [(3, .int (0 : Int32)), (2, .int (0 : Int32)), (0, .ref 0), (1, .int a)], [], mj_h0)) (mj_one_of mj_d_108_12 fun _ _ => rfl) ?_
              refine mj_runs.step (S' := (mj_m_108, 51, [(3, .int (0 : Int32)), (2, .int (0 : Int32)), (0, .ref 0), (1, .int a)], [.int (0 : Int32)], mj_h0)) (mj_one_of mj_d_108_50 fun _ _ => rfl) ?_
              exact mj_runs.ret (mj_ret_of mj_d_108_51 fun _ _ => rfl)
            show mj_runs (mj_m_107, 52, [(0, .ref 0), (1, .int a), (2, .int (1 : Int32))], [.int (0 : Int32), .ref 0], mj_h0) _ _
            refine mj_runs.call (S1 := (mj_m_110, 0, [(0, .ref 0), (1, .int (0 : Int32))], [], mj_h0)) (r1 := (some (.int (Int32.ofInt (-1))))) (h1 := mj_h0) (mj_calls_v mj_d_107_52 rfl rfl rfl rfl rfl rfl ⟨Nat.le_of_ble_eq_true rfl, ⟨Nat.le_of_ble_eq_true rfl, Nat.le_of_ble_eq_true rfl, Nat.le_of_ble_eq_true rfl, Nat.le_of_ble_eq_true rfl, Nat.le_of_ble_eq_true rfl⟩⟩) ?_ ?_
            · refine mj_runs.step (S' := (mj_m_110, 1, [(0, .ref 0), (1, .int (0 : Int32))], [.int (0 : Int32)], mj_h0)) (mj_one_of mj_d_110_0 fun _ _ => rfl) ?_
              refine mj_runs.call (S1 := (mj_m_90, 0, [(0, .int (0 : Int32))], [], mj_h0)) (r1 := (some (.int (0 : Int32)))) (h1 := mj_h0) (mj_calls_s mj_d_110_1 rfl rfl rfl rfl ⟨Nat.le_of_ble_eq_true rfl, Nat.le_of_ble_eq_true rfl, Nat.le_of_ble_eq_true rfl, Nat.le_of_ble_eq_true rfl, Nat.le_of_ble_eq_true rfl⟩) ?_ ?_
              · refine mj_runs.step (S' := (mj_m_90, 1, [(0, .int (0 : Int32))], [.int (0 : Int32)], mj_h0)) (mj_one_of mj_d_90_0 fun _ _ => rfl) ?_
                refine mj_runs.step (S' := (mj_m_90, 2, [(0, .int (0 : Int32))], [.int (0 : Int32), .int (0 : Int32)], mj_h0)) (mj_one_of mj_d_90_1 fun _ _ => rfl) ?_
                refine mj_runs.step (S' := (mj_m_90, 3, [(0, .int (0 : Int32))], [.int (1 : Int32), .int (0 : Int32), .int (0 : Int32)], mj_h0)) (mj_one_of mj_d_90_2 fun _ _ => rfl) ?_
                refine mj_runs.step (S' := (mj_m_90, 4, [(0, .int (0 : Int32))], [.int (0 : Int32), .int (0 : Int32)], mj_h0)) (mj_one_of mj_d_90_3 fun _ _ => rfl) ?_
                refine mj_runs.step (S' := (mj_m_90, 7, [(0, .int (0 : Int32))], [.int (1431655765 : Int32), .int (0 : Int32), .int (0 : Int32)], mj_h0)) (mj_one_of mj_d_90_4 fun _ _ => rfl) ?_
                refine mj_runs.step (S' := (mj_m_90, 8, [(0, .int (0 : Int32))], [.int (0 : Int32), .int (0 : Int32)], mj_h0)) (mj_one_of mj_d_90_7 fun _ _ => rfl) ?_
                refine mj_runs.step (S' := (mj_m_90, 9, [(0, .int (0 : Int32))], [.int (0 : Int32)], mj_h0)) (mj_one_of mj_d_90_8 fun _ _ => rfl) ?_
                refine mj_runs.step (S' := (mj_m_90, 10, [(0, .int (0 : Int32))], [], mj_h0)) (mj_one_of mj_d_90_9 fun _ _ => rfl) ?_
                refine mj_runs.step (S' := (mj_m_90, 11, [(0, .int (0 : Int32))], [.int (0 : Int32)], mj_h0)) (mj_one_of mj_d_90_10 fun _ _ => rfl) ?_
                refine mj_runs.step (S' := (mj_m_90, 14, [(0, .int (0 : Int32))], [.int (858993459 : Int32), .int (0 : Int32)], mj_h0)) (mj_one_of mj_d_90_11 fun _ _ => rfl) ?_
                refine mj_runs.step (S' := (mj_m_90, 15, [(0, .int (0 : Int32))], [.int (0 : Int32)], mj_h0)) (mj_one_of mj_d_90_14 fun _ _ => rfl) ?_
                refine mj_runs.step (S' := (mj_m_90, 16, [(0, .int (0 : Int32))], [.int (0 : Int32), .int (0 : Int32)], mj_h0)) (mj_one_of mj_d_90_15 fun _ _ => rfl) ?_
                refine mj_runs.step (S' := (mj_m_90, 17, [(0, .int (0 : Int32))], [.int (2 : Int32), .int (0 : Int32), .int (0 : Int32)], mj_h0)) (mj_one_of mj_d_90_16 fun _ _ => rfl) ?_
                refine mj_runs.step (S' := (mj_m_90, 18, [(0, .int (0 : Int32))], [.int (0 : Int32), .int (0 : Int32)], mj_h0)) (mj_one_of mj_d_90_17 fun _ _ => rfl) ?_
                refine mj_runs.step (S' := (mj_m_90, 21, [(0, .int (0 : Int32))], [.int (858993459 : Int32), .int (0 : Int32), .int (0 : Int32)], mj_h0)) (mj_one_of mj_d_90_18 fun _ _ => rfl) ?_
                refine mj_runs.step (S' := (mj_m_90, 22, [(0, .int (0 : Int32))], [.int (0 : Int32), .int (0 : Int32)], mj_h0)) (mj_one_of mj_d_90_21 fun _ _ => rfl) ?_
                refine mj_runs.step (S' := (mj_m_90, 23, [(0, .int (0 : Int32))], [.int (0 : Int32)], mj_h0)) (mj_one_of mj_d_90_22 fun _ _ => rfl) ?_
                refine mj_runs.step (S' := (mj_m_90, 24, [(0, .int (0 : Int32))], [], mj_h0)) (mj_one_of mj_d_90_23 fun _ _ => rfl) ?_
                refine mj_runs.step (S' := (mj_m_90, 25, [(0, .int (0 : Int32))], [.int (0 : Int32)], mj_h0)) (mj_one_of mj_d_90_24 fun _ _ => rfl) ?_
                refine mj_runs.step (S' := (mj_m_90, 26, [(0, .int (0 : Int32))], [.int (0 : Int32), .int (0 : Int32)], mj_h0)) (mj_one_of mj_d_90_25 fun _ _ => rfl) ?_
                refine mj_runs.step (S' := (mj_m_90, 27, [(0, .int (0 : Int32))], [.int (4 : Int32), .int (0 : Int32), .int (0 : Int32)], mj_h0)) (mj_one_of mj_d_90_26 fun _ _ => rfl) ?_
                refine mj_runs.step (S' := (mj_m_90, 28, [(0, .int (0 : Int32))], [.int (0 : Int32), .int (0 : Int32)], mj_h0)) (mj_one_of mj_d_90_27 fun _ _ => rfl) ?_
                refine mj_runs.step (S' := (mj_m_90, 29, [(0, .int (0 : Int32))], [.int (0 : Int32)], mj_h0)) (mj_one_of mj_d_90_28 fun _ _ => rfl) ?_
                refine mj_runs.step (S' := (mj_m_90, 32, [(0, .int (0 : Int32))], [.int (252645135 : Int32), .int (0 : Int32)], mj_h0)) (mj_one_of mj_d_90_29 fun _ _ => rfl) ?_
                refine mj_runs.step (S' := (mj_m_90, 33, [(0, .int (0 : Int32))], [.int (0 : Int32)], mj_h0)) (mj_one_of mj_d_90_32 fun _ _ => rfl) ?_
                refine mj_runs.step (S' := (mj_m_90, 34, [(0, .int (0 : Int32))], [], mj_h0)) (mj_one_of mj_d_90_33 fun _ _ => rfl) ?_
                refine mj_runs.step (S' := (mj_m_90, 35, [(0, .int (0 : Int32))], [.int (0 : Int32)], mj_h0)) (mj_one_of mj_d_90_34 fun _ _ => rfl) ?_
                refine mj_runs.step (S' := (mj_m_90, 36, [(0, .int (0 : Int32))], [.int (0 : Int32), .int (0 : Int32)], mj_h0)) (mj_one_of mj_d_90_35 fun _ _ => rfl) ?_
                refine mj_runs.step (S' := (mj_m_90, 38, [(0, .int (0 : Int32))], [.int (8 : Int32), .int (0 : Int32), .int (0 : Int32)], mj_h0)) (mj_one_of mj_d_90_36 fun _ _ => rfl) ?_
                refine mj_runs.step (S' := (mj_m_90, 39, [(0, .int (0 : Int32))], [.int (0 : Int32), .int (0 : Int32)], mj_h0)) (mj_one_of mj_d_90_38 fun _ _ => rfl) ?_
                refine mj_runs.step (S' := (mj_m_90, 40, [(0, .int (0 : Int32))], [.int (0 : Int32)], mj_h0)) (mj_one_of mj_d_90_39 fun _ _ => rfl) ?_
                refine mj_runs.step (S' := (mj_m_90, 41, [(0, .int (0 : Int32))], [], mj_h0)) (mj_one_of mj_d_90_40 fun _ _ => rfl) ?_
                refine mj_runs.step (S' := (mj_m_90, 42, [(0, .int (0 : Int32))], [.int (0 : Int32)], mj_h0)) (mj_one_of mj_d_90_41 fun _ _ => rfl) ?_
                refine mj_runs.step (S' := (mj_m_90, 43, [(0, .int (0 : Int32))], [.int (0 : Int32), .int (0 : Int32)], mj_h0)) (mj_one_of mj_d_90_42 fun _ _ => rfl) ?_
                refine mj_runs.step (S' := (mj_m_90, 45, [(0, .int (0 : Int32))], [.int (16 : Int32), .int (0 : Int32), .int (0 : Int32)], mj_h0)) (mj_one_of mj_d_90_43 fun _ _ => rfl) ?_
                refine mj_runs.step (S' := (mj_m_90, 46, [(0, .int (0 : Int32))], [.int (0 : Int32), .int (0 : Int32)], mj_h0)) (mj_one_of mj_d_90_45 fun _ _ => rfl) ?_
                refine mj_runs.step (S' := (mj_m_90, 47, [(0, .int (0 : Int32))], [.int (0 : Int32)], mj_h0)) (mj_one_of mj_d_90_46 fun _ _ => rfl) ?_
                refine mj_runs.step (S' := (mj_m_90, 48, [(0, .int (0 : Int32))], [], mj_h0)) (mj_one_of mj_d_90_47 fun _ _ => rfl) ?_
                refine mj_runs.step (S' := (mj_m_90, 49, [(0, .int (0 : Int32))], [.int (0 : Int32)], mj_h0)) (mj_one_of mj_d_90_48 fun _ _ => rfl) ?_
                refine mj_runs.step (S' := (mj_m_90, 51, [(0, .int (0 : Int32))], [.int (63 : Int32), .int (0 : Int32)], mj_h0)) (mj_one_of mj_d_90_49 fun _ _ => rfl) ?_
                refine mj_runs.step (S' := (mj_m_90, 52, [(0, .int (0 : Int32))], [.int (0 : Int32)], mj_h0)) (mj_one_of mj_d_90_51 fun _ _ => rfl) ?_
                exact mj_runs.ret (mj_ret_of mj_d_90_52 fun _ _ => rfl)
              show mj_runs (mj_m_110, 4, [(0, .ref 0), (1, .int (0 : Int32))], [.int (0 : Int32)], mj_h0) _ _
              refine mj_runs.step (S' := (mj_m_110, 5, [(2, .int (0 : Int32)), (0, .ref 0), (1, .int (0 : Int32))], [], mj_h0)) (mj_one_of mj_d_110_4 fun _ _ => rfl) ?_
              refine mj_runs.step (S' := (mj_m_110, 6, [(2, .int (0 : Int32)), (0, .ref 0), (1, .int (0 : Int32))], [.int (Int32.ofInt (-1))], mj_h0)) (mj_one_of mj_d_110_5 fun _ _ => rfl) ?_
              refine mj_runs.step (S' := (mj_m_110, 7, [(3, .int (Int32.ofInt (-1))), (2, .int (0 : Int32)), (0, .ref 0), (1, .int (0 : Int32))], [], mj_h0)) (mj_one_of mj_d_110_6 fun _ _ => rfl) ?_
              refine mj_runs.step (S' := (mj_m_110, 8, [(3, .int (Int32.ofInt (-1))), (2, .int (0 : Int32)), (0, .ref 0), (1, .int (0 : Int32))], [.int (0 : Int32)], mj_h0)) (mj_one_of mj_d_110_7 fun _ _ => rfl) ?_
              refine mj_runs.step (S' := (mj_m_110, 10, [(4, .int (0 : Int32)), (3, .int (Int32.ofInt (-1))), (2, .int (0 : Int32)), (0, .ref 0), (1, .int (0 : Int32))], [], mj_h0)) (mj_one_of mj_d_110_8 fun _ _ => rfl) ?_
              refine mj_runs.step (S' := (mj_m_110, 11, [(4, .int (0 : Int32)), (3, .int (Int32.ofInt (-1))), (2, .int (0 : Int32)), (0, .ref 0), (1, .int (0 : Int32))], [.int (0 : Int32)], mj_h0)) (mj_one_of mj_d_110_10 fun _ _ => rfl) ?_
              refine mj_runs.step (S' := (mj_m_110, 13, [(5, .int (0 : Int32)), (4, .int (0 : Int32)), (3, .int (Int32.ofInt (-1))), (2, .int (0 : Int32)), (0, .ref 0), (1, .int (0 : Int32))], [], mj_h0)) (mj_one_of mj_d_110_11 fun _ _ => rfl) ?_
              refine mj_runs.step (S' := (mj_m_110, 15, [(5, .int (0 : Int32)), (4, .int (0 : Int32)), (3, .int (Int32.ofInt (-1))), (2, .int (0 : Int32)), (0, .ref 0), (1, .int (0 : Int32))], [.int (0 : Int32)], mj_h0)) (mj_one_of mj_d_110_13 fun _ _ => rfl) ?_
              refine mj_runs.step (S' := (mj_m_110, 16, [(5, .int (0 : Int32)), (4, .int (0 : Int32)), (3, .int (Int32.ofInt (-1))), (2, .int (0 : Int32)), (0, .ref 0), (1, .int (0 : Int32))], [.ref 0, .int (0 : Int32)], mj_h0)) (mj_one_of mj_d_110_15 fun _ _ => rfl) ?_
              refine mj_runs.step (S' := (mj_m_110, 19, [(5, .int (0 : Int32)), (4, .int (0 : Int32)), (3, .int (Int32.ofInt (-1))), (2, .int (0 : Int32)), (0, .ref 0), (1, .int (0 : Int32))], [.ref 8, .int (0 : Int32)], mj_h0)) (mj_one_of mj_d_110_16 fun _ _ => rfl) ?_
              refine mj_runs.step (S' := (mj_m_110, 22, [(5, .int (0 : Int32)), (4, .int (0 : Int32)), (3, .int (Int32.ofInt (-1))), (2, .int (0 : Int32)), (0, .ref 0), (1, .int (0 : Int32))], [.int (0 : Int32), .int (0 : Int32)], mj_h0)) (mj_one_of mj_d_110_19 fun _ _ => rfl) ?_
              refine mj_runs.step (S' := (mj_m_110, 65, [(5, .int (0 : Int32)), (4, .int (0 : Int32)), (3, .int (Int32.ofInt (-1))), (2, .int (0 : Int32)), (0, .ref 0), (1, .int (0 : Int32))], [], mj_h0)) (mj_one_of mj_d_110_22 fun _ _ => rfl) ?_
              refine mj_runs.step (S' := (mj_m_110, 66, [(5, .int (0 : Int32)), (4, .int (0 : Int32)), (3, .int (Int32.ofInt (-1))), (2, .int (0 : Int32)), (0, .ref 0), (1, .int (0 : Int32))], [.int (Int32.ofInt (-1))], mj_h0)) (mj_one_of mj_d_110_65 fun _ _ => rfl) ?_
              exact mj_runs.ret (mj_ret_of mj_d_110_66 fun _ _ => rfl)
            show mj_runs (mj_m_107, 55, [(0, .ref 0), (1, .int a), (2, .int (1 : Int32))], [.int (Int32.ofInt (-1))], mj_h0) _ _
            exact mj_runs.ret (mj_ret_of mj_d_107_55 fun _ _ => rfl)
          · refine mj_runs.step (S' := (mj_m_182, 1, [(0, .ref 234), (1, .int a), (2, .int (1 : Int32))], [.int a], mj_h0)) (mj_one_of mj_d_182_0 fun _ _ => rfl) ?_
            refine mj_runs.step (S' := (mj_m_182, 2, [(0, .ref 234), (1, .int a), (2, .int (1 : Int32))], [.long (a).toInt64], mj_h0)) (mj_one_of mj_d_182_1 fun _ _ => rfl) ?_
            refine mj_runs.step (S' := (mj_m_182, 3, [(0, .ref 234), (1, .int a), (2, .int (1 : Int32))], [.long (1 : Int64), .long (a).toInt64], mj_h0)) (mj_one_of mj_d_182_2 fun _ _ => rfl) ?_
            refine mj_runs.step (S' := (mj_m_182, 6, [(0, .ref 234), (1, .int a), (2, .int (1 : Int32))], [.long (7 : Int64), .long (1 : Int64), .long (a).toInt64], mj_h0)) (mj_one_of mj_d_182_3 fun _ _ => rfl) ?_
            refine mj_runs.call (S1 := (mj_m_125, 0, [(0, .long (a).toInt64), (2, .long (1 : Int64)), (4, .long (7 : Int64))], [], mj_h0)) (r1 := (some (.int (1 : Int32)))) (h1 := mj_h0) (mj_calls_s mj_d_182_6 rfl rfl rfl rfl ⟨Nat.le_of_ble_eq_true rfl, Nat.le_of_ble_eq_true rfl, Nat.le_of_ble_eq_true rfl, Nat.le_of_ble_eq_true rfl, Nat.le_of_ble_eq_true rfl⟩) ?_ ?_
            · refine mj_runs.step (S' := (mj_m_125, 1, [(0, .long (a).toInt64), (2, .long (1 : Int64)), (4, .long (7 : Int64))], [.long (a).toInt64], mj_h0)) (mj_one_of mj_d_125_0 fun _ _ => rfl) ?_
              refine mj_runs.step (S' := (mj_m_125, 2, [(0, .long (a).toInt64), (2, .long (1 : Int64)), (4, .long (7 : Int64))], [.long (1 : Int64), .long (a).toInt64], mj_h0)) (mj_one_of mj_d_125_1 fun _ _ => rfl) ?_
              refine mj_runs.step (S' := (mj_m_125, 3, [(0, .long (a).toInt64), (2, .long (1 : Int64)), (4, .long (7 : Int64))], [.int (lg_cmp (a).toInt64 (1 : Int64))], mj_h0)) (mj_one_of mj_d_125_2 fun _ _ => rfl) ?_
              refine mj_runs.step (S' := (mj_m_125, 6, [(0, .long (a).toInt64), (2, .long (1 : Int64)), (4, .long (7 : Int64))], [], mj_h0)) (mj_one_ifF mj_d_125_3 (t := 17) rfl (mj_lgF_lt (mj_l32 a) (show ((1 : Int64)).toInt = 1 by decide) (by omega))) ?_
              refine mj_runs.step (S' := (mj_m_125, 7, [(0, .long (a).toInt64), (2, .long (1 : Int64)), (4, .long (7 : Int64))], [.long (a).toInt64], mj_h0)) (mj_one_of mj_d_125_6 fun _ _ => rfl) ?_
              refine mj_runs.step (S' := (mj_m_125, 9, [(0, .long (a).toInt64), (2, .long (1 : Int64)), (4, .long (7 : Int64))], [.long (7 : Int64), .long (a).toInt64], mj_h0)) (mj_one_of mj_d_125_7 fun _ _ => rfl) ?_
              refine mj_runs.step (S' := (mj_m_125, 10, [(0, .long (a).toInt64), (2, .long (1 : Int64)), (4, .long (7 : Int64))], [.int (lg_cmp (a).toInt64 (7 : Int64))], mj_h0)) (mj_one_of mj_d_125_9 fun _ _ => rfl) ?_
              refine mj_runs.step (S' := (mj_m_125, 13, [(0, .long (a).toInt64), (2, .long (1 : Int64)), (4, .long (7 : Int64))], [], mj_h0)) (mj_one_ifF mj_d_125_10 (t := 17) rfl (mj_lgF_gt (mj_l32 a) (show ((7 : Int64)).toInt = 7 by decide) (by omega))) ?_
              refine mj_runs.step (S' := (mj_m_125, 14, [(0, .long (a).toInt64), (2, .long (1 : Int64)), (4, .long (7 : Int64))], [.int (1 : Int32)], mj_h0)) (mj_one_of mj_d_125_13 fun _ _ => rfl) ?_
              refine mj_runs.step (S' := (mj_m_125, 18, [(0, .long (a).toInt64), (2, .long (1 : Int64)), (4, .long (7 : Int64))], [.int (1 : Int32)], mj_h0)) (mj_one_of mj_d_125_14 fun _ _ => rfl) ?_
              exact mj_runs.ret (mj_ret_of mj_d_125_18 fun _ _ => rfl)
            show mj_runs (mj_m_182, 9, [(0, .ref 234), (1, .int a), (2, .int (1 : Int32))], [.int (1 : Int32)], mj_h0) _ _
            refine mj_runs.step (S' := (mj_m_182, 12, [(0, .ref 234), (1, .int a), (2, .int (1 : Int32))], [], mj_h0)) (mj_one_of mj_d_182_9 fun _ _ => rfl) ?_
            refine mj_runs.step (S' := (mj_m_182, 13, [(0, .ref 234), (1, .int a), (2, .int (1 : Int32))], [.int (1 : Int32)], mj_h0)) (mj_one_of mj_d_182_12 fun _ _ => rfl) ?_
            refine mj_runs.step (S' := (mj_m_182, 14, [(0, .ref 234), (1, .int a), (2, .int (1 : Int32))], [.long (1 : Int64)], mj_h0)) (mj_one_of mj_d_182_13 fun _ _ => rfl) ?_
            refine mj_runs.step (S' := (mj_m_182, 15, [(0, .ref 234), (1, .int a), (2, .int (1 : Int32))], [.long (0 : Int64), .long (1 : Int64)], mj_h0)) (mj_one_of mj_d_182_14 fun _ _ => rfl) ?_
            refine mj_runs.step (S' := (mj_m_182, 16, [(0, .ref 234), (1, .int a), (2, .int (1 : Int32))], [.long (1 : Int64), .long (0 : Int64), .long (1 : Int64)], mj_h0)) (mj_one_of mj_d_182_15 fun _ _ => rfl) ?_
            refine mj_runs.call (S1 := (mj_m_125, 0, [(0, .long (1 : Int64)), (2, .long (0 : Int64)), (4, .long (1 : Int64))], [], mj_h0)) (r1 := (some (.int (1 : Int32)))) (h1 := mj_h0) (mj_calls_s mj_d_182_16 rfl rfl rfl rfl ⟨Nat.le_of_ble_eq_true rfl, Nat.le_of_ble_eq_true rfl, Nat.le_of_ble_eq_true rfl, Nat.le_of_ble_eq_true rfl, Nat.le_of_ble_eq_true rfl⟩) ?_ ?_
            · refine mj_runs.step (S' := (mj_m_125, 1, [(0, .long (1 : Int64)), (2, .long (0 : Int64)), (4, .long (1 : Int64))], [.long (1 : Int64)], mj_h0)) (mj_one_of mj_d_125_0 fun _ _ => rfl) ?_
              refine mj_runs.step (S' := (mj_m_125, 2, [(0, .long (1 : Int64)), (2, .long (0 : Int64)), (4, .long (1 : Int64))], [.long (0 : Int64), .long (1 : Int64)], mj_h0)) (mj_one_of mj_d_125_1 fun _ _ => rfl) ?_
              refine mj_runs.step (S' := (mj_m_125, 3, [(0, .long (1 : Int64)), (2, .long (0 : Int64)), (4, .long (1 : Int64))], [.int (1 : Int32)], mj_h0)) (mj_one_of mj_d_125_2 fun _ _ => rfl) ?_
              refine mj_runs.step (S' := (mj_m_125, 6, [(0, .long (1 : Int64)), (2, .long (0 : Int64)), (4, .long (1 : Int64))], [], mj_h0)) (mj_one_of mj_d_125_3 fun _ _ => rfl) ?_
              refine mj_runs.step (S' := (mj_m_125, 7, [(0, .long (1 : Int64)), (2, .long (0 : Int64)), (4, .long (1 : Int64))], [.long (1 : Int64)], mj_h0)) (mj_one_of mj_d_125_6 fun _ _ => rfl) ?_
              refine mj_runs.step (S' := (mj_m_125, 9, [(0, .long (1 : Int64)), (2, .long (0 : Int64)), (4, .long (1 : Int64))], [.long (1 : Int64), .long (1 : Int64)], mj_h0)) (mj_one_of mj_d_125_7 fun _ _ => rfl) ?_
              refine mj_runs.step (S' := (mj_m_125, 10, [(0, .long (1 : Int64)), (2, .long (0 : Int64)), (4, .long (1 : Int64))], [.int (0 : Int32)], mj_h0)) (mj_one_of mj_d_125_9 fun _ _ => rfl) ?_
              refine mj_runs.step (S' := (mj_m_125, 13, [(0, .long (1 : Int64)), (2, .long (0 : Int64)), (4, .long (1 : Int64))], [], mj_h0)) (mj_one_of mj_d_125_10 fun _ _ => rfl) ?_
              refine mj_runs.step (S' := (mj_m_125, 14, [(0, .long (1 : Int64)), (2, .long (0 : Int64)), (4, .long (1 : Int64))], [.int (1 : Int32)], mj_h0)) (mj_one_of mj_d_125_13 fun _ _ => rfl) ?_
              refine mj_runs.step (S' := (mj_m_125, 18, [(0, .long (1 : Int64)), (2, .long (0 : Int64)), (4, .long (1 : Int64))], [.int (1 : Int32)], mj_h0)) (mj_one_of mj_d_125_14 fun _ _ => rfl) ?_
              exact mj_runs.ret (mj_ret_of mj_d_125_18 fun _ _ => rfl)
            show mj_runs (mj_m_182, 19, [(0, .ref 234), (1, .int a), (2, .int (1 : Int32))], [.int (1 : Int32)], mj_h0) _ _
            refine mj_runs.step (S' := (mj_m_182, 25, [(0, .ref 234), (1, .int a), (2, .int (1 : Int32))], [], mj_h0)) (mj_one_of mj_d_182_19 fun _ _ => rfl) ?_
            refine mj_runs.step (S' := (mj_m_182, 26, [(0, .ref 234), (1, .int a), (2, .int (1 : Int32))], [.int (0 : Int32)], mj_h0)) (mj_one_of mj_d_182_25 fun _ _ => rfl) ?_
            refine mj_runs.step (S' := (mj_m_182, 27, [(3, .int (0 : Int32)), (0, .ref 234), (1, .int a), (2, .int (1 : Int32))], [], mj_h0)) (mj_one_of mj_d_182_26 fun _ _ => rfl) ?_
            refine mj_runs.step (S' := (mj_m_182, 28, [(3, .int (0 : Int32)), (0, .ref 234), (1, .int a), (2, .int (1 : Int32))], [.int (0 : Int32)], mj_h0)) (mj_one_of mj_d_182_27 fun _ _ => rfl) ?_
            refine mj_runs.step (S' := (mj_m_182, 30, [(4, .int (0 : Int32)), (3, .int (0 : Int32)), (0, .ref 234), (1, .int a), (2, .int (1 : Int32))], [], mj_h0)) (mj_one_of mj_d_182_28 fun _ _ => rfl) ?_
            refine mj_runs.step (S' := (mj_m_182, 32, [(4, .int (0 : Int32)), (3, .int (0 : Int32)), (0, .ref 234), (1, .int a), (2, .int (1 : Int32))], [.int (0 : Int32)], mj_h0)) (mj_one_of mj_d_182_30 fun _ _ => rfl) ?_
            refine mj_runs.step (S' := (mj_m_182, 33, [(4, .int (0 : Int32)), (3, .int (0 : Int32)), (0, .ref 234), (1, .int a), (2, .int (1 : Int32))], [.ref 234, .int (0 : Int32)], mj_h0)) (mj_one_of mj_d_182_32 fun _ _ => rfl) ?_
            refine mj_runs.step (S' := (mj_m_182, 36, [(4, .int (0 : Int32)), (3, .int (0 : Int32)), (0, .ref 234), (1, .int a), (2, .int (1 : Int32))], [.int (0 : Int32), .int (0 : Int32)], mj_h0)) (mj_one_of mj_d_182_33 fun _ _ => rfl) ?_
            refine mj_runs.step (S' := (mj_m_182, 131, [(4, .int (0 : Int32)), (3, .int (0 : Int32)), (0, .ref 234), (1, .int a), (2, .int (1 : Int32))], [], mj_h0)) (mj_one_of mj_d_182_36 fun _ _ => rfl) ?_
            refine mj_runs.step (S' := (mj_m_182, 132, [(4, .int (0 : Int32)), (3, .int (0 : Int32)), (0, .ref 234), (1, .int a), (2, .int (1 : Int32))], [.int (1 : Int32)], mj_h0)) (mj_one_of mj_d_182_131 fun _ _ => rfl) ?_
            refine mj_runs.step (S' := (mj_m_182, 137, [(4, .int (0 : Int32)), (3, .int (0 : Int32)), (0, .ref 234), (1, .int a), (2, .int (1 : Int32))], [], mj_h0)) (mj_one_of mj_d_182_132 fun _ _ => rfl) ?_
            refine mj_runs.step (S' := (mj_m_182, 138, [(4, .int (0 : Int32)), (3, .int (0 : Int32)), (0, .ref 234), (1, .int a), (2, .int (1 : Int32))], [.int (Int32.ofInt (-1))], mj_h0)) (mj_one_of mj_d_182_137 fun _ _ => rfl) ?_
            refine mj_runs.step (S' := (mj_m_182, 140, [(4, .int (Int32.ofInt (-1))), (3, .int (0 : Int32)), (0, .ref 234), (1, .int a), (2, .int (1 : Int32))], [], mj_h0)) (mj_one_of mj_d_182_138 fun _ _ => rfl) ?_
            refine mj_runs.step (S' := (mj_m_182, 141, [(4, .int (Int32.ofInt (-1))), (3, .int (0 : Int32)), (0, .ref 234), (1, .int a), (2, .int (1 : Int32))], [.int (0 : Int32)], mj_h0)) (mj_one_of mj_d_182_140 fun _ _ => rfl) ?_
            refine mj_runs.call (S1 := (mj_m_175, 0, [(0, .int (0 : Int32))], [], mj_h0)) (r1 := (some (.int (0 : Int32)))) (h1 := mj_h0) (mj_calls_s mj_d_182_141 rfl rfl rfl rfl ⟨Nat.le_of_ble_eq_true rfl, Nat.le_of_ble_eq_true rfl, Nat.le_of_ble_eq_true rfl, Nat.le_of_ble_eq_true rfl, Nat.le_of_ble_eq_true rfl⟩) ?_ ?_
            · refine mj_runs.step (S' := (mj_m_175, 1, [(0, .int (0 : Int32))], [.int (0 : Int32)], mj_h0)) (mj_one_of mj_d_175_0 fun _ _ => rfl) ?_
              refine mj_runs.step (S' := (mj_m_175, 2, [(1, .int (0 : Int32)), (0, .int (0 : Int32))], [], mj_h0)) (mj_one_of mj_d_175_1 fun _ _ => rfl) ?_
              refine mj_runs.step (S' := (mj_m_175, 3, [(1, .int (0 : Int32)), (0, .int (0 : Int32))], [.int (0 : Int32)], mj_h0)) (mj_one_of mj_d_175_2 fun _ _ => rfl) ?_
              refine mj_runs.step (S' := (mj_m_175, 4, [(2, .int (0 : Int32)), (1, .int (0 : Int32)), (0, .int (0 : Int32))], [], mj_h0)) (mj_one_of mj_d_175_3 fun _ _ => rfl) ?_
              refine mj_runs.step (S' := (mj_m_175, 5, [(2, .int (0 : Int32)), (1, .int (0 : Int32)), (0, .int (0 : Int32))], [.int (0 : Int32)], mj_h0)) (mj_one_of mj_d_175_4 fun _ _ => rfl) ?_
              refine mj_runs.step (S' := (mj_m_175, 7, [(2, .int (0 : Int32)), (1, .int (0 : Int32)), (0, .int (0 : Int32))], [.int (9 : Int32), .int (0 : Int32)], mj_h0)) (mj_one_of mj_d_175_5 fun _ _ => rfl) ?_
              refine mj_runs.step (S' := (mj_m_175, 10, [(2, .int (0 : Int32)), (1, .int (0 : Int32)), (0, .int (0 : Int32))], [], mj_h0)) (mj_one_of mj_d_175_7 fun _ _ => rfl) ?_
              refine mj_runs.step (S' := (mj_m_175, 11, [(2, .int (0 : Int32)), (1, .int (0 : Int32)), (0, .int (0 : Int32))], [.int (0 : Int32)], mj_h0)) (mj_one_of mj_d_175_10 fun _ _ => rfl) ?_
              refine mj_runs.step (S' := (mj_m_175, 12, [(2, .int (0 : Int32)), (1, .int (0 : Int32)), (0, .int (0 : Int32))], [.int (0 : Int32), .int (0 : Int32)], mj_h0)) (mj_one_of mj_d_175_11 fun _ _ => rfl) ?_
              refine mj_runs.step (S' := (mj_m_175, 13, [(2, .int (0 : Int32)), (1, .int (0 : Int32)), (0, .int (0 : Int32))], [.int (0 : Int32), .int (0 : Int32), .int (0 : Int32)], mj_h0)) (mj_one_of mj_d_175_12 fun _ _ => rfl) ?_
              refine mj_runs.step (S' := (mj_m_175, 14, [(2, .int (0 : Int32)), (1, .int (0 : Int32)), (0, .int (0 : Int32))], [.int (0 : Int32), .int (0 : Int32)], mj_h0)) (mj_one_of mj_d_175_13 fun _ _ => rfl) ?_
              refine mj_runs.step (S' := (mj_m_175, 15, [(2, .int (0 : Int32)), (1, .int (0 : Int32)), (0, .int (0 : Int32))], [.int (1 : Int32), .int (0 : Int32), .int (0 : Int32)], mj_h0)) (mj_one_of mj_d_175_14 fun _ _ => rfl) ?_
              refine mj_runs.step (S' := (mj_m_175, 16, [(2, .int (0 : Int32)), (1, .int (0 : Int32)), (0, .int (0 : Int32))], [.int (0 : Int32), .int (0 : Int32)], mj_h0)) (mj_one_of mj_d_175_15 fun _ _ => rfl) ?_
              refine mj_runs.step (S' := (mj_m_175, 17, [(2, .int (0 : Int32)), (1, .int (0 : Int32)), (0, .int (0 : Int32))], [.int (0 : Int32)], mj_h0)) (mj_one_of mj_d_175_16 fun _ _ => rfl) ?_
              refine mj_runs.step (S' := (mj_m_175, 18, [(1, .int (0 : Int32)), (2, .int (0 : Int32)), (0, .int (0 : Int32))], [], mj_h0)) (mj_one_of mj_d_175_17 fun _ _ => rfl) ?_
              refine mj_runs.step (S' := (mj_m_175, 21, [(2, .int (1 : Int32)), (1, .int (0 : Int32)), (0, .int (0 : Int32))], [], mj_h0)) (mj_one_of mj_d_175_18 fun _ _ => rfl) ?_
              refine mj_runs.step (S' := (mj_m_175, 4, [(2, .int (1 : Int32)), (1, .int (0 : Int32)), (0, .int (0 : Int32))], [], mj_h0)) (mj_one_of mj_d_175_21 fun _ _ => rfl) ?_
              refine mj_runs.step (S' := (mj_m_175, 5, [(2, .int (1 : Int32)), (1, .int (0 : Int32)), (0, .int (0 : Int32))], [.int (1 : Int32)], mj_h0)) (mj_one_of mj_d_175_4 fun _ _ => rfl) ?_
              refine mj_runs.step (S' := (mj_m_175, 7, [(2, .int (1 : Int32)), (1, .int (0 : Int32)), (0, .int (0 : Int32))], [.int (9 : Int32), .int (1 : Int32)], mj_h0)) (mj_one_of mj_d_175_5 fun _ _ => rfl) ?_
              refine mj_runs.step (S' := (mj_m_175, 10, [(2, .int (1 : Int32)), (1, .int (0 : Int32)), (0, .int (0 : Int32))], [], mj_h0)) (mj_one_of mj_d_175_7 fun _ _ => rfl) ?_
              refine mj_runs.step (S' := (mj_m_175, 11, [(2, .int (1 : Int32)), (1, .int (0 : Int32)), (0, .int (0 : Int32))], [.int (0 : Int32)], mj_h0)) (mj_one_of mj_d_175_10 fun _ _ => rfl) ?_
              refine mj_runs.step (S' := (mj_m_175, 12, [(2, .int (1 : Int32)), (1, .int (0 : Int32)), (0, .int (0 : Int32))], [.int (0 : Int32), .int (0 : Int32)], mj_h0)) (mj_one_of mj_d_175_11 fun _ _ => rfl) ?_
              refine mj_runs.step (S' := (mj_m_175, 13, [(2, .int (1 : Int32)), (1, .int (0 : Int32)), (0, .int (0 : Int32))], [.int (1 : Int32), .int (0 : Int32), .int (0 : Int32)], mj_h0)) (mj_one_of mj_d_175_12 fun _ _ => rfl) ?_
              refine mj_runs.step (S' := (mj_m_175, 14, [(2, .int (1 : Int32)), (1, .int (0 : Int32)), (0, .int (0 : Int32))], [.int (0 : Int32), .int (0 : Int32)], mj_h0)) (mj_one_of mj_d_175_13 fun _ _ => rfl) ?_
              refine mj_runs.step (S' := (mj_m_175, 15, [(2, .int (1 : Int32)), (1, .int (0 : Int32)), (0, .int (0 : Int32))], [.int (1 : Int32), .int (0 : Int32), .int (0 : Int32)], mj_h0)) (mj_one_of mj_d_175_14 fun _ _ => rfl) ?_
              refine mj_runs.step (S' := (mj_m_175, 16, [(2, .int (1 : Int32)), (1, .int (0 : Int32)), (0, .int (0 : Int32))], [.int (0 : Int32), .int (0 : Int32)], mj_h0)) (mj_one_of mj_d_175_15 fun _ _ => rfl) ?_
              refine mj_runs.step (S' := (mj_m_175, 17, [(2, .int (1 : Int32)), (1, .int (0 : Int32)), (0, .int (0 : Int32))], [.int (0 : Int32)], mj_h0)) (mj_one_of mj_d_175_16 fun _ _ => rfl) ?_
              refine mj_runs.step (S' := (mj_m_175, 18, [(1, .int (0 : Int32)), (2, .int (1 : Int32)), (0, .int (0 : Int32))], [], mj_h0)) (mj_one_of mj_d_175_17 fun _ _ => rfl) ?_
              refine mj_runs.step (S' := (mj_m_175, 21, [(2, .int (2 : Int32)), (1, .int (0 : Int32)), (0, .int (0 : Int32))], [], mj_h0)) (mj_one_of mj_d_175_18 fun _ _ => rfl) ?_
              refine mj_runs.step (S' := (mj_m_175, 4, [(2, .int (2 : Int32)), (1, .int (0 : Int32)), (0, .int (0 : Int32))], [], mj_h0)) (mj_one_of mj_d_175_21 fun _ _ => rfl) ?_
              refine mj_runs.step (S' := (mj_m_175, 5, [(2, .int (2 : Int32)), (1, .int (0 : Int32)), (0, .int (0 : Int32))], [.int (2 : Int32)], mj_h0)) (mj_one_of mj_d_175_4 fun _ _ => rfl) ?_
              refine mj_runs.step (S' := (mj_m_175, 7, [(2, .int (2 : Int32)), (1, .int (0 : Int32)), (0, .int (0 : Int32))], [.int (9 : Int32), .int (2 : Int32)], mj_h0)) (mj_one_of mj_d_175_5 fun _ _ => rfl) ?_
              refine mj_runs.step (S' := (mj_m_175, 10, [(2, .int (2 : Int32)), (1, .int (0 : Int32)), (0, .int (0 : Int32))], [], mj_h0)) (mj_one_of mj_d_175_7 fun _ _ => rfl) ?_
              refine mj_runs.step (S' := (mj_m_175, 11, [(2, .int (2 : Int32)), (1, .int (0 : Int32)), (0, .int (0 : Int32))], [.int (0 : Int32)], mj_h0)) (mj_one_of mj_d_175_10 fun _ _ => rfl) ?_
              refine mj_runs.step (S' := (mj_m_175, 12, [(2, .int (2 : Int32)), (1, .int (0 : Int32)), (0, .int (0 : Int32))], [.int (0 : Int32), .int (0 : Int32)], mj_h0)) (mj_one_of mj_d_175_11 fun _ _ => rfl) ?_
              refine mj_runs.step (S' := (mj_m_175, 13, [(2, .int (2 : Int32)), (1, .int (0 : Int32)), (0, .int (0 : Int32))], [.int (2 : Int32), .int (0 : Int32), .int (0 : Int32)], mj_h0)) (mj_one_of mj_d_175_12 fun _ _ => rfl) ?_
              refine mj_runs.step (S' := (mj_m_175, 14, [(2, .int (2 : Int32)), (1, .int (0 : Int32)), (0, .int (0 : Int32))], [.int (0 : Int32), .int (0 : Int32)], mj_h0)) (mj_one_of mj_d_175_13 fun _ _ => rfl) ?_
              refine mj_runs.step (S' := (mj_m_175, 15, [(2, .int (2 : Int32)), (1, .int (0 : Int32)), (0, .int (0 : Int32))], [.int (1 : Int32), .int (0 : Int32), .int (0 : Int32)], mj_h0)) (mj_one_of mj_d_175_14 fun _ _ => rfl) ?_
              refine mj_runs.step (S' := (mj_m_175, 16, [(2, .int (2 : Int32)), (1, .int (0 : Int32)), (0, .int (0 : Int32))], [.int (0 : Int32), .int (0 : Int32)], mj_h0)) (mj_one_of mj_d_175_15 fun _ _ => rfl) ?_
              refine mj_runs.step (S' := (mj_m_175, 17, [(2, .int (2 : Int32)), (1, .int (0 : Int32)), (0, .int (0 : Int32))], [.int (0 : Int32)], mj_h0)) (mj_one_of mj_d_175_16 fun _ _ => rfl) ?_
              refine mj_runs.step (S' := (mj_m_175, 18, [(1, .int (0 : Int32)), (2, .int (2 : Int32)), (0, .int (0 : Int32))], [], mj_h0)) (mj_one_of mj_d_175_17 fun _ _ => rfl) ?_
              refine mj_runs.step (S' := (mj_m_175, 21, [(2, .int (3 : Int32)), (1, .int (0 : Int32)), (0, .int (0 : Int32))], [], mj_h0)) (mj_one_of mj_d_175_18 fun _ _ => rfl) ?_
              refine mj_runs.step (S' := (mj_m_175, 4, [(2, .int (3 : Int32)), (1, .int (0 : Int32)), (0, .int (0 : Int32))], [], mj_h0)) (mj_one_of mj_d_175_21 fun _ _ => rfl) ?_
              refine mj_runs.step (S' := (mj_m_175, 5, [(2, .int (3 : Int32)), (1, .int (0 : Int32)), (0, .int (0 : Int32))], [.int (3 : Int32)], mj_h0)) (mj_one_of mj_d_175_4 fun _ _ => rfl) ?_
              refine mj_runs.step (S' := (mj_m_175, 7, [(2, .int (3 : Int32)), (1, .int (0 : Int32)), (0, .int (0 : Int32))], [.int (9 : Int32), .int (3 : Int32)], mj_h0)) (mj_one_of mj_d_175_5 fun _ _ => rfl) ?_
              refine mj_runs.step (S' := (mj_m_175, 10, [(2, .int (3 : Int32)), (1, .int (0 : Int32)), (0, .int (0 : Int32))], [], mj_h0)) (mj_one_of mj_d_175_7 fun _ _ => rfl) ?_
              refine mj_runs.step (S' := (mj_m_175, 11, [(2, .int (3 : Int32)), (1, .int (0 : Int32)), (0, .int (0 : Int32))], [.int (0 : Int32)], mj_h0)) (mj_one_of mj_d_175_10 fun _ _ => rfl) ?_
              refine mj_runs.step (S' := (mj_m_175, 12, [(2, .int (3 : Int32)), (1, .int (0 : Int32)), (0, .int (0 : Int32))], [.int (0 : Int32), .int (0 : Int32)], mj_h0)) (mj_one_of mj_d_175_11 fun _ _ => rfl) ?_
              refine mj_runs.step (S' := (mj_m_175, 13, [(2, .int (3 : Int32)), (1, .int (0 : Int32)), (0, .int (0 : Int32))], [.int (3 : Int32), .int (0 : Int32), .int (0 : Int32)], mj_h0)) (mj_one_of mj_d_175_12 fun _ _ => rfl) ?_
              refine mj_runs.step (S' := (mj_m_175, 14, [(2, .int (3 : Int32)), (1, .int (0 : Int32)), (0, .int (0 : Int32))], [.int (0 : Int32), .int (0 : Int32)], mj_h0)) (mj_one_of mj_d_175_13 fun _ _ => rfl) ?_
              refine mj_runs.step (S' := (mj_m_175, 15, [(2, .int (3 : Int32)), (1, .int (0 : Int32)), (0, .int (0 : Int32))], [.int (1 : Int32), .int (0 : Int32), .int (0 : Int32)], mj_h0)) (mj_one_of mj_d_175_14 fun _ _ => rfl) ?_
              refine mj_runs.step (S' := (mj_m_175, 16, [(2, .int (3 : Int32)), (1, .int (0 : Int32)), (0, .int (0 : Int32))], [.int (0 : Int32), .int (0 : Int32)], mj_h0)) (mj_one_of mj_d_175_15 fun _ _ => rfl) ?_
              refine mj_runs.step (S' := (mj_m_175, 17, [(2, .int (3 : Int32)), (1, .int (0 : Int32)), (0, .int (0 : Int32))], [.int (0 : Int32)], mj_h0)) (mj_one_of mj_d_175_16 fun _ _ => rfl) ?_
              refine mj_runs.step (S' := (mj_m_175, 18, [(1, .int (0 : Int32)), (2, .int (3 : Int32)), (0, .int (0 : Int32))], [], mj_h0)) (mj_one_of mj_d_175_17 fun _ _ => rfl) ?_
              refine mj_runs.step (S' := (mj_m_175, 21, [(2, .int (4 : Int32)), (1, .int (0 : Int32)), (0, .int (0 : Int32))], [], mj_h0)) (mj_one_of mj_d_175_18 fun _ _ => rfl) ?_
              refine mj_runs.step (S' := (mj_m_175, 4, [(2, .int (4 : Int32)), (1, .int (0 : Int32)), (0, .int (0 : Int32))], [], mj_h0)) (mj_one_of mj_d_175_21 fun _ _ => rfl) ?_
              refine mj_runs.step (S' := (mj_m_175, 5, [(2, .int (4 : Int32)), (1, .int (0 : Int32)), (0, .int (0 : Int32))], [.int (4 : Int32)], mj_h0)) (mj_one_of mj_d_175_4 fun _ _ => rfl) ?_
              refine mj_runs.step (S' := (mj_m_175, 7, [(2, .int (4 : Int32)), (1, .int (0 : Int32)), (0, .int (0 : Int32))], [.int (9 : Int32), .int (4 : Int32)], mj_h0)) (mj_one_of mj_d_175_5 fun _ _ => rfl) ?_
              refine mj_runs.step (S' := (mj_m_175, 10, [(2, .int (4 : Int32)), (1, .int (0 : Int32)), (0, .int (0 : Int32))], [], mj_h0)) (mj_one_of mj_d_175_7 fun _ _ => rfl) ?_
              refine mj_runs.step (S' := (mj_m_175, 11, [(2, .int (4 : Int32)), (1, .int (0 : Int32)), (0, .int (0 : Int32))], [.int (0 : Int32)], mj_h0)) (mj_one_of mj_d_175_10 fun _ _ => rfl) ?_
              refine mj_runs.step (S' := (mj_m_175, 12, [(2, .int (4 : Int32)), (1, .int (0 : Int32)), (0, .int (0 : Int32))], [.int (0 : Int32), .int (0 : Int32)], mj_h0)) (mj_one_of mj_d_175_11 fun _ _ => rfl) ?_
              refine mj_runs.step (S' := (mj_m_175, 13, [(2, .int (4 : Int32)), (1, .int (0 : Int32)), (0, .int (0 : Int32))], [.int (4 : Int32), .int (0 : Int32), .int (0 : Int32)], mj_h0)) (mj_one_of mj_d_175_12 fun _ _ => rfl) ?_
              refine mj_runs.step (S' := (mj_m_175, 14, [(2, .int (4 : Int32)), (1, .int (0 : Int32)), (0, .int (0 : Int32))], [.int (0 : Int32), .int (0 : Int32)], mj_h0)) (mj_one_of mj_d_175_13 fun _ _ => rfl) ?_
              refine mj_runs.step (S' := (mj_m_175, 15, [(2, .int (4 : Int32)), (1, .int (0 : Int32)), (0, .int (0 : Int32))], [.int (1 : Int32), .int (0 : Int32), .int (0 : Int32)], mj_h0)) (mj_one_of mj_d_175_14 fun _ _ => rfl) ?_
              refine mj_runs.step (S' := (mj_m_175, 16, [(2, .int (4 : Int32)), (1, .int (0 : Int32)), (0, .int (0 : Int32))], [.int (0 : Int32), .int (0 : Int32)], mj_h0)) (mj_one_of mj_d_175_15 fun _ _ => rfl) ?_
              refine mj_runs.step (S' := (mj_m_175, 17, [(2, .int (4 : Int32)), (1, .int (0 : Int32)), (0, .int (0 : Int32))], [.int (0 : Int32)], mj_h0)) (mj_one_of mj_d_175_16 fun _ _ => rfl) ?_
              refine mj_runs.step (S' := (mj_m_175, 18, [(1, .int (0 : Int32)), (2, .int (4 : Int32)), (0, .int (0 : Int32))], [], mj_h0)) (mj_one_of mj_d_175_17 fun _ _ => rfl) ?_
              refine mj_runs.step (S' := (mj_m_175, 21, [(2, .int (5 : Int32)), (1, .int (0 : Int32)), (0, .int (0 : Int32))], [], mj_h0)) (mj_one_of mj_d_175_18 fun _ _ => rfl) ?_
              refine mj_runs.step (S' := (mj_m_175, 4, [(2, .int (5 : Int32)), (1, .int (0 : Int32)), (0, .int (0 : Int32))], [], mj_h0)) (mj_one_of mj_d_175_21 fun _ _ => rfl) ?_
              refine mj_runs.step (S' := (mj_m_175, 5, [(2, .int (5 : Int32)), (1, .int (0 : Int32)), (0, .int (0 : Int32))], [.int (5 : Int32)], mj_h0)) (mj_one_of mj_d_175_4 fun _ _ => rfl) ?_
              refine mj_runs.step (S' := (mj_m_175, 7, [(2, .int (5 : Int32)), (1, .int (0 : Int32)), (0, .int (0 : Int32))], [.int (9 : Int32), .int (5 : Int32)], mj_h0)) (mj_one_of mj_d_175_5 fun _ _ => rfl) ?_
              refine mj_runs.step (S' := (mj_m_175, 10, [(2, .int (5 : Int32)), (1, .int (0 : Int32)), (0, .int (0 : Int32))], [], mj_h0)) (mj_one_of mj_d_175_7 fun _ _ => rfl) ?_
              refine mj_runs.step (S' := (mj_m_175, 11, [(2, .int (5 : Int32)), (1, .int (0 : Int32)), (0, .int (0 : Int32))], [.int (0 : Int32)], mj_h0)) (mj_one_of mj_d_175_10 fun _ _ => rfl) ?_
              refine mj_runs.step (S' := (mj_m_175, 12, [(2, .int (5 : Int32)), (1, .int (0 : Int32)), (0, .int (0 : Int32))], [.int (0 : Int32), .int (0 : Int32)], mj_h0)) (mj_one_of mj_d_175_11 fun _ _ => rfl) ?_
              refine mj_runs.step (S' := (mj_m_175, 13, [(2, .int (5 : Int32)), (1, .int (0 : Int32)), (0, .int (0 : Int32))], [.int (5 : Int32), .int (0 : Int32), .int (0 : Int32)], mj_h0)) (mj_one_of mj_d_175_12 fun _ _ => rfl) ?_
              refine mj_runs.step (S' := (mj_m_175, 14, [(2, .int (5 : Int32)), (1, .int (0 : Int32)), (0, .int (0 : Int32))], [.int (0 : Int32), .int (0 : Int32)], mj_h0)) (mj_one_of mj_d_175_13 fun _ _ => rfl) ?_
              refine mj_runs.step (S' := (mj_m_175, 15, [(2, .int (5 : Int32)), (1, .int (0 : Int32)), (0, .int (0 : Int32))], [.int (1 : Int32), .int (0 : Int32), .int (0 : Int32)], mj_h0)) (mj_one_of mj_d_175_14 fun _ _ => rfl) ?_
              refine mj_runs.step (S' := (mj_m_175, 16, [(2, .int (5 : Int32)), (1, .int (0 : Int32)), (0, .int (0 : Int32))], [.int (0 : Int32), .int (0 : Int32)], mj_h0)) (mj_one_of mj_d_175_15 fun _ _ => rfl) ?_
              refine mj_runs.step (S' := (mj_m_175, 17, [(2, .int (5 : Int32)), (1, .int (0 : Int32)), (0, .int (0 : Int32))], [.int (0 : Int32)], mj_h0)) (mj_one_of mj_d_175_16 fun _ _ => rfl) ?_
              refine mj_runs.step (S' := (mj_m_175, 18, [(1, .int (0 : Int32)), (2, .int (5 : Int32)), (0, .int (0 : Int32))], [], mj_h0)) (mj_one_of mj_d_175_17 fun _ _ => rfl) ?_
              refine mj_runs.step (S' := (mj_m_175, 21, [(2, .int (6 : Int32)), (1, .int (0 : Int32)), (0, .int (0 : Int32))], [], mj_h0)) (mj_one_of mj_d_175_18 fun _ _ => rfl) ?_
              refine mj_runs.step (S' := (mj_m_175, 4, [(2, .int (6 : Int32)), (1, .int (0 : Int32)), (0, .int (0 : Int32))], [], mj_h0)) (mj_one_of mj_d_175_21 fun _ _ => rfl) ?_
              refine mj_runs.step (S' := (mj_m_175, 5, [(2, .int (6 : Int32)), (1, .int (0 : Int32)), (0, .int (0 : Int32))], [.int (6 : Int32)], mj_h0)) (mj_one_of mj_d_175_4 fun _ _ => rfl) ?_
              refine mj_runs.step (S' := (mj_m_175, 7, [(2, .int (6 : Int32)), (1, .int (0 : Int32)), (0, .int (0 : Int32))], [.int (9 : Int32), .int (6 : Int32)], mj_h0)) (mj_one_of mj_d_175_5 fun _ _ => rfl) ?_
              refine mj_runs.step (S' := (mj_m_175, 10, [(2, .int (6 : Int32)), (1, .int (0 : Int32)), (0, .int (0 : Int32))], [], mj_h0)) (mj_one_of mj_d_175_7 fun _ _ => rfl) ?_
              refine mj_runs.step (S' := (mj_m_175, 11, [(2, .int (6 : Int32)), (1, .int (0 : Int32)), (0, .int (0 : Int32))], [.int (0 : Int32)], mj_h0)) (mj_one_of mj_d_175_10 fun _ _ => rfl) ?_
              refine mj_runs.step (S' := (mj_m_175, 12, [(2, .int (6 : Int32)), (1, .int (0 : Int32)), (0, .int (0 : Int32))], [.int (0 : Int32), .int (0 : Int32)], mj_h0)) (mj_one_of mj_d_175_11 fun _ _ => rfl) ?_
              refine mj_runs.step (S' := (mj_m_175, 13, [(2, .int (6 : Int32)), (1, .int (0 : Int32)), (0, .int (0 : Int32))], [.int (6 : Int32), .int (0 : Int32), .int (0 : Int32)], mj_h0)) (mj_one_of mj_d_175_12 fun _ _ => rfl) ?_
              refine mj_runs.step (S' := (mj_m_175, 14, [(2, .int (6 : Int32)), (1, .int (0 : Int32)), (0, .int (0 : Int32))], [.int (0 : Int32), .int (0 : Int32)], mj_h0)) (mj_one_of mj_d_175_13 fun _ _ => rfl) ?_
              refine mj_runs.step (S' := (mj_m_175, 15, [(2, .int (6 : Int32)), (1, .int (0 : Int32)), (0, .int (0 : Int32))], [.int (1 : Int32), .int (0 : Int32), .int (0 : Int32)], mj_h0)) (mj_one_of mj_d_175_14 fun _ _ => rfl) ?_
              refine mj_runs.step (S' := (mj_m_175, 16, [(2, .int (6 : Int32)), (1, .int (0 : Int32)), (0, .int (0 : Int32))], [.int (0 : Int32), .int (0 : Int32)], mj_h0)) (mj_one_of mj_d_175_15 fun _ _ => rfl) ?_
              refine mj_runs.step (S' := (mj_m_175, 17, [(2, .int (6 : Int32)), (1, .int (0 : Int32)), (0, .int (0 : Int32))], [.int (0 : Int32)], mj_h0)) (mj_one_of mj_d_175_16 fun _ _ => rfl) ?_
              refine mj_runs.step (S' := (mj_m_175, 18, [(1, .int (0 : Int32)), (2, .int (6 : Int32)), (0, .int (0 : Int32))], [], mj_h0)) (mj_one_of mj_d_175_17 fun _ _ => rfl) ?_
              refine mj_runs.step (S' := (mj_m_175, 21, [(2, .int (7 : Int32)), (1, .int (0 : Int32)), (0, .int (0 : Int32))], [], mj_h0)) (mj_one_of mj_d_175_18 fun _ _ => rfl) ?_
              refine mj_runs.step (S' := (mj_m_175, 4, [(2, .int (7 : Int32)), (1, .int (0 : Int32)), (0, .int (0 : Int32))], [], mj_h0)) (mj_one_of mj_d_175_21 fun _ _ => rfl) ?_
              refine mj_runs.step (S' := (mj_m_175, 5, [(2, .int (7 : Int32)), (1, .int (0 : Int32)), (0, .int (0 : Int32))], [.int (7 : Int32)], mj_h0)) (mj_one_of mj_d_175_4 fun _ _ => rfl) ?_
              refine mj_runs.step (S' := (mj_m_175, 7, [(2, .int (7 : Int32)), (1, .int (0 : Int32)), (0, .int (0 : Int32))], [.int (9 : Int32), .int (7 : Int32)], mj_h0)) (mj_one_of mj_d_175_5 fun _ _ => rfl) ?_
              refine mj_runs.step (S' := (mj_m_175, 10, [(2, .int (7 : Int32)), (1, .int (0 : Int32)), (0, .int (0 : Int32))], [], mj_h0)) (mj_one_of mj_d_175_7 fun _ _ => rfl) ?_
              refine mj_runs.step (S' := (mj_m_175, 11, [(2, .int (7 : Int32)), (1, .int (0 : Int32)), (0, .int (0 : Int32))], [.int (0 : Int32)], mj_h0)) (mj_one_of mj_d_175_10 fun _ _ => rfl) ?_
              refine mj_runs.step (S' := (mj_m_175, 12, [(2, .int (7 : Int32)), (1, .int (0 : Int32)), (0, .int (0 : Int32))], [.int (0 : Int32), .int (0 : Int32)], mj_h0)) (mj_one_of mj_d_175_11 fun _ _ => rfl) ?_
              refine mj_runs.step (S' := (mj_m_175, 13, [(2, .int (7 : Int32)), (1, .int (0 : Int32)), (0, .int (0 : Int32))], [.int (7 : Int32), .int (0 : Int32), .int (0 : Int32)], mj_h0)) (mj_one_of mj_d_175_12 fun _ _ => rfl) ?_
              refine mj_runs.step (S' := (mj_m_175, 14, [(2, .int (7 : Int32)), (1, .int (0 : Int32)), (0, .int (0 : Int32))], [.int (0 : Int32), .int (0 : Int32)], mj_h0)) (mj_one_of mj_d_175_13 fun _ _ => rfl) ?_
              refine mj_runs.step (S' := (mj_m_175, 15, [(2, .int (7 : Int32)), (1, .int (0 : Int32)), (0, .int (0 : Int32))], [.int (1 : Int32), .int (0 : Int32), .int (0 : Int32)], mj_h0)) (mj_one_of mj_d_175_14 fun _ _ => rfl) ?_
              refine mj_runs.step (S' := (mj_m_175, 16, [(2, .int (7 : Int32)), (1, .int (0 : Int32)), (0, .int (0 : Int32))], [.int (0 : Int32), .int (0 : Int32)], mj_h0)) (mj_one_of mj_d_175_15 fun _ _ => rfl) ?_
              refine mj_runs.step (S' := (mj_m_175, 17, [(2, .int (7 : Int32)), (1, .int (0 : Int32)), (0, .int (0 : Int32))], [.int (0 : Int32)], mj_h0)) (mj_one_of mj_d_175_16 fun _ _ => rfl) ?_
              refine mj_runs.step (S' := (mj_m_175, 18, [(1, .int (0 : Int32)), (2, .int (7 : Int32)), (0, .int (0 : Int32))], [], mj_h0)) (mj_one_of mj_d_175_17 fun _ _ => rfl) ?_
              refine mj_runs.step (S' := (mj_m_175, 21, [(2, .int (8 : Int32)), (1, .int (0 : Int32)), (0, .int (0 : Int32))], [], mj_h0)) (mj_one_of mj_d_175_18 fun _ _ => rfl) ?_
              refine mj_runs.step (S' := (mj_m_175, 4, [(2, .int (8 : Int32)), (1, .int (0 : Int32)), (0, .int (0 : Int32))], [], mj_h0)) (mj_one_of mj_d_175_21 fun _ _ => rfl) ?_
              refine mj_runs.step (S' := (mj_m_175, 5, [(2, .int (8 : Int32)), (1, .int (0 : Int32)), (0, .int (0 : Int32))], [.int (8 : Int32)], mj_h0)) (mj_one_of mj_d_175_4 fun _ _ => rfl) ?_
              refine mj_runs.step (S' := (mj_m_175, 7, [(2, .int (8 : Int32)), (1, .int (0 : Int32)), (0, .int (0 : Int32))], [.int (9 : Int32), .int (8 : Int32)], mj_h0)) (mj_one_of mj_d_175_5 fun _ _ => rfl) ?_
              refine mj_runs.step (S' := (mj_m_175, 10, [(2, .int (8 : Int32)), (1, .int (0 : Int32)), (0, .int (0 : Int32))], [], mj_h0)) (mj_one_of mj_d_175_7 fun _ _ => rfl) ?_
              refine mj_runs.step (S' := (mj_m_175, 11, [(2, .int (8 : Int32)), (1, .int (0 : Int32)), (0, .int (0 : Int32))], [.int (0 : Int32)], mj_h0)) (mj_one_of mj_d_175_10 fun _ _ => rfl) ?_
              refine mj_runs.step (S' := (mj_m_175, 12, [(2, .int (8 : Int32)), (1, .int (0 : Int32)), (0, .int (0 : Int32))], [.int (0 : Int32), .int (0 : Int32)], mj_h0)) (mj_one_of mj_d_175_11 fun _ _ => rfl) ?_
              refine mj_runs.step (S' := (mj_m_175, 13, [(2, .int (8 : Int32)), (1, .int (0 : Int32)), (0, .int (0 : Int32))], [.int (8 : Int32), .int (0 : Int32), .int (0 : Int32)], mj_h0)) (mj_one_of mj_d_175_12 fun _ _ => rfl) ?_
              refine mj_runs.step (S' := (mj_m_175, 14, [(2, .int (8 : Int32)), (1, .int (0 : Int32)), (0, .int (0 : Int32))], [.int (0 : Int32), .int (0 : Int32)], mj_h0)) (mj_one_of mj_d_175_13 fun _ _ => rfl) ?_
              refine mj_runs.step (S' := (mj_m_175, 15, [(2, .int (8 : Int32)), (1, .int (0 : Int32)), (0, .int (0 : Int32))], [.int (1 : Int32), .int (0 : Int32), .int (0 : Int32)], mj_h0)) (mj_one_of mj_d_175_14 fun _ _ => rfl) ?_
              refine mj_runs.step (S' := (mj_m_175, 16, [(2, .int (8 : Int32)), (1, .int (0 : Int32)), (0, .int (0 : Int32))], [.int (0 : Int32), .int (0 : Int32)], mj_h0)) (mj_one_of mj_d_175_15 fun _ _ => rfl) ?_
              refine mj_runs.step (S' := (mj_m_175, 17, [(2, .int (8 : Int32)), (1, .int (0 : Int32)), (0, .int (0 : Int32))], [.int (0 : Int32)], mj_h0)) (mj_one_of mj_d_175_16 fun _ _ => rfl) ?_
              refine mj_runs.step (S' := (mj_m_175, 18, [(1, .int (0 : Int32)), (2, .int (8 : Int32)), (0, .int (0 : Int32))], [], mj_h0)) (mj_one_of mj_d_175_17 fun _ _ => rfl) ?_
              refine mj_runs.step (S' := (mj_m_175, 21, [(2, .int (9 : Int32)), (1, .int (0 : Int32)), (0, .int (0 : Int32))], [], mj_h0)) (mj_one_of mj_d_175_18 fun _ _ => rfl) ?_
              refine mj_runs.step (S' := (mj_m_175, 4, [(2, .int (9 : Int32)), (1, .int (0 : Int32)), (0, .int (0 : Int32))], [], mj_h0)) (mj_one_of mj_d_175_21 fun _ _ => rfl) ?_
              refine mj_runs.step (S' := (mj_m_175, 5, [(2, .int (9 : Int32)), (1, .int (0 : Int32)), (0, .int (0 : Int32))], [.int (9 : Int32)], mj_h0)) (mj_one_of mj_d_175_4 fun _ _ => rfl) ?_
              refine mj_runs.step (S' := (mj_m_175, 7, [(2, .int (9 : Int32)), (1, .int (0 : Int32)), (0, .int (0 : Int32))], [.int (9 : Int32), .int (9 : Int32)], mj_h0)) (mj_one_of mj_d_175_5 fun _ _ => rfl) ?_
              refine mj_runs.step (S' := (mj_m_175, 24, [(2, .int (9 : Int32)), (1, .int (0 : Int32)), (0, .int (0 : Int32))], [], mj_h0)) (mj_one_of mj_d_175_7 fun _ _ => rfl) ?_
              refine mj_runs.step (S' := (mj_m_175, 25, [(2, .int (9 : Int32)), (1, .int (0 : Int32)), (0, .int (0 : Int32))], [.int (0 : Int32)], mj_h0)) (mj_one_of mj_d_175_24 fun _ _ => rfl) ?_
              exact mj_runs.ret (mj_ret_of mj_d_175_25 fun _ _ => rfl)
            show mj_runs (mj_m_182, 144, [(4, .int (Int32.ofInt (-1))), (3, .int (0 : Int32)), (0, .ref 234), (1, .int a), (2, .int (1 : Int32))], [.int (0 : Int32)], mj_h0) _ _
            refine mj_runs.step (S' := (mj_m_182, 146, [(5, .int (0 : Int32)), (4, .int (Int32.ofInt (-1))), (3, .int (0 : Int32)), (0, .ref 234), (1, .int a), (2, .int (1 : Int32))], [], mj_h0)) (mj_one_of mj_d_182_144 fun _ _ => rfl) ?_
            refine mj_runs.step (S' := (mj_m_182, 147, [(5, .int (0 : Int32)), (4, .int (Int32.ofInt (-1))), (3, .int (0 : Int32)), (0, .ref 234), (1, .int a), (2, .int (1 : Int32))], [.int (0 : Int32)], mj_h0)) (mj_one_of mj_d_182_146 fun _ _ => rfl) ?_
            refine mj_runs.step (S' := (mj_m_182, 149, [(6, .int (0 : Int32)), (5, .int (0 : Int32)), (4, .int (Int32.ofInt (-1))), (3, .int (0 : Int32)), (0, .ref 234), (1, .int a), (2, .int (1 : Int32))], [], mj_h0)) (mj_one_of mj_d_182_147 fun _ _ => rfl) ?_
            refine mj_runs.step (S' := (mj_m_182, 151, [(6, .int (0 : Int32)), (5, .int (0 : Int32)), (4, .int (Int32.ofInt (-1))), (3, .int (0 : Int32)), (0, .ref 234), (1, .int a), (2, .int (1 : Int32))], [.int (0 : Int32)], mj_h0)) (mj_one_of mj_d_182_149 fun _ _ => rfl) ?_
            refine mj_runs.step (S' := (mj_m_182, 152, [(6, .int (0 : Int32)), (5, .int (0 : Int32)), (4, .int (Int32.ofInt (-1))), (3, .int (0 : Int32)), (0, .ref 234), (1, .int a), (2, .int (1 : Int32))], [.ref 234, .int (0 : Int32)], mj_h0)) (mj_one_of mj_d_182_151 fun _ _ => rfl) ?_
            refine mj_runs.step (S' := (mj_m_182, 155, [(6, .int (0 : Int32)), (5, .int (0 : Int32)), (4, .int (Int32.ofInt (-1))), (3, .int (0 : Int32)), (0, .ref 234), (1, .int a), (2, .int (1 : Int32))], [.int (0 : Int32), .int (0 : Int32)], mj_h0)) (mj_one_of mj_d_182_152 fun _ _ => rfl) ?_
            refine mj_runs.step (S' := (mj_m_182, 275, [(6, .int (0 : Int32)), (5, .int (0 : Int32)), (4, .int (Int32.ofInt (-1))), (3, .int (0 : Int32)), (0, .ref 234), (1, .int a), (2, .int (1 : Int32))], [], mj_h0)) (mj_one_of mj_d_182_155 fun _ _ => rfl) ?_
            refine mj_runs.step (S' := (mj_m_182, 277, [(6, .int (0 : Int32)), (5, .int (0 : Int32)), (4, .int (Int32.ofInt (-1))), (3, .int (0 : Int32)), (0, .ref 234), (1, .int a), (2, .int (1 : Int32))], [.int (Int32.ofInt (-1))], mj_h0)) (mj_one_of mj_d_182_275 fun _ _ => rfl) ?_
            exact mj_runs.ret (mj_ret_of mj_d_182_277 fun _ _ => rfl)
          · exact mj_sz0
        · by_cases c4 : b.toInt < 0
          · refine ⟨(Int32.ofInt (-1000000002)), mj_h0, mj_h0, ?_, ?_, ?_⟩
            · refine mj_runs.step (S' := (mj_m_107, 1, [(0, .ref 0), (1, .int a), (2, .int b)], [.int a], mj_h0)) (mj_one_of mj_d_107_0 fun _ _ => rfl) ?_
              refine mj_runs.step (S' := (mj_m_107, 2, [(0, .ref 0), (1, .int a), (2, .int b)], [.int (1 : Int32), .int a], mj_h0)) (mj_one_of mj_d_107_1 fun _ _ => rfl) ?_
              refine mj_runs.step (S' := (mj_m_107, 5, [(0, .ref 0), (1, .int a), (2, .int b)], [], mj_h0)) (mj_one_icmpF mj_d_107_2 (t := 11) rfl (mj_cF_lt (rfl : (a).toInt = (a).toInt) (show ((1 : Int32)).toInt = 1 by decide) (by omega))) ?_
              refine mj_runs.step (S' := (mj_m_107, 6, [(0, .ref 0), (1, .int a), (2, .int b)], [.int a], mj_h0)) (mj_one_of mj_d_107_5 fun _ _ => rfl) ?_
              refine mj_runs.step (S' := (mj_m_107, 8, [(0, .ref 0), (1, .int a), (2, .int b)], [.int (7 : Int32), .int a], mj_h0)) (mj_one_of mj_d_107_6 fun _ _ => rfl) ?_
              refine mj_runs.step (S' := (mj_m_107, 14, [(0, .ref 0), (1, .int a), (2, .int b)], [], mj_h0)) (mj_one_icmpT mj_d_107_8 rfl (mj_cT_le (rfl : (a).toInt = (a).toInt) (show ((7 : Int32)).toInt = 7 by decide) (by omega))) ?_
              refine mj_runs.step (S' := (mj_m_107, 15, [(0, .ref 0), (1, .int a), (2, .int b)], [.int b], mj_h0)) (mj_one_of mj_d_107_14 fun _ _ => rfl) ?_
              refine mj_runs.step (S' := (mj_m_107, 56, [(0, .ref 0), (1, .int a), (2, .int b)], [], mj_h0)) (mj_one_look (off := 41) mj_d_107_15 (by decide) (by simp only [Op.lookupswitch.offset]; (repeat' first | rfl | split | (exfalso; omega))) rfl) ?_
              refine mj_runs.step (S' := (mj_m_107, 58, [(0, .ref 0), (1, .int a), (2, .int b)], [.int (Int32.ofInt (-1000000002))], mj_h0)) (mj_one_of mj_d_107_56 fun _ _ => rfl) ?_
              exact mj_runs.ret (mj_ret_of mj_d_107_58 fun _ _ => rfl)
            · refine mj_runs.step (S' := (mj_m_182, 1, [(0, .ref 234), (1, .int a), (2, .int b)], [.int a], mj_h0)) (mj_one_of mj_d_182_0 fun _ _ => rfl) ?_
              refine mj_runs.step (S' := (mj_m_182, 2, [(0, .ref 234), (1, .int a), (2, .int b)], [.long (a).toInt64], mj_h0)) (mj_one_of mj_d_182_1 fun _ _ => rfl) ?_
              refine mj_runs.step (S' := (mj_m_182, 3, [(0, .ref 234), (1, .int a), (2, .int b)], [.long (1 : Int64), .long (a).toInt64], mj_h0)) (mj_one_of mj_d_182_2 fun _ _ => rfl) ?_
              refine mj_runs.step (S' := (mj_m_182, 6, [(0, .ref 234), (1, .int a), (2, .int b)], [.long (7 : Int64), .long (1 : Int64), .long (a).toInt64], mj_h0)) (mj_one_of mj_d_182_3 fun _ _ => rfl) ?_
              refine mj_runs.call (S1 := (mj_m_125, 0, [(0, .long (a).toInt64), (2, .long (1 : Int64)), (4, .long (7 : Int64))], [], mj_h0)) (r1 := (some (.int (1 : Int32)))) (h1 := mj_h0) (mj_calls_s mj_d_182_6 rfl rfl rfl rfl ⟨Nat.le_of_ble_eq_true rfl, Nat.le_of_ble_eq_true rfl, Nat.le_of_ble_eq_true rfl, Nat.le_of_ble_eq_true rfl, Nat.le_of_ble_eq_true rfl⟩) ?_ ?_
              · refine mj_runs.step (S' := (mj_m_125, 1, [(0, .long (a).toInt64), (2, .long (1 : Int64)), (4, .long (7 : Int64))], [.long (a).toInt64], mj_h0)) (mj_one_of mj_d_125_0 fun _ _ => rfl) ?_
                refine mj_runs.step (S' := (mj_m_125, 2, [(0, .long (a).toInt64), (2, .long (1 : Int64)), (4, .long (7 : Int64))], [.long (1 : Int64), .long (a).toInt64], mj_h0)) (mj_one_of mj_d_125_1 fun _ _ => rfl) ?_
                refine mj_runs.step (S' := (mj_m_125, 3, [(0, .long (a).toInt64), (2, .long (1 : Int64)), (4, .long (7 : Int64))], [.int (lg_cmp (a).toInt64 (1 : Int64))], mj_h0)) (mj_one_of mj_d_125_2 fun _ _ => rfl) ?_
                refine mj_runs.step (S' := (mj_m_125, 6, [(0, .long (a).toInt64), (2, .long (1 : Int64)), (4, .long (7 : Int64))], [], mj_h0)) (mj_one_ifF mj_d_125_3 (t := 17) rfl (mj_lgF_lt (mj_l32 a) (show ((1 : Int64)).toInt = 1 by decide) (by omega))) ?_
                refine mj_runs.step (S' := (mj_m_125, 7, [(0, .long (a).toInt64), (2, .long (1 : Int64)), (4, .long (7 : Int64))], [.long (a).toInt64], mj_h0)) (mj_one_of mj_d_125_6 fun _ _ => rfl) ?_
                refine mj_runs.step (S' := (mj_m_125, 9, [(0, .long (a).toInt64), (2, .long (1 : Int64)), (4, .long (7 : Int64))], [.long (7 : Int64), .long (a).toInt64], mj_h0)) (mj_one_of mj_d_125_7 fun _ _ => rfl) ?_
                refine mj_runs.step (S' := (mj_m_125, 10, [(0, .long (a).toInt64), (2, .long (1 : Int64)), (4, .long (7 : Int64))], [.int (lg_cmp (a).toInt64 (7 : Int64))], mj_h0)) (mj_one_of mj_d_125_9 fun _ _ => rfl) ?_
                refine mj_runs.step (S' := (mj_m_125, 13, [(0, .long (a).toInt64), (2, .long (1 : Int64)), (4, .long (7 : Int64))], [], mj_h0)) (mj_one_ifF mj_d_125_10 (t := 17) rfl (mj_lgF_gt (mj_l32 a) (show ((7 : Int64)).toInt = 7 by decide) (by omega))) ?_
                refine mj_runs.step (S' := (mj_m_125, 14, [(0, .long (a).toInt64), (2, .long (1 : Int64)), (4, .long (7 : Int64))], [.int (1 : Int32)], mj_h0)) (mj_one_of mj_d_125_13 fun _ _ => rfl) ?_
                refine mj_runs.step (S' := (mj_m_125, 18, [(0, .long (a).toInt64), (2, .long (1 : Int64)), (4, .long (7 : Int64))], [.int (1 : Int32)], mj_h0)) (mj_one_of mj_d_125_14 fun _ _ => rfl) ?_
                exact mj_runs.ret (mj_ret_of mj_d_125_18 fun _ _ => rfl)
              show mj_runs (mj_m_182, 9, [(0, .ref 234), (1, .int a), (2, .int b)], [.int (1 : Int32)], mj_h0) _ _
              refine mj_runs.step (S' := (mj_m_182, 12, [(0, .ref 234), (1, .int a), (2, .int b)], [], mj_h0)) (mj_one_of mj_d_182_9 fun _ _ => rfl) ?_
              refine mj_runs.step (S' := (mj_m_182, 13, [(0, .ref 234), (1, .int a), (2, .int b)], [.int b], mj_h0)) (mj_one_of mj_d_182_12 fun _ _ => rfl) ?_
              refine mj_runs.step (S' := (mj_m_182, 14, [(0, .ref 234), (1, .int a), (2, .int b)], [.long (b).toInt64], mj_h0)) (mj_one_of mj_d_182_13 fun _ _ => rfl) ?_
              refine mj_runs.step (S' := (mj_m_182, 15, [(0, .ref 234), (1, .int a), (2, .int b)], [.long (0 : Int64), .long (b).toInt64], mj_h0)) (mj_one_of mj_d_182_14 fun _ _ => rfl) ?_
              refine mj_runs.step (S' := (mj_m_182, 16, [(0, .ref 234), (1, .int a), (2, .int b)], [.long (1 : Int64), .long (0 : Int64), .long (b).toInt64], mj_h0)) (mj_one_of mj_d_182_15 fun _ _ => rfl) ?_
              refine mj_runs.call (S1 := (mj_m_125, 0, [(0, .long (b).toInt64), (2, .long (0 : Int64)), (4, .long (1 : Int64))], [], mj_h0)) (r1 := (some (.int (0 : Int32)))) (h1 := mj_h0) (mj_calls_s mj_d_182_16 rfl rfl rfl rfl ⟨Nat.le_of_ble_eq_true rfl, Nat.le_of_ble_eq_true rfl, Nat.le_of_ble_eq_true rfl, Nat.le_of_ble_eq_true rfl, Nat.le_of_ble_eq_true rfl⟩) ?_ ?_
              · refine mj_runs.step (S' := (mj_m_125, 1, [(0, .long (b).toInt64), (2, .long (0 : Int64)), (4, .long (1 : Int64))], [.long (b).toInt64], mj_h0)) (mj_one_of mj_d_125_0 fun _ _ => rfl) ?_
                refine mj_runs.step (S' := (mj_m_125, 2, [(0, .long (b).toInt64), (2, .long (0 : Int64)), (4, .long (1 : Int64))], [.long (0 : Int64), .long (b).toInt64], mj_h0)) (mj_one_of mj_d_125_1 fun _ _ => rfl) ?_
                refine mj_runs.step (S' := (mj_m_125, 3, [(0, .long (b).toInt64), (2, .long (0 : Int64)), (4, .long (1 : Int64))], [.int (lg_cmp (b).toInt64 (0 : Int64))], mj_h0)) (mj_one_of mj_d_125_2 fun _ _ => rfl) ?_
                refine mj_runs.step (S' := (mj_m_125, 17, [(0, .long (b).toInt64), (2, .long (0 : Int64)), (4, .long (1 : Int64))], [], mj_h0)) (mj_one_ifT mj_d_125_3 rfl (mj_lgT_lt (mj_l32 b) (show ((0 : Int64)).toInt = 0 by decide) (by omega))) ?_
                refine mj_runs.step (S' := (mj_m_125, 18, [(0, .long (b).toInt64), (2, .long (0 : Int64)), (4, .long (1 : Int64))], [.int (0 : Int32)], mj_h0)) (mj_one_of mj_d_125_17 fun _ _ => rfl) ?_
                exact mj_runs.ret (mj_ret_of mj_d_125_18 fun _ _ => rfl)
              show mj_runs (mj_m_182, 19, [(0, .ref 234), (1, .int a), (2, .int b)], [.int (0 : Int32)], mj_h0) _ _
              refine mj_runs.step (S' := (mj_m_182, 22, [(0, .ref 234), (1, .int a), (2, .int b)], [], mj_h0)) (mj_one_of mj_d_182_19 fun _ _ => rfl) ?_
              refine mj_runs.step (S' := (mj_m_182, 24, [(0, .ref 234), (1, .int a), (2, .int b)], [.int (Int32.ofInt (-1000000002))], mj_h0)) (mj_one_of mj_d_182_22 fun _ _ => rfl) ?_
              exact mj_runs.ret (mj_ret_of mj_d_182_24 fun _ _ => rfl)
            · exact mj_sz0
          · refine ⟨(Int32.ofInt (-1000000002)), mj_h0, mj_h0, ?_, ?_, ?_⟩
            · refine mj_runs.step (S' := (mj_m_107, 1, [(0, .ref 0), (1, .int a), (2, .int b)], [.int a], mj_h0)) (mj_one_of mj_d_107_0 fun _ _ => rfl) ?_
              refine mj_runs.step (S' := (mj_m_107, 2, [(0, .ref 0), (1, .int a), (2, .int b)], [.int (1 : Int32), .int a], mj_h0)) (mj_one_of mj_d_107_1 fun _ _ => rfl) ?_
              refine mj_runs.step (S' := (mj_m_107, 5, [(0, .ref 0), (1, .int a), (2, .int b)], [], mj_h0)) (mj_one_icmpF mj_d_107_2 (t := 11) rfl (mj_cF_lt (rfl : (a).toInt = (a).toInt) (show ((1 : Int32)).toInt = 1 by decide) (by omega))) ?_
              refine mj_runs.step (S' := (mj_m_107, 6, [(0, .ref 0), (1, .int a), (2, .int b)], [.int a], mj_h0)) (mj_one_of mj_d_107_5 fun _ _ => rfl) ?_
              refine mj_runs.step (S' := (mj_m_107, 8, [(0, .ref 0), (1, .int a), (2, .int b)], [.int (7 : Int32), .int a], mj_h0)) (mj_one_of mj_d_107_6 fun _ _ => rfl) ?_
              refine mj_runs.step (S' := (mj_m_107, 14, [(0, .ref 0), (1, .int a), (2, .int b)], [], mj_h0)) (mj_one_icmpT mj_d_107_8 rfl (mj_cT_le (rfl : (a).toInt = (a).toInt) (show ((7 : Int32)).toInt = 7 by decide) (by omega))) ?_
              refine mj_runs.step (S' := (mj_m_107, 15, [(0, .ref 0), (1, .int a), (2, .int b)], [.int b], mj_h0)) (mj_one_of mj_d_107_14 fun _ _ => rfl) ?_
              refine mj_runs.step (S' := (mj_m_107, 56, [(0, .ref 0), (1, .int a), (2, .int b)], [], mj_h0)) (mj_one_look (off := 41) mj_d_107_15 (by decide) (by simp only [Op.lookupswitch.offset]; (repeat' first | rfl | split | (exfalso; omega))) rfl) ?_
              refine mj_runs.step (S' := (mj_m_107, 58, [(0, .ref 0), (1, .int a), (2, .int b)], [.int (Int32.ofInt (-1000000002))], mj_h0)) (mj_one_of mj_d_107_56 fun _ _ => rfl) ?_
              exact mj_runs.ret (mj_ret_of mj_d_107_58 fun _ _ => rfl)
            · refine mj_runs.step (S' := (mj_m_182, 1, [(0, .ref 234), (1, .int a), (2, .int b)], [.int a], mj_h0)) (mj_one_of mj_d_182_0 fun _ _ => rfl) ?_
              refine mj_runs.step (S' := (mj_m_182, 2, [(0, .ref 234), (1, .int a), (2, .int b)], [.long (a).toInt64], mj_h0)) (mj_one_of mj_d_182_1 fun _ _ => rfl) ?_
              refine mj_runs.step (S' := (mj_m_182, 3, [(0, .ref 234), (1, .int a), (2, .int b)], [.long (1 : Int64), .long (a).toInt64], mj_h0)) (mj_one_of mj_d_182_2 fun _ _ => rfl) ?_
              refine mj_runs.step (S' := (mj_m_182, 6, [(0, .ref 234), (1, .int a), (2, .int b)], [.long (7 : Int64), .long (1 : Int64), .long (a).toInt64], mj_h0)) (mj_one_of mj_d_182_3 fun _ _ => rfl) ?_
              refine mj_runs.call (S1 := (mj_m_125, 0, [(0, .long (a).toInt64), (2, .long (1 : Int64)), (4, .long (7 : Int64))], [], mj_h0)) (r1 := (some (.int (1 : Int32)))) (h1 := mj_h0) (mj_calls_s mj_d_182_6 rfl rfl rfl rfl ⟨Nat.le_of_ble_eq_true rfl, Nat.le_of_ble_eq_true rfl, Nat.le_of_ble_eq_true rfl, Nat.le_of_ble_eq_true rfl, Nat.le_of_ble_eq_true rfl⟩) ?_ ?_
              · refine mj_runs.step (S' := (mj_m_125, 1, [(0, .long (a).toInt64), (2, .long (1 : Int64)), (4, .long (7 : Int64))], [.long (a).toInt64], mj_h0)) (mj_one_of mj_d_125_0 fun _ _ => rfl) ?_
                refine mj_runs.step (S' := (mj_m_125, 2, [(0, .long (a).toInt64), (2, .long (1 : Int64)), (4, .long (7 : Int64))], [.long (1 : Int64), .long (a).toInt64], mj_h0)) (mj_one_of mj_d_125_1 fun _ _ => rfl) ?_
                refine mj_runs.step (S' := (mj_m_125, 3, [(0, .long (a).toInt64), (2, .long (1 : Int64)), (4, .long (7 : Int64))], [.int (lg_cmp (a).toInt64 (1 : Int64))], mj_h0)) (mj_one_of mj_d_125_2 fun _ _ => rfl) ?_
                refine mj_runs.step (S' := (mj_m_125, 6, [(0, .long (a).toInt64), (2, .long (1 : Int64)), (4, .long (7 : Int64))], [], mj_h0)) (mj_one_ifF mj_d_125_3 (t := 17) rfl (mj_lgF_lt (mj_l32 a) (show ((1 : Int64)).toInt = 1 by decide) (by omega))) ?_
                refine mj_runs.step (S' := (mj_m_125, 7, [(0, .long (a).toInt64), (2, .long (1 : Int64)), (4, .long (7 : Int64))], [.long (a).toInt64], mj_h0)) (mj_one_of mj_d_125_6 fun _ _ => rfl) ?_
                refine mj_runs.step (S' := (mj_m_125, 9, [(0, .long (a).toInt64), (2, .long (1 : Int64)), (4, .long (7 : Int64))], [.long (7 : Int64), .long (a).toInt64], mj_h0)) (mj_one_of mj_d_125_7 fun _ _ => rfl) ?_
                refine mj_runs.step (S' := (mj_m_125, 10, [(0, .long (a).toInt64), (2, .long (1 : Int64)), (4, .long (7 : Int64))], [.int (lg_cmp (a).toInt64 (7 : Int64))], mj_h0)) (mj_one_of mj_d_125_9 fun _ _ => rfl) ?_
                refine mj_runs.step (S' := (mj_m_125, 13, [(0, .long (a).toInt64), (2, .long (1 : Int64)), (4, .long (7 : Int64))], [], mj_h0)) (mj_one_ifF mj_d_125_10 (t := 17) rfl (mj_lgF_gt (mj_l32 a) (show ((7 : Int64)).toInt = 7 by decide) (by omega))) ?_
                refine mj_runs.step (S' := (mj_m_125, 14, [(0, .long (a).toInt64), (2, .long (1 : Int64)), (4, .long (7 : Int64))], [.int (1 : Int32)], mj_h0)) (mj_one_of mj_d_125_13 fun _ _ => rfl) ?_
                refine mj_runs.step (S' := (mj_m_125, 18, [(0, .long (a).toInt64), (2, .long (1 : Int64)), (4, .long (7 : Int64))], [.int (1 : Int32)], mj_h0)) (mj_one_of mj_d_125_14 fun _ _ => rfl) ?_
                exact mj_runs.ret (mj_ret_of mj_d_125_18 fun _ _ => rfl)
              show mj_runs (mj_m_182, 9, [(0, .ref 234), (1, .int a), (2, .int b)], [.int (1 : Int32)], mj_h0) _ _
              refine mj_runs.step (S' := (mj_m_182, 12, [(0, .ref 234), (1, .int a), (2, .int b)], [], mj_h0)) (mj_one_of mj_d_182_9 fun _ _ => rfl) ?_
              refine mj_runs.step (S' := (mj_m_182, 13, [(0, .ref 234), (1, .int a), (2, .int b)], [.int b], mj_h0)) (mj_one_of mj_d_182_12 fun _ _ => rfl) ?_
              refine mj_runs.step (S' := (mj_m_182, 14, [(0, .ref 234), (1, .int a), (2, .int b)], [.long (b).toInt64], mj_h0)) (mj_one_of mj_d_182_13 fun _ _ => rfl) ?_
              refine mj_runs.step (S' := (mj_m_182, 15, [(0, .ref 234), (1, .int a), (2, .int b)], [.long (0 : Int64), .long (b).toInt64], mj_h0)) (mj_one_of mj_d_182_14 fun _ _ => rfl) ?_
              refine mj_runs.step (S' := (mj_m_182, 16, [(0, .ref 234), (1, .int a), (2, .int b)], [.long (1 : Int64), .long (0 : Int64), .long (b).toInt64], mj_h0)) (mj_one_of mj_d_182_15 fun _ _ => rfl) ?_
              refine mj_runs.call (S1 := (mj_m_125, 0, [(0, .long (b).toInt64), (2, .long (0 : Int64)), (4, .long (1 : Int64))], [], mj_h0)) (r1 := (some (.int (0 : Int32)))) (h1 := mj_h0) (mj_calls_s mj_d_182_16 rfl rfl rfl rfl ⟨Nat.le_of_ble_eq_true rfl, Nat.le_of_ble_eq_true rfl, Nat.le_of_ble_eq_true rfl, Nat.le_of_ble_eq_true rfl, Nat.le_of_ble_eq_true rfl⟩) ?_ ?_
              · refine mj_runs.step (S' := (mj_m_125, 1, [(0, .long (b).toInt64), (2, .long (0 : Int64)), (4, .long (1 : Int64))], [.long (b).toInt64], mj_h0)) (mj_one_of mj_d_125_0 fun _ _ => rfl) ?_
                refine mj_runs.step (S' := (mj_m_125, 2, [(0, .long (b).toInt64), (2, .long (0 : Int64)), (4, .long (1 : Int64))], [.long (0 : Int64), .long (b).toInt64], mj_h0)) (mj_one_of mj_d_125_1 fun _ _ => rfl) ?_
                refine mj_runs.step (S' := (mj_m_125, 3, [(0, .long (b).toInt64), (2, .long (0 : Int64)), (4, .long (1 : Int64))], [.int (lg_cmp (b).toInt64 (0 : Int64))], mj_h0)) (mj_one_of mj_d_125_2 fun _ _ => rfl) ?_
                refine mj_runs.step (S' := (mj_m_125, 6, [(0, .long (b).toInt64), (2, .long (0 : Int64)), (4, .long (1 : Int64))], [], mj_h0)) (mj_one_ifF mj_d_125_3 (t := 17) rfl (mj_lgF_lt (mj_l32 b) (show ((0 : Int64)).toInt = 0 by decide) (by omega))) ?_
                refine mj_runs.step (S' := (mj_m_125, 7, [(0, .long (b).toInt64), (2, .long (0 : Int64)), (4, .long (1 : Int64))], [.long (b).toInt64], mj_h0)) (mj_one_of mj_d_125_6 fun _ _ => rfl) ?_
                refine mj_runs.step (S' := (mj_m_125, 9, [(0, .long (b).toInt64), (2, .long (0 : Int64)), (4, .long (1 : Int64))], [.long (1 : Int64), .long (b).toInt64], mj_h0)) (mj_one_of mj_d_125_7 fun _ _ => rfl) ?_
                refine mj_runs.step (S' := (mj_m_125, 10, [(0, .long (b).toInt64), (2, .long (0 : Int64)), (4, .long (1 : Int64))], [.int (lg_cmp (b).toInt64 (1 : Int64))], mj_h0)) (mj_one_of mj_d_125_9 fun _ _ => rfl) ?_
                refine mj_runs.step (S' := (mj_m_125, 17, [(0, .long (b).toInt64), (2, .long (0 : Int64)), (4, .long (1 : Int64))], [], mj_h0)) (mj_one_ifT mj_d_125_10 rfl (mj_lgT_gt (mj_l32 b) (show ((1 : Int64)).toInt = 1 by decide) (by omega))) ?_
                refine mj_runs.step (S' := (mj_m_125, 18, [(0, .long (b).toInt64), (2, .long (0 : Int64)), (4, .long (1 : Int64))], [.int (0 : Int32)], mj_h0)) (mj_one_of mj_d_125_17 fun _ _ => rfl) ?_
                exact mj_runs.ret (mj_ret_of mj_d_125_18 fun _ _ => rfl)
              show mj_runs (mj_m_182, 19, [(0, .ref 234), (1, .int a), (2, .int b)], [.int (0 : Int32)], mj_h0) _ _
              refine mj_runs.step (S' := (mj_m_182, 22, [(0, .ref 234), (1, .int a), (2, .int b)], [], mj_h0)) (mj_one_of mj_d_182_19 fun _ _ => rfl) ?_
              refine mj_runs.step (S' := (mj_m_182, 24, [(0, .ref 234), (1, .int a), (2, .int b)], [.int (Int32.ofInt (-1000000002))], mj_h0)) (mj_one_of mj_d_182_22 fun _ _ => rfl) ?_
              exact mj_runs.ret (mj_ret_of mj_d_182_24 fun _ _ => rfl)
            · exact mj_sz0
    · refine ⟨(Int32.ofInt (-1000000002)), mj_h0, mj_h0, ?_, ?_, ?_⟩
      · refine mj_runs.step (S' := (mj_m_107, 1, [(0, .ref 0), (1, .int a), (2, .int b)], [.int a], mj_h0)) (mj_one_of mj_d_107_0 fun _ _ => rfl) ?_
        refine mj_runs.step (S' := (mj_m_107, 2, [(0, .ref 0), (1, .int a), (2, .int b)], [.int (1 : Int32), .int a], mj_h0)) (mj_one_of mj_d_107_1 fun _ _ => rfl) ?_
        refine mj_runs.step (S' := (mj_m_107, 5, [(0, .ref 0), (1, .int a), (2, .int b)], [], mj_h0)) (mj_one_icmpF mj_d_107_2 (t := 11) rfl (mj_cF_lt (rfl : (a).toInt = (a).toInt) (show ((1 : Int32)).toInt = 1 by decide) (by omega))) ?_
        refine mj_runs.step (S' := (mj_m_107, 6, [(0, .ref 0), (1, .int a), (2, .int b)], [.int a], mj_h0)) (mj_one_of mj_d_107_5 fun _ _ => rfl) ?_
        refine mj_runs.step (S' := (mj_m_107, 8, [(0, .ref 0), (1, .int a), (2, .int b)], [.int (7 : Int32), .int a], mj_h0)) (mj_one_of mj_d_107_6 fun _ _ => rfl) ?_
        refine mj_runs.step (S' := (mj_m_107, 11, [(0, .ref 0), (1, .int a), (2, .int b)], [], mj_h0)) (mj_one_icmpF mj_d_107_8 (t := 14) rfl (mj_cF_le (rfl : (a).toInt = (a).toInt) (show ((7 : Int32)).toInt = 7 by decide) (by omega))) ?_
        refine mj_runs.step (S' := (mj_m_107, 13, [(0, .ref 0), (1, .int a), (2, .int b)], [.int (Int32.ofInt (-1000000002))], mj_h0)) (mj_one_of mj_d_107_11 fun _ _ => rfl) ?_
        exact mj_runs.ret (mj_ret_of mj_d_107_13 fun _ _ => rfl)
      · refine mj_runs.step (S' := (mj_m_182, 1, [(0, .ref 234), (1, .int a), (2, .int b)], [.int a], mj_h0)) (mj_one_of mj_d_182_0 fun _ _ => rfl) ?_
        refine mj_runs.step (S' := (mj_m_182, 2, [(0, .ref 234), (1, .int a), (2, .int b)], [.long (a).toInt64], mj_h0)) (mj_one_of mj_d_182_1 fun _ _ => rfl) ?_
        refine mj_runs.step (S' := (mj_m_182, 3, [(0, .ref 234), (1, .int a), (2, .int b)], [.long (1 : Int64), .long (a).toInt64], mj_h0)) (mj_one_of mj_d_182_2 fun _ _ => rfl) ?_
        refine mj_runs.step (S' := (mj_m_182, 6, [(0, .ref 234), (1, .int a), (2, .int b)], [.long (7 : Int64), .long (1 : Int64), .long (a).toInt64], mj_h0)) (mj_one_of mj_d_182_3 fun _ _ => rfl) ?_
        refine mj_runs.call (S1 := (mj_m_125, 0, [(0, .long (a).toInt64), (2, .long (1 : Int64)), (4, .long (7 : Int64))], [], mj_h0)) (r1 := (some (.int (0 : Int32)))) (h1 := mj_h0) (mj_calls_s mj_d_182_6 rfl rfl rfl rfl ⟨Nat.le_of_ble_eq_true rfl, Nat.le_of_ble_eq_true rfl, Nat.le_of_ble_eq_true rfl, Nat.le_of_ble_eq_true rfl, Nat.le_of_ble_eq_true rfl⟩) ?_ ?_
        · refine mj_runs.step (S' := (mj_m_125, 1, [(0, .long (a).toInt64), (2, .long (1 : Int64)), (4, .long (7 : Int64))], [.long (a).toInt64], mj_h0)) (mj_one_of mj_d_125_0 fun _ _ => rfl) ?_
          refine mj_runs.step (S' := (mj_m_125, 2, [(0, .long (a).toInt64), (2, .long (1 : Int64)), (4, .long (7 : Int64))], [.long (1 : Int64), .long (a).toInt64], mj_h0)) (mj_one_of mj_d_125_1 fun _ _ => rfl) ?_
          refine mj_runs.step (S' := (mj_m_125, 3, [(0, .long (a).toInt64), (2, .long (1 : Int64)), (4, .long (7 : Int64))], [.int (lg_cmp (a).toInt64 (1 : Int64))], mj_h0)) (mj_one_of mj_d_125_2 fun _ _ => rfl) ?_
          refine mj_runs.step (S' := (mj_m_125, 6, [(0, .long (a).toInt64), (2, .long (1 : Int64)), (4, .long (7 : Int64))], [], mj_h0)) (mj_one_ifF mj_d_125_3 (t := 17) rfl (mj_lgF_lt (mj_l32 a) (show ((1 : Int64)).toInt = 1 by decide) (by omega))) ?_
          refine mj_runs.step (S' := (mj_m_125, 7, [(0, .long (a).toInt64), (2, .long (1 : Int64)), (4, .long (7 : Int64))], [.long (a).toInt64], mj_h0)) (mj_one_of mj_d_125_6 fun _ _ => rfl) ?_
          refine mj_runs.step (S' := (mj_m_125, 9, [(0, .long (a).toInt64), (2, .long (1 : Int64)), (4, .long (7 : Int64))], [.long (7 : Int64), .long (a).toInt64], mj_h0)) (mj_one_of mj_d_125_7 fun _ _ => rfl) ?_
          refine mj_runs.step (S' := (mj_m_125, 10, [(0, .long (a).toInt64), (2, .long (1 : Int64)), (4, .long (7 : Int64))], [.int (lg_cmp (a).toInt64 (7 : Int64))], mj_h0)) (mj_one_of mj_d_125_9 fun _ _ => rfl) ?_
          refine mj_runs.step (S' := (mj_m_125, 17, [(0, .long (a).toInt64), (2, .long (1 : Int64)), (4, .long (7 : Int64))], [], mj_h0)) (mj_one_ifT mj_d_125_10 rfl (mj_lgT_gt (mj_l32 a) (show ((7 : Int64)).toInt = 7 by decide) (by omega))) ?_
          refine mj_runs.step (S' := (mj_m_125, 18, [(0, .long (a).toInt64), (2, .long (1 : Int64)), (4, .long (7 : Int64))], [.int (0 : Int32)], mj_h0)) (mj_one_of mj_d_125_17 fun _ _ => rfl) ?_
          exact mj_runs.ret (mj_ret_of mj_d_125_18 fun _ _ => rfl)
        show mj_runs (mj_m_182, 9, [(0, .ref 234), (1, .int a), (2, .int b)], [.int (0 : Int32)], mj_h0) _ _
        refine mj_runs.step (S' := (mj_m_182, 22, [(0, .ref 234), (1, .int a), (2, .int b)], [], mj_h0)) (mj_one_of mj_d_182_9 fun _ _ => rfl) ?_
        refine mj_runs.step (S' := (mj_m_182, 24, [(0, .ref 234), (1, .int a), (2, .int b)], [.int (Int32.ofInt (-1000000002))], mj_h0)) (mj_one_of mj_d_182_22 fun _ _ => rfl) ?_
        exact mj_runs.ret (mj_ret_of mj_d_182_24 fun _ _ => rfl)
      · exact mj_sz0
