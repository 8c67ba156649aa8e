set_option maxRecDepth 1000000 in
set_option maxHeartbeats 4000000 in
theorem mj_op_write (a b : Int32) : ∃ (r : Int32) (h1 h2 : mj_H), mj_runs (mj_m_112, 0, [(0, .ref 0), (1, .int a), (2, .int b)], [], mj_h0) (some (.int r)) h1 ∧ mj_runs (mj_m_183, 0, [(0, .ref 234), (1, .int a), (2, .int b)], [], h1) (some (.int r)) h2 ∧ mj_sz h2 := by
  by_cases c0 : a.toInt < 0
  · refine ⟨(Int32.ofInt (-1000000001)), mj_h0, mj_h0, ?_, ?_, ?_⟩
    · refine mj_runs.step (S' := (mj_m_112, 1, [(0, .ref 0), (1, .int a), (2, .int b)], [.ref 0], mj_h0)) (mj_one_of mj_d_112_0 fun _ _ => rfl) ?_
      refine mj_runs.step (S' := (mj_m_112, 2, [(0, .ref 0), (1, .int a), (2, .int b)], [.int a, .ref 0], mj_h0)) (mj_one_of mj_d_112_1 fun _ _ => rfl) ?_
      refine mj_runs.call (S1 := (mj_m_39, 0, [(0, .ref 0), (1, .int a)], [], mj_h0)) (r1 := (some (.int (0 : Int32)))) (h1 := mj_h0) (mj_calls_v mj_d_112_2 rfl rfl rfl rfl rfl rfl ⟨Nat.le_of_ble_eq_true rfl, ⟨Nat.le_of_ble_eq_true rfl, Nat.le_of_ble_eq_true rfl, Nat.le_of_ble_eq_true rfl, Nat.le_of_ble_eq_true rfl, Nat.le_of_ble_eq_true rfl⟩⟩) ?_ ?_
      · refine mj_runs.step (S' := (mj_m_39, 1, [(0, .ref 0), (1, .int a)], [.int a], mj_h0)) (mj_one_of mj_d_39_0 fun _ _ => rfl) ?_
        refine mj_runs.step (S' := (mj_m_39, 19, [(0, .ref 0), (1, .int a)], [], mj_h0)) (mj_one_ifT mj_d_39_1 rfl (mj_cT_lt (rfl : (a).toInt = (a).toInt) (show ((0 : Int32)).toInt = 0 by decide) (by omega))) ?_
        refine mj_runs.step (S' := (mj_m_39, 20, [(0, .ref 0), (1, .int a)], [.int (0 : Int32)], mj_h0)) (mj_one_of mj_d_39_19 fun _ _ => rfl) ?_
        exact mj_runs.ret (mj_ret_of mj_d_39_20 fun _ _ => rfl)
      show mj_runs (mj_m_112, 5, [(0, .ref 0), (1, .int a), (2, .int b)], [.int (0 : Int32)], mj_h0) _ _
      refine mj_runs.step (S' := (mj_m_112, 8, [(0, .ref 0), (1, .int a), (2, .int b)], [], mj_h0)) (mj_one_of mj_d_112_5 fun _ _ => rfl) ?_
      refine mj_runs.step (S' := (mj_m_112, 10, [(0, .ref 0), (1, .int a), (2, .int b)], [.int (Int32.ofInt (-1000000001))], mj_h0)) (mj_one_of mj_d_112_8 fun _ _ => rfl) ?_
      exact mj_runs.ret (mj_ret_of mj_d_112_10 fun _ _ => rfl)
    · refine mj_runs.step (S' := (mj_m_183, 1, [(0, .ref 234), (1, .int a), (2, .int b)], [.ref 234], mj_h0)) (mj_one_of mj_d_183_0 fun _ _ => rfl) ?_
      refine mj_runs.step (S' := (mj_m_183, 2, [(0, .ref 234), (1, .int a), (2, .int b)], [.int a, .ref 234], mj_h0)) (mj_one_of mj_d_183_1 fun _ _ => rfl) ?_
      refine mj_runs.call (S1 := (mj_m_140, 0, [(0, .ref 234), (1, .int a)], [], mj_h0)) (r1 := (some (.int (0 : Int32)))) (h1 := mj_h0) (mj_calls_v mj_d_183_2 rfl rfl rfl rfl rfl rfl ⟨Nat.le_of_ble_eq_true rfl, ⟨Nat.le_of_ble_eq_true rfl, Nat.le_of_ble_eq_true rfl, Nat.le_of_ble_eq_true rfl, Nat.le_of_ble_eq_true rfl, Nat.le_of_ble_eq_true rfl⟩⟩) ?_ ?_
      · refine mj_runs.step (S' := (mj_m_140, 1, [(0, .ref 234), (1, .int a)], [.int a], mj_h0)) (mj_one_of mj_d_140_0 fun _ _ => rfl) ?_
        refine mj_runs.step (S' := (mj_m_140, 2, [(0, .ref 234), (1, .int a)], [.long (a).toInt64], mj_h0)) (mj_one_of mj_d_140_1 fun _ _ => rfl) ?_
        refine mj_runs.step (S' := (mj_m_140, 3, [(0, .ref 234), (1, .int a)], [.long (0 : Int64), .long (a).toInt64], mj_h0)) (mj_one_of mj_d_140_2 fun _ _ => rfl) ?_
        refine mj_runs.step (S' := (mj_m_140, 4, [(0, .ref 234), (1, .int a)], [.ref 234, .long (0 : Int64), .long (a).toInt64], mj_h0)) (mj_one_of mj_d_140_3 fun _ _ => rfl) ?_
        refine mj_runs.step (S' := (mj_m_140, 7, [(0, .ref 234), (1, .int a)], [.int (0 : Int32), .long (0 : Int64), .long (a).toInt64], mj_h0)) (mj_one_of mj_d_140_4 fun _ _ => rfl) ?_
        refine mj_runs.step (S' := (mj_m_140, 8, [(0, .ref 234), (1, .int a)], [.int (1 : Int32), .int (0 : Int32), .long (0 : Int64), .long (a).toInt64], mj_h0)) (mj_one_of mj_d_140_7 fun _ _ => rfl) ?_
        refine mj_runs.step (S' := (mj_m_140, 9, [(0, .ref 234), (1, .int a)], [.int (Int32.ofInt (-1)), .long (0 : Int64), .long (a).toInt64], mj_h0)) (mj_one_of mj_d_140_8 fun _ _ => rfl) ?_
        refine mj_runs.step (S' := (mj_m_140, 10, [(0, .ref 234), (1, .int a)], [.long (Int64.ofInt (-1)), .long (0 : Int64), .long (a).toInt64], mj_h0)) (mj_one_of mj_d_140_9 fun _ _ => rfl) ?_
        refine mj_runs.call (S1 := (mj_m_125, 0, [(0, .long (a).toInt64), (2, .long (0 : Int64)), (4, .long (Int64.ofInt (-1)))], [], mj_h0)) (r1 := (some (.int (0 : Int32)))) (h1 := mj_h0) (mj_calls_s mj_d_140_10 rfl rfl rfl rfl ⟨Nat.le_of_ble_eq_true rfl, Nat.le_of_ble_eq_true rfl, Nat.le_of_ble_eq_true rfl, Nat.le_of_ble_eq_true rfl, Nat.le_of_ble_eq_true rfl⟩) ?_ ?_
        · refine mj_runs.step (S' := (mj_m_125, 1, [(0, .long (a).toInt64), (2, .long (0 : Int64)), (4, .long (Int64.ofInt (-1)))], [.long (a).toInt64], mj_h0)) (mj_one_of mj_d_125_0 fun _ _ => rfl) ?_
          refine mj_runs.step (S' := (mj_m_125, 2, [(0, .long (a).toInt64), (2, .long (0 : Int64)), (4, .long (Int64.ofInt (-1)))], [.long (0 : Int64), .long (a).toInt64], mj_h0)) (mj_one_of mj_d_125_1 fun _ _ => rfl) ?_
          refine mj_runs.step (S' := (mj_m_125, 3, [(0, .long (a).toInt64), (2, .long (0 : Int64)), (4, .long (Int64.ofInt (-1)))], [.int (lg_cmp (a).toInt64 (0 : Int64))], mj_h0)) (mj_one_of mj_d_125_2 fun _ _ => rfl) ?_
          refine mj_runs.step (S' := (mj_m_125, 17, [(0, .long (a).toInt64), (2, .long (0 : Int64)), (4, .long (Int64.ofInt (-1)))], [], mj_h0)) (mj_one_ifT mj_d_125_3 rfl (mj_lgT_lt (mj_l32 a) (show ((0 : Int64)).toInt = 0 by decide) (by omega))) ?_
          refine mj_runs.step (S' := (mj_m_125, 18, [(0, .long (a).toInt64), (2, .long (0 : Int64)), (4, .long (Int64.ofInt (-1)))], [.int (0 : Int32)], mj_h0)) (mj_one_of mj_d_125_17 fun _ _ => rfl) ?_
          exact mj_runs.ret (mj_ret_of mj_d_125_18 fun _ _ => rfl)
        show mj_runs (mj_m_140, 13, [(0, .ref 234), (1, .int a)], [.int (0 : Int32)], mj_h0) _ _
        exact mj_runs.ret (mj_ret_of mj_d_140_13 fun _ _ => rfl)
      show mj_runs (mj_m_183, 5, [(0, .ref 234), (1, .int a), (2, .int b)], [.int (0 : Int32)], mj_h0) _ _
      refine mj_runs.step (S' := (mj_m_183, 8, [(0, .ref 234), (1, .int a), (2, .int b)], [], mj_h0)) (mj_one_of mj_d_183_5 fun _ _ => rfl) ?_
      refine mj_runs.step (S' := (mj_m_183, 10, [(0, .ref 234), (1, .int a), (2, .int b)], [.int (Int32.ofInt (-1000000001))], mj_h0)) (mj_one_of mj_d_183_8 fun _ _ => rfl) ?_
      exact mj_runs.ret (mj_ret_of mj_d_183_10 fun _ _ => rfl)
    · exact mj_sz0
  · refine ⟨(Int32.ofInt (-1000000001)), mj_h0, mj_h0, ?_, ?_, ?_⟩
    · refine mj_runs.step (S' := (mj_m_112, 1, [(0, .ref 0), (1, .int a), (2, .int b)], [.ref 0], mj_h0)) (mj_one_of mj_d_112_0 fun _ _ => rfl) ?_
      refine mj_runs.step (S' := (mj_m_112, 2, [(0, .ref 0), (1, .int a), (2, .int b)], [.int a, .ref 0], mj_h0)) (mj_one_of mj_d_112_1 fun _ _ => rfl) ?_
      refine mj_runs.call (S1 := (mj_m_39, 0, [(0, .ref 0), (1, .int a)], [], mj_h0)) (r1 := (some (.int (0 : Int32)))) (h1 := mj_h0) (mj_calls_v mj_d_112_2 rfl rfl rfl rfl rfl rfl ⟨Nat.le_of_ble_eq_true rfl, ⟨Nat.le_of_ble_eq_true rfl, Nat.le_of_ble_eq_true rfl, Nat.le_of_ble_eq_true rfl, Nat.le_of_ble_eq_true rfl, Nat.le_of_ble_eq_true rfl⟩⟩) ?_ ?_
      · refine mj_runs.step (S' := (mj_m_39, 1, [(0, .ref 0), (1, .int a)], [.int a], mj_h0)) (mj_one_of mj_d_39_0 fun _ _ => rfl) ?_
        refine mj_runs.step (S' := (mj_m_39, 4, [(0, .ref 0), (1, .int a)], [], mj_h0)) (mj_one_ifF mj_d_39_1 (t := 19) rfl (mj_cF_lt (rfl : (a).toInt = (a).toInt) (show ((0 : Int32)).toInt = 0 by decide) (by omega))) ?_
        refine mj_runs.step (S' := (mj_m_39, 5, [(0, .ref 0), (1, .int a)], [.int a], mj_h0)) (mj_one_of mj_d_39_4 fun _ _ => rfl) ?_
        refine mj_runs.step (S' := (mj_m_39, 6, [(0, .ref 0), (1, .int a)], [.ref 0, .int a], mj_h0)) (mj_one_of mj_d_39_5 fun _ _ => rfl) ?_
        refine mj_runs.step (S' := (mj_m_39, 9, [(0, .ref 0), (1, .int a)], [.ref 8, .int a], mj_h0)) (mj_one_of mj_d_39_6 fun _ _ => rfl) ?_
        refine mj_runs.step (S' := (mj_m_39, 12, [(0, .ref 0), (1, .int a)], [.int (0 : Int32), .int a], mj_h0)) (mj_one_of mj_d_39_9 fun _ _ => rfl) ?_
        refine mj_runs.step (S' := (mj_m_39, 19, [(0, .ref 0), (1, .int a)], [], mj_h0)) (mj_one_icmpT mj_d_39_12 rfl (mj_cT_ge (rfl : (a).toInt = (a).toInt) (show ((0 : Int32)).toInt = 0 by decide) (by omega))) ?_
        refine mj_runs.step (S' := (mj_m_39, 20, [(0, .ref 0), (1, .int a)], [.int (0 : Int32)], mj_h0)) (mj_one_of mj_d_39_19 fun _ _ => rfl) ?_
        exact mj_runs.ret (mj_ret_of mj_d_39_20 fun _ _ => rfl)
      show mj_runs (mj_m_112, 5, [(0, .ref 0), (1, .int a), (2, .int b)], [.int (0 : Int32)], mj_h0) _ _
      refine mj_runs.step (S' := (mj_m_112, 8, [(0, .ref 0), (1, .int a), (2, .int b)], [], mj_h0)) (mj_one_of mj_d_112_5 fun _ _ => rfl) ?_
      refine mj_runs.step (S' := (mj_m_112, 10, [(0, .ref 0), (1, .int a), (2, .int b)], [.int (Int32.ofInt (-1000000001))], mj_h0)) (mj_one_of mj_d_112_8 fun _ _ => rfl) ?_
      exact mj_runs.ret (mj_ret_of mj_d_112_10 fun _ _ => rfl)
    · refine mj_runs.step (S' := (mj_m_183, 1, [(0, .ref 234), (1, .int a), (2, .int b)], [.ref 234], mj_h0)) (mj_one_of mj_d_183_0 fun _ _ => rfl) ?_
      refine mj_runs.step (S' := (mj_m_183, 2, [(0, .ref 234), (1, .int a), (2, .int b)], [.int a, .ref 234], mj_h0)) (mj_one_of mj_d_183_1 fun _ _ => rfl) ?_
      refine mj_runs.call (S1 := (mj_m_140, 0, [(0, .ref 234), (1, .int a)], [], mj_h0)) (r1 := (some (.int (0 : Int32)))) (h1 := mj_h0) (mj_calls_v mj_d_183_2 rfl rfl rfl rfl rfl rfl ⟨Nat.le_of_ble_eq_true rfl, ⟨Nat.le_of_ble_eq_true rfl, Nat.le_of_ble_eq_true rfl, Nat.le_of_ble_eq_true rfl, Nat.le_of_ble_eq_true rfl, Nat.le_of_ble_eq_true rfl⟩⟩) ?_ ?_
      · refine mj_runs.step (S' := (mj_m_140, 1, [(0, .ref 234), (1, .int a)], [.int a], mj_h0)) (mj_one_of mj_d_140_0 fun _ _ => rfl) ?_
        refine mj_runs.step (S' := (mj_m_140, 2, [(0, .ref 234), (1, .int a)], [.long (a).toInt64], mj_h0)) (mj_one_of mj_d_140_1 fun _ _ => rfl) ?_
        refine mj_runs.step (S' := (mj_m_140, 3, [(0, .ref 234), (1, .int a)], [.long (0 : Int64), .long (a).toInt64], mj_h0)) (mj_one_of mj_d_140_2 fun _ _ => rfl) ?_
        refine mj_runs.step (S' := (mj_m_140, 4, [(0, .ref 234), (1, .int a)], [.ref 234, .long (0 : Int64), .long (a).toInt64], mj_h0)) (mj_one_of mj_d_140_3 fun _ _ => rfl) ?_
        refine mj_runs.step (S' := (mj_m_140, 7, [(0, .ref 234), (1, .int a)], [.int (0 : Int32), .long (0 : Int64), .long (a).toInt64], mj_h0)) (mj_one_of mj_d_140_4 fun _ _ => rfl) ?_
        refine mj_runs.step (S' := (mj_m_140, 8, [(0, .ref 234), (1, .int a)], [.int (1 : Int32), .int (0 : Int32), .long (0 : Int64), .long (a).toInt64], mj_h0)) (mj_one_of mj_d_140_7 fun _ _ => rfl) ?_
        refine mj_runs.step (S' := (mj_m_140, 9, [(0, .ref 234), (1, .int a)], [.int (Int32.ofInt (-1)), .long (0 : Int64), .long (a).toInt64], mj_h0)) (mj_one_of mj_d_140_8 fun _ _ => rfl) ?_
        refine mj_runs.step (S' := (mj_m_140, 10, [(0, .ref 234), (1, .int a)], [.long (Int64.ofInt (-1)), .long (0 : Int64), .long (a).toInt64], mj_h0)) (mj_one_of mj_d_140_9 fun _ _ => rfl) ?_
        refine mj_runs.call (S1 := (mj_m_125, 0, [(0, .long (a).toInt64), (2, .long (0 : Int64)), (4, .long (Int64.ofInt (-1)))], [], mj_h0)) (r1 := (some (.int (0 : Int32)))) (h1 := mj_h0) (mj_calls_s mj_d_140_10 rfl rfl rfl rfl ⟨Nat.le_of_ble_eq_true rfl, Nat.le_of_ble_eq_true rfl, Nat.le_of_ble_eq_true rfl, Nat.le_of_ble_eq_true rfl, Nat.le_of_ble_eq_true rfl⟩) ?_ ?_
        · refine mj_runs.step (S' := (mj_m_125, 1, [(0, .long (a).toInt64), (2, .long (0 : Int64)), (4, .long (Int64.ofInt (-1)))], [.long (a).toInt64], mj_h0)) (mj_one_of mj_d_125_0 fun _ _ => rfl) ?_
          refine mj_runs.step (S' := (mj_m_125, 2, [(0, .long (a).toInt64), (2, .long (0 : Int64)), (4, .long (Int64.ofInt (-1)))], [.long (0 : Int64), .long (a).toInt64], mj_h0)) (mj_one_of mj_d_125_1 fun _ _ => rfl) ?_
          refine mj_runs.step (S' := (mj_m_125, 3, [(0, .long (a).toInt64), (2, .long (0 : Int64)), (4, .long (Int64.ofInt (-1)))], [.int (lg_cmp (a).toInt64 (0 : Int64))], mj_h0)) (mj_one_of mj_d_125_2 fun _ _ => rfl) ?_
          refine mj_runs.step (S' := (mj_m_125, 6, [(0, .long (a).toInt64), (2, .long (0 : Int64)), (4, .long (Int64.ofInt (-1)))], [], mj_h0)) (mj_one_ifF mj_d_125_3 (t := 17) rfl (mj_lgF_lt (mj_l32 a) (show ((0 : Int64)).toInt = 0 by decide) (by omega))) ?_
          refine mj_runs.step (S' := (mj_m_125, 7, [(0, .long (a).toInt64), (2, .long (0 : Int64)), (4, .long (Int64.ofInt (-1)))], [.long (a).toInt64], mj_h0)) (mj_one_of mj_d_125_6 fun _ _ => rfl) ?_
          refine mj_runs.step (S' := (mj_m_125, 9, [(0, .long (a).toInt64), (2, .long (0 : Int64)), (4, .long (Int64.ofInt (-1)))], [.long (Int64.ofInt (-1)), .long (a).toInt64], mj_h0)) (mj_one_of mj_d_125_7 fun _ _ => rfl) ?_
          refine mj_runs.step (S' := (mj_m_125, 10, [(0, .long (a).toInt64), (2, .long (0 : Int64)), (4, .long (Int64.ofInt (-1)))], [.int (lg_cmp (a).toInt64 (Int64.ofInt (-1)))], mj_h0)) (mj_one_of mj_d_125_9 fun _ _ => rfl) ?_
          refine mj_runs.step (S' := (mj_m_125, 17, [(0, .long (a).toInt64), (2, .long (0 : Int64)), (4, .long (Int64.ofInt (-1)))], [], mj_h0)) (mj_one_ifT mj_d_125_10 rfl (mj_lgT_gt (mj_l32 a) (show ((Int64.ofInt (-1))).toInt = -1 by decide) (by omega))) ?_
          refine mj_runs.step (S' := (mj_m_125, 18, [(0, .long (a).toInt64), (2, .long (0 : Int64)), (4, .long (Int64.ofInt (-1)))], [.int (0 : Int32)], mj_h0)) (mj_one_of mj_d_125_17 fun _ _ => rfl) ?_
          exact mj_runs.ret (mj_ret_of mj_d_125_18 fun _ _ => rfl)
        show mj_runs (mj_m_140, 13, [(0, .ref 234), (1, .int a)], [.int (0 : Int32)], mj_h0) _ _
        exact mj_runs.ret (mj_ret_of mj_d_140_13 fun _ _ => rfl)
      show mj_runs (mj_m_183, 5, [(0, .ref 234), (1, .int a), (2, .int b)], [.int (0 : Int32)], mj_h0) _ _
      refine mj_runs.step (S' := (mj_m_183, 8, [(0, .ref 234), (1, .int a), (2, .int b)], [], mj_h0)) (mj_one_of mj_d_183_5 fun _ _ => rfl) ?_
      refine mj_runs.step (S' := (mj_m_183, 10, [(0, .ref 234), (1, .int a), (2, .int b)], [.int (Int32.ofInt (-1000000001))], mj_h0)) (mj_one_of mj_d_183_8 fun _ _ => rfl) ?_
      exact mj_runs.ret (mj_ret_of mj_d_183_10 fun _ _ => rfl)
    · exact mj_sz0
set_option maxRecDepth 1000000 in
set_option maxHeartbeats 4000000 in
theorem mj_op_judge : ∃ (r : Int32) (h1 h2 : mj_H), mj_runs (mj_m_114, 0, [(0, .ref 0)], [], mj_h0) (some (.int r)) h1 ∧ mj_runs (mj_m_184, 0, [(0, .ref 234)], [], h1) (some (.int r)) h2 ∧ mj_sz h2 := by
  refine ⟨(Int32.ofInt (-1)), mj_h0, mj_h0, ⟨3000, by decide +kernel⟩, ⟨3000, by decide +kernel⟩, by unfold mj_sz; decide +kernel⟩
set_option maxRecDepth 1000000 in
set_option maxHeartbeats 4000000 in
theorem mj_op_tear : ∃ (r : Int32) (h1 h2 : mj_H), mj_runs (mj_m_116, 0, [(0, .ref 0)], [], mj_h0) (some (.int r)) h1 ∧ mj_runs (mj_m_185, 0, [(0, .ref 234)], [], h1) (some (.int r)) h2 ∧ mj_sz h2 := by
  refine ⟨(0 : Int32), mj_h0, mj_h0, ⟨3000, by decide +kernel⟩, ⟨3000, by decide +kernel⟩, by unfold mj_sz; decide +kernel⟩
set_option maxRecDepth 1000000 in
set_option maxHeartbeats 4000000 in
theorem mj_op_seed (a : Int32) : ∃ (r : Int32) (h1 h2 : mj_H), mj_runs (mj_m_117, 0, [(0, .ref 0), (1, .int a)], [], mj_h0) (some (.int r)) h1 ∧ mj_runs (mj_m_186, 0, [(0, .ref 234), (1, .int a)], [], h1) (some (.int r)) h2 ∧ mj_sz h2 := by
  by_cases c0 : 0 ≤ a.toInt
  · refine ⟨(0 : Int32), (mj_h0.set 0 (9, [.ref 1, .ref 8, .ref 13, .ref 19, .ref 201, .ref 217, .ref 221, .ref 224, .ref 227, .int a])), ((mj_h0.set 0 (9, [.ref 1, .ref 8, .ref 13, .ref 19, .ref 201, .ref 217, .ref 221, .ref 224, .ref 227, .int a])).set 235 (100, ((List.replicate 3808 (.int (0 : Int32))).set 111 (.int a)))), ?_, ?_, ?_⟩
    · refine mj_runs.step (S' := (mj_m_117, 1, [(0, .ref 0), (1, .int a)], [.int a], mj_h0)) (mj_one_of mj_d_117_0 fun _ _ => rfl) ?_
      refine mj_runs.step (S' := (mj_m_117, 7, [(0, .ref 0), (1, .int a)], [], mj_h0)) (mj_one_ifT mj_d_117_1 rfl (mj_cT_ge (rfl : (a).toInt = (a).toInt) (show ((0 : Int32)).toInt = 0 by decide) (by omega))) ?_
      refine mj_runs.step (S' := (mj_m_117, 8, [(0, .ref 0), (1, .int a)], [.ref 0], mj_h0)) (mj_one_of mj_d_117_7 fun _ _ => rfl) ?_
      refine mj_runs.step (S' := (mj_m_117, 11, [(0, .ref 0), (1, .int a)], [.int (0 : Int32)], mj_h0)) (mj_one_of mj_d_117_8 fun _ _ => rfl) ?_
      refine mj_runs.step (S' := (mj_m_117, 12, [(2, .int (0 : Int32)), (0, .ref 0), (1, .int a)], [], mj_h0)) (mj_one_of mj_d_117_11 fun _ _ => rfl) ?_
      refine mj_runs.step (S' := (mj_m_117, 13, [(2, .int (0 : Int32)), (0, .ref 0), (1, .int a)], [.ref 0], mj_h0)) (mj_one_of mj_d_117_12 fun _ _ => rfl) ?_
      refine mj_runs.step (S' := (mj_m_117, 14, [(2, .int (0 : Int32)), (0, .ref 0), (1, .int a)], [.int a, .ref 0], mj_h0)) (mj_one_of mj_d_117_13 fun _ _ => rfl) ?_
      refine mj_runs.step (mj_one_putI mj_d_117_14 rfl (by decide) rfl rfl rfl (by decide) (Nat.le_of_ble_eq_true rfl)) ?_
      show mj_runs (mj_m_117, 17, [(2, .int (0 : Int32)), (0, .ref 0), (1, .int a)], [], (mj_h0.set 0 (9, [.ref 1, .ref 8, .ref 13, .ref 19, .ref 201, .ref 217, .ref 221, .ref 224, .ref 227, .int a]))) _ _
      refine mj_runs.step (S' := (mj_m_117, 18, [(2, .int (0 : Int32)), (0, .ref 0), (1, .int a)], [.int (0 : Int32)], (mj_h0.set 0 (9, [.ref 1, .ref 8, .ref 13, .ref 19, .ref 201, .ref 217, .ref 221, .ref 224, .ref 227, .int a])))) (mj_one_of mj_d_117_17 fun _ _ => rfl) ?_
      exact mj_runs.ret (mj_ret_of mj_d_117_18 fun _ _ => rfl)
    · refine mj_runs.step (S' := (mj_m_186, 1, [(0, .ref 234), (1, .int a)], [.int a], (mj_h0.set 0 (9, [.ref 1, .ref 8, .ref 13, .ref 19, .ref 201, .ref 217, .ref 221, .ref 224, .ref 227, .int a])))) (mj_one_of mj_d_186_0 fun _ _ => rfl) ?_
      refine mj_runs.step (S' := (mj_m_186, 7, [(0, .ref 234), (1, .int a)], [], (mj_h0.set 0 (9, [.ref 1, .ref 8, .ref 13, .ref 19, .ref 201, .ref 217, .ref 221, .ref 224, .ref 227, .int a])))) (mj_one_ifT mj_d_186_1 rfl (mj_cT_ge (rfl : (a).toInt = (a).toInt) (show ((0 : Int32)).toInt = 0 by decide) (by omega))) ?_
      refine mj_runs.step (S' := (mj_m_186, 8, [(0, .ref 234), (1, .int a)], [.ref 234], (mj_h0.set 0 (9, [.ref 1, .ref 8, .ref 13, .ref 19, .ref 201, .ref 217, .ref 221, .ref 224, .ref 227, .int a])))) (mj_one_of mj_d_186_7 fun _ _ => rfl) ?_
      refine mj_runs.step (S' := (mj_m_186, 11, [(0, .ref 234), (1, .int a)], [.ref 235], (mj_h0.set 0 (9, [.ref 1, .ref 8, .ref 13, .ref 19, .ref 201, .ref 217, .ref 221, .ref 224, .ref 227, .int a])))) (mj_one_of mj_d_186_8 fun _ _ => rfl) ?_
      refine mj_runs.step (S' := (mj_m_186, 13, [(0, .ref 234), (1, .int a)], [.int (111 : Int32), .ref 235], (mj_h0.set 0 (9, [.ref 1, .ref 8, .ref 13, .ref 19, .ref 201, .ref 217, .ref 221, .ref 224, .ref 227, .int a])))) (mj_one_of mj_d_186_11 fun _ _ => rfl) ?_
      refine mj_runs.step (S' := (mj_m_186, 14, [(0, .ref 234), (1, .int a)], [.int (0 : Int32)], (mj_h0.set 0 (9, [.ref 1, .ref 8, .ref 13, .ref 19, .ref 201, .ref 217, .ref 221, .ref 224, .ref 227, .int a])))) (mj_one_of mj_d_186_13 fun _ _ => rfl) ?_
      refine mj_runs.step (S' := (mj_m_186, 15, [(2, .int (0 : Int32)), (0, .ref 234), (1, .int a)], [], (mj_h0.set 0 (9, [.ref 1, .ref 8, .ref 13, .ref 19, .ref 201, .ref 217, .ref 221, .ref 224, .ref 227, .int a])))) (mj_one_of mj_d_186_14 fun _ _ => rfl) ?_
      refine mj_runs.step (S' := (mj_m_186, 16, [(2, .int (0 : Int32)), (0, .ref 234), (1, .int a)], [.ref 234], (mj_h0.set 0 (9, [.ref 1, .ref 8, .ref 13, .ref 19, .ref 201, .ref 217, .ref 221, .ref 224, .ref 227, .int a])))) (mj_one_of mj_d_186_15 fun _ _ => rfl) ?_
      refine mj_runs.step (S' := (mj_m_186, 19, [(2, .int (0 : Int32)), (0, .ref 234), (1, .int a)], [.ref 235], (mj_h0.set 0 (9, [.ref 1, .ref 8, .ref 13, .ref 19, .ref 201, .ref 217, .ref 221, .ref 224, .ref 227, .int a])))) (mj_one_of mj_d_186_16 fun _ _ => rfl) ?_
      refine mj_runs.step (S' := (mj_m_186, 21, [(2, .int (0 : Int32)), (0, .ref 234), (1, .int a)], [.int (111 : Int32), .ref 235], (mj_h0.set 0 (9, [.ref 1, .ref 8, .ref 13, .ref 19, .ref 201, .ref 217, .ref 221, .ref 224, .ref 227, .int a])))) (mj_one_of mj_d_186_19 fun _ _ => rfl) ?_
      refine mj_runs.step (S' := (mj_m_186, 22, [(2, .int (0 : Int32)), (0, .ref 234), (1, .int a)], [.int a, .int (111 : Int32), .ref 235], (mj_h0.set 0 (9, [.ref 1, .ref 8, .ref 13, .ref 19, .ref 201, .ref 217, .ref 221, .ref 224, .ref 227, .int a])))) (mj_one_of mj_d_186_21 fun _ _ => rfl) ?_
      refine mj_runs.step (S' := (mj_m_186, 23, [(2, .int (0 : Int32)), (0, .ref 234), (1, .int a)], [], ((mj_h0.set 0 (9, [.ref 1, .ref 8, .ref 13, .ref 19, .ref 201, .ref 217, .ref 221, .ref 224, .ref 227, .int a])).set 235 (100, ((List.replicate 3808 (.int (0 : Int32))).set 111 (.int a)))))) (mj_one_of mj_d_186_22 fun _ _ => rfl) ?_
      refine mj_runs.step (S' := (mj_m_186, 24, [(2, .int (0 : Int32)), (0, .ref 234), (1, .int a)], [.int (0 : Int32)], ((mj_h0.set 0 (9, [.ref 1, .ref 8, .ref 13, .ref 19, .ref 201, .ref 217, .ref 221, .ref 224, .ref 227, .int a])).set 235 (100, ((List.replicate 3808 (.int (0 : Int32))).set 111 (.int a)))))) (mj_one_of mj_d_186_23 fun _ _ => rfl) ?_
      exact mj_runs.ret (mj_ret_of mj_d_186_24 fun _ _ => rfl)
    · exact mj_sz_set rfl rfl (mj_sz_set rfl rfl (mj_sz0))
  · refine ⟨(Int32.ofInt (-1000000002)), mj_h0, mj_h0, ?_, ?_, ?_⟩
    · refine mj_runs.step (S' := (mj_m_117, 1, [(0, .ref 0), (1, .int a)], [.int a], mj_h0)) (mj_one_of mj_d_117_0 fun _ _ => rfl) ?_
      refine mj_runs.step (S' := (mj_m_117, 4, [(0, .ref 0), (1, .int a)], [], mj_h0)) (mj_one_ifF mj_d_117_1 (t := 7) rfl (mj_cF_ge (rfl : (a).toInt = (a).toInt) (show ((0 : Int32)).toInt = 0 by decide) (by omega))) ?_
      refine mj_runs.step (S' := (mj_m_117, 6, [(0, .ref 0), (1, .int a)], [.int (Int32.ofInt (-1000000002))], mj_h0)) (mj_one_of mj_d_117_4 fun _ _ => rfl) ?_
      exact mj_runs.ret (mj_ret_of mj_d_117_6 fun _ _ => rfl)
    · refine mj_runs.step (S' := (mj_m_186, 1, [(0, .ref 234), (1, .int a)], [.int a], mj_h0)) (mj_one_of mj_d_186_0 fun _ _ => rfl) ?_
      refine mj_runs.step (S' := (mj_m_186, 4, [(0, .ref 234), (1, .int a)], [], mj_h0)) (mj_one_ifF mj_d_186_1 (t := 7) rfl (mj_cF_ge (rfl : (a).toInt = (a).toInt) (show ((0 : Int32)).toInt = 0 by decide) (by omega))) ?_
      refine mj_runs.step (S' := (mj_m_186, 6, [(0, .ref 234), (1, .int a)], [.int (Int32.ofInt (-1000000002))], mj_h0)) (mj_one_of mj_d_186_4 fun _ _ => rfl) ?_
      exact mj_runs.ret (mj_ret_of mj_d_186_6 fun _ _ => rfl)
    · exact mj_sz0
set_option maxRecDepth 1000000 in
set_option maxHeartbeats 4000000 in
theorem mj_op_keep (a : Int32) : ∃ (r : Int32) (h1 h2 : mj_H), mj_runs (mj_m_118, 0, [(0, .ref 0), (1, .int a)], [], mj_h0) (some (.int r)) h1 ∧ mj_runs (mj_m_187, 0, [(0, .ref 234), (1, .int a)], [], h1) (some (.int r)) h2 ∧ mj_sz h2 := by
  by_cases c0 : a.toInt < 0
  · refine ⟨(Int32.ofInt (-1000000001)), mj_h0, mj_h0, ?_, ?_, ?_⟩
    · refine mj_runs.step (S' := (mj_m_118, 1, [(0, .ref 0), (1, .int a)], [.int a], mj_h0)) (mj_one_of mj_d_118_0 fun _ _ => rfl) ?_
      refine mj_runs.step (S' := (mj_m_118, 9, [(0, .ref 0), (1, .int a)], [], mj_h0)) (mj_one_ifT mj_d_118_1 rfl (mj_cT_lt (rfl : (a).toInt = (a).toInt) (show ((0 : Int32)).toInt = 0 by decide) (by omega))) ?_
      refine mj_runs.step (S' := (mj_m_118, 11, [(0, .ref 0), (1, .int a)], [.int (Int32.ofInt (-1000000001))], mj_h0)) (mj_one_of mj_d_118_9 fun _ _ => rfl) ?_
      exact mj_runs.ret (mj_ret_of mj_d_118_11 fun _ _ => rfl)
    · refine mj_runs.step (S' := (mj_m_187, 1, [(0, .ref 234), (1, .int a)], [.int a], mj_h0)) (mj_one_of mj_d_187_0 fun _ _ => rfl) ?_
      refine mj_runs.step (S' := (mj_m_187, 2, [(0, .ref 234), (1, .int a)], [.long (a).toInt64], mj_h0)) (mj_one_of mj_d_187_1 fun _ _ => rfl) ?_
      refine mj_runs.step (S' := (mj_m_187, 3, [(0, .ref 234), (1, .int a)], [.long (0 : Int64), .long (a).toInt64], mj_h0)) (mj_one_of mj_d_187_2 fun _ _ => rfl) ?_
      refine mj_runs.step (S' := (mj_m_187, 4, [(0, .ref 234), (1, .int a)], [.long (1 : Int64), .long (0 : Int64), .long (a).toInt64], mj_h0)) (mj_one_of mj_d_187_3 fun _ _ => rfl) ?_
      refine mj_runs.call (S1 := (mj_m_125, 0, [(0, .long (a).toInt64), (2, .long (0 : Int64)), (4, .long (1 : Int64))], [], mj_h0)) (r1 := (some (.int (0 : Int32)))) (h1 := mj_h0) (mj_calls_s mj_d_187_4 rfl rfl rfl rfl ⟨Nat.le_of_ble_eq_true rfl, Nat.le_of_ble_eq_true rfl, Nat.le_of_ble_eq_true rfl, Nat.le_of_ble_eq_true rfl, Nat.le_of_ble_eq_true rfl⟩) ?_ ?_
      · refine mj_runs.step (S' := (mj_m_125, 1, [(0, .long (a).toInt64), (2, .long (0 : Int64)), (4, .long (1 : Int64))], [.long (a).toInt64], mj_h0)) (mj_one_of mj_d_125_0 fun _ _ => rfl) ?_
        refine mj_runs.step (S' := (mj_m_125, 2, [(0, .long (a).toInt64), (2, .long (0 : Int64)), (4, .long (1 : Int64))], [.long (0 : Int64), .long (a).toInt64], mj_h0)) (mj_one_of mj_d_125_1 fun _ _ => rfl) ?_
        refine mj_runs.step (S' := (mj_m_125, 3, [(0, .long (a).toInt64), (2, .long (0 : Int64)), (4, .long (1 : Int64))], [.int (lg_cmp (a).toInt64 (0 : Int64))], mj_h0)) (mj_one_of mj_d_125_2 fun _ _ => rfl) ?_
        refine mj_runs.step (S' := (mj_m_125, 17, [(0, .long (a).toInt64), (2, .long (0 : Int64)), (4, .long (1 : Int64))], [], mj_h0)) (mj_one_ifT mj_d_125_3 rfl (mj_lgT_lt (mj_l32 a) (show ((0 : Int64)).toInt = 0 by decide) (by omega))) ?_
        refine mj_runs.step (S' := (mj_m_125, 18, [(0, .long (a).toInt64), (2, .long (0 : Int64)), (4, .long (1 : Int64))], [.int (0 : Int32)], mj_h0)) (mj_one_of mj_d_125_17 fun _ _ => rfl) ?_
        exact mj_runs.ret (mj_ret_of mj_d_125_18 fun _ _ => rfl)
      show mj_runs (mj_m_187, 7, [(0, .ref 234), (1, .int a)], [.int (0 : Int32)], mj_h0) _ _
      refine mj_runs.step (S' := (mj_m_187, 10, [(0, .ref 234), (1, .int a)], [], mj_h0)) (mj_one_of mj_d_187_7 fun _ _ => rfl) ?_
      refine mj_runs.step (S' := (mj_m_187, 12, [(0, .ref 234), (1, .int a)], [.int (Int32.ofInt (-1000000001))], mj_h0)) (mj_one_of mj_d_187_10 fun _ _ => rfl) ?_
      exact mj_runs.ret (mj_ret_of mj_d_187_12 fun _ _ => rfl)
    · exact mj_sz0
  · by_cases c1 : a.toInt < 2
    · by_cases q0 : a.toInt = 0
      · obtain rfl : a = (0 : Int32) := Int32.toInt_inj.mp (by rw [show ((0 : Int32)).toInt = 0 by decide]; omega)
        refine ⟨(1 : Int32), (mj_h0.set 204 (102, [.int (1 : Int32), .int (0 : Int32)])), ((mj_h0.set 204 (102, [.int (1 : Int32), .int (0 : Int32)])).set 236 (102, [.int (1 : Int32), .int (0 : Int32)])), ⟨3000, by decide +kernel⟩, ⟨3000, by decide +kernel⟩, by unfold mj_sz; decide +kernel⟩
      obtain rfl : a = (1 : Int32) := Int32.toInt_inj.mp (by rw [show ((1 : Int32)).toInt = 1 by decide]; omega)
      refine ⟨(1 : Int32), (mj_h0.set 204 (102, [.int (0 : Int32), .int (1 : Int32)])), ((mj_h0.set 204 (102, [.int (0 : Int32), .int (1 : Int32)])).set 236 (102, [.int (0 : Int32), .int (1 : Int32)])), ⟨3000, by decide +kernel⟩, ⟨3000, by decide +kernel⟩, by unfold mj_sz; decide +kernel⟩
    · refine ⟨(Int32.ofInt (-1000000001)), mj_h0, mj_h0, ?_, ?_, ?_⟩
      · refine mj_runs.step (S' := (mj_m_118, 1, [(0, .ref 0), (1, .int a)], [.int a], mj_h0)) (mj_one_of mj_d_118_0 fun _ _ => rfl) ?_
        refine mj_runs.step (S' := (mj_m_118, 4, [(0, .ref 0), (1, .int a)], [], mj_h0)) (mj_one_ifF mj_d_118_1 (t := 9) rfl (mj_cF_lt (rfl : (a).toInt = (a).toInt) (show ((0 : Int32)).toInt = 0 by decide) (by omega))) ?_
        refine mj_runs.step (S' := (mj_m_118, 5, [(0, .ref 0), (1, .int a)], [.int a], mj_h0)) (mj_one_of mj_d_118_4 fun _ _ => rfl) ?_
        refine mj_runs.step (S' := (mj_m_118, 6, [(0, .ref 0), (1, .int a)], [.int (2 : Int32), .int a], mj_h0)) (mj_one_of mj_d_118_5 fun _ _ => rfl) ?_
        refine mj_runs.step (S' := (mj_m_118, 9, [(0, .ref 0), (1, .int a)], [], mj_h0)) (mj_one_icmpF mj_d_118_6 (t := 12) rfl (mj_cF_lt (rfl : (a).toInt = (a).toInt) (show ((2 : Int32)).toInt = 2 by decide) (by omega))) ?_
        refine mj_runs.step (S' := (mj_m_118, 11, [(0, .ref 0), (1, .int a)], [.int (Int32.ofInt (-1000000001))], mj_h0)) (mj_one_of mj_d_118_9 fun _ _ => rfl) ?_
        exact mj_runs.ret (mj_ret_of mj_d_118_11 fun _ _ => rfl)
      · refine mj_runs.step (S' := (mj_m_187, 1, [(0, .ref 234), (1, .int a)], [.int a], mj_h0)) (mj_one_of mj_d_187_0 fun _ _ => rfl) ?_
        refine mj_runs.step (S' := (mj_m_187, 2, [(0, .ref 234), (1, .int a)], [.long (a).toInt64], mj_h0)) (mj_one_of mj_d_187_1 fun _ _ => rfl) ?_
        refine mj_runs.step (S' := (mj_m_187, 3, [(0, .ref 234), (1, .int a)], [.long (0 : Int64), .long (a).toInt64], mj_h0)) (mj_one_of mj_d_187_2 fun _ _ => rfl) ?_
        refine mj_runs.step (S' := (mj_m_187, 4, [(0, .ref 234), (1, .int a)], [.long (1 : Int64), .long (0 : Int64), .long (a).toInt64], mj_h0)) (mj_one_of mj_d_187_3 fun _ _ => rfl) ?_
        refine mj_runs.call (S1 := (mj_m_125, 0, [(0, .long (a).toInt64), (2, .long (0 : Int64)), (4, .long (1 : Int64))], [], mj_h0)) (r1 := (some (.int (0 : Int32)))) (h1 := mj_h0) (mj_calls_s mj_d_187_4 rfl rfl rfl rfl ⟨Nat.le_of_ble_eq_true rfl, Nat.le_of_ble_eq_true rfl, Nat.le_of_ble_eq_true rfl, Nat.le_of_ble_eq_true rfl, Nat.le_of_ble_eq_true rfl⟩) ?_ ?_
        · refine mj_runs.step (S' := (mj_m_125, 1, [(0, .long (a).toInt64), (2, .long (0 : Int64)), (4, .long (1 : Int64))], [.long (a).toInt64], mj_h0)) (mj_one_of mj_d_125_0 fun _ _ => rfl) ?_
          refine mj_runs.step (S' := (mj_m_125, 2, [(0, .long (a).toInt64), (2, .long (0 : Int64)), (4, .long (1 : Int64))], [.long (0 : Int64), .long (a).toInt64], mj_h0)) (mj_one_of mj_d_125_1 fun _ _ => rfl) ?_
          refine mj_runs.step (S' := (mj_m_125, 3, [(0, .long (a).toInt64), (2, .long (0 : Int64)), (4, .long (1 : Int64))], [.int (lg_cmp (a).toInt64 (0 : Int64))], mj_h0)) (mj_one_of mj_d_125_2 fun _ _ => rfl) ?_
          refine mj_runs.step (S' := (mj_m_125, 6, [(0, .long (a).toInt64), (2, .long (0 : Int64)), (4, .long (1 : Int64))], [], mj_h0)) (mj_one_ifF mj_d_125_3 (t := 17) rfl (mj_lgF_lt (mj_l32 a) (show ((0 : Int64)).toInt = 0 by decide) (by omega))) ?_
          refine mj_runs.step (S' := (mj_m_125, 7, [(0, .long (a).toInt64), (2, .long (0 : Int64)), (4, .long (1 : Int64))], [.long (a).toInt64], mj_h0)) (mj_one_of mj_d_125_6 fun _ _ => rfl) ?_
          refine mj_runs.step (S' := (mj_m_125, 9, [(0, .long (a).toInt64), (2, .long (0 : Int64)), (4, .long (1 : Int64))], [.long (1 : Int64), .long (a).toInt64], mj_h0)) (mj_one_of mj_d_125_7 fun _ _ => rfl) ?_
          refine mj_runs.step (S' := (mj_m_125, 10, [(0, .long (a).toInt64), (2, .long (0 : Int64)), (4, .long (1 : Int64))], [.int (lg_cmp (a).toInt64 (1 : Int64))], mj_h0)) (mj_one_of mj_d_125_9 fun _ _ => rfl) ?_
          refine mj_runs.step (S' := (mj_m_125, 17, [(0, .long (a).toInt64), (2, .long (0 : Int64)), (4, .long (1 : Int64))], [], mj_h0)) (mj_one_ifT mj_d_125_10 rfl (mj_lgT_gt (mj_l32 a) (show ((1 : Int64)).toInt = 1 by decide) (by omega))) ?_
          refine mj_runs.step (S' := (mj_m_125, 18, [(0, .long (a).toInt64), (2, .long (0 : Int64)), (4, .long (1 : Int64))], [.int (0 : Int32)], mj_h0)) (mj_one_of mj_d_125_17 fun _ _ => rfl) ?_
          exact mj_runs.ret (mj_ret_of mj_d_125_18 fun _ _ => rfl)
        show mj_runs (mj_m_187, 7, [(0, .ref 234), (1, .int a)], [.int (0 : Int32)], mj_h0) _ _
        refine mj_runs.step (S' := (mj_m_187, 10, [(0, .ref 234), (1, .int a)], [], mj_h0)) (mj_one_of mj_d_187_7 fun _ _ => rfl) ?_
        refine mj_runs.step (S' := (mj_m_187, 12, [(0, .ref 234), (1, .int a)], [.int (Int32.ofInt (-1000000001))], mj_h0)) (mj_one_of mj_d_187_10 fun _ _ => rfl) ?_
        exact mj_runs.ret (mj_ret_of mj_d_187_12 fun _ _ => rfl)
      · exact mj_sz0
set_option maxRecDepth 1000000 in
set_option maxHeartbeats 4000000 in
theorem mj_op_goBack (a : Int32) : ∃ (r : Int32) (h1 h2 : mj_H), mj_runs (mj_m_120, 0, [(0, .ref 0), (1, .int a)], [], mj_h0) (some (.int r)) h1 ∧ mj_runs (mj_m_188, 0, [(0, .ref 234), (1, .int a)], [], h1) (some (.int r)) h2 ∧ mj_sz h2 := by
  by_cases c0 : a.toInt < 0
  · refine ⟨(Int32.ofInt (-1000000001)), mj_h0, mj_h0, ?_, ?_, ?_⟩
    · refine mj_runs.step (S' := (mj_m_120, 1, [(0, .ref 0), (1, .int a)], [.int a], mj_h0)) (mj_one_of mj_d_120_0 fun _ _ => rfl) ?_
      refine mj_runs.step (S' := (mj_m_120, 9, [(0, .ref 0), (1, .int a)], [], mj_h0)) (mj_one_ifT mj_d_120_1 rfl (mj_cT_lt (rfl : (a).toInt = (a).toInt) (show ((0 : Int32)).toInt = 0 by decide) (by omega))) ?_
      refine mj_runs.step (S' := (mj_m_120, 11, [(0, .ref 0), (1, .int a)], [.int (Int32.ofInt (-1000000001))], mj_h0)) (mj_one_of mj_d_120_9 fun _ _ => rfl) ?_
      exact mj_runs.ret (mj_ret_of mj_d_120_11 fun _ _ => rfl)
    · refine mj_runs.step (S' := (mj_m_188, 1, [(0, .ref 234), (1, .int a)], [.int a], mj_h0)) (mj_one_of mj_d_188_0 fun _ _ => rfl) ?_
      refine mj_runs.step (S' := (mj_m_188, 2, [(0, .ref 234), (1, .int a)], [.long (a).toInt64], mj_h0)) (mj_one_of mj_d_188_1 fun _ _ => rfl) ?_
      refine mj_runs.step (S' := (mj_m_188, 3, [(0, .ref 234), (1, .int a)], [.long (0 : Int64), .long (a).toInt64], mj_h0)) (mj_one_of mj_d_188_2 fun _ _ => rfl) ?_
      refine mj_runs.step (S' := (mj_m_188, 4, [(0, .ref 234), (1, .int a)], [.long (1 : Int64), .long (0 : Int64), .long (a).toInt64], mj_h0)) (mj_one_of mj_d_188_3 fun _ _ => rfl) ?_
      refine mj_runs.call (S1 := (mj_m_125, 0, [(0, .long (a).toInt64), (2, .long (0 : Int64)), (4, .long (1 : Int64))], [], mj_h0)) (r1 := (some (.int (0 : Int32)))) (h1 := mj_h0) (mj_calls_s mj_d_188_4 rfl rfl rfl rfl ⟨Nat.le_of_ble_eq_true rfl, Nat.le_of_ble_eq_true rfl, Nat.le_of_ble_eq_true rfl, Nat.le_of_ble_eq_true rfl, Nat.le_of_ble_eq_true rfl⟩) ?_ ?_
      · refine mj_runs.step (S' := (mj_m_125, 1, [(0, .long (a).toInt64), (2, .long (0 : Int64)), (4, .long (1 : Int64))], [.long (a).toInt64], mj_h0)) (mj_one_of mj_d_125_0 fun _ _ => rfl) ?_
        refine mj_runs.step (S' := (mj_m_125, 2, [(0, .long (a).toInt64), (2, .long (0 : Int64)), (4, .long (1 : Int64))], [.long (0 : Int64), .long (a).toInt64], mj_h0)) (mj_one_of mj_d_125_1 fun _ _ => rfl) ?_
        refine mj_runs.step (S' := (mj_m_125, 3, [(0, .long (a).toInt64), (2, .long (0 : Int64)), (4, .long (1 : Int64))], [.int (lg_cmp (a).toInt64 (0 : Int64))], mj_h0)) (mj_one_of mj_d_125_2 fun _ _ => rfl) ?_
        refine mj_runs.step (S' := (mj_m_125, 17, [(0, .long (a).toInt64), (2, .long (0 : Int64)), (4, .long (1 : Int64))], [], mj_h0)) (mj_one_ifT mj_d_125_3 rfl (mj_lgT_lt (mj_l32 a) (show ((0 : Int64)).toInt = 0 by decide) (by omega))) ?_
        refine mj_runs.step (S' := (mj_m_125, 18, [(0, .long (a).toInt64), (2, .long (0 : Int64)), (4, .long (1 : Int64))], [.int (0 : Int32)], mj_h0)) (mj_one_of mj_d_125_17 fun _ _ => rfl) ?_
        exact mj_runs.ret (mj_ret_of mj_d_125_18 fun _ _ => rfl)
      show mj_runs (mj_m_188, 7, [(0, .ref 234), (1, .int a)], [.int (0 : Int32)], mj_h0) _ _
      refine mj_runs.step (S' := (mj_m_188, 10, [(0, .ref 234), (1, .int a)], [], mj_h0)) (mj_one_of mj_d_188_7 fun _ _ => rfl) ?_
      refine mj_runs.step (S' := (mj_m_188, 12, [(0, .ref 234), (1, .int a)], [.int (Int32.ofInt (-1000000001))], mj_h0)) (mj_one_of mj_d_188_10 fun _ _ => rfl) ?_
      exact mj_runs.ret (mj_ret_of mj_d_188_12 fun _ _ => rfl)
    · exact mj_sz0
  · by_cases c1 : a.toInt < 2
    · by_cases q0 : a.toInt = 0
      · obtain rfl : a = (0 : Int32) := Int32.toInt_inj.mp (by rw [show ((0 : Int32)).toInt = 0 by decide]; omega)
        refine ⟨(Int32.ofInt (-1000000003)), mj_h0, mj_h0, ⟨3000, by decide +kernel⟩, ⟨3000, by decide +kernel⟩, by unfold mj_sz; decide +kernel⟩
      obtain rfl : a = (1 : Int32) := Int32.toInt_inj.mp (by rw [show ((1 : Int32)).toInt = 1 by decide]; omega)
      refine ⟨(Int32.ofInt (-1000000003)), mj_h0, mj_h0, ⟨3000, by decide +kernel⟩, ⟨3000, by decide +kernel⟩, by unfold mj_sz; decide +kernel⟩
    · refine ⟨(Int32.ofInt (-1000000001)), mj_h0, mj_h0, ?_, ?_, ?_⟩
      · refine mj_runs.step (S' := (mj_m_120, 1, [(0, .ref 0), (1, .int a)], [.int a], mj_h0)) (mj_one_of mj_d_120_0 fun _ _ => rfl) ?_
        refine mj_runs.step (S' := (mj_m_120, 4, [(0, .ref 0), (1, .int a)], [], mj_h0)) (mj_one_ifF mj_d_120_1 (t := 9) rfl (mj_cF_lt (rfl : (a).toInt = (a).toInt) (show ((0 : Int32)).toInt = 0 by decide) (by omega))) ?_
        refine mj_runs.step (S' := (mj_m_120, 5, [(0, .ref 0), (1, .int a)], [.int a], mj_h0)) (mj_one_of mj_d_120_4 fun _ _ => rfl) ?_
        refine mj_runs.step (S' := (mj_m_120, 6, [(0, .ref 0), (1, .int a)], [.int (2 : Int32), .int a], mj_h0)) (mj_one_of mj_d_120_5 fun _ _ => rfl) ?_
        refine mj_runs.step (S' := (mj_m_120, 9, [(0, .ref 0), (1, .int a)], [], mj_h0)) (mj_one_icmpF mj_d_120_6 (t := 12) rfl (mj_cF_lt (rfl : (a).toInt = (a).toInt) (show ((2 : Int32)).toInt = 2 by decide) (by omega))) ?_
        refine mj_runs.step (S' := (mj_m_120, 11, [(0, .ref 0), (1, .int a)], [.int (Int32.ofInt (-1000000001))], mj_h0)) (mj_one_of mj_d_120_9 fun _ _ => rfl) ?_
        exact mj_runs.ret (mj_ret_of mj_d_120_11 fun _ _ => rfl)
      · refine mj_runs.step (S' := (mj_m_188, 1, [(0, .ref 234), (1, .int a)], [.int a], mj_h0)) (mj_one_of mj_d_188_0 fun _ _ => rfl) ?_
        refine mj_runs.step (S' := (mj_m_188, 2, [(0, .ref 234), (1, .int a)], [.long (a).toInt64], mj_h0)) (mj_one_of mj_d_188_1 fun _ _ => rfl) ?_
        refine mj_runs.step (S' := (mj_m_188, 3, [(0, .ref 234), (1, .int a)], [.long (0 : Int64), .long (a).toInt64], mj_h0)) (mj_one_of mj_d_188_2 fun _ _ => rfl) ?_
        refine mj_runs.step (S' := (mj_m_188, 4, [(0, .ref 234), (1, .int a)], [.long (1 : Int64), .long (0 : Int64), .long (a).toInt64], mj_h0)) (mj_one_of mj_d_188_3 fun _ _ => rfl) ?_
        refine mj_runs.call (S1 := (mj_m_125, 0, [(0, .long (a).toInt64), (2, .long (0 : Int64)), (4, .long (1 : Int64))], [], mj_h0)) (r1 := (some (.int (0 : Int32)))) (h1 := mj_h0) (mj_calls_s mj_d_188_4 rfl rfl rfl rfl ⟨Nat.le_of_ble_eq_true rfl, Nat.le_of_ble_eq_true rfl, Nat.le_of_ble_eq_true rfl, Nat.le_of_ble_eq_true rfl, Nat.le_of_ble_eq_true rfl⟩) ?_ ?_
        · refine mj_runs.step (S' := (mj_m_125, 1, [(0, .long (a).toInt64), (2, .long (0 : Int64)), (4, .long (1 : Int64))], [.long (a).toInt64], mj_h0)) (mj_one_of mj_d_125_0 fun _ _ => rfl) ?_
          refine mj_runs.step (S' := (mj_m_125, 2, [(0, .long (a).toInt64), (2, .long (0 : Int64)), (4, .long (1 : Int64))], [.long (0 : Int64), .long (a).toInt64], mj_h0)) (mj_one_of mj_d_125_1 fun _ _ => rfl) ?_
          refine mj_runs.step (S' := (mj_m_125, 3, [(0, .long (a).toInt64), (2, .long (0 : Int64)), (4, .long (1 : Int64))], [.int (lg_cmp (a).toInt64 (0 : Int64))], mj_h0)) (mj_one_of mj_d_125_2 fun _ _ => rfl) ?_
          refine mj_runs.step (S' := (mj_m_125, 6, [(0, .long (a).toInt64), (2, .long (0 : Int64)), (4, .long (1 : Int64))], [], mj_h0)) (mj_one_ifF mj_d_125_3 (t := 17) rfl (mj_lgF_lt (mj_l32 a) (show ((0 : Int64)).toInt = 0 by decide) (by omega))) ?_
          refine mj_runs.step (S' := (mj_m_125, 7, [(0, .long (a).toInt64), (2, .long (0 : Int64)), (4, .long (1 : Int64))], [.long (a).toInt64], mj_h0)) (mj_one_of mj_d_125_6 fun _ _ => rfl) ?_
          refine mj_runs.step (S' := (mj_m_125, 9, [(0, .long (a).toInt64), (2, .long (0 : Int64)), (4, .long (1 : Int64))], [.long (1 : Int64), .long (a).toInt64], mj_h0)) (mj_one_of mj_d_125_7 fun _ _ => rfl) ?_
          refine mj_runs.step (S' := (mj_m_125, 10, [(0, .long (a).toInt64), (2, .long (0 : Int64)), (4, .long (1 : Int64))], [.int (lg_cmp (a).toInt64 (1 : Int64))], mj_h0)) (mj_one_of mj_d_125_9 fun _ _ => rfl) ?_
          refine mj_runs.step (S' := (mj_m_125, 17, [(0, .long (a).toInt64), (2, .long (0 : Int64)), (4, .long (1 : Int64))], [], mj_h0)) (mj_one_ifT mj_d_125_10 rfl (mj_lgT_gt (mj_l32 a) (show ((1 : Int64)).toInt = 1 by decide) (by omega))) ?_
          refine mj_runs.step (S' := (mj_m_125, 18, [(0, .long (a).toInt64), (2, .long (0 : Int64)), (4, .long (1 : Int64))], [.int (0 : Int32)], mj_h0)) (mj_one_of mj_d_125_17 fun _ _ => rfl) ?_
          exact mj_runs.ret (mj_ret_of mj_d_125_18 fun _ _ => rfl)
        show mj_runs (mj_m_188, 7, [(0, .ref 234), (1, .int a)], [.int (0 : Int32)], mj_h0) _ _
        refine mj_runs.step (S' := (mj_m_188, 10, [(0, .ref 234), (1, .int a)], [], mj_h0)) (mj_one_of mj_d_188_7 fun _ _ => rfl) ?_
        refine mj_runs.step (S' := (mj_m_188, 12, [(0, .ref 234), (1, .int a)], [.int (Int32.ofInt (-1000000001))], mj_h0)) (mj_one_of mj_d_188_10 fun _ _ => rfl) ?_
        exact mj_runs.ret (mj_ret_of mj_d_188_12 fun _ _ => rfl)
      · exact mj_sz0
