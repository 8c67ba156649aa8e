set_option maxRecDepth 1000000 in
set_option maxHeartbeats 4000000 in
theorem mj_op_sweep (a b : Int32) : ∃ (r : Int32) (h1 h2 : mj_H), mj_runs (mj_m_43, 0, [(0, .ref 0), (1, .int a), (2, .int b)], [], mj_h0) (some (.int r)) h1 ∧ mj_runs (mj_m_144, 0, [(0, .ref 234), (1, .int a), (2, .int b)], [], h1) (some (.int r)) h2 ∧ mj_sz h2 := by
  by_cases c0 : a.toInt < 0
  · refine ⟨(Int32.ofInt (-1000000001)), mj_h0, mj_h0, ?_, ?_, ?_⟩
    · refine mj_runs.step (S' := (mj_m_43, 1, [(0, .ref 0), (1, .int a), (2, .int b)], [.ref 0], mj_h0)) (mj_one_of mj_d_43_0 fun _ _ => rfl) ?_
      refine mj_runs.step (S' := (mj_m_43, 2, [(0, .ref 0), (1, .int a), (2, .int b)], [.int a, .ref 0], mj_h0)) (mj_one_of mj_d_43_1 fun _ _ => rfl) ?_
      refine mj_runs.call (S1 := (mj_m_44, 0, [(0, .ref 0), (1, .int a)], [], mj_h0)) (r1 := (some (.int (0 : Int32)))) (h1 := mj_h0) (mj_calls_v mj_d_43_2 rfl rfl rfl rfl rfl rfl ⟨Nat.le_of_ble_eq_true rfl, ⟨Nat.le_of_ble_eq_true rfl, Nat.le_of_ble_eq_true rfl, Nat.le_of_ble_eq_true rfl, Nat.le_of_ble_eq_true rfl, Nat.le_of_ble_eq_true rfl⟩⟩) ?_ ?_
      · refine mj_runs.step (S' := (mj_m_44, 1, [(0, .ref 0), (1, .int a)], [.int a], mj_h0)) (mj_one_of mj_d_44_0 fun _ _ => rfl) ?_
        refine mj_runs.step (S' := (mj_m_44, 19, [(0, .ref 0), (1, .int a)], [], mj_h0)) (mj_one_ifT mj_d_44_1 rfl (mj_cT_lt (rfl : (a).toInt = (a).toInt) (show ((0 : Int32)).toInt = 0 by decide) (by omega))) ?_
        refine mj_runs.step (S' := (mj_m_44, 20, [(0, .ref 0), (1, .int a)], [.int (0 : Int32)], mj_h0)) (mj_one_of mj_d_44_19 fun _ _ => rfl) ?_
        exact mj_runs.ret (mj_ret_of mj_d_44_20 fun _ _ => rfl)
      show mj_runs (mj_m_43, 5, [(0, .ref 0), (1, .int a), (2, .int b)], [.int (0 : Int32)], mj_h0) _ _
      refine mj_runs.step (S' := (mj_m_43, 8, [(0, .ref 0), (1, .int a), (2, .int b)], [], mj_h0)) (mj_one_of mj_d_43_5 fun _ _ => rfl) ?_
      refine mj_runs.step (S' := (mj_m_43, 10, [(0, .ref 0), (1, .int a), (2, .int b)], [.int (Int32.ofInt (-1000000001))], mj_h0)) (mj_one_of mj_d_43_8 fun _ _ => rfl) ?_
      exact mj_runs.ret (mj_ret_of mj_d_43_10 fun _ _ => rfl)
    · refine mj_runs.step (S' := (mj_m_144, 1, [(0, .ref 234), (1, .int a), (2, .int b)], [.ref 234], mj_h0)) (mj_one_of mj_d_144_0 fun _ _ => rfl) ?_
      refine mj_runs.step (S' := (mj_m_144, 2, [(0, .ref 234), (1, .int a), (2, .int b)], [.int a, .ref 234], mj_h0)) (mj_one_of mj_d_144_1 fun _ _ => rfl) ?_
      refine mj_runs.call (S1 := (mj_m_145, 0, [(0, .ref 234), (1, .int a)], [], mj_h0)) (r1 := (some (.int (0 : Int32)))) (h1 := mj_h0) (mj_calls_v mj_d_144_2 rfl rfl rfl rfl rfl rfl ⟨Nat.le_of_ble_eq_true rfl, ⟨Nat.le_of_ble_eq_true rfl, Nat.le_of_ble_eq_true rfl, Nat.le_of_ble_eq_true rfl, Nat.le_of_ble_eq_true rfl, Nat.le_of_ble_eq_true rfl⟩⟩) ?_ ?_
      · refine mj_runs.step (S' := (mj_m_145, 1, [(0, .ref 234), (1, .int a)], [.int a], mj_h0)) (mj_one_of mj_d_145_0 fun _ _ => rfl) ?_
        refine mj_runs.step (S' := (mj_m_145, 2, [(0, .ref 234), (1, .int a)], [.long (a).toInt64], mj_h0)) (mj_one_of mj_d_145_1 fun _ _ => rfl) ?_
        refine mj_runs.step (S' := (mj_m_145, 3, [(0, .ref 234), (1, .int a)], [.long (0 : Int64), .long (a).toInt64], mj_h0)) (mj_one_of mj_d_145_2 fun _ _ => rfl) ?_
        refine mj_runs.step (S' := (mj_m_145, 4, [(0, .ref 234), (1, .int a)], [.ref 234, .long (0 : Int64), .long (a).toInt64], mj_h0)) (mj_one_of mj_d_145_3 fun _ _ => rfl) ?_
        refine mj_runs.step (S' := (mj_m_145, 7, [(0, .ref 234), (1, .int a)], [.int (0 : Int32), .long (0 : Int64), .long (a).toInt64], mj_h0)) (mj_one_of mj_d_145_4 fun _ _ => rfl) ?_
        refine mj_runs.step (S' := (mj_m_145, 8, [(0, .ref 234), (1, .int a)], [.int (1 : Int32), .int (0 : Int32), .long (0 : Int64), .long (a).toInt64], mj_h0)) (mj_one_of mj_d_145_7 fun _ _ => rfl) ?_
        refine mj_runs.step (S' := (mj_m_145, 9, [(0, .ref 234), (1, .int a)], [.int (Int32.ofInt (-1)), .long (0 : Int64), .long (a).toInt64], mj_h0)) (mj_one_of mj_d_145_8 fun _ _ => rfl) ?_
        refine mj_runs.step (S' := (mj_m_145, 10, [(0, .ref 234), (1, .int a)], [.long (Int64.ofInt (-1)), .long (0 : Int64), .long (a).toInt64], mj_h0)) (mj_one_of mj_d_145_9 fun _ _ => rfl) ?_
        refine mj_runs.call (S1 := (mj_m_125, 0, [(0, .long (a).toInt64), (2, .long (0 : Int64)), (4, .long (Int64.ofInt (-1)))], [], mj_h0)) (r1 := (some (.int (0 : Int32)))) (h1 := mj_h0) (mj_calls_s mj_d_145_10 rfl rfl rfl rfl ⟨Nat.le_of_ble_eq_true rfl, Nat.le_of_ble_eq_true rfl, Nat.le_of_ble_eq_true rfl, Nat.le_of_ble_eq_true rfl, Nat.le_of_ble_eq_true rfl⟩) ?_ ?_
        · refine mj_runs.step (S' := (mj_m_125, 1, [(0, .long (a).toInt64), (2, .long (0 : Int64)), (4, .long (Int64.ofInt (-1)))], [.long (a).toInt64], mj_h0)) (mj_one_of mj_d_125_0 fun _ _ => rfl) ?_
          refine mj_runs.step (S' := (mj_m_125, 2, [(0, .long (a).toInt64), (2, .long (0 : Int64)), (4, .long (Int64.ofInt (-1)))], [.long (0 : Int64), .long (a).toInt64], mj_h0)) (mj_one_of mj_d_125_1 fun _ _ => rfl) ?_
          refine mj_runs.step (S' := (mj_m_125, 3, [(0, .long (a).toInt64), (2, .long (0 : Int64)), (4, .long (Int64.ofInt (-1)))], [.int (lg_cmp (a).toInt64 (0 : Int64))], mj_h0)) (mj_one_of mj_d_125_2 fun _ _ => rfl) ?_
          refine mj_runs.step (S' := (mj_m_125, 17, [(0, .long (a).toInt64), (2, .long (0 : Int64)), (4, .long (Int64.ofInt (-1)))], [], mj_h0)) (mj_one_ifT mj_d_125_3 rfl (mj_lgT_lt (mj_l32 a) (show ((0 : Int64)).toInt = 0 by decide) (by omega))) ?_
          refine mj_runs.step (S' := (mj_m_125, 18, [(0, .long (a).toInt64), (2, .long (0 : Int64)), (4, .long (Int64.ofInt (-1)))], [.int (0 : Int32)], mj_h0)) (mj_one_of mj_d_125_17 fun _ _ => rfl) ?_
          exact mj_runs.ret (mj_ret_of mj_d_125_18 fun _ _ => rfl)
        show mj_runs (mj_m_145, 13, [(0, .ref 234), (1, .int a)], [.int (0 : Int32)], mj_h0) _ _
        exact mj_runs.ret (mj_ret_of mj_d_145_13 fun _ _ => rfl)
      show mj_runs (mj_m_144, 5, [(0, .ref 234), (1, .int a), (2, .int b)], [.int (0 : Int32)], mj_h0) _ _
      refine mj_runs.step (S' := (mj_m_144, 8, [(0, .ref 234), (1, .int a), (2, .int b)], [], mj_h0)) (mj_one_of mj_d_144_5 fun _ _ => rfl) ?_
      refine mj_runs.step (S' := (mj_m_144, 10, [(0, .ref 234), (1, .int a), (2, .int b)], [.int (Int32.ofInt (-1000000001))], mj_h0)) (mj_one_of mj_d_144_8 fun _ _ => rfl) ?_
      exact mj_runs.ret (mj_ret_of mj_d_144_10 fun _ _ => rfl)
    · exact mj_sz0
  · refine ⟨(Int32.ofInt (-1000000001)), mj_h0, mj_h0, ?_, ?_, ?_⟩
    · refine mj_runs.step (S' := (mj_m_43, 1, [(0, .ref 0), (1, .int a), (2, .int b)], [.ref 0], mj_h0)) (mj_one_of mj_d_43_0 fun _ _ => rfl) ?_
      refine mj_runs.step (S' := (mj_m_43, 2, [(0, .ref 0), (1, .int a), (2, .int b)], [.int a, .ref 0], mj_h0)) (mj_one_of mj_d_43_1 fun _ _ => rfl) ?_
      refine mj_runs.call (S1 := (mj_m_44, 0, [(0, .ref 0), (1, .int a)], [], mj_h0)) (r1 := (some (.int (0 : Int32)))) (h1 := mj_h0) (mj_calls_v mj_d_43_2 rfl rfl rfl rfl rfl rfl ⟨Nat.le_of_ble_eq_true rfl, ⟨Nat.le_of_ble_eq_true rfl, Nat.le_of_ble_eq_true rfl, Nat.le_of_ble_eq_true rfl, Nat.le_of_ble_eq_true rfl, Nat.le_of_ble_eq_true rfl⟩⟩) ?_ ?_
      · refine mj_runs.step (S' := (mj_m_44, 1, [(0, .ref 0), (1, .int a)], [.int a], mj_h0)) (mj_one_of mj_d_44_0 fun _ _ => rfl) ?_
        refine mj_runs.step (S' := (mj_m_44, 4, [(0, .ref 0), (1, .int a)], [], mj_h0)) (mj_one_ifF mj_d_44_1 (t := 19) rfl (mj_cF_lt (rfl : (a).toInt = (a).toInt) (show ((0 : Int32)).toInt = 0 by decide) (by omega))) ?_
        refine mj_runs.step (S' := (mj_m_44, 5, [(0, .ref 0), (1, .int a)], [.int a], mj_h0)) (mj_one_of mj_d_44_4 fun _ _ => rfl) ?_
        refine mj_runs.step (S' := (mj_m_44, 6, [(0, .ref 0), (1, .int a)], [.ref 0, .int a], mj_h0)) (mj_one_of mj_d_44_5 fun _ _ => rfl) ?_
        refine mj_runs.step (S' := (mj_m_44, 9, [(0, .ref 0), (1, .int a)], [.ref 8, .int a], mj_h0)) (mj_one_of mj_d_44_6 fun _ _ => rfl) ?_
        refine mj_runs.step (S' := (mj_m_44, 12, [(0, .ref 0), (1, .int a)], [.int (0 : Int32), .int a], mj_h0)) (mj_one_of mj_d_44_9 fun _ _ => rfl) ?_
        refine mj_runs.step (S' := (mj_m_44, 19, [(0, .ref 0), (1, .int a)], [], mj_h0)) (mj_one_icmpT mj_d_44_12 rfl (mj_cT_ge (rfl : (a).toInt = (a).toInt) (show ((0 : Int32)).toInt = 0 by decide) (by omega))) ?_
        refine mj_runs.step (S' := (mj_m_44, 20, [(0, .ref 0), (1, .int a)], [.int (0 : Int32)], mj_h0)) (mj_one_of mj_d_44_19 fun _ _ => rfl) ?_
        exact mj_runs.ret (mj_ret_of mj_d_44_20 fun _ _ => rfl)
      show mj_runs (mj_m_43, 5, [(0, .ref 0), (1, .int a), (2, .int b)], [.int (0 : Int32)], mj_h0) _ _
      refine mj_runs.step (S' := (mj_m_43, 8, [(0, .ref 0), (1, .int a), (2, .int b)], [], mj_h0)) (mj_one_of mj_d_43_5 fun _ _ => rfl) ?_
      refine mj_runs.step (S' := (mj_m_43, 10, [(0, .ref 0), (1, .int a), (2, .int b)], [.int (Int32.ofInt (-1000000001))], mj_h0)) (mj_one_of mj_d_43_8 fun _ _ => rfl) ?_
      exact mj_runs.ret (mj_ret_of mj_d_43_10 fun _ _ => rfl)
    · refine mj_runs.step (S' := (mj_m_144, 1, [(0, .ref 234), (1, .int a), (2, .int b)], [.ref 234], mj_h0)) (mj_one_of mj_d_144_0 fun _ _ => rfl) ?_
      refine mj_runs.step (S' := (mj_m_144, 2, [(0, .ref 234), (1, .int a), (2, .int b)], [.int a, .ref 234], mj_h0)) (mj_one_of mj_d_144_1 fun _ _ => rfl) ?_
      refine mj_runs.call (S1 := (mj_m_145, 0, [(0, .ref 234), (1, .int a)], [], mj_h0)) (r1 := (some (.int (0 : Int32)))) (h1 := mj_h0) (mj_calls_v mj_d_144_2 rfl rfl rfl rfl rfl rfl ⟨Nat.le_of_ble_eq_true rfl, ⟨Nat.le_of_ble_eq_true rfl, Nat.le_of_ble_eq_true rfl, Nat.le_of_ble_eq_true rfl, Nat.le_of_ble_eq_true rfl, Nat.le_of_ble_eq_true rfl⟩⟩) ?_ ?_
      · refine mj_runs.step (S' := (mj_m_145, 1, [(0, .ref 234), (1, .int a)], [.int a], mj_h0)) (mj_one_of mj_d_145_0 fun _ _ => rfl) ?_
        refine mj_runs.step (S' := (mj_m_145, 2, [(0, .ref 234), (1, .int a)], [.long (a).toInt64], mj_h0)) (mj_one_of mj_d_145_1 fun _ _ => rfl) ?_
        refine mj_runs.step (S' := (mj_m_145, 3, [(0, .ref 234), (1, .int a)], [.long (0 : Int64), .long (a).toInt64], mj_h0)) (mj_one_of mj_d_145_2 fun _ _ => rfl) ?_
        refine mj_runs.step (S' := (mj_m_145, 4, [(0, .ref 234), (1, .int a)], [.ref 234, .long (0 : Int64), .long (a).toInt64], mj_h0)) (mj_one_of mj_d_145_3 fun _ _ => rfl) ?_
        refine mj_runs.step (S' := (mj_m_145, 7, [(0, .ref 234), (1, .int a)], [.int (0 : Int32), .long (0 : Int64), .long (a).toInt64], mj_h0)) (mj_one_of mj_d_145_4 fun _ _ => rfl) ?_
        refine mj_runs.step (S' := (mj_m_145, 8, [(0, .ref 234), (1, .int a)], [.int (1 : Int32), .int (0 : Int32), .long (0 : Int64), .long (a).toInt64], mj_h0)) (mj_one_of mj_d_145_7 fun _ _ => rfl) ?_
        refine mj_runs.step (S' := (mj_m_145, 9, [(0, .ref 234), (1, .int a)], [.int (Int32.ofInt (-1)), .long (0 : Int64), .long (a).toInt64], mj_h0)) (mj_one_of mj_d_145_8 fun _ _ => rfl) ?_
        refine mj_runs.step (S' := (mj_m_145, 10, [(0, .ref 234), (1, .int a)], [.long (Int64.ofInt (-1)), .long (0 : Int64), .long (a).toInt64], mj_h0)) (mj_one_of mj_d_145_9 fun _ _ => rfl) ?_
        refine mj_runs.call (S1 := (mj_m_125, 0, [(0, .long (a).toInt64), (2, .long (0 : Int64)), (4, .long (Int64.ofInt (-1)))], [], mj_h0)) (r1 := (some (.int (0 : Int32)))) (h1 := mj_h0) (mj_calls_s mj_d_145_10 rfl rfl rfl rfl ⟨Nat.le_of_ble_eq_true rfl, Nat.le_of_ble_eq_true rfl, Nat.le_of_ble_eq_true rfl, Nat.le_of_ble_eq_true rfl, Nat.le_of_ble_eq_true rfl⟩) ?_ ?_
        · refine mj_runs.step (S' := (mj_m_125, 1, [(0, .long (a).toInt64), (2, .long (0 : Int64)), (4, .long (Int64.ofInt (-1)))], [.long (a).toInt64], mj_h0)) (mj_one_of mj_d_125_0 fun _ _ => rfl) ?_
          refine mj_runs.step (S' := (mj_m_125, 2, [(0, .long (a).toInt64), (2, .long (0 : Int64)), (4, .long (Int64.ofInt (-1)))], [.long (0 : Int64), .long (a).toInt64], mj_h0)) (mj_one_of mj_d_125_1 fun _ _ => rfl) ?_
          refine mj_runs.step (S' := (mj_m_125, 3, [(0, .long (a).toInt64), (2, .long (0 : Int64)), (4, .long (Int64.ofInt (-1)))], [.int (lg_cmp (a).toInt64 (0 : Int64))], mj_h0)) (mj_one_of mj_d_125_2 fun _ _ => rfl) ?_
          refine mj_runs.step (S' := (mj_m_125, 6, [(0, .long (a).toInt64), (2, .long (0 : Int64)), (4, .long (Int64.ofInt (-1)))], [], mj_h0)) (mj_one_ifF mj_d_125_3 (t := 17) rfl (mj_lgF_lt (mj_l32 a) (show ((0 : Int64)).toInt = 0 by decide) (by omega))) ?_
          refine mj_runs.step (S' := (mj_m_125, 7, [(0, .long (a).toInt64), (2, .long (0 : Int64)), (4, .long (Int64.ofInt (-1)))], [.long (a).toInt64], mj_h0)) (mj_one_of mj_d_125_6 fun _ _ => rfl) ?_
          refine mj_runs.step (S' := (mj_m_125, 9, [(0, .long (a).toInt64), (2, .long (0 : Int64)), (4, .long (Int64.ofInt (-1)))], [.long (Int64.ofInt (-1)), .long (a).toInt64], mj_h0)) (mj_one_of mj_d_125_7 fun _ _ => rfl) ?_
          refine mj_runs.step (S' := (mj_m_125, 10, [(0, .long (a).toInt64), (2, .long (0 : Int64)), (4, .long (Int64.ofInt (-1)))], [.int (lg_cmp (a).toInt64 (Int64.ofInt (-1)))], mj_h0)) (mj_one_of mj_d_125_9 fun _ _ => rfl) ?_
          refine mj_runs.step (S' := (mj_m_125, 17, [(0, .long (a).toInt64), (2, .long (0 : Int64)), (4, .long (Int64.ofInt (-1)))], [], mj_h0)) (mj_one_ifT mj_d_125_10 rfl (mj_lgT_gt (mj_l32 a) (show ((Int64.ofInt (-1))).toInt = -1 by decide) (by omega))) ?_
          refine mj_runs.step (S' := (mj_m_125, 18, [(0, .long (a).toInt64), (2, .long (0 : Int64)), (4, .long (Int64.ofInt (-1)))], [.int (0 : Int32)], mj_h0)) (mj_one_of mj_d_125_17 fun _ _ => rfl) ?_
          exact mj_runs.ret (mj_ret_of mj_d_125_18 fun _ _ => rfl)
        show mj_runs (mj_m_145, 13, [(0, .ref 234), (1, .int a)], [.int (0 : Int32)], mj_h0) _ _
        exact mj_runs.ret (mj_ret_of mj_d_145_13 fun _ _ => rfl)
      show mj_runs (mj_m_144, 5, [(0, .ref 234), (1, .int a), (2, .int b)], [.int (0 : Int32)], mj_h0) _ _
      refine mj_runs.step (S' := (mj_m_144, 8, [(0, .ref 234), (1, .int a), (2, .int b)], [], mj_h0)) (mj_one_of mj_d_144_5 fun _ _ => rfl) ?_
      refine mj_runs.step (S' := (mj_m_144, 10, [(0, .ref 234), (1, .int a), (2, .int b)], [.int (Int32.ofInt (-1000000001))], mj_h0)) (mj_one_of mj_d_144_8 fun _ _ => rfl) ?_
      exact mj_runs.ret (mj_ret_of mj_d_144_10 fun _ _ => rfl)
    · exact mj_sz0
set_option maxRecDepth 1000000 in
set_option maxHeartbeats 4000000 in
theorem mj_op_month (a : Int32) : ∃ (r : Int32) (h1 h2 : mj_H), mj_runs (mj_m_45, 0, [(0, .ref 0), (1, .int a)], [], mj_h0) (some (.int r)) h1 ∧ mj_runs (mj_m_146, 0, [(0, .ref 234), (1, .int a)], [], h1) (some (.int r)) h2 ∧ mj_sz h2 := by
  by_cases c0 : a.toInt < 1
  · refine ⟨(Int32.ofInt (-1000000002)), mj_h0, mj_h0, ?_, ?_, ?_⟩
    · refine mj_runs.step (S' := (mj_m_45, 1, [(0, .ref 0), (1, .int a)], [.ref 0], mj_h0)) (mj_one_of mj_d_45_0 fun _ _ => rfl) ?_
      refine mj_runs.step (S' := (mj_m_45, 2, [(0, .ref 0), (1, .int a)], [.int a, .ref 0], mj_h0)) (mj_one_of mj_d_45_1 fun _ _ => rfl) ?_
      refine mj_runs.call (S1 := (mj_m_46, 0, [(0, .ref 0), (1, .int a)], [], mj_h0)) (r1 := (some (.int (Int32.ofInt (-1000000002))))) (h1 := mj_h0) (mj_calls_v mj_d_45_2 rfl rfl rfl rfl rfl rfl ⟨Nat.le_of_ble_eq_true rfl, ⟨Nat.le_of_ble_eq_true rfl, Nat.le_of_ble_eq_true rfl, Nat.le_of_ble_eq_true rfl, Nat.le_of_ble_eq_true rfl, Nat.le_of_ble_eq_true rfl⟩⟩) ?_ ?_
      · refine mj_runs.step (S' := (mj_m_46, 1, [(0, .ref 0), (1, .int a)], [.int a], mj_h0)) (mj_one_of mj_d_46_0 fun _ _ => rfl) ?_
        refine mj_runs.step (S' := (mj_m_46, 2, [(0, .ref 0), (1, .int a)], [.int (1 : Int32), .int a], mj_h0)) (mj_one_of mj_d_46_1 fun _ _ => rfl) ?_
        refine mj_runs.step (S' := (mj_m_46, 11, [(0, .ref 0), (1, .int a)], [], mj_h0)) (mj_one_icmpT mj_d_46_2 rfl (mj_cT_lt (rfl : (a).toInt = (a).toInt) (show ((1 : Int32)).toInt = 1 by decide) (by omega))) ?_
        refine mj_runs.step (S' := (mj_m_46, 13, [(0, .ref 0), (1, .int a)], [.int (Int32.ofInt (-1000000002))], mj_h0)) (mj_one_of mj_d_46_11 fun _ _ => rfl) ?_
        exact mj_runs.ret (mj_ret_of mj_d_46_13 fun _ _ => rfl)
      show mj_runs (mj_m_45, 5, [(0, .ref 0), (1, .int a)], [.int (Int32.ofInt (-1000000002))], mj_h0) _ _
      refine mj_runs.step (S' := (mj_m_45, 6, [(2, .int (Int32.ofInt (-1000000002))), (0, .ref 0), (1, .int a)], [], mj_h0)) (mj_one_of mj_d_45_5 fun _ _ => rfl) ?_
      refine mj_runs.step (S' := (mj_m_45, 7, [(2, .int (Int32.ofInt (-1000000002))), (0, .ref 0), (1, .int a)], [.int (Int32.ofInt (-1000000002))], mj_h0)) (mj_one_of mj_d_45_6 fun _ _ => rfl) ?_
      refine mj_runs.step (S' := (mj_m_45, 10, [(2, .int (Int32.ofInt (-1000000002))), (0, .ref 0), (1, .int a)], [], mj_h0)) (mj_one_of mj_d_45_7 fun _ _ => rfl) ?_
      refine mj_runs.step (S' := (mj_m_45, 11, [(2, .int (Int32.ofInt (-1000000002))), (0, .ref 0), (1, .int a)], [.int (Int32.ofInt (-1000000002))], mj_h0)) (mj_one_of mj_d_45_10 fun _ _ => rfl) ?_
      exact mj_runs.ret (mj_ret_of mj_d_45_11 fun _ _ => rfl)
    · refine mj_runs.step (S' := (mj_m_146, 1, [(0, .ref 234), (1, .int a)], [.int a], mj_h0)) (mj_one_of mj_d_146_0 fun _ _ => rfl) ?_
      refine mj_runs.step (S' := (mj_m_146, 2, [(0, .ref 234), (1, .int a)], [.long (a).toInt64], mj_h0)) (mj_one_of mj_d_146_1 fun _ _ => rfl) ?_
      refine mj_runs.step (S' := (mj_m_146, 3, [(0, .ref 234), (1, .int a)], [.long (1 : Int64), .long (a).toInt64], mj_h0)) (mj_one_of mj_d_146_2 fun _ _ => rfl) ?_
      refine mj_runs.step (S' := (mj_m_146, 6, [(0, .ref 234), (1, .int a)], [.long (30 : Int64), .long (1 : Int64), .long (a).toInt64], mj_h0)) (mj_one_of mj_d_146_3 fun _ _ => rfl) ?_
      refine mj_runs.call (S1 := (mj_m_125, 0, [(0, .long (a).toInt64), (2, .long (1 : Int64)), (4, .long (30 : Int64))], [], mj_h0)) (r1 := (some (.int (0 : Int32)))) (h1 := mj_h0) (mj_calls_s mj_d_146_6 rfl rfl rfl rfl ⟨Nat.le_of_ble_eq_true rfl, Nat.le_of_ble_eq_true rfl, Nat.le_of_ble_eq_true rfl, Nat.le_of_ble_eq_true rfl, Nat.le_of_ble_eq_true rfl⟩) ?_ ?_
      · refine mj_runs.step (S' := (mj_m_125, 1, [(0, .long (a).toInt64), (2, .long (1 : Int64)), (4, .long (30 : Int64))], [.long (a).toInt64], mj_h0)) (mj_one_of mj_d_125_0 fun _ _ => rfl) ?_
        refine mj_runs.step (S' := (mj_m_125, 2, [(0, .long (a).toInt64), (2, .long (1 : Int64)), (4, .long (30 : Int64))], [.long (1 : Int64), .long (a).toInt64], mj_h0)) (mj_one_of mj_d_125_1 fun _ _ => rfl) ?_
        refine mj_runs.step (S' := (mj_m_125, 3, [(0, .long (a).toInt64), (2, .long (1 : Int64)), (4, .long (30 : Int64))], [.int (lg_cmp (a).toInt64 (1 : Int64))], mj_h0)) (mj_one_of mj_d_125_2 fun _ _ => rfl) ?_
        refine mj_runs.step (S' := (mj_m_125, 17, [(0, .long (a).toInt64), (2, .long (1 : Int64)), (4, .long (30 : Int64))], [], mj_h0)) (mj_one_ifT mj_d_125_3 rfl (mj_lgT_lt (mj_l32 a) (show ((1 : Int64)).toInt = 1 by decide) (by omega))) ?_
        refine mj_runs.step (S' := (mj_m_125, 18, [(0, .long (a).toInt64), (2, .long (1 : Int64)), (4, .long (30 : Int64))], [.int (0 : Int32)], mj_h0)) (mj_one_of mj_d_125_17 fun _ _ => rfl) ?_
        exact mj_runs.ret (mj_ret_of mj_d_125_18 fun _ _ => rfl)
      show mj_runs (mj_m_146, 9, [(0, .ref 234), (1, .int a)], [.int (0 : Int32)], mj_h0) _ _
      refine mj_runs.step (S' := (mj_m_146, 12, [(0, .ref 234), (1, .int a)], [], mj_h0)) (mj_one_of mj_d_146_9 fun _ _ => rfl) ?_
      refine mj_runs.step (S' := (mj_m_146, 14, [(0, .ref 234), (1, .int a)], [.int (Int32.ofInt (-1000000002))], mj_h0)) (mj_one_of mj_d_146_12 fun _ _ => rfl) ?_
      exact mj_runs.ret (mj_ret_of mj_d_146_14 fun _ _ => rfl)
    · exact mj_sz0
  · by_cases c1 : a.toInt ≤ 30
    · refine ⟨(Int32.ofInt (-1000000003)), mj_h0, mj_h0, ?_, ?_, ?_⟩
      · refine mj_runs.step (S' := (mj_m_45, 1, [(0, .ref 0), (1, .int a)], [.ref 0], mj_h0)) (mj_one_of mj_d_45_0 fun _ _ => rfl) ?_
        refine mj_runs.step (S' := (mj_m_45, 2, [(0, .ref 0), (1, .int a)], [.int a, .ref 0], mj_h0)) (mj_one_of mj_d_45_1 fun _ _ => rfl) ?_
        refine mj_runs.call (S1 := (mj_m_46, 0, [(0, .ref 0), (1, .int a)], [], mj_h0)) (r1 := (some (.int (Int32.ofInt (-1000000003))))) (h1 := mj_h0) (mj_calls_v mj_d_45_2 rfl rfl rfl rfl rfl rfl ⟨Nat.le_of_ble_eq_true rfl, ⟨Nat.le_of_ble_eq_true rfl, Nat.le_of_ble_eq_true rfl, Nat.le_of_ble_eq_true rfl, Nat.le_of_ble_eq_true rfl, Nat.le_of_ble_eq_true rfl⟩⟩) ?_ ?_
        · refine mj_runs.step (S' := (mj_m_46, 1, [(0, .ref 0), (1, .int a)], [.int a], mj_h0)) (mj_one_of mj_d_46_0 fun _ _ => rfl) ?_
          refine mj_runs.step (S' := (mj_m_46, 2, [(0, .ref 0), (1, .int a)], [.int (1 : Int32), .int a], mj_h0)) (mj_one_of mj_d_46_1 fun _ _ => rfl) ?_
          refine mj_runs.step (S' := (mj_m_46, 5, [(0, .ref 0), (1, .int a)], [], mj_h0)) (mj_one_icmpF mj_d_46_2 (t := 11) rfl (mj_cF_lt (rfl : (a).toInt = (a).toInt) (show ((1 : Int32)).toInt = 1 by decide) (by omega))) ?_
          refine mj_runs.step (S' := (mj_m_46, 6, [(0, .ref 0), (1, .int a)], [.int a], mj_h0)) (mj_one_of mj_d_46_5 fun _ _ => rfl) ?_
          refine mj_runs.step (S' := (mj_m_46, 8, [(0, .ref 0), (1, .int a)], [.int (30 : Int32), .int a], mj_h0)) (mj_one_of mj_d_46_6 fun _ _ => rfl) ?_
          refine mj_runs.step (S' := (mj_m_46, 14, [(0, .ref 0), (1, .int a)], [], mj_h0)) (mj_one_icmpT mj_d_46_8 rfl (mj_cT_le (rfl : (a).toInt = (a).toInt) (show ((30 : Int32)).toInt = 30 by decide) (by omega))) ?_
          refine mj_runs.step (S' := (mj_m_46, 15, [(0, .ref 0), (1, .int a)], [.ref 0], mj_h0)) (mj_one_of mj_d_46_14 fun _ _ => rfl) ?_
          refine mj_runs.step (S' := (mj_m_46, 18, [(0, .ref 0), (1, .int a)], [.ref 8], mj_h0)) (mj_one_of mj_d_46_15 fun _ _ => rfl) ?_
          refine mj_runs.step (S' := (mj_m_46, 21, [(0, .ref 0), (1, .int a)], [.int (0 : Int32)], mj_h0)) (mj_one_of mj_d_46_18 fun _ _ => rfl) ?_
          refine mj_runs.step (S' := (mj_m_46, 24, [(0, .ref 0), (1, .int a)], [], mj_h0)) (mj_one_of mj_d_46_21 fun _ _ => rfl) ?_
          refine mj_runs.step (S' := (mj_m_46, 26, [(0, .ref 0), (1, .int a)], [.int (Int32.ofInt (-1000000003))], mj_h0)) (mj_one_of mj_d_46_24 fun _ _ => rfl) ?_
          exact mj_runs.ret (mj_ret_of mj_d_46_26 fun _ _ => rfl)
        show mj_runs (mj_m_45, 5, [(0, .ref 0), (1, .int a)], [.int (Int32.ofInt (-1000000003))], mj_h0) _ _
        refine mj_runs.step (S' := (mj_m_45, 6, [(2, .int (Int32.ofInt (-1000000003))), (0, .ref 0), (1, .int a)], [], mj_h0)) (mj_one_of mj_d_45_5 fun _ _ => rfl) ?_
        refine mj_runs.step (S' := (mj_m_45, 7, [(2, .int (Int32.ofInt (-1000000003))), (0, .ref 0), (1, .int a)], [.int (Int32.ofInt (-1000000003))], mj_h0)) (mj_one_of mj_d_45_6 fun _ _ => rfl) ?_
        refine mj_runs.step (S' := (mj_m_45, 10, [(2, .int (Int32.ofInt (-1000000003))), (0, .ref 0), (1, .int a)], [], mj_h0)) (mj_one_of mj_d_45_7 fun _ _ => rfl) ?_
        refine mj_runs.step (S' := (mj_m_45, 11, [(2, .int (Int32.ofInt (-1000000003))), (0, .ref 0), (1, .int a)], [.int (Int32.ofInt (-1000000003))], mj_h0)) (mj_one_of mj_d_45_10 fun _ _ => rfl) ?_
        exact mj_runs.ret (mj_ret_of mj_d_45_11 fun _ _ => rfl)
      · refine mj_runs.step (S' := (mj_m_146, 1, [(0, .ref 234), (1, .int a)], [.int a], mj_h0)) (mj_one_of mj_d_146_0 fun _ _ => rfl) ?_
        refine mj_runs.step (S' := (mj_m_146, 2, [(0, .ref 234), (1, .int a)], [.long (a).toInt64], mj_h0)) (mj_one_of mj_d_146_1 fun _ _ => rfl) ?_
        refine mj_runs.step (S' := (mj_m_146, 3, [(0, .ref 234), (1, .int a)], [.long (1 : Int64), .long (a).toInt64], mj_h0)) (mj_one_of mj_d_146_2 fun _ _ => rfl) ?_
        refine mj_runs.step (S' := (mj_m_146, 6, [(0, .ref 234), (1, .int a)], [.long (30 : Int64), .long (1 : Int64), .long (a).toInt64], mj_h0)) (mj_one_of mj_d_146_3 fun _ _ => rfl) ?_
        refine mj_runs.call (S1 := (mj_m_125, 0, [(0, .long (a).toInt64), (2, .long (1 : Int64)), (4, .long (30 : Int64))], [], mj_h0)) (r1 := (some (.int (1 : Int32)))) (h1 := mj_h0) (mj_calls_s mj_d_146_6 rfl rfl rfl rfl ⟨Nat.le_of_ble_eq_true rfl, Nat.le_of_ble_eq_true rfl, Nat.le_of_ble_eq_true rfl, Nat.le_of_ble_eq_true rfl, Nat.le_of_ble_eq_true rfl⟩) ?_ ?_
        · refine mj_runs.step (S' := (mj_m_125, 1, [(0, .long (a).toInt64), (2, .long (1 : Int64)), (4, .long (30 : Int64))], [.long (a).toInt64], mj_h0)) (mj_one_of mj_d_125_0 fun _ _ => rfl) ?_
          refine mj_runs.step (S' := (mj_m_125, 2, [(0, .long (a).toInt64), (2, .long (1 : Int64)), (4, .long (30 : Int64))], [.long (1 : Int64), .long (a).toInt64], mj_h0)) (mj_one_of mj_d_125_1 fun _ _ => rfl) ?_
          refine mj_runs.step (S' := (mj_m_125, 3, [(0, .long (a).toInt64), (2, .long (1 : Int64)), (4, .long (30 : Int64))], [.int (lg_cmp (a).toInt64 (1 : Int64))], mj_h0)) (mj_one_of mj_d_125_2 fun _ _ => rfl) ?_
          refine mj_runs.step (S' := (mj_m_125, 6, [(0, .long (a).toInt64), (2, .long (1 : Int64)), (4, .long (30 : Int64))], [], mj_h0)) (mj_one_ifF mj_d_125_3 (t := 17) rfl (mj_lgF_lt (mj_l32 a) (show ((1 : Int64)).toInt = 1 by decide) (by omega))) ?_
          refine mj_runs.step (S' := (mj_m_125, 7, [(0, .long (a).toInt64), (2, .long (1 : Int64)), (4, .long (30 : Int64))], [.long (a).toInt64], mj_h0)) (mj_one_of mj_d_125_6 fun _ _ => rfl) ?_
          refine mj_runs.step (S' := (mj_m_125, 9, [(0, .long (a).toInt64), (2, .long (1 : Int64)), (4, .long (30 : Int64))], [.long (30 : Int64), .long (a).toInt64], mj_h0)) (mj_one_of mj_d_125_7 fun _ _ => rfl) ?_
          refine mj_runs.step (S' := (mj_m_125, 10, [(0, .long (a).toInt64), (2, .long (1 : Int64)), (4, .long (30 : Int64))], [.int (lg_cmp (a).toInt64 (30 : Int64))], mj_h0)) (mj_one_of mj_d_125_9 fun _ _ => rfl) ?_
          refine mj_runs.step (S' := (mj_m_125, 13, [(0, .long (a).toInt64), (2, .long (1 : Int64)), (4, .long (30 : Int64))], [], mj_h0)) (mj_one_ifF mj_d_125_10 (t := 17) rfl (mj_lgF_gt (mj_l32 a) (show ((30 : Int64)).toInt = 30 by decide) (by omega))) ?_
          refine mj_runs.step (S' := (mj_m_125, 14, [(0, .long (a).toInt64), (2, .long (1 : Int64)), (4, .long (30 : Int64))], [.int (1 : Int32)], mj_h0)) (mj_one_of mj_d_125_13 fun _ _ => rfl) ?_
          refine mj_runs.step (S' := (mj_m_125, 18, [(0, .long (a).toInt64), (2, .long (1 : Int64)), (4, .long (30 : Int64))], [.int (1 : Int32)], mj_h0)) (mj_one_of mj_d_125_14 fun _ _ => rfl) ?_
          exact mj_runs.ret (mj_ret_of mj_d_125_18 fun _ _ => rfl)
        show mj_runs (mj_m_146, 9, [(0, .ref 234), (1, .int a)], [.int (1 : Int32)], mj_h0) _ _
        refine mj_runs.step (S' := (mj_m_146, 15, [(0, .ref 234), (1, .int a)], [], mj_h0)) (mj_one_of mj_d_146_9 fun _ _ => rfl) ?_
        refine mj_runs.step (S' := (mj_m_146, 16, [(0, .ref 234), (1, .int a)], [.ref 234], mj_h0)) (mj_one_of mj_d_146_15 fun _ _ => rfl) ?_
        refine mj_runs.step (S' := (mj_m_146, 19, [(0, .ref 234), (1, .int a)], [.int (0 : Int32)], mj_h0)) (mj_one_of mj_d_146_16 fun _ _ => rfl) ?_
        refine mj_runs.step (S' := (mj_m_146, 22, [(0, .ref 234), (1, .int a)], [], mj_h0)) (mj_one_of mj_d_146_19 fun _ _ => rfl) ?_
        refine mj_runs.step (S' := (mj_m_146, 24, [(0, .ref 234), (1, .int a)], [.int (Int32.ofInt (-1000000003))], mj_h0)) (mj_one_of mj_d_146_22 fun _ _ => rfl) ?_
        exact mj_runs.ret (mj_ret_of mj_d_146_24 fun _ _ => rfl)
      · exact mj_sz0
    · refine ⟨(Int32.ofInt (-1000000002)), mj_h0, mj_h0, ?_, ?_, ?_⟩
      · refine mj_runs.step (S' := (mj_m_45, 1, [(0, .ref 0), (1, .int a)], [.ref 0], mj_h0)) (mj_one_of mj_d_45_0 fun _ _ => rfl) ?_
        refine mj_runs.step (S' := (mj_m_45, 2, [(0, .ref 0), (1, .int a)], [.int a, .ref 0], mj_h0)) (mj_one_of mj_d_45_1 fun _ _ => rfl) ?_
        refine mj_runs.call (S1 := (mj_m_46, 0, [(0, .ref 0), (1, .int a)], [], mj_h0)) (r1 := (some (.int (Int32.ofInt (-1000000002))))) (h1 := mj_h0) (mj_calls_v mj_d_45_2 rfl rfl rfl rfl rfl rfl ⟨Nat.le_of_ble_eq_true rfl, ⟨Nat.le_of_ble_eq_true rfl, Nat.le_of_ble_eq_true rfl, Nat.le_of_ble_eq_true rfl, Nat.le_of_ble_eq_true rfl, Nat.le_of_ble_eq_true rfl⟩⟩) ?_ ?_
        · refine mj_runs.step (S' := (mj_m_46, 1, [(0, .ref 0), (1, .int a)], [.int a], mj_h0)) (mj_one_of mj_d_46_0 fun _ _ => rfl) ?_
          refine mj_runs.step (S' := (mj_m_46, 2, [(0, .ref 0), (1, .int a)], [.int (1 : Int32), .int a], mj_h0)) (mj_one_of mj_d_46_1 fun _ _ => rfl) ?_
          refine mj_runs.step (S' := (mj_m_46, 5, [(0, .ref 0), (1, .int a)], [], mj_h0)) (mj_one_icmpF mj_d_46_2 (t := 11) rfl (mj_cF_lt (rfl : (a).toInt = (a).toInt) (show ((1 : Int32)).toInt = 1 by decide) (by omega))) ?_
          refine mj_runs.step (S' := (mj_m_46, 6, [(0, .ref 0), (1, .int a)], [.int a], mj_h0)) (mj_one_of mj_d_46_5 fun _ _ => rfl) ?_
          refine mj_runs.step (S' := (mj_m_46, 8, [(0, .ref 0), (1, .int a)], [.int (30 : Int32), .int a], mj_h0)) (mj_one_of mj_d_46_6 fun _ _ => rfl) ?_
          refine mj_runs.step (S' := (mj_m_46, 11, [(0, .ref 0), (1, .int a)], [], mj_h0)) (mj_one_icmpF mj_d_46_8 (t := 14) rfl (mj_cF_le (rfl : (a).toInt = (a).toInt) (show ((30 : Int32)).toInt = 30 by decide) (by omega))) ?_
          refine mj_runs.step (S' := (mj_m_46, 13, [(0, .ref 0), (1, .int a)], [.int (Int32.ofInt (-1000000002))], mj_h0)) (mj_one_of mj_d_46_11 fun _ _ => rfl) ?_
          exact mj_runs.ret (mj_ret_of mj_d_46_13 fun _ _ => rfl)
        show mj_runs (mj_m_45, 5, [(0, .ref 0), (1, .int a)], [.int (Int32.ofInt (-1000000002))], mj_h0) _ _
        refine mj_runs.step (S' := (mj_m_45, 6, [(2, .int (Int32.ofInt (-1000000002))), (0, .ref 0), (1, .int a)], [], mj_h0)) (mj_one_of mj_d_45_5 fun _ _ => rfl) ?_
        refine mj_runs.step (S' := (mj_m_45, 7, [(2, .int (Int32.ofInt (-1000000002))), (0, .ref 0), (1, .int a)], [.int (Int32.ofInt (-1000000002))], mj_h0)) (mj_one_of mj_d_45_6 fun _ _ => rfl) ?_
        refine mj_runs.step (S' := (mj_m_45, 10, [(2, .int (Int32.ofInt (-1000000002))), (0, .ref 0), (1, .int a)], [], mj_h0)) (mj_one_of mj_d_45_7 fun _ _ => rfl) ?_
        refine mj_runs.step (S' := (mj_m_45, 11, [(2, .int (Int32.ofInt (-1000000002))), (0, .ref 0), (1, .int a)], [.int (Int32.ofInt (-1000000002))], mj_h0)) (mj_one_of mj_d_45_10 fun _ _ => rfl) ?_
        exact mj_runs.ret (mj_ret_of mj_d_45_11 fun _ _ => rfl)
      · refine mj_runs.step (S' := (mj_m_146, 1, [(0, .ref 234), (1, .int a)], [.int a], mj_h0)) (mj_one_of mj_d_146_0 fun _ _ => rfl) ?_
        refine mj_runs.step (S' := (mj_m_146, 2, [(0, .ref 234), (1, .int a)], [.long (a).toInt64], mj_h0)) (mj_one_of mj_d_146_1 fun _ _ => rfl) ?_
        refine mj_runs.step (S' := (mj_m_146, 3, [(0, .ref 234), (1, .int a)], [.long (1 : Int64), .long (a).toInt64], mj_h0)) (mj_one_of mj_d_146_2 fun _ _ => rfl) ?_
        refine mj_runs.step (S' := (mj_m_146, 6, [(0, .ref 234), (1, .int a)], [.long (30 : Int64), .long (1 : Int64), .long (a).toInt64], mj_h0)) (mj_one_of mj_d_146_3 fun _ _ => rfl) ?_
        refine mj_runs.call (S1 := (mj_m_125, 0, [(0, .long (a).toInt64), (2, .long (1 : Int64)), (4, .long (30 : Int64))], [], mj_h0)) (r1 := (some (.int (0 : Int32)))) (h1 := mj_h0) (mj_calls_s mj_d_146_6 rfl rfl rfl rfl ⟨Nat.le_of_ble_eq_true rfl, Nat.le_of_ble_eq_true rfl, Nat.le_of_ble_eq_true rfl, Nat.le_of_ble_eq_true rfl, Nat.le_of_ble_eq_true rfl⟩) ?_ ?_
        · refine mj_runs.step (S' := (mj_m_125, 1, [(0, .long (a).toInt64), (2, .long (1 : Int64)), (4, .long (30 : Int64))], [.long (a).toInt64], mj_h0)) (mj_one_of mj_d_125_0 fun _ _ => rfl) ?_
          refine mj_runs.step (S' := (mj_m_125, 2, [(0, .long (a).toInt64), (2, .long (1 : Int64)), (4, .long (30 : Int64))], [.long (1 : Int64), .long (a).toInt64], mj_h0)) (mj_one_of mj_d_125_1 fun _ _ => rfl) ?_
          refine mj_runs.step (S' := (mj_m_125, 3, [(0, .long (a).toInt64), (2, .long (1 : Int64)), (4, .long (30 : Int64))], [.int (lg_cmp (a).toInt64 (1 : Int64))], mj_h0)) (mj_one_of mj_d_125_2 fun _ _ => rfl) ?_
          refine mj_runs.step (S' := (mj_m_125, 6, [(0, .long (a).toInt64), (2, .long (1 : Int64)), (4, .long (30 : Int64))], [], mj_h0)) (mj_one_ifF mj_d_125_3 (t := 17) rfl (mj_lgF_lt (mj_l32 a) (show ((1 : Int64)).toInt = 1 by decide) (by omega))) ?_
          refine mj_runs.step (S' := (mj_m_125, 7, [(0, .long (a).toInt64), (2, .long (1 : Int64)), (4, .long (30 : Int64))], [.long (a).toInt64], mj_h0)) (mj_one_of mj_d_125_6 fun _ _ => rfl) ?_
          refine mj_runs.step (S' := (mj_m_125, 9, [(0, .long (a).toInt64), (2, .long (1 : Int64)), (4, .long (30 : Int64))], [.long (30 : Int64), .long (a).toInt64], mj_h0)) (mj_one_of mj_d_125_7 fun _ _ => rfl) ?_
          refine mj_runs.step (S' := (mj_m_125, 10, [(0, .long (a).toInt64), (2, .long (1 : Int64)), (4, .long (30 : Int64))], [.int (lg_cmp (a).toInt64 (30 : Int64))], mj_h0)) (mj_one_of mj_d_125_9 fun _ _ => rfl) ?_
          refine mj_runs.step (S' := (mj_m_125, 17, [(0, .long (a).toInt64), (2, .long (1 : Int64)), (4, .long (30 : Int64))], [], mj_h0)) (mj_one_ifT mj_d_125_10 rfl (mj_lgT_gt (mj_l32 a) (show ((30 : Int64)).toInt = 30 by decide) (by omega))) ?_
          refine mj_runs.step (S' := (mj_m_125, 18, [(0, .long (a).toInt64), (2, .long (1 : Int64)), (4, .long (30 : Int64))], [.int (0 : Int32)], mj_h0)) (mj_one_of mj_d_125_17 fun _ _ => rfl) ?_
          exact mj_runs.ret (mj_ret_of mj_d_125_18 fun _ _ => rfl)
        show mj_runs (mj_m_146, 9, [(0, .ref 234), (1, .int a)], [.int (0 : Int32)], mj_h0) _ _
        refine mj_runs.step (S' := (mj_m_146, 12, [(0, .ref 234), (1, .int a)], [], mj_h0)) (mj_one_of mj_d_146_9 fun _ _ => rfl) ?_
        refine mj_runs.step (S' := (mj_m_146, 14, [(0, .ref 234), (1, .int a)], [.int (Int32.ofInt (-1000000002))], mj_h0)) (mj_one_of mj_d_146_12 fun _ _ => rfl) ?_
        exact mj_runs.ret (mj_ret_of mj_d_146_14 fun _ _ => rfl)
      · exact mj_sz0
set_option maxRecDepth 1000000 in
set_option maxHeartbeats 4000000 in
theorem mj_op_fire (a b : Int32) : ∃ (r : Int32) (h1 h2 : mj_H), mj_runs (mj_m_53, 0, [(0, .ref 0), (1, .int a), (2, .int b)], [], mj_h0) (some (.int r)) h1 ∧ mj_runs (mj_m_152, 0, [(0, .ref 234), (1, .int a), (2, .int b)], [], h1) (some (.int r)) h2 ∧ mj_sz h2 := by
  by_cases c0 : a.toInt < 0
  · refine ⟨(Int32.ofInt (-1000000001)), mj_h0, mj_h0, ?_, ?_, ?_⟩
    · refine mj_runs.step (S' := (mj_m_53, 1, [(0, .ref 0), (1, .int a), (2, .int b)], [.ref 0], mj_h0)) (mj_one_of mj_d_53_0 fun _ _ => rfl) ?_
      refine mj_runs.step (S' := (mj_m_53, 2, [(0, .ref 0), (1, .int a), (2, .int b)], [.int a, .ref 0], mj_h0)) (mj_one_of mj_d_53_1 fun _ _ => rfl) ?_
      refine mj_runs.call (S1 := (mj_m_39, 0, [(0, .ref 0), (1, .int a)], [], mj_h0)) (r1 := (some (.int (0 : Int32)))) (h1 := mj_h0) (mj_calls_v mj_d_53_2 rfl rfl rfl rfl rfl rfl ⟨Nat.le_of_ble_eq_true rfl, ⟨Nat.le_of_ble_eq_true rfl, Nat.le_of_ble_eq_true rfl, Nat.le_of_ble_eq_true rfl, Nat.le_of_ble_eq_true rfl, Nat.le_of_ble_eq_true rfl⟩⟩) ?_ ?_
      · refine mj_runs.step (S' := (mj_m_39, 1, [(0, .ref 0), (1, .int a)], [.int a], mj_h0)) (mj_one_of mj_d_39_0 fun _ _ => rfl) ?_
        refine mj_runs.step (S' := (mj_m_39, 19, [(0, .ref 0), (1, .int a)], [], mj_h0)) (mj_one_ifT mj_d_39_1 rfl (mj_cT_lt (rfl : (a).toInt = (a).toInt) (show ((0 : Int32)).toInt = 0 by decide) (by omega))) ?_
        refine mj_runs.step (S' := (mj_m_39, 20, [(0, .ref 0), (1, .int a)], [.int (0 : Int32)], mj_h0)) (mj_one_of mj_d_39_19 fun _ _ => rfl) ?_
        exact mj_runs.ret (mj_ret_of mj_d_39_20 fun _ _ => rfl)
      show mj_runs (mj_m_53, 5, [(0, .ref 0), (1, .int a), (2, .int b)], [.int (0 : Int32)], mj_h0) _ _
      refine mj_runs.step (S' := (mj_m_53, 8, [(0, .ref 0), (1, .int a), (2, .int b)], [], mj_h0)) (mj_one_of mj_d_53_5 fun _ _ => rfl) ?_
      refine mj_runs.step (S' := (mj_m_53, 10, [(0, .ref 0), (1, .int a), (2, .int b)], [.int (Int32.ofInt (-1000000001))], mj_h0)) (mj_one_of mj_d_53_8 fun _ _ => rfl) ?_
      exact mj_runs.ret (mj_ret_of mj_d_53_10 fun _ _ => rfl)
    · refine mj_runs.step (S' := (mj_m_152, 1, [(0, .ref 234), (1, .int a), (2, .int b)], [.ref 234], mj_h0)) (mj_one_of mj_d_152_0 fun _ _ => rfl) ?_
      refine mj_runs.step (S' := (mj_m_152, 2, [(0, .ref 234), (1, .int a), (2, .int b)], [.int a, .ref 234], mj_h0)) (mj_one_of mj_d_152_1 fun _ _ => rfl) ?_
      refine mj_runs.call (S1 := (mj_m_140, 0, [(0, .ref 234), (1, .int a)], [], mj_h0)) (r1 := (some (.int (0 : Int32)))) (h1 := mj_h0) (mj_calls_v mj_d_152_2 rfl rfl rfl rfl rfl rfl ⟨Nat.le_of_ble_eq_true rfl, ⟨Nat.le_of_ble_eq_true rfl, Nat.le_of_ble_eq_true rfl, Nat.le_of_ble_eq_true rfl, Nat.le_of_ble_eq_true rfl, Nat.le_of_ble_eq_true rfl⟩⟩) ?_ ?_
      · refine mj_runs.step (S' := (mj_m_140, 1, [(0, .ref 234), (1, .int a)], [.int a], mj_h0)) (mj_one_of mj_d_140_0 fun _ _ => rfl) ?_
        refine mj_runs.step (S' := (mj_m_140, 2, [(0, .ref 234), (1, .int a)], [.long (a).toInt64], mj_h0)) (mj_one_of mj_d_140_1 fun _ _ => rfl) ?_
        refine mj_runs.step (S' := (mj_m_140, 3, [(0, .ref 234), (1, .int a)], [.long (0 : Int64), .long (a).toInt64], mj_h0)) (mj_one_of mj_d_140_2 fun _ _ => rfl) ?_
        refine mj_runs.step (S' := (mj_m_140, 4, [(0, .ref 234), (1, .int a)], [.ref 234, .long (0 : Int64), .long (a).toInt64], mj_h0)) (mj_one_of mj_d_140_3 fun _ _ => rfl) ?_
        refine mj_runs.step (S' := (mj_m_140, 7, [(0, .ref 234), (1, .int a)], [.int (0 : Int32), .long (0 : Int64), .long (a).toInt64], mj_h0)) (mj_one_of mj_d_140_4 fun _ _ => rfl) ?_
        refine mj_runs.step (S' := (mj_m_140, 8, [(0, .ref 234), (1, .int a)], [.int (1 : Int32), .int (0 : Int32), .long (0 : Int64), .long (a).toInt64], mj_h0)) (mj_one_of mj_d_140_7 fun _ _ => rfl) ?_
        refine mj_runs.step (S' := (mj_m_140, 9, [(0, .ref 234), (1, .int a)], [.int (Int32.ofInt (-1)), .long (0 : Int64), .long (a).toInt64], mj_h0)) (mj_one_of mj_d_140_8 fun _ _ => rfl) ?_
        refine mj_runs.step (S' := (mj_m_140, 10, [(0, .ref 234), (1, .int a)], [.long (Int64.ofInt (-1)), .long (0 : Int64), .long (a).toInt64], mj_h0)) (mj_one_of mj_d_140_9 fun _ _ => rfl) ?_
        refine mj_runs.call (S1 := (mj_m_125, 0, [(0, .long (a).toInt64), (2, .long (0 : Int64)), (4, .long (Int64.ofInt (-1)))], [], mj_h0)) (r1 := (some (.int (0 : Int32)))) (h1 := mj_h0) (mj_calls_s mj_d_140_10 rfl rfl rfl rfl ⟨Nat.le_of_ble_eq_true rfl, Nat.le_of_ble_eq_true rfl, Nat.le_of_ble_eq_true rfl, Nat.le_of_ble_eq_true rfl, Nat.le_of_ble_eq_true rfl⟩) ?_ ?_
        · refine mj_runs.step (S' := (mj_m_125, 1, [(0, .long (a).toInt64), (2, .long (0 : Int64)), (4, .long (Int64.ofInt (-1)))], [.long (a).toInt64], mj_h0)) (mj_one_of mj_d_125_0 fun _ _ => rfl) ?_
          refine mj_runs.step (S' := (mj_m_125, 2, [(0, .long (a).toInt64), (2, .long (0 : Int64)), (4, .long (Int64.ofInt (-1)))], [.long (0 : Int64), .long (a).toInt64], mj_h0)) (mj_one_of mj_d_125_1 fun _ _ => rfl) ?_
          refine mj_runs.step (S' := (mj_m_125, 3, [(0, .long (a).toInt64), (2, .long (0 : Int64)), (4, .long (Int64.ofInt (-1)))], [.int (lg_cmp (a).toInt64 (0 : Int64))], mj_h0)) (mj_one_of mj_d_125_2 fun _ _ => rfl) ?_
          refine mj_runs.step (S' := (mj_m_125, 17, [(0, .long (a).toInt64), (2, .long (0 : Int64)), (4, .long (Int64.ofInt (-1)))], [], mj_h0)) (mj_one_ifT mj_d_125_3 rfl (mj_lgT_lt (mj_l32 a) (show ((0 : Int64)).toInt = 0 by decide) (by omega))) ?_
          refine mj_runs.step (S' := (mj_m_125, 18, [(0, .long (a).toInt64), (2, .long (0 : Int64)), (4, .long (Int64.ofInt (-1)))], [.int (0 : Int32)], mj_h0)) (mj_one_of mj_d_125_17 fun _ _ => rfl) ?_
          exact mj_runs.ret (mj_ret_of mj_d_125_18 fun _ _ => rfl)
        show mj_runs (mj_m_140, 13, [(0, .ref 234), (1, .int a)], [.int (0 : Int32)], mj_h0) _ _
        exact mj_runs.ret (mj_ret_of mj_d_140_13 fun _ _ => rfl)
      show mj_runs (mj_m_152, 5, [(0, .ref 234), (1, .int a), (2, .int b)], [.int (0 : Int32)], mj_h0) _ _
      refine mj_runs.step (S' := (mj_m_152, 8, [(0, .ref 234), (1, .int a), (2, .int b)], [], mj_h0)) (mj_one_of mj_d_152_5 fun _ _ => rfl) ?_
      refine mj_runs.step (S' := (mj_m_152, 10, [(0, .ref 234), (1, .int a), (2, .int b)], [.int (Int32.ofInt (-1000000001))], mj_h0)) (mj_one_of mj_d_152_8 fun _ _ => rfl) ?_
      exact mj_runs.ret (mj_ret_of mj_d_152_10 fun _ _ => rfl)
    · exact mj_sz0
  · refine ⟨(Int32.ofInt (-1000000001)), mj_h0, mj_h0, ?_, ?_, ?_⟩
    · refine mj_runs.step (S' := (mj_m_53, 1, [(0, .ref 0), (1, .int a), (2, .int b)], [.ref 0], mj_h0)) (mj_one_of mj_d_53_0 fun _ _ => rfl) ?_
      refine mj_runs.step (S' := (mj_m_53, 2, [(0, .ref 0), (1, .int a), (2, .int b)], [.int a, .ref 0], mj_h0)) (mj_one_of mj_d_53_1 fun _ _ => rfl) ?_
      refine mj_runs.call (S1 := (mj_m_39, 0, [(0, .ref 0), (1, .int a)], [], mj_h0)) (r1 := (some (.int (0 : Int32)))) (h1 := mj_h0) (mj_calls_v mj_d_53_2 rfl rfl rfl rfl rfl rfl ⟨Nat.le_of_ble_eq_true rfl, ⟨Nat.le_of_ble_eq_true rfl, Nat.le_of_ble_eq_true rfl, Nat.le_of_ble_eq_true rfl, Nat.le_of_ble_eq_true rfl, Nat.le_of_ble_eq_true rfl⟩⟩) ?_ ?_
      · refine mj_runs.step (S' := (mj_m_39, 1, [(0, .ref 0), (1, .int a)], [.int a], mj_h0)) (mj_one_of mj_d_39_0 fun _ _ => rfl) ?_
        refine mj_runs.step (S' := (mj_m_39, 4, [(0, .ref 0), (1, .int a)], [], mj_h0)) (mj_one_ifF mj_d_39_1 (t := 19) rfl (mj_cF_lt (rfl : (a).toInt = (a).toInt) (show ((0 : Int32)).toInt = 0 by decide) (by omega))) ?_
        refine mj_runs.step (S' := (mj_m_39, 5, [(0, .ref 0), (1, .int a)], [.int a], mj_h0)) (mj_one_of mj_d_39_4 fun _ _ => rfl) ?_
        refine mj_runs.step (S' := (mj_m_39, 6, [(0, .ref 0), (1, .int a)], [.ref 0, .int a], mj_h0)) (mj_one_of mj_d_39_5 fun _ _ => rfl) ?_
        refine mj_runs.step (S' := (mj_m_39, 9, [(0, .ref 0), (1, .int a)], [.ref 8, .int a], mj_h0)) (mj_one_of mj_d_39_6 fun _ _ => rfl) ?_
        refine mj_runs.step (S' := (mj_m_39, 12, [(0, .ref 0), (1, .int a)], [.int (0 : Int32), .int a], mj_h0)) (mj_one_of mj_d_39_9 fun _ _ => rfl) ?_
        refine mj_runs.step (S' := (mj_m_39, 19, [(0, .ref 0), (1, .int a)], [], mj_h0)) (mj_one_icmpT mj_d_39_12 rfl (mj_cT_ge (rfl : (a).toInt = (a).toInt) (show ((0 : Int32)).toInt = 0 by decide) (by omega))) ?_
        refine mj_runs.step (S' := (mj_m_39, 20, [(0, .ref 0), (1, .int a)], [.int (0 : Int32)], mj_h0)) (mj_one_of mj_d_39_19 fun _ _ => rfl) ?_
        exact mj_runs.ret (mj_ret_of mj_d_39_20 fun _ _ => rfl)
      show mj_runs (mj_m_53, 5, [(0, .ref 0), (1, .int a), (2, .int b)], [.int (0 : Int32)], mj_h0) _ _
      refine mj_runs.step (S' := (mj_m_53, 8, [(0, .ref 0), (1, .int a), (2, .int b)], [], mj_h0)) (mj_one_of mj_d_53_5 fun _ _ => rfl) ?_
      refine mj_runs.step (S' := (mj_m_53, 10, [(0, .ref 0), (1, .int a), (2, .int b)], [.int (Int32.ofInt (-1000000001))], mj_h0)) (mj_one_of mj_d_53_8 fun _ _ => rfl) ?_
      exact mj_runs.ret (mj_ret_of mj_d_53_10 fun _ _ => rfl)
    · refine mj_runs.step (S' := (mj_m_152, 1, [(0, .ref 234), (1, .int a), (2, .int b)], [.ref 234], mj_h0)) (mj_one_of mj_d_152_0 fun _ _ => rfl) ?_
      refine mj_runs.step (S' := (mj_m_152, 2, [(0, .ref 234), (1, .int a), (2, .int b)], [.int a, .ref 234], mj_h0)) (mj_one_of mj_d_152_1 fun _ _ => rfl) ?_
      refine mj_runs.call (S1 := (mj_m_140, 0, [(0, .ref 234), (1, .int a)], [], mj_h0)) (r1 := (some (.int (0 : Int32)))) (h1 := mj_h0) (mj_calls_v mj_d_152_2 rfl rfl rfl rfl rfl rfl ⟨Nat.le_of_ble_eq_true rfl, ⟨Nat.le_of_ble_eq_true rfl, Nat.le_of_ble_eq_true rfl, Nat.le_of_ble_eq_true rfl, Nat.le_of_ble_eq_true rfl, Nat.le_of_ble_eq_true rfl⟩⟩) ?_ ?_
      · refine mj_runs.step (S' := (mj_m_140, 1, [(0, .ref 234), (1, .int a)], [.int a], mj_h0)) (mj_one_of mj_d_140_0 fun _ _ => rfl) ?_
        refine mj_runs.step (S' := (mj_m_140, 2, [(0, .ref 234), (1, .int a)], [.long (a).toInt64], mj_h0)) (mj_one_of mj_d_140_1 fun _ _ => rfl) ?_
        refine mj_runs.step (S' := (mj_m_140, 3, [(0, .ref 234), (1, .int a)], [.long (0 : Int64), .long (a).toInt64], mj_h0)) (mj_one_of mj_d_140_2 fun _ _ => rfl) ?_
        refine mj_runs.step (S' := (mj_m_140, 4, [(0, .ref 234), (1, .int a)], [.ref 234, .long (0 : Int64), .long (a).toInt64], mj_h0)) (mj_one_of mj_d_140_3 fun _ _ => rfl) ?_
        refine mj_runs.step (S' := (mj_m_140, 7, [(0, .ref 234), (1, .int a)], [.int (0 : Int32), .long (0 : Int64), .long (a).toInt64], mj_h0)) (mj_one_of mj_d_140_4 fun _ _ => rfl) ?_
        refine mj_runs.step (S' := (mj_m_140, 8, [(0, .ref 234), (1, .int a)], [.int (1 : Int32), .int (0 : Int32), .long (0 : Int64), .long (a).toInt64], mj_h0)) (mj_one_of mj_d_140_7 fun _ _ => rfl) ?_
        refine mj_runs.step (S' := (mj_m_140, 9, [(0, .ref 234), (1, .int a)], [.int (Int32.ofInt (-1)), .long (0 : Int64), .long (a).toInt64], mj_h0)) (mj_one_of mj_d_140_8 fun _ _ => rfl) ?_
        refine mj_runs.step (S' := (mj_m_140, 10, [(0, .ref 234), (1, .int a)], [.long (Int64.ofInt (-1)), .long (0 : Int64), .long (a).toInt64], mj_h0)) (mj_one_of mj_d_140_9 fun _ _ => rfl) ?_
        refine mj_runs.call (S1 := (mj_m_125, 0, [(0, .long (a).toInt64), (2, .long (0 : Int64)), (4, .long (Int64.ofInt (-1)))], [], mj_h0)) (r1 := (some (.int (0 : Int32)))) (h1 := mj_h0) (mj_calls_s mj_d_140_10 rfl rfl rfl rfl ⟨Nat.le_of_ble_eq_true rfl, Nat.le_of_ble_eq_true rfl, Nat.le_of_ble_eq_true rfl, Nat.le_of_ble_eq_true rfl, Nat.le_of_ble_eq_true rfl⟩) ?_ ?_
        · refine mj_runs.step (S' := (mj_m_125, 1, [(0, .long (a).toInt64), (2, .long (0 : Int64)), (4, .long (Int64.ofInt (-1)))], [.long (a).toInt64], mj_h0)) (mj_one_of mj_d_125_0 fun _ _ => rfl) ?_
          refine mj_runs.step (S' := (mj_m_125, 2, [(0, .long (a).toInt64), (2, .long (0 : Int64)), (4, .long (Int64.ofInt (-1)))], [.long (0 : Int64), .long (a).toInt64], mj_h0)) (mj_one_of mj_d_125_1 fun _ _ => rfl) ?_
          refine mj_runs.step (S' := (mj_m_125, 3, [(0, .long (a).toInt64), (2, .long (0 : Int64)), (4, .long (Int64.ofInt (-1)))], [.int (lg_cmp (a).toInt64 (0 : Int64))], mj_h0)) (mj_one_of mj_d_125_2 fun _ _ => rfl) ?_
          refine mj_runs.step (S' := (mj_m_125, 6, [(0, .long (a).toInt64), (2, .long (0 : Int64)), (4, .long (Int64.ofInt (-1)))], [], mj_h0)) (mj_one_ifF mj_d_125_3 (t := 17) rfl (mj_lgF_lt (mj_l32 a) (show ((0 : Int64)).toInt = 0 by decide) (by omega))) ?_
          refine mj_runs.step (S' := (mj_m_125, 7, [(0, .long (a).toInt64), (2, .long (0 : Int64)), (4, .long (Int64.ofInt (-1)))], [.long (a).toInt64], mj_h0)) (mj_one_of mj_d_125_6 fun _ _ => rfl) ?_
          refine mj_runs.step (S' := (mj_m_125, 9, [(0, .long (a).toInt64), (2, .long (0 : Int64)), (4, .long (Int64.ofInt (-1)))], [.long (Int64.ofInt (-1)), .long (a).toInt64], mj_h0)) (mj_one_of mj_d_125_7 fun _ _ => rfl) ?_
          refine mj_runs.step (S' := (mj_m_125, 10, [(0, .long (a).toInt64), (2, .long (0 : Int64)), (4, .long (Int64.ofInt (-1)))], [.int (lg_cmp (a).toInt64 (Int64.ofInt (-1)))], mj_h0)) (mj_one_of mj_d_125_9 fun _ _ => rfl) ?_
          refine mj_runs.step (S' := (mj_m_125, 17, [(0, .long (a).toInt64), (2, .long (0 : Int64)), (4, .long (Int64.ofInt (-1)))], [], mj_h0)) (mj_one_ifT mj_d_125_10 rfl (mj_lgT_gt (mj_l32 a) (show ((Int64.ofInt (-1))).toInt = -1 by decide) (by omega))) ?_
          refine mj_runs.step (S' := (mj_m_125, 18, [(0, .long (a).toInt64), (2, .long (0 : Int64)), (4, .long (Int64.ofInt (-1)))], [.int (0 : Int32)], mj_h0)) (mj_one_of mj_d_125_17 fun _ _ => rfl) ?_
          exact mj_runs.ret (mj_ret_of mj_d_125_18 fun _ _ => rfl)
        show mj_runs (mj_m_140, 13, [(0, .ref 234), (1, .int a)], [.int (0 : Int32)], mj_h0) _ _
        exact mj_runs.ret (mj_ret_of mj_d_140_13 fun _ _ => rfl)
      show mj_runs (mj_m_152, 5, [(0, .ref 234), (1, .int a), (2, .int b)], [.int (0 : Int32)], mj_h0) _ _
      refine mj_runs.step (S' := (mj_m_152, 8, [(0, .ref 234), (1, .int a), (2, .int b)], [], mj_h0)) (mj_one_of mj_d_152_5 fun _ _ => rfl) ?_
      refine mj_runs.step (S' := (mj_m_152, 10, [(0, .ref 234), (1, .int a), (2, .int b)], [.int (Int32.ofInt (-1000000001))], mj_h0)) (mj_one_of mj_d_152_8 fun _ _ => rfl) ?_
      exact mj_runs.ret (mj_ret_of mj_d_152_10 fun _ _ => rfl)
    · exact mj_sz0
set_option maxRecDepth 1000000 in
set_option maxHeartbeats 4000000 in
theorem mj_op_rain : ∃ (r : Int32) (h1 h2 : mj_H), mj_runs (mj_m_54, 0, [(0, .ref 0)], [], mj_h0) (some (.int r)) h1 ∧ mj_runs (mj_m_153, 0, [(0, .ref 234)], [], h1) (some (.int r)) h2 ∧ mj_sz h2 := by
  refine ⟨(Int32.ofInt (-1000000003)), mj_h0, mj_h0, ⟨3000, by decide +kernel⟩, ⟨3000, by decide +kernel⟩, by unfold mj_sz; decide +kernel⟩
set_option maxRecDepth 1000000 in
set_option maxHeartbeats 4000000 in
theorem mj_op_swept (a : Int32) : ∃ (r : Int32) (h1 h2 : mj_H), mj_runs (mj_m_57, 0, [(0, .ref 0), (1, .int a)], [], mj_h0) (some (.int r)) h1 ∧ mj_runs (mj_m_155, 0, [(0, .ref 234), (1, .int a)], [], h1) (some (.int r)) h2 ∧ mj_sz h2 := by
  by_cases c0 : a.toInt < 0
  · refine ⟨(Int32.ofInt (-1000000001)), mj_h0, mj_h0, ?_, ?_, ?_⟩
    · refine mj_runs.step (S' := (mj_m_57, 1, [(0, .ref 0), (1, .int a)], [.ref 0], mj_h0)) (mj_one_of mj_d_57_0 fun _ _ => rfl) ?_
      refine mj_runs.step (S' := (mj_m_57, 2, [(0, .ref 0), (1, .int a)], [.int a, .ref 0], mj_h0)) (mj_one_of mj_d_57_1 fun _ _ => rfl) ?_
      refine mj_runs.call (S1 := (mj_m_39, 0, [(0, .ref 0), (1, .int a)], [], mj_h0)) (r1 := (some (.int (0 : Int32)))) (h1 := mj_h0) (mj_calls_v mj_d_57_2 rfl rfl rfl rfl rfl rfl ⟨Nat.le_of_ble_eq_true rfl, ⟨Nat.le_of_ble_eq_true rfl, Nat.le_of_ble_eq_true rfl, Nat.le_of_ble_eq_true rfl, Nat.le_of_ble_eq_true rfl, Nat.le_of_ble_eq_true rfl⟩⟩) ?_ ?_
      · refine mj_runs.step (S' := (mj_m_39, 1, [(0, .ref 0), (1, .int a)], [.int a], mj_h0)) (mj_one_of mj_d_39_0 fun _ _ => rfl) ?_
        refine mj_runs.step (S' := (mj_m_39, 19, [(0, .ref 0), (1, .int a)], [], mj_h0)) (mj_one_ifT mj_d_39_1 rfl (mj_cT_lt (rfl : (a).toInt = (a).toInt) (show ((0 : Int32)).toInt = 0 by decide) (by omega))) ?_
        refine mj_runs.step (S' := (mj_m_39, 20, [(0, .ref 0), (1, .int a)], [.int (0 : Int32)], mj_h0)) (mj_one_of mj_d_39_19 fun _ _ => rfl) ?_
        exact mj_runs.ret (mj_ret_of mj_d_39_20 fun _ _ => rfl)
      show mj_runs (mj_m_57, 5, [(0, .ref 0), (1, .int a)], [.int (0 : Int32)], mj_h0) _ _
      refine mj_runs.step (S' := (mj_m_57, 8, [(0, .ref 0), (1, .int a)], [], mj_h0)) (mj_one_of mj_d_57_5 fun _ _ => rfl) ?_
      refine mj_runs.step (S' := (mj_m_57, 10, [(0, .ref 0), (1, .int a)], [.int (Int32.ofInt (-1000000001))], mj_h0)) (mj_one_of mj_d_57_8 fun _ _ => rfl) ?_
      exact mj_runs.ret (mj_ret_of mj_d_57_10 fun _ _ => rfl)
    · refine mj_runs.step (S' := (mj_m_155, 1, [(0, .ref 234), (1, .int a)], [.ref 234], mj_h0)) (mj_one_of mj_d_155_0 fun _ _ => rfl) ?_
      refine mj_runs.step (S' := (mj_m_155, 2, [(0, .ref 234), (1, .int a)], [.int a, .ref 234], mj_h0)) (mj_one_of mj_d_155_1 fun _ _ => rfl) ?_
      refine mj_runs.call (S1 := (mj_m_140, 0, [(0, .ref 234), (1, .int a)], [], mj_h0)) (r1 := (some (.int (0 : Int32)))) (h1 := mj_h0) (mj_calls_v mj_d_155_2 rfl rfl rfl rfl rfl rfl ⟨Nat.le_of_ble_eq_true rfl, ⟨Nat.le_of_ble_eq_true rfl, Nat.le_of_ble_eq_true rfl, Nat.le_of_ble_eq_true rfl, Nat.le_of_ble_eq_true rfl, Nat.le_of_ble_eq_true rfl⟩⟩) ?_ ?_
      · refine mj_runs.step (S' := (mj_m_140, 1, [(0, .ref 234), (1, .int a)], [.int a], mj_h0)) (mj_one_of mj_d_140_0 fun _ _ => rfl) ?_
        refine mj_runs.step (S' := (mj_m_140, 2, [(0, .ref 234), (1, .int a)], [.long (a).toInt64], mj_h0)) (mj_one_of mj_d_140_1 fun _ _ => rfl) ?_
        refine mj_runs.step (S' := (mj_m_140, 3, [(0, .ref 234), (1, .int a)], [.long (0 : Int64), .long (a).toInt64], mj_h0)) (mj_one_of mj_d_140_2 fun _ _ => rfl) ?_
        refine mj_runs.step (S' := (mj_m_140, 4, [(0, .ref 234), (1, .int a)], [.ref 234, .long (0 : Int64), .long (a).toInt64], mj_h0)) (mj_one_of mj_d_140_3 fun _ _ => rfl) ?_
        refine mj_runs.step (S' := (mj_m_140, 7, [(0, .ref 234), (1, .int a)], [.int (0 : Int32), .long (0 : Int64), .long (a).toInt64], mj_h0)) (mj_one_of mj_d_140_4 fun _ _ => rfl) ?_
        refine mj_runs.step (S' := (mj_m_140, 8, [(0, .ref 234), (1, .int a)], [.int (1 : Int32), .int (0 : Int32), .long (0 : Int64), .long (a).toInt64], mj_h0)) (mj_one_of mj_d_140_7 fun _ _ => rfl) ?_
        refine mj_runs.step (S' := (mj_m_140, 9, [(0, .ref 234), (1, .int a)], [.int (Int32.ofInt (-1)), .long (0 : Int64), .long (a).toInt64], mj_h0)) (mj_one_of mj_d_140_8 fun _ _ => rfl) ?_
        refine mj_runs.step (S' := (mj_m_140, 10, [(0, .ref 234), (1, .int a)], [.long (Int64.ofInt (-1)), .long (0 : Int64), .long (a).toInt64], mj_h0)) (mj_one_of mj_d_140_9 fun _ _ => rfl) ?_
        refine mj_runs.call (S1 := (mj_m_125, 0, [(0, .long (a).toInt64), (2, .long (0 : Int64)), (4, .long (Int64.ofInt (-1)))], [], mj_h0)) (r1 := (some (.int (0 : Int32)))) (h1 := mj_h0) (mj_calls_s mj_d_140_10 rfl rfl rfl rfl ⟨Nat.le_of_ble_eq_true rfl, Nat.le_of_ble_eq_true rfl, Nat.le_of_ble_eq_true rfl, Nat.le_of_ble_eq_true rfl, Nat.le_of_ble_eq_true rfl⟩) ?_ ?_
        · refine mj_runs.step (S' := (mj_m_125, 1, [(0, .long (a).toInt64), (2, .long (0 : Int64)), (4, .long (Int64.ofInt (-1)))], [.long (a).toInt64], mj_h0)) (mj_one_of mj_d_125_0 fun _ _ => rfl) ?_
          refine mj_runs.step (S' := (mj_m_125, 2, [(0, .long (a).toInt64), (2, .long (0 : Int64)), (4, .long (Int64.ofInt (-1)))], [.long (0 : Int64), .long (a).toInt64], mj_h0)) (mj_one_of mj_d_125_1 fun _ _ => rfl) ?_
          refine mj_runs.step (S' := (mj_m_125, 3, [(0, .long (a).toInt64), (2, .long (0 : Int64)), (4, .long (Int64.ofInt (-1)))], [.int (lg_cmp (a).toInt64 (0 : Int64))], mj_h0)) (mj_one_of mj_d_125_2 fun _ _ => rfl) ?_
          refine mj_runs.step (S' := (mj_m_125, 17, [(0, .long (a).toInt64), (2, .long (0 : Int64)), (4, .long (Int64.ofInt (-1)))], [], mj_h0)) (mj_one_ifT mj_d_125_3 rfl (mj_lgT_lt (mj_l32 a) (show ((0 : Int64)).toInt = 0 by decide) (by omega))) ?_
          refine mj_runs.step (S' := (mj_m_125, 18, [(0, .long (a).toInt64), (2, .long (0 : Int64)), (4, .long (Int64.ofInt (-1)))], [.int (0 : Int32)], mj_h0)) (mj_one_of mj_d_125_17 fun _ _ => rfl) ?_
          exact mj_runs.ret (mj_ret_of mj_d_125_18 fun _ _ => rfl)
        show mj_runs (mj_m_140, 13, [(0, .ref 234), (1, .int a)], [.int (0 : Int32)], mj_h0) _ _
        exact mj_runs.ret (mj_ret_of mj_d_140_13 fun _ _ => rfl)
      show mj_runs (mj_m_155, 5, [(0, .ref 234), (1, .int a)], [.int (0 : Int32)], mj_h0) _ _
      refine mj_runs.step (S' := (mj_m_155, 8, [(0, .ref 234), (1, .int a)], [], mj_h0)) (mj_one_of mj_d_155_5 fun _ _ => rfl) ?_
      refine mj_runs.step (S' := (mj_m_155, 10, [(0, .ref 234), (1, .int a)], [.int (Int32.ofInt (-1000000001))], mj_h0)) (mj_one_of mj_d_155_8 fun _ _ => rfl) ?_
      exact mj_runs.ret (mj_ret_of mj_d_155_10 fun _ _ => rfl)
    · exact mj_sz0
  · refine ⟨(Int32.ofInt (-1000000001)), mj_h0, mj_h0, ?_, ?_, ?_⟩
    · refine mj_runs.step (S' := (mj_m_57, 1, [(0, .ref 0), (1, .int a)], [.ref 0], mj_h0)) (mj_one_of mj_d_57_0 fun _ _ => rfl) ?_
      refine mj_runs.step (S' := (mj_m_57, 2, [(0, .ref 0), (1, .int a)], [.int a, .ref 0], mj_h0)) (mj_one_of mj_d_57_1 fun _ _ => rfl) ?_
      refine mj_runs.call (S1 := (mj_m_39, 0, [(0, .ref 0), (1, .int a)], [], mj_h0)) (r1 := (some (.int (0 : Int32)))) (h1 := mj_h0) (mj_calls_v mj_d_57_2 rfl rfl rfl rfl rfl rfl ⟨Nat.le_of_ble_eq_true rfl, ⟨Nat.le_of_ble_eq_true rfl, Nat.le_of_ble_eq_true rfl, Nat.le_of_ble_eq_true rfl, Nat.le_of_ble_eq_true rfl, Nat.le_of_ble_eq_true rfl⟩⟩) ?_ ?_
      · refine mj_runs.step (S' := (mj_m_39, 1, [(0, .ref 0), (1, .int a)], [.int a], mj_h0)) (mj_one_of mj_d_39_0 fun _ _ => rfl) ?_
        refine mj_runs.step (S' := (mj_m_39, 4, [(0, .ref 0), (1, .int a)], [], mj_h0)) (mj_one_ifF mj_d_39_1 (t := 19) rfl (mj_cF_lt (rfl : (a).toInt = (a).toInt) (show ((0 : Int32)).toInt = 0 by decide) (by omega))) ?_
        refine mj_runs.step (S' := (mj_m_39, 5, [(0, .ref 0), (1, .int a)], [.int a], mj_h0)) (mj_one_of mj_d_39_4 fun _ _ => rfl) ?_
        refine mj_runs.step (S' := (mj_m_39, 6, [(0, .ref 0), (1, .int a)], [.ref 0, .int a], mj_h0)) (mj_one_of mj_d_39_5 fun _ _ => rfl) ?_
        refine mj_runs.step (S' := (mj_m_39, 9, [(0, .ref 0), (1, .int a)], [.ref 8, .int a], mj_h0)) (mj_one_of mj_d_39_6 fun _ _ => rfl) ?_
        refine mj_runs.step (S' := (mj_m_39, 12, [(0, .ref 0), (1, .int a)], [.int (0 : Int32), .int a], mj_h0)) (mj_one_of mj_d_39_9 fun _ _ => rfl) ?_
        refine mj_runs.step (S' := (mj_m_39, 19, [(0, .ref 0), (1, .int a)], [], mj_h0)) (mj_one_icmpT mj_d_39_12 rfl (mj_cT_ge (rfl : (a).toInt = (a).toInt) (show ((0 : Int32)).toInt = 0 by decide) (by omega))) ?_
        refine mj_runs.step (S' := (mj_m_39, 20, [(0, .ref 0), (1, .int a)], [.int (0 : Int32)], mj_h0)) (mj_one_of mj_d_39_19 fun _ _ => rfl) ?_
        exact mj_runs.ret (mj_ret_of mj_d_39_20 fun _ _ => rfl)
      show mj_runs (mj_m_57, 5, [(0, .ref 0), (1, .int a)], [.int (0 : Int32)], mj_h0) _ _
      refine mj_runs.step (S' := (mj_m_57, 8, [(0, .ref 0), (1, .int a)], [], mj_h0)) (mj_one_of mj_d_57_5 fun _ _ => rfl) ?_
      refine mj_runs.step (S' := (mj_m_57, 10, [(0, .ref 0), (1, .int a)], [.int (Int32.ofInt (-1000000001))], mj_h0)) (mj_one_of mj_d_57_8 fun _ _ => rfl) ?_
      exact mj_runs.ret (mj_ret_of mj_d_57_10 fun _ _ => rfl)
    · refine mj_runs.step (S' := (mj_m_155, 1, [(0, .ref 234), (1, .int a)], [.ref 234], mj_h0)) (mj_one_of mj_d_155_0 fun _ _ => rfl) ?_
      refine mj_runs.step (S' := (mj_m_155, 2, [(0, .ref 234), (1, .int a)], [.int a, .ref 234], mj_h0)) (mj_one_of mj_d_155_1 fun _ _ => rfl) ?_
      refine mj_runs.call (S1 := (mj_m_140, 0, [(0, .ref 234), (1, .int a)], [], mj_h0)) (r1 := (some (.int (0 : Int32)))) (h1 := mj_h0) (mj_calls_v mj_d_155_2 rfl rfl rfl rfl rfl rfl ⟨Nat.le_of_ble_eq_true rfl, ⟨Nat.le_of_ble_eq_true rfl, Nat.le_of_ble_eq_true rfl, Nat.le_of_ble_eq_true rfl, Nat.le_of_ble_eq_true rfl, Nat.le_of_ble_eq_true rfl⟩⟩) ?_ ?_
      · refine mj_runs.step (S' := (mj_m_140, 1, [(0, .ref 234), (1, .int a)], [.int a], mj_h0)) (mj_one_of mj_d_140_0 fun _ _ => rfl) ?_
        refine mj_runs.step (S' := (mj_m_140, 2, [(0, .ref 234), (1, .int a)], [.long (a).toInt64], mj_h0)) (mj_one_of mj_d_140_1 fun _ _ => rfl) ?_
        refine mj_runs.step (S' := (mj_m_140, 3, [(0, .ref 234), (1, .int a)], [.long (0 : Int64), .long (a).toInt64], mj_h0)) (mj_one_of mj_d_140_2 fun _ _ => rfl) ?_
        refine mj_runs.step (S' := (mj_m_140, 4, [(0, .ref 234), (1, .int a)], [.ref 234, .long (0 : Int64), .long (a).toInt64], mj_h0)) (mj_one_of mj_d_140_3 fun _ _ => rfl) ?_
        refine mj_runs.step (S' := (mj_m_140, 7, [(0, .ref 234), (1, .int a)], [.int (0 : Int32), .long (0 : Int64), .long (a).toInt64], mj_h0)) (mj_one_of mj_d_140_4 fun _ _ => rfl) ?_
        refine mj_runs.step (S' := (mj_m_140, 8, [(0, .ref 234), (1, .int a)], [.int (1 : Int32), .int (0 : Int32), .long (0 : Int64), .long (a).toInt64], mj_h0)) (mj_one_of mj_d_140_7 fun _ _ => rfl) ?_
        refine mj_runs.step (S' := (mj_m_140, 9, [(0, .ref 234), (1, .int a)], [.int (Int32.ofInt (-1)), .long (0 : Int64), .long (a).toInt64], mj_h0)) (mj_one_of mj_d_140_8 fun _ _ => rfl) ?_
        refine mj_runs.step (S' := (mj_m_140, 10, [(0, .ref 234), (1, .int a)], [.long (Int64.ofInt (-1)), .long (0 : Int64), .long (a).toInt64], mj_h0)) (mj_one_of mj_d_140_9 fun _ _ => rfl) ?_
        refine mj_runs.call (S1 := (mj_m_125, 0, [(0, .long (a).toInt64), (2, .long (0 : Int64)), (4, .long (Int64.ofInt (-1)))], [], mj_h0)) (r1 := (some (.int (0 : Int32)))) (h1 := mj_h0) (mj_calls_s mj_d_140_10 rfl rfl rfl rfl ⟨Nat.le_of_ble_eq_true rfl, Nat.le_of_ble_eq_true rfl, Nat.le_of_ble_eq_true rfl, Nat.le_of_ble_eq_true rfl, Nat.le_of_ble_eq_true rfl⟩) ?_ ?_
        · refine mj_runs.step (S' := (mj_m_125, 1, [(0, .long (a).toInt64), (2, .long (0 : Int64)), (4, .long (Int64.ofInt (-1)))], [.long (a).toInt64], mj_h0)) (mj_one_of mj_d_125_0 fun _ _ => rfl) ?_
          refine mj_runs.step (S' := (mj_m_125, 2, [(0, .long (a).toInt64), (2, .long (0 : Int64)), (4, .long (Int64.ofInt (-1)))], [.long (0 : Int64), .long (a).toInt64], mj_h0)) (mj_one_of mj_d_125_1 fun _ _ => rfl) ?_
          refine mj_runs.step (S' := (mj_m_125, 3, [(0, .long (a).toInt64), (2, .long (0 : Int64)), (4, .long (Int64.ofInt (-1)))], [.int (lg_cmp (a).toInt64 (0 : Int64))], mj_h0)) (mj_one_of mj_d_125_2 fun _ _ => rfl) ?_
          refine mj_runs.step (S' := (mj_m_125, 6, [(0, .long (a).toInt64), (2, .long (0 : Int64)), (4, .long (Int64.ofInt (-1)))], [], mj_h0)) (mj_one_ifF mj_d_125_3 (t := 17) rfl (mj_lgF_lt (mj_l32 a) (show ((0 : Int64)).toInt = 0 by decide) (by omega))) ?_
          refine mj_runs.step (S' := (mj_m_125, 7, [(0, .long (a).toInt64), (2, .long (0 : Int64)), (4, .long (Int64.ofInt (-1)))], [.long (a).toInt64], mj_h0)) (mj_one_of mj_d_125_6 fun _ _ => rfl) ?_
          refine mj_runs.step (S' := (mj_m_125, 9, [(0, .long (a).toInt64), (2, .long (0 : Int64)), (4, .long (Int64.ofInt (-1)))], [.long (Int64.ofInt (-1)), .long (a).toInt64], mj_h0)) (mj_one_of mj_d_125_7 fun _ _ => rfl) ?_
          refine mj_runs.step (S' := (mj_m_125, 10, [(0, .long (a).toInt64), (2, .long (0 : Int64)), (4, .long (Int64.ofInt (-1)))], [.int (lg_cmp (a).toInt64 (Int64.ofInt (-1)))], mj_h0)) (mj_one_of mj_d_125_9 fun _ _ => rfl) ?_
          refine mj_runs.step (S' := (mj_m_125, 17, [(0, .long (a).toInt64), (2, .long (0 : Int64)), (4, .long (Int64.ofInt (-1)))], [], mj_h0)) (mj_one_ifT mj_d_125_10 rfl (mj_lgT_gt (mj_l32 a) (show ((Int64.ofInt (-1))).toInt = -1 by decide) (by omega))) ?_
          refine mj_runs.step (S' := (mj_m_125, 18, [(0, .long (a).toInt64), (2, .long (0 : Int64)), (4, .long (Int64.ofInt (-1)))], [.int (0 : Int32)], mj_h0)) (mj_one_of mj_d_125_17 fun _ _ => rfl) ?_
          exact mj_runs.ret (mj_ret_of mj_d_125_18 fun _ _ => rfl)
        show mj_runs (mj_m_140, 13, [(0, .ref 234), (1, .int a)], [.int (0 : Int32)], mj_h0) _ _
        exact mj_runs.ret (mj_ret_of mj_d_140_13 fun _ _ => rfl)
      show mj_runs (mj_m_155, 5, [(0, .ref 234), (1, .int a)], [.int (0 : Int32)], mj_h0) _ _
      refine mj_runs.step (S' := (mj_m_155, 8, [(0, .ref 234), (1, .int a)], [], mj_h0)) (mj_one_of mj_d_155_5 fun _ _ => rfl) ?_
      refine mj_runs.step (S' := (mj_m_155, 10, [(0, .ref 234), (1, .int a)], [.int (Int32.ofInt (-1000000001))], mj_h0)) (mj_one_of mj_d_155_8 fun _ _ => rfl) ?_
      exact mj_runs.ret (mj_ret_of mj_d_155_10 fun _ _ => rfl)
    · exact mj_sz0
set_option maxRecDepth 1000000 in
set_option maxHeartbeats 4000000 in
theorem mj_op_run (a b : Int32) : ∃ (r : Int32) (h1 h2 : mj_H), mj_runs (mj_m_58, 0, [(0, .ref 0), (1, .int a), (2, .int b)], [], mj_h0) (some (.int r)) h1 ∧ mj_runs (mj_m_156, 0, [(0, .ref 234), (1, .int a), (2, .int b)], [], h1) (some (.int r)) h2 ∧ mj_sz h2 := by
  by_cases c0 : a.toInt < 0
  · refine ⟨(Int32.ofInt (-1000000001)), mj_h0, mj_h0, ?_, ?_, ?_⟩
    · refine mj_runs.step (S' := (mj_m_58, 1, [(0, .ref 0), (1, .int a), (2, .int b)], [.ref 0], mj_h0)) (mj_one_of mj_d_58_0 fun _ _ => rfl) ?_
      refine mj_runs.step (S' := (mj_m_58, 2, [(0, .ref 0), (1, .int a), (2, .int b)], [.int a, .ref 0], mj_h0)) (mj_one_of mj_d_58_1 fun _ _ => rfl) ?_
      refine mj_runs.call (S1 := (mj_m_39, 0, [(0, .ref 0), (1, .int a)], [], mj_h0)) (r1 := (some (.int (0 : Int32)))) (h1 := mj_h0) (mj_calls_v mj_d_58_2 rfl rfl rfl rfl rfl rfl ⟨Nat.le_of_ble_eq_true rfl, ⟨Nat.le_of_ble_eq_true rfl, Nat.le_of_ble_eq_true rfl, Nat.le_of_ble_eq_true rfl, Nat.le_of_ble_eq_true rfl, Nat.le_of_ble_eq_true rfl⟩⟩) ?_ ?_
      · refine mj_runs.step (S' := (mj_m_39, 1, [(0, .ref 0), (1, .int a)], [.int a], mj_h0)) (mj_one_of mj_d_39_0 fun _ _ => rfl) ?_
        refine mj_runs.step (S' := (mj_m_39, 19, [(0, .ref 0), (1, .int a)], [], mj_h0)) (mj_one_ifT mj_d_39_1 rfl (mj_cT_lt (rfl : (a).toInt = (a).toInt) (show ((0 : Int32)).toInt = 0 by decide) (by omega))) ?_
        refine mj_runs.step (S' := (mj_m_39, 20, [(0, .ref 0), (1, .int a)], [.int (0 : Int32)], mj_h0)) (mj_one_of mj_d_39_19 fun _ _ => rfl) ?_
        exact mj_runs.ret (mj_ret_of mj_d_39_20 fun _ _ => rfl)
      show mj_runs (mj_m_58, 5, [(0, .ref 0), (1, .int a), (2, .int b)], [.int (0 : Int32)], mj_h0) _ _
      refine mj_runs.step (S' := (mj_m_58, 18, [(0, .ref 0), (1, .int a), (2, .int b)], [], mj_h0)) (mj_one_of mj_d_58_5 fun _ _ => rfl) ?_
      refine mj_runs.step (S' := (mj_m_58, 20, [(0, .ref 0), (1, .int a), (2, .int b)], [.int (Int32.ofInt (-1000000001))], mj_h0)) (mj_one_of mj_d_58_18 fun _ _ => rfl) ?_
      exact mj_runs.ret (mj_ret_of mj_d_58_20 fun _ _ => rfl)
    · refine mj_runs.step (S' := (mj_m_156, 1, [(0, .ref 234), (1, .int a), (2, .int b)], [.ref 234], mj_h0)) (mj_one_of mj_d_156_0 fun _ _ => rfl) ?_
      refine mj_runs.step (S' := (mj_m_156, 2, [(0, .ref 234), (1, .int a), (2, .int b)], [.int a, .ref 234], mj_h0)) (mj_one_of mj_d_156_1 fun _ _ => rfl) ?_
      refine mj_runs.call (S1 := (mj_m_140, 0, [(0, .ref 234), (1, .int a)], [], mj_h0)) (r1 := (some (.int (0 : Int32)))) (h1 := mj_h0) (mj_calls_v mj_d_156_2 rfl rfl rfl rfl rfl rfl ⟨Nat.le_of_ble_eq_true rfl, ⟨Nat.le_of_ble_eq_true rfl, Nat.le_of_ble_eq_true rfl, Nat.le_of_ble_eq_true rfl, Nat.le_of_ble_eq_true rfl, Nat.le_of_ble_eq_true rfl⟩⟩) ?_ ?_
      · refine mj_runs.step (S' := (mj_m_140, 1, [(0, .ref 234), (1, .int a)], [.int a], mj_h0)) (mj_one_of mj_d_140_0 fun _ _ => rfl) ?_
        refine mj_runs.step (S' := (mj_m_140, 2, [(0, .ref 234), (1, .int a)], [.long (a).toInt64], mj_h0)) (mj_one_of mj_d_140_1 fun _ _ => rfl) ?_
        refine mj_runs.step (S' := (mj_m_140, 3, [(0, .ref 234), (1, .int a)], [.long (0 : Int64), .long (a).toInt64], mj_h0)) (mj_one_of mj_d_140_2 fun _ _ => rfl) ?_
        refine mj_runs.step (S' := (mj_m_140, 4, [(0, .ref 234), (1, .int a)], [.ref 234, .long (0 : Int64), .long (a).toInt64], mj_h0)) (mj_one_of mj_d_140_3 fun _ _ => rfl) ?_
        refine mj_runs.step (S' := (mj_m_140, 7, [(0, .ref 234), (1, .int a)], [.int (0 : Int32), .long (0 : Int64), .long (a).toInt64], mj_h0)) (mj_one_of mj_d_140_4 fun _ _ => rfl) ?_
        refine mj_runs.step (S' := (mj_m_140, 8, [(0, .ref 234), (1, .int a)], [.int (1 : Int32), .int (0 : Int32), .long (0 : Int64), .long (a).toInt64], mj_h0)) (mj_one_of mj_d_140_7 fun _ _ => rfl) ?_
        refine mj_runs.step (S' := (mj_m_140, 9, [(0, .ref 234), (1, .int a)], [.int (Int32.ofInt (-1)), .long (0 : Int64), .long (a).toInt64], mj_h0)) (mj_one_of mj_d_140_8 fun _ _ => rfl) ?_
        refine mj_runs.step (S' := (mj_m_140, 10, [(0, .ref 234), (1, .int a)], [.long (Int64.ofInt (-1)), .long (0 : Int64), .long (a).toInt64], mj_h0)) (mj_one_of mj_d_140_9 fun _ _ => rfl) ?_
        refine mj_runs.call (S1 := (mj_m_125, 0, [(0, .long (a).toInt64), (2, .long (0 : Int64)), (4, .long (Int64.ofInt (-1)))], [], mj_h0)) (r1 := (some (.int (0 : Int32)))) (h1 := mj_h0) (mj_calls_s mj_d_140_10 rfl rfl rfl rfl ⟨Nat.le_of_ble_eq_true rfl, Nat.le_of_ble_eq_true rfl, Nat.le_of_ble_eq_true rfl, Nat.le_of_ble_eq_true rfl, Nat.le_of_ble_eq_true rfl⟩) ?_ ?_
        · refine mj_runs.step (S' := (mj_m_125, 1, [(0, .long (a).toInt64), (2, .long (0 : Int64)), (4, .long (Int64.ofInt (-1)))], [.long (a).toInt64], mj_h0)) (mj_one_of mj_d_125_0 fun _ _ => rfl) ?_
          refine mj_runs.step (S' := (mj_m_125, 2, [(0, .long (a).toInt64), (2, .long (0 : Int64)), (4, .long (Int64.ofInt (-1)))], [.long (0 : Int64), .long (a).toInt64], mj_h0)) (mj_one_of mj_d_125_1 fun _ _ => rfl) ?_
          refine mj_runs.step (S' := (mj_m_125, 3, [(0, .long (a).toInt64), (2, .long (0 : Int64)), (4, .long (Int64.ofInt (-1)))], [.int (lg_cmp (a).toInt64 (0 : Int64))], mj_h0)) (mj_one_of mj_d_125_2 fun _ _ => rfl) ?_
          refine mj_runs.step (S' := (mj_m_125, 17, [(0, .long (a).toInt64), (2, .long (0 : Int64)), (4, .long (Int64.ofInt (-1)))], [], mj_h0)) (mj_one_ifT mj_d_125_3 rfl (mj_lgT_lt (mj_l32 a) (show ((0 : Int64)).toInt = 0 by decide) (by omega))) ?_
          refine mj_runs.step (S' := (mj_m_125, 18, [(0, .long (a).toInt64), (2, .long (0 : Int64)), (4, .long (Int64.ofInt (-1)))], [.int (0 : Int32)], mj_h0)) (mj_one_of mj_d_125_17 fun _ _ => rfl) ?_
          exact mj_runs.ret (mj_ret_of mj_d_125_18 fun _ _ => rfl)
        show mj_runs (mj_m_140, 13, [(0, .ref 234), (1, .int a)], [.int (0 : Int32)], mj_h0) _ _
        exact mj_runs.ret (mj_ret_of mj_d_140_13 fun _ _ => rfl)
      show mj_runs (mj_m_156, 5, [(0, .ref 234), (1, .int a), (2, .int b)], [.int (0 : Int32)], mj_h0) _ _
      refine mj_runs.step (S' := (mj_m_156, 23, [(0, .ref 234), (1, .int a), (2, .int b)], [], mj_h0)) (mj_one_of mj_d_156_5 fun _ _ => rfl) ?_
      refine mj_runs.step (S' := (mj_m_156, 25, [(0, .ref 234), (1, .int a), (2, .int b)], [.int (Int32.ofInt (-1000000001))], mj_h0)) (mj_one_of mj_d_156_23 fun _ _ => rfl) ?_
      exact mj_runs.ret (mj_ret_of mj_d_156_25 fun _ _ => rfl)
    · exact mj_sz0
  · refine ⟨(Int32.ofInt (-1000000001)), mj_h0, mj_h0, ?_, ?_, ?_⟩
    · refine mj_runs.step (S' := (mj_m_58, 1, [(0, .ref 0), (1, .int a), (2, .int b)], [.ref 0], mj_h0)) (mj_one_of mj_d_58_0 fun _ _ => rfl) ?_
      refine mj_runs.step (S' := (mj_m_58, 2, [(0, .ref 0), (1, .int a), (2, .int b)], [.int a, .ref 0], mj_h0)) (mj_one_of mj_d_58_1 fun _ _ => rfl) ?_
      refine mj_runs.call (S1 := (mj_m_39, 0, [(0, .ref 0), (1, .int a)], [], mj_h0)) (r1 := (some (.int (0 : Int32)))) (h1 := mj_h0) (mj_calls_v mj_d_58_2 rfl rfl rfl rfl rfl rfl ⟨Nat.le_of_ble_eq_true rfl, ⟨Nat.le_of_ble_eq_true rfl, Nat.le_of_ble_eq_true rfl, Nat.le_of_ble_eq_true rfl, Nat.le_of_ble_eq_true rfl, Nat.le_of_ble_eq_true rfl⟩⟩) ?_ ?_
      · refine mj_runs.step (S' := (mj_m_39, 1, [(0, .ref 0), (1, .int a)], [.int a], mj_h0)) (mj_one_of mj_d_39_0 fun _ _ => rfl) ?_
        refine mj_runs.step (S' := (mj_m_39, 4, [(0, .ref 0), (1, .int a)], [], mj_h0)) (mj_one_ifF mj_d_39_1 (t := 19) rfl (mj_cF_lt (rfl : (a).toInt = (a).toInt) (show ((0 : Int32)).toInt = 0 by decide) (by omega))) ?_
        refine mj_runs.step (S' := (mj_m_39, 5, [(0, .ref 0), (1, .int a)], [.int a], mj_h0)) (mj_one_of mj_d_39_4 fun _ _ => rfl) ?_
        refine mj_runs.step (S' := (mj_m_39, 6, [(0, .ref 0), (1, .int a)], [.ref 0, .int a], mj_h0)) (mj_one_of mj_d_39_5 fun _ _ => rfl) ?_
        refine mj_runs.step (S' := (mj_m_39, 9, [(0, .ref 0), (1, .int a)], [.ref 8, .int a], mj_h0)) (mj_one_of mj_d_39_6 fun _ _ => rfl) ?_
        refine mj_runs.step (S' := (mj_m_39, 12, [(0, .ref 0), (1, .int a)], [.int (0 : Int32), .int a], mj_h0)) (mj_one_of mj_d_39_9 fun _ _ => rfl) ?_
        refine mj_runs.step (S' := (mj_m_39, 19, [(0, .ref 0), (1, .int a)], [], mj_h0)) (mj_one_icmpT mj_d_39_12 rfl (mj_cT_ge (rfl : (a).toInt = (a).toInt) (show ((0 : Int32)).toInt = 0 by decide) (by omega))) ?_
        refine mj_runs.step (S' := (mj_m_39, 20, [(0, .ref 0), (1, .int a)], [.int (0 : Int32)], mj_h0)) (mj_one_of mj_d_39_19 fun _ _ => rfl) ?_
        exact mj_runs.ret (mj_ret_of mj_d_39_20 fun _ _ => rfl)
      show mj_runs (mj_m_58, 5, [(0, .ref 0), (1, .int a), (2, .int b)], [.int (0 : Int32)], mj_h0) _ _
      refine mj_runs.step (S' := (mj_m_58, 18, [(0, .ref 0), (1, .int a), (2, .int b)], [], mj_h0)) (mj_one_of mj_d_58_5 fun _ _ => rfl) ?_
      refine mj_runs.step (S' := (mj_m_58, 20, [(0, .ref 0), (1, .int a), (2, .int b)], [.int (Int32.ofInt (-1000000001))], mj_h0)) (mj_one_of mj_d_58_18 fun _ _ => rfl) ?_
      exact mj_runs.ret (mj_ret_of mj_d_58_20 fun _ _ => rfl)
    · refine mj_runs.step (S' := (mj_m_156, 1, [(0, .ref 234), (1, .int a), (2, .int b)], [.ref 234], mj_h0)) (mj_one_of mj_d_156_0 fun _ _ => rfl) ?_
      refine mj_runs.step (S' := (mj_m_156, 2, [(0, .ref 234), (1, .int a), (2, .int b)], [.int a, .ref 234], mj_h0)) (mj_one_of mj_d_156_1 fun _ _ => rfl) ?_
      refine mj_runs.call (S1 := (mj_m_140, 0, [(0, .ref 234), (1, .int a)], [], mj_h0)) (r1 := (some (.int (0 : Int32)))) (h1 := mj_h0) (mj_calls_v mj_d_156_2 rfl rfl rfl rfl rfl rfl ⟨Nat.le_of_ble_eq_true rfl, ⟨Nat.le_of_ble_eq_true rfl, Nat.le_of_ble_eq_true rfl, Nat.le_of_ble_eq_true rfl, Nat.le_of_ble_eq_true rfl, Nat.le_of_ble_eq_true rfl⟩⟩) ?_ ?_
      · refine mj_runs.step (S' := (mj_m_140, 1, [(0, .ref 234), (1, .int a)], [.int a], mj_h0)) (mj_one_of mj_d_140_0 fun _ _ => rfl) ?_
        refine mj_runs.step (S' := (mj_m_140, 2, [(0, .ref 234), (1, .int a)], [.long (a).toInt64], mj_h0)) (mj_one_of mj_d_140_1 fun _ _ => rfl) ?_
        refine mj_runs.step (S' := (mj_m_140, 3, [(0, .ref 234), (1, .int a)], [.long (0 : Int64), .long (a).toInt64], mj_h0)) (mj_one_of mj_d_140_2 fun _ _ => rfl) ?_
        refine mj_runs.step (S' := (mj_m_140, 4, [(0, .ref 234), (1, .int a)], [.ref 234, .long (0 : Int64), .long (a).toInt64], mj_h0)) (mj_one_of mj_d_140_3 fun _ _ => rfl) ?_
        refine mj_runs.step (S' := (mj_m_140, 7, [(0, .ref 234), (1, .int a)], [.int (0 : Int32), .long (0 : Int64), .long (a).toInt64], mj_h0)) (mj_one_of mj_d_140_4 fun _ _ => rfl) ?_
        refine mj_runs.step (S' := (mj_m_140, 8, [(0, .ref 234), (1, .int a)], [.int (1 : Int32), .int (0 : Int32), .long (0 : Int64), .long (a).toInt64], mj_h0)) (mj_one_of mj_d_140_7 fun _ _ => rfl) ?_
        refine mj_runs.step (S' := (mj_m_140, 9, [(0, .ref 234), (1, .int a)], [.int (Int32.ofInt (-1)), .long (0 : Int64), .long (a).toInt64], mj_h0)) (mj_one_of mj_d_140_8 fun _ _ => rfl) ?_
        refine mj_runs.step (S' := (mj_m_140, 10, [(0, .ref 234), (1, .int a)], [.long (Int64.ofInt (-1)), .long (0 : Int64), .long (a).toInt64], mj_h0)) (mj_one_of mj_d_140_9 fun _ _ => rfl) ?_
        refine mj_runs.call (S1 := (mj_m_125, 0, [(0, .long (a).toInt64), (2, .long (0 : Int64)), (4, .long (Int64.ofInt (-1)))], [], mj_h0)) (r1 := (some (.int (0 : Int32)))) (h1 := mj_h0) (mj_calls_s mj_d_140_10 rfl rfl rfl rfl ⟨Nat.le_of_ble_eq_true rfl, Nat.le_of_ble_eq_true rfl, Nat.le_of_ble_eq_true rfl, Nat.le_of_ble_eq_true rfl, Nat.le_of_ble_eq_true rfl⟩) ?_ ?_
        · refine mj_runs.step (S' := (mj_m_125, 1, [(0, .long (a).toInt64), (2, .long (0 : Int64)), (4, .long (Int64.ofInt (-1)))], [.long (a).toInt64], mj_h0)) (mj_one_of mj_d_125_0 fun _ _ => rfl) ?_
          refine mj_runs.step (S' := (mj_m_125, 2, [(0, .long (a).toInt64), (2, .long (0 : Int64)), (4, .long (Int64.ofInt (-1)))], [.long (0 : Int64), .long (a).toInt64], mj_h0)) (mj_one_of mj_d_125_1 fun _ _ => rfl) ?_
          refine mj_runs.step (S' := (mj_m_125, 3, [(0, .long (a).toInt64), (2, .long (0 : Int64)), (4, .long (Int64.ofInt (-1)))], [.int (lg_cmp (a).toInt64 (0 : Int64))], mj_h0)) (mj_one_of mj_d_125_2 fun _ _ => rfl) ?_
          refine mj_runs.step (S' := (mj_m_125, 6, [(0, .long (a).toInt64), (2, .long (0 : Int64)), (4, .long (Int64.ofInt (-1)))], [], mj_h0)) (mj_one_ifF mj_d_125_3 (t := 17) rfl (mj_lgF_lt (mj_l32 a) (show ((0 : Int64)).toInt = 0 by decide) (by omega))) ?_
          refine mj_runs.step (S' := (mj_m_125, 7, [(0, .long (a).toInt64), (2, .long (0 : Int64)), (4, .long (Int64.ofInt (-1)))], [.long (a).toInt64], mj_h0)) (mj_one_of mj_d_125_6 fun _ _ => rfl) ?_
          refine mj_runs.step (S' := (mj_m_125, 9, [(0, .long (a).toInt64), (2, .long (0 : Int64)), (4, .long (Int64.ofInt (-1)))], [.long (Int64.ofInt (-1)), .long (a).toInt64], mj_h0)) (mj_one_of mj_d_125_7 fun _ _ => rfl) ?_
          refine mj_runs.step (S' := (mj_m_125, 10, [(0, .long (a).toInt64), (2, .long (0 : Int64)), (4, .long (Int64.ofInt (-1)))], [.int (lg_cmp (a).toInt64 (Int64.ofInt (-1)))], mj_h0)) (mj_one_of mj_d_125_9 fun _ _ => rfl) ?_
          refine mj_runs.step (S' := (mj_m_125, 17, [(0, .long (a).toInt64), (2, .long (0 : Int64)), (4, .long (Int64.ofInt (-1)))], [], mj_h0)) (mj_one_ifT mj_d_125_10 rfl (mj_lgT_gt (mj_l32 a) (show ((Int64.ofInt (-1))).toInt = -1 by decide) (by omega))) ?_
          refine mj_runs.step (S' := (mj_m_125, 18, [(0, .long (a).toInt64), (2, .long (0 : Int64)), (4, .long (Int64.ofInt (-1)))], [.int (0 : Int32)], mj_h0)) (mj_one_of mj_d_125_17 fun _ _ => rfl) ?_
          exact mj_runs.ret (mj_ret_of mj_d_125_18 fun _ _ => rfl)
        show mj_runs (mj_m_140, 13, [(0, .ref 234), (1, .int a)], [.int (0 : Int32)], mj_h0) _ _
        exact mj_runs.ret (mj_ret_of mj_d_140_13 fun _ _ => rfl)
      show mj_runs (mj_m_156, 5, [(0, .ref 234), (1, .int a), (2, .int b)], [.int (0 : Int32)], mj_h0) _ _
      refine mj_runs.step (S' := (mj_m_156, 23, [(0, .ref 234), (1, .int a), (2, .int b)], [], mj_h0)) (mj_one_of mj_d_156_5 fun _ _ => rfl) ?_
      refine mj_runs.step (S' := (mj_m_156, 25, [(0, .ref 234), (1, .int a), (2, .int b)], [.int (Int32.ofInt (-1000000001))], mj_h0)) (mj_one_of mj_d_156_23 fun _ _ => rfl) ?_
      exact mj_runs.ret (mj_ret_of mj_d_156_25 fun _ _ => rfl)
    · exact mj_sz0
