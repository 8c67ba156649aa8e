set_option maxRecDepth 1000000 in
set_option maxHeartbeats 4000000 in
theorem mj_op_swap (a b c d : Int32) : ∃ (r : Int32) (h1 h2 : mj_H), mj_runs (mj_m_59, 0, [(0, .ref 0), (1, .int a), (2, .int b), (3, .int c), (4, .int d)], [], mj_h0) (some (.int r)) h1 ∧ mj_runs (mj_m_157, 0, [(0, .ref 234), (1, .int a), (2, .int b), (3, .int c), (4, .int d)], [], h1) (some (.int r)) h2 ∧ mj_sz h2 := by
  by_cases c0 : a.toInt < 0
  · refine ⟨(Int32.ofInt (-1000000001)), mj_h0, mj_h0, ?_, ?_, ?_⟩
    · refine mj_runs.step (S' := (mj_m_59, 1, [(0, .ref 0), (1, .int a), (2, .int b), (3, .int c), (4, .int d)], [.ref 0], mj_h0)) (mj_one_of mj_d_59_0 fun _ _ => rfl) ?_
      refine mj_runs.step (S' := (mj_m_59, 2, [(0, .ref 0), (1, .int a), (2, .int b), (3, .int c), (4, .int d)], [.int a, .ref 0], mj_h0)) (mj_one_of mj_d_59_1 fun _ _ => rfl) ?_
      refine mj_runs.step (S' := (mj_m_59, 3, [(0, .ref 0), (1, .int a), (2, .int b), (3, .int c), (4, .int d)], [.int c, .int a, .ref 0], mj_h0)) (mj_one_of mj_d_59_2 fun _ _ => rfl) ?_
      refine mj_runs.call (S1 := (mj_m_60, 0, [(0, .ref 0), (1, .int a), (2, .int c)], [], mj_h0)) (r1 := (some (.int (0 : Int32)))) (h1 := mj_h0) (mj_calls_v mj_d_59_3 rfl rfl rfl rfl rfl rfl ⟨Nat.le_of_ble_eq_true rfl, ⟨Nat.le_of_ble_eq_true rfl, Nat.le_of_ble_eq_true rfl, Nat.le_of_ble_eq_true rfl, Nat.le_of_ble_eq_true rfl, Nat.le_of_ble_eq_true rfl⟩⟩) ?_ ?_
      · refine mj_runs.step (S' := (mj_m_60, 1, [(0, .ref 0), (1, .int a), (2, .int c)], [.ref 0], mj_h0)) (mj_one_of mj_d_60_0 fun _ _ => rfl) ?_
        refine mj_runs.step (S' := (mj_m_60, 2, [(0, .ref 0), (1, .int a), (2, .int c)], [.int a, .ref 0], mj_h0)) (mj_one_of mj_d_60_1 fun _ _ => rfl) ?_
        refine mj_runs.call (S1 := (mj_m_44, 0, [(0, .ref 0), (1, .int a)], [], mj_h0)) (r1 := (some (.int (0 : Int32)))) (h1 := mj_h0) (mj_calls_v mj_d_60_2 rfl rfl rfl rfl rfl rfl ⟨Nat.le_of_ble_eq_true rfl, ⟨Nat.le_of_ble_eq_true rfl, Nat.le_of_ble_eq_true rfl, Nat.le_of_ble_eq_true rfl, Nat.le_of_ble_eq_true rfl, Nat.le_of_ble_eq_true rfl⟩⟩) ?_ ?_
        · refine mj_runs.step (S' := (mj_m_44, 1, [(0, .ref 0), (1, .int a)], [.int a], mj_h0)) (mj_one_of mj_d_44_0 fun _ _ => rfl) ?_
          refine mj_runs.step (S' := (mj_m_44, 19, [(0, .ref 0), (1, .int a)], [], mj_h0)) (mj_one_ifT mj_d_44_1 rfl (mj_cT_lt (rfl : (a).toInt = (a).toInt) (show ((0 : Int32)).toInt = 0 by decide) (by omega))) ?_
          refine mj_runs.step (S' := (mj_m_44, 20, [(0, .ref 0), (1, .int a)], [.int (0 : Int32)], mj_h0)) (mj_one_of mj_d_44_19 fun _ _ => rfl) ?_
          exact mj_runs.ret (mj_ret_of mj_d_44_20 fun _ _ => rfl)
        show mj_runs (mj_m_60, 5, [(0, .ref 0), (1, .int a), (2, .int c)], [.int (0 : Int32)], mj_h0) _ _
        refine mj_runs.step (S' := (mj_m_60, 25, [(0, .ref 0), (1, .int a), (2, .int c)], [], mj_h0)) (mj_one_of mj_d_60_5 fun _ _ => rfl) ?_
        refine mj_runs.step (S' := (mj_m_60, 26, [(0, .ref 0), (1, .int a), (2, .int c)], [.int (0 : Int32)], mj_h0)) (mj_one_of mj_d_60_25 fun _ _ => rfl) ?_
        exact mj_runs.ret (mj_ret_of mj_d_60_26 fun _ _ => rfl)
      show mj_runs (mj_m_59, 6, [(0, .ref 0), (1, .int a), (2, .int b), (3, .int c), (4, .int d)], [.int (0 : Int32)], mj_h0) _ _
      refine mj_runs.step (S' := (mj_m_59, 32, [(0, .ref 0), (1, .int a), (2, .int b), (3, .int c), (4, .int d)], [], mj_h0)) (mj_one_of mj_d_59_6 fun _ _ => rfl) ?_
      refine mj_runs.step (S' := (mj_m_59, 34, [(0, .ref 0), (1, .int a), (2, .int b), (3, .int c), (4, .int d)], [.int (Int32.ofInt (-1000000001))], mj_h0)) (mj_one_of mj_d_59_32 fun _ _ => rfl) ?_
      exact mj_runs.ret (mj_ret_of mj_d_59_34 fun _ _ => rfl)
    · refine mj_runs.step (S' := (mj_m_157, 1, [(0, .ref 234), (1, .int a), (2, .int b), (3, .int c), (4, .int d)], [.ref 234], mj_h0)) (mj_one_of mj_d_157_0 fun _ _ => rfl) ?_
      refine mj_runs.step (S' := (mj_m_157, 2, [(0, .ref 234), (1, .int a), (2, .int b), (3, .int c), (4, .int d)], [.int a, .ref 234], mj_h0)) (mj_one_of mj_d_157_1 fun _ _ => rfl) ?_
      refine mj_runs.step (S' := (mj_m_157, 3, [(0, .ref 234), (1, .int a), (2, .int b), (3, .int c), (4, .int d)], [.int c, .int a, .ref 234], mj_h0)) (mj_one_of mj_d_157_2 fun _ _ => rfl) ?_
      refine mj_runs.call (S1 := (mj_m_158, 0, [(0, .ref 234), (1, .int a), (2, .int c)], [], mj_h0)) (r1 := (some (.int (0 : Int32)))) (h1 := mj_h0) (mj_calls_v mj_d_157_3 rfl rfl rfl rfl rfl rfl ⟨Nat.le_of_ble_eq_true rfl, ⟨Nat.le_of_ble_eq_true rfl, Nat.le_of_ble_eq_true rfl, Nat.le_of_ble_eq_true rfl, Nat.le_of_ble_eq_true rfl, Nat.le_of_ble_eq_true rfl⟩⟩) ?_ ?_
      · refine mj_runs.step (S' := (mj_m_158, 1, [(0, .ref 234), (1, .int a), (2, .int c)], [.ref 234], mj_h0)) (mj_one_of mj_d_158_0 fun _ _ => rfl) ?_
        refine mj_runs.step (S' := (mj_m_158, 2, [(0, .ref 234), (1, .int a), (2, .int c)], [.int a, .ref 234], mj_h0)) (mj_one_of mj_d_158_1 fun _ _ => rfl) ?_
        refine mj_runs.call (S1 := (mj_m_145, 0, [(0, .ref 234), (1, .int a)], [], mj_h0)) (r1 := (some (.int (0 : Int32)))) (h1 := mj_h0) (mj_calls_v mj_d_158_2 rfl rfl rfl rfl rfl rfl ⟨Nat.le_of_ble_eq_true rfl, ⟨Nat.le_of_ble_eq_true rfl, Nat.le_of_ble_eq_true rfl, Nat.le_of_ble_eq_true rfl, Nat.le_of_ble_eq_true rfl, Nat.le_of_ble_eq_true rfl⟩⟩) ?_ ?_
        · refine mj_runs.step (S' := (mj_m_145, 1, [(0, .ref 234), (1, .int a)], [.int a], mj_h0)) (mj_one_of mj_d_145_0 fun _ _ => rfl) ?_
          refine mj_runs.step (S' := (mj_m_145, 2, [(0, .ref 234), (1, .int a)], [.long (a).toInt64], mj_h0)) (mj_one_of mj_d_145_1 fun _ _ => rfl) ?_
          refine mj_runs.step (S' := (mj_m_145, 3, [(0, .ref 234), (1, .int a)], [.long (0 : Int64), .long (a).toInt64], mj_h0)) (mj_one_of mj_d_145_2 fun _ _ => rfl) ?_
          refine mj_runs.step (S' := (mj_m_145, 4, [(0, .ref 234), (1, .int a)], [.ref 234, .long (0 : Int64), .long (a).toInt64], mj_h0)) (mj_one_of mj_d_145_3 fun _ _ => rfl) ?_
          refine mj_runs.step (S' := (mj_m_145, 7, [(0, .ref 234), (1, .int a)], [.int (0 : Int32), .long (0 : Int64), .long (a).toInt64], mj_h0)) (mj_one_of mj_d_145_4 fun _ _ => rfl) ?_
          refine mj_runs.step (S' := (mj_m_145, 8, [(0, .ref 234), (1, .int a)], [.int (1 : Int32), .int (0 : Int32), .long (0 : Int64), .long (a).toInt64], mj_h0)) (mj_one_of mj_d_145_7 fun _ _ => rfl) ?_
          refine mj_runs.step (S' := (mj_m_145, 9, [(0, .ref 234), (1, .int a)], [.int (Int32.ofInt (-1)), .long (0 : Int64), .long (a).toInt64], mj_h0)) (mj_one_of mj_d_145_8 fun _ _ => rfl) ?_
          refine mj_runs.step (S' := (mj_m_145, 10, [(0, .ref 234), (1, .int a)], [.long (Int64.ofInt (-1)), .long (0 : Int64), .long (a).toInt64], mj_h0)) (mj_one_of mj_d_145_9 fun _ _ => rfl) ?_
          refine mj_runs.call (S1 := (mj_m_125, 0, [(0, .long (a).toInt64), (2, .long (0 : Int64)), (4, .long (Int64.ofInt (-1)))], [], mj_h0)) (r1 := (some (.int (0 : Int32)))) (h1 := mj_h0) (mj_calls_s mj_d_145_10 rfl rfl rfl rfl ⟨Nat.le_of_ble_eq_true rfl, Nat.le_of_ble_eq_true rfl, Nat.le_of_ble_eq_true rfl, Nat.le_of_ble_eq_true rfl, Nat.le_of_ble_eq_true rfl⟩) ?_ ?_
          · refine mj_runs.step (S' := (mj_m_125, 1, [(0, .long (a).toInt64), (2, .long (0 : Int64)), (4, .long (Int64.ofInt (-1)))], [.long (a).toInt64], mj_h0)) (mj_one_of mj_d_125_0 fun _ _ => rfl) ?_
            refine mj_runs.step (S' := (mj_m_125, 2, [(0, .long (a).toInt64), (2, .long (0 : Int64)), (4, .long (Int64.ofInt (-1)))], [.long (0 : Int64), .long (a).toInt64], mj_h0)) (mj_one_of mj_d_125_1 fun _ _ => rfl) ?_
            refine mj_runs.step (S' := (mj_m_125, 3, [(0, .long (a).toInt64), (2, .long (0 : Int64)), (4, .long (Int64.ofInt (-1)))], [.int (lg_cmp (a).toInt64 (0 : Int64))], mj_h0)) (mj_one_of mj_d_125_2 fun _ _ => rfl) ?_
            refine mj_runs.step (S' := (mj_m_125, 17, [(0, .long (a).toInt64), (2, .long (0 : Int64)), (4, .long (Int64.ofInt (-1)))], [], mj_h0)) (mj_one_ifT mj_d_125_3 rfl (mj_lgT_lt (mj_l32 a) (show ((0 : Int64)).toInt = 0 by decide) (by omega))) ?_
            refine mj_runs.step (S' := (mj_m_125, 18, [(0, .long (a).toInt64), (2, .long (0 : Int64)), (4, .long (Int64.ofInt (-1)))], [.int (0 : Int32)], mj_h0)) (mj_one_of mj_d_125_17 fun _ _ => rfl) ?_
            exact mj_runs.ret (mj_ret_of mj_d_125_18 fun _ _ => rfl)
          show mj_runs (mj_m_145, 13, [(0, .ref 234), (1, .int a)], [.int (0 : Int32)], mj_h0) _ _
          exact mj_runs.ret (mj_ret_of mj_d_145_13 fun _ _ => rfl)
        show mj_runs (mj_m_158, 5, [(0, .ref 234), (1, .int a), (2, .int c)], [.int (0 : Int32)], mj_h0) _ _
        refine mj_runs.step (S' := (mj_m_158, 25, [(0, .ref 234), (1, .int a), (2, .int c)], [], mj_h0)) (mj_one_of mj_d_158_5 fun _ _ => rfl) ?_
        refine mj_runs.step (S' := (mj_m_158, 26, [(0, .ref 234), (1, .int a), (2, .int c)], [.int (0 : Int32)], mj_h0)) (mj_one_of mj_d_158_25 fun _ _ => rfl) ?_
        exact mj_runs.ret (mj_ret_of mj_d_158_26 fun _ _ => rfl)
      show mj_runs (mj_m_157, 6, [(0, .ref 234), (1, .int a), (2, .int b), (3, .int c), (4, .int d)], [.int (0 : Int32)], mj_h0) _ _
      refine mj_runs.step (S' := (mj_m_157, 26, [(0, .ref 234), (1, .int a), (2, .int b), (3, .int c), (4, .int d)], [], mj_h0)) (mj_one_of mj_d_157_6 fun _ _ => rfl) ?_
      refine mj_runs.step (S' := (mj_m_157, 28, [(0, .ref 234), (1, .int a), (2, .int b), (3, .int c), (4, .int d)], [.int (Int32.ofInt (-1000000001))], mj_h0)) (mj_one_of mj_d_157_26 fun _ _ => rfl) ?_
      exact mj_runs.ret (mj_ret_of mj_d_157_28 fun _ _ => rfl)
    · exact mj_sz0
  · refine ⟨(Int32.ofInt (-1000000001)), mj_h0, mj_h0, ?_, ?_, ?_⟩
    · refine mj_runs.step (S' := (mj_m_59, 1, [(0, .ref 0), (1, .int a), (2, .int b), (3, .int c), (4, .int d)], [.ref 0], mj_h0)) (mj_one_of mj_d_59_0 fun _ _ => rfl) ?_
      refine mj_runs.step (S' := (mj_m_59, 2, [(0, .ref 0), (1, .int a), (2, .int b), (3, .int c), (4, .int d)], [.int a, .ref 0], mj_h0)) (mj_one_of mj_d_59_1 fun _ _ => rfl) ?_
      refine mj_runs.step (S' := (mj_m_59, 3, [(0, .ref 0), (1, .int a), (2, .int b), (3, .int c), (4, .int d)], [.int c, .int a, .ref 0], mj_h0)) (mj_one_of mj_d_59_2 fun _ _ => rfl) ?_
      refine mj_runs.call (S1 := (mj_m_60, 0, [(0, .ref 0), (1, .int a), (2, .int c)], [], mj_h0)) (r1 := (some (.int (0 : Int32)))) (h1 := mj_h0) (mj_calls_v mj_d_59_3 rfl rfl rfl rfl rfl rfl ⟨Nat.le_of_ble_eq_true rfl, ⟨Nat.le_of_ble_eq_true rfl, Nat.le_of_ble_eq_true rfl, Nat.le_of_ble_eq_true rfl, Nat.le_of_ble_eq_true rfl, Nat.le_of_ble_eq_true rfl⟩⟩) ?_ ?_
      · refine mj_runs.step (S' := (mj_m_60, 1, [(0, .ref 0), (1, .int a), (2, .int c)], [.ref 0], mj_h0)) (mj_one_of mj_d_60_0 fun _ _ => rfl) ?_
        refine mj_runs.step (S' := (mj_m_60, 2, [(0, .ref 0), (1, .int a), (2, .int c)], [.int a, .ref 0], mj_h0)) (mj_one_of mj_d_60_1 fun _ _ => rfl) ?_
        refine mj_runs.call (S1 := (mj_m_44, 0, [(0, .ref 0), (1, .int a)], [], mj_h0)) (r1 := (some (.int (0 : Int32)))) (h1 := mj_h0) (mj_calls_v mj_d_60_2 rfl rfl rfl rfl rfl rfl ⟨Nat.le_of_ble_eq_true rfl, ⟨Nat.le_of_ble_eq_true rfl, Nat.le_of_ble_eq_true rfl, Nat.le_of_ble_eq_true rfl, Nat.le_of_ble_eq_true rfl, Nat.le_of_ble_eq_true rfl⟩⟩) ?_ ?_
        · refine mj_runs.step (S' := (mj_m_44, 1, [(0, .ref 0), (1, .int a)], [.int a], mj_h0)) (mj_one_of mj_d_44_0 fun _ _ => rfl) ?_
          refine mj_runs.step (S' := (mj_m_44, 4, [(0, .ref 0), (1, .int a)], [], mj_h0)) (mj_one_ifF mj_d_44_1 (t := 19) rfl (mj_cF_lt (rfl : (a).toInt = (a).toInt) (show ((0 : Int32)).toInt = 0 by decide) (by omega))) ?_
          refine mj_runs.step (S' := (mj_m_44, 5, [(0, .ref 0), (1, .int a)], [.int a], mj_h0)) (mj_one_of mj_d_44_4 fun _ _ => rfl) ?_
          refine mj_runs.step (S' := (mj_m_44, 6, [(0, .ref 0), (1, .int a)], [.ref 0, .int a], mj_h0)) (mj_one_of mj_d_44_5 fun _ _ => rfl) ?_
          refine mj_runs.step (S' := (mj_m_44, 9, [(0, .ref 0), (1, .int a)], [.ref 8, .int a], mj_h0)) (mj_one_of mj_d_44_6 fun _ _ => rfl) ?_
          refine mj_runs.step (S' := (mj_m_44, 12, [(0, .ref 0), (1, .int a)], [.int (0 : Int32), .int a], mj_h0)) (mj_one_of mj_d_44_9 fun _ _ => rfl) ?_
          refine mj_runs.step (S' := (mj_m_44, 19, [(0, .ref 0), (1, .int a)], [], mj_h0)) (mj_one_icmpT mj_d_44_12 rfl (mj_cT_ge (rfl : (a).toInt = (a).toInt) (show ((0 : Int32)).toInt = 0 by decide) (by omega))) ?_
          refine mj_runs.step (S' := (mj_m_44, 20, [(0, .ref 0), (1, .int a)], [.int (0 : Int32)], mj_h0)) (mj_one_of mj_d_44_19 fun _ _ => rfl) ?_
          exact mj_runs.ret (mj_ret_of mj_d_44_20 fun _ _ => rfl)
        show mj_runs (mj_m_60, 5, [(0, .ref 0), (1, .int a), (2, .int c)], [.int (0 : Int32)], mj_h0) _ _
        refine mj_runs.step (S' := (mj_m_60, 25, [(0, .ref 0), (1, .int a), (2, .int c)], [], mj_h0)) (mj_one_of mj_d_60_5 fun _ _ => rfl) ?_
        refine mj_runs.step (S' := (mj_m_60, 26, [(0, .ref 0), (1, .int a), (2, .int c)], [.int (0 : Int32)], mj_h0)) (mj_one_of mj_d_60_25 fun _ _ => rfl) ?_
        exact mj_runs.ret (mj_ret_of mj_d_60_26 fun _ _ => rfl)
      show mj_runs (mj_m_59, 6, [(0, .ref 0), (1, .int a), (2, .int b), (3, .int c), (4, .int d)], [.int (0 : Int32)], mj_h0) _ _
      refine mj_runs.step (S' := (mj_m_59, 32, [(0, .ref 0), (1, .int a), (2, .int b), (3, .int c), (4, .int d)], [], mj_h0)) (mj_one_of mj_d_59_6 fun _ _ => rfl) ?_
      refine mj_runs.step (S' := (mj_m_59, 34, [(0, .ref 0), (1, .int a), (2, .int b), (3, .int c), (4, .int d)], [.int (Int32.ofInt (-1000000001))], mj_h0)) (mj_one_of mj_d_59_32 fun _ _ => rfl) ?_
      exact mj_runs.ret (mj_ret_of mj_d_59_34 fun _ _ => rfl)
    · refine mj_runs.step (S' := (mj_m_157, 1, [(0, .ref 234), (1, .int a), (2, .int b), (3, .int c), (4, .int d)], [.ref 234], mj_h0)) (mj_one_of mj_d_157_0 fun _ _ => rfl) ?_
      refine mj_runs.step (S' := (mj_m_157, 2, [(0, .ref 234), (1, .int a), (2, .int b), (3, .int c), (4, .int d)], [.int a, .ref 234], mj_h0)) (mj_one_of mj_d_157_1 fun _ _ => rfl) ?_
      refine mj_runs.step (S' := (mj_m_157, 3, [(0, .ref 234), (1, .int a), (2, .int b), (3, .int c), (4, .int d)], [.int c, .int a, .ref 234], mj_h0)) (mj_one_of mj_d_157_2 fun _ _ => rfl) ?_
      refine mj_runs.call (S1 := (mj_m_158, 0, [(0, .ref 234), (1, .int a), (2, .int c)], [], mj_h0)) (r1 := (some (.int (0 : Int32)))) (h1 := mj_h0) (mj_calls_v mj_d_157_3 rfl rfl rfl rfl rfl rfl ⟨Nat.le_of_ble_eq_true rfl, ⟨Nat.le_of_ble_eq_true rfl, Nat.le_of_ble_eq_true rfl, Nat.le_of_ble_eq_true rfl, Nat.le_of_ble_eq_true rfl, Nat.le_of_ble_eq_true rfl⟩⟩) ?_ ?_
      · refine mj_runs.step (S' := (mj_m_158, 1, [(0, .ref 234), (1, .int a), (2, .int c)], [.ref 234], mj_h0)) (mj_one_of mj_d_158_0 fun _ _ => rfl) ?_
        refine mj_runs.step (S' := (mj_m_158, 2, [(0, .ref 234), (1, .int a), (2, .int c)], [.int a, .ref 234], mj_h0)) (mj_one_of mj_d_158_1 fun _ _ => rfl) ?_
        refine mj_runs.call (S1 := (mj_m_145, 0, [(0, .ref 234), (1, .int a)], [], mj_h0)) (r1 := (some (.int (0 : Int32)))) (h1 := mj_h0) (mj_calls_v mj_d_158_2 rfl rfl rfl rfl rfl rfl ⟨Nat.le_of_ble_eq_true rfl, ⟨Nat.le_of_ble_eq_true rfl, Nat.le_of_ble_eq_true rfl, Nat.le_of_ble_eq_true rfl, Nat.le_of_ble_eq_true rfl, Nat.le_of_ble_eq_true rfl⟩⟩) ?_ ?_
        · refine mj_runs.step (S' := (mj_m_145, 1, [(0, .ref 234), (1, .int a)], [.int a], mj_h0)) (mj_one_of mj_d_145_0 fun _ _ => rfl) ?_
          refine mj_runs.step (S' := (mj_m_145, 2, [(0, .ref 234), (1, .int a)], [.long (a).toInt64], mj_h0)) (mj_one_of mj_d_145_1 fun _ _ => rfl) ?_
          refine mj_runs.step (S' := (mj_m_145, 3, [(0, .ref 234), (1, .int a)], [.long (0 : Int64), .long (a).toInt64], mj_h0)) (mj_one_of mj_d_145_2 fun _ _ => rfl) ?_
          refine mj_runs.step (S' := (mj_m_145, 4, [(0, .ref 234), (1, .int a)], [.ref 234, .long (0 : Int64), .long (a).toInt64], mj_h0)) (mj_one_of mj_d_145_3 fun _ _ => rfl) ?_
          refine mj_runs.step (S' := (mj_m_145, 7, [(0, .ref 234), (1, .int a)], [.int (0 : Int32), .long (0 : Int64), .long (a).toInt64], mj_h0)) (mj_one_of mj_d_145_4 fun _ _ => rfl) ?_
          refine mj_runs.step (S' := (mj_m_145, 8, [(0, .ref 234), (1, .int a)], [.int (1 : Int32), .int (0 : Int32), .long (0 : Int64), .long (a).toInt64], mj_h0)) (mj_one_of mj_d_145_7 fun _ _ => rfl) ?_
          refine mj_runs.step (S' := (mj_m_145, 9, [(0, .ref 234), (1, .int a)], [.int (Int32.ofInt (-1)), .long (0 : Int64), .long (a).toInt64], mj_h0)) (mj_one_of mj_d_145_8 fun _ _ => rfl) ?_
          refine mj_runs.step (S' := (mj_m_145, 10, [(0, .ref 234), (1, .int a)], [.long (Int64.ofInt (-1)), .long (0 : Int64), .long (a).toInt64], mj_h0)) (mj_one_of mj_d_145_9 fun _ _ => rfl) ?_
          refine mj_runs.call (S1 := (mj_m_125, 0, [(0, .long (a).toInt64), (2, .long (0 : Int64)), (4, .long (Int64.ofInt (-1)))], [], mj_h0)) (r1 := (some (.int (0 : Int32)))) (h1 := mj_h0) (mj_calls_s mj_d_145_10 rfl rfl rfl rfl ⟨Nat.le_of_ble_eq_true rfl, Nat.le_of_ble_eq_true rfl, Nat.le_of_ble_eq_true rfl, Nat.le_of_ble_eq_true rfl, Nat.le_of_ble_eq_true rfl⟩) ?_ ?_
          · refine mj_runs.step (S' := (mj_m_125, 1, [(0, .long (a).toInt64), (2, .long (0 : Int64)), (4, .long (Int64.ofInt (-1)))], [.long (a).toInt64], mj_h0)) (mj_one_of mj_d_125_0 fun _ _ => rfl) ?_
            refine mj_runs.step (S' := (mj_m_125, 2, [(0, .long (a).toInt64), (2, .long (0 : Int64)), (4, .long (Int64.ofInt (-1)))], [.long (0 : Int64), .long (a).toInt64], mj_h0)) (mj_one_of mj_d_125_1 fun _ _ => rfl) ?_
            refine mj_runs.step (S' := (mj_m_125, 3, [(0, .long (a).toInt64), (2, .long (0 : Int64)), (4, .long (Int64.ofInt (-1)))], [.int (lg_cmp (a).toInt64 (0 : Int64))], mj_h0)) (mj_one_of mj_d_125_2 fun _ _ => rfl) ?_
            refine mj_runs.step (S' := (mj_m_125, 6, [(0, .long (a).toInt64), (2, .long (0 : Int64)), (4, .long (Int64.ofInt (-1)))], [], mj_h0)) (mj_one_ifF mj_d_125_3 (t := 17) rfl (mj_lgF_lt (mj_l32 a) (show ((0 : Int64)).toInt = 0 by decide) (by omega))) ?_
            refine mj_runs.step (S' := (mj_m_125, 7, [(0, .long (a).toInt64), (2, .long (0 : Int64)), (4, .long (Int64.ofInt (-1)))], [.long (a).toInt64], mj_h0)) (mj_one_of mj_d_125_6 fun _ _ => rfl) ?_
            refine mj_runs.step (S' := (mj_m_125, 9, [(0, .long (a).toInt64), (2, .long (0 : Int64)), (4, .long (Int64.ofInt (-1)))], [.long (Int64.ofInt (-1)), .long (a).toInt64], mj_h0)) (mj_one_of mj_d_125_7 fun _ _ => rfl) ?_
            refine mj_runs.step (S' := (mj_m_125, 10, [(0, .long (a).toInt64), (2, .long (0 : Int64)), (4, .long (Int64.ofInt (-1)))], [.int (lg_cmp (a).toInt64 (Int64.ofInt (-1)))], mj_h0)) (mj_one_of mj_d_125_9 fun _ _ => rfl) ?_
            refine mj_runs.step (S' := (mj_m_125, 17, [(0, .long (a).toInt64), (2, .long (0 : Int64)), (4, .long (Int64.ofInt (-1)))], [], mj_h0)) (mj_one_ifT mj_d_125_10 rfl (mj_lgT_gt (mj_l32 a) (show ((Int64.ofInt (-1))).toInt = -1 by decide) (by omega))) ?_
            refine mj_runs.step (S' := (mj_m_125, 18, [(0, .long (a).toInt64), (2, .long (0 : Int64)), (4, .long (Int64.ofInt (-1)))], [.int (0 : Int32)], mj_h0)) (mj_one_of mj_d_125_17 fun _ _ => rfl) ?_
            exact mj_runs.ret (mj_ret_of mj_d_125_18 fun _ _ => rfl)
          show mj_runs (mj_m_145, 13, [(0, .ref 234), (1, .int a)], [.int (0 : Int32)], mj_h0) _ _
          exact mj_runs.ret (mj_ret_of mj_d_145_13 fun _ _ => rfl)
        show mj_runs (mj_m_158, 5, [(0, .ref 234), (1, .int a), (2, .int c)], [.int (0 : Int32)], mj_h0) _ _
        refine mj_runs.step (S' := (mj_m_158, 25, [(0, .ref 234), (1, .int a), (2, .int c)], [], mj_h0)) (mj_one_of mj_d_158_5 fun _ _ => rfl) ?_
        refine mj_runs.step (S' := (mj_m_158, 26, [(0, .ref 234), (1, .int a), (2, .int c)], [.int (0 : Int32)], mj_h0)) (mj_one_of mj_d_158_25 fun _ _ => rfl) ?_
        exact mj_runs.ret (mj_ret_of mj_d_158_26 fun _ _ => rfl)
      show mj_runs (mj_m_157, 6, [(0, .ref 234), (1, .int a), (2, .int b), (3, .int c), (4, .int d)], [.int (0 : Int32)], mj_h0) _ _
      refine mj_runs.step (S' := (mj_m_157, 26, [(0, .ref 234), (1, .int a), (2, .int b), (3, .int c), (4, .int d)], [], mj_h0)) (mj_one_of mj_d_157_6 fun _ _ => rfl) ?_
      refine mj_runs.step (S' := (mj_m_157, 28, [(0, .ref 234), (1, .int a), (2, .int b), (3, .int c), (4, .int d)], [.int (Int32.ofInt (-1000000001))], mj_h0)) (mj_one_of mj_d_157_26 fun _ _ => rfl) ?_
      exact mj_runs.ret (mj_ret_of mj_d_157_28 fun _ _ => rfl)
    · exact mj_sz0
set_option maxRecDepth 1000000 in
set_option maxHeartbeats 4000000 in
theorem mj_op_pay (a b c : Int32) : ∃ (r : Int32) (h1 h2 : mj_H), mj_runs (mj_m_63, 0, [(0, .ref 0), (1, .int a), (2, .int b), (3, .int c)], [], mj_h0) (some (.int r)) h1 ∧ mj_runs (mj_m_161, 0, [(0, .ref 234), (1, .int a), (2, .int b), (3, .int c)], [], h1) (some (.int r)) h2 ∧ mj_sz h2 := by
  by_cases c0 : a.toInt < 0
  · refine ⟨(Int32.ofInt (-1000000001)), mj_h0, mj_h0, ?_, ?_, ?_⟩
    · refine mj_runs.step (S' := (mj_m_63, 1, [(0, .ref 0), (1, .int a), (2, .int b), (3, .int c)], [.ref 0], mj_h0)) (mj_one_of mj_d_63_0 fun _ _ => rfl) ?_
      refine mj_runs.step (S' := (mj_m_63, 2, [(0, .ref 0), (1, .int a), (2, .int b), (3, .int c)], [.int a, .ref 0], mj_h0)) (mj_one_of mj_d_63_1 fun _ _ => rfl) ?_
      refine mj_runs.step (S' := (mj_m_63, 3, [(0, .ref 0), (1, .int a), (2, .int b), (3, .int c)], [.int b, .int a, .ref 0], mj_h0)) (mj_one_of mj_d_63_2 fun _ _ => rfl) ?_
      refine mj_runs.call (S1 := (mj_m_60, 0, [(0, .ref 0), (1, .int a), (2, .int b)], [], mj_h0)) (r1 := (some (.int (0 : Int32)))) (h1 := mj_h0) (mj_calls_v mj_d_63_3 rfl rfl rfl rfl rfl rfl ⟨Nat.le_of_ble_eq_true rfl, ⟨Nat.le_of_ble_eq_true rfl, Nat.le_of_ble_eq_true rfl, Nat.le_of_ble_eq_true rfl, Nat.le_of_ble_eq_true rfl, Nat.le_of_ble_eq_true rfl⟩⟩) ?_ ?_
      · refine mj_runs.step (S' := (mj_m_60, 1, [(0, .ref 0), (1, .int a), (2, .int b)], [.ref 0], mj_h0)) (mj_one_of mj_d_60_0 fun _ _ => rfl) ?_
        refine mj_runs.step (S' := (mj_m_60, 2, [(0, .ref 0), (1, .int a), (2, .int b)], [.int a, .ref 0], mj_h0)) (mj_one_of mj_d_60_1 fun _ _ => rfl) ?_
        refine mj_runs.call (S1 := (mj_m_44, 0, [(0, .ref 0), (1, .int a)], [], mj_h0)) (r1 := (some (.int (0 : Int32)))) (h1 := mj_h0) (mj_calls_v mj_d_60_2 rfl rfl rfl rfl rfl rfl ⟨Nat.le_of_ble_eq_true rfl, ⟨Nat.le_of_ble_eq_true rfl, Nat.le_of_ble_eq_true rfl, Nat.le_of_ble_eq_true rfl, Nat.le_of_ble_eq_true rfl, Nat.le_of_ble_eq_true rfl⟩⟩) ?_ ?_
        · refine mj_runs.step (S' := (mj_m_44, 1, [(0, .ref 0), (1, .int a)], [.int a], mj_h0)) (mj_one_of mj_d_44_0 fun _ _ => rfl) ?_
          refine mj_runs.step (S' := (mj_m_44, 19, [(0, .ref 0), (1, .int a)], [], mj_h0)) (mj_one_ifT mj_d_44_1 rfl (mj_cT_lt (rfl : (a).toInt = (a).toInt) (show ((0 : Int32)).toInt = 0 by decide) (by omega))) ?_
          refine mj_runs.step (S' := (mj_m_44, 20, [(0, .ref 0), (1, .int a)], [.int (0 : Int32)], mj_h0)) (mj_one_of mj_d_44_19 fun _ _ => rfl) ?_
          exact mj_runs.ret (mj_ret_of mj_d_44_20 fun _ _ => rfl)
        show mj_runs (mj_m_60, 5, [(0, .ref 0), (1, .int a), (2, .int b)], [.int (0 : Int32)], mj_h0) _ _
        refine mj_runs.step (S' := (mj_m_60, 25, [(0, .ref 0), (1, .int a), (2, .int b)], [], mj_h0)) (mj_one_of mj_d_60_5 fun _ _ => rfl) ?_
        refine mj_runs.step (S' := (mj_m_60, 26, [(0, .ref 0), (1, .int a), (2, .int b)], [.int (0 : Int32)], mj_h0)) (mj_one_of mj_d_60_25 fun _ _ => rfl) ?_
        exact mj_runs.ret (mj_ret_of mj_d_60_26 fun _ _ => rfl)
      show mj_runs (mj_m_63, 6, [(0, .ref 0), (1, .int a), (2, .int b), (3, .int c)], [.int (0 : Int32)], mj_h0) _ _
      refine mj_runs.step (S' := (mj_m_63, 17, [(0, .ref 0), (1, .int a), (2, .int b), (3, .int c)], [], mj_h0)) (mj_one_of mj_d_63_6 fun _ _ => rfl) ?_
      refine mj_runs.step (S' := (mj_m_63, 19, [(0, .ref 0), (1, .int a), (2, .int b), (3, .int c)], [.int (Int32.ofInt (-1000000001))], mj_h0)) (mj_one_of mj_d_63_17 fun _ _ => rfl) ?_
      exact mj_runs.ret (mj_ret_of mj_d_63_19 fun _ _ => rfl)
    · refine mj_runs.step (S' := (mj_m_161, 1, [(0, .ref 234), (1, .int a), (2, .int b), (3, .int c)], [.ref 234], mj_h0)) (mj_one_of mj_d_161_0 fun _ _ => rfl) ?_
      refine mj_runs.step (S' := (mj_m_161, 2, [(0, .ref 234), (1, .int a), (2, .int b), (3, .int c)], [.int a, .ref 234], mj_h0)) (mj_one_of mj_d_161_1 fun _ _ => rfl) ?_
      refine mj_runs.step (S' := (mj_m_161, 3, [(0, .ref 234), (1, .int a), (2, .int b), (3, .int c)], [.int b, .int a, .ref 234], mj_h0)) (mj_one_of mj_d_161_2 fun _ _ => rfl) ?_
      refine mj_runs.call (S1 := (mj_m_158, 0, [(0, .ref 234), (1, .int a), (2, .int b)], [], mj_h0)) (r1 := (some (.int (0 : Int32)))) (h1 := mj_h0) (mj_calls_v mj_d_161_3 rfl rfl rfl rfl rfl rfl ⟨Nat.le_of_ble_eq_true rfl, ⟨Nat.le_of_ble_eq_true rfl, Nat.le_of_ble_eq_true rfl, Nat.le_of_ble_eq_true rfl, Nat.le_of_ble_eq_true rfl, Nat.le_of_ble_eq_true rfl⟩⟩) ?_ ?_
      · refine mj_runs.step (S' := (mj_m_158, 1, [(0, .ref 234), (1, .int a), (2, .int b)], [.ref 234], mj_h0)) (mj_one_of mj_d_158_0 fun _ _ => rfl) ?_
        refine mj_runs.step (S' := (mj_m_158, 2, [(0, .ref 234), (1, .int a), (2, .int b)], [.int a, .ref 234], mj_h0)) (mj_one_of mj_d_158_1 fun _ _ => rfl) ?_
        refine mj_runs.call (S1 := (mj_m_145, 0, [(0, .ref 234), (1, .int a)], [], mj_h0)) (r1 := (some (.int (0 : Int32)))) (h1 := mj_h0) (mj_calls_v mj_d_158_2 rfl rfl rfl rfl rfl rfl ⟨Nat.le_of_ble_eq_true rfl, ⟨Nat.le_of_ble_eq_true rfl, Nat.le_of_ble_eq_true rfl, Nat.le_of_ble_eq_true rfl, Nat.le_of_ble_eq_true rfl, Nat.le_of_ble_eq_true rfl⟩⟩) ?_ ?_
        · refine mj_runs.step (S' := (mj_m_145, 1, [(0, .ref 234), (1, .int a)], [.int a], mj_h0)) (mj_one_of mj_d_145_0 fun _ _ => rfl) ?_
          refine mj_runs.step (S' := (mj_m_145, 2, [(0, .ref 234), (1, .int a)], [.long (a).toInt64], mj_h0)) (mj_one_of mj_d_145_1 fun _ _ => rfl) ?_
          refine mj_runs.step (S' := (mj_m_145, 3, [(0, .ref 234), (1, .int a)], [.long (0 : Int64), .long (a).toInt64], mj_h0)) (mj_one_of mj_d_145_2 fun _ _ => rfl) ?_
          refine mj_runs.step (S' := (mj_m_145, 4, [(0, .ref 234), (1, .int a)], [.ref 234, .long (0 : Int64), .long (a).toInt64], mj_h0)) (mj_one_of mj_d_145_3 fun _ _ => rfl) ?_
          refine mj_runs.step (S' := (mj_m_145, 7, [(0, .ref 234), (1, .int a)], [.int (0 : Int32), .long (0 : Int64), .long (a).toInt64], mj_h0)) (mj_one_of mj_d_145_4 fun _ _ => rfl) ?_
          refine mj_runs.step (S' := (mj_m_145, 8, [(0, .ref 234), (1, .int a)], [.int (1 : Int32), .int (0 : Int32), .long (0 : Int64), .long (a).toInt64], mj_h0)) (mj_one_of mj_d_145_7 fun _ _ => rfl) ?_
          refine mj_runs.step (S' := (mj_m_145, 9, [(0, .ref 234), (1, .int a)], [.int (Int32.ofInt (-1)), .long (0 : Int64), .long (a).toInt64], mj_h0)) (mj_one_of mj_d_145_8 fun _ _ => rfl) ?_
          refine mj_runs.step (S' := (mj_m_145, 10, [(0, .ref 234), (1, .int a)], [.long (Int64.ofInt (-1)), .long (0 : Int64), .long (a).toInt64], mj_h0)) (mj_one_of mj_d_145_9 fun _ _ => rfl) ?_
          refine mj_runs.call (S1 := (mj_m_125, 0, [(0, .long (a).toInt64), (2, .long (0 : Int64)), (4, .long (Int64.ofInt (-1)))], [], mj_h0)) (r1 := (some (.int (0 : Int32)))) (h1 := mj_h0) (mj_calls_s mj_d_145_10 rfl rfl rfl rfl ⟨Nat.le_of_ble_eq_true rfl, Nat.le_of_ble_eq_true rfl, Nat.le_of_ble_eq_true rfl, Nat.le_of_ble_eq_true rfl, Nat.le_of_ble_eq_true rfl⟩) ?_ ?_
          · refine mj_runs.step (S' := (mj_m_125, 1, [(0, .long (a).toInt64), (2, .long (0 : Int64)), (4, .long (Int64.ofInt (-1)))], [.long (a).toInt64], mj_h0)) (mj_one_of mj_d_125_0 fun _ _ => rfl) ?_
            refine mj_runs.step (S' := (mj_m_125, 2, [(0, .long (a).toInt64), (2, .long (0 : Int64)), (4, .long (Int64.ofInt (-1)))], [.long (0 : Int64), .long (a).toInt64], mj_h0)) (mj_one_of mj_d_125_1 fun _ _ => rfl) ?_
            refine mj_runs.step (S' := (mj_m_125, 3, [(0, .long (a).toInt64), (2, .long (0 : Int64)), (4, .long (Int64.ofInt (-1)))], [.int (lg_cmp (a).toInt64 (0 : Int64))], mj_h0)) (mj_one_of mj_d_125_2 fun _ _ => rfl) ?_
            refine mj_runs.step (S' := (mj_m_125, 17, [(0, .long (a).toInt64), (2, .long (0 : Int64)), (4, .long (Int64.ofInt (-1)))], [], mj_h0)) (mj_one_ifT mj_d_125_3 rfl (mj_lgT_lt (mj_l32 a) (show ((0 : Int64)).toInt = 0 by decide) (by omega))) ?_
            refine mj_runs.step (S' := (mj_m_125, 18, [(0, .long (a).toInt64), (2, .long (0 : Int64)), (4, .long (Int64.ofInt (-1)))], [.int (0 : Int32)], mj_h0)) (mj_one_of mj_d_125_17 fun _ _ => rfl) ?_
            exact mj_runs.ret (mj_ret_of mj_d_125_18 fun _ _ => rfl)
          show mj_runs (mj_m_145, 13, [(0, .ref 234), (1, .int a)], [.int (0 : Int32)], mj_h0) _ _
          exact mj_runs.ret (mj_ret_of mj_d_145_13 fun _ _ => rfl)
        show mj_runs (mj_m_158, 5, [(0, .ref 234), (1, .int a), (2, .int b)], [.int (0 : Int32)], mj_h0) _ _
        refine mj_runs.step (S' := (mj_m_158, 25, [(0, .ref 234), (1, .int a), (2, .int b)], [], mj_h0)) (mj_one_of mj_d_158_5 fun _ _ => rfl) ?_
        refine mj_runs.step (S' := (mj_m_158, 26, [(0, .ref 234), (1, .int a), (2, .int b)], [.int (0 : Int32)], mj_h0)) (mj_one_of mj_d_158_25 fun _ _ => rfl) ?_
        exact mj_runs.ret (mj_ret_of mj_d_158_26 fun _ _ => rfl)
      show mj_runs (mj_m_161, 6, [(0, .ref 234), (1, .int a), (2, .int b), (3, .int c)], [.int (0 : Int32)], mj_h0) _ _
      refine mj_runs.step (S' := (mj_m_161, 17, [(0, .ref 234), (1, .int a), (2, .int b), (3, .int c)], [], mj_h0)) (mj_one_of mj_d_161_6 fun _ _ => rfl) ?_
      refine mj_runs.step (S' := (mj_m_161, 19, [(0, .ref 234), (1, .int a), (2, .int b), (3, .int c)], [.int (Int32.ofInt (-1000000001))], mj_h0)) (mj_one_of mj_d_161_17 fun _ _ => rfl) ?_
      exact mj_runs.ret (mj_ret_of mj_d_161_19 fun _ _ => rfl)
    · exact mj_sz0
  · refine ⟨(Int32.ofInt (-1000000001)), mj_h0, mj_h0, ?_, ?_, ?_⟩
    · refine mj_runs.step (S' := (mj_m_63, 1, [(0, .ref 0), (1, .int a), (2, .int b), (3, .int c)], [.ref 0], mj_h0)) (mj_one_of mj_d_63_0 fun _ _ => rfl) ?_
      refine mj_runs.step (S' := (mj_m_63, 2, [(0, .ref 0), (1, .int a), (2, .int b), (3, .int c)], [.int a, .ref 0], mj_h0)) (mj_one_of mj_d_63_1 fun _ _ => rfl) ?_
      refine mj_runs.step (S' := (mj_m_63, 3, [(0, .ref 0), (1, .int a), (2, .int b), (3, .int c)], [.int b, .int a, .ref 0], mj_h0)) (mj_one_of mj_d_63_2 fun _ _ => rfl) ?_
      refine mj_runs.call (S1 := (mj_m_60, 0, [(0, .ref 0), (1, .int a), (2, .int b)], [], mj_h0)) (r1 := (some (.int (0 : Int32)))) (h1 := mj_h0) (mj_calls_v mj_d_63_3 rfl rfl rfl rfl rfl rfl ⟨Nat.le_of_ble_eq_true rfl, ⟨Nat.le_of_ble_eq_true rfl, Nat.le_of_ble_eq_true rfl, Nat.le_of_ble_eq_true rfl, Nat.le_of_ble_eq_true rfl, Nat.le_of_ble_eq_true rfl⟩⟩) ?_ ?_
      · refine mj_runs.step (S' := (mj_m_60, 1, [(0, .ref 0), (1, .int a), (2, .int b)], [.ref 0], mj_h0)) (mj_one_of mj_d_60_0 fun _ _ => rfl) ?_
        refine mj_runs.step (S' := (mj_m_60, 2, [(0, .ref 0), (1, .int a), (2, .int b)], [.int a, .ref 0], mj_h0)) (mj_one_of mj_d_60_1 fun _ _ => rfl) ?_
        refine mj_runs.call (S1 := (mj_m_44, 0, [(0, .ref 0), (1, .int a)], [], mj_h0)) (r1 := (some (.int (0 : Int32)))) (h1 := mj_h0) (mj_calls_v mj_d_60_2 rfl rfl rfl rfl rfl rfl ⟨Nat.le_of_ble_eq_true rfl, ⟨Nat.le_of_ble_eq_true rfl, Nat.le_of_ble_eq_true rfl, Nat.le_of_ble_eq_true rfl, Nat.le_of_ble_eq_true rfl, Nat.le_of_ble_eq_true rfl⟩⟩) ?_ ?_
        · refine mj_runs.step (S' := (mj_m_44, 1, [(0, .ref 0), (1, .int a)], [.int a], mj_h0)) (mj_one_of mj_d_44_0 fun _ _ => rfl) ?_
          refine mj_runs.step (S' := (mj_m_44, 4, [(0, .ref 0), (1, .int a)], [], mj_h0)) (mj_one_ifF mj_d_44_1 (t := 19) rfl (mj_cF_lt (rfl : (a).toInt = (a).toInt) (show ((0 : Int32)).toInt = 0 by decide) (by omega))) ?_
          refine mj_runs.step (S' := (mj_m_44, 5, [(0, .ref 0), (1, .int a)], [.int a], mj_h0)) (mj_one_of mj_d_44_4 fun _ _ => rfl) ?_
          refine mj_runs.step (S' := (mj_m_44, 6, [(0, .ref 0), (1, .int a)], [.ref 0, .int a], mj_h0)) (mj_one_of mj_d_44_5 fun _ _ => rfl) ?_
          refine mj_runs.step (S' := (mj_m_44, 9, [(0, .ref 0), (1, .int a)], [.ref 8, .int a], mj_h0)) (mj_one_of mj_d_44_6 fun _ _ => rfl) ?_
          refine mj_runs.step (S' := (mj_m_44, 12, [(0, .ref 0), (1, .int a)], [.int (0 : Int32), .int a], mj_h0)) (mj_one_of mj_d_44_9 fun _ _ => rfl) ?_
          refine mj_runs.step (S' := (mj_m_44, 19, [(0, .ref 0), (1, .int a)], [], mj_h0)) (mj_one_icmpT mj_d_44_12 rfl (mj_cT_ge (rfl : (a).toInt = (a).toInt) (show ((0 : Int32)).toInt = 0 by decide) (by omega))) ?_
          refine mj_runs.step (S' := (mj_m_44, 20, [(0, .ref 0), (1, .int a)], [.int (0 : Int32)], mj_h0)) (mj_one_of mj_d_44_19 fun _ _ => rfl) ?_
          exact mj_runs.ret (mj_ret_of mj_d_44_20 fun _ _ => rfl)
        show mj_runs (mj_m_60, 5, [(0, .ref 0), (1, .int a), (2, .int b)], [.int (0 : Int32)], mj_h0) _ _
        refine mj_runs.step (S' := (mj_m_60, 25, [(0, .ref 0), (1, .int a), (2, .int b)], [], mj_h0)) (mj_one_of mj_d_60_5 fun _ _ => rfl) ?_
        refine mj_runs.step (S' := (mj_m_60, 26, [(0, .ref 0), (1, .int a), (2, .int b)], [.int (0 : Int32)], mj_h0)) (mj_one_of mj_d_60_25 fun _ _ => rfl) ?_
        exact mj_runs.ret (mj_ret_of mj_d_60_26 fun _ _ => rfl)
      show mj_runs (mj_m_63, 6, [(0, .ref 0), (1, .int a), (2, .int b), (3, .int c)], [.int (0 : Int32)], mj_h0) _ _
      refine mj_runs.step (S' := (mj_m_63, 17, [(0, .ref 0), (1, .int a), (2, .int b), (3, .int c)], [], mj_h0)) (mj_one_of mj_d_63_6 fun _ _ => rfl) ?_
      refine mj_runs.step (S' := (mj_m_63, 19, [(0, .ref 0), (1, .int a), (2, .int b), (3, .int c)], [.int (Int32.ofInt (-1000000001))], mj_h0)) (mj_one_of mj_d_63_17 fun _ _ => rfl) ?_
      exact mj_runs.ret (mj_ret_of mj_d_63_19 fun _ _ => rfl)
    · refine mj_runs.step (S' := (mj_m_161, 1, [(0, .ref 234), (1, .int a), (2, .int b), (3, .int c)], [.ref 234], mj_h0)) (mj_one_of mj_d_161_0 fun _ _ => rfl) ?_
      refine mj_runs.step (S' := (mj_m_161, 2, [(0, .ref 234), (1, .int a), (2, .int b), (3, .int c)], [.int a, .ref 234], mj_h0)) (mj_one_of mj_d_161_1 fun _ _ => rfl) ?_
      refine mj_runs.step (S' := (mj_m_161, 3, [(0, .ref 234), (1, .int a), (2, .int b), (3, .int c)], [.int b, .int a, .ref 234], mj_h0)) (mj_one_of mj_d_161_2 fun _ _ => rfl) ?_
      refine mj_runs.call (S1 := (mj_m_158, 0, [(0, .ref 234), (1, .int a), (2, .int b)], [], mj_h0)) (r1 := (some (.int (0 : Int32)))) (h1 := mj_h0) (mj_calls_v mj_d_161_3 rfl rfl rfl rfl rfl rfl ⟨Nat.le_of_ble_eq_true rfl, ⟨Nat.le_of_ble_eq_true rfl, Nat.le_of_ble_eq_true rfl, Nat.le_of_ble_eq_true rfl, Nat.le_of_ble_eq_true rfl, Nat.le_of_ble_eq_true rfl⟩⟩) ?_ ?_
      · refine mj_runs.step (S' := (mj_m_158, 1, [(0, .ref 234), (1, .int a), (2, .int b)], [.ref 234], mj_h0)) (mj_one_of mj_d_158_0 fun _ _ => rfl) ?_
        refine mj_runs.step (S' := (mj_m_158, 2, [(0, .ref 234), (1, .int a), (2, .int b)], [.int a, .ref 234], mj_h0)) (mj_one_of mj_d_158_1 fun _ _ => rfl) ?_
        refine mj_runs.call (S1 := (mj_m_145, 0, [(0, .ref 234), (1, .int a)], [], mj_h0)) (r1 := (some (.int (0 : Int32)))) (h1 := mj_h0) (mj_calls_v mj_d_158_2 rfl rfl rfl rfl rfl rfl ⟨Nat.le_of_ble_eq_true rfl, ⟨Nat.le_of_ble_eq_true rfl, Nat.le_of_ble_eq_true rfl, Nat.le_of_ble_eq_true rfl, Nat.le_of_ble_eq_true rfl, Nat.le_of_ble_eq_true rfl⟩⟩) ?_ ?_
        · refine mj_runs.step (S' := (mj_m_145, 1, [(0, .ref 234), (1, .int a)], [.int a], mj_h0)) (mj_one_of mj_d_145_0 fun _ _ => rfl) ?_
          refine mj_runs.step (S' := (mj_m_145, 2, [(0, .ref 234), (1, .int a)], [.long (a).toInt64], mj_h0)) (mj_one_of mj_d_145_1 fun _ _ => rfl) ?_
          refine mj_runs.step (S' := (mj_m_145, 3, [(0, .ref 234), (1, .int a)], [.long (0 : Int64), .long (a).toInt64], mj_h0)) (mj_one_of mj_d_145_2 fun _ _ => rfl) ?_
          refine mj_runs.step (S' := (mj_m_145, 4, [(0, .ref 234), (1, .int a)], [.ref 234, .long (0 : Int64), .long (a).toInt64], mj_h0)) (mj_one_of mj_d_145_3 fun _ _ => rfl) ?_
          refine mj_runs.step (S' := (mj_m_145, 7, [(0, .ref 234), (1, .int a)], [.int (0 : Int32), .long (0 : Int64), .long (a).toInt64], mj_h0)) (mj_one_of mj_d_145_4 fun _ _ => rfl) ?_
          refine mj_runs.step (S' := (mj_m_145, 8, [(0, .ref 234), (1, .int a)], [.int (1 : Int32), .int (0 : Int32), .long (0 : Int64), .long (a).toInt64], mj_h0)) (mj_one_of mj_d_145_7 fun _ _ => rfl) ?_
          refine mj_runs.step (S' := (mj_m_145, 9, [(0, .ref 234), (1, .int a)], [.int (Int32.ofInt (-1)), .long (0 : Int64), .long (a).toInt64], mj_h0)) (mj_one_of mj_d_145_8 fun _ _ => rfl) ?_
          refine mj_runs.step (S' := (mj_m_145, 10, [(0, .ref 234), (1, .int a)], [.long (Int64.ofInt (-1)), .long (0 : Int64), .long (a).toInt64], mj_h0)) (mj_one_of mj_d_145_9 fun _ _ => rfl) ?_
          refine mj_runs.call (S1 := (mj_m_125, 0, [(0, .long (a).toInt64), (2, .long (0 : Int64)), (4, .long (Int64.ofInt (-1)))], [], mj_h0)) (r1 := (some (.int (0 : Int32)))) (h1 := mj_h0) (mj_calls_s mj_d_145_10 rfl rfl rfl rfl ⟨Nat.le_of_ble_eq_true rfl, Nat.le_of_ble_eq_true rfl, Nat.le_of_ble_eq_true rfl, Nat.le_of_ble_eq_true rfl, Nat.le_of_ble_eq_true rfl⟩) ?_ ?_
          · refine mj_runs.step (S' := (mj_m_125, 1, [(0, .long (a).toInt64), (2, .long (0 : Int64)), (4, .long (Int64.ofInt (-1)))], [.long (a).toInt64], mj_h0)) (mj_one_of mj_d_125_0 fun _ _ => rfl) ?_
            refine mj_runs.step (S' := (mj_m_125, 2, [(0, .long (a).toInt64), (2, .long (0 : Int64)), (4, .long (Int64.ofInt (-1)))], [.long (0 : Int64), .long (a).toInt64], mj_h0)) (mj_one_of mj_d_125_1 fun _ _ => rfl) ?_
            refine mj_runs.step (S' := (mj_m_125, 3, [(0, .long (a).toInt64), (2, .long (0 : Int64)), (4, .long (Int64.ofInt (-1)))], [.int (lg_cmp (a).toInt64 (0 : Int64))], mj_h0)) (mj_one_of mj_d_125_2 fun _ _ => rfl) ?_
            refine mj_runs.step (S' := (mj_m_125, 6, [(0, .long (a).toInt64), (2, .long (0 : Int64)), (4, .long (Int64.ofInt (-1)))], [], mj_h0)) (mj_one_ifF mj_d_125_3 (t := 17) rfl (mj_lgF_lt (mj_l32 a) (show ((0 : Int64)).toInt = 0 by decide) (by omega))) ?_
            refine mj_runs.step (S' := (mj_m_125, 7, [(0, .long (a).toInt64), (2, .long (0 : Int64)), (4, .long (Int64.ofInt (-1)))], [.long (a).toInt64], mj_h0)) (mj_one_of mj_d_125_6 fun _ _ => rfl) ?_
            refine mj_runs.step (S' := (mj_m_125, 9, [(0, .long (a).toInt64), (2, .long (0 : Int64)), (4, .long (Int64.ofInt (-1)))], [.long (Int64.ofInt (-1)), .long (a).toInt64], mj_h0)) (mj_one_of mj_d_125_7 fun _ _ => rfl) ?_
            refine mj_runs.step (S' := (mj_m_125, 10, [(0, .long (a).toInt64), (2, .long (0 : Int64)), (4, .long (Int64.ofInt (-1)))], [.int (lg_cmp (a).toInt64 (Int64.ofInt (-1)))], mj_h0)) (mj_one_of mj_d_125_9 fun _ _ => rfl) ?_
            refine mj_runs.step (S' := (mj_m_125, 17, [(0, .long (a).toInt64), (2, .long (0 : Int64)), (4, .long (Int64.ofInt (-1)))], [], mj_h0)) (mj_one_ifT mj_d_125_10 rfl (mj_lgT_gt (mj_l32 a) (show ((Int64.ofInt (-1))).toInt = -1 by decide) (by omega))) ?_
            refine mj_runs.step (S' := (mj_m_125, 18, [(0, .long (a).toInt64), (2, .long (0 : Int64)), (4, .long (Int64.ofInt (-1)))], [.int (0 : Int32)], mj_h0)) (mj_one_of mj_d_125_17 fun _ _ => rfl) ?_
            exact mj_runs.ret (mj_ret_of mj_d_125_18 fun _ _ => rfl)
          show mj_runs (mj_m_145, 13, [(0, .ref 234), (1, .int a)], [.int (0 : Int32)], mj_h0) _ _
          exact mj_runs.ret (mj_ret_of mj_d_145_13 fun _ _ => rfl)
        show mj_runs (mj_m_158, 5, [(0, .ref 234), (1, .int a), (2, .int b)], [.int (0 : Int32)], mj_h0) _ _
        refine mj_runs.step (S' := (mj_m_158, 25, [(0, .ref 234), (1, .int a), (2, .int b)], [], mj_h0)) (mj_one_of mj_d_158_5 fun _ _ => rfl) ?_
        refine mj_runs.step (S' := (mj_m_158, 26, [(0, .ref 234), (1, .int a), (2, .int b)], [.int (0 : Int32)], mj_h0)) (mj_one_of mj_d_158_25 fun _ _ => rfl) ?_
        exact mj_runs.ret (mj_ret_of mj_d_158_26 fun _ _ => rfl)
      show mj_runs (mj_m_161, 6, [(0, .ref 234), (1, .int a), (2, .int b), (3, .int c)], [.int (0 : Int32)], mj_h0) _ _
      refine mj_runs.step (S' := (mj_m_161, 17, [(0, .ref 234), (1, .int a), (2, .int b), (3, .int c)], [], mj_h0)) (mj_one_of mj_d_161_6 fun _ _ => rfl) ?_
      refine mj_runs.step (S' := (mj_m_161, 19, [(0, .ref 234), (1, .int a), (2, .int b), (3, .int c)], [.int (Int32.ofInt (-1000000001))], mj_h0)) (mj_one_of mj_d_161_17 fun _ _ => rfl) ?_
      exact mj_runs.ret (mj_ret_of mj_d_161_19 fun _ _ => rfl)
    · exact mj_sz0
set_option maxRecDepth 1000000 in
set_option maxHeartbeats 4000000 in
theorem mj_op_drift (a : Int32) : ∃ (r : Int32) (h1 h2 : mj_H), mj_runs (mj_m_64, 0, [(0, .ref 0), (1, .int a)], [], mj_h0) (some (.int r)) h1 ∧ mj_runs (mj_m_162, 0, [(0, .ref 234), (1, .int a)], [], h1) (some (.int r)) h2 ∧ mj_sz h2 := by
  by_cases c0 : a.toInt < 1
  · refine ⟨(Int32.ofInt (-1000000002)), mj_h0, mj_h0, ?_, ?_, ?_⟩
    · refine mj_runs.step (S' := (mj_m_64, 1, [(0, .ref 0), (1, .int a)], [.ref 0], mj_h0)) (mj_one_of mj_d_64_0 fun _ _ => rfl) ?_
      refine mj_runs.step (S' := (mj_m_64, 2, [(0, .ref 0), (1, .int a)], [.int a, .ref 0], mj_h0)) (mj_one_of mj_d_64_1 fun _ _ => rfl) ?_
      refine mj_runs.call (S1 := (mj_m_46, 0, [(0, .ref 0), (1, .int a)], [], mj_h0)) (r1 := (some (.int (Int32.ofInt (-1000000002))))) (h1 := mj_h0) (mj_calls_v mj_d_64_2 rfl rfl rfl rfl rfl rfl ⟨Nat.le_of_ble_eq_true rfl, ⟨Nat.le_of_ble_eq_true rfl, Nat.le_of_ble_eq_true rfl, Nat.le_of_ble_eq_true rfl, Nat.le_of_ble_eq_true rfl, Nat.le_of_ble_eq_true rfl⟩⟩) ?_ ?_
      · refine mj_runs.step (S' := (mj_m_46, 1, [(0, .ref 0), (1, .int a)], [.int a], mj_h0)) (mj_one_of mj_d_46_0 fun _ _ => rfl) ?_
        refine mj_runs.step (S' := (mj_m_46, 2, [(0, .ref 0), (1, .int a)], [.int (1 : Int32), .int a], mj_h0)) (mj_one_of mj_d_46_1 fun _ _ => rfl) ?_
        refine mj_runs.step (S' := (mj_m_46, 11, [(0, .ref 0), (1, .int a)], [], mj_h0)) (mj_one_icmpT mj_d_46_2 rfl (mj_cT_lt (rfl : (a).toInt = (a).toInt) (show ((1 : Int32)).toInt = 1 by decide) (by omega))) ?_
        refine mj_runs.step (S' := (mj_m_46, 13, [(0, .ref 0), (1, .int a)], [.int (Int32.ofInt (-1000000002))], mj_h0)) (mj_one_of mj_d_46_11 fun _ _ => rfl) ?_
        exact mj_runs.ret (mj_ret_of mj_d_46_13 fun _ _ => rfl)
      show mj_runs (mj_m_64, 5, [(0, .ref 0), (1, .int a)], [.int (Int32.ofInt (-1000000002))], mj_h0) _ _
      refine mj_runs.step (S' := (mj_m_64, 6, [(2, .int (Int32.ofInt (-1000000002))), (0, .ref 0), (1, .int a)], [], mj_h0)) (mj_one_of mj_d_64_5 fun _ _ => rfl) ?_
      refine mj_runs.step (S' := (mj_m_64, 7, [(2, .int (Int32.ofInt (-1000000002))), (0, .ref 0), (1, .int a)], [.int (Int32.ofInt (-1000000002))], mj_h0)) (mj_one_of mj_d_64_6 fun _ _ => rfl) ?_
      refine mj_runs.step (S' := (mj_m_64, 10, [(2, .int (Int32.ofInt (-1000000002))), (0, .ref 0), (1, .int a)], [], mj_h0)) (mj_one_of mj_d_64_7 fun _ _ => rfl) ?_
      refine mj_runs.step (S' := (mj_m_64, 11, [(2, .int (Int32.ofInt (-1000000002))), (0, .ref 0), (1, .int a)], [.int (Int32.ofInt (-1000000002))], mj_h0)) (mj_one_of mj_d_64_10 fun _ _ => rfl) ?_
      exact mj_runs.ret (mj_ret_of mj_d_64_11 fun _ _ => rfl)
    · refine mj_runs.step (S' := (mj_m_162, 1, [(0, .ref 234), (1, .int a)], [.int a], mj_h0)) (mj_one_of mj_d_162_0 fun _ _ => rfl) ?_
      refine mj_runs.step (S' := (mj_m_162, 2, [(0, .ref 234), (1, .int a)], [.long (a).toInt64], mj_h0)) (mj_one_of mj_d_162_1 fun _ _ => rfl) ?_
      refine mj_runs.step (S' := (mj_m_162, 3, [(0, .ref 234), (1, .int a)], [.long (1 : Int64), .long (a).toInt64], mj_h0)) (mj_one_of mj_d_162_2 fun _ _ => rfl) ?_
      refine mj_runs.step (S' := (mj_m_162, 6, [(0, .ref 234), (1, .int a)], [.long (30 : Int64), .long (1 : Int64), .long (a).toInt64], mj_h0)) (mj_one_of mj_d_162_3 fun _ _ => rfl) ?_
      refine mj_runs.call (S1 := (mj_m_125, 0, [(0, .long (a).toInt64), (2, .long (1 : Int64)), (4, .long (30 : Int64))], [], mj_h0)) (r1 := (some (.int (0 : Int32)))) (h1 := mj_h0) (mj_calls_s mj_d_162_6 rfl rfl rfl rfl ⟨Nat.le_of_ble_eq_true rfl, Nat.le_of_ble_eq_true rfl, Nat.le_of_ble_eq_true rfl, Nat.le_of_ble_eq_true rfl, Nat.le_of_ble_eq_true rfl⟩) ?_ ?_
      · refine mj_runs.step (S' := (mj_m_125, 1, [(0, .long (a).toInt64), (2, .long (1 : Int64)), (4, .long (30 : Int64))], [.long (a).toInt64], mj_h0)) (mj_one_of mj_d_125_0 fun _ _ => rfl) ?_
        refine mj_runs.step (S' := (mj_m_125, 2, [(0, .long (a).toInt64), (2, .long (1 : Int64)), (4, .long (30 : Int64))], [.long (1 : Int64), .long (a).toInt64], mj_h0)) (mj_one_of mj_d_125_1 fun _ _ => rfl) ?_
        refine mj_runs.step (S' := (mj_m_125, 3, [(0, .long (a).toInt64), (2, .long (1 : Int64)), (4, .long (30 : Int64))], [.int (lg_cmp (a).toInt64 (1 : Int64))], mj_h0)) (mj_one_of mj_d_125_2 fun _ _ => rfl) ?_
        refine mj_runs.step (S' := (mj_m_125, 17, [(0, .long (a).toInt64), (2, .long (1 : Int64)), (4, .long (30 : Int64))], [], mj_h0)) (mj_one_ifT mj_d_125_3 rfl (mj_lgT_lt (mj_l32 a) (show ((1 : Int64)).toInt = 1 by decide) (by omega))) ?_
        refine mj_runs.step (S' := (mj_m_125, 18, [(0, .long (a).toInt64), (2, .long (1 : Int64)), (4, .long (30 : Int64))], [.int (0 : Int32)], mj_h0)) (mj_one_of mj_d_125_17 fun _ _ => rfl) ?_
        exact mj_runs.ret (mj_ret_of mj_d_125_18 fun _ _ => rfl)
      show mj_runs (mj_m_162, 9, [(0, .ref 234), (1, .int a)], [.int (0 : Int32)], mj_h0) _ _
      refine mj_runs.step (S' := (mj_m_162, 12, [(0, .ref 234), (1, .int a)], [], mj_h0)) (mj_one_of mj_d_162_9 fun _ _ => rfl) ?_
      refine mj_runs.step (S' := (mj_m_162, 14, [(0, .ref 234), (1, .int a)], [.int (Int32.ofInt (-1000000002))], mj_h0)) (mj_one_of mj_d_162_12 fun _ _ => rfl) ?_
      exact mj_runs.ret (mj_ret_of mj_d_162_14 fun _ _ => rfl)
    · exact mj_sz0
  · by_cases c1 : a.toInt ≤ 30
    · refine ⟨(Int32.ofInt (-1000000003)), mj_h0, mj_h0, ?_, ?_, ?_⟩
      · refine mj_runs.step (S' := (mj_m_64, 1, [(0, .ref 0), (1, .int a)], [.ref 0], mj_h0)) (mj_one_of mj_d_64_0 fun _ _ => rfl) ?_
        refine mj_runs.step (S' := (mj_m_64, 2, [(0, .ref 0), (1, .int a)], [.int a, .ref 0], mj_h0)) (mj_one_of mj_d_64_1 fun _ _ => rfl) ?_
        refine mj_runs.call (S1 := (mj_m_46, 0, [(0, .ref 0), (1, .int a)], [], mj_h0)) (r1 := (some (.int (Int32.ofInt (-1000000003))))) (h1 := mj_h0) (mj_calls_v mj_d_64_2 rfl rfl rfl rfl rfl rfl ⟨Nat.le_of_ble_eq_true rfl, ⟨Nat.le_of_ble_eq_true rfl, Nat.le_of_ble_eq_true rfl, Nat.le_of_ble_eq_true rfl, Nat.le_of_ble_eq_true rfl, Nat.le_of_ble_eq_true rfl⟩⟩) ?_ ?_
        · refine mj_runs.step (S' := (mj_m_46, 1, [(0, .ref 0), (1, .int a)], [.int a], mj_h0)) (mj_one_of mj_d_46_0 fun _ _ => rfl) ?_
          refine mj_runs.step (S' := (mj_m_46, 2, [(0, .ref 0), (1, .int a)], [.int (1 : Int32), .int a], mj_h0)) (mj_one_of mj_d_46_1 fun _ _ => rfl) ?_
          refine mj_runs.step (S' := (mj_m_46, 5, [(0, .ref 0), (1, .int a)], [], mj_h0)) (mj_one_icmpF mj_d_46_2 (t := 11) rfl (mj_cF_lt (rfl : (a).toInt = (a).toInt) (show ((1 : Int32)).toInt = 1 by decide) (by omega))) ?_
          refine mj_runs.step (S' := (mj_m_46, 6, [(0, .ref 0), (1, .int a)], [.int a], mj_h0)) (mj_one_of mj_d_46_5 fun _ _ => rfl) ?_
          refine mj_runs.step (S' := (mj_m_46, 8, [(0, .ref 0), (1, .int a)], [.int (30 : Int32), .int a], mj_h0)) (mj_one_of mj_d_46_6 fun _ _ => rfl) ?_
          refine mj_runs.step (S' := (mj_m_46, 14, [(0, .ref 0), (1, .int a)], [], mj_h0)) (mj_one_icmpT mj_d_46_8 rfl (mj_cT_le (rfl : (a).toInt = (a).toInt) (show ((30 : Int32)).toInt = 30 by decide) (by omega))) ?_
          refine mj_runs.step (S' := (mj_m_46, 15, [(0, .ref 0), (1, .int a)], [.ref 0], mj_h0)) (mj_one_of mj_d_46_14 fun _ _ => rfl) ?_
          refine mj_runs.step (S' := (mj_m_46, 18, [(0, .ref 0), (1, .int a)], [.ref 8], mj_h0)) (mj_one_of mj_d_46_15 fun _ _ => rfl) ?_
          refine mj_runs.step (S' := (mj_m_46, 21, [(0, .ref 0), (1, .int a)], [.int (0 : Int32)], mj_h0)) (mj_one_of mj_d_46_18 fun _ _ => rfl) ?_
          refine mj_runs.step (S' := (mj_m_46, 24, [(0, .ref 0), (1, .int a)], [], mj_h0)) (mj_one_of mj_d_46_21 fun _ _ => rfl) ?_
          refine mj_runs.step (S' := (mj_m_46, 26, [(0, .ref 0), (1, .int a)], [.int (Int32.ofInt (-1000000003))], mj_h0)) (mj_one_of mj_d_46_24 fun _ _ => rfl) ?_
          exact mj_runs.ret (mj_ret_of mj_d_46_26 fun _ _ => rfl)
        show mj_runs (mj_m_64, 5, [(0, .ref 0), (1, .int a)], [.int (Int32.ofInt (-1000000003))], mj_h0) _ _
        refine mj_runs.step (S' := (mj_m_64, 6, [(2, .int (Int32.ofInt (-1000000003))), (0, .ref 0), (1, .int a)], [], mj_h0)) (mj_one_of mj_d_64_5 fun _ _ => rfl) ?_
        refine mj_runs.step (S' := (mj_m_64, 7, [(2, .int (Int32.ofInt (-1000000003))), (0, .ref 0), (1, .int a)], [.int (Int32.ofInt (-1000000003))], mj_h0)) (mj_one_of mj_d_64_6 fun _ _ => rfl) ?_
        refine mj_runs.step (S' := (mj_m_64, 10, [(2, .int (Int32.ofInt (-1000000003))), (0, .ref 0), (1, .int a)], [], mj_h0)) (mj_one_of mj_d_64_7 fun _ _ => rfl) ?_
        refine mj_runs.step (S' := (mj_m_64, 11, [(2, .int (Int32.ofInt (-1000000003))), (0, .ref 0), (1, .int a)], [.int (Int32.ofInt (-1000000003))], mj_h0)) (mj_one_of mj_d_64_10 fun _ _ => rfl) ?_
        exact mj_runs.ret (mj_ret_of mj_d_64_11 fun _ _ => rfl)
      · refine mj_runs.step (S' := (mj_m_162, 1, [(0, .ref 234), (1, .int a)], [.int a], mj_h0)) (mj_one_of mj_d_162_0 fun _ _ => rfl) ?_
        refine mj_runs.step (S' := (mj_m_162, 2, [(0, .ref 234), (1, .int a)], [.long (a).toInt64], mj_h0)) (mj_one_of mj_d_162_1 fun _ _ => rfl) ?_
        refine mj_runs.step (S' := (mj_m_162, 3, [(0, .ref 234), (1, .int a)], [.long (1 : Int64), .long (a).toInt64], mj_h0)) (mj_one_of mj_d_162_2 fun _ _ => rfl) ?_
        refine mj_runs.step (S' := (mj_m_162, 6, [(0, .ref 234), (1, .int a)], [.long (30 : Int64), .long (1 : Int64), .long (a).toInt64], mj_h0)) (mj_one_of mj_d_162_3 fun _ _ => rfl) ?_
        refine mj_runs.call (S1 := (mj_m_125, 0, [(0, .long (a).toInt64), (2, .long (1 : Int64)), (4, .long (30 : Int64))], [], mj_h0)) (r1 := (some (.int (1 : Int32)))) (h1 := mj_h0) (mj_calls_s mj_d_162_6 rfl rfl rfl rfl ⟨Nat.le_of_ble_eq_true rfl, Nat.le_of_ble_eq_true rfl, Nat.le_of_ble_eq_true rfl, Nat.le_of_ble_eq_true rfl, Nat.le_of_ble_eq_true rfl⟩) ?_ ?_
        · refine mj_runs.step (S' := (mj_m_125, 1, [(0, .long (a).toInt64), (2, .long (1 : Int64)), (4, .long (30 : Int64))], [.long (a).toInt64], mj_h0)) (mj_one_of mj_d_125_0 fun _ _ => rfl) ?_
          refine mj_runs.step (S' := (mj_m_125, 2, [(0, .long (a).toInt64), (2, .long (1 : Int64)), (4, .long (30 : Int64))], [.long (1 : Int64), .long (a).toInt64], mj_h0)) (mj_one_of mj_d_125_1 fun _ _ => rfl) ?_
          refine mj_runs.step (S' := (mj_m_125, 3, [(0, .long (a).toInt64), (2, .long (1 : Int64)), (4, .long (30 : Int64))], [.int (lg_cmp (a).toInt64 (1 : Int64))], mj_h0)) (mj_one_of mj_d_125_2 fun _ _ => rfl) ?_
          refine mj_runs.step (S' := (mj_m_125, 6, [(0, .long (a).toInt64), (2, .long (1 : Int64)), (4, .long (30 : Int64))], [], mj_h0)) (mj_one_ifF mj_d_125_3 (t := 17) rfl (mj_lgF_lt (mj_l32 a) (show ((1 : Int64)).toInt = 1 by decide) (by omega))) ?_
          refine mj_runs.step (S' := (mj_m_125, 7, [(0, .long (a).toInt64), (2, .long (1 : Int64)), (4, .long (30 : Int64))], [.long (a).toInt64], mj_h0)) (mj_one_of mj_d_125_6 fun _ _ => rfl) ?_
          refine mj_runs.step (S' := (mj_m_125, 9, [(0, .long (a).toInt64), (2, .long (1 : Int64)), (4, .long (30 : Int64))], [.long (30 : Int64), .long (a).toInt64], mj_h0)) (mj_one_of mj_d_125_7 fun _ _ => rfl) ?_
          refine mj_runs.step (S' := (mj_m_125, 10, [(0, .long (a).toInt64), (2, .long (1 : Int64)), (4, .long (30 : Int64))], [.int (lg_cmp (a).toInt64 (30 : Int64))], mj_h0)) (mj_one_of mj_d_125_9 fun _ _ => rfl) ?_
          refine mj_runs.step (S' := (mj_m_125, 13, [(0, .long (a).toInt64), (2, .long (1 : Int64)), (4, .long (30 : Int64))], [], mj_h0)) (mj_one_ifF mj_d_125_10 (t := 17) rfl (mj_lgF_gt (mj_l32 a) (show ((30 : Int64)).toInt = 30 by decide) (by omega))) ?_
          refine mj_runs.step (S' := (mj_m_125, 14, [(0, .long (a).toInt64), (2, .long (1 : Int64)), (4, .long (30 : Int64))], [.int (1 : Int32)], mj_h0)) (mj_one_of mj_d_125_13 fun _ _ => rfl) ?_
          refine mj_runs.step (S' := (mj_m_125, 18, [(0, .long (a).toInt64), (2, .long (1 : Int64)), (4, .long (30 : Int64))], [.int (1 : Int32)], mj_h0)) (mj_one_of mj_d_125_14 fun _ _ => rfl) ?_
          exact mj_runs.ret (mj_ret_of mj_d_125_18 fun _ _ => rfl)
        show mj_runs (mj_m_162, 9, [(0, .ref 234), (1, .int a)], [.int (1 : Int32)], mj_h0) _ _
        refine mj_runs.step (S' := (mj_m_162, 15, [(0, .ref 234), (1, .int a)], [], mj_h0)) (mj_one_of mj_d_162_9 fun _ _ => rfl) ?_
        refine mj_runs.step (S' := (mj_m_162, 16, [(0, .ref 234), (1, .int a)], [.ref 234], mj_h0)) (mj_one_of mj_d_162_15 fun _ _ => rfl) ?_
        refine mj_runs.step (S' := (mj_m_162, 19, [(0, .ref 234), (1, .int a)], [.int (0 : Int32)], mj_h0)) (mj_one_of mj_d_162_16 fun _ _ => rfl) ?_
        refine mj_runs.step (S' := (mj_m_162, 22, [(0, .ref 234), (1, .int a)], [], mj_h0)) (mj_one_of mj_d_162_19 fun _ _ => rfl) ?_
        refine mj_runs.step (S' := (mj_m_162, 24, [(0, .ref 234), (1, .int a)], [.int (Int32.ofInt (-1000000003))], mj_h0)) (mj_one_of mj_d_162_22 fun _ _ => rfl) ?_
        exact mj_runs.ret (mj_ret_of mj_d_162_24 fun _ _ => rfl)
      · exact mj_sz0
    · refine ⟨(Int32.ofInt (-1000000002)), mj_h0, mj_h0, ?_, ?_, ?_⟩
      · refine mj_runs.step (S' := (mj_m_64, 1, [(0, .ref 0), (1, .int a)], [.ref 0], mj_h0)) (mj_one_of mj_d_64_0 fun _ _ => rfl) ?_
        refine mj_runs.step (S' := (mj_m_64, 2, [(0, .ref 0), (1, .int a)], [.int a, .ref 0], mj_h0)) (mj_one_of mj_d_64_1 fun _ _ => rfl) ?_
        refine mj_runs.call (S1 := (mj_m_46, 0, [(0, .ref 0), (1, .int a)], [], mj_h0)) (r1 := (some (.int (Int32.ofInt (-1000000002))))) (h1 := mj_h0) (mj_calls_v mj_d_64_2 rfl rfl rfl rfl rfl rfl ⟨Nat.le_of_ble_eq_true rfl, ⟨Nat.le_of_ble_eq_true rfl, Nat.le_of_ble_eq_true rfl, Nat.le_of_ble_eq_true rfl, Nat.le_of_ble_eq_true rfl, Nat.le_of_ble_eq_true rfl⟩⟩) ?_ ?_
        · refine mj_runs.step (S' := (mj_m_46, 1, [(0, .ref 0), (1, .int a)], [.int a], mj_h0)) (mj_one_of mj_d_46_0 fun _ _ => rfl) ?_
          refine mj_runs.step (S' := (mj_m_46, 2, [(0, .ref 0), (1, .int a)], [.int (1 : Int32), .int a], mj_h0)) (mj_one_of mj_d_46_1 fun _ _ => rfl) ?_
          refine mj_runs.step (S' := (mj_m_46, 5, [(0, .ref 0), (1, .int a)], [], mj_h0)) (mj_one_icmpF mj_d_46_2 (t := 11) rfl (mj_cF_lt (rfl : (a).toInt = (a).toInt) (show ((1 : Int32)).toInt = 1 by decide) (by omega))) ?_
          refine mj_runs.step (S' := (mj_m_46, 6, [(0, .ref 0), (1, .int a)], [.int a], mj_h0)) (mj_one_of mj_d_46_5 fun _ _ => rfl) ?_
          refine mj_runs.step (S' := (mj_m_46, 8, [(0, .ref 0), (1, .int a)], [.int (30 : Int32), .int a], mj_h0)) (mj_one_of mj_d_46_6 fun _ _ => rfl) ?_
          refine mj_runs.step (S' := (mj_m_46, 11, [(0, .ref 0), (1, .int a)], [], mj_h0)) (mj_one_icmpF mj_d_46_8 (t := 14) rfl (mj_cF_le (rfl : (a).toInt = (a).toInt) (show ((30 : Int32)).toInt = 30 by decide) (by omega))) ?_
          refine mj_runs.step (S' := (mj_m_46, 13, [(0, .ref 0), (1, .int a)], [.int (Int32.ofInt (-1000000002))], mj_h0)) (mj_one_of mj_d_46_11 fun _ _ => rfl) ?_
          exact mj_runs.ret (mj_ret_of mj_d_46_13 fun _ _ => rfl)
        show mj_runs (mj_m_64, 5, [(0, .ref 0), (1, .int a)], [.int (Int32.ofInt (-1000000002))], mj_h0) _ _
        refine mj_runs.step (S' := (mj_m_64, 6, [(2, .int (Int32.ofInt (-1000000002))), (0, .ref 0), (1, .int a)], [], mj_h0)) (mj_one_of mj_d_64_5 fun _ _ => rfl) ?_
        refine mj_runs.step (S' := (mj_m_64, 7, [(2, .int (Int32.ofInt (-1000000002))), (0, .ref 0), (1, .int a)], [.int (Int32.ofInt (-1000000002))], mj_h0)) (mj_one_of mj_d_64_6 fun _ _ => rfl) ?_
        refine mj_runs.step (S' := (mj_m_64, 10, [(2, .int (Int32.ofInt (-1000000002))), (0, .ref 0), (1, .int a)], [], mj_h0)) (mj_one_of mj_d_64_7 fun _ _ => rfl) ?_
        refine mj_runs.step (S' := (mj_m_64, 11, [(2, .int (Int32.ofInt (-1000000002))), (0, .ref 0), (1, .int a)], [.int (Int32.ofInt (-1000000002))], mj_h0)) (mj_one_of mj_d_64_10 fun _ _ => rfl) ?_
        exact mj_runs.ret (mj_ret_of mj_d_64_11 fun _ _ => rfl)
      · refine mj_runs.step (S' := (mj_m_162, 1, [(0, .ref 234), (1, .int a)], [.int a], mj_h0)) (mj_one_of mj_d_162_0 fun _ _ => rfl) ?_
        refine mj_runs.step (S' := (mj_m_162, 2, [(0, .ref 234), (1, .int a)], [.long (a).toInt64], mj_h0)) (mj_one_of mj_d_162_1 fun _ _ => rfl) ?_
        refine mj_runs.step (S' := (mj_m_162, 3, [(0, .ref 234), (1, .int a)], [.long (1 : Int64), .long (a).toInt64], mj_h0)) (mj_one_of mj_d_162_2 fun _ _ => rfl) ?_
        refine mj_runs.step (S' := (mj_m_162, 6, [(0, .ref 234), (1, .int a)], [.long (30 : Int64), .long (1 : Int64), .long (a).toInt64], mj_h0)) (mj_one_of mj_d_162_3 fun _ _ => rfl) ?_
        refine mj_runs.call (S1 := (mj_m_125, 0, [(0, .long (a).toInt64), (2, .long (1 : Int64)), (4, .long (30 : Int64))], [], mj_h0)) (r1 := (some (.int (0 : Int32)))) (h1 := mj_h0) (mj_calls_s mj_d_162_6 rfl rfl rfl rfl ⟨Nat.le_of_ble_eq_true rfl, Nat.le_of_ble_eq_true rfl, Nat.le_of_ble_eq_true rfl, Nat.le_of_ble_eq_true rfl, Nat.le_of_ble_eq_true rfl⟩) ?_ ?_
        · refine mj_runs.step (S' := (mj_m_125, 1, [(0, .long (a).toInt64), (2, .long (1 : Int64)), (4, .long (30 : Int64))], [.long (a).toInt64], mj_h0)) (mj_one_of mj_d_125_0 fun _ _ => rfl) ?_
          refine mj_runs.step (S' := (mj_m_125, 2, [(0, .long (a).toInt64), (2, .long (1 : Int64)), (4, .long (30 : Int64))], [.long (1 : Int64), .long (a).toInt64], mj_h0)) (mj_one_of mj_d_125_1 fun _ _ => rfl) ?_
          refine mj_runs.step (S' := (mj_m_125, 3, [(0, .long (a).toInt64), (2, .long (1 : Int64)), (4, .long (30 : Int64))], [.int (lg_cmp (a).toInt64 (1 : Int64))], mj_h0)) (mj_one_of mj_d_125_2 fun _ _ => rfl) ?_
          refine mj_runs.step (S' := (mj_m_125, 6, [(0, .long (a).toInt64), (2, .long (1 : Int64)), (4, .long (30 : Int64))], [], mj_h0)) (mj_one_ifF mj_d_125_3 (t := 17) rfl (mj_lgF_lt (mj_l32 a) (show ((1 : Int64)).toInt = 1 by decide) (by omega))) ?_
          refine mj_runs.step (S' := (mj_m_125, 7, [(0, .long (a).toInt64), (2, .long (1 : Int64)), (4, .long (30 : Int64))], [.long (a).toInt64], mj_h0)) (mj_one_of mj_d_125_6 fun _ _ => rfl) ?_
          refine mj_runs.step (S' := (mj_m_125, 9, [(0, .long (a).toInt64), (2, .long (1 : Int64)), (4, .long (30 : Int64))], [.long (30 : Int64), .long (a).toInt64], mj_h0)) (mj_one_of mj_d_125_7 fun _ _ => rfl) ?_
          refine mj_runs.step (S' := (mj_m_125, 10, [(0, .long (a).toInt64), (2, .long (1 : Int64)), (4, .long (30 : Int64))], [.int (lg_cmp (a).toInt64 (30 : Int64))], mj_h0)) (mj_one_of mj_d_125_9 fun _ _ => rfl) ?_
          refine mj_runs.step (S' := (mj_m_125, 17, [(0, .long (a).toInt64), (2, .long (1 : Int64)), (4, .long (30 : Int64))], [], mj_h0)) (mj_one_ifT mj_d_125_10 rfl (mj_lgT_gt (mj_l32 a) (show ((30 : Int64)).toInt = 30 by decide) (by omega))) ?_
          refine mj_runs.step (S' := (mj_m_125, 18, [(0, .long (a).toInt64), (2, .long (1 : Int64)), (4, .long (30 : Int64))], [.int (0 : Int32)], mj_h0)) (mj_one_of mj_d_125_17 fun _ _ => rfl) ?_
          exact mj_runs.ret (mj_ret_of mj_d_125_18 fun _ _ => rfl)
        show mj_runs (mj_m_162, 9, [(0, .ref 234), (1, .int a)], [.int (0 : Int32)], mj_h0) _ _
        refine mj_runs.step (S' := (mj_m_162, 12, [(0, .ref 234), (1, .int a)], [], mj_h0)) (mj_one_of mj_d_162_9 fun _ _ => rfl) ?_
        refine mj_runs.step (S' := (mj_m_162, 14, [(0, .ref 234), (1, .int a)], [.int (Int32.ofInt (-1000000002))], mj_h0)) (mj_one_of mj_d_162_12 fun _ _ => rfl) ?_
        exact mj_runs.ret (mj_ret_of mj_d_162_14 fun _ _ => rfl)
      · exact mj_sz0
set_option maxRecDepth 1000000 in
set_option maxHeartbeats 4000000 in
theorem mj_op_undo (a : Int32) : ∃ (r : Int32) (h1 h2 : mj_H), mj_runs (mj_m_67, 0, [(0, .ref 0), (1, .int a)], [], mj_h0) (some (.int r)) h1 ∧ mj_runs (mj_m_164, 0, [(0, .ref 234), (1, .int a)], [], h1) (some (.int r)) h2 ∧ mj_sz h2 := by
  by_cases c0 : a.toInt < 1
  · refine ⟨(Int32.ofInt (-1000000002)), mj_h0, mj_h0, ?_, ?_, ?_⟩
    · refine mj_runs.step (S' := (mj_m_67, 1, [(0, .ref 0), (1, .int a)], [.int a], mj_h0)) (mj_one_of mj_d_67_0 fun _ _ => rfl) ?_
      refine mj_runs.step (S' := (mj_m_67, 2, [(0, .ref 0), (1, .int a)], [.int (1 : Int32), .int a], mj_h0)) (mj_one_of mj_d_67_1 fun _ _ => rfl) ?_
      refine mj_runs.step (S' := (mj_m_67, 11, [(0, .ref 0), (1, .int a)], [], mj_h0)) (mj_one_icmpT mj_d_67_2 rfl (mj_cT_lt (rfl : (a).toInt = (a).toInt) (show ((1 : Int32)).toInt = 1 by decide) (by omega))) ?_
      refine mj_runs.step (S' := (mj_m_67, 13, [(0, .ref 0), (1, .int a)], [.int (Int32.ofInt (-1000000002))], mj_h0)) (mj_one_of mj_d_67_11 fun _ _ => rfl) ?_
      exact mj_runs.ret (mj_ret_of mj_d_67_13 fun _ _ => rfl)
    · refine mj_runs.step (S' := (mj_m_164, 1, [(0, .ref 234), (1, .int a)], [.int a], mj_h0)) (mj_one_of mj_d_164_0 fun _ _ => rfl) ?_
      refine mj_runs.step (S' := (mj_m_164, 2, [(0, .ref 234), (1, .int a)], [.long (a).toInt64], mj_h0)) (mj_one_of mj_d_164_1 fun _ _ => rfl) ?_
      refine mj_runs.step (S' := (mj_m_164, 3, [(0, .ref 234), (1, .int a)], [.long (1 : Int64), .long (a).toInt64], mj_h0)) (mj_one_of mj_d_164_2 fun _ _ => rfl) ?_
      refine mj_runs.step (S' := (mj_m_164, 6, [(0, .ref 234), (1, .int a)], [.long (30 : Int64), .long (1 : Int64), .long (a).toInt64], mj_h0)) (mj_one_of mj_d_164_3 fun _ _ => rfl) ?_
      refine mj_runs.call (S1 := (mj_m_125, 0, [(0, .long (a).toInt64), (2, .long (1 : Int64)), (4, .long (30 : Int64))], [], mj_h0)) (r1 := (some (.int (0 : Int32)))) (h1 := mj_h0) (mj_calls_s mj_d_164_6 rfl rfl rfl rfl ⟨Nat.le_of_ble_eq_true rfl, Nat.le_of_ble_eq_true rfl, Nat.le_of_ble_eq_true rfl, Nat.le_of_ble_eq_true rfl, Nat.le_of_ble_eq_true rfl⟩) ?_ ?_
      · refine mj_runs.step (S' := (mj_m_125, 1, [(0, .long (a).toInt64), (2, .long (1 : Int64)), (4, .long (30 : Int64))], [.long (a).toInt64], mj_h0)) (mj_one_of mj_d_125_0 fun _ _ => rfl) ?_
        refine mj_runs.step (S' := (mj_m_125, 2, [(0, .long (a).toInt64), (2, .long (1 : Int64)), (4, .long (30 : Int64))], [.long (1 : Int64), .long (a).toInt64], mj_h0)) (mj_one_of mj_d_125_1 fun _ _ => rfl) ?_
        refine mj_runs.step (S' := (mj_m_125, 3, [(0, .long (a).toInt64), (2, .long (1 : Int64)), (4, .long (30 : Int64))], [.int (lg_cmp (a).toInt64 (1 : Int64))], mj_h0)) (mj_one_of mj_d_125_2 fun _ _ => rfl) ?_
        refine mj_runs.step (S' := (mj_m_125, 17, [(0, .long (a).toInt64), (2, .long (1 : Int64)), (4, .long (30 : Int64))], [], mj_h0)) (mj_one_ifT mj_d_125_3 rfl (mj_lgT_lt (mj_l32 a) (show ((1 : Int64)).toInt = 1 by decide) (by omega))) ?_
        refine mj_runs.step (S' := (mj_m_125, 18, [(0, .long (a).toInt64), (2, .long (1 : Int64)), (4, .long (30 : Int64))], [.int (0 : Int32)], mj_h0)) (mj_one_of mj_d_125_17 fun _ _ => rfl) ?_
        exact mj_runs.ret (mj_ret_of mj_d_125_18 fun _ _ => rfl)
      show mj_runs (mj_m_164, 9, [(0, .ref 234), (1, .int a)], [.int (0 : Int32)], mj_h0) _ _
      refine mj_runs.step (S' := (mj_m_164, 12, [(0, .ref 234), (1, .int a)], [], mj_h0)) (mj_one_of mj_d_164_9 fun _ _ => rfl) ?_
      refine mj_runs.step (S' := (mj_m_164, 14, [(0, .ref 234), (1, .int a)], [.int (Int32.ofInt (-1000000002))], mj_h0)) (mj_one_of mj_d_164_12 fun _ _ => rfl) ?_
      exact mj_runs.ret (mj_ret_of mj_d_164_14 fun _ _ => rfl)
    · exact mj_sz0
  · by_cases c1 : a.toInt ≤ 30
    · refine ⟨(Int32.ofInt (-1000000003)), mj_h0, mj_h0, ?_, ?_, ?_⟩
      · refine mj_runs.step (S' := (mj_m_67, 1, [(0, .ref 0), (1, .int a)], [.int a], mj_h0)) (mj_one_of mj_d_67_0 fun _ _ => rfl) ?_
        refine mj_runs.step (S' := (mj_m_67, 2, [(0, .ref 0), (1, .int a)], [.int (1 : Int32), .int a], mj_h0)) (mj_one_of mj_d_67_1 fun _ _ => rfl) ?_
        refine mj_runs.step (S' := (mj_m_67, 5, [(0, .ref 0), (1, .int a)], [], mj_h0)) (mj_one_icmpF mj_d_67_2 (t := 11) rfl (mj_cF_lt (rfl : (a).toInt = (a).toInt) (show ((1 : Int32)).toInt = 1 by decide) (by omega))) ?_
        refine mj_runs.step (S' := (mj_m_67, 6, [(0, .ref 0), (1, .int a)], [.int a], mj_h0)) (mj_one_of mj_d_67_5 fun _ _ => rfl) ?_
        refine mj_runs.step (S' := (mj_m_67, 8, [(0, .ref 0), (1, .int a)], [.int (30 : Int32), .int a], mj_h0)) (mj_one_of mj_d_67_6 fun _ _ => rfl) ?_
        refine mj_runs.step (S' := (mj_m_67, 14, [(0, .ref 0), (1, .int a)], [], mj_h0)) (mj_one_icmpT mj_d_67_8 rfl (mj_cT_le (rfl : (a).toInt = (a).toInt) (show ((30 : Int32)).toInt = 30 by decide) (by omega))) ?_
        refine mj_runs.step (S' := (mj_m_67, 15, [(0, .ref 0), (1, .int a)], [.int a], mj_h0)) (mj_one_of mj_d_67_14 fun _ _ => rfl) ?_
        refine mj_runs.step (S' := (mj_m_67, 16, [(0, .ref 0), (1, .int a)], [.ref 0, .int a], mj_h0)) (mj_one_of mj_d_67_15 fun _ _ => rfl) ?_
        refine mj_runs.step (S' := (mj_m_67, 19, [(0, .ref 0), (1, .int a)], [.ref 19, .int a], mj_h0)) (mj_one_of mj_d_67_16 fun _ _ => rfl) ?_
        refine mj_runs.step (S' := (mj_m_67, 22, [(0, .ref 0), (1, .int a)], [.int (0 : Int32), .int a], mj_h0)) (mj_one_of mj_d_67_19 fun _ _ => rfl) ?_
        refine mj_runs.step (S' := (mj_m_67, 25, [(0, .ref 0), (1, .int a)], [], mj_h0)) (mj_one_icmpF mj_d_67_22 (t := 28) rfl (mj_cF_le (rfl : (a).toInt = (a).toInt) (show ((0 : Int32)).toInt = 0 by decide) (by omega))) ?_
        refine mj_runs.step (S' := (mj_m_67, 27, [(0, .ref 0), (1, .int a)], [.int (Int32.ofInt (-1000000003))], mj_h0)) (mj_one_of mj_d_67_25 fun _ _ => rfl) ?_
        exact mj_runs.ret (mj_ret_of mj_d_67_27 fun _ _ => rfl)
      · refine mj_runs.step (S' := (mj_m_164, 1, [(0, .ref 234), (1, .int a)], [.int a], mj_h0)) (mj_one_of mj_d_164_0 fun _ _ => rfl) ?_
        refine mj_runs.step (S' := (mj_m_164, 2, [(0, .ref 234), (1, .int a)], [.long (a).toInt64], mj_h0)) (mj_one_of mj_d_164_1 fun _ _ => rfl) ?_
        refine mj_runs.step (S' := (mj_m_164, 3, [(0, .ref 234), (1, .int a)], [.long (1 : Int64), .long (a).toInt64], mj_h0)) (mj_one_of mj_d_164_2 fun _ _ => rfl) ?_
        refine mj_runs.step (S' := (mj_m_164, 6, [(0, .ref 234), (1, .int a)], [.long (30 : Int64), .long (1 : Int64), .long (a).toInt64], mj_h0)) (mj_one_of mj_d_164_3 fun _ _ => rfl) ?_
        refine mj_runs.call (S1 := (mj_m_125, 0, [(0, .long (a).toInt64), (2, .long (1 : Int64)), (4, .long (30 : Int64))], [], mj_h0)) (r1 := (some (.int (1 : Int32)))) (h1 := mj_h0) (mj_calls_s mj_d_164_6 rfl rfl rfl rfl ⟨Nat.le_of_ble_eq_true rfl, Nat.le_of_ble_eq_true rfl, Nat.le_of_ble_eq_true rfl, Nat.le_of_ble_eq_true rfl, Nat.le_of_ble_eq_true rfl⟩) ?_ ?_
        · refine mj_runs.step (S' := (mj_m_125, 1, [(0, .long (a).toInt64), (2, .long (1 : Int64)), (4, .long (30 : Int64))], [.long (a).toInt64], mj_h0)) (mj_one_of mj_d_125_0 fun _ _ => rfl) ?_
          refine mj_runs.step (S' := (mj_m_125, 2, [(0, .long (a).toInt64), (2, .long (1 : Int64)), (4, .long (30 : Int64))], [.long (1 : Int64), .long (a).toInt64], mj_h0)) (mj_one_of mj_d_125_1 fun _ _ => rfl) ?_
          refine mj_runs.step (S' := (mj_m_125, 3, [(0, .long (a).toInt64), (2, .long (1 : Int64)), (4, .long (30 : Int64))], [.int (lg_cmp (a).toInt64 (1 : Int64))], mj_h0)) (mj_one_of mj_d_125_2 fun _ _ => rfl) ?_
          refine mj_runs.step (S' := (mj_m_125, 6, [(0, .long (a).toInt64), (2, .long (1 : Int64)), (4, .long (30 : Int64))], [], mj_h0)) (mj_one_ifF mj_d_125_3 (t := 17) rfl (mj_lgF_lt (mj_l32 a) (show ((1 : Int64)).toInt = 1 by decide) (by omega))) ?_
          refine mj_runs.step (S' := (mj_m_125, 7, [(0, .long (a).toInt64), (2, .long (1 : Int64)), (4, .long (30 : Int64))], [.long (a).toInt64], mj_h0)) (mj_one_of mj_d_125_6 fun _ _ => rfl) ?_
          refine mj_runs.step (S' := (mj_m_125, 9, [(0, .long (a).toInt64), (2, .long (1 : Int64)), (4, .long (30 : Int64))], [.long (30 : Int64), .long (a).toInt64], mj_h0)) (mj_one_of mj_d_125_7 fun _ _ => rfl) ?_
          refine mj_runs.step (S' := (mj_m_125, 10, [(0, .long (a).toInt64), (2, .long (1 : Int64)), (4, .long (30 : Int64))], [.int (lg_cmp (a).toInt64 (30 : Int64))], mj_h0)) (mj_one_of mj_d_125_9 fun _ _ => rfl) ?_
          refine mj_runs.step (S' := (mj_m_125, 13, [(0, .long (a).toInt64), (2, .long (1 : Int64)), (4, .long (30 : Int64))], [], mj_h0)) (mj_one_ifF mj_d_125_10 (t := 17) rfl (mj_lgF_gt (mj_l32 a) (show ((30 : Int64)).toInt = 30 by decide) (by omega))) ?_
          refine mj_runs.step (S' := (mj_m_125, 14, [(0, .long (a).toInt64), (2, .long (1 : Int64)), (4, .long (30 : Int64))], [.int (1 : Int32)], mj_h0)) (mj_one_of mj_d_125_13 fun _ _ => rfl) ?_
          refine mj_runs.step (S' := (mj_m_125, 18, [(0, .long (a).toInt64), (2, .long (1 : Int64)), (4, .long (30 : Int64))], [.int (1 : Int32)], mj_h0)) (mj_one_of mj_d_125_14 fun _ _ => rfl) ?_
          exact mj_runs.ret (mj_ret_of mj_d_125_18 fun _ _ => rfl)
        show mj_runs (mj_m_164, 9, [(0, .ref 234), (1, .int a)], [.int (1 : Int32)], mj_h0) _ _
        refine mj_runs.step (S' := (mj_m_164, 15, [(0, .ref 234), (1, .int a)], [], mj_h0)) (mj_one_of mj_d_164_9 fun _ _ => rfl) ?_
        refine mj_runs.step (S' := (mj_m_164, 16, [(0, .ref 234), (1, .int a)], [.int a], mj_h0)) (mj_one_of mj_d_164_15 fun _ _ => rfl) ?_
        refine mj_runs.step (S' := (mj_m_164, 17, [(0, .ref 234), (1, .int a)], [.ref 234, .int a], mj_h0)) (mj_one_of mj_d_164_16 fun _ _ => rfl) ?_
        refine mj_runs.step (S' := (mj_m_164, 20, [(0, .ref 234), (1, .int a)], [.int (0 : Int32), .int a], mj_h0)) (mj_one_of mj_d_164_17 fun _ _ => rfl) ?_
        refine mj_runs.step (S' := (mj_m_164, 23, [(0, .ref 234), (1, .int a)], [], mj_h0)) (mj_one_icmpF mj_d_164_20 (t := 26) rfl (mj_cF_le (rfl : (a).toInt = (a).toInt) (show ((0 : Int32)).toInt = 0 by decide) (by omega))) ?_
        refine mj_runs.step (S' := (mj_m_164, 25, [(0, .ref 234), (1, .int a)], [.int (Int32.ofInt (-1000000003))], mj_h0)) (mj_one_of mj_d_164_23 fun _ _ => rfl) ?_
        exact mj_runs.ret (mj_ret_of mj_d_164_25 fun _ _ => rfl)
      · exact mj_sz0
    · refine ⟨(Int32.ofInt (-1000000002)), mj_h0, mj_h0, ?_, ?_, ?_⟩
      · refine mj_runs.step (S' := (mj_m_67, 1, [(0, .ref 0), (1, .int a)], [.int a], mj_h0)) (mj_one_of mj_d_67_0 fun _ _ => rfl) ?_
        refine mj_runs.step (S' := (mj_m_67, 2, [(0, .ref 0), (1, .int a)], [.int (1 : Int32), .int a], mj_h0)) (mj_one_of mj_d_67_1 fun _ _ => rfl) ?_
        refine mj_runs.step (S' := (mj_m_67, 5, [(0, .ref 0), (1, .int a)], [], mj_h0)) (mj_one_icmpF mj_d_67_2 (t := 11) rfl (mj_cF_lt (rfl : (a).toInt = (a).toInt) (show ((1 : Int32)).toInt = 1 by decide) (by omega))) ?_
        refine mj_runs.step (S' := (mj_m_67, 6, [(0, .ref 0), (1, .int a)], [.int a], mj_h0)) (mj_one_of mj_d_67_5 fun _ _ => rfl) ?_
        refine mj_runs.step (S' := (mj_m_67, 8, [(0, .ref 0), (1, .int a)], [.int (30 : Int32), .int a], mj_h0)) (mj_one_of mj_d_67_6 fun _ _ => rfl) ?_
        refine mj_runs.step (S' := (mj_m_67, 11, [(0, .ref 0), (1, .int a)], [], mj_h0)) (mj_one_icmpF mj_d_67_8 (t := 14) rfl (mj_cF_le (rfl : (a).toInt = (a).toInt) (show ((30 : Int32)).toInt = 30 by decide) (by omega))) ?_
        refine mj_runs.step (S' := (mj_m_67, 13, [(0, .ref 0), (1, .int a)], [.int (Int32.ofInt (-1000000002))], mj_h0)) (mj_one_of mj_d_67_11 fun _ _ => rfl) ?_
        exact mj_runs.ret (mj_ret_of mj_d_67_13 fun _ _ => rfl)
      · refine mj_runs.step (S' := (mj_m_164, 1, [(0, .ref 234), (1, .int a)], [.int a], mj_h0)) (mj_one_of mj_d_164_0 fun _ _ => rfl) ?_
        refine mj_runs.step (S' := (mj_m_164, 2, [(0, .ref 234), (1, .int a)], [.long (a).toInt64], mj_h0)) (mj_one_of mj_d_164_1 fun _ _ => rfl) ?_
        refine mj_runs.step (S' := (mj_m_164, 3, [(0, .ref 234), (1, .int a)], [.long (1 : Int64), .long (a).toInt64], mj_h0)) (mj_one_of mj_d_164_2 fun _ _ => rfl) ?_
        refine mj_runs.step (S' := (mj_m_164, 6, [(0, .ref 234), (1, .int a)], [.long (30 : Int64), .long (1 : Int64), .long (a).toInt64], mj_h0)) (mj_one_of mj_d_164_3 fun _ _ => rfl) ?_
        refine mj_runs.call (S1 := (mj_m_125, 0, [(0, .long (a).toInt64), (2, .long (1 : Int64)), (4, .long (30 : Int64))], [], mj_h0)) (r1 := (some (.int (0 : Int32)))) (h1 := mj_h0) (mj_calls_s mj_d_164_6 rfl rfl rfl rfl ⟨Nat.le_of_ble_eq_true rfl, Nat.le_of_ble_eq_true rfl, Nat.le_of_ble_eq_true rfl, Nat.le_of_ble_eq_true rfl, Nat.le_of_ble_eq_true rfl⟩) ?_ ?_
        · refine mj_runs.step (S' := (mj_m_125, 1, [(0, .long (a).toInt64), (2, .long (1 : Int64)), (4, .long (30 : Int64))], [.long (a).toInt64], mj_h0)) (mj_one_of mj_d_125_0 fun _ _ => rfl) ?_
          refine mj_runs.step (S' := (mj_m_125, 2, [(0, .long (a).toInt64), (2, .long (1 : Int64)), (4, .long (30 : Int64))], [.long (1 : Int64), .long (a).toInt64], mj_h0)) (mj_one_of mj_d_125_1 fun _ _ => rfl) ?_
          refine mj_runs.step (S' := (mj_m_125, 3, [(0, .long (a).toInt64), (2, .long (1 : Int64)), (4, .long (30 : Int64))], [.int (lg_cmp (a).toInt64 (1 : Int64))], mj_h0)) (mj_one_of mj_d_125_2 fun _ _ => rfl) ?_
          refine mj_runs.step (S' := (mj_m_125, 6, [(0, .long (a).toInt64), (2, .long (1 : Int64)), (4, .long (30 : Int64))], [], mj_h0)) (mj_one_ifF mj_d_125_3 (t := 17) rfl (mj_lgF_lt (mj_l32 a) (show ((1 : Int64)).toInt = 1 by decide) (by omega))) ?_
          refine mj_runs.step (S' := (mj_m_125, 7, [(0, .long (a).toInt64), (2, .long (1 : Int64)), (4, .long (30 : Int64))], [.long (a).toInt64], mj_h0)) (mj_one_of mj_d_125_6 fun _ _ => rfl) ?_
          refine mj_runs.step (S' := (mj_m_125, 9, [(0, .long (a).toInt64), (2, .long (1 : Int64)), (4, .long (30 : Int64))], [.long (30 : Int64), .long (a).toInt64], mj_h0)) (mj_one_of mj_d_125_7 fun _ _ => rfl) ?_
          refine mj_runs.step (S' := (mj_m_125, 10, [(0, .long (a).toInt64), (2, .long (1 : Int64)), (4, .long (30 : Int64))], [.int (lg_cmp (a).toInt64 (30 : Int64))], mj_h0)) (mj_one_of mj_d_125_9 fun _ _ => rfl) ?_
          refine mj_runs.step (S' := (mj_m_125, 17, [(0, .long (a).toInt64), (2, .long (1 : Int64)), (4, .long (30 : Int64))], [], mj_h0)) (mj_one_ifT mj_d_125_10 rfl (mj_lgT_gt (mj_l32 a) (show ((30 : Int64)).toInt = 30 by decide) (by omega))) ?_
          refine mj_runs.step (S' := (mj_m_125, 18, [(0, .long (a).toInt64), (2, .long (1 : Int64)), (4, .long (30 : Int64))], [.int (0 : Int32)], mj_h0)) (mj_one_of mj_d_125_17 fun _ _ => rfl) ?_
          exact mj_runs.ret (mj_ret_of mj_d_125_18 fun _ _ => rfl)
        show mj_runs (mj_m_164, 9, [(0, .ref 234), (1, .int a)], [.int (0 : Int32)], mj_h0) _ _
        refine mj_runs.step (S' := (mj_m_164, 12, [(0, .ref 234), (1, .int a)], [], mj_h0)) (mj_one_of mj_d_164_9 fun _ _ => rfl) ?_
        refine mj_runs.step (S' := (mj_m_164, 14, [(0, .ref 234), (1, .int a)], [.int (Int32.ofInt (-1000000002))], mj_h0)) (mj_one_of mj_d_164_12 fun _ _ => rfl) ?_
        exact mj_runs.ret (mj_ret_of mj_d_164_14 fun _ _ => rfl)
      · exact mj_sz0
set_option maxRecDepth 1000000 in
set_option maxHeartbeats 4000000 in
theorem mj_op_burned (a b c : Int32) : ∃ (r : Int32) (h1 h2 : mj_H), mj_runs (mj_m_69, 0, [(0, .ref 0), (1, .int a), (2, .int b), (3, .int c)], [], mj_h0) (some (.int r)) h1 ∧ mj_runs (mj_m_165, 0, [(0, .ref 234), (1, .int a), (2, .int b), (3, .int c)], [], h1) (some (.int r)) h2 ∧ mj_sz h2 := by
  by_cases c0 : a.toInt < 0
  · refine ⟨(Int32.ofInt (-1000000001)), mj_h0, mj_h0, ?_, ?_, ?_⟩
    · refine mj_runs.step (S' := (mj_m_69, 1, [(0, .ref 0), (1, .int a), (2, .int b), (3, .int c)], [.ref 0], mj_h0)) (mj_one_of mj_d_69_0 fun _ _ => rfl) ?_
      refine mj_runs.step (S' := (mj_m_69, 2, [(0, .ref 0), (1, .int a), (2, .int b), (3, .int c)], [.int a, .ref 0], mj_h0)) (mj_one_of mj_d_69_1 fun _ _ => rfl) ?_
      refine mj_runs.call (S1 := (mj_m_39, 0, [(0, .ref 0), (1, .int a)], [], mj_h0)) (r1 := (some (.int (0 : Int32)))) (h1 := mj_h0) (mj_calls_v mj_d_69_2 rfl rfl rfl rfl rfl rfl ⟨Nat.le_of_ble_eq_true rfl, ⟨Nat.le_of_ble_eq_true rfl, Nat.le_of_ble_eq_true rfl, Nat.le_of_ble_eq_true rfl, Nat.le_of_ble_eq_true rfl, Nat.le_of_ble_eq_true rfl⟩⟩) ?_ ?_
      · refine mj_runs.step (S' := (mj_m_39, 1, [(0, .ref 0), (1, .int a)], [.int a], mj_h0)) (mj_one_of mj_d_39_0 fun _ _ => rfl) ?_
        refine mj_runs.step (S' := (mj_m_39, 19, [(0, .ref 0), (1, .int a)], [], mj_h0)) (mj_one_ifT mj_d_39_1 rfl (mj_cT_lt (rfl : (a).toInt = (a).toInt) (show ((0 : Int32)).toInt = 0 by decide) (by omega))) ?_
        refine mj_runs.step (S' := (mj_m_39, 20, [(0, .ref 0), (1, .int a)], [.int (0 : Int32)], mj_h0)) (mj_one_of mj_d_39_19 fun _ _ => rfl) ?_
        exact mj_runs.ret (mj_ret_of mj_d_39_20 fun _ _ => rfl)
      show mj_runs (mj_m_69, 5, [(0, .ref 0), (1, .int a), (2, .int b), (3, .int c)], [.int (0 : Int32)], mj_h0) _ _
      refine mj_runs.step (S' := (mj_m_69, 8, [(0, .ref 0), (1, .int a), (2, .int b), (3, .int c)], [], mj_h0)) (mj_one_of mj_d_69_5 fun _ _ => rfl) ?_
      refine mj_runs.step (S' := (mj_m_69, 10, [(0, .ref 0), (1, .int a), (2, .int b), (3, .int c)], [.int (Int32.ofInt (-1000000001))], mj_h0)) (mj_one_of mj_d_69_8 fun _ _ => rfl) ?_
      exact mj_runs.ret (mj_ret_of mj_d_69_10 fun _ _ => rfl)
    · refine mj_runs.step (S' := (mj_m_165, 1, [(0, .ref 234), (1, .int a), (2, .int b), (3, .int c)], [.ref 234], mj_h0)) (mj_one_of mj_d_165_0 fun _ _ => rfl) ?_
      refine mj_runs.step (S' := (mj_m_165, 2, [(0, .ref 234), (1, .int a), (2, .int b), (3, .int c)], [.int a, .ref 234], mj_h0)) (mj_one_of mj_d_165_1 fun _ _ => rfl) ?_
      refine mj_runs.call (S1 := (mj_m_140, 0, [(0, .ref 234), (1, .int a)], [], mj_h0)) (r1 := (some (.int (0 : Int32)))) (h1 := mj_h0) (mj_calls_v mj_d_165_2 rfl rfl rfl rfl rfl rfl ⟨Nat.le_of_ble_eq_true rfl, ⟨Nat.le_of_ble_eq_true rfl, Nat.le_of_ble_eq_true rfl, Nat.le_of_ble_eq_true rfl, Nat.le_of_ble_eq_true rfl, Nat.le_of_ble_eq_true rfl⟩⟩) ?_ ?_
      · refine mj_runs.step (S' := (mj_m_140, 1, [(0, .ref 234), (1, .int a)], [.int a], mj_h0)) (mj_one_of mj_d_140_0 fun _ _ => rfl) ?_
        refine mj_runs.step (S' := (mj_m_140, 2, [(0, .ref 234), (1, .int a)], [.long (a).toInt64], mj_h0)) (mj_one_of mj_d_140_1 fun _ _ => rfl) ?_
        refine mj_runs.step (S' := (mj_m_140, 3, [(0, .ref 234), (1, .int a)], [.long (0 : Int64), .long (a).toInt64], mj_h0)) (mj_one_of mj_d_140_2 fun _ _ => rfl) ?_
        refine mj_runs.step (S' := (mj_m_140, 4, [(0, .ref 234), (1, .int a)], [.ref 234, .long (0 : Int64), .long (a).toInt64], mj_h0)) (mj_one_of mj_d_140_3 fun _ _ => rfl) ?_
        refine mj_runs.step (S' := (mj_m_140, 7, [(0, .ref 234), (1, .int a)], [.int (0 : Int32), .long (0 : Int64), .long (a).toInt64], mj_h0)) (mj_one_of mj_d_140_4 fun _ _ => rfl) ?_
        refine mj_runs.step (S' := (mj_m_140, 8, [(0, .ref 234), (1, .int a)], [.int (1 : Int32), .int (0 : Int32), .long (0 : Int64), .long (a).toInt64], mj_h0)) (mj_one_of mj_d_140_7 fun _ _ => rfl) ?_
        refine mj_runs.step (S' := (mj_m_140, 9, [(0, .ref 234), (1, .int a)], [.int (Int32.ofInt (-1)), .long (0 : Int64), .long (a).toInt64], mj_h0)) (mj_one_of mj_d_140_8 fun _ _ => rfl) ?_
        refine mj_runs.step (S' := (mj_m_140, 10, [(0, .ref 234), (1, .int a)], [.long (Int64.ofInt (-1)), .long (0 : Int64), .long (a).toInt64], mj_h0)) (mj_one_of mj_d_140_9 fun _ _ => rfl) ?_
        refine mj_runs.call (S1 := (mj_m_125, 0, [(0, .long (a).toInt64), (2, .long (0 : Int64)), (4, .long (Int64.ofInt (-1)))], [], mj_h0)) (r1 := (some (.int (0 : Int32)))) (h1 := mj_h0) (mj_calls_s mj_d_140_10 rfl rfl rfl rfl ⟨Nat.le_of_ble_eq_true rfl, Nat.le_of_ble_eq_true rfl, Nat.le_of_ble_eq_true rfl, Nat.le_of_ble_eq_true rfl, Nat.le_of_ble_eq_true rfl⟩) ?_ ?_
        · refine mj_runs.step (S' := (mj_m_125, 1, [(0, .long (a).toInt64), (2, .long (0 : Int64)), (4, .long (Int64.ofInt (-1)))], [.long (a).toInt64], mj_h0)) (mj_one_of mj_d_125_0 fun _ _ => rfl) ?_
          refine mj_runs.step (S' := (mj_m_125, 2, [(0, .long (a).toInt64), (2, .long (0 : Int64)), (4, .long (Int64.ofInt (-1)))], [.long (0 : Int64), .long (a).toInt64], mj_h0)) (mj_one_of mj_d_125_1 fun _ _ => rfl) ?_
          refine mj_runs.step (S' := (mj_m_125, 3, [(0, .long (a).toInt64), (2, .long (0 : Int64)), (4, .long (Int64.ofInt (-1)))], [.int (lg_cmp (a).toInt64 (0 : Int64))], mj_h0)) (mj_one_of mj_d_125_2 fun _ _ => rfl) ?_
          refine mj_runs.step (S' := (mj_m_125, 17, [(0, .long (a).toInt64), (2, .long (0 : Int64)), (4, .long (Int64.ofInt (-1)))], [], mj_h0)) (mj_one_ifT mj_d_125_3 rfl (mj_lgT_lt (mj_l32 a) (show ((0 : Int64)).toInt = 0 by decide) (by omega))) ?_
          refine mj_runs.step (S' := (mj_m_125, 18, [(0, .long (a).toInt64), (2, .long (0 : Int64)), (4, .long (Int64.ofInt (-1)))], [.int (0 : Int32)], mj_h0)) (mj_one_of mj_d_125_17 fun _ _ => rfl) ?_
          exact mj_runs.ret (mj_ret_of mj_d_125_18 fun _ _ => rfl)
        show mj_runs (mj_m_140, 13, [(0, .ref 234), (1, .int a)], [.int (0 : Int32)], mj_h0) _ _
        exact mj_runs.ret (mj_ret_of mj_d_140_13 fun _ _ => rfl)
      show mj_runs (mj_m_165, 5, [(0, .ref 234), (1, .int a), (2, .int b), (3, .int c)], [.int (0 : Int32)], mj_h0) _ _
      refine mj_runs.step (S' := (mj_m_165, 8, [(0, .ref 234), (1, .int a), (2, .int b), (3, .int c)], [], mj_h0)) (mj_one_of mj_d_165_5 fun _ _ => rfl) ?_
      refine mj_runs.step (S' := (mj_m_165, 10, [(0, .ref 234), (1, .int a), (2, .int b), (3, .int c)], [.int (Int32.ofInt (-1000000001))], mj_h0)) (mj_one_of mj_d_165_8 fun _ _ => rfl) ?_
      exact mj_runs.ret (mj_ret_of mj_d_165_10 fun _ _ => rfl)
    · exact mj_sz0
  · refine ⟨(Int32.ofInt (-1000000001)), mj_h0, mj_h0, ?_, ?_, ?_⟩
    · refine mj_runs.step (S' := (mj_m_69, 1, [(0, .ref 0), (1, .int a), (2, .int b), (3, .int c)], [.ref 0], mj_h0)) (mj_one_of mj_d_69_0 fun _ _ => rfl) ?_
      refine mj_runs.step (S' := (mj_m_69, 2, [(0, .ref 0), (1, .int a), (2, .int b), (3, .int c)], [.int a, .ref 0], mj_h0)) (mj_one_of mj_d_69_1 fun _ _ => rfl) ?_
      refine mj_runs.call (S1 := (mj_m_39, 0, [(0, .ref 0), (1, .int a)], [], mj_h0)) (r1 := (some (.int (0 : Int32)))) (h1 := mj_h0) (mj_calls_v mj_d_69_2 rfl rfl rfl rfl rfl rfl ⟨Nat.le_of_ble_eq_true rfl, ⟨Nat.le_of_ble_eq_true rfl, Nat.le_of_ble_eq_true rfl, Nat.le_of_ble_eq_true rfl, Nat.le_of_ble_eq_true rfl, Nat.le_of_ble_eq_true rfl⟩⟩) ?_ ?_
      · refine mj_runs.step (S' := (mj_m_39, 1, [(0, .ref 0), (1, .int a)], [.int a], mj_h0)) (mj_one_of mj_d_39_0 fun _ _ => rfl) ?_
        refine mj_runs.step (S' := (mj_m_39, 4, [(0, .ref 0), (1, .int a)], [], mj_h0)) (mj_one_ifF mj_d_39_1 (t := 19) rfl (mj_cF_lt (rfl : (a).toInt = (a).toInt) (show ((0 : Int32)).toInt = 0 by decide) (by omega))) ?_
        refine mj_runs.step (S' := (mj_m_39, 5, [(0, .ref 0), (1, .int a)], [.int a], mj_h0)) (mj_one_of mj_d_39_4 fun _ _ => rfl) ?_
        refine mj_runs.step (S' := (mj_m_39, 6, [(0, .ref 0), (1, .int a)], [.ref 0, .int a], mj_h0)) (mj_one_of mj_d_39_5 fun _ _ => rfl) ?_
        refine mj_runs.step (S' := (mj_m_39, 9, [(0, .ref 0), (1, .int a)], [.ref 8, .int a], mj_h0)) (mj_one_of mj_d_39_6 fun _ _ => rfl) ?_
        refine mj_runs.step (S' := (mj_m_39, 12, [(0, .ref 0), (1, .int a)], [.int (0 : Int32), .int a], mj_h0)) (mj_one_of mj_d_39_9 fun _ _ => rfl) ?_
        refine mj_runs.step (S' := (mj_m_39, 19, [(0, .ref 0), (1, .int a)], [], mj_h0)) (mj_one_icmpT mj_d_39_12 rfl (mj_cT_ge (rfl : (a).toInt = (a).toInt) (show ((0 : Int32)).toInt = 0 by decide) (by omega))) ?_
        refine mj_runs.step (S' := (mj_m_39, 20, [(0, .ref 0), (1, .int a)], [.int (0 : Int32)], mj_h0)) (mj_one_of mj_d_39_19 fun _ _ => rfl) ?_
        exact mj_runs.ret (mj_ret_of mj_d_39_20 fun _ _ => rfl)
      show mj_runs (mj_m_69, 5, [(0, .ref 0), (1, .int a), (2, .int b), (3, .int c)], [.int (0 : Int32)], mj_h0) _ _
      refine mj_runs.step (S' := (mj_m_69, 8, [(0, .ref 0), (1, .int a), (2, .int b), (3, .int c)], [], mj_h0)) (mj_one_of mj_d_69_5 fun _ _ => rfl) ?_
      refine mj_runs.step (S' := (mj_m_69, 10, [(0, .ref 0), (1, .int a), (2, .int b), (3, .int c)], [.int (Int32.ofInt (-1000000001))], mj_h0)) (mj_one_of mj_d_69_8 fun _ _ => rfl) ?_
      exact mj_runs.ret (mj_ret_of mj_d_69_10 fun _ _ => rfl)
    · refine mj_runs.step (S' := (mj_m_165, 1, [(0, .ref 234), (1, .int a), (2, .int b), (3, .int c)], [.ref 234], mj_h0)) (mj_one_of mj_d_165_0 fun _ _ => rfl) ?_
      refine mj_runs.step (S' := (mj_m_165, 2, [(0, .ref 234), (1, .int a), (2, .int b), (3, .int c)], [.int a, .ref 234], mj_h0)) (mj_one_of mj_d_165_1 fun _ _ => rfl) ?_
      refine mj_runs.call (S1 := (mj_m_140, 0, [(0, .ref 234), (1, .int a)], [], mj_h0)) (r1 := (some (.int (0 : Int32)))) (h1 := mj_h0) (mj_calls_v mj_d_165_2 rfl rfl rfl rfl rfl rfl ⟨Nat.le_of_ble_eq_true rfl, ⟨Nat.le_of_ble_eq_true rfl, Nat.le_of_ble_eq_true rfl, Nat.le_of_ble_eq_true rfl, Nat.le_of_ble_eq_true rfl, Nat.le_of_ble_eq_true rfl⟩⟩) ?_ ?_
      · refine mj_runs.step (S' := (mj_m_140, 1, [(0, .ref 234), (1, .int a)], [.int a], mj_h0)) (mj_one_of mj_d_140_0 fun _ _ => rfl) ?_
        refine mj_runs.step (S' := (mj_m_140, 2, [(0, .ref 234), (1, .int a)], [.long (a).toInt64], mj_h0)) (mj_one_of mj_d_140_1 fun _ _ => rfl) ?_
        refine mj_runs.step (S' := (mj_m_140, 3, [(0, .ref 234), (1, .int a)], [.long (0 : Int64), .long (a).toInt64], mj_h0)) (mj_one_of mj_d_140_2 fun _ _ => rfl) ?_
        refine mj_runs.step (S' := (mj_m_140, 4, [(0, .ref 234), (1, .int a)], [.ref 234, .long (0 : Int64), .long (a).toInt64], mj_h0)) (mj_one_of mj_d_140_3 fun _ _ => rfl) ?_
        refine mj_runs.step (S' := (mj_m_140, 7, [(0, .ref 234), (1, .int a)], [.int (0 : Int32), .long (0 : Int64), .long (a).toInt64], mj_h0)) (mj_one_of mj_d_140_4 fun _ _ => rfl) ?_
        refine mj_runs.step (S' := (mj_m_140, 8, [(0, .ref 234), (1, .int a)], [.int (1 : Int32), .int (0 : Int32), .long (0 : Int64), .long (a).toInt64], mj_h0)) (mj_one_of mj_d_140_7 fun _ _ => rfl) ?_
        refine mj_runs.step (S' := (mj_m_140, 9, [(0, .ref 234), (1, .int a)], [.int (Int32.ofInt (-1)), .long (0 : Int64), .long (a).toInt64], mj_h0)) (mj_one_of mj_d_140_8 fun _ _ => rfl) ?_
        refine mj_runs.step (S' := (mj_m_140, 10, [(0, .ref 234), (1, .int a)], [.long (Int64.ofInt (-1)), .long (0 : Int64), .long (a).toInt64], mj_h0)) (mj_one_of mj_d_140_9 fun _ _ => rfl) ?_
        refine mj_runs.call (S1 := (mj_m_125, 0, [(0, .long (a).toInt64), (2, .long (0 : Int64)), (4, .long (Int64.ofInt (-1)))], [], mj_h0)) (r1 := (some (.int (0 : Int32)))) (h1 := mj_h0) (mj_calls_s mj_d_140_10 rfl rfl rfl rfl ⟨Nat.le_of_ble_eq_true rfl, Nat.le_of_ble_eq_true rfl, Nat.le_of_ble_eq_true rfl, Nat.le_of_ble_eq_true rfl, Nat.le_of_ble_eq_true rfl⟩) ?_ ?_
        · refine mj_runs.step (S' := (mj_m_125, 1, [(0, .long (a).toInt64), (2, .long (0 : Int64)), (4, .long (Int64.ofInt (-1)))], [.long (a).toInt64], mj_h0)) (mj_one_of mj_d_125_0 fun _ _ => rfl) ?_
          refine mj_runs.step (S' := (mj_m_125, 2, [(0, .long (a).toInt64), (2, .long (0 : Int64)), (4, .long (Int64.ofInt (-1)))], [.long (0 : Int64), .long (a).toInt64], mj_h0)) (mj_one_of mj_d_125_1 fun _ _ => rfl) ?_
          refine mj_runs.step (S' := (mj_m_125, 3, [(0, .long (a).toInt64), (2, .long (0 : Int64)), (4, .long (Int64.ofInt (-1)))], [.int (lg_cmp (a).toInt64 (0 : Int64))], mj_h0)) (mj_one_of mj_d_125_2 fun _ _ => rfl) ?_
          refine mj_runs.step (S' := (mj_m_125, 6, [(0, .long (a).toInt64), (2, .long (0 : Int64)), (4, .long (Int64.ofInt (-1)))], [], mj_h0)) (mj_one_ifF mj_d_125_3 (t := 17) rfl (mj_lgF_lt (mj_l32 a) (show ((0 : Int64)).toInt = 0 by decide) (by omega))) ?_
          refine mj_runs.step (S' := (mj_m_125, 7, [(0, .long (a).toInt64), (2, .long (0 : Int64)), (4, .long (Int64.ofInt (-1)))], [.long (a).toInt64], mj_h0)) (mj_one_of mj_d_125_6 fun _ _ => rfl) ?_
          refine mj_runs.step (S' := (mj_m_125, 9, [(0, .long (a).toInt64), (2, .long (0 : Int64)), (4, .long (Int64.ofInt (-1)))], [.long (Int64.ofInt (-1)), .long (a).toInt64], mj_h0)) (mj_one_of mj_d_125_7 fun _ _ => rfl) ?_
          refine mj_runs.step (S' := (mj_m_125, 10, [(0, .long (a).toInt64), (2, .long (0 : Int64)), (4, .long (Int64.ofInt (-1)))], [.int (lg_cmp (a).toInt64 (Int64.ofInt (-1)))], mj_h0)) (mj_one_of mj_d_125_9 fun _ _ => rfl) ?_
          refine mj_runs.step (S' := (mj_m_125, 17, [(0, .long (a).toInt64), (2, .long (0 : Int64)), (4, .long (Int64.ofInt (-1)))], [], mj_h0)) (mj_one_ifT mj_d_125_10 rfl (mj_lgT_gt (mj_l32 a) (show ((Int64.ofInt (-1))).toInt = -1 by decide) (by omega))) ?_
          refine mj_runs.step (S' := (mj_m_125, 18, [(0, .long (a).toInt64), (2, .long (0 : Int64)), (4, .long (Int64.ofInt (-1)))], [.int (0 : Int32)], mj_h0)) (mj_one_of mj_d_125_17 fun _ _ => rfl) ?_
          exact mj_runs.ret (mj_ret_of mj_d_125_18 fun _ _ => rfl)
        show mj_runs (mj_m_140, 13, [(0, .ref 234), (1, .int a)], [.int (0 : Int32)], mj_h0) _ _
        exact mj_runs.ret (mj_ret_of mj_d_140_13 fun _ _ => rfl)
      show mj_runs (mj_m_165, 5, [(0, .ref 234), (1, .int a), (2, .int b), (3, .int c)], [.int (0 : Int32)], mj_h0) _ _
      refine mj_runs.step (S' := (mj_m_165, 8, [(0, .ref 234), (1, .int a), (2, .int b), (3, .int c)], [], mj_h0)) (mj_one_of mj_d_165_5 fun _ _ => rfl) ?_
      refine mj_runs.step (S' := (mj_m_165, 10, [(0, .ref 234), (1, .int a), (2, .int b), (3, .int c)], [.int (Int32.ofInt (-1000000001))], mj_h0)) (mj_one_of mj_d_165_8 fun _ _ => rfl) ?_
      exact mj_runs.ret (mj_ret_of mj_d_165_10 fun _ _ => rfl)
    · exact mj_sz0
set_option maxRecDepth 1000000 in
set_option maxHeartbeats 4000000 in
theorem mj_op_sure (a b c : Int32) : ∃ (r : Int32) (h1 h2 : mj_H), mj_runs (mj_m_79, 0, [(0, .ref 0), (1, .int a), (2, .int b), (3, .int c)], [], mj_h0) (some (.int r)) h1 ∧ mj_runs (mj_m_167, 0, [(0, .ref 234), (1, .int a), (2, .int b), (3, .int c)], [], h1) (some (.int r)) h2 ∧ mj_sz h2 := by
  by_cases c0 : a.toInt < 0
  · refine ⟨(Int32.ofInt (-1000000001)), mj_h0, mj_h0, ?_, ?_, ?_⟩
    · refine mj_runs.step (S' := (mj_m_79, 1, [(0, .ref 0), (1, .int a), (2, .int b), (3, .int c)], [.ref 0], mj_h0)) (mj_one_of mj_d_79_0 fun _ _ => rfl) ?_
      refine mj_runs.step (S' := (mj_m_79, 2, [(0, .ref 0), (1, .int a), (2, .int b), (3, .int c)], [.int a, .ref 0], mj_h0)) (mj_one_of mj_d_79_1 fun _ _ => rfl) ?_
      refine mj_runs.call (S1 := (mj_m_39, 0, [(0, .ref 0), (1, .int a)], [], mj_h0)) (r1 := (some (.int (0 : Int32)))) (h1 := mj_h0) (mj_calls_v mj_d_79_2 rfl rfl rfl rfl rfl rfl ⟨Nat.le_of_ble_eq_true rfl, ⟨Nat.le_of_ble_eq_true rfl, Nat.le_of_ble_eq_true rfl, Nat.le_of_ble_eq_true rfl, Nat.le_of_ble_eq_true rfl, Nat.le_of_ble_eq_true rfl⟩⟩) ?_ ?_
      · refine mj_runs.step (S' := (mj_m_39, 1, [(0, .ref 0), (1, .int a)], [.int a], mj_h0)) (mj_one_of mj_d_39_0 fun _ _ => rfl) ?_
        refine mj_runs.step (S' := (mj_m_39, 19, [(0, .ref 0), (1, .int a)], [], mj_h0)) (mj_one_ifT mj_d_39_1 rfl (mj_cT_lt (rfl : (a).toInt = (a).toInt) (show ((0 : Int32)).toInt = 0 by decide) (by omega))) ?_
        refine mj_runs.step (S' := (mj_m_39, 20, [(0, .ref 0), (1, .int a)], [.int (0 : Int32)], mj_h0)) (mj_one_of mj_d_39_19 fun _ _ => rfl) ?_
        exact mj_runs.ret (mj_ret_of mj_d_39_20 fun _ _ => rfl)
      show mj_runs (mj_m_79, 5, [(0, .ref 0), (1, .int a), (2, .int b), (3, .int c)], [.int (0 : Int32)], mj_h0) _ _
      refine mj_runs.step (S' := (mj_m_79, 8, [(0, .ref 0), (1, .int a), (2, .int b), (3, .int c)], [], mj_h0)) (mj_one_of mj_d_79_5 fun _ _ => rfl) ?_
      refine mj_runs.step (S' := (mj_m_79, 10, [(0, .ref 0), (1, .int a), (2, .int b), (3, .int c)], [.int (Int32.ofInt (-1000000001))], mj_h0)) (mj_one_of mj_d_79_8 fun _ _ => rfl) ?_
      exact mj_runs.ret (mj_ret_of mj_d_79_10 fun _ _ => rfl)
    · refine mj_runs.step (S' := (mj_m_167, 1, [(0, .ref 234), (1, .int a), (2, .int b), (3, .int c)], [.ref 234], mj_h0)) (mj_one_of mj_d_167_0 fun _ _ => rfl) ?_
      refine mj_runs.step (S' := (mj_m_167, 2, [(0, .ref 234), (1, .int a), (2, .int b), (3, .int c)], [.int a, .ref 234], mj_h0)) (mj_one_of mj_d_167_1 fun _ _ => rfl) ?_
      refine mj_runs.call (S1 := (mj_m_140, 0, [(0, .ref 234), (1, .int a)], [], mj_h0)) (r1 := (some (.int (0 : Int32)))) (h1 := mj_h0) (mj_calls_v mj_d_167_2 rfl rfl rfl rfl rfl rfl ⟨Nat.le_of_ble_eq_true rfl, ⟨Nat.le_of_ble_eq_true rfl, Nat.le_of_ble_eq_true rfl, Nat.le_of_ble_eq_true rfl, Nat.le_of_ble_eq_true rfl, Nat.le_of_ble_eq_true rfl⟩⟩) ?_ ?_
      · refine mj_runs.step (S' := (mj_m_140, 1, [(0, .ref 234), (1, .int a)], [.int a], mj_h0)) (mj_one_of mj_d_140_0 fun _ _ => rfl) ?_
        refine mj_runs.step (S' := (mj_m_140, 2, [(0, .ref 234), (1, .int a)], [.long (a).toInt64], mj_h0)) (mj_one_of mj_d_140_1 fun _ _ => rfl) ?_
        refine mj_runs.step (S' := (mj_m_140, 3, [(0, .ref 234), (1, .int a)], [.long (0 : Int64), .long (a).toInt64], mj_h0)) (mj_one_of mj_d_140_2 fun _ _ => rfl) ?_
        refine mj_runs.step (S' := (mj_m_140, 4, [(0, .ref 234), (1, .int a)], [.ref 234, .long (0 : Int64), .long (a).toInt64], mj_h0)) (mj_one_of mj_d_140_3 fun _ _ => rfl) ?_
        refine mj_runs.step (S' := (mj_m_140, 7, [(0, .ref 234), (1, .int a)], [.int (0 : Int32), .long (0 : Int64), .long (a).toInt64], mj_h0)) (mj_one_of mj_d_140_4 fun _ _ => rfl) ?_
        refine mj_runs.step (S' := (mj_m_140, 8, [(0, .ref 234), (1, .int a)], [.int (1 : Int32), .int (0 : Int32), .long (0 : Int64), .long (a).toInt64], mj_h0)) (mj_one_of mj_d_140_7 fun _ _ => rfl) ?_
        refine mj_runs.step (S' := (mj_m_140, 9, [(0, .ref 234), (1, .int a)], [.int (Int32.ofInt (-1)), .long (0 : Int64), .long (a).toInt64], mj_h0)) (mj_one_of mj_d_140_8 fun _ _ => rfl) ?_
        refine mj_runs.step (S' := (mj_m_140, 10, [(0, .ref 234), (1, .int a)], [.long (Int64.ofInt (-1)), .long (0 : Int64), .long (a).toInt64], mj_h0)) (mj_one_of mj_d_140_9 fun _ _ => rfl) ?_
        refine mj_runs.call (S1 := (mj_m_125, 0, [(0, .long (a).toInt64), (2, .long (0 : Int64)), (4, .long (Int64.ofInt (-1)))], [], mj_h0)) (r1 := (some (.int (0 : Int32)))) (h1 := mj_h0) (mj_calls_s mj_d_140_10 rfl rfl rfl rfl ⟨Nat.le_of_ble_eq_true rfl, Nat.le_of_ble_eq_true rfl, Nat.le_of_ble_eq_true rfl, Nat.le_of_ble_eq_true rfl, Nat.le_of_ble_eq_true rfl⟩) ?_ ?_
        · refine mj_runs.step (S' := (mj_m_125, 1, [(0, .long (a).toInt64), (2, .long (0 : Int64)), (4, .long (Int64.ofInt (-1)))], [.long (a).toInt64], mj_h0)) (mj_one_of mj_d_125_0 fun _ _ => rfl) ?_
          refine mj_runs.step (S' := (mj_m_125, 2, [(0, .long (a).toInt64), (2, .long (0 : Int64)), (4, .long (Int64.ofInt (-1)))], [.long (0 : Int64), .long (a).toInt64], mj_h0)) (mj_one_of mj_d_125_1 fun _ _ => rfl) ?_
          refine mj_runs.step (S' := (mj_m_125, 3, [(0, .long (a).toInt64), (2, .long (0 : Int64)), (4, .long (Int64.ofInt (-1)))], [.int (lg_cmp (a).toInt64 (0 : Int64))], mj_h0)) (mj_one_of mj_d_125_2 fun _ _ => rfl) ?_
          refine mj_runs.step (S' := (mj_m_125, 17, [(0, .long (a).toInt64), (2, .long (0 : Int64)), (4, .long (Int64.ofInt (-1)))], [], mj_h0)) (mj_one_ifT mj_d_125_3 rfl (mj_lgT_lt (mj_l32 a) (show ((0 : Int64)).toInt = 0 by decide) (by omega))) ?_
          refine mj_runs.step (S' := (mj_m_125, 18, [(0, .long (a).toInt64), (2, .long (0 : Int64)), (4, .long (Int64.ofInt (-1)))], [.int (0 : Int32)], mj_h0)) (mj_one_of mj_d_125_17 fun _ _ => rfl) ?_
          exact mj_runs.ret (mj_ret_of mj_d_125_18 fun _ _ => rfl)
        show mj_runs (mj_m_140, 13, [(0, .ref 234), (1, .int a)], [.int (0 : Int32)], mj_h0) _ _
        exact mj_runs.ret (mj_ret_of mj_d_140_13 fun _ _ => rfl)
      show mj_runs (mj_m_167, 5, [(0, .ref 234), (1, .int a), (2, .int b), (3, .int c)], [.int (0 : Int32)], mj_h0) _ _
      refine mj_runs.step (S' := (mj_m_167, 8, [(0, .ref 234), (1, .int a), (2, .int b), (3, .int c)], [], mj_h0)) (mj_one_of mj_d_167_5 fun _ _ => rfl) ?_
      refine mj_runs.step (S' := (mj_m_167, 10, [(0, .ref 234), (1, .int a), (2, .int b), (3, .int c)], [.int (Int32.ofInt (-1000000001))], mj_h0)) (mj_one_of mj_d_167_8 fun _ _ => rfl) ?_
      exact mj_runs.ret (mj_ret_of mj_d_167_10 fun _ _ => rfl)
    · exact mj_sz0
  · refine ⟨(Int32.ofInt (-1000000001)), mj_h0, mj_h0, ?_, ?_, ?_⟩
    · refine mj_runs.step (S' := (mj_m_79, 1, [(0, .ref 0), (1, .int a), (2, .int b), (3, .int c)], [.ref 0], mj_h0)) (mj_one_of mj_d_79_0 fun _ _ => rfl) ?_
      refine mj_runs.step (S' := (mj_m_79, 2, [(0, .ref 0), (1, .int a), (2, .int b), (3, .int c)], [.int a, .ref 0], mj_h0)) (mj_one_of mj_d_79_1 fun _ _ => rfl) ?_
      refine mj_runs.call (S1 := (mj_m_39, 0, [(0, .ref 0), (1, .int a)], [], mj_h0)) (r1 := (some (.int (0 : Int32)))) (h1 := mj_h0) (mj_calls_v mj_d_79_2 rfl rfl rfl rfl rfl rfl ⟨Nat.le_of_ble_eq_true rfl, ⟨Nat.le_of_ble_eq_true rfl, Nat.le_of_ble_eq_true rfl, Nat.le_of_ble_eq_true rfl, Nat.le_of_ble_eq_true rfl, Nat.le_of_ble_eq_true rfl⟩⟩) ?_ ?_
      · refine mj_runs.step (S' := (mj_m_39, 1, [(0, .ref 0), (1, .int a)], [.int a], mj_h0)) (mj_one_of mj_d_39_0 fun _ _ => rfl) ?_
        refine mj_runs.step (S' := (mj_m_39, 4, [(0, .ref 0), (1, .int a)], [], mj_h0)) (mj_one_ifF mj_d_39_1 (t := 19) rfl (mj_cF_lt (rfl : (a).toInt = (a).toInt) (show ((0 : Int32)).toInt = 0 by decide) (by omega))) ?_
        refine mj_runs.step (S' := (mj_m_39, 5, [(0, .ref 0), (1, .int a)], [.int a], mj_h0)) (mj_one_of mj_d_39_4 fun _ _ => rfl) ?_
        refine mj_runs.step (S' := (mj_m_39, 6, [(0, .ref 0), (1, .int a)], [.ref 0, .int a], mj_h0)) (mj_one_of mj_d_39_5 fun _ _ => rfl) ?_
        refine mj_runs.step (S' := (mj_m_39, 9, [(0, .ref 0), (1, .int a)], [.ref 8, .int a], mj_h0)) (mj_one_of mj_d_39_6 fun _ _ => rfl) ?_
        refine mj_runs.step (S' := (mj_m_39, 12, [(0, .ref 0), (1, .int a)], [.int (0 : Int32), .int a], mj_h0)) (mj_one_of mj_d_39_9 fun _ _ => rfl) ?_
        refine mj_runs.step (S' := (mj_m_39, 19, [(0, .ref 0), (1, .int a)], [], mj_h0)) (mj_one_icmpT mj_d_39_12 rfl (mj_cT_ge (rfl : (a).toInt = (a).toInt) (show ((0 : Int32)).toInt = 0 by decide) (by omega))) ?_
        refine mj_runs.step (S' := (mj_m_39, 20, [(0, .ref 0), (1, .int a)], [.int (0 : Int32)], mj_h0)) (mj_one_of mj_d_39_19 fun _ _ => rfl) ?_
        exact mj_runs.ret (mj_ret_of mj_d_39_20 fun _ _ => rfl)
      show mj_runs (mj_m_79, 5, [(0, .ref 0), (1, .int a), (2, .int b), (3, .int c)], [.int (0 : Int32)], mj_h0) _ _
      refine mj_runs.step (S' := (mj_m_79, 8, [(0, .ref 0), (1, .int a), (2, .int b), (3, .int c)], [], mj_h0)) (mj_one_of mj_d_79_5 fun _ _ => rfl) ?_
      refine mj_runs.step (S' := (mj_m_79, 10, [(0, .ref 0), (1, .int a), (2, .int b), (3, .int c)], [.int (Int32.ofInt (-1000000001))], mj_h0)) (mj_one_of mj_d_79_8 fun _ _ => rfl) ?_
      exact mj_runs.ret (mj_ret_of mj_d_79_10 fun _ _ => rfl)
    · refine mj_runs.step (S' := (mj_m_167, 1, [(0, .ref 234), (1, .int a), (2, .int b), (3, .int c)], [.ref 234], mj_h0)) (mj_one_of mj_d_167_0 fun _ _ => rfl) ?_
      refine mj_runs.step (S' := (mj_m_167, 2, [(0, .ref 234), (1, .int a), (2, .int b), (3, .int c)], [.int a, .ref 234], mj_h0)) (mj_one_of mj_d_167_1 fun _ _ => rfl) ?_
      refine mj_runs.call (S1 := (mj_m_140, 0, [(0, .ref 234), (1, .int a)], [], mj_h0)) (r1 := (some (.int (0 : Int32)))) (h1 := mj_h0) (mj_calls_v mj_d_167_2 rfl rfl rfl rfl rfl rfl ⟨Nat.le_of_ble_eq_true rfl, ⟨Nat.le_of_ble_eq_true rfl, Nat.le_of_ble_eq_true rfl, Nat.le_of_ble_eq_true rfl, Nat.le_of_ble_eq_true rfl, Nat.le_of_ble_eq_true rfl⟩⟩) ?_ ?_
      · refine mj_runs.step (S' := (mj_m_140, 1, [(0, .ref 234), (1, .int a)], [.int a], mj_h0)) (mj_one_of mj_d_140_0 fun _ _ => rfl) ?_
        refine mj_runs.step (S' := (mj_m_140, 2, [(0, .ref 234), (1, .int a)], [.long (a).toInt64], mj_h0)) (mj_one_of mj_d_140_1 fun _ _ => rfl) ?_
        refine mj_runs.step (S' := (mj_m_140, 3, [(0, .ref 234), (1, .int a)], [.long (0 : Int64), .long (a).toInt64], mj_h0)) (mj_one_of mj_d_140_2 fun _ _ => rfl) ?_
        refine mj_runs.step (S' := (mj_m_140, 4, [(0, .ref 234), (1, .int a)], [.ref 234, .long (0 : Int64), .long (a).toInt64], mj_h0)) (mj_one_of mj_d_140_3 fun _ _ => rfl) ?_
        refine mj_runs.step (S' := (mj_m_140, 7, [(0, .ref 234), (1, .int a)], [.int (0 : Int32), .long (0 : Int64), .long (a).toInt64], mj_h0)) (mj_one_of mj_d_140_4 fun _ _ => rfl) ?_
        refine mj_runs.step (S' := (mj_m_140, 8, [(0, .ref 234), (1, .int a)], [.int (1 : Int32), .int (0 : Int32), .long (0 : Int64), .long (a).toInt64], mj_h0)) (mj_one_of mj_d_140_7 fun _ _ => rfl) ?_
        refine mj_runs.step (S' := (mj_m_140, 9, [(0, .ref 234), (1, .int a)], [.int (Int32.ofInt (-1)), .long (0 : Int64), .long (a).toInt64], mj_h0)) (mj_one_of mj_d_140_8 fun _ _ => rfl) ?_
        refine mj_runs.step (S' := (mj_m_140, 10, [(0, .ref 234), (1, .int a)], [.long (Int64.ofInt (-1)), .long (0 : Int64), .long (a).toInt64], mj_h0)) (mj_one_of mj_d_140_9 fun _ _ => rfl) ?_
        refine mj_runs.call (S1 := (mj_m_125, 0, [(0, .long (a).toInt64), (2, .long (0 : Int64)), (4, .long (Int64.ofInt (-1)))], [], mj_h0)) (r1 := (some (.int (0 : Int32)))) (h1 := mj_h0) (mj_calls_s mj_d_140_10 rfl rfl rfl rfl ⟨Nat.le_of_ble_eq_true rfl, Nat.le_of_ble_eq_true rfl, Nat.le_of_ble_eq_true rfl, Nat.le_of_ble_eq_true rfl, Nat.le_of_ble_eq_true rfl⟩) ?_ ?_
        · refine mj_runs.step (S' := (mj_m_125, 1, [(0, .long (a).toInt64), (2, .long (0 : Int64)), (4, .long (Int64.ofInt (-1)))], [.long (a).toInt64], mj_h0)) (mj_one_of mj_d_125_0 fun _ _ => rfl) ?_
          refine mj_runs.step (S' := (mj_m_125, 2, [(0, .long (a).toInt64), (2, .long (0 : Int64)), (4, .long (Int64.ofInt (-1)))], [.long (0 : Int64), .long (a).toInt64], mj_h0)) (mj_one_of mj_d_125_1 fun _ _ => rfl) ?_
          refine mj_runs.step (S' := (mj_m_125, 3, [(0, .long (a).toInt64), (2, .long (0 : Int64)), (4, .long (Int64.ofInt (-1)))], [.int (lg_cmp (a).toInt64 (0 : Int64))], mj_h0)) (mj_one_of mj_d_125_2 fun _ _ => rfl) ?_
          refine mj_runs.step (S' := (mj_m_125, 6, [(0, .long (a).toInt64), (2, .long (0 : Int64)), (4, .long (Int64.ofInt (-1)))], [], mj_h0)) (mj_one_ifF mj_d_125_3 (t := 17) rfl (mj_lgF_lt (mj_l32 a) (show ((0 : Int64)).toInt = 0 by decide) (by omega))) ?_
          refine mj_runs.step (S' := (mj_m_125, 7, [(0, .long (a).toInt64), (2, .long (0 : Int64)), (4, .long (Int64.ofInt (-1)))], [.long (a).toInt64], mj_h0)) (mj_one_of mj_d_125_6 fun _ _ => rfl) ?_
          refine mj_runs.step (S' := (mj_m_125, 9, [(0, .long (a).toInt64), (2, .long (0 : Int64)), (4, .long (Int64.ofInt (-1)))], [.long (Int64.ofInt (-1)), .long (a).toInt64], mj_h0)) (mj_one_of mj_d_125_7 fun _ _ => rfl) ?_
          refine mj_runs.step (S' := (mj_m_125, 10, [(0, .long (a).toInt64), (2, .long (0 : Int64)), (4, .long (Int64.ofInt (-1)))], [.int (lg_cmp (a).toInt64 (Int64.ofInt (-1)))], mj_h0)) (mj_one_of mj_d_125_9 fun _ _ => rfl) ?_
          refine mj_runs.step (S' := (mj_m_125, 17, [(0, .long (a).toInt64), (2, .long (0 : Int64)), (4, .long (Int64.ofInt (-1)))], [], mj_h0)) (mj_one_ifT mj_d_125_10 rfl (mj_lgT_gt (mj_l32 a) (show ((Int64.ofInt (-1))).toInt = -1 by decide) (by omega))) ?_
          refine mj_runs.step (S' := (mj_m_125, 18, [(0, .long (a).toInt64), (2, .long (0 : Int64)), (4, .long (Int64.ofInt (-1)))], [.int (0 : Int32)], mj_h0)) (mj_one_of mj_d_125_17 fun _ _ => rfl) ?_
          exact mj_runs.ret (mj_ret_of mj_d_125_18 fun _ _ => rfl)
        show mj_runs (mj_m_140, 13, [(0, .ref 234), (1, .int a)], [.int (0 : Int32)], mj_h0) _ _
        exact mj_runs.ret (mj_ret_of mj_d_140_13 fun _ _ => rfl)
      show mj_runs (mj_m_167, 5, [(0, .ref 234), (1, .int a), (2, .int b), (3, .int c)], [.int (0 : Int32)], mj_h0) _ _
      refine mj_runs.step (S' := (mj_m_167, 8, [(0, .ref 234), (1, .int a), (2, .int b), (3, .int c)], [], mj_h0)) (mj_one_of mj_d_167_5 fun _ _ => rfl) ?_
      refine mj_runs.step (S' := (mj_m_167, 10, [(0, .ref 234), (1, .int a), (2, .int b), (3, .int c)], [.int (Int32.ofInt (-1000000001))], mj_h0)) (mj_one_of mj_d_167_8 fun _ _ => rfl) ?_
      exact mj_runs.ret (mj_ret_of mj_d_167_10 fun _ _ => rfl)
    · exact mj_sz0
