def mj_m_104 : mj_M := (⟨"SootMaps", "wet", "(II)I"⟩, prog_1_method_24_code, 7, (some .int), 9, 2, 1, 1, 22)
def mj_m_180 : mj_M := (⟨"SootMapsModel", "wet", "(II)I"⟩, prog_13_method_59_code, 7, (some .int), 10, 2, 1, 1, 25)
theorem mj_d_104_0 : decode mj_m_104.2.1 0 = .ok (.iload_n 1, 1) := by decide +kernel
theorem mj_d_104_1 : decode mj_m_104.2.1 1 = .ok (.ifCond .lt 19, 3) := by decide +kernel
theorem mj_d_104_4 : decode mj_m_104.2.1 4 = .ok (.iload_n 1, 1) := by decide +kernel
theorem mj_d_104_5 : decode mj_m_104.2.1 5 = .ok (.bipush 8, 2) := by decide +kernel
theorem mj_d_104_7 : decode mj_m_104.2.1 7 = .ok (.if_icmp .gt 13, 3) := by decide +kernel
theorem mj_d_104_10 : decode mj_m_104.2.1 10 = .ok (.iload_n 2, 1) := by decide +kernel
theorem mj_d_104_11 : decode mj_m_104.2.1 11 = .ok (.ifCond .lt 9, 3) := by decide +kernel
theorem mj_d_104_14 : decode mj_m_104.2.1 14 = .ok (.iload_n 2, 1) := by decide +kernel
theorem mj_d_104_15 : decode mj_m_104.2.1 15 = .ok (.bipush 100, 2) := by decide +kernel
theorem mj_d_104_17 : decode mj_m_104.2.1 17 = .ok (.if_icmp .le 6, 3) := by decide +kernel
theorem mj_d_104_20 : decode mj_m_104.2.1 20 = .ok (.ldc 72, 2) := by decide +kernel
theorem mj_d_104_22 : decode mj_m_104.2.1 22 = .ok (.ireturn, 1) := by decide +kernel
theorem mj_d_104_23 : decode mj_m_104.2.1 23 = .ok (.ldc2_w 255, 3) := by decide +kernel
theorem mj_d_104_26 : decode mj_m_104.2.1 26 = .ok (.lstore_n 3, 1) := by decide +kernel
theorem mj_d_104_27 : decode mj_m_104.2.1 27 = .ok (.iconst 0, 1) := by decide +kernel
theorem mj_d_104_28 : decode mj_m_104.2.1 28 = .ok (.istore 5, 2) := by decide +kernel
theorem mj_d_104_30 : decode mj_m_104.2.1 30 = .ok (.iload 5, 2) := by decide +kernel
theorem mj_d_104_32 : decode mj_m_104.2.1 32 = .ok (.iload_n 1, 1) := by decide +kernel
theorem mj_d_104_33 : decode mj_m_104.2.1 33 = .ok (.if_icmp .ge 35, 3) := by decide +kernel
theorem mj_d_104_36 : decode mj_m_104.2.1 36 = .ok (.bipush 100, 2) := by decide +kernel
theorem mj_d_104_38 : decode mj_m_104.2.1 38 = .ok (.iload_n 2, 1) := by decide +kernel
theorem mj_d_104_39 : decode mj_m_104.2.1 39 = .ok (.iconst 2, 1) := by decide +kernel
theorem mj_d_104_40 : decode mj_m_104.2.1 40 = .ok (.iload 5, 2) := by decide +kernel
theorem mj_d_104_42 : decode mj_m_104.2.1 42 = .ok (.imul, 1) := by decide +kernel
theorem mj_d_104_43 : decode mj_m_104.2.1 43 = .ok (.iadd, 1) := by decide +kernel
theorem mj_d_104_44 : decode mj_m_104.2.1 44 = .ok (.invokestatic 257, 3) := by decide +kernel
theorem mj_d_104_47 : decode mj_m_104.2.1 47 = .ok (.istore 6, 2) := by decide +kernel
theorem mj_d_104_49 : decode mj_m_104.2.1 49 = .ok (.lload_n 3, 1) := by decide +kernel
theorem mj_d_104_50 : decode mj_m_104.2.1 50 = .ok (.bipush 100, 2) := by decide +kernel
theorem mj_d_104_52 : decode mj_m_104.2.1 52 = .ok (.iload 6, 2) := by decide +kernel
theorem mj_d_104_54 : decode mj_m_104.2.1 54 = .ok (.isub, 1) := by decide +kernel
theorem mj_d_104_55 : decode mj_m_104.2.1 55 = .ok (.i2l, 1) := by decide +kernel
theorem mj_d_104_56 : decode mj_m_104.2.1 56 = .ok (.lmul, 1) := by decide +kernel
theorem mj_d_104_57 : decode mj_m_104.2.1 57 = .ok (.ldc2_w 262, 3) := by decide +kernel
theorem mj_d_104_60 : decode mj_m_104.2.1 60 = .ok (.ldiv, 1) := by decide +kernel
theorem mj_d_104_61 : decode mj_m_104.2.1 61 = .ok (.lstore_n 3, 1) := by decide +kernel
theorem mj_d_104_62 : decode mj_m_104.2.1 62 = .ok (.iinc 5 1, 3) := by decide +kernel
theorem mj_d_104_65 : decode mj_m_104.2.1 65 = .ok (.goto (-35), 3) := by decide +kernel
theorem mj_d_104_68 : decode mj_m_104.2.1 68 = .ok (.lload_n 3, 1) := by decide +kernel
theorem mj_d_104_69 : decode mj_m_104.2.1 69 = .ok (.l2i, 1) := by decide +kernel
theorem mj_d_104_70 : decode mj_m_104.2.1 70 = .ok (.ireturn, 1) := by decide +kernel
theorem mj_d_180_0 : decode mj_m_180.2.1 0 = .ok (.iload_n 1, 1) := by decide +kernel
theorem mj_d_180_1 : decode mj_m_180.2.1 1 = .ok (.i2l, 1) := by decide +kernel
theorem mj_d_180_2 : decode mj_m_180.2.1 2 = .ok (.lconst 0, 1) := by decide +kernel
theorem mj_d_180_3 : decode mj_m_180.2.1 3 = .ok (.ldc2_w 268, 3) := by decide +kernel
theorem mj_d_180_6 : decode mj_m_180.2.1 6 = .ok (.invokestatic 79, 3) := by decide +kernel
theorem mj_d_180_9 : decode mj_m_180.2.1 9 = .ok (.ifCond .eq 15, 3) := by decide +kernel
theorem mj_d_180_12 : decode mj_m_180.2.1 12 = .ok (.iload_n 2, 1) := by decide +kernel
theorem mj_d_180_13 : decode mj_m_180.2.1 13 = .ok (.i2l, 1) := by decide +kernel
theorem mj_d_180_14 : decode mj_m_180.2.1 14 = .ok (.lconst 0, 1) := by decide +kernel
theorem mj_d_180_15 : decode mj_m_180.2.1 15 = .ok (.ldc2_w 270, 3) := by decide +kernel
theorem mj_d_180_18 : decode mj_m_180.2.1 18 = .ok (.invokestatic 79, 3) := by decide +kernel
theorem mj_d_180_21 : decode mj_m_180.2.1 21 = .ok (.ifCond .ne 6, 3) := by decide +kernel
theorem mj_d_180_24 : decode mj_m_180.2.1 24 = .ok (.ldc 88, 2) := by decide +kernel
theorem mj_d_180_26 : decode mj_m_180.2.1 26 = .ok (.ireturn, 1) := by decide +kernel
theorem mj_d_180_27 : decode mj_m_180.2.1 27 = .ok (.ldc2_w 272, 3) := by decide +kernel
theorem mj_d_180_30 : decode mj_m_180.2.1 30 = .ok (.lstore_n 3, 1) := by decide +kernel
theorem mj_d_180_31 : decode mj_m_180.2.1 31 = .ok (.iconst 0, 1) := by decide +kernel
theorem mj_d_180_32 : decode mj_m_180.2.1 32 = .ok (.istore 5, 2) := by decide +kernel
theorem mj_d_180_34 : decode mj_m_180.2.1 34 = .ok (.iload 5, 2) := by decide +kernel
theorem mj_d_180_36 : decode mj_m_180.2.1 36 = .ok (.iload_n 1, 1) := by decide +kernel
theorem mj_d_180_37 : decode mj_m_180.2.1 37 = .ok (.if_icmp .ge 46, 3) := by decide +kernel
theorem mj_d_180_40 : decode mj_m_180.2.1 40 = .ok (.iload_n 2, 1) := by decide +kernel
theorem mj_d_180_41 : decode mj_m_180.2.1 41 = .ok (.iconst 2, 1) := by decide +kernel
theorem mj_d_180_42 : decode mj_m_180.2.1 42 = .ok (.iload 5, 2) := by decide +kernel
theorem mj_d_180_44 : decode mj_m_180.2.1 44 = .ok (.imul, 1) := by decide +kernel
theorem mj_d_180_45 : decode mj_m_180.2.1 45 = .ok (.iadd, 1) := by decide +kernel
theorem mj_d_180_46 : decode mj_m_180.2.1 46 = .ok (.bipush 100, 2) := by decide +kernel
theorem mj_d_180_48 : decode mj_m_180.2.1 48 = .ok (.if_icmp .le 8, 3) := by decide +kernel
theorem mj_d_180_51 : decode mj_m_180.2.1 51 = .ok (.bipush 100, 2) := by decide +kernel
theorem mj_d_180_53 : decode mj_m_180.2.1 53 = .ok (.goto 9, 3) := by decide +kernel
theorem mj_d_180_56 : decode mj_m_180.2.1 56 = .ok (.iload_n 2, 1) := by decide +kernel
theorem mj_d_180_57 : decode mj_m_180.2.1 57 = .ok (.iconst 2, 1) := by decide +kernel
theorem mj_d_180_58 : decode mj_m_180.2.1 58 = .ok (.iload 5, 2) := by decide +kernel
theorem mj_d_180_60 : decode mj_m_180.2.1 60 = .ok (.imul, 1) := by decide +kernel
theorem mj_d_180_61 : decode mj_m_180.2.1 61 = .ok (.iadd, 1) := by decide +kernel
theorem mj_d_180_62 : decode mj_m_180.2.1 62 = .ok (.istore 6, 2) := by decide +kernel
theorem mj_d_180_64 : decode mj_m_180.2.1 64 = .ok (.lload_n 3, 1) := by decide +kernel
theorem mj_d_180_65 : decode mj_m_180.2.1 65 = .ok (.bipush 100, 2) := by decide +kernel
theorem mj_d_180_67 : decode mj_m_180.2.1 67 = .ok (.iload 6, 2) := by decide +kernel
theorem mj_d_180_69 : decode mj_m_180.2.1 69 = .ok (.isub, 1) := by decide +kernel
theorem mj_d_180_70 : decode mj_m_180.2.1 70 = .ok (.i2l, 1) := by decide +kernel
theorem mj_d_180_71 : decode mj_m_180.2.1 71 = .ok (.lmul, 1) := by decide +kernel
theorem mj_d_180_72 : decode mj_m_180.2.1 72 = .ok (.ldc2_w 270, 3) := by decide +kernel
theorem mj_d_180_75 : decode mj_m_180.2.1 75 = .ok (.ldiv, 1) := by decide +kernel
theorem mj_d_180_76 : decode mj_m_180.2.1 76 = .ok (.lstore_n 3, 1) := by decide +kernel
theorem mj_d_180_77 : decode mj_m_180.2.1 77 = .ok (.iinc 5 1, 3) := by decide +kernel
theorem mj_d_180_80 : decode mj_m_180.2.1 80 = .ok (.goto (-46), 3) := by decide +kernel
theorem mj_d_180_83 : decode mj_m_180.2.1 83 = .ok (.lload_n 3, 1) := by decide +kernel
theorem mj_d_180_84 : decode mj_m_180.2.1 84 = .ok (.l2i, 1) := by decide +kernel
theorem mj_d_180_85 : decode mj_m_180.2.1 85 = .ok (.ireturn, 1) := by decide +kernel
/-- one reading more, and n of them -/
def mj_wetS (b k : Int32) (x : Int64) : Int64 := x * ((100 : Int32) - (if b + 2 * k < 100 then b + 2 * k else 100)).toInt64 / 100
def mj_wetN (b : Int32) : Nat → Int32 → Int64 → Int64
  | 0, _, x => x
  | m + 1, k, x => mj_wetN b m (k + 1) (mj_wetS b k x)
theorem mj_inc (k : Int32) (h0 : 0 ≤ k.toInt) (h1 : k.toInt < 1000) : (k + 1).toInt = k.toInt + 1 := by
  rw [Int32.toInt_add, show (1 : Int32).toInt = 1 by decide]
  simp only [Int.bmod]
  split <;> omega
theorem mj_w100 {s : Int32} (h : s.toInt ≤ 100) : (if s < 100 then s else (100 : Int32)) = s := by
  split
  · rfl
  · rename_i q
    apply Int32.toInt_inj.mp
    have h1 : ¬ s.toInt < 100 := fun z => q (Int32.lt_iff_toInt_lt.mpr (by rw [show (100 : Int32).toInt = 100 by decide]; exact z))
    rw [show (100 : Int32).toInt = 100 by decide]
    omega
set_option maxRecDepth 100000 in
set_option maxHeartbeats 4000000 in
theorem mj_wetC (a b : Int32) (h : mj_H) (ha : a.toInt ≤ 8) : ∀ (m : Nat) (k : Int32) (x : Int64) (w : Int32) , 0 ≤ k.toInt → k.toInt + m = a.toInt → mj_runs (mj_m_104, 30, [(5, .int k), (3, .long x), (6, .int w), (0, .ref 0), (1, .int a), (2, .int b)], [], h) (some (.int (mj_wetN b m k x).toInt32)) h := by
  intro m
  induction m with
  | zero =>
    intro k x w h0 h1
    refine mj_runs.step (S' := (mj_m_104, 32, [(5, .int k), (3, .long x), (6, .int w), (0, .ref 0), (1, .int a), (2, .int b)], [.int k], h)) (mj_one_of mj_d_104_30 fun _ _ => rfl) ?_
    refine mj_runs.step (S' := (mj_m_104, 33, [(5, .int k), (3, .long x), (6, .int w), (0, .ref 0), (1, .int a), (2, .int b)], [.int a, .int k], h)) (mj_one_of mj_d_104_32 fun _ _ => rfl) ?_
    refine mj_runs.step (S' := (mj_m_104, 68, [(5, .int k), (3, .long x), (6, .int w), (0, .ref 0), (1, .int a), (2, .int b)], [], h)) (mj_one_icmpT mj_d_104_33 rfl (mj_cT_ge (rfl : (k).toInt = (k).toInt) (rfl : (a).toInt = (a).toInt) (by omega))) ?_
    refine mj_runs.step (S' := (mj_m_104, 69, [(5, .int k), (3, .long x), (6, .int w), (0, .ref 0), (1, .int a), (2, .int b)], [.long x], h)) (mj_one_of mj_d_104_68 fun _ _ => rfl) ?_
    refine mj_runs.step (S' := (mj_m_104, 70, [(5, .int k), (3, .long x), (6, .int w), (0, .ref 0), (1, .int a), (2, .int b)], [.int (x).toInt32], h)) (mj_one_of mj_d_104_69 fun _ _ => rfl) ?_
    exact mj_runs.ret (mj_ret_I mj_d_104_70 rfl)
  | succ m ih =>
    intro k x w h0 h1
    refine mj_runs.step (S' := (mj_m_104, 32, [(5, .int k), (3, .long x), (6, .int w), (0, .ref 0), (1, .int a), (2, .int b)], [.int k], h)) (mj_one_of mj_d_104_30 fun _ _ => rfl) ?_
    refine mj_runs.step (S' := (mj_m_104, 33, [(5, .int k), (3, .long x), (6, .int w), (0, .ref 0), (1, .int a), (2, .int b)], [.int a, .int k], h)) (mj_one_of mj_d_104_32 fun _ _ => rfl) ?_
    refine mj_runs.step (S' := (mj_m_104, 36, [(5, .int k), (3, .long x), (6, .int w), (0, .ref 0), (1, .int a), (2, .int b)], [], h)) (mj_one_icmpF mj_d_104_33 (t := 68) rfl (mj_cF_ge (rfl : (k).toInt = (k).toInt) (rfl : (a).toInt = (a).toInt) (by omega))) ?_
    refine mj_runs.step (S' := (mj_m_104, 38, [(5, .int k), (3, .long x), (6, .int w), (0, .ref 0), (1, .int a), (2, .int b)], [.int (100 : Int32)], h)) (mj_one_of mj_d_104_36 fun _ _ => rfl) ?_
    refine mj_runs.step (S' := (mj_m_104, 39, [(5, .int k), (3, .long x), (6, .int w), (0, .ref 0), (1, .int a), (2, .int b)], [.int b, .int (100 : Int32)], h)) (mj_one_of mj_d_104_38 fun _ _ => rfl) ?_
    refine mj_runs.step (S' := (mj_m_104, 40, [(5, .int k), (3, .long x), (6, .int w), (0, .ref 0), (1, .int a), (2, .int b)], [.int (2 : Int32), .int b, .int (100 : Int32)], h)) (mj_one_of mj_d_104_39 fun _ _ => rfl) ?_
    refine mj_runs.step (S' := (mj_m_104, 42, [(5, .int k), (3, .long x), (6, .int w), (0, .ref 0), (1, .int a), (2, .int b)], [.int k, .int (2 : Int32), .int b, .int (100 : Int32)], h)) (mj_one_of mj_d_104_40 fun _ _ => rfl) ?_
    refine mj_runs.step (S' := (mj_m_104, 43, [(5, .int k), (3, .long x), (6, .int w), (0, .ref 0), (1, .int a), (2, .int b)], [.int ((2 : Int32) * k), .int b, .int (100 : Int32)], h)) (mj_one_of mj_d_104_42 fun _ _ => rfl) ?_
    refine mj_runs.step (S' := (mj_m_104, 44, [(5, .int k), (3, .long x), (6, .int w), (0, .ref 0), (1, .int a), (2, .int b)], [.int (b + ((2 : Int32) * k)), .int (100 : Int32)], h)) (mj_one_of mj_d_104_43 fun _ _ => rfl) ?_
    refine mj_runs.step (S' := (mj_m_104, 47, [(5, .int k), (3, .long x), (6, .int w), (0, .ref 0), (1, .int a), (2, .int b)], [.int (if (b + ((2 : Int32) * k)) < (100 : Int32) then (b + ((2 : Int32) * k)) else (100 : Int32))], h)) (mj_one_of mj_d_104_44 fun _ _ => rfl) ?_
    refine mj_runs.step (S' := (mj_m_104, 49, [(6, .int (if (b + ((2 : Int32) * k)) < (100 : Int32) then (b + ((2 : Int32) * k)) else (100 : Int32))), (5, .int k), (3, .long x), (0, .ref 0), (1, .int a), (2, .int b)], [], h)) (mj_one_of mj_d_104_47 fun _ _ => rfl) ?_
    refine mj_runs.step (S' := (mj_m_104, 50, [(6, .int (if (b + ((2 : Int32) * k)) < (100 : Int32) then (b + ((2 : Int32) * k)) else (100 : Int32))), (5, .int k), (3, .long x), (0, .ref 0), (1, .int a), (2, .int b)], [.long x], h)) (mj_one_of mj_d_104_49 fun _ _ => rfl) ?_
    refine mj_runs.step (S' := (mj_m_104, 52, [(6, .int (if (b + ((2 : Int32) * k)) < (100 : Int32) then (b + ((2 : Int32) * k)) else (100 : Int32))), (5, .int k), (3, .long x), (0, .ref 0), (1, .int a), (2, .int b)], [.int (100 : Int32), .long x], h)) (mj_one_of mj_d_104_50 fun _ _ => rfl) ?_
    refine mj_runs.step (S' := (mj_m_104, 54, [(6, .int (if (b + ((2 : Int32) * k)) < (100 : Int32) then (b + ((2 : Int32) * k)) else (100 : Int32))), (5, .int k), (3, .long x), (0, .ref 0), (1, .int a), (2, .int b)], [.int (if (b + ((2 : Int32) * k)) < (100 : Int32) then (b + ((2 : Int32) * k)) else (100 : Int32)), .int (100 : Int32), .long x], h)) (mj_one_of mj_d_104_52 fun _ _ => rfl) ?_
    refine mj_runs.step (S' := (mj_m_104, 55, [(6, .int (if (b + ((2 : Int32) * k)) < (100 : Int32) then (b + ((2 : Int32) * k)) else (100 : Int32))), (5, .int k), (3, .long x), (0, .ref 0), (1, .int a), (2, .int b)], [.int ((100 : Int32) - (if (b + ((2 : Int32) * k)) < (100 : Int32) then (b + ((2 : Int32) * k)) else (100 : Int32))), .long x], h)) (mj_one_of mj_d_104_54 fun _ _ => rfl) ?_
    refine mj_runs.step (S' := (mj_m_104, 56, [(6, .int (if (b + ((2 : Int32) * k)) < (100 : Int32) then (b + ((2 : Int32) * k)) else (100 : Int32))), (5, .int k), (3, .long x), (0, .ref 0), (1, .int a), (2, .int b)], [.long (((100 : Int32) - (if (b + ((2 : Int32) * k)) < (100 : Int32) then (b + ((2 : Int32) * k)) else (100 : Int32)))).toInt64, .long x], h)) (mj_one_of mj_d_104_55 fun _ _ => rfl) ?_
    refine mj_runs.step (S' := (mj_m_104, 57, [(6, .int (if (b + ((2 : Int32) * k)) < (100 : Int32) then (b + ((2 : Int32) * k)) else (100 : Int32))), (5, .int k), (3, .long x), (0, .ref 0), (1, .int a), (2, .int b)], [.long (x * (((100 : Int32) - (if (b + ((2 : Int32) * k)) < (100 : Int32) then (b + ((2 : Int32) * k)) else (100 : Int32)))).toInt64)], h)) (mj_one_of mj_d_104_56 fun _ _ => rfl) ?_
    refine mj_runs.step (S' := (mj_m_104, 60, [(6, .int (if (b + ((2 : Int32) * k)) < (100 : Int32) then (b + ((2 : Int32) * k)) else (100 : Int32))), (5, .int k), (3, .long x), (0, .ref 0), (1, .int a), (2, .int b)], [.long (100 : Int64), .long (x * (((100 : Int32) - (if (b + ((2 : Int32) * k)) < (100 : Int32) then (b + ((2 : Int32) * k)) else (100 : Int32)))).toInt64)], h)) (mj_one_of mj_d_104_57 fun _ _ => rfl) ?_
    refine mj_runs.step (S' := (mj_m_104, 61, [(6, .int (if (b + ((2 : Int32) * k)) < (100 : Int32) then (b + ((2 : Int32) * k)) else (100 : Int32))), (5, .int k), (3, .long x), (0, .ref 0), (1, .int a), (2, .int b)], [.long ((x * (((100 : Int32) - (if (b + ((2 : Int32) * k)) < (100 : Int32) then (b + ((2 : Int32) * k)) else (100 : Int32)))).toInt64) / (100 : Int64))], h)) (mj_one_of mj_d_104_60 fun _ _ => rfl) ?_
    refine mj_runs.step (S' := (mj_m_104, 62, [(3, .long ((x * (((100 : Int32) - (if (b + ((2 : Int32) * k)) < (100 : Int32) then (b + ((2 : Int32) * k)) else (100 : Int32)))).toInt64) / (100 : Int64))), (6, .int (if (b + ((2 : Int32) * k)) < (100 : Int32) then (b + ((2 : Int32) * k)) else (100 : Int32))), (5, .int k), (0, .ref 0), (1, .int a), (2, .int b)], [], h)) (mj_one_of mj_d_104_61 fun _ _ => rfl) ?_
    refine mj_runs.step (S' := (mj_m_104, 65, [(5, .int (k + (1 : Int32))), (3, .long ((x * (((100 : Int32) - (if (b + ((2 : Int32) * k)) < (100 : Int32) then (b + ((2 : Int32) * k)) else (100 : Int32)))).toInt64) / (100 : Int64))), (6, .int (if (b + ((2 : Int32) * k)) < (100 : Int32) then (b + ((2 : Int32) * k)) else (100 : Int32))), (0, .ref 0), (1, .int a), (2, .int b)], [], h)) (mj_one_of mj_d_104_62 fun _ _ => rfl) ?_
    refine mj_runs.step (S' := (mj_m_104, 30, [(5, .int (k + (1 : Int32))), (3, .long ((x * (((100 : Int32) - (if (b + ((2 : Int32) * k)) < (100 : Int32) then (b + ((2 : Int32) * k)) else (100 : Int32)))).toInt64) / (100 : Int64))), (6, .int (if (b + ((2 : Int32) * k)) < (100 : Int32) then (b + ((2 : Int32) * k)) else (100 : Int32))), (0, .ref 0), (1, .int a), (2, .int b)], [], h)) (mj_one_of mj_d_104_65 fun _ _ => rfl) ?_
    have key := ih (k + 1) (mj_wetS b k x) (if (b + ((2 : Int32) * k)) < (100 : Int32) then (b + ((2 : Int32) * k)) else (100 : Int32)) (by rw [mj_inc k h0 (by omega)]; omega) (by rw [mj_inc k h0 (by omega)]; omega)
    have ex9 : mj_wetS b k x = ((x * (((100 : Int32) - (if (b + ((2 : Int32) * k)) < (100 : Int32) then (b + ((2 : Int32) * k)) else (100 : Int32)))).toInt64) / (100 : Int64)) := rfl
    rw [ex9] at key
    have e8 : mj_wetN b (m + 1) k x = mj_wetN b m (k + 1) ((x * (((100 : Int32) - (if (b + ((2 : Int32) * k)) < (100 : Int32) then (b + ((2 : Int32) * k)) else (100 : Int32)))).toInt64) / (100 : Int64)) := by rw [← ex9]; rfl
    rw [e8]
    exact key
set_option maxRecDepth 100000 in
set_option maxHeartbeats 4000000 in
theorem mj_wetC0 (a b : Int32) (h : mj_H) (ha : a.toInt ≤ 8) : ∀ (m : Nat) (k : Int32) (x : Int64) , 0 ≤ k.toInt → k.toInt + m = a.toInt → mj_runs (mj_m_104, 30, [(5, .int k), (3, .long x), (0, .ref 0), (1, .int a), (2, .int b)], [], h) (some (.int (mj_wetN b m k x).toInt32)) h := by
  intro m k x h0 h1
  cases m with
  | zero =>
    refine mj_runs.step (S' := (mj_m_104, 32, [(5, .int k), (3, .long x), (0, .ref 0), (1, .int a), (2, .int b)], [.int k], h)) (mj_one_of mj_d_104_30 fun _ _ => rfl) ?_
    refine mj_runs.step (S' := (mj_m_104, 33, [(5, .int k), (3, .long x), (0, .ref 0), (1, .int a), (2, .int b)], [.int a, .int k], h)) (mj_one_of mj_d_104_32 fun _ _ => rfl) ?_
    refine mj_runs.step (S' := (mj_m_104, 68, [(5, .int k), (3, .long x), (0, .ref 0), (1, .int a), (2, .int b)], [], h)) (mj_one_icmpT mj_d_104_33 rfl (mj_cT_ge (rfl : (k).toInt = (k).toInt) (rfl : (a).toInt = (a).toInt) (by omega))) ?_
    refine mj_runs.step (S' := (mj_m_104, 69, [(5, .int k), (3, .long x), (0, .ref 0), (1, .int a), (2, .int b)], [.long x], h)) (mj_one_of mj_d_104_68 fun _ _ => rfl) ?_
    refine mj_runs.step (S' := (mj_m_104, 70, [(5, .int k), (3, .long x), (0, .ref 0), (1, .int a), (2, .int b)], [.int (x).toInt32], h)) (mj_one_of mj_d_104_69 fun _ _ => rfl) ?_
    exact mj_runs.ret (mj_ret_I mj_d_104_70 rfl)
  | succ m =>
    refine mj_runs.step (S' := (mj_m_104, 32, [(5, .int k), (3, .long x), (0, .ref 0), (1, .int a), (2, .int b)], [.int k], h)) (mj_one_of mj_d_104_30 fun _ _ => rfl) ?_
    refine mj_runs.step (S' := (mj_m_104, 33, [(5, .int k), (3, .long x), (0, .ref 0), (1, .int a), (2, .int b)], [.int a, .int k], h)) (mj_one_of mj_d_104_32 fun _ _ => rfl) ?_
    refine mj_runs.step (S' := (mj_m_104, 36, [(5, .int k), (3, .long x), (0, .ref 0), (1, .int a), (2, .int b)], [], h)) (mj_one_icmpF mj_d_104_33 (t := 68) rfl (mj_cF_ge (rfl : (k).toInt = (k).toInt) (rfl : (a).toInt = (a).toInt) (by omega))) ?_
    refine mj_runs.step (S' := (mj_m_104, 38, [(5, .int k), (3, .long x), (0, .ref 0), (1, .int a), (2, .int b)], [.int (100 : Int32)], h)) (mj_one_of mj_d_104_36 fun _ _ => rfl) ?_
    refine mj_runs.step (S' := (mj_m_104, 39, [(5, .int k), (3, .long x), (0, .ref 0), (1, .int a), (2, .int b)], [.int b, .int (100 : Int32)], h)) (mj_one_of mj_d_104_38 fun _ _ => rfl) ?_
    refine mj_runs.step (S' := (mj_m_104, 40, [(5, .int k), (3, .long x), (0, .ref 0), (1, .int a), (2, .int b)], [.int (2 : Int32), .int b, .int (100 : Int32)], h)) (mj_one_of mj_d_104_39 fun _ _ => rfl) ?_
    refine mj_runs.step (S' := (mj_m_104, 42, [(5, .int k), (3, .long x), (0, .ref 0), (1, .int a), (2, .int b)], [.int k, .int (2 : Int32), .int b, .int (100 : Int32)], h)) (mj_one_of mj_d_104_40 fun _ _ => rfl) ?_
    refine mj_runs.step (S' := (mj_m_104, 43, [(5, .int k), (3, .long x), (0, .ref 0), (1, .int a), (2, .int b)], [.int ((2 : Int32) * k), .int b, .int (100 : Int32)], h)) (mj_one_of mj_d_104_42 fun _ _ => rfl) ?_
    refine mj_runs.step (S' := (mj_m_104, 44, [(5, .int k), (3, .long x), (0, .ref 0), (1, .int a), (2, .int b)], [.int (b + ((2 : Int32) * k)), .int (100 : Int32)], h)) (mj_one_of mj_d_104_43 fun _ _ => rfl) ?_
    refine mj_runs.step (S' := (mj_m_104, 47, [(5, .int k), (3, .long x), (0, .ref 0), (1, .int a), (2, .int b)], [.int (if (b + ((2 : Int32) * k)) < (100 : Int32) then (b + ((2 : Int32) * k)) else (100 : Int32))], h)) (mj_one_of mj_d_104_44 fun _ _ => rfl) ?_
    refine mj_runs.step (S' := (mj_m_104, 49, [(6, .int (if (b + ((2 : Int32) * k)) < (100 : Int32) then (b + ((2 : Int32) * k)) else (100 : Int32))), (5, .int k), (3, .long x), (0, .ref 0), (1, .int a), (2, .int b)], [], h)) (mj_one_of mj_d_104_47 fun _ _ => rfl) ?_
    refine mj_runs.step (S' := (mj_m_104, 50, [(6, .int (if (b + ((2 : Int32) * k)) < (100 : Int32) then (b + ((2 : Int32) * k)) else (100 : Int32))), (5, .int k), (3, .long x), (0, .ref 0), (1, .int a), (2, .int b)], [.long x], h)) (mj_one_of mj_d_104_49 fun _ _ => rfl) ?_
    refine mj_runs.step (S' := (mj_m_104, 52, [(6, .int (if (b + ((2 : Int32) * k)) < (100 : Int32) then (b + ((2 : Int32) * k)) else (100 : Int32))), (5, .int k), (3, .long x), (0, .ref 0), (1, .int a), (2, .int b)], [.int (100 : Int32), .long x], h)) (mj_one_of mj_d_104_50 fun _ _ => rfl) ?_
    refine mj_runs.step (S' := (mj_m_104, 54, [(6, .int (if (b + ((2 : Int32) * k)) < (100 : Int32) then (b + ((2 : Int32) * k)) else (100 : Int32))), (5, .int k), (3, .long x), (0, .ref 0), (1, .int a), (2, .int b)], [.int (if (b + ((2 : Int32) * k)) < (100 : Int32) then (b + ((2 : Int32) * k)) else (100 : Int32)), .int (100 : Int32), .long x], h)) (mj_one_of mj_d_104_52 fun _ _ => rfl) ?_
    refine mj_runs.step (S' := (mj_m_104, 55, [(6, .int (if (b + ((2 : Int32) * k)) < (100 : Int32) then (b + ((2 : Int32) * k)) else (100 : Int32))), (5, .int k), (3, .long x), (0, .ref 0), (1, .int a), (2, .int b)], [.int ((100 : Int32) - (if (b + ((2 : Int32) * k)) < (100 : Int32) then (b + ((2 : Int32) * k)) else (100 : Int32))), .long x], h)) (mj_one_of mj_d_104_54 fun _ _ => rfl) ?_
    refine mj_runs.step (S' := (mj_m_104, 56, [(6, .int (if (b + ((2 : Int32) * k)) < (100 : Int32) then (b + ((2 : Int32) * k)) else (100 : Int32))), (5, .int k), (3, .long x), (0, .ref 0), (1, .int a), (2, .int b)], [.long (((100 : Int32) - (if (b + ((2 : Int32) * k)) < (100 : Int32) then (b + ((2 : Int32) * k)) else (100 : Int32)))).toInt64, .long x], h)) (mj_one_of mj_d_104_55 fun _ _ => rfl) ?_
    refine mj_runs.step (S' := (mj_m_104, 57, [(6, .int (if (b + ((2 : Int32) * k)) < (100 : Int32) then (b + ((2 : Int32) * k)) else (100 : Int32))), (5, .int k), (3, .long x), (0, .ref 0), (1, .int a), (2, .int b)], [.long (x * (((100 : Int32) - (if (b + ((2 : Int32) * k)) < (100 : Int32) then (b + ((2 : Int32) * k)) else (100 : Int32)))).toInt64)], h)) (mj_one_of mj_d_104_56 fun _ _ => rfl) ?_
    refine mj_runs.step (S' := (mj_m_104, 60, [(6, .int (if (b + ((2 : Int32) * k)) < (100 : Int32) then (b + ((2 : Int32) * k)) else (100 : Int32))), (5, .int k), (3, .long x), (0, .ref 0), (1, .int a), (2, .int b)], [.long (100 : Int64), .long (x * (((100 : Int32) - (if (b + ((2 : Int32) * k)) < (100 : Int32) then (b + ((2 : Int32) * k)) else (100 : Int32)))).toInt64)], h)) (mj_one_of mj_d_104_57 fun _ _ => rfl) ?_
    refine mj_runs.step (S' := (mj_m_104, 61, [(6, .int (if (b + ((2 : Int32) * k)) < (100 : Int32) then (b + ((2 : Int32) * k)) else (100 : Int32))), (5, .int k), (3, .long x), (0, .ref 0), (1, .int a), (2, .int b)], [.long ((x * (((100 : Int32) - (if (b + ((2 : Int32) * k)) < (100 : Int32) then (b + ((2 : Int32) * k)) else (100 : Int32)))).toInt64) / (100 : Int64))], h)) (mj_one_of mj_d_104_60 fun _ _ => rfl) ?_
    refine mj_runs.step (S' := (mj_m_104, 62, [(3, .long ((x * (((100 : Int32) - (if (b + ((2 : Int32) * k)) < (100 : Int32) then (b + ((2 : Int32) * k)) else (100 : Int32)))).toInt64) / (100 : Int64))), (6, .int (if (b + ((2 : Int32) * k)) < (100 : Int32) then (b + ((2 : Int32) * k)) else (100 : Int32))), (5, .int k), (0, .ref 0), (1, .int a), (2, .int b)], [], h)) (mj_one_of mj_d_104_61 fun _ _ => rfl) ?_
    refine mj_runs.step (S' := (mj_m_104, 65, [(5, .int (k + (1 : Int32))), (3, .long ((x * (((100 : Int32) - (if (b + ((2 : Int32) * k)) < (100 : Int32) then (b + ((2 : Int32) * k)) else (100 : Int32)))).toInt64) / (100 : Int64))), (6, .int (if (b + ((2 : Int32) * k)) < (100 : Int32) then (b + ((2 : Int32) * k)) else (100 : Int32))), (0, .ref 0), (1, .int a), (2, .int b)], [], h)) (mj_one_of mj_d_104_62 fun _ _ => rfl) ?_
    refine mj_runs.step (S' := (mj_m_104, 30, [(5, .int (k + (1 : Int32))), (3, .long ((x * (((100 : Int32) - (if (b + ((2 : Int32) * k)) < (100 : Int32) then (b + ((2 : Int32) * k)) else (100 : Int32)))).toInt64) / (100 : Int64))), (6, .int (if (b + ((2 : Int32) * k)) < (100 : Int32) then (b + ((2 : Int32) * k)) else (100 : Int32))), (0, .ref 0), (1, .int a), (2, .int b)], [], h)) (mj_one_of mj_d_104_65 fun _ _ => rfl) ?_
    have key := mj_wetC a b h ha m (k + 1) (mj_wetS b k x) (if (b + ((2 : Int32) * k)) < (100 : Int32) then (b + ((2 : Int32) * k)) else (100 : Int32)) (by rw [mj_inc k h0 (by omega)]; omega) (by rw [mj_inc k h0 (by omega)]; omega)
    have ex9 : mj_wetS b k x = ((x * (((100 : Int32) - (if (b + ((2 : Int32) * k)) < (100 : Int32) then (b + ((2 : Int32) * k)) else (100 : Int32)))).toInt64) / (100 : Int64)) := rfl
    rw [ex9] at key
    have e8 : mj_wetN b (m + 1) k x = mj_wetN b m (k + 1) ((x * (((100 : Int32) - (if (b + ((2 : Int32) * k)) < (100 : Int32) then (b + ((2 : Int32) * k)) else (100 : Int32)))).toInt64) / (100 : Int64)) := by rw [← ex9]; rfl
    rw [e8]
    exact key
set_option maxRecDepth 100000 in
set_option maxHeartbeats 4000000 in
theorem mj_wetM (a b : Int32) (h : mj_H) (ha : a.toInt ≤ 8) : ∀ (m : Nat) (k : Int32) (x : Int64) (w : Int32) , 0 ≤ k.toInt → k.toInt + m = a.toInt → mj_runs (mj_m_180, 34, [(5, .int k), (3, .long x), (6, .int w), (0, .ref 234), (1, .int a), (2, .int b)], [], h) (some (.int (mj_wetN b m k x).toInt32)) h := by
  intro m
  induction m with
  | zero =>
    intro k x w h0 h1
    refine mj_runs.step (S' := (mj_m_180, 36, [(5, .int k), (3, .long x), (6, .int w), (0, .ref 234), (1, .int a), (2, .int b)], [.int k], h)) (mj_one_of mj_d_180_34 fun _ _ => rfl) ?_
    refine mj_runs.step (S' := (mj_m_180, 37, [(5, .int k), (3, .long x), (6, .int w), (0, .ref 234), (1, .int a), (2, .int b)], [.int a, .int k], h)) (mj_one_of mj_d_180_36 fun _ _ => rfl) ?_
    refine mj_runs.step (S' := (mj_m_180, 83, [(5, .int k), (3, .long x), (6, .int w), (0, .ref 234), (1, .int a), (2, .int b)], [], h)) (mj_one_icmpT mj_d_180_37 rfl (mj_cT_ge (rfl : (k).toInt = (k).toInt) (rfl : (a).toInt = (a).toInt) (by omega))) ?_
    refine mj_runs.step (S' := (mj_m_180, 84, [(5, .int k), (3, .long x), (6, .int w), (0, .ref 234), (1, .int a), (2, .int b)], [.long x], h)) (mj_one_of mj_d_180_83 fun _ _ => rfl) ?_
    refine mj_runs.step (S' := (mj_m_180, 85, [(5, .int k), (3, .long x), (6, .int w), (0, .ref 234), (1, .int a), (2, .int b)], [.int (x).toInt32], h)) (mj_one_of mj_d_180_84 fun _ _ => rfl) ?_
    exact mj_runs.ret (mj_ret_I mj_d_180_85 rfl)
  | succ m ih =>
    intro k x w h0 h1
    by_cases c5 : (b + 2 * k).toInt ≤ 100
    · refine mj_runs.step (S' := (mj_m_180, 36, [(5, .int k), (3, .long x), (6, .int w), (0, .ref 234), (1, .int a), (2, .int b)], [.int k], h)) (mj_one_of mj_d_180_34 fun _ _ => rfl) ?_
      refine mj_runs.step (S' := (mj_m_180, 37, [(5, .int k), (3, .long x), (6, .int w), (0, .ref 234), (1, .int a), (2, .int b)], [.int a, .int k], h)) (mj_one_of mj_d_180_36 fun _ _ => rfl) ?_
      refine mj_runs.step (S' := (mj_m_180, 40, [(5, .int k), (3, .long x), (6, .int w), (0, .ref 234), (1, .int a), (2, .int b)], [], h)) (mj_one_icmpF mj_d_180_37 (t := 83) rfl (mj_cF_ge (rfl : (k).toInt = (k).toInt) (rfl : (a).toInt = (a).toInt) (by omega))) ?_
      refine mj_runs.step (S' := (mj_m_180, 41, [(5, .int k), (3, .long x), (6, .int w), (0, .ref 234), (1, .int a), (2, .int b)], [.int b], h)) (mj_one_of mj_d_180_40 fun _ _ => rfl) ?_
      refine mj_runs.step (S' := (mj_m_180, 42, [(5, .int k), (3, .long x), (6, .int w), (0, .ref 234), (1, .int a), (2, .int b)], [.int (2 : Int32), .int b], h)) (mj_one_of mj_d_180_41 fun _ _ => rfl) ?_
      refine mj_runs.step (S' := (mj_m_180, 44, [(5, .int k), (3, .long x), (6, .int w), (0, .ref 234), (1, .int a), (2, .int b)], [.int k, .int (2 : Int32), .int b], h)) (mj_one_of mj_d_180_42 fun _ _ => rfl) ?_
      refine mj_runs.step (S' := (mj_m_180, 45, [(5, .int k), (3, .long x), (6, .int w), (0, .ref 234), (1, .int a), (2, .int b)], [.int ((2 : Int32) * k), .int b], h)) (mj_one_of mj_d_180_44 fun _ _ => rfl) ?_
      refine mj_runs.step (S' := (mj_m_180, 46, [(5, .int k), (3, .long x), (6, .int w), (0, .ref 234), (1, .int a), (2, .int b)], [.int (b + ((2 : Int32) * k))], h)) (mj_one_of mj_d_180_45 fun _ _ => rfl) ?_
      refine mj_runs.step (S' := (mj_m_180, 48, [(5, .int k), (3, .long x), (6, .int w), (0, .ref 234), (1, .int a), (2, .int b)], [.int (100 : Int32), .int (b + ((2 : Int32) * k))], h)) (mj_one_of mj_d_180_46 fun _ _ => rfl) ?_
      refine mj_runs.step (S' := (mj_m_180, 56, [(5, .int k), (3, .long x), (6, .int w), (0, .ref 234), (1, .int a), (2, .int b)], [], h)) (mj_one_icmpT mj_d_180_48 rfl (mj_cT_le (rfl : ((b + ((2 : Int32) * k))).toInt = ((b + ((2 : Int32) * k))).toInt) (show ((100 : Int32)).toInt = 100 by decide) (by omega))) ?_
      refine mj_runs.step (S' := (mj_m_180, 57, [(5, .int k), (3, .long x), (6, .int w), (0, .ref 234), (1, .int a), (2, .int b)], [.int b], h)) (mj_one_of mj_d_180_56 fun _ _ => rfl) ?_
      refine mj_runs.step (S' := (mj_m_180, 58, [(5, .int k), (3, .long x), (6, .int w), (0, .ref 234), (1, .int a), (2, .int b)], [.int (2 : Int32), .int b], h)) (mj_one_of mj_d_180_57 fun _ _ => rfl) ?_
      refine mj_runs.step (S' := (mj_m_180, 60, [(5, .int k), (3, .long x), (6, .int w), (0, .ref 234), (1, .int a), (2, .int b)], [.int k, .int (2 : Int32), .int b], h)) (mj_one_of mj_d_180_58 fun _ _ => rfl) ?_
      refine mj_runs.step (S' := (mj_m_180, 61, [(5, .int k), (3, .long x), (6, .int w), (0, .ref 234), (1, .int a), (2, .int b)], [.int ((2 : Int32) * k), .int b], h)) (mj_one_of mj_d_180_60 fun _ _ => rfl) ?_
      refine mj_runs.step (S' := (mj_m_180, 62, [(5, .int k), (3, .long x), (6, .int w), (0, .ref 234), (1, .int a), (2, .int b)], [.int (b + ((2 : Int32) * k))], h)) (mj_one_of mj_d_180_61 fun _ _ => rfl) ?_
      refine mj_runs.step (S' := (mj_m_180, 64, [(6, .int (b + ((2 : Int32) * k))), (5, .int k), (3, .long x), (0, .ref 234), (1, .int a), (2, .int b)], [], h)) (mj_one_of mj_d_180_62 fun _ _ => rfl) ?_
      refine mj_runs.step (S' := (mj_m_180, 65, [(6, .int (b + ((2 : Int32) * k))), (5, .int k), (3, .long x), (0, .ref 234), (1, .int a), (2, .int b)], [.long x], h)) (mj_one_of mj_d_180_64 fun _ _ => rfl) ?_
      refine mj_runs.step (S' := (mj_m_180, 67, [(6, .int (b + ((2 : Int32) * k))), (5, .int k), (3, .long x), (0, .ref 234), (1, .int a), (2, .int b)], [.int (100 : Int32), .long x], h)) (mj_one_of mj_d_180_65 fun _ _ => rfl) ?_
      refine mj_runs.step (S' := (mj_m_180, 69, [(6, .int (b + ((2 : Int32) * k))), (5, .int k), (3, .long x), (0, .ref 234), (1, .int a), (2, .int b)], [.int (b + ((2 : Int32) * k)), .int (100 : Int32), .long x], h)) (mj_one_of mj_d_180_67 fun _ _ => rfl) ?_
      refine mj_runs.step (S' := (mj_m_180, 70, [(6, .int (b + ((2 : Int32) * k))), (5, .int k), (3, .long x), (0, .ref 234), (1, .int a), (2, .int b)], [.int ((100 : Int32) - (b + ((2 : Int32) * k))), .long x], h)) (mj_one_of mj_d_180_69 fun _ _ => rfl) ?_
      refine mj_runs.step (S' := (mj_m_180, 71, [(6, .int (b + ((2 : Int32) * k))), (5, .int k), (3, .long x), (0, .ref 234), (1, .int a), (2, .int b)], [.long (((100 : Int32) - (b + ((2 : Int32) * k)))).toInt64, .long x], h)) (mj_one_of mj_d_180_70 fun _ _ => rfl) ?_
      refine mj_runs.step (S' := (mj_m_180, 72, [(6, .int (b + ((2 : Int32) * k))), (5, .int k), (3, .long x), (0, .ref 234), (1, .int a), (2, .int b)], [.long (x * (((100 : Int32) - (b + ((2 : Int32) * k)))).toInt64)], h)) (mj_one_of mj_d_180_71 fun _ _ => rfl) ?_
      refine mj_runs.step (S' := (mj_m_180, 75, [(6, .int (b + ((2 : Int32) * k))), (5, .int k), (3, .long x), (0, .ref 234), (1, .int a), (2, .int b)], [.long (100 : Int64), .long (x * (((100 : Int32) - (b + ((2 : Int32) * k)))).toInt64)], h)) (mj_one_of mj_d_180_72 fun _ _ => rfl) ?_
      refine mj_runs.step (S' := (mj_m_180, 76, [(6, .int (b + ((2 : Int32) * k))), (5, .int k), (3, .long x), (0, .ref 234), (1, .int a), (2, .int b)], [.long ((x * (((100 : Int32) - (b + ((2 : Int32) * k)))).toInt64) / (100 : Int64))], h)) (mj_one_of mj_d_180_75 fun _ _ => rfl) ?_
      refine mj_runs.step (S' := (mj_m_180, 77, [(3, .long ((x * (((100 : Int32) - (b + ((2 : Int32) * k)))).toInt64) / (100 : Int64))), (6, .int (b + ((2 : Int32) * k))), (5, .int k), (0, .ref 234), (1, .int a), (2, .int b)], [], h)) (mj_one_of mj_d_180_76 fun _ _ => rfl) ?_
      refine mj_runs.step (S' := (mj_m_180, 80, [(5, .int (k + (1 : Int32))), (3, .long ((x * (((100 : Int32) - (b + ((2 : Int32) * k)))).toInt64) / (100 : Int64))), (6, .int (b + ((2 : Int32) * k))), (0, .ref 234), (1, .int a), (2, .int b)], [], h)) (mj_one_of mj_d_180_77 fun _ _ => rfl) ?_
      refine mj_runs.step (S' := (mj_m_180, 34, [(5, .int (k + (1 : Int32))), (3, .long ((x * (((100 : Int32) - (b + ((2 : Int32) * k)))).toInt64) / (100 : Int64))), (6, .int (b + ((2 : Int32) * k))), (0, .ref 234), (1, .int a), (2, .int b)], [], h)) (mj_one_of mj_d_180_80 fun _ _ => rfl) ?_
      have key := ih (k + 1) (mj_wetS b k x) (b + ((2 : Int32) * k)) (by rw [mj_inc k h0 (by omega)]; omega) (by rw [mj_inc k h0 (by omega)]; omega)
      have ex9 : mj_wetS b k x = ((x * (((100 : Int32) - (b + ((2 : Int32) * k)))).toInt64) / (100 : Int64)) := by unfold mj_wetS; rw [mj_w100 c5]
      rw [ex9] at key
      have e8 : mj_wetN b (m + 1) k x = mj_wetN b m (k + 1) ((x * (((100 : Int32) - (b + ((2 : Int32) * k)))).toInt64) / (100 : Int64)) := by rw [← ex9]; rfl
      rw [e8]
      exact key
    · refine mj_runs.step (S' := (mj_m_180, 36, [(5, .int k), (3, .long x), (6, .int w), (0, .ref 234), (1, .int a), (2, .int b)], [.int k], h)) (mj_one_of mj_d_180_34 fun _ _ => rfl) ?_
      refine mj_runs.step (S' := (mj_m_180, 37, [(5, .int k), (3, .long x), (6, .int w), (0, .ref 234), (1, .int a), (2, .int b)], [.int a, .int k], h)) (mj_one_of mj_d_180_36 fun _ _ => rfl) ?_
      refine mj_runs.step (S' := (mj_m_180, 40, [(5, .int k), (3, .long x), (6, .int w), (0, .ref 234), (1, .int a), (2, .int b)], [], h)) (mj_one_icmpF mj_d_180_37 (t := 83) rfl (mj_cF_ge (rfl : (k).toInt = (k).toInt) (rfl : (a).toInt = (a).toInt) (by omega))) ?_
      refine mj_runs.step (S' := (mj_m_180, 41, [(5, .int k), (3, .long x), (6, .int w), (0, .ref 234), (1, .int a), (2, .int b)], [.int b], h)) (mj_one_of mj_d_180_40 fun _ _ => rfl) ?_
      refine mj_runs.step (S' := (mj_m_180, 42, [(5, .int k), (3, .long x), (6, .int w), (0, .ref 234), (1, .int a), (2, .int b)], [.int (2 : Int32), .int b], h)) (mj_one_of mj_d_180_41 fun _ _ => rfl) ?_
      refine mj_runs.step (S' := (mj_m_180, 44, [(5, .int k), (3, .long x), (6, .int w), (0, .ref 234), (1, .int a), (2, .int b)], [.int k, .int (2 : Int32), .int b], h)) (mj_one_of mj_d_180_42 fun _ _ => rfl) ?_
      refine mj_runs.step (S' := (mj_m_180, 45, [(5, .int k), (3, .long x), (6, .int w), (0, .ref 234), (1, .int a), (2, .int b)], [.int ((2 : Int32) * k), .int b], h)) (mj_one_of mj_d_180_44 fun _ _ => rfl) ?_
      refine mj_runs.step (S' := (mj_m_180, 46, [(5, .int k), (3, .long x), (6, .int w), (0, .ref 234), (1, .int a), (2, .int b)], [.int (b + ((2 : Int32) * k))], h)) (mj_one_of mj_d_180_45 fun _ _ => rfl) ?_
      refine mj_runs.step (S' := (mj_m_180, 48, [(5, .int k), (3, .long x), (6, .int w), (0, .ref 234), (1, .int a), (2, .int b)], [.int (100 : Int32), .int (b + ((2 : Int32) * k))], h)) (mj_one_of mj_d_180_46 fun _ _ => rfl) ?_
      refine mj_runs.step (S' := (mj_m_180, 51, [(5, .int k), (3, .long x), (6, .int w), (0, .ref 234), (1, .int a), (2, .int b)], [], h)) (mj_one_icmpF mj_d_180_48 (t := 56) rfl (mj_cF_le (rfl : ((b + ((2 : Int32) * k))).toInt = ((b + ((2 : Int32) * k))).toInt) (show ((100 : Int32)).toInt = 100 by decide) (by omega))) ?_
      refine mj_runs.step (S' := (mj_m_180, 53, [(5, .int k), (3, .long x), (6, .int w), (0, .ref 234), (1, .int a), (2, .int b)], [.int (100 : Int32)], h)) (mj_one_of mj_d_180_51 fun _ _ => rfl) ?_
      refine mj_runs.step (S' := (mj_m_180, 62, [(5, .int k), (3, .long x), (6, .int w), (0, .ref 234), (1, .int a), (2, .int b)], [.int (100 : Int32)], h)) (mj_one_of mj_d_180_53 fun _ _ => rfl) ?_
      refine mj_runs.step (S' := (mj_m_180, 64, [(6, .int (100 : Int32)), (5, .int k), (3, .long x), (0, .ref 234), (1, .int a), (2, .int b)], [], h)) (mj_one_of mj_d_180_62 fun _ _ => rfl) ?_
      refine mj_runs.step (S' := (mj_m_180, 65, [(6, .int (100 : Int32)), (5, .int k), (3, .long x), (0, .ref 234), (1, .int a), (2, .int b)], [.long x], h)) (mj_one_of mj_d_180_64 fun _ _ => rfl) ?_
      refine mj_runs.step (S' := (mj_m_180, 67, [(6, .int (100 : Int32)), (5, .int k), (3, .long x), (0, .ref 234), (1, .int a), (2, .int b)], [.int (100 : Int32), .long x], h)) (mj_one_of mj_d_180_65 fun _ _ => rfl) ?_
      refine mj_runs.step (S' := (mj_m_180, 69, [(6, .int (100 : Int32)), (5, .int k), (3, .long x), (0, .ref 234), (1, .int a), (2, .int b)], [.int (100 : Int32), .int (100 : Int32), .long x], h)) (mj_one_of mj_d_180_67 fun _ _ => rfl) ?_
      refine mj_runs.step (S' := (mj_m_180, 70, [(6, .int (100 : Int32)), (5, .int k), (3, .long x), (0, .ref 234), (1, .int a), (2, .int b)], [.int (0 : Int32), .long x], h)) (mj_one_of mj_d_180_69 fun _ _ => rfl) ?_
      refine mj_runs.step (S' := (mj_m_180, 71, [(6, .int (100 : Int32)), (5, .int k), (3, .long x), (0, .ref 234), (1, .int a), (2, .int b)], [.long (0 : Int64), .long x], h)) (mj_one_of mj_d_180_70 fun _ _ => rfl) ?_
      refine mj_runs.step (S' := (mj_m_180, 72, [(6, .int (100 : Int32)), (5, .int k), (3, .long x), (0, .ref 234), (1, .int a), (2, .int b)], [.long (x * (0 : Int64))], h)) (mj_one_of mj_d_180_71 fun _ _ => rfl) ?_
      refine mj_runs.step (S' := (mj_m_180, 75, [(6, .int (100 : Int32)), (5, .int k), (3, .long x), (0, .ref 234), (1, .int a), (2, .int b)], [.long (100 : Int64), .long (x * (0 : Int64))], h)) (mj_one_of mj_d_180_72 fun _ _ => rfl) ?_
      refine mj_runs.step (S' := (mj_m_180, 76, [(6, .int (100 : Int32)), (5, .int k), (3, .long x), (0, .ref 234), (1, .int a), (2, .int b)], [.long ((x * (0 : Int64)) / (100 : Int64))], h)) (mj_one_of mj_d_180_75 fun _ _ => rfl) ?_
      refine mj_runs.step (S' := (mj_m_180, 77, [(3, .long ((x * (0 : Int64)) / (100 : Int64))), (6, .int (100 : Int32)), (5, .int k), (0, .ref 234), (1, .int a), (2, .int b)], [], h)) (mj_one_of mj_d_180_76 fun _ _ => rfl) ?_
      refine mj_runs.step (S' := (mj_m_180, 80, [(5, .int (k + (1 : Int32))), (3, .long ((x * (0 : Int64)) / (100 : Int64))), (6, .int (100 : Int32)), (0, .ref 234), (1, .int a), (2, .int b)], [], h)) (mj_one_of mj_d_180_77 fun _ _ => rfl) ?_
      refine mj_runs.step (S' := (mj_m_180, 34, [(5, .int (k + (1 : Int32))), (3, .long ((x * (0 : Int64)) / (100 : Int64))), (6, .int (100 : Int32)), (0, .ref 234), (1, .int a), (2, .int b)], [], h)) (mj_one_of mj_d_180_80 fun _ _ => rfl) ?_
      have key := ih (k + 1) (mj_wetS b k x) (100 : Int32) (by rw [mj_inc k h0 (by omega)]; omega) (by rw [mj_inc k h0 (by omega)]; omega)
      have ex9 : mj_wetS b k x = ((x * (0 : Int64)) / (100 : Int64)) := by unfold mj_wetS; rw [if_neg (fun q => c5 (by have := Int32.lt_iff_toInt_lt.mp q; rw [show (100 : Int32).toInt = 100 by decide] at this; omega))]; rfl
      rw [ex9] at key
      have e8 : mj_wetN b (m + 1) k x = mj_wetN b m (k + 1) ((x * (0 : Int64)) / (100 : Int64)) := by rw [← ex9]; rfl
      rw [e8]
      exact key
set_option maxRecDepth 100000 in
set_option maxHeartbeats 4000000 in
theorem mj_wetM0 (a b : Int32) (h : mj_H) (ha : a.toInt ≤ 8) : ∀ (m : Nat) (k : Int32) (x : Int64) , 0 ≤ k.toInt → k.toInt + m = a.toInt → mj_runs (mj_m_180, 34, [(5, .int k), (3, .long x), (0, .ref 234), (1, .int a), (2, .int b)], [], h) (some (.int (mj_wetN b m k x).toInt32)) h := by
  intro m k x h0 h1
  cases m with
  | zero =>
    refine mj_runs.step (S' := (mj_m_180, 36, [(5, .int k), (3, .long x), (0, .ref 234), (1, .int a), (2, .int b)], [.int k], h)) (mj_one_of mj_d_180_34 fun _ _ => rfl) ?_
    refine mj_runs.step (S' := (mj_m_180, 37, [(5, .int k), (3, .long x), (0, .ref 234), (1, .int a), (2, .int b)], [.int a, .int k], h)) (mj_one_of mj_d_180_36 fun _ _ => rfl) ?_
    refine mj_runs.step (S' := (mj_m_180, 83, [(5, .int k), (3, .long x), (0, .ref 234), (1, .int a), (2, .int b)], [], h)) (mj_one_icmpT mj_d_180_37 rfl (mj_cT_ge (rfl : (k).toInt = (k).toInt) (rfl : (a).toInt = (a).toInt) (by omega))) ?_
    refine mj_runs.step (S' := (mj_m_180, 84, [(5, .int k), (3, .long x), (0, .ref 234), (1, .int a), (2, .int b)], [.long x], h)) (mj_one_of mj_d_180_83 fun _ _ => rfl) ?_
    refine mj_runs.step (S' := (mj_m_180, 85, [(5, .int k), (3, .long x), (0, .ref 234), (1, .int a), (2, .int b)], [.int (x).toInt32], h)) (mj_one_of mj_d_180_84 fun _ _ => rfl) ?_
    exact mj_runs.ret (mj_ret_I mj_d_180_85 rfl)
  | succ m =>
    by_cases c5 : (b + 2 * k).toInt ≤ 100
    · refine mj_runs.step (S' := (mj_m_180, 36, [(5, .int k), (3, .long x), (0, .ref 234), (1, .int a), (2, .int b)], [.int k], h)) (mj_one_of mj_d_180_34 fun _ _ => rfl) ?_
      refine mj_runs.step (S' := (mj_m_180, 37, [(5, .int k), (3, .long x), (0, .ref 234), (1, .int a), (2, .int b)], [.int a, .int k], h)) (mj_one_of mj_d_180_36 fun _ _ => rfl) ?_
      refine mj_runs.step (S' := (mj_m_180, 40, [(5, .int k), (3, .long x), (0, .ref 234), (1, .int a), (2, .int b)], [], h)) (mj_one_icmpF mj_d_180_37 (t := 83) rfl (mj_cF_ge (rfl : (k).toInt = (k).toInt) (rfl : (a).toInt = (a).toInt) (by omega))) ?_
      refine mj_runs.step (S' := (mj_m_180, 41, [(5, .int k), (3, .long x), (0, .ref 234), (1, .int a), (2, .int b)], [.int b], h)) (mj_one_of mj_d_180_40 fun _ _ => rfl) ?_
      refine mj_runs.step (S' := (mj_m_180, 42, [(5, .int k), (3, .long x), (0, .ref 234), (1, .int a), (2, .int b)], [.int (2 : Int32), .int b], h)) (mj_one_of mj_d_180_41 fun _ _ => rfl) ?_
      refine mj_runs.step (S' := (mj_m_180, 44, [(5, .int k), (3, .long x), (0, .ref 234), (1, .int a), (2, .int b)], [.int k, .int (2 : Int32), .int b], h)) (mj_one_of mj_d_180_42 fun _ _ => rfl) ?_
      refine mj_runs.step (S' := (mj_m_180, 45, [(5, .int k), (3, .long x), (0, .ref 234), (1, .int a), (2, .int b)], [.int ((2 : Int32) * k), .int b], h)) (mj_one_of mj_d_180_44 fun _ _ => rfl) ?_
      refine mj_runs.step (S' := (mj_m_180, 46, [(5, .int k), (3, .long x), (0, .ref 234), (1, .int a), (2, .int b)], [.int (b + ((2 : Int32) * k))], h)) (mj_one_of mj_d_180_45 fun _ _ => rfl) ?_
      refine mj_runs.step (S' := (mj_m_180, 48, [(5, .int k), (3, .long x), (0, .ref 234), (1, .int a), (2, .int b)], [.int (100 : Int32), .int (b + ((2 : Int32) * k))], h)) (mj_one_of mj_d_180_46 fun _ _ => rfl) ?_
      refine mj_runs.step (S' := (mj_m_180, 56, [(5, .int k), (3, .long x), (0, .ref 234), (1, .int a), (2, .int b)], [], h)) (mj_one_icmpT mj_d_180_48 rfl (mj_cT_le (rfl : ((b + ((2 : Int32) * k))).toInt = ((b + ((2 : Int32) * k))).toInt) (show ((100 : Int32)).toInt = 100 by decide) (by omega))) ?_
      refine mj_runs.step (S' := (mj_m_180, 57, [(5, .int k), (3, .long x), (0, .ref 234), (1, .int a), (2, .int b)], [.int b], h)) (mj_one_of mj_d_180_56 fun _ _ => rfl) ?_
      refine mj_runs.step (S' := (mj_m_180, 58, [(5, .int k), (3, .long x), (0, .ref 234), (1, .int a), (2, .int b)], [.int (2 : Int32), .int b], h)) (mj_one_of mj_d_180_57 fun _ _ => rfl) ?_
      refine mj_runs.step (S' := (mj_m_180, 60, [(5, .int k), (3, .long x), (0, .ref 234), (1, .int a), (2, .int b)], [.int k, .int (2 : Int32), .int b], h)) (mj_one_of mj_d_180_58 fun _ _ => rfl) ?_
      refine mj_runs.step (S' := (mj_m_180, 61, [(5, .int k), (3, .long x), (0, .ref 234), (1, .int a), (2, .int b)], [.int ((2 : Int32) * k), .int b], h)) (mj_one_of mj_d_180_60 fun _ _ => rfl) ?_
      refine mj_runs.step (S' := (mj_m_180, 62, [(5, .int k), (3, .long x), (0, .ref 234), (1, .int a), (2, .int b)], [.int (b + ((2 : Int32) * k))], h)) (mj_one_of mj_d_180_61 fun _ _ => rfl) ?_
      refine mj_runs.step (S' := (mj_m_180, 64, [(6, .int (b + ((2 : Int32) * k))), (5, .int k), (3, .long x), (0, .ref 234), (1, .int a), (2, .int b)], [], h)) (mj_one_of mj_d_180_62 fun _ _ => rfl) ?_
      refine mj_runs.step (S' := (mj_m_180, 65, [(6, .int (b + ((2 : Int32) * k))), (5, .int k), (3, .long x), (0, .ref 234), (1, .int a), (2, .int b)], [.long x], h)) (mj_one_of mj_d_180_64 fun _ _ => rfl) ?_
      refine mj_runs.step (S' := (mj_m_180, 67, [(6, .int (b + ((2 : Int32) * k))), (5, .int k), (3, .long x), (0, .ref 234), (1, .int a), (2, .int b)], [.int (100 : Int32), .long x], h)) (mj_one_of mj_d_180_65 fun _ _ => rfl) ?_
      refine mj_runs.step (S' := (mj_m_180, 69, [(6, .int (b + ((2 : Int32) * k))), (5, .int k), (3, .long x), (0, .ref 234), (1, .int a), (2, .int b)], [.int (b + ((2 : Int32) * k)), .int (100 : Int32), .long x], h)) (mj_one_of mj_d_180_67 fun _ _ => rfl) ?_
      refine mj_runs.step (S' := (mj_m_180, 70, [(6, .int (b + ((2 : Int32) * k))), (5, .int k), (3, .long x), (0, .ref 234), (1, .int a), (2, .int b)], [.int ((100 : Int32) - (b + ((2 : Int32) * k))), .long x], h)) (mj_one_of mj_d_180_69 fun _ _ => rfl) ?_
      refine mj_runs.step (S' := (mj_m_180, 71, [(6, .int (b + ((2 : Int32) * k))), (5, .int k), (3, .long x), (0, .ref 234), (1, .int a), (2, .int b)], [.long (((100 : Int32) - (b + ((2 : Int32) * k)))).toInt64, .long x], h)) (mj_one_of mj_d_180_70 fun _ _ => rfl) ?_
      refine mj_runs.step (S' := (mj_m_180, 72, [(6, .int (b + ((2 : Int32) * k))), (5, .int k), (3, .long x), (0, .ref 234), (1, .int a), (2, .int b)], [.long (x * (((100 : Int32) - (b + ((2 : Int32) * k)))).toInt64)], h)) (mj_one_of mj_d_180_71 fun _ _ => rfl) ?_
      refine mj_runs.step (S' := (mj_m_180, 75, [(6, .int (b + ((2 : Int32) * k))), (5, .int k), (3, .long x), (0, .ref 234), (1, .int a), (2, .int b)], [.long (100 : Int64), .long (x * (((100 : Int32) - (b + ((2 : Int32) * k)))).toInt64)], h)) (mj_one_of mj_d_180_72 fun _ _ => rfl) ?_
      refine mj_runs.step (S' := (mj_m_180, 76, [(6, .int (b + ((2 : Int32) * k))), (5, .int k), (3, .long x), (0, .ref 234), (1, .int a), (2, .int b)], [.long ((x * (((100 : Int32) - (b + ((2 : Int32) * k)))).toInt64) / (100 : Int64))], h)) (mj_one_of mj_d_180_75 fun _ _ => rfl) ?_
      refine mj_runs.step (S' := (mj_m_180, 77, [(3, .long ((x * (((100 : Int32) - (b + ((2 : Int32) * k)))).toInt64) / (100 : Int64))), (6, .int (b + ((2 : Int32) * k))), (5, .int k), (0, .ref 234), (1, .int a), (2, .int b)], [], h)) (mj_one_of mj_d_180_76 fun _ _ => rfl) ?_
      refine mj_runs.step (S' := (mj_m_180, 80, [(5, .int (k + (1 : Int32))), (3, .long ((x * (((100 : Int32) - (b + ((2 : Int32) * k)))).toInt64) / (100 : Int64))), (6, .int (b + ((2 : Int32) * k))), (0, .ref 234), (1, .int a), (2, .int b)], [], h)) (mj_one_of mj_d_180_77 fun _ _ => rfl) ?_
      refine mj_runs.step (S' := (mj_m_180, 34, [(5, .int (k + (1 : Int32))), (3, .long ((x * (((100 : Int32) - (b + ((2 : Int32) * k)))).toInt64) / (100 : Int64))), (6, .int (b + ((2 : Int32) * k))), (0, .ref 234), (1, .int a), (2, .int b)], [], h)) (mj_one_of mj_d_180_80 fun _ _ => rfl) ?_
      have key := mj_wetM a b h ha m (k + 1) (mj_wetS b k x) (b + ((2 : Int32) * k)) (by rw [mj_inc k h0 (by omega)]; omega) (by rw [mj_inc k h0 (by omega)]; omega)
      have ex9 : mj_wetS b k x = ((x * (((100 : Int32) - (b + ((2 : Int32) * k)))).toInt64) / (100 : Int64)) := by unfold mj_wetS; rw [mj_w100 c5]
      rw [ex9] at key
      have e8 : mj_wetN b (m + 1) k x = mj_wetN b m (k + 1) ((x * (((100 : Int32) - (b + ((2 : Int32) * k)))).toInt64) / (100 : Int64)) := by rw [← ex9]; rfl
      rw [e8]
      exact key
    · refine mj_runs.step (S' := (mj_m_180, 36, [(5, .int k), (3, .long x), (0, .ref 234), (1, .int a), (2, .int b)], [.int k], h)) (mj_one_of mj_d_180_34 fun _ _ => rfl) ?_
      refine mj_runs.step (S' := (mj_m_180, 37, [(5, .int k), (3, .long x), (0, .ref 234), (1, .int a), (2, .int b)], [.int a, .int k], h)) (mj_one_of mj_d_180_36 fun _ _ => rfl) ?_
      refine mj_runs.step (S' := (mj_m_180, 40, [(5, .int k), (3, .long x), (0, .ref 234), (1, .int a), (2, .int b)], [], h)) (mj_one_icmpF mj_d_180_37 (t := 83) rfl (mj_cF_ge (rfl : (k).toInt = (k).toInt) (rfl : (a).toInt = (a).toInt) (by omega))) ?_
      refine mj_runs.step (S' := (mj_m_180, 41, [(5, .int k), (3, .long x), (0, .ref 234), (1, .int a), (2, .int b)], [.int b], h)) (mj_one_of mj_d_180_40 fun _ _ => rfl) ?_
      refine mj_runs.step (S' := (mj_m_180, 42, [(5, .int k), (3, .long x), (0, .ref 234), (1, .int a), (2, .int b)], [.int (2 : Int32), .int b], h)) (mj_one_of mj_d_180_41 fun _ _ => rfl) ?_
      refine mj_runs.step (S' := (mj_m_180, 44, [(5, .int k), (3, .long x), (0, .ref 234), (1, .int a), (2, .int b)], [.int k, .int (2 : Int32), .int b], h)) (mj_one_of mj_d_180_42 fun _ _ => rfl) ?_
      refine mj_runs.step (S' := (mj_m_180, 45, [(5, .int k), (3, .long x), (0, .ref 234), (1, .int a), (2, .int b)], [.int ((2 : Int32) * k), .int b], h)) (mj_one_of mj_d_180_44 fun _ _ => rfl) ?_
      refine mj_runs.step (S' := (mj_m_180, 46, [(5, .int k), (3, .long x), (0, .ref 234), (1, .int a), (2, .int b)], [.int (b + ((2 : Int32) * k))], h)) (mj_one_of mj_d_180_45 fun _ _ => rfl) ?_
      refine mj_runs.step (S' := (mj_m_180, 48, [(5, .int k), (3, .long x), (0, .ref 234), (1, .int a), (2, .int b)], [.int (100 : Int32), .int (b + ((2 : Int32) * k))], h)) (mj_one_of mj_d_180_46 fun _ _ => rfl) ?_
      refine mj_runs.step (S' := (mj_m_180, 51, [(5, .int k), (3, .long x), (0, .ref 234), (1, .int a), (2, .int b)], [], h)) (mj_one_icmpF mj_d_180_48 (t := 56) rfl (mj_cF_le (rfl : ((b + ((2 : Int32) * k))).toInt = ((b + ((2 : Int32) * k))).toInt) (show ((100 : Int32)).toInt = 100 by decide) (by omega))) ?_
      refine mj_runs.step (S' := (mj_m_180, 53, [(5, .int k), (3, .long x), (0, .ref 234), (1, .int a), (2, .int b)], [.int (100 : Int32)], h)) (mj_one_of mj_d_180_51 fun _ _ => rfl) ?_
      refine mj_runs.step (S' := (mj_m_180, 62, [(5, .int k), (3, .long x), (0, .ref 234), (1, .int a), (2, .int b)], [.int (100 : Int32)], h)) (mj_one_of mj_d_180_53 fun _ _ => rfl) ?_
      refine mj_runs.step (S' := (mj_m_180, 64, [(6, .int (100 : Int32)), (5, .int k), (3, .long x), (0, .ref 234), (1, .int a), (2, .int b)], [], h)) (mj_one_of mj_d_180_62 fun _ _ => rfl) ?_
      refine mj_runs.step (S' := (mj_m_180, 65, [(6, .int (100 : Int32)), (5, .int k), (3, .long x), (0, .ref 234), (1, .int a), (2, .int b)], [.long x], h)) (mj_one_of mj_d_180_64 fun _ _ => rfl) ?_
      refine mj_runs.step (S' := (mj_m_180, 67, [(6, .int (100 : Int32)), (5, .int k), (3, .long x), (0, .ref 234), (1, .int a), (2, .int b)], [.int (100 : Int32), .long x], h)) (mj_one_of mj_d_180_65 fun _ _ => rfl) ?_
      refine mj_runs.step (S' := (mj_m_180, 69, [(6, .int (100 : Int32)), (5, .int k), (3, .long x), (0, .ref 234), (1, .int a), (2, .int b)], [.int (100 : Int32), .int (100 : Int32), .long x], h)) (mj_one_of mj_d_180_67 fun _ _ => rfl) ?_
      refine mj_runs.step (S' := (mj_m_180, 70, [(6, .int (100 : Int32)), (5, .int k), (3, .long x), (0, .ref 234), (1, .int a), (2, .int b)], [.int (0 : Int32), .long x], h)) (mj_one_of mj_d_180_69 fun _ _ => rfl) ?_
      refine mj_runs.step (S' := (mj_m_180, 71, [(6, .int (100 : Int32)), (5, .int k), (3, .long x), (0, .ref 234), (1, .int a), (2, .int b)], [.long (0 : Int64), .long x], h)) (mj_one_of mj_d_180_70 fun _ _ => rfl) ?_
      refine mj_runs.step (S' := (mj_m_180, 72, [(6, .int (100 : Int32)), (5, .int k), (3, .long x), (0, .ref 234), (1, .int a), (2, .int b)], [.long (x * (0 : Int64))], h)) (mj_one_of mj_d_180_71 fun _ _ => rfl) ?_
      refine mj_runs.step (S' := (mj_m_180, 75, [(6, .int (100 : Int32)), (5, .int k), (3, .long x), (0, .ref 234), (1, .int a), (2, .int b)], [.long (100 : Int64), .long (x * (0 : Int64))], h)) (mj_one_of mj_d_180_72 fun _ _ => rfl) ?_
      refine mj_runs.step (S' := (mj_m_180, 76, [(6, .int (100 : Int32)), (5, .int k), (3, .long x), (0, .ref 234), (1, .int a), (2, .int b)], [.long ((x * (0 : Int64)) / (100 : Int64))], h)) (mj_one_of mj_d_180_75 fun _ _ => rfl) ?_
      refine mj_runs.step (S' := (mj_m_180, 77, [(3, .long ((x * (0 : Int64)) / (100 : Int64))), (6, .int (100 : Int32)), (5, .int k), (0, .ref 234), (1, .int a), (2, .int b)], [], h)) (mj_one_of mj_d_180_76 fun _ _ => rfl) ?_
      refine mj_runs.step (S' := (mj_m_180, 80, [(5, .int (k + (1 : Int32))), (3, .long ((x * (0 : Int64)) / (100 : Int64))), (6, .int (100 : Int32)), (0, .ref 234), (1, .int a), (2, .int b)], [], h)) (mj_one_of mj_d_180_77 fun _ _ => rfl) ?_
      refine mj_runs.step (S' := (mj_m_180, 34, [(5, .int (k + (1 : Int32))), (3, .long ((x * (0 : Int64)) / (100 : Int64))), (6, .int (100 : Int32)), (0, .ref 234), (1, .int a), (2, .int b)], [], h)) (mj_one_of mj_d_180_80 fun _ _ => rfl) ?_
      have key := mj_wetM a b h ha m (k + 1) (mj_wetS b k x) (100 : Int32) (by rw [mj_inc k h0 (by omega)]; omega) (by rw [mj_inc k h0 (by omega)]; omega)
      have ex9 : mj_wetS b k x = ((x * (0 : Int64)) / (100 : Int64)) := by unfold mj_wetS; rw [if_neg (fun q => c5 (by have := Int32.lt_iff_toInt_lt.mp q; rw [show (100 : Int32).toInt = 100 by decide] at this; omega))]; rfl
      rw [ex9] at key
      have e8 : mj_wetN b (m + 1) k x = mj_wetN b m (k + 1) ((x * (0 : Int64)) / (100 : Int64)) := by rw [← ex9]; rfl
      rw [e8]
      exact key
set_option maxRecDepth 1000000 in
set_option maxHeartbeats 4000000 in
theorem mj_op_wet (a b : Int32) : ∃ (r : Int32) (h1 h2 : mj_H), mj_runs (mj_m_104, 0, [(0, .ref 0), (1, .int a), (2, .int b)], [], mj_h0) (some (.int r)) h1 ∧ mj_runs (mj_m_180, 0, [(0, .ref 234), (1, .int a), (2, .int b)], [], h1) (some (.int r)) h2 ∧ mj_sz h2 := by
  by_cases c0 : a.toInt < 0
  · refine ⟨(Int32.ofInt (-1000000002)), mj_h0, mj_h0, ?_, ?_, ?_⟩
    · refine mj_runs.step (S' := (mj_m_104, 1, [(0, .ref 0), (1, .int a), (2, .int b)], [.int a], mj_h0)) (mj_one_of mj_d_104_0 fun _ _ => rfl) ?_
      refine mj_runs.step (S' := (mj_m_104, 20, [(0, .ref 0), (1, .int a), (2, .int b)], [], mj_h0)) (mj_one_ifT mj_d_104_1 rfl (mj_cT_lt (rfl : (a).toInt = (a).toInt) (show ((0 : Int32)).toInt = 0 by decide) (by omega))) ?_
      refine mj_runs.step (S' := (mj_m_104, 22, [(0, .ref 0), (1, .int a), (2, .int b)], [.int (Int32.ofInt (-1000000002))], mj_h0)) (mj_one_of mj_d_104_20 fun _ _ => rfl) ?_
      exact mj_runs.ret (mj_ret_of mj_d_104_22 fun _ _ => rfl)
    · refine mj_runs.step (S' := (mj_m_180, 1, [(0, .ref 234), (1, .int a), (2, .int b)], [.int a], mj_h0)) (mj_one_of mj_d_180_0 fun _ _ => rfl) ?_
      refine mj_runs.step (S' := (mj_m_180, 2, [(0, .ref 234), (1, .int a), (2, .int b)], [.long (a).toInt64], mj_h0)) (mj_one_of mj_d_180_1 fun _ _ => rfl) ?_
      refine mj_runs.step (S' := (mj_m_180, 3, [(0, .ref 234), (1, .int a), (2, .int b)], [.long (0 : Int64), .long (a).toInt64], mj_h0)) (mj_one_of mj_d_180_2 fun _ _ => rfl) ?_
      refine mj_runs.step (S' := (mj_m_180, 6, [(0, .ref 234), (1, .int a), (2, .int b)], [.long (8 : Int64), .long (0 : Int64), .long (a).toInt64], mj_h0)) (mj_one_of mj_d_180_3 fun _ _ => rfl) ?_
      refine mj_runs.call (S1 := (mj_m_125, 0, [(0, .long (a).toInt64), (2, .long (0 : Int64)), (4, .long (8 : Int64))], [], mj_h0)) (r1 := (some (.int (0 : Int32)))) (h1 := mj_h0) (mj_calls_s mj_d_180_6 rfl rfl rfl rfl ⟨Nat.le_of_ble_eq_true rfl, Nat.le_of_ble_eq_true rfl, Nat.le_of_ble_eq_true rfl, Nat.le_of_ble_eq_true rfl, Nat.le_of_ble_eq_true rfl⟩) ?_ ?_
      · refine mj_runs.step (S' := (mj_m_125, 1, [(0, .long (a).toInt64), (2, .long (0 : Int64)), (4, .long (8 : Int64))], [.long (a).toInt64], mj_h0)) (mj_one_of mj_d_125_0 fun _ _ => rfl) ?_
        refine mj_runs.step (S' := (mj_m_125, 2, [(0, .long (a).toInt64), (2, .long (0 : Int64)), (4, .long (8 : Int64))], [.long (0 : Int64), .long (a).toInt64], mj_h0)) (mj_one_of mj_d_125_1 fun _ _ => rfl) ?_
        refine mj_runs.step (S' := (mj_m_125, 3, [(0, .long (a).toInt64), (2, .long (0 : Int64)), (4, .long (8 : Int64))], [.int (lg_cmp (a).toInt64 (0 : Int64))], mj_h0)) (mj_one_of mj_d_125_2 fun _ _ => rfl) ?_
        refine mj_runs.step (S' := (mj_m_125, 17, [(0, .long (a).toInt64), (2, .long (0 : Int64)), (4, .long (8 : Int64))], [], mj_h0)) (mj_one_ifT mj_d_125_3 rfl (mj_lgT_lt (mj_l32 a) (show ((0 : Int64)).toInt = 0 by decide) (by omega))) ?_
        refine mj_runs.step (S' := (mj_m_125, 18, [(0, .long (a).toInt64), (2, .long (0 : Int64)), (4, .long (8 : Int64))], [.int (0 : Int32)], mj_h0)) (mj_one_of mj_d_125_17 fun _ _ => rfl) ?_
        exact mj_runs.ret (mj_ret_of mj_d_125_18 fun _ _ => rfl)
      show mj_runs (mj_m_180, 9, [(0, .ref 234), (1, .int a), (2, .int b)], [.int (0 : Int32)], mj_h0) _ _
      refine mj_runs.step (S' := (mj_m_180, 24, [(0, .ref 234), (1, .int a), (2, .int b)], [], mj_h0)) (mj_one_of mj_d_180_9 fun _ _ => rfl) ?_
      refine mj_runs.step (S' := (mj_m_180, 26, [(0, .ref 234), (1, .int a), (2, .int b)], [.int (Int32.ofInt (-1000000002))], mj_h0)) (mj_one_of mj_d_180_24 fun _ _ => rfl) ?_
      exact mj_runs.ret (mj_ret_of mj_d_180_26 fun _ _ => rfl)
    · exact mj_sz0
  by_cases c1 : 8 < a.toInt
  · refine ⟨(Int32.ofInt (-1000000002)), mj_h0, mj_h0, ?_, ?_, ?_⟩
    · refine mj_runs.step (S' := (mj_m_104, 1, [(0, .ref 0), (1, .int a), (2, .int b)], [.int a], mj_h0)) (mj_one_of mj_d_104_0 fun _ _ => rfl) ?_
      refine mj_runs.step (S' := (mj_m_104, 4, [(0, .ref 0), (1, .int a), (2, .int b)], [], mj_h0)) (mj_one_ifF mj_d_104_1 (t := 20) rfl (mj_cF_lt (rfl : (a).toInt = (a).toInt) (show ((0 : Int32)).toInt = 0 by decide) (by omega))) ?_
      refine mj_runs.step (S' := (mj_m_104, 5, [(0, .ref 0), (1, .int a), (2, .int b)], [.int a], mj_h0)) (mj_one_of mj_d_104_4 fun _ _ => rfl) ?_
      refine mj_runs.step (S' := (mj_m_104, 7, [(0, .ref 0), (1, .int a), (2, .int b)], [.int (8 : Int32), .int a], mj_h0)) (mj_one_of mj_d_104_5 fun _ _ => rfl) ?_
      refine mj_runs.step (S' := (mj_m_104, 20, [(0, .ref 0), (1, .int a), (2, .int b)], [], mj_h0)) (mj_one_icmpT mj_d_104_7 rfl (mj_cT_gt (rfl : (a).toInt = (a).toInt) (show ((8 : Int32)).toInt = 8 by decide) (by omega))) ?_
      refine mj_runs.step (S' := (mj_m_104, 22, [(0, .ref 0), (1, .int a), (2, .int b)], [.int (Int32.ofInt (-1000000002))], mj_h0)) (mj_one_of mj_d_104_20 fun _ _ => rfl) ?_
      exact mj_runs.ret (mj_ret_of mj_d_104_22 fun _ _ => rfl)
    · refine mj_runs.step (S' := (mj_m_180, 1, [(0, .ref 234), (1, .int a), (2, .int b)], [.int a], mj_h0)) (mj_one_of mj_d_180_0 fun _ _ => rfl) ?_
      refine mj_runs.step (S' := (mj_m_180, 2, [(0, .ref 234), (1, .int a), (2, .int b)], [.long (a).toInt64], mj_h0)) (mj_one_of mj_d_180_1 fun _ _ => rfl) ?_
      refine mj_runs.step (S' := (mj_m_180, 3, [(0, .ref 234), (1, .int a), (2, .int b)], [.long (0 : Int64), .long (a).toInt64], mj_h0)) (mj_one_of mj_d_180_2 fun _ _ => rfl) ?_
      refine mj_runs.step (S' := (mj_m_180, 6, [(0, .ref 234), (1, .int a), (2, .int b)], [.long (8 : Int64), .long (0 : Int64), .long (a).toInt64], mj_h0)) (mj_one_of mj_d_180_3 fun _ _ => rfl) ?_
      refine mj_runs.call (S1 := (mj_m_125, 0, [(0, .long (a).toInt64), (2, .long (0 : Int64)), (4, .long (8 : Int64))], [], mj_h0)) (r1 := (some (.int (0 : Int32)))) (h1 := mj_h0) (mj_calls_s mj_d_180_6 rfl rfl rfl rfl ⟨Nat.le_of_ble_eq_true rfl, Nat.le_of_ble_eq_true rfl, Nat.le_of_ble_eq_true rfl, Nat.le_of_ble_eq_true rfl, Nat.le_of_ble_eq_true rfl⟩) ?_ ?_
      · refine mj_runs.step (S' := (mj_m_125, 1, [(0, .long (a).toInt64), (2, .long (0 : Int64)), (4, .long (8 : Int64))], [.long (a).toInt64], mj_h0)) (mj_one_of mj_d_125_0 fun _ _ => rfl) ?_
        refine mj_runs.step (S' := (mj_m_125, 2, [(0, .long (a).toInt64), (2, .long (0 : Int64)), (4, .long (8 : Int64))], [.long (0 : Int64), .long (a).toInt64], mj_h0)) (mj_one_of mj_d_125_1 fun _ _ => rfl) ?_
        refine mj_runs.step (S' := (mj_m_125, 3, [(0, .long (a).toInt64), (2, .long (0 : Int64)), (4, .long (8 : Int64))], [.int (lg_cmp (a).toInt64 (0 : Int64))], mj_h0)) (mj_one_of mj_d_125_2 fun _ _ => rfl) ?_
        refine mj_runs.step (S' := (mj_m_125, 6, [(0, .long (a).toInt64), (2, .long (0 : Int64)), (4, .long (8 : Int64))], [], mj_h0)) (mj_one_ifF mj_d_125_3 (t := 17) rfl (mj_lgF_lt (mj_l32 a) (show ((0 : Int64)).toInt = 0 by decide) (by omega))) ?_
        refine mj_runs.step (S' := (mj_m_125, 7, [(0, .long (a).toInt64), (2, .long (0 : Int64)), (4, .long (8 : Int64))], [.long (a).toInt64], mj_h0)) (mj_one_of mj_d_125_6 fun _ _ => rfl) ?_
        refine mj_runs.step (S' := (mj_m_125, 9, [(0, .long (a).toInt64), (2, .long (0 : Int64)), (4, .long (8 : Int64))], [.long (8 : Int64), .long (a).toInt64], mj_h0)) (mj_one_of mj_d_125_7 fun _ _ => rfl) ?_
        refine mj_runs.step (S' := (mj_m_125, 10, [(0, .long (a).toInt64), (2, .long (0 : Int64)), (4, .long (8 : Int64))], [.int (lg_cmp (a).toInt64 (8 : Int64))], mj_h0)) (mj_one_of mj_d_125_9 fun _ _ => rfl) ?_
        refine mj_runs.step (S' := (mj_m_125, 17, [(0, .long (a).toInt64), (2, .long (0 : Int64)), (4, .long (8 : Int64))], [], mj_h0)) (mj_one_ifT mj_d_125_10 rfl (mj_lgT_gt (mj_l32 a) (show ((8 : Int64)).toInt = 8 by decide) (by omega))) ?_
        refine mj_runs.step (S' := (mj_m_125, 18, [(0, .long (a).toInt64), (2, .long (0 : Int64)), (4, .long (8 : Int64))], [.int (0 : Int32)], mj_h0)) (mj_one_of mj_d_125_17 fun _ _ => rfl) ?_
        exact mj_runs.ret (mj_ret_of mj_d_125_18 fun _ _ => rfl)
      show mj_runs (mj_m_180, 9, [(0, .ref 234), (1, .int a), (2, .int b)], [.int (0 : Int32)], mj_h0) _ _
      refine mj_runs.step (S' := (mj_m_180, 24, [(0, .ref 234), (1, .int a), (2, .int b)], [], mj_h0)) (mj_one_of mj_d_180_9 fun _ _ => rfl) ?_
      refine mj_runs.step (S' := (mj_m_180, 26, [(0, .ref 234), (1, .int a), (2, .int b)], [.int (Int32.ofInt (-1000000002))], mj_h0)) (mj_one_of mj_d_180_24 fun _ _ => rfl) ?_
      exact mj_runs.ret (mj_ret_of mj_d_180_26 fun _ _ => rfl)
    · exact mj_sz0
  by_cases c2 : b.toInt < 0
  · refine ⟨(Int32.ofInt (-1000000002)), mj_h0, mj_h0, ?_, ?_, ?_⟩
    · refine mj_runs.step (S' := (mj_m_104, 1, [(0, .ref 0), (1, .int a), (2, .int b)], [.int a], mj_h0)) (mj_one_of mj_d_104_0 fun _ _ => rfl) ?_
      refine mj_runs.step (S' := (mj_m_104, 4, [(0, .ref 0), (1, .int a), (2, .int b)], [], mj_h0)) (mj_one_ifF mj_d_104_1 (t := 20) rfl (mj_cF_lt (rfl : (a).toInt = (a).toInt) (show ((0 : Int32)).toInt = 0 by decide) (by omega))) ?_
      refine mj_runs.step (S' := (mj_m_104, 5, [(0, .ref 0), (1, .int a), (2, .int b)], [.int a], mj_h0)) (mj_one_of mj_d_104_4 fun _ _ => rfl) ?_
      refine mj_runs.step (S' := (mj_m_104, 7, [(0, .ref 0), (1, .int a), (2, .int b)], [.int (8 : Int32), .int a], mj_h0)) (mj_one_of mj_d_104_5 fun _ _ => rfl) ?_
      refine mj_runs.step (S' := (mj_m_104, 10, [(0, .ref 0), (1, .int a), (2, .int b)], [], mj_h0)) (mj_one_icmpF mj_d_104_7 (t := 20) rfl (mj_cF_gt (rfl : (a).toInt = (a).toInt) (show ((8 : Int32)).toInt = 8 by decide) (by omega))) ?_
      refine mj_runs.step (S' := (mj_m_104, 11, [(0, .ref 0), (1, .int a), (2, .int b)], [.int b], mj_h0)) (mj_one_of mj_d_104_10 fun _ _ => rfl) ?_
      refine mj_runs.step (S' := (mj_m_104, 20, [(0, .ref 0), (1, .int a), (2, .int b)], [], mj_h0)) (mj_one_ifT mj_d_104_11 rfl (mj_cT_lt (rfl : (b).toInt = (b).toInt) (show ((0 : Int32)).toInt = 0 by decide) (by omega))) ?_
      refine mj_runs.step (S' := (mj_m_104, 22, [(0, .ref 0), (1, .int a), (2, .int b)], [.int (Int32.ofInt (-1000000002))], mj_h0)) (mj_one_of mj_d_104_20 fun _ _ => rfl) ?_
      exact mj_runs.ret (mj_ret_of mj_d_104_22 fun _ _ => rfl)
    · refine mj_runs.step (S' := (mj_m_180, 1, [(0, .ref 234), (1, .int a), (2, .int b)], [.int a], mj_h0)) (mj_one_of mj_d_180_0 fun _ _ => rfl) ?_
      refine mj_runs.step (S' := (mj_m_180, 2, [(0, .ref 234), (1, .int a), (2, .int b)], [.long (a).toInt64], mj_h0)) (mj_one_of mj_d_180_1 fun _ _ => rfl) ?_
      refine mj_runs.step (S' := (mj_m_180, 3, [(0, .ref 234), (1, .int a), (2, .int b)], [.long (0 : Int64), .long (a).toInt64], mj_h0)) (mj_one_of mj_d_180_2 fun _ _ => rfl) ?_
      refine mj_runs.step (S' := (mj_m_180, 6, [(0, .ref 234), (1, .int a), (2, .int b)], [.long (8 : Int64), .long (0 : Int64), .long (a).toInt64], mj_h0)) (mj_one_of mj_d_180_3 fun _ _ => rfl) ?_
      refine mj_runs.call (S1 := (mj_m_125, 0, [(0, .long (a).toInt64), (2, .long (0 : Int64)), (4, .long (8 : Int64))], [], mj_h0)) (r1 := (some (.int (1 : Int32)))) (h1 := mj_h0) (mj_calls_s mj_d_180_6 rfl rfl rfl rfl ⟨Nat.le_of_ble_eq_true rfl, Nat.le_of_ble_eq_true rfl, Nat.le_of_ble_eq_true rfl, Nat.le_of_ble_eq_true rfl, Nat.le_of_ble_eq_true rfl⟩) ?_ ?_
      · refine mj_runs.step (S' := (mj_m_125, 1, [(0, .long (a).toInt64), (2, .long (0 : Int64)), (4, .long (8 : Int64))], [.long (a).toInt64], mj_h0)) (mj_one_of mj_d_125_0 fun _ _ => rfl) ?_
        refine mj_runs.step (S' := (mj_m_125, 2, [(0, .long (a).toInt64), (2, .long (0 : Int64)), (4, .long (8 : Int64))], [.long (0 : Int64), .long (a).toInt64], mj_h0)) (mj_one_of mj_d_125_1 fun _ _ => rfl) ?_
        refine mj_runs.step (S' := (mj_m_125, 3, [(0, .long (a).toInt64), (2, .long (0 : Int64)), (4, .long (8 : Int64))], [.int (lg_cmp (a).toInt64 (0 : Int64))], mj_h0)) (mj_one_of mj_d_125_2 fun _ _ => rfl) ?_
        refine mj_runs.step (S' := (mj_m_125, 6, [(0, .long (a).toInt64), (2, .long (0 : Int64)), (4, .long (8 : Int64))], [], mj_h0)) (mj_one_ifF mj_d_125_3 (t := 17) rfl (mj_lgF_lt (mj_l32 a) (show ((0 : Int64)).toInt = 0 by decide) (by omega))) ?_
        refine mj_runs.step (S' := (mj_m_125, 7, [(0, .long (a).toInt64), (2, .long (0 : Int64)), (4, .long (8 : Int64))], [.long (a).toInt64], mj_h0)) (mj_one_of mj_d_125_6 fun _ _ => rfl) ?_
        refine mj_runs.step (S' := (mj_m_125, 9, [(0, .long (a).toInt64), (2, .long (0 : Int64)), (4, .long (8 : Int64))], [.long (8 : Int64), .long (a).toInt64], mj_h0)) (mj_one_of mj_d_125_7 fun _ _ => rfl) ?_
        refine mj_runs.step (S' := (mj_m_125, 10, [(0, .long (a).toInt64), (2, .long (0 : Int64)), (4, .long (8 : Int64))], [.int (lg_cmp (a).toInt64 (8 : Int64))], mj_h0)) (mj_one_of mj_d_125_9 fun _ _ => rfl) ?_
        refine mj_runs.step (S' := (mj_m_125, 13, [(0, .long (a).toInt64), (2, .long (0 : Int64)), (4, .long (8 : Int64))], [], mj_h0)) (mj_one_ifF mj_d_125_10 (t := 17) rfl (mj_lgF_gt (mj_l32 a) (show ((8 : Int64)).toInt = 8 by decide) (by omega))) ?_
        refine mj_runs.step (S' := (mj_m_125, 14, [(0, .long (a).toInt64), (2, .long (0 : Int64)), (4, .long (8 : Int64))], [.int (1 : Int32)], mj_h0)) (mj_one_of mj_d_125_13 fun _ _ => rfl) ?_
        refine mj_runs.step (S' := (mj_m_125, 18, [(0, .long (a).toInt64), (2, .long (0 : Int64)), (4, .long (8 : Int64))], [.int (1 : Int32)], mj_h0)) (mj_one_of mj_d_125_14 fun _ _ => rfl) ?_
        exact mj_runs.ret (mj_ret_of mj_d_125_18 fun _ _ => rfl)
      show mj_runs (mj_m_180, 9, [(0, .ref 234), (1, .int a), (2, .int b)], [.int (1 : Int32)], mj_h0) _ _
      refine mj_runs.step (S' := (mj_m_180, 12, [(0, .ref 234), (1, .int a), (2, .int b)], [], mj_h0)) (mj_one_of mj_d_180_9 fun _ _ => rfl) ?_
      refine mj_runs.step (S' := (mj_m_180, 13, [(0, .ref 234), (1, .int a), (2, .int b)], [.int b], mj_h0)) (mj_one_of mj_d_180_12 fun _ _ => rfl) ?_
      refine mj_runs.step (S' := (mj_m_180, 14, [(0, .ref 234), (1, .int a), (2, .int b)], [.long (b).toInt64], mj_h0)) (mj_one_of mj_d_180_13 fun _ _ => rfl) ?_
      refine mj_runs.step (S' := (mj_m_180, 15, [(0, .ref 234), (1, .int a), (2, .int b)], [.long (0 : Int64), .long (b).toInt64], mj_h0)) (mj_one_of mj_d_180_14 fun _ _ => rfl) ?_
      refine mj_runs.step (S' := (mj_m_180, 18, [(0, .ref 234), (1, .int a), (2, .int b)], [.long (100 : Int64), .long (0 : Int64), .long (b).toInt64], mj_h0)) (mj_one_of mj_d_180_15 fun _ _ => rfl) ?_
      refine mj_runs.call (S1 := (mj_m_125, 0, [(0, .long (b).toInt64), (2, .long (0 : Int64)), (4, .long (100 : Int64))], [], mj_h0)) (r1 := (some (.int (0 : Int32)))) (h1 := mj_h0) (mj_calls_s mj_d_180_18 rfl rfl rfl rfl ⟨Nat.le_of_ble_eq_true rfl, Nat.le_of_ble_eq_true rfl, Nat.le_of_ble_eq_true rfl, Nat.le_of_ble_eq_true rfl, Nat.le_of_ble_eq_true rfl⟩) ?_ ?_
      · refine mj_runs.step (S' := (mj_m_125, 1, [(0, .long (b).toInt64), (2, .long (0 : Int64)), (4, .long (100 : Int64))], [.long (b).toInt64], mj_h0)) (mj_one_of mj_d_125_0 fun _ _ => rfl) ?_
        refine mj_runs.step (S' := (mj_m_125, 2, [(0, .long (b).toInt64), (2, .long (0 : Int64)), (4, .long (100 : Int64))], [.long (0 : Int64), .long (b).toInt64], mj_h0)) (mj_one_of mj_d_125_1 fun _ _ => rfl) ?_
        refine mj_runs.step (S' := (mj_m_125, 3, [(0, .long (b).toInt64), (2, .long (0 : Int64)), (4, .long (100 : Int64))], [.int (lg_cmp (b).toInt64 (0 : Int64))], mj_h0)) (mj_one_of mj_d_125_2 fun _ _ => rfl) ?_
        refine mj_runs.step (S' := (mj_m_125, 17, [(0, .long (b).toInt64), (2, .long (0 : Int64)), (4, .long (100 : Int64))], [], mj_h0)) (mj_one_ifT mj_d_125_3 rfl (mj_lgT_lt (mj_l32 b) (show ((0 : Int64)).toInt = 0 by decide) (by omega))) ?_
        refine mj_runs.step (S' := (mj_m_125, 18, [(0, .long (b).toInt64), (2, .long (0 : Int64)), (4, .long (100 : Int64))], [.int (0 : Int32)], mj_h0)) (mj_one_of mj_d_125_17 fun _ _ => rfl) ?_
        exact mj_runs.ret (mj_ret_of mj_d_125_18 fun _ _ => rfl)
      show mj_runs (mj_m_180, 21, [(0, .ref 234), (1, .int a), (2, .int b)], [.int (0 : Int32)], mj_h0) _ _
      refine mj_runs.step (S' := (mj_m_180, 24, [(0, .ref 234), (1, .int a), (2, .int b)], [], mj_h0)) (mj_one_of mj_d_180_21 fun _ _ => rfl) ?_
      refine mj_runs.step (S' := (mj_m_180, 26, [(0, .ref 234), (1, .int a), (2, .int b)], [.int (Int32.ofInt (-1000000002))], mj_h0)) (mj_one_of mj_d_180_24 fun _ _ => rfl) ?_
      exact mj_runs.ret (mj_ret_of mj_d_180_26 fun _ _ => rfl)
    · exact mj_sz0
  by_cases c3 : 100 < b.toInt
  · refine ⟨(Int32.ofInt (-1000000002)), mj_h0, mj_h0, ?_, ?_, ?_⟩
    · refine mj_runs.step (S' := (mj_m_104, 1, [(0, .ref 0), (1, .int a), (2, .int b)], [.int a], mj_h0)) (mj_one_of mj_d_104_0 fun _ _ => rfl) ?_
      refine mj_runs.step (S' := (mj_m_104, 4, [(0, .ref 0), (1, .int a), (2, .int b)], [], mj_h0)) (mj_one_ifF mj_d_104_1 (t := 20) rfl (mj_cF_lt (rfl : (a).toInt = (a).toInt) (show ((0 : Int32)).toInt = 0 by decide) (by omega))) ?_
      refine mj_runs.step (S' := (mj_m_104, 5, [(0, .ref 0), (1, .int a), (2, .int b)], [.int a], mj_h0)) (mj_one_of mj_d_104_4 fun _ _ => rfl) ?_
      refine mj_runs.step (S' := (mj_m_104, 7, [(0, .ref 0), (1, .int a), (2, .int b)], [.int (8 : Int32), .int a], mj_h0)) (mj_one_of mj_d_104_5 fun _ _ => rfl) ?_
      refine mj_runs.step (S' := (mj_m_104, 10, [(0, .ref 0), (1, .int a), (2, .int b)], [], mj_h0)) (mj_one_icmpF mj_d_104_7 (t := 20) rfl (mj_cF_gt (rfl : (a).toInt = (a).toInt) (show ((8 : Int32)).toInt = 8 by decide) (by omega))) ?_
      refine mj_runs.step (S' := (mj_m_104, 11, [(0, .ref 0), (1, .int a), (2, .int b)], [.int b], mj_h0)) (mj_one_of mj_d_104_10 fun _ _ => rfl) ?_
      refine mj_runs.step (S' := (mj_m_104, 14, [(0, .ref 0), (1, .int a), (2, .int b)], [], mj_h0)) (mj_one_ifF mj_d_104_11 (t := 20) rfl (mj_cF_lt (rfl : (b).toInt = (b).toInt) (show ((0 : Int32)).toInt = 0 by decide) (by omega))) ?_
      refine mj_runs.step (S' := (mj_m_104, 15, [(0, .ref 0), (1, .int a), (2, .int b)], [.int b], mj_h0)) (mj_one_of mj_d_104_14 fun _ _ => rfl) ?_
      refine mj_runs.step (S' := (mj_m_104, 17, [(0, .ref 0), (1, .int a), (2, .int b)], [.int (100 : Int32), .int b], mj_h0)) (mj_one_of mj_d_104_15 fun _ _ => rfl) ?_
      refine mj_runs.step (S' := (mj_m_104, 20, [(0, .ref 0), (1, .int a), (2, .int b)], [], mj_h0)) (mj_one_icmpF mj_d_104_17 (t := 23) rfl (mj_cF_le (rfl : (b).toInt = (b).toInt) (show ((100 : Int32)).toInt = 100 by decide) (by omega))) ?_
      refine mj_runs.step (S' := (mj_m_104, 22, [(0, .ref 0), (1, .int a), (2, .int b)], [.int (Int32.ofInt (-1000000002))], mj_h0)) (mj_one_of mj_d_104_20 fun _ _ => rfl) ?_
      exact mj_runs.ret (mj_ret_of mj_d_104_22 fun _ _ => rfl)
    · refine mj_runs.step (S' := (mj_m_180, 1, [(0, .ref 234), (1, .int a), (2, .int b)], [.int a], mj_h0)) (mj_one_of mj_d_180_0 fun _ _ => rfl) ?_
      refine mj_runs.step (S' := (mj_m_180, 2, [(0, .ref 234), (1, .int a), (2, .int b)], [.long (a).toInt64], mj_h0)) (mj_one_of mj_d_180_1 fun _ _ => rfl) ?_
      refine mj_runs.step (S' := (mj_m_180, 3, [(0, .ref 234), (1, .int a), (2, .int b)], [.long (0 : Int64), .long (a).toInt64], mj_h0)) (mj_one_of mj_d_180_2 fun _ _ => rfl) ?_
      refine mj_runs.step (S' := (mj_m_180, 6, [(0, .ref 234), (1, .int a), (2, .int b)], [.long (8 : Int64), .long (0 : Int64), .long (a).toInt64], mj_h0)) (mj_one_of mj_d_180_3 fun _ _ => rfl) ?_
      refine mj_runs.call (S1 := (mj_m_125, 0, [(0, .long (a).toInt64), (2, .long (0 : Int64)), (4, .long (8 : Int64))], [], mj_h0)) (r1 := (some (.int (1 : Int32)))) (h1 := mj_h0) (mj_calls_s mj_d_180_6 rfl rfl rfl rfl ⟨Nat.le_of_ble_eq_true rfl, Nat.le_of_ble_eq_true rfl, Nat.le_of_ble_eq_true rfl, Nat.le_of_ble_eq_true rfl, Nat.le_of_ble_eq_true rfl⟩) ?_ ?_
      · refine mj_runs.step (S' := (mj_m_125, 1, [(0, .long (a).toInt64), (2, .long (0 : Int64)), (4, .long (8 : Int64))], [.long (a).toInt64], mj_h0)) (mj_one_of mj_d_125_0 fun _ _ => rfl) ?_
        refine mj_runs.step (S' := (mj_m_125, 2, [(0, .long (a).toInt64), (2, .long (0 : Int64)), (4, .long (8 : Int64))], [.long (0 : Int64), .long (a).toInt64], mj_h0)) (mj_one_of mj_d_125_1 fun _ _ => rfl) ?_
        refine mj_runs.step (S' := (mj_m_125, 3, [(0, .long (a).toInt64), (2, .long (0 : Int64)), (4, .long (8 : Int64))], [.int (lg_cmp (a).toInt64 (0 : Int64))], mj_h0)) (mj_one_of mj_d_125_2 fun _ _ => rfl) ?_
        refine mj_runs.step (S' := (mj_m_125, 6, [(0, .long (a).toInt64), (2, .long (0 : Int64)), (4, .long (8 : Int64))], [], mj_h0)) (mj_one_ifF mj_d_125_3 (t := 17) rfl (mj_lgF_lt (mj_l32 a) (show ((0 : Int64)).toInt = 0 by decide) (by omega))) ?_
        refine mj_runs.step (S' := (mj_m_125, 7, [(0, .long (a).toInt64), (2, .long (0 : Int64)), (4, .long (8 : Int64))], [.long (a).toInt64], mj_h0)) (mj_one_of mj_d_125_6 fun _ _ => rfl) ?_
        refine mj_runs.step (S' := (mj_m_125, 9, [(0, .long (a).toInt64), (2, .long (0 : Int64)), (4, .long (8 : Int64))], [.long (8 : Int64), .long (a).toInt64], mj_h0)) (mj_one_of mj_d_125_7 fun _ _ => rfl) ?_
        refine mj_runs.step (S' := (mj_m_125, 10, [(0, .long (a).toInt64), (2, .long (0 : Int64)), (4, .long (8 : Int64))], [.int (lg_cmp (a).toInt64 (8 : Int64))], mj_h0)) (mj_one_of mj_d_125_9 fun _ _ => rfl) ?_
        refine mj_runs.step (S' := (mj_m_125, 13, [(0, .long (a).toInt64), (2, .long (0 : Int64)), (4, .long (8 : Int64))], [], mj_h0)) (mj_one_ifF mj_d_125_10 (t := 17) rfl (mj_lgF_gt (mj_l32 a) (show ((8 : Int64)).toInt = 8 by decide) (by omega))) ?_
        refine mj_runs.step (S' := (mj_m_125, 14, [(0, .long (a).toInt64), (2, .long (0 : Int64)), (4, .long (8 : Int64))], [.int (1 : Int32)], mj_h0)) (mj_one_of mj_d_125_13 fun _ _ => rfl) ?_
        refine mj_runs.step (S' := (mj_m_125, 18, [(0, .long (a).toInt64), (2, .long (0 : Int64)), (4, .long (8 : Int64))], [.int (1 : Int32)], mj_h0)) (mj_one_of mj_d_125_14 fun _ _ => rfl) ?_
        exact mj_runs.ret (mj_ret_of mj_d_125_18 fun _ _ => rfl)
      show mj_runs (mj_m_180, 9, [(0, .ref 234), (1, .int a), (2, .int b)], [.int (1 : Int32)], mj_h0) _ _
      refine mj_runs.step (S' := (mj_m_180, 12, [(0, .ref 234), (1, .int a), (2, .int b)], [], mj_h0)) (mj_one_of mj_d_180_9 fun _ _ => rfl) ?_
      refine mj_runs.step (S' := (mj_m_180, 13, [(0, .ref 234), (1, .int a), (2, .int b)], [.int b], mj_h0)) (mj_one_of mj_d_180_12 fun _ _ => rfl) ?_
      refine mj_runs.step (S' := (mj_m_180, 14, [(0, .ref 234), (1, .int a), (2, .int b)], [.long (b).toInt64], mj_h0)) (mj_one_of mj_d_180_13 fun _ _ => rfl) ?_
      refine mj_runs.step (S' := (mj_m_180, 15, [(0, .ref 234), (1, .int a), (2, .int b)], [.long (0 : Int64), .long (b).toInt64], mj_h0)) (mj_one_of mj_d_180_14 fun _ _ => rfl) ?_
      refine mj_runs.step (S' := (mj_m_180, 18, [(0, .ref 234), (1, .int a), (2, .int b)], [.long (100 : Int64), .long (0 : Int64), .long (b).toInt64], mj_h0)) (mj_one_of mj_d_180_15 fun _ _ => rfl) ?_
      refine mj_runs.call (S1 := (mj_m_125, 0, [(0, .long (b).toInt64), (2, .long (0 : Int64)), (4, .long (100 : Int64))], [], mj_h0)) (r1 := (some (.int (0 : Int32)))) (h1 := mj_h0) (mj_calls_s mj_d_180_18 rfl rfl rfl rfl ⟨Nat.le_of_ble_eq_true rfl, Nat.le_of_ble_eq_true rfl, Nat.le_of_ble_eq_true rfl, Nat.le_of_ble_eq_true rfl, Nat.le_of_ble_eq_true rfl⟩) ?_ ?_
      · refine mj_runs.step (S' := (mj_m_125, 1, [(0, .long (b).toInt64), (2, .long (0 : Int64)), (4, .long (100 : Int64))], [.long (b).toInt64], mj_h0)) (mj_one_of mj_d_125_0 fun _ _ => rfl) ?_
        refine mj_runs.step (S' := (mj_m_125, 2, [(0, .long (b).toInt64), (2, .long (0 : Int64)), (4, .long (100 : Int64))], [.long (0 : Int64), .long (b).toInt64], mj_h0)) (mj_one_of mj_d_125_1 fun _ _ => rfl) ?_
        refine mj_runs.step (S' := (mj_m_125, 3, [(0, .long (b).toInt64), (2, .long (0 : Int64)), (4, .long (100 : Int64))], [.int (lg_cmp (b).toInt64 (0 : Int64))], mj_h0)) (mj_one_of mj_d_125_2 fun _ _ => rfl) ?_
        refine mj_runs.step (S' := (mj_m_125, 6, [(0, .long (b).toInt64), (2, .long (0 : Int64)), (4, .long (100 : Int64))], [], mj_h0)) (mj_one_ifF mj_d_125_3 (t := 17) rfl (mj_lgF_lt (mj_l32 b) (show ((0 : Int64)).toInt = 0 by decide) (by omega))) ?_
        refine mj_runs.step (S' := (mj_m_125, 7, [(0, .long (b).toInt64), (2, .long (0 : Int64)), (4, .long (100 : Int64))], [.long (b).toInt64], mj_h0)) (mj_one_of mj_d_125_6 fun _ _ => rfl) ?_
        refine mj_runs.step (S' := (mj_m_125, 9, [(0, .long (b).toInt64), (2, .long (0 : Int64)), (4, .long (100 : Int64))], [.long (100 : Int64), .long (b).toInt64], mj_h0)) (mj_one_of mj_d_125_7 fun _ _ => rfl) ?_
        refine mj_runs.step (S' := (mj_m_125, 10, [(0, .long (b).toInt64), (2, .long (0 : Int64)), (4, .long (100 : Int64))], [.int (lg_cmp (b).toInt64 (100 : Int64))], mj_h0)) (mj_one_of mj_d_125_9 fun _ _ => rfl) ?_
        refine mj_runs.step (S' := (mj_m_125, 17, [(0, .long (b).toInt64), (2, .long (0 : Int64)), (4, .long (100 : Int64))], [], mj_h0)) (mj_one_ifT mj_d_125_10 rfl (mj_lgT_gt (mj_l32 b) (show ((100 : Int64)).toInt = 100 by decide) (by omega))) ?_
        refine mj_runs.step (S' := (mj_m_125, 18, [(0, .long (b).toInt64), (2, .long (0 : Int64)), (4, .long (100 : Int64))], [.int (0 : Int32)], mj_h0)) (mj_one_of mj_d_125_17 fun _ _ => rfl) ?_
        exact mj_runs.ret (mj_ret_of mj_d_125_18 fun _ _ => rfl)
      show mj_runs (mj_m_180, 21, [(0, .ref 234), (1, .int a), (2, .int b)], [.int (0 : Int32)], mj_h0) _ _
      refine mj_runs.step (S' := (mj_m_180, 24, [(0, .ref 234), (1, .int a), (2, .int b)], [], mj_h0)) (mj_one_of mj_d_180_21 fun _ _ => rfl) ?_
      refine mj_runs.step (S' := (mj_m_180, 26, [(0, .ref 234), (1, .int a), (2, .int b)], [.int (Int32.ofInt (-1000000002))], mj_h0)) (mj_one_of mj_d_180_24 fun _ _ => rfl) ?_
      exact mj_runs.ret (mj_ret_of mj_d_180_26 fun _ _ => rfl)
    · exact mj_sz0
  refine ⟨(mj_wetN b a.toInt.toNat 0 1000000000).toInt32, mj_h0, mj_h0, ?_, ?_, mj_sz0⟩
  · refine mj_runs.step (S' := (mj_m_104, 1, [(0, .ref 0), (1, .int a), (2, .int b)], [.int a], mj_h0)) (mj_one_of mj_d_104_0 fun _ _ => rfl) ?_
    refine mj_runs.step (S' := (mj_m_104, 4, [(0, .ref 0), (1, .int a), (2, .int b)], [], mj_h0)) (mj_one_ifF mj_d_104_1 (t := 20) rfl (mj_cF_lt (rfl : (a).toInt = (a).toInt) (show ((0 : Int32)).toInt = 0 by decide) (by omega))) ?_
    refine mj_runs.step (S' := (mj_m_104, 5, [(0, .ref 0), (1, .int a), (2, .int b)], [.int a], mj_h0)) (mj_one_of mj_d_104_4 fun _ _ => rfl) ?_
    refine mj_runs.step (S' := (mj_m_104, 7, [(0, .ref 0), (1, .int a), (2, .int b)], [.int (8 : Int32), .int a], mj_h0)) (mj_one_of mj_d_104_5 fun _ _ => rfl) ?_
    refine mj_runs.step (S' := (mj_m_104, 10, [(0, .ref 0), (1, .int a), (2, .int b)], [], mj_h0)) (mj_one_icmpF mj_d_104_7 (t := 20) rfl (mj_cF_gt (rfl : (a).toInt = (a).toInt) (show ((8 : Int32)).toInt = 8 by decide) (by omega))) ?_
    refine mj_runs.step (S' := (mj_m_104, 11, [(0, .ref 0), (1, .int a), (2, .int b)], [.int b], mj_h0)) (mj_one_of mj_d_104_10 fun _ _ => rfl) ?_
    refine mj_runs.step (S' := (mj_m_104, 14, [(0, .ref 0), (1, .int a), (2, .int b)], [], mj_h0)) (mj_one_ifF mj_d_104_11 (t := 20) rfl (mj_cF_lt (rfl : (b).toInt = (b).toInt) (show ((0 : Int32)).toInt = 0 by decide) (by omega))) ?_
    refine mj_runs.step (S' := (mj_m_104, 15, [(0, .ref 0), (1, .int a), (2, .int b)], [.int b], mj_h0)) (mj_one_of mj_d_104_14 fun _ _ => rfl) ?_
    refine mj_runs.step (S' := (mj_m_104, 17, [(0, .ref 0), (1, .int a), (2, .int b)], [.int (100 : Int32), .int b], mj_h0)) (mj_one_of mj_d_104_15 fun _ _ => rfl) ?_
    refine mj_runs.step (S' := (mj_m_104, 23, [(0, .ref 0), (1, .int a), (2, .int b)], [], mj_h0)) (mj_one_icmpT mj_d_104_17 rfl (mj_cT_le (rfl : (b).toInt = (b).toInt) (show ((100 : Int32)).toInt = 100 by decide) (by omega))) ?_
    refine mj_runs.step (S' := (mj_m_104, 26, [(0, .ref 0), (1, .int a), (2, .int b)], [.long (1000000000 : Int64)], mj_h0)) (mj_one_of mj_d_104_23 fun _ _ => rfl) ?_
    refine mj_runs.step (S' := (mj_m_104, 27, [(3, .long (1000000000 : Int64)), (0, .ref 0), (1, .int a), (2, .int b)], [], mj_h0)) (mj_one_of mj_d_104_26 fun _ _ => rfl) ?_
    refine mj_runs.step (S' := (mj_m_104, 28, [(3, .long (1000000000 : Int64)), (0, .ref 0), (1, .int a), (2, .int b)], [.int (0 : Int32)], mj_h0)) (mj_one_of mj_d_104_27 fun _ _ => rfl) ?_
    refine mj_runs.step (S' := (mj_m_104, 30, [(5, .int (0 : Int32)), (3, .long (1000000000 : Int64)), (0, .ref 0), (1, .int a), (2, .int b)], [], mj_h0)) (mj_one_of mj_d_104_28 fun _ _ => rfl) ?_
    exact mj_wetC0 a b mj_h0 (by omega) a.toInt.toNat 0 1000000000 (by decide) (by rw [show (0 : Int32).toInt = 0 by decide]; omega)
  · refine mj_runs.step (S' := (mj_m_180, 1, [(0, .ref 234), (1, .int a), (2, .int b)], [.int a], mj_h0)) (mj_one_of mj_d_180_0 fun _ _ => rfl) ?_
    refine mj_runs.step (S' := (mj_m_180, 2, [(0, .ref 234), (1, .int a), (2, .int b)], [.long (a).toInt64], mj_h0)) (mj_one_of mj_d_180_1 fun _ _ => rfl) ?_
    refine mj_runs.step (S' := (mj_m_180, 3, [(0, .ref 234), (1, .int a), (2, .int b)], [.long (0 : Int64), .long (a).toInt64], mj_h0)) (mj_one_of mj_d_180_2 fun _ _ => rfl) ?_
    refine mj_runs.step (S' := (mj_m_180, 6, [(0, .ref 234), (1, .int a), (2, .int b)], [.long (8 : Int64), .long (0 : Int64), .long (a).toInt64], mj_h0)) (mj_one_of mj_d_180_3 fun _ _ => rfl) ?_
    refine mj_runs.call (S1 := (mj_m_125, 0, [(0, .long (a).toInt64), (2, .long (0 : Int64)), (4, .long (8 : Int64))], [], mj_h0)) (r1 := (some (.int (1 : Int32)))) (h1 := mj_h0) (mj_calls_s mj_d_180_6 rfl rfl rfl rfl ⟨Nat.le_of_ble_eq_true rfl, Nat.le_of_ble_eq_true rfl, Nat.le_of_ble_eq_true rfl, Nat.le_of_ble_eq_true rfl, Nat.le_of_ble_eq_true rfl⟩) ?_ ?_
    · refine mj_runs.step (S' := (mj_m_125, 1, [(0, .long (a).toInt64), (2, .long (0 : Int64)), (4, .long (8 : Int64))], [.long (a).toInt64], mj_h0)) (mj_one_of mj_d_125_0 fun _ _ => rfl) ?_
      refine mj_runs.step (S' := (mj_m_125, 2, [(0, .long (a).toInt64), (2, .long (0 : Int64)), (4, .long (8 : Int64))], [.long (0 : Int64), .long (a).toInt64], mj_h0)) (mj_one_of mj_d_125_1 fun _ _ => rfl) ?_
      refine mj_runs.step (S' := (mj_m_125, 3, [(0, .long (a).toInt64), (2, .long (0 : Int64)), (4, .long (8 : Int64))], [.int (lg_cmp (a).toInt64 (0 : Int64))], mj_h0)) (mj_one_of mj_d_125_2 fun _ _ => rfl) ?_
      refine mj_runs.step (S' := (mj_m_125, 6, [(0, .long (a).toInt64), (2, .long (0 : Int64)), (4, .long (8 : Int64))], [], mj_h0)) (mj_one_ifF mj_d_125_3 (t := 17) rfl (mj_lgF_lt (mj_l32 a) (show ((0 : Int64)).toInt = 0 by decide) (by omega))) ?_
      refine mj_runs.step (S' := (mj_m_125, 7, [(0, .long (a).toInt64), (2, .long (0 : Int64)), (4, .long (8 : Int64))], [.long (a).toInt64], mj_h0)) (mj_one_of mj_d_125_6 fun _ _ => rfl) ?_
      refine mj_runs.step (S' := (mj_m_125, 9, [(0, .long (a).toInt64), (2, .long (0 : Int64)), (4, .long (8 : Int64))], [.long (8 : Int64), .long (a).toInt64], mj_h0)) (mj_one_of mj_d_125_7 fun _ _ => rfl) ?_
      refine mj_runs.step (S' := (mj_m_125, 10, [(0, .long (a).toInt64), (2, .long (0 : Int64)), (4, .long (8 : Int64))], [.int (lg_cmp (a).toInt64 (8 : Int64))], mj_h0)) (mj_one_of mj_d_125_9 fun _ _ => rfl) ?_
      refine mj_runs.step (S' := (mj_m_125, 13, [(0, .long (a).toInt64), (2, .long (0 : Int64)), (4, .long (8 : Int64))], [], mj_h0)) (mj_one_ifF mj_d_125_10 (t := 17) rfl (mj_lgF_gt (mj_l32 a) (show ((8 : Int64)).toInt = 8 by decide) (by omega))) ?_
      refine mj_runs.step (S' := (mj_m_125, 14, [(0, .long (a).toInt64), (2, .long (0 : Int64)), (4, .long (8 : Int64))], [.int (1 : Int32)], mj_h0)) (mj_one_of mj_d_125_13 fun _ _ => rfl) ?_
      refine mj_runs.step (S' := (mj_m_125, 18, [(0, .long (a).toInt64), (2, .long (0 : Int64)), (4, .long (8 : Int64))], [.int (1 : Int32)], mj_h0)) (mj_one_of mj_d_125_14 fun _ _ => rfl) ?_
      exact mj_runs.ret (mj_ret_of mj_d_125_18 fun _ _ => rfl)
    show mj_runs (mj_m_180, 9, [(0, .ref 234), (1, .int a), (2, .int b)], [.int (1 : Int32)], mj_h0) _ _
    refine mj_runs.step (S' := (mj_m_180, 12, [(0, .ref 234), (1, .int a), (2, .int b)], [], mj_h0)) (mj_one_of mj_d_180_9 fun _ _ => rfl) ?_
    refine mj_runs.step (S' := (mj_m_180, 13, [(0, .ref 234), (1, .int a), (2, .int b)], [.int b], mj_h0)) (mj_one_of mj_d_180_12 fun _ _ => rfl) ?_
    refine mj_runs.step (S' := (mj_m_180, 14, [(0, .ref 234), (1, .int a), (2, .int b)], [.long (b).toInt64], mj_h0)) (mj_one_of mj_d_180_13 fun _ _ => rfl) ?_
    refine mj_runs.step (S' := (mj_m_180, 15, [(0, .ref 234), (1, .int a), (2, .int b)], [.long (0 : Int64), .long (b).toInt64], mj_h0)) (mj_one_of mj_d_180_14 fun _ _ => rfl) ?_
    refine mj_runs.step (S' := (mj_m_180, 18, [(0, .ref 234), (1, .int a), (2, .int b)], [.long (100 : Int64), .long (0 : Int64), .long (b).toInt64], mj_h0)) (mj_one_of mj_d_180_15 fun _ _ => rfl) ?_
    refine mj_runs.call (S1 := (mj_m_125, 0, [(0, .long (b).toInt64), (2, .long (0 : Int64)), (4, .long (100 : Int64))], [], mj_h0)) (r1 := (some (.int (1 : Int32)))) (h1 := mj_h0) (mj_calls_s mj_d_180_18 rfl rfl rfl rfl ⟨Nat.le_of_ble_eq_true rfl, Nat.le_of_ble_eq_true rfl, Nat.le_of_ble_eq_true rfl, Nat.le_of_ble_eq_true rfl, Nat.le_of_ble_eq_true rfl⟩) ?_ ?_
    · refine mj_runs.step (S' := (mj_m_125, 1, [(0, .long (b).toInt64), (2, .long (0 : Int64)), (4, .long (100 : Int64))], [.long (b).toInt64], mj_h0)) (mj_one_of mj_d_125_0 fun _ _ => rfl) ?_
      refine mj_runs.step (S' := (mj_m_125, 2, [(0, .long (b).toInt64), (2, .long (0 : Int64)), (4, .long (100 : Int64))], [.long (0 : Int64), .long (b).toInt64], mj_h0)) (mj_one_of mj_d_125_1 fun _ _ => rfl) ?_
      refine mj_runs.step (S' := (mj_m_125, 3, [(0, .long (b).toInt64), (2, .long (0 : Int64)), (4, .long (100 : Int64))], [.int (lg_cmp (b).toInt64 (0 : Int64))], mj_h0)) (mj_one_of mj_d_125_2 fun _ _ => rfl) ?_
      refine mj_runs.step (S' := (mj_m_125, 6, [(0, .long (b).toInt64), (2, .long (0 : Int64)), (4, .long (100 : Int64))], [], mj_h0)) (mj_one_ifF mj_d_125_3 (t := 17) rfl (mj_lgF_lt (mj_l32 b) (show ((0 : Int64)).toInt = 0 by decide) (by omega))) ?_
      refine mj_runs.step (S' := (mj_m_125, 7, [(0, .long (b).toInt64), (2, .long (0 : Int64)), (4, .long (100 : Int64))], [.long (b).toInt64], mj_h0)) (mj_one_of mj_d_125_6 fun _ _ => rfl) ?_
      refine mj_runs.step (S' := (mj_m_125, 9, [(0, .long (b).toInt64), (2, .long (0 : Int64)), (4, .long (100 : Int64))], [.long (100 : Int64), .long (b).toInt64], mj_h0)) (mj_one_of mj_d_125_7 fun _ _ => rfl) ?_
      refine mj_runs.step (S' := (mj_m_125, 10, [(0, .long (b).toInt64), (2, .long (0 : Int64)), (4, .long (100 : Int64))], [.int (lg_cmp (b).toInt64 (100 : Int64))], mj_h0)) (mj_one_of mj_d_125_9 fun _ _ => rfl) ?_
      refine mj_runs.step (S' := (mj_m_125, 13, [(0, .long (b).toInt64), (2, .long (0 : Int64)), (4, .long (100 : Int64))], [], mj_h0)) (mj_one_ifF mj_d_125_10 (t := 17) rfl (mj_lgF_gt (mj_l32 b) (show ((100 : Int64)).toInt = 100 by decide) (by omega))) ?_
      refine mj_runs.step (S' := (mj_m_125, 14, [(0, .long (b).toInt64), (2, .long (0 : Int64)), (4, .long (100 : Int64))], [.int (1 : Int32)], mj_h0)) (mj_one_of mj_d_125_13 fun _ _ => rfl) ?_
      refine mj_runs.step (S' := (mj_m_125, 18, [(0, .long (b).toInt64), (2, .long (0 : Int64)), (4, .long (100 : Int64))], [.int (1 : Int32)], mj_h0)) (mj_one_of mj_d_125_14 fun _ _ => rfl) ?_
      exact mj_runs.ret (mj_ret_of mj_d_125_18 fun _ _ => rfl)
    show mj_runs (mj_m_180, 21, [(0, .ref 234), (1, .int a), (2, .int b)], [.int (1 : Int32)], mj_h0) _ _
    refine mj_runs.step (S' := (mj_m_180, 27, [(0, .ref 234), (1, .int a), (2, .int b)], [], mj_h0)) (mj_one_of mj_d_180_21 fun _ _ => rfl) ?_
    refine mj_runs.step (S' := (mj_m_180, 30, [(0, .ref 234), (1, .int a), (2, .int b)], [.long (1000000000 : Int64)], mj_h0)) (mj_one_of mj_d_180_27 fun _ _ => rfl) ?_
    refine mj_runs.step (S' := (mj_m_180, 31, [(3, .long (1000000000 : Int64)), (0, .ref 234), (1, .int a), (2, .int b)], [], mj_h0)) (mj_one_of mj_d_180_30 fun _ _ => rfl) ?_
    refine mj_runs.step (S' := (mj_m_180, 32, [(3, .long (1000000000 : Int64)), (0, .ref 234), (1, .int a), (2, .int b)], [.int (0 : Int32)], mj_h0)) (mj_one_of mj_d_180_31 fun _ _ => rfl) ?_
    refine mj_runs.step (S' := (mj_m_180, 34, [(5, .int (0 : Int32)), (3, .long (1000000000 : Int64)), (0, .ref 234), (1, .int a), (2, .int b)], [], mj_h0)) (mj_one_of mj_d_180_32 fun _ _ => rfl) ?_
    exact mj_wetM0 a b mj_h0 (by omega) a.toInt.toNat 0 1000000000 (by decide) (by rw [show (0 : Int32).toInt = 0 by decide]; omega)
