theorem sg_mul5 (a b : Int) (h1 : 0 ≤ a) (h2 : 0 ≤ b) (h3 : b ≤ 5) : 0 ≤ a * b ∧ a * b ≤ 5 * a := by
  refine ⟨Int.mul_nonneg h1 h2, ?_⟩
  have := Int.mul_le_mul_of_nonneg_left h3 h1
  omega
def mj_m_177 : mj_M := (⟨"SootMapsModel", "ring", "(I)I"⟩, prog_13_method_57_code, 5, (some .int), 10, 1, 1, 2, 48)
def mj_m_178 : mj_M := (⟨"SootMapsModel", "isRing", "(II)Z"⟩, prog_13_method_56_code, 7, (some .boolean), 10, 2, 1, 1, 22)
theorem mj_d_177_0 : decode mj_m_177.2.1 0 = .ok (.aload_n 0, 1) := by decide +kernel
theorem mj_d_177_1 : decode mj_m_177.2.1 1 = .ok (.getfield 83, 3) := by decide +kernel
theorem mj_d_177_4 : decode mj_m_177.2.1 4 = .ok (.istore_n 2, 1) := by decide +kernel
theorem mj_d_177_5 : decode mj_m_177.2.1 5 = .ok (.iconst 2, 1) := by decide +kernel
theorem mj_d_177_6 : decode mj_m_177.2.1 6 = .ok (.istore_n 3, 1) := by decide +kernel
theorem mj_d_177_7 : decode mj_m_177.2.1 7 = .ok (.iload_n 3, 1) := by decide +kernel
theorem mj_d_177_8 : decode mj_m_177.2.1 8 = .ok (.aload_n 0, 1) := by decide +kernel
theorem mj_d_177_9 : decode mj_m_177.2.1 9 = .ok (.getfield 83, 3) := by decide +kernel
theorem mj_d_177_12 : decode mj_m_177.2.1 12 = .ok (.if_icmp .gt 74, 3) := by decide +kernel
theorem mj_d_177_15 : decode mj_m_177.2.1 15 = .ok (.iload_n 2, 1) := by decide +kernel
theorem mj_d_177_16 : decode mj_m_177.2.1 16 = .ok (.aload_n 0, 1) := by decide +kernel
theorem mj_d_177_17 : decode mj_m_177.2.1 17 = .ok (.getfield 83, 3) := by decide +kernel
theorem mj_d_177_20 : decode mj_m_177.2.1 20 = .ok (.imul, 1) := by decide +kernel
theorem mj_d_177_21 : decode mj_m_177.2.1 21 = .ok (.istore_n 2, 1) := by decide +kernel
theorem mj_d_177_22 : decode mj_m_177.2.1 22 = .ok (.iconst 0, 1) := by decide +kernel
theorem mj_d_177_23 : decode mj_m_177.2.1 23 = .ok (.istore 4, 2) := by decide +kernel
theorem mj_d_177_25 : decode mj_m_177.2.1 25 = .ok (.iload 4, 2) := by decide +kernel
theorem mj_d_177_27 : decode mj_m_177.2.1 27 = .ok (.iload_n 2, 1) := by decide +kernel
theorem mj_d_177_28 : decode mj_m_177.2.1 28 = .ok (.if_icmp .ge 52, 3) := by decide +kernel
theorem mj_d_177_31 : decode mj_m_177.2.1 31 = .ok (.aload_n 0, 1) := by decide +kernel
theorem mj_d_177_32 : decode mj_m_177.2.1 32 = .ok (.iload 4, 2) := by decide +kernel
theorem mj_d_177_34 : decode mj_m_177.2.1 34 = .ok (.iload_n 3, 1) := by decide +kernel
theorem mj_d_177_35 : decode mj_m_177.2.1 35 = .ok (.invokevirtual 265, 3) := by decide +kernel
theorem mj_d_177_38 : decode mj_m_177.2.1 38 = .ok (.ifCond .eq 36, 3) := by decide +kernel
theorem mj_d_177_41 : decode mj_m_177.2.1 41 = .ok (.iload_n 1, 1) := by decide +kernel
theorem mj_d_177_42 : decode mj_m_177.2.1 42 = .ok (.iconst (-1), 1) := by decide +kernel
theorem mj_d_177_43 : decode mj_m_177.2.1 43 = .ok (.if_icmp .ne 7, 3) := by decide +kernel
theorem mj_d_177_46 : decode mj_m_177.2.1 46 = .ok (.iload_n 3, 1) := by decide +kernel
theorem mj_d_177_47 : decode mj_m_177.2.1 47 = .ok (.goto 26, 3) := by decide +kernel
theorem mj_d_177_50 : decode mj_m_177.2.1 50 = .ok (.iload_n 1, 1) := by decide +kernel
theorem mj_d_177_51 : decode mj_m_177.2.1 51 = .ok (.i2l, 1) := by decide +kernel
theorem mj_d_177_52 : decode mj_m_177.2.1 52 = .ok (.lconst 0, 1) := by decide +kernel
theorem mj_d_177_53 : decode mj_m_177.2.1 53 = .ok (.iload_n 3, 1) := by decide +kernel
theorem mj_d_177_54 : decode mj_m_177.2.1 54 = .ok (.iconst 1, 1) := by decide +kernel
theorem mj_d_177_55 : decode mj_m_177.2.1 55 = .ok (.isub, 1) := by decide +kernel
theorem mj_d_177_56 : decode mj_m_177.2.1 56 = .ok (.i2l, 1) := by decide +kernel
theorem mj_d_177_57 : decode mj_m_177.2.1 57 = .ok (.invokestatic 79, 3) := by decide +kernel
theorem mj_d_177_60 : decode mj_m_177.2.1 60 = .ok (.ifCond .eq 12, 3) := by decide +kernel
theorem mj_d_177_63 : decode mj_m_177.2.1 63 = .ok (.aload_n 0, 1) := by decide +kernel
theorem mj_d_177_64 : decode mj_m_177.2.1 64 = .ok (.getfield 54, 3) := by decide +kernel
theorem mj_d_177_67 : decode mj_m_177.2.1 67 = .ok (.iload_n 1, 1) := by decide +kernel
theorem mj_d_177_68 : decode mj_m_177.2.1 68 = .ok (.iaload, 1) := by decide +kernel
theorem mj_d_177_69 : decode mj_m_177.2.1 69 = .ok (.goto 4, 3) := by decide +kernel
theorem mj_d_177_72 : decode mj_m_177.2.1 72 = .ok (.iconst (-1), 1) := by decide +kernel
theorem mj_d_177_73 : decode mj_m_177.2.1 73 = .ok (.ireturn, 1) := by decide +kernel
theorem mj_d_177_74 : decode mj_m_177.2.1 74 = .ok (.iinc 4 1, 3) := by decide +kernel
theorem mj_d_177_77 : decode mj_m_177.2.1 77 = .ok (.goto (-52), 3) := by decide +kernel
theorem mj_d_177_80 : decode mj_m_177.2.1 80 = .ok (.iinc 3 1, 3) := by decide +kernel
theorem mj_d_177_83 : decode mj_m_177.2.1 83 = .ok (.goto (-76), 3) := by decide +kernel
theorem mj_d_177_86 : decode mj_m_177.2.1 86 = .ok (.iconst (-1), 1) := by decide +kernel
theorem mj_d_177_87 : decode mj_m_177.2.1 87 = .ok (.ireturn, 1) := by decide +kernel
theorem mj_d_178_0 : decode mj_m_178.2.1 0 = .ok (.iload_n 1, 1) := by decide +kernel
theorem mj_d_178_1 : decode mj_m_178.2.1 1 = .ok (.istore_n 3, 1) := by decide +kernel
theorem mj_d_178_2 : decode mj_m_178.2.1 2 = .ok (.iload_n 2, 1) := by decide +kernel
theorem mj_d_178_3 : decode mj_m_178.2.1 3 = .ok (.iconst 1, 1) := by decide +kernel
theorem mj_d_178_4 : decode mj_m_178.2.1 4 = .ok (.isub, 1) := by decide +kernel
theorem mj_d_178_5 : decode mj_m_178.2.1 5 = .ok (.istore 4, 2) := by decide +kernel
theorem mj_d_178_7 : decode mj_m_178.2.1 7 = .ok (.iload 4, 2) := by decide +kernel
theorem mj_d_178_9 : decode mj_m_178.2.1 9 = .ok (.ifCond .lt 29, 3) := by decide +kernel
theorem mj_d_178_12 : decode mj_m_178.2.1 12 = .ok (.aload_n 0, 1) := by decide +kernel
theorem mj_d_178_13 : decode mj_m_178.2.1 13 = .ok (.getfield 54, 3) := by decide +kernel
theorem mj_d_178_16 : decode mj_m_178.2.1 16 = .ok (.iload 4, 2) := by decide +kernel
theorem mj_d_178_18 : decode mj_m_178.2.1 18 = .ok (.iload_n 3, 1) := by decide +kernel
theorem mj_d_178_19 : decode mj_m_178.2.1 19 = .ok (.aload_n 0, 1) := by decide +kernel
theorem mj_d_178_20 : decode mj_m_178.2.1 20 = .ok (.getfield 83, 3) := by decide +kernel
theorem mj_d_178_23 : decode mj_m_178.2.1 23 = .ok (.irem, 1) := by decide +kernel
theorem mj_d_178_24 : decode mj_m_178.2.1 24 = .ok (.iastore, 1) := by decide +kernel
theorem mj_d_178_25 : decode mj_m_178.2.1 25 = .ok (.iload_n 3, 1) := by decide +kernel
theorem mj_d_178_26 : decode mj_m_178.2.1 26 = .ok (.aload_n 0, 1) := by decide +kernel
theorem mj_d_178_27 : decode mj_m_178.2.1 27 = .ok (.getfield 83, 3) := by decide +kernel
theorem mj_d_178_30 : decode mj_m_178.2.1 30 = .ok (.idiv, 1) := by decide +kernel
theorem mj_d_178_31 : decode mj_m_178.2.1 31 = .ok (.istore_n 3, 1) := by decide +kernel
theorem mj_d_178_32 : decode mj_m_178.2.1 32 = .ok (.iinc 4 (-1), 3) := by decide +kernel
theorem mj_d_178_35 : decode mj_m_178.2.1 35 = .ok (.goto (-28), 3) := by decide +kernel
theorem mj_d_178_38 : decode mj_m_178.2.1 38 = .ok (.iconst 1, 1) := by decide +kernel
theorem mj_d_178_39 : decode mj_m_178.2.1 39 = .ok (.istore 4, 2) := by decide +kernel
theorem mj_d_178_41 : decode mj_m_178.2.1 41 = .ok (.iconst 0, 1) := by decide +kernel
theorem mj_d_178_42 : decode mj_m_178.2.1 42 = .ok (.istore 5, 2) := by decide +kernel
theorem mj_d_178_44 : decode mj_m_178.2.1 44 = .ok (.iload 5, 2) := by decide +kernel
theorem mj_d_178_46 : decode mj_m_178.2.1 46 = .ok (.iload_n 2, 1) := by decide +kernel
theorem mj_d_178_47 : decode mj_m_178.2.1 47 = .ok (.if_icmp .ge 117, 3) := by decide +kernel
theorem mj_d_178_50 : decode mj_m_178.2.1 50 = .ok (.iconst 0, 1) := by decide +kernel
theorem mj_d_178_51 : decode mj_m_178.2.1 51 = .ok (.istore 6, 2) := by decide +kernel
theorem mj_d_178_53 : decode mj_m_178.2.1 53 = .ok (.iload 6, 2) := by decide +kernel
theorem mj_d_178_55 : decode mj_m_178.2.1 55 = .ok (.iload 5, 2) := by decide +kernel
theorem mj_d_178_57 : decode mj_m_178.2.1 57 = .ok (.if_icmp .ge 38, 3) := by decide +kernel
theorem mj_d_178_60 : decode mj_m_178.2.1 60 = .ok (.iload 4, 2) := by decide +kernel
theorem mj_d_178_62 : decode mj_m_178.2.1 62 = .ok (.ifCond .eq 24, 3) := by decide +kernel
theorem mj_d_178_65 : decode mj_m_178.2.1 65 = .ok (.aload_n 0, 1) := by decide +kernel
theorem mj_d_178_66 : decode mj_m_178.2.1 66 = .ok (.getfield 54, 3) := by decide +kernel
theorem mj_d_178_69 : decode mj_m_178.2.1 69 = .ok (.iload 6, 2) := by decide +kernel
theorem mj_d_178_71 : decode mj_m_178.2.1 71 = .ok (.iaload, 1) := by decide +kernel
theorem mj_d_178_72 : decode mj_m_178.2.1 72 = .ok (.aload_n 0, 1) := by decide +kernel
theorem mj_d_178_73 : decode mj_m_178.2.1 73 = .ok (.getfield 54, 3) := by decide +kernel
theorem mj_d_178_76 : decode mj_m_178.2.1 76 = .ok (.iload 5, 2) := by decide +kernel
theorem mj_d_178_78 : decode mj_m_178.2.1 78 = .ok (.iaload, 1) := by decide +kernel
theorem mj_d_178_79 : decode mj_m_178.2.1 79 = .ok (.if_icmp .eq 7, 3) := by decide +kernel
theorem mj_d_178_82 : decode mj_m_178.2.1 82 = .ok (.iconst 1, 1) := by decide +kernel
theorem mj_d_178_83 : decode mj_m_178.2.1 83 = .ok (.goto 4, 3) := by decide +kernel
theorem mj_d_178_86 : decode mj_m_178.2.1 86 = .ok (.iconst 0, 1) := by decide +kernel
theorem mj_d_178_87 : decode mj_m_178.2.1 87 = .ok (.istore 4, 2) := by decide +kernel
theorem mj_d_178_89 : decode mj_m_178.2.1 89 = .ok (.iinc 6 1, 3) := by decide +kernel
theorem mj_d_178_92 : decode mj_m_178.2.1 92 = .ok (.goto (-39), 3) := by decide +kernel
theorem mj_d_178_95 : decode mj_m_178.2.1 95 = .ok (.iload 4, 2) := by decide +kernel
theorem mj_d_178_97 : decode mj_m_178.2.1 97 = .ok (.ifCond .eq 58, 3) := by decide +kernel
theorem mj_d_178_100 : decode mj_m_178.2.1 100 = .ok (.aload_n 0, 1) := by decide +kernel
theorem mj_d_178_101 : decode mj_m_178.2.1 101 = .ok (.getfield 54, 3) := by decide +kernel
theorem mj_d_178_104 : decode mj_m_178.2.1 104 = .ok (.iconst 0, 1) := by decide +kernel
theorem mj_d_178_105 : decode mj_m_178.2.1 105 = .ok (.iaload, 1) := by decide +kernel
theorem mj_d_178_106 : decode mj_m_178.2.1 106 = .ok (.aload_n 0, 1) := by decide +kernel
theorem mj_d_178_107 : decode mj_m_178.2.1 107 = .ok (.getfield 54, 3) := by decide +kernel
theorem mj_d_178_110 : decode mj_m_178.2.1 110 = .ok (.iload 5, 2) := by decide +kernel
theorem mj_d_178_112 : decode mj_m_178.2.1 112 = .ok (.iaload, 1) := by decide +kernel
theorem mj_d_178_113 : decode mj_m_178.2.1 113 = .ok (.if_icmp .gt 42, 3) := by decide +kernel
theorem mj_d_178_116 : decode mj_m_178.2.1 116 = .ok (.aload_n 0, 1) := by decide +kernel
theorem mj_d_178_117 : decode mj_m_178.2.1 117 = .ok (.aload_n 0, 1) := by decide +kernel
theorem mj_d_178_118 : decode mj_m_178.2.1 118 = .ok (.getfield 54, 3) := by decide +kernel
theorem mj_d_178_121 : decode mj_m_178.2.1 121 = .ok (.iload 5, 2) := by decide +kernel
theorem mj_d_178_123 : decode mj_m_178.2.1 123 = .ok (.iaload, 1) := by decide +kernel
theorem mj_d_178_124 : decode mj_m_178.2.1 124 = .ok (.aload_n 0, 1) := by decide +kernel
theorem mj_d_178_125 : decode mj_m_178.2.1 125 = .ok (.getfield 54, 3) := by decide +kernel
theorem mj_d_178_128 : decode mj_m_178.2.1 128 = .ok (.iload 5, 2) := by decide +kernel
theorem mj_d_178_130 : decode mj_m_178.2.1 130 = .ok (.iconst 1, 1) := by decide +kernel
theorem mj_d_178_131 : decode mj_m_178.2.1 131 = .ok (.iadd, 1) := by decide +kernel
theorem mj_d_178_132 : decode mj_m_178.2.1 132 = .ok (.iload_n 2, 1) := by decide +kernel
theorem mj_d_178_133 : decode mj_m_178.2.1 133 = .ok (.if_icmp .ge 10, 3) := by decide +kernel
theorem mj_d_178_136 : decode mj_m_178.2.1 136 = .ok (.iload 5, 2) := by decide +kernel
theorem mj_d_178_138 : decode mj_m_178.2.1 138 = .ok (.iconst 1, 1) := by decide +kernel
theorem mj_d_178_139 : decode mj_m_178.2.1 139 = .ok (.iadd, 1) := by decide +kernel
theorem mj_d_178_140 : decode mj_m_178.2.1 140 = .ok (.goto 4, 3) := by decide +kernel
theorem mj_d_178_143 : decode mj_m_178.2.1 143 = .ok (.iconst 0, 1) := by decide +kernel
theorem mj_d_178_144 : decode mj_m_178.2.1 144 = .ok (.iaload, 1) := by decide +kernel
theorem mj_d_178_145 : decode mj_m_178.2.1 145 = .ok (.invokevirtual 262, 3) := by decide +kernel
theorem mj_d_178_148 : decode mj_m_178.2.1 148 = .ok (.ifCond .eq 7, 3) := by decide +kernel
theorem mj_d_178_151 : decode mj_m_178.2.1 151 = .ok (.iconst 1, 1) := by decide +kernel
theorem mj_d_178_152 : decode mj_m_178.2.1 152 = .ok (.goto 4, 3) := by decide +kernel
theorem mj_d_178_155 : decode mj_m_178.2.1 155 = .ok (.iconst 0, 1) := by decide +kernel
theorem mj_d_178_156 : decode mj_m_178.2.1 156 = .ok (.istore 4, 2) := by decide +kernel
theorem mj_d_178_158 : decode mj_m_178.2.1 158 = .ok (.iinc 5 1, 3) := by decide +kernel
theorem mj_d_178_161 : decode mj_m_178.2.1 161 = .ok (.goto (-117), 3) := by decide +kernel
theorem mj_d_178_164 : decode mj_m_178.2.1 164 = .ok (.iload 4, 2) := by decide +kernel
theorem mj_d_178_166 : decode mj_m_178.2.1 166 = .ok (.ireturn, 1) := by decide +kernel
def dc_R_isRing_53 (k44 : sg_S → Int → Int → Int → sg_S × Int) (n : Nat) : sg_S → Int → Int → Int → Int → sg_S × Int := Nat.rec (fun (s : sg_S) l2 l4 l5 l6 => (s, 0)) (fun _ ih => fun s l2 l4 l5 l6 => (if l5 ≤ l6 then (if l4 = 0 then (k44 s l2 0 (l5 + 1)) else (if (s 248 ((l5).toNat)) < (s 248 0) then (k44 s l2 0 (l5 + 1)) else (if l2 ≤ (l5 + 1) then (if (dc_R_canGive s (s 248 ((l5).toNat)) (s 248 0)) = 0 then (k44 s l2 0 (l5 + 1)) else (k44 s l2 1 (l5 + 1))) else (if (dc_R_canGive s (s 248 ((l5).toNat)) (s 248 ((l5 + 1).toNat))) = 0 then (k44 s l2 0 (l5 + 1)) else (k44 s l2 1 (l5 + 1)))))) else (if l4 = 0 then (ih s l2 0 l5 (l6 + 1)) else (if (s 248 ((l6).toNat)) = (s 248 ((l5).toNat)) then (ih s l2 0 l5 (l6 + 1)) else (ih s l2 1 l5 (l6 + 1)))))) n
theorem dc_R_isRing_53_s (k44 : sg_S → Int → Int → Int → sg_S × Int) (n : Nat) (s : sg_S) (l2 l4 l5 l6 : Int) : dc_R_isRing_53 k44 (n + 1) s l2 l4 l5 l6 = (if l5 ≤ l6 then (if l4 = 0 then (k44 s l2 0 (l5 + 1)) else (if (s 248 ((l5).toNat)) < (s 248 0) then (k44 s l2 0 (l5 + 1)) else (if l2 ≤ (l5 + 1) then (if (dc_R_canGive s (s 248 ((l5).toNat)) (s 248 0)) = 0 then (k44 s l2 0 (l5 + 1)) else (k44 s l2 1 (l5 + 1))) else (if (dc_R_canGive s (s 248 ((l5).toNat)) (s 248 ((l5 + 1).toNat))) = 0 then (k44 s l2 0 (l5 + 1)) else (k44 s l2 1 (l5 + 1)))))) else (if l4 = 0 then ((dc_R_isRing_53 k44 n) s l2 0 l5 (l6 + 1)) else (if (s 248 ((l6).toNat)) = (s 248 ((l5).toNat)) then ((dc_R_isRing_53 k44 n) s l2 0 l5 (l6 + 1)) else ((dc_R_isRing_53 k44 n) s l2 1 l5 (l6 + 1))))) := rfl
def dc_R_isRing_44 (n : Nat) : sg_S → Int → Int → Int → sg_S × Int := Nat.rec (fun (s : sg_S) l2 l4 l5 => (s, 0)) (fun _ ih => fun s l2 l4 l5 => (if l2 ≤ l5 then (s, l4) else (dc_R_isRing_53 ih 6 s l2 l4 l5 0))) n
theorem dc_R_isRing_44_s (n : Nat) (s : sg_S) (l2 l4 l5 : Int) : dc_R_isRing_44 (n + 1) s l2 l4 l5 = (if l2 ≤ l5 then (s, l4) else (dc_R_isRing_53 (dc_R_isRing_44 n) 6 s l2 l4 l5 0)) := rfl
def dc_R_isRing_7 (n : Nat) : sg_S → Int → Int → Int → sg_S × Int := Nat.rec (fun (s : sg_S) l2 l3 l4 => (s, 0)) (fun _ ih => fun s l2 l3 l4 => (if l4 < 0 then (dc_R_isRing_44 6 s l2 1 0) else (ih (sg_up s 248 ((l4).toNat) (l3 % (s 234 7))) l2 (l3 / (s 234 7)) (l4 + (-1))))) n
theorem dc_R_isRing_7_s (n : Nat) (s : sg_S) (l2 l3 l4 : Int) : dc_R_isRing_7 (n + 1) s l2 l3 l4 = (if l4 < 0 then (dc_R_isRing_44 6 s l2 1 0) else ((dc_R_isRing_7 n) (sg_up s 248 ((l4).toNat) (l3 % (s 234 7))) l2 (l3 / (s 234 7)) (l4 + (-1)))) := rfl
def dc_R_isRing (s : sg_S) (a1 a2 : Int) : sg_S × Int := (dc_R_isRing_7 6 s a2 a1 (a2 - 1))
def dw_R_isRing (a k : Nat) : Bool := (a == 248)
theorem dr_R_isRing_53 (a k : Nat) (h : dw_R_isRing a k = false) {k44 : sg_S → Int → Int → Int → sg_S × Int} (hk44 : ∀ s y0 y1 y2, (k44 s y0 y1 y2).1 a k = s a k) : ∀ (n : Nat) (s : sg_S) (l2 l4 l5 l6 : Int), (dc_R_isRing_53 k44 n s l2 l4 l5 l6).1 a k = s a k := by
  have h0 := h
  unfold dw_R_isRing at h
  have h1 := h
  intro n
  induction n with
  | zero => intro s l2 l4 l5 l6; rfl
  | succ n ih =>
    intro s l2 l4 l5 l6
    rw [dc_R_isRing_53_s]
    (repeat' split) <;> simp only [(fun s l z => sg_upa (s := s) (l := l) (z := z) (k := k) h1), ih, hk44]
theorem dr_R_isRing_44 (a k : Nat) (h : dw_R_isRing a k = false) : ∀ (n : Nat) (s : sg_S) (l2 l4 l5 : Int), (dc_R_isRing_44 n s l2 l4 l5).1 a k = s a k := by
  have h0 := h
  unfold dw_R_isRing at h
  have h1 := h
  intro n
  induction n with
  | zero => intro s l2 l4 l5; rfl
  | succ n ih =>
    intro s l2 l4 l5
    rw [dc_R_isRing_44_s]
    (repeat' split) <;> simp only [(fun s l z => sg_upa (s := s) (l := l) (z := z) (k := k) h1), ih, (dr_R_isRing_53 a k h0 ih)]
theorem dr_R_isRing_7 (a k : Nat) (h : dw_R_isRing a k = false) : ∀ (n : Nat) (s : sg_S) (l2 l3 l4 : Int), (dc_R_isRing_7 n s l2 l3 l4).1 a k = s a k := by
  have h0 := h
  unfold dw_R_isRing at h
  have h1 := h
  intro n
  induction n with
  | zero => intro s l2 l3 l4; rfl
  | succ n ih =>
    intro s l2 l3 l4
    rw [dc_R_isRing_7_s]
    (repeat' split) <;> simp only [(fun s l z => sg_upa (s := s) (l := l) (z := z) (k := k) h1), ih, (dr_R_isRing_44 a k h0)]
theorem dr_R_isRing (s : sg_S) (a1 a2 : Int) (a k : Nat) (h : dw_R_isRing a k = false) : (dc_R_isRing s a1 a2).1 a k = s a k := by
  have h0 := h
  unfold dw_R_isRing at h
  have h1 := h
  unfold dc_R_isRing
  (repeat' split) <;> simp only [(fun s l z => sg_upa (s := s) (l := l) (z := z) (k := k) h1), (dr_R_isRing_44 a k h0), (dr_R_isRing_7 a k h0)]
set_option maxRecDepth 100000 in
theorem dt_R_isRing_53 {k44 : sg_S → Int → Int → Int → sg_S × Int} {n44 : Nat} (hk44 : ∀ {h1 : mj_H}, sy_H h1 → ∀ {l2 l4 l5 : Int}, 2 ≤ l2 → l2 ≤ 5 → 0 ≤ l4 → l4 ≤ 1 → 0 ≤ l5 → l5 ≤ 5 → l5 ≤ l2 → 5 - l5 < (n44 : Int) → sy_wp (mj_m_178, 44, [(0, .ref 234), (2, sy_i l2), (4, sy_i l4), (5, sy_i l5)], [], h1) (dq2 (0) (1) (k44 (sy_rd h1) l2 l4 l5))) : ∀ (n : Nat) {h : mj_H} (hH : sy_H h) {l2 l4 l5 l6 : Int} (b_l2 : 2 ≤ l2) (t_l2 : l2 ≤ 5) (b_l4 : 0 ≤ l4) (t_l4 : l4 ≤ 1) (b_l5 : 0 ≤ l5) (t_l5 : l5 ≤ 4) (b_l6 : 0 ≤ l6) (t_l6 : l6 ≤ 5) (i0 : l5 < l2) (i1 : l6 ≤ l5) (i2 : 5 - (l5 + 1) < (n44 : Int)) (hm : 5 - l6 < (n : Int)), sy_wp (mj_m_178, 53, [(0, .ref 234), (2, sy_i l2), (4, sy_i l4), (5, sy_i l5), (6, sy_i l6)], [], h) (dq2 (0) (1) (dc_R_isRing_53 k44 n (sy_rd h) l2 l4 l5 l6)) := by
  intro n
  induction n with
  | zero =>
    intro h hH l2 l4 l5 l6 b_l2 t_l2 b_l4 t_l4 b_l5 t_l5 b_l6 t_l6 i0 i1 i2 hm
    exact absurd hm (by omega)
  | succ n ih =>
    intro h hH l2 l4 l5 l6 b_l2 t_l2 b_l4 t_l4 b_l5 t_l5 b_l6 t_l6 i0 i1 i2 hm
    rw [dc_R_isRing_53_s]
    refine sy_st (S' := (mj_m_178, 55, [(0, .ref 234), (2, sy_i l2), (4, sy_i l4), (5, sy_i l5), (6, sy_i l6)], [sy_i l6], h)) mj_d_178_53 (fun _ _ => rfl) ?_
    refine sy_st (S' := (mj_m_178, 57, [(0, .ref 234), (2, sy_i l2), (4, sy_i l4), (5, sy_i l5), (6, sy_i l6)], [sy_i l5, sy_i l6], h)) mj_d_178_55 (fun _ _ => rfl) ?_
    refine sy_icm mj_d_178_57 rfl ⟨by omega, by omega⟩ ⟨by omega, by omega⟩ (fun (c1 : l5 ≤ l6) => ?_) (fun (c1 : ¬ (l5 ≤ l6)) => ?_)
    · skip
      rw [if_pos c1]
      refine sy_st (S' := (mj_m_178, 97, [(0, .ref 234), (2, sy_i l2), (4, sy_i l4), (5, sy_i l5), (6, sy_i l6)], [sy_i l4], h)) mj_d_178_95 (fun _ _ => rfl) ?_
      refine sy_ifc mj_d_178_97 rfl ⟨by omega, by omega⟩ (fun (c2 : l4 = 0) => ?_) (fun (c2 : ¬ (l4 = 0)) => ?_)
      · skip
        rw [if_pos c2]
        refine sy_st (S' := (mj_m_178, 156, [(0, .ref 234), (2, sy_i l2), (4, sy_i l4), (5, sy_i l5), (6, sy_i l6)], [sy_i 0], h)) mj_d_178_155 (fun _ _ => rfl) ?_
        refine sy_st (S' := (mj_m_178, 158, [(4, sy_i 0), (0, .ref 234), (2, sy_i l2), (5, sy_i l5), (6, sy_i l6)], [], h)) mj_d_178_156 (fun _ _ => rfl) ?_
        refine sy_inc (a := l5) (lv' := [(5, sy_i (l5 + 1)), (4, sy_i 0), (0, .ref 234), (2, sy_i l2), (6, sy_i l6)]) mj_d_178_158 (Nat.le_of_ble_eq_true rfl) rfl rfl ?_
        refine sy_st (S' := (mj_m_178, 44, [(5, sy_i (l5 + 1)), (4, sy_i 0), (0, .ref 234), (2, sy_i l2), (6, sy_i l6)], [], h)) mj_d_178_161 (fun _ _ => rfl) ?_
        refine sy_lv (lv := [(0, .ref 234), (2, sy_i l2), (4, sy_i 0), (5, sy_i (l5 + 1))]) rfl ⟨rfl, rfl, rfl, rfl, trivial⟩ ?_
        exact hk44 hH (by first | omega | assumption) (by first | omega | assumption) (by first | omega | assumption) (by first | omega | assumption) (by first | omega | assumption) (by first | omega | assumption) (by first | omega | assumption) (by omega)
      · skip
        rw [if_neg c2]
        refine sy_st (S' := (mj_m_178, 101, [(0, .ref 234), (2, sy_i l2), (4, sy_i l4), (5, sy_i l5), (6, sy_i l6)], [.ref 234], h)) mj_d_178_100 (fun _ _ => rfl) ?_
        refine sy_gr2 (b := 248) mj_d_178_101 rfl rfl (by decide) rfl rfl hH ?_
        refine sy_st (S' := (mj_m_178, 105, [(0, .ref 234), (2, sy_i l2), (4, sy_i l4), (5, sy_i l5), (6, sy_i l6)], [sy_i 0, .ref 248], h)) mj_d_178_104 (fun _ _ => rfl) ?_
        refine sy_ia mj_d_178_105 rfl (by decide) (by omega) (by omega) (ab_el_1 rfl _) hH ?_
        intro x3 ex3 bx3 tx3
        replace ex3 : x3 = sy_rd h 248 0 := ex3
        subst ex3
        refine sy_st (S' := (mj_m_178, 107, [(0, .ref 234), (2, sy_i l2), (4, sy_i l4), (5, sy_i l5), (6, sy_i l6)], [.ref 234, sy_i (sy_rd h 248 0)], h)) mj_d_178_106 (fun _ _ => rfl) ?_
        refine sy_gr2 (b := 248) mj_d_178_107 rfl rfl (by decide) rfl rfl hH ?_
        refine sy_st (S' := (mj_m_178, 112, [(0, .ref 234), (2, sy_i l2), (4, sy_i l4), (5, sy_i l5), (6, sy_i l6)], [sy_i l5, .ref 248, sy_i (sy_rd h 248 0)], h)) mj_d_178_110 (fun _ _ => rfl) ?_
        refine sy_ia mj_d_178_112 rfl (by decide) (by omega) (by omega) (ab_el_1 rfl _) hH ?_
        rintro _ rfl bx4 tx4
        refine sy_icm mj_d_178_113 rfl ⟨by omega, by omega⟩ ⟨by omega, by omega⟩ (fun (c5 : (sy_rd h 248 ((l5).toNat)) < (sy_rd h 248 0)) => ?_) (fun (c5 : ¬ ((sy_rd h 248 ((l5).toNat)) < (sy_rd h 248 0))) => ?_)
        · skip
          rw [if_pos c5]
          refine sy_st (S' := (mj_m_178, 156, [(0, .ref 234), (2, sy_i l2), (4, sy_i l4), (5, sy_i l5), (6, sy_i l6)], [sy_i 0], h)) mj_d_178_155 (fun _ _ => rfl) ?_
          refine sy_st (S' := (mj_m_178, 158, [(4, sy_i 0), (0, .ref 234), (2, sy_i l2), (5, sy_i l5), (6, sy_i l6)], [], h)) mj_d_178_156 (fun _ _ => rfl) ?_
          refine sy_inc (a := l5) (lv' := [(5, sy_i (l5 + 1)), (4, sy_i 0), (0, .ref 234), (2, sy_i l2), (6, sy_i l6)]) mj_d_178_158 (Nat.le_of_ble_eq_true rfl) rfl rfl ?_
          refine sy_st (S' := (mj_m_178, 44, [(5, sy_i (l5 + 1)), (4, sy_i 0), (0, .ref 234), (2, sy_i l2), (6, sy_i l6)], [], h)) mj_d_178_161 (fun _ _ => rfl) ?_
          refine sy_lv (lv := [(0, .ref 234), (2, sy_i l2), (4, sy_i 0), (5, sy_i (l5 + 1))]) rfl ⟨rfl, rfl, rfl, rfl, trivial⟩ ?_
          exact hk44 hH (by first | omega | assumption) (by first | omega | assumption) (by first | omega | assumption) (by first | omega | assumption) (by first | omega | assumption) (by first | omega | assumption) (by first | omega | assumption) (by omega)
        · skip
          rw [if_neg c5]
          refine sy_st (S' := (mj_m_178, 117, [(0, .ref 234), (2, sy_i l2), (4, sy_i l4), (5, sy_i l5), (6, sy_i l6)], [.ref 234], h)) mj_d_178_116 (fun _ _ => rfl) ?_
          refine sy_st (S' := (mj_m_178, 118, [(0, .ref 234), (2, sy_i l2), (4, sy_i l4), (5, sy_i l5), (6, sy_i l6)], [.ref 234, .ref 234], h)) mj_d_178_117 (fun _ _ => rfl) ?_
          refine sy_gr2 (b := 248) mj_d_178_118 rfl rfl (by decide) rfl rfl hH ?_
          refine sy_st (S' := (mj_m_178, 123, [(0, .ref 234), (2, sy_i l2), (4, sy_i l4), (5, sy_i l5), (6, sy_i l6)], [sy_i l5, .ref 248, .ref 234], h)) mj_d_178_121 (fun _ _ => rfl) ?_
          refine sy_ia mj_d_178_123 rfl (by decide) (by omega) (by omega) (ab_el_1 rfl _) hH ?_
          rintro _ rfl bx6 tx6
          refine sy_st (S' := (mj_m_178, 125, [(0, .ref 234), (2, sy_i l2), (4, sy_i l4), (5, sy_i l5), (6, sy_i l6)], [.ref 234, sy_i (sy_rd h 248 ((l5).toNat)), .ref 234], h)) mj_d_178_124 (fun _ _ => rfl) ?_
          refine sy_gr2 (b := 248) mj_d_178_125 rfl rfl (by decide) rfl rfl hH ?_
          refine sy_st (S' := (mj_m_178, 130, [(0, .ref 234), (2, sy_i l2), (4, sy_i l4), (5, sy_i l5), (6, sy_i l6)], [sy_i l5, .ref 248, sy_i (sy_rd h 248 ((l5).toNat)), .ref 234], h)) mj_d_178_128 (fun _ _ => rfl) ?_
          refine sy_st (S' := (mj_m_178, 131, [(0, .ref 234), (2, sy_i l2), (4, sy_i l4), (5, sy_i l5), (6, sy_i l6)], [sy_i 1, sy_i l5, .ref 248, sy_i (sy_rd h 248 ((l5).toNat)), .ref 234], h)) mj_d_178_130 (fun _ _ => rfl) ?_
          refine sy_add mj_d_178_131 ?_
          refine sy_st (S' := (mj_m_178, 133, [(0, .ref 234), (2, sy_i l2), (4, sy_i l4), (5, sy_i l5), (6, sy_i l6)], [sy_i l2, sy_i (l5 + 1), .ref 248, sy_i (sy_rd h 248 ((l5).toNat)), .ref 234], h)) mj_d_178_132 (fun _ _ => rfl) ?_
          refine sy_icm mj_d_178_133 rfl ⟨by omega, by omega⟩ ⟨by omega, by omega⟩ (fun (c7 : l2 ≤ (l5 + 1)) => ?_) (fun (c7 : ¬ (l2 ≤ (l5 + 1))) => ?_)
          · skip
            rw [if_pos c7]
            refine sy_st (S' := (mj_m_178, 144, [(0, .ref 234), (2, sy_i l2), (4, sy_i l4), (5, sy_i l5), (6, sy_i l6)], [sy_i 0, .ref 248, sy_i (sy_rd h 248 ((l5).toNat)), .ref 234], h)) mj_d_178_143 (fun _ _ => rfl) ?_
            refine sy_ia mj_d_178_144 rfl (by decide) (by omega) (by omega) (ab_el_1 rfl _) hH ?_
            intro x8 ex8 bx8 tx8
            replace ex8 : x8 = sy_rd h 248 0 := ex8
            subst ex8
            refine sy_cv (M' := mj_m_179) (vs := [.ref 234, sy_i (sy_rd h 248 ((l5).toNat)), sy_i (sy_rd h 248 0)]) (rest := []) mj_d_178_145 rfl rfl rfl rfl hH rfl rfl ⟨by decide, ⟨Nat.le_of_ble_eq_true rfl, Nat.le_of_ble_eq_true rfl, Nat.le_of_ble_eq_true rfl, Nat.le_of_ble_eq_true rfl, Nat.le_of_ble_eq_true rfl⟩⟩ (dt_R_canGive (a1 := (sy_rd h 248 ((l5).toNat))) (a2 := (sy_rd h 248 0)) hH (by omega) (by omega) (by omega) (by omega)) ?_
            rintro _ _ ⟨rfl, rfl, b9, b9t⟩
            show sy_wp (mj_m_178, 148, [(0, .ref 234), (2, sy_i l2), (4, sy_i l4), (5, sy_i l5), (6, sy_i l6)], [sy_i (dc_R_canGive (sy_rd h) (sy_rd h 248 ((l5).toNat)) (sy_rd h 248 0))], h) _
            refine sy_ifc mj_d_178_148 rfl ⟨by omega, by omega⟩ (fun (c10 : (dc_R_canGive (sy_rd h) (sy_rd h 248 ((l5).toNat)) (sy_rd h 248 0)) = 0) => ?_) (fun (c10 : ¬ ((dc_R_canGive (sy_rd h) (sy_rd h 248 ((l5).toNat)) (sy_rd h 248 0)) = 0)) => ?_)
            · skip
              rw [if_pos c10]
              refine sy_st (S' := (mj_m_178, 156, [(0, .ref 234), (2, sy_i l2), (4, sy_i l4), (5, sy_i l5), (6, sy_i l6)], [sy_i 0], h)) mj_d_178_155 (fun _ _ => rfl) ?_
              refine sy_st (S' := (mj_m_178, 158, [(4, sy_i 0), (0, .ref 234), (2, sy_i l2), (5, sy_i l5), (6, sy_i l6)], [], h)) mj_d_178_156 (fun _ _ => rfl) ?_
              refine sy_inc (a := l5) (lv' := [(5, sy_i (l5 + 1)), (4, sy_i 0), (0, .ref 234), (2, sy_i l2), (6, sy_i l6)]) mj_d_178_158 (Nat.le_of_ble_eq_true rfl) rfl rfl ?_
              refine sy_st (S' := (mj_m_178, 44, [(5, sy_i (l5 + 1)), (4, sy_i 0), (0, .ref 234), (2, sy_i l2), (6, sy_i l6)], [], h)) mj_d_178_161 (fun _ _ => rfl) ?_
              refine sy_lv (lv := [(0, .ref 234), (2, sy_i l2), (4, sy_i 0), (5, sy_i (l5 + 1))]) rfl ⟨rfl, rfl, rfl, rfl, trivial⟩ ?_
              exact hk44 hH (by first | omega | assumption) (by first | omega | assumption) (by first | omega | assumption) (by first | omega | assumption) (by first | omega | assumption) (by first | omega | assumption) (by first | omega | assumption) (by omega)
            · skip
              rw [if_neg c10]
              refine sy_st (S' := (mj_m_178, 152, [(0, .ref 234), (2, sy_i l2), (4, sy_i l4), (5, sy_i l5), (6, sy_i l6)], [sy_i 1], h)) mj_d_178_151 (fun _ _ => rfl) ?_
              refine sy_st (S' := (mj_m_178, 156, [(0, .ref 234), (2, sy_i l2), (4, sy_i l4), (5, sy_i l5), (6, sy_i l6)], [sy_i 1], h)) mj_d_178_152 (fun _ _ => rfl) ?_
              refine sy_st (S' := (mj_m_178, 158, [(4, sy_i 1), (0, .ref 234), (2, sy_i l2), (5, sy_i l5), (6, sy_i l6)], [], h)) mj_d_178_156 (fun _ _ => rfl) ?_
              refine sy_inc (a := l5) (lv' := [(5, sy_i (l5 + 1)), (4, sy_i 1), (0, .ref 234), (2, sy_i l2), (6, sy_i l6)]) mj_d_178_158 (Nat.le_of_ble_eq_true rfl) rfl rfl ?_
              refine sy_st (S' := (mj_m_178, 44, [(5, sy_i (l5 + 1)), (4, sy_i 1), (0, .ref 234), (2, sy_i l2), (6, sy_i l6)], [], h)) mj_d_178_161 (fun _ _ => rfl) ?_
              refine sy_lv (lv := [(0, .ref 234), (2, sy_i l2), (4, sy_i 1), (5, sy_i (l5 + 1))]) rfl ⟨rfl, rfl, rfl, rfl, trivial⟩ ?_
              exact hk44 hH (by first | omega | assumption) (by first | omega | assumption) (by first | omega | assumption) (by first | omega | assumption) (by first | omega | assumption) (by first | omega | assumption) (by first | omega | assumption) (by omega)
          · skip
            rw [if_neg c7]
            refine sy_st (S' := (mj_m_178, 138, [(0, .ref 234), (2, sy_i l2), (4, sy_i l4), (5, sy_i l5), (6, sy_i l6)], [sy_i l5, .ref 248, sy_i (sy_rd h 248 ((l5).toNat)), .ref 234], h)) mj_d_178_136 (fun _ _ => rfl) ?_
            refine sy_st (S' := (mj_m_178, 139, [(0, .ref 234), (2, sy_i l2), (4, sy_i l4), (5, sy_i l5), (6, sy_i l6)], [sy_i 1, sy_i l5, .ref 248, sy_i (sy_rd h 248 ((l5).toNat)), .ref 234], h)) mj_d_178_138 (fun _ _ => rfl) ?_
            refine sy_add mj_d_178_139 ?_
            refine sy_st (S' := (mj_m_178, 144, [(0, .ref 234), (2, sy_i l2), (4, sy_i l4), (5, sy_i l5), (6, sy_i l6)], [sy_i (l5 + 1), .ref 248, sy_i (sy_rd h 248 ((l5).toNat)), .ref 234], h)) mj_d_178_140 (fun _ _ => rfl) ?_
            refine sy_ia mj_d_178_144 rfl (by decide) (by omega) (by omega) (ab_el_1 rfl _) hH ?_
            rintro _ rfl bx11 tx11
            refine sy_cv (M' := mj_m_179) (vs := [.ref 234, sy_i (sy_rd h 248 ((l5).toNat)), sy_i (sy_rd h 248 ((l5 + 1).toNat))]) (rest := []) mj_d_178_145 rfl rfl rfl rfl hH rfl rfl ⟨by decide, ⟨Nat.le_of_ble_eq_true rfl, Nat.le_of_ble_eq_true rfl, Nat.le_of_ble_eq_true rfl, Nat.le_of_ble_eq_true rfl, Nat.le_of_ble_eq_true rfl⟩⟩ (dt_R_canGive (a1 := (sy_rd h 248 ((l5).toNat))) (a2 := (sy_rd h 248 ((l5 + 1).toNat))) hH (by omega) (by omega) (by omega) (by omega)) ?_
            rintro _ _ ⟨rfl, rfl, b12, b12t⟩
            show sy_wp (mj_m_178, 148, [(0, .ref 234), (2, sy_i l2), (4, sy_i l4), (5, sy_i l5), (6, sy_i l6)], [sy_i (dc_R_canGive (sy_rd h) (sy_rd h 248 ((l5).toNat)) (sy_rd h 248 ((l5 + 1).toNat)))], h) _
            refine sy_ifc mj_d_178_148 rfl ⟨by omega, by omega⟩ (fun (c13 : (dc_R_canGive (sy_rd h) (sy_rd h 248 ((l5).toNat)) (sy_rd h 248 ((l5 + 1).toNat))) = 0) => ?_) (fun (c13 : ¬ ((dc_R_canGive (sy_rd h) (sy_rd h 248 ((l5).toNat)) (sy_rd h 248 ((l5 + 1).toNat))) = 0)) => ?_)
            · skip
              rw [if_pos c13]
              refine sy_st (S' := (mj_m_178, 156, [(0, .ref 234), (2, sy_i l2), (4, sy_i l4), (5, sy_i l5), (6, sy_i l6)], [sy_i 0], h)) mj_d_178_155 (fun _ _ => rfl) ?_
              refine sy_st (S' := (mj_m_178, 158, [(4, sy_i 0), (0, .ref 234), (2, sy_i l2), (5, sy_i l5), (6, sy_i l6)], [], h)) mj_d_178_156 (fun _ _ => rfl) ?_
              refine sy_inc (a := l5) (lv' := [(5, sy_i (l5 + 1)), (4, sy_i 0), (0, .ref 234), (2, sy_i l2), (6, sy_i l6)]) mj_d_178_158 (Nat.le_of_ble_eq_true rfl) rfl rfl ?_
              refine sy_st (S' := (mj_m_178, 44, [(5, sy_i (l5 + 1)), (4, sy_i 0), (0, .ref 234), (2, sy_i l2), (6, sy_i l6)], [], h)) mj_d_178_161 (fun _ _ => rfl) ?_
              refine sy_lv (lv := [(0, .ref 234), (2, sy_i l2), (4, sy_i 0), (5, sy_i (l5 + 1))]) rfl ⟨rfl, rfl, rfl, rfl, trivial⟩ ?_
              exact hk44 hH (by first | omega | assumption) (by first | omega | assumption) (by first | omega | assumption) (by first | omega | assumption) (by first | omega | assumption) (by first | omega | assumption) (by first | omega | assumption) (by omega)
            · skip
              rw [if_neg c13]
              refine sy_st (S' := (mj_m_178, 152, [(0, .ref 234), (2, sy_i l2), (4, sy_i l4), (5, sy_i l5), (6, sy_i l6)], [sy_i 1], h)) mj_d_178_151 (fun _ _ => rfl) ?_
              refine sy_st (S' := (mj_m_178, 156, [(0, .ref 234), (2, sy_i l2), (4, sy_i l4), (5, sy_i l5), (6, sy_i l6)], [sy_i 1], h)) mj_d_178_152 (fun _ _ => rfl) ?_
              refine sy_st (S' := (mj_m_178, 158, [(4, sy_i 1), (0, .ref 234), (2, sy_i l2), (5, sy_i l5), (6, sy_i l6)], [], h)) mj_d_178_156 (fun _ _ => rfl) ?_
              refine sy_inc (a := l5) (lv' := [(5, sy_i (l5 + 1)), (4, sy_i 1), (0, .ref 234), (2, sy_i l2), (6, sy_i l6)]) mj_d_178_158 (Nat.le_of_ble_eq_true rfl) rfl rfl ?_
              refine sy_st (S' := (mj_m_178, 44, [(5, sy_i (l5 + 1)), (4, sy_i 1), (0, .ref 234), (2, sy_i l2), (6, sy_i l6)], [], h)) mj_d_178_161 (fun _ _ => rfl) ?_
              refine sy_lv (lv := [(0, .ref 234), (2, sy_i l2), (4, sy_i 1), (5, sy_i (l5 + 1))]) rfl ⟨rfl, rfl, rfl, rfl, trivial⟩ ?_
              exact hk44 hH (by first | omega | assumption) (by first | omega | assumption) (by first | omega | assumption) (by first | omega | assumption) (by first | omega | assumption) (by first | omega | assumption) (by first | omega | assumption) (by omega)
    · skip
      rw [if_neg c1]
      refine sy_st (S' := (mj_m_178, 62, [(0, .ref 234), (2, sy_i l2), (4, sy_i l4), (5, sy_i l5), (6, sy_i l6)], [sy_i l4], h)) mj_d_178_60 (fun _ _ => rfl) ?_
      refine sy_ifc mj_d_178_62 rfl ⟨by omega, by omega⟩ (fun (c14 : l4 = 0) => ?_) (fun (c14 : ¬ (l4 = 0)) => ?_)
      · skip
        rw [if_pos c14]
        refine sy_st (S' := (mj_m_178, 87, [(0, .ref 234), (2, sy_i l2), (4, sy_i l4), (5, sy_i l5), (6, sy_i l6)], [sy_i 0], h)) mj_d_178_86 (fun _ _ => rfl) ?_
        refine sy_st (S' := (mj_m_178, 89, [(4, sy_i 0), (0, .ref 234), (2, sy_i l2), (5, sy_i l5), (6, sy_i l6)], [], h)) mj_d_178_87 (fun _ _ => rfl) ?_
        refine sy_inc (a := l6) (lv' := [(6, sy_i (l6 + 1)), (4, sy_i 0), (0, .ref 234), (2, sy_i l2), (5, sy_i l5)]) mj_d_178_89 (Nat.le_of_ble_eq_true rfl) rfl rfl ?_
        refine sy_st (S' := (mj_m_178, 53, [(6, sy_i (l6 + 1)), (4, sy_i 0), (0, .ref 234), (2, sy_i l2), (5, sy_i l5)], [], h)) mj_d_178_92 (fun _ _ => rfl) ?_
        refine sy_lv (lv := [(0, .ref 234), (2, sy_i l2), (4, sy_i 0), (5, sy_i l5), (6, sy_i (l6 + 1))]) rfl ⟨rfl, rfl, rfl, rfl, rfl, trivial⟩ ?_
        exact ih hH (by first | omega | assumption) (by first | omega | assumption) (by first | omega | assumption) (by first | omega | assumption) (by first | omega | assumption) (by first | omega | assumption) (by first | omega | assumption) (by first | omega | assumption) (by first | omega | assumption) (by first | omega | assumption) (by first | omega | assumption) (by omega)
      · skip
        rw [if_neg c14]
        refine sy_st (S' := (mj_m_178, 66, [(0, .ref 234), (2, sy_i l2), (4, sy_i l4), (5, sy_i l5), (6, sy_i l6)], [.ref 234], h)) mj_d_178_65 (fun _ _ => rfl) ?_
        refine sy_gr2 (b := 248) mj_d_178_66 rfl rfl (by decide) rfl rfl hH ?_
        refine sy_st (S' := (mj_m_178, 71, [(0, .ref 234), (2, sy_i l2), (4, sy_i l4), (5, sy_i l5), (6, sy_i l6)], [sy_i l6, .ref 248], h)) mj_d_178_69 (fun _ _ => rfl) ?_
        refine sy_ia mj_d_178_71 rfl (by decide) (by omega) (by omega) (ab_el_1 rfl _) hH ?_
        rintro _ rfl bx15 tx15
        refine sy_st (S' := (mj_m_178, 73, [(0, .ref 234), (2, sy_i l2), (4, sy_i l4), (5, sy_i l5), (6, sy_i l6)], [.ref 234, sy_i (sy_rd h 248 ((l6).toNat))], h)) mj_d_178_72 (fun _ _ => rfl) ?_
        refine sy_gr2 (b := 248) mj_d_178_73 rfl rfl (by decide) rfl rfl hH ?_
        refine sy_st (S' := (mj_m_178, 78, [(0, .ref 234), (2, sy_i l2), (4, sy_i l4), (5, sy_i l5), (6, sy_i l6)], [sy_i l5, .ref 248, sy_i (sy_rd h 248 ((l6).toNat))], h)) mj_d_178_76 (fun _ _ => rfl) ?_
        refine sy_ia mj_d_178_78 rfl (by decide) (by omega) (by omega) (ab_el_1 rfl _) hH ?_
        rintro _ rfl bx16 tx16
        refine sy_icm mj_d_178_79 rfl ⟨by omega, by omega⟩ ⟨by omega, by omega⟩ (fun (c17 : (sy_rd h 248 ((l6).toNat)) = (sy_rd h 248 ((l5).toNat))) => ?_) (fun (c17 : ¬ ((sy_rd h 248 ((l6).toNat)) = (sy_rd h 248 ((l5).toNat)))) => ?_)
        · skip
          rw [if_pos c17]
          refine sy_st (S' := (mj_m_178, 87, [(0, .ref 234), (2, sy_i l2), (4, sy_i l4), (5, sy_i l5), (6, sy_i l6)], [sy_i 0], h)) mj_d_178_86 (fun _ _ => rfl) ?_
          refine sy_st (S' := (mj_m_178, 89, [(4, sy_i 0), (0, .ref 234), (2, sy_i l2), (5, sy_i l5), (6, sy_i l6)], [], h)) mj_d_178_87 (fun _ _ => rfl) ?_
          refine sy_inc (a := l6) (lv' := [(6, sy_i (l6 + 1)), (4, sy_i 0), (0, .ref 234), (2, sy_i l2), (5, sy_i l5)]) mj_d_178_89 (Nat.le_of_ble_eq_true rfl) rfl rfl ?_
          refine sy_st (S' := (mj_m_178, 53, [(6, sy_i (l6 + 1)), (4, sy_i 0), (0, .ref 234), (2, sy_i l2), (5, sy_i l5)], [], h)) mj_d_178_92 (fun _ _ => rfl) ?_
          refine sy_lv (lv := [(0, .ref 234), (2, sy_i l2), (4, sy_i 0), (5, sy_i l5), (6, sy_i (l6 + 1))]) rfl ⟨rfl, rfl, rfl, rfl, rfl, trivial⟩ ?_
          exact ih hH (by first | omega | assumption) (by first | omega | assumption) (by first | omega | assumption) (by first | omega | assumption) (by first | omega | assumption) (by first | omega | assumption) (by first | omega | assumption) (by first | omega | assumption) (by first | omega | assumption) (by first | omega | assumption) (by first | omega | assumption) (by omega)
        · skip
          rw [if_neg c17]
          refine sy_st (S' := (mj_m_178, 83, [(0, .ref 234), (2, sy_i l2), (4, sy_i l4), (5, sy_i l5), (6, sy_i l6)], [sy_i 1], h)) mj_d_178_82 (fun _ _ => rfl) ?_
          refine sy_st (S' := (mj_m_178, 87, [(0, .ref 234), (2, sy_i l2), (4, sy_i l4), (5, sy_i l5), (6, sy_i l6)], [sy_i 1], h)) mj_d_178_83 (fun _ _ => rfl) ?_
          refine sy_st (S' := (mj_m_178, 89, [(4, sy_i 1), (0, .ref 234), (2, sy_i l2), (5, sy_i l5), (6, sy_i l6)], [], h)) mj_d_178_87 (fun _ _ => rfl) ?_
          refine sy_inc (a := l6) (lv' := [(6, sy_i (l6 + 1)), (4, sy_i 1), (0, .ref 234), (2, sy_i l2), (5, sy_i l5)]) mj_d_178_89 (Nat.le_of_ble_eq_true rfl) rfl rfl ?_
          refine sy_st (S' := (mj_m_178, 53, [(6, sy_i (l6 + 1)), (4, sy_i 1), (0, .ref 234), (2, sy_i l2), (5, sy_i l5)], [], h)) mj_d_178_92 (fun _ _ => rfl) ?_
          refine sy_lv (lv := [(0, .ref 234), (2, sy_i l2), (4, sy_i 1), (5, sy_i l5), (6, sy_i (l6 + 1))]) rfl ⟨rfl, rfl, rfl, rfl, rfl, trivial⟩ ?_
          exact ih hH (by first | omega | assumption) (by first | omega | assumption) (by first | omega | assumption) (by first | omega | assumption) (by first | omega | assumption) (by first | omega | assumption) (by first | omega | assumption) (by first | omega | assumption) (by first | omega | assumption) (by first | omega | assumption) (by first | omega | assumption) (by omega)
set_option maxRecDepth 100000 in
theorem dt_R_isRing_44 : ∀ (n : Nat) {h : mj_H} (hH : sy_H h) {l2 l4 l5 : Int} (b_l2 : 2 ≤ l2) (t_l2 : l2 ≤ 5) (b_l4 : 0 ≤ l4) (t_l4 : l4 ≤ 1) (b_l5 : 0 ≤ l5) (t_l5 : l5 ≤ 5) (i0 : l5 ≤ l2) (hm : 5 - l5 < (n : Int)), sy_wp (mj_m_178, 44, [(0, .ref 234), (2, sy_i l2), (4, sy_i l4), (5, sy_i l5)], [], h) (dq2 (0) (1) (dc_R_isRing_44 n (sy_rd h) l2 l4 l5)) := by
  intro n
  induction n with
  | zero =>
    intro h hH l2 l4 l5 b_l2 t_l2 b_l4 t_l4 b_l5 t_l5 i0 hm
    exact absurd hm (by omega)
  | succ n ih =>
    intro h hH l2 l4 l5 b_l2 t_l2 b_l4 t_l4 b_l5 t_l5 i0 hm
    rw [dc_R_isRing_44_s]
    refine sy_st (S' := (mj_m_178, 46, [(0, .ref 234), (2, sy_i l2), (4, sy_i l4), (5, sy_i l5)], [sy_i l5], h)) mj_d_178_44 (fun _ _ => rfl) ?_
    refine sy_st (S' := (mj_m_178, 47, [(0, .ref 234), (2, sy_i l2), (4, sy_i l4), (5, sy_i l5)], [sy_i l2, sy_i l5], h)) mj_d_178_46 (fun _ _ => rfl) ?_
    refine sy_icm mj_d_178_47 rfl ⟨by omega, by omega⟩ ⟨by omega, by omega⟩ (fun (c1 : l2 ≤ l5) => ?_) (fun (c1 : ¬ (l2 ≤ l5)) => ?_)
    · skip
      rw [if_pos c1]
      refine sy_st (S' := (mj_m_178, 166, [(0, .ref 234), (2, sy_i l2), (4, sy_i l4), (5, sy_i l5)], [sy_i l4], h)) mj_d_178_164 (fun _ _ => rfl) ?_
      exact sy_retb mj_d_178_166 rfl ⟨by omega, by omega⟩ ⟨hH, rfl, rfl, by omega, by omega⟩
    · skip
      rw [if_neg c1]
      refine sy_st (S' := (mj_m_178, 51, [(0, .ref 234), (2, sy_i l2), (4, sy_i l4), (5, sy_i l5)], [sy_i 0], h)) mj_d_178_50 (fun _ _ => rfl) ?_
      refine sy_st (S' := (mj_m_178, 53, [(6, sy_i 0), (0, .ref 234), (2, sy_i l2), (4, sy_i l4), (5, sy_i l5)], [], h)) mj_d_178_51 (fun _ _ => rfl) ?_
      refine sy_lv (lv := [(0, .ref 234), (2, sy_i l2), (4, sy_i l4), (5, sy_i l5), (6, sy_i 0)]) rfl ⟨rfl, rfl, rfl, rfl, rfl, trivial⟩ ?_
      exact dt_R_isRing_53 @ih 6 hH (by first | omega | assumption) (by first | omega | assumption) (by first | omega | assumption) (by first | omega | assumption) (by first | omega | assumption) (by first | omega | assumption) (by first | omega | assumption) (by first | omega | assumption) (by first | omega | assumption) (by first | omega | assumption) (by first | omega | assumption) (by omega)
set_option maxRecDepth 100000 in
theorem dt_R_isRing_7 : ∀ (n : Nat) {h : mj_H} (hH : sy_H h) {l2 l3 l4 : Int} (b_l2 : 2 ≤ l2) (t_l2 : l2 ≤ 5) (b_l3 : 0 ≤ l3) (t_l3 : l3 ≤ 3125) (b_l4 : (-1) ≤ l4) (t_l4 : l4 ≤ 4) (i0 : 2 ≤ (sy_rd h 234 7)) (hm : l4 + 1 < (n : Int)), sy_wp (mj_m_178, 7, [(0, .ref 234), (2, sy_i l2), (3, sy_i l3), (4, sy_i l4)], [], h) (dq2 (0) (1) (dc_R_isRing_7 n (sy_rd h) l2 l3 l4)) := by
  intro n
  induction n with
  | zero =>
    intro h hH l2 l3 l4 b_l2 t_l2 b_l3 t_l3 b_l4 t_l4 i0 hm
    have n234_7 := hH.bd (a := 234) (k := 7) rfl (by decide) rfl
    exact absurd hm (by omega)
  | succ n ih =>
    intro h hH l2 l3 l4 b_l2 t_l2 b_l3 t_l3 b_l4 t_l4 i0 hm
    rw [dc_R_isRing_7_s]
    have n234_7 := hH.bd (a := 234) (k := 7) rfl (by decide) rfl
    refine sy_st (S' := (mj_m_178, 9, [(0, .ref 234), (2, sy_i l2), (3, sy_i l3), (4, sy_i l4)], [sy_i l4], h)) mj_d_178_7 (fun _ _ => rfl) ?_
    refine sy_ifc mj_d_178_9 rfl ⟨by omega, by omega⟩ (fun (c1 : l4 < 0) => ?_) (fun (c1 : ¬ (l4 < 0)) => ?_)
    · skip
      rw [if_pos c1]
      refine sy_st (S' := (mj_m_178, 39, [(0, .ref 234), (2, sy_i l2), (3, sy_i l3), (4, sy_i l4)], [sy_i 1], h)) mj_d_178_38 (fun _ _ => rfl) ?_
      refine sy_st (S' := (mj_m_178, 41, [(4, sy_i 1), (0, .ref 234), (2, sy_i l2), (3, sy_i l3)], [], h)) mj_d_178_39 (fun _ _ => rfl) ?_
      refine sy_st (S' := (mj_m_178, 42, [(4, sy_i 1), (0, .ref 234), (2, sy_i l2), (3, sy_i l3)], [sy_i 0], h)) mj_d_178_41 (fun _ _ => rfl) ?_
      refine sy_st (S' := (mj_m_178, 44, [(5, sy_i 0), (4, sy_i 1), (0, .ref 234), (2, sy_i l2), (3, sy_i l3)], [], h)) mj_d_178_42 (fun _ _ => rfl) ?_
      refine sy_lv (lv := [(0, .ref 234), (2, sy_i l2), (4, sy_i 1), (5, sy_i 0)]) rfl ⟨rfl, rfl, rfl, rfl, trivial⟩ ?_
      exact dt_R_isRing_44 6 hH (by first | omega | assumption) (by first | omega | assumption) (by first | omega | assumption) (by first | omega | assumption) (by first | omega | assumption) (by first | omega | assumption) (by first | omega | assumption) (by omega)
    · skip
      rw [if_neg c1]
      refine sy_st (S' := (mj_m_178, 13, [(0, .ref 234), (2, sy_i l2), (3, sy_i l3), (4, sy_i l4)], [.ref 234], h)) mj_d_178_12 (fun _ _ => rfl) ?_
      refine sy_gr2 (b := 248) mj_d_178_13 rfl rfl (by decide) rfl rfl hH ?_
      refine sy_st (S' := (mj_m_178, 18, [(0, .ref 234), (2, sy_i l2), (3, sy_i l3), (4, sy_i l4)], [sy_i l4, .ref 248], h)) mj_d_178_16 (fun _ _ => rfl) ?_
      refine sy_st (S' := (mj_m_178, 19, [(0, .ref 234), (2, sy_i l2), (3, sy_i l3), (4, sy_i l4)], [sy_i l3, sy_i l4, .ref 248], h)) mj_d_178_18 (fun _ _ => rfl) ?_
      refine sy_st (S' := (mj_m_178, 20, [(0, .ref 234), (2, sy_i l2), (3, sy_i l3), (4, sy_i l4)], [.ref 234, sy_i l3, sy_i l4, .ref 248], h)) mj_d_178_19 (fun _ _ => rfl) ?_
      refine sy_gf mj_d_178_20 rfl rfl (by decide) rfl hH ?_
      intro x2 ex2 bx2 tx2
      replace ex2 : x2 = sy_rd h 234 7 := ex2
      subst ex2
      refine sy_rem mj_d_178_23 ⟨by omega, by omega⟩ ⟨by omega, by omega⟩ ?_
      have q3 := sg_rem_f l3 (sy_rd h 234 7)
      refine sg_ias (v := (l3 % (sy_rd h 234 7))) mj_d_178_24 rfl (by decide) (by omega) (by omega) (ab_el_1 rfl _) hH (by omega) (by omega) ⟨by omega, by omega⟩ ?_
      intro h4 th4 eh4
      refine sy_st (S' := (mj_m_178, 26, [(0, .ref 234), (2, sy_i l2), (3, sy_i l3), (4, sy_i l4)], [sy_i l3], h4)) mj_d_178_25 (fun _ _ => rfl) ?_
      refine sy_st (S' := (mj_m_178, 27, [(0, .ref 234), (2, sy_i l2), (3, sy_i l3), (4, sy_i l4)], [.ref 234, sy_i l3], h4)) mj_d_178_26 (fun _ _ => rfl) ?_
      refine sy_gf mj_d_178_27 rfl rfl (by decide) rfl th4 ?_
      intro x5 ex5 bx5 tx5
      replace ex5 : x5 = sy_rd h4 234 7 := ex5
      rw [eh4, sg_na (by decide)] at ex5
      subst ex5
      refine sy_div mj_d_178_30 ⟨by omega, by omega⟩ ⟨by omega, by omega⟩ ?_
      have q6 := sg_div_f l3 (sy_rd h 234 7)
      refine sy_st (S' := (mj_m_178, 32, [(3, sy_i (l3 / (sy_rd h 234 7))), (0, .ref 234), (2, sy_i l2), (4, sy_i l4)], [], h4)) mj_d_178_31 (fun _ _ => rfl) ?_
      refine sy_inc (a := l4) (lv' := [(4, sy_i (l4 + (-1))), (3, sy_i (l3 / (sy_rd h 234 7))), (0, .ref 234), (2, sy_i l2)]) mj_d_178_32 (Nat.le_of_ble_eq_true rfl) rfl rfl ?_
      refine sy_st (S' := (mj_m_178, 7, [(4, sy_i (l4 + (-1))), (3, sy_i (l3 / (sy_rd h 234 7))), (0, .ref 234), (2, sy_i l2)], [], h4)) mj_d_178_35 (fun _ _ => rfl) ?_
      refine sy_lv (lv := [(0, .ref 234), (2, sy_i l2), (3, sy_i (l3 / (sy_rd h 234 7))), (4, sy_i (l4 + (-1)))]) rfl ⟨rfl, rfl, rfl, rfl, trivial⟩ ?_
      rw [← eh4]
      exact ih th4 (by first | omega | assumption) (by first | omega | assumption) (by first | omega | assumption) (by first | omega | assumption) (by first | omega | assumption) (by first | omega | assumption) (by rw [eh4, sg_na (by decide)]; exact i0) (by omega)
set_option maxRecDepth 100000 in
theorem dt_R_isRing {h : mj_H} (hH : sy_H h) {a1 a2 : Int} (b_a1 : 0 ≤ a1) (t_a1 : a1 ≤ 3124) (b_a2 : 2 ≤ a2) (t_a2 : a2 ≤ 5) (i0 : 2 ≤ (sy_rd h 234 7)) : sy_wp (mj_m_178, 0, [(0, .ref 234), (1, sy_i a1), (2, sy_i a2)], [], h) (dq2 (0) (1) (dc_R_isRing (sy_rd h) a1 a2)) := by
  unfold dc_R_isRing
  refine sy_st (S' := (mj_m_178, 1, [(0, .ref 234), (1, sy_i a1), (2, sy_i a2)], [sy_i a1], h)) mj_d_178_0 (fun _ _ => rfl) ?_
  refine sy_st (S' := (mj_m_178, 2, [(3, sy_i a1), (0, .ref 234), (1, sy_i a1), (2, sy_i a2)], [], h)) mj_d_178_1 (fun _ _ => rfl) ?_
  refine sy_st (S' := (mj_m_178, 3, [(3, sy_i a1), (0, .ref 234), (1, sy_i a1), (2, sy_i a2)], [sy_i a2], h)) mj_d_178_2 (fun _ _ => rfl) ?_
  refine sy_st (S' := (mj_m_178, 4, [(3, sy_i a1), (0, .ref 234), (1, sy_i a1), (2, sy_i a2)], [sy_i 1, sy_i a2], h)) mj_d_178_3 (fun _ _ => rfl) ?_
  refine sy_sub mj_d_178_4 ?_
  refine sy_st (S' := (mj_m_178, 7, [(4, sy_i (a2 - 1)), (3, sy_i a1), (0, .ref 234), (1, sy_i a1), (2, sy_i a2)], [], h)) mj_d_178_5 (fun _ _ => rfl) ?_
  refine sy_lv (lv := [(0, .ref 234), (2, sy_i a2), (3, sy_i a1), (4, sy_i (a2 - 1))]) rfl ⟨rfl, rfl, rfl, rfl, trivial⟩ ?_
  exact dt_R_isRing_7 6 hH (by first | omega | assumption) (by first | omega | assumption) (by first | omega | assumption) (by first | omega | assumption) (by first | omega | assumption) (by first | omega | assumption) (by first | omega | assumption) (by omega)
def dc_R_ring_25 (k7 : sg_S → Int → Int → Int → sg_S × Int) (n : Nat) : sg_S → Int → Int → Int → Int → sg_S × Int := Nat.rec (fun (s : sg_S) l1 l2 l3 l4 => (s, 0)) (fun _ ih => fun s l1 l2 l3 l4 => (if l2 ≤ l4 then (k7 s l1 l2 (l3 + 1)) else (if ((dc_R_isRing s l4 l3).2) = 0 then (ih (dc_R_isRing s l4 l3).1 l1 l2 l3 (l4 + 1)) else (if l1 = (-1) then ((dc_R_isRing s l4 l3).1, l3) else (if (dc_R_in (dc_R_isRing s l4 l3).1 l1 0 (l3 - 1)) = 0 then ((dc_R_isRing s l4 l3).1, (-1)) else ((dc_R_isRing s l4 l3).1, ((dc_R_isRing s l4 l3).1 248 ((l1).toNat)))))))) n
theorem dc_R_ring_25_s (k7 : sg_S → Int → Int → Int → sg_S × Int) (n : Nat) (s : sg_S) (l1 l2 l3 l4 : Int) : dc_R_ring_25 k7 (n + 1) s l1 l2 l3 l4 = (if l2 ≤ l4 then (k7 s l1 l2 (l3 + 1)) else (if ((dc_R_isRing s l4 l3).2) = 0 then ((dc_R_ring_25 k7 n) (dc_R_isRing s l4 l3).1 l1 l2 l3 (l4 + 1)) else (if l1 = (-1) then ((dc_R_isRing s l4 l3).1, l3) else (if (dc_R_in (dc_R_isRing s l4 l3).1 l1 0 (l3 - 1)) = 0 then ((dc_R_isRing s l4 l3).1, (-1)) else ((dc_R_isRing s l4 l3).1, ((dc_R_isRing s l4 l3).1 248 ((l1).toNat))))))) := rfl
def dc_R_ring_7 (n : Nat) : sg_S → Int → Int → Int → sg_S × Int := Nat.rec (fun (s : sg_S) l1 l2 l3 => (s, 0)) (fun _ ih => fun s l1 l2 l3 => (if (s 234 7) < l3 then (s, (-1)) else (dc_R_ring_25 ih 3126 s l1 (l2 * (s 234 7)) l3 0))) n
theorem dc_R_ring_7_s (n : Nat) (s : sg_S) (l1 l2 l3 : Int) : dc_R_ring_7 (n + 1) s l1 l2 l3 = (if (s 234 7) < l3 then (s, (-1)) else (dc_R_ring_25 (dc_R_ring_7 n) 3126 s l1 (l2 * (s 234 7)) l3 0)) := rfl
def dc_R_ring (s : sg_S) (a1 : Int) : sg_S × Int := (dc_R_ring_7 6 s a1 (s 234 7) 2)
def dw_R_ring (a k : Nat) : Bool := dw_R_isRing a k
theorem dr_R_ring_25 (a k : Nat) (h : dw_R_ring a k = false) {k7 : sg_S → Int → Int → Int → sg_S × Int} (hk7 : ∀ s y0 y1 y2, (k7 s y0 y1 y2).1 a k = s a k) : ∀ (n : Nat) (s : sg_S) (l1 l2 l3 l4 : Int), (dc_R_ring_25 k7 n s l1 l2 l3 l4).1 a k = s a k := by
  have h0 := h
  unfold dw_R_ring at h
  have h1 := h
  intro n
  induction n with
  | zero => intro s l1 l2 l3 l4; rfl
  | succ n ih =>
    intro s l1 l2 l3 l4
    rw [dc_R_ring_25_s]
    (repeat' split) <;> simp only [(fun s x0 x1 => dr_R_isRing s x0 x1 a k h1), ih, hk7]
theorem dr_R_ring_7 (a k : Nat) (h : dw_R_ring a k = false) : ∀ (n : Nat) (s : sg_S) (l1 l2 l3 : Int), (dc_R_ring_7 n s l1 l2 l3).1 a k = s a k := by
  have h0 := h
  unfold dw_R_ring at h
  have h1 := h
  intro n
  induction n with
  | zero => intro s l1 l2 l3; rfl
  | succ n ih =>
    intro s l1 l2 l3
    rw [dc_R_ring_7_s]
    (repeat' split) <;> simp only [(fun s x0 x1 => dr_R_isRing s x0 x1 a k h1), ih, (dr_R_ring_25 a k h0 ih)]
theorem dr_R_ring (s : sg_S) (a1 : Int) (a k : Nat) (h : dw_R_ring a k = false) : (dc_R_ring s a1).1 a k = s a k := by
  have h0 := h
  unfold dw_R_ring at h
  have h1 := h
  unfold dc_R_ring
  (repeat' split) <;> simp only [(fun s x0 x1 => dr_R_isRing s x0 x1 a k h1), (dr_R_ring_7 a k h0)]
set_option maxRecDepth 100000 in
theorem dt_R_ring_25 {k7 : sg_S → Int → Int → Int → sg_S × Int} {n7 : Nat} (hk7 : ∀ {h1 : mj_H}, sy_H h1 → ∀ {l1 l2 l3 : Int}, (-2147483648) ≤ l1 → l1 ≤ 2147483647 → 0 ≤ l2 → l2 ≤ 3125 → 2 ≤ l3 → l3 ≤ 6 → (l3 = 2 → l2 ≤ 5) → (l3 = 3 → l2 ≤ 25) → (l3 = 4 → l2 ≤ 125) → (l3 = 5 → l2 ≤ 625) → 6 - l3 < (n7 : Int) → sy_wp (mj_m_177, 7, [(0, .ref 234), (1, sy_i l1), (2, sy_i l2), (3, sy_i l3)], [], h1) (dq2 (-1) (5) (k7 (sy_rd h1) l1 l2 l3))) : ∀ (n : Nat) {h : mj_H} (hH : sy_H h) {l1 l2 l3 l4 : Int} (b_l1 : (-2147483648) ≤ l1) (t_l1 : l1 ≤ 2147483647) (b_l2 : 0 ≤ l2) (t_l2 : l2 ≤ 3125) (b_l3 : 2 ≤ l3) (t_l3 : l3 ≤ 5) (b_l4 : 0 ≤ l4) (t_l4 : l4 ≤ 3125) (i0 : (l3 = 2 → l2 ≤ 25)) (i1 : (l3 = 3 → l2 ≤ 125)) (i2 : (l3 = 4 → l2 ≤ 625)) (i3 : 6 - (l3 + 1) < (n7 : Int)) (i4 : l3 ≤ (sy_rd h 234 7)) (hm : 3125 - l4 < (n : Int)), sy_wp (mj_m_177, 25, [(0, .ref 234), (1, sy_i l1), (2, sy_i l2), (3, sy_i l3), (4, sy_i l4)], [], h) (dq2 (-1) (5) (dc_R_ring_25 k7 n (sy_rd h) l1 l2 l3 l4)) := by
  intro n
  induction n with
  | zero =>
    intro h hH l1 l2 l3 l4 b_l1 t_l1 b_l2 t_l2 b_l3 t_l3 b_l4 t_l4 i0 i1 i2 i3 i4 hm
    exact absurd hm (by omega)
  | succ n ih =>
    intro h hH l1 l2 l3 l4 b_l1 t_l1 b_l2 t_l2 b_l3 t_l3 b_l4 t_l4 i0 i1 i2 i3 i4 hm
    rw [dc_R_ring_25_s]
    refine sy_st (S' := (mj_m_177, 27, [(0, .ref 234), (1, sy_i l1), (2, sy_i l2), (3, sy_i l3), (4, sy_i l4)], [sy_i l4], h)) mj_d_177_25 (fun _ _ => rfl) ?_
    refine sy_st (S' := (mj_m_177, 28, [(0, .ref 234), (1, sy_i l1), (2, sy_i l2), (3, sy_i l3), (4, sy_i l4)], [sy_i l2, sy_i l4], h)) mj_d_177_27 (fun _ _ => rfl) ?_
    refine sy_icm mj_d_177_28 rfl ⟨by omega, by omega⟩ ⟨by omega, by omega⟩ (fun (c1 : l2 ≤ l4) => ?_) (fun (c1 : ¬ (l2 ≤ l4)) => ?_)
    · skip
      rw [if_pos c1]
      refine sy_inc (a := l3) (lv' := [(3, sy_i (l3 + 1)), (0, .ref 234), (1, sy_i l1), (2, sy_i l2), (4, sy_i l4)]) mj_d_177_80 (Nat.le_of_ble_eq_true rfl) rfl rfl ?_
      refine sy_st (S' := (mj_m_177, 7, [(3, sy_i (l3 + 1)), (0, .ref 234), (1, sy_i l1), (2, sy_i l2), (4, sy_i l4)], [], h)) mj_d_177_83 (fun _ _ => rfl) ?_
      refine sy_lv (lv := [(0, .ref 234), (1, sy_i l1), (2, sy_i l2), (3, sy_i (l3 + 1))]) rfl ⟨rfl, rfl, rfl, rfl, trivial⟩ ?_
      exact hk7 hH (by first | omega | assumption) (by first | omega | assumption) (by first | omega | assumption) (by first | omega | assumption) (by first | omega | assumption) (by first | omega | assumption) (by first | omega | assumption) (by first | omega | assumption) (by first | omega | assumption) (by first | omega | assumption) (by omega)
    · skip
      rw [if_neg c1]
      refine sy_st (S' := (mj_m_177, 32, [(0, .ref 234), (1, sy_i l1), (2, sy_i l2), (3, sy_i l3), (4, sy_i l4)], [.ref 234], h)) mj_d_177_31 (fun _ _ => rfl) ?_
      refine sy_st (S' := (mj_m_177, 34, [(0, .ref 234), (1, sy_i l1), (2, sy_i l2), (3, sy_i l3), (4, sy_i l4)], [sy_i l4, .ref 234], h)) mj_d_177_32 (fun _ _ => rfl) ?_
      refine sy_st (S' := (mj_m_177, 35, [(0, .ref 234), (1, sy_i l1), (2, sy_i l2), (3, sy_i l3), (4, sy_i l4)], [sy_i l3, sy_i l4, .ref 234], h)) mj_d_177_34 (fun _ _ => rfl) ?_
      refine sy_cv (M' := mj_m_178) (vs := [.ref 234, sy_i l4, sy_i l3]) (rest := []) mj_d_177_35 rfl rfl rfl rfl hH rfl rfl ⟨by decide, ⟨Nat.le_of_ble_eq_true rfl, Nat.le_of_ble_eq_true rfl, Nat.le_of_ble_eq_true rfl, Nat.le_of_ble_eq_true rfl, Nat.le_of_ble_eq_true rfl⟩⟩ (dt_R_isRing (a1 := l4) (a2 := l3) hH (by omega) (by omega) (by omega) (by omega) (by first | omega | assumption)) ?_
      rintro _ h2 ⟨th2, eh2, rfl, b3, b3t⟩
      show sy_wp (mj_m_177, 38, [(0, .ref 234), (1, sy_i l1), (2, sy_i l2), (3, sy_i l3), (4, sy_i l4)], [sy_i ((dc_R_isRing (sy_rd h) l4 l3).2)], h2) _
      refine sy_ifc mj_d_177_38 rfl ⟨by omega, by omega⟩ (fun (c4 : ((dc_R_isRing (sy_rd h) l4 l3).2) = 0) => ?_) (fun (c4 : ¬ (((dc_R_isRing (sy_rd h) l4 l3).2) = 0)) => ?_)
      · skip
        rw [if_pos c4]
        refine sy_inc (a := l4) (lv' := [(4, sy_i (l4 + 1)), (0, .ref 234), (1, sy_i l1), (2, sy_i l2), (3, sy_i l3)]) mj_d_177_74 (Nat.le_of_ble_eq_true rfl) rfl rfl ?_
        refine sy_st (S' := (mj_m_177, 25, [(4, sy_i (l4 + 1)), (0, .ref 234), (1, sy_i l1), (2, sy_i l2), (3, sy_i l3)], [], h2)) mj_d_177_77 (fun _ _ => rfl) ?_
        refine sy_lv (lv := [(0, .ref 234), (1, sy_i l1), (2, sy_i l2), (3, sy_i l3), (4, sy_i (l4 + 1))]) rfl ⟨rfl, rfl, rfl, rfl, rfl, trivial⟩ ?_
        rw [← eh2]
        exact ih th2 (by first | omega | assumption) (by first | omega | assumption) (by first | omega | assumption) (by first | omega | assumption) (by first | omega | assumption) (by first | omega | assumption) (by first | omega | assumption) (by first | omega | assumption) (by first | omega | assumption) (by first | omega | assumption) (by first | omega | assumption) (by first | omega | assumption) (by rw [eh2, dr_R_isRing _ _ _ 234 7 rfl]; exact i4) (by omega)
      · skip
        rw [if_neg c4]
        refine sy_st (S' := (mj_m_177, 42, [(0, .ref 234), (1, sy_i l1), (2, sy_i l2), (3, sy_i l3), (4, sy_i l4)], [sy_i l1], h2)) mj_d_177_41 (fun _ _ => rfl) ?_
        refine sy_st (S' := (mj_m_177, 43, [(0, .ref 234), (1, sy_i l1), (2, sy_i l2), (3, sy_i l3), (4, sy_i l4)], [sy_i (-1), sy_i l1], h2)) mj_d_177_42 (fun _ _ => rfl) ?_
        refine sy_icm mj_d_177_43 rfl ⟨by omega, by omega⟩ ⟨by omega, by omega⟩ (fun (c5 : ¬ (l1 = (-1))) => ?_) (fun (c5 : ¬ ¬ (l1 = (-1))) => ?_)
        · skip
          rw [if_neg c5]
          refine sy_st (S' := (mj_m_177, 51, [(0, .ref 234), (1, sy_i l1), (2, sy_i l2), (3, sy_i l3), (4, sy_i l4)], [sy_i l1], h2)) mj_d_177_50 (fun _ _ => rfl) ?_
          refine sy_i2l mj_d_177_51 ⟨by omega, by omega⟩ ?_
          refine sy_st (S' := (mj_m_177, 53, [(0, .ref 234), (1, sy_i l1), (2, sy_i l2), (3, sy_i l3), (4, sy_i l4)], [sy_l 0, sy_l l1], h2)) mj_d_177_52 (fun _ _ => rfl) ?_
          refine sy_st (S' := (mj_m_177, 54, [(0, .ref 234), (1, sy_i l1), (2, sy_i l2), (3, sy_i l3), (4, sy_i l4)], [sy_i l3, sy_l 0, sy_l l1], h2)) mj_d_177_53 (fun _ _ => rfl) ?_
          refine sy_st (S' := (mj_m_177, 55, [(0, .ref 234), (1, sy_i l1), (2, sy_i l2), (3, sy_i l3), (4, sy_i l4)], [sy_i 1, sy_i l3, sy_l 0, sy_l l1], h2)) mj_d_177_54 (fun _ _ => rfl) ?_
          refine sy_sub mj_d_177_55 ?_
          refine sy_i2l mj_d_177_56 ⟨by omega, by omega⟩ ?_
          refine sy_cs (M' := mj_m_126) (vs := [sy_l l1, sy_l 0, sy_l (l3 - 1)]) (rest := []) mj_d_177_57 rfl rfl rfl rfl ⟨Nat.le_of_ble_eq_true rfl, Nat.le_of_ble_eq_true rfl, Nat.le_of_ble_eq_true rfl, Nat.le_of_ble_eq_true rfl, Nat.le_of_ble_eq_true rfl⟩ (dt_R_in (a0 := l1) (a1 := 0) (a2 := (l3 - 1)) th2 (by omega) (by omega) (by omega) (by omega) (by omega) (by omega)) ?_
          rintro _ _ ⟨rfl, rfl, b6, b6t⟩
          rw [eh2] at b6 b6t ⊢
          have q7 := df_R_in_0 (dc_R_isRing (sy_rd h) l4 l3).1 l1 0 (l3 - 1)
          show sy_wp (mj_m_177, 60, [(0, .ref 234), (1, sy_i l1), (2, sy_i l2), (3, sy_i l3), (4, sy_i l4)], [sy_i (dc_R_in (dc_R_isRing (sy_rd h) l4 l3).1 l1 0 (l3 - 1))], h2) _
          refine sy_ifc mj_d_177_60 rfl ⟨by omega, by omega⟩ (fun (c8 : (dc_R_in (dc_R_isRing (sy_rd h) l4 l3).1 l1 0 (l3 - 1)) = 0) => ?_) (fun (c8 : ¬ ((dc_R_in (dc_R_isRing (sy_rd h) l4 l3).1 l1 0 (l3 - 1)) = 0)) => ?_)
          · skip
            rw [if_pos c8]
            refine sy_st (S' := (mj_m_177, 73, [(0, .ref 234), (1, sy_i l1), (2, sy_i l2), (3, sy_i l3), (4, sy_i l4)], [sy_i (-1)], h2)) mj_d_177_72 (fun _ _ => rfl) ?_
            exact sy_reti mj_d_177_73 rfl ⟨th2, eh2, rfl, by omega, by omega⟩
          · skip
            rw [if_neg c8]
            refine sy_st (S' := (mj_m_177, 64, [(0, .ref 234), (1, sy_i l1), (2, sy_i l2), (3, sy_i l3), (4, sy_i l4)], [.ref 234], h2)) mj_d_177_63 (fun _ _ => rfl) ?_
            refine sy_gr2 (b := 248) mj_d_177_64 rfl rfl (by decide) rfl rfl th2 ?_
            refine sy_st (S' := (mj_m_177, 68, [(0, .ref 234), (1, sy_i l1), (2, sy_i l2), (3, sy_i l3), (4, sy_i l4)], [sy_i l1, .ref 248], h2)) mj_d_177_67 (fun _ _ => rfl) ?_
            refine sy_ia mj_d_177_68 rfl (by decide) (by omega) (by omega) (ab_el_1 rfl _) th2 ?_
            intro x9 ex9 bx9 tx9
            rw [eh2] at ex9
            subst ex9
            refine sy_st (S' := (mj_m_177, 73, [(0, .ref 234), (1, sy_i l1), (2, sy_i l2), (3, sy_i l3), (4, sy_i l4)], [sy_i ((dc_R_isRing (sy_rd h) l4 l3).1 248 ((l1).toNat))], h2)) mj_d_177_69 (fun _ _ => rfl) ?_
            exact sy_reti mj_d_177_73 rfl ⟨th2, eh2, rfl, by omega, by omega⟩
        · skip
          rw [if_pos (Decidable.not_not.mp c5)]
          replace c5 := Decidable.not_not.mp c5
          refine sy_st (S' := (mj_m_177, 47, [(0, .ref 234), (1, sy_i l1), (2, sy_i l2), (3, sy_i l3), (4, sy_i l4)], [sy_i l3], h2)) mj_d_177_46 (fun _ _ => rfl) ?_
          refine sy_st (S' := (mj_m_177, 73, [(0, .ref 234), (1, sy_i l1), (2, sy_i l2), (3, sy_i l3), (4, sy_i l4)], [sy_i l3], h2)) mj_d_177_47 (fun _ _ => rfl) ?_
          exact sy_reti mj_d_177_73 rfl ⟨th2, eh2, rfl, by omega, by omega⟩
set_option maxRecDepth 100000 in
theorem dt_R_ring_7 : ∀ (n : Nat) {h : mj_H} (hH : sy_H h) {l1 l2 l3 : Int} (b_l1 : (-2147483648) ≤ l1) (t_l1 : l1 ≤ 2147483647) (b_l2 : 0 ≤ l2) (t_l2 : l2 ≤ 3125) (b_l3 : 2 ≤ l3) (t_l3 : l3 ≤ 6) (i0 : (l3 = 2 → l2 ≤ 5)) (i1 : (l3 = 3 → l2 ≤ 25)) (i2 : (l3 = 4 → l2 ≤ 125)) (i3 : (l3 = 5 → l2 ≤ 625)) (hm : 6 - l3 < (n : Int)), sy_wp (mj_m_177, 7, [(0, .ref 234), (1, sy_i l1), (2, sy_i l2), (3, sy_i l3)], [], h) (dq2 (-1) (5) (dc_R_ring_7 n (sy_rd h) l1 l2 l3)) := by
  intro n
  induction n with
  | zero =>
    intro h hH l1 l2 l3 b_l1 t_l1 b_l2 t_l2 b_l3 t_l3 i0 i1 i2 i3 hm
    have n234_7 := hH.bd (a := 234) (k := 7) rfl (by decide) rfl
    exact absurd hm (by omega)
  | succ n ih =>
    intro h hH l1 l2 l3 b_l1 t_l1 b_l2 t_l2 b_l3 t_l3 i0 i1 i2 i3 hm
    rw [dc_R_ring_7_s]
    have n234_7 := hH.bd (a := 234) (k := 7) rfl (by decide) rfl
    refine sy_st (S' := (mj_m_177, 8, [(0, .ref 234), (1, sy_i l1), (2, sy_i l2), (3, sy_i l3)], [sy_i l3], h)) mj_d_177_7 (fun _ _ => rfl) ?_
    refine sy_st (S' := (mj_m_177, 9, [(0, .ref 234), (1, sy_i l1), (2, sy_i l2), (3, sy_i l3)], [.ref 234, sy_i l3], h)) mj_d_177_8 (fun _ _ => rfl) ?_
    refine sy_gf mj_d_177_9 rfl rfl (by decide) rfl hH ?_
    intro x1 ex1 bx1 tx1
    replace ex1 : x1 = sy_rd h 234 7 := ex1
    subst ex1
    refine sy_icm mj_d_177_12 rfl ⟨by omega, by omega⟩ ⟨by omega, by omega⟩ (fun (c2 : (sy_rd h 234 7) < l3) => ?_) (fun (c2 : ¬ ((sy_rd h 234 7) < l3)) => ?_)
    · skip
      rw [if_pos c2]
      refine sy_st (S' := (mj_m_177, 87, [(0, .ref 234), (1, sy_i l1), (2, sy_i l2), (3, sy_i l3)], [sy_i (-1)], h)) mj_d_177_86 (fun _ _ => rfl) ?_
      exact sy_reti mj_d_177_87 rfl ⟨hH, rfl, rfl, by omega, by omega⟩
    · skip
      rw [if_neg c2]
      refine sy_st (S' := (mj_m_177, 16, [(0, .ref 234), (1, sy_i l1), (2, sy_i l2), (3, sy_i l3)], [sy_i l2], h)) mj_d_177_15 (fun _ _ => rfl) ?_
      refine sy_st (S' := (mj_m_177, 17, [(0, .ref 234), (1, sy_i l1), (2, sy_i l2), (3, sy_i l3)], [.ref 234, sy_i l2], h)) mj_d_177_16 (fun _ _ => rfl) ?_
      refine sy_gf mj_d_177_17 rfl rfl (by decide) rfl hH ?_
      intro x3 ex3 bx3 tx3
      replace ex3 : x3 = sy_rd h 234 7 := ex3
      subst ex3
      refine sy_mul mj_d_177_20 ?_
      have q4 := sg_mul_f l2 (sy_rd h 234 7)
      have m5 := sg_mul5 l2 (sy_rd h 234 7) (by omega) (by omega) (by omega)
      refine sy_st (S' := (mj_m_177, 22, [(2, sy_i (l2 * (sy_rd h 234 7))), (0, .ref 234), (1, sy_i l1), (3, sy_i l3)], [], h)) mj_d_177_21 (fun _ _ => rfl) ?_
      refine sy_st (S' := (mj_m_177, 23, [(2, sy_i (l2 * (sy_rd h 234 7))), (0, .ref 234), (1, sy_i l1), (3, sy_i l3)], [sy_i 0], h)) mj_d_177_22 (fun _ _ => rfl) ?_
      refine sy_st (S' := (mj_m_177, 25, [(4, sy_i 0), (2, sy_i (l2 * (sy_rd h 234 7))), (0, .ref 234), (1, sy_i l1), (3, sy_i l3)], [], h)) mj_d_177_23 (fun _ _ => rfl) ?_
      refine sy_lv (lv := [(0, .ref 234), (1, sy_i l1), (2, sy_i (l2 * (sy_rd h 234 7))), (3, sy_i l3), (4, sy_i 0)]) rfl ⟨rfl, rfl, rfl, rfl, rfl, trivial⟩ ?_
      exact dt_R_ring_25 @ih 3126 hH (by first | omega | assumption) (by first | omega | assumption) (by first | omega | assumption) (by first | omega | assumption) (by first | omega | assumption) (by first | omega | assumption) (by first | omega | assumption) (by first | omega | assumption) (by first | omega | assumption) (by first | omega | assumption) (by first | omega | assumption) (by first | omega | assumption) (by first | omega | assumption) (by omega)
set_option maxRecDepth 100000 in
theorem dt_R_ring {h : mj_H} (hH : sy_H h) {a1 : Int} (b_a1 : (-2147483648) ≤ a1) (t_a1 : a1 ≤ 2147483647) : sy_wp (mj_m_177, 0, [(0, .ref 234), (1, sy_i a1)], [], h) (dq2 (-1) (5) (dc_R_ring (sy_rd h) a1)) := by
  unfold dc_R_ring
  have n234_7 := hH.bd (a := 234) (k := 7) rfl (by decide) rfl
  refine sy_st (S' := (mj_m_177, 1, [(0, .ref 234), (1, sy_i a1)], [.ref 234], h)) mj_d_177_0 (fun _ _ => rfl) ?_
  refine sy_gf mj_d_177_1 rfl rfl (by decide) rfl hH ?_
  intro x1 ex1 bx1 tx1
  replace ex1 : x1 = sy_rd h 234 7 := ex1
  subst ex1
  refine sy_st (S' := (mj_m_177, 5, [(2, sy_i (sy_rd h 234 7)), (0, .ref 234), (1, sy_i a1)], [], h)) mj_d_177_4 (fun _ _ => rfl) ?_
  refine sy_st (S' := (mj_m_177, 6, [(2, sy_i (sy_rd h 234 7)), (0, .ref 234), (1, sy_i a1)], [sy_i 2], h)) mj_d_177_5 (fun _ _ => rfl) ?_
  refine sy_st (S' := (mj_m_177, 7, [(3, sy_i 2), (2, sy_i (sy_rd h 234 7)), (0, .ref 234), (1, sy_i a1)], [], h)) mj_d_177_6 (fun _ _ => rfl) ?_
  refine sy_lv (lv := [(0, .ref 234), (1, sy_i a1), (2, sy_i (sy_rd h 234 7)), (3, sy_i 2)]) rfl ⟨rfl, rfl, rfl, rfl, trivial⟩ ?_
  exact dt_R_ring_7 6 hH (by first | omega | assumption) (by first | omega | assumption) (by first | omega | assumption) (by first | omega | assumption) (by first | omega | assumption) (by first | omega | assumption) (by first | omega | assumption) (by first | omega | assumption) (by first | omega | assumption) (by first | omega | assumption) (by omega)
