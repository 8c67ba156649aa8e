/-! STREETS by place; floorMod; products -/
def sg_sts : List Nat := [13, 21, 27, 33, 39, 45, 51, 57, 63, 69, 75, 81, 87, 93, 99, 105, 111, 117, 123, 129, 135, 141, 147, 153, 159, 165, 171, 177, 183, 189, 195, 205, 211]
set_option maxRecDepth 100000 in
theorem sg_stc {a : Nat} (h : a ∈ sg_sts) : sy_cell a = some (7, 7, [(2, ((a + 1 : Nat) : Int), 0, 0), (2, ((a + 2 : Nat) : Int), 0, 0), (2, ((a + 3 : Nat) : Int), 0, 0), (2, ((a + 4 : Nat) : Int), 0, 0), (2, ((a + 5 : Nat) : Int), 0, 0), (0, -2147483648, 2147483647, 0), (0, -2147483648, 2147483647, 0)]) ∧ sy_cell (a + 1) = some (100, 9, [(0, 0, 16777215, 0)]) ∧ sy_cell (a + 2) = some (100, 9, [(0, 0, 7, 0)]) ∧ sy_cell (a + 3) = some (100, 9, [(0, -1, 8, 0)]) ∧ sy_cell (a + 4) = some (100, 5, [(0, 0, 511, 0)]) ∧ sy_cell (a + 5) = some (100, 5, [(0, -2147483648, 2147483647, 0)]) := by
  simp only [sg_sts, List.mem_cons, List.not_mem_nil, or_false] at h
  rcases h with rfl | rfl | rfl | rfl | rfl | rfl | rfl | rfl | rfl | rfl | rfl | rfl | rfl | rfl | rfl | rfl | rfl | rfl | rfl | rfl | rfl | rfl | rfl | rfl | rfl | rfl | rfl | rfl | rfl | rfl | rfl | rfl | rfl
  all_goals exact ⟨rfl, rfl, rfl, rfl, rfl, rfl⟩
theorem sg_apart : ∀ a ∈ sg_sts, ∀ b ∈ sg_sts, a = b ∨ a + 6 ≤ b ∨ b + 6 ≤ a := by decide +kernel
/-- all of Streets b into Streets a -/
def sg_copy (s : sg_S) (b a : Nat) : sg_S := fun c l => if a < c ∧ c ≤ a + 5 then s (b + (c - a)) l else if c = a ∧ (l = 5 ∨ l = 6) then s b l else s c l
theorem sg_copy_eq (s : sg_S) {a b : Nat} (ha : a ∈ sg_sts) (hb : b ∈ sg_sts) : sg_up (sg_up (sg_cp (sg_cp (sg_cp (sg_cp (sg_cp s (b + 1) (a + 1)) (b + 2) (a + 2)) (b + 3) (a + 3)) (b + 4) (a + 4)) (b + 5) (a + 5)) a 5 (s b 5)) a 6 (s b 6) = sg_copy s b a := by
  funext c l
  have := sg_apart a ha b hb
  unfold sg_copy sg_up sg_cp
  by_cases h1 : a < c ∧ c ≤ a + 5
  · rw [if_pos h1, if_neg (by omega), if_neg (by omega)]
    rcases (show c = a + 1 ∨ c = a + 2 ∨ c = a + 3 ∨ c = a + 4 ∨ c = a + 5 by omega) with e | e | e | e | e
    · subst e
      rw [if_neg (by omega), if_neg (by omega), if_neg (by omega), if_neg (by omega), if_pos rfl, show b + (a + 1 - a) = b + 1 by omega]
    · subst e
      rw [if_neg (by omega), if_neg (by omega), if_neg (by omega), if_pos rfl, show b + (a + 2 - a) = b + 2 by omega]
      by_cases q : b + 2 = a + 1 <;> simp only [q, if_true, if_false] <;> omega
    · subst e
      rw [if_neg (by omega), if_neg (by omega), if_pos rfl, show b + (a + 3 - a) = b + 3 by omega, if_neg (by omega), if_neg (by omega)]
    · subst e
      rw [if_neg (by omega), if_pos rfl, show b + (a + 4 - a) = b + 4 by omega, if_neg (by omega), if_neg (by omega), if_neg (by omega)]
    · subst e
      rw [if_pos rfl, show b + (a + 5 - a) = b + 5 by omega, if_neg (by omega), if_neg (by omega), if_neg (by omega), if_neg (by omega)]
  · rw [if_neg h1]
    by_cases e : c = a
    · subst e
      by_cases l6 : l = 6
      · subst l6; simp
      · by_cases l5 : l = 5
        · subst l5; simp
        · rw [if_neg (by omega), if_neg (by omega), if_neg (by omega), if_neg (by omega), if_neg (by omega), if_neg (by omega), if_neg (by omega), if_neg (by omega)]
    · rw [if_neg (by omega), if_neg (by omega), if_neg (by omega), if_neg (by omega), if_neg (by omega), if_neg (by omega), if_neg (by omega), if_neg (by omega)]
theorem sg_copyn {s : sg_S} {a b c : Nat} (h : c < a ∨ a + 5 < c) {l : Nat} : sg_copy s b a c l = s c l := by
  unfold sg_copy
  rw [if_neg (by omega), if_neg (by omega)]
theorem sg_retw {M : mj_M} {pc : Nat} {lv : mj_L} {h : mj_H} {Q : Option Value → mj_H → Prop} {z : Int} (hd : decode M.2.1 pc = .ok (.ireturn, 1)) (hr : M.2.2.2.1 = some .int) (q : Q (some (sy_i (sy_w z))) h) : sy_wp (M, pc, lv, [sy_i z], h) Q := by
  rw [← sy_iw z]
  exact sy_reti hd hr q
section SG2
variable {M M' : mj_M} {pc : Nat} {lv lv' : mj_L} {st vs rest : List Value} {h : mj_H} {Q Q' : Option Value → mj_H → Prop}
set_option maxRecDepth 100000 in
theorem sg_aaP {z : Int} (hd : decode M.2.1 pc = .ok (.aaload, 1)) (h1 : 0 ≤ z) (h2 : z < 30) (hH : sy_H h) (kk : sy_wp (M, pc + 1, lv, .ref (21 + 6 * z.toNat) :: st, h) Q) : sy_wp (M, pc, lv, sy_i z :: .ref 20 :: st, h) Q := by
  have hc : ∃ es, sy_cell 20 = some (103, 30, es) ∧ ∀ i, i < 30 → ab_el es i = (2, ((21 + 6 * i : Nat) : Int), 0, 0) := ⟨_, rfl, by decide +kernel⟩
  obtain ⟨es, e1, e2⟩ := hc
  exact sy_aa hd e1 (by decide) h1 h2 (e2 z.toNat (by omega)) (Int.toNat_natCast _) hH kk
theorem sg_aaP_m {z : Int} (h1 : 0 ≤ z) (h2 : z < 30) : 21 + 6 * z.toNat ∈ sg_sts := by
  have : ∀ i, i < 30 → 21 + 6 * i ∈ sg_sts := by decide
  exact this z.toNat (by omega)
set_option maxRecDepth 100000 in
theorem sg_aaI {z : Int} (hd : decode M.2.1 pc = .ok (.aaload, 1)) (h1 : 0 ≤ z) (h2 : z < 2) (hH : sy_H h) (kk : sy_wp (M, pc + 1, lv, .ref (205 + 6 * z.toNat) :: st, h) Q) : sy_wp (M, pc, lv, sy_i z :: .ref 202 :: st, h) Q := by
  have hc : ∃ es, sy_cell 202 = some (103, 2, es) ∧ ∀ i, i < 2 → ab_el es i = (2, ((205 + 6 * i : Nat) : Int), 0, 0) := ⟨_, rfl, by decide +kernel⟩
  obtain ⟨es, e1, e2⟩ := hc
  exact sy_aa hd e1 (by decide) h1 h2 (e2 z.toNat (by omega)) (Int.toNat_natCast _) hH kk
theorem sg_aaI_m {z : Int} (h1 : 0 ≤ z) (h2 : z < 2) : 205 + 6 * z.toNat ∈ sg_sts := by
  have : ∀ i, i < 2 → 205 + 6 * i ∈ sg_sts := by decide
  exact this z.toNat (by omega)
end SG2
theorem sg_tmod_f (a b : Int) : 1 ≤ b → -b < a.tmod b ∧ a.tmod b < b := fun h => ⟨Int.lt_tmod_of_pos a (by omega), Int.tmod_lt_of_pos a (by omega)⟩
theorem sg_mul_f (a b : Int) : (0 ≤ a → 0 ≤ b → 0 ≤ a * b) ∧ (0 ≤ a → a ≤ 1000000000 → 0 ≤ b → b ≤ 100 → a * b ≤ 100000000000) := by
  refine ⟨fun h1 h2 => Int.mul_nonneg h1 h2, fun h1 h2 h3 h4 => ?_⟩
  have := Int.mul_le_mul h2 h4 h3 (show (0 : Int) ≤ 1000000000 by decide)
  omega
def mj_m_49 : mj_M := (⟨"SootMaps$Streets", "copyFrom", "(LSootMaps$Streets;)V"⟩, prog_10_method_2_code, 2, none, 7, 1, 1, 1, 26)
theorem mj_d_49_0 : decode mj_m_49.2.1 0 = .ok (.aload_n 1, 1) := by decide +kernel
theorem mj_d_49_1 : decode mj_m_49.2.1 1 = .ok (.getfield 9, 3) := by decide +kernel
theorem mj_d_49_4 : decode mj_m_49.2.1 4 = .ok (.iconst 0, 1) := by decide +kernel
theorem mj_d_49_5 : decode mj_m_49.2.1 5 = .ok (.aload_n 0, 1) := by decide +kernel
theorem mj_d_49_6 : decode mj_m_49.2.1 6 = .ok (.getfield 9, 3) := by decide +kernel
theorem mj_d_49_9 : decode mj_m_49.2.1 9 = .ok (.iconst 0, 1) := by decide +kernel
theorem mj_d_49_10 : decode mj_m_49.2.1 10 = .ok (.bipush 9, 2) := by decide +kernel
theorem mj_d_49_12 : decode mj_m_49.2.1 12 = .ok (.invokestatic 27, 3) := by decide +kernel
theorem mj_d_49_15 : decode mj_m_49.2.1 15 = .ok (.aload_n 1, 1) := by decide +kernel
theorem mj_d_49_16 : decode mj_m_49.2.1 16 = .ok (.getfield 15, 3) := by decide +kernel
theorem mj_d_49_19 : decode mj_m_49.2.1 19 = .ok (.iconst 0, 1) := by decide +kernel
theorem mj_d_49_20 : decode mj_m_49.2.1 20 = .ok (.aload_n 0, 1) := by decide +kernel
theorem mj_d_49_21 : decode mj_m_49.2.1 21 = .ok (.getfield 15, 3) := by decide +kernel
theorem mj_d_49_24 : decode mj_m_49.2.1 24 = .ok (.iconst 0, 1) := by decide +kernel
theorem mj_d_49_25 : decode mj_m_49.2.1 25 = .ok (.bipush 9, 2) := by decide +kernel
theorem mj_d_49_27 : decode mj_m_49.2.1 27 = .ok (.invokestatic 27, 3) := by decide +kernel
theorem mj_d_49_30 : decode mj_m_49.2.1 30 = .ok (.aload_n 1, 1) := by decide +kernel
theorem mj_d_49_31 : decode mj_m_49.2.1 31 = .ok (.getfield 18, 3) := by decide +kernel
theorem mj_d_49_34 : decode mj_m_49.2.1 34 = .ok (.iconst 0, 1) := by decide +kernel
theorem mj_d_49_35 : decode mj_m_49.2.1 35 = .ok (.aload_n 0, 1) := by decide +kernel
theorem mj_d_49_36 : decode mj_m_49.2.1 36 = .ok (.getfield 18, 3) := by decide +kernel
theorem mj_d_49_39 : decode mj_m_49.2.1 39 = .ok (.iconst 0, 1) := by decide +kernel
theorem mj_d_49_40 : decode mj_m_49.2.1 40 = .ok (.bipush 9, 2) := by decide +kernel
theorem mj_d_49_42 : decode mj_m_49.2.1 42 = .ok (.invokestatic 27, 3) := by decide +kernel
theorem mj_d_49_45 : decode mj_m_49.2.1 45 = .ok (.aload_n 1, 1) := by decide +kernel
theorem mj_d_49_46 : decode mj_m_49.2.1 46 = .ok (.getfield 21, 3) := by decide +kernel
theorem mj_d_49_49 : decode mj_m_49.2.1 49 = .ok (.iconst 0, 1) := by decide +kernel
theorem mj_d_49_50 : decode mj_m_49.2.1 50 = .ok (.aload_n 0, 1) := by decide +kernel
theorem mj_d_49_51 : decode mj_m_49.2.1 51 = .ok (.getfield 21, 3) := by decide +kernel
theorem mj_d_49_54 : decode mj_m_49.2.1 54 = .ok (.iconst 0, 1) := by decide +kernel
theorem mj_d_49_55 : decode mj_m_49.2.1 55 = .ok (.iconst 5, 1) := by decide +kernel
theorem mj_d_49_56 : decode mj_m_49.2.1 56 = .ok (.invokestatic 27, 3) := by decide +kernel
theorem mj_d_49_59 : decode mj_m_49.2.1 59 = .ok (.aload_n 1, 1) := by decide +kernel
theorem mj_d_49_60 : decode mj_m_49.2.1 60 = .ok (.getfield 24, 3) := by decide +kernel
theorem mj_d_49_63 : decode mj_m_49.2.1 63 = .ok (.iconst 0, 1) := by decide +kernel
theorem mj_d_49_64 : decode mj_m_49.2.1 64 = .ok (.aload_n 0, 1) := by decide +kernel
theorem mj_d_49_65 : decode mj_m_49.2.1 65 = .ok (.getfield 24, 3) := by decide +kernel
theorem mj_d_49_68 : decode mj_m_49.2.1 68 = .ok (.iconst 0, 1) := by decide +kernel
theorem mj_d_49_69 : decode mj_m_49.2.1 69 = .ok (.iconst 5, 1) := by decide +kernel
theorem mj_d_49_70 : decode mj_m_49.2.1 70 = .ok (.invokestatic 27, 3) := by decide +kernel
theorem mj_d_49_73 : decode mj_m_49.2.1 73 = .ok (.aload_n 0, 1) := by decide +kernel
theorem mj_d_49_74 : decode mj_m_49.2.1 74 = .ok (.aload_n 1, 1) := by decide +kernel
theorem mj_d_49_75 : decode mj_m_49.2.1 75 = .ok (.getfield 33, 3) := by decide +kernel
theorem mj_d_49_78 : decode mj_m_49.2.1 78 = .ok (.putfield 33, 3) := by decide +kernel
theorem mj_d_49_81 : decode mj_m_49.2.1 81 = .ok (.aload_n 0, 1) := by decide +kernel
theorem mj_d_49_82 : decode mj_m_49.2.1 82 = .ok (.aload_n 1, 1) := by decide +kernel
theorem mj_d_49_83 : decode mj_m_49.2.1 83 = .ok (.getfield 37, 3) := by decide +kernel
theorem mj_d_49_86 : decode mj_m_49.2.1 86 = .ok (.putfield 37, 3) := by decide +kernel
theorem mj_d_49_89 : decode mj_m_49.2.1 89 = .ok (.return_, 1) := by decide +kernel
set_option maxRecDepth 100000 in
theorem dt_St_copyFrom {h : mj_H} (hH : sy_H h) {a b : Nat} (ha : a ∈ sg_sts) (hb : b ∈ sg_sts) : sy_wp (mj_m_49, 0, [(0, .ref a), (1, .ref b)], [], h) (dq3 (sg_copy (sy_rd h) b a)) := by
  have hap := sg_apart a ha b hb
  refine sy_st (S' := (mj_m_49, 1, [(0, .ref a), (1, .ref b)], [.ref b], h)) mj_d_49_0 (fun _ _ => rfl) ?_
  refine sy_gr2 (b := b + 1) mj_d_49_1 rfl (sg_stc hb).1 (by decide) rfl (Int.toNat_natCast _) hH ?_
  refine sy_st (S' := (mj_m_49, 5, [(0, .ref a), (1, .ref b)], [sy_i 0, .ref (b + 1)], h)) mj_d_49_4 (fun _ _ => rfl) ?_
  refine sy_st (S' := (mj_m_49, 6, [(0, .ref a), (1, .ref b)], [.ref a, sy_i 0, .ref (b + 1)], h)) mj_d_49_5 (fun _ _ => rfl) ?_
  refine sy_gr2 (b := a + 1) mj_d_49_6 rfl (sg_stc ha).1 (by decide) rfl (Int.toNat_natCast _) hH ?_
  refine sy_st (S' := (mj_m_49, 10, [(0, .ref a), (1, .ref b)], [sy_i 0, .ref (a + 1), sy_i 0, .ref (b + 1)], h)) mj_d_49_9 (fun _ _ => rfl) ?_
  refine sy_bip mj_d_49_10 (by decide) ?_
  refine sg_ac (ln := 9) mj_d_49_12 rfl (sg_stc hb).2.1 (sg_stc ha).2.1 (by decide) ⟨by decide, by decide⟩ hH ?_
  intro h1 t1 e1
  refine sy_st (S' := (mj_m_49, 16, [(0, .ref a), (1, .ref b)], [.ref b], h1)) mj_d_49_15 (fun _ _ => rfl) ?_
  refine sy_gr2 (b := b + 2) mj_d_49_16 rfl (sg_stc hb).1 (by decide) rfl (Int.toNat_natCast _) t1 ?_
  refine sy_st (S' := (mj_m_49, 20, [(0, .ref a), (1, .ref b)], [sy_i 0, .ref (b + 2)], h1)) mj_d_49_19 (fun _ _ => rfl) ?_
  refine sy_st (S' := (mj_m_49, 21, [(0, .ref a), (1, .ref b)], [.ref a, sy_i 0, .ref (b + 2)], h1)) mj_d_49_20 (fun _ _ => rfl) ?_
  refine sy_gr2 (b := a + 2) mj_d_49_21 rfl (sg_stc ha).1 (by decide) rfl (Int.toNat_natCast _) t1 ?_
  refine sy_st (S' := (mj_m_49, 25, [(0, .ref a), (1, .ref b)], [sy_i 0, .ref (a + 2), sy_i 0, .ref (b + 2)], h1)) mj_d_49_24 (fun _ _ => rfl) ?_
  refine sy_bip mj_d_49_25 (by decide) ?_
  refine sg_ac (ln := 9) mj_d_49_27 rfl (sg_stc hb).2.2.1 (sg_stc ha).2.2.1 (by decide) ⟨by decide, by decide⟩ t1 ?_
  intro h2 t2 e2
  rw [e1] at e2
  refine sy_st (S' := (mj_m_49, 31, [(0, .ref a), (1, .ref b)], [.ref b], h2)) mj_d_49_30 (fun _ _ => rfl) ?_
  refine sy_gr2 (b := b + 3) mj_d_49_31 rfl (sg_stc hb).1 (by decide) rfl (Int.toNat_natCast _) t2 ?_
  refine sy_st (S' := (mj_m_49, 35, [(0, .ref a), (1, .ref b)], [sy_i 0, .ref (b + 3)], h2)) mj_d_49_34 (fun _ _ => rfl) ?_
  refine sy_st (S' := (mj_m_49, 36, [(0, .ref a), (1, .ref b)], [.ref a, sy_i 0, .ref (b + 3)], h2)) mj_d_49_35 (fun _ _ => rfl) ?_
  refine sy_gr2 (b := a + 3) mj_d_49_36 rfl (sg_stc ha).1 (by decide) rfl (Int.toNat_natCast _) t2 ?_
  refine sy_st (S' := (mj_m_49, 40, [(0, .ref a), (1, .ref b)], [sy_i 0, .ref (a + 3), sy_i 0, .ref (b + 3)], h2)) mj_d_49_39 (fun _ _ => rfl) ?_
  refine sy_bip mj_d_49_40 (by decide) ?_
  refine sg_ac (ln := 9) mj_d_49_42 rfl (sg_stc hb).2.2.2.1 (sg_stc ha).2.2.2.1 (by decide) ⟨by decide, by decide⟩ t2 ?_
  intro h3 t3 e3
  rw [e2] at e3
  refine sy_st (S' := (mj_m_49, 46, [(0, .ref a), (1, .ref b)], [.ref b], h3)) mj_d_49_45 (fun _ _ => rfl) ?_
  refine sy_gr2 (b := b + 4) mj_d_49_46 rfl (sg_stc hb).1 (by decide) rfl (Int.toNat_natCast _) t3 ?_
  refine sy_st (S' := (mj_m_49, 50, [(0, .ref a), (1, .ref b)], [sy_i 0, .ref (b + 4)], h3)) mj_d_49_49 (fun _ _ => rfl) ?_
  refine sy_st (S' := (mj_m_49, 51, [(0, .ref a), (1, .ref b)], [.ref a, sy_i 0, .ref (b + 4)], h3)) mj_d_49_50 (fun _ _ => rfl) ?_
  refine sy_gr2 (b := a + 4) mj_d_49_51 rfl (sg_stc ha).1 (by decide) rfl (Int.toNat_natCast _) t3 ?_
  refine sy_st (S' := (mj_m_49, 55, [(0, .ref a), (1, .ref b)], [sy_i 0, .ref (a + 4), sy_i 0, .ref (b + 4)], h3)) mj_d_49_54 (fun _ _ => rfl) ?_
  refine sy_st (S' := (mj_m_49, 56, [(0, .ref a), (1, .ref b)], [sy_i 5, sy_i 0, .ref (a + 4), sy_i 0, .ref (b + 4)], h3)) mj_d_49_55 (fun _ _ => rfl) ?_
  refine sg_ac (ln := 5) mj_d_49_56 rfl (sg_stc hb).2.2.2.2.1 (sg_stc ha).2.2.2.2.1 (by decide) ⟨by decide, by decide⟩ t3 ?_
  intro h4 t4 e4
  rw [e3] at e4
  refine sy_st (S' := (mj_m_49, 60, [(0, .ref a), (1, .ref b)], [.ref b], h4)) mj_d_49_59 (fun _ _ => rfl) ?_
  refine sy_gr2 (b := b + 5) mj_d_49_60 rfl (sg_stc hb).1 (by decide) rfl (Int.toNat_natCast _) t4 ?_
  refine sy_st (S' := (mj_m_49, 64, [(0, .ref a), (1, .ref b)], [sy_i 0, .ref (b + 5)], h4)) mj_d_49_63 (fun _ _ => rfl) ?_
  refine sy_st (S' := (mj_m_49, 65, [(0, .ref a), (1, .ref b)], [.ref a, sy_i 0, .ref (b + 5)], h4)) mj_d_49_64 (fun _ _ => rfl) ?_
  refine sy_gr2 (b := a + 5) mj_d_49_65 rfl (sg_stc ha).1 (by decide) rfl (Int.toNat_natCast _) t4 ?_
  refine sy_st (S' := (mj_m_49, 69, [(0, .ref a), (1, .ref b)], [sy_i 0, .ref (a + 5), sy_i 0, .ref (b + 5)], h4)) mj_d_49_68 (fun _ _ => rfl) ?_
  refine sy_st (S' := (mj_m_49, 70, [(0, .ref a), (1, .ref b)], [sy_i 5, sy_i 0, .ref (a + 5), sy_i 0, .ref (b + 5)], h4)) mj_d_49_69 (fun _ _ => rfl) ?_
  refine sg_ac (ln := 5) mj_d_49_70 rfl (sg_stc hb).2.2.2.2.2 (sg_stc ha).2.2.2.2.2 (by decide) ⟨by decide, by decide⟩ t4 ?_
  intro h5 t5 e5
  rw [e4] at e5
  refine sy_st (S' := (mj_m_49, 74, [(0, .ref a), (1, .ref b)], [.ref a], h5)) mj_d_49_73 (fun _ _ => rfl) ?_
  refine sy_st (S' := (mj_m_49, 75, [(0, .ref a), (1, .ref b)], [.ref b, .ref a], h5)) mj_d_49_74 (fun _ _ => rfl) ?_
  refine sy_gf mj_d_49_75 rfl (sg_stc hb).1 (by decide) rfl t5 ?_
  intro x5 ex5 bx5 tx5
  have q5 : x5 = sy_rd h b 5 := by rw [ex5, e5, sg_cpn (by omega), sg_cpn (by omega), sg_cpn (by omega), sg_cpn (by omega), sg_cpn (by omega)]
  refine sg_pf (z := x5) mj_d_49_78 rfl (sg_stc ha).1 (by decide) (Or.inl rfl) rfl t5 (by omega) (by omega) ⟨by omega, by omega⟩ ?_
  intro h6 t6 e6
  rw [e5, q5] at e6
  refine sy_st (S' := (mj_m_49, 82, [(0, .ref a), (1, .ref b)], [.ref a], h6)) mj_d_49_81 (fun _ _ => rfl) ?_
  refine sy_st (S' := (mj_m_49, 83, [(0, .ref a), (1, .ref b)], [.ref b, .ref a], h6)) mj_d_49_82 (fun _ _ => rfl) ?_
  refine sy_gf mj_d_49_83 rfl (sg_stc hb).1 (by decide) rfl t6 ?_
  intro x6 ex6 bx6 tx6
  have q6 : x6 = sy_rd h b 6 := by rw [ex6, e6, sg_nk (by decide), sg_cpn (by omega), sg_cpn (by omega), sg_cpn (by omega), sg_cpn (by omega), sg_cpn (by omega)]
  refine sg_pf (z := x6) mj_d_49_86 rfl (sg_stc ha).1 (by decide) (Or.inl rfl) rfl t6 (by omega) (by omega) ⟨by omega, by omega⟩ ?_
  intro h7 t7 e7
  rw [e6, q6] at e7
  exact sy_retv mj_d_49_89 rfl ⟨rfl, t7, by rw [e7]; exact sg_copy_eq _ ha hb⟩
