/-! ANSWERS THAT HANG ON THE ARGUMENTS ALONE -/
theorem eq_in1 {s : sg_S} {a b c : Int} (h : b ≤ a ∧ a ≤ c) : ¬ dc_R_in s a b c = 0 := by
  unfold dc_R_in
  (repeat' split) <;> omega
theorem eq_in0 {s : sg_S} {a b c : Int} (h : ¬ (b ≤ a ∧ a ≤ c)) : dc_R_in s a b c = 0 := by
  unfold dc_R_in
  (repeat' split) <;> omega
theorem eq_wet30 (s t : sg_S) (n : Nat) : ∀ l1 l2 l3 l5 : Int, dc_C_wet_30 n s l1 l2 l3 l5 = dc_R_wet_34 n t l1 l2 l3 l5 := by
  induction n with
  | zero => intros; rfl
  | succ n ih =>
    intro l1 l2 l3 l5
    rw [dc_C_wet_30_s, dc_R_wet_34_s]
    by_cases c : l1 ≤ l5
    · rw [if_pos c, if_pos c]
    · rw [if_neg c, if_neg c]
      by_cases q : l2 + 2 * l5 ≤ 100
      · rw [if_pos q, Int.min_eq_right q, ih]
      · rw [if_neg q, Int.min_eq_left (by omega), ih]
theorem eq_wet (s t : sg_S) (a b : Int) : dc_C_wet s a b = dc_R_wet t a b := by
  unfold dc_C_wet dc_R_wet
  by_cases c1 : 0 ≤ a ∧ a ≤ 8
  · rw [if_neg (by omega), if_neg (by omega), if_neg (eq_in1 c1)]
    by_cases c2 : 0 ≤ b ∧ b ≤ 100
    · rw [if_neg (by omega), if_pos c2.2, if_neg (eq_in1 c2)]
      exact eq_wet30 s t _ _ _ _ _
    · rw [if_pos (eq_in0 c2)]
      (repeat' split) <;> first | rfl | omega
  · rw [if_pos (eq_in0 c1)]
    (repeat' split) <;> first | rfl | omega
theorem eq_keep (s t : sg_S) (a : Int) : (dc_C_keep s a).2 = (dc_R_keep t a).2 := by
  unfold dc_C_keep dc_R_keep
  by_cases c1 : 0 ≤ a ∧ a ≤ 1
  · rw [if_neg (by omega), if_pos (by omega), if_neg (eq_in1 c1)]
  · rw [if_pos (eq_in0 c1)]
    (repeat' split) <;> first | rfl | omega
