/-! THE REFERENCE'S NUMBERS -/
theorem rt_num32 (n : Nat) : ∀ (s : sg_S) (l1 l2 : Int), rt_tb s → 240 - s 234 11 < (n : Int) → rt_tb (dc_R_takesNumber_32 n s l1 l2).1 ∧ s 234 11 ≤ (dc_R_takesNumber_32 n s l1 l2).1 234 11 ∧ ((dc_R_takesNumber_32 n s l1 l2).2 = 0 ∨ (l1 ≤ (dc_R_takesNumber_32 n s l1 l2).1 234 13 ∧ (dc_R_takesNumber_32 n s l1 l2).1 234 13 ≤ l2)) := by
  induction n with
  | zero => intro s l1 l2 hb hn; have := hb.2.1; omega
  | succ n ih =>
    intro s l1 l2 hb hn
    have hb1 := hb.1
    have hb2 := hb.2.1
    have hb3 := hb.2.2
    rw [dc_R_takesNumber_32_s]
    by_cases c : dc_R_in s (dc_R_letterAt s (s 234 11)) 48 57 = 0
    · rw [if_pos c]
      have f := df_R_in_0 s (s 234 13) l1 l2
      have e1 : (dc_R_fails s 2 (s 234 12)).1 234 11 = s 234 11 := dr_R_fails s _ _ 234 11 rfl
      have e2 : (dc_R_fails s 2 (s 234 12)).1 234 10 = s 234 10 := dr_R_fails s _ _ 234 10 rfl
      have e3 : (dc_R_fails s 2 (s 234 12)).2 = 0 := rfl
      have hf : rt_tb (dc_R_fails s 2 (s 234 12)).1 := by unfold rt_tb; rw [e1, e2]; exact hb
      (repeat' split) <;> dsimp only <;> first | exact ⟨hf, by omega, by omega⟩ | exact ⟨hb, by omega, by omega⟩
    · rw [if_neg c]
      have f1 := df_R_letterAt_0 s (s 234 11)
      have f2 := df_R_in_0 s (dc_R_letterAt s (s 234 11)) 48 57
      have key : ∀ v : Int, rt_tb (dc_R_takesNumber_32 n (sg_up (sg_up s 234 13 v) 234 11 ((s 234 11) + 1)) l1 l2).1 ∧ s 234 11 ≤ (dc_R_takesNumber_32 n (sg_up (sg_up s 234 13 v) 234 11 ((s 234 11) + 1)) l1 l2).1 234 11 ∧ ((dc_R_takesNumber_32 n (sg_up (sg_up s 234 13 v) 234 11 ((s 234 11) + 1)) l1 l2).2 = 0 ∨ (l1 ≤ (dc_R_takesNumber_32 n (sg_up (sg_up s 234 13 v) 234 11 ((s 234 11) + 1)) l1 l2).1 234 13 ∧ (dc_R_takesNumber_32 n (sg_up (sg_up s 234 13 v) 234 11 ((s 234 11) + 1)) l1 l2).1 234 13 ≤ l2)) := by
        intro v
        have e1 : sg_up (sg_up s 234 13 v) 234 11 ((s 234 11) + 1) 234 11 = (s 234 11) + 1 := sg_eq _ _ _ _
        have e2 : sg_up (sg_up s 234 13 v) 234 11 ((s 234 11) + 1) 234 10 = s 234 10 := by rw [sg_nk (by decide), sg_nk (by decide)]
        have := ih (sg_up (sg_up s 234 13 v) 234 11 ((s 234 11) + 1)) l1 l2 (by unfold rt_tb; rw [e1, e2]; omega) (by rw [e1]; omega)
        rw [e1] at this
        exact ⟨this.1, by omega, this.2.2⟩
      split
      · exact key _
      · exact key _
theorem rt_num (s : sg_S) (a1 a2 : Int) (hb : rt_tb s) : rt_tb (dc_R_takesNumber s a1 a2).1 ∧ s 234 11 ≤ (dc_R_takesNumber s a1 a2).1 234 11 ∧ ((dc_R_takesNumber s a1 a2).2 = 0 ∨ (a1 ≤ (dc_R_takesNumber s a1 a2).1 234 13 ∧ (dc_R_takesNumber s a1 a2).1 234 13 ≤ a2)) := by
  obtain ⟨p1, p2, p3, p4⟩ := rt_here s hb
  unfold dc_R_takesNumber
  split
  · dsimp only
    have e1 : (dc_R_fails (dc_R_here s).1 1 ((dc_R_here s).1 234 12)).1 234 11 = (dc_R_here s).1 234 11 := dr_R_fails _ _ _ 234 11 rfl
    have e2 : (dc_R_fails (dc_R_here s).1 1 ((dc_R_here s).1 234 12)).1 234 10 = (dc_R_here s).1 234 10 := dr_R_fails _ _ _ 234 10 rfl
    refine ⟨by unfold rt_tb; rw [e1, e2]; exact p1, by omega, Or.inl rfl⟩
  · have e1 : sg_up (dc_R_here s).1 234 13 0 234 11 = (dc_R_here s).1 234 11 := sg_nk (by decide) _ _ _
    have e2 : sg_up (dc_R_here s).1 234 13 0 234 10 = (dc_R_here s).1 234 10 := sg_nk (by decide) _ _ _
    have hb' : rt_tb (sg_up (dc_R_here s).1 234 13 0) := by unfold rt_tb; rw [e1, e2]; exact p1
    have := rt_num32 241 (sg_up (dc_R_here s).1 234 13 0) a1 a2 hb' (by have := hb'.1; omega)
    rw [e1] at this
    exact ⟨this.1, by omega, this.2.2⟩
theorem rt_numX {h : mj_H} (hH : sy_H h) {x : sg_S} (ex : sy_rd h = x) (a1 a2 : Int) : (dc_R_takesNumber x a1 a2).2 = 0 ∨ (a1 ≤ (dc_R_takesNumber x a1 a2).1 234 13 ∧ (dc_R_takesNumber x a1 a2).1 234 13 ≤ a2) := (rt_num x a1 a2 (rt_of hH ex)).2.2
