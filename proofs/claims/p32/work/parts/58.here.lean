/-! THE REFERENCE'S TEXT: where it stands -/
def rt_tb (s : sg_S) : Prop := 0 ≤ s 234 11 ∧ s 234 11 ≤ 240 ∧ s 234 10 ≤ 240
theorem rt_of {h : mj_H} (hH : sy_H h) {x : sg_S} (ex : sy_rd h = x) : rt_tb x := by
  have a := hH.bd (a := 234) (k := 11) rfl (by decide) rfl
  have b := hH.bd (a := 234) (k := 10) rfl (by decide) rfl
  rw [← ex]
  exact ⟨a.1, a.2, b.2⟩
theorem rt_here0 (n : Nat) : ∀ s : sg_S, rt_tb s → 240 - s 234 11 < (n : Int) → rt_tb (dc_R_here_0 n s).1 ∧ s 234 11 ≤ (dc_R_here_0 n s).1 234 11 ∧ (dc_R_here_0 n s).1 234 10 = s 234 10 ∧ ((dc_R_here_0 n s).2 = -1 ∨ (dc_R_here_0 n s).1 234 11 < s 234 10) := by
  induction n with
  | zero => intro s hb hn; have := hb.2.1; omega
  | succ n ih =>
    intro s hb hn
    have hb1 := hb.1
    have hb2 := hb.2.1
    have hb3 := hb.2.2
    have f := df_R_letterAt_0 s (s 234 11)
    rw [dc_R_here_0_s]
    split
    · rename_i c
      have e1 : sg_up s 234 11 ((s 234 11) + 1) 234 11 = (s 234 11) + 1 := sg_eq _ _ _ _
      have e2 : sg_up s 234 11 ((s 234 11) + 1) 234 10 = s 234 10 := sg_nk (by decide) _ _ _
      have := ih (sg_up s 234 11 ((s 234 11) + 1)) (by unfold rt_tb; rw [e1, e2]; omega) (by rw [e1]; omega)
      rw [e1, e2] at this
      refine ⟨this.1, by omega, this.2.2.1, this.2.2.2⟩
    · have e1 : sg_up s 234 12 (s 234 11) 234 11 = s 234 11 := sg_nk (by decide) _ _ _
      have e2 : sg_up s 234 12 (s 234 11) 234 10 = s 234 10 := sg_nk (by decide) _ _ _
      have f2 := df_R_letterAt_0 (sg_up s 234 12 (s 234 11)) (s 234 11)
      rw [e2] at f2
      dsimp only
      unfold rt_tb
      rw [e1, e2]
      exact ⟨hb, by omega, rfl, f2⟩
theorem rt_here (s : sg_S) (hb : rt_tb s) : rt_tb (dc_R_here s).1 ∧ s 234 11 ≤ (dc_R_here s).1 234 11 ∧ (dc_R_here s).1 234 10 = s 234 10 ∧ ((dc_R_here s).2 = -1 ∨ (dc_R_here s).1 234 11 < s 234 10) := rt_here0 241 s hb (by have := hb.1; omega)
theorem rt_hereX {h : mj_H} (hH : sy_H h) {x : sg_S} (ex : sy_rd h = x) : (dc_R_here x).2 = -1 ∨ ((dc_R_here x).1 234 11 < x 234 10 ∧ x 234 10 ≤ 240) := by
  have hb := rt_of hH ex
  have := rt_here x hb
  have := hb.2.2
  omega
