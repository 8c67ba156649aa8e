/-! THE REFERENCE'S CLAUSE goes on in the text -/
def rt_P (s : sg_S) (p : sg_S × Int) : Prop := rt_m s p.1 ∧ (p.2 = 0 ∨ s 234 11 < p.1 234 11)
theorem rt_Pi {s : sg_S} {c : Prop} {_ : Decidable c} {p q : sg_S × Int} (h1 : rt_P s p) (h2 : rt_P s q) : rt_P s (if c then p else q) := by
  split
  · exact h1
  · exact h2
theorem rt_Pf {s : sg_S} (hb : rt_tb s) {a b : Int} : rt_P s ((dc_R_fails (dc_R_here s).1 a b).1, (dc_R_fails (dc_R_here s).1 a b).2) := ⟨rt_failm (rt_herem (rt_rf hb)), Or.inl rfl⟩
theorem rt_PL {s X : sg_S} {v : Int} (hb : rt_tb s) (h : rt_m (sg_up (dc_R_here s).1 234 11 (((dc_R_here s).1 234 11) + 1)) X) : rt_P s (X, v) := by
  have p2 := (rt_here s hb).2.1
  have q := h.2
  rw [sg_eq] at q
  exact ⟨⟨h.1, by show s 234 11 ≤ X 234 11; omega⟩, Or.inr (by show s 234 11 < X 234 11; omega)⟩
theorem rt_tbY {s : sg_S} (hb : rt_tb s) (hc : ¬ (dc_R_here s).2 = -1) : rt_tb (sg_up (dc_R_here s).1 234 11 (((dc_R_here s).1 234 11) + 1)) := by
  obtain ⟨p1, p2, p3, p4⟩ := rt_here s hb
  have hb3 := hb.2.2
  have q1 := p1.1
  unfold rt_tb
  rw [sg_eq, sg_nk (by decide), p3]
  omega
theorem rt_clause (s : sg_S) (hb : rt_tb s) : rt_P s (dc_R_takesClause s) := by
  by_cases hc : (dc_R_here s).2 = -1
  · have e : dc_R_takesClause s = ((dc_R_fails (dc_R_here s).1 1 ((dc_R_here s).1 234 12)).1, (dc_R_fails (dc_R_here s).1 1 ((dc_R_here s).1 234 12)).2) := by
      unfold dc_R_takesClause
      rw [hc]
      rw [if_neg (show ¬ (-1 : Int) = 99 by decide), if_neg (show ¬ (-1 : Int) = 104 by decide), if_neg (show ¬ (-1 : Int) = 115 by decide), ite_self]
    rw [e]
    exact rt_Pf hb
  · have hy := rt_tbY hb hc
    have k1 := rt_takesCity _ hy
    have k2 := rt_takesHouse _ hy
    have k3 := rt_takesSweep _ hy
    have k4 := rt_tr k1 (rt_takes _ k1.1)
    have k5 := rt_tr k2 (rt_takes _ k2.1)
    have k6 := rt_tr k3 (rt_takes _ k3.1)
    unfold dc_R_takesClause
    repeat' first | with_reducible exact rt_Pf hb | with_reducible exact rt_PL hb k1 | with_reducible exact rt_PL hb k2 | with_reducible exact rt_PL hb k3 | with_reducible exact rt_PL hb k4 | with_reducible exact rt_PL hb k5 | with_reducible exact rt_PL hb k6 | with_reducible apply rt_Pi
theorem rt_clauseX {h : mj_H} (hH : sy_H h) {x : sg_S} (ex : sy_rd h = x) : x 234 11 ≤ (dc_R_takesClause x).1 234 11 ∧ (dc_R_takesClause x).1 234 11 ≤ 240 ∧ ((dc_R_takesClause x).2 = 0 ∨ x 234 11 < (dc_R_takesClause x).1 234 11) := by
  have := rt_clause x (rt_of hH ex)
  exact ⟨this.1.2, this.1.1.2.1, this.2⟩
theorem rt_hereY {h : mj_H} (hH : sy_H h) {x : sg_S} (ex : sy_rd h = x) : x 234 11 ≤ (dc_R_here x).1 234 11 := (rt_here x (rt_of hH ex)).2.1
