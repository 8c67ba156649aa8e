/-! THE REFERENCE'S CLAUSES go on in the text -/
def rt_m (s t : sg_S) : Prop := rt_tb t ∧ s 234 11 ≤ t 234 11
theorem rt_rf {s : sg_S} (hb : rt_tb s) : rt_m s s := ⟨hb, Int.le_refl _⟩
theorem rt_tr {s t u : sg_S} (h1 : rt_m s t) (h2 : rt_m t u) : rt_m s u := ⟨h2.1, Int.le_trans h1.2 h2.2⟩
theorem rt_upf {s x : sg_S} {k : Nat} {v : Int} (h : rt_m s x) (h1 : k ≠ 11) (h2 : k ≠ 10) : rt_m s (sg_up x 234 k v) := by
  unfold rt_m rt_tb
  rw [sg_nk (Ne.symm h1), sg_nk (Ne.symm h2)]
  exact h
theorem rt_upa {s x : sg_S} {a k : Nat} {v : Int} (h : rt_m s x) (h1 : (234 : Nat) ≠ a) : rt_m s (sg_up x a k v) := by
  unfold rt_m rt_tb
  rw [sg_na h1, sg_na h1]
  exact h
theorem rt_numm {s x : sg_S} {a b : Int} (h : rt_m s x) : rt_m s (dc_R_takesNumber x a b).1 := rt_tr h ⟨(rt_num x a b h.1).1, (rt_num x a b h.1).2.1⟩
theorem rt_herem {s x : sg_S} (h : rt_m s x) : rt_m s (dc_R_here x).1 := rt_tr h ⟨(rt_here x h.1).1, (rt_here x h.1).2.1⟩
theorem rt_failm {s x : sg_S} {a b : Int} (h : rt_m s x) : rt_m s (dc_R_fails x a b).1 := by
  unfold rt_m rt_tb
  rw [dr_R_fails x a b 234 11 rfl, dr_R_fails x a b 234 10 rfl]
  exact h
theorem rt_item {s : sg_S} {c : Prop} {_ : Decidable c} {p q : sg_S × Int} (h1 : rt_m s p.1) (h2 : rt_m s q.1) : rt_m s (if c then p else q).1 := by
  split
  · exact h1
  · exact h2
theorem rt_takesCity (s : sg_S) (hb : rt_tb s) : rt_m s (dc_R_takesCity s).1 := by
  unfold dc_R_takesCity
  repeat' first | with_reducible exact rt_rf hb | with_reducible apply rt_item | with_reducible apply rt_numm | with_reducible refine rt_upf ?_ (by decide) (by decide) | with_reducible refine rt_upa ?_ (by decide) | with_reducible apply rt_failm | dsimp only
theorem rt_takesHouse (s : sg_S) (hb : rt_tb s) : rt_m s (dc_R_takesHouse s).1 := by
  unfold dc_R_takesHouse
  repeat' first | with_reducible exact rt_rf hb | with_reducible apply rt_item | with_reducible apply rt_numm | with_reducible refine rt_upf ?_ (by decide) (by decide) | with_reducible refine rt_upa ?_ (by decide) | with_reducible apply rt_failm | dsimp only
theorem rt_takesSweep (s : sg_S) (hb : rt_tb s) : rt_m s (dc_R_takesSweep s).1 := by
  unfold dc_R_takesSweep
  repeat' first | with_reducible exact rt_rf hb | with_reducible apply rt_item | with_reducible apply rt_numm | with_reducible refine rt_upf ?_ (by decide) (by decide) | with_reducible refine rt_upa ?_ (by decide) | with_reducible apply rt_failm | dsimp only
theorem rt_takes (s : sg_S) (hb : rt_tb s) : rt_m s (dc_R_takes s 59).1 := by
  obtain ⟨p1, p2, p3, p4⟩ := rt_here s hb
  have hb3 := hb.2.2
  have q1 := p1.1
  unfold dc_R_takes
  split
  · dsimp only
    unfold rt_m rt_tb
    rw [sg_eq, sg_nk (by decide), p3]
    omega
  · exact rt_failm ⟨p1, p2⟩
