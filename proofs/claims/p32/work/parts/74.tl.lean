/-! THE TEXT'S LENGTH on both sides -/
theorem tl_readAll24 (n : Nat) : ∀ (s : sg_S) (l1 : Int), l1 ≤ 240 → 240 - l1 < (n : Int) → dc_Text_readAll_24 n s l1 1 2 = 0 := by
  induction n with
  | zero => intro s l1 h1 hn; exact absurd hn (by omega)
  | succ n ih =>
    intro s l1 h1 hn
    rw [dc_Text_readAll_24_s]
    split
    · rw [sg_eq]
    · split
      · split
        · exact ih _ _ (by omega) (by omega)
        · rw [sg_eq]
      · rw [sg_eq]
theorem tl_readAll (s : sg_S) : dc_Text_readAll s 1 2 = 0 := tl_readAll24 241 _ 0 (by omega) (by omega)
theorem tl_C_city (s : sg_S) : (dc_C_city s).1 1 2 = 0 := by
  unfold dc_C_city
  split
  · dsimp only
    rw [sg_na (by decide), sg_na (by decide), dr_Im_forget _ 1 2 rfl, dr_Past_forget _ 1 2 rfl, dr_St_begin _ 1 2 rfl, dr_Plan_copyFrom _ 1 2 rfl]
    exact tl_readAll s
  · exact tl_readAll s
theorem tl_R_203 (n : Nat) : ∀ (s : sg_S) (l3 : Int), (dc_R_city_203 n s l3).1 234 10 = s 234 10 := by
  induction n with
  | zero => intro s l3; rfl
  | succ n ih =>
    intro s l3
    rw [dc_R_city_203_s]
    split
    · dsimp only
      rw [sg_na (by decide), sg_na (by decide), sg_nk (by decide), sg_nk (by decide), sg_nk (by decide)]
    · rw [ih, sg_na (by decide), sg_na (by decide)]
theorem tl_R_158 (n : Nat) : ∀ (s : sg_S) (l3 : Int), (dc_R_city_158 n s l3).1 234 10 = s 234 10 := by
  induction n with
  | zero => intro s l3; rfl
  | succ n ih =>
    intro s l3
    rw [dc_R_city_158_s]
    split
    · exact tl_R_203 _ _ _
    · rw [ih, sg_na (by decide), sg_na (by decide)]
theorem tl_R_89 (n : Nat) : ∀ (s : sg_S) (l2 l3 : Int), (dc_R_city_89 n s l2 l3).1 234 10 = s 234 10 := by
  induction n with
  | zero => intro s l2 l3; rfl
  | succ n ih =>
    intro s l2 l3
    rw [dc_R_city_89_s]
    split
    · rw [tl_R_158, sg_nk (by decide), sg_nk (by decide), sg_nk (by decide), sg_nk (by decide), sg_nk (by decide), sg_na (by decide)]
    · rw [ih, sg_na (by decide)]
theorem tl_clause2 {s : sg_S} (hs : sv s) : 0 ≤ (dc_R_takesClause s).2 ∧ (dc_R_takesClause s).2 ≤ 1 := by
  obtain ⟨h, hH, rfl⟩ := hs
  exact (sv_2 (dt_R_takesClause hH)).2
theorem tl_R_42 (n : Nat) : ∀ (s : sg_S) (l1 : Int), sv s → 0 ≤ l1 → l1 ≤ 1 → 240 - s 234 11 + l1 < (n : Int) → (dc_R_city_42 n s l1).1 234 10 = 0 := by
  induction n with
  | zero => intro s l1 hs h0 h1 hn; have := (sv_tb hs).2.1; exact absurd hn (by omega)
  | succ n ih =>
    intro s l1 hs h0 h1 hn
    have s1 := sv_here hs
    have a1 := (rt_here s (sv_tb hs)).2.1
    have a2 := rt_clause (dc_R_here s).1 (sv_tb s1)
    have a3 := a2.1.2
    have a4 := a2.2
    have a5 := tl_clause2 s1
    rw [dc_R_city_42_s]
    by_cases c : l1 = 0
    · rw [if_pos c, if_pos c]
      show sg_up s 234 10 0 234 10 = 0
      rw [sg_eq]
    · rw [if_neg c]
      split
      · rw [tl_R_89, sg_eq]
      · exact ih _ _ (sv_clause s1) a5.1 a5.2 (by omega)
theorem tl_R_city {s : sg_S} (hs : sv s) : (dc_R_city s).1 234 10 = 0 := by
  have s1 := sv_fld hs (k := 11) (v := 0) (by decide) rfl (by decide) (by decide) (by decide)
  have s2 := sv_fld s1 (k := 14) (v := 0) (by decide) rfl (by decide) (by decide) (by decide)
  have s3 := sv_fld s2 (k := 15) (v := -1) (by decide) rfl (by decide) (by decide) (by decide)
  have s4 := sv_fld s3 (k := 16) (v := 0) (by decide) rfl (by decide) (by decide) (by decide)
  have s5 := sv_fld s4 (k := 17) (v := 0) (by decide) rfl (by decide) (by decide) (by decide)
  have s6 := sv_fld s5 (k := 18) (v := 0) (by decide) rfl (by decide) (by decide) (by decide)
  have s7 := sv_fld s6 (k := 19) (v := 0) (by decide) rfl (by decide) (by decide) (by decide)
  have s8 := sv_fld s7 (k := 22) (v := 0) (by decide) rfl (by decide) (by decide) (by decide)
  have b := (sv_tb s8).1
  exact tl_R_42 242 _ 1 s8 (by omega) (by omega) (by omega)
theorem tl_feed {s : sg_S} (hs : sv s) (ht : s 1 2 = s 234 10) (a : Int) : (dc_C_feed s a).2 = (dc_R_feed (dc_C_feed s a).1 a).2 ∧ (dc_R_feed (dc_C_feed s a).1 a).1 1 2 = (dc_R_feed (dc_C_feed s a).1 a).1 234 10 := by
  have b := sv_bd hs (a := 1) (k := 2) rfl (by decide) rfl
  have e1 : (dc_C_feed s a).1 234 10 = s 234 10 := dr_C_feed s a 234 10 rfl
  have e2 : (dc_R_feed (dc_C_feed s a).1 a).1 1 2 = (dc_C_feed s a).1 1 2 := dr_R_feed _ a 1 2 rfl
  rw [e2]
  by_cases c0 : a < 0
  · have f : dc_C_feed s a = (s, -1000000002) := if_pos c0
    have g : dc_R_feed s a = (s, -1000000002) := by
      unfold dc_R_feed dc_R_in
      rw [if_pos (by (repeat' split) <;> omega)]
    rw [f, g]
    exact ⟨rfl, ht⟩
  by_cases c1 : a ≤ 255
  · have f : dc_C_feed s a = ((dc_Text_add s a).1, (dc_Text_add s a).2) := by
      unfold dc_C_feed
      rw [if_neg c0, if_pos c1]
    have g : ∀ t : sg_S, dc_R_feed t a = if (t 234 10) = 240 then (t, (-1000000004)) else ((sg_up (sg_up t 238 ((t 234 10).toNat) a) 234 10 ((t 234 10) + 1)), ((t 234 10) + 1)) := fun t => by
      unfold dc_R_feed dc_R_in
      rw [if_neg (by (repeat' split) <;> omega)]
    by_cases c2 : s 1 2 < 240
    · have k : dc_Text_add s a = ((sg_up (sg_up s 2 ((s 1 2).toNat) a) 1 2 ((s 1 2) + 1)), ((s 1 2) + 1)) := by
        unfold dc_Text_add
        rw [if_neg (by omega), if_pos c2]
      rw [g, e1, if_neg (by omega), f, k]
      dsimp only
      rw [sg_eq, sg_eq]
      exact ⟨by omega, by omega⟩
    · have k : dc_Text_add s a = (s, -1000000004) := by
        unfold dc_Text_add
        rw [if_neg (by omega), if_neg c2]
      rw [g, e1, if_pos (by omega), f, k]
      exact ⟨rfl, ht⟩
  · have f : dc_C_feed s a = (s, -1000000002) := by
      unfold dc_C_feed
      rw [if_neg c0, if_neg c1]
    have g : dc_R_feed s a = (s, -1000000002) := by
      unfold dc_R_feed dc_R_in
      rw [if_pos (by (repeat' split) <;> omega)]
    rw [f, g]
    exact ⟨rfl, ht⟩
