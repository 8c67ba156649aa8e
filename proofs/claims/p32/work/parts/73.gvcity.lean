/-! THE REFERENCE'S CITY: house 0 runs into none -/
def gz (s : sg_S) : Prop := s 234 19 ≤ 0 ∨ s 239 0 = -1
theorem gz_fr {s t : sg_S} (e1 : t 234 19 = s 234 19) (e2 : t 239 0 = s 239 0) (h : gz s) : gz t := by
  unfold gz
  rw [e1, e2]
  exact h
theorem gz_num {s : sg_S} {a b : Int} (h : gz s) : gz (dc_R_takesNumber s a b).1 := gz_fr (dr_R_takesNumber s a b 234 19 rfl) (dr_R_takesNumber s a b 239 0 rfl) h
theorem gz_upo {s : sg_S} {a k : Nat} {v : Int} (h1 : 234 ≠ a ∨ 19 ≠ k) (h2 : 239 ≠ a) (h : gz s) : gz (sg_up s a k v) := by
  refine gz_fr ?_ (sg_na h2 _ _ _) h
  rcases h1 with q | q
  · exact sg_na q _ _ _
  · exact sg_nk q _ _ _
theorem gz_fails {s : sg_S} {a b : Int} (h : gz s) : gz (dc_R_fails s a b).1 := gz_fr (dr_R_fails s a b 234 19 rfl) (dr_R_fails s a b 239 0 rfl) h
theorem gz_here {s : sg_S} (h : gz s) : gz (dc_R_here s).1 := gz_fr (dr_R_here s 234 19 rfl) (dr_R_here s 239 0 rfl) h
theorem gz_takes {s : sg_S} {a : Int} (h : gz s) : gz (dc_R_takes s a).1 := gz_fr (dr_R_takes s a 234 19 rfl) (dr_R_takes s a 239 0 rfl) h
theorem gz_city {s : sg_S} (h : gz s) : gz (dc_R_takesCity s).1 := gz_fr (dr_R_takesCity s 234 19 rfl) (dr_R_takesCity s 239 0 rfl) h
theorem gz_sweep {s : sg_S} (h : gz s) : gz (dc_R_takesSweep s).1 := gz_fr (dr_R_takesSweep s 234 19 rfl) (dr_R_takesSweep s 239 0 rfl) h
/-- behind the number of the flue -/
theorem gz_tail {s X : sg_S} {v w : Int} (hX : X 239 0 = s 239 0) (hv : sg_up X 239 ((s 234 19).toNat) v 239 0 = -1) : gz (dc_R_takesNumber (sg_up X 239 ((s 234 19).toNat) v) 0 7).1 ∧ gz (sg_up (sg_up (dc_R_takesNumber (sg_up X 239 ((s 234 19).toNat) v) 0 7).1 240 ((s 234 19).toNat) w) 234 19 ((s 234 19) + 1)) := by
  have e : (dc_R_takesNumber (sg_up X 239 ((s 234 19).toNat) v) 0 7).1 239 0 = -1 := (dr_R_takesNumber _ 0 7 239 0 rfl).trans hv
  refine ⟨Or.inr e, Or.inr ?_⟩
  rw [sg_na (by decide), sg_na (by decide)]
  exact e
theorem gz_house {s : sg_S} (hb : rt_tb s) (h : gz s) : gz (dc_R_takesHouse s).1 := by
  have hn := (rt_num s 0 9 hb).2.2
  have hX : (dc_R_takesNumber s 0 9).1 239 0 = s 239 0 := dr_R_takesNumber s 0 9 239 0 rfl
  have h1 : sg_up (dc_R_takesNumber s 0 9).1 239 ((s 234 19).toNat) (-1) 239 0 = -1 := by
    by_cases q : (s 234 19).toNat = 0
    · rw [q, sg_eq]
    · rw [sg_nk (Ne.symm q), hX]
      rcases h with g | g
      · omega
      · exact g
  have h2 : (dc_R_takesNumber s 0 9).1 234 13 < s 234 19 → ¬ (dc_R_takesNumber s 0 9).2 = 0 → sg_up (dc_R_takesNumber s 0 9).1 239 ((s 234 19).toNat) ((dc_R_takesNumber s 0 9).1 234 13) 239 0 = -1 := fun q1 q2 => by
    have : 0 ≤ (dc_R_takesNumber s 0 9).1 234 13 := by omega
    rw [sg_nk (by omega), hX]
    rcases h with g | g
    · omega
    · exact g
  unfold dc_R_takesHouse
  by_cases c : (dc_R_takesNumber s 0 9).2 = 0
  · rw [if_pos c]
    exact gz_num h
  rw [if_neg c]
  by_cases c9 : (dc_R_takesNumber s 0 9).1 234 13 = 9
  · rw [if_pos c9, if_pos c9]
    split
    · exact (gz_tail (w := 0) hX h1).1
    · exact (gz_tail hX h1).2
  rw [if_neg c9]
  by_cases cl : (dc_R_takesNumber s 0 9).1 234 13 < s 234 19
  · rw [if_pos cl, if_neg c9]
    split
    · exact (gz_tail (w := 0) hX (h2 cl c)).1
    · exact (gz_tail hX (h2 cl c)).2
  · rw [if_neg cl]
    exact gz_fails (gz_num h)
theorem gz_i {c : Prop} {_ : Decidable c} {p q : sg_S × Int} (h1 : gz p.1) (h2 : gz q.1) : gz (if c then p else q).1 := by
  split
  · exact h1
  · exact h2
theorem gz_clause {s : sg_S} (hb : rt_tb s) (h : gz s) : gz (dc_R_takesClause s).1 := by
  have g0 := gz_here h
  have gf : ∀ a b : Int, gz (dc_R_fails (dc_R_here s).1 a b).1 := fun a b => gz_fails g0
  by_cases hc : (dc_R_here s).2 = -1
  · have e : dc_R_takesClause s = ((dc_R_fails (dc_R_here s).1 1 ((dc_R_here s).1 234 12)).1, (dc_R_fails (dc_R_here s).1 1 ((dc_R_here s).1 234 12)).2) := by
      unfold dc_R_takesClause
      rw [hc]
      rw [if_neg (show ¬ (-1 : Int) = 99 by decide), if_neg (show ¬ (-1 : Int) = 104 by decide), if_neg (show ¬ (-1 : Int) = 115 by decide), ite_self]
    rw [e]
    exact gf _ _
  · have hy := rt_tbY hb hc
    have g1 : gz (sg_up (dc_R_here s).1 234 11 (((dc_R_here s).1 234 11) + 1)) := gz_upo (Or.inr (by decide)) (by decide) g0
    have k1 := gz_city g1
    have k2 := gz_house hy g1
    have k3 := gz_sweep g1
    have k4 := gz_takes (a := 59) k1
    have k5 := gz_takes (a := 59) k2
    have k6 := gz_takes (a := 59) k3
    unfold dc_R_takesClause
    repeat' first | with_reducible exact gf _ _ | with_reducible exact k1 | with_reducible exact k2 | with_reducible exact k3 | with_reducible exact k4 | with_reducible exact k5 | with_reducible exact k6 | with_reducible apply gz_i
/-! what is laid out of what was read -/
theorem gx_city203 (n : Nat) : ∀ (s : sg_S) (l3 : Int), 0 ≤ l3 → l3 ≤ 5 → s 234 7 ≤ 5 → (s 234 6 ≤ 0 ∨ s 235 11 = -1) → 5 - l3 < (n : Int) → gv_R (dc_R_city_203 n s l3).1 := by
  induction n with
  | zero =>
    intro s l3 h0 hx h7 hg hn
    rw [show dc_R_city_203 0 s l3 = (s, 0) from rfl]
    exact absurd hn (by omega)
  | succ n ih =>
    intro s l3 h0 hx h7 hg hn
    rw [dc_R_city_203_s]
    split
    · refine ⟨?_, fun j hj => ?_, fun i hi hk => ?_⟩
      · unfold gv_G
        dsimp only
        rw [sg_na (by decide), sg_na (by decide), sg_nk (by decide), sg_nk (by decide), sg_nk (by decide), sg_na (by decide), sg_na (by decide), sg_na (by decide), sg_na (by decide), sg_na (by decide)]
        exact hg
      · dsimp only at hj
        rw [sg_na (by decide), sg_na (by decide), sg_eq] at hj
        omega
      · dsimp only at hk
        exfalso
        apply hk
        by_cases q : i = 1
        · rw [q, sg_eq]
        · rw [sg_nk q, show i = 0 by omega, sg_eq]
    · refine ih _ _ (by omega) (by omega) ?_ ?_ (by omega)
      · rw [sg_na (by decide), sg_na (by decide)]
        exact h7
      · rw [sg_na (by decide), sg_na (by decide), sg_na (by decide), sg_nk (by omega)]
        exact hg
theorem gx_city158 (n : Nat) : ∀ (s : sg_S) (l3 : Int), 0 ≤ l3 → l3 ≤ 9 → s 234 6 ≤ 9 → s 234 7 ≤ 5 → (s 234 6 ≤ 0 ∨ s 239 0 = -1) → (l3 = 0 ∨ s 234 6 ≤ 0 ∨ s 235 11 = -1) → 9 - l3 < (n : Int) → gv_R (dc_R_city_158 n s l3).1 := by
  induction n with
  | zero =>
    intro s l3 h0 hx h6 h7 hz hg hn
    exact absurd hn (by omega)
  | succ n ih =>
    intro s l3 h0 hx h6 h7 hz hg hn
    rw [dc_R_city_158_s]
    split
    · exact gx_city203 6 s 0 (by omega) (by omega) h7 (by omega) (by omega)
    · have e6 : (sg_up (sg_up s 235 ((2 + l3).toNat) (s 240 ((l3).toNat))) 235 ((11 + l3).toNat) (s 239 ((l3).toNat))) 234 6 = s 234 6 := by rw [sg_na (by decide), sg_na (by decide)]
      refine ih _ _ (by omega) (by omega) (by rw [e6]; exact h6) ?_ ?_ ?_ (by omega)
      · rw [sg_na (by decide), sg_na (by decide)]
        exact h7
      · rw [e6, sg_na (by decide), sg_na (by decide)]
        exact hz
      · rw [e6]
        right
        by_cases q : l3 = 0
        · subst q
          rcases hz with g | g
          · exact Or.inl g
          · right
            show sg_up _ 235 11 (s 239 0) 235 11 = -1
            rw [sg_eq]
            exact g
        · rw [sg_nk (by omega), sg_nk (by omega)]
          omega
theorem gx_city89 (n : Nat) : ∀ (s : sg_S) (l2 l3 : Int), l3 ≤ 112 → s 234 19 ≤ 9 → s 234 22 ≤ 5 → gz s → 112 - l3 < (n : Int) → gv_R (dc_R_city_89 n s l2 l3).1 := by
  induction n with
  | zero =>
    intro s l2 l3 hx h6 h7 hz hn
    exact absurd hn (by omega)
  | succ n ih =>
    intro s l2 l3 hx h6 h7 hz hn
    rw [dc_R_city_89_s]
    split
    · refine gx_city158 10 _ 0 (by omega) (by omega) ?_ ?_ ?_ (Or.inl rfl) (by omega)
      · rw [sg_nk (by decide), sg_eq]; exact h6
      · rw [sg_eq]; exact h7
      · rw [sg_nk (by decide), sg_eq, sg_na (by decide), sg_na (by decide), sg_na (by decide), sg_na (by decide), sg_na (by decide), sg_na (by decide)]
        exact hz
    · exact ih _ _ _ (by omega) (by rw [sg_na (by decide)]; exact h6) (by rw [sg_na (by decide)]; exact h7) (gz_upo (Or.inl (by decide)) (by decide) hz) (by omega)
theorem gv_K_here {s : sg_S} : gv_K s (dc_R_here s).1 := ⟨dr_R_here s 234 6 rfl, dr_R_here s 234 2 rfl, fun i => dr_R_here s 236 i rfl, fun q _ => dr_R_here s 235 _ rfl⟩
theorem gv_K_clause {s : sg_S} : gv_K s (dc_R_takesClause s).1 := ⟨dr_R_takesClause s 234 6 rfl, dr_R_takesClause s 234 2 rfl, fun i => dr_R_takesClause s 236 i rfl, fun q _ => dr_R_takesClause s 235 _ rfl⟩
theorem gx_city89' {s : sg_S} (hs : sv s) (hz : gz s) (l2 : Int) : gv_R (dc_R_city_89 113 (sg_up s 234 10 0) l2 0).1 := by
  have b1 := sv_bd hs (a := 234) (k := 19) rfl (by decide) rfl
  have b2 := sv_bd hs (a := 234) (k := 22) rfl (by decide) rfl
  exact gx_city89 113 _ l2 0 (by omega) (by rw [sg_nk (by decide)]; exact b1.2) (by rw [sg_nk (by decide)]; exact b2.2) (gz_upo (Or.inr (by decide)) (by decide) hz) (by omega)
theorem gx_city42 (n : Nat) : ∀ (s : sg_S) (l1 : Int), sv s → gv_R s → gz s → gv_R (dc_R_city_42 n s l1).1 := by
  induction n with
  | zero => intro s l1 _ h _; exact h
  | succ n ih =>
    intro s l1 hs h hz
    have s1 := sv_here hs
    have r1 := gv_RK h (gv_K_here (s := s))
    have z1 := gz_here hz
    rw [dc_R_city_42_s]
    by_cases c : l1 = 0
    · rw [if_pos c, if_pos c]
      exact gv_RK h (gv_K_o (by decide) (by decide) (Or.inr (by decide)))
    · rw [if_neg c]
      split
      · exact gx_city89' s1 z1 _
      · exact ih _ _ (sv_clause s1) (gv_RK r1 gv_K_clause) (gz_clause (sv_tb s1) z1)
theorem sv_fld {s : sg_S} (hs : sv s) {k : Nat} {lo hi v : Int} {o : Nat} (hk : k < 38) (he : ab_el ((sy_cell 234).getD (0, 0, [])).2.2 k = (0, lo, hi, o)) (h1 : lo ≤ v) (h2 : v ≤ hi) (hr : -2147483648 ≤ v ∧ v ≤ 2147483647) : sv (sg_up s 234 k v) :=
  sv_up hs (tag := 10) (len := 38) rfl hk he h1 h2 hr
theorem gv_city {s : sg_S} (hs : sv s) (h : gv_R s) : gv_R (dc_R_city s).1 := by
  have r1 := gv_RK h (gv_K_o (s := s) (a := 234) (k := 11) (v := 0) (by decide) (by decide) (Or.inr (by decide)))
  have r2 := gv_RK r1 (gv_K_o (a := 234) (k := 14) (v := 0) (by decide) (by decide) (Or.inr (by decide)))
  have r3 := gv_RK r2 (gv_K_o (a := 234) (k := 15) (v := -1) (by decide) (by decide) (Or.inr (by decide)))
  have r4 := gv_RK r3 (gv_K_o (a := 234) (k := 16) (v := 0) (by decide) (by decide) (Or.inr (by decide)))
  have r5 := gv_RK r4 (gv_K_o (a := 234) (k := 17) (v := 0) (by decide) (by decide) (Or.inr (by decide)))
  have r6 := gv_RK r5 (gv_K_o (a := 234) (k := 18) (v := 0) (by decide) (by decide) (Or.inr (by decide)))
  have r7 := gv_RK r6 (gv_K_o (a := 234) (k := 19) (v := 0) (by decide) (by decide) (Or.inr (by decide)))
  have r8 := gv_RK r7 (gv_K_o (a := 234) (k := 22) (v := 0) (by decide) (by decide) (Or.inr (by decide)))
  have s1 := sv_fld hs (k := 11) (v := 0) (by decide) rfl (by decide) (by decide) (by decide)
  have s2 := sv_fld s1 (k := 14) (v := 0) (by decide) rfl (by decide) (by decide) (by decide)
  have s3 := sv_fld s2 (k := 15) (v := -1) (by decide) rfl (by decide) (by decide) (by decide)
  have s4 := sv_fld s3 (k := 16) (v := 0) (by decide) rfl (by decide) (by decide) (by decide)
  have s5 := sv_fld s4 (k := 17) (v := 0) (by decide) rfl (by decide) (by decide) (by decide)
  have s6 := sv_fld s5 (k := 18) (v := 0) (by decide) rfl (by decide) (by decide) (by decide)
  have s7 := sv_fld s6 (k := 19) (v := 0) (by decide) rfl (by decide) (by decide) (by decide)
  have s8 := sv_fld s7 (k := 22) (v := 0) (by decide) rfl (by decide) (by decide) (by decide)
  exact gx_city42 242 _ 1 s8 r8 (Or.inl (by rw [sg_nk (by decide), sg_eq]; decide))
