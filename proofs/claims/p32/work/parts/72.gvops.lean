/-! THE REFERENCE'S CALLS keep it so -/
theorem gv_month42 (n : Nat) : ∀ (s : sg_S) (l1 l2 : Int), sv s → gv_R s → gv_R (dc_R_month_42 n s l1 l2).1 := by
  induction n with
  | zero => intro s l1 l2 _ h; exact h
  | succ n ih =>
    intro s l1 l2 hs h
    rw [dc_R_month_42_s]
    split
    · exact h
    · exact ih _ _ _ (sv_passes (sv_minds hs) (gv_of (gv_minds hs h))) (gv_RK (gv_minds hs h) (gv_K_passes (sv_minds hs)))
theorem gv_month {s : sg_S} (hs : sv s) (h : gv_R s) (a1 : Int) : gv_R (dc_R_month s a1).1 := by
  unfold dc_R_month
  split
  · exact h
  · split
    · exact h
    · split
      · exact gv_month42 _ _ _ _ hs h
      · exact h
theorem gx_end {s : sg_S} (hs : sv s) (h : gv_R s) : (sv (dc_R_draw (dc_R_passes s 0) 4).1 ∧ gv_R (dc_R_draw (dc_R_passes s 0) 4).1) ∧ sv (dc_R_washes (dc_R_draw (dc_R_passes s 0) 4).1).1 ∧ gv_R (dc_R_washes (dc_R_draw (dc_R_passes s 0) 4).1).1 := by
  have s1 := sv_passes hs (gv_of h)
  have r1 := gv_RK h (gv_K_passes hs)
  have s2 := (sv_draw s1 (a := 4) (by omega) (by omega)).1
  have r2 := gv_RK r1 (gv_K_draw (a := 4))
  exact ⟨⟨s2, r2⟩, sv_washes s2, gv_RK r2 (gv_K_washes s2)⟩
theorem gv_drift42 (n : Nat) : ∀ (s : sg_S) (l1 l2 : Int), sv s → gv_R s → gv_R (dc_R_drift_42 n s l1 l2).1 := by
  induction n with
  | zero => intro s l1 l2 _ h; exact h
  | succ n ih =>
    intro s l1 l2 hs h
    have b := sv_bd hs (a := 234) (k := 6) rfl (by decide) rfl
    have s1 := sv_minds hs
    have r1 := gv_minds hs h
    rw [dc_R_drift_42_s]
    split
    · exact h
    · split
      · have e := gx_end s1 r1
        split
        · exact ih _ _ _ e.2.1 e.2.2
        · exact ih _ _ _ e.1.1 e.1.2
      · have s2 := sv_draw s1 (a := s 234 6) (by omega) (by omega)
        have r2 := gv_RK r1 (gv_K_draw (a := s 234 6))
        have s3 := sv_draw s2.1 (a := 8) (by omega) (by omega)
        have r3 := gv_RK r2 (gv_K_draw (a := 8))
        have s4 := sv_burns s3.1 (x := (dc_R_draw (dc_R_minds s) (s 234 6)).2) (v := (dc_R_draw (dc_R_draw (dc_R_minds s) (s 234 6)).1 8).2) (by omega) (by omega) (by omega) (by omega)
        have r4 := gv_RK r3 (gv_K_up (k := (2 + (dc_R_draw (dc_R_minds s) (s 234 6)).2).toNat) (v := (dc_R_draw (dc_R_draw (dc_R_minds s) (s 234 6)).1 8).2) (by omega))
        have e := gx_end s4 r4
        split
        · exact ih _ _ _ e.2.1 e.2.2
        · exact ih _ _ _ e.1.1 e.1.2
theorem gv_drift {s : sg_S} (hs : sv s) (h : gv_R s) (a1 : Int) : gv_R (dc_R_drift s a1).1 := by
  unfold dc_R_drift
  split
  · exact h
  · split
    · exact h
    · split
      · exact gv_drift42 _ _ _ _ hs h
      · exact h
theorem gx_house {s : sg_S} (hs : sv s) {a : Int} (h : ¬ dc_R_isHouse s a = 0) : 0 ≤ a ∧ a ≤ 8 := by
  have b := sv_bd hs (a := 234) (k := 6) rfl (by decide) rfl
  have := df_R_isHouse_0 s a
  omega
theorem gx_two {s : sg_S} (hs : sv s) {a c : Int} (h : ¬ dc_R_areTwo s a c = 0) : 0 ≤ a ∧ a ≤ 4 ∧ 0 ≤ c ∧ c ≤ 4 := by
  have b := sv_bd hs (a := 234) (k := 7) rfl (by decide) rfl
  have := df_R_areTwo_0 s a c
  omega
theorem gv_fire {s : sg_S} (hs : sv s) (h : gv_R s) (a1 a2 : Int) : gv_R (dc_R_fire s a1 a2).1 := by
  unfold dc_R_fire
  split
  · exact h
  · rename_i c
    have := gx_house hs c
    split
    · exact h
    · exact gv_RK (gv_minds hs h) (gv_K_up (by omega))
theorem gv_rain {s : sg_S} (hs : sv s) (h : gv_R s) : gv_R (dc_R_rain s).1 := by
  unfold dc_R_rain
  split
  · exact h
  · exact gv_RK (gv_minds hs h) (gv_K_washes (sv_minds hs))
theorem gv_swept {s : sg_S} (hs : sv s) (h : gv_R s) (a1 : Int) : gv_R (dc_R_swept s a1).1 := by
  unfold dc_R_swept
  split
  · exact h
  · rename_i c
    have := gx_house hs c
    exact gv_RK (gv_minds hs h) (gv_K_up (by omega))
theorem gv_run {s : sg_S} (hs : sv s) (h : gv_R s) (a1 a2 : Int) : gv_R (dc_R_run s a1 a2).1 := by
  unfold dc_R_run
  split
  · exact h
  · rename_i c
    have := gx_house hs c
    split
    · exact h
    · rename_i c2
      have q := df_R_in_0 s a2 (-1) (a1 - 1)
      have hm := gv_minds hs h
      by_cases e : a1 = 0
      · refine ⟨Or.inr ?_, fun j hj => ?_, fun i hi hk => ?_⟩
        · subst e
          show sg_up (dc_R_minds s) 235 11 a2 235 11 = -1
          rw [sg_eq]
          omega
        · unfold gv_G
          dsimp only at hj ⊢
          rw [sg_na (by decide)] at hj
          rw [sg_na (by decide), sg_nk (by omega)]
          exact hm.2.1 j hj
        · unfold gv_G
          dsimp only at hk ⊢
          rw [sg_na (by decide)] at hk
          rw [sg_na (by decide), sg_nk (by omega)]
          exact hm.2.2 i hi hk
      · exact gv_RK hm (gv_K_up (by omega))
theorem gv_swap {s : sg_S} (hs : sv s) (h : gv_R s) (a1 a2 a3 a4 : Int) : gv_R (dc_R_swap s a1 a2 a3 a4).1 := by
  unfold dc_R_swap
  split
  · exact h
  · rename_i c
    have := gx_two hs c
    have hm := gv_minds hs h
    (repeat' split) <;> first | exact h | exact gv_RK (gv_RK hm (gv_K_up (by omega))) (gv_K_up (by omega))
theorem gv_pay {s : sg_S} (hs : sv s) (h : gv_R s) (a1 a2 a3 : Int) : gv_R (dc_R_pay s a1 a2 a3).1 := by
  unfold dc_R_pay
  split
  · exact h
  · rename_i c
    have := gx_two hs c
    have hm := gv_minds hs h
    (repeat' split) <;> first | exact h | exact gv_RK (gv_RK (gv_RK (gv_RK hm (gv_K_up (by omega))) (gv_K_up (by omega))) (gv_K_up (by omega))) (gv_K_up (by decide))
theorem gv_undo {s : sg_S} (hs : sv s) (h : gv_R s) (a1 : Int) : gv_R (dc_R_undo s a1).1 := by
  have b := sv_bd hs (a := 234) (k := 2) rfl (by decide) rfl
  have q := df_R_in_0 s a1 1 30
  unfold dc_R_undo
  split
  · exact h
  · split
    · rename_i c1 c2
      refine gv_RK (s := dc_R_copy (sg_up s 234 2 ((s 234 2) - a1)) (448 + (112 * ((s 234 2) - a1))) 0) ?_ (gv_K_up (by decide))
      have e2 : dc_R_copy (sg_up s 234 2 ((s 234 2) - a1)) (448 + (112 * ((s 234 2) - a1))) 0 234 2 = (s 234 2) - a1 := by rw [dr_R_copy _ _ _ 234 2 rfl, sg_eq]
      have e6 : dc_R_copy (sg_up s 234 2 ((s 234 2) - a1)) (448 + (112 * ((s 234 2) - a1))) 0 234 6 = s 234 6 := by rw [dr_R_copy _ _ _ 234 6 rfl, sg_nk (by decide)]
      refine ⟨?_, fun j hj => ?_, fun i hi hk => ?_⟩
      · unfold gv_G
        have e := rb_copy_in (sg_up s 234 2 ((s 234 2) - a1)) (448 + (112 * ((s 234 2) - a1))) 0 11 (by omega) (by omega) (by omega) (by omega) (by omega)
        rw [e6, show 112 * 0 + 11 = ((0 : Int) + 11).toNat by omega, e, sg_na (by decide), show (448 + (112 * ((s 234 2) - a1)) + 11).toNat = 112 * (4 + ((s 234 2) - a1).toNat) + 11 by omega]
        exact h.2.1 _ (by omega)
      · unfold gv_G
        rw [e2] at hj
        rw [e6, rb_copy_out _ _ _ _ (by omega) (by omega), sg_na (by decide)]
        exact h.2.1 j (by omega)
      · unfold gv_G
        rw [dr_R_copy _ _ _ 236 i rfl, sg_na (by decide)] at hk
        rw [e6, rb_copy_out _ _ _ _ (by omega) (by omega), sg_na (by decide)]
        exact h.2.2 i hi hk
    · exact h
theorem gv_burned35 (n : Nat) : ∀ (s : sg_S) (l1 l2 l3 l4 l5 l6 : Int), sv s → gv_R s → 0 ≤ l1 → l1 ≤ 8 → 1 ≤ l2 → l2 ≤ 3 → 0 ≤ l6 → l6 + (n : Int) ≤ 600 → gv_R (dc_R_burned_35 n s l1 l2 l3 l4 l5 l6).1 := by
  induction n with
  | zero => intro s l1 l2 l3 l4 l5 l6 _ h _ _ _ _ _ _; exact h
  | succ n ih =>
    intro s l1 l2 l3 l4 l5 l6 hs h h1 h2 h3 h4 h5 h6
    have s1 := sv_isSo hs (a3 := l6) h1 h2 h3 h4 (by omega) (by omega) (gv_of h)
    have r1 := gv_RK h (gv_K_isSo hs (a2 := l2) (a3 := l6) h1 h2)
    rw [dc_R_burned_35_s]
    (repeat' split) <;> first | exact h | exact ih _ _ _ _ _ _ _ s1 r1 h1 h2 h3 h4 (by omega) (by omega)
theorem gv_burned {s : sg_S} (hs : sv s) (h : gv_R s) (a1 a2 a3 : Int) : gv_R (dc_R_burned s a1 a2 a3).1 := by
  have q := df_R_in_0 s a2 1 3
  unfold dc_R_burned
  split
  · exact h
  · rename_i c
    have := gx_house hs c
    split
    · exact h
    · exact gv_burned35 _ _ _ _ _ _ _ _ hs h (by omega) (by omega) (by omega) (by omega) (by omega) (by omega)
theorem gv_sure95 (n : Nat) : ∀ (s : sg_S) (l4 l5 : Int), gv_R s → gv_R (dc_R_sure_95 n s l4 l5).1 := by
  induction n with
  | zero => intro s l4 l5 h; exact h
  | succ n ih =>
    intro s l4 l5 h
    rw [dc_R_sure_95_s]
    (repeat' split) <;> first | exact h | exact ih _ _ _ h
theorem gv_sure43 (n : Nat) : ∀ (s : sg_S) (l1 l2 l3 l4 l5 : Int), sv s → gv_R s → 0 ≤ l1 → l1 ≤ 8 → 1 ≤ l2 → l2 ≤ 3 → 0 ≤ l5 → l5 + (n : Int) ≤ 600 → gv_R (dc_R_sure_43 n s l1 l2 l3 l4 l5).1 := by
  induction n with
  | zero => intro s l1 l2 l3 l4 l5 _ h _ _ _ _ _ _; exact h
  | succ n ih =>
    intro s l1 l2 l3 l4 l5 hs h h1 h2 h3 h4 h5 h6
    have s1 := sv_isSo hs (a3 := l5) h1 h2 h3 h4 (by omega) (by omega) (gv_of h)
    have r1 := gv_RK h (gv_K_isSo hs (a2 := l2) (a3 := l5) h1 h2)
    rw [dc_R_sure_43_s]
    (repeat' split) <;> first | exact gv_sure95 _ _ _ _ h | exact ih _ _ _ _ _ _ s1 r1 h1 h2 h3 h4 (by omega) (by omega)
theorem gv_sure {s : sg_S} (hs : sv s) (h : gv_R s) (a1 a2 a3 : Int) : gv_R (dc_R_sure s a1 a2 a3).1 := by
  have q := df_R_in_0 s a2 1 3
  unfold dc_R_sure
  split
  · exact h
  · rename_i c
    have := gx_house hs c
    split
    · exact h
    · split
      · exact h
      · exact gv_sure43 _ _ _ _ _ _ _ hs h (by omega) (by omega) (by omega) (by omega) (by omega) (by omega)
theorem gv_seed {s : sg_S} (h : gv_R s) (a1 : Int) : gv_R (dc_R_seed s a1).1 := by
  unfold dc_R_seed
  split
  · exact gv_RK h (gv_K_up (by decide))
  · exact h
theorem gv_keep {s : sg_S} (h : gv_R s) (a1 : Int) : gv_R (dc_R_keep s a1).1 := by
  have q := df_R_in_0 s a1 0 1
  unfold dc_R_keep
  split
  · exact h
  · have e6 : (sg_up (sg_up (dc_R_copy s 0 (224 + (112 * a1))) 236 ((a1).toNat) 1) 234 2 0) 234 6 = s 234 6 := by rw [sg_nk (by decide), sg_na (by decide), dr_R_copy _ _ _ 234 6 rfl]
    have e5 : ∀ k, (sg_up (sg_up (dc_R_copy s 0 (224 + (112 * a1))) 236 ((a1).toNat) 1) 234 2 0) 235 k = dc_R_copy s 0 (224 + (112 * a1)) 235 k := fun k => by rw [sg_na (by decide), sg_na (by decide)]
    refine ⟨?_, fun j hj => ?_, fun i hi hk => ?_⟩
    · unfold gv_G
      dsimp only
      rw [e6, e5, rb_copy_out _ _ _ _ (by omega) (by omega)]
      exact h.1
    · dsimp only at hj
      rw [sg_eq] at hj
      omega
    · unfold gv_G
      dsimp only
      rw [e6, e5]
      by_cases e : i = a1.toNat
      · have e3 := rb_copy_in s 0 (224 + (112 * a1)) 11 (by omega) (by omega) (by omega) (by omega) (by omega)
        rw [show 112 * (2 + i) + 11 = (224 + (112 * a1) + 11).toNat by omega, e3]
        exact h.1
      · dsimp only at hk
        rw [sg_na (by decide), sg_nk e, dr_R_copy _ _ _ 236 i rfl] at hk
        rw [rb_copy_out _ _ _ _ (by omega) (by omega)]
        exact h.2.2 i hi hk
theorem gv_goBack {s : sg_S} (h : gv_R s) (a1 : Int) : gv_R (dc_R_goBack s a1).1 := by
  have q := df_R_in_0 s a1 0 1
  unfold dc_R_goBack
  split
  · exact h
  · split
    · exact h
    · rename_i c1 c2
      have e6 : (sg_up (dc_R_copy s (224 + (112 * a1)) 0) 234 2 0) 234 6 = s 234 6 := by rw [sg_nk (by decide), dr_R_copy _ _ _ 234 6 rfl]
      refine ⟨?_, fun j hj => ?_, fun i hi hk => ?_⟩
      · unfold gv_G
        dsimp only
        have e3 := rb_copy_in s (224 + (112 * a1)) 0 11 (by omega) (by omega) (by omega) (by omega) (by omega)
        rw [e6, sg_na (by decide), show 112 * 0 + 11 = ((0 : Int) + 11).toNat by omega, e3, show (224 + (112 * a1) + 11).toNat = 112 * (2 + a1.toNat) + 11 by omega]
        exact h.2.2 _ (by omega) c2
      · dsimp only at hj
        rw [sg_eq] at hj
        omega
      · unfold gv_G
        dsimp only
        dsimp only at hk
        rw [sg_na (by decide), dr_R_copy _ _ _ 236 i rfl] at hk
        rw [e6, sg_na (by decide), rb_copy_out _ _ _ _ (by omega) (by omega)]
        exact h.2.2 i hi hk
theorem gv_feed {s : sg_S} (h : gv_R s) (a1 : Int) : gv_R (dc_R_feed s a1).1 := gv_RK h ⟨dr_R_feed s a1 234 6 rfl, dr_R_feed s a1 234 2 rfl, fun i => dr_R_feed s a1 236 i rfl, fun q _ => dr_R_feed s a1 235 _ rfl⟩
theorem gv_see {s : sg_S} (h : gv_R s) (a1 a2 a3 : Int) : gv_R (dc_R_see s a1 a2 a3).1 := gv_RK h ⟨dr_R_see s a1 a2 a3 234 6 rfl, dr_R_see s a1 a2 a3 234 2 rfl, fun i => dr_R_see s a1 a2 a3 236 i rfl, fun q _ => dr_R_see s a1 a2 a3 235 _ rfl⟩
theorem gv_write {s : sg_S} (h : gv_R s) (a1 a2 : Int) : gv_R (dc_R_write s a1 a2).1 := gv_RK h ⟨dr_R_write s a1 a2 234 6 rfl, dr_R_write s a1 a2 234 2 rfl, fun i => dr_R_write s a1 a2 236 i rfl, fun q _ => dr_R_write s a1 a2 235 _ rfl⟩
theorem gv_trade {s : sg_S} (h : gv_R s) (a1 a2 a3 : Int) : gv_R (dc_R_trade s a1 a2 a3).1 := gv_RK h ⟨dr_R_trade s a1 a2 a3 234 6 rfl, dr_R_trade s a1 a2 a3 234 2 rfl, fun i => dr_R_trade s a1 a2 a3 236 i rfl, fun q _ => dr_R_trade s a1 a2 a3 235 _ rfl⟩
theorem gv_ring {s : sg_S} (h : gv_R s) (a1 : Int) : gv_R (dc_R_ring s a1).1 := gv_RK h ⟨dr_R_ring s a1 234 6 rfl, dr_R_ring s a1 234 2 rfl, fun i => dr_R_ring s a1 236 i rfl, fun q _ => dr_R_ring s a1 235 _ rfl⟩
theorem gv_tear {s : sg_S} (h : gv_R s) : gv_R (dc_R_tear s).1 := gv_RK h ⟨dr_R_tear s 234 6 rfl, dr_R_tear s 234 2 rfl, fun i => dr_R_tear s 236 i rfl, fun q _ => dr_R_tear s 235 _ rfl⟩
