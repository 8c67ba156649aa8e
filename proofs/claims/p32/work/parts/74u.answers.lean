/-! ANSWERS OUT OF THE STREETS -/
theorem r2_paid {s t : sg_S} (h : r2 s t) : s 13 6 = t 235 1 := st_at h.1 (p := 1) (by unfold st_v; omega) (by omega)
theorem an_told {s : sg_S} (hs : sv s) (h1 : r1 s) (h : r2 s s) (a : Int) : dc_C_told s a = dc_R_told s a := by
  unfold dc_C_told dc_R_told
  rw [r2_told h, h.2.2.2.2.2.2.1, h.2.2.2.2.2.2.2.1, r2_houses h, r2_sweeps h, r1_len h1, r2_months h, su_same hs h.1, r2_paid h, r1_seen h1, r1_book h1, h.2.1.1]
theorem an_burns {s t : sg_S} (ht : sv t) (h : r2 s t) {a : Int} (h0 : 0 ≤ a) (h1 : a < t 234 6) : s 15 a.toNat = t 235 ((2 + a).toNat) := by
  have b9 := (st_b_of ht).2.1
  have pa : st_pa1 (2 + a.toNat) = 2 := by unfold st_pa1; rw [if_neg (by omega), if_pos (by omega)]
  have pk : st_pk (2 + a.toNat) = a.toNat := by unfold st_pk; rw [if_neg (by omega), if_neg (by omega), if_pos (by omega)]; omega
  have q := st_at h.1 (p := 2 + a.toNat) (by unfold st_v; omega) (by omega)
  rw [pa, pk] at q
  rw [show (2 + a).toNat = 2 + a.toNat by omega]
  exact q
theorem an_into {s t : sg_S} (ht : sv t) (h : r2 s t) {a : Int} (h0 : 0 ≤ a) (h1 : a < t 234 6) : s 16 a.toNat = t 235 ((11 + a).toNat) := by
  have b9 := (st_b_of ht).2.1
  have pa : st_pa1 (11 + a.toNat) = 3 := by unfold st_pa1; rw [if_neg (by omega), if_neg (by omega), if_pos (by omega)]
  have pk : st_pk (11 + a.toNat) = a.toNat := by unfold st_pk; rw [if_neg (by omega), if_neg (by omega), if_neg (by omega), if_pos (by omega)]; omega
  have q := st_at h.1 (p := 11 + a.toNat) (by unfold st_v; omega) (by omega)
  rw [pa, pk] at q
  rw [show (11 + a).toNat = 11 + a.toNat by omega]
  exact q
theorem an_new {s t : sg_S} (ht : sv t) (h : r2 s t) (s0 : sg_S) {a : Int} (h0 : 0 ≤ a) (h1 : a < t 234 6) : dc_Soot_newest s0 (s 14 a.toNat) = dc_R_newestOf t a := by
  obtain ⟨e, m, f⟩ := fl_lay ht h.1 (x := a.toNat) (by omega)
  have f' : ∀ l, l < (t 235 (20 + a.toNat)).toNat → 0 ≤ t 235 (29 + 8 * a.toNat + l) ∧ t 235 (29 + 8 * a.toNat + l) ≤ 7 := fun l hl => by have := f l hl; omega
  have b := so_24 (f := fun l => t 235 (29 + 8 * a.toNat + l)) (m := (t 235 (20 + a.toNat)).toNat) (by omega) f'
  unfold dc_Soot_newest dc_R_newestOf
  rw [e, so_new s0 b.1 b.2 (by omega) (by omega), show (20 + a).toNat = 20 + a.toNat by omega]
  by_cases c : t 235 (20 + a.toNat) = 0
  · rw [if_pos c, so_dig0 f' (by omega)]
  · rw [if_neg c]
    have := so_dig (f := fun l => t 235 (29 + 8 * a.toNat + l)) 0 (t 235 (20 + a.toNat)).toNat f' (by omega)
    rw [show (0 : Int).toNat = 0 by decide, this, show (29 + 8 * a + t 235 (20 + a.toNat) - 1).toNat = 29 + 8 * a.toNat + ((t 235 (20 + a.toNat)).toNat - 1 - 0) by omega]
theorem an_house {s t : sg_S} (ht : sv t) (h : r2 s t) (a1 a2 : Int) : dc_C_house s a1 a2 = dc_R_house t a1 a2 := by
  unfold dc_C_house dc_R_house
  by_cases c1 : dc_R_isHouse t a1 = 0
  · rw [if_pos ((r2_hh h a1).mpr c1), if_pos c1]
  · have k1 : 0 ≤ a1 ∧ a1 < t 234 6 := Decidable.not_not.mp (fun z => c1 ((r1_hR t a1).mpr z))
    rw [if_neg (fun z => c1 ((r2_hh h a1).mp z)), if_neg c1, an_burns ht h k1.1 k1.2, an_into ht h k1.1 k1.2, fl_cnt ht h.1 s (by omega), an_new ht h s k1.1 k1.2, show (20 + a1).toNat = 20 + a1.toNat by omega]
theorem an_layer {s t : sg_S} (ht : sv t) (h : r2 s t) (a1 a2 : Int) : dc_C_layer s a1 a2 = dc_R_layer t a1 a2 := by
  unfold dc_C_layer dc_R_layer
  by_cases c1 : dc_R_isHouse t a1 = 0
  · rw [if_pos ((r2_hh h a1).mpr c1), if_pos c1]
  · have k1 : 0 ≤ a1 ∧ a1 < t 234 6 := Decidable.not_not.mp (fun z => c1 ((r1_hR t a1).mpr z))
    rw [if_neg (fun z => c1 ((r2_hh h a1).mp z)), if_neg c1]
    by_cases c2 : 0 ≤ a2 ∧ a2 ≤ 7
    · rw [if_neg (by omega), if_pos (by omega), if_neg (eq_in1 c2)]
      obtain ⟨e, m, f⟩ := fl_lay ht h.1 (x := a1.toNat) (by omega)
      have f' : ∀ l, l < (t 235 (20 + a1.toNat)).toNat → 0 ≤ t 235 (29 + 8 * a1.toNat + l) ∧ t 235 (29 + 8 * a1.toNat + l) ≤ 7 := fun l hl => by have := f l hl; omega
      have b := so_24 (f := fun l => t 235 (29 + 8 * a1.toNat + l)) (m := (t 235 (20 + a1.toNat)).toNat) (by omega) f'
      unfold dc_Soot_fromOldest dc_R_layerAt
      rw [fl_cnt ht h.1 s (by omega), show ((0 + 20 : Int) + a1).toNat = 20 + a1.toNat by omega]
      by_cases c : t 235 (20 + a1.toNat) ≤ a2
      · rw [if_neg (by omega), if_pos c]
      · rw [if_pos (by omega), if_neg c, e, so_new s b.1 b.2 (by omega) (by omega)]
        have := so_dig (f := fun l => t 235 (29 + 8 * a1.toNat + l)) (t 235 (20 + a1.toNat) - 1 - a2).toNat (t 235 (20 + a1.toNat)).toNat f' (by omega)
        rw [this, show ((0 + 29 : Int) + 8 * a1 + a2).toNat = 29 + 8 * a1.toNat + ((t 235 (20 + a1.toNat)).toNat - 1 - (t 235 (20 + a1.toNat) - 1 - a2).toNat) by omega]
    · rw [if_pos (eq_in0 c2)]
      (repeat' split) <;> first | rfl | omega
theorem an_sweep {s t : sg_S} (ht : sv t) (h : r2 s t) (a1 a2 : Int) : dc_C_sweep s a1 a2 = dc_R_sweep t a1 a2 := by
  have b5 := (st_b_of ht).2.2.2.1
  unfold dc_C_sweep dc_R_sweep
  have e := r2_sweeps h
  have kC := r2_sC s a1
  have kR := r2_sR t a1
  rw [e] at kC
  by_cases c1 : dc_R_isSweep t a1 = 0
  · rw [if_pos (kC.mpr (kR.mp c1)), if_pos c1]
  · have k1 : 0 ≤ a1 ∧ a1 < t 234 7 := Decidable.not_not.mp (fun z => c1 (kR.mpr z))
    rw [if_neg (fun z => c1 (kR.mpr (kC.mp z))), if_neg c1, r2_kn h.1 k1.1 k1.2 (by omega), r2_pu h.1 k1.1 k1.2 (by omega), h.2.2.2.2.1 a1.toNat (by omega)]
    have w1 : sy_w (t 235 ((101 + a1).toNat)) = t 235 ((101 + a1).toNat) := by
      obtain ⟨hp, hH, rfl⟩ := ht
      have := sg_wcN 101 106 (lo := 0) (hi := 511) (by decide) (by omega) (by omega) (by omega) (sg_rngW hH (z := 101 + a1) (by omega) (by omega))
      exact sy_w_id ⟨by omega, by omega⟩
    have w2 : sy_w (t 237 a1.toNat) = t 237 a1.toNat := by
      have := sv_bd ht (a := 237) (k := a1.toNat) (lo := 0) (hi := 99) rfl (by omega) (ab_el_1 rfl _)
      exact sy_w_id ⟨by omega, by omega⟩
    rw [w1, w2, sy_w_id (z := -1000000002) (by decide)]
