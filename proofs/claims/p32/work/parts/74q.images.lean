/-! IMAGES -/
theorem r2_keep {s t : sg_S} (ht : sv t) (h : r2 s t) (a1 : Int) : r2 (dc_C_keep s a1).1 (dc_R_keep t a1).1 := by
  have hb := st_b_of ht
  obtain ⟨g1, ⟨p1, p2, p3, p4, p5, p6⟩, g3, g4, g5, c0, c1, c2, c3, c4⟩ := id h
  unfold dc_C_keep dc_R_keep
  by_cases z : 0 ≤ a1 ∧ a1 ≤ 1
  · rw [if_neg (show ¬ a1 < 0 by omega), if_pos (show a1 < 2 by omega), if_neg (eq_in1 z)]
    dsimp only
    have cN : ∀ j l, j ≤ 5 → (j ≠ 0 ∨ l = 5 ∨ l = 6) → dc_Past_forget (dc_Im_put s a1 (s 0 9)) (205 + 6 * a1.toNat + j) l = s (13 + j) l := fun j l hj hl => by
      unfold dc_Past_forget dc_Im_put
      rw [sg_na (by omega), sg_na (by omega), sg_na (by omega), st_copy_to _ _ _ j l hj hl]
    have cO : ∀ a l, a ≠ 19 → a ≠ 203 → a ≠ 204 → (a < 205 + 6 * a1.toNat ∨ 205 + 6 * a1.toNat + 5 < a) → dc_Past_forget (dc_Im_put s a1 (s 0 9)) a l = s a l := fun a l h1 h2 h3 h4 => by
      unfold dc_Past_forget dc_Im_put
      rw [sg_na h1, sg_na h3, sg_na h2, sg_copyn h4]
    have c191 : dc_Past_forget (dc_Im_put s a1 (s 0 9)) 19 1 = s 19 1 := by
      unfold dc_Past_forget dc_Im_put
      rw [sg_nk (by decide), sg_na (by decide), sg_na (by decide), sg_copyn (by omega)]
    have c192 : dc_Past_forget (dc_Im_put s a1 (s 0 9)) 19 2 = 0 := sg_eq _ _ _ _
    have c203 : ∀ i : Nat, dc_Past_forget (dc_Im_put s a1 (s 0 9)) 203 i = if i = a1.toNat then s 0 9 else s 203 i := fun i => by
      unfold dc_Past_forget dc_Im_put
      rw [sg_na (by decide), sg_na (by decide)]
      by_cases q : i = a1.toNat
      · rw [if_pos q, q, sg_eq]
      · rw [if_neg q, sg_nk q, sg_copyn (by omega)]
    have rI : ∀ p, p < 112 → sg_up (sg_up (dc_R_copy t 0 (224 + (112 * a1))) 236 ((a1).toNat) 1) 234 2 0 235 (112 * (2 + a1.toNat) + p) = t 235 p := fun p hp => by
      have := rb_copy_in t 0 (224 + 112 * a1) (p : Int) (by omega) (by omega) (by omega) (by omega) (by omega)
      rw [sg_na (by decide), sg_na (by decide), show 112 * (2 + a1.toNat) + p = (224 + 112 * a1 + (p : Int)).toNat by omega, this, show ((0 : Int) + (p : Int)).toNat = p by omega]
    have rO : ∀ k, (k < 112 * (2 + a1.toNat) ∨ 112 * (2 + a1.toNat) + 112 ≤ k) → sg_up (sg_up (dc_R_copy t 0 (224 + (112 * a1))) 236 ((a1).toNat) 1) 234 2 0 235 k = t 235 k := fun k hk => by
      rw [sg_na (by decide), sg_na (by decide), rb_copy_out _ _ _ _ (by omega) (by omega)]
    have r234 : ∀ k, k ≠ 2 → sg_up (sg_up (dc_R_copy t 0 (224 + (112 * a1))) 236 ((a1).toNat) 1) 234 2 0 234 k = t 234 k := fun k hk => by
      rw [sg_nk hk, sg_na (by decide), dr_R_copy _ _ _ 234 k rfl]
    have r2v : sg_up (sg_up (dc_R_copy t 0 (224 + (112 * a1))) 236 ((a1).toNat) 1) 234 2 0 234 2 = 0 := sg_eq _ _ _ _
    have r236 : ∀ i : Nat, i ≠ a1.toNat → sg_up (sg_up (dc_R_copy t 0 (224 + (112 * a1))) 236 ((a1).toNat) 1) 234 2 0 236 i = t 236 i := fun i hi => by
      rw [sg_na (by decide), sg_nk hi, dr_R_copy _ _ _ 236 i rfl]
    have r237 : ∀ x, sg_up (sg_up (dc_R_copy t 0 (224 + (112 * a1))) 236 ((a1).toNat) 1) 234 2 0 237 x = t 237 x := fun x => by
      rw [sg_na (by decide), sg_na (by decide), dr_R_copy _ _ _ 237 x rfl]
    generalize sg_up (sg_up (dc_R_copy t 0 (224 + (112 * a1))) 236 ((a1).toNat) 1) 234 2 0 = T at *
    generalize dc_Past_forget (dc_Im_put s a1 (s 0 9)) = S at *
    refine ⟨st_go hb (by omega) (r234 6 (by decide)) (r234 7 (by decide)) (fun j l _ _ => cO _ l (by omega) (by omega) (by omega) (by omega)) (fun p _ => rO _ (by omega)) g1, ⟨by rw [c192, r2v], by rw [c192]; omega, by rw [c192]; omega, by rw [c191]; exact p4, by rw [c191]; exact p5, fun x hx => ?_⟩, fun i hi hk => ?_, ?_, fun x hx => ?_, ?_, ?_, ?_, ?_, ?_⟩
    · rw [c192] at hx; omega
    · by_cases q : i = a1.toNat
      · subst q
        refine ⟨st_go hb (by omega) (r234 6 (by decide)) (r234 7 (by decide)) cN (fun p hp => by rw [rI p (by omega), show 112 * 0 + p = p by omega]) g1, ?_⟩
        rw [c203, if_pos rfl, rI 111 (by omega)]
        exact g4
      · rw [r236 i q] at hk
        obtain ⟨k1, k2⟩ := g3 i hi hk
        refine ⟨st_go hb (by omega) (r234 6 (by decide)) (r234 7 (by decide)) (fun j l _ _ => cO _ l (by omega) (by omega) (by omega) (by omega)) (fun p _ => rO _ (by omega)) k1, ?_⟩
        rw [c203, if_neg q, rO _ (by omega)]
        exact k2
    · rw [cO 0 9 (by omega) (by omega) (by omega) (by omega), rO 111 (by omega)]; exact g4
    · rw [r234 7 (by decide)] at hx
      rw [cO 12 x (by omega) (by omega) (by omega) (by omega), r237]
      exact g5 x hx
    · rw [cO 8 0 (by omega) (by omega) (by omega) (by omega), r234 3 (by decide)]; exact c0
    · rw [cO 8 1 (by omega) (by omega) (by omega) (by omega), r234 4 (by decide)]; exact c1
    · rw [cO 8 2 (by omega) (by omega) (by omega) (by omega), r234 5 (by decide)]; exact c2
    · rw [cO 8 3 (by omega) (by omega) (by omega) (by omega), r234 6 (by decide)]; exact c3
    · rw [cO 8 4 (by omega) (by omega) (by omega) (by omega), r234 7 (by decide)]; exact c4
  · rw [if_pos (eq_in0 z)]
    (repeat' split) <;> first | exact h | omega
theorem r2_goBack {s t : sg_S} (ht : sv t) (h : r2 s t) (hk : ∀ i, i < 2 → s 204 i = t 236 i) (a1 : Int) : r2 (dc_C_goBack s a1).1 (dc_R_goBack t a1).1 := by
  have hb := st_b_of ht
  obtain ⟨g1, ⟨p1, p2, p3, p4, p5, p6⟩, g3, g4, g5, c0, c1, c2, c3, c4⟩ := id h
  unfold dc_C_goBack dc_R_goBack dc_Im_isKept
  by_cases z : 0 ≤ a1 ∧ a1 ≤ 1
  · have hk1 := hk a1.toNat (by omega)
    rw [if_neg (show ¬ a1 < 0 by omega), if_pos (show a1 < 2 by omega), if_neg (eq_in1 z), hk1]
    by_cases y : t 236 a1.toNat = 0
    · rw [if_pos y, if_pos y]; exact h
    · rw [if_neg y, if_neg y]
      obtain ⟨k1, k2⟩ := g3 a1.toNat (by omega) y
      dsimp only
      have cN : ∀ j l, j ≤ 5 → (j ≠ 0 ∨ l = 5 ∨ l = 6) → dc_Past_forget (sg_up (dc_Im_bringBack s a1).1 0 9 ((dc_Im_bringBack s a1).2)) (13 + j) l = s (205 + 6 * a1.toNat + j) l := fun j l hj hl => by
        unfold dc_Past_forget dc_Im_bringBack
        rw [sg_na (by omega), sg_na (by omega)]
        exact st_copy_to _ _ _ j l hj hl
      have cO : ∀ a l, a ≠ 19 → a ≠ 0 → (a < 13 ∨ 18 < a) → dc_Past_forget (sg_up (dc_Im_bringBack s a1).1 0 9 ((dc_Im_bringBack s a1).2)) a l = s a l := fun a l h1 h2 h3 => by
        unfold dc_Past_forget dc_Im_bringBack
        rw [sg_na h1, sg_na h2]
        show sg_copy s (205 + 6 * (a1).toNat) 13 a l = s a l
        exact sg_copyn (by omega)
      have c191 : dc_Past_forget (sg_up (dc_Im_bringBack s a1).1 0 9 ((dc_Im_bringBack s a1).2)) 19 1 = s 19 1 := by
        unfold dc_Past_forget dc_Im_bringBack
        rw [sg_nk (by decide), sg_na (by decide)]
        show sg_copy s (205 + 6 * (a1).toNat) 13 19 1 = s 19 1
        exact sg_copyn (by omega)
      have c192 : dc_Past_forget (sg_up (dc_Im_bringBack s a1).1 0 9 ((dc_Im_bringBack s a1).2)) 19 2 = 0 := sg_eq _ _ _ _
      have c09 : dc_Past_forget (sg_up (dc_Im_bringBack s a1).1 0 9 ((dc_Im_bringBack s a1).2)) 0 9 = s 203 a1.toNat := by
        unfold dc_Past_forget dc_Im_bringBack
        rw [sg_na (by decide), sg_eq]
      have rI : ∀ p, p < 112 → sg_up (dc_R_copy t (224 + (112 * a1)) 0) 234 2 0 235 p = t 235 (112 * (2 + a1.toNat) + p) := fun p hp => by
        have := rb_copy_in t (224 + 112 * a1) 0 (p : Int) (by omega) (by omega) (by omega) (by omega) (by omega)
        rw [sg_na (by decide), show p = ((0 : Int) + (p : Int)).toNat by omega, this, show (224 + 112 * a1 + (p : Int)).toNat = 112 * (2 + a1.toNat) + ((0 : Int) + (p : Int)).toNat by omega]
      have rO : ∀ k, 112 ≤ k → sg_up (dc_R_copy t (224 + (112 * a1)) 0) 234 2 0 235 k = t 235 k := fun k hk' => by
        rw [sg_na (by decide), rb_copy_out _ _ _ _ (by omega) (by omega)]
      have r234 : ∀ k, k ≠ 2 → sg_up (dc_R_copy t (224 + (112 * a1)) 0) 234 2 0 234 k = t 234 k := fun k hk' => by
        rw [sg_nk hk', dr_R_copy _ _ _ 234 k rfl]
      have r2v : sg_up (dc_R_copy t (224 + (112 * a1)) 0) 234 2 0 234 2 = 0 := sg_eq _ _ _ _
      have r236 : ∀ i, sg_up (dc_R_copy t (224 + (112 * a1)) 0) 234 2 0 236 i = t 236 i := fun i => by
        rw [sg_na (by decide), dr_R_copy _ _ _ 236 i rfl]
      have r237 : ∀ i, sg_up (dc_R_copy t (224 + (112 * a1)) 0) 234 2 0 237 i = t 237 i := fun i => by
        rw [sg_na (by decide), dr_R_copy _ _ _ 237 i rfl]
      generalize sg_up (dc_R_copy t (224 + (112 * a1)) 0) 234 2 0 = T at *
      generalize dc_Past_forget (sg_up (dc_Im_bringBack s a1).1 0 9 ((dc_Im_bringBack s a1).2)) = S at *
      refine ⟨st_go hb (by omega) (r234 6 (by decide)) (r234 7 (by decide)) cN (fun p hp => by rw [show 112 * 0 + p = p by omega, rI p (by omega)]) k1, ⟨by rw [c192, r2v], by rw [c192]; omega, by rw [c192]; omega, by rw [c191]; exact p4, by rw [c191]; exact p5, fun x hx => ?_⟩, fun i hi hk' => ?_, ?_, fun x hx => ?_, ?_, ?_, ?_, ?_, ?_⟩
      · rw [c192] at hx; omega
      · rw [r236] at hk'
        obtain ⟨m1, m2⟩ := g3 i hi hk'
        refine ⟨st_go hb (by omega) (r234 6 (by decide)) (r234 7 (by decide)) (fun j l _ _ => cO _ l (by omega) (by omega) (by omega)) (fun p _ => rO _ (by omega)) m1, ?_⟩
        rw [cO 203 i (by omega) (by omega) (by omega), rO _ (by omega)]
        exact m2
      · rw [c09, rI 111 (by omega)]; exact k2
      · rw [r234 7 (by decide)] at hx
        rw [cO 12 x (by omega) (by omega) (by omega), r237]
        exact g5 x hx
      · rw [cO 8 0 (by omega) (by omega) (by omega), r234 3 (by decide)]; exact c0
      · rw [cO 8 1 (by omega) (by omega) (by omega), r234 4 (by decide)]; exact c1
      · rw [cO 8 2 (by omega) (by omega) (by omega), r234 5 (by decide)]; exact c2
      · rw [cO 8 3 (by omega) (by omega) (by omega), r234 6 (by decide)]; exact c3
      · rw [cO 8 4 (by omega) (by omega) (by omega), r234 7 (by decide)]; exact c4
  · rw [if_pos (eq_in0 z)]
    (repeat' split) <;> first | exact h | omega
