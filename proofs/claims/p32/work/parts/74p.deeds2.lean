/-! SWAPS AND PAY -/
theorem r2_swap {s t : sg_S} (ht : sv t) (h : r2 s t) (a1 a2 a3 a4 : Int) : r2 (dc_C_swap s a1 a2 a3 a4).1 (dc_R_swap t a1 a2 a3 a4).1 := by
  have hb := st_b_of ht
  have b5 := hb.2.2.2.1
  obtain ⟨w1, w2⟩ := r2_two h a1 a3
  unfold dc_C_swap dc_R_swap
  by_cases c1 : dc_R_areTwo t a1 a3 = 0
  · rw [if_pos (w1.mpr c1), if_pos c1]; exact h
  have k := Decidable.not_not.mp (fun z => c1 (w2.mpr z))
  rw [if_neg (fun z => c1 (w1.mp z)), if_neg c1]
  by_cases c2 : dc_R_isHouse t a2 = 0
  · rw [if_pos ((r2_hh h a2).mpr c2), if_pos c2]; exact h
  rw [if_neg (fun z => c2 ((r2_hh h a2).mp z)), if_neg c2]
  by_cases c3 : dc_R_isHouse t a4 = 0
  · rw [if_pos ((r2_hh h a4).mpr c3), if_pos c3]; exact h
  rw [if_neg (fun z => c3 ((r2_hh h a4).mp z)), if_neg c3]
  have g1 := r2_give h.1 (x := a1) (y := a3) (m := a2) k.1.1 k.1.2 (by omega) k.2.1.1 k.2.1.2 (by omega)
  have g2 := r2_give h.1 (x := a3) (y := a1) (m := a4) k.2.1.1 k.2.1.2 (by omega) k.1.1 k.1.2 (by omega)
  by_cases c4 : a2 = a4
  · rw [if_pos c4]
    subst c4
    (repeat' split) <;> first | exact h | (exfalso; omega)
  rw [if_neg c4]
  by_cases c5 : dc_R_isKnown t a1 a2 = 0
  · rw [if_pos c5, if_pos (g1.mpr (Or.inl c5))]; exact h
  rw [if_neg c5]
  by_cases c6 : dc_R_isKnown t a3 a2 = 0
  · rw [if_pos c6, if_neg (by omega)]
    by_cases c7 : dc_R_isKnown t a3 a4 = 0
    · rw [if_pos c7, if_pos (g2.mpr (Or.inl c7))]; exact h
    rw [if_neg c7]
    by_cases c8 : dc_R_isKnown t a1 a4 = 0
    · rw [if_pos c8, if_neg (by omega)]
      dsimp only
      have hm := r2_minds ht h
      have hbm := st_b_of (sv_minds ht)
      have e7 : dc_R_minds t 234 7 = t 234 7 := dr_R_minds t 234 7 rfl
      have v3 := r2_kn hm.1 (x := a3) k.2.1.1 (by rw [e7]; exact k.2.1.2) (by omega)
      have v1 := r2_kn hm.1 (x := a1) k.1.1 (by rw [e7]; exact k.1.2) (by omega)
      unfold dc_St_learn
      rw [sg_nk (show a1.toNat ≠ a3.toNat by omega), sg_nk (show (101 + a3).toNat ≠ (101 + a1).toNat by omega), v3, v1, sg_upc _ _ _ (show (101 + a1).toNat ≠ (101 + a3).toNat by omega)]
      exact r2_learn (st_b_up hbm (by omega)) (r2_learn hbm hm k.2.1.1 (by omega) _) k.1.1 (by omega) _
    · rw [if_neg c8, if_pos (g2.mpr (Or.inr c8))]; exact h
  · rw [if_neg c6, if_pos (g1.mpr (Or.inr c6))]; exact h
theorem r2_pay {s t : sg_S} (ht : sv t) (h : r2 s t) (a1 a2 a3 : Int) : (dc_C_pay s a1 a2 a3).2 = (dc_R_pay t a1 a2 a3).2 ∧ r2 (dc_C_pay s a1 a2 a3).1 (dc_R_pay t a1 a2 a3).1 := by
  have hb := st_b_of ht
  have b5 := hb.2.2.2.1
  obtain ⟨w1, w2⟩ := r2_two h a1 a2
  unfold dc_C_pay dc_R_pay
  by_cases c1 : dc_R_areTwo t a1 a2 = 0
  · rw [if_pos (w1.mpr c1), if_pos c1]; exact ⟨rfl, h⟩
  have k := Decidable.not_not.mp (fun z => c1 (w2.mpr z))
  rw [if_neg (fun z => c1 (w1.mp z)), if_neg c1]
  by_cases c2 : dc_R_isHouse t a3 = 0
  · rw [if_pos ((r2_hh h a3).mpr c2), if_pos c2]; exact ⟨rfl, h⟩
  rw [if_neg (fun z => c2 ((r2_hh h a3).mp z)), if_neg c2]
  have g1 := r2_give h.1 (x := a2) (y := a1) (m := a3) k.2.1.1 k.2.1.2 (by omega) k.1.1 k.1.2 (by omega)
  by_cases c5 : dc_R_isKnown t a2 a3 = 0
  · rw [if_pos c5, if_pos (g1.mpr (Or.inl c5))]; exact ⟨rfl, h⟩
  rw [if_neg c5]
  by_cases c6 : dc_R_isKnown t a1 a3 = 0
  · rw [if_pos c6, if_neg (by omega)]
    dsimp only
    have hm := r2_minds ht h
    have hbm := st_b_of (sv_minds ht)
    have e7 : dc_R_minds t 234 7 = t 234 7 := dr_R_minds t 234 7 rfl
    have pr : dc_Past_remember s 12 a2.toNat = t 237 a2.toNat := (dr_Past_remember s 12 _ rfl).trans (h.2.2.2.2.1 a2.toNat (by omega))
    have v1 := r2_kn hm.1 (x := a1) k.1.1 (by rw [e7]; exact k.1.2) (by omega)
    unfold dc_St_learn
    rw [pr, v1]
    refine ⟨rfl, ?_⟩
    generalize t 237 a2.toNat = P
    have s1 := r2_learn hbm hm k.1.1 (show a1 ≤ 4 by omega) (sy_or (dc_R_minds t 235 ((101 + a1).toNat)) (sy_shl 1 a3))
    have q1 := st_b_up (v := sy_or (dc_R_minds t 235 ((101 + a1).toNat)) (sy_shl 1 a3)) hbm (k := (101 + a1).toNat) (by omega)
    have n7 : ∀ (k : Nat) (v : Int) (X : sg_S), X 234 7 = t 234 7 → (sg_up X 235 k v) 234 7 = t 234 7 := fun k v X e => by rw [sg_na (by decide)]; exact e
    have e71 := n7 ((101 + a1).toNat) (sy_or (dc_R_minds t 235 ((101 + a1).toNat)) (sy_shl 1 a3)) _ e7
    generalize sg_up (dc_Past_remember s) 17 (a1.toNat) (sy_or (dc_R_minds t 235 ((101 + a1).toNat)) (sy_shl 1 a3)) = X1 at s1 ⊢
    generalize sg_up (dc_R_minds t) 235 ((101 + a1).toNat) (sy_or (dc_R_minds t 235 ((101 + a1).toNat)) (sy_shl 1 a3)) = Y1 at s1 q1 e71 ⊢
    have u1 := r2_pu s1.1 (x := a1) k.1.1 (by rw [e71]; exact k.1.2) (by omega)
    rw [u1]
    have s2 := r2_purse q1 s1 k.1.1 (show a1 ≤ 4 by omega) (sy_w (Y1 235 ((106 + a1).toNat) - P))
    have q2 := st_b_up (v := sy_w (Y1 235 ((106 + a1).toNat) - P)) q1 (k := (106 + a1).toNat) (by omega)
    have e72 := n7 ((106 + a1).toNat) (sy_w (Y1 235 ((106 + a1).toNat) - P)) _ e71
    have m2 : sg_up X1 18 a1.toNat (sy_w (Y1 235 ((106 + a1).toNat) - P)) 13 6 = X1 13 6 := sg_na (by decide) _ _ _
    rw [← m2]
    generalize sg_up X1 18 a1.toNat (sy_w (Y1 235 ((106 + a1).toNat) - P)) = X2 at s2 ⊢
    generalize sg_up Y1 235 ((106 + a1).toNat) (sy_w (Y1 235 ((106 + a1).toNat) - P)) = Y2 at s2 q2 e72 ⊢
    have u2 := r2_pu s2.1 (x := a2) k.2.1.1 (by rw [e72]; exact k.2.1.2) (by omega)
    rw [u2]
    have s3 := r2_purse q2 s2 k.2.1.1 (show a2 ≤ 4 by omega) (sy_w (Y2 235 ((106 + a2).toNat) + P))
    have q3 := st_b_up (v := sy_w (Y2 235 ((106 + a2).toNat) + P)) q2 (k := (106 + a2).toNat) (by omega)
    have m3 : sg_up X2 18 a2.toNat (sy_w (Y2 235 ((106 + a2).toNat) + P)) 13 6 = X2 13 6 := sg_na (by decide) _ _ _
    rw [← m3]
    generalize sg_up X2 18 a2.toNat (sy_w (Y2 235 ((106 + a2).toNat) + P)) = X3 at s3 ⊢
    generalize sg_up Y2 235 ((106 + a2).toNat) (sy_w (Y2 235 ((106 + a2).toNat) + P)) = Y3 at s3 q3 ⊢
    have u3 := st_at s3.1 (p := 1) (by unfold st_v; omega) (by omega)
    have u3' : X3 13 6 = Y3 235 1 := u3
    rw [u3']
    exact r2_set q3 s3 (p := 1) (by omega) _
  · rw [if_neg c6, if_pos (g1.mpr (Or.inr c6))]; exact ⟨rfl, h⟩
/-! UNDOING, IMAGES -/
theorem r2_undo {s t : sg_S} (ht : sv t) (h : r2 s t) (a1 : Int) : (dc_C_undo s a1).2 = (dc_R_undo t a1).2 ∧ r2 (dc_C_undo s a1).1 (dc_R_undo t a1).1 := by
  have hb := st_b_of ht
  obtain ⟨g1, ⟨p1, p2, p3, p4, p5, p6⟩, g3, g4, g5, c0, c1, c2, c3, c4⟩ := id h
  unfold dc_C_undo dc_R_undo
  by_cases z : 1 ≤ a1 ∧ a1 ≤ 30
  · rw [if_neg (show ¬ a1 < 1 by omega), if_pos z.2, if_neg (eq_in1 z), p1]
    by_cases y : a1 ≤ t 234 2
    · rw [if_pos y, if_pos y]
      dsimp only
      have slot := p6 (a1 - 1).toNat (by omega)
      rw [show (((a1 - 1).toNat : Nat) : Int) = a1 - 1 by omega] at slot
      have cC : ∀ j l, j ≤ 5 → (j ≠ 0 ∨ l = 5 ∨ l = 6) → dc_Past_bringBack s a1 (13 + j) l = s (21 + 6 * ((s 19 1 - (a1 - 1)) % 30).toNat + j) l := fun j l hj hl => by
        unfold dc_Past_bringBack
        rw [sg_na (by omega), sg_na (by omega), st_copy_to _ _ _ j l hj hl, show dc_Math_floorMod s (((s 19 1) - a1) + 1) 30 = (s 19 1 - (a1 - 1)) % 30 by unfold dc_Math_floorMod; rw [show s 19 1 - a1 + 1 = s 19 1 - (a1 - 1) by omega]]
      have cO : ∀ a l, (a < 13 ∨ 18 < a) → a ≠ 19 → dc_Past_bringBack s a1 a l = s a l := fun a l ha h19 => by
        unfold dc_Past_bringBack
        rw [sg_na h19, sg_na h19, sg_copyn (by omega)]
      have c191 : dc_Past_bringBack s a1 19 1 = (s 19 1 - a1) % 30 := by
        unfold dc_Past_bringBack
        rw [sg_nk (by decide), sg_eq]
        rfl
      have c192 : dc_Past_bringBack s a1 19 2 = s 19 2 - a1 := by
        unfold dc_Past_bringBack
        rw [sg_eq]
      have rI : ∀ p, p < 111 → sg_up (dc_R_copy (sg_up t 234 2 (t 234 2 - a1)) (448 + 112 * (t 234 2 - a1)) 0) 235 111 (t 235 111) 235 (112 * 0 + p) = t 235 (112 * (4 + (s 19 2 - 1 - (a1 - 1)).toNat) + p) := fun p hp => by
        have := rb_copy_in (sg_up t 234 2 (t 234 2 - a1)) (448 + 112 * (t 234 2 - a1)) 0 (p : Int) (by omega) (by omega) (by omega) (by omega) (by omega)
        rw [sg_nk (by omega), show 112 * 0 + p = ((0 : Int) + (p : Int)).toNat by omega, this, sg_na (by decide), p1, show (448 + 112 * (t 234 2 - a1) + (p : Int)).toNat = 112 * (4 + (t 234 2 - 1 - (a1 - 1)).toNat) + p by omega]
      have rO : ∀ k, 112 ≤ k → sg_up (dc_R_copy (sg_up t 234 2 (t 234 2 - a1)) (448 + 112 * (t 234 2 - a1)) 0) 235 111 (t 235 111) 235 k = t 235 k := fun k hk => by
        rw [sg_nk (by omega), rb_copy_out _ _ _ _ (by omega) (by omega), sg_na (by decide)]
      have rF : ∀ a k, a ≠ 235 → (a ≠ 234 ∨ k ≠ 2) → sg_up (dc_R_copy (sg_up t 234 2 (t 234 2 - a1)) (448 + 112 * (t 234 2 - a1)) 0) 235 111 (t 235 111) a k = t a k := fun a k ha hk => by
        rw [sg_na ha, dr_R_copy _ _ _ a k (by show (a == 235) = false; simp [ha])]
        rcases hk with q | q
        · exact sg_na q _ _ _
        · exact sg_nk q _ _ _
      have r2v : sg_up (dc_R_copy (sg_up t 234 2 (t 234 2 - a1)) (448 + 112 * (t 234 2 - a1)) 0) 235 111 (t 235 111) 234 2 = t 234 2 - a1 := by
        rw [sg_na (by decide), dr_R_copy _ _ _ 234 2 rfl, sg_eq]
      have r0 : dc_R_copy (sg_up t 234 2 (t 234 2 - a1)) (448 + 112 * (t 234 2 - a1)) 0 235 0 = sg_up (dc_R_copy (sg_up t 234 2 (t 234 2 - a1)) (448 + 112 * (t 234 2 - a1)) 0) 235 111 (t 235 111) 235 0 := (sg_nk (by decide) _ _ _).symm
      rw [r0]
      have r111 : sg_up (dc_R_copy (sg_up t 234 2 (t 234 2 - a1)) (448 + 112 * (t 234 2 - a1)) 0) 235 111 (t 235 111) 235 111 = t 235 111 := sg_eq _ _ _ _
      generalize sg_up (dc_R_copy (sg_up t 234 2 (t 234 2 - a1)) (448 + 112 * (t 234 2 - a1)) 0) 235 111 (t 235 111) = T at *
      generalize dc_Past_bringBack s a1 = S at *
      have hn : st_s S T 13 0 := st_go hb (by omega) (rF 234 6 (by decide) (by decide)) (rF 234 7 (by decide) (by decide)) cC rI slot
      refine ⟨?_, hn, ⟨?_, ?_, ?_, ?_, ?_, fun x hx => ?_⟩, fun i hi hk => ?_, ?_, fun x hx => ?_, ?_, ?_, ?_, ?_, ?_⟩
      · exact st_at hn (p := 0) (by unfold st_v; omega) (by omega)
      · rw [c192, r2v, p1]
      · rw [c192]; omega
      · rw [c192]; omega
      · rw [c191]; omega
      · rw [c191]; omega
      · rw [c192] at hx
        have := p6 (x + a1.toNat) (by omega)
        rw [show ((x + a1.toNat : Nat) : Int) = (x : Int) + a1 by omega] at this
        rw [c191, c192, show ((s 19 1 - a1) % 30 - (x : Int)) % 30 = (s 19 1 - ((x : Int) + a1)) % 30 by omega, show s 19 2 - a1 - 1 - (x : Int) = s 19 2 - 1 - ((x : Int) + a1) by omega]
        exact st_go hb (by omega) (rF 234 6 (by decide) (by decide)) (rF 234 7 (by decide) (by decide)) (fun j l _ _ => cO _ l (by omega) (by omega)) (fun p _ => rO _ (by omega)) this
      · rw [rF 236 i (by decide) (by omega)] at hk
        obtain ⟨k1, k2⟩ := g3 i hi hk
        exact ⟨st_go hb (by omega) (rF 234 6 (by decide) (by decide)) (rF 234 7 (by decide) (by decide)) (fun j l _ _ => cO _ l (by omega) (by omega)) (fun p _ => rO _ (by omega)) k1, by rw [cO 203 i (by omega) (by omega), rO _ (by omega)]; exact k2⟩
      · rw [cO 0 9 (by omega) (by omega), r111]; exact g4
      · rw [rF 234 7 (by decide) (by decide)] at hx
        rw [cO 12 x (by omega) (by omega), rF 237 x (by decide) (by omega)]
        exact g5 x hx
      · rw [cO 8 0 (by omega) (by omega), rF 234 3 (by decide) (by decide)]; exact c0
      · rw [cO 8 1 (by omega) (by omega), rF 234 4 (by decide) (by decide)]; exact c1
      · rw [cO 8 2 (by omega) (by omega), rF 234 5 (by decide) (by decide)]; exact c2
      · rw [cO 8 3 (by omega) (by omega), rF 234 6 (by decide) (by decide)]; exact c3
      · rw [cO 8 4 (by omega) (by omega), rF 234 7 (by decide) (by decide)]; exact c4
    · rw [if_neg y, if_neg y]; exact ⟨rfl, h⟩
  · rw [if_pos (eq_in0 z)]
    (repeat' split) <;> first | exact ⟨rfl, h⟩ | omega
