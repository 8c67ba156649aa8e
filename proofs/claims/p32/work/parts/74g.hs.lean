/-! HOUSES AND SWEEPS -/
theorem tx_TH {u : sg_S} {x : Int} (c : ¬ (dc_R_takesNumber u 0 9).2 = 0) (hx : ((dc_R_takesNumber u 0 9).1 234 13 = 9 ∧ x = -1) ∨ (¬ (dc_R_takesNumber u 0 9).1 234 13 = 9 ∧ (dc_R_takesNumber u 0 9).1 234 13 < u 234 19 ∧ x = (dc_R_takesNumber u 0 9).1 234 13)) : dc_R_takesHouse u = if (dc_R_takesNumber (sg_up (dc_R_takesNumber u 0 9).1 239 ((u 234 19).toNat) x) 0 7).2 = 0 then ((dc_R_takesNumber (sg_up (dc_R_takesNumber u 0 9).1 239 ((u 234 19).toNat) x) 0 7).1, 0) else (sg_up (sg_up (dc_R_takesNumber (sg_up (dc_R_takesNumber u 0 9).1 239 ((u 234 19).toNat) x) 0 7).1 240 ((u 234 19).toNat) ((dc_R_takesNumber (sg_up (dc_R_takesNumber u 0 9).1 239 ((u 234 19).toNat) x) 0 7).1 234 13)) 234 19 ((u 234 19) + 1), 1) := by
  unfold dc_R_takesHouse
  rcases hx with ⟨h1, rfl⟩ | ⟨h1, h2, h3⟩
  · simp only [eq_false c, eq_true h1, if_true, if_false]
  · rw [h3]
    simp only [eq_false c, eq_false h1, eq_true h2, if_true, if_false]
theorem tx_TH2 {u : sg_S} (c : ¬ (dc_R_takesNumber u 0 9).2 = 0) (h1 : ¬ (dc_R_takesNumber u 0 9).1 234 13 = 9) (h2 : ¬ (dc_R_takesNumber u 0 9).1 234 13 < u 234 19) : dc_R_takesHouse u = ((dc_R_fails (dc_R_takesNumber u 0 9).1 2 ((dc_R_takesNumber u 0 9).1 234 12)).1, (dc_R_fails (dc_R_takesNumber u 0 9).1 2 ((dc_R_takesNumber u 0 9).1 234 12)).2) := by
  unfold dc_R_takesHouse
  simp only [eq_false c, eq_false h1, eq_false h2, if_false]
theorem tx_tellH {E : sg_S} {v w x : Int} (h : ¬ 9 ≤ E 3 3) (hx : (v = 9 ∧ x = -1) ∨ (¬ v = 9 ∧ x = v)) : dc_Plan_tellHouse E v w = sg_up (sg_up (sg_up E 4 ((E 3 3).toNat) x) 5 ((E 3 3).toNat) w) 3 3 ((E 3 3) + 1) := by
  unfold dc_Plan_tellHouse
  rcases hx with ⟨h1, rfl⟩ | ⟨h1, rfl⟩
  · rw [if_neg h, if_pos h1]
  · rw [if_neg h, if_neg h1]
theorem tx_cl_h {s t : sg_S} (hP : tx_P s t) (hlt : s 1 3 < s 1 2) (hh : dc_R_here t = (t, 104)) (h12 : t 234 12 = t 234 11) (hl : dc_Text_letter s = 104) : tx_Q s (dc_Text_readClause s) (dc_R_takesClause t) := by
  obtain ⟨hA, hD, h4, h5, h15⟩ := hP
  obtain ⟨d0, d1, d2, d3, d4, d5, d6, d7, d8, d9, d10⟩ := hD
  have e1 := hA.1
  have b0 := hA.2.2.1
  have b5 := hA.2.2.2.2.1
  by_cases c0 : t 234 16 = 0
  · left
    rw [tx_rc_h1 hh c0, tx_cc_h1 hl (by rw [d0]; exact c0), h12, ← e1]
    exact tx_ff h4 (by decide)
  by_cases c1 : t 234 19 = 9
  · left
    rw [tx_rc_h3 hh c0 c1, tx_cc_h3 hl (by rw [d0]; exact c0) (by omega), h12, ← e1]
    exact tx_ff h4 (by decide)
  rw [tx_rc_h0 hh c0 c1, tx_cc_h0 hl (by rw [d0]; exact c0) (by omega), sy_w_id ⟨by omega, by omega⟩, ← e1]
  have hA1 := tx_go hA (e := s 1 3 + 1) (by omega) (by omega)
  have z4 : (sg_up s 1 3 (s 1 3 + 1)) 1 4 = 0 := by rw [sg_nk (by decide)]; exact h4
  have u19 : (sg_up t 234 11 (s 1 3 + 1)) 234 19 = s 3 3 := by rw [sg_nk (by decide)]; exact d3.symm
  have u22 : (sg_up t 234 11 (s 1 3 + 1)) 234 22 = s 3 4 := by rw [sg_nk (by decide)]; exact d4.symm
  have hS3 : (sg_up s 1 3 (s 1 3 + 1)) 3 3 = (sg_up t 234 11 (s 1 3 + 1)) 234 19 := by rw [u19, sg_na (by decide)]
  rcases tx_firstH hA1 z4 hS3 with hf | ⟨p1, p2, p3, p4, p5⟩ | ⟨e, v, q1, q2, q3, q4, q4b, q5, q6, q7, q8, q9⟩
  · left
    have k := tx_skip4 (dc_Text_readFirst (dc_Text_skipBlanks (sg_up s 1 3 (s 1 3 + 1))) 104).1
    rw [tx_rn_h1 _ (by rw [k.1]; exact hf.2.2.2)]
    have hc : dc_R_takesHouse (sg_up t 234 11 (s 1 3 + 1)) = ((dc_R_takesNumber (sg_up t 234 11 (s 1 3 + 1)) 0 9).1, 0) := if_pos hf.1
    rw [hc, if_pos rfl]
    exact tx_Fs (tx_F0 hf rfl) k.1 k.2
  · left
    have k := tx_skip4 (dc_Text_readFirst (dc_Text_skipBlanks (sg_up s 1 3 (s 1 3 + 1))) 104).1
    rw [tx_rn_h1 _ (by rw [k.1, p4]; decide)]
    rw [tx_TH2 (by rw [p1]; decide) p2 p3, if_pos (tx_rfail _ _ _).1]
    obtain ⟨g1, g2, g3⟩ := tx_rfail (dc_R_takesNumber (sg_up t 234 11 (s 1 3 + 1)) 0 9).1 2 ((dc_R_takesNumber (sg_up t 234 11 (s 1 3 + 1)) 0 9).1 234 12)
    exact ⟨rfl, by rw [k.1, p4]; exact g2.symm, by rw [k.2, p5]; exact g3.symm, by rw [k.1, p4]; decide⟩
  · rw [sg_upup] at q5
    obtain ⟨x, hx⟩ : ∃ x : Int, (v = 9 ∧ x = -1) ∨ (¬ v = 9 ∧ x = v) := by
      by_cases z : v = 9
      · exact ⟨-1, Or.inl ⟨z, rfl⟩⟩
      · exact ⟨v, Or.inr ⟨z, rfl⟩⟩
    rw [sg_eq] at q1
    rw [sg_nk (by decide)] at q2
    have g4 : (sg_up s 1 3 e) 1 4 = 0 := by rw [sg_nk (by decide)]; exact h4
    have k := tx_skip4 (sg_up s 1 3 e)
    have hA3 : tx_A (sg_up s 1 3 e) (sg_up (dc_R_takesNumber (sg_up t 234 11 (s 1 3 + 1)) 0 9).1 239 (((sg_up t 234 11 (s 1 3 + 1)) 234 19).toNat) x) := by
      refine tx_mk hA (by rw [sg_eq, sg_na (by decide), q7]) (by rw [sg_eq]; omega) (by rw [sg_eq]; omega) (sg_nk (by decide) _ _ _) (by rw [sg_na (by decide), dr_R_takesNumber _ _ _ 234 10 rfl, sg_nk (by decide)]) (fun k => sg_na (by decide) _ _ _) (fun k => by rw [sg_na (by decide), dr_R_takesNumber _ _ _ 238 k rfl, sg_na (by decide)])
    have hT := tx_TH (u := (sg_up t 234 11 (s 1 3 + 1))) (x := x) (by rw [q6]; decide) (by rw [q8]; omega)
    rcases tx_rest hA3 g4 7 (fun X => sg_up (sg_up X 240 (((sg_up t 234 11 (s 1 3 + 1)) 234 19).toNat) (X 234 13)) 234 19 (((sg_up t 234 11 (s 1 3 + 1)) 234 19) + 1)) (fun X => ⟨by rw [sg_nk (by decide), sg_na (by decide)], by rw [sg_nk (by decide), sg_na (by decide)], by rw [sg_nk (by decide), sg_na (by decide)], fun k => by rw [sg_na (by decide), sg_na (by decide)]⟩) with hf | ⟨r1, r2, hf⟩ | ⟨e', v', r1, r2, r3, r4, r5, r6, r7, r8, r9, r10, r11, r12⟩
    · left
      rw [tx_rn_h2 _ (by rw [q5]; dsimp only; rw [k.1]; exact g4) (by rw [q5]; exact hf.2.2.2), q5, hT.trans (if_pos hf.1), if_pos rfl]
      exact tx_F0 hf rfl
    · left
      rw [tx_rn_h3 _ (by rw [q5]; dsimp only; rw [k.1]; exact g4) (by rw [q5]; exact r2) (by rw [q5]; exact hf.2.2.2), q5, hT.trans (if_neg (by rw [r1]; decide))]
      dsimp only
      rw [if_neg (show ¬ (1 : Int) = 0 by decide), if_pos hf.1]
      exact tx_F0 hf rfl
    · right
      rw [tx_rn_h4 _ (by rw [q5]; dsimp only; rw [k.1]; exact g4) (by rw [q5]; exact r7) (by rw [q5]; dsimp only; rw [r9, sg_nk (by decide), sg_nk (by decide)]; exact h4), q5, hT.trans (if_neg (by rw [r5]; decide))]
      dsimp only at r10 r11 r12 ⊢
      rw [if_neg (show ¬ (1 : Int) = 0 by decide), if_neg (by rw [r10]; decide), r9, r8, sg_upup]
      rw [sg_eq] at r1
      rw [sg_nk (by decide)] at r2
      have hE : (sg_up s 1 3 e') 3 3 = s 3 3 := sg_na (by decide) _ _ _
      rw [tx_tellH (x := x) (by rw [hE]; omega) hx, hE]
      refine ⟨rfl, ⟨?_, ?_, ?_, ?_, ?_⟩, ?_⟩
      · refine tx_mk hA (by rw [sg_na (by decide), sg_na (by decide), sg_na (by decide), sg_eq, r11]) (by rw [sg_na (by decide), sg_na (by decide), sg_na (by decide), sg_eq]; omega) (by rw [sg_na (by decide), sg_na (by decide), sg_na (by decide), sg_eq]; exact r2) (by rw [sg_na (by decide), sg_na (by decide), sg_na (by decide), sg_nk (by decide)]) (by rw [dr_R_takes _ _ 234 10 rfl, sg_nk (by decide), sg_na (by decide), dr_R_takesNumber _ _ _ 234 10 rfl, sg_na (by decide), dr_R_takesNumber _ _ _ 234 10 rfl, sg_nk (by decide)]) (fun k => by rw [sg_na (by decide), sg_na (by decide), sg_na (by decide), sg_na (by decide)]) (fun k => by rw [dr_R_takes _ _ 238 k rfl, sg_na (by decide), sg_na (by decide), dr_R_takesNumber _ _ _ 238 k rfl, sg_na (by decide), dr_R_takesNumber _ _ _ 238 k rfl, sg_na (by decide)])
      · refine ⟨?_, ?_, ?_, ?_, ?_, ?_, ?_, ?_, ?_, fun k hk => ?_, fun k hk => ?_⟩
        · rw [sg_nk (by decide), sg_na (by decide), sg_na (by decide), sg_na (by decide), dr_R_takes _ _ 234 16 rfl, sg_nk (by decide), sg_na (by decide), dr_R_takesNumber _ _ _ 234 16 rfl, sg_na (by decide), dr_R_takesNumber _ _ _ 234 16 rfl, sg_nk (by decide)]; exact d0
        · rw [sg_nk (by decide), sg_na (by decide), sg_na (by decide), sg_na (by decide), dr_R_takes _ _ 234 17 rfl, sg_nk (by decide), sg_na (by decide), dr_R_takesNumber _ _ _ 234 17 rfl, sg_na (by decide), dr_R_takesNumber _ _ _ 234 17 rfl, sg_nk (by decide)]; exact d1
        · rw [sg_nk (by decide), sg_na (by decide), sg_na (by decide), sg_na (by decide), dr_R_takes _ _ 234 18 rfl, sg_nk (by decide), sg_na (by decide), dr_R_takesNumber _ _ _ 234 18 rfl, sg_na (by decide), dr_R_takesNumber _ _ _ 234 18 rfl, sg_nk (by decide)]; exact d2
        · rw [sg_eq, dr_R_takes _ _ 234 19 rfl, sg_eq, u19]
        · rw [sg_nk (by decide), sg_na (by decide), sg_na (by decide), sg_na (by decide), dr_R_takes _ _ 234 22 rfl, sg_nk (by decide), sg_na (by decide), dr_R_takesNumber _ _ _ 234 22 rfl, sg_na (by decide), dr_R_takesNumber _ _ _ 234 22 rfl, sg_nk (by decide)]; exact d4
        · rw [sg_eq]; omega
        · rw [sg_eq]; omega
        · rw [sg_nk (by decide), sg_na (by decide), sg_na (by decide), sg_na (by decide)]; exact d7
        · rw [sg_nk (by decide), sg_na (by decide), sg_na (by decide), sg_na (by decide)]; exact d8
        · rw [sg_eq] at hk
          by_cases z : k = (s 3 3).toNat
          · subst z
            constructor
            · rw [sg_na (by decide), sg_na (by decide), sg_eq, dr_R_takes _ _ 239 _ rfl, sg_na (by decide), sg_na (by decide), dr_R_takesNumber _ _ _ 239 _ rfl, u19, sg_eq]
            · rw [u19] at r6
              rw [sg_na (by decide), sg_eq, dr_R_takes _ _ 240 _ rfl, sg_na (by decide), u19, sg_eq]
              exact r6.symm
          · have := d9 k (by omega)
            constructor
            · rw [sg_na (by decide), sg_na (by decide), sg_nk z, sg_na (by decide), dr_R_takes _ _ 239 k rfl, sg_na (by decide), sg_na (by decide), dr_R_takesNumber _ _ _ 239 k rfl, u19, sg_nk z, dr_R_takesNumber _ _ _ 239 k rfl, sg_na (by decide)]
              exact this.1
            · rw [sg_na (by decide), sg_nk z, sg_na (by decide), sg_na (by decide), dr_R_takes _ _ 240 k rfl, sg_na (by decide), u19, sg_nk z, dr_R_takesNumber _ _ _ 240 k rfl, sg_na (by decide), dr_R_takesNumber _ _ _ 240 k rfl, sg_na (by decide)]
              exact this.2
        · rw [sg_nk (by decide), sg_na (by decide), sg_na (by decide), sg_na (by decide)] at hk
          have := d10 k hk
          constructor
          · rw [sg_na (by decide), sg_na (by decide), sg_na (by decide), sg_na (by decide), dr_R_takes _ _ 241 k rfl, sg_na (by decide), sg_na (by decide), dr_R_takesNumber _ _ _ 241 k rfl, sg_na (by decide), dr_R_takesNumber _ _ _ 241 k rfl, sg_na (by decide)]
            exact this.1
          · rw [sg_na (by decide), sg_na (by decide), sg_na (by decide), sg_na (by decide), dr_R_takes _ _ 242 k rfl, sg_na (by decide), sg_na (by decide), dr_R_takesNumber _ _ _ 242 k rfl, sg_na (by decide), dr_R_takesNumber _ _ _ 242 k rfl, sg_na (by decide)]
            exact this.2
      · rw [sg_na (by decide), sg_na (by decide), sg_na (by decide), sg_nk (by decide)]; exact h4
      · rw [sg_na (by decide), sg_na (by decide), sg_na (by decide), sg_nk (by decide)]; exact h5
      · rw [r12, sg_na (by decide), q9, sg_nk (by decide)]; exact h15
      · rw [sg_na (by decide), sg_na (by decide), sg_na (by decide), sg_eq]; omega
theorem tx_cl_s {s t : sg_S} (hP : tx_P s t) (hlt : s 1 3 < s 1 2) (hh : dc_R_here t = (t, 115)) (h12 : t 234 12 = t 234 11) (hl : dc_Text_letter s = 115) : tx_Q s (dc_Text_readClause s) (dc_R_takesClause t) := by
  obtain ⟨hA, hD, h4, h5, h15⟩ := hP
  obtain ⟨d0, d1, d2, d3, d4, d5, d6, d7, d8, d9, d10⟩ := hD
  have e1 := hA.1
  have b0 := hA.2.2.1
  have b5 := hA.2.2.2.2.1
  by_cases c0 : t 234 16 = 0
  · left
    rw [tx_rc_s1 hh c0, tx_cc_s1 hl (by rw [d0]; exact c0), h12, ← e1]
    exact tx_ff h4 (by decide)
  by_cases c1 : t 234 22 = 5
  · left
    rw [tx_rc_s3 hh c0 c1, tx_cc_s3 hl (by rw [d0]; exact c0) (by omega), h12, ← e1]
    exact tx_ff h4 (by decide)
  rw [tx_rc_s0 hh c0 c1, tx_cc_s0 hl (by rw [d0]; exact c0) (by omega), sy_w_id ⟨by omega, by omega⟩, ← e1]
  have hA1 := tx_go hA (e := s 1 3 + 1) (by omega) (by omega)
  have z4 : (sg_up s 1 3 (s 1 3 + 1)) 1 4 = 0 := by rw [sg_nk (by decide)]; exact h4
  have u19 : (sg_up t 234 11 (s 1 3 + 1)) 234 19 = s 3 3 := by rw [sg_nk (by decide)]; exact d3.symm
  have u22 : (sg_up t 234 11 (s 1 3 + 1)) 234 22 = s 3 4 := by rw [sg_nk (by decide)]; exact d4.symm
  have hS3 : (sg_up s 1 3 (s 1 3 + 1)) 3 3 = (sg_up t 234 11 (s 1 3 + 1)) 234 19 := by rw [u19, sg_na (by decide)]
  rcases tx_firstS hA1 z4 hS3 (by omega) (by omega) with hf | ⟨e, v, q1, q2, q3, q4, q5, q6, q7, q8, q9⟩
  · left
    have k := tx_skip4 (dc_Text_readFirst (dc_Text_skipBlanks (sg_up s 1 3 (s 1 3 + 1))) 115).1
    rw [tx_rn_s1 _ (by rw [k.1]; exact hf.2.2.2)]
    have hc : dc_R_takesSweep (sg_up t 234 11 (s 1 3 + 1)) = ((dc_R_takesNumber (sg_up t 234 11 (s 1 3 + 1)) 0 ((sy_shl 1 ((sg_up t 234 11 (s 1 3 + 1)) 234 19)) - 1)).1, 0) := if_pos hf.1
    rw [hc, if_pos rfl]
    exact tx_Fs (tx_F0 hf rfl) k.1 k.2
  · rw [sg_upup] at q5
    rw [sg_eq] at q1
    rw [sg_nk (by decide)] at q2
    have g4 : (sg_up s 1 3 e) 1 4 = 0 := by rw [sg_nk (by decide)]; exact h4
    have k := tx_skip4 (sg_up s 1 3 e)
    have hA3 : tx_A (sg_up s 1 3 e) (sg_up (dc_R_takesNumber (sg_up t 234 11 (s 1 3 + 1)) 0 ((sy_shl 1 ((sg_up t 234 11 (s 1 3 + 1)) 234 19)) - 1)).1 241 (((sg_up t 234 11 (s 1 3 + 1)) 234 22).toNat) ((dc_R_takesNumber (sg_up t 234 11 (s 1 3 + 1)) 0 ((sy_shl 1 ((sg_up t 234 11 (s 1 3 + 1)) 234 19)) - 1)).1 234 13)) := by
      refine tx_mk hA (by rw [sg_eq, sg_na (by decide), q7]) (by rw [sg_eq]; omega) (by rw [sg_eq]; omega) (sg_nk (by decide) _ _ _) (by rw [sg_na (by decide), dr_R_takesNumber _ _ _ 234 10 rfl, sg_nk (by decide)]) (fun k => sg_na (by decide) _ _ _) (fun k => by rw [sg_na (by decide), dr_R_takesNumber _ _ _ 238 k rfl, sg_na (by decide)])
    have hT : dc_R_takesSweep (sg_up t 234 11 (s 1 3 + 1)) = _ := if_neg (by rw [q6]; decide)
    rcases tx_rest hA3 g4 99 (fun X => sg_up (sg_up X 242 (((sg_up t 234 11 (s 1 3 + 1)) 234 22).toNat) (X 234 13)) 234 22 (((sg_up t 234 11 (s 1 3 + 1)) 234 22) + 1)) (fun X => ⟨by rw [sg_nk (by decide), sg_na (by decide)], by rw [sg_nk (by decide), sg_na (by decide)], by rw [sg_nk (by decide), sg_na (by decide)], fun k => by rw [sg_na (by decide), sg_na (by decide)]⟩) with hf | ⟨r1, r2, hf⟩ | ⟨e', v', r1, r2, r3, r4, r5, r6, r7, r8, r9, r10, r11, r12⟩
    · left
      rw [tx_rn_s2 _ (by rw [q5]; dsimp only; rw [k.1]; exact g4) (by rw [q5]; exact hf.2.2.2), q5, hT.trans (if_pos hf.1), if_pos rfl]
      exact tx_F0 hf rfl
    · left
      rw [tx_rn_s3 _ (by rw [q5]; dsimp only; rw [k.1]; exact g4) (by rw [q5]; exact r2) (by rw [q5]; exact hf.2.2.2), q5, hT.trans (if_neg (by rw [r1]; decide))]
      dsimp only
      rw [if_neg (show ¬ (1 : Int) = 0 by decide), if_pos hf.1]
      exact tx_F0 hf rfl
    · right
      rw [tx_rn_s4 _ (by rw [q5]; dsimp only; rw [k.1]; exact g4) (by rw [q5]; exact r7) (by rw [q5]; dsimp only; rw [r9, sg_nk (by decide), sg_nk (by decide)]; exact h4), q5, hT.trans (if_neg (by rw [r5]; decide))]
      dsimp only at r10 r11 r12 ⊢
      rw [if_neg (show ¬ (1 : Int) = 0 by decide), if_neg (by rw [r10]; decide), r9, r8, sg_upup]
      rw [sg_eq] at r1
      rw [sg_nk (by decide)] at r2
      have hE : (sg_up s 1 3 e') 3 4 = s 3 4 := sg_na (by decide) _ _ _
      unfold dc_Plan_tellSweep
      rw [if_neg (by rw [hE]; omega), hE]
      refine ⟨rfl, ⟨?_, ?_, ?_, ?_, ?_⟩, ?_⟩
      · refine tx_mk hA (by rw [sg_na (by decide), sg_na (by decide), sg_na (by decide), sg_eq, r11]) (by rw [sg_na (by decide), sg_na (by decide), sg_na (by decide), sg_eq]; omega) (by rw [sg_na (by decide), sg_na (by decide), sg_na (by decide), sg_eq]; exact r2) (by rw [sg_na (by decide), sg_na (by decide), sg_na (by decide), sg_nk (by decide)]) (by rw [dr_R_takes _ _ 234 10 rfl, sg_nk (by decide), sg_na (by decide), dr_R_takesNumber _ _ _ 234 10 rfl, sg_na (by decide), dr_R_takesNumber _ _ _ 234 10 rfl, sg_nk (by decide)]) (fun k => by rw [sg_na (by decide), sg_na (by decide), sg_na (by decide), sg_na (by decide)]) (fun k => by rw [dr_R_takes _ _ 238 k rfl, sg_na (by decide), sg_na (by decide), dr_R_takesNumber _ _ _ 238 k rfl, sg_na (by decide), dr_R_takesNumber _ _ _ 238 k rfl, sg_na (by decide)])
      · refine ⟨?_, ?_, ?_, ?_, ?_, ?_, ?_, ?_, ?_, fun k hk => ?_, fun k hk => ?_⟩
        · rw [sg_nk (by decide), sg_na (by decide), sg_na (by decide), sg_na (by decide), dr_R_takes _ _ 234 16 rfl, sg_nk (by decide), sg_na (by decide), dr_R_takesNumber _ _ _ 234 16 rfl, sg_na (by decide), dr_R_takesNumber _ _ _ 234 16 rfl, sg_nk (by decide)]; exact d0
        · rw [sg_nk (by decide), sg_na (by decide), sg_na (by decide), sg_na (by decide), dr_R_takes _ _ 234 17 rfl, sg_nk (by decide), sg_na (by decide), dr_R_takesNumber _ _ _ 234 17 rfl, sg_na (by decide), dr_R_takesNumber _ _ _ 234 17 rfl, sg_nk (by decide)]; exact d1
        · rw [sg_nk (by decide), sg_na (by decide), sg_na (by decide), sg_na (by decide), dr_R_takes _ _ 234 18 rfl, sg_nk (by decide), sg_na (by decide), dr_R_takesNumber _ _ _ 234 18 rfl, sg_na (by decide), dr_R_takesNumber _ _ _ 234 18 rfl, sg_nk (by decide)]; exact d2
        · rw [sg_nk (by decide), sg_na (by decide), sg_na (by decide), sg_na (by decide), dr_R_takes _ _ 234 19 rfl, sg_nk (by decide), sg_na (by decide), dr_R_takesNumber _ _ _ 234 19 rfl, sg_na (by decide), dr_R_takesNumber _ _ _ 234 19 rfl, sg_nk (by decide)]; exact d3
        · rw [sg_eq, dr_R_takes _ _ 234 22 rfl, sg_eq, u22]
        · rw [sg_nk (by decide), sg_na (by decide), sg_na (by decide), sg_na (by decide)]; exact d5
        · rw [sg_nk (by decide), sg_na (by decide), sg_na (by decide), sg_na (by decide)]; exact d6
        · rw [sg_eq]; omega
        · rw [sg_eq]; omega
        · rw [sg_nk (by decide), sg_na (by decide), sg_na (by decide), sg_na (by decide)] at hk
          have := d9 k hk
          constructor
          · rw [sg_na (by decide), sg_na (by decide), sg_na (by decide), sg_na (by decide), dr_R_takes _ _ 239 k rfl, sg_na (by decide), sg_na (by decide), dr_R_takesNumber _ _ _ 239 k rfl, sg_na (by decide), dr_R_takesNumber _ _ _ 239 k rfl, sg_na (by decide)]
            exact this.1
          · rw [sg_na (by decide), sg_na (by decide), sg_na (by decide), sg_na (by decide), dr_R_takes _ _ 240 k rfl, sg_na (by decide), sg_na (by decide), dr_R_takesNumber _ _ _ 240 k rfl, sg_na (by decide), dr_R_takesNumber _ _ _ 240 k rfl, sg_na (by decide)]
            exact this.2
        · rw [sg_eq] at hk
          by_cases z : k = (s 3 4).toNat
          · subst z
            constructor
            · rw [sg_na (by decide), sg_na (by decide), sg_eq, dr_R_takes _ _ 241 _ rfl, sg_na (by decide), sg_na (by decide), dr_R_takesNumber _ _ _ 241 _ rfl, u22, sg_eq, q8]
            · rw [u22] at r6
              rw [sg_na (by decide), sg_eq, dr_R_takes _ _ 242 _ rfl, sg_na (by decide), u22, sg_eq]
              exact r6.symm
          · have := d10 k (by omega)
            constructor
            · rw [sg_na (by decide), sg_na (by decide), sg_nk z, sg_na (by decide), dr_R_takes _ _ 241 k rfl, sg_na (by decide), sg_na (by decide), dr_R_takesNumber _ _ _ 241 k rfl, u22, sg_nk z, dr_R_takesNumber _ _ _ 241 k rfl, sg_na (by decide)]
              exact this.1
            · rw [sg_na (by decide), sg_nk z, sg_na (by decide), sg_na (by decide), dr_R_takes _ _ 242 k rfl, sg_na (by decide), u22, sg_nk z, dr_R_takesNumber _ _ _ 242 k rfl, sg_na (by decide), dr_R_takesNumber _ _ _ 242 k rfl, sg_na (by decide)]
              exact this.2
      · rw [sg_na (by decide), sg_na (by decide), sg_na (by decide), sg_nk (by decide)]; exact h4
      · rw [sg_na (by decide), sg_na (by decide), sg_na (by decide), sg_nk (by decide)]; exact h5
      · rw [r12, sg_na (by decide), q9, sg_nk (by decide)]; exact h15
      · rw [sg_na (by decide), sg_na (by decide), sg_na (by decide), sg_eq]; omega
theorem tx_cl_o {s t : sg_S} {c : Int} (n1 : ¬ c = 99) (n2 : ¬ c = 104) (n3 : ¬ c = 115) (hP : tx_P s t) (hh : dc_R_here t = (t, c)) (h12 : t 234 12 = t 234 11) (hl : dc_Text_letter s = c) : tx_Q s (dc_Text_readClause s) (dc_R_takesClause t) := by
  left
  rw [tx_rc_o n1 n2 n3 hh, tx_cc_o n1 n2 n3 hl, h12, ← hP.1.1]
  exact tx_ff hP.2.2.1 (by decide)
theorem tx_cl {s t : sg_S} (hP : tx_P s t) (hlt : s 1 3 < s 1 2) (h32 : dc_R_letterAt t (t 234 11) ≠ 32) (h12 : t 234 12 = t 234 11) : tx_Q s (dc_Text_readClause s) (dc_R_takesClause t) := by
  have hh := tx_hereT (t := t) rfl h32 h12
  have hl : dc_Text_letter s = dc_R_letterAt t (t 234 11) := by
    have := tx_let hP.1
    omega
  generalize dc_R_letterAt t (t 234 11) = c at hh hl
  by_cases n1 : c = 99
  · subst n1; exact tx_cl_c hP hlt hh h12 hl
  by_cases n2 : c = 104
  · subst n2; exact tx_cl_h hP hlt hh h12 hl
  by_cases n3 : c = 115
  · subst n3; exact tx_cl_s hP hlt hh h12 hl
  exact tx_cl_o n1 n2 n3 hP hh h12 hl
