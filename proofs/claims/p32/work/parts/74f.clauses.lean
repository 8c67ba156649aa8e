/-! THE SECOND NUMBER AND THE END -/
theorem tx_rest {S m : sg_S} (hA : tx_A S m) (h4 : S 1 4 = 0) (T : Int) (f : sg_S → sg_S) (hf : ∀ X : sg_S, f X 234 11 = X 234 11 ∧ f X 234 10 = X 234 10 ∧ f X 234 15 = X 234 15 ∧ ∀ k, f X 238 k = X 238 k) : tx_F (dc_Text_readNumber (dc_Text_skipBlanks S) T).1 (dc_R_takesNumber m 0 T) ∨ ((dc_R_takesNumber m 0 T).2 = 1 ∧ (dc_Text_readNumber (dc_Text_skipBlanks S) T).1 1 4 = 0 ∧ tx_F (dc_Text_readEnd (dc_Text_readNumber (dc_Text_skipBlanks S) T).1) (dc_R_takes (f (dc_R_takesNumber m 0 T).1) 59)) ∨ ∃ e v : Int, S 1 3 < e ∧ e ≤ S 1 2 ∧ 0 ≤ v ∧ v ≤ T ∧ (dc_R_takesNumber m 0 T).2 = 1 ∧ (dc_R_takesNumber m 0 T).1 234 13 = v ∧ (dc_Text_readNumber (dc_Text_skipBlanks S) T).1 1 4 = 0 ∧ (dc_Text_readNumber (dc_Text_skipBlanks S) T).2 = v ∧ dc_Text_readEnd (dc_Text_readNumber (dc_Text_skipBlanks S) T).1 = sg_up S 1 3 e ∧ (dc_R_takes (f (dc_R_takesNumber m 0 T).1) 59).2 = 1 ∧ (dc_R_takes (f (dc_R_takesNumber m 0 T).1) 59).1 234 11 = e ∧ (dc_R_takes (f (dc_R_takesNumber m 0 T).1) 59).1 234 15 = m 234 15 := by
  rcases tx_step hA h4 T with h | ⟨e, v, q1, q2, q3, q4, q5, q6, q7, q8, q9⟩
  · exact Or.inl h
  · right
    obtain ⟨f1, f2, f3, f4⟩ := hf (dc_R_takesNumber m 0 T).1
    have h0 := hA.2.2.1
    have z4 : (sg_up S 1 3 e) 1 4 = 0 := by rw [sg_nk (by decide)]; exact h4
    have hA2 : tx_A (sg_up S 1 3 e) (f (dc_R_takesNumber m 0 T).1) := by
      refine tx_mk hA (by rw [sg_eq, f1, q7]) (by rw [sg_eq]; omega) (by rw [sg_eq]; exact q2) (sg_nk (by decide) _ _ _) (by rw [f2]; exact dr_R_takesNumber _ _ _ 234 10 rfl) (fun k => sg_na (by decide) _ _ _) (fun k => by rw [f4]; exact dr_R_takesNumber _ _ _ 238 k rfl)
    rw [q5]
    dsimp only
    rcases tx_end hA2 z4 with h | ⟨e', r1, r2, r3, r4, r5, r6⟩
    · exact Or.inl ⟨q6, z4, h⟩
    · rw [sg_eq] at r1
      rw [sg_nk (by decide)] at r2
      exact Or.inr ⟨e', v, by omega, r2, q3, q4, q6, q8, z4, rfl, by rw [r3, sg_upup], r4, r5, by rw [r6, f3, q9]⟩
theorem tx_skip4 (S : sg_S) : dc_Text_skipBlanks S 1 4 = S 1 4 ∧ dc_Text_skipBlanks S 1 5 = S 1 5 := ⟨dr_Text_skipBlanks S 1 4 rfl, dr_Text_skipBlanks S 1 5 rfl⟩
def tx_Q (s : sg_S) (s' : sg_S) (r : sg_S × Int) : Prop := tx_F s' r ∨ (r.2 = 1 ∧ tx_P s' r.1 ∧ s 1 3 < s' 1 3)
theorem tx_F0 {S : sg_S} {r : sg_S × Int} {X : sg_S} (h : tx_F S r) (hX : X = r.1) : tx_F S (X, 0) := ⟨rfl, by rw [hX]; exact h.2.1, by rw [hX]; exact h.2.2.1, h.2.2.2⟩
theorem tx_Fs {S S' : sg_S} {r : sg_S × Int} (h : tx_F S r) (e4 : S' 1 4 = S 1 4) (e5 : S' 1 5 = S 1 5) : tx_F S' r := ⟨h.1, by rw [e4]; exact h.2.1, by rw [e5]; exact h.2.2.1, by rw [e4]; exact h.2.2.2⟩
theorem tx_cl_c {s t : sg_S} (hP : tx_P s t) (hlt : s 1 3 < s 1 2) (hh : dc_R_here t = (t, 99)) (h12 : t 234 12 = t 234 11) (hl : dc_Text_letter s = 99) : tx_Q s (dc_Text_readClause s) (dc_R_takesClause t) := by
  obtain ⟨hA, hD, h4, h5, h15⟩ := hP
  obtain ⟨d0, d1, d2, d3, d4, d5, d6, d7, d8, d9, d10⟩ := hD
  have e1 := hA.1
  have b0 := hA.2.2.1
  have b5 := hA.2.2.2.2.1
  by_cases c0 : t 234 16 = 0
  · rw [tx_rc_c0 hh c0, tx_cc_c0 hl (by rw [d0]; exact c0), sy_w_id ⟨by omega, by omega⟩, ← e1]
    have hA1 := tx_go hA (e := s 1 3 + 1) (by omega) (by omega)
    have hA2 : tx_A (sg_up s 1 3 (s 1 3 + 1)) (sg_up (sg_up t 234 11 (s 1 3 + 1)) 234 16 1) := tx_mk hA1 (by rw [sg_eq, sg_nk (by decide), sg_eq]) (by rw [sg_eq]; omega) (by rw [sg_eq, sg_nk (by decide)]; omega) rfl (sg_nk (by decide) _ _ _) (fun _ => rfl) (fun k => sg_na (by decide) _ _ _)
    have z4 : (sg_up s 1 3 (s 1 3 + 1)) 1 4 = 0 := by rw [sg_nk (by decide)]; exact h4
    rcases tx_step hA2 z4 2 with hf | ⟨e, v, q1, q2, q3, q4, q5, q6, q7, q8, q9⟩
    · left
      have k := tx_skip4 (dc_Text_readFirst (dc_Text_skipBlanks (sg_up s 1 3 (s 1 3 + 1))) 99).1
      rw [tx_rf_c] at k
      dsimp only at k
      rw [tx_rn_c1 _ (by rw [tx_rf_c]; dsimp only; rw [k.1]; exact hf.2.2.2), tx_rf_c]
      have hc : dc_R_takesCity (sg_up t 234 11 (s 1 3 + 1)) = ((dc_R_takesNumber (sg_up (sg_up t 234 11 (s 1 3 + 1)) 234 16 1) 0 2).1, 0) := if_pos hf.1
      rw [hc, if_pos rfl]
      exact tx_Fs (tx_F0 hf rfl) k.1 k.2
    · have hF : dc_Text_readFirst (dc_Text_skipBlanks (sg_up s 1 3 (s 1 3 + 1))) 99 = (sg_up s 1 3 e, v) := by rw [tx_rf_c, q5, sg_upup]
      rw [sg_eq] at q1
      rw [sg_nk (by decide)] at q2
      have g4 : (sg_up s 1 3 e) 1 4 = 0 := by rw [sg_nk (by decide)]; exact h4
      have k := tx_skip4 (sg_up s 1 3 e)
      have hA3 : tx_A (sg_up s 1 3 e) (sg_up (dc_R_takesNumber (sg_up (sg_up t 234 11 (s 1 3 + 1)) 234 16 1) 0 2).1 234 17 ((dc_R_takesNumber (sg_up (sg_up t 234 11 (s 1 3 + 1)) 234 16 1) 0 2).1 234 13)) := by
        refine tx_mk hA (by rw [sg_eq, sg_nk (by decide), q7]) (by rw [sg_eq]; omega) (by rw [sg_eq]; omega) (sg_nk (by decide) _ _ _) (by rw [sg_nk (by decide), dr_R_takesNumber _ _ _ 234 10 rfl, sg_nk (by decide), sg_nk (by decide)]) (fun k => sg_na (by decide) _ _ _) (fun k => by rw [sg_na (by decide), dr_R_takesNumber _ _ _ 238 k rfl, sg_na (by decide), sg_na (by decide)])
      have hTC : dc_R_takesCity (sg_up t 234 11 (s 1 3 + 1)) = _ := if_neg (by rw [q6]; decide)
      rcases tx_rest hA3 g4 4 (fun X => sg_up X 234 18 (X 234 13)) (fun X => ⟨sg_nk (by decide) _ _ _, sg_nk (by decide) _ _ _, sg_nk (by decide) _ _ _, fun k => sg_na (by decide) _ _ _⟩) with hf | ⟨r1, r2, hf⟩ | ⟨e', v', r1, r2, r3, r4, r5, r6, r7, r8, r9, r10, r11, r12⟩
      · left
        rw [tx_rn_c2 _ (by rw [hF]; dsimp only; rw [k.1]; exact g4) (by rw [hF]; exact hf.2.2.2), hF, hTC.trans (if_pos hf.1), if_pos rfl]
        exact tx_F0 hf rfl
      · left
        rw [tx_rn_c3 _ (by rw [hF]; dsimp only; rw [k.1]; exact g4) (by rw [hF]; exact r2) (by rw [hF]; exact hf.2.2.2), hF, hTC.trans (if_neg (by rw [r1]; decide))]
        dsimp only
        rw [if_neg (show ¬ (1 : Int) = 0 by decide), if_pos hf.1]
        exact tx_F0 hf rfl
      · right
        rw [tx_rn_c4 _ (by rw [hF]; dsimp only; rw [k.1]; exact g4) (by rw [hF]; exact r7) (by rw [hF]; dsimp only; rw [r9, sg_nk (by decide), sg_nk (by decide)]; exact h4), hF, hTC.trans (if_neg (by rw [r5]; decide))]
        dsimp only at r10 r11 r12 ⊢
        rw [if_neg (show ¬ (1 : Int) = 0 by decide), if_neg (by rw [r10]; decide), r9, r8, sg_upup]
        rw [sg_eq] at r1
        rw [sg_nk (by decide)] at r2
        unfold dc_Plan_tellCity
        refine ⟨rfl, ⟨?_, ?_, ?_, ?_, ?_⟩, ?_⟩
        · refine tx_mk hA (by rw [sg_na (by decide), sg_na (by decide), sg_na (by decide), sg_eq, r11]) (by rw [sg_na (by decide), sg_na (by decide), sg_na (by decide), sg_eq]; omega) (by rw [sg_na (by decide), sg_na (by decide), sg_na (by decide), sg_eq]; exact r2) (by rw [sg_na (by decide), sg_na (by decide), sg_na (by decide), sg_nk (by decide)]) (by rw [dr_R_takes _ _ 234 10 rfl, sg_nk (by decide), dr_R_takesNumber _ _ _ 234 10 rfl, sg_nk (by decide), dr_R_takesNumber _ _ _ 234 10 rfl, sg_nk (by decide), sg_nk (by decide)]) (fun k => by rw [sg_na (by decide), sg_na (by decide), sg_na (by decide), sg_na (by decide)]) (fun k => by rw [dr_R_takes _ _ 238 k rfl, sg_na (by decide), dr_R_takesNumber _ _ _ 238 k rfl, sg_na (by decide), dr_R_takesNumber _ _ _ 238 k rfl, sg_na (by decide), sg_na (by decide)])
        · have w16 : (dc_R_takes (sg_up (dc_R_takesNumber (sg_up (dc_R_takesNumber (sg_up (sg_up t 234 11 (s 1 3 + 1)) 234 16 1) 0 2).1 234 17 ((dc_R_takesNumber (sg_up (sg_up t 234 11 (s 1 3 + 1)) 234 16 1) 0 2).1 234 13)) 0 4).1 234 18 ((dc_R_takesNumber (sg_up (dc_R_takesNumber (sg_up (sg_up t 234 11 (s 1 3 + 1)) 234 16 1) 0 2).1 234 17 ((dc_R_takesNumber (sg_up (sg_up t 234 11 (s 1 3 + 1)) 234 16 1) 0 2).1 234 13)) 0 4).1 234 13)) 59).1 234 16 = 1 := by rw [dr_R_takes _ _ 234 16 rfl, sg_nk (by decide), dr_R_takesNumber _ _ _ 234 16 rfl, sg_nk (by decide), dr_R_takesNumber _ _ _ 234 16 rfl, sg_eq]
          refine ⟨?_, ?_, ?_, ?_, ?_, ?_, ?_, ?_, ?_, fun k hk => ?_, fun k hk => ?_⟩
          · rw [w16, sg_nk (by decide), sg_nk (by decide), sg_eq]
          · rw [sg_nk (by decide), sg_eq, dr_R_takes _ _ 234 17 rfl, sg_nk (by decide), dr_R_takesNumber _ _ _ 234 17 rfl, sg_eq, q8]
          · rw [sg_eq, dr_R_takes _ _ 234 18 rfl, sg_eq, r6]
          · rw [sg_nk (by decide), sg_nk (by decide), sg_nk (by decide), sg_na (by decide), dr_R_takes _ _ 234 19 rfl, sg_nk (by decide), dr_R_takesNumber _ _ _ 234 19 rfl, sg_nk (by decide), dr_R_takesNumber _ _ _ 234 19 rfl, sg_nk (by decide), sg_nk (by decide)]
            exact d3
          · rw [sg_nk (by decide), sg_nk (by decide), sg_nk (by decide), sg_na (by decide), dr_R_takes _ _ 234 22 rfl, sg_nk (by decide), dr_R_takesNumber _ _ _ 234 22 rfl, sg_nk (by decide), dr_R_takesNumber _ _ _ 234 22 rfl, sg_nk (by decide), sg_nk (by decide)]
            exact d4
          · rw [sg_nk (by decide), sg_nk (by decide), sg_nk (by decide), sg_na (by decide)]; exact d5
          · rw [sg_nk (by decide), sg_nk (by decide), sg_nk (by decide), sg_na (by decide)]; exact d6
          · rw [sg_nk (by decide), sg_nk (by decide), sg_nk (by decide), sg_na (by decide)]; exact d7
          · rw [sg_nk (by decide), sg_nk (by decide), sg_nk (by decide), sg_na (by decide)]; exact d8
          · rw [sg_nk (by decide), sg_nk (by decide), sg_nk (by decide), sg_na (by decide)] at hk
            have := d9 k hk
            constructor
            · rw [sg_na (by decide), sg_na (by decide), sg_na (by decide), sg_na (by decide), dr_R_takes _ _ 239 k rfl, sg_na (by decide), dr_R_takesNumber _ _ _ 239 k rfl, sg_na (by decide), dr_R_takesNumber _ _ _ 239 k rfl, sg_na (by decide), sg_na (by decide)]
              exact this.1
            · rw [sg_na (by decide), sg_na (by decide), sg_na (by decide), sg_na (by decide), dr_R_takes _ _ 240 k rfl, sg_na (by decide), dr_R_takesNumber _ _ _ 240 k rfl, sg_na (by decide), dr_R_takesNumber _ _ _ 240 k rfl, sg_na (by decide), sg_na (by decide)]
              exact this.2
          · rw [sg_nk (by decide), sg_nk (by decide), sg_nk (by decide), sg_na (by decide)] at hk
            have := d10 k hk
            constructor
            · rw [sg_na (by decide), sg_na (by decide), sg_na (by decide), sg_na (by decide), dr_R_takes _ _ 241 k rfl, sg_na (by decide), dr_R_takesNumber _ _ _ 241 k rfl, sg_na (by decide), dr_R_takesNumber _ _ _ 241 k rfl, sg_na (by decide), sg_na (by decide)]
              exact this.1
            · rw [sg_na (by decide), sg_na (by decide), sg_na (by decide), sg_na (by decide), dr_R_takes _ _ 242 k rfl, sg_na (by decide), dr_R_takesNumber _ _ _ 242 k rfl, sg_na (by decide), dr_R_takesNumber _ _ _ 242 k rfl, sg_na (by decide), sg_na (by decide)]
              exact this.2
        · rw [sg_na (by decide), sg_na (by decide), sg_na (by decide), sg_nk (by decide)]; exact h4
        · rw [sg_na (by decide), sg_na (by decide), sg_na (by decide), sg_nk (by decide)]; exact h5
        · rw [r12, sg_nk (by decide), q9, sg_nk (by decide), sg_nk (by decide)]; exact h15
        · rw [sg_na (by decide), sg_na (by decide), sg_na (by decide), sg_eq]; omega
  · left
    rw [tx_rc_c3 hh c0, tx_cc_c3 hl (by rw [d0]; exact c0), h12, ← e1]
    exact tx_ff h4 (by decide)
