/-! A CLAUSE, READ ON BOTH SIDES -/
theorem tx_skipA {s t : sg_S} (h : tx_A s t) : ∃ q : Int, s 1 3 ≤ q ∧ q ≤ s 1 2 ∧ dc_Text_skipBlanks s = sg_up s 1 3 q ∧ (dc_R_here t).1 = sg_up (sg_up t 234 11 q) 234 12 q ∧ tx_A (sg_up s 1 3 q) (dc_R_here t).1 ∧ dc_R_letterAt (dc_R_here t).1 ((dc_R_here t).1 234 11) = (dc_R_here t).2 ∧ (dc_R_here t).2 ≠ 32 ∧ ((dc_R_here t).2 = -1 ↔ ¬ q < s 1 2) := by
  obtain ⟨q, q1, q2, q3, q4, q5, q6⟩ := tx_skip h
  have h0 := h.2.2.1
  have hA : tx_A (sg_up s 1 3 q) (dc_R_here t).1 := by
    rw [q4]
    refine tx_mk h (by rw [sg_eq, sg_nk (by decide), sg_eq]) (by rw [sg_eq]; omega) (by rw [sg_eq]; exact q2) (sg_nk (by decide) _ _ _) (by rw [sg_nk (by decide), sg_nk (by decide)]) (fun k => sg_na (by decide) _ _ _) (fun k => by rw [sg_na (by decide), sg_na (by decide)])
  refine ⟨q, q1, q2, q3, q4, hA, ?_, q6, ?_⟩
  · rw [q5]
    unfold dc_R_letterAt
    rw [q4, sg_nk (by decide), sg_nk (by decide), sg_nk (by decide), sg_eq, sg_na (by decide), sg_na (by decide), ← h.2.1]
    by_cases c : s 1 2 ≤ q
    · rw [if_pos c, if_neg (by omega)]
    · rw [if_neg c, if_pos (by omega)]
  · rw [q5]
    by_cases c : q < s 1 2
    · rw [if_pos c]
      have := (h.2.2.2.2.2 q.toNat (by omega)).2
      exact ⟨fun z => by omega, fun z => absurd c z⟩
    · rw [if_neg c]
      exact ⟨fun _ => c, fun _ => rfl⟩
def tx_D (s t : sg_S) : Prop := s 3 0 = t 234 16 ∧ s 3 1 = t 234 17 ∧ s 3 2 = t 234 18 ∧ s 3 3 = t 234 19 ∧ s 3 4 = t 234 22 ∧ 0 ≤ s 3 3 ∧ s 3 3 ≤ 9 ∧ 0 ≤ s 3 4 ∧ s 3 4 ≤ 5 ∧ (∀ k : Nat, (k : Int) < s 3 3 → s 4 k = t 239 k ∧ s 5 k = t 240 k) ∧ (∀ k : Nat, (k : Int) < s 3 4 → s 6 k = t 241 k ∧ s 7 k = t 242 k)
def tx_P (s t : sg_S) : Prop := tx_A s t ∧ tx_D s t ∧ s 1 4 = 0 ∧ s 1 5 = -1 ∧ t 234 15 = -1
def tx_F (S : sg_S) (r : sg_S × Int) : Prop := r.2 = 0 ∧ S 1 4 = r.1 234 14 ∧ S 1 5 = r.1 234 15 ∧ S 1 4 ≠ 0
theorem tx_fail {S : sg_S} (h : S 1 4 = 0) (n p : Int) : dc_Text_fail S n p 1 4 = n ∧ dc_Text_fail S n p 1 5 = p := by
  unfold dc_Text_fail
  rw [if_pos h, sg_nk (by decide), sg_eq, sg_eq]
  exact ⟨rfl, rfl⟩
theorem tx_fail' {S : sg_S} (h : S 1 4 ≠ 0) (n p : Int) : dc_Text_fail S n p = S := if_neg h
theorem tx_rfail (X : sg_S) (n p : Int) : (dc_R_fails X n p).2 = 0 ∧ (dc_R_fails X n p).1 234 14 = n ∧ (dc_R_fails X n p).1 234 15 = p := by
  refine ⟨rfl, ?_, ?_⟩
  · show sg_up (sg_up X 234 14 n) 234 15 p 234 14 = n
    rw [sg_nk (by decide), sg_eq]
  · show sg_up (sg_up X 234 14 n) 234 15 p 234 15 = p
    rw [sg_eq]
theorem tx_ff {S X : sg_S} (h : S 1 4 = 0) {n p : Int} (hn : n ≠ 0) : tx_F (dc_Text_fail S n p) ((dc_R_fails X n p).1, (dc_R_fails X n p).2) := by
  obtain ⟨a, b⟩ := tx_fail h n p
  obtain ⟨c, d, e⟩ := tx_rfail X n p
  exact ⟨c, by rw [a]; exact d.symm, by rw [b]; exact e.symm, by rw [a]; exact hn⟩
theorem tx_step {S u : sg_S} (hA : tx_A S u) (h4 : S 1 4 = 0) (top : Int) : tx_F (dc_Text_readNumber (dc_Text_skipBlanks S) top).1 (dc_R_takesNumber u 0 top) ∨ ∃ e v : Int, S 1 3 < e ∧ e ≤ S 1 2 ∧ 0 ≤ v ∧ v ≤ top ∧ dc_Text_readNumber (dc_Text_skipBlanks S) top = (sg_up S 1 3 e, v) ∧ (dc_R_takesNumber u 0 top).2 = 1 ∧ (dc_R_takesNumber u 0 top).1 234 11 = e ∧ (dc_R_takesNumber u 0 top).1 234 13 = v ∧ (dc_R_takesNumber u 0 top).1 234 15 = u 234 15 := by
  obtain ⟨q, e, v, q1, q2, q3, q4, q5, q6, q7, q8, q9, q10⟩ := tx_num hA top top
  have hz : (sg_up S 1 3 e) 1 4 = 0 := by rw [sg_nk (by decide)]; exact h4
  rw [q6, q7]
  unfold tx_C
  by_cases c1 : e = q
  · left
    rw [if_pos (by omega)]
    obtain ⟨r1, r2, r3⟩ := q8 c1
    obtain ⟨f1, f2⟩ := tx_fail hz 1 q
    exact ⟨r1, f1.trans r2.symm, f2.trans r3.symm, fun z => absurd (f1.symm.trans z) (by decide)⟩
  · rw [if_neg (by omega)]
    by_cases c2 : 3 < e - q
    · left
      rw [if_pos c2]
      obtain ⟨r1, r2, r3⟩ := q9 (by omega) (by omega)
      obtain ⟨f1, f2⟩ := tx_fail hz 2 q
      exact ⟨r1, f1.trans r2.symm, f2.trans r3.symm, fun z => absurd (f1.symm.trans z) (by decide)⟩
    · rw [if_neg c2]
      by_cases c3 : v ≤ top
      · right
        rw [if_pos c3]
        obtain ⟨r1, r2, r3, r4, r5⟩ := q10 (by omega) (by omega) c3
        exact ⟨e, v, by omega, q3, q4, c3, rfl, r1, r2, r4, r5⟩
      · left
        rw [if_neg c3]
        obtain ⟨r1, r2, r3⟩ := q9 (by omega) (by omega)
        obtain ⟨f1, f2⟩ := tx_fail hz 2 q
        exact ⟨r1, f1.trans r2.symm, f2.trans r3.symm, fun z => absurd (f1.symm.trans z) (by decide)⟩
theorem tx_end {S u : sg_S} (hA : tx_A S u) (h4 : S 1 4 = 0) : tx_F (dc_Text_readEnd S) (dc_R_takes u 59) ∨ ∃ e : Int, S 1 3 < e ∧ e ≤ S 1 2 ∧ dc_Text_readEnd S = sg_up S 1 3 e ∧ (dc_R_takes u 59).2 = 1 ∧ (dc_R_takes u 59).1 234 11 = e ∧ (dc_R_takes u 59).1 234 15 = u 234 15 := by
  obtain ⟨q, q1, q2, q3, q4, q5, q6, q7, q8⟩ := tx_skipA hA
  have hl := tx_let q5
  have h0 := hA.2.2.1
  have h5 := hA.2.2.2.2.1
  rw [q6, sg_eq, sg_nk (by decide)] at hl
  unfold dc_Text_readEnd dc_R_takes
  rw [q3]
  by_cases c : (dc_R_here u).2 = 59
  · right
    rw [if_pos (by omega), if_pos c, sg_eq, sy_w_id ⟨by omega, by omega⟩, sg_upup]
    refine ⟨q + 1, by omega, by omega, rfl, rfl, ?_, ?_⟩
    · dsimp only
      rw [sg_eq, q4, sg_nk (by decide), sg_eq]
    · dsimp only
      rw [sg_nk (by decide), q4, sg_nk (by decide), sg_nk (by decide)]
  · left
    rw [if_neg (by omega), if_neg c, sg_eq]
    have e12 : (dc_R_here u).1 234 12 = q := by rw [q4, sg_eq]
    rw [e12]
    exact tx_ff (by rw [sg_nk (by decide)]; exact h4) (by decide)
theorem tx_rf_c (S : sg_S) : dc_Text_readFirst S 99 = ((dc_Text_readNumber S 2).1, (dc_Text_readNumber S 2).2) := by
  unfold dc_Text_readFirst
  rw [if_pos rfl, if_neg (by decide), if_neg (by decide)]
theorem tx_rf_h (S : sg_S) : dc_Text_readFirst S 104 = if ((dc_Text_readNumber S 9).2) = 9 then ((dc_Text_readNumber S 9).1, (dc_Text_readNumber S 9).2) else (if ((dc_Text_readNumber S 9).1 3 3) ≤ ((dc_Text_readNumber S 9).2) then ((dc_Text_fail (dc_Text_readNumber S 9).1 2 (S 1 3)), (dc_Text_readNumber S 9).2) else ((dc_Text_readNumber S 9).1, (dc_Text_readNumber S 9).2)) := by
  unfold dc_Text_readFirst
  rw [if_neg (by decide), if_pos rfl, if_pos rfl]
theorem tx_rf_s (S : sg_S) : dc_Text_readFirst S 115 = if (sy_shl 1 ((dc_Text_readNumber S 511).1 3 3)) ≤ ((dc_Text_readNumber S 511).2) then ((dc_Text_fail (dc_Text_readNumber S 511).1 2 (S 1 3)), (dc_Text_readNumber S 511).2) else ((dc_Text_readNumber S 511).1, (dc_Text_readNumber S 511).2) := by
  unfold dc_Text_readFirst
  rw [if_neg (by decide), if_neg (by decide), if_neg (by decide), if_pos rfl]
/-- the first number of a house -/
theorem tx_firstH {S u : sg_S} (hA : tx_A S u) (h4 : S 1 4 = 0) (hH : S 3 3 = u 234 19) : tx_F (dc_Text_readFirst (dc_Text_skipBlanks S) 104).1 (dc_R_takesNumber u 0 9) ∨ ((dc_R_takesNumber u 0 9).2 = 1 ∧ ¬ (dc_R_takesNumber u 0 9).1 234 13 = 9 ∧ ¬ (dc_R_takesNumber u 0 9).1 234 13 < u 234 19 ∧ (dc_Text_readFirst (dc_Text_skipBlanks S) 104).1 1 4 = 2 ∧ (dc_Text_readFirst (dc_Text_skipBlanks S) 104).1 1 5 = (dc_R_takesNumber u 0 9).1 234 12) ∨ ∃ e v : Int, S 1 3 < e ∧ e ≤ S 1 2 ∧ 0 ≤ v ∧ v ≤ 9 ∧ (v = 9 ∨ v < u 234 19) ∧ dc_Text_readFirst (dc_Text_skipBlanks S) 104 = (sg_up S 1 3 e, v) ∧ (dc_R_takesNumber u 0 9).2 = 1 ∧ (dc_R_takesNumber u 0 9).1 234 11 = e ∧ (dc_R_takesNumber u 0 9).1 234 13 = v ∧ (dc_R_takesNumber u 0 9).1 234 15 = u 234 15 := by
  obtain ⟨q, e, v, q1, q2, q3, q4, q5, q6, q7, q8, q9, q10⟩ := tx_num hA 9 9
  have hz : (sg_up S 1 3 e) 1 4 = 0 := by rw [sg_nk (by decide)]; exact h4
  have h33 : (sg_up S 1 3 e) 3 3 = u 234 19 := by rw [sg_na (by decide)]; exact hH
  have bad : ∀ X : sg_S, X 1 4 ≠ 0 → dc_Text_readNumber (sg_up S 1 3 q) 9 = (X, v) → (dc_Text_readFirst (sg_up S 1 3 q) 104).1 = X := fun X hX hN => by
    rw [tx_rf_h, hN, tx_fail' hX, ite_self, ite_self]
  rw [q6]
  by_cases c1 : e = q
  · left
    have hN : dc_Text_readNumber (sg_up S 1 3 q) 9 = (dc_Text_fail (sg_up S 1 3 e) 1 q, v) := by
      rw [q7]; unfold tx_C; rw [if_pos (by omega)]
    obtain ⟨r1, r2, r3⟩ := q8 c1
    obtain ⟨f1, f2⟩ := tx_fail hz 1 q
    rw [bad _ (by rw [f1]; decide) hN]
    exact ⟨r1, f1.trans r2.symm, f2.trans r3.symm, fun z => absurd (f1.symm.trans z) (by decide)⟩
  · by_cases c2 : 3 < e - q ∨ 9 < v
    · left
      have hN : dc_Text_readNumber (sg_up S 1 3 q) 9 = (dc_Text_fail (sg_up S 1 3 e) 2 q, v) := by
        rw [q7]; unfold tx_C; rw [if_neg (by omega)]
        by_cases c3 : 3 < e - q
        · rw [if_pos c3]
        · rw [if_neg c3, if_neg (by omega)]
      obtain ⟨r1, r2, r3⟩ := q9 (by omega) (by omega)
      obtain ⟨f1, f2⟩ := tx_fail hz 2 q
      rw [bad _ (by rw [f1]; decide) hN]
      exact ⟨r1, f1.trans r2.symm, f2.trans r3.symm, fun z => absurd (f1.symm.trans z) (by decide)⟩
    · right
      have hN : dc_Text_readNumber (sg_up S 1 3 q) 9 = (sg_up S 1 3 e, v) := by
        rw [q7]; unfold tx_C; rw [if_neg (by omega), if_neg (by omega), if_pos (by omega)]
      obtain ⟨r1, r2, r3, r4, r5⟩ := q10 (by omega) (by omega) (by omega)
      by_cases c4 : v = 9
      · right
        have hF : dc_Text_readFirst (sg_up S 1 3 q) 104 = (sg_up S 1 3 e, v) := by
          rw [tx_rf_h, hN]
          exact if_pos c4
        exact ⟨e, v, by omega, q3, q4, by omega, Or.inl c4, hF, r1, r2, r4, r5⟩
      · by_cases c5 : u 234 19 ≤ v
        · left
          have hF : dc_Text_readFirst (sg_up S 1 3 q) 104 = (dc_Text_fail (sg_up S 1 3 e) 2 q, v) := by
            rw [tx_rf_h, hN]
            refine (if_neg c4).trans ((if_pos ?_).trans ?_)
            · show (sg_up S 1 3 e) 3 3 ≤ v
              rw [h33]; exact c5
            · rw [sg_eq]
          obtain ⟨f1, f2⟩ := tx_fail hz 2 q
          rw [hF]
          exact ⟨r1, by rw [r4]; exact c4, by rw [r4]; omega, f1, by rw [r3]; exact f2⟩
        · right
          have hF : dc_Text_readFirst (sg_up S 1 3 q) 104 = (sg_up S 1 3 e, v) := by
            rw [tx_rf_h, hN]
            refine (if_neg c4).trans (if_neg ?_)
            show ¬ (sg_up S 1 3 e) 3 3 ≤ v
            rw [h33]; exact c5
          exact ⟨e, v, by omega, q3, q4, by omega, Or.inr (by omega), hF, r1, r2, r4, r5⟩
/-- the first number of a sweep -/
theorem tx_firstS {S u : sg_S} (hA : tx_A S u) (h4 : S 1 4 = 0) (hH : S 3 3 = u 234 19) (b0 : 0 ≤ u 234 19) (b9 : u 234 19 ≤ 9) : tx_F (dc_Text_readFirst (dc_Text_skipBlanks S) 115).1 (dc_R_takesNumber u 0 ((sy_shl 1 (u 234 19)) - 1)) ∨ ∃ e v : Int, S 1 3 < e ∧ e ≤ S 1 2 ∧ 0 ≤ v ∧ v ≤ 511 ∧ dc_Text_readFirst (dc_Text_skipBlanks S) 115 = (sg_up S 1 3 e, v) ∧ (dc_R_takesNumber u 0 ((sy_shl 1 (u 234 19)) - 1)).2 = 1 ∧ (dc_R_takesNumber u 0 ((sy_shl 1 (u 234 19)) - 1)).1 234 11 = e ∧ (dc_R_takesNumber u 0 ((sy_shl 1 (u 234 19)) - 1)).1 234 13 = v ∧ (dc_R_takesNumber u 0 ((sy_shl 1 (u 234 19)) - 1)).1 234 15 = u 234 15 := by
  have hp := sg_shl10 (u 234 19) b0 (by omega)
  obtain ⟨q, e, v, q1, q2, q3, q4, q5, q6, q7, q8, q9, q10⟩ := tx_num hA 511 ((sy_shl 1 (u 234 19)) - 1)
  have hz : (sg_up S 1 3 e) 1 4 = 0 := by rw [sg_nk (by decide)]; exact h4
  have h33 : (sg_up S 1 3 e) 3 3 = u 234 19 := by rw [sg_na (by decide)]; exact hH
  have bad : ∀ X : sg_S, X 1 4 ≠ 0 → dc_Text_readNumber (sg_up S 1 3 q) 511 = (X, v) → (dc_Text_readFirst (sg_up S 1 3 q) 115).1 = X := fun X hX hN => by
    rw [tx_rf_s, hN, tx_fail' hX, ite_self]
  rw [q6]
  by_cases c1 : e = q
  · left
    have hN : dc_Text_readNumber (sg_up S 1 3 q) 511 = (dc_Text_fail (sg_up S 1 3 e) 1 q, v) := by
      rw [q7]; unfold tx_C; rw [if_pos (by omega)]
    obtain ⟨r1, r2, r3⟩ := q8 c1
    obtain ⟨f1, f2⟩ := tx_fail hz 1 q
    rw [bad _ (by rw [f1]; decide) hN]
    exact ⟨r1, f1.trans r2.symm, f2.trans r3.symm, fun z => absurd (f1.symm.trans z) (by decide)⟩
  · by_cases c2 : 3 < e - q ∨ 511 < v
    · left
      have hN : dc_Text_readNumber (sg_up S 1 3 q) 511 = (dc_Text_fail (sg_up S 1 3 e) 2 q, v) := by
        rw [q7]; unfold tx_C; rw [if_neg (by omega)]
        by_cases c3 : 3 < e - q
        · rw [if_pos c3]
        · rw [if_neg c3, if_neg (by omega)]
      obtain ⟨r1, r2, r3⟩ := q9 (by omega) (by omega)
      obtain ⟨f1, f2⟩ := tx_fail hz 2 q
      rw [bad _ (by rw [f1]; decide) hN]
      exact ⟨r1, f1.trans r2.symm, f2.trans r3.symm, fun z => absurd (f1.symm.trans z) (by decide)⟩
    · have hN : dc_Text_readNumber (sg_up S 1 3 q) 511 = (sg_up S 1 3 e, v) := by
        rw [q7]; unfold tx_C; rw [if_neg (by omega), if_neg (by omega), if_pos (by omega)]
      by_cases c5 : sy_shl 1 (u 234 19) ≤ v
      · left
        have hF : dc_Text_readFirst (sg_up S 1 3 q) 115 = (dc_Text_fail (sg_up S 1 3 e) 2 q, v) := by
          rw [tx_rf_s, hN]
          refine (if_pos ?_).trans ?_
          · show sy_shl 1 ((sg_up S 1 3 e) 3 3) ≤ v
            rw [h33]; exact c5
          · rw [sg_eq]
        obtain ⟨r1, r2, r3⟩ := q9 (by omega) (by omega)
        obtain ⟨f1, f2⟩ := tx_fail hz 2 q
        rw [hF]
        exact ⟨r1, f1.trans r2.symm, f2.trans r3.symm, fun z => absurd (f1.symm.trans z) (by decide)⟩
      · right
        have hF : dc_Text_readFirst (sg_up S 1 3 q) 115 = (sg_up S 1 3 e, v) := by
          rw [tx_rf_s, hN]
          refine if_neg ?_
          show ¬ sy_shl 1 ((sg_up S 1 3 e) 3 3) ≤ v
          rw [h33]; exact c5
        obtain ⟨r1, r2, r3, r4, r5⟩ := q10 (by omega) (by omega) (by omega)
        exact ⟨e, v, by omega, q3, q4, by omega, hF, r1, r2, r4, r5⟩
