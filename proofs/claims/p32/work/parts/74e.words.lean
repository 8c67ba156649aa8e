/-! A CLAUSE OF EACH WORD -/
theorem tx_rn_c1 (S : sg_S) (c1 : ¬ (dc_Text_skipBlanks (dc_Text_readFirst (dc_Text_skipBlanks S) 99).1) 1 4 = 0) : dc_Text_readNumbersOf S 99 = (dc_Text_skipBlanks (dc_Text_readFirst (dc_Text_skipBlanks S) 99).1) := by
  unfold dc_Text_readNumbersOf
  simp only [if_neg c1, show (((99 : Int) = 99)) = True from eq_self _, show (((99 : Int) = 104)) = False from eq_false (by decide), show (((99 : Int) = 115)) = False from eq_false (by decide), if_true, if_false]
theorem tx_rn_c2 (S : sg_S) (c1 : (dc_Text_skipBlanks (dc_Text_readFirst (dc_Text_skipBlanks S) 99).1) 1 4 = 0) (c2 : ¬ (dc_Text_readNumber (dc_Text_skipBlanks (dc_Text_readFirst (dc_Text_skipBlanks S) 99).1) 4).1 1 4 = 0) : dc_Text_readNumbersOf S 99 = (dc_Text_readNumber (dc_Text_skipBlanks (dc_Text_readFirst (dc_Text_skipBlanks S) 99).1) 4).1 := by
  unfold dc_Text_readNumbersOf
  simp only [if_pos c1, if_neg c2, show (((99 : Int) = 99)) = True from eq_self _, show (((99 : Int) = 104)) = False from eq_false (by decide), show (((99 : Int) = 115)) = False from eq_false (by decide), if_true, if_false]
theorem tx_rn_c3 (S : sg_S) (c1 : (dc_Text_skipBlanks (dc_Text_readFirst (dc_Text_skipBlanks S) 99).1) 1 4 = 0) (c2 : (dc_Text_readNumber (dc_Text_skipBlanks (dc_Text_readFirst (dc_Text_skipBlanks S) 99).1) 4).1 1 4 = 0) (c3 : ¬ (dc_Text_readEnd (dc_Text_readNumber (dc_Text_skipBlanks (dc_Text_readFirst (dc_Text_skipBlanks S) 99).1) 4).1) 1 4 = 0) : dc_Text_readNumbersOf S 99 = (dc_Text_readEnd (dc_Text_readNumber (dc_Text_skipBlanks (dc_Text_readFirst (dc_Text_skipBlanks S) 99).1) 4).1) := by
  unfold dc_Text_readNumbersOf
  simp only [if_pos c1, if_pos c2, if_neg c3, show (((99 : Int) = 99)) = True from eq_self _, show (((99 : Int) = 104)) = False from eq_false (by decide), show (((99 : Int) = 115)) = False from eq_false (by decide), if_true, if_false]
theorem tx_rn_c4 (S : sg_S) (c1 : (dc_Text_skipBlanks (dc_Text_readFirst (dc_Text_skipBlanks S) 99).1) 1 4 = 0) (c2 : (dc_Text_readNumber (dc_Text_skipBlanks (dc_Text_readFirst (dc_Text_skipBlanks S) 99).1) 4).1 1 4 = 0) (c3 : (dc_Text_readEnd (dc_Text_readNumber (dc_Text_skipBlanks (dc_Text_readFirst (dc_Text_skipBlanks S) 99).1) 4).1) 1 4 = 0) : dc_Text_readNumbersOf S 99 = dc_Plan_tellCity (dc_Text_readEnd (dc_Text_readNumber (dc_Text_skipBlanks (dc_Text_readFirst (dc_Text_skipBlanks S) 99).1) 4).1) (dc_Text_readFirst (dc_Text_skipBlanks S) 99).2 (dc_Text_readNumber (dc_Text_skipBlanks (dc_Text_readFirst (dc_Text_skipBlanks S) 99).1) 4).2 := by
  unfold dc_Text_readNumbersOf
  simp only [if_pos c1, if_pos c2, if_pos c3, show (((99 : Int) = 99)) = True from eq_self _, show (((99 : Int) = 104)) = False from eq_false (by decide), show (((99 : Int) = 115)) = False from eq_false (by decide), if_true, if_false]
theorem tx_rn_h1 (S : sg_S) (c1 : ¬ (dc_Text_skipBlanks (dc_Text_readFirst (dc_Text_skipBlanks S) 104).1) 1 4 = 0) : dc_Text_readNumbersOf S 104 = (dc_Text_skipBlanks (dc_Text_readFirst (dc_Text_skipBlanks S) 104).1) := by
  unfold dc_Text_readNumbersOf
  simp only [if_neg c1, show (((104 : Int) = 99)) = False from eq_false (by decide), show (((104 : Int) = 104)) = True from eq_self _, show (((104 : Int) = 115)) = False from eq_false (by decide), if_true, if_false]
theorem tx_rn_h2 (S : sg_S) (c1 : (dc_Text_skipBlanks (dc_Text_readFirst (dc_Text_skipBlanks S) 104).1) 1 4 = 0) (c2 : ¬ (dc_Text_readNumber (dc_Text_skipBlanks (dc_Text_readFirst (dc_Text_skipBlanks S) 104).1) 7).1 1 4 = 0) : dc_Text_readNumbersOf S 104 = (dc_Text_readNumber (dc_Text_skipBlanks (dc_Text_readFirst (dc_Text_skipBlanks S) 104).1) 7).1 := by
  unfold dc_Text_readNumbersOf
  simp only [if_pos c1, if_neg c2, show (((104 : Int) = 99)) = False from eq_false (by decide), show (((104 : Int) = 104)) = True from eq_self _, show (((104 : Int) = 115)) = False from eq_false (by decide), if_true, if_false]
theorem tx_rn_h3 (S : sg_S) (c1 : (dc_Text_skipBlanks (dc_Text_readFirst (dc_Text_skipBlanks S) 104).1) 1 4 = 0) (c2 : (dc_Text_readNumber (dc_Text_skipBlanks (dc_Text_readFirst (dc_Text_skipBlanks S) 104).1) 7).1 1 4 = 0) (c3 : ¬ (dc_Text_readEnd (dc_Text_readNumber (dc_Text_skipBlanks (dc_Text_readFirst (dc_Text_skipBlanks S) 104).1) 7).1) 1 4 = 0) : dc_Text_readNumbersOf S 104 = (dc_Text_readEnd (dc_Text_readNumber (dc_Text_skipBlanks (dc_Text_readFirst (dc_Text_skipBlanks S) 104).1) 7).1) := by
  unfold dc_Text_readNumbersOf
  simp only [if_pos c1, if_pos c2, if_neg c3, show (((104 : Int) = 99)) = False from eq_false (by decide), show (((104 : Int) = 104)) = True from eq_self _, show (((104 : Int) = 115)) = False from eq_false (by decide), if_true, if_false]
theorem tx_rn_h4 (S : sg_S) (c1 : (dc_Text_skipBlanks (dc_Text_readFirst (dc_Text_skipBlanks S) 104).1) 1 4 = 0) (c2 : (dc_Text_readNumber (dc_Text_skipBlanks (dc_Text_readFirst (dc_Text_skipBlanks S) 104).1) 7).1 1 4 = 0) (c3 : (dc_Text_readEnd (dc_Text_readNumber (dc_Text_skipBlanks (dc_Text_readFirst (dc_Text_skipBlanks S) 104).1) 7).1) 1 4 = 0) : dc_Text_readNumbersOf S 104 = dc_Plan_tellHouse (dc_Text_readEnd (dc_Text_readNumber (dc_Text_skipBlanks (dc_Text_readFirst (dc_Text_skipBlanks S) 104).1) 7).1) (dc_Text_readFirst (dc_Text_skipBlanks S) 104).2 (dc_Text_readNumber (dc_Text_skipBlanks (dc_Text_readFirst (dc_Text_skipBlanks S) 104).1) 7).2 := by
  unfold dc_Text_readNumbersOf
  simp only [if_pos c1, if_pos c2, if_pos c3, show (((104 : Int) = 99)) = False from eq_false (by decide), show (((104 : Int) = 104)) = True from eq_self _, show (((104 : Int) = 115)) = False from eq_false (by decide), if_true, if_false]
theorem tx_rn_s1 (S : sg_S) (c1 : ¬ (dc_Text_skipBlanks (dc_Text_readFirst (dc_Text_skipBlanks S) 115).1) 1 4 = 0) : dc_Text_readNumbersOf S 115 = (dc_Text_skipBlanks (dc_Text_readFirst (dc_Text_skipBlanks S) 115).1) := by
  unfold dc_Text_readNumbersOf
  simp only [if_neg c1, show (((115 : Int) = 99)) = False from eq_false (by decide), show (((115 : Int) = 104)) = False from eq_false (by decide), show (((115 : Int) = 115)) = True from eq_self _, if_true, if_false]
theorem tx_rn_s2 (S : sg_S) (c1 : (dc_Text_skipBlanks (dc_Text_readFirst (dc_Text_skipBlanks S) 115).1) 1 4 = 0) (c2 : ¬ (dc_Text_readNumber (dc_Text_skipBlanks (dc_Text_readFirst (dc_Text_skipBlanks S) 115).1) 99).1 1 4 = 0) : dc_Text_readNumbersOf S 115 = (dc_Text_readNumber (dc_Text_skipBlanks (dc_Text_readFirst (dc_Text_skipBlanks S) 115).1) 99).1 := by
  unfold dc_Text_readNumbersOf
  simp only [if_pos c1, if_neg c2, show (((115 : Int) = 99)) = False from eq_false (by decide), show (((115 : Int) = 104)) = False from eq_false (by decide), show (((115 : Int) = 115)) = True from eq_self _, if_true, if_false]
theorem tx_rn_s3 (S : sg_S) (c1 : (dc_Text_skipBlanks (dc_Text_readFirst (dc_Text_skipBlanks S) 115).1) 1 4 = 0) (c2 : (dc_Text_readNumber (dc_Text_skipBlanks (dc_Text_readFirst (dc_Text_skipBlanks S) 115).1) 99).1 1 4 = 0) (c3 : ¬ (dc_Text_readEnd (dc_Text_readNumber (dc_Text_skipBlanks (dc_Text_readFirst (dc_Text_skipBlanks S) 115).1) 99).1) 1 4 = 0) : dc_Text_readNumbersOf S 115 = (dc_Text_readEnd (dc_Text_readNumber (dc_Text_skipBlanks (dc_Text_readFirst (dc_Text_skipBlanks S) 115).1) 99).1) := by
  unfold dc_Text_readNumbersOf
  simp only [if_pos c1, if_pos c2, if_neg c3, show (((115 : Int) = 99)) = False from eq_false (by decide), show (((115 : Int) = 104)) = False from eq_false (by decide), show (((115 : Int) = 115)) = True from eq_self _, if_true, if_false]
theorem tx_rn_s4 (S : sg_S) (c1 : (dc_Text_skipBlanks (dc_Text_readFirst (dc_Text_skipBlanks S) 115).1) 1 4 = 0) (c2 : (dc_Text_readNumber (dc_Text_skipBlanks (dc_Text_readFirst (dc_Text_skipBlanks S) 115).1) 99).1 1 4 = 0) (c3 : (dc_Text_readEnd (dc_Text_readNumber (dc_Text_skipBlanks (dc_Text_readFirst (dc_Text_skipBlanks S) 115).1) 99).1) 1 4 = 0) : dc_Text_readNumbersOf S 115 = dc_Plan_tellSweep (dc_Text_readEnd (dc_Text_readNumber (dc_Text_skipBlanks (dc_Text_readFirst (dc_Text_skipBlanks S) 115).1) 99).1) (dc_Text_readFirst (dc_Text_skipBlanks S) 115).2 (dc_Text_readNumber (dc_Text_skipBlanks (dc_Text_readFirst (dc_Text_skipBlanks S) 115).1) 99).2 := by
  unfold dc_Text_readNumbersOf
  simp only [if_pos c1, if_pos c2, if_pos c3, show (((115 : Int) = 99)) = False from eq_false (by decide), show (((115 : Int) = 104)) = False from eq_false (by decide), show (((115 : Int) = 115)) = True from eq_self _, if_true, if_false]
theorem tx_hereT {t : sg_S} {c : Int} (hc : dc_R_letterAt t (t 234 11) = c) (h32 : c ≠ 32) (h12 : t 234 12 = t 234 11) : dc_R_here t = (t, c) := by
  show dc_R_here_0 241 t = (t, c)
  have e : sg_up t 234 12 (t 234 11) = t := by rw [← h12, sg_upid]
  rw [dc_R_here_0_s, if_neg (by rw [hc]; exact h32), e, hc]
theorem tx_rc_c0 {t : sg_S} (hh : dc_R_here t = (t, 99)) (h0 : t 234 16 = 0) : dc_R_takesClause t = if ((dc_R_takesCity (sg_up t 234 11 ((t 234 11) + 1))).2) = 0 then ((dc_R_takesCity (sg_up t 234 11 ((t 234 11) + 1))).1, 0) else (if ((dc_R_takes (dc_R_takesCity (sg_up t 234 11 ((t 234 11) + 1))).1 59).2) = 0 then ((dc_R_takes (dc_R_takesCity (sg_up t 234 11 ((t 234 11) + 1))).1 59).1, 0) else ((dc_R_takes (dc_R_takesCity (sg_up t 234 11 ((t 234 11) + 1))).1 59).1, 1)) := by
  unfold dc_R_takesClause
  rw [hh]
  simp only [eq_true h0, show (((99 : Int) = 99)) = True from eq_self _, show (((99 : Int) = 104)) = False from eq_false (by decide), show (((99 : Int) = 115)) = False from eq_false (by decide), if_true, if_false, ite_self]
theorem tx_rc_c3 {t : sg_S} (hh : dc_R_here t = (t, 99)) (h0 : ¬ t 234 16 = 0) : dc_R_takesClause t = ((dc_R_fails t 3 (t 234 12)).1, (dc_R_fails t 3 (t 234 12)).2) := by
  unfold dc_R_takesClause
  rw [hh]
  simp only [eq_false h0, show (((99 : Int) = 99)) = True from eq_self _, show (((99 : Int) = 104)) = False from eq_false (by decide), show (((99 : Int) = 115)) = False from eq_false (by decide), if_true, if_false, ite_self]
theorem tx_rc_h1 {t : sg_S} (hh : dc_R_here t = (t, 104)) (h0 : t 234 16 = 0) : dc_R_takesClause t = ((dc_R_fails t 1 (t 234 12)).1, (dc_R_fails t 1 (t 234 12)).2) := by
  unfold dc_R_takesClause
  rw [hh]
  simp only [eq_true h0, show (((104 : Int) = 99)) = False from eq_false (by decide), show (((104 : Int) = 104)) = True from eq_self _, show (((104 : Int) = 115)) = False from eq_false (by decide), if_true, if_false, ite_self]
theorem tx_rc_h3 {t : sg_S} (hh : dc_R_here t = (t, 104)) (h0 : ¬ t 234 16 = 0) (h1 : t 234 19 = 9) : dc_R_takesClause t = ((dc_R_fails t 3 (t 234 12)).1, (dc_R_fails t 3 (t 234 12)).2) := by
  unfold dc_R_takesClause
  rw [hh]
  simp only [eq_false h0, eq_true h1, show (((104 : Int) = 99)) = False from eq_false (by decide), show (((104 : Int) = 104)) = True from eq_self _, show (((104 : Int) = 115)) = False from eq_false (by decide), if_true, if_false, ite_self]
theorem tx_rc_h0 {t : sg_S} (hh : dc_R_here t = (t, 104)) (h0 : ¬ t 234 16 = 0) (h1 : ¬ t 234 19 = 9) : dc_R_takesClause t = if ((dc_R_takesHouse (sg_up t 234 11 ((t 234 11) + 1))).2) = 0 then ((dc_R_takesHouse (sg_up t 234 11 ((t 234 11) + 1))).1, 0) else (if ((dc_R_takes (dc_R_takesHouse (sg_up t 234 11 ((t 234 11) + 1))).1 59).2) = 0 then ((dc_R_takes (dc_R_takesHouse (sg_up t 234 11 ((t 234 11) + 1))).1 59).1, 0) else ((dc_R_takes (dc_R_takesHouse (sg_up t 234 11 ((t 234 11) + 1))).1 59).1, 1)) := by
  unfold dc_R_takesClause
  rw [hh]
  simp only [eq_false h0, eq_false h1, show (((104 : Int) = 99)) = False from eq_false (by decide), show (((104 : Int) = 104)) = True from eq_self _, show (((104 : Int) = 115)) = False from eq_false (by decide), if_true, if_false, ite_self]
theorem tx_rc_s1 {t : sg_S} (hh : dc_R_here t = (t, 115)) (h0 : t 234 16 = 0) : dc_R_takesClause t = ((dc_R_fails t 1 (t 234 12)).1, (dc_R_fails t 1 (t 234 12)).2) := by
  unfold dc_R_takesClause
  rw [hh]
  simp only [eq_true h0, show (((115 : Int) = 99)) = False from eq_false (by decide), show (((115 : Int) = 104)) = False from eq_false (by decide), show (((115 : Int) = 115)) = True from eq_self _, if_true, if_false, ite_self]
theorem tx_rc_s3 {t : sg_S} (hh : dc_R_here t = (t, 115)) (h0 : ¬ t 234 16 = 0) (h1 : t 234 22 = 5) : dc_R_takesClause t = ((dc_R_fails t 3 (t 234 12)).1, (dc_R_fails t 3 (t 234 12)).2) := by
  unfold dc_R_takesClause
  rw [hh]
  simp only [eq_false h0, eq_true h1, show (((115 : Int) = 99)) = False from eq_false (by decide), show (((115 : Int) = 104)) = False from eq_false (by decide), show (((115 : Int) = 115)) = True from eq_self _, if_true, if_false, ite_self]
theorem tx_rc_s0 {t : sg_S} (hh : dc_R_here t = (t, 115)) (h0 : ¬ t 234 16 = 0) (h1 : ¬ t 234 22 = 5) : dc_R_takesClause t = if ((dc_R_takesSweep (sg_up t 234 11 ((t 234 11) + 1))).2) = 0 then ((dc_R_takesSweep (sg_up t 234 11 ((t 234 11) + 1))).1, 0) else (if ((dc_R_takes (dc_R_takesSweep (sg_up t 234 11 ((t 234 11) + 1))).1 59).2) = 0 then ((dc_R_takes (dc_R_takesSweep (sg_up t 234 11 ((t 234 11) + 1))).1 59).1, 0) else ((dc_R_takes (dc_R_takesSweep (sg_up t 234 11 ((t 234 11) + 1))).1 59).1, 1)) := by
  unfold dc_R_takesClause
  rw [hh]
  simp only [eq_false h0, eq_false h1, show (((115 : Int) = 99)) = False from eq_false (by decide), show (((115 : Int) = 104)) = False from eq_false (by decide), show (((115 : Int) = 115)) = True from eq_self _, if_true, if_false, ite_self]
theorem tx_rc_o {t : sg_S} {c : Int} (n1 : ¬ c = 99) (n2 : ¬ c = 104) (n3 : ¬ c = 115) (hh : dc_R_here t = (t, c)) : dc_R_takesClause t = ((dc_R_fails t 1 (t 234 12)).1, (dc_R_fails t 1 (t 234 12)).2) := by
  unfold dc_R_takesClause
  rw [hh]
  simp only [eq_false n1, eq_false n2, eq_false n3, if_true, if_false, ite_self]
theorem tx_cc_c0 {s : sg_S} (hl : dc_Text_letter s = 99) (h0 : s 3 0 = 0) : dc_Text_readClause s = dc_Text_readNumbersOf (sg_up s 1 3 (sy_w ((s 1 3) + 1))) 99 := by
  unfold dc_Text_readClause dc_Text_mayBegin dc_Text_isOneTooMany
  rw [hl]
  simp only [eq_true h0, show (((99 : Int) = 99)) = True from eq_self _, show (((99 : Int) = 104)) = False from eq_false (by decide), show (((99 : Int) = 115)) = False from eq_false (by decide), if_true, if_false, show ((1 : Int) = 0) = False from eq_false (by decide), show ((0 : Int) = 0) = True from eq_self _, ite_self]
theorem tx_cc_c3 {s : sg_S} (hl : dc_Text_letter s = 99) (h0 : ¬ s 3 0 = 0) : dc_Text_readClause s = dc_Text_fail s 3 (s 1 3) := by
  unfold dc_Text_readClause dc_Text_mayBegin dc_Text_isOneTooMany
  rw [hl]
  simp only [eq_false h0, show (((99 : Int) = 99)) = True from eq_self _, show (((99 : Int) = 104)) = False from eq_false (by decide), show (((99 : Int) = 115)) = False from eq_false (by decide), if_true, if_false, show ((1 : Int) = 0) = False from eq_false (by decide), show ((0 : Int) = 0) = True from eq_self _, ite_self]
theorem tx_cc_h1 {s : sg_S} (hl : dc_Text_letter s = 104) (h0 : s 3 0 = 0) : dc_Text_readClause s = dc_Text_fail s 1 (s 1 3) := by
  unfold dc_Text_readClause dc_Text_mayBegin dc_Text_isOneTooMany
  rw [hl]
  simp only [eq_true h0, show (((104 : Int) = 99)) = False from eq_false (by decide), show (((104 : Int) = 104)) = True from eq_self _, show (((104 : Int) = 115)) = False from eq_false (by decide), if_true, if_false, show ((1 : Int) = 0) = False from eq_false (by decide), show ((0 : Int) = 0) = True from eq_self _, ite_self]
theorem tx_cc_h3 {s : sg_S} (hl : dc_Text_letter s = 104) (h0 : ¬ s 3 0 = 0) (h1 : 9 ≤ s 3 3) : dc_Text_readClause s = dc_Text_fail s 3 (s 1 3) := by
  unfold dc_Text_readClause dc_Text_mayBegin dc_Text_isOneTooMany
  rw [hl]
  simp only [eq_false h0, eq_true h1, show (((104 : Int) = 99)) = False from eq_false (by decide), show (((104 : Int) = 104)) = True from eq_self _, show (((104 : Int) = 115)) = False from eq_false (by decide), if_true, if_false, show ((1 : Int) = 0) = False from eq_false (by decide), show ((0 : Int) = 0) = True from eq_self _, ite_self]
theorem tx_cc_h0 {s : sg_S} (hl : dc_Text_letter s = 104) (h0 : ¬ s 3 0 = 0) (h1 : ¬ 9 ≤ s 3 3) : dc_Text_readClause s = dc_Text_readNumbersOf (sg_up s 1 3 (sy_w ((s 1 3) + 1))) 104 := by
  unfold dc_Text_readClause dc_Text_mayBegin dc_Text_isOneTooMany
  rw [hl]
  simp only [eq_false h0, eq_false h1, show (((104 : Int) = 99)) = False from eq_false (by decide), show (((104 : Int) = 104)) = True from eq_self _, show (((104 : Int) = 115)) = False from eq_false (by decide), if_true, if_false, show ((1 : Int) = 0) = False from eq_false (by decide), show ((0 : Int) = 0) = True from eq_self _, ite_self]
theorem tx_cc_s1 {s : sg_S} (hl : dc_Text_letter s = 115) (h0 : s 3 0 = 0) : dc_Text_readClause s = dc_Text_fail s 1 (s 1 3) := by
  unfold dc_Text_readClause dc_Text_mayBegin dc_Text_isOneTooMany
  rw [hl]
  simp only [eq_true h0, show (((115 : Int) = 99)) = False from eq_false (by decide), show (((115 : Int) = 104)) = False from eq_false (by decide), show (((115 : Int) = 115)) = True from eq_self _, if_true, if_false, show ((1 : Int) = 0) = False from eq_false (by decide), show ((0 : Int) = 0) = True from eq_self _, ite_self]
theorem tx_cc_s3 {s : sg_S} (hl : dc_Text_letter s = 115) (h0 : ¬ s 3 0 = 0) (h1 : ¬ s 3 4 < 5) : dc_Text_readClause s = dc_Text_fail s 3 (s 1 3) := by
  unfold dc_Text_readClause dc_Text_mayBegin dc_Text_isOneTooMany
  rw [hl]
  simp only [eq_false h0, eq_false h1, show (((115 : Int) = 99)) = False from eq_false (by decide), show (((115 : Int) = 104)) = False from eq_false (by decide), show (((115 : Int) = 115)) = True from eq_self _, if_true, if_false, show ((1 : Int) = 0) = False from eq_false (by decide), show ((0 : Int) = 0) = True from eq_self _, ite_self]
theorem tx_cc_s0 {s : sg_S} (hl : dc_Text_letter s = 115) (h0 : ¬ s 3 0 = 0) (h1 : s 3 4 < 5) : dc_Text_readClause s = dc_Text_readNumbersOf (sg_up s 1 3 (sy_w ((s 1 3) + 1))) 115 := by
  unfold dc_Text_readClause dc_Text_mayBegin dc_Text_isOneTooMany
  rw [hl]
  simp only [eq_false h0, eq_true h1, show (((115 : Int) = 99)) = False from eq_false (by decide), show (((115 : Int) = 104)) = False from eq_false (by decide), show (((115 : Int) = 115)) = True from eq_self _, if_true, if_false, show ((1 : Int) = 0) = False from eq_false (by decide), show ((0 : Int) = 0) = True from eq_self _, ite_self]
theorem tx_cc_o {s : sg_S} {c : Int} (n1 : ¬ c = 99) (n2 : ¬ c = 104) (n3 : ¬ c = 115) (hl : dc_Text_letter s = c) : dc_Text_readClause s = dc_Text_fail s 1 (s 1 3) := by
  unfold dc_Text_readClause dc_Text_mayBegin dc_Text_isOneTooMany
  rw [hl]
  simp only [eq_false n1, eq_false n2, eq_false n3, if_true, if_false, show ((1 : Int) = 0) = False from eq_false (by decide), show ((0 : Int) = 0) = True from eq_self _, ite_self]
