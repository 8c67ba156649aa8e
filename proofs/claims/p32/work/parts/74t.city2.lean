/-! THE CITY'S STREETS ON BOTH SIDES -/
theorem rw203 (n : Nat) : ∀ (s : sg_S) (l3 : Int), 0 ≤ l3 → l3 ≤ 5 → s 234 7 ≤ 5 → 5 - l3 < (n : Int) → (dc_R_city_203 n s l3).1 234 2 = 0 ∧ (∀ k : Nat, (dc_R_city_203 n s l3).1 235 k = if 101 + l3 ≤ (k : Int) ∧ (k : Int) < 101 + s 234 7 then s 241 (k - 101) else s 235 k) ∧ (∀ x : Nat, (dc_R_city_203 n s l3).1 237 x = if l3 ≤ (x : Int) ∧ (x : Int) < s 234 7 then s 242 x else s 237 x) := by
  induction n with
  | zero => intro s l3 h0 h5 h7 hn; exact absurd hn (by omega)
  | succ n ih =>
    intro s l3 h0 h5 h7 hn
    rw [dc_R_city_203_s]
    by_cases c : s 234 7 ≤ l3
    · rw [if_pos c]
      dsimp only
      refine ⟨by rw [sg_na (by decide), sg_na (by decide), sg_eq], fun k => ?_, fun x => ?_⟩
      · rw [if_neg (by omega), sg_na (by decide), sg_na (by decide), sg_na (by decide), sg_na (by decide), sg_na (by decide)]
      · rw [if_neg (by omega), sg_na (by decide), sg_na (by decide), sg_na (by decide), sg_na (by decide), sg_na (by decide)]
    · rw [if_neg c]
      have e7 : (sg_up (sg_up s 235 ((101 + l3).toNat) (s 241 ((l3).toNat))) 237 ((l3).toNat) (s 242 ((l3).toNat))) 234 7 = s 234 7 := by rw [sg_na (by decide), sg_na (by decide)]
      obtain ⟨q1, q2, q3⟩ := ih (sg_up (sg_up s 235 ((101 + l3).toNat) (s 241 ((l3).toNat))) 237 ((l3).toNat) (s 242 ((l3).toNat))) (l3 + 1) (by omega) (by omega) (by rw [e7]; exact h7) (by omega)
      rw [e7] at q2 q3
      refine ⟨q1, fun k => ?_, fun x => ?_⟩
      · rw [q2 k]
        by_cases z : 101 + (l3 + 1) ≤ (k : Int) ∧ (k : Int) < 101 + s 234 7
        · rw [if_pos z, if_pos (by omega), sg_na (by decide), sg_na (by decide)]
        · rw [if_neg z, sg_na (by decide)]
          by_cases y : (k : Int) = 101 + l3
          · rw [if_pos (by omega), show (101 + l3).toNat = k by omega, sg_eq, show l3.toNat = k - 101 by omega]
          · rw [if_neg (by omega), sg_nk (by omega)]
      · rw [q3 x]
        by_cases z : l3 + 1 ≤ (x : Int) ∧ (x : Int) < s 234 7
        · rw [if_pos z, if_pos (by omega), sg_na (by decide), sg_na (by decide)]
        · rw [if_neg z]
          by_cases y : (x : Int) = l3
          · rw [if_pos (by omega), show l3.toNat = x by omega, sg_eq]
          · rw [if_neg (by omega), sg_nk (by omega), sg_na (by decide)]
theorem rw158 (n : Nat) : ∀ (s : sg_S) (l3 : Int), 0 ≤ l3 → l3 ≤ 9 → s 234 6 ≤ 9 → s 234 7 ≤ 5 → 9 - l3 < (n : Int) → (dc_R_city_158 n s l3).1 234 2 = 0 ∧ (∀ k : Nat, (dc_R_city_158 n s l3).1 235 k = if 101 ≤ (k : Int) ∧ (k : Int) < 101 + s 234 7 then s 241 (k - 101) else if 2 + l3 ≤ (k : Int) ∧ (k : Int) < 2 + s 234 6 then s 240 (k - 2) else if 11 + l3 ≤ (k : Int) ∧ (k : Int) < 11 + s 234 6 then s 239 (k - 11) else s 235 k) ∧ (∀ x : Nat, (dc_R_city_158 n s l3).1 237 x = if (x : Int) < s 234 7 then s 242 x else s 237 x) := by
  induction n with
  | zero => intro s l3 h0 h9 h6 h7 hn; exact absurd hn (by omega)
  | succ n ih =>
    intro s l3 h0 h9 h6 h7 hn
    rw [dc_R_city_158_s]
    by_cases c : s 234 6 ≤ l3
    · rw [if_pos c]
      obtain ⟨q1, q2, q3⟩ := rw203 6 s 0 (by omega) (by omega) h7 (by omega)
      refine ⟨q1, fun k => ?_, fun x => ?_⟩
      · rw [q2 k]
        by_cases z : 101 ≤ (k : Int) ∧ (k : Int) < 101 + s 234 7
        · rw [if_pos z, if_pos (by omega)]
        · rw [if_neg z, if_neg (by omega), if_neg (by omega), if_neg (by omega)]
      · rw [q3 x]
        by_cases z : (x : Int) < s 234 7
        · rw [if_pos z, if_pos (by omega)]
        · rw [if_neg z, if_neg (by omega)]
    · rw [if_neg c]
      have e6 : (sg_up (sg_up s 235 ((2 + l3).toNat) (s 240 ((l3).toNat))) 235 ((11 + l3).toNat) (s 239 ((l3).toNat))) 234 6 = s 234 6 := by rw [sg_na (by decide), sg_na (by decide)]
      have e7 : (sg_up (sg_up s 235 ((2 + l3).toNat) (s 240 ((l3).toNat))) 235 ((11 + l3).toNat) (s 239 ((l3).toNat))) 234 7 = s 234 7 := by rw [sg_na (by decide), sg_na (by decide)]
      obtain ⟨q1, q2, q3⟩ := ih (sg_up (sg_up s 235 ((2 + l3).toNat) (s 240 ((l3).toNat))) 235 ((11 + l3).toNat) (s 239 ((l3).toNat))) (l3 + 1) (by omega) (by omega) (by rw [e6]; exact h6) (by rw [e7]; exact h7) (by omega)
      rw [e6, e7] at q2
      rw [e7] at q3
      refine ⟨q1, fun k => ?_, fun x => ?_⟩
      · rw [q2 k]
        by_cases z : 101 ≤ (k : Int) ∧ (k : Int) < 101 + s 234 7
        · rw [if_pos z, if_pos z, sg_na (by decide), sg_na (by decide)]
        · rw [if_neg z, if_neg z]
          by_cases y : 2 + (l3 + 1) ≤ (k : Int) ∧ (k : Int) < 2 + s 234 6
          · rw [if_pos y, if_pos (by omega), sg_na (by decide), sg_na (by decide)]
          · rw [if_neg y]
            by_cases w : 11 + (l3 + 1) ≤ (k : Int) ∧ (k : Int) < 11 + s 234 6
            · rw [if_pos w, if_neg (by omega), if_pos (by omega), sg_na (by decide), sg_na (by decide)]
            · rw [if_neg w]
              by_cases v : (k : Int) = 2 + l3
              · rw [if_pos (by omega), sg_nk (by omega), show (2 + l3).toNat = k by omega, sg_eq, show l3.toNat = k - 2 by omega]
              · rw [if_neg (by omega)]
                by_cases u : (k : Int) = 11 + l3
                · rw [if_pos (by omega), show (11 + l3).toNat = k by omega, sg_eq, show l3.toNat = k - 11 by omega]
                · rw [if_neg (by omega), sg_nk (by omega), sg_nk (by omega)]
      · rw [q3 x, sg_na (by decide), sg_na (by decide), sg_na (by decide), sg_na (by decide)]
theorem rw89 (n : Nat) : ∀ (s : sg_S) (l2 l3 : Int), 0 ≤ l3 → l3 ≤ 112 → 0 ≤ s 234 19 → s 234 19 ≤ 9 → s 234 22 ≤ 5 → 112 - l3 < (n : Int) → (dc_R_city_89 n s l2 l3).1 234 2 = 0 ∧ (∀ k : Nat, (dc_R_city_89 n s l2 l3).1 235 k = if 101 ≤ (k : Int) ∧ (k : Int) < 101 + s 234 22 then s 241 (k - 101) else if 2 ≤ (k : Int) ∧ (k : Int) < 2 + s 234 19 then s 240 (k - 2) else if 11 ≤ (k : Int) ∧ (k : Int) < 11 + s 234 19 then s 239 (k - 11) else if k = 111 then l2 else if l3 ≤ (k : Int) ∧ k < 112 then 0 else s 235 k) ∧ (∀ x : Nat, (dc_R_city_89 n s l2 l3).1 237 x = if (x : Int) < s 234 22 then s 242 x else s 237 x) := by
  induction n with
  | zero => intro s l2 l3 h0 hx hz h6 h7 hn; exact absurd hn (by omega)
  | succ n ih =>
    intro s l2 l3 h0 hx hz h6 h7 hn
    rw [dc_R_city_89_s]
    by_cases c : 112 ≤ l3
    · rw [if_pos c]
      have e6 : (sg_up (sg_up (sg_up (sg_up (sg_up (sg_up s 235 111 l2) 234 3 (s 234 16)) 234 4 (s 234 17)) 234 5 (s 234 18)) 234 6 (s 234 19)) 234 7 (s 234 22)) 234 6 = s 234 19 := by rw [sg_nk (by decide), sg_eq]
      have e7 : (sg_up (sg_up (sg_up (sg_up (sg_up (sg_up s 235 111 l2) 234 3 (s 234 16)) 234 4 (s 234 17)) 234 5 (s 234 18)) 234 6 (s 234 19)) 234 7 (s 234 22)) 234 7 = s 234 22 := sg_eq _ _ _ _
      have eo : ∀ a k, a ≠ 234 → (sg_up (sg_up (sg_up (sg_up (sg_up (sg_up s 235 111 l2) 234 3 (s 234 16)) 234 4 (s 234 17)) 234 5 (s 234 18)) 234 6 (s 234 19)) 234 7 (s 234 22)) a k = sg_up s 235 111 l2 a k := fun a k ha => by rw [sg_na ha, sg_na ha, sg_na ha, sg_na ha, sg_na ha]
      obtain ⟨q1, q2, q3⟩ := rw158 10 (sg_up (sg_up (sg_up (sg_up (sg_up (sg_up s 235 111 l2) 234 3 (s 234 16)) 234 4 (s 234 17)) 234 5 (s 234 18)) 234 6 (s 234 19)) 234 7 (s 234 22)) 0 (by omega) (by omega) (by rw [e6]; exact h6) (by rw [e7]; exact h7) (by omega)
      rw [e6, e7] at q2
      rw [e7] at q3
      refine ⟨q1, fun k => ?_, fun x => ?_⟩
      · rw [q2 k, eo 241 _ (by decide), eo 240 _ (by decide), eo 239 _ (by decide), eo 235 _ (by decide), sg_na (by decide), sg_na (by decide), sg_na (by decide)]
        by_cases z : 101 ≤ (k : Int) ∧ (k : Int) < 101 + s 234 22
        · rw [if_pos z, if_pos z]
        · rw [if_neg z, if_neg z]
          by_cases y : 2 ≤ (k : Int) ∧ (k : Int) < 2 + s 234 19
          · rw [if_pos y, if_pos (by omega)]
          · rw [if_neg y, if_neg (by omega)]
            by_cases w : 11 ≤ (k : Int) ∧ (k : Int) < 11 + s 234 19
            · rw [if_pos w, if_pos (by omega)]
            · rw [if_neg w, if_neg (by omega)]
              by_cases v : k = 111
              · rw [if_pos v, v, sg_eq]
              · rw [if_neg v, if_neg (by omega), sg_nk v]
      · rw [q3 x, eo 242 _ (by decide), eo 237 _ (by decide), sg_na (by decide), sg_na (by decide)]
    · rw [if_neg c]
      obtain ⟨q1, q2, q3⟩ := ih (sg_up s 235 ((l3).toNat) 0) l2 (l3 + 1) (by omega) (by omega) (by rw [sg_na (by decide)]; exact hz) (by rw [sg_na (by decide)]; exact h6) (by rw [sg_na (by decide)]; exact h7) (by omega)
      have en : ∀ a k, a ≠ 235 → sg_up s 235 ((l3).toNat) 0 a k = s a k := fun a k ha => sg_na ha _ _ _
      rw [en 234 19 (by decide), en 234 22 (by decide)] at q2
      rw [en 234 22 (by decide)] at q3
      refine ⟨q1, fun k => ?_, fun x => ?_⟩
      · rw [q2 k, en 241 _ (by decide), en 240 _ (by decide), en 239 _ (by decide)]
        by_cases z : 101 ≤ (k : Int) ∧ (k : Int) < 101 + s 234 22
        · rw [if_pos z, if_pos z]
        · rw [if_neg z, if_neg z]
          by_cases y : 2 ≤ (k : Int) ∧ (k : Int) < 2 + s 234 19
          · rw [if_pos y, if_pos y]
          · rw [if_neg y, if_neg y]
            by_cases w : 11 ≤ (k : Int) ∧ (k : Int) < 11 + s 234 19
            · rw [if_pos w, if_pos w]
            · rw [if_neg w, if_neg w]
              by_cases v : k = 111
              · rw [if_pos v, if_pos v]
              · rw [if_neg v, if_neg v]
                by_cases u : (k : Int) = l3
                · rw [if_neg (by omega), if_pos (by omega), show l3.toNat = k by omega, sg_eq]
                · by_cases u2 : l3 + 1 ≤ (k : Int) ∧ k < 112
                  · rw [if_pos u2, if_pos (by omega)]
                  · rw [if_neg u2, if_neg (by omega), sg_nk (by omega)]
      · rw [q3 x, en 242 _ (by decide), en 237 _ (by decide)]
/-- the class's street at its beginning -/
theorem be_67 (n : Nat) : ∀ (s : sg_S) (l2 : Int), 0 ≤ l2 → l2 ≤ 5 → 5 - l2 < (n : Int) → dc_St_begin_67 n s l2 13 5 = 0 ∧ dc_St_begin_67 n s l2 13 6 = 0 ∧ (∀ x : Nat, dc_St_begin_67 n s l2 18 x = if l2 ≤ (x : Int) ∧ x < 5 then 0 else s 18 x) ∧ (∀ a k, a ≠ 13 → a ≠ 18 → dc_St_begin_67 n s l2 a k = s a k) := by
  induction n with
  | zero => intro s l2 h0 h5 hn; exact absurd hn (by omega)
  | succ n ih =>
    intro s l2 h0 h5 hn
    rw [dc_St_begin_67_s]
    by_cases c : 5 ≤ l2
    · rw [if_pos c]
      refine ⟨by rw [sg_nk (by decide), sg_eq], by rw [sg_eq], fun x => ?_, fun a k h1 h2 => by rw [sg_na h1, sg_na h1]⟩
      rw [if_neg (by omega), sg_na (by decide), sg_na (by decide)]
    · rw [if_neg c]
      obtain ⟨q1, q2, q3, q4⟩ := ih (sg_up s 18 ((l2).toNat) 0) (l2 + 1) (by omega) (by omega) (by omega)
      refine ⟨q1, q2, fun x => ?_, fun a k h1 h2 => by rw [q4 a k h1 h2, sg_na h2]⟩
      rw [q3 x]
      by_cases z : (x : Int) = l2
      · rw [if_neg (by omega), if_pos (by omega), show l2.toNat = x by omega, sg_eq]
      · by_cases y : l2 + 1 ≤ (x : Int) ∧ x < 5
        · rw [if_pos y, if_pos (by omega)]
        · rw [if_neg y, if_neg (by omega), sg_nk (by omega)]
theorem be_46 (n : Nat) : ∀ (s : sg_S) (l2 : Int), 0 ≤ l2 → l2 ≤ 9 → 9 - l2 < (n : Int) → dc_St_begin_46 n s l2 13 5 = 0 ∧ dc_St_begin_46 n s l2 13 6 = 0 ∧ (∀ x : Nat, x < 5 → dc_St_begin_46 n s l2 18 x = 0) ∧ (∀ x : Nat, dc_St_begin_46 n s l2 14 x = if l2 ≤ (x : Int) ∧ x < 9 then 0 else s 14 x) ∧ (∀ a k, a ≠ 13 → a ≠ 18 → a ≠ 14 → dc_St_begin_46 n s l2 a k = s a k) := by
  induction n with
  | zero => intro s l2 h0 h5 hn; exact absurd hn (by omega)
  | succ n ih =>
    intro s l2 h0 h5 hn
    rw [dc_St_begin_46_s]
    by_cases c : 9 ≤ l2
    · rw [if_pos c]
      obtain ⟨q1, q2, q3, q4⟩ := be_67 6 s 0 (by omega) (by omega) (by omega)
      refine ⟨q1, q2, fun x hx => by rw [q3 x, if_pos (by omega)], fun x => by rw [if_neg (by omega), q4 14 x (by decide) (by decide)], fun a k h1 h2 _ => q4 a k h1 h2⟩
    · rw [if_neg c]
      obtain ⟨q1, q2, q3, q4, q5⟩ := ih (sg_up s 14 ((l2).toNat) 0) (l2 + 1) (by omega) (by omega) (by omega)
      refine ⟨q1, q2, q3, fun x => ?_, fun a k h1 h2 h3 => by rw [q5 a k h1 h2 h3, sg_na h3]⟩
      rw [q4 x]
      by_cases z : (x : Int) = l2
      · rw [if_neg (by omega), if_pos (by omega), show l2.toNat = x by omega, sg_eq]
      · by_cases y : l2 + 1 ≤ (x : Int) ∧ x < 9
        · rw [if_pos y, if_pos (by omega)]
        · rw [if_neg y, if_neg (by omega), sg_nk (by omega)]
theorem be_all (S : sg_S) : cy_X S 13 5 = 0 ∧ cy_X S 13 6 = 0 ∧ (∀ x : Nat, x < 5 → cy_X S 18 x = 0) ∧ (∀ x : Nat, x < 9 → cy_X S 14 x = 0) ∧ (∀ k, cy_X S 15 k = S 5 k) ∧ (∀ k, cy_X S 16 k = S 4 k) ∧ (∀ k, cy_X S 17 k = S 6 k) ∧ (∀ k, cy_X S 12 k = S 7 k) := by
  have hf : ∀ a k, a ≠ 204 → a ≠ 19 → cy_X S a k = dc_St_begin (dc_Plan_copyFrom S) a k := fun a k h1 h2 => by
    unfold cy_X
    rw [dr_Im_forget _ a k (by show (a == 204) = false; simp [h1]), dr_Past_forget _ a k (by show (a == 19 && k == 2) = false; simp [h2])]
  obtain ⟨q1, q2, q3, q4, q5⟩ := be_46 10 (sg_cp (sg_cp (sg_cp (dc_Plan_copyFrom S) 10 15) 9 16) 11 17) 0 (by omega) (by omega) (by omega)
  have pl : ∀ k, dc_Plan_copyFrom S 9 k = S 4 k ∧ dc_Plan_copyFrom S 10 k = S 5 k ∧ dc_Plan_copyFrom S 11 k = S 6 k ∧ dc_Plan_copyFrom S 12 k = S 7 k := fun k => by
    unfold dc_Plan_copyFrom
    refine ⟨?_, ?_, ?_, ?_⟩
    · rw [sg_cpn (by decide), sg_cpn (by decide), sg_cpn (by decide), sg_cpd, sg_na (by decide), sg_na (by decide), sg_na (by decide), sg_na (by decide), sg_na (by decide)]
    · rw [sg_cpn (by decide), sg_cpn (by decide), sg_cpd, sg_cpn (by decide), sg_na (by decide), sg_na (by decide), sg_na (by decide), sg_na (by decide), sg_na (by decide)]
    · rw [sg_cpn (by decide), sg_cpd, sg_cpn (by decide), sg_cpn (by decide), sg_na (by decide), sg_na (by decide), sg_na (by decide), sg_na (by decide), sg_na (by decide)]
    · rw [sg_cpd, sg_cpn (by decide), sg_cpn (by decide), sg_cpn (by decide), sg_na (by decide), sg_na (by decide), sg_na (by decide), sg_na (by decide), sg_na (by decide)]
  refine ⟨(hf 13 5 (by decide) (by decide)).trans q1, (hf 13 6 (by decide) (by decide)).trans q2, fun x hx => (hf 18 x (by decide) (by decide)).trans (q3 x hx), fun x hx => (hf 14 x (by decide) (by decide)).trans ((q4 x).trans (if_pos (by omega))), fun k => ?_, fun k => ?_, fun k => ?_, fun k => ?_⟩
  · refine (hf 15 k (by decide) (by decide)).trans ((q5 15 k (by decide) (by decide) (by decide)).trans ?_)
    rw [sg_cpn (by decide), sg_cpn (by decide), sg_cpd]
    exact (pl k).2.1
  · refine (hf 16 k (by decide) (by decide)).trans ((q5 16 k (by decide) (by decide) (by decide)).trans ?_)
    rw [sg_cpn (by decide), sg_cpd, sg_cpn (by decide)]
    exact (pl k).1
  · refine (hf 17 k (by decide) (by decide)).trans ((q5 17 k (by decide) (by decide) (by decide)).trans ?_)
    rw [sg_cpd, sg_cpn (by decide), sg_cpn (by decide)]
    exact (pl k).2.2.1
  · refine (hf 12 k (by decide) (by decide)).trans ((q5 12 k (by decide) (by decide) (by decide)).trans ?_)
    rw [sg_cpn (by decide), sg_cpn (by decide), sg_cpn (by decide)]
    exact (pl k).2.2.2
theorem r2_city {s t : sg_S} (hs : sv s) (ht : sv t) (hT : tx_T s t) (h : r2 s t) : r2 (dc_C_city s).1 (dc_R_city t).1 := by
  have hb := st_b_of ht
  obtain ⟨s', t', e1, e2, e3⟩ := tx_all hT
  have S4 : dc_Text_readAll s 1 4 = s' 1 4 := by rw [e1, sg_nk (by decide)]
  have hR : ∀ a k, dw_R_takesClause a k = false → (sg_up t' 234 10 0) a k = if a = 234 ∧ k = 10 then 0 else t a k := fun a k q => by
    unfold sg_up
    by_cases z : a = 234 ∧ k = 10
    · rw [if_pos z, if_pos z]
    · rw [if_neg z, if_neg z]; exact e2 a k q
  rcases e3 with ⟨g1, g2, g3, g4⟩ | ⟨g1, g2, g3⟩
  · have hC : dc_C_city s = (dc_Text_readAll s, (-10) - dc_Text_readAll s 1 4) := if_neg (by rw [S4]; exact g1)
    rw [hC, g4]
    dsimp only
    refine r2_fr hb (fun a k ha _ => ?_) (fun k h1 h2 => ?_) (fun k => ?_) (fun k => ?_) (fun k _ => ?_) h
    · refine dr_Text_readAll s a k ?_
      have n1 : (a == 1) = false := by simp; omega
      have n3 : (a == 3) = false := by simp; omega
      have n4 : (a == 4) = false := by simp; omega
      have n5 : (a == 5) = false := by simp; omega
      have n6 : (a == 6) = false := by simp; omega
      have n7 : (a == 7) = false := by simp; omega
      simp [dw_Text_readAll, dw_Plan_clear, dw_Text_skipBlanks, dw_Text_readClause, dw_Text_readNumbersOf, dw_Text_readFirst, dw_Text_readNumber, dw_Text_fail, dw_Text_readEnd, dw_Plan_tellCity, dw_Plan_tellHouse, dw_Plan_tellSweep, n1, n3, n4, n5, n6, n7]
    · have hk : k = 2 ∨ k = 3 ∨ k = 4 ∨ k = 5 ∨ k = 6 ∨ k = 7 := by omega
      rcases hk with rfl | rfl | rfl | rfl | rfl | rfl <;> exact (hR 234 _ rfl).trans (if_neg (by decide))
    · exact (hR 236 k rfl).trans (if_neg (by omega))
    · exact (hR 237 k rfl).trans (if_neg (by omega))
    · exact (hR 235 k rfl).trans (if_neg (by omega))
  · have hC : dc_C_city s = ((sg_up (sg_up (cy_X (dc_Text_readAll s)) 217 3 0) 221 2 0), (cy_X (dc_Text_readAll s)) 8 3) := if_pos (by rw [S4]; exact g1)
    obtain ⟨hA, hD, h4, h5, h15⟩ := g2
    obtain ⟨d0, d1, d2, d3, d4, d5, d6, d7, d8, d9, d10⟩ := hD
    have c := cy_89 113 (sg_up t' 234 10 0) (t' 235 111) 0 (by omega) (by rw [sg_nk (by decide), ← d3]; exact d6) (by rw [sg_nk (by decide), ← d4]; exact d8) (by omega)
    obtain ⟨w1, w2, w3⟩ := rw89 113 (sg_up t' 234 10 0) (t' 235 111) 0 (by omega) (by omega) (by rw [sg_nk (by decide), ← d3]; exact d5) (by rw [sg_nk (by decide), ← d3]; exact d6) (by rw [sg_nk (by decide), ← d4]; exact d8) (by omega)
    rw [← g3] at c w1 w2 w3
    obtain ⟨c1, c2, c3, c4, c5, -, -, -, c9, c10, -⟩ := c
    rw [sg_nk (by decide)] at c1 c2 c3 c4 c5
    have T : ∀ a k, a ≠ 234 → (sg_up t' 234 10 0) a k = t' a k := fun a k ha => sg_na ha _ _ _
    have T19 : (sg_up t' 234 10 0) 234 19 = t' 234 19 := sg_nk (by decide) _ _ _
    have T22 : (sg_up t' 234 10 0) 234 22 = t' 234 22 := sg_nk (by decide) _ _ _
    rw [T19, T22] at w2
    rw [T22] at w3
    have SS : ∀ a k, a ≠ 1 → dc_Text_readAll s a k = s' a k := fun a k ha => by rw [e1, sg_na ha]
    obtain ⟨b1, b2, b3, b4, b5, b6, b7, b8⟩ := be_all (dc_Text_readAll s)
    have P := cy_plan (dc_Text_readAll s)
    have X8 : ∀ k, cy_X (dc_Text_readAll s) 8 k = dc_Plan_copyFrom (dc_Text_readAll s) 8 k := fun k => cy_Xf _ 8 k rfl rfl rfl
    have CC : ∀ a k, a ≠ 217 → a ≠ 221 → (dc_C_city s).1 a k = cy_X (dc_Text_readAll s) a k := fun a k h1 h2 => by
      rw [hC]
      show sg_up (sg_up (cy_X (dc_Text_readAll s)) 217 3 0) 221 2 0 a k = _
      rw [sg_na h2, sg_na h1]
    have C09 : (dc_C_city s).1 0 9 = s 0 9 := dr_C_city s 0 9 rfl
    have C191 : (dc_C_city s).1 19 1 = s 19 1 := dr_C_city s 19 1 rfl
    have C192 : (dc_C_city s).1 19 2 = 0 := by
      rw [CC 19 2 (by decide) (by decide)]
      unfold cy_X
      rw [dr_Im_forget _ 19 2 rfl]
      exact sg_eq _ _ _ _
    have row : ∀ p, p < 111 → (dc_R_city t).1 235 p = if 101 ≤ (p : Int) ∧ (p : Int) < 101 + t' 234 22 then t' 241 (p - 101) else if 2 ≤ (p : Int) ∧ (p : Int) < 2 + t' 234 19 then t' 240 (p - 2) else if 11 ≤ (p : Int) ∧ (p : Int) < 11 + t' 234 19 then t' 239 (p - 11) else 0 := fun p hp => by
      rw [w2 p, T 241 _ (by decide), T 240 _ (by decide), T 239 _ (by decide), if_neg (show ¬ p = 111 by omega), if_pos (show (0 : Int) ≤ (p : Int) ∧ p < 112 by omega)]
    have old := h.2.1
    refine ⟨⟨fun p hp => ?_, fun x l hx hl => ?_, fun x hx h9 => ?_⟩, ⟨?_, ?_, ?_, ?_, ?_, fun x hx => ?_⟩, fun i hi hk => ?_, ?_, fun x hx => ?_, ?_, ?_, ?_, ?_, ?_⟩
    · rw [c4, c5] at hp
      have h29 := st_vv (by rw [← d3]; exact d6) (by rw [← d4]; exact d8) hp
      have hp' := hp
      unfold st_v at hp'
      unfold st_r
      rw [show 112 * 0 + p = p by omega]
      by_cases z : 20 ≤ p ∧ p < 29
      · rw [if_pos z, row p (by omega), if_neg (by omega), if_neg (by omega), if_neg (by omega)]
        show st_c _ 13 p = 0
        unfold st_c
        rw [if_neg (by omega), if_neg (by omega), if_neg (by omega), if_neg (by omega), if_pos (by omega), CC _ _ (by decide) (by decide)]
        exact b4 (p - 20) (by omega)
      · rw [if_neg z, row p (by omega)]
        unfold st_c
        by_cases p0 : p = 0
        · rw [if_pos p0, if_neg (by omega), if_neg (by omega), if_neg (by omega), CC _ _ (by decide) (by decide)]; exact b1
        by_cases p1 : p = 1
        · rw [if_neg p0, if_pos p1, if_neg (by omega), if_neg (by omega), if_neg (by omega), CC _ _ (by decide) (by decide)]; exact b2
        by_cases p2 : p < 11
        · rw [if_neg p0, if_neg p1, if_pos p2, if_neg (by omega), if_pos (by omega), CC _ _ (by decide) (by decide)]
          exact (b5 (p - 2)).trans ((SS 5 _ (by decide)).trans (d9 (p - 2) (by omega)).2)
        by_cases p3 : p < 20
        · rw [if_neg p0, if_neg p1, if_neg p2, if_pos p3, if_neg (by omega), if_neg (by omega), if_pos (by omega), CC _ _ (by decide) (by decide)]
          exact (b6 (p - 11)).trans ((SS 4 _ (by decide)).trans (d9 (p - 11) (by omega)).1)
        by_cases p4 : p < 106
        · rw [if_neg p0, if_neg p1, if_neg p2, if_neg p3, if_neg (by omega), if_pos p4, if_pos (by omega), CC _ _ (by decide) (by decide)]
          exact (b7 (p - 101)).trans ((SS 6 _ (by decide)).trans (d10 (p - 101) (by omega)).1)
        · rw [if_neg p0, if_neg p1, if_neg p2, if_neg p3, if_neg (by omega), if_neg p4, if_neg (by omega), if_neg (by omega), if_neg (by omega), CC _ _ (by decide) (by decide)]
          exact b3 (p - 106) (by omega)
    · rw [c4] at hx
      rw [show 112 * 0 + (20 + x) = 20 + x by omega, row (20 + x) (by omega), if_neg (by omega), if_neg (by omega), if_neg (by omega)] at hl
      omega
    · exact (CC 14 x (by decide) (by decide)).trans (b4 x h9)
    · rw [C192, w1]
    · rw [C192]; omega
    · rw [C192]; omega
    · rw [C191]; exact old.2.2.2.1
    · rw [C191]; exact old.2.2.2.2.1
    · rw [C192] at hx; omega
    · exfalso
      apply hk
      match i, hi with
      | 0, _ => exact c9
      | 1, _ => exact c10
      | n + 2, hi => exact absurd hi (by omega)
    · rw [C09, w2 111, if_neg (by omega), if_neg (by omega), if_neg (by omega), if_pos rfl, e2 235 111 rfl]
      exact h.2.2.2.1
    · rw [c5] at hx
      rw [w3 x, if_pos hx, T 242 x (by decide), CC 12 x (by decide) (by decide)]
      exact (b8 x).trans ((SS 7 x (by decide)).trans (d10 x (by omega)).2)
    · rw [c1, CC 8 0 (by decide) (by decide), X8, P.1, SS 3 0 (by decide)]; exact d0
    · rw [c2, CC 8 1 (by decide) (by decide), X8, P.2.1, SS 3 1 (by decide)]; exact d1
    · rw [c3, CC 8 2 (by decide) (by decide), X8, P.2.2.1, SS 3 2 (by decide)]; exact d2
    · rw [c4, CC 8 3 (by decide) (by decide), X8, P.2.2.2.1, SS 3 3 (by decide)]; exact d3
    · rw [c5, CC 8 4 (by decide) (by decide), X8, P.2.2.2.2, SS 3 4 (by decide)]; exact d4
