/-! THE WHOLE TEXT, READ ON BOTH SIDES -/
theorem tx_Pskip {s t : sg_S} (hP : tx_P s t) : ∃ q : Int, s 1 3 ≤ q ∧ q ≤ s 1 2 ∧ dc_Text_skipBlanks s = sg_up s 1 3 q ∧ tx_P (sg_up s 1 3 q) (dc_R_here t).1 ∧ dc_R_letterAt (dc_R_here t).1 ((dc_R_here t).1 234 11) = (dc_R_here t).2 ∧ (dc_R_here t).2 ≠ 32 ∧ ((dc_R_here t).2 = -1 ↔ ¬ q < s 1 2) ∧ (dc_R_here t).1 234 12 = (dc_R_here t).1 234 11 := by
  obtain ⟨hA, hD, h4, h5, h15⟩ := hP
  obtain ⟨q, q1, q2, q3, q4, q5, q6, q7, q8⟩ := tx_skipA hA
  refine ⟨q, q1, q2, q3, ⟨q5, ?_, ?_, ?_, ?_⟩, q6, q7, q8, by rw [q4, sg_eq, sg_nk (by decide), sg_eq]⟩
  · obtain ⟨d0, d1, d2, d3, d4, d5, d6, d7, d8, d9, d10⟩ := hD
    refine ⟨?_, ?_, ?_, ?_, ?_, ?_, ?_, ?_, ?_, fun k hk => ?_, fun k hk => ?_⟩
    · rw [sg_na (by decide), dr_R_here _ 234 16 rfl]; exact d0
    · rw [sg_na (by decide), dr_R_here _ 234 17 rfl]; exact d1
    · rw [sg_na (by decide), dr_R_here _ 234 18 rfl]; exact d2
    · rw [sg_na (by decide), dr_R_here _ 234 19 rfl]; exact d3
    · rw [sg_na (by decide), dr_R_here _ 234 22 rfl]; exact d4
    · rw [sg_na (by decide)]; exact d5
    · rw [sg_na (by decide)]; exact d6
    · rw [sg_na (by decide)]; exact d7
    · rw [sg_na (by decide)]; exact d8
    · rw [sg_na (by decide)] at hk
      rw [sg_na (by decide), sg_na (by decide), dr_R_here _ 239 k rfl, dr_R_here _ 240 k rfl]
      exact d9 k hk
    · rw [sg_na (by decide)] at hk
      rw [sg_na (by decide), sg_na (by decide), dr_R_here _ 241 k rfl, dr_R_here _ 242 k rfl]
      exact d10 k hk
  · rw [sg_nk (by decide)]; exact h4
  · rw [sg_nk (by decide)]; exact h5
  · rw [dr_R_here _ 234 15 rfl]; exact h15
theorem tx_dwh {a k : Nat} (h : dw_R_takesClause a k = false) : dw_R_here a k = false := by
  cases q : dw_R_here a k
  · rfl
  · unfold dw_R_takesClause at h
    rw [q] at h
    simp at h
theorem tx_no {a k K : Nat} (h : dw_R_takesClause a k = false) (hK : dw_R_takesClause 234 K = true) : ¬ (a = 234 ∧ k = K) := fun q => by
  rw [q.1, q.2, hK] at h
  cases h
def tx_Z (C : sg_S) (r : sg_S × Int) (t : sg_S) : Prop := ∃ s' t' : sg_S, C = sg_up s' 1 2 0 ∧ (∀ a k, dw_R_takesClause a k = false → t' a k = t a k) ∧ ((s' 1 4 ≠ 0 ∧ s' 1 4 = t' 234 14 ∧ s' 1 5 = t' 234 15 ∧ r = (sg_up t' 234 10 0, (-10) - t' 234 14)) ∨ (s' 1 4 = 0 ∧ tx_P s' t' ∧ r = dc_R_city_89 113 (sg_up t' 234 10 0) (t' 235 111) 0))
theorem tx_Zt {C : sg_S} {r : sg_S × Int} {t u : sg_S} (h : tx_Z C r u) (e : ∀ a k, dw_R_takesClause a k = false → u a k = t a k) : tx_Z C r t := by
  obtain ⟨s', t', h1, h2, h3⟩ := h
  exact ⟨s', t', h1, fun a k q => (h2 a k q).trans (e a k q), h3⟩
theorem tx_loop (n : Nat) : ∀ (m : Nat) (s t : sg_S) (l1 : Int), tx_P s t → 0 ≤ l1 → l1 ≤ s 1 3 → 240 - l1 < (n : Int) → 241 - s 1 3 < (m : Int) → tx_Z (dc_Text_readAll_24 n s l1) (dc_R_city_42 m t 1) t := by
  induction n with
  | zero =>
    intro m s t l1 hP h0 h1 hn hm
    have := hP.1.2.2.2.1
    have := hP.1.2.2.2.2.1
    exact absurd hn (by omega)
  | succ n ih =>
    intro m s t l1 hP h0 h1 hn hm
    have b4 := hP.1.2.2.2.1
    have b5 := hP.1.2.2.2.2.1
    have h4 := hP.2.2.1
    obtain ⟨q, q1, q2, q3, q4, q5, q6, q7, q8⟩ := tx_Pskip hP
    cases m with
    | zero => exact absurd hm (by omega)
    | succ m =>
      rw [dc_Text_readAll_24_s, dc_R_city_42_s, if_neg (show ¬ (1 : Int) = 0 by decide)]
      have ok : (dc_R_here t).2 = -1 → tx_Z (sg_up (sg_up s 1 3 q) 1 2 0) (dc_R_city_89 113 (sg_up (dc_R_here t).1 234 10 0) (t 235 111) 0) t := fun _ => ⟨sg_up s 1 3 q, (dc_R_here t).1, rfl, fun a k z => dr_R_here t a k (tx_dwh z), Or.inr ⟨q4.2.2.1, q4, by rw [dr_R_here _ 235 111 rfl]⟩⟩
      by_cases c : (dc_R_here t).2 = -1
      · rw [if_pos c, if_neg (show ¬ (1 : Int) = 0 by decide)]
        have hq := q7.mp c
        have key := ok c
        by_cases c1 : 240 ≤ l1
        · rw [if_pos c1]
          have : q = s 1 3 := by omega
          rw [this, sg_upid] at key
          exact key
        · rw [if_neg c1, if_pos h4, q3, sg_eq, sg_nk (by decide), if_neg hq]
          exact key
      · rw [if_neg c]
        have hq : q < s 1 2 := by
          by_cases z : q < s 1 2
          · exact z
          · exact absurd (q7.mpr z) c
        rw [if_neg (show ¬ 240 ≤ l1 by omega), if_pos h4, q3, sg_eq, sg_nk (by decide), if_pos hq]
        have hcl := tx_cl q4 (by rw [sg_eq, sg_nk (by decide)]; exact hq) (by rw [q5]; exact q6) q8
        rcases hcl with hf | ⟨r1, r2, r3⟩
        · obtain ⟨f1, f2, f3, f4⟩ := hf
          rw [f1]
          cases m with
          | zero => exact absurd hm (by omega)
          | succ m =>
            cases n with
            | zero => exact absurd hn (by omega)
            | succ n =>
              rw [dc_Text_readAll_24_s, dc_R_city_42_s, if_pos rfl, if_pos rfl, if_neg f4, ite_self]
              exact ⟨_, _, rfl, fun a k z => (dr_R_takesClause _ a k z).trans (dr_R_here t a k (tx_dwh z)), Or.inl ⟨f4, f2, f3, rfl⟩⟩
        · rw [r1]
          rw [sg_eq] at r3
          exact tx_Zt (ih m _ _ (l1 + 1) r2 (by omega) (by omega) (by omega) (by omega)) (fun a k z => (dr_R_takesClause _ a k z).trans (dr_R_here t a k (tx_dwh z)))
/-- the text of both sides -/
def tx_T (s t : sg_S) : Prop := s 1 2 = t 234 10 ∧ 0 ≤ s 1 2 ∧ s 1 2 ≤ 240 ∧ ∀ k : Nat, (k : Int) < s 1 2 → s 2 k = t 238 k ∧ 0 ≤ t 238 k
theorem tx_all {s t : sg_S} (h : tx_T s t) : tx_Z (dc_Text_readAll s) (dc_R_city t) t := by
  obtain ⟨h1, h2, h3, h6⟩ := h
  unfold dc_Text_readAll dc_R_city dc_Plan_clear
  refine tx_Zt (u := (sg_up (sg_up (sg_up (sg_up (sg_up (sg_up (sg_up (sg_up t 234 11 0) 234 14 0) 234 15 (-1)) 234 16 0) 234 17 0) 234 18 0) 234 19 0) 234 22 0)) ?_ (fun a k z => ((if_neg (tx_no (K := 22) z rfl)).trans ((if_neg (tx_no (K := 19) z rfl)).trans ((if_neg (tx_no (K := 18) z rfl)).trans ((if_neg (tx_no (K := 17) z rfl)).trans ((if_neg (tx_no (K := 16) z rfl)).trans ((if_neg (tx_no (K := 15) z rfl)).trans ((if_neg (tx_no (K := 14) z rfl)).trans (if_neg (tx_no (K := 11) z rfl))))))))))
  refine tx_loop 241 242 _ _ 0 ⟨⟨?_, ?_, ?_, ?_, ?_, fun k hk => ?_⟩, ⟨?_, ?_, ?_, ?_, ?_, ?_, ?_, ?_, ?_, fun k hk => ?_, fun k hk => ?_⟩, ?_, ?_, ?_⟩ (by omega) ?_ (by omega) ?_
  · rw [sg_na (by decide), sg_na (by decide), sg_na (by decide), sg_na (by decide), sg_na (by decide), sg_nk (by decide), sg_nk (by decide), sg_eq, sg_nk (by decide), sg_nk (by decide), sg_nk (by decide), sg_nk (by decide), sg_nk (by decide), sg_nk (by decide), sg_nk (by decide), sg_eq]
  · rw [sg_na (by decide), sg_na (by decide), sg_na (by decide), sg_na (by decide), sg_na (by decide), sg_nk (by decide), sg_nk (by decide), sg_nk (by decide), sg_nk (by decide), sg_nk (by decide), sg_nk (by decide), sg_nk (by decide), sg_nk (by decide), sg_nk (by decide), sg_nk (by decide), sg_nk (by decide)]
    exact h1
  · rw [sg_na (by decide), sg_na (by decide), sg_na (by decide), sg_na (by decide), sg_na (by decide), sg_nk (by decide), sg_nk (by decide), sg_eq]; decide
  · rw [sg_na (by decide), sg_na (by decide), sg_na (by decide), sg_na (by decide), sg_na (by decide), sg_nk (by decide), sg_nk (by decide), sg_eq, sg_na (by decide), sg_na (by decide), sg_na (by decide), sg_na (by decide), sg_na (by decide), sg_nk (by decide), sg_nk (by decide), sg_nk (by decide)]
    exact h2
  · rw [sg_na (by decide), sg_na (by decide), sg_na (by decide), sg_na (by decide), sg_na (by decide), sg_nk (by decide), sg_nk (by decide), sg_nk (by decide)]
    exact h3
  · rw [sg_na (by decide), sg_na (by decide), sg_na (by decide), sg_na (by decide), sg_na (by decide), sg_nk (by decide), sg_nk (by decide), sg_nk (by decide)] at hk
    rw [sg_na (by decide), sg_na (by decide), sg_na (by decide), sg_na (by decide), sg_na (by decide), sg_na (by decide), sg_na (by decide), sg_na (by decide), sg_na (by decide), sg_na (by decide), sg_na (by decide), sg_na (by decide), sg_na (by decide), sg_na (by decide), sg_na (by decide), sg_na (by decide)]
    exact h6 k hk
  · rw [sg_nk (by decide), sg_nk (by decide), sg_nk (by decide), sg_nk (by decide), sg_eq, sg_nk (by decide), sg_nk (by decide), sg_nk (by decide), sg_nk (by decide), sg_eq]
  · rw [sg_nk (by decide), sg_nk (by decide), sg_nk (by decide), sg_eq, sg_nk (by decide), sg_nk (by decide), sg_nk (by decide), sg_eq]
  · rw [sg_nk (by decide), sg_nk (by decide), sg_eq, sg_nk (by decide), sg_nk (by decide), sg_eq]
  · rw [sg_nk (by decide), sg_eq, sg_nk (by decide), sg_eq]
  · rw [sg_eq, sg_eq]
  · rw [sg_nk (by decide), sg_eq]; decide
  · rw [sg_nk (by decide), sg_eq]; decide
  · rw [sg_eq]; decide
  · rw [sg_eq]; decide
  · rw [sg_nk (by decide), sg_eq] at hk; omega
  · rw [sg_eq] at hk; omega
  · rw [sg_na (by decide), sg_na (by decide), sg_na (by decide), sg_na (by decide), sg_na (by decide), sg_nk (by decide), sg_eq]
  · rw [sg_na (by decide), sg_na (by decide), sg_na (by decide), sg_na (by decide), sg_na (by decide), sg_eq]
  · rw [sg_nk (by decide), sg_nk (by decide), sg_nk (by decide), sg_nk (by decide), sg_nk (by decide), sg_eq]
  · rw [sg_na (by decide), sg_na (by decide), sg_na (by decide), sg_na (by decide), sg_na (by decide), sg_nk (by decide), sg_nk (by decide), sg_eq]; decide
  · rw [sg_na (by decide), sg_na (by decide), sg_na (by decide), sg_na (by decide), sg_na (by decide), sg_nk (by decide), sg_nk (by decide), sg_eq]; decide
