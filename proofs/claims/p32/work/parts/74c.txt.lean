/-! THE TEXT, READ ON BOTH SIDES -/
theorem sg_upup (s : sg_S) (a k : Nat) (x y : Int) : sg_up (sg_up s a k x) a k y = sg_up s a k y := by
  funext b l
  unfold sg_up
  (repeat' split) <;> rfl
theorem sg_upid (s : sg_S) (a k : Nat) : sg_up s a k (s a k) = s := by
  funext b l
  unfold sg_up
  split
  · rename_i q
    rw [q.1, q.2]
  · rfl
theorem sg_up4 (t : sg_S) (v x w e : Int) : sg_up (sg_up (sg_up (sg_up t 234 13 v) 234 11 x) 234 13 w) 234 11 e = sg_up (sg_up t 234 13 w) 234 11 e := by
  funext b l
  unfold sg_up
  by_cases q1 : b = 234 ∧ l = 11
  · rw [if_pos q1, if_pos q1]
  · by_cases q2 : b = 234 ∧ l = 13
    · simp only [if_neg q1, if_pos q2]
    · simp only [if_neg q1, if_neg q2]
def tx_A (s t : sg_S) : Prop := s 1 3 = t 234 11 ∧ s 1 2 = t 234 10 ∧ 0 ≤ s 1 3 ∧ s 1 3 ≤ s 1 2 ∧ s 1 2 ≤ 240 ∧ ∀ k : Nat, (k : Int) < s 1 2 → s 2 k = t 238 k ∧ 0 ≤ t 238 k
theorem tx_mk {s t s' t' : sg_S} (h : tx_A s t) (e1 : s' 1 3 = t' 234 11) (b0 : 0 ≤ s' 1 3) (b1 : s' 1 3 ≤ s 1 2) (e2 : s' 1 2 = s 1 2) (e3 : t' 234 10 = t 234 10) (e4 : ∀ k, s' 2 k = s 2 k) (e5 : ∀ k, t' 238 k = t 238 k) : tx_A s' t' := by
  obtain ⟨h1, h2, h3, h4, h5, h6⟩ := h
  refine ⟨e1, by rw [e2, e3]; exact h2, b0, by rw [e2]; exact b1, by rw [e2]; exact h5, fun k hk => ?_⟩
  rw [e4, e5]
  exact h6 k (by rw [← e2]; exact hk)
theorem tx_go {s t : sg_S} (h : tx_A s t) {e : Int} (h1 : s 1 3 ≤ e) (h2 : e ≤ s 1 2) : tx_A (sg_up s 1 3 e) (sg_up t 234 11 e) := by
  have := h.2.2.1
  refine tx_mk h (by rw [sg_eq, sg_eq]) (by rw [sg_eq]; omega) (by rw [sg_eq]; exact h2) (sg_nk (by decide) _ _ _) (sg_nk (by decide) _ _ _) (fun k => sg_na (by decide) _ _ _) (fun k => sg_na (by decide) _ _ _)
theorem tx_let {s t : sg_S} (h : tx_A s t) : dc_Text_letter s = dc_R_letterAt t (t 234 11) ∧ 0 ≤ dc_R_letterAt t (t 234 11) ∧ s 1 3 < s 1 2 ∧ dc_R_letterAt t (t 234 11) = t 238 (s 1 3).toNat ∨ dc_Text_letter s = 0 ∧ dc_R_letterAt t (t 234 11) = -1 ∧ s 1 3 = s 1 2 := by
  obtain ⟨h1, h2, h3, h4, h5, h6⟩ := h
  unfold dc_Text_letter dc_R_letterAt
  rw [if_neg (show ¬ s 1 3 < 0 by omega), ← h1, ← h2]
  by_cases c : s 1 2 ≤ s 1 3
  · right
    rw [if_pos c, if_pos c]
    exact ⟨rfl, rfl, by omega⟩
  · left
    have := h6 (s 1 3).toNat (by omega)
    rw [if_neg c, if_neg c, if_neg (by omega)]
    exact ⟨this.1, this.2, by omega, rfl⟩
theorem tx_skip0 (n : Nat) : ∀ (m : Nat) (s t : sg_S) (l1 : Int), tx_A s t → l1 ≤ s 1 3 → s 1 2 - s 1 3 < (n : Int) → s 1 2 - s 1 3 < (m : Int) → ∃ q : Int, s 1 3 ≤ q ∧ q ≤ s 1 2 ∧ dc_Text_skipBlanks_2 n s l1 = sg_up s 1 3 q ∧ (dc_R_here_0 m t).1 = sg_up (sg_up t 234 11 q) 234 12 q ∧ (dc_R_here_0 m t).2 = (if q < s 1 2 then t 238 q.toNat else -1) ∧ (dc_R_here_0 m t).2 ≠ 32 := by
  induction n with
  | zero => intro m s t l1 h h1 hn hm; have := h.2.2.2.1; exact absurd hn (by omega)
  | succ n ih =>
    intro m s t l1 h h1 hn hm
    have b3 := h.2.2.1
    have b4 := h.2.2.2.1
    have b5 := h.2.2.2.2.1
    cases m with
    | zero => exact absurd hm (by omega)
    | succ m =>
      rw [dc_Text_skipBlanks_2_s, dc_R_here_0_s]
      have hl := tx_let h
      have e1 := h.1
      by_cases c : dc_R_letterAt t (t 234 11) = 32
      · have hlt : s 1 3 < s 1 2 := by omega
        rw [if_neg (show ¬ 240 ≤ l1 by omega), if_pos (show dc_Text_letter s = 32 by omega), if_pos c, sy_w_id ⟨by omega, by omega⟩, ← e1]
        obtain ⟨q, q1, q2, q3, q4, q5, q6⟩ := ih m _ _ (l1 + 1) (tx_go h (e := s 1 3 + 1) (by omega) (by omega)) (by rw [sg_eq]; omega) (by rw [sg_eq, sg_nk (by decide)]; omega) (by rw [sg_eq, sg_nk (by decide)]; omega)
        rw [sg_eq] at q1
        rw [sg_nk (by decide)] at q2 q5
        rw [sg_na (by decide)] at q5
        rw [sg_upup] at q3 q4
        exact ⟨q, by omega, q2, q3, q4, q5, q6⟩
      · rw [if_neg c]
        refine ⟨s 1 3, by omega, b4, ?_, ?_, ?_, ?_⟩
        · rw [sg_upid]
          split
          · rfl
          · rw [if_neg (by omega)]
        · dsimp only
          rw [e1, sg_upid]
        · dsimp only
          unfold dc_R_letterAt
          rw [sg_nk (by decide), sg_na (by decide), ← e1, ← h.2.1]
          by_cases q : s 1 2 ≤ s 1 3
          · rw [if_pos q, if_neg (by omega)]
          · rw [if_neg q, if_pos (by omega)]
        · have : dc_R_letterAt (sg_up t 234 12 (t 234 11)) (t 234 11) = dc_R_letterAt t (t 234 11) := by
            unfold dc_R_letterAt
            rw [sg_nk (by decide), sg_na (by decide)]
          dsimp only
          rw [this]
          exact c
theorem tx_skip {s t : sg_S} (h : tx_A s t) : ∃ q : Int, s 1 3 ≤ q ∧ q ≤ s 1 2 ∧ dc_Text_skipBlanks s = sg_up s 1 3 q ∧ (dc_R_here t).1 = sg_up (sg_up t 234 11 q) 234 12 q ∧ (dc_R_here t).2 = (if q < s 1 2 then t 238 q.toNat else -1) ∧ (dc_R_here t).2 ≠ 32 := by
  obtain ⟨-, -, h3, h4, h5, -⟩ := id h
  exact tx_skip0 241 241 s t 0 h (by omega) (by omega) (by omega)
/-! numbers -/
def tx_C (s : sg_S) (top st e v : Int) : sg_S × Int := if e - st = 0 then (dc_Text_fail (sg_up s 1 3 e) 1 st, v) else if 3 < e - st then (dc_Text_fail (sg_up s 1 3 e) 2 st, v) else if v ≤ top then (sg_up s 1 3 e, v) else (dc_Text_fail (sg_up s 1 3 e) 2 st, v)
def tx_R (t : sg_S) (high st e v : Int) : sg_S × Int := if 4 ≤ e - st then ((dc_R_fails (sg_up (sg_up t 234 13 v) 234 11 e) 2 st).1, 0) else if v ≤ high then (sg_up (sg_up t 234 13 v) 234 11 e, 1) else ((dc_R_fails (sg_up (sg_up t 234 13 v) 234 11 e) 2 st).1, 0)
theorem tx_num0 (n : Nat) : ∀ (m : Nat) (s t : sg_S) (top st v high : Int), tx_A s t → t 234 12 = st → 0 ≤ st → st ≤ s 1 3 → v = t 234 13 → 0 ≤ v → v ≤ 999 → (s 1 3 = st → v = 0) → (s 1 3 = st + 1 → v ≤ 9) → (s 1 3 = st + 2 → v ≤ 99) → s 1 2 - s 1 3 < (n : Int) → s 1 2 - s 1 3 < (m : Int) → ∃ e w : Int, s 1 3 ≤ e ∧ e ≤ s 1 2 ∧ 0 ≤ w ∧ w ≤ 999 ∧ (dc_R_in t (dc_R_letterAt t (t 234 11)) 48 57 = 0 → e = s 1 3 ∧ w = v) ∧ (dc_R_in t (dc_R_letterAt t (t 234 11)) 48 57 = 0 ∨ s 1 3 < e) ∧ dc_Text_readNumber_13 n s top st v (s 1 3 - st) (s 1 3 - st) = tx_C s top st e w ∧ dc_R_takesNumber_32 m t 0 high = tx_R t high st e w := by
  induction n with
  | zero => intro m s t top st v high h _ _ _ _ _ _ _ _ _ hn _; have := h.2.2.2.1; exact absurd hn (by omega)
  | succ n ih =>
    intro m s t top st v high h h12 hs0 hs hv v0 v9 g0 g1 g2 hn hm
    have b4 := h.2.2.2.1
    have b5 := h.2.2.2.2.1
    cases m with
    | zero => exact absurd hm (by omega)
    | succ m =>
      rw [dc_Text_readNumber_13_s, dc_R_takesNumber_32_s]
      have hl := tx_let h
      have e1 := h.1
      by_cases c : dc_R_in t (dc_R_letterAt t (t 234 11)) 48 57 = 0
      · have hf : dc_Text_isFigure s (dc_Text_letter s) = 0 := by
          unfold dc_R_in at c
          unfold dc_Text_isFigure
          (repeat' split at c) <;> (repeat' split) <;> omega
        refine ⟨s 1 3, v, by omega, b4, v0, v9, fun _ => ⟨rfl, rfl⟩, Or.inl c, ?_, ?_⟩
        · rw [if_pos hf, ite_self]
          unfold tx_C
          rw [sg_upid]
        · rw [if_pos c, h12, ← e1, ← hv]
          unfold tx_R
          have eT : sg_up (sg_up t 234 13 v) 234 11 (s 1 3) = t := by
            rw [hv, sg_upid, e1, sg_upid]
          rw [eT]
          by_cases q : 4 ≤ s 1 3 - st
          · rw [if_pos q, if_pos q]
            exact if_pos rfl
          · rw [if_neg q, if_neg q]
            by_cases q2 : v ≤ high
            · rw [if_neg (eq_in1 ⟨v0, q2⟩), if_pos q2]
            · rw [if_pos (eq_in0 (by omega)), if_neg q2]
              exact if_pos rfl
      · have hd : 48 ≤ dc_R_letterAt t (t 234 11) ∧ dc_R_letterAt t (t 234 11) ≤ 57 := by
          have := df_R_in_0 t (dc_R_letterAt t (t 234 11)) 48 57
          omega
        have hf : ¬ dc_Text_isFigure s (dc_Text_letter s) = 0 := by
          unfold dc_Text_isFigure
          (repeat' split) <;> omega
        have hlt : s 1 3 < s 1 2 := by omega
        have hlc : dc_Text_letter s = dc_R_letterAt t (t 234 11) := by omega
        rw [if_neg (show ¬ 240 ≤ s 1 3 - st by omega), if_neg hf, if_neg c, h12, ← e1, hlc, sy_w_id (z := s 1 3 + 1) ⟨by omega, by omega⟩]
        rw [e1]
        generalize hL : dc_R_letterAt t (t 234 11) = L at hd ⊢
        have key : ∀ v' : Int, 0 ≤ v' → v' ≤ 999 → (t 234 11 + 1 = st + 1 → v' ≤ 9) → (t 234 11 + 1 = st + 2 → v' ≤ 99) → ∃ e w : Int, t 234 11 ≤ e ∧ e ≤ s 1 2 ∧ 0 ≤ w ∧ w ≤ 999 ∧ t 234 11 < e ∧ dc_Text_readNumber_13 n (sg_up s 1 3 (t 234 11 + 1)) top st v' (t 234 11 - st + 1) (t 234 11 - st + 1) = tx_C s top st e w ∧ dc_R_takesNumber_32 m (sg_up (sg_up t 234 13 v') 234 11 (t 234 11 + 1)) 0 high = tx_R t high st e w := by
          intro v' w0 w9 k1 k2
          have hA : tx_A (sg_up s 1 3 (t 234 11 + 1)) (sg_up (sg_up t 234 13 v') 234 11 (t 234 11 + 1)) := by
            refine tx_mk h (by rw [sg_eq, sg_eq]) (by rw [sg_eq]; omega) (by rw [sg_eq]; omega) (sg_nk (by decide) _ _ _) (by rw [sg_nk (by decide), sg_nk (by decide)]) (fun k => sg_na (by decide) _ _ _) (fun k => by rw [sg_na (by decide), sg_na (by decide)])
          obtain ⟨e, w, q1, q2, q3, q4, -, -, q5, q6⟩ := ih m _ _ top st v' high hA (by rw [sg_nk (by decide), sg_nk (by decide)]; exact h12) hs0 (by rw [sg_eq]; omega) (by rw [sg_nk (by decide), sg_eq]) w0 w9 (by rw [sg_eq]; omega) (by rw [sg_eq]; exact k1) (by rw [sg_eq]; exact k2) (by rw [sg_eq, sg_nk (by decide)]; omega) (by rw [sg_eq, sg_nk (by decide)]; omega)
          rw [sg_eq] at q1 q5
          rw [sg_nk (by decide)] at q2
          rw [show t 234 11 + 1 - st = t 234 11 - st + 1 by omega] at q5
          refine ⟨e, w, by omega, q2, q3, q4, by omega, ?_, ?_⟩
          · rw [q5]
            unfold tx_C
            rw [sg_upup]
          · rw [q6]
            unfold tx_R
            rw [sg_up4]
        by_cases q : 3 ≤ t 234 11 - st
        · rw [if_pos (show 3 < t 234 11 - st + 1 by omega), if_pos q, ← hv]
          obtain ⟨e, w, q1, q2, q3, q4, q5, q6, q7⟩ := key v v0 v9 (by omega) (by omega)
          exact ⟨e, w, q1, q2, q3, q4, fun z => absurd z (by rw [← hL]; exact c), Or.inr q5, q6, q7⟩
        · rw [if_neg (show ¬ 3 < t 234 11 - st + 1 by omega), if_neg q, ← hv, sy_w_id (by omega), show 10 * v + L - 48 = v * 10 + (L - 48) by omega]
          obtain ⟨e, w, q1, q2, q3, q4, q5, q6, q7⟩ := key (v * 10 + (L - 48)) (by omega) (by omega) (by omega) (by omega)
          exact ⟨e, w, q1, q2, q3, q4, fun z => absurd z (by rw [← hL]; exact c), Or.inr q5, q6, q7⟩
theorem tx_num {s t : sg_S} (h : tx_A s t) (top high : Int) : ∃ q e v : Int, s 1 3 ≤ q ∧ q ≤ e ∧ e ≤ s 1 2 ∧ 0 ≤ v ∧ v ≤ 999 ∧ dc_Text_skipBlanks s = sg_up s 1 3 q ∧ dc_Text_readNumber (sg_up s 1 3 q) top = tx_C s top q e v ∧ (e = q → (dc_R_takesNumber t 0 high).2 = 0 ∧ (dc_R_takesNumber t 0 high).1 234 14 = 1 ∧ (dc_R_takesNumber t 0 high).1 234 15 = q) ∧ (q < e → (4 ≤ e - q ∨ high < v) → (dc_R_takesNumber t 0 high).2 = 0 ∧ (dc_R_takesNumber t 0 high).1 234 14 = 2 ∧ (dc_R_takesNumber t 0 high).1 234 15 = q) ∧ (q < e → e - q ≤ 3 → v ≤ high → (dc_R_takesNumber t 0 high).2 = 1 ∧ (dc_R_takesNumber t 0 high).1 234 11 = e ∧ (dc_R_takesNumber t 0 high).1 234 12 = q ∧ (dc_R_takesNumber t 0 high).1 234 13 = v ∧ (dc_R_takesNumber t 0 high).1 234 15 = t 234 15) := by
  obtain ⟨q, q1, q2, q3, q4, q5, q6⟩ := tx_skip h
  have h0 := h.2.2.1
  have h5 := h.2.2.2.2.1
  have hA : tx_A (sg_up s 1 3 q) (sg_up (dc_R_here t).1 234 13 0) := by
    rw [q4]
    refine tx_mk h (by rw [sg_eq, sg_nk (by decide), sg_nk (by decide), sg_eq]) (by rw [sg_eq]; omega) (by rw [sg_eq]; exact q2) (sg_nk (by decide) _ _ _) (by rw [sg_nk (by decide), sg_nk (by decide), sg_nk (by decide)]) (fun k => sg_na (by decide) _ _ _) (fun k => by rw [sg_na (by decide), sg_na (by decide), sg_na (by decide)])
  have ha : (sg_up (dc_R_here t).1 234 13 0) 234 11 = q := by rw [q4, sg_nk (by decide), sg_nk (by decide), sg_eq]
  have h12 : (sg_up (dc_R_here t).1 234 13 0) 234 12 = q := by rw [q4, sg_nk (by decide), sg_eq]
  have h12' : (dc_R_here t).1 234 12 = q := by rw [q4, sg_eq]
  have hc : dc_R_letterAt (sg_up (dc_R_here t).1 234 13 0) q = (dc_R_here t).2 := by
    rw [q5]
    unfold dc_R_letterAt
    rw [q4, sg_nk (by decide), sg_nk (by decide), sg_nk (by decide), sg_na (by decide), sg_na (by decide), sg_na (by decide), ← h.2.1]
    by_cases c : s 1 2 ≤ q
    · rw [if_pos c, if_neg (by omega)]
    · rw [if_neg c, if_pos (by omega)]
  obtain ⟨e, w, e1, e2, e3, e4, e5, e6, e7, e8⟩ := tx_num0 241 241 _ _ top q 0 high hA h12 (by omega) (by rw [sg_eq]; omega) (by rw [sg_eq]) (by omega) (by omega) (by omega) (by omega) (by omega) (by rw [sg_eq, sg_nk (by decide)]; omega) (by rw [sg_eq, sg_nk (by decide)]; omega)
  rw [ha, hc] at e5 e6
  rw [sg_eq] at e1 e5 e6 e7
  rw [sg_nk (by decide)] at e2
  have hin : dc_R_in (sg_up (dc_R_here t).1 234 13 0) ((dc_R_here t).2) 48 57 = dc_R_in (dc_R_here t).1 ((dc_R_here t).2) 48 57 := rfl
  rw [hin] at e5 e6
  refine ⟨q, e, w, q1, e1, e2, e3, e4, q3, ?_, ?_, ?_, ?_⟩
  · unfold dc_Text_readNumber
    rw [sg_eq]
    rw [show q - q = 0 by omega] at e7
    rw [e7]
    unfold tx_C
    rw [sg_upup]
  · intro hq
    have c : dc_R_in (dc_R_here t).1 ((dc_R_here t).2) 48 57 = 0 := by omega
    have : dc_R_takesNumber t 0 high = ((dc_R_fails (dc_R_here t).1 1 ((dc_R_here t).1 234 12)).1, (dc_R_fails (dc_R_here t).1 1 ((dc_R_here t).1 234 12)).2) := if_pos c
    rw [this, h12']
    refine ⟨rfl, ?_, ?_⟩
    · show sg_up (sg_up (dc_R_here t).1 234 14 1) 234 15 q 234 14 = 1
      rw [sg_nk (by decide), sg_eq]
    · show sg_up (sg_up (dc_R_here t).1 234 14 1) 234 15 q 234 15 = q
      rw [sg_eq]
  · intro hq hh
    have c : ¬ dc_R_in (dc_R_here t).1 ((dc_R_here t).2) 48 57 = 0 := fun z => by have := e5 z; omega
    have hr : dc_R_takesNumber t 0 high = tx_R (sg_up (dc_R_here t).1 234 13 0) high q e w := (if_neg c).trans e8
    have hf : ∀ X : sg_S, (dc_R_fails X 2 q).1 234 14 = 2 ∧ (dc_R_fails X 2 q).1 234 15 = q := fun X => by
      constructor
      · show sg_up (sg_up X 234 14 2) 234 15 q 234 14 = 2
        rw [sg_nk (by decide), sg_eq]
      · show sg_up (sg_up X 234 14 2) 234 15 q 234 15 = q
        rw [sg_eq]
    rw [hr]
    unfold tx_R
    by_cases d : 4 ≤ e - q
    · rw [if_pos d]
      exact ⟨rfl, hf _⟩
    · rw [if_neg d, if_neg (by omega)]
      exact ⟨rfl, hf _⟩
  · intro hq hd hh
    have c : ¬ dc_R_in (dc_R_here t).1 ((dc_R_here t).2) 48 57 = 0 := fun z => by have := e5 z; omega
    have hr : dc_R_takesNumber t 0 high = tx_R (sg_up (dc_R_here t).1 234 13 0) high q e w := (if_neg c).trans e8
    rw [hr]
    unfold tx_R
    rw [if_neg (by omega), if_pos hh]
    dsimp only
    refine ⟨rfl, sg_eq _ _ _ _, ?_, ?_, ?_⟩
    · rw [sg_nk (by decide), sg_nk (by decide)]; exact h12
    · rw [sg_nk (by decide), sg_eq]
    · rw [sg_nk (by decide), sg_nk (by decide), sg_nk (by decide), q4, sg_nk (by decide), sg_nk (by decide)]
